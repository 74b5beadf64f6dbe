/-! The line discipline, on. -/
section D
variable {N h b : Nat} {c0 r0 c r c' r' : xA} {x y : Int32}
theorem xA_ext {a b : xA} (h : ∀ p i, a p i = b p i) : a = b := funext fun p => funext fun i => h p i
theorem e_size {o : Nat} {a : xA} (hk : xk o = 1) : f163_size N h b o a = some (a o 2, a) := by
  unfold f163_size
  rw [xg_pos hk]
theorem e_clear {o : Nat} {a : xA} (hk : xk o = 1) : f165_clear N h b o a = some (xU a o 2 0) := by
  unfold f165_clear
  rw [xg_pos hk]
  rfl
theorem e_get {o cap : Nat} {a : xA} (hk : xk o = 1) (hl : xl h b (o + 1) = cap) (h0 : 0 < cap) (hc : cap < 2 ^ 30) (h1 : 0 ≤ a o 1) (h2 : (a o 1).toNatClampNeg < cap) (h3 : 0 ≤ a o 2) (h4 : (a o 2).toNatClampNeg ≤ cap) :
    f164_get N h b o x a = some (if x < 0 ∨ a o 2 ≤ x then -1 else a (o + 1) (((a o 1).toNatClampNeg + x.toNatClampNeg) % cap), a) := by
  unfold f164_get j164_12
  rw [xg_pos hk, hl]
  by_cases q : x < 0
  · rw [if_pos q, if_pos (Or.inl q)]
  · rw [if_neg q]
    by_cases q2 : x < a o 2
    · rw [if_pos q2, if_neg (fun z => z.elim q (fun z => absurd q2 (Int32.not_lt.mpr z)))]
      obtain ⟨X, hX, eX, fX⟩ := i_nat h1
      obtain ⟨Y, hY, eY, fY⟩ := i_nat (Int32.not_lt.mp q)
      rw [fX, fY]
      have lX : X < cap := by omega
      have lY : Y < cap := by
        rw [cl_lt (Int32.not_lt.mp q)] at q2
        omega
      have e0 : ¬ Int32.ofNat cap = 0 := by
        have e : (0 : Int32) = Int32.ofNat 0 := rfl
        rw [e, i_eq (by omega) (by decide)]
        omega
      have e1 : a o 1 + x - (a o 1 + x) / Int32.ofNat cap * Int32.ofNat cap = Int32.ofNat ((X + Y) % cap) := by
        rw [eX, eY, ← Int32.ofNat_add, i_modn (by omega) (by omega)]
      have lm : (X + Y) % cap < cap := Nat.mod_lt _ h0
      rw [xg_pos e0, e1, i_cl (by omega), xg_pos (by rw [i_neg (by omega)]; rintro (z | z); exact z; exact absurd lm (by omega))]
    · rw [if_neg q2, if_pos (Or.inr (Int32.not_lt.mp q2))]
/-- what is edited: get and takeLast -/
theorem e_gete (he : De c r) (h1 : 0 ≤ x) (h2 : x < c 119 2) : f164_get N h b 119 x c = some (c 120 x.toNatClampNeg, c) := by
  unfold De at he
  obtain ⟨k1, k2, k3, k4, k5, k6⟩ := he
  have k4' := cl_le (n := 100) k4 rfl
  rw [cl_lt h1] at h2
  rw [e_get (cap := 100) rfl rfl (by decide) (by decide) (by rw [k1]; decide) (by rw [k1]; decide) k3 (cl_le k4 rfl), if_neg (by rw [← cl_lt h1] at h2; grind), k1]
  have e0 : (0 : Int32).toNatClampNeg = 0 := rfl
  rw [e0, Nat.zero_add, Nat.mod_eq_of_lt (by omega)]
theorem e_tlast (he : De c r) (h2 : 0 < c 119 2) : f187_takeLast N h b 119 c = some (c 120 (c 119 2 - 1).toNatClampNeg, xU c 119 2 (c 119 2 - 1)) := by
  unfold f187_takeLast
  have he' := he
  unfold De at he'
  rw [xg_pos xk119, e_gete he (by grind) (by grind), b2_some, if_neg (by grind)]
  rfl
theorem e_keep {a : xA} (h1 : 0 ≤ a 157 67) (h2 : a 157 67 < 300) : f354_keep N h b x a = some (xU (xU a 186 (a 157 67).toNatClampNeg x) 157 67 (a 157 67 + 1)) := by
  unfold f354_keep
  rw [xg_pos (i_ix (n := 300) h1 (by grind [toI]))]
  unfold xw
  dsimp only
  rw [xU_o (by decide)]
theorem RD_radd (hR : RD c0 r0 c r) (hl : c 121 2 < 300) (hy : By x ∨ x = 256) : RD c0 r0 (xU (xU c 122 (((c 121 1).toNatClampNeg + (c 121 2).toNatClampNeg) % 300) x) 121 2 (c 121 2 + 1)) (xU (xU r 186 (r 157 67).toNatClampNeg x) 157 67 (r 157 67 + 1)) := by
  obtain ⟨f1, s1, q1, e1, r1⟩ := hR
  refine ⟨Df_u (Df_u f1 (by decide) (by omega)) (by decide) (by decide), Ds_of s1 rfl (fun i h1 h2 => xU_s (by omega)), Dq_of q1 rfl rfl (xU_s (by decide)) (xU_s (by decide)) rfl, De_of e1 rfl rfl (xU_s (by decide)) rfl, ?_⟩
  unfold Dr RB at *
  obtain ⟨⟨k1, k0⟩, k2, k3, k4, k5, k6⟩ := r1
  have a1 := cl_s k4 hl
  have a2 : (c 121 2).toNatClampNeg < 300 := by rw [cl_lt k4] at hl; exact hl
  refine ⟨⟨?_, fun i => ?_⟩, ?_, ?_, ?_, ?_, ?_⟩
  · rw [xU_e, xU_e, k1]
  · rw [xU_o (by decide), xU_eq]; split; exact hy; exact k0 i
  · simpa [xU_eq] using k2
  · simpa [xU_eq] using k3
  · rw [xU_e]; grind
  · rw [xU_e, a1]; omega
  · intro i hi
    rw [xU_e, a1] at hi
    have k6' : ∀ i : Nat, i < (c 121 2).toNatClampNeg → c 122 (((c 121 1).toNatClampNeg + i) % 300) = r 186 i := k6
    show xU (xU c 122 _ x) 121 2 _ 122 _ = xU (xU r 186 _ x) 157 67 _ 186 i
    rw [xU_o (show (122 : Nat) ≠ 121 by decide), xU_o (show (186 : Nat) ≠ 157 by decide), xU_s (show (1 : Nat) ≠ 2 by decide), xU_o (show (121 : Nat) ≠ 122 by decide), xU_eq, xU_eq, ← k1]
    by_cases z : i = (c 121 2).toNatClampNeg
    · rw [if_pos ⟨rfl, by rw [z]⟩, if_pos ⟨rfl, z⟩]
    · rw [if_neg (by omega), if_neg (by omega)]
      exact k6' i (by omega)
theorem e_radd (hr : Dr c r) (hl : c 121 2 < 300) : f156_add N h b 121 x c = some (1, xU (xU c 122 (((c 121 1).toNatClampNeg + (c 121 2).toNatClampNeg) % 300) x) 121 2 (c 121 2 + 1)) := by
  unfold Dr RB at hr
  rw [e_add (cap := 300) rfl rfl (by decide) (by decide) hr.2.1 hr.2.2.1 hr.2.2.2.1 hr.2.2.2.2.1]
  exact if_pos hl
theorem e_raddn (hr : Dr c r) (hl : ¬ c 121 2 < 300) : f156_add N h b 121 x c = some (0, c) := by
  unfold Dr RB at hr
  rw [e_add (cap := 300) rfl rfl (by decide) (by decide) hr.2.1 hr.2.2.1 hr.2.2.2.1 hr.2.2.2.2.1]
  exact if_neg hl
theorem e_eadd (hr : De c r) (hl : c 119 2 < 100) : f156_add N h b 119 x c = some (1, xU (xU c 120 (c 119 2).toNatClampNeg x) 119 2 (c 119 2 + 1)) := by
  unfold De at hr
  obtain ⟨k1, k2, k3, k4, k5, k6⟩ := hr
  rw [e_add (cap := 100) rfl rfl (by decide) (by decide) (by rw [k1]; decide) (by rw [k1]; decide) k3 (cl_le k4 rfl)]
  refine (if_pos hl).trans ?_
  rw [k1]
  have e0 : (0 : Int32).toNatClampNeg = 0 := rfl
  rw [cl_lt k3] at hl
  have e1 : (100 : Int32).toNatClampNeg = 100 := rfl
  rw [e0, Nat.zero_add, Nat.mod_eq_of_lt (by omega)]
theorem e_eaddn (hr : De c r) (hl : ¬ c 119 2 < 100) : f156_add N h b 119 x c = some (0, c) := by
  unfold De at hr
  obtain ⟨k1, k2, k3, k4, k5, k6⟩ := hr
  rw [e_add (cap := 100) rfl rfl (by decide) (by decide) (by rw [k1]; decide) (by rw [k1]; decide) k3 (cl_le k4 rfl)]
  exact if_neg hl
theorem RD_eadd (hR : RD c0 r0 c r) (hx : By x) (hl : c 119 2 < 100) : RD c0 r0 (xU (xU c 120 (c 119 2).toNatClampNeg x) 119 2 (c 119 2 + 1)) (xU (xU r 185 (r 157 65).toNatClampNeg (vp_nar .byte x.toInt8.toInt32)) 157 65 (r 157 65 + 1)) := by
  obtain ⟨f1, s1, q1, e1, r1⟩ := hR
  refine ⟨Df_u (Df_u f1 (by decide) (by omega)) (by decide) (by decide), Ds_of s1 rfl (fun i h1 h2 => xU_s (by omega)), Dq_of q1 rfl rfl (xU_s (by decide)) (xU_s (by decide)) rfl, ?_, Dr_of r1 rfl rfl (xU_s (by decide)) rfl⟩
  unfold De at *
  have h8 := by8 x
  have h9 := by8n x
  unfold By at hx
  simp [xU_eq]
  grind
theorem RD_elast (hR : RD c0 r0 c r) (hl : 0 < c 119 2) : RD c0 r0 (xU c 119 2 (c 119 2 - 1)) (xU r 157 65 (r 157 65 - 1)) := by
  obtain ⟨f1, s1, q1, e1, r1⟩ := hR
  refine ⟨Df_u f1 (by decide) (by decide), Ds_of s1 rfl (fun i h1 h2 => xU_s (by omega)), Dq_of q1 rfl rfl (xU_s (by decide)) (xU_s (by decide)) rfl, ?_, Dr_of r1 rfl rfl (xU_s (by decide)) rfl⟩
  unfold De at *
  simp [xU_eq]
  grind
theorem d_j76 (hN : 100000 ≤ N) (hR : RD c0 r0 c r) (hx : By x) : Q2 (j181_76 N h b x c) (j369_105 N h b x r) (fun p q => RD c0 r0 p q) := by
  unfold j181_76 j369_105
  exact q_b11 (d_echo hN hR hx) (fun _ _ h1 => q_ok1 h1)
theorem d_take (hN : 100000 ≤ N) (hR : RD c0 r0 c r) (hx : By x) : Q2 (f181_take N h b x c) (f369_taken N h b x r) (fun p q => RD c0 r0 p q) := by
  have hs := hR.2.1
  unfold Ds at hs
  have he := hR.2.2.2.1
  have hr := hR.2.2.2.2
  have he' := he
  have hr' := hr
  unfold De at he'
  unfold Dr RB at hr'
  unfold f181_take f369_taken
  refine q_l2 (e_size xk119) (q_l2 e_has (q_r2 e_flag ?_))
  have y0 : ∀ {p : Prop}, (zb (¬ p) = 0) = p := by intro p; rw [zb_0]; exact propext Classical.not_not
  rw [hs.1]
  by_cases z : r 157 58 &&& 1 = 0
  · have z' : zb (¬ r 157 58 &&& 1 = 0) = 0 := y0.mpr z
    refine q_pl z' ?_
    by_cases z1 : c 121 2 < 300
    · have z2 : r 157 67 < 300 := hr'.1.1 ▸ z1
      refine q_l2 (e_radd hr z1) (q_nr (by rw [if_pos z', if_neg (Int32.not_le.mpr z2)]; decide) (q_r2 e_flag (q_pr z' (q_r1 (e_keep (hr'.1.1 ▸ hr'.2.2.2.1) z2) ?_))))
      have h2 := RD_radd (x := x) hR z1 (Or.inl hx)
      unfold j181_43
      refine q_nl (by decide) ?_
      by_cases z3 : c 119 2 = 0
      · refine q_nl (by rw [if_pos z3]; decide) (q_l2 e_has (q_pl (y0.mpr ?_) (d_j76 hN h2 hx)))
        simp [xU_eq]; rw [hs.1]; exact z
      · exact q_pl (by rw [if_neg z3]) (d_j76 hN h2 hx)
    · have z2 : ¬ r 157 67 < 300 := hr'.1.1 ▸ z1
      refine q_l2 (e_raddn hr z1) (q_pr (by rw [if_pos z', if_pos (Int32.not_lt.mp z2)]) ?_)
      unfold j181_43
      exact q_pl rfl (d_pv hN hR (by decide) (fun _ _ _ h1 => q_ok1 h1))
  · have z' : ¬ zb (¬ r 157 58 &&& 1 = 0) = 0 := fun q => z (y0.mp q)
    refine q_nl z' ?_
    by_cases z1 : c 119 2 < 100
    · have z2 : r 157 65 < 100 := he'.2.1 ▸ z1
      refine q_l2 (e_eadd he z1) (q_nr (by rw [if_neg z', if_neg (Int32.not_le.mpr z2)]; decide) (q_r2 e_flag (q_nr z' ?_)))
      have h2 := RD_eadd (x := x) hR hx z1
      unfold j181_43
      refine q_nl (by decide) ?_
      have g1 : ¬ (r 157 65 < 0 ∨ 100 ≤ (r 157 65).toNatClampNeg) := cl_ix (he'.2.1 ▸ he'.2.2.1) z2 rfl
      by_cases z3 : c 119 2 = 0
      · have z4 : r 157 65 = 0 := he'.2.1 ▸ z3
        refine q_nl (by rw [if_pos z3]; decide) (q_l2 e_has (q_nl (fun q => ?_) (q_pr z4 ?_)))
        · rw [y0] at q
          simp [xU_eq] at q; rw [hs.1] at q; exact z q
        unfold xw j369_76
        refine q_hr (show ¬ (xU r 157 60 (r 157 59) 157 65 < 0 ∨ 100 ≤ (xU r 157 60 (r 157 59) 157 65).toNatClampNeg) from g1) ?_
        unfold xw
        have h3 := RD_8 h2
        have g4 : (xU (xU (xU r 157 60 (r 157 59)) 185 (xU r 157 60 (r 157 59) 157 65).toNatClampNeg (vp_nar .byte x.toInt8.toInt32)) 157 65 (xU (xU r 157 60 (r 157 59)) 185 (xU r 157 60 (r 157 59) 157 65).toNatClampNeg (vp_nar .byte x.toInt8.toInt32) 157 65 + 1)) = xU (xU (xU r 185 (r 157 65).toNatClampNeg (vp_nar .byte x.toInt8.toInt32)) 157 65 (r 157 65 + 1)) 157 60 (xU (xU r 185 (r 157 65).toNatClampNeg (vp_nar .byte x.toInt8.toInt32)) 157 65 (r 157 65 + 1) 157 59) := by
          apply xA_ext
          intro p i
          simp [xU_eq]
          grind
        dsimp only
        rw [g4]
        exact d_j76 hN h3 hx
      · have z4 : ¬ r 157 65 = 0 := he'.2.1 ▸ z3
        refine q_pl (by rw [if_neg z3]) (q_nr z4 ?_)
        unfold j369_76
        refine q_hr g1 ?_
        exact d_j76 hN h2 hx
    · have z2 : ¬ r 157 65 < 100 := he'.2.1 ▸ z1
      refine q_l2 (e_eaddn he z1) (q_pr (by rw [if_neg z', if_pos (Int32.not_lt.mp z2)]) ?_)
      unfold j181_43
      exact q_pl rfl (d_pv hN hR (by decide) (fun _ _ _ h1 => q_ok1 h1))
theorem d_int (hN : 100000 ≤ N) (hR : RD c0 r0 c r) : Q2 (f184_interrupt N h b c) (f372_signal N h b r) (fun p q => RD c0 r0 p q) := by
  unfold f184_interrupt f372_signal
  simp only [xw]
  refine q_l1 (e_clear xk119) (q_l1 (e_clear xk121) (q_l1 (e_clear xk117) ?_))
  have h6 := RD_4 (RD_5 (RD_qclr (RD_rclr (RD_eclr (RD_6 hR)))) (Or.inl rfl)) (Or.inl rfl)
  have hs := h6.2.1
  unfold Ds at hs
  refine q_l2 e_has (q_r2 e_flag ?_)
  rw [hs.1]
  refine q_il.mpr ⟨fun z => q_pr z (q_ok1 h6), fun z => q_nr z ?_⟩
  exact d_pv hN h6 (by decide) (fun _ _ _ h1 => d_pv hN h1 (by decide) (fun _ _ _ h1 => d_pv hN h1 (by decide) (fun _ _ _ h1 => q_ok1 h1)))
end D
