/-! The line discipline: a byte that comes; flags, write, read. -/
section D
variable {N h b : Nat} {c0 r0 c r c' r' : xA} {x y : Int32}
theorem d_ru1 (hN : 100000 ≤ N) (hR : RD c0 r0 c r) : Q2 (f186_rubOut N h b 1 c) (if r 157 65 ≤ 0 then some r else xb1 (f374_rub N h b r) (fun a11 => some a11)) (fun p q => RD c0 r0 p q) := by
  have he := hR.2.2.2.1
  have he' := he
  unfold De at he'
  obtain ⟨n, rfl⟩ : ∃ n, N = n + 2 := ⟨N - 2, by omega⟩
  unfold f186_rubOut
  by_cases z : c 119 2 ≤ 0
  · exact q_lb (e_ru0 (Or.inr z)) (q_pr (he'.2.1 ▸ z) (q_some.mpr hR))
  · refine q_nr (he'.2.1 ▸ z) ?_
    rw [e_ru he (by decide) (Int32.not_le.mp z)]
    obtain ⟨c1, r1, f1, f2, f3, f4⟩ := d_rub (N := n + 2) (h := h) (b := b) hN hR (Int32.not_le.mp z)
    rw [f1, b1_some, e_ru0 (Or.inl (by decide))]
    exact q_r1 f2 (q_some.mpr f3)
theorem d_ruall (hN : 100000 ≤ N) (hR : RD c0 r0 c r) : Q2 (f186_rubOut N h b (c 119 2) c) ((l373_182 N h b N r).bind (fun z56 => some z56.2)) (fun p q => RD c0 r0 p q) := by
  have he := hR.2.2.2.1
  have he' := he
  unfold De at he'
  have hk := cl_le (n := 100) he'.2.2.2.1 rfl
  have e0 : (0 : Int32).toNatClampNeg = 0 := rfl
  unfold f186_rubOut
  obtain ⟨c1, r1, t1, t2, t3, t4, t5⟩ := d_ph (N := N) (h := h) (b := b) (c0 := c0) (r0 := r0) (w := c 119 2) (P := fun _ => True) (L := l373_182 N h b) hN
    (fun m c a hR h1 => by
      have he := hR.2.2.2.1
      unfold De at he
      rw [l373_182, if_pos (he.2.1 ▸ h1.resolve_right (fun q => q trivial))])
    (fun m c a hR h1 _ => by
      have he := hR.2.2.2.1
      unfold De at he
      rw [l373_182, if_neg (he.2.1 ▸ Int32.not_le.mpr h1)])
    (c 119 2).toNatClampNeg (N - (c 119 2).toNatClampNeg) N (v := 0) hR (by decide) (by rw [e0]; omega) he'.2.2.2.1 (by omega) (by omega) (fun _ _ _ => trivial) (Or.inl rfl)
  rw [Nat.sub_add_cancel (by omega)] at t1
  obtain ⟨n, hn⟩ : ∃ n, N - (c 119 2).toNatClampNeg = n + 1 := ⟨N - (c 119 2).toNatClampNeg - 1, by omega⟩
  rw [hn, e_ru0 (Or.inl (by rw [i_ofn he'.2.2.1]; grind))] at t1
  exact q_lb t1 (q_rb t2 (q_some.mpr t3))
theorem d_ruw (hN : 100000 ≤ N) (hR : RD c0 r0 c r) : Q2 (xb2 (f190_wordLength N h b c) (fun r55 a56 => xb1 (f186_rubOut N h b r55 a56) (fun a60 => some a60))) ((l373_120 N h b N r).bind (fun z91 => (l373_151 N h b N z91.2).bind (fun z105 => some z105.2))) (fun p q => RD c0 r0 p q) := by
  have he := hR.2.2.2.1
  have he' := he
  unfold De at he'
  have hk := cl_le (n := 100) he'.2.2.2.1 rfl
  have e0 : (0 : Int32).toNatClampNeg = 0 := rfl
  obtain ⟨u, a1, a2, a3, a4, a5⟩ := e_w1 (N := N) (h := h) (b := b) N (v := c 119 2) he he'.2.2.1 (Int32.le_refl _) (by omega)
  obtain ⟨u2, b1, b2, b3, b4, b5⟩ := e_w2 (N := N) (h := h) (b := b) N (v := u) he a2 a3 (by have := Int32.toNatClampNeg_le a3; omega)
  have l1 := Int32.toNatClampNeg_le a3
  have l2 := Int32.toNatClampNeg_le b3
  have ew : (c 119 2 - u2).toNatClampNeg = (c 119 2).toNatClampNeg - u2.toNatClampNeg := by
    have q := cl_add (x := c 119 2 - u2) (y := u2) (by grind) b2 (by have q1 := cl_le (n := 100) (x := c 119 2 - u2) (y := 100) (by grind) rfl; omega)
    rw [Int32.sub_add_cancel] at q
    omega
  have hW : f190_wordLength N h b c = some (c 119 2 - u2, c) := by
    unfold f190_wordLength j190_60
    rw [e_size xk119, b2_some, a1]
    show ((l190_34 N h b N u c).bind _) = _
    rw [b1]
    show xb2 (f163_size N h b 119 c) (fun r38 a39 => some (r38 - u2, a39)) = _
    rw [e_size xk119, b2_some]
  refine q_l2 hW ?_
  unfold f186_rubOut
  obtain ⟨c1, r1, t1, t2, t3, t4, t5⟩ := d_ph (N := N) (h := h) (b := b) (c0 := c0) (r0 := r0) (w := c 119 2 - u2) (P := fun x => x = 9 ∨ x = 32) (L := l373_120 N h b) hN
    (fun m c a hR h1 => by
      have he := hR.2.2.2.1
      have ib := isb9 he
      unfold De at he
      obtain ⟨k1, k2, k3, k4, k5, k6⟩ := he
      rw [l373_120]
      by_cases z : a 157 65 ≤ 0
      · rw [if_pos z]
      · rw [if_neg z, xg_pos (cl_ix (n := 100) (y := 100) (by grind) (by grind) rfl), e_bl', b2_some, if_pos]
        rw [zb_0, ib, ← k2]
        exact h1.resolve_left (k2 ▸ z))
    (fun m c a hR h1 hp => by
      have he := hR.2.2.2.1
      have ib := isb9 he
      unfold De at he
      obtain ⟨k1, k2, k3, k4, k5, k6⟩ := he
      rw [l373_120, if_neg (k2 ▸ Int32.not_le.mpr h1), xg_pos (cl_ix (n := 100) (y := 100) (by grind) (by grind) rfl), e_bl', b2_some, if_neg]
      rw [zb_0, ib, ← k2]
      exact fun z => z hp)
    ((c 119 2).toNatClampNeg - u.toNatClampNeg) (N - ((c 119 2).toNatClampNeg - u.toNatClampNeg)) N (v := 0) hR (by decide) (by rw [e0]; omega) (by grind) (by omega) (by omega) (fun i h1 h2 => a4 i (by omega) h2)
    (by
      rcases a5 with q | q
      · left; omega
      · right; rw [show (c 119 2).toNatClampNeg - ((c 119 2).toNatClampNeg - u.toNatClampNeg) - 1 = u.toNatClampNeg - 1 by omega]; exact q)
  rw [Nat.sub_add_cancel (by omega)] at t1
  have he3 := t3.2.2.2.1
  unfold De at he3
  have eo : (Int32.ofNat ((c 119 2).toNatClampNeg - u.toNatClampNeg)).toNatClampNeg = (c 119 2).toNatClampNeg - u.toNatClampNeg := i_cl (by omega)
  have z0 : (0 : Int32) + Int32.ofNat ((c 119 2).toNatClampNeg - u.toNatClampNeg) = Int32.ofNat ((c 119 2).toNatClampNeg - u.toNatClampNeg) := Int32.zero_add _
  rw [z0] at t1
  obtain ⟨c2, r2, s1, s2, s3, s4, s5⟩ := d_ph (N := N) (h := h) (b := b) (c0 := c0) (r0 := r0) (w := c 119 2 - u2) (P := fun x => ¬ (x = 9 ∨ x = 32)) (L := l373_151 N h b) hN
    (fun m c a hR h1 => by
      have he := hR.2.2.2.1
      have ib := isb9 he
      unfold De at he
      obtain ⟨k1, k2, k3, k4, k5, k6⟩ := he
      rw [l373_151]
      by_cases z : a 157 65 ≤ 0
      · rw [if_pos z]
      · rw [if_neg z, xg_pos (cl_ix (n := 100) (y := 100) (by grind) (by grind) rfl), e_bl', b2_some, if_neg]
        rw [zb_0, ib, ← k2]
        exact h1.resolve_left (k2 ▸ z))
    (fun m c a hR h1 hp => by
      have he := hR.2.2.2.1
      have ib := isb9 he
      unfold De at he
      obtain ⟨k1, k2, k3, k4, k5, k6⟩ := he
      rw [l373_151, if_neg (k2 ▸ Int32.not_le.mpr h1), xg_pos (cl_ix (n := 100) (y := 100) (by grind) (by grind) rfl), e_bl', b2_some, if_pos]
      rw [zb_0, ib, ← k2]
      exact hp)
    (u.toNatClampNeg - u2.toNatClampNeg) (N - ((c 119 2).toNatClampNeg - u.toNatClampNeg) - (u.toNatClampNeg - u2.toNatClampNeg)) N (v := Int32.ofNat ((c 119 2).toNatClampNeg - u.toNatClampNeg)) t3 (by rw [show (0 : Int32) = Int32.ofNat 0 from rfl, i_le (by decide) (by omega)]; omega) (by rw [eo]; omega) (by grind) (by omega) (by omega) (fun i h1 h2 => by rw [t5]; exact b4 i (by omega) (by omega))
    (by
      rw [t4, t5]
      rcases b5 with q | q
      · left; omega
      · right; rw [show (c 119 2).toNatClampNeg - ((c 119 2).toNatClampNeg - u.toNatClampNeg) - (u.toNatClampNeg - u2.toNatClampNeg) - 1 = u2.toNatClampNeg - 1 by omega]; exact q)
  rw [Nat.sub_add_cancel (by omega)] at s1
  obtain ⟨n, hn⟩ : ∃ n, N - ((c 119 2).toNatClampNeg - u.toNatClampNeg) - (u.toNatClampNeg - u2.toNatClampNeg) = n + 1 := ⟨N - ((c 119 2).toNatClampNeg - u.toNatClampNeg) - (u.toNatClampNeg - u2.toNatClampNeg) - 1, by omega⟩
  have ev : Int32.ofNat ((c 119 2).toNatClampNeg - u.toNatClampNeg) + Int32.ofNat (u.toNatClampNeg - u2.toNatClampNeg) = c 119 2 - u2 := by
    rw [← Int32.ofNat_add, show (c 119 2).toNatClampNeg - u.toNatClampNeg + (u.toNatClampNeg - u2.toNatClampNeg) = (c 119 2).toNatClampNeg - u2.toNatClampNeg by omega]
    exact ofn_cl (by grind) ew
  rw [hn, ev, e_ru0 (Or.inl (Int32.le_refl _))] at s1
  rw [t1, s1]
  exact q_rb t2 (q_rb s2 (q_some.mpr s3))
theorem d_edit (hN : 100000 ≤ N) (hR : RD c0 r0 c r) (hx : By x) : Q2 (f185_edit N h b x c) (f373_edits N h b x r) (fun p q => RD c0 r0 p q) := by
  unfold f185_edit f373_edits
  refine q_il.mpr ⟨fun z => q_pr z (q_b11 (d_fin hN hR (Or.inl rfl)) (fun _ _ h1 => q_ok1 h1)), fun z => q_nr z ?_⟩
  refine q_il.mpr ⟨fun z => q_pr z ?_, fun z => q_nr z ?_⟩
  · obtain ⟨c1, r1, t1, t2, t3⟩ := d_ru1 (h := h) (b := b) hN hR
    exact q_l1 t1 ⟨c1, r1, rfl, t2, t3⟩
  refine q_il.mpr ⟨fun z => q_pr z (q_b11 (d_fin hN hR (Or.inr rfl)) (fun _ _ h1 => q_ok1 h1)), fun z => q_nr z ?_⟩
  refine q_il.mpr ⟨fun z => q_pr z ?_, fun z => q_nr z ?_⟩
  · unfold f191_echoAnew
    have hs := hR.2.1
    unfold Ds at hs
    rw [b1_2]
    refine q_l2 e_has (q_r2 e_flag ?_)
    rw [hs.1, b1_i]
    refine q_il.mpr ⟨fun z => q_pr z (q_ok1 hR), fun z => q_nr z ?_⟩
    rw [b1_2]
    refine d_pv hN hR (by decide) (fun _ c1 r1 h1 => ?_)
    rw [b1_2]
    refine d_pv hN h1 (by decide) (fun _ c1 r1 h1 => ?_)
    rw [b1_2]
    refine d_pv hN h1 (by decide) (fun _ c1 r1 h1 => ?_)
    rw [b1_w]
    refine q_wl.mpr (q_wr.mpr ?_)
    rw [b1_b]
    exact q_bb (d_ea hN N (RD_8 h1) (by decide) (by decide) (by omega)) (fun p q hh => q_ok1 hh)
  refine q_il.mpr ⟨fun z => q_pr z (q_l2 (e_size xk119) ?_), fun z => q_nr z ?_⟩
  · obtain ⟨c1, r1, t1, t2, t3⟩ := d_ruall (h := h) (b := b) hN hR
    exact q_l1 t1 ⟨c1, r1, rfl, t2, t3⟩
  refine q_il.mpr ⟨fun z => q_pr z (q_wl.mpr (q_wr.mpr ?_)), fun z => q_nr z ?_⟩
  · have h5 := RD_5 (v := 1) hR (Or.inr rfl)
    have hs := h5.2.1
    unfold Ds at hs
    refine q_l2 e_has (q_r2 e_flag ?_)
    rw [hs.1]
    exact q_il.mpr ⟨fun z => q_pr z (q_ok1 h5), fun z => q_nr z (d_pv hN h5 (by decide) (fun _ _ _ h1 => d_pv hN h1 (by decide) (fun _ _ _ h1 => q_ok1 h1)))⟩
  refine q_il.mpr ⟨fun z => q_pr z (d_ruw hN hR), fun z => q_nr z ?_⟩
  exact q_b11 (d_take hN hR hx) (fun _ _ h1 => q_ok1 h1)
theorem d_109 (hN : 100000 ≤ N) (hR : RD c0 r0 c r) (hx : By x) : Q2 (j180_109 N h b x c) (j368_105 N h b x r) (fun p q => RD c0 r0 p q) := by
  have hs := hR.2.1
  unfold Ds at hs
  unfold j180_109 j368_105
  refine q_l2 e_has (q_r2 e_flag ?_)
  rw [hs.1]
  exact q_il.mpr ⟨fun z => q_pr z (q_b11 (d_take hN hR hx) (fun _ _ h1 => q_ok1 h1)), fun z => q_nr z (q_b11 (d_edit hN hR hx) (fun _ _ h1 => q_ok1 h1))⟩
theorem d_68 (hN : 100000 ≤ N) (hR : RD c0 r0 c r) (hx : By x) : Q2 (j180_68 N h b x c) (j368_64 N h b x r) (fun p q => RD c0 r0 p q) := by
  have hs := hR.2.1
  unfold Ds at hs
  unfold j180_68 j368_64
  refine q_il.mpr ⟨fun z => q_pr (hs.2.2.1 ▸ z) (q_l2 e_has (q_r2 e_flag ?_)), fun z => q_nr (hs.2.2.1 ▸ z) (q_wl.mpr (q_wr.mpr ?_))⟩
  · rw [hs.1]
    exact q_il.mpr ⟨fun z => q_pr z (d_109 hN hR hx), fun z => q_nr z (q_il.mpr ⟨fun z => q_pr z (q_b11 (d_int hN hR) (fun _ _ h1 => q_ok1 h1)), fun z => q_nr z (d_109 hN hR hx)⟩)⟩
  · exact q_b11 (d_take hN (RD_5 hR (Or.inl rfl)) hx) (fun _ _ h1 => q_ok1 h1)
theorem d_50 (hR : RD c0 r0 c r) : Q2 (j180_50 N h b x c) (j368_48 N h b x r) (fun p q => RD c0 r0 p q) := by
  unfold j180_50 j368_48
  have e : (if x = 19 then (1 : Int32) else (0 : Int32)) = 0 ∨ (if x = 19 then (1 : Int32) else (0 : Int32)) = 1 := by grind
  exact q_hl e (q_wl.mpr (q_wr.mpr (q_ok1 (RD_4 hR e))))
theorem d_28 (hN : 100000 ≤ N) (hR : RD c0 r0 c r) (hx : By x) : Q2 (j180_28 N h b x c) (j368_27 N h b x r) (fun p q => RD c0 r0 p q) := by
  have hs := hR.2.1
  unfold Ds at hs
  unfold j180_28 j368_27
  refine q_l2 e_has (q_r2 e_flag ?_)
  rw [hs.1]
  exact q_il.mpr ⟨fun z => q_pr z (d_68 hN hR hx), fun z => q_nr z (q_il.mpr ⟨fun z => q_pr z (d_50 hR), fun z => q_nr z (q_il.mpr ⟨fun z => q_pr z (d_50 hR), fun z => q_nr z (d_68 hN hR hx)⟩)⟩)⟩
/-- a byte comes -/
theorem d_comes (hN : 100000 ≤ N) (hR : RD c0 r0 c r) (hx : By x) : Q2 (f180_receive N h b x c) (f368_comes N h b x r) (fun p q => RD c0 r0 p q) := by
  have hs := hR.2.1
  unfold Ds at hs
  unfold f180_receive f368_comes j180_27
  refine q_il.mpr ⟨fun z => q_pr z (q_l2 e_has (q_r2 e_flag ?_)), fun z => q_nr z (d_28 hN hR hx)⟩
  rw [hs.1]
  refine q_il.mpr ⟨fun z => q_pr z (d_28 hN hR hx), fun z => q_nr z ?_⟩
  by_cases z5 : c 116 5 = 0
  · rw [if_pos z5]
    refine q_pr (hs.2.2.1 ▸ z5) ?_
    exact d_28 hN hR (x := 10) (by decide)
  · rw [if_neg z5]
    refine q_nr (hs.2.2.1 ▸ z5) ?_
    exact d_28 hN hR hx
end D
