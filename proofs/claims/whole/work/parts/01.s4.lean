/-! The line discipline: lines that end, and what is rubbed out. -/
section D
variable {N h b : Nat} {c0 r0 c r c' r' : xA} {x y : Int32}
theorem y0 {p : Prop} : (zb (¬ p) = 0) = p := by rw [zb_0]; exact propext Classical.not_not
/-- what is edited goes to what is ready -/
theorem d_l2 {w : Int32} : ∀ (n : Nat) {v : Int32} {c r : xA}, RD c0 r0 c r → 0 ≤ v → v ≤ c 119 2 → c 121 2 + (c 119 2 - v) ≤ 300 → 100 < v.toNatClampNeg + n → Q2 (l192_39 N h b w n v c) (l376_37 N h b w n v r) (fun p q => RD c0 r0 p.2 q.2 ∧ p.2 119 = c 119 ∧ p.2 121 2 = c 121 2 + (c 119 2 - v) ∧ p.2 116 = c 116)
  | 0, v, c, r, hR, h1, h2, h3, h4 => by
    have he := hR.2.2.2.1
    unfold De at he
    have a1 := cl_le (n := 100) he.2.2.2.1 rfl
    have a2 := Int32.toNatClampNeg_le h2
    omega
  | n + 1, v, c, r, hR, h1, h2, h3, h4 => by
    have he := hR.2.2.2.1
    have hr := hR.2.2.2.2
    have he' := he
    have hr' := hr
    unfold De at he'
    unfold Dr RB at hr'
    unfold l192_39 l376_37
    refine q_l2 (e_size xk119) ?_
    by_cases z : c 119 2 ≤ v
    · refine q_pl z (q_pr (he'.2.1 ▸ z) (q_some.mpr ⟨hR, rfl, ?_, rfl⟩))
      have : v = c 119 2 := by grind
      rw [this]; grind
    · have z1 := Int32.not_le.mp z
      have z2 : v < 100 := by grind
      have g1 := cl_ix h1 z2 (n := 100) rfl
      have l4 : c 121 2 ≤ 300 := by rw [cl_lel (by decide)]; exact hr'.2.2.2.2.1
      have z3 : c 121 2 < 300 := by grind
      refine q_nl z (q_nr (he'.2.1 ▸ z) (q_hr g1 (q_l2 (e_gete he h1 z1) (q_l2 (e_radd hr z3) ?_))))
      rw [he'.2.2.2.2.1]
      refine q_r1 (e_keep (hr'.1.1 ▸ hr'.2.2.2.1) (hr'.1.1 ▸ z3)) ?_
      have h5 := RD_radd (x := r 185 v.toNatClampNeg &&& 255) hR z3 (Or.inl (byx _))
      refine q_mono (d_l2 n h5 (by grind) ?_ ?_ ?_) (fun p q hh => ⟨hh.1, hh.2.1, ?_, hh.2.2.2⟩)
      · simp [xU_eq]; grind
      · simp [xU_eq]; grind
      · rw [cl_s h1 z1]; omega
      · rw [hh.2.2.1]; simp [xU_eq]; grind
theorem e_room {o : Nat} {a : xA} (hk : xk o = 1) : f126_room N h b o a = some (Int32.ofNat (xl h b (o + 1)) - a o 2, a) := by
  unfold f126_room
  rw [xg_pos hk]
theorem d_j93 (hN : 100000 ≤ N) (hR : RD c0 r0 c r) (hl : c 121 2 < 300) : Q2 (j192_93 N h b x (xU c 119 2 0)) (j376_75 N h b x r) (fun p q => RD c0 r0 p q) := by
  have hr := hR.2.2.2.2
  have hr' := hr
  unfold Dr RB at hr'
  unfold j192_93 j376_75
  have e1 : Dr (xU c 119 2 0) r := Dr_of hr rfl rfl rfl rfl
  refine q_l2 (e_radd (c := xU c 119 2 0) e1 hl) (q_r1 (e_keep (hr'.1.1 ▸ hr'.2.2.2.1) (hr'.1.1 ▸ hl)) (q_wr.mpr ?_))
  have h2 := RD_eclr (RD_radd (x := 256) hR hl (Or.inr rfl))
  have g : xU (xU (xU c 119 2 0) 122 (((xU c 119 2 0 121 1).toNatClampNeg + (xU c 119 2 0 121 2).toNatClampNeg) % 300) 256) 121 2 (xU c 119 2 0 121 2 + 1) = xU (xU (xU c 122 (((c 121 1).toNatClampNeg + (c 121 2).toNatClampNeg) % 300) 256) 121 2 (c 121 2 + 1)) 119 2 0 := by
    apply xA_ext
    intro p i
    simp [xU_eq]
    grind
  rw [g]
  refine q_il.mpr ⟨fun z => q_pr z (q_ok1 h2), fun z => q_nr z ?_⟩
  have hs := h2.2.1
  unfold Ds at hs
  refine q_l2 e_has (q_r2 e_flag ?_)
  rw [hs.1]
  exact q_il.mpr ⟨fun z => q_pr z (q_ok1 h2), fun z => q_nr z (d_pv hN h2 (by decide) (fun _ _ _ h1 => q_ok1 h1))⟩
theorem d_fin (hN : 100000 ≤ N) (hR : RD c0 r0 c r) (hx : x = 0 ∨ x = 1) : Q2 (f192_finishLine N h b x c) (f376_ended N h b x r) (fun p q => RD c0 r0 p q) := by
  have he := hR.2.2.2.1
  have hr := hR.2.2.2.2
  have he' := he
  have hr' := hr
  unfold De at he'
  unfold Dr RB at hr'
  have l3 := hr'.2.2.2.2.1
  have l4 : c 121 2 ≤ 300 := by rw [cl_lel (by decide)]; exact l3
  unfold f192_finishLine f376_ended
  refine q_l2 (e_size xk119) (q_l2 (e_room xk121) ?_)
  have ex : xl h b (121 + 1) = 300 := rfl
  rw [ex]
  have e3 : Int32.ofNat 300 = (300 : Int32) := rfl
  rw [e3]
  by_cases z : c 119 2 + (if x = 0 then (1 : Int32) else (2 : Int32)) ≤ 300 - c 121 2
  · have z2 : r 157 67 + (r 157 65 + (if x = 0 then (1 : Int32) else (2 : Int32))) ≤ 300 := by
      rw [← hr'.1.1, ← he'.2.1]; grind
    refine q_pl z (q_pr z2 (q_bb (d_l2 N hR (by decide) he'.2.2.1 (by grind) (by omega)) (fun p q hh => ?_)))
    obtain ⟨h2, k1, k2, k3⟩ := hh
    refine q_l1 (e_clear xk119) ?_
    by_cases zx : x = 0
    · refine q_pl zx (q_pr zx (d_j93 hN h2 (by rw [k2]; grind)))
    · have hr2 := h2.2.2.2.2
      have hr2' := hr2
      unfold Dr RB at hr2'
      have z5 : p.2 121 2 < 300 := by rw [k2]; grind
      have e1 : Dr (xU p.2 119 2 0) q.2 := Dr_of hr2 rfl rfl rfl rfl
      refine q_nl zx (q_nr zx (q_l2 (e_radd (c := xU p.2 119 2 0) e1 z5) (q_r1 (e_keep (hr2'.1.1 ▸ hr2'.2.2.2.1) (hr2'.1.1 ▸ z5)) ?_)))
      have h3 := RD_radd (x := 10) h2 z5 (Or.inl (by decide))
      have g : xU (xU (xU p.2 119 2 0) 122 (((xU p.2 119 2 0 121 1).toNatClampNeg + (xU p.2 119 2 0 121 2).toNatClampNeg) % 300) 10) 121 2 (xU p.2 119 2 0 121 2 + 1) = xU (xU (xU p.2 122 (((p.2 121 1).toNatClampNeg + (p.2 121 2).toNatClampNeg) % 300) 10) 121 2 (p.2 121 2 + 1)) 119 2 0 := by
        apply xA_ext
        intro p i
        simp [xU_eq]
        grind
      rw [g]
      refine d_j93 hN h3 ?_
      simp [xU_eq]
      rw [k2]; grind
  · have z2 : ¬ r 157 67 + (r 157 65 + (if x = 0 then (1 : Int32) else (2 : Int32))) ≤ 300 := by
      rw [← hr'.1.1, ← he'.2.1]; grind
    exact q_nl z (q_nr z2 (d_pv hN hR (by decide) (fun _ _ _ h1 => q_ok1 h1)))
/-- where the cursor is behind what is edited -/
theorem d_l3 : ∀ (n : Nat) {s v : Int32} {c r : xA}, RD c0 r0 c r → 0 ≤ v → v ≤ 100 → 0 ≤ s → s ≤ 10000 → 100 < v.toNatClampNeg + n → Q2 (l189_7 N h b n s v c) (l375_7 N h b n s v r) (fun p q => p.2.1 = q.2.1 ∧ p.2.2 = c ∧ q.2.2 = r ∧ 0 ≤ p.2.1 ∧ p.2.1 ≤ 10000)
  | 0, s, v, c, r, hR, h1, h2, hs0, hs1, h4 => by have := cl_le (n := 100) h2 rfl; omega
  | n + 1, s, v, c, r, hR, h1, h2, hs0, hs1, h4 => by
    have hs := hR.2.1
    unfold Ds at hs
    have he := hR.2.2.2.1
    have he' := he
    unfold De at he'
    unfold l189_7 l375_7
    refine q_l2 (e_size xk119) ?_
    by_cases z : c 119 2 ≤ v
    · exact q_pl z (q_pr (he'.2.1 ▸ z) (q_some.mpr ⟨rfl, rfl, rfl, hs0, hs1⟩))
    · have z1 := Int32.not_le.mp z
      have z2 : v < 100 := by grind
      have g1 := cl_ix h1 z2 (n := 100) rfl
      refine q_nl z (q_nr (he'.2.1 ▸ z) (q_hr g1 (q_l2 (e_gete he h1 z1) (q_l2 e_ec (q_r2 e_ec' ?_)))))
      rw [he'.2.2.2.2.1]
      have b1 := colB_b (f := r 157 58) (y := 94) hs0 hs1
      have b2 := colB_b (f := r 157 58) (y := r 185 v.toNatClampNeg &&& 255 ^^^ 64) b1.1 b1.2
      have b3 := colB_b (f := r 157 58) (y := r 185 v.toNatClampNeg &&& 255) hs0 hs1
      refine q_il.mpr ⟨fun z => q_pr z (q_l2 e_cb (q_l2 e_cb (q_r2 e_mv (q_r2 e_mv ?_)))), fun z => q_nr z (q_l2 e_cb (q_r2 e_mv ?_))⟩
      · unfold j189_60 j375_57
        rw [hs.1]
        exact d_l3 n hR (by grind) (by grind) b2.1 b2.2 (by rw [cl_s h1 z1]; omega)
      · unfold j189_60 j375_57
        rw [hs.1]
        exact d_l3 n hR (by grind) (by grind) b3.1 b3.2 (by rw [cl_s h1 z1]; omega)
theorem d_l4 {w w' : Int32} (hN : 100000 ≤ N) (hw : 0 ≤ w) (hw1 : w ≤ 10000) (hw2 : w' ≤ 10000) : ∀ (n : Nat) {v k : Int32} {c r : xA}, RD c0 r0 c r → v - w = w' - k → 0 ≤ k → k ≤ 10000 → -10000 ≤ v → v ≤ 10000 → 10000 < k.toNatClampNeg + n → Q2 (l188_16 N h b w n v c) (l374_65 N h b w' n k r) (fun p q => RD c0 r0 p.2 q.2 ∧ Dm c p.2)
  | 0, v, k, c, r, hR, e, h1, h2, h3, h4, h5 => by have := cl_le (n := 10000) h2 rfl; omega
  | n + 1, v, k, c, r, hR, e, h1, h2, h3, h4, h5 => by
    unfold l188_16 l374_65
    by_cases z : v ≤ w
    · exact q_pl z (q_pr (by grind) (q_some.mpr ⟨hR, Dm_rfl⟩))
    · refine q_nl z (q_nr (by grind) (d_pvm hN hR (by decide) (fun v1 c1 r1 h6 h7 => ?_)))
      have z1 : k < 10000 := by grind
      exact q_mono (d_l4 hN hw hw1 hw2 n h6 (by grind) (by grind) (by grind) (by grind) (by grind) (by rw [cl_s h1 z1]; omega)) (fun p q hh => ⟨hh.1, Dm_tr h7 hh.2⟩)
theorem d_l5 {w : Int32} (hN : 100000 ≤ N) (hw : w ≤ 2) : ∀ (n : Nat) {v : Int32} {c r : xA}, RD c0 r0 c r → 0 ≤ v → v ≤ 2 → 2 < v.toNatClampNeg + n → Q2 (l188_58 N h b w n v c) (l374_104 N h b w n v r) (fun p q => RD c0 r0 p.2 q.2 ∧ Dm c p.2)
  | 0, v, c, r, hR, h1, h2, h5 => by have := cl_le (n := 2) h2 rfl; omega
  | n + 1, v, c, r, hR, h1, h2, h5 => by
    unfold l188_58 l374_104
    by_cases z : w ≤ v
    · exact q_pl z (q_pr z (q_some.mpr ⟨hR, Dm_rfl⟩))
    · refine q_nl z (q_nr z (d_pvm hN hR (by decide) (fun v1 c1 r1 h6 h7 => d_pvm hN h6 (by decide) (fun v2 c2 r2 h8 h9 => d_pvm hN h8 (by decide) (fun v3 c3 r3 ha hb => ?_)))))
      have z1 : v < 2 := by grind
      exact q_mono (d_l5 hN hw n ha (by grind) (by grind) (by rw [cl_s h1 z1]; omega)) (fun p q hh => ⟨hh.1, Dm_tr h7 (Dm_tr h9 (Dm_tr hb hh.2))⟩)
/-- what the class does with a byte rubbed out -/
def uC (N h b : Nat) (x : Int32) (a : xA) : Option xA := xb2 (f162_has N h b 2 a) (fun r17 a18 => if r17 = 0 then some a18 else xb2 (f162_has N h b 4 a18) (fun r24 a25 => if r24 = 0 then some a25 else f188_unecho N h b x a25))
theorem d_rub (hN : 100000 ≤ N) (hR : RD c0 r0 c r) (hl : 0 < c 119 2) : Q2 (uC N h b (c 120 (c 119 2 - 1).toNatClampNeg) (xU c 119 2 (c 119 2 - 1))) (f374_rub N h b r) (fun p q => RD c0 r0 p q ∧ Dm (xU c 119 2 (c 119 2 - 1)) p) := by
  have h1 := RD_elast hR hl
  have he' := hR.2.2.2.1
  unfold De at he'
  obtain ⟨k1, k2, k3, k4, k5, k6⟩ := he'
  have hs := h1.2.1
  unfold Ds at hs
  unfold uC f374_rub
  refine q_wr.mpr ?_
  have e65 : xU r 157 65 (r 157 65 - 1) 157 65 = c 119 2 - 1 := by rw [xU_e, k2]
  rw [e65]
  refine q_hr (cl_ix (n := 100) (x := c 119 2 - 1) (y := 100) (by grind) (by grind) rfl) ?_
  refine q_l2 e_has (q_r2 e_flag ?_)
  rw [hs.1, k5]
  have e185 : xU r 157 65 (r 157 65 - 1) 185 = r 185 := xU_o (by decide)
  rw [e185]
  refine q_il.mpr ⟨fun z => q_pr z (q_some.mpr ⟨h1, Dm_rfl⟩), fun z => q_nr z (q_l2 e_has (q_r2 e_flag ?_))⟩
  rw [hs.1]
  refine q_il.mpr ⟨fun z => q_pr z (q_some.mpr ⟨h1, Dm_rfl⟩), fun z => q_nr z ?_⟩
  unfold f188_unecho
  by_cases z9 : r 185 (c 119 2 - 1).toNatClampNeg &&& 255 = 9
  · refine q_pl z9 (q_nr (by rw [z9]; decide) (q_pr z9 ?_))
    unfold f189_columnOfEdited f375_reached
    rw [b2_b, b2_b, hs.2.2.2.2.2.1]
    refine q_bb (d_l3 N h1 (by decide) (by decide) (hs.2.2.2.2.2.1 ▸ hs.2.2.2.2.2.2.2.2.2.1) (hs.2.2.2.2.2.1 ▸ hs.2.2.2.2.2.2.2.2.2.2.1) (by omega)) (fun p q hh => ?_)
    obtain ⟨a1, a2, a3, a4, a5⟩ := hh
    rw [b2_some, b2_some, a2, a3, ← a1, ← hs.2.2.2.2.1]
    have b1 := hs.2.2.2.2.2.2.2.1
    have b2 := hs.2.2.2.2.2.2.2.2.1
    exact q_bb (d_l4 hN a4 a5 (by grind) N h1 (by grind) (by decide) (by decide) (by grind) b2 (by omega)) (fun p q hh => q_some.mpr hh)
  · refine q_nl z9 ?_
    by_cases z10 : r 185 (c 119 2 - 1).toNatClampNeg &&& 255 = 10
    · exact q_pl z10 (q_pr z10 (q_some.mpr ⟨h1, Dm_rfl⟩))
    · refine q_nl z10 (q_nr z10 (q_nr z9 (q_l2 e_pr ?_)))
      by_cases z32 : r 185 (c 119 2 - 1).toNatClampNeg &&& 255 < 32
      · refine q_pr z32 ?_
        unfold j374_100 j374_101
        rw [if_pos (zb_f (fun q => absurd q.1 (Int32.not_le.mpr z32)))]
        exact q_bb (d_l5 hN (by decide) N h1 (by decide) (by decide) (by omega)) (fun p q hh => q_some.mpr hh)
      · refine q_nr z32 ?_
        have e : (if zb (32 ≤ r 185 (c 119 2 - 1).toNatClampNeg &&& 255 ∧ r 185 (c 119 2 - 1).toNatClampNeg &&& 255 ≤ 126) = 0 then (2 : Int32) else (1 : Int32)) = (if 126 < r 185 (c 119 2 - 1).toNatClampNeg &&& 255 then (2 : Int32) else (1 : Int32)) := by
          grind [zb_0]
        rw [e]
        exact q_bb (d_l5 hN (by grind) N h1 (by decide) (by decide) (by omega)) (fun p q hh => q_some.mpr hh)
end D
