/-! Printing. -/
section G
variable {N h b : Nat} {c0 r0 c r c' r' : xA} {x y s v : Int32} {Y X Tp Bt F E k : Nat}
theorem Gs_of (H : Gs h b Y X Tp Bt c r) (h1 : ∀ i, i = 0 ∨ i = 1 ∨ i = 5 ∨ i = 6 ∨ i = 8 ∨ i = 9 → c' 136 i = c 136 i) (h2 : ∀ i, i = 68 ∨ i = 69 ∨ 93 ≤ i ∧ i ≤ 96 → r' 157 i = r 157 i) (h3 : r' 191 Y = r 191 Y) : Gs h b Y X Tp Bt c' r' := by
  unfold Gs at *
  rw [h1 0 (by omega), h1 1 (by omega), h1 5 (by omega), h1 6 (by omega), h1 8 (by omega), h1 9 (by omega), h2 68 (by omega), h2 69 (by omega), h2 93 (by omega), h2 94 (by omega), h2 95 (by omega), h2 96 (by omega), h3]
  exact H
theorem RG_go {i j : Nat} (hR : RG h b c0 r0 c r) (hi : 7 ≤ i ∧ i ≠ 8 ∧ i ≠ 9) (hj : gI j ∧ ¬ (93 ≤ j ∧ j ≤ 96) ∧ ¬ (104 ≤ j ∧ j ≤ 107) ∧ ¬ (111 ≤ j ∧ j ≤ 113)) (hgo : Go (xU c 136 i x) (xU r 157 j y)) : RG h b c0 r0 (xU c 136 i x) (xU r 157 j y) := by
  obtain ⟨hf, ⟨Y, X, Tp, Bt, hs⟩, ho, hv, hc⟩ := hR
  have hj68 : j ≠ 68 ∧ j ≠ 69 := by have := hj.1; unfold gI at this; omega
  exact ⟨Gf_u hf (by decide) (Or.inr ⟨rfl, hj.1⟩), ⟨Y, X, Tp, Bt, Gs_of hs (fun q hq => xU_s (by omega)) (fun q hq => xU_s (by omega)) rfl⟩, hgo, Gv_of hv rfl (fun q h1 h2 h3 h4 h5 => xU_s (by omega)), Gc_of hc rfl rfl rfl rfl rfl rfl⟩
theorem RG_7 (hR : RG h b c0 r0 c r) (hx : v = 0 ∨ v = 1) : RG h b c0 r0 (xU c 136 7 v) (xU r 157 108 v) := by
  refine RG_go hR (by omega) (by unfold gI; omega) ?_
  have ho := hR.2.2.1
  unfold Go at *; simp [xU_eq]; grind
theorem RG_10 (hR : RG h b c0 r0 c r) : RG h b c0 r0 (xU c 136 10 v) (xU r 157 98 v) := by
  refine RG_go hR (by omega) (by unfold gI; omega) ?_
  have ho := hR.2.2.1
  unfold Go at *; simp [xU_eq]; grind
theorem RG_11 (hR : RG h b c0 r0 c r) : RG h b c0 r0 (xU c 136 11 v) (xU r 157 97 v) := by
  refine RG_go hR (by omega) (by unfold gI; omega) ?_
  have ho := hR.2.2.1
  unfold Go at *; simp [xU_eq]; grind
theorem RG_13 (hR : RG h b c0 r0 c r) (hx : v = 0 ∨ v = 1) : RG h b c0 r0 (xU c 136 13 v) (xU r 157 103 v) := by
  refine RG_go hR (by omega) (by unfold gI; omega) ?_
  have ho := hR.2.2.1
  unfold Go at *; simp [xU_eq]; grind
theorem RG_14 (hR : RG h b c0 r0 c r) : RG h b c0 r0 (xU c 136 14 v) (xU r 157 99 v) := by
  refine RG_go hR (by omega) (by unfold gI; omega) ?_
  have ho := hR.2.2.1
  unfold Go at *; simp [xU_eq]; grind
theorem RG_15 (hR : RG h b c0 r0 c r) : RG h b c0 r0 (xU c 136 15 (c 136 15 + 1)) (xU r 157 100 (r 157 100 + 1)) := by
  refine RG_go hR (by omega) (by unfold gI; omega) ?_
  have ho := hR.2.2.1
  unfold Go at *; simp [xU_eq]; grind
theorem RG_16 (hR : RG h b c0 r0 c r) : RG h b c0 r0 (xU c 136 16 v) (xU r 157 81 v) := by
  refine RG_go hR (by omega) (by unfold gI; omega) ?_
  have ho := hR.2.2.1
  unfold Go at *; simp [xU_eq]; grind
theorem e_gh {a : xA} : f197_has N h b x a = some (zb (¬ a 136 10 &&& x = 0), a) := by
  unfold f197_has
  simp only [zi10, zi01, zg]
theorem e_md {a : xA} : f363_mode N h b x a = some (zb (¬ a 157 98 &&& x = 0), a) := by
  unfold f363_mode
  simp only [zi10, zi01, zg]
/-- clamped -/
def clN (k : Nat) (x : Int32) : Nat := if 0 ≤ x then min x.toNatClampNeg k else 0
theorem e_nearN {a : xA} {k : Nat} (hk : k < 2 ^ 31) (x : Int32) : f10_nearest N h b x 0 (Int32.ofNat k) a = some (Int32.ofNat (clN k x), a) := by
  unfold f10_nearest clN
  by_cases z : 0 ≤ x
  · rw [if_pos z, if_pos z]
    have e := i_ofn z
    by_cases q : x ≤ Int32.ofNat k
    · have q2 := q
      rw [cl_lel (by rw [show (0 : Int32) = Int32.ofNat 0 from rfl, i_le (by decide) hk]; omega), i_cl hk] at q2
      rw [if_pos q, Nat.min_eq_left q2, e]
    · have q2 := q
      rw [cl_lel (by rw [show (0 : Int32) = Int32.ofNat 0 from rfl, i_le (by decide) hk]; omega), i_cl hk] at q2
      rw [if_neg q, Nat.min_eq_right (by omega)]
  · rw [if_neg z, if_neg z]; rfl
theorem clN_le {k : Nat} {x : Int32} : clN k x ≤ k := by unfold clN; split <;> omega
theorem e_pl {a : xA} (hd : Dim N h b) (h0 : a 136 0 = Int32.ofNat h) (h1 : a 136 1 = Int32.ofNat b) : f16_place N h b x y a = some (xU (xU (xU a 136 5 (Int32.ofNat (clN (h - 1) x))) 136 6 (Int32.ofNat (clN (LL b (a 139 (clN (h - 1) x))) y))) 136 7 0) := by
  have hd' := hd
  obtain ⟨m0, m1, m2, m3, m4, m5⟩ := hd'
  unfold f16_place
  have l1 := clN_le (k := h - 1) (x := x)
  have q1 := e_lastG (N := N) (h := h) (b := b) (Y := clN (h - 1) x) (a := xU a 136 5 (Int32.ofNat (clN (h - 1) x))) hd xU_e (by rw [xU_s (by decide)]; exact h1) (by omega)
  have e139 : xU a 136 5 (Int32.ofNat (clN (h - 1) x)) 139 = a 139 := xU_o (by decide)
  rw [e139] at q1
  have lb := LL_b hd (a 139 (clN (h - 1) x))
  rw [h0, on_p (by omega), e_nearN (by omega), b2_some]
  unfold xw
  dsimp only
  rw [q1, b2_some, e_nearN (by omega), b2_some]
theorem idx_p {a : xA} {v : Int32} (hd : Dim N h b) (h0 : a 136 0 = Int32.ofNat h) (h1 : a 136 1 = Int32.ofNat b) (h8 : a 136 8 = Int32.ofNat Tp) (h9 : a 136 9 = Int32.ofNat Bt) (hT : Tp ≤ Bt) (hB : Bt < h) : f206_index N h b (xU a 136 7 v) = f206_index N h b a := by
  unfold f206_index
  have e5 : xU a 136 7 v 136 5 = a 136 5 := xU_s (by decide)
  have e6 : xU a 136 7 v 136 6 = a 136 6 := xU_s (by decide)
  have e8 : xU a 136 7 v 136 8 = a 136 8 := xU_s (by decide)
  have e9 : xU a 136 7 v 136 9 = a 136 9 := xU_s (by decide)
  rw [e5, e6, e8, e9]
  by_cases z : a 136 5 = a 136 9
  · rw [if_pos z, if_pos z, h8, h9, e_slG hd (by rw [xU_s (by decide)]; exact h0) (by rw [xU_s (by decide)]; exact h1) hT hB, e_slG hd h0 h1 hT hB, b1_some, b1_some]
    unfold xw
    congr 1
    apply xA_ext
    intro p i
    have e138 : xU a 136 7 v 138 = a 138 := xU_o (by decide)
    have e139 : xU a 136 7 v 139 = a 139 := xU_o (by decide)
    rw [e138, e139]
    simp only [xU_eq, xW_eq]
    grind
  · rw [if_neg z, if_neg z, e_pl hd (by rw [xU_s (by decide)]; exact h0) (by rw [xU_s (by decide)]; exact h1), e_pl hd h0 h1, b1_some, b1_some]
    congr 1
    apply xA_ext
    intro p i
    have e139 : xU a 136 7 v 139 = a 139 := xU_o (by decide)
    rw [e139]
    simp only [xU_eq]
    grind
/-- new cells -/
theorem RG_cl {a : xA} {f : Nat → Int32} {G : Nat → Nat → Int32} (hd : Dim N h b) (hf : Gf c0 r0 c r) (hs : Gs h b Y X Tp Bt c r) (ho : Go c r) (hv : Gv h b c r) (hc : Gc h b c r) (hC : Cs r a G (v0 r)) (h1 : ∀ y x, y < h → x < b → f (y * b + x) = G y x) (h3 : ∀ y x, y < h → ¬ v0 r y = 0 → b / 2 ≤ x → x < b → G y x = 32) :
    Gf c0 r0 (xW c 138 f) a ∧ Gs h b Y X Tp Bt (xW c 138 f) a ∧ Go (xW c 138 f) a ∧ Gv h b (xW c 138 f) a ∧ Gc h b (xW c 138 f) a := by
  obtain ⟨m0, m1, m2, m3, m4, m5⟩ := hd
  have e157 : a 157 = r 157 := hC.1 157 (by decide) (by decide)
  have e192 : a 192 = r 192 := hC.1 192 (by decide) (by decide)
  have e136 : xW c 138 f 136 = c 136 := xW_o (by decide)
  refine ⟨⟨fun p hp => ?_, fun p h4 h5 => ?_, fun i hi => ?_⟩, Gs_of hs (fun i _ => by rw [e136]) (fun i _ => by rw [e157]) (hC.2.2 Y (by have := hs.2.1.1; omega)), Go_of ho e136 (fun i _ => by rw [e157]), Gv_of hv (xW_o (by decide)) (fun i _ _ _ _ _ => by rw [e157]), ?_⟩
  · rw [xW_o (by omega)]; exact hf.1 p hp
  · rw [hC.1 p (by omega) (by omega)]; exact hf.2.1 p h4 h5
  · rw [e157]; exact hf.2.2 i hi
  · refine ⟨fun y hy => ?_, fun x hx => ?_, fun y x hy hx => ?_, fun y x hy h4 h5 h6 => ?_⟩
    · rw [xW_o (by decide), hC.2.2 y (by omega)]; exact hc.1 y hy
    · rw [xW_o (by decide), e192]; exact hc.2.1 x hx
    · rw [xW_e, h1 y x hy hx, hC.2.1 y x (by omega) (by omega)]
    · rw [hC.2.1 y x (by omega) (by omega)]
      rw [hC.2.2 y (by omega)] at h4
      exact h3 y x hy h4 h5 h6
/-- the reference makes room for a sign -/
theorem e_ins {w1 : Int32} {a : xA} {l : Nat} (hy : Y < 24) (hl : l < 80) (h3 : a 157 93 = Int32.ofNat Y) (h4 : a 157 94 = Int32.ofNat X) : ∀ (k n : Nat) {a1 : xA}, X + k ≤ l → k < n → Cs a a1 (fun y x => if y = Y ∧ X + k < x ∧ x ≤ l then s0 a y (x - 1) else s0 a y x) (v0 a) → ∃ a', l383_46 N h b w1 n (Int32.ofNat (X + k)) a1 = some (0, a') ∧ Cs a a' (fun y x => if y = Y ∧ X < x ∧ x ≤ l then s0 a y (x - 1) else s0 a y x) (v0 a)
  | 0, n, a1, h1, h2, hC => by
    obtain ⟨m, rfl⟩ : ∃ m, n = m + 1 := ⟨n - 1, by omega⟩
    have g4 : a1 157 94 = Int32.ofNat X := by rw [hC.1 157 (by decide) (by decide)]; exact h4
    rw [l383_46, g4, if_pos (show Int32.ofNat (X + 0) ≤ Int32.ofNat X from Int32.le_refl _)]
    exact ⟨a1, rfl, hC⟩
  | k + 1, n, a1, h1, h2, hC => by
    obtain ⟨m, rfl⟩ : ∃ m, n = m + 1 := ⟨n - 1, by omega⟩
    have g3 : a1 157 93 = Int32.ofNat Y := by rw [hC.1 157 (by decide) (by decide)]; exact h3
    have g4 : a1 157 94 = Int32.ofNat X := by rw [hC.1 157 (by decide) (by decide)]; exact h4
    have e1 : Int32.ofNat (X + (k + 1)) + (-1) = Int32.ofNat (X + k) := by
      rw [show X + (k + 1) = X + k + 1 by omega, Int32.ofNat_add]; show _ + 1 + -1 = _; grind
    rw [l383_46, g3, g4, if_neg (by rw [i_le (by omega) (by omega)]; omega), o80, on_p (by omega), xg_pos (g_ix (by omega) (by decide)), xg_pos (g_ix (by omega) (by decide)), i_cl (by omega), i_cl (by omega), show 80 * Y + (X + (k + 1)) - 1 = 80 * Y + (X + k) by omega, hC.2.1 Y (X + k) hy (by omega)]
    unfold xw
    dsimp only
    rw [e1]
    exact e_ins hy hl h3 h4 k m (by omega) (by omega) (Cs_eq (Cs_u hC hy (by omega)) (fun y' x' h5 h6 => by grind) (fun _ _ => rfl))
/-- a sign is set, and the cursor goes on; class and reference have new cells but for the sign's -/
theorem d_j60 {a : xA} {f : Nat → Int32} {G : Nat → Nat → Int32} (hd : Dim N h b) (hf : Gf c0 r0 c r) (hs : Gs h b Y X Tp Bt c r) (ho : Go c r) (hv : Gv h b c r) (hc : Gc h b c r) (hC : Cs r a G (v0 r)) (h1 : ∀ y x, y < h → x < b → ¬ (y = Y ∧ x = X) → f (y * b + x) = G y x) (h3 : ∀ y x, y < h → ¬ v0 r y = 0 → b / 2 ≤ x → x < b → G y x = 32) : Q2 (j205_60 N h b x (Int32.ofNat (LL b (r 191 Y))) (xW c 138 f)) (j383_90 N h b x a) (fun p q => RG h b c0 r0 p q) := by
  have hd' := hd
  obtain ⟨m0, m1, m2, m3, m4, m5⟩ := hd'
  have hs' := hs
  obtain ⟨⟨a1, a2, a3, a4⟩, ⟨b1, b2, b3, b4⟩, ⟨d1, d2, d3, d4, d5, d6, d7, d8⟩⟩ := hs'
  have lb := LL_b hd (r 191 Y)
  have e157 : a 157 = r 157 := hC.1 157 (by decide) (by decide)
  have hm := mul_ub (y := Y) (x := X) (H := h) (B := b) b1 (by omega)
  have hHB := hb_ub (H := h) (B := b) m2 m4
  unfold j205_60 j383_90 f208_here
  rw [xW_o (show (136 : Nat) ≠ 138 by decide), e157, d1, d2, d3, d4, a2, o80, ← Int32.ofNat_mul, ← Int32.ofNat_add]
  refine q_l2 rfl (q_hl (g_ix hm (by omega)) (q_hr (g_ix (by omega) (by decide)) (q_wl.mpr (q_wr.mpr ?_))))
  rw [xW_o (show (136 : Nat) ≠ 138 by decide), i_cl (by omega), i_cl (by omega)]
  have q11 : c 136 11 = r 157 97 := by unfold Go at ho; exact ho.2.2.2.1
  rw [q11]
  have es : xU (xW c 138 f) 138 (Y * b + X) (x + 256 * r 157 97) = xW c 138 (upd f (Y * b + X) (x + 256 * r 157 97)) := by
    unfold xU
    rw [xW_W, xW_e]
  rw [es]
  obtain ⟨g1, g2, g3, g4, g5⟩ := RG_cl (f := upd f (Y * b + X) (x + 256 * r 157 97)) hd hf hs ho hv hc (Cs_u (v := x + 256 * r 157 97) hC (y := Y) (x := X) (by omega) (by omega)) (fun y1 x1 h4 h5 => by
      unfold upd
      by_cases z : y1 = Y ∧ x1 = X
      · rw [if_pos z, if_pos (by rw [z.1, z.2])]
      · rw [if_neg z, if_neg (fun q => z (mul_inj h5 (by omega) q))]
        exact h1 y1 x1 h4 h5 z) (fun y1 x1 h4 h5 h6 h7 => by
      rw [if_neg (fun q => by
        have q1 := q.1
        subst q1
        have h5' : ¬ r 191 y1 = 0 := h5
        unfold LL at b2
        rw [if_neg h5'] at b2
        omega)]
      exact h3 y1 x1 h4 h5 h6 h7)
  generalize hc1 : xW c 138 (upd f (Y * b + X) (x + 256 * r 157 97)) = c1 at *
  generalize hr1 : xU a 190 (80 * Y + X) (x + 256 * r 157 97) = r1 at *
  have hR1 : RG h b c0 r0 c1 r1 := ⟨g1, ⟨Y, X, Tp, Bt, g2⟩, g3, g4, g5⟩
  have g2' := g2
  obtain ⟨⟨a1', a2', a3', a4'⟩, ⟨b1', b2', b3', b4'⟩, ⟨d1', d2', d3', d4', d5', d6', d7', d8'⟩⟩ := g2'
  have e191 : r1 191 Y = r 191 Y := by
    rw [← hr1, xU_o (by decide)]
    exact hC.2.2 Y (by omega)
  rw [d2', d3', d4']
  refine q_r2 (e_last' hd a4' b1) ?_
  rw [e191]
  by_cases z : X < LL b (r 191 Y)
  · refine q_pl (by rw [i_lt (by omega) (by omega)]; exact z) (q_nr (by rw [i_le (by omega) (by omega)]; omega) ?_)
    unfold j205_101 j205_102
    refine q_hl (Or.inl rfl) (q_wl.mpr ?_)
    rw [xU_s (show (6 : Nat) ≠ 7 by decide), d3', d2', d4', on_s]
    refine q_nl (by rw [i_le (by omega) (by omega)]; omega) (q_wl.mpr ?_)
    obtain ⟨p1, p2, t1, t2, t3⟩ := d_place (N := N) (x := Int32.ofNat Y) (y := Int32.ofNat (X + 1)) hd hR1
    have tp := e_pl (N := N) (h := h) (b := b) (a := c1) (x := Int32.ofNat Y) (y := Int32.ofNat (X + 1)) hd a1' a2'
    rw [tp] at t1
    have hz : ∀ j : Nat, j < 2 ^ 31 → (0 : Int32) ≤ Int32.ofNat j := fun j hj => by rw [show (0 : Int32) = Int32.ofNat 0 from rfl, i_le (by decide) hj]; omega
    have e1 : clN (h - 1) (Int32.ofNat Y) = Y := by unfold clN; rw [if_pos (hz _ (by omega)), i_cl (by omega), Nat.min_eq_left (by omega)]
    have e2 : c1 139 Y = r 191 Y := by rw [g5.1 Y b1, e191]
    have e3 : clN (LL b (r 191 Y)) (Int32.ofNat (X + 1)) = X + 1 := by unfold clN; rw [if_pos (hz _ (by omega)), i_cl (by omega), Nat.min_eq_left (by omega)]
    rw [e1, e2, e3] at t1
    have e4 : xU (xU c1 136 7 0) 136 6 (Int32.ofNat (X + 1)) = p1 := by
      have t1' := Option.some.inj t1
      rw [← t1']
      apply xA_ext
      intro p i
      simp only [xU_eq]
      grind
    rw [e4]
    exact q_r1 t2 (q_ok1 t3)
  · have zX : X = LL b (r 191 Y) := by omega
    refine q_nl (by rw [i_lt (by omega) (by omega)]; exact z) (q_pr (by rw [i_le (by omega) (by omega)]; omega) (q_l2 e_gh (q_r2 e_md ?_)))
    have q10 : c1 136 10 = r1 157 98 := by unfold Go at g3; exact g3.2.2.1
    rw [q10]
    have ez : (if zb (¬ r1 157 98 &&& 32 = 0) = 0 then (0 : Int32) else 1) = zb (¬ r1 157 98 &&& 32 = 0) := by
      rcases zb_01 (p := ¬ r1 157 98 &&& 32 = 0) with q | q <;> (rw [q]; rfl)
    rw [ez]
    refine q_hl zb_01 (q_wl.mpr (q_hr zb_01 (q_wr.mpr ?_)))
    rw [xU_s (show (6 : Nat) ≠ 7 by decide), d3']
    exact q_pl (by rw [i_le (by omega) (by omega)]; omega) (q_ok1 (RG_7 hR1 zb_01))
theorem d_j25 (hd : Dim N h b) (hR : RG h b c0 r0 c r) : Q2 (j205_25 N h b x c) (j383_29 N h b x r) (fun p q => RG h b c0 r0 p q) := by
  have hR' := hR
  obtain ⟨hf, ⟨Y, X, Tp, Bt, hs⟩, ho, hv, hc⟩ := hR'
  have hd' := hd
  obtain ⟨m0, m1, m2, m3, m4, m5⟩ := hd'
  have hs' := hs
  obtain ⟨⟨a1, a2, a3, a4⟩, ⟨b1, b2, b3, b4⟩, ⟨d1, d2, d3, d4, d5, d6, d7, d8⟩⟩ := hs'
  have lb := LL_b hd (r 191 Y)
  have hHB := hb_ub (H := h) (B := b) m2 m4
  have hm2 := mul_ub (y := Y) (x := LL b (r 191 Y)) (H := h) (B := b) b1 (by omega)
  unfold j205_25 j383_29
  refine q_l2 (e_last hd hs hc) (q_l2 e_gh (q_r2 e_md ?_))
  have q10 : c 136 10 = r 157 98 := by unfold Go at ho; exact ho.2.2.1
  rw [q10]
  refine q_il.mpr ⟨fun z => q_pr z ?_, fun z => q_nr z ?_⟩
  · have k := d_j60 (N := N) (x := x) (f := c 138) hd hf hs ho hv hc Cs_rfl (fun y1 x1 h4 h5 _ => hc.2.2.1 y1 x1 h4 h5) (fun y1 x1 h4 h5 h6 h7 => hc.2.2.2 y1 x1 h4 h5 h6 h7)
    have e : xW c 138 (c 138) = c := by
      funext p
      by_cases q : p = 138
      · subst q; rw [xW_e]
      · rw [xW_o q]
    rw [e] at k
    exact k
  · unfold f208_here
    refine q_l2 rfl ?_
    rw [d1, d2, d3, a2, ← Int32.ofNat_mul, ← Int32.ofNat_add, ← Int32.ofNat_sub _ _ b2, on_s]
    refine q_r2 (e_last' hd a4 b1) ?_
    have l8 : xl h b 138 = h * b := rfl
    refine q_l1 (e_slR (k := 1) rfl l8 (by omega) (by omega) (by omega) (by decide) rfl) ?_
    obtain ⟨a', t1, t2⟩ := e_ins (N := N) (h := h) (b := b) (w1 := x) (a := r) (l := LL b (r 191 Y)) (Y := Y) (X := X) (by omega) (by omega) d2 d4 (LL b (r 191 Y) - X) N (a1 := r) (by omega) (by omega) (Cs_eq Cs_rfl (fun y' x' h5 h6 => by rw [if_neg (by omega)]) (fun _ _ => rfl))
    rw [show X + (LL b (r 191 Y) - X) = LL b (r 191 Y) by omega] at t1
    refine q_rb t1 ?_
    refine d_j60 hd hf hs ho hv hc t2 (fun y1 x1 h4 h5 hne => ?_) (fun y1 x1 h4 h5 h6 h7 => ?_)
    · unfold slR
      by_cases z1 : y1 = Y
      · subst z1
        by_cases z2 : X < x1 ∧ x1 ≤ LL b (r 191 y1)
        · rw [if_pos ⟨by omega, by omega⟩, if_neg (by omega), if_pos ⟨rfl, z2.1, z2.2⟩, Nat.add_sub_assoc (by omega)]
          exact hc.2.2.1 y1 (x1 - 1) h4 (by omega)
        · rw [if_neg (by omega), if_neg (by omega)]
          exact hc.2.2.1 y1 x1 h4 h5
      · have e1 : ¬ (Y * b + X ≤ y1 * b + x1 ∧ y1 * b + x1 < Y * b + X + (LL b (r 191 Y) - X + 1)) := by
          intro q
          have u1 : Y ≤ y1 := by rw [← ge_row (F := Y) (B := b) h5]; omega
          have u2 : y1 < Y + 1 := by rw [← lt_row (F := Y + 1) (B := b) h5, Nat.add_mul]; omega
          omega
        rw [if_neg e1, if_neg (fun q => z1 q.1)]
        exact hc.2.2.1 y1 x1 h4 h5
    · have h5' : ¬ r 191 y1 = 0 := h5
      rw [if_neg (fun q => by
        have q1 := q.1
        subst q1
        have : LL b (r 191 y1) = b / 2 - 1 := by unfold LL; rw [if_neg h5']
        omega)]
      exact hc.2.2.2 y1 x1 h4 h5' h6 h7
theorem d_prt (hd : Dim N h b) (hR : RG h b c0 r0 c r) : Q2 (f205_printSign N h b x c) (f383_prints N h b x r) (fun p q => RG h b c0 r0 p q) := by
  have hR' := hR
  obtain ⟨hf, ⟨Y, X, Tp, Bt, hs⟩, ho, hv, hc⟩ := hR'
  have ho' := ho
  unfold Go at ho'
  have hs' := hs
  obtain ⟨⟨a1, a2, a3, a4⟩, ⟨b1, b2, b3, b4⟩, ⟨d1, d2, d3, d4, d5, d6, d7, d8⟩⟩ := hs'
  have hd' := hd
  obtain ⟨m0, m1, m2, m3, m4, m5⟩ := hd'
  unfold f205_printSign f383_prints
  refine q_il.mpr ⟨fun z => q_pr (ho'.1 ▸ z) (d_j25 hd hR), fun z => q_nr (ho'.1 ▸ z) (q_l2 e_gh (q_r2 e_md ?_))⟩
  rw [ho'.2.2.1]
  refine q_il.mpr ⟨fun z => q_pr z (d_j25 hd hR), fun z => q_nr z (q_wl.mpr ?_)⟩
  rw [d2]
  obtain ⟨p1, p2, t1, t2, t3⟩ := d_place (N := N) (x := Int32.ofNat Y) (y := 0) hd hR
  rw [e_pl hd a1 a2] at t1
  have hz : ∀ j : Nat, j < 2 ^ 31 → (0 : Int32) ≤ Int32.ofNat j := fun j hj => by rw [show (0 : Int32) = Int32.ofNat 0 from rfl, i_le (by decide) hj]; omega
  have e1 : clN (h - 1) (Int32.ofNat Y) = Y := by unfold clN; rw [if_pos (hz _ (by omega)), i_cl (by omega), Nat.min_eq_left (by omega)]
  have e3 : clN (LL b (c 139 Y)) 0 = 0 := by unfold clN; rw [if_pos (by decide)]; exact Nat.zero_min _
  rw [e1, e3] at t1
  have e4 : xU (xU c 136 6 0) 136 7 0 = p1 := by
    have t1' := Option.some.inj t1
    rw [← t1']
    apply xA_ext
    intro p i
    simp only [xU_eq]
    grind
  have e5 : f206_index N h b (xU c 136 6 0) = f206_index N h b p1 := by
    rw [← e4]
    exact (idx_p hd (by rw [xU_s (by decide)]; exact a1) (by rw [xU_s (by decide)]; exact a2) (by rw [xU_s (by decide)]; exact d5) (by rw [xU_s (by decide)]; exact d7) b3 b4).symm
  rw [e5]
  exact q_r1 t2 (q_b11 (d_index hd t3) (fun _ _ h1 => d_j25 hd h1))
end G
