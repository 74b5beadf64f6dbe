/-! Controls, sets, saving. -/
section G
variable {N h b : Nat} {c0 r0 c r c' r' : xA} {x y s v : Int32} {Y X Tp Bt F E k : Nat}
theorem d_nst {l : Nat} (hd : Dim N h b) (hs : Gs h b Y X Tp Bt c r) (hc : Gc h b c r) (hl : l = LL b (r 191 Y)) : ∀ (k n : Nat), k ≤ l → k < n → ∃ j, j ≤ l ∧ l210_21 N h b (Int32.ofNat l) n (Int32.ofNat (l - k)) c = some (0, Int32.ofNat j, c) ∧ l391_107 N h b n (Int32.ofNat (l - k)) r = some (0, Int32.ofNat j, r)
  | 0, n, h1, h2 => by
    obtain ⟨m, rfl⟩ : ∃ m, n = m + 1 := ⟨n - 1, by omega⟩
    have e := e_last' (N := N) (h := h) (b := b) (r := r) (yy := Y) hd hs.1.2.2.2 hs.2.1.1
    refine ⟨l, Nat.le_refl _, ?_, ?_⟩
    · rw [l210_21, Nat.sub_zero, if_pos (Int32.le_refl _)]
    · rw [l391_107, hs.2.2.2.1, e, b2_some, ← hl, Nat.sub_zero, if_pos (Int32.le_refl _)]
  | k + 1, n, h1, h2 => by
    obtain ⟨m, rfl⟩ : ∃ m, n = m + 1 := ⟨n - 1, by omega⟩
    have lb := LL_b hd (r 191 Y)
    have hd' := hd
    obtain ⟨m0, m1, m2, m3, m4, m5⟩ := hd'
    have e := e_last' (N := N) (h := h) (b := b) (r := r) (yy := Y) hd hs.1.2.2.2 hs.2.1.1
    have es := hc.2.1 (l - (k + 1)) (by omega)
    obtain ⟨j, j1, j2, j3⟩ := d_nst hd hs hc hl k m (by omega) (by omega)
    have ne : ¬ Int32.ofNat l ≤ Int32.ofNat (l - (k + 1)) := by rw [i_le (by omega) (by omega)]; omega
    rw [l210_21, l391_107, hs.2.2.2.1, e, b2_some, ← hl, if_neg ne, if_neg ne, xg_pos (g_ix (by omega) (by omega)), xg_pos (g_ix (by omega) (by decide)), i_cl (by omega), es, on_s, show l - (k + 1) + 1 = l - k by omega]
    by_cases z : r 192 (l - (k + 1)) = 0
    · rw [if_pos z, if_pos z]
      exact ⟨j, j1, j2, j3⟩
    · rw [if_neg z, if_neg z]
      exact ⟨l - (k + 1), by omega, rfl, rfl⟩
theorem d_ctl (hd : Dim N h b) (hR : RG h b c0 r0 c r) : Q2 (f209_control N h b x c) (f391_control N h b x r) (fun p q => RG h b c0 r0 p q) := by
  have hR' := hR
  obtain ⟨hf, ⟨Y, X, Tp, Bt, hs⟩, ho, hv, hc⟩ := hR'
  have hs' := hs
  obtain ⟨⟨a1, a2, a3, a4⟩, ⟨b1, b2, b3, b4⟩, ⟨d1, d2, d3, d4, d5, d6, d7, d8⟩⟩ := hs'
  have hd' := hd
  obtain ⟨m0, m1, m2, m3, m4, m5⟩ := hd'
  have lb := LL_b hd (r 191 Y)
  have q10 : c 136 10 = r 157 98 := by unfold Go at ho; exact ho.2.2.1
  unfold f209_control f391_control
  refine q_il.mpr ⟨fun z => q_pr z (q_wl.mpr (q_wr.mpr (q_ok1 (RG_15 hR)))), fun z => q_nr z ?_⟩
  refine q_il.mpr ⟨fun z => q_pr z ?_, fun z => q_nr z ?_⟩
  · rw [d1, d2, d3, d4]
    exact q_b11 (d_place hd hR) (fun _ _ h1 => q_ok1 h1)
  refine q_il.mpr ⟨fun z => q_pr z ?_, fun z => q_nr z ?_⟩
  · unfold f210_goToNextStop
    rw [b1_2, d2]
    refine q_l2 (e_last hd hs hc) (q_r2 (e_last' hd a4 b1) ?_)
    rw [b1_i, d3, d4]
    by_cases q : X = LL b (r 191 Y)
    · refine q_nl (by rw [i_lt (by omega) (by omega)]; omega) (q_pr (by rw [q]) (q_ok1 hR))
    · refine q_pl (by rw [i_lt (by omega) (by omega)]; omega) (q_nr (by rw [i_eq (by omega) (by omega)]; exact q) ?_)
      obtain ⟨j, j1, j2, j3⟩ := d_nst (N := N) (l := LL b (r 191 Y)) hd hs hc rfl (LL b (r 191 Y) - (X + 1)) N (by omega) (by omega)
      rw [show LL b (r 191 Y) - (LL b (r 191 Y) - (X + 1)) = X + 1 by omega] at j2 j3
      rw [b1_b, on_s]
      refine q_lb j2 (q_rb j3 ?_)
      unfold j210_41 j391_134
      rw [b1_1]
      dsimp only
      rw [d1, d2]
      exact q_b11 (d_place hd hR) (fun _ _ h1 => q_ok1 h1)
  refine q_il.mpr ⟨fun z => q_pr z (q_l2 e_gh (q_r2 e_md ?_)), fun z => q_nr z ?_⟩
  · rw [q10]
    unfold j209_130 j391_163
    refine q_il.mpr ⟨fun z => q_pr z (q_b11 (d_index hd hR) (fun _ _ h1 => q_ok1 h1)), fun z => q_nr z ?_⟩
    rw [d1, d2]
    exact q_b11 (d_place hd hR) (fun _ _ h1 => q_b11 (d_index hd h1) (fun _ _ h2 => q_ok1 h2))
  refine q_il.mpr ⟨fun z => q_pr z ?_, fun z => q_nr z ?_⟩
  · rw [d1, d2]
    exact q_b11 (d_place hd hR) (fun _ _ h1 => q_ok1 h1)
  refine q_il.mpr ⟨fun z => q_pr z (q_wl.mpr (q_wr.mpr (q_ok1 (RG_13 hR (Or.inr rfl))))), fun z => q_nr z ?_⟩
  exact q_il.mpr ⟨fun z => q_pr z (q_wl.mpr (q_wr.mpr (q_ok1 (RG_13 hR (Or.inl rfl))))), fun z => q_nr z (q_ok1 hR)⟩
theorem sgn {p q u : Int32} (hp : p = 0 ∨ p = 1) (hq : q = 0 ∨ q = 1) (hu : u = 0 ∨ u = 1) : ((p + 2 * q) >>> (u &&& 31)) &&& 1 = if u = 0 then p else q := by
  rcases hp with rfl | rfl <;> rcases hq with rfl | rfl <;> rcases hu with rfl | rfl <;> rfl
theorem d_letS (hd : Dim N h b) (hR : RG h b c0 r0 c r) : Q2 (f211_print N h b x c) (f392_letterSeen N h b x r) (fun p q => RG h b c0 r0 p q) := by
  have ho := hR.2.2.1
  unfold Go at ho
  obtain ⟨g1, g2, g3, g4, g5, g6, g7, g8, g9, g10, g11, g12⟩ := ho
  unfold f211_print f392_letterSeen j211_24 j211_25 j392_38 j392_39
  have e : (c 136 12 >>> (c 136 13 &&& 31)) &&& 1 = if r 157 103 = 0 then r 157 109 else r 157 110 := by
    rw [g5, g8]
    exact sgn g6 g7 (g8 ▸ g9)
  rw [e]
  refine q_il.mpr ⟨fun z => q_pr z (q_b11 (d_prt hd hR) (fun _ _ h1 => q_ok1 h1)), fun z => q_nr z ?_⟩
  have e2 : (if (if x < 95 then (0 : Int32) else 1) = 0 then x else x + 128) = if x < 95 then x else x + 128 := by
    by_cases q : x < 95
    · rw [if_pos q, if_pos q, if_pos rfl]
    · rw [if_neg q, if_neg q, if_neg (by decide)]
  rw [e2]
  exact q_b11 (d_prt hd hR) (fun _ _ h1 => q_ok1 h1)
/-- what is saved is new -/
theorem RG_v (hR : RG h b c0 r0 c r) (h1 : ∀ p, p ≠ 137 → c' p = c p) (h2 : ∀ p, p ≠ 157 → r' p = r p) (h3 : ∀ i, ¬ (104 ≤ i ∧ i ≤ 107) → ¬ (111 ≤ i ∧ i ≤ 113) → r' 157 i = r 157 i) (h4 : Gv h b c' r') : RG h b c0 r0 c' r' := by
  obtain ⟨hf, ⟨Y, X, Tp, Bt, hs⟩, ho, hv, hc⟩ := hR
  have e136 := h1 136 (by decide)
  refine ⟨⟨fun p hp => ?_, fun p h5 h6 => ?_, fun i hi => ?_⟩, ⟨Y, X, Tp, Bt, Gs_of hs (fun i _ => by rw [e136]) (fun i hi => h3 i (by omega) (by omega)) (by rw [h2 191 (by decide)])⟩, ?_, h4, Gc_of hc (h1 138 (by decide)) (h1 139 (by decide)) (h1 140 (by decide)) (h2 190 (by decide)) (h2 191 (by decide)) (h2 192 (by decide))⟩
  · rw [h1 p (by omega)]; exact hf.1 p hp
  · rw [h2 p h5]; exact hf.2.1 p h5 h6
  · rw [h3 i (fun q => hi (by unfold gI; omega)) (fun q => hi (by unfold gI; omega))]; exact hf.2.2 i hi
  · unfold Go at *
    rw [e136, h3 108 (by decide) (by decide), h3 98 (by decide) (by decide), h3 97 (by decide) (by decide), h3 109 (by decide) (by decide), h3 110 (by decide) (by decide), h3 103 (by decide) (by decide), h3 99 (by decide) (by decide), h3 100 (by decide) (by decide), h3 81 (by decide) (by decide)]
    exact ho
theorem d_save (hd : Dim N h b) (hR : RG h b c0 r0 c r) : Q2 (f18_save N h b c) (f362_saves N h b r) (fun p q => RG h b c0 r0 p q) := by
  have hR' := hR
  obtain ⟨hf, ⟨Y, X, Tp, Bt, hs⟩, ho, hv, hc⟩ := hR'
  unfold Go at ho
  obtain ⟨g1, g2, g3, g4, g5, g6, g7, g8, g9, g10, g11, g12⟩ := ho
  obtain ⟨⟨a1, a2, a3, a4⟩, ⟨b1, b2, b3, b4⟩, ⟨d1, d2, d3, d4, d5, d6, d7, d8⟩⟩ := hs
  have lb := LL_b hd (r 191 Y)
  unfold f18_save f362_saves
  simp only [xw]
  have t1 : xU (xU (xU r 157 104 (r 157 93)) 157 105 (xU r 157 104 (r 157 93) 157 94)) 157 106 (xU (xU r 157 104 (r 157 93)) 157 105 (xU r 157 104 (r 157 93) 157 94) 157 97) 157 109 = r 157 109 := by simp [xU_eq]
  refine q_hr (by simp [xU_eq]; exact g6) (q_hr (by simp [xU_eq]; exact g7) (q_r2 e_md (q_hr zb_01 (q_ok1 ?_))))
  refine RG_v hR (fun p hp => ?_) (fun p hp => ?_) (fun i h1 h2 => ?_) ?_
  · rw [xU_o hp, xU_o hp, xU_o hp, xU_o hp, xU_o hp, xU_o hp]
  · rw [xU_o hp, xU_o hp, xU_o hp, xU_o hp, xU_o hp, xU_o hp, xU_o hp]
  · rw [xU_s (by omega), xU_s (by omega), xU_s (by omega), xU_s (by omega), xU_s (by omega), xU_s (by omega), xU_s (by omega)]
  · unfold Gv
    simp [xU_eq]
    refine ⟨⟨Y, b1, X, by omega, d1, d2, d3, d4⟩, g4, g5, g6, g7, g8, g9, ?_⟩
    rw [g3]
    by_cases q : r 157 98 &&& 16 = 0
    · exact Or.inl ⟨q, zb_f (fun n => n q)⟩
    · exact Or.inr ⟨q, zb_t q⟩
theorem Go_mk {v1 v2 v3 v4 v5 : Int32} (ho : Go c r) (h2 : v2 = 0 ∨ v2 = 1) (h3 : v3 = 0 ∨ v3 = 1) (h4 : v4 = 0 ∨ v4 = 1) : Go (xU (xU (xU (xU c 136 11 v1) 136 12 (v2 + 2 * v3)) 136 13 v4) 136 10 v5) (xU (xU (xU (xU (xU r 157 97 v1) 157 109 v2) 157 110 v3) 157 103 v4) 157 98 v5) := by
  unfold Go at *
  simp [xU_eq]
  grind
theorem d_rest (hd : Dim N h b) (hR : RG h b c0 r0 c r) : Q2 (f215_restore N h b c) (f395_plainEscape N h b 56 r) (fun p q => RG h b c0 r0 p q) := by
  have hR' := hR
  obtain ⟨hf, ⟨Y, X, Tp, Bt, hs⟩, ho, hv, hc⟩ := hR'
  have hv' := hv
  unfold Gv at hv'
  obtain ⟨⟨SY, SX, s1, s2, s3, s4, s5, s6⟩, e2, e3, e4, e5, e6, e7, e8⟩ := hv'
  have g3 : c 136 10 = r 157 98 := by unfold Go at ho; exact ho.2.2.1
  unfold f215_restore f395_plainEscape f216_turn
  refine q_nr (by decide) (q_pr rfl ?_)
  simp only [xw, b1_some]
  refine q_hr (by simp [xU_eq]; exact e4) (q_hr (by simp [xU_eq]; exact e5) ?_)
  have hm : (if (if c 137 5 = 0 then (0 : Int32) else 1) = 0 then c 136 10 &&& (16 ^^^ (-1)) else c 136 10 ||| 16) = (if r 157 113 = 0 then r 157 98 &&& (-17) else r 157 98 ||| 16) := by
    have el : (16 : Int32) ^^^ (-1) = -17 := rfl
    rw [g3, el]
    rcases e8 with ⟨q1, q2⟩ | ⟨q1, q2⟩
    · rw [if_pos q1, if_pos rfl, if_pos q2]
    · rw [if_neg q1, if_neg (by decide), if_neg (by rw [q2]; decide)]
  have hL : xU (xU (xU (xU c 136 11 (c 137 2)) 136 12 (xU c 136 11 (c 137 2) 137 3)) 136 13 (xU (xU c 136 11 (c 137 2)) 136 12 (xU c 136 11 (c 137 2) 137 3) 137 4)) 136 10 (if (if xU (xU (xU c 136 11 (c 137 2)) 136 12 (xU c 136 11 (c 137 2) 137 3)) 136 13 (xU (xU c 136 11 (c 137 2)) 136 12 (xU c 136 11 (c 137 2) 137 3) 137 4) 137 5 = 0 then (0 : Int32) else 1) = 0 then xU (xU (xU c 136 11 (c 137 2)) 136 12 (xU c 136 11 (c 137 2) 137 3)) 136 13 (xU (xU c 136 11 (c 137 2)) 136 12 (xU c 136 11 (c 137 2) 137 3) 137 4) 136 10 &&& (16 ^^^ (-1)) else xU (xU (xU c 136 11 (c 137 2)) 136 12 (xU c 136 11 (c 137 2) 137 3)) 136 13 (xU (xU c 136 11 (c 137 2)) 136 12 (xU c 136 11 (c 137 2) 137 3) 137 4) 136 10 ||| 16) = xU (xU (xU (xU c 136 11 (r 157 106)) 136 12 (r 157 111 + 2 * r 157 112)) 136 13 (r 157 107)) 136 10 (if r 157 113 = 0 then r 157 98 &&& (-17) else r 157 98 ||| 16) := by
    rw [← hm, ← e2, ← e3, ← e6]
    rfl
  rw [hL]
  have hR1 : RG h b c0 r0 (xU (xU (xU (xU c 136 11 (r 157 106)) 136 12 (r 157 111 + 2 * r 157 112)) 136 13 (r 157 107)) 136 10 (if r 157 113 = 0 then r 157 98 &&& (-17) else r 157 98 ||| 16)) (xU (xU (xU (xU (xU r 157 97 (r 157 106)) 157 109 (r 157 111)) 157 110 (r 157 112)) 157 103 (r 157 107)) 157 98 (if r 157 113 = 0 then r 157 98 &&& (-17) else r 157 98 ||| 16)) := by
    have gg : ∀ j, j = 97 ∨ j = 109 ∨ j = 110 ∨ j = 103 ∨ j = 98 → gI j := fun j hj => by unfold gI; omega
    refine ⟨Gf_u (Gf_u (Gf_u (Gf_r (Gf_u hf (by decide) (Or.inr ⟨rfl, gg 97 (by omega)⟩)) (Or.inr ⟨rfl, gg 109 (by omega)⟩)) (by decide) (Or.inr ⟨rfl, gg 110 (by omega)⟩)) (by decide) (Or.inr ⟨rfl, gg 103 (by omega)⟩)) (by decide) (Or.inr ⟨rfl, gg 98 (by omega)⟩), ⟨Y, X, Tp, Bt, Gs_of hs (fun i hi => by rw [xU_s (by omega), xU_s (by omega), xU_s (by omega), xU_s (by omega)]) (fun i hi => by rw [xU_s (by omega), xU_s (by omega), xU_s (by omega), xU_s (by omega), xU_s (by omega)]) rfl⟩, Go_mk ho e4 e5 (e6 ▸ e7), Gv_of hv rfl (fun i h1 h2 h3 h4 h5 => by rw [xU_s (by omega), xU_s (by omega), xU_s (by omega), xU_s (by omega), xU_s (by omega)]), Gc_of hc rfl rfl rfl rfl rfl rfl⟩
  have k := d_place (N := N) (x := Int32.ofNat SY) (y := Int32.ofNat SX) hd hR1
  have r1 : (xU (xU (xU (xU c 136 11 (r 157 106)) 136 12 (r 157 111 + 2 * r 157 112)) 136 13 (r 157 107)) 136 10 (if r 157 113 = 0 then r 157 98 &&& (-17) else r 157 98 ||| 16)) 137 0 = Int32.ofNat SY := s3
  have r2 : (xU (xU (xU (xU c 136 11 (r 157 106)) 136 12 (r 157 111 + 2 * r 157 112)) 136 13 (r 157 107)) 136 10 (if r 157 113 = 0 then r 157 98 &&& (-17) else r 157 98 ||| 16)) 137 1 = Int32.ofNat SX := s5
  rw [r1, r2]
  have k2 : Q2 (xb1 (f16_place N h b (Int32.ofNat SY) (Int32.ofNat SX) (xU (xU (xU (xU c 136 11 (r 157 106)) 136 12 (r 157 111 + 2 * r 157 112)) 136 13 (r 157 107)) 136 10 (if r 157 113 = 0 then r 157 98 &&& (-17) else r 157 98 ||| 16))) (fun a18 => some a18)) (xb1 (f384_goes N h b (Int32.ofNat SY) (Int32.ofNat SX) (xU (xU (xU (xU (xU r 157 97 (r 157 106)) 157 109 (r 157 111)) 157 110 (r 157 112)) 157 103 (r 157 107)) 157 98 (if r 157 113 = 0 then r 157 98 &&& (-17) else r 157 98 ||| 16))) (fun a28 => some a28)) (fun p q => RG h b c0 r0 p q) := q_b11 k (fun _ _ h1 => q_ok1 h1)
  rw [← s4, ← s6] at k2
  rw [← s4, ← s6]
  exact k2
end G
