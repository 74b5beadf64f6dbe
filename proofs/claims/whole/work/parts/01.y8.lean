/-! Margins, stops, widths, reset. -/
section G
variable {N h b : Nat} {c0 r0 c r c' r' : xA} {x y s v : Int32} {Y X Tp Bt F E k : Nat}
theorem d_marg {n q : Nat} (hd : Dim N h b) (hR : RG h b c0 r0 c r) (hn : 1 ≤ n) (hn2 : n ≤ 9999) (hq : 1 ≤ q) (hq2 : q ≤ 9999) : Q2 (f235_setMargins N h b (Int32.ofNat n) (Int32.ofNat q) c) (f407_margins N h b (Int32.ofNat n) (Int32.ofNat q) r) (fun p q => RG h b c0 r0 p q) := by
  have hR' := hR
  obtain ⟨hf, ⟨Y, X, Tp, Bt, hs⟩, ho, hv, hc⟩ := hR'
  have hs' := hs
  obtain ⟨⟨a1, a2, a3, a4⟩, ⟨b1, b2, b3, b4⟩, ⟨d1, d2, d3, d4, d5, d6, d7, d8⟩⟩ := hs'
  have hd' := hd
  obtain ⟨m0, m1, m2, m3, m4, m5⟩ := hd'
  unfold f235_setMargins f407_margins
  rw [a1, a3]
  refine q_il.mpr ⟨fun z => q_pr z (q_ok1 hR), fun z1 => q_nr z1 ?_⟩
  rw [i_le (by omega) (by omega)] at z1
  by_cases z2 : h < q
  · exact q_pl (by rw [i_lt (by omega) (by omega)]; exact z2) (q_nr (by rw [i_le (by omega) (by omega)]; omega) (q_ok1 hR))
  refine q_nl (by rw [i_lt (by omega) (by omega)]; exact z2) (q_pr (by rw [i_le (by omega) (by omega)]; omega) (q_wl.mpr (q_wl.mpr (q_wr.mpr (q_wr.mpr ?_)))))
  rw [on_p hn, on_p hq]
  have g1 : gI 95 := by unfold gI; omega
  have g2 : gI 96 := by unfold gI; omega
  have hR1 : RG h b c0 r0 (xU (xU c 136 8 (Int32.ofNat (n - 1))) 136 9 (Int32.ofNat (q - 1))) (xU (xU r 157 95 (Int32.ofNat (n - 1))) 157 96 (Int32.ofNat (q - 1))) := by
    refine ⟨Gf_u (Gf_u hf (by decide) (Or.inr ⟨rfl, g1⟩)) (by decide) (Or.inr ⟨rfl, g2⟩), ⟨Y, X, n - 1, q - 1, ?_⟩, ?_, Gv_of hv rfl (fun i h1 h2 h3 h4 h5 => by rw [xU_s (by omega), xU_s (by omega)]), Gc_of hc rfl rfl rfl rfl rfl rfl⟩
    · refine ⟨⟨a1, a2, a3, a4⟩, ⟨b1, b2, by omega, by omega⟩, ⟨d1, d2, d3, d4, ?_, ?_, ?_, ?_⟩⟩
      all_goals simp [xU_eq]
    · unfold Go at *
      simp [xU_eq]
      exact ho
  have q10 : c 136 10 = r 157 98 := by unfold Go at ho; exact ho.2.2.1
  refine q_l2 e_gh (q_r2 e_md ?_)
  have e1 : xU (xU c 136 8 (Int32.ofNat (n - 1))) 136 9 (Int32.ofNat (q - 1)) 136 10 = r 157 98 := q10
  have e2 : xU (xU r 157 95 (Int32.ofNat (n - 1))) 157 96 (Int32.ofNat (q - 1)) 157 98 = r 157 98 := rfl
  have e3 : xU (xU c 136 8 (Int32.ofNat (n - 1))) 136 9 (Int32.ofNat (q - 1)) 136 8 = Int32.ofNat (n - 1) := by simp [xU_eq]
  have e4 : xU (xU r 157 95 (Int32.ofNat (n - 1))) 157 96 (Int32.ofNat (q - 1)) 157 95 = Int32.ofNat (n - 1) := by simp [xU_eq]
  rw [e1, e2, e3, e4]
  exact q_b11 (d_place hd hR1) (fun _ _ h1 => q_ok1 h1)
/-- stops -/
theorem RG_s (hR : RG h b c0 r0 c r) {f g : Nat → Int32} (h1 : ∀ x, x < b → f x = g x) : RG h b c0 r0 (xW c 140 f) (xW r 192 g) := by
  obtain ⟨hf, ⟨Y, X, Tp, Bt, hs⟩, ho, hv, hc⟩ := hR
  refine ⟨⟨fun p hp => ?_, fun p h4 h5 => ?_, fun i hi => ?_⟩, ⟨Y, X, Tp, Bt, hs⟩, ho, hv, hc.1, fun x hx => ?_, hc.2.2⟩
  · rw [xW_o (by omega)]; exact hf.1 p hp
  · rw [xW_o (by omega)]; exact hf.2.1 p h4 h5
  · rw [xW_o (by decide)]; exact hf.2.2 i hi
  · rw [xW_e, xW_e]; exact h1 x hx
theorem RG_s1 (hR : RG h b c0 r0 c r) : RG h b c0 r0 (xU c 140 X v) (xU r 192 X v) := by
  have hc := hR.2.2.2.2
  unfold xU
  refine RG_s hR (fun x hx => ?_)
  unfold upd
  split
  · rfl
  · exact hc.2.1 x hx
theorem d_clst (hd : Dim N h b) (hR : RG h b c0 r0 c r) : Q2 (f240_clearStops N h b c) ((l401_620 N h b N 0 r).bind (fun z110 => some z110.2)) (fun p q => RG h b c0 r0 p q) := by
  have hR' := hR
  obtain ⟨hf, ⟨Y, X, Tp, Bt, hs⟩, ho, hv, hc⟩ := hR'
  have hd' := hd
  obtain ⟨m0, m1, m2, m3, m4, m5⟩ := hd'
  unfold f240_clearStops
  obtain ⟨c', e1, e2⟩ := lp_up (L := l240_2 N h b) (hi := b) (out := fun a => (0, a)) (P := fun j a' => ∃ f, a' = xW c 140 f ∧ ∀ i, f i = if i < j then 0 else c 140 i)
    (fun n j a1 h1 h2 => by
      obtain ⟨f, rfl, hf⟩ := h1
      rw [l240_2, xW_o (show (136 : Nat) ≠ 140 by decide), hs.1.2.1, if_neg (by rw [i_le (by omega) (by omega)]; omega), xg_pos (g_ix h2 (by omega)), i_cl (by omega), on_s]
      refine ⟨_, rfl, upd f j 0, by unfold xU; rw [xW_W, xW_e], fun i => ?_⟩
      unfold upd
      rw [hf]
      grind)
    (fun n a1 h1 => by
      obtain ⟨f, rfl, hf⟩ := h1
      rw [l240_2, xW_o (show (136 : Nat) ≠ 140 by decide), hs.1.2.1, if_pos (Int32.le_refl _)])
    b 0 N c (by omega) (by omega) ⟨c 140, by funext p; by_cases q : p = 140; subst q; rw [xW_e]; rw [xW_o q], fun i => by rw [if_neg (by omega)]⟩
  obtain ⟨r', e3, e4⟩ := lp_up (L := l401_620 N h b) (hi := 80) (out := fun a => (0, a)) (P := fun j a' => ∃ f, a' = xW r 192 f ∧ ∀ i, f i = if i < j then 0 else r 192 i)
    (fun n j a1 h1 h2 => by
      obtain ⟨f, rfl, hf⟩ := h1
      rw [l401_620, if_neg (by rw [show (80 : Int32) = Int32.ofNat 80 from rfl, i_le (by omega) (by omega)]; omega), xg_pos (g_ix h2 (by decide)), i_cl (by omega), on_s]
      refine ⟨_, rfl, upd f j 0, by unfold xU; rw [xW_W, xW_e], fun i => ?_⟩
      unfold upd
      rw [hf]
      grind)
    (fun n a1 h1 => by rw [l401_620, if_pos (by decide)])
    80 0 N r (by omega) (by omega) ⟨r 192, by funext p; by_cases q : p = 192; subst q; rw [xW_e]; rw [xW_o q], fun i => by rw [if_neg (by omega)]⟩
  obtain ⟨f, rfl, hf1⟩ := e2
  obtain ⟨g, rfl, hg1⟩ := e4
  refine q_lb e1 (q_rb e3 (q_ok1 (RG_s hR (fun x hx => ?_))))
  rw [hf1, hg1, if_pos hx, if_pos (by omega)]
def stF (i : Nat) : Int32 := if 0 < i ∧ i % 8 = 0 then 1 else 0
theorem d_reset (hd : Dim N h b) (hR : RG h b c0 r0 c r) : Q2 (f13_reset N h b c) (f361_anew N h b r) (fun p q => RG h b c0 r0 p q) := by
  have hR' := hR
  obtain ⟨hf, ⟨Y, X, Tp, Bt, hs⟩, ho, hv, hc⟩ := hR'
  have hs' := hs
  obtain ⟨⟨a1, a2, a3, a4⟩, ⟨b1, b2, b3, b4⟩, _⟩ := hs'
  have hd' := hd
  obtain ⟨m0, m1, m2, m3, m4, m5⟩ := hd'
  have hHB := hb_ub (H := h) (B := b) m2 m4
  unfold f13_reset f361_anew
  have l8 : xl h b 138 = h * b := rfl
  have l9 : xl h b 139 = h := rfl
  refine q_l1 (e_fill (A := 0) (n := h * b) rfl l8 (by omega) (Nat.le_refl _) (by omega)) ?_
  rw [xW_o (show (136 : Nat) ≠ 138 by decide), a1]
  refine q_l1 (e_fill (A := 0) (n := h) rfl l9 (by omega) (Nat.le_refl _) (by omega)) ?_
  generalize hc1 : xW (xW c 138 (am_fll (c 138) 0 (h * b) 32)) 139 (am_fll (xW c 138 (am_fll (c 138) 0 (h * b) 32) 139) 0 h 0) = c1
  have k136 : c1 136 = c 136 := by rw [← hc1, xW_o (by decide), xW_o (by decide)]
  obtain ⟨c2, e1, f, e2, e2'⟩ := lp_up (L := l13_30 N h b) (hi := b) (out := fun a => (0, a)) (P := fun j a' => ∃ f, a' = xW c1 140 f ∧ ∀ i, i < j → f i = stF i)
    (fun n j a1 h1 h2 => by
      obtain ⟨f, rfl, hf⟩ := h1
      rw [l13_30, xW_o (show (136 : Nat) ≠ 140 by decide), k136, a2, if_neg (by rw [i_le (by omega) (by omega)]; omega)]
      unfold j13_58 j13_59
      have em : Int32.ofNat j - Int32.ofNat j / 8 * 8 = Int32.ofNat (j % 8) := i_modn (n := 8) (by omega) (by decide)
      have l8 : j % 8 < 8 := Nat.mod_lt _ (by decide)
      by_cases z : j = 0
      · subst z
        rw [if_pos (by decide), xg_pos (g_ix (by omega) (by omega)), i_cl (by omega), on_s]
        refine ⟨_, rfl, upd f 0 (vp_nar .boolean 0), by unfold xU; rw [xW_W, xW_e], fun i hi => ?_⟩
        have : i = 0 := by omega
        subst this
        rfl
      · rw [if_neg (by rw [show (0 : Int32) = Int32.ofNat 0 from rfl, i_le (by omega) (by decide)]; omega), xg_pos (g_ix h2 (by omega)), i_cl (by omega), on_s, em]
        refine ⟨_, rfl, _, by unfold xU; rw [xW_W, xW_e], fun i hi => ?_⟩
        unfold upd
        by_cases q : i = j
        · subst q
          rw [if_pos rfl]
          unfold stF
          by_cases q2 : i % 8 = 0
          · rw [if_pos (by rw [q2]; rfl), if_pos ⟨by omega, q2⟩]; rfl
          · rw [if_neg (by rw [show (0 : Int32) = Int32.ofNat 0 from rfl, i_eq (by omega) (by decide)]; exact q2), if_neg (fun q => q2 q.2)]; rfl
        · rw [if_neg q]; exact hf i (by omega))
    (fun n a1 h1 => by
      obtain ⟨f, rfl, hf⟩ := h1
      rw [l13_30, xW_o (show (136 : Nat) ≠ 140 by decide), k136, a2, if_pos (Int32.le_refl _)])
    b 0 N c1 (by omega) (by omega) ⟨c1 140, by funext p; by_cases q : p = 140; subst q; rw [xW_e]; rw [xW_o q], fun i hi => by omega⟩
  obtain ⟨r1, e3, e4⟩ := lp_up (L := l361_2 N h b) (hi := 1920) (out := fun a => (0, a)) (P := fun j a' => (∀ p, p ≠ 190 → a' p = r p) ∧ ∀ i, i < j → a' 190 i = 32)
    (fun n j a1 h1 h2 => by
      rw [l361_2, if_neg (by rw [show (1920 : Int32) = Int32.ofNat 1920 from rfl, i_le (by omega) (by omega)]; omega), xg_pos (g_ix h2 (by decide)), i_cl (by omega), on_s]
      exact ⟨_, rfl, fun p hp => by rw [xU_o hp]; exact h1.1 p hp, fun i hi => by rw [xU_eq]; split; rfl; exact h1.2 i (by omega)⟩)
    (fun n a1 h1 => by rw [l361_2, if_pos (by decide)])
    1920 0 N r (by omega) (by omega) ⟨fun _ _ => rfl, fun i hi => by omega⟩
  obtain ⟨r2, e5, e6⟩ := lp_up (L := l361_25 N h b) (hi := 24) (out := fun a => (0, a)) (P := fun j a' => (∀ p, p ≠ 191 → a' p = r1 p) ∧ ∀ i, i < j → a' 191 i = 0)
    (fun n j a1 h1 h2 => by
      rw [l361_25, if_neg (by rw [show (24 : Int32) = Int32.ofNat 24 from rfl, i_le (by omega) (by omega)]; omega), xg_pos (g_ix h2 (by decide)), i_cl (by omega), on_s]
      exact ⟨_, rfl, fun p hp => by rw [xU_o hp]; exact h1.1 p hp, fun i hi => by rw [xU_eq]; split; rfl; exact h1.2 i (by omega)⟩)
    (fun n a1 h1 => by rw [l361_25, if_pos (by decide)])
    24 0 N r1 (by omega) (by omega) ⟨fun _ _ => rfl, fun i hi => by omega⟩
  obtain ⟨r3, e7, e8⟩ := lp_up (L := l361_46 N h b) (hi := 80) (out := fun a => (0, a)) (P := fun j a' => (∀ p, p ≠ 192 → a' p = r2 p) ∧ ∀ i, i < j → a' 192 i = stF i)
    (fun n j a1 h1 h2 => by
      rw [l361_46, if_neg (by rw [show (80 : Int32) = Int32.ofNat 80 from rfl, i_le (by omega) (by omega)]; omega)]
      unfold j361_72 j361_73
      have em : Int32.ofNat j - Int32.ofNat j / 8 * 8 = Int32.ofNat (j % 8) := i_modn (n := 8) (by omega) (by decide)
      have l8 : j % 8 < 8 := Nat.mod_lt _ (by decide)
      by_cases z : j = 0
      · subst z
        rw [if_pos (by decide), xg_pos (g_ix (by omega) (by omega)), i_cl (by omega), on_s]
        refine ⟨_, rfl, fun p hp => by rw [xU_o hp]; exact h1.1 p hp, fun i hi => ?_⟩
        have : i = 0 := by omega
        subst this
        rw [xU_e]
        rfl
      · rw [if_neg (by rw [show (0 : Int32) = Int32.ofNat 0 from rfl, i_le (by omega) (by decide)]; omega), xg_pos (g_ix h2 (by omega)), i_cl (by omega), on_s, em]
        refine ⟨_, rfl, fun p hp => by rw [xU_o hp]; exact h1.1 p hp, fun i hi => ?_⟩
        rw [xU_eq]
        by_cases q : i = j
        · subst q
          rw [if_pos ⟨rfl, rfl⟩]
          unfold stF
          by_cases q2 : i % 8 = 0
          · rw [if_pos (by rw [q2]; rfl), if_pos ⟨by omega, q2⟩]; rfl
          · rw [if_neg (by rw [show (0 : Int32) = Int32.ofNat 0 from rfl, i_eq (by omega) (by decide)]; exact q2), if_neg (fun q => q2 q.2)]; rfl
        · rw [if_neg (fun z => q z.2)]; exact h1.2 i (by omega))
    (fun n a1 h1 => by rw [l361_46, if_pos (by decide)])
    80 0 N r2 (by omega) (by omega) ⟨fun _ _ => rfl, fun i hi => by omega⟩
  refine q_lb e1 (q_rb e3 (q_rb e5 (q_rb e7 ?_)))
  have z157 : r3 157 = r 157 := by rw [e8.1 157 (by decide), e6.1 157 (by decide), e4.1 157 (by decide)]
  have z190 : ∀ i, i < 1920 → r3 190 i = 32 := fun i hi => by rw [e8.1 190 (by decide), e6.1 190 (by decide)]; exact e4.2 i hi
  have z191 : ∀ i, i < 24 → r3 191 i = 0 := fun i hi => by rw [e8.1 191 (by decide)]; exact e6.2 i hi
  have zo : ∀ p, ¬ (190 ≤ p ∧ p ≤ 192) → r3 p = r p := fun p hp => by rw [e8.1 p (by omega), e6.1 p (by omega), e4.1 p (by omega)]
  have k136' : c2 136 = c 136 := by rw [e2, xW_o (by decide), k136]
  have k137 : c2 137 = c 137 := by rw [e2, xW_o (by decide), ← hc1, xW_o (by decide), xW_o (by decide)]
  have k138 : ∀ i, i < h * b → c2 138 i = 32 := fun i hi => by
    rw [e2, xW_o (by decide), ← hc1, xW_o (by decide), xW_e]
    unfold am_fll
    rw [if_pos ⟨by omega, hi⟩]
  have k139 : ∀ i, i < h → c2 139 i = 0 := fun i hi => by
    rw [e2, xW_o (by decide), ← hc1, xW_e]
    unfold am_fll
    rw [if_pos ⟨by omega, hi⟩]
  have k140 : ∀ i, i < b → c2 140 i = stF i := fun i hi => by rw [e2, xW_e]; exact e2' i hi
  have ko : ∀ p, ¬ (138 ≤ p ∧ p ≤ 140) → c2 p = c p := fun p hp => by rw [e2, xW_o (by omega), ← hc1, xW_o (by omega), xW_o (by omega)]
  simp only [xw]
  have q1 : c2 136 0 = Int32.ofNat h := by rw [k136']; exact a1
  have q2 : c2 136 1 = Int32.ofNat b := by rw [k136']; exact a2
  have ep := e_pl (N := N) (h := h) (b := b) (a := xU (xU (xU (xU (xU (xU (xU c2 136 8 0) 136 9 (xU c2 136 8 0 136 0 - 1)) 136 10 96) 136 11 0) 136 12 0) 136 13 0) 136 14 0) (x := 0) (y := 0) hd (by simp [xU_eq]; exact q1) (by simp [xU_eq]; exact q2)
  rw [clN_0, clN_0] at ep
  refine q_l1 ep ?_
  have e9 : xU c2 136 8 0 136 0 - 1 = Int32.ofNat (h - 1) := by rw [xU_s (by decide), q1, on_p (by omega)]
  have e10 : xU (xU (xU (xU r3 157 93 0) 157 94 0) 157 108 0) 157 95 0 157 68 - 1 = Int32.ofNat (h - 1) := by
    simp only [xU_eq]
    rw [z157]
    simp
    rw [a3, on_p (by omega)]
  rw [e9, e10]
  have gg : ∀ j, (93 ≤ j ∧ j ≤ 99) ∨ j = 108 ∨ j = 109 ∨ j = 110 ∨ j = 103 → gI j := fun j hj => by unfold gI; omega
  have hRn : RG h b c0 r0 (xU (xU (xU (xU (xU (xU (xU (xU (xU (xU c2 136 8 0) 136 9 (Int32.ofNat (h - 1))) 136 10 96) 136 11 0) 136 12 0) 136 13 0) 136 14 0) 136 5 (Int32.ofNat 0)) 136 6 (Int32.ofNat 0)) 136 7 0) (xU (xU (xU (xU (xU (xU (xU (xU (xU (xU (xU r3 157 93 0) 157 94 0) 157 108 0) 157 95 0) 157 96 (Int32.ofNat (h - 1))) 157 98 96) 157 97 0) 157 109 0) 157 110 0) 157 103 0) 157 99 0) := by
    refine ⟨⟨fun p hp => ?_, fun p h4 h5 => ?_, fun i hi => ?_⟩, ⟨0, 0, 0, h - 1, ?_⟩, ?_, ?_, ?_⟩
    · rw [xU_o (by omega), xU_o (by omega), xU_o (by omega), xU_o (by omega), xU_o (by omega), xU_o (by omega), xU_o (by omega), xU_o (by omega), xU_o (by omega), xU_o (by omega), ko p (by omega)]; exact hf.1 p hp
    · rw [xU_o h4, xU_o h4, xU_o h4, xU_o h4, xU_o h4, xU_o h4, xU_o h4, xU_o h4, xU_o h4, xU_o h4, xU_o h4, zo p h5]; exact hf.2.1 p h4 h5
    · have w : ∀ j, ((93 ≤ j ∧ j ≤ 99) ∨ j = 108 ∨ j = 109 ∨ j = 110 ∨ j = 103) → i ≠ j := fun j hj q => hi (q ▸ gg j hj)
      rw [xU_s (w 99 (by omega)), xU_s (w 103 (by omega)), xU_s (w 110 (by omega)), xU_s (w 109 (by omega)), xU_s (w 97 (by omega)), xU_s (w 98 (by omega)), xU_s (w 96 (by omega)), xU_s (w 95 (by omega)), xU_s (w 108 (by omega)), xU_s (w 94 (by omega)), xU_s (w 93 (by omega)), z157]
      exact hf.2.2 i hi
    · refine ⟨⟨?_, ?_, ?_, ?_⟩, ⟨by omega, by omega, by omega, by omega⟩, ⟨?_, ?_, ?_, ?_, ?_, ?_, ?_, ?_⟩⟩
      all_goals simp [xU_eq, k136', z157]
      all_goals assumption
    · have ho' := ho
      unfold Go at ho' ⊢
      simp [xU_eq, k136', z157]
      exact ⟨ho'.2.2.2.2.2.2.2.2.2.2.1, ho'.2.2.2.2.2.2.2.2.2.2.2⟩
    · refine Gv_of hv (by rw [xU_o (by decide), xU_o (by decide), xU_o (by decide), xU_o (by decide), xU_o (by decide), xU_o (by decide), xU_o (by decide), xU_o (by decide), xU_o (by decide), xU_o (by decide), k137]) (fun i h1 h2 h3 h4 h5 => ?_)
      rw [xU_s (by omega), xU_s (by omega), xU_s (by omega), xU_s (by omega), xU_s (by omega), xU_s (by omega), xU_s (by omega), xU_s (by omega), xU_s (by omega), xU_s (by omega), xU_s (by omega), z157]
    · refine ⟨fun y hy => ?_, fun x hx => ?_, fun y x hy hx => ?_, fun y x hy h4 h5 h6 => ?_⟩
      · show c2 139 y = r3 191 y
        rw [k139 y hy, z191 y (by omega)]
      · show c2 140 x = r3 192 x
        rw [k140 x hx, e8.2 x (by omega)]
      · show c2 138 (y * b + x) = r3 190 (80 * y + x)
        rw [k138 _ (mul_ub hy hx), z190 _ (by omega)]
      · show r3 190 (80 * y + x) = 32
        exact z190 _ (by omega)
  exact q_b11 (d_save hd hRn) (fun _ _ h1 => q_ok1 h1)
end G
