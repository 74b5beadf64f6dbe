/-! erase, cells, box. -/
section W
variable {N h b : Nat} {c0 r0 c r : xA} {x y z : Int32} {w T L H B Y X : Nat}
/-- rows from F on are cleared -/
theorem e_crows {q2 : Int32} {F : Nat} {G : Nat → Nat → Int32} {a : xA} (hN : 100000 ≤ N) (hw : w < 8) (hH : H ≤ 24) (hB : B ≤ 80) (hq : q2 < 2) (h5 : r 175 w = Int32.ofNat H) (h6 : r 176 w = Int32.ofNat B) (hF : F ≤ H) (hC : Cl w r a G) : ∃ a', l318_71 N h b q2 (Int32.ofNat w) N (Int32.ofNat F) a = some (0, a') ∧ Cl w r a' (fun y x => if F ≤ y ∧ y < H ∧ x < B then 32 else G y x) := by
  obtain ⟨a', e1, e2⟩ := lp_up (L := l318_71 N h b q2 (Int32.ofNat w)) (hi := H) (out := fun a => (0, a)) (P := fun j a' => F ≤ j ∧ Cl w r a' (fun y x => if F ≤ y ∧ y < j ∧ x < B then 32 else G y x))
    (fun n j b1 h1 h2 => by
      have g5 : b1 175 w = Int32.ofNat H := by rw [Cl_H h1.2 175 (by decide)]; exact h5
      have g6 : b1 176 w = Int32.ofNat B := by rw [Cl_H h1.2 176 (by decide)]; exact h6
      obtain ⟨b2, t1, t2⟩ := e_clears (N := N) (h := h) (b := b) (a := b1) (y := j) (A := 0) (E := B) hN hw (by omega) (by omega) hB
      have t1' : f317_clears N h b (Int32.ofNat w) (Int32.ofNat j) 0 (Int32.ofNat B) b1 = some b2 := t1
      rw [l318_71, xg_pos (g_ix hw (by decide)), i_cl (by omega), g5, if_neg (by rw [i_le (by omega) (by omega)]; omega), if_neg (Int32.not_le.mpr hq), g6, t1', b1_some, on_s]
      refine ⟨b2, rfl, by omega, Cl_eq (Cl_tr h1.2 t2) (fun y' x' h3 h4 => ?_)⟩
      have e3 : g0 w b1 y' x' = _ := h1.2.2.2 y' x' h3 h4
      rw [e3]
      have := h1.1
      grind)
    (fun n b1 h1 => by
      have g5 : b1 175 w = Int32.ofNat H := by rw [Cl_H h1.2 175 (by decide)]; exact h5
      rw [l318_71, xg_pos (g_ix hw (by decide)), i_cl (by omega), g5, if_pos (Int32.le_refl _)])
    (H - F) F N a (by omega) (by omega) ⟨Nat.le_refl _, Cl_eq hC (fun y' x' h3 h4 => by rw [if_neg (by omega)])⟩
  exact ⟨a', e1, e2.2⟩
theorem t_erase (hN : 100000 ≤ N) (hW : RW c r) (hb : ¬ c 0 14 = -1 → c 97 12 = r 157 36) : Q2 (f112_erase N h b x y c) (f318_erase N h b x y r) (fun p q => p.1 = q.1 ∧ Wp c r p.2 q.2) := by
  unfold f112_erase f318_erase
  refine q_wr.mpr ?_
  rcases w_case hW x with ⟨q1, q2⟩ | ⟨w, T, L, H, B, Y, X, hw, rfl, hd, hty, hB⟩
  · exact q_l2 (e_own q1) (q_pl rfl (q_r2 (e_isn q2) (q_pr rfl (q_some.mpr ⟨rfl, Or.inl ⟨rfl, rfl⟩⟩))))
  · have hd' := Wd_r (i := 0) (v := 0) hd
    have hd2 := hd'
    obtain ⟨⟨a1, a2, a3, a4, a5, a6, a7, a8, a9, a10, a11, a12, a13, a14⟩, _, ⟨d1, d2, d3, d4, d5, d6⟩, e⟩ := hd'
    have hf : Wf w c (xU r 157 0 0) c (xU r 157 0 0) := Wf_rfl (hb hty)
    have hm := mul_ub d5 d6
    have hHB := hb_ub (H := H) (B := B) (by omega) (by omega)
    have hm1 : (Y + 1) * B ≤ H * B := Nat.mul_le_mul_right B d5
    have hm2 : Y * B + X ≤ (Y + 1) * B := by rw [Nat.add_mul]; omega
    refine q_l2 (e_ow hw a1) (q_nl (ow_ne hw) (q_r2 (e_is hw a2) (q_nr (by decide) ?_)))
    rw [i_cl (by omega)]
    refine q_hl (xkw hw) ?_
    unfold f113_blankOut
    rw [b2_g]
    refine q_hl (xkw hw) ?_
    rw [a7, a9, a11, a13, ← Int32.ofNat_mul, ← Int32.ofNat_mul, ← Int32.ofNat_add, on_s, ← Int32.ofNat_mul]
    simp only [b2_i, b2_1, b2_w, b2_some, zi01, zg]
    have gx := g_ix (j := w) (n := 8) hw (by decide)
    by_cases y0 : y = 0
    · subst y0
      refine q_pl rfl (q_nr (by decide) (q_pr (by decide) (q_pr (by decide) ?_)))
      unfold j318_53 j318_69
      refine q_pr rfl ?_
      obtain ⟨a', t1, t2⟩ := e_crows (N := N) (h := h) (b := b) (q2 := 0) (F := 0) (H := H) (B := B) (r := xU r 157 0 0) hN hw (by omega) (by omega) (by decide) a8 a10 (by omega) Cl_rfl
      have t1' : l318_71 N h b 0 (Int32.ofNat w) N 0 (xU r 157 0 0) = some (0, a') := t1
      refine q_l1 (e_fill (A := 0) (xkg hw) (xlg hw) (by omega) hHB (by decide)) (q_rb t1' ?_)
      unfold j318_107
      refine q_wl.mpr (q_wl.mpr (q_pr rfl (q_hr gx (q_wr.mpr (q_wr.mpr ?_)))))
      rw [i_cl (by omega), zb_t (by decide)]
      have t3 := WD_cl (f := am_fll (c (141 + 2 * w + 1)) 0 (H * B) 32) hw hf hd2 t2 (fun y x h1 h2 => by
        unfold am_fll
        rw [if_pos ⟨by omega, mul_ub h1 h2⟩, if_pos ⟨by omega, h1, h2⟩])
      exact q_some.mpr ⟨rfl, Or.inr ⟨w, T, L, H, B, hB, hw, Wf_u (Wf_u t3.1 (by omega) (by omega)) (by omega) (by omega), 0, 0, Wd_X (Wd_Y t3.2 (by omega)) (by omega)⟩⟩
    · refine q_nl y0 ?_
      by_cases y1 : y = 1
      · subst y1
        refine q_pl rfl (q_nr (by decide) (q_pr (by decide) (q_nr (by decide) (q_hr gx ?_))))
        rw [i_cl (by omega), a12, a14, a10]
        obtain ⟨b1, u1, u2⟩ := e_clears (N := N) (h := h) (b := b) (a := xU r 157 0 0) (A := X) (E := B) (y := Y) hN hw (by omega) (by omega) (by omega)
        obtain ⟨a', t1, t2⟩ := e_crows (N := N) (h := h) (b := b) (q2 := 1) (F := Y + 1) (H := H) (B := B) (r := xU r 157 0 0) hN hw (by omega) (by omega) (by decide) a8 a10 (by omega) u2
        refine q_l1 (e_fill (xkg hw) (xlg hw) (by omega) hHB (by decide)) (q_r1 u1 ?_)
        unfold j318_53 j318_69 j318_107
        refine q_nr (by decide) (q_hr gx ?_)
        rw [i_cl (by omega), Cl_H u2 177 (by decide), a12, on_s]
        refine q_rb t1 (q_nr (by decide) ?_)
        rw [zb_t (by decide)]
        have t3 := WD_cl (f := am_fll (c (141 + 2 * w + 1)) (Y * B + X) (H * B) 32) hw hf hd2 t2 (fun y x h1 h2 => by
          unfold am_fll
          have m1 := mul_ub h1 h2
          by_cases zz : Y + 1 ≤ y
          · have : (Y + 1) * B ≤ y * B + x := by rw [ge_row h2]; exact zz
            rw [if_pos ⟨by omega, m1⟩, if_pos ⟨zz, h1, h2⟩]
          · rw [if_neg (show ¬ (Y + 1 ≤ y ∧ y < H ∧ x < B) from fun q => zz q.1)]
            by_cases z2 : y = Y
            · subst z2
              by_cases z3 : X ≤ x
              · rw [if_pos ⟨by omega, m1⟩, if_pos ⟨rfl, z3, h2⟩]
              · rw [if_neg (by omega), if_neg (by omega)]; exact e _ x h1 h2
            · have : y * B + x < Y * B := by rw [lt_row h2]; omega
              rw [if_neg (by omega), if_neg (by omega)]; exact e _ x h1 h2)
        exact q_some.mpr ⟨rfl, Or.inr ⟨w, T, L, H, B, hB, hw, t3.1, Y, X, t3.2⟩⟩
      · refine q_nl y1 ?_
        by_cases y2 : y = 2
        · subst y2
          refine q_pl rfl (q_nr (by decide) (q_pr (by decide) (q_nr (by decide) (q_hr gx ?_))))
          rw [i_cl (by omega), a12, a14, a10]
          obtain ⟨c', r', u1, u2, u3, u4, u5⟩ := fl_row (N := N) (h := h) (b := b) (F := 0) hw hN hf hd2
          refine q_l1 u1 (q_r1 u2 ?_)
          unfold j318_53 j318_69 j318_107
          refine q_nr (by decide) (q_hr gx ?_)
          obtain ⟨⟨_, _, _, _, _, _, _, g8, _, _, _, g12, _, _⟩, _, _, _⟩ := id u4
          rw [i_cl (by omega), g12, on_s]
          obtain ⟨m, rfl⟩ : ∃ m, N = m + 1 := ⟨N - 1, by omega⟩
          have tl : l318_71 (m + 1) h b 2 (Int32.ofNat w) (m + 1) (Int32.ofNat (Y + 1)) r' = some (0, r') := by
            rw [l318_71, xg_pos gx, i_cl (by omega), g8]
            by_cases zz : H ≤ Y + 1
            · rw [if_pos (by rw [i_le (by omega) (by omega)]; exact zz)]
            · rw [if_neg (by rw [i_le (by omega) (by omega)]; exact zz), if_pos (by decide)]
          refine q_rb tl (q_nr (by decide) ?_)
          rw [zb_t (by decide)]
          exact q_some.mpr ⟨rfl, Or.inr ⟨w, T, L, H, B, hB, hw, u3, Y, X, u4⟩⟩
        · refine q_nl y2 ?_
          rw [zb_f (by decide)]
          by_cases n1 : y < 0
          · exact q_pr n1 (q_some.mpr ⟨rfl, Or.inl ⟨rfl, rfl⟩⟩)
          · exact q_nr n1 (q_nr (by grind) (q_some.mpr ⟨rfl, Or.inl ⟨rfl, rfl⟩⟩))
/-- cells of a row, one to the right -/
theorem e_cr {w2 w4 w7 : Int32} {a : xA} (hw : w < 8) (hY : Y < 24) (hB : B ≤ 80) : ∀ (k n : Nat) {a1 : xA}, X + k < B → k < n → Cl w a a1 (fun y x => if y = Y ∧ X + k < x ∧ x < B then g0 w a y (x - 1) else g0 w a y x) → ∃ a', l321_89 N h b w2 w4 (Int32.ofNat (1920 * w + 80 * Y + X)) (Int32.ofNat (1920 * w + 80 * Y + B)) w7 n (Int32.ofNat (1920 * w + 80 * Y + (X + k))) a1 = some (0, a') ∧ Cl w a a' (fun y x => if y = Y ∧ X < x ∧ x < B then g0 w a y (x - 1) else g0 w a y x)
  | 0, n, a1, h1, h2, h3 => by
    obtain ⟨m, rfl⟩ : ∃ m, n = m + 1 := ⟨n - 1, by omega⟩
    rw [l321_89, if_pos (show Int32.ofNat (1920 * w + 80 * Y + (X + 0)) ≤ Int32.ofNat (1920 * w + 80 * Y + X) from Int32.le_refl _)]
    exact ⟨a1, rfl, h3⟩
  | k + 1, n, a1, h1, h2, h3 => by
    obtain ⟨m, rfl⟩ : ∃ m, n = m + 1 := ⟨n - 1, by omega⟩
    rw [l321_89, if_neg (by rw [i_le (by omega) (by omega)]; omega), on_p (by omega), xg_pos (g_ix (by omega) (by decide)), xg_pos (g_ix (by omega) (by decide)), i_cl (by omega), i_cl (by omega)]
    unfold xw
    dsimp only
    have e1 : Int32.ofNat (1920 * w + 80 * Y + (X + (k + 1))) + (-1) = Int32.ofNat (1920 * w + 80 * Y + (X + k)) := by
      rw [show 1920 * w + 80 * Y + (X + (k + 1)) = 1920 * w + 80 * Y + (X + k) + 1 by omega, Int32.ofNat_add]; show _ + 1 + -1 = _; grind
    rw [e1, show 1920 * w + 80 * Y + (X + (k + 1)) - 1 = 1920 * w + 80 * Y + (X + k) by omega, h3.2.2 Y (X + k) hY (by omega)]
    exact e_cr hw hY hB k m (by omega) (by omega) (Cl_eq (Cl_u h3 hY (by omega)) (fun y' x' h4 h5 => by grind))
theorem e_cl {w2 w4 w7 : Int32} {a : xA} (hN : 100000 ≤ N) (hw : w < 8) (hY : Y < 24) (hB : B ≤ 80) (hX : X < B) : ∃ a', l321_125 N h b w2 w4 (Int32.ofNat (1920 * w + 80 * Y + X)) (Int32.ofNat (1920 * w + 80 * Y + B)) w7 N (Int32.ofNat (1920 * w + 80 * Y + X)) a = some (0, a') ∧ Cl w a a' (fun y x => if y = Y ∧ X ≤ x ∧ x + 1 < B then g0 w a y (x + 1) else g0 w a y x) := by
  obtain ⟨a', e1, e2⟩ := lp_up (L := l321_125 N h b w2 w4 (Int32.ofNat (1920 * w + 80 * Y + X)) (Int32.ofNat (1920 * w + 80 * Y + B)) w7) (hi := 1920 * w + 80 * Y + (B - 1)) (out := fun a => (0, a)) (P := fun j a' => 1920 * w + 80 * Y + X ≤ j ∧ Cl w a a' (fun y x => if y = Y ∧ X ≤ x ∧ 1920 * w + 80 * Y + x < j then g0 w a y (x + 1) else g0 w a y x))
    (fun n j b1 h1 h2 => by
      obtain ⟨q, rfl⟩ : ∃ q, j = 1920 * w + 80 * Y + q := ⟨j - (1920 * w + 80 * Y), by omega⟩
      rw [l321_125, on_p (by omega), if_neg (by rw [i_le (by omega) (by omega)]; omega), on_s, xg_pos (g_ix (by omega) (by decide)), xg_pos (g_ix (by omega) (by decide)), i_cl (by omega), i_cl (by omega)]
      have e3 := h1.2.2.2 Y (q + 1) hY (by omega)
      rw [show 1920 * w + 80 * Y + q + 1 = 1920 * w + 80 * Y + (q + 1) by omega, e3]
      have := h1.1
      exact ⟨_, rfl, by omega, Cl_eq (Cl_u h1.2 hY (by omega)) (fun y' x' h4 h5 => by grind)⟩)
    (fun n b1 h1 => by rw [l321_125, on_p (by omega), show 1920 * w + 80 * Y + B - 1 = 1920 * w + 80 * Y + (B - 1) by omega, if_pos (Int32.le_refl _)])
    (B - 1 - X) (1920 * w + 80 * Y + X) N a (by omega) (by omega) ⟨Nat.le_refl _, Cl_eq Cl_rfl (fun y' x' h3 h4 => by rw [if_neg (by omega)])⟩
  exact ⟨a', e1, Cl_eq e2.2 (fun y' x' h4 h5 => by grind)⟩
/-- so many cells to the right, to the left -/
def cR (w Y X B k : Nat) (r : xA) (y x : Nat) : Int32 := if y = Y ∧ X ≤ x ∧ x < B then (if X + k ≤ x then g0 w r y (x - k) else 32) else g0 w r y x
def cL (w Y X B k : Nat) (r : xA) (y x : Nat) : Int32 := if y = Y ∧ X ≤ x ∧ x < B then (if x + k < B then g0 w r y (x + k) else 32) else g0 w r y x
theorem t_cells (hN : 100000 ≤ N) (hW : RW c r) (hb : ¬ c 0 14 = -1 → c 97 12 = r 157 36) : Q2 (f115_cells N h b x y c) (f321_cells N h b x y r) (fun p q => p.1 = q.1 ∧ Wp c r p.2 q.2) := by
  unfold f115_cells f321_cells
  refine q_wr.mpr ?_
  rcases w_case hW x with ⟨q1, q2⟩ | ⟨w, T, L, H, B, Y, X, hw, rfl, hd, hty, hB⟩
  · exact q_l2 (e_own q1) (q_pl rfl (q_r2 (e_isn q2) (q_pr rfl (q_some.mpr ⟨rfl, Or.inl ⟨rfl, rfl⟩⟩))))
  · have hd' := Wd_r (i := 0) (v := 0) hd
    have hd2 := hd'
    obtain ⟨⟨a1, a2, a3, a4, a5, a6, a7, a8, a9, a10, a11, a12, a13, a14⟩, _, ⟨d1, d2, d3, d4, d5, d6⟩, e⟩ := hd'
    have hf : Wf w c (xU r 157 0 0) c (xU r 157 0 0) := Wf_rfl (hb hty)
    have hm := mul_ub d5 d6
    have hHB := hb_ub (H := H) (B := B) (by omega) (by omega)
    have hm1 : (Y + 1) * B ≤ H * B := Nat.mul_le_mul_right B d5
    have hm3 : Y * B + X + (B - X) = (Y + 1) * B := by rw [Nat.add_mul]; omega
    have gx := g_ix (j := w) (n := 8) hw (by decide)
    refine q_l2 (e_ow hw a1) (q_nl (ow_ne hw) (q_r2 (e_is hw a2) (q_nr (by decide) ?_)))
    rw [i_cl (by omega)]
    refine q_hl (xkw hw) (q_hr gx ?_)
    rw [a9, a11, a13, i_cl (by omega), a12, a14, ← Int32.ofNat_mul, ← Int32.ofNat_add, ← Int32.ofNat_sub _ _ (by omega)]
    refine q_r2 e_ca ?_
    rw [a12, a10]
    refine q_r2 e_ca ?_
    have eK : (xminl (xabsl y.toInt64) 80).toInt32 = Int32.ofNat (min y.toInt.natAbs 80) := e_mn y 80 (by decide)
    rw [eK]
    have t0 : (0 : Int32).toInt = 0 := rfl
    have key : ∀ {x1 y1 : Nat}, y1 < H → x1 < B → (Y * B + X ≤ y1 * B + x1 ∧ y1 * B + x1 < Y * B + X + (B - X)) = (y1 = Y ∧ X ≤ x1 ∧ x1 < B) := by
      intro x1 y1 h1 h2
      rw [hm3]
      simp only [lt_row h2]
      apply propext
      constructor
      · rintro ⟨u1, u2⟩
        have : Y ≤ y1 := by rw [← ge_row (B := B) h2]; omega
        have e3 : y1 = Y := by omega
        subst e3
        exact ⟨rfl, by omega, h2⟩
      · rintro ⟨u1, u2, u3⟩
        subst u1
        exact ⟨by omega, by omega⟩
    by_cases zy : y ≤ 0
    · obtain ⟨a', e1, e2⟩ := lp_up (L := l321_72 N h b y (Int32.ofNat (min y.toInt.natAbs 80)) (Int32.ofNat (1920 * w + 80 * Y + X)) (Int32.ofNat (1920 * w + 80 * Y + B))) (hi := min y.toInt.natAbs 80) (out := fun a => (0, a)) (P := fun j a' => Cl w (xU r 157 0 0) a' (cL w Y X B j (xU r 157 0 0)))
        (fun n j b1 h1 h2 => by
          obtain ⟨b2, t1, t2⟩ := e_cl (N := N) (h := h) (b := b) (w2 := y) (w4 := Int32.ofNat (min y.toInt.natAbs 80)) (w7 := Int32.ofNat j) (a := b1) (X := X) (Y := Y) (B := B) hN hw (by omega) (by omega) d6
          rw [l321_72, if_neg (by rw [i_le (by omega) (by omega)]; omega), if_pos zy, t1]
          unfold j321_156
          show ∃ a', xg _ (xw (xU b2 181 _ 32) _) = _ ∧ _
          rw [if_pos zy, on_p (by omega), show 1920 * w + 80 * Y + B - 1 = 1920 * w + 80 * Y + (B - 1) by omega, xg_pos (g_ix (by omega) (by decide)), i_cl (by omega), on_s]
          refine ⟨_, rfl, Cl_eq (Cl_u (Cl_tr h1 t2) (by omega) (by omega)) (fun y' x' h4 h5 => ?_)⟩
          have e3 : g0 w b1 y' x' = _ := h1.2.2 y' x' h4 h5
          by_cases z : y' = Y ∧ X ≤ x' ∧ x' + 1 < B
          · have e4 : g0 w b1 y' (x' + 1) = _ := h1.2.2 y' (x' + 1) h4 (by omega)
            rw [if_neg (by omega), if_pos z, e4]
            unfold cL
            rw [if_pos (show y' = Y ∧ X ≤ x' + 1 ∧ x' + 1 < B by omega), if_pos (show y' = Y ∧ X ≤ x' ∧ x' < B by omega), show x' + 1 + j = x' + (j + 1) by omega]
          · rw [if_neg z, e3]
            unfold cL
            grind)
        (fun n b1 h1 => by rw [l321_72, if_pos (Int32.le_refl _)])
        (min y.toInt.natAbs 80) 0 N (xU r 157 0 0) (by omega) (by omega) (Cl_eq Cl_rfl (fun y x _ _ => by unfold cL; grind))
      refine q_rb e1 ?_
      by_cases zz : y = 0
      · subst zz
        refine q_l1 (e_slR (k := 0) (xkg hw) (xlg hw) (by omega) (by omega) (by decide) (by decide) rfl) ?_
        have t3 := WD_cl (f := slR (c (141 + 2 * w + 1)) (Y * B + X) (B - X) 0 32) hw hf hd2 e2 (fun y1 x1 h1 h2 => by
          unfold slR cL
          have m0 : min (Int32.toInt 0).natAbs 80 = 0 := rfl
          rw [m0]
          have := e y1 x1 h1 h2
          unfold g0
          grind)
        exact q_some.mpr ⟨rfl, Or.inr ⟨w, T, L, H, B, hB, hw, t3.1, Y, X, t3.2⟩⟩
      · have hneg : y < 0 := by grind
        have hneg' := Int32.lt_iff_toInt_lt.mp hneg
        rw [t0] at hneg'
        refine q_l1 (e_slL (k := y.toInt.natAbs) (xkg hw) (xlg hw) (by omega) (by omega) (by decide) hneg (by omega)) ?_
        have t3 := WD_cl (f := slL (c (141 + 2 * w + 1)) (Y * B + X) (B - X) y.toInt.natAbs 32) hw hf hd2 e2 (fun y1 x1 h1 h2 => by
          unfold slL cL
          by_cases z : y1 = Y ∧ X ≤ x1 ∧ x1 < B
          · rw [if_pos (by rw [key h1 h2]; exact z), if_pos z]
            obtain ⟨z1, z2, z3⟩ := z
            subst z1
            by_cases z4 : x1 + y.toInt.natAbs < B
            · rw [if_pos (by rw [hm3, Nat.add_mul]; omega), if_pos (by omega), show min y.toInt.natAbs 80 = y.toInt.natAbs by omega, show y1 * B + x1 + y.toInt.natAbs = y1 * B + (x1 + y.toInt.natAbs) from Nat.add_assoc _ _ _]
              exact e y1 (x1 + y.toInt.natAbs) h1 z4
            · rw [if_neg (by rw [hm3, Nat.add_mul]; omega), if_neg (by omega)]
          · rw [if_neg (by rw [key h1 h2]; exact z), if_neg z]
            exact e y1 x1 h1 h2)
        exact q_some.mpr ⟨rfl, Or.inr ⟨w, T, L, H, B, hB, hw, t3.1, Y, X, t3.2⟩⟩
    · have hpos : 0 < y := Int32.not_le.mp zy
      have hpos' := Int32.lt_iff_toInt_lt.mp hpos
      rw [t0] at hpos'
      obtain ⟨a', e1, e2⟩ := lp_up (L := l321_72 N h b y (Int32.ofNat (min y.toInt.natAbs 80)) (Int32.ofNat (1920 * w + 80 * Y + X)) (Int32.ofNat (1920 * w + 80 * Y + B))) (hi := min y.toInt.natAbs 80) (out := fun a => (0, a)) (P := fun j a' => Cl w (xU r 157 0 0) a' (cR w Y X B j (xU r 157 0 0)))
        (fun n j b1 h1 h2 => by
          obtain ⟨b2, t1, t2⟩ := e_cr (N := N) (h := h) (b := b) (w2 := y) (w4 := Int32.ofNat (min y.toInt.natAbs 80)) (w7 := Int32.ofNat j) (a := b1) (X := X) (Y := Y) (B := B) hw (by omega) (by omega) (B - 1 - X) N (a1 := b1) (by omega) (by omega) (Cl_eq Cl_rfl (fun y' x' h4 h5 => by rw [if_neg (by omega)]))
          rw [show X + (B - 1 - X) = B - 1 by omega] at t1
          rw [l321_72, if_neg (by rw [i_le (by omega) (by omega)]; omega), if_neg zy, on_p (by omega), show 1920 * w + 80 * Y + B - 1 = 1920 * w + 80 * Y + (B - 1) by omega, t1]
          unfold j321_156
          show ∃ a', xg _ (xw (xU b2 181 _ 32) _) = _ ∧ _
          rw [if_neg zy, xg_pos (g_ix (by omega) (by decide)), i_cl (by omega), on_s]
          refine ⟨_, rfl, Cl_eq (Cl_u (Cl_tr h1 t2) (by omega) (by omega)) (fun y' x' h4 h5 => ?_)⟩
          have e3 : g0 w b1 y' x' = _ := h1.2.2 y' x' h4 h5
          by_cases z : y' = Y ∧ X < x' ∧ x' < B
          · have e4 : g0 w b1 y' (x' - 1) = _ := h1.2.2 y' (x' - 1) h4 (by omega)
            rw [if_neg (by omega), if_pos z, e4]
            unfold cR
            rw [if_pos (show y' = Y ∧ X ≤ x' - 1 ∧ x' - 1 < B by omega), if_pos (show y' = Y ∧ X ≤ x' ∧ x' < B by omega)]
            by_cases z5 : X + (j + 1) ≤ x'
            · rw [if_pos (by omega), if_pos z5, show x' - 1 - j = x' - (j + 1) by omega]
            · rw [if_neg (by omega), if_neg z5]
          · rw [if_neg z, e3]
            unfold cR
            grind)
        (fun n b1 h1 => by rw [l321_72, if_pos (Int32.le_refl _)])
        (min y.toInt.natAbs 80) 0 N (xU r 157 0 0) (by omega) (by omega) (Cl_eq Cl_rfl (fun y x _ _ => by unfold cR; grind))
      refine q_rb e1 (q_l1 (e_slR (k := y.toInt.natAbs) (xkg hw) (xlg hw) (by omega) (by omega) (by decide) (Int32.le_of_lt hpos) (by have := i_cln (Int32.le_of_lt hpos); omega)) ?_)
      have t3 := WD_cl (f := slR (c (141 + 2 * w + 1)) (Y * B + X) (B - X) y.toInt.natAbs 32) hw hf hd2 e2 (fun y1 x1 h1 h2 => by
        unfold slR cR
        by_cases z : y1 = Y ∧ X ≤ x1 ∧ x1 < B
        · rw [if_pos (by rw [key h1 h2]; exact z), if_pos z]
          obtain ⟨z1, z2, z3⟩ := z
          subst z1
          by_cases z4 : X + y.toInt.natAbs ≤ x1
          · rw [if_neg (by omega), if_pos (by omega), show min y.toInt.natAbs 80 = y.toInt.natAbs by omega, Nat.add_sub_assoc (by omega)]
            exact e y1 (x1 - y.toInt.natAbs) h1 (by omega)
          · rw [if_pos (by omega), if_neg (by omega)]
        · rw [if_neg (by rw [key h1 h2]; exact z), if_neg z]
          exact e y1 x1 h1 h2)
      exact q_some.mpr ⟨rfl, Or.inr ⟨w, T, L, H, B, hB, hw, t3.1, Y, X, t3.2⟩⟩
end W
