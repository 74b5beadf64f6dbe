/-! say. -/
section W
variable {N h b : Nat} {c0 r0 c r : xA} {x y : Int32} {w T L H B Y X : Nat}
/-- the tab's blanks -/
theorem d_tab {w2 q4 : Int32} {W3 : Nat} (hN : 100000 ≤ N) (hW3 : W3 ≤ 8) : ∀ (k n : Nat) {v : Int32} {c r : xA}, WD w T L H B c0 r0 c r → (v = 0 ∨ v = 1) → k ≤ W3 → k < n → Q2 (l109_50 N h b (141 + 2 * w) (Int32.ofNat W3) n v (Int32.ofNat (W3 - k)) c) (l312_183 N h b w2 (Int32.ofNat w) q4 n v (Int32.ofNat k) r) (fun p q => p.2.1 = q.2.1 ∧ WD w T L H B c0 r0 p.2.2 q.2.2 ∧ (p.2.1 = 0 ∨ p.2.1 = 1))
  | 0, n, v, c, r, hD, hv, h1, h2 => by
    obtain ⟨m, rfl⟩ : ∃ m, n = m + 1 := ⟨n - 1, by omega⟩
    unfold l109_50 l312_183
    exact q_pl (by rw [i_le (by omega) (by omega)]; omega) (q_pr (by decide) (q_some.mpr ⟨rfl, hD, hv⟩))
  | k + 1, n, v, c, r, hD, hv, h1, h2 => by
    obtain ⟨m, rfl⟩ : ∃ m, n = m + 1 := ⟨n - 1, by omega⟩
    unfold l109_50 l312_183
    refine q_nl (by rw [i_le (by omega) (by omega)]; omega) (q_nr (by rw [show (0 : Int32) = Int32.ofNat 0 from rfl, i_le (by omega) (by omega)]; omega) ?_)
    refine q_il.mpr ⟨fun z => q_pr z (q_some.mpr ⟨rfl, hD, hv⟩), fun z => q_nr z ?_⟩
    refine q_b22 (d_let hN hD) (fun v c1 v' r1 hh => ?_)
    obtain ⟨t1, t2, t3⟩ := hh
    have t1' : v = v' := t1
    subst t1'
    have e1 : Int32.ofNat (W3 - (k + 1)) + 1 = Int32.ofNat (W3 - k) := by rw [on_s, show W3 - (k + 1) + 1 = W3 - k by omega]
    have e2 : Int32.ofNat (k + 1) + (-1) = Int32.ofNat k := by rw [Int32.ofNat_add]; show Int32.ofNat k + 1 + -1 = _; grind
    rw [e1, e2]
    exact d_tab hN hW3 k m t2 t3 (by omega) (by omega)
/-- a row's rest is blank in both -/
theorem fl_row {F : Nat} (hw : w < 8) (hN : 100000 ≤ N) (hf : Wf w c0 r0 c r) (hd : Wd w T L H B Y X c r) : ∃ c' r', f14_fill N h b (141 + 2 * w + 1) (Int32.ofNat (Y * B + X)) (Int32.ofNat ((Y + 1) * B)) 32 c = some c' ∧ f317_clears N h b (Int32.ofNat w) (Int32.ofNat Y) (Int32.ofNat X) (Int32.ofNat B) r = some r' ∧ Wf w c0 r0 c' r' ∧ Wd w T L H B Y X c' r' ∧ (∀ i, c' (141 + 2 * w) i = c (141 + 2 * w) i) := by
  have hd' := hd
  obtain ⟨_, _, ⟨d1, d2, d3, d4, d5, d6⟩, e⟩ := hd'
  have hHB := hb_ub (H := H) (B := B) (by omega) (by omega)
  have hm : (Y + 1) * B ≤ H * B := Nat.mul_le_mul_right B d5
  have hm2 : Y * B + X ≤ (Y + 1) * B := by rw [Nat.add_mul]; omega
  obtain ⟨r', t1, t2⟩ := e_clears (N := N) (h := h) (b := b) (a := r) (A := X) (E := B) (y := Y) hN hw (by omega) (by omega) (by omega)
  have t3 := WD_cl (f := am_fll (c (141 + 2 * w + 1)) (Y * B + X) ((Y + 1) * B) 32) hw hf hd t2 (fun y x h1 h2 => ?_)
  · exact ⟨_, r', e_fill (xkg hw) (xlg hw) hm2 (by omega) (by decide), t1, t3.1, t3.2, fun i => by rw [xW_o (by omega)]⟩
  · unfold am_fll
    have q1 : (Y * B + X ≤ y * B + x ∧ y * B + x < (Y + 1) * B) = (y = Y ∧ X ≤ x ∧ x < B) := by
      simp only [lt_row h2]
      apply propext
      constructor
      · rintro ⟨u1, u2⟩
        have : Y ≤ y := by
          rw [← ge_row (B := B) h2]; omega
        have e3 : y = Y := by omega
        subst e3
        exact ⟨rfl, by omega, h2⟩
      · rintro ⟨u1, u2, u3⟩
        subst u1
        exact ⟨by omega, by omega⟩
    by_cases z : y = Y ∧ X ≤ x ∧ x < B
    · rw [if_pos z, if_pos (by rw [q1]; exact z)]
    · rw [if_neg z, if_neg (by rw [q1]; exact z)]
      exact e y x h1 h2
theorem Wf_bell (hf : Wf w c0 r0 c r) (hw : w < 8) : Wf w c0 r0 (xU c 97 12 1) (xU r 157 36 1) := by
  obtain ⟨f1, f2, f3, f4, f5, f6, f7⟩ := hf
  refine ⟨fun p1 h1 h2 h3 => ?_, fun i1 h1 => ?_, fun p1 h1 h2 => ?_, fun i1 h1 => ?_, fun p1 i1 h1 h2 h3 => ?_, fun i1 h1 => ?_, ?_⟩
  · rw [xU_o h3]; exact f1 p1 h1 h2 h3
  · rw [xU_s h1]; exact f2 i1 h1
  · rw [xU_o h1]; exact f3 p1 h1 h2
  · rw [xU_s h1]; exact f4 i1 h1
  · rw [xU_o (by omega)]; exact f5 p1 i1 h1 h2 h3
  · rw [xU_o (by decide)]; exact f6 i1 h1
  · rw [xU_e, xU_e]
theorem Wd_bell (hd : Wd w T L H B Y X c r) (hw : w < 8) : Wd w T L H B Y X (xU c 97 12 1) (xU r 157 36 1) := by
  unfold Wd at *
  have e1 : xU c 97 12 1 (141 + 2 * w) = c (141 + 2 * w) := xU_o (by omega)
  have e2 : xU c 97 12 1 (141 + 2 * w + 1) = c (141 + 2 * w + 1) := xU_o (by omega)
  rw [e1, e2]
  exact hd
/-- say's loop -/
theorem d_say {M : Nat} (hN : 100000 ≤ N) (hM : M ≤ 3000) (hc0 : c0 0 1 = Int32.ofNat M) (ht : ∀ i, By (c0 1 i) ∧ r0 158 i = (c0 1 i).toInt8.toInt32) : ∀ (k n : Nat) {c r : xA}, WD w T L H B c0 r0 c r → k ≤ M → k < n → Q2 (l104_2 N h b (141 + 2 * w) n (Int32.ofNat (M - k)) c) (l312_30 N h b (Int32.ofNat M) (Int32.ofNat w) n (Int32.ofNat (M - k)) r) (fun p q => p.1 = q.1 ∧ p.2.1 = q.2.1 ∧ WD w T L H B c0 r0 p.2.2 q.2.2)
  | 0, n, c, r, hD, h1, h2 => by
    obtain ⟨m, rfl⟩ : ∃ m, n = m + 1 := ⟨n - 1, by omega⟩
    unfold l104_2 l312_30
    have e0 : c 0 = c0 0 := hD.2.1.1 0 (by omega) (by omega) (by decide)
    rw [e0, hc0]
    exact q_pl (Int32.le_refl _) (q_pr (Int32.le_refl _) (q_some.mpr ⟨rfl, rfl, hD⟩))
  | k + 1, n, c, r, hD, h1, h2 => by
    obtain ⟨m, rfl⟩ : ∃ m, n = m + 1 := ⟨n - 1, by omega⟩
    have e0 : c 0 = c0 0 := hD.2.1.1 0 (by omega) (by omega) (by decide)
    have e1 : c 1 = c0 1 := hD.2.1.1 1 (by omega) (by omega) (by decide)
    have e2 : r 158 = r0 158 := hD.2.1.2.2.1 158 (by decide) (by decide)
    have en : Int32.ofNat (M - (k + 1)) + 1 = Int32.ofNat (M - k) := by rw [on_s, show M - (k + 1) + 1 = M - k by omega]
    have go : ∀ {c r : xA}, WD w T L H B c0 r0 c r → Q2 (l104_2 N h b (141 + 2 * w) m (Int32.ofNat (M - (k + 1)) + 1) c) (l312_30 N h b (Int32.ofNat M) (Int32.ofNat w) m (Int32.ofNat (M - (k + 1)) + 1) r) (fun p q => p.1 = q.1 ∧ p.2.1 = q.2.1 ∧ WD w T L H B c0 r0 p.2.2 q.2.2) := by
      intro c r hD
      rw [en]
      exact d_say hN hM hc0 ht k m hD (by omega) (by omega)
    unfold l104_2 l312_30
    have hb := ht (M - (k + 1))
    refine q_nl (by rw [e0, hc0, i_le (by omega) (by omega)]; omega) (q_nr (by rw [i_le (by omega) (by omega)]; omega) (q_hl (g_ix (by omega) (by decide)) (q_hr (g_ix (by omega) (by decide)) ?_)))
    rw [i_cl (by omega), e1, e2, hb.2, sb hb.1]
    generalize c0 1 (M - (k + 1)) = B0 at hb
    have hD' := hD
    obtain ⟨hw, hf, Y, X, hd⟩ := hD'
    have hd' := hd
    obtain ⟨⟨a1, a2, a3, a4, a5, a6, a7, a8, a9, a10, a11, a12, a13, a14⟩, ⟨b1, b2, b3⟩, ⟨d1, d2, d3, d4, d5, d6⟩, e⟩ := hd'
    have gx := g_ix (j := w) (n := 8) hw (by decide)
    have gx' : ¬ (Int32.ofNat w < 0 ∨ 8 ≤ w) := by
      rw [i_neg (by omega)]
      rintro (q | q)
      · exact q
      · omega
    unfold j104_61 j312_78 j312_208 j312_268
    by_cases z10 : B0 = 10
    · refine q_pl z10 (q_pr (by rw [z10]; decide) (q_pr z10 (q_hr gx ?_)))
      unfold f105_breakLine
      rw [b2_g, i_cl (by omega), a7, a8, a11, a12, on_p d1, ← b2]
      refine q_hl (xkw hw) ?_
      have brk : (Y + 1 < H ∨ ¬ c (141 + 2 * w) 9 = 0) → Q2 (xb2 (j105_22 N h b (141 + 2 * w) c) (fun r9 a10 => if r9 = 0 then some (0, Int32.ofNat (M - (k + 1)), a10) else l104_2 N h b (141 + 2 * w) m (Int32.ofNat (M - (k + 1)) + 1) a10)) (j312_114 N h b (l312_30 N h b (Int32.ofNat M) (Int32.ofNat w) m) (Int32.ofNat M) (Int32.ofNat w) (Int32.ofNat (M - (k + 1))) 1 r) (fun p q => p.1 = q.1 ∧ p.2.1 = q.2.1 ∧ WD w T L H B c0 r0 p.2.2 q.2.2) := by
        intro hcan
        unfold j105_22 j312_114 j312_268
        obtain ⟨c', r', u1, u2, u3, u4, u5⟩ := fl_row (N := N) (h := h) (b := b) (F := 0) hw hN hf hd
        rw [a9, a11, a13, b2_1, i_cl (by omega), a10, a12, a14, ← Int32.ofNat_mul, ← Int32.ofNat_add, on_s, ← Int32.ofNat_mul]
        refine q_l1 u1 (q_hr gx' (q_r1 u2 ?_))
        rw [b2_2]
        refine q_b22 (d_nr hN hw u3 u4) (fun v c1 v' r1 hh => ?_)
        obtain ⟨t1, t2, t3, t4⟩ := hh
        have t1' : v = v' := t1
        subst t1'
        have t5 : v = 1 := t4 (by rw [u5]; exact hcan)
        rw [b2_g]
        refine q_hl t3 ?_
        rw [b2_some]
        refine q_nl (by rw [t5]; decide) (q_nr (by decide) (go t2))
      by_cases zy : Y + 1 < H
      · rw [b2_i]
        refine q_pl (by rw [i_lt (by omega) (by omega)]; omega) (q_nr (by rw [i_eq (by omega) (by omega)]; omega) (brk (Or.inl zy)))
      · rw [b2_i, b2_i]
        refine q_nl (by rw [i_lt (by omega) (by omega)]; omega) (q_pr (by rw [i_eq (by omega) (by omega)]; omega) ?_)
        refine q_il.mpr ⟨fun z => q_pr z (q_l2 rfl (q_pl rfl (q_some.mpr ⟨rfl, rfl, hD⟩))), fun z => q_nr z (brk (Or.inr z))⟩
    · refine q_nl z10 ?_
      by_cases z7 : B0 = 7
      · refine q_pl z7 (q_pr (by rw [z7]; decide) (q_nr z10 (q_nr (by rw [z7]; decide) (q_nr (by rw [z7]; decide) (q_nr (by rw [z7]; decide) (q_pr z7 (q_wl.mpr (q_wr.mpr (q_nr (by decide) ?_)))))))))
        exact go ⟨hw, Wf_bell hf hw, Y, X, Wd_bell hd hw⟩
      · refine q_nl z7 ?_
        unfold f109_sayByte
        rw [b2_g, b2_2]
        refine q_hl (xkw hw) (q_l2 e_pr ?_)
        rw [b2_i]
        by_cases zp : 32 ≤ B0 ∧ B0 ≤ 126
        · refine q_nl (by rw [zb_0]; exact fun q => q zp) (q_nr (Int32.not_lt.mpr zp.1) (q_nr (Int32.not_lt.mpr zp.2) ?_))
          rw [b2_2]
          refine q_b22 (d_let hN hD) (fun v c1 v' r1 hh => ?_)
          obtain ⟨t1, t2, t3⟩ := hh
          have t1' : v = v' := t1
          subst t1'
          rw [b2_g]
          refine q_hl t3 ?_
          rw [b2_some]
          exact q_il.mpr ⟨fun z => q_pr z (q_some.mpr ⟨rfl, rfl, t2⟩), fun z => q_nr z (go t2)⟩
        · refine q_pl (by rw [zb_0]; exact zp) ?_
          have fin : ∀ {G G' : Option (Nat × Int32 × xA)}, Q2 (xb2 (if B0 = 9 then (l109_50 N h b (141 + 2 * w) (xmin (8 - (c (141 + 2 * w) 7 - c (141 + 2 * w) 7 / 8 * 8)) (c (141 + 2 * w) 5 - c (141 + 2 * w) 7)) N 1 0 c).bind (fun z18 => j109_73 N h b z18.2.1 z18.2.2) else if B0 = 13 then xw (xU c (141 + 2 * w) 7 0) (fun a23 => some (1, a23)) else if B0 = 8 then (if c (141 + 2 * w) 7 ≤ 0 then some (1, c) else xw (xU c (141 + 2 * w) 7 (c (141 + 2 * w) 7 - 1)) (fun a31 => some (1, a31))) else some (1, c)) (fun r20 a21 => if r20 = 0 then some (1, Int32.ofNat (M - (k + 1)), a21) else l104_2 N h b (141 + 2 * w) m (Int32.ofNat (M - (k + 1)) + 1) a21)) (j312_78 N h b (l312_30 N h b (Int32.ofNat M) (Int32.ofNat w) m) (Int32.ofNat M) (Int32.ofNat w) (Int32.ofNat (M - (k + 1))) B0 1 r) (fun p q => p.1 = q.1 ∧ p.2.1 = q.2.1 ∧ WD w T L H B c0 r0 p.2.2 q.2.2) := by
            intro _ _
            unfold j312_78 j312_208 j312_268
            refine q_nr z10 ?_
            by_cases z9 : B0 = 9
            · rw [if_pos z9, b2_b]
              refine q_pr z9 (q_hr gx ?_)
              rw [i_cl (by omega), a9, a10, a13, a14]
              have e8 : (8 : Int32) = Int32.ofNat 8 := rfl
              have em : Int32.ofNat X - Int32.ofNat X / 8 * 8 = Int32.ofNat (X % 8) := i_modn (n := 8) (by omega) (by decide)
              have l8 : X % 8 < 8 := Nat.mod_lt _ (by decide)
              have ew : xmin (8 - (Int32.ofNat X - Int32.ofNat X / 8 * 8)) (Int32.ofNat B - Int32.ofNat X) = Int32.ofNat (min (8 - X % 8) (B - X)) := by
                rw [em, e8, ← Int32.ofNat_sub _ _ (by omega), ← Int32.ofNat_sub _ _ (by omega)]
                unfold xmin
                by_cases q : B - X < 8 - X % 8
                · rw [if_pos (by rw [i_lt (by omega) (by omega)]; exact q), Nat.min_eq_right (by omega)]
                · rw [if_neg (by rw [i_lt (by omega) (by omega)]; exact q), Nat.min_eq_left (by omega)]
              rw [ew]
              have dt := d_tab (N := N) (h := h) (b := b) (w2 := Int32.ofNat M) (q4 := Int32.ofNat (M - (k + 1))) hN (show min (8 - X % 8) (B - X) ≤ 8 by omega) (min (8 - X % 8) (B - X)) N (v := 1) hD (Or.inr rfl) (Nat.le_refl _) (by omega)
              rw [Nat.sub_self] at dt
              refine q_bb dt (fun p q hh => ?_)
              obtain ⟨t1, t2, t3⟩ := hh
              unfold j109_73
              rw [b2_g, ← t1]
              refine q_hl t3 ?_
              rw [b2_some]
              exact q_il.mpr ⟨fun z => q_pr z (q_some.mpr ⟨rfl, rfl, t2⟩), fun z => q_nr z (go t2)⟩
            · rw [if_neg z9]
              refine q_nr z9 ?_
              by_cases z13 : B0 = 13
              · rw [if_pos z13, b2_w]
                refine q_pr z13 (q_hr gx (q_wl.mpr (q_wr.mpr ?_)))
                rw [b2_some, i_cl (by omega)]
                exact q_nl (by decide) (q_nr (by decide) (go ⟨hw, Wf_u hf (by omega) (by omega), Y, 0, Wd_X hd (by omega)⟩))
              · rw [if_neg z13]
                refine q_nr z13 ?_
                by_cases z8 : B0 = 8
                · rw [if_pos z8]
                  refine q_pr z8 (q_hr gx (q_wr.mpr (q_nr (by decide) ?_)))
                  rw [i_cl (by omega), a13, a14]
                  have hX : ∀ X', X' < B → xmax 0 (Int32.ofNat X - 1) = Int32.ofNat X' → WD w T L H B c0 r0 (xU c (141 + 2 * w) 7 (Int32.ofNat X')) (xU r 178 w (xmax 0 (Int32.ofNat X - 1))) := by
                    intro X' hX' e
                    rw [e]
                    exact ⟨hw, Wf_u hf (by omega) (by omega), Y, X', Wd_X hd hX'⟩
                  by_cases zx : X = 0
                  · subst zx
                    rw [if_pos (by decide), b2_some]
                    refine q_nl (by decide) (go ?_)
                    have q := hX 0 (by omega) (by rfl)
                    have e5 : xU c (141 + 2 * w) 7 (Int32.ofNat 0) = c := by
                      apply xA_ext
                      intro p i
                      rw [xU_eq]
                      split
                      · next q => rw [q.1, q.2, a13]
                      · rfl
                    rw [e5] at q
                    exact q
                  · rw [if_neg (by rw [show (0 : Int32) = Int32.ofNat 0 from rfl, i_le (by omega) (by omega)]; omega), b2_w]
                    refine q_wl.mpr ?_
                    rw [b2_some, on_p (by omega)]
                    refine q_nl (by decide) (go ?_)
                    have e6 : xmax 0 (Int32.ofNat X - 1) = Int32.ofNat (X - 1) := by
                      rw [on_p (by omega)]
                      unfold xmax
                      rw [show (0 : Int32) = Int32.ofNat 0 from rfl]
                      by_cases q : X - 1 = 0
                      · rw [q]; rfl
                      · rw [if_pos (by rw [i_lt (by omega) (by omega)]; omega)]
                    have q := hX (X - 1) (by omega) e6
                    rw [on_p (by omega)] at q
                    exact q
                · rw [if_neg z8, b2_some]
                  refine q_nr z8 (q_nr z7 (q_nl (by decide) (q_nr (by decide) (go hD))))
          by_cases z32 : B0 < 32
          · exact q_pr z32 (fin (G := none) (G' := none))
          · exact q_nr z32 (q_pr (Int32.not_le.mp (fun q => zp ⟨Int32.not_lt.mp z32, q⟩)) (fin (G := none) (G' := none)))
end W
