/-! Widths, aligning, erasing. -/
section G
variable {N h b : Nat} {c0 r0 c r c' r' : xA} {x y s v : Int32} {Y X Tp Bt F E k : Nat}
theorem upd_e {f : Nat → Int32} {i : Nat} {v : Int32} : upd f i v i = v := if_pos rfl
theorem upd_o {f : Nat → Int32} {i j : Nat} {v : Int32} (h : j ≠ i) : upd f i v j = f j := if_neg h
theorem LL_2 (hd : Dim N h b) : LL b v + 1 = if v = 0 then b else b / 2 := by
  obtain ⟨m0, m1, m2, m3, m4, m5⟩ := hd
  unfold LL
  split <;> omega
/-- the reference's width -/
def refW (N h b : Nat) (v : Int32) (a : xA) : Option xA := xg (¬ (a 157 93 < 0 ∨ 24 ≤ (a 157 93).toNatClampNeg)) (xw (xU a 191 ((a 157 93).toNatClampNeg) v) (fun a34 => xg (¬ (a34 157 93 < 0 ∨ 24 ≤ (a34 157 93).toNatClampNeg)) (if (a34 191 ((a34 157 93).toNatClampNeg)) = 0 then (j394_82 N h b a34) else (xb1 (f390_blank N h b (a34 157 93) ((a34 157 69) / 2) (a34 157 69) a34) (fun a54 => j394_82 N h b a54)))))
theorem d_wid (hd : Dim N h b) (hR : RG h b c0 r0 c r) : Q2 (f220_setWidth N h b v c) (refW N h b v r) (fun p q => RG h b c0 r0 p q) := by
  have hR' := hR
  obtain ⟨hf, ⟨Y, X, Tp, Bt, hs⟩, ho, hv, hc⟩ := hR'
  have hs' := hs
  obtain ⟨⟨a1, a2, a3, a4⟩, ⟨b1, b2, b3, b4⟩, ⟨d1, d2, d3, d4, d5, d6, d7, d8⟩⟩ := hs'
  have hd' := hd
  obtain ⟨m0, m1, m2, m3, m4, m5⟩ := hd'
  have hHB := hb_ub (H := h) (B := b) m2 m4
  have e2 : (Y + 1) * b ≤ h * b := Nat.mul_le_mul_right b b1
  have lb := LL_b hd v
  have lb0 := LL_b hd (r 191 Y)
  have l8 : xl h b 138 = h * b := rfl
  unfold f220_setWidth refW
  rw [d1, d2]
  refine q_hl (g_ix b1 (by omega)) (q_wl.mpr (q_hr (g_ix (by omega) (by decide)) (q_wr.mpr ?_)))
  rw [i_cl (by omega)]
  have el := e_lastG (N := N) (h := h) (b := b) (Y := Y) (a := xU c 139 Y v) hd d1 a2 b1
  rw [xU_e] at el
  refine q_l2 el ?_
  have k136 : xU c 139 Y v 136 = c 136 := xU_o (by decide)
  have k157 : xU r 191 Y v 157 = r 157 := xU_o (by decide)
  rw [k136, k157, d1, a2, d2, ← Int32.ofNat_mul, ← Int32.ofNat_add, on_s, on_s, ← Int32.ofNat_mul]
  have ef : Y * b + LL b v + 1 ≤ (Y + 1) * b := by rw [Nat.add_mul]; omega
  refine q_l1 (e_fill (n := h * b) rfl l8 ef (by omega) (by omega)) ?_
  -- the reference's state before the cursor
  have hb2 : Int32.ofNat b / 2 = Int32.ofNat (b / 2) := by rw [show (2 : Int32) = Int32.ofNat 2 from rfl, ← Int32.ofNat_div (by omega) (by decide)]
  have key : ∃ a, Cs r a (fun y x => if y = Y ∧ LL b v + 1 ≤ x ∧ x < b then 32 else s0 r y x) (fun y => if y = Y then v else v0 r y) ∧ ∀ {F0 : Option xA}, Q2 F0 (j394_82 N h b a) (fun p q => RG h b c0 r0 p q) → Q2 F0 (xg (¬ (Int32.ofNat Y < 0 ∨ 24 ≤ (Int32.ofNat Y).toNatClampNeg)) (if xU r 191 Y v 191 (Int32.ofNat Y).toNatClampNeg = 0 then j394_82 N h b (xU r 191 Y v) else xb1 (f390_blank N h b (Int32.ofNat Y) (r 157 69 / 2) (r 157 69) (xU r 191 Y v)) (fun a54 => j394_82 N h b a54))) (fun p q => RG h b c0 r0 p q) := by
    have c1 : Cs r (xU r 191 Y v) (s0 r) (fun y' => if y' = Y then v else v0 r y') := Cs_v Cs_rfl
    have l2 := LL_2 (v := v) hd
    by_cases z : v = 0
    · rw [if_pos z] at l2
      refine ⟨xU r 191 Y v, Cs_eq c1 (fun y' x' h5 h6 => by rw [if_neg (by omega)]) (fun _ _ => rfl), fun hq => q_hr (g_ix (by omega) (by decide)) (q_pr (by rw [i_cl (by omega), xU_e]; exact z) hq)⟩
    · rw [if_neg z] at l2
      obtain ⟨a, t1, t2⟩ := e_blank (N := N) (h := h) (b := b) (yy := Y) (A := b / 2) (E := b) (a := xU r 191 Y v) m0 (by omega) (by omega) m4
      refine ⟨a, Cs_eq (Cs_tr c1 t2) (fun y' x' h5 h6 => by rw [l2]; rfl) (fun y' h5 => ?_), fun hq => q_hr (g_ix (by omega) (by decide)) (q_nr (by rw [i_cl (by omega), xU_e]; exact z) ?_)⟩
      · exact c1.2.2 y' h5
      · rw [a4, hb2]
        exact q_r1 t1 hq
  obtain ⟨a, hC, hk⟩ := key
  refine hk ?_
  have e157 : a 157 = r 157 := hC.1 157 (by decide) (by decide)
  have ec : xW (xU c 139 Y v) 138 (am_fll (xU c 139 Y v 138) (Y * b + LL b v + 1) ((Y + 1) * b) 32) = xW (xW c 138 (am_fll (c 138) (Y * b + LL b v + 1) ((Y + 1) * b) 32)) 139 (upd (c 139) Y v) := by
    have k138 : xU c 139 Y v 138 = c 138 := xU_o (by decide)
    rw [k138]
    apply xA_ext
    intro p i
    simp only [xU_eq, xW_eq]
    unfold upd
    grind
  rw [ec]
  obtain ⟨w1, w2, w3, w4, w5⟩ := RG_wd (f := am_fll (c 138) (Y * b + LL b v + 1) ((Y + 1) * b) 32) (g := upd (c 139) Y v) hd hf (Gs_t hs) ho hv hc hC (fun y1 x1 h1 h2 => by
      unfold am_fll
      have es := str (Y := Y) (yy := y1) (A := LL b v + 1) (E := b) h2 (by omega) (Nat.le_refl _)
      rw [show (Y + 1) * b = Y * b + b by rw [Nat.add_mul]; omega, show Y * b + LL b v + 1 = Y * b + (LL b v + 1) by omega]
      by_cases z : y1 = Y ∧ LL b v + 1 ≤ x1 ∧ x1 < b
      · rw [if_pos z, if_pos (by rw [es]; exact z)]
      · rw [if_neg z, if_neg (by rw [es]; exact z)]
        exact hc.2.2.1 y1 x1 h1 h2) (fun y1 h1 => by
      by_cases z : y1 = Y
      · subst z; rw [upd_e, if_pos rfl]
      · rw [upd_o z, if_neg z]; exact hc.1 y1 h1) (fun y1 x1 h1 h2 h3 h4 => by
      have l2 := LL_2 (v := v) hd
      by_cases z : y1 = Y
      · subst z
        rw [if_pos rfl] at h2
        rw [if_neg h2] at l2
        rw [if_pos ⟨rfl, by omega, h4⟩]
      · rw [if_neg z] at h2
        rw [if_neg (fun q => z q.1)]
        exact hc.2.2.2 y1 x1 h1 h2 h3 h4)
  generalize hc2 : xW (xW c 138 (am_fll (c 138) (Y * b + LL b v + 1) ((Y + 1) * b) 32)) 139 (upd (c 139) Y v) = c2 at *
  have w2' := w2
  obtain ⟨⟨u1, u2, u3, u4⟩, ⟨u5, u6, u7⟩, ⟨n1, n2, n3, n4, n5, n6, n7, n8⟩⟩ := w2'
  have v191 : a 191 Y = v := (hC.2.2 Y (by omega)).trans (if_pos rfl)
  unfold j394_82
  rw [n1, n2, n3, n4]
  refine q_r2 (e_last' hd u4 b1) ?_
  rw [v191]
  by_cases z : X ≤ LL b v
  · refine q_pl (by rw [i_le (by omega) (by omega)]; exact z) (q_pr (by rw [i_le (by omega) (by omega)]; exact z) (q_ok1 ⟨w1, ⟨Y, X, Tp, Bt, Gt_s w2 (by rw [v191]; exact z)⟩, w3, w4, w5⟩))
  · refine q_nl (by rw [i_le (by omega) (by omega)]; exact z) (q_nr (by rw [i_le (by omega) (by omega)]; exact z) ?_)
    have p1 := e_pl (N := N) (h := h) (b := b) (a := c2) (x := Int32.ofNat Y) (y := Int32.ofNat (LL b v)) hd u1 u2
    have p2 := e_go (N := N) (h := h) (b := b) (a := a) (x := Int32.ofNat Y) (y := Int32.ofNat X) hd u3 u4
    have k1 : c2 139 Y = v := by rw [w5.1 Y b1, v191]
    rw [clN_in (show Y ≤ h - 1 by omega) (by omega), k1, clN_in (Nat.le_refl _) (by omega)] at p1
    rw [clN_in (show Y ≤ h - 1 by omega) (by omega), v191, clN_out (show LL b v ≤ X by omega) (by omega)] at p2
    rw [n2, n4]
    exact q_l1 p1 (q_r1 p2 (q_ok1 (RG_p2 w1 w2 w3 w4 w5 b1 (by rw [v191]; exact Nat.le_refl _))))
/-- aligning -/
theorem d_align (hd : Dim N h b) (hR : RG h b c0 r0 c r) : Q2 (f221_align N h b c) (j394_112 N h b 56 r) (fun p q => RG h b c0 r0 p q) := by
  have hR' := hR
  obtain ⟨hf, ⟨Y, X, Tp, Bt, hs⟩, ho, hv, hc⟩ := hR'
  have hs' := hs
  obtain ⟨⟨a1, a2, a3, a4⟩, ⟨b1, b2, b3, b4⟩, _⟩ := hs'
  have hd' := hd
  obtain ⟨m0, m1, m2, m3, m4, m5⟩ := hd'
  have hHB := hb_ub (H := h) (B := b) m2 m4
  unfold f221_align j394_112
  have l8 : xl h b 138 = h * b := rfl
  have l9 : xl h b 139 = h := rfl
  refine q_pr rfl (q_l1 (e_fill (A := 0) (n := h * b) rfl l8 (by omega) (Nat.le_refl _) (by omega)) ?_)
  rw [xW_o (show (136 : Nat) ≠ 138 by decide), a1]
  refine q_l1 (e_fill (A := 0) (n := h) rfl l9 (by omega) (Nat.le_refl _) (by omega)) ?_
  rw [xW_o (show (139 : Nat) ≠ 138 by decide)]
  obtain ⟨a, t1, t2⟩ := lp_up (L := l394_120 N h b) (hi := h) (out := fun a => (0, a)) (P := fun j a' => Cs r a' (fun y x => if y < j ∧ x < b then 69 else s0 r y x) (fun y => if y < j then 0 else v0 r y))
    (fun n j a1' h1 h2 => by
      have e157 : a1' 157 = r 157 := h1.1 157 (by decide) (by decide)
      obtain ⟨a2', u1, u2⟩ := lp_up (L := l394_130 N h b (Int32.ofNat j)) (hi := b) (out := fun a => (0, a)) (P := fun i a' => Cs r a' (fun y x => if (y < j ∧ x < b) ∨ (y = j ∧ x < i) then 69 else s0 r y x) (fun y => if y < j then 0 else v0 r y))
        (fun n i a3' h3 h4 => by
          have e157 : a3' 157 = r 157 := h3.1 157 (by decide) (by decide)
          rw [l394_130, e157, a4, if_neg (by rw [i_le (by omega) (by omega)]; omega), o80, xg_pos (g_ix (by omega) (by decide)), i_cl (by omega), on_s]
          exact ⟨_, rfl, Cs_eq (Cs_u h3 (by omega) (by omega)) (fun y' x' h5 h6 => by grind) (fun _ _ => rfl)⟩)
        (fun n a3' h3 => by
          have e157 : a3' 157 = r 157 := h3.1 157 (by decide) (by decide)
          rw [l394_130, e157, a4, if_pos (Int32.le_refl _)])
        b 0 N a1' (by omega) (by omega) (Cs_eq h1 (fun y' x' h5 h6 => by grind) (fun _ _ => rfl))
      have u1' : l394_130 N h b (Int32.ofNat j) N 0 a1' = some (0, a2') := u1
      rw [l394_120, e157, a3, if_neg (by rw [i_le (by omega) (by omega)]; omega), u1']
      show ∃ a', xg _ (xw (xU a2' 191 _ 0) _) = _ ∧ _
      rw [xg_pos (g_ix (by omega) (by decide)), i_cl (by omega), on_s]
      exact ⟨_, rfl, Cs_eq (Cs_v u2) (fun y' x' h5 h6 => by grind) (fun y' h5 => by grind)⟩)
    (fun n a1' h1 => by
      have e157 : a1' 157 = r 157 := h1.1 157 (by decide) (by decide)
      rw [l394_120, e157, a3, if_pos (Int32.le_refl _)])
    h 0 N r (by omega) (by omega) (Cs_eq Cs_rfl (fun y' x' h5 h6 => by grind) (fun y' h5 => by grind))
  refine q_rb t1 ?_
  obtain ⟨w1, w2, w3, w4, w5⟩ := RG_wd (f := am_fll (c 138) 0 (h * b) 69) (g := am_fll (c 139) 0 h 0) hd hf (Gs_t hs) ho hv hc t2 (fun y1 x1 h1 h2 => by
      unfold am_fll
      rw [if_pos ⟨by omega, mul_ub h1 h2⟩, if_pos ⟨h1, h2⟩]) (fun y1 h1 => by
      unfold am_fll
      rw [if_pos ⟨by omega, h1⟩, if_pos h1]) (fun y1 x1 h1 h2 h3 h4 => by
      rw [if_pos h1] at h2
      exact absurd rfl h2)
  generalize hc2 : xW (xW c 138 (am_fll (c 138) 0 (h * b) 69)) 139 (am_fll (c 139) 0 h 0) = c2 at *
  have w2' := w2
  obtain ⟨⟨u1, u2, u3, u4⟩, ⟨u5, u6, u7⟩, ⟨n1, n2, n3, n4, n5, n6, n7, n8⟩⟩ := w2'
  simp only [xw]
  have e9 : xU c2 136 8 0 136 0 - 1 = Int32.ofNat (h - 1) := by rw [xU_s (by decide), u1, on_p (by omega)]
  have e10 : xU a 157 95 0 157 68 - 1 = Int32.ofNat (h - 1) := by rw [xU_s (by decide), u3, on_p (by omega)]
  rw [e9, e10]
  have g1 : gI 95 := by unfold gI; omega
  have g2 : gI 96 := by unfold gI; omega
  have hR1 : RG h b c0 r0 (xU (xU (xU (xU (xU c2 136 8 (Int32.ofNat 0)) 136 9 (Int32.ofNat (h - 1))) 136 5 (Int32.ofNat 0)) 136 6 (Int32.ofNat 0)) 136 7 0) (xU (xU (xU (xU (xU a 157 95 (Int32.ofNat 0)) 157 96 (Int32.ofNat (h - 1))) 157 93 (Int32.ofNat 0)) 157 94 (Int32.ofNat 0)) 157 108 0) := by
    refine RG_p2 (Y := Y) (X := X) (Tp := 0) (Bt := h - 1) (Gf_u (Gf_u w1 (by decide) (Or.inr ⟨rfl, g1⟩)) (by decide) (Or.inr ⟨rfl, g2⟩)) ?_ ?_ (Gv_of w4 rfl (fun i h1 h2 h3 h4 h5 => by rw [xU_s (by omega), xU_s (by omega)])) (Gc_of w5 rfl rfl rfl rfl rfl rfl) (by omega) (by omega)
    · refine ⟨⟨u1, u2, u3, u4⟩, ⟨by omega, by omega, by omega⟩, ⟨n1, n2, n3, n4, ?_, ?_, ?_, ?_⟩⟩
      all_goals simp [xU_eq]
    · unfold Go at *
      simp [xU_eq]
      exact w3
  have ep := e_pl (N := N) (h := h) (b := b) (a := xU (xU c2 136 8 0) 136 9 (Int32.ofNat (h - 1))) (x := 0) (y := 0) hd (by simp [xU_eq]; exact u1) (by simp [xU_eq]; exact u2)
  have eg := e_go (N := N) (h := h) (b := b) (a := xU (xU a 157 95 0) 157 96 (Int32.ofNat (h - 1))) (x := 0) (y := 0) hd (by simp [xU_eq]; exact u3) (by simp [xU_eq]; exact u4)
  rw [clN_0, clN_0] at ep eg
  exact q_l1 ep (q_r1 eg (q_ok1 (RG_16 hR1)))
theorem d_hash (hd : Dim N h b) (hR : RG h b c0 r0 c r) : Q2 (f219_endHash N h b x c) (f394_widths N h b x r) (fun p q => RG h b c0 r0 p q) := by
  unfold f219_endHash f394_widths
  by_cases z51 : x = 51
  · subst z51
    refine q_pl rfl (q_nr (by decide) (q_nr (by decide) ?_))
    exact q_mono (q_b11 (Q1 := fun p q => RG h b c0 r0 p q) (m' := refW N h b 2 r) (l := fun a => some a) (d_wid hd hR) (fun _ _ h1 => q_ok1 h1)) (fun _ _ h1 => h1) |> fun k => by
      obtain ⟨p, q, k1, k2, k3⟩ := k
      refine ⟨p, q, k1, ?_, k3⟩
      have : xb1 (refW N h b 2 r) (fun a => some a) = refW N h b 2 r := by cases refW N h b 2 r <;> rfl
      rw [this] at k2
      exact k2
  refine q_nl z51 ?_
  by_cases z52 : x = 52
  · subst z52
    refine q_pl rfl (q_nr (by decide) (q_nr (by decide) ?_))
    obtain ⟨p, q, k1, k2, k3⟩ := d_wid (v := 3) hd hR
    exact q_l1 k1 ⟨p, q, rfl, k2, k3⟩
  refine q_nl z52 ?_
  by_cases z53 : x = 53
  · subst z53
    refine q_pl rfl (q_nr (by decide) (q_nr (by decide) ?_))
    obtain ⟨p, q, k1, k2, k3⟩ := d_wid (v := 0) hd hR
    exact q_l1 k1 ⟨p, q, rfl, k2, k3⟩
  refine q_nl z53 ?_
  by_cases z54 : x = 54
  · subst z54
    refine q_pl rfl (q_nr (by decide) (q_nr (by decide) ?_))
    obtain ⟨p, q, k1, k2, k3⟩ := d_wid (v := 1) hd hR
    exact q_l1 k1 ⟨p, q, rfl, k2, k3⟩
  refine q_nl z54 ?_
  by_cases z56 : x = 56
  · subst z56
    refine q_pl rfl (q_nr (by decide) (q_pr (by decide) ?_))
    obtain ⟨p, q, k1, k2, k3⟩ := d_align hd hR
    exact q_l1 k1 ⟨p, q, rfl, k2, k3⟩
  refine q_nl z56 ?_
  have e : j394_112 N h b x r = some r := by unfold j394_112; rw [if_neg z56]
  rw [e]
  by_cases q1 : x < 51
  · exact q_pr q1 (q_ok1 hR)
  · exact q_nr q1 (q_pr (by grind) (q_ok1 hR))
end G
