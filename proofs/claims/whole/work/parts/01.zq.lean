/-! The machine puts a string together. -/
section T
variable {N h b : Nat} {c0 r0 c r c' r' : xA} {x y z s v w q7 q8 w4 w5 : Int32} {G : Nat → Int32} {P S row n i f k m p : Nat}
theorem Vw_of (H : Vw h b P S row n c r G) (h1 : c' P = c P) (h2 : r' 165 = r 165) (h3 : r' 166 = r 166) : Vw h b P S row n c' r' G := by
  unfold Vw at *
  rw [h1, h2, h3]
  exact H
theorem e_comb {K : Int32} {a a' : xA} (hk : smp K) (n1 : ¬ K = 33) (n2 : ¬ K = 37) (n3 : ¬ (K = 59 ∨ K = 63)) (n4 : ¬ K = 99) (n5 : ¬ K = 100) (n6 : ¬ K = 101) (n7 : ¬ K = 105) (n8 : ¬ K = 116) (n9 : ¬ K = 126) : ∃ t, f90_combined N h b K x y a = some (t, a) ∧ f305_works N h b K x y a' = some (t, a') := by
  unfold f90_combined f305_works j90_223 j305_215
  by_cases z1 : K = 38
  · exact ⟨_, by rw [if_pos z1], by rw [if_pos z1]⟩
  rw [if_neg z1, if_neg z1]
  by_cases z2 : K = 42
  · exact ⟨_, by rw [if_pos z2], by rw [if_pos z2]⟩
  rw [if_neg z2, if_neg z2]
  by_cases z3 : K = 43
  · exact ⟨_, by rw [if_pos z3], by rw [if_pos z3]⟩
  rw [if_neg z3, if_neg z3]
  by_cases z4 : K = 45
  · exact ⟨_, by rw [if_pos z4], by rw [if_pos z4]⟩
  rw [if_neg z4, if_neg z4]
  by_cases z5 : K = 47
  · rw [if_pos z5, if_pos z5]
    by_cases y0 : y = 0
    · exact ⟨_, by rw [if_pos y0], by rw [if_pos y0]⟩
    · exact ⟨_, by rw [if_neg y0], by rw [if_neg y0]⟩
  rw [if_neg z5, if_neg z5]
  by_cases z6 : K = 60
  · exact ⟨_, by rw [if_pos z6], by rw [if_pos z6]⟩
  rw [if_neg z6, if_neg z6]
  by_cases z7 : K = 61
  · exact ⟨_, by rw [if_pos z7], by rw [if_pos z7]⟩
  rw [if_neg z7, if_neg z7]
  by_cases z8 : K = 62
  · exact ⟨_, by rw [if_pos z8], by rw [if_pos z8]⟩
  rw [if_neg z8, if_neg z8]
  by_cases z9 : K = 65
  · rw [if_pos z9, if_pos z9]
    by_cases x0 : x = 0
    · exact ⟨_, by rw [if_pos x0], by rw [if_pos x0]⟩
    · exact ⟨_, by rw [if_neg x0], by rw [if_neg x0]⟩
  rw [if_neg z9, if_neg z9]
  by_cases y1 : K = 79
  · rw [if_pos y1, if_neg (show ¬ K = 94 by rw [y1]; decide), if_neg (show ¬ K = 109 by rw [y1]; decide), if_neg (show ¬ K = 124 by rw [y1]; decide)]
    by_cases x0 : x = 0
    · exact ⟨_, by rw [if_pos x0], by rw [if_pos x0]⟩
    · exact ⟨_, by rw [if_neg x0], by rw [if_neg x0]⟩
  rw [if_neg y1]
  by_cases y2 : K = 94
  · exact ⟨_, by rw [if_pos y2], by rw [if_pos y2]⟩
  rw [if_neg y2, if_neg y2]
  by_cases y3 : K = 109
  · rw [if_pos y3, if_pos y3]
    by_cases y0 : y = 0
    · exact ⟨_, by rw [if_pos y0], by rw [if_pos y0]⟩
    · exact ⟨_, by rw [if_neg y0], by rw [if_neg y0]⟩
  rw [if_neg y3, if_neg y3]
  by_cases y4 : K = 124
  · exact ⟨_, by rw [if_pos y4], by rw [if_pos y4]⟩
  exfalso
  unfold smp at hk
  grind
def PX (w4 w5 : Int32) (c0 r0 c r : xA) : Prop := ∃ q7 q8, PP q7 q8 w4 w5 c0 r0 c r
theorem d_putl (hN : 100000 ≤ N) (hP : P < 93) (H0 : Vw h b P S row n c0 r0 G) : ∀ (k i t f : Nat) (q7 q8 : Int32) (c r : xA), n ≤ i + k → i ≤ n → k < f → t + k ≤ 40 → WFp G n i → PP q7 q8 w4 w5 c0 r0 c r → Q2 (l82_34 N h b P (Int32.ofNat (S + n)) f (Int32.ofNat (S + i)) (Int32.ofNat t) c) (l299_39 N h b w4 w5 (Int32.ofNat row) f q7 q8 (Int32.ofNat i) r) (fun p q => PX w4 w5 c0 r0 p.2 q.2) := by
  intro k
  induction k with
  | zero =>
    intro i t f q7 q8 c r h1 h2 h3 h4 hW HP
    have H := Vw_of H0 (HP.1.1 P (by omega)) (HP.1.2.2.1 165 (by decide) (by decide) (by decide)) (HP.1.2.2.1 166 (by decide) (by decide) (by decide))
    obtain ⟨⟨a1, a2, a3, a4, a5⟩, a6, _⟩ := id H
    obtain ⟨f, rfl⟩ : ∃ f', f = f' + 1 := ⟨f - 1, by omega⟩
    have : i = n := by omega
    subst this
    rw [l82_34, l299_39, xg_pos (g_ix a5 (by omega)), i_cl (show row < 2 ^ 31 by omega), a6]
    refine q_pr (Int32.le_refl _) ?_
    by_cases q : (40 : Int32) ≤ Int32.ofNat t
    · exact q_pl q ⟨_, _, rfl, rfl, _, _, HP⟩
    · exact q_nl q (q_pl (Int32.le_refl _) ⟨_, _, rfl, rfl, _, _, HP⟩)
  | succ k ih =>
    intro i t f q7 q8 c r h1 h2 h3 h4 hW HP
    have H := Vw_of H0 (HP.1.1 P (by omega)) (HP.1.2.2.1 165 (by decide) (by decide) (by decide)) (HP.1.2.2.1 166 (by decide) (by decide) (by decide))
    obtain ⟨⟨a1, a2, a3, a4, a5⟩, a6, a7, a8, a9⟩ := id H
    obtain ⟨f, rfl⟩ : ∃ f', f = f' + 1 := ⟨f - 1, by omega⟩
    by_cases hi : i < n
    · obtain ⟨t0, hW'⟩ := WFp_s hW hi
      obtain ⟨tl1, tl2⟩ := tl_le H hi t0
      rw [l82_34, l299_39]
      refine q_nl (by rw [show (40 : Int32) = Int32.ofNat 40 from rfl, i_le (by omega) (by omega)]; omega) (q_nl (by rw [i_le (by omega) (by omega)]; omega) (q_hr (g_ix a5 (by omega)) ?_))
      rw [i_cl (show row < 2 ^ 31 by omega), a6]
      refine q_nr (by rw [i_le (by omega) (by omega)]; omega) (q_l2 (e_tl H hi hN) (q_r2 (e_it H (by omega) hN) (q_r2 (e_byte H (by omega)) ?_)))
      unfold j82_201 j82_333 j299_88 j299_567
      rw [mx1 (by omega), Nat.max_eq_right tl2]
      have nj : ∀ {j : Nat} {q7' q8' : Int32} {c1 r1 : xA}, i < j → j ≤ n → WFp G n j → PP q7' q8' w4 w5 c0 r0 c1 r1 → Q2 (l82_34 N h b P (Int32.ofNat (S + n)) f (Int32.ofNat (S + j)) (Int32.ofNat t + 1) c1) (l299_39 N h b w4 w5 (Int32.ofNat row) f q7' q8' (Int32.ofNat j) r1) (fun p q => PX w4 w5 c0 r0 p.2 q.2) := by
        intro j q7' q8' c1 r1 g1 g2 g3 g4
        rw [on_s]
        exact ih j (t + 1) f q7' q8' c1 r1 (by omega) g2 (by omega) (by omega) g3 g4
      have next : ∀ {q7' q8' : Int32} {c1 r1 : xA}, PP q7' q8' w4 w5 c0 r0 c1 r1 → Q2 (l82_34 N h b P (Int32.ofNat (S + n)) f (Int32.ofNat (S + i) + Int32.ofNat (tl G i)) (Int32.ofNat t + 1) c1) (l299_39 N h b w4 w5 (Int32.ofNat row) f q7' q8' (Int32.ofNat i + Int32.ofNat (tl G i)) r1) (fun p q => PX w4 w5 c0 r0 p.2 q.2) := by
        intro q7' q8' c1 r1 g4
        rw [← Int32.ofNat_add, ← Int32.ofNat_add, Nat.add_assoc]
        exact nj (by omega) tl1 hW' g4
      have Hx : ∀ {q7' q8' : Int32} {c1 r1 : xA}, PP q7' q8' w4 w5 c0 r0 c1 r1 → Vw h b P S row n c1 r1 G := fun g => Vw_of H0 (g.1.1 P (by omega)) (g.1.2.2.1 165 (by decide) (by decide) (by decide)) (g.1.2.2.1 166 (by decide) (by decide) (by decide))
      by_cases z : G i = 37
      · have t2 : 2 ≤ tl G i := by
          have e1 : tl G i ≠ 1 := by
            unfold tl
            rw [if_pos z]
            split
            · decide
            · repeat' split
              all_goals omega
          omega
        have l1 : i + 1 < n := by omega
        refine q_pl (by rw [show (2 : Int32) = Int32.ofNat 2 from rfl, i_le (by omega) (by omega)]; exact t2) (q_pr z (q_r2 (e_by1 H (by omega)) ?_))
        rw [on_s, Nat.add_assoc, o2, Nat.add_assoc]
        refine q_hl (g_S H l1) ?_
        rw [e_S H l1]
        have lk := Vw_by H l1
        have nm : ¬ G (i + 1) = -1 := fun e => by rw [e] at lk; exact absurd lk.1 (by decide)
        refine q_nr nm ?_
        unfold f89_operate
        simp only [b1_i, b1_2, b1_1, b1_w, b1_some]
        by_cases k1 : G (i + 1) = 33
        · refine q_pr k1 (q_nl (by rw [k1]; decide) (q_nl (by rw [k1]; decide) (q_nl (by rw [k1]; decide) (q_nl (by rw [k1]; decide) (q_nl (by rw [k1]; decide) (q_nl (by rw [k1]; decide) (q_nl (by rw [k1]; decide) (q_nl (by rw [k1]; decide) (q_pl k1 ?_)))))))))
          exact q_bs (p_pop HP) (fun v c1 r1 g1 => q_b11 (p_push g1) (fun c2 r2 g2 => next g2))
        refine q_nr k1 ?_
        by_cases k2 : G (i + 1) = 37
        · refine q_pr k2 (q_nl (by rw [k2]; decide) (q_nl (by rw [k2]; decide) (q_nl (by rw [k2]; decide) (q_nl (by rw [k2]; decide) (q_nl (by rw [k2]; decide) (q_nl (by rw [k2]; decide) (q_nl (by rw [k2]; decide) (q_nl (by rw [k2]; decide) (q_nl k1 (q_pl k2 ?_))))))))))
          exact q_b11 (p_make HP rfl) (fun c2 r2 g2 => next g2)
        refine q_nr k2 ?_
        by_cases k3 : G (i + 1) = 39
        · have t4 : tl G i = 4 := by
            have := t0
            unfold tl at this ⊢
            rw [if_pos z, if_neg (by rw [k3]; decide), if_pos k3] at this ⊢
            split at this
            · next q => rw [if_pos q]
            · omega
          refine q_pr k3 (q_pl k3 (q_hl (g_S H (by omega)) (q_r2 (e_by2 H (by omega)) ?_)))
          rw [e_S H (by omega)]
          exact q_b11 (p_push HP) (fun c2 r2 g2 => next g2)
        refine q_nr k3 (q_nl k3 ?_)
        by_cases k4 : G (i + 1) = 48
        · have t4 : tl G i = 4 ∧ (G (i + 2) = 50 ∨ G (i + 2) = 51) := by
            have := t0
            unfold tl at this ⊢
            rw [if_pos z, if_neg (by rw [k4]; decide), if_neg k3, if_pos k4] at this ⊢
            split at this
            · next q => rw [if_pos q]; exact ⟨rfl, q.1⟩
            · omega
          have lv : ∃ l : Nat, l ≤ 9 ∧ G (i + 2) - 48 = Int32.ofNat l := by
            rcases t4.2 with e | e
            · exact ⟨2, by omega, by rw [e]; rfl⟩
            · exact ⟨3, by omega, by rw [e]; rfl⟩
          obtain ⟨l, hl, el⟩ := lv
          refine q_pr k4 (q_pl k4 (q_bs (p_pop HP) (fun v c1 r1 g1 => ?_)))
          have H1 := Hx g1
          refine q_hl (g_S H1 (by omega)) (q_r2 (e_by2 H1 (by omega)) ?_)
          rw [e_S H1 (by omega), el]
          exact q_b11 (p_dec hN hl (Or.inr ⟨rfl, rfl⟩) g1) (fun c2 r2 g2 => next g2)
        refine q_nr k4 (q_nl k4 ?_)
        by_cases k5 : G (i + 1) = 50 ∨ G (i + 1) = 51
        · have lv : ∃ l : Nat, l ≤ 9 ∧ G (i + 1) - 48 = Int32.ofNat l := by
            rcases k5 with e | e
            · exact ⟨2, by omega, by rw [e]; rfl⟩
            · exact ⟨3, by omega, by rw [e]; rfl⟩
          obtain ⟨l, hl, el⟩ := lv
          refine q_pr k5 (q_pl k5 (q_bs (p_pop HP) (fun v c1 r1 g1 => ?_)))
          rw [el]
          exact q_b11 (p_dec hN hl (Or.inl ⟨rfl, rfl⟩) g1) (fun c2 r2 g2 => next g2)
        refine q_nr k5 (q_nl k5 ?_)
        by_cases k6 : G (i + 1) = 59 ∨ G (i + 1) = 63
        · have e1 : ∀ {m : Int32}, ¬ m = 59 → ¬ m = 63 → ¬ G (i + 1) = m := fun g1 g2 g3 => k6.elim (fun q => g1 (g3 ▸ q)) (fun q => g2 (g3 ▸ q))
          exact q_pr k6 (q_nl (e1 (by decide) (by decide)) (q_nl (e1 (by decide) (by decide)) (q_nl (e1 (by decide) (by decide)) (q_nl (e1 (by decide) (by decide)) (q_nl (e1 (by decide) (by decide)) (q_nl k1 (q_nl k2 (q_pl k6 (next HP)))))))))
        refine q_nr k6 ?_
        by_cases k7 : G (i + 1) = 99
        · refine q_pr k7 (q_nl (by rw [k7]; decide) (q_nl (by rw [k7]; decide) (q_nl (by rw [k7]; decide) (q_nl (by rw [k7]; decide) (q_nl (by rw [k7]; decide) (q_nl k1 (q_nl k2 (q_nl k6 (q_pl k7 ?_)))))))))
          exact q_bs (p_pop HP) (fun v c1 r1 g1 => q_b11 (p_make g1 rfl) (fun c2 r2 g2 => next g2))
        refine q_nr k7 ?_
        by_cases k8 : G (i + 1) = 100
        · refine q_pr k8 (q_pl k8 (q_bs (p_pop HP) (fun v c1 r1 g1 => ?_)))
          exact q_b11 (p_dec (l := 0) hN (by omega) (Or.inl ⟨rfl, rfl⟩) g1) (fun c2 r2 g2 => next g2)
        refine q_nr k8 (q_nl k8 ?_)
        by_cases k9 : G (i + 1) = 101
        · refine q_pr k9 (q_pl k9 ?_)
          rw [← Int32.ofNat_add, ← Int32.ofNat_add, Nat.add_assoc]
          obtain ⟨j, g1, g2, g3, g4, g5⟩ := d_skip (w := 0) hN H tl1 hW'
          exact q_l2 g4 (q_r2 g5 (nj (by omega) g2 g3 HP))
        refine q_nr k9 (q_nl k9 ?_)
        by_cases y1 : G (i + 1) = 105
        · refine q_pr y1 (q_nl (by rw [y1]; decide) (q_nl (by rw [y1]; decide) (q_nl (by rw [y1]; decide) (q_nl k1 (q_nl k2 (q_nl k6 (q_nl k7 (q_pl y1 (q_wl.mpr (q_wl.mpr ?_))))))))))
          obtain ⟨⟨f1, f2, f3, f4⟩, pm, p1, p2, p3, p4⟩ := id HP
          rw [xU_s (show (1 : Nat) ≠ 0 by decide), p1, p2]
          refine next ⟨⟨fun p hp => by rw [xU_o (by omega), xU_o (by omega)]; exact f1 p hp, fun i h1 h2 => by rw [xU_o (by decide), xU_o (by decide)]; exact f2 i h1 h2, f3, f4⟩, ?_, ?_, ?_, ?_, ?_⟩
          · unfold PM
            rw [xU_o (by decide), xU_o (by decide), xU_o (by decide), xU_o (by decide), xU_o (by decide), xU_o (by decide)]
            exact pm
          · rw [xU_s (by decide), xU_e]
          · rw [xU_e]
          · rw [xU_s (by decide), xU_s (by decide)]; exact p3
          · rw [xU_s (by decide), xU_s (by decide)]; exact p4
        refine q_nr y1 ?_
        by_cases y2 : G (i + 1) = 112
        · have t4 : tl G i = 3 ∧ 49 ≤ G (i + 2) ∧ G (i + 2) ≤ 52 := by
            have := t0
            unfold tl at this ⊢
            rw [if_pos z, if_neg (by rw [y2]; decide), if_neg k3, if_neg k4, if_neg k5, if_pos y2] at this ⊢
            split at this
            · next q => rw [if_pos q]; exact ⟨rfl, q⟩
            · omega
          refine q_pr y2 (q_pl y2 (q_hl (g_S H (by omega)) (q_r2 (e_by2 H (by omega)) ?_)))
          rw [e_S H (by omega)]
          obtain ⟨⟨f1, f2, f3, f4⟩, pm, p1, p2, p3, p4⟩ := id HP
          have cs : G (i + 2) = 49 ∨ G (i + 2) = 50 ∨ G (i + 2) = 51 ∨ G (i + 2) = 52 := by
            have := t4.2
            grind
          rcases cs with e | e | e | e <;> rw [e]
          · refine q_hl (by decide) ?_
            rw [show (((49 : Int32) - 49) &&& 3).toNatClampNeg = 0 from rfl, p1, if_pos (by decide)]
            exact q_b11 (p_push HP) (fun c2 r2 g2 => next g2)
          · refine q_hl (by decide) ?_
            rw [show (((50 : Int32) - 49) &&& 3).toNatClampNeg = 1 from rfl, p2, if_neg (by decide), if_pos (by decide)]
            exact q_b11 (p_push HP) (fun c2 r2 g2 => next g2)
          · refine q_hl (by decide) ?_
            rw [show (((51 : Int32) - 49) &&& 3).toNatClampNeg = 2 from rfl, p3, if_neg (by decide), if_neg (by decide), if_pos (by decide)]
            exact q_b11 (p_push HP) (fun c2 r2 g2 => next g2)
          · refine q_hl (by decide) ?_
            rw [show (((52 : Int32) - 49) &&& 3).toNatClampNeg = 3 from rfl, p4, if_neg (by decide), if_neg (by decide), if_neg (by decide)]
            exact q_b11 (p_push HP) (fun c2 r2 g2 => next g2)
        refine q_nr y2 (q_nl y2 ?_)
        by_cases y3 : G (i + 1) = 116
        · refine q_pr y3 (q_pl y3 (q_bs (p_pop HP) (fun v c1 r1 g1 => ?_)))
          by_cases v0 : v = 0
          · refine q_pl v0 (q_pr v0 ?_)
            rw [← Int32.ofNat_add, ← Int32.ofNat_add, Nat.add_assoc]
            obtain ⟨j, g1', g2, g3, g4, g5⟩ := d_skip (w := 1) hN (Hx g1) tl1 hW'
            exact q_l2 g4 (q_r2 g5 (nj (by omega) g2 g3 g1))
          · exact q_nl v0 (q_nr v0 (next g1))
        refine q_nr y3 (q_nl y3 ?_)
        by_cases y4 : G (i + 1) = 123
        · have t4 : 1 ≤ dc G 6 (i + 2) ∧ dc G 6 (i + 2) ≤ 5 ∧ vl G (dc G 6 (i + 2)) (i + 2) 0 ≤ 32767 ∧ G (i + 2 + dc G 6 (i + 2)) = 125 := by
            have := t0
            unfold tl at this
            rw [if_pos z, if_neg (by rw [y4]; decide), if_neg k3, if_neg k4, if_neg k5, if_neg y2, if_pos y4] at this
            split at this
            · next q => exact q
            · omega
          refine q_pr y4 (q_pl y4 ?_)
          have eA : f87_numberAt N h b P (Int32.ofNat (S + (i + 2))) (Int32.ofNat (S + n)) c = some (vl G (dc G 6 (i + 2)) (i + 2) 0, c) := by
            unfold f87_numberAt
            have el := e_nal (N := N) H hi 5 0 N 0 (by omega) (by omega)
            have el' : l87_5 N h b P (Int32.ofNat (S + (i + 2))) (Int32.ofNat (S + n)) N 0 0 c = some (0, vl G (dc G 5 (i + 2)) (i + 2) 0, c) := el
            rw [xg_pos a1, el', Option.bind_some, (dc_s 5 (i + 2)).1 t4.2.1]
          have eB := e_nrl (N := N) (u4 := w4) (u5 := w5) (u7 := q7) (u8 := q8) (u12 := Int32.ofNat i + Int32.ofNat (tl G i)) H (dc G 6 (i + 2)) (i + 2) N 0 (by omega) (fun m hm => dc_d 6 (i + 2) m hm) t4.2.2.2 (by omega)
          rw [o2, eB, Option.bind_some]
          refine q_l2 eA ?_
          exact q_b11 (p_push HP) (fun c2 r2 g2 => next g2)
        refine q_nr y4 (q_nl y4 (q_nl k1 (q_nl k2 (q_nl k6 (q_nl k7 (q_nl y1 ?_))))))
        by_cases y5 : G (i + 1) = 126
        · exact q_pr y5 (q_pl y5 (q_bs (p_pop HP) (fun v c1 r1 g1 => q_b11 (p_push g1) (fun c2 r2 g2 => next g2))))
        refine q_nr y5 (q_nl y5 ?_)
        have sk : smp (G (i + 1)) := by
          by_cases q : smp (G (i + 1))
          · exact q
          · exfalso
            apply t0
            unfold tl
            rw [if_pos z, if_neg q, if_neg k3, if_neg k4, if_neg k5, if_neg y2, if_neg y4]
        refine q_bs (p_pop HP) (fun u1 c1 r1 g1 => q_bs (p_pop g1) (fun u2 c2 r2 g2 => ?_))
        obtain ⟨t', e1, e2⟩ := e_comb (N := N) (h := h) (b := b) (x := u2) (y := u1) (a := c2) (a' := r2) sk k1 k2 k6 k7 k8 k9 y1 y3 y5
        exact q_l2 e1 (q_r2 e2 (q_b11 (p_push g2) (fun c2 r2 g2 => next g2)))
      · have t1 : tl G i = 1 := if_neg z
        refine q_nl (by rw [t1]; decide) (q_nr z (q_hl (g_S H hi) (q_pr rfl (q_r2 (e_byte H (by omega)) ?_))))
        rw [e_S H hi]
        have hb := Vw_by H hi
        exact q_b11 (p_make HP (by_of hb.1 hb.2).symm) (fun c2 r2 g2 => next g2)
    · exact ih i t (f + 1) q7 q8 c r (by omega) h2 (by omega) (by omega) hW HP
end T
