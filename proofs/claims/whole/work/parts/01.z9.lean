/-! A byte is read. -/
section T
variable {N h b : Nat} {c0 r0 c r c' r' : xA} {x y s v : Int32} {Y X Tp Bt F E k m : Nat}
theorem RT_n (hT : RT h b c0 r0 c r) (h1 : ∀ p, p ≠ 129 → p ≠ 135 → c' p = c p) (h2 : ∀ i, i ≤ 8 → c' 129 i = c 129 i) (h3 : c' 129 9 = r' 157 101) (h4 : ∀ p, p ≠ 157 → p ≠ 193 → r' p = r p) (h5 : ∀ i, i ≠ 101 → i ≠ 102 → ¬ (115 ≤ i ∧ i ≤ 117) → r' 157 i = r 157 i) (hn : Tn c' r') : RT h b c0 r0 c' r' := by
  obtain ⟨⟨f1, f2, f3⟩, hG, hq, ha, hs, _⟩ := hT
  refine ⟨⟨fun p hp => ?_, fun p hp hp2 => ?_, fun i hi => ?_⟩, RG_same hG (fun p h6 h7 => h1 p (by omega) (by omega)) (fun p h6 h7 => h4 p (by omega) (by omega)) (fun i h6 => h5 i ?_ ?_ ?_), Tq_of hq (h1 _ (by decide) (by decide)) (h1 _ (by decide) (by decide)) (h5 _ (by decide) (by decide) (by decide)) (h4 _ (by decide) (by decide)), Ta_of ha (h1 _ (by decide) (by decide)) (h1 _ (by decide) (by decide)) (h5 _ (by decide) (by decide) (by decide)) (h4 _ (by decide) (by decide)) (h5 _ (by decide) (by decide) (by decide)), ?_, hn⟩
  · rw [h1 p (by omega) (by omega)]; exact f1 p hp
  · rw [h4 p hp (by omega)]; exact f2 p hp hp2
  · unfold tI at hi
    rw [h5 i (by omega) (by omega) (by omega)]; exact f3 i hi
  · unfold gI at h6; omega
  · unfold gI at h6; omega
  · unfold gI at h6; omega
  · obtain ⟨s1, s2, s3, s4, s5, s6, s7, s8, s9, s10⟩ := hs
    unfold Ts
    rw [h2 4 (by decide), h2 5 (by decide), h2 6 (by decide), h2 7 (by decide), h2 8 (by decide), h5 83 (by decide) (by decide) (by decide), h5 84 (by decide) (by decide) (by decide), h5 85 (by decide) (by decide) (by decide), h5 82 (by decide) (by decide) (by decide), h5 80 (by decide) (by decide) (by decide), h1 130 (by decide) (by decide)]
    exact ⟨s1, s2, s3, s4, s5, s6, s7, s8, h3, s10⟩
theorem dig (h0 : 0 ≤ v) (h1 : v ≤ 9999) (hx : 48 ≤ x) (hy : x ≤ 57) : xmin 9999 (10 * v + x - 48) = xmin 9999 (v * 10 + x - 48) ∧ 0 ≤ xmin 9999 (v * 10 + x - 48) ∧ xmin 9999 (v * 10 + x - 48) ≤ 9999 := by
  unfold xmin
  grind
theorem e_dg {a : xA} : f35_isDigit N h b x a = some (zb (48 ≤ x ∧ x ≤ 57), a) := by
  unfold f35_isDigit xg zb
  grind
theorem d_seq (hd : Dim N h b) (hT : RT h b c0 r0 c r) (h9 : c 129 9 = 3) : Q2 (f223_readSequence N h b x c) (f399_sequence N h b x r) (fun p q => RT h b c0 r0 p q) := by
  have e9 : c 129 9 = r 157 101 := hT.2.2.2.2.1.2.2.2.2.2.2.2.2.1
  have hn := hT.2.2.2.2.2.2 h9
  obtain ⟨m, m1, m2, k1, k2, k3, k4, k5, k6, k7⟩ := hn
  unfold f223_readSequence f399_sequence
  refine q_wl.mpr (q_wr.mpr ?_)
  have g12 : xU c 129 14 0 129 12 = Int32.ofNat m := by rw [xU_s (by decide)]; exact k1
  have g115 : xU r 157 117 0 157 115 = Int32.ofNat (m - 1) := by rw [xU_s (by decide)]; exact k2
  have four : RT h b c0 r0 (xU (xU c 129 14 0) 129 9 4) (xU (xU r 157 117 0) 157 101 4) := by
    refine RT_n hT (fun p h1 h2 => by rw [xU_o h1, xU_o h1]) (fun i hi => by rw [xU_s (by omega), xU_s (by omega)]) (by rw [xU_e, xU_e]) (fun p h1 h2 => by rw [xU_o h1, xU_o h1]) (fun i h1 h2 h3 => by rw [xU_s (by omega), xU_s (by omega)]) ⟨fun e => ?_, fun e => ?_⟩ <;> rw [xU_e] at e <;> exact absurd e (by decide)
  have four' : ∀ w, RT h b c0 r0 (xU (xU c 129 14 0) 129 9 4) (xU (xU (xU r 157 117 0) 157 115 w) 157 101 4) := by
    intro w
    refine RT_n hT (fun p h1 h2 => by rw [xU_o h1, xU_o h1]) (fun i hi => by rw [xU_s (by omega), xU_s (by omega)]) (by rw [xU_e, xU_e]) (fun p h1 h2 => by rw [xU_o h1, xU_o h1, xU_o h1]) (fun i h1 h2 h3 => by rw [xU_s (by omega), xU_s (by omega), xU_s (by omega)]) ⟨fun e => ?_, fun e => ?_⟩ <;> rw [xU_e] at e <;> exact absurd e (by decide)
  by_cases z1 : x < 64
  · refine q_pl z1 (q_l2 e_dg ?_)
    by_cases z2 : 48 ≤ x ∧ x ≤ 57
    · refine q_nl (by rw [zb_t z2]; decide) (q_nr (by grind) (q_nr (by grind) ?_))
      rw [g12, g115]
      have en : f10_nearest N h b (Int32.ofNat m - 1) 0 7 (xU c 129 14 0) = some (Int32.ofNat (m - 1), xU c 129 14 0) := by
        have e1 : Int32.ofNat m - 1 = Int32.ofNat (m - 1) := by
          rw [show (1 : Int32) = Int32.ofNat 1 from rfl, ← Int32.ofNat_sub _ _ m1]
        rw [e1, show (7 : Int32) = Int32.ofNat 7 from rfl, e_nearN (by decide), clN_in (by omega) (by decide)]
      refine q_l2 en (q_hl (g_ix (by omega) (by decide)) (q_hr (g_ix (by omega) (by decide)) ?_))
      rw [i_cl (by omega)]
      obtain ⟨t1, t2, t3⟩ := k7 (m - 1) (by omega)
      obtain ⟨u1, u2, u3⟩ := dig t2 t3 z2.1 z2.2
      refine q_ok1 ?_
      rw [xU_o (show (135 : Nat) ≠ 129 by decide), xU_o (show (193 : Nat) ≠ 157 by decide), ← t1, u1]
      refine RT_n hT (fun p h1 h2 => by rw [xU_o h2, xU_o h1]) (fun i hi => by rw [xU_o (by decide), xU_s (by omega)]) (by simp [xU_eq]; exact e9) (fun p h1 h2 => by rw [xU_o h2, xU_o h1]) (fun i h1 h2 h3 => by rw [xU_o (by decide), xU_s (by omega)]) ⟨fun e => ?_, fun e => ⟨m, m1, m2, ?_, ?_, ?_, ?_, ?_, ?_, fun i hi => ?_⟩⟩
      · rw [xU_o (by decide), xU_s (by decide), h9] at e
        exact absurd e (by decide)
      · rw [xU_o (by decide)]; exact g12
      · rw [xU_o (by decide)]; exact g115
      · simp [xU_eq]; exact k3
      · rw [xU_o (by decide), xU_s (by decide)]; exact k4
      · simp [xU_eq]
      · rw [xU_o (by decide), xU_e]; exact Or.inl rfl
      · by_cases e : i = m - 1
        · subst e
          rw [xU_e, xU_e]
          exact ⟨rfl, u2, u3⟩
        · rw [xU_s e, xU_s e, xU_o (by decide), xU_o (by decide)]
          exact k7 i hi
    · have tr : Q2 (j223_131 N h b x (c 129 14) (xU c 129 14 0)) (if x = 63 then (if r 157 117 = 0 then (j399_121 N h b x (xU r 157 117 0)) else (xw (xU (xU r 157 117 0) 157 116 1) (fun a46 => some a46))) else (j399_121 N h b x (xU r 157 117 0))) (fun p q => RT h b c0 r0 p q) := by
        have fin : Q2 (j223_149 N h b (xU c 129 14 0)) (j399_121 N h b x (xU r 157 117 0)) (fun p q => RT h b c0 r0 p q) := by
          unfold j223_149 j399_121
          exact q_pr z1 (q_ok1 four)
        unfold j223_131
        by_cases z4 : x = 63
        · refine q_pl z4 (q_pr z4 ?_)
          rw [k5]
          by_cases z5 : r 157 117 = 0
          · exact q_pl z5 (q_pr z5 fin)
          · refine q_nl z5 (q_nr z5 (q_ok1 ?_))
            refine RT_n hT (fun p h1 h2 => by rw [xU_o h1, xU_o h1]) (fun i hi => by rw [xU_s (by omega), xU_s (by omega)]) (by rw [xU_s (by decide), xU_s (by decide), xU_s (by decide), xU_s (by decide)]; exact e9) (fun p h1 h2 => by rw [xU_o h1, xU_o h1]) (fun i h1 h2 h3 => by rw [xU_s (by omega), xU_s (by omega)]) ⟨fun e => ?_, fun e => ⟨m, m1, m2, ?_, ?_, ?_, ?_, ?_, ?_, fun i hi => ?_⟩⟩
            · rw [xU_s (by decide), xU_s (by decide), h9] at e
              exact absurd e (by decide)
            · rw [xU_s (by decide)]; exact g12
            · rw [xU_s (by decide)]; exact g115
            · rw [xU_e, xU_e]
            · rw [xU_e]; exact Or.inr rfl
            · simp [xU_eq]
            · rw [xU_s (by decide), xU_e]; exact Or.inl rfl
            · rw [xU_o (by decide), xU_o (by decide), xU_o (by decide), xU_o (by decide)]; exact k7 i hi
        · exact q_nl z4 (q_nr z4 fin)
      have rr : (if x < 48 then (j399_57 N h b x (r 157 117) (xU r 157 117 0)) else (if 57 < x then (j399_57 N h b x (r 157 117) (xU r 157 117 0)) else (xg (¬ ((xU r 157 117 0) 157 115 < 0 ∨ 8 ≤ ((xU r 157 117 0) 157 115).toNatClampNeg)) (xw (xU (xU r 157 117 0) 193 (((xU r 157 117 0) 157 115).toNatClampNeg) (xmin 9999 (((10 * ((xU r 157 117 0) 193 (((xU r 157 117 0) 157 115).toNatClampNeg))) + x) - 48))) (fun a51 => some a51))))) = j399_57 N h b x (r 157 117) (xU r 157 117 0) := by
        by_cases e : x < 48
        · rw [if_pos e]
        · rw [if_neg e, if_pos (by grind)]
      rw [rr]
      refine q_pl (by rw [zb_f z2]) ?_
      unfold j399_57
      by_cases z3 : x = 59
      · refine q_pl z3 (q_pr z3 (q_wr.mpr ?_))
        rw [xU_e, g12, g115, on_s, show m - 1 + 1 = m by omega]
        by_cases z4 : m = 8
        · subst z4
          refine q_pl (by decide) (q_pr (by decide) ?_)
          unfold j223_131 j223_149
          exact q_nl (by rw [z3]; decide) (q_ok1 (four' _))
        · refine q_nl (by rw [show (8 : Int32) = Int32.ofNat 8 from rfl, i_le (by decide) (by omega)]; omega) (q_nr (by rw [show (8 : Int32) = Int32.ofNat 8 from rfl, i_eq (by omega) (by decide)]; exact z4) ?_)
          refine q_hl (g_ix (by omega) (by omega)) (q_hr (g_ix (by omega) (by omega)) ?_)
          rw [i_cl (by omega)]
          refine q_wl.mpr ?_
          refine q_ok1 ?_
          rw [xU_o (show (129 : Nat) ≠ 135 by decide), g12, on_s]
          refine RT_n hT (fun p h1 h2 => by rw [xU_o h1, xU_o h2, xU_o h1]) (fun i hi => by rw [xU_s (by omega), xU_o (by decide), xU_s (by omega)]) (by simp [xU_eq]; exact e9) (fun p h1 h2 => by rw [xU_o h2, xU_o h1, xU_o h1]) (fun i h1 h2 h3 => by rw [xU_o (by decide), xU_s (by omega), xU_s (by omega)]) ⟨fun e => ?_, fun e => ⟨m + 1, by omega, by omega, ?_, ?_, ?_, ?_, ?_, ?_, fun i hi => ?_⟩⟩
          · rw [xU_s (by decide), xU_o (by decide), xU_s (by decide), h9] at e
            exact absurd e (by decide)
          · rw [xU_e]
          · rw [xU_o (by decide), xU_e]; rfl
          · simp [xU_eq]; exact k3
          · rw [xU_s (by decide), xU_o (by decide), xU_s (by decide)]; exact k4
          · simp [xU_eq]
          · rw [xU_s (by decide), xU_o (by decide), xU_e]; exact Or.inl rfl
          · rw [xU_o (by decide)]
            by_cases e : i = m
            · subst e
              rw [xU_e, xU_e]
              exact ⟨rfl, by decide, by decide⟩
            · rw [xU_s e, xU_s e, xU_o (by decide), xU_o (by decide), xU_o (by decide)]
              exact k7 i (by omega)
      · exact q_nl z3 (q_nr z3 tr)
  · refine q_nl z1 (q_nr (by grind) (q_pr (by grind) ?_))
    unfold j399_57
    refine q_nr (by grind) (q_nr (by grind) ?_)
    unfold j399_121
    refine q_nr z1 (q_wl.mpr (q_wr.mpr (q_wr.mpr ?_)))
    rw [xU_s (show (115 : Nat) ≠ 101 by decide), g115, on_s, show m - 1 + 1 = m by omega]
    have hT' : RT h b c0 r0 (xU (xU c 129 14 0) 129 9 0) (xU (xU (xU r 157 117 0) 157 101 0) 157 115 (Int32.ofNat m)) := by
      refine RT_n hT (fun p h1 h2 => by rw [xU_o h1, xU_o h1]) (fun i hi => by rw [xU_s (by omega), xU_s (by omega)]) (by rw [xU_e, xU_s (by decide), xU_e]) (fun p h1 h2 => by rw [xU_o h1, xU_o h1, xU_o h1]) (fun i h1 h2 h3 => by rw [xU_s (by omega), xU_s (by omega), xU_s (by omega)]) ⟨fun e => ?_, fun e => ?_⟩ <;> rw [xU_e] at e <;> exact absurd e (by decide)
    have hM' : Nm m (xU (xU c 129 14 0) 129 9 0) (xU (xU (xU r 157 117 0) 157 101 0) 157 115 (Int32.ofNat m)) := by
      refine ⟨by rw [xU_s (by decide)]; exact g12, xU_e, m1, m2, fun i hi => ?_⟩
      rw [xU_o (by decide), xU_o (by decide), xU_o (by decide), xU_o (by decide), xU_o (by decide)]
      exact k7 i hi
    have e13 : (xU (xU c 129 14 0) 129 9 0) 129 13 = (xU (xU (xU r 157 117 0) 157 101 0) 157 115 (Int32.ofNat m)) 157 116 := by
      rw [xU_s (by decide), xU_s (by decide), xU_s (by decide), xU_s (by decide), xU_s (by decide)]; exact k3
    rw [e13]
    by_cases z6 : (xU (xU (xU r 157 117 0) 157 101 0) 157 115 (Int32.ofNat m)) 157 116 = 0
    · exact q_pl z6 (q_pr z6 (d_wrap (F := f226_moveOrErase N h b x) (G := f401_done N h b x) (d_done hd hT' hM')))
    · exact q_nl z6 (q_nr z6 (d_wrap (F := f224_turnPrivateModes N h b x) (G := f400_privately N h b x) (q_mono (d_priv hd hM' (RT_G hT')) (fun _ _ hh => RT_g hT' hh))))
theorem d_byte (hd : Dim N h b) (hT : RT h b c0 r0 c r) (hx : (0 ≤ x ∧ x ≤ 255) ∨ x = 256) : Q2 (f204_readByte N h b x c) (f382_reads N h b x r) (fun p q => RT h b c0 r0 p q) := by
  have e9 : c 129 9 = r 157 101 := hT.2.2.2.2.1.2.2.2.2.2.2.2.2.1
  have sub : Q2 (j204_13 N h b c) (xw (xU r 157 101 0) (fun a2 => f383_prints N h b 225 a2)) (fun p q => RT h b c0 r0 p q) := by
    unfold j204_13
    simp only [b1_id]
    have hT' := RT_9 (v := 0) hT (by decide)
    exact q_mono (d_prt hd (RT_G hT')) (fun _ _ hh => RT_g hT' hh)
  unfold f204_readByte f382_reads
  simp only [b1_id]
  by_cases z : x = 256
  · exact q_pl z (q_pr z sub)
  refine q_nl z (q_nr z ?_)
  by_cases z2 : 128 ≤ x
  · exact q_pr z2 (q_nl (by grind) (q_nl (by grind) (q_nl (by grind) (q_nl (by grind) (q_nl (by grind) (q_ok1 hT))))))
  refine q_nr z2 ?_
  by_cases z3 : x = 0
  · subst z3
    exact q_pr rfl (q_nl (by decide) (q_nl (by decide) (q_nl (by decide) (q_pl rfl (q_ok1 hT)))))
  refine q_nr z3 ?_
  by_cases z4 : x = 127
  · subst z4
    exact q_pr rfl (q_nl (by decide) (q_nl (by decide) (q_nl (by decide) (q_nl (by decide) (q_nl (by decide) (q_ok1 hT))))))
  refine q_nr z4 ?_
  by_cases z5 : x = 24
  · subst z5
    exact q_pr rfl (q_nl (by decide) (q_pl rfl (q_ok1 (RT_9 hT (by decide)))))
  refine q_nr z5 ?_
  by_cases z6 : x = 26
  · exact q_pr z6 (q_pl z6 sub)
  refine q_nr z6 (q_nl z6 (q_nl z5 ?_))
  by_cases z7 : x = 27
  · exact q_pl z7 (q_pr z7 (q_ok1 (RT_e1 hT)))
  refine q_nl z7 (q_nr z7 (q_nl z3 (q_pl (by grind) ?_)))
  rw [← e9]
  by_cases z8 : c 129 9 = 5
  · refine q_pl z8 (q_pr z8 ?_)
    by_cases z9 : x = 7
    · rw [if_pos z9]
      exact q_pr z9 (q_ok1 (RT_9 hT (by decide)))
    · rw [if_neg z9, ← z8, xU_self]
      exact q_nr z9 (q_ok1 hT)
  refine q_nl z8 (q_nr z8 ?_)
  by_cases z9 : 32 ≤ x
  · refine q_pl z9 (q_pr z9 ?_)
    by_cases y0 : c 129 9 = 0
    · exact q_pl y0 (q_pr y0 (d_g hT (fun hR => d_letS hd hR)))
    refine q_nl y0 (q_nr y0 ?_)
    by_cases y1 : c 129 9 = 1
    · exact q_pl y1 (q_pr y1 (d_esc hd hT y1))
    refine q_nl y1 (q_nr y1 ?_)
    by_cases y3 : c 129 9 = 3
    · exact q_pl y3 (q_pr y3 (d_seq hd hT y3))
    refine q_nl y3 (q_nr y3 ?_)
    unfold j382_200
    by_cases y2 : c 129 9 = 2
    · rw [if_pos y2, if_pos y2]
      by_cases y4 : x < 48
      · exact q_pl y4 (q_pr y4 (q_ok1 hT))
      · exact q_nl y4 (q_nr y4 (q_ok1 (RT_9 hT (by decide))))
    · rw [if_neg y2, if_neg y2]
      by_cases y4 : x < 64
      · exact q_pl y4 (q_pr y4 (q_ok1 hT))
      · exact q_nl y4 (q_nr y4 (q_ok1 (RT_9 hT (by decide))))
  · exact q_nl z9 (q_nr z9 (d_g hT (fun hR => d_ctl hd hR)))
end T
