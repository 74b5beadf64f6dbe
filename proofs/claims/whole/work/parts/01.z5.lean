/-! The end of an escape. -/
section T
variable {N h b : Nat} {c0 r0 c r c' r' : xA} {x y s v : Int32} {Y X Tp Bt F E k : Nat}
theorem RT_G (hT : RT h b c0 r0 c r) : RG h b c r c r := hT.2.1
theorem d_tu {w : Int32} {m : Int32} (hT : RT h b c0 r0 c r) : Q2 (f216_turn N h b m w c) (some (xU r 157 98 (if w = 0 then r 157 98 &&& (m ^^^ -1) else r 157 98 ||| m))) (fun p q => RT h b c0 r0 p q) := by
  have ho := hT.2.1.2.2.1
  unfold Go at ho
  unfold f216_turn
  refine q_wl.mpr (q_ok1 ?_)
  rw [ho.2.2.1]
  exact RT_g hT (RG_10 (RT_G hT))
/-- the end of an escape of two bytes; the sequence and the strings apart -/
theorem d_plain (hd : Dim N h b) (hT : RT h b c0 r0 c r) (h1 : ¬ x = 91) (h2 : ¬ (x = 80 ∨ x = 88 ∨ x = 93 ∨ x = 94 ∨ x = 95)) : Q2 (f213_endEscape N h b x c) (f395_plainEscape N h b x r) (fun p q => RT h b c0 r0 p q) := by
  have hd' := hd
  obtain ⟨m0, m1, m2, m3, m4, m5⟩ := hd'
  have hG := RT_G hT
  obtain ⟨hf, ⟨Y, X, Tp, Bt, hs⟩, ho, hv, hc⟩ := hT.2.1
  obtain ⟨⟨a1, a2, a3, a4⟩, ⟨b1, b2, b3, b4⟩, ⟨d1, d2, d3, d4, d5, d6, d7, d8⟩⟩ := hs
  have lb := LL_b hd (r 191 Y)
  by_cases z1 : x = 55
  · subst z1
    unfold f213_endEscape f395_plainEscape
    exact q_pl rfl (q_pr rfl (q_b11 (d_save hd hG) (fun _ _ hh => q_ok1 (RT_g hT hh))))
  by_cases z2 : x = 56
  · subst z2
    have k := d_rest (N := N) hd hG
    unfold f213_endEscape
    refine q_nl (by decide) (q_pl rfl ?_)
    obtain ⟨p, q, e1, e2, e3⟩ := k
    rw [e1, e2, b1_some]
    exact q_ok1 (RT_g hT e3)
  unfold f213_endEscape f395_plainEscape
  refine q_nl z1 (q_nl z2 (q_nr z1 (q_nr z2 ?_)))
  by_cases z3 : x = 61
  · refine q_pl z3 (q_pr z3 ?_)
    refine q_wr.mpr ?_
    obtain ⟨p, q, e1, e2, e3⟩ := d_tu (N := N) (w := 1) (m := 128) hT
    rw [e1, b1_some]
    cases e2
    exact q_ok1 e3
  refine q_nl z3 (q_nr z3 ?_)
  by_cases z4 : x = 62
  · refine q_pl z4 (q_pr z4 ?_)
    refine q_wr.mpr ?_
    obtain ⟨p, q, e1, e2, e3⟩ := d_tu (N := N) (w := 0) (m := 128) hT
    rw [e1, b1_some]
    cases e2
    exact q_ok1 e3
  refine q_nl z4 (q_nr z4 ?_)
  by_cases z5 : x = 68
  · exact q_pl z5 (q_pr z5 (q_b11 (d_index hd hG) (fun _ _ hh => q_ok1 (RT_g hT hh))))
  refine q_nl z5 (q_nr z5 ?_)
  by_cases z6 : x = 69
  · refine q_pl z6 (q_pr z6 ?_)
    rw [d1, d2]
    exact q_b11 (d_place hd hG) (fun _ _ hh => q_b11 (d_index hd hh) (fun _ _ hh => q_ok1 (RT_g hT hh)))
  refine q_nl z6 (q_nr z6 ?_)
  by_cases z7 : x = 72
  · refine q_pl z7 (q_pr z7 ?_)
    rw [d3, d4]
    refine q_hl (g_ix (by omega) (by omega)) (q_hr (g_ix (by omega) (by omega)) (q_ok1 ?_))
    exact RT_g hT (RG_s1 hG)
  refine q_nl z7 (q_nr z7 ?_)
  by_cases z8 : x = 77
  · exact q_pl z8 (q_pr z8 (q_b11 (d_bindex hd hG) (fun _ _ hh => q_ok1 (RT_g hT hh))))
  refine q_nl z8 (q_nr z8 (q_nl h2 ?_))
  by_cases z9 : x = 90
  · exact q_pl z9 (q_pr z9 (q_b11 (d_what hd hT) (fun _ _ hh => q_ok1 hh)))
  refine q_nl z9 (q_nr z9 (q_nl h1 ?_))
  by_cases z10 : x = 99
  · exact q_pl z10 (q_pr z10 (q_b11 (d_reset hd hG) (fun _ _ hh => q_ok1 (RT_g hT hh))))
  exact q_nl z10 (q_nr z10 (q_ok1 hT))
/-- a byte of an escape -/
theorem d_esc (hd : Dim N h b) (hT : RT h b c0 r0 c r) (h9 : c 129 9 = 1) : Q2 (f212_readEscape N h b x c) (f393_escapes N h b x r) (fun p q => RT h b c0 r0 p q) := by
  have hk : c 129 10 = r 157 102 := hT.2.2.2.2.2.1 h9
  have h9' : r 157 101 = 1 := by have := hT.2.2.2.2.1; unfold Ts at this; rw [← this.2.2.2.2.2.2.2.2.1]; exact h9
  have s10 : ∀ {v : Int32}, xU c 129 9 v 129 10 = c 129 10 := rfl
  have s102 : ∀ {v : Int32}, xU r 157 101 v 157 102 = r 157 102 := rfl
  unfold f212_readEscape f393_escapes
  by_cases z : 48 ≤ x
  · refine q_pl z (q_pr z (q_wl.mpr (q_wr.mpr ?_)))
    have hT1 : RT h b c0 r0 (xU c 129 9 0) (xU r 157 101 0) := RT_9 hT (by decide)
    simp only [s10, s102, hk]
    by_cases k1 : r 157 102 = 35
    · rw [k1]
      exact q_nl (by decide) (q_pl rfl (q_pr rfl (q_b11 (d_hash hd (RT_G hT1)) (fun _ _ hh => q_ok1 (RT_g hT1 hh)))))
    by_cases k2 : r 157 102 = 0
    · refine q_pl k2 (q_nr k1 (q_pr k2 ?_))
      by_cases x1 : x = 91
      · subst x1
        refine q_pr rfl ?_
        have e : f213_endEscape N h b 91 (xU c 129 9 0) = f214_beginSequence N h b (xU c 129 9 0) := by
          unfold f213_endEscape
          simp
          cases f214_beginSequence N h b (xU c 129 9 0) <;> rfl
        rw [e]
        unfold f214_beginSequence
        refine q_l1 rfl (q_ok1 ?_)
        exact RT_seq hT1
      refine q_nr x1 ?_
      by_cases x2 : x = 80 ∨ x = 88 ∨ x = 93 ∨ x = 94 ∨ x = 95
      · have e : f213_endEscape N h b x (xU c 129 9 0) = some (xU (xU c 129 9 0) 129 9 5) := by
          unfold f213_endEscape
          rcases x2 with q | q | q | q | q <;> subst q <;> rfl
        rw [e, b1_some]
        have e2 : j393_227 N h b (xU r 157 101 0) = some (xU (xU r 157 101 0) 157 101 5) := rfl
        rw [e2]
        have K : Q2 (some (xU (xU c 129 9 0) 129 9 5)) (some (xU (xU r 157 101 0) 157 101 5)) (fun p q => RT h b c0 r0 p q) := q_ok1 (RT_9 hT1 (by decide))
        rcases x2 with q | q | q | q | q
        · exact q_pr q K
        · exact q_nr (by rw [q]; decide) (q_pr q K)
        · exact q_nr (by rw [q]; decide) (q_nr (by rw [q]; decide) (q_pr q K))
        · exact q_nr (by rw [q]; decide) (q_nr (by rw [q]; decide) (q_nr (by rw [q]; decide) (q_pr q K)))
        · exact q_nr (by rw [q]; decide) (q_nr (by rw [q]; decide) (q_nr (by rw [q]; decide) (q_nr (by rw [q]; decide) (q_pr q K))))
      · refine q_nr (fun n => x2 (by simp [n])) (q_nr (fun n => x2 (by simp [n])) (q_nr (fun n => x2 (by simp [n])) (q_nr (fun n => x2 (by simp [n])) (q_nr (fun n => x2 (by simp [n])) ?_))))
        exact q_b11 (d_plain hd hT1 x1 x2) (fun _ _ hh => q_ok1 hh)
    refine q_nl k2 (q_nl k1 (q_nr k1 (q_nr k2 ?_)))
    by_cases k3 : r 157 102 = 40
    · refine q_pl k3 ?_
      obtain ⟨p, q, e1, e2, e3⟩ := d_set (N := N) (h := h) (b := b) (x := x) (w := 1) hT1 (Or.inl ⟨rfl, k3⟩)
      simp only [s102] at e2
      rw [e1, e2, b1_some]
      exact q_ok1 e3
    refine q_nl k3 ?_
    by_cases k4 : r 157 102 = 41
    · refine q_pl k4 ?_
      obtain ⟨p, q, e1, e2, e3⟩ := d_set (N := N) (h := h) (b := b) (x := x) (w := 2) hT1 (Or.inr ⟨rfl, k4⟩)
      simp only [s102] at e2
      rw [e1, e2, b1_some]
      exact q_ok1 e3
    refine q_nl k4 ?_
    unfold j393_96 j393_101 j393_130 j393_158
    simp only [s102]
    by_cases x1 : x = 66
    · exact q_pr x1 (q_nr (by decide) (q_nr k3 (q_nr (by decide) (q_nr k4 (q_ok1 hT1)))))
    · refine q_nr x1 ?_
      by_cases x2 : x = 48
      · exact q_nr (by rw [if_pos x2]; decide) (q_nr k3 (q_nr (by rw [if_pos x2]; decide) (q_nr k4 (q_ok1 hT1))))
      · exact q_pr (by rw [if_neg x2]) (q_pr (by rw [if_neg x2]) (q_ok1 hT1))
  · refine q_nl z (q_nr z ?_)
    have e1 : xU (xU r 157 101 1) 157 102 x = xU r 157 102 x := by rw [← h9', xU_self]
    have A : RT h b c0 r0 (xU (xU c 129 9 1) 129 10 x) (xU r 157 102 x) := by rw [← e1]; exact RT_e1 hT
    have B : RT h b c0 r0 (xU (xU c 129 9 2) 129 10 x) (xU r 157 101 2) := RT_10 (RT_9 hT (by decide)) (by rw [xU_e]; decide)
    unfold j212_31 j212_35 j212_36 j393_31 j393_35 j393_36
    by_cases k0 : r 157 102 = 0
    · refine q_pl (hk.trans k0) (q_pr k0 ?_)
      by_cases x1 : x = 35
      · exact q_pl x1 (q_pr x1 (q_nr (by decide) (q_ok1 A)))
      refine q_nl x1 (q_nr x1 ?_)
      by_cases x2 : x = 40
      · exact q_pl x2 (q_pr x2 (q_nr (by decide) (q_ok1 A)))
      refine q_nl x2 (q_nr x2 ?_)
      by_cases x3 : x = 41
      · subst x3
        exact q_nr (by decide) (q_ok1 A)
      · rw [if_neg x3]
        exact q_pr rfl (q_ok1 B)
    · exact q_nl (by rw [hk]; exact k0) (q_nr k0 (q_pr rfl (q_ok1 B)))
end T
