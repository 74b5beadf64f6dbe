/-! The end of a sequence. -/
section T
variable {N h b : Nat} {c0 r0 c r c' r' : xA} {x y s v : Int32} {Y X Tp Bt F E k m : Nat}
theorem b1_id {m : Option xA} : xb1 m (fun a => some a) = m := by cases m <;> rfl
theorem xmin_i {k x : Int32} : xmin k (xmin x k) = xmin k x := by
  unfold xmin
  grind
theorem g_min {k : Int32} (hk : k = r 157 68 - 1) : f384_goes N h b (xmin x k) y r = f384_goes N h b x y r := by
  unfold f384_goes
  rw [hk, xmin_i]
theorem d_done1 {P S : Nat} (hd : Dim N h b) (hT : RT h b c0 r0 c r) (hM : Nm m c r) (hP : P ≤ 9999) (hS : S ≤ 9999) : Q2 (j226_25 N h b x (Int32.ofNat P) (Int32.ofNat S) c) (j401_25 N h b x (Int32.ofNat P) (Int32.ofNat S) r) (fun p q => RT h b c0 r0 p q) := by
  have hR := RT_G hT
  have hR' := hR
  obtain ⟨hf, ⟨Y, X, Tp, Bt, hs⟩, ho, hv, hc⟩ := hR'
  obtain ⟨⟨a1, a2, a3, a4⟩, ⟨b1, b2, b3, b4⟩, ⟨d1, d2, d3, d4, d5, d6, d7, d8⟩⟩ := hs
  have hd' := hd
  obtain ⟨m0, m1, m2, m3, m4, m5⟩ := hd'
  have lb := LL_b hd (r 191 Y)
  have e10 : c 136 10 = r 157 98 := ho.2.2.1
  have hP' : max 1 P ≤ 9999 := by omega
  have G : ∀ {F' G' : Option xA}, Q2 F' G' (fun p q => RG h b c r p q) → Q2 F' G' (fun p q => RT h b c0 r0 p q) := fun hq => q_mono hq (fun _ _ hh => RT_g hT hh)
  have pl : ∀ {n : Nat} {y : Int32}, 1 ≤ n → n ≤ 9999 → Q2 (f229_placeTold N h b (Int32.ofNat n - 1) y c) (xb2 (f402_rowOf N h b (Int32.ofNat n) r) (fun r39 a40 => f384_goes N h b r39 y a40)) (fun p q => RG h b c r p q) := by
    intro n y hn hn2
    unfold f229_placeTold f402_rowOf
    rw [e_gh, e_md, b2_some, b2_some, e10]
    simp only [b1_id]
    by_cases z : zb (¬ r 157 98 &&& 16 = 0) = 0
    · rw [if_pos z, if_pos z, b2_some, g_min rfl]
      exact d_place hd hR
    · rw [if_neg z, if_neg z, b2_some, d5, d6, d7, d8, show Int32.ofNat Tp + (Int32.ofNat n - 1) = Int32.ofNat Tp + Int32.ofNat n - 1 by grind]
      exact d_place hd hR
  unfold j226_25 j401_25 j226_498
  simp only [b1_id]
  rw [mx1 (by omega), mx1 (by omega)]
  by_cases z : x = 64
  · subst z
    refine q_pl rfl ?_
    refine q_pr (by decide) (G (d_cin hd hR (by omega) hP' (Or.inl ⟨rfl, rfl⟩)))
  by_cases z : x = 65
  · subst z
    iterate 1 refine q_nl (by decide) ?_
    refine q_pl (by decide) ?_
    iterate 1 refine q_nr (by decide) ?_
    refine q_pr (by decide) (G ?_)
    unfold f227_goUp
    simp only [b1_id]
    rw [d1, d2, d3, d4, d5, d6]
    exact d_place hd hR
  by_cases z : x = 66
  · subst z
    iterate 2 refine q_nl (by decide) ?_
    refine q_pl (by decide) ?_
    iterate 2 refine q_nr (by decide) ?_
    refine q_pr (by decide) (G ?_)
    unfold f228_goDown
    simp only [b1_id]
    rw [d1, d2, d3, d4, d7, d8, a1, a3]
    exact d_place hd hR
  by_cases z : x = 67
  · subst z
    iterate 3 refine q_nl (by decide) ?_
    refine q_pl (by decide) ?_
    iterate 3 refine q_nr (by decide) ?_
    refine q_pr (by decide) (G ?_)
    rw [d1, d2, d3, d4]
    exact d_place hd hR
  by_cases z : x = 68
  · subst z
    iterate 4 refine q_nl (by decide) ?_
    refine q_pl (by decide) ?_
    iterate 4 refine q_nr (by decide) ?_
    refine q_pr (by decide) (G ?_)
    rw [d1, d2, d3, d4]
    exact d_place hd hR
  by_cases z : x = 71
  · subst z
    iterate 5 refine q_nl (by decide) ?_
    refine q_pl (by decide) ?_
    iterate 5 refine q_nr (by decide) ?_
    refine q_pr (by decide) (G ?_)
    rw [d1, d2]
    exact d_place hd hR
  by_cases z : x = 72 ∨ x = 102
  · iterate 6 refine q_nl (by assumption) ?_
    refine q_pl z ?_
    iterate 6 refine q_nr (by rcases z with z | z <;> subst z <;> decide) ?_
    refine q_pr z (G ?_)
    exact pl (by omega) hP'
  by_cases z : x = 74
  · subst z
    iterate 7 refine q_nl (by decide) ?_
    refine q_pl (by decide) ?_
    iterate 7 refine q_nr (by decide) ?_
    refine q_pr (by decide) (G ?_)
    exact d_J hd hR (zf (by omega))
  by_cases z : x = 75
  · subst z
    iterate 8 refine q_nl (by decide) ?_
    refine q_pl (by decide) ?_
    iterate 8 refine q_nr (by decide) ?_
    refine q_pr (by decide) (G ?_)
    have hq := d_K (x := Int32.ofNat P) hd hR
    unfold refK at hq
    simp only [b1_id] at hq
    exact hq
  by_cases z : x = 76
  · subst z
    iterate 9 refine q_nl (by decide) ?_
    refine q_pl (by decide) ?_
    iterate 9 refine q_nr (by decide) ?_
    refine q_pr (by decide) (G ?_)
    rw [if_pos rfl]
    exact d_rin hd hR (by omega) hP' (Or.inl ⟨rfl, rfl⟩)
  by_cases z : x = 77
  · subst z
    iterate 10 refine q_nl (by decide) ?_
    refine q_pl (by decide) ?_
    iterate 9 refine q_nr (by decide) ?_
    refine q_pr (by decide) (G ?_)
    rw [if_neg (by decide)]
    exact d_rin hd hR (by omega) hP' (Or.inr ⟨rfl, rfl⟩)
  by_cases z : x = 80
  · subst z
    iterate 11 refine q_nl (by decide) ?_
    refine q_pl (by decide) ?_
    refine q_pr (by decide) (G ?_)
    exact d_cin hd hR (by omega) hP' (Or.inr (Or.inl ⟨rfl, rfl⟩))
  by_cases z : x = 88
  · subst z
    iterate 12 refine q_nl (by decide) ?_
    refine q_pl (by decide) ?_
    refine q_pr (by decide) (G ?_)
    exact d_cin hd hR (by omega) hP' (Or.inr (Or.inr ⟨rfl, rfl⟩))
  by_cases z : x = 100
  · subst z
    iterate 13 refine q_nl (by decide) ?_
    refine q_pl (by decide) ?_
    iterate 11 refine q_nr (by decide) ?_
    refine q_pr (by decide) (G ?_)
    have hq := pl (n := max 1 P) (y := Int32.ofNat X) (by omega) hP'
    unfold f402_rowOf at hq ⊢
    rw [e_md, b2_some] at hq ⊢
    rw [d3]
    by_cases z : zb (¬ r 157 98 &&& 16 = 0) = 0
    · rw [if_pos z, b2_some] at hq ⊢
      rw [d4]
      exact hq
    · rw [if_neg z, b2_some] at hq ⊢
      rw [d4]
      exact hq
  by_cases z : x = 114
  · subst z
    iterate 14 refine q_nl (by decide) ?_
    refine q_pl (by decide) ?_
    iterate 17 refine q_nr (by decide) ?_
    refine q_pr (by decide) (G ?_)
    by_cases z2 : Int32.ofNat S = 0
    · rw [if_pos z2, if_pos z2, a1, a3]
      exact d_marg hd hR (by omega) hP' (by omega) (by omega)
    · rw [if_neg z2, if_neg z2]
      have : S ≠ 0 := fun e => z2 (by rw [e]; rfl)
      exact d_marg hd hR (by omega) hP' (by omega) (by omega)
  iterate 15 refine q_nl (by assumption) ?_
  unfold f236_setOrAnswer
  simp only [b1_id]
  by_cases z : x = 99
  · subst z
    refine q_pl rfl ?_
    iterate 10 refine q_nr (by decide) ?_
    refine q_pr (by decide) ?_
    by_cases z2 : Int32.ofNat P = 0
    · exact q_pl z2 (q_pr z2 (d_what hd hT))
    · exact q_nl z2 (q_nr z2 (q_ok1 hT))
  by_cases z : x = 103
  · subst z
    iterate 1 refine q_nl (by decide) ?_
    refine q_pl (by decide) ?_
    iterate 12 refine q_nr (by decide) ?_
    refine q_pr (by decide) ?_
    by_cases z2 : Int32.ofNat P = 0
    · refine q_pl z2 (q_pr z2 (G ?_))
      rw [d3, d4]
      refine q_hl (g_ix (by omega) (by omega)) (q_hr (g_ix (by omega) (by omega)) ?_)
      exact q_ok1 (RG_s1 hR)
    · refine q_nl z2 (q_nr z2 ?_)
      by_cases z3 : Int32.ofNat P = 3
      · exact q_pl z3 (q_pr z3 (G (d_clst hd hR)))
      · exact q_nl z3 (q_nr z3 (q_ok1 hT))
  by_cases z : x = 104
  · subst z
    iterate 2 refine q_nl (by decide) ?_
    refine q_pl (by decide) ?_
    iterate 13 refine q_nr (by decide) ?_
    exact q_pr (by decide) (G (d_modes (Or.inl ⟨rfl, rfl⟩) hd hM hR))
  by_cases z : x = 108
  · subst z
    iterate 3 refine q_nl (by decide) ?_
    refine q_pl (by decide) ?_
    iterate 13 refine q_nr (by decide) ?_
    exact q_pr (by decide) (G (d_modes (Or.inr ⟨rfl, rfl⟩) hd hM hR))
  by_cases z : x = 109
  · subst z
    iterate 4 refine q_nl (by decide) ?_
    refine q_pl (by decide) ?_
    iterate 14 refine q_nr (by decide) ?_
    exact q_pr (by decide) (G (d_dress hd hM hR))
  by_cases z : x = 110
  · subst z
    iterate 5 refine q_nl (by decide) ?_
    refine q_pl (by decide) ?_
    iterate 15 refine q_nr (by decide) ?_
    refine q_pr (by decide) ?_
    by_cases z2 : Int32.ofNat P = 5
    · rw [if_pos z2, z2]
      exact d_well hd hT
    · refine q_nl z2 ?_
      by_cases z3 : Int32.ofNat P = 6
      · rw [if_pos z3, z3]
        exact d_where hd hT
      · unfold f408_reports
        exact q_nl z3 (q_nr z2 (q_nr z3 (q_ok1 hT)))
  by_cases z : x = 113
  · subst z
    iterate 6 refine q_nl (by decide) ?_
    refine q_pl (by decide) ?_
    iterate 16 refine q_nr (by decide) ?_
    exact q_pr (by decide) (G (d_light hd hM hR))
  iterate 7 refine q_nl (by assumption) ?_
  iterate 18 refine q_nr (by grind) ?_
  exact q_ok1 hT
theorem d_done (hd : Dim N h b) (hT : RT h b c0 r0 c r) (hM : Nm m c r) : Q2 (f226_moveOrErase N h b x c) (f401_done N h b x r) (fun p q => RT h b c0 r0 p q) := by
  obtain ⟨n1, n2, n3, n4, n5⟩ := id hM
  unfold f226_moveOrErase f401_done
  rw [n1, n2]
  obtain ⟨e0, f0, g0⟩ := n5 0 (by omega)
  obtain ⟨P, hP, eP, _⟩ := i_nat f0
  have hP2 : P ≤ 9999 := by
    rw [eP, show (9999 : Int32) = Int32.ofNat 9999 from rfl, i_le hP (by decide)] at g0
    exact g0
  rw [← e0, eP]
  by_cases z : Int32.ofNat m ≤ 1
  · exact q_pl z (q_pr z (d_done1 (S := 0) hd hT hM hP2 (by decide)))
  · refine q_nl z (q_nr z ?_)
    rw [show (1 : Int32) = Int32.ofNat 1 from rfl, i_le (by omega) (by decide)] at z
    obtain ⟨e1, f1, g1⟩ := n5 1 (by omega)
    obtain ⟨S, hS, eS, _⟩ := i_nat f1
    have hS2 : S ≤ 9999 := by
      rw [eS, show (9999 : Int32) = Int32.ofNat 9999 from rfl, i_le hS (by decide)] at g1
      exact g1
    rw [← e1, eS]
    exact d_done1 hd hT hM hP2 hS2
end T
