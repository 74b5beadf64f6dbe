/-! Every call. -/
section T
variable {N h b : Nat} {c0 r0 c r c' r' : xA} {x y z u v x0 x1 x2 x3 x4 t : Int32} {p i f k m q a e K n w T L H' B Y X : Nat}
theorem AR_fr (H : AR N h b c r) (t : Rt c' r') (o : Ro c' r') (l : LC h b c' r') (mq : MQb r') (h3 : ∀ p, 3 ≤ p → p < 157 → ¬ (93 ≤ p ∧ p ≤ 96) → ¬ (116 ≤ p ∧ p ≤ 140) → c' p = c p) (h0 : c' 0 14 = c 0 14) (hr : ∀ p, 160 ≤ p → p < 184 → p ≠ 168 → p ≠ 169 → r' p = r p) (hr7 : ∀ i, i = 5 ∨ (13 ≤ i ∧ i < 55 ∧ i ≠ 23 ∧ i ≠ 25) → r' 157 i = r 157 i) : AR N h b c' r' := by
  obtain ⟨K, a1, a2, a3, a4, a5, a6, a7, a8⟩ := H
  exact ⟨K, t, o, RR_cg a3 (fun _ _ _ => by rw [h3 3 (by decide) (by decide) (by decide) (by decide)]) (fun p k1 k2 => h3 p (by omega) (by omega) (by omega) (by omega)) (by rw [h0]; exact a3.2.2.2.2.2.2.2) (hr7 5 (by decide)) (hr7 13 (by decide)) (hr7 14 (by decide)) (fun p k1 k2 => hr p (by omega) (by omega) (by omega) (by omega)), RP_cg a4 h0 (fun i _ _ => by rw [h3 97 (by decide) (by decide) (by decide) (by decide)]) (fun p k1 k2 => h3 p (by omega) (by omega) (by omega) (by omega)) (fun i k1 k2 k3 k4 => hr7 i (by omega)) (hr 170 (by decide) (by decide) (by decide) (by decide)) (hr 171 (by decide) (by decide) (by decide) (by decide)), TY_cg a5 h0 (fun e he _ p k1 k2 => h3 p (by omega) (by omega) (by omega) (by omega)) (h3 106 (by decide) (by decide) (by decide) (by decide)) (fun p k1 k2 => h3 p (by omega) (by omega) (by omega) (by omega)) (by rw [h3 97 (by decide) (by decide) (by decide) (by decide)]) (by rw [h3 97 (by decide) (by decide) (by decide) (by decide)]), RW_cg a6 (fun p k1 k2 => h3 p (by omega) (by omega) (by omega) (by omega)) (by rw [h3 98 (by decide) (by decide) (by decide) (by decide)]) (by rw [h3 98 (by decide) (by decide) (by decide) (by decide)]) h0 (fun p k1 k2 => hr p (by omega) (by omega) (by omega) (by omega)), l, mq⟩
theorem LC_D (H : LC h b c r) (hR : RD c r c' r') : LC h b c' r' := by
  have g := LI_D H hR
  obtain ⟨a1, a2, a3, a4, a5, a6, _⟩ := g
  have e : r' 157 71 = r 157 71 := hR.1.2.2 71 (by decide)
  unfold LC
  rw [e]
  exact ⟨a1, a2, a3, a4, a5, a6, LF_r⟩
theorem AR_D (H : AR N h b c r) (hR : RD c r c' r') : AR N h b c' r' ∧ (∀ i, 157 ≤ i → c' i = c i) ∧ (∀ i, i < 157 → r' i = r i) := by
  obtain ⟨f1, f2, f3⟩ := id hR.1
  obtain ⟨K, a1, a2, a3, a4, a5, a6, a7, a8⟩ := id H
  exact ⟨AR_fr H (Rt_cg a1 (by rw [f1 0 (by decide)]) (f1 1 (by decide)) (f3 2 (by decide)) (f2 158 (by decide) (by decide))) (Ro_of a2 (by rw [f1 0 (by decide)]) (f3 4 (by decide)) (f1 2 (by decide)) (f2 159 (by decide) (by decide))) (LC_D a7 hR) (fun i => by rw [f2 168 (by decide) (by decide)]; exact a8 i) (fun p k1 k2 k3 k4 => f1 p (by omega)) (by rw [f1 0 (by decide)]) (fun p k1 k2 k3 k4 => f2 p (by omega) (by omega)) (fun i hi => f3 i (by omega)), fun i hi => f1 i (by omega), fun i hi => f2 i (by omega) (by omega)⟩
theorem AR_L (H : AR N h b c r) (hL : LI h b t t c r c' r') (ht : t = r' 157 71) : AR N h b c' r' ∧ (∀ i, 157 ≤ i → c' i = c i) ∧ (∀ i, i < 157 → r' i = r i) := by
  obtain ⟨b1, b2, b3, b4, b5, b6, f1, f2, f3, f4⟩ := hL
  obtain ⟨K, a1, a2, a3, a4, a5, a6, a7, a8⟩ := id H
  have l : LC h b c' r' := by
    unfold LC
    rw [← ht]
    exact ⟨b1, b2, b3, b4, b5, b6, LF_r⟩
  exact ⟨AR_fr H (Rt_cg a1 (f2 1 (by decide)) (f1 1 (by decide) (by decide)) (f4 2 (by decide)) (f3 158 (by decide) (by decide))) (Ro_of a2 (f2 3 (by decide)) (f4 4 (by decide)) (f1 2 (by decide) (by decide)) (f3 159 (by decide) (by decide))) l (fun i => by rw [f3 168 (by decide) (by decide)]; exact a8 i) (fun p k1 k2 k3 k4 => f1 p (by omega) (by omega)) (f2 14 (by decide)) (fun p k1 k2 k3 k4 => f3 p (by omega) (by omega)) (fun i hi => f4 i (by omega)), fun i hi => f1 i (by omega) (by omega), fun i hi => f3 i (by omega) (by omega)⟩
theorem AR_T (H : AR N h b c r) (ht : Rt c' r') (hf : Tf c r c' r') : AR N h b c' r' ∧ (∀ i, 157 ≤ i → c' i = c i) ∧ (∀ i, i < 157 → r' i = r i) := by
  obtain ⟨f1, f2, f3, f4⟩ := hf
  obtain ⟨K, a1, a2, a3, a4, a5, a6, a7, a8⟩ := id H
  exact ⟨AR_fr H ht (Ro_of a2 (f2 3 (by decide)) (f4 4 (by decide) (by decide)) (f1 2 (by decide) (by decide)) (f3 159 (by decide) (by decide))) (LC_cg a7 (fun p k1 k2 => f1 p (by omega) (by omega)) (f2 13 (by decide)) (f2 15 (by decide)) (fun p k1 k2 => f3 p (by omega) (by omega)) (fun i k1 => f4 i (by omega) (by omega))) (fun i => by rw [f3 168 (by decide) (by decide)]; exact a8 i) (fun p k1 k2 k3 k4 => f1 p (by omega) (by omega)) (f2 14 (by decide)) (fun p k1 k2 k3 k4 => f3 p (by omega) (by omega)) (fun i hi => f4 i (by omega) (by omega)), fun i hi => f1 i (by omega) (by omega), fun i hi => f3 i (by omega) (by omega)⟩
theorem AR_A (H : AR N h b c r) (hf : AF c r c' r') (ht : Rt c' r') (ho : Ro c' r') (hq : MQb r') : AR N h b c' r' ∧ (∀ i, 157 ≤ i → c' i = c i) ∧ (∀ i, i < 157 → r' i = r i) := by
  obtain ⟨f1, f2, _, f3, f4⟩ := hf
  obtain ⟨K, a1, a2, a3, a4, a5, a6, a7, a8⟩ := id H
  exact ⟨AR_fr H ht ho (LC_cg a7 (fun p k1 k2 => f1 p (by omega) (by omega) (by omega)) (f2 13 (by decide) (by decide)) (f2 15 (by decide) (by decide)) (fun p k1 k2 => f3 p (by omega) (by omega) (by omega) (by omega)) (fun i k1 => f4 i (by omega) (by omega) (by omega) (by omega) (by omega))) hq (fun p k1 k2 k3 k4 => f1 p (by omega) (by omega) k3) (f2 14 (by decide) (by decide)) (fun p k1 k2 k3 k4 => f3 p (by omega) (by omega) k3 k4) (fun i hi => f4 i (by omega) (by omega) (by omega) (by omega) (by omega)), fun i hi => f1 i (by omega) (by omega) (by omega), fun i hi => f3 i (by omega) (by omega) (by omega) (by omega)⟩
theorem PO_3 {p q : Int32 × xA} {r1 : xA} (h1 : p.1 = q.1) (hr : ∀ i, i ≠ 157 → r1 i = r i) (hc : ∀ i, 157 ≤ i → c0 i = c i) (g : AR N h b p.2 q.2 ∧ (∀ i, 157 ≤ i → p.2 i = c0 i) ∧ (∀ i, i < 157 → q.2 i = r1 i)) : PO N h b c r p q := ⟨h1, g.1, fun i hi => by rw [g.2.1 i hi, hc i hi], fun i hi => by rw [g.2.2 i hi, hr i (by omega)]⟩
theorem g_feed (hN : 100000 ≤ N) (H : AR N h b c r) : Q2 (f19_feed N h b x0 x1 x2 x3 x4 c) (f261_feed N h b x0 x1 x2 x3 x4 r) (PO N h b c r) := by
  obtain ⟨K, a1, _⟩ := id H
  exact q_mono (t_feed hN a1) (fun p q g => PO_3 g.1 (fun _ _ => rfl) (fun _ _ => rfl) (AR_T H g.2.1 g.2.2))
theorem g_end (H : AR N h b c r) : Q2 (f21_end N h b x c) (f262_end N h b x r) (PO N h b c r) := by
  obtain ⟨K, a1, _⟩ := id H
  exact q_mono (t_end a1) (fun p q g => PO_3 g.1 (fun _ _ => rfl) (fun _ _ => rfl) (AR_T H g.2.1 g.2.2))
theorem g_ability (hN : 100000 ≤ N) (H : AR N h b c r) : Q2 (f93_ability N h b c) (f295_ability N h b r) (PO N h b c r) := by
  obtain ⟨K, a1, a2, a3, a4, a5, a6, a7, a8⟩ := id H
  exact q_mono (t_ability hN a1 a2 a3 a4) (fun p q g => PO_3 g.1 (fun _ _ => rfl) (fun _ _ => rfl) (AR_A H g.2.1 g.2.2.1 g.2.2.2.1 (g.2.2.2.2 a8)))
theorem g_expand (hN : 100000 ≤ N) (H : AR N h b c r) : Q2 (f94_expand N h b x0 x1 x2 x3 c) (f298_expand N h b x0 x1 x2 x3 r) (PO N h b c r) := by
  obtain ⟨K, a1, a2, a3, a4, a5, a6, a7, a8⟩ := id H
  exact q_mono (t_expand hN a1 a2 a3 a4 a8) (fun p q g => PO_3 g.1 (fun _ _ => rfl) (fun _ _ => rfl) (AR_A H g.2.1 g.2.2.1 g.2.2.2.1 g.2.2.2.2))
theorem g_fault (H : AR N h b c r) : Q2 (f70_fault N h b x c) (f292_fault N h b x r) (PO N h b c r) := by
  obtain ⟨K, a1, a2, a3, _⟩ := id H
  exact q_0 H (t_fault a3)
theorem g_describe (hN : 100000 ≤ N) (H : AR N h b c r) : Q2 (f22_describe N h b c) (f264_describe N h b r) (PO N h b c r) := by
  obtain ⟨K, a1, a2, a3, a4, a5, a6, a7, a8⟩ := id H
  refine q_mono (t_describe hN a1 a3) (fun p q g => ?_)
  obtain ⟨g1, k1, g2, g3, g4, f1, f2, f3, f4⟩ := g
  have hK := a3.1
  refine ⟨g1, ⟨k1, g4, Ro_of a2 (f2 3 (by decide)) (f4 4 (by decide) (by decide) (by decide) (by decide)) (f1 2 (by decide) (by decide) (by decide) (by omega)) (f3 159 (by decide) (by decide)), g3, RP_cg a4 (f2 14 (by decide)) (fun i _ _ => by rw [f1 97 (by decide) (by decide) (by decide) (by omega)]) (fun p k1 k2 => f1 p (by omega) (by omega) (by omega) (by omega)) (fun i k1 k2 k3 k4 => f4 i (by omega) (by omega) (by omega) (by omega)) (f3 170 (by decide) (by decide)) (f3 171 (by decide) (by decide)), TY_cg a5 (f2 14 (by decide)) (fun e he g0 p k1 k2 => ?_) (f1 106 (by decide) (by decide) (by decide) (by omega)) (fun p k1 k2 => f1 p (by omega) (by omega) (by omega) (by omega)) (by rw [f1 97 (by decide) (by decide) (by decide) (by omega)]) (by rw [f1 97 (by decide) (by decide) (by decide) (by omega)]), RW_cg a6 (fun p k1 k2 => f1 p (by omega) (by omega) (by omega) (by omega)) (by rw [f1 98 (by decide) (by decide) (by decide) (by omega)]) (by rw [f1 98 (by decide) (by decide) (by decide) (by omega)]) (f2 14 (by decide)) (fun p k1 k2 => f3 p (by omega) (by omega)), LC_cg a7 (fun p k1 k2 => f1 p (by omega) (by omega) (by omega) (by omega)) (f2 13 (by decide)) (f2 15 (by decide)) (fun p k1 k2 => f3 p (by omega) (by omega)) (fun i k1 => f4 i (by omega) (by omega) (by omega) (by omega)), fun i => by rw [f3 168 (by decide) (by decide)]; exact a8 i⟩, fun i hi => f1 i (by omega) (by omega) (by omega) (by omega), fun i hi => f3 i (by omega) (by omega)⟩
  have eK := a3.2.2.2.2.2.2.2 e he g0
  exact f1 p (by omega) (by omega) (by omega) (by omega)
theorem g_use (hN : 100000 ≤ N) (H : AR N h b c r) : Q2 (f71_use N h b c) (f293_use N h b r) (PO N h b c r) := by
  obtain ⟨K, a1, a2, a3, a4, a5, a6, a7, a8⟩ := id H
  refine q_mono (t_use hN a1 a3 a8) (fun p q g => ?_)
  obtain ⟨g1, g2, g3⟩ := g
  rcases g3 with ⟨k1, k2⟩ | ⟨e, eK, ⟨f1, f2, _, f3, f4⟩, hW, hP, h14, hT, h9⟩
  · refine ⟨g1, by rw [k1, k2]; exact AR_1 H, fun i hi => by rw [k1, xU_o (by omega)], fun i hi => by rw [k2, xU_o (by omega), xU_o (by omega)]⟩
  · have hK := a3.1
    have uq : ∀ e', e' < 12 → p.2 0 14 = Int32.ofNat (9 + 7 * e') → e' = e := fun e' he' q => by
      rw [h14, i_eq (by omega) (by omega)] at q
      omega
    refine ⟨g1, ⟨K, g2, Ro_of a2 (f2 3 (by decide) (by decide)) (f4 4 (by decide) (by decide) (by decide) (by decide) (by decide) (by decide)) (f1 2 (by decide) (by decide) (by decide) (by decide) (by decide)) (f3 159 (by decide) (by decide)), RR_cg a3 (fun i _ _ => by rw [f1 3 (by decide) (by decide) (by decide) (by decide) (by decide)]) (fun p k1 k2 => f1 p (by omega) (by omega) (by omega) (by omega) (by omega)) (fun e' he' q => by rw [uq e' he' q]; exact eK) (f4 5 (by decide) (by decide) (by decide) (by decide) (by decide) (by decide)) (f4 13 (by decide) (by decide) (by decide) (by decide) (by decide) (by decide)) (f4 14 (by decide) (by decide) (by decide) (by decide) (by decide) (by decide)) (fun p k1 k2 => f3 p (by omega) (by omega)), hP, fun e' he' q => by rw [uq e' he' q]; exact ⟨hT, h9⟩, hW, LC_cg a7 (fun p k1 k2 => f1 p (by omega) (by omega) (by omega) (by omega) (by omega)) (f2 13 (by decide) (by decide)) (f2 15 (by decide) (by decide)) (fun p k1 k2 => f3 p (by omega) (by omega)) (fun i k1 => f4 i (by omega) (by omega) (by omega) (by omega) (by omega) (by omega)), fun i => by rw [f3 168 (by decide) (by decide)]; exact a8 i⟩, fun i hi => f1 i (by omega) (by omega) (by omega) (by omega) (by omega), fun i hi => f3 i (by omega) (by omega)⟩
/-- empty: no answer -/
theorem g_empty (hN : 100000 ≤ N) (H : AR N h b c r) : ∃ c' r', f91_empty N h b c = some c' ∧ f294_empty N h b r = some r' ∧ AR N h b c' r' ∧ (∀ i, 157 ≤ i → c' i = c i) ∧ (∀ i, i < 157 → r' i = r i) := by
  obtain ⟨K, a1, a2, a3, a4, a5, a6, a7, a8⟩ := id H
  obtain ⟨c', r', k1, k2, k3, k4, k5, k6, f1, f2, f3, f4⟩ := t_empty (N := N) (h := h) (b := b) hN a3
  refine ⟨c', r', k1, k2, ⟨0, Rt_cg a1 (f2 1 (by decide)) (f1 1 (by decide) (by decide) (by decide)) (f4 2 (by decide) (by decide) (by decide) (by decide)) (f3 158 (by decide) (by decide)), Ro_of a2 (f2 3 (by decide)) (f4 4 (by decide) (by decide) (by decide) (by decide)) (f1 2 (by decide) (by decide) (by decide)) (f3 159 (by decide) (by decide)), k3, k5, fun e he q => ?_, k4, LC_cg a7 (fun p k1 k2 => f1 p (by omega) (by omega) (by omega)) (f2 13 (by decide)) (f2 15 (by decide)) (fun p k1 k2 => f3 p (by omega) (by omega)) (fun i k1 => f4 i (by omega) (by omega) (by omega) (by omega)), fun i => by rw [f3 168 (by decide) (by decide)]; exact a8 i⟩, fun i hi => f1 i (by omega) (by omega) (by omega), fun i hi => f3 i (by omega) (by omega)⟩
  rw [k6] at q
  exact absurd q.symm (ofn_ne (by omega))
theorem g_open (hN : 100000 ≤ N) (H : AR N h b c r) : Q2 (f95_open N h b x y z u c) (f306_open N h b x y z u r) (PO N h b c r) := by
  obtain ⟨K, a1, a2, a3, a4, a5, a6, a7, a8⟩ := id H
  refine q_mono (t_open hN a6 a4) (fun p q g => ?_)
  obtain ⟨g1, ⟨g2, g3⟩ | ⟨w, T, L, H', B, g2, g3, g4, g5⟩⟩ := g
  · exact PO_0 H g1 g2 g3
  · exact PO_3 g1 (fun i hi => xU_o hi) (fun _ _ => rfl) (AR_W (AR_0 H) ⟨g5, g3, g4⟩ g2)
theorem g_close (H : AR N h b c r) : Q2 (f97_close N h b x c) (f307_close N h b x r) (PO N h b c r) := by
  obtain ⟨K, a1, a2, a3, a4, a5, a6, a7, a8⟩ := AR_0 (v := 0) H
  have a6' : RW c r := by obtain ⟨_, _, _, _, _, _, g, _⟩ := id H; exact g
  refine q_mono (t_close a6') (fun p q g => ?_)
  obtain ⟨g1, ⟨g2, g3⟩ | ⟨w, hw, g2, g3⟩⟩ := g
  · exact PO_0 H g1 g2 g3
  have co : ∀ p', p' ≠ 141 + 2 * w → p.2 p' = c p' := fun p' hp => by rw [g2, xU_o hp]
  have ro : ∀ p', p' ≠ 172 → q.2 p' = (xU r 157 0 0) p' := fun p' hp => by rw [g3, xU_o hp]
  have c1 : p.2 (141 + 2 * w) 1 = 0 := by rw [g2, xU_e]
  have r1 : q.2 172 w = 0 := by rw [g3, xU_e]
  have c2 : ∀ i, i ≠ 1 → p.2 (141 + 2 * w) i = c (141 + 2 * w) i := fun i hi => by rw [g2, xU_s hi]
  have r2 : ∀ i, i ≠ w → q.2 172 i = (xU r 157 0 0) 172 i := fun i hi => by rw [g3, xU_s hi]
  refine PO_3 (r1 := xU r 157 0 0) g1 (fun i hi => xU_o hi) (fun _ _ => rfl) ⟨⟨K, Rt_cg a1 (by rw [co 0 (by omega)]) (co 1 (by omega)) (by rw [ro 157 (by decide)]) (ro 158 (by decide)), Ro_of a2 (by rw [co 0 (by omega)]) (by rw [ro 157 (by decide)]) (co 2 (by omega)) (ro 159 (by decide)), RR_cg a3 (fun i _ _ => by rw [co 3 (by omega)]) (fun p k1 k2 => co p (by omega)) (by rw [co 0 (by omega)]; exact a3.2.2.2.2.2.2.2) (by rw [ro 157 (by decide)]) (by rw [ro 157 (by decide)]) (by rw [ro 157 (by decide)]) (fun p k1 k2 => ro p (by omega)), RP_cg a4 (by rw [co 0 (by omega)]) (fun i _ _ => by rw [co 97 (by omega)]) (fun p k1 k2 => co p (by omega)) (fun i _ _ _ _ => by rw [ro 157 (by decide)]) (ro 170 (by decide)) (ro 171 (by decide)), TY_cg a5 (by rw [co 0 (by omega)]) (fun e he _ p k1 k2 => co p (by omega)) (co 106 (by omega)) (fun p k1 k2 => co p (by omega)) (by rw [co 97 (by omega)]) (by rw [co 97 (by omega)]), ?_, LC_cg a7 (fun p k1 k2 => co p (by omega)) (by rw [co 0 (by omega)]) (by rw [co 0 (by omega)]) (fun p k1 k2 => ro p (by omega)) (fun i _ => by rw [ro 157 (by decide)]), fun i => by rw [ro 168 (by decide)]; exact a8 i⟩, fun i hi => co i (by omega), fun i hi => ro i (by omega)⟩
  intro w' hw'
  by_cases e : w' = w
  · subst e
    exact Or.inl ⟨c1, r1⟩
  · have g := a6 w' hw'
    unfold Wd at g ⊢
    rw [co (141 + 2 * w') (by omega), co (141 + 2 * w' + 1) (by omega), co 98 (by omega), co 0 (by omega), r2 w' e, ro 173 (by decide), ro 174 (by decide), ro 175 (by decide), ro 176 (by decide), ro 177 (by decide), ro 178 (by decide), ro 179 (by decide), ro 180 (by decide), ro 181 (by decide)]
    exact g
theorem g_redraw (H : AR N h b c r) : Q2 (f157_redraw N h b c) (f327_redraw N h b r) (PO N h b c r) := by
  obtain ⟨K, a1, a2, a3, a4, a5, a6, a7, a8⟩ := AR_0 (v := 0) H
  have a4' : RP c r := by obtain ⟨_, _, _, _, g, _⟩ := id H; exact g
  refine q_mono (t_redraw a4') (fun p q g => ?_)
  obtain ⟨g1, ⟨g2, g3⟩ | ⟨g2, g3⟩⟩ := g
  · exact PO_0 H g1 g2 g3
  have co : ∀ p', p' ≠ 97 → p.2 p' = c p' := fun p' hp => by rw [g2, xU_o hp]
  have cs : ∀ i, i ≠ 13 → p.2 97 i = c 97 i := fun i hi => by rw [g2, xU_s hi]
  have c1 : p.2 97 13 = 1 := by rw [g2, xU_e]
  have ro : ∀ p', p' ≠ 157 → q.2 p' = (xU r 157 0 0) p' := fun p' hp => by rw [g3, xU_o hp]
  have rs : ∀ i, i ≠ 35 → q.2 157 i = (xU r 157 0 0) 157 i := fun i hi => by rw [g3, xU_s hi]
  have r1 : q.2 157 35 = 1 := by rw [g3, xU_e]
  refine PO_3 (r1 := xU r 157 0 0) g1 (fun i hi => xU_o hi) (fun _ _ => rfl) ⟨⟨K, Rt_cg a1 (by rw [co 0 (by decide)]) (co 1 (by decide)) (rs 2 (by decide)) (ro 158 (by decide)), Ro_of a2 (by rw [co 0 (by decide)]) (rs 4 (by decide)) (co 2 (by decide)) (ro 159 (by decide)), RR_cg a3 (fun i _ _ => by rw [co 3 (by decide)]) (fun p k1 k2 => co p (by omega)) (by rw [co 0 (by decide)]; exact a3.2.2.2.2.2.2.2) (rs 5 (by decide)) (rs 13 (by decide)) (rs 14 (by decide)) (fun p k1 k2 => ro p (by omega)), ?_, TY_cg a5 (by rw [co 0 (by decide)]) (fun e he _ p k1 k2 => co p (by omega)) (co 106 (by decide)) (fun p k1 k2 => co p (by omega)) (cs 10 (by decide)) (cs 11 (by decide)), RW_cg a6 (fun p k1 k2 => co p (by omega)) (by rw [co 98 (by decide)]) (by rw [co 98 (by decide)]) (by rw [co 0 (by decide)]) (fun p k1 k2 => ro p (by omega)), LC_cg a7 (fun p k1 k2 => co p (by omega)) (by rw [co 0 (by decide)]) (by rw [co 0 (by decide)]) (fun p k1 k2 => ro p (by omega)) (fun i _ => rs i (by omega)), fun i => by rw [ro 168 (by decide)]; exact a8 i⟩, fun i hi => co i (by omega), fun i hi => ro i (by omega)⟩
  rcases a4 with ⟨o1, o2, o3, o4, o5⟩ | ⟨e, Ln, Co, m1, m2, m3, m4, _⟩
  · exact Or.inl ⟨by rw [co 0 (by decide)]; exact o1, by rw [rs 21 (by decide)]; exact o2, by rw [rs 32 (by decide)]; exact o3, by rw [rs 33 (by decide)]; exact o4, by rw [rs 34 (by decide)]; exact o5⟩
  · refine Or.inr ⟨e, Ln, Co, Pz_of m1 (by rw [co 0 (by decide)]) (fun i k1 k2 => cs i (by omega)) (rs 21 (by decide)) (rs 26 (by decide)) (rs 27 (by decide)), ?_, ?_, by rw [cs 12 (by decide), rs 36 (by decide)]; exact m4, trivial⟩
    · unfold Pw at *
      rw [co 98 (by decide), co 99 (by decide), rs 30 (by decide), rs 31 (by decide), ro 170 (by decide)]
      exact m2
    · obtain ⟨n1, n2, n3, n4, n5, n6, n7, n8, n9⟩ := m3
      unfold Pk
      rw [co 100 (by decide), co 101 (by decide), c1, cs 14 (by decide), rs 32 (by decide), rs 33 (by decide), rs 34 (by decide), r1, ro 171 (by decide)]
      exact ⟨n1, n2, n3, n4, n5, rfl, Or.inr rfl, n8, n9⟩
theorem g_show (hN : 100000 ≤ N) (H : AR N h b c r) : Q2 (f123_show N h b x c) (f326_show N h b x r) (PO N h b c r) := by
  obtain ⟨K, a1, a2, a3, a4, a5, a6, a7, a8⟩ := AR_0 (v := 0) H
  have a4' : RP c r := by obtain ⟨_, _, _, _, g, _⟩ := id H; exact g
  have a6' : RW c r := by obtain ⟨_, _, _, _, _, _, g, _⟩ := id H; exact g
  refine q_mono (t_show hN a6' a4') (fun p q g => ?_)
  obtain ⟨g1, ⟨g2, g3⟩ | ⟨c1, r1, Ln, Co, Y, X, ⟨s1, s2, s3⟩, hY, hX, k4, k5, l24, l80, g2, g3⟩⟩ := g
  · exact PO_0 H g1 g2 g3
  have co : ∀ p', p' ≠ 98 → p' ≠ 99 → p.2 p' = c p' := fun p' h1 h2 => by rw [g2, xU_o h1, xU_o h1, s1 p' h2]
  have cs : ∀ i, i ≠ 6 → i ≠ 7 → p.2 98 i = c 98 i := fun i h1 h2 => by rw [g2, xU_s h2, xU_s h1, s1 98 (by decide)]
  have c6 : p.2 98 6 = Int32.ofNat Y := by rw [g2, xU_s (by decide), xU_e]
  have c7 : p.2 98 7 = Int32.ofNat X := by rw [g2, xU_e]
  have c99 : p.2 99 = c1 99 := by rw [g2, xU_o (by decide), xU_o (by decide)]
  have ro : ∀ p', p' ≠ 157 → p' ≠ 170 → q.2 p' = (xU r 157 0 0) p' := fun p' h1 h2 => by rw [g3, xU_o h1, xU_o h1, s2 p' h2]
  have rs : ∀ i, i ≠ 30 → i ≠ 31 → q.2 157 i = (xU r 157 0 0) 157 i := fun i h1 h2 => by rw [g3, xU_s h2, xU_s h1, s2 157 (by decide)]
  have r30 : q.2 157 30 = Int32.ofNat Y := by rw [g3, xU_s (by decide), xU_e]
  have r31 : q.2 157 31 = Int32.ofNat X := by rw [g3, xU_e]
  have r170 : q.2 170 = r1 170 := by rw [g3, xU_o (by decide), xU_o (by decide)]
  refine PO_3 (r1 := xU r 157 0 0) g1 (fun i hi => xU_o hi) (fun _ _ => rfl) ⟨⟨K, Rt_cg a1 (by rw [co 0 (by decide) (by decide)]) (co 1 (by decide) (by decide)) (rs 2 (by decide) (by decide)) (ro 158 (by decide) (by decide)), Ro_of a2 (by rw [co 0 (by decide) (by decide)]) (rs 4 (by decide) (by decide)) (co 2 (by decide) (by decide)) (ro 159 (by decide) (by decide)), RR_cg a3 (fun i _ _ => by rw [co 3 (by decide) (by decide)]) (fun p k1 k2 => co p (by omega) (by omega)) (by rw [co 0 (by decide) (by decide)]; exact a3.2.2.2.2.2.2.2) (rs 5 (by decide) (by decide)) (rs 13 (by decide) (by decide)) (rs 14 (by decide) (by decide)) (fun p k1 k2 => ro p (by omega) (by omega)), ?_, TY_cg a5 (by rw [co 0 (by decide) (by decide)]) (fun e he _ p k1 k2 => co p (by omega) (by omega)) (co 106 (by decide) (by decide)) (fun p k1 k2 => co p (by omega) (by omega)) (by rw [co 97 (by decide) (by decide)]) (by rw [co 97 (by decide) (by decide)]), RW_cg a6 (fun p k1 k2 => co p (by omega) (by omega)) (cs 4 (by decide) (by decide)) (cs 5 (by decide) (by decide)) (by rw [co 0 (by decide) (by decide)]) (fun p k1 k2 => ro p (by omega) (by omega)), LC_cg a7 (fun p k1 k2 => co p (by omega) (by omega)) (by rw [co 0 (by decide) (by decide)]) (by rw [co 0 (by decide) (by decide)]) (fun p k1 k2 => ro p (by omega) (by omega)) (fun i _ => rs i (by omega) (by omega)), fun i => by rw [ro 168 (by decide) (by decide)]; exact a8 i⟩, fun i hi => co i (by omega) (by omega), fun i hi => ro i (by omega) (by omega)⟩
  rcases a4 with ⟨o1, o2, o3, o4, o5⟩ | ⟨e, Ln', Co', m1, m2, m3, m4, _⟩
  · exact Or.inl ⟨by rw [co 0 (by decide) (by decide)]; exact o1, by rw [rs 21 (by decide) (by decide)]; exact o2, by rw [rs 32 (by decide) (by decide)]; exact o3, by rw [rs 33 (by decide) (by decide)]; exact o4, by rw [rs 34 (by decide) (by decide)]; exact o5⟩
  · have eL : Ln' = Ln := by
      have := m2.1
      rw [k4, i_eq (by omega) (by have := m1.2.2.1; omega)] at this
      exact this.symm
    have eC : Co' = Co := by
      have := m2.2.1
      rw [k5, i_eq (by omega) (by have := m1.2.2.2.2.1; omega)] at this
      exact this.symm
    subst eL
    subst eC
    refine Or.inr ⟨e, Ln', Co', Pz_of m1 (by rw [co 0 (by decide) (by decide)]) (fun i _ _ => by rw [co 97 (by decide) (by decide)]) (rs 21 (by decide) (by decide)) (rs 26 (by decide) (by decide)) (rs 27 (by decide) (by decide)), ⟨by rw [cs 4 (by decide) (by decide)]; exact k4, by rw [cs 5 (by decide) (by decide)]; exact k5, ⟨Y, X, hY, hX, c6, r30, c7, r31⟩, fun y x q1 q2 => by rw [c99, r170]; exact s3 y x q1 q2⟩, ?_, by rw [co 97 (by decide) (by decide), rs 36 (by decide) (by decide)]; exact m4, trivial⟩
    unfold Pk at *
    rw [co 100 (by decide) (by decide), co 101 (by decide) (by decide), co 97 (by decide) (by decide), rs 32 (by decide) (by decide), rs 33 (by decide) (by decide), rs 34 (by decide) (by decide), rs 35 (by decide) (by decide), ro 171 (by decide) (by decide)]
    exact m3
theorem g_update (hN : 100000 ≤ N) (H : AR N h b c r) : Q2 (f125_update N h b c) (f331_update N h b r) (PO N h b c r) := by
  obtain ⟨K, a1, a2, a3, a4, a5, a6, a7, a8⟩ := id H
  refine q_mono (t_update hN a3 a4 a5 a8 a7.1.2.2.1) (fun p q g => ?_)
  obtain ⟨g1, g2, g3, g4, f1, f2, _, f3, f4⟩ := g
  have co : ∀ p', ¬ (93 ≤ p' ∧ p' ≤ 97) → ¬ (100 ≤ p' ∧ p' ≤ 105) → ¬ (114 ≤ p' ∧ p' ≤ 118) → p.2 p' = c p' := fun p' h1 h2 h3 => f1 p' h1 h2 (by omega) (by omega) (by omega)
  have fs : ∀ i, i ≠ 0 → i ≠ 23 → i ≠ 25 → ¬ (32 ≤ i ∧ i ≤ 56) → q.2 157 i = r 157 i := fun i h1 h2 h3 h4 => f4 i h1 h2 h3 (by omega) (by omega) (by omega)
  exact ⟨g1, ⟨K, Rt_cg a1 (by rw [co 0 (by decide) (by decide) (by decide)]) (co 1 (by decide) (by decide) (by decide)) (fs 2 (by decide) (by decide) (by decide) (by decide)) (f3 158 (by decide) (by decide) (by decide) (by decide) (by decide)), Ro_of a2 (by rw [co 0 (by decide) (by decide) (by decide)]) (fs 4 (by decide) (by decide) (by decide) (by decide)) (co 2 (by decide) (by decide) (by decide)) (f3 159 (by decide) (by decide) (by decide) (by decide) (by decide)), RR_cg a3 (fun i _ _ => by rw [co 3 (by decide) (by decide) (by decide)]) (fun p k1 k2 => co p (by omega) (by omega) (by omega)) (by rw [co 0 (by decide) (by decide) (by decide)]; exact a3.2.2.2.2.2.2.2) (fs 5 (by decide) (by decide) (by decide) (by decide)) (fs 13 (by decide) (by decide) (by decide) (by decide)) (fs 14 (by decide) (by decide) (by decide) (by decide)) (fun p k1 k2 => f3 p (by omega) (by omega) (by omega) (by omega) (by omega)), g2, TY_cg a5 (by rw [co 0 (by decide) (by decide) (by decide)]) (fun e he _ p k1 k2 => co p (by omega) (by omega) (by omega)) (co 106 (by decide) (by decide) (by decide)) (fun p k1 k2 => co p (by omega) (by omega) (by omega)) (f2 10 (by decide) (by decide) (by decide) (by decide) (by decide)) (f2 11 (by decide) (by decide) (by decide) (by decide) (by decide)), RW_cg a6 (fun p k1 k2 => co p (by omega) (by omega) (by omega)) (by rw [co 98 (by decide) (by decide) (by decide)]) (by rw [co 98 (by decide) (by decide) (by decide)]) (by rw [co 0 (by decide) (by decide) (by decide)]) (fun p k1 k2 => f3 p (by omega) (by omega) (by omega) (by omega) (by omega)), LC_q a7 g4 (fun p k1 k2 k3 k4 => f1 p (by omega) (by omega) (by omega) (by omega) (by omega)) (by rw [co 0 (by decide) (by decide) (by decide)]) (by rw [co 0 (by decide) (by decide) (by decide)]) (fun p k1 k2 => f3 p (by omega) (by omega) (by omega) (by omega) (by omega)) (fun i k1 k2 => f4 i (by omega) (by omega) (by omega) (by omega) (by omega) k2), g3⟩, fun i hi => co i (by omega) (by omega) (by omega), fun i hi => f3 i (by omega) (by omega) (by omega) (by omega) (by omega)⟩
theorem g_flags (hN : 100000 ≤ N) (H : AR N h b c r) : Q2 (f160_flags N h b x c) (f353_flags N h b x r) (PO N h b c r) := by
  have H0 := AR_0 (v := 0) H
  have l : LC h b c (xU r 157 0 0) := by obtain ⟨_, _, _, _, _, _, _, g, _⟩ := id H0; exact g
  exact q_mono (t_flags hN l.1) (fun p q g => PO_3 g.1 (fun i hi => xU_o hi) (fun _ _ => rfl) (AR_D H0 g.2))
theorem g_write (hN : 100000 ≤ N) (H : AR N h b c r) : Q2 (f166_write N h b c) (f355_write N h b r) (PO N h b c r) := by
  have H1 := AR_1 H
  have l : LC h b (xU c 0 1 0) (xU (xU r 157 0 0) 157 2 0) := by obtain ⟨_, _, _, _, _, _, _, g, _⟩ := id H1; exact g
  have t0 : Rt c r := by obtain ⟨_, g, _⟩ := id H; exact g
  have d : RD c (xU (xU r 157 0 0) 157 2 0) c (xU (xU r 157 0 0) 157 2 0) := RD_o l.1 (fun p k1 k2 => (xU_o (by omega)).symm) (fun _ _ _ => rfl) (fun _ _ _ => rfl)
  exact q_mono (t_write hN t0 d) (fun p q g => PO_3 g.1 (fun i hi => by rw [xU_o hi, xU_o hi]) (fun i hi => xU_o (by omega)) (AR_D H1 g.2))
theorem g_read (hN : 100000 ≤ N) (H : AR N h b c r) : Q2 (f170_read N h b x c) (f359_read N h b x r) (PO N h b c r) := by
  have H0 := AR_0 (v := 0) H
  have l : LC h b c (xU r 157 0 0) := by obtain ⟨_, _, _, _, _, _, _, g, _⟩ := id H0; exact g
  have o0 : Ro c r := by obtain ⟨_, _, g, _⟩ := id H; exact g
  refine q_mono (t_read hN o0 l.1) (fun p q g => ?_)
  obtain ⟨g1, g2 | ⟨f, g, m, m1, m2, g2, g3⟩⟩ := g
  · exact PO_3 g1 (fun i hi => xU_o hi) (fun _ _ => rfl) (AR_D H0 g2)
  · have co : ∀ p', p' ≠ 0 → p' ≠ 2 → (xU (xW c 2 f) 0 3 m) p' = c p' := fun p' h1 h2 => by rw [xU_o h1, xW_o h2]
    have cs : ∀ i, i ≠ 3 → (xU (xW c 2 f) 0 3 m) 0 i = c 0 i := fun i hi => by rw [xU_s hi, xW_o (by decide)]
    have c3 : (xU (xW c 2 f) 0 3 m) 0 3 = m := xU_e
    have c2 : (xU (xW c 2 f) 0 3 m) 2 = f := by rw [xU_o (by decide), xW_e]
    have ro : ∀ p', p' ≠ 157 → p' ≠ 159 → (xU (xW (xU r 157 0 0) 159 g) 157 4 m) p' = (xU r 157 0 0) p' := fun p' h1 h2 => by rw [xU_o h1, xW_o h2]
    have rs : ∀ i, i ≠ 4 → (xU (xW (xU r 157 0 0) 159 g) 157 4 m) 157 i = (xU r 157 0 0) 157 i := fun i hi => by rw [xU_s hi, xW_o (by decide)]
    have r4 : (xU (xW (xU r 157 0 0) 159 g) 157 4 m) 157 4 = m := xU_e
    have r9 : (xU (xW (xU r 157 0 0) 159 g) 157 4 m) 159 = g := by rw [xU_o (by decide), xW_e]
    have ho : Ro (xU (xW c 2 f) 0 3 m) (xU (xW (xU r 157 0 0) 159 g) 157 4 m) := ⟨by rw [c3, r4], by rw [c3]; exact m1, by rw [c3]; exact m2, fun i => by rw [c2, r9]; exact g3 i⟩
    generalize xU (xW c 2 f) 0 3 m = C at *
    generalize xU (xW (xU r 157 0 0) 159 g) 157 4 m = R at *
    obtain ⟨K, a1, a2, a3, a4, a5, a6, a7, a8⟩ := id H0
    have HC : AR N h b C R := AR_fr H0 (Rt_cg a1 (cs 1 (by decide)) (co 1 (by decide) (by decide)) (rs 2 (by decide)) (ro 158 (by decide) (by decide))) ho (LC_cg a7 (fun p k1 k2 => co p (by omega) (by omega)) (cs 13 (by decide)) (cs 15 (by decide)) (fun p k1 k2 => ro p (by omega) (by omega)) (fun i k1 => rs i (by omega))) (fun i => by rw [ro 168 (by decide) (by decide)]; exact a8 i) (fun p k1 k2 k3 k4 => co p (by omega) (by omega)) (cs 14 (by decide)) (fun p k1 k2 k3 k4 => ro p (by omega) (by omega)) (fun i hi => rs i (by omega))
    obtain ⟨b1, b2, b3⟩ := AR_D HC g2
    exact ⟨g1, b1, fun i hi => by rw [b2 i hi, co i (by omega) (by omega)], fun i hi => by rw [b3 i hi, ro i (by omega) (by omega), xU_o (by omega)]⟩
theorem LC_0 (H : AR N h b c r) : LI h b (r 157 71) (r 157 71) c (xU r 157 0 0) c (xU r 157 0 0) := by
  have H0 := AR_0 (v := 0) H
  have l : LC h b c (xU r 157 0 0) := by obtain ⟨_, _, _, _, _, _, _, g, _⟩ := id H0; exact g
  unfold LC at l
  rw [xU_s (by decide)] at l
  exact l
theorem g_key (H : AR N h b c r) (hy : y = 0 ∨ y = 1) : Q2 (f173_key N h b x y c) (f411_key N h b x y r) (PO N h b c r) := by
  have l : LC h b c r := by obtain ⟨_, _, _, _, _, _, _, g, _⟩ := id H; exact g
  exact q_mono (t_key l hy) (fun p q g => PO_3 g.1 (fun i hi => xU_o hi) (fun _ _ => rfl) (AR_L (AR_0 H) g.2.1 g.2.2.symm))
theorem g_spoil (H : AR N h b c r) : Q2 (f175_spoil N h b x c) (f364_spoil N h b x r) (PO N h b c r) := by
  have l : LC h b c r := by obtain ⟨_, _, _, _, _, _, _, g, _⟩ := id H; exact g
  exact q_mono (t_spoil l) (fun p q g => PO_3 g.1 (fun i hi => xU_o hi) (fun _ _ => rfl) (AR_L (AR_0 H) g.2.1 g.2.2.symm))
theorem g_ticks (hd : Dim N h b) (H : AR N h b c r) : Q2 (f177_ticks N h b x c) (f365_ticks N h b x r) (PO N h b c r) := by
  have l : LC h b c r := by obtain ⟨_, _, _, _, _, _, _, g, _⟩ := id H; exact g
  exact q_mono (t_ticks hd l) (fun p q g => PO_3 g.1 (fun i hi => xU_o hi) (fun _ _ => rfl) (AR_L (AR_0 H) g.2 rfl))
theorem g_screen (hd : Dim N h b) (H : AR N h b c r) : Q2 (f248_screen N h b x y c) (f412_screen N h b x y r) (PO N h b c r) := by
  have l : LC h b c r := by obtain ⟨_, _, _, _, _, _, _, g, _⟩ := id H; exact g
  exact q_0 H (t_screen hd l.2.1)
theorem g_width (hd : Dim N h b) (H : AR N h b c r) : Q2 (f250_width N h b x c) (f413_width N h b x r) (PO N h b c r) := by
  have l : LC h b c r := by obtain ⟨_, _, _, _, _, _, _, g, _⟩ := id H; exact g
  exact q_0 H (t_width hd l.2.1)
theorem g_stop (hd : Dim N h b) (H : AR N h b c r) : Q2 (f257_stop N h b x y c) (f416_stop N h b x y r) (PO N h b c r) := by
  have l : LC h b c r := by obtain ⟨_, _, _, _, _, _, _, g, _⟩ := id H; exact g
  exact q_0 H (t_stop hd l.2.1)
theorem g_state (H : AR N h b c r) : Q2 (f251_state N h b x c) (f414_state N h b x r) (PO N h b c r) := by
  have l : LC h b c r := by obtain ⟨_, _, _, _, _, _, _, g, _⟩ := id H; exact g
  exact q_0 H (t_state l.2.1 l.2.2.1)
theorem g_count (hN : 100000 ≤ N) (H : AR N h b c r) : Q2 (f254_count N h b x c) (f415_count N h b x r) (PO N h b c r) := by
  obtain ⟨K, a1, a2, a3, a4, a5, a6, a7, a8⟩ := id H
  exact q_0 H (t_count hN a1 a3 a6 a4 a7.1 a7.2.2.2.1.2.1 a7.2.2.2.2.1.2.1 a7.2.2.2.2.2.1)
theorem g_known (H : AR N h b c r) : Q2 (f158_known N h b x y c) (f328_known N h b x y r) (PO N h b c r) := by
  have a4 : RP c r := by obtain ⟨_, _, _, _, g, _⟩ := id H; exact g
  exact q_0 H (c_known a4)
theorem g_wanted (H : AR N h b c r) : Q2 (f159_wanted N h b x y c) (f330_wanted N h b x y r) (PO N h b c r) := by
  have a4 : RP c r := by obtain ⟨_, _, _, _, g, _⟩ := id H; exact g
  exact q_0 H (t_wanted a4)
theorem g_where (H : AR N h b c r) : Q2 (f121_where N h b x y c) (f325_where N h b x y r) (PO N h b c r) := by
  have a6 : RW c r := by obtain ⟨_, _, _, _, _, _, g, _⟩ := id H; exact g
  exact q_0 H (t_where a6)
theorem g_look (H : AR N h b c r) : Q2 (f119_look N h b x y z c) (f324_look N h b x y z r) (PO N h b c r) := by
  have a6 : RW c r := by obtain ⟨_, _, _, _, _, _, g, _⟩ := id H; exact g
  exact q_0 H (t_look a6)
theorem g_at (H : AR N h b c r) : Q2 (f99_at N h b x y z c) (f309_at N h b x y z r) (PO N h b c r) := by
  have a6 : RW c r := by obtain ⟨_, _, _, _, _, _, g, _⟩ := id H; exact g
  exact q_W H (t_at a6 (AR_b H))
theorem g_dress (H : AR N h b c r) : Q2 (f101_dress N h b x y c) (f310_dress N h b x y r) (PO N h b c r) := by
  have a6 : RW c r := by obtain ⟨_, _, _, _, _, _, g, _⟩ := id H; exact g
  exact q_W H (t_dress a6 (AR_b H))
theorem g_scrolls (H : AR N h b c r) (hy : y = 0 ∨ y = 1) : Q2 (f102_scrolls N h b x y c) (f311_scrolls N h b x y r) (PO N h b c r) := by
  have a6 : RW c r := by obtain ⟨_, _, _, _, _, _, g, _⟩ := id H; exact g
  exact q_W H (t_scrolls a6 (AR_b H) hy)
theorem g_erase (hN : 100000 ≤ N) (H : AR N h b c r) : Q2 (f112_erase N h b x y c) (f318_erase N h b x y r) (PO N h b c r) := by
  have a6 : RW c r := by obtain ⟨_, _, _, _, _, _, g, _⟩ := id H; exact g
  exact q_W H (t_erase hN a6 (AR_b H))
theorem g_rows (hN : 100000 ≤ N) (H : AR N h b c r) : Q2 (f114_rows N h b x y c) (f319_rows N h b x y r) (PO N h b c r) := by
  have a6 : RW c r := by obtain ⟨_, _, _, _, _, _, g, _⟩ := id H; exact g
  exact q_W H (t_rows hN a6 (AR_b H))
theorem g_cells (hN : 100000 ≤ N) (H : AR N h b c r) : Q2 (f115_cells N h b x y c) (f321_cells N h b x y r) (PO N h b c r) := by
  have a6 : RW c r := by obtain ⟨_, _, _, _, _, _, g, _⟩ := id H; exact g
  exact q_W H (t_cells hN a6 (AR_b H))
theorem g_roll (hN : 100000 ≤ N) (H : AR N h b c r) : Q2 (f116_roll N h b x y c) (f322_roll N h b x y r) (PO N h b c r) := by
  have a6 : RW c r := by obtain ⟨_, _, _, _, _, _, g, _⟩ := id H; exact g
  exact q_W H (t_roll hN a6 (AR_b H))
theorem g_box (hN : 100000 ≤ N) (H : AR N h b c r) : Q2 (f117_box N h b x c) (f323_box N h b x r) (PO N h b c r) := by
  have a6 : RW c r := by obtain ⟨_, _, _, _, _, _, g, _⟩ := id H; exact g
  exact q_W H (t_box hN a6 (AR_b H))
theorem g_say (hN : 100000 ≤ N) (H : AR N h b c r) : Q2 (f103_say N h b x c) (f312_say N h b x r) (PO N h b c r) := by
  have a1 : Rt c r := by obtain ⟨_, g, _⟩ := id H; exact g
  have a6 : RW c r := by obtain ⟨_, _, _, _, _, _, g, _⟩ := id H; exact g
  refine q_mono (t_say hN a1 a6 (AR_b H)) (fun p q g => ?_)
  obtain ⟨g1, ⟨g2, g3⟩ | ⟨w, T, L, H', B, hB, hD⟩⟩ := g
  · exact ⟨g1, by rw [g2, g3]; exact AR_1 H, fun i hi => by rw [g2, xU_o (by omega)], fun i hi => by rw [g3, xU_o (by omega), xU_o (by omega)]⟩
  · obtain ⟨b1, b2, b3⟩ := hB
    have hB' : WB T L H' B (xU c 0 1 0) := ⟨by rw [xU_s (by decide)]; exact b1, by rw [xU_o (by decide)]; exact b2, by rw [xU_o (by decide)]; exact b3⟩
    exact PO_3 g1 (fun i hi => by rw [xU_o hi, xU_o hi]) (fun i hi => xU_o (by omega)) (AR_W (AR_1 H) hB' hD)
/-- octet -/
theorem g_octet (ha : AR N h b c c) (x0 : Int32) : ∃ (r q : Int32) (a1 a2 : xA), f263_octet N h b x0 c = some (r, a1) ∧ f260_thrown N h b a1 = some (q, a2) ∧ AR N h b a2 a2 ∧ ((x0 < 0 ∨ c 0 3 ≤ x0) → q = 1) ∧ (¬ (x0 < 0 ∨ c 0 3 ≤ x0) → q = 0 ∧ r = c 2 x0.toNatClampNeg ∧ x0.toNatClampNeg < 300) := by
  obtain ⟨o1, o2, o3, o4⟩ : Ro c c := by obtain ⟨_, _, g, _⟩ := id ha; exact g
  have hA : ∀ v, AR N h b (xU c 157 0 v) (xU c 157 0 v) := fun v => AR_cg (AR_0 (v := v) ha) (fun p hp => xU_o (by omega)) (fun _ _ => rfl)
  unfold f263_octet j263_13 j263_18 f260_thrown
  dsimp only [xw]
  by_cases z : x0 < 0
  · rw [if_pos z, xU_e, if_neg (show ¬ (1 : Int32) ≤ 0 by decide)]
    exact ⟨0, 1, _, _, rfl, by rw [xU_e], hA 1, fun _ => rfl, fun g => absurd (Or.inl z) g⟩
  · rw [if_neg z]
    by_cases z2 : x0 < c 157 4
    · have l3 : x0 < 300 := Int32.lt_of_lt_of_le (by rw [← o1] at z2; exact z2) o3
      have l4 := cl_ltn (n := 300) (Int32.not_lt.mp z) l3 rfl
      rw [if_pos z2, xU_e, if_pos (Int32.le_refl _), xg_pos (show ¬ (x0 < 0 ∨ 300 ≤ x0.toNatClampNeg) from fun g => g.elim z (fun g => absurd l4 (by omega)))]
      refine ⟨_, 0, _, _, rfl, by rw [xU_e], hA 0, fun g => ?_, fun g => ⟨rfl, ?_, l4⟩⟩
      · rcases g with g | g
        · exact absurd g z
        · rw [o1] at g
          exact absurd z2 (Int32.not_lt.mpr g)
      · rw [xU_o (by decide), (o4 _).2, sb (o4 _).1]
    · rw [if_neg z2, xU_e, if_neg (show ¬ (1 : Int32) ≤ 0 by decide)]
      refine ⟨0, 1, _, _, rfl, by rw [xU_e], hA 1, fun _ => rfl, fun g => ?_⟩
      refine absurd (Or.inr ?_) g
      rw [o1]
      exact Int32.not_lt.mp z2
theorem glue_e {F G : xA → Option xA} (H : ∀ c r, AR N h b c r → ∃ c' r', F c = some c' ∧ G r = some r' ∧ AR N h b c' r' ∧ (∀ i, 157 ≤ i → c' i = c i) ∧ (∀ i, i < 157 → r' i = r i)) : ∀ a : xA, AR N h b a a → ∃ a1 a2 : xA, F a = some a1 ∧ G a1 = some a2 ∧ AR N h b a2 a2 := by
  intro a ha
  obtain ⟨a1, _, k1, _, _, k4, _⟩ := H a a ha
  have hb1 : AR N h b a a1 := AR_cg ha (fun _ _ => rfl) k4
  obtain ⟨a1', a2, m1, m2, m4, m5, m6⟩ := H a a1 hb1
  rw [k1] at m1
  have e2 := Option.some.inj m1
  subst e2
  exact ⟨a1, a2, k1, m2, AR_cg m4 m6 (fun _ _ => rfl)⟩
end T
