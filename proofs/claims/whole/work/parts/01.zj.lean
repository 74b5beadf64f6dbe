/-! Keys, spoiling; what is told of the terminal. -/
section T
variable {N h b : Nat} {c0 r0 c r c' r' : xA} {x y z s v w t u : Int32} {j : Nat}
theorem LI_0 (H : LI h b t u c0 r0 c r) : LI h b t u c (xU r 157 0 0) c (xU r 157 0 0) := by
  obtain ⟨a1, a2, a3, a4, a5, a6, a7⟩ := H
  have f2 : ∀ p, p ≠ 157 → xU r 157 0 0 p = r p := fun p hp => xU_o hp
  have f3 : ∀ i, i ≠ 0 → xU r 157 0 0 157 i = r 157 i := fun i hi => xU_s hi
  exact ⟨RD_o a1 (fun _ _ _ => rfl) (fun p h1 h2 => f2 p (by omega)) (fun i h1 h2 => f3 i (by omega)), RT_o a2 (fun _ _ _ => rfl) (fun p h1 h2 _ => f2 p (by omega)) (fun i hi => f3 i (by unfold tI at hi; omega)), KB_of a3 rfl rfl rfl (f2 _ (by decide)) (f2 _ (by decide)) (f3 _ (by decide)) (f3 _ (by decide)), W1_of a4 rfl (f3 _ (by decide)) (f3 _ (by decide)) (f3 _ (by decide)), W1_of a5 rfl (f3 _ (by decide)) (f3 _ (by decide)) (f3 _ (by decide)), TM_of a6 rfl rfl (f3 _ (by decide)) (f3 _ (by decide)), fun _ _ _ => rfl, fun _ _ => rfl, fun _ _ _ => rfl, fun _ _ => rfl⟩
theorem nb01 (hy : y = 0 ∨ y = 1) : vp_nar .boolean y = y := by
  rcases hy with e | e <;> subst e <;> rfl
/-- one key goes up or down -/
theorem SC_key {c1 : xA} (H : SC h b c0 r0 c r) (hj : j < 127) (hk : ¬ (29 ≤ j ∧ j ≤ 31)) (hy : y = 0 ∨ y = 1) (h1 : ∀ p, p ≠ 123 → c1 p = c p) (h2 : ∀ i, i ≠ 2 → c1 123 i = c 123 i) (h3 : c1 123 2 = Int32.ofNat (kn (xU c 124 j y) 127)) : SC h b c0 r0 (xU c1 124 j y) (xU r 194 j y) := by
  obtain ⟨k1, k2, ⟨k3, k4, k5⟩, k6⟩ := id H.2.1
  have o2 : ∀ p, p ≠ 124 → p ≠ 123 → xU c1 124 j y p = c p := fun p hp hp2 => by rw [xU_o hp, h1 p hp2]
  refine SC_k H (fun p hp => by rw [xU_o (by omega), h1 p (by omega)]) (fun p hp hp2 => by rw [xU_o (by omega)]) (fun i hi hi2 => by rw [xU_o (by decide)]) ⟨?_, ?_, ⟨?_, ?_, ?_⟩, ?_⟩
  · intro i hi
    obtain ⟨t1, t2, t3, t4⟩ := k1 i hi
    rw [o2 125 (by decide) (by decide), xU_o (show (195 : Nat) ≠ 194 by decide)]
    by_cases e : i = j
    · subst e
      rw [xU_e, xU_e]
      exact ⟨rfl, hy, t3, t4⟩
    · rw [xU_s e, xU_s e, h1 124 (by decide)]
      exact ⟨t1, t2, t3, t4⟩
  · intro i hi hi2
    rw [o2 125 (by decide) (by decide), xU_s (by omega), h1 124 (by decide)]
    exact k2 i hi hi2
  · rw [xU_o (by decide), xU_o (by decide), h2 3 (by decide)]; exact k3
  · rw [xU_o (by decide), xU_o (by decide), h2 4 (by decide)]; exact k4
  · rw [xU_o (by decide), h2 3 (by decide), o2 125 (by decide) (by decide)]; exact k5
  · rw [xU_o (by decide), h3]
    have ke := kn_s (c := xU c 124 j y) (c' := xU c1 124 j y) (j := 200) (fun i _ => dn_eq (by rw [xU_eq, xU_eq, h1 124 (by decide)]) (by rw [xU_o (by decide), xU_o (by decide), h1 125 (by decide)])) 127
    rw [if_neg (by decide), if_neg (by decide)] at ke
    have ke2 : kn (xU c1 124 j y) 127 = kn (xU c 124 j y) 127 := by omega
    rw [ke2]
theorem t_key (H : LI h b t u c0 r0 c r) (hy : y = 0 ∨ y = 1) : Q2 (f173_key N h b x y c) (f411_key N h b x y r) (fun p q => p.1 = q.1 ∧ LI h b t u c (xU r 157 0 0) p.2 q.2 ∧ q.2 157 71 = r 157 71) := by
  have H0 := LI_0 H
  have e71 : xU r 157 0 0 157 71 = r 157 71 := xU_s (by decide)
  unfold f173_key f174_press f411_key
  refine q_wr.mpr (q_r2 e_isk ?_)
  have no : (¬ (0 ≤ x ∧ x ≤ 28 ∨ 32 ≤ x ∧ x ≤ 126)) → Q2 (some ((0 : Int32), c)) (if zb (0 ≤ x ∧ x ≤ 28 ∨ 32 ≤ x ∧ x ≤ 126) = 0 then (some ((0 : Int32), xU r 157 0 0)) else (xg (¬ (x < 0 ∨ 127 ≤ x.toNatClampNeg)) (xw (xU (xU r 157 0 0) 194 (x.toNatClampNeg) (vp_nar .boolean y)) (fun a10 => some (1, a10))))) (fun p q => p.1 = q.1 ∧ LI h b t u c (xU r 157 0 0) p.2 q.2 ∧ q.2 157 71 = r 157 71) := fun z => q_pr (zb_f z) ⟨_, _, rfl, rfl, rfl, H0, e71⟩
  by_cases z : 0 ≤ x ∧ x ≤ 28 ∨ 32 ≤ x ∧ x ≤ 126
  · have x0 : 0 ≤ x := by grind
    obtain ⟨j, hj, ej, fj⟩ := i_nat x0
    have hj2 : j < 127 ∧ ¬ (29 ≤ j ∧ j ≤ 31) := by
      rw [ej, show (0 : Int32) = Int32.ofNat 0 from rfl, show (126 : Int32) = Int32.ofNat 126 from rfl, show (28 : Int32) = Int32.ofNat 28 from rfl, show (32 : Int32) = Int32.ofNat 32 from rfl, i_le (by omega) (by omega), i_le (by omega) (by omega), i_le (by omega) (by omega), i_le (by omega) (by omega)] at z
      omega
    have gx : ¬ (x < 0 ∨ 127 ≤ x.toNatClampNeg) := by rw [ej]; exact g_ix hj2.1 (by omega)
    refine q_nr (by rw [zb_t z]; decide) (q_hr gx (q_wr.mpr ?_))
    have ec : ∀ {A : Option (Int32 × xA)}, (if x < 0 then (some ((0 : Int32), c)) else (if 127 ≤ x then (some (0, c)) else (if x ≤ 28 then A else (if 32 ≤ x then A else (some (0, c)))))) = A := by
      intro A
      rw [if_neg (by grind), if_neg (by grind)]
      by_cases q : x ≤ 28
      · rw [if_pos q]
      · rw [if_neg q, if_pos (by grind)]
    rw [ec]
    unfold j174_24 j174_61
    rw [xg_pos gx, nb01 hy, fj]
    obtain ⟨k1, k2, ⟨k3, k4, k5⟩, k6⟩ := id H0.2.2.1
    obtain ⟨t1, t2, t3, t4⟩ := k1 j hj2.1
    have knl := kn_le (c := c) 127
    have ke := kn_s (c := c) (c' := xU c 124 j y) (j := j) (fun i hi => dn_eq (xU_s hi) rfl) 127
    rw [if_pos hj2.1, if_pos hj2.1] at ke
    have dc : dn c j = if c 124 j = 0 ∧ c 125 j = 0 then 0 else 1 := rfl
    have dy : dn (xU c 124 j y) j = if y = 0 ∧ c 125 j = 0 then 0 else 1 := by
      unfold dn
      rw [xU_e, xU_o (by decide)]
    have fin : ∀ {c1 : xA}, (∀ p, p ≠ 123 → c1 p = c p) → (∀ i, i ≠ 2 → c1 123 i = c 123 i) → c1 123 2 = Int32.ofNat (kn (xU c 124 j y) 127) → Q2 (xb2 (some ((1 : Int32), xU c1 124 j y)) (fun r4 a5 => xg (r4 = 0 ∨ r4 = 1) (some (r4, a5)))) (some ((1 : Int32), xU (xU r 157 0 0) 194 j y)) (fun p q => p.1 = q.1 ∧ LI h b t u c (xU r 157 0 0) p.2 q.2 ∧ q.2 157 71 = r 157 71) := by
      intro c1 g1 g2 g3
      rw [b2_some, xg_pos (Or.inr rfl)]
      exact ⟨_, _, rfl, rfl, rfl, LI_K H0 (SC_key (LI_sc H0) hj2.1 hj2.2 hy g1 g2 g3), by dsimp only; rw [xU_o (by decide)]; exact e71⟩
    by_cases z1 : y = c 124 j
    · rw [if_pos z1, xg_pos (by rw [← fj]; exact gx)]
      refine fin (fun _ _ => rfl) (fun _ _ => rfl) ?_
      rw [dc, dy, z1] at ke
      have ke2 : kn (xU c 124 j (c 124 j)) 127 = kn c 127 := by omega
      rw [z1, ke2]
      exact k6
    · rw [if_neg z1]
      by_cases z2 : c 125 j = 0
      · rw [if_pos z2]
        show Q2 (xb2 (xg _ (xw (xU (xU c 123 2 _) 124 j y) _)) _) _ _
        rw [xg_pos (by rw [← fj]; exact gx)]
        refine fin (fun p hp => xU_o hp) (fun i hi => xU_s hi) ?_
        rw [xU_e, k6]
        rcases hy with e | e
        · subst e
          have c1 : ¬ c 124 j = 0 := fun q => z1 q.symm
          rw [dc, dy, if_neg (fun q => c1 q.1), if_pos ⟨rfl, z2⟩] at ke
          rw [if_pos rfl]
          have : kn (xU c 124 j 0) 127 = kn c 127 - 1 := by omega
          rw [this, Int32.ofNat_sub _ _ (by omega)]
          grind
        · subst e
          have c1 : c 124 j = 0 := t2.resolve_right (fun q => z1 q.symm)
          rw [dc, dy, if_pos ⟨c1, z2⟩, if_neg (fun q => absurd q.1 (by decide))] at ke
          rw [if_neg (by decide)]
          have : kn (xU c 124 j 1) 127 = kn c 127 + 1 := by omega
          rw [this, on_s]
      · rw [if_neg z2, xg_pos (by rw [← fj]; exact gx)]
        refine fin (fun _ _ => rfl) (fun _ _ => rfl) ?_
        rw [dc, dy, if_neg (fun q => z2 q.2), if_neg (fun q => z2 q.2)] at ke
        have ke2 : kn (xU c 124 j y) 127 = kn c 127 := by omega
        rw [ke2]
        exact k6
  · have ec : ∀ {A : Option (Int32 × xA)}, (if x < 0 then (some ((0 : Int32), c)) else (if 127 ≤ x then (some (0, c)) else (if x ≤ 28 then A else (if 32 ≤ x then A else (some (0, c)))))) = some (0, c) := by
      intro A
      by_cases q1 : x < 0
      · rw [if_pos q1]
      · by_cases q2 : 127 ≤ x
        · rw [if_neg q1, if_pos q2]
        · rw [if_neg q1, if_neg q2, if_neg (by grind), if_neg (by grind)]
    rw [ec, b2_some, xg_pos (Or.inl rfl)]
    exact no z
theorem t_spoil (H : LI h b t u c0 r0 c r) : Q2 (f175_spoil N h b x c) (f364_spoil N h b x r) (fun p q => p.1 = q.1 ∧ LI h b t u c (xU r 157 0 0) p.2 q.2 ∧ q.2 157 71 = r 157 71) := by
  have H0 := LI_0 H
  have e71 : xU r 157 0 0 157 71 = r 157 71 := xU_s (by decide)
  have es : ∀ {o : Nat}, xk o = 11 → f176_spoilByte N h b o c = some (zb (¬ c o 0 = -1), xU c o 2 (zb (¬ c o 0 = -1))) := by
    intro o hk
    unfold f176_spoilByte
    rw [xg_pos hk, zi01, zg]
    show xg _ (some ((xU c o 2 _) o 2, xU c o 2 _)) = _
    rw [xU_e, zg]
  unfold f175_spoil f364_spoil j364_27
  refine q_wr.mpr ?_
  have g01 : ∀ {p : Prop}, zb p = 0 ∨ zb p = 1 := zb_01
  by_cases z1 : x = 0
  · refine q_pl z1 (q_pr z1 (q_l2 (es rfl) (q_hl g01 ?_)))
    obtain ⟨w1, w2, w3⟩ := H0.2.2.2.1
    rcases w1 with ⟨a1, a2⟩ | ⟨a1, a2, a3, a4, a5⟩
    · refine q_pr a2 (q_nr (by rw [z1]; decide) ⟨_, _, rfl, rfl, zb_f (fun q => q a1), ?_, e71⟩)
      rw [zb_f (fun q => q a1)]
      dsimp only
      exact LI_w H0 (fun p h1 _ => xU_o h1) (fun _ _ => rfl) (fun _ _ => rfl) ⟨Or.inl ⟨by rw [xU_s (by decide)]; exact a1, a2⟩, by rw [xU_s (by decide)]; exact w2, Or.inl xU_e⟩ (W1_of H0.2.2.2.2.1 (xU_o (by decide)) rfl rfl rfl)
    · have n1 : ¬ xU r 157 0 0 157 74 = -1 := by
        rw [a3]
        split
        · exact a1
        · decide
      refine q_nr n1 ⟨_, _, rfl, rfl, zb_t a1, ?_, by dsimp only; rw [xU_s (by decide)]; exact e71⟩
      rw [zb_t a1]
      dsimp only
      refine LI_w H0 (fun p h1 _ => xU_o h1) (fun p h1 => xU_o h1) (fun i h1 => xU_s (by omega)) ⟨Or.inr ⟨by rw [xU_s (by decide)]; exact a1, by rw [xU_s (by decide)]; exact a2, ?_, ?_, ?_⟩, ?_, Or.inr xU_e⟩ (W1_of H0.2.2.2.2.1 (xU_o (by decide)) (xU_s (by decide)) (xU_s (by decide)) (xU_s (by decide)))
      · rw [xU_e, xU_e, if_neg (by decide)]
      · rw [xU_s (by decide), xU_s (by decide)]; exact a4
      · rw [xU_s (by decide)]; exact a5
      · rw [xU_s (by decide), xU_s (by decide)]; exact w2
  refine q_nl z1 (q_nr z1 ?_)
  by_cases z2 : x = 1
  · refine q_pl z2 (q_pr z2 (q_l2 (es rfl) (q_hl g01 ?_)))
    obtain ⟨w1, w2, w3⟩ := H0.2.2.2.2.1
    rcases w1 with ⟨a1, a2⟩ | ⟨a1, a2, a3, a4, a5⟩
    · refine q_pr a2 ⟨_, _, rfl, rfl, zb_f (fun q => q a1), ?_, e71⟩
      rw [zb_f (fun q => q a1)]
      dsimp only
      exact LI_w H0 (fun p _ h1 => xU_o h1) (fun _ _ => rfl) (fun _ _ => rfl) (W1_of H0.2.2.2.1 (xU_o (by decide)) rfl rfl rfl) ⟨Or.inl ⟨by rw [xU_s (by decide)]; exact a1, a2⟩, by rw [xU_s (by decide)]; exact w2, Or.inl xU_e⟩
    · have n1 : ¬ xU r 157 0 0 157 75 = -1 := by
        rw [a3]
        split
        · exact a1
        · decide
      refine q_nr n1 ⟨_, _, rfl, rfl, zb_t a1, ?_, by dsimp only; rw [xU_s (by decide)]; exact e71⟩
      rw [zb_t a1]
      dsimp only
      refine LI_w H0 (fun p _ h1 => xU_o h1) (fun p h1 => xU_o h1) (fun i h1 => xU_s (by omega)) (W1_of H0.2.2.2.1 (xU_o (by decide)) (xU_s (by decide)) (xU_s (by decide)) (xU_s (by decide))) ⟨Or.inr ⟨by rw [xU_s (by decide)]; exact a1, by rw [xU_s (by decide)]; exact a2, ?_, ?_, ?_⟩, ?_, Or.inr xU_e⟩
      · rw [xU_e, xU_e, if_neg (by decide)]
      · rw [xU_s (by decide), xU_s (by decide)]; exact a4
      · rw [xU_s (by decide)]; exact a5
      · rw [xU_s (by decide), xU_s (by decide)]; exact w2
  exact q_nl z2 (q_nr z2 ⟨_, _, rfl, rfl, rfl, H0, e71⟩)
end T
