/-! All of both states, and that every call keeps it. -/
def LC (h b : Nat) (c r : xA) : Prop := LI h b (r 157 71) (r 157 71) c r c r
def AR (N h b : Nat) (c r : xA) : Prop := ∃ K, Rt c r ∧ Ro c r ∧ RR K c r ∧ RP c r ∧ TY N h b c ∧ RW c r ∧ LC h b c r ∧ MQb r
def PO (N h b : Nat) (c r : xA) (p q : Int32 × xA) : Prop := p.1 = q.1 ∧ AR N h b p.2 q.2 ∧ (∀ i, 157 ≤ i → p.2 i = c i) ∧ (∀ i, i < 157 → q.2 i = r i)
section T
variable {N h b : Nat} {c0 r0 c r c' r' : xA} {x y z u v : Int32} {p i f k m q a e K n t w T L H' B Y X : Nat}
theorem Rt_cg (H : Rt c r) (h1 : c' 0 1 = c 0 1) (h2 : c' 1 = c 1) (h3 : r' 157 2 = r 157 2) (h4 : r' 158 = r 158) : Rt c' r' := by
  unfold Rt at *
  rw [h1, h2, h3, h4]
  exact H
theorem RR_cg (H : RR K c r) (h1 : ∀ i, 1 ≤ i → i ≤ 3 → c' 3 i = c 3 i) (h2 : ∀ p, 9 ≤ p → p ≤ 92 → c' p = c p) (h3 : ∀ e, e < 12 → c' 0 14 = Int32.ofNat (9 + 7 * e) → e < K) (h4 : r' 157 5 = r 157 5) (h5 : r' 157 13 = r 157 13) (h6 : r' 157 14 = r 157 14) (h7 : ∀ p, 160 ≤ p → p ≤ 167 → r' p = r p) : RR K c' r' := by
  obtain ⟨a1, a2, a3, a4, a5, a6, a7, a8⟩ := H
  refine ⟨a1, by rw [h1 1 (by decide) (by decide)]; exact a2, by rw [h4]; exact a3, fun e he => ?_, by rw [h1 2 (by decide) (by decide), h5]; exact a5, by rw [h1 3 (by decide) (by decide), h6]; exact a6, NA_of a7 (h7 165 (by decide) (by decide)) (h7 166 (by decide) (by decide)), h3⟩
  exact EE_of (a4 e he) (fun p k1 k2 => h2 p (by omega) (by omega)) (by rw [h7 160 (by decide) (by decide)]) (fun i _ _ => by rw [h7 161 (by decide) (by decide)]) (fun i _ _ => by rw [h7 162 (by decide) (by decide)]) (fun i _ _ => by rw [h7 163 (by decide) (by decide), h7 164 (by decide) (by decide), h7 166 (by decide) (by decide)]; exact ⟨rfl, rfl, rfl⟩) (fun i _ _ => by rw [h7 165 (by decide) (by decide)])
theorem RP_cg (H : RP c r) (h1 : c' 0 14 = c 0 14) (h2 : ∀ i, 6 ≤ i → i ≤ 14 → c' 97 i = c 97 i) (h3 : ∀ p, 98 ≤ p → p ≤ 101 → c' p = c p) (h4 : ∀ i, 21 ≤ i → i ≤ 36 → i ≠ 23 → i ≠ 25 → r' 157 i = r 157 i) (h5 : r' 170 = r 170) (h6 : r' 171 = r 171) : RP c' r' := by
  unfold RP Pz Pw Pk at *
  rw [h1, h2 6 (by decide) (by decide), h2 7 (by decide) (by decide), h2 8 (by decide) (by decide), h2 9 (by decide) (by decide), h2 12 (by decide) (by decide), h2 13 (by decide) (by decide), h2 14 (by decide) (by decide), h3 98 (by decide) (by decide), h3 99 (by decide) (by decide), h3 100 (by decide) (by decide), h3 101 (by decide) (by decide), h4 21 (by decide) (by decide) (by decide) (by decide), h4 26 (by decide) (by decide) (by decide) (by decide), h4 27 (by decide) (by decide) (by decide) (by decide), h4 30 (by decide) (by decide) (by decide) (by decide), h4 31 (by decide) (by decide) (by decide) (by decide), h4 32 (by decide) (by decide) (by decide) (by decide), h4 33 (by decide) (by decide) (by decide) (by decide), h4 34 (by decide) (by decide) (by decide) (by decide), h4 35 (by decide) (by decide) (by decide) (by decide), h4 36 (by decide) (by decide) (by decide) (by decide), h5, h6]
  exact H
theorem TY_cg (H : TY N h b c) (h1 : c' 0 14 = c 0 14) (h2 : ∀ e, e < 12 → c 0 14 = Int32.ofNat (9 + 7 * e) → ∀ p, 9 + 7 * e ≤ p → p ≤ 9 + 7 * e + 6 → c' p = c p) (h3 : c' 106 = c 106) (h4 : ∀ p, 108 ≤ p → p ≤ 113 → c' p = c p) (h5 : c' 97 10 = c 97 10) (h6 : c' 97 11 = c 97 11) : TY N h b c' := by
  intro e he g
  rw [h1] at g
  obtain ⟨a1, a2⟩ := H e he g
  exact ⟨TB_of a1 (h2 e he g) h3 h4 h5 h6, by rw [h2 e he g _ (by omega) (by omega)]; exact a2⟩
theorem RW_cg (H : RW c r) (h1 : ∀ p, 141 ≤ p → p ≤ 156 → c' p = c p) (h2 : c' 98 4 = c 98 4) (h3 : c' 98 5 = c 98 5) (h4 : c' 0 14 = c 0 14) (h5 : ∀ p, 172 ≤ p → p ≤ 181 → r' p = r p) : RW c' r' := by
  intro w hw
  have g := H w hw
  unfold Wd at g ⊢
  rw [h1 (141 + 2 * w) (by omega) (by omega), h1 (141 + 2 * w + 1) (by omega) (by omega), h2, h3, h4, h5 172 (by decide) (by decide), h5 173 (by decide) (by decide), h5 174 (by decide) (by decide), h5 175 (by decide) (by decide), h5 176 (by decide) (by decide), h5 177 (by decide) (by decide), h5 178 (by decide) (by decide), h5 179 (by decide) (by decide), h5 180 (by decide) (by decide), h5 181 (by decide) (by decide)]
  exact g
theorem LF_r : LF c r c r := ⟨fun _ _ _ => rfl, fun _ _ => rfl, fun _ _ _ => rfl, fun _ _ => rfl⟩
theorem LC_cg (H : LC h b c r) (h1 : ∀ p, 116 ≤ p → p ≤ 140 → c' p = c p) (h2 : c' 0 13 = c 0 13) (h3 : c' 0 15 = c 0 15) (h4 : ∀ p, 184 ≤ p → p ≤ 195 → r' p = r p) (h5 : ∀ i, 55 ≤ i → r' 157 i = r 157 i) : LC h b c' r' := by
  obtain ⟨a1, a2, a3, a4, a5, a6, _⟩ := H
  unfold LC LI
  rw [h5 71 (by decide)]
  exact ⟨RD_o a1 (fun p k1 k2 => h1 p (by omega) (by omega)) (fun p k1 k2 => h4 p (by omega) (by omega)) (fun i k1 k2 => h5 i (by omega)), RT_o a2 (fun p k1 k2 => h1 p (by omega) (by omega)) (fun p k1 k2 _ => h4 p (by omega) (by omega)) (fun i hi => h5 i (by unfold tI at hi; omega)), KB_of a3 (h1 _ (by decide) (by decide)) (h1 _ (by decide) (by decide)) (h1 _ (by decide) (by decide)) (h4 _ (by decide) (by decide)) (h4 _ (by decide) (by decide)) (h5 _ (by decide)) (h5 _ (by decide)), W1_of a4 (h1 _ (by decide) (by decide)) (h5 _ (by decide)) (h5 _ (by decide)) (h5 _ (by decide)), W1_of a5 (h1 _ (by decide) (by decide)) (h5 _ (by decide)) (h5 _ (by decide)) (h5 _ (by decide)), TM_of a6 h3 h2 (h5 _ (by decide)) (h5 _ (by decide)), LF_r⟩
theorem LC_q (H : LC h b c r) (h0 : Dq c' r') (h1 : ∀ p, 116 ≤ p → p ≤ 140 → p ≠ 117 → p ≠ 118 → c' p = c p) (h2 : c' 0 13 = c 0 13) (h3 : c' 0 15 = c 0 15) (h4 : ∀ p, 185 ≤ p → p ≤ 195 → r' p = r p) (h5 : ∀ i, 55 ≤ i → i ≠ 56 → r' 157 i = r 157 i) : LC h b c' r' := by
  obtain ⟨a1, a2, a3, a4, a5, a6, _⟩ := H
  obtain ⟨_, s1, _, e1, r1⟩ := a1
  unfold LC LI
  rw [h5 71 (by decide) (by decide)]
  exact ⟨⟨Df_rfl, Ds_of s1 (h1 _ (by decide) (by decide) (by decide) (by decide)) (fun i _ _ => h5 i (by omega) (by omega)), h0, De_of e1 (h1 _ (by decide) (by decide) (by decide) (by decide)) (h1 _ (by decide) (by decide) (by decide) (by decide)) (h5 _ (by decide) (by decide)) (h4 _ (by decide) (by decide)), Dr_of r1 (h1 _ (by decide) (by decide) (by decide) (by decide)) (h1 _ (by decide) (by decide) (by decide) (by decide)) (h5 _ (by decide) (by decide)) (h4 _ (by decide) (by decide))⟩, RT_o a2 (fun p k1 k2 => h1 p (by omega) (by omega) (by omega) (by omega)) (fun p k1 k2 _ => h4 p (by omega) (by omega)) (fun i hi => h5 i (by unfold tI at hi; omega) (by unfold tI at hi; omega)), KB_of a3 (h1 _ (by decide) (by decide) (by decide) (by decide)) (h1 _ (by decide) (by decide) (by decide) (by decide)) (h1 _ (by decide) (by decide) (by decide) (by decide)) (h4 _ (by decide) (by decide)) (h4 _ (by decide) (by decide)) (h5 _ (by decide) (by decide)) (h5 _ (by decide) (by decide)), W1_of a4 (h1 _ (by decide) (by decide) (by decide) (by decide)) (h5 _ (by decide) (by decide)) (h5 _ (by decide) (by decide)) (h5 _ (by decide) (by decide)), W1_of a5 (h1 _ (by decide) (by decide) (by decide) (by decide)) (h5 _ (by decide) (by decide)) (h5 _ (by decide) (by decide)) (h5 _ (by decide) (by decide)), TM_of a6 h3 h2 (h5 _ (by decide) (by decide)) (h5 _ (by decide) (by decide)), LF_r⟩
/-- one relation, whoever's other half it is -/
theorem AR_cg (H : AR N h b c r) (h1 : ∀ p, p < 157 → c' p = c p) (h2 : ∀ p, 157 ≤ p → r' p = r p) : AR N h b c' r' := by
  obtain ⟨K, a1, a2, a3, a4, a5, a6, a7, a8⟩ := H
  have e0 : c' 0 = c 0 := h1 0 (by decide)
  have e7 : r' 157 = r 157 := h2 157 (by decide)
  refine ⟨K, Rt_cg a1 (by rw [e0]) (h1 1 (by decide)) (by rw [e7]) (h2 158 (by decide)), Ro_of a2 (by rw [e0]) (by rw [e7]) (h1 2 (by decide)) (h2 159 (by decide)), RR_cg a3 (fun i _ _ => by rw [h1 3 (by decide)]) (fun p k1 k2 => h1 p (by omega)) (by rw [e0]; exact a3.2.2.2.2.2.2.2) (by rw [e7]) (by rw [e7]) (by rw [e7]) (fun p k1 k2 => h2 p (by omega)), RP_cg a4 (by rw [e0]) (fun i _ _ => by rw [h1 97 (by decide)]) (fun p k1 k2 => h1 p (by omega)) (fun i _ _ _ _ => by rw [e7]) (h2 170 (by decide)) (h2 171 (by decide)), TY_cg a5 (by rw [e0]) (fun e he _ p k1 k2 => h1 p (by omega)) (h1 106 (by decide)) (fun p k1 k2 => h1 p (by omega)) (by rw [h1 97 (by decide)]) (by rw [h1 97 (by decide)]), RW_cg a6 (fun p k1 k2 => h1 p (by omega)) (by rw [h1 98 (by decide)]) (by rw [h1 98 (by decide)]) (by rw [e0]) (fun p k1 k2 => h2 p (by omega)), LC_cg a7 (fun p k1 k2 => h1 p (by omega)) (by rw [e0]) (by rw [e0]) (fun p k1 k2 => h2 p (by omega)) (fun i _ => by rw [e7]), fun i => by rw [h2 168 (by decide)]; exact a8 i⟩
/-- from two states to one -/
theorem glue {F G : xA → Option (Int32 × xA)} (H : ∀ c r, AR N h b c r → Q2 (F c) (G r) (PO N h b c r)) : ∀ a : xA, AR N h b a a → ∃ (r : Int32) (a1 a2 : xA), F a = some (r, a1) ∧ G a1 = some (r, a2) ∧ AR N h b a2 a2 := by
  intro a ha
  obtain ⟨⟨v, a1⟩, _, k1, _, _, _, k4, _⟩ := H a a ha
  have hb1 : AR N h b a a1 := AR_cg ha (fun _ _ => rfl) k4
  obtain ⟨⟨v', a1'⟩, ⟨u, a2⟩, m1, m2, m3, m4, m5, m6⟩ := H a a1 hb1
  rw [k1] at m1
  obtain ⟨e1, e2⟩ := Prod.mk.inj (Option.some.inj m1)
  dsimp only at m3 m4 m6
  subst e1
  subst e2
  subst m3
  exact ⟨v, a1, a2, k1, m2, AR_cg m4 m6 (fun _ _ => rfl)⟩
/-- nothing but the reference's throwing -/
theorem AR_0 (H : AR N h b c r) : AR N h b c (xU r 157 0 v) := by
  obtain ⟨K, a1, a2, a3, a4, a5, a6, a7, a8⟩ := H
  have o : ∀ p, p ≠ 157 → (xU r 157 0 v) p = r p := fun p hp => xU_o hp
  have s : ∀ i, i ≠ 0 → (xU r 157 0 v) 157 i = r 157 i := fun i hi => xU_s hi
  exact ⟨K, Rt_cg a1 rfl rfl (s 2 (by decide)) (o 158 (by decide)), Ro_of a2 rfl (s 4 (by decide)) rfl (o 159 (by decide)), RR_cg a3 (fun _ _ _ => rfl) (fun _ _ _ => rfl) a3.2.2.2.2.2.2.2 (s 5 (by decide)) (s 13 (by decide)) (s 14 (by decide)) (fun p k1 k2 => o p (by omega)), RP_cg a4 rfl (fun _ _ _ => rfl) (fun _ _ _ => rfl) (fun i _ _ _ _ => s i (by omega)) (o 170 (by decide)) (o 171 (by decide)), a5, RW_cg a6 (fun _ _ _ => rfl) rfl rfl rfl (fun p k1 k2 => o p (by omega)), LC_cg a7 (fun _ _ _ => rfl) rfl rfl (fun p k1 k2 => o p (by omega)) (fun i k1 => s i (by omega)), fun i => by rw [o 168 (by decide)]; exact a8 i⟩
/-- the tape was read -/
theorem AR_1 (H : AR N h b c r) : AR N h b (xU c 0 1 0) (xU (xU r 157 0 0) 157 2 0) := by
  obtain ⟨K, a1, a2, a3, a4, a5, a6, a7, a8⟩ := AR_0 (v := 0) H
  generalize xU r 157 0 0 = R at *
  have o : ∀ p, p ≠ 157 → (xU R 157 2 0) p = R p := fun p hp => xU_o hp
  have s : ∀ i, i ≠ 2 → (xU R 157 2 0) 157 i = R 157 i := fun i hi => xU_s hi
  have co : ∀ p, p ≠ 0 → (xU c 0 1 0) p = c p := fun p hp => xU_o hp
  have cs : ∀ i, i ≠ 1 → (xU c 0 1 0) 0 i = c 0 i := fun i hi => xU_s hi
  exact ⟨K, Rt_0 a1 xU_e xU_e (co 1 (by decide)) (o 158 (by decide)), Ro_of a2 (cs 3 (by decide)) (s 4 (by decide)) (co 2 (by decide)) (o 159 (by decide)), RR_cg a3 (fun _ _ _ => by rw [co 3 (by decide)]) (fun p _ _ => co p (by omega)) (by rw [cs 14 (by decide)]; exact a3.2.2.2.2.2.2.2) (s 5 (by decide)) (s 13 (by decide)) (s 14 (by decide)) (fun p k1 k2 => o p (by omega)), RP_cg a4 (cs 14 (by decide)) (fun _ _ _ => by rw [co 97 (by decide)]) (fun p _ _ => co p (by omega)) (fun i _ _ _ _ => s i (by omega)) (o 170 (by decide)) (o 171 (by decide)), TY_cg a5 (cs 14 (by decide)) (fun e he _ p k1 k2 => co p (by omega)) (co 106 (by decide)) (fun p k1 k2 => co p (by omega)) (by rw [co 97 (by decide)]) (by rw [co 97 (by decide)]), RW_cg a6 (fun p _ _ => co p (by omega)) (by rw [co 98 (by decide)]) (by rw [co 98 (by decide)]) (cs 14 (by decide)) (fun p k1 k2 => o p (by omega)), LC_cg a7 (fun p _ _ => co p (by omega)) (cs 13 (by decide)) (cs 15 (by decide)) (fun p k1 k2 => o p (by omega)) (fun i k1 => s i (by omega)), fun i => by rw [o 168 (by decide)]; exact a8 i⟩
/-- a window is as it should be -/
theorem AR_W (H : AR N h b c r) (hB : WB T L H' B c) (hD : WD w T L H' B c r c' r') : AR N h b c' r' ∧ (∀ i, 157 ≤ i → c' i = c i) ∧ (∀ i, i < 157 → r' i = r i) := by
  obtain ⟨K, a1, a2, a3, a4, a5, a6, a7, a8⟩ := H
  obtain ⟨hw, ⟨f1, f2, f3, f4, f5, f6, f7⟩, Y, X, hd⟩ := hD
  obtain ⟨b1, b2, b3⟩ := hB
  have o : ∀ p, ¬ (141 ≤ p ∧ p ≤ 156) → p ≠ 97 → c' p = c p := fun p h1 h2 => f1 p (by omega) (by omega) h2
  refine ⟨⟨K, Rt_cg a1 (by rw [o 0 (by decide) (by decide)]) (o 1 (by decide) (by decide)) (f4 2 (by decide)) (f3 158 (by decide) (by decide)), Ro_of a2 (by rw [o 0 (by decide) (by decide)]) (f4 4 (by decide)) (o 2 (by decide) (by decide)) (f3 159 (by decide) (by decide)), RR_cg a3 (fun _ _ _ => by rw [o 3 (by decide) (by decide)]) (fun p _ _ => o p (by omega) (by omega)) (by rw [o 0 (by decide) (by decide)]; exact a3.2.2.2.2.2.2.2) (f4 5 (by decide)) (f4 13 (by decide)) (f4 14 (by decide)) (fun p k1 k2 => f3 p (by omega) (by omega)), ?_, TY_cg a5 (by rw [o 0 (by decide) (by decide)]) (fun e he _ p k1 k2 => o p (by omega) (by omega)) (o 106 (by decide) (by decide)) (fun p k1 k2 => o p (by omega) (by omega)) (f2 10 (by decide)) (f2 11 (by decide)), ?_, LC_cg a7 (fun p _ _ => o p (by omega) (by omega)) (by rw [o 0 (by decide) (by decide)]) (by rw [o 0 (by decide) (by decide)]) (fun p k1 k2 => f3 p (by omega) (by omega)) (fun i k1 => f4 i (by omega)), fun i => by rw [f3 168 (by decide) (by decide)]; exact a8 i⟩, fun i hi => o i (by omega) (by omega), fun i hi => f3 i (by omega) (by omega)⟩
  · rcases a4 with g | ⟨e, Ln, Co, g1, g2, g3, g4, _⟩
    · exact absurd g.1 b1
    · refine Or.inr ⟨e, Ln, Co, ?_, ?_, ?_, f7, trivial⟩
      · exact Pz_of g1 (by rw [o 0 (by decide) (by decide)]) (fun i k1 k2 => f2 i (by omega)) (f4 21 (by decide)) (f4 26 (by decide)) (f4 27 (by decide))
      · unfold Pw at *
        rw [o 98 (by decide) (by decide), o 99 (by decide) (by decide), f4 30 (by decide), f4 31 (by decide), f3 170 (by decide) (by decide)]
        exact g2
      · unfold Pk at *
        rw [o 100 (by decide) (by decide), o 101 (by decide) (by decide), f2 13 (by decide), f2 14 (by decide), f4 32 (by decide), f4 33 (by decide), f4 34 (by decide), f4 35 (by decide), f3 171 (by decide) (by decide)]
        exact g3
  · intro w' hw'
    by_cases e : w' = w
    · subst e
      rw [o 98 (by decide) (by decide), o 0 (by decide) (by decide)]
      exact Or.inr ⟨⟨T, L, H', B, Y, X, hd, b2, b3⟩, b1⟩
    · have g := a6 w' hw'
      have gr : ∀ p, 172 ≤ p → p ≤ 180 → r' p w' = r p w' := fun p k1 k2 => f5 p w' k1 k2 e
      have g81 : ∀ y x, y < 24 → x < 80 → r' 181 (1920 * w' + 80 * y + x) = r 181 (1920 * w' + 80 * y + x) := fun y x k1 k2 => f6 _ (by omega)
      rw [o 98 (by decide) (by decide), o 0 (by decide) (by decide)]
      rcases g with ⟨g1, g2⟩ | ⟨⟨T', L', H2, B', Y', X', ⟨gd1, gd2, gd3, gd4⟩, gb⟩, gt⟩
      · exact Or.inl ⟨by rw [f1 _ (by omega) (by omega) (by omega)]; exact g1, by rw [gr 172 (by decide) (by decide)]; exact g2⟩
      · refine Or.inr ⟨⟨T', L', H2, B', Y', X', ⟨?_, ?_, gd3, fun y x k1 k2 => ?_⟩, gb⟩, gt⟩
        · rw [f1 (141 + 2 * w') (by omega) (by omega) (by omega), gr 172 (by decide) (by decide), gr 173 (by decide) (by decide), gr 174 (by decide) (by decide), gr 175 (by decide) (by decide), gr 176 (by decide) (by decide), gr 177 (by decide) (by decide), gr 178 (by decide) (by decide)]
          exact gd1
        · rw [f1 (141 + 2 * w') (by omega) (by omega) (by omega), gr 179 (by decide) (by decide), gr 180 (by decide) (by decide)]
          exact gd2
        · rw [f1 (141 + 2 * w' + 1) (by omega) (by omega) (by omega), g81 y x (by omega) (by omega)]
          exact gd4 y x k1 k2
theorem PO_0 (H : AR N h b c r) {p q : Int32 × xA} (h1 : p.1 = q.1) (h2 : p.2 = c) (h3 : q.2 = xU r 157 0 0) : PO N h b c r p q := by
  refine ⟨h1, ?_, ?_, ?_⟩
  · rw [h2, h3]; exact AR_0 H
  · intro i _; rw [h2]
  · intro i hi; rw [h3, xU_o (by omega)]
theorem PO_Wp (H : AR N h b c r) {p q : Int32 × xA} (h1 : p.1 = q.1) (h2 : Wp c r p.2 q.2) : PO N h b c r p q := by
  rcases h2 with ⟨g1, g2⟩ | ⟨w, T, L, H', B, hB, hD⟩
  · exact PO_0 H h1 g1 g2
  · obtain ⟨k1, k2, k3⟩ := AR_W (AR_0 H) hB hD
    exact ⟨h1, k1, k2, fun i hi => by rw [k3 i hi, xU_o (by omega)]⟩
theorem q_0 {F G : Option (Int32 × xA)} (H : AR N h b c r) (hq : Q2 F G (Rd0 c r)) : Q2 F G (PO N h b c r) := q_mono hq (fun _ _ g => PO_0 H g.1 g.2.1 g.2.2)
theorem q_W {F G : Option (Int32 × xA)} (H : AR N h b c r) (hq : Q2 F G (fun p q => p.1 = q.1 ∧ Wp c r p.2 q.2)) : Q2 F G (PO N h b c r) := q_mono hq (fun _ _ g => PO_Wp H g.1 g.2)
theorem AR_b (H : AR N h b c r) (g : ¬ c 0 14 = -1) : c 97 12 = r 157 36 := by
  obtain ⟨K, a1, a2, a3, a4, _⟩ := H
  exact RP_bell a4 g
end T
