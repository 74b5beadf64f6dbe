/-! Escapes. -/
section T
variable {N h b : Nat} {c0 r0 c r c' r' : xA} {x y s v : Int32} {Y X Tp Bt F E k : Nat}
/-- both read an escape from its beginning -/
theorem RT_e1 (hT : RT h b c0 r0 c r) : RT h b c0 r0 (xU (xU c 129 9 1) 129 10 v) (xU (xU r 157 101 1) 157 102 v) := by
  obtain ⟨t1, t2, t3, t4, t5, t6⟩ := hT
  refine ⟨Tff_u (Tff_u t1 (by decide) (Or.inr ⟨rfl, by unfold tI; omega⟩)) (by decide) (Or.inr ⟨rfl, by unfold tI; omega⟩), RG_t (RG_t t2 (by decide) (Or.inr ⟨rfl, by unfold gI; omega, by decide, by decide⟩)) (by decide) (Or.inr ⟨rfl, by unfold gI; omega, by decide, by decide⟩), Tq_of t3 rfl rfl rfl rfl, Ta_of t4 rfl rfl rfl rfl rfl, ?_, ?_⟩
  · unfold Ts at *
    simp [xU_eq]
    grind
  · unfold Tn
    simp [xU_eq]
/-- only what was kept changes, and nobody reads it -/
theorem RT_10 (hT : RT h b c0 r0 c r) (h9 : ¬ c 129 9 = 1) : RT h b c0 r0 (xU c 129 10 v) r := by
  obtain ⟨t1, t2, t3, t4, t5, t6⟩ := hT
  refine ⟨⟨fun p hp => by rw [xU_o (by omega)]; exact t1.1 p hp, t1.2⟩, RG_same t2 (fun p h1 h2 => xU_o (by omega)) (fun p _ _ => rfl) (fun i _ => rfl), Tq_of t3 rfl rfl rfl rfl, Ta_of t4 rfl rfl rfl rfl rfl, Ts_of t5 (fun i h1 h2 => xU_s (by omega)) (fun i _ => rfl) rfl, ?_⟩
  unfold Tn at *
  simp [xU_eq]
  exact ⟨fun q => absurd q h9, t6.2⟩
theorem RT_seq (hT : RT h b c0 r0 c r) : RT h b c0 r0 (xU (xU (xU (xU (xU c 129 9 3) 135 0 0) 129 12 1) 129 13 0) 129 14 1) (xU (xU (xU (xU (xU r 157 101 3) 157 115 0) 193 0 0) 157 116 0) 157 117 1) := by
  obtain ⟨t1, t2, t3, t4, t5, t6⟩ := hT
  refine ⟨⟨fun p hp => ?_, fun p h1 h2 => ?_, fun i hi => ?_⟩, RG_same t2 (fun p h1 h2 => ?_) (fun p h1 h2 => ?_) (fun i hi => ?_), Tq_of t3 rfl rfl rfl rfl, Ta_of t4 rfl rfl rfl rfl rfl, ?_, ?_⟩
  · rw [xU_o (by omega), xU_o (by omega), xU_o (by omega), xU_o (by omega), xU_o (by omega)]; exact t1.1 p hp
  · rw [xU_o (by omega), xU_o (by omega), xU_o (by omega), xU_o (by omega), xU_o (by omega)]; exact t1.2.1 p h1 h2
  · unfold tI at hi
    rw [xU_s (by omega), xU_s (by omega), xU_o (by decide), xU_s (by omega), xU_s (by omega)]; exact t1.2.2 i hi
  · rw [xU_o (by omega), xU_o (by omega), xU_o (by omega), xU_o (by omega), xU_o (by omega)]
  · rw [xU_o (by omega), xU_o (by omega), xU_o (by omega), xU_o (by omega), xU_o (by omega)]
  · unfold gI at hi
    rw [xU_s (by omega), xU_s (by omega), xU_o (by decide), xU_s (by omega), xU_s (by omega)]
  · unfold Ts at *
    simp [xU_eq]
    grind
  · unfold Tn
    simp [xU_eq]
    refine ⟨1, by decide, by decide, rfl, rfl, fun i hi => ?_⟩
    have hi0 : i = 0 := by omega
    subst hi0
    simp
theorem RT_set {k1 k2 : Int32} (hT : RT h b c0 r0 c r) (h1 : k1 = 0 ∨ k1 = 1) (h2 : k2 = 0 ∨ k2 = 1) : RT h b c0 r0 (xU c 136 12 (k1 + 2 * k2)) (xU (xU r 157 109 k1) 157 110 k2) := by
  refine RT_g hT ?_
  obtain ⟨hf, ⟨Y, X, Tp, Bt, hs⟩, ho, hv, hc⟩ := hT.2.1
  refine ⟨Gf_u (Gf_r hf (Or.inr ⟨rfl, by unfold gI; omega⟩)) (by decide) (Or.inr ⟨rfl, by unfold gI; omega⟩), ⟨Y, X, Tp, Bt, Gs_of hs (fun i hi => xU_s (by omega)) (fun i hi => by rw [xU_s (by omega), xU_s (by omega)]) rfl⟩, ?_, Gv_of hv rfl (fun i _ _ _ _ _ => by rw [xU_s (by omega), xU_s (by omega)]), Gc_of hc rfl rfl rfl rfl rfl rfl⟩
  unfold Go at *
  simp [xU_eq]
  grind
theorem xU_self {a : xA} {p i : Nat} : xU a p i (a p i) = a := by
  funext q j
  rw [xU_eq]
  by_cases z : q = p ∧ j = i
  · rw [if_pos z, z.1, z.2]
  · rw [if_neg z]
/-- a set is chosen -/
theorem d_set {w : Int32} (hT : RT h b c0 r0 c r) (hw : w = 1 ∧ r 157 102 = 40 ∨ w = 2 ∧ r 157 102 = 41) : Q2 (f222_chooseSet N h b w x c) (if x = 66 then (j393_96 N h b x r) else (if (if x = 48 then (1 : Int32) else (0 : Int32)) = 0 then (j393_130 N h b x (if x = 48 then (1 : Int32) else (0 : Int32)) r) else (if (r 157 102) = 40 then (xg ((if x = 48 then (1 : Int32) else (0 : Int32)) = 0 ∨ (if x = 48 then (1 : Int32) else (0 : Int32)) = 1) (xw (xU r 157 109 (if x = 48 then (1 : Int32) else (0 : Int32))) (fun a90 => j393_130 N h b x (if x = 48 then (1 : Int32) else (0 : Int32)) a90))) else (j393_130 N h b x (if x = 48 then (1 : Int32) else (0 : Int32)) r)))) (fun p q => RT h b c0 r0 p q) := by
  have ho := hT.2.1.2.2.1
  unfold Go at ho
  obtain ⟨_, _, _, _, o5, o6, o7, _⟩ := ho
  unfold f222_chooseSet j393_96 j393_101 j393_130 j393_158
  have A : RT h b c0 r0 (xU c 136 12 (0 + 2 * r 157 110)) (xU r 157 109 0) := by
    have := RT_set (k1 := 0) (k2 := r 157 110) hT (Or.inl rfl) o7
    rw [← show xU (xU r 157 109 0) 157 110 (xU r 157 109 0 157 110) = xU (xU r 157 109 0) 157 110 (r 157 110) from rfl, xU_self] at this
    exact this
  have A1 : RT h b c0 r0 (xU c 136 12 (1 + 2 * r 157 110)) (xU r 157 109 1) := by
    have := RT_set (k1 := 1) (k2 := r 157 110) hT (Or.inr rfl) o7
    rw [← show xU (xU r 157 109 1) 157 110 (xU r 157 109 1 157 110) = xU (xU r 157 109 1) 157 110 (r 157 110) from rfl, xU_self] at this
    exact this
  have B : ∀ w, w = 0 ∨ w = 1 → RT h b c0 r0 (xU c 136 12 (r 157 109 + 2 * w)) (xU r 157 110 w) := by
    intro w h
    have := RT_set (k1 := r 157 109) (k2 := w) hT o6 h
    rw [xU_self] at this
    exact this
  by_cases x1 : x = 66
  · subst x1
    refine q_pl rfl (q_pr rfl (q_nr (by decide) ?_))
    rcases hw with ⟨w1, w2⟩ | ⟨w1, w2⟩
    · subst w1
      refine q_pr w2 (q_hr (by decide) ?_)
      refine q_wr.mpr (q_nr (by decide) (q_nr ?_ (q_ok1 ?_)))
      · rw [show (xU r 157 109 (if (66 : Int32) = 48 then 1 else 0)) 157 102 = r 157 102 from rfl, w2]; decide
      · rw [show c 136 12 &&& ((1 : Int32) ^^^ -1) = 0 + 2 * r 157 110 by rw [o5]; rcases o6 with q | q <;> rcases o7 with q' | q' <;> rw [q, q'] <;> rfl]
        exact A
    · subst w1
      refine q_nr (by rw [w2]; decide) (q_nr (by decide) (q_pr w2 (q_hr (by decide) (q_ok1 ?_))))
      rw [show c 136 12 &&& ((2 : Int32) ^^^ -1) = r 157 109 + 2 * 0 by rw [o5]; rcases o6 with q | q <;> rcases o7 with q' | q' <;> rw [q, q'] <;> rfl]
      exact B 0 (Or.inl rfl)
  · refine q_nl x1 (q_nr x1 ?_)
    by_cases x2 : x = 48
    · subst x2
      refine q_pl rfl (q_nr (by decide) ?_)
      rcases hw with ⟨w1, w2⟩ | ⟨w1, w2⟩
      · subst w1
        refine q_pr w2 (q_hr (by decide) ?_)
        refine q_wr.mpr (q_nr (by decide) (q_nr ?_ (q_ok1 ?_)))
        · rw [show (xU r 157 109 (if (48 : Int32) = 48 then 1 else 0)) 157 102 = r 157 102 from rfl, w2]; decide
        · rw [show c 136 12 ||| (1 : Int32) = 1 + 2 * r 157 110 by rw [o5]; rcases o6 with q | q <;> rcases o7 with q' | q' <;> rw [q, q'] <;> rfl]
          exact A1
      · subst w1
        refine q_nr (by rw [w2]; decide) (q_nr (by decide) (q_pr w2 (q_hr (by decide) (q_ok1 ?_))))
        rw [show c 136 12 ||| (2 : Int32) = r 157 109 + 2 * 1 by rw [o5]; rcases o6 with q | q <;> rcases o7 with q' | q' <;> rw [q, q'] <;> rfl]
        exact B 1 (Or.inr rfl)
    · refine q_nl x2 (q_pr (by rw [if_neg x2]) (q_pr (by rw [if_neg x2]) (q_ok1 hT)))
theorem d_wrap {F : xA → Option xA} {G : xA → Option xA} {R : xA → xA → Prop} (hq : Q2 (F c) (G r) (fun p q => R p q)) : Q2 (xb1 (F c) (fun a => some a)) (xb1 (G r) (fun a => some a)) (fun p q => R p q) := q_b11 hq (fun _ _ h1 => q_ok1 h1)
end T
