/-! The keyboard: keys, the scan. -/
def dn (c : xA) (i : Nat) : Nat := if c 124 i = 0 ∧ c 125 i = 0 then 0 else 1
def kn (c : xA) : Nat → Nat
  | 0 => 0
  | n + 1 => kn c n + dn c n
def Ka (c r : xA) : Prop := ∀ i, i < 127 → c 124 i = r 194 i ∧ (c 124 i = 0 ∨ c 124 i = 1) ∧ c 125 i = r 195 i ∧ (c 125 i = 0 ∨ c 125 i = 1)
def Kb (c : xA) : Prop := ∀ i, 29 ≤ i → i ≤ 31 → c 124 i = 0 ∧ c 125 i = 0
def Kc (c r : xA) : Prop := c 123 3 = r 157 120 ∧ c 123 4 = r 157 121 ∧ (c 123 3 = -1 ∨ ∃ k : Nat, k < 127 ∧ ¬ (29 ≤ k ∧ k ≤ 31) ∧ c 123 3 = Int32.ofNat k ∧ c 125 k = 1)
def KB (c r : xA) : Prop := Ka c r ∧ Kb c ∧ Kc c r ∧ c 123 2 = Int32.ofNat (kn c 127)
def KF (c0 r0 c r : xA) : Prop := (∀ p, ¬ (123 ≤ p ∧ p ≤ 126) → ¬ (129 ≤ p ∧ p ≤ 140) → c p = c0 p) ∧ (∀ p, p ≠ 157 → ¬ (187 ≤ p ∧ p ≤ 195) → r p = r0 p) ∧ (∀ i, ¬ tI i → i ≠ 120 → i ≠ 121 → r 157 i = r0 157 i)
def SC (h b : Nat) (c0 r0 c r : xA) : Prop := RT h b c r c r ∧ KB c r ∧ KF c0 r0 c r
section T
variable {N h b : Nat} {c0 r0 c r c' r' : xA} {x y z s v w : Int32} {j : Nat}
theorem kn_s (H : ∀ i, i ≠ j → dn c' i = dn c i) : ∀ n, kn c' n + (if j < n then dn c j else 0) = kn c n + (if j < n then dn c' j else 0)
  | 0 => rfl
  | n + 1 => by
    have k := kn_s H n
    show kn c' n + dn c' n + _ = kn c n + dn c n + _
    by_cases e : j = n
    · subst e
      rw [if_neg (by omega), if_neg (by omega)] at k
      rw [if_pos (by omega), if_pos (by omega)]
      omega
    · have := H n (fun q => e q.symm)
      by_cases l : j < n
      · rw [if_pos l, if_pos l] at k
        rw [if_pos (by omega), if_pos (by omega)]
        omega
      · rw [if_neg l, if_neg l] at k
        rw [if_neg (by omega), if_neg (by omega)]
        omega
theorem kn_le : ∀ n, kn c n ≤ n
  | 0 => Nat.le_refl _
  | n + 1 => by
    have := kn_le n
    have : dn c n ≤ 1 := by unfold dn; split <;> omega
    show kn c n + dn c n ≤ n + 1
    omega
theorem kn_0 : ∀ n, kn c n = 0 → ∀ i, i < n → dn c i = 0
  | 0, _, i, hi => absurd hi (by omega)
  | n + 1, e, i, hi => by
    have e' : kn c n + dn c n = 0 := e
    by_cases k : i = n
    · subst k; omega
    · exact kn_0 n (by omega) i (by omega)
theorem dn_eq (h1 : c' 124 j = c 124 j) (h2 : c' 125 j = c 125 j) : dn c' j = dn c j := by unfold dn; rw [h1, h2]
theorem KB_of (H : KB c r) (h1 : c' 123 = c 123) (h2 : c' 124 = c 124) (h3 : c' 125 = c 125) (h4 : r' 194 = r 194) (h5 : r' 195 = r 195) (h6 : r' 157 120 = r 157 120) (h7 : r' 157 121 = r 157 121) : KB c' r' := by
  obtain ⟨k1, k2, k3, k4⟩ := H
  have e : kn c' 127 = kn c 127 := by
    have := kn_s (c := c) (c' := c') (j := 200) (fun i _ => dn_eq (by rw [h2]) (by rw [h3])) 127
    rw [if_neg (by decide), if_neg (by decide)] at this
    omega
  unfold KB Ka Kb Kc
  rw [h1, h2, h3, h4, h5, h6, h7, e]
  exact ⟨k1, k2, k3, k4⟩
theorem KF_k (H : KF c0 r0 c r) (h1 : KS c r c' r') : KF c0 r0 c' r' := ⟨fun p h2 h3 => by rw [h1.1 p (by omega) h3]; exact H.1 p h2 h3, fun p h2 h3 => by rw [h1.2.1 p h2 (by omega)]; exact H.2.1 p h2 h3, fun i h2 h3 h4 => by rw [h1.2.2 i h2]; exact H.2.2 i h2 h3 h4⟩
theorem SC_str (H : SC h b c0 r0 c r) (h1 : RT h b c' r' c' r') (h2 : KS c r c' r') : SC h b c0 r0 c' r' := by
  refine ⟨h1, KB_of H.2.1 (h2.1 _ (by decide) (by decide)) (h2.1 _ (by decide) (by decide)) (h2.1 _ (by decide) (by decide)) (h2.2.1 _ (by decide) (by decide)) (h2.2.1 _ (by decide) (by decide)) (h2.2.2 _ (by unfold tI; omega)) (h2.2.2 _ (by unfold tI; omega)), KF_k H.2.2 h2⟩
/-- what only touches the keys -/
theorem SC_k (H : SC h b c0 r0 c r) (h1 : ∀ p, ¬ (123 ≤ p ∧ p ≤ 125) → c' p = c p) (h2 : ∀ p, p ≠ 157 → ¬ (194 ≤ p ∧ p ≤ 195) → r' p = r p) (h3 : ∀ i, i ≠ 120 → i ≠ 121 → r' 157 i = r 157 i) (hK : KB c' r') : SC h b c0 r0 c' r' := by
  refine ⟨RT_o H.1 (fun p h4 h5 => h1 p (by omega)) (fun p h4 h5 _ => h2 p (by omega) (by omega)) (fun i hi => h3 i (by unfold tI at hi; omega) (by unfold tI at hi; omega)), hK, ?_⟩
  exact ⟨fun p h4 h5 => by rw [h1 p (by omega)]; exact H.2.2.1 p h4 h5, fun p h4 h5 => by rw [h2 p h4 (by omega)]; exact H.2.2.2.1 p h4 h5, fun i h4 h5 h6 => by rw [h3 i h5 h6]; exact H.2.2.2.2 i h4 h5 h6⟩
theorem e_isk {a : xA} : f378_isKey N h b x a = some (zb (0 ≤ x ∧ x ≤ 28 ∨ 32 ≤ x ∧ x ≤ 126), a) := by
  unfold f378_isKey j378_10 j378_22 xg zb
  grind
theorem d_rel {α : Type} {K : xA → Option α} (H : SC h b c0 r0 c r) (hj : j < 127) (hk : ¬ (29 ≤ j ∧ j ≤ 31)) (h0 : c 124 j = 0) : ∃ c' r', f194_release N h b (Int32.ofNat j) c = some c' ∧ xw (xU r 195 j 0) (fun a10 => if (a10 157 120) = Int32.ofNat j then (xw (xU a10 157 120 (-1)) (fun a14 => K a14)) else (K a10)) = K r' ∧ SC h b c0 r0 c' r' := by
  obtain ⟨k1, k2, ⟨k3, k4, k5⟩, k6⟩ := id H.2.1
  have knl := kn_le (c := c) 127
  have hc1 : ∃ c1, f194_release N h b (Int32.ofNat j) c = j194_26 N h b (Int32.ofNat j) c1 ∧ (∀ p, ¬ (p = 123 ∨ p = 125) → c1 p = c p) ∧ (∀ i, i ≠ 2 → c1 123 i = c 123 i) ∧ (∀ i, i ≠ j → c1 125 i = c 125 i) ∧ c1 125 j = 0 ∧ c1 123 2 = Int32.ofNat (kn c1 127) := by
    unfold f194_release
    rw [xg_pos (g_ix hj (by omega)), i_cl (by omega)]
    by_cases z : c 125 j = 0
    · exact ⟨c, by rw [if_pos z], fun _ _ => rfl, fun _ _ => rfl, fun _ _ => rfl, z, k6⟩
    · refine ⟨xU (xU c 125 j 0) 123 2 ((xU c 125 j 0) 123 2 - 1), by rw [if_neg z]; rfl, fun p hp => by rw [xU_o (by omega), xU_o (by omega)], fun i hi => by rw [xU_s hi, xU_o (by decide)], fun i hi => by rw [xU_o (by decide), xU_s hi], by rw [xU_o (by decide), xU_e], ?_⟩
      have ke := kn_s (c := c) (c' := xU (xU c 125 j 0) 123 2 ((xU c 125 j 0) 123 2 - 1)) (j := j) (fun i hi => dn_eq (by rw [xU_o (by decide), xU_o (by decide)]) (by rw [xU_o (by decide), xU_s hi])) 127
      have d1 : dn (xU (xU c 125 j 0) 123 2 ((xU c 125 j 0) 123 2 - 1)) j = 0 := by
        unfold dn
        rw [xU_o (by decide), xU_o (by decide), xU_o (by decide), xU_e, if_pos ⟨h0, rfl⟩]
      have d2 : dn c j = 1 := by
        unfold dn
        rw [if_neg (fun q => z q.2)]
      rw [if_pos hj, if_pos hj, d1, d2] at ke
      have kc : kn (xU (xU c 125 j 0) 123 2 ((xU c 125 j 0) 123 2 - 1)) 127 = kn c 127 - 1 := by omega
      rw [kc, xU_e, xU_o (by decide), k6, show (1 : Int32) = Int32.ofNat 1 from rfl, ← Int32.ofNat_sub _ _ (by omega)]
  obtain ⟨c1, e1, e2, e3, e4, e5, e6⟩ := hc1
  have ka : ∀ {r1 : xA}, r1 194 = r 194 → (∀ i, i ≠ j → r1 195 i = r 195 i) → r1 195 j = 0 → Ka c1 r1 := by
    intro r1 g1 g2 g3 i hi
    obtain ⟨t1, t2, t3, t4⟩ := k1 i hi
    rw [e2 124 (by omega), g1]
    by_cases q : i = j
    · subst q
      rw [e5, g3]
      exact ⟨t1, t2, rfl, Or.inl rfl⟩
    · rw [e4 i q, g2 i q]
      exact ⟨t1, t2, t3, t4⟩
  have kb : Kb c1 := by
    intro i hi hi2
    rw [e2 124 (by omega), e4 i (by omega)]
    exact k2 i hi hi2
  unfold j194_26 at e1
  rw [e3 3 (by decide)] at e1
  by_cases z : c 123 3 = Int32.ofNat j
  · rw [if_pos z] at e1
    refine ⟨xU c1 123 3 (-1), xU (xU r 195 j 0) 157 120 (-1), e1, ?_, SC_k H (fun p hp => by rw [xU_o (by omega), e2 p (by omega)]) (fun p hp hp2 => by rw [xU_o hp, xU_o (by omega)]) (fun i hi hi2 => by rw [xU_s hi, xU_o (by decide)]) ⟨?_, ?_, ⟨?_, ?_, Or.inl xU_e⟩, ?_⟩⟩
    · show (if (xU r 195 j 0) 157 120 = Int32.ofNat j then _ else _) = _
      rw [xU_o (by decide), ← k3, if_pos z]
      rfl
    · have := ka (r1 := xU (xU r 195 j 0) 157 120 (-1)) (by rw [xU_o (by decide), xU_o (by decide)]) (fun i hi => by rw [xU_o (by decide), xU_s hi]) (by rw [xU_o (by decide), xU_e])
      intro i hi
      rw [xU_o (show (124 : Nat) ≠ 123 by decide), xU_o (show (125 : Nat) ≠ 123 by decide)]
      exact this i hi
    · intro i hi hi2
      rw [xU_o (by decide), xU_o (by decide)]
      exact kb i hi hi2
    · rw [xU_e, xU_e]
    · rw [xU_s (by decide), xU_s (by decide), xU_o (by decide), e3 4 (by decide)]; exact k4
    · rw [xU_s (by decide), e6]
      have ke := kn_s (c := c1) (c' := xU c1 123 3 (-1)) (j := 200) (fun i _ => dn_eq (by rw [xU_o (by decide)]) (by rw [xU_o (by decide)])) 127
      rw [if_neg (by decide), if_neg (by decide)] at ke
      have ke2 : kn (xU c1 123 3 (-1)) 127 = kn c1 127 := by omega
      rw [ke2]
  · rw [if_neg z] at e1
    refine ⟨c1, xU r 195 j 0, e1, ?_, SC_k H (fun p hp => e2 p (by omega)) (fun p hp hp2 => by rw [xU_o (by omega)]) (fun i hi hi2 => by rw [xU_o (by decide)]) ⟨?_, kb, ⟨?_, ?_, ?_⟩, e6⟩⟩
    · show (if (xU r 195 j 0) 157 120 = Int32.ofNat j then _ else _) = _
      rw [xU_o (by decide), ← k3, if_neg z]
    · exact ka (by rw [xU_o (by decide)]) (fun i hi => by rw [xU_s hi]) xU_e
    · rw [e3 3 (by decide), xU_o (by decide)]; exact k3
    · rw [e3 4 (by decide), xU_o (by decide)]; exact k4
    · rw [e3 3 (by decide)]
      rcases k5 with q | ⟨k, q1, q2, q3, q4⟩
      · exact Or.inl q
      · refine Or.inr ⟨k, q1, q2, q3, ?_⟩
        rw [e4 k (fun e => z (by rw [q3, e]))]
        exact q4
end T
