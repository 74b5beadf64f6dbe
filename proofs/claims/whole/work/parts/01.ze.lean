/-! The line: wires, time; all of the line's state. -/
def W1 (o x y z : Nat) (t : Int32) (c r : xA) : Prop := ((c o 0 = -1 ∧ r 157 x = -1) ∨ (¬ c o 0 = -1 ∧ By (c o 0) ∧ r 157 x = (if c o 2 = 0 then c o 0 else 256) ∧ c o 1 = r 157 y ∧ t < r 157 y)) ∧ c o 3 = r 157 z ∧ (c o 2 = 0 ∨ c o 2 = 1)
def TM (c r : xA) : Prop := c 0 15 = r 157 71 ∧ 0 ≤ c 0 15 ∧ c 0 15 ≤ 1000000000 ∧ c 0 13 = r 157 70 ∧ 1 ≤ c 0 13 ∧ c 0 13 ≤ 16
def LF (c0 r0 c r : xA) : Prop := (∀ p, p ≠ 0 → ¬ (116 ≤ p ∧ p ≤ 140) → c p = c0 p) ∧ (∀ i, i ≠ 15 → c 0 i = c0 0 i) ∧ (∀ p, p ≠ 157 → ¬ (184 ≤ p ∧ p ≤ 195) → r p = r0 p) ∧ (∀ i, i < 55 → r 157 i = r0 157 i)
def LI (h b : Nat) (t1 t2 : Int32) (c0 r0 c r : xA) : Prop := RD c r c r ∧ RT h b c r c r ∧ KB c r ∧ W1 127 74 76 72 t1 c r ∧ W1 128 75 77 73 t2 c r ∧ TM c r ∧ LF c0 r0 c r
section T
variable {N h b : Nat} {c0 r0 c r c' r' : xA} {x y z s v w t t1 t2 u1 u2 : Int32} {j : Nat}
theorem Df_rfl : Df c r c r := ⟨fun _ _ => rfl, fun _ _ _ => rfl, fun _ _ => rfl⟩
theorem RD_o (hR : RD c0 r0 c r) (h1 : ∀ p, 116 ≤ p → p ≤ 122 → c' p = c p) (h2 : ∀ p, 184 ≤ p → p ≤ 186 → r' p = r p) (h3 : ∀ i, 55 ≤ i → i ≤ 67 → r' 157 i = r 157 i) : RD c' r' c' r' := by
  obtain ⟨_, s1, q1, e1, r1⟩ := hR
  exact ⟨Df_rfl, Ds_of s1 (h1 _ (by decide) (by decide)) (fun i _ _ => h3 i (by omega) (by omega)), Dq_of q1 (h1 _ (by decide) (by decide)) (h1 _ (by decide) (by decide)) (h3 _ (by decide) (by decide)) (h3 _ (by decide) (by decide)) (h2 _ (by decide) (by decide)), De_of e1 (h1 _ (by decide) (by decide)) (h1 _ (by decide) (by decide)) (h3 _ (by decide) (by decide)) (h2 _ (by decide) (by decide)), Dr_of r1 (h1 _ (by decide) (by decide)) (h1 _ (by decide) (by decide)) (h3 _ (by decide) (by decide)) (h2 _ (by decide) (by decide))⟩
theorem W1_of {o x y z : Nat} (H : W1 o x y z t c r) (h1 : c' o = c o) (h2 : r' 157 x = r 157 x) (h3 : r' 157 y = r 157 y) (h4 : r' 157 z = r 157 z) : W1 o x y z t c' r' := by
  unfold W1 at *
  rw [h1, h2, h3, h4]
  exact H
theorem TM_of (H : TM c r) (h1 : c' 0 15 = c 0 15) (h2 : c' 0 13 = c 0 13) (h3 : r' 157 71 = r 157 71) (h4 : r' 157 70 = r 157 70) : TM c' r' := by
  unfold TM at *
  rw [h1, h2, h3, h4]
  exact H
theorem LI_D (H : LI h b t1 t2 c0 r0 c r) (hR : RD c r c' r') : LI h b t1 t2 c0 r0 c' r' := by
  obtain ⟨a1, a2, a3, a4, a5, a6, a7, a8, a9, b1⟩ := H
  obtain ⟨f1, f2, f3⟩ := hR.1
  refine ⟨⟨Df_rfl, hR.2⟩, RT_o a2 (fun p h1 h2 => f1 p (by omega)) (fun p h1 h2 _ => f2 p (by omega) (by omega)) (fun i hi => f3 i (by unfold tI at hi; omega)), KB_of a3 (f1 _ (by decide)) (f1 _ (by decide)) (f1 _ (by decide)) (f2 _ (by decide) (by decide)) (f2 _ (by decide) (by decide)) (f3 _ (by decide)) (f3 _ (by decide)), W1_of a4 (f1 _ (by decide)) (f3 _ (by decide)) (f3 _ (by decide)) (f3 _ (by decide)), W1_of a5 (f1 _ (by decide)) (f3 _ (by decide)) (f3 _ (by decide)) (f3 _ (by decide)), TM_of a6 (by rw [f1 _ (by decide)]) (by rw [f1 _ (by decide)]) (f3 _ (by decide)) (f3 _ (by decide)), fun p h1 h2 => ?_, fun i hi => ?_, fun p h1 h2 => ?_, fun i hi => ?_⟩
  · rw [f1 p (by omega)]; exact a7 p h1 h2
  · rw [f1 0 (by omega)]; exact a8 i hi
  · rw [f2 p h1 (by omega)]; exact a9 p h1 h2
  · rw [f3 i (by omega)]; exact b1 i hi
theorem LI_T (H : LI h b t1 t2 c0 r0 c r) (hR : RT h b c r c' r') : LI h b t1 t2 c0 r0 c' r' := by
  obtain ⟨a1, a2, a3, a4, a5, a6, a7, a8, a9, b1⟩ := H
  obtain ⟨f1, f2, f3⟩ := hR.1
  have f4 : ∀ i, ¬ (79 ≤ i ∧ i ≤ 117) → r' 157 i = r 157 i := fun i hi => f3 i (by unfold tI; omega)
  refine ⟨RD_o a1 (fun p h1 h2 => f1 p (by omega)) (fun p h1 h2 => f2 p (by omega) (by omega)) (fun i h1 h2 => f4 i (by omega)), RT_rfl hR, KB_of a3 (f1 _ (by decide)) (f1 _ (by decide)) (f1 _ (by decide)) (f2 _ (by decide) (by decide)) (f2 _ (by decide) (by decide)) (f4 _ (by decide)) (f4 _ (by decide)), W1_of a4 (f1 _ (by decide)) (f4 _ (by decide)) (f4 _ (by decide)) (f4 _ (by decide)), W1_of a5 (f1 _ (by decide)) (f4 _ (by decide)) (f4 _ (by decide)) (f4 _ (by decide)), TM_of a6 (by rw [f1 _ (by decide)]) (by rw [f1 _ (by decide)]) (f4 _ (by decide)) (f4 _ (by decide)), fun p h1 h2 => ?_, fun i hi => ?_, fun p h1 h2 => ?_, fun i hi => ?_⟩
  · rw [f1 p (by omega)]; exact a7 p h1 h2
  · rw [f1 0 (by omega)]; exact a8 i hi
  · rw [f2 p h1 (by omega)]; exact a9 p h1 h2
  · rw [f4 i (by omega)]; exact b1 i hi
theorem LI_K (H : LI h b t1 t2 c0 r0 c r) (hR : SC h b c r c' r') : LI h b t1 t2 c0 r0 c' r' := by
  obtain ⟨a1, a2, a3, a4, a5, a6, a7, a8, a9, b1⟩ := H
  obtain ⟨g1, g2, f1, f2, f3⟩ := hR
  have f4 : ∀ i, ¬ (79 ≤ i ∧ i ≤ 121) → r' 157 i = r 157 i := fun i hi => f3 i (by unfold tI; omega) (by omega) (by omega)
  refine ⟨RD_o a1 (fun p h1 h2 => f1 p (by omega) (by omega)) (fun p h1 h2 => f2 p (by omega) (by omega)) (fun i h1 h2 => f4 i (by omega)), g1, g2, W1_of a4 (f1 _ (by decide) (by decide)) (f4 _ (by decide)) (f4 _ (by decide)) (f4 _ (by decide)), W1_of a5 (f1 _ (by decide) (by decide)) (f4 _ (by decide)) (f4 _ (by decide)) (f4 _ (by decide)), TM_of a6 (by rw [f1 _ (by decide) (by decide)]) (by rw [f1 _ (by decide) (by decide)]) (f4 _ (by decide)) (f4 _ (by decide)), fun p h1 h2 => ?_, fun i hi => ?_, fun p h1 h2 => ?_, fun i hi => ?_⟩
  · rw [f1 p (by omega) (by omega)]; exact a7 p h1 h2
  · rw [f1 0 (by omega) (by omega)]; exact a8 i hi
  · rw [f2 p h1 (by omega)]; exact a9 p h1 h2
  · rw [f4 i (by omega)]; exact b1 i hi
theorem LI_sc (H : LI h b t1 t2 c0 r0 c r) : SC h b c r c r := ⟨H.2.1, H.2.2.1, fun _ _ _ => rfl, fun _ _ _ => rfl, fun _ _ _ _ => rfl⟩
theorem LI_w (H : LI h b t1 t2 c0 r0 c r) (f1 : ∀ p, p ≠ 127 → p ≠ 128 → c' p = c p) (f2 : ∀ p, p ≠ 157 → r' p = r p) (f3 : ∀ i, ¬ (72 ≤ i ∧ i ≤ 77) → r' 157 i = r 157 i) (w1 : W1 127 74 76 72 u1 c' r') (w2 : W1 128 75 77 73 u2 c' r') : LI h b u1 u2 c0 r0 c' r' := by
  obtain ⟨a1, a2, a3, a4, a5, a6, a7, a8, a9, b1⟩ := H
  refine ⟨RD_o a1 (fun p h1 h2 => f1 p (by omega) (by omega)) (fun p h1 h2 => f2 p (by omega)) (fun i h1 h2 => f3 i (by omega)), RT_o a2 (fun p h1 h2 => f1 p (by omega) (by omega)) (fun p h1 h2 _ => f2 p (by omega)) (fun i hi => f3 i (by unfold tI at hi; omega)), KB_of a3 (f1 _ (by decide) (by decide)) (f1 _ (by decide) (by decide)) (f1 _ (by decide) (by decide)) (f2 _ (by decide)) (f2 _ (by decide)) (f3 _ (by decide)) (f3 _ (by decide)), w1, w2, TM_of a6 (by rw [f1 _ (by decide) (by decide)]) (by rw [f1 _ (by decide) (by decide)]) (f3 _ (by decide)) (f3 _ (by decide)), fun p h1 h2 => ?_, fun i hi => ?_, fun p h1 h2 => ?_, fun i hi => ?_⟩
  · rw [f1 p (by omega) (by omega)]; exact a7 p h1 h2
  · rw [f1 0 (by omega) (by omega)]; exact a8 i hi
  · rw [f2 p h1]; exact a9 p h1 h2
  · rw [f3 i (by omega)]; exact b1 i hi
theorem LI_t (H : LI h b t1 t2 c0 r0 c r) (hv : 0 ≤ v) (hv2 : v ≤ 1000000000) : LI h b t1 t2 c0 r0 (xU c 0 15 v) (xU r 157 71 v) := by
  obtain ⟨a1, a2, a3, a4, a5, a6, a7, a8, a9, b1⟩ := H
  have f1 : ∀ p, p ≠ 0 → xU c 0 15 v p = c p := fun p hp => xU_o hp
  have f2 : ∀ p, p ≠ 157 → xU r 157 71 v p = r p := fun p hp => xU_o hp
  have f3 : ∀ i, i ≠ 71 → xU r 157 71 v 157 i = r 157 i := fun i hi => xU_s hi
  refine ⟨RD_o a1 (fun p h1 h2 => f1 p (by omega)) (fun p h1 h2 => f2 p (by omega)) (fun i h1 h2 => f3 i (by omega)), RT_o a2 (fun p h1 h2 => f1 p (by omega)) (fun p h1 h2 _ => f2 p (by omega)) (fun i hi => f3 i (by unfold tI at hi; omega)), KB_of a3 (f1 _ (by decide)) (f1 _ (by decide)) (f1 _ (by decide)) (f2 _ (by decide)) (f2 _ (by decide)) (f3 _ (by decide)) (f3 _ (by decide)), W1_of a4 (f1 _ (by decide)) (f3 _ (by decide)) (f3 _ (by decide)) (f3 _ (by decide)), W1_of a5 (f1 _ (by decide)) (f3 _ (by decide)) (f3 _ (by decide)) (f3 _ (by decide)), ?_, fun p h1 h2 => ?_, fun i hi => ?_, fun p h1 h2 => ?_, fun i hi => ?_⟩
  · unfold TM
    rw [xU_e, xU_e, xU_s (by decide), xU_s (by decide)]
    exact ⟨rfl, hv, hv2, a6.2.2.2⟩
  · rw [f1 p (by omega)]; exact a7 p h1 h2
  · rw [xU_s hi]; exact a8 i hi
  · rw [f2 p h1]; exact a9 p h1 h2
  · rw [f3 i (by omega)]; exact b1 i hi
/-- what comes in at a wire's end -/
theorem d_arv {o x y z : Nat} {u : Int32} (hk : xk o = 11) (H : W1 o x y z t c r) (hu : u = t + 1) (h0 : 0 ≤ t) (h1 : t < 1000000000) : (r 157 x = -1 ∧ f178_arriving N h b o u c = some (-1, c) ∧ W1 o x y z u c r) ∨ (¬ r 157 x = -1 ∧ r 157 y = u ∧ f178_arriving N h b o u c = some (r 157 x, xU c o 0 (-1)) ∧ (By (r 157 x) ∨ r 157 x = 256) ∧ (x ≠ z → W1 o x y z u (xU c o 0 (-1)) (xU r 157 x (-1)))) ∨ (¬ r 157 x = -1 ∧ ¬ r 157 y = u ∧ f178_arriving N h b o u c = some (-1, c) ∧ W1 o x y z u c r) := by
  obtain ⟨k1, k2, k3⟩ := id H
  unfold f178_arriving
  rw [xg_pos hk]
  rcases k1 with ⟨a1, a2⟩ | ⟨a1, a2, a3, a4, a5⟩
  · exact Or.inl ⟨a2, by rw [if_pos a1], Or.inl ⟨a1, a2⟩, k2, k3⟩
  · have n1 : ¬ r 157 x = -1 := by
      rw [a3]
      split
      · exact a1
      · decide
    refine Or.inr ?_
    rw [if_neg a1, a4]
    by_cases e : r 157 y = u
    · refine Or.inl ⟨n1, e, ?_, ?_, fun hz => ?_⟩
      · rw [if_pos (by rw [e]; grind), a3]; rfl
      · rw [a3]
        split
        · exact Or.inl a2
        · exact Or.inr rfl
      · unfold W1
        rw [xU_e, xU_e, xU_s (show (3 : Nat) ≠ 0 by decide), xU_s (show (2 : Nat) ≠ 0 by decide), xU_s (fun e => hz e.symm)]
        exact ⟨Or.inl ⟨rfl, rfl⟩, k2, k3⟩
    · have l : u < r 157 y := by grind
      exact Or.inr ⟨n1, e, by rw [if_neg (by grind)], Or.inr ⟨a1, a2, a3, a4, l⟩, k2, k3⟩
/-- a byte is put on a wire -/
theorem e_cry {o : Nat} (hk : xk o = 11) (hx : ¬ x = -1) : f246_carry N h b o x y c = some (xU (xU (xU (xU c o 0 x) o 1 y) o 2 0) o 3 (c o 3 + 1)) := by
  unfold f246_carry
  rw [xg_pos hk, if_neg hx]
  show some (xU (xU (xU (xU c o 0 x) o 1 y) o 2 0) o 3 ((xU (xU (xU c o 0 x) o 1 y) o 2 0) o 3 + 1)) = _
  rw [xU_s (by decide), xU_s (by decide), xU_s (by decide)]
theorem e_cry0 {o : Nat} (hk : xk o = 11) : f246_carry N h b o (-1) y c = some c := by
  unfold f246_carry
  rw [xg_pos hk, if_pos rfl]
theorem e_fre {o : Nat} (hk : xk o = 11) : f244_isFree N h b o c = some (zb (c o 0 = -1), c) := by
  unfold f244_isFree
  rw [xg_pos hk, zi10, zg]
theorem W1_cry {o p q z : Nat} (h1 : ¬ x = -1) (h2 : By x) (h3 : t < y) (h4 : c o 3 = r 157 z) (n1 : p ≠ q) (n2 : p ≠ z) (n3 : q ≠ z) : W1 o p q z t (xU (xU (xU (xU c o 0 x) o 1 y) o 2 0) o 3 (c o 3 + 1)) (xU (xU (xU r 157 p x) 157 q y) 157 z (r 157 z + 1)) := by
  unfold W1
  simp only [xU_eq]
  simp [n1, n2, n3, n1.symm, n2.symm, n3.symm, h1, h3, h4]
  exact h2
end T
