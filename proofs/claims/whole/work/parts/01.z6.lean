/-! Numbers of a sequence. -/
/-- two loops side by side -/
theorem q_lp {α β : Type} {L1 : Nat → Int32 → xA → Option α} {L2 : Nat → Int32 → xA → Option β} {hi : Nat} {P : xA → xA → Prop} {Q : α → β → Prop}
    (hE : ∀ n j c r, P c r → j < hi → (∀ c' r', P c' r' → Q2 (L1 n (Int32.ofNat (j + 1)) c') (L2 n (Int32.ofNat (j + 1)) r') Q) → Q2 (L1 (n + 1) (Int32.ofNat j) c) (L2 (n + 1) (Int32.ofNat j) r) Q)
    (hZ : ∀ n c r, P c r → Q2 (L1 (n + 1) (Int32.ofNat hi) c) (L2 (n + 1) (Int32.ofNat hi) r) Q) :
    ∀ (k j n : Nat) (c r : xA), j + k = hi → k < n → P c r → Q2 (L1 n (Int32.ofNat j) c) (L2 n (Int32.ofNat j) r) Q
  | 0, j, n, c, r, h1, h2, h3 => by
    obtain ⟨m, rfl⟩ : ∃ m, n = m + 1 := ⟨n - 1, by omega⟩
    have : j = hi := by omega
    subst this
    exact hZ m c r h3
  | k + 1, j, n, c, r, h1, h2, h3 => by
    obtain ⟨m, rfl⟩ : ∃ m, n = m + 1 := ⟨n - 1, by omega⟩
    exact hE m j c r h3 (by omega) (fun c' r' h4 => q_lp hE hZ k (j + 1) m c' r' (by omega) (by omega) h4)
def Nm (m : Nat) (c r : xA) : Prop := c 129 12 = Int32.ofNat m ∧ r 157 115 = Int32.ofNat m ∧ 1 ≤ m ∧ m ≤ 8 ∧ ∀ i, i < m → c 135 i = r 193 i ∧ 0 ≤ c 135 i ∧ c 135 i ≤ 9999
section T
variable {N h b : Nat} {c0 r0 c r c' r' : xA} {x y s v : Int32} {Y X Tp Bt F E k m : Nat}
theorem Nm_g (H : Nm m c r) (hG : RG h b c r c' r') : Nm m c' r' := by
  obtain ⟨h1, h2, h3, h4, h5⟩ := H
  obtain ⟨g1, g2, g3⟩ := hG.1
  refine ⟨by rw [g1 129 (by decide)]; exact h1, by rw [g3 115 (by unfold gI; omega)]; exact h2, h3, h4, fun i hi => ?_⟩
  rw [g1 135 (by decide), g2 193 (by decide) (by decide)]
  exact h5 i hi
theorem d_loop {L1 L2 : Nat → Int32 → xA → Option (Nat × xA)} (hd : Dim N h b) (hM : Nm m c r) (hR : RG h b c r c r)
    (hE : ∀ n j c' r', RG h b c r c' r' → Nm m c' r' → j < m → (∀ c2 r2, RG h b c r c2 r2 → Q2 (L1 n (Int32.ofNat (j + 1)) c2) (L2 n (Int32.ofNat (j + 1)) r2) (fun p q => RG h b c r p.2 q.2)) → Q2 (L1 (n + 1) (Int32.ofNat j) c') (L2 (n + 1) (Int32.ofNat j) r') (fun p q => RG h b c r p.2 q.2))
    (hZ : ∀ n c' r', Nm m c' r' → L1 (n + 1) (Int32.ofNat m) c' = some (0, c') ∧ L2 (n + 1) (Int32.ofNat m) r' = some (0, r')) :
    Q2 ((L1 N 0 c).bind (fun z => some z.2)) ((L2 N 0 r).bind (fun z => some z.2)) (fun p q => RG h b c r p q) := by
  have k := q_lp (L1 := L1) (L2 := L2) (hi := m) (P := fun p q => RG h b c r p q) (Q := fun p q => RG h b c r p.2 q.2) (fun n j c' r' h1 h2 h3 => hE n j c' r' h1 (Nm_g hM h1) h2 h3) (fun n c' r' h1 => by
    obtain ⟨e1, e2⟩ := hZ n c' r' (Nm_g hM h1)
    rw [e1, e2]
    exact ⟨_, _, rfl, rfl, h1⟩) m 0 N c r (by omega) (by have := hd.1; have := hM.2.2.2.1; omega) hR
  exact q_bb k (fun p q h1 => q_ok1 h1)
/-- one number's attribute -/
def atv (v x : Int32) : Int32 := if v = 0 then 0 else if v = 1 then x ||| 1 else if v = 4 then x ||| 2 else if v = 5 then x ||| 4 else if v = 7 then x ||| 8 else if v = 22 then x &&& (-2) else if v = 24 then x &&& (-3) else if v = 25 then x &&& (-5) else if v = 27 then x &&& (-9) else x
theorem e_at {a : xA} : f406_attribute N h b v a = some (xU a 157 97 (atv v (a 157 97))) := by
  unfold f406_attribute atv xw
  grind [xU_self]
theorem d_dress (hd : Dim N h b) (hM : Nm m c r) (hR : RG h b c r c r) : Q2 (f237_dressByNumbers N h b c) ((l401_545 N h b N 0 r).bind (fun z135 => some z135.2)) (fun p q => RG h b c r p q) := by
  unfold f237_dressByNumbers
  refine d_loop (L1 := l237_2 N h b) (L2 := l401_545 N h b) hd hM hR (fun n j c' r' h1 h2 h3 h4 => ?_) (fun n c' r' h1 => ?_)
  · obtain ⟨n1, n2, n3, n4, n5⟩ := h2
    have ho := h1.2.2.1
    unfold Go at ho
    have e1 : l237_2 N h b (n + 1) (Int32.ofNat j) c' = l237_2 N h b n (Int32.ofNat (j + 1)) (xU c' 136 11 (atv (c' 135 j) (c' 136 11))) := by
      rw [l237_2, n1, if_neg (by rw [i_le (by omega) (by omega)]; omega), xg_pos (g_ix (by omega) (by decide)), i_cl (by omega)]
      unfold j237_288 atv xw
      simp only [on_s]
      grind [xU_self]
    have e2 : l401_545 N h b (n + 1) (Int32.ofNat j) r' = l401_545 N h b n (Int32.ofNat (j + 1)) (xU r' 157 97 (atv (r' 193 j) (r' 157 97))) := by
      rw [l401_545, n2, if_neg (by rw [i_le (by omega) (by omega)]; omega), xg_pos (g_ix (by omega) (by decide)), i_cl (by omega), e_at, b1_some, on_s]
    rw [e1, e2, (n5 j h3).1, ho.2.2.2.1]
    exact h4 _ _ (RG_11 h1)
  · constructor
    · rw [l237_2, h1.1, if_pos (by rw [i_le (by have := h1.2.2.2.1; omega) (by have := h1.2.2.2.1; omega)]; omega)]
    · rw [l401_545, h1.2.1, if_pos (by rw [i_le (by have := h1.2.2.2.1; omega) (by have := h1.2.2.2.1; omega)]; omega)]
/-- one number's lamp -/
def lmp (v x : Int32) : Int32 := if v = 0 then 0 else if 4 < v then x else x ||| ((1 : Int32) <<< ((v - 1) &&& 31))
theorem d_light (hd : Dim N h b) (hM : Nm m c r) (hR : RG h b c r c r) : Q2 (f238_lightByNumbers N h b c) ((l401_750 N h b N 0 r).bind (fun z135 => some z135.2)) (fun p q => RG h b c r p q) := by
  unfold f238_lightByNumbers
  refine d_loop (L1 := l238_2 N h b) (L2 := l401_750 N h b) hd hM hR (fun n j c' r' h1 h2 h3 h4 => ?_) (fun n c' r' h1 => ?_)
  · obtain ⟨n1, n2, n3, n4, n5⟩ := h2
    have ho := h1.2.2.1
    unfold Go at ho
    have e1 : l238_2 N h b (n + 1) (Int32.ofNat j) c' = l238_2 N h b n (Int32.ofNat (j + 1)) (xU c' 136 14 (lmp (c' 135 j) (c' 136 14))) := by
      rw [l238_2, n1, if_neg (by rw [i_le (by omega) (by omega)]; omega), xg_pos (g_ix (by omega) (by decide)), i_cl (by omega)]
      unfold j238_54 lmp xw
      simp only [on_s]
      grind [xU_self]
    have e2 : l401_750 N h b (n + 1) (Int32.ofNat j) r' = l401_750 N h b n (Int32.ofNat (j + 1)) (xU r' 157 99 (lmp (r' 193 j) (r' 157 99))) := by
      rw [l401_750, n2, if_neg (by rw [i_le (by omega) (by omega)]; omega), xg_pos (g_ix (by omega) (by decide)), i_cl (by omega)]
      unfold j401_808 lmp xw
      simp only [on_s]
      grind
    rw [e1, e2, (n5 j h3).1, ho.2.2.2.2.2.2.2.2.2.1]
    exact h4 _ _ (RG_14 h1)
  · constructor
    · rw [l238_2, h1.1, if_pos (by rw [i_le (by have := h1.2.2.2.1; omega) (by have := h1.2.2.2.1; omega)]; omega)]
    · rw [l401_750, h1.2.1, if_pos (by rw [i_le (by have := h1.2.2.2.1; omega) (by have := h1.2.2.2.1; omega)]; omega)]
/-- one number's mode -/
def trn (w k x : Int32) : Int32 := if w = 0 then x &&& (k ^^^ -1) else x ||| k
theorem trn0 {w x : Int32} : trn w 0 x = x := by
  unfold trn
  have e1 : (0 : Int32) ^^^ -1 = -1 := rfl
  rw [e1]
  split
  · exact Int32.and_neg_one
  · exact Int32.or_zero
theorem d_modes {w : Int32} (hx : x = 104 ∧ w = 1 ∨ x = 108 ∧ w = 0) (hd : Dim N h b) (hM : Nm m c r) (hR : RG h b c r c r) : Q2 (f239_turnModes N h b w c) ((l401_647 N h b x N 0 r).bind (fun z135 => some z135.2)) (fun p q => RG h b c r p q) := by
  unfold f239_turnModes
  refine d_loop (L1 := l239_2 N h b w) (L2 := l401_647 N h b x) hd hM hR (fun n j c' r' h1 h2 h3 h4 => ?_) (fun n c' r' h1 => ?_)
  · obtain ⟨n1, n2, n3, n4, n5⟩ := h2
    have ho := h1.2.2.1
    unfold Go at ho
    have e1 : l239_2 N h b w (n + 1) (Int32.ofNat j) c' = l239_2 N h b w n (Int32.ofNat (j + 1)) (xU c' 136 10 (trn w (if c' 135 j = 4 then 1 else if c' 135 j = 20 then 2 else 0) (c' 136 10))) := by
      rw [l239_2, n1, if_neg (by rw [i_le (by omega) (by omega)]; omega), xg_pos (g_ix (by omega) (by decide)), i_cl (by omega)]
      unfold j239_52 f216_turn xw
      simp only [on_s, b1_some]
      by_cases q : c' 135 j = 4
      · rw [if_pos q, if_pos q]; rfl
      · rw [if_neg q, if_neg q]
        by_cases q2 : c' 135 j = 20
        · rw [if_pos q2, if_pos q2]; rfl
        · rw [if_neg q2, if_neg q2, trn0, xU_self]
    have e2 : l401_647 N h b x (n + 1) (Int32.ofNat j) r' = l401_647 N h b x n (Int32.ofNat (j + 1)) (xU r' 157 98 (trn w (if r' 193 j = 4 then 1 else if r' 193 j = 20 then 2 else 0) (r' 157 98))) := by
      rw [l401_647, n2, if_neg (by rw [i_le (by omega) (by omega)]; omega), xg_pos (g_ix (by omega) (by decide)), i_cl (by omega)]
      unfold j401_688 xw
      simp only [on_s]
      have et : ∀ k y : Int32, (if x = 104 then y ||| k else y &&& (k ^^^ -1)) = trn w k y := by
        intro k y
        unfold trn
        rcases hx with ⟨q1, q2⟩ | ⟨q1, q2⟩ <;> subst q1 <;> subst q2 <;> rfl
      rw [et, et]
      by_cases q : r' 193 j = 4
      · rw [if_pos q, if_pos q]
      · rw [if_neg q, if_neg q]
    rw [e1, e2, (n5 j h3).1, ho.2.2.1]
    exact h4 _ _ (RG_10 h1)
  · constructor
    · rw [l239_2, h1.1, if_pos (by rw [i_le (by have := h1.2.2.2.1; omega) (by have := h1.2.2.2.1; omega)]; omega)]
    · rw [l401_647, h1.2.1, if_pos (by rw [i_le (by have := h1.2.2.2.1; omega) (by have := h1.2.2.2.1; omega)]; omega)]
end T
