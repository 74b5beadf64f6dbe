/-! use: the tables of lengths. -/
def TBx (N h b e : Nat) (c : xA) (a v : Nat) (x : Int32) : Prop := (c (9 + 7 * e + 3) a = 0 ∧ x = 1000000) ∨ (c (9 + 7 * e + 3) a = 1 ∧ ∃ cu c1, (∀ p, 9 + 7 * e ≤ p → p ≤ 9 + 7 * e + 6 → cu p = c p) ∧ cu 95 0 = Int32.ofNat v ∧ cu 95 1 = 0 ∧ cu 95 2 = 0 ∧ cu 95 3 = 0 ∧ f82_putTogether N h b (9 + 7 * e) (Int32.ofNat a) cu = some (x, c1))
def ob (e v : Nat) (c : xA) (x : Int32) : Int32 := if c (9 + 7 * e + 3) 25 = 0 ∨ c (9 + 7 * e + 3) (26 + v) = 0 then x else x ||| ((1 : Int32) <<< (Int32.ofNat v &&& 31))
def TB (N h b e : Nat) (c : xA) : Prop := (∀ a, 6 ≤ a → a < 39 → TBx N h b e c a 0 (c 106 a)) ∧ (∀ a v, 14 ≤ a → a ≤ 19 → v < 80 → TBx N h b e c a v (c (108 + (a - 14)) v)) ∧ c 97 10 = ob e 3 c (ob e 2 c (ob e 1 c (ob e 0 c 0))) ∧ c 97 11 = (if c (9 + 7 * e + 3) 21 = 0 ∨ c (9 + 7 * e + 3) 5 = 0 then 0 else c (9 + 7 * e + 4) 5)
section T
variable {N h b : Nat} {c0 r0 c r c' r' c'' r'' : xA} {x y z s v w w1 w2 : Int32} {len p i f k m q l a e K n row d th k0 A B t Ln Co V : Nat}
theorem TBx_of (H : TBx N h b e c a V x) (h1 : ∀ p, 9 + 7 * e ≤ p → p ≤ 9 + 7 * e + 6 → c' p = c p) : TBx N h b e c' a V x := by
  have e3 : c' (9 + 7 * e + 3) = c (9 + 7 * e + 3) := h1 _ (by omega) (by omega)
  rcases H with ⟨g1, g2⟩ | ⟨g1, cu, c1, g2, g3⟩
  · exact Or.inl ⟨by rw [e3]; exact g1, g2⟩
  · exact Or.inr ⟨by rw [e3]; exact g1, cu, c1, fun p k1 k2 => by rw [g2 p k1 k2, h1 p k1 k2], g3⟩
theorem ob_of (h1 : c' (9 + 7 * e + 3) = c (9 + 7 * e + 3)) : ob e V c' x = ob e V c x := by unfold ob; rw [h1]
theorem TB_of (H : TB N h b e c) (h1 : ∀ p, 9 + 7 * e ≤ p → p ≤ 9 + 7 * e + 6 → c' p = c p) (h2 : c' 106 = c 106) (h3 : ∀ p, 108 ≤ p → p ≤ 113 → c' p = c p) (h4 : c' 97 10 = c 97 10) (h5 : c' 97 11 = c 97 11) : TB N h b e c' := by
  obtain ⟨a1, a2, a3, a4⟩ := H
  have e3 : c' (9 + 7 * e + 3) = c (9 + 7 * e + 3) := h1 _ (by omega) (by omega)
  have e4 : c' (9 + 7 * e + 4) = c (9 + 7 * e + 4) := h1 _ (by omega) (by omega)
  refine ⟨fun a g1 g2 => TBx_of (by rw [h2]; exact a1 a g1 g2) h1, fun a v g1 g2 g3 => TBx_of (by rw [h3 _ (by omega) (by omega)]; exact a2 a v g1 g2 g3) h1, ?_, ?_⟩
  · rw [h4, a3, ob_of e3, ob_of e3, ob_of e3, ob_of e3]
  · rw [h5, a4, e3, e4]
theorem d_msr (hN : 100000 ≤ N) (he : e < 12) (ha : a < 39) (ha6 : 6 ≤ a) (hE : Ea e a c r) (ht : r 157 21 = Int32.ofNat e) (hq : MQb r) (h6 : c 97 6 = Int32.ofNat (9 + 7 * e)) (h7 : c 97 7 = Int32.ofNat 93) : ∃ x c1, f80_measured N h b (Int32.ofNat a) (Int32.ofNat V) c = some (x, c1) ∧ TBx N h b e c a V x ∧ (∀ p, ¬ (93 ≤ p ∧ p ≤ 96) → c1 p = c p) ∧ (∀ i, i ≠ 1 → i ≠ 4 → c1 93 i = c 93 i) := by
  obtain ⟨p1, p2, p3, p4, p5, p6, p7, p8⟩ := pl (h := h) (b := b) he
  unfold f80_measured
  rw [h6, xg_pos (ofn_ne (by omega)), i_cl (show 9 + 7 * e < 2 ^ 31 by omega), xg_pos p1, e_hs he ha hE, b2_some]
  rcases hE.1 with z | z
  · rw [if_pos z]
    exact ⟨_, _, rfl, Or.inl ⟨z, rfl⟩, fun _ _ => rfl, fun _ _ _ => rfl⟩
  · rw [if_neg (by rw [z]; decide), xg_pos (show c 97 7 = 93 from h7)]
    unfold f81_setParameters
    dsimp only [xw]
    rw [b1_some]
    generalize hC : xU (xU (xU (xU c 95 0 (Int32.ofNat V)) 95 1 0) 95 2 0) 95 3 0 = C
    have oc : ∀ p, p ≠ 95 → C p = c p := fun p hp => by rw [← hC, xU_o hp, xU_o hp, xU_o hp, xU_o hp]
    have hE2 : Ea e a C r := Ea_of hE (by rw [oc _ (by omega)]) (by rw [oc _ (by omega)]) rfl rfl (fun _ hS => Es_of hS (by rw [oc _ (by omega)]) (fun i _ _ => by rw [oc _ (by omega)]) rfl (fun _ _ _ => rfl))
    have q1 : C 95 0 = Int32.ofNat V := by rw [← hC, xU_s (by decide), xU_s (by decide), xU_s (by decide), xU_e]
    have q2 : C 95 1 = 0 := by rw [← hC, xU_s (by decide), xU_s (by decide), xU_e]
    have q3 : C 95 2 = 0 := by rw [← hC, xU_s (by decide), xU_e]
    have q4 : C 95 3 = 0 := by rw [← hC, xU_e]
    obtain ⟨L, c1, r1, g1, g2, g3, g4, g5, g6, g7, g8⟩ := d_ptog (N := N) (h := h) (b := b) hN he ha ha6 hE2 (by rw [oc _ (by omega)]; exact z) ht hq q1 q2 q3 q4
    rw [oc 97 (by decide), h6, xg_pos (ofn_ne (by omega)), xg_pos (show c 97 7 = 93 from h7), i_cl (show 9 + 7 * e < 2 ^ 31 by omega), g1, b2_some]
    refine ⟨_, _, rfl, Or.inr ⟨z, C, c1, fun p _ _ => oc p (by omega), q1, q2, q3, q4, g1⟩, fun p hp => by rw [g8.1 p hp, oc p (by omega)], fun i k1 k2 => by rw [g8.2.1 i k1 k2, oc 93 (by decide)]⟩
/-- what measuring leaves alone -/
def MF (c c' : xA) : Prop := (∀ p, ¬ (93 ≤ p ∧ p ≤ 96) → p ≠ 106 → ¬ (108 ≤ p ∧ p ≤ 113) → c' p = c p) ∧ (∀ i, i ≠ 1 → i ≠ 4 → c' 93 i = c 93 i)
theorem Ea_M (hM : MF c c') (he : e < 12) (hE : Ea e a c r) : Ea e a c' r := Ea_of hE (by rw [hM.1 _ (by omega) (by omega) (by omega)]) (by rw [hM.1 _ (by omega) (by omega) (by omega)]) rfl rfl (fun _ hS => Es_of hS (by rw [hM.1 _ (by omega) (by omega) (by omega)]) (fun i _ _ => by rw [hM.1 _ (by omega) (by omega) (by omega)]) rfl (fun _ _ _ => rfl))
theorem TBx_M (H : TBx N h b e c' a V x) (hM : MF c c') (he : e < 12) : TBx N h b e c a V x := TBx_of H (fun p _ _ => (hM.1 p (by omega) (by omega) (by omega)).symm)
theorem d_m3 (hN : 100000 ≤ N) (he : e < 12) (hE : ∀ a, a < 39 → Ea e a c r) (ht : r 157 21 = Int32.ofNat e) (hq : MQb r) (h6 : c 97 6 = Int32.ofNat (9 + 7 * e)) (h7 : c 97 7 = Int32.ofNat 93) : ∃ c', l79_3 N h b N 6 c = some (0, c') ∧ MF c c' ∧ ∀ a, 6 ≤ a → a < 39 → TBx N h b e c a 0 (c' 106 a) := by
  obtain ⟨c', e1, e0, e2, e3⟩ := lp_up (L := l79_3 N h b) (hi := 39) (out := fun a => (0, a)) (P := fun j a' => 6 ≤ j ∧ MF c a' ∧ ∀ a, 6 ≤ a → a < j → TBx N h b e c a 0 (a' 106 a))
    (fun n j b1 h1 h2 => by
      obtain ⟨g0, g1, g2⟩ := h1
      obtain ⟨x, c1, k1, k2, k3, k4⟩ := d_msr (N := N) (h := h) (b := b) (V := 0) (c := b1) hN he h2 g0 (Ea_M g1 he (hE j h2)) ht hq (by rw [g1.1 97 (by decide) (by decide) (by decide)]; exact h6) (by rw [g1.1 97 (by decide) (by decide) (by decide)]; exact h7)
      have k1' : f80_measured N h b (Int32.ofNat j) 0 b1 = some (x, c1) := k1
      rw [l79_3, if_neg (by rw [show (39 : Int32) = Int32.ofNat 39 from rfl, i_le (by decide) (by omega)]; omega), k1', b2_some, xg_pos (g_ix h2 (by omega)), i_cl (by omega), on_s]
      refine ⟨_, rfl, by omega, ⟨fun p q1 q2 q3 => by rw [xU_o q2, k3 p q1]; exact g1.1 p q1 q2 q3, fun i q1 q2 => by rw [xU_o (by decide), k4 i q1 q2]; exact g1.2 i q1 q2⟩, fun a q1 q2 => ?_⟩
      by_cases z : a = j
      · subst z
        rw [xU_e]
        exact TBx_M k2 g1 he
      · rw [xU_s z, k3 106 (by decide)]
        exact g2 a q1 (by omega))
    (fun n b1 h1 => by rw [l79_3, if_pos (by decide)])
    33 6 N c (by omega) (by omega) ⟨by omega, ⟨fun _ _ _ _ => rfl, fun _ _ _ => rfl⟩, fun a g1 g2 => absurd g1 (by omega)⟩
  exact ⟨c', e1, e2, e3⟩
theorem d_m38 (hN : 100000 ≤ N) (he : e < 12) (ha : 14 ≤ a) (ha2 : a ≤ 19) (hE : Ea e a c r) (ht : r 157 21 = Int32.ofNat e) (hq : MQb r) (h6 : c 97 6 = Int32.ofNat (9 + 7 * e)) (h7 : c 97 7 = Int32.ofNat 93) : ∃ c', l79_38 N h b (Int32.ofNat a) N 0 c = some (0, c') ∧ MF c c' ∧ c' 106 = c 106 ∧ (∀ p, p ≠ 108 + (a - 14) → 108 ≤ p → p ≤ 113 → c' p = c p) ∧ ∀ v, v < 80 → TBx N h b e c a v (c' (108 + (a - 14)) v) := by
  have hl : xl h b (108 + (a - 14)) = 80 := by
    have : a = 14 ∨ a = 15 ∨ a = 16 ∨ a = 17 ∨ a = 18 ∨ a = 19 := by omega
    rcases this with q | q | q | q | q | q <;> subst q <;> rfl
  have em : Int32.ofNat a - 14 = Int32.ofNat (a - 14) := by rw [show (14 : Int32) = Int32.ofNat 14 from rfl, ← Int32.ofNat_sub _ _ ha]
  obtain ⟨c', e1, e2, e4, e5, e3⟩ := lp_up (L := l79_38 N h b (Int32.ofNat a)) (hi := 80) (out := fun a => (0, a)) (P := fun j a' => MF c a' ∧ a' 106 = c 106 ∧ (∀ p, p ≠ 108 + (a - 14) → 108 ≤ p → p ≤ 113 → a' p = c p) ∧ ∀ v, v < j → TBx N h b e c a v (a' (108 + (a - 14)) v))
    (fun n j b1 h1 h2 => by
      obtain ⟨g1, g3, g4, g2⟩ := h1
      obtain ⟨x, c1, k1, k2, k3, k4⟩ := d_msr (N := N) (h := h) (b := b) (V := j) (c := b1) hN he (show a < 39 by omega) (by omega) (Ea_M g1 he hE) ht hq (by rw [g1.1 97 (by decide) (by decide) (by decide)]; exact h6) (by rw [g1.1 97 (by decide) (by decide) (by decide)]; exact h7)
      rw [l79_38, if_neg (by rw [show (80 : Int32) = Int32.ofNat 80 from rfl, i_le (by decide) (by omega)]; omega), em, xg_pos (g_ix (show a - 14 < 6 by omega) (by omega)), k1, b2_some, i_cl (show a - 14 < 2 ^ 31 by omega), hl, xg_pos (g_ix h2 (by omega)), i_cl (show j < 2 ^ 31 by omega), on_s]
      refine ⟨_, rfl, ⟨fun p q1 q2 q3 => by rw [xU_o (by omega), k3 p q1]; exact g1.1 p q1 q2 q3, fun i q1 q2 => by rw [xU_o (by omega), k4 i q1 q2]; exact g1.2 i q1 q2⟩, by rw [xU_o (by omega), k3 106 (by decide)]; exact g3, fun p q1 q2 q3 => by rw [xU_o q1, k3 p (by omega)]; exact g4 p q1 q2 q3, fun v q2 => ?_⟩
      by_cases z : v = j
      · subst z
        rw [xU_e]
        exact TBx_M k2 g1 he
      · rw [xU_s z, k3 _ (by omega)]
        exact g2 v (by omega))
    (fun n b1 h1 => by rw [l79_38, if_pos (by decide)])
    80 0 N c (by omega) (by omega) ⟨⟨fun _ _ _ _ => rfl, fun _ _ _ => rfl⟩, rfl, fun _ _ _ _ => rfl, fun a g1 => absurd g1 (by omega)⟩
  exact ⟨c', e1, e2, e4, e5, e3⟩
theorem MF_t (H : MF c c') (G : MF c' c'') : MF c c'' := ⟨fun p h1 h2 h3 => by rw [G.1 p h1 h2 h3, H.1 p h1 h2 h3], fun i h1 h2 => by rw [G.2 i h1 h2, H.2 i h1 h2]⟩
theorem d_m30 (hN : 100000 ≤ N) (he : e < 12) (hE : ∀ a, a < 39 → Ea e a c r) (ht : r 157 21 = Int32.ofNat e) (hq : MQb r) (h6 : c 97 6 = Int32.ofNat (9 + 7 * e)) (h7 : c 97 7 = Int32.ofNat 93) : ∃ c', l79_30 N h b N 14 c = some (0, c') ∧ MF c c' ∧ c' 106 = c 106 ∧ ∀ a v, 14 ≤ a → a ≤ 19 → v < 80 → TBx N h b e c a v (c' (108 + (a - 14)) v) := by
  obtain ⟨c', e1, e0, e2, e3, e4⟩ := lp_up (L := l79_30 N h b) (hi := 20) (out := fun a => (0, a)) (P := fun j a' => 14 ≤ j ∧ MF c a' ∧ a' 106 = c 106 ∧ ∀ a v, 14 ≤ a → a < j → v < 80 → TBx N h b e c a v (a' (108 + (a - 14)) v))
    (fun n j b1 h1 h2 => by
      obtain ⟨g0, g1, g2, g3⟩ := h1
      obtain ⟨c1, k1, k2, k3, k4, k5⟩ := d_m38 (N := N) (h := h) (b := b) (c := b1) hN he g0 (show j ≤ 19 by omega) (Ea_M g1 he (hE j (by omega))) ht hq (by rw [g1.1 97 (by decide) (by decide) (by decide)]; exact h6) (by rw [g1.1 97 (by decide) (by decide) (by decide)]; exact h7)
      rw [l79_30, if_neg (by rw [show (19 : Int32) = Int32.ofNat 19 from rfl, i_lt (by decide) (by omega)]; omega), k1, Option.bind_some, on_s]
      refine ⟨c1, rfl, by omega, MF_t g1 k2, by rw [k3]; exact g2, fun a v q1 q2 q3 => ?_⟩
      by_cases z : a = j
      · subst z
        exact TBx_M (k5 v q3) g1 he
      · rw [k4 _ (by omega) (by omega) (by omega)]
        exact g3 a v q1 (by omega) q3)
    (fun n b1 h1 => by rw [l79_30, if_pos (by decide)])
    6 14 N c (by omega) (by omega) ⟨by omega, ⟨fun _ _ _ _ => rfl, fun _ _ _ => rfl⟩, rfl, fun a v g1 g2 => absurd g1 (by omega)⟩
  exact ⟨c', e1, e2, e3, fun a v q1 q2 q3 => e4 a v q1 (by omega) q3⟩
theorem d_meas (hN : 100000 ≤ N) (he : e < 12) (hE : ∀ a, a < 39 → Ea e a c r) (ht : r 157 21 = Int32.ofNat e) (hq : MQb r) (h6 : c 97 6 = Int32.ofNat (9 + 7 * e)) (h7 : c 97 7 = Int32.ofNat 93) : ∃ c', f79_measureStrings N h b c = some c' ∧ MF c c' ∧ (∀ a, 6 ≤ a → a < 39 → TBx N h b e c' a 0 (c' 106 a)) ∧ (∀ a v, 14 ≤ a → a ≤ 19 → v < 80 → TBx N h b e c' a v (c' (108 + (a - 14)) v)) := by
  obtain ⟨c1, k1, k2, k3⟩ := d_m3 (N := N) (h := h) (b := b) hN he hE ht hq h6 h7
  obtain ⟨c2, g1, g2, g3, g4⟩ := d_m30 (N := N) (h := h) (b := b) (c := c1) hN he (fun a ha => Ea_M k2 he (hE a ha)) ht hq (by rw [k2.1 97 (by decide) (by decide) (by decide)]; exact h6) (by rw [k2.1 97 (by decide) (by decide) (by decide)]; exact h7)
  have hM := MF_t k2 g2
  unfold f79_measureStrings
  rw [k1, Option.bind_some, g1, Option.bind_some]
  have h9 : ∀ p, 9 + 7 * e ≤ p → p ≤ 9 + 7 * e + 6 → c2 p = c p := fun p q1 q2 => hM.1 p (by omega) (by omega) (by omega)
  exact ⟨c2, rfl, hM, fun a q1 q2 => TBx_of (by rw [g3]; exact k3 a q1 q2) h9, fun a v q1 q2 q3 => TBx_of (TBx_M (g4 a v q1 q2 q3) k2 he) h9⟩
end T
