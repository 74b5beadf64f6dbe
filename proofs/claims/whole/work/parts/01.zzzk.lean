/-! update: what may be painted, what is unlike. -/
def pt (e Ln Co R : Nat) (c : xA) : Nat := if R = Ln - 1 ∧ ¬ c (9 + 7 * e + 3) 0 = 0 ∧ c (9 + 7 * e + 3) 1 = 0 then Co - 1 else Co
section T
variable {N h b : Nat} {c0 r0 c r c' r' c'' r'' : xA} {x y z s v w w1 w2 w4 w5 w6 w7 x' y' : Int32} {len p i f k m q a e K n n' row d th k0 A B t Ln Co V H o j W L a0 a1 m' y0 y1 x0 x1 S Y X R C kk D E : Nat}
theorem e_pt (H : UV N h b e Ln Co c r) (hR : R < Ln) : f136_paintable N h b (Int32.ofNat R) c = some (Int32.ofNat (pt e Ln Co R c), c) := by
  obtain ⟨⟨hz, hE, hT, hAi, h9⟩, hku, hq⟩ := id H
  obtain ⟨z1, z2, z3, z4, z5, z6, z7, z8, z9, z10, z11, z12, z13⟩ := hz
  obtain ⟨p1, _⟩ := pl (h := h) (b := b) z1
  have eC : c 97 9 - 1 = Int32.ofNat (Co - 1) := by rw [z12, show (1 : Int32) = Int32.ofNat 1 from rfl, ← Int32.ofNat_sub _ _ (by omega)]
  have eL : c 97 8 - 1 = Int32.ofNat (Ln - 1) := by rw [z10, show (1 : Int32) = Int32.ofNat 1 from rfl, ← Int32.ofNat_sub _ _ (by omega)]
  have c0' : f74_has N h b (9 + 7 * e) 0 c = some (c (9 + 7 * e + 3) 0, c) := e_hs z1 (show 0 < 39 by decide) (hE 0 (by decide))
  have c1' : f74_has N h b (9 + 7 * e) 1 c = some (c (9 + 7 * e + 3) 1, c) := e_hs z1 (show 1 < 39 by decide) (hE 1 (by decide))
  unfold f136_paintable j136_36 j136_37 pt
  rw [eL]
  by_cases s0 : R = Ln - 1
  · rw [if_pos (show Int32.ofNat R = Int32.ofNat (Ln - 1) by rw [s0]), z8, xg_pos (ofn_ne (by omega)), i_cl (show 9 + 7 * e < 2 ^ 31 by omega), xg_pos p1, c0', b2_some]
    by_cases s1 : c (9 + 7 * e + 3) 0 = 0
    · rw [if_pos s1, if_pos (show (0 : Int32) = 0 from rfl), z12, if_neg (show ¬ (R = Ln - 1 ∧ ¬ c (9 + 7 * e + 3) 0 = 0 ∧ c (9 + 7 * e + 3) 1 = 0) from fun g => g.2.1 s1)]
    · rw [if_neg s1, z8, xg_pos (ofn_ne (by omega)), i_cl (show 9 + 7 * e < 2 ^ 31 by omega), xg_pos p1, c1', b2_some, eC, z12]
      by_cases s2 : c (9 + 7 * e + 3) 1 = 0
      · rw [if_pos s2, if_neg (show ¬ (1 : Int32) = 0 by decide), if_pos ⟨s0, s1, s2⟩]
      · rw [if_neg s2, if_pos (show (0 : Int32) = 0 from rfl), if_neg (show ¬ (R = Ln - 1 ∧ ¬ c (9 + 7 * e + 3) 0 = 0 ∧ c (9 + 7 * e + 3) 1 = 0) from fun g => s2 g.2.2)]
  · rw [if_neg (show ¬ Int32.ofNat R = Int32.ofNat (Ln - 1) by rw [i_eq (by omega) (by omega)]; exact s0), if_pos (show (0 : Int32) = 0 from rfl), z12, if_neg (show ¬ (R = Ln - 1 ∧ ¬ c (9 + 7 * e + 3) 0 = 0 ∧ c (9 + 7 * e + 3) 1 = 0) from fun g => s0 g.1)]
theorem e_unl (H : UV N h b e Ln Co c r) (hR : R < Ln) (hV : V < Co) : f338_unlike N h b (Int32.ofNat R) (Int32.ofNat V) x r = some (zb (V < pt e Ln Co R c ∧ ¬ c 104 (R * Co + V) = x), r) := by
  obtain ⟨⟨hz, hE, hT, hAi, h9⟩, hku, hq⟩ := id H
  obtain ⟨z1, z2, z3, z4, z5, z6, z7, z8, z9, z10, z11, z12, z13⟩ := hz
  have eC : r 157 26 - 1 = Int32.ofNat (Co - 1) := by rw [z13, show (1 : Int32) = Int32.ofNat 1 from rfl, ← Int32.ofNat_sub _ _ (by omega)]
  have eL : r 157 27 - 1 = Int32.ofNat (Ln - 1) := by rw [z11, show (1 : Int32) = Int32.ofNat 1 from rfl, ← Int32.ofNat_sub _ _ (by omega)]
  have r0' : f297_has N h b 0 r = some (c (9 + 7 * e + 3) 0, r) := e_hs' z1 (show 0 < 39 by decide) (hE 0 (by decide)) z7
  have r1' : f297_has N h b 1 r = some (c (9 + 7 * e + 3) 1, r) := e_hs' z1 (show 1 < 39 by decide) (hE 1 (by decide)) z7
  have ej : (80 : Int32) * Int32.ofNat R + Int32.ofNat V = Int32.ofNat (80 * R + V) := by rw [Int32.ofNat_add, Int32.ofNat_mul]; rfl
  have off : f339_offeredOf N h b (r 170 (80 * R + V)) r = some (c 104 (R * Co + V), r) := by
    unfold f339_offeredOf
    rw [hAi R V hR hV]
  have tail : V < pt e Ln Co R c → j338_40 N h b (Int32.ofNat R) (Int32.ofNat V) x r = some (zb (V < pt e Ln Co R c ∧ ¬ c 104 (R * Co + V) = x), r) := by
    intro hp
    unfold j338_40 j338_41
    rw [if_pos (show (0 : Int32) = 0 from rfl), ej, xg_pos (g_ix (by omega) (by omega)), i_cl (by omega), off, b2_some]
    by_cases q : c 104 (R * Co + V) = x
    · rw [if_pos q, xg_pos (Or.inl rfl), zb_f (fun g => g.2 q)]
    · rw [if_neg q, xg_pos (Or.inr rfl), zb_t ⟨hp, q⟩]
  unfold f338_unlike
  rw [eL, eC]
  by_cases s0 : R = Ln - 1
  · rw [if_pos (show Int32.ofNat R = Int32.ofNat (Ln - 1) by rw [s0])]
    by_cases sv : V = Co - 1
    · rw [if_pos (show Int32.ofNat V = Int32.ofNat (Co - 1) by rw [sv]), r0', b2_some]
      by_cases s1 : c (9 + 7 * e + 3) 0 = 0
      · rw [if_pos s1]
        exact tail (by unfold pt; rw [if_neg (fun g => g.2.1 s1)]; exact hV)
      · rw [if_neg s1, r1', b2_some]
        by_cases s2 : c (9 + 7 * e + 3) 1 = 0
        · rw [if_pos s2, if_neg (show ¬ (1 : Int32) = 0 by decide), zb_f (fun g => by
            have := g.1
            unfold pt at this
            rw [if_pos ⟨s0, s1, s2⟩] at this
            omega)]
        · have hp : V < pt e Ln Co R c := by unfold pt; rw [if_neg (fun g => s2 g.2.2)]; exact hV
          rw [if_neg s2, if_pos (show (0 : Int32) = 0 from rfl), ej, xg_pos (g_ix (by omega) (by omega)), i_cl (by omega), off, b2_some]
          by_cases q : c 104 (R * Co + V) = x
          · rw [if_pos q, xg_pos (Or.inl rfl), zb_f (fun g => g.2 q)]
          · rw [if_neg q, xg_pos (Or.inr rfl), zb_t ⟨hp, q⟩]
    · rw [if_neg (show ¬ Int32.ofNat V = Int32.ofNat (Co - 1) by rw [i_eq (by omega) (by omega)]; exact sv)]
      exact tail (by unfold pt; split <;> omega)
  · rw [if_neg (show ¬ Int32.ofNat R = Int32.ofNat (Ln - 1) by rw [i_eq (by omega) (by omega)]; exact s0)]
    exact tail (by unfold pt; rw [if_neg (fun g => s0 g.1)]; exact hV)
end T
