/-! update: a cell is painted, and behind it. -/
section T
variable {N h b : Nat} {c0 r0 c r c' r' c'' r'' : xA} {x y z s v w w1 w2 w4 w5 w6 w7 x' y' : Int32} {len p i f k m q a e K n n' row d th k0 A B t Ln Co V H o j W L a0 a1 m' y0 y1 x0 x1 S Y X R C kk D E : Nat}
theorem xU_id {a : xA} (hv : a p i = v) : xU a p i v = a := by
  funext p' i'
  rw [xU_eq]
  split
  · next g => rw [g.1, g.2]; exact hv.symm
  · rfl
theorem d_pc (hN : 100000 ≤ N) (H : UV N h b e Ln Co c r) (hk : Kn Ln Co R V c r) (hu : Uc (W + 1) c r) : ∃ c' r', f155_paintCell N h b (Int32.ofNat (R * Co + V)) c = some c' ∧ (xb1 (f334_typeByte N h b (c 104 (R * Co + V) &&& 255) r) (fun a67 => xw (xU a67 183 (80 * R + V) (c 104 (R * Co + V))) (fun a68 => f351_behind N h b (Int32.ofNat R) (Int32.ofNat V) a68))) = some r' ∧ UV N h b e Ln Co c' r' ∧ UX 1 c r c' r' := by
  have l24 := H.1.1.2.2.1
  have hco := H.1.1.2.2.2.2.1
  have hl2 := H.1.1.2.1
  have hc4 := H.1.1.2.2.2.1
  have hR := hk.2.1
  have hV := hk.2.2.1
  have hHB := hb_ub l24 hco
  have hi : R * Co + V < 1920 := by
    have : (R + 1) * Co ≤ Ln * Co := Nat.mul_le_mul_right Co hR
    rw [Nat.add_mul] at this
    omega
  obtain ⟨c1, r1, g1, g2, g3⟩ := d_tb (N := N) (h := h) (b := b) (W := W) (x := c 104 (R * Co + V) &&& 255) (y := c 104 (R * Co + V) &&& 255) hu (byx _).symm
  have hX : XF 1 c r c1 r1 := ⟨⟨fun p q1 q2 => g3.1.1 p (by omega) q2, g3.1.2.1, fun i _ _ => by rw [g3.1.1 93 (by decide) (by decide)], fun p q1 _ _ q2 => g3.1.2.2.1 p q1 q2, fun i _ _ q => g3.1.2.2.2 i q⟩, g3.2⟩
  have H1 := UV_X H hX (fun i => by rw [g3.1.2.2.1 168 (by decide) (by decide)]; exact H.2.2 i)
  have e104 : c1 104 (R * Co + V) = c 104 (R * Co + V) := by rw [g3.1.1 104 (by decide) (by decide)]
  obtain ⟨H2, X2⟩ := UV_k (x := c 104 (R * Co + V)) H1 hR hV
  have hk1 := Kn_X hk hX
  unfold f155_paintCell
  rw [xg_pos (g_ix hi (by omega)), i_cl (by omega), g1, b1_some, g2, b1_some]
  dsimp only [xw]
  rw [e104]
  generalize hA : xU c1 101 (R * Co + V) (c 104 (R * Co + V)) = A at H2 X2 ⊢
  generalize hB : xU r1 183 (80 * R + V) (c 104 (R * Co + V)) = B at H2 X2 ⊢
  have hk2 : Kn Ln Co R V A B := by
    obtain ⟨a1, a2, a3, a4, a5, a6, a7⟩ := hk1
    rw [← hA, ← hB]
    exact ⟨by rw [xU_o (by decide)]; exact a1, a2, a3, by rw [xU_o (by decide)]; exact a4, by rw [xU_o (by decide)]; exact a5, by rw [xU_o (by decide)]; exact a6, by rw [xU_o (by decide)]; exact a7⟩
  have X3 := UX_t (UX_X hX) X2
  obtain ⟨⟨hz, hE, hT, hAi, h9⟩, hku, hq⟩ := id H2
  obtain ⟨z1, z2, z3, z4, z5, z6, z7, z8, z9, z10, z11, z12, z13⟩ := hz
  obtain ⟨p1, _⟩ := pl (h := h) (b := b) z1
  have eC : A 97 9 - 1 = Int32.ofNat (Co - 1) := by rw [z12, show (1 : Int32) = Int32.ofNat 1 from rfl, ← Int32.ofNat_sub _ _ (by omega)]
  have eC' : B 157 26 - 1 = Int32.ofNat (Co - 1) := by rw [z13, show (1 : Int32) = Int32.ofNat 1 from rfl, ← Int32.ofNat_sub _ _ (by omega)]
  have eL : A 97 8 - 1 = Int32.ofNat (Ln - 1) := by rw [z10, show (1 : Int32) = Int32.ofNat 1 from rfl, ← Int32.ofNat_sub _ _ (by omega)]
  have eL' : B 157 27 - 1 = Int32.ofNat (Ln - 1) := by rw [z11, show (1 : Int32) = Int32.ofNat 1 from rfl, ← Int32.ofNat_sub _ _ (by omega)]
  unfold f351_behind
  rw [eC, eC', hk2.2.2.2.2.2.1]
  by_cases q : Co - 1 ≤ V
  · have q' : Int32.ofNat (Co - 1) ≤ Int32.ofNat V := by rw [i_le (by omega) (by omega)]; exact q
    have c0' : f74_has N h b (9 + 7 * e) 0 A = some (A (9 + 7 * e + 3) 0, A) := e_hs z1 (show 0 < 39 by decide) (hE 0 (by decide))
    have r0' : f297_has N h b 0 B = some (A (9 + 7 * e + 3) 0, B) := e_hs' z1 (show 0 < 39 by decide) (hE 0 (by decide)) z7
    have c1' : f74_has N h b (9 + 7 * e) 1 A = some (A (9 + 7 * e + 3) 1, A) := e_hs z1 (show 1 < 39 by decide) (hE 1 (by decide))
    have r1' : f297_has N h b 1 B = some (A (9 + 7 * e + 3) 1, B) := e_hs' z1 (show 1 < 39 by decide) (hE 1 (by decide)) z7
    obtain ⟨N1, N2⟩ := UV_n H2
    rw [if_pos q', if_pos q', z8, xg_pos (ofn_ne (by omega)), i_cl (show 9 + 7 * e < 2 ^ 31 by omega), xg_pos p1, c0', b2_some, r0', b2_some]
    by_cases s0 : A (9 + 7 * e + 3) 0 = 0
    · rw [if_pos s0, if_pos s0]
      exact ⟨A, B, rfl, rfl, H2, UX_m X3 (by omega)⟩
    · rw [if_neg s0, if_neg s0, z8, xg_pos (ofn_ne (by omega)), i_cl (show 9 + 7 * e < 2 ^ 31 by omega), xg_pos p1, c1', b2_some, r1', b2_some]
      by_cases s1 : A (9 + 7 * e + 3) 1 = 0
      · rw [if_pos s1, if_pos s1, eL, eL', hk2.2.2.2.1]
        by_cases s2 : R < Ln - 1
        · obtain ⟨M1, M2⟩ := UV_c (R := R + 1) (C := 0) H2 (by omega) (by omega)
          have i1 : xU (xU (xU A 100 6 (Int32.ofNat (R + 1))) 100 7 (Int32.ofNat 0)) 97 14 1 = xU (xU A 100 6 (Int32.ofNat (R + 1))) 100 7 (Int32.ofNat 0) := xU_id (by rw [xU_o (by decide), xU_o (by decide)]; exact hk2.1)
          rw [i1] at M1 M2
          rw [if_pos (show Int32.ofNat R < Int32.ofNat (Ln - 1) by rw [i_lt (by omega) (by omega)]; exact s2), if_neg (show ¬ Int32.ofNat R = Int32.ofNat (Ln - 1) by rw [i_eq (by omega) (by omega)]; omega), if_pos (show (0 : Int32) = 0 from rfl), if_pos (show (0 : Int32) = 0 from rfl), on_s]
          exact ⟨_, _, rfl, rfl, M1, UX_m (UX_t X3 M2) (by omega)⟩
        · unfold j155_99
          rw [if_neg (show ¬ Int32.ofNat R < Int32.ofNat (Ln - 1) by rw [i_lt (by omega) (by omega)]; exact s2), if_pos (show Int32.ofNat R = Int32.ofNat (Ln - 1) by rw [i_eq (by omega) (by omega)]; omega), if_neg (show ¬ (1 : Int32) = 0 by decide), if_neg (show ¬ (1 : Int32) = 0 by decide)]
          exact ⟨_, _, rfl, rfl, N1, UX_m (UX_t X3 N2) (by omega)⟩
      · unfold j155_99 j351_46 j351_51
        rw [if_neg s1, if_neg s1, if_neg (show ¬ (1 : Int32) = 0 by decide), if_neg (show ¬ (1 : Int32) = 0 by decide)]
        exact ⟨_, _, rfl, rfl, N1, UX_m (UX_t X3 N2) (by omega)⟩
  · have q' : ¬ Int32.ofNat (Co - 1) ≤ Int32.ofNat V := by rw [i_le (by omega) (by omega)]; exact q
    obtain ⟨M1, M2⟩ := UV_c (R := R) (C := V + 1) H2 hR (by omega)
    have i0 : xU A 100 6 (Int32.ofNat R) = A := xU_id hk2.2.2.2.1
    have i1 : xU (xU (xU A 100 6 (Int32.ofNat R)) 100 7 (Int32.ofNat (V + 1))) 97 14 1 = xU A 100 7 (Int32.ofNat (V + 1)) := by
      rw [i0]
      exact xU_id (by rw [xU_o (by decide)]; exact hk2.1)
    have i2 : xU B 157 51 (Int32.ofNat R) = B := xU_id hk2.2.2.2.2.1
    rw [i1, i2] at M1 M2
    rw [if_neg q', if_neg q', on_s]
    exact ⟨_, _, rfl, rfl, M1, UX_m (UX_t X3 M2) (by omega)⟩
end T
