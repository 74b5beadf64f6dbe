/-! Strings: their tokens. -/
abbrev smp (k : Int32) : Prop := k = 33 ∨ k = 37 ∨ k = 38 ∨ k = 42 ∨ k = 43 ∨ k = 45 ∨ k = 47 ∨ k = 59 ∨ k = 60 ∨ k = 61 ∨ k = 62 ∨ k = 63 ∨ k = 65 ∨ k = 79 ∨ k = 94 ∨ k = 99 ∨ k = 100 ∨ k = 101 ∨ k = 105 ∨ k = 109 ∨ k = 116 ∨ k = 124 ∨ k = 126
/-- how many digits stand there, and what they say -/
def dc (G : Nat → Int32) : Nat → Nat → Nat
  | 0, _ => 0
  | f + 1, p => if 48 ≤ G p ∧ G p ≤ 57 then dc G f (p + 1) + 1 else 0
def vl (G : Nat → Int32) : Nat → Nat → Int32 → Int32
  | 0, _, v => v
  | k + 1, p, v => vl G k (p + 1) (10 * v + G p - 48)
/-- how many bytes a token has -/
def tl (G : Nat → Int32) (i : Nat) : Nat := if G i = 37 then (if smp (G (i + 1)) then 2 else (if G (i + 1) = 39 then (if G (i + 3) = 39 then 4 else 0) else (if G (i + 1) = 48 then (if (G (i + 2) = 50 ∨ G (i + 2) = 51) ∧ G (i + 3) = 100 then 4 else 0) else (if G (i + 1) = 50 ∨ G (i + 1) = 51 then (if G (i + 2) = 100 then 3 else 0) else (if G (i + 1) = 112 then (if 49 ≤ G (i + 2) ∧ G (i + 2) ≤ 52 then 3 else 0) else (if G (i + 1) = 123 then (if 1 ≤ dc G 6 (i + 2) ∧ dc G 6 (i + 2) ≤ 5 ∧ vl G (dc G 6 (i + 2)) (i + 2) 0 ≤ 32767 ∧ G (i + 2 + dc G 6 (i + 2)) = 125 then dc G 6 (i + 2) + 3 else 0) else 0)))))) else 1
/-- one string, seen on both sides -/
def Vw (h b P S row n : Nat) (c r : xA) (G : Nat → Int32) : Prop := (xk P = 100 ∧ S + n ≤ xl h b P ∧ xl h b P ≤ 1320 ∧ n ≤ 40 ∧ row < 468) ∧ r 166 row = Int32.ofNat n ∧ (∀ i, i < n → c P (S + i) = G i) ∧ (∀ i, i < n → r 165 (40 * row + i) &&& 255 = G i) ∧ (∀ i, n ≤ i → G i = -1)
section T
variable {N h b : Nat} {c r : xA} {x y z s v w : Int32} {G : Nat → Int32} {P S row n i f k m p : Nat}
theorem dc_le : ∀ (f p : Nat), dc G f p ≤ f
  | 0, _ => Nat.le_refl _
  | f + 1, p => by
    have := dc_le f (p + 1)
    unfold dc
    split <;> omega
theorem dc_d : ∀ (f p m : Nat), m < dc G f p → 48 ≤ G (p + m) ∧ G (p + m) ≤ 57
  | 0, _, m, hm => absurd hm (by unfold dc; omega)
  | f + 1, p, m, hm => by
    unfold dc at hm
    by_cases z : 48 ≤ G p ∧ G p ≤ 57
    · rw [if_pos z] at hm
      cases m with
      | zero => exact z
      | succ m =>
        have := dc_d f (p + 1) m (by omega)
        rw [show p + (m + 1) = p + 1 + m by omega]
        exact this
    · rw [if_neg z] at hm; omega
theorem dc_n : ∀ (f p : Nat), dc G f p < f → ¬ (48 ≤ G (p + dc G f p) ∧ G (p + dc G f p) ≤ 57)
  | 0, _, h1 => absurd h1 (by omega)
  | f + 1, p, h1 => by
    unfold dc at h1 ⊢
    by_cases z : 48 ≤ G p ∧ G p ≤ 57
    · rw [if_pos z] at h1 ⊢
      have := dc_n f (p + 1) (by omega)
      rw [show p + (dc G f (p + 1) + 1) = p + 1 + dc G f (p + 1) by omega]
      exact this
    · rw [if_neg z]; exact z
theorem dc_s : ∀ (f p : Nat), (dc G (f + 1) p ≤ f → dc G f p = dc G (f + 1) p) ∧ (¬ dc G (f + 1) p ≤ f → dc G f p = f ∧ 48 ≤ G (p + f) ∧ G (p + f) ≤ 57)
  | 0, p => by
    have e0 : dc G 0 p = 0 := rfl
    refine ⟨fun h1 => by omega, fun h1 => ⟨e0, ?_⟩⟩
    exact dc_d (0 + 1) p 0 (by omega)
  | f + 1, p => by
    have ih := dc_s f (p + 1)
    by_cases z : 48 ≤ G p ∧ G p ≤ 57
    · have e1 : dc G (f + 1 + 1) p = dc G (f + 1) (p + 1) + 1 := if_pos z
      have e2 : dc G (f + 1) p = dc G f (p + 1) + 1 := if_pos z
      rw [e1, e2]
      refine ⟨fun h1 => by rw [ih.1 (by omega)], fun h1 => ?_⟩
      obtain ⟨k1, k2⟩ := ih.2 (by omega)
      rw [show p + (f + 1) = p + 1 + f by omega]
      exact ⟨by omega, k2⟩
    · have e1 : dc G (f + 1 + 1) p = 0 := if_neg z
      have e2 : dc G (f + 1) p = 0 := if_neg z
      rw [e1, e2]
      exact ⟨fun _ => rfl, fun h1 => absurd h1 (by omega)⟩
theorem Vw_by (H : Vw h b P S row n c r G) (hi : i < n) : 0 ≤ G i ∧ G i ≤ 255 := by
  rw [← H.2.2.2.1 i hi]
  exact by_le (byx _)
theorem Vw_m (H : Vw h b P S row n c r G) (hi : ¬ G i = -1) : i < n := by
  by_cases q : i < n
  · exact q
  · exact absurd (H.2.2.2.2 i (by omega)) hi
theorem e_byte (H : Vw h b P S row n c r G) (hi : i < 10000) : f288_byteOf N h b (Int32.ofNat row) (Int32.ofNat i) r = some (G i, r) := by
  obtain ⟨⟨a1, a2, a3, a4, a5⟩, a6, a7, a8, a9⟩ := H
  unfold f288_byteOf
  rw [if_neg (by rw [i_neg (by omega)]; exact id), xg_pos (g_ix a5 (by omega)), i_cl (by omega), a6]
  by_cases q : i < n
  · rw [if_neg (by rw [i_le (by omega) (by omega)]; omega)]
    have e : (40 : Int32) * Int32.ofNat row + Int32.ofNat i = Int32.ofNat (40 * row + i) := by rw [Int32.ofNat_add, Int32.ofNat_mul]; rfl
    rw [e, xg_pos (g_ix (by omega) (by omega)), i_cl (by omega), a8 i q]
  · rw [if_pos (by rw [i_le (by omega) (by omega)]; omega), a9 i (by omega)]
theorem o2 : Int32.ofNat i + 2 = Int32.ofNat (i + 2) := by rw [Int32.ofNat_add]; rfl
theorem o3 : Int32.ofNat i + 3 = Int32.ofNat (i + 3) := by rw [Int32.ofNat_add]; rfl
theorem o4 : Int32.ofNat i + 4 = Int32.ofNat (i + 4) := by rw [Int32.ofNat_add]; rfl
theorem o5 : Int32.ofNat i + 5 = Int32.ofNat (i + 5) := by rw [Int32.ofNat_add]; rfl
theorem e_by1 (H : Vw h b P S row n c r G) (hi : i + 1 < 10000) : f288_byteOf N h b (Int32.ofNat row) (Int32.ofNat i + 1) r = some (G (i + 1), r) := by
  rw [on_s]; exact e_byte H hi
theorem e_by2 (H : Vw h b P S row n c r G) (hi : i + 2 < 10000) : f288_byteOf N h b (Int32.ofNat row) (Int32.ofNat i + 2) r = some (G (i + 2), r) := by
  rw [o2]; exact e_byte H hi
theorem e_by3 (H : Vw h b P S row n c r G) (hi : i + 3 < 10000) : f288_byteOf N h b (Int32.ofNat row) (Int32.ofNat i + 3) r = some (G (i + 3), r) := by
  rw [o3]; exact e_byte H hi
theorem e_dg' {a : xA} : f274_isDigit N h b x a = some (zb (48 ≤ x ∧ x ≤ 57), a) := by
  unfold f274_isDigit xg zb
  grind
theorem e_il (H : Vw h b P S row n c r G) (hi : i < 100) : ∀ (k m f : Nat) (v : Int32), m + k = 6 → k < f → l287_479 N h b (Int32.ofNat row) (Int32.ofNat i) f (Int32.ofNat m) v r = some (0, Int32.ofNat (m + dc G k (i + 2 + m)), vl G (dc G k (i + 2 + m)) (i + 2 + m) v, r)
  | 0, m, f, v, h1, h2 => by
    obtain ⟨f, rfl⟩ : ∃ f', f = f' + 1 := ⟨f - 1, by omega⟩
    have : m = 6 := by omega
    subst this
    rw [l287_479, if_pos (by decide)]
    rfl
  | k + 1, m, f, v, h1, h2 => by
    obtain ⟨f, rfl⟩ : ∃ f', f = f' + 1 := ⟨f - 1, by omega⟩
    rw [l287_479, if_neg (by rw [show (6 : Int32) = Int32.ofNat 6 from rfl, i_le (by decide) (by omega)]; omega), o2, ← Int32.ofNat_add, e_byte H (by omega), b2_some, e_dg', b2_some]
    by_cases z : 48 ≤ G (i + 2 + m) ∧ G (i + 2 + m) ≤ 57
    · rw [if_neg (by rw [zb_t z]; decide), e_byte H (by omega), b2_some, on_s, e_il H hi k (m + 1) f _ (by omega) (by omega)]
      have e1 : dc G (k + 1) (i + 2 + m) = dc G k (i + 2 + m + 1) + 1 := if_pos z
      rw [e1]
      show some (0, Int32.ofNat (m + 1 + dc G k (i + 2 + (m + 1))), _, r) = some (0, Int32.ofNat (m + (dc G k (i + 2 + m + 1) + 1)), vl G (dc G k (i + 2 + m + 1)) (i + 2 + m + 1) _, r)
      rw [show i + 2 + (m + 1) = i + 2 + m + 1 by omega, show m + 1 + dc G k (i + 2 + m + 1) = m + (dc G k (i + 2 + m + 1) + 1) by omega]
    · rw [if_pos (zb_f z)]
      have e1 : dc G (k + 1) (i + 2 + m) = 0 := if_neg z
      rw [e1]
      rfl
theorem e_it (H : Vw h b P S row n c r G) (hi : i < 100) (hN : 100000 ≤ N) : f287_item N h b (Int32.ofNat row) (Int32.ofNat i) r = some (Int32.ofNat (tl G i), r) := by
  unfold f287_item tl j287_619
  rw [e_byte H (by omega), b2_some]
  by_cases z : G i = 37
  · rw [if_pos z, if_pos z, e_by1 H (by omega), b2_some]
    by_cases z1 : smp (G (i + 1))
    · rw [if_pos z1, if_pos z1]; rfl
    rw [if_neg z1, if_neg z1]
    by_cases z2 : G (i + 1) = 39
    · rw [if_pos z2, if_pos z2, e_by2 H (by omega), b2_some]
      by_cases y1 : G (i + 2) = -1
      · rw [if_pos y1, if_neg]
        · rfl
        · intro e
          have l := Vw_m (i := i + 3) H (by rw [e]; decide)
          have l2 := Vw_by (i := i + 2) H (by omega)
          rw [y1] at l2
          exact absurd l2.1 (by decide)
      · rw [if_neg y1, e_by3 H (by omega), b2_some]
        split <;> rfl
    rw [if_neg z2, if_neg z2]
    by_cases z3 : G (i + 1) = 48
    · rw [if_pos z3, if_pos z3, e_by2 H (by omega), b2_some, e_by3 H (by omega), b2_some]
      by_cases y1 : G (i + 2) = 50
      · rw [if_pos y1]
        by_cases y2 : G (i + 3) = 100
        · rw [if_pos y2, if_pos ⟨Or.inl y1, y2⟩]; rfl
        · rw [if_neg y2, if_neg (fun q => y2 q.2)]; rfl
      · rw [if_neg y1]
        by_cases y3 : G (i + 2) = 51
        · rw [if_pos y3]
          by_cases y2 : G (i + 3) = 100
          · rw [if_pos y2, if_pos ⟨Or.inr y3, y2⟩]; rfl
          · rw [if_neg y2, if_neg (fun q => y2 q.2)]; rfl
        · rw [if_neg y3, if_neg (fun q => q.1.elim y1 y3)]; rfl
    rw [if_neg z3, if_neg z3]
    by_cases z4 : G (i + 1) = 50 ∨ G (i + 1) = 51
    · rw [if_pos z4, if_pos z4, e_by2 H (by omega), b2_some]
      split <;> rfl
    rw [if_neg z4, if_neg z4]
    by_cases z5 : G (i + 1) = 112
    · rw [if_pos z5, if_pos z5, e_by2 H (by omega), b2_some]
      by_cases y1 : G (i + 2) < 49
      · rw [if_pos y1, if_neg (by grind)]; rfl
      · rw [if_neg y1]
        by_cases y2 : 52 < G (i + 2)
        · rw [if_pos y2, if_neg (by grind)]; rfl
        · rw [if_neg y2, if_pos (by grind)]; rfl
    rw [if_neg z5, if_neg z5]
    by_cases z6 : G (i + 1) = 123
    · rw [if_pos z6, if_pos z6]
      have el := e_il (N := N) H hi 6 0 N 0 (by omega) (by omega)
      rw [show (0 : Int32) = Int32.ofNat 0 from rfl] at el ⊢
      rw [el, Option.bind_some]
      have dl := dc_le (G := G) 6 (i + 2)
      dsimp only
      rw [show i + 2 + 0 = i + 2 by omega, Nat.zero_add]
      unfold j287_531
      generalize hd : dc G 6 (i + 2) = d at dl ⊢
      by_cases y1 : d = 0
      · rw [if_pos (by rw [y1]; decide), if_neg (by omega)]; rfl
      rw [if_neg (by rw [show (0 : Int32) = Int32.ofNat 0 from rfl, i_le (by omega) (by decide)]; omega)]
      by_cases y2 : 6 ≤ d
      · rw [if_pos (by rw [show (6 : Int32) = Int32.ofNat 6 from rfl, i_le (by decide) (by omega)]; exact y2), if_neg (by omega)]; rfl
      rw [if_neg (by rw [show (6 : Int32) = Int32.ofNat 6 from rfl, i_le (by decide) (by omega)]; exact y2)]
      by_cases y3 : 32767 < vl G d (i + 2) (Int32.ofNat 0)
      · rw [if_pos y3, if_neg (fun q => absurd q.2.2.1 (Int32.not_le.mpr y3))]; rfl
      rw [if_neg y3, o2, ← Int32.ofNat_add, e_byte H (by omega), b2_some]
      by_cases y4 : G (i + 2 + d) = 125
      · rw [if_pos y4, if_pos ⟨by omega, by omega, Int32.not_lt.mp y3, y4⟩, o3]
      · rw [if_neg y4, if_neg (fun q => y4 q.2.2.2)]; rfl
    rw [if_neg z6, if_neg z6]; rfl
  · rw [if_neg z, if_neg z]; rfl
end T
