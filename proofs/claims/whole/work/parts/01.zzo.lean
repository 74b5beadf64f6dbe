/-! use. -/
def US (e : Nat) (c : xA) : Prop := c (9 + 7 * e + 3) 3 = 1 ∧ (4 ≤ c (9 + 7 * e + 4) 3 ∧ c (9 + 7 * e + 4) 3 ≤ 80) ∧ c (9 + 7 * e + 3) 4 = 1 ∧ (2 ≤ c (9 + 7 * e + 4) 4 ∧ c (9 + 7 * e + 4) 4 ≤ 24) ∧ c (9 + 7 * e + 3) 7 = 1 ∧ c (9 + 7 * e + 3) 9 = 1
/-- what use leaves alone -/
def UF (c r c' r' : xA) : Prop := (∀ p, p ≠ 0 → ¬ (93 ≤ p ∧ p ≤ 101) → p ≠ 106 → ¬ (108 ≤ p ∧ p ≤ 113) → ¬ (141 ≤ p ∧ p ≤ 156) → c' p = c p) ∧ (∀ i, i ≠ 1 → i ≠ 14 → c' 0 i = c 0 i) ∧ (∀ i, i ≠ 1 → i ≠ 4 → c' 93 i = c 93 i) ∧ (∀ p, p ≠ 157 → ¬ (170 ≤ p ∧ p ≤ 172) → r' p = r p) ∧ (∀ i, i ≠ 0 → i ≠ 2 → i ≠ 21 → i ≠ 26 → i ≠ 27 → ¬ (30 ≤ i ∧ i ≤ 36) → r' 157 i = r 157 i)
section T
variable {N h b : Nat} {c0 r0 c r c' r' c'' r'' : xA} {x y z s v w w1 w2 : Int32} {len p i f k m q l a e K n row d th k0 A B t Ln Co V H o j : Nat}
theorem e_usb (he : e < 12) (hE : ∀ a, a < 39 → Ea e a c r) : f73_isUsable N h b (9 + 7 * e) c = some (zb (US e c), c) := by
  obtain ⟨p1, p2, p3, p4, p5, p6, p7, p8⟩ := pl (h := h) (b := b) he
  have h3 : f74_has N h b (9 + 7 * e) 3 c = some (c (9 + 7 * e + 3) 3, c) := e_hs he (show 3 < 39 by decide) (hE 3 (by decide))
  have h4 : f74_has N h b (9 + 7 * e) 4 c = some (c (9 + 7 * e + 3) 4, c) := e_hs he (show 4 < 39 by decide) (hE 4 (by decide))
  have h7 : f74_has N h b (9 + 7 * e) 7 c = some (c (9 + 7 * e + 3) 7, c) := e_hs he (show 7 < 39 by decide) (hE 7 (by decide))
  have h9 : f74_has N h b (9 + 7 * e) 9 c = some (c (9 + 7 * e + 3) 9, c) := e_hs he (show 9 < 39 by decide) (hE 9 (by decide))
  have g3 : ¬ ((3 : Int32) < 0 ∨ 6 ≤ (3 : Int32).toNatClampNeg) := by decide
  have g4 : ¬ ((4 : Int32) < 0 ∨ 6 ≤ (4 : Int32).toNatClampNeg) := by decide
  unfold f73_isUsable
  rw [xg_pos p1, h3, b2_some, p5, xg_pos g3, h4, b2_some, xg_pos g4, h7, b2_some, h9, b2_some, show (3 : Int32).toNatClampNeg = 3 from rfl, show (4 : Int32).toNatClampNeg = 4 from rfl]
  rcases (hE 3 (by decide)).1 with z | z
  · rw [if_pos z, zb_f (fun g => by rw [g.1] at z; exact absurd z (by decide))]
  rw [if_neg (show ¬ c (9 + 7 * e + 3) 3 = 0 by rw [z]; decide)]
  by_cases z1 : c (9 + 7 * e + 4) 3 < 4
  · rw [if_pos z1, zb_f (fun g => absurd g.2.1.1 (Int32.not_le.mpr z1))]
  rw [if_neg z1]
  by_cases z2 : 80 < c (9 + 7 * e + 4) 3
  · rw [if_pos z2, zb_f (fun g => absurd g.2.1.2 (Int32.not_le.mpr z2))]
  rw [if_neg z2]
  rcases (hE 4 (by decide)).1 with z3 | z3
  · rw [if_pos z3, zb_f (fun g => by rw [g.2.2.1] at z3; exact absurd z3 (by decide))]
  rw [if_neg (show ¬ c (9 + 7 * e + 3) 4 = 0 by rw [z3]; decide)]
  by_cases z4 : c (9 + 7 * e + 4) 4 < 2
  · rw [if_pos z4, zb_f (fun g => absurd g.2.2.2.1.1 (Int32.not_le.mpr z4))]
  rw [if_neg z4]
  by_cases z5 : 24 < c (9 + 7 * e + 4) 4
  · rw [if_pos z5, zb_f (fun g => absurd g.2.2.2.1.2 (Int32.not_le.mpr z5))]
  rw [if_neg z5]
  rcases (hE 7 (by decide)).1 with z6 | z6
  · rw [if_pos z6, zb_f (fun g => by rw [g.2.2.2.2.1] at z6; exact absurd z6 (by decide))]
  rw [if_neg (show ¬ c (9 + 7 * e + 3) 7 = 0 by rw [z6]; decide)]
  rcases (hE 9 (by decide)).1 with z7 | z7
  · rw [if_pos z7, xg_pos (Or.inl rfl), zb_f (fun g => by rw [g.2.2.2.2.2] at z7; exact absurd z7 (by decide))]
  rw [if_neg (show ¬ c (9 + 7 * e + 3) 9 = 0 by rw [z7]; decide), xg_pos (Or.inr rfl), zb_t ⟨z, ⟨Int32.not_lt.mp z1, Int32.not_lt.mp z2⟩, z3, ⟨Int32.not_lt.mp z4, Int32.not_lt.mp z5⟩, z6, z7⟩]
theorem e_cw (hN : 100000 ≤ N) : ∃ c', f75_closeWindows N h b c = some c' ∧ (∀ p, ¬ (141 ≤ p ∧ p ≤ 156) → c' p = c p) ∧ ∀ w, w < 8 → c' (141 + 2 * w) 1 = 0 := by
  obtain ⟨c', e1, e2, e3⟩ := lp_up (L := l75_2 N h b) (hi := 8) (out := fun a => (0, a)) (P := fun j a' => (∀ p, ¬ (141 ≤ p ∧ p ≤ 156) → a' p = c p) ∧ ∀ w, w < j → a' (141 + 2 * w) 1 = 0)
    (fun n j b1 h1 h2 => by
      rw [l75_2, if_neg (by rw [show (8 : Int32) = Int32.ofNat 8 from rfl, i_le (by decide) (by omega)]; omega), xg_pos (g_ix h2 (by omega)), i_cl (by omega), on_s]
      refine ⟨_, rfl, fun p hp => by rw [xU_o (by omega)]; exact h1.1 p hp, fun w hw => ?_⟩
      by_cases z : w = j
      · subst z; rw [xU_e]
      · rw [xU_o (by omega)]; exact h1.2 w (by omega))
    (fun n b1 h1 => by rw [l75_2, if_pos (by decide)])
    8 0 N c (by omega) (by omega) ⟨fun _ _ => rfl, fun w hw => absurd hw (by omega)⟩
  unfold f75_closeWindows
  have e1' : l75_2 N h b N 0 c = some (0, c') := e1
  rw [e1', Option.bind_some]
  exact ⟨c', rfl, e2, e3⟩
theorem e_189 (hN : 100000 ≤ N) {L : Nat → Int32 → xA → Option (Nat × xA)} (hL : L = l293_189 N h b ∨ L = l294_37 N h b) : ∃ r', L N 0 r = some (0, r') ∧ (∀ p, p ≠ 172 → r' p = r p) ∧ ∀ w, w < 8 → r' 172 w = 0 := by
  have st : ∀ n j (b1 : xA), j < 8 → L (n + 1) (Int32.ofNat j) b1 = L n (Int32.ofNat (j + 1)) (xU b1 172 j 0) := by
    intro n j b1 h2
    rcases hL with q | q <;> subst q
    · rw [l293_189, if_neg (by rw [show (8 : Int32) = Int32.ofNat 8 from rfl, i_le (by decide) (by omega)]; omega), xg_pos (g_ix h2 (by omega)), i_cl (by omega), on_s]
      rfl
    · rw [l294_37, if_neg (by rw [show (8 : Int32) = Int32.ofNat 8 from rfl, i_le (by decide) (by omega)]; omega), xg_pos (g_ix h2 (by omega)), i_cl (by omega), on_s]
      rfl
  obtain ⟨c', e1, e2, e3⟩ := lp_up (L := L) (hi := 8) (out := fun a => (0, a)) (P := fun j a' => (∀ p, p ≠ 172 → a' p = r p) ∧ ∀ w, w < j → a' 172 w = 0)
    (fun n j b1 h1 h2 => by
      rw [st n j b1 h2]
      refine ⟨_, rfl, fun p hp => by rw [xU_o hp]; exact h1.1 p hp, fun w hw => ?_⟩
      by_cases z : w = j
      · subst z; rw [xU_e]
      · rw [xU_s z]; exact h1.2 w (by omega))
    (fun n b1 h1 => by
      rcases hL with q | q <;> subst q
      · rw [l293_189, if_pos (by decide)]
      · rw [l294_37, if_pos (by decide)])
    8 0 N r (by omega) (by omega) ⟨fun _ _ => rfl, fun w hw => absurd hw (by omega)⟩
  exact ⟨c', e1, e2, e3⟩
theorem e_213 (hN : 100000 ≤ N) : ∃ r', l293_213 N h b N 0 r = some (0, r') ∧ (∀ p, p ≠ 170 → p ≠ 171 → r' p = r p) ∧ ∀ i, i < 1920 → r' 170 i = 32 ∧ r' 171 i = 32 := by
  obtain ⟨c', e1, e2, e3⟩ := lp_up (L := l293_213 N h b) (hi := 1920) (out := fun a => (0, a)) (P := fun j a' => (∀ p, p ≠ 170 → p ≠ 171 → a' p = r p) ∧ ∀ i, i < j → a' 170 i = 32 ∧ a' 171 i = 32)
    (fun n j b1 h1 h2 => by
      rw [l293_213, if_neg (by rw [show (1920 : Int32) = Int32.ofNat 1920 from rfl, i_le (by decide) (by omega)]; omega), xg_pos (g_ix h2 (by omega)), i_cl (by omega), on_s]
      refine ⟨_, rfl, fun p hp hp2 => by rw [xU_o hp2, xU_o hp]; exact h1.1 p hp hp2, fun w hw => ?_⟩
      by_cases z : w = j
      · subst z; rw [xU_o (by decide), xU_e, xU_e]; exact ⟨rfl, rfl⟩
      · rw [xU_o (by decide), xU_s z, xU_s z, xU_o (by decide)]; exact h1.2 w (by omega))
    (fun n b1 h1 => by rw [l293_213, if_pos (by decide)])
    1920 0 N r (by omega) (by omega) ⟨fun _ _ _ => rfl, fun w hw => absurd hw (by omega)⟩
  exact ⟨c', e1, e2, e3⟩
/-- the reference's own begin -/
def BR (e Ln Co : Nat) (r r' : xA) : Prop := (∀ p, p ≠ 157 → ¬ (170 ≤ p ∧ p ≤ 172) → r' p = r p) ∧ (∀ i, i ≠ 21 → i ≠ 26 → i ≠ 27 → ¬ (30 ≤ i ∧ i ≤ 36) → r' 157 i = r 157 i) ∧ r' 157 21 = Int32.ofNat e ∧ r' 157 26 = Int32.ofNat Co ∧ r' 157 27 = Int32.ofNat Ln ∧ r' 157 30 = 0 ∧ r' 157 31 = 0 ∧ r' 157 32 = -1 ∧ r' 157 33 = -1 ∧ r' 157 34 = 0 ∧ r' 157 35 = 1 ∧ r' 157 36 = 0 ∧ (∀ w, w < 8 → r' 172 w = 0) ∧ (∀ i, i < 1920 → r' 170 i = 32 ∧ r' 171 i = 32)
theorem e_usr (hN : 100000 ≤ N) (he : e < 12) (h3 : r 164 (39 * e + 3) = Int32.ofNat Co) (h4 : r 164 (39 * e + 4) = Int32.ofNat Ln) : ∃ r', (xw (xU r 157 21 (Int32.ofNat e)) (fun a80 => xw (xU a80 157 26 (a80 164 (39 * e + 3))) (fun a83 => xw (xU a83 157 27 (a83 164 (39 * e + 4))) (fun a86 => (l293_189 N h b N 0 a86).bind (fun z89 => (l293_213 N h b N 0 z89.2).bind (fun z91 => xw (xU z91.2 157 30 0) (fun a93 => xw (xU a93 157 31 0) (fun a96 => xw (xU a96 157 32 (-1)) (fun a99 => xw (xU a99 157 33 (-1)) (fun a102 => xw (xU a102 157 34 0) (fun a105 => xw (xU a105 157 35 1) (fun a108 => xw (xU a108 157 36 0) (fun a111 => some ((0 : Int32), a111)))))))))))))) = some (0, r') ∧ BR e Ln Co r r' := by
  dsimp only [xw]
  rw [xU_o (show (164 : Nat) ≠ 157 by decide), h3, xU_o (show (164 : Nat) ≠ 157 by decide), xU_o (show (164 : Nat) ≠ 157 by decide), h4]
  obtain ⟨r1, k1, k2, k3⟩ := e_189 (N := N) (h := h) (b := b) (r := xU (xU (xU r 157 21 (Int32.ofNat e)) 157 26 (Int32.ofNat Co)) 157 27 (Int32.ofNat Ln)) hN (Or.inl rfl)
  obtain ⟨r2, g1, g2, g3⟩ := e_213 (N := N) (h := h) (b := b) (r := r1) hN
  rw [k1, Option.bind_some, g1, Option.bind_some]
  have o : ∀ p, p ≠ 157 → ¬ (170 ≤ p ∧ p ≤ 172) → r2 p = r p := fun p h1 h2 => by rw [g2 p (by omega) (by omega), k2 p (by omega), xU_o h1, xU_o h1, xU_o h1]
  have e7 : r2 157 = (xU (xU (xU r 157 21 (Int32.ofNat e)) 157 26 (Int32.ofNat Co)) 157 27 (Int32.ofNat Ln)) 157 := by rw [g2 157 (by decide) (by decide), k2 157 (by decide)]
  refine ⟨_, rfl, fun p h1 h2 => by dsimp only; rw [xU_o h1, xU_o h1, xU_o h1, xU_o h1, xU_o h1, xU_o h1, xU_o h1]; exact o p h1 h2, fun i h1 h2 h3 h4 => ?_, ?_, ?_, ?_, ?_, ?_, ?_, ?_, ?_, ?_, ?_, fun w hw => ?_, fun i hi => ?_⟩ <;> dsimp only
  · rw [xU_s (by omega), xU_s (by omega), xU_s (by omega), xU_s (by omega), xU_s (by omega), xU_s (by omega), xU_s (by omega), e7, xU_s h3, xU_s h2, xU_s h1]
  · rw [xU_s (by decide), xU_s (by decide), xU_s (by decide), xU_s (by decide), xU_s (by decide), xU_s (by decide), xU_s (by decide), e7, xU_s (by decide), xU_s (by decide), xU_e]
  · rw [xU_s (by decide), xU_s (by decide), xU_s (by decide), xU_s (by decide), xU_s (by decide), xU_s (by decide), xU_s (by decide), e7, xU_s (by decide), xU_e]
  · rw [xU_s (by decide), xU_s (by decide), xU_s (by decide), xU_s (by decide), xU_s (by decide), xU_s (by decide), xU_s (by decide), e7, xU_e]
  · rw [xU_s (by decide), xU_s (by decide), xU_s (by decide), xU_s (by decide), xU_s (by decide), xU_s (by decide), xU_e]
  · rw [xU_s (by decide), xU_s (by decide), xU_s (by decide), xU_s (by decide), xU_s (by decide), xU_e]
  · rw [xU_s (by decide), xU_s (by decide), xU_s (by decide), xU_s (by decide), xU_e]
  · rw [xU_s (by decide), xU_s (by decide), xU_s (by decide), xU_e]
  · rw [xU_s (by decide), xU_s (by decide), xU_e]
  · rw [xU_s (by decide), xU_e]
  · rw [xU_e]
  · rw [xU_o (by decide), xU_o (by decide), xU_o (by decide), xU_o (by decide), xU_o (by decide), xU_o (by decide), xU_o (by decide), g2 172 (by decide) (by decide)]
    exact k3 w hw
  · have q : ∀ p, p ≠ 157 → xU (xU (xU (xU (xU (xU (xU r2 157 30 0) 157 31 0) 157 32 (-1)) 157 33 (-1)) 157 34 0) 157 35 1) 157 36 0 p = r2 p := fun p h1 => by rw [xU_o h1, xU_o h1, xU_o h1, xU_o h1, xU_o h1, xU_o h1, xU_o h1]
    rw [q 170 (by decide), q 171 (by decide)]
    exact g3 i hi
end T
