/-! update: plans. -/
/-- what the plans depend on -/
def SE (c c' : xA) : Prop := c' 106 = c 106 ∧ (∀ p, 108 ≤ p → p ≤ 113 → c' p = c p) ∧ c' 97 11 = c 97 11 ∧ c' 101 = c 101 ∧ c' 100 8 = c 100 8
/-- a plan lies in the class's own row of steps -/
def Pe (c : xA) (l : List S4) : Prop := l.length ≤ 5 ∧ c 97 18 = Int32.ofNat l.length ∧ ∀ i s, l[i]? = some s → c 114 (4 * i) = s.1 ∧ c 114 (4 * i + 1) = s.2.1 ∧ c 114 (4 * i + 2) = s.2.2.1 ∧ c 114 (4 * i + 3) = s.2.2.2
def Pen (c0 c : xA) (l : List S4) : Prop := Pe c l ∧ (∀ p, p ≠ 97 → p ≠ 114 → c p = c0 p) ∧ (∀ i, i ≠ 18 → c 97 i = c0 97 i)
section T
variable {N h b : Nat} {c0 r0 c r c' r' c'' r'' : xA} {x y z s v w w1 w2 w4 w5 w6 w7 x' y' : Int32} {len p i f k m q a e K n n' row d th k0 A B t Ln Co V H o j W L a0 a1 m' y0 y1 x0 x1 S Y X R C kk : Nat} {l : List S4}
theorem S_P (H : SE c c') (h1 : 14 ≤ a1) (h2 : a1 ≤ 19) : plP a0 a1 k c' = plP a0 a1 k c ∧ lnP a0 a1 k c' = lnP a0 a1 k c := by
  unfold plP lnP
  rw [H.2.1 (108 + (a1 - 14)) (by omega) (by omega), H.1]
  exact ⟨rfl, rfl⟩
theorem S_D (H : SE c c') : plD y0 y1 c' = plD y0 y1 c ∧ lnD y0 y1 c' = lnD y0 y1 c := by
  unfold plD lnD
  rw [(S_P H (by decide) (by decide)).1, (S_P H (by decide) (by decide)).1, (S_P H (by decide) (by decide)).2, (S_P H (by decide) (by decide)).2]
  exact ⟨rfl, rfl⟩
theorem S_T (H : SE c c') : plT x0 x1 c' = plT x0 x1 c ∧ lnT x0 x1 c' = lnT x0 x1 c := by
  unfold plT lnT
  rw [H.2.2.1, H.1, (S_P H (by decide) (by decide)).1, (S_P H (by decide) (by decide)).2]
  exact ⟨rfl, rfl⟩
theorem S_C (H : SE c c') : lnC Co row x0 x1 c' = lnC Co row x0 x1 c := by
  unfold lnC cpO
  rw [H.2.2.2.1, H.2.2.2.2]
theorem S_X (H : SE c c') : plX Co row x0 x1 c' = plX Co row x0 x1 c ∧ lnX Co row x0 x1 c' = lnX Co row x0 x1 c := by
  unfold plX lnX
  rw [S_C H, (S_T H).1, (S_T H).2, (S_P H (by decide) (by decide)).1, (S_P H (by decide) (by decide)).2, (S_P H (by decide) (by decide)).1, (S_P H (by decide) (by decide)).2]
  exact ⟨rfl, rfl⟩
theorem SE_X (hX : XF k c r c' r') : SE c c' := ⟨hX.1.1 106 (by decide) (by decide), fun p h1 h2 => hX.1.1 p (by omega) (by omega), hX.1.2.1 11 (by decide), hX.1.1 101 (by decide) (by decide), by rw [hX.1.1 100 (by decide) (by decide)]⟩
theorem SE_P (H : Pen c c' l) : SE c c' := ⟨H.2.1 106 (by decide) (by decide), fun p h1 h2 => H.2.1 p (by omega) (by omega), H.2.2 11 (by decide), H.2.1 101 (by decide) (by decide), by rw [H.2.1 100 (by decide) (by decide)]⟩
theorem UV_P (H : UV N h b e Ln Co c r) (hp : Pen c c' l) : UV N h b e Ln Co c' r := by
  obtain ⟨_, a1, a2⟩ := hp
  exact ⟨St_of H.1 (fun p k1 k2 => a1 p (by omega) (by omega)) (fun _ _ _ => rfl) (by rw [a1 0 (by decide) (by decide)]) (fun i k1 k2 => a2 i (by omega)) rfl rfl rfl rfl (a1 104 (by decide) (by decide)) rfl (a1 106 (by decide) (by decide)) (fun p k1 k2 => a1 p (by omega) (by omega)), Uk_of H.2.1 (fun i _ _ => by rw [a1 100 (by decide) (by decide)]) (a2 14 (by decide)) (fun _ _ _ => rfl) (a1 101 (by decide) (by decide)) rfl, H.2.2⟩
theorem d_ps {s : S4} (H : Pen c0 c l) (hl : l.length < 5) : ∃ c', f147_planStep N h b s.1 s.2.1 s.2.2.1 s.2.2.2 c = some c' ∧ Pen c0 c' (l ++ [s]) := by
  obtain ⟨⟨a1, a2, a3⟩, a4, a5⟩ := H
  have e4 : Int32.ofNat l.length * 4 = Int32.ofNat (4 * l.length) := by rw [Int32.ofNat_mul, Int32.mul_comm]; rfl
  have o3 : Int32.ofNat (4 * l.length) + 3 = Int32.ofNat (4 * l.length + 3) := by rw [Int32.ofNat_add]; rfl
  unfold f147_planStep
  dsimp only [xw]
  rw [a2, if_pos (by rw [show (5 : Int32) = Int32.ofNat 5 from rfl, i_lt (by omega) (by decide)]; exact hl), e4, on_s, o2, o3, xg_pos (g_ix (show 4 * l.length < 20 by omega) (by omega)), xg_pos (g_ix (show 4 * l.length + 1 < 20 by omega) (by omega)), xg_pos (g_ix (show 4 * l.length + 2 < 20 by omega) (by omega)), xg_pos (g_ix (show 4 * l.length + 3 < 20 by omega) (by omega)), i_cl (show 4 * l.length < 2 ^ 31 by omega), i_cl (show 4 * l.length + 1 < 2 ^ 31 by omega), i_cl (show 4 * l.length + 2 < 2 ^ 31 by omega), i_cl (show 4 * l.length + 3 < 2 ^ 31 by omega), xU_o (show (97 : Nat) ≠ 114 by decide), xU_o (show (97 : Nat) ≠ 114 by decide), xU_o (show (97 : Nat) ≠ 114 by decide), xU_o (show (97 : Nat) ≠ 114 by decide), a2, on_s]
  refine ⟨_, rfl, ⟨by rw [List.length_append]; exact hl, by rw [xU_e, List.length_append]; rfl, fun i s' hi => ?_⟩, fun p h1 h2 => by rw [xU_o h1, xU_o h2, xU_o h2, xU_o h2, xU_o h2]; exact a4 p h1 h2, fun i hi => by rw [xU_s hi, xU_o (by decide), xU_o (by decide), xU_o (by decide), xU_o (by decide)]; exact a5 i hi⟩
  rw [xU_o (show (114 : Nat) ≠ 97 by decide)]
  by_cases z : i < l.length
  · rw [List.getElem?_append_left z] at hi
    obtain ⟨b1, b2, b3, b4⟩ := a3 i s' hi
    have o : ∀ j, j < 4 * l.length → xU (xU (xU (xU c 114 (4 * l.length) s.1) 114 (4 * l.length + 1) s.2.1) 114 (4 * l.length + 2) s.2.2.1) 114 (4 * l.length + 3) s.2.2.2 114 j = c 114 j := fun j hj => by rw [xU_s (by omega), xU_s (by omega), xU_s (by omega), xU_s (by omega)]
    rw [o _ (by omega), o _ (by omega), o _ (by omega), o _ (by omega)]
    exact ⟨b1, b2, b3, b4⟩
  · rw [List.getElem?_append_right (by omega)] at hi
    have z2 : i - l.length = 0 := by
      apply Classical.byContradiction
      intro g
      have : ([s] : List S4)[i - l.length]? = none := List.getElem?_eq_none (by show 1 ≤ i - l.length; omega)
      rw [this] at hi
      exact absurd hi (by simp)
    have z3 : i = l.length := by omega
    rw [z2] at hi
    have : s = s' := Option.some.inj hi
    subst this
    subst z3
    refine ⟨?_, ?_, ?_, ?_⟩
    · rw [xU_s (by omega), xU_s (by omega), xU_s (by omega), xU_e]
    · rw [xU_s (by omega), xU_s (by omega), xU_e]
    · rw [xU_s (by omega), xU_e]
    · rw [xU_e]
theorem d_pp (H : Pen c0 c l) (hl : l.length < 5) (h0 : 6 ≤ a0) (h01 : a0 < 39) (h1 : 14 ≤ a1) (h11 : a1 ≤ 19) (hk : k < 80) : ∃ c', f149_planPair N h b (Int32.ofNat a0) (Int32.ofNat a1) (Int32.ofNat k) c = some c' ∧ Pen c0 c' (l ++ plP a0 a1 k c0) ∧ (plP a0 a1 k c0).length ≤ 1 := by
  have hl2 : xl h b (108 + (a1 - 14)) = 80 := by
    have : a1 = 14 ∨ a1 = 15 ∨ a1 = 16 ∨ a1 = 17 ∨ a1 = 18 ∨ a1 = 19 := by omega
    rcases this with q | q | q | q | q | q <;> subst q <;> rfl
  have em : Int32.ofNat a1 - 14 = Int32.ofNat (a1 - 14) := by rw [show (14 : Int32) = Int32.ofNat 14 from rfl, ← Int32.ofNat_sub _ _ h1]
  rw [← (S_P (SE_P H) h1 h11).1]
  unfold f149_planPair j149_37 plP
  by_cases z : k = 0
  · rw [if_pos (show Int32.ofNat k ≤ 0 by rw [z]; decide), if_pos (show Int32.ofNat k ≤ 0 by rw [z]; decide), if_pos z, List.append_nil]
    exact ⟨c, rfl, H, by show 0 ≤ 1; omega⟩
  · have nk : ¬ Int32.ofNat k ≤ 0 := by rw [show (0 : Int32) = Int32.ofNat 0 from rfl, i_le (by omega) (by decide)]; omega
    rw [if_neg nk, if_neg nk, if_neg z, em, xg_pos (g_ix h01 (by omega)), xg_pos (g_ix (by omega) (by omega)), i_cl (show a1 - 14 < 2 ^ 31 by omega), hl2, xg_pos (g_ix hk (by omega)), i_cl (show k < 2 ^ 31 by omega), i_cl (show a0 < 2 ^ 31 by omega)]
    by_cases z2 : c (108 + (a1 - 14)) k < Int32.ofNat k * c 106 a0
    · rw [if_pos z2, if_pos z2]
      obtain ⟨c', k1, k2⟩ := d_ps (N := N) (h := h) (b := b) (s := (Int32.ofNat a1, 1, Int32.ofNat k, 0)) H hl
      have k1' : f147_planStep N h b (Int32.ofNat a1) 1 (Int32.ofNat k) 0 c = some c' := k1
      rw [k1', b1_some]
      exact ⟨c', rfl, k2, Nat.le_refl _⟩
    · rw [if_neg z2, if_neg z2]
      obtain ⟨c', k1, k2⟩ := d_ps (N := N) (h := h) (b := b) (s := (Int32.ofNat a0, Int32.ofNat k, 0, 0)) H hl
      have k1' : f147_planStep N h b (Int32.ofNat a0) (Int32.ofNat k) 0 0 c = some c' := k1
      rw [k1', b1_some]
      exact ⟨c', rfl, k2, Nat.le_refl _⟩
theorem d_pd (H : Pen c0 c l) (hl : l.length < 5) (h0 : y0 < 80) (h1 : y1 < 80) : ∃ c', f148_planDown N h b (Int32.ofNat y0) (Int32.ofNat y1) c = some c' ∧ Pen c0 c' (l ++ plD y0 y1 c0) ∧ (plD y0 y1 c0).length ≤ 1 := by
  unfold f148_planDown plD
  by_cases z : y1 < y0
  · obtain ⟨c', k1, k2, k3⟩ := d_pp (N := N) (h := h) (b := b) (a0 := 10) (a1 := 14) (k := y0 - y1) H hl (by decide) (by decide) (by decide) (by decide) (by omega)
    have k1' : f149_planPair N h b 10 14 (Int32.ofNat (y0 - y1)) c = some c' := k1
    rw [if_pos (by rw [i_lt (by omega) (by omega)]; exact z), if_pos z, ← Int32.ofNat_sub _ _ (by omega), k1', b1_some]
    exact ⟨c', rfl, k2, k3⟩
  · obtain ⟨c', k1, k2, k3⟩ := d_pp (N := N) (h := h) (b := b) (a0 := 11) (a1 := 15) (k := y1 - y0) H hl (by decide) (by decide) (by decide) (by decide) (by omega)
    have k1' : f149_planPair N h b 11 15 (Int32.ofNat (y1 - y0)) c = some c' := k1
    rw [if_neg (by rw [i_lt (by omega) (by omega)]; exact z), if_neg z, ← Int32.ofNat_sub _ _ (by omega), k1', b1_some]
    exact ⟨c', rfl, k2, k3⟩
end T
