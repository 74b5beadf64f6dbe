/-! update: a row's last cell that is unlike, its last sign. -/
section T
variable {N h b : Nat} {c0 r0 c r c' r' c'' r'' : xA} {x y z s v w w1 w2 w3 w4 w5 w6 w7 x' y' : Int32} {len p i f k m q a e K n n' row d th k0 A B t Ln Co V H o j W L a0 a1 m' y0 y1 x0 x1 S Y X R C kk D E F G : Nat}
theorem on_q (hv : 1 ≤ V) : Int32.ofNat V + (-1) = Int32.ofNat (V - 1) := by
  have : Int32.ofNat V = Int32.ofNat (V - 1) + 1 := by rw [on_s, show V - 1 + 1 = V by omega]
  rw [this]
  grind
/-- the reference finds the last -/
theorem e_52 (H : UV N h b e Ln Co c r) (hR : R < Ln) (h1 : ∀ V, G < V → ¬ ul e Ln Co R c V) (h2 : ul e Ln Co R c G) : ∀ (k v f : Nat), v = G + k → v < Co → k < f → l349_52 N h b (Int32.ofNat R) w2 f (Int32.ofNat v) r = some (0, Int32.ofNat G, r) := by
  have hco := H.1.1.2.2.2.2.1
  intro k
  induction k with
  | zero =>
    intro v f g1 g3 g2
    obtain ⟨f, rfl⟩ : ∃ f', f = f' + 1 := ⟨f - 1, by omega⟩
    have : v = G := by omega
    subst this
    have eu := e_ul (N := N) (h := h) (b := b) (V := v) H hR g3
    rw [zb_t h2] at eu
    rw [l349_52]
    unfold xg at eu ⊢
    split at eu
    · next gg => rw [if_pos gg, eu, b2_some, if_neg (show ¬ (1 : Int32) = 0 by decide)]
    · exact absurd eu (by simp)
  | succ k ih =>
    intro v f g1 g3 g2
    obtain ⟨f, rfl⟩ : ∃ f', f = f' + 1 := ⟨f - 1, by omega⟩
    have eu := e_ul (N := N) (h := h) (b := b) (V := v) H hR g3
    rw [zb_f (h1 v (by omega))] at eu
    rw [l349_52]
    unfold xg at eu ⊢
    split at eu
    · next gg =>
      rw [if_pos gg, eu, b2_some, if_pos rfl, on_q (by omega)]
      exact ih (v - 1) f (by omega) (by omega) (by omega)
    · exact absurd eu (by simp)
/-- behind the last sign -/
theorem e_84 (H : UV N h b e Ln Co c r) (hR : R < Ln) : ∀ (v f : Nat), v ≤ Co → v < f → ∃ B, B ≤ v ∧ (∃ t, l153_5 N h b (Int32.ofNat (R * Co)) f (Int32.ofNat v) c = some (t, Int32.ofNat B, c) ∧ (t = 0 ∨ (t = 1 ∧ B = 0))) ∧ l349_84 N h b (Int32.ofNat R) w2 w3 f (Int32.ofNat v) r = some (0, Int32.ofNat B, r) := by
  have l24 := H.1.1.2.2.1
  have hco := H.1.1.2.2.2.2.1
  have hAi := H.1.2.2.2.1
  intro v
  induction v with
  | zero =>
    intro f g1 g2
    obtain ⟨f, rfl⟩ : ∃ f', f = f' + 1 := ⟨f - 1, by omega⟩
    exact ⟨0, Nat.le_refl _, ⟨1, by rw [l153_5, if_pos (by decide)], Or.inr ⟨rfl, rfl⟩⟩, by rw [l349_84, if_pos (by decide)]⟩
  | succ v ih =>
    intro f g1 g2
    obtain ⟨f, rfl⟩ : ∃ f', f = f' + 1 := ⟨f - 1, by omega⟩
    have hix' := hix (V := v) hR (show v < Co by omega) l24 hco
    have nz : ¬ Int32.ofNat (v + 1) ≤ 0 := by rw [show (0 : Int32) = Int32.ofNat 0 from rfl, i_le (by omega) (by decide)]; omega
    have e1 : Int32.ofNat (R * Co) + Int32.ofNat (v + 1) - 1 = Int32.ofNat (R * Co + v) := by rw [← Int32.ofNat_add, show R * Co + (v + 1) = (R * Co + v) + 1 by omega, ← on_s]; grind
    have e2 : (80 : Int32) * Int32.ofNat R + Int32.ofNat (v + 1) - 1 = Int32.ofNat (80 * R + v) := by rw [show (80 : Int32) = Int32.ofNat 80 from rfl, ← Int32.ofNat_mul, ← Int32.ofNat_add, show 80 * R + (v + 1) = (80 * R + v) + 1 by omega, ← on_s]; grind
    have off : f339_offeredOf N h b (r 170 (80 * R + v)) r = some (c 104 (R * Co + v), r) := by
      unfold f339_offeredOf
      rw [hAi R v hR (by omega)]
    rw [l153_5, l349_84, if_neg nz, if_neg nz, e1, e2, xg_pos (g_ix hix' (by omega)), i_cl (show R * Co + v < 2 ^ 31 by omega), xg_pos (g_ix (show 80 * R + v < 1920 by omega) (by omega)), i_cl (show 80 * R + v < 2 ^ 31 by omega), off, b2_some]
    by_cases z : c 104 (R * Co + v) = 32
    · rw [if_pos z, if_pos z, on_q (by omega), show v + 1 - 1 = v by omega]
      obtain ⟨B, k1, k2, k3⟩ := ih f (by omega) (by omega)
      exact ⟨B, by omega, k2, k3⟩
    · rw [if_neg z, if_neg z]
      exact ⟨v + 1, Nat.le_refl _, ⟨0, rfl, Or.inl rfl⟩, rfl⟩
theorem d_sgn (hN : 100000 ≤ N) (H : UV N h b e Ln Co c r) (hR : R < Ln) : ∃ B, B ≤ Co ∧ f153_behindLastSign N h b (Int32.ofNat (R * Co)) c = some (Int32.ofNat B, c) ∧ l349_84 N h b (Int32.ofNat R) w2 w3 N (r 157 26) r = some (0, Int32.ofNat B, r) := by
  have hco := H.1.1.2.2.2.2.1
  have z13 := H.1.1.2.2.2.2.2.2.2.2.2.2.2.2
  have z12 := H.1.1.2.2.2.2.2.2.2.2.2.2.2.1
  obtain ⟨B, k1, ⟨t, k2, k3⟩, k4⟩ := e_84 (N := N) (h := h) (b := b) (w2 := w2) (w3 := w3) H hR Co N (Nat.le_refl _) (by omega)
  refine ⟨B, k1, ?_, by rw [z13]; exact k4⟩
  unfold f153_behindLastSign
  rw [z12, k2, Option.bind_some]
  rcases k3 with q | ⟨q, q2⟩
  · rw [q, if_pos rfl]
  · rw [q, if_neg (show ¬ (1 : Nat) = 0 by decide), q2]
    rfl
end T
