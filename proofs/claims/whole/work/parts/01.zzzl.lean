/-! update: a row's first and last cell that is unlike, its last sign. -/
def ul (e Ln Co R : Nat) (c : xA) (V : Nat) : Prop := V < pt e Ln Co R c ∧ ¬ c 104 (R * Co + V) = c 101 (R * Co + V)
section T
variable {N h b : Nat} {c0 r0 c r c' r' c'' r'' : xA} {x y z s v w w1 w2 w4 w5 w6 w7 x' y' : Int32} {len p i f k m q a e K n n' row d th k0 A B t Ln Co V H o j W L a0 a1 m' y0 y1 x0 x1 S Y X R C kk D E F G : Nat}
theorem pt_le : pt e Ln Co R c ≤ Co := by unfold pt; split <;> omega
theorem hix (hR : R < Ln) (hV : V < Co) (l24 : Ln ≤ 24) (hco : Co ≤ 80) : R * Co + V < 1920 := by
  have hHB := hb_ub l24 hco
  have : (R + 1) * Co ≤ Ln * Co := Nat.mul_le_mul_right Co hR
  rw [Nat.add_mul] at this
  omega
theorem e_ul (H : UV N h b e Ln Co c r) (hR : R < Ln) (hV : V < Co) : (xg (¬ ((80 : Int32) * Int32.ofNat R + Int32.ofNat V < 0 ∨ 1920 ≤ ((80 : Int32) * Int32.ofNat R + Int32.ofNat V).toNatClampNeg)) (f338_unlike N h b (Int32.ofNat R) (Int32.ofNat V) (r 183 (((80 : Int32) * Int32.ofNat R + Int32.ofNat V).toNatClampNeg)) r)) = some (zb (ul e Ln Co R c V), r) := by
  have l24 := H.1.1.2.2.1
  have hco := H.1.1.2.2.2.2.1
  have ej : (80 : Int32) * Int32.ofNat R + Int32.ofNat V = Int32.ofNat (80 * R + V) := by rw [Int32.ofNat_add, Int32.ofNat_mul]; rfl
  rw [ej, xg_pos (g_ix (by omega) (by omega)), i_cl (by omega), ← H.2.1.2.2.2.2.1 R V hR hV, e_unl H hR hV]
  rfl
/-- the class finds the first and the last -/
theorem e_22 (H : UV N h b e Ln Co c r) (hR : R < Ln) : ∀ (k v f : Nat) (v3 v4 : Int32), v + k = pt e Ln Co R c → k < f → ((v3 = -1 ∧ v4 = -1 ∧ ∀ V, V < v → ¬ ul e Ln Co R c V) ∨ ∃ F G, F ≤ G ∧ G < v ∧ v3 = Int32.ofNat F ∧ v4 = Int32.ofNat G ∧ ul e Ln Co R c F ∧ ul e Ln Co R c G ∧ (∀ V, V < F → ¬ ul e Ln Co R c V) ∧ (∀ V, G < V → V < v → ¬ ul e Ln Co R c V)) → ∃ v3' v4', l152_22 N h b w1 (Int32.ofNat (R * Co)) (Int32.ofNat (pt e Ln Co R c)) f v3 v4 (Int32.ofNat v) c = some (0, v3', v4', c) ∧ ((v3' = -1 ∧ v4' = -1 ∧ ∀ V, ¬ ul e Ln Co R c V) ∨ ∃ F G, F ≤ G ∧ G < pt e Ln Co R c ∧ v3' = Int32.ofNat F ∧ v4' = Int32.ofNat G ∧ ul e Ln Co R c F ∧ ul e Ln Co R c G ∧ (∀ V, V < F → ¬ ul e Ln Co R c V) ∧ (∀ V, G < V → ¬ ul e Ln Co R c V)) := by
  have l24 := H.1.1.2.2.1
  have hco := H.1.1.2.2.2.2.1
  have hpt := pt_le (e := e) (Ln := Ln) (Co := Co) (R := R) (c := c)
  intro k
  induction k with
  | zero =>
    intro v f v3 v4 h1 h2 hi
    obtain ⟨f, rfl⟩ : ∃ f', f = f' + 1 := ⟨f - 1, by omega⟩
    refine ⟨v3, v4, by rw [l152_22, if_pos (by rw [i_le (by omega) (by omega)]; omega)], ?_⟩
    rcases hi with ⟨g1, g2, g3⟩ | ⟨F, G, g1, g2, g3, g4, g5, g6, g7, g8⟩
    · refine Or.inl ⟨g1, g2, fun V hV => ?_⟩
      exact g3 V (by have := hV.1; omega) hV
    · refine Or.inr ⟨F, G, g1, by omega, g3, g4, g5, g6, g7, fun V hV hu => ?_⟩
      exact g8 V hV (by have := hu.1; omega) hu
  | succ k ih =>
    intro v f v3 v4 h1 h2 hi
    obtain ⟨f, rfl⟩ : ∃ f', f = f' + 1 := ⟨f - 1, by omega⟩
    have hix' := hix (V := v) hR (show v < Co by omega) l24 hco
    have ei : Int32.ofNat (R * Co) + Int32.ofNat v = Int32.ofNat (R * Co + v) := by rw [← Int32.ofNat_add]
    rw [l152_22, if_neg (by rw [i_le (by omega) (by omega)]; omega), ei, xg_pos (g_ix hix' (by omega)), i_cl (by omega)]
    unfold j152_69
    rw [on_s]
    by_cases z : c 104 (R * Co + v) = c 101 (R * Co + v)
    · have nu : ¬ ul e Ln Co R c v := fun g => g.2 z
      rw [if_pos z]
      refine ih (v + 1) f v3 v4 (by omega) (by omega) ?_
      rcases hi with ⟨g1, g2, g3⟩ | ⟨F, G, g1, g2, g3, g4, g5, g6, g7, g8⟩
      · refine Or.inl ⟨g1, g2, fun V hV => ?_⟩
        by_cases q : V = v
        · rw [q]; exact nu
        · exact g3 V (by omega)
      · refine Or.inr ⟨F, G, g1, by omega, g3, g4, g5, g6, g7, fun V hV hV2 => ?_⟩
        by_cases q : V = v
        · rw [q]; exact nu
        · exact g8 V hV (by omega)
    · have yu : ul e Ln Co R c v := ⟨by omega, z⟩
      rw [if_neg z]
      refine ih (v + 1) f _ _ (by omega) (by omega) (Or.inr ?_)
      rcases hi with ⟨g1, g2, g3⟩ | ⟨F, G, g1, g2, g3, g4, g5, g6, g7, g8⟩
      · exact ⟨v, v, Nat.le_refl _, by omega, by rw [if_pos g1], rfl, yu, yu, g3, fun V hV hV2 => absurd hV (by omega)⟩
      · exact ⟨F, v, by omega, by omega, by rw [if_neg (by rw [g3]; exact ofn_ne (by omega))]; exact g3, rfl, g5, yu, g7, fun V hV hV2 => absurd hV (by omega)⟩
/-- the reference finds the first -/
theorem e_2f (H : UV N h b e Ln Co c r) (hR : R < Ln) (hF : F ≤ Co) (h1 : ∀ V, V < F → ¬ ul e Ln Co R c V) (h2 : F < Co → ul e Ln Co R c F) : ∀ (k v f : Nat), v + k = F → k < f → l349_2 N h b (Int32.ofNat R) f (Int32.ofNat v) r = some (0, Int32.ofNat F, r) := by
  have hco := H.1.1.2.2.2.2.1
  have z13 := H.1.1.2.2.2.2.2.2.2.2.2.2.2.2
  intro k
  induction k with
  | zero =>
    intro v f g1 g2
    obtain ⟨f, rfl⟩ : ∃ f', f = f' + 1 := ⟨f - 1, by omega⟩
    have : v = F := by omega
    subst this
    rw [l349_2, z13]
    by_cases q : v < Co
    · have eu := e_ul (N := N) (h := h) (b := b) (V := v) H hR q
      rw [if_neg (by rw [i_le (by omega) (by omega)]; omega)]
      rw [zb_t (h2 q)] at eu
      unfold xg at eu ⊢
      split at eu
      · next gg => rw [if_pos gg, eu, b2_some, if_neg (show ¬ (1 : Int32) = 0 by decide)]
      · exact absurd eu (by simp)
    · rw [if_pos (by rw [i_le (by omega) (by omega)]; omega)]
  | succ k ih =>
    intro v f g1 g2
    obtain ⟨f, rfl⟩ : ∃ f', f = f' + 1 := ⟨f - 1, by omega⟩
    have eu := e_ul (N := N) (h := h) (b := b) (V := v) H hR (by omega)
    rw [zb_f (h1 v (by omega))] at eu
    rw [l349_2, z13, if_neg (by rw [i_le (by omega) (by omega)]; omega)]
    unfold xg at eu ⊢
    split at eu
    · next gg =>
      rw [if_pos gg, eu, b2_some, if_pos rfl, on_s]
      exact ih (v + 1) f (by omega) (by omega)
    · exact absurd eu (by simp)
end T
