/-! update: plans across, plans of ways. -/
section T
variable {N h b : Nat} {c0 r0 c r c' r' c'' r'' : xA} {x y z s v w w1 w2 w4 w5 w6 w7 x' y' : Int32} {len p i f k m q a e K n n' row d th k0 A B t Ln Co V H o j W L a0 a1 m' y0 y1 x0 x1 S Y X R C kk : Nat} {l : List S4}
theorem e_cpl (hN : 100000 ≤ N) (hz : Pz e Ln Co c r) (hx : x0 < x1) (h1 : x1 ≤ Co) (hr : row < Ln) : f145_copyLength N h b (Int32.ofNat row) (Int32.ofNat x0) (Int32.ofNat x1) c = some (lnC Co row x0 x1 c, c) := by
  have hco := hz.2.2.2.2.1
  unfold f145_copyLength
  obtain ⟨i1, i2⟩ := e_145 (N := N) (h := h) (b := b) (w2 := Int32.ofNat x0) (x1 := x1) hz hr h1 (x1 - x0) x0 N (by omega) (by omega)
  by_cases q : cpO Co row x0 x1 c
  · rw [i1 q, Option.bind_some, if_neg (show ¬ (1 : Nat) = 0 by decide), ← Int32.ofNat_sub _ _ (by omega), lnC_t q]
  · rw [i2 q, Option.bind_some, if_pos rfl, lnC_f q]
theorem d_pa (hN : 100000 ≤ N) (H0 : UV N h b e Ln Co c0 r) (H : Pen c0 c l) (hl : l.length ≤ 3) (h0 : x0 < Co) (h1 : x1 < Co) (hr : row < Ln) (hv : lnX Co row x0 x1 c0 < 1000000) : ∃ c', f150_planAcross N h b (Int32.ofNat x0) (Int32.ofNat x1) (Int32.ofNat row) c = some c' ∧ Pen c0 c' (l ++ plX Co row x0 x1 c0) := by
  have hco := H0.1.1.2.2.2.2.1
  have HU := UV_P H0 H
  have hS := SE_P H
  have hT := HU.1.2.2.1
  unfold f150_planAcross plX
  unfold lnX at hv
  by_cases z : x0 < x1
  · obtain ⟨np, nt, nc, yp, yt, yc, r1, r2, k1, k2, k3, k4, k5, k6, k7, k8, k9, k10⟩ := d_3w (N := N) (h := h) (b := b) hN H0 h0 h1 hr z
    have b7 := CN_lt k7
    have b8 := CN_lt k8
    have b9 := CN_lt k9
    rw [if_pos z, k4, k5, k6, xmin_n (CN_lt k8) (CN_lt k9), xmin_n (CN_lt k7) (by omega), show (1000000 : Int32) = Int32.ofNat 1000000 from rfl, i_lt (by omega) (by decide)] at hv
    have := e_pln (N := N) (h := h) (b := b) (a0 := 13) (a1 := 17) (k := x1 - x0) hT (by decide) (by decide) (by decide) (by decide) (by omega)
    have t : f140_pairLength N h b 13 17 (Int32.ofNat (x1 - x0)) c = some (Int32.ofNat np, c) := by
      rw [← k4, ← (S_P hS (by decide) (by decide)).2]; exact this
    have t2 : f142_tabsLength N h b (Int32.ofNat x0) (Int32.ofNat x1) c = some (Int32.ofNat nt, c) := by
      rw [← k5, ← (S_T hS).2]; exact e_tln HU (by omega) (by omega)
    have t3 : f145_copyLength N h b (Int32.ofNat row) (Int32.ofNat x0) (Int32.ofNat x1) c = some (Int32.ofNat nc, c) := by
      rw [← k6, ← S_C hS]; exact e_cpl hN HU.1.1 z (by omega) hr
    have cT : (lnT x0 x1 c0 < lnP 13 17 (x1 - x0) c0 ∨ lnC Co row x0 x1 c0 < lnP 13 17 (x1 - x0) c0) = (nt < np ∨ nc < np) := by rw [k4, k5, k6, i_lt b8 b7, i_lt b9 b7]
    have cC : (lnC Co row x0 x1 c0 < lnT x0 x1 c0) = (nc < nt) := by rw [k5, k6, i_lt b9 b8]
    rw [if_pos (show Int32.ofNat x0 < Int32.ofNat x1 by rw [i_lt (by omega) (by omega)]; exact z), if_pos z, ← Int32.ofNat_sub _ _ (by omega), t, b2_some, t2, b2_some, t3, b2_some]
    by_cases z2 : nt < np ∨ nc < np
    · rw [if_pos (show lnT x0 x1 c0 < lnP 13 17 (x1 - x0) c0 ∨ lnC Co row x0 x1 c0 < lnP 13 17 (x1 - x0) c0 by rw [cT]; exact z2)]
      have red : (if Int32.ofNat nt < Int32.ofNat np then (j150_75 N h b (Int32.ofNat x0) (Int32.ofNat x1) (Int32.ofNat nt) (Int32.ofNat nc) c) else (if Int32.ofNat nc < Int32.ofNat np then (j150_75 N h b (Int32.ofNat x0) (Int32.ofNat x1) (Int32.ofNat nt) (Int32.ofNat nc) c) else (xb1 (f149_planPair N h b 13 17 (Int32.ofNat (x1 - x0)) c) (fun a48 => some a48)))) = j150_75 N h b (Int32.ofNat x0) (Int32.ofNat x1) (Int32.ofNat nt) (Int32.ofNat nc) c := by
        by_cases q : nt < np
        · rw [if_pos (by rw [i_lt b8 b7]; exact q)]
        · rw [if_neg (by rw [i_lt b8 b7]; exact q), if_pos (by rw [i_lt b9 b7]; exact z2.resolve_left q)]
      rw [red]
      unfold j150_75
      by_cases z3 : nc < nt
      · rw [if_pos (show Int32.ofNat nc < Int32.ofNat nt by rw [i_lt b9 b8]; exact z3), if_pos (show lnC Co row x0 x1 c0 < lnT x0 x1 c0 by rw [cC]; exact z3)]
        obtain ⟨c', m1, m2⟩ := d_ps (N := N) (h := h) (b := b) (s := (-1, 1, Int32.ofNat x0, Int32.ofNat x1)) H (by omega)
        have m1' : f147_planStep N h b (-1) 1 (Int32.ofNat x0) (Int32.ofNat x1) c = some c' := m1
        rw [m1', b1_some]
        exact ⟨c', rfl, m2⟩
      · rw [if_neg (show ¬ Int32.ofNat nc < Int32.ofNat nt by rw [i_lt b9 b8]; exact z3), if_neg (show ¬ lnC Co row x0 x1 c0 < lnT x0 x1 c0 by rw [cC]; exact z3)]
        obtain ⟨S, s1, s2, s3, s4⟩ := e_t11 HU
        have s2' : c0 97 11 = Int32.ofNat S := by rw [← hS.2.2.1]; exact s2
        unfold lnT at k5
        unfold plT
        rw [s2', i_cl (show S < 2 ^ 31 by omega)] at k5 ⊢
        have ntl : nt < 1000000 := by omega
        have far : ¬ (1000000 : Int32) = Int32.ofNat nt := by rw [show (1000000 : Int32) = Int32.ofNat 1000000 from rfl, i_eq (by decide) b8]; omega
        by_cases q1 : S = 0
        · rw [if_pos q1] at k5; exact absurd k5 far
        rw [if_neg q1] at k5
        by_cases q2 : x1 / S * S ≤ x0
        · rw [if_pos q2] at k5; exact absurd k5 far
        have ns : ¬ Int32.ofNat S ≤ 0 := by rw [show (0 : Int32) = Int32.ofNat 0 from rfl, i_le (by omega) (by decide)]; omega
        have nz : ¬ Int32.ofNat S = 0 := by rw [show (0 : Int32) = Int32.ofNat 0 from rfl, i_eq (by omega) (by decide)]; omega
        have hst : x1 / S * S ≤ x1 := Nat.div_mul_le_self x1 S
        have hst2 : x1 / S * S / S = x1 / S := Nat.mul_div_cancel _ (by omega)
        have hd : x0 / S ≤ x1 / S := Nat.div_le_div_right (by omega)
        have l1 : f143_lastStop N h b (Int32.ofNat x0) (Int32.ofNat x1) c = some (Int32.ofNat (x1 / S * S), c) := by
          unfold f143_lastStop j143_22
          rw [s2, if_neg ns, xg_pos nz, (e_dvs (show x1 < 80 by omega) s1).2, if_neg (show ¬ Int32.ofNat (x1 / S * S) ≤ Int32.ofNat x0 by rw [i_le (by omega) (by omega)]; exact q2)]
        have l2 : f144_tabsBetween N h b (Int32.ofNat x0) (Int32.ofNat (x1 / S * S)) c = some (Int32.ofNat (x1 / S - x0 / S), c) := by
          unfold f144_tabsBetween
          rw [s2, if_neg ns, xg_pos nz, (e_dvs (x1 := x1 / S * S) (by omega) s1).1, (e_dvs (show x0 < 80 by omega) s1).1, hst2, ← Int32.ofNat_sub _ _ hd]
        rw [l1, b2_some, l2, b2_some]
        obtain ⟨c1, m1, m2⟩ := d_ps (N := N) (h := h) (b := b) (s := (21, Int32.ofNat (x1 / S - x0 / S), 0, 0)) H (by omega)
        have m1' : f147_planStep N h b 21 (Int32.ofNat (x1 / S - x0 / S)) 0 0 c = some c1 := m1
        obtain ⟨c2, n1, n2, _⟩ := d_pp (N := N) (h := h) (b := b) (a0 := 13) (a1 := 17) (k := x1 - x1 / S * S) m2 (by rw [List.length_append]; show l.length + 1 < 5; omega) (by decide) (by decide) (by decide) (by decide) (by omega)
        have n1' : f149_planPair N h b 13 17 (Int32.ofNat (x1 - x1 / S * S)) c1 = some c2 := n1
        rw [m1', b1_some, ← Int32.ofNat_sub _ _ hst, n1', b1_some]
        refine ⟨c2, rfl, ?_⟩
        rw [List.append_assoc] at n2
        exact n2
    · rw [if_neg (show ¬ Int32.ofNat nt < Int32.ofNat np by rw [i_lt b8 b7]; omega), if_neg (show ¬ Int32.ofNat nc < Int32.ofNat np by rw [i_lt b9 b7]; omega), if_neg (show ¬ (lnT x0 x1 c0 < lnP 13 17 (x1 - x0) c0 ∨ lnC Co row x0 x1 c0 < lnP 13 17 (x1 - x0) c0) by rw [cT]; exact z2)]
      obtain ⟨c2, n1, n2, _⟩ := d_pp (N := N) (h := h) (b := b) (a0 := 13) (a1 := 17) (k := x1 - x0) H (by omega) (by decide) (by decide) (by decide) (by decide) (by omega)
      have n1' : f149_planPair N h b 13 17 (Int32.ofNat (x1 - x0)) c = some c2 := n1
      rw [n1', b1_some]
      exact ⟨c2, rfl, n2⟩
  · rw [if_neg (show ¬ Int32.ofNat x0 < Int32.ofNat x1 by rw [i_lt (by omega) (by omega)]; exact z), if_neg z, ← Int32.ofNat_sub _ _ (by omega)]
    obtain ⟨c2, n1, n2, _⟩ := d_pp (N := N) (h := h) (b := b) (a0 := 12) (a1 := 16) (k := x0 - x1) H (by omega) (by decide) (by decide) (by decide) (by decide) (by omega)
    have n1' : f149_planPair N h b 12 16 (Int32.ofNat (x0 - x1)) c = some c2 := n1
    rw [n1', b1_some]
    exact ⟨c2, rfl, n2⟩
/-- the class runs its plan -/
theorem e_run (hN : 100000 ≤ N) : ∀ (l2 l1 : List S4) (f : Nat) (c : xA), Pe c (l1 ++ l2) → RunC N h b w1 l2 c c' → l2.length < f → l137_82 N h b w1 w2 f (Int32.ofNat l1.length) c = some (0, c') := by
  intro l2
  induction l2 with
  | nil =>
    intro l1 f c hP hC hf
    obtain ⟨f, rfl⟩ : ∃ f', f = f' + 1 := ⟨f - 1, by omega⟩
    have : c' = c := hC
    subst this
    obtain ⟨a1, a2, a3⟩ := hP
    rw [List.append_nil] at a2
    rw [l137_82, a2, if_pos (Int32.le_refl _)]
  | cons s l ih =>
    intro l1 f c hP hC hf
    obtain ⟨f, rfl⟩ : ∃ f', f = f' + 1 := ⟨f - 1, by omega⟩
    obtain ⟨c1, k1, k2, k3, k4⟩ := hC
    obtain ⟨a1, a2, a3⟩ := id hP
    have e1 : (l1 ++ s :: l)[l1.length]? = some s := by rw [List.getElem?_append_right (Nat.le_refl _), Nat.sub_self]; rfl
    obtain ⟨b1, b2, b3, b4⟩ := a3 l1.length s e1
    have hln : (l1 ++ s :: l).length = l1.length + (l.length + 1) := by rw [List.length_append]; rfl
    rw [hln] at a1 a2
    have e4 : Int32.ofNat l1.length * 4 = Int32.ofNat (4 * l1.length) := by rw [Int32.ofNat_mul, Int32.mul_comm]; rfl
    have o3 : Int32.ofNat (4 * l1.length) + 3 = Int32.ofNat (4 * l1.length + 3) := by rw [Int32.ofNat_add]; rfl
    have hP1 : Pe c1 ((l1 ++ [s]) ++ l) := by
      rw [List.append_assoc]
      refine ⟨hP.1, by rw [k3]; exact hP.2.1, fun i s' hi => ?_⟩
      rw [k2]
      exact hP.2.2 i s' hi
    have hf' : l.length + 1 < f + 1 := hf
    have nx := ih (l1 ++ [s]) f c1 hP1 k4 (by omega)
    have el : (l1 ++ [s]).length = l1.length + 1 := by rw [List.length_append]; rfl
    rw [el] at nx
    rw [l137_82, a2, if_neg (by rw [i_le (by omega) (by omega)]; omega), e4, on_s, o2, o3, xg_pos (g_ix (show 4 * l1.length < 20 by omega) (by omega)), xg_pos (g_ix (show 4 * l1.length + 2 < 20 by omega) (by omega)), xg_pos (g_ix (show 4 * l1.length + 3 < 20 by omega) (by omega)), xg_pos (g_ix (show 4 * l1.length + 1 < 20 by omega) (by omega)), xg_pos (g_ix (show 4 * l1.length + 2 < 20 by omega) (by omega)), xg_pos (g_ix (show 4 * l1.length + 3 < 20 by omega) (by omega)), i_cl (show 4 * l1.length < 2 ^ 31 by omega), i_cl (show 4 * l1.length + 1 < 2 ^ 31 by omega), i_cl (show 4 * l1.length + 2 < 2 ^ 31 by omega), i_cl (show 4 * l1.length + 3 < 2 ^ 31 by omega), b1, b2, b3, b4]
    unfold j137_170
    rw [on_s]
    by_cases z : s.1 = -1
    · rw [if_pos z] at k1
      rw [if_pos z, k1, b1_some]
      exact nx
    · rw [if_neg z] at k1
      rw [if_neg z, k1, b1_some]
      exact nx
end T
