/-! update: up and down, tabs, copies. -/
def lnD (y0 y1 : Nat) (c : xA) : Int32 := if y1 < y0 then lnP 10 14 (y0 - y1) c else lnP 11 15 (y1 - y0) c
def plD (y0 y1 : Nat) (c : xA) : List S4 := if y1 < y0 then plP 10 14 (y0 - y1) c else plP 11 15 (y1 - y0) c
section T
variable {N h b : Nat} {c0 r0 c r c' r' c'' r'' : xA} {x y z s v w w1 w2 w4 w5 w6 x' y' : Int32} {len p i f k m q l a e K n row d th k0 A B t Ln Co V H o j W L a0 a1 m' y0 y1 x0 x1 S : Nat}
theorem n_neg : ∀ d : Fin 100, ¬ d.val = 0 → ¬ (0 : Int32) ≤ 0 - Int32.ofNat d.val := by decide +kernel
theorem e_abs (h0 : y0 < 100) (h1 : y1 < 100) : xabs (Int32.ofNat y1 - Int32.ofNat y0) = Int32.ofNat (if y1 < y0 then y0 - y1 else y1 - y0) := by
  unfold xabs
  by_cases z : y1 < y0
  · rw [if_pos z]
    have e : Int32.ofNat y0 - Int32.ofNat y1 = Int32.ofNat (y0 - y1) := by rw [← Int32.ofNat_sub _ _ (by omega)]
    have e2 : Int32.ofNat y1 - Int32.ofNat y0 = 0 - Int32.ofNat (y0 - y1) := by rw [← e]; grind
    rw [e2, if_neg (n_neg ⟨y0 - y1, by omega⟩ (by show ¬ y0 - y1 = 0; omega))]
    grind
  · rw [if_neg z, ← Int32.ofNat_sub _ _ (by omega), if_pos (by rw [i_neg_le (by omega)]; trivial)]
theorem e_dwn (hT : TB N h b e c) (h0 : y0 < 80) (h1 : y1 < 80) : f139_downLength N h b (Int32.ofNat y0) (Int32.ofNat y1) c = some (lnD y0 y1 c, c) := by
  unfold f139_downLength lnD
  by_cases z : y1 < y0
  · have := e_pln (N := N) (h := h) (b := b) (a0 := 10) (a1 := 14) (k := y0 - y1) hT (by decide) (by decide) (by decide) (by decide) (by omega)
    have t : f140_pairLength N h b 10 14 (Int32.ofNat (y0 - y1)) c = some (lnP 10 14 (y0 - y1) c, c) := this
    rw [if_pos (by rw [i_lt (by omega) (by omega)]; exact z), if_pos z, ← Int32.ofNat_sub _ _ (by omega), t, b2_some]
  · have := e_pln (N := N) (h := h) (b := b) (a0 := 11) (a1 := 15) (k := y1 - y0) hT (by decide) (by decide) (by decide) (by decide) (by omega)
    have t : f140_pairLength N h b 11 15 (Int32.ofNat (y1 - y0)) c = some (lnP 11 15 (y1 - y0) c, c) := this
    rw [if_neg (by rw [i_lt (by omega) (by omega)]; exact z), if_neg z, ← Int32.ofNat_sub _ _ (by omega), t, b2_some]
theorem d_dn0 (hN : 100000 ≤ N) (H : UV N h b e Ln Co c r) (h0 : y0 < 80) (h1 : y1 < 80) : ∃ y r', f343_upDown N h b (Int32.ofNat y0) (Int32.ofNat y1) 0 r = some (y, r') ∧ RF r r' ∧ CC 80 (lnD y0 y1 c) y := by
  unfold f343_upDown lnD
  rw [e_abs (by omega) (by omega)]
  by_cases z0 : y0 = y1
  · subst z0
    rw [if_neg (Nat.lt_irrefl _), if_neg (Nat.lt_irrefl _), Nat.sub_self, if_pos (show Int32.ofNat 0 = 0 from rfl)]
    refine ⟨_, _, rfl, RF_r H.2.2, Or.inr ⟨0, by omega, ?_, rfl⟩⟩
    unfold lnP
    rw [if_pos rfl]
    rfl
  by_cases z : y1 < y0
  · obtain ⟨y, r', k1, k2, k3⟩ := d_pr0 (N := N) (h := h) (b := b) (a0 := 10) (a1 := 14) (k := y0 - y1) hN H (by decide) (by decide) (by decide) (by decide) (by omega) (by omega)
    have k1' : f344_eitherOf N h b 10 14 (Int32.ofNat (y0 - y1)) 0 r = some (y, r') := k1
    have le : Int32.ofNat y1 ≤ Int32.ofNat y0 := by rw [i_le (by omega) (by omega)]; omega
    rw [if_pos z, if_pos z, if_neg (show ¬ Int32.ofNat (y0 - y1) = 0 by rw [show (0 : Int32) = Int32.ofNat 0 from rfl, i_eq (by omega) (by decide)]; omega), if_pos le, if_pos le, k1', b2_some]
    exact ⟨_, _, rfl, k2, k3⟩
  · obtain ⟨y, r', k1, k2, k3⟩ := d_pr0 (N := N) (h := h) (b := b) (a0 := 11) (a1 := 15) (k := y1 - y0) hN H (by decide) (by decide) (by decide) (by decide) (by omega) (by omega)
    have k1' : f344_eitherOf N h b 11 15 (Int32.ofNat (y1 - y0)) 0 r = some (y, r') := k1
    have le : ¬ Int32.ofNat y1 ≤ Int32.ofNat y0 := by rw [i_le (by omega) (by omega)]; omega
    rw [if_neg z, if_neg z, if_neg (show ¬ Int32.ofNat (y1 - y0) = 0 by rw [show (0 : Int32) = Int32.ofNat 0 from rfl, i_eq (by omega) (by decide)]; omega), if_neg le, if_neg le, k1', b2_some]
    exact ⟨_, _, rfl, k2, k3⟩
theorem d_dn1 (hN : 100000 ≤ N) (H : UV N h b e Ln Co c r) (h0 : y0 < 80) (h1 : y1 < 80) (hu : Uc (W + 4800) c r) (hv : lnD y0 y1 c < 1000000) : ∃ c' y r', RunC N h b x (plD y0 y1 c) c c' ∧ f343_upDown N h b (Int32.ofNat y0) (Int32.ofNat y1) 1 r = some (y, r') ∧ UV N h b e Ln Co c' r' ∧ XF 4800 c r c' r' ∧ ¬ y = -1 := by
  have hnn : ∀ {y : Int32}, CC 80 (lnD y0 y1 c) y → ¬ y = -1 := by
    intro y hc g
    rcases hc with ⟨_, n, n1, n2, n3⟩ | ⟨n, n1, n2, n3⟩
    · rw [n3, show (1000000 : Int32) = Int32.ofNat 1000000 from rfl, i_lt (by omega) (by decide)] at hv
      omega
    · rw [n3] at g
      exact absurd g (ofn_ne (by omega))
  unfold f343_upDown plD
  unfold lnD at hv hnn
  rw [e_abs (by omega) (by omega)]
  by_cases z0 : y0 = y1
  · subst z0
    rw [if_neg (Nat.lt_irrefl _), if_neg (Nat.lt_irrefl _), Nat.sub_self, if_pos (show Int32.ofNat 0 = 0 from rfl)]
    refine ⟨c, _, _, ?_, rfl, H, XF_m XF_r (by omega), by decide⟩
    unfold plP
    rw [if_pos rfl]
    rfl
  by_cases z : y1 < y0
  · rw [if_pos z] at hv hnn
    obtain ⟨c', y, r', k1, k2, k3, k4, k5⟩ := d_pr1 (N := N) (h := h) (b := b) (a0 := 10) (a1 := 14) (k := y0 - y1) (x := x) (W := W) hN H (by decide) (by decide) (by decide) (by decide) (by omega) (by omega) hu hv
    have k2' : f344_eitherOf N h b 10 14 (Int32.ofNat (y0 - y1)) 1 r = some (y, r') := k2
    have le : Int32.ofNat y1 ≤ Int32.ofNat y0 := by rw [i_le (by omega) (by omega)]; omega
    rw [if_pos z, if_pos z, if_neg (show ¬ Int32.ofNat (y0 - y1) = 0 by rw [show (0 : Int32) = Int32.ofNat 0 from rfl, i_eq (by omega) (by decide)]; omega), if_pos le, if_pos le, k2', b2_some]
    exact ⟨c', _, _, k1, rfl, k3, k4, hnn k5⟩
  · rw [if_neg z] at hv hnn
    obtain ⟨c', y, r', k1, k2, k3, k4, k5⟩ := d_pr1 (N := N) (h := h) (b := b) (a0 := 11) (a1 := 15) (k := y1 - y0) (x := x) (W := W) hN H (by decide) (by decide) (by decide) (by decide) (by omega) (by omega) hu hv
    have k2' : f344_eitherOf N h b 11 15 (Int32.ofNat (y1 - y0)) 1 r = some (y, r') := k2
    have le : ¬ Int32.ofNat y1 ≤ Int32.ofNat y0 := by rw [i_le (by omega) (by omega)]; omega
    rw [if_neg z, if_neg z, if_neg (show ¬ Int32.ofNat (y1 - y0) = 0 by rw [show (0 : Int32) = Int32.ofNat 0 from rfl, i_eq (by omega) (by decide)]; omega), if_neg le, if_neg le, k2', b2_some]
    exact ⟨c', _, _, k1, rfl, k3, k4, hnn k5⟩
end T
