/-! Rows that go up and down. -/
section W
variable {N h b : Nat} {c0 r0 c r : xA} {x y : Int32} {w T L H B Y X : Nat}
def gUp (w F H B Yd xd : Nat) (r : xA) (y x : Nat) : Int32 := if (F ≤ y ∧ y < Yd ∧ x < B) ∨ (y = Yd ∧ x < xd) then (if y + 1 < H then g0 w r (y + 1) x else 32) else g0 w r y x
def gDn (w F H B Yd xd : Nat) (r : xA) (y x : Nat) : Int32 := if (F ≤ y ∧ Yd < y ∧ y < H ∧ x < B) ∨ (y = Yd ∧ x < xd) then (if F < y then g0 w r (y - 1) x else 32) else g0 w r y x
theorem e_upr {F Yd : Nat} {a : xA} (hN : 100000 ≤ N) (hw : w < 8) (hH : H ≤ 24) (hB : B ≤ 80) (h5 : r 175 w = Int32.ofNat H) (h6 : r 176 w = Int32.ofNat B) (hF : F ≤ Yd) (hY : Yd < H) (hC : Cl w r a (gUp w F H B Yd 0 r)) : ∃ a', l316_15 N h b (Int32.ofNat w) (Int32.ofNat Yd) N 0 a = some (0, a') ∧ Cl w r a' (gUp w F H B (Yd + 1) 0 r) := by
  obtain ⟨a', e1, e2⟩ := lp_up (L := l316_15 N h b (Int32.ofNat w) (Int32.ofNat Yd)) (hi := B) (out := fun a => (0, a)) (P := fun j a' => Cl w r a' (gUp w F H B Yd j r))
    (fun n j a1 h1 h2 => by
      have g6 : a1 176 w = Int32.ofNat B := by rw [h1.1 176 (by decide)]; exact h6
      have g5 : a1 175 w = Int32.ofNat H := by rw [h1.1 175 (by decide)]; exact h5
      rw [l316_15, xg_pos (g_ix (by omega) (by decide)), i_cl (by omega), g6, if_neg (by rw [i_le (by omega) (by omega)]; omega), e_ca, b2_some, g5, on_s]
      unfold j316_70
      by_cases z : H ≤ Yd + 1
      · rw [if_pos (by rw [i_le (by omega) (by omega)]; exact z), xg_pos (g_ix (by omega) (by decide)), i_cl (by omega), on_s]
        exact ⟨_, rfl, Cl_eq (Cl_u h1 (by omega) (by omega)) (fun y' x' h3 h4 => by unfold gUp; grind)⟩
      · rw [if_neg (by rw [i_le (by omega) (by omega)]; exact z), e_ca, b2_some, xg_pos (g_ix (by omega) (by decide)), xg_pos (g_ix (by omega) (by decide)), i_cl (by omega), i_cl (by omega), on_s, h1.2.2 (Yd + 1) j (by omega) (by omega)]
        exact ⟨_, rfl, Cl_eq (Cl_u h1 (by omega) (by omega)) (fun y' x' h3 h4 => by unfold gUp; grind)⟩)
    (fun n a1 h1 => by
      have g6 : a1 176 w = Int32.ofNat B := by rw [h1.1 176 (by decide)]; exact h6
      rw [l316_15, xg_pos (g_ix (by omega) (by decide)), i_cl (by omega), g6, if_pos (Int32.le_refl _)])
    B 0 N a (by omega) (by omega) hC
  exact ⟨a', e1, Cl_eq e2 (fun y' x' h3 h4 => by unfold gUp; grind)⟩
theorem e_up {F : Nat} (hN : 100000 ≤ N) (hw : w < 8) (hH : H ≤ 24) (hB : B ≤ 80) (h5 : r 175 w = Int32.ofNat H) (h6 : r 176 w = Int32.ofNat B) (hF : F < H) : ∃ a', f316_up N h b (Int32.ofNat w) (Int32.ofNat F) r = some a' ∧ Cl w r a' (fun y x => if F ≤ y ∧ y < H ∧ x < B then (if y + 1 < H then g0 w r (y + 1) x else 32) else g0 w r y x) := by
  unfold f316_up
  obtain ⟨a', e1, e2⟩ := lp_up (L := l316_2 N h b (Int32.ofNat w)) (hi := H) (out := fun a => (0, a)) (P := fun j a' => F ≤ j ∧ Cl w r a' (gUp w F H B j 0 r))
    (fun n j a1 h1 h2 => by
      have g5 : a1 175 w = Int32.ofNat H := by rw [h1.2.1 175 (by decide)]; exact h5
      obtain ⟨a2, e1, e2⟩ := e_upr (N := N) (h := h) (b := b) hN hw hH hB h5 h6 h1.1 h2 h1.2
      rw [l316_2, xg_pos (g_ix (by omega) (by decide)), i_cl (by omega), g5, if_neg (by rw [i_le (by omega) (by omega)]; omega), e1, on_s]
      exact ⟨a2, rfl, by omega, e2⟩)
    (fun n a1 h1 => by
      have g5 : a1 175 w = Int32.ofNat H := by rw [h1.2.1 175 (by decide)]; exact h5
      rw [l316_2, xg_pos (g_ix (by omega) (by decide)), i_cl (by omega), g5, if_pos (Int32.le_refl _)])
    (H - F) F N r (by omega) (by omega) ⟨Nat.le_refl _, Cl_eq Cl_rfl (fun y' x' h3 h4 => by unfold gUp; grind)⟩
  rw [e1]
  exact ⟨a', rfl, Cl_eq e2.2 (fun y' x' h3 h4 => by unfold gUp; grind)⟩
theorem e_dnr {F Yd : Nat} {a : xA} (hN : 100000 ≤ N) (hw : w < 8) (hH : H ≤ 24) (hB : B ≤ 80) (h5 : r 175 w = Int32.ofNat H) (h6 : r 176 w = Int32.ofNat B) (hF : F ≤ Yd) (hY : Yd < H) (hC : Cl w r a (gDn w F H B Yd 0 r)) : ∃ a', l320_17 N h b (Int32.ofNat w) (Int32.ofNat F) (Int32.ofNat Yd) N 0 a = some (0, a') ∧ Cl w r a' (gDn w F H B Yd B r) := by
  obtain ⟨a', e1, e2⟩ := lp_up (L := l320_17 N h b (Int32.ofNat w) (Int32.ofNat F) (Int32.ofNat Yd)) (hi := B) (out := fun a => (0, a)) (P := fun j a' => Cl w r a' (gDn w F H B Yd j r))
    (fun n j a1 h1 h2 => by
      have g6 : a1 176 w = Int32.ofNat B := by rw [h1.1 176 (by decide)]; exact h6
      rw [l320_17, xg_pos (g_ix (by omega) (by decide)), i_cl (by omega), g6, if_neg (by rw [i_le (by omega) (by omega)]; omega), e_ca, b2_some]
      unfold j320_65
      by_cases z : Yd ≤ F
      · rw [if_pos (by rw [i_le (by omega) (by omega)]; exact z), xg_pos (g_ix (by omega) (by decide)), i_cl (by omega), on_s]
        exact ⟨_, rfl, Cl_eq (Cl_u h1 (by omega) (by omega)) (fun y' x' h3 h4 => by unfold gDn; grind)⟩
      · rw [if_neg (by rw [i_le (by omega) (by omega)]; exact z), on_p (by omega), e_ca, b2_some, xg_pos (g_ix (by omega) (by decide)), xg_pos (g_ix (by omega) (by decide)), i_cl (by omega), i_cl (by omega), on_s, h1.2.2 (Yd - 1) j (by omega) (by omega)]
        exact ⟨_, rfl, Cl_eq (Cl_u h1 (by omega) (by omega)) (fun y' x' h3 h4 => by unfold gDn; grind)⟩)
    (fun n a1 h1 => by
      have g6 : a1 176 w = Int32.ofNat B := by rw [h1.1 176 (by decide)]; exact h6
      rw [l320_17, xg_pos (g_ix (by omega) (by decide)), i_cl (by omega), g6, if_pos (Int32.le_refl _)])
    B 0 N a (by omega) (by omega) hC
  exact ⟨a', e1, e2⟩
/-- rows left: k; the next is F + k - 1 -/
theorem e_dnl {F : Nat} (hN : 100000 ≤ N) (hw : w < 8) (hH : H ≤ 24) (hB : B ≤ 80) (h5 : r 175 w = Int32.ofNat H) (h6 : r 176 w = Int32.ofNat B) : ∀ (k n : Nat) {a : xA}, F + k ≤ H → k < n → Cl w r a (fun y x => if F ≤ y ∧ F + k ≤ y ∧ y < H ∧ x < B then (if F < y then g0 w r (y - 1) x else 32) else g0 w r y x) → ∃ a', l320_9 N h b (Int32.ofNat w) (Int32.ofNat F) n (Int32.ofNat (F + k) - 1) a = some (0, a') ∧ Cl w r a' (fun y x => if F ≤ y ∧ y < H ∧ x < B then (if F < y then g0 w r (y - 1) x else 32) else g0 w r y x)
  | 0, n, a, h1, h2, h3 => by
    obtain ⟨m, rfl⟩ : ∃ m, n = m + 1 := ⟨n - 1, by omega⟩
    refine ⟨a, ?_, Cl_eq h3 (fun y' x' h3 h4 => by grind)⟩
    rw [l320_9, if_pos]
    have : Int32.ofNat F ≤ 24 := by rw [show (24 : Int32) = Int32.ofNat 24 from rfl, i_le (by omega) (by decide)]; omega
    have h0 : 0 ≤ Int32.ofNat F := by rw [show (0 : Int32) = Int32.ofNat 0 from rfl, i_le (by decide) (by omega)]; omega
    show Int32.ofNat F - 1 < Int32.ofNat F
    grind
  | k + 1, n, a, h1, h2, h3 => by
    obtain ⟨m, rfl⟩ : ∃ m, n = m + 1 := ⟨n - 1, by omega⟩
    obtain ⟨a1, e1, e2⟩ := e_dnr (N := N) (h := h) (b := b) (F := F) (Yd := F + k) hN hw hH hB h5 h6 (by omega) (by omega) (Cl_eq h3 (fun y' x' h3 h4 => by unfold gDn; grind))
    obtain ⟨a2, e3, e4⟩ := e_dnl (F := F) hN hw hH hB h5 h6 k m (a := a1) (by omega) (by omega) (Cl_eq e2 (fun y' x' h3 h4 => by unfold gDn; grind))
    refine ⟨a2, ?_, e4⟩
    have ep : Int32.ofNat (F + (k + 1)) - 1 = Int32.ofNat (F + k) := on_p (by omega)
    have eq : Int32.ofNat (F + k) + (-1) = Int32.ofNat (F + k) - 1 := by grind
    rw [l320_9, ep, if_neg (by rw [i_lt (by omega) (by omega)]; omega), e1]
    show l320_9 N h b (Int32.ofNat w) (Int32.ofNat F) m (Int32.ofNat (F + k) + (-1)) a1 = _
    rw [eq, e3]
theorem e_dn {F : Nat} (hN : 100000 ≤ N) (hw : w < 8) (hH : H ≤ 24) (hB : B ≤ 80) (h5 : r 175 w = Int32.ofNat H) (h6 : r 176 w = Int32.ofNat B) (hF : F < H) : ∃ a', f320_down N h b (Int32.ofNat w) (Int32.ofNat F) r = some a' ∧ Cl w r a' (fun y x => if F ≤ y ∧ y < H ∧ x < B then (if F < y then g0 w r (y - 1) x else 32) else g0 w r y x) := by
  unfold f320_down
  obtain ⟨a', e1, e2⟩ := e_dnl (N := N) (h := h) (b := b) (F := F) hN hw hH hB h5 h6 (H - F) N (a := r) (by omega) (by omega) (Cl_eq Cl_rfl (fun y' x' h3 h4 => by grind))
  rw [show F + (H - F) = H by omega] at e1
  rw [xg_pos (g_ix (by omega) (by decide)), i_cl (by omega), h5, e1]
  exact ⟨a', rfl, e2⟩
/-- so many rows up, so many rows down -/
def uU (w F H B k : Nat) (r : xA) (y x : Nat) : Int32 := if F ≤ y ∧ y < H ∧ x < B then (if y + k < H then g0 w r (y + k) x else 32) else g0 w r y x
def dD (w F H B k : Nat) (r : xA) (y x : Nat) : Int32 := if F ≤ y ∧ y < H ∧ x < B then (if F + k ≤ y then g0 w r (y - k) x else 32) else g0 w r y x
theorem uU_s {F k : Nat} {a a' : xA} (hH : H ≤ 24) (hB : B ≤ 80) (h1 : Cl w r a (uU w F H B k r)) (h2 : Cl w a a' (fun y x => if F ≤ y ∧ y < H ∧ x < B then (if y + 1 < H then g0 w a (y + 1) x else 32) else g0 w a y x)) : Cl w r a' (uU w F H B (k + 1) r) := by
  refine Cl_eq (Cl_tr h1 h2) (fun y x h3 h4 => ?_)
  have e1 : g0 w a y x = uU w F H B k r y x := h1.2.2 y x h3 h4
  by_cases z : F ≤ y ∧ y < H ∧ x < B
  · rw [if_pos z]
    by_cases z2 : y + 1 < H
    · have e2 : g0 w a (y + 1) x = uU w F H B k r (y + 1) x := h1.2.2 (y + 1) x (by omega) h4
      rw [if_pos z2, e2]
      unfold uU
      rw [if_pos (by omega), if_pos z, show y + 1 + k = y + (k + 1) by omega]
    · rw [if_neg z2]
      unfold uU
      rw [if_pos z, if_neg (by omega)]
  · rw [if_neg z, e1]
    unfold uU
    rw [if_neg z, if_neg z]
theorem dD_s {F k : Nat} {a a' : xA} (hH : H ≤ 24) (hB : B ≤ 80) (h1 : Cl w r a (dD w F H B k r)) (h2 : Cl w a a' (fun y x => if F ≤ y ∧ y < H ∧ x < B then (if F < y then g0 w a (y - 1) x else 32) else g0 w a y x)) : Cl w r a' (dD w F H B (k + 1) r) := by
  refine Cl_eq (Cl_tr h1 h2) (fun y x h3 h4 => ?_)
  have e1 : g0 w a y x = dD w F H B k r y x := h1.2.2 y x h3 h4
  by_cases z : F ≤ y ∧ y < H ∧ x < B
  · rw [if_pos z]
    by_cases z2 : F < y
    · have e2 : g0 w a (y - 1) x = dD w F H B k r (y - 1) x := h1.2.2 (y - 1) x (by omega) h4
      rw [if_pos z2, e2]
      unfold dD
      rw [if_pos (by omega), if_pos z]
      by_cases z3 : F + (k + 1) ≤ y
      · rw [if_pos z3, if_pos (by omega), show y - 1 - k = y - (k + 1) by omega]
      · rw [if_neg z3, if_neg (by omega)]
    · rw [if_neg z2]
      unfold dD
      rw [if_pos z, if_neg (by omega)]
  · rw [if_neg z, e1]
    unfold dD
    rw [if_neg z, if_neg z]
end W
