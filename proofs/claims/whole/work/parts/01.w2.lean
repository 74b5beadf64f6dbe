/-! Fills and slides. -/
section W
variable {N h b : Nat} {c0 r0 c r : xA} {x y : Int32} {w T L H B Y X : Nat}
theorem e_fill {p A E n : Nat} {v : Int32} {a : xA} (hk : xk p = 100) (hl : xl h b p = n) (h1 : A ≤ E) (h2 : E ≤ n) (hn : n < 2 ^ 31) : f14_fill N h b p (Int32.ofNat A) (Int32.ofNat E) v a = some (xW a p (am_fll (a p) A E v)) := by
  unfold f14_fill
  have e1 : ¬ Int32.ofNat A < 0 := by rw [i_neg (by omega)]; exact fun q => q
  rw [xg_pos hk, xg_pos ⟨e1, by rw [i_le (by omega) (by omega)]; exact h1, by rw [i_cl (by omega), hl]; exact h2, by rw [hl]; exact hn⟩, i_cl (by omega), i_cl (by omega)]
  rfl
def slR (f : Nat → Int32) (A n k : Nat) (v : Int32) : Nat → Int32 := fun i => if A ≤ i ∧ i < A + n then (if i < A + k then v else f (i - k)) else f i
def slL (f : Nat → Int32) (A n k : Nat) (v : Int32) : Nat → Int32 := fun i => if A ≤ i ∧ i < A + n then (if i + k < A + n then f (i + k) else v) else f i
theorem xW_W {a : xA} {p : Nat} {f g : Nat → Int32} : xW (xW a p f) p g = xW a p g := by
  funext q
  unfold xW
  split <;> rfl
theorem xW_eq {a : xA} {p q i : Nat} {f : Nat → Int32} : xW a p f q i = if q = p then f i else a q i := by
  unfold xW
  split <;> rfl
/-- to the right -/
theorem e_slR {p A n l k : Nat} {v s : Int32} {a : xA} (hk : xk p = 100) (hl : xl h b p = l) (h1 : 0 < n) (h2 : A + n ≤ l) (hn : l < 2 ^ 30) (hs0 : 0 ≤ s) (hs : s.toNatClampNeg = k) : f108_slide N h b p (Int32.ofNat A) (Int32.ofNat n) s v a = some (xW a p (slR (a p) A n k v)) := by
  unfold f108_slide j108_28
  have e1 : ¬ Int32.ofNat A < 0 := by rw [i_neg (by omega)]; exact fun q => q
  have e0 : (0 : Int32) = Int32.ofNat 0 := rfl
  have es : s = Int32.ofNat k := by rw [← hs, i_ofn hs0]
  have lk : k < 2 ^ 31 := by rw [← hs]; exact Int32.toNatClampNeg_lt s
  rw [xg_pos hk, if_neg e1, if_neg (by rw [e0, i_le (by omega) (by omega)]; omega), hl, if_pos (by rw [← Int32.ofNat_sub _ _ (by omega), i_le (by omega) (by omega)]; omega)]
  by_cases z : n ≤ k
  · rw [es, if_pos (by rw [i_le (by omega) (by omega)]; exact z), ← Int32.ofNat_add, e_fill hk hl (by omega) h2 (by omega), b1_some]
    congr 2
    funext i
    unfold am_fll slR
    grind
  · have e2 : -Int32.ofNat n < s := by
      have q1 : 0 < Int32.ofNat n := by rw [e0, i_lt (by omega) (by omega)]; exact h1
      grind
    have e3 : ¬ s < 0 := Int32.not_lt.mpr hs0
    rw [if_neg (by rw [es, i_le (by omega) (by omega)]; exact z), if_pos e2, if_neg e3, es, ← Int32.ofNat_add, ← Int32.ofNat_sub _ _ (by omega), i_cl (by omega), i_cl (by omega), i_cl (by omega), xg_pos ⟨e1, by rw [i_neg (by omega)]; exact fun q => q, by rw [i_neg (by omega)]; exact fun q => q, by omega, by omega⟩]
    unfold xw
    dsimp only
    rw [e_fill hk hl (by omega) (by omega) (by omega), b1_some, xW_W, xW_e]
    congr 2
    funext i
    unfold am_fll slR va_cpy
    grind
/-- to the left -/
theorem e_slL {p A n l k : Nat} {v s : Int32} {a : xA} (hk : xk p = 100) (hl : xl h b p = l) (h1 : 0 < n) (h2 : A + n ≤ l) (hn : l < 2 ^ 30) (hs0 : s < 0) (hs : s.toInt = -(k : Int)) : f108_slide N h b p (Int32.ofNat A) (Int32.ofNat n) s v a = some (xW a p (slL (a p) A n k v)) := by
  unfold f108_slide j108_28
  have e1 : ¬ Int32.ofNat A < 0 := by rw [i_neg (by omega)]; exact fun q => q
  have e0 : (0 : Int32) = Int32.ofNat 0 := rfl
  have tn : (Int32.ofNat n).toInt = n := Int32.toInt_ofNat_of_lt (by omega)
  rw [xg_pos hk, if_neg e1, if_neg (by rw [e0, i_le (by omega) (by omega)]; omega), hl, if_pos (by rw [← Int32.ofNat_sub _ _ (by omega), i_le (by omega) (by omega)]; omega)]
  have q1 : 0 < Int32.ofNat n := by rw [e0, i_lt (by omega) (by omega)]; exact h1
  rw [if_neg (by grind)]
  have tm : (-Int32.ofNat n).toInt = -(n : Int) := by
    rw [Int32.toInt_neg, tn, Int.bmod_eq_of_le (by omega) (by omega)]
  by_cases z : n ≤ k
  · rw [if_neg (by rw [Int32.lt_iff_toInt_lt, tm, hs]; omega), ← Int32.ofNat_add, e_fill hk hl (by omega) h2 (by omega), b1_some]
    congr 2
    funext i
    unfold am_fll slL
    grind
  · have es : s = -Int32.ofNat k := by
      apply Int32.toInt_inj.mp
      have tk : (Int32.ofNat k).toInt = k := Int32.toInt_ofNat_of_lt (by omega)
      rw [Int32.toInt_neg, tk, hs, Int.bmod_eq_of_le (by omega) (by omega)]
    have q2 : Int32.ofNat A - s = Int32.ofNat (A + k) := by rw [es, Int32.ofNat_add]; grind
    have q3 : Int32.ofNat n + s = Int32.ofNat (n - k) := by rw [es, Int32.ofNat_sub _ _ (by omega)]; grind
    have q4 : Int32.ofNat A + Int32.ofNat n + s = Int32.ofNat (A + n - k) := by rw [es, ← Int32.ofNat_add, Int32.ofNat_sub _ _ (by omega)]; grind
    rw [if_pos (by rw [Int32.lt_iff_toInt_lt, tm, hs]; omega), if_pos hs0, q2, q3, q4, ← Int32.ofNat_add, i_cl (by omega), i_cl (by omega), i_cl (by omega), xg_pos ⟨by rw [i_neg (by omega)]; exact fun q => q, e1, by rw [i_neg (by omega)]; exact fun q => q, by omega, by omega⟩]
    unfold xw
    dsimp only
    rw [e_fill hk hl (by omega) (by omega) (by omega), b1_some, xW_W, xW_e]
    congr 2
    funext i
    unfold am_fll slL va_cpy
    grind
/-- the reference's cells of a window -/
def Cl (w : Nat) (r a : xA) (G : Nat → Nat → Int32) : Prop := (∀ p, p ≠ 181 → a p = r p) ∧ (∀ i, ¬ (1920 * w ≤ i ∧ i < 1920 * w + 1920) → a 181 i = r 181 i) ∧ ∀ y x, y < 24 → x < 80 → a 181 (1920 * w + 80 * y + x) = G y x
def g0 (w : Nat) (r : xA) (y x : Nat) : Int32 := r 181 (1920 * w + 80 * y + x)
theorem Cl_rfl : Cl w r r (g0 w r) := ⟨fun _ _ => rfl, fun _ _ => rfl, fun _ _ _ _ => rfl⟩
theorem Cl_eq {a : xA} {G G' : Nat → Nat → Int32} (hC : Cl w r a G) (hG : ∀ y x, y < 24 → x < 80 → G y x = G' y x) : Cl w r a G' := ⟨hC.1, hC.2.1, fun y x h1 h2 => (hC.2.2 y x h1 h2).trans (hG y x h1 h2)⟩
theorem Cl_tr {a a2 : xA} {G G' : Nat → Nat → Int32} (hC : Cl w r a G) (hD : Cl w a a2 G') : Cl w r a2 G' := ⟨fun p hp => (hD.1 p hp).trans (hC.1 p hp), fun i hi => (hD.2.1 i hi).trans (hC.2.1 i hi), hD.2.2⟩
theorem Cl_u {a : xA} {G : Nat → Nat → Int32} {y x : Nat} {v : Int32} (hC : Cl w r a G) (hy : y < 24) (hx : x < 80) : Cl w r (xU a 181 (1920 * w + 80 * y + x) v) (fun y' x' => if y' = y ∧ x' = x then v else G y' x') := by
  refine ⟨fun p hp => ?_, fun i hi => ?_, fun y1 x1 h1 h2 => ?_⟩
  · rw [xU_o hp]; exact hC.1 p hp
  · rw [xU_eq, if_neg (by omega)]; exact hC.2.1 i hi
  · show _ = if y1 = y ∧ x1 = x then v else G y1 x1
    rw [xU_eq]
    by_cases z : y1 = y ∧ x1 = x
    · rw [if_pos z, if_pos (by omega)]
    · rw [if_neg z, if_neg (by omega)]; exact hC.2.2 y1 x1 h1 h2
/-- clears -/
theorem e_clears {y A E : Nat} {a : xA} (hN : 100000 ≤ N) (hw : w < 8) (hy : y < 24) (hA : A ≤ E) (hE : E ≤ 80) : ∃ a', f317_clears N h b (Int32.ofNat w) (Int32.ofNat y) (Int32.ofNat A) (Int32.ofNat E) a = some a' ∧ Cl w a a' (fun y' x' => if y' = y ∧ A ≤ x' ∧ x' < E then 32 else g0 w a y' x') := by
  unfold f317_clears
  obtain ⟨a', e1, e2⟩ := lp_up (L := l317_3 N h b (Int32.ofNat w) (Int32.ofNat y) (Int32.ofNat E)) (hi := E) (out := fun a => (0, a)) (P := fun j a' => A ≤ j ∧ Cl w a a' (fun y' x' => if y' = y ∧ A ≤ x' ∧ x' < j then 32 else g0 w a y' x'))
    (fun n j a1 h1 h2 => by
      rw [l317_3, if_neg (by rw [i_le (by omega) (by omega)]; omega), e_ca, b2_some, xg_pos (g_ix (by omega) (by decide)), i_cl (by omega), on_s]
      exact ⟨_, rfl, by omega, Cl_eq (Cl_u h1.2 hy (by omega)) (fun y' x' h3 h4 => by have := h1.1; grind)⟩)
    (fun n a1 h1 => by rw [l317_3, if_pos (Int32.le_refl _)])
    (E - A) A N a (by omega) (by omega) ⟨Nat.le_refl _, Cl_eq Cl_rfl (fun y' x' h3 h4 => by rw [if_neg (by omega)])⟩
  rw [e1]
  exact ⟨a', rfl, e2.2⟩
end W
