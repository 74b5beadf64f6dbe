/-! Loops that count; windows. -/
theorem lp_up {α : Type} {L : Nat → Int32 → xA → Option α} {hi : Nat} {out : xA → α} {P : Nat → xA → Prop}
    (hE : ∀ n j a, P j a → j < hi → ∃ a', L (n + 1) (Int32.ofNat j) a = L n (Int32.ofNat (j + 1)) a' ∧ P (j + 1) a') (hZ : ∀ n a, P hi a → L (n + 1) (Int32.ofNat hi) a = some (out a)) :
    ∀ (k j n : Nat) (a : xA), j + k = hi → k < n → P j a → ∃ a', L n (Int32.ofNat j) a = some (out a') ∧ P hi a'
  | 0, j, n, a, h1, h2, h3 => by
    obtain ⟨m, rfl⟩ : ∃ m, n = m + 1 := ⟨n - 1, by omega⟩
    have : j = hi := by omega
    subst this
    exact ⟨a, hZ m a h3, h3⟩
  | k + 1, j, n, a, h1, h2, h3 => by
    obtain ⟨m, rfl⟩ : ∃ m, n = m + 1 := ⟨n - 1, by omega⟩
    obtain ⟨a', e, h4⟩ := hE m j a h3 (by omega)
    obtain ⟨a2, e2, h5⟩ := lp_up hE hZ k (j + 1) m a' (by omega) (by omega) h4
    exact ⟨a2, by rw [e, e2], h5⟩
theorem g_ix {j n : Nat} (hj : j < n) (hn : n ≤ 2 ^ 31) : ¬ (Int32.ofNat j < 0 ∨ n ≤ (Int32.ofNat j).toNatClampNeg) := by
  rw [i_neg (by omega), i_cl (by omega)]
  rintro (q | q)
  · exact q
  · omega
theorem on_s (j : Nat) : Int32.ofNat j + 1 = Int32.ofNat (j + 1) := by rw [Int32.ofNat_add]; rfl
theorem on_p {j : Nat} (h : 1 ≤ j) : Int32.ofNat j - 1 = Int32.ofNat (j - 1) := by
  rw [show (1 : Int32) = Int32.ofNat 1 from rfl, ← Int32.ofNat_sub _ _ h]
theorem mul_ub {y x H B : Nat} (hy : y < H) (hx : x < B) : y * B + x < H * B := by
  have : (y + 1) * B ≤ H * B := Nat.mul_le_mul_right B hy
  rw [Nat.add_mul] at this
  omega
theorem hb_ub {H B : Nat} (hH : H ≤ 24) (hB : B ≤ 80) : H * B ≤ 1920 := Nat.mul_le_mul hH hB
theorem mul_inj {y x y' x' B : Nat} (hx : x < B) (hx' : x' < B) (e : y * B + x = y' * B + x') : y = y' ∧ x = x' := by
  have h0 : 0 < B := by omega
  have e1 : (y * B + x) / B = y := by rw [Nat.mul_comm, Nat.mul_add_div h0, Nat.div_eq_of_lt hx]; rfl
  have e2 : (y' * B + x') / B = y' := by rw [Nat.mul_comm, Nat.mul_add_div h0, Nat.div_eq_of_lt hx']; rfl
  have e3 : y = y' := by rw [← e1, ← e2, e]
  subst e3
  exact ⟨rfl, by omega⟩
section W
variable {N h b : Nat} {c0 r0 c r : xA} {x y : Int32} {w T L H B Y X : Nat}
theorem xkw (hw : w < 8) : xk (141 + 2 * w) = 10 := by
  have : ∀ w : Nat, w < 8 → xk (141 + 2 * w) = 10 := by decide
  exact this w hw
theorem xkg (hw : w < 8) : xk (141 + 2 * w + 1) = 100 := by
  have : ∀ w : Nat, w < 8 → xk (141 + 2 * w + 1) = 100 := by decide
  exact this w hw
theorem xlg (hw : w < 8) : xl h b (141 + 2 * w + 1) = 1920 := by
  rcases (show w = 0 ∨ w = 1 ∨ w = 2 ∨ w = 3 ∨ w = 4 ∨ w = 5 ∨ w = 6 ∨ w = 7 by omega) with q | q | q | q | q | q | q | q <;> subst q <;> rfl
/-- what a window's calls may change -/
def Wf (w : Nat) (c0 r0 c r : xA) : Prop := (∀ p, p ≠ 141 + 2 * w → p ≠ 141 + 2 * w + 1 → p ≠ 97 → c p = c0 p) ∧ (∀ i, i ≠ 12 → c 97 i = c0 97 i) ∧ (∀ p, p ≠ 157 → ¬ (172 ≤ p ∧ p ≤ 181) → r p = r0 p) ∧ (∀ i, i ≠ 36 → r 157 i = r0 157 i) ∧ (∀ p i, 172 ≤ p → p ≤ 180 → i ≠ w → r p i = r0 p i) ∧ (∀ i, ¬ (1920 * w ≤ i ∧ i < 1920 * w + 1920) → r 181 i = r0 181 i) ∧ c 97 12 = r 157 36
/-- an open window -/
def Wd (w T L H B Y X : Nat) (c r : xA) : Prop := (c (141 + 2 * w) 1 = 1 ∧ r 172 w = 1 ∧ c (141 + 2 * w) 2 = Int32.ofNat T ∧ r 173 w = Int32.ofNat T ∧ c (141 + 2 * w) 3 = Int32.ofNat L ∧ r 174 w = Int32.ofNat L ∧ c (141 + 2 * w) 4 = Int32.ofNat H ∧ r 175 w = Int32.ofNat H ∧ c (141 + 2 * w) 5 = Int32.ofNat B ∧ r 176 w = Int32.ofNat B ∧ c (141 + 2 * w) 6 = Int32.ofNat Y ∧ r 177 w = Int32.ofNat Y ∧ c (141 + 2 * w) 7 = Int32.ofNat X ∧ r 178 w = Int32.ofNat X) ∧
  (c (141 + 2 * w) 8 = r 179 w ∧ c (141 + 2 * w) 9 = r 180 w ∧ (c (141 + 2 * w) 9 = 0 ∨ c (141 + 2 * w) 9 = 1)) ∧ (1 ≤ H ∧ T + H ≤ 24 ∧ 1 ≤ B ∧ L + B ≤ 80 ∧ Y < H ∧ X < B) ∧ (∀ y x, y < H → x < B → c (141 + 2 * w + 1) (y * B + x) = r 181 (1920 * w + 80 * y + x))
def WD (w T L H B : Nat) (c0 r0 c r : xA) : Prop := w < 8 ∧ Wf w c0 r0 c r ∧ ∃ Y X, Wd w T L H B Y X c r
/-- both cursors go -/
theorem Wd_Y {Y' : Nat} (hd : Wd w T L H B Y X c r) (hY : Y' < H) : Wd w T L H B Y' X (xU c (141 + 2 * w) 6 (Int32.ofNat Y')) (xU r 177 w (Int32.ofNat Y')) := by
  obtain ⟨⟨a1, a2, a3, a4, a5, a6, a7, a8, a9, a10, a11, a12, a13, a14⟩, ⟨b1, b2, b3⟩, ⟨d1, d2, d3, d4, d5, d6⟩, e⟩ := hd
  unfold Wd
  simp only [xU_eq]
  refine ⟨⟨?_, ?_, ?_, ?_, ?_, ?_, ?_, ?_, ?_, ?_, ?_, ?_, ?_, ?_⟩, ⟨?_, ?_, ?_⟩, ⟨d1, d2, d3, d4, hY, d6⟩, ?_⟩
  all_goals simp <;> assumption
theorem Wd_X {X' : Nat} (hd : Wd w T L H B Y X c r) (hX : X' < B) : Wd w T L H B Y X' (xU c (141 + 2 * w) 7 (Int32.ofNat X')) (xU r 178 w (Int32.ofNat X')) := by
  obtain ⟨⟨a1, a2, a3, a4, a5, a6, a7, a8, a9, a10, a11, a12, a13, a14⟩, ⟨b1, b2, b3⟩, ⟨d1, d2, d3, d4, d5, d6⟩, e⟩ := hd
  unfold Wd
  simp only [xU_eq]
  refine ⟨⟨?_, ?_, ?_, ?_, ?_, ?_, ?_, ?_, ?_, ?_, ?_, ?_, ?_, ?_⟩, ⟨?_, ?_, ?_⟩, ⟨d1, d2, d3, d4, d5, hX⟩, ?_⟩
  all_goals simp <;> assumption
/-- the cells are others -/
theorem Wd_g {f g : Nat → Int32} (hw : w < 8) (hd : Wd w T L H B Y X c r) (hg : ∀ y x, y < H → x < B → f (y * B + x) = g (1920 * w + 80 * y + x)) : Wd w T L H B Y X (xW c (141 + 2 * w + 1) f) (xW r 181 g) := by
  obtain ⟨a, b, d, e⟩ := hd
  refine ⟨?_, ?_, d, fun y x h1 h2 => ?_⟩
  · simp only [xW_o (show 141 + 2 * w ≠ 141 + 2 * w + 1 by omega), xW_o (show (172 : Nat) ≠ 181 by decide), xW_o (show (173 : Nat) ≠ 181 by decide), xW_o (show (174 : Nat) ≠ 181 by decide), xW_o (show (175 : Nat) ≠ 181 by decide), xW_o (show (176 : Nat) ≠ 181 by decide), xW_o (show (177 : Nat) ≠ 181 by decide), xW_o (show (178 : Nat) ≠ 181 by decide)]
    exact a
  · simp only [xW_o (show 141 + 2 * w ≠ 141 + 2 * w + 1 by omega), xW_o (show (179 : Nat) ≠ 181 by decide), xW_o (show (180 : Nat) ≠ 181 by decide)]
    exact b
  · rw [xW_e, xW_e]; exact hg y x h1 h2
theorem Wf_u {p i q j : Nat} {v v' : Int32} (hf : Wf w c0 r0 c r) (hp : p = 141 + 2 * w ∨ p = 141 + 2 * w + 1) (hq : 172 ≤ q ∧ q ≤ 180 ∧ j = w ∨ q = 181 ∧ 1920 * w ≤ j ∧ j < 1920 * w + 1920) : Wf w c0 r0 (xU c p i v) (xU r q j v') := by
  obtain ⟨f1, f2, f3, f4, f5, f6, f7⟩ := hf
  refine ⟨fun p1 h1 h2 h3 => ?_, fun i1 h1 => ?_, fun p1 h1 h2 => ?_, fun i1 h1 => ?_, fun p1 i1 h1 h2 h3 => ?_, fun i1 h1 => ?_, ?_⟩
  · rw [xU_o (by omega)]; exact f1 p1 h1 h2 h3
  · rw [xU_o (by omega)]; exact f2 i1 h1
  · rw [xU_o (by omega)]; exact f3 p1 h1 h2
  · rw [xU_o (by omega)]; exact f4 i1 h1
  · rw [xU_eq, if_neg (by omega)]; exact f5 p1 i1 h1 h2 h3
  · rw [xU_eq, if_neg (by omega)]; exact f6 i1 h1
  · rw [xU_o (by omega), xU_o (by omega)]; exact f7
theorem Wf_g {f g : Nat → Int32} (hf : Wf w c0 r0 c r) (hg : ∀ i, ¬ (1920 * w ≤ i ∧ i < 1920 * w + 1920) → g i = r 181 i) : Wf w c0 r0 (xW c (141 + 2 * w + 1) f) (xW r 181 g) := by
  obtain ⟨f1, f2, f3, f4, f5, f6, f7⟩ := hf
  refine ⟨fun p1 h1 h2 h3 => ?_, fun i1 h1 => ?_, fun p1 h1 h2 => ?_, fun i1 h1 => ?_, fun p1 i1 h1 h2 h3 => ?_, fun i1 h1 => ?_, ?_⟩
  · rw [xW_o h2]; exact f1 p1 h1 h2 h3
  · rw [xW_o (by omega)]; exact f2 i1 h1
  · rw [xW_o (by omega)]; exact f3 p1 h1 h2
  · rw [xW_o (by omega)]; exact f4 i1 h1
  · rw [xW_o (by omega)]; exact f5 p1 i1 h1 h2 h3
  · rw [xW_e, hg i1 h1]; exact f6 i1 h1
  · rw [xW_o (by omega), xW_o (by omega)]; exact f7
theorem Wf_rfl (hb : c 97 12 = r 157 36) : Wf w c r c r := ⟨fun _ _ _ _ => rfl, fun _ _ => rfl, fun _ _ _ => rfl, fun _ _ => rfl, fun _ _ _ _ _ => rfl, fun _ _ => rfl, hb⟩
theorem e_ca {a : xA} {w y x : Nat} : f314_cellAt N h b (Int32.ofNat w) (Int32.ofNat y) (Int32.ofNat x) a = some (Int32.ofNat (1920 * w + 80 * y + x), a) := by
  unfold f314_cellAt
  rw [Int32.ofNat_add, Int32.ofNat_add, Int32.ofNat_mul, Int32.ofNat_mul]
  rfl
/-- one cell is set in both -/
theorem Wd_c {y x : Nat} {v : Int32} (hw : w < 8) (hd : Wd w T L H B Y X c r) (hy : y < H) (hx : x < B) : Wd w T L H B Y X (xU c (141 + 2 * w + 1) (y * B + x) v) (xU r 181 (1920 * w + 80 * y + x) v) := by
  have hd' := hd
  obtain ⟨a, b, ⟨d1, d2, d3, d4, d5, d6⟩, e⟩ := hd'
  refine Wd_g hw hd (fun y1 x1 h1 h2 => ?_)
  unfold upd
  by_cases z : y1 = y ∧ x1 = x
  · obtain ⟨z1, z2⟩ := z
    subst z1; subst z2
    rw [if_pos rfl, if_pos rfl]
  · rw [if_neg (fun q => z (mul_inj h2 hx q)), if_neg (fun q => z (by omega))]
    exact e y1 x1 h1 h2
end W
