/-! The reader: abilities and names. -/
def nmv (i : Nat) : Int32 := (am_tx.getD 0 []).getD i 0
/-- the names of an entry -/
def En (e : Nat) (c r : xA) : Prop := ∃ k : Nat, k ≤ 4 ∧ c (9 + 7 * e) 2 = Int32.ofNat k ∧ r 160 e = Int32.ofNat k ∧ ∀ j, j < k → ∃ m : Nat, m ≤ 12 ∧ c (9 + 7 * e + 2) j = Int32.ofNat m ∧ r 162 (4 * e + j) = Int32.ofNat m ∧ ∀ i, i < m → By (c (9 + 7 * e + 1) (12 * j + i)) ∧ r 161 (12 * (4 * e + j) + i) = (c (9 + 7 * e + 1) (12 * j + i)).toInt8.toInt32
/-- the bytes on the tape -/
def Tp (c r : xA) : Prop := ∀ i, By (c 1 i) ∧ r 158 i = (c 1 i).toInt8.toInt32
section T
variable {N h b : Nat} {c0 r0 c r c' r' : xA} {x y z s v w : Int32} {len p i f k m q l a e : Nat}
theorem o12 {M i : Nat} : (12 : Int32) * Int32.ofNat M + Int32.ofNat i = Int32.ofNat (12 * M + i) := by rw [Int32.ofNat_add, Int32.ofNat_mul]; rfl
theorem o39 {M i : Nat} : (39 : Int32) * Int32.ofNat M + Int32.ofNat i = Int32.ofNat (39 * M + i) := by rw [Int32.ofNat_add, Int32.ofNat_mul]; rfl
theorem o40 {M i : Nat} : (40 : Int32) * Int32.ofNat M + Int32.ofNat i = Int32.ofNat (40 * M + i) := by rw [Int32.ofNat_add, Int32.ofNat_mul]; rfl
theorem ox4 {M i : Nat} : (4 : Int32) * Int32.ofNat M + Int32.ofNat i = Int32.ofNat (4 * M + i) := by rw [Int32.ofNat_add, Int32.ofNat_mul]; rfl
theorem gq {L : List Int32} (hi : i < L.length) : L[i]? = some (L.getD i 0) := by
  rw [List.getD_eq_getElem?_getD, List.getElem?_eq_getElem hi]
  rfl
theorem e_cs1 (hi : i < 195) : am_cs 1 i = some (nmv i) := gq (L := am_tx.getD 0 []) (show i < 195 from hi)
theorem e_cs4 (hi : i < 195) : am_cs 4 i = some (nmv i) := gq (L := am_tx.getD 3 []) (show i < 195 from hi)
theorem e_ab (hT : Tp c r) (hq : q + l ≤ 3000) (hl : l ≤ 5) (ha : a < 39) : ∀ (k j n : Nat), j + k = 5 → k + 1 < n → ∃ u : Int32, (u = 0 ∨ u = 1) ∧ l45_8 N h b 1 (Int32.ofNat q) (Int32.ofNat l) (Int32.ofNat (a * 5)) n (Int32.ofNat j) c = some (if u = 0 then 0 else 1, c) ∧ l281_23 N h b (Int32.ofNat q) (Int32.ofNat l) (Int32.ofNat a) n 1 (Int32.ofNat j) r = some (0, u, r) := by
  intro k
  induction k with
  | zero =>
    intro j n h1 h2
    obtain ⟨n, rfl⟩ : ∃ n', n = n' + 1 := ⟨n - 1, by omega⟩
    have : j = 5 := by omega
    subst this
    refine ⟨1, Or.inr rfl, ?_, ?_⟩
    · rw [l45_8, if_pos (by decide), if_neg (by decide)]
    · rw [l281_23, if_pos (by decide)]
  | succ k ih =>
    intro j n h1 h2
    obtain ⟨n, rfl⟩ : ∃ n', n = n' + 1 := ⟨n - 1, by omega⟩
    obtain ⟨u, hu, ih1, ih2⟩ := ih (j + 1) n (by omega) (by omega)
    have n5 : ¬ (5 : Int32) ≤ Int32.ofNat j := by rw [show (5 : Int32) = Int32.ofNat 5 from rfl, i_le (by decide) (by omega)]; omega
    have ea : Int32.ofNat (a * 5) + Int32.ofNat j = Int32.ofNat (a * 5 + j) := by rw [Int32.ofNat_add]
    have eb : (5 : Int32) * Int32.ofNat a + Int32.ofNat j = Int32.ofNat (a * 5 + j) := by rw [Int32.ofNat_add, Int32.ofNat_mul, Int32.mul_comm]; rfl
    have z0 : ∀ {n : Nat} {v5 : Int32}, l281_23 N h b (Int32.ofNat q) (Int32.ofNat l) (Int32.ofNat a) (n + 1) 0 v5 r = some (0, 0, r) := by
      intro n v5
      rw [l281_23]
      split
      · rfl
      · rw [if_pos rfl]
    obtain ⟨n1, rfl⟩ : ∃ n', n = n' + 1 := ⟨n - 1, by omega⟩
    rw [l45_8, l281_23, if_neg n5, if_neg n5, if_neg (by decide), ea, eb, xg_pos (by rw [i_neg (by omega)]; exact id), i_cl (by omega), e_cs1 (by omega), e_cs4 (by omega)]
    show ∃ u : Int32, (u = 0 ∨ u = 1) ∧ (if Int32.ofNat l ≤ Int32.ofNat j then _ else _) = _ ∧ (if Int32.ofNat l ≤ Int32.ofNat j then _ else _) = _
    by_cases lj : Int32.ofNat l ≤ Int32.ofNat j
    · rw [if_pos lj, if_pos lj, xg_pos (by rw [i_neg (by omega)]; exact id)]
      show ∃ u : Int32, (u = 0 ∨ u = 1) ∧ _ ∧ l281_23 N h b (Int32.ofNat q) (Int32.ofNat l) (Int32.ofNat a) (n1 + 1) (if nmv (a * 5 + j) = 32 then 1 else 0) (Int32.ofNat j + 1) r = _
      by_cases s : nmv (a * 5 + j) = 32
      · rw [if_pos s, if_neg (by decide), on_s]
        exact ⟨u, hu, ih1, ih2⟩
      · rw [if_neg s, if_pos rfl]
        exact ⟨0, Or.inl rfl, by rw [if_pos rfl], z0⟩
    · have lj' := lj
      rw [i_le (by omega) (by omega)] at lj'
      rw [if_neg lj, if_neg lj, xg_pos (show ¬ Int32.ofNat (a * 5 + j) < 0 by rw [i_neg (by omega)]; exact id)]
      show ∃ u : Int32, (u = 0 ∨ u = 1) ∧ (if nmv (a * 5 + j) = 32 then _ else _) = _ ∧ (if nmv (a * 5 + j) = 32 then _ else _) = _
      by_cases s : nmv (a * 5 + j) = 32
      · rw [if_pos s, if_pos s]
        refine ⟨0, Or.inl rfl, ?_, ?_⟩
        · unfold j45_55 j45_71
          rw [if_pos rfl]
          rfl
        · unfold j281_87 j281_112
          exact z0
      · rw [if_neg s, if_neg s, ← Int32.ofNat_add, show xl h b 1 = 3000 from rfl, xg_pos (g_ix (by omega) (by omega)), i_cl (by omega)]
        show ∃ u : Int32, (u = 0 ∨ u = 1) ∧ _ ∧ xg (¬ (Int32.ofNat (q + j) < 0 ∨ 3000 ≤ q + j)) (l281_23 N h b (Int32.ofNat q) (Int32.ofNat l) (Int32.ofNat a) (n1 + 1) (if nmv (a * 5 + j) = (r 158 (q + j) &&& 255) then 1 else 0) (Int32.ofNat j + 1) r) = _
        rw [xg_pos (show ¬ (Int32.ofNat (q + j) < 0 ∨ 3000 ≤ q + j) by rw [i_neg (by omega)]; simp; omega), (hT (q + j)).2, sb (hT (q + j)).1]
        by_cases s2 : c 1 (q + j) = nmv (a * 5 + j)
        · rw [if_pos s2, if_neg (by decide), if_pos s2.symm, on_s]
          exact ⟨u, hu, ih1, ih2⟩
        · rw [if_neg s2, if_pos rfl, if_neg (fun e => s2 e.symm)]
          exact ⟨0, Or.inl rfl, by rw [if_pos rfl], z0⟩
theorem e_abl (hN : 100000 ≤ N) (hT : Tp c r) (hq : q + l ≤ 3000) (hl : l ≤ 5) : ∀ (k a n : Nat), a + k = 39 → k < n → ∃ j, j ≤ 39 ∧ l44_26 N h b 1 (Int32.ofNat q) (Int32.ofNat l) n (Int32.ofNat a) c = some (if j < 39 then 0 else 1, Int32.ofNat j, c) ∧ l281_2 N h b (Int32.ofNat q) (Int32.ofNat l) n (Int32.ofNat a) r = some (if j < 39 then 0 else 1, Int32.ofNat j, r) := by
  intro k
  induction k with
  | zero =>
    intro a n h1 h2
    obtain ⟨n, rfl⟩ : ∃ n', n = n' + 1 := ⟨n - 1, by omega⟩
    have : a = 39 := by omega
    subst this
    refine ⟨39, by omega, ?_, ?_⟩
    · rw [l44_26, if_pos (by decide), if_neg (by omega)]
    · rw [l281_2, if_pos (by decide), if_neg (by omega)]
  | succ k ih =>
    intro a n h1 h2
    obtain ⟨n, rfl⟩ : ∃ n', n = n' + 1 := ⟨n - 1, by omega⟩
    obtain ⟨j, hj, ih1, ih2⟩ := ih (a + 1) n (by omega) (by omega)
    have n39 : ¬ (39 : Int32) ≤ Int32.ofNat a := by rw [show (39 : Int32) = Int32.ofNat 39 from rfl, i_le (by decide) (by omega)]; omega
    obtain ⟨u, hu, e1, e2⟩ := e_ab (N := N) (h := h) (b := b) (a := a) hT hq hl (by omega) 5 0 N (by omega) (by omega)
    have e1' : l45_8 N h b 1 (Int32.ofNat q) (Int32.ofNat l) (Int32.ofNat a * 5) N 0 c = some (if u = 0 then 0 else 1, c) := by
      rw [show Int32.ofNat a * 5 = Int32.ofNat (a * 5) by rw [Int32.ofNat_mul]; rfl]
      exact e1
    have e2' : l281_23 N h b (Int32.ofNat q) (Int32.ofNat l) (Int32.ofNat a) N 1 0 r = some (0, u, r) := e2
    rw [l44_26, l281_2, if_neg n39, if_neg n39, if_neg (by rw [show (5 : Int32) = Int32.ofNat 5 from rfl, i_lt (by decide) (by omega)]; omega), e2', Option.bind_some]
    unfold f45_isAbility j281_120
    rw [xg_pos (show xk 1 = 100 from rfl), e1', Option.bind_some]
    dsimp only
    rcases hu with e | e <;> subst e
    · refine ⟨j, hj, ?_, ?_⟩
      · rw [if_pos rfl, if_pos rfl, b2_some, if_pos rfl, on_s]; exact ih1
      · rw [if_pos rfl, on_s]; exact ih2
    · refine ⟨a, by omega, ?_, ?_⟩
      · rw [if_neg (show ¬ (1 : Int32) = 0 by decide), if_neg (show ¬ (1 : Nat) = 0 by decide), b2_some, if_neg (by decide), if_pos (by omega)]
      · rw [if_neg (by decide), if_pos (by omega)]
theorem d_abn (hN : 100000 ≤ N) (hT : Tp c r) (hq : q + l ≤ 3000) (hl : l ≤ 5) (hl1 : 1 ≤ l) : ∃ t, f44_abilityNamed N h b 1 (Int32.ofNat q) (Int32.ofNat l) c = some (t, c) ∧ f281_abilityOf N h b (Int32.ofNat q) (Int32.ofNat l) r = some (t, r) ∧ (t = -1 ∨ ∃ j : Nat, j < 39 ∧ t = Int32.ofNat j) := by
  obtain ⟨j, hj, e1, e2⟩ := e_abl (N := N) (h := h) (b := b) hN hT hq hl 39 0 N (by omega) (by omega)
  have e1' : l44_26 N h b 1 (Int32.ofNat q) (Int32.ofNat l) N 0 c = some (if j < 39 then 0 else 1, Int32.ofNat j, c) := e1
  have e2' : l281_2 N h b (Int32.ofNat q) (Int32.ofNat l) N 0 r = some (if j < 39 then 0 else 1, Int32.ofNat j, r) := e2
  unfold f44_abilityNamed f281_abilityOf
  rw [xg_pos (show xk 1 = 100 from rfl), if_neg (by rw [show (1 : Int32) = Int32.ofNat 1 from rfl, i_lt (by omega) (by decide)]; omega), if_neg (by rw [show (5 : Int32) = Int32.ofNat 5 from rfl, i_lt (by decide) (by omega)]; omega), if_neg (by rw [i_neg (by omega)]; exact id), show xl h b 1 = 3000 from rfl, ← Int32.ofNat_sub _ _ (by omega), if_pos (by rw [i_le (by omega) (by omega)]; omega), e1', e2', Option.bind_some, Option.bind_some]
  dsimp only
  by_cases q : j < 39
  · rw [if_pos q]
    exact ⟨Int32.ofNat j, by rw [if_pos rfl], by rw [if_pos rfl], Or.inr ⟨j, q, rfl⟩⟩
  · rw [if_neg q]
    exact ⟨-1, by rw [if_neg (by decide)], by rw [if_neg (by decide)], Or.inl rfl⟩
theorem d_ab0 (hN : 100000 ≤ N) (hT : Tp c r) (hq : q ≤ 3000) : ∃ t, f281_abilityOf N h b (Int32.ofNat q) 0 r = some (t, r) := by
  obtain ⟨j, hj, e1, e2⟩ := e_abl (N := N) (h := h) (b := b) (q := q) (l := 0) hN hT (by omega) (by omega) 39 0 N (by omega) (by omega)
  have e2' : l281_2 N h b (Int32.ofNat q) 0 N 0 r = some (if j < 39 then 0 else 1, Int32.ofNat j, r) := e2
  unfold f281_abilityOf
  rw [e2', Option.bind_some]
  dsimp only
  by_cases q : j < 39
  · rw [if_pos q]
    exact ⟨Int32.ofNat j, by rw [if_pos rfl]⟩
  · rw [if_neg q]
    exact ⟨-1, by rw [if_neg (by decide)]⟩
theorem d_ab6 (hN : 100000 ≤ N) (hl : 5 < l) (hl2 : l < 2 ^ 31) : f281_abilityOf N h b x (Int32.ofNat l) r = some (-1, r) := by
  have lp : ∀ (k a n : Nat), a + k = 39 → k < n → l281_2 N h b x (Int32.ofNat l) n (Int32.ofNat a) r = some (1, Int32.ofNat 39, r) := by
    intro k
    induction k with
    | zero =>
      intro a n h1 h2
      obtain ⟨n, rfl⟩ : ∃ n', n = n' + 1 := ⟨n - 1, by omega⟩
      have : a = 39 := by omega
      subst this
      rw [l281_2, if_pos (by decide)]
    | succ k ih =>
      intro a n h1 h2
      obtain ⟨n, rfl⟩ : ∃ n', n = n' + 1 := ⟨n - 1, by omega⟩
      have n39 : ¬ (39 : Int32) ≤ Int32.ofNat a := by rw [show (39 : Int32) = Int32.ofNat 39 from rfl, i_le (by decide) (by omega)]; omega
      rw [l281_2, if_neg n39, if_pos (by rw [show (5 : Int32) = Int32.ofNat 5 from rfl, i_lt (by decide) hl2]; exact hl)]
      obtain ⟨M, rfl⟩ : ∃ n', N = n' + 1 := ⟨N - 1, by omega⟩
      have e0 : l281_23 (M + 1) h b x (Int32.ofNat l) (Int32.ofNat a) (M + 1) 0 0 r = some (0, 0, r) := by
        rw [l281_23]
        split
        · rfl
        · rw [if_pos rfl]
      rw [e0, Option.bind_some]
      unfold j281_120
      rw [if_pos rfl, on_s]
      exact ih (a + 1) n (by omega) (by omega)
  have e2' : l281_2 N h b x (Int32.ofNat l) N 0 r = some (1, Int32.ofNat 39, r) := lp 39 0 N (by omega) (by omega)
  unfold f281_abilityOf
  rw [e2', Option.bind_some]
  dsimp only
  rw [if_neg (by decide)]
theorem e_nam {o j : Nat} (hk : xk o = 3) (hl1 : xl h b (o + 1) = 48) (hl2 : xl h b (o + 2) = 4) (hT : Tp c r) (he : e < 12) (hj : j < 4) (hq : q + m ≤ 3000) (hm : m ≤ 12) (h1 : c (o + 2) j = Int32.ofNat m) (h3 : ∀ i, i < m → By (c (o + 1) (12 * j + i)) ∧ r 161 (12 * (4 * e + j) + i) = (c (o + 1) (12 * j + i)).toInt8.toInt32) : ∀ (k i n : Nat), i + k = m → k + 1 < n → ∃ u : Int32, (u = 0 ∨ u = 1) ∧ l42_9 N h b o (Int32.ofNat j) 1 (Int32.ofNat q) (Int32.ofNat (12 * j)) n (Int32.ofNat i) c = some (if u = 0 then 0 else 1, c) ∧ l280_21 N h b (Int32.ofNat (4 * e + j)) 158 (Int32.ofNat q) (Int32.ofNat m) n 1 (Int32.ofNat i) r = some (0, u, r) := by
  intro k
  induction k with
  | zero =>
    intro i n g1 g2
    obtain ⟨n, rfl⟩ : ∃ n', n = n' + 1 := ⟨n - 1, by omega⟩
    have : i = m := by omega
    subst this
    refine ⟨1, Or.inr rfl, ?_, ?_⟩
    · rw [l42_9, hl2, xg_pos (g_ix hj (by omega)), i_cl (by omega), h1, if_pos (Int32.le_refl _), if_neg (by decide)]
    · rw [l280_21, if_pos (Int32.le_refl _)]
  | succ k ih =>
    intro i n g1 g2
    obtain ⟨n, rfl⟩ : ∃ n', n = n' + 1 := ⟨n - 1, by omega⟩
    obtain ⟨u, hu, ih1, ih2⟩ := ih (i + 1) n (by omega) (by omega)
    have nm : ¬ Int32.ofNat m ≤ Int32.ofNat i := by rw [i_le (by omega) (by omega)]; omega
    obtain ⟨n1, rfl⟩ : ∃ n', n = n' + 1 := ⟨n - 1, by omega⟩
    have z0 : ∀ {v5 : Int32}, l280_21 N h b (Int32.ofNat (4 * e + j)) 158 (Int32.ofNat q) (Int32.ofNat m) (n1 + 1) 0 v5 r = some (0, 0, r) := by
      intro v5
      rw [l280_21]
      split
      · rfl
      · rw [if_pos rfl]
    rw [l42_9, l280_21, hl2, hl1, xg_pos (g_ix hj (by omega)), i_cl (show j < 2 ^ 31 by omega), h1, if_neg nm, if_neg nm, if_neg (show ¬ (1 : Int32) = 0 by decide), ← Int32.ofNat_add, ← Int32.ofNat_add, o12, xg_pos (g_ix (by omega) (by omega)), show xl h b 1 = 3000 from rfl, xg_pos (g_ix (by omega) (by omega)), xg_pos (g_ix (by omega) (by omega)), show xl h b 158 = 3000 from rfl, xg_pos (g_ix (by omega) (by omega)), i_cl (show 12 * j + i < 2 ^ 31 by omega), i_cl (show q + i < 2 ^ 31 by omega), i_cl (show 12 * (4 * e + j) + i < 2 ^ 31 by omega), (h3 i (by omega)).2, (hT (q + i)).2]
    have ee := eq8 (h3 i (by omega)).1 (hT (q + i)).1
    by_cases s : c (o + 1) (12 * j + i) = c 1 (q + i)
    · rw [if_pos s, if_pos (by rw [ee]; exact s), on_s]
      exact ⟨u, hu, ih1, ih2⟩
    · rw [if_neg s, if_neg (by rw [ee]; exact s)]
      exact ⟨0, Or.inl rfl, by rw [if_pos rfl], z0⟩
end T
