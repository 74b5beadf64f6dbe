/-! The machine: its stack, what it makes, numbers. -/
def PM (c r : xA) : Prop := (∃ H L : Nat, H ≤ 8 ∧ L ≤ 60 ∧ c 93 1 = Int32.ofNat H ∧ r 157 25 = Int32.ofNat H ∧ c 93 4 = Int32.ofNat L ∧ r 157 23 = Int32.ofNat L ∧ (∀ i, i < H → c 94 i = r 169 i) ∧ (∀ i, i < L → c 96 i = r 168 i &&& 255)) ∧ (∀ i, vp_nar .byte (r 168 i) = r 168 i)
def PF (c0 r0 c r : xA) : Prop := (∀ p, ¬ (93 ≤ p ∧ p ≤ 96) → c p = c0 p) ∧ (∀ i, i ≠ 1 → i ≠ 4 → c 93 i = c0 93 i) ∧ (∀ p, p ≠ 157 → p ≠ 168 → p ≠ 169 → r p = r0 p) ∧ (∀ i, i ≠ 23 → i ≠ 25 → r 157 i = r0 157 i)
def PP (q7 q8 w4 w5 : Int32) (c0 r0 c r : xA) : Prop := PF c0 r0 c r ∧ PM c r ∧ c 95 0 = q7 ∧ c 95 1 = q8 ∧ c 95 2 = w4 ∧ c 95 3 = w5
section T
variable {N h b : Nat} {c0 r0 c r c' r' : xA} {x y z s v w q7 q8 w4 w5 : Int32} {i f k m p : Nat}
theorem p_make (H : PP q7 q8 w4 w5 c0 r0 c r) (hx : x = y &&& 255) : Q2 (f83_make N h b x c) (f300_says N h b y r) (fun p q => PP q7 q8 w4 w5 c0 r0 p q) := by
  obtain ⟨⟨f1, f2, f3, f4⟩, ⟨⟨A, L, a1, a2, a3, a4, a5, a6, a7, a8⟩, a9⟩, p1, p2, p3, p4⟩ := id H
  unfold f83_make f300_says
  rw [a5, a6]
  by_cases z : L = 60
  · subst z
    exact q_pl (by decide) (q_pr rfl (q_ok1 H))
  · refine q_nl (by rw [show (60 : Int32) = Int32.ofNat 60 from rfl, i_le (by decide) (by omega)]; omega) (q_nr (by rw [show (60 : Int32) = Int32.ofNat 60 from rfl, i_eq (by omega) (by decide)]; exact z) (q_hl (g_ix (by omega) (by decide)) (q_hr (g_ix (by omega) (by decide)) ?_)))
    rw [i_cl (by omega)]
    refine q_wl.mpr (q_wr.mpr (q_wl.mpr (q_wr.mpr (q_ok1 ?_))))
    rw [xU_o (show (93 : Nat) ≠ 96 by decide), xU_o (show (157 : Nat) ≠ 168 by decide), a5, a6, on_s]
    refine ⟨⟨fun p hp => by rw [xU_o (by omega), xU_o (by omega)]; exact f1 p hp, fun i h1 h2 => by rw [xU_s h2, xU_o (by decide)]; exact f2 i h1 h2, fun p h1 h2 h3 => by rw [xU_o h1, xU_o h2]; exact f3 p h1 h2 h3, fun i h1 h2 => by rw [xU_s h1, xU_o (by decide)]; exact f4 i h1 h2⟩, ⟨⟨A, L + 1, a1, by omega, by simp [xU_eq]; exact a3, by simp [xU_eq]; exact a4, xU_e, xU_e, fun i hi => by simp [xU_eq]; exact a7 i hi, fun i hi => ?_⟩, fun i => ?_⟩, by simp [xU_eq]; exact p1, by simp [xU_eq]; exact p2, by simp [xU_eq]; exact p3, by simp [xU_eq]; exact p4⟩
    · rw [xU_o (show (96 : Nat) ≠ 93 by decide), xU_o (show (168 : Nat) ≠ 157 by decide)]
      by_cases e : i = L
      · subst e
        rw [xU_e, xU_e, by8n, by8, hx]
      · rw [xU_s e, xU_s e]
        exact a8 i (by omega)
    · rw [xU_o (by decide), xU_eq]
      split
      · rw [by8n, by8n]
      · exact a9 i
theorem p_push (H : PP q7 q8 w4 w5 c0 r0 c r) : Q2 (f88_push N h b x c) (f301_push N h b x r) (fun p q => PP q7 q8 w4 w5 c0 r0 p q) := by
  obtain ⟨⟨f1, f2, f3, f4⟩, ⟨⟨A, L, a1, a2, a3, a4, a5, a6, a7, a8⟩, a9⟩, p1, p2, p3, p4⟩ := id H
  unfold f88_push f301_push
  rw [a3, a4]
  by_cases z : A = 8
  · subst z
    exact q_pl (by decide) (q_pr rfl (q_ok1 H))
  · refine q_nl (by rw [show (8 : Int32) = Int32.ofNat 8 from rfl, i_le (by decide) (by omega)]; omega) (q_nr (by rw [show (8 : Int32) = Int32.ofNat 8 from rfl, i_eq (by omega) (by decide)]; exact z) (q_hl (g_ix (by omega) (by decide)) (q_hr (g_ix (by omega) (by decide)) ?_)))
    rw [i_cl (by omega)]
    refine q_wl.mpr (q_wr.mpr (q_wl.mpr (q_wr.mpr (q_ok1 ?_))))
    rw [xU_o (show (93 : Nat) ≠ 94 by decide), xU_o (show (157 : Nat) ≠ 169 by decide), a3, a4, on_s]
    refine ⟨⟨fun p hp => by rw [xU_o (by omega), xU_o (by omega)]; exact f1 p hp, fun i h1 h2 => by rw [xU_s h1, xU_o (by decide)]; exact f2 i h1 h2, fun p h1 h2 h3 => by rw [xU_o h1, xU_o h3]; exact f3 p h1 h2 h3, fun i h1 h2 => by rw [xU_s h2, xU_o (by decide)]; exact f4 i h1 h2⟩, ⟨⟨A + 1, L, by omega, a2, xU_e, xU_e, by simp [xU_eq]; exact a5, by simp [xU_eq]; exact a6, fun i hi => ?_, fun i hi => by simp [xU_eq]; exact a8 i hi⟩, fun i => by simp [xU_eq]; exact a9 i⟩, by simp [xU_eq]; exact p1, by simp [xU_eq]; exact p2, by simp [xU_eq]; exact p3, by simp [xU_eq]; exact p4⟩
    rw [xU_o (show (94 : Nat) ≠ 93 by decide), xU_o (show (169 : Nat) ≠ 157 by decide)]
    by_cases e : i = A
    · subst e
      rw [xU_e, xU_e]
    · rw [xU_s e, xU_s e]
      exact a7 i (by omega)
theorem p_pop (H : PP q7 q8 w4 w5 c0 r0 c r) : Q2 (f84_pop N h b c) (f302_pop N h b r) (fun p q => p.1 = q.1 ∧ PP q7 q8 w4 w5 c0 r0 p.2 q.2) := by
  obtain ⟨⟨f1, f2, f3, f4⟩, ⟨⟨A, L, a1, a2, a3, a4, a5, a6, a7, a8⟩, a9⟩, p1, p2, p3, p4⟩ := id H
  unfold f84_pop f302_pop
  rw [a3, a4]
  by_cases z : A = 0
  · subst z
    exact q_pl rfl (q_pr rfl ⟨_, _, rfl, rfl, rfl, H⟩)
  · have em : Int32.ofNat A - 1 = Int32.ofNat (A - 1) := by rw [show (1 : Int32) = Int32.ofNat 1 from rfl, ← Int32.ofNat_sub _ _ (by omega)]
    have nz : ¬ Int32.ofNat A = 0 := by rw [show (0 : Int32) = Int32.ofNat 0 from rfl, i_eq (by omega) (by decide)]; exact z
    refine q_nl nz (q_nr nz (q_wl.mpr (q_wr.mpr ?_)))
    rw [em, xU_e, xU_e]
    refine q_hl (g_ix (by omega) (by decide)) (q_hr (g_ix (by omega) (by decide)) ?_)
    rw [i_cl (by omega), xU_o (show (94 : Nat) ≠ 93 by decide), xU_o (show (169 : Nat) ≠ 157 by decide)]
    refine ⟨_, _, rfl, rfl, a7 _ (by omega), ⟨fun p hp => by dsimp only; rw [xU_o (by omega)]; exact f1 p hp, fun i h1 h2 => by dsimp only; rw [xU_s h1]; exact f2 i h1 h2, fun p h1 h2 h3 => by dsimp only; rw [xU_o h1]; exact f3 p h1 h2 h3, fun i h1 h2 => by dsimp only; rw [xU_s h2]; exact f4 i h1 h2⟩, ⟨⟨A - 1, L, by omega, a2, by dsimp only; rw [xU_e], by dsimp only; rw [xU_e], by simp [xU_eq]; exact a5, by simp [xU_eq]; exact a6, fun i hi => by simp [xU_eq]; exact a7 i (by omega), fun i hi => by simp [xU_eq]; exact a8 i hi⟩, fun i => by simp [xU_eq]; exact a9 i⟩, by simp [xU_eq]; exact p1, by simp [xU_eq]; exact p2, by simp [xU_eq]; exact p3, by simp [xU_eq]; exact p4⟩
/-- longs -/
theorem j_le {m n : Nat} (hm : m < 2 ^ 63) (hn : n < 2 ^ 63) : (Int64.ofNat m ≤ Int64.ofNat n) = (m ≤ n) := propext (Int64.ofNat_le_iff_le hm hn)
theorem j_lt {m n : Nat} (hm : m < 2 ^ 63) (hn : n < 2 ^ 63) : (Int64.ofNat m < Int64.ofNat n) = (m < n) := propext (Int64.ofNat_lt_iff_lt hm hn)
theorem j_d {m n : Nat} (hm : m < 2 ^ 63) (hn : n < 2 ^ 63) : Int64.ofNat m / Int64.ofNat n = Int64.ofNat (m / n) := (Int64.ofNat_div hm hn).symm
theorem j_nz {m : Nat} (hm : m < 2 ^ 63) (h0 : 0 < m) : ¬ Int64.ofNat m = 0 := by
  intro e
  have : (Int64.ofNat m ≤ Int64.ofNat 0) := by rw [e]; exact Int64.le_refl _
  rw [j_le hm (by decide)] at this
  omega
theorem j_dig {s u : Nat} (hs : s < 2 ^ 62) (hu : u < 2 ^ 62) : ((Int64.ofNat s / Int64.ofNat u) - (Int64.ofNat s / Int64.ofNat u) / 10 * 10).toInt32 = Int32.ofNat (s / u % 10) := by
  have hd : s / u ≤ s := Nat.div_le_self _ _
  rw [j_d (by omega) (by omega), show (10 : Int64) = Int64.ofNat 10 from rfl, j_d (by omega) (by decide), ← Int64.ofNat_mul, ← Int64.ofNat_sub _ _ (by omega), show s / u - s / u / 10 * 10 = s / u % 10 by omega]
  have : ∀ m : Fin 10, (Int64.ofNat m.val).toInt32 = Int32.ofNat m.val := by decide
  exact this ⟨s / u % 10, Nat.mod_lt _ (by decide)⟩
theorem by_d {m : Nat} (hm : m < 10) : By (48 + Int32.ofNat m) := by
  have : ∀ m : Fin 10, By (48 + Int32.ofNat m.val) := by decide
  exact this ⟨m, hm⟩
theorem p_digs {S : Nat} (hS : S < 2 ^ 62) : ∀ (k n u : Nat) (c r : xA), u < 10 ^ k → k ≤ 12 → k < n → PP q7 q8 w4 w5 c0 r0 c r → Q2 (l86_114 N h b (Int64.ofNat S) n (Int64.ofNat u) c) (l303_115 N h b (Int64.ofNat S) n (Int64.ofNat u) r) (fun p q => PP q7 q8 w4 w5 c0 r0 p.2 q.2) := by
  intro k
  induction k with
  | zero =>
    intro n u c r h1 h2 h3 H
    obtain ⟨n, rfl⟩ : ∃ n', n = n' + 1 := ⟨n - 1, by omega⟩
    have : u = 0 := by simp at h1; exact h1
    subst this
    rw [l86_114, l303_115, if_pos (by decide), if_pos (by decide)]
    exact ⟨_, _, rfl, rfl, H⟩
  | succ k ih =>
    intro n u c r h1 h2 h3 H
    obtain ⟨n, rfl⟩ : ∃ n', n = n' + 1 := ⟨n - 1, by omega⟩
    have u12 : u < 10 ^ 12 := Nat.lt_of_lt_of_le h1 (Nat.pow_le_pow_right (by decide) h2)
    by_cases z : u = 0
    · subst z
      rw [l86_114, l303_115, if_pos (by decide), if_pos (by decide)]
      exact ⟨_, _, rfl, rfl, H⟩
    · have np : ¬ lg_cmp (Int64.ofNat u) 0 ≤ 0 := by
        rw [lg_cmp_le, show (0 : Int64) = Int64.ofNat 0 from rfl, j_le (by omega) (by decide)]; omega
      rw [l86_114, l303_115]
      refine q_nl np (q_nr np (q_hl (j_nz (by omega) (by omega)) (q_hr (j_nz (by omega) (by omega)) ?_)))
      rw [j_dig hS (by omega)]
      refine q_b11 (p_make H (by_d (Nat.mod_lt _ (by decide))).symm) (fun c1 r1 H1 => ?_)
      rw [show (10 : Int64) = Int64.ofNat 10 from rfl, j_d (by omega) (by decide)]
      refine ih n (u / 10) c1 r1 ?_ (by omega) (by omega) H1
      rw [Nat.pow_succ] at h1
      omega
theorem p_unit {S : Nat} {a1 a2 a3 b1 b2 b3 : Int32} (e : Nat) (he : e ≤ 1) (hS : S < 10 ^ 10) (hc : xA) (hr : xA) : ∀ (d k n : Nat), k + d = 9 → d < n → ∃ k', k' ≤ 9 ∧ l86_28 N h b a1 a2 a3 (Int64.ofNat S) n (Int64.ofNat (10 ^ k)) (Int32.ofNat (k + 1 + e)) c = some (0, Int64.ofNat (10 ^ k'), Int32.ofNat (k' + 1 + e), c) ∧ l303_13 N h b b1 b2 b3 (Int64.ofNat S) n (Int64.ofNat (10 ^ k)) (Int32.ofNat (k + 1)) r = some (0, Int64.ofNat (10 ^ k'), Int32.ofNat (k' + 1), r) := by
  intro d
  induction d with
  | zero =>
    intro k n h1 h2
    obtain ⟨n, rfl⟩ : ∃ n', n = n' + 1 := ⟨n - 1, by omega⟩
    have : k = 9 := by omega
    subst this
    refine ⟨9, by omega, ?_, ?_⟩
    · rw [l86_28, if_neg (by rw [show (12 : Int32) = Int32.ofNat 12 from rfl, i_le (by decide) (by omega)]; omega), if_pos]
      rw [lg_cmp_lt, show (10 : Int64) = Int64.ofNat 10 from rfl, j_d (by omega) (by decide), j_lt (by omega) (by decide)]
      omega
    · rw [l303_13, xg_pos (j_nz (by decide) (by decide)), if_pos]
      rw [lg_cmp_lt, show (10 : Int64) = Int64.ofNat 10 from rfl, j_d (by omega) (by decide), j_lt (by omega) (by decide)]
      omega
  | succ d ih =>
    intro k n h1 h2
    obtain ⟨n, rfl⟩ : ∃ n', n = n' + 1 := ⟨n - 1, by omega⟩
    have k9 : 10 ^ k ≤ 10 ^ 9 := Nat.pow_le_pow_right (by decide) (by omega)
    have kp : 0 < 10 ^ k := Nat.pow_pos (by decide)
    by_cases z : S / 10 < 10 ^ k
    · refine ⟨k, by omega, ?_, ?_⟩
      · rw [l86_28, if_neg (by rw [show (12 : Int32) = Int32.ofNat 12 from rfl, i_le (by decide) (by omega)]; omega), if_pos]
        rw [lg_cmp_lt, show (10 : Int64) = Int64.ofNat 10 from rfl, j_d (by omega) (by decide), j_lt (by omega) (by omega)]
        exact z
      · rw [l303_13, xg_pos (j_nz (by omega) kp), if_pos]
        rw [lg_cmp_lt, show (10 : Int64) = Int64.ofNat 10 from rfl, j_d (by omega) (by omega), j_lt (by have := Nat.div_le_self S (10 ^ k); omega) (by decide), Nat.div_lt_iff_lt_mul kp]
        omega
    · obtain ⟨k', t1, t2, t3⟩ := ih (k + 1) n (by omega) (by omega)
      refine ⟨k', t1, ?_, ?_⟩
      · rw [l86_28, if_neg (by rw [show (12 : Int32) = Int32.ofNat 12 from rfl, i_le (by decide) (by omega)]; omega), if_neg, show (10 : Int64) = Int64.ofNat 10 from rfl, ← Int64.ofNat_mul, ← Nat.pow_succ, on_s, show k + 1 + e + 1 = k + 1 + 1 + e by omega]
        · exact t2
        · rw [lg_cmp_lt, show (10 : Int64) = Int64.ofNat 10 from rfl, j_d (by omega) (by decide), j_lt (by omega) (by omega)]
          exact z
      · rw [l303_13, xg_pos (j_nz (by omega) kp), if_neg, show (10 : Int64) = Int64.ofNat 10 from rfl, ← Int64.ofNat_mul, ← Nat.pow_succ, on_s]
        · exact t3
        · rw [lg_cmp_lt, show (10 : Int64) = Int64.ofNat 10 from rfl, j_d (by omega) (by omega), j_lt (by have := Nat.div_le_self S (10 ^ k); omega) (by decide), Nat.div_lt_iff_lt_mul kp]
          omega
end T
