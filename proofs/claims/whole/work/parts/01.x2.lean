/-! open, show. -/
section W
variable {N h b : Nat} {c0 r0 c r : xA} {x y z u : Int32} {w T L H B Y X e Ln Co : Nat}
def bgn (a : xA) (o : Nat) (t l : Int32) (H B : Nat) : xA := xW (xU (xU (xU (xU (xU (xU (xU (xU (xU a o 1 1) o 2 t) o 3 l) o 4 (Int32.ofNat H)) o 5 (Int32.ofNat B)) o 6 0) o 7 0) o 8 0) o 9 0) (o + 1) (am_fll (a (o + 1)) 0 (H * B) 32)
theorem e_near {a : xA} {k lo hi : Nat} (h1 : lo ≤ k) (h2 : k ≤ hi) (h3 : hi < 2 ^ 31) : f10_nearest N h b (Int32.ofNat k) (Int32.ofNat lo) (Int32.ofNat hi) a = some (Int32.ofNat k, a) := by
  unfold f10_nearest
  rw [if_pos (by rw [i_le (by omega) (by omega)]; exact h1), if_pos (by rw [i_le (by omega) (by omega)]; exact h2)]
theorem e_begin {o : Nat} {t l : Int32} {a : xA} (hk : xk o = 10) (hk2 : xk (o + 1) = 100) (hl : xl h b (o + 1) = 1920) (h1 : 1 ≤ H) (h2 : H ≤ 24) (h3 : 1 ≤ B) (h4 : B ≤ 80) : f78_begin N h b o t l (Int32.ofNat H) (Int32.ofNat B) a = some (bgn a o t l H B) := by
  unfold f78_begin bgn
  have hHB := hb_ub h2 h4
  rw [xg_pos hk]
  unfold xw
  dsimp only
  have n1 : ∀ a, f10_nearest N h b (Int32.ofNat H) 1 24 a = some (Int32.ofNat H, a) := fun a => e_near (lo := 1) (hi := 24) h1 h2 (by decide)
  have n2 : ∀ a, f10_nearest N h b (Int32.ofNat B) 1 80 a = some (Int32.ofNat B, a) := fun a => e_near (lo := 1) (hi := 80) h3 h4 (by decide)
  rw [n1, b2_some, n2, b2_some]
  have e4 : xU (xU (xU (xU (xU (xU (xU (xU (xU a o 1 1) o 2 t) o 3 l) o 4 (Int32.ofNat H)) o 5 (Int32.ofNat B)) o 6 0) o 7 0) o 8 0) o 9 0 o 4 = Int32.ofNat H := by simp [xU_eq]
  have e5 : xU (xU (xU (xU (xU (xU (xU (xU (xU a o 1 1) o 2 t) o 3 l) o 4 (Int32.ofNat H)) o 5 (Int32.ofNat B)) o 6 0) o 7 0) o 8 0) o 9 0 o 5 = Int32.ofNat B := by simp [xU_eq]
  have e6 : xU (xU (xU (xU (xU (xU (xU (xU (xU a o 1 1) o 2 t) o 3 l) o 4 (Int32.ofNat H)) o 5 (Int32.ofNat B)) o 6 0) o 7 0) o 8 0) o 9 0 (o + 1) = a (o + 1) := by
    have : o + 1 ≠ o := by omega
    rw [xU_o this, xU_o this, xU_o this, xU_o this, xU_o this, xU_o this, xU_o this, xU_o this, xU_o this]
  rw [e4, e5, ← Int32.ofNat_mul, show (0 : Int32) = Int32.ofNat 0 from rfl, e_fill hk2 hl (by omega) hHB (by decide), b1_some]
  rw [show Int32.ofNat 0 = (0 : Int32) from rfl, e6]
/-- the first window that is closed -/
theorem d_first {y1 y2 y3 y4 y5 y6 y7 y8 : Int32} (hW : RW c r) (hN : 100000 ≤ N) : ∀ (k n : Nat), k ≤ 8 → k < n → ∃ j, j ≤ 8 ∧ l95_30 N h b y1 y2 y3 y4 n (Int32.ofNat (8 - k)) c = some (if j < 8 then 0 else 1, Int32.ofNat j, c) ∧ l306_8 N h b y5 y6 y7 y8 n (Int32.ofNat (8 - k)) r = some (0, Int32.ofNat j, r) ∧ (j < 8 → c (141 + 2 * j) 1 = 0 ∧ r 172 j = 0)
  | 0, n, h1, h2 => by
    obtain ⟨m, rfl⟩ : ∃ m, n = m + 1 := ⟨n - 1, by omega⟩
    refine ⟨8, Nat.le_refl _, ?_, ?_, fun q => absurd q (by decide)⟩
    · rw [l95_30, if_pos (by decide)]; rfl
    · rw [l306_8, if_pos (by decide)]
  | k + 1, n, h1, h2 => by
    obtain ⟨m, rfl⟩ : ∃ m, n = m + 1 := ⟨n - 1, by omega⟩
    have e8 : (8 : Int32) = Int32.ofNat 8 := rfl
    have hne : ¬ Int32.ofNat 8 ≤ Int32.ofNat (8 - (k + 1)) := by rw [i_le (by decide) (by omega)]; omega
    have gk := g_ix (j := 8 - (k + 1)) (n := 8) (by omega) (by decide)
    rw [l95_30, l306_8, e8, if_neg hne, if_neg hne, xg_pos gk, xg_pos gk, i_cl (by omega), on_s, show 8 - (k + 1) + 1 = 8 - k by omega]
    rcases hW (8 - (k + 1)) (by omega) with q | ⟨⟨T, L, H, B, Y, X, q, q3⟩, q2⟩
    · rw [if_pos q.1, if_pos q.2]
      exact ⟨8 - (k + 1), by omega, by rw [if_pos (by omega)], rfl, fun _ => q⟩
    · rw [if_neg (by rw [q.1.1]; decide), if_neg (by rw [q.1.2.1]; decide)]
      exact d_first hW hN k m (by omega) (by omega)
def oP (Ln Co : Nat) (x y z u : Int32) : Prop := 1 ≤ z ∧ 1 ≤ u ∧ z ≤ Int32.ofNat Ln ∧ u ≤ Int32.ofNat Co ∧ 0 ≤ x ∧ 0 ≤ y ∧ x ≤ Int32.ofNat Ln - z ∧ y ≤ Int32.ofNat Co - u
theorem e_wh (h4 : c 98 4 = Int32.ofNat Ln) (h5 : c 98 5 = Int32.ofNat Co) : f96_wouldHold N h b 98 x y z u c = some (zb (oP Ln Co x y z u), c) := by
  unfold f96_wouldHold
  simp only [zi10, zi01, zg]
  rw [xg_pos (show xk 98 = 10 from rfl), h4, h5]
  by_cases q : oP Ln Co x y z u
  · rw [zb_t q]
    obtain ⟨q1, q2, q3, q4, q5, q6, q7, q8⟩ := q
    rw [if_neg (Int32.not_lt.mpr q1), if_neg (Int32.not_lt.mpr q2), if_neg (Int32.not_lt.mpr q3), if_neg (Int32.not_lt.mpr q4), if_neg (Int32.not_lt.mpr q5), if_neg (Int32.not_lt.mpr q6), if_neg (Int32.not_lt.mpr q7), zb_t (Int32.not_lt.mpr q8)]
  · rw [zb_f q]
    split; · rfl
    split; · rfl
    split; · rfl
    split; · rfl
    split; · rfl
    split; · rfl
    split; · rfl
    rw [zb_f (fun n => q ⟨by grind, by grind, by grind, by grind, by grind, by grind, by grind, by grind⟩)]
theorem e_107 {q5 : Int32} : j306_107 N h b x y z u q5 r = some (-1, r) := by
  unfold j306_107 j306_108
  rw [if_pos rfl]
theorem e_j31n {k : Nat} (hk : k ≤ 8) (h4 : r 157 27 = Int32.ofNat Ln) (h5 : r 157 26 = Int32.ofNat Co) (hn : r 157 21 = -1 ∨ k = 8 ∨ ¬ oP Ln Co x y z u) : j306_31 N h b x y z u (Int32.ofNat k) r = some (-1, r) := by
  unfold j306_31
  rw [h4, h5]
  simp only [e_107, zi10, zi01, zb_0, Decidable.not_not]
  have e8 : (8 ≤ Int32.ofNat k) = (8 ≤ k) := by rw [show (8 : Int32) = Int32.ofNat 8 from rfl, i_le (by decide) (by omega)]
  by_cases q1 : r 157 21 = -1
  · rw [if_pos q1]
  rw [if_neg q1]
  by_cases q2 : 8 ≤ Int32.ofNat k
  · rw [if_pos q2]
  rw [if_neg q2]
  by_cases q3 : z < 1
  · rw [if_pos q3]
  rw [if_neg q3]
  by_cases q4 : u < 1
  · rw [if_pos q4]
  rw [if_neg q4]
  by_cases q5 : x < 0
  · rw [if_pos q5]
  rw [if_neg q5]
  by_cases q6 : y < 0
  · rw [if_pos q6]
  rw [if_neg q6]
  by_cases q7 : Int32.ofNat Ln < z
  · rw [if_pos q7]
  rw [if_neg q7]
  by_cases q8 : Int32.ofNat Co < u
  · rw [if_pos q8]
  rw [if_neg q8]
  by_cases q9 : Int32.ofNat Ln - z < x
  · rw [if_pos q9]
  rw [if_neg q9]
  by_cases q10 : Int32.ofNat Co - u < y
  · rw [if_pos q10]
  rw [if_neg q10]
  rw [e8] at q2
  exfalso
  rcases hn with n | n | n
  · exact q1 n
  · omega
  · exact n ⟨by grind, by grind, by grind, by grind, by grind, by grind, by grind, by grind⟩
theorem e_fill2 {k : Nat} {a : xA} (hN : 100000 ≤ N) (hk : k < 8) : ∃ a', l306_193 N h b (Int32.ofNat k) N 0 a = some (0, a') ∧ Cl k a a' (fun _ _ => 32) := by
  obtain ⟨a', e1, e2⟩ := lp_up (L := l306_193 N h b (Int32.ofNat k)) (hi := 1920) (out := fun a => (0, a)) (P := fun j a' => (∀ p, p ≠ 181 → a' p = a p) ∧ ∀ i, a' 181 i = if 1920 * k ≤ i ∧ i < 1920 * k + j then 32 else a 181 i)
    (fun n j b1 h1 h2 => by
      have e3 : (1920 : Int32) * Int32.ofNat k + Int32.ofNat j = Int32.ofNat (1920 * k + j) := by rw [Int32.ofNat_add, Int32.ofNat_mul]; rfl
      rw [l306_193, if_neg (by rw [show (1920 : Int32) = Int32.ofNat 1920 from rfl, i_le (by decide) (by omega)]; omega), e3, xg_pos (g_ix (by omega) (by decide)), i_cl (by omega), on_s]
      refine ⟨_, rfl, fun p hp => by rw [xU_o hp]; exact h1.1 p hp, fun i => ?_⟩
      rw [xU_eq, h1.2 i]
      grind)
    (fun n b1 h1 => by rw [l306_193, if_pos (by decide)])
    1920 0 N a (by omega) (by omega) ⟨fun _ _ => rfl, fun i => by rw [if_neg (by omega)]⟩
  refine ⟨a', e1, e2.1, fun i hi => by rw [e2.2, if_neg hi], fun y x h1 h2 => by rw [e2.2, if_pos (by omega)]⟩
/-- what open may change: windows' frame, and the window is there -/
theorem t_open (hN : 100000 ≤ N) (hW : RW c r) (hP : RP c r) : Q2 (f95_open N h b x y z u c) (f306_open N h b x y z u r) (fun p q => p.1 = q.1 ∧ ((p.2 = c ∧ q.2 = xU r 157 0 0) ∨ ∃ w T L H B, WD w T L H B c (xU r 157 0 0) p.2 q.2 ∧ T + H ≤ (c 98 4).toNatClampNeg ∧ L + B ≤ (c 98 5).toNatClampNeg ∧ ¬ c 0 14 = -1)) := by
  unfold f95_open f306_open
  refine q_wr.mpr ?_
  have hW' : RW c (xU r 157 0 0) := hW
  obtain ⟨j, j1, j2, j3, j4⟩ := d_first (N := N) (h := h) (b := b) (y1 := x) (y2 := y) (y3 := z) (y4 := u) (y5 := x) (y6 := y) (y7 := z) (y8 := u) hW' hN 8 N (Nat.le_refl _) (by omega)
  have j2' : l95_30 N h b x y z u N 0 c = some (if j < 8 then 0 else 1, Int32.ofNat j, c) := j2
  have j3' : l306_8 N h b x y z u N 0 (xU r 157 0 0) = some (0, Int32.ofNat j, xU r 157 0 0) := j3
  refine q_rb j3' ?_
  dsimp only
  have no : Q2 (some ((-1 : Int32), c)) (some ((-1 : Int32), xU r 157 0 0)) (fun p q => p.1 = q.1 ∧ ((p.2 = c ∧ q.2 = xU r 157 0 0) ∨ ∃ w T L H B, WD w T L H B c (xU r 157 0 0) p.2 q.2 ∧ T + H ≤ (c 98 4).toNatClampNeg ∧ L + B ≤ (c 98 5).toNatClampNeg ∧ ¬ c 0 14 = -1)) := q_some.mpr ⟨rfl, Or.inl ⟨rfl, rfl⟩⟩
  have hP' := hP
  rcases hP with q | ⟨e, Ln, Co, q1, q2, q3, q4, q5⟩
  · refine q_pl q.1 ?_
    have eq : j306_31 N h b x y z u (Int32.ofNat j) (xU r 157 0 0) = some (-1, xU r 157 0 0) := by
      unfold j306_31 j306_107 j306_108
      rw [if_pos (by rw [xU_s (by decide)]; exact q.2.1), if_pos rfl]
    rw [eq]
    exact no
  · obtain ⟨a1, a2, a3, a4, a5, a6, a7, a8, a9, a10, a11, a12, a13⟩ := q1
    obtain ⟨b1, b2, b3, b4⟩ := q2
    have ht : ¬ c 0 14 = -1 := by rw [a6]; exact ofn_ne (by omega)
    refine q_nl ht (q_l2 (e_wh b1 b2) ?_)
    by_cases g : oP Ln Co x y z u
    · refine q_nl (by rw [zb_0]; exact fun n => n g) (q_lb j2' ?_)
      by_cases zj : j < 8
      · rw [if_pos zj]
        have g' := g
        obtain ⟨g1, g2, g3, g4, g5, g6, g7, g8⟩ := g'
        have tL : (Int32.ofNat Ln) ≤ 24 := by rw [show (24 : Int32) = Int32.ofNat 24 from rfl, i_le (by omega) (by decide)]; exact a3
        have tC : (Int32.ofNat Co) ≤ 80 := by rw [show (80 : Int32) = Int32.ofNat 80 from rfl, i_le (by omega) (by decide)]; exact a5
        have zx := i_nat g5
        obtain ⟨T, hT, eT, _⟩ := i_nat g5
        obtain ⟨L, hL, eL, _⟩ := i_nat g6
        obtain ⟨H, hH, eH, _⟩ := i_nat (x := z) (by grind)
        obtain ⟨B, hB, eB, _⟩ := i_nat (x := u) (by grind)
        subst eT eL eH eB
        rw [show (1 : Int32) = Int32.ofNat 1 from rfl, i_le (by decide) hH] at g1
        rw [show (1 : Int32) = Int32.ofNat 1 from rfl, i_le (by decide) hB] at g2
        rw [i_le hH (by omega)] at g3
        rw [i_le hB (by omega)] at g4
        rw [← Int32.ofNat_sub _ _ g3, i_le hT (by omega)] at g7
        rw [← Int32.ofNat_sub _ _ g4, i_le hL (by omega)] at g8
        refine q_pl rfl (q_hl (g_ix zj (by decide)) ?_)
        dsimp only
        rw [i_cl (by omega), e_begin (xkw zj) (xkg zj) (xlg zj) g1 (by omega) g2 (by omega), b1_some]
        have e31 : ∃ r', j306_31 N h b (Int32.ofNat T) (Int32.ofNat L) (Int32.ofNat H) (Int32.ofNat B) (Int32.ofNat j) (xU r 157 0 0) = some (Int32.ofNat j, r') ∧ Cl j (xU (xU (xU (xU (xU (xU (xU (xU (xU (xU r 157 0 0) 172 j 1) 173 j (Int32.ofNat T)) 174 j (Int32.ofNat L)) 175 j (Int32.ofNat H)) 176 j (Int32.ofNat B)) 177 j 0) 178 j 0) 179 j 0) 180 j 0) r' (fun _ _ => 32) := by
          obtain ⟨r', t1, t2⟩ := e_fill2 (N := N) (h := h) (b := b) (a := xU (xU (xU (xU (xU (xU (xU (xU (xU (xU r 157 0 0) 172 j 1) 173 j (Int32.ofNat T)) 174 j (Int32.ofNat L)) 175 j (Int32.ofNat H)) 176 j (Int32.ofNat B)) 177 j 0) 178 j 0) 179 j 0) 180 j 0) hN zj
          refine ⟨r', ?_, t2⟩
          have m1 : xU r 157 0 0 157 27 = Int32.ofNat Ln := a11
          have m2 : xU r 157 0 0 157 26 = Int32.ofNat Co := a13
          have m3 : xU r 157 0 0 157 21 = Int32.ofNat e := a7
          unfold j306_31
          rw [m1, m2, m3, if_neg (ofn_ne (by omega)), if_neg (by rw [show (8 : Int32) = Int32.ofNat 8 from rfl, i_le (by decide) (by omega)]; omega), if_neg (by rw [show (1 : Int32) = Int32.ofNat 1 from rfl, i_lt (by omega) (by decide)]; omega), if_neg (by rw [show (1 : Int32) = Int32.ofNat 1 from rfl, i_lt (by omega) (by decide)]; omega), if_neg (Int32.not_lt.mpr g5), if_neg (Int32.not_lt.mpr g6), if_neg (by rw [i_lt (by omega) (by omega)]; omega), if_neg (by rw [i_lt (by omega) (by omega)]; omega), if_neg (by rw [← Int32.ofNat_sub _ _ g3, i_lt (by omega) (by omega)]; omega)]
          have m4 : ¬ (if Int32.ofNat Co - Int32.ofNat B < Int32.ofNat L then (0 : Int32) else 1) = 0 := by
            rw [if_neg (by rw [← Int32.ofNat_sub _ _ g4, i_lt (by omega) (by omega)]; omega)]
            decide
          rw [if_neg m4, xg_pos (g_ix zj (by decide)), i_cl (by omega)]
          unfold xw
          dsimp only
          rw [t1]
          rfl
        obtain ⟨r', t1, t2⟩ := e31
        rw [t1]
        refine q_some.mpr ⟨rfl, Or.inr ⟨j, T, L, H, B, ⟨zj, ?_, 0, 0, ?_⟩, by rw [b1, i_cl (by omega)]; omega, by rw [b2, i_cl (by omega)]; omega, ht⟩⟩
        · dsimp only
          unfold bgn
          refine ⟨fun p p1 p2 p3 => ?_, fun i hi => ?_, fun p p1 p2 => ?_, fun i hi => ?_, fun p i p1 p2 p3 => ?_, fun i hi => ?_, ?_⟩
          · rw [xW_o p2, xU_o p1, xU_o p1, xU_o p1, xU_o p1, xU_o p1, xU_o p1, xU_o p1, xU_o p1, xU_o p1]
          · have n1 : (97 : Nat) ≠ 141 + 2 * j := by omega
            rw [xW_o (by omega), xU_o n1, xU_o n1, xU_o n1, xU_o n1, xU_o n1, xU_o n1, xU_o n1, xU_o n1, xU_o n1]
          · rw [t2.1 p (by omega)]
            rw [xU_o (by omega), xU_o (by omega), xU_o (by omega), xU_o (by omega), xU_o (by omega), xU_o (by omega), xU_o (by omega), xU_o (by omega), xU_o (by omega)]
          · rw [t2.1 157 (by decide)]
            rfl
          · rw [t2.1 p (by omega)]
            rw [xU_eq, if_neg (by omega), xU_eq, if_neg (by omega), xU_eq, if_neg (by omega), xU_eq, if_neg (by omega), xU_eq, if_neg (by omega), xU_eq, if_neg (by omega), xU_eq, if_neg (by omega), xU_eq, if_neg (by omega), xU_eq, if_neg (by omega)]
          · rw [t2.2.1 i hi]
            rfl
          · have n1 : (97 : Nat) ≠ 141 + 2 * j := by omega
            rw [xW_o (by omega), xU_o n1, xU_o n1, xU_o n1, xU_o n1, xU_o n1, xU_o n1, xU_o n1, xU_o n1, xU_o n1, t2.1 157 (by decide)]
            exact q4
        · dsimp only
          unfold Wd bgn
          have n1 : 141 + 2 * j ≠ 141 + 2 * j + 1 := by omega
          refine ⟨?_, ?_, ⟨g1, by omega, g2, by omega, by omega, by omega⟩, fun y x h1 h2 => ?_⟩
          · rw [xW_o n1, t2.1 172 (by decide), t2.1 173 (by decide), t2.1 174 (by decide), t2.1 175 (by decide), t2.1 176 (by decide), t2.1 177 (by decide), t2.1 178 (by decide)]
            simp [xU_eq]
          · rw [xW_o n1, t2.1 179 (by decide), t2.1 180 (by decide)]
            simp [xU_eq]
          · rw [xW_e, t2.2.2 y x (by omega) (by omega)]
            unfold am_fll
            rw [if_pos ⟨by omega, mul_ub h1 h2⟩]
      · rw [if_neg zj]
        refine q_nl (show ¬ (1 : Nat) = 0 by decide) ?_
        rw [e_j31n (r := xU r 157 0 0) (Ln := Ln) (Co := Co) j1 a11 a13 (Or.inr (Or.inl (by omega)))]
        exact no
    · refine q_pl (zb_f g) ?_
      rw [e_j31n (r := xU r 157 0 0) j1 a11 a13 (Or.inr (Or.inr g))]
      exact no
end W
