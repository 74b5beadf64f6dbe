/-! The terminal reads an escape. -/
section T
variable {N h b : Nat} {c0 r0 c r c' r' : xA} {x y s v : Int32} {Y X Tp Bt F E k : Nat}
theorem RT_89 (hT : RT h b c0 r0 c r) : r 157 89 = 0 := hT.2.2.2.1.2.2.1
theorem d_what (hd : Dim N h b) (hT : RT h b c0 r0 c r) : Q2 (f218_answerWhat N h b c) (f398_tells N h b r) (fun p q => RT h b c0 r0 p q) := by
  unfold f218_answerWhat f398_tells
  have C7 := Cp_s (v := 99) (Cp_s (v := 50) (Cp_s (v := 59) (Cp_s (v := 49) (Cp_s (v := 63) (Cp_s (v := 91) (Cp_s (v := 27) (Cp_nil (p := 134) (c := c)) (i := 0) rfl) (i := 1) rfl) (i := 2) rfl) (i := 3) rfl) (i := 4) rfl) (i := 5) rfl) (i := 6) rfl
  obtain ⟨a1, e1, h1⟩ := e_rep (N := N) (h := h) (b := b) (x := 27) (Rp_nil (RT_89 hT)) (by decide)
  obtain ⟨a2, e2, h2⟩ := e_rep (N := N) (h := h) (b := b) (x := 91) h1 (by decide)
  obtain ⟨a3, e3, h3⟩ := e_rep (N := N) (h := h) (b := b) (x := 63) h2 (by decide)
  obtain ⟨a4, e4, h4⟩ := e_rep (N := N) (h := h) (b := b) (x := 49) h3 (by decide)
  obtain ⟨a5, e5, h5⟩ := e_rep (N := N) (h := h) (b := b) (x := 59) h4 (by decide)
  obtain ⟨a6, e6, h6⟩ := e_rep (N := N) (h := h) (b := b) (x := 50) h5 (by decide)
  obtain ⟨a7, e7, h7⟩ := e_rep (N := N) (h := h) (b := b) (x := 99) h6 (by decide)
  refine q_r1 e1 (q_r1 e2 (q_r1 e3 (q_r1 e4 (q_r1 e5 (q_r1 e6 (q_r1 e7 ?_))))))
  exact d_say2 (m := 7) hd.1 hT C7 h7 rfl (by decide) (by decide)
theorem d_well (hd : Dim N h b) (hT : RT h b c0 r0 c r) : Q2 (f241_answerWell N h b c) (f408_reports N h b 5 r) (fun p q => RT h b c0 r0 p q) := by
  unfold f241_answerWell f408_reports
  have C7 := Cp_s (v := 110) (Cp_s (v := 48) (Cp_s (v := 91) (Cp_s (v := 27) (Cp_nil (p := 134) (c := c)) (i := 0) rfl) (i := 1) rfl) (i := 2) rfl) (i := 3) rfl
  obtain ⟨a1, e1, h1⟩ := e_rep (N := N) (h := h) (b := b) (x := 27) (Rp_nil (RT_89 hT)) (by decide)
  obtain ⟨a2, e2, h2⟩ := e_rep (N := N) (h := h) (b := b) (x := 91) h1 (by decide)
  obtain ⟨a3, e3, h3⟩ := e_rep (N := N) (h := h) (b := b) (x := 48) h2 (by decide)
  obtain ⟨a4, e4, h4⟩ := e_rep (N := N) (h := h) (b := b) (x := 110) h3 (by decide)
  refine q_pr rfl (q_r1 e1 (q_r1 e2 (q_r1 e3 (q_r1 e4 ?_))))
  exact d_say2 (m := 4) hd.1 hT C7 h4 rfl (by decide) (by decide)
/-- a number in an answer -/
def dg (n : Nat) : List Int32 := if n < 10 then [Int32.ofNat (48 + n)] else [Int32.ofNat (48 + n / 10), Int32.ofNat (48 + n % 10)]
theorem dg_l {n : Nat} : 1 ≤ (dg n).length ∧ (dg n).length ≤ 2 := by unfold dg; split <;> exact ⟨by simp, by simp⟩
theorem e_num {a : xA} {L : List Int32} {n : Nat} (hn : n < 100) (H : Cp 134 c a L) (hl : L.length < 30) : ∃ a', f243_addNumber N h b (Int32.ofNat n) (Int32.ofNat L.length) a = some (Int32.ofNat (L ++ dg n).length, a') ∧ Cp 134 c a' (L ++ dg n) := by
  have e10 : (10 : Int32) = Int32.ofNat 10 := rfl
  have e48 : (48 : Int32) = Int32.ofNat 48 := rfl
  unfold f243_addNumber j243_27 dg
  by_cases z : n < 10
  · rw [if_pos (by rw [e10, i_lt (by omega) (by decide)]; exact z), if_pos z, xg_pos (g_ix (by omega) (by decide)), i_cl (by omega), e10, i_modn (by omega) (by decide), e48, ← Int32.ofNat_add, on_s, Nat.mod_eq_of_lt z]
    exact ⟨_, by rw [List.length_append]; rfl, Cp_s H rfl⟩
  · rw [if_neg (by rw [e10, i_lt (by omega) (by decide)]; exact z), if_neg z, xg_pos (g_ix (by omega) (by decide)), i_cl (by omega), e10, i_modn (by omega) (by decide), e48, ← Int32.ofNat_div (by omega) (by decide), i_modn (by omega) (by decide), ← Int32.ofNat_add, ← Int32.ofNat_add, on_s, Nat.mod_eq_of_lt (show n / 10 < 10 by omega)]
    have k1 := Cp_s (v := Int32.ofNat (48 + n / 10)) H rfl
    have k2 := Cp_s (v := Int32.ofNat (48 + n % 10)) k1 rfl
    have el : (L ++ [Int32.ofNat (48 + n / 10)]).length = L.length + 1 := by rw [List.length_append]; rfl
    rw [el, List.append_assoc] at k2
    unfold xw
    dsimp only
    rw [xg_pos (g_ix (by omega) (by decide)), i_cl (by omega), on_s]
    exact ⟨_, by rw [List.length_append]; rfl, k2⟩
theorem e_dec {a : xA} {L : List Int32} {n : Nat} (hn : n < 100) (H : Rp r a L) (hl : L.length < 30) : ∃ a', f409_decimal N h b (Int32.ofNat n) a = some a' ∧ Rp r a' (L ++ dg n) := by
  have e10 : (10 : Int32) = Int32.ofNat 10 := rfl
  have e48 : (48 : Int32) = Int32.ofNat 48 := rfl
  unfold f409_decimal j409_17 dg
  rw [e10, i_modn (by omega) (by decide), e48, ← Int32.ofNat_add, ← Int32.ofNat_div (by omega) (by decide), ← Int32.ofNat_add]
  by_cases z : n < 10
  · rw [if_pos (by rw [i_lt (by omega) (by decide)]; exact z), if_pos z, Nat.mod_eq_of_lt z]
    obtain ⟨a1, e1, h1⟩ := e_rep (N := N) (h := h) (b := b) (x := Int32.ofNat (48 + n)) H (by omega)
    exact ⟨a1, by rw [e1, b1_some], h1⟩
  · rw [if_neg (by rw [i_lt (by omega) (by decide)]; exact z), if_neg z]
    obtain ⟨a1, e1, h1⟩ := e_rep (N := N) (h := h) (b := b) (x := Int32.ofNat (48 + n / 10)) H (by omega)
    obtain ⟨a2, e2, h2⟩ := e_rep (N := N) (h := h) (b := b) (x := Int32.ofNat (48 + n % 10)) h1 (by rw [List.length_append]; simp; omega)
    exact ⟨a2, by rw [e1, b1_some, e2, b1_some], by rw [List.append_assoc] at h2; exact h2⟩
theorem by_n : ∀ n : Nat, n < 10 → By (Int32.ofNat (48 + n)) := by
  unfold By
  decide
theorem dg_b {n : Nat} (hn : n < 100) : ∀ v, v ∈ dg n → By v := by
  intro v hv
  unfold dg at hv
  split at hv
  · rw [List.mem_singleton] at hv; rw [hv]; exact by_n _ (by omega)
  · rw [List.mem_cons, List.mem_singleton] at hv
    rcases hv with q | q <;> rw [q] <;> exact by_n _ (by omega)
theorem by_all {L : List Int32} (H : ∀ v, v ∈ L → By v) {i : Nat} (hi : i < L.length) : By (L.getD i 0) := by
  rw [List.getD_eq_getElem?_getD, List.getElem?_eq_getElem hi]
  exact H _ (List.getElem_mem hi)
theorem mx1 {m : Nat} (hm : m < 2 ^ 31) : xmax 1 (Int32.ofNat m) = Int32.ofNat (max 1 m) := by
  unfold xmax
  have e1 : (1 : Int32) = Int32.ofNat 1 := rfl
  by_cases q : 1 < m
  · rw [if_pos (by rw [e1, i_lt (by omega) (by omega)]; exact q), Nat.max_eq_right (by omega)]
  · rw [if_neg (by rw [e1, i_lt (by omega) (by omega)]; exact q), Nat.max_eq_left (by omega)]; rfl
/-- the row that is told, from the region's top where it counts from there -/
theorem mx2 {Y T : Nat} (hY : Y < 100) (hT : T < 100) : xmax 1 (Int32.ofNat Y - Int32.ofNat T + 1) = Int32.ofNat (max 1 (Y + 1 - T)) := by
  by_cases q : T ≤ Y
  · rw [← Int32.ofNat_sub _ _ q, on_s, mx1 (by omega), show Y - T + 1 = Y + 1 - T by omega]
  · rw [Nat.max_eq_left (by omega)]
    have h1 : Int32.ofNat Y - Int32.ofNat T + 1 ≤ 0 := by
      have e1 : Int32.ofNat Y < Int32.ofNat T := by rw [i_lt (by omega) (by omega)]; omega
      have e2 : 0 ≤ Int32.ofNat Y := by rw [i_neg_le (by omega)]; trivial
      have e3 : Int32.ofNat T < 100 := by rw [show (100 : Int32) = Int32.ofNat 100 from rfl, i_lt (by omega) (by omega)]; omega
      grind
    unfold xmax
    grind
theorem d_where (hd : Dim N h b) (hT : RT h b c0 r0 c r) : Q2 (f242_answerPlace N h b c) (f408_reports N h b 6 r) (fun p q => RT h b c0 r0 p q) := by
  have hd' := hd
  obtain ⟨m0, m1, m2, m3, m4, m5⟩ := hd'
  obtain ⟨hf, ⟨Y, X, Tp, Bt, hs⟩, ho, hv, hc⟩ := hT.2.1
  obtain ⟨⟨a1, a2, a3, a4⟩, ⟨b1, b2, b3, b4⟩, ⟨d1, d2, d3, d4, d5, d6, d7, d8⟩⟩ := hs
  have g3 : c 136 10 = r 157 98 := by unfold Go at ho; exact ho.2.2.1
  have lb := LL_b hd (r 191 Y)
  unfold f242_answerPlace f408_reports
  obtain ⟨q1, e1, h1⟩ := e_rep (N := N) (h := h) (b := b) (x := 27) (Rp_nil (RT_89 hT)) (by decide)
  obtain ⟨q2, e2, h2⟩ := e_rep (N := N) (h := h) (b := b) (x := 91) h1 (by decide)
  refine q_l2 e_gh (q_nr (by decide) (q_pr rfl (q_r1 e1 (q_r1 e2 (q_r2 e_md ?_)))))
  have x93 : q2 157 93 = Int32.ofNat Y := by rw [h2.2.1 93 (by decide)]; exact d2
  have x94 : q2 157 94 = Int32.ofNat X := by rw [h2.2.1 94 (by decide)]; exact d4
  have x95 : q2 157 95 = Int32.ofNat Tp := by rw [h2.2.1 95 (by decide)]; exact d6
  have x98 : q2 157 98 = r 157 98 := h2.2.1 98 (by decide)
  have C2 := Cp_s (v := 91) (Cp_s (v := 27) (Cp_nil (p := 134) (c := c)) (i := 0) rfl) (i := 1) rfl
  have fin : ∀ {t : Int32} {n : Nat}, n < 100 → xmax 1 (Int32.ofNat Y - t + 1) = Int32.ofNat n → Q2 (j242_23 N h b t c) (j408_89 N h b (Int32.ofNat n) q2) (fun p q => RT h b c0 r0 p q) := by
    intro t n hn et
    have l1 := dg_l (n := n)
    have l2 := dg_l (n := X + 1)
    unfold j242_23 j408_89 xw
    dsimp only
    rw [show (xU (xU c 134 0 27) 134 1 91) 136 5 = Int32.ofNat Y from d1, et]
    obtain ⟨s1, t1, w1⟩ := e_num (N := N) (h := h) (b := b) (n := n) hn C2 (by decide)
    refine q_l2 t1 ?_
    have g1 : ([] ++ [27] ++ [91] ++ dg n : List Int32).length < 32 := by simp; omega
    refine q_hl (g_ix g1 (by decide)) ?_
    rw [i_cl (by omega), on_s]
    have w2 := Cp_s (v := 59) w1 rfl
    have ew : ([] ++ [27] ++ [91] ++ dg n : List Int32).length + 1 = ([] ++ [27] ++ [91] ++ dg n ++ [59] : List Int32).length := by simp
    have e6 : (xU s1 134 ([] ++ [27] ++ [91] ++ dg n : List Int32).length 59) 136 6 = Int32.ofNat X := by rw [w2.1 136 (by decide)]; exact d3
    rw [e6, on_s, ew]
    obtain ⟨s2, t2, w3⟩ := e_num (N := N) (h := h) (b := b) (n := X + 1) (by omega) w2 (by simp; omega)
    refine q_l2 t2 ?_
    have g2 : ([] ++ [27] ++ [91] ++ dg n ++ [59] ++ dg (X + 1) : List Int32).length < 32 := by simp; omega
    refine q_hl (g_ix g2 (by decide)) ?_
    rw [i_cl (by omega), on_s]
    have w4 := Cp_s (v := 82) w3 rfl
    obtain ⟨z1, u1, k1⟩ := e_dec (N := N) (h := h) (b := b) (n := n) hn h2 (by decide)
    obtain ⟨z2, u2, k2⟩ := e_rep (N := N) (h := h) (b := b) (x := 59) k1 g1
    have e94 : z2 157 94 = Int32.ofNat X := by rw [k2.2.1 94 (by decide)]; exact d4
    obtain ⟨z3, u3, k3⟩ := e_dec (N := N) (h := h) (b := b) (n := X + 1) (by omega) k2 (by simp; omega)
    obtain ⟨z4, u4, k4⟩ := e_rep (N := N) (h := h) (b := b) (x := 82) k3 g2
    refine q_r1 u1 (q_r1 u2 ?_)
    rw [e94, on_s]
    refine q_r1 u3 (q_r1 u4 ?_)
    have ll : ([] ++ [27] ++ [91] ++ dg n ++ [59] ++ dg (X + 1) ++ [82] : List Int32).length = ([] ++ [27] ++ [91] ++ dg n ++ [59] ++ dg (X + 1) : List Int32).length + 1 := by rw [List.length_append]; rfl
    refine d_say2 hd.1 hT w4 k4 ll (by omega) (fun i hi => by_all (fun v hv => ?_) (by omega))
    simp only [List.nil_append, List.mem_append, List.mem_singleton] at hv
    rcases hv with ((((q | q) | q) | q) | q) | q
    · rw [q]; decide
    · rw [q]; decide
    · exact dg_b hn v q
    · rw [q]; decide
    · exact dg_b (by omega) v q
    · rw [q]; decide
  rw [x98, ← g3, x93, x95, d5]
  by_cases z : ¬ c 136 10 &&& 16 = 0
  · rw [zb_t z]
    refine q_nl (by decide) (q_nr (by decide) ?_)
    rw [mx2 (by omega) (by omega)]
    exact fin (by omega) (mx2 (by omega) (by omega))
  · rw [zb_f z]
    refine q_pl rfl (q_pr rfl ?_)
    rw [on_s]
    exact fin (by omega) (by rw [show (0 : Int32) = Int32.ofNat 0 from rfl, mx2 (by omega) (by omega)]; congr 1)
end T
