/-! Erasing in a row; cells in and out. -/
section G
variable {N h b : Nat} {c0 r0 c r c' r' : xA} {x y s v : Int32} {Y X Tp Bt F E k : Nat}
/-- new cells in the cursor's row alone -/
theorem RG_row {a : xA} {f : Nat → Int32} {P : Nat → Nat → Int32} (hd : Dim N h b) (hR : RG h b c0 r0 c r) (hC : Cs r a (fun y x => P y x) (v0 r)) (h1 : ∀ y x, y < h → x < b → f (y * b + x) = P y x) (h3 : ∀ y x, y < h → ¬ v0 r y = 0 → b / 2 ≤ x → x < b → P y x = 32) : RG h b c0 r0 (xW c 138 f) a := by
  obtain ⟨hf, ⟨Y, X, Tp, Bt, hs⟩, ho, hv, hc⟩ := hR
  obtain ⟨g1, g2, g3, g4, g5⟩ := RG_cl (f := f) hd hf hs ho hv hc hC h1 h3
  exact ⟨g1, ⟨Y, X, Tp, Bt, g2⟩, g3, g4, g5⟩
/-- a stretch of a row, by its places in the grid -/
theorem str {yy xx A E : Nat} (hx : xx < b) (hA : A ≤ E) (hE : E ≤ b) : (Y * b + A ≤ yy * b + xx ∧ yy * b + xx < Y * b + E) = (yy = Y ∧ A ≤ xx ∧ xx < E) := by
  apply propext
  constructor
  · rintro ⟨u1, u2⟩
    have q1 : Y ≤ yy := by rw [← ge_row (F := Y) (B := b) hx]; omega
    have q2 : yy < Y + 1 := by rw [← lt_row (F := Y + 1) (B := b) hx, Nat.add_mul]; omega
    have e : yy = Y := by omega
    subst e
    exact ⟨rfl, by omega, by omega⟩
  · rintro ⟨u1, u2, u3⟩
    subst u1
    omega
theorem d_erow (hd : Dim N h b) (hR : RG h b c0 r0 c r) (hY : c 136 5 = Int32.ofNat Y) (hX : c 136 6 = Int32.ofNat X) {A E E' : Nat} (hs : Gs h b Y X Tp Bt c r) (hA : A ≤ E') (hE' : E' ≤ E) (hE : E ≤ b) (hl : E' = E ∨ E' = LL b (r 191 Y) + 1) (ho : E' ≤ LL b (r 191 Y) + 1) : ∃ c' r', f14_fill N h b 138 (Int32.ofNat (Y * b + A)) (Int32.ofNat (Y * b + E)) 32 c = some c' ∧ f390_blank N h b (Int32.ofNat Y) (Int32.ofNat A) (Int32.ofNat E') r = some r' ∧ RG h b c0 r0 c' r' ∧ c' = xW c 138 (am_fll (c 138) (Y * b + A) (Y * b + E) 32) ∧ Cs r r' (fun y' x' => if y' = Y ∧ A ≤ x' ∧ x' < E' then 32 else s0 r y' x') (v0 r) := by
  have hd' := hd
  obtain ⟨m0, m1, m2, m3, m4, m5⟩ := hd'
  have hc := hR.2.2.2.2
  have b1 := hs.2.1.1
  have hHB := hb_ub (H := h) (B := b) m2 m4
  have e2 : (Y + 1) * b ≤ h * b := Nat.mul_le_mul_right b b1
  rw [Nat.add_mul] at e2
  obtain ⟨r', t1, t2⟩ := e_blank (N := N) (h := h) (b := b) (yy := Y) (A := A) (E := E') (a := r) m0 (by omega) hA (by omega)
  have l8 : xl h b 138 = h * b := rfl
  refine ⟨_, r', e_fill (n := h * b) rfl l8 (by omega) (by omega) (by omega), t1, ?_, rfl, t2⟩
  refine RG_row hd hR t2 (fun y1 x1 h1 h2 => ?_) (fun y1 x1 h1 h2 h3 h4 => ?_)
  · unfold am_fll
    by_cases z : y1 = Y ∧ A ≤ x1 ∧ x1 < E
    · rw [if_pos (by rw [str h2 (by omega) hE]; exact z)]
      by_cases z2 : x1 < E'
      · rw [if_pos ⟨z.1, z.2.1, z2⟩]
      · rw [if_neg (fun q => z2 q.2.2)]
        obtain ⟨z1, z3, z4⟩ := z
        subst z1
        have e5 : E' = LL b (r 191 y1) + 1 := by omega
        by_cases z6 : r 191 y1 = 0
        · unfold LL at e5
          rw [if_pos z6] at e5
          omega
        · unfold LL at e5
          rw [if_neg z6] at e5
          exact (hc.2.2.2 y1 x1 h1 z6 (by omega) h2).symm
    · rw [if_neg (by rw [str h2 (by omega) hE]; exact z), if_neg (fun q => z ⟨q.1, q.2.1, by omega⟩)]
      exact hc.2.2.1 y1 x1 h1 h2
  · by_cases z : y1 = Y ∧ A ≤ x1 ∧ x1 < E'
    · rw [if_pos z]
    · rw [if_neg z]; exact hc.2.2.2 y1 x1 h1 h2 h3 h4
/-- the reference's K -/
def refK (N h b : Nat) (q2 : Int32) (a : xA) : Option xA := if q2 = 0 then (xb2 (f385_last N h b (a 157 93) a) (fun r55 a56 => xb1 (f390_blank N h b (a 157 93) (a 157 94) (r55 + 1) a56) (fun a60 => some a60))) else (if q2 = 1 then (xb1 (f390_blank N h b (a 157 93) 0 ((a 157 94) + 1) a) (fun a65 => some a65)) else (if q2 = 2 then (xb2 (f385_last N h b (a 157 93) a) (fun r70 a71 => xb1 (f390_blank N h b (a 157 93) 0 (r70 + 1) a71) (fun a75 => some a75))) else (some a)))
theorem d_K (hd : Dim N h b) (hR : RG h b c0 r0 c r) : Q2 (f231_eraseRow N h b x c) (refK N h b x r) (fun p q => RG h b c0 r0 p q) := by
  have hR' := hR
  obtain ⟨hf, ⟨Y, X, Tp, Bt, hs⟩, ho, hv, hc⟩ := hR'
  have hs' := hs
  obtain ⟨⟨a1, a2, a3, a4⟩, ⟨b1, b2, b3, b4⟩, ⟨d1, d2, d3, d4, d5, d6, d7, d8⟩⟩ := hs'
  have hd' := hd
  obtain ⟨m0, m1, m2, m3, m4, m5⟩ := hd'
  have lb := LL_b hd (r 191 Y)
  unfold f231_eraseRow refK f208_here
  rw [d1, d2, d3, d4, a2]
  refine q_il.mpr ⟨fun z => q_pr z (q_l2 rfl (q_r2 (e_last' hd a4 b1) ?_)), fun z => q_nr z ?_⟩
  · obtain ⟨c', r', t1, t2, t3, _⟩ := d_erow (N := N) (A := X) (E := b) (E' := LL b (r 191 Y) + 1) hd hR d1 d3 hs (by omega) (by omega) (Nat.le_refl _) (Or.inr rfl) (Nat.le_refl _)
    rw [← Int32.ofNat_mul, ← Int32.ofNat_add, a2, ← Int32.ofNat_add, on_s]
    exact q_l1 t1 (q_r1 t2 (q_ok1 t3))
  refine q_il.mpr ⟨fun z => q_pr z (q_l2 rfl ?_), fun z => q_nr z ?_⟩
  · obtain ⟨c', r', t1, t2, t3, _⟩ := d_erow (N := N) (A := 0) (E := X + 1) (E' := X + 1) hd hR d1 d3 hs (by omega) (by omega) (by omega) (Or.inl rfl) (by omega)
    rw [← Int32.ofNat_mul, ← Int32.ofNat_add, on_s, on_s, Nat.add_assoc]
    exact q_l1 t1 (q_r1 t2 (q_ok1 t3))
  refine q_il.mpr ⟨fun z => q_pr z (q_r2 (e_last' hd a4 b1) ?_), fun z => q_nr z (q_ok1 hR)⟩
  obtain ⟨c', r', t1, t2, t3, _⟩ := d_erow (N := N) (A := 0) (E := b) (E' := LL b (r 191 Y) + 1) hd hR d1 d3 hs (by omega) (by omega) (Nat.le_refl _) (Or.inr rfl) (Nat.le_refl _)
  rw [← Int32.ofNat_mul, ← Int32.ofNat_add, on_s]
  exact q_l1 t1 (q_r1 t2 (q_ok1 t3))
/-- the reference moves cells to the right, to the left -/
theorem e_cR {w1 w3 : Int32} {a : xA} {l m : Nat} (hy : Y < 24) (hl : l < 80) (hm : X + m ≤ l + 1) (h3 : a 157 93 = Int32.ofNat Y) (h4 : a 157 94 = Int32.ofNat X) : ∀ (k n : Nat) {a1 : xA}, X + m + k ≤ l + 1 → k < n → Cs a a1 (fun y x => if y = Y ∧ X + m + k ≤ x ∧ x ≤ l then s0 a y (x - m) else s0 a y x) (v0 a) → ∃ a', l405_32 N h b w1 w3 (Int32.ofNat m) n (Int32.ofNat (X + m + k) - 1) a1 = some (0, a') ∧ Cs a a' (fun y x => if y = Y ∧ X + m ≤ x ∧ x ≤ l then s0 a y (x - m) else s0 a y x) (v0 a)
  | 0, n, a1, h1, h2, hC => by
    obtain ⟨m', rfl⟩ : ∃ m', n = m' + 1 := ⟨n - 1, by omega⟩
    have g4 : a1 157 94 = Int32.ofNat X := by rw [hC.1 157 (by decide) (by decide)]; exact h4
    rw [l405_32, g4, ← Int32.ofNat_add, if_pos]
    · exact ⟨a1, rfl, hC⟩
    · show Int32.ofNat (X + m) - 1 < Int32.ofNat (X + m)
      have := zf (j := X + m) (by omega)
      have : Int32.ofNat (X + m) ≤ 81 := by rw [show (81 : Int32) = Int32.ofNat 81 from rfl, i_le (by omega) (by decide)]; omega
      grind
  | k + 1, n, a1, h1, h2, hC => by
    obtain ⟨m', rfl⟩ : ∃ m', n = m' + 1 := ⟨n - 1, by omega⟩
    have g3 : a1 157 93 = Int32.ofNat Y := by rw [hC.1 157 (by decide) (by decide)]; exact h3
    have g4 : a1 157 94 = Int32.ofNat X := by rw [hC.1 157 (by decide) (by decide)]; exact h4
    have e0 : Int32.ofNat (X + m + (k + 1)) - 1 = Int32.ofNat (X + m + k) := by rw [on_p (by omega), show X + m + (k + 1) - 1 = X + m + k by omega]
    have e1 : Int32.ofNat (X + m + k) + (-1) = Int32.ofNat (X + m + k) - 1 := by grind
    rw [e0, l405_32, g3, g4, ← Int32.ofNat_add, if_neg (by rw [i_lt (by omega) (by omega)]; omega), o80, ← Int32.ofNat_sub _ _ (by omega), xg_pos (g_ix (by omega) (by decide)), xg_pos (g_ix (by omega) (by decide)), i_cl (by omega), i_cl (by omega), show 80 * Y + (X + m + k) - m = 80 * Y + (X + k) by omega, hC.2.1 Y (X + k) hy (by omega), e1]
    unfold xw
    dsimp only
    refine e_cR hy hl hm h3 h4 k m' (by omega) (by omega) (Cs_eq (Cs_u hC hy (by omega)) (fun y' x' h5 h6 => ?_) (fun _ _ => rfl))
    by_cases z : y' = Y ∧ x' = X + m + k
    · rw [if_pos z, if_neg (show ¬ (Y = Y ∧ X + m + (k + 1) ≤ X + k ∧ X + k ≤ l) by omega), if_pos (show y' = Y ∧ X + m + k ≤ x' ∧ x' ≤ l by omega), z.1, z.2, show X + m + k - m = X + k by omega]
    · rw [if_neg z]
      grind
theorem e_cL {w1 : Int32} {a : xA} {l m : Nat} (hN : 100000 ≤ N) (hy : Y < 24) (hl : l < 80) (hX : X ≤ l) (hm1 : 1 ≤ m) (hm : X + m ≤ l + 1) (h3 : a 157 93 = Int32.ofNat Y) : ∃ a', l405_95 N h b w1 (Int32.ofNat l) (Int32.ofNat m) N (Int32.ofNat X) a = some (0, a') ∧ Cs a a' (fun y x => if y = Y ∧ X ≤ x ∧ x + m ≤ l then s0 a y (x + m) else s0 a y x) (v0 a) := by
  obtain ⟨a', e1, e2⟩ := lp_up (L := l405_95 N h b w1 (Int32.ofNat l) (Int32.ofNat m)) (hi := l + 1 - m) (out := fun a => (0, a)) (P := fun j a' => X ≤ j ∧ Cs a a' (fun y x => if y = Y ∧ X ≤ x ∧ x < j then s0 a y (x + m) else s0 a y x) (v0 a))
    (fun n j a1 h1 h2 => by
      have g3 : a1 157 93 = Int32.ofNat Y := by rw [h1.2.1 157 (by decide) (by decide)]; exact h3
      rw [l405_95, g3, ← Int32.ofNat_add, if_neg (by rw [i_lt (by omega) (by omega)]; omega), o80, ← Int32.ofNat_add, xg_pos (g_ix (by omega) (by decide)), xg_pos (g_ix (by omega) (by decide)), i_cl (by omega), i_cl (by omega), on_s, show 80 * Y + j + m = 80 * Y + (j + m) by omega, h1.2.2.1 Y (j + m) hy (by omega)]
      have := h1.1
      exact ⟨_, rfl, by omega, Cs_eq (Cs_u h1.2 hy (by omega)) (fun y' x' h5 h6 => by grind) (fun _ _ => rfl)⟩)
    (fun n a1 h1 => by rw [l405_95, ← Int32.ofNat_add, if_pos (by rw [i_lt (by omega) (by omega)]; omega)])
    (l + 1 - m - X) X N a (by omega) (by omega) ⟨Nat.le_refl _, Cs_eq Cs_rfl (fun y' x' h3 h4 => by rw [if_neg (by omega)]) (fun _ _ => rfl)⟩
  exact ⟨a', e1, Cs_eq e2.2 (fun y' x' h5 h6 => by grind) (fun _ _ => rfl)⟩
theorem xminN {i j : Nat} (hi : i < 2 ^ 31) (hj : j < 2 ^ 31) : xmin (Int32.ofNat i) (Int32.ofNat j) = Int32.ofNat (min i j) := by
  unfold xmin
  by_cases q : j < i
  · rw [if_pos (by rw [i_lt hj hi]; exact q), Nat.min_eq_right (by omega)]
  · rw [if_neg (by rw [i_lt hj hi]; exact q), Nat.min_eq_left (by omega)]
/-- @, P and X -/
theorem d_cin {n : Nat} {q : Int32} {F0 : Option xA} (hd : Dim N h b) (hR : RG h b c0 r0 c r) (hn : 1 ≤ n) (hn2 : n ≤ 9999) (hq : (q = 64 ∧ F0 = f233_slideCellsHere N h b (Int32.ofNat n) c) ∨ (q = 80 ∧ F0 = f233_slideCellsHere N h b (-Int32.ofNat n) c) ∨ (q = 88 ∧ F0 = f234_blankCellsHere N h b (Int32.ofNat n) c)) : Q2 F0 (f405_cellsIn N h b q (Int32.ofNat n) r) (fun p q => RG h b c0 r0 p q) := by
  have hR' := hR
  obtain ⟨hf, ⟨Y, X, Tp, Bt, hs⟩, ho, hv, hc⟩ := hR'
  have hs' := hs
  obtain ⟨⟨a1, a2, a3, a4⟩, ⟨b1, b2, b3, b4⟩, ⟨d1, d2, d3, d4, d5, d6, d7, d8⟩⟩ := hs'
  have hd' := hd
  obtain ⟨m0, m1, m2, m3, m4, m5⟩ := hd'
  have lb := LL_b hd (r 191 Y)
  have hHB := hb_ub (H := h) (B := b) m2 m4
  have hm2 := mul_ub (y := Y) (x := LL b (r 191 Y)) (H := h) (B := b) b1 (by omega)
  have l8 : xl h b 138 = h * b := rfl
  have wide : ∀ {y1 x1 : Nat}, ¬ v0 r y1 = 0 → b / 2 ≤ x1 → ¬ (y1 = Y ∧ x1 ≤ LL b (r 191 Y)) := by
    intro y1 x1 h4 h5 q
    obtain ⟨q1, q2⟩ := q
    subst q1
    have h4' : ¬ r 191 y1 = 0 := h4
    unfold LL at q2
    rw [if_neg h4'] at q2
    omega
  -- the end of the reference
  have fin : ∀ {a : xA} {P : Nat → Nat → Int32} {f : Nat → Int32}, Cs r a P (v0 r) → (∀ y x, y < h → x < b → f (y * b + x) = P y x) → (∀ y x, y < h → ¬ v0 r y = 0 → b / 2 ≤ x → x < b → P y x = 32) → RG h b c0 r0 (xU (xW c 138 f) 136 7 0) (xU a 157 108 0) := fun hC h1 h3 => RG_7 (RG_row hd hR hC h1 h3) (Or.inl rfl)
  unfold f405_cellsIn
  rw [d2]
  refine q_r2 (e_last' hd a4 b1) ?_
  rw [d4, on_s, ← Int32.ofNat_sub _ _ (by omega), xminN (by omega) (by omega)]
  generalize hmm : min n (LL b (r 191 Y) + 1 - X) = m
  unfold j405_83 j405_143 j405_188
  rcases hq with ⟨q1, q2⟩ | ⟨q1, q2⟩ | ⟨q1, q2⟩
  · subst q1 q2
    refine q_pr rfl ?_
    unfold f233_slideCellsHere f208_here
    refine q_l2 rfl (q_l2 (e_last hd hs hc) ?_)
    rw [d1, d3, a2, ← Int32.ofNat_mul, ← Int32.ofNat_add, ← Int32.ofNat_sub _ _ b2, on_s]
    refine q_l1 (e_slR (k := n) rfl l8 (by omega) (by omega) (by omega) (zf (by omega)) (i_cl (by omega))) (q_wl.mpr ?_)
    obtain ⟨a, t1, t2⟩ := e_cR (N := N) (h := h) (b := b) (w1 := 64) (w3 := Int32.ofNat (LL b (r 191 Y))) (a := r) (l := LL b (r 191 Y)) (m := m) (Y := Y) (X := X) (by omega) (by omega) (by omega) d2 d4 (LL b (r 191 Y) + 1 - X - m) N (a1 := r) (by omega) (by omega) (Cs_eq Cs_rfl (fun y' x' h5 h6 => by rw [if_neg (by omega)]) (fun _ _ => rfl))
    rw [show X + m + (LL b (r 191 Y) + 1 - X - m) = LL b (r 191 Y) + 1 by omega, on_p (by omega), show LL b (r 191 Y) + 1 - 1 = LL b (r 191 Y) by omega] at t1
    refine q_rb t1 (q_nr (by decide) (q_nr (by decide) ?_))
    have e157 : a 157 = r 157 := t2.1 157 (by decide) (by decide)
    obtain ⟨a', u1, u2⟩ := e_blank (N := N) (h := h) (b := b) (yy := Y) (A := X) (E := X + m) (a := a) m0 (by omega) (by omega) (by omega)
    dsimp only
    rw [e157, d2, d4, ← Int32.ofNat_add]
    refine q_r1 u1 (q_wr.mpr (q_ok1 (fin (P := fun y' x' => if y' = Y ∧ X ≤ x' ∧ x' < X + m then 32 else (if y' = Y ∧ X + m ≤ x' ∧ x' ≤ LL b (r 191 Y) then s0 r y' (x' - m) else s0 r y' x')) (Cs_eq (Cs_tr t2 u2) (fun y' x' h5 h6 => ?_) (fun y' h5 => t2.2.2 y' h5)) (fun y1 x1 h1 h2 => ?_) (fun y1 x1 h1 h2 h3 h4 => ?_))))
    · have q1 : s0 a y' x' = _ := t2.2.1 y' x' h5 h6
      rw [q1]
    · unfold slR
      have es := str (Y := Y) (yy := y1) (A := X) (E := LL b (r 191 Y) + 1) h2 (by omega) (by omega)
      have e1 : Y * b + X + (LL b (r 191 Y) - X + 1) = Y * b + (LL b (r 191 Y) + 1) := by omega
      rw [e1]
      by_cases z : y1 = Y ∧ X ≤ x1 ∧ x1 < LL b (r 191 Y) + 1
      · rw [if_pos (by rw [es]; exact z)]
        obtain ⟨z1, z2, z3⟩ := z
        subst z1
        by_cases z4 : x1 < X + m
        · rw [if_pos (by omega), if_pos ⟨rfl, z2, z4⟩]
        · rw [if_neg (by omega), if_neg (by omega), if_pos ⟨rfl, by omega, by omega⟩, show n = m by omega, Nat.add_sub_assoc (by omega)]
          exact hc.2.2.1 y1 (x1 - m) h1 (by omega)
      · rw [if_neg (by rw [es]; exact z), if_neg (by omega), if_neg (by omega)]
        exact hc.2.2.1 y1 x1 h1 h2
    · have := wide h2 h3
      rw [if_neg (by omega), if_neg (by omega)]
      exact hc.2.2.2 y1 x1 h1 h2 h3 h4
  · subst q1 q2
    refine q_nr (by decide) (q_pr rfl ?_)
    rw [d4]
    unfold f233_slideCellsHere f208_here
    refine q_l2 rfl (q_l2 (e_last hd hs hc) ?_)
    rw [d1, d3, a2, ← Int32.ofNat_mul, ← Int32.ofNat_add, ← Int32.ofNat_sub _ _ b2, on_s]
    have tn : (Int32.ofNat n).toInt = n := Int32.toInt_ofNat_of_lt (by omega)
    have tm : (-Int32.ofNat n).toInt = -(n : Int) := by rw [Int32.toInt_neg, tn, Int.bmod_eq_of_le (by omega) (by omega)]
    refine q_l1 (e_slL (k := n) rfl l8 (by omega) (by omega) (by omega) (by rw [Int32.lt_iff_toInt_lt, tm]; have : (0 : Int32).toInt = 0 := rfl; omega) tm) (q_wl.mpr ?_)
    obtain ⟨a, t1, t2⟩ := e_cL (N := N) (h := h) (b := b) (w1 := 80) (a := r) (l := LL b (r 191 Y)) (m := m) (Y := Y) (X := X) m0 (by omega) (by omega) b2 (by omega) (by omega) d2
    refine q_rb t1 (q_pr rfl ?_)
    have e157 : a 157 = r 157 := t2.1 157 (by decide) (by decide)
    obtain ⟨a', u1, u2⟩ := e_blank (N := N) (h := h) (b := b) (yy := Y) (A := LL b (r 191 Y) + 1 - m) (E := LL b (r 191 Y) + 1) (a := a) m0 (by omega) (by omega) (by omega)
    dsimp only
    rw [e157, d2, on_s, ← Int32.ofNat_sub _ _ (by omega)]
    refine q_r1 u1 (q_wr.mpr (q_ok1 (fin (P := fun y' x' => if y' = Y ∧ LL b (r 191 Y) + 1 - m ≤ x' ∧ x' < LL b (r 191 Y) + 1 then 32 else (if y' = Y ∧ X ≤ x' ∧ x' + m ≤ LL b (r 191 Y) then s0 r y' (x' + m) else s0 r y' x')) (Cs_eq (Cs_tr t2 u2) (fun y' x' h5 h6 => ?_) (fun y' h5 => t2.2.2 y' h5)) (fun y1 x1 h1 h2 => ?_) (fun y1 x1 h1 h2 h3 h4 => ?_))))
    · have q1 : s0 a y' x' = _ := t2.2.1 y' x' h5 h6
      rw [q1]
    · unfold slL
      have es := str (Y := Y) (yy := y1) (A := X) (E := LL b (r 191 Y) + 1) h2 (by omega) (by omega)
      have e1 : Y * b + X + (LL b (r 191 Y) - X + 1) = Y * b + (LL b (r 191 Y) + 1) := by omega
      rw [e1]
      by_cases z : y1 = Y ∧ X ≤ x1 ∧ x1 < LL b (r 191 Y) + 1
      · rw [if_pos (by rw [es]; exact z)]
        obtain ⟨z1, z2, z3⟩ := z
        subst z1
        by_cases z4 : x1 + m ≤ LL b (r 191 y1)
        · rw [if_pos (by omega), if_neg (by omega), if_pos ⟨rfl, z2, z4⟩, show n = m by omega, Nat.add_assoc]
          exact hc.2.2.1 y1 (x1 + m) h1 (by omega)
        · rw [if_neg (by omega), if_pos ⟨rfl, by omega, z3⟩]
      · rw [if_neg (by rw [es]; exact z), if_neg (by omega), if_neg (by omega)]
        exact hc.2.2.1 y1 x1 h1 h2
    · have := wide h2 h3
      rw [if_neg (by omega), if_neg (by omega)]
      exact hc.2.2.2 y1 x1 h1 h2 h3 h4
  · subst q1 q2
    refine q_nr (by decide) (q_nr (by decide) (q_nr (by decide) ?_))
    unfold f234_blankCellsHere f208_here
    refine q_l2 (e_last hd hs hc) (q_l2 rfl (q_l2 rfl ?_))
    rw [d1, d3, a2, d2, d4, ← Int32.ofNat_mul, ← Int32.ofNat_add, ← Int32.ofNat_sub _ _ b2, on_s, xminN (by omega) (by omega), ← Int32.ofNat_add, ← Int32.ofNat_add, show min n (LL b (r 191 Y) - X + 1) = m by omega]
    obtain ⟨c', r', t1, t2, t3, _⟩ := d_erow (N := N) (A := X) (E := X + m) (E' := X + m) hd hR d1 d3 hs (by omega) (by omega) (by omega) (Or.inl rfl) (by omega)
    rw [← Nat.add_assoc] at t1
    exact q_l1 t1 (q_wl.mpr (q_r1 t2 (q_wr.mpr (q_ok1 (RG_7 t3 (Or.inl rfl))))))
end G
