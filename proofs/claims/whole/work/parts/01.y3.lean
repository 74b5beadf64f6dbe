/-! Rows that roll on the terminal's screen. -/
section G
variable {N h b : Nat} {c0 r0 c r c' r' : xA} {x y s : Int32} {Y X Tp Bt F E k : Nat}
theorem e_slG (hd : Dim N h b) (h0 : c 136 0 = Int32.ofNat h) (h1 : c 136 1 = Int32.ofNat b) (hF : F ≤ E) (hE : E < h) :
    f207_slideRows N h b (Int32.ofNat F) (Int32.ofNat E) s c = some (xU (xW (xW c 138 (if 0 ≤ s then slR (c 138) (F * b) ((E + 1 - F) * b) (min s.toInt.natAbs h * b) 32 else slL (c 138) (F * b) ((E + 1 - F) * b) (min s.toInt.natAbs h * b) 32)) 139 (if 0 ≤ s then slR (c 139) F (E + 1 - F) (min s.toInt.natAbs h) 0 else slL (c 139) F (E + 1 - F) (min s.toInt.natAbs h) 0)) 136 16 3) := by
  obtain ⟨m0, m1, m2, m3, m4, m5⟩ := hd
  unfold f207_slideRows
  have hHB := hb_ub (H := h) (B := b) m2 m4
  have e1 : F * b + (E + 1 - F) * b = (E + 1) * b := by rw [← Nat.add_mul, show F + (E + 1 - F) = E + 1 by omega]
  have e2 : (E + 1) * b ≤ h * b := Nat.mul_le_mul_right b hE
  have p1 : 0 < (E + 1 - F) * b := Nat.mul_pos (by omega) (by omega)
  have tH : (Int32.ofNat h).toInt = h := Int32.toInt_ofNat_of_lt (by omega)
  have tm : (-Int32.ofNat h).toInt = -(h : Int) := by rw [Int32.toInt_neg, tH, Int.bmod_eq_of_le (by omega) (by omega)]
  have t0 : (0 : Int32).toInt = 0 := rfl
  have k8 : xk 138 = 100 := rfl
  have k9 : xk 139 = 100 := rfl
  have l8 : xl h b 138 = h * b := rfl
  have l9 : xl h b 139 = h := rfl
  have n1 : Int32.ofNat E - Int32.ofNat F + 1 = Int32.ofNat (E + 1 - F) := by rw [← Int32.ofNat_sub _ _ hF, on_s, show E - F + 1 = E + 1 - F by omega]
  rw [h0, n1]
  have hm : min s.toInt.natAbs h * b ≤ 1920 := Nat.le_trans (Nat.mul_le_mul_right b (Nat.min_le_right _ _)) hHB
  by_cases z : 0 ≤ s
  · have z' := Int32.le_iff_toInt_le.mp z
    rw [t0] at z'
    have en : f10_nearest N h b s (-Int32.ofNat h) (Int32.ofNat h) c = some (Int32.ofNat (min s.toInt.natAbs h), c) := by
      unfold f10_nearest
      rw [if_pos (by rw [Int32.le_iff_toInt_le, tm]; omega)]
      by_cases z2 : s ≤ Int32.ofNat h
      · have z3 := Int32.le_iff_toInt_le.mp z2
        rw [tH] at z3
        rw [if_pos z2, Nat.min_eq_left (by omega)]
        congr 2
        exact (ofn_cl z (by have := i_cln z; omega)).symm
      · have z3 : ¬ s.toInt ≤ (h : Int) := fun q => z2 (by rw [Int32.le_iff_toInt_le, tH]; exact q)
        rw [if_neg z2, Nat.min_eq_right (by omega)]
    have hz : ∀ j : Nat, j < 2 ^ 31 → (0 : Int32) ≤ Int32.ofNat j := fun j hj => by rw [show (0 : Int32) = Int32.ofNat 0 from rfl, i_le (by decide) hj]; omega
    rw [en, b2_some, h1, ← Int32.ofNat_mul, ← Int32.ofNat_mul, ← Int32.ofNat_mul, e_slR k8 l8 p1 (by omega) (by omega) (hz _ (by omega)) (i_cl (by omega)), b1_some, e_slR k9 l9 (by omega) (by omega) (by omega) (hz _ (by omega)) (i_cl (by omega)), b1_some, if_pos z, if_pos z, xW_o (show (139 : Nat) ≠ 138 by decide)]
    rfl
  · have z' : s.toInt < 0 := by
      have := Int32.lt_iff_toInt_lt.mp (Int32.not_le.mp z)
      rw [t0] at this
      exact this
    have en : ∃ q : Int32, f10_nearest N h b s (-Int32.ofNat h) (Int32.ofNat h) c = some (q, c) ∧ q.toInt = -((min s.toInt.natAbs h : Nat) : Int) := by
      unfold f10_nearest
      by_cases z2 : -Int32.ofNat h ≤ s
      · have z3 := Int32.le_iff_toInt_le.mp z2
        rw [tm] at z3
        refine ⟨s, ?_, ?_⟩
        · rw [if_pos z2, if_pos (by rw [Int32.le_iff_toInt_le, tH]; omega)]
        · rw [Nat.min_eq_left (by omega)]; omega
      · have z3 : ¬ -(h : Int) ≤ s.toInt := fun q => z2 (by rw [Int32.le_iff_toInt_le, tm]; exact q)
        refine ⟨-Int32.ofNat h, by rw [if_neg z2], ?_⟩
        rw [tm, Nat.min_eq_right (by omega)]
    obtain ⟨q, q1, q2⟩ := en
    have hq : q = -Int32.ofNat (min s.toInt.natAbs h) := by
      apply Int32.toInt_inj.mp
      have tk : (Int32.ofNat (min s.toInt.natAbs h)).toInt = (min s.toInt.natAbs h : Nat) := Int32.toInt_ofNat_of_lt (by omega)
      rw [Int32.toInt_neg, tk, q2, Int.bmod_eq_of_le (by omega) (by omega)]
    have hqB : q * Int32.ofNat b = -Int32.ofNat (min s.toInt.natAbs h * b) := by rw [hq, Int32.ofNat_mul]; grind
    have tq : (q * Int32.ofNat b).toInt = -((min s.toInt.natAbs h * b : Nat) : Int) := by
      have tk : (Int32.ofNat (min s.toInt.natAbs h * b)).toInt = (min s.toInt.natAbs h * b : Nat) := Int32.toInt_ofNat_of_lt (by omega)
      rw [hqB, Int32.toInt_neg, tk, Int.bmod_eq_of_le (by omega) (by omega)]
    have hp : 0 < min s.toInt.natAbs h * b := Nat.mul_pos (by omega) (by omega)
    rw [q1, b2_some, h1, ← Int32.ofNat_mul, ← Int32.ofNat_mul, e_slL k8 l8 p1 (by omega) (by omega) (by rw [Int32.lt_iff_toInt_lt, tq, t0]; omega) tq, b1_some, e_slL k9 l9 (by omega) (by omega) (by omega) (by rw [Int32.lt_iff_toInt_lt, q2, t0]; omega) q2, b1_some, if_neg z, if_neg z, xW_o (show (139 : Nat) ≠ 138 by decide)]
    rfl
/-- a row slid out of range stays -/
theorem slR_out {f : Nat → Int32} {n q yy xx B : Nat} {v : Int32} (hx : xx < B) (ho : yy < F ∨ F + n ≤ yy) : slR f (F * B) (n * B) q v (yy * B + xx) = f (yy * B + xx) := by
  unfold slR
  rw [← Nat.add_mul]
  simp only [ge_row hx, lt_row hx]
  rw [if_neg (by omega)]
theorem slL_out {f : Nat → Int32} {n q yy xx B : Nat} {v : Int32} (hx : xx < B) (ho : yy < F ∨ F + n ≤ yy) : slL f (F * B) (n * B) q v (yy * B + xx) = f (yy * B + xx) := by
  unfold slL
  rw [← Nat.add_mul]
  simp only [ge_row hx, lt_row hx]
  rw [if_neg (by omega)]
/-- new cells and widths, busy -/
theorem RG_sl {a : xA} {f g : Nat → Int32} {G : Nat → Nat → Int32} {V : Nat → Int32} (hd : Dim N h b) (hf : Gf c0 r0 c r) (hs : Gs h b Y X Tp Bt c r) (ho : Go c r) (hv : Gv h b c r) (hc : Gc h b c r) (hC : Cs r a G V) (h1 : ∀ y x, y < h → x < b → f (y * b + x) = G y x) (h2 : ∀ y, y < h → g y = V y) (h3 : ∀ y x, y < h → ¬ V y = 0 → b / 2 ≤ x → x < b → G y x = 32) (hX : X ≤ LL b (V Y)) :
    Gf c0 r0 (xU (xW (xW c 138 f) 139 g) 136 16 3) (xU a 157 81 3) ∧ Gs h b Y X Tp Bt (xU (xW (xW c 138 f) 139 g) 136 16 3) (xU a 157 81 3) ∧ Go (xU (xW (xW c 138 f) 139 g) 136 16 3) (xU a 157 81 3) ∧ Gv h b (xU (xW (xW c 138 f) 139 g) 136 16 3) (xU a 157 81 3) ∧ Gc h b (xU (xW (xW c 138 f) 139 g) 136 16 3) (xU a 157 81 3) := by
  obtain ⟨m0, m1, m2, m3, m4, m5⟩ := hd
  have e157 : a 157 = r 157 := hC.1 157 (by decide) (by decide)
  have e192 : a 192 = r 192 := hC.1 192 (by decide) (by decide)
  have g1 : gI 81 := by unfold gI; omega
  refine ⟨⟨fun p hp => ?_, fun p h4 h5 => ?_, fun i hi => ?_⟩, ?_, ?_, ?_, ?_⟩
  · rw [xU_o (by omega), xW_o (by omega), xW_o (by omega)]; exact hf.1 p hp
  · rw [xU_o h4, hC.1 p (by omega) (by omega)]; exact hf.2.1 p h4 h5
  · rw [xU_s (show i ≠ 81 from fun q => hi (by rw [q]; exact g1)), e157]; exact hf.2.2 i hi
  · obtain ⟨⟨a1, a2, a3, a4⟩, ⟨b1, b2, b3, b4⟩, ⟨d1, d2, d3, d4, d5, d6, d7, d8⟩⟩ := hs
    refine ⟨⟨?_, ?_, ?_, ?_⟩, ⟨b1, ?_, b3, b4⟩, ⟨?_, ?_, ?_, ?_, ?_, ?_, ?_, ?_⟩⟩
    · rw [xU_s (by decide)]; exact a1
    · rw [xU_s (by decide)]; exact a2
    · rw [xU_s (by decide), e157]; exact a3
    · rw [xU_s (by decide), e157]; exact a4
    · rw [xU_o (by decide), hC.2.2 Y (by omega)]; exact hX
    · rw [xU_s (by decide)]; exact d1
    · rw [xU_s (by decide), e157]; exact d2
    · rw [xU_s (by decide)]; exact d3
    · rw [xU_s (by decide), e157]; exact d4
    · rw [xU_s (by decide)]; exact d5
    · rw [xU_s (by decide), e157]; exact d6
    · rw [xU_s (by decide)]; exact d7
    · rw [xU_s (by decide), e157]; exact d8
  · have e136 : (xW (xW c 138 f) 139 g) 136 = c 136 := by rw [xW_o (by decide), xW_o (by decide)]
    unfold Go at *
    simp [xU_eq, e136, e157]
    grind
  · exact Gv_of hv (by rw [xU_o (by decide), xW_o (by decide), xW_o (by decide)]) (fun i h4 h5 h6 h7 h8 => by rw [xU_s (by omega), e157])
  · refine ⟨fun y hy => ?_, fun x hx => ?_, fun y x hy hx => ?_, fun y x hy h4 h5 h6 => ?_⟩
    · rw [xU_o (by decide), xW_e, h2 y hy, xU_o (by decide), hC.2.2 y (by omega)]
    · rw [xU_o (by decide), xW_o (by decide), xW_o (by decide), xU_o (by decide), e192]; exact hc.2.1 x hx
    · rw [xU_o (by decide), xW_o (by decide), xW_e, h1 y x hy hx, xU_o (by decide), hC.2.1 y x (by omega) (by omega)]
    · rw [xU_o (by decide), hC.2.1 y x (by omega) (by omega)]
      rw [xU_o (by decide), hC.2.2 y (by omega)] at h4
      exact h3 y x hy h4 h5 h6
/-- rows F .. E roll so many up -/
theorem d_gup {a : xA} (hd : Dim N h b) (hf : Gf c0 r0 c r) (hs : Gs h b Y X Tp Bt c r) (ho : Go c r) (hv : Gv h b c r) (hc : Gc h b c r) (hF : F ≤ E) (hE : E < h) (hneg : s < 0) (hk : k = min s.toInt.natAbs h) (hC : Cs r a (sU b F E k r) (wU F E k r)) (hX : X ≤ LL b (wU F E k r Y)) : ∃ c', f207_slideRows N h b (Int32.ofNat F) (Int32.ofNat E) s c = some c' ∧ Gf c0 r0 c' (xU a 157 81 3) ∧ Gs h b Y X Tp Bt c' (xU a 157 81 3) ∧ Go c' (xU a 157 81 3) ∧ Gv h b c' (xU a 157 81 3) ∧ Gc h b c' (xU a 157 81 3) := by
  refine ⟨_, e_slG hd hs.1.1 hs.1.2.1 hF hE, ?_⟩
  rw [if_neg (Int32.not_le.mpr hneg), if_neg (Int32.not_le.mpr hneg), ← hk]
  have hd' := hd
  obtain ⟨m0, m1, m2, m3, m4, m5⟩ := hd'
  refine RG_sl hd hf hs ho hv hc hC (fun y x hy hx => ?_) (fun y hy => ?_) (fun y x hy h4 h5 h6 => ?_) hX
  · unfold sU
    by_cases z : y ≤ E
    · have q := slL_rows (f := c 138) (F := F) (k := k) (v := 32) (H := E + 1) (B := b) (y := y) (x := x) (by omega) (by omega) hx
      rw [q]
      by_cases z2 : F ≤ y
      · rw [if_pos z2, if_pos (show F ≤ y ∧ y ≤ E ∧ x < b from ⟨z2, z, hx⟩)]
        by_cases z3 : y + k ≤ E
        · rw [if_pos (by omega), if_pos z3]; exact hc.2.2.1 _ x (by omega) hx
        · rw [if_neg (by omega), if_neg z3]
      · rw [if_neg z2, if_neg (show ¬ (F ≤ y ∧ y ≤ E ∧ x < b) from fun q => z2 q.1)]; exact hc.2.2.1 y x hy hx
    · rw [slL_out hx (by omega), if_neg (show ¬ (F ≤ y ∧ y ≤ E ∧ x < b) from fun q => z q.2.1)]; exact hc.2.2.1 y x hy hx
  · unfold slL wU
    have q1 := hc.1 y hy
    by_cases z : F ≤ y ∧ y ≤ E
    · rw [if_pos (show F ≤ y ∧ y < F + (E + 1 - F) by omega), if_pos z]
      by_cases z3 : y + k ≤ E
      · rw [if_pos (by omega), if_pos z3]; exact hc.1 _ (by omega)
      · rw [if_neg (by omega), if_neg z3]
    · rw [if_neg (show ¬ (F ≤ y ∧ y < F + (E + 1 - F)) by omega), if_neg z]; exact q1
  · unfold sU
    unfold wU at h4
    by_cases z : F ≤ y ∧ y ≤ E
    · rw [if_pos ⟨z.1, z.2, h6⟩]
      rw [if_pos z] at h4
      by_cases z3 : y + k ≤ E
      · rw [if_pos z3] at h4 ⊢
        exact hc.2.2.2 _ x (by omega) h4 h5 h6
      · rw [if_neg z3]
    · rw [if_neg (fun q => z ⟨q.1, q.2.1⟩)]
      rw [if_neg z] at h4
      exact hc.2.2.2 y x hy h4 h5 h6
theorem d_gdn {a : xA} (hd : Dim N h b) (hf : Gf c0 r0 c r) (hs : Gs h b Y X Tp Bt c r) (ho : Go c r) (hv : Gv h b c r) (hc : Gc h b c r) (hF : F ≤ E) (hE : E < h) (hpos : 0 ≤ s) (hk : k = min s.toInt.natAbs h) (hC : Cs r a (sD b F E k r) (wD F E k r)) (hX : X ≤ LL b (wD F E k r Y)) : ∃ c', f207_slideRows N h b (Int32.ofNat F) (Int32.ofNat E) s c = some c' ∧ Gf c0 r0 c' (xU a 157 81 3) ∧ Gs h b Y X Tp Bt c' (xU a 157 81 3) ∧ Go c' (xU a 157 81 3) ∧ Gv h b c' (xU a 157 81 3) ∧ Gc h b c' (xU a 157 81 3) := by
  refine ⟨_, e_slG hd hs.1.1 hs.1.2.1 hF hE, ?_⟩
  rw [if_pos hpos, if_pos hpos, ← hk]
  have hd' := hd
  obtain ⟨m0, m1, m2, m3, m4, m5⟩ := hd'
  refine RG_sl hd hf hs ho hv hc hC (fun y x hy hx => ?_) (fun y hy => ?_) (fun y x hy h4 h5 h6 => ?_) hX
  · unfold sD
    by_cases z : y ≤ E
    · have q := slR_rows (f := c 138) (F := F) (k := k) (v := 32) (H := E + 1) (B := b) (y := y) (x := x) (by omega) (by omega) hx
      rw [q]
      by_cases z2 : F ≤ y
      · rw [if_pos z2, if_pos (show F ≤ y ∧ y ≤ E ∧ x < b from ⟨z2, z, hx⟩)]
        by_cases z3 : F + k ≤ y
        · rw [if_pos z3, if_pos z3]; exact hc.2.2.1 _ x (by omega) hx
        · rw [if_neg z3, if_neg z3]
      · rw [if_neg z2, if_neg (show ¬ (F ≤ y ∧ y ≤ E ∧ x < b) from fun q => z2 q.1)]; exact hc.2.2.1 y x hy hx
    · rw [slR_out hx (by omega), if_neg (show ¬ (F ≤ y ∧ y ≤ E ∧ x < b) from fun q => z q.2.1)]; exact hc.2.2.1 y x hy hx
  · unfold slR wD
    have q1 := hc.1 y hy
    by_cases z : F ≤ y ∧ y ≤ E
    · rw [if_pos (show F ≤ y ∧ y < F + (E + 1 - F) by omega), if_pos z]
      by_cases z3 : F + k ≤ y
      · rw [if_neg (by omega), if_pos z3]; exact hc.1 _ (by omega)
      · rw [if_pos (by omega), if_neg z3]
    · rw [if_neg (show ¬ (F ≤ y ∧ y < F + (E + 1 - F)) by omega), if_neg z]; exact q1
  · unfold sD
    unfold wD at h4
    by_cases z : F ≤ y ∧ y ≤ E
    · rw [if_pos ⟨z.1, z.2, h6⟩]
      rw [if_pos z] at h4
      by_cases z3 : F + k ≤ y
      · rw [if_pos z3] at h4 ⊢
        exact hc.2.2.2 _ x (by omega) h4 h5 h6
      · rw [if_neg z3]
    · rw [if_neg (fun q => z ⟨q.1, q.2.1⟩)]
      rw [if_neg z] at h4
      exact hc.2.2.2 y x hy h4 h5 h6
/-- pending goes, the cursor stays -/
theorem d_stay (hd : Dim N h b) (hf : Gf c0 r0 c r) (hs : Gs h b Y X Tp Bt c r) (ho : Go c r) (hv : Gv h b c r) (hc : Gc h b c r) : ∃ r', f384_goes N h b (r 157 93) (r 157 94) r = some r' ∧ RG h b c0 r0 (xU c 136 7 0) r' := by
  have hR : RG h b c0 r0 c r := ⟨hf, ⟨Y, X, Tp, Bt, hs⟩, ho, hv, hc⟩
  have hs' := hs
  obtain ⟨⟨a1, a2, a3, a4⟩, ⟨b1, b2, b3, b4⟩, ⟨d1, d2, d3, d4, d5, d6, d7, d8⟩⟩ := hs'
  have hd' := hd
  obtain ⟨m0, m1, m2, m3, m4, m5⟩ := hd'
  have lb := LL_b hd (r 191 Y)
  obtain ⟨Y', l1, e1, e2, f2⟩ := e_clamp (N := N) (h := h) (b := b) (k := h - 1) (a := c) (by omega) (Int32.ofNat Y)
  obtain ⟨X', l3, e3, e4, f4⟩ := e_clamp (N := N) (h := h) (b := b) (k := LL b (r 191 Y)) (a := c) (by omega) (Int32.ofNat X)
  have hz : ∀ j : Nat, j < 2 ^ 31 → (0 : Int32) ≤ Int32.ofNat j := fun j hj => by rw [show (0 : Int32) = Int32.ofNat 0 from rfl, i_le (by decide) hj]; omega
  have gY := f2 (hz _ (by omega)) (by rw [i_le (by omega) (by omega)]; omega)
  have gX := f4 (hz _ (by omega)) (by rw [i_le (by omega) (by omega)]; omega)
  have q2 := e_last' (N := N) (h := h) (b := b) (r := xU r 157 93 (Int32.ofNat Y)) (yy := Y) hd (by rw [xU_s (by decide)]; exact a4) b1
  refine ⟨xU (xU (xU r 157 93 (Int32.ofNat Y)) 157 94 (Int32.ofNat X)) 157 108 0, ?_, ?_⟩
  · unfold f384_goes
    rw [d2, d4, a3, on_p (by omega), e2, gY]
    unfold xw
    dsimp only
    rw [xU_e, q2, b2_some]
    have e5 : xmax 0 (xmin (Int32.ofNat (LL b (xU r 157 93 (Int32.ofNat Y) 191 Y))) (Int32.ofNat X)) = Int32.ofNat X := e4.trans gX
    rw [e5]
  · have q := RG_p (Y' := Y) (X' := X) hf hs ho hv hc b1 b2
    have e6 : xU (xU (xU c 136 5 (Int32.ofNat Y)) 136 6 (Int32.ofNat X)) 136 7 0 = xU c 136 7 0 := by
      apply xA_ext
      intro p i
      simp only [xU_eq]
      grind
    rw [e6] at q
    exact q
theorem d_index (hd : Dim N h b) (hR : RG h b c0 r0 c r) : Q2 (f206_index N h b c) (f386_index N h b r) (fun p q => RG h b c0 r0 p q) := by
  have hR' := hR
  obtain ⟨hf, ⟨Y, X, Tp, Bt, hs⟩, ho, hv, hc⟩ := hR'
  have hs' := hs
  obtain ⟨⟨a1, a2, a3, a4⟩, ⟨b1, b2, b3, b4⟩, ⟨d1, d2, d3, d4, d5, d6, d7, d8⟩⟩ := hs'
  have hd' := hd
  obtain ⟨m0, m1, m2, m3, m4, m5⟩ := hd'
  unfold f206_index f386_index
  rw [d1, d2, d3, d4, d5, d6, d7, d8]
  by_cases z : Y = Bt
  · subst z
    refine q_pl rfl (q_pr rfl ?_)
    obtain ⟨a, t1, t2⟩ := e_rup (N := N) (h := h) (b := b) (F := Tp) (E := Y) (a := r) m0 m4 a4 b3 (by omega)
    have hw : wU Tp Y 1 r Y = 0 := by unfold wU; rw [if_pos ⟨b3, Nat.le_refl _⟩, if_neg (by omega)]
    obtain ⟨c', u1, u2, u3, u4, u5, u6⟩ := d_gup (N := N) (s := -1) (k := 1) (F := Tp) (E := Y) hd hf hs ho hv hc b3 b4 (by decide) (by have : (-1 : Int32).toInt = -1 := rfl; rw [this]; omega) t2 (by rw [hw]; unfold LL at *; rw [if_pos rfl]; split at b2 <;> omega)
    obtain ⟨r', w1, w2⟩ := d_stay (N := N) hd u2 u3 u4 u5 u6
    refine q_l1 u1 (q_wl.mpr (q_r1 t1 (q_wr.mpr ?_)))
    exact q_r1 w1 (q_ok1 w2)
  · refine q_nl (by rw [i_eq (by omega) (by omega)]; exact z) (q_nr (by rw [i_eq (by omega) (by omega)]; exact z) ?_)
    have e1 : xmin (Int32.ofNat Y + 1) (r 157 68 - 1) = Int32.ofNat (min (Y + 1) (h - 1)) := by
      rw [a3, on_s, on_p (by omega)]
      unfold xmin
      by_cases q : h - 1 < Y + 1
      · rw [if_pos (by rw [i_lt (by omega) (by omega)]; exact q), Nat.min_eq_right (by omega)]
      · rw [if_neg (by rw [i_lt (by omega) (by omega)]; exact q), Nat.min_eq_left (by omega)]
    rw [e1, on_s]
    by_cases q : Y + 1 ≤ h - 1
    · rw [Nat.min_eq_left q]
      exact q_b11 (d_place hd hR) (fun _ _ h1 => q_ok1 h1)
    · rw [Nat.min_eq_right (by omega)]
      have e2 : f16_place N h b (Int32.ofNat (Y + 1)) (Int32.ofNat X) c = f16_place N h b (Int32.ofNat (h - 1)) (Int32.ofNat X) c := by
        unfold f16_place
        rw [a1, on_p (by omega)]
        have : ∀ j : Nat, h - 1 ≤ j → j < 2 ^ 31 → f10_nearest N h b (Int32.ofNat j) 0 (Int32.ofNat (h - 1)) c = some (Int32.ofNat (h - 1), c) := by
          intro j hj hj2
          unfold f10_nearest
          rw [if_pos (by rw [show (0 : Int32) = Int32.ofNat 0 from rfl, i_le (by decide) hj2]; omega)]
          by_cases q : j ≤ h - 1
          · rw [if_pos (by rw [i_le hj2 (by omega)]; exact q), show j = h - 1 by omega]
          · rw [if_neg (by rw [i_le hj2 (by omega)]; exact q)]
        rw [this (Y + 1) (by omega) (by omega), this (h - 1) (by omega) (by omega)]
      rw [e2]
      exact q_b11 (d_place hd hR) (fun _ _ h1 => q_ok1 h1)
theorem d_bindex (hd : Dim N h b) (hR : RG h b c0 r0 c r) : Q2 (f217_backIndex N h b c) (f396_backIndex N h b r) (fun p q => RG h b c0 r0 p q) := by
  have hR' := hR
  obtain ⟨hf, ⟨Y, X, Tp, Bt, hs⟩, ho, hv, hc⟩ := hR'
  have hs' := hs
  obtain ⟨⟨a1, a2, a3, a4⟩, ⟨b1, b2, b3, b4⟩, ⟨d1, d2, d3, d4, d5, d6, d7, d8⟩⟩ := hs'
  have hd' := hd
  obtain ⟨m0, m1, m2, m3, m4, m5⟩ := hd'
  unfold f217_backIndex f396_backIndex
  rw [d1, d2, d3, d4, d5, d6, d7, d8]
  by_cases z : Y = Tp
  · subst z
    refine q_pl rfl (q_pr rfl ?_)
    obtain ⟨a, t1, t2⟩ := e_rdn (N := N) (h := h) (b := b) (F := Y) (E := Bt) (a := r) m0 m4 a4 b3 (by omega)
    have hw : wD Y Bt 1 r Y = 0 := by unfold wD; rw [if_pos ⟨Nat.le_refl _, b3⟩, if_neg (by omega)]
    obtain ⟨c', u1, u2, u3, u4, u5, u6⟩ := d_gdn (N := N) (s := 1) (k := 1) (F := Y) (E := Bt) hd hf hs ho hv hc b3 b4 (by decide) (by have : (1 : Int32).toInt = 1 := rfl; rw [this]; omega) t2 (by rw [hw]; unfold LL at *; rw [if_pos rfl]; split at b2 <;> omega)
    obtain ⟨r', w1, w2⟩ := d_stay (N := N) hd u2 u3 u4 u5 u6
    refine q_l1 u1 (q_wl.mpr (q_r1 t1 (q_wr.mpr ?_)))
    exact q_r1 w1 (q_ok1 w2)
  · refine q_nl (by rw [i_eq (by omega) (by omega)]; exact z) (q_nr (by rw [i_eq (by omega) (by omega)]; exact z) ?_)
    by_cases q : Y = 0
    · subst q
      have e1 : xmax (Int32.ofNat 0 - 1) 0 = 0 := rfl
      rw [e1]
      have e2 : f16_place N h b (Int32.ofNat 0 - 1) (Int32.ofNat X) c = f16_place N h b 0 (Int32.ofNat X) c := by
        unfold f16_place
        have : f10_nearest N h b (Int32.ofNat 0 - 1) 0 (c 136 0 - 1) c = f10_nearest N h b 0 0 (c 136 0 - 1) c := by
          unfold f10_nearest
          rw [if_neg (by decide), if_pos (by decide), if_pos (by rw [a1, on_p (by omega), show (0 : Int32) = Int32.ofNat 0 from rfl, i_le (by decide) (by omega)]; omega)]
        rw [this]
      rw [e2]
      exact q_b11 (d_place hd hR) (fun _ _ h1 => q_ok1 h1)
    · have e1 : xmax (Int32.ofNat Y - 1) 0 = Int32.ofNat Y - 1 := by
        rw [on_p (by omega)]
        unfold xmax
        rw [if_neg (by rw [show (0 : Int32) = Int32.ofNat 0 from rfl, i_lt (by omega) (by decide)]; omega)]
      rw [e1]
      exact q_b11 (d_place hd hR) (fun _ _ h1 => q_ok1 h1)
end G
