/-! Rows and cells of the screen, on. -/
section G
variable {N h b : Nat} {c0 r0 c r c' r' : xA} {x y s v : Int32} {Y X Tp Bt F E k : Nat}
def Gt (h b Y X Tp Bt : Nat) (c r : xA) : Prop := (c 136 0 = Int32.ofNat h ∧ c 136 1 = Int32.ofNat b ∧ r 157 68 = Int32.ofNat h ∧ r 157 69 = Int32.ofNat b) ∧ (Y < h ∧ Tp ≤ Bt ∧ Bt < h) ∧ (c 136 5 = Int32.ofNat Y ∧ r 157 93 = Int32.ofNat Y ∧ c 136 6 = Int32.ofNat X ∧ r 157 94 = Int32.ofNat X ∧ c 136 8 = Int32.ofNat Tp ∧ r 157 95 = Int32.ofNat Tp ∧ c 136 9 = Int32.ofNat Bt ∧ r 157 96 = Int32.ofNat Bt)
theorem Gs_t (hs : Gs h b Y X Tp Bt c r) : Gt h b Y X Tp Bt c r := ⟨hs.1, ⟨hs.2.1.1, hs.2.1.2.2.1, hs.2.1.2.2.2⟩, hs.2.2⟩
theorem Gt_s (hs : Gt h b Y X Tp Bt c r) (hX : X ≤ LL b (r 191 Y)) : Gs h b Y X Tp Bt c r := ⟨hs.1, ⟨hs.2.1.1, hX, hs.2.1.2.1, hs.2.1.2.2⟩, hs.2.2⟩
theorem RG_p2 {Y' X' : Nat} (hf : Gf c0 r0 c r) (hs : Gt h b Y X Tp Bt c r) (ho : Go c r) (hv : Gv h b c r) (hc : Gc h b c r) (hY : Y' < h) (hX : X' ≤ LL b (r 191 Y')) : RG h b c0 r0 (xU (xU (xU c 136 5 (Int32.ofNat Y')) 136 6 (Int32.ofNat X')) 136 7 0) (xU (xU (xU r 157 93 (Int32.ofNat Y')) 157 94 (Int32.ofNat X')) 157 108 0) := by
  have g1 : gI 93 := by unfold gI; omega
  have g2 : gI 94 := by unfold gI; omega
  have g3 : gI 108 := by unfold gI; omega
  refine ⟨Gf_u (Gf_u (Gf_u hf (by decide) (Or.inr ⟨rfl, g1⟩)) (by decide) (Or.inr ⟨rfl, g2⟩)) (by decide) (Or.inr ⟨rfl, g3⟩), ⟨Y', X', Tp, Bt, ?_⟩, ?_, Gv_of hv rfl (fun i h1 h2 h3 h4 h5 => by rw [xU_s h3, xU_s (by omega), xU_s (by omega)]), Gc_of hc rfl rfl rfl rfl rfl rfl⟩
  · obtain ⟨⟨a1, a2, a3, a4⟩, ⟨b1, b3, b4⟩, ⟨d1, d2, d3, d4, d5, d6, d7, d8⟩⟩ := hs
    refine ⟨⟨?_, ?_, ?_, ?_⟩, ⟨hY, ?_, b3, b4⟩, ⟨?_, ?_, ?_, ?_, ?_, ?_, ?_, ?_⟩⟩
    all_goals simp [xU_eq] <;> assumption
  · unfold Go at *
    simp [xU_eq]
    grind
/-- new cells and widths -/
theorem RG_wd {a : xA} {f g : Nat → Int32} {G : Nat → Nat → Int32} {V : Nat → Int32} (hd : Dim N h b) (hf : Gf c0 r0 c r) (hs : Gt h b Y X Tp Bt c r) (ho : Go c r) (hv : Gv h b c r) (hc : Gc h b c r) (hC : Cs r a G V) (h1 : ∀ y x, y < h → x < b → f (y * b + x) = G y x) (h2 : ∀ y, y < h → g y = V y) (h3 : ∀ y x, y < h → ¬ V y = 0 → b / 2 ≤ x → x < b → G y x = 32) :
    Gf c0 r0 (xW (xW c 138 f) 139 g) a ∧ Gt h b Y X Tp Bt (xW (xW c 138 f) 139 g) a ∧ Go (xW (xW c 138 f) 139 g) a ∧ Gv h b (xW (xW c 138 f) 139 g) a ∧ Gc h b (xW (xW c 138 f) 139 g) a := by
  obtain ⟨m0, m1, m2, m3, m4, m5⟩ := hd
  have e157 : a 157 = r 157 := hC.1 157 (by decide) (by decide)
  have e192 : a 192 = r 192 := hC.1 192 (by decide) (by decide)
  have e136 : (xW (xW c 138 f) 139 g) 136 = c 136 := by rw [xW_o (by decide), xW_o (by decide)]
  refine ⟨⟨fun p hp => ?_, fun p h4 h5 => ?_, fun i hi => ?_⟩, ?_, Go_of ho e136 (fun i _ => by rw [e157]), Gv_of hv (by rw [xW_o (by decide), xW_o (by decide)]) (fun i _ _ _ _ _ => by rw [e157]), ?_⟩
  · rw [xW_o (by omega), xW_o (by omega)]; exact hf.1 p hp
  · rw [hC.1 p (by omega) (by omega)]; exact hf.2.1 p h4 h5
  · rw [e157]; exact hf.2.2 i hi
  · unfold Gt at *
    rw [e136, e157]
    exact hs
  · refine ⟨fun y hy => ?_, fun x hx => ?_, fun y x hy hx => ?_, fun y x hy h4 h5 h6 => ?_⟩
    · rw [xW_e, h2 y hy, hC.2.2 y (by omega)]
    · rw [xW_o (by decide), xW_o (by decide), e192]; exact hc.2.1 x hx
    · rw [xW_o (by decide), xW_e, h1 y x hy hx, hC.2.1 y x (by omega) (by omega)]
    · rw [hC.2.1 y x (by omega) (by omega)]
      rw [hC.2.2 y (by omega)] at h4
      exact h3 y x hy h4 h5 h6
theorem zf {j : Nat} (hj : j < 2 ^ 31) : (0 : Int32) ≤ Int32.ofNat j := by rw [show (0 : Int32) = Int32.ofNat 0 from rfl, i_le (by decide) hj]; omega
theorem clN_in {j : Nat} (hj : j ≤ k) (hk : k < 2 ^ 31) : clN k (Int32.ofNat j) = j := by unfold clN; rw [if_pos (zf (by omega)), i_cl (by omega), Nat.min_eq_left hj]
theorem clN_out {j : Nat} (hj : k ≤ j) (hk : j < 2 ^ 31) : clN k (Int32.ofNat j) = k := by unfold clN; rw [if_pos (zf (by omega)), i_cl (by omega), Nat.min_eq_right hj]
theorem clN_0 : clN k 0 = 0 := by unfold clN; rw [if_pos (by decide)]; exact Nat.zero_min _
/-- goes, said plainly -/
theorem e_go {a : xA} (hd : Dim N h b) (h0 : a 157 68 = Int32.ofNat h) (h1 : a 157 69 = Int32.ofNat b) : f384_goes N h b x y a = some (xU (xU (xU a 157 93 (Int32.ofNat (clN (h - 1) x))) 157 94 (Int32.ofNat (clN (LL b (a 191 (clN (h - 1) x))) y))) 157 108 0) := by
  have hd' := hd
  obtain ⟨m0, m1, m2, m3, m4, m5⟩ := hd'
  have l1 := clN_le (k := h - 1) (x := x)
  unfold f384_goes
  obtain ⟨j1, _, q1, q2, _⟩ := e_clamp (N := N) (h := h) (b := b) (k := h - 1) (a := a) (by omega) x
  rw [e_nearN (by omega)] at q1
  have q3 : Int32.ofNat j1 = Int32.ofNat (clN (h - 1) x) := by have := congrArg Prod.fst (Option.some.inj q1); exact this.symm
  rw [h0, on_p (by omega), q2, q3]
  unfold xw
  dsimp only
  rw [xU_e, e_last' hd (by rw [xU_s (by decide)]; exact h1) (by omega), b2_some]
  have e191 : xU a 157 93 (Int32.ofNat (clN (h - 1) x)) 191 = a 191 := xU_o (by decide)
  rw [e191]
  have lb := LL_b hd (a 191 (clN (h - 1) x))
  obtain ⟨j2, _, q4, q5, _⟩ := e_clamp (N := N) (h := h) (b := b) (k := LL b (a 191 (clN (h - 1) x))) (a := a) (by omega) y
  rw [e_nearN (by omega)] at q4
  have q6 : Int32.ofNat j2 = Int32.ofNat (clN (LL b (a 191 (clN (h - 1) x))) y) := by have := congrArg Prod.fst (Option.some.inj q4); exact this.symm
  rw [q5, q6]
/-- rows go in or out at the cursor -/
theorem d_rin {n : Nat} (hd : Dim N h b) (hR : RG h b c0 r0 c r) (hn : 1 ≤ n) (hn2 : n ≤ 9999) {q : Int32} (hq : q = 1 ∧ s = Int32.ofNat n ∨ q = 0 ∧ s = -Int32.ofNat n) : Q2 (f232_slideRowsHere N h b s c) (f404_rowsIn N h b q (Int32.ofNat n) r) (fun p q => RG h b c0 r0 p q) := by
  have hR' := hR
  obtain ⟨hf, ⟨Y, X, Tp, Bt, hs⟩, ho, hv, hc⟩ := hR'
  have hs' := hs
  obtain ⟨⟨a1, a2, a3, a4⟩, ⟨b1, b2, b3, b4⟩, ⟨d1, d2, d3, d4, d5, d6, d7, d8⟩⟩ := hs'
  have hd' := hd
  obtain ⟨m0, m1, m2, m3, m4, m5⟩ := hd'
  unfold f232_slideRowsHere f404_rowsIn
  rw [d1, d2, d5, d6, d7, d8]
  refine q_il.mpr ⟨fun z => q_pr z (q_ok1 hR), fun z1 => q_nr z1 ?_⟩
  rw [i_lt (by omega) (by omega)] at z1
  by_cases z2 : Bt < Y
  · exact q_pl (by rw [i_lt (by omega) (by omega)]; exact z2) (q_nr (by rw [i_le (by omega) (by omega)]; omega) (q_ok1 hR))
  refine q_nl (by rw [i_lt (by omega) (by omega)]; exact z2) (q_pr (by rw [i_le (by omega) (by omega)]; omega) ?_)
  have tn : (Int32.ofNat n).toInt = n := Int32.toInt_ofNat_of_lt (by omega)
  have tm : (-Int32.ofNat n).toInt = -(n : Int) := by rw [Int32.toInt_neg, tn, Int.bmod_eq_of_le (by omega) (by omega)]
  have hk : min s.toInt.natAbs h = min n h := by
    rcases hq with ⟨_, q⟩ | ⟨_, q⟩
    · rw [q, tn]; omega
    · rw [q, tm]; omega
  have ex : ∀ a : xA, a 157 68 = Int32.ofNat h → xmin (Int32.ofNat n) (a 157 68) = Int32.ofNat (min n h) := by
    intro a ha
    rw [ha]
    unfold xmin
    by_cases q : h < n
    · rw [if_pos (by rw [i_lt (by omega) (by omega)]; exact q), Nat.min_eq_right (by omega)]
    · rw [if_neg (by rw [i_lt (by omega) (by omega)]; exact q), Nat.min_eq_left (by omega)]
  have fin : ∀ (a : xA) (G : Nat → Nat → Int32) (V : Nat → Int32) (f g : Nat → Int32), Cs r a G V → (∀ y x, y < h → x < b → f (y * b + x) = G y x) → (∀ y, y < h → g y = V y) → (∀ y x, y < h → ¬ V y = 0 → b / 2 ≤ x → x < b → G y x = 32) → Q2 (xb1 (f16_place N h b ((xU (xW (xW c 138 f) 139 g) 136 16 3) 136 5) 0 (xU (xW (xW c 138 f) 139 g) 136 16 3)) (fun a13 => some a13)) (xb1 (f384_goes N h b (a 157 93) 0 a) (fun a21 => xw (xU a21 157 81 3) (fun a22 => some a22))) (fun p q => RG h b c0 r0 p q) := by
    intro a G V f g hC h1 h2 h3
    obtain ⟨w1, w2, w3, w4, w5⟩ := RG_wd (f := f) (g := g) hd hf (Gs_t hs) ho hv hc hC h1 h2 h3
    have e157 : a 157 = r 157 := hC.1 157 (by decide) (by decide)
    have e136 : (xW (xW c 138 f) 139 g) 136 = c 136 := by rw [xW_o (by decide), xW_o (by decide)]
    have p1 := e_pl (N := N) (h := h) (b := b) (a := xU (xW (xW c 138 f) 139 g) 136 16 3) (x := Int32.ofNat Y) (y := 0) hd (by rw [xU_s (by decide), e136]; exact a1) (by rw [xU_s (by decide), e136]; exact a2)
    have p2 := e_go (N := N) (h := h) (b := b) (a := a) (x := Int32.ofNat Y) (y := 0) hd (by rw [e157]; exact a3) (by rw [e157]; exact a4)
    rw [clN_in (show Y ≤ h - 1 by omega) (by omega), clN_0] at p1 p2
    have e5 : xU (xW (xW c 138 f) 139 g) 136 16 3 136 5 = Int32.ofNat Y := by rw [xU_s (by decide), e136]; exact d1
    rw [e5, e157, d2]
    refine q_l1 p1 (q_r1 p2 (q_wr.mpr (q_ok1 ?_)))
    have k := RG_16 (v := 3) (RG_p2 (Y' := Y) (X' := 0) w1 w2 w3 w4 w5 b1 (by omega))
    have e6 : xU (xU (xU (xU (xW (xW c 138 f) 139 g) 136 16 3) 136 5 (Int32.ofNat Y)) 136 6 (Int32.ofNat 0)) 136 7 0 = xU (xU (xU (xU (xW (xW c 138 f) 139 g) 136 5 (Int32.ofNat Y)) 136 6 (Int32.ofNat 0)) 136 7 0) 136 16 3 := by
      apply xA_ext
      intro p i
      simp only [xU_eq]
      grind
    rw [e6]
    exact k
  rcases hq with ⟨q1, q2⟩ | ⟨q1, q2⟩
  · subst q1
    obtain ⟨a, t1, t2⟩ := lp_up (L := l404_25 N h b 1 (Int32.ofNat n)) (hi := min n h) (out := fun a => (0, a)) (P := fun j a' => Cs r a' (sD b Y Bt j r) (wD Y Bt j r))
      (fun m j a2 h1 h2 => by
        have e157 : a2 157 = r 157 := h1.1 157 (by decide) (by decide)
        obtain ⟨a3', u1, u2⟩ := e_rdn (N := N) (h := h) (b := b) (F := Y) (E := Bt) (a := a2) m0 m4 (by rw [e157]; exact a4) (by omega) (by omega)
        rw [l404_25, ex a2 (by rw [e157]; exact a3), if_neg (by rw [i_le (by omega) (by omega)]; omega), if_neg (by decide), e157, d2, d8, u1, b1_some]
        unfold j404_68
        rw [on_s]
        exact ⟨a3', rfl, sD_s (by omega) m4 h1 u2⟩)
      (fun m a2 h1 => by
        have e157 : a2 157 = r 157 := h1.1 157 (by decide) (by decide)
        rw [l404_25, ex a2 (by rw [e157]; exact a3), if_pos (Int32.le_refl _)])
      (min n h) 0 N r (by omega) (by omega) (Cs_eq Cs_rfl (fun y x _ _ => by unfold sD; grind) (fun y _ => by unfold wD; grind))
    have e0 : f207_slideRows N h b (Int32.ofNat Y) (Int32.ofNat Bt) s c = _ := e_slG hd a1 a2 (by omega) b4
    rw [hk, if_pos (by rw [q2]; exact zf (by omega)), if_pos (by rw [q2]; exact zf (by omega))] at e0
    refine q_l1 e0 (q_rb t1 (fin a _ _ _ _ t2 (fun y x hy hx => ?_) (fun y hy => ?_) (fun y x hy h4 h5 h6 => ?_)))
    · unfold sD
      by_cases z : y ≤ Bt
      · have q := slR_rows (f := c 138) (F := Y) (k := min n h) (v := 32) (H := Bt + 1) (B := b) (y := y) (x := x) (by omega) (by omega) hx
        rw [q]
        by_cases z2 : Y ≤ y
        · rw [if_pos z2, if_pos (show Y ≤ y ∧ y ≤ Bt ∧ x < b from ⟨z2, z, hx⟩)]
          by_cases z3 : Y + min n h ≤ y
          · rw [if_pos z3, if_pos z3]; exact hc.2.2.1 _ x (by omega) hx
          · rw [if_neg z3, if_neg z3]
        · rw [if_neg z2, if_neg (show ¬ (Y ≤ y ∧ y ≤ Bt ∧ x < b) from fun q => z2 q.1)]; exact hc.2.2.1 y x hy hx
      · rw [slR_out hx (by omega), if_neg (show ¬ (Y ≤ y ∧ y ≤ Bt ∧ x < b) from fun q => z q.2.1)]; exact hc.2.2.1 y x hy hx
    · unfold slR wD
      have q1 := hc.1 y hy
      by_cases z : Y ≤ y ∧ y ≤ Bt
      · rw [if_pos (show Y ≤ y ∧ y < Y + (Bt + 1 - Y) by omega), if_pos z]
        by_cases z3 : Y + min n h ≤ y
        · rw [if_neg (by omega), if_pos z3]; exact hc.1 _ (by omega)
        · rw [if_pos (by omega), if_neg z3]
      · rw [if_neg (show ¬ (Y ≤ y ∧ y < Y + (Bt + 1 - Y)) by omega), if_neg z]; exact q1
    · unfold sD
      unfold wD at h4
      by_cases z : Y ≤ y ∧ y ≤ Bt
      · rw [if_pos ⟨z.1, z.2, h6⟩]
        rw [if_pos z] at h4
        by_cases z3 : Y + min n h ≤ y
        · rw [if_pos z3] at h4 ⊢
          exact hc.2.2.2 _ x (by omega) h4 h5 h6
        · rw [if_neg z3]
      · rw [if_neg (fun q => z ⟨q.1, q.2.1⟩)]
        rw [if_neg z] at h4
        exact hc.2.2.2 y x hy h4 h5 h6
  · subst q1
    have hneg : s < 0 := by rw [q2, Int32.lt_iff_toInt_lt, tm]; have : (0 : Int32).toInt = 0 := rfl; omega
    obtain ⟨a, t1, t2⟩ := lp_up (L := l404_25 N h b 0 (Int32.ofNat n)) (hi := min n h) (out := fun a => (0, a)) (P := fun j a' => Cs r a' (sU b Y Bt j r) (wU Y Bt j r))
      (fun m j a2 h1 h2 => by
        have e157 : a2 157 = r 157 := h1.1 157 (by decide) (by decide)
        obtain ⟨a3', u1, u2⟩ := e_rup (N := N) (h := h) (b := b) (F := Y) (E := Bt) (a := a2) m0 m4 (by rw [e157]; exact a4) (by omega) (by omega)
        rw [l404_25, ex a2 (by rw [e157]; exact a3), if_neg (by rw [i_le (by omega) (by omega)]; omega), if_pos rfl, e157, d2, d8, u1, b1_some]
        unfold j404_68
        rw [on_s]
        exact ⟨a3', rfl, sU_s (by omega) m4 h1 u2⟩)
      (fun m a2 h1 => by
        have e157 : a2 157 = r 157 := h1.1 157 (by decide) (by decide)
        rw [l404_25, ex a2 (by rw [e157]; exact a3), if_pos (Int32.le_refl _)])
      (min n h) 0 N r (by omega) (by omega) (Cs_eq Cs_rfl (fun y x _ _ => by unfold sU; grind) (fun y _ => by unfold wU; grind))
    have e0 : f207_slideRows N h b (Int32.ofNat Y) (Int32.ofNat Bt) s c = _ := e_slG hd a1 a2 (by omega) b4
    rw [hk, if_neg (Int32.not_le.mpr hneg), if_neg (Int32.not_le.mpr hneg)] at e0
    refine q_l1 e0 (q_rb t1 (fin a _ _ _ _ t2 (fun y x hy hx => ?_) (fun y hy => ?_) (fun y x hy h4 h5 h6 => ?_)))
    · unfold sU
      by_cases z : y ≤ Bt
      · have q := slL_rows (f := c 138) (F := Y) (k := min n h) (v := 32) (H := Bt + 1) (B := b) (y := y) (x := x) (by omega) (by omega) hx
        rw [q]
        by_cases z2 : Y ≤ y
        · rw [if_pos z2, if_pos (show Y ≤ y ∧ y ≤ Bt ∧ x < b from ⟨z2, z, hx⟩)]
          by_cases z3 : y + min n h ≤ Bt
          · rw [if_pos (by omega), if_pos z3]; exact hc.2.2.1 _ x (by omega) hx
          · rw [if_neg (by omega), if_neg z3]
        · rw [if_neg z2, if_neg (show ¬ (Y ≤ y ∧ y ≤ Bt ∧ x < b) from fun q => z2 q.1)]; exact hc.2.2.1 y x hy hx
      · rw [slL_out hx (by omega), if_neg (show ¬ (Y ≤ y ∧ y ≤ Bt ∧ x < b) from fun q => z q.2.1)]; exact hc.2.2.1 y x hy hx
    · unfold slL wU
      have q1 := hc.1 y hy
      by_cases z : Y ≤ y ∧ y ≤ Bt
      · rw [if_pos (show Y ≤ y ∧ y < Y + (Bt + 1 - Y) by omega), if_pos z]
        by_cases z3 : y + min n h ≤ Bt
        · rw [if_pos (by omega), if_pos z3]; exact hc.1 _ (by omega)
        · rw [if_neg (by omega), if_neg z3]
      · rw [if_neg (show ¬ (Y ≤ y ∧ y < Y + (Bt + 1 - Y)) by omega), if_neg z]; exact q1
    · unfold sU
      unfold wU at h4
      by_cases z : Y ≤ y ∧ y ≤ Bt
      · rw [if_pos ⟨z.1, z.2, h6⟩]
        rw [if_pos z] at h4
        by_cases z3 : y + min n h ≤ Bt
        · rw [if_pos z3] at h4 ⊢
          exact hc.2.2.2 _ x (by omega) h4 h5 h6
        · rw [if_neg z3]
      · rw [if_neg (fun q => z ⟨q.1, q.2.1⟩)]
        rw [if_neg z] at h4
        exact hc.2.2.2 y x hy h4 h5 h6
end G
