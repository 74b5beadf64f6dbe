/-! The terminal's screen. -/
def LL (b : Nat) (v : Int32) : Nat := if v = 0 then b - 1 else b / 2 - 1
def Gs (h b Y X Tp Bt : Nat) (c r : xA) : Prop := (c 136 0 = Int32.ofNat h ∧ c 136 1 = Int32.ofNat b ∧ r 157 68 = Int32.ofNat h ∧ r 157 69 = Int32.ofNat b) ∧ (Y < h ∧ X ≤ LL b (r 191 Y) ∧ Tp ≤ Bt ∧ Bt < h) ∧ (c 136 5 = Int32.ofNat Y ∧ r 157 93 = Int32.ofNat Y ∧ c 136 6 = Int32.ofNat X ∧ r 157 94 = Int32.ofNat X ∧ c 136 8 = Int32.ofNat Tp ∧ r 157 95 = Int32.ofNat Tp ∧ c 136 9 = Int32.ofNat Bt ∧ r 157 96 = Int32.ofNat Bt)
def Go (c r : xA) : Prop := c 136 7 = r 157 108 ∧ (c 136 7 = 0 ∨ c 136 7 = 1) ∧ c 136 10 = r 157 98 ∧ c 136 11 = r 157 97 ∧ c 136 12 = r 157 109 + 2 * r 157 110 ∧ (r 157 109 = 0 ∨ r 157 109 = 1) ∧ (r 157 110 = 0 ∨ r 157 110 = 1) ∧ c 136 13 = r 157 103 ∧ (c 136 13 = 0 ∨ c 136 13 = 1) ∧ c 136 14 = r 157 99 ∧ c 136 15 = r 157 100 ∧ c 136 16 = r 157 81
def Gv (h b : Nat) (c r : xA) : Prop := (∃ SY SX, SY < h ∧ SX < b ∧ c 137 0 = Int32.ofNat SY ∧ r 157 104 = Int32.ofNat SY ∧ c 137 1 = Int32.ofNat SX ∧ r 157 105 = Int32.ofNat SX) ∧ c 137 2 = r 157 106 ∧ c 137 3 = r 157 111 + 2 * r 157 112 ∧ (r 157 111 = 0 ∨ r 157 111 = 1) ∧ (r 157 112 = 0 ∨ r 157 112 = 1) ∧ c 137 4 = r 157 107 ∧ (c 137 4 = 0 ∨ c 137 4 = 1) ∧ ((c 137 5 = 0 ∧ r 157 113 = 0) ∨ (¬ c 137 5 = 0 ∧ r 157 113 = 1))
def Gc (h b : Nat) (c r : xA) : Prop := (∀ y, y < h → c 139 y = r 191 y) ∧ (∀ x, x < b → c 140 x = r 192 x) ∧ (∀ y x, y < h → x < b → c 138 (y * b + x) = r 190 (80 * y + x)) ∧ (∀ y x, y < h → ¬ r 191 y = 0 → b / 2 ≤ x → x < b → r 190 (80 * y + x) = 32)
def gI (i : Nat) : Prop := i = 81 ∨ (93 ≤ i ∧ i ≤ 100) ∨ (103 ≤ i ∧ i ≤ 113)
def Gf (c0 r0 c r : xA) : Prop := (∀ p, ¬ (136 ≤ p ∧ p ≤ 140) → c p = c0 p) ∧ (∀ p, p ≠ 157 → ¬ (190 ≤ p ∧ p ≤ 192) → r p = r0 p) ∧ (∀ i, ¬ gI i → r 157 i = r0 157 i)
def RG (h b : Nat) (c0 r0 c r : xA) : Prop := Gf c0 r0 c r ∧ (∃ Y X Tp Bt, Gs h b Y X Tp Bt c r) ∧ Go c r ∧ Gv h b c r ∧ Gc h b c r
/-- the dimensions -/
def Dim (N h b : Nat) : Prop := 100000 ≤ N ∧ 4 ≤ h ∧ h ≤ 24 ∧ 16 ≤ b ∧ b ≤ 80 ∧ b % 2 = 0
section G
variable {N h b : Nat} {c0 r0 c r c' r' : xA} {x y : Int32} {Y X Tp Bt : Nat}
theorem LL_b (hd : Dim N h b) (v : Int32) : LL b v < b ∧ 7 ≤ LL b v := by
  obtain ⟨d0, d1, d2, d3, d4, d5⟩ := hd
  unfold LL
  split <;> omega
theorem Go_of (H : Go c r) (h1 : c' 136 = c 136) (h2 : ∀ i, gI i → r' 157 i = r 157 i) : Go c' r' := by
  unfold Go at *
  rw [h1, h2 108 (by unfold gI; omega), h2 98 (by unfold gI; omega), h2 97 (by unfold gI; omega), h2 109 (by unfold gI; omega), h2 110 (by unfold gI; omega), h2 103 (by unfold gI; omega), h2 99 (by unfold gI; omega), h2 100 (by unfold gI; omega), h2 81 (by unfold gI; omega)]
  exact H
theorem Gv_of (H : Gv h b c r) (h1 : c' 137 = c 137) (h2 : ∀ i, 104 ≤ i → i ≤ 113 → ¬ i = 108 → ¬ i = 109 → ¬ i = 110 → r' 157 i = r 157 i) : Gv h b c' r' := by
  unfold Gv at *
  rw [h1, h2 104 (by decide) (by decide) (by decide) (by decide) (by decide), h2 105 (by decide) (by decide) (by decide) (by decide) (by decide), h2 106 (by decide) (by decide) (by decide) (by decide) (by decide), h2 107 (by decide) (by decide) (by decide) (by decide) (by decide), h2 111 (by decide) (by decide) (by decide) (by decide) (by decide), h2 112 (by decide) (by decide) (by decide) (by decide) (by decide), h2 113 (by decide) (by decide) (by decide) (by decide) (by decide)]
  exact H
theorem Gc_of (H : Gc h b c r) (h1 : c' 138 = c 138) (h2 : c' 139 = c 139) (h3 : c' 140 = c 140) (h4 : r' 190 = r 190) (h5 : r' 191 = r 191) (h6 : r' 192 = r 192) : Gc h b c' r' := by
  unfold Gc at *
  rw [h1, h2, h3, h4, h5, h6]
  exact H
theorem Gf_u {p i q j : Nat} {v w : Int32} (H : Gf c0 r0 c r) (hp : 136 ≤ p ∧ p ≤ 140) (hq : (190 ≤ q ∧ q ≤ 192) ∨ q = 157 ∧ gI j) : Gf c0 r0 (xU c p i v) (xU r q j w) := by
  refine ⟨fun p1 h1 => ?_, fun p1 h1 h2 => ?_, fun i1 h1 => ?_⟩
  · rw [xU_o (by omega)]; exact H.1 p1 h1
  · rw [xU_o (by omega)]; exact H.2.1 p1 h1 h2
  · rw [xU_eq, if_neg (fun z => by rcases hq with q | q; omega; exact h1 (z.2 ▸ q.2))]; exact H.2.2 i1 h1
theorem Gf_l {p i : Nat} {v : Int32} (H : Gf c0 r0 c r) (hp : 136 ≤ p ∧ p ≤ 140) : Gf c0 r0 (xU c p i v) r := ⟨fun p1 h1 => by rw [xU_o (by omega)]; exact H.1 p1 h1, H.2.1, H.2.2⟩
theorem Gf_r {q j : Nat} {w : Int32} (H : Gf c0 r0 c r) (hq : (190 ≤ q ∧ q ≤ 192) ∨ q = 157 ∧ gI j) : Gf c0 r0 c (xU r q j w) := by
  refine ⟨H.1, fun p1 h1 h2 => ?_, fun i1 h1 => ?_⟩
  · rw [xU_o (by omega)]; exact H.2.1 p1 h1 h2
  · rw [xU_eq, if_neg (fun z => by rcases hq with q | q; omega; exact h1 (z.2 ▸ q.2))]; exact H.2.2 i1 h1
/-- both cursors are set, pending is not -/
theorem RG_p {Y' X' : Nat} (hf : Gf c0 r0 c r) (hs : Gs h b Y X Tp Bt c r) (ho : Go c r) (hv : Gv h b c r) (hc : Gc h b c r) (hY : Y' < h) (hX : X' ≤ LL b (r 191 Y')) : RG h b c0 r0 (xU (xU (xU c 136 5 (Int32.ofNat Y')) 136 6 (Int32.ofNat X')) 136 7 0) (xU (xU (xU r 157 93 (Int32.ofNat Y')) 157 94 (Int32.ofNat X')) 157 108 0) := by
  have g1 : gI 93 := by unfold gI; omega
  have g2 : gI 94 := by unfold gI; omega
  have g3 : gI 108 := by unfold gI; omega
  refine ⟨Gf_u (Gf_u (Gf_u hf (by decide) (Or.inr ⟨rfl, g1⟩)) (by decide) (Or.inr ⟨rfl, g2⟩)) (by decide) (Or.inr ⟨rfl, g3⟩), ⟨Y', X', Tp, Bt, ?_⟩, ?_, Gv_of hv rfl (fun i h1 h2 h3 h4 h5 => by rw [xU_s h3, xU_s (by omega), xU_s (by omega)]), Gc_of hc rfl rfl rfl rfl rfl rfl⟩
  · obtain ⟨⟨a1, a2, a3, a4⟩, ⟨b1, b2, b3, b4⟩, ⟨d1, d2, d3, d4, d5, d6, d7, d8⟩⟩ := hs
    refine ⟨⟨?_, ?_, ?_, ?_⟩, ⟨hY, ?_, b3, b4⟩, ⟨?_, ?_, ?_, ?_, ?_, ?_, ?_, ?_⟩⟩
    all_goals simp [xU_eq] <;> assumption
  · unfold Go at *
    simp [xU_eq]
    grind
theorem e_lastG {a : xA} (hd : Dim N h b) (h5 : a 136 5 = Int32.ofNat Y) (h1 : a 136 1 = Int32.ofNat b) (hy : Y < h) : f17_last N h b a = some (Int32.ofNat (LL b (a 139 Y)), a) := by
  obtain ⟨m0, m1, m2, m3, m4, m5⟩ := hd
  unfold f17_last LL
  rw [h5, xg_pos (g_ix hy (by omega)), i_cl (by omega), h1]
  by_cases z : a 139 Y = 0
  · rw [if_pos z, if_pos z, on_p (by omega)]
  · rw [if_neg z, if_neg z, show (2 : Int32) = Int32.ofNat 2 from rfl, ← Int32.ofNat_div (by omega) (by decide), on_p (by omega)]
theorem e_last (hd : Dim N h b) (hs : Gs h b Y X Tp Bt c r) (hc : Gc h b c r) : f17_last N h b c = some (Int32.ofNat (LL b (r 191 Y)), c) := by
  obtain ⟨⟨a1, a2, a3, a4⟩, ⟨b1, b2, b3, b4⟩, ⟨d1, d2, d3, d4, d5, d6, d7, d8⟩⟩ := hs
  rw [e_lastG hd d1 a2 b1, hc.1 Y b1]
theorem e_last' {yy : Nat} (hd : Dim N h b) (h4 : r 157 69 = Int32.ofNat b) (hy : yy < h) : f385_last N h b (Int32.ofNat yy) r = some (Int32.ofNat (LL b (r 191 yy)), r) := by
  obtain ⟨m0, m1, m2, m3, m4, m5⟩ := hd
  unfold f385_last LL
  rw [xg_pos (g_ix (by omega) (by decide)), i_cl (by omega), h4]
  by_cases z : r 191 yy = 0
  · rw [if_pos z, if_pos z, on_p (by omega)]
  · rw [if_neg z, if_neg z, show (2 : Int32) = Int32.ofNat 2 from rfl, ← Int32.ofNat_div (by omega) (by decide), on_p (by omega)]
/-- clamping to 0 .. k, both ways -/
theorem e_clamp {k : Nat} {a : xA} (hk : k < 2 ^ 31) (x : Int32) : ∃ j, j ≤ k ∧ f10_nearest N h b x 0 (Int32.ofNat k) a = some (Int32.ofNat j, a) ∧ xmax 0 (xmin (Int32.ofNat k) x) = Int32.ofNat j ∧ (0 ≤ x → x ≤ Int32.ofNat k → Int32.ofNat j = x) := by
  have hz : (0 : Int32) ≤ Int32.ofNat k := by rw [show (0 : Int32) = Int32.ofNat 0 from rfl, i_le (by decide) hk]; omega
  unfold f10_nearest xmax xmin
  by_cases z1 : 0 ≤ x
  · by_cases z2 : x ≤ Int32.ofNat k
    · obtain ⟨j, hj, ej, _⟩ := i_nat z1
      subst ej
      rw [i_le hj hk] at z2
      refine ⟨j, z2, ?_, ?_, fun _ _ => rfl⟩
      · rw [if_pos z1, if_pos (by rw [i_le hj hk]; exact z2)]
      · have : (if Int32.ofNat j < Int32.ofNat k then Int32.ofNat j else Int32.ofNat k) = Int32.ofNat j := by
          by_cases q : j < k
          · rw [if_pos (by rw [i_lt hj hk]; exact q)]
          · rw [if_neg (by rw [i_lt hj hk]; exact q), show j = k by omega]
        rw [this]
        by_cases q : 0 < Int32.ofNat j
        · rw [if_pos q]
        · rw [if_neg q]; grind
    · refine ⟨k, Nat.le_refl _, ?_, ?_, fun _ q => absurd q z2⟩
      · rw [if_pos z1, if_neg z2]
      · rw [if_neg (show ¬ x < Int32.ofNat k by grind)]
        by_cases q : 0 < Int32.ofNat k
        · rw [if_pos q]
        · rw [if_neg q]; grind
  · refine ⟨0, by omega, ?_, ?_, fun q _ => absurd q z1⟩
    · rw [if_neg z1]; rfl
    · rw [if_pos (show x < Int32.ofNat k by grind), if_neg (show ¬ 0 < x by grind)]; rfl
theorem d_place (hd : Dim N h b) (hR : RG h b c0 r0 c r) : Q2 (f16_place N h b x y c) (f384_goes N h b x y r) (fun p q => RG h b c0 r0 p q) := by
  obtain ⟨hf, ⟨Y, X, Tp, Bt, hs⟩, ho, hv, hc⟩ := hR
  have hs' := hs
  obtain ⟨⟨a1, a2, a3, a4⟩, ⟨b1, b2, b3, b4⟩, ⟨d1, d2, d3, d4, d5, d6, d7, d8⟩⟩ := hs'
  have hd' := hd
  obtain ⟨m0, m1, m2, m3, m4, m5⟩ := hd'
  unfold f16_place f384_goes
  rw [a1, a3, on_p (by omega)]
  obtain ⟨Y', l1, e1, e2, _⟩ := e_clamp (N := N) (h := h) (b := b) (k := h - 1) (a := c) (by omega) x
  refine q_l2 e1 (q_wl.mpr (q_wr.mpr ?_))
  rw [e2]
  have q1 := e_lastG (N := N) (h := h) (b := b) (Y := Y') (a := xU c 136 5 (Int32.ofNat Y')) hd xU_e (by rw [xU_s (by decide)]; exact a2) (by omega)
  have e139 : xU c 136 5 (Int32.ofNat Y') 139 Y' = r 191 Y' := by rw [xU_o (by decide), hc.1 Y' (by omega)]
  rw [e139] at q1
  have q2 := e_last' (N := N) (h := h) (b := b) (r := xU r 157 93 (Int32.ofNat Y')) (yy := Y') hd (by rw [xU_s (by decide)]; exact a4) (by omega)
  have q3 : xU r 157 93 (Int32.ofNat Y') 157 93 = Int32.ofNat Y' := xU_e
  rw [q3]
  have lb := LL_b hd (r 191 Y')
  refine q_l2 q1 (q_r2 q2 ?_)
  obtain ⟨X', l3, e3, e4, _⟩ := e_clamp (N := N) (h := h) (b := b) (k := LL b (r 191 Y')) (a := xU c 136 5 (Int32.ofNat Y')) (by omega) y
  refine q_l2 e3 (q_wl.mpr (q_wl.mpr (q_wr.mpr (q_wr.mpr ?_))))
  have e5 : xmax 0 (xmin (Int32.ofNat (LL b (xU r 157 93 (Int32.ofNat Y') 191 Y'))) y) = Int32.ofNat X' := e4
  rw [e5]
  exact q_ok1 (RG_p hf hs ho hv hc (by omega) l3)
end G
