/-! update: pairs of strings. -/
def CC (m : Nat) (x y : Int32) : Prop := (y = -1 ∧ ∃ n : Nat, 1000000 ≤ n ∧ n ≤ 1000000 * m ∧ x = Int32.ofNat n) ∨ ∃ n : Nat, n ≤ 100 * m ∧ x = Int32.ofNat n ∧ y = Int32.ofNat n
/-- which of two ways the reference takes -/
def bt (y0 y1 : Int32) : Int32 := if y1 = -1 then (if y0 = -1 then -1 else 0) else if y0 = -1 then 1 else if y1 < y0 then 1 else 0
abbrev S4 := Int32 × Int32 × Int32 × Int32
/-- the class does what it planned -/
def RunC (N h b : Nat) (row : Int32) : List S4 → xA → xA → Prop
  | [], a, a' => a' = a
  | s :: l, a, a' => ∃ a1, (if s.1 = -1 then f151_copyKnown N h b row s.2.2.1 s.2.2.2 a else f130_send N h b s.1 s.2.1 s.2.2.1 s.2.2.2 a) = some a1 ∧ a1 114 = a 114 ∧ a1 97 18 = a 97 18 ∧ RunC N h b row l a1 a'
def plP (a0 a1 k : Nat) (c : xA) : List S4 := if k = 0 then [] else if c (108 + (a1 - 14)) k < Int32.ofNat k * c 106 a0 then [(Int32.ofNat a1, 1, Int32.ofNat k, 0)] else [(Int32.ofNat a0, Int32.ofNat k, 0, 0)]
def lnP (a0 a1 k : Nat) (c : xA) : Int32 := if k = 0 then 0 else if c (108 + (a1 - 14)) k < Int32.ofNat k * c 106 a0 then c (108 + (a1 - 14)) k else Int32.ofNat k * c 106 a0
section T
variable {N h b : Nat} {c0 r0 c r c' r' c'' r'' : xA} {x y z s v w w1 w2 w4 w5 w6 x' y' : Int32} {len p i f k m q l a e K n row d th k0 A B t Ln Co V H o j W L a0 a1 m' : Nat}
theorem e_bet : f345_better N h b x y r = some (bt x y, r) := by
  unfold f345_better j345_14 j345_29 bt
  by_cases z1 : x = -1
  · rw [if_pos z1]
    by_cases z2 : y = -1
    · rw [if_pos z2, if_pos z2, if_pos z1]
    · rw [if_neg z2, if_neg z2, if_pos z1, if_neg z2]
  · rw [if_neg z1]
    by_cases z2 : y = -1
    · rw [if_pos z2, if_pos z2, if_neg z1]
    · rw [if_neg z2, if_neg z2, if_neg z1, if_neg z1]
theorem RunC_app {l1 l2 : List S4} : ∀ {a a1 a2 : xA}, RunC N h b x l1 a a1 → RunC N h b x l2 a1 a2 → RunC N h b x (l1 ++ l2) a a2 := by
  induction l1 with
  | nil =>
    intro a a1 a2 h1 h2
    have : a1 = a := h1
    subst this
    exact h2
  | cons s l ih =>
    intro a a1 a2 h1 h2
    obtain ⟨a3, k1, k2, k3, k4⟩ := h1
    exact ⟨a3, k1, k2, k3, ih k4 h2⟩
theorem RunC_1 {s : S4} (hs : ¬ s.1 = -1) {a a1 : xA} (h1 : f130_send N h b s.1 s.2.1 s.2.2.1 s.2.2.2 a = some a1) (hX : XF k a r a1 r') : RunC N h b x [s] a a1 := ⟨a1, by rw [if_neg hs]; exact h1, hX.1.1 114 (by decide) (by decide), hX.1.2.1 18 (by decide), rfl⟩
theorem CC_add (H : CC m x y) (G : CC m' x' y') (hm : m + m' ≤ 2000) : CC (m + m') (x + x') (if y = -1 then -1 else if y' = -1 then -1 else y + y') := by
  rcases H with ⟨h1, n, h2, h3, h4⟩ | ⟨n, h2, h3, h4⟩
  · rw [if_pos h1]
    rcases G with ⟨g1, n', g2, g3, g4⟩ | ⟨n', g2, g3, g4⟩
    · exact Or.inl ⟨rfl, n + n', by omega, by omega, by rw [h4, g4, Int32.ofNat_add]⟩
    · exact Or.inl ⟨rfl, n + n', by omega, by omega, by rw [h4, g3, Int32.ofNat_add]⟩
  · rw [if_neg (by rw [h4]; exact ofn_ne (by omega))]
    rcases G with ⟨g1, n', g2, g3, g4⟩ | ⟨n', g2, g3, g4⟩
    · rw [if_pos g1]
      exact Or.inl ⟨rfl, n + n', by omega, by omega, by rw [h3, g4, Int32.ofNat_add]⟩
    · rw [if_neg (by rw [g4]; exact ofn_ne (by omega))]
      exact Or.inr ⟨n + n', by omega, by rw [h3, g3, Int32.ofNat_add], by rw [h4, g4, Int32.ofNat_add]⟩
theorem CC_m (H : CC m x y) (h1 : m ≤ m') : CC m' x y := by
  rcases H with ⟨h1, n, h2, h3, h4⟩ | ⟨n, h2, h3, h4⟩
  · exact Or.inl ⟨h1, n, h2, by omega, h4⟩
  · exact Or.inr ⟨n, by omega, h3, h4⟩
theorem CO_CC (H : CO x y) : CC 1 x y := by
  rcases H with ⟨h1, h2⟩ | ⟨L, h1, h2, h3⟩
  · exact Or.inl ⟨h2, 1000000, by omega, by omega, h1⟩
  · exact Or.inr ⟨L, by omega, h2, h3⟩
/-- the better of a string k times and a string with a number -/
theorem CO_min {S T s' t' : Int32} (hS : CO S s') (hT : CO T t') (hk : 1 ≤ k) (hk2 : k < 80) : CC 80 (if T < Int32.ofNat k * S then T else Int32.ofNat k * S) (if bt (if s' = -1 then -1 else s' * Int32.ofNat k) t' = -1 then -1 else if bt (if s' = -1 then -1 else s' * Int32.ofNat k) t' = 0 then (if s' = -1 then -1 else s' * Int32.ofNat k) else t') ∧ (¬ (bt (if s' = -1 then -1 else s' * Int32.ofNat k) t') = -1 → (T < Int32.ofNat k * S ↔ bt (if s' = -1 then -1 else s' * Int32.ofNat k) t' = 1)) := by
  unfold bt
  rcases hS with ⟨s1, s2⟩ | ⟨Ls, s1, s2, s3⟩ <;> rcases hT with ⟨t1, t2⟩ | ⟨Lt, t1, t2, t3⟩
  · rw [if_pos s2, if_pos t2, if_pos rfl, if_pos rfl, s1, t1]
    refine ⟨Or.inl ⟨rfl, ?_⟩, fun g => absurd rfl g⟩
    rw [show (1000000 : Int32) = Int32.ofNat 1000000 from rfl, ← Int32.ofNat_mul]
    split
    · exact ⟨1000000, by omega, by omega, rfl⟩
    · exact ⟨k * 1000000, by omega, by omega, rfl⟩
  · have nt : ¬ t' = -1 := by rw [t3]; exact ofn_ne (by omega)
    rw [if_pos s2, if_neg nt, if_pos rfl, if_neg (show ¬ (1 : Int32) = -1 by decide), if_neg (show ¬ (1 : Int32) = 0 by decide), s1, t2]
    have lt : Int32.ofNat Lt < Int32.ofNat k * 1000000 := by
      rw [show (1000000 : Int32) = Int32.ofNat 1000000 from rfl, ← Int32.ofNat_mul, i_lt (by omega) (by omega)]
      omega
    rw [if_pos lt]
    exact ⟨Or.inr ⟨Lt, by omega, rfl, t3⟩, fun _ => ⟨fun _ => rfl, fun _ => lt⟩⟩
  · have ns : ¬ s' = -1 := by rw [s3]; exact ofn_ne (by omega)
    have hmul : Ls * k ≤ 60 * 79 := Nat.mul_le_mul s1 (by omega)
    have e1 : s' * Int32.ofNat k = Int32.ofNat (Ls * k) := by rw [s3, Int32.ofNat_mul]
    have e2 : Int32.ofNat k * S = Int32.ofNat (Ls * k) := by rw [s2, ← Int32.ofNat_mul, Nat.mul_comm]
    have ne : ¬ s' * Int32.ofNat k = -1 := by rw [e1]; exact ofn_ne (by omega)
    rw [if_neg ns, if_pos t2, if_neg ne, if_neg (show ¬ (0 : Int32) = -1 by decide), if_pos rfl, e1, e2, t1]
    have lt : ¬ (1000000 : Int32) < Int32.ofNat (Ls * k) := by
      rw [show (1000000 : Int32) = Int32.ofNat 1000000 from rfl, i_lt (by decide) (by omega)]
      omega
    rw [if_neg lt]
    exact ⟨Or.inr ⟨Ls * k, by omega, rfl, rfl⟩, fun _ => ⟨fun g => absurd g lt, fun g => absurd g (by decide)⟩⟩
  · have ns : ¬ s' = -1 := by rw [s3]; exact ofn_ne (by omega)
    have nt : ¬ t' = -1 := by rw [t3]; exact ofn_ne (by omega)
    have hmul : Ls * k ≤ 60 * 79 := Nat.mul_le_mul s1 (by omega)
    have e1 : s' * Int32.ofNat k = Int32.ofNat (Ls * k) := by rw [s3, Int32.ofNat_mul]
    have e2 : Int32.ofNat k * S = Int32.ofNat (Ls * k) := by rw [s2, ← Int32.ofNat_mul, Nat.mul_comm]
    have ne : ¬ s' * Int32.ofNat k = -1 := by rw [e1]; exact ofn_ne (by omega)
    rw [if_neg ns, if_neg nt, if_neg ne, e1, e2, t2, t3]
    by_cases lt : Int32.ofNat Lt < Int32.ofNat (Ls * k)
    · rw [if_pos lt, if_pos lt, if_neg (show ¬ (1 : Int32) = -1 by decide), if_neg (show ¬ (1 : Int32) = 0 by decide)]
      exact ⟨Or.inr ⟨Lt, by omega, rfl, rfl⟩, fun _ => ⟨fun _ => rfl, fun _ => lt⟩⟩
    · rw [if_neg lt, if_neg lt, if_neg (show ¬ (0 : Int32) = -1 by decide), if_pos rfl]
      exact ⟨Or.inr ⟨Ls * k, by omega, rfl, rfl⟩, fun _ => ⟨fun g => absurd g lt, fun g => absurd g (by decide)⟩⟩
theorem e_pln (hT : TB N h b e c) (h0 : 6 ≤ a0) (h01 : a0 < 39) (h1 : 14 ≤ a1) (h11 : a1 ≤ 19) (hk : k < 80) : f140_pairLength N h b (Int32.ofNat a0) (Int32.ofNat a1) (Int32.ofNat k) c = some (lnP a0 a1 k c, c) := by
  have hl : xl h b (108 + (a1 - 14)) = 80 := by
    have : a1 = 14 ∨ a1 = 15 ∨ a1 = 16 ∨ a1 = 17 ∨ a1 = 18 ∨ a1 = 19 := by omega
    rcases this with q | q | q | q | q | q <;> subst q <;> rfl
  have em : Int32.ofNat a1 - 14 = Int32.ofNat (a1 - 14) := by rw [show (14 : Int32) = Int32.ofNat 14 from rfl, ← Int32.ofNat_sub _ _ h1]
  unfold f140_pairLength lnP
  by_cases z : k = 0
  · rw [if_pos (by rw [z]; rfl), if_pos z]
  · rw [if_neg (show ¬ Int32.ofNat k = 0 by rw [show (0 : Int32) = Int32.ofNat 0 from rfl, i_eq (by omega) (by decide)]; exact z), if_neg z, em, xg_pos (g_ix h01 (by omega)), xg_pos (g_ix (by omega) (by omega)), i_cl (show a1 - 14 < 2 ^ 31 by omega), hl, xg_pos (g_ix hk (by omega)), i_cl (show k < 2 ^ 31 by omega), i_cl (show a0 < 2 ^ 31 by omega)]
theorem d_pr0 (hN : 100000 ≤ N) (H : UV N h b e Ln Co c r) (h0 : 6 ≤ a0) (h01 : a0 < 39) (h1 : 14 ≤ a1) (h11 : a1 ≤ 19) (hk : 1 ≤ k) (hk2 : k < 80) : ∃ y r', f344_eitherOf N h b (Int32.ofNat a0) (Int32.ofNat a1) (Int32.ofNat k) 0 r = some (y, r') ∧ RF r r' ∧ CC 80 (lnP a0 a1 k c) y := by
  obtain ⟨s', r1, k1, k2, k3⟩ := d_len (N := N) (h := h) (b := b) (V := 0) hN H h01 h0
  have H1 := UV_R H k2
  obtain ⟨t', r2, g1, g2, g3⟩ := d_len (N := N) (h := h) (b := b) (V := k) hN H1 (show a1 < 39 by omega) (by omega)
  have k1' : f333_bytesOf N h b (Int32.ofNat a0) 0 0 r = some (s', r1) := k1
  have hm := (CO_min (k := k) (k3 _ (H.1.2.2.1.1 a0 h0 h01)) (g3 _ (H.1.2.2.1.2.1 a1 k h1 h11 hk2)) hk hk2).1
  unfold f344_eitherOf
  rw [k1', b2_some, g1, b2_some, e_bet, b2_some, if_pos rfl]
  unfold j344_61 j344_80
  rw [if_pos rfl]
  refine ⟨_, _, rfl, RF_t k2 g2, ?_⟩
  unfold lnP
  rw [if_neg (by omega)]
  exact hm
/-- the pair's strings are sent -/
theorem d_pr1 (hN : 100000 ≤ N) (H : UV N h b e Ln Co c r) (h0 : 6 ≤ a0) (h01 : a0 < 39) (h1 : 14 ≤ a1) (h11 : a1 ≤ 19) (hk : 1 ≤ k) (hk2 : k < 80) (hu : Uc (W + 4800) c r) (hv : lnP a0 a1 k c < 1000000) : ∃ c' y r', RunC N h b x (plP a0 a1 k c) c c' ∧ f344_eitherOf N h b (Int32.ofNat a0) (Int32.ofNat a1) (Int32.ofNat k) 1 r = some (y, r') ∧ UV N h b e Ln Co c' r' ∧ XF 4800 c r c' r' ∧ CC 80 (lnP a0 a1 k c) y := by
  obtain ⟨s', r1, k1, k2, k3⟩ := d_len (N := N) (h := h) (b := b) (V := 0) hN H h01 h0
  have H1 := UV_R H k2
  obtain ⟨t', r2, g1, g2, g3⟩ := d_len (N := N) (h := h) (b := b) (V := k) hN H1 (show a1 < 39 by omega) (by omega)
  have k1' : f333_bytesOf N h b (Int32.ofNat a0) 0 0 r = some (s', r1) := k1
  obtain ⟨m1, m2⟩ := CO_min (k := k) (k3 _ (H.1.2.2.1.1 a0 h0 h01)) (g3 _ (H.1.2.2.1.2.1 a1 k h1 h11 hk2)) hk hk2
  have H2 := UV_R H1 g2
  have hX := RF_X (c := c) (RF_t k2 g2)
  unfold lnP at hv ⊢
  rw [if_neg (show ¬ k = 0 by omega)] at hv
  unfold f344_eitherOf plP
  rw [k1', b2_some, g1, b2_some, e_bet, b2_some, if_neg (show ¬ (1 : Int32) = 0 by decide), if_neg (show ¬ k = 0 by omega), if_neg (show ¬ k = 0 by omega)]
  unfold j344_61 j344_80
  generalize hB : bt (if s' = -1 then -1 else s' * Int32.ofNat k) t' = B at m1 m2 ⊢
  have nB : ¬ B = -1 := by
    intro g
    rw [if_pos g] at m1
    rcases m1 with ⟨_, n, n1, n2, n3⟩ | ⟨n, n1, n2, n3⟩
    · rw [n3, show (1000000 : Int32) = Int32.ofNat 1000000 from rfl, i_lt (by omega) (by decide)] at hv
      omega
    · exact absurd n3.symm (ofn_ne (by omega))
  have hB2 : B = 0 ∨ B = 1 := by
    rw [← hB] at nB ⊢
    unfold bt at nB ⊢
    by_cases q1 : t' = -1
    · rw [if_pos q1] at nB ⊢
      by_cases q2 : (if s' = -1 then -1 else s' * Int32.ofNat k) = -1
      · rw [if_pos q2] at nB; exact absurd rfl nB
      · rw [if_neg q2]; exact Or.inl rfl
    · rw [if_neg q1]
      by_cases q2 : (if s' = -1 then -1 else s' * Int32.ofNat k) = -1
      · rw [if_pos q2]; exact Or.inr rfl
      · rw [if_neg q2]
        by_cases q3 : t' < (if s' = -1 then -1 else s' * Int32.ofNat k)
        · rw [if_pos q3]; exact Or.inr rfl
        · rw [if_neg q3]; exact Or.inl rfl
  have hu2 : Uc (W + 4800) c r2 := (hX.2 (W + 4800)).1 hu
  rcases hB2 with q | q
  · have nl : ¬ c (108 + (a1 - 14)) k < Int32.ofNat k * c 106 a0 := fun g => by
      have := (m2 nB).mp g
      rw [q] at this
      exact absurd this (by decide)
    obtain ⟨c', r', v1, v2, v3, v4⟩ := d_send (N := N) (h := h) (b := b) (W := W) (t := k) (x := 0) (y := 0) hN H2 h01 h0 (by omega) (Uc_m hu2 (by omega))
    rw [if_neg nl, if_pos q, v2, b1_some, if_neg (show ¬ (1 : Int32) = 0 by decide), if_neg (by rw [q]; decide)]
    exact ⟨c', _, r', RunC_1 (by dsimp only; exact ofn_ne (by omega)) v1 v4, rfl, v3, XF_m (XF_t hX v4) (by omega), m1⟩
  · have nl : c (108 + (a1 - 14)) k < Int32.ofNat k * c 106 a0 := (m2 nB).mpr q
    obtain ⟨c', r', v1, v2, v3, v4⟩ := d_send (N := N) (h := h) (b := b) (W := W) (t := 1) (x := Int32.ofNat k) (y := 0) hN H2 (show a1 < 39 by omega) (by omega) (by omega) (Uc_m hu2 (by omega))
    have v2' : f332_typeAll N h b (Int32.ofNat a1) (Int32.ofNat k) 0 1 r2 = some r' := v2
    rw [if_pos nl, if_neg (by rw [q]; decide), if_neg (show ¬ (1 : Int32) = 0 by decide), if_pos q, v2', b1_some]
    exact ⟨c', _, r', RunC_1 (by dsimp only; exact ofn_ne (by omega)) v1 v4, rfl, v3, XF_m (XF_t hX v4) (by omega), m1⟩
end T
