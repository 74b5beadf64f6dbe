/-! update: rows roll up. -/
/-- the cell that would stand there when K rows are rolled away -/
def mv (Ln Co R K V : Nat) (c : xA) : Int32 := if Ln ≤ R + K then 32 else c 101 ((R + K) * Co + V)
def rU (e Ln Co R K : Nat) (c : xA) : Prop := ∃ V, V < pt e Ln Co R c ∧ ¬ c 104 (R * Co + V) = mv Ln Co R K V c
section T
variable {N h b : Nat} {c0 r0 c r c' r' c'' r'' ra ra' : xA} {x y z s v w w1 w2 w3 w4 w5 w6 w7 x' y' : Int32} {len p i f k m q a e K n n' row d th k0 A B t Ln Co V H o j W L a0 a1 m' y0 y1 x0 x1 S Y X R C kk D E F G M : Nat}
theorem e_mvc (H : UV N h b e Ln Co c r) (hR : R < Ln) (hK : K < Ln) (hV : V < Co) : f337_movedCell N h b (Int32.ofNat R) (Int32.ofNat V) (Int32.ofNat K) r = some (mv Ln Co R K V c, r) := by
  obtain ⟨⟨hz, _⟩, hku, hq⟩ := id H
  obtain ⟨z1, z2, z3, z4, z5, z6, z7, z8, z9, z10, z11, z12, z13⟩ := hz
  unfold f337_movedCell mv
  rw [← Int32.ofNat_add, z11]
  by_cases q : Ln ≤ R + K
  · rw [if_pos q, if_pos (show Int32.ofNat Ln ≤ Int32.ofNat (R + K) by rw [i_le (by omega) (by omega)]; exact q)]
  · have e2 : (80 : Int32) * Int32.ofNat (R + K) + Int32.ofNat V = Int32.ofNat (80 * (R + K) + V) := by rw [show (80 : Int32) = Int32.ofNat 80 from rfl, ← Int32.ofNat_mul, ← Int32.ofNat_add]
    rw [if_neg q, if_neg (show ¬ Int32.ofNat Ln ≤ Int32.ofNat (R + K) by rw [i_le (by omega) (by omega)]; exact q), e2, xg_pos (g_ix (show 80 * (R + K) + V < 1920 by omega) (by omega)), i_cl (show 80 * (R + K) + V < 2 ^ 31 by omega), hku.2.2.2.2.1 (R + K) V (by omega) hV]
/-- the class: is a row unlike -/
theorem e_135l (H : UV N h b e Ln Co c r) (hR : R < Ln) (hK : K < Ln) : ∀ (k v f : Nat), v + k = pt e Ln Co R c → k < f → (∀ V, V < v → c 104 (R * Co + V) = mv Ln Co R K V c) → ∃ t : Nat, l135_9 N h b (Int32.ofNat R) (Int32.ofNat (R + K)) (Int32.ofNat (pt e Ln Co R c)) f (Int32.ofNat v) c = some (t, c) ∧ ((t = 0 ∧ rU e Ln Co R K c) ∨ (t = 1 ∧ ¬ rU e Ln Co R K c)) := by
  obtain ⟨⟨hz, _⟩, hku, hq⟩ := id H
  obtain ⟨z1, z2, z3, z4, z5, z6, z7, z8, z9, z10, z11, z12, z13⟩ := hz
  have hpt := pt_le (e := e) (Ln := Ln) (Co := Co) (R := R) (c := c)
  intro k
  induction k with
  | zero =>
    intro v f g1 g2 g3
    obtain ⟨f, rfl⟩ : ∃ f', f = f' + 1 := ⟨f - 1, by omega⟩
    refine ⟨1, ?_, Or.inr ⟨rfl, ?_⟩⟩
    · rw [l135_9, if_pos (show Int32.ofNat (pt e Ln Co R c) ≤ Int32.ofNat v by rw [i_le (by omega) (by omega)]; omega)]
    · rintro ⟨V, q1, q2⟩
      exact q2 (g3 V (by omega))
  | succ k ih =>
    intro v f g1 g2 g3
    obtain ⟨f, rfl⟩ : ∃ f', f = f' + 1 := ⟨f - 1, by omega⟩
    have hix' := hix (V := v) hR (show v < Co by omega) z3 z5
    have e1 : Int32.ofNat R * Int32.ofNat Co + Int32.ofNat v = Int32.ofNat (R * Co + v) := by rw [← Int32.ofNat_mul, ← Int32.ofNat_add]
    have st : l135_9 N h b (Int32.ofNat R) (Int32.ofNat (R + K)) (Int32.ofNat (pt e Ln Co R c)) (f + 1) (Int32.ofNat v) c = if c 104 (R * Co + v) = mv Ln Co R K v c then l135_9 N h b (Int32.ofNat R) (Int32.ofNat (R + K)) (Int32.ofNat (pt e Ln Co R c)) f (Int32.ofNat (v + 1)) c else some (0, c) := by
      rw [l135_9, if_neg (show ¬ Int32.ofNat (pt e Ln Co R c) ≤ Int32.ofNat v by rw [i_le (by omega) (by omega)]; omega)]
      unfold j135_45 mv
      rw [z10, z12, e1, xg_pos (g_ix hix' (by omega)), i_cl (show R * Co + v < 2 ^ 31 by omega), on_s]
      by_cases q : Ln ≤ R + K
      · rw [if_pos q, if_pos (show Int32.ofNat Ln ≤ Int32.ofNat (R + K) by rw [i_le (by omega) (by omega)]; exact q)]
      · have hix2 := hix (R := R + K) (V := v) (show R + K < Ln by omega) (show v < Co by omega) z3 z5
        have e3 : Int32.ofNat (R + K) * Int32.ofNat Co + Int32.ofNat v = Int32.ofNat ((R + K) * Co + v) := by rw [← Int32.ofNat_mul, ← Int32.ofNat_add]
        rw [if_neg q, if_neg (show ¬ Int32.ofNat Ln ≤ Int32.ofNat (R + K) by rw [i_le (by omega) (by omega)]; exact q), e3, xg_pos (g_ix hix2 (by omega)), i_cl (show (R + K) * Co + v < 2 ^ 31 by omega)]
        rw [xg_pos (show ¬ (Int32.ofNat (R * Co + v) < 0 ∨ 1920 ≤ R * Co + v) by have := g_ix (n := 1920) hix' (by omega); rw [i_cl (show R * Co + v < 2 ^ 31 by omega)] at this; exact this)]
    rw [st]
    by_cases q : c 104 (R * Co + v) = mv Ln Co R K v c
    · rw [if_pos q]
      exact ih (v + 1) f (by omega) (by omega) (fun V hV => by
        by_cases q2 : V = v
        · rw [q2]; exact q
        · exact g3 V (by omega))
    · rw [if_neg q]
      exact ⟨0, rfl, Or.inl ⟨rfl, v, by omega, q⟩⟩
theorem e_135 (hN : 100000 ≤ N) (H : UV N h b e Ln Co c r) (hR : R < Ln) (hK : K < Ln) : f135_isRowUnlike N h b (Int32.ofNat R) (Int32.ofNat (R + K)) c = some (zb (rU e Ln Co R K c), c) := by
  have hpt := pt_le (e := e) (Ln := Ln) (Co := Co) (R := R) (c := c)
  have z5 := H.1.1.2.2.2.2.1
  obtain ⟨t, k1, k2⟩ := e_135l (N := N) (h := h) (b := b) H hR hK (pt e Ln Co R c) 0 N (by omega) (by omega) (fun V hV => absurd hV (by omega))
  have k1' : l135_9 N h b (Int32.ofNat R) (Int32.ofNat (R + K)) (Int32.ofNat (pt e Ln Co R c)) N 0 c = some (t, c) := k1
  unfold f135_isRowUnlike
  rw [e_pt H hR, b2_some, k1', Option.bind_some]
  rcases k2 with ⟨q1, q2⟩ | ⟨q1, q2⟩
  · rw [q1, if_pos rfl, zb_t q2]
  · rw [q1, if_neg (show ¬ (1 : Nat) = 0 by decide), zb_f q2]
/-- the reference: is a row unlike -/
theorem e_50 (H : UV N h b e Ln Co c r) (hR : R < Ln) (hK : K < Ln) : ∀ (k v f : Nat), v + k = Co → k < f → (∀ V, V < v → V < pt e Ln Co R c → c 104 (R * Co + V) = mv Ln Co R K V c) → l336_50 N h b w1 w2 (Int32.ofNat K) w4 (Int32.ofNat R) f 0 (Int32.ofNat v) r = some (0, zb (rU e Ln Co R K c), r) := by
  have hco := H.1.1.2.2.2.2.1
  have z13 := H.1.1.2.2.2.2.2.2.2.2.2.2.2.2
  have hpt := pt_le (e := e) (Ln := Ln) (Co := Co) (R := R) (c := c)
  intro k
  induction k with
  | zero =>
    intro v f g1 g2 g3
    obtain ⟨f, rfl⟩ : ∃ f', f = f' + 1 := ⟨f - 1, by omega⟩
    rw [l336_50, z13, if_pos (show Int32.ofNat Co ≤ Int32.ofNat v by rw [i_le (by omega) (by omega)]; omega), zb_f]
    rintro ⟨V, q1, q2⟩
    exact q2 (g3 V (by omega) q1)
  | succ k ih =>
    intro v f g1 g2 g3
    obtain ⟨f, rfl⟩ : ∃ f', f = f' + 1 := ⟨f - 1, by omega⟩
    rw [l336_50, z13, if_neg (show ¬ Int32.ofNat Co ≤ Int32.ofNat v by rw [i_le (by omega) (by omega)]; omega), if_pos (show (0 : Int32) = 0 from rfl), e_mvc H hR hK (by omega), b2_some, e_unl H hR (by omega), b2_some, on_s]
    by_cases q : v < pt e Ln Co R c ∧ ¬ c 104 (R * Co + v) = mv Ln Co R K v c
    · obtain ⟨f, rfl⟩ : ∃ f', f = f' + 1 := ⟨f - 1, by omega⟩
      rw [zb_t q, zb_t (show rU e Ln Co R K c from ⟨v, q.1, q.2⟩), l336_50, z13]
      by_cases q3 : Int32.ofNat Co ≤ Int32.ofNat (v + 1)
      · rw [if_pos q3]
      · rw [if_neg q3, if_neg (show ¬ (1 : Int32) = 0 by decide)]
    · rw [zb_f q]
      exact ih (v + 1) f (by omega) (by omega) (fun V hV hp => by
        by_cases q2 : V = v
        · subst q2
          exact Classical.byContradiction (fun g => q ⟨hp, g⟩)
        · exact g3 V (by omega) hp)
/-- how many rows are unlike -/
theorem d_134 (hN : 100000 ≤ N) (H : UV N h b e Ln Co c r) (hK : K < Ln) : ∀ (k v f m : Nat), v + k = Ln → k < f → m ≤ v → ∃ m', m' ≤ Ln ∧ l134_4 N h b (Int32.ofNat K) f (Int32.ofNat m) (Int32.ofNat v) c = some (0, Int32.ofNat m', c) ∧ l336_35 N h b w1 w2 (Int32.ofNat K) f (Int32.ofNat m) (Int32.ofNat v) r = some (0, Int32.ofNat m', r) := by
  have hco := H.1.1.2.2.2.2.1
  have l24 := H.1.1.2.2.1
  have z10 := H.1.1.2.2.2.2.2.2.2.2.2.1
  have z11 := H.1.1.2.2.2.2.2.2.2.2.2.2.1
  intro k
  induction k with
  | zero =>
    intro v f m g1 g2 g3
    obtain ⟨f, rfl⟩ : ∃ f', f = f' + 1 := ⟨f - 1, by omega⟩
    have : v = Ln := by omega
    subst this
    rw [l134_4, l336_35, z10, z11, if_pos (Int32.le_refl _), if_pos (Int32.le_refl _)]
    exact ⟨m, g3, rfl, rfl⟩
  | succ k ih =>
    intro v f m g1 g2 g3
    obtain ⟨f, rfl⟩ : ∃ f', f = f' + 1 := ⟨f - 1, by omega⟩
    have nle : ¬ Int32.ofNat Ln ≤ Int32.ofNat v := by rw [i_le (by omega) (by omega)]; omega
    have e5 := e_50 (N := N) (h := h) (b := b) (R := v) (w1 := w1) (w2 := w2) (w4 := Int32.ofNat m) H (by omega) hK Co 0 N (by omega) (by omega) (fun V hV => absurd hV (by omega))
    have e5' : l336_50 N h b w1 w2 (Int32.ofNat K) (Int32.ofNat m) (Int32.ofNat v) N 0 0 r = some (0, zb (rU e Ln Co v K c), r) := e5
    rw [l134_4, l336_35, z10, z11, if_neg nle, if_neg nle, ← Int32.ofNat_add, e_135 hN H (by omega) hK, b2_some, e5', Option.bind_some]
    unfold j134_26 j336_89
    dsimp only
    by_cases q : rU e Ln Co v K c
    · rw [zb_t q, if_neg (show ¬ (1 : Int32) = 0 by decide), if_neg (show ¬ (1 : Int32) = 0 by decide), on_s, on_s]
      exact ih (v + 1) f (m + 1) (by omega) (by omega) (by omega)
    · rw [zb_f q, if_pos (show (0 : Int32) = 0 from rfl), if_pos (show (0 : Int32) = 0 from rfl), on_s, show Int32.ofNat m + 0 = Int32.ofNat m by simp]
      exact ih (v + 1) f m (by omega) (by omega) (by omega)
/-- the first of the best -/
theorem d_133 (hN : 100000 ≤ N) (H : UV N h b e Ln Co c r) : ∀ (k v f K M : Nat), v + k = Ln → k < f → K < Ln → M ≤ Ln + 1 → ∃ K', K' < Ln ∧ l133_24 N h b f (Int32.ofNat K) (Int32.ofNat M) (Int32.ofNat v) c = some (0, Int32.ofNat K', c) ∧ l336_21 N h b f (Int32.ofNat K) (Int32.ofNat M) (Int32.ofNat v) r = some (0, Int32.ofNat K', r) := by
  have l24 := H.1.1.2.2.1
  have z10 := H.1.1.2.2.2.2.2.2.2.2.2.1
  have z11 := H.1.1.2.2.2.2.2.2.2.2.2.2.1
  intro k
  induction k with
  | zero =>
    intro v f K M g1 g2 g3 g4
    obtain ⟨f, rfl⟩ : ∃ f', f = f' + 1 := ⟨f - 1, by omega⟩
    have : v = Ln := by omega
    subst this
    rw [l133_24, l336_21, z10, z11, if_pos (Int32.le_refl _), if_pos (Int32.le_refl _)]
    exact ⟨K, g3, rfl, rfl⟩
  | succ k ih =>
    intro v f K M g1 g2 g3 g4
    obtain ⟨f, rfl⟩ : ∃ f', f = f' + 1 := ⟨f - 1, by omega⟩
    have nle : ¬ Int32.ofNat Ln ≤ Int32.ofNat v := by rw [i_le (by omega) (by omega)]; omega
    obtain ⟨m, m1, m2, m3⟩ := d_134 (N := N) (h := h) (b := b) (K := v) (w1 := Int32.ofNat K) (w2 := Int32.ofNat M) hN H (by omega) Ln 0 N 0 (by omega) (by omega) (Nat.le_refl _)
    have m2' : l134_4 N h b (Int32.ofNat v) N 0 0 c = some (0, Int32.ofNat m, c) := m2
    have m3' : l336_35 N h b (Int32.ofNat K) (Int32.ofNat M) (Int32.ofNat v) N 0 0 r = some (0, Int32.ofNat m, r) := m3
    have e4 : f134_rowsUnlike N h b (Int32.ofNat v) c = some (Int32.ofNat m, c) := by
      unfold f134_rowsUnlike
      rw [m2', Option.bind_some]
    rw [l133_24, l336_21, z10, z11, if_neg nle, if_neg nle, e4, b2_some, m3', Option.bind_some]
    unfold j133_50 j336_121
    dsimp only
    by_cases q : Int32.ofNat M ≤ Int32.ofNat m
    · rw [if_pos q, if_pos q, on_s]
      exact ih (v + 1) f K M (by omega) (by omega) g3 g4
    · rw [if_neg q, if_neg q, on_s]
      exact ih (v + 1) f v m (by omega) (by omega) (by omega) (by omega)
/-- the reference's cells after a roll -/
def gM (Ln K : Nat) (r : xA) (y x : Nat) : Int32 := if Ln ≤ y + K then 32 else r 183 (80 * (y + K) + x)
theorem e_165 (hN : 100000 ≤ N) (hco : Co ≤ 80) (l24 : Ln ≤ 24) (hR : R < Ln) (hK : K < Ln) (hK1 : 1 ≤ K) (z11 : r 157 27 = Int32.ofNat Ln) (z13 : r 157 26 = Int32.ofNat Co) {s : xA} (hs : (∀ p, p ≠ 183 → s p = r p) ∧ ∀ y x, y < Ln → x < Co → s 183 (80 * y + x) = if y < R then gM Ln K r y x else r 183 (80 * y + x)) : ∃ r', l336_165 N h b (Int32.ofNat K) (Int32.ofNat R) N 0 s = some (0, r') ∧ (∀ p, p ≠ 183 → r' p = r p) ∧ ∀ y x, y < Ln → x < Co → r' 183 (80 * y + x) = if y < R + 1 then gM Ln K r y x else r 183 (80 * y + x) := by
  obtain ⟨r', k1, k2, k3⟩ := lp_up (L := l336_165 N h b (Int32.ofNat K) (Int32.ofNat R)) (hi := Co) (out := fun a => (0, a)) (P := fun j a' => (∀ p, p ≠ 183 → a' p = r p) ∧ ∀ y x, y < Ln → x < Co → a' 183 (80 * y + x) = if y < R ∨ (y = R ∧ x < j) then gM Ln K r y x else r 183 (80 * y + x)) (fun n j a' g1 g2 => by
    obtain ⟨g4, g5⟩ := g1
    have e2 : (80 : Int32) * Int32.ofNat R + Int32.ofNat j = Int32.ofNat (80 * R + j) := by rw [show (80 : Int32) = Int32.ofNat 80 from rfl, ← Int32.ofNat_mul, ← Int32.ofNat_add]
    have em : f337_movedCell N h b (Int32.ofNat R) (Int32.ofNat j) (Int32.ofNat K) a' = some (gM Ln K r R j, a') := by
      unfold f337_movedCell gM
      rw [← Int32.ofNat_add, g4 157 (by decide), z11]
      by_cases q : Ln ≤ R + K
      · rw [if_pos q, if_pos (show Int32.ofNat Ln ≤ Int32.ofNat (R + K) by rw [i_le (by omega) (by omega)]; exact q)]
      · have e3 : (80 : Int32) * Int32.ofNat (R + K) + Int32.ofNat j = Int32.ofNat (80 * (R + K) + j) := by rw [show (80 : Int32) = Int32.ofNat 80 from rfl, ← Int32.ofNat_mul, ← Int32.ofNat_add]
        rw [if_neg q, if_neg (show ¬ Int32.ofNat Ln ≤ Int32.ofNat (R + K) by rw [i_le (by omega) (by omega)]; exact q), e3, xg_pos (g_ix (show 80 * (R + K) + j < 1920 by omega) (by omega)), i_cl (show 80 * (R + K) + j < 2 ^ 31 by omega), g5 (R + K) j (by omega) g2, if_neg (by omega)]
    refine ⟨xU a' 183 (80 * R + j) (gM Ln K r R j), ?_, fun p hp => by rw [xU_o hp, g4 p hp], fun y x q1 q2 => ?_⟩
    · rw [l336_165, g4 157 (by decide), z13, if_neg (show ¬ Int32.ofNat Co ≤ Int32.ofNat j by rw [i_le (by omega) (by omega)]; omega), em, b2_some, e2, xg_pos (g_ix (show 80 * R + j < 1920 by omega) (by omega)), i_cl (show 80 * R + j < 2 ^ 31 by omega), on_s]
      rfl
    · by_cases q : y = R ∧ x = j
      · obtain ⟨t1, t2⟩ := q
        subst t1; subst t2
        rw [xU_e, if_pos (by omega)]
      · rw [xU_s (show 80 * y + x ≠ 80 * R + j by omega), g5 y x q1 q2]
        by_cases q3 : y < R ∨ (y = R ∧ x < j)
        · rw [if_pos q3, if_pos (by omega)]
        · rw [if_neg q3, if_neg (by omega)]) (fun n a' g1 => by rw [l336_165, g1.1 157 (by decide), z13, if_pos (Int32.le_refl _)]) Co 0 N s (by omega) (by omega) ⟨hs.1, fun y x q1 q2 => by
      rw [hs.2 y x q1 q2]
      by_cases q : y < R
      · rw [if_pos q, if_pos (by omega)]
      · rw [if_neg q, if_neg (by omega)]⟩
  refine ⟨r', k1, k2, fun y x q1 q2 => ?_⟩
  rw [k3 y x q1 q2]
  by_cases q : y < R + 1
  · rw [if_pos q, if_pos (by omega)]
  · rw [if_neg q, if_neg (by omega)]
theorem e_154 (hN : 100000 ≤ N) (hco : Co ≤ 80) (l24 : Ln ≤ 24) (hK : K < Ln) (hK1 : 1 ≤ K) (z11 : r 157 27 = Int32.ofNat Ln) (z13 : r 157 26 = Int32.ofNat Co) : ∃ r', l336_154 N h b (Int32.ofNat K) N 0 r = some (0, r') ∧ (∀ p, p ≠ 183 → r' p = r p) ∧ ∀ y x, y < Ln → x < Co → r' 183 (80 * y + x) = gM Ln K r y x := by
  obtain ⟨r', k1, k2, k3⟩ := lp_up (L := l336_154 N h b (Int32.ofNat K)) (hi := Ln) (out := fun a => (0, a)) (P := fun j a' => (∀ p, p ≠ 183 → a' p = r p) ∧ ∀ y x, y < Ln → x < Co → a' 183 (80 * y + x) = if y < j then gM Ln K r y x else r 183 (80 * y + x)) (fun n j a' g1 g2 => by
    obtain ⟨r', m1, m2, m3⟩ := e_165 (N := N) (h := h) (b := b) (R := j) hN hco l24 g2 hK hK1 z11 z13 g1
    refine ⟨r', ?_, m2, m3⟩
    rw [l336_154, g1.1 157 (by decide), z11, if_neg (show ¬ Int32.ofNat Ln ≤ Int32.ofNat j by rw [i_le (by omega) (by omega)]; omega), m1, Option.bind_some, on_s]) (fun n a' g1 => by rw [l336_154, g1.1 157 (by decide), z11, if_pos (Int32.le_refl _)]) Ln 0 N r (by omega) (by omega) ⟨fun _ _ => rfl, fun y x _ _ => by rw [if_neg (by omega)]⟩
  refine ⟨r', k1, k2, fun y x q1 q2 => ?_⟩
  rw [k3 y x q1 q2, if_pos q1]
/-- the roll -/
theorem d_roll (hN : 100000 ≤ N) (H : UV N h b e Ln Co c r) (hu : Uc (W + 17000) c r) : ∃ c' r', f133_rollUp N h b c = some c' ∧ f336_rolls N h b r = some r' ∧ UV N h b e Ln Co c' r' ∧ UX 17000 c r c' r' := by
  obtain ⟨⟨hz, hE, hT, hAi, h9⟩, hku, hq⟩ := id H
  obtain ⟨z1, z2, z3, z4, z5, z6, z7, z8, z9, z10, z11, z12, z13⟩ := hz
  obtain ⟨p1, _⟩ := pl (h := h) (b := b) z1
  have c22 : f74_has N h b (9 + 7 * e) 22 c = some (c (9 + 7 * e + 3) 22, c) := e_hs z1 (show 22 < 39 by decide) (hE 22 (by decide))
  have r22 : f297_has N h b 22 r = some (c (9 + 7 * e + 3) 22, r) := e_hs' z1 (show 22 < 39 by decide) (hE 22 (by decide)) z7
  unfold f133_rollUp f336_rolls
  rw [z8, xg_pos (ofn_ne (by omega)), i_cl (show 9 + 7 * e < 2 ^ 31 by omega), xg_pos p1, c22, b2_some, r22, b2_some]
  by_cases s : c (9 + 7 * e + 3) 22 = 0
  · rw [if_pos s, if_pos s]
    exact ⟨c, r, rfl, rfl, H, UX_m UX_r (by omega)⟩
  · rw [if_neg s, if_neg s, z10, z11, on_s]
    obtain ⟨K, k1, k2, k3⟩ := d_133 (N := N) (h := h) (b := b) hN H Ln 0 N 0 (Ln + 1) (by omega) (by omega) (by omega) (Nat.le_refl _)
    have k2' : l133_24 N h b N 0 (Int32.ofNat (Ln + 1)) 0 c = some (0, Int32.ofNat K, c) := k2
    have k3' : l336_21 N h b N 0 (Int32.ofNat (Ln + 1)) 0 r = some (0, Int32.ofNat K, r) := k3
    rw [k2', k3', Option.bind_some, Option.bind_some]
    dsimp only
    by_cases t : K = 0
    · subst t
      rw [if_pos (by decide), if_pos (by decide)]
      exact ⟨c, r, rfl, rfl, H, UX_m UX_r (by omega)⟩
    · have eL : c 97 8 - 1 = Int32.ofNat (Ln - 1) := by rw [z10, show (1 : Int32) = Int32.ofNat 1 from rfl, ← Int32.ofNat_sub _ _ (by omega)]
      have eL' : r 157 27 - 1 = Int32.ofNat (Ln - 1) := by rw [z11, show (1 : Int32) = Int32.ofNat 1 from rfl, ← Int32.ofNat_sub _ _ (by omega)]
      rw [if_neg (show ¬ Int32.ofNat K ≤ 0 by rw [show (0 : Int32) = Int32.ofNat 0 from rfl, i_le (by omega) (by decide)]; omega), if_neg (show ¬ Int32.ofNat K = 0 by rw [show (0 : Int32) = Int32.ofNat 0 from rfl, i_eq (by omega) (by decide)]; exact t), eL, eL']
      obtain ⟨c1, r1, g1, g2, g3, g4, g5⟩ := d_move (N := N) (h := h) (b := b) (W := W + 1900) (R := Ln - 1) (C := 0) hN H (by omega) (by omega) (Uc_m hu (by omega))
      have hu1 := (g4.2 (W + 1900)).1 (Uc_m hu (by omega))
      obtain ⟨c2, r2, m1, m2, m3, m4⟩ := d_send (N := N) (h := h) (b := b) (a := 22) (W := W) (t := K) (x := 0) (y := 0) hN g3 (by decide) (by decide) (by omega) (Uc_m hu1 (by omega))
      have g1' : f137_moveTo N h b (Int32.ofNat (Ln - 1)) 0 c = some c1 := g1
      have g2' : f340_motion N h b (Int32.ofNat (Ln - 1)) 0 r = some r1 := g2
      have m1' : f130_send N h b 22 (Int32.ofNat K) 0 0 c1 = some c2 := m1
      have m2' : f332_typeAll N h b 22 0 0 (Int32.ofNat K) r1 = some r2 := m2
      have y11 := m3.1.1.2.2.2.2.2.2.2.2.2.2.1
      have y13 := m3.1.1.2.2.2.2.2.2.2.2.2.2.2.2
      obtain ⟨r3, n1, n2, n3⟩ := e_154 (N := N) (h := h) (b := b) (K := K) hN z5 z3 k1 (by omega) y11 y13
      have es := e_slr (N := N) (h := h) (b := b) (c := c2) (o := 100) (F := 0) (s := -Int32.ofNat K) (H := Ln) (B := Co) rfl rfl rfl m3.2.1.2.2.2.2.2.1 m3.2.1.2.2.2.2.2.2 z3 (by omega) z5 (by omega)
      have tK : (-Int32.ofNat K).toInt = -(K : Int) := by rw [Int32.toInt_neg, Int32.toInt_ofNat_of_lt (by omega), Int.bmod_eq_of_le (by omega) (by omega)]
      have mK : min (-Int32.ofNat K).toInt.natAbs Ln = K := by rw [tK]; omega
      have ng : ¬ 0 ≤ -Int32.ofNat K := by rw [Int32.le_iff_toInt_le, tK, show (0 : Int32).toInt = 0 from rfl]; omega
      rw [mK, if_neg ng] at es
      have es' : f107_slideRows N h b 100 0 (-Int32.ofNat K) c2 = some (xW c2 101 (slL (c2 101) (0 * Co) ((Ln - 0) * Co) (K * Co) 32)) := es
      have hv := UV_a (c' := xW c2 101 (slL (c2 101) (0 * Co) ((Ln - 0) * Co) (K * Co) 32)) (r' := r3) m3 (fun p hp => by simp [xW, upd, hp]) n2 (fun y x q1 q2 => by
        have e0 : (xW c2 101 (slL (c2 101) (0 * Co) ((Ln - 0) * Co) (K * Co) 32)) 101 = slL (c2 101) (0 * Co) ((Ln - 0) * Co) (K * Co) 32 := by simp [xW, upd]
        rw [e0, slL_rows (Nat.zero_le _) q1 q2, n3 y x q1 q2, if_pos (Nat.zero_le _)]
        unfold gM
        by_cases q : y + K < Ln
        · rw [if_pos q, if_neg (by omega)]
          exact m3.2.1.2.2.2.2.1 (y + K) x q q2
        · rw [if_neg q, if_pos (by omega)])
      rw [g1', b1_some, m1', b1_some, es', b1_some, g2', b1_some, m2', b1_some, n1, Option.bind_some]
      exact ⟨_, _, rfl, rfl, hv.1, UX_m (UX_t g4 (UX_t (UX_X m4) hv.2)) (by omega)⟩
end T
