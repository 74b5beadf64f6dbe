/-! The reader: entries are finished and begun. -/
/-- no entry is open, k are there -/
def DN (k0 len q k : Nat) (c0 r0 c r : xA) : Prop := FL k0 c0 r0 c r ∧ RV len q c r ∧ k0 ≤ k ∧ k ≤ 12 ∧ c 3 7 = Int32.ofNat k ∧ c 3 8 = -1 ∧ r 157 17 + 1 = Int32.ofNat k ∧ (∀ e, e < k → EE e c r)
section T
variable {N h b : Nat} {c0 r0 c r c' r' c'' r'' : xA} {x y z s v w w1 w2 : Int32} {len p i f k m q l a e K n row d th k0 A B : Nat}
theorem d_tka (hN : 100000 ≤ N) (hth : th < 12) (he : e < th) (hi : i < 4) : ∀ (k a f : Nat) (c r : xA), a + k = 39 → k < f → EE e c r → KA th c r → NA r → r 157 17 = Int32.ofNat th → r 167 i = Int32.ofNat e → ∃ c' r', l64_2 N h b (9 + 7 * th) (9 + 7 * e) 6 f (Int32.ofNat a) c = some (0, c') ∧ l289_12 N h b (Int32.ofNat i) f (Int32.ofNat a) r = some (0, r') ∧ TK th c r c' r' ∧ KA th c' r' := by
  intro k
  induction k with
  | zero =>
    intro a f c r h1 h2 h3 h4 h5 h6 h7
    obtain ⟨f, rfl⟩ : ∃ f', f = f' + 1 := ⟨f - 1, by omega⟩
    have : a = 39 := by omega
    subst this
    exact ⟨c, r, by rw [l64_2, if_pos (by decide)], by rw [l289_12, if_pos (by decide)], TK_r h5, h4⟩
  | succ k ih =>
    intro a f c r h1 h2 h3 h4 h5 h6 h7
    obtain ⟨f, rfl⟩ : ∃ f', f = f' + 1 := ⟨f - 1, by omega⟩
    obtain ⟨c1, r1, g1, g2, g3, g4⟩ := d_tk1 (N := N) (h := h) (b := b) (f := f) hN hth he (show a < 39 by omega) hi h3 h4 h5 h6 h7
    obtain ⟨c2, r2, k1, k2, k3, k4⟩ := ih (a + 1) f c1 r1 (by omega) (by omega) (EE_K h3 g3 he) g4 g3.2.2.2.2 (by rw [g3.2.1 157 (by decide)]; exact h6) (by rw [g3.2.1 167 (by decide)]; exact h7)
    exact ⟨c2, r2, by rw [g1]; exact k1, by rw [g2]; exact k2, TK_t g3 k3, k4⟩
theorem d_tkb (hN : 100000 ≤ N) (hth : th < 12) {u : Nat} (hu : u ≤ 4) : ∀ (k i f : Nat) (c r : xA), i + k = u → k < f → (∀ e, e < th → EE e c r) → KA th c r → NA r → r 157 17 = Int32.ofNat th → c 3 8 = Int32.ofNat (9 + 7 * th) → c 3 11 = Int32.ofNat u → r 157 19 = Int32.ofNat u → (∀ i, i < u → ∃ e, e < th ∧ c 7 i = Int32.ofNat e ∧ r 167 i = Int32.ofNat e) → ∃ c' r', l63_10 N h b f (Int32.ofNat i) c = some (0, c') ∧ l289_2 N h b f (Int32.ofNat i) r = some (0, r') ∧ TK th c r c' r' ∧ KA th c' r' := by
  intro k
  induction k with
  | zero =>
    intro i f c r h1 h2 h3 h4 h5 h6 h7 h8 h9 h10
    obtain ⟨f, rfl⟩ : ∃ f', f = f' + 1 := ⟨f - 1, by omega⟩
    have : i = u := by omega
    subst this
    exact ⟨c, r, by rw [l63_10, h8, if_pos (Int32.le_refl _)], by rw [l289_2, h9, if_pos (Int32.le_refl _)], TK_r h5, h4⟩
  | succ k ih =>
    intro i f c r h1 h2 h3 h4 h5 h6 h7 h8 h9 h10
    obtain ⟨f, rfl⟩ : ∃ f', f = f' + 1 := ⟨f - 1, by omega⟩
    obtain ⟨e, e1, e2, e3⟩ := h10 i (by omega)
    obtain ⟨p1, p2, p3, p4, p5, p6, p7, p8⟩ := pl (h := h) (b := b) hth
    obtain ⟨u1, _⟩ := pl (h := h) (b := b) (show e < 12 by omega)
    obtain ⟨c1, r1, g1, g2, g3, g4⟩ := d_tka (N := N) (h := h) (b := b) hN hth e1 (show i < 4 by omega) 39 0 N c r (by omega) (by omega) (h3 e e1) h4 h5 h6 e3
    have g1' : l64_2 N h b (9 + 7 * th) (9 + 7 * e) 6 N 0 c = some (0, c1) := g1
    have g2' : l289_12 N h b (Int32.ofNat i) N 0 r = some (0, r1) := g2
    have f157 : r1 157 = r 157 := g3.2.1 157 (by decide)
    have f167 : r1 167 = r 167 := g3.2.1 167 (by decide)
    have f3 : c1 3 = c 3 := g3.1 3 (by omega)
    have f7 : c1 7 = c 7 := g3.1 7 (by omega)
    obtain ⟨c2, r2, k1, k2, k3, k4⟩ := ih (i + 1) f c1 r1 (by omega) (by omega) (fun e' he' => EE_K (h3 e' he') g3 he') g4 g3.2.2.2.2 (by rw [f157]; exact h6) (by rw [f3]; exact h7) (by rw [f3]; exact h8) (by rw [f157]; exact h9) (by rw [f7, f167]; exact h10)
    refine ⟨c2, r2, ?_, ?_, TK_t g3 k3, k4⟩
    · rw [l63_10, h8, if_neg (by rw [i_le (by omega) (by omega)]; omega), xg_pos (g_ix (show i < 4 by omega) (by omega)), i_cl (show i < 2 ^ 31 by omega), e2, xg_pos (g_ix (show e < 12 by omega) (by omega)), i_cl (show e < 2 ^ 31 by omega), h7, xg_pos (ofn_ne (by omega)), i_cl (show 9 + 7 * th < 2 ^ 31 by omega), xg_pos p1]
      unfold f64_takeFrom
      rw [xg_pos p1, xg_pos u1, xg_pos (show xk 6 = 101 from rfl), g1', Option.bind_some, b1_some, on_s]
      exact k1
    · rw [l289_2, h9, if_neg (by rw [i_le (by omega) (by omega)]; omega), g2', Option.bind_some, on_s]
      exact k2
/-- an open entry is finished -/
theorem d_ent (hN : 100000 ≤ N) (H : DC k0 len q th c0 r0 c r) : ∃ c' r', f63_finishEntry N h b c = some c' ∧ f289_used N h b r = some r' ∧ DN k0 len q (th + 1) c0 r0 c' r' ∧ FL k0 c0 r0 c r' ∧ RV len q c r' := by
  obtain ⟨a1, a2, a3, a4, a5, a6, g1, g2, g3, g4, u, u1, u2, u3, u4⟩ := H
  have hK : KA th c r := by
    intro a ha
    obtain ⟨k1, k2, k3⟩ := g4 a ha
    refine ⟨k1, fun q => k3.mp q.1, fun q => ⟨k3.mpr q, ?_⟩⟩
    rcases k1.1 with g | g
    · exact g
    · have := k1.2.1.mp g
      rw [q] at this
      exact absurd this (by decide)
  obtain ⟨c1, r1, e1, e2, e3, e4⟩ := d_tkb (N := N) (h := h) (b := b) hN a4 u1 u 0 N c r (by omega) (by omega) a6 hK a1.2.1 g2 g1 u2 u3 u4
  have e1' : l63_10 N h b N 0 c = some (0, c1) := e1
  have e2' : l289_2 N h b N 0 r = some (0, r1) := e2
  have f3 : c1 3 = c 3 := e3.1 3 (by omega)
  have f1 : c1 1 = c 1 := e3.1 1 (by omega)
  have f157 : r1 157 = r 157 := e3.2.1 157 (by decide)
  have f158 : r1 158 = r 158 := e3.2.1 158 (by decide)
  have D1 := FD_K a1.1 e3 a3 a4
  obtain ⟨d1, d2, d3, d4, d5, d6, d7, d8, d9⟩ := D1
  obtain ⟨s1, s2, _⟩ := a1.1
  unfold f63_finishEntry f289_used
  rw [if_neg (by rw [g1]; exact ofn_ne (by omega)), e1', e2', Option.bind_some, Option.bind_some]
  have fd : ∀ i, ¬ (13 ≤ i ∧ i ≤ 20) → xU r1 157 19 0 157 i = r0 157 i := fun i hi => by rw [xU_s (by omega)]; exact d4 i hi
  refine ⟨_, _, rfl, rfl, ⟨⟨⟨?_, ?_, ?_, fd, d5, d6, d7, d8, d9⟩, e3.2.2.2.2, ?_, ?_⟩, ?_, by omega, by omega, ?_, ?_, ?_, ?_⟩, ⟨⟨s1, s2, ?_, fd, d5, d6, d7, d8, d9⟩, e3.2.2.2.2, ?_, ?_⟩, ?_⟩ <;> try dsimp only
  · intro p h1 h2 h3
    rw [xU_o h1, xU_o h1]; exact d1 p h1 h2 h3
  · intro i hi
    rw [xU_s (by omega), xU_s (by omega)]; exact d2 i hi
  · intro p h1 h2
    rw [xU_o h1]; exact d3 p h1 h2
  · rw [xU_s (by decide), xU_s (by decide), xU_s (by decide), f3, f157]; exact a1.2.2.1
  · rw [xU_s (by decide), xU_s (by decide), xU_s (by decide), f3, f157]; exact a1.2.2.2
  · exact RV_of a2 (fun i h1 h2 => by rw [xU_s (by omega), xU_s (by omega), f3]) (by rw [xU_o (by decide), xU_o (by decide), f1]) (by rw [xU_o (by decide), f158]) (by rw [xU_s (by decide), f157]) (by rw [xU_s (by decide), f157])
  · rw [xU_e, xU_s (by decide), f3, a5, on_s]
  · rw [xU_s (by decide), xU_e]
  · rw [xU_s (by decide), f157, g2, on_s]
  · intro e he
    have hE : EE e c1 r1 := by
      by_cases q : e = th
      · subst q
        exact ⟨En_K g3 e3, fun a ha => (e4 a ha).1⟩
      · exact EE_K (a6 e (by omega)) e3 (by omega)
    exact EE_of hE (fun p h1 h2 => by rw [xU_o (by omega), xU_o (by omega)]) rfl (fun _ _ _ => rfl) (fun _ _ _ => rfl) (fun _ _ _ => ⟨rfl, rfl, rfl⟩) (fun _ _ _ => rfl)
  · intro p h1 h2
    rw [xU_o h1]; exact d3 p h1 h2
  · rw [xU_s (by decide), f157]; exact a1.2.2.1
  · rw [xU_s (by decide), f157]; exact a1.2.2.2
  · exact RV_of a2 (fun i h1 h2 => rfl) rfl (by rw [xU_o (by decide), f158]) (by rw [xU_s (by decide), f157]) (by rw [xU_s (by decide), f157])
theorem e_67 (hth : th < 12) : ∀ (k j f : Nat) {a : xA}, j + k = 39 → k < f → ∃ a', l67_7 N h b (9 + 7 * th) f (Int32.ofNat j) a = some (0, a') ∧ (∀ p, p ≠ 9 + 7 * th + 3 → a' p = a p) ∧ (∀ i, a' (9 + 7 * th + 3) i = if j ≤ i ∧ i < 39 then 0 else a (9 + 7 * th + 3) i) := by
  obtain ⟨p1, p2, p3, p4, p5, p6, p7, p8⟩ := pl (h := h) (b := b) hth
  intro k
  induction k with
  | zero =>
    intro j f a h1 h2
    obtain ⟨f, rfl⟩ : ∃ f', f = f' + 1 := ⟨f - 1, by omega⟩
    have : j = 39 := by omega
    subst this
    exact ⟨a, by rw [l67_7, if_pos (by decide)], fun _ _ => rfl, fun i => by rw [if_neg (by omega)]⟩
  | succ k ih =>
    intro j f a h1 h2
    obtain ⟨f, rfl⟩ : ∃ f', f = f' + 1 := ⟨f - 1, by omega⟩
    obtain ⟨a', e1, e2, e3⟩ := ih (j + 1) f (a := xU a (9 + 7 * th + 3) j 0) (by omega) (by omega)
    refine ⟨a', ?_, fun p hp => by rw [e2 p hp, xU_o hp], fun i => ?_⟩
    · rw [l67_7, if_neg (by rw [show (39 : Int32) = Int32.ofNat 39 from rfl, i_le (by decide) (by omega)]; omega), p4, xg_pos (g_ix (by omega) (by omega)), i_cl (by omega), on_s]
      exact e1
    · rw [e3 i, xU_eq]
      grind
theorem e_66 : ∀ (k j f : Nat) {a : xA}, j + k = 39 → k < f → ∃ a', l66_27 N h b f (Int32.ofNat j) a = some (0, a') ∧ (∀ p, p ≠ 6 → a' p = a p) ∧ (∀ i, a' 6 i = if j ≤ i ∧ i < 39 then 0 else a 6 i) := by
  intro k
  induction k with
  | zero =>
    intro j f a h1 h2
    obtain ⟨f, rfl⟩ : ∃ f', f = f' + 1 := ⟨f - 1, by omega⟩
    have : j = 39 := by omega
    subst this
    exact ⟨a, by rw [l66_27, if_pos (by decide)], fun _ _ => rfl, fun i => by rw [if_neg (by omega)]⟩
  | succ k ih =>
    intro j f a h1 h2
    obtain ⟨f, rfl⟩ : ∃ f', f = f' + 1 := ⟨f - 1, by omega⟩
    obtain ⟨a', e1, e2, e3⟩ := ih (j + 1) f (a := xU a 6 j 0) (by omega) (by omega)
    refine ⟨a', ?_, fun p hp => by rw [e2 p hp, xU_o hp], fun i => ?_⟩
    · rw [l66_27, if_neg (by rw [show (39 : Int32) = Int32.ofNat 39 from rfl, i_le (by decide) (by omega)]; omega), xg_pos (g_ix (by omega) (by omega)), i_cl (by omega), on_s]
      exact e1
    · rw [e3 i, xU_eq]
      grind
theorem e_71 (hth : th < 12) : ∀ (k j f : Nat) {a : xA}, j + k = 39 → k < f → a 157 17 = Int32.ofNat th → ∃ a', l290_71 N h b f (Int32.ofNat j) a = some (0, a') ∧ (∀ p, p ≠ 163 → a' p = a p) ∧ (∀ i, a' 163 i = if 39 * th + j ≤ i ∧ i < 39 * th + 39 then 0 else a 163 i) := by
  intro k
  induction k with
  | zero =>
    intro j f a h1 h2 h3
    obtain ⟨f, rfl⟩ : ∃ f', f = f' + 1 := ⟨f - 1, by omega⟩
    have : j = 39 := by omega
    subst this
    exact ⟨a, by rw [l290_71, if_pos (by decide)], fun _ _ => rfl, fun i => by rw [if_neg (by omega)]⟩
  | succ k ih =>
    intro j f a h1 h2 h3
    obtain ⟨f, rfl⟩ : ∃ f', f = f' + 1 := ⟨f - 1, by omega⟩
    obtain ⟨a', e1, e2, e3⟩ := ih (j + 1) f (a := xU a 163 (39 * th + j) 0) (by omega) (by omega) (by rw [xU_o (by decide)]; exact h3)
    refine ⟨a', ?_, fun p hp => by rw [e2 p hp, xU_o hp], fun i => ?_⟩
    · rw [l290_71, if_neg (by rw [show (39 : Int32) = Int32.ofNat 39 from rfl, i_le (by decide) (by omega)]; omega), h3, o39, xg_pos (g_ix (by omega) (by omega)), i_cl (by omega), on_s]
      exact e1
    · rw [e3 i, xU_eq]
      grind
theorem d_beg (hN : 100000 ≤ N) (H : DN k0 len q k c0 r0 c r) (hk : k < 12) : ∃ c' r', f66_beginEntry N h b c = some c' ∧ l290_71 N h b N 0 (xU (xU (xU r 157 17 (Int32.ofNat k)) 160 k 0) 157 19 0) = some (0, r') ∧ DC k0 len q k c0 r0 c' r' ∧ c' (9 + 7 * k) 2 = 0 ∧ r' 160 k = 0 := by
  obtain ⟨⟨⟨d1, d2, d3, d4, d5, d6, d7, d8, d9⟩, n1, n2, n3⟩, a2, a3, a4, a5, a6, a7, a8⟩ := H
  obtain ⟨p1, p2, p3, p4, p5, p6, p7, p8⟩ := pl (h := h) (b := b) hk
  obtain ⟨c1, e1, e2, e3⟩ := e_67 (N := N) (h := h) (b := b) hk 39 0 N (a := xU (xU c 3 8 (Int32.ofNat (9 + 7 * k))) (9 + 7 * k) 2 0) (by omega) (by omega)
  obtain ⟨c2, s1, s2, s3⟩ := e_66 (N := N) (h := h) (b := b) 39 0 N (a := xU c1 3 11 0) (by omega) (by omega)
  obtain ⟨r1, t1, t2, t3⟩ := e_71 (N := N) (h := h) (b := b) hk 39 0 N (a := xU (xU (xU r 157 17 (Int32.ofNat k)) 160 k 0) 157 19 0) (by omega) (by omega) (by rw [xU_s (by decide), xU_o (by decide), xU_e])
  have e1' : l67_7 N h b (9 + 7 * k) N 0 (xU (xU c 3 8 (Int32.ofNat (9 + 7 * k))) (9 + 7 * k) 2 0) = some (0, c1) := e1
  have s1' : l66_27 N h b N 0 (xU c1 3 11 0) = some (0, c2) := s1
  have oc : ∀ p, p ≠ 3 → p ≠ 6 → p ≠ 9 + 7 * k → p ≠ 9 + 7 * k + 3 → c2 p = c p := fun p h1 h2 h3 h4 => by rw [s2 p h2, xU_o h1, e2 p h4, xU_o h3, xU_o h1]
  have o3 : ∀ i, i ≠ 8 → i ≠ 11 → c2 3 i = c 3 i := fun i h1 h2 => by rw [s2 3 (by decide), xU_s h2, e2 3 (by omega), xU_o (by omega), xU_s h1]
  have o8 : c2 3 8 = Int32.ofNat (9 + 7 * k) := by rw [s2 3 (by decide), xU_s (by decide), e2 3 (by omega), xU_o (by omega), xU_e]
  have o11 : c2 3 11 = 0 := by rw [s2 3 (by decide), xU_e]
  have ok2 : c2 (9 + 7 * k) 2 = 0 := by rw [s2 _ (by omega), xU_o (by omega), e2 _ (by omega), xU_e]
  have ok3 : ∀ i, i < 39 → c2 (9 + 7 * k + 3) i = 0 := fun i hi => by rw [s2 _ (by omega), xU_o (by omega), e3 i, if_pos (by omega)]
  have o6 : ∀ i, i < 39 → c2 6 i = 0 := fun i hi => by rw [s3 i, if_pos (by omega)]
  have or' : ∀ p, p ≠ 157 → p ≠ 160 → p ≠ 163 → r1 p = r p := fun p h1 h2 h3 => by rw [t2 p h3, xU_o h1, xU_o h2, xU_o h1]
  have or157 : ∀ i, i ≠ 17 → i ≠ 19 → r1 157 i = r 157 i := fun i h1 h2 => by rw [t2 157 (by decide), xU_s h2, xU_o (by decide), xU_s h1]
  have o17 : r1 157 17 = Int32.ofNat k := by rw [t2 157 (by decide), xU_s (by decide), xU_o (by decide), xU_e]
  have o19 : r1 157 19 = 0 := by rw [t2 157 (by decide), xU_e]
  have o160 : ∀ i, i ≠ k → r1 160 i = r 160 i := fun i hi => by rw [t2 160 (by decide), xU_o (by decide), xU_s hi, xU_o (by decide)]
  have o160k : r1 160 k = 0 := by rw [t2 160 (by decide), xU_o (by decide), xU_e]
  have o163 : ∀ i, ¬ (39 * k ≤ i ∧ i < 39 * k + 39) → r1 163 i = r 163 i := fun i hi => by rw [t3 i, if_neg (by omega), xU_o (by decide), xU_o (by decide), xU_o (by decide)]
  have o163k : ∀ a, a < 39 → r1 163 (39 * k + a) = 0 := fun a ha => by rw [t3, if_pos (by omega)]
  refine ⟨c2, r1, ?_, t1, ⟨⟨⟨?_, ?_, ?_, ?_, ?_, ?_, ?_, ?_, ?_⟩, ?_, ?_, ?_⟩, ?_, a3, hk, ?_, ?_, ⟨o8, o17, ?_, fun a ha => ?_, 0, by omega, o11, o19, fun i hi => absurd hi (by omega)⟩⟩, ok2, o160k⟩
  · unfold f66_beginEntry f67_begin
    rw [a5, xg_pos (g_ix hk (by omega)), i_cl (show k < 2 ^ 31 by omega)]
    dsimp only [xw]
    rw [xU_e, xg_pos (ofn_ne (by omega)), i_cl (show 9 + 7 * k < 2 ^ 31 by omega), xg_pos p1, xg_pos p1, e1', Option.bind_some, b1_some]
    dsimp only
    rw [s1', Option.bind_some]
  · intro p h1 h2 h3
    rw [oc p h1 (by omega) (by omega) (by omega)]; exact d1 p h1 h2 h3
  · intro i hi
    rw [o3 i (by omega) (by omega)]; exact d2 i hi
  · intro p h1 h2
    rw [or' p h1 (by omega) (by omega)]; exact d3 p h1 h2
  · intro i hi
    rw [or157 i (by omega) (by omega)]; exact d4 i hi
  · intro e he
    rw [o160 e (by omega)]; exact d5 e he
  · intro i hi
    rw [or' 161 (by decide) (by decide) (by decide)]; exact d6 i hi
  · intro i hi
    rw [or' 162 (by decide) (by decide) (by decide)]; exact d7 i hi
  · intro i hi
    rw [o163 i (by omega), or' 164 (by decide) (by decide) (by decide), or' 166 (by decide) (by decide) (by decide)]; exact d8 i hi
  · intro i hi
    rw [or' 165 (by decide) (by decide) (by decide)]; exact d9 i hi
  · exact NA_of n1 (or' 165 (by decide) (by decide) (by decide)) (or' 166 (by decide) (by decide) (by decide))
  · rw [o3 2 (by decide) (by decide), or157 13 (by decide) (by decide)]; exact n2
  · rw [o3 3 (by decide) (by decide), or157 14 (by decide) (by decide)]; exact n3
  · exact RV_of a2 (fun i h1 h2 => o3 i (by omega) (by omega)) (oc 1 (by decide) (by decide) (by omega) (by omega)) (or' 158 (by decide) (by decide) (by decide)) (or157 16 (by decide) (by decide)) (or157 15 (by decide) (by decide))
  · rw [o3 7 (by decide) (by decide)]; exact a5
  · intro e he
    exact EE_of (a8 e he) (fun p h1 h2 => oc p (by omega) (by omega) (by omega) (by omega)) (o160 e (by omega)) (fun i _ _ => by rw [or' 161 (by decide) (by decide) (by decide)]) (fun i _ _ => by rw [or' 162 (by decide) (by decide) (by decide)]) (fun i h1 h2 => ⟨o163 i (by omega), by rw [or' 164 (by decide) (by decide) (by decide)], by rw [or' 166 (by decide) (by decide) (by decide)]⟩) (fun i _ _ => by rw [or' 165 (by decide) (by decide) (by decide)])
  · exact ⟨0, by omega, ok2, o160k, fun j hj => absurd hj (by omega)⟩
  · refine ⟨⟨Or.inl (ok3 a ha), ?_, ?_⟩, Or.inl (o6 a ha), ?_⟩
    · rw [ok3 a ha, o163k a ha]
    · rw [ok3 a ha]; intro g; exact absurd g (by decide)
    · rw [o6 a ha, o163k a ha]
end T
