/-! use: the painter begins. -/
/-- the painter of an entry, begun anew -/
def BG (e Ln Co : Nat) (c c' : xA) : Prop := (∀ p, ¬ (93 ≤ p ∧ p ≤ 101) → p ≠ 106 → ¬ (108 ≤ p ∧ p ≤ 113) → c' p = c p) ∧ (∀ i, i ≠ 1 → i ≠ 4 → c' 93 i = c 93 i) ∧ c' 97 6 = Int32.ofNat (9 + 7 * e) ∧ c' 97 7 = Int32.ofNat 93 ∧ c' 97 8 = Int32.ofNat Ln ∧ c' 97 9 = Int32.ofNat Co ∧ c' 97 12 = 0 ∧ c' 97 13 = 1 ∧ c' 97 14 = 0 ∧ c' 98 4 = Int32.ofNat Ln ∧ c' 98 5 = Int32.ofNat Co ∧ c' 98 6 = 0 ∧ c' 98 7 = 0 ∧ c' 100 4 = Int32.ofNat Ln ∧ c' 100 5 = Int32.ofNat Co ∧ c' 100 8 = 0 ∧ (∀ i, i < Ln * Co → c' 99 i = 32 ∧ c' 101 i = 32)
section T
variable {N h b : Nat} {c0 r0 c r c' r' c'' r'' : xA} {x y z s v w w1 w2 : Int32} {len p i f k m q l a e K n row d th k0 A B t Ln Co V H o : Nat}
theorem bgn_o {tt ll : Int32} {a : xA} (h1 : p ≠ o) (h2 : p ≠ o + 1) : bgn a o tt ll H B p = a p := by
  unfold bgn
  rw [xW_o h2, xU_o h1, xU_o h1, xU_o h1, xU_o h1, xU_o h1, xU_o h1, xU_o h1, xU_o h1, xU_o h1]
theorem bgn_v {tt ll : Int32} {a : xA} : bgn a o tt ll H B o 4 = Int32.ofNat H ∧ bgn a o tt ll H B o 5 = Int32.ofNat B ∧ bgn a o tt ll H B o 6 = 0 ∧ bgn a o tt ll H B o 7 = 0 ∧ bgn a o tt ll H B o 8 = 0 ∧ (∀ i, i < H * B → bgn a o tt ll H B (o + 1) i = 32) := by
  unfold bgn
  refine ⟨?_, ?_, ?_, ?_, ?_, fun i hi => ?_⟩
  · rw [xW_o (by omega), xU_s (by decide), xU_s (by decide), xU_s (by decide), xU_s (by decide), xU_s (by decide), xU_e]
  · rw [xW_o (by omega), xU_s (by decide), xU_s (by decide), xU_s (by decide), xU_s (by decide), xU_e]
  · rw [xW_o (by omega), xU_s (by decide), xU_s (by decide), xU_s (by decide), xU_e]
  · rw [xW_o (by omega), xU_s (by decide), xU_s (by decide), xU_e]
  · rw [xW_o (by omega), xU_s (by decide), xU_e]
  · rw [xW_e]
    unfold am_fll
    rw [if_pos (by omega)]
theorem e_nmb (he : e < 12) (ha : a < 6) : f77_number N h b (9 + 7 * e) (Int32.ofNat a) c = some (c (9 + 7 * e + 4) a, c) := by
  obtain ⟨p1, p2, p3, p4, p5, p6, p7, p8⟩ := pl (h := h) (b := b) he
  unfold f77_number
  rw [xg_pos p1, p5, xg_pos (g_ix ha (by omega)), i_cl (by omega)]
theorem d_ofr (hN : 100000 ≤ N) (he : e < 12) (hE : ∀ a, a < 39 → Ea e a c r) (h6 : c 97 6 = Int32.ofNat (9 + 7 * e)) (h10 : c 97 10 = 0) : ∃ c', l76_141 N h b N 0 c = some (0, c') ∧ (∀ p, p ≠ 97 → c' p = c p) ∧ (∀ i, i ≠ 10 → c' 97 i = c 97 i) ∧ c' 97 10 = ob e 3 c (ob e 2 c (ob e 1 c (ob e 0 c 0))) := by
  obtain ⟨p1, p2, p3, p4, p5, p6, p7, p8⟩ := pl (h := h) (b := b) he
  have st : ∀ (n j : Nat) (a : xA), j < 4 → (∀ p, p ≠ 97 → a p = c p) → (∀ i, i ≠ 10 → a 97 i = c 97 i) → l76_141 N h b (n + 1) (Int32.ofNat j) a = l76_141 N h b n (Int32.ofNat (j + 1)) (xU a 97 10 (ob e j c (a 97 10))) := by
    intro n j a hj h1 h2
    have ea : ∀ k, k < 39 → Ea e k a r := fun k hk => Ea_of (hE k hk) (by rw [h1 _ (by omega)]) (by rw [h1 _ (by omega)]) rfl rfl (fun _ hS => Es_of hS (by rw [h1 _ (by omega)]) (fun i _ _ => by rw [h1 _ (by omega)]) rfl (fun _ _ _ => rfl))
    have e26 : (26 : Int32) + Int32.ofNat j = Int32.ofNat (26 + j) := by rw [Int32.ofNat_add]; rfl
    have i6 : a 97 6 = Int32.ofNat (9 + 7 * e) := by rw [h2 6 (by decide)]; exact h6
    have idn : xU a 97 10 (a 97 10) = a := by
      funext p i
      rw [xU_eq]
      split
      · next g => rw [g.1, g.2]
      · rfl
    rw [l76_141, if_neg (by rw [show (4 : Int32) = Int32.ofNat 4 from rfl, i_le (by decide) (by omega)]; omega), i6, xg_pos (ofn_ne (by omega)), i_cl (show 9 + 7 * e < 2 ^ 31 by omega), xg_pos p1, e26, e_hs he (show 26 + j < 39 by omega) (ea _ (by omega)), b2_some, h1 (9 + 7 * e + 3) (by omega)]
    unfold j76_184 ob
    rw [on_s]
    by_cases z1 : c (9 + 7 * e + 3) (26 + j) = 0
    · rw [if_pos z1, if_pos (Or.inr z1), idn]
    · rw [if_neg z1, i6, xg_pos (ofn_ne (by omega)), i_cl (show 9 + 7 * e < 2 ^ 31 by omega), xg_pos p1]
      have h25 : f74_has N h b (9 + 7 * e) 25 a = some (c (9 + 7 * e + 3) 25, a) := by
        have := e_hs (N := N) (h := h) (b := b) he (show 25 < 39 by decide) (ea 25 (by decide))
        rw [h1 (9 + 7 * e + 3) (by omega)] at this
        exact this
      rw [h25, b2_some]
      by_cases z2 : c (9 + 7 * e + 3) 25 = 0
      · rw [if_pos z2, if_pos (Or.inl z2), idn]
      · rw [if_neg z2, if_neg (fun g => g.elim z2 z1)]
        rfl
  obtain ⟨M, hM⟩ : ∃ n', N = n' + 5 := ⟨N - 5, by omega⟩
  have s0 := st (M + 4) 0 c (by decide) (fun _ _ => rfl) (fun _ _ => rfl)
  rw [h10] at s0
  have s1 := st (M + 3) 1 (xU c 97 10 (ob e 0 c 0)) (by decide) (fun p hp => xU_o hp) (fun i hi => xU_s hi)
  rw [xU_e] at s1
  have s2 := st (M + 2) 2 (xU (xU c 97 10 (ob e 0 c 0)) 97 10 (ob e 1 c (ob e 0 c 0))) (by decide) (fun p hp => by rw [xU_o hp, xU_o hp]) (fun i hi => by rw [xU_s hi, xU_s hi])
  rw [xU_e] at s2
  have s3 := st (M + 1) 3 (xU (xU (xU c 97 10 (ob e 0 c 0)) 97 10 (ob e 1 c (ob e 0 c 0))) 97 10 (ob e 2 c (ob e 1 c (ob e 0 c 0)))) (by decide) (fun p hp => by rw [xU_o hp, xU_o hp, xU_o hp]) (fun i hi => by rw [xU_s hi, xU_s hi, xU_s hi])
  rw [xU_e] at s3
  refine ⟨xU (xU (xU (xU c 97 10 (ob e 0 c 0)) 97 10 (ob e 1 c (ob e 0 c 0))) 97 10 (ob e 2 c (ob e 1 c (ob e 0 c 0)))) 97 10 (ob e 3 c (ob e 2 c (ob e 1 c (ob e 0 c 0)))), ?_, fun p hp => by rw [xU_o hp, xU_o hp, xU_o hp, xU_o hp], fun i hi => by rw [xU_s hi, xU_s hi, xU_s hi, xU_s hi], xU_e⟩
  have e0 : l76_141 N h b N 0 c = l76_141 N h b (M + 4 + 1) (Int32.ofNat 0) c := by rw [show M + 4 + 1 = N by omega]; rfl
  rw [e0, s0, s1, s2, s3, l76_141, if_pos (by decide)]
theorem d_tail (hN : 100000 ≤ N) (he : e < 12) (hE : ∀ a, a < 39 → Ea e a c r) (ht : r 157 21 = Int32.ofNat e) (hq : MQb r) (h6 : c 97 6 = Int32.ofNat (9 + 7 * e)) (h7 : c 97 7 = Int32.ofNat 93) (hx : x = (if c (9 + 7 * e + 3) 21 = 0 ∨ c (9 + 7 * e + 3) 5 = 0 then 0 else c (9 + 7 * e + 4) 5)) : ∃ c', j76_131 N h b x c = some c' ∧ (∀ p, ¬ (93 ≤ p ∧ p ≤ 97) → p ≠ 106 → ¬ (108 ≤ p ∧ p ≤ 113) → c' p = c p) ∧ (∀ i, i ≠ 1 → i ≠ 4 → c' 93 i = c 93 i) ∧ (∀ i, i ≠ 10 → i ≠ 11 → c' 97 i = c 97 i) ∧ TB N h b e c' := by
  have o : ∀ p, p ≠ 97 → xU (xU c 97 11 x) 97 10 0 p = c p := fun p hp => by rw [xU_o hp, xU_o hp]
  have o7 : ∀ i, i ≠ 10 → i ≠ 11 → xU (xU c 97 11 x) 97 10 0 97 i = c 97 i := fun i h1 h2 => by rw [xU_s h1, xU_s h2]
  have ea : ∀ {c1 : xA}, (∀ p, p ≠ 97 → c1 p = c p) → ∀ k, k < 39 → Ea e k c1 r := fun h1 k hk => Ea_of (hE k hk) (by rw [h1 _ (by omega)]) (by rw [h1 _ (by omega)]) rfl rfl (fun _ hS => Es_of hS (by rw [h1 _ (by omega)]) (fun i _ _ => by rw [h1 _ (by omega)]) rfl (fun _ _ _ => rfl))
  obtain ⟨c1, k1, k2, k3, k4⟩ := d_ofr (N := N) (h := h) (b := b) hN he (ea o) (by rw [o7 6 (by decide) (by decide)]; exact h6) xU_e
  have o1 : ∀ p, p ≠ 97 → c1 p = c p := fun p hp => by rw [k2 p hp, o p hp]
  obtain ⟨c2, g1, g2, g3, g4⟩ := d_meas (N := N) (h := h) (b := b) hN he (ea o1) ht hq (by rw [k3 6 (by decide), o7 6 (by decide) (by decide)]; exact h6) (by rw [k3 7 (by decide), o7 7 (by decide) (by decide)]; exact h7)
  unfold j76_131
  dsimp only [xw]
  rw [k1, Option.bind_some, g1, b1_some]
  have e97 : c2 97 = c1 97 := g2.1 97 (by decide) (by decide) (by decide)
  have e3 : c2 (9 + 7 * e + 3) = c (9 + 7 * e + 3) := by rw [g2.1 _ (by omega) (by omega) (by omega), o1 _ (by omega)]
  have e4 : c2 (9 + 7 * e + 4) = c (9 + 7 * e + 4) := by rw [g2.1 _ (by omega) (by omega) (by omega), o1 _ (by omega)]
  have e3' : (xU (xU c 97 11 x) 97 10 0) (9 + 7 * e + 3) = c2 (9 + 7 * e + 3) := by rw [o _ (by omega), e3]
  refine ⟨c2, rfl, fun p h1 h2 h3 => by rw [g2.1 p (by omega) h2 h3, o1 p (by omega)], fun i h1 h2 => by rw [g2.2 i h1 h2, o1 93 (by decide)], fun i h1 h2 => by rw [e97, k3 i h1, o7 i h1 h2], g3, g4, ?_, ?_⟩
  · rw [e97, k4, ob_of e3', ob_of e3', ob_of e3', ob_of e3']
  · rw [e97, k3 11 (by decide), xU_s (by decide), xU_e, e3, e4]
    exact hx
theorem d_begin (hN : 100000 ≤ N) (he : e < 12) (hE : ∀ a, a < 39 → Ea e a c r) (ht : r 157 21 = Int32.ofNat e) (hq : MQb r) (hLn : c (9 + 7 * e + 4) 4 = Int32.ofNat Ln) (l1 : 2 ≤ Ln) (l2 : Ln ≤ 24) (hCo : c (9 + 7 * e + 4) 3 = Int32.ofNat Co) (l3 : 4 ≤ Co) (l4 : Co ≤ 80) : ∃ c', f76_begin N h b (9 + 7 * e) c = some c' ∧ BG e Ln Co c c' ∧ TB N h b e c' := by
  obtain ⟨p1, p2, p3, p4, p5, p6, p7, p8⟩ := pl (h := h) (b := b) he
  have n4 : ∀ a : xA, a (9 + 7 * e + 4) = c (9 + 7 * e + 4) → f77_number N h b (9 + 7 * e) 4 a = some (Int32.ofNat Ln, a) := fun a ha => by
    have := e_nmb (N := N) (h := h) (b := b) (c := a) he (show 4 < 6 by decide)
    rw [ha, hLn] at this
    exact this
  have n3 : ∀ a : xA, a (9 + 7 * e + 4) = c (9 + 7 * e + 4) → f77_number N h b (9 + 7 * e) 3 a = some (Int32.ofNat Co, a) := fun a ha => by
    have := e_nmb (N := N) (h := h) (b := b) (c := a) he (show 3 < 6 by decide)
    rw [ha, hCo] at this
    exact this
  have nr1 : ∀ a : xA, f10_nearest N h b (Int32.ofNat Ln) 1 24 a = some (Int32.ofNat Ln, a) := fun a => e_near (lo := 1) (hi := 24) (by omega) l2 (by decide)
  have nr2 : ∀ a : xA, f10_nearest N h b (Int32.ofNat Co) 1 80 a = some (Int32.ofNat Co, a) := fun a => e_near (lo := 1) (hi := 80) (by omega) l4 (by decide)
  have i6 : ∀ a : xA, a 97 6 = Int32.ofNat (9 + 7 * e) → (¬ (a 97 6) = -1) ∧ (a 97 6).toNatClampNeg = 9 + 7 * e := fun a ha => ⟨by rw [ha]; exact ofn_ne (by omega), by rw [ha, i_cl (by omega)]⟩
  unfold f76_begin
  rw [xg_pos p1]
  dsimp only [xw]
  generalize hA : xU (xU c 97 6 (Int32.ofNat (9 + 7 * e))) 97 7 (Int32.ofNat 93) = A
  have oA : ∀ p, p ≠ 97 → A p = c p := fun p hp => by rw [← hA, xU_o hp, xU_o hp]
  have a6 : A 97 6 = Int32.ofNat (9 + 7 * e) := by rw [← hA, xU_s (by decide), xU_e]
  have a7 : A 97 7 = Int32.ofNat 93 := by rw [← hA, xU_e]
  rw [a6, xg_pos (ofn_ne (by omega)), i_cl (show 9 + 7 * e < 2 ^ 31 by omega), xg_pos p1, n4 A (oA _ (by omega)), b2_some, nr1, b2_some]
  have b6 : xU A 97 8 (Int32.ofNat Ln) 97 6 = Int32.ofNat (9 + 7 * e) := by rw [xU_s (by decide)]; exact a6
  rw [b6, xg_pos (ofn_ne (by omega)), i_cl (show 9 + 7 * e < 2 ^ 31 by omega), xg_pos p1, n3 _ (by rw [xU_o (by omega), oA _ (by omega)]), b2_some, nr2, b2_some]
  generalize hB : xU (xU A 97 8 (Int32.ofNat Ln)) 97 9 (Int32.ofNat Co) = B
  have oB : ∀ p, p ≠ 97 → B p = c p := fun p hp => by rw [← hB, xU_o hp, xU_o hp, oA p hp]
  have B6 : B 97 6 = Int32.ofNat (9 + 7 * e) := by rw [← hB, xU_s (by decide), xU_s (by decide)]; exact a6
  have B7 : B 97 7 = Int32.ofNat 93 := by rw [← hB, xU_s (by decide), xU_s (by decide)]; exact a7
  have B8 : B 97 8 = Int32.ofNat Ln := by rw [← hB, xU_s (by decide), xU_e]
  have B9 : B 97 9 = Int32.ofNat Co := by rw [← hB, xU_e]
  rw [B8, B9, e_begin (o := 98) rfl rfl rfl (by omega) l2 (by omega) l4, b1_some, bgn_o (show (97 : Nat) ≠ 98 by decide) (show (97 : Nat) ≠ 98 + 1 by decide), B8, B9, e_begin (o := 100) rfl rfl rfl (by omega) l2 (by omega) l4, b1_some]
  generalize hD : xU (xU (xU (bgn (bgn B 98 0 0 Ln Co) 100 0 0 Ln Co) 97 12 0) 97 13 1) 97 14 0 = D
  have oD : ∀ p, ¬ (97 ≤ p ∧ p ≤ 101) → D p = c p := fun p hp => by rw [← hD, xU_o (by omega), xU_o (by omega), xU_o (by omega), bgn_o (by omega) (by omega), bgn_o (by omega) (by omega), oB p (by omega)]
  have D97 : ∀ i, i ≠ 12 → i ≠ 13 → i ≠ 14 → D 97 i = B 97 i := fun i h1 h2 h3 => by rw [← hD, xU_s h3, xU_s h2, xU_s h1, bgn_o (by decide) (by decide), bgn_o (by decide) (by decide)]
  have D6 : D 97 6 = Int32.ofNat (9 + 7 * e) := by rw [D97 6 (by decide) (by decide) (by decide)]; exact B6
  have D7 : D 97 7 = Int32.ofNat 93 := by rw [D97 7 (by decide) (by decide) (by decide)]; exact B7
  have D98 : ∀ p, p = 98 ∨ p = 99 → D p = bgn B 98 0 0 Ln Co p := fun p hp => by rw [← hD, xU_o (by omega), xU_o (by omega), xU_o (by omega), bgn_o (by omega) (by omega)]
  have D100 : ∀ p, p = 100 ∨ p = 101 → D p = bgn (bgn B 98 0 0 Ln Co) 100 0 0 Ln Co p := fun p hp => by rw [← hD, xU_o (by omega), xU_o (by omega), xU_o (by omega)]
  have eaD : ∀ k, k < 39 → Ea e k D r := fun k hk => Ea_of (hE k hk) (by rw [oD _ (by omega)]) (by rw [oD _ (by omega)]) rfl rfl (fun _ hS => Es_of hS (by rw [oD _ (by omega)]) (fun i _ _ => by rw [oD _ (by omega)]) rfl (fun _ _ _ => rfl))
  obtain ⟨v1, v2, v3, v4, v5, v6⟩ := bgn_v (o := 98) (H := Ln) (B := Co) (tt := 0) (ll := 0) (a := B)
  obtain ⟨w1, w2, w3, w4, w5, w6⟩ := bgn_v (o := 100) (H := Ln) (B := Co) (tt := 0) (ll := 0) (a := bgn B 98 0 0 Ln Co)
  have fin : ∀ x : Int32, x = (if D (9 + 7 * e + 3) 21 = 0 ∨ D (9 + 7 * e + 3) 5 = 0 then 0 else D (9 + 7 * e + 4) 5) → ∃ c', j76_131 N h b x D = some c' ∧ BG e Ln Co c c' ∧ TB N h b e c' := by
    intro x hx
    obtain ⟨c1, k1, k2, k3, k4, k5⟩ := d_tail (N := N) (h := h) (b := b) hN he eaD ht hq D6 D7 hx
    have q : ∀ p, 98 ≤ p → p ≤ 101 → c1 p = D p := fun p h1 h2 => k2 p (by omega) (by omega) (by omega)
    refine ⟨c1, k1, ⟨fun p h1 h2 h3 => by rw [k2 p (by omega) h2 h3, oD p (by omega)], fun i h1 h2 => by rw [k3 i h1 h2, oD 93 (by decide)], by rw [k4 6 (by decide) (by decide)]; exact D6, by rw [k4 7 (by decide) (by decide)]; exact D7, by rw [k4 8 (by decide) (by decide), D97 8 (by decide) (by decide) (by decide)]; exact B8, by rw [k4 9 (by decide) (by decide), D97 9 (by decide) (by decide) (by decide)]; exact B9, by rw [k4 12 (by decide) (by decide), ← hD, xU_s (by decide), xU_s (by decide), xU_e], by rw [k4 13 (by decide) (by decide), ← hD, xU_s (by decide), xU_e], by rw [k4 14 (by decide) (by decide), ← hD, xU_e], by rw [q 98 (by decide) (by decide), D98 98 (Or.inl rfl)]; exact v1, by rw [q 98 (by decide) (by decide), D98 98 (Or.inl rfl)]; exact v2, by rw [q 98 (by decide) (by decide), D98 98 (Or.inl rfl)]; exact v3, by rw [q 98 (by decide) (by decide), D98 98 (Or.inl rfl)]; exact v4, by rw [q 100 (by decide) (by decide), D100 100 (Or.inl rfl)]; exact w1, by rw [q 100 (by decide) (by decide), D100 100 (Or.inl rfl)]; exact w2, by rw [q 100 (by decide) (by decide), D100 100 (Or.inl rfl)]; exact w5, fun i hi => ⟨by rw [q 99 (by decide) (by decide), D98 99 (Or.inr rfl)]; exact v6 i hi, by rw [q 101 (by decide) (by decide), D100 101 (Or.inr rfl)]; exact w6 i hi⟩⟩, k5⟩
  have h21 : f74_has N h b (9 + 7 * e) 21 D = some (D (9 + 7 * e + 3) 21, D) := e_hs he (show 21 < 39 by decide) (eaD 21 (by decide))
  have h5 : f74_has N h b (9 + 7 * e) 5 D = some (D (9 + 7 * e + 3) 5, D) := e_hs he (show 5 < 39 by decide) (eaD 5 (by decide))
  have n5 : f77_number N h b (9 + 7 * e) 5 D = some (D (9 + 7 * e + 4) 5, D) := e_nmb he (show 5 < 6 by decide)
  rw [D6, xg_pos (ofn_ne (by omega)), i_cl (show 9 + 7 * e < 2 ^ 31 by omega), xg_pos p1, h21, b2_some]
  unfold j76_130
  by_cases z1 : D (9 + 7 * e + 3) 21 = 0
  · rw [if_pos z1]
    exact fin 0 (by rw [if_pos (Or.inl z1)])
  · rw [if_neg z1, D6, xg_pos (ofn_ne (by omega)), i_cl (show 9 + 7 * e < 2 ^ 31 by omega), xg_pos p1, h5, b2_some]
    by_cases z2 : D (9 + 7 * e + 3) 5 = 0
    · rw [if_pos z2]
      exact fin 0 (by rw [if_pos (Or.inr z2)])
    · rw [if_neg z2, D6, xg_pos (ofn_ne (by omega)), i_cl (show 9 + 7 * e < 2 ^ 31 by omega), xg_pos p1, n5, b2_some]
      exact fin _ (by rw [if_neg (fun g => g.elim z1 z2)])
end T
