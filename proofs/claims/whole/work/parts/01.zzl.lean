/-! The reader: describe. -/
section T
variable {N h b : Nat} {c0 r0 c r c' r' c'' r'' : xA} {x y z s v w w1 w2 : Int32} {len p i f k m q l a e K n row d th k0 A B t : Nat}
theorem EE_D (H : EE e c r) (hD : FD K c r0 c' r') (he : e < K) (h1 : ∀ p, p ≠ 157 → r0 p = r p) : EE e c' r' := by
  obtain ⟨a1, a2, a3, a4, a5, a6, a7, a8, a9⟩ := hD
  exact EE_of H (fun p g1 g2 => a1 p (by omega) (by omega) (by omega)) (by rw [a5 e he, h1 160 (by decide)]) (fun i g1 g2 => by rw [a6 i (by omega), h1 161 (by decide)]) (fun i g1 g2 => by rw [a7 i (by omega), h1 162 (by decide)]) (fun i g1 g2 => by
    have := a8 i (by omega)
    rw [h1 163 (by decide), h1 164 (by decide), h1 166 (by decide)] at this
    exact this) (fun i g1 g2 => by rw [a9 i (by omega), h1 165 (by decide)])
theorem RR_D {k1 : Nat} (hR : RR K c r) (hL : FL K c (xU (xU r 157 0 0) 157 2 0) c' r') (hk : K ≤ k1) (hk1 : k1 ≤ 12) (hE : ∀ e, e < k1 → EE e c' r') (hc : ∀ p, p ≠ 0 → p ≠ 3 → c'' p = c' p) (hc0 : ∀ i, i ≠ 1 → c'' 0 i = c' 0 i) (hc3 : ∀ i, i ≠ 1 → c'' 3 i = c' 3 i) (hr : ∀ p, p ≠ 157 → r'' p = r' p) (hr7 : ∀ i, i ≠ 5 → r'' 157 i = r' 157 i) (h31 : c'' 3 1 = Int32.ofNat k1) (h5 : r'' 157 5 = Int32.ofNat k1) (ht : Rt c r) (h01 : c'' 0 1 = 0) : RR k1 c'' r'' ∧ Rt c'' r'' ∧ DF K c r c'' r'' := by
  obtain ⟨⟨a1, a2, a3, a4, a5, a6, a7, a8, a9⟩, n1, n2, n3⟩ := hL
  have e158 : r'' 158 = r 158 := by rw [hr 158 (by decide), a3 158 (by decide) (by decide), xU_o (by decide), xU_o (by decide)]
  have e1 : c'' 1 = c 1 := by rw [hc 1 (by decide) (by decide), a1 1 (by decide) (by decide) (by omega)]
  have e2 : r'' 157 2 = 0 := by rw [hr7 2 (by decide), a4 2 (by decide), xU_e]
  refine ⟨⟨hk1, h31, h5, fun e he => EE_of (hE e he) (fun p g1 g2 => hc p (by omega) (by omega)) (by rw [hr 160 (by decide)]) (fun i _ _ => by rw [hr 161 (by decide)]) (fun i _ _ => by rw [hr 162 (by decide)]) (fun i _ _ => by rw [hr 163 (by decide), hr 164 (by decide), hr 166 (by decide)]; exact ⟨rfl, rfl, rfl⟩) (fun i _ _ => by rw [hr 165 (by decide)]), by rw [hc3 2 (by decide), hr7 13 (by decide)]; exact n2, by rw [hc3 3 (by decide), hr7 14 (by decide)]; exact n3, NA_of n1 (hr 165 (by decide)) (hr 166 (by decide)), fun e he g => ?_⟩, Rt_0 ht h01 e2 e1 e158, fun p g1 g2 g3 g4 => by rw [hc p g1 g2, a1 p g2 g3 g4], fun i hi => by rw [hc0 i hi, a1 0 (by decide) (by decide) (by omega)], fun p g1 g2 => by rw [hr p g1, a3 p g1 g2, xU_o g1, xU_o g1], fun i g1 g2 g3 g4 => by rw [hr7 i g3, a4 i g4, xU_s g2, xU_s g1]⟩
  rw [hc0 14 (by decide), a1 0 (by decide) (by decide) (by omega)] at g
  have := hR.2.2.2.2.2.2.2 e he g
  omega
theorem t_describe (hN : 100000 ≤ N) (ht : Rt c r) (hR : RR K c r) : Q2 (f22_describe N h b c) (f264_describe N h b r) (fun p q => p.1 = q.1 ∧ ∃ k1, K ≤ k1 ∧ RR k1 p.2 q.2 ∧ Rt p.2 q.2 ∧ DF K c r p.2 q.2) := by
  obtain ⟨t1, t2, t3, t4⟩ := id ht
  obtain ⟨len, hl, el, _⟩ := i_nat t2
  have l3 : len ≤ 3000 := by rw [el, show (3000 : Int32) = Int32.ofNat 3000 from rfl, i_le hl (by decide)] at t3; exact t3
  obtain ⟨r1, r2, r3, r4, r5, r6, r7, r8⟩ := id hR
  unfold f22_describe f23_readText f264_describe
  rw [el]
  dsimp only [xw]
  rw [xg_pos (show xk 1 = 100 from rfl)]
  have q2 : xU r 157 0 0 157 2 = Int32.ofNat len := by rw [xU_s (by decide), ← t1]; exact el
  rw [q2]
  generalize hC : xU (xU (xU (xU (xU (xU (xU c 3 4 (Int32.ofNat 1)) 3 5 (Int32.ofNat len)) 3 6 0) 3 7 (xU (xU (xU c 3 4 (Int32.ofNat 1)) 3 5 (Int32.ofNat len)) 3 6 0 3 1)) 3 8 (-1)) 3 2 0) 3 3 (-1) = C
  generalize hG : xU (xU (xU (xU (xU (xU (xU r 157 0 0) 157 16 (Int32.ofNat len)) 157 2 0) 157 15 0) 157 13 0) 157 14 (-1)) 157 17 (xU (xU (xU (xU (xU (xU r 157 0 0) 157 16 (Int32.ofNat len)) 157 2 0) 157 15 0) 157 13 0) 157 14 (-1) 157 5 - 1) = G
  have co : ∀ p, p ≠ 3 → C p = c p := fun p hp => by rw [← hC, xU_o hp, xU_o hp, xU_o hp, xU_o hp, xU_o hp, xU_o hp, xU_o hp]
  have c3 : ∀ i, ¬ (2 ≤ i ∧ i ≤ 8) → C 3 i = c 3 i := fun i hi => by rw [← hC, xU_s (by omega), xU_s (by omega), xU_s (by omega), xU_s (by omega), xU_s (by omega), xU_s (by omega), xU_s (by omega)]
  have go : ∀ p, p ≠ 157 → G p = r p := fun p hp => by rw [← hG, xU_o hp, xU_o hp, xU_o hp, xU_o hp, xU_o hp, xU_o hp, xU_o hp]
  have g7 : ∀ i, i ≠ 0 → i ≠ 2 → ¬ (13 ≤ i ∧ i ≤ 17) → G 157 i = r 157 i := fun i h1 h2 hi => by rw [← hG, xU_s (by omega), xU_s (by omega), xU_s (by omega), xU_s (by omega), xU_s h2, xU_s (by omega), xU_s h1]
  have e37 : C 3 7 = Int32.ofNat K := by
    rw [← hC, xU_s (by decide), xU_s (by decide), xU_s (by decide), xU_e, xU_s (by decide), xU_s (by decide), xU_s (by decide)]; exact r2
  have e17 : G 157 17 + 1 = Int32.ofNat K := by
    rw [← hG, xU_e, xU_s (by decide), xU_s (by decide), xU_s (by decide), xU_s (by decide), xU_s (by decide), xU_s (by decide), r3]
    grind
  have e5 : G 157 5 = Int32.ofNat K := by rw [g7 5 (by decide) (by decide) (by decide)]; exact r3
  have D0 : DN K len 0 K c (xU (xU r 157 0 0) 157 2 0) C G := by
    refine ⟨⟨⟨fun p h1 _ _ => co p h1, fun i h1 => c3 i (by omega), fun p h1 _ => by rw [go p h1, xU_o h1, xU_o h1], fun i hi => ?_, fun e _ => by rw [go 160 (by decide), xU_o (by decide), xU_o (by decide)], fun e _ => by rw [go 161 (by decide), xU_o (by decide), xU_o (by decide)], fun e _ => by rw [go 162 (by decide), xU_o (by decide), xU_o (by decide)], fun i _ => ⟨by rw [go 163 (by decide), xU_o (by decide), xU_o (by decide)], by rw [go 164 (by decide), xU_o (by decide), xU_o (by decide)], by rw [go 166 (by decide), xU_o (by decide), xU_o (by decide)]⟩, fun i _ => by rw [go 165 (by decide), xU_o (by decide), xU_o (by decide)]⟩, NA_of r7 (go 165 (by decide)) (go 166 (by decide)), ?_, ?_⟩, ⟨l3, by omega, ?_, ?_, ?_, ?_, ?_, ?_⟩, Nat.le_refl _, r1, e37, ?_, e17, fun e he => EE_of (r4 e he) (fun p h1 h2 => co p (by omega)) (by rw [go 160 (by decide)]) (fun i _ _ => by rw [go 161 (by decide)]) (fun i _ _ => by rw [go 162 (by decide)]) (fun i _ _ => by rw [go 163 (by decide), go 164 (by decide), go 166 (by decide)]; exact ⟨rfl, rfl, rfl⟩) (fun i _ _ => by rw [go 165 (by decide)])⟩
    · rw [← hG, xU_s (by omega), xU_s (by omega), xU_s (by omega), xU_s (by omega)]
      by_cases z2 : i = 2
      · subst z2; rw [xU_e, xU_e]
      · rw [xU_s z2, xU_s (by omega), xU_s z2]
    · rw [← hC, ← hG, xU_s (by decide), xU_e, xU_s (by decide), xU_s (by decide), xU_e]
    · rw [← hC, ← hG, xU_e, xU_s (by decide), xU_e]
    · rw [← hC, xU_s (by decide), xU_s (by decide), xU_s (by decide), xU_s (by decide), xU_s (by decide), xU_s (by decide), xU_e]; rfl
    · rw [← hC, xU_s (by decide), xU_s (by decide), xU_s (by decide), xU_s (by decide), xU_s (by decide), xU_e]
    · rw [← hG, xU_s (by decide), xU_s (by decide), xU_s (by decide), xU_s (by decide), xU_s (by decide), xU_e]
    · rw [← hC, xU_s (by decide), xU_s (by decide), xU_s (by decide), xU_s (by decide), xU_e]; rfl
    · rw [← hG, xU_s (by decide), xU_s (by decide), xU_s (by decide), xU_e]; rfl
    · rw [co 1 (by decide), go 158 (by decide)]; exact t4
    · rw [← hC, xU_s (by decide), xU_s (by decide), xU_e]
  obtain ⟨pp, qq, s1, s2, s3, s4⟩ := d_lns (N := N) (h := h) (b := b) (k0 := K) (c0 := c) (r0 := xU (xU r 157 0 0) 157 2 0) hN l3 r1 len 0 0 N N C G (by omega) (by omega) (by omega) (by omega) (by omega) (Or.inl D0)
  have s1' : l23_43 N h b (Int32.ofNat len) N 1 0 C = some pp := s1
  rw [e5, s1', s2, Option.bind_some, Option.bind_some]
  unfold j23_131 j264_74
  rcases s4 with ⟨g1, g2⟩ | ⟨g1, q1, _, g3⟩
  · rw [if_pos g1, if_pos (by rw [← s3]; exact g1), b2_some]
    refine ⟨_, _, rfl, rfl, rfl, K, Nat.le_refl _, ?_⟩
    dsimp only
    obtain ⟨⟨a1, a2, a3, a4, a5, a6, a7, a8, a9⟩, n1, n2, n3⟩ := id g2
    exact RR_D hR g2 (Nat.le_refl _) r1 (fun e he => EE_D (r4 e he) g2.1 he (fun p hp => by rw [xU_o hp, xU_o hp])) (fun p h1 h2 => xU_o h1) (fun i hi => xU_s hi) (fun i hi => by rw [xU_o (by decide)]) (fun p hp => rfl) (fun i hi => rfl) (by rw [xU_o (by decide), a2 1 (by decide)]; exact r2) (by rw [a4 5 (by decide), xU_s (by decide), xU_s (by decide)]; exact r3) ht xU_e
  · rw [g1, if_neg (show ¬ (1 : Int32) = 0 by decide), ← s3, g1, if_neg (show ¬ (1 : Int32) = 0 by decide)]
    have fin : ∀ {k1 : Nat} {c1 r1 : xA}, K ≤ k1 → DN K len q1 k1 c (xU (xU r 157 0 0) 157 2 0) c1 r1 → Q2 (xb2 (xb1 (some c1) (fun a67 => xw (xU a67 3 1 (a67 3 7)) (fun a68 => some (a68 3 1, a68)))) (fun r4 a5 => some (r4, xU a5 0 1 0))) (j264_92 N h b r1) (fun p q => p.1 = q.1 ∧ ∃ k1, K ≤ k1 ∧ RR k1 p.2 q.2 ∧ Rt p.2 q.2 ∧ DF K c r p.2 q.2) := by
      intro k1 c1 r1 hk D
      unfold j264_92
      dsimp only [xw]
      rw [b1_some, b2_some, D.2.2.2.2.1, D.2.2.2.2.2.2.1]
      refine ⟨_, _, rfl, rfl, ?_, k1, hk, ?_⟩
      · dsimp only
        rw [xU_e, xU_e]
      · dsimp only
        exact RR_D hR D.1 hk D.2.2.2.1 D.2.2.2.2.2.2.2 (fun p h1 h2 => by rw [xU_o h1, xU_o h2]) (fun i hi => by rw [xU_s hi, xU_o (by decide)]) (fun i hi => by rw [xU_o (by decide), xU_s hi]) (fun p hp => xU_o hp) (fun i hi => xU_s hi) (by rw [xU_o (by decide), xU_e]) xU_e ht xU_e
    rcases g3 with g3 | ⟨th, g3⟩
    · have e38 := g3.2.2.2.2.2.1
      have ef : f63_finishEntry N h b pp.2.2 = some pp.2.2 := by unfold f63_finishEntry; rw [if_pos e38]
      rw [ef, if_pos (e17l g3.2.2.2.2.2.2.1 r1)]
      exact fin (Nat.le_refl _) g3
    · obtain ⟨c1, r1', e1, e2, e3, e4, e5⟩ := d_ent (N := N) (h := h) (b := b) hN g3
      have hth := g3.2.2.2.1
      have h0 := g3.2.2.1
      rw [if_neg (by rw [g3.2.2.2.2.2.2.2.1, i_lt (by omega) (by omega)]; omega), e1, e2, b1_some (k := fun a42 => j264_92 N h b a42)]
      exact fin (by omega) e3
end T
