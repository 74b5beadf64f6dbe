/-! The reader: an entry takes what others tell. -/
def TK (th : Nat) (c r c' r' : xA) : Prop := (∀ p, ¬ (9 + 7 * th + 3 ≤ p ∧ p ≤ 9 + 7 * th + 6) → c' p = c p) ∧ (∀ p, ¬ (163 ≤ p ∧ p ≤ 166) → r' p = r p) ∧ (∀ i, ¬ (39 * th ≤ i ∧ i < 39 * th + 39) → r' 163 i = r 163 i ∧ r' 164 i = r 164 i ∧ r' 166 i = r 166 i) ∧ (∀ i, ¬ (1560 * th ≤ i ∧ i < 1560 * th + 1560) → r' 165 i = r 165 i) ∧ NA r'
def KA (th : Nat) (c r : xA) : Prop := ∀ a, a < 39 → Ea th a c r ∧ ((c 6 a = 0 ∧ c (9 + 7 * th + 3) a = 0) ↔ r 163 (39 * th + a) = 0)
def CT (th a : Nat) (c c' : xA) : Prop := (∀ p, ¬ (9 + 7 * th + 3 ≤ p ∧ p ≤ 9 + 7 * th + 6) → c' p = c p) ∧ (∀ i, c' (9 + 7 * th + 3) i = if i = a then 1 else c (9 + 7 * th + 3) i) ∧ (∀ i, i ≠ a → c' (9 + 7 * th + 4) i = c (9 + 7 * th + 4) i) ∧ (∀ i, ¬ (6 ≤ a ∧ (a - 6) * 40 ≤ i ∧ i < (a - 6) * 40 + 40) → c' (9 + 7 * th + 5) i = c (9 + 7 * th + 5) i) ∧ (∀ i, ¬ (6 ≤ a ∧ i = a - 6) → c' (9 + 7 * th + 6) i = c (9 + 7 * th + 6) i)
def CR (A B n : Nat) (r r' : xA) : Prop := (∀ p, ¬ (163 ≤ p ∧ p ≤ 166) → r' p = r p) ∧ (∀ i, i ≠ A → r' 163 i = r 163 i ∧ r' 164 i = r 164 i ∧ r' 166 i = r 166 i) ∧ r' 163 A = 1 ∧ r' 164 A = r 164 B ∧ r' 166 A = Int32.ofNat n ∧ (∀ i, ¬ (40 * A ≤ i ∧ i < 40 * A + 40) → r' 165 i = r 165 i) ∧ (∀ i, i < n → r' 165 (40 * A + i) = r 165 (40 * B + i)) ∧ NA r'
section T
variable {N h b : Nat} {c0 r0 c r c' r' c'' r'' : xA} {x y z s v w w1 w2 : Int32} {len p i f k m q l a e K n row d th k0 A B : Nat}
theorem TK_r (hA : NA r) : TK th c r c r := ⟨fun _ _ => rfl, fun _ _ => rfl, fun _ _ => ⟨rfl, rfl, rfl⟩, fun _ _ => rfl, hA⟩
theorem TK_t (H : TK th c r c' r') (G : TK th c' r' c'' r'') : TK th c r c'' r'' := ⟨fun p hp => by rw [G.1 p hp, H.1 p hp], fun p hp => by rw [G.2.1 p hp, H.2.1 p hp], fun i hi => ⟨by rw [(G.2.2.1 i hi).1, (H.2.2.1 i hi).1], by rw [(G.2.2.1 i hi).2.1, (H.2.2.1 i hi).2.1], by rw [(G.2.2.1 i hi).2.2, (H.2.2.1 i hi).2.2]⟩, fun i hi => by rw [G.2.2.2.1 i hi, H.2.2.2.1 i hi], G.2.2.2.2⟩
theorem EE_K (H : EE e c r) (hK : TK th c r c' r') (he : e < th) : EE e c' r' := EE_of H (fun p h1 h2 => hK.1 p (by omega)) (by rw [hK.2.1 160 (by decide)]) (fun i _ _ => by rw [hK.2.1 161 (by decide)]) (fun i _ _ => by rw [hK.2.1 162 (by decide)]) (fun i h1 h2 => hK.2.2.1 i (by omega)) (fun i h1 h2 => hK.2.2.2.1 i (by omega))
theorem En_K (H : En th c r) (hK : TK th c r c' r') : En th c' r' := En_of H (by rw [hK.1 _ (by omega)]) (hK.1 _ (by omega)) (hK.1 _ (by omega)) (by rw [hK.2.1 160 (by decide)]) (fun i _ _ => by rw [hK.2.1 161 (by decide)]) (fun i _ _ => by rw [hK.2.1 162 (by decide)])
theorem FD_K (H : FD k0 c0 r0 c r) (hK : TK th c r c' r') (hk : k0 ≤ th) (hth : th < 12) : FD k0 c0 r0 c' r' := by
  obtain ⟨a1, a2, a3, a4, a5, a6, a7, a8, a9⟩ := H
  obtain ⟨t1, t2, t3, t4, t5⟩ := hK
  refine ⟨fun p h1 h2 h3 => by rw [t1 p (by omega)]; exact a1 p h1 h2 h3, fun i h1 => by rw [t1 3 (by omega)]; exact a2 i h1, fun p h1 h2 => by rw [t2 p (by omega)]; exact a3 p h1 h2, fun i h1 => by rw [t2 157 (by decide)]; exact a4 i h1, fun e he => by rw [t2 160 (by decide)]; exact a5 e he, fun i hi => by rw [t2 161 (by decide)]; exact a6 i hi, fun i hi => by rw [t2 162 (by decide)]; exact a7 i hi, fun i hi => ?_, fun i hi => by rw [t4 i (by omega)]; exact a9 i hi⟩
  have := t3 i (by omega)
  rw [this.1, this.2.1, this.2.2]
  exact a8 i hi
theorem e_cp9 (hA : A < 468) (hB : B < 468) (hAB : A ≠ B) (hn : n ≤ 40) : ∀ (k j f : Nat) {a : xA}, j + k = n → k < f → a 166 B = Int32.ofNat n → (∀ i, vp_nar .byte (a 165 i) = a 165 i) → ∃ a', l289_100 N h b w1 w2 (Int32.ofNat A) (Int32.ofNat B) f (Int32.ofNat j) a = some (0, a') ∧ (∀ p, p ≠ 165 → a' p = a p) ∧ (∀ i, a' 165 i = if 40 * A + j ≤ i ∧ i < 40 * A + n then a 165 (40 * B + (i - 40 * A)) else a 165 i) := by
  intro k
  induction k with
  | zero =>
    intro j f a h1 h2 h3 h4
    obtain ⟨f, rfl⟩ : ∃ f', f = f' + 1 := ⟨f - 1, by omega⟩
    refine ⟨a, ?_, fun _ _ => rfl, fun i => by rw [if_neg (by omega)]⟩
    rw [l289_100, xg_pos (g_ix hB (by omega)), i_cl (show B < 2 ^ 31 by omega), h3, if_pos (by rw [i_le (by omega) (by omega)]; omega)]
  | succ k ih =>
    intro j f a h1 h2 h3 h4
    obtain ⟨f, rfl⟩ : ∃ f', f = f' + 1 := ⟨f - 1, by omega⟩
    have hn4 : ∀ i, vp_nar .byte ((xU a 165 (40 * A + j) (vp_nar .byte (a 165 (40 * B + j)))) 165 i) = (xU a 165 (40 * A + j) (vp_nar .byte (a 165 (40 * B + j)))) 165 i := by
      intro i
      rw [xU_eq]
      split
      · rw [h4, h4]
      · exact h4 i
    obtain ⟨a', e1, e2, e3⟩ := ih (j + 1) f (a := xU a 165 (40 * A + j) (vp_nar .byte (a 165 (40 * B + j)))) (by omega) (by omega) (by rw [xU_o (by decide)]; exact h3) hn4
    refine ⟨a', ?_, fun p hp => by rw [e2 p hp, xU_o hp], fun i => ?_⟩
    · rw [l289_100, xg_pos (g_ix hB (by omega)), i_cl (show B < 2 ^ 31 by omega), h3, if_neg (by rw [i_le (by omega) (by omega)]; omega), o40, o40, xg_pos (g_ix (by omega) (by omega)), xg_pos (g_ix (by omega) (by omega)), i_cl (by omega), i_cl (by omega), on_s]
      exact e1
    · rw [e3 i]
      by_cases g1 : 40 * A + (j + 1) ≤ i ∧ i < 40 * A + n
      · rw [if_pos g1, if_pos (by omega), xU_s (by omega)]
      · rw [if_neg g1]
        by_cases g2 : i = 40 * A + j
        · subst g2
          rw [xU_e, if_pos (by omega), h4, show 40 * A + j - 40 * A = j by omega]
        · rw [xU_s g2, if_neg (by omega)]
theorem tk_fin (hth : th < 12) (ha : a < 39) (HK : KA th c r) (h1 : CT th a c c') (h2 : CR (39 * th + a) B n r r') (h3 : Ea th a c' r') : TK th c r c' r' ∧ KA th c' r' := by
  obtain ⟨a1, a2, a3, a4, a5⟩ := h1
  obtain ⟨b1, b2, b3, b4, b5, b6, b7, b8⟩ := h2
  refine ⟨⟨a1, b1, fun i hi => b2 i (by omega), fun i hi => b6 i (by omega), b8⟩, fun j hj => ?_⟩
  by_cases e : j = a
  · subst e
    refine ⟨h3, ?_⟩
    rw [a2, if_pos rfl, b3]
    constructor
    · intro g; exact absurd g.2 (by decide)
    · intro g; exact absurd g (by decide)
  · obtain ⟨k1, k2⟩ := HK j hj
    have g := b2 (39 * th + j) (by omega)
    refine ⟨Ea_of k1 (by rw [a2, if_neg e]) (a3 j e) g.1 g.2.1 (fun h6 hS => Es_of hS (a5 _ (by omega)) (fun i h1 h2 => a4 i (by omega)) g.2.2 (fun i h1 h2 => b6 i (by omega))), ?_⟩
    rw [a1 6 (by omega), a2, if_neg e, g.1]
    exact k2
theorem d_tk1 (hN : 100000 ≤ N) (hth : th < 12) (he : e < th) (ha : a < 39) (hi : i < 4) (HE : EE e c r) (HK : KA th c r) (hA : NA r) (h17 : r 157 17 = Int32.ofNat th) (h167 : r 167 i = Int32.ofNat e) : ∃ c' r', l64_2 N h b (9 + 7 * th) (9 + 7 * e) 6 (f + 1) (Int32.ofNat a) c = l64_2 N h b (9 + 7 * th) (9 + 7 * e) 6 f (Int32.ofNat (a + 1)) c' ∧ l289_12 N h b (Int32.ofNat i) (f + 1) (Int32.ofNat a) r = l289_12 N h b (Int32.ofNat i) f (Int32.ofNat (a + 1)) r' ∧ TK th c r c' r' ∧ KA th c' r' := by
  obtain ⟨p1, p2, p3, p4, p5, p6, p7, p8⟩ := pl (h := h) (b := b) hth
  obtain ⟨u1, u2, u3, u4, u5, u6, u7, u8⟩ := pl (h := h) (b := b) (show e < 12 by omega)
  obtain ⟨k1, k2⟩ := HK a ha
  obtain ⟨m1, m2, m3⟩ := HE.2 a ha
  have n39 : ¬ (39 : Int32) ≤ Int32.ofNat a := by rw [show (39 : Int32) = Int32.ofNat 39 from rfl, i_le (by decide) (by omega)]; omega
  have gn : ∀ {M : Nat}, a < M → ¬ (Int32.ofNat a < 0 ∨ M ≤ a) := fun {M} hM g => by
    rcases g with g | g
    · rw [i_neg (by omega)] at g; exact g
    · omega
  have eR : l289_12 N h b (Int32.ofNat i) (f + 1) (Int32.ofNat a) r = if r 163 (39 * th + a) = 0 then (if r 163 (39 * e + a) = 1 then (l289_100 N h b (Int32.ofNat i) (Int32.ofNat a) (Int32.ofNat (39 * th + a)) (Int32.ofNat (39 * e + a)) N 0 (xU (xU (xU r 163 (39 * th + a) 1) 164 (39 * th + a) (r 164 (39 * e + a))) 166 (39 * th + a) (r 166 (39 * e + a)))).bind (fun z24 => l289_12 N h b (Int32.ofNat i) f (Int32.ofNat (a + 1)) z24.2) else l289_12 N h b (Int32.ofNat i) f (Int32.ofNat (a + 1)) r) else l289_12 N h b (Int32.ofNat i) f (Int32.ofNat (a + 1)) r := by
    rw [l289_12, if_neg n39, xg_pos (g_ix hi (by omega)), h17, o39, xg_pos (g_ix (by omega) (by omega)), i_cl (show 39 * th + a < 2 ^ 31 by omega), i_cl (show i < 2 ^ 31 by omega), h167, o39, xg_pos (g_ix (by omega) (by omega)), i_cl (show 39 * e + a < 2 ^ 31 by omega)]
    unfold j289_143
    rw [on_s]
    simp only [xw]
    rw [xU_o (show (164 : Nat) ≠ 163 by decide), xU_o (show (166 : Nat) ≠ 164 by decide), xU_o (show (166 : Nat) ≠ 163 by decide)]
    rfl
  have eC : l64_2 N h b (9 + 7 * th) (9 + 7 * e) 6 (f + 1) (Int32.ofNat a) c = if c 6 a = 0 then (if c (9 + 7 * th + 3) a = 0 then (if c (9 + 7 * e + 3) a = 0 then l64_2 N h b (9 + 7 * th) (9 + 7 * e) 6 f (Int32.ofNat (a + 1)) c else (if 3 ≤ Int32.ofNat a then (if 6 ≤ Int32.ofNat a then (xb2 (f60_startOf N h b (Int32.ofNat a) c) (fun r22 a23 => xb2 (f65_lengthOf N h b (9 + 7 * e) (Int32.ofNat a) a23) (fun r27 a28 => xb1 (f59_tellString N h b (9 + 7 * th) (Int32.ofNat a) (9 + 7 * e + 5) r22 r27 a28) (fun a32 => l64_2 N h b (9 + 7 * th) (9 + 7 * e) 6 f (Int32.ofNat (a + 1)) a32)))) else (xg (¬ (Int32.ofNat a < 0 ∨ xl h b (9 + 7 * e + 4) ≤ a)) (xb1 (f48_tellNumber N h b (9 + 7 * th) (Int32.ofNat a) (c (9 + 7 * e + 4) a) c) (fun a37 => l64_2 N h b (9 + 7 * th) (9 + 7 * e) 6 f (Int32.ofNat (a + 1)) a37)))) else (xb1 (f61_tellFlag N h b (9 + 7 * th) (Int32.ofNat a) c) (fun a41 => l64_2 N h b (9 + 7 * th) (9 + 7 * e) 6 f (Int32.ofNat (a + 1)) a41)))) else l64_2 N h b (9 + 7 * th) (9 + 7 * e) 6 f (Int32.ofNat (a + 1)) c) else l64_2 N h b (9 + 7 * th) (9 + 7 * e) 6 f (Int32.ofNat (a + 1)) c := by
    rw [l64_2, if_neg n39, show xl h b 6 = 39 from rfl, xg_pos (g_ix ha (by omega)), i_cl (show a < 2 ^ 31 by omega), p4, u4, xg_pos (gn ha), xg_pos (gn ha)]
    unfold j64_86
    rw [on_s]
  rw [eC, eR]
  by_cases z1 : r 163 (39 * th + a) = 0
  · obtain ⟨y1, y2⟩ := k2.mpr z1
    rw [if_pos z1, if_pos y1, if_pos y2]
    rcases m1 with z2 | z2
    · have : ¬ r 163 (39 * e + a) = 1 := fun g => by rw [m2.mpr g] at z2; exact absurd z2 (by decide)
      rw [if_pos z2, if_neg this]
      exact ⟨c, r, rfl, rfl, TK_r hA, HK⟩
    · rw [if_neg (by rw [z2]; decide), if_pos (m2.mp z2)]
      obtain ⟨n, n1, n2⟩ := hA.2 (39 * e + a)
      obtain ⟨r', f1, f2, f3⟩ := e_cp9 (N := N) (h := h) (b := b) (w1 := Int32.ofNat i) (w2 := Int32.ofNat a) (A := 39 * th + a) (B := 39 * e + a) (n := n) (by omega) (by omega) (by omega) n1 n 0 N (a := xU (xU (xU r 163 (39 * th + a) 1) 164 (39 * th + a) (r 164 (39 * e + a))) 166 (39 * th + a) (r 166 (39 * e + a))) (by omega) (by omega) (by rw [xU_s (by omega), xU_o (by decide), xU_o (by decide)]; exact n2) (fun i => by rw [xU_o (by decide), xU_o (by decide), xU_o (by decide)]; exact hA.1 i)
      have f1' : l289_100 N h b (Int32.ofNat i) (Int32.ofNat a) (Int32.ofNat (39 * th + a)) (Int32.ofNat (39 * e + a)) N 0 (xU (xU (xU r 163 (39 * th + a) 1) 164 (39 * th + a) (r 164 (39 * e + a))) 166 (39 * th + a) (r 166 (39 * e + a))) = some (0, r') := f1
      rw [f1', Option.bind_some]
      dsimp only
      have e165 : ∀ j, r' 165 j = if 40 * (39 * th + a) ≤ j ∧ j < 40 * (39 * th + a) + n then r 165 (40 * (39 * e + a) + (j - 40 * (39 * th + a))) else r 165 j := by
        intro j
        rw [f3 j, xU_o (by decide), xU_o (by decide), xU_o (by decide)]
        rfl
      have hR : CR (39 * th + a) (39 * e + a) n r r' := by
        refine ⟨fun p hp => by rw [f2 p (by omega), xU_o (by omega), xU_o (by omega), xU_o (by omega)], fun j hj => ⟨by rw [f2 163 (by decide), xU_o (by decide), xU_o (by decide), xU_s hj], by rw [f2 164 (by decide), xU_o (by decide), xU_s hj, xU_o (by decide)], by rw [f2 166 (by decide), xU_s hj, xU_o (by decide), xU_o (by decide)]⟩, by rw [f2 163 (by decide), xU_o (by decide), xU_o (by decide), xU_e], by rw [f2 164 (by decide), xU_o (by decide), xU_e], by rw [f2 166 (by decide), xU_e]; exact n2, fun j hj => by rw [e165, if_neg (by omega)], fun j hj => by rw [e165, if_pos (by omega), show 40 * (39 * th + a) + j - 40 * (39 * th + a) = j by omega], fun j => ?_, fun j => ?_⟩
        · rw [e165]
          split
          · exact hA.1 _
          · exact hA.1 _
        · rw [f2 166 (by decide), xU_eq]
          split
          · exact ⟨n, n1, n2⟩
          · exact hA.2 j
      have hn1 : r' 163 (39 * th + a) = 1 := hR.2.2.1
      by_cases z3 : 3 ≤ a
      · rw [if_pos (show 3 ≤ Int32.ofNat a by rw [show (3 : Int32) = Int32.ofNat 3 from rfl, i_le (by decide) (by omega)]; exact z3)]
        by_cases z6 : 6 ≤ a
        · rw [if_pos (show 6 ≤ Int32.ofNat a by rw [show (6 : Int32) = Int32.ofNat 6 from rfl, i_le (by decide) (by omega)]; exact z6)]
          obtain ⟨n', s1, s2, s3, s4, s5⟩ := (m3 z2).2 z6
          have en : n' = n := by
            have : Int32.ofNat n' = Int32.ofNat n := by rw [← s3, n2]
            rwa [i_eq (by omega) (by omega)] at this
          subst en
          have em : Int32.ofNat a - 6 = Int32.ofNat (a - 6) := by rw [show (6 : Int32) = Int32.ofNat 6 from rfl, ← Int32.ofNat_sub _ _ z6]
          have e40 : Int32.ofNat (a - 6) * 40 = Int32.ofNat ((a - 6) * 40) := by rw [Int32.ofNat_mul]; rfl
          unfold f60_startOf f65_lengthOf
          rw [b2_some, em, e40, xg_pos u1, u7, xg_pos (g_ix (by omega) (by omega)), i_cl (show a - 6 < 2 ^ 31 by omega), s2, b2_some, e_ts (P := 9 + 7 * e + 5) hth ha z6 u8 (by rw [u6]; omega) n1 (by omega) (by omega) (by omega), b1_some]
          have hC : CT th a c (xW (xU (xU c (9 + 7 * th + 3) a 1) (9 + 7 * th + 6) (a - 6) (Int32.ofNat n')) (9 + 7 * th + 5) (va_cpy (c (9 + 7 * e + 5)) (c (9 + 7 * th + 5)) ((a - 6) * 40) ((a - 6) * 40) n')) := by
            refine ⟨fun p hp => by rw [xW_o (by omega), xU_o (by omega), xU_o (by omega)], fun j => by rw [xW_o (by omega), xU_o (by omega), xU_eq]; simp, fun j hj => by rw [xW_o (by omega), xU_o (by omega), xU_o (by omega)], fun j hj => ?_, fun j hj => by rw [xW_o (by omega), xU_s (by omega), xU_o (by omega)]⟩
            rw [xW_e]
            unfold va_cpy
            rw [if_neg (by omega)]
          have hE : Ea th a (xW (xU (xU c (9 + 7 * th + 3) a 1) (9 + 7 * th + 6) (a - 6) (Int32.ofNat n')) (9 + 7 * th + 5) (va_cpy (c (9 + 7 * e + 5)) (c (9 + 7 * th + 5)) ((a - 6) * 40) ((a - 6) * 40) n')) r' := by
            have e1 := hC.2.1 a
            rw [if_pos rfl] at e1
            refine ⟨Or.inr e1, ⟨fun _ => hn1, fun _ => e1⟩, fun _ => ⟨fun _ g => absurd g (by omega), fun _ => ⟨n', n1, by rw [xW_o (by omega), xU_e], hR.2.2.2.2.1, fun j hj => ?_, ?_⟩⟩⟩
            · rw [xW_e, hR.2.2.2.2.2.2.1 j hj, ← s4 j hj]
              unfold va_cpy
              rw [if_pos (by omega), show (a - 6) * 40 + ((a - 6) * 40 + j - (a - 6) * 40) = (a - 6) * 40 + j by omega]
            · have eG : Gr r' (39 * th + a) n' = Gr r (39 * e + a) n' := by
                funext j
                unfold Gr
                split
                · next g => rw [hR.2.2.2.2.2.2.1 j g]
                · rfl
              rw [eG]
              exact s5
          obtain ⟨v1, v2⟩ := tk_fin hth ha HK hC hR hE
          exact ⟨_, _, rfl, rfl, v1, v2⟩
        · rw [if_neg (show ¬ 6 ≤ Int32.ofNat a by rw [show (6 : Int32) = Int32.ofNat 6 from rfl, i_le (by decide) (by omega)]; exact z6)]
          obtain ⟨s1, s2, s3⟩ := (m3 z2).1 z3 (by omega)
          unfold f48_tellNumber
          rw [u5, xg_pos (gn (by omega)), xg_pos p1, p4, p5, xg_pos (g_ix ha (by omega)), i_cl (show a < 2 ^ 31 by omega)]
          dsimp only [xw]
          rw [xg_pos (gn (by omega)), b1_some]
          have hC : CT th a c (xU (xU c (9 + 7 * th + 3) a 1) (9 + 7 * th + 4) a (c (9 + 7 * e + 4) a)) := by
            refine ⟨fun p hp => by rw [xU_o (by omega), xU_o (by omega)], fun j => by rw [xU_o (by omega), xU_eq]; simp, fun j hj => by rw [xU_s hj, xU_o (by omega)], fun j hj => by rw [xU_o (by omega), xU_o (by omega)], fun j hj => by rw [xU_o (by omega), xU_o (by omega)]⟩
          have hE : Ea th a (xU (xU c (9 + 7 * th + 3) a 1) (9 + 7 * th + 4) a (c (9 + 7 * e + 4) a)) r' := by
            have e1 := hC.2.1 a
            rw [if_pos rfl] at e1
            refine ⟨Or.inr e1, ⟨fun _ => hn1, fun _ => e1⟩, fun _ => ⟨fun _ _ => ?_, fun g => absurd g z6⟩⟩
            rw [xU_e, hR.2.2.2.1]
            exact ⟨s1, s2, s3⟩
          obtain ⟨v1, v2⟩ := tk_fin hth ha HK hC hR hE
          exact ⟨_, _, rfl, rfl, v1, v2⟩
      · rw [if_neg (show ¬ 3 ≤ Int32.ofNat a by rw [show (3 : Int32) = Int32.ofNat 3 from rfl, i_le (by decide) (by omega)]; exact z3)]
        unfold f61_tellFlag
        rw [xg_pos p1, p4, xg_pos (g_ix ha (by omega)), i_cl (show a < 2 ^ 31 by omega)]
        unfold xw
        rw [b1_some]
        have hC : CT th a c (xU c (9 + 7 * th + 3) a 1) := by
          refine ⟨fun p hp => by rw [xU_o (by omega)], fun j => by rw [xU_eq]; simp, fun j hj => by rw [xU_o (by omega)], fun j hj => by rw [xU_o (by omega)], fun j hj => by rw [xU_o (by omega)]⟩
        have hE : Ea th a (xU c (9 + 7 * th + 3) a 1) r' := by
          have e1 := hC.2.1 a
          rw [if_pos rfl] at e1
          exact ⟨Or.inr e1, ⟨fun _ => hn1, fun _ => e1⟩, fun _ => ⟨fun g _ => absurd g z3, fun g => absurd g (by omega)⟩⟩
        obtain ⟨v1, v2⟩ := tk_fin hth ha HK hC hR hE
        exact ⟨_, _, rfl, rfl, v1, v2⟩
  · rw [if_neg z1]
    refine ⟨c, r, ?_, rfl, TK_r hA, HK⟩
    by_cases y1 : c 6 a = 0
    · rw [if_pos y1, if_neg (fun y2 => z1 (k2.mp ⟨y1, y2⟩))]
    · rw [if_neg y1]
end T
