/-! Strings that are well formed. -/
def okn (G : Nat → Int32) (n : Nat) : Nat → Nat → Prop
  | 0, _ => True
  | f + 1, i => i < n → tl G i ≠ 0 ∧ okn G n f (i + tl G i)
def WFp (G : Nat → Int32) (n i : Nat) : Prop := ∀ f, okn G n f i
def wfo : Nat → Nat → Prop
  | 0, o => o = 0
  | d + 1, o => o % 4 ≠ 0 ∧ wfo d (o / 4)
section T
variable {N h b : Nat} {c r : xA} {x y z s v w : Int32} {G : Nat → Int32} {P S row n i f k m p o d : Nat}
theorem WFp_s (H : WFp G n i) (hi : i < n) : tl G i ≠ 0 ∧ WFp G n (i + tl G i) := ⟨(H 1 hi).1, fun f => (H (f + 1) hi).2⟩
theorem WFp_mk (h1 : i < n → tl G i ≠ 0 ∧ WFp G n (i + tl G i)) : WFp G n i
  | 0 => trivial
  | f + 1 => fun hi => ⟨(h1 hi).1, (h1 hi).2 f⟩
theorem wfo_lt : ∀ (d o : Nat), wfo d o → o < 4 ^ d
  | 0, o, h1 => by
    have : o = 0 := h1
    omega
  | d + 1, o, h1 => by
    have := wfo_lt d (o / 4) h1.2
    rw [Nat.pow_succ]
    omega
theorem wfo_256 (hd : d ≤ 4) (h1 : wfo d o) : o < 256 := by
  have := wfo_lt d o h1
  have : 4 ^ d ≤ 4 ^ 4 := Nat.pow_le_pow_right (by decide) hd
  omega
theorem bt1 : ∀ o : Fin 256, (Int32.ofNat o.val <<< ((2 : Int32) &&& 31)) ||| 1 = Int32.ofNat (4 * o.val + 1) := by decide +kernel
theorem bt2 : ∀ o : Fin 256, Int32.ofNat o.val &&& 3 = Int32.ofNat (o.val % 4) := by decide +kernel
theorem bt3 : ∀ o : Fin 256, Int32.ofNat o.val >>> ((2 : Int32) &&& 31) = Int32.ofNat (o.val / 4) := by decide +kernel
theorem bt4 : ∀ o : Fin 256, (Int32.ofNat o.val &&& (-4)) ||| 2 = Int32.ofNat (o.val - o.val % 4 + 2) := by decide +kernel
theorem bt5 : ∀ o : Fin 256, o.val % 4 = 2 → Int32.ofNat o.val ||| 3 = Int32.ofNat (o.val + 1) := by decide +kernel
theorem tl_le (H : Vw h b P S row n c r G) (hi : i < n) (h0 : tl G i ≠ 0) : i + tl G i ≤ n ∧ 1 ≤ tl G i := by
  have m : ∀ {j : Nat}, ¬ G j = -1 → j < n := fun hj => Vw_m H hj
  unfold tl at h0 ⊢
  by_cases z : G i = 37
  · rw [if_pos z] at h0 ⊢
    by_cases z1 : smp (G (i + 1))
    · rw [if_pos z1]
      have := m (j := i + 1) (fun e => by rw [e] at z1; exact absurd z1 (by decide))
      omega
    rw [if_neg z1] at h0 ⊢
    by_cases z2 : G (i + 1) = 39
    · rw [if_pos z2] at h0 ⊢
      by_cases y : G (i + 3) = 39
      · rw [if_pos y]
        have := m (j := i + 3) (by rw [y]; decide)
        omega
      · rw [if_neg y] at h0; omega
    rw [if_neg z2] at h0 ⊢
    by_cases z3 : G (i + 1) = 48
    · rw [if_pos z3] at h0 ⊢
      by_cases y : (G (i + 2) = 50 ∨ G (i + 2) = 51) ∧ G (i + 3) = 100
      · rw [if_pos y]
        have := m (j := i + 3) (by rw [y.2]; decide)
        omega
      · rw [if_neg y] at h0; omega
    rw [if_neg z3] at h0 ⊢
    by_cases z4 : G (i + 1) = 50 ∨ G (i + 1) = 51
    · rw [if_pos z4] at h0 ⊢
      by_cases y : G (i + 2) = 100
      · rw [if_pos y]
        have := m (j := i + 2) (by rw [y]; decide)
        omega
      · rw [if_neg y] at h0; omega
    rw [if_neg z4] at h0 ⊢
    by_cases z5 : G (i + 1) = 112
    · rw [if_pos z5] at h0 ⊢
      by_cases y : 49 ≤ G (i + 2) ∧ G (i + 2) ≤ 52
      · rw [if_pos y]
        have := m (j := i + 2) (fun e => by rw [e] at y; exact absurd y.1 (by decide))
        omega
      · rw [if_neg y] at h0; omega
    rw [if_neg z5] at h0 ⊢
    by_cases z6 : G (i + 1) = 123
    · rw [if_pos z6] at h0 ⊢
      by_cases y : 1 ≤ dc G 6 (i + 2) ∧ dc G 6 (i + 2) ≤ 5 ∧ vl G (dc G 6 (i + 2)) (i + 2) 0 ≤ 32767 ∧ G (i + 2 + dc G 6 (i + 2)) = 125
      · rw [if_pos y]
        have := m (j := i + 2 + dc G 6 (i + 2)) (by rw [y.2.2.2]; decide)
        omega
      · rw [if_neg y] at h0; omega
    · rw [if_neg z6] at h0; omega
  · rw [if_neg z]; omega
theorem tl_2 (z : G i = 37) (z1 : smp (G (i + 1))) : tl G i = 2 := by
  unfold tl
  rw [if_pos z, if_pos z1]
theorem d_wfl (hN : 100000 ≤ N) (H : Vw h b P 0 row n c r G) : ∀ (k i f o d : Nat), n ≤ i + k → i ≤ n → k < f → wfo d o → d ≤ 4 → Q2 (l57_7 N h b P (Int32.ofNat n) f (Int32.ofNat o) (Int32.ofNat d) (Int32.ofNat i) c) (l286_7 N h b (Int32.ofNat row) f (Int32.ofNat o) (Int32.ofNat d) (Int32.ofNat i) r) (fun p q => p.2.2 = c ∧ q.2.2 = r ∧ ((p.1 = 2 ∧ q.1 = 5 ∧ p.2.1 = q.2.1 ∧ WFp G n i) ∨ ((p.1 = 0 ∨ p.1 = 1) ∧ q.1 ≤ 4))) := by
  intro k
  induction k with
  | zero =>
    intro i f o d h1 h2 h3 h4 h5
    obtain ⟨⟨a1, a2, a3, a4, a5⟩, a6, _⟩ := id H
    obtain ⟨f, rfl⟩ : ∃ f', f = f' + 1 := ⟨f - 1, by omega⟩
    have : i = n := by omega
    subst this
    rw [l57_7, l286_7, if_pos (by rw [i_le (by omega) (by omega)]; omega), xg_pos (g_ix a5 (by omega)), i_cl (by omega), a6, if_pos (by rw [i_le (by omega) (by omega)]; omega)]
    exact ⟨_, _, rfl, rfl, rfl, rfl, Or.inl ⟨rfl, rfl, rfl, WFp_mk (fun q => absurd q (by omega))⟩⟩
  | succ k ih =>
    intro i f o d h1 h2 h3 h4 h5
    obtain ⟨⟨a1, a2, a3, a4, a5⟩, a6, a7, a8, a9⟩ := id H
    obtain ⟨f, rfl⟩ : ∃ f', f = f' + 1 := ⟨f - 1, by omega⟩
    by_cases hi : i < n
    · have e0 : f58_tokenLength N h b P (Int32.ofNat i) (Int32.ofNat n) c = some (Int32.ofNat (tl G i), c) := by
        have := e_tl (N := N) H hi hN
        rw [Nat.zero_add, Nat.zero_add] at this
        exact this
      have o256 := wfo_256 h5 h4
      rw [l57_7, l286_7]
      refine q_nl (by rw [i_le (by omega) (by omega)]; omega) (q_hr (g_ix a5 (by omega)) ?_)
      rw [i_cl (by omega), a6]
      refine q_nr (by rw [i_le (by omega) (by omega)]; omega) (q_l2 e0 (q_r2 (e_it H (by omega) hN) ?_))
      have fail : ∀ {p1 q1 : Nat} {p2 q2 : Int32}, (p1 = 0 ∨ p1 = 1) → q1 ≤ 4 → Q2 (some (p1, p2, c)) (some (q1, q2, r)) (fun p q => p.2.2 = c ∧ q.2.2 = r ∧ ((p.1 = 2 ∧ q.1 = 5 ∧ p.2.1 = q.2.1 ∧ WFp G n i) ∨ ((p.1 = 0 ∨ p.1 = 1) ∧ q.1 ≤ 4))) := fun g3 g4 => ⟨_, _, rfl, rfl, rfl, rfl, Or.inr ⟨g3, g4⟩⟩
      by_cases t0 : tl G i = 0
      · have e : Int32.ofNat (tl G i) = 0 := by rw [t0]; rfl
        exact q_pl e (q_pr e (fail (Or.inl rfl) (by decide)))
      obtain ⟨tl1, tl2⟩ := tl_le H hi t0
      have ne : ¬ Int32.ofNat (tl G i) = 0 := by
        rw [show (0 : Int32) = Int32.ofNat 0 from rfl, i_eq (by omega) (by decide)]; exact t0
      refine q_nl ne (q_nr ne (q_r2 (e_byte H (by omega)) ?_))
      have next : ∀ (o' d' : Nat), wfo d' o' → d' ≤ 4 → Q2 (l57_7 N h b P (Int32.ofNat n) f (Int32.ofNat o') (Int32.ofNat d') (Int32.ofNat i + Int32.ofNat (tl G i)) c) (l286_7 N h b (Int32.ofNat row) f (Int32.ofNat o') (Int32.ofNat d') (Int32.ofNat i + Int32.ofNat (tl G i)) r) (fun p q => p.2.2 = c ∧ q.2.2 = r ∧ ((p.1 = 2 ∧ q.1 = 5 ∧ p.2.1 = q.2.1 ∧ WFp G n i) ∨ ((p.1 = 0 ∨ p.1 = 1) ∧ q.1 ≤ 4))) := by
        intro o' d' g1 g2
        rw [← Int32.ofNat_add]
        refine q_mono (ih (i + tl G i) f o' d' (by omega) tl1 (by omega) g1 g2) (fun p q hh => ⟨hh.1, hh.2.1, ?_⟩)
        rcases hh.2.2 with q | q
        · exact Or.inl ⟨q.1, q.2.1, q.2.2.1, WFp_mk (fun _ => ⟨t0, q.2.2.2⟩)⟩
        · exact Or.inr q
      have l161 : ∀ (o' d' : Nat) {A : Option (Nat × Int32 × xA)}, o' < 2000 → wfo d' o' → (d' ≤ 4 → Q2 (l57_7 N h b P (Int32.ofNat n) f (Int32.ofNat o') (Int32.ofNat d') (Int32.ofNat i + Int32.ofNat (tl G i)) c) A (fun p q => p.2.2 = c ∧ q.2.2 = r ∧ ((p.1 = 2 ∧ q.1 = 5 ∧ p.2.1 = q.2.1 ∧ WFp G n i) ∨ ((p.1 = 0 ∨ p.1 = 1) ∧ q.1 ≤ 4)))) → (d' ≤ 4) → Q2 (j57_161 N h b (l57_7 N h b P (Int32.ofNat n) f) P (Int32.ofNat n) (Int32.ofNat o') (Int32.ofNat d') (Int32.ofNat i) (Int32.ofNat (tl G i)) c) A (fun p q => p.2.2 = c ∧ q.2.2 = r ∧ ((p.1 = 2 ∧ q.1 = 5 ∧ p.2.1 = q.2.1 ∧ WFp G n i) ∨ ((p.1 = 0 ∨ p.1 = 1) ∧ q.1 ≤ 4))) := by
        intro o' d' A g0 g1 g2 g3
        unfold j57_161
        refine q_nl ?_ (q_pl (by rw [show (4 : Int32) = Int32.ofNat 4 from rfl, i_le (by omega) (by decide)]; exact g3) (g2 g3))
        intro e
        have := zf (j := o') (by omega)
        rw [e] at this
        exact absurd this (by decide)
      have m1 : ∀ {A : Option (Nat × Int32 × xA)} {q3 q4 q5 : Int32} {rc : Int32 → Int32 → Int32 → xA → Option (Nat × Int32 × xA)}, j57_161 N h b rc P (Int32.ofNat n) (-1) q3 q4 q5 c = some (1, q3, c) := by
        intro A q3 q4 q5 rc
        unfold j57_161
        rw [if_pos rfl]
      unfold j286_169
      by_cases z : G i = 37 ∧ (G (i + 1) = 63 ∨ G (i + 1) = 116 ∨ G (i + 1) = 101 ∨ G (i + 1) = 59)
      · obtain ⟨z1, z2⟩ := z
        have t2 : tl G i = 2 := tl_2 z1 (by rcases z2 with e | e | e | e <;> rw [e] <;> decide)
        have e2 : Int32.ofNat (tl G i) = 2 := by rw [t2]; rfl
        have l1 : i + 1 < n := by omega
        refine q_pl e2 (q_pr z1 (q_r2 (e_by1 H (by omega)) ?_))
        have g1 : ¬ (Int32.ofNat i + 1 < 0 ∨ xl h b P ≤ (Int32.ofNat i + 1).toNatClampNeg) := by
          rw [on_s]; exact g_ix (by omega) (by omega)
        refine q_hl g1 ?_
        have ec : c P ((Int32.ofNat i + 1).toNatClampNeg) = G (i + 1) := by
          rw [on_s, i_cl (by omega)]
          have := a7 (i + 1) l1
          rw [Nat.zero_add] at this
          exact this
        rw [ec]
        unfold j57_45 j57_90 j57_100 j57_150 j57_157
        have b2 := bt2 ⟨o, o256⟩
        have b1 := bt1 ⟨o, o256⟩
        have b3 := bt3 ⟨o, o256⟩
        have b4 := bt4 ⟨o, o256⟩
        have b5 := bt5 ⟨o, o256⟩
        dsimp only at b1 b2 b3 b4 b5
        have iq : ∀ {u v : Nat}, u < 4 → v < 4 → (Int32.ofNat u = Int32.ofNat v) = (u = v) := fun hu hv => i_eq (by omega) (by omega)
        have om : o % 4 < 4 := Nat.mod_lt _ (by decide)
        rw [b2]
        by_cases k1 : G (i + 1) = 63
        · refine q_pl k1 (q_pr k1 ?_)
          rw [b1]
          by_cases d4 : d = 4
          · subst d4
            refine q_pr rfl ?_
            unfold j57_161
            refine q_nl ?_ (q_nl (by decide) (fail (Or.inr rfl) (by decide)))
            intro e
            have := zf (j := 4 * o + 1) (by omega)
            rw [e] at this
            exact absurd this (by decide)
          · refine q_nr (by rw [show (4 : Int32) = Int32.ofNat 4 from rfl, i_eq (by omega) (by decide)]; exact d4) ?_
            rw [on_s]
            have w1 : wfo (d + 1) (4 * o + 1) := ⟨by omega, by rw [show (4 * o + 1) / 4 = o by omega]; exact h4⟩
            exact l161 _ _ (by omega) w1 (fun g => next _ _ w1 g) (by omega)
        refine q_nl k1 (q_nr k1 ?_)
        by_cases k2 : G (i + 1) = 116
        · refine q_pl k2 (q_pr k2 ?_)
          by_cases m0 : o % 4 = 0
          · have d0 : d = 0 := by
              cases d with
              | zero => rfl
              | succ d => exact absurd m0 h4.1
            subst d0
            refine q_nl (by rw [m0]; decide) (q_pr rfl ?_)
            rw [if_neg (by rw [m0]; decide), m1 (A := none)]
            exact fail (Or.inr rfl) (by decide)
          · have dp : ¬ d = 0 := by
              intro e
              subst e
              have : o = 0 := h4
              omega
            refine q_nr (by rw [show (0 : Int32) = Int32.ofNat 0 from rfl, i_eq (by omega) (by decide)]; exact dp) ?_
            by_cases m2 : o % 4 = 2
            · have e2' : Int32.ofNat (o % 4) = 2 := by rw [m2]; rfl
              refine q_nl (by rw [m2]; decide) (q_pr e2' ?_)
              rw [if_neg (by rw [m2]; decide), m1 (A := none)]
              exact fail (Or.inr rfl) (by decide)
            · have w1 : wfo d (o - o % 4 + 2) := by
                cases d with
                | zero => exact absurd rfl dp
                | succ d => exact ⟨by omega, by rw [show (o - o % 4 + 2) / 4 = o / 4 by omega]; exact h4.2⟩
              have ev : Int32.ofNat o - Int32.ofNat (o % 4) + 2 = Int32.ofNat (o - o % 4 + 2) := by
                rw [← Int32.ofNat_sub _ _ (by omega), o2]
              refine q_nr (by rw [show (2 : Int32) = Int32.ofNat 2 from rfl, iq om (by decide)]; exact m2) ?_
              rw [b4]
              by_cases m3 : o % 4 = 1
              · refine q_pl (by rw [m3]; rfl) ?_
                rw [ev]
                exact l161 _ _ (by omega) w1 (fun g => next _ _ w1 g) h5
              · have m4 : o % 4 = 3 := by omega
                refine q_nl (by rw [m4]; decide) ?_
                rw [if_pos (by rw [m4]; rfl), ev]
                exact l161 _ _ (by omega) w1 (fun g => next _ _ w1 g) h5
        refine q_nl k2 (q_nr k2 ?_)
        by_cases k3 : G (i + 1) = 101
        · refine q_pl k3 (q_pr k3 ?_)
          by_cases m2 : o % 4 = 2
          · have dp : ¬ d = 0 := by
              intro e
              subst e
              have : o = 0 := h4
              omega
            have w1 : wfo d (o + 1) := by
              cases d with
              | zero => exact absurd rfl dp
              | succ d => exact ⟨by omega, by rw [show (o + 1) / 4 = o / 4 by omega]; exact h4.2⟩
            have ev : Int32.ofNat o - Int32.ofNat (o % 4) + 3 = Int32.ofNat (o + 1) := by
              rw [← Int32.ofNat_sub _ _ (by omega), o3, show o - o % 4 + 3 = o + 1 by omega]
            refine q_nr (by rw [show (0 : Int32) = Int32.ofNat 0 from rfl, i_eq (by omega) (by decide)]; exact dp) (q_pr (by rw [m2]; rfl) ?_)
            rw [if_pos (by rw [m2]; rfl), ev, b5 m2]
            exact l161 _ _ (by omega) w1 (fun g => next _ _ w1 g) h5
          · have n2 : ¬ Int32.ofNat (o % 4) = 2 := by rw [show (2 : Int32) = Int32.ofNat 2 from rfl, iq om (by decide)]; exact m2
            rw [if_neg n2, m1 (A := none)]
            by_cases d0 : Int32.ofNat d = 0
            · exact q_pr d0 (fail (Or.inr rfl) (by decide))
            · exact q_nr d0 (q_nr n2 (fail (Or.inr rfl) (by decide)))
        refine q_nl k3 (q_nr k3 ?_)
        have k4 : G (i + 1) = 59 := by
          rcases z2 with q | q | q | q
          · exact absurd q k1
          · exact absurd q k2
          · exact absurd q k3
          · exact q
        refine q_pl k4 (q_pr k4 ?_)
        rw [b3]
        by_cases m0 : o % 4 = 0
        · have d0 : d = 0 := by
            cases d with
            | zero => rfl
            | succ d => exact absurd m0 h4.1
          subst d0
          refine q_nl (by rw [m0]; decide) (q_nl (by rw [m0]; decide) (q_pr rfl ?_))
          rw [m1 (A := none)]
          exact fail (Or.inr rfl) (by decide)
        · have dp : ¬ d = 0 := by
            intro e
            subst e
            have : o = 0 := h4
            omega
          refine q_nr (by rw [show (0 : Int32) = Int32.ofNat 0 from rfl, i_eq (by omega) (by decide)]; exact dp) ?_
          have w1 : wfo (d - 1) (o / 4) := by
            cases d with
            | zero => exact absurd rfl dp
            | succ d => exact h4.2
          have ed : Int32.ofNat d + (-1) = Int32.ofNat (d - 1) := by
            rw [Int32.ofNat_sub _ _ (by omega)]
            grind
          rw [ed]
          by_cases m3 : o % 4 = 1
          · have e1 : Int32.ofNat (o % 4) = 1 := by rw [m3]; rfl
            refine q_nl (by rw [m3]; decide) (q_nl (by rw [m3]; decide) (q_pr e1 ?_))
            rw [m1 (A := none)]
            exact fail (Or.inr rfl) (by decide)
          · refine q_nr (by rw [show (1 : Int32) = Int32.ofNat 1 from rfl, iq om (by decide)]; exact m3) ?_
            have fin := l161 (o / 4) (d - 1) (by omega) w1 (fun g => next _ _ w1 g) (by omega)
            by_cases m2 : o % 4 = 2
            · exact q_pl (by rw [m2]; rfl) fin
            · have m4 : o % 4 = 3 := by omega
              exact q_nl (by rw [m4]; decide) (q_pl (by rw [m4]; rfl) fin)
      · have fin := l161 o d (by omega) h4 (fun g => next _ _ h4 g) h5
        have cl : ∀ t : Int32, ¬ (t = 63 ∨ t = 116 ∨ t = 101 ∨ t = 59) → j57_45 N h b (l57_7 N h b P (Int32.ofNat n) f) P (Int32.ofNat n) (Int32.ofNat o) (Int32.ofNat d) (Int32.ofNat i) (Int32.ofNat (tl G i)) t c = j57_161 N h b (l57_7 N h b P (Int32.ofNat n) f) P (Int32.ofNat n) (Int32.ofNat o) (Int32.ofNat d) (Int32.ofNat i) (Int32.ofNat (tl G i)) c := by
          intro t ht
          unfold j57_45
          rw [if_neg (fun e => ht (Or.inl e)), if_neg (fun e => ht (Or.inr (Or.inl e))), if_neg (fun e => ht (Or.inr (Or.inr (Or.inl e)))), if_neg (fun e => ht (Or.inr (Or.inr (Or.inr e))))]
        have rf : Q2 (j57_161 N h b (l57_7 N h b P (Int32.ofNat n) f) P (Int32.ofNat n) (Int32.ofNat o) (Int32.ofNat d) (Int32.ofNat i) (Int32.ofNat (tl G i)) c) (if G i = 37 then (xb2 (f288_byteOf N h b (Int32.ofNat row) (Int32.ofNat i + 1) r) (fun r18 a19 => if r18 = 63 then (if Int32.ofNat d = 4 then (some (1, Int32.ofNat d, a19)) else (l286_7 N h b (Int32.ofNat row) f ((Int32.ofNat o <<< ((2 : Int32) &&& 31)) ||| 1) (Int32.ofNat d + 1) (Int32.ofNat i + Int32.ofNat (tl G i)) a19)) else (if r18 = 116 then (if Int32.ofNat d = 0 then (some (2, Int32.ofNat d, a19)) else (if (Int32.ofNat o &&& 3) = 2 then (some (2, Int32.ofNat d, a19)) else (l286_7 N h b (Int32.ofNat row) f ((Int32.ofNat o &&& (-4)) ||| 2) (Int32.ofNat d) (Int32.ofNat i + Int32.ofNat (tl G i)) a19))) else (if r18 = 101 then (if Int32.ofNat d = 0 then (some (3, Int32.ofNat d, a19)) else (if (Int32.ofNat o &&& 3) = 2 then (l286_7 N h b (Int32.ofNat row) f (Int32.ofNat o ||| 3) (Int32.ofNat d) (Int32.ofNat i + Int32.ofNat (tl G i)) a19) else (some (3, Int32.ofNat d, a19)))) else (if r18 = 59 then (if Int32.ofNat d = 0 then (some (4, Int32.ofNat d, a19)) else (if (Int32.ofNat o &&& 3) = 1 then (some (4, Int32.ofNat d, a19)) else (l286_7 N h b (Int32.ofNat row) f (Int32.ofNat o >>> ((2 : Int32) &&& 31)) (Int32.ofNat d + (-1)) (Int32.ofNat i + Int32.ofNat (tl G i)) a19))) else (l286_7 N h b (Int32.ofNat row) f (Int32.ofNat o) (Int32.ofNat d) (Int32.ofNat i + Int32.ofNat (tl G i)) a19)))))) else (l286_7 N h b (Int32.ofNat row) f (Int32.ofNat o) (Int32.ofNat d) (Int32.ofNat i + Int32.ofNat (tl G i)) r)) (fun p q => p.2.2 = c ∧ q.2.2 = r ∧ ((p.1 = 2 ∧ q.1 = 5 ∧ p.2.1 = q.2.1 ∧ WFp G n i) ∨ ((p.1 = 0 ∨ p.1 = 1) ∧ q.1 ≤ 4))) := by
          by_cases z1 : G i = 37
          · refine q_pr z1 (q_r2 (e_by1 H (by omega)) ?_)
            exact q_nr (fun e => z ⟨z1, Or.inl e⟩) (q_nr (fun e => z ⟨z1, Or.inr (Or.inl e)⟩) (q_nr (fun e => z ⟨z1, Or.inr (Or.inr (Or.inl e))⟩) (q_nr (fun e => z ⟨z1, Or.inr (Or.inr (Or.inr e))⟩) fin)))
          · exact q_nr z1 fin
        by_cases t2 : Int32.ofNat (tl G i) = 2
        · have t2' : tl G i = 2 := by rw [show (2 : Int32) = Int32.ofNat 2 from rfl, i_eq (by omega) (by decide)] at t2; exact t2
          have l1 : i + 1 < n := by omega
          have g1 : ¬ (Int32.ofNat i + 1 < 0 ∨ xl h b P ≤ (Int32.ofNat i + 1).toNatClampNeg) := by
            rw [on_s]; exact g_ix (by omega) (by omega)
          have ec : c P ((Int32.ofNat i + 1).toNatClampNeg) = G (i + 1) := by
            rw [on_s, i_cl (by omega)]
            have := a7 (i + 1) l1
            rw [Nat.zero_add] at this
            exact this
          have z1 : G i = 37 := by
            by_cases q : G i = 37
            · exact q
            · have : tl G i = 1 := if_neg q
              omega
          refine q_pl t2 (q_hl g1 ?_)
          rw [ec, cl _ (fun q => z ⟨z1, q⟩)]
          exact rf
        · refine q_nl t2 ?_
          rw [cl _ (by decide)]
          exact rf
    · exact ih i (f + 1) o d (by omega) h2 (by omega) h4 h5
theorem d_wf (hN : 100000 ≤ N) (H : Vw h b P 0 row n c r G) : ∃ w, f57_isWellFormed N h b P (Int32.ofNat n) c = some (w, c) ∧ f286_isWell N h b (Int32.ofNat row) r = some (w, r) ∧ (w = 0 ∨ w = 1) ∧ (w = 1 → WFp G n 0) := by
  obtain ⟨⟨a1, a2, a3, a4, a5⟩, _⟩ := id H
  obtain ⟨p, q, e1, e2, e3, e4, e5⟩ := d_wfl hN H n 0 N 0 0 (by omega) (by omega) (by omega) (show wfo 0 0 from rfl) (by omega)
  unfold f57_isWellFormed f286_isWell
  have e1' : l57_7 N h b P (Int32.ofNat n) N 0 0 0 c = some p := e1
  have e2' : l286_7 N h b (Int32.ofNat row) N 0 0 0 r = some q := e2
  rw [xg_pos a1, e1', e2', Option.bind_some, Option.bind_some]
  rcases e5 with ⟨k1, k2, k3, k4⟩ | ⟨k1, k2⟩
  · rw [k1, k2, e3, e4, k3]
    refine ⟨zb (q.2.1 = 0), ?_, ?_, zb_01, fun _ => k4⟩
    · rw [if_neg (by decide), if_neg (by decide), zi10, zg]
    · rw [if_neg (by decide), if_neg (by decide), if_neg (by decide), if_neg (by decide), if_neg (by decide), zi10, zg]
  · refine ⟨0, ?_, ?_, Or.inl rfl, fun e => absurd e (by decide)⟩
    · rw [e3]
      rcases k1 with q | q <;> rw [q] <;> rfl
    · rw [e4]
      have : q.1 = 0 ∨ q.1 = 1 ∨ q.1 = 2 ∨ q.1 = 3 ∨ q.1 = 4 := by omega
      rcases this with q | q | q | q | q <;> rw [q] <;> rfl
end T
