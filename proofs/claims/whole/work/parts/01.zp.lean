/-! The machine: numbers are shown, parts are passed over. -/
section T
variable {N h b : Nat} {c0 r0 c r c' r' : xA} {x y z s v w q7 q8 w4 w5 : Int32} {G : Nat → Int32} {P S row n i f k m p : Nat}
theorem abs1 : ∃ A : Nat, A < 10 ^ 10 ∧ (0 ≤ x → x.toInt64 = Int64.ofNat A) ∧ (¬ 0 ≤ x → -x.toInt64 = Int64.ofNat A) ∧ xabsl x.toInt64 = Int64.ofNat A := by
  have l1 := Int32.le_toInt x
  have l2 := Int32.toInt_lt x
  have e64 : x.toInt64.toInt = x.toInt := Int32.toInt_toInt64 x
  have z0 : (0 ≤ x) = (0 ≤ x.toInt) := propext (Int32.le_iff_toInt_le)
  have eN : (-x.toInt64).toInt = -x.toInt := by
    rw [Int64.toInt_neg, e64]
    exact Int.bmod_eq_of_le (by omega) (by omega)
  have eA : ∀ {m : Nat}, m < 2 ^ 63 → (Int64.ofNat m).toInt = m := fun hm => Int64.toInt_ofNat_of_lt hm
  refine ⟨x.toInt.natAbs, by omega, fun q => ?_, fun q => ?_, ?_⟩
  · rw [z0] at q
    apply Int64.toInt_inj.mp
    rw [e64, eA (by omega)]
    omega
  · rw [z0] at q
    apply Int64.toInt_inj.mp
    rw [eN, eA (by omega)]
    omega
  · unfold xabsl
    have zl : (0 < x.toInt64) = (0 < x.toInt) := by
      rw [← e64]
      exact propext Int64.lt_iff_toInt_lt
    by_cases q : 0 < x.toInt64
    · rw [if_pos q]
      rw [zl] at q
      apply Int64.toInt_inj.mp
      rw [e64, eA (by omega)]
      omega
    · rw [if_neg q]
      rw [zl] at q
      apply Int64.toInt_inj.mp
      rw [eN, eA (by omega)]
      omega
theorem p_padb {l : Nat} {a1 b1 q9 : Int32} {s6 s7 t6 t7 : Int64} (hl : l ≤ 9) : ∀ (d j n : Nat) (c r : xA), l ≤ j + d → j ≤ 100 → d < n → PP q7 q8 w4 w5 c0 r0 c r → Q2 (l86_81 N h b a1 (Int32.ofNat l) 32 s6 s7 n (Int32.ofNat j) c) (l303_57 N h b b1 (Int32.ofNat l) 0 t6 t7 q9 n (Int32.ofNat j) r) (fun p q => PP q7 q8 w4 w5 c0 r0 p.2 q.2) := by
  intro d
  induction d with
  | zero =>
    intro j n c r h1 h2 h3 H
    obtain ⟨n, rfl⟩ : ∃ n', n = n' + 1 := ⟨n - 1, by omega⟩
    have e : Int32.ofNat l ≤ Int32.ofNat j := by rw [i_le (by omega) (by omega)]; omega
    rw [l86_81, l303_57, if_pos e, if_pos e]
    exact ⟨_, _, rfl, rfl, H⟩
  | succ d ih =>
    intro j n c r h1 h2 h3 H
    obtain ⟨n, rfl⟩ : ∃ n', n = n' + 1 := ⟨n - 1, by omega⟩
    rw [l86_81, l303_57]
    by_cases e : Int32.ofNat l ≤ Int32.ofNat j
    · exact q_pl e (q_pr e ⟨_, _, rfl, rfl, H⟩)
    · have e' := e
      rw [i_le (by omega) (by omega)] at e'
      refine q_nl e (q_nr e (q_pr rfl (q_b11 (p_make H rfl) (fun c1 r1 H1 => ?_))))
      rw [on_s]
      exact ih (j + 1) n c1 r1 (by omega) (by omega) (by omega) H1
theorem p_padz {l : Nat} {a1 : Int32} {s6 s7 t6 t7 : Int64} (hl : l ≤ 9) : ∀ (d j n : Nat) (c r : xA), l ≤ j + d → j ≤ 100 → d < n → PP q7 q8 w4 w5 c0 r0 c r → Q2 (l86_81 N h b a1 (Int32.ofNat l) 48 s6 s7 n (Int32.ofNat j) c) (l303_93 N h b (Int32.ofNat l) 1 t6 t7 n (Int32.ofNat j) r) (fun p q => PP q7 q8 w4 w5 c0 r0 p.2 q.2) := by
  intro d
  induction d with
  | zero =>
    intro j n c r h1 h2 h3 H
    obtain ⟨n, rfl⟩ : ∃ n', n = n' + 1 := ⟨n - 1, by omega⟩
    have e : Int32.ofNat l ≤ Int32.ofNat j := by rw [i_le (by omega) (by omega)]; omega
    rw [l86_81, l303_93, if_pos e, if_pos e]
    exact ⟨_, _, rfl, rfl, H⟩
  | succ d ih =>
    intro j n c r h1 h2 h3 H
    obtain ⟨n, rfl⟩ : ∃ n', n = n' + 1 := ⟨n - 1, by omega⟩
    rw [l86_81, l303_93]
    by_cases e : Int32.ofNat l ≤ Int32.ofNat j
    · exact q_pl e (q_pr e ⟨_, _, rfl, rfl, H⟩)
    · have e' := e
      rw [i_le (by omega) (by omega)] at e'
      refine q_nl e (q_nr e (q_nr (by decide) (q_b11 (p_make H rfl) (fun c1 r1 H1 => ?_))))
      rw [on_s]
      exact ih (j + 1) n c1 r1 (by omega) (by omega) (by omega) H1
theorem e_57 {b1 w2 q9 : Int32} {t6 t7 : Int64} (hN : 100000 ≤ N) : l303_57 N h b b1 w2 1 t6 t7 q9 N v r = some (0, r) := by
  obtain ⟨n, rfl⟩ : ∃ n', N = n' + 1 := ⟨N - 1, by omega⟩
  rw [l303_57]
  split
  · rfl
  · rw [if_neg (by decide)]
theorem e_93 {w2 : Int32} {t6 t7 : Int64} (hN : 100000 ≤ N) : l303_93 N h b w2 0 t6 t7 N v r = some (0, r) := by
  obtain ⟨n, rfl⟩ : ∃ n', N = n' + 1 := ⟨N - 1, by omega⟩
  rw [l303_93]
  split
  · rfl
  · rw [if_pos rfl]
theorem p_dec {l : Nat} {e : Int32} (hN : 100000 ≤ N) (hl : l ≤ 9) (hw : w = 32 ∧ e = 0 ∨ w = 48 ∧ e = 1) (H : PP q7 q8 w4 w5 c0 r0 c r) : Q2 (f86_makeDecimal N h b x (Int32.ofNat l) w c) (f303_decimals N h b x (Int32.ofNat l) e r) (fun p q => PP q7 q8 w4 w5 c0 r0 p q) := by
  obtain ⟨A, hA, a1, a2, a3⟩ := abs1 (x := x)
  have eC : f86_makeDecimal N h b x (Int32.ofNat l) w c = j86_12 N h b x (Int32.ofNat l) w (Int64.ofNat A) c := by
    unfold f86_makeDecimal
    by_cases q : 0 ≤ x
    · rw [if_pos q, a1 q]
    · rw [if_neg q, a2 q]
  rw [eC]
  unfold f303_decimals j86_12
  rw [a3]
  have en : ∃ g : Nat, g ≤ 1 ∧ (if 0 ≤ x then (1 : Int32) else 2) = Int32.ofNat (0 + 1 + g) ∧ (if 0 ≤ x then (0 : Int32) else 1) = Int32.ofNat g := by
    by_cases q : 0 ≤ x
    · exact ⟨0, by omega, by rw [if_pos q]; rfl, by rw [if_pos q]; rfl⟩
    · exact ⟨1, by omega, by rw [if_neg q]; rfl, by rw [if_neg q]; rfl⟩
  obtain ⟨g, hg, eg1, eg2⟩ := en
  rw [eg1, eg2]
  obtain ⟨k, k1, k2, k3⟩ := p_unit (N := N) (h := h) (b := b) (c := c) (r := r) (a1 := x) (a2 := Int32.ofNat l) (a3 := w) (b1 := x) (b2 := Int32.ofNat l) (b3 := e) g hg hA c r 9 0 N (by omega) (by omega)
  have k2' : l86_28 N h b x (Int32.ofNat l) w (Int64.ofNat A) N 1 (Int32.ofNat (0 + 1 + g)) c = some (0, Int64.ofNat (10 ^ k), Int32.ofNat (k + 1 + g), c) := k2
  have k3' : l303_13 N h b x (Int32.ofNat l) e (Int64.ofNat A) N 1 1 r = some (0, Int64.ofNat (10 ^ k), Int32.ofNat (k + 1), r) := k3
  rw [k2', k3', Option.bind_some, Option.bind_some]
  dsimp only
  rw [← Int32.ofNat_add]
  have kp : 10 ^ k < 10 ^ (k + 1) := Nat.pow_lt_pow_right (by decide) (by omega)
  have digs : ∀ {c1 r1 : xA}, PP q7 q8 w4 w5 c0 r0 c1 r1 → Q2 ((l86_114 N h b (Int64.ofNat A) N (Int64.ofNat (10 ^ k)) c1).bind (fun z => some z.2)) ((l303_115 N h b (Int64.ofNat A) N (Int64.ofNat (10 ^ k)) r1).bind (fun z => some z.2)) (fun p q => PP q7 q8 w4 w5 c0 r0 p q) := fun H1 => q_bb (p_digs (by omega) (k + 1) N _ _ _ kp (by omega) (by omega) H1) (fun p q hh => q_ok1 hh)
  unfold j86_61 j86_77 j303_79 j303_89
  rcases hw with ⟨e1, e2⟩ | ⟨e1, e2⟩ <;> subst e1 <;> subst e2
  · by_cases q : 0 ≤ x
    · rw [if_pos q]
      refine q_bb (p_padb hl 9 _ N c r (by omega) (by omega) (by omega) H) (fun p1 q1 H1 => ?_)
      rw [if_pos q, if_pos q, e_93 hN, Option.bind_some]
      exact digs H1
    · rw [if_neg q, if_pos rfl]
      refine q_bb (p_padb hl 9 _ N c r (by omega) (by omega) (by omega) H) (fun p1 q1 H1 => ?_)
      rw [if_neg q, if_pos rfl, if_neg q]
      refine q_b11 (p_make H1 rfl) (fun c1 r1 H2 => ?_)
      rw [e_93 hN, Option.bind_some]
      exact digs H2
  · rw [e_57 hN, Option.bind_some]
    by_cases q : 0 ≤ x
    · rw [if_pos q, if_pos q]
      refine q_bb (p_padz hl 9 _ N c r (by omega) (by omega) (by omega) H) (fun p1 q1 H1 => ?_)
      rw [if_pos q]
      exact digs H1
    · rw [if_neg q, if_neg (by decide), if_neg q]
      refine q_b11 (p_make H rfl) (fun c1 r1 H1 => ?_)
      refine q_bb (p_padz hl 9 _ N c1 r1 (by omega) (by omega) (by omega) H1) (fun p1 q1 H2 => ?_)
      rw [if_neg q, if_neg (by decide)]
      exact digs H2
theorem d_skl (hN : 100000 ≤ N) (H : Vw h b P S row n c r G) : ∀ (k i f : Nat) (v : Int32), n ≤ i + k → i ≤ n → k < f → WFp G n i → Q2 (l85_6 N h b P (Int32.ofNat (S + n)) w f v (Int32.ofNat (S + i)) c) (l304_6 N h b (Int32.ofNat row) w f (Int32.ofNat i) v r) (fun p q => ∃ j, i ≤ j ∧ j ≤ n ∧ WFp G n j ∧ p.2.2 = c ∧ q.2.2.2 = r ∧ ((p.1 = 0 ∧ p.2.1 = Int32.ofNat (S + j) ∧ q.1 = 0 ∧ q.2.1 + q.2.2.1 = Int32.ofNat j) ∨ (p.1 = 1 ∧ q.1 = 1 ∧ q.2.1 = Int32.ofNat j ∧ j = n))) := by
  intro k
  induction k with
  | zero =>
    intro i f v h1 h2 h3 hW
    obtain ⟨⟨a1, a2, a3, a4, a5⟩, a6, _⟩ := id H
    obtain ⟨f, rfl⟩ : ∃ f', f = f' + 1 := ⟨f - 1, by omega⟩
    have : i = n := by omega
    subst this
    rw [l85_6, l304_6, if_pos (by rw [i_le (by omega) (by omega)]; omega), xg_pos (g_ix a5 (by omega)), i_cl (by omega), a6, if_pos (by rw [i_le (by omega) (by omega)]; omega)]
    exact ⟨_, _, rfl, rfl, i, Nat.le_refl _, Nat.le_refl _, hW, rfl, rfl, Or.inr ⟨rfl, rfl, rfl, rfl⟩⟩
  | succ k ih =>
    intro i f v h1 h2 h3 hW
    obtain ⟨⟨a1, a2, a3, a4, a5⟩, a6, a7, a8, a9⟩ := id H
    obtain ⟨f, rfl⟩ : ∃ f', f = f' + 1 := ⟨f - 1, by omega⟩
    by_cases hi : i < n
    · obtain ⟨t0, hW'⟩ := WFp_s hW hi
      obtain ⟨tl1, tl2⟩ := tl_le H hi t0
      rw [l85_6, l304_6]
      refine q_nl (by rw [i_le (by omega) (by omega)]; omega) (q_hr (g_ix a5 (by omega)) ?_)
      rw [i_cl (by omega), a6]
      refine q_nr (by rw [i_le (by omega) (by omega)]; omega) (q_l2 (e_tl H hi hN) (q_r2 (e_it H (by omega) hN) (q_r2 (e_byte H (by omega)) ?_)))
      rw [mx1 (by omega), Nat.max_eq_right tl2]
      have next : ∀ v' : Int32, Q2 (l85_6 N h b P (Int32.ofNat (S + n)) w f v' (Int32.ofNat (S + i) + Int32.ofNat (tl G i)) c) (l304_6 N h b (Int32.ofNat row) w f (Int32.ofNat i + Int32.ofNat (tl G i)) v' r) (fun p q => ∃ j, i ≤ j ∧ j ≤ n ∧ WFp G n j ∧ p.2.2 = c ∧ q.2.2.2 = r ∧ ((p.1 = 0 ∧ p.2.1 = Int32.ofNat (S + j) ∧ q.1 = 0 ∧ q.2.1 + q.2.2.1 = Int32.ofNat j) ∨ (p.1 = 1 ∧ q.1 = 1 ∧ q.2.1 = Int32.ofNat j ∧ j = n))) := by
        intro v'
        rw [← Int32.ofNat_add, ← Int32.ofNat_add, Nat.add_assoc]
        refine q_mono (ih (i + tl G i) f v' (by omega) tl1 (by omega) hW') (fun p q hh => ?_)
        obtain ⟨j, g1, g2⟩ := hh
        exact ⟨j, by omega, g2⟩
      have ret : Q2 (some (0, Int32.ofNat (S + i) + Int32.ofNat (tl G i), c)) (some (0, Int32.ofNat i, Int32.ofNat (tl G i), r)) (fun (p : Nat × Int32 × xA) (q : Nat × Int32 × Int32 × xA) => ∃ j, i ≤ j ∧ j ≤ n ∧ WFp G n j ∧ p.2.2 = c ∧ q.2.2.2 = r ∧ ((p.1 = 0 ∧ p.2.1 = Int32.ofNat (S + j) ∧ q.1 = 0 ∧ q.2.1 + q.2.2.1 = Int32.ofNat j) ∨ (p.1 = 1 ∧ q.1 = 1 ∧ q.2.1 = Int32.ofNat j ∧ j = n))) := by
        refine ⟨_, _, rfl, rfl, i + tl G i, by omega, tl1, hW', rfl, rfl, Or.inl ⟨rfl, ?_, rfl, ?_⟩⟩
        · dsimp only
          rw [← Int32.ofNat_add, Nat.add_assoc]
        · dsimp only
          rw [← Int32.ofNat_add]
      unfold j304_59 j304_71 j304_93 j304_103
      have cls : ∀ {A B : Option (Nat × Int32 × xA)} {R : Option (Nat × Int32 × Int32 × xA)} {Qx : (Nat × Int32 × xA) → (Nat × Int32 × Int32 × xA) → Prop} {X : Int32 → Option (Nat × Int32 × xA)}, (tl G i = 2 → G i = 37 → Q2 (X (G (i + 1))) R Qx) → (tl G i ≠ 2 → Q2 (X (-1)) R Qx) → Q2 (if Int32.ofNat (tl G i) = 2 then (xg (¬ (Int32.ofNat (S + i) + 1 < 0 ∨ xl h b P ≤ (Int32.ofNat (S + i) + 1).toNatClampNeg)) (X (c P ((Int32.ofNat (S + i) + 1).toNatClampNeg)))) else (X (-1))) R Qx := by
        intro A B R Qx X g1 g2
        by_cases t2 : tl G i = 2
        · have l1 : i + 1 < n := by omega
          have z1 : G i = 37 := by
            by_cases q : G i = 37
            · exact q
            · have : tl G i = 1 := if_neg q
              omega
          refine q_pl (by rw [t2]; rfl) ?_
          rw [on_s, Nat.add_assoc]
          refine q_hl (g_S H l1) ?_
          rw [e_S H l1]
          exact g1 t2 z1
        · exact q_nl (by rw [show (2 : Int32) = Int32.ofNat 2 from rfl, i_eq (by omega) (by decide)]; exact t2) (g2 t2)
      have no2 : tl G i ≠ 2 → G i = 37 → ¬ smp (G (i + 1)) := fun g1 g2 g3 => g1 (tl_2 g2 g3)
      refine cls (A := none) (B := none) (X := fun t => j85_41 N h b (l85_6 N h b P (Int32.ofNat (S + n)) w f) P (Int32.ofNat (S + n)) w v (Int32.ofNat (S + i)) (Int32.ofNat (tl G i)) t c) (fun t2 z1 => ?_) (fun t2 => ?_)
      · unfold j85_41 j85_76 j85_99
        refine q_pr z1 (q_r2 (e_by1 H (by omega)) ?_)
        by_cases k1 : G (i + 1) = 59
        · refine q_nr (by rw [k1]; decide) (q_pr k1 ?_)
          by_cases v0 : v = 0
          · exact q_pl v0 (q_pl k1 (q_pr v0 ret))
          · refine q_nl v0 (q_nl (by rw [k1]; decide) (q_pl k1 (q_nr v0 (q_nr (by rw [k1]; decide) (q_pr k1 (next _))))))
        by_cases k2 : G (i + 1) = 101
        · refine q_nr (by rw [k2]; decide) (q_nr k1 (q_pr k2 ?_))
          by_cases v0 : v = 0
          · refine q_pl v0 (q_nl k1 (q_pl k2 (q_pr v0 ?_)))
            by_cases w0 : w = 0
            · exact q_pl w0 (q_pr w0 (q_nl (by rw [k2]; decide) (q_nl k1 (q_nr k1 (next _)))))
            · exact q_nl w0 (q_nr w0 ret)
          · exact q_nl v0 (q_nr v0 (q_nl (by rw [k2]; decide) (q_nl k1 (q_nr k1 (next _)))))
        by_cases k3 : G (i + 1) = 63
        · refine q_pr k3 (q_nr k1 (q_nr k2 (q_nr k1 ?_)))
          by_cases v0 : v = 0
          · exact q_pl v0 (q_nl k1 (q_nl k2 (q_pl k3 (next _))))
          · exact q_nl v0 (q_pl k3 (next _))
        · refine q_nr k3 (q_nr k1 (q_nr k2 (q_nr k1 ?_)))
          by_cases v0 : v = 0
          · exact q_pl v0 (q_nl k1 (q_nl k2 (q_nl k3 (q_nl k1 (next _)))))
          · exact q_nl v0 (q_nl k3 (q_nl k1 (next _)))
      · have cl : ∀ {R : Option (Nat × Int32 × Int32 × xA)} {Qx : (Nat × Int32 × xA) → (Nat × Int32 × Int32 × xA) → Prop} {X Y Z W V U : Option (Nat × Int32 × xA)}, Q2 U R Qx → Q2 (if v = 0 then (if (-1 : Int32) = 59 then X else (if (-1 : Int32) = 101 then Y else (if (-1 : Int32) = 63 then Z else (if (-1 : Int32) = 59 then W else U)))) else (if (-1 : Int32) = 63 then V else (if (-1 : Int32) = 59 then W else U))) R Qx := by
          intro R Qx X Y Z W V U g
          by_cases v0 : v = 0
          · exact q_pl v0 (q_nl (by decide) (q_nl (by decide) (q_nl (by decide) (q_nl (by decide) g))))
          · exact q_nl v0 (q_nl (by decide) (q_nl (by decide) g))
        unfold j85_41 j85_76 j85_99
        refine cl ?_
        by_cases z1 : G i = 37
        · have ns := no2 t2 z1
          have k1 : ¬ G (i + 1) = 59 := fun e => ns (by rw [e]; decide)
          have k2 : ¬ G (i + 1) = 101 := fun e => ns (by rw [e]; decide)
          have k3 : ¬ G (i + 1) = 63 := fun e => ns (by rw [e]; decide)
          exact q_pr z1 (q_r2 (e_by1 H (by omega)) (q_nr k3 (q_nr k1 (q_nr k2 (q_nr k1 (next _))))))
        · exact q_nr z1 (next _)
    · exact ih i (f + 1) v (by omega) h2 (by omega) hW
theorem d_skip (hN : 100000 ≤ N) (H : Vw h b P S row n c r G) (hi : i ≤ n) (hW : WFp G n i) : ∃ j, i ≤ j ∧ j ≤ n ∧ WFp G n j ∧ f85_skip N h b P (Int32.ofNat (S + i)) (Int32.ofNat (S + n)) w c = some (Int32.ofNat (S + j), c) ∧ f304_past N h b (Int32.ofNat row) (Int32.ofNat i) w r = some (Int32.ofNat j, r) := by
  obtain ⟨⟨a1, a2, a3, a4, a5⟩, _⟩ := id H
  obtain ⟨p, q, e1, e2, j, g1, g2, g3, g4, g5, g6⟩ := d_skl (w := w) hN H n i N 0 (by omega) hi (by omega) hW
  refine ⟨j, g1, g2, g3, ?_, ?_⟩
  · unfold f85_skip
    rw [xg_pos a1, e1, Option.bind_some, g4]
    rcases g6 with ⟨k1, k2, k3, k4⟩ | ⟨k1, k2, k3, k4⟩
    · rw [k1, if_pos rfl, k2]
    · rw [k1, if_neg (by decide), k4]
  · unfold f304_past j304_87
    rw [e2, Option.bind_some, g5]
    rcases g6 with ⟨k1, k2, k3, k4⟩ | ⟨k1, k2, k3, k4⟩
    · rw [k3, if_pos rfl, k4]
    · rw [k2, if_neg (by decide), k3]
theorem e_nal (H : Vw h b P S row n c r G) (hi : i < n) : ∀ (k m f : Nat) (v : Int32), m + k = 5 → k < f → l87_5 N h b P (Int32.ofNat (S + (i + 2))) (Int32.ofNat (S + n)) f v (Int32.ofNat m) c = some (0, vl G (dc G k (i + 2 + m)) (i + 2 + m) v, c)
  | 0, m, f, v, h1, h2 => by
    obtain ⟨f, rfl⟩ : ∃ f', f = f' + 1 := ⟨f - 1, by omega⟩
    have : m = 5 := by omega
    subst this
    rw [l87_5, if_pos (by decide)]
    rfl
  | k + 1, m, f, v, h1, h2 => by
    obtain ⟨⟨a1, a2, a3, a4, a5⟩, _, _, _, a9⟩ := id H
    obtain ⟨f, rfl⟩ : ∃ f', f = f' + 1 := ⟨f - 1, by omega⟩
    rw [l87_5, if_neg (by rw [show (5 : Int32) = Int32.ofNat 5 from rfl, i_le (by decide) (by omega)]; omega), ← Int32.ofNat_add, Nat.add_assoc]
    by_cases q : i + 2 + m < n
    · rw [if_neg (by rw [i_le (by omega) (by omega)]; omega), xg_pos (g_S H q), e_S H q, e_dg, b2_some]
      by_cases z : 48 ≤ G (i + 2 + m) ∧ G (i + 2 + m) ≤ 57
      · rw [if_neg (by rw [zb_t z]; decide), on_s, e_nal H hi k (m + 1) f _ (by omega) (by omega)]
        have e1 : dc G (k + 1) (i + 2 + m) = dc G k (i + 2 + m + 1) + 1 := if_pos z
        rw [e1, Int32.mul_comm v 10, e_S H q]
        rfl
      · have e1 : dc G (k + 1) (i + 2 + m) = 0 := if_neg z
        rw [e1, if_pos (zb_f z)]
        rfl
    · have e1 : dc G (k + 1) (i + 2 + m) = 0 := if_neg (by rw [a9 _ (by omega)]; decide)
      rw [if_pos (by rw [i_le (by omega) (by omega)]; omega), e1]
      rfl
theorem e_nrl {u4 u5 u7 u8 u12 : Int32} (H : Vw h b P S row n c r G) : ∀ (d p f : Nat) (v : Int32), p + d < 1000 → (∀ m, m < d → 48 ≤ G (p + m) ∧ G (p + m) ≤ 57) → G (p + d) = 125 → d < f → l299_351 N h b u4 u5 (Int32.ofNat row) u7 u8 u12 f v (Int32.ofNat p) r = some (0, vl G d p v, r)
  | 0, p, f, v, h0, h1, h2, h3 => by
    obtain ⟨f, rfl⟩ : ∃ f', f = f' + 1 := ⟨f - 1, by omega⟩
    rw [l299_351, e_byte H (by omega), b2_some, if_pos (show G p = 125 from h2)]
    rfl
  | d + 1, p, f, v, h0, h1, h2, h3 => by
    obtain ⟨f, rfl⟩ : ∃ f', f = f' + 1 := ⟨f - 1, by omega⟩
    have g := h1 0 (by omega)
    rw [Nat.add_zero] at g
    rw [l299_351, e_byte H (by omega), b2_some, if_neg (by intro e; rw [e] at g; exact absurd g (by decide)), e_byte H (by omega), b2_some, on_s, e_nrl H d (p + 1) f _ (by omega) (fun m hm => by rw [show p + 1 + m = p + (m + 1) by omega]; exact h1 (m + 1) (by omega)) (by rw [show p + 1 + d = p + (d + 1) by omega]; exact h2) (by omega)]
    rfl
end T
