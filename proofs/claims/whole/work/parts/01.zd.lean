/-! The keyboard: the scan. -/
section T
variable {N h b : Nat} {c0 r0 c r c' r' : xA} {x y z s v w : Int32} {j : Nat}
theorem e_rpt {a : xA} : f202_isRepeatable N h b x a = some (zb (¬ (x = 22 ∨ x = 23 ∨ x = 26 ∨ x = 27 ∨ x = 28)), a) := by
  unfold f202_isRepeatable xg zb
  grind
def rpR (N h b : Nat) (rc : Int32 → Int32 → xA → Option (Nat × xA)) (v1 v2 : Int32) (a25 : xA) : Option (Nat × xA) := if v2 = 22 then (j377_105 N h b rc (v1 + 1) v2 a25) else (if v2 = 23 then (j377_105 N h b rc (v1 + 1) v2 a25) else (if v2 < 26 then (j377_109 N h b rc (v1 + 1) v2 a25) else (if (if 28 < v2 then (0 : Int32) else (1 : Int32)) = 0 then (xw (xU a25 157 120 v2) (fun a47 => xw (xU a47 157 121 ((a47 157 71) + 32)) (fun a50 => j377_131 N h b rc (v1 + 1) v2 a50))) else (j377_131 N h b rc (v1 + 1) v2 a25))))
theorem e_rpR {rc : Int32 → Int32 → xA → Option (Nat × xA)} {v1 v2 : Int32} {a : xA} : rpR N h b rc v1 v2 a = if v2 = 22 ∨ v2 = 23 ∨ v2 = 26 ∨ v2 = 27 ∨ v2 = 28 then rc (v1 + 1) (v2 + 1) a else rc (v1 + 1) (v2 + 1) (xU (xU a 157 120 v2) 157 121 (a 157 71 + 32)) := by
  have e : (xU a 157 120 v2) 157 71 = a 157 71 := xU_s (by decide)
  unfold rpR j377_105 j377_109 j377_110 j377_131 xw
  simp only [e]
  grind
theorem SC_rp (H : SC h b c0 r0 c r) (hj : j < 127) (hk : ¬ (29 ≤ j ∧ j ≤ 31)) (hs : c 125 j = 1) : SC h b c0 r0 (xU (xU c 123 3 (Int32.ofNat j)) 123 4 v) (xU (xU r 157 120 (Int32.ofNat j)) 157 121 v) := by
  obtain ⟨k1, k2, ⟨k3, k4, k5⟩, k6⟩ := id H.2.1
  refine SC_k H (fun p hp => by rw [xU_o (by omega), xU_o (by omega)]) (fun p hp hp2 => by rw [xU_o hp, xU_o hp]) (fun i hi hi2 => by rw [xU_s hi2, xU_s hi]) ⟨?_, ?_, ⟨?_, ?_, Or.inr ⟨j, hj, hk, ?_, ?_⟩⟩, ?_⟩
  · intro i hi
    rw [xU_o (show (124 : Nat) ≠ 123 by decide), xU_o (show (124 : Nat) ≠ 123 by decide), xU_o (show (125 : Nat) ≠ 123 by decide), xU_o (show (125 : Nat) ≠ 123 by decide), xU_o (show (194 : Nat) ≠ 157 by decide), xU_o (show (194 : Nat) ≠ 157 by decide), xU_o (show (195 : Nat) ≠ 157 by decide), xU_o (show (195 : Nat) ≠ 157 by decide)]
    exact k1 i hi
  · intro i hi hi2
    rw [xU_o (show (124 : Nat) ≠ 123 by decide), xU_o (show (124 : Nat) ≠ 123 by decide), xU_o (show (125 : Nat) ≠ 123 by decide), xU_o (show (125 : Nat) ≠ 123 by decide)]
    exact k2 i hi hi2
  · simp [xU_eq]
  · rw [xU_e, xU_e]
  · rw [xU_s (by decide), xU_e]
  · rw [xU_o (by decide), xU_o (by decide)]; exact hs
  · have ke := kn_s (c := c) (c' := xU (xU c 123 3 (Int32.ofNat j)) 123 4 v) (j := 200) (fun i _ => dn_eq (by rw [xU_o (by decide), xU_o (by decide)]) (by rw [xU_o (by decide), xU_o (by decide)])) 127
    rw [if_neg (by decide), if_neg (by decide)] at ke
    have ke2 : kn (xU (xU c 123 3 (Int32.ofNat j)) 123 4 v) 127 = kn c 127 := by omega
    rw [ke2, xU_s (by decide), xU_s (by decide)]
    exact k6
theorem SC_rt (H : SC h b c0 r0 c r) : SC h b c0 r0 (xU c 123 4 v) (xU r 157 121 v) := by
  obtain ⟨k1, k2, ⟨k3, k4, k5⟩, k6⟩ := id H.2.1
  refine SC_k H (fun p hp => by rw [xU_o (by omega)]) (fun p hp hp2 => by rw [xU_o hp]) (fun i hi hi2 => by rw [xU_s hi2]) ⟨?_, ?_, ⟨?_, ?_, ?_⟩, ?_⟩
  · intro i hi
    rw [xU_o (show (124 : Nat) ≠ 123 by decide), xU_o (show (125 : Nat) ≠ 123 by decide), xU_o (show (194 : Nat) ≠ 157 by decide), xU_o (show (195 : Nat) ≠ 157 by decide)]
    exact k1 i hi
  · intro i hi hi2
    rw [xU_o (show (124 : Nat) ≠ 123 by decide), xU_o (show (125 : Nat) ≠ 123 by decide)]
    exact k2 i hi hi2
  · rw [xU_s (by decide), xU_s (by decide)]; exact k3
  · rw [xU_e, xU_e]
  · rw [xU_s (by decide), xU_o (by decide)]; exact k5
  · have ke := kn_s (c := c) (c' := xU c 123 4 v) (j := 200) (fun i _ => dn_eq (by rw [xU_o (by decide)]) (by rw [xU_o (by decide)])) 127
    rw [if_neg (by decide), if_neg (by decide)] at ke
    have ke2 : kn (xU c 123 4 v) 127 = kn c 127 := by omega
    rw [ke2, xU_s (by decide)]
    exact k6
theorem SC_see (H : SC h b c0 r0 c r) (hj : j < 127) (h1 : ¬ c 124 j = 0) : SC h b c0 r0 (xU c 125 j 1) (xU r 195 j 1) := by
  obtain ⟨k1, k2, ⟨k3, k4, k5⟩, k6⟩ := id H.2.1
  have hk : ¬ (29 ≤ j ∧ j ≤ 31) := fun e => h1 (k2 j e.1 e.2).1
  refine SC_k H (fun p hp => by rw [xU_o (by omega)]) (fun p hp hp2 => by rw [xU_o (by omega)]) (fun i hi hi2 => by rw [xU_o (by decide)]) ⟨?_, ?_, ⟨?_, ?_, ?_⟩, ?_⟩
  · intro i hi
    rw [xU_o (show (124 : Nat) ≠ 125 by decide), xU_o (show (194 : Nat) ≠ 195 by decide)]
    obtain ⟨t1, t2, t3, t4⟩ := k1 i hi
    by_cases e : i = j
    · subst e
      rw [xU_e, xU_e]
      exact ⟨t1, t2, rfl, Or.inr rfl⟩
    · rw [xU_s e, xU_s e]
      exact ⟨t1, t2, t3, t4⟩
  · intro i hi hi2
    rw [xU_o (show (124 : Nat) ≠ 125 by decide), xU_s (by omega)]
    exact k2 i hi hi2
  · rw [xU_o (by decide), xU_o (by decide)]; exact k3
  · rw [xU_o (by decide), xU_o (by decide)]; exact k4
  · rw [xU_o (by decide)]
    rcases k5 with q | ⟨k, q1, q2, q3, q4⟩
    · exact Or.inl q
    · refine Or.inr ⟨k, q1, q2, q3, ?_⟩
      by_cases e : k = j
      · subst e; rw [xU_e]
      · rw [xU_s e]; exact q4
  · have ke := kn_s (c := c) (c' := xU c 125 j 1) (j := j) (fun i hi => dn_eq (by rw [xU_o (by decide)]) (by rw [xU_s hi])) 127
    have d1 : dn (xU c 125 j 1) j = 1 := by
      unfold dn
      rw [xU_o (by decide), if_neg (fun q => h1 q.1)]
    have d2 : dn c j = 1 := by
      unfold dn
      rw [if_neg (fun q => h1 q.1)]
    rw [d1, d2] at ke
    have ke2 : kn (xU c 125 j 1) 127 = kn c 127 := by omega
    rw [ke2, xU_o (by decide)]
    exact k6
theorem jk (hj : j < 127) (hk : ¬ (29 ≤ j ∧ j ≤ 31)) : 0 ≤ Int32.ofNat j ∧ Int32.ofNat j ≤ 126 ∧ (Int32.ofNat j ≤ 28 ∨ 32 ≤ Int32.ofNat j) := by
  rw [show (0 : Int32) = Int32.ofNat 0 from rfl, show (126 : Int32) = Int32.ofNat 126 from rfl, show (28 : Int32) = Int32.ofNat 28 from rfl, show (32 : Int32) = Int32.ofNat 32 from rfl, i_le (by omega) (by omega), i_le (by omega) (by omega), i_le (by omega) (by omega), i_le (by omega) (by omega)]
  omega
theorem d_scl (hN : 100000 ≤ N) (hw : r0 157 71 = w) : ∀ (k j n : Nat) (s : Int32) (c r : xA), j + k = 127 → k < n → SC h b c0 r0 c r → Q2 (l193_13 N h b w n s (Int32.ofNat j) c) (l377_4 N h b n s (Int32.ofNat j) r) (fun p q => SC h b c0 r0 p.2 q.2)
  | 0, j, n, s, c, r, h1, h2, H => by
    obtain ⟨m, rfl⟩ : ∃ m, n = m + 1 := ⟨n - 1, by omega⟩
    have : j = 127 := by omega
    subst this
    rw [l193_13, l377_4, if_pos (by decide), if_pos (by decide)]
    exact ⟨_, _, rfl, rfl, H⟩
  | k + 1, j, n, s, c, r, h1, h2, H => by
    obtain ⟨m, rfl⟩ : ∃ m, n = m + 1 := ⟨n - 1, by omega⟩
    have next : ∀ (s : Int32) (c r : xA), SC h b c0 r0 c r → Q2 (l193_13 N h b w m s (Int32.ofNat j + 1) c) (l377_4 N h b m s (Int32.ofNat j + 1) r) (fun p q => SC h b c0 r0 p.2 q.2) := by
      intro s c r H
      rw [on_s]
      exact d_scl hN hw k (j + 1) m s c r (by omega) (by omega) H
    rw [l193_13, l377_4]
    have n127 : ¬ (127 : Int32) ≤ Int32.ofNat j := by
      rw [show (127 : Int32) = Int32.ofNat 127 from rfl, i_le (by decide) (by omega)]; omega
    refine q_nl n127 (q_nr n127 (q_r2 e_isk (q_hl (g_ix (by omega) (by omega)) ?_)))
    rw [i_cl (by omega)]
    unfold j193_94 j377_131
    obtain ⟨k1, k2, ⟨k3, k4, k5⟩, k6⟩ := id H.2.1
    obtain ⟨t1, t2, t3, t4⟩ := k1 j (by omega)
    by_cases hk : 29 ≤ j ∧ j ≤ 31
    · have nk : ¬ (0 ≤ Int32.ofNat j ∧ Int32.ofNat j ≤ 28 ∨ 32 ≤ Int32.ofNat j ∧ Int32.ofNat j ≤ 126) := by
        rw [show (0 : Int32) = Int32.ofNat 0 from rfl, show (126 : Int32) = Int32.ofNat 126 from rfl, show (28 : Int32) = Int32.ofNat 28 from rfl, show (32 : Int32) = Int32.ofNat 32 from rfl, i_le (by omega) (by omega), i_le (by omega) (by omega), i_le (by omega) (by omega), i_le (by omega) (by omega)]
        omega
      refine q_pr (zb_f nk) (q_pl (k2 j hk.1 hk.2).1 ?_)
      have er : f194_release N h b (Int32.ofNat j) c = some c := by
        unfold f194_release j194_26
        rw [xg_pos (g_ix (by omega) (by omega)), i_cl (by omega), if_pos (k2 j hk.1 hk.2).2, if_neg]
        intro e
        rcases k5 with q | ⟨k, q1, q2, q3, q4⟩
        · rw [q] at e
          have := zf (j := j) (by omega)
          rw [← e] at this
          exact absurd this (by decide)
        · rw [q3, i_eq (by omega) (by omega)] at e
          omega
      exact q_l1 er (next s c r H)
    obtain ⟨j0, j1, j2⟩ := jk (j := j) (by omega) hk
    have jj : 0 ≤ Int32.ofNat j ∧ Int32.ofNat j ≤ 28 ∨ 32 ≤ Int32.ofNat j ∧ Int32.ofNat j ≤ 126 := by
      rcases j2 with q | q
      · exact Or.inl ⟨j0, q⟩
      · exact Or.inr ⟨q, j1⟩
    refine q_nr (by rw [zb_t jj]; decide) ?_
    refine q_hr (by rw [i_neg (by omega)]; have hj : j < 127 := (by omega); simp; exact hj) ?_
    rw [← t1]
    by_cases z1 : c 124 j = 0
    · refine q_pl z1 (q_pr z1 ?_)
      obtain ⟨c', r', e1, e2, e3⟩ := d_rel (N := N) (K := fun a => l377_4 N h b m s (Int32.ofNat j + 1) a) H (by omega) hk z1
      rw [e1, e2]
      exact next s c' r' e3
    refine q_nl z1 (q_nr z1 ?_)
    rw [← t3]
    by_cases z2 : c 125 j = 0
    · refine q_pl z2 (q_pr z2 ?_)
      by_cases z3 : 3 ≤ s
      · exact q_pl z3 (q_pr z3 (next s c r H))
      refine q_nl z3 (q_nr z3 (q_wl.mpr (q_wr.mpr ?_)))
      have H1 := SC_see H (by omega) z1
      refine q_b11 (d_strike hN H1.1 (H1.2.1.1 28 (by decide)).1 j0 j1 j2) (fun c2 r2 h5 => ?_)
      have H2 := SC_str H1 h5.1 h5.2
      show Q2 _ (rpR N h b (l377_4 N h b m) s (Int32.ofNat j) r2) _
      rw [e_rpR]
      refine q_l2 e_rpt ?_
      by_cases z4 : Int32.ofNat j = 22 ∨ Int32.ofNat j = 23 ∨ Int32.ofNat j = 26 ∨ Int32.ofNat j = 27 ∨ Int32.ofNat j = 28
      · exact q_pl (zb_f (fun q => q z4)) (q_pr z4 (next _ _ _ H2))
      · refine q_nl (by rw [zb_t z4]; decide) (q_nr z4 (q_wl.mpr (q_wl.mpr ?_)))
        have e71 : r2 157 71 = w := by
          rw [H2.2.2.2.2 71 (by unfold tI; omega) (by decide) (by decide)]; exact hw
        rw [e71]
        refine next _ _ _ (SC_rp H2 (by omega) hk ?_)
        rw [h5.2.1 125 (by decide) (by decide), xU_e]
    · exact q_nl z2 (q_nr z2 (next s c r H))
theorem d_scan (hN : 100000 ≤ N) (hw : r 157 71 = w) (H : SC h b c r c r) : Q2 (f193_scan N h b w c) (f377_scan N h b r) (fun p q => SC h b c r p q) := by
  have fin : ∀ {c1 r1 : xA}, SC h b c r c1 r1 → Q2 (if (c1 123 3) = (-1) then (some c1) else (xb2 (f197_has N h b 64 c1) (fun r41 a42 => if r41 = 0 then (some a42) else (if w < (a42 123 4) then (some a42) else (xb1 (f195_strike N h b (a42 123 3) a42) (fun a51 => xw (xU a51 123 4 (w + 4)) (fun a52 => some a52))))))) (if (r1 157 120) = (-1) then (some r1) else (xb2 (f363_mode N h b 64 r1) (fun r60 a61 => if r60 = 0 then (some a61) else (if (a61 157 71) < (a61 157 121) then (some a61) else (xb1 (f379_struck N h b (a61 157 120) a61) (fun a70 => xw (xU a70 157 121 ((a70 157 71) + 4)) (fun a71 => some a71))))))) (fun p q => SC h b c r p q) := by
    intro c1 r1 H
    obtain ⟨k1, k2, ⟨k3, k4, k5⟩, k6⟩ := id H.2.1
    have e71 : r1 157 71 = w := by
      rw [H.2.2.2.2 71 (by unfold tI; omega) (by decide) (by decide)]; exact hw
    have e10 : c1 136 10 = r1 157 98 := H.1.2.1.2.2.1.2.2.1
    rw [← k3]
    by_cases z1 : c1 123 3 = -1
    · exact q_pl z1 (q_pr z1 (q_ok1 H))
    refine q_nl z1 (q_nr z1 (q_l2 e_gh (q_r2 e_md ?_)))
    rw [e10]
    by_cases z2 : zb (¬ r1 157 98 &&& 64 = 0) = 0
    · exact q_pl z2 (q_pr z2 (q_ok1 H))
    refine q_nl z2 (q_nr z2 ?_)
    rw [e71, k4]
    by_cases z3 : w < r1 157 121
    · exact q_pl z3 (q_pr z3 (q_ok1 H))
    refine q_nl z3 (q_nr z3 ?_)
    rcases k5 with q | ⟨k, q1, q2, q3, q4⟩
    · exact absurd q z1
    obtain ⟨j0, j1, j2⟩ := jk (j := k) q1 q2
    rw [← k3, q3]
    refine q_b11 (d_strike hN H.1 (H.2.1.1 28 (by decide)).1 j0 j1 j2) (fun c2 r2 h5 => ?_)
    have H2 := SC_str H h5.1 h5.2
    have e72 : r2 157 71 = w := by
      rw [H2.2.2.2.2 71 (by unfold tI; omega) (by decide) (by decide)]; exact hw
    rw [e72]
    exact q_ok1 (SC_rt H2)
  have lp := d_scl (h := h) (b := b) (c0 := c) (r0 := r) hN hw 127 0 N 0 c r (by omega) (by omega) H
  unfold f193_scan f377_scan
  by_cases z : c 123 2 = 0
  · refine q_pl z ?_
    obtain ⟨k1, k2, ⟨k3, k4, k5⟩, k6⟩ := id H.2.1
    have kz : kn c 127 = 0 := by
      rw [k6, show (0 : Int32) = Int32.ofNat 0 from rfl, i_eq (by have := kn_le (c := c) 127; omega) (by decide)] at z
      exact z
    have hz := kn_0 127 kz
    have hz2 : ∀ i, i < 127 → c 124 i = 0 ∧ c 125 i = 0 := by
      intro i hi
      have := hz i hi
      unfold dn at this
      split at this
      · assumption
      · omega
    have hm : c 123 3 = -1 := by
      rcases k5 with q | ⟨k, q1, q2, q3, q4⟩
      · exact q
      · rw [(hz2 k q1).2] at q4
        exact absurd q4 (by decide)
    have idle : ∀ (k j n : Nat) (s : Int32), j + k = 127 → k < n → l377_4 N h b n s (Int32.ofNat j) r = some (0, r) := by
      intro k
      induction k with
      | zero =>
        intro j n s h1 h2
        obtain ⟨m, rfl⟩ : ∃ m, n = m + 1 := ⟨n - 1, by omega⟩
        have : j = 127 := by omega
        subst this
        rw [l377_4, if_pos (by decide)]
      | succ k ih =>
        intro j n s h1 h2
        obtain ⟨m, rfl⟩ : ∃ m, n = m + 1 := ⟨n - 1, by omega⟩
        have nx := ih (j + 1) m s (by omega) (by omega)
        have n127 : ¬ (127 : Int32) ≤ Int32.ofNat j := by
          rw [show (127 : Int32) = Int32.ofNat 127 from rfl, i_le (by decide) (by omega)]; omega
        obtain ⟨t1, t2, t3, t4⟩ := k1 j (by omega)
        rw [l377_4, if_neg n127, e_isk, b2_some, xg_pos (g_ix (by omega) (by omega)), i_cl (by omega)]
        unfold j377_131
        rw [on_s]
        by_cases z4 : zb (0 ≤ Int32.ofNat j ∧ Int32.ofNat j ≤ 28 ∨ 32 ≤ Int32.ofNat j ∧ Int32.ofNat j ≤ 126) = 0
        · rw [if_pos z4]; exact nx
        · rw [if_neg z4, ← t1, if_pos (hz2 j (by omega)).1]
          have e0 : xU r 195 j 0 = r := by
            have : r 195 j = 0 := by rw [← t3]; exact (hz2 j (by omega)).2
            rw [← this, xU_self]
          rw [e0]
          show (if r 157 120 = Int32.ofNat j then _ else _) = _
          rw [if_neg]
          · exact nx
          · intro e
            rw [← k3, hm] at e
            have := zf (j := j) (by omega)
            rw [← e] at this
            exact absurd this (by decide)
    rw [show (0 : Int32) = Int32.ofNat 0 from rfl, idle 127 0 N _ (by omega) (by omega)]
    show Q2 _ (if r 157 120 = -1 then some r else _) _
    exact q_pr (by rw [← k3]; exact hm) (q_ok1 H)
  · exact q_nl z (q_bb lp (fun p q h1 => fin h1))
end T
