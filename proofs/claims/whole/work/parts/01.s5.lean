/-! The line discipline: editing, and a byte that comes. -/
section D
variable {N h b : Nat} {c0 r0 c r c' r' : xA} {x y : Int32}
/-- one turn of rubOut's loop -/
theorem e_ru {w v : Int32} {n : Nat} (he : De c r) (hv : v < w) (hl : 0 < c 119 2) : l186_2 N h b w (n + 1) v c = xb1 (uC N h b (c 120 (c 119 2 - 1).toNatClampNeg) (xU c 119 2 (c 119 2 - 1))) (fun a => l186_2 N h b w n (v + 1) a) := by
  rw [l186_2, if_neg (Int32.not_le.mpr hv), e_size xk119, b2_some, if_neg (Int32.not_le.mpr hl), e_tlast he hl, b2_some]
  unfold uC j186_46
  rw [e_has, b2_some, b2_some]
  by_cases z : zb (¬ xU c 119 2 (c 119 2 - 1) 116 3 &&& 2 = 0) = 0
  · rw [if_pos z, if_pos z]; rfl
  · rw [if_neg z, if_neg z, e_has, b2_some, b2_some]
    by_cases z2 : zb (¬ xU c 119 2 (c 119 2 - 1) 116 3 &&& 4 = 0) = 0
    · rw [if_pos z2, if_pos z2]; rfl
    · rw [if_neg z2, if_neg z2]
theorem e_ru0 {w v : Int32} {n : Nat} (hv : w ≤ v ∨ c 119 2 ≤ 0) : l186_2 N h b w (n + 1) v c = some (0, c) := by
  rw [l186_2]
  by_cases z : w ≤ v
  · rw [if_pos z]
  · rw [if_neg z, e_size xk119, b2_some, if_pos (hv.resolve_left z)]
/-- so many bytes are rubbed out, one by one, while a test of the reference says so -/
theorem d_ph {w : Int32} {P : Int32 → Prop} {L : Nat → xA → Option (Nat × xA)} (hN : 100000 ≤ N)
    (hL1 : ∀ m c a, RD c0 r0 c a → (c 119 2 ≤ 0 ∨ ¬ P (c 120 (c 119 2 - 1).toNatClampNeg)) → L (m + 1) a = some (0, a))
    (hL2 : ∀ m c a, RD c0 r0 c a → 0 < c 119 2 → P (c 120 (c 119 2 - 1).toNatClampNeg) → L (m + 1) a = xb1 (f374_rub N h b a) (fun a1 => L m a1))
    : ∀ (k n m : Nat) {v : Int32} {c r : xA}, RD c0 r0 c r → 0 ≤ v → v.toNatClampNeg + k ≤ w.toNatClampNeg → w ≤ 100 → k ≤ (c 119 2).toNatClampNeg → k < m → (∀ i : Nat, (c 119 2).toNatClampNeg ≤ i + k → i < (c 119 2).toNatClampNeg → P (c 120 i)) → ((c 119 2).toNatClampNeg = k ∨ ¬ P (c 120 ((c 119 2).toNatClampNeg - k - 1))) →
      ∃ c1 r1, l186_2 N h b w (n + k) v c = l186_2 N h b w n (v + Int32.ofNat k) c1 ∧ L m r = some (0, r1) ∧ RD c0 r0 c1 r1 ∧ (c1 119 2).toNatClampNeg = (c 119 2).toNatClampNeg - k ∧ c1 120 = c 120
  | 0, n, m, v, c, r, hR, h1, h2, h3, h4, h5, h6, h7 => by
    have he := hR.2.2.2.1
    unfold De at he
    obtain ⟨k1, k2, k3, k4, k5, k6⟩ := he
    obtain ⟨m', rfl⟩ : ∃ m', m = m' + 1 := ⟨m - 1, by omega⟩
    refine ⟨c, r, by rw [show Int32.ofNat 0 = 0 from rfl, Int32.add_zero]; rfl, hL1 m' c r hR ?_, hR, by omega, rfl⟩
    rcases h7 with q | q
    · left; rw [cl_lel (by decide)]; rw [q]; decide
    · by_cases z : c 119 2 ≤ 0
      · exact Or.inl z
      · right
        have e : (c 119 2 - 1).toNatClampNeg = (c 119 2).toNatClampNeg - 0 - 1 := by
          have a1 := cl_s (v := c 119 2 - 1) (k := 100) (by grind) (by grind)
          rw [Int32.sub_add_cancel] at a1
          omega
        rw [e]
        exact q
  | k + 1, n, m, v, c, r, hR, h1, h2, h3, h4, h5, h6, h7 => by
    have he := hR.2.2.2.1
    have he' := he
    unfold De at he'
    obtain ⟨k1, k2, k3, k4, k5, k6⟩ := he'
    obtain ⟨m', rfl⟩ : ∃ m', m = m' + 1 := ⟨m - 1, by omega⟩
    have hw := cl_le (n := 100) h3 rfl
    have hl : 0 < c 119 2 := by rw [cl_lt (by decide)]; have e0 : (0 : Int32).toNatClampNeg = 0 := rfl; omega
    have hv : v < w := by rw [cl_lt h1]; omega
    have e : (c 119 2 - 1).toNatClampNeg = (c 119 2).toNatClampNeg - 1 := by
      have a1 := cl_s (v := c 119 2 - 1) (k := 100) (by grind) (by grind)
      rw [Int32.sub_add_cancel] at a1
      omega
    obtain ⟨c1, r1, f1, f2, f3, f4⟩ := d_rub (N := N) (h := h) (b := b) hN hR hl
    have g1 : (c1 119 2).toNatClampNeg = (c 119 2).toNatClampNeg - 1 := by rw [f4.2.1, xU_e, e]
    have g2 : c1 120 = c 120 := f4.2.2.1
    obtain ⟨c2, r2, t1, t2, t3, t4, t5⟩ := d_ph hN hL1 hL2 k n m' (v := v + 1) f3 (by grind) (by rw [cl_s h1 hv]; omega) h3 (by omega) (by omega) (fun i hi hj => by rw [g2]; exact h6 i (by omega) (by omega)) (by rw [g1, g2]; rcases h7 with q | q; exact Or.inl (by omega); exact Or.inr (by rw [show (c 119 2).toNatClampNeg - 1 - k - 1 = (c 119 2).toNatClampNeg - (k + 1) - 1 by omega]; exact q))
    refine ⟨c2, r2, ?_, ?_, t3, by omega, by rw [t5, g2]⟩
    · rw [show n + (k + 1) = (n + k) + 1 by omega, e_ru he hv hl, f1, b1_some, t1, Int32.ofNat_add]
      congr 1
      show v + 1 + Int32.ofNat k = v + (Int32.ofNat k + 1)
      grind
    · rw [hL2 m' c r hR hl (by rw [e]; exact h6 _ (by omega) (by omega)), f2, b1_some, t2]
theorem isb9 (he : De c r) (i : Nat) : (r 185 i = 9 ∨ r 185 i = 32) = (c 120 i = 9 ∨ c 120 i = 32) := by
  unfold De at he
  have k5 := he.2.2.2.2.1 i
  have k6 := he.2.2.2.2.2 i
  apply propext
  constructor
  · rintro (q | q)
    · left; rw [k5, q]; rfl
    · right; rw [k5, q]; rfl
  · rintro (q | q)
    · left; rw [k6, q]; rfl
    · right; rw [k6, q]; rfl
theorem d_ea (hN : 100000 ≤ N) : ∀ (n : Nat) {v : Int32} {c r : xA}, RD c0 r0 c r → 0 ≤ v → v ≤ 100 → 100 < v.toNatClampNeg + n → Q2 (l191_40 N h b n v c) (l373_238 N h b n v r) (fun p q => RD c0 r0 p.2 q.2)
  | 0, v, c, r, hR, h1, h2, h4 => by have := cl_le (n := 100) h2 rfl; omega
  | n + 1, v, c, r, hR, h1, h2, h4 => by
    have he := hR.2.2.2.1
    have he' := he
    unfold De at he'
    unfold l191_40 l373_238
    refine q_l2 (e_size xk119) ?_
    by_cases z : c 119 2 ≤ v
    · exact q_pl z (q_pr (he'.2.1 ▸ z) (q_some.mpr hR))
    · have z1 := Int32.not_le.mp z
      have z2 : v < 100 := by grind
      have g1 := cl_ix h1 z2 (n := 100) rfl
      refine q_nl z (q_nr (he'.2.1 ▸ z) (q_hr g1 (q_l2 (e_gete he h1 z1) ?_)))
      rw [he'.2.2.2.2.1]
      exact q_b11 (d_echo hN hR (byx _)) (fun c1 r1 h5 => d_ea hN n h5 (by grind) (by grind) (by rw [cl_s h1 z1]; omega))
/-- the loops of wordLength -/
theorem e_w1 : ∀ (n : Nat) {v : Int32} (he : De c r), 0 ≤ v → v ≤ c 119 2 → v.toNatClampNeg < n → ∃ u : Int32, l190_8 N h b n v c = some (0, u, c) ∧ 0 ≤ u ∧ u ≤ v ∧ (∀ i : Nat, u.toNatClampNeg ≤ i → i < v.toNatClampNeg → c 120 i = 9 ∨ c 120 i = 32) ∧ (u.toNatClampNeg = 0 ∨ ¬ (c 120 (u.toNatClampNeg - 1) = 9 ∨ c 120 (u.toNatClampNeg - 1) = 32))
  | 0, v, he, h1, h2, h3 => by omega
  | n + 1, v, he, h1, h2, h3 => by
    have he' := he
    unfold De at he'
    rw [l190_8]
    by_cases z : v ≤ 0
    · have : v = 0 := by grind
      subst this
      exact ⟨0, by rw [if_pos z], by decide, by decide, fun i h4 h5 => absurd h5 (by have e0 : (0 : Int32).toNatClampNeg = 0 := rfl; omega), Or.inl rfl⟩
    · have hp : v + (-1) = v - 1 := by grind
      have e : (v - 1).toNatClampNeg = v.toNatClampNeg - 1 ∧ 0 < v.toNatClampNeg := by
        have a1 := cl_s (v := v - 1) (k := 100) (by grind) (by grind)
        rw [Int32.sub_add_cancel] at a1
        omega
      rw [if_neg z, e_gete he (by grind) (by grind), b2_some, e_bl, b2_some, e.1, hp]
      by_cases q : c 120 (v.toNatClampNeg - 1) = 9 ∨ c 120 (v.toNatClampNeg - 1) = 32
      · rw [if_neg (by rw [zb_0]; exact fun z => z q)]
        obtain ⟨u, t1, t2, t3, t4, t5⟩ := e_w1 n (v := v - 1) he (by grind) (by grind) (by omega)
        refine ⟨u, t1, t2, by grind, fun i h4 h5 => ?_, t5⟩
        by_cases y : i = v.toNatClampNeg - 1
        · rw [y]; exact q
        · exact t4 i h4 (by omega)
      · rw [if_pos (by rw [zb_0]; exact q)]
        exact ⟨v, rfl, h1, Int32.le_refl v, fun i h4 h5 => absurd h5 (by omega), Or.inr q⟩
theorem e_w2 : ∀ (n : Nat) {v : Int32} (he : De c r), 0 ≤ v → v ≤ c 119 2 → v.toNatClampNeg < n → ∃ u : Int32, l190_34 N h b n v c = some (0, u, c) ∧ 0 ≤ u ∧ u ≤ v ∧ (∀ i : Nat, u.toNatClampNeg ≤ i → i < v.toNatClampNeg → ¬ (c 120 i = 9 ∨ c 120 i = 32)) ∧ (u.toNatClampNeg = 0 ∨ ¬ ¬ (c 120 (u.toNatClampNeg - 1) = 9 ∨ c 120 (u.toNatClampNeg - 1) = 32))
  | 0, v, he, h1, h2, h3 => by omega
  | n + 1, v, he, h1, h2, h3 => by
    have he' := he
    unfold De at he'
    rw [l190_34]
    by_cases z : v ≤ 0
    · have : v = 0 := by grind
      subst this
      exact ⟨0, by rw [if_pos z], by decide, by decide, fun i h4 h5 => absurd h5 (by have e0 : (0 : Int32).toNatClampNeg = 0 := rfl; omega), Or.inl rfl⟩
    · have hp : v + (-1) = v - 1 := by grind
      have e : (v - 1).toNatClampNeg = v.toNatClampNeg - 1 ∧ 0 < v.toNatClampNeg := by
        have a1 := cl_s (v := v - 1) (k := 100) (by grind) (by grind)
        rw [Int32.sub_add_cancel] at a1
        omega
      rw [if_neg z, e_gete he (by grind) (by grind), b2_some, e_bl, b2_some, e.1, hp]
      by_cases q : c 120 (v.toNatClampNeg - 1) = 9 ∨ c 120 (v.toNatClampNeg - 1) = 32
      · rw [if_neg (by rw [zb_0]; exact fun z => z q)]
        exact ⟨v, rfl, h1, Int32.le_refl v, fun i h4 h5 => absurd h5 (by omega), Or.inr (fun z => z q)⟩
      · rw [if_pos (by rw [zb_0]; exact q)]
        obtain ⟨u, t1, t2, t3, t4, t5⟩ := e_w2 n (v := v - 1) he (by grind) (by grind) (by omega)
        refine ⟨u, t1, t2, by grind, fun i h4 h5 => ?_, t5⟩
        by_cases y : i = v.toNatClampNeg - 1
        · rw [y]; exact q
        · exact t4 i h4 (by omega)
theorem ofn_cl {k : Nat} {x : Int32} (h0 : 0 ≤ x) (e : x.toNatClampNeg = k) : Int32.ofNat k = x := by rw [← e, i_ofn h0]
end D
