/-! Rings; flags, write, read. -/
section D
variable {N h b : Nat} {c0 r0 c r c' r' : xA} {x y : Int32}
theorem mod2 {m cap : Nat} (h : m < 2 * cap) : m % cap = if m < cap then m else m - cap := by
  by_cases q : m < cap
  · rw [if_pos q, Nat.mod_eq_of_lt q]
  · rw [if_neg q, Nat.mod_eq_sub_mod (by omega), Nat.mod_eq_of_lt (by omega)]
theorem e_tf {o cap : Nat} {f : Nat → Int32} {a : xA} (hk : xk o = 1) (hl : xl h b (o + 1) = cap) (h0 : 0 < cap) (hc : cap < 2 ^ 30) (hB : RB a o cap f) (hp : 0 < a o 2) :
    f172_takeFirst N h b o a = some (f 0, xU (xU a o 1 (Int32.ofNat (((a o 1).toNatClampNeg + 1) % cap))) o 2 (a o 2 - 1)) := by
  unfold RB at hB
  obtain ⟨k1, k2, k3, k4, k5⟩ := hB
  have e0 : (0 : Int32).toNatClampNeg = 0 := rfl
  have hp' : 0 < (a o 2).toNatClampNeg := by rw [cl_lt (by decide)] at hp; omega
  have e3 : ¬ ((0 : Int32) < 0 ∨ a o 2 ≤ 0) := fun z => z.elim (fun q => absurd q (by decide)) (fun q => absurd hp (Int32.not_lt.mpr q))
  unfold f172_takeFirst
  rw [xg_pos hk, e_get hk hl h0 hc k1 k2 k3 k4, b2_some, if_neg e3, if_neg (Int32.not_le.mpr hp), hl, e0, k5 0 hp']
  have e1 : ¬ Int32.ofNat cap = 0 := by
    have e : (0 : Int32) = Int32.ofNat 0 := rfl
    rw [e, i_eq (by omega) (by decide)]
    omega
  rw [xg_pos e1]
  unfold xw
  dsimp only
  obtain ⟨X, hX, eX, fX⟩ := i_nat k1
  have e2 : a o 1 + 1 - (a o 1 + 1) / Int32.ofNat cap * Int32.ofNat cap = Int32.ofNat ((X + 1) % cap) := by
    have q1 : (1 : Int32) = Int32.ofNat 1 := rfl
    rw [eX, q1, ← Int32.ofNat_add, i_modn (by omega) (by omega)]
  rw [e2, fX, xU_s (by decide)]
theorem e_tfn {o cap : Nat} {f : Nat → Int32} {a : xA} (hk : xk o = 1) (hl : xl h b (o + 1) = cap) (h0 : 0 < cap) (hc : cap < 2 ^ 30) (hB : RB a o cap f) (hp : ¬ 0 < a o 2) :
    f172_takeFirst N h b o a = some (-1, a) := by
  unfold RB at hB
  obtain ⟨k1, k2, k3, k4, k5⟩ := hB
  unfold f172_takeFirst
  rw [xg_pos hk, e_get hk hl h0 hc k1 k2 k3 k4, b2_some, if_pos (Or.inr (Int32.not_lt.mp hp)), if_pos (Int32.not_lt.mp hp)]
theorem RB_tf {o cap : Nat} {f : Nat → Int32} {a : xA} (h0 : 0 < cap) (hc : cap < 2 ^ 30) (hB : RB a o cap f) (hp : 0 < a o 2) : RB (xU (xU a o 1 (Int32.ofNat (((a o 1).toNatClampNeg + 1) % cap))) o 2 (a o 2 - 1)) o cap (fun j => f (1 + j)) ∧ (a o 2 - 1).toNatClampNeg + 1 = (a o 2).toNatClampNeg := by
  unfold RB at *
  obtain ⟨k1, k2, k3, k4, k5⟩ := hB
  have lm := Nat.mod_lt ((a o 1).toNatClampNeg + 1) h0
  have hl : (a o 2 - 1).toNatClampNeg + 1 = (a o 2).toNatClampNeg := by
    have a1 := cl_s (v := a o 2 - 1) (k := a o 2) (by grind) (by grind)
    rw [Int32.sub_add_cancel] at a1
    omega
  refine ⟨⟨?_, ?_, ?_, ?_, ?_⟩, hl⟩
  · rw [xU_s (by decide), xU_e, show (0 : Int32) = Int32.ofNat 0 from rfl, i_le (by decide) (by omega)]; omega
  · rw [xU_s (by decide), xU_e, i_cl (by omega)]; exact lm
  · rw [xU_e]; grind
  · rw [xU_e]; omega
  · intro i hi
    rw [xU_e] at hi
    rw [xU_s (by decide), xU_e, i_cl (by omega), xU_o (by omega), xU_o (by omega), Nat.mod_add_mod, Nat.add_assoc]
    exact k5 (1 + i) (by omega)
theorem RB_add {o cap : Nat} {f : Nat → Int32} {a : xA} (hc : cap < 2 ^ 30) (hB : RB a o cap f) (hp : a o 2 < Int32.ofNat cap) : RB (xU (xU a (o + 1) (((a o 1).toNatClampNeg + (a o 2).toNatClampNeg) % cap) x) o 2 (a o 2 + 1)) o cap (fun j => if j = (a o 2).toNatClampNeg then x else f j) ∧ (a o 2 + 1).toNatClampNeg = (a o 2).toNatClampNeg + 1 := by
  unfold RB at *
  obtain ⟨k1, k2, k3, k4, k5⟩ := hB
  have hl := cl_s k3 hp
  have hp' : (a o 2).toNatClampNeg < cap := by rw [cl_lt k3, i_cl (by omega)] at hp; exact hp
  refine ⟨⟨?_, ?_, ?_, ?_, ?_⟩, hl⟩
  · rw [xU_s (by decide), xU_o (by omega)]; exact k1
  · rw [xU_s (by decide), xU_o (by omega)]; exact k2
  · rw [xU_e]; grind
  · rw [xU_e]; omega
  · intro i hi
    rw [xU_e, hl] at hi
    rw [xU_s (by decide), xU_o (show o ≠ o + 1 by omega), xU_o (show o + 1 ≠ o by omega), xU_eq]
    show _ = if i = (a o 2).toNatClampNeg then x else f i
    by_cases z : i = (a o 2).toNatClampNeg
    · rw [if_pos ⟨rfl, by rw [z]⟩, if_pos z]
    · rw [if_neg (fun q => z (by have q2 := q.2; rw [mod2 (by omega), mod2 (by omega)] at q2; grind)), if_neg z]
      exact k5 i (by omega)
/-- flags -/
theorem e_full {w : Int32} : ∀ (n : Nat) {v : Int32} {c : xA}, De c r → Dr c r' → ¬ c 121 2 < 300 → 0 ≤ v → v ≤ 100 → 100 < v.toNatClampNeg + n → l161_26 N h b w n v c = some (0, c)
  | 0, v, c, he, hr, hl, h1, h2, h4 => by have := cl_le (n := 100) h2 rfl; omega
  | n + 1, v, c, he, hr, hl, h1, h2, h4 => by
    have he' := he
    unfold De at he'
    rw [l161_26, e_size xk119, b2_some]
    by_cases z : c 119 2 ≤ v
    · rw [if_pos z]
    · have z1 := Int32.not_le.mp z
      rw [if_neg z, e_gete he h1 z1, b2_some, e_raddn hr hl, b2_some]
      exact e_full n he hr hl (by grind) (by grind) (by rw [cl_s h1 z1]; omega)
theorem d_lf {w : Int32} : ∀ (n : Nat) {v : Int32} {c r : xA}, RD c0 r0 c r → 0 ≤ v → v ≤ 100 → 100 < v.toNatClampNeg + n → Q2 (l161_26 N h b w n v c) (l353_33 N h b w n v r) (fun p q => RD c0 r0 p.2 q.2)
  | 0, v, c, r, hR, h1, h2, h4 => by have := cl_le (n := 100) h2 rfl; omega
  | n + 1, v, c, r, hR, h1, h2, h4 => by
    have he := hR.2.2.2.1
    have hr := hR.2.2.2.2
    have he' := he
    have hr' := hr
    unfold De at he'
    unfold Dr RB at hr'
    by_cases z : c 119 2 ≤ v
    · unfold l161_26 l353_33
      exact q_l2 (e_size xk119) (q_pl z (q_pr (he'.2.1 ▸ z) (q_some.mpr hR)))
    · have z1 := Int32.not_le.mp z
      have z2 : v < 100 := by grind
      by_cases z3 : c 121 2 < 300
      · unfold l161_26 l353_33
        refine q_l2 (e_size xk119) (q_nl z (q_nr (he'.2.1 ▸ z) (q_nr (hr'.1.1 ▸ Int32.not_le.mpr z3) (q_hr (cl_ix h1 z2 (n := 100) rfl) (q_l2 (e_gete he h1 z1) (q_l2 (e_radd hr z3) ?_))))))
        rw [he'.2.2.2.2.1]
        refine q_r1 (e_keep (hr'.1.1 ▸ hr'.2.2.2.1) (hr'.1.1 ▸ z3)) ?_
        exact d_lf n (RD_radd hR z3 (Or.inl (byx _))) (by grind) (by grind) (by rw [cl_s h1 z1]; omega)
      · rw [e_full (n + 1) he hr z3 h1 h2 h4]
        unfold l353_33
        exact q_nr (he'.2.1 ▸ z) (q_pr (hr'.1.1 ▸ Int32.not_lt.mp z3) (q_some.mpr hR))
theorem t_flags (hN : 100000 ≤ N) (hR : RD c (xU r 157 0 0) c (xU r 157 0 0)) : Q2 (f160_flags N h b x c) (f353_flags N h b x r) (fun p q => p.1 = q.1 ∧ RD c (xU r 157 0 0) p.2 q.2) := by
  unfold f160_flags f161_changeFlags f353_flags
  have hs := hR.2.1
  unfold Ds at hs
  rw [b2_w]
  refine q_wl.mpr (q_wr.mpr (q_wr.mpr ?_))
  rw [hs.1, b2_i]
  have h3 := RD_3 (v := x &&& 255) hR
  refine q_il.mpr ⟨fun z => q_pr z (q_ok rfl h3), fun z => q_nr z ?_⟩
  rw [b2_2, e_has, b2_some, xU_e, b2_i]
  have e1 : (x &&& 255) &&& 1 = x &&& 1 := by rw [Int32.and_assoc]; rfl
  rw [e1]
  by_cases z1 : x &&& 1 = 0
  · refine q_pl (by rw [zb_0]; exact fun q => q z1) (q_pr z1 ?_)
    rw [b2_b]
    refine q_bb (d_lf N h3 (by decide) (by decide) (by omega)) (fun p q hh => ?_)
    rw [e_clear xk119, b1_some]
    unfold j353_71
    exact q_wr.mpr (q_wr.mpr (q_ok rfl (RD_5 (RD_eclr hh) (Or.inl rfl))))
  · refine q_nl (by rw [zb_0]; exact fun q => q z1) (q_nr z1 (q_ok rfl h3))
/-! The tape, and what is written. -/
def Rt (c r : xA) : Prop := c 0 1 = r 157 2 ∧ 0 ≤ c 0 1 ∧ c 0 1 ≤ 3000 ∧ ∀ i, By (c 1 i) ∧ r 158 i = (c 1 i).toInt8.toInt32
def Ro (c r : xA) : Prop := c 0 3 = r 157 4 ∧ 0 ≤ c 0 3 ∧ c 0 3 ≤ 300 ∧ ∀ i, By (c 2 i) ∧ r 159 i = (c 2 i).toInt8.toInt32
theorem sb {x : Int32} (hx : By x) : x.toInt8.toInt32 &&& 255 = x := by rw [by8, hx]
theorem Df_c {p i : Nat} {v : Int32} (hp : ¬ (116 ≤ p ∧ p ≤ 122)) (H : Df c0 r0 c r) : Df (xU c0 p i v) r0 (xU c p i v) r := by
  refine ⟨fun q hq => ?_, H.2.1, H.2.2⟩
  funext j
  rw [xU_eq, xU_eq, H.1 q hq]
theorem RD_c {p i : Nat} {v : Int32} (hp : ¬ (116 ≤ p ∧ p ≤ 122)) (hR : RD c0 r0 c r) : RD (xU c0 p i v) r0 (xU c p i v) r := by
  obtain ⟨f1, s1, q1, e1, r1⟩ := hR
  exact ⟨Df_c hp f1, Ds_of s1 (xU_o (by omega)) (fun _ _ _ => rfl), Dq_of q1 (xU_o (by omega)) (xU_o (by omega)) rfl rfl rfl, De_of e1 (xU_o (by omega)) (xU_o (by omega)) rfl rfl, Dr_of r1 (xU_o (by omega)) (xU_o (by omega)) rfl rfl⟩
theorem RD_r {p i : Nat} {v : Int32} (hp : ¬ (184 ≤ p ∧ p ≤ 186)) (hi : p = 157 → ¬ (55 ≤ i ∧ i ≤ 67)) (hR : RD c0 r0 c r) : RD c0 (xU r0 p i v) c (xU r p i v) := by
  obtain ⟨f1, s1, q1, e1, r1⟩ := hR
  have g : ∀ j, 55 ≤ j → j ≤ 67 → xU r p i v 157 j = r 157 j := fun j h1 h2 => by rw [xU_eq, if_neg (fun q => by have := hi q.1.symm; omega)]
  refine ⟨⟨f1.1, fun q h1 h2 => ?_, fun j hj => ?_⟩, Ds_of s1 rfl (fun j h1 h2 => g j (by omega) (by omega)), Dq_of q1 rfl rfl (g _ (by decide) (by decide)) (g _ (by decide) (by decide)) (xU_o (by omega)), De_of e1 rfl rfl (g _ (by decide) (by decide)) (xU_o (by omega)), Dr_of r1 rfl rfl (g _ (by decide) (by decide)) (xU_o (by omega))⟩
  · funext j
    rw [xU_eq, xU_eq, f1.2.1 q h1 h2]
  · rw [xU_eq, xU_eq, f1.2.2 j hj]
/-- write -/
theorem d_lw {w : Int32} (hN : 100000 ≤ N) (hw : c0 0 1 = w) (hw1 : w ≤ 3000) (ht : ∀ i, By (c0 1 i) ∧ r0 158 i = (c0 1 i).toInt8.toInt32) : ∀ (n : Nat) {s v : Int32} {c r : xA}, RD c0 r0 c r → 0 ≤ v → v ≤ 3000 → 3000 < v.toNatClampNeg + n → Q2 (l166_4 N h b n s v c) (l355_19 N h b w n s v r) (fun p q => p.2.1 = q.2.1 ∧ RD c0 r0 p.2.2 q.2.2)
  | 0, s, v, c, r, hR, h1, h2, h4 => by have := cl_le (n := 3000) h2 rfl; omega
  | n + 1, s, v, c, r, hR, h1, h2, h4 => by
    unfold l166_4 l355_19
    have e0 : c 0 = c0 0 := hR.1.1 0 (by decide)
    have e1 : c 1 = c0 1 := hR.1.1 1 (by decide)
    have e2 : r 158 = r0 158 := hR.1.2.1 158 (by decide) (by decide)
    rw [e0, hw, e1, e2]
    by_cases z : w ≤ v
    · exact q_pl z (q_pr z (q_some.mpr ⟨rfl, hR⟩))
    · have z1 : v < 3000 := by grind
      have g1 := cl_ix h1 z1 (n := 3000) rfl
      have hb := ht v.toNatClampNeg
      refine q_nl z (q_nr z (q_hl g1 (q_hr g1 ?_)))
      rw [hb.2, sb hb.1]
      exact q_bs (d_put hN hR hb.1) (fun v1 c1 r1 h5 => d_lw hN hw hw1 ht n h5 (by grind) (by grind) (by rw [cl_s h1 z1]; omega))
theorem t_write (hN : 100000 ≤ N) (ht : Rt c r) (hR : RD c (xU (xU r 157 0 0) 157 2 0) c (xU (xU r 157 0 0) 157 2 0)) : Q2 (f166_write N h b c) (f355_write N h b r) (fun p q => p.1 = q.1 ∧ RD (xU c 0 1 0) (xU (xU r 157 0 0) 157 2 0) p.2 q.2) := by
  unfold f166_write f355_write
  unfold Rt at ht
  refine q_wr.mpr (q_wr.mpr ?_)
  have e : xU r 157 0 0 157 2 = c 0 1 := by rw [xU_s (by decide), ht.1]
  rw [e]
  exact q_bb (d_lw (r0 := xU (xU r 157 0 0) 157 2 0) hN rfl ht.2.2.1 ht.2.2.2 N hR (by decide) (by decide) (by omega)) (fun p q hh => q_wl.mpr (q_ok hh.1 (RD_c (by decide) hh.2)))
end D
