/-! Calls on windows. -/
section W
variable {N h b : Nat} {c0 r0 c r : xA} {x y : Int32} {w T L H B Y X : Nat}
theorem ow_ne (hw : w < 8) : ¬ Int32.ofNat (141 + 2 * w) = -1 := by
  intro q
  have := congrArg Int32.toInt q
  rw [Int32.toInt_ofNat_of_lt (by omega)] at this
  have e2 : (-1 : Int32).toInt = -1 := rfl
  omega
/-- a window lies on the screen -/
def WB (T L H B : Nat) (c : xA) : Prop := ¬ c 0 14 = -1 ∧ T + H ≤ (c 98 4).toNatClampNeg ∧ L + B ≤ (c 98 5).toNatClampNeg
/-- all windows -/
def RW (c r : xA) : Prop := ∀ w, w < 8 → (c (141 + 2 * w) 1 = 0 ∧ r 172 w = 0) ∨ (∃ T L H B Y X, Wd w T L H B Y X c r ∧ T + H ≤ (c 98 4).toNatClampNeg ∧ L + B ≤ (c 98 5).toNatClampNeg) ∧ ¬ c 0 14 = -1
theorem Wd_r {i : Nat} {v : Int32} (hd : Wd w T L H B Y X c r) : Wd w T L H B Y X c (xU r 157 i v) := hd
theorem w_case2 (hW : RW c r) (x : Int32) : (x < 0 ∨ 8 ≤ x ∨ c (141 + 2 * x.toNatClampNeg) 1 = 0) ∧ (x < 0 ∨ 8 ≤ x ∨ r 172 x.toNatClampNeg = 0) ∨ ∃ w T L H B Y X, w < 8 ∧ x = Int32.ofNat w ∧ Wd w T L H B Y X c r ∧ ¬ c 0 14 = -1 ∧ T + H ≤ (c 98 4).toNatClampNeg ∧ L + B ≤ (c 98 5).toNatClampNeg := by
  by_cases z1 : x < 0
  · exact Or.inl ⟨Or.inl z1, Or.inl z1⟩
  · by_cases z2 : 8 ≤ x
    · exact Or.inl ⟨Or.inr (Or.inl z2), Or.inr (Or.inl z2)⟩
    · have l := cl_ltn (n := 8) (Int32.not_lt.mp z1) (Int32.not_le.mp z2) rfl
      rcases hW _ l with q | ⟨⟨T, L, H, B, Y, X, q, q3⟩, q2⟩
      · exact Or.inl ⟨Or.inr (Or.inr q.1), Or.inr (Or.inr q.2)⟩
      · exact Or.inr ⟨_, T, L, H, B, Y, X, l, (i_ofn (Int32.not_lt.mp z1)).symm, q, q2, q3⟩
theorem w_case (hW : RW c r) (x : Int32) : (x < 0 ∨ 8 ≤ x ∨ c (141 + 2 * x.toNatClampNeg) 1 = 0) ∧ (x < 0 ∨ 8 ≤ x ∨ r 172 x.toNatClampNeg = 0) ∨ ∃ w T L H B Y X, w < 8 ∧ x = Int32.ofNat w ∧ Wd w T L H B Y X c r ∧ ¬ c 0 14 = -1 ∧ WB T L H B c := by
  rcases w_case2 hW x with q | ⟨w, T, L, H, B, Y, X, h1, h2, h3, h4, h5⟩
  · exact Or.inl q
  · exact Or.inr ⟨w, T, L, H, B, Y, X, h1, h2, h3, h4, h4, h5⟩
def Wp (c r : xA) (p q : xA) : Prop := (p = c ∧ q = xU r 157 0 0) ∨ ∃ w T L H B, WB T L H B c ∧ WD w T L H B c (xU r 157 0 0) p q
/-- a new grid from the reference's cells -/
theorem WD_cl {a : xA} {f : Nat → Int32} {G : Nat → Nat → Int32} (hw : w < 8) (hf : Wf w c0 r0 c r) (hd : Wd w T L H B Y X c r) (hC : Cl w r a G) (hg : ∀ y x, y < H → x < B → f (y * B + x) = G y x) : Wf w c0 r0 (xW c (141 + 2 * w + 1) f) a ∧ Wd w T L H B Y X (xW c (141 + 2 * w + 1) f) a := by
  have ea : a = xW r 181 (a 181) := by
    funext p
    by_cases z : p = 181
    · subst z; rw [xW_e]
    · rw [xW_o z]; exact hC.1 p z
  have hd' := hd
  obtain ⟨_, _, ⟨d1, d2, d3, d4, d5, d6⟩, _⟩ := hd'
  rw [ea]
  exact ⟨Wf_g hf (fun i hi => hC.2.1 i hi), Wd_g hw hd (fun y x h1 h2 => by rw [hg y x h1 h2]; exact (hC.2.2 y x (by omega) (by omega)).symm)⟩
/-- so many rows up from F, by the reference -/
theorem sl_up {F k : Nat} {s : Int32} {a : xA} (hw : w < 8) (hf : Wf w c0 r0 c r) (hd : Wd w T L H B Y X c r) (hF : F < H) (hs : s < 0) (hk : k = min s.toInt.natAbs 24) (hC : Cl w r a (uU w F H B k r)) : ∃ c', f107_slideRows N h b (141 + 2 * w) (Int32.ofNat F) s c = some c' ∧ Wf w c0 r0 c' a ∧ Wd w T L H B Y X c' a := by
  have hd' := hd
  obtain ⟨⟨a1, a2, a3, a4, a5, a6, a7, a8, a9, a10, a11, a12, a13, a14⟩, _, ⟨d1, d2, d3, d4, d5, d6⟩, e⟩ := hd'
  refine ⟨_, e_slr (xkw hw) (xkg hw) (xlg hw) a7 a9 (by omega) d3 (by omega) hF, WD_cl hw hf hd hC (fun y x h1 h2 => ?_)⟩
  rw [if_neg (Int32.not_le.mpr hs), slL_rows (by omega) h1 h2]
  unfold uU
  by_cases z : F ≤ y
  · rw [if_pos z, if_pos (show F ≤ y ∧ y < H ∧ x < B from ⟨z, h1, h2⟩)]
    by_cases z2 : y + min s.toInt.natAbs H < H
    · rw [if_pos z2, if_pos (by omega), show k = min s.toInt.natAbs H by omega]
      exact e _ x (by omega) h2
    · rw [if_neg z2, if_neg (by omega)]
  · rw [if_neg z, if_neg (show ¬ (F ≤ y ∧ y < H ∧ x < B) from fun q => z q.1)]
    exact e y x h1 h2
theorem sl_dn {F k : Nat} {s : Int32} {a : xA} (hw : w < 8) (hf : Wf w c0 r0 c r) (hd : Wd w T L H B Y X c r) (hF : F < H) (hs : 0 ≤ s) (hk : k = min s.toInt.natAbs 24 ∨ H ≤ k ∧ H ≤ s.toInt.natAbs) (hC : Cl w r a (dD w F H B k r)) : ∃ c', f107_slideRows N h b (141 + 2 * w) (Int32.ofNat F) s c = some c' ∧ Wf w c0 r0 c' a ∧ Wd w T L H B Y X c' a := by
  have hd' := hd
  obtain ⟨⟨a1, a2, a3, a4, a5, a6, a7, a8, a9, a10, a11, a12, a13, a14⟩, _, ⟨d1, d2, d3, d4, d5, d6⟩, e⟩ := hd'
  refine ⟨_, e_slr (xkw hw) (xkg hw) (xlg hw) a7 a9 (by omega) d3 (by omega) hF, WD_cl hw hf hd hC (fun y x h1 h2 => ?_)⟩
  rw [if_pos hs, slR_rows (by omega) h1 h2]
  unfold dD
  by_cases z : F ≤ y
  · rw [if_pos z, if_pos (show F ≤ y ∧ y < H ∧ x < B from ⟨z, h1, h2⟩)]
    by_cases z2 : F + min s.toInt.natAbs H ≤ y
    · rw [if_pos z2, if_pos (by omega), show k = min s.toInt.natAbs H by omega]
      exact e _ x (by omega) h2
    · rw [if_neg z2, if_neg (by omega)]
  · rw [if_neg z, if_neg (show ¬ (F ≤ y ∧ y < H ∧ x < B) from fun q => z q.1)]
    exact e y x h1 h2
theorem Cl_H {a : xA} {G : Nat → Nat → Int32} (hC : Cl w r a G) (p : Nat) (hp : p ≠ 181) : a p = r p := hC.1 p hp
theorem t_rows (hN : 100000 ≤ N) (hW : RW c r) (hb : ¬ c 0 14 = -1 → c 97 12 = r 157 36) : Q2 (f114_rows N h b x y c) (f319_rows N h b x y r) (fun p q => p.1 = q.1 ∧ Wp c r p.2 q.2) := by
  unfold f114_rows f319_rows
  refine q_wr.mpr ?_
  rcases w_case hW x with ⟨q1, q2⟩ | ⟨w, T, L, H, B, Y, X, hw, rfl, hd, ht, hB⟩
  · exact q_l2 (e_own q1) (q_pl rfl (q_r2 (e_isn q2) (q_pr rfl (q_some.mpr ⟨rfl, Or.inl ⟨rfl, rfl⟩⟩))))
  · have hd' := Wd_r (i := 0) (v := 0) hd
    obtain ⟨⟨a1, a2, a3, a4, a5, a6, a7, a8, a9, a10, a11, a12, a13, a14⟩, _, ⟨d1, d2, d3, d4, d5, d6⟩, e⟩ := hd'
    have hf : Wf w c (xU r 157 0 0) c (xU r 157 0 0) := Wf_rfl (hb ht)
    refine q_l2 (e_ow hw a1) (q_nl (ow_ne hw) (q_hl (by rw [i_cl (by omega)]; exact xkw hw) (q_r2 (e_is hw a2) (q_nr (by decide) ?_))))
    rw [i_cl (by omega), a11]
    have eK : (xminl (xabsl y.toInt64) 24).toInt32 = Int32.ofNat (min y.toInt.natAbs 24) := e_mn y 24 (by decide)
    rw [eK]
    have t0 : (0 : Int32).toInt = 0 := rfl
    by_cases z : y ≤ 0
    · obtain ⟨a', e1, e2⟩ := lp_up (L := l319_31 N h b (Int32.ofNat w) y (Int32.ofNat (min y.toInt.natAbs 24))) (hi := min y.toInt.natAbs 24) (out := fun a => (0, a)) (P := fun j a' => Cl w (xU r 157 0 0) a' (uU w Y H B j (xU r 157 0 0)))
        (fun n j b1 h1 h2 => by
          obtain ⟨b2, t1, t2⟩ := e_up (N := N) (h := h) (b := b) (r := b1) (F := Y) (H := H) (B := B) hN hw (by omega) (by omega) (by rw [Cl_H h1 175 (by decide)]; exact a8) (by rw [Cl_H h1 176 (by decide)]; exact a10) d5
          have g7 : b1 177 w = Int32.ofNat Y := by rw [Cl_H h1 177 (by decide)]; exact a12
          rw [l319_31, if_neg (by rw [i_le (by omega) (by omega)]; omega), if_pos z, xg_pos (g_ix (by omega) (by decide)), i_cl (by omega), g7, t1, b1_some]
          unfold j319_66
          rw [on_s]
          exact ⟨b2, rfl, uU_s (by omega) (by omega) h1 t2⟩)
        (fun n b1 h1 => by rw [l319_31, if_pos (Int32.le_refl _)])
        (min y.toInt.natAbs 24) 0 N (xU r 157 0 0) (by omega) (by omega) (Cl_eq Cl_rfl (fun y x _ _ => by unfold uU; split <;> (try split) <;> (try rfl); omega))
      refine q_rb e1 ?_
      by_cases zz : y = 0
      · subst zz
        obtain ⟨c', u1, u2, u3⟩ := sl_dn (N := N) (h := h) (b := b) (F := Y) (k := 0) (s := 0) (a := a') hw hf (Wd_r hd) d5 (by decide) (Or.inl rfl) (Cl_eq e2 (fun y x _ _ => by unfold uU dD; simp [t0]; grind))
        exact q_l1 u1 (q_some.mpr ⟨rfl, Or.inr ⟨w, T, L, H, B, hB, hw, u2, Y, X, u3⟩⟩)
      · obtain ⟨c', u1, u2, u3⟩ := sl_up (N := N) (h := h) (b := b) (F := Y) (s := y) (a := a') hw hf (Wd_r hd) d5 (by grind) rfl e2
        exact q_l1 u1 (q_some.mpr ⟨rfl, Or.inr ⟨w, T, L, H, B, hB, hw, u2, Y, X, u3⟩⟩)
    · obtain ⟨a', e1, e2⟩ := lp_up (L := l319_31 N h b (Int32.ofNat w) y (Int32.ofNat (min y.toInt.natAbs 24))) (hi := min y.toInt.natAbs 24) (out := fun a => (0, a)) (P := fun j a' => Cl w (xU r 157 0 0) a' (dD w Y H B j (xU r 157 0 0)))
        (fun n j b1 h1 h2 => by
          obtain ⟨b2, t1, t2⟩ := e_dn (N := N) (h := h) (b := b) (r := b1) (F := Y) (H := H) (B := B) hN hw (by omega) (by omega) (by rw [Cl_H h1 175 (by decide)]; exact a8) (by rw [Cl_H h1 176 (by decide)]; exact a10) d5
          have g7 : b1 177 w = Int32.ofNat Y := by rw [Cl_H h1 177 (by decide)]; exact a12
          rw [l319_31, if_neg (by rw [i_le (by omega) (by omega)]; omega), if_neg z, xg_pos (g_ix (by omega) (by decide)), i_cl (by omega), g7, t1, b1_some]
          unfold j319_66
          rw [on_s]
          exact ⟨b2, rfl, dD_s (by omega) (by omega) h1 t2⟩)
        (fun n b1 h1 => by rw [l319_31, if_pos (Int32.le_refl _)])
        (min y.toInt.natAbs 24) 0 N (xU r 157 0 0) (by omega) (by omega) (Cl_eq Cl_rfl (fun y x _ _ => by unfold dD; split <;> (try split) <;> (try rfl); omega))
      refine q_rb e1 ?_
      obtain ⟨c', u1, u2, u3⟩ := sl_dn (N := N) (h := h) (b := b) (F := Y) (s := y) (a := a') hw hf (Wd_r hd) d5 (by grind) (Or.inl rfl) e2
      exact q_l1 u1 (q_some.mpr ⟨rfl, Or.inr ⟨w, T, L, H, B, hB, hw, u2, Y, X, u3⟩⟩)
theorem t_roll (hN : 100000 ≤ N) (hW : RW c r) (hb : ¬ c 0 14 = -1 → c 97 12 = r 157 36) : Q2 (f116_roll N h b x y c) (f322_roll N h b x y r) (fun p q => p.1 = q.1 ∧ Wp c r p.2 q.2) := by
  unfold f116_roll f322_roll
  refine q_wr.mpr ?_
  rcases w_case hW x with ⟨q1, q2⟩ | ⟨w, T, L, H, B, Y, X, hw, rfl, hd, ht, hB⟩
  · exact q_l2 (e_own q1) (q_pl rfl (q_r2 (e_isn q2) (q_pr rfl (q_some.mpr ⟨rfl, Or.inl ⟨rfl, rfl⟩⟩))))
  · have hd' := Wd_r (i := 0) (v := 0) hd
    obtain ⟨⟨a1, a2, a3, a4, a5, a6, a7, a8, a9, a10, a11, a12, a13, a14⟩, _, ⟨d1, d2, d3, d4, d5, d6⟩, e⟩ := hd'
    have hf : Wf w c (xU r 157 0 0) c (xU r 157 0 0) := Wf_rfl (hb ht)
    refine q_l2 (e_ow hw a1) (q_nl (ow_ne hw) (q_r2 (e_is hw a2) (q_nr (by decide) ?_)))
    rw [i_cl (by omega)]
    have eK : (xminl (xabsl y.toInt64) 24).toInt32 = Int32.ofNat (min y.toInt.natAbs 24) := e_mn y 24 (by decide)
    rw [eK]
    have t0 : (0 : Int32).toInt = 0 := rfl
    have ly := Int32.le_toInt y
    have uy := Int32.toInt_lt y
    have key : ∀ (s : Int32) (a' : xA), (∃ c', f107_slideRows N h b (141 + 2 * w) (Int32.ofNat 0) s c = some c' ∧ Wf w c (xU r 157 0 0) c' a' ∧ Wd w T L H B Y X c' a') → Q2 (j116_27 N h b s 0 (141 + 2 * w) c) (some ((1 : Int32), a')) (fun p q => p.1 = q.1 ∧ Wp c r p.2 q.2) := by
      rintro s a' ⟨c', u1, u2, u3⟩
      unfold j116_27
      exact q_hl (xkw hw) (q_l1 u1 (q_some.mpr ⟨rfl, Or.inr ⟨w, T, L, H, B, hB, hw, u2, Y, X, u3⟩⟩))
    by_cases z : y ≤ 0
    · have z' := Int32.le_iff_toInt_le.mp z
      rw [t0] at z'
      obtain ⟨a', e1, e2⟩ := lp_up (L := l322_31 N h b (Int32.ofNat w) y (Int32.ofNat (min y.toInt.natAbs 24))) (hi := min y.toInt.natAbs 24) (out := fun a => (0, a)) (P := fun j a' => Cl w (xU r 157 0 0) a' (dD w 0 H B j (xU r 157 0 0)))
        (fun n j b1 h1 h2 => by
          obtain ⟨b2, t1, t2⟩ := e_dn (N := N) (h := h) (b := b) (r := b1) (F := 0) (H := H) (B := B) hN hw (by omega) (by omega) (by rw [Cl_H h1 175 (by decide)]; exact a8) (by rw [Cl_H h1 176 (by decide)]; exact a10) (by omega)
          have t1' : f320_down N h b (Int32.ofNat w) 0 b1 = some b2 := t1
          rw [l322_31, if_neg (by rw [i_le (by omega) (by omega)]; omega), if_pos z, t1', b1_some]
          unfold j322_56
          rw [on_s]
          exact ⟨b2, rfl, dD_s (by omega) (by omega) h1 t2⟩)
        (fun n b1 h1 => by rw [l322_31, if_pos (Int32.le_refl _)])
        (min y.toInt.natAbs 24) 0 N (xU r 157 0 0) (by omega) (by omega) (Cl_eq Cl_rfl (fun y x _ _ => by unfold dD; split <;> (try split) <;> (try rfl); omega))
      refine q_rb e1 ?_
      by_cases z3 : y = -2147483648
      · refine q_pl z3 (key _ _ (sl_dn (F := 0) hw hf (Wd_r hd) (by omega) (by decide) (Or.inr ⟨?_, ?_⟩) e2))
        · have e5 : (-2147483648 : Int32).toInt = -2147483648 := rfl
          rw [z3, e5]; omega
        · have e5 : (2147483647 : Int32).toInt = 2147483647 := rfl
          rw [e5]; omega
      · have hn : (-y).toInt = -y.toInt := by
          rw [Int32.toInt_neg, Int.bmod_eq_of_le]
          · have : y.toInt ≠ -2147483648 := fun q => z3 (Int32.toInt_inj.mp (by rw [q]; rfl))
            omega
          · have : y.toInt ≠ -2147483648 := fun q => z3 (Int32.toInt_inj.mp (by rw [q]; rfl))
            omega
        refine q_nl z3 (key _ _ (sl_dn (F := 0) hw hf (Wd_r hd) (by omega) (by rw [Int32.le_iff_toInt_le, hn, t0]; omega) (Or.inl (by rw [hn]; omega)) e2))
    · have z' : 0 < y.toInt := by
        have := Int32.lt_iff_toInt_lt.mp (Int32.not_le.mp z)
        rw [t0] at this
        exact this
      obtain ⟨a', e1, e2⟩ := lp_up (L := l322_31 N h b (Int32.ofNat w) y (Int32.ofNat (min y.toInt.natAbs 24))) (hi := min y.toInt.natAbs 24) (out := fun a => (0, a)) (P := fun j a' => Cl w (xU r 157 0 0) a' (uU w 0 H B j (xU r 157 0 0)))
        (fun n j b1 h1 h2 => by
          obtain ⟨b2, t1, t2⟩ := e_up (N := N) (h := h) (b := b) (r := b1) (F := 0) (H := H) (B := B) hN hw (by omega) (by omega) (by rw [Cl_H h1 175 (by decide)]; exact a8) (by rw [Cl_H h1 176 (by decide)]; exact a10) (by omega)
          have t1' : f316_up N h b (Int32.ofNat w) 0 b1 = some b2 := t1
          rw [l322_31, if_neg (by rw [i_le (by omega) (by omega)]; omega), if_neg z, t1', b1_some]
          unfold j322_56
          rw [on_s]
          exact ⟨b2, rfl, uU_s (by omega) (by omega) h1 t2⟩)
        (fun n b1 h1 => by rw [l322_31, if_pos (Int32.le_refl _)])
        (min y.toInt.natAbs 24) 0 N (xU r 157 0 0) (by omega) (by omega) (Cl_eq Cl_rfl (fun y x _ _ => by unfold uU; split <;> (try split) <;> (try rfl); omega))
      refine q_rb e1 ?_
      have hn : (-y).toInt = -y.toInt := by rw [Int32.toInt_neg, Int.bmod_eq_of_le (by omega) (by omega)]
      refine q_nl (fun q => absurd q (fun q => z (by rw [q]; decide))) (key _ _ (sl_up (F := 0) hw hf (Wd_r hd) (by omega) (by rw [Int32.lt_iff_toInt_lt, hn, t0]; omega) (by rw [hn]; omega) e2))
/-- to the next row -/
theorem d_nr (hN : 100000 ≤ N) (hw : w < 8) (hf : Wf w c0 r0 c r) (hd : Wd w T L H B Y X c r) : Q2 (f106_goToNextRow N h b (141 + 2 * w) c) (f315_nextRow N h b (Int32.ofNat w) r) (fun p q => p.1 = q.1 ∧ WD w T L H B c0 r0 p.2 q.2 ∧ (p.1 = 0 ∨ p.1 = 1) ∧ (Y + 1 < H ∨ ¬ c (141 + 2 * w) 9 = 0 → p.1 = 1)) := by
  have hd' := hd
  obtain ⟨⟨a1, a2, a3, a4, a5, a6, a7, a8, a9, a10, a11, a12, a13, a14⟩, ⟨b1, b2, b3⟩, ⟨d1, d2, d3, d4, d5, d6⟩, e⟩ := hd'
  unfold f106_goToNextRow f315_nextRow
  refine q_hl (xkw hw) (q_hr (g_ix hw (by decide)) ?_)
  rw [i_cl (by omega), a7, a8, a11, a12, on_p d1, ← b2]
  have gx := g_ix (j := w) (n := 8) hw (by decide)
  have gx' : ¬ (Int32.ofNat w < 0 ∨ 8 ≤ w) := by
    rw [i_neg (by omega)]
    rintro (q | q)
    · exact q
    · omega
  by_cases z : Y + 1 < H
  · refine q_nl (by rw [i_le (by omega) (by omega)]; omega) (q_nr (by rw [i_eq (by omega) (by omega)]; omega) ?_)
    unfold j315_28 j106_44 j315_64
    refine q_hr gx ?_
    rw [i_cl (by omega), a8, a12, on_p d1]
    refine q_nr (by rw [i_eq (by omega) (by omega)]; omega) (q_wl.mpr (q_wl.mpr (q_wr.mpr (q_hr gx' (q_wr.mpr ?_)))))
    rw [on_s]
    exact q_some.mpr ⟨rfl, ⟨hw, Wf_u (Wf_u hf (by omega) (by omega)) (by omega) (by omega), Y + 1, 0, Wd_X (Wd_Y hd z) (by omega)⟩, Or.inr rfl, fun _ => rfl⟩
  · refine q_pl (by rw [i_le (by omega) (by omega)]; omega) (q_pr (by rw [i_eq (by omega) (by omega)]; omega) ?_)
    refine q_il.mpr ⟨fun z2 => q_pr z2 (q_some.mpr ⟨rfl, ⟨hw, hf, Y, X, hd⟩, Or.inl rfl, fun q => q.elim (fun q => absurd q z) (fun q => absurd z2 q)⟩), fun z2 => q_nr z2 ?_⟩
    obtain ⟨a', t1, t2⟩ := e_up (N := N) (h := h) (b := b) (r := r) (F := 0) (H := H) (B := B) hN hw (by omega) (by omega) a8 a10 (by omega)
    obtain ⟨c', u1, u2, u3⟩ := sl_up (N := N) (h := h) (b := b) (F := 0) (k := 1) (s := -1) (a := a') hw hf hd (by omega) (by decide) rfl (Cl_eq t2 (fun y x _ _ => by unfold uU; rfl))
    have u1' : f107_slideRows N h b (141 + 2 * w) 0 (-1) c = some c' := u1
    have t1' : f316_up N h b (Int32.ofNat w) 0 r = some a' := t1
    unfold j315_28 j106_44 j315_64
    refine q_l1 u1' (q_wl.mpr (q_hr gx ?_))
    rw [i_cl (by omega), a8, a12, on_p d1]
    refine q_pr (by rw [i_eq (by omega) (by omega)]; omega) (q_r1 t1' (q_hr gx' (q_wr.mpr ?_)))
    exact q_some.mpr ⟨rfl, ⟨hw, Wf_u u2 (by omega) (by omega), Y, 0, Wd_X u3 (by omega)⟩, Or.inr rfl, fun _ => rfl⟩
/-- one sign -/
theorem d_let (hN : 100000 ≤ N) (hD : WD w T L H B c0 r0 c r) : Q2 (f111_saySign N h b (141 + 2 * w) x c) (f313_letter N h b (Int32.ofNat w) x r) (fun p q => p.1 = q.1 ∧ WD w T L H B c0 r0 p.2 q.2 ∧ (p.1 = 0 ∨ p.1 = 1)) := by
  obtain ⟨hw, hf, Y, X, hd⟩ := hD
  have hd' := hd
  obtain ⟨⟨a1, a2, a3, a4, a5, a6, a7, a8, a9, a10, a11, a12, a13, a14⟩, ⟨b1, b2, b3⟩, ⟨d1, d2, d3, d4, d5, d6⟩, e⟩ := hd'
  unfold f111_saySign f313_letter
  have gx := g_ix (j := w) (n := 8) hw (by decide)
  have hm := mul_ub d5 d6
  have hHB := hb_ub (H := H) (B := B) (by omega) (by omega)
  refine q_hl (xkw hw) ?_
  rw [xlg hw, a9, a11, a13, ← Int32.ofNat_mul, ← Int32.ofNat_add]
  refine q_hl (g_ix (by omega) (by decide)) (q_wl.mpr (q_hr gx ?_))
  rw [i_cl (show w < 2 ^ 31 by omega), a12, a14]
  refine q_r2 e_ca (q_hr (g_ix (by omega) (by decide)) (q_wr.mpr ?_))
  rw [i_cl (by omega), i_cl (by omega), ← b1]
  have h1 := Wd_c (v := x + 256 * c (141 + 2 * w) 8) hw hd d5 d6
  have h2 : Wf w c0 r0 (xU c (141 + 2 * w + 1) (Y * B + X) (x + 256 * c (141 + 2 * w) 8)) (xU r 181 (1920 * w + 80 * Y + X) (x + 256 * c (141 + 2 * w) 8)) := Wf_u hf (by omega) (by omega)
  have h1' := h1
  obtain ⟨⟨_, _, _, _, _, _, _, _, a9, a10, _, _, a13, a14⟩, _, _, _⟩ := h1'
  rw [a9, a10, a13, a14, on_p d3]
  refine q_il.mpr ⟨fun z => q_pr z (q_b22 (d_nr hN hw h2 h1) (fun v c1 v' r1 hh => ?_)), fun z => q_nr z (q_wl.mpr (q_wr.mpr ?_))⟩
  · obtain ⟨t1, t2, t3, t4⟩ := hh
    have t1' : v = v' := t1
    subst t1'
    exact q_hl t3 (q_hr t3 (q_some.mpr ⟨rfl, t2, t3⟩))
  · rw [i_le (by omega) (by omega)] at z
    rw [on_s]
    exact q_some.mpr ⟨rfl, ⟨hw, Wf_u h2 (by omega) (by omega), Y, X + 1, Wd_X h1 (by omega)⟩, Or.inr rfl⟩
end W
