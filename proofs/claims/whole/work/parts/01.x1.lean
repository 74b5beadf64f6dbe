/-! The painter's screens: open, show, redraw, known, wanted. -/
section W
variable {N h b : Nat} {c0 r0 c r : xA} {x y z u : Int32} {w T L H B Y X e Ln Co : Nat}
def Pz (e Ln Co : Nat) (c r : xA) : Prop := e < 12 ∧ 2 ≤ Ln ∧ Ln ≤ 24 ∧ 4 ≤ Co ∧ Co ≤ 80 ∧ c 0 14 = Int32.ofNat (9 + 7 * e) ∧ r 157 21 = Int32.ofNat e ∧ c 97 6 = Int32.ofNat (9 + 7 * e) ∧ c 97 7 = Int32.ofNat 93 ∧ c 97 8 = Int32.ofNat Ln ∧ r 157 27 = Int32.ofNat Ln ∧ c 97 9 = Int32.ofNat Co ∧ r 157 26 = Int32.ofNat Co
def Pw (Ln Co : Nat) (c r : xA) : Prop := c 98 4 = Int32.ofNat Ln ∧ c 98 5 = Int32.ofNat Co ∧ (∃ Y X, Y < Ln ∧ X < Co ∧ c 98 6 = Int32.ofNat Y ∧ r 157 30 = Int32.ofNat Y ∧ c 98 7 = Int32.ofNat X ∧ r 157 31 = Int32.ofNat X) ∧ ∀ y x, y < Ln → x < Co → c 99 (y * Co + x) = r 170 (80 * y + x)
def Pk (Ln Co : Nat) (c r : xA) : Prop := c 100 4 = Int32.ofNat Ln ∧ c 100 5 = Int32.ofNat Co ∧ c 100 8 = r 157 34 ∧ 0 ≤ c 100 8 ∧ c 100 8 ≤ 15 ∧ c 97 13 = r 157 35 ∧ (c 97 13 = 0 ∨ c 97 13 = 1) ∧
  ((c 97 14 = 0 ∧ r 157 32 = -1 ∧ r 157 33 = -1) ∨ (c 97 14 = 1 ∧ ∃ Y X, Y < Ln ∧ X < Co ∧ c 100 6 = Int32.ofNat Y ∧ r 157 32 = Int32.ofNat Y ∧ c 100 7 = Int32.ofNat X ∧ r 157 33 = Int32.ofNat X)) ∧ ∀ y x, y < Ln → x < Co → c 101 (y * Co + x) = r 171 (80 * y + x)
def RP (c r : xA) : Prop := (c 0 14 = -1 ∧ r 157 21 = -1 ∧ r 157 32 = -1 ∧ r 157 33 = -1 ∧ r 157 34 = 0) ∨ ∃ e Ln Co, Pz e Ln Co c r ∧ Pw Ln Co c r ∧ Pk Ln Co c r ∧ c 97 12 = r 157 36 ∧ True
theorem ofn_ne {k : Nat} (hk : k < 2 ^ 31) : ¬ Int32.ofNat k = -1 := by
  intro q
  have := congrArg Int32.toInt q
  rw [Int32.toInt_ofNat_of_lt hk] at this
  have e2 : (-1 : Int32).toInt = -1 := rfl
  omega
theorem RP_bell (hP : RP c r) (ht : ¬ c 0 14 = -1) : c 97 12 = r 157 36 := by
  rcases hP with q | ⟨e, Ln, Co, q1, q2, q3, q4, q5⟩
  · exact absurd q.1 ht
  · exact q4
theorem t_redraw (hP : RP c r) : Q2 (f157_redraw N h b c) (f327_redraw N h b r) (fun p q => p.1 = q.1 ∧ ((p.2 = c ∧ q.2 = xU r 157 0 0) ∨ p.2 = xU c 97 13 1 ∧ q.2 = xU (xU r 157 0 0) 157 35 1)) := by
  unfold f157_redraw f327_redraw
  refine q_wr.mpr ?_
  rcases hP with q | ⟨e, Ln, Co, q1, q2, q3, q4, q5⟩
  · exact q_pl q.1 (q_pr q.2.1 (q_some.mpr ⟨rfl, Or.inl ⟨rfl, rfl⟩⟩))
  · obtain ⟨a1, a2, a3, a4, a5, a6, a7, a8, a9, a10, a11, a12, a13⟩ := q1
    exact q_nl (by rw [a6]; exact ofn_ne (by omega)) (q_nr (by rw [xU_s (by decide), a7]; exact ofn_ne (by omega)) (q_wl.mpr (q_wr.mpr (q_some.mpr ⟨rfl, Or.inr ⟨rfl, rfl⟩⟩))))
theorem e_os {a : xA} (ht : a 157 21 = Int32.ofNat e) (he : e < 12) : f329_onScreen N h b x y a = some (zb (0 ≤ x ∧ x < a 157 27 ∧ 0 ≤ y ∧ y < a 157 26), a) := by
  unfold f329_onScreen
  simp only [zi10, zi01, zg]
  rw [if_neg (by rw [ht]; exact ofn_ne (by omega))]
  by_cases z1 : x < 0
  · rw [if_pos z1, zb_f (fun q => absurd z1 (Int32.not_lt.mpr q.1))]
  · rw [if_neg z1]
    by_cases z3 : y < 0
    · rw [if_pos z3, zb_f (fun q => absurd z3 (Int32.not_lt.mpr q.2.2.1))]
    · rw [if_neg z3]
      by_cases z2 : a 157 27 ≤ x
      · rw [if_pos z2, zb_f (fun q => absurd z2 (Int32.not_le.mpr q.2.1))]
      · rw [if_neg z2]
        have e : (¬ a 157 26 ≤ y) = (0 ≤ x ∧ x < a 157 27 ∧ 0 ≤ y ∧ y < a 157 26) := propext ⟨fun q => ⟨Int32.not_lt.mp z1, Int32.not_le.mp z2, Int32.not_lt.mp z3, Int32.not_le.mp q⟩, fun q => Int32.not_le.mpr q.2.2.2⟩
        rw [e]
/-- a cell of a painter's screen -/
theorem d_cell {o p : Nat} {α β : Type} {Q : α → β → Prop} {k : Int32 → xA → Option α} {l : Int32 → xA → Option β} (ho : xk o = 10) (hl : xl h b (o + 1) = 1920) (h4 : c o 4 = Int32.ofNat Ln) (h5 : c o 5 = Int32.ofNat Co) (hLn : Ln ≤ 24) (hCo : Co ≤ 80) (h6 : r 157 27 = Int32.ofNat Ln) (h7 : r 157 26 = Int32.ofNat Co) (ht : r 157 21 = Int32.ofNat e) (he : e < 12) (hc : ∀ y x, y < Ln → x < Co → c (o + 1) (y * Co + x) = r p (80 * y + x))
    (hno : Q2 (k (-1) c) (l (-1) r) Q) (hyes : ∀ v, Q2 (k v c) (l v r) Q) : Q2 (xb2 (f120_cell N h b o x y c) k) (xb2 (f329_onScreen N h b x y r) (fun r7 a8 => if r7 = 0 then l (-1) a8 else xg (¬ ((80 * x) + y < 0 ∨ 1920 ≤ ((80 * x) + y).toNatClampNeg)) (l (a8 p ((80 * x) + y).toNatClampNeg) a8))) Q := by
  unfold f120_cell
  rw [b2_g, b2_2]
  refine q_hl ho (q_l2 (e_hc ho) (q_r2 (e_os ht he) ?_))
  rw [h4, h5, h6, h7, b2_i, b2_some, hl, b2_g, b2_some]
  by_cases q : 0 ≤ x ∧ x < Int32.ofNat Ln ∧ 0 ≤ y ∧ y < Int32.ofNat Co
  · refine q_nl (by rw [zb_0]; exact fun n => n q) (q_nr (by rw [zb_0]; exact fun n => n q) ?_)
    obtain ⟨q1, q2, q3, q4⟩ := q
    have ly := cl_ltn (n := Ln) q1 q2 (i_cl (by omega))
    have lz := cl_ltn (n := Co) q3 q4 (i_cl (by omega))
    have hm := mul_ub ly lz
    have hHB := hb_ub (H := Ln) (B := Co) (by omega) (by omega)
    have ee := hc _ _ ly lz
    rw [← i_ofn q1, ← i_ofn q3, show (80 : Int32) = Int32.ofNat 80 from rfl, ← Int32.ofNat_mul, ← Int32.ofNat_mul, ← Int32.ofNat_add, ← Int32.ofNat_add]
    refine q_hl (g_ix (by omega) (by decide)) (q_hr (g_ix (by omega) (by decide)) ?_)
    rw [i_cl (by omega), i_cl (by omega), ee]
    exact hyes _
  · exact q_pl (zb_f q) (q_pr (zb_f q) hno)
theorem t_wanted (hP : RP c r) : Q2 (f159_wanted N h b x y c) (f330_wanted N h b x y r) (fun p q => p.1 = q.1 ∧ p.2 = c ∧ q.2 = xU r 157 0 0) := by
  unfold f159_wanted f330_wanted
  refine q_wr.mpr ?_
  rcases hP with q | ⟨e, Ln, Co, q1, q2, q3, q4, q5⟩
  · refine q_pl q.1 (q_r2 (v := 0) (a := xU r 157 0 0) ?_ (q_pr rfl (q_some.mpr ⟨rfl, rfl, rfl⟩)))
    unfold f329_onScreen
    rw [if_pos (by rw [xU_s (by decide)]; exact q.2.1)]
  · obtain ⟨a1, a2, a3, a4, a5, a6, a7, a8, a9, a10, a11, a12, a13⟩ := q1
    obtain ⟨b1, b2, b3, b4⟩ := q2
    exact q_nl (by rw [a6]; exact ofn_ne (by omega)) (d_cell (o := 98) (p := 170) (l := fun v a => some (v, a)) rfl rfl b1 b2 a3 a5 a11 a13 a7 a1 b4 (q_some.mpr ⟨rfl, rfl, rfl⟩) (fun v => q_some.mpr ⟨rfl, rfl, rfl⟩))
theorem c_known (hP : RP c r) : Q2 (f158_known N h b x y c) (f328_known N h b x y r) (fun p q => p.1 = q.1 ∧ p.2 = c ∧ q.2 = xU r 157 0 0) := by
  unfold f158_known f328_known j158_17 j328_21
  refine q_wr.mpr ?_
  rcases hP with q | ⟨e, Ln, Co, q1, q2, q3, q4, q5⟩
  · refine q_pl q.1 (q_r2 (v := 0) (a := xU r 157 0 0) ?_ (q_pr rfl (q_some.mpr ⟨rfl, rfl, rfl⟩)))
    unfold f329_onScreen
    rw [if_pos (by rw [xU_s (by decide)]; exact q.2.1)]
  · obtain ⟨a1, a2, a3, a4, a5, a6, a7, a8, a9, a10, a11, a12, a13⟩ := q1
    obtain ⟨b1, b2, b3, b4, b5, b6, b7, b8, b9⟩ := q3
    refine q_nl (by rw [a6]; exact ofn_ne (by omega)) ?_
    by_cases zs : c 97 13 = 0
    · refine q_pl zs ?_
      have zs' : xU r 157 0 0 157 35 = 0 := by rw [xU_s (by decide), ← b6]; exact zs
      have k := d_cell (N := N) (h := h) (b := b) (x := x) (y := y) (r := xU r 157 0 0) (o := 100) (p := 171) (k := fun r7 a8 => some (r7, a8)) (l := fun v a => some (v, a)) (Q := fun p q => p.1 = q.1 ∧ p.2 = c ∧ q.2 = xU r 157 0 0) rfl rfl b1 b2 a3 a5 a11 a13 a7 a1 b9 (q_some.mpr ⟨rfl, rfl, rfl⟩) (fun v => q_some.mpr ⟨rfl, rfl, rfl⟩)
      rw [e_os (N := N) (h := h) (b := b) (e := e) (a := xU r 157 0 0) a7 a1, b2_some] at k ⊢
      obtain ⟨p1, p2, f1, f2, f3⟩ := k
      refine ⟨p1, p2, f1, ?_, f3⟩
      rw [← f2]
      rw [if_pos zs']
    · refine q_nl zs ?_
      rw [e_os (N := N) (h := h) (b := b) (e := e) (a := xU r 157 0 0) a7 a1, b2_some]
      refine q_ir.mpr ⟨fun _ => q_some.mpr ⟨rfl, rfl, rfl⟩, fun _ => q_nr (by rw [xU_s (by decide), ← b6]; exact zs) (q_some.mpr ⟨rfl, rfl, rfl⟩)⟩
end W
