/-! Erasing the screen. -/
section G
variable {N h b : Nat} {c0 r0 c r c' r' : xA} {x y s v : Int32} {Y X Tp Bt F E k : Nat}
/-- one row of the reference's J: from A to the place behind it, wide no more if it is whole -/
theorem e_jrow {w1 w3 : Int32} {n yy A B' : Nat} {rc : Int32 → xA → Option (Nat × xA)} {a : xA} (hd : Dim N h b) (h9 : a 157 69 = Int32.ofNat b) (hy : yy < h) (hA : A ≤ B') (hB : B' ≤ LL b (a 191 yy)) : ∃ a', j403_97 N h b rc w1 w3 (Int32.ofNat yy) (Int32.ofNat A) (Int32.ofNat B') a = rc (Int32.ofNat (yy + 1)) a' ∧ Cs a a' (fun y x => if y = yy ∧ A ≤ x ∧ x ≤ B' then 32 else s0 a y x) (fun y => if y = yy ∧ A = 0 ∧ B' = LL b (a 191 yy) then 0 else v0 a y) := by
  have hd' := hd
  obtain ⟨m0, m1, m2, m3, m4, m5⟩ := hd'
  have lb := LL_b hd (a 191 yy)
  unfold j403_97 j403_135
  obtain ⟨a1, t1, t2⟩ := e_blank (N := N) (h := h) (b := b) (yy := yy) (A := A) (E := B' + 1) (a := a) m0 (by omega) (by omega) (by omega)
  have e157 : a1 157 = a 157 := t2.1 157 (by decide) (by decide)
  have e191 : a1 191 yy = a 191 yy := t2.2.2 yy (by omega)
  rw [on_s, t1, b1_some]
  by_cases z : A = 0
  · rw [if_pos (by rw [z_eq (by omega)]; exact z), e_last' hd (by rw [e157]; exact h9) hy, b2_some, e191]
    by_cases z2 : B' = LL b (a 191 yy)
    · rw [if_pos (by rw [i_eq (by omega) (by omega)]; exact z2), xg_pos (g_ix (by omega) (by decide)), i_cl (by omega), on_s]
      refine ⟨_, rfl, Cs_eq (Cs_v t2) (fun y' x' h5 h6 => by grind) (fun y' h5 => ?_)⟩
      by_cases q : y' = yy
      · rw [if_pos q, if_pos ⟨q, z, z2⟩]
      · rw [if_neg q, if_neg (fun n => q n.1)]
    · rw [if_neg (by rw [i_eq (by omega) (by omega)]; exact z2), on_s]
      refine ⟨_, rfl, Cs_eq t2 (fun y' x' h5 h6 => by grind) (fun y' h5 => by rw [if_neg (fun n => z2 n.2.2)])⟩
  · rw [if_neg (by rw [z_eq (by omega)]; exact z), on_s]
    refine ⟨_, rfl, Cs_eq t2 (fun y' x' h5 h6 => by grind) (fun y' h5 => by rw [if_neg (fun n => z n.2.1)])⟩
/-- rows F .. E of the reference's J -/
def jA (p : Int32) (Y X y : Nat) : Nat := if p = 0 ∧ y = Y then X else 0
def jB (b : Nat) (p : Int32) (Y X : Nat) (r : xA) (y : Nat) : Nat := if p = 1 ∧ y = Y then X else LL b (r 191 y)
theorem e_jl {p : Int32} (hd : Dim N h b) (hp : p = 0 ∨ p = 1 ∨ p = 2) (hs : Gs h b Y X Tp Bt c r) (hF : F ≤ E + 1) (hE : E < h) : ∃ a', l403_41 N h b p (Int32.ofNat E) N (Int32.ofNat F) r = some (0, a') ∧ Cs r a' (fun y x => if F ≤ y ∧ y ≤ E ∧ jA p Y X y ≤ x ∧ x ≤ jB b p Y X r y then 32 else s0 r y x) (fun y => if F ≤ y ∧ y ≤ E ∧ jA p Y X y = 0 ∧ jB b p Y X r y = LL b (r 191 y) then 0 else v0 r y) := by
  have hd' := hd
  obtain ⟨m0, m1, m2, m3, m4, m5⟩ := hd'
  have hs' := hs
  obtain ⟨⟨a1, a2, a3, a4⟩, ⟨b1, b2, b3, b4⟩, ⟨d1, d2, d3, d4, d5, d6, d7, d8⟩⟩ := hs'
  obtain ⟨a', e1, e2⟩ := lp_up (L := l403_41 N h b p (Int32.ofNat E)) (hi := E + 1) (out := fun a => (0, a)) (P := fun j a' => F ≤ j ∧ Cs r a' (fun y x => if F ≤ y ∧ y < j ∧ jA p Y X y ≤ x ∧ x ≤ jB b p Y X r y then 32 else s0 r y x) (fun y => if F ≤ y ∧ y < j ∧ jA p Y X y = 0 ∧ jB b p Y X r y = LL b (r 191 y) then 0 else v0 r y))
    (fun n j a1' h1 h2 => by
      have e157 : a1' 157 = r 157 := h1.2.1 157 (by decide) (by decide)
      have e191 : a1' 191 j = r 191 j := (h1.2.2.2 j (by omega)).trans (if_neg (by omega))
      have lj := LL_b hd (r 191 j)
      have hA : jA p Y X j ≤ jB b p Y X r j := by
        unfold jA jB
        rcases hp with q | q | q <;> subst q <;> split <;> split <;> (try omega) <;> (next u1 u2 => first | (obtain ⟨_, u⟩ := u1; subst u; exact b2) | omega)
      have hB : jB b p Y X r j ≤ LL b (r 191 j) := by
        unfold jB
        split
        · next u => obtain ⟨_, u⟩ := u; subst u; exact b2
        · exact Nat.le_refl _
      obtain ⟨a2', t1, t2⟩ := e_jrow (N := N) (h := h) (b := b) (w1 := p) (w3 := Int32.ofNat E) (n := n) (yy := j) (A := jA p Y X j) (B' := jB b p Y X r j) (rc := l403_41 N h b p (Int32.ofNat E) n) (a := a1') hd (by rw [e157]; exact a4) (by omega) hA (by rw [e191]; exact hB)
      have eL : f385_last N h b (Int32.ofNat j) a1' = some (Int32.ofNat (LL b (r 191 j)), a1') := by rw [e_last' hd (by rw [e157]; exact a4) (by omega), e191]
      have est : l403_41 N h b p (Int32.ofNat E) (n + 1) (Int32.ofNat j) a1' = j403_97 N h b (l403_41 N h b p (Int32.ofNat E) n) p (Int32.ofNat E) (Int32.ofNat j) (Int32.ofNat (jA p Y X j)) (Int32.ofNat (jB b p Y X r j)) a1' := by
        rw [l403_41, if_neg (by rw [i_lt (by omega) (by omega)]; omega)]
        unfold j403_67 j403_68 j403_91 jA jB
        rw [e157, d2, d4, eL, b2_some, b2_some]
        have ej : (Int32.ofNat j = Int32.ofNat Y) = (j = Y) := i_eq (by omega) (by omega)
        simp only [ej]
        rcases hp with q | q | q <;> subst q
        · by_cases u : j = Y
          · simp [u]
          · simp [u]
        · by_cases u : j = Y
          · simp [u]
          · simp [u]
        · simp
      rw [est, t1]
      refine ⟨a2', rfl, by omega, Cs_eq (Cs_tr h1.2 t2) (fun y' x' h5 h6 => ?_) (fun y' h5 => ?_)⟩
      · have q1 : s0 a1' y' x' = _ := h1.2.2.1 y' x' h5 h6
        rw [q1]
        have := h1.1
        by_cases u : y' = j
        · subst u; grind
        · grind
      · have q1 : v0 a1' y' = _ := h1.2.2.2 y' h5
        rw [q1, e191]
        have := h1.1
        by_cases u : y' = j
        · subst u; grind
        · grind)
    (fun n a1' h1 => by rw [l403_41, if_pos (by rw [i_lt (by omega) (by omega)]; omega)])
    (E + 1 - F) F N r (by omega) (by omega) ⟨Nat.le_refl _, Cs_eq Cs_rfl (fun y' x' h5 h6 => by rw [if_neg (by omega)]) (fun y' h5 => by rw [if_neg (by omega)])⟩
  exact ⟨a', e1, Cs_eq e2.2 (fun y' x' h5 h6 => by grind) (fun y' h5 => by grind)⟩
/-- what both make of the screen -/
theorem d_Jf {p : Int32} {a : xA} {f g : Nat → Int32} {F E : Nat} (W : Nat → Prop) (hW : ∀ y, W y → jB b p Y X r y = LL b (r 191 y)) (hd : Dim N h b) (hR : RG h b c0 r0 c r) (hs : Gs h b Y X Tp Bt c r) (hC : Cs r a (fun y x => if F ≤ y ∧ y ≤ E ∧ jA p Y X y ≤ x ∧ x ≤ jB b p Y X r y then 32 else s0 r y x) (fun y => if F ≤ y ∧ y ≤ E ∧ jA p Y X y = 0 ∧ jB b p Y X r y = LL b (r 191 y) then 0 else v0 r y))
    (h1 : ∀ y x, y < h → x < b → f (y * b + x) = @ite Int32 (F ≤ y ∧ y ≤ E ∧ jA p Y X y ≤ x ∧ (x ≤ jB b p Y X r y ∨ W y)) (Classical.propDecidable _) 32 (c 138 (y * b + x))) (h2 : ∀ y, y < h → g y = if F ≤ y ∧ y ≤ E ∧ jA p Y X y = 0 ∧ jB b p Y X r y = LL b (r 191 y) then 0 else c 139 y) : RG h b c0 r0 (xU (xW (xW c 138 f) 139 g) 136 16 2) (xU a 157 81 2) := by
  have hd' := hd
  obtain ⟨m0, m1, m2, m3, m4, m5⟩ := hd'
  obtain ⟨hf, _, ho, hv, hc⟩ := hR
  have b1 := hs.2.1.1
  have b2 := hs.2.1.2.1
  have wide : ∀ {y1 x1 : Nat}, y1 < h → x1 < b → LL b (r 191 y1) < x1 → r 190 (80 * y1 + x1) = 32 := by
    intro y1 x1 h1 h2 h3
    by_cases z : r 191 y1 = 0
    · unfold LL at h3; rw [if_pos z] at h3; omega
    · unfold LL at h3; rw [if_neg z] at h3; exact hc.2.2.2 y1 x1 h1 z (by omega) h2
  have X0 : X ≤ LL b 0 := by unfold LL at *; rw [if_pos rfl]; split at b2 <;> omega
  obtain ⟨w1, w2, w3, w4, w5⟩ := RG_wd (f := f) (g := g) hd hf (Gs_t hs) ho hv hc hC (fun y1 x1 h4 h5 => by
      rw [h1 y1 x1 h4 h5]
      by_cases u : F ≤ y1 ∧ y1 ≤ E ∧ jA p Y X y1 ≤ x1 ∧ x1 ≤ jB b p Y X r y1
      · rw [if_pos u, if_pos ⟨u.1, u.2.1, u.2.2.1, Or.inl u.2.2.2⟩]
      · rw [if_neg u]
        by_cases w : F ≤ y1 ∧ y1 ≤ E ∧ jA p Y X y1 ≤ x1 ∧ (x1 ≤ jB b p Y X r y1 ∨ W y1)
        · rw [if_pos w]
          have e : jB b p Y X r y1 = LL b (r 191 y1) := hW y1 (w.2.2.2.resolve_left (fun n => u ⟨w.1, w.2.1, w.2.2.1, n⟩))
          exact (wide h4 h5 (by rw [← e]; apply Nat.lt_of_not_le; exact fun n => u ⟨w.1, w.2.1, w.2.2.1, n⟩)).symm
        · rw [if_neg w]; exact hc.2.2.1 y1 x1 h4 h5) (fun y1 h4 => by
      rw [h2 y1 h4]
      by_cases u : F ≤ y1 ∧ y1 ≤ E ∧ jA p Y X y1 = 0 ∧ jB b p Y X r y1 = LL b (r 191 y1)
      · rw [if_pos u, if_pos u]
      · rw [if_neg u, if_neg u]; exact hc.1 y1 h4) (fun y1 x1 h4 h5 h6 h7 => by
      by_cases u : F ≤ y1 ∧ y1 ≤ E ∧ jA p Y X y1 ≤ x1 ∧ x1 ≤ jB b p Y X r y1
      · rw [if_pos u]
      · rw [if_neg u]
        by_cases w : F ≤ y1 ∧ y1 ≤ E ∧ jA p Y X y1 = 0 ∧ jB b p Y X r y1 = LL b (r 191 y1)
        · rw [if_pos w] at h5; exact absurd rfl h5
        · rw [if_neg w] at h5
          exact hc.2.2.2 y1 x1 h4 h5 h6 h7)
  refine RG_16 ⟨w1, ⟨Y, X, Tp, Bt, Gt_s w2 ?_⟩, w3, w4, w5⟩
  rw [hC.2.2 Y (by omega)]
  dsimp only
  by_cases u : F ≤ Y ∧ Y ≤ E ∧ jA p Y X Y = 0 ∧ jB b p Y X r Y = LL b (r 191 Y)
  · rw [if_pos u]; exact X0
  · rw [if_neg u]; exact b2
theorem d_J (hd : Dim N h b) (hR : RG h b c0 r0 c r) (hx : 0 ≤ x) : Q2 (f230_eraseScreen N h b x c) (f403_erases N h b x r) (fun p q => RG h b c0 r0 p q) := by
  have hR' := hR
  obtain ⟨hf, ⟨Y, X, Tp, Bt, hs⟩, ho, hv, hc⟩ := hR'
  have hs' := hs
  obtain ⟨⟨a1, a2, a3, a4⟩, ⟨b1, b2, b3, b4⟩, ⟨d1, d2, d3, d4, d5, d6, d7, d8⟩⟩ := hs'
  have hd' := hd
  obtain ⟨m0, m1, m2, m3, m4, m5⟩ := hd'
  have hHB := hb_ub (H := h) (B := b) m2 m4
  have lb := LL_b hd (r 191 Y)
  have eY : (Y + 1) * b ≤ h * b := Nat.mul_le_mul_right b b1
  have eY1 : (Y + 1) * b = Y * b + b := by rw [Nat.add_mul]; omega
  have l8 : xl h b 138 = h * b := rfl
  have l9 : xl h b 139 = h := rfl
  have n01 : ¬ (0 : Int32) = 1 := by decide
  have n10 : ¬ (1 : Int32) = 0 := by decide
  have n20 : ¬ (2 : Int32) = 0 := by decide
  have n21 : ¬ (2 : Int32) = 1 := by decide
  -- class: the ends of the three ways
  have last : ∀ (f g : Nat → Int32), j230_145 N h b (xW (xW c 138 f) 139 g) = some (xU (xW (xW c 138 f) 139 g) 136 16 2) := fun f g => rfl
  have k136 : ∀ (f g : Nat → Int32), (xW (xW c 138 f) 139 g) 136 = c 136 := fun f g => by rw [xW_o (by decide), xW_o (by decide)]
  have k138 : ∀ (f g : Nat → Int32), (xW (xW c 138 f) 139 g) 138 = f := fun f g => by rw [xW_o (by decide), xW_e]
  have k139 : ∀ (f g : Nat → Int32), (xW (xW c 138 f) 139 g) 139 = g := fun f g => xW_e
  have kw8 : ∀ (f g f' : Nat → Int32), xW (xW (xW c 138 f) 139 g) 138 f' = xW (xW c 138 f') 139 g := fun f g f' => by
    apply xA_ext; intro p i; simp only [xW_eq]; grind
  have kw9 : ∀ (f g g' : Nat → Int32), xW (xW (xW c 138 f) 139 g) 139 g' = xW (xW c 138 f) 139 g' := fun f g g' => by
    apply xA_ext; intro p i; simp only [xW_eq]; grind
  have e97 : ∀ (q : Int32) (f g : Nat → Int32), ¬ q = 1 → j230_97 N h b q (xW (xW c 138 f) 139 g) = some (xU (xW (xW c 138 (am_fll f ((Y + 1) * b) (h * b) 32)) 139 (am_fll g (Y + 1) h 0)) 136 16 2) := fun q f g hq => by
    unfold j230_97
    rw [if_neg hq, k136, d1, a2, on_s, ← Int32.ofNat_mul, e_fill (n := h * b) rfl l8 eY (Nat.le_refl _) (by omega), b1_some, k138, kw8, k136, d1, a1, on_s, e_fill (n := h) rfl l9 (by omega) (Nat.le_refl _) (by omega), b1_some, k139, kw9, last]
  have e97' : ∀ (f g : Nat → Int32), j230_97 N h b 1 (xW (xW c 138 f) 139 g) = some (xU (xW (xW c 138 f) 139 g) 136 16 2) := fun f g => by
    unfold j230_97
    rw [if_pos rfl, last]
  have e61 : ∀ (q : Int32) (f g : Nat → Int32), ¬ q = 0 → j230_61 N h b q (xW (xW c 138 f) 139 g) = j230_97 N h b q (xW (xW c 138 (am_fll f 0 (Y * b) 32)) 139 (am_fll g 0 Y 0)) := fun q f g hq => by
    unfold j230_61
    rw [if_neg hq, k136, d1, a2, ← Int32.ofNat_mul, show (0 : Int32) = Int32.ofNat 0 from rfl, e_fill (n := h * b) rfl l8 (by omega) (by omega) (by omega), b1_some, k138, kw8, k136, d1, e_fill (n := h) rfl l9 (by omega) (by omega) (by omega), b1_some, k139, kw9]
  have keep : ∀ (f : Nat → Int32), xW c 138 f = xW (xW c 138 f) 139 (c 139) := fun f => by
    apply xA_ext; intro p i; simp only [xW_eq]; grind
  have e139u : ∀ (f : Nat → Int32), xU (xW c 138 f) 139 Y 0 = xW (xW c 138 f) 139 (upd (c 139) Y 0) := fun f => by
    unfold xU
    rw [xW_o (show (139 : Nat) ≠ 138 by decide)]
  unfold f230_eraseScreen f403_erases
  refine q_il.mpr ⟨fun z => q_pr z ?_, fun z => q_nr z (q_ok1 hR)⟩
  have hp : x = 0 ∨ x = 1 ∨ x = 2 := by grind
  have sx : ∀ {y1 x1 A E : Nat}, x1 < b → A ≤ E → E ≤ b → ((Y * b + A ≤ y1 * b + x1 ∧ y1 * b + x1 < Y * b + E) = (y1 = Y ∧ A ≤ x1 ∧ x1 < E)) := fun h2 h3 h4 => str h2 h3 h4
  rcases hp with q | q | q
  · subst q
    refine q_nl (by decide) (q_pl rfl ?_)
    obtain ⟨a, t1, t2⟩ := e_jl (N := N) (F := Y) (E := h - 1) (p := 0) hd (Or.inl rfl) hs (by omega) (by omega)
    have u1 : (if (0 : Int32) = 1 then r 157 93 else r 157 68 - 1) = Int32.ofNat (h - 1) := by rw [if_neg n01, a3, on_p (by omega)]
    have u2 : (if (0 : Int32) = 0 then r 157 93 else 0) = Int32.ofNat Y := by rw [if_pos rfl, d2]
    rw [u1, u2]
    refine q_rb t1 (q_wr.mpr ?_)
    unfold f231_eraseRow f208_here
    rw [if_pos rfl, d1, d3, a2, b1_2, ← Int32.ofNat_mul, ← Int32.ofNat_add]
    refine q_l2 rfl ?_
    rw [a2, ← Int32.ofNat_add, e_fill (n := h * b) rfl l8 (by omega) (by omega) (by omega), b1_some, b1_some]
    have e61z : ∀ (f g : Nat → Int32), j230_61 N h b 0 (xW (xW c 138 f) 139 g) = j230_97 N h b 0 (xW (xW c 138 f) 139 g) := fun f g => by unfold j230_61; rw [if_pos rfl]
    have rest : ∀ (g1 : Nat → Int32), (∀ y, y < h → g1 y = if y = Y ∧ X = 0 then 0 else c 139 y) → Q2 (j230_61 N h b 0 (xW (xW c 138 (am_fll (c 138) (Y * b + X) (Y * b + b) 32)) 139 g1)) (some (xU a 157 81 2)) (fun p q => RG h b c0 r0 p q) := by
      intro g1 hg1
      rw [e61z, e97 0 _ _ n01]
      refine q_ok1 (d_Jf (fun _ => True) (fun y _ => by unfold jB; rw [if_neg (fun n => n01 n.1)]) hd hR hs t2 (fun y1 x1 h1 h2 => ?_) (fun y1 h1 => ?_))
      · have es := sx (y1 := y1) (x1 := x1) (A := X) (E := b) h2 (by omega) (Nat.le_refl _)
        have mu := mul_ub h1 h2
        have gr := ge_row (F := Y + 1) (y := y1) (B := b) h2
        unfold am_fll jA jB
        simp only [gr, es, mu, n01]
        by_cases u3 : y1 = Y
        · subst u3
          simp
          grind
        · simp [u3]
          grind
      · unfold am_fll jA jB
        rw [hg1 y1 h1]
        by_cases u3 : y1 = Y
        · subst u3; simp [n01] <;> grind
        · simp [u3, n01] <;> grind
    by_cases zX : X = 0
    · refine q_nl (by rw [if_pos (by rw [z_eq (by omega)]; exact zX)]; decide) ?_
      rw [xW_o (show (136 : Nat) ≠ 138 by decide), d1]
      refine q_hl (g_ix b1 (by omega)) (q_wl.mpr ?_)
      rw [i_cl (by omega), e139u]
      refine rest _ (fun y1 h1 => ?_)
      unfold upd
      grind
    · refine q_pl (by rw [if_neg (by rw [z_eq (by omega)]; exact zX)]) ?_
      rw [keep]
      refine rest _ (fun y1 h1 => ?_)
      grind
  · subst q
    refine q_nl (by decide) (q_nl (by decide) (q_l2 (e_last hd hs hc) ?_))
    obtain ⟨a, t1, t2⟩ := e_jl (N := N) (F := 0) (E := Y) (p := 1) hd (Or.inr (Or.inl rfl)) hs (by omega) (by omega)
    have u1 : (if (1 : Int32) = 1 then r 157 93 else r 157 68 - 1) = Int32.ofNat Y := by rw [if_pos rfl, d2]
    have u2 : (if (1 : Int32) = 0 then r 157 93 else 0) = Int32.ofNat 0 := by rw [if_neg n10]; rfl
    rw [u1, u2]
    refine q_rb t1 (q_wr.mpr ?_)
    unfold f231_eraseRow f208_here
    rw [if_neg n10, if_pos rfl, d1, d3, a2, b1_2, ← Int32.ofNat_mul, ← Int32.ofNat_add]
    refine q_l2 rfl ?_
    rw [on_s, e_fill (n := h * b) rfl l8 (by omega) (by omega) (by omega), b1_some, b1_some]
    have rest : ∀ (g1 : Nat → Int32), (∀ y, y < h → g1 y = if y = Y ∧ X = LL b (r 191 Y) then 0 else c 139 y) → Q2 (j230_61 N h b 1 (xW (xW c 138 (am_fll (c 138) (Y * b) (Y * b + X + 1) 32)) 139 g1)) (some (xU a 157 81 2)) (fun p q => RG h b c0 r0 p q) := by
      intro g1 hg1
      rw [e61 1 _ _ n10, e97']
      refine q_ok1 (d_Jf (fun y => ¬ y = Y) (fun y hy => by unfold jB; rw [if_neg (fun n => hy n.2)]) hd hR hs t2 (fun y1 x1 h1 h2 => ?_) (fun y1 h1 => ?_))
      · have es := sx (y1 := y1) (x1 := x1) (A := 0) (E := X + 1) h2 (by omega) (by omega)
        rw [Nat.add_zero] at es
        have lr := lt_row (F := Y) (y := y1) (B := b) h2
        have ll := LL_b hd (r 191 y1)
        unfold am_fll jA jB
        simp only [lr, Nat.add_assoc, es, n10]
        by_cases u3 : y1 = Y
        · subst u3
          simp
          grind
        · simp [u3]
          grind
      · unfold am_fll jA jB
        rw [hg1 y1 h1]
        by_cases u3 : y1 = Y
        · subst u3; simp [n10] <;> grind
        · simp [u3, n10] <;> grind
    by_cases zX : X = LL b (r 191 Y)
    · refine q_nl (by rw [if_neg (by rw [i_lt (by omega) (by omega)]; omega)]; decide) ?_
      rw [xW_o (show (136 : Nat) ≠ 138 by decide), d1]
      refine q_hl (g_ix b1 (by omega)) (q_wl.mpr ?_)
      rw [i_cl (by omega), e139u]
      refine rest _ (fun y1 h1 => ?_)
      unfold upd
      grind
    · refine q_pl (by rw [if_pos (by rw [i_lt (by omega) (by omega)]; omega)]) ?_
      rw [keep]
      refine rest _ (fun y1 h1 => ?_)
      grind
  · subst q
    refine q_pl rfl ?_
    obtain ⟨a, t1, t2⟩ := e_jl (N := N) (F := 0) (E := h - 1) (p := 2) hd (Or.inr (Or.inr rfl)) hs (by omega) (by omega)
    have u1 : (if (2 : Int32) = 1 then r 157 93 else r 157 68 - 1) = Int32.ofNat (h - 1) := by rw [if_neg n21, a3, on_p (by omega)]
    have u2 : (if (2 : Int32) = 0 then r 157 93 else 0) = Int32.ofNat 0 := by rw [if_neg n20]; rfl
    rw [u1, u2]
    refine q_rb t1 (q_wr.mpr ?_)
    unfold j230_36 j230_41 f231_eraseRow
    rw [if_neg n20, if_neg n21, if_pos rfl, d1, a2, ← Int32.ofNat_mul, ← Int32.ofNat_add, e_fill (n := h * b) rfl l8 (by omega) (by omega) (by omega), b1_some, b1_some]
    refine q_nl n10 ?_
    rw [xW_o (show (136 : Nat) ≠ 138 by decide), d1]
    refine q_hl (g_ix b1 (by omega)) (q_wl.mpr ?_)
    rw [i_cl (by omega), e139u, e61 2 _ _ n20, e97 2 _ _ n21]
    refine q_ok1 (d_Jf (fun _ => True) (fun y _ => by unfold jB; rw [if_neg (fun n => n21 n.1)]) hd hR hs t2 (fun y1 x1 h1 h2 => ?_) (fun y1 h1 => ?_))
    · have es := sx (y1 := y1) (x1 := x1) (A := 0) (E := b) h2 (by omega) (Nat.le_refl _)
      rw [Nat.add_zero] at es
      have lr := lt_row (F := Y) (y := y1) (B := b) h2
      have gr := ge_row (F := Y + 1) (y := y1) (B := b) h2
      have mu := mul_ub h1 h2
      unfold am_fll jA jB
      simp only [lr, gr, es, mu, n20, n21]
      simp
      grind
    · unfold am_fll jA jB upd
      simp [n20, n21]
      grind
end G
