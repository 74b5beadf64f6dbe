/-! The reader: fields of a line. -/
section T
variable {N h b : Nat} {c0 r0 c r c' r' : xA} {x y z s v w : Int32} {len p i f k m q l a e K n row d th k0 s' t : Nat}
theorem FP_mono {F G : Option (Int32 × xA)} {q' : Nat} (hq : q' ≤ q) (H : FP k0 len q th c0 r0 F G) : FP k0 len q' th c0 r0 F G := by
  rcases H with g | g | ⟨c1, r1, q1, g1, g2⟩
  · exact Or.inl g
  · exact Or.inr (Or.inl g)
  · exact Or.inr (Or.inr ⟨c1, r1, q1, by omega, g2⟩)
theorem e_158 {k : Int32} (H : RV len p c r) (hi : i < len) (hk : By k) (hk2 : k.toInt8.toInt32 = k) : (r 158 i = k) = (Tx c len i = k) := by
  have g := H.2.2.2.2.2.2.2 i
  unfold Tx
  rw [if_pos hi, g.2]
  have := eq8 (x := c 1 i) (k := k) g.1 hk
  rw [hk2] at this
  exact this
theorem d_field (hN : 100000 ≤ N) (H : DC k0 len q th c0 r0 c r) (hq : q < len) : FP k0 len (q + 1) th c0 r0 (f32_readField N h b c) (f272_field N h b r) := by
  have HV := H.2.1
  have hl := HV.1
  have e36 := HV.2.2.2.2.2.1
  have e15 := HV.2.2.2.2.2.2.1
  unfold f32_readField f33_passAbility f272_field
  rw [e36, e15, e_ba HV (by omega), b2_some, e_lt, b2_some, e_hr HV (by omega), b2_some, e_lt', b2_some]
  by_cases z1 : 97 ≤ Tx c len q ∧ Tx c len q ≤ 122
  · obtain ⟨p', a1, a2, a3, a4, a5⟩ := d_abl (N := N) (h := h) (b := b) (w2 := Int32.ofNat q) hN HV (by omega)
    obtain ⟨b1, b2⟩ := a5 z1
    rw [if_neg (show ¬ zb (97 ≤ Tx c len q ∧ Tx c len q ≤ 122) = 0 by rw [zb_t z1]; decide), if_neg (show ¬ zb (97 ≤ Tx c len q ∧ Tx c len q ≤ 122) = 0 by rw [zb_t z1]; decide), a3, a4, Option.bind_some, Option.bind_some]
    dsimp only
    have H2 := DC_p (q' := p') H (by omega)
    have HV2 := H2.2.1
    unfold j33_78 j33_104
    rw [cp_6, e_ba HV2 (by omega), b2_some, e_itx, b2_some, e_non HV2, b2_some]
    by_cases z2 : Tx (cp c p') len p' = -1 ∨ Tx (cp c p') len p' = 9 ∨ Tx (cp c p') len p' = 10 ∨ 32 ≤ Tx (cp c p') len p' ∧ Tx (cp c p') len p' ≤ 126
    · rw [if_neg (show ¬ zb (Tx (cp c p') len p' = -1 ∨ Tx (cp c p') len p' = 9 ∨ Tx (cp c p') len p' = 10 ∨ 32 ≤ Tx (cp c p') len p' ∧ Tx (cp c p') len p' ≤ 126) = 0 by rw [zb_t z2]; decide), b2_some, if_neg (show ¬ (1 : Int32) = 0 by decide), if_pos (zb_f (fun n => n z2))]
      simp only [cp_6, rp_15]
      rw [e_ba HV2 (by omega), b2_some]
      simp only [cp_6, ← Int32.ofNat_sub _ _ a1]
      by_cases z3 : p' - q ≤ 5
      · have z3' : Int32.ofNat (p' - q) ≤ 5 := by rw [show (5 : Int32) = Int32.ofNat 5 from rfl, i_le (by omega) (by decide)]; exact z3
        rw [if_pos z3', if_pos z3']
        have abf : FP k0 len (q + 1) th c0 r0 (j32_87 N h b (Int32.ofNat q) (Tx (cp c p') len p') (Int32.ofNat (p' - q)) (cp c p')) (j272_166 N h b (Int32.ofNat q) (Int32.ofNat (p' - q)) (rp r p')) := FP_mono (by omega) (d_abf hN H2 b2 (by omega) (by omega) z3 rfl)
        have eu : ∀ i, i < 3 → p' - q = 3 → Int32.ofNat q + Int32.ofNat i = Int32.ofNat (q + i) := fun i _ _ => by rw [Int32.ofNat_add]
        by_cases z4 : p' - q = 3
        · have z4' : Int32.ofNat (p' - q) = 3 := by rw [z4]; rfl
          have g0 : ¬ (Int32.ofNat q < 0 ∨ 3000 ≤ (Int32.ofNat q).toNatClampNeg) := g_ix (by omega) (by omega)
          have g1 : ¬ (Int32.ofNat (q + 1) < 0 ∨ 3000 ≤ (Int32.ofNat (q + 1)).toNatClampNeg) := g_ix (by omega) (by omega)
          have g2 : ¬ (Int32.ofNat (q + 2) < 0 ∨ 3000 ≤ (Int32.ofNat (q + 2)).toNatClampNeg) := g_ix (by omega) (by omega)
          have t0 := e_158 (i := q) (k := 117) HV2 (by omega) (by decide) (by decide)
          have t1 := e_158 (i := q + 1) (k := 115) HV2 (by omega) (by decide) (by decide)
          have t2 := e_158 (i := q + 2) (k := 101) HV2 (by omega) (by decide) (by decide)
          have eR : (if Int32.ofNat (p' - q) = 3 then (xg (¬ (Int32.ofNat q < 0 ∨ 3000 ≤ (Int32.ofNat q).toNatClampNeg)) (if (rp r p' 158 ((Int32.ofNat q).toNatClampNeg)) = 117 then (xg (¬ (Int32.ofNat q + 1 < 0 ∨ 3000 ≤ (Int32.ofNat q + 1).toNatClampNeg)) (if (rp r p' 158 ((Int32.ofNat q + 1).toNatClampNeg)) = 115 then (xg (¬ (Int32.ofNat q + 2 < 0 ∨ 3000 ≤ (Int32.ofNat q + 2).toNatClampNeg)) (if (rp r p' 158 ((Int32.ofNat q + 2).toNatClampNeg)) = 101 then (xb2 (f266_here N h b (Int32.ofNat p') (rp r p')) (fun r67 a68 => if r67 = 61 then (xb2 (f277_useOf N h b a68) (fun r73 a74 => xg (r73 = 0 ∨ r73 = 1) (some (r73, a74)))) else (j272_166 N h b (Int32.ofNat q) (Int32.ofNat (p' - q)) a68))) else (j272_166 N h b (Int32.ofNat q) (Int32.ofNat (p' - q)) (rp r p')))) else (j272_166 N h b (Int32.ofNat q) (Int32.ofNat (p' - q)) (rp r p')))) else (j272_166 N h b (Int32.ofNat q) (Int32.ofNat (p' - q)) (rp r p')))) else (j272_166 N h b (Int32.ofNat q) (Int32.ofNat (p' - q)) (rp r p'))) = if (Tx (cp c p') len q = 117 ∧ Tx (cp c p') len (q + 1) = 115 ∧ Tx (cp c p') len (q + 2) = 101) ∧ Tx (cp c p') len p' = 61 then (xb2 (f277_useOf N h b (rp r p')) (fun r73 a74 => xg (r73 = 0 ∨ r73 = 1) (some (r73, a74)))) else (j272_166 N h b (Int32.ofNat q) (Int32.ofNat (p' - q)) (rp r p')) := by
            rw [if_pos z4', xg_pos g0, i_cl (show q < 2 ^ 31 by omega), on_s, xg_pos g1, i_cl (show q + 1 < 2 ^ 31 by omega), o2, xg_pos g2, i_cl (show q + 2 < 2 ^ 31 by omega), e_hr HV2 (by omega), b2_some]
            by_cases u0 : rp r p' 158 q = 117
            · rw [if_pos u0]
              by_cases u1 : rp r p' 158 (q + 1) = 115
              · rw [if_pos u1]
                by_cases u2 : rp r p' 158 (q + 2) = 101
                · rw [if_pos u2]
                  rw [t0] at u0; rw [t1] at u1; rw [t2] at u2
                  by_cases u3 : Tx (cp c p') len p' = 61
                  · rw [if_pos u3, if_pos ⟨⟨u0, u1, u2⟩, u3⟩]
                  · rw [if_neg u3, if_neg (fun z => u3 z.2)]
                · rw [if_neg u2, if_neg (fun z => u2 (by rw [t2]; exact z.1.2.2))]
              · rw [if_neg u1, if_neg (fun z => u1 (by rw [t1]; exact z.1.2.1))]
            · rw [if_neg u0, if_neg (fun z => u0 (by rw [t0]; exact z.1.1))]
          have eC : f36_isUse N h b (Int32.ofNat q) (Int32.ofNat (p' - q)) (cp c p') = some (zb (Tx (cp c p') len q = 117 ∧ Tx (cp c p') len (q + 1) = 115 ∧ Tx (cp c p') len (q + 2) = 101), cp c p') := by
            have ev : ∀ {i : Nat}, i < len → (cp c p') 1 i = Tx (cp c p') len i := fun hi => by unfold Tx; rw [if_pos hi]
            unfold f36_isUse
            rw [if_pos z4', HV2.2.2.1, xg_pos (by decide), xg_pos (show xk (1 : Int32).toNatClampNeg = 100 from rfl), show (1 : Int32).toNatClampNeg = 1 from rfl, show xl h b 1 = 3000 from rfl, xg_pos g0, i_cl (show q < 2 ^ 31 by omega), on_s, xg_pos g1, i_cl (show q + 1 < 2 ^ 31 by omega), o2, xg_pos g2, i_cl (show q + 2 < 2 ^ 31 by omega), zi10, zg, ev (show q < len by omega), ev (show q + 1 < len by omega), ev (show q + 2 < len by omega)]
            by_cases u0 : Tx (cp c p') len q = 117
            · rw [if_pos u0]
              by_cases u1 : Tx (cp c p') len (q + 1) = 115
              · rw [if_pos u1]
                by_cases u2 : Tx (cp c p') len (q + 2) = 101
                · rw [zb_t u2, zb_t ⟨u0, u1, u2⟩]
                · rw [zb_f u2, zb_f (fun z => u2 z.2.2)]
              · rw [if_neg u1, zb_f (fun z => u1 z.2.1)]
            · rw [if_neg u0, zb_f (fun z => u0 z.1)]
          rw [eR, eC, b2_some]
          by_cases z5 : Tx (cp c p') len p' = 61
          · rw [if_pos z5]
            by_cases z6 : Tx (cp c p') len q = 117 ∧ Tx (cp c p') len (q + 1) = 115 ∧ Tx (cp c p') len (q + 2) = 101
            · rw [if_neg (show ¬ zb (Tx (cp c p') len q = 117 ∧ Tx (cp c p') len (q + 1) = 115 ∧ Tx (cp c p') len (q + 2) = 101) = 0 by rw [zb_t z6]; decide), if_pos ⟨z6, z5⟩]
              have hu := d_use (N := N) (h := h) (b := b) hN H2 (Tx_m (by rw [z5]; decide))
              have := cm (N := N) (h := h) (b := b) hN hl hu
              have e3 : xU (cp c p') 3 6 (cp c p' 3 6 + 1) = cp (cp c p') (p' + 1) := by rw [cp_n, cp_cp]
              unfold xw
              rw [cp_6, on_s]
              exact FP_mono (by omega) this
            · rw [if_pos (show zb (Tx (cp c p') len q = 117 ∧ Tx (cp c p') len (q + 1) = 115 ∧ Tx (cp c p') len (q + 2) = 101) = 0 from zb_f z6), if_neg (fun z => z6 z.1)]
              exact abf
          · rw [if_neg z5, if_neg (fun z => z5 z.2)]
            exact abf
        · have z4' : ¬ Int32.ofNat (p' - q) = 3 := by rw [show (3 : Int32) = Int32.ofNat 3 from rfl, i_eq (by omega) (by decide)]; exact z4
          have eC : f36_isUse N h b (Int32.ofNat q) (Int32.ofNat (p' - q)) (cp c p') = some (0, cp c p') := by
            unfold f36_isUse
            rw [if_neg z4']
          rw [if_neg z4', eC, b2_some, if_pos rfl]
          by_cases z5 : Tx (cp c p') len p' = 61
          · rw [if_pos z5]; exact abf
          · rw [if_neg z5]; exact abf
      · have z3' : ¬ Int32.ofNat (p' - q) ≤ 5 := by rw [show (5 : Int32) = Int32.ofNat 5 from rfl, i_le (by omega) (by decide)]; exact z3
        rw [if_neg z3', if_neg z3']
        exact ff H2.1.1 H2.1.2.1
    · rw [if_pos (show zb (Tx (cp c p') len p' = -1 ∨ Tx (cp c p') len p' = 9 ∨ Tx (cp c p') len p' = 10 ∨ 32 ≤ Tx (cp c p') len p' ∧ Tx (cp c p') len p' ≤ 126) = 0 from zb_f z2), if_neg (show ¬ zb (¬ (Tx (cp c p') len p' = -1 ∨ Tx (cp c p') len p' = 9 ∨ Tx (cp c p') len p' = 10 ∨ 32 ≤ Tx (cp c p') len p' ∧ Tx (cp c p') len p' ≤ 126)) = 0 by rw [zb_t z2]; decide), cp_6, rp_15]
      exact Or.inl ⟨_, _, rfl, rfl, FL_f H2.1.1 H2.1.2.1⟩
  · rw [if_pos (show zb (97 ≤ Tx c len q ∧ Tx c len q ≤ 122) = 0 from zb_f z1), if_pos (show zb (97 ≤ Tx c len q ∧ Tx c len q ≤ 122) = 0 from zb_f z1), e36, e15]
    exact Or.inl ⟨_, _, rfl, rfl, FL_f H.1.1 H.1.2.1⟩
theorem FL_15 (H : FL k0 c0 r0 c r) : FL k0 c0 r0 c (xU r 157 15 v) := by
  obtain ⟨⟨a1, a2, a3, a4, a5, a6, a7, a8, a9⟩, b1, b2, b3⟩ := H
  exact ⟨⟨a1, a2, fun p h1 h2 => by rw [xU_o h1]; exact a3 p h1 h2, fun i h1 => by rw [xU_s (by omega)]; exact a4 i h1, a5, a6, a7, a8, a9⟩, b1, by rw [xU_s (by decide)]; exact b2, by rw [xU_s (by decide)]; exact b3⟩
theorem d_fls (hN : 100000 ≤ N) (hl : len ≤ 3000) : ∀ (k q t f : Nat) (c r : xA), len ≤ q + k → q ≤ len + 1 → t ≤ q → k + 1 < f → DC k0 len q th c0 r0 c r → Q2 (l30_6 N h b f (Int32.ofNat t) c) (l271_2 N h b f 1 r) (fun p' q' => (p'.1 = 2 ∧ q'.2.1 = 1 ∧ ∃ q1, q ≤ q1 ∧ q1 ≤ len + 1 ∧ DC k0 len q1 th c0 r0 p'.2 q'.2.2 ∧ (Tx p'.2 len q1 = -1 ∨ Tx p'.2 len q1 = 10)) ∨ (p'.1 = 1 ∧ q'.2.1 = 0 ∧ FL k0 c0 r0 p'.2 q'.2.2)) := by
  intro k
  induction k with
  | zero =>
    intro q t f c r h1 h2 h3 h4 H
    obtain ⟨f, rfl⟩ : ∃ f', f = f' + 1 := ⟨f - 1, by omega⟩
    have HV := H.2.1
    have eT : Tx c len q = -1 := if_neg (by omega)
    rw [l30_6, l271_2, HV.2.2.2.2.2.2.1]
    refine q_nr (by decide) (q_r2 (e_end HV (by omega)) ?_)
    rw [eT]
    refine q_nr (by rw [zb_t (Or.inl rfl)]; decide) ?_
    have fin : ∀ {A : Nat × xA} {B : Nat × Int32 × xA}, A = (2, c) → B = (0, 1, r) → Q2 (some A) (some B) (fun p' q' => (p'.1 = 2 ∧ q'.2.1 = 1 ∧ ∃ q1, q ≤ q1 ∧ q1 ≤ len + 1 ∧ DC k0 len q1 th c0 r0 p'.2 q'.2.2 ∧ (Tx p'.2 len q1 = -1 ∨ Tx p'.2 len q1 = 10)) ∨ (p'.1 = 1 ∧ q'.2.1 = 0 ∧ FL k0 c0 r0 p'.2 q'.2.2)) := by
      intro A B g1 g2
      subst g1 g2
      exact ⟨_, _, rfl, rfl, Or.inl ⟨rfl, rfl, q, Nat.le_refl _, h2, H, Or.inl eT⟩⟩
    by_cases z : c 3 5 ≤ Int32.ofNat t
    · exact q_pl z (fin rfl rfl)
    · exact q_nl z (q_pl (by rw [l_tx HV]; omega) (fin rfl rfl))
  | succ k ih =>
    intro q t f c r h1 h2 h3 h4 H
    by_cases lq : q < len
    · obtain ⟨f, rfl⟩ : ∃ f', f = f' + 1 := ⟨f - 1, by omega⟩
      have HV := H.2.1
      have e15 := HV.2.2.2.2.2.2.1
      have lb := Tx_by HV lq
      have nm1 : ¬ Tx c len q = -1 := fun e => by rw [e] at lb; exact absurd lb.1 (by decide)
      rw [l30_6, l271_2, e15]
      refine q_nl (by rw [HV.2.2.2.1, i_le (by omega) (by omega)]; omega) (q_nl (by rw [l_tx HV]; omega) (q_nr (by decide) (q_r2 (e_end HV (by omega)) ?_)))
      rw [g_tx HV lq, v_tx HV lq]
      by_cases z1 : Tx c len q = 10
      · exact q_pl z1 (q_nr (by rw [zb_t (Or.inr z1)]; decide) ⟨_, _, rfl, rfl, Or.inl ⟨rfl, rfl, q, Nat.le_refl _, h2, H, Or.inr z1⟩⟩)
      refine q_nl z1 (q_pr (zb_f (fun z => z.elim nm1 z1)) (q_nl (by rw [H.2.2.2.2.2.2.1]; exact ofn_ne (by have := H.2.2.2.1; omega)) ?_))
      obtain ⟨f1, rfl⟩ : ∃ f', f = f' + 1 := ⟨f - 1, by omega⟩
      have rc0 : ∀ {a : xA}, l271_2 N h b (f1 + 1) 0 a = some (0, 0, a) := fun {a} => by rw [l271_2, if_pos rfl]
      unfold j271_49
      rcases d_field (N := N) (h := h) (b := b) hN H lq with ⟨c1, r1, g1, g2, g3⟩ | ⟨c1, r1, c2, q1, g1, g2, g3, g4, g5, g6⟩ | ⟨c1, r1, q1, g1, g2, g3, g4, g5, g6⟩
      · refine q_l2 g1 (q_r2 g2 (q_pl rfl (q_pr rfl (q_wr.mpr (q_pr rfl ?_)))))
        rw [rc0]
        exact ⟨_, _, rfl, rfl, Or.inr ⟨rfl, rfl, FL_15 g3⟩⟩
      · refine q_l2 g1 (q_r2 g2 (q_pl rfl (q_nr (by decide) ?_)))
        rw [g3.2.2.2.2.2.2.1]
        refine q_r2 (e_hr g3 (by omega)) (q_nr g5 ?_)
        rw [g3.2.2.2.2.2.2.1]
        refine q_r2 e_fl' (q_wr.mpr (q_pr rfl ?_))
        rw [rc0]
        exact ⟨_, _, rfl, rfl, Or.inr ⟨rfl, rfl, FL_15 g6⟩⟩
      · have V1 := g3.2.1
        refine q_l2 g5 (q_r2 g6 (q_nl (by decide) (q_nr (by decide) ?_)))
        rw [V1.2.2.2.2.2.2.1]
        refine q_r2 (e_hr V1 (by omega)) (q_pr g4 (q_wr.mpr (q_nr (by decide) ?_)))
        have e4 : xU r1 157 15 (r1 157 15 + 1) = rp r1 (q1 + 1) := by rw [V1.2.2.2.2.2.2.1, on_s]; rfl
        rw [e4]
        have H3 := DC_p (q' := q1 + 1) g3 (by omega)
        obtain ⟨p', b1, b2, b3, b4⟩ := d_bl (N := N) (h := h) (b := b) hN H3.2.1 (by omega)
        rw [cp_cp] at b3
        rw [rp_rp] at b4
        refine q_l1 b3 (q_r1 b4 ?_)
        rw [on_s]
        have := ih p' (t + 1) (f1 + 1) (cp c1 p') (rp r1 p') (by omega) (by omega) (by omega) (by omega) (DC_p g3 (by omega))
        refine q_mono this (fun x y hh => ?_)
        rcases hh with ⟨k1, k2, q2, k3, k4⟩ | hh
        · exact Or.inl ⟨k1, k2, q2, by omega, k4⟩
        · exact Or.inr hh
    · exact ih q t f c r (by omega) h2 h3 (by omega) H
end T
