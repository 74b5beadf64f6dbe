/-! The reader: fields. -/
def XP (k0 len q th : Nat) (c0 r0 : xA) (F G : Option (Int32 × xA)) : Prop := ∃ p1 p2, F = some p1 ∧ G = some p2 ∧ p1.1 = p2.1 ∧ ((p1.1 = 0 ∧ FL k0 c0 r0 p1.2 p2.2) ∨ (p1.1 = 1 ∧ ∃ q1, q ≤ q1 ∧ q1 ≤ len + 1 ∧ DC k0 len q1 th c0 r0 p1.2 p2.2))
def FP (k0 len q th : Nat) (c0 r0 : xA) (F G : Option (Int32 × xA)) : Prop := (∃ c1 r1, F = some (0, c1) ∧ G = some (0, r1) ∧ FL k0 c0 r0 c1 r1) ∨ (∃ c1 r1 c2 q1, F = some (0, c1) ∧ G = some (1, r1) ∧ RV len q1 c2 r1 ∧ q1 ≤ len + 1 ∧ ¬ Tx c2 len q1 = 44 ∧ FL k0 c0 r0 c1 (xU (xU r1 157 13 1) 157 14 (Int32.ofNat q1))) ∨ (∃ c1 r1 q1, q ≤ q1 ∧ q1 < len ∧ DC k0 len q1 th c0 r0 c1 r1 ∧ Tx c1 len q1 = 44 ∧ F = some (1, cp c1 (q1 + 1)) ∧ G = some (1, r1))
section T
variable {N h b : Nat} {c0 r0 c r c' r' : xA} {x y z s v w : Int32} {len p i f k m q l a e K n row d th k0 : Nat}
theorem cm (hN : 100000 ≤ N) (hl : len ≤ 3000) {F G : Option (Int32 × xA)} (H : XP k0 len q th c0 r0 F G) : FP k0 len q th c0 r0 (xb2 F (fun r54 a55 => if r54 = 0 then (some (0, a55)) else (xb2 (f43_passComma N h b a55) (fun r61 a62 => xg ((if r61 = 0 then (0 : Int32) else (1 : Int32)) = 0 ∨ (if r61 = 0 then (0 : Int32) else (1 : Int32)) = 1) (some ((if r61 = 0 then (0 : Int32) else (1 : Int32)), a62)))))) (xb2 G (fun r120 a121 => xg (r120 = 0 ∨ r120 = 1) (some (r120, a121)))) := by
  obtain ⟨⟨v1, c1⟩, ⟨v2, r1⟩, e1, e2, e3, e4⟩ := H
  dsimp only at e3 e4
  subst e3
  rw [e1, e2, b2_some, b2_some]
  rcases e4 with ⟨g1, g2⟩ | ⟨g1, q1, g2, g3, g4⟩
  · subst g1
    rw [if_pos rfl, xg_pos (Or.inl rfl)]
    exact Or.inl ⟨c1, r1, rfl, rfl, g2⟩
  · subst g1
    rw [if_neg (by decide), xg_pos (Or.inr rfl)]
    obtain ⟨k1, k2⟩ := d_com (N := N) (h := h) (b := b) g4.2.1 (by omega)
    by_cases z : Tx c1 len q1 = 44
    · rw [k1 z, b2_some, if_neg (by decide), xg_pos (Or.inr rfl)]
      exact Or.inr (Or.inr ⟨c1, r1, q1, g2, Tx_m (by rw [z]; decide), g4, z, rfl, rfl⟩)
    · rw [k2 z, b2_some, if_pos rfl, xg_pos (Or.inl rfl)]
      exact Or.inr (Or.inl ⟨_, r1, c1, q1, rfl, rfl, g4.2.1, g3, z, FL_f g4.1.1 g4.1.2.1⟩)
/-- a comma stands there, or not -/
theorem cm2 (hl : len ≤ 3000) (H : DC k0 len q th c0 r0 c r) (hq : q ≤ len + 1) : FP k0 len q th c0 r0 (xb2 (f43_passComma N h b c) (fun r90 a91 => xg (r90 = 0 ∨ r90 = 1) (some (r90, a91)))) (some (1, r)) := by
  obtain ⟨k1, k2⟩ := d_com (N := N) (h := h) (b := b) H.2.1 (by omega)
  by_cases z : Tx c len q = 44
  · rw [k1 z, b2_some, xg_pos (Or.inr rfl)]
    exact Or.inr (Or.inr ⟨c, r, q, Nat.le_refl _, Tx_m (by rw [z]; decide), H, z, rfl, rfl⟩)
  · rw [k2 z, b2_some, xg_pos (Or.inl rfl)]
    exact Or.inr (Or.inl ⟨_, r, c, q, rfl, rfl, H.2.1, hq, z, FL_f H.1.1 H.1.2.1⟩)
theorem ff (H : FD k0 c0 r0 c r) (hA : NA r) : FP k0 len q th c0 r0 (xb2 (f26_failed N h b x y c) (fun r31 a32 => xg (r31 = 0 ∨ r31 = 1) (some (r31, a32)))) (xb2 (f270_fails N h b x y r) (fun r85 a86 => xg (r85 = 0 ∨ r85 = 1) (some (r85, a86)))) := Or.inl ⟨_, _, rfl, rfl, FL_f H hA⟩
theorem fx (H : FD k0 c0 r0 c r) (hA : NA r) : XP k0 len q th c0 r0 (xb2 (f26_failed N h b x y c) (fun r31 a32 => xg (r31 = 0 ∨ r31 = 1) (some (r31, a32)))) (xb2 (f270_fails N h b x y r) (fun r85 a86 => xg (r85 = 0 ∨ r85 = 1) (some (r85, a86)))) := ⟨_, _, rfl, rfl, rfl, Or.inl ⟨rfl, FL_f H hA⟩⟩
/-- another's abilities are to be taken -/
theorem d_use (hN : 100000 ≤ N) (H : DC k0 len q th c0 r0 c r) (hq : q < len) : XP k0 len (q + 1) th c0 r0 (f37_readUse N h b (cp c (q + 1))) (f277_useOf N h b r) := by
  have HV := H.2.1
  have hl := HV.1
  have H1 := DC_p (q' := q + 1) H (by omega)
  have HV1 := H1.2.1
  have e15 := HV.2.2.2.2.2.2.1
  obtain ⟨p', a1, a2, a3, a4, _⟩ := d_nml (N := N) (h := h) (b := b) (w1 := cp c (q + 1) 3 6) (w2 := rp r (q + 1) 157 15) (w3 := 0) hN HV1 (by omega)
  have H2 := DC_p (q' := p') H (by omega)
  rw [cp_cp] at a3
  rw [rp_rp] at a4
  have HV2 := H2.2.1
  have er : xU r 157 15 (r 157 15 + 1) = rp r (q + 1) := by rw [e15, on_s]; rfl
  unfold f37_readUse f38_passName f277_useOf
  rw [a3, Option.bind_some]
  dsimp only
  simp only [xw]
  rw [er, a4, Option.bind_some]
  dsimp only
  unfold j38_44 j38_66 j277_57
  simp only [cp_6, rp_15]
  by_cases z1 : p' = q + 1
  · rw [if_pos (by rw [z1]), if_pos (by rw [z1])]
    show XP k0 len (q + 1) th c0 r0 (xb2 (some (0, xU (xU (cp c p') 3 2 1) 3 3 (Int32.ofNat p'))) _) _
    rw [b2_some, if_pos rfl]
    exact ⟨_, _, rfl, rfl, rfl, Or.inl ⟨rfl, FL_f H2.1.1 H2.1.2.1⟩⟩
  have pl' : p' ≤ len := by omega
  have nz : ¬ Int32.ofNat p' = Int32.ofNat (q + 1) := by rw [i_eq (by omega) (by omega)]; exact z1
  rw [if_neg nz, if_neg nz, e_ba HV2 (by omega), b2_some, e_itx, b2_some, e_non HV2, b2_some]
  by_cases z2 : Tx (cp c p') len p' = -1 ∨ Tx (cp c p') len p' = 9 ∨ Tx (cp c p') len p' = 10 ∨ 32 ≤ Tx (cp c p') len p' ∧ Tx (cp c p') len p' ≤ 126
  · rw [if_neg (show ¬ zb (Tx (cp c p') len p' = -1 ∨ Tx (cp c p') len p' = 9 ∨ Tx (cp c p') len p' = 10 ∨ 32 ≤ Tx (cp c p') len p' ∧ Tx (cp c p') len p' ≤ 126) = 0 by rw [zb_t z2]; decide), b2_some, if_neg (show ¬ (1 : Int32) = 0 by decide), if_pos (zb_f (fun n => n z2))]
    simp only [cp_6, rp_15]
    rw [← Int32.ofNat_sub _ _ a1]
    obtain ⟨g1, g2, g3, g4, u, u1, u2, u3, u4⟩ := id H2.2.2.2.2.2.2
    by_cases z3 : Int32.ofNat (p' - (q + 1)) ≤ 12
    · rw [if_pos z3, if_pos z3, u2, u3]
      by_cases z4 : u = 4
      · rw [if_neg (by rw [z4]; decide), if_pos (by rw [z4]; rfl)]
        exact fx H2.1.1 H2.1.2.1
      · rw [if_pos (by rw [show (4 : Int32) = Int32.ofNat 4 from rfl, i_lt (by omega) (by decide)]; omega), if_neg (by rw [show (4 : Int32) = Int32.ofNat 4 from rfl, i_eq (by omega) (by decide)]; exact z4), HV2.2.2.1, xg_pos (by decide), show (1 : Int32).toNatClampNeg = 1 from rfl, H2.2.2.2.2.1, g2]
        obtain ⟨t, t1, t2, t3⟩ := d_idx (N := N) (h := h) (b := b) (c := cp c p') (r := rp r p') (q := q + 1) (m := p' - (q + 1)) (K := th) hN HV2.2.2.2.2.2.2.2 (by have := H.2.2.2.1; omega) (by omega) (fun e he => (H2.2.2.2.2.2.1 e he).1)
        rw [t1, t2, b2_some, b2_some]
        rcases t3 with e | ⟨j, hj, ej⟩
        · rw [if_pos e, if_pos e]
          exact fx H2.1.1 H2.1.2.1
        · have tn : ¬ t = -1 := by rw [ej]; exact ofn_ne (by have := H.2.2.2.1; omega)
          rw [if_neg tn, if_neg tn, u2, u3, xg_pos (g_ix (by omega) (by omega)), xg_pos (g_ix (by omega) (by omega)), i_cl (by omega), xU_o (show (3 : Nat) ≠ 7 by decide), xU_o (show (157 : Nat) ≠ 167 by decide), u2, u3, on_s]
          refine ⟨_, _, rfl, rfl, rfl, Or.inr ⟨rfl, p', by omega, by omega, ?_⟩⟩
          dsimp only
          subst ej
          obtain ⟨⟨⟨f1, f2, f3, f4, f5, f6, f7, f8, f9⟩, l1, l2, l3⟩, b2, b3, b4, b5, b6, b7⟩ := H2
          have oc : ∀ p, p ≠ 3 → p ≠ 7 → xU (xU (cp c p') 7 u (Int32.ofNat j)) 3 11 (Int32.ofNat (u + 1)) p = cp c p' p := fun p h1 h2 => by rw [xU_o h1, xU_o h2]
          have o3 : ∀ i, i ≠ 11 → xU (xU (cp c p') 7 u (Int32.ofNat j)) 3 11 (Int32.ofNat (u + 1)) 3 i = cp c p' 3 i := fun i h1 => by rw [xU_s h1, xU_o (by decide)]
          have or' : ∀ p, p ≠ 157 → p ≠ 167 → xU (xU (rp r p') 167 u (Int32.ofNat j)) 157 19 (Int32.ofNat (u + 1)) p = rp r p' p := fun p h1 h2 => by rw [xU_o h1, xU_o h2]
          have or157 : ∀ i, i ≠ 19 → xU (xU (rp r p') 167 u (Int32.ofNat j)) 157 19 (Int32.ofNat (u + 1)) 157 i = rp r p' 157 i := fun i h1 => by rw [xU_s h1, xU_o (by decide)]
          refine ⟨⟨⟨fun p h1 h2 h3 => by rw [oc p h1 (by omega)]; exact f1 p h1 h2 h3, fun i h1 => by rw [o3 i (by omega)]; exact f2 i h1, fun p h1 h2 => by rw [or' p h1 (by omega)]; exact f3 p h1 h2, fun i h1 => by rw [or157 i (by omega)]; exact f4 i h1, f5, f6, f7, f8, f9⟩, l1, by rw [o3 2 (by decide), or157 13 (by decide)]; exact l2, by rw [o3 3 (by decide), or157 14 (by decide)]; exact l3⟩, RV_of b2 (fun i h1 h2 => o3 i (by omega)) (oc 1 (by decide) (by decide)) rfl (or157 16 (by decide)) (or157 15 (by decide)), b3, b4, by rw [o3 7 (by decide)]; exact b5, fun e he => EE_of (b6 e he) (fun p h1 h2 => oc p (by omega) (by omega)) rfl (fun _ _ _ => rfl) (fun _ _ _ => rfl) (fun _ _ _ => ⟨rfl, rfl, rfl⟩) (fun _ _ _ => rfl), ⟨by rw [o3 8 (by decide)]; exact g1, by rw [or157 17 (by decide)]; exact g2, En_of g3 (by rw [oc _ (by omega) (by omega)]) (oc _ (by omega) (by omega)) (oc _ (by omega) (by omega)) rfl (fun _ _ _ => rfl) (fun _ _ _ => rfl), fun a ha => ?_, u + 1, by omega, xU_e, xU_e, fun i hi => ?_⟩⟩
          · obtain ⟨k1, k2, k3⟩ := g4 a ha
            exact ⟨Ea_of k1 (by rw [oc _ (by omega) (by omega)]) (by rw [oc _ (by omega) (by omega)]) rfl rfl (fun _ hE => Es_of hE (by rw [oc _ (by omega) (by omega)]) (fun i _ _ => by rw [oc _ (by omega) (by omega)]) rfl (fun _ _ _ => rfl)), k2, k3⟩
          · rw [xU_o (show (7 : Nat) ≠ 3 by decide), xU_o (show (167 : Nat) ≠ 157 by decide)]
            by_cases e : i = u
            · subst e
              exact ⟨j, hj, xU_e, xU_e⟩
            · rw [xU_s e, xU_s e]
              exact u4 i (by omega)
    · rw [if_neg z3, if_neg z3]
      exact fx H2.1.1 H2.1.2.1
  · rw [if_pos (show zb (Tx (cp c p') len p' = -1 ∨ Tx (cp c p') len p' = 9 ∨ Tx (cp c p') len p' = 10 ∨ 32 ≤ Tx (cp c p') len p' ∧ Tx (cp c p') len p' ≤ 126) = 0 from zb_f z2), if_neg (show ¬ zb (¬ (Tx (cp c p') len p' = -1 ∨ Tx (cp c p') len p' = 9 ∨ Tx (cp c p') len p' = 10 ∨ 32 ≤ Tx (cp c p') len p' ∧ Tx (cp c p') len p' ≤ 126)) = 0 by rw [zb_t z2]; decide)]
    simp only [cp_6, rp_15]
    show XP k0 len (q + 1) th c0 r0 (xb2 (some (0, xU (xU (cp c p') 3 2 1) 3 3 (Int32.ofNat p'))) _) _
    rw [b2_some, if_pos rfl]
    exact ⟨_, _, rfl, rfl, rfl, Or.inl ⟨rfl, FL_f H2.1.1 H2.1.2.1⟩⟩
end T
