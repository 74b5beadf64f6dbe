/-! The reader: the names of a line. -/
section T
variable {N h b : Nat} {c0 r0 c r c' r' c'' r'' : xA} {x y z s v w w1 w2 : Int32} {len p i f k m q l a e K n row d th k0 A B : Nat}
theorem d_nms (hN : 100000 ≤ N) (hl : len ≤ 3000) : ∀ (k q n f : Nat) (c r : xA), len ≤ q + k → q ≤ len → n ≤ 4 → k + 2 < f → DC k0 len q th c0 r0 c r → c (9 + 7 * th) 2 = Int32.ofNat n → r 160 th = Int32.ofNat n → Q2 (l62_67 N h b f (Int32.ofNat n) c) (l290_100 N h b f 1 r) (NP k0 len q th c0 r0) := by
  intro k
  induction k using Nat.strongRecOn with
  | _ k ih =>
  intro q n f c r h1 h2 h3 h4 H hc hr
  obtain ⟨f, rfl⟩ : ∃ f', f = f' + 1 := ⟨f - 1, by omega⟩
  have HV := H.2.1
  have hth := H.2.2.2.1
  have e36 := HV.2.2.2.2.2.1
  have e15 := HV.2.2.2.2.2.2.1
  obtain ⟨p1, p2, p3, p4, p5, p6, p7, p8⟩ := pl (h := h) (b := b) hth
  obtain ⟨p', a1, a2, a3, _, a5⟩ := d_nml (N := N) (h := h) (b := b) (w1 := Int32.ofNat q) (w2 := 0) (w3 := Int32.ofNat q) hN HV (by omega)
  have H2 := DC_p (q' := p') H (by omega)
  have HV2 := H2.2.1
  rw [l62_67, l290_100]
  refine q_nl (by rw [show (4 : Int32) = Int32.ofNat 4 from rfl, i_lt (by decide) (by omega)]; omega) (q_nr (by decide) ?_)
  unfold f68_readName f38_passName
  rw [e36, e15, a3, a5, Option.bind_some, Option.bind_some]
  dsimp only
  unfold j38_44 j38_66
  simp only [cp_6, rp_15]
  by_cases z1 : p' = q
  · rw [if_pos (by rw [z1]), if_pos (by rw [z1]), e_fl, b2_some, xg_pos (Or.inl rfl), b2_some, if_pos rfl, b2_some, if_pos rfl]
    exact ⟨_, _, rfl, rfl, Or.inl ⟨rfl, cp c p', 1, Int32.ofNat p', rfl, H2.1, Or.inl ⟨rfl, rfl, (rp_15 (r := r) (q := p')).symm⟩⟩⟩
  have pl' : p' ≤ len := by omega
  have nz : ¬ Int32.ofNat p' = Int32.ofNat q := by rw [i_eq (by omega) (by omega)]; exact z1
  rw [if_neg nz, if_neg nz, e_ba HV2 (by omega), b2_some, e_itx, b2_some, e_non HV2, b2_some]
  by_cases z2 : Tx (cp c p') len p' = -1 ∨ Tx (cp c p') len p' = 9 ∨ Tx (cp c p') len p' = 10 ∨ 32 ≤ Tx (cp c p') len p' ∧ Tx (cp c p') len p' ≤ 126
  · rw [if_neg (show ¬ zb (Tx (cp c p') len p' = -1 ∨ Tx (cp c p') len p' = 9 ∨ Tx (cp c p') len p' = 10 ∨ 32 ≤ Tx (cp c p') len p' ∧ Tx (cp c p') len p' ≤ 126) = 0 by rw [zb_t z2]; decide), b2_some, if_neg (show ¬ (1 : Int32) = 0 by decide), if_pos (zb_f (fun n => n z2))]
    simp only [cp_6, rp_15]
    rw [← Int32.ofNat_sub _ _ a1]
    have g2 := H2.2.2.2.2.2.2.2.1
    have g1 := H2.2.2.2.2.2.2.1
    have g37 := H2.2.2.2.2.1
    by_cases z3 : p' - q ≤ 12
    · have z3' : Int32.ofNat (p' - q) ≤ 12 := by rw [show (12 : Int32) = Int32.ofNat 12 from rfl, i_le (by omega) (by decide)]; exact z3
      rw [if_pos z3', if_pos z3', HV2.2.2.1, xg_pos (by decide), show (1 : Int32).toNatClampNeg = 1 from rfl, g37, g2, on_s]
      obtain ⟨t, t1, t2, t3⟩ := d_idx (N := N) (h := h) (b := b) (c := cp c p') (r := rp r p') (q := q) (m := p' - q) (K := th + 1) hN HV2.2.2.2.2.2.2.2 (by omega) (by omega) (fun e he => by
        by_cases z : e = th
        · subst z; exact H2.2.2.2.2.2.2.2.2.1
        · exact (H2.2.2.2.2.2.1 e (by omega)).1)
      rw [t1, t2, b2_some, b2_some]
      rcases t3 with e | ⟨j, hj, ej⟩
      · rw [if_pos e, if_pos e, g2, xg_pos (g_ix hth (by omega)), i_cl (show th < 2 ^ 31 by omega)]
        have hr2 : rp r p' 160 th = Int32.ofNat n := by unfold rp; rw [xU_o (by decide)]; exact hr
        have hc2 : cp c p' (9 + 7 * th) 2 = Int32.ofNat n := by unfold cp; rw [xU_o (by omega)]; exact hc
        rw [hr2]
        by_cases z4 : n = 4
        · subst z4
          rw [if_neg (show ¬ Int32.ofNat 4 < 4 by decide), if_pos (show Int32.ofNat 4 = 4 from rfl), e_fl, b2_some, xg_pos (Or.inl rfl), b2_some, if_pos rfl]
          exact ⟨_, _, rfl, rfl, Or.inl ⟨rfl, cp c p', 11, Int32.ofNat q, rfl, H2.1, Or.inr (Or.inr (Or.inr ⟨rfl, rfl, rfl⟩))⟩⟩
        · have n4 : n < 4 := by omega
          obtain ⟨c1, r1, s1, s2, s3, s4, s5, s6⟩ := d_adn (N := N) (h := h) (b := b) (q := q) (m := p' - q) hN H2 n4 hc2 hr2 z3 (by omega)
          rw [if_pos (show Int32.ofNat n < 4 by rw [show (4 : Int32) = Int32.ofNat 4 from rfl, i_lt (by omega) (by decide)]; exact n4), if_neg (show ¬ Int32.ofNat n = 4 by rw [show (4 : Int32) = Int32.ofNat 4 from rfl, i_eq (by omega) (by decide)]; exact z4), HV2.2.2.1, xg_pos (by decide), g1, xg_pos (ofn_ne (by omega)), i_cl (show 9 + 7 * th < 2 ^ 31 by omega), xg_pos p1, show (1 : Int32).toNatClampNeg = 1 from rfl, s1, b1_some, b2_some, if_neg (show ¬ (1 : Int32) = 0 by decide), ox4, xg_pos (g_ix (by omega) (by omega)), i_cl (show 4 * th + n < 2 ^ 31 by omega)]
          dsimp only [xw]
          rw [rp_15, ← Int32.ofNat_sub _ _ a1, s2, Option.bind_some]
          dsimp only
          have s17 : r1 157 17 = Int32.ofNat th := by rw [s3]; exact g2
          have s160 : r1 160 th = Int32.ofNat n := by rw [s4]; exact hr2
          rw [xg_pos (show ¬ (r1 157 17 < 0 ∨ 12 ≤ (r1 157 17).toNatClampNeg) by rw [s17]; exact g_ix hth (by omega))]
          simp only [s17]
          rw [i_cl (show th < 2 ^ 31 by omega), s160, on_s]
          have V3 := s5.2.1
          rw [V3.2.2.2.2.2.1, V3.2.2.2.2.2.2.1, e_ba V3 (by omega), b2_some, e_hr V3 (by omega), b2_some]
          have hadv := DC_p (q' := p' + 1) s5 (by omega)
          by_cases y1 : Tx c1 len p' = 124
          · have hp : p' < len := Tx_m (by rw [y1]; decide)
            rw [if_neg (show ¬ Tx c1 len p' = 44 by rw [y1]; decide), if_pos y1, if_pos y1, if_neg (show ¬ (1 : Int32) = 0 by decide)]
            unfold j62_113 j290_361
            rw [V3.2.2.2.2.2.1, V3.2.2.2.2.2.2.1, on_s, on_s]
            dsimp only [xw]
            rw [if_neg (show ¬ Tx c1 len p' = 44 by rw [y1]; decide)]
            refine q_mono (ih (len - (p' + 1)) (by omega) (p' + 1) (n + 1) f _ _ (by omega) (by omega) (by omega) (by omega) hadv ?_ ?_) (fun x y hh => ?_)
            · rw [xU_o (by omega)]; exact s6
            · rw [xU_o (by decide), xU_e]
            · rcases hh with g | g | ⟨w1, w2, q1, w3, w4, w5⟩
              · exact Or.inl g
              · exact Or.inr (Or.inl g)
              · exact Or.inr (Or.inr ⟨w1, w2, q1, by omega, w4, w5⟩)
          · rw [if_neg y1, if_neg y1, if_pos (show (0 : Int32) = 0 from rfl), V3.2.2.2.2.2.2.1, e_hr V3 (by omega), b2_some]
            by_cases y2 : Tx c1 len p' = 44
            · have hp : p' < len := Tx_m (by rw [y2]; decide)
              obtain ⟨f, rfl⟩ : ∃ f', f = f' + 1 := ⟨f - 1, by omega⟩
              rw [if_pos y2, if_pos y2]
              unfold j62_113 j290_361
              rw [V3.2.2.2.2.2.1, V3.2.2.2.2.2.2.1, on_s, on_s]
              dsimp only [xw]
              rw [if_pos y2, l290_100, if_pos rfl]
              exact ⟨_, _, rfl, rfl, Or.inr (Or.inr ⟨rfl, rfl, p' + 1, by omega, by omega, hadv⟩)⟩
            · rw [if_neg y2, if_neg y2]
              exact ⟨_, _, rfl, rfl, Or.inr (Or.inl ⟨rfl, rfl, s5.1, by dsimp only; rw [V3.2.2.2.2.2.1, V3.2.2.2.2.2.2.1]⟩)⟩
      · have tn : ¬ t = -1 := by rw [ej]; exact ofn_ne (by omega)
        rw [if_neg tn, if_neg tn, e_fl, b2_some, xg_pos (Or.inl rfl), b2_some, if_pos rfl]
        exact ⟨_, _, rfl, rfl, Or.inl ⟨rfl, cp c p', 3, Int32.ofNat q, rfl, H2.1, Or.inr (Or.inr (Or.inl ⟨rfl, rfl, rfl⟩))⟩⟩
    · have z3' : ¬ Int32.ofNat (p' - q) ≤ 12 := by rw [show (12 : Int32) = Int32.ofNat 12 from rfl, i_le (by omega) (by decide)]; exact z3
      rw [if_neg z3', if_neg z3', e_fl, b2_some, xg_pos (Or.inl rfl), b2_some, if_pos rfl]
      exact ⟨_, _, rfl, rfl, Or.inl ⟨rfl, cp c p', 2, Int32.ofNat q, rfl, H2.1, Or.inr (Or.inl ⟨rfl, rfl, rfl⟩)⟩⟩
  · rw [if_pos (show zb (Tx (cp c p') len p' = -1 ∨ Tx (cp c p') len p' = 9 ∨ Tx (cp c p') len p' = 10 ∨ 32 ≤ Tx (cp c p') len p' ∧ Tx (cp c p') len p' ≤ 126) = 0 from zb_f z2), if_neg (show ¬ zb (¬ (Tx (cp c p') len p' = -1 ∨ Tx (cp c p') len p' = 9 ∨ Tx (cp c p') len p' = 10 ∨ 32 ≤ Tx (cp c p') len p' ∧ Tx (cp c p') len p' ≤ 126)) = 0 by rw [zb_t z2]; decide)]
    simp only [cp_6, rp_15]
    rw [e_fl, b2_some, xg_pos (Or.inl rfl), b2_some, if_pos rfl, b2_some, if_pos rfl]
    exact ⟨_, _, rfl, rfl, Or.inl ⟨rfl, cp c p', 1, Int32.ofNat p', rfl, H2.1, Or.inl ⟨rfl, rfl, (rp_15 (r := r) (q := p')).symm⟩⟩⟩
end T
