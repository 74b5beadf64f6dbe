/-! The reader: a line. -/
section T
variable {N h b : Nat} {c0 r0 c r c' r' c'' r'' : xA} {x y z s v w w1 w2 : Int32} {len p i f k m q l a e K n row d th k0 A B : Nat}
theorem xl_w {F G : Option (Int32 × xA)} (H : XL k0 len q c0 r0 F G) : XL k0 len q c0 r0 F (xb2 G (fun r53 a54 => xg (r53 = 0 ∨ r53 = 1) (some (r53, a54)))) := by
  obtain ⟨⟨v1, p1⟩, ⟨v2, p2⟩, e1, e2, e3, e4⟩ := H
  dsimp only at e3 e4
  have : v2 = 0 ∨ v2 = 1 := by
    rcases e4 with g | g
    · exact Or.inl (by rw [← e3]; exact g.1)
    · exact Or.inr (by rw [← e3]; exact g.1)
  refine ⟨(v1, p1), (v2, p2), e1, ?_, e3, e4⟩
  rw [e2, b2_some, xg_pos this]
theorem e11 (hx : x + 1 = Int32.ofNat k) (hk : k ≤ 12) : (x = 11) = (k = 12) := by
  apply propext
  constructor
  · intro e
    rw [e, show (11 : Int32) + 1 = Int32.ofNat 12 from rfl, i_eq (by decide) (by omega)] at hx
    exact hx.symm
  · intro e
    rw [e] at hx
    have : x + 1 = 12 := hx
    grind
theorem e17l (hx : x + 1 = Int32.ofNat k) (hk : k ≤ 12) : x < Int32.ofNat k := by
  have e : x = Int32.ofNat k - 1 := by rw [← hx]; grind
  rw [e]
  have : k = 0 ∨ k = 1 ∨ k = 2 ∨ k = 3 ∨ k = 4 ∨ k = 5 ∨ k = 6 ∨ k = 7 ∨ k = 8 ∨ k = 9 ∨ k = 10 ∨ k = 11 ∨ k = 12 := by omega
  rcases this with q | q | q | q | q | q | q | q | q | q | q | q | q <;> subst q <;> decide
/-- a line of names, an entry finished before -/
theorem d_nln (hN : 100000 ≤ N) (H1 : FL k0 c0 r0 c r) (HV : RV len q c r) (hq : q < len) {o1 o2 : Int32} (h38 : (if c 3 8 = -1 then (j62_40 N h b 0 (c 3 7) c) else (j62_40 N h b 1 (c 3 7) c)) = j62_40 N h b o1 o2 c) (ho : o2 + o1 = Int32.ofNat k) (hk : k ≤ 12) (h17 : r 157 17 + 1 = Int32.ofNat k) (hf : k < 12 → f63_finishEntry N h b c = some c' ∧ DN k0 len q k c0 r0 c' r) : XL k0 len q c0 r0 (f62_readNames N h b c) (j265_157 N h b r) := by
  have hl := HV.1
  unfold f62_readNames j265_157 f290_beginning
  rw [HV.2.2.2.2.2.1, HV.2.2.2.2.2.2.1, e_ba HV (by omega), b2_some, e_hr HV (by omega), b2_some, e_nb, b2_some, e_nb', b2_some]
  refine xl_w ?_
  by_cases z1 : nmB (Tx c len q)
  · rw [if_neg (show ¬ zb (nmB (Tx c len q)) = 0 by rw [zb_t z1]; decide), if_neg (show ¬ zb (nmB (Tx c len q)) = 0 by rw [zb_t z1]; decide), h38]
    unfold j62_40
    rw [ho]
    by_cases z2 : k < 12
    · obtain ⟨f1, f2⟩ := hf z2
      rw [if_pos (show Int32.ofNat k < 12 by rw [show (12 : Int32) = Int32.ofNat 12 from rfl, i_lt (by omega) (by decide)]; exact z2), if_neg (by rw [e11 h17 hk]; omega), f1, b1_some]
      exact d_bgn hN f2 z2 hq
    · rw [if_neg (show ¬ Int32.ofNat k < 12 by rw [show (12 : Int32) = Int32.ofNat 12 from rfl, i_lt (by omega) (by decide)]; exact z2), if_pos (by rw [e11 h17 hk]; omega), HV.2.2.2.2.2.1, HV.2.2.2.2.2.2.1]
      exact xl_f H1
  · rw [if_pos (show zb (nmB (Tx c len q)) = 0 from zb_f z1), if_pos (show zb (nmB (Tx c len q)) = 0 from zb_f z1), HV.2.2.2.2.2.1, HV.2.2.2.2.2.2.1]
    exact xl_f H1
theorem d_nlr (hN : 100000 ≤ N) (H : DR k0 len q c0 r0 c r) (hk0 : k0 ≤ 12) (hq : q < len) : XL k0 len q c0 r0 (f62_readNames N h b c) (if r 157 17 < Int32.ofNat k0 then (j265_157 N h b r) else (xb1 (f289_used N h b r) (fun a59 => j265_157 N h b a59))) := by
  rcases H with H | ⟨th, H⟩
  · rw [if_pos (e17l H.2.2.2.2.2.2.1 hk0)]
    have e38 := H.2.2.2.2.2.1
    exact d_nln (c' := c) hN H.1 H.2.1 hq (by rw [if_pos e38]) (by rw [H.2.2.2.2.1, Int32.add_zero]) hk0 H.2.2.2.2.2.2.1 (fun _ => ⟨by unfold f63_finishEntry; rw [if_pos e38], H⟩)
  · obtain ⟨c1, r1, e1, e2, e3, e4, e5⟩ := d_ent (N := N) (h := h) (b := b) hN H
    have hth := H.2.2.2.1
    have h0 := H.2.2.1
    rw [if_neg (by rw [H.2.2.2.2.2.2.2.1, i_lt (by omega) (by omega)]; omega), e2, b1_some]
    have e38 : ¬ c 3 8 = -1 := by rw [H.2.2.2.2.2.2.1]; exact ofn_ne (by omega)
    exact d_nln (c' := c1) hN e4 e5 hq (by rw [if_neg e38]) (by rw [H.2.2.2.2.1, on_s]) (by omega) e3.2.2.2.2.2.2.1 (fun _ => ⟨e1, e3⟩)
theorem e_bk {a : xA} : f29_isBlank N h b x a = some (zb (x = 9 ∨ x = 32), a) := by
  unfold f29_isBlank j29_12
  by_cases z1 : x = 9
  · rw [if_pos z1, zb_t (Or.inl z1)]
  · rw [if_neg z1]
    by_cases z2 : x = 32
    · rw [if_pos z2, zb_t (Or.inr z2), xg_pos (Or.inr rfl)]
    · rw [if_neg z2, zb_f (fun g => g.elim z1 z2), xg_pos (Or.inl rfl)]
theorem e_bk' {a : xA} : f267_isBlank N h b x a = some (zb (x = 9 ∨ x = 32), a) := by
  unfold f267_isBlank j267_12
  by_cases z1 : x = 9
  · rw [if_pos z1, zb_t (Or.inl z1)]
  · rw [if_neg z1]
    by_cases z2 : x = 32
    · rw [if_pos z2, zb_t (Or.inr z2), xg_pos (Or.inr rfl)]
    · rw [if_neg z2, zb_f (fun g => g.elim z1 z2), xg_pos (Or.inl rfl)]
theorem d_cml (hN : 100000 ≤ N) (hl : len ≤ 3000) : ∀ (k q f f' : Nat) (c r : xA), len ≤ q + k → q ≤ len → k < f → k < f' → DR k0 len q c0 r0 c r → Q2 (l24_0 N h b f c) (l265_74 N h b w1 f' r) (fun p q' => p.1 = q'.1 ∧ ∃ q1, q ≤ q1 ∧ q1 ≤ len ∧ DR k0 len q1 c0 r0 p.2 q'.2 ∧ (p.1 = 0 ∨ (p.1 = 1 ∧ (Tx p.2 len q1 = -1 ∨ Tx p.2 len q1 = 10)))) := by
  intro k
  induction k with
  | zero =>
    intro q f f' c r h1 h2 h3 h4 H
    obtain ⟨f, rfl⟩ : ∃ g, f = g + 1 := ⟨f - 1, by omega⟩
    obtain ⟨f', rfl⟩ : ∃ g, f' = g + 1 := ⟨f' - 1, by omega⟩
    have HV := (DR_F H).2
    have eT : Tx c len q = -1 := if_neg (by omega)
    rw [l24_0, l265_74, HV.2.2.2.2.2.2.1, e_end HV (by omega), b2_some, if_pos (by rw [l_tx HV]; omega), if_neg (by rw [eT, zb_t (Or.inl rfl)]; decide)]
    exact ⟨_, _, rfl, rfl, rfl, q, Nat.le_refl _, h2, H, Or.inr ⟨rfl, Or.inl eT⟩⟩
  | succ k ih =>
    intro q f f' c r h1 h2 h3 h4 H
    by_cases lq : q < len
    · obtain ⟨f, rfl⟩ : ∃ g, f = g + 1 := ⟨f - 1, by omega⟩
      obtain ⟨f', rfl⟩ : ∃ g, f' = g + 1 := ⟨f' - 1, by omega⟩
      have HV := (DR_F H).2
      have lb := Tx_by HV lq
      have nm1 : ¬ Tx c len q = -1 := fun e => by rw [e] at lb; exact absurd lb.1 (by decide)
      rw [l24_0, l265_74, HV.2.2.2.2.2.2.1, e_end HV (by omega), b2_some, if_neg (by rw [l_tx HV]; omega), g_tx HV lq, v_tx HV lq]
      by_cases z1 : Tx c len q = 10
      · rw [if_pos z1, if_neg (show ¬ zb (Tx c len q = -1 ∨ Tx c len q = 10) = 0 by rw [zb_t (Or.inr z1)]; decide)]
        exact ⟨_, _, rfl, rfl, rfl, q, Nat.le_refl _, h2, H, Or.inr ⟨rfl, Or.inr z1⟩⟩
      · rw [if_neg z1, if_pos (show zb (Tx c len q = -1 ∨ Tx c len q = 10) = 0 from zb_f (fun g => g.elim nm1 z1)), e_itx, b2_some, HV.2.2.2.2.2.2.1, e_hr HV (by omega), b2_some, e_itx', b2_some]
        by_cases z2 : Tx c len q = 9 ∨ Tx c len q = 10 ∨ 32 ≤ Tx c len q ∧ Tx c len q ≤ 126
        · rw [if_neg (show ¬ zb (Tx c len q = -1 ∨ Tx c len q = 9 ∨ Tx c len q = 10 ∨ 32 ≤ Tx c len q ∧ Tx c len q ≤ 126) = 0 by rw [zb_t (Or.inr z2)]; decide), if_neg (show ¬ zb (Tx c len q = 9 ∨ Tx c len q = 10 ∨ 32 ≤ Tx c len q ∧ Tx c len q ≤ 126) = 0 by rw [zb_t z2]; decide)]
          dsimp only [xw]
          rw [HV.2.2.2.2.2.1, HV.2.2.2.2.2.2.1, on_s]
          refine q_mono (ih (q + 1) f f' _ _ (by omega) (by omega) (by omega) (by omega) (DR_p (q' := q + 1) H (by omega))) (fun x y hh => ?_)
          obtain ⟨g1, q1, g2, g3⟩ := hh
          exact ⟨g1, q1, by omega, g3⟩
        · rw [if_pos (show zb (Tx c len q = -1 ∨ Tx c len q = 9 ∨ Tx c len q = 10 ∨ 32 ≤ Tx c len q ∧ Tx c len q ≤ 126) = 0 from zb_f (fun g => g.elim nm1 z2)), if_pos (show zb (Tx c len q = 9 ∨ Tx c len q = 10 ∨ 32 ≤ Tx c len q ∧ Tx c len q ≤ 126) = 0 from zb_f z2)]
          exact ⟨_, _, rfl, rfl, rfl, q, Nat.le_refl _, h2, H, Or.inl rfl⟩
    · exact ih q f f' c r (by omega) h2 (by omega) (by omega) H
/-- a comment -/
theorem d_cmt (hN : 100000 ≤ N) (H : DR k0 len q c0 r0 c r) (hq : q < len) (h35 : Tx c len q = 35) : XL k0 len q c0 r0 (f24_passComment N h b c) ((l265_74 N h b (Int32.ofNat k0) N r).bind (fun z34 => if z34.1 = 0 then (xb2 (f270_fails N h b 1 (z34.2 157 15) z34.2) (fun r39 a40 => xg (r39 = 0 ∨ r39 = 1) (some (r39, a40)))) else (j265_122 N h b (Int32.ofNat k0) z34.2))) := by
  have HV := (DR_F H).2
  have hl := HV.1
  obtain ⟨M, hM⟩ : ∃ n', N = n' + 1 := ⟨N - 1, by omega⟩
  obtain ⟨pp, qq, s1, s2, s3, q1, s4, s5, s6, s7⟩ := d_cml (N := N) (h := h) (b := b) (w1 := Int32.ofNat k0) (k0 := k0) (c0 := c0) (r0 := r0) hN hl len (q + 1) N M (cp c (q + 1)) (rp r (q + 1)) (by omega) (by omega) (by omega) (by omega) (DR_p H (by omega))
  have eR : l265_74 N h b (Int32.ofNat k0) N r = some qq := by
    rw [← s2]
    conv => lhs; rw [hM]
    rw [l265_74, HV.2.2.2.2.2.2.1, ← hM, e_end HV (by omega), b2_some, h35, if_pos (show zb ((35 : Int32) = -1 ∨ (35 : Int32) = 10) = 0 from zb_f (by decide)), HV.2.2.2.2.2.2.1, e_hr HV (by omega), b2_some, e_itx', b2_some, h35, if_neg (show ¬ zb ((35 : Int32) = 9 ∨ (35 : Int32) = 10 ∨ 32 ≤ (35 : Int32) ∧ (35 : Int32) ≤ 126) = 0 by rw [zb_t (by decide)]; decide)]
    dsimp only [xw]
    rw [HV.2.2.2.2.2.2.1, on_s]
    rfl
  unfold f24_passComment
  rw [eR, Option.bind_some, if_neg (by rw [l_tx HV]; omega), g_tx HV hq, v_tx HV hq, h35, if_neg (show ¬ (35 : Int32) = 10 by decide), e_itx, b2_some, if_neg (show ¬ zb ((35 : Int32) = -1 ∨ (35 : Int32) = 9 ∨ (35 : Int32) = 10 ∨ 32 ≤ (35 : Int32) ∧ (35 : Int32) ≤ 126) = 0 by rw [zb_t (by decide)]; decide)]
  dsimp only [xw]
  have s1' : l24_0 N h b N (xU c 3 6 (Int32.ofNat (q + 1))) = some pp := s1
  rw [HV.2.2.2.2.2.1, on_s, s1', Option.bind_some]
  have V1 := (DR_F s6).2
  rcases s7 with g | ⟨g, g2⟩
  · rw [if_pos g, if_pos (by rw [← s3]; exact g), V1.2.2.2.2.2.1, V1.2.2.2.2.2.2.1]
    exact xl_f (DR_F s6).1
  · rw [g, if_neg (by decide), ← s3, g, if_neg (by decide)]
    unfold j24_63 j265_122
    rw [V1.2.2.2.2.2.2.1, e_end V1 (by omega), b2_some, if_neg (show ¬ zb (Tx pp.2 len q1 = -1 ∨ Tx pp.2 len q1 = 10) = 0 by rw [zb_t g2]; decide)]
    exact xl_e s6 (by omega) (by omega) hl g2
theorem e_30e (HV : RV len q c r) (hN : 0 < N) (hT : Tx c len q = -1 ∨ Tx c len q = 10) : l30_6 N h b N 0 c = some (2, c) := by
  obtain ⟨M, hM⟩ : ∃ n', N = n' + 1 := ⟨N - 1, by omega⟩
  rw [hM, l30_6, ← hM]
  by_cases z1 : c 3 5 ≤ 0
  · rw [if_pos z1]
  · rw [if_neg z1]
    by_cases z2 : len ≤ q
    · rw [if_pos (by rw [l_tx HV]; exact z2)]
    · have lq : q < len := by omega
      have lb := Tx_by HV lq
      have nm1 : ¬ Tx c len q = -1 := fun e => by rw [e] at lb; exact absurd lb.1 (by decide)
      rw [if_neg (by rw [l_tx HV]; exact z2), g_tx HV lq, v_tx HV lq, if_pos (hT.resolve_left nm1)]
/-- fields -/
theorem d_flds (hN : 100000 ≤ N) (H : DR k0 len q c0 r0 c r) (hk0 : k0 ≤ 12) (hq : q < len) : XL k0 len q c0 r0 (f30_readFields N h b c) (xb1 (f268_blanks N h b r) (fun a66 => xb2 (f269_ends N h b (a66 157 15) a66) (fun r70 a71 => if r70 = 0 then (if (Int32.ofNat k0) ≤ (a71 157 17) then (xb2 (f271_fields N h b a71) (fun r78 a79 => xg (r78 = 0 ∨ r78 = 1) (some (r78, a79)))) else (xb2 (f270_fails N h b 1 (a71 157 15) a71) (fun r84 a85 => xg (r84 = 0 ∨ r84 = 1) (some (r84, a85))))) else (xw (xU a71 157 15 ((a71 157 15) + 1)) (fun a87 => some (1, a87)))))) := by
  have hl := (DR_F H).2.1
  obtain ⟨p', b1, b2, b3, b4⟩ := d_bl (N := N) (h := h) (b := b) hN (DR_F H).2 (by omega)
  have H3 := DR_p (q' := p') H (by omega)
  have V3 := (DR_F H3).2
  unfold f30_readFields
  rw [b3, b1_some, b4, b1_some, V3.2.2.2.2.2.2.1, e_end V3 (by omega), b2_some]
  by_cases z1 : Tx (cp c p') len p' = -1 ∨ Tx (cp c p') len p' = 10
  · rw [if_neg (show ¬ zb (Tx (cp c p') len p' = -1 ∨ Tx (cp c p') len p' = 10) = 0 by rw [zb_t z1]; decide), e_30e V3 (by omega) z1, Option.bind_some, if_neg (show ¬ (2 : Nat) = 0 by decide), if_neg (show ¬ (2 : Nat) = 1 by decide)]
    exact xl_e H3 b1 (by omega) hl z1
  · rw [if_pos (zb_f z1)]
    have lp : p' < len := by
      apply Classical.byContradiction
      intro g
      exact z1 (Or.inl (if_neg g))
    rcases H3 with H3 | ⟨th, H3⟩
    · have e17 := e17l H3.2.2.2.2.2.2.1 hk0
      rw [if_neg (show ¬ Int32.ofNat k0 ≤ rp r p' 157 17 from Int32.not_le.mpr e17)]
      obtain ⟨M, hM⟩ : ∃ n', N = n' + 1 := ⟨N - 1, by omega⟩
      have e0 : l30_6 N h b N 0 (cp c p') = some (0, cp c p') := by
        rw [hM, l30_6, ← hM, if_neg (by rw [V3.2.2.2.1, show (0 : Int32) = Int32.ofNat 0 from rfl, i_le (by omega) (by decide)]; omega), if_neg (by rw [l_tx V3]; omega), g_tx V3 lp, v_tx V3 lp, if_neg (fun g => z1 (Or.inr g)), if_pos H3.2.2.2.2.2.1]
      rw [e0, Option.bind_some, if_pos rfl]
      dsimp only
      rw [V3.2.2.2.2.2.1, V3.2.2.2.2.2.2.1]
      exact xl_f H3.1
    · have hth := H3.2.2.2.1
      have h0 := H3.2.2.1
      rw [if_pos (show Int32.ofNat k0 ≤ rp r p' 157 17 by rw [H3.2.2.2.2.2.2.2.1, i_le (by omega) (by omega)]; exact h0)]
      obtain ⟨pp, qq, s1, s2, s3⟩ := d_fls (N := N) (h := h) (b := b) (k0 := k0) (th := th) (c0 := c0) (r0 := r0) hN hl len p' 0 N (cp c p') (rp r p') (by omega) (by omega) (by omega) (by omega) H3
      have s1' : l30_6 N h b N 0 (cp c p') = some pp := s1
      unfold f271_fields j271_70
      rw [s1', s2, Option.bind_some, Option.bind_some]
      dsimp only [xw]
      rcases s3 with ⟨k1, k2, q1, k3, k4, k5, k6⟩ | ⟨k1, k2, k3⟩
      · have V5 := k5.2.1
        rw [k1, if_neg (by decide), if_neg (by decide), k2, xg_pos (Or.inr rfl), b2_some, xg_pos (Or.inr rfl)]
        exact xl_e (Or.inr ⟨th, k5⟩) (by omega) k4 hl k6
      · rw [k1, if_neg (by decide), if_pos rfl, k2, xg_pos (Or.inl rfl), b2_some, xg_pos (Or.inl rfl)]
        exact ⟨_, _, rfl, rfl, rfl, Or.inl ⟨rfl, FL_15 k3⟩⟩
end T
