/-! The reader: lines. -/
def DR (k0 len q : Nat) (c0 r0 c r : xA) : Prop := DN k0 len q k0 c0 r0 c r ∨ ∃ th, DC k0 len q th c0 r0 c r
def XL (k0 len q : Nat) (c0 r0 : xA) (F G : Option (Int32 × xA)) : Prop := ∃ p1 p2, F = some p1 ∧ G = some p2 ∧ p1.1 = p2.1 ∧ ((p1.1 = 0 ∧ FL k0 c0 r0 p1.2 p2.2) ∨ (p1.1 = 1 ∧ ∃ q1, q < q1 ∧ q1 ≤ len + 2 ∧ DR k0 len q1 c0 r0 p1.2 p2.2))
section T
variable {N h b : Nat} {c0 r0 c r c' r' c'' r'' : xA} {x y z s v w w1 w2 : Int32} {len p i f k m q l a e K n row d th k0 A B : Nat}
theorem DN_p {q' : Nat} (H : DN k0 len q k c0 r0 c r) (hq : q' ≤ 9000) : DN k0 len q' k c0 r0 (cp c q') (rp r q') := by
  obtain ⟨a1, a2, a3, a4, a5, a6, a7, a8⟩ := H
  exact ⟨FL_p a1, RV_q a2 hq, a3, a4, by unfold cp; rw [xU_s (by decide)]; exact a5, by unfold cp; rw [xU_s (by decide)]; exact a6, by unfold rp; rw [xU_s (by decide)]; exact a7, fun e he => EE_p (a8 e he)⟩
theorem DR_p {q' : Nat} (H : DR k0 len q c0 r0 c r) (hq : q' ≤ 9000) : DR k0 len q' c0 r0 (cp c q') (rp r q') := by
  rcases H with g | ⟨th, g⟩
  · exact Or.inl (DN_p g hq)
  · exact Or.inr ⟨th, DC_p g hq⟩
theorem DR_F (H : DR k0 len q c0 r0 c r) : FL k0 c0 r0 c r ∧ RV len q c r := by
  rcases H with g | ⟨th, g⟩
  · exact ⟨g.1, g.2.1⟩
  · exact ⟨g.1, g.2.1⟩
theorem xl_f (H : FL k0 c0 r0 c r) : XL k0 len q c0 r0 (xb2 (f26_failed N h b x y c) (fun r31 a32 => xg (r31 = 0 ∨ r31 = 1) (some (r31, a32)))) (xb2 (f270_fails N h b x y r) (fun r85 a86 => xg (r85 = 0 ∨ r85 = 1) (some (r85, a86)))) := ⟨_, _, rfl, rfl, rfl, Or.inl ⟨rfl, FL_f H.1 H.2.1⟩⟩
/-- a line ends -/
theorem xl_e (H : DR k0 len p c0 r0 c r) (hq : q ≤ p) (hp : p ≤ len + 1) (hl : len ≤ 3000) (hT : Tx c len p = -1 ∨ Tx c len p = 10) : XL k0 len q c0 r0 (xb2 (f27_passLineEnd N h b c) (fun r34 a35 => xg (r34 = 0 ∨ r34 = 1) (some (r34, a35)))) (some (1, xU r 157 15 (r 157 15 + 1))) := by
  have HV := (DR_F H).2
  rw [(d_le HV (by omega)).1 hT, b2_some, xg_pos (Or.inr rfl), HV.2.2.2.2.2.2.1, on_s]
  exact ⟨_, _, rfl, rfl, rfl, Or.inr ⟨rfl, p + 1, by omega, by omega, DR_p H (by omega)⟩⟩
theorem d_bgn (hN : 100000 ≤ N) (H : DN k0 len q k c0 r0 c r) (hk : k < 12) (hq : q < len) : XL k0 len q c0 r0 (xb1 (f66_beginEntry N h b c) (fun a27 => (l62_67 N h b N 0 a27).bind (fun z48 => if z48.1 = 0 then (some (0, z48.2)) else (if z48.1 = 1 then (xb2 (f26_failed N h b 1 (z48.2 3 6) z48.2) (fun r53 a54 => xg (r53 = 0 ∨ r53 = 1) (some (r53, a54)))) else (if z48.1 = 2 then (xb1 (f31_passBlanks N h b z48.2) (fun a59 => xb2 (f27_passLineEnd N h b a59) (fun r63 a64 => xg (r63 = 0 ∨ r63 = 1) (some (r63, a64))))) else (xb2 (f26_failed N h b 11 (z48.2 3 6) z48.2) (fun r69 a70 => xg (r69 = 0 ∨ r69 = 1) (some (r69, a70)))))))))
    (xw (xU r 157 17 ((r 157 17) + 1)) (fun a25 => xg (¬ (a25 157 17 < 0 ∨ 12 ≤ (a25 157 17).toNatClampNeg)) (xw (xU a25 160 ((a25 157 17).toNatClampNeg) 0) (fun a28 => xw (xU a28 157 19 0) (fun a32 => (l290_71 N h b N 0 a32).bind (fun z40 => (l290_100 N h b N 1 z40.2).bind (fun z110 => if z110.1 = 0 then (j290_151 N h b z110.2.2) else (if z110.1 = 1 then (xb2 (f270_fails N h b 2 z110.2.1 z110.2.2) (fun r121 a122 => xg (r121 = 0 ∨ r121 = 1) (some (r121, a122)))) else (if z110.1 = 2 then (xb2 (f270_fails N h b 3 z110.2.1 z110.2.2) (fun r127 a128 => xg (r127 = 0 ∨ r127 = 1) (some (r127, a128)))) else (if z110.1 = 3 then (xb2 (f270_fails N h b 11 z110.2.1 z110.2.2) (fun r133 a134 => xg (r133 = 0 ∨ r133 = 1) (some (r133, a134)))) else (if z110.1 = 4 then (xb2 (f270_fails N h b 1 (z110.2.2 157 15) z110.2.2) (fun r139 a140 => xg (r139 = 0 ∨ r139 = 1) (some (r139, a140)))) else (xb2 (f291_over N h b z110.2.2) (fun r145 a146 => xg (r145 = 0 ∨ r145 = 1) (some (r145, a146))))))))))))))) := by
  have hl := H.2.1.1
  obtain ⟨c1, r1, e1, e2, e3, e4, e5⟩ := d_beg (N := N) (h := h) (b := b) hN H hk
  obtain ⟨pp, qq, s1, s2, s3⟩ := d_nms (N := N) (h := h) (b := b) (k0 := k0) (len := len) (th := k) (c0 := c0) (r0 := r0) hN hl len q 0 N c1 r1 (by omega) (by omega) (by omega) (by omega) e3 e4 e5
  have s1' : l62_67 N h b N 0 c1 = some pp := s1
  have e17 : xU r 157 17 (Int32.ofNat k) 157 17 = Int32.ofNat k := xU_e
  rw [e1, b1_some, H.2.2.2.2.2.2.1, s1', Option.bind_some]
  dsimp only [xw]
  rw [xg_pos (show ¬ (xU r 157 17 (Int32.ofNat k) 157 17 < 0 ∨ 12 ≤ (xU r 157 17 (Int32.ofNat k) 157 17).toNatClampNeg) by rw [e17]; exact g_ix hk (by omega))]
  simp only [e17]
  rw [i_cl (show k < 2 ^ 31 by omega), e2, Option.bind_some]
  dsimp only
  rw [s2, Option.bind_some]
  rcases s3 with ⟨k1, c2, x, y, k2, k3, k4⟩ | ⟨k1, k2, k3, k4⟩ | ⟨k1, k2, q1, k3, k4, k5⟩
  · rw [if_pos k1, k2]
    rcases k4 with ⟨g1, g2, g3⟩ | ⟨g1, g2, g3⟩ | ⟨g1, g2, g3⟩ | ⟨g1, g2, g3⟩
    · rw [if_pos g1, g2, g3]
      exact ⟨_, _, rfl, rfl, rfl, Or.inl ⟨rfl, FL_f k3.1 k3.2.1⟩⟩
    · rw [g1, if_neg (by decide), if_pos rfl, g2, g3]
      exact ⟨_, _, rfl, rfl, rfl, Or.inl ⟨rfl, FL_f k3.1 k3.2.1⟩⟩
    · rw [g1, if_neg (by decide), if_neg (by decide), if_pos rfl, g2, g3]
      exact ⟨_, _, rfl, rfl, rfl, Or.inl ⟨rfl, FL_f k3.1 k3.2.1⟩⟩
    · rw [g1, if_neg (by decide), if_neg (by decide), if_neg (by decide), if_pos rfl, g2, g3]
      exact ⟨_, _, rfl, rfl, rfl, Or.inl ⟨rfl, FL_f k3.1 k3.2.1⟩⟩
  · rw [k1, if_neg (by decide), if_pos rfl, k2, if_neg (by decide), if_neg (by decide), if_neg (by decide), if_neg (by decide), if_pos rfl, k4]
    exact xl_f k3
  · rw [k1, if_neg (by decide), if_neg (by decide), if_pos rfl, k2, if_neg (by decide), if_neg (by decide), if_neg (by decide), if_neg (by decide), if_neg (by decide)]
    obtain ⟨p', b1, b2, b3, b4⟩ := d_bl (N := N) (h := h) (b := b) hN k5.2.1 (by omega)
    have H3 := DC_p (q' := p') k5 (by omega)
    have V3 := H3.2.1
    unfold f291_over
    rw [b3, b1_some, b4, b1_some, V3.2.2.2.2.2.2.1, e_end V3 (by omega), b2_some]
    by_cases z1 : Tx (cp pp.2 p') len p' = -1 ∨ Tx (cp pp.2 p') len p' = 10
    · rw [if_neg (show ¬ zb (Tx (cp pp.2 p') len p' = -1 ∨ Tx (cp pp.2 p') len p' = 10) = 0 by rw [zb_t z1]; decide)]
      exact xl_e (Or.inr ⟨_, H3⟩) (by omega) (by omega) hl z1
    · rw [if_pos (zb_f z1), (d_le V3 (by omega)).2 z1, V3.2.2.2.2.2.2.1]
      exact ⟨_, _, rfl, rfl, rfl, Or.inl ⟨rfl, FL_f H3.1.1 H3.1.2.1⟩⟩
end T
