/-! The reader: a text is read. -/
/-- what describe leaves alone -/
def DF (K : Nat) (c r c' r' : xA) : Prop := (∀ p, p ≠ 0 → p ≠ 3 → ¬ (6 ≤ p ∧ p ≤ 8) → ¬ (9 + 7 * K ≤ p ∧ p ≤ 92) → c' p = c p) ∧ (∀ i, i ≠ 1 → c' 0 i = c 0 i) ∧ (∀ p, p ≠ 157 → ¬ (160 ≤ p ∧ p ≤ 167) → r' p = r p) ∧ (∀ i, i ≠ 0 → i ≠ 2 → i ≠ 5 → ¬ (13 ≤ i ∧ i ≤ 20) → r' 157 i = r 157 i)
section T
variable {N h b : Nat} {c0 r0 c r c' r' c'' r'' : xA} {x y z s v w w1 w2 : Int32} {len p i f k m q l a e K n row d th k0 A B t : Nat}
theorem d_line (hN : 100000 ≤ N) (H : DR k0 len q c0 r0 c r) (hk0 : k0 ≤ 12) (hq : q < len) (ht : t < len) : ∃ F, XL k0 len q c0 r0 F (f265_line N h b (Int32.ofNat k0) r) ∧ ∀ f, l23_43 N h b (Int32.ofNat len) (f + 1) 1 (Int32.ofNat t) c = xb2 F (fun r' a' => l23_43 N h b (Int32.ofNat len) f r' (Int32.ofNat (t + 1)) a') := by
  have HV := (DR_F H).2
  have hl := HV.1
  have lb := Tx_by HV hq
  have nm1 : ¬ Tx c len q = -1 := fun e => by rw [e] at lb; exact absurd lb.1 (by decide)
  have e15 := HV.2.2.2.2.2.2.1
  have e0 : ∀ f, l23_43 N h b (Int32.ofNat len) (f + 1) 1 (Int32.ofNat t) c = if Tx c len q = 35 then (xb2 (f24_passComment N h b c) (fun r34 a35 => l23_43 N h b (Int32.ofNat len) f r34 (Int32.ofNat (t + 1)) a35)) else (xb2 (f29_isBlank N h b (Tx c len q) c) (fun r39 a40 => if r39 = 0 then (if Tx c len q = 10 then (xb2 (f27_passLineEnd N h b a40) (fun r49 a50 => l23_43 N h b (Int32.ofNat len) f r49 (Int32.ofNat (t + 1)) a50)) else (xb2 (f62_readNames N h b a40) (fun r54 a55 => l23_43 N h b (Int32.ofNat len) f r54 (Int32.ofNat (t + 1)) a55))) else (xb2 (f30_readFields N h b a40) (fun r59 a60 => l23_43 N h b (Int32.ofNat len) f r59 (Int32.ofNat (t + 1)) a60)))) := by
    intro f
    rw [l23_43, if_neg (by rw [i_le (by omega) (by omega)]; omega), if_neg (show ¬ (1 : Int32) = 0 by decide), if_neg (by rw [l_tx HV]; omega), g_tx HV hq, v_tx HV hq]
    unfold j23_124 j23_125
    rw [on_s]
  unfold f265_line
  rw [e15, e_hr HV (by omega), b2_some, e_bk', b2_some]
  by_cases z1 : Tx c len q = 35
  · refine ⟨f24_passComment N h b c, ?_, fun f => by rw [e0, if_pos z1]⟩
    rw [if_pos (zb_f (by rw [z1]; decide)), if_pos z1]
    exact d_cmt hN H hq z1
  · by_cases z2 : Tx c len q = 9 ∨ Tx c len q = 32
    · refine ⟨f30_readFields N h b c, ?_, fun f => by rw [e0, if_neg z1, e_bk, b2_some, if_neg (by rw [zb_t z2]; decide)]⟩
      rw [if_neg (show ¬ zb (Tx c len q = 9 ∨ Tx c len q = 32) = 0 by rw [zb_t z2]; decide)]
      exact d_flds hN H hk0 hq
    · rw [if_pos (show zb (Tx c len q = 9 ∨ Tx c len q = 32) = 0 from zb_f z2), if_neg z1]
      unfold j265_122
      rw [e15, e_end HV (by omega), b2_some]
      by_cases z3 : Tx c len q = 10
      · refine ⟨f27_passLineEnd N h b c, ?_, fun f => by rw [e0, if_neg z1, e_bk, b2_some, if_pos (zb_f z2), if_pos z3]⟩
        rw [if_neg (show ¬ zb (Tx c len q = -1 ∨ Tx c len q = 10) = 0 by rw [zb_t (Or.inr z3)]; decide), (d_le HV (by omega)).1 (Or.inr z3), e15, on_s]
        exact ⟨_, _, rfl, rfl, rfl, Or.inr ⟨rfl, q + 1, by omega, by omega, DR_p H (by omega)⟩⟩
      · refine ⟨f62_readNames N h b c, ?_, fun f => by rw [e0, if_neg z1, e_bk, b2_some, if_pos (zb_f z2), if_neg z3]⟩
        rw [if_pos (show zb (Tx c len q = -1 ∨ Tx c len q = 10) = 0 from zb_f (fun g => g.elim nm1 z3))]
        exact d_nlr hN H hk0 hq
theorem d_lns (hN : 100000 ≤ N) (hl : len ≤ 3000) (hk0 : k0 ≤ 12) : ∀ (k q t f f' : Nat) (c r : xA), len ≤ q + k → q ≤ len + 2 → t ≤ q → k + 1 < f → k + 1 < f' → DR k0 len q c0 r0 c r → Q2 (l23_43 N h b (Int32.ofNat len) f 1 (Int32.ofNat t) c) (l264_50 N h b (Int32.ofNat k0) f' 1 r) (fun p q' => p.2.1 = q'.2.1 ∧ ((p.2.1 = 0 ∧ FL k0 c0 r0 p.2.2 q'.2.2) ∨ (p.2.1 = 1 ∧ ∃ q1, q1 ≤ len + 2 ∧ DR k0 len q1 c0 r0 p.2.2 q'.2.2))) := by
  intro k
  induction k using Nat.strongRecOn with
  | _ k ih =>
  intro q t f f' c r h1 h2 h3 h4 h5 H
  obtain ⟨f, rfl⟩ : ∃ g, f = g + 1 := ⟨f - 1, by omega⟩
  obtain ⟨f', rfl⟩ : ∃ g, f' = g + 1 := ⟨f' - 1, by omega⟩
  have HV := (DR_F H).2
  by_cases lq : q < len
  · obtain ⟨F, hF, eF⟩ := d_line (N := N) (h := h) (b := b) (t := t) hN H hk0 lq (by omega)
    rw [eF, l264_50, if_neg (show ¬ (1 : Int32) = 0 by decide), if_neg (by rw [l_tx' HV]; omega)]
    obtain ⟨⟨v1, p1⟩, ⟨v2, p2⟩, e1, e2, e3, e4⟩ := hF
    dsimp only at e3 e4
    subst e3
    rw [e1, e2, b2_some, b2_some]
    rcases e4 with ⟨g1, g2⟩ | ⟨g1, q1, g2, g3, g4⟩
    · subst g1
      obtain ⟨f, rfl⟩ : ∃ g, f = g + 1 := ⟨f - 1, by omega⟩
      obtain ⟨f', rfl⟩ : ∃ g, f' = g + 1 := ⟨f' - 1, by omega⟩
      rw [l264_50, if_pos rfl, l23_43]
      by_cases z : Int32.ofNat len ≤ Int32.ofNat (t + 1)
      · rw [if_pos z]
        exact ⟨_, _, rfl, rfl, rfl, Or.inl ⟨rfl, g2⟩⟩
      · rw [if_neg z, if_pos rfl]
        exact ⟨_, _, rfl, rfl, rfl, Or.inl ⟨rfl, g2⟩⟩
    · subst g1
      exact ih (len - q1) (by omega) q1 (t + 1) f f' p1 p2 (by omega) g3 (by omega) (by omega) (by omega) g4
  · rw [l264_50, if_neg (show ¬ (1 : Int32) = 0 by decide), if_pos (by rw [l_tx' HV]; omega), l23_43]
    have fin : Q2 (some ((0 : Nat), (1 : Int32), c)) (some ((0 : Nat), (1 : Int32), r)) (fun p q' => p.2.1 = q'.2.1 ∧ ((p.2.1 = 0 ∧ FL k0 c0 r0 p.2.2 q'.2.2) ∨ (p.2.1 = 1 ∧ ∃ q1, q1 ≤ len + 2 ∧ DR k0 len q1 c0 r0 p.2.2 q'.2.2))) := ⟨_, _, rfl, rfl, rfl, Or.inr ⟨rfl, q, h2, H⟩⟩
    by_cases z : Int32.ofNat len ≤ Int32.ofNat t
    · rw [if_pos z]; exact fin
    · rw [if_neg z, if_neg (show ¬ (1 : Int32) = 0 by decide), if_pos (by rw [l_tx HV]; omega)]; exact fin
end T
