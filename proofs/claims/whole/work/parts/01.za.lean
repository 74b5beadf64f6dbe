/-! The keyboard: the bytes of a key. -/
section T
variable {N h b : Nat} {c0 r0 c r c' r' : xA} {x y z s v : Int32}
theorem by_of (h0 : 0 ≤ x) (h1 : x ≤ 255) : By x := by
  obtain ⟨n, hn, e, _⟩ := i_nat h0
  subst e
  have hn2 : n ≤ 255 := by
    rw [show (255 : Int32) = Int32.ofNat 255 from rfl, i_le hn (by decide)] at h1
    exact h1
  show Int32.ofNat n &&& 255 = Int32.ofNat n
  apply Int32.toBitVec_inj.mp
  rw [Int32.toBitVec_and]
  apply BitVec.eq_of_toNat_eq
  rw [BitVec.toNat_and]
  show (BitVec.ofNat 32 n).toNat &&& 255 = (BitVec.ofNat 32 n).toNat
  rw [BitVec.toNat_ofNat, Nat.mod_eq_of_lt (by omega), show 255 = 2 ^ 8 - 1 from rfl, Nat.and_two_pow_sub_one_eq_mod]
  omega
theorem by_le (hx : By x) : 0 ≤ x ∧ x ≤ 255 := by
  have e : x = Int32.ofNat x.toBitVec.toNat := by
    apply Int32.toBitVec_inj.mp
    show x.toBitVec = BitVec.ofNat 32 x.toBitVec.toNat
    apply BitVec.eq_of_toNat_eq
    rw [BitVec.toNat_ofNat, Nat.mod_eq_of_lt x.toBitVec.isLt]
  have l : x.toBitVec.toNat < 256 := by
    have k := congrArg (fun v : Int32 => v.toBitVec.toNat) hx
    have k2 : (x &&& 255).toBitVec.toNat = x.toBitVec.toNat % 256 := by
      rw [Int32.toBitVec_and, BitVec.toNat_and]
      show x.toBitVec.toNat &&& 255 = _
      rw [show 255 = 2 ^ 8 - 1 from rfl, Nat.and_two_pow_sub_one_eq_mod]
    have k3 : (x &&& 255).toBitVec.toNat = x.toBitVec.toNat := k
    omega
  rw [e, show (0 : Int32) = Int32.ofNat 0 from rfl, show (255 : Int32) = Int32.ofNat 255 from rfl, i_le (by decide) (by omega), i_le (by omega) (by decide)]
  omega
theorem b2_id {m : Option (Int32 × xA)} : xb2 m (fun v a => some (v, a)) = m := by
  cases m <;> rfl
theorem k_three : ∃ a, f198_three N h b y z c = some (3, a) ∧ Cp 126 c a ([] ++ [27] ++ [y] ++ [z]) := ⟨_, rfl, Cp_s (Cp_s (Cp_s Cp_nil rfl) rfl) rfl⟩
theorem k_one : ∃ a, f199_one N h b y c = some (1, a) ∧ Cp 126 c a ([] ++ [y]) := ⟨_, rfl, Cp_s Cp_nil rfl⟩
theorem by3 (h1 : By y) (h2 : By z) : ∀ v, v ∈ ([] ++ [27] ++ [y] ++ [z] : List Int32) → By v := by
  intro v hv
  simp at hv
  rcases hv with e | e | e
  · rw [e]; decide
  · rw [e]; exact h1
  · rw [e]; exact h2
theorem by1 (h1 : By y) : ∀ v, v ∈ ([] ++ [y] : List Int32) → By v := by
  intro v hv
  simp at hv
  rw [hv]; exact h1
def kB (N h b : Nat) (x : Int32) (c r : xA) : Prop := ∃ L a' r', f196_bytesOf N h b x c = some (Int32.ofNat L.length, a') ∧ Cp 126 c a' L ∧ f379_struck N h b x r = j379_407 N h b r' ∧ Rp r r' L ∧ L.length ≤ 3 ∧ ∀ v, v ∈ L → By v
theorem kb_1 (h89 : r 157 89 = 0) (e1 : f196_bytesOf N h b x c = f199_one N h b y c) (e2 : f379_struck N h b x r = xb1 (f380_replies N h b y r) (fun a => j379_407 N h b a)) (hy : By y) : kB N h b x c r := by
  obtain ⟨a, k1, k2⟩ := k_one (N := N) (h := h) (b := b) (y := y) (c := c)
  obtain ⟨r1, k3, k4⟩ := e_rep (N := N) (h := h) (b := b) (x := y) (Rp_nil h89) (by decide)
  exact ⟨_, a, r1, by rw [e1, k1]; rfl, k2, by rw [e2, k3, b1_some], k4, by simp, by1 hy⟩
theorem kb_3 (h89 : r 157 89 = 0) (e1 : f196_bytesOf N h b x c = f198_three N h b y z c) (e2 : ∀ r1, r1 157 98 = r 157 98 → f380_replies N h b 27 r = some r1 → f379_struck N h b x r = xb1 (f380_replies N h b y r1) (fun a => xb1 (f380_replies N h b z a) (fun a => j379_407 N h b a))) (hy : By y) (hz : By z) : kB N h b x c r := by
  obtain ⟨a, k1, k2⟩ := k_three (N := N) (h := h) (b := b) (y := y) (z := z) (c := c)
  obtain ⟨r1, k3, k4⟩ := e_rep (N := N) (h := h) (b := b) (x := 27) (Rp_nil h89) (by decide)
  obtain ⟨r2, k5, k6⟩ := e_rep (N := N) (h := h) (b := b) (x := y) k4 (by decide)
  obtain ⟨r3, k7, k8⟩ := e_rep (N := N) (h := h) (b := b) (x := z) k6 (by simp)
  exact ⟨_, a, r3, by rw [e1, k1]; rfl, k2, by rw [e2 r1 (k4.2.1 98 (by decide)) k3, k5, b1_some, k7, b1_some], k8, by simp, by3 hy hz⟩
theorem by_c (h0 : 0 ≤ x) (h1 : x ≤ 126) : By (if x = 63 then (127 : Int32) else x) := by
  by_cases z : x = 63
  · rw [if_pos z]; decide
  · rw [if_neg z]; exact by_of h0 (by grind)
theorem pad13 (h0 : 8 ≤ x) (h1 : x < 21) : x = 8 ∨ x = 9 ∨ x = 10 ∨ x = 11 ∨ x = 12 ∨ x = 13 ∨ x = 14 ∨ x = 15 ∨ x = 16 ∨ x = 17 ∨ x = 18 ∨ x = 19 ∨ x = 20 := by grind
theorem k_bytes (h10 : c 136 10 = r 157 98) (h28 : c 124 28 = r 194 28) (h89 : r 157 89 = 0) (hx0 : 0 ≤ x) (hx1 : x ≤ 126) (hx2 : x ≤ 28 ∨ 32 ≤ x) (h27 : ¬ x = 27) : kB N h b x c r := by
  have eC : f196_bytesOf N h b x c = f196_bytesOf N h b x c := rfl
  have eR : f379_struck N h b x r = f379_struck N h b x r := rfl
  conv at eC => rhs; unfold f196_bytesOf; rw [e_gh, b2_some, h10]; simp only [b2_id]
  conv at eR => rhs; unfold f379_struck; rw [e_md, b2_some]
  by_cases z1 : x < 4
  · rw [if_neg (by grind), e_gh, b2_some, h10] at eC
    refine kb_3 h89 eC (fun r1 hr e => ?_) (by split <;> decide) (by_of (by grind) (by grind))
    rw [eR, if_neg (by grind), e, b1_some, if_neg (by grind), e_md, b2_some, hr]
    rfl
  rw [if_pos (by grind)] at eC
  by_cases z2 : x < 8
  · rw [if_neg (by grind)] at eC
    refine kb_3 h89 eC (fun r1 hr e => ?_) (by decide) (by_of (by grind) (by grind))
    rw [eR, if_neg (by grind), e, b1_some, if_pos (by grind)]
    unfold j379_34 j379_41
    rw [if_pos (by grind)]
  rw [if_pos (by grind)] at eC
  rw [if_pos (by grind)] at eR
  by_cases z3 : x < 21
  · rw [if_neg (by grind)] at eC
    rw [if_neg (by grind)] at eR
    unfold j379_174 at eR
    by_cases z4 : zb (¬ r 157 98 &&& 128 = 0) = 0
    · rw [if_pos z4] at eC eR
      rcases pad13 (by grind) z3 with e | e | e | e | e | e | e | e | e | e | e | e | e <;> subst e <;> exact kb_1 h89 (eC.trans rfl) (by rw [eR, if_pos z4]; rfl) (by decide)
    · rw [if_neg z4] at eC eR
      rcases pad13 (by grind) z3 with e | e | e | e | e | e | e | e | e | e | e | e | e <;> subst e <;> exact kb_3 h89 (eC.trans rfl) (fun r1 hr e => by rw [eR, e, b1_some, if_neg z4]; rfl) (by decide) (by decide)
  rw [if_pos (by grind)] at eC
  rw [if_pos (by grind)] at eR
  have ent : x = 21 ∨ x = 22 → f196_bytesOf N h b x c = j196_119 N h b x c → f379_struck N h b x r = j379_222 N h b x r → kB N h b x c r := by
    intro hx eC eR
    unfold j196_119 at eC
    unfold j379_222 j379_234 at eR
    rw [if_neg (by grind)] at eC
    have eR2 : f379_struck N h b x r = xb1 (f380_replies N h b 13 r) (fun a21 => xb2 (f363_mode N h b 2 a21) (fun r25 a26 => if r25 = 0 then (j379_407 N h b a26) else (xb1 (f380_replies N h b 10 a26) (fun a41 => j379_407 N h b a41)))) := by
      rcases hx with e | e
      · rw [eR, if_pos e]
      · rw [eR, if_neg (by grind), if_pos e]
    obtain ⟨r1, k3, k4⟩ := e_rep (N := N) (h := h) (b := b) (x := 13) (Rp_nil h89) (by decide)
    rw [k3, b1_some, e_md, b2_some, k4.2.1 98 (by decide)] at eR2
    have eC2 : f196_bytesOf N h b x c = some (1 + (if zb (¬ r 157 98 &&& 2 = 0) = 0 then 0 else 1), xU (xU c 126 1 10) 126 0 13) := by
      rw [eC]
      show xb2 (f197_has N h b 2 (xU (xU c 126 1 10) 126 0 13)) (fun r62 a63 => some (1 + (if r62 = 0 then (0 : Int32) else (1 : Int32)), a63)) = _
      rw [e_gh, b2_some, xU_o (by decide), xU_o (by decide), h10]
    by_cases z6 : zb (¬ r 157 98 &&& 2 = 0) = 0
    · rw [if_pos z6] at eC2 eR2
      refine ⟨_, _, r1, eC2.trans rfl, ⟨fun q hq => by rw [xU_o hq, xU_o hq], fun i hi => ?_⟩, eR2, k4, by decide, by1 (by decide)⟩
      have : i = 0 := by simp at hi; exact hi
      subst this
      rw [xU_e]; rfl
    · rw [if_neg z6] at eC2 eR2
      obtain ⟨r2, k5, k6⟩ := e_rep (N := N) (h := h) (b := b) (x := 10) k4 (by decide)
      rw [k5, b1_some] at eR2
      refine ⟨_, _, r2, eC2.trans rfl, ⟨fun q hq => by rw [xU_o hq, xU_o hq], fun i hi => ?_⟩, eR2, k6, by decide, fun v hv => ?_⟩
      · have : i = 0 ∨ i = 1 := by simp at hi; omega
        rcases this with e | e <;> subst e
        · rw [xU_e]; rfl
        · rw [xU_s (by decide), xU_e]; rfl
      · simp at hv
        rcases hv with e | e <;> rw [e] <;> decide
  by_cases z4 : x = 21
  · rw [if_pos z4] at eC eR
    by_cases z5 : zb (¬ r 157 98 &&& 128 = 0) = 0
    · rw [if_pos z5] at eC eR
      exact ent (Or.inl z4) eC eR
    · rw [if_neg z5] at eC eR
      exact kb_3 h89 eC (fun r1 hr e => by rw [eR, e, b1_some]) (by decide) (by decide)
  rw [if_neg z4] at eC eR
  by_cases z5 : x = 22
  · exact ent (Or.inr z5) eC eR
  unfold j196_119 j196_241 at eC
  unfold j379_222 at eR
  rw [if_pos (by grind)] at eC
  rw [if_neg z4, if_neg z5] at eR
  simp only [b2_id] at eC
  by_cases z6 : x = 23
  · rw [if_pos z6] at eC
    exact kb_1 h89 eC (by rw [eR, if_neg (by grind), if_pos z6]) (by decide)
  rw [if_neg z6] at eC
  by_cases z7 : x = 24
  · rw [if_pos z7] at eC
    exact kb_1 h89 eC (by rw [eR, if_neg (by grind), if_neg z6, if_pos z7]) (by decide)
  rw [if_neg z7] at eC
  by_cases z8 : x = 25
  · rw [if_pos z8] at eC
    exact kb_1 h89 eC (by rw [eR, if_neg (by grind), if_neg z6, if_neg z7, if_pos z8]) (by decide)
  rw [if_neg z8] at eC
  by_cases z9 : x = 26
  · rw [if_pos z9] at eC
    exact kb_1 h89 eC (by rw [eR, if_neg (by grind), if_neg z6, if_neg z7, if_neg z8]) (by decide)
  rw [if_neg z9] at eC
  rw [if_pos (by grind), if_neg h27] at eR
  by_cases y1 : x = 28
  · rw [if_pos y1] at eC
    rw [if_pos (by grind)] at eR
    exact ⟨[], c, r, eC, Cp_nil, eR, Rp_nil h89, by decide, fun v hv => absurd hv (by simp)⟩
  rw [if_neg y1] at eC
  rw [if_neg (by grind)] at eR
  unfold j379_348 j379_360 j379_364 j379_365 at eR
  by_cases y2 : c 124 28 = 0
  · rw [if_pos y2] at eC
    refine kb_1 h89 eC ?_ (by_of hx0 (by grind))
    rw [eR]
    simp only [← h28, if_pos y2]
    split
    · split <;> rfl
    · split
      · rfl
      · split <;> rfl
  · rw [if_neg y2] at eC
    unfold f200_controlled j200_12 j200_24 j200_29 at eC
    simp only [← h28, if_neg y2] at eR
    have a31 : By (x &&& 31) := by
      show x &&& 31 &&& 255 = x &&& 31
      rw [Int32.and_assoc]; rfl
    by_cases y3 : x < 64
    · rw [if_pos y3] at eR eC
      rw [if_pos (by grind)] at eR eC
      exact kb_1 h89 eC (by rw [eR]; rfl) (by_c hx0 hx1)
    rw [if_neg y3] at eR eC
    by_cases y4 : x ≤ 95
    · rw [if_pos y4] at eR eC
      exact kb_1 h89 eC (by rw [eR]; rfl) a31
    rw [if_neg y4] at eR eC
    by_cases y5 : x < 97
    · rw [if_pos y5] at eR eC
      exact kb_1 h89 eC (by rw [eR]; rfl) (by_c hx0 hx1)
    rw [if_neg y5] at eR eC
    by_cases y6 : 122 < x
    · rw [if_pos y6] at eC
      exact kb_1 h89 eC (by rw [eR, if_pos y6]; rfl) (by_c hx0 hx1)
    rw [if_neg y6] at eC
    exact kb_1 h89 eC (by rw [eR, if_neg y6]; rfl) a31
end T
