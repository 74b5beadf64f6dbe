/-! Small functions, said plainly. -/
noncomputable def zb (p : Prop) : Int32 := @ite Int32 p (Classical.propDecidable p) 1 0
theorem zb_t {p : Prop} (h : p) : zb p = 1 := if_pos h
theorem zb_f {p : Prop} (h : ¬ p) : zb p = 0 := if_neg h
theorem zb_0 {p : Prop} : (zb p = 0) = ¬ p := by
  by_cases h : p
  · rw [zb_t h]; exact propext ⟨fun z => absurd z (by decide), fun z => absurd h z⟩
  · rw [zb_f h]; exact propext ⟨fun _ => h, fun _ => rfl⟩
theorem zb_1 {p : Prop} : (zb p = 1) = p := by
  by_cases h : p
  · rw [zb_t h]; exact propext ⟨fun _ => h, fun _ => rfl⟩
  · rw [zb_f h]; exact propext ⟨fun z => absurd z (by decide), fun z => absurd z h⟩
theorem zb_01 {p : Prop} : zb p = 0 ∨ zb p = 1 := by
  by_cases h : p
  · rw [zb_t h]; exact Or.inr rfl
  · rw [zb_f h]; exact Or.inl rfl
theorem zi10 {p : Prop} {d : Decidable p} : (@ite Int32 p d (1 : Int32) (0 : Int32)) = zb p := by
  by_cases h : p
  · rw [zb_t h, if_pos h]
  · rw [zb_f h, if_neg h]
theorem zi01 {p : Prop} {d : Decidable p} : (@ite Int32 p d (0 : Int32) (1 : Int32)) = zb (¬ p) := by
  by_cases h : p
  · rw [zb_f (fun z => z h), if_pos h]
  · rw [zb_t h, if_neg h]
theorem zg {p : Prop} {d : Decidable (zb p = 0 ∨ zb p = 1)} {β : Type} {k : Option β} : @xg β (zb p = 0 ∨ zb p = 1) d k = k := xg_pos zb_01
section L
variable {N h b : Nat} {a : xA} {x y : Int32}
theorem e_pr : f110_isPrintable N h b x a = some (zb (32 ≤ x ∧ x ≤ 126), a) := by
  unfold f110_isPrintable
  simp only [zi10, zi01, zg]
  grind [zb_t, zb_f]
theorem e_bl : f29_isBlank N h b x a = some (zb (x = 9 ∨ x = 32), a) := by
  unfold f29_isBlank j29_12
  simp only [zi10, zi01, zg]
  grind [zb_t, zb_f]
theorem e_bl' : f267_isBlank N h b x a = some (zb (x = 9 ∨ x = 32), a) := by
  unfold f267_isBlank j267_12
  simp only [zi10, zi01, zg]
  grind [zb_t, zb_f]
theorem e_ec : f183_isEchoedAsItself N h b x a = some (zb (x = 9 ∨ x = 10 ∨ 32 ≤ x ∧ x ≤ 126), a) := by
  unfold f183_isEchoedAsItself j183_19
  simp only [e_pr, b2_some, zi10, zi01, zg]
  simp only [zb_0, Decidable.not_not]
  grind [zb_t, zb_f]
theorem e_ec' : f371_isPlain N h b x a = some (zb (x = 9 ∨ x = 10 ∨ 32 ≤ x ∧ x ≤ 126), a) := by
  unfold f371_isPlain j371_24
  simp only [zi10, zi01, zg]
  grind [zb_t, zb_f]
theorem e_has : f162_has N h b x a = some (zb (¬ a 116 3 &&& x = 0), a) := by
  unfold f162_has
  simp only [zi10, zi01, zg]
theorem e_flag : f358_flag N h b x a = some (zb (¬ a 157 58 &&& x = 0), a) := by
  unfold f358_flag
  simp only [zi10, zi01, zg]
end L
/-! Numbers. -/
theorem by8 (x : Int32) : x.toInt8.toInt32 &&& 255 = x &&& 255 := by
  apply Int32.toBitVec_inj.mp
  apply BitVec.eq_of_getLsbD_eq
  intro i hi
  simp [BitVec.getLsbD_signExtend]
  by_cases h8 : i < 8
  · simp [h8, hi]
  · have : (255#32).getLsbD i = false := by
      have e : (255#32 : BitVec 32) = BitVec.ofNat 32 255 := rfl
      rw [BitVec.getLsbD_ofNat]
      have : Nat.testBit 255 i = false := Nat.testBit_lt_two_pow (by
        have : 2 ^ 8 ≤ 2 ^ i := Nat.pow_le_pow_right (by decide) (by omega)
        omega)
      simp [this]
    simp [this]
theorem by8n (x : Int32) : vp_nar .byte x.toInt8.toInt32 = x.toInt8.toInt32 := by
  unfold vp_nar narrow
  simp
theorem xk117 : xk 117 = 1 := rfl
theorem xk119 : xk 119 = 1 := rfl
theorem xk121 : xk 121 = 1 := rfl
theorem xk130 : xk 130 = 1 := rfl
theorem xk132 : xk 132 = 1 := rfl
