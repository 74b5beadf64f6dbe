/-! The dimensions that the constructors take. -/
theorem am_ofn {y : Int32} (h : 0 ≤ y.toInt) : Int32.ofNat y.toNatClampNeg = y := by
  apply Int32.toInt_inj.mp
  have h1 : y.toNatClampNeg = y.toInt.toNat := rfl
  have h2 := Int32.toInt_lt y
  rw [h1, Int32.toInt_ofNat_of_lt (by omega)]
  omega
theorem am_near_in {x lo hi : Int32} (h : lo.toInt ≤ hi.toInt) : lo.toInt ≤ (am_near x lo hi).toInt ∧ (am_near x lo hi).toInt ≤ hi.toInt := by
  unfold am_near
  by_cases c1 : x < lo
  · rw [if_pos c1]; omega
  · rw [if_neg c1]
    have d1 : ¬ x.toInt < lo.toInt := fun q => c1 (Int32.lt_iff_toInt_lt.mpr q)
    by_cases c2 : hi < x
    · rw [if_pos c2]; omega
    · rw [if_neg c2]
      have d2 : ¬ hi.toInt < x.toInt := fun q => c2 (Int32.lt_iff_toInt_lt.mpr q)
      omega
theorem am_mm {x lo hi : Int32} (h : lo.toInt ≤ hi.toInt) : (if lo < (if x < hi then x else hi) then (if x < hi then x else hi) else lo) = am_near x lo hi := by
  unfold am_near
  apply Int32.toInt_inj.mp
  by_cases c1 : x < lo
  · have d1 := Int32.lt_iff_toInt_lt.mp c1
    have c2 : x < hi := Int32.lt_iff_toInt_lt.mpr (by omega)
    have c3 : ¬ lo < x := fun q => by
      have := Int32.lt_iff_toInt_lt.mp q
      omega
    rw [if_pos c1, if_pos c2, if_neg c3]
  · have d1 : ¬ x.toInt < lo.toInt := fun q => c1 (Int32.lt_iff_toInt_lt.mpr q)
    rw [if_neg c1]
    by_cases c2 : x < hi
    · have d2 := Int32.lt_iff_toInt_lt.mp c2
      have c4 : ¬ hi < x := fun q => by
        have := Int32.lt_iff_toInt_lt.mp q
        omega
      rw [if_pos c2, if_neg c4]
      by_cases c3 : lo < x
      · rw [if_pos c3]
      · rw [if_neg c3]
        have d3 : ¬ lo.toInt < x.toInt := fun q => c3 (Int32.lt_iff_toInt_lt.mpr q)
        omega
    · have d2 : ¬ x.toInt < hi.toInt := fun q => c2 (Int32.lt_iff_toInt_lt.mpr q)
      rw [if_neg c2]
      by_cases c5 : hi < x
      · rw [if_pos c5]
        by_cases c3 : lo < hi
        · rw [if_pos c3]
        · rw [if_neg c3]
          have d3 : ¬ lo.toInt < hi.toInt := fun q => c3 (Int32.lt_iff_toInt_lt.mpr q)
          omega
      · rw [if_neg c5]
        have d5 : ¬ hi.toInt < x.toInt := fun q => c5 (Int32.lt_iff_toInt_lt.mpr q)
        by_cases c3 : lo < hi
        · rw [if_pos c3]; omega
        · rw [if_neg c3]
          have d3 : ¬ lo.toInt < hi.toInt := fun q => c3 (Int32.lt_iff_toInt_lt.mpr q)
          omega
theorem am_even : ∀ q : Nat, q < 81 → Int32.ofNat q / 2 * 2 = Int32.ofNat (q / 2 * 2) := by decide +kernel
theorem am_high : ∀ h : Nat, h < 25 → 4 ≤ h → (am_near (Int32.ofNat h) 1 24 = Int32.ofNat h ∧ ¬ Int32.ofNat h < 0 ∧ (Int32.ofNat h).toNatClampNeg = h ∧ Nat.ble (h * 8) 536870912 = true) ∧ am_near 0 0 (Int32.ofNat h - 1) = 0 ∧ ¬ ((0 : Int32) < 0 ∨ h ≤ (0 : Int32).toNatClampNeg) := by decide +kernel
theorem am_wide : ∀ b : Nat, b < 81 → 16 ≤ b → (am_near (Int32.ofNat b) 2 80 = Int32.ofNat b ∧ ¬ Int32.ofNat b < 0 ∧ (Int32.ofNat b).toNatClampNeg = b ∧ Nat.ble (b * 8) 536870912 = true) ∧ am_near 0 0 (Int32.ofNat b - 1) = 0 := by decide +kernel
theorem am_both : ∀ h : Nat, h < 25 → ∀ b : Nat, b < 81 → ¬ Int32.ofNat h * Int32.ofNat b < 0 ∧ (Int32.ofNat h * Int32.ofNat b).toNatClampNeg = h * b ∧ Nat.ble (h * b * 8) 536870912 = true := by decide +kernel
/-- the dimensions, and all that the constructors' rows want of them -/
theorem am_dims (x1 x2 x3 : Int32) : ∃ (h b : Nat) (w2 v3 : Int32), (4 ≤ h ∧ h ≤ 24 ∧ 16 ≤ b ∧ b ≤ 80 ∧ b % 2 = 0 ∧ 1 ≤ v3.toInt ∧ v3.toInt ≤ 16) ∧ (am_near x1 4 24 = Int32.ofNat h ∧ am_near x2 16 80 = w2 ∧ w2 / 2 * 2 = Int32.ofNat b ∧ am_near x3 1 16 = v3) ∧
    (if (4 : Int32) < (if x1 < (24 : Int32) then x1 else (24 : Int32)) then (if x1 < (24 : Int32) then x1 else (24 : Int32)) else (4 : Int32)) = Int32.ofNat h ∧
    (if (16 : Int32) < (if x2 < (80 : Int32) then x2 else (80 : Int32)) then (if x2 < (80 : Int32) then x2 else (80 : Int32)) else (16 : Int32)) / 2 * 2 = Int32.ofNat b ∧
    (if (1 : Int32) < (if x3 < (16 : Int32) then x3 else (16 : Int32)) then (if x3 < (16 : Int32) then x3 else (16 : Int32)) else (1 : Int32)) = v3 := by
  have a1 : (4 : Int32).toInt = 4 := by decide
  have a2 : (24 : Int32).toInt = 24 := by decide
  have a3 : (16 : Int32).toInt = 16 := by decide
  have a4 : (80 : Int32).toInt = 80 := by decide
  have a5 : (1 : Int32).toInt = 1 := by decide
  have n1 := am_near_in (x := x1) (lo := 4) (hi := 24) (by omega)
  have n2 := am_near_in (x := x2) (lo := 16) (hi := 80) (by omega)
  have n3 := am_near_in (x := x3) (lo := 1) (hi := 16) (by omega)
  have t1 : (am_near x1 4 24).toNatClampNeg = (am_near x1 4 24).toInt.toNat := rfl
  have t2 : (am_near x2 16 80).toNatClampNeg = (am_near x2 16 80).toInt.toNat := rfl
  have e1 : am_near x1 4 24 = Int32.ofNat (am_near x1 4 24).toNatClampNeg := (am_ofn (by omega)).symm
  have e2 : am_near x2 16 80 = Int32.ofNat (am_near x2 16 80).toNatClampNeg := (am_ofn (by omega)).symm
  have e3 : am_near x2 16 80 / 2 * 2 = Int32.ofNat ((am_near x2 16 80).toNatClampNeg / 2 * 2) := by
    rw [e2, am_even _ (by omega), ← e2]
  refine ⟨_, _, _, _, ⟨?_, ?_, ?_, ?_, ?_, ?_, ?_⟩, ⟨e1, rfl, e3, rfl⟩, ?_, ?_, am_mm (by omega)⟩
  · omega
  · omega
  · omega
  · omega
  · omega
  · omega
  · omega
  · rw [am_mm (by omega)]; exact e1
  · rw [am_mm (by omega)]; exact e3
