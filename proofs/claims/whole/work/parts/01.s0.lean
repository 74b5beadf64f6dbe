/-! Numbers. -/
theorem i_ofn {y : Int32} (h : 0 ≤ y) : Int32.ofNat y.toNatClampNeg = y := by
  apply Int32.toInt_inj.mp
  have h1 : y.toNatClampNeg = y.toInt.toNat := rfl
  have h2 := Int32.toInt_lt y
  have h3 := Int32.le_iff_toInt_le.mp h
  have e0 : (0 : Int32).toInt = 0 := rfl
  rw [h1, Int32.toInt_ofNat_of_lt (by omega)]
  omega
theorem i_nat {x : Int32} (hx : 0 ≤ x) : ∃ n : Nat, n < 2 ^ 31 ∧ x = Int32.ofNat n ∧ x.toNatClampNeg = n := ⟨x.toNatClampNeg, Int32.toNatClampNeg_lt x, (i_ofn hx).symm, rfl⟩
theorem i_le {m n : Nat} (hm : m < 2 ^ 31) (hn : n < 2 ^ 31) : (Int32.ofNat m ≤ Int32.ofNat n) = (m ≤ n) := propext (Int32.ofNat_le_iff_le hm hn)
theorem i_lt {m n : Nat} (hm : m < 2 ^ 31) (hn : n < 2 ^ 31) : (Int32.ofNat m < Int32.ofNat n) = (m < n) := propext (Int32.ofNat_lt_iff_lt hm hn)
theorem i_eq {m n : Nat} (hm : m < 2 ^ 31) (hn : n < 2 ^ 31) : (Int32.ofNat m = Int32.ofNat n) = (m = n) := propext ⟨fun e => by
  have := congrArg Int32.toNatClampNeg e
  rwa [Int32.toNatClampNeg_ofNat_of_lt hm, Int32.toNatClampNeg_ofNat_of_lt hn] at this, fun e => by rw [e]⟩
theorem i_cl {m : Nat} (hm : m < 2 ^ 31) : (Int32.ofNat m).toNatClampNeg = m := Int32.toNatClampNeg_ofNat_of_lt hm
theorem i_modn {m n : Nat} (hm : m < 2 ^ 31) (hn : n < 2 ^ 31) : Int32.ofNat m - Int32.ofNat m / Int32.ofNat n * Int32.ofNat n = Int32.ofNat (m % n) := by
  have e : m / n * n ≤ m := Nat.div_mul_le_self m n
  rw [← Int32.ofNat_div hm hn, ← Int32.ofNat_mul, ← Int32.ofNat_sub _ _ e]
  congr 1
  have := Nat.mod_add_div m n
  rw [Nat.mul_comm] at this
  omega
theorem i_neg {m : Nat} (hm : m < 2 ^ 31) : (Int32.ofNat m < 0) = False := by
  have e : (0 : Int32) = Int32.ofNat 0 := rfl
  rw [e, i_lt hm (by decide)]
  exact propext ⟨fun z => by omega, fun z => z.elim⟩
theorem i_cln {x : Int32} (h : 0 ≤ x) : (x.toNatClampNeg : Int) = x.toInt := by
  have h3 := Int32.le_iff_toInt_le.mp h
  have e0 : (0 : Int32).toInt = 0 := rfl
  have h1 : x.toNatClampNeg = x.toInt.toNat := rfl
  omega
/-- an index that lies in a row of so many -/
theorem i_ix {x : Int32} {n : Nat} (h0 : 0 ≤ x) (h1 : x.toInt < n) : ¬ (x < 0 ∨ n ≤ x.toNatClampNeg) := by
  have := i_cln h0
  rintro (q | q)
  · exact absurd h0 (Int32.not_le.mpr q)
  · omega
theorem i_mod {x m : Int32} (hx : 0 ≤ x) (hm : 0 < m) : 0 ≤ x - x / m * m ∧ x - x / m * m < m ∧ (x - x / m * m).toNatClampNeg = x.toNatClampNeg % m.toNatClampNeg := by
  obtain ⟨X, hX, eX, fX⟩ := i_nat hx
  obtain ⟨M, hM, eM, fM⟩ := i_nat (Int32.le_of_lt hm)
  have hM0 : 0 < M := by
    rw [eM] at hm
    have e : (0 : Int32) = Int32.ofNat 0 := rfl
    rw [e, i_lt (by decide) hM] at hm
    exact hm
  have hl : X % M < M := Nat.mod_lt _ hM0
  have e : (0 : Int32) = Int32.ofNat 0 := rfl
  rw [fX, fM, eX, eM, i_modn hX hM, i_cl (by omega), e, i_le (by decide) (by omega), i_lt (by omega) hM]
  exact ⟨by omega, hl, rfl⟩
theorem i_div {x m : Int32} (hx : 0 ≤ x) (hm : 0 < m) : x / m = Int32.ofNat (x.toNatClampNeg / m.toNatClampNeg) := by
  obtain ⟨X, hX, eX, fX⟩ := i_nat hx
  obtain ⟨M, hM, eM, fM⟩ := i_nat (Int32.le_of_lt hm)
  rw [fX, fM, Int32.ofNat_div hX hM, ← eX, ← eM]
theorem toI (x : Int32) : x.toInt = Lean.Grind.ToInt.toInt x := rfl
theorem toC (x : Int32) : x.toNatClampNeg = if 0 ≤ x then (Lean.Grind.ToInt.toInt x).toNat else 0 := by
  have h1 : x.toNatClampNeg = x.toInt.toNat := rfl
  have e0 : (0 : Int32).toInt = 0 := rfl
  split
  · next q => rw [Int32.le_iff_toInt_le] at q; show x.toNatClampNeg = x.toInt.toNat; omega
  · next q => rw [Int32.le_iff_toInt_le] at q; omega
theorem toD (x : Int32) : (x.toNatClampNeg : Int) = if 0 ≤ x then Lean.Grind.ToInt.toInt x else 0 := by
  have h1 : x.toNatClampNeg = x.toInt.toNat := rfl
  have e0 : (0 : Int32).toInt = 0 := rfl
  split
  · next q => rw [Int32.le_iff_toInt_le] at q; show (x.toNatClampNeg : Int) = x.toInt; omega
  · next q => rw [Int32.le_iff_toInt_le] at q; omega
theorem cl_add {x y : Int32} (hx : 0 ≤ x) (hy : 0 ≤ y) (hs : x.toNatClampNeg + y.toNatClampNeg < 2 ^ 31) : (x + y).toNatClampNeg = x.toNatClampNeg + y.toNatClampNeg := by
  obtain ⟨X, hX, eX, fX⟩ := i_nat hx
  obtain ⟨Y, hY, eY, fY⟩ := i_nat hy
  rw [fX, fY] at hs
  rw [fX, fY, eX, eY, ← Int32.ofNat_add, i_cl hs]
theorem cl_le {x y : Int32} {n : Nat} (h : x ≤ y) (e : y.toNatClampNeg = n) : x.toNatClampNeg ≤ n := e ▸ Int32.toNatClampNeg_le h
theorem cl_s {v k : Int32} (h0 : 0 ≤ v) (h1 : v < k) : (v + 1).toNatClampNeg = v.toNatClampNeg + 1 := by
  have h2 := Int32.toInt_lt k
  have h3 := i_cln h0
  have h4 := Int32.lt_iff_toInt_lt.mp h1
  have e1 : (1 : Int32).toNatClampNeg = 1 := rfl
  have := cl_add (x := v) (y := 1) h0 (by decide) (by rw [e1]; omega)
  rw [this, e1]
theorem cl_lt {x y : Int32} (h0 : 0 ≤ x) : (x < y) = (x.toNatClampNeg < y.toNatClampNeg) := by
  apply propext
  have h1 := i_cln h0
  rw [Int32.lt_iff_toInt_lt]
  have e0 : (0 : Int32).toInt = 0 := rfl
  have h2 := Int32.le_iff_toInt_le.mp h0
  have h3 : y.toNatClampNeg = y.toInt.toNat := rfl
  omega
theorem cl_lel {x y : Int32} (h0 : 0 ≤ y) : (x ≤ y) = (x.toNatClampNeg ≤ y.toNatClampNeg) := by
  apply propext
  have h1 := i_cln h0
  rw [Int32.le_iff_toInt_le]
  have e0 : (0 : Int32).toInt = 0 := rfl
  have h2 := Int32.le_iff_toInt_le.mp h0
  have h3 : x.toNatClampNeg = x.toInt.toNat := rfl
  omega
theorem cl_eq {x y : Int32} (h0 : 0 ≤ x) (h1 : 0 ≤ y) (e : x.toNatClampNeg = y.toNatClampNeg) : x = y := by
  rw [← i_ofn h0, ← i_ofn h1, e]
theorem cl_ltn {x y : Int32} {n : Nat} (h0 : 0 ≤ x) (h : x < y) (e : y.toNatClampNeg = n) : x.toNatClampNeg < n := by
  rw [cl_lt h0, e] at h
  exact h
theorem cl_ix {x y : Int32} {n : Nat} (h0 : 0 ≤ x) (h : x < y) (e : y.toNatClampNeg = n) : ¬ (x < 0 ∨ n ≤ x.toNatClampNeg) := by
  have := cl_ltn h0 h e
  rintro (q | q)
  · exact absurd h0 (Int32.not_le.mpr q)
  · omega
