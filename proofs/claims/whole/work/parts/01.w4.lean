/-! rows, roll. -/
section W
variable {N h b : Nat} {c0 r0 c r : xA} {x y : Int32} {w T L H B Y X : Nat}
theorem ge_row {F y x B : Nat} (hx : x < B) : (F * B ≤ y * B + x) = (F ≤ y) := by
  apply propext
  constructor
  · intro q
    apply Nat.le_of_not_lt
    intro z
    have := mul_ub (x := x) (B := B) z hx
    omega
  · intro q
    have : F * B ≤ y * B := Nat.mul_le_mul_right B q
    omega
theorem lt_row {F y x B : Nat} (hx : x < B) : (y * B + x < F * B) = (y < F) := by
  have := ge_row (F := F) (y := y) hx
  apply propext
  constructor
  · intro q
    apply Nat.lt_of_not_le
    intro z
    rw [← this] at z
    omega
  · intro q
    exact mul_ub q hx
theorem slR_rows {f : Nat → Int32} {F k y x : Nat} {v : Int32} (hF : F ≤ H) (hy : y < H) (hx : x < B) : slR f (F * B) ((H - F) * B) (k * B) v (y * B + x) = if F ≤ y then (if F + k ≤ y then f ((y - k) * B + x) else v) else f (y * B + x) := by
  unfold slR
  have e1 : F * B + (H - F) * B = H * B := by rw [← Nat.add_mul, show F + (H - F) = H by omega]
  have e2 : F * B + k * B = (F + k) * B := by rw [Nat.add_mul]
  simp only [e1, e2, ge_row hx, lt_row hx]
  by_cases z : F ≤ y
  · rw [if_pos ⟨z, hy⟩, if_pos z]
    by_cases z2 : F + k ≤ y
    · rw [if_neg (by omega), if_pos z2, Nat.sub_mul]
      have : k * B ≤ y * B := Nat.mul_le_mul_right B (by omega)
      congr 1
      omega
    · rw [if_pos (by omega), if_neg z2]
  · rw [if_neg (fun q => z q.1), if_neg z]
theorem slL_rows {f : Nat → Int32} {F k y x : Nat} {v : Int32} (hF : F ≤ H) (hy : y < H) (hx : x < B) : slL f (F * B) ((H - F) * B) (k * B) v (y * B + x) = if F ≤ y then (if y + k < H then f ((y + k) * B + x) else v) else f (y * B + x) := by
  unfold slL
  have e1 : F * B + (H - F) * B = H * B := by rw [← Nat.add_mul, show F + (H - F) = H by omega]
  have e2 : y * B + x + k * B = (y + k) * B + x := by rw [Nat.add_mul]; omega
  simp only [e1, e2, ge_row hx, lt_row hx]
  by_cases z : F ≤ y
  · rw [if_pos ⟨z, hy⟩, if_pos z]
  · rw [if_neg (fun q => z q.1), if_neg z]
/-- slideRows of any window -/
theorem e_slr {o F : Nat} {s : Int32} (hk : xk o = 10) (hk2 : xk (o + 1) = 100) (hl : xl h b (o + 1) = 1920) (h4 : c o 4 = Int32.ofNat H) (h5 : c o 5 = Int32.ofNat B) (hH : H ≤ 24) (hB1 : 1 ≤ B) (hB : B ≤ 80) (hF : F < H) :
    f107_slideRows N h b o (Int32.ofNat F) s c = some (xW c (o + 1) (if 0 ≤ s then slR (c (o + 1)) (F * B) ((H - F) * B) (min s.toInt.natAbs H * B) 32 else slL (c (o + 1)) (F * B) ((H - F) * B) (min s.toInt.natAbs H * B) 32)) := by
  unfold f107_slideRows
  have hHB := hb_ub hH hB
  have e1 : F * B + (H - F) * B = H * B := by rw [← Nat.add_mul, show F + (H - F) = H by omega]
  have p1 : 0 < (H - F) * B := Nat.mul_pos (by omega) (by omega)
  have tH : (Int32.ofNat H).toInt = H := Int32.toInt_ofNat_of_lt (by omega)
  have tm : (-Int32.ofNat H).toInt = -(H : Int) := by rw [Int32.toInt_neg, tH, Int.bmod_eq_of_le (by omega) (by omega)]
  have t0 : (0 : Int32).toInt = 0 := rfl
  rw [xg_pos hk, h4]
  have ea : Int32.ofNat F * Int32.ofNat B = Int32.ofNat (F * B) := (Int32.ofNat_mul _ _).symm
  have eb : (Int32.ofNat H - Int32.ofNat F) * Int32.ofNat B = Int32.ofNat ((H - F) * B) := by rw [← Int32.ofNat_sub _ _ (by omega), Int32.ofNat_mul]
  by_cases z : 0 ≤ s
  · have z' := Int32.le_iff_toInt_le.mp z
    rw [t0] at z'
    have en : f10_nearest N h b s (-Int32.ofNat H) (Int32.ofNat H) c = some (Int32.ofNat (min s.toInt.natAbs H), c) := by
      unfold f10_nearest
      rw [if_pos (by rw [Int32.le_iff_toInt_le, tm]; omega)]
      by_cases z2 : s ≤ Int32.ofNat H
      · have z3 := Int32.le_iff_toInt_le.mp z2
        rw [tH] at z3
        rw [if_pos z2, Nat.min_eq_left (by omega)]
        congr 2
        exact (ofn_cl z (by have := i_cln z; omega)).symm
      · have z3 : ¬ s.toInt ≤ (H : Int) := fun q => z2 (by rw [Int32.le_iff_toInt_le, tH]; exact q)
        rw [if_neg z2, Nat.min_eq_right (by omega)]
    rw [en, b2_some, h4, h5, ea, eb, ← Int32.ofNat_mul]
    have hm : min s.toInt.natAbs H * B ≤ 1920 := Nat.le_trans (Nat.mul_le_mul_right B (Nat.min_le_right _ _)) hHB
    rw [e_slR hk2 hl p1 (by omega) (by decide) (by rw [show (0 : Int32) = Int32.ofNat 0 from rfl, i_le (by decide) (by omega)]; omega) (i_cl (by omega)), b1_some, if_pos z]
  · have z' : s.toInt < 0 := by
      have := Int32.lt_iff_toInt_lt.mp (Int32.not_le.mp z)
      rw [t0] at this
      exact this
    have en : ∃ q : Int32, f10_nearest N h b s (-Int32.ofNat H) (Int32.ofNat H) c = some (q, c) ∧ q.toInt = -((min s.toInt.natAbs H : Nat) : Int) := by
      unfold f10_nearest
      by_cases z2 : -Int32.ofNat H ≤ s
      · have z3 := Int32.le_iff_toInt_le.mp z2
        rw [tm] at z3
        refine ⟨s, ?_, ?_⟩
        · rw [if_pos z2, if_pos (by rw [Int32.le_iff_toInt_le, tH]; omega)]
        · rw [Nat.min_eq_left (by omega)]; omega
      · have z3 : ¬ -(H : Int) ≤ s.toInt := fun q => z2 (by rw [Int32.le_iff_toInt_le, tm]; exact q)
        refine ⟨-Int32.ofNat H, by rw [if_neg z2], ?_⟩
        rw [tm, Nat.min_eq_right (by omega)]
    obtain ⟨q, q1, q2⟩ := en
    have hm : min s.toInt.natAbs H * B ≤ 1920 := Nat.le_trans (Nat.mul_le_mul_right B (Nat.min_le_right _ _)) hHB
    have hq : q = -Int32.ofNat (min s.toInt.natAbs H) := by
      apply Int32.toInt_inj.mp
      have tk : (Int32.ofNat (min s.toInt.natAbs H)).toInt = (min s.toInt.natAbs H : Nat) := Int32.toInt_ofNat_of_lt (by omega)
      rw [Int32.toInt_neg, tk, q2, Int.bmod_eq_of_le (by omega) (by omega)]
    have hqB : q * Int32.ofNat B = -Int32.ofNat (min s.toInt.natAbs H * B) := by rw [hq, Int32.ofNat_mul]; grind
    have tq : (q * Int32.ofNat B).toInt = -((min s.toInt.natAbs H * B : Nat) : Int) := by
      have tk : (Int32.ofNat (min s.toInt.natAbs H * B)).toInt = (min s.toInt.natAbs H * B : Nat) := Int32.toInt_ofNat_of_lt (by omega)
      rw [hqB, Int32.toInt_neg, tk, Int.bmod_eq_of_le (by omega) (by omega)]
    have hp : 0 < min s.toInt.natAbs H * B := Nat.mul_pos (by omega) (by omega)
    rw [q1, b2_some, h4, h5, ea, eb, e_slL hk2 hl p1 (by omega) (by decide) (by rw [Int32.lt_iff_toInt_lt, tq, t0]; omega) tq, b1_some, if_neg z]
theorem e_mn (n : Int32) (K : Nat) (hK : K ≤ 1000) : (xminl (xabsl n.toInt64) (Int64.ofNat K)).toInt32 = Int32.ofNat (min n.toInt.natAbs K) := by
  have h1 := Int32.le_toInt n
  have h2 := Int32.toInt_lt n
  have e1 : n.toInt64.toInt = n.toInt := Int32.toInt_toInt64 n
  have e0 : (0 : Int64).toInt = 0 := rfl
  have ea : (xabsl n.toInt64).toInt = n.toInt.natAbs := by
    unfold xabsl
    by_cases z : 0 < n.toInt64
    · rw [if_pos z, e1]
      rw [Int64.lt_iff_toInt_lt, e1, e0] at z
      omega
    · rw [if_neg z, Int64.toInt_neg, e1, Int.bmod_eq_of_le (by omega) (by omega)]
      rw [Int64.lt_iff_toInt_lt, e1, e0] at z
      omega
  have eK : (Int64.ofNat K).toInt = K := Int64.toInt_ofNat_of_lt (by omega)
  have em : (xminl (xabsl n.toInt64) (Int64.ofNat K)).toInt = ((min n.toInt.natAbs K : Nat) : Int) := by
    unfold xminl
    by_cases z : Int64.ofNat K < xabsl n.toInt64
    · rw [if_pos z, eK]
      rw [Int64.lt_iff_toInt_lt, ea, eK] at z
      omega
    · rw [if_neg z, ea]
      rw [Int64.lt_iff_toInt_lt, ea, eK] at z
      omega
  apply Int32.toInt_inj.mp
  rw [Int64.toInt_toInt32, em, Int32.toInt_ofNat_of_lt (by omega), Int.bmod_eq_of_le (by omega) (by omega)]
/-- the class's open window -/
theorem e_ow {a : xA} (hw : w < 8) (ho : a (141 + 2 * w) 1 = 1) : f98_openWindow N h b (Int32.ofNat w) a = some (Int32.ofNat (141 + 2 * w), a) := by
  unfold f98_openWindow
  rw [if_neg (by rw [i_neg (by omega)]; exact fun q => q), if_neg (by rw [show (8 : Int32) = Int32.ofNat 8 from rfl, i_le (by decide) (by omega)]; omega), xg_pos (g_ix (by omega) (by decide)), i_cl (by omega), if_neg (by rw [ho]; decide)]
theorem e_own {a : xA} (ho : x < 0 ∨ 8 ≤ x ∨ a (141 + 2 * x.toNatClampNeg) 1 = 0) : f98_openWindow N h b x a = some (-1, a) := by
  unfold f98_openWindow
  by_cases z1 : x < 0
  · rw [if_pos z1]
  · by_cases z2 : 8 ≤ x
    · rw [if_neg z1, if_pos z2]
    · rw [if_neg z1, if_neg z2, xg_pos (cl_ix (n := 8) (Int32.not_lt.mp z1) (Int32.not_le.mp z2) rfl), if_pos ((ho.resolve_left z1).resolve_left z2)]
theorem e_is {a : xA} (hw : w < 8) (ho : a 172 w = 1) : f308_is N h b (Int32.ofNat w) a = some (1, a) := by
  unfold f308_is
  rw [if_neg (by rw [i_neg (by omega)]; exact fun q => q), if_neg (by rw [show (8 : Int32) = Int32.ofNat 8 from rfl, i_le (by decide) (by omega)]; omega), xg_pos (g_ix (by omega) (by decide)), i_cl (by omega), ho]
  rfl
theorem e_isn {a : xA} (ho : x < 0 ∨ 8 ≤ x ∨ a 172 x.toNatClampNeg = 0) : f308_is N h b x a = some (0, a) := by
  unfold f308_is
  by_cases z1 : x < 0
  · rw [if_pos z1]
  · by_cases z2 : 8 ≤ x
    · rw [if_neg z1, if_pos z2]
    · rw [if_neg z1, if_neg z2, xg_pos (cl_ix (n := 8) (Int32.not_lt.mp z1) (Int32.not_le.mp z2) rfl), (ho.resolve_left z1).resolve_left z2]
      rfl
end W
