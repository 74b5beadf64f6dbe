/-! p1: the cells behind both constructors. -/
def p1_Pm (v3 : Int32) (h b : Nat) (H : am_H) : Prop := ∃ Hc Hd : am_H, mi_1F v3 h b Hc Hd ∧ ∀ j : Nat, 157 ≤ j → j < 196 → H[j]? = Hd[j]?
def p1_D (v3 : Int32) (h b : Nat) : Prop := 4 ≤ h ∧ h ≤ 24 ∧ 16 ≤ b ∧ b ≤ 80
def p1_P (v3 : Int32) (h b : Nat) (H : am_H) : Prop := (∃ Ha Hb : am_H, ci_1F v3 h b Ha Hb ∧ ∀ j : Nat, j < 157 → H[j]? = Hb[j]?) ∧ p1_Pm v3 h b H
theorem p1_Pm.keep {v3 : Int32} {h b : Nat} {H H1 : am_H} (P : p1_Pm v3 h b H) (k : ∀ j : Nat, 157 ≤ j → j < 196 → H1[j]? = H[j]?) : p1_Pm v3 h b H1 := by
  obtain ⟨Hc, Hd, hD, q⟩ := P
  exact ⟨Hc, Hd, hD, fun j h1 h2 => (k j h1 h2).trans (q j h1 h2)⟩
theorem p1_lt {x y : Int32} {m n : Int} (hx : x.toInt = m) (hy : y.toInt = n) : x < y ↔ m < n := by rw [Int32.lt_iff_toInt_lt, hx, hy]
theorem p1_le {x y : Int32} {m n : Int} (hx : x.toInt = m) (hy : y.toInt = n) : x ≤ y ↔ m ≤ n := by rw [Int32.le_iff_toInt_le, hx, hy]
theorem p1_eq {x y : Int32} {m n : Int} (hx : x.toInt = m) (hy : y.toInt = n) : x = y ↔ m = n := by rw [← Int32.toInt_inj, hx, hy]
theorem p1_n {h : Nat} (hh : h ≤ 80) : (Int32.ofNat h).toInt = (h : Int) := Int32.toInt_ofNat_of_lt (by omega)
theorem p1_of {x : Int32} {h : Nat} (h0 : 0 ≤ x.toInt) (h1 : x.toInt < h) : ∃ i : Nat, i < h ∧ x = Int32.ofNat i ∧ x.toInt = (i : Int) := by
  refine ⟨x.toNatClampNeg, ?_, (am_ofn h0).symm, ?_⟩
  · have : (x.toNatClampNeg : Int) = x.toInt := by
      rw [← Int32.toNat_toInt]; omega
    omega
  · rw [← Int32.toNat_toInt]; omega
theorem p1_mul {i j w h : Nat} (hi : i < h) (hj : j < w) : i * w + j < h * w := by
  have h1 : (i + 1) * w ≤ h * w := Nat.mul_le_mul_right w hi
  have h2 : (i + 1) * w = i * w + w := Nat.succ_mul i w
  omega
/-- a place of a screen -/
theorem p1_ix {x y : Int32} {h b w : Nat} (hb : b ≤ w) (hh : h ≤ 24) (hw : w ≤ 80) (x0 : 0 ≤ x.toInt) (x1 : x.toInt < h) (y0 : 0 ≤ y.toInt) (y1 : y.toInt < b) : ∃ k : Nat, k < h * w ∧ x * Int32.ofNat w + y = Int32.ofNat k ∧ h * w < 2 ^ 31 := by
  obtain ⟨i, hi, ei, -⟩ := p1_of x0 x1
  obtain ⟨j, hj, ej, -⟩ := p1_of y0 y1
  refine ⟨i * w + j, p1_mul hi (by omega), by rw [ei, ej, ← Int32.ofNat_mul, ← Int32.ofNat_add], ?_⟩
  have h1 : h * w ≤ 24 * 80 := Nat.mul_le_mul hh hw
  omega
theorem p1_f32 {k m : Nat} {x : Int32} (e : x = Int32.ofNat k) (hk : k < m) (hm : m < 2 ^ 31) : am_fll (fun _ => 0) 0 m 32 x.toNatClampNeg = 32 := by
  rw [clamp_of e (by omega)]
  unfold am_fll
  rw [if_pos ⟨Nat.zero_le _, hk⟩]
theorem p1_stp {k m : Nat} {x : Int32} (e : x = Int32.ofNat k) (hk : k < m) (hm : m < 2 ^ 31) : am_stp (fun _ => 0) m x.toNatClampNeg = am_stv x := by
  rw [clamp_of e (by omega)]
  unfold am_stp
  rw [if_pos hk, ← e]

theorem p1_c0 {v3 : Int32} {h b : Nat} {H : am_H} (P : p1_P v3 h b H) : am_is H 0 (.inr (11, [.ref 1, .int 0, .ref 2, .int 0, .ref 3, .ref 93, .ref 97, .ref 115, .ref 116, .ref 129, .ref 123, .ref 127, .ref 128, .int v3, .null, .int 0])) := by
  obtain ⟨⟨Ha, Hb, hB, q⟩, -⟩ := P
  exact (q 0 (by decide)).trans hB.1.2.1

theorem p1_c1 {v3 : Int32} {h b : Nat} {H : am_H} (P : p1_P v3 h b H) : am_is H 1 (.inl (.int, (3000, .inl (fun _ => 0)))) := by
  obtain ⟨⟨Ha, Hb, hB, q⟩, -⟩ := P
  exact (q 1 (by decide)).trans hB.1.1

theorem p1_c2 {v3 : Int32} {h b : Nat} {H : am_H} (P : p1_P v3 h b H) : am_is H 2 (.inl (.int, (300, .inl (fun _ => 0)))) := by
  obtain ⟨⟨Ha, Hb, hB, q⟩, -⟩ := P
  exact (q 2 (by decide)).trans hB.1.2.2.1

theorem p1_c3 {v3 : Int32} {h b : Nat} {H : am_H} (P : p1_P v3 h b H) : am_is H 3 (.inr (7, [.ref 4, .int 0, .int 0, .int (-1), .ref 5, .int 0, .int 0, .int 0, .null, .ref 6, .ref 7, .int 0, .ref 8, .int 0])) := by
  obtain ⟨⟨Ha, Hb, hB, q⟩, -⟩ := P
  exact (q 3 (by decide)).trans hB.1.2.2.2.1

theorem p1_c115 {v3 : Int32} {h b : Nat} {H : am_H} (P : p1_P v3 h b H) : am_is H 115 (.inl ((.object "TerminalHouse$Window"), (8, .inr (.inr (.inr (.inr (am_lg [some 141, some 143, some 145, some 147, some 149, some 151, some 153, some 155]))))))) := by
  obtain ⟨⟨Ha, Hb, hB, q⟩, -⟩ := P
  exact (q 115 (by decide)).trans hB.1.2.2.2.2.2.2.2.2.2.2.2.2.2.2.2.2.2.2.2.2.2.2.2.2.2.2.2.2.2.2.2.2.2.2.2.2.2.2.2.2.2.2.2.2.2.2.2.2.2.2.2.2.2.2.2.2.2.2.2.2.2.2.2.2.2.2.2.2.2.2.2.2.2.2.2.2.2.2.2.2.2.2.2.2.2.2.2.2.2.2.2.2.2.2.2.2.2.2.2.2.2.2.2.2.2.2.2.2.2.2.2.2.2.2.2.1

theorem p1_c116 {v3 : Int32} {h b : Nat} {H : am_H} (P : p1_P v3 h b H) : am_is H 116 (.inr (1, [.ref 117, .ref 119, .ref 121, .int 127, .int 0, .int 0, .int 0, .int 0, .int 0, .int 0])) := by
  obtain ⟨⟨Ha, Hb, hB, q⟩, -⟩ := P
  exact (q 116 (by decide)).trans hB.1.2.2.2.2.2.2.2.2.2.2.2.2.2.2.2.2.2.2.2.2.2.2.2.2.2.2.2.2.2.2.2.2.2.2.2.2.2.2.2.2.2.2.2.2.2.2.2.2.2.2.2.2.2.2.2.2.2.2.2.2.2.2.2.2.2.2.2.2.2.2.2.2.2.2.2.2.2.2.2.2.2.2.2.2.2.2.2.2.2.2.2.2.2.2.2.2.2.2.2.2.2.2.2.2.2.2.2.2.2.2.2.2.2.2.2.2.1

theorem p1_c117 {v3 : Int32} {h b : Nat} {H : am_H} (P : p1_P v3 h b H) : am_is H 117 (.inr (0, [.ref 118, .int 0, .int 0])) := by
  obtain ⟨⟨Ha, Hb, hB, q⟩, -⟩ := P
  exact (q 117 (by decide)).trans hB.1.2.2.2.2.2.2.2.2.2.2.2.2.2.2.2.2.2.2.2.2.2.2.2.2.2.2.2.2.2.2.2.2.2.2.2.2.2.2.2.2.2.2.2.2.2.2.2.2.2.2.2.2.2.2.2.2.2.2.2.2.2.2.2.2.2.2.2.2.2.2.2.2.2.2.2.2.2.2.2.2.2.2.2.2.2.2.2.2.2.2.2.2.2.2.2.2.2.2.2.2.2.2.2.2.2.2.2.2.2.2.2.2.2.2.2.2.2.1

theorem p1_c119 {v3 : Int32} {h b : Nat} {H : am_H} (P : p1_P v3 h b H) : am_is H 119 (.inr (0, [.ref 120, .int 0, .int 0])) := by
  obtain ⟨⟨Ha, Hb, hB, q⟩, -⟩ := P
  exact (q 119 (by decide)).trans hB.1.2.2.2.2.2.2.2.2.2.2.2.2.2.2.2.2.2.2.2.2.2.2.2.2.2.2.2.2.2.2.2.2.2.2.2.2.2.2.2.2.2.2.2.2.2.2.2.2.2.2.2.2.2.2.2.2.2.2.2.2.2.2.2.2.2.2.2.2.2.2.2.2.2.2.2.2.2.2.2.2.2.2.2.2.2.2.2.2.2.2.2.2.2.2.2.2.2.2.2.2.2.2.2.2.2.2.2.2.2.2.2.2.2.2.2.2.2.2.2.1

theorem p1_c121 {v3 : Int32} {h b : Nat} {H : am_H} (P : p1_P v3 h b H) : am_is H 121 (.inr (0, [.ref 122, .int 0, .int 0])) := by
  obtain ⟨⟨Ha, Hb, hB, q⟩, -⟩ := P
  exact (q 121 (by decide)).trans hB.1.2.2.2.2.2.2.2.2.2.2.2.2.2.2.2.2.2.2.2.2.2.2.2.2.2.2.2.2.2.2.2.2.2.2.2.2.2.2.2.2.2.2.2.2.2.2.2.2.2.2.2.2.2.2.2.2.2.2.2.2.2.2.2.2.2.2.2.2.2.2.2.2.2.2.2.2.2.2.2.2.2.2.2.2.2.2.2.2.2.2.2.2.2.2.2.2.2.2.2.2.2.2.2.2.2.2.2.2.2.2.2.2.2.2.2.2.2.2.2.2.2.1

theorem p1_c123 {v3 : Int32} {h b : Nat} {H : am_H} (P : p1_P v3 h b H) : am_is H 123 (.inr (4, [.ref 124, .ref 125, .int 0, .int (-1), .int 0, .ref 126])) := by
  obtain ⟨⟨Ha, Hb, hB, q⟩, -⟩ := P
  exact (q 123 (by decide)).trans hB.1.2.2.2.2.2.2.2.2.2.2.2.2.2.2.2.2.2.2.2.2.2.2.2.2.2.2.2.2.2.2.2.2.2.2.2.2.2.2.2.2.2.2.2.2.2.2.2.2.2.2.2.2.2.2.2.2.2.2.2.2.2.2.2.2.2.2.2.2.2.2.2.2.2.2.2.2.2.2.2.2.2.2.2.2.2.2.2.2.2.2.2.2.2.2.2.2.2.2.2.2.2.2.2.2.2.2.2.2.2.2.2.2.2.2.2.2.2.2.2.2.2.2.2.1

theorem p1_c124 {v3 : Int32} {h b : Nat} {H : am_H} (P : p1_P v3 h b H) : am_is H 124 (.inl (.boolean, (127, .inl (fun _ => 0)))) := by
  obtain ⟨⟨Ha, Hb, hB, q⟩, -⟩ := P
  exact (q 124 (by decide)).trans hB.1.2.2.2.2.2.2.2.2.2.2.2.2.2.2.2.2.2.2.2.2.2.2.2.2.2.2.2.2.2.2.2.2.2.2.2.2.2.2.2.2.2.2.2.2.2.2.2.2.2.2.2.2.2.2.2.2.2.2.2.2.2.2.2.2.2.2.2.2.2.2.2.2.2.2.2.2.2.2.2.2.2.2.2.2.2.2.2.2.2.2.2.2.2.2.2.2.2.2.2.2.2.2.2.2.2.2.2.2.2.2.2.2.2.2.2.2.2.2.2.2.2.2.2.2.1

theorem p1_c125 {v3 : Int32} {h b : Nat} {H : am_H} (P : p1_P v3 h b H) : am_is H 125 (.inl (.boolean, (127, .inl (fun _ => 0)))) := by
  obtain ⟨⟨Ha, Hb, hB, q⟩, -⟩ := P
  exact (q 125 (by decide)).trans hB.1.2.2.2.2.2.2.2.2.2.2.2.2.2.2.2.2.2.2.2.2.2.2.2.2.2.2.2.2.2.2.2.2.2.2.2.2.2.2.2.2.2.2.2.2.2.2.2.2.2.2.2.2.2.2.2.2.2.2.2.2.2.2.2.2.2.2.2.2.2.2.2.2.2.2.2.2.2.2.2.2.2.2.2.2.2.2.2.2.2.2.2.2.2.2.2.2.2.2.2.2.2.2.2.2.2.2.2.2.2.2.2.2.2.2.2.2.2.2.2.2.2.2.2.2.2.1

theorem p1_c127 {v3 : Int32} {h b : Nat} {H : am_H} (P : p1_P v3 h b H) : am_is H 127 (.inr (10, [.int (-1), .int 0, .int 0, .int 0])) := by
  obtain ⟨⟨Ha, Hb, hB, q⟩, -⟩ := P
  exact (q 127 (by decide)).trans hB.1.2.2.2.2.2.2.2.2.2.2.2.2.2.2.2.2.2.2.2.2.2.2.2.2.2.2.2.2.2.2.2.2.2.2.2.2.2.2.2.2.2.2.2.2.2.2.2.2.2.2.2.2.2.2.2.2.2.2.2.2.2.2.2.2.2.2.2.2.2.2.2.2.2.2.2.2.2.2.2.2.2.2.2.2.2.2.2.2.2.2.2.2.2.2.2.2.2.2.2.2.2.2.2.2.2.2.2.2.2.2.2.2.2.2.2.2.2.2.2.2.2.2.2.2.2.2.2.1

theorem p1_c128 {v3 : Int32} {h b : Nat} {H : am_H} (P : p1_P v3 h b H) : am_is H 128 (.inr (10, [.int (-1), .int 0, .int 0, .int 0])) := by
  obtain ⟨⟨Ha, Hb, hB, q⟩, -⟩ := P
  exact (q 128 (by decide)).trans hB.1.2.2.2.2.2.2.2.2.2.2.2.2.2.2.2.2.2.2.2.2.2.2.2.2.2.2.2.2.2.2.2.2.2.2.2.2.2.2.2.2.2.2.2.2.2.2.2.2.2.2.2.2.2.2.2.2.2.2.2.2.2.2.2.2.2.2.2.2.2.2.2.2.2.2.2.2.2.2.2.2.2.2.2.2.2.2.2.2.2.2.2.2.2.2.2.2.2.2.2.2.2.2.2.2.2.2.2.2.2.2.2.2.2.2.2.2.2.2.2.2.2.2.2.2.2.2.2.2.1

theorem p1_c129 {v3 : Int32} {h b : Nat} {H : am_H} (P : p1_P v3 h b H) : am_is H 129 (.inr (8, [.ref 136, .ref 130, .ref 132, .ref 134, .int 0, .int 0, .int 0, .int 0, .int 0, .int 0, .int 0, .ref 135, .int 0, .int 0, .int 0])) := by
  obtain ⟨⟨Ha, Hb, hB, q⟩, -⟩ := P
  exact (q 129 (by decide)).trans hB.1.2.2.2.2.2.2.2.2.2.2.2.2.2.2.2.2.2.2.2.2.2.2.2.2.2.2.2.2.2.2.2.2.2.2.2.2.2.2.2.2.2.2.2.2.2.2.2.2.2.2.2.2.2.2.2.2.2.2.2.2.2.2.2.2.2.2.2.2.2.2.2.2.2.2.2.2.2.2.2.2.2.2.2.2.2.2.2.2.2.2.2.2.2.2.2.2.2.2.2.2.2.2.2.2.2.2.2.2.2.2.2.2.2.2.2.2.2.2.2.2.2.2.2.2.2.2.2.2.2.1

theorem p1_c130 {v3 : Int32} {h b : Nat} {H : am_H} (P : p1_P v3 h b H) : am_is H 130 (.inr (0, [.ref 131, .int 0, .int 0])) := by
  obtain ⟨⟨Ha, Hb, hB, q⟩, -⟩ := P
  exact (q 130 (by decide)).trans hB.1.2.2.2.2.2.2.2.2.2.2.2.2.2.2.2.2.2.2.2.2.2.2.2.2.2.2.2.2.2.2.2.2.2.2.2.2.2.2.2.2.2.2.2.2.2.2.2.2.2.2.2.2.2.2.2.2.2.2.2.2.2.2.2.2.2.2.2.2.2.2.2.2.2.2.2.2.2.2.2.2.2.2.2.2.2.2.2.2.2.2.2.2.2.2.2.2.2.2.2.2.2.2.2.2.2.2.2.2.2.2.2.2.2.2.2.2.2.2.2.2.2.2.2.2.2.2.2.2.2.2.1

theorem p1_c132 {v3 : Int32} {h b : Nat} {H : am_H} (P : p1_P v3 h b H) : am_is H 132 (.inr (0, [.ref 133, .int 0, .int 0])) := by
  obtain ⟨⟨Ha, Hb, hB, q⟩, -⟩ := P
  exact (q 132 (by decide)).trans hB.1.2.2.2.2.2.2.2.2.2.2.2.2.2.2.2.2.2.2.2.2.2.2.2.2.2.2.2.2.2.2.2.2.2.2.2.2.2.2.2.2.2.2.2.2.2.2.2.2.2.2.2.2.2.2.2.2.2.2.2.2.2.2.2.2.2.2.2.2.2.2.2.2.2.2.2.2.2.2.2.2.2.2.2.2.2.2.2.2.2.2.2.2.2.2.2.2.2.2.2.2.2.2.2.2.2.2.2.2.2.2.2.2.2.2.2.2.2.2.2.2.2.2.2.2.2.2.2.2.2.2.2.2.1

theorem p1_c136 {v3 : Int32} {h b : Nat} {H : am_H} (P : p1_P v3 h b H) : am_is H 136 (.inr (3, [.int (Int32.ofNat h), .int (Int32.ofNat b), .ref 138, .ref 139, .ref 140, .int 0, .int 0, .int 0, .int 0, .int ((Int32.ofNat h) - 1), .int 96, .int 0, .int 0, .int 0, .int 0, .int 0, .int 0, .ref 137])) := by
  obtain ⟨⟨Ha, Hb, hB, q⟩, -⟩ := P
  exact (q 136 (by decide)).trans hB.1.2.2.2.2.2.2.2.2.2.2.2.2.2.2.2.2.2.2.2.2.2.2.2.2.2.2.2.2.2.2.2.2.2.2.2.2.2.2.2.2.2.2.2.2.2.2.2.2.2.2.2.2.2.2.2.2.2.2.2.2.2.2.2.2.2.2.2.2.2.2.2.2.2.2.2.2.2.2.2.2.2.2.2.2.2.2.2.2.2.2.2.2.2.2.2.2.2.2.2.2.2.2.2.2.2.2.2.2.2.2.2.2.2.2.2.2.2.2.2.2.2.2.2.2.2.2.2.2.2.2.2.2.2.2.2.2.1

theorem p1_c138 {v3 : Int32} {h b : Nat} {H : am_H} (P : p1_P v3 h b H) : am_is H 138 (.inl (.int, ((h * b), .inl (am_fll (fun _ => 0) 0 (h * b) 32)))) := by
  obtain ⟨⟨Ha, Hb, hB, q⟩, -⟩ := P
  exact (q 138 (by decide)).trans hB.1.2.2.2.2.2.2.2.2.2.2.2.2.2.2.2.2.2.2.2.2.2.2.2.2.2.2.2.2.2.2.2.2.2.2.2.2.2.2.2.2.2.2.2.2.2.2.2.2.2.2.2.2.2.2.2.2.2.2.2.2.2.2.2.2.2.2.2.2.2.2.2.2.2.2.2.2.2.2.2.2.2.2.2.2.2.2.2.2.2.2.2.2.2.2.2.2.2.2.2.2.2.2.2.2.2.2.2.2.2.2.2.2.2.2.2.2.2.2.2.2.2.2.2.2.2.2.2.2.2.2.2.2.2.2.2.2.2.2.1

theorem p1_c139 {v3 : Int32} {h b : Nat} {H : am_H} (P : p1_P v3 h b H) : am_is H 139 (.inl (.int, (h, .inl (fun _ => 0)))) := by
  obtain ⟨⟨Ha, Hb, hB, q⟩, -⟩ := P
  exact (q 139 (by decide)).trans hB.1.2.2.2.2.2.2.2.2.2.2.2.2.2.2.2.2.2.2.2.2.2.2.2.2.2.2.2.2.2.2.2.2.2.2.2.2.2.2.2.2.2.2.2.2.2.2.2.2.2.2.2.2.2.2.2.2.2.2.2.2.2.2.2.2.2.2.2.2.2.2.2.2.2.2.2.2.2.2.2.2.2.2.2.2.2.2.2.2.2.2.2.2.2.2.2.2.2.2.2.2.2.2.2.2.2.2.2.2.2.2.2.2.2.2.2.2.2.2.2.2.2.2.2.2.2.2.2.2.2.2.2.2.2.2.2.2.2.2.2.1

theorem p1_c140 {v3 : Int32} {h b : Nat} {H : am_H} (P : p1_P v3 h b H) : am_is H 140 (.inl (.boolean, (b, .inl (am_stp (fun _ => 0) b)))) := by
  obtain ⟨⟨Ha, Hb, hB, q⟩, -⟩ := P
  exact (q 140 (by decide)).trans hB.1.2.2.2.2.2.2.2.2.2.2.2.2.2.2.2.2.2.2.2.2.2.2.2.2.2.2.2.2.2.2.2.2.2.2.2.2.2.2.2.2.2.2.2.2.2.2.2.2.2.2.2.2.2.2.2.2.2.2.2.2.2.2.2.2.2.2.2.2.2.2.2.2.2.2.2.2.2.2.2.2.2.2.2.2.2.2.2.2.2.2.2.2.2.2.2.2.2.2.2.2.2.2.2.2.2.2.2.2.2.2.2.2.2.2.2.2.2.2.2.2.2.2.2.2.2.2.2.2.2.2.2.2.2.2.2.2.2.2.2.2.1

theorem p1_c141 {v3 : Int32} {h b : Nat} {H : am_H} (P : p1_P v3 h b H) : am_is H 141 (.inr (9, [.ref 142, .int 0, .int 0, .int 0, .int 0, .int 0, .int 0, .int 0, .int 0, .int 0])) := by
  obtain ⟨⟨Ha, Hb, hB, q⟩, -⟩ := P
  exact (q 141 (by decide)).trans hB.1.2.2.2.2.2.2.2.2.2.2.2.2.2.2.2.2.2.2.2.2.2.2.2.2.2.2.2.2.2.2.2.2.2.2.2.2.2.2.2.2.2.2.2.2.2.2.2.2.2.2.2.2.2.2.2.2.2.2.2.2.2.2.2.2.2.2.2.2.2.2.2.2.2.2.2.2.2.2.2.2.2.2.2.2.2.2.2.2.2.2.2.2.2.2.2.2.2.2.2.2.2.2.2.2.2.2.2.2.2.2.2.2.2.2.2.2.2.2.2.2.2.2.2.2.2.2.2.2.2.2.2.2.2.2.2.2.2.2.2.2.2.1

theorem p1_c143 {v3 : Int32} {h b : Nat} {H : am_H} (P : p1_P v3 h b H) : am_is H 143 (.inr (9, [.ref 144, .int 0, .int 0, .int 0, .int 0, .int 0, .int 0, .int 0, .int 0, .int 0])) := by
  obtain ⟨⟨Ha, Hb, hB, q⟩, -⟩ := P
  exact (q 143 (by decide)).trans hB.1.2.2.2.2.2.2.2.2.2.2.2.2.2.2.2.2.2.2.2.2.2.2.2.2.2.2.2.2.2.2.2.2.2.2.2.2.2.2.2.2.2.2.2.2.2.2.2.2.2.2.2.2.2.2.2.2.2.2.2.2.2.2.2.2.2.2.2.2.2.2.2.2.2.2.2.2.2.2.2.2.2.2.2.2.2.2.2.2.2.2.2.2.2.2.2.2.2.2.2.2.2.2.2.2.2.2.2.2.2.2.2.2.2.2.2.2.2.2.2.2.2.2.2.2.2.2.2.2.2.2.2.2.2.2.2.2.2.2.2.2.2.2.2.1

theorem p1_c145 {v3 : Int32} {h b : Nat} {H : am_H} (P : p1_P v3 h b H) : am_is H 145 (.inr (9, [.ref 146, .int 0, .int 0, .int 0, .int 0, .int 0, .int 0, .int 0, .int 0, .int 0])) := by
  obtain ⟨⟨Ha, Hb, hB, q⟩, -⟩ := P
  exact (q 145 (by decide)).trans hB.1.2.2.2.2.2.2.2.2.2.2.2.2.2.2.2.2.2.2.2.2.2.2.2.2.2.2.2.2.2.2.2.2.2.2.2.2.2.2.2.2.2.2.2.2.2.2.2.2.2.2.2.2.2.2.2.2.2.2.2.2.2.2.2.2.2.2.2.2.2.2.2.2.2.2.2.2.2.2.2.2.2.2.2.2.2.2.2.2.2.2.2.2.2.2.2.2.2.2.2.2.2.2.2.2.2.2.2.2.2.2.2.2.2.2.2.2.2.2.2.2.2.2.2.2.2.2.2.2.2.2.2.2.2.2.2.2.2.2.2.2.2.2.2.2.2.1

theorem p1_c147 {v3 : Int32} {h b : Nat} {H : am_H} (P : p1_P v3 h b H) : am_is H 147 (.inr (9, [.ref 148, .int 0, .int 0, .int 0, .int 0, .int 0, .int 0, .int 0, .int 0, .int 0])) := by
  obtain ⟨⟨Ha, Hb, hB, q⟩, -⟩ := P
  exact (q 147 (by decide)).trans hB.1.2.2.2.2.2.2.2.2.2.2.2.2.2.2.2.2.2.2.2.2.2.2.2.2.2.2.2.2.2.2.2.2.2.2.2.2.2.2.2.2.2.2.2.2.2.2.2.2.2.2.2.2.2.2.2.2.2.2.2.2.2.2.2.2.2.2.2.2.2.2.2.2.2.2.2.2.2.2.2.2.2.2.2.2.2.2.2.2.2.2.2.2.2.2.2.2.2.2.2.2.2.2.2.2.2.2.2.2.2.2.2.2.2.2.2.2.2.2.2.2.2.2.2.2.2.2.2.2.2.2.2.2.2.2.2.2.2.2.2.2.2.2.2.2.2.2.2.1

theorem p1_c149 {v3 : Int32} {h b : Nat} {H : am_H} (P : p1_P v3 h b H) : am_is H 149 (.inr (9, [.ref 150, .int 0, .int 0, .int 0, .int 0, .int 0, .int 0, .int 0, .int 0, .int 0])) := by
  obtain ⟨⟨Ha, Hb, hB, q⟩, -⟩ := P
  exact (q 149 (by decide)).trans hB.1.2.2.2.2.2.2.2.2.2.2.2.2.2.2.2.2.2.2.2.2.2.2.2.2.2.2.2.2.2.2.2.2.2.2.2.2.2.2.2.2.2.2.2.2.2.2.2.2.2.2.2.2.2.2.2.2.2.2.2.2.2.2.2.2.2.2.2.2.2.2.2.2.2.2.2.2.2.2.2.2.2.2.2.2.2.2.2.2.2.2.2.2.2.2.2.2.2.2.2.2.2.2.2.2.2.2.2.2.2.2.2.2.2.2.2.2.2.2.2.2.2.2.2.2.2.2.2.2.2.2.2.2.2.2.2.2.2.2.2.2.2.2.2.2.2.2.2.2.2.1

theorem p1_c151 {v3 : Int32} {h b : Nat} {H : am_H} (P : p1_P v3 h b H) : am_is H 151 (.inr (9, [.ref 152, .int 0, .int 0, .int 0, .int 0, .int 0, .int 0, .int 0, .int 0, .int 0])) := by
  obtain ⟨⟨Ha, Hb, hB, q⟩, -⟩ := P
  exact (q 151 (by decide)).trans hB.1.2.2.2.2.2.2.2.2.2.2.2.2.2.2.2.2.2.2.2.2.2.2.2.2.2.2.2.2.2.2.2.2.2.2.2.2.2.2.2.2.2.2.2.2.2.2.2.2.2.2.2.2.2.2.2.2.2.2.2.2.2.2.2.2.2.2.2.2.2.2.2.2.2.2.2.2.2.2.2.2.2.2.2.2.2.2.2.2.2.2.2.2.2.2.2.2.2.2.2.2.2.2.2.2.2.2.2.2.2.2.2.2.2.2.2.2.2.2.2.2.2.2.2.2.2.2.2.2.2.2.2.2.2.2.2.2.2.2.2.2.2.2.2.2.2.2.2.2.2.2.2.1

theorem p1_c153 {v3 : Int32} {h b : Nat} {H : am_H} (P : p1_P v3 h b H) : am_is H 153 (.inr (9, [.ref 154, .int 0, .int 0, .int 0, .int 0, .int 0, .int 0, .int 0, .int 0, .int 0])) := by
  obtain ⟨⟨Ha, Hb, hB, q⟩, -⟩ := P
  exact (q 153 (by decide)).trans hB.1.2.2.2.2.2.2.2.2.2.2.2.2.2.2.2.2.2.2.2.2.2.2.2.2.2.2.2.2.2.2.2.2.2.2.2.2.2.2.2.2.2.2.2.2.2.2.2.2.2.2.2.2.2.2.2.2.2.2.2.2.2.2.2.2.2.2.2.2.2.2.2.2.2.2.2.2.2.2.2.2.2.2.2.2.2.2.2.2.2.2.2.2.2.2.2.2.2.2.2.2.2.2.2.2.2.2.2.2.2.2.2.2.2.2.2.2.2.2.2.2.2.2.2.2.2.2.2.2.2.2.2.2.2.2.2.2.2.2.2.2.2.2.2.2.2.2.2.2.2.2.2.2.2.1

theorem p1_c155 {v3 : Int32} {h b : Nat} {H : am_H} (P : p1_P v3 h b H) : am_is H 155 (.inr (9, [.ref 156, .int 0, .int 0, .int 0, .int 0, .int 0, .int 0, .int 0, .int 0, .int 0])) := by
  obtain ⟨⟨Ha, Hb, hB, q⟩, -⟩ := P
  exact (q 155 (by decide)).trans hB.1.2.2.2.2.2.2.2.2.2.2.2.2.2.2.2.2.2.2.2.2.2.2.2.2.2.2.2.2.2.2.2.2.2.2.2.2.2.2.2.2.2.2.2.2.2.2.2.2.2.2.2.2.2.2.2.2.2.2.2.2.2.2.2.2.2.2.2.2.2.2.2.2.2.2.2.2.2.2.2.2.2.2.2.2.2.2.2.2.2.2.2.2.2.2.2.2.2.2.2.2.2.2.2.2.2.2.2.2.2.2.2.2.2.2.2.2.2.2.2.2.2.2.2.2.2.2.2.2.2.2.2.2.2.2.2.2.2.2.2.2.2.2.2.2.2.2.2.2.2.2.2.2.2.2.2.1

theorem p1_c157 {v3 : Int32} {h b : Nat} {H : am_H} (P : p1_Pm v3 h b H) : am_is H 157 (.inr (12, [.int 0, .ref 158, .int 0, .ref 159, .int 0, .int 0, .ref 160, .ref 161, .ref 162, .ref 163, .ref 164, .ref 165, .ref 166, .int 0, .int (-1), .int 0, .int 0, .int 0, .ref 167, .int 0, .int 0, .int (-1), .ref 168, .int 0, .ref 169, .int 0, .int 0, .int 0, .ref 170, .ref 171, .int 0, .int 0, .int (-1), .int (-1), .int 0, .int 0, .int 0, .ref 172, .ref 173, .ref 174, .ref 175, .ref 176, .ref 177, .ref 178, .ref 179, .ref 180, .ref 181, .ref 182, .ref 183, .int 0, .int 0, .int 0, .int 0, .int 0, .ref 184, .int 0, .int 0, .int 0, .int 127, .int 0, .int 0, .int 0, .int 0, .int 0, .ref 185, .int 0, .ref 186, .int 0, .int (Int32.ofNat h), .int (Int32.ofNat b), .int v3, .int 0, .int 0, .int 0, .int (-1), .int (-1), .int 0, .int 0, .ref 187, .int 0, .int 0, .int 0, .int 0, .int 0, .int 0, .int 0, .ref 188, .int 0, .ref 189, .int 0, .ref 190, .ref 191, .ref 192, .int 0, .int 0, .int 0, .int ((Int32.ofNat h) - 1), .int 0, .int 96, .int 0, .int 0, .int 0, .int 0, .int 0, .int 0, .int 0, .int 0, .int 0, .int 0, .int 0, .int 0, .int 0, .int 0, .int 0, .ref 193, .int 0, .int 0, .int 0, .ref 194, .ref 195, .int (-1), .int 0])) := by
  obtain ⟨Hc, Hd, hD, q⟩ := P
  exact (q 157 (by decide) (by decide)).trans hD.1.2.1

theorem p1_c158 {v3 : Int32} {h b : Nat} {H : am_H} (P : p1_Pm v3 h b H) : am_is H 158 (.inl (.byte, (3000, .inl (fun _ => 0)))) := by
  obtain ⟨Hc, Hd, hD, q⟩ := P
  exact (q 158 (by decide) (by decide)).trans hD.1.1

theorem p1_c172 {v3 : Int32} {h b : Nat} {H : am_H} (P : p1_Pm v3 h b H) : am_is H 172 (.inl (.boolean, (8, .inl (fun _ => 0)))) := by
  obtain ⟨Hc, Hd, hD, q⟩ := P
  exact (q 172 (by decide) (by decide)).trans hD.1.2.2.2.2.2.2.2.2.2.2.2.2.2.2.2.1

theorem p1_c190 {v3 : Int32} {h b : Nat} {H : am_H} (P : p1_Pm v3 h b H) : am_is H 190 (.inl (.int, (1920, .inl (am_fll (fun _ => 0) 0 1920 32)))) := by
  obtain ⟨Hc, Hd, hD, q⟩ := P
  exact (q 190 (by decide) (by decide)).trans hD.1.2.2.2.2.2.2.2.2.2.2.2.2.2.2.2.2.2.2.2.2.2.2.2.2.2.2.2.2.2.2.2.2.2.1

theorem p1_c191 {v3 : Int32} {h b : Nat} {H : am_H} (P : p1_Pm v3 h b H) : am_is H 191 (.inl (.int, (24, .inl (fun _ => 0)))) := by
  obtain ⟨Hc, Hd, hD, q⟩ := P
  exact (q 191 (by decide) (by decide)).trans hD.1.2.2.2.2.2.2.2.2.2.2.2.2.2.2.2.2.2.2.2.2.2.2.2.2.2.2.2.2.2.2.2.2.2.2.1

theorem p1_c192 {v3 : Int32} {h b : Nat} {H : am_H} (P : p1_Pm v3 h b H) : am_is H 192 (.inl (.boolean, (80, .inl (am_stp (fun _ => 0) 80)))) := by
  obtain ⟨Hc, Hd, hD, q⟩ := P
  exact (q 192 (by decide) (by decide)).trans hD.1.2.2.2.2.2.2.2.2.2.2.2.2.2.2.2.2.2.2.2.2.2.2.2.2.2.2.2.2.2.2.2.2.2.2.2.1

theorem p1_c194 {v3 : Int32} {h b : Nat} {H : am_H} (P : p1_Pm v3 h b H) : am_is H 194 (.inl (.boolean, (127, .inl (fun _ => 0)))) := by
  obtain ⟨Hc, Hd, hD, q⟩ := P
  exact (q 194 (by decide) (by decide)).trans hD.1.2.2.2.2.2.2.2.2.2.2.2.2.2.2.2.2.2.2.2.2.2.2.2.2.2.2.2.2.2.2.2.2.2.2.2.2.2.1

theorem p1_c195 {v3 : Int32} {h b : Nat} {H : am_H} (P : p1_Pm v3 h b H) : am_is H 195 (.inl (.boolean, (127, .inl (fun _ => 0)))) := by
  obtain ⟨Hc, Hd, hD, q⟩ := P
  exact (q 195 (by decide) (by decide)).trans hD.1.2.2.2.2.2.2.2.2.2.2.2.2.2.2.2.2.2.2.2.2.2.2.2.2.2.2.2.2.2.2.2.2.2.2.2.2.2.2.1
