/-! The law reads the script. -/
section CELL
variable {sL : Nat} {sx : Nat → Int32} {cs : Nat → Nat → Option Int32} {H : am_H}
def am_ce (sL : Nat) (sx : Nat → Int32) (j : Nat) : Int32 := if j < sL then sx j else 0
theorem st_ial0 {y pc : Nat} {ls : am_L} {st : List Value} {k n : Nat} {i : Int32} (hI : am_co y pc = some (.iaload, .null, 0, 0, false, [])) (hi : ¬ (i < 0 ∨ sL ≤ i.toNatClampNeg)) : aX sL sx cs y pc ls (.int i :: .retAddr 0 :: st) H k n = aX sL sx cs y (pc + 1) ls (.int (sx i.toNatClampNeg) :: st) H k n :=
  st_1 (u := (pc + 1, ls, .int (sx i.toNatClampNeg) :: st, H, k, n)) hI rfl (by
    show (if i < 0 ∨ sL ≤ i.toNatClampNeg then none else some (pc + 1, ls, Value.int (sx i.toNatClampNeg) :: st, H, k, n)) = _
    rw [if_neg hi])
theorem ce_ok {j : Nat} (hj : j < 2 ^ 31) (hL : sL < 2 ^ 31) : aX sL sx cs 258 0 [(0, .retAddr 0), (1, .int (Int32.ofNat j))] [] H 0 0 = some (some (.int (am_ce sL sx j)), H, 0, 0) := by
  refine (am_nb (m := 3) (pc1 := 3) (ls1 := [(0, .retAddr 0), (1, .int (Int32.ofNat j))]) (st1 := [.int (Int32.ofNat sL), .int (Int32.ofNat j)]) (H1 := H) (k1 := 0) (n1 := 0) (by with_unfolding_all rfl)).trans ?_
  refine (st_icmp rfl).trans ?_
  unfold am_ce
  by_cases c : j < sL
  · have hlt : ¬ Int32.ofNat sL ≤ Int32.ofNat j := fun h => by
      have := (Int32.ofNat_le_ofNat (by omega) (by omega)).mp h
      omega
    rw [if_pos c, show am_br ClassFile.Cond.ge (Int32.ofNat j) (Int32.ofNat sL) 12 6 = 6 from if_neg hlt]
    refine (am_nb (m := 2) (pc1 := 8) (ls1 := [(0, .retAddr 0), (1, .int (Int32.ofNat j))]) (st1 := [.int (Int32.ofNat j), .retAddr 0]) (H1 := H) (k1 := 0) (n1 := 0) (by with_unfolding_all rfl)).trans ?_
    refine (st_ial0 rfl (within rfl c hL)).trans ?_
    rw [clamp_of rfl hj]
    refine (am_nb (m := 1) (pc1 := 13) (ls1 := [(0, .retAddr 0), (1, .int (Int32.ofNat j))]) (st1 := [.int (sx j)]) (H1 := H) (k1 := 0) (n1 := 0) (by with_unfolding_all rfl)).trans ?_
    exact st_iret rfl rfl rfl
  · have hle : Int32.ofNat sL ≤ Int32.ofNat j := (Int32.ofNat_le_ofNat (by omega) (by omega)).mpr (by omega)
    rw [if_neg c, show am_br ClassFile.Cond.ge (Int32.ofNat j) (Int32.ofNat sL) 12 6 = 12 from if_pos hle]
    refine (am_nb (m := 1) (pc1 := 13) (ls1 := [(0, .retAddr 0), (1, .int (Int32.ofNat j))]) (st1 := [.int 0]) (H1 := H) (k1 := 0) (n1 := 0) (by with_unfolding_all rfl)).trans ?_
    exact st_iret rfl rfl rfl
end CELL
