/-! Blocks of the law, by rows. -/
section LB
variable {sL : Nat} {sx : Nat → Int32} {cs : Nat → Nat → Option Int32} {H : am_H} {k n : Nat} {st : List Value} {J : Int32}
def lb_l (J : Int32) : am_L := (4, .int J) :: [(3, .ref 196), (2, .ref 157), (1, .ref 0), (0, .retAddr 0)]
theorem lb_a0 {pc : Nat} (i0 : am_co 417 pc = some (.aload_n 0, .null, 0, 0, false, [])) : aX sL sx cs 417 pc (lb_l J) st H k n = aX sL sx cs 417 (pc + 1) (lb_l J) (.retAddr 0 :: st) H k n :=
  st_1 (u := (pc + 1, lb_l J, .retAddr 0 :: st, H, k, n)) i0 rfl (by with_unfolding_all rfl)
theorem lb_a1 {pc : Nat} (i0 : am_co 417 pc = some (.aload_n 1, .null, 0, 0, false, [])) : aX sL sx cs 417 pc (lb_l J) st H k n = aX sL sx cs 417 (pc + 1) (lb_l J) (.ref 0 :: st) H k n :=
  st_1 (u := (pc + 1, lb_l J, .ref 0 :: st, H, k, n)) i0 rfl (by with_unfolding_all rfl)
theorem lb_a2 {pc : Nat} (i0 : am_co 417 pc = some (.aload_n 2, .null, 0, 0, false, [])) : aX sL sx cs 417 pc (lb_l J) st H k n = aX sL sx cs 417 (pc + 1) (lb_l J) (.ref 157 :: st) H k n :=
  st_1 (u := (pc + 1, lb_l J, .ref 157 :: st, H, k, n)) i0 rfl (by with_unfolding_all rfl)
theorem lb_i4 {pc : Nat} (i0 : am_co 417 pc = some (.iload 4, .null, 0, 0, false, [])) : aX sL sx cs 417 pc (lb_l J) st H k n = aX sL sx cs 417 (pc + 2) (lb_l J) (.int J :: st) H k n :=
  st_1 (u := (pc + 2, lb_l J, .int J :: st, H, k, n)) i0 rfl (by with_unfolding_all rfl)
theorem lb_ic {pc : Nat} {x : Int} {d : Int32} (i0 : am_co 417 pc = some (.iconst x, .null, 0, 0, false, [])) (hd : Int32.ofInt x = d) : aX sL sx cs 417 pc (lb_l J) st H k n = aX sL sx cs 417 (pc + 1) (lb_l J) (.int d :: st) H k n := by
  subst hd
  exact st_1 (u := (pc + 1, lb_l J, .int (Int32.ofInt x) :: st, H, k, n)) i0 rfl rfl
theorem lb_ad {pc : Nat} {x y : Int32} (i0 : am_co 417 pc = some (.iadd, .null, 0, 0, false, [])) : aX sL sx cs 417 pc (lb_l J) (.int y :: .int x :: st) H k n = aX sL sx cs 417 (pc + 1) (lb_l J) (.int (x + y) :: st) H k n :=
  st_1 (u := (pc + 1, lb_l J, .int (x + y) :: st, H, k, n)) i0 rfl rfl
theorem lb_B {pc d : Nat} {x : Int} (i0 : am_co 417 pc = some (.aload_n 0, .null, 0, 0, false, [])) (i1 : am_co 417 (pc + 1) = some (.iload 4, .null, 0, 0, false, [])) (i2 : am_co 417 (pc + 3) = some (.iconst x, .null, 0, 0, false, [])) (hd : Int32.ofInt x = Int32.ofNat d) (i3 : am_co 417 (pc + 4) = some (.iadd, .null, 0, 0, false, [])) : aX sL sx cs 417 pc (lb_l J) st H k n = aX sL sx cs 417 (pc + 5) (lb_l J) (.int (J + Int32.ofNat d) :: .retAddr 0 :: st) H k n :=
  (lb_a0 i0).trans ((lb_i4 i1).trans ((lb_ic (d := Int32.ofNat d) (pc := pc + 3) i2 hd).trans (lb_ad (pc := pc + 4) i3)))
theorem lb_go {pc tgt : Nat} {off : Int} (i0 : am_co 417 pc = some (.goto off, .null, tgt, 0, false, [])) : aX sL sx cs 417 pc (lb_l J) st H k n = aX sL sx cs 417 tgt (lb_l J) st H k n :=
  st_1 (u := (tgt, lb_l J, st, H, k, n)) i0 rfl rfl
theorem lb_end : aX sL sx cs 417 1475 (lb_l J) [] H k n = aX sL sx cs 417 53 (lb_l (J + 6)) [] H k n := by
  refine (st_1 (u := (1478, lb_l (J + 6), [], H, k, n)) rfl rfl (by with_unfolding_all rfl)).trans ?_
  exact st_1 (pc := 1478) (I := (.goto (-1425), .null, 53, 0, false, [])) (u := (53, lb_l (J + 6), [], H, k, n)) rfl rfl rfl
end LB
theorem lw_gd {α : Type} (l : List α) (i : Nat) (d : α) (h : l.length ≤ i) : l.getD i d = d := by
  rw [List.getD_eq_getElem?_getD, List.getElem?_eq_none h]
  rfl
