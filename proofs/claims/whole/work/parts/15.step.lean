/-! Steps of a free run of the program, many at a time. -/
section STEP
variable {sL : Nat} {sx : Nat → Int32} {cs : Nat → Nat → Option Int32}
noncomputable def aX (sL : Nat) (sx : Nat → Int32) (cs : Nat → Nat → Option Int32) : Nat → Nat → am_L → List Value → am_H → Nat → Nat → Option am_A := am_X am_co am_mt am_ctb sL sx cs
/-- m simple instructions of method y -/
def am_nn (sL : Nat) (sx : Nat → Int32) (cs : Nat → Nat → Option Int32) (y : Nat) : Nat → Nat → am_L → List Value → am_H → Nat → Nat → Option am_T
  | 0, pc, ls, st, h, k, n => some (pc, ls, st, h, k, n)
  | m + 1, pc, ls, st, h, k, n => match am_co y pc with
    | none => none
    | some I => if am_kd I = 0 then (match am_s (10, 300, (am_mt y).2.2.1, am_ctb, sL, sx, cs) I pc ls st h k n with
      | none => none
      | some u => am_nn sL sx cs y m u.1 u.2.1 u.2.2.1 u.2.2.2.1 u.2.2.2.2.1 u.2.2.2.2.2) else none
theorem am_nn_ok {y : Nat} : ∀ {m pc : Nat} {ls : am_L} {st : List Value} {h : am_H} {k n : Nat} {u : am_T}, am_nn sL sx cs y m pc ls st h k n = some u → aX sL sx cs y pc ls st h k n = aX sL sx cs y u.1 u.2.1 u.2.2.1 u.2.2.2.1 u.2.2.2.2.1 u.2.2.2.2.2
  | 0, _, _, _, _, _, _, _, hu => by cases hu; rfl
  | m + 1, pc, ls, st, h, k, n, u, hu => by
    unfold am_nn at hu
    split at hu
    · cases hu
    · rename_i I hI
      split at hu
      · rename_i h0
        split at hu
        · cases hu
        · rename_i v hv
          have h1 : aX sL sx cs y pc ls st h k n = aX sL sx cs y v.1 v.2.1 v.2.2.1 v.2.2.2.1 v.2.2.2.2.1 v.2.2.2.2.2 := by
            unfold aX
            rw [am_X_eq]
            unfold am_1
            rw [hI]
            dsimp only
            rw [if_pos h0, hv]
            rfl
          rw [h1]
          exact am_nn_ok hu
      · cases hu
/-- a return -/
theorem am_rr {y pc : Nat} {ls : am_L} {st : List Value} {h : am_H} {k n : Nat} {I : am_I} (hI : am_co y pc = some I) (h0 : am_kd I = 1) : aX sL sx cs y pc ls st h k n = am_ret I.1 (am_mt y).2.2.2 st h k n := by
  unfold aX
  rw [am_X_eq]
  unfold am_1
  rw [hI]
  dsimp only
  rw [if_neg (by omega), if_pos h0]
/-- a call -/
theorem am_cc {y pc : Nat} {ls : am_L} {st : List Value} {h : am_H} {k n : Nat} {I : am_I} {as rest : List Value} {r : am_A} (hI : am_co y pc = some I) (h0 : am_kd I ≠ 0) (h1 : am_kd I ≠ 1) (hp : am_pop am_ctb (am_mt I.2.2.1).1.cls (am_kd I) I.2.2.2.1 st h = some (as, rest)) (hs : am_sum rest ≤ 8 ∧ am_sum as ≤ (am_mt I.2.2.1).2.2.1)
    (hr : aX sL sx cs I.2.2.1 0 (lv_args 0 as) [] h 0 0 = some r) : aX sL sx cs y pc ls st h k n = aX sL sx cs y (pc + 3) ls (r.1.toList ++ rest) r.2.1 (k + r.2.2.1) (n + r.2.2.2) := by
  have hr : am_X am_co am_mt am_ctb sL sx cs I.2.2.1 0 (lv_args 0 as) [] h 0 0 = some r := hr
  unfold aX
  rw [am_X_eq]
  unfold am_1
  rw [hI]
  dsimp only
  rw [if_neg h0, if_neg h1, hp]
  dsimp only [Option.bind]
  rw [if_pos hs, hr]
end STEP
