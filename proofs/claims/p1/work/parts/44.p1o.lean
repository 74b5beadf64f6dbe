/-! p1: the answer of each call on the fresh state, of the class and of the reference. -/
set_option maxRecDepth 100000 in
theorem px_feed {sL : Nat} {sx : Nat → Int32} {cs : Nat → Nat → Option Int32} {v3 : Int32} {h b : Nat} {H : am_H} {x0 x1 x2 x3 x4 : Int32} (P : p1_P v3 h b H) (dm : p1_D v3 h b) : ∃ H1 : am_H, aX sL sx cs 19 0 [(0, .ref 0), (1, .int x0), (2, .int x1), (3, .int x2), (4, .int x3), (5, .int x4)] [] H 0 0 = some ((some (.int 1)), H1, 0, 0) ∧ ∀ j : Nat, 157 ≤ j → H1[j]? = H[j]? := by
  obtain ⟨d1, d2, d3, d4⟩ := dm
  obtain ⟨H1, e, f⟩ := fx_feed_0 (sL := sL) (sx := sx) (cs := cs) (x0 := x0) (x1 := x1) (x2 := x2) (x3 := x3) (x4 := x4) (p1_c0 P) (p1_c1 P)
  refine ⟨H1, ?_, fun j hj => f.2 j (by omega) (by omega)⟩
  exact e

set_option maxRecDepth 100000 in
theorem px_end {sL : Nat} {sx : Nat → Int32} {cs : Nat → Nat → Option Int32} {v3 : Int32} {h b : Nat} {H : am_H} {x0 : Int32} (P : p1_P v3 h b H) (dm : p1_D v3 h b) : ∃ H1 : am_H, aX sL sx cs 21 0 [(0, .ref 0), (1, .int x0)] [] H 0 0 = some ((some (.int (if x0 < 0 then (0 : Int32) else (if x0 ≤ 0 then (1 : Int32) else 0)))), H1, 0, 0) ∧ ∀ j : Nat, 157 ≤ j → H1[j]? = H[j]? := by
  obtain ⟨d1, d2, d3, d4⟩ := dm
  by_cases c1 : x0 < 0
  · have ic1 := (p1_lt (x := x0) (y := 0) (m := x0.toInt) (n := 0) rfl (by decide)).mp c1
    obtain ⟨H1, e, f⟩ := fx_end_0 (sL := sL) (sx := sx) (cs := cs) (x0 := x0) (p1_c0 P) c1
    refine ⟨H1, ?_, fun j hj => f.2 j⟩
    rw [if_pos ((p1_lt (x := x0) (y := 0) (m := x0.toInt) (n := 0) rfl (by decide)).mpr (by omega))]
    exact e
  · by_cases c2 : x0 ≤ 0
    · have ic1 := mt (p1_lt (x := x0) (y := 0) (m := x0.toInt) (n := 0) rfl (by decide)).mpr c1
      have ic2 := (p1_le (x := x0) (y := 0) (m := x0.toInt) (n := 0) rfl (by decide)).mp c2
      obtain ⟨H1, e, f⟩ := fx_end_1 (sL := sL) (sx := sx) (cs := cs) (x0 := x0) (p1_c0 P) c1 c2
      refine ⟨H1, ?_, fun j hj => f.2 j (by omega)⟩
      rw [if_neg (mt (p1_lt (x := x0) (y := 0) (m := x0.toInt) (n := 0) rfl (by decide)).mp (by omega)), if_pos ((p1_le (x := x0) (y := 0) (m := x0.toInt) (n := 0) rfl (by decide)).mpr (by omega))]
      exact e
    · have ic1 := mt (p1_lt (x := x0) (y := 0) (m := x0.toInt) (n := 0) rfl (by decide)).mpr c1
      have ic2 := mt (p1_le (x := x0) (y := 0) (m := x0.toInt) (n := 0) rfl (by decide)).mpr c2
      obtain ⟨H1, e, f⟩ := fx_end_2 (sL := sL) (sx := sx) (cs := cs) (x0 := x0) (p1_c0 P) c1 c2
      refine ⟨H1, ?_, fun j hj => f.2 j⟩
      rw [if_neg (mt (p1_lt (x := x0) (y := 0) (m := x0.toInt) (n := 0) rfl (by decide)).mp (by omega)), if_neg (mt (p1_le (x := x0) (y := 0) (m := x0.toInt) (n := 0) rfl (by decide)).mp (by omega))]
      exact e

set_option maxRecDepth 100000 in
theorem px_describe {sL : Nat} {sx : Nat → Int32} {cs : Nat → Nat → Option Int32} {v3 : Int32} {h b : Nat} {H : am_H}  (P : p1_P v3 h b H) (dm : p1_D v3 h b) : ∃ H1 : am_H, aX sL sx cs 22 0 [(0, .ref 0)] [] H 0 0 = some ((some (.int 0)), H1, 0, 0) ∧ ∀ j : Nat, 157 ≤ j → H1[j]? = H[j]? := by
  obtain ⟨d1, d2, d3, d4⟩ := dm
  obtain ⟨H1, e, f⟩ := fx_describe_0 (sL := sL) (sx := sx) (cs := cs) (p1_c0 P) (p1_c3 P)
  refine ⟨H1, ?_, fun j hj => f.2 j (by omega) (by omega)⟩
  exact e

set_option maxRecDepth 100000 in
theorem px_fault {sL : Nat} {sx : Nat → Int32} {cs : Nat → Nat → Option Int32} {v3 : Int32} {h b : Nat} {H : am_H} {x0 : Int32} (P : p1_P v3 h b H) (dm : p1_D v3 h b) : ∃ H1 : am_H, aX sL sx cs 70 0 [(0, .ref 0), (1, .int x0)] [] H 0 0 = some ((some (.int (if x0 = 0 then (0 : Int32) else (-1)))), H1, 0, 0) ∧ ∀ j : Nat, 157 ≤ j → H1[j]? = H[j]? := by
  obtain ⟨d1, d2, d3, d4⟩ := dm
  by_cases c1 : x0 = 0
  · have ic1 := (p1_eq (x := x0) (y := 0) (m := x0.toInt) (n := 0) rfl (by decide)).mp c1
    obtain ⟨H1, e, f⟩ := fx_fault_0 (sL := sL) (sx := sx) (cs := cs) (x0 := x0) (p1_c0 P) (p1_c3 P) c1
    refine ⟨H1, ?_, fun j hj => f.2 j⟩
    rw [if_pos ((p1_eq (x := x0) (y := 0) (m := x0.toInt) (n := 0) rfl (by decide)).mpr (by omega))]
    exact e
  · by_cases c2 : x0 = 1
    · have ic1 := mt (p1_eq (x := x0) (y := 0) (m := x0.toInt) (n := 0) rfl (by decide)).mpr c1
      have ic2 := (p1_eq (x := x0) (y := 1) (m := x0.toInt) (n := 1) rfl (by decide)).mp c2
      obtain ⟨H1, e, f⟩ := fx_fault_1 (sL := sL) (sx := sx) (cs := cs) (x0 := x0) (p1_c0 P) (p1_c3 P) c1 c2
      refine ⟨H1, ?_, fun j hj => f.2 j⟩
      rw [if_neg (mt (p1_eq (x := x0) (y := 0) (m := x0.toInt) (n := 0) rfl (by decide)).mp (by omega))]
      exact e
    · have ic1 := mt (p1_eq (x := x0) (y := 0) (m := x0.toInt) (n := 0) rfl (by decide)).mpr c1
      have ic2 := mt (p1_eq (x := x0) (y := 1) (m := x0.toInt) (n := 1) rfl (by decide)).mpr c2
      obtain ⟨H1, e, f⟩ := fx_fault_2 (sL := sL) (sx := sx) (cs := cs) (x0 := x0) (p1_c0 P) (p1_c3 P) c1 c2
      refine ⟨H1, ?_, fun j hj => f.2 j⟩
      rw [if_neg (mt (p1_eq (x := x0) (y := 0) (m := x0.toInt) (n := 0) rfl (by decide)).mp (by omega))]
      exact e

set_option maxRecDepth 100000 in
theorem px_use {sL : Nat} {sx : Nat → Int32} {cs : Nat → Nat → Option Int32} {v3 : Int32} {h b : Nat} {H : am_H}  (P : p1_P v3 h b H) (dm : p1_D v3 h b) : ∃ H1 : am_H, aX sL sx cs 71 0 [(0, .ref 0)] [] H 0 0 = some ((some (.int (-1))), H1, 0, 0) ∧ ∀ j : Nat, 157 ≤ j → H1[j]? = H[j]? := by
  obtain ⟨d1, d2, d3, d4⟩ := dm
  obtain ⟨H1, e, f⟩ := fx_use_0 (sL := sL) (sx := sx) (cs := cs) (p1_c0 P) (p1_c3 P)
  refine ⟨H1, ?_, fun j hj => f.2 j (by omega)⟩
  exact e

set_option maxRecDepth 100000 in
theorem px_empty {sL : Nat} {sx : Nat → Int32} {cs : Nat → Nat → Option Int32} {v3 : Int32} {h b : Nat} {H : am_H}  (P : p1_P v3 h b H) (dm : p1_D v3 h b) : ∃ H1 : am_H, aX sL sx cs 91 0 [(0, .ref 0)] [] H 0 0 = some (none, H1, 0, 0) ∧ ∀ j : Nat, 157 ≤ j → H1[j]? = H[j]? := by
  obtain ⟨d1, d2, d3, d4⟩ := dm
  obtain ⟨H1, e, f⟩ := fx_empty_0 (sL := sL) (sx := sx) (cs := cs) (p1_c0 P) (p1_c3 P) (p1_c115 P) (p1_c141 P) (p1_c143 P) (p1_c145 P) (p1_c147 P) (p1_c149 P) (p1_c151 P) (p1_c153 P) (p1_c155 P)
  refine ⟨H1, ?_, fun j hj => f.2 j (by omega) (by omega) (by omega) (by omega) (by omega) (by omega) (by omega) (by omega) (by omega) (by omega)⟩
  exact e

set_option maxRecDepth 100000 in
theorem px_ability {sL : Nat} {sx : Nat → Int32} {cs : Nat → Nat → Option Int32} {v3 : Int32} {h b : Nat} {H : am_H}  (P : p1_P v3 h b H) (dm : p1_D v3 h b) : ∃ H1 : am_H, aX sL sx cs 93 0 [(0, .ref 0)] [] H 0 0 = some ((some (.int (-1))), H1, 0, 0) ∧ ∀ j : Nat, 157 ≤ j → H1[j]? = H[j]? := by
  obtain ⟨d1, d2, d3, d4⟩ := dm
  obtain ⟨H1, e, f⟩ := fx_ability_0 (sL := sL) (sx := sx) (cs := cs) (p1_c0 P)
  refine ⟨H1, ?_, fun j hj => f.2 j (by omega)⟩
  exact e

set_option maxRecDepth 100000 in
theorem px_expand {sL : Nat} {sx : Nat → Int32} {cs : Nat → Nat → Option Int32} {v3 : Int32} {h b : Nat} {H : am_H} {x0 x1 x2 x3 : Int32} (P : p1_P v3 h b H) (dm : p1_D v3 h b) : ∃ H1 : am_H, aX sL sx cs 94 0 [(0, .ref 0), (1, .int x0), (2, .int x1), (3, .int x2), (4, .int x3)] [] H 0 0 = some ((some (.int (-1))), H1, 0, 0) ∧ ∀ j : Nat, 157 ≤ j → H1[j]? = H[j]? := by
  obtain ⟨d1, d2, d3, d4⟩ := dm
  obtain ⟨H1, e, f⟩ := fx_expand_0 (sL := sL) (sx := sx) (cs := cs) (x0 := x0) (x1 := x1) (x2 := x2) (x3 := x3) (p1_c0 P)
  refine ⟨H1, ?_, fun j hj => f.2 j (by omega)⟩
  exact e

set_option maxRecDepth 100000 in
theorem px_open {sL : Nat} {sx : Nat → Int32} {cs : Nat → Nat → Option Int32} {v3 : Int32} {h b : Nat} {H : am_H} {x0 x1 x2 x3 : Int32} (P : p1_P v3 h b H) (dm : p1_D v3 h b) : ∃ H1 : am_H, aX sL sx cs 95 0 [(0, .ref 0), (1, .int x0), (2, .int x1), (3, .int x2), (4, .int x3)] [] H 0 0 = some ((some (.int (-1))), H1, 0, 0) ∧ ∀ j : Nat, 157 ≤ j → H1[j]? = H[j]? := by
  obtain ⟨d1, d2, d3, d4⟩ := dm
  obtain ⟨H1, e, f⟩ := fx_open_0 (sL := sL) (sx := sx) (cs := cs) (x0 := x0) (x1 := x1) (x2 := x2) (x3 := x3) (p1_c0 P)
  refine ⟨H1, ?_, fun j hj => f.2 j⟩
  exact e

set_option maxRecDepth 100000 in
theorem px_close {sL : Nat} {sx : Nat → Int32} {cs : Nat → Nat → Option Int32} {v3 : Int32} {h b : Nat} {H : am_H} {x0 : Int32} (P : p1_P v3 h b H) (dm : p1_D v3 h b) : ∃ H1 : am_H, aX sL sx cs 97 0 [(0, .ref 0), (1, .int x0)] [] H 0 0 = some ((some (.int 0)), H1, 0, 0) ∧ ∀ j : Nat, 157 ≤ j → H1[j]? = H[j]? := by
  obtain ⟨d1, d2, d3, d4⟩ := dm
  by_cases c1 : x0 < 0
  · obtain ⟨H1, e, f⟩ := fx_close_0 (sL := sL) (sx := sx) (cs := cs) (x0 := x0) (p1_c0 P) (p1_c115 P) (p1_c141 P) (p1_c143 P) (p1_c145 P) (p1_c147 P) (p1_c149 P) (p1_c151 P) (p1_c153 P) (p1_c155 P) c1
    refine ⟨H1, ?_, fun j hj => f.2 j⟩
    exact e
  · by_cases c2 : 8 ≤ x0
    · obtain ⟨H1, e, f⟩ := fx_close_1 (sL := sL) (sx := sx) (cs := cs) (x0 := x0) (p1_c0 P) (p1_c115 P) (p1_c141 P) (p1_c143 P) (p1_c145 P) (p1_c147 P) (p1_c149 P) (p1_c151 P) (p1_c153 P) (p1_c155 P) c1 c2
      refine ⟨H1, ?_, fun j hj => f.2 j⟩
      exact e
    · rcases am_lt8 (x := x0) c1 (Int32.not_le.mp c2) with c3 | c3 | c3 | c3 | c3 | c3 | c3 | c3
      · obtain ⟨H1, e, f⟩ := fx_close_2 (sL := sL) (sx := sx) (cs := cs) (x0 := x0) (p1_c0 P) (p1_c115 P) (p1_c141 P) (p1_c143 P) (p1_c145 P) (p1_c147 P) (p1_c149 P) (p1_c151 P) (p1_c153 P) (p1_c155 P) c1 c2 c3
        refine ⟨H1, ?_, fun j hj => f.2 j⟩
        exact e
      · obtain ⟨H1, e, f⟩ := fx_close_3 (sL := sL) (sx := sx) (cs := cs) (x0 := x0) (p1_c0 P) (p1_c115 P) (p1_c141 P) (p1_c143 P) (p1_c145 P) (p1_c147 P) (p1_c149 P) (p1_c151 P) (p1_c153 P) (p1_c155 P) c1 c2 c3
        refine ⟨H1, ?_, fun j hj => f.2 j⟩
        exact e
      · obtain ⟨H1, e, f⟩ := fx_close_4 (sL := sL) (sx := sx) (cs := cs) (x0 := x0) (p1_c0 P) (p1_c115 P) (p1_c141 P) (p1_c143 P) (p1_c145 P) (p1_c147 P) (p1_c149 P) (p1_c151 P) (p1_c153 P) (p1_c155 P) c1 c2 c3
        refine ⟨H1, ?_, fun j hj => f.2 j⟩
        exact e
      · obtain ⟨H1, e, f⟩ := fx_close_5 (sL := sL) (sx := sx) (cs := cs) (x0 := x0) (p1_c0 P) (p1_c115 P) (p1_c141 P) (p1_c143 P) (p1_c145 P) (p1_c147 P) (p1_c149 P) (p1_c151 P) (p1_c153 P) (p1_c155 P) c1 c2 c3
        refine ⟨H1, ?_, fun j hj => f.2 j⟩
        exact e
      · obtain ⟨H1, e, f⟩ := fx_close_6 (sL := sL) (sx := sx) (cs := cs) (x0 := x0) (p1_c0 P) (p1_c115 P) (p1_c141 P) (p1_c143 P) (p1_c145 P) (p1_c147 P) (p1_c149 P) (p1_c151 P) (p1_c153 P) (p1_c155 P) c1 c2 c3
        refine ⟨H1, ?_, fun j hj => f.2 j⟩
        exact e
      · obtain ⟨H1, e, f⟩ := fx_close_7 (sL := sL) (sx := sx) (cs := cs) (x0 := x0) (p1_c0 P) (p1_c115 P) (p1_c141 P) (p1_c143 P) (p1_c145 P) (p1_c147 P) (p1_c149 P) (p1_c151 P) (p1_c153 P) (p1_c155 P) c1 c2 c3
        refine ⟨H1, ?_, fun j hj => f.2 j⟩
        exact e
      · obtain ⟨H1, e, f⟩ := fx_close_8 (sL := sL) (sx := sx) (cs := cs) (x0 := x0) (p1_c0 P) (p1_c115 P) (p1_c141 P) (p1_c143 P) (p1_c145 P) (p1_c147 P) (p1_c149 P) (p1_c151 P) (p1_c153 P) (p1_c155 P) c1 c2 c3
        refine ⟨H1, ?_, fun j hj => f.2 j⟩
        exact e
      · obtain ⟨H1, e, f⟩ := fx_close_9 (sL := sL) (sx := sx) (cs := cs) (x0 := x0) (p1_c0 P) (p1_c115 P) (p1_c141 P) (p1_c143 P) (p1_c145 P) (p1_c147 P) (p1_c149 P) (p1_c151 P) (p1_c153 P) (p1_c155 P) c1 c2 c3
        refine ⟨H1, ?_, fun j hj => f.2 j⟩
        exact e

set_option maxRecDepth 100000 in
theorem px_at {sL : Nat} {sx : Nat → Int32} {cs : Nat → Nat → Option Int32} {v3 : Int32} {h b : Nat} {H : am_H} {x0 x1 x2 : Int32} (P : p1_P v3 h b H) (dm : p1_D v3 h b) : ∃ H1 : am_H, aX sL sx cs 99 0 [(0, .ref 0), (1, .int x0), (2, .int x1), (3, .int x2)] [] H 0 0 = some ((some (.int 0)), H1, 0, 0) ∧ ∀ j : Nat, 157 ≤ j → H1[j]? = H[j]? := by
  obtain ⟨d1, d2, d3, d4⟩ := dm
  by_cases c1 : x0 < 0
  · obtain ⟨H1, e, f⟩ := fx_at_0 (sL := sL) (sx := sx) (cs := cs) (x0 := x0) (x1 := x1) (x2 := x2) (p1_c0 P) (p1_c115 P) (p1_c141 P) (p1_c143 P) (p1_c145 P) (p1_c147 P) (p1_c149 P) (p1_c151 P) (p1_c153 P) (p1_c155 P) c1
    refine ⟨H1, ?_, fun j hj => f.2 j⟩
    exact e
  · by_cases c2 : 8 ≤ x0
    · obtain ⟨H1, e, f⟩ := fx_at_1 (sL := sL) (sx := sx) (cs := cs) (x0 := x0) (x1 := x1) (x2 := x2) (p1_c0 P) (p1_c115 P) (p1_c141 P) (p1_c143 P) (p1_c145 P) (p1_c147 P) (p1_c149 P) (p1_c151 P) (p1_c153 P) (p1_c155 P) c1 c2
      refine ⟨H1, ?_, fun j hj => f.2 j⟩
      exact e
    · rcases am_lt8 (x := x0) c1 (Int32.not_le.mp c2) with c3 | c3 | c3 | c3 | c3 | c3 | c3 | c3
      · obtain ⟨H1, e, f⟩ := fx_at_2 (sL := sL) (sx := sx) (cs := cs) (x0 := x0) (x1 := x1) (x2 := x2) (p1_c0 P) (p1_c115 P) (p1_c141 P) (p1_c143 P) (p1_c145 P) (p1_c147 P) (p1_c149 P) (p1_c151 P) (p1_c153 P) (p1_c155 P) c1 c2 c3
        refine ⟨H1, ?_, fun j hj => f.2 j⟩
        exact e
      · obtain ⟨H1, e, f⟩ := fx_at_3 (sL := sL) (sx := sx) (cs := cs) (x0 := x0) (x1 := x1) (x2 := x2) (p1_c0 P) (p1_c115 P) (p1_c141 P) (p1_c143 P) (p1_c145 P) (p1_c147 P) (p1_c149 P) (p1_c151 P) (p1_c153 P) (p1_c155 P) c1 c2 c3
        refine ⟨H1, ?_, fun j hj => f.2 j⟩
        exact e
      · obtain ⟨H1, e, f⟩ := fx_at_4 (sL := sL) (sx := sx) (cs := cs) (x0 := x0) (x1 := x1) (x2 := x2) (p1_c0 P) (p1_c115 P) (p1_c141 P) (p1_c143 P) (p1_c145 P) (p1_c147 P) (p1_c149 P) (p1_c151 P) (p1_c153 P) (p1_c155 P) c1 c2 c3
        refine ⟨H1, ?_, fun j hj => f.2 j⟩
        exact e
      · obtain ⟨H1, e, f⟩ := fx_at_5 (sL := sL) (sx := sx) (cs := cs) (x0 := x0) (x1 := x1) (x2 := x2) (p1_c0 P) (p1_c115 P) (p1_c141 P) (p1_c143 P) (p1_c145 P) (p1_c147 P) (p1_c149 P) (p1_c151 P) (p1_c153 P) (p1_c155 P) c1 c2 c3
        refine ⟨H1, ?_, fun j hj => f.2 j⟩
        exact e
      · obtain ⟨H1, e, f⟩ := fx_at_6 (sL := sL) (sx := sx) (cs := cs) (x0 := x0) (x1 := x1) (x2 := x2) (p1_c0 P) (p1_c115 P) (p1_c141 P) (p1_c143 P) (p1_c145 P) (p1_c147 P) (p1_c149 P) (p1_c151 P) (p1_c153 P) (p1_c155 P) c1 c2 c3
        refine ⟨H1, ?_, fun j hj => f.2 j⟩
        exact e
      · obtain ⟨H1, e, f⟩ := fx_at_7 (sL := sL) (sx := sx) (cs := cs) (x0 := x0) (x1 := x1) (x2 := x2) (p1_c0 P) (p1_c115 P) (p1_c141 P) (p1_c143 P) (p1_c145 P) (p1_c147 P) (p1_c149 P) (p1_c151 P) (p1_c153 P) (p1_c155 P) c1 c2 c3
        refine ⟨H1, ?_, fun j hj => f.2 j⟩
        exact e
      · obtain ⟨H1, e, f⟩ := fx_at_8 (sL := sL) (sx := sx) (cs := cs) (x0 := x0) (x1 := x1) (x2 := x2) (p1_c0 P) (p1_c115 P) (p1_c141 P) (p1_c143 P) (p1_c145 P) (p1_c147 P) (p1_c149 P) (p1_c151 P) (p1_c153 P) (p1_c155 P) c1 c2 c3
        refine ⟨H1, ?_, fun j hj => f.2 j⟩
        exact e
      · obtain ⟨H1, e, f⟩ := fx_at_9 (sL := sL) (sx := sx) (cs := cs) (x0 := x0) (x1 := x1) (x2 := x2) (p1_c0 P) (p1_c115 P) (p1_c141 P) (p1_c143 P) (p1_c145 P) (p1_c147 P) (p1_c149 P) (p1_c151 P) (p1_c153 P) (p1_c155 P) c1 c2 c3
        refine ⟨H1, ?_, fun j hj => f.2 j⟩
        exact e

set_option maxRecDepth 100000 in
theorem px_dress {sL : Nat} {sx : Nat → Int32} {cs : Nat → Nat → Option Int32} {v3 : Int32} {h b : Nat} {H : am_H} {x0 x1 : Int32} (P : p1_P v3 h b H) (dm : p1_D v3 h b) : ∃ H1 : am_H, aX sL sx cs 101 0 [(0, .ref 0), (1, .int x0), (2, .int x1)] [] H 0 0 = some ((some (.int 0)), H1, 0, 0) ∧ ∀ j : Nat, 157 ≤ j → H1[j]? = H[j]? := by
  obtain ⟨d1, d2, d3, d4⟩ := dm
  by_cases c1 : x0 < 0
  · obtain ⟨H1, e, f⟩ := fx_dress_0 (sL := sL) (sx := sx) (cs := cs) (x0 := x0) (x1 := x1) (p1_c0 P) (p1_c115 P) (p1_c141 P) (p1_c143 P) (p1_c145 P) (p1_c147 P) (p1_c149 P) (p1_c151 P) (p1_c153 P) (p1_c155 P) c1
    refine ⟨H1, ?_, fun j hj => f.2 j⟩
    exact e
  · by_cases c2 : 8 ≤ x0
    · obtain ⟨H1, e, f⟩ := fx_dress_1 (sL := sL) (sx := sx) (cs := cs) (x0 := x0) (x1 := x1) (p1_c0 P) (p1_c115 P) (p1_c141 P) (p1_c143 P) (p1_c145 P) (p1_c147 P) (p1_c149 P) (p1_c151 P) (p1_c153 P) (p1_c155 P) c1 c2
      refine ⟨H1, ?_, fun j hj => f.2 j⟩
      exact e
    · rcases am_lt8 (x := x0) c1 (Int32.not_le.mp c2) with c3 | c3 | c3 | c3 | c3 | c3 | c3 | c3
      · obtain ⟨H1, e, f⟩ := fx_dress_2 (sL := sL) (sx := sx) (cs := cs) (x0 := x0) (x1 := x1) (p1_c0 P) (p1_c115 P) (p1_c141 P) (p1_c143 P) (p1_c145 P) (p1_c147 P) (p1_c149 P) (p1_c151 P) (p1_c153 P) (p1_c155 P) c1 c2 c3
        refine ⟨H1, ?_, fun j hj => f.2 j⟩
        exact e
      · obtain ⟨H1, e, f⟩ := fx_dress_3 (sL := sL) (sx := sx) (cs := cs) (x0 := x0) (x1 := x1) (p1_c0 P) (p1_c115 P) (p1_c141 P) (p1_c143 P) (p1_c145 P) (p1_c147 P) (p1_c149 P) (p1_c151 P) (p1_c153 P) (p1_c155 P) c1 c2 c3
        refine ⟨H1, ?_, fun j hj => f.2 j⟩
        exact e
      · obtain ⟨H1, e, f⟩ := fx_dress_4 (sL := sL) (sx := sx) (cs := cs) (x0 := x0) (x1 := x1) (p1_c0 P) (p1_c115 P) (p1_c141 P) (p1_c143 P) (p1_c145 P) (p1_c147 P) (p1_c149 P) (p1_c151 P) (p1_c153 P) (p1_c155 P) c1 c2 c3
        refine ⟨H1, ?_, fun j hj => f.2 j⟩
        exact e
      · obtain ⟨H1, e, f⟩ := fx_dress_5 (sL := sL) (sx := sx) (cs := cs) (x0 := x0) (x1 := x1) (p1_c0 P) (p1_c115 P) (p1_c141 P) (p1_c143 P) (p1_c145 P) (p1_c147 P) (p1_c149 P) (p1_c151 P) (p1_c153 P) (p1_c155 P) c1 c2 c3
        refine ⟨H1, ?_, fun j hj => f.2 j⟩
        exact e
      · obtain ⟨H1, e, f⟩ := fx_dress_6 (sL := sL) (sx := sx) (cs := cs) (x0 := x0) (x1 := x1) (p1_c0 P) (p1_c115 P) (p1_c141 P) (p1_c143 P) (p1_c145 P) (p1_c147 P) (p1_c149 P) (p1_c151 P) (p1_c153 P) (p1_c155 P) c1 c2 c3
        refine ⟨H1, ?_, fun j hj => f.2 j⟩
        exact e
      · obtain ⟨H1, e, f⟩ := fx_dress_7 (sL := sL) (sx := sx) (cs := cs) (x0 := x0) (x1 := x1) (p1_c0 P) (p1_c115 P) (p1_c141 P) (p1_c143 P) (p1_c145 P) (p1_c147 P) (p1_c149 P) (p1_c151 P) (p1_c153 P) (p1_c155 P) c1 c2 c3
        refine ⟨H1, ?_, fun j hj => f.2 j⟩
        exact e
      · obtain ⟨H1, e, f⟩ := fx_dress_8 (sL := sL) (sx := sx) (cs := cs) (x0 := x0) (x1 := x1) (p1_c0 P) (p1_c115 P) (p1_c141 P) (p1_c143 P) (p1_c145 P) (p1_c147 P) (p1_c149 P) (p1_c151 P) (p1_c153 P) (p1_c155 P) c1 c2 c3
        refine ⟨H1, ?_, fun j hj => f.2 j⟩
        exact e
      · obtain ⟨H1, e, f⟩ := fx_dress_9 (sL := sL) (sx := sx) (cs := cs) (x0 := x0) (x1 := x1) (p1_c0 P) (p1_c115 P) (p1_c141 P) (p1_c143 P) (p1_c145 P) (p1_c147 P) (p1_c149 P) (p1_c151 P) (p1_c153 P) (p1_c155 P) c1 c2 c3
        refine ⟨H1, ?_, fun j hj => f.2 j⟩
        exact e

set_option maxRecDepth 100000 in
theorem px_scrolls {sL : Nat} {sx : Nat → Int32} {cs : Nat → Nat → Option Int32} {v3 : Int32} {h b : Nat} {H : am_H} {x0 x1 : Int32} (P : p1_P v3 h b H) (dm : p1_D v3 h b) : ∃ H1 : am_H, aX sL sx cs 102 0 [(0, .ref 0), (1, .int x0), (2, .int x1)] [] H 0 0 = some ((some (.int 0)), H1, 0, 0) ∧ ∀ j : Nat, 157 ≤ j → H1[j]? = H[j]? := by
  obtain ⟨d1, d2, d3, d4⟩ := dm
  by_cases c1 : x0 < 0
  · obtain ⟨H1, e, f⟩ := fx_scrolls_0 (sL := sL) (sx := sx) (cs := cs) (x0 := x0) (x1 := x1) (p1_c0 P) (p1_c115 P) (p1_c141 P) (p1_c143 P) (p1_c145 P) (p1_c147 P) (p1_c149 P) (p1_c151 P) (p1_c153 P) (p1_c155 P) c1
    refine ⟨H1, ?_, fun j hj => f.2 j⟩
    exact e
  · by_cases c2 : 8 ≤ x0
    · obtain ⟨H1, e, f⟩ := fx_scrolls_1 (sL := sL) (sx := sx) (cs := cs) (x0 := x0) (x1 := x1) (p1_c0 P) (p1_c115 P) (p1_c141 P) (p1_c143 P) (p1_c145 P) (p1_c147 P) (p1_c149 P) (p1_c151 P) (p1_c153 P) (p1_c155 P) c1 c2
      refine ⟨H1, ?_, fun j hj => f.2 j⟩
      exact e
    · rcases am_lt8 (x := x0) c1 (Int32.not_le.mp c2) with c3 | c3 | c3 | c3 | c3 | c3 | c3 | c3
      · obtain ⟨H1, e, f⟩ := fx_scrolls_2 (sL := sL) (sx := sx) (cs := cs) (x0 := x0) (x1 := x1) (p1_c0 P) (p1_c115 P) (p1_c141 P) (p1_c143 P) (p1_c145 P) (p1_c147 P) (p1_c149 P) (p1_c151 P) (p1_c153 P) (p1_c155 P) c1 c2 c3
        refine ⟨H1, ?_, fun j hj => f.2 j⟩
        exact e
      · obtain ⟨H1, e, f⟩ := fx_scrolls_3 (sL := sL) (sx := sx) (cs := cs) (x0 := x0) (x1 := x1) (p1_c0 P) (p1_c115 P) (p1_c141 P) (p1_c143 P) (p1_c145 P) (p1_c147 P) (p1_c149 P) (p1_c151 P) (p1_c153 P) (p1_c155 P) c1 c2 c3
        refine ⟨H1, ?_, fun j hj => f.2 j⟩
        exact e
      · obtain ⟨H1, e, f⟩ := fx_scrolls_4 (sL := sL) (sx := sx) (cs := cs) (x0 := x0) (x1 := x1) (p1_c0 P) (p1_c115 P) (p1_c141 P) (p1_c143 P) (p1_c145 P) (p1_c147 P) (p1_c149 P) (p1_c151 P) (p1_c153 P) (p1_c155 P) c1 c2 c3
        refine ⟨H1, ?_, fun j hj => f.2 j⟩
        exact e
      · obtain ⟨H1, e, f⟩ := fx_scrolls_5 (sL := sL) (sx := sx) (cs := cs) (x0 := x0) (x1 := x1) (p1_c0 P) (p1_c115 P) (p1_c141 P) (p1_c143 P) (p1_c145 P) (p1_c147 P) (p1_c149 P) (p1_c151 P) (p1_c153 P) (p1_c155 P) c1 c2 c3
        refine ⟨H1, ?_, fun j hj => f.2 j⟩
        exact e
      · obtain ⟨H1, e, f⟩ := fx_scrolls_6 (sL := sL) (sx := sx) (cs := cs) (x0 := x0) (x1 := x1) (p1_c0 P) (p1_c115 P) (p1_c141 P) (p1_c143 P) (p1_c145 P) (p1_c147 P) (p1_c149 P) (p1_c151 P) (p1_c153 P) (p1_c155 P) c1 c2 c3
        refine ⟨H1, ?_, fun j hj => f.2 j⟩
        exact e
      · obtain ⟨H1, e, f⟩ := fx_scrolls_7 (sL := sL) (sx := sx) (cs := cs) (x0 := x0) (x1 := x1) (p1_c0 P) (p1_c115 P) (p1_c141 P) (p1_c143 P) (p1_c145 P) (p1_c147 P) (p1_c149 P) (p1_c151 P) (p1_c153 P) (p1_c155 P) c1 c2 c3
        refine ⟨H1, ?_, fun j hj => f.2 j⟩
        exact e
      · obtain ⟨H1, e, f⟩ := fx_scrolls_8 (sL := sL) (sx := sx) (cs := cs) (x0 := x0) (x1 := x1) (p1_c0 P) (p1_c115 P) (p1_c141 P) (p1_c143 P) (p1_c145 P) (p1_c147 P) (p1_c149 P) (p1_c151 P) (p1_c153 P) (p1_c155 P) c1 c2 c3
        refine ⟨H1, ?_, fun j hj => f.2 j⟩
        exact e
      · obtain ⟨H1, e, f⟩ := fx_scrolls_9 (sL := sL) (sx := sx) (cs := cs) (x0 := x0) (x1 := x1) (p1_c0 P) (p1_c115 P) (p1_c141 P) (p1_c143 P) (p1_c145 P) (p1_c147 P) (p1_c149 P) (p1_c151 P) (p1_c153 P) (p1_c155 P) c1 c2 c3
        refine ⟨H1, ?_, fun j hj => f.2 j⟩
        exact e

set_option maxRecDepth 100000 in
theorem px_say {sL : Nat} {sx : Nat → Int32} {cs : Nat → Nat → Option Int32} {v3 : Int32} {h b : Nat} {H : am_H} {x0 : Int32} (P : p1_P v3 h b H) (dm : p1_D v3 h b) : ∃ H1 : am_H, aX sL sx cs 103 0 [(0, .ref 0), (1, .int x0)] [] H 0 0 = some ((some (.int (-1))), H1, 0, 0) ∧ ∀ j : Nat, 157 ≤ j → H1[j]? = H[j]? := by
  obtain ⟨d1, d2, d3, d4⟩ := dm
  by_cases c1 : x0 < 0
  · obtain ⟨H1, e, f⟩ := fx_say_0 (sL := sL) (sx := sx) (cs := cs) (x0 := x0) (p1_c0 P) (p1_c115 P) (p1_c141 P) (p1_c143 P) (p1_c145 P) (p1_c147 P) (p1_c149 P) (p1_c151 P) (p1_c153 P) (p1_c155 P) c1
    refine ⟨H1, ?_, fun j hj => f.2 j (by omega)⟩
    exact e
  · by_cases c2 : 8 ≤ x0
    · obtain ⟨H1, e, f⟩ := fx_say_1 (sL := sL) (sx := sx) (cs := cs) (x0 := x0) (p1_c0 P) (p1_c115 P) (p1_c141 P) (p1_c143 P) (p1_c145 P) (p1_c147 P) (p1_c149 P) (p1_c151 P) (p1_c153 P) (p1_c155 P) c1 c2
      refine ⟨H1, ?_, fun j hj => f.2 j (by omega)⟩
      exact e
    · rcases am_lt8 (x := x0) c1 (Int32.not_le.mp c2) with c3 | c3 | c3 | c3 | c3 | c3 | c3 | c3
      · obtain ⟨H1, e, f⟩ := fx_say_2 (sL := sL) (sx := sx) (cs := cs) (x0 := x0) (p1_c0 P) (p1_c115 P) (p1_c141 P) (p1_c143 P) (p1_c145 P) (p1_c147 P) (p1_c149 P) (p1_c151 P) (p1_c153 P) (p1_c155 P) c1 c2 c3
        refine ⟨H1, ?_, fun j hj => f.2 j (by omega)⟩
        exact e
      · obtain ⟨H1, e, f⟩ := fx_say_3 (sL := sL) (sx := sx) (cs := cs) (x0 := x0) (p1_c0 P) (p1_c115 P) (p1_c141 P) (p1_c143 P) (p1_c145 P) (p1_c147 P) (p1_c149 P) (p1_c151 P) (p1_c153 P) (p1_c155 P) c1 c2 c3
        refine ⟨H1, ?_, fun j hj => f.2 j (by omega)⟩
        exact e
      · obtain ⟨H1, e, f⟩ := fx_say_4 (sL := sL) (sx := sx) (cs := cs) (x0 := x0) (p1_c0 P) (p1_c115 P) (p1_c141 P) (p1_c143 P) (p1_c145 P) (p1_c147 P) (p1_c149 P) (p1_c151 P) (p1_c153 P) (p1_c155 P) c1 c2 c3
        refine ⟨H1, ?_, fun j hj => f.2 j (by omega)⟩
        exact e
      · obtain ⟨H1, e, f⟩ := fx_say_5 (sL := sL) (sx := sx) (cs := cs) (x0 := x0) (p1_c0 P) (p1_c115 P) (p1_c141 P) (p1_c143 P) (p1_c145 P) (p1_c147 P) (p1_c149 P) (p1_c151 P) (p1_c153 P) (p1_c155 P) c1 c2 c3
        refine ⟨H1, ?_, fun j hj => f.2 j (by omega)⟩
        exact e
      · obtain ⟨H1, e, f⟩ := fx_say_6 (sL := sL) (sx := sx) (cs := cs) (x0 := x0) (p1_c0 P) (p1_c115 P) (p1_c141 P) (p1_c143 P) (p1_c145 P) (p1_c147 P) (p1_c149 P) (p1_c151 P) (p1_c153 P) (p1_c155 P) c1 c2 c3
        refine ⟨H1, ?_, fun j hj => f.2 j (by omega)⟩
        exact e
      · obtain ⟨H1, e, f⟩ := fx_say_7 (sL := sL) (sx := sx) (cs := cs) (x0 := x0) (p1_c0 P) (p1_c115 P) (p1_c141 P) (p1_c143 P) (p1_c145 P) (p1_c147 P) (p1_c149 P) (p1_c151 P) (p1_c153 P) (p1_c155 P) c1 c2 c3
        refine ⟨H1, ?_, fun j hj => f.2 j (by omega)⟩
        exact e
      · obtain ⟨H1, e, f⟩ := fx_say_8 (sL := sL) (sx := sx) (cs := cs) (x0 := x0) (p1_c0 P) (p1_c115 P) (p1_c141 P) (p1_c143 P) (p1_c145 P) (p1_c147 P) (p1_c149 P) (p1_c151 P) (p1_c153 P) (p1_c155 P) c1 c2 c3
        refine ⟨H1, ?_, fun j hj => f.2 j (by omega)⟩
        exact e
      · obtain ⟨H1, e, f⟩ := fx_say_9 (sL := sL) (sx := sx) (cs := cs) (x0 := x0) (p1_c0 P) (p1_c115 P) (p1_c141 P) (p1_c143 P) (p1_c145 P) (p1_c147 P) (p1_c149 P) (p1_c151 P) (p1_c153 P) (p1_c155 P) c1 c2 c3
        refine ⟨H1, ?_, fun j hj => f.2 j (by omega)⟩
        exact e

set_option maxRecDepth 100000 in
theorem px_erase {sL : Nat} {sx : Nat → Int32} {cs : Nat → Nat → Option Int32} {v3 : Int32} {h b : Nat} {H : am_H} {x0 x1 : Int32} (P : p1_P v3 h b H) (dm : p1_D v3 h b) : ∃ H1 : am_H, aX sL sx cs 112 0 [(0, .ref 0), (1, .int x0), (2, .int x1)] [] H 0 0 = some ((some (.int 0)), H1, 0, 0) ∧ ∀ j : Nat, 157 ≤ j → H1[j]? = H[j]? := by
  obtain ⟨d1, d2, d3, d4⟩ := dm
  by_cases c1 : x0 < 0
  · obtain ⟨H1, e, f⟩ := fx_erase_0 (sL := sL) (sx := sx) (cs := cs) (x0 := x0) (x1 := x1) (p1_c0 P) (p1_c115 P) (p1_c141 P) (p1_c143 P) (p1_c145 P) (p1_c147 P) (p1_c149 P) (p1_c151 P) (p1_c153 P) (p1_c155 P) c1
    refine ⟨H1, ?_, fun j hj => f.2 j⟩
    exact e
  · by_cases c2 : 8 ≤ x0
    · obtain ⟨H1, e, f⟩ := fx_erase_1 (sL := sL) (sx := sx) (cs := cs) (x0 := x0) (x1 := x1) (p1_c0 P) (p1_c115 P) (p1_c141 P) (p1_c143 P) (p1_c145 P) (p1_c147 P) (p1_c149 P) (p1_c151 P) (p1_c153 P) (p1_c155 P) c1 c2
      refine ⟨H1, ?_, fun j hj => f.2 j⟩
      exact e
    · rcases am_lt8 (x := x0) c1 (Int32.not_le.mp c2) with c3 | c3 | c3 | c3 | c3 | c3 | c3 | c3
      · obtain ⟨H1, e, f⟩ := fx_erase_2 (sL := sL) (sx := sx) (cs := cs) (x0 := x0) (x1 := x1) (p1_c0 P) (p1_c115 P) (p1_c141 P) (p1_c143 P) (p1_c145 P) (p1_c147 P) (p1_c149 P) (p1_c151 P) (p1_c153 P) (p1_c155 P) c1 c2 c3
        refine ⟨H1, ?_, fun j hj => f.2 j⟩
        exact e
      · obtain ⟨H1, e, f⟩ := fx_erase_3 (sL := sL) (sx := sx) (cs := cs) (x0 := x0) (x1 := x1) (p1_c0 P) (p1_c115 P) (p1_c141 P) (p1_c143 P) (p1_c145 P) (p1_c147 P) (p1_c149 P) (p1_c151 P) (p1_c153 P) (p1_c155 P) c1 c2 c3
        refine ⟨H1, ?_, fun j hj => f.2 j⟩
        exact e
      · obtain ⟨H1, e, f⟩ := fx_erase_4 (sL := sL) (sx := sx) (cs := cs) (x0 := x0) (x1 := x1) (p1_c0 P) (p1_c115 P) (p1_c141 P) (p1_c143 P) (p1_c145 P) (p1_c147 P) (p1_c149 P) (p1_c151 P) (p1_c153 P) (p1_c155 P) c1 c2 c3
        refine ⟨H1, ?_, fun j hj => f.2 j⟩
        exact e
      · obtain ⟨H1, e, f⟩ := fx_erase_5 (sL := sL) (sx := sx) (cs := cs) (x0 := x0) (x1 := x1) (p1_c0 P) (p1_c115 P) (p1_c141 P) (p1_c143 P) (p1_c145 P) (p1_c147 P) (p1_c149 P) (p1_c151 P) (p1_c153 P) (p1_c155 P) c1 c2 c3
        refine ⟨H1, ?_, fun j hj => f.2 j⟩
        exact e
      · obtain ⟨H1, e, f⟩ := fx_erase_6 (sL := sL) (sx := sx) (cs := cs) (x0 := x0) (x1 := x1) (p1_c0 P) (p1_c115 P) (p1_c141 P) (p1_c143 P) (p1_c145 P) (p1_c147 P) (p1_c149 P) (p1_c151 P) (p1_c153 P) (p1_c155 P) c1 c2 c3
        refine ⟨H1, ?_, fun j hj => f.2 j⟩
        exact e
      · obtain ⟨H1, e, f⟩ := fx_erase_7 (sL := sL) (sx := sx) (cs := cs) (x0 := x0) (x1 := x1) (p1_c0 P) (p1_c115 P) (p1_c141 P) (p1_c143 P) (p1_c145 P) (p1_c147 P) (p1_c149 P) (p1_c151 P) (p1_c153 P) (p1_c155 P) c1 c2 c3
        refine ⟨H1, ?_, fun j hj => f.2 j⟩
        exact e
      · obtain ⟨H1, e, f⟩ := fx_erase_8 (sL := sL) (sx := sx) (cs := cs) (x0 := x0) (x1 := x1) (p1_c0 P) (p1_c115 P) (p1_c141 P) (p1_c143 P) (p1_c145 P) (p1_c147 P) (p1_c149 P) (p1_c151 P) (p1_c153 P) (p1_c155 P) c1 c2 c3
        refine ⟨H1, ?_, fun j hj => f.2 j⟩
        exact e
      · obtain ⟨H1, e, f⟩ := fx_erase_9 (sL := sL) (sx := sx) (cs := cs) (x0 := x0) (x1 := x1) (p1_c0 P) (p1_c115 P) (p1_c141 P) (p1_c143 P) (p1_c145 P) (p1_c147 P) (p1_c149 P) (p1_c151 P) (p1_c153 P) (p1_c155 P) c1 c2 c3
        refine ⟨H1, ?_, fun j hj => f.2 j⟩
        exact e

set_option maxRecDepth 100000 in
theorem px_rows {sL : Nat} {sx : Nat → Int32} {cs : Nat → Nat → Option Int32} {v3 : Int32} {h b : Nat} {H : am_H} {x0 x1 : Int32} (P : p1_P v3 h b H) (dm : p1_D v3 h b) : ∃ H1 : am_H, aX sL sx cs 114 0 [(0, .ref 0), (1, .int x0), (2, .int x1)] [] H 0 0 = some ((some (.int 0)), H1, 0, 0) ∧ ∀ j : Nat, 157 ≤ j → H1[j]? = H[j]? := by
  obtain ⟨d1, d2, d3, d4⟩ := dm
  by_cases c1 : x0 < 0
  · obtain ⟨H1, e, f⟩ := fx_rows_0 (sL := sL) (sx := sx) (cs := cs) (x0 := x0) (x1 := x1) (p1_c0 P) (p1_c115 P) (p1_c141 P) (p1_c143 P) (p1_c145 P) (p1_c147 P) (p1_c149 P) (p1_c151 P) (p1_c153 P) (p1_c155 P) c1
    refine ⟨H1, ?_, fun j hj => f.2 j⟩
    exact e
  · by_cases c2 : 8 ≤ x0
    · obtain ⟨H1, e, f⟩ := fx_rows_1 (sL := sL) (sx := sx) (cs := cs) (x0 := x0) (x1 := x1) (p1_c0 P) (p1_c115 P) (p1_c141 P) (p1_c143 P) (p1_c145 P) (p1_c147 P) (p1_c149 P) (p1_c151 P) (p1_c153 P) (p1_c155 P) c1 c2
      refine ⟨H1, ?_, fun j hj => f.2 j⟩
      exact e
    · rcases am_lt8 (x := x0) c1 (Int32.not_le.mp c2) with c3 | c3 | c3 | c3 | c3 | c3 | c3 | c3
      · obtain ⟨H1, e, f⟩ := fx_rows_2 (sL := sL) (sx := sx) (cs := cs) (x0 := x0) (x1 := x1) (p1_c0 P) (p1_c115 P) (p1_c141 P) (p1_c143 P) (p1_c145 P) (p1_c147 P) (p1_c149 P) (p1_c151 P) (p1_c153 P) (p1_c155 P) c1 c2 c3
        refine ⟨H1, ?_, fun j hj => f.2 j⟩
        exact e
      · obtain ⟨H1, e, f⟩ := fx_rows_3 (sL := sL) (sx := sx) (cs := cs) (x0 := x0) (x1 := x1) (p1_c0 P) (p1_c115 P) (p1_c141 P) (p1_c143 P) (p1_c145 P) (p1_c147 P) (p1_c149 P) (p1_c151 P) (p1_c153 P) (p1_c155 P) c1 c2 c3
        refine ⟨H1, ?_, fun j hj => f.2 j⟩
        exact e
      · obtain ⟨H1, e, f⟩ := fx_rows_4 (sL := sL) (sx := sx) (cs := cs) (x0 := x0) (x1 := x1) (p1_c0 P) (p1_c115 P) (p1_c141 P) (p1_c143 P) (p1_c145 P) (p1_c147 P) (p1_c149 P) (p1_c151 P) (p1_c153 P) (p1_c155 P) c1 c2 c3
        refine ⟨H1, ?_, fun j hj => f.2 j⟩
        exact e
      · obtain ⟨H1, e, f⟩ := fx_rows_5 (sL := sL) (sx := sx) (cs := cs) (x0 := x0) (x1 := x1) (p1_c0 P) (p1_c115 P) (p1_c141 P) (p1_c143 P) (p1_c145 P) (p1_c147 P) (p1_c149 P) (p1_c151 P) (p1_c153 P) (p1_c155 P) c1 c2 c3
        refine ⟨H1, ?_, fun j hj => f.2 j⟩
        exact e
      · obtain ⟨H1, e, f⟩ := fx_rows_6 (sL := sL) (sx := sx) (cs := cs) (x0 := x0) (x1 := x1) (p1_c0 P) (p1_c115 P) (p1_c141 P) (p1_c143 P) (p1_c145 P) (p1_c147 P) (p1_c149 P) (p1_c151 P) (p1_c153 P) (p1_c155 P) c1 c2 c3
        refine ⟨H1, ?_, fun j hj => f.2 j⟩
        exact e
      · obtain ⟨H1, e, f⟩ := fx_rows_7 (sL := sL) (sx := sx) (cs := cs) (x0 := x0) (x1 := x1) (p1_c0 P) (p1_c115 P) (p1_c141 P) (p1_c143 P) (p1_c145 P) (p1_c147 P) (p1_c149 P) (p1_c151 P) (p1_c153 P) (p1_c155 P) c1 c2 c3
        refine ⟨H1, ?_, fun j hj => f.2 j⟩
        exact e
      · obtain ⟨H1, e, f⟩ := fx_rows_8 (sL := sL) (sx := sx) (cs := cs) (x0 := x0) (x1 := x1) (p1_c0 P) (p1_c115 P) (p1_c141 P) (p1_c143 P) (p1_c145 P) (p1_c147 P) (p1_c149 P) (p1_c151 P) (p1_c153 P) (p1_c155 P) c1 c2 c3
        refine ⟨H1, ?_, fun j hj => f.2 j⟩
        exact e
      · obtain ⟨H1, e, f⟩ := fx_rows_9 (sL := sL) (sx := sx) (cs := cs) (x0 := x0) (x1 := x1) (p1_c0 P) (p1_c115 P) (p1_c141 P) (p1_c143 P) (p1_c145 P) (p1_c147 P) (p1_c149 P) (p1_c151 P) (p1_c153 P) (p1_c155 P) c1 c2 c3
        refine ⟨H1, ?_, fun j hj => f.2 j⟩
        exact e

set_option maxRecDepth 100000 in
theorem px_cells {sL : Nat} {sx : Nat → Int32} {cs : Nat → Nat → Option Int32} {v3 : Int32} {h b : Nat} {H : am_H} {x0 x1 : Int32} (P : p1_P v3 h b H) (dm : p1_D v3 h b) : ∃ H1 : am_H, aX sL sx cs 115 0 [(0, .ref 0), (1, .int x0), (2, .int x1)] [] H 0 0 = some ((some (.int 0)), H1, 0, 0) ∧ ∀ j : Nat, 157 ≤ j → H1[j]? = H[j]? := by
  obtain ⟨d1, d2, d3, d4⟩ := dm
  by_cases c1 : x0 < 0
  · obtain ⟨H1, e, f⟩ := fx_cells_0 (sL := sL) (sx := sx) (cs := cs) (x0 := x0) (x1 := x1) (p1_c0 P) (p1_c115 P) (p1_c141 P) (p1_c143 P) (p1_c145 P) (p1_c147 P) (p1_c149 P) (p1_c151 P) (p1_c153 P) (p1_c155 P) c1
    refine ⟨H1, ?_, fun j hj => f.2 j⟩
    exact e
  · by_cases c2 : 8 ≤ x0
    · obtain ⟨H1, e, f⟩ := fx_cells_1 (sL := sL) (sx := sx) (cs := cs) (x0 := x0) (x1 := x1) (p1_c0 P) (p1_c115 P) (p1_c141 P) (p1_c143 P) (p1_c145 P) (p1_c147 P) (p1_c149 P) (p1_c151 P) (p1_c153 P) (p1_c155 P) c1 c2
      refine ⟨H1, ?_, fun j hj => f.2 j⟩
      exact e
    · rcases am_lt8 (x := x0) c1 (Int32.not_le.mp c2) with c3 | c3 | c3 | c3 | c3 | c3 | c3 | c3
      · obtain ⟨H1, e, f⟩ := fx_cells_2 (sL := sL) (sx := sx) (cs := cs) (x0 := x0) (x1 := x1) (p1_c0 P) (p1_c115 P) (p1_c141 P) (p1_c143 P) (p1_c145 P) (p1_c147 P) (p1_c149 P) (p1_c151 P) (p1_c153 P) (p1_c155 P) c1 c2 c3
        refine ⟨H1, ?_, fun j hj => f.2 j⟩
        exact e
      · obtain ⟨H1, e, f⟩ := fx_cells_3 (sL := sL) (sx := sx) (cs := cs) (x0 := x0) (x1 := x1) (p1_c0 P) (p1_c115 P) (p1_c141 P) (p1_c143 P) (p1_c145 P) (p1_c147 P) (p1_c149 P) (p1_c151 P) (p1_c153 P) (p1_c155 P) c1 c2 c3
        refine ⟨H1, ?_, fun j hj => f.2 j⟩
        exact e
      · obtain ⟨H1, e, f⟩ := fx_cells_4 (sL := sL) (sx := sx) (cs := cs) (x0 := x0) (x1 := x1) (p1_c0 P) (p1_c115 P) (p1_c141 P) (p1_c143 P) (p1_c145 P) (p1_c147 P) (p1_c149 P) (p1_c151 P) (p1_c153 P) (p1_c155 P) c1 c2 c3
        refine ⟨H1, ?_, fun j hj => f.2 j⟩
        exact e
      · obtain ⟨H1, e, f⟩ := fx_cells_5 (sL := sL) (sx := sx) (cs := cs) (x0 := x0) (x1 := x1) (p1_c0 P) (p1_c115 P) (p1_c141 P) (p1_c143 P) (p1_c145 P) (p1_c147 P) (p1_c149 P) (p1_c151 P) (p1_c153 P) (p1_c155 P) c1 c2 c3
        refine ⟨H1, ?_, fun j hj => f.2 j⟩
        exact e
      · obtain ⟨H1, e, f⟩ := fx_cells_6 (sL := sL) (sx := sx) (cs := cs) (x0 := x0) (x1 := x1) (p1_c0 P) (p1_c115 P) (p1_c141 P) (p1_c143 P) (p1_c145 P) (p1_c147 P) (p1_c149 P) (p1_c151 P) (p1_c153 P) (p1_c155 P) c1 c2 c3
        refine ⟨H1, ?_, fun j hj => f.2 j⟩
        exact e
      · obtain ⟨H1, e, f⟩ := fx_cells_7 (sL := sL) (sx := sx) (cs := cs) (x0 := x0) (x1 := x1) (p1_c0 P) (p1_c115 P) (p1_c141 P) (p1_c143 P) (p1_c145 P) (p1_c147 P) (p1_c149 P) (p1_c151 P) (p1_c153 P) (p1_c155 P) c1 c2 c3
        refine ⟨H1, ?_, fun j hj => f.2 j⟩
        exact e
      · obtain ⟨H1, e, f⟩ := fx_cells_8 (sL := sL) (sx := sx) (cs := cs) (x0 := x0) (x1 := x1) (p1_c0 P) (p1_c115 P) (p1_c141 P) (p1_c143 P) (p1_c145 P) (p1_c147 P) (p1_c149 P) (p1_c151 P) (p1_c153 P) (p1_c155 P) c1 c2 c3
        refine ⟨H1, ?_, fun j hj => f.2 j⟩
        exact e
      · obtain ⟨H1, e, f⟩ := fx_cells_9 (sL := sL) (sx := sx) (cs := cs) (x0 := x0) (x1 := x1) (p1_c0 P) (p1_c115 P) (p1_c141 P) (p1_c143 P) (p1_c145 P) (p1_c147 P) (p1_c149 P) (p1_c151 P) (p1_c153 P) (p1_c155 P) c1 c2 c3
        refine ⟨H1, ?_, fun j hj => f.2 j⟩
        exact e

set_option maxRecDepth 100000 in
theorem px_roll {sL : Nat} {sx : Nat → Int32} {cs : Nat → Nat → Option Int32} {v3 : Int32} {h b : Nat} {H : am_H} {x0 x1 : Int32} (P : p1_P v3 h b H) (dm : p1_D v3 h b) : ∃ H1 : am_H, aX sL sx cs 116 0 [(0, .ref 0), (1, .int x0), (2, .int x1)] [] H 0 0 = some ((some (.int 0)), H1, 0, 0) ∧ ∀ j : Nat, 157 ≤ j → H1[j]? = H[j]? := by
  obtain ⟨d1, d2, d3, d4⟩ := dm
  by_cases c1 : x0 < 0
  · obtain ⟨H1, e, f⟩ := fx_roll_0 (sL := sL) (sx := sx) (cs := cs) (x0 := x0) (x1 := x1) (p1_c0 P) (p1_c115 P) (p1_c141 P) (p1_c143 P) (p1_c145 P) (p1_c147 P) (p1_c149 P) (p1_c151 P) (p1_c153 P) (p1_c155 P) c1
    refine ⟨H1, ?_, fun j hj => f.2 j⟩
    exact e
  · by_cases c2 : 8 ≤ x0
    · obtain ⟨H1, e, f⟩ := fx_roll_1 (sL := sL) (sx := sx) (cs := cs) (x0 := x0) (x1 := x1) (p1_c0 P) (p1_c115 P) (p1_c141 P) (p1_c143 P) (p1_c145 P) (p1_c147 P) (p1_c149 P) (p1_c151 P) (p1_c153 P) (p1_c155 P) c1 c2
      refine ⟨H1, ?_, fun j hj => f.2 j⟩
      exact e
    · rcases am_lt8 (x := x0) c1 (Int32.not_le.mp c2) with c3 | c3 | c3 | c3 | c3 | c3 | c3 | c3
      · obtain ⟨H1, e, f⟩ := fx_roll_2 (sL := sL) (sx := sx) (cs := cs) (x0 := x0) (x1 := x1) (p1_c0 P) (p1_c115 P) (p1_c141 P) (p1_c143 P) (p1_c145 P) (p1_c147 P) (p1_c149 P) (p1_c151 P) (p1_c153 P) (p1_c155 P) c1 c2 c3
        refine ⟨H1, ?_, fun j hj => f.2 j⟩
        exact e
      · obtain ⟨H1, e, f⟩ := fx_roll_3 (sL := sL) (sx := sx) (cs := cs) (x0 := x0) (x1 := x1) (p1_c0 P) (p1_c115 P) (p1_c141 P) (p1_c143 P) (p1_c145 P) (p1_c147 P) (p1_c149 P) (p1_c151 P) (p1_c153 P) (p1_c155 P) c1 c2 c3
        refine ⟨H1, ?_, fun j hj => f.2 j⟩
        exact e
      · obtain ⟨H1, e, f⟩ := fx_roll_4 (sL := sL) (sx := sx) (cs := cs) (x0 := x0) (x1 := x1) (p1_c0 P) (p1_c115 P) (p1_c141 P) (p1_c143 P) (p1_c145 P) (p1_c147 P) (p1_c149 P) (p1_c151 P) (p1_c153 P) (p1_c155 P) c1 c2 c3
        refine ⟨H1, ?_, fun j hj => f.2 j⟩
        exact e
      · obtain ⟨H1, e, f⟩ := fx_roll_5 (sL := sL) (sx := sx) (cs := cs) (x0 := x0) (x1 := x1) (p1_c0 P) (p1_c115 P) (p1_c141 P) (p1_c143 P) (p1_c145 P) (p1_c147 P) (p1_c149 P) (p1_c151 P) (p1_c153 P) (p1_c155 P) c1 c2 c3
        refine ⟨H1, ?_, fun j hj => f.2 j⟩
        exact e
      · obtain ⟨H1, e, f⟩ := fx_roll_6 (sL := sL) (sx := sx) (cs := cs) (x0 := x0) (x1 := x1) (p1_c0 P) (p1_c115 P) (p1_c141 P) (p1_c143 P) (p1_c145 P) (p1_c147 P) (p1_c149 P) (p1_c151 P) (p1_c153 P) (p1_c155 P) c1 c2 c3
        refine ⟨H1, ?_, fun j hj => f.2 j⟩
        exact e
      · obtain ⟨H1, e, f⟩ := fx_roll_7 (sL := sL) (sx := sx) (cs := cs) (x0 := x0) (x1 := x1) (p1_c0 P) (p1_c115 P) (p1_c141 P) (p1_c143 P) (p1_c145 P) (p1_c147 P) (p1_c149 P) (p1_c151 P) (p1_c153 P) (p1_c155 P) c1 c2 c3
        refine ⟨H1, ?_, fun j hj => f.2 j⟩
        exact e
      · obtain ⟨H1, e, f⟩ := fx_roll_8 (sL := sL) (sx := sx) (cs := cs) (x0 := x0) (x1 := x1) (p1_c0 P) (p1_c115 P) (p1_c141 P) (p1_c143 P) (p1_c145 P) (p1_c147 P) (p1_c149 P) (p1_c151 P) (p1_c153 P) (p1_c155 P) c1 c2 c3
        refine ⟨H1, ?_, fun j hj => f.2 j⟩
        exact e
      · obtain ⟨H1, e, f⟩ := fx_roll_9 (sL := sL) (sx := sx) (cs := cs) (x0 := x0) (x1 := x1) (p1_c0 P) (p1_c115 P) (p1_c141 P) (p1_c143 P) (p1_c145 P) (p1_c147 P) (p1_c149 P) (p1_c151 P) (p1_c153 P) (p1_c155 P) c1 c2 c3
        refine ⟨H1, ?_, fun j hj => f.2 j⟩
        exact e

set_option maxRecDepth 100000 in
theorem px_box {sL : Nat} {sx : Nat → Int32} {cs : Nat → Nat → Option Int32} {v3 : Int32} {h b : Nat} {H : am_H} {x0 : Int32} (P : p1_P v3 h b H) (dm : p1_D v3 h b) : ∃ H1 : am_H, aX sL sx cs 117 0 [(0, .ref 0), (1, .int x0)] [] H 0 0 = some ((some (.int 0)), H1, 0, 0) ∧ ∀ j : Nat, 157 ≤ j → H1[j]? = H[j]? := by
  obtain ⟨d1, d2, d3, d4⟩ := dm
  by_cases c1 : x0 < 0
  · obtain ⟨H1, e, f⟩ := fx_box_0 (sL := sL) (sx := sx) (cs := cs) (x0 := x0) (p1_c0 P) (p1_c115 P) (p1_c141 P) (p1_c143 P) (p1_c145 P) (p1_c147 P) (p1_c149 P) (p1_c151 P) (p1_c153 P) (p1_c155 P) c1
    refine ⟨H1, ?_, fun j hj => f.2 j⟩
    exact e
  · by_cases c2 : 8 ≤ x0
    · obtain ⟨H1, e, f⟩ := fx_box_1 (sL := sL) (sx := sx) (cs := cs) (x0 := x0) (p1_c0 P) (p1_c115 P) (p1_c141 P) (p1_c143 P) (p1_c145 P) (p1_c147 P) (p1_c149 P) (p1_c151 P) (p1_c153 P) (p1_c155 P) c1 c2
      refine ⟨H1, ?_, fun j hj => f.2 j⟩
      exact e
    · rcases am_lt8 (x := x0) c1 (Int32.not_le.mp c2) with c3 | c3 | c3 | c3 | c3 | c3 | c3 | c3
      · obtain ⟨H1, e, f⟩ := fx_box_2 (sL := sL) (sx := sx) (cs := cs) (x0 := x0) (p1_c0 P) (p1_c115 P) (p1_c141 P) (p1_c143 P) (p1_c145 P) (p1_c147 P) (p1_c149 P) (p1_c151 P) (p1_c153 P) (p1_c155 P) c1 c2 c3
        refine ⟨H1, ?_, fun j hj => f.2 j⟩
        exact e
      · obtain ⟨H1, e, f⟩ := fx_box_3 (sL := sL) (sx := sx) (cs := cs) (x0 := x0) (p1_c0 P) (p1_c115 P) (p1_c141 P) (p1_c143 P) (p1_c145 P) (p1_c147 P) (p1_c149 P) (p1_c151 P) (p1_c153 P) (p1_c155 P) c1 c2 c3
        refine ⟨H1, ?_, fun j hj => f.2 j⟩
        exact e
      · obtain ⟨H1, e, f⟩ := fx_box_4 (sL := sL) (sx := sx) (cs := cs) (x0 := x0) (p1_c0 P) (p1_c115 P) (p1_c141 P) (p1_c143 P) (p1_c145 P) (p1_c147 P) (p1_c149 P) (p1_c151 P) (p1_c153 P) (p1_c155 P) c1 c2 c3
        refine ⟨H1, ?_, fun j hj => f.2 j⟩
        exact e
      · obtain ⟨H1, e, f⟩ := fx_box_5 (sL := sL) (sx := sx) (cs := cs) (x0 := x0) (p1_c0 P) (p1_c115 P) (p1_c141 P) (p1_c143 P) (p1_c145 P) (p1_c147 P) (p1_c149 P) (p1_c151 P) (p1_c153 P) (p1_c155 P) c1 c2 c3
        refine ⟨H1, ?_, fun j hj => f.2 j⟩
        exact e
      · obtain ⟨H1, e, f⟩ := fx_box_6 (sL := sL) (sx := sx) (cs := cs) (x0 := x0) (p1_c0 P) (p1_c115 P) (p1_c141 P) (p1_c143 P) (p1_c145 P) (p1_c147 P) (p1_c149 P) (p1_c151 P) (p1_c153 P) (p1_c155 P) c1 c2 c3
        refine ⟨H1, ?_, fun j hj => f.2 j⟩
        exact e
      · obtain ⟨H1, e, f⟩ := fx_box_7 (sL := sL) (sx := sx) (cs := cs) (x0 := x0) (p1_c0 P) (p1_c115 P) (p1_c141 P) (p1_c143 P) (p1_c145 P) (p1_c147 P) (p1_c149 P) (p1_c151 P) (p1_c153 P) (p1_c155 P) c1 c2 c3
        refine ⟨H1, ?_, fun j hj => f.2 j⟩
        exact e
      · obtain ⟨H1, e, f⟩ := fx_box_8 (sL := sL) (sx := sx) (cs := cs) (x0 := x0) (p1_c0 P) (p1_c115 P) (p1_c141 P) (p1_c143 P) (p1_c145 P) (p1_c147 P) (p1_c149 P) (p1_c151 P) (p1_c153 P) (p1_c155 P) c1 c2 c3
        refine ⟨H1, ?_, fun j hj => f.2 j⟩
        exact e
      · obtain ⟨H1, e, f⟩ := fx_box_9 (sL := sL) (sx := sx) (cs := cs) (x0 := x0) (p1_c0 P) (p1_c115 P) (p1_c141 P) (p1_c143 P) (p1_c145 P) (p1_c147 P) (p1_c149 P) (p1_c151 P) (p1_c153 P) (p1_c155 P) c1 c2 c3
        refine ⟨H1, ?_, fun j hj => f.2 j⟩
        exact e

set_option maxRecDepth 100000 in
theorem px_look {sL : Nat} {sx : Nat → Int32} {cs : Nat → Nat → Option Int32} {v3 : Int32} {h b : Nat} {H : am_H} {x0 x1 x2 : Int32} (P : p1_P v3 h b H) (dm : p1_D v3 h b) : ∃ H1 : am_H, aX sL sx cs 119 0 [(0, .ref 0), (1, .int x0), (2, .int x1), (3, .int x2)] [] H 0 0 = some ((some (.int (-1))), H1, 0, 0) ∧ ∀ j : Nat, 157 ≤ j → H1[j]? = H[j]? := by
  obtain ⟨d1, d2, d3, d4⟩ := dm
  by_cases c1 : x0 < 0
  · obtain ⟨H1, e, f⟩ := fx_look_0 (sL := sL) (sx := sx) (cs := cs) (x0 := x0) (x1 := x1) (x2 := x2) (p1_c0 P) (p1_c115 P) (p1_c141 P) (p1_c143 P) (p1_c145 P) (p1_c147 P) (p1_c149 P) (p1_c151 P) (p1_c153 P) (p1_c155 P) c1
    refine ⟨H1, ?_, fun j hj => f.2 j⟩
    exact e
  · by_cases c2 : 8 ≤ x0
    · obtain ⟨H1, e, f⟩ := fx_look_1 (sL := sL) (sx := sx) (cs := cs) (x0 := x0) (x1 := x1) (x2 := x2) (p1_c0 P) (p1_c115 P) (p1_c141 P) (p1_c143 P) (p1_c145 P) (p1_c147 P) (p1_c149 P) (p1_c151 P) (p1_c153 P) (p1_c155 P) c1 c2
      refine ⟨H1, ?_, fun j hj => f.2 j⟩
      exact e
    · rcases am_lt8 (x := x0) c1 (Int32.not_le.mp c2) with c3 | c3 | c3 | c3 | c3 | c3 | c3 | c3
      · obtain ⟨H1, e, f⟩ := fx_look_2 (sL := sL) (sx := sx) (cs := cs) (x0 := x0) (x1 := x1) (x2 := x2) (p1_c0 P) (p1_c115 P) (p1_c141 P) (p1_c143 P) (p1_c145 P) (p1_c147 P) (p1_c149 P) (p1_c151 P) (p1_c153 P) (p1_c155 P) c1 c2 c3
        refine ⟨H1, ?_, fun j hj => f.2 j⟩
        exact e
      · obtain ⟨H1, e, f⟩ := fx_look_3 (sL := sL) (sx := sx) (cs := cs) (x0 := x0) (x1 := x1) (x2 := x2) (p1_c0 P) (p1_c115 P) (p1_c141 P) (p1_c143 P) (p1_c145 P) (p1_c147 P) (p1_c149 P) (p1_c151 P) (p1_c153 P) (p1_c155 P) c1 c2 c3
        refine ⟨H1, ?_, fun j hj => f.2 j⟩
        exact e
      · obtain ⟨H1, e, f⟩ := fx_look_4 (sL := sL) (sx := sx) (cs := cs) (x0 := x0) (x1 := x1) (x2 := x2) (p1_c0 P) (p1_c115 P) (p1_c141 P) (p1_c143 P) (p1_c145 P) (p1_c147 P) (p1_c149 P) (p1_c151 P) (p1_c153 P) (p1_c155 P) c1 c2 c3
        refine ⟨H1, ?_, fun j hj => f.2 j⟩
        exact e
      · obtain ⟨H1, e, f⟩ := fx_look_5 (sL := sL) (sx := sx) (cs := cs) (x0 := x0) (x1 := x1) (x2 := x2) (p1_c0 P) (p1_c115 P) (p1_c141 P) (p1_c143 P) (p1_c145 P) (p1_c147 P) (p1_c149 P) (p1_c151 P) (p1_c153 P) (p1_c155 P) c1 c2 c3
        refine ⟨H1, ?_, fun j hj => f.2 j⟩
        exact e
      · obtain ⟨H1, e, f⟩ := fx_look_6 (sL := sL) (sx := sx) (cs := cs) (x0 := x0) (x1 := x1) (x2 := x2) (p1_c0 P) (p1_c115 P) (p1_c141 P) (p1_c143 P) (p1_c145 P) (p1_c147 P) (p1_c149 P) (p1_c151 P) (p1_c153 P) (p1_c155 P) c1 c2 c3
        refine ⟨H1, ?_, fun j hj => f.2 j⟩
        exact e
      · obtain ⟨H1, e, f⟩ := fx_look_7 (sL := sL) (sx := sx) (cs := cs) (x0 := x0) (x1 := x1) (x2 := x2) (p1_c0 P) (p1_c115 P) (p1_c141 P) (p1_c143 P) (p1_c145 P) (p1_c147 P) (p1_c149 P) (p1_c151 P) (p1_c153 P) (p1_c155 P) c1 c2 c3
        refine ⟨H1, ?_, fun j hj => f.2 j⟩
        exact e
      · obtain ⟨H1, e, f⟩ := fx_look_8 (sL := sL) (sx := sx) (cs := cs) (x0 := x0) (x1 := x1) (x2 := x2) (p1_c0 P) (p1_c115 P) (p1_c141 P) (p1_c143 P) (p1_c145 P) (p1_c147 P) (p1_c149 P) (p1_c151 P) (p1_c153 P) (p1_c155 P) c1 c2 c3
        refine ⟨H1, ?_, fun j hj => f.2 j⟩
        exact e
      · obtain ⟨H1, e, f⟩ := fx_look_9 (sL := sL) (sx := sx) (cs := cs) (x0 := x0) (x1 := x1) (x2 := x2) (p1_c0 P) (p1_c115 P) (p1_c141 P) (p1_c143 P) (p1_c145 P) (p1_c147 P) (p1_c149 P) (p1_c151 P) (p1_c153 P) (p1_c155 P) c1 c2 c3
        refine ⟨H1, ?_, fun j hj => f.2 j⟩
        exact e

set_option maxRecDepth 100000 in
theorem px_where {sL : Nat} {sx : Nat → Int32} {cs : Nat → Nat → Option Int32} {v3 : Int32} {h b : Nat} {H : am_H} {x0 x1 : Int32} (P : p1_P v3 h b H) (dm : p1_D v3 h b) : ∃ H1 : am_H, aX sL sx cs 121 0 [(0, .ref 0), (1, .int x0), (2, .int x1)] [] H 0 0 = some ((some (.int (-1))), H1, 0, 0) ∧ ∀ j : Nat, 157 ≤ j → H1[j]? = H[j]? := by
  obtain ⟨d1, d2, d3, d4⟩ := dm
  by_cases c1 : x0 < 0
  · obtain ⟨H1, e, f⟩ := fx_where_0 (sL := sL) (sx := sx) (cs := cs) (x0 := x0) (x1 := x1) (p1_c0 P) (p1_c115 P) (p1_c141 P) (p1_c143 P) (p1_c145 P) (p1_c147 P) (p1_c149 P) (p1_c151 P) (p1_c153 P) (p1_c155 P) c1
    refine ⟨H1, ?_, fun j hj => f.2 j⟩
    exact e
  · by_cases c2 : 8 ≤ x0
    · obtain ⟨H1, e, f⟩ := fx_where_1 (sL := sL) (sx := sx) (cs := cs) (x0 := x0) (x1 := x1) (p1_c0 P) (p1_c115 P) (p1_c141 P) (p1_c143 P) (p1_c145 P) (p1_c147 P) (p1_c149 P) (p1_c151 P) (p1_c153 P) (p1_c155 P) c1 c2
      refine ⟨H1, ?_, fun j hj => f.2 j⟩
      exact e
    · rcases am_lt8 (x := x0) c1 (Int32.not_le.mp c2) with c3 | c3 | c3 | c3 | c3 | c3 | c3 | c3
      · obtain ⟨H1, e, f⟩ := fx_where_2 (sL := sL) (sx := sx) (cs := cs) (x0 := x0) (x1 := x1) (p1_c0 P) (p1_c115 P) (p1_c141 P) (p1_c143 P) (p1_c145 P) (p1_c147 P) (p1_c149 P) (p1_c151 P) (p1_c153 P) (p1_c155 P) c1 c2 c3
        refine ⟨H1, ?_, fun j hj => f.2 j⟩
        exact e
      · obtain ⟨H1, e, f⟩ := fx_where_3 (sL := sL) (sx := sx) (cs := cs) (x0 := x0) (x1 := x1) (p1_c0 P) (p1_c115 P) (p1_c141 P) (p1_c143 P) (p1_c145 P) (p1_c147 P) (p1_c149 P) (p1_c151 P) (p1_c153 P) (p1_c155 P) c1 c2 c3
        refine ⟨H1, ?_, fun j hj => f.2 j⟩
        exact e
      · obtain ⟨H1, e, f⟩ := fx_where_4 (sL := sL) (sx := sx) (cs := cs) (x0 := x0) (x1 := x1) (p1_c0 P) (p1_c115 P) (p1_c141 P) (p1_c143 P) (p1_c145 P) (p1_c147 P) (p1_c149 P) (p1_c151 P) (p1_c153 P) (p1_c155 P) c1 c2 c3
        refine ⟨H1, ?_, fun j hj => f.2 j⟩
        exact e
      · obtain ⟨H1, e, f⟩ := fx_where_5 (sL := sL) (sx := sx) (cs := cs) (x0 := x0) (x1 := x1) (p1_c0 P) (p1_c115 P) (p1_c141 P) (p1_c143 P) (p1_c145 P) (p1_c147 P) (p1_c149 P) (p1_c151 P) (p1_c153 P) (p1_c155 P) c1 c2 c3
        refine ⟨H1, ?_, fun j hj => f.2 j⟩
        exact e
      · obtain ⟨H1, e, f⟩ := fx_where_6 (sL := sL) (sx := sx) (cs := cs) (x0 := x0) (x1 := x1) (p1_c0 P) (p1_c115 P) (p1_c141 P) (p1_c143 P) (p1_c145 P) (p1_c147 P) (p1_c149 P) (p1_c151 P) (p1_c153 P) (p1_c155 P) c1 c2 c3
        refine ⟨H1, ?_, fun j hj => f.2 j⟩
        exact e
      · obtain ⟨H1, e, f⟩ := fx_where_7 (sL := sL) (sx := sx) (cs := cs) (x0 := x0) (x1 := x1) (p1_c0 P) (p1_c115 P) (p1_c141 P) (p1_c143 P) (p1_c145 P) (p1_c147 P) (p1_c149 P) (p1_c151 P) (p1_c153 P) (p1_c155 P) c1 c2 c3
        refine ⟨H1, ?_, fun j hj => f.2 j⟩
        exact e
      · obtain ⟨H1, e, f⟩ := fx_where_8 (sL := sL) (sx := sx) (cs := cs) (x0 := x0) (x1 := x1) (p1_c0 P) (p1_c115 P) (p1_c141 P) (p1_c143 P) (p1_c145 P) (p1_c147 P) (p1_c149 P) (p1_c151 P) (p1_c153 P) (p1_c155 P) c1 c2 c3
        refine ⟨H1, ?_, fun j hj => f.2 j⟩
        exact e
      · obtain ⟨H1, e, f⟩ := fx_where_9 (sL := sL) (sx := sx) (cs := cs) (x0 := x0) (x1 := x1) (p1_c0 P) (p1_c115 P) (p1_c141 P) (p1_c143 P) (p1_c145 P) (p1_c147 P) (p1_c149 P) (p1_c151 P) (p1_c153 P) (p1_c155 P) c1 c2 c3
        refine ⟨H1, ?_, fun j hj => f.2 j⟩
        exact e

set_option maxRecDepth 100000 in
theorem px_show {sL : Nat} {sx : Nat → Int32} {cs : Nat → Nat → Option Int32} {v3 : Int32} {h b : Nat} {H : am_H} {x0 : Int32} (P : p1_P v3 h b H) (dm : p1_D v3 h b) : ∃ H1 : am_H, aX sL sx cs 123 0 [(0, .ref 0), (1, .int x0)] [] H 0 0 = some ((some (.int (-1))), H1, 0, 0) ∧ ∀ j : Nat, 157 ≤ j → H1[j]? = H[j]? := by
  obtain ⟨d1, d2, d3, d4⟩ := dm
  by_cases c1 : x0 < 0
  · obtain ⟨H1, e, f⟩ := fx_show_0 (sL := sL) (sx := sx) (cs := cs) (x0 := x0) (p1_c0 P) (p1_c115 P) (p1_c141 P) (p1_c143 P) (p1_c145 P) (p1_c147 P) (p1_c149 P) (p1_c151 P) (p1_c153 P) (p1_c155 P) c1
    refine ⟨H1, ?_, fun j hj => f.2 j⟩
    exact e
  · by_cases c2 : 8 ≤ x0
    · obtain ⟨H1, e, f⟩ := fx_show_1 (sL := sL) (sx := sx) (cs := cs) (x0 := x0) (p1_c0 P) (p1_c115 P) (p1_c141 P) (p1_c143 P) (p1_c145 P) (p1_c147 P) (p1_c149 P) (p1_c151 P) (p1_c153 P) (p1_c155 P) c1 c2
      refine ⟨H1, ?_, fun j hj => f.2 j⟩
      exact e
    · rcases am_lt8 (x := x0) c1 (Int32.not_le.mp c2) with c3 | c3 | c3 | c3 | c3 | c3 | c3 | c3
      · obtain ⟨H1, e, f⟩ := fx_show_2 (sL := sL) (sx := sx) (cs := cs) (x0 := x0) (p1_c0 P) (p1_c115 P) (p1_c141 P) (p1_c143 P) (p1_c145 P) (p1_c147 P) (p1_c149 P) (p1_c151 P) (p1_c153 P) (p1_c155 P) c1 c2 c3
        refine ⟨H1, ?_, fun j hj => f.2 j⟩
        exact e
      · obtain ⟨H1, e, f⟩ := fx_show_3 (sL := sL) (sx := sx) (cs := cs) (x0 := x0) (p1_c0 P) (p1_c115 P) (p1_c141 P) (p1_c143 P) (p1_c145 P) (p1_c147 P) (p1_c149 P) (p1_c151 P) (p1_c153 P) (p1_c155 P) c1 c2 c3
        refine ⟨H1, ?_, fun j hj => f.2 j⟩
        exact e
      · obtain ⟨H1, e, f⟩ := fx_show_4 (sL := sL) (sx := sx) (cs := cs) (x0 := x0) (p1_c0 P) (p1_c115 P) (p1_c141 P) (p1_c143 P) (p1_c145 P) (p1_c147 P) (p1_c149 P) (p1_c151 P) (p1_c153 P) (p1_c155 P) c1 c2 c3
        refine ⟨H1, ?_, fun j hj => f.2 j⟩
        exact e
      · obtain ⟨H1, e, f⟩ := fx_show_5 (sL := sL) (sx := sx) (cs := cs) (x0 := x0) (p1_c0 P) (p1_c115 P) (p1_c141 P) (p1_c143 P) (p1_c145 P) (p1_c147 P) (p1_c149 P) (p1_c151 P) (p1_c153 P) (p1_c155 P) c1 c2 c3
        refine ⟨H1, ?_, fun j hj => f.2 j⟩
        exact e
      · obtain ⟨H1, e, f⟩ := fx_show_6 (sL := sL) (sx := sx) (cs := cs) (x0 := x0) (p1_c0 P) (p1_c115 P) (p1_c141 P) (p1_c143 P) (p1_c145 P) (p1_c147 P) (p1_c149 P) (p1_c151 P) (p1_c153 P) (p1_c155 P) c1 c2 c3
        refine ⟨H1, ?_, fun j hj => f.2 j⟩
        exact e
      · obtain ⟨H1, e, f⟩ := fx_show_7 (sL := sL) (sx := sx) (cs := cs) (x0 := x0) (p1_c0 P) (p1_c115 P) (p1_c141 P) (p1_c143 P) (p1_c145 P) (p1_c147 P) (p1_c149 P) (p1_c151 P) (p1_c153 P) (p1_c155 P) c1 c2 c3
        refine ⟨H1, ?_, fun j hj => f.2 j⟩
        exact e
      · obtain ⟨H1, e, f⟩ := fx_show_8 (sL := sL) (sx := sx) (cs := cs) (x0 := x0) (p1_c0 P) (p1_c115 P) (p1_c141 P) (p1_c143 P) (p1_c145 P) (p1_c147 P) (p1_c149 P) (p1_c151 P) (p1_c153 P) (p1_c155 P) c1 c2 c3
        refine ⟨H1, ?_, fun j hj => f.2 j⟩
        exact e
      · obtain ⟨H1, e, f⟩ := fx_show_9 (sL := sL) (sx := sx) (cs := cs) (x0 := x0) (p1_c0 P) (p1_c115 P) (p1_c141 P) (p1_c143 P) (p1_c145 P) (p1_c147 P) (p1_c149 P) (p1_c151 P) (p1_c153 P) (p1_c155 P) c1 c2 c3
        refine ⟨H1, ?_, fun j hj => f.2 j⟩
        exact e

set_option maxRecDepth 100000 in
theorem px_update {sL : Nat} {sx : Nat → Int32} {cs : Nat → Nat → Option Int32} {v3 : Int32} {h b : Nat} {H : am_H}  (P : p1_P v3 h b H) (dm : p1_D v3 h b) : ∃ H1 : am_H, aX sL sx cs 125 0 [(0, .ref 0)] [] H 0 0 = some ((some (.int (-1))), H1, 0, 0) ∧ ∀ j : Nat, 157 ≤ j → H1[j]? = H[j]? := by
  obtain ⟨d1, d2, d3, d4⟩ := dm
  obtain ⟨H1, e, f⟩ := fx_update_0 (sL := sL) (sx := sx) (cs := cs) (p1_c0 P)
  refine ⟨H1, ?_, fun j hj => f.2 j⟩
  exact e

set_option maxRecDepth 100000 in
theorem px_redraw {sL : Nat} {sx : Nat → Int32} {cs : Nat → Nat → Option Int32} {v3 : Int32} {h b : Nat} {H : am_H}  (P : p1_P v3 h b H) (dm : p1_D v3 h b) : ∃ H1 : am_H, aX sL sx cs 157 0 [(0, .ref 0)] [] H 0 0 = some ((some (.int 0)), H1, 0, 0) ∧ ∀ j : Nat, 157 ≤ j → H1[j]? = H[j]? := by
  obtain ⟨d1, d2, d3, d4⟩ := dm
  obtain ⟨H1, e, f⟩ := fx_redraw_0 (sL := sL) (sx := sx) (cs := cs) (p1_c0 P)
  refine ⟨H1, ?_, fun j hj => f.2 j⟩
  exact e

set_option maxRecDepth 100000 in
theorem px_known {sL : Nat} {sx : Nat → Int32} {cs : Nat → Nat → Option Int32} {v3 : Int32} {h b : Nat} {H : am_H} {x0 x1 : Int32} (P : p1_P v3 h b H) (dm : p1_D v3 h b) : ∃ H1 : am_H, aX sL sx cs 158 0 [(0, .ref 0), (1, .int x0), (2, .int x1)] [] H 0 0 = some ((some (.int (-1))), H1, 0, 0) ∧ ∀ j : Nat, 157 ≤ j → H1[j]? = H[j]? := by
  obtain ⟨d1, d2, d3, d4⟩ := dm
  obtain ⟨H1, e, f⟩ := fx_known_0 (sL := sL) (sx := sx) (cs := cs) (x0 := x0) (x1 := x1) (p1_c0 P)
  refine ⟨H1, ?_, fun j hj => f.2 j⟩
  exact e

set_option maxRecDepth 100000 in
theorem px_wanted {sL : Nat} {sx : Nat → Int32} {cs : Nat → Nat → Option Int32} {v3 : Int32} {h b : Nat} {H : am_H} {x0 x1 : Int32} (P : p1_P v3 h b H) (dm : p1_D v3 h b) : ∃ H1 : am_H, aX sL sx cs 159 0 [(0, .ref 0), (1, .int x0), (2, .int x1)] [] H 0 0 = some ((some (.int (-1))), H1, 0, 0) ∧ ∀ j : Nat, 157 ≤ j → H1[j]? = H[j]? := by
  obtain ⟨d1, d2, d3, d4⟩ := dm
  obtain ⟨H1, e, f⟩ := fx_wanted_0 (sL := sL) (sx := sx) (cs := cs) (x0 := x0) (x1 := x1) (p1_c0 P)
  refine ⟨H1, ?_, fun j hj => f.2 j⟩
  exact e

set_option maxRecDepth 100000 in
theorem px_flags {sL : Nat} {sx : Nat → Int32} {cs : Nat → Nat → Option Int32} {v3 : Int32} {h b : Nat} {H : am_H} {x0 : Int32} (P : p1_P v3 h b H) (dm : p1_D v3 h b) : ∃ H1 : am_H, aX sL sx cs 160 0 [(0, .ref 0), (1, .int x0)] [] H 0 0 = some ((some (.int 127)), H1, 0, 0) ∧ ∀ j : Nat, 157 ≤ j → H1[j]? = H[j]? := by
  obtain ⟨d1, d2, d3, d4⟩ := dm
  by_cases c1 : ((x0 &&& 255) &&& 1) = 0
  · obtain ⟨H1, e, f⟩ := fx_flags_0 (sL := sL) (sx := sx) (cs := cs) (x0 := x0) (p1_c0 P) (p1_c116 P) (p1_c119 P) c1
    refine ⟨H1, ?_, fun j hj => f.2 j (by omega) (by omega)⟩
    exact e
  · obtain ⟨H1, e, f⟩ := fx_flags_1 (sL := sL) (sx := sx) (cs := cs) (x0 := x0) (p1_c0 P) (p1_c116 P) (p1_c119 P) c1
    refine ⟨H1, ?_, fun j hj => f.2 j (by omega)⟩
    exact e

set_option maxRecDepth 100000 in
theorem px_write {sL : Nat} {sx : Nat → Int32} {cs : Nat → Nat → Option Int32} {v3 : Int32} {h b : Nat} {H : am_H}  (P : p1_P v3 h b H) (dm : p1_D v3 h b) : ∃ H1 : am_H, aX sL sx cs 166 0 [(0, .ref 0)] [] H 0 0 = some ((some (.int 0)), H1, 0, 0) ∧ ∀ j : Nat, 157 ≤ j → H1[j]? = H[j]? := by
  obtain ⟨d1, d2, d3, d4⟩ := dm
  obtain ⟨H1, e, f⟩ := fx_write_0 (sL := sL) (sx := sx) (cs := cs) (p1_c0 P)
  refine ⟨H1, ?_, fun j hj => f.2 j (by omega)⟩
  exact e

set_option maxRecDepth 100000 in
theorem px_read {sL : Nat} {sx : Nat → Int32} {cs : Nat → Nat → Option Int32} {v3 : Int32} {h b : Nat} {H : am_H} {x0 : Int32} (P : p1_P v3 h b H) (dm : p1_D v3 h b) : ∃ H1 : am_H, aX sL sx cs 170 0 [(0, .ref 0), (1, .int x0)] [] H 0 0 = some ((some (.int (-1))), H1, 0, 0) ∧ ∀ j : Nat, 157 ≤ j → H1[j]? = H[j]? := by
  obtain ⟨d1, d2, d3, d4⟩ := dm
  by_cases c1 : x0 < 1
  · obtain ⟨H1, e, f⟩ := fx_read_0 (sL := sL) (sx := sx) (cs := cs) (x0 := x0) (p1_c0 P) (p1_c116 P) (p1_c121 P) c1
    refine ⟨H1, ?_, fun j hj => f.2 j⟩
    exact e
  · by_cases c2 : 300 < x0
    · obtain ⟨H1, e, f⟩ := fx_read_1 (sL := sL) (sx := sx) (cs := cs) (x0 := x0) (p1_c0 P) (p1_c116 P) (p1_c121 P) c1 c2
      refine ⟨H1, ?_, fun j hj => f.2 j⟩
      exact e
    · obtain ⟨H1, e, f⟩ := fx_read_2 (sL := sL) (sx := sx) (cs := cs) (x0 := x0) (p1_c0 P) (p1_c116 P) (p1_c121 P) c1 c2
      refine ⟨H1, ?_, fun j hj => f.2 j⟩
      exact e

set_option maxRecDepth 100000 in
theorem px_key {sL : Nat} {sx : Nat → Int32} {cs : Nat → Nat → Option Int32} {v3 : Int32} {h b : Nat} {H : am_H} {x0 x1 : Int32} (P : p1_P v3 h b H) (dm : p1_D v3 h b) : ∃ H1 : am_H, aX sL sx cs 173 0 [(0, .ref 0), (1, .int x0), (2, .int x1)] [] H 0 0 = some ((some (.int (if x0 < 0 then (0 : Int32) else (if 127 ≤ x0 then (0 : Int32) else (if x0 ≤ 28 then (1 : Int32) else (if 32 ≤ x0 then (1 : Int32) else 0)))))), H1, 0, 0) ∧ ∀ j : Nat, 157 ≤ j → H1[j]? = H[j]? := by
  obtain ⟨d1, d2, d3, d4⟩ := dm
  by_cases c1 : x0 < 0
  · have ic1 := (p1_lt (x := x0) (y := 0) (m := x0.toInt) (n := 0) rfl (by decide)).mp c1
    obtain ⟨H1, e, f⟩ := fx_key_0 (sL := sL) (sx := sx) (cs := cs) (x0 := x0) (x1 := x1) (p1_c0 P) (p1_c123 P) (p1_c124 P) (p1_c125 P) c1
    refine ⟨H1, ?_, fun j hj => f.2 j⟩
    rw [if_pos ((p1_lt (x := x0) (y := 0) (m := x0.toInt) (n := 0) rfl (by decide)).mpr (by omega))]
    exact e
  · by_cases c2 : 127 ≤ x0
    · have ic1 := mt (p1_lt (x := x0) (y := 0) (m := x0.toInt) (n := 0) rfl (by decide)).mpr c1
      have ic2 := (p1_le (x := 127) (y := x0) (m := 127) (n := x0.toInt) (by decide) rfl).mp c2
      obtain ⟨H1, e, f⟩ := fx_key_1 (sL := sL) (sx := sx) (cs := cs) (x0 := x0) (x1 := x1) (p1_c0 P) (p1_c123 P) (p1_c124 P) (p1_c125 P) c1 c2
      refine ⟨H1, ?_, fun j hj => f.2 j⟩
      rw [if_neg (mt (p1_lt (x := x0) (y := 0) (m := x0.toInt) (n := 0) rfl (by decide)).mp (by omega)), if_pos ((p1_le (x := 127) (y := x0) (m := 127) (n := x0.toInt) (by decide) rfl).mpr (by omega))]
      exact e
    · by_cases c3 : x0 ≤ 28
      · by_cases c4 : x1 = 0
        · have ic1 := mt (p1_lt (x := x0) (y := 0) (m := x0.toInt) (n := 0) rfl (by decide)).mpr c1
          have ic2 := mt (p1_le (x := 127) (y := x0) (m := 127) (n := x0.toInt) (by decide) rfl).mpr c2
          have ic3 := (p1_le (x := x0) (y := 28) (m := x0.toInt) (n := 28) rfl (by decide)).mp c3
          have ic4 := (p1_eq (x := x1) (y := 0) (m := x1.toInt) (n := 0) rfl (by decide)).mp c4
          obtain ⟨ks1, hks1, eks1, -⟩ := p1_of (x := x0) (h := 127) (by omega) (by omega)
          obtain ⟨H1, e, f⟩ := fx_key_2 (sL := sL) (sx := sx) (cs := cs) (x0 := x0) (x1 := x1) (p1_c0 P) (p1_c123 P) (p1_c124 P) (p1_c125 P) c1 c2 c3 c4 (within eks1 hks1 (by omega))
          refine ⟨H1, ?_, fun j hj => f.2 j (by omega)⟩
          rw [if_neg (mt (p1_lt (x := x0) (y := 0) (m := x0.toInt) (n := 0) rfl (by decide)).mp (by omega)), if_neg (mt (p1_le (x := 127) (y := x0) (m := 127) (n := x0.toInt) (by decide) rfl).mp (by omega)), if_pos ((p1_le (x := x0) (y := 28) (m := x0.toInt) (n := 28) rfl (by decide)).mpr (by omega))]
          exact e
        · have ic1 := mt (p1_lt (x := x0) (y := 0) (m := x0.toInt) (n := 0) rfl (by decide)).mpr c1
          have ic2 := mt (p1_le (x := 127) (y := x0) (m := 127) (n := x0.toInt) (by decide) rfl).mpr c2
          have ic3 := (p1_le (x := x0) (y := 28) (m := x0.toInt) (n := 28) rfl (by decide)).mp c3
          have ic4 := mt (p1_eq (x := x1) (y := 0) (m := x1.toInt) (n := 0) rfl (by decide)).mpr c4
          obtain ⟨ks1, hks1, eks1, -⟩ := p1_of (x := x0) (h := 127) (by omega) (by omega)
          obtain ⟨H1, e, f⟩ := fx_key_3 (sL := sL) (sx := sx) (cs := cs) (x0 := x0) (x1 := x1) (p1_c0 P) (p1_c123 P) (p1_c124 P) (p1_c125 P) c1 c2 c3 c4 (within eks1 hks1 (by omega))
          refine ⟨H1, ?_, fun j hj => f.2 j (by omega) (by omega)⟩
          rw [if_neg (mt (p1_lt (x := x0) (y := 0) (m := x0.toInt) (n := 0) rfl (by decide)).mp (by omega)), if_neg (mt (p1_le (x := 127) (y := x0) (m := 127) (n := x0.toInt) (by decide) rfl).mp (by omega)), if_pos ((p1_le (x := x0) (y := 28) (m := x0.toInt) (n := 28) rfl (by decide)).mpr (by omega))]
          exact e
      · by_cases c4 : 32 ≤ x0
        · by_cases c5 : x1 = 0
          · have ic1 := mt (p1_lt (x := x0) (y := 0) (m := x0.toInt) (n := 0) rfl (by decide)).mpr c1
            have ic2 := mt (p1_le (x := 127) (y := x0) (m := 127) (n := x0.toInt) (by decide) rfl).mpr c2
            have ic3 := mt (p1_le (x := x0) (y := 28) (m := x0.toInt) (n := 28) rfl (by decide)).mpr c3
            have ic4 := (p1_le (x := 32) (y := x0) (m := 32) (n := x0.toInt) (by decide) rfl).mp c4
            have ic5 := (p1_eq (x := x1) (y := 0) (m := x1.toInt) (n := 0) rfl (by decide)).mp c5
            obtain ⟨ks1, hks1, eks1, -⟩ := p1_of (x := x0) (h := 127) (by omega) (by omega)
            obtain ⟨H1, e, f⟩ := fx_key_4 (sL := sL) (sx := sx) (cs := cs) (x0 := x0) (x1 := x1) (p1_c0 P) (p1_c123 P) (p1_c124 P) (p1_c125 P) c1 c2 c3 c4 c5 (within eks1 hks1 (by omega))
            refine ⟨H1, ?_, fun j hj => f.2 j (by omega)⟩
            rw [if_neg (mt (p1_lt (x := x0) (y := 0) (m := x0.toInt) (n := 0) rfl (by decide)).mp (by omega)), if_neg (mt (p1_le (x := 127) (y := x0) (m := 127) (n := x0.toInt) (by decide) rfl).mp (by omega)), if_neg (mt (p1_le (x := x0) (y := 28) (m := x0.toInt) (n := 28) rfl (by decide)).mp (by omega)), if_pos ((p1_le (x := 32) (y := x0) (m := 32) (n := x0.toInt) (by decide) rfl).mpr (by omega))]
            exact e
          · have ic1 := mt (p1_lt (x := x0) (y := 0) (m := x0.toInt) (n := 0) rfl (by decide)).mpr c1
            have ic2 := mt (p1_le (x := 127) (y := x0) (m := 127) (n := x0.toInt) (by decide) rfl).mpr c2
            have ic3 := mt (p1_le (x := x0) (y := 28) (m := x0.toInt) (n := 28) rfl (by decide)).mpr c3
            have ic4 := (p1_le (x := 32) (y := x0) (m := 32) (n := x0.toInt) (by decide) rfl).mp c4
            have ic5 := mt (p1_eq (x := x1) (y := 0) (m := x1.toInt) (n := 0) rfl (by decide)).mpr c5
            obtain ⟨ks1, hks1, eks1, -⟩ := p1_of (x := x0) (h := 127) (by omega) (by omega)
            obtain ⟨H1, e, f⟩ := fx_key_5 (sL := sL) (sx := sx) (cs := cs) (x0 := x0) (x1 := x1) (p1_c0 P) (p1_c123 P) (p1_c124 P) (p1_c125 P) c1 c2 c3 c4 c5 (within eks1 hks1 (by omega))
            refine ⟨H1, ?_, fun j hj => f.2 j (by omega) (by omega)⟩
            rw [if_neg (mt (p1_lt (x := x0) (y := 0) (m := x0.toInt) (n := 0) rfl (by decide)).mp (by omega)), if_neg (mt (p1_le (x := 127) (y := x0) (m := 127) (n := x0.toInt) (by decide) rfl).mp (by omega)), if_neg (mt (p1_le (x := x0) (y := 28) (m := x0.toInt) (n := 28) rfl (by decide)).mp (by omega)), if_pos ((p1_le (x := 32) (y := x0) (m := 32) (n := x0.toInt) (by decide) rfl).mpr (by omega))]
            exact e
        · have ic1 := mt (p1_lt (x := x0) (y := 0) (m := x0.toInt) (n := 0) rfl (by decide)).mpr c1
          have ic2 := mt (p1_le (x := 127) (y := x0) (m := 127) (n := x0.toInt) (by decide) rfl).mpr c2
          have ic3 := mt (p1_le (x := x0) (y := 28) (m := x0.toInt) (n := 28) rfl (by decide)).mpr c3
          have ic4 := mt (p1_le (x := 32) (y := x0) (m := 32) (n := x0.toInt) (by decide) rfl).mpr c4
          obtain ⟨H1, e, f⟩ := fx_key_6 (sL := sL) (sx := sx) (cs := cs) (x0 := x0) (x1 := x1) (p1_c0 P) (p1_c123 P) (p1_c124 P) (p1_c125 P) c1 c2 c3 c4
          refine ⟨H1, ?_, fun j hj => f.2 j⟩
          rw [if_neg (mt (p1_lt (x := x0) (y := 0) (m := x0.toInt) (n := 0) rfl (by decide)).mp (by omega)), if_neg (mt (p1_le (x := 127) (y := x0) (m := 127) (n := x0.toInt) (by decide) rfl).mp (by omega)), if_neg (mt (p1_le (x := x0) (y := 28) (m := x0.toInt) (n := 28) rfl (by decide)).mp (by omega)), if_neg (mt (p1_le (x := 32) (y := x0) (m := 32) (n := x0.toInt) (by decide) rfl).mp (by omega))]
          exact e

set_option maxRecDepth 100000 in
theorem px_spoil {sL : Nat} {sx : Nat → Int32} {cs : Nat → Nat → Option Int32} {v3 : Int32} {h b : Nat} {H : am_H} {x0 : Int32} (P : p1_P v3 h b H) (dm : p1_D v3 h b) : ∃ H1 : am_H, aX sL sx cs 175 0 [(0, .ref 0), (1, .int x0)] [] H 0 0 = some ((some (.int 0)), H1, 0, 0) ∧ ∀ j : Nat, 157 ≤ j → H1[j]? = H[j]? := by
  obtain ⟨d1, d2, d3, d4⟩ := dm
  by_cases c1 : x0 = 0
  · obtain ⟨H1, e, f⟩ := fx_spoil_0 (sL := sL) (sx := sx) (cs := cs) (x0 := x0) (p1_c0 P) (p1_c127 P) (p1_c128 P) c1
    refine ⟨H1, ?_, fun j hj => f.2 j (by omega)⟩
    exact e
  · by_cases c2 : x0 = 1
    · obtain ⟨H1, e, f⟩ := fx_spoil_1 (sL := sL) (sx := sx) (cs := cs) (x0 := x0) (p1_c0 P) (p1_c127 P) (p1_c128 P) c1 c2
      refine ⟨H1, ?_, fun j hj => f.2 j (by omega)⟩
      exact e
    · obtain ⟨H1, e, f⟩ := fx_spoil_2 (sL := sL) (sx := sx) (cs := cs) (x0 := x0) (p1_c0 P) (p1_c127 P) (p1_c128 P) c1 c2
      refine ⟨H1, ?_, fun j hj => f.2 j⟩
      exact e

set_option maxRecDepth 100000 in
theorem px_screen {sL : Nat} {sx : Nat → Int32} {cs : Nat → Nat → Option Int32} {v3 : Int32} {h b : Nat} {H : am_H} {x0 x1 : Int32} (P : p1_P v3 h b H) (dm : p1_D v3 h b) : ∃ H1 : am_H, aX sL sx cs 248 0 [(0, .ref 0), (1, .int x0), (2, .int x1)] [] H 0 0 = some ((some (.int (if x0 < 0 then ((-1) : Int32) else (if Int32.ofNat h ≤ x0 then ((-1) : Int32) else (if x1 < 0 then ((-1) : Int32) else (if Int32.ofNat b ≤ x1 then ((-1) : Int32) else 32)))))), H1, 0, 0) ∧ ∀ j : Nat, 157 ≤ j → H1[j]? = H[j]? := by
  obtain ⟨d1, d2, d3, d4⟩ := dm
  by_cases c1 : x0 < 0
  · have ic1 := (p1_lt (x := x0) (y := 0) (m := x0.toInt) (n := 0) rfl (by decide)).mp c1
    obtain ⟨H1, e, f⟩ := fx_screen_0 (sL := sL) (sx := sx) (cs := cs) (x0 := x0) (x1 := x1) (p1_c0 P) (p1_c129 P) (p1_c136 P) (p1_c138 P) c1
    refine ⟨H1, ?_, fun j hj => f.2 j⟩
    rw [if_pos ((p1_lt (x := x0) (y := 0) (m := x0.toInt) (n := 0) rfl (by decide)).mpr (by omega))]
    exact e
  · by_cases c2 : (Int32.ofNat h) ≤ x0
    · have ic1 := mt (p1_lt (x := x0) (y := 0) (m := x0.toInt) (n := 0) rfl (by decide)).mpr c1
      have ic2 := (p1_le (x := Int32.ofNat h) (y := x0) (m := (h : Int)) (n := x0.toInt) (p1_n (by omega)) rfl).mp c2
      obtain ⟨H1, e, f⟩ := fx_screen_1 (sL := sL) (sx := sx) (cs := cs) (x0 := x0) (x1 := x1) (p1_c0 P) (p1_c129 P) (p1_c136 P) (p1_c138 P) c1 c2
      refine ⟨H1, ?_, fun j hj => f.2 j⟩
      rw [if_neg (mt (p1_lt (x := x0) (y := 0) (m := x0.toInt) (n := 0) rfl (by decide)).mp (by omega)), if_pos ((p1_le (x := Int32.ofNat h) (y := x0) (m := (h : Int)) (n := x0.toInt) (p1_n (by omega)) rfl).mpr (by omega))]
      exact e
    · by_cases c3 : x1 < 0
      · have ic1 := mt (p1_lt (x := x0) (y := 0) (m := x0.toInt) (n := 0) rfl (by decide)).mpr c1
        have ic2 := mt (p1_le (x := Int32.ofNat h) (y := x0) (m := (h : Int)) (n := x0.toInt) (p1_n (by omega)) rfl).mpr c2
        have ic3 := (p1_lt (x := x1) (y := 0) (m := x1.toInt) (n := 0) rfl (by decide)).mp c3
        obtain ⟨H1, e, f⟩ := fx_screen_2 (sL := sL) (sx := sx) (cs := cs) (x0 := x0) (x1 := x1) (p1_c0 P) (p1_c129 P) (p1_c136 P) (p1_c138 P) c1 c2 c3
        refine ⟨H1, ?_, fun j hj => f.2 j⟩
        rw [if_neg (mt (p1_lt (x := x0) (y := 0) (m := x0.toInt) (n := 0) rfl (by decide)).mp (by omega)), if_neg (mt (p1_le (x := Int32.ofNat h) (y := x0) (m := (h : Int)) (n := x0.toInt) (p1_n (by omega)) rfl).mp (by omega)), if_pos ((p1_lt (x := x1) (y := 0) (m := x1.toInt) (n := 0) rfl (by decide)).mpr (by omega))]
        exact e
      · by_cases c4 : (Int32.ofNat b) ≤ x1
        · have ic1 := mt (p1_lt (x := x0) (y := 0) (m := x0.toInt) (n := 0) rfl (by decide)).mpr c1
          have ic2 := mt (p1_le (x := Int32.ofNat h) (y := x0) (m := (h : Int)) (n := x0.toInt) (p1_n (by omega)) rfl).mpr c2
          have ic3 := mt (p1_lt (x := x1) (y := 0) (m := x1.toInt) (n := 0) rfl (by decide)).mpr c3
          have ic4 := (p1_le (x := Int32.ofNat b) (y := x1) (m := (b : Int)) (n := x1.toInt) (p1_n (by omega)) rfl).mp c4
          obtain ⟨H1, e, f⟩ := fx_screen_3 (sL := sL) (sx := sx) (cs := cs) (x0 := x0) (x1 := x1) (p1_c0 P) (p1_c129 P) (p1_c136 P) (p1_c138 P) c1 c2 c3 c4
          refine ⟨H1, ?_, fun j hj => f.2 j⟩
          rw [if_neg (mt (p1_lt (x := x0) (y := 0) (m := x0.toInt) (n := 0) rfl (by decide)).mp (by omega)), if_neg (mt (p1_le (x := Int32.ofNat h) (y := x0) (m := (h : Int)) (n := x0.toInt) (p1_n (by omega)) rfl).mp (by omega)), if_neg (mt (p1_lt (x := x1) (y := 0) (m := x1.toInt) (n := 0) rfl (by decide)).mp (by omega)), if_pos ((p1_le (x := Int32.ofNat b) (y := x1) (m := (b : Int)) (n := x1.toInt) (p1_n (by omega)) rfl).mpr (by omega))]
          exact e
        · have ic1 := mt (p1_lt (x := x0) (y := 0) (m := x0.toInt) (n := 0) rfl (by decide)).mpr c1
          have ic2 := mt (p1_le (x := Int32.ofNat h) (y := x0) (m := (h : Int)) (n := x0.toInt) (p1_n (by omega)) rfl).mpr c2
          have ic3 := mt (p1_lt (x := x1) (y := 0) (m := x1.toInt) (n := 0) rfl (by decide)).mpr c3
          have ic4 := mt (p1_le (x := Int32.ofNat b) (y := x1) (m := (b : Int)) (n := x1.toInt) (p1_n (by omega)) rfl).mpr c4
          obtain ⟨k, hk, ek, hm⟩ := p1_ix (x := x0) (y := x1) (h := h) (b := b) (w := b) (Nat.le_refl _) d2 d4 (by omega) (by omega) (by omega) (by omega)
          obtain ⟨H1, e, f⟩ := fx_screen_4 (sL := sL) (sx := sx) (cs := cs) (x0 := x0) (x1 := x1) (p1_c0 P) (p1_c129 P) (p1_c136 P) (p1_c138 P) c1 c2 c3 c4 (within ek hk hm)
          refine ⟨H1, ?_, fun j hj => f.2 j⟩
          rw [p1_f32 ek hk hm] at e
          rw [if_neg (mt (p1_lt (x := x0) (y := 0) (m := x0.toInt) (n := 0) rfl (by decide)).mp (by omega)), if_neg (mt (p1_le (x := Int32.ofNat h) (y := x0) (m := (h : Int)) (n := x0.toInt) (p1_n (by omega)) rfl).mp (by omega)), if_neg (mt (p1_lt (x := x1) (y := 0) (m := x1.toInt) (n := 0) rfl (by decide)).mp (by omega)), if_neg (mt (p1_le (x := Int32.ofNat b) (y := x1) (m := (b : Int)) (n := x1.toInt) (p1_n (by omega)) rfl).mp (by omega))]
          exact e

set_option maxRecDepth 100000 in
theorem px_width {sL : Nat} {sx : Nat → Int32} {cs : Nat → Nat → Option Int32} {v3 : Int32} {h b : Nat} {H : am_H} {x0 : Int32} (P : p1_P v3 h b H) (dm : p1_D v3 h b) : ∃ H1 : am_H, aX sL sx cs 250 0 [(0, .ref 0), (1, .int x0)] [] H 0 0 = some ((some (.int (if x0 < 0 then ((-1) : Int32) else (if Int32.ofNat h ≤ x0 then ((-1) : Int32) else 0)))), H1, 0, 0) ∧ ∀ j : Nat, 157 ≤ j → H1[j]? = H[j]? := by
  obtain ⟨d1, d2, d3, d4⟩ := dm
  by_cases c1 : x0 < 0
  · have ic1 := (p1_lt (x := x0) (y := 0) (m := x0.toInt) (n := 0) rfl (by decide)).mp c1
    obtain ⟨H1, e, f⟩ := fx_width_0 (sL := sL) (sx := sx) (cs := cs) (x0 := x0) (p1_c0 P) (p1_c129 P) (p1_c136 P) (p1_c139 P) c1
    refine ⟨H1, ?_, fun j hj => f.2 j⟩
    rw [if_pos ((p1_lt (x := x0) (y := 0) (m := x0.toInt) (n := 0) rfl (by decide)).mpr (by omega))]
    exact e
  · by_cases c2 : (Int32.ofNat h) ≤ x0
    · have ic1 := mt (p1_lt (x := x0) (y := 0) (m := x0.toInt) (n := 0) rfl (by decide)).mpr c1
      have ic2 := (p1_le (x := Int32.ofNat h) (y := x0) (m := (h : Int)) (n := x0.toInt) (p1_n (by omega)) rfl).mp c2
      obtain ⟨H1, e, f⟩ := fx_width_1 (sL := sL) (sx := sx) (cs := cs) (x0 := x0) (p1_c0 P) (p1_c129 P) (p1_c136 P) (p1_c139 P) c1 c2
      refine ⟨H1, ?_, fun j hj => f.2 j⟩
      rw [if_neg (mt (p1_lt (x := x0) (y := 0) (m := x0.toInt) (n := 0) rfl (by decide)).mp (by omega)), if_pos ((p1_le (x := Int32.ofNat h) (y := x0) (m := (h : Int)) (n := x0.toInt) (p1_n (by omega)) rfl).mpr (by omega))]
      exact e
    · by_cases c3 : (Int32.ofNat b) ≤ 0
      · have ic1 := mt (p1_lt (x := x0) (y := 0) (m := x0.toInt) (n := 0) rfl (by decide)).mpr c1
        have ic2 := mt (p1_le (x := Int32.ofNat h) (y := x0) (m := (h : Int)) (n := x0.toInt) (p1_n (by omega)) rfl).mpr c2
        have ic3 := (p1_le (x := Int32.ofNat b) (y := 0) (m := (b : Int)) (n := 0) (p1_n (by omega)) (by decide)).mp c3
        exfalso
        omega
      · have ic1 := mt (p1_lt (x := x0) (y := 0) (m := x0.toInt) (n := 0) rfl (by decide)).mpr c1
        have ic2 := mt (p1_le (x := Int32.ofNat h) (y := x0) (m := (h : Int)) (n := x0.toInt) (p1_n (by omega)) rfl).mpr c2
        have ic3 := mt (p1_le (x := Int32.ofNat b) (y := 0) (m := (b : Int)) (n := 0) (p1_n (by omega)) (by decide)).mpr c3
        obtain ⟨ks1, hks1, eks1, -⟩ := p1_of (x := x0) (h := h) (by omega) (by omega)
        obtain ⟨H1, e, f⟩ := fx_width_3 (sL := sL) (sx := sx) (cs := cs) (x0 := x0) (p1_c0 P) (p1_c129 P) (p1_c136 P) (p1_c139 P) c1 c2 c3 (within eks1 hks1 (by omega))
        refine ⟨H1, ?_, fun j hj => f.2 j⟩
        rw [if_neg (mt (p1_lt (x := x0) (y := 0) (m := x0.toInt) (n := 0) rfl (by decide)).mp (by omega)), if_neg (mt (p1_le (x := Int32.ofNat h) (y := x0) (m := (h : Int)) (n := x0.toInt) (p1_n (by omega)) rfl).mp (by omega))]
        exact e

set_option maxRecDepth 100000 in
theorem px_state {sL : Nat} {sx : Nat → Int32} {cs : Nat → Nat → Option Int32} {v3 : Int32} {h b : Nat} {H : am_H} {x0 : Int32} (P : p1_P v3 h b H) (dm : p1_D v3 h b) : ∃ H1 : am_H, aX sL sx cs 251 0 [(0, .ref 0), (1, .int x0)] [] H 0 0 = some ((some (.int (if x0 = 0 then (0 : Int32) else (if x0 = 1 then (0 : Int32) else (if x0 = 2 then (0 : Int32) else (if x0 = 3 then (0 : Int32) else (if x0 = 4 then ((Int32.ofNat h - 1) : Int32) else (if x0 = 5 then (0 : Int32) else (if x0 = 6 then (96 : Int32) else (if x0 = 7 then (0 : Int32) else (if x0 = 8 then (0 : Int32) else (if x0 = 9 then (0 : Int32) else (if x0 = 10 then (0 : Int32) else (if x0 = 11 then (0 : Int32) else (if x0 = 12 then (0 : Int32) else (if x0 = 13 then (0 : Int32) else (if x0 = 14 then (0 : Int32) else (if x0 = 15 then (0 : Int32) else (if x0 = 16 then (0 : Int32) else (if x0 = 17 then (0 : Int32) else (-1))))))))))))))))))))), H1, 0, 0) ∧ ∀ j : Nat, 157 ≤ j → H1[j]? = H[j]? := by
  obtain ⟨d1, d2, d3, d4⟩ := dm
  by_cases c1 : x0 = 18
  · have ic1 := (p1_eq (x := x0) (y := 18) (m := x0.toInt) (n := 18) rfl (by decide)).mp c1
    obtain ⟨H1, e, f⟩ := fx_state_0 (sL := sL) (sx := sx) (cs := cs) (x0 := x0) (p1_c0 P) (p1_c123 P) (p1_c129 P) (p1_c136 P) (p1_c130 P) (p1_c132 P) c1
    refine ⟨H1, ?_, fun j hj => f.2 j⟩
    rw [if_neg (mt (p1_eq (x := x0) (y := 0) (m := x0.toInt) (n := 0) rfl (by decide)).mp (by omega)), if_neg (mt (p1_eq (x := x0) (y := 1) (m := x0.toInt) (n := 1) rfl (by decide)).mp (by omega)), if_neg (mt (p1_eq (x := x0) (y := 2) (m := x0.toInt) (n := 2) rfl (by decide)).mp (by omega)), if_neg (mt (p1_eq (x := x0) (y := 3) (m := x0.toInt) (n := 3) rfl (by decide)).mp (by omega)), if_neg (mt (p1_eq (x := x0) (y := 4) (m := x0.toInt) (n := 4) rfl (by decide)).mp (by omega)), if_neg (mt (p1_eq (x := x0) (y := 5) (m := x0.toInt) (n := 5) rfl (by decide)).mp (by omega)), if_neg (mt (p1_eq (x := x0) (y := 6) (m := x0.toInt) (n := 6) rfl (by decide)).mp (by omega)), if_neg (mt (p1_eq (x := x0) (y := 7) (m := x0.toInt) (n := 7) rfl (by decide)).mp (by omega)), if_neg (mt (p1_eq (x := x0) (y := 8) (m := x0.toInt) (n := 8) rfl (by decide)).mp (by omega)), if_neg (mt (p1_eq (x := x0) (y := 9) (m := x0.toInt) (n := 9) rfl (by decide)).mp (by omega)), if_neg (mt (p1_eq (x := x0) (y := 10) (m := x0.toInt) (n := 10) rfl (by decide)).mp (by omega)), if_neg (mt (p1_eq (x := x0) (y := 11) (m := x0.toInt) (n := 11) rfl (by decide)).mp (by omega)), if_neg (mt (p1_eq (x := x0) (y := 12) (m := x0.toInt) (n := 12) rfl (by decide)).mp (by omega)), if_neg (mt (p1_eq (x := x0) (y := 13) (m := x0.toInt) (n := 13) rfl (by decide)).mp (by omega)), if_neg (mt (p1_eq (x := x0) (y := 14) (m := x0.toInt) (n := 14) rfl (by decide)).mp (by omega)), if_neg (mt (p1_eq (x := x0) (y := 15) (m := x0.toInt) (n := 15) rfl (by decide)).mp (by omega)), if_neg (mt (p1_eq (x := x0) (y := 16) (m := x0.toInt) (n := 16) rfl (by decide)).mp (by omega)), if_neg (mt (p1_eq (x := x0) (y := 17) (m := x0.toInt) (n := 17) rfl (by decide)).mp (by omega))]
    exact e
  · by_cases c2 : x0 < 9
    · by_cases c3 : x0 = 0
      · have ic1 := mt (p1_eq (x := x0) (y := 18) (m := x0.toInt) (n := 18) rfl (by decide)).mpr c1
        have ic2 := (p1_lt (x := x0) (y := 9) (m := x0.toInt) (n := 9) rfl (by decide)).mp c2
        have ic3 := (p1_eq (x := x0) (y := 0) (m := x0.toInt) (n := 0) rfl (by decide)).mp c3
        obtain ⟨H1, e, f⟩ := fx_state_1 (sL := sL) (sx := sx) (cs := cs) (x0 := x0) (p1_c0 P) (p1_c123 P) (p1_c129 P) (p1_c136 P) (p1_c130 P) (p1_c132 P) c1 c2 c3
        refine ⟨H1, ?_, fun j hj => f.2 j⟩
        rw [if_pos ((p1_eq (x := x0) (y := 0) (m := x0.toInt) (n := 0) rfl (by decide)).mpr (by omega))]
        exact e
      · by_cases c4 : x0 = 1
        · have ic1 := mt (p1_eq (x := x0) (y := 18) (m := x0.toInt) (n := 18) rfl (by decide)).mpr c1
          have ic2 := (p1_lt (x := x0) (y := 9) (m := x0.toInt) (n := 9) rfl (by decide)).mp c2
          have ic3 := mt (p1_eq (x := x0) (y := 0) (m := x0.toInt) (n := 0) rfl (by decide)).mpr c3
          have ic4 := (p1_eq (x := x0) (y := 1) (m := x0.toInt) (n := 1) rfl (by decide)).mp c4
          obtain ⟨H1, e, f⟩ := fx_state_2 (sL := sL) (sx := sx) (cs := cs) (x0 := x0) (p1_c0 P) (p1_c123 P) (p1_c129 P) (p1_c136 P) (p1_c130 P) (p1_c132 P) c1 c2 c3 c4
          refine ⟨H1, ?_, fun j hj => f.2 j⟩
          rw [if_neg (mt (p1_eq (x := x0) (y := 0) (m := x0.toInt) (n := 0) rfl (by decide)).mp (by omega)), if_pos ((p1_eq (x := x0) (y := 1) (m := x0.toInt) (n := 1) rfl (by decide)).mpr (by omega))]
          exact e
        · by_cases c5 : x0 = 2
          · have ic1 := mt (p1_eq (x := x0) (y := 18) (m := x0.toInt) (n := 18) rfl (by decide)).mpr c1
            have ic2 := (p1_lt (x := x0) (y := 9) (m := x0.toInt) (n := 9) rfl (by decide)).mp c2
            have ic3 := mt (p1_eq (x := x0) (y := 0) (m := x0.toInt) (n := 0) rfl (by decide)).mpr c3
            have ic4 := mt (p1_eq (x := x0) (y := 1) (m := x0.toInt) (n := 1) rfl (by decide)).mpr c4
            have ic5 := (p1_eq (x := x0) (y := 2) (m := x0.toInt) (n := 2) rfl (by decide)).mp c5
            obtain ⟨H1, e, f⟩ := fx_state_3 (sL := sL) (sx := sx) (cs := cs) (x0 := x0) (p1_c0 P) (p1_c123 P) (p1_c129 P) (p1_c136 P) (p1_c130 P) (p1_c132 P) c1 c2 c3 c4 c5
            refine ⟨H1, ?_, fun j hj => f.2 j⟩
            rw [if_neg (mt (p1_eq (x := x0) (y := 0) (m := x0.toInt) (n := 0) rfl (by decide)).mp (by omega)), if_neg (mt (p1_eq (x := x0) (y := 1) (m := x0.toInt) (n := 1) rfl (by decide)).mp (by omega)), if_pos ((p1_eq (x := x0) (y := 2) (m := x0.toInt) (n := 2) rfl (by decide)).mpr (by omega))]
            exact e
          · by_cases c6 : x0 = 3
            · have ic1 := mt (p1_eq (x := x0) (y := 18) (m := x0.toInt) (n := 18) rfl (by decide)).mpr c1
              have ic2 := (p1_lt (x := x0) (y := 9) (m := x0.toInt) (n := 9) rfl (by decide)).mp c2
              have ic3 := mt (p1_eq (x := x0) (y := 0) (m := x0.toInt) (n := 0) rfl (by decide)).mpr c3
              have ic4 := mt (p1_eq (x := x0) (y := 1) (m := x0.toInt) (n := 1) rfl (by decide)).mpr c4
              have ic5 := mt (p1_eq (x := x0) (y := 2) (m := x0.toInt) (n := 2) rfl (by decide)).mpr c5
              have ic6 := (p1_eq (x := x0) (y := 3) (m := x0.toInt) (n := 3) rfl (by decide)).mp c6
              obtain ⟨H1, e, f⟩ := fx_state_4 (sL := sL) (sx := sx) (cs := cs) (x0 := x0) (p1_c0 P) (p1_c123 P) (p1_c129 P) (p1_c136 P) (p1_c130 P) (p1_c132 P) c1 c2 c3 c4 c5 c6
              refine ⟨H1, ?_, fun j hj => f.2 j⟩
              rw [if_neg (mt (p1_eq (x := x0) (y := 0) (m := x0.toInt) (n := 0) rfl (by decide)).mp (by omega)), if_neg (mt (p1_eq (x := x0) (y := 1) (m := x0.toInt) (n := 1) rfl (by decide)).mp (by omega)), if_neg (mt (p1_eq (x := x0) (y := 2) (m := x0.toInt) (n := 2) rfl (by decide)).mp (by omega)), if_pos ((p1_eq (x := x0) (y := 3) (m := x0.toInt) (n := 3) rfl (by decide)).mpr (by omega))]
              exact e
            · by_cases c7 : x0 = 4
              · have ic1 := mt (p1_eq (x := x0) (y := 18) (m := x0.toInt) (n := 18) rfl (by decide)).mpr c1
                have ic2 := (p1_lt (x := x0) (y := 9) (m := x0.toInt) (n := 9) rfl (by decide)).mp c2
                have ic3 := mt (p1_eq (x := x0) (y := 0) (m := x0.toInt) (n := 0) rfl (by decide)).mpr c3
                have ic4 := mt (p1_eq (x := x0) (y := 1) (m := x0.toInt) (n := 1) rfl (by decide)).mpr c4
                have ic5 := mt (p1_eq (x := x0) (y := 2) (m := x0.toInt) (n := 2) rfl (by decide)).mpr c5
                have ic6 := mt (p1_eq (x := x0) (y := 3) (m := x0.toInt) (n := 3) rfl (by decide)).mpr c6
                have ic7 := (p1_eq (x := x0) (y := 4) (m := x0.toInt) (n := 4) rfl (by decide)).mp c7
                obtain ⟨H1, e, f⟩ := fx_state_5 (sL := sL) (sx := sx) (cs := cs) (x0 := x0) (p1_c0 P) (p1_c123 P) (p1_c129 P) (p1_c136 P) (p1_c130 P) (p1_c132 P) c1 c2 c3 c4 c5 c6 c7
                refine ⟨H1, ?_, fun j hj => f.2 j⟩
                rw [if_neg (mt (p1_eq (x := x0) (y := 0) (m := x0.toInt) (n := 0) rfl (by decide)).mp (by omega)), if_neg (mt (p1_eq (x := x0) (y := 1) (m := x0.toInt) (n := 1) rfl (by decide)).mp (by omega)), if_neg (mt (p1_eq (x := x0) (y := 2) (m := x0.toInt) (n := 2) rfl (by decide)).mp (by omega)), if_neg (mt (p1_eq (x := x0) (y := 3) (m := x0.toInt) (n := 3) rfl (by decide)).mp (by omega)), if_pos ((p1_eq (x := x0) (y := 4) (m := x0.toInt) (n := 4) rfl (by decide)).mpr (by omega))]
                exact e
              · by_cases c8 : x0 = 5
                · have ic1 := mt (p1_eq (x := x0) (y := 18) (m := x0.toInt) (n := 18) rfl (by decide)).mpr c1
                  have ic2 := (p1_lt (x := x0) (y := 9) (m := x0.toInt) (n := 9) rfl (by decide)).mp c2
                  have ic3 := mt (p1_eq (x := x0) (y := 0) (m := x0.toInt) (n := 0) rfl (by decide)).mpr c3
                  have ic4 := mt (p1_eq (x := x0) (y := 1) (m := x0.toInt) (n := 1) rfl (by decide)).mpr c4
                  have ic5 := mt (p1_eq (x := x0) (y := 2) (m := x0.toInt) (n := 2) rfl (by decide)).mpr c5
                  have ic6 := mt (p1_eq (x := x0) (y := 3) (m := x0.toInt) (n := 3) rfl (by decide)).mpr c6
                  have ic7 := mt (p1_eq (x := x0) (y := 4) (m := x0.toInt) (n := 4) rfl (by decide)).mpr c7
                  have ic8 := (p1_eq (x := x0) (y := 5) (m := x0.toInt) (n := 5) rfl (by decide)).mp c8
                  obtain ⟨H1, e, f⟩ := fx_state_6 (sL := sL) (sx := sx) (cs := cs) (x0 := x0) (p1_c0 P) (p1_c123 P) (p1_c129 P) (p1_c136 P) (p1_c130 P) (p1_c132 P) c1 c2 c3 c4 c5 c6 c7 c8
                  refine ⟨H1, ?_, fun j hj => f.2 j⟩
                  rw [if_neg (mt (p1_eq (x := x0) (y := 0) (m := x0.toInt) (n := 0) rfl (by decide)).mp (by omega)), if_neg (mt (p1_eq (x := x0) (y := 1) (m := x0.toInt) (n := 1) rfl (by decide)).mp (by omega)), if_neg (mt (p1_eq (x := x0) (y := 2) (m := x0.toInt) (n := 2) rfl (by decide)).mp (by omega)), if_neg (mt (p1_eq (x := x0) (y := 3) (m := x0.toInt) (n := 3) rfl (by decide)).mp (by omega)), if_neg (mt (p1_eq (x := x0) (y := 4) (m := x0.toInt) (n := 4) rfl (by decide)).mp (by omega)), if_pos ((p1_eq (x := x0) (y := 5) (m := x0.toInt) (n := 5) rfl (by decide)).mpr (by omega))]
                  exact e
                · by_cases c9 : x0 = 6
                  · have ic1 := mt (p1_eq (x := x0) (y := 18) (m := x0.toInt) (n := 18) rfl (by decide)).mpr c1
                    have ic2 := (p1_lt (x := x0) (y := 9) (m := x0.toInt) (n := 9) rfl (by decide)).mp c2
                    have ic3 := mt (p1_eq (x := x0) (y := 0) (m := x0.toInt) (n := 0) rfl (by decide)).mpr c3
                    have ic4 := mt (p1_eq (x := x0) (y := 1) (m := x0.toInt) (n := 1) rfl (by decide)).mpr c4
                    have ic5 := mt (p1_eq (x := x0) (y := 2) (m := x0.toInt) (n := 2) rfl (by decide)).mpr c5
                    have ic6 := mt (p1_eq (x := x0) (y := 3) (m := x0.toInt) (n := 3) rfl (by decide)).mpr c6
                    have ic7 := mt (p1_eq (x := x0) (y := 4) (m := x0.toInt) (n := 4) rfl (by decide)).mpr c7
                    have ic8 := mt (p1_eq (x := x0) (y := 5) (m := x0.toInt) (n := 5) rfl (by decide)).mpr c8
                    have ic9 := (p1_eq (x := x0) (y := 6) (m := x0.toInt) (n := 6) rfl (by decide)).mp c9
                    obtain ⟨H1, e, f⟩ := fx_state_7 (sL := sL) (sx := sx) (cs := cs) (x0 := x0) (p1_c0 P) (p1_c123 P) (p1_c129 P) (p1_c136 P) (p1_c130 P) (p1_c132 P) c1 c2 c3 c4 c5 c6 c7 c8 c9
                    refine ⟨H1, ?_, fun j hj => f.2 j⟩
                    rw [if_neg (mt (p1_eq (x := x0) (y := 0) (m := x0.toInt) (n := 0) rfl (by decide)).mp (by omega)), if_neg (mt (p1_eq (x := x0) (y := 1) (m := x0.toInt) (n := 1) rfl (by decide)).mp (by omega)), if_neg (mt (p1_eq (x := x0) (y := 2) (m := x0.toInt) (n := 2) rfl (by decide)).mp (by omega)), if_neg (mt (p1_eq (x := x0) (y := 3) (m := x0.toInt) (n := 3) rfl (by decide)).mp (by omega)), if_neg (mt (p1_eq (x := x0) (y := 4) (m := x0.toInt) (n := 4) rfl (by decide)).mp (by omega)), if_neg (mt (p1_eq (x := x0) (y := 5) (m := x0.toInt) (n := 5) rfl (by decide)).mp (by omega)), if_pos ((p1_eq (x := x0) (y := 6) (m := x0.toInt) (n := 6) rfl (by decide)).mpr (by omega))]
                    exact e
                  · by_cases c10 : x0 = 7
                    · have ic1 := mt (p1_eq (x := x0) (y := 18) (m := x0.toInt) (n := 18) rfl (by decide)).mpr c1
                      have ic2 := (p1_lt (x := x0) (y := 9) (m := x0.toInt) (n := 9) rfl (by decide)).mp c2
                      have ic3 := mt (p1_eq (x := x0) (y := 0) (m := x0.toInt) (n := 0) rfl (by decide)).mpr c3
                      have ic4 := mt (p1_eq (x := x0) (y := 1) (m := x0.toInt) (n := 1) rfl (by decide)).mpr c4
                      have ic5 := mt (p1_eq (x := x0) (y := 2) (m := x0.toInt) (n := 2) rfl (by decide)).mpr c5
                      have ic6 := mt (p1_eq (x := x0) (y := 3) (m := x0.toInt) (n := 3) rfl (by decide)).mpr c6
                      have ic7 := mt (p1_eq (x := x0) (y := 4) (m := x0.toInt) (n := 4) rfl (by decide)).mpr c7
                      have ic8 := mt (p1_eq (x := x0) (y := 5) (m := x0.toInt) (n := 5) rfl (by decide)).mpr c8
                      have ic9 := mt (p1_eq (x := x0) (y := 6) (m := x0.toInt) (n := 6) rfl (by decide)).mpr c9
                      have ic10 := (p1_eq (x := x0) (y := 7) (m := x0.toInt) (n := 7) rfl (by decide)).mp c10
                      obtain ⟨H1, e, f⟩ := fx_state_8 (sL := sL) (sx := sx) (cs := cs) (x0 := x0) (p1_c0 P) (p1_c123 P) (p1_c129 P) (p1_c136 P) (p1_c130 P) (p1_c132 P) c1 c2 c3 c4 c5 c6 c7 c8 c9 c10
                      refine ⟨H1, ?_, fun j hj => f.2 j⟩
                      rw [if_neg (mt (p1_eq (x := x0) (y := 0) (m := x0.toInt) (n := 0) rfl (by decide)).mp (by omega)), if_neg (mt (p1_eq (x := x0) (y := 1) (m := x0.toInt) (n := 1) rfl (by decide)).mp (by omega)), if_neg (mt (p1_eq (x := x0) (y := 2) (m := x0.toInt) (n := 2) rfl (by decide)).mp (by omega)), if_neg (mt (p1_eq (x := x0) (y := 3) (m := x0.toInt) (n := 3) rfl (by decide)).mp (by omega)), if_neg (mt (p1_eq (x := x0) (y := 4) (m := x0.toInt) (n := 4) rfl (by decide)).mp (by omega)), if_neg (mt (p1_eq (x := x0) (y := 5) (m := x0.toInt) (n := 5) rfl (by decide)).mp (by omega)), if_neg (mt (p1_eq (x := x0) (y := 6) (m := x0.toInt) (n := 6) rfl (by decide)).mp (by omega)), if_pos ((p1_eq (x := x0) (y := 7) (m := x0.toInt) (n := 7) rfl (by decide)).mpr (by omega))]
                      exact e
                    · by_cases c11 : x0 = 8
                      · have ic1 := mt (p1_eq (x := x0) (y := 18) (m := x0.toInt) (n := 18) rfl (by decide)).mpr c1
                        have ic2 := (p1_lt (x := x0) (y := 9) (m := x0.toInt) (n := 9) rfl (by decide)).mp c2
                        have ic3 := mt (p1_eq (x := x0) (y := 0) (m := x0.toInt) (n := 0) rfl (by decide)).mpr c3
                        have ic4 := mt (p1_eq (x := x0) (y := 1) (m := x0.toInt) (n := 1) rfl (by decide)).mpr c4
                        have ic5 := mt (p1_eq (x := x0) (y := 2) (m := x0.toInt) (n := 2) rfl (by decide)).mpr c5
                        have ic6 := mt (p1_eq (x := x0) (y := 3) (m := x0.toInt) (n := 3) rfl (by decide)).mpr c6
                        have ic7 := mt (p1_eq (x := x0) (y := 4) (m := x0.toInt) (n := 4) rfl (by decide)).mpr c7
                        have ic8 := mt (p1_eq (x := x0) (y := 5) (m := x0.toInt) (n := 5) rfl (by decide)).mpr c8
                        have ic9 := mt (p1_eq (x := x0) (y := 6) (m := x0.toInt) (n := 6) rfl (by decide)).mpr c9
                        have ic10 := mt (p1_eq (x := x0) (y := 7) (m := x0.toInt) (n := 7) rfl (by decide)).mpr c10
                        have ic11 := (p1_eq (x := x0) (y := 8) (m := x0.toInt) (n := 8) rfl (by decide)).mp c11
                        obtain ⟨H1, e, f⟩ := fx_state_9 (sL := sL) (sx := sx) (cs := cs) (x0 := x0) (p1_c0 P) (p1_c123 P) (p1_c129 P) (p1_c136 P) (p1_c130 P) (p1_c132 P) c1 c2 c3 c4 c5 c6 c7 c8 c9 c10 c11
                        refine ⟨H1, ?_, fun j hj => f.2 j⟩
                        rw [if_neg (mt (p1_eq (x := x0) (y := 0) (m := x0.toInt) (n := 0) rfl (by decide)).mp (by omega)), if_neg (mt (p1_eq (x := x0) (y := 1) (m := x0.toInt) (n := 1) rfl (by decide)).mp (by omega)), if_neg (mt (p1_eq (x := x0) (y := 2) (m := x0.toInt) (n := 2) rfl (by decide)).mp (by omega)), if_neg (mt (p1_eq (x := x0) (y := 3) (m := x0.toInt) (n := 3) rfl (by decide)).mp (by omega)), if_neg (mt (p1_eq (x := x0) (y := 4) (m := x0.toInt) (n := 4) rfl (by decide)).mp (by omega)), if_neg (mt (p1_eq (x := x0) (y := 5) (m := x0.toInt) (n := 5) rfl (by decide)).mp (by omega)), if_neg (mt (p1_eq (x := x0) (y := 6) (m := x0.toInt) (n := 6) rfl (by decide)).mp (by omega)), if_neg (mt (p1_eq (x := x0) (y := 7) (m := x0.toInt) (n := 7) rfl (by decide)).mp (by omega)), if_pos ((p1_eq (x := x0) (y := 8) (m := x0.toInt) (n := 8) rfl (by decide)).mpr (by omega))]
                        exact e
                      · by_cases c12 : x0 = 9
                        · have ic1 := mt (p1_eq (x := x0) (y := 18) (m := x0.toInt) (n := 18) rfl (by decide)).mpr c1
                          have ic2 := (p1_lt (x := x0) (y := 9) (m := x0.toInt) (n := 9) rfl (by decide)).mp c2
                          have ic3 := mt (p1_eq (x := x0) (y := 0) (m := x0.toInt) (n := 0) rfl (by decide)).mpr c3
                          have ic4 := mt (p1_eq (x := x0) (y := 1) (m := x0.toInt) (n := 1) rfl (by decide)).mpr c4
                          have ic5 := mt (p1_eq (x := x0) (y := 2) (m := x0.toInt) (n := 2) rfl (by decide)).mpr c5
                          have ic6 := mt (p1_eq (x := x0) (y := 3) (m := x0.toInt) (n := 3) rfl (by decide)).mpr c6
                          have ic7 := mt (p1_eq (x := x0) (y := 4) (m := x0.toInt) (n := 4) rfl (by decide)).mpr c7
                          have ic8 := mt (p1_eq (x := x0) (y := 5) (m := x0.toInt) (n := 5) rfl (by decide)).mpr c8
                          have ic9 := mt (p1_eq (x := x0) (y := 6) (m := x0.toInt) (n := 6) rfl (by decide)).mpr c9
                          have ic10 := mt (p1_eq (x := x0) (y := 7) (m := x0.toInt) (n := 7) rfl (by decide)).mpr c10
                          have ic11 := mt (p1_eq (x := x0) (y := 8) (m := x0.toInt) (n := 8) rfl (by decide)).mpr c11
                          have ic12 := (p1_eq (x := x0) (y := 9) (m := x0.toInt) (n := 9) rfl (by decide)).mp c12
                          exfalso
                          omega
                        · by_cases c13 : x0 = 10
                          · have ic1 := mt (p1_eq (x := x0) (y := 18) (m := x0.toInt) (n := 18) rfl (by decide)).mpr c1
                            have ic2 := (p1_lt (x := x0) (y := 9) (m := x0.toInt) (n := 9) rfl (by decide)).mp c2
                            have ic3 := mt (p1_eq (x := x0) (y := 0) (m := x0.toInt) (n := 0) rfl (by decide)).mpr c3
                            have ic4 := mt (p1_eq (x := x0) (y := 1) (m := x0.toInt) (n := 1) rfl (by decide)).mpr c4
                            have ic5 := mt (p1_eq (x := x0) (y := 2) (m := x0.toInt) (n := 2) rfl (by decide)).mpr c5
                            have ic6 := mt (p1_eq (x := x0) (y := 3) (m := x0.toInt) (n := 3) rfl (by decide)).mpr c6
                            have ic7 := mt (p1_eq (x := x0) (y := 4) (m := x0.toInt) (n := 4) rfl (by decide)).mpr c7
                            have ic8 := mt (p1_eq (x := x0) (y := 5) (m := x0.toInt) (n := 5) rfl (by decide)).mpr c8
                            have ic9 := mt (p1_eq (x := x0) (y := 6) (m := x0.toInt) (n := 6) rfl (by decide)).mpr c9
                            have ic10 := mt (p1_eq (x := x0) (y := 7) (m := x0.toInt) (n := 7) rfl (by decide)).mpr c10
                            have ic11 := mt (p1_eq (x := x0) (y := 8) (m := x0.toInt) (n := 8) rfl (by decide)).mpr c11
                            have ic12 := mt (p1_eq (x := x0) (y := 9) (m := x0.toInt) (n := 9) rfl (by decide)).mpr c12
                            have ic13 := (p1_eq (x := x0) (y := 10) (m := x0.toInt) (n := 10) rfl (by decide)).mp c13
                            exfalso
                            omega
                          · by_cases c14 : x0 = 11
                            · have ic1 := mt (p1_eq (x := x0) (y := 18) (m := x0.toInt) (n := 18) rfl (by decide)).mpr c1
                              have ic2 := (p1_lt (x := x0) (y := 9) (m := x0.toInt) (n := 9) rfl (by decide)).mp c2
                              have ic3 := mt (p1_eq (x := x0) (y := 0) (m := x0.toInt) (n := 0) rfl (by decide)).mpr c3
                              have ic4 := mt (p1_eq (x := x0) (y := 1) (m := x0.toInt) (n := 1) rfl (by decide)).mpr c4
                              have ic5 := mt (p1_eq (x := x0) (y := 2) (m := x0.toInt) (n := 2) rfl (by decide)).mpr c5
                              have ic6 := mt (p1_eq (x := x0) (y := 3) (m := x0.toInt) (n := 3) rfl (by decide)).mpr c6
                              have ic7 := mt (p1_eq (x := x0) (y := 4) (m := x0.toInt) (n := 4) rfl (by decide)).mpr c7
                              have ic8 := mt (p1_eq (x := x0) (y := 5) (m := x0.toInt) (n := 5) rfl (by decide)).mpr c8
                              have ic9 := mt (p1_eq (x := x0) (y := 6) (m := x0.toInt) (n := 6) rfl (by decide)).mpr c9
                              have ic10 := mt (p1_eq (x := x0) (y := 7) (m := x0.toInt) (n := 7) rfl (by decide)).mpr c10
                              have ic11 := mt (p1_eq (x := x0) (y := 8) (m := x0.toInt) (n := 8) rfl (by decide)).mpr c11
                              have ic12 := mt (p1_eq (x := x0) (y := 9) (m := x0.toInt) (n := 9) rfl (by decide)).mpr c12
                              have ic13 := mt (p1_eq (x := x0) (y := 10) (m := x0.toInt) (n := 10) rfl (by decide)).mpr c13
                              have ic14 := (p1_eq (x := x0) (y := 11) (m := x0.toInt) (n := 11) rfl (by decide)).mp c14
                              exfalso
                              omega
                            · by_cases c15 : x0 = 12
                              · have ic1 := mt (p1_eq (x := x0) (y := 18) (m := x0.toInt) (n := 18) rfl (by decide)).mpr c1
                                have ic2 := (p1_lt (x := x0) (y := 9) (m := x0.toInt) (n := 9) rfl (by decide)).mp c2
                                have ic3 := mt (p1_eq (x := x0) (y := 0) (m := x0.toInt) (n := 0) rfl (by decide)).mpr c3
                                have ic4 := mt (p1_eq (x := x0) (y := 1) (m := x0.toInt) (n := 1) rfl (by decide)).mpr c4
                                have ic5 := mt (p1_eq (x := x0) (y := 2) (m := x0.toInt) (n := 2) rfl (by decide)).mpr c5
                                have ic6 := mt (p1_eq (x := x0) (y := 3) (m := x0.toInt) (n := 3) rfl (by decide)).mpr c6
                                have ic7 := mt (p1_eq (x := x0) (y := 4) (m := x0.toInt) (n := 4) rfl (by decide)).mpr c7
                                have ic8 := mt (p1_eq (x := x0) (y := 5) (m := x0.toInt) (n := 5) rfl (by decide)).mpr c8
                                have ic9 := mt (p1_eq (x := x0) (y := 6) (m := x0.toInt) (n := 6) rfl (by decide)).mpr c9
                                have ic10 := mt (p1_eq (x := x0) (y := 7) (m := x0.toInt) (n := 7) rfl (by decide)).mpr c10
                                have ic11 := mt (p1_eq (x := x0) (y := 8) (m := x0.toInt) (n := 8) rfl (by decide)).mpr c11
                                have ic12 := mt (p1_eq (x := x0) (y := 9) (m := x0.toInt) (n := 9) rfl (by decide)).mpr c12
                                have ic13 := mt (p1_eq (x := x0) (y := 10) (m := x0.toInt) (n := 10) rfl (by decide)).mpr c13
                                have ic14 := mt (p1_eq (x := x0) (y := 11) (m := x0.toInt) (n := 11) rfl (by decide)).mpr c14
                                have ic15 := (p1_eq (x := x0) (y := 12) (m := x0.toInt) (n := 12) rfl (by decide)).mp c15
                                exfalso
                                omega
                              · by_cases c16 : x0 = 13
                                · have ic1 := mt (p1_eq (x := x0) (y := 18) (m := x0.toInt) (n := 18) rfl (by decide)).mpr c1
                                  have ic2 := (p1_lt (x := x0) (y := 9) (m := x0.toInt) (n := 9) rfl (by decide)).mp c2
                                  have ic3 := mt (p1_eq (x := x0) (y := 0) (m := x0.toInt) (n := 0) rfl (by decide)).mpr c3
                                  have ic4 := mt (p1_eq (x := x0) (y := 1) (m := x0.toInt) (n := 1) rfl (by decide)).mpr c4
                                  have ic5 := mt (p1_eq (x := x0) (y := 2) (m := x0.toInt) (n := 2) rfl (by decide)).mpr c5
                                  have ic6 := mt (p1_eq (x := x0) (y := 3) (m := x0.toInt) (n := 3) rfl (by decide)).mpr c6
                                  have ic7 := mt (p1_eq (x := x0) (y := 4) (m := x0.toInt) (n := 4) rfl (by decide)).mpr c7
                                  have ic8 := mt (p1_eq (x := x0) (y := 5) (m := x0.toInt) (n := 5) rfl (by decide)).mpr c8
                                  have ic9 := mt (p1_eq (x := x0) (y := 6) (m := x0.toInt) (n := 6) rfl (by decide)).mpr c9
                                  have ic10 := mt (p1_eq (x := x0) (y := 7) (m := x0.toInt) (n := 7) rfl (by decide)).mpr c10
                                  have ic11 := mt (p1_eq (x := x0) (y := 8) (m := x0.toInt) (n := 8) rfl (by decide)).mpr c11
                                  have ic12 := mt (p1_eq (x := x0) (y := 9) (m := x0.toInt) (n := 9) rfl (by decide)).mpr c12
                                  have ic13 := mt (p1_eq (x := x0) (y := 10) (m := x0.toInt) (n := 10) rfl (by decide)).mpr c13
                                  have ic14 := mt (p1_eq (x := x0) (y := 11) (m := x0.toInt) (n := 11) rfl (by decide)).mpr c14
                                  have ic15 := mt (p1_eq (x := x0) (y := 12) (m := x0.toInt) (n := 12) rfl (by decide)).mpr c15
                                  have ic16 := (p1_eq (x := x0) (y := 13) (m := x0.toInt) (n := 13) rfl (by decide)).mp c16
                                  exfalso
                                  omega
                                · by_cases c17 : x0 = 14
                                  · have ic1 := mt (p1_eq (x := x0) (y := 18) (m := x0.toInt) (n := 18) rfl (by decide)).mpr c1
                                    have ic2 := (p1_lt (x := x0) (y := 9) (m := x0.toInt) (n := 9) rfl (by decide)).mp c2
                                    have ic3 := mt (p1_eq (x := x0) (y := 0) (m := x0.toInt) (n := 0) rfl (by decide)).mpr c3
                                    have ic4 := mt (p1_eq (x := x0) (y := 1) (m := x0.toInt) (n := 1) rfl (by decide)).mpr c4
                                    have ic5 := mt (p1_eq (x := x0) (y := 2) (m := x0.toInt) (n := 2) rfl (by decide)).mpr c5
                                    have ic6 := mt (p1_eq (x := x0) (y := 3) (m := x0.toInt) (n := 3) rfl (by decide)).mpr c6
                                    have ic7 := mt (p1_eq (x := x0) (y := 4) (m := x0.toInt) (n := 4) rfl (by decide)).mpr c7
                                    have ic8 := mt (p1_eq (x := x0) (y := 5) (m := x0.toInt) (n := 5) rfl (by decide)).mpr c8
                                    have ic9 := mt (p1_eq (x := x0) (y := 6) (m := x0.toInt) (n := 6) rfl (by decide)).mpr c9
                                    have ic10 := mt (p1_eq (x := x0) (y := 7) (m := x0.toInt) (n := 7) rfl (by decide)).mpr c10
                                    have ic11 := mt (p1_eq (x := x0) (y := 8) (m := x0.toInt) (n := 8) rfl (by decide)).mpr c11
                                    have ic12 := mt (p1_eq (x := x0) (y := 9) (m := x0.toInt) (n := 9) rfl (by decide)).mpr c12
                                    have ic13 := mt (p1_eq (x := x0) (y := 10) (m := x0.toInt) (n := 10) rfl (by decide)).mpr c13
                                    have ic14 := mt (p1_eq (x := x0) (y := 11) (m := x0.toInt) (n := 11) rfl (by decide)).mpr c14
                                    have ic15 := mt (p1_eq (x := x0) (y := 12) (m := x0.toInt) (n := 12) rfl (by decide)).mpr c15
                                    have ic16 := mt (p1_eq (x := x0) (y := 13) (m := x0.toInt) (n := 13) rfl (by decide)).mpr c16
                                    have ic17 := (p1_eq (x := x0) (y := 14) (m := x0.toInt) (n := 14) rfl (by decide)).mp c17
                                    exfalso
                                    omega
                                  · by_cases c18 : x0 = 15
                                    · have ic1 := mt (p1_eq (x := x0) (y := 18) (m := x0.toInt) (n := 18) rfl (by decide)).mpr c1
                                      have ic2 := (p1_lt (x := x0) (y := 9) (m := x0.toInt) (n := 9) rfl (by decide)).mp c2
                                      have ic3 := mt (p1_eq (x := x0) (y := 0) (m := x0.toInt) (n := 0) rfl (by decide)).mpr c3
                                      have ic4 := mt (p1_eq (x := x0) (y := 1) (m := x0.toInt) (n := 1) rfl (by decide)).mpr c4
                                      have ic5 := mt (p1_eq (x := x0) (y := 2) (m := x0.toInt) (n := 2) rfl (by decide)).mpr c5
                                      have ic6 := mt (p1_eq (x := x0) (y := 3) (m := x0.toInt) (n := 3) rfl (by decide)).mpr c6
                                      have ic7 := mt (p1_eq (x := x0) (y := 4) (m := x0.toInt) (n := 4) rfl (by decide)).mpr c7
                                      have ic8 := mt (p1_eq (x := x0) (y := 5) (m := x0.toInt) (n := 5) rfl (by decide)).mpr c8
                                      have ic9 := mt (p1_eq (x := x0) (y := 6) (m := x0.toInt) (n := 6) rfl (by decide)).mpr c9
                                      have ic10 := mt (p1_eq (x := x0) (y := 7) (m := x0.toInt) (n := 7) rfl (by decide)).mpr c10
                                      have ic11 := mt (p1_eq (x := x0) (y := 8) (m := x0.toInt) (n := 8) rfl (by decide)).mpr c11
                                      have ic12 := mt (p1_eq (x := x0) (y := 9) (m := x0.toInt) (n := 9) rfl (by decide)).mpr c12
                                      have ic13 := mt (p1_eq (x := x0) (y := 10) (m := x0.toInt) (n := 10) rfl (by decide)).mpr c13
                                      have ic14 := mt (p1_eq (x := x0) (y := 11) (m := x0.toInt) (n := 11) rfl (by decide)).mpr c14
                                      have ic15 := mt (p1_eq (x := x0) (y := 12) (m := x0.toInt) (n := 12) rfl (by decide)).mpr c15
                                      have ic16 := mt (p1_eq (x := x0) (y := 13) (m := x0.toInt) (n := 13) rfl (by decide)).mpr c16
                                      have ic17 := mt (p1_eq (x := x0) (y := 14) (m := x0.toInt) (n := 14) rfl (by decide)).mpr c17
                                      have ic18 := (p1_eq (x := x0) (y := 15) (m := x0.toInt) (n := 15) rfl (by decide)).mp c18
                                      exfalso
                                      omega
                                    · by_cases c19 : x0 = 16
                                      · have ic1 := mt (p1_eq (x := x0) (y := 18) (m := x0.toInt) (n := 18) rfl (by decide)).mpr c1
                                        have ic2 := (p1_lt (x := x0) (y := 9) (m := x0.toInt) (n := 9) rfl (by decide)).mp c2
                                        have ic3 := mt (p1_eq (x := x0) (y := 0) (m := x0.toInt) (n := 0) rfl (by decide)).mpr c3
                                        have ic4 := mt (p1_eq (x := x0) (y := 1) (m := x0.toInt) (n := 1) rfl (by decide)).mpr c4
                                        have ic5 := mt (p1_eq (x := x0) (y := 2) (m := x0.toInt) (n := 2) rfl (by decide)).mpr c5
                                        have ic6 := mt (p1_eq (x := x0) (y := 3) (m := x0.toInt) (n := 3) rfl (by decide)).mpr c6
                                        have ic7 := mt (p1_eq (x := x0) (y := 4) (m := x0.toInt) (n := 4) rfl (by decide)).mpr c7
                                        have ic8 := mt (p1_eq (x := x0) (y := 5) (m := x0.toInt) (n := 5) rfl (by decide)).mpr c8
                                        have ic9 := mt (p1_eq (x := x0) (y := 6) (m := x0.toInt) (n := 6) rfl (by decide)).mpr c9
                                        have ic10 := mt (p1_eq (x := x0) (y := 7) (m := x0.toInt) (n := 7) rfl (by decide)).mpr c10
                                        have ic11 := mt (p1_eq (x := x0) (y := 8) (m := x0.toInt) (n := 8) rfl (by decide)).mpr c11
                                        have ic12 := mt (p1_eq (x := x0) (y := 9) (m := x0.toInt) (n := 9) rfl (by decide)).mpr c12
                                        have ic13 := mt (p1_eq (x := x0) (y := 10) (m := x0.toInt) (n := 10) rfl (by decide)).mpr c13
                                        have ic14 := mt (p1_eq (x := x0) (y := 11) (m := x0.toInt) (n := 11) rfl (by decide)).mpr c14
                                        have ic15 := mt (p1_eq (x := x0) (y := 12) (m := x0.toInt) (n := 12) rfl (by decide)).mpr c15
                                        have ic16 := mt (p1_eq (x := x0) (y := 13) (m := x0.toInt) (n := 13) rfl (by decide)).mpr c16
                                        have ic17 := mt (p1_eq (x := x0) (y := 14) (m := x0.toInt) (n := 14) rfl (by decide)).mpr c17
                                        have ic18 := mt (p1_eq (x := x0) (y := 15) (m := x0.toInt) (n := 15) rfl (by decide)).mpr c18
                                        have ic19 := (p1_eq (x := x0) (y := 16) (m := x0.toInt) (n := 16) rfl (by decide)).mp c19
                                        exfalso
                                        omega
                                      · by_cases c20 : x0 = 17
                                        · have ic1 := mt (p1_eq (x := x0) (y := 18) (m := x0.toInt) (n := 18) rfl (by decide)).mpr c1
                                          have ic2 := (p1_lt (x := x0) (y := 9) (m := x0.toInt) (n := 9) rfl (by decide)).mp c2
                                          have ic3 := mt (p1_eq (x := x0) (y := 0) (m := x0.toInt) (n := 0) rfl (by decide)).mpr c3
                                          have ic4 := mt (p1_eq (x := x0) (y := 1) (m := x0.toInt) (n := 1) rfl (by decide)).mpr c4
                                          have ic5 := mt (p1_eq (x := x0) (y := 2) (m := x0.toInt) (n := 2) rfl (by decide)).mpr c5
                                          have ic6 := mt (p1_eq (x := x0) (y := 3) (m := x0.toInt) (n := 3) rfl (by decide)).mpr c6
                                          have ic7 := mt (p1_eq (x := x0) (y := 4) (m := x0.toInt) (n := 4) rfl (by decide)).mpr c7
                                          have ic8 := mt (p1_eq (x := x0) (y := 5) (m := x0.toInt) (n := 5) rfl (by decide)).mpr c8
                                          have ic9 := mt (p1_eq (x := x0) (y := 6) (m := x0.toInt) (n := 6) rfl (by decide)).mpr c9
                                          have ic10 := mt (p1_eq (x := x0) (y := 7) (m := x0.toInt) (n := 7) rfl (by decide)).mpr c10
                                          have ic11 := mt (p1_eq (x := x0) (y := 8) (m := x0.toInt) (n := 8) rfl (by decide)).mpr c11
                                          have ic12 := mt (p1_eq (x := x0) (y := 9) (m := x0.toInt) (n := 9) rfl (by decide)).mpr c12
                                          have ic13 := mt (p1_eq (x := x0) (y := 10) (m := x0.toInt) (n := 10) rfl (by decide)).mpr c13
                                          have ic14 := mt (p1_eq (x := x0) (y := 11) (m := x0.toInt) (n := 11) rfl (by decide)).mpr c14
                                          have ic15 := mt (p1_eq (x := x0) (y := 12) (m := x0.toInt) (n := 12) rfl (by decide)).mpr c15
                                          have ic16 := mt (p1_eq (x := x0) (y := 13) (m := x0.toInt) (n := 13) rfl (by decide)).mpr c16
                                          have ic17 := mt (p1_eq (x := x0) (y := 14) (m := x0.toInt) (n := 14) rfl (by decide)).mpr c17
                                          have ic18 := mt (p1_eq (x := x0) (y := 15) (m := x0.toInt) (n := 15) rfl (by decide)).mpr c18
                                          have ic19 := mt (p1_eq (x := x0) (y := 16) (m := x0.toInt) (n := 16) rfl (by decide)).mpr c19
                                          have ic20 := (p1_eq (x := x0) (y := 17) (m := x0.toInt) (n := 17) rfl (by decide)).mp c20
                                          exfalso
                                          omega
                                        · have ic1 := mt (p1_eq (x := x0) (y := 18) (m := x0.toInt) (n := 18) rfl (by decide)).mpr c1
                                          have ic2 := (p1_lt (x := x0) (y := 9) (m := x0.toInt) (n := 9) rfl (by decide)).mp c2
                                          have ic3 := mt (p1_eq (x := x0) (y := 0) (m := x0.toInt) (n := 0) rfl (by decide)).mpr c3
                                          have ic4 := mt (p1_eq (x := x0) (y := 1) (m := x0.toInt) (n := 1) rfl (by decide)).mpr c4
                                          have ic5 := mt (p1_eq (x := x0) (y := 2) (m := x0.toInt) (n := 2) rfl (by decide)).mpr c5
                                          have ic6 := mt (p1_eq (x := x0) (y := 3) (m := x0.toInt) (n := 3) rfl (by decide)).mpr c6
                                          have ic7 := mt (p1_eq (x := x0) (y := 4) (m := x0.toInt) (n := 4) rfl (by decide)).mpr c7
                                          have ic8 := mt (p1_eq (x := x0) (y := 5) (m := x0.toInt) (n := 5) rfl (by decide)).mpr c8
                                          have ic9 := mt (p1_eq (x := x0) (y := 6) (m := x0.toInt) (n := 6) rfl (by decide)).mpr c9
                                          have ic10 := mt (p1_eq (x := x0) (y := 7) (m := x0.toInt) (n := 7) rfl (by decide)).mpr c10
                                          have ic11 := mt (p1_eq (x := x0) (y := 8) (m := x0.toInt) (n := 8) rfl (by decide)).mpr c11
                                          have ic12 := mt (p1_eq (x := x0) (y := 9) (m := x0.toInt) (n := 9) rfl (by decide)).mpr c12
                                          have ic13 := mt (p1_eq (x := x0) (y := 10) (m := x0.toInt) (n := 10) rfl (by decide)).mpr c13
                                          have ic14 := mt (p1_eq (x := x0) (y := 11) (m := x0.toInt) (n := 11) rfl (by decide)).mpr c14
                                          have ic15 := mt (p1_eq (x := x0) (y := 12) (m := x0.toInt) (n := 12) rfl (by decide)).mpr c15
                                          have ic16 := mt (p1_eq (x := x0) (y := 13) (m := x0.toInt) (n := 13) rfl (by decide)).mpr c16
                                          have ic17 := mt (p1_eq (x := x0) (y := 14) (m := x0.toInt) (n := 14) rfl (by decide)).mpr c17
                                          have ic18 := mt (p1_eq (x := x0) (y := 15) (m := x0.toInt) (n := 15) rfl (by decide)).mpr c18
                                          have ic19 := mt (p1_eq (x := x0) (y := 16) (m := x0.toInt) (n := 16) rfl (by decide)).mpr c19
                                          have ic20 := mt (p1_eq (x := x0) (y := 17) (m := x0.toInt) (n := 17) rfl (by decide)).mpr c20
                                          obtain ⟨H1, e, f⟩ := fx_state_19 (sL := sL) (sx := sx) (cs := cs) (x0 := x0) (p1_c0 P) (p1_c123 P) (p1_c129 P) (p1_c136 P) (p1_c130 P) (p1_c132 P) c1 c2 c3 c4 c5 c6 c7 c8 c9 c10 c11 c12 c13 c14 c15 c16 c17 c18 c19 c20
                                          refine ⟨H1, ?_, fun j hj => f.2 j⟩
                                          rw [if_neg (mt (p1_eq (x := x0) (y := 0) (m := x0.toInt) (n := 0) rfl (by decide)).mp (by omega)), if_neg (mt (p1_eq (x := x0) (y := 1) (m := x0.toInt) (n := 1) rfl (by decide)).mp (by omega)), if_neg (mt (p1_eq (x := x0) (y := 2) (m := x0.toInt) (n := 2) rfl (by decide)).mp (by omega)), if_neg (mt (p1_eq (x := x0) (y := 3) (m := x0.toInt) (n := 3) rfl (by decide)).mp (by omega)), if_neg (mt (p1_eq (x := x0) (y := 4) (m := x0.toInt) (n := 4) rfl (by decide)).mp (by omega)), if_neg (mt (p1_eq (x := x0) (y := 5) (m := x0.toInt) (n := 5) rfl (by decide)).mp (by omega)), if_neg (mt (p1_eq (x := x0) (y := 6) (m := x0.toInt) (n := 6) rfl (by decide)).mp (by omega)), if_neg (mt (p1_eq (x := x0) (y := 7) (m := x0.toInt) (n := 7) rfl (by decide)).mp (by omega)), if_neg (mt (p1_eq (x := x0) (y := 8) (m := x0.toInt) (n := 8) rfl (by decide)).mp (by omega)), if_neg (mt (p1_eq (x := x0) (y := 9) (m := x0.toInt) (n := 9) rfl (by decide)).mp (by omega)), if_neg (mt (p1_eq (x := x0) (y := 10) (m := x0.toInt) (n := 10) rfl (by decide)).mp (by omega)), if_neg (mt (p1_eq (x := x0) (y := 11) (m := x0.toInt) (n := 11) rfl (by decide)).mp (by omega)), if_neg (mt (p1_eq (x := x0) (y := 12) (m := x0.toInt) (n := 12) rfl (by decide)).mp (by omega)), if_neg (mt (p1_eq (x := x0) (y := 13) (m := x0.toInt) (n := 13) rfl (by decide)).mp (by omega)), if_neg (mt (p1_eq (x := x0) (y := 14) (m := x0.toInt) (n := 14) rfl (by decide)).mp (by omega)), if_neg (mt (p1_eq (x := x0) (y := 15) (m := x0.toInt) (n := 15) rfl (by decide)).mp (by omega)), if_neg (mt (p1_eq (x := x0) (y := 16) (m := x0.toInt) (n := 16) rfl (by decide)).mp (by omega)), if_neg (mt (p1_eq (x := x0) (y := 17) (m := x0.toInt) (n := 17) rfl (by decide)).mp (by omega))]
                                          exact e
    · by_cases c3 : 16 < x0
      · by_cases c4 : x0 = 0
        · have ic1 := mt (p1_eq (x := x0) (y := 18) (m := x0.toInt) (n := 18) rfl (by decide)).mpr c1
          have ic2 := mt (p1_lt (x := x0) (y := 9) (m := x0.toInt) (n := 9) rfl (by decide)).mpr c2
          have ic3 := (p1_lt (x := 16) (y := x0) (m := 16) (n := x0.toInt) (by decide) rfl).mp c3
          have ic4 := (p1_eq (x := x0) (y := 0) (m := x0.toInt) (n := 0) rfl (by decide)).mp c4
          exfalso
          omega
        · by_cases c5 : x0 = 1
          · have ic1 := mt (p1_eq (x := x0) (y := 18) (m := x0.toInt) (n := 18) rfl (by decide)).mpr c1
            have ic2 := mt (p1_lt (x := x0) (y := 9) (m := x0.toInt) (n := 9) rfl (by decide)).mpr c2
            have ic3 := (p1_lt (x := 16) (y := x0) (m := 16) (n := x0.toInt) (by decide) rfl).mp c3
            have ic4 := mt (p1_eq (x := x0) (y := 0) (m := x0.toInt) (n := 0) rfl (by decide)).mpr c4
            have ic5 := (p1_eq (x := x0) (y := 1) (m := x0.toInt) (n := 1) rfl (by decide)).mp c5
            exfalso
            omega
          · by_cases c6 : x0 = 2
            · have ic1 := mt (p1_eq (x := x0) (y := 18) (m := x0.toInt) (n := 18) rfl (by decide)).mpr c1
              have ic2 := mt (p1_lt (x := x0) (y := 9) (m := x0.toInt) (n := 9) rfl (by decide)).mpr c2
              have ic3 := (p1_lt (x := 16) (y := x0) (m := 16) (n := x0.toInt) (by decide) rfl).mp c3
              have ic4 := mt (p1_eq (x := x0) (y := 0) (m := x0.toInt) (n := 0) rfl (by decide)).mpr c4
              have ic5 := mt (p1_eq (x := x0) (y := 1) (m := x0.toInt) (n := 1) rfl (by decide)).mpr c5
              have ic6 := (p1_eq (x := x0) (y := 2) (m := x0.toInt) (n := 2) rfl (by decide)).mp c6
              exfalso
              omega
            · by_cases c7 : x0 = 3
              · have ic1 := mt (p1_eq (x := x0) (y := 18) (m := x0.toInt) (n := 18) rfl (by decide)).mpr c1
                have ic2 := mt (p1_lt (x := x0) (y := 9) (m := x0.toInt) (n := 9) rfl (by decide)).mpr c2
                have ic3 := (p1_lt (x := 16) (y := x0) (m := 16) (n := x0.toInt) (by decide) rfl).mp c3
                have ic4 := mt (p1_eq (x := x0) (y := 0) (m := x0.toInt) (n := 0) rfl (by decide)).mpr c4
                have ic5 := mt (p1_eq (x := x0) (y := 1) (m := x0.toInt) (n := 1) rfl (by decide)).mpr c5
                have ic6 := mt (p1_eq (x := x0) (y := 2) (m := x0.toInt) (n := 2) rfl (by decide)).mpr c6
                have ic7 := (p1_eq (x := x0) (y := 3) (m := x0.toInt) (n := 3) rfl (by decide)).mp c7
                exfalso
                omega
              · by_cases c8 : x0 = 4
                · have ic1 := mt (p1_eq (x := x0) (y := 18) (m := x0.toInt) (n := 18) rfl (by decide)).mpr c1
                  have ic2 := mt (p1_lt (x := x0) (y := 9) (m := x0.toInt) (n := 9) rfl (by decide)).mpr c2
                  have ic3 := (p1_lt (x := 16) (y := x0) (m := 16) (n := x0.toInt) (by decide) rfl).mp c3
                  have ic4 := mt (p1_eq (x := x0) (y := 0) (m := x0.toInt) (n := 0) rfl (by decide)).mpr c4
                  have ic5 := mt (p1_eq (x := x0) (y := 1) (m := x0.toInt) (n := 1) rfl (by decide)).mpr c5
                  have ic6 := mt (p1_eq (x := x0) (y := 2) (m := x0.toInt) (n := 2) rfl (by decide)).mpr c6
                  have ic7 := mt (p1_eq (x := x0) (y := 3) (m := x0.toInt) (n := 3) rfl (by decide)).mpr c7
                  have ic8 := (p1_eq (x := x0) (y := 4) (m := x0.toInt) (n := 4) rfl (by decide)).mp c8
                  exfalso
                  omega
                · by_cases c9 : x0 = 5
                  · have ic1 := mt (p1_eq (x := x0) (y := 18) (m := x0.toInt) (n := 18) rfl (by decide)).mpr c1
                    have ic2 := mt (p1_lt (x := x0) (y := 9) (m := x0.toInt) (n := 9) rfl (by decide)).mpr c2
                    have ic3 := (p1_lt (x := 16) (y := x0) (m := 16) (n := x0.toInt) (by decide) rfl).mp c3
                    have ic4 := mt (p1_eq (x := x0) (y := 0) (m := x0.toInt) (n := 0) rfl (by decide)).mpr c4
                    have ic5 := mt (p1_eq (x := x0) (y := 1) (m := x0.toInt) (n := 1) rfl (by decide)).mpr c5
                    have ic6 := mt (p1_eq (x := x0) (y := 2) (m := x0.toInt) (n := 2) rfl (by decide)).mpr c6
                    have ic7 := mt (p1_eq (x := x0) (y := 3) (m := x0.toInt) (n := 3) rfl (by decide)).mpr c7
                    have ic8 := mt (p1_eq (x := x0) (y := 4) (m := x0.toInt) (n := 4) rfl (by decide)).mpr c8
                    have ic9 := (p1_eq (x := x0) (y := 5) (m := x0.toInt) (n := 5) rfl (by decide)).mp c9
                    exfalso
                    omega
                  · by_cases c10 : x0 = 6
                    · have ic1 := mt (p1_eq (x := x0) (y := 18) (m := x0.toInt) (n := 18) rfl (by decide)).mpr c1
                      have ic2 := mt (p1_lt (x := x0) (y := 9) (m := x0.toInt) (n := 9) rfl (by decide)).mpr c2
                      have ic3 := (p1_lt (x := 16) (y := x0) (m := 16) (n := x0.toInt) (by decide) rfl).mp c3
                      have ic4 := mt (p1_eq (x := x0) (y := 0) (m := x0.toInt) (n := 0) rfl (by decide)).mpr c4
                      have ic5 := mt (p1_eq (x := x0) (y := 1) (m := x0.toInt) (n := 1) rfl (by decide)).mpr c5
                      have ic6 := mt (p1_eq (x := x0) (y := 2) (m := x0.toInt) (n := 2) rfl (by decide)).mpr c6
                      have ic7 := mt (p1_eq (x := x0) (y := 3) (m := x0.toInt) (n := 3) rfl (by decide)).mpr c7
                      have ic8 := mt (p1_eq (x := x0) (y := 4) (m := x0.toInt) (n := 4) rfl (by decide)).mpr c8
                      have ic9 := mt (p1_eq (x := x0) (y := 5) (m := x0.toInt) (n := 5) rfl (by decide)).mpr c9
                      have ic10 := (p1_eq (x := x0) (y := 6) (m := x0.toInt) (n := 6) rfl (by decide)).mp c10
                      exfalso
                      omega
                    · by_cases c11 : x0 = 7
                      · have ic1 := mt (p1_eq (x := x0) (y := 18) (m := x0.toInt) (n := 18) rfl (by decide)).mpr c1
                        have ic2 := mt (p1_lt (x := x0) (y := 9) (m := x0.toInt) (n := 9) rfl (by decide)).mpr c2
                        have ic3 := (p1_lt (x := 16) (y := x0) (m := 16) (n := x0.toInt) (by decide) rfl).mp c3
                        have ic4 := mt (p1_eq (x := x0) (y := 0) (m := x0.toInt) (n := 0) rfl (by decide)).mpr c4
                        have ic5 := mt (p1_eq (x := x0) (y := 1) (m := x0.toInt) (n := 1) rfl (by decide)).mpr c5
                        have ic6 := mt (p1_eq (x := x0) (y := 2) (m := x0.toInt) (n := 2) rfl (by decide)).mpr c6
                        have ic7 := mt (p1_eq (x := x0) (y := 3) (m := x0.toInt) (n := 3) rfl (by decide)).mpr c7
                        have ic8 := mt (p1_eq (x := x0) (y := 4) (m := x0.toInt) (n := 4) rfl (by decide)).mpr c8
                        have ic9 := mt (p1_eq (x := x0) (y := 5) (m := x0.toInt) (n := 5) rfl (by decide)).mpr c9
                        have ic10 := mt (p1_eq (x := x0) (y := 6) (m := x0.toInt) (n := 6) rfl (by decide)).mpr c10
                        have ic11 := (p1_eq (x := x0) (y := 7) (m := x0.toInt) (n := 7) rfl (by decide)).mp c11
                        exfalso
                        omega
                      · by_cases c12 : x0 = 8
                        · have ic1 := mt (p1_eq (x := x0) (y := 18) (m := x0.toInt) (n := 18) rfl (by decide)).mpr c1
                          have ic2 := mt (p1_lt (x := x0) (y := 9) (m := x0.toInt) (n := 9) rfl (by decide)).mpr c2
                          have ic3 := (p1_lt (x := 16) (y := x0) (m := 16) (n := x0.toInt) (by decide) rfl).mp c3
                          have ic4 := mt (p1_eq (x := x0) (y := 0) (m := x0.toInt) (n := 0) rfl (by decide)).mpr c4
                          have ic5 := mt (p1_eq (x := x0) (y := 1) (m := x0.toInt) (n := 1) rfl (by decide)).mpr c5
                          have ic6 := mt (p1_eq (x := x0) (y := 2) (m := x0.toInt) (n := 2) rfl (by decide)).mpr c6
                          have ic7 := mt (p1_eq (x := x0) (y := 3) (m := x0.toInt) (n := 3) rfl (by decide)).mpr c7
                          have ic8 := mt (p1_eq (x := x0) (y := 4) (m := x0.toInt) (n := 4) rfl (by decide)).mpr c8
                          have ic9 := mt (p1_eq (x := x0) (y := 5) (m := x0.toInt) (n := 5) rfl (by decide)).mpr c9
                          have ic10 := mt (p1_eq (x := x0) (y := 6) (m := x0.toInt) (n := 6) rfl (by decide)).mpr c10
                          have ic11 := mt (p1_eq (x := x0) (y := 7) (m := x0.toInt) (n := 7) rfl (by decide)).mpr c11
                          have ic12 := (p1_eq (x := x0) (y := 8) (m := x0.toInt) (n := 8) rfl (by decide)).mp c12
                          exfalso
                          omega
                        · by_cases c13 : x0 = 9
                          · have ic1 := mt (p1_eq (x := x0) (y := 18) (m := x0.toInt) (n := 18) rfl (by decide)).mpr c1
                            have ic2 := mt (p1_lt (x := x0) (y := 9) (m := x0.toInt) (n := 9) rfl (by decide)).mpr c2
                            have ic3 := (p1_lt (x := 16) (y := x0) (m := 16) (n := x0.toInt) (by decide) rfl).mp c3
                            have ic4 := mt (p1_eq (x := x0) (y := 0) (m := x0.toInt) (n := 0) rfl (by decide)).mpr c4
                            have ic5 := mt (p1_eq (x := x0) (y := 1) (m := x0.toInt) (n := 1) rfl (by decide)).mpr c5
                            have ic6 := mt (p1_eq (x := x0) (y := 2) (m := x0.toInt) (n := 2) rfl (by decide)).mpr c6
                            have ic7 := mt (p1_eq (x := x0) (y := 3) (m := x0.toInt) (n := 3) rfl (by decide)).mpr c7
                            have ic8 := mt (p1_eq (x := x0) (y := 4) (m := x0.toInt) (n := 4) rfl (by decide)).mpr c8
                            have ic9 := mt (p1_eq (x := x0) (y := 5) (m := x0.toInt) (n := 5) rfl (by decide)).mpr c9
                            have ic10 := mt (p1_eq (x := x0) (y := 6) (m := x0.toInt) (n := 6) rfl (by decide)).mpr c10
                            have ic11 := mt (p1_eq (x := x0) (y := 7) (m := x0.toInt) (n := 7) rfl (by decide)).mpr c11
                            have ic12 := mt (p1_eq (x := x0) (y := 8) (m := x0.toInt) (n := 8) rfl (by decide)).mpr c12
                            have ic13 := (p1_eq (x := x0) (y := 9) (m := x0.toInt) (n := 9) rfl (by decide)).mp c13
                            exfalso
                            omega
                          · by_cases c14 : x0 = 10
                            · have ic1 := mt (p1_eq (x := x0) (y := 18) (m := x0.toInt) (n := 18) rfl (by decide)).mpr c1
                              have ic2 := mt (p1_lt (x := x0) (y := 9) (m := x0.toInt) (n := 9) rfl (by decide)).mpr c2
                              have ic3 := (p1_lt (x := 16) (y := x0) (m := 16) (n := x0.toInt) (by decide) rfl).mp c3
                              have ic4 := mt (p1_eq (x := x0) (y := 0) (m := x0.toInt) (n := 0) rfl (by decide)).mpr c4
                              have ic5 := mt (p1_eq (x := x0) (y := 1) (m := x0.toInt) (n := 1) rfl (by decide)).mpr c5
                              have ic6 := mt (p1_eq (x := x0) (y := 2) (m := x0.toInt) (n := 2) rfl (by decide)).mpr c6
                              have ic7 := mt (p1_eq (x := x0) (y := 3) (m := x0.toInt) (n := 3) rfl (by decide)).mpr c7
                              have ic8 := mt (p1_eq (x := x0) (y := 4) (m := x0.toInt) (n := 4) rfl (by decide)).mpr c8
                              have ic9 := mt (p1_eq (x := x0) (y := 5) (m := x0.toInt) (n := 5) rfl (by decide)).mpr c9
                              have ic10 := mt (p1_eq (x := x0) (y := 6) (m := x0.toInt) (n := 6) rfl (by decide)).mpr c10
                              have ic11 := mt (p1_eq (x := x0) (y := 7) (m := x0.toInt) (n := 7) rfl (by decide)).mpr c11
                              have ic12 := mt (p1_eq (x := x0) (y := 8) (m := x0.toInt) (n := 8) rfl (by decide)).mpr c12
                              have ic13 := mt (p1_eq (x := x0) (y := 9) (m := x0.toInt) (n := 9) rfl (by decide)).mpr c13
                              have ic14 := (p1_eq (x := x0) (y := 10) (m := x0.toInt) (n := 10) rfl (by decide)).mp c14
                              exfalso
                              omega
                            · by_cases c15 : x0 = 11
                              · have ic1 := mt (p1_eq (x := x0) (y := 18) (m := x0.toInt) (n := 18) rfl (by decide)).mpr c1
                                have ic2 := mt (p1_lt (x := x0) (y := 9) (m := x0.toInt) (n := 9) rfl (by decide)).mpr c2
                                have ic3 := (p1_lt (x := 16) (y := x0) (m := 16) (n := x0.toInt) (by decide) rfl).mp c3
                                have ic4 := mt (p1_eq (x := x0) (y := 0) (m := x0.toInt) (n := 0) rfl (by decide)).mpr c4
                                have ic5 := mt (p1_eq (x := x0) (y := 1) (m := x0.toInt) (n := 1) rfl (by decide)).mpr c5
                                have ic6 := mt (p1_eq (x := x0) (y := 2) (m := x0.toInt) (n := 2) rfl (by decide)).mpr c6
                                have ic7 := mt (p1_eq (x := x0) (y := 3) (m := x0.toInt) (n := 3) rfl (by decide)).mpr c7
                                have ic8 := mt (p1_eq (x := x0) (y := 4) (m := x0.toInt) (n := 4) rfl (by decide)).mpr c8
                                have ic9 := mt (p1_eq (x := x0) (y := 5) (m := x0.toInt) (n := 5) rfl (by decide)).mpr c9
                                have ic10 := mt (p1_eq (x := x0) (y := 6) (m := x0.toInt) (n := 6) rfl (by decide)).mpr c10
                                have ic11 := mt (p1_eq (x := x0) (y := 7) (m := x0.toInt) (n := 7) rfl (by decide)).mpr c11
                                have ic12 := mt (p1_eq (x := x0) (y := 8) (m := x0.toInt) (n := 8) rfl (by decide)).mpr c12
                                have ic13 := mt (p1_eq (x := x0) (y := 9) (m := x0.toInt) (n := 9) rfl (by decide)).mpr c13
                                have ic14 := mt (p1_eq (x := x0) (y := 10) (m := x0.toInt) (n := 10) rfl (by decide)).mpr c14
                                have ic15 := (p1_eq (x := x0) (y := 11) (m := x0.toInt) (n := 11) rfl (by decide)).mp c15
                                exfalso
                                omega
                              · by_cases c16 : x0 = 12
                                · have ic1 := mt (p1_eq (x := x0) (y := 18) (m := x0.toInt) (n := 18) rfl (by decide)).mpr c1
                                  have ic2 := mt (p1_lt (x := x0) (y := 9) (m := x0.toInt) (n := 9) rfl (by decide)).mpr c2
                                  have ic3 := (p1_lt (x := 16) (y := x0) (m := 16) (n := x0.toInt) (by decide) rfl).mp c3
                                  have ic4 := mt (p1_eq (x := x0) (y := 0) (m := x0.toInt) (n := 0) rfl (by decide)).mpr c4
                                  have ic5 := mt (p1_eq (x := x0) (y := 1) (m := x0.toInt) (n := 1) rfl (by decide)).mpr c5
                                  have ic6 := mt (p1_eq (x := x0) (y := 2) (m := x0.toInt) (n := 2) rfl (by decide)).mpr c6
                                  have ic7 := mt (p1_eq (x := x0) (y := 3) (m := x0.toInt) (n := 3) rfl (by decide)).mpr c7
                                  have ic8 := mt (p1_eq (x := x0) (y := 4) (m := x0.toInt) (n := 4) rfl (by decide)).mpr c8
                                  have ic9 := mt (p1_eq (x := x0) (y := 5) (m := x0.toInt) (n := 5) rfl (by decide)).mpr c9
                                  have ic10 := mt (p1_eq (x := x0) (y := 6) (m := x0.toInt) (n := 6) rfl (by decide)).mpr c10
                                  have ic11 := mt (p1_eq (x := x0) (y := 7) (m := x0.toInt) (n := 7) rfl (by decide)).mpr c11
                                  have ic12 := mt (p1_eq (x := x0) (y := 8) (m := x0.toInt) (n := 8) rfl (by decide)).mpr c12
                                  have ic13 := mt (p1_eq (x := x0) (y := 9) (m := x0.toInt) (n := 9) rfl (by decide)).mpr c13
                                  have ic14 := mt (p1_eq (x := x0) (y := 10) (m := x0.toInt) (n := 10) rfl (by decide)).mpr c14
                                  have ic15 := mt (p1_eq (x := x0) (y := 11) (m := x0.toInt) (n := 11) rfl (by decide)).mpr c15
                                  have ic16 := (p1_eq (x := x0) (y := 12) (m := x0.toInt) (n := 12) rfl (by decide)).mp c16
                                  exfalso
                                  omega
                                · by_cases c17 : x0 = 13
                                  · have ic1 := mt (p1_eq (x := x0) (y := 18) (m := x0.toInt) (n := 18) rfl (by decide)).mpr c1
                                    have ic2 := mt (p1_lt (x := x0) (y := 9) (m := x0.toInt) (n := 9) rfl (by decide)).mpr c2
                                    have ic3 := (p1_lt (x := 16) (y := x0) (m := 16) (n := x0.toInt) (by decide) rfl).mp c3
                                    have ic4 := mt (p1_eq (x := x0) (y := 0) (m := x0.toInt) (n := 0) rfl (by decide)).mpr c4
                                    have ic5 := mt (p1_eq (x := x0) (y := 1) (m := x0.toInt) (n := 1) rfl (by decide)).mpr c5
                                    have ic6 := mt (p1_eq (x := x0) (y := 2) (m := x0.toInt) (n := 2) rfl (by decide)).mpr c6
                                    have ic7 := mt (p1_eq (x := x0) (y := 3) (m := x0.toInt) (n := 3) rfl (by decide)).mpr c7
                                    have ic8 := mt (p1_eq (x := x0) (y := 4) (m := x0.toInt) (n := 4) rfl (by decide)).mpr c8
                                    have ic9 := mt (p1_eq (x := x0) (y := 5) (m := x0.toInt) (n := 5) rfl (by decide)).mpr c9
                                    have ic10 := mt (p1_eq (x := x0) (y := 6) (m := x0.toInt) (n := 6) rfl (by decide)).mpr c10
                                    have ic11 := mt (p1_eq (x := x0) (y := 7) (m := x0.toInt) (n := 7) rfl (by decide)).mpr c11
                                    have ic12 := mt (p1_eq (x := x0) (y := 8) (m := x0.toInt) (n := 8) rfl (by decide)).mpr c12
                                    have ic13 := mt (p1_eq (x := x0) (y := 9) (m := x0.toInt) (n := 9) rfl (by decide)).mpr c13
                                    have ic14 := mt (p1_eq (x := x0) (y := 10) (m := x0.toInt) (n := 10) rfl (by decide)).mpr c14
                                    have ic15 := mt (p1_eq (x := x0) (y := 11) (m := x0.toInt) (n := 11) rfl (by decide)).mpr c15
                                    have ic16 := mt (p1_eq (x := x0) (y := 12) (m := x0.toInt) (n := 12) rfl (by decide)).mpr c16
                                    have ic17 := (p1_eq (x := x0) (y := 13) (m := x0.toInt) (n := 13) rfl (by decide)).mp c17
                                    exfalso
                                    omega
                                  · by_cases c18 : x0 = 14
                                    · have ic1 := mt (p1_eq (x := x0) (y := 18) (m := x0.toInt) (n := 18) rfl (by decide)).mpr c1
                                      have ic2 := mt (p1_lt (x := x0) (y := 9) (m := x0.toInt) (n := 9) rfl (by decide)).mpr c2
                                      have ic3 := (p1_lt (x := 16) (y := x0) (m := 16) (n := x0.toInt) (by decide) rfl).mp c3
                                      have ic4 := mt (p1_eq (x := x0) (y := 0) (m := x0.toInt) (n := 0) rfl (by decide)).mpr c4
                                      have ic5 := mt (p1_eq (x := x0) (y := 1) (m := x0.toInt) (n := 1) rfl (by decide)).mpr c5
                                      have ic6 := mt (p1_eq (x := x0) (y := 2) (m := x0.toInt) (n := 2) rfl (by decide)).mpr c6
                                      have ic7 := mt (p1_eq (x := x0) (y := 3) (m := x0.toInt) (n := 3) rfl (by decide)).mpr c7
                                      have ic8 := mt (p1_eq (x := x0) (y := 4) (m := x0.toInt) (n := 4) rfl (by decide)).mpr c8
                                      have ic9 := mt (p1_eq (x := x0) (y := 5) (m := x0.toInt) (n := 5) rfl (by decide)).mpr c9
                                      have ic10 := mt (p1_eq (x := x0) (y := 6) (m := x0.toInt) (n := 6) rfl (by decide)).mpr c10
                                      have ic11 := mt (p1_eq (x := x0) (y := 7) (m := x0.toInt) (n := 7) rfl (by decide)).mpr c11
                                      have ic12 := mt (p1_eq (x := x0) (y := 8) (m := x0.toInt) (n := 8) rfl (by decide)).mpr c12
                                      have ic13 := mt (p1_eq (x := x0) (y := 9) (m := x0.toInt) (n := 9) rfl (by decide)).mpr c13
                                      have ic14 := mt (p1_eq (x := x0) (y := 10) (m := x0.toInt) (n := 10) rfl (by decide)).mpr c14
                                      have ic15 := mt (p1_eq (x := x0) (y := 11) (m := x0.toInt) (n := 11) rfl (by decide)).mpr c15
                                      have ic16 := mt (p1_eq (x := x0) (y := 12) (m := x0.toInt) (n := 12) rfl (by decide)).mpr c16
                                      have ic17 := mt (p1_eq (x := x0) (y := 13) (m := x0.toInt) (n := 13) rfl (by decide)).mpr c17
                                      have ic18 := (p1_eq (x := x0) (y := 14) (m := x0.toInt) (n := 14) rfl (by decide)).mp c18
                                      exfalso
                                      omega
                                    · by_cases c19 : x0 = 15
                                      · have ic1 := mt (p1_eq (x := x0) (y := 18) (m := x0.toInt) (n := 18) rfl (by decide)).mpr c1
                                        have ic2 := mt (p1_lt (x := x0) (y := 9) (m := x0.toInt) (n := 9) rfl (by decide)).mpr c2
                                        have ic3 := (p1_lt (x := 16) (y := x0) (m := 16) (n := x0.toInt) (by decide) rfl).mp c3
                                        have ic4 := mt (p1_eq (x := x0) (y := 0) (m := x0.toInt) (n := 0) rfl (by decide)).mpr c4
                                        have ic5 := mt (p1_eq (x := x0) (y := 1) (m := x0.toInt) (n := 1) rfl (by decide)).mpr c5
                                        have ic6 := mt (p1_eq (x := x0) (y := 2) (m := x0.toInt) (n := 2) rfl (by decide)).mpr c6
                                        have ic7 := mt (p1_eq (x := x0) (y := 3) (m := x0.toInt) (n := 3) rfl (by decide)).mpr c7
                                        have ic8 := mt (p1_eq (x := x0) (y := 4) (m := x0.toInt) (n := 4) rfl (by decide)).mpr c8
                                        have ic9 := mt (p1_eq (x := x0) (y := 5) (m := x0.toInt) (n := 5) rfl (by decide)).mpr c9
                                        have ic10 := mt (p1_eq (x := x0) (y := 6) (m := x0.toInt) (n := 6) rfl (by decide)).mpr c10
                                        have ic11 := mt (p1_eq (x := x0) (y := 7) (m := x0.toInt) (n := 7) rfl (by decide)).mpr c11
                                        have ic12 := mt (p1_eq (x := x0) (y := 8) (m := x0.toInt) (n := 8) rfl (by decide)).mpr c12
                                        have ic13 := mt (p1_eq (x := x0) (y := 9) (m := x0.toInt) (n := 9) rfl (by decide)).mpr c13
                                        have ic14 := mt (p1_eq (x := x0) (y := 10) (m := x0.toInt) (n := 10) rfl (by decide)).mpr c14
                                        have ic15 := mt (p1_eq (x := x0) (y := 11) (m := x0.toInt) (n := 11) rfl (by decide)).mpr c15
                                        have ic16 := mt (p1_eq (x := x0) (y := 12) (m := x0.toInt) (n := 12) rfl (by decide)).mpr c16
                                        have ic17 := mt (p1_eq (x := x0) (y := 13) (m := x0.toInt) (n := 13) rfl (by decide)).mpr c17
                                        have ic18 := mt (p1_eq (x := x0) (y := 14) (m := x0.toInt) (n := 14) rfl (by decide)).mpr c18
                                        have ic19 := (p1_eq (x := x0) (y := 15) (m := x0.toInt) (n := 15) rfl (by decide)).mp c19
                                        exfalso
                                        omega
                                      · by_cases c20 : x0 = 16
                                        · have ic1 := mt (p1_eq (x := x0) (y := 18) (m := x0.toInt) (n := 18) rfl (by decide)).mpr c1
                                          have ic2 := mt (p1_lt (x := x0) (y := 9) (m := x0.toInt) (n := 9) rfl (by decide)).mpr c2
                                          have ic3 := (p1_lt (x := 16) (y := x0) (m := 16) (n := x0.toInt) (by decide) rfl).mp c3
                                          have ic4 := mt (p1_eq (x := x0) (y := 0) (m := x0.toInt) (n := 0) rfl (by decide)).mpr c4
                                          have ic5 := mt (p1_eq (x := x0) (y := 1) (m := x0.toInt) (n := 1) rfl (by decide)).mpr c5
                                          have ic6 := mt (p1_eq (x := x0) (y := 2) (m := x0.toInt) (n := 2) rfl (by decide)).mpr c6
                                          have ic7 := mt (p1_eq (x := x0) (y := 3) (m := x0.toInt) (n := 3) rfl (by decide)).mpr c7
                                          have ic8 := mt (p1_eq (x := x0) (y := 4) (m := x0.toInt) (n := 4) rfl (by decide)).mpr c8
                                          have ic9 := mt (p1_eq (x := x0) (y := 5) (m := x0.toInt) (n := 5) rfl (by decide)).mpr c9
                                          have ic10 := mt (p1_eq (x := x0) (y := 6) (m := x0.toInt) (n := 6) rfl (by decide)).mpr c10
                                          have ic11 := mt (p1_eq (x := x0) (y := 7) (m := x0.toInt) (n := 7) rfl (by decide)).mpr c11
                                          have ic12 := mt (p1_eq (x := x0) (y := 8) (m := x0.toInt) (n := 8) rfl (by decide)).mpr c12
                                          have ic13 := mt (p1_eq (x := x0) (y := 9) (m := x0.toInt) (n := 9) rfl (by decide)).mpr c13
                                          have ic14 := mt (p1_eq (x := x0) (y := 10) (m := x0.toInt) (n := 10) rfl (by decide)).mpr c14
                                          have ic15 := mt (p1_eq (x := x0) (y := 11) (m := x0.toInt) (n := 11) rfl (by decide)).mpr c15
                                          have ic16 := mt (p1_eq (x := x0) (y := 12) (m := x0.toInt) (n := 12) rfl (by decide)).mpr c16
                                          have ic17 := mt (p1_eq (x := x0) (y := 13) (m := x0.toInt) (n := 13) rfl (by decide)).mpr c17
                                          have ic18 := mt (p1_eq (x := x0) (y := 14) (m := x0.toInt) (n := 14) rfl (by decide)).mpr c18
                                          have ic19 := mt (p1_eq (x := x0) (y := 15) (m := x0.toInt) (n := 15) rfl (by decide)).mpr c19
                                          have ic20 := (p1_eq (x := x0) (y := 16) (m := x0.toInt) (n := 16) rfl (by decide)).mp c20
                                          exfalso
                                          omega
                                        · by_cases c21 : x0 = 17
                                          · have ic1 := mt (p1_eq (x := x0) (y := 18) (m := x0.toInt) (n := 18) rfl (by decide)).mpr c1
                                            have ic2 := mt (p1_lt (x := x0) (y := 9) (m := x0.toInt) (n := 9) rfl (by decide)).mpr c2
                                            have ic3 := (p1_lt (x := 16) (y := x0) (m := 16) (n := x0.toInt) (by decide) rfl).mp c3
                                            have ic4 := mt (p1_eq (x := x0) (y := 0) (m := x0.toInt) (n := 0) rfl (by decide)).mpr c4
                                            have ic5 := mt (p1_eq (x := x0) (y := 1) (m := x0.toInt) (n := 1) rfl (by decide)).mpr c5
                                            have ic6 := mt (p1_eq (x := x0) (y := 2) (m := x0.toInt) (n := 2) rfl (by decide)).mpr c6
                                            have ic7 := mt (p1_eq (x := x0) (y := 3) (m := x0.toInt) (n := 3) rfl (by decide)).mpr c7
                                            have ic8 := mt (p1_eq (x := x0) (y := 4) (m := x0.toInt) (n := 4) rfl (by decide)).mpr c8
                                            have ic9 := mt (p1_eq (x := x0) (y := 5) (m := x0.toInt) (n := 5) rfl (by decide)).mpr c9
                                            have ic10 := mt (p1_eq (x := x0) (y := 6) (m := x0.toInt) (n := 6) rfl (by decide)).mpr c10
                                            have ic11 := mt (p1_eq (x := x0) (y := 7) (m := x0.toInt) (n := 7) rfl (by decide)).mpr c11
                                            have ic12 := mt (p1_eq (x := x0) (y := 8) (m := x0.toInt) (n := 8) rfl (by decide)).mpr c12
                                            have ic13 := mt (p1_eq (x := x0) (y := 9) (m := x0.toInt) (n := 9) rfl (by decide)).mpr c13
                                            have ic14 := mt (p1_eq (x := x0) (y := 10) (m := x0.toInt) (n := 10) rfl (by decide)).mpr c14
                                            have ic15 := mt (p1_eq (x := x0) (y := 11) (m := x0.toInt) (n := 11) rfl (by decide)).mpr c15
                                            have ic16 := mt (p1_eq (x := x0) (y := 12) (m := x0.toInt) (n := 12) rfl (by decide)).mpr c16
                                            have ic17 := mt (p1_eq (x := x0) (y := 13) (m := x0.toInt) (n := 13) rfl (by decide)).mpr c17
                                            have ic18 := mt (p1_eq (x := x0) (y := 14) (m := x0.toInt) (n := 14) rfl (by decide)).mpr c18
                                            have ic19 := mt (p1_eq (x := x0) (y := 15) (m := x0.toInt) (n := 15) rfl (by decide)).mpr c19
                                            have ic20 := mt (p1_eq (x := x0) (y := 16) (m := x0.toInt) (n := 16) rfl (by decide)).mpr c20
                                            have ic21 := (p1_eq (x := x0) (y := 17) (m := x0.toInt) (n := 17) rfl (by decide)).mp c21
                                            obtain ⟨H1, e, f⟩ := fx_state_37 (sL := sL) (sx := sx) (cs := cs) (x0 := x0) (p1_c0 P) (p1_c123 P) (p1_c129 P) (p1_c136 P) (p1_c130 P) (p1_c132 P) c1 c2 c3 c4 c5 c6 c7 c8 c9 c10 c11 c12 c13 c14 c15 c16 c17 c18 c19 c20 c21
                                            refine ⟨H1, ?_, fun j hj => f.2 j⟩
                                            rw [if_neg (mt (p1_eq (x := x0) (y := 0) (m := x0.toInt) (n := 0) rfl (by decide)).mp (by omega)), if_neg (mt (p1_eq (x := x0) (y := 1) (m := x0.toInt) (n := 1) rfl (by decide)).mp (by omega)), if_neg (mt (p1_eq (x := x0) (y := 2) (m := x0.toInt) (n := 2) rfl (by decide)).mp (by omega)), if_neg (mt (p1_eq (x := x0) (y := 3) (m := x0.toInt) (n := 3) rfl (by decide)).mp (by omega)), if_neg (mt (p1_eq (x := x0) (y := 4) (m := x0.toInt) (n := 4) rfl (by decide)).mp (by omega)), if_neg (mt (p1_eq (x := x0) (y := 5) (m := x0.toInt) (n := 5) rfl (by decide)).mp (by omega)), if_neg (mt (p1_eq (x := x0) (y := 6) (m := x0.toInt) (n := 6) rfl (by decide)).mp (by omega)), if_neg (mt (p1_eq (x := x0) (y := 7) (m := x0.toInt) (n := 7) rfl (by decide)).mp (by omega)), if_neg (mt (p1_eq (x := x0) (y := 8) (m := x0.toInt) (n := 8) rfl (by decide)).mp (by omega)), if_neg (mt (p1_eq (x := x0) (y := 9) (m := x0.toInt) (n := 9) rfl (by decide)).mp (by omega)), if_neg (mt (p1_eq (x := x0) (y := 10) (m := x0.toInt) (n := 10) rfl (by decide)).mp (by omega)), if_neg (mt (p1_eq (x := x0) (y := 11) (m := x0.toInt) (n := 11) rfl (by decide)).mp (by omega)), if_neg (mt (p1_eq (x := x0) (y := 12) (m := x0.toInt) (n := 12) rfl (by decide)).mp (by omega)), if_neg (mt (p1_eq (x := x0) (y := 13) (m := x0.toInt) (n := 13) rfl (by decide)).mp (by omega)), if_neg (mt (p1_eq (x := x0) (y := 14) (m := x0.toInt) (n := 14) rfl (by decide)).mp (by omega)), if_neg (mt (p1_eq (x := x0) (y := 15) (m := x0.toInt) (n := 15) rfl (by decide)).mp (by omega)), if_neg (mt (p1_eq (x := x0) (y := 16) (m := x0.toInt) (n := 16) rfl (by decide)).mp (by omega)), if_pos ((p1_eq (x := x0) (y := 17) (m := x0.toInt) (n := 17) rfl (by decide)).mpr (by omega))]
                                            exact e
                                          · have ic1 := mt (p1_eq (x := x0) (y := 18) (m := x0.toInt) (n := 18) rfl (by decide)).mpr c1
                                            have ic2 := mt (p1_lt (x := x0) (y := 9) (m := x0.toInt) (n := 9) rfl (by decide)).mpr c2
                                            have ic3 := (p1_lt (x := 16) (y := x0) (m := 16) (n := x0.toInt) (by decide) rfl).mp c3
                                            have ic4 := mt (p1_eq (x := x0) (y := 0) (m := x0.toInt) (n := 0) rfl (by decide)).mpr c4
                                            have ic5 := mt (p1_eq (x := x0) (y := 1) (m := x0.toInt) (n := 1) rfl (by decide)).mpr c5
                                            have ic6 := mt (p1_eq (x := x0) (y := 2) (m := x0.toInt) (n := 2) rfl (by decide)).mpr c6
                                            have ic7 := mt (p1_eq (x := x0) (y := 3) (m := x0.toInt) (n := 3) rfl (by decide)).mpr c7
                                            have ic8 := mt (p1_eq (x := x0) (y := 4) (m := x0.toInt) (n := 4) rfl (by decide)).mpr c8
                                            have ic9 := mt (p1_eq (x := x0) (y := 5) (m := x0.toInt) (n := 5) rfl (by decide)).mpr c9
                                            have ic10 := mt (p1_eq (x := x0) (y := 6) (m := x0.toInt) (n := 6) rfl (by decide)).mpr c10
                                            have ic11 := mt (p1_eq (x := x0) (y := 7) (m := x0.toInt) (n := 7) rfl (by decide)).mpr c11
                                            have ic12 := mt (p1_eq (x := x0) (y := 8) (m := x0.toInt) (n := 8) rfl (by decide)).mpr c12
                                            have ic13 := mt (p1_eq (x := x0) (y := 9) (m := x0.toInt) (n := 9) rfl (by decide)).mpr c13
                                            have ic14 := mt (p1_eq (x := x0) (y := 10) (m := x0.toInt) (n := 10) rfl (by decide)).mpr c14
                                            have ic15 := mt (p1_eq (x := x0) (y := 11) (m := x0.toInt) (n := 11) rfl (by decide)).mpr c15
                                            have ic16 := mt (p1_eq (x := x0) (y := 12) (m := x0.toInt) (n := 12) rfl (by decide)).mpr c16
                                            have ic17 := mt (p1_eq (x := x0) (y := 13) (m := x0.toInt) (n := 13) rfl (by decide)).mpr c17
                                            have ic18 := mt (p1_eq (x := x0) (y := 14) (m := x0.toInt) (n := 14) rfl (by decide)).mpr c18
                                            have ic19 := mt (p1_eq (x := x0) (y := 15) (m := x0.toInt) (n := 15) rfl (by decide)).mpr c19
                                            have ic20 := mt (p1_eq (x := x0) (y := 16) (m := x0.toInt) (n := 16) rfl (by decide)).mpr c20
                                            have ic21 := mt (p1_eq (x := x0) (y := 17) (m := x0.toInt) (n := 17) rfl (by decide)).mpr c21
                                            obtain ⟨H1, e, f⟩ := fx_state_38 (sL := sL) (sx := sx) (cs := cs) (x0 := x0) (p1_c0 P) (p1_c123 P) (p1_c129 P) (p1_c136 P) (p1_c130 P) (p1_c132 P) c1 c2 c3 c4 c5 c6 c7 c8 c9 c10 c11 c12 c13 c14 c15 c16 c17 c18 c19 c20 c21
                                            refine ⟨H1, ?_, fun j hj => f.2 j⟩
                                            rw [if_neg (mt (p1_eq (x := x0) (y := 0) (m := x0.toInt) (n := 0) rfl (by decide)).mp (by omega)), if_neg (mt (p1_eq (x := x0) (y := 1) (m := x0.toInt) (n := 1) rfl (by decide)).mp (by omega)), if_neg (mt (p1_eq (x := x0) (y := 2) (m := x0.toInt) (n := 2) rfl (by decide)).mp (by omega)), if_neg (mt (p1_eq (x := x0) (y := 3) (m := x0.toInt) (n := 3) rfl (by decide)).mp (by omega)), if_neg (mt (p1_eq (x := x0) (y := 4) (m := x0.toInt) (n := 4) rfl (by decide)).mp (by omega)), if_neg (mt (p1_eq (x := x0) (y := 5) (m := x0.toInt) (n := 5) rfl (by decide)).mp (by omega)), if_neg (mt (p1_eq (x := x0) (y := 6) (m := x0.toInt) (n := 6) rfl (by decide)).mp (by omega)), if_neg (mt (p1_eq (x := x0) (y := 7) (m := x0.toInt) (n := 7) rfl (by decide)).mp (by omega)), if_neg (mt (p1_eq (x := x0) (y := 8) (m := x0.toInt) (n := 8) rfl (by decide)).mp (by omega)), if_neg (mt (p1_eq (x := x0) (y := 9) (m := x0.toInt) (n := 9) rfl (by decide)).mp (by omega)), if_neg (mt (p1_eq (x := x0) (y := 10) (m := x0.toInt) (n := 10) rfl (by decide)).mp (by omega)), if_neg (mt (p1_eq (x := x0) (y := 11) (m := x0.toInt) (n := 11) rfl (by decide)).mp (by omega)), if_neg (mt (p1_eq (x := x0) (y := 12) (m := x0.toInt) (n := 12) rfl (by decide)).mp (by omega)), if_neg (mt (p1_eq (x := x0) (y := 13) (m := x0.toInt) (n := 13) rfl (by decide)).mp (by omega)), if_neg (mt (p1_eq (x := x0) (y := 14) (m := x0.toInt) (n := 14) rfl (by decide)).mp (by omega)), if_neg (mt (p1_eq (x := x0) (y := 15) (m := x0.toInt) (n := 15) rfl (by decide)).mp (by omega)), if_neg (mt (p1_eq (x := x0) (y := 16) (m := x0.toInt) (n := 16) rfl (by decide)).mp (by omega)), if_neg (mt (p1_eq (x := x0) (y := 17) (m := x0.toInt) (n := 17) rfl (by decide)).mp (by omega))]
                                            exact e
      · by_cases c4 : x0 = 10
        · by_cases c5 : x0 = 0
          · have ic1 := mt (p1_eq (x := x0) (y := 18) (m := x0.toInt) (n := 18) rfl (by decide)).mpr c1
            have ic2 := mt (p1_lt (x := x0) (y := 9) (m := x0.toInt) (n := 9) rfl (by decide)).mpr c2
            have ic3 := mt (p1_lt (x := 16) (y := x0) (m := 16) (n := x0.toInt) (by decide) rfl).mpr c3
            have ic4 := (p1_eq (x := x0) (y := 10) (m := x0.toInt) (n := 10) rfl (by decide)).mp c4
            have ic5 := (p1_eq (x := x0) (y := 0) (m := x0.toInt) (n := 0) rfl (by decide)).mp c5
            exfalso
            omega
          · by_cases c6 : x0 = 1
            · have ic1 := mt (p1_eq (x := x0) (y := 18) (m := x0.toInt) (n := 18) rfl (by decide)).mpr c1
              have ic2 := mt (p1_lt (x := x0) (y := 9) (m := x0.toInt) (n := 9) rfl (by decide)).mpr c2
              have ic3 := mt (p1_lt (x := 16) (y := x0) (m := 16) (n := x0.toInt) (by decide) rfl).mpr c3
              have ic4 := (p1_eq (x := x0) (y := 10) (m := x0.toInt) (n := 10) rfl (by decide)).mp c4
              have ic5 := mt (p1_eq (x := x0) (y := 0) (m := x0.toInt) (n := 0) rfl (by decide)).mpr c5
              have ic6 := (p1_eq (x := x0) (y := 1) (m := x0.toInt) (n := 1) rfl (by decide)).mp c6
              exfalso
              omega
            · by_cases c7 : x0 = 2
              · have ic1 := mt (p1_eq (x := x0) (y := 18) (m := x0.toInt) (n := 18) rfl (by decide)).mpr c1
                have ic2 := mt (p1_lt (x := x0) (y := 9) (m := x0.toInt) (n := 9) rfl (by decide)).mpr c2
                have ic3 := mt (p1_lt (x := 16) (y := x0) (m := 16) (n := x0.toInt) (by decide) rfl).mpr c3
                have ic4 := (p1_eq (x := x0) (y := 10) (m := x0.toInt) (n := 10) rfl (by decide)).mp c4
                have ic5 := mt (p1_eq (x := x0) (y := 0) (m := x0.toInt) (n := 0) rfl (by decide)).mpr c5
                have ic6 := mt (p1_eq (x := x0) (y := 1) (m := x0.toInt) (n := 1) rfl (by decide)).mpr c6
                have ic7 := (p1_eq (x := x0) (y := 2) (m := x0.toInt) (n := 2) rfl (by decide)).mp c7
                exfalso
                omega
              · by_cases c8 : x0 = 3
                · have ic1 := mt (p1_eq (x := x0) (y := 18) (m := x0.toInt) (n := 18) rfl (by decide)).mpr c1
                  have ic2 := mt (p1_lt (x := x0) (y := 9) (m := x0.toInt) (n := 9) rfl (by decide)).mpr c2
                  have ic3 := mt (p1_lt (x := 16) (y := x0) (m := 16) (n := x0.toInt) (by decide) rfl).mpr c3
                  have ic4 := (p1_eq (x := x0) (y := 10) (m := x0.toInt) (n := 10) rfl (by decide)).mp c4
                  have ic5 := mt (p1_eq (x := x0) (y := 0) (m := x0.toInt) (n := 0) rfl (by decide)).mpr c5
                  have ic6 := mt (p1_eq (x := x0) (y := 1) (m := x0.toInt) (n := 1) rfl (by decide)).mpr c6
                  have ic7 := mt (p1_eq (x := x0) (y := 2) (m := x0.toInt) (n := 2) rfl (by decide)).mpr c7
                  have ic8 := (p1_eq (x := x0) (y := 3) (m := x0.toInt) (n := 3) rfl (by decide)).mp c8
                  exfalso
                  omega
                · by_cases c9 : x0 = 4
                  · have ic1 := mt (p1_eq (x := x0) (y := 18) (m := x0.toInt) (n := 18) rfl (by decide)).mpr c1
                    have ic2 := mt (p1_lt (x := x0) (y := 9) (m := x0.toInt) (n := 9) rfl (by decide)).mpr c2
                    have ic3 := mt (p1_lt (x := 16) (y := x0) (m := 16) (n := x0.toInt) (by decide) rfl).mpr c3
                    have ic4 := (p1_eq (x := x0) (y := 10) (m := x0.toInt) (n := 10) rfl (by decide)).mp c4
                    have ic5 := mt (p1_eq (x := x0) (y := 0) (m := x0.toInt) (n := 0) rfl (by decide)).mpr c5
                    have ic6 := mt (p1_eq (x := x0) (y := 1) (m := x0.toInt) (n := 1) rfl (by decide)).mpr c6
                    have ic7 := mt (p1_eq (x := x0) (y := 2) (m := x0.toInt) (n := 2) rfl (by decide)).mpr c7
                    have ic8 := mt (p1_eq (x := x0) (y := 3) (m := x0.toInt) (n := 3) rfl (by decide)).mpr c8
                    have ic9 := (p1_eq (x := x0) (y := 4) (m := x0.toInt) (n := 4) rfl (by decide)).mp c9
                    exfalso
                    omega
                  · by_cases c10 : x0 = 5
                    · have ic1 := mt (p1_eq (x := x0) (y := 18) (m := x0.toInt) (n := 18) rfl (by decide)).mpr c1
                      have ic2 := mt (p1_lt (x := x0) (y := 9) (m := x0.toInt) (n := 9) rfl (by decide)).mpr c2
                      have ic3 := mt (p1_lt (x := 16) (y := x0) (m := 16) (n := x0.toInt) (by decide) rfl).mpr c3
                      have ic4 := (p1_eq (x := x0) (y := 10) (m := x0.toInt) (n := 10) rfl (by decide)).mp c4
                      have ic5 := mt (p1_eq (x := x0) (y := 0) (m := x0.toInt) (n := 0) rfl (by decide)).mpr c5
                      have ic6 := mt (p1_eq (x := x0) (y := 1) (m := x0.toInt) (n := 1) rfl (by decide)).mpr c6
                      have ic7 := mt (p1_eq (x := x0) (y := 2) (m := x0.toInt) (n := 2) rfl (by decide)).mpr c7
                      have ic8 := mt (p1_eq (x := x0) (y := 3) (m := x0.toInt) (n := 3) rfl (by decide)).mpr c8
                      have ic9 := mt (p1_eq (x := x0) (y := 4) (m := x0.toInt) (n := 4) rfl (by decide)).mpr c9
                      have ic10 := (p1_eq (x := x0) (y := 5) (m := x0.toInt) (n := 5) rfl (by decide)).mp c10
                      exfalso
                      omega
                    · by_cases c11 : x0 = 6
                      · have ic1 := mt (p1_eq (x := x0) (y := 18) (m := x0.toInt) (n := 18) rfl (by decide)).mpr c1
                        have ic2 := mt (p1_lt (x := x0) (y := 9) (m := x0.toInt) (n := 9) rfl (by decide)).mpr c2
                        have ic3 := mt (p1_lt (x := 16) (y := x0) (m := 16) (n := x0.toInt) (by decide) rfl).mpr c3
                        have ic4 := (p1_eq (x := x0) (y := 10) (m := x0.toInt) (n := 10) rfl (by decide)).mp c4
                        have ic5 := mt (p1_eq (x := x0) (y := 0) (m := x0.toInt) (n := 0) rfl (by decide)).mpr c5
                        have ic6 := mt (p1_eq (x := x0) (y := 1) (m := x0.toInt) (n := 1) rfl (by decide)).mpr c6
                        have ic7 := mt (p1_eq (x := x0) (y := 2) (m := x0.toInt) (n := 2) rfl (by decide)).mpr c7
                        have ic8 := mt (p1_eq (x := x0) (y := 3) (m := x0.toInt) (n := 3) rfl (by decide)).mpr c8
                        have ic9 := mt (p1_eq (x := x0) (y := 4) (m := x0.toInt) (n := 4) rfl (by decide)).mpr c9
                        have ic10 := mt (p1_eq (x := x0) (y := 5) (m := x0.toInt) (n := 5) rfl (by decide)).mpr c10
                        have ic11 := (p1_eq (x := x0) (y := 6) (m := x0.toInt) (n := 6) rfl (by decide)).mp c11
                        exfalso
                        omega
                      · by_cases c12 : x0 = 7
                        · have ic1 := mt (p1_eq (x := x0) (y := 18) (m := x0.toInt) (n := 18) rfl (by decide)).mpr c1
                          have ic2 := mt (p1_lt (x := x0) (y := 9) (m := x0.toInt) (n := 9) rfl (by decide)).mpr c2
                          have ic3 := mt (p1_lt (x := 16) (y := x0) (m := 16) (n := x0.toInt) (by decide) rfl).mpr c3
                          have ic4 := (p1_eq (x := x0) (y := 10) (m := x0.toInt) (n := 10) rfl (by decide)).mp c4
                          have ic5 := mt (p1_eq (x := x0) (y := 0) (m := x0.toInt) (n := 0) rfl (by decide)).mpr c5
                          have ic6 := mt (p1_eq (x := x0) (y := 1) (m := x0.toInt) (n := 1) rfl (by decide)).mpr c6
                          have ic7 := mt (p1_eq (x := x0) (y := 2) (m := x0.toInt) (n := 2) rfl (by decide)).mpr c7
                          have ic8 := mt (p1_eq (x := x0) (y := 3) (m := x0.toInt) (n := 3) rfl (by decide)).mpr c8
                          have ic9 := mt (p1_eq (x := x0) (y := 4) (m := x0.toInt) (n := 4) rfl (by decide)).mpr c9
                          have ic10 := mt (p1_eq (x := x0) (y := 5) (m := x0.toInt) (n := 5) rfl (by decide)).mpr c10
                          have ic11 := mt (p1_eq (x := x0) (y := 6) (m := x0.toInt) (n := 6) rfl (by decide)).mpr c11
                          have ic12 := (p1_eq (x := x0) (y := 7) (m := x0.toInt) (n := 7) rfl (by decide)).mp c12
                          exfalso
                          omega
                        · by_cases c13 : x0 = 8
                          · have ic1 := mt (p1_eq (x := x0) (y := 18) (m := x0.toInt) (n := 18) rfl (by decide)).mpr c1
                            have ic2 := mt (p1_lt (x := x0) (y := 9) (m := x0.toInt) (n := 9) rfl (by decide)).mpr c2
                            have ic3 := mt (p1_lt (x := 16) (y := x0) (m := 16) (n := x0.toInt) (by decide) rfl).mpr c3
                            have ic4 := (p1_eq (x := x0) (y := 10) (m := x0.toInt) (n := 10) rfl (by decide)).mp c4
                            have ic5 := mt (p1_eq (x := x0) (y := 0) (m := x0.toInt) (n := 0) rfl (by decide)).mpr c5
                            have ic6 := mt (p1_eq (x := x0) (y := 1) (m := x0.toInt) (n := 1) rfl (by decide)).mpr c6
                            have ic7 := mt (p1_eq (x := x0) (y := 2) (m := x0.toInt) (n := 2) rfl (by decide)).mpr c7
                            have ic8 := mt (p1_eq (x := x0) (y := 3) (m := x0.toInt) (n := 3) rfl (by decide)).mpr c8
                            have ic9 := mt (p1_eq (x := x0) (y := 4) (m := x0.toInt) (n := 4) rfl (by decide)).mpr c9
                            have ic10 := mt (p1_eq (x := x0) (y := 5) (m := x0.toInt) (n := 5) rfl (by decide)).mpr c10
                            have ic11 := mt (p1_eq (x := x0) (y := 6) (m := x0.toInt) (n := 6) rfl (by decide)).mpr c11
                            have ic12 := mt (p1_eq (x := x0) (y := 7) (m := x0.toInt) (n := 7) rfl (by decide)).mpr c12
                            have ic13 := (p1_eq (x := x0) (y := 8) (m := x0.toInt) (n := 8) rfl (by decide)).mp c13
                            exfalso
                            omega
                          · by_cases c14 : x0 = 9
                            · have ic1 := mt (p1_eq (x := x0) (y := 18) (m := x0.toInt) (n := 18) rfl (by decide)).mpr c1
                              have ic2 := mt (p1_lt (x := x0) (y := 9) (m := x0.toInt) (n := 9) rfl (by decide)).mpr c2
                              have ic3 := mt (p1_lt (x := 16) (y := x0) (m := 16) (n := x0.toInt) (by decide) rfl).mpr c3
                              have ic4 := (p1_eq (x := x0) (y := 10) (m := x0.toInt) (n := 10) rfl (by decide)).mp c4
                              have ic5 := mt (p1_eq (x := x0) (y := 0) (m := x0.toInt) (n := 0) rfl (by decide)).mpr c5
                              have ic6 := mt (p1_eq (x := x0) (y := 1) (m := x0.toInt) (n := 1) rfl (by decide)).mpr c6
                              have ic7 := mt (p1_eq (x := x0) (y := 2) (m := x0.toInt) (n := 2) rfl (by decide)).mpr c7
                              have ic8 := mt (p1_eq (x := x0) (y := 3) (m := x0.toInt) (n := 3) rfl (by decide)).mpr c8
                              have ic9 := mt (p1_eq (x := x0) (y := 4) (m := x0.toInt) (n := 4) rfl (by decide)).mpr c9
                              have ic10 := mt (p1_eq (x := x0) (y := 5) (m := x0.toInt) (n := 5) rfl (by decide)).mpr c10
                              have ic11 := mt (p1_eq (x := x0) (y := 6) (m := x0.toInt) (n := 6) rfl (by decide)).mpr c11
                              have ic12 := mt (p1_eq (x := x0) (y := 7) (m := x0.toInt) (n := 7) rfl (by decide)).mpr c12
                              have ic13 := mt (p1_eq (x := x0) (y := 8) (m := x0.toInt) (n := 8) rfl (by decide)).mpr c13
                              have ic14 := (p1_eq (x := x0) (y := 9) (m := x0.toInt) (n := 9) rfl (by decide)).mp c14
                              exfalso
                              omega
                            · have ic1 := mt (p1_eq (x := x0) (y := 18) (m := x0.toInt) (n := 18) rfl (by decide)).mpr c1
                              have ic2 := mt (p1_lt (x := x0) (y := 9) (m := x0.toInt) (n := 9) rfl (by decide)).mpr c2
                              have ic3 := mt (p1_lt (x := 16) (y := x0) (m := 16) (n := x0.toInt) (by decide) rfl).mpr c3
                              have ic4 := (p1_eq (x := x0) (y := 10) (m := x0.toInt) (n := 10) rfl (by decide)).mp c4
                              have ic5 := mt (p1_eq (x := x0) (y := 0) (m := x0.toInt) (n := 0) rfl (by decide)).mpr c5
                              have ic6 := mt (p1_eq (x := x0) (y := 1) (m := x0.toInt) (n := 1) rfl (by decide)).mpr c6
                              have ic7 := mt (p1_eq (x := x0) (y := 2) (m := x0.toInt) (n := 2) rfl (by decide)).mpr c7
                              have ic8 := mt (p1_eq (x := x0) (y := 3) (m := x0.toInt) (n := 3) rfl (by decide)).mpr c8
                              have ic9 := mt (p1_eq (x := x0) (y := 4) (m := x0.toInt) (n := 4) rfl (by decide)).mpr c9
                              have ic10 := mt (p1_eq (x := x0) (y := 5) (m := x0.toInt) (n := 5) rfl (by decide)).mpr c10
                              have ic11 := mt (p1_eq (x := x0) (y := 6) (m := x0.toInt) (n := 6) rfl (by decide)).mpr c11
                              have ic12 := mt (p1_eq (x := x0) (y := 7) (m := x0.toInt) (n := 7) rfl (by decide)).mpr c12
                              have ic13 := mt (p1_eq (x := x0) (y := 8) (m := x0.toInt) (n := 8) rfl (by decide)).mpr c13
                              have ic14 := mt (p1_eq (x := x0) (y := 9) (m := x0.toInt) (n := 9) rfl (by decide)).mpr c14
                              obtain ⟨H1, e, f⟩ := fx_state_49 (sL := sL) (sx := sx) (cs := cs) (x0 := x0) (p1_c0 P) (p1_c123 P) (p1_c129 P) (p1_c136 P) (p1_c130 P) (p1_c132 P) c1 c2 c3 c4 c5 c6 c7 c8 c9 c10 c11 c12 c13 c14
                              refine ⟨H1, ?_, fun j hj => f.2 j⟩
                              rw [if_neg (mt (p1_eq (x := x0) (y := 0) (m := x0.toInt) (n := 0) rfl (by decide)).mp (by omega)), if_neg (mt (p1_eq (x := x0) (y := 1) (m := x0.toInt) (n := 1) rfl (by decide)).mp (by omega)), if_neg (mt (p1_eq (x := x0) (y := 2) (m := x0.toInt) (n := 2) rfl (by decide)).mp (by omega)), if_neg (mt (p1_eq (x := x0) (y := 3) (m := x0.toInt) (n := 3) rfl (by decide)).mp (by omega)), if_neg (mt (p1_eq (x := x0) (y := 4) (m := x0.toInt) (n := 4) rfl (by decide)).mp (by omega)), if_neg (mt (p1_eq (x := x0) (y := 5) (m := x0.toInt) (n := 5) rfl (by decide)).mp (by omega)), if_neg (mt (p1_eq (x := x0) (y := 6) (m := x0.toInt) (n := 6) rfl (by decide)).mp (by omega)), if_neg (mt (p1_eq (x := x0) (y := 7) (m := x0.toInt) (n := 7) rfl (by decide)).mp (by omega)), if_neg (mt (p1_eq (x := x0) (y := 8) (m := x0.toInt) (n := 8) rfl (by decide)).mp (by omega)), if_neg (mt (p1_eq (x := x0) (y := 9) (m := x0.toInt) (n := 9) rfl (by decide)).mp (by omega)), if_pos ((p1_eq (x := x0) (y := 10) (m := x0.toInt) (n := 10) rfl (by decide)).mpr (by omega))]
                              exact e
        · by_cases c5 : x0 = 9
          · have ic1 := mt (p1_eq (x := x0) (y := 18) (m := x0.toInt) (n := 18) rfl (by decide)).mpr c1
            have ic2 := mt (p1_lt (x := x0) (y := 9) (m := x0.toInt) (n := 9) rfl (by decide)).mpr c2
            have ic3 := mt (p1_lt (x := 16) (y := x0) (m := 16) (n := x0.toInt) (by decide) rfl).mpr c3
            have ic4 := mt (p1_eq (x := x0) (y := 10) (m := x0.toInt) (n := 10) rfl (by decide)).mpr c4
            have ic5 := (p1_eq (x := x0) (y := 9) (m := x0.toInt) (n := 9) rfl (by decide)).mp c5
            obtain ⟨H1, e, f⟩ := fx_state_50 (sL := sL) (sx := sx) (cs := cs) (x0 := x0) (p1_c0 P) (p1_c123 P) (p1_c129 P) (p1_c136 P) (p1_c130 P) (p1_c132 P) c1 c2 c3 c4 c5
            refine ⟨H1, ?_, fun j hj => f.2 j⟩
            rw [if_neg (mt (p1_eq (x := x0) (y := 0) (m := x0.toInt) (n := 0) rfl (by decide)).mp (by omega)), if_neg (mt (p1_eq (x := x0) (y := 1) (m := x0.toInt) (n := 1) rfl (by decide)).mp (by omega)), if_neg (mt (p1_eq (x := x0) (y := 2) (m := x0.toInt) (n := 2) rfl (by decide)).mp (by omega)), if_neg (mt (p1_eq (x := x0) (y := 3) (m := x0.toInt) (n := 3) rfl (by decide)).mp (by omega)), if_neg (mt (p1_eq (x := x0) (y := 4) (m := x0.toInt) (n := 4) rfl (by decide)).mp (by omega)), if_neg (mt (p1_eq (x := x0) (y := 5) (m := x0.toInt) (n := 5) rfl (by decide)).mp (by omega)), if_neg (mt (p1_eq (x := x0) (y := 6) (m := x0.toInt) (n := 6) rfl (by decide)).mp (by omega)), if_neg (mt (p1_eq (x := x0) (y := 7) (m := x0.toInt) (n := 7) rfl (by decide)).mp (by omega)), if_neg (mt (p1_eq (x := x0) (y := 8) (m := x0.toInt) (n := 8) rfl (by decide)).mp (by omega)), if_pos ((p1_eq (x := x0) (y := 9) (m := x0.toInt) (n := 9) rfl (by decide)).mpr (by omega))]
            exact e
          · by_cases c6 : x0 = 11
            · have ic1 := mt (p1_eq (x := x0) (y := 18) (m := x0.toInt) (n := 18) rfl (by decide)).mpr c1
              have ic2 := mt (p1_lt (x := x0) (y := 9) (m := x0.toInt) (n := 9) rfl (by decide)).mpr c2
              have ic3 := mt (p1_lt (x := 16) (y := x0) (m := 16) (n := x0.toInt) (by decide) rfl).mpr c3
              have ic4 := mt (p1_eq (x := x0) (y := 10) (m := x0.toInt) (n := 10) rfl (by decide)).mpr c4
              have ic5 := mt (p1_eq (x := x0) (y := 9) (m := x0.toInt) (n := 9) rfl (by decide)).mpr c5
              have ic6 := (p1_eq (x := x0) (y := 11) (m := x0.toInt) (n := 11) rfl (by decide)).mp c6
              obtain ⟨H1, e, f⟩ := fx_state_51 (sL := sL) (sx := sx) (cs := cs) (x0 := x0) (p1_c0 P) (p1_c123 P) (p1_c129 P) (p1_c136 P) (p1_c130 P) (p1_c132 P) c1 c2 c3 c4 c5 c6
              refine ⟨H1, ?_, fun j hj => f.2 j⟩
              rw [if_neg (mt (p1_eq (x := x0) (y := 0) (m := x0.toInt) (n := 0) rfl (by decide)).mp (by omega)), if_neg (mt (p1_eq (x := x0) (y := 1) (m := x0.toInt) (n := 1) rfl (by decide)).mp (by omega)), if_neg (mt (p1_eq (x := x0) (y := 2) (m := x0.toInt) (n := 2) rfl (by decide)).mp (by omega)), if_neg (mt (p1_eq (x := x0) (y := 3) (m := x0.toInt) (n := 3) rfl (by decide)).mp (by omega)), if_neg (mt (p1_eq (x := x0) (y := 4) (m := x0.toInt) (n := 4) rfl (by decide)).mp (by omega)), if_neg (mt (p1_eq (x := x0) (y := 5) (m := x0.toInt) (n := 5) rfl (by decide)).mp (by omega)), if_neg (mt (p1_eq (x := x0) (y := 6) (m := x0.toInt) (n := 6) rfl (by decide)).mp (by omega)), if_neg (mt (p1_eq (x := x0) (y := 7) (m := x0.toInt) (n := 7) rfl (by decide)).mp (by omega)), if_neg (mt (p1_eq (x := x0) (y := 8) (m := x0.toInt) (n := 8) rfl (by decide)).mp (by omega)), if_neg (mt (p1_eq (x := x0) (y := 9) (m := x0.toInt) (n := 9) rfl (by decide)).mp (by omega)), if_neg (mt (p1_eq (x := x0) (y := 10) (m := x0.toInt) (n := 10) rfl (by decide)).mp (by omega)), if_pos ((p1_eq (x := x0) (y := 11) (m := x0.toInt) (n := 11) rfl (by decide)).mpr (by omega))]
              exact e
            · by_cases c7 : x0 = 12
              · have ic1 := mt (p1_eq (x := x0) (y := 18) (m := x0.toInt) (n := 18) rfl (by decide)).mpr c1
                have ic2 := mt (p1_lt (x := x0) (y := 9) (m := x0.toInt) (n := 9) rfl (by decide)).mpr c2
                have ic3 := mt (p1_lt (x := 16) (y := x0) (m := 16) (n := x0.toInt) (by decide) rfl).mpr c3
                have ic4 := mt (p1_eq (x := x0) (y := 10) (m := x0.toInt) (n := 10) rfl (by decide)).mpr c4
                have ic5 := mt (p1_eq (x := x0) (y := 9) (m := x0.toInt) (n := 9) rfl (by decide)).mpr c5
                have ic6 := mt (p1_eq (x := x0) (y := 11) (m := x0.toInt) (n := 11) rfl (by decide)).mpr c6
                have ic7 := (p1_eq (x := x0) (y := 12) (m := x0.toInt) (n := 12) rfl (by decide)).mp c7
                obtain ⟨H1, e, f⟩ := fx_state_52 (sL := sL) (sx := sx) (cs := cs) (x0 := x0) (p1_c0 P) (p1_c123 P) (p1_c129 P) (p1_c136 P) (p1_c130 P) (p1_c132 P) c1 c2 c3 c4 c5 c6 c7
                refine ⟨H1, ?_, fun j hj => f.2 j⟩
                rw [if_neg (mt (p1_eq (x := x0) (y := 0) (m := x0.toInt) (n := 0) rfl (by decide)).mp (by omega)), if_neg (mt (p1_eq (x := x0) (y := 1) (m := x0.toInt) (n := 1) rfl (by decide)).mp (by omega)), if_neg (mt (p1_eq (x := x0) (y := 2) (m := x0.toInt) (n := 2) rfl (by decide)).mp (by omega)), if_neg (mt (p1_eq (x := x0) (y := 3) (m := x0.toInt) (n := 3) rfl (by decide)).mp (by omega)), if_neg (mt (p1_eq (x := x0) (y := 4) (m := x0.toInt) (n := 4) rfl (by decide)).mp (by omega)), if_neg (mt (p1_eq (x := x0) (y := 5) (m := x0.toInt) (n := 5) rfl (by decide)).mp (by omega)), if_neg (mt (p1_eq (x := x0) (y := 6) (m := x0.toInt) (n := 6) rfl (by decide)).mp (by omega)), if_neg (mt (p1_eq (x := x0) (y := 7) (m := x0.toInt) (n := 7) rfl (by decide)).mp (by omega)), if_neg (mt (p1_eq (x := x0) (y := 8) (m := x0.toInt) (n := 8) rfl (by decide)).mp (by omega)), if_neg (mt (p1_eq (x := x0) (y := 9) (m := x0.toInt) (n := 9) rfl (by decide)).mp (by omega)), if_neg (mt (p1_eq (x := x0) (y := 10) (m := x0.toInt) (n := 10) rfl (by decide)).mp (by omega)), if_neg (mt (p1_eq (x := x0) (y := 11) (m := x0.toInt) (n := 11) rfl (by decide)).mp (by omega)), if_pos ((p1_eq (x := x0) (y := 12) (m := x0.toInt) (n := 12) rfl (by decide)).mpr (by omega))]
                exact e
              · by_cases c8 : x0 = 13
                · have ic1 := mt (p1_eq (x := x0) (y := 18) (m := x0.toInt) (n := 18) rfl (by decide)).mpr c1
                  have ic2 := mt (p1_lt (x := x0) (y := 9) (m := x0.toInt) (n := 9) rfl (by decide)).mpr c2
                  have ic3 := mt (p1_lt (x := 16) (y := x0) (m := 16) (n := x0.toInt) (by decide) rfl).mpr c3
                  have ic4 := mt (p1_eq (x := x0) (y := 10) (m := x0.toInt) (n := 10) rfl (by decide)).mpr c4
                  have ic5 := mt (p1_eq (x := x0) (y := 9) (m := x0.toInt) (n := 9) rfl (by decide)).mpr c5
                  have ic6 := mt (p1_eq (x := x0) (y := 11) (m := x0.toInt) (n := 11) rfl (by decide)).mpr c6
                  have ic7 := mt (p1_eq (x := x0) (y := 12) (m := x0.toInt) (n := 12) rfl (by decide)).mpr c7
                  have ic8 := (p1_eq (x := x0) (y := 13) (m := x0.toInt) (n := 13) rfl (by decide)).mp c8
                  obtain ⟨H1, e, f⟩ := fx_state_53 (sL := sL) (sx := sx) (cs := cs) (x0 := x0) (p1_c0 P) (p1_c123 P) (p1_c129 P) (p1_c136 P) (p1_c130 P) (p1_c132 P) c1 c2 c3 c4 c5 c6 c7 c8
                  refine ⟨H1, ?_, fun j hj => f.2 j⟩
                  rw [if_neg (mt (p1_eq (x := x0) (y := 0) (m := x0.toInt) (n := 0) rfl (by decide)).mp (by omega)), if_neg (mt (p1_eq (x := x0) (y := 1) (m := x0.toInt) (n := 1) rfl (by decide)).mp (by omega)), if_neg (mt (p1_eq (x := x0) (y := 2) (m := x0.toInt) (n := 2) rfl (by decide)).mp (by omega)), if_neg (mt (p1_eq (x := x0) (y := 3) (m := x0.toInt) (n := 3) rfl (by decide)).mp (by omega)), if_neg (mt (p1_eq (x := x0) (y := 4) (m := x0.toInt) (n := 4) rfl (by decide)).mp (by omega)), if_neg (mt (p1_eq (x := x0) (y := 5) (m := x0.toInt) (n := 5) rfl (by decide)).mp (by omega)), if_neg (mt (p1_eq (x := x0) (y := 6) (m := x0.toInt) (n := 6) rfl (by decide)).mp (by omega)), if_neg (mt (p1_eq (x := x0) (y := 7) (m := x0.toInt) (n := 7) rfl (by decide)).mp (by omega)), if_neg (mt (p1_eq (x := x0) (y := 8) (m := x0.toInt) (n := 8) rfl (by decide)).mp (by omega)), if_neg (mt (p1_eq (x := x0) (y := 9) (m := x0.toInt) (n := 9) rfl (by decide)).mp (by omega)), if_neg (mt (p1_eq (x := x0) (y := 10) (m := x0.toInt) (n := 10) rfl (by decide)).mp (by omega)), if_neg (mt (p1_eq (x := x0) (y := 11) (m := x0.toInt) (n := 11) rfl (by decide)).mp (by omega)), if_neg (mt (p1_eq (x := x0) (y := 12) (m := x0.toInt) (n := 12) rfl (by decide)).mp (by omega)), if_pos ((p1_eq (x := x0) (y := 13) (m := x0.toInt) (n := 13) rfl (by decide)).mpr (by omega))]
                  exact e
                · by_cases c9 : x0 = 14
                  · have ic1 := mt (p1_eq (x := x0) (y := 18) (m := x0.toInt) (n := 18) rfl (by decide)).mpr c1
                    have ic2 := mt (p1_lt (x := x0) (y := 9) (m := x0.toInt) (n := 9) rfl (by decide)).mpr c2
                    have ic3 := mt (p1_lt (x := 16) (y := x0) (m := 16) (n := x0.toInt) (by decide) rfl).mpr c3
                    have ic4 := mt (p1_eq (x := x0) (y := 10) (m := x0.toInt) (n := 10) rfl (by decide)).mpr c4
                    have ic5 := mt (p1_eq (x := x0) (y := 9) (m := x0.toInt) (n := 9) rfl (by decide)).mpr c5
                    have ic6 := mt (p1_eq (x := x0) (y := 11) (m := x0.toInt) (n := 11) rfl (by decide)).mpr c6
                    have ic7 := mt (p1_eq (x := x0) (y := 12) (m := x0.toInt) (n := 12) rfl (by decide)).mpr c7
                    have ic8 := mt (p1_eq (x := x0) (y := 13) (m := x0.toInt) (n := 13) rfl (by decide)).mpr c8
                    have ic9 := (p1_eq (x := x0) (y := 14) (m := x0.toInt) (n := 14) rfl (by decide)).mp c9
                    obtain ⟨H1, e, f⟩ := fx_state_54 (sL := sL) (sx := sx) (cs := cs) (x0 := x0) (p1_c0 P) (p1_c123 P) (p1_c129 P) (p1_c136 P) (p1_c130 P) (p1_c132 P) c1 c2 c3 c4 c5 c6 c7 c8 c9
                    refine ⟨H1, ?_, fun j hj => f.2 j⟩
                    rw [if_neg (mt (p1_eq (x := x0) (y := 0) (m := x0.toInt) (n := 0) rfl (by decide)).mp (by omega)), if_neg (mt (p1_eq (x := x0) (y := 1) (m := x0.toInt) (n := 1) rfl (by decide)).mp (by omega)), if_neg (mt (p1_eq (x := x0) (y := 2) (m := x0.toInt) (n := 2) rfl (by decide)).mp (by omega)), if_neg (mt (p1_eq (x := x0) (y := 3) (m := x0.toInt) (n := 3) rfl (by decide)).mp (by omega)), if_neg (mt (p1_eq (x := x0) (y := 4) (m := x0.toInt) (n := 4) rfl (by decide)).mp (by omega)), if_neg (mt (p1_eq (x := x0) (y := 5) (m := x0.toInt) (n := 5) rfl (by decide)).mp (by omega)), if_neg (mt (p1_eq (x := x0) (y := 6) (m := x0.toInt) (n := 6) rfl (by decide)).mp (by omega)), if_neg (mt (p1_eq (x := x0) (y := 7) (m := x0.toInt) (n := 7) rfl (by decide)).mp (by omega)), if_neg (mt (p1_eq (x := x0) (y := 8) (m := x0.toInt) (n := 8) rfl (by decide)).mp (by omega)), if_neg (mt (p1_eq (x := x0) (y := 9) (m := x0.toInt) (n := 9) rfl (by decide)).mp (by omega)), if_neg (mt (p1_eq (x := x0) (y := 10) (m := x0.toInt) (n := 10) rfl (by decide)).mp (by omega)), if_neg (mt (p1_eq (x := x0) (y := 11) (m := x0.toInt) (n := 11) rfl (by decide)).mp (by omega)), if_neg (mt (p1_eq (x := x0) (y := 12) (m := x0.toInt) (n := 12) rfl (by decide)).mp (by omega)), if_neg (mt (p1_eq (x := x0) (y := 13) (m := x0.toInt) (n := 13) rfl (by decide)).mp (by omega)), if_pos ((p1_eq (x := x0) (y := 14) (m := x0.toInt) (n := 14) rfl (by decide)).mpr (by omega))]
                    exact e
                  · by_cases c10 : x0 = 15
                    · have ic1 := mt (p1_eq (x := x0) (y := 18) (m := x0.toInt) (n := 18) rfl (by decide)).mpr c1
                      have ic2 := mt (p1_lt (x := x0) (y := 9) (m := x0.toInt) (n := 9) rfl (by decide)).mpr c2
                      have ic3 := mt (p1_lt (x := 16) (y := x0) (m := 16) (n := x0.toInt) (by decide) rfl).mpr c3
                      have ic4 := mt (p1_eq (x := x0) (y := 10) (m := x0.toInt) (n := 10) rfl (by decide)).mpr c4
                      have ic5 := mt (p1_eq (x := x0) (y := 9) (m := x0.toInt) (n := 9) rfl (by decide)).mpr c5
                      have ic6 := mt (p1_eq (x := x0) (y := 11) (m := x0.toInt) (n := 11) rfl (by decide)).mpr c6
                      have ic7 := mt (p1_eq (x := x0) (y := 12) (m := x0.toInt) (n := 12) rfl (by decide)).mpr c7
                      have ic8 := mt (p1_eq (x := x0) (y := 13) (m := x0.toInt) (n := 13) rfl (by decide)).mpr c8
                      have ic9 := mt (p1_eq (x := x0) (y := 14) (m := x0.toInt) (n := 14) rfl (by decide)).mpr c9
                      have ic10 := (p1_eq (x := x0) (y := 15) (m := x0.toInt) (n := 15) rfl (by decide)).mp c10
                      obtain ⟨H1, e, f⟩ := fx_state_55 (sL := sL) (sx := sx) (cs := cs) (x0 := x0) (p1_c0 P) (p1_c123 P) (p1_c129 P) (p1_c136 P) (p1_c130 P) (p1_c132 P) c1 c2 c3 c4 c5 c6 c7 c8 c9 c10
                      refine ⟨H1, ?_, fun j hj => f.2 j⟩
                      rw [if_neg (mt (p1_eq (x := x0) (y := 0) (m := x0.toInt) (n := 0) rfl (by decide)).mp (by omega)), if_neg (mt (p1_eq (x := x0) (y := 1) (m := x0.toInt) (n := 1) rfl (by decide)).mp (by omega)), if_neg (mt (p1_eq (x := x0) (y := 2) (m := x0.toInt) (n := 2) rfl (by decide)).mp (by omega)), if_neg (mt (p1_eq (x := x0) (y := 3) (m := x0.toInt) (n := 3) rfl (by decide)).mp (by omega)), if_neg (mt (p1_eq (x := x0) (y := 4) (m := x0.toInt) (n := 4) rfl (by decide)).mp (by omega)), if_neg (mt (p1_eq (x := x0) (y := 5) (m := x0.toInt) (n := 5) rfl (by decide)).mp (by omega)), if_neg (mt (p1_eq (x := x0) (y := 6) (m := x0.toInt) (n := 6) rfl (by decide)).mp (by omega)), if_neg (mt (p1_eq (x := x0) (y := 7) (m := x0.toInt) (n := 7) rfl (by decide)).mp (by omega)), if_neg (mt (p1_eq (x := x0) (y := 8) (m := x0.toInt) (n := 8) rfl (by decide)).mp (by omega)), if_neg (mt (p1_eq (x := x0) (y := 9) (m := x0.toInt) (n := 9) rfl (by decide)).mp (by omega)), if_neg (mt (p1_eq (x := x0) (y := 10) (m := x0.toInt) (n := 10) rfl (by decide)).mp (by omega)), if_neg (mt (p1_eq (x := x0) (y := 11) (m := x0.toInt) (n := 11) rfl (by decide)).mp (by omega)), if_neg (mt (p1_eq (x := x0) (y := 12) (m := x0.toInt) (n := 12) rfl (by decide)).mp (by omega)), if_neg (mt (p1_eq (x := x0) (y := 13) (m := x0.toInt) (n := 13) rfl (by decide)).mp (by omega)), if_neg (mt (p1_eq (x := x0) (y := 14) (m := x0.toInt) (n := 14) rfl (by decide)).mp (by omega)), if_pos ((p1_eq (x := x0) (y := 15) (m := x0.toInt) (n := 15) rfl (by decide)).mpr (by omega))]
                      exact e
                    · by_cases c11 : x0 = 16
                      · have ic1 := mt (p1_eq (x := x0) (y := 18) (m := x0.toInt) (n := 18) rfl (by decide)).mpr c1
                        have ic2 := mt (p1_lt (x := x0) (y := 9) (m := x0.toInt) (n := 9) rfl (by decide)).mpr c2
                        have ic3 := mt (p1_lt (x := 16) (y := x0) (m := 16) (n := x0.toInt) (by decide) rfl).mpr c3
                        have ic4 := mt (p1_eq (x := x0) (y := 10) (m := x0.toInt) (n := 10) rfl (by decide)).mpr c4
                        have ic5 := mt (p1_eq (x := x0) (y := 9) (m := x0.toInt) (n := 9) rfl (by decide)).mpr c5
                        have ic6 := mt (p1_eq (x := x0) (y := 11) (m := x0.toInt) (n := 11) rfl (by decide)).mpr c6
                        have ic7 := mt (p1_eq (x := x0) (y := 12) (m := x0.toInt) (n := 12) rfl (by decide)).mpr c7
                        have ic8 := mt (p1_eq (x := x0) (y := 13) (m := x0.toInt) (n := 13) rfl (by decide)).mpr c8
                        have ic9 := mt (p1_eq (x := x0) (y := 14) (m := x0.toInt) (n := 14) rfl (by decide)).mpr c9
                        have ic10 := mt (p1_eq (x := x0) (y := 15) (m := x0.toInt) (n := 15) rfl (by decide)).mpr c10
                        have ic11 := (p1_eq (x := x0) (y := 16) (m := x0.toInt) (n := 16) rfl (by decide)).mp c11
                        obtain ⟨H1, e, f⟩ := fx_state_56 (sL := sL) (sx := sx) (cs := cs) (x0 := x0) (p1_c0 P) (p1_c123 P) (p1_c129 P) (p1_c136 P) (p1_c130 P) (p1_c132 P) c1 c2 c3 c4 c5 c6 c7 c8 c9 c10 c11
                        refine ⟨H1, ?_, fun j hj => f.2 j⟩
                        rw [if_neg (mt (p1_eq (x := x0) (y := 0) (m := x0.toInt) (n := 0) rfl (by decide)).mp (by omega)), if_neg (mt (p1_eq (x := x0) (y := 1) (m := x0.toInt) (n := 1) rfl (by decide)).mp (by omega)), if_neg (mt (p1_eq (x := x0) (y := 2) (m := x0.toInt) (n := 2) rfl (by decide)).mp (by omega)), if_neg (mt (p1_eq (x := x0) (y := 3) (m := x0.toInt) (n := 3) rfl (by decide)).mp (by omega)), if_neg (mt (p1_eq (x := x0) (y := 4) (m := x0.toInt) (n := 4) rfl (by decide)).mp (by omega)), if_neg (mt (p1_eq (x := x0) (y := 5) (m := x0.toInt) (n := 5) rfl (by decide)).mp (by omega)), if_neg (mt (p1_eq (x := x0) (y := 6) (m := x0.toInt) (n := 6) rfl (by decide)).mp (by omega)), if_neg (mt (p1_eq (x := x0) (y := 7) (m := x0.toInt) (n := 7) rfl (by decide)).mp (by omega)), if_neg (mt (p1_eq (x := x0) (y := 8) (m := x0.toInt) (n := 8) rfl (by decide)).mp (by omega)), if_neg (mt (p1_eq (x := x0) (y := 9) (m := x0.toInt) (n := 9) rfl (by decide)).mp (by omega)), if_neg (mt (p1_eq (x := x0) (y := 10) (m := x0.toInt) (n := 10) rfl (by decide)).mp (by omega)), if_neg (mt (p1_eq (x := x0) (y := 11) (m := x0.toInt) (n := 11) rfl (by decide)).mp (by omega)), if_neg (mt (p1_eq (x := x0) (y := 12) (m := x0.toInt) (n := 12) rfl (by decide)).mp (by omega)), if_neg (mt (p1_eq (x := x0) (y := 13) (m := x0.toInt) (n := 13) rfl (by decide)).mp (by omega)), if_neg (mt (p1_eq (x := x0) (y := 14) (m := x0.toInt) (n := 14) rfl (by decide)).mp (by omega)), if_neg (mt (p1_eq (x := x0) (y := 15) (m := x0.toInt) (n := 15) rfl (by decide)).mp (by omega)), if_pos ((p1_eq (x := x0) (y := 16) (m := x0.toInt) (n := 16) rfl (by decide)).mpr (by omega))]
                        exact e
                      · have ic1 := mt (p1_eq (x := x0) (y := 18) (m := x0.toInt) (n := 18) rfl (by decide)).mpr c1
                        have ic2 := mt (p1_lt (x := x0) (y := 9) (m := x0.toInt) (n := 9) rfl (by decide)).mpr c2
                        have ic3 := mt (p1_lt (x := 16) (y := x0) (m := 16) (n := x0.toInt) (by decide) rfl).mpr c3
                        have ic4 := mt (p1_eq (x := x0) (y := 10) (m := x0.toInt) (n := 10) rfl (by decide)).mpr c4
                        have ic5 := mt (p1_eq (x := x0) (y := 9) (m := x0.toInt) (n := 9) rfl (by decide)).mpr c5
                        have ic6 := mt (p1_eq (x := x0) (y := 11) (m := x0.toInt) (n := 11) rfl (by decide)).mpr c6
                        have ic7 := mt (p1_eq (x := x0) (y := 12) (m := x0.toInt) (n := 12) rfl (by decide)).mpr c7
                        have ic8 := mt (p1_eq (x := x0) (y := 13) (m := x0.toInt) (n := 13) rfl (by decide)).mpr c8
                        have ic9 := mt (p1_eq (x := x0) (y := 14) (m := x0.toInt) (n := 14) rfl (by decide)).mpr c9
                        have ic10 := mt (p1_eq (x := x0) (y := 15) (m := x0.toInt) (n := 15) rfl (by decide)).mpr c10
                        have ic11 := mt (p1_eq (x := x0) (y := 16) (m := x0.toInt) (n := 16) rfl (by decide)).mpr c11
                        exfalso
                        omega

set_option maxRecDepth 100000 in
theorem px_count {sL : Nat} {sx : Nat → Int32} {cs : Nat → Nat → Option Int32} {v3 : Int32} {h b : Nat} {H : am_H} {x0 : Int32} (P : p1_P v3 h b H) (dm : p1_D v3 h b) : ∃ H1 : am_H, aX sL sx cs 254 0 [(0, .ref 0), (1, .int x0)] [] H 0 0 = some ((some (.int (if x0 = 0 then (0 : Int32) else (if x0 = 1 then (0 : Int32) else (if x0 = 2 then (0 : Int32) else (if x0 = 3 then (0 : Int32) else (if x0 = 4 then (0 : Int32) else (if x0 = 5 then (0 : Int32) else (if x0 = 6 then (0 : Int32) else (if x0 = 7 then (0 : Int32) else (if x0 = 8 then (0 : Int32) else (if x0 = 9 then (0 : Int32) else (if x0 = 10 then (0 : Int32) else (if x0 = 11 then (0 : Int32) else (if x0 = 12 then (0 : Int32) else (if x0 = 13 then (0 : Int32) else (if x0 = 14 then (0 : Int32) else (if x0 = 17 then (127 : Int32) else (if x0 = 18 then (0 : Int32) else (-1)))))))))))))))))))), H1, 0, 0) ∧ ∀ j : Nat, 157 ≤ j → H1[j]? = H[j]? := by
  obtain ⟨d1, d2, d3, d4⟩ := dm
  by_cases c1 : x0 = 0
  · have ic1 := (p1_eq (x := x0) (y := 0) (m := x0.toInt) (n := 0) rfl (by decide)).mp c1
    obtain ⟨H1, e, f⟩ := fx_count_0 (sL := sL) (sx := sx) (cs := cs) (x0 := x0) (p1_c0 P) (p1_c3 P) (p1_c115 P) (p1_c141 P) (p1_c143 P) (p1_c145 P) (p1_c147 P) (p1_c149 P) (p1_c151 P) (p1_c153 P) (p1_c155 P) (p1_c116 P) (p1_c117 P) (p1_c119 P) (p1_c121 P) (p1_c127 P) (p1_c128 P) c1
    refine ⟨H1, ?_, fun j hj => f.2 j⟩
    rw [if_pos ((p1_eq (x := x0) (y := 0) (m := x0.toInt) (n := 0) rfl (by decide)).mpr (by omega))]
    exact e
  · by_cases c2 : x0 = 1
    · have ic1 := mt (p1_eq (x := x0) (y := 0) (m := x0.toInt) (n := 0) rfl (by decide)).mpr c1
      have ic2 := (p1_eq (x := x0) (y := 1) (m := x0.toInt) (n := 1) rfl (by decide)).mp c2
      obtain ⟨H1, e, f⟩ := fx_count_1 (sL := sL) (sx := sx) (cs := cs) (x0 := x0) (p1_c0 P) (p1_c3 P) (p1_c115 P) (p1_c141 P) (p1_c143 P) (p1_c145 P) (p1_c147 P) (p1_c149 P) (p1_c151 P) (p1_c153 P) (p1_c155 P) (p1_c116 P) (p1_c117 P) (p1_c119 P) (p1_c121 P) (p1_c127 P) (p1_c128 P) c1 c2
      refine ⟨H1, ?_, fun j hj => f.2 j⟩
      rw [if_neg (mt (p1_eq (x := x0) (y := 0) (m := x0.toInt) (n := 0) rfl (by decide)).mp (by omega)), if_pos ((p1_eq (x := x0) (y := 1) (m := x0.toInt) (n := 1) rfl (by decide)).mpr (by omega))]
      exact e
    · by_cases c3 : x0 = 2
      · have ic1 := mt (p1_eq (x := x0) (y := 0) (m := x0.toInt) (n := 0) rfl (by decide)).mpr c1
        have ic2 := mt (p1_eq (x := x0) (y := 1) (m := x0.toInt) (n := 1) rfl (by decide)).mpr c2
        have ic3 := (p1_eq (x := x0) (y := 2) (m := x0.toInt) (n := 2) rfl (by decide)).mp c3
        obtain ⟨H1, e, f⟩ := fx_count_2 (sL := sL) (sx := sx) (cs := cs) (x0 := x0) (p1_c0 P) (p1_c3 P) (p1_c115 P) (p1_c141 P) (p1_c143 P) (p1_c145 P) (p1_c147 P) (p1_c149 P) (p1_c151 P) (p1_c153 P) (p1_c155 P) (p1_c116 P) (p1_c117 P) (p1_c119 P) (p1_c121 P) (p1_c127 P) (p1_c128 P) c1 c2 c3
        refine ⟨H1, ?_, fun j hj => f.2 j⟩
        rw [if_neg (mt (p1_eq (x := x0) (y := 0) (m := x0.toInt) (n := 0) rfl (by decide)).mp (by omega)), if_neg (mt (p1_eq (x := x0) (y := 1) (m := x0.toInt) (n := 1) rfl (by decide)).mp (by omega)), if_pos ((p1_eq (x := x0) (y := 2) (m := x0.toInt) (n := 2) rfl (by decide)).mpr (by omega))]
        exact e
      · by_cases c4 : x0 = 3
        · have ic1 := mt (p1_eq (x := x0) (y := 0) (m := x0.toInt) (n := 0) rfl (by decide)).mpr c1
          have ic2 := mt (p1_eq (x := x0) (y := 1) (m := x0.toInt) (n := 1) rfl (by decide)).mpr c2
          have ic3 := mt (p1_eq (x := x0) (y := 2) (m := x0.toInt) (n := 2) rfl (by decide)).mpr c3
          have ic4 := (p1_eq (x := x0) (y := 3) (m := x0.toInt) (n := 3) rfl (by decide)).mp c4
          obtain ⟨H1, e, f⟩ := fx_count_3 (sL := sL) (sx := sx) (cs := cs) (x0 := x0) (p1_c0 P) (p1_c3 P) (p1_c115 P) (p1_c141 P) (p1_c143 P) (p1_c145 P) (p1_c147 P) (p1_c149 P) (p1_c151 P) (p1_c153 P) (p1_c155 P) (p1_c116 P) (p1_c117 P) (p1_c119 P) (p1_c121 P) (p1_c127 P) (p1_c128 P) c1 c2 c3 c4
          refine ⟨H1, ?_, fun j hj => f.2 j⟩
          rw [if_neg (mt (p1_eq (x := x0) (y := 0) (m := x0.toInt) (n := 0) rfl (by decide)).mp (by omega)), if_neg (mt (p1_eq (x := x0) (y := 1) (m := x0.toInt) (n := 1) rfl (by decide)).mp (by omega)), if_neg (mt (p1_eq (x := x0) (y := 2) (m := x0.toInt) (n := 2) rfl (by decide)).mp (by omega)), if_pos ((p1_eq (x := x0) (y := 3) (m := x0.toInt) (n := 3) rfl (by decide)).mpr (by omega))]
          exact e
        · by_cases c5 : x0 = 4
          · have ic1 := mt (p1_eq (x := x0) (y := 0) (m := x0.toInt) (n := 0) rfl (by decide)).mpr c1
            have ic2 := mt (p1_eq (x := x0) (y := 1) (m := x0.toInt) (n := 1) rfl (by decide)).mpr c2
            have ic3 := mt (p1_eq (x := x0) (y := 2) (m := x0.toInt) (n := 2) rfl (by decide)).mpr c3
            have ic4 := mt (p1_eq (x := x0) (y := 3) (m := x0.toInt) (n := 3) rfl (by decide)).mpr c4
            have ic5 := (p1_eq (x := x0) (y := 4) (m := x0.toInt) (n := 4) rfl (by decide)).mp c5
            obtain ⟨H1, e, f⟩ := fx_count_4 (sL := sL) (sx := sx) (cs := cs) (x0 := x0) (p1_c0 P) (p1_c3 P) (p1_c115 P) (p1_c141 P) (p1_c143 P) (p1_c145 P) (p1_c147 P) (p1_c149 P) (p1_c151 P) (p1_c153 P) (p1_c155 P) (p1_c116 P) (p1_c117 P) (p1_c119 P) (p1_c121 P) (p1_c127 P) (p1_c128 P) c1 c2 c3 c4 c5
            refine ⟨H1, ?_, fun j hj => f.2 j⟩
            rw [if_neg (mt (p1_eq (x := x0) (y := 0) (m := x0.toInt) (n := 0) rfl (by decide)).mp (by omega)), if_neg (mt (p1_eq (x := x0) (y := 1) (m := x0.toInt) (n := 1) rfl (by decide)).mp (by omega)), if_neg (mt (p1_eq (x := x0) (y := 2) (m := x0.toInt) (n := 2) rfl (by decide)).mp (by omega)), if_neg (mt (p1_eq (x := x0) (y := 3) (m := x0.toInt) (n := 3) rfl (by decide)).mp (by omega)), if_pos ((p1_eq (x := x0) (y := 4) (m := x0.toInt) (n := 4) rfl (by decide)).mpr (by omega))]
            exact e
          · by_cases c6 : x0 = 5
            · have ic1 := mt (p1_eq (x := x0) (y := 0) (m := x0.toInt) (n := 0) rfl (by decide)).mpr c1
              have ic2 := mt (p1_eq (x := x0) (y := 1) (m := x0.toInt) (n := 1) rfl (by decide)).mpr c2
              have ic3 := mt (p1_eq (x := x0) (y := 2) (m := x0.toInt) (n := 2) rfl (by decide)).mpr c3
              have ic4 := mt (p1_eq (x := x0) (y := 3) (m := x0.toInt) (n := 3) rfl (by decide)).mpr c4
              have ic5 := mt (p1_eq (x := x0) (y := 4) (m := x0.toInt) (n := 4) rfl (by decide)).mpr c5
              have ic6 := (p1_eq (x := x0) (y := 5) (m := x0.toInt) (n := 5) rfl (by decide)).mp c6
              obtain ⟨H1, e, f⟩ := fx_count_5 (sL := sL) (sx := sx) (cs := cs) (x0 := x0) (p1_c0 P) (p1_c3 P) (p1_c115 P) (p1_c141 P) (p1_c143 P) (p1_c145 P) (p1_c147 P) (p1_c149 P) (p1_c151 P) (p1_c153 P) (p1_c155 P) (p1_c116 P) (p1_c117 P) (p1_c119 P) (p1_c121 P) (p1_c127 P) (p1_c128 P) c1 c2 c3 c4 c5 c6
              refine ⟨H1, ?_, fun j hj => f.2 j⟩
              rw [if_neg (mt (p1_eq (x := x0) (y := 0) (m := x0.toInt) (n := 0) rfl (by decide)).mp (by omega)), if_neg (mt (p1_eq (x := x0) (y := 1) (m := x0.toInt) (n := 1) rfl (by decide)).mp (by omega)), if_neg (mt (p1_eq (x := x0) (y := 2) (m := x0.toInt) (n := 2) rfl (by decide)).mp (by omega)), if_neg (mt (p1_eq (x := x0) (y := 3) (m := x0.toInt) (n := 3) rfl (by decide)).mp (by omega)), if_neg (mt (p1_eq (x := x0) (y := 4) (m := x0.toInt) (n := 4) rfl (by decide)).mp (by omega)), if_pos ((p1_eq (x := x0) (y := 5) (m := x0.toInt) (n := 5) rfl (by decide)).mpr (by omega))]
              exact e
            · by_cases c7 : x0 = 6
              · have ic1 := mt (p1_eq (x := x0) (y := 0) (m := x0.toInt) (n := 0) rfl (by decide)).mpr c1
                have ic2 := mt (p1_eq (x := x0) (y := 1) (m := x0.toInt) (n := 1) rfl (by decide)).mpr c2
                have ic3 := mt (p1_eq (x := x0) (y := 2) (m := x0.toInt) (n := 2) rfl (by decide)).mpr c3
                have ic4 := mt (p1_eq (x := x0) (y := 3) (m := x0.toInt) (n := 3) rfl (by decide)).mpr c4
                have ic5 := mt (p1_eq (x := x0) (y := 4) (m := x0.toInt) (n := 4) rfl (by decide)).mpr c5
                have ic6 := mt (p1_eq (x := x0) (y := 5) (m := x0.toInt) (n := 5) rfl (by decide)).mpr c6
                have ic7 := (p1_eq (x := x0) (y := 6) (m := x0.toInt) (n := 6) rfl (by decide)).mp c7
                obtain ⟨H1, e, f⟩ := fx_count_6 (sL := sL) (sx := sx) (cs := cs) (x0 := x0) (p1_c0 P) (p1_c3 P) (p1_c115 P) (p1_c141 P) (p1_c143 P) (p1_c145 P) (p1_c147 P) (p1_c149 P) (p1_c151 P) (p1_c153 P) (p1_c155 P) (p1_c116 P) (p1_c117 P) (p1_c119 P) (p1_c121 P) (p1_c127 P) (p1_c128 P) c1 c2 c3 c4 c5 c6 c7
                refine ⟨H1, ?_, fun j hj => f.2 j⟩
                rw [if_neg (mt (p1_eq (x := x0) (y := 0) (m := x0.toInt) (n := 0) rfl (by decide)).mp (by omega)), if_neg (mt (p1_eq (x := x0) (y := 1) (m := x0.toInt) (n := 1) rfl (by decide)).mp (by omega)), if_neg (mt (p1_eq (x := x0) (y := 2) (m := x0.toInt) (n := 2) rfl (by decide)).mp (by omega)), if_neg (mt (p1_eq (x := x0) (y := 3) (m := x0.toInt) (n := 3) rfl (by decide)).mp (by omega)), if_neg (mt (p1_eq (x := x0) (y := 4) (m := x0.toInt) (n := 4) rfl (by decide)).mp (by omega)), if_neg (mt (p1_eq (x := x0) (y := 5) (m := x0.toInt) (n := 5) rfl (by decide)).mp (by omega)), if_pos ((p1_eq (x := x0) (y := 6) (m := x0.toInt) (n := 6) rfl (by decide)).mpr (by omega))]
                exact e
              · by_cases c8 : x0 = 7
                · have ic1 := mt (p1_eq (x := x0) (y := 0) (m := x0.toInt) (n := 0) rfl (by decide)).mpr c1
                  have ic2 := mt (p1_eq (x := x0) (y := 1) (m := x0.toInt) (n := 1) rfl (by decide)).mpr c2
                  have ic3 := mt (p1_eq (x := x0) (y := 2) (m := x0.toInt) (n := 2) rfl (by decide)).mpr c3
                  have ic4 := mt (p1_eq (x := x0) (y := 3) (m := x0.toInt) (n := 3) rfl (by decide)).mpr c4
                  have ic5 := mt (p1_eq (x := x0) (y := 4) (m := x0.toInt) (n := 4) rfl (by decide)).mpr c5
                  have ic6 := mt (p1_eq (x := x0) (y := 5) (m := x0.toInt) (n := 5) rfl (by decide)).mpr c6
                  have ic7 := mt (p1_eq (x := x0) (y := 6) (m := x0.toInt) (n := 6) rfl (by decide)).mpr c7
                  have ic8 := (p1_eq (x := x0) (y := 7) (m := x0.toInt) (n := 7) rfl (by decide)).mp c8
                  obtain ⟨H1, e, f⟩ := fx_count_7 (sL := sL) (sx := sx) (cs := cs) (x0 := x0) (p1_c0 P) (p1_c3 P) (p1_c115 P) (p1_c141 P) (p1_c143 P) (p1_c145 P) (p1_c147 P) (p1_c149 P) (p1_c151 P) (p1_c153 P) (p1_c155 P) (p1_c116 P) (p1_c117 P) (p1_c119 P) (p1_c121 P) (p1_c127 P) (p1_c128 P) c1 c2 c3 c4 c5 c6 c7 c8
                  refine ⟨H1, ?_, fun j hj => f.2 j⟩
                  rw [if_neg (mt (p1_eq (x := x0) (y := 0) (m := x0.toInt) (n := 0) rfl (by decide)).mp (by omega)), if_neg (mt (p1_eq (x := x0) (y := 1) (m := x0.toInt) (n := 1) rfl (by decide)).mp (by omega)), if_neg (mt (p1_eq (x := x0) (y := 2) (m := x0.toInt) (n := 2) rfl (by decide)).mp (by omega)), if_neg (mt (p1_eq (x := x0) (y := 3) (m := x0.toInt) (n := 3) rfl (by decide)).mp (by omega)), if_neg (mt (p1_eq (x := x0) (y := 4) (m := x0.toInt) (n := 4) rfl (by decide)).mp (by omega)), if_neg (mt (p1_eq (x := x0) (y := 5) (m := x0.toInt) (n := 5) rfl (by decide)).mp (by omega)), if_neg (mt (p1_eq (x := x0) (y := 6) (m := x0.toInt) (n := 6) rfl (by decide)).mp (by omega)), if_pos ((p1_eq (x := x0) (y := 7) (m := x0.toInt) (n := 7) rfl (by decide)).mpr (by omega))]
                  exact e
                · by_cases c9 : x0 = 8
                  · have ic1 := mt (p1_eq (x := x0) (y := 0) (m := x0.toInt) (n := 0) rfl (by decide)).mpr c1
                    have ic2 := mt (p1_eq (x := x0) (y := 1) (m := x0.toInt) (n := 1) rfl (by decide)).mpr c2
                    have ic3 := mt (p1_eq (x := x0) (y := 2) (m := x0.toInt) (n := 2) rfl (by decide)).mpr c3
                    have ic4 := mt (p1_eq (x := x0) (y := 3) (m := x0.toInt) (n := 3) rfl (by decide)).mpr c4
                    have ic5 := mt (p1_eq (x := x0) (y := 4) (m := x0.toInt) (n := 4) rfl (by decide)).mpr c5
                    have ic6 := mt (p1_eq (x := x0) (y := 5) (m := x0.toInt) (n := 5) rfl (by decide)).mpr c6
                    have ic7 := mt (p1_eq (x := x0) (y := 6) (m := x0.toInt) (n := 6) rfl (by decide)).mpr c7
                    have ic8 := mt (p1_eq (x := x0) (y := 7) (m := x0.toInt) (n := 7) rfl (by decide)).mpr c8
                    have ic9 := (p1_eq (x := x0) (y := 8) (m := x0.toInt) (n := 8) rfl (by decide)).mp c9
                    obtain ⟨H1, e, f⟩ := fx_count_8 (sL := sL) (sx := sx) (cs := cs) (x0 := x0) (p1_c0 P) (p1_c3 P) (p1_c115 P) (p1_c141 P) (p1_c143 P) (p1_c145 P) (p1_c147 P) (p1_c149 P) (p1_c151 P) (p1_c153 P) (p1_c155 P) (p1_c116 P) (p1_c117 P) (p1_c119 P) (p1_c121 P) (p1_c127 P) (p1_c128 P) c1 c2 c3 c4 c5 c6 c7 c8 c9
                    refine ⟨H1, ?_, fun j hj => f.2 j⟩
                    rw [if_neg (mt (p1_eq (x := x0) (y := 0) (m := x0.toInt) (n := 0) rfl (by decide)).mp (by omega)), if_neg (mt (p1_eq (x := x0) (y := 1) (m := x0.toInt) (n := 1) rfl (by decide)).mp (by omega)), if_neg (mt (p1_eq (x := x0) (y := 2) (m := x0.toInt) (n := 2) rfl (by decide)).mp (by omega)), if_neg (mt (p1_eq (x := x0) (y := 3) (m := x0.toInt) (n := 3) rfl (by decide)).mp (by omega)), if_neg (mt (p1_eq (x := x0) (y := 4) (m := x0.toInt) (n := 4) rfl (by decide)).mp (by omega)), if_neg (mt (p1_eq (x := x0) (y := 5) (m := x0.toInt) (n := 5) rfl (by decide)).mp (by omega)), if_neg (mt (p1_eq (x := x0) (y := 6) (m := x0.toInt) (n := 6) rfl (by decide)).mp (by omega)), if_neg (mt (p1_eq (x := x0) (y := 7) (m := x0.toInt) (n := 7) rfl (by decide)).mp (by omega)), if_pos ((p1_eq (x := x0) (y := 8) (m := x0.toInt) (n := 8) rfl (by decide)).mpr (by omega))]
                    exact e
                  · by_cases c10 : x0 = 9
                    · have ic1 := mt (p1_eq (x := x0) (y := 0) (m := x0.toInt) (n := 0) rfl (by decide)).mpr c1
                      have ic2 := mt (p1_eq (x := x0) (y := 1) (m := x0.toInt) (n := 1) rfl (by decide)).mpr c2
                      have ic3 := mt (p1_eq (x := x0) (y := 2) (m := x0.toInt) (n := 2) rfl (by decide)).mpr c3
                      have ic4 := mt (p1_eq (x := x0) (y := 3) (m := x0.toInt) (n := 3) rfl (by decide)).mpr c4
                      have ic5 := mt (p1_eq (x := x0) (y := 4) (m := x0.toInt) (n := 4) rfl (by decide)).mpr c5
                      have ic6 := mt (p1_eq (x := x0) (y := 5) (m := x0.toInt) (n := 5) rfl (by decide)).mpr c6
                      have ic7 := mt (p1_eq (x := x0) (y := 6) (m := x0.toInt) (n := 6) rfl (by decide)).mpr c7
                      have ic8 := mt (p1_eq (x := x0) (y := 7) (m := x0.toInt) (n := 7) rfl (by decide)).mpr c8
                      have ic9 := mt (p1_eq (x := x0) (y := 8) (m := x0.toInt) (n := 8) rfl (by decide)).mpr c9
                      have ic10 := (p1_eq (x := x0) (y := 9) (m := x0.toInt) (n := 9) rfl (by decide)).mp c10
                      obtain ⟨H1, e, f⟩ := fx_count_9 (sL := sL) (sx := sx) (cs := cs) (x0 := x0) (p1_c0 P) (p1_c3 P) (p1_c115 P) (p1_c141 P) (p1_c143 P) (p1_c145 P) (p1_c147 P) (p1_c149 P) (p1_c151 P) (p1_c153 P) (p1_c155 P) (p1_c116 P) (p1_c117 P) (p1_c119 P) (p1_c121 P) (p1_c127 P) (p1_c128 P) c1 c2 c3 c4 c5 c6 c7 c8 c9 c10
                      refine ⟨H1, ?_, fun j hj => f.2 j⟩
                      rw [if_neg (mt (p1_eq (x := x0) (y := 0) (m := x0.toInt) (n := 0) rfl (by decide)).mp (by omega)), if_neg (mt (p1_eq (x := x0) (y := 1) (m := x0.toInt) (n := 1) rfl (by decide)).mp (by omega)), if_neg (mt (p1_eq (x := x0) (y := 2) (m := x0.toInt) (n := 2) rfl (by decide)).mp (by omega)), if_neg (mt (p1_eq (x := x0) (y := 3) (m := x0.toInt) (n := 3) rfl (by decide)).mp (by omega)), if_neg (mt (p1_eq (x := x0) (y := 4) (m := x0.toInt) (n := 4) rfl (by decide)).mp (by omega)), if_neg (mt (p1_eq (x := x0) (y := 5) (m := x0.toInt) (n := 5) rfl (by decide)).mp (by omega)), if_neg (mt (p1_eq (x := x0) (y := 6) (m := x0.toInt) (n := 6) rfl (by decide)).mp (by omega)), if_neg (mt (p1_eq (x := x0) (y := 7) (m := x0.toInt) (n := 7) rfl (by decide)).mp (by omega)), if_neg (mt (p1_eq (x := x0) (y := 8) (m := x0.toInt) (n := 8) rfl (by decide)).mp (by omega)), if_pos ((p1_eq (x := x0) (y := 9) (m := x0.toInt) (n := 9) rfl (by decide)).mpr (by omega))]
                      exact e
                    · by_cases c11 : x0 = 10
                      · have ic1 := mt (p1_eq (x := x0) (y := 0) (m := x0.toInt) (n := 0) rfl (by decide)).mpr c1
                        have ic2 := mt (p1_eq (x := x0) (y := 1) (m := x0.toInt) (n := 1) rfl (by decide)).mpr c2
                        have ic3 := mt (p1_eq (x := x0) (y := 2) (m := x0.toInt) (n := 2) rfl (by decide)).mpr c3
                        have ic4 := mt (p1_eq (x := x0) (y := 3) (m := x0.toInt) (n := 3) rfl (by decide)).mpr c4
                        have ic5 := mt (p1_eq (x := x0) (y := 4) (m := x0.toInt) (n := 4) rfl (by decide)).mpr c5
                        have ic6 := mt (p1_eq (x := x0) (y := 5) (m := x0.toInt) (n := 5) rfl (by decide)).mpr c6
                        have ic7 := mt (p1_eq (x := x0) (y := 6) (m := x0.toInt) (n := 6) rfl (by decide)).mpr c7
                        have ic8 := mt (p1_eq (x := x0) (y := 7) (m := x0.toInt) (n := 7) rfl (by decide)).mpr c8
                        have ic9 := mt (p1_eq (x := x0) (y := 8) (m := x0.toInt) (n := 8) rfl (by decide)).mpr c9
                        have ic10 := mt (p1_eq (x := x0) (y := 9) (m := x0.toInt) (n := 9) rfl (by decide)).mpr c10
                        have ic11 := (p1_eq (x := x0) (y := 10) (m := x0.toInt) (n := 10) rfl (by decide)).mp c11
                        obtain ⟨H1, e, f⟩ := fx_count_10 (sL := sL) (sx := sx) (cs := cs) (x0 := x0) (p1_c0 P) (p1_c3 P) (p1_c115 P) (p1_c141 P) (p1_c143 P) (p1_c145 P) (p1_c147 P) (p1_c149 P) (p1_c151 P) (p1_c153 P) (p1_c155 P) (p1_c116 P) (p1_c117 P) (p1_c119 P) (p1_c121 P) (p1_c127 P) (p1_c128 P) c1 c2 c3 c4 c5 c6 c7 c8 c9 c10 c11
                        refine ⟨H1, ?_, fun j hj => f.2 j⟩
                        rw [if_neg (mt (p1_eq (x := x0) (y := 0) (m := x0.toInt) (n := 0) rfl (by decide)).mp (by omega)), if_neg (mt (p1_eq (x := x0) (y := 1) (m := x0.toInt) (n := 1) rfl (by decide)).mp (by omega)), if_neg (mt (p1_eq (x := x0) (y := 2) (m := x0.toInt) (n := 2) rfl (by decide)).mp (by omega)), if_neg (mt (p1_eq (x := x0) (y := 3) (m := x0.toInt) (n := 3) rfl (by decide)).mp (by omega)), if_neg (mt (p1_eq (x := x0) (y := 4) (m := x0.toInt) (n := 4) rfl (by decide)).mp (by omega)), if_neg (mt (p1_eq (x := x0) (y := 5) (m := x0.toInt) (n := 5) rfl (by decide)).mp (by omega)), if_neg (mt (p1_eq (x := x0) (y := 6) (m := x0.toInt) (n := 6) rfl (by decide)).mp (by omega)), if_neg (mt (p1_eq (x := x0) (y := 7) (m := x0.toInt) (n := 7) rfl (by decide)).mp (by omega)), if_neg (mt (p1_eq (x := x0) (y := 8) (m := x0.toInt) (n := 8) rfl (by decide)).mp (by omega)), if_neg (mt (p1_eq (x := x0) (y := 9) (m := x0.toInt) (n := 9) rfl (by decide)).mp (by omega)), if_pos ((p1_eq (x := x0) (y := 10) (m := x0.toInt) (n := 10) rfl (by decide)).mpr (by omega))]
                        exact e
                      · by_cases c12 : x0 = 11
                        · have ic1 := mt (p1_eq (x := x0) (y := 0) (m := x0.toInt) (n := 0) rfl (by decide)).mpr c1
                          have ic2 := mt (p1_eq (x := x0) (y := 1) (m := x0.toInt) (n := 1) rfl (by decide)).mpr c2
                          have ic3 := mt (p1_eq (x := x0) (y := 2) (m := x0.toInt) (n := 2) rfl (by decide)).mpr c3
                          have ic4 := mt (p1_eq (x := x0) (y := 3) (m := x0.toInt) (n := 3) rfl (by decide)).mpr c4
                          have ic5 := mt (p1_eq (x := x0) (y := 4) (m := x0.toInt) (n := 4) rfl (by decide)).mpr c5
                          have ic6 := mt (p1_eq (x := x0) (y := 5) (m := x0.toInt) (n := 5) rfl (by decide)).mpr c6
                          have ic7 := mt (p1_eq (x := x0) (y := 6) (m := x0.toInt) (n := 6) rfl (by decide)).mpr c7
                          have ic8 := mt (p1_eq (x := x0) (y := 7) (m := x0.toInt) (n := 7) rfl (by decide)).mpr c8
                          have ic9 := mt (p1_eq (x := x0) (y := 8) (m := x0.toInt) (n := 8) rfl (by decide)).mpr c9
                          have ic10 := mt (p1_eq (x := x0) (y := 9) (m := x0.toInt) (n := 9) rfl (by decide)).mpr c10
                          have ic11 := mt (p1_eq (x := x0) (y := 10) (m := x0.toInt) (n := 10) rfl (by decide)).mpr c11
                          have ic12 := (p1_eq (x := x0) (y := 11) (m := x0.toInt) (n := 11) rfl (by decide)).mp c12
                          obtain ⟨H1, e, f⟩ := fx_count_11 (sL := sL) (sx := sx) (cs := cs) (x0 := x0) (p1_c0 P) (p1_c3 P) (p1_c115 P) (p1_c141 P) (p1_c143 P) (p1_c145 P) (p1_c147 P) (p1_c149 P) (p1_c151 P) (p1_c153 P) (p1_c155 P) (p1_c116 P) (p1_c117 P) (p1_c119 P) (p1_c121 P) (p1_c127 P) (p1_c128 P) c1 c2 c3 c4 c5 c6 c7 c8 c9 c10 c11 c12
                          refine ⟨H1, ?_, fun j hj => f.2 j⟩
                          rw [if_neg (mt (p1_eq (x := x0) (y := 0) (m := x0.toInt) (n := 0) rfl (by decide)).mp (by omega)), if_neg (mt (p1_eq (x := x0) (y := 1) (m := x0.toInt) (n := 1) rfl (by decide)).mp (by omega)), if_neg (mt (p1_eq (x := x0) (y := 2) (m := x0.toInt) (n := 2) rfl (by decide)).mp (by omega)), if_neg (mt (p1_eq (x := x0) (y := 3) (m := x0.toInt) (n := 3) rfl (by decide)).mp (by omega)), if_neg (mt (p1_eq (x := x0) (y := 4) (m := x0.toInt) (n := 4) rfl (by decide)).mp (by omega)), if_neg (mt (p1_eq (x := x0) (y := 5) (m := x0.toInt) (n := 5) rfl (by decide)).mp (by omega)), if_neg (mt (p1_eq (x := x0) (y := 6) (m := x0.toInt) (n := 6) rfl (by decide)).mp (by omega)), if_neg (mt (p1_eq (x := x0) (y := 7) (m := x0.toInt) (n := 7) rfl (by decide)).mp (by omega)), if_neg (mt (p1_eq (x := x0) (y := 8) (m := x0.toInt) (n := 8) rfl (by decide)).mp (by omega)), if_neg (mt (p1_eq (x := x0) (y := 9) (m := x0.toInt) (n := 9) rfl (by decide)).mp (by omega)), if_neg (mt (p1_eq (x := x0) (y := 10) (m := x0.toInt) (n := 10) rfl (by decide)).mp (by omega)), if_pos ((p1_eq (x := x0) (y := 11) (m := x0.toInt) (n := 11) rfl (by decide)).mpr (by omega))]
                          exact e
                        · by_cases c13 : x0 = 12
                          · have ic1 := mt (p1_eq (x := x0) (y := 0) (m := x0.toInt) (n := 0) rfl (by decide)).mpr c1
                            have ic2 := mt (p1_eq (x := x0) (y := 1) (m := x0.toInt) (n := 1) rfl (by decide)).mpr c2
                            have ic3 := mt (p1_eq (x := x0) (y := 2) (m := x0.toInt) (n := 2) rfl (by decide)).mpr c3
                            have ic4 := mt (p1_eq (x := x0) (y := 3) (m := x0.toInt) (n := 3) rfl (by decide)).mpr c4
                            have ic5 := mt (p1_eq (x := x0) (y := 4) (m := x0.toInt) (n := 4) rfl (by decide)).mpr c5
                            have ic6 := mt (p1_eq (x := x0) (y := 5) (m := x0.toInt) (n := 5) rfl (by decide)).mpr c6
                            have ic7 := mt (p1_eq (x := x0) (y := 6) (m := x0.toInt) (n := 6) rfl (by decide)).mpr c7
                            have ic8 := mt (p1_eq (x := x0) (y := 7) (m := x0.toInt) (n := 7) rfl (by decide)).mpr c8
                            have ic9 := mt (p1_eq (x := x0) (y := 8) (m := x0.toInt) (n := 8) rfl (by decide)).mpr c9
                            have ic10 := mt (p1_eq (x := x0) (y := 9) (m := x0.toInt) (n := 9) rfl (by decide)).mpr c10
                            have ic11 := mt (p1_eq (x := x0) (y := 10) (m := x0.toInt) (n := 10) rfl (by decide)).mpr c11
                            have ic12 := mt (p1_eq (x := x0) (y := 11) (m := x0.toInt) (n := 11) rfl (by decide)).mpr c12
                            have ic13 := (p1_eq (x := x0) (y := 12) (m := x0.toInt) (n := 12) rfl (by decide)).mp c13
                            obtain ⟨H1, e, f⟩ := fx_count_12 (sL := sL) (sx := sx) (cs := cs) (x0 := x0) (p1_c0 P) (p1_c3 P) (p1_c115 P) (p1_c141 P) (p1_c143 P) (p1_c145 P) (p1_c147 P) (p1_c149 P) (p1_c151 P) (p1_c153 P) (p1_c155 P) (p1_c116 P) (p1_c117 P) (p1_c119 P) (p1_c121 P) (p1_c127 P) (p1_c128 P) c1 c2 c3 c4 c5 c6 c7 c8 c9 c10 c11 c12 c13
                            refine ⟨H1, ?_, fun j hj => f.2 j⟩
                            rw [if_neg (mt (p1_eq (x := x0) (y := 0) (m := x0.toInt) (n := 0) rfl (by decide)).mp (by omega)), if_neg (mt (p1_eq (x := x0) (y := 1) (m := x0.toInt) (n := 1) rfl (by decide)).mp (by omega)), if_neg (mt (p1_eq (x := x0) (y := 2) (m := x0.toInt) (n := 2) rfl (by decide)).mp (by omega)), if_neg (mt (p1_eq (x := x0) (y := 3) (m := x0.toInt) (n := 3) rfl (by decide)).mp (by omega)), if_neg (mt (p1_eq (x := x0) (y := 4) (m := x0.toInt) (n := 4) rfl (by decide)).mp (by omega)), if_neg (mt (p1_eq (x := x0) (y := 5) (m := x0.toInt) (n := 5) rfl (by decide)).mp (by omega)), if_neg (mt (p1_eq (x := x0) (y := 6) (m := x0.toInt) (n := 6) rfl (by decide)).mp (by omega)), if_neg (mt (p1_eq (x := x0) (y := 7) (m := x0.toInt) (n := 7) rfl (by decide)).mp (by omega)), if_neg (mt (p1_eq (x := x0) (y := 8) (m := x0.toInt) (n := 8) rfl (by decide)).mp (by omega)), if_neg (mt (p1_eq (x := x0) (y := 9) (m := x0.toInt) (n := 9) rfl (by decide)).mp (by omega)), if_neg (mt (p1_eq (x := x0) (y := 10) (m := x0.toInt) (n := 10) rfl (by decide)).mp (by omega)), if_neg (mt (p1_eq (x := x0) (y := 11) (m := x0.toInt) (n := 11) rfl (by decide)).mp (by omega)), if_pos ((p1_eq (x := x0) (y := 12) (m := x0.toInt) (n := 12) rfl (by decide)).mpr (by omega))]
                            exact e
                          · by_cases c14 : x0 = 13
                            · have ic1 := mt (p1_eq (x := x0) (y := 0) (m := x0.toInt) (n := 0) rfl (by decide)).mpr c1
                              have ic2 := mt (p1_eq (x := x0) (y := 1) (m := x0.toInt) (n := 1) rfl (by decide)).mpr c2
                              have ic3 := mt (p1_eq (x := x0) (y := 2) (m := x0.toInt) (n := 2) rfl (by decide)).mpr c3
                              have ic4 := mt (p1_eq (x := x0) (y := 3) (m := x0.toInt) (n := 3) rfl (by decide)).mpr c4
                              have ic5 := mt (p1_eq (x := x0) (y := 4) (m := x0.toInt) (n := 4) rfl (by decide)).mpr c5
                              have ic6 := mt (p1_eq (x := x0) (y := 5) (m := x0.toInt) (n := 5) rfl (by decide)).mpr c6
                              have ic7 := mt (p1_eq (x := x0) (y := 6) (m := x0.toInt) (n := 6) rfl (by decide)).mpr c7
                              have ic8 := mt (p1_eq (x := x0) (y := 7) (m := x0.toInt) (n := 7) rfl (by decide)).mpr c8
                              have ic9 := mt (p1_eq (x := x0) (y := 8) (m := x0.toInt) (n := 8) rfl (by decide)).mpr c9
                              have ic10 := mt (p1_eq (x := x0) (y := 9) (m := x0.toInt) (n := 9) rfl (by decide)).mpr c10
                              have ic11 := mt (p1_eq (x := x0) (y := 10) (m := x0.toInt) (n := 10) rfl (by decide)).mpr c11
                              have ic12 := mt (p1_eq (x := x0) (y := 11) (m := x0.toInt) (n := 11) rfl (by decide)).mpr c12
                              have ic13 := mt (p1_eq (x := x0) (y := 12) (m := x0.toInt) (n := 12) rfl (by decide)).mpr c13
                              have ic14 := (p1_eq (x := x0) (y := 13) (m := x0.toInt) (n := 13) rfl (by decide)).mp c14
                              obtain ⟨H1, e, f⟩ := fx_count_13 (sL := sL) (sx := sx) (cs := cs) (x0 := x0) (p1_c0 P) (p1_c3 P) (p1_c115 P) (p1_c141 P) (p1_c143 P) (p1_c145 P) (p1_c147 P) (p1_c149 P) (p1_c151 P) (p1_c153 P) (p1_c155 P) (p1_c116 P) (p1_c117 P) (p1_c119 P) (p1_c121 P) (p1_c127 P) (p1_c128 P) c1 c2 c3 c4 c5 c6 c7 c8 c9 c10 c11 c12 c13 c14
                              refine ⟨H1, ?_, fun j hj => f.2 j⟩
                              rw [if_neg (mt (p1_eq (x := x0) (y := 0) (m := x0.toInt) (n := 0) rfl (by decide)).mp (by omega)), if_neg (mt (p1_eq (x := x0) (y := 1) (m := x0.toInt) (n := 1) rfl (by decide)).mp (by omega)), if_neg (mt (p1_eq (x := x0) (y := 2) (m := x0.toInt) (n := 2) rfl (by decide)).mp (by omega)), if_neg (mt (p1_eq (x := x0) (y := 3) (m := x0.toInt) (n := 3) rfl (by decide)).mp (by omega)), if_neg (mt (p1_eq (x := x0) (y := 4) (m := x0.toInt) (n := 4) rfl (by decide)).mp (by omega)), if_neg (mt (p1_eq (x := x0) (y := 5) (m := x0.toInt) (n := 5) rfl (by decide)).mp (by omega)), if_neg (mt (p1_eq (x := x0) (y := 6) (m := x0.toInt) (n := 6) rfl (by decide)).mp (by omega)), if_neg (mt (p1_eq (x := x0) (y := 7) (m := x0.toInt) (n := 7) rfl (by decide)).mp (by omega)), if_neg (mt (p1_eq (x := x0) (y := 8) (m := x0.toInt) (n := 8) rfl (by decide)).mp (by omega)), if_neg (mt (p1_eq (x := x0) (y := 9) (m := x0.toInt) (n := 9) rfl (by decide)).mp (by omega)), if_neg (mt (p1_eq (x := x0) (y := 10) (m := x0.toInt) (n := 10) rfl (by decide)).mp (by omega)), if_neg (mt (p1_eq (x := x0) (y := 11) (m := x0.toInt) (n := 11) rfl (by decide)).mp (by omega)), if_neg (mt (p1_eq (x := x0) (y := 12) (m := x0.toInt) (n := 12) rfl (by decide)).mp (by omega)), if_pos ((p1_eq (x := x0) (y := 13) (m := x0.toInt) (n := 13) rfl (by decide)).mpr (by omega))]
                              exact e
                            · by_cases c15 : x0 = 14
                              · have ic1 := mt (p1_eq (x := x0) (y := 0) (m := x0.toInt) (n := 0) rfl (by decide)).mpr c1
                                have ic2 := mt (p1_eq (x := x0) (y := 1) (m := x0.toInt) (n := 1) rfl (by decide)).mpr c2
                                have ic3 := mt (p1_eq (x := x0) (y := 2) (m := x0.toInt) (n := 2) rfl (by decide)).mpr c3
                                have ic4 := mt (p1_eq (x := x0) (y := 3) (m := x0.toInt) (n := 3) rfl (by decide)).mpr c4
                                have ic5 := mt (p1_eq (x := x0) (y := 4) (m := x0.toInt) (n := 4) rfl (by decide)).mpr c5
                                have ic6 := mt (p1_eq (x := x0) (y := 5) (m := x0.toInt) (n := 5) rfl (by decide)).mpr c6
                                have ic7 := mt (p1_eq (x := x0) (y := 6) (m := x0.toInt) (n := 6) rfl (by decide)).mpr c7
                                have ic8 := mt (p1_eq (x := x0) (y := 7) (m := x0.toInt) (n := 7) rfl (by decide)).mpr c8
                                have ic9 := mt (p1_eq (x := x0) (y := 8) (m := x0.toInt) (n := 8) rfl (by decide)).mpr c9
                                have ic10 := mt (p1_eq (x := x0) (y := 9) (m := x0.toInt) (n := 9) rfl (by decide)).mpr c10
                                have ic11 := mt (p1_eq (x := x0) (y := 10) (m := x0.toInt) (n := 10) rfl (by decide)).mpr c11
                                have ic12 := mt (p1_eq (x := x0) (y := 11) (m := x0.toInt) (n := 11) rfl (by decide)).mpr c12
                                have ic13 := mt (p1_eq (x := x0) (y := 12) (m := x0.toInt) (n := 12) rfl (by decide)).mpr c13
                                have ic14 := mt (p1_eq (x := x0) (y := 13) (m := x0.toInt) (n := 13) rfl (by decide)).mpr c14
                                have ic15 := (p1_eq (x := x0) (y := 14) (m := x0.toInt) (n := 14) rfl (by decide)).mp c15
                                obtain ⟨H1, e, f⟩ := fx_count_14 (sL := sL) (sx := sx) (cs := cs) (x0 := x0) (p1_c0 P) (p1_c3 P) (p1_c115 P) (p1_c141 P) (p1_c143 P) (p1_c145 P) (p1_c147 P) (p1_c149 P) (p1_c151 P) (p1_c153 P) (p1_c155 P) (p1_c116 P) (p1_c117 P) (p1_c119 P) (p1_c121 P) (p1_c127 P) (p1_c128 P) c1 c2 c3 c4 c5 c6 c7 c8 c9 c10 c11 c12 c13 c14 c15
                                refine ⟨H1, ?_, fun j hj => f.2 j⟩
                                rw [if_neg (mt (p1_eq (x := x0) (y := 0) (m := x0.toInt) (n := 0) rfl (by decide)).mp (by omega)), if_neg (mt (p1_eq (x := x0) (y := 1) (m := x0.toInt) (n := 1) rfl (by decide)).mp (by omega)), if_neg (mt (p1_eq (x := x0) (y := 2) (m := x0.toInt) (n := 2) rfl (by decide)).mp (by omega)), if_neg (mt (p1_eq (x := x0) (y := 3) (m := x0.toInt) (n := 3) rfl (by decide)).mp (by omega)), if_neg (mt (p1_eq (x := x0) (y := 4) (m := x0.toInt) (n := 4) rfl (by decide)).mp (by omega)), if_neg (mt (p1_eq (x := x0) (y := 5) (m := x0.toInt) (n := 5) rfl (by decide)).mp (by omega)), if_neg (mt (p1_eq (x := x0) (y := 6) (m := x0.toInt) (n := 6) rfl (by decide)).mp (by omega)), if_neg (mt (p1_eq (x := x0) (y := 7) (m := x0.toInt) (n := 7) rfl (by decide)).mp (by omega)), if_neg (mt (p1_eq (x := x0) (y := 8) (m := x0.toInt) (n := 8) rfl (by decide)).mp (by omega)), if_neg (mt (p1_eq (x := x0) (y := 9) (m := x0.toInt) (n := 9) rfl (by decide)).mp (by omega)), if_neg (mt (p1_eq (x := x0) (y := 10) (m := x0.toInt) (n := 10) rfl (by decide)).mp (by omega)), if_neg (mt (p1_eq (x := x0) (y := 11) (m := x0.toInt) (n := 11) rfl (by decide)).mp (by omega)), if_neg (mt (p1_eq (x := x0) (y := 12) (m := x0.toInt) (n := 12) rfl (by decide)).mp (by omega)), if_neg (mt (p1_eq (x := x0) (y := 13) (m := x0.toInt) (n := 13) rfl (by decide)).mp (by omega)), if_pos ((p1_eq (x := x0) (y := 14) (m := x0.toInt) (n := 14) rfl (by decide)).mpr (by omega))]
                                exact e
                              · by_cases c16 : x0 = 15
                                · have ic1 := mt (p1_eq (x := x0) (y := 0) (m := x0.toInt) (n := 0) rfl (by decide)).mpr c1
                                  have ic2 := mt (p1_eq (x := x0) (y := 1) (m := x0.toInt) (n := 1) rfl (by decide)).mpr c2
                                  have ic3 := mt (p1_eq (x := x0) (y := 2) (m := x0.toInt) (n := 2) rfl (by decide)).mpr c3
                                  have ic4 := mt (p1_eq (x := x0) (y := 3) (m := x0.toInt) (n := 3) rfl (by decide)).mpr c4
                                  have ic5 := mt (p1_eq (x := x0) (y := 4) (m := x0.toInt) (n := 4) rfl (by decide)).mpr c5
                                  have ic6 := mt (p1_eq (x := x0) (y := 5) (m := x0.toInt) (n := 5) rfl (by decide)).mpr c6
                                  have ic7 := mt (p1_eq (x := x0) (y := 6) (m := x0.toInt) (n := 6) rfl (by decide)).mpr c7
                                  have ic8 := mt (p1_eq (x := x0) (y := 7) (m := x0.toInt) (n := 7) rfl (by decide)).mpr c8
                                  have ic9 := mt (p1_eq (x := x0) (y := 8) (m := x0.toInt) (n := 8) rfl (by decide)).mpr c9
                                  have ic10 := mt (p1_eq (x := x0) (y := 9) (m := x0.toInt) (n := 9) rfl (by decide)).mpr c10
                                  have ic11 := mt (p1_eq (x := x0) (y := 10) (m := x0.toInt) (n := 10) rfl (by decide)).mpr c11
                                  have ic12 := mt (p1_eq (x := x0) (y := 11) (m := x0.toInt) (n := 11) rfl (by decide)).mpr c12
                                  have ic13 := mt (p1_eq (x := x0) (y := 12) (m := x0.toInt) (n := 12) rfl (by decide)).mpr c13
                                  have ic14 := mt (p1_eq (x := x0) (y := 13) (m := x0.toInt) (n := 13) rfl (by decide)).mpr c14
                                  have ic15 := mt (p1_eq (x := x0) (y := 14) (m := x0.toInt) (n := 14) rfl (by decide)).mpr c15
                                  have ic16 := (p1_eq (x := x0) (y := 15) (m := x0.toInt) (n := 15) rfl (by decide)).mp c16
                                  obtain ⟨H1, e, f⟩ := fx_count_15 (sL := sL) (sx := sx) (cs := cs) (x0 := x0) (p1_c0 P) (p1_c3 P) (p1_c115 P) (p1_c141 P) (p1_c143 P) (p1_c145 P) (p1_c147 P) (p1_c149 P) (p1_c151 P) (p1_c153 P) (p1_c155 P) (p1_c116 P) (p1_c117 P) (p1_c119 P) (p1_c121 P) (p1_c127 P) (p1_c128 P) c1 c2 c3 c4 c5 c6 c7 c8 c9 c10 c11 c12 c13 c14 c15 c16
                                  refine ⟨H1, ?_, fun j hj => f.2 j⟩
                                  rw [if_neg (mt (p1_eq (x := x0) (y := 0) (m := x0.toInt) (n := 0) rfl (by decide)).mp (by omega)), if_neg (mt (p1_eq (x := x0) (y := 1) (m := x0.toInt) (n := 1) rfl (by decide)).mp (by omega)), if_neg (mt (p1_eq (x := x0) (y := 2) (m := x0.toInt) (n := 2) rfl (by decide)).mp (by omega)), if_neg (mt (p1_eq (x := x0) (y := 3) (m := x0.toInt) (n := 3) rfl (by decide)).mp (by omega)), if_neg (mt (p1_eq (x := x0) (y := 4) (m := x0.toInt) (n := 4) rfl (by decide)).mp (by omega)), if_neg (mt (p1_eq (x := x0) (y := 5) (m := x0.toInt) (n := 5) rfl (by decide)).mp (by omega)), if_neg (mt (p1_eq (x := x0) (y := 6) (m := x0.toInt) (n := 6) rfl (by decide)).mp (by omega)), if_neg (mt (p1_eq (x := x0) (y := 7) (m := x0.toInt) (n := 7) rfl (by decide)).mp (by omega)), if_neg (mt (p1_eq (x := x0) (y := 8) (m := x0.toInt) (n := 8) rfl (by decide)).mp (by omega)), if_neg (mt (p1_eq (x := x0) (y := 9) (m := x0.toInt) (n := 9) rfl (by decide)).mp (by omega)), if_neg (mt (p1_eq (x := x0) (y := 10) (m := x0.toInt) (n := 10) rfl (by decide)).mp (by omega)), if_neg (mt (p1_eq (x := x0) (y := 11) (m := x0.toInt) (n := 11) rfl (by decide)).mp (by omega)), if_neg (mt (p1_eq (x := x0) (y := 12) (m := x0.toInt) (n := 12) rfl (by decide)).mp (by omega)), if_neg (mt (p1_eq (x := x0) (y := 13) (m := x0.toInt) (n := 13) rfl (by decide)).mp (by omega)), if_neg (mt (p1_eq (x := x0) (y := 14) (m := x0.toInt) (n := 14) rfl (by decide)).mp (by omega)), if_neg (mt (p1_eq (x := x0) (y := 17) (m := x0.toInt) (n := 17) rfl (by decide)).mp (by omega)), if_neg (mt (p1_eq (x := x0) (y := 18) (m := x0.toInt) (n := 18) rfl (by decide)).mp (by omega))]
                                  exact e
                                · by_cases c17 : x0 = 16
                                  · have ic1 := mt (p1_eq (x := x0) (y := 0) (m := x0.toInt) (n := 0) rfl (by decide)).mpr c1
                                    have ic2 := mt (p1_eq (x := x0) (y := 1) (m := x0.toInt) (n := 1) rfl (by decide)).mpr c2
                                    have ic3 := mt (p1_eq (x := x0) (y := 2) (m := x0.toInt) (n := 2) rfl (by decide)).mpr c3
                                    have ic4 := mt (p1_eq (x := x0) (y := 3) (m := x0.toInt) (n := 3) rfl (by decide)).mpr c4
                                    have ic5 := mt (p1_eq (x := x0) (y := 4) (m := x0.toInt) (n := 4) rfl (by decide)).mpr c5
                                    have ic6 := mt (p1_eq (x := x0) (y := 5) (m := x0.toInt) (n := 5) rfl (by decide)).mpr c6
                                    have ic7 := mt (p1_eq (x := x0) (y := 6) (m := x0.toInt) (n := 6) rfl (by decide)).mpr c7
                                    have ic8 := mt (p1_eq (x := x0) (y := 7) (m := x0.toInt) (n := 7) rfl (by decide)).mpr c8
                                    have ic9 := mt (p1_eq (x := x0) (y := 8) (m := x0.toInt) (n := 8) rfl (by decide)).mpr c9
                                    have ic10 := mt (p1_eq (x := x0) (y := 9) (m := x0.toInt) (n := 9) rfl (by decide)).mpr c10
                                    have ic11 := mt (p1_eq (x := x0) (y := 10) (m := x0.toInt) (n := 10) rfl (by decide)).mpr c11
                                    have ic12 := mt (p1_eq (x := x0) (y := 11) (m := x0.toInt) (n := 11) rfl (by decide)).mpr c12
                                    have ic13 := mt (p1_eq (x := x0) (y := 12) (m := x0.toInt) (n := 12) rfl (by decide)).mpr c13
                                    have ic14 := mt (p1_eq (x := x0) (y := 13) (m := x0.toInt) (n := 13) rfl (by decide)).mpr c14
                                    have ic15 := mt (p1_eq (x := x0) (y := 14) (m := x0.toInt) (n := 14) rfl (by decide)).mpr c15
                                    have ic16 := mt (p1_eq (x := x0) (y := 15) (m := x0.toInt) (n := 15) rfl (by decide)).mpr c16
                                    have ic17 := (p1_eq (x := x0) (y := 16) (m := x0.toInt) (n := 16) rfl (by decide)).mp c17
                                    obtain ⟨H1, e, f⟩ := fx_count_16 (sL := sL) (sx := sx) (cs := cs) (x0 := x0) (p1_c0 P) (p1_c3 P) (p1_c115 P) (p1_c141 P) (p1_c143 P) (p1_c145 P) (p1_c147 P) (p1_c149 P) (p1_c151 P) (p1_c153 P) (p1_c155 P) (p1_c116 P) (p1_c117 P) (p1_c119 P) (p1_c121 P) (p1_c127 P) (p1_c128 P) c1 c2 c3 c4 c5 c6 c7 c8 c9 c10 c11 c12 c13 c14 c15 c16 c17
                                    refine ⟨H1, ?_, fun j hj => f.2 j⟩
                                    rw [if_neg (mt (p1_eq (x := x0) (y := 0) (m := x0.toInt) (n := 0) rfl (by decide)).mp (by omega)), if_neg (mt (p1_eq (x := x0) (y := 1) (m := x0.toInt) (n := 1) rfl (by decide)).mp (by omega)), if_neg (mt (p1_eq (x := x0) (y := 2) (m := x0.toInt) (n := 2) rfl (by decide)).mp (by omega)), if_neg (mt (p1_eq (x := x0) (y := 3) (m := x0.toInt) (n := 3) rfl (by decide)).mp (by omega)), if_neg (mt (p1_eq (x := x0) (y := 4) (m := x0.toInt) (n := 4) rfl (by decide)).mp (by omega)), if_neg (mt (p1_eq (x := x0) (y := 5) (m := x0.toInt) (n := 5) rfl (by decide)).mp (by omega)), if_neg (mt (p1_eq (x := x0) (y := 6) (m := x0.toInt) (n := 6) rfl (by decide)).mp (by omega)), if_neg (mt (p1_eq (x := x0) (y := 7) (m := x0.toInt) (n := 7) rfl (by decide)).mp (by omega)), if_neg (mt (p1_eq (x := x0) (y := 8) (m := x0.toInt) (n := 8) rfl (by decide)).mp (by omega)), if_neg (mt (p1_eq (x := x0) (y := 9) (m := x0.toInt) (n := 9) rfl (by decide)).mp (by omega)), if_neg (mt (p1_eq (x := x0) (y := 10) (m := x0.toInt) (n := 10) rfl (by decide)).mp (by omega)), if_neg (mt (p1_eq (x := x0) (y := 11) (m := x0.toInt) (n := 11) rfl (by decide)).mp (by omega)), if_neg (mt (p1_eq (x := x0) (y := 12) (m := x0.toInt) (n := 12) rfl (by decide)).mp (by omega)), if_neg (mt (p1_eq (x := x0) (y := 13) (m := x0.toInt) (n := 13) rfl (by decide)).mp (by omega)), if_neg (mt (p1_eq (x := x0) (y := 14) (m := x0.toInt) (n := 14) rfl (by decide)).mp (by omega)), if_neg (mt (p1_eq (x := x0) (y := 17) (m := x0.toInt) (n := 17) rfl (by decide)).mp (by omega)), if_neg (mt (p1_eq (x := x0) (y := 18) (m := x0.toInt) (n := 18) rfl (by decide)).mp (by omega))]
                                    exact e
                                  · by_cases c18 : x0 = 17
                                    · have ic1 := mt (p1_eq (x := x0) (y := 0) (m := x0.toInt) (n := 0) rfl (by decide)).mpr c1
                                      have ic2 := mt (p1_eq (x := x0) (y := 1) (m := x0.toInt) (n := 1) rfl (by decide)).mpr c2
                                      have ic3 := mt (p1_eq (x := x0) (y := 2) (m := x0.toInt) (n := 2) rfl (by decide)).mpr c3
                                      have ic4 := mt (p1_eq (x := x0) (y := 3) (m := x0.toInt) (n := 3) rfl (by decide)).mpr c4
                                      have ic5 := mt (p1_eq (x := x0) (y := 4) (m := x0.toInt) (n := 4) rfl (by decide)).mpr c5
                                      have ic6 := mt (p1_eq (x := x0) (y := 5) (m := x0.toInt) (n := 5) rfl (by decide)).mpr c6
                                      have ic7 := mt (p1_eq (x := x0) (y := 6) (m := x0.toInt) (n := 6) rfl (by decide)).mpr c7
                                      have ic8 := mt (p1_eq (x := x0) (y := 7) (m := x0.toInt) (n := 7) rfl (by decide)).mpr c8
                                      have ic9 := mt (p1_eq (x := x0) (y := 8) (m := x0.toInt) (n := 8) rfl (by decide)).mpr c9
                                      have ic10 := mt (p1_eq (x := x0) (y := 9) (m := x0.toInt) (n := 9) rfl (by decide)).mpr c10
                                      have ic11 := mt (p1_eq (x := x0) (y := 10) (m := x0.toInt) (n := 10) rfl (by decide)).mpr c11
                                      have ic12 := mt (p1_eq (x := x0) (y := 11) (m := x0.toInt) (n := 11) rfl (by decide)).mpr c12
                                      have ic13 := mt (p1_eq (x := x0) (y := 12) (m := x0.toInt) (n := 12) rfl (by decide)).mpr c13
                                      have ic14 := mt (p1_eq (x := x0) (y := 13) (m := x0.toInt) (n := 13) rfl (by decide)).mpr c14
                                      have ic15 := mt (p1_eq (x := x0) (y := 14) (m := x0.toInt) (n := 14) rfl (by decide)).mpr c15
                                      have ic16 := mt (p1_eq (x := x0) (y := 15) (m := x0.toInt) (n := 15) rfl (by decide)).mpr c16
                                      have ic17 := mt (p1_eq (x := x0) (y := 16) (m := x0.toInt) (n := 16) rfl (by decide)).mpr c17
                                      have ic18 := (p1_eq (x := x0) (y := 17) (m := x0.toInt) (n := 17) rfl (by decide)).mp c18
                                      obtain ⟨H1, e, f⟩ := fx_count_17 (sL := sL) (sx := sx) (cs := cs) (x0 := x0) (p1_c0 P) (p1_c3 P) (p1_c115 P) (p1_c141 P) (p1_c143 P) (p1_c145 P) (p1_c147 P) (p1_c149 P) (p1_c151 P) (p1_c153 P) (p1_c155 P) (p1_c116 P) (p1_c117 P) (p1_c119 P) (p1_c121 P) (p1_c127 P) (p1_c128 P) c1 c2 c3 c4 c5 c6 c7 c8 c9 c10 c11 c12 c13 c14 c15 c16 c17 c18
                                      refine ⟨H1, ?_, fun j hj => f.2 j⟩
                                      rw [if_neg (mt (p1_eq (x := x0) (y := 0) (m := x0.toInt) (n := 0) rfl (by decide)).mp (by omega)), if_neg (mt (p1_eq (x := x0) (y := 1) (m := x0.toInt) (n := 1) rfl (by decide)).mp (by omega)), if_neg (mt (p1_eq (x := x0) (y := 2) (m := x0.toInt) (n := 2) rfl (by decide)).mp (by omega)), if_neg (mt (p1_eq (x := x0) (y := 3) (m := x0.toInt) (n := 3) rfl (by decide)).mp (by omega)), if_neg (mt (p1_eq (x := x0) (y := 4) (m := x0.toInt) (n := 4) rfl (by decide)).mp (by omega)), if_neg (mt (p1_eq (x := x0) (y := 5) (m := x0.toInt) (n := 5) rfl (by decide)).mp (by omega)), if_neg (mt (p1_eq (x := x0) (y := 6) (m := x0.toInt) (n := 6) rfl (by decide)).mp (by omega)), if_neg (mt (p1_eq (x := x0) (y := 7) (m := x0.toInt) (n := 7) rfl (by decide)).mp (by omega)), if_neg (mt (p1_eq (x := x0) (y := 8) (m := x0.toInt) (n := 8) rfl (by decide)).mp (by omega)), if_neg (mt (p1_eq (x := x0) (y := 9) (m := x0.toInt) (n := 9) rfl (by decide)).mp (by omega)), if_neg (mt (p1_eq (x := x0) (y := 10) (m := x0.toInt) (n := 10) rfl (by decide)).mp (by omega)), if_neg (mt (p1_eq (x := x0) (y := 11) (m := x0.toInt) (n := 11) rfl (by decide)).mp (by omega)), if_neg (mt (p1_eq (x := x0) (y := 12) (m := x0.toInt) (n := 12) rfl (by decide)).mp (by omega)), if_neg (mt (p1_eq (x := x0) (y := 13) (m := x0.toInt) (n := 13) rfl (by decide)).mp (by omega)), if_neg (mt (p1_eq (x := x0) (y := 14) (m := x0.toInt) (n := 14) rfl (by decide)).mp (by omega)), if_pos ((p1_eq (x := x0) (y := 17) (m := x0.toInt) (n := 17) rfl (by decide)).mpr (by omega))]
                                      exact e
                                    · by_cases c19 : x0 = 18
                                      · have ic1 := mt (p1_eq (x := x0) (y := 0) (m := x0.toInt) (n := 0) rfl (by decide)).mpr c1
                                        have ic2 := mt (p1_eq (x := x0) (y := 1) (m := x0.toInt) (n := 1) rfl (by decide)).mpr c2
                                        have ic3 := mt (p1_eq (x := x0) (y := 2) (m := x0.toInt) (n := 2) rfl (by decide)).mpr c3
                                        have ic4 := mt (p1_eq (x := x0) (y := 3) (m := x0.toInt) (n := 3) rfl (by decide)).mpr c4
                                        have ic5 := mt (p1_eq (x := x0) (y := 4) (m := x0.toInt) (n := 4) rfl (by decide)).mpr c5
                                        have ic6 := mt (p1_eq (x := x0) (y := 5) (m := x0.toInt) (n := 5) rfl (by decide)).mpr c6
                                        have ic7 := mt (p1_eq (x := x0) (y := 6) (m := x0.toInt) (n := 6) rfl (by decide)).mpr c7
                                        have ic8 := mt (p1_eq (x := x0) (y := 7) (m := x0.toInt) (n := 7) rfl (by decide)).mpr c8
                                        have ic9 := mt (p1_eq (x := x0) (y := 8) (m := x0.toInt) (n := 8) rfl (by decide)).mpr c9
                                        have ic10 := mt (p1_eq (x := x0) (y := 9) (m := x0.toInt) (n := 9) rfl (by decide)).mpr c10
                                        have ic11 := mt (p1_eq (x := x0) (y := 10) (m := x0.toInt) (n := 10) rfl (by decide)).mpr c11
                                        have ic12 := mt (p1_eq (x := x0) (y := 11) (m := x0.toInt) (n := 11) rfl (by decide)).mpr c12
                                        have ic13 := mt (p1_eq (x := x0) (y := 12) (m := x0.toInt) (n := 12) rfl (by decide)).mpr c13
                                        have ic14 := mt (p1_eq (x := x0) (y := 13) (m := x0.toInt) (n := 13) rfl (by decide)).mpr c14
                                        have ic15 := mt (p1_eq (x := x0) (y := 14) (m := x0.toInt) (n := 14) rfl (by decide)).mpr c15
                                        have ic16 := mt (p1_eq (x := x0) (y := 15) (m := x0.toInt) (n := 15) rfl (by decide)).mpr c16
                                        have ic17 := mt (p1_eq (x := x0) (y := 16) (m := x0.toInt) (n := 16) rfl (by decide)).mpr c17
                                        have ic18 := mt (p1_eq (x := x0) (y := 17) (m := x0.toInt) (n := 17) rfl (by decide)).mpr c18
                                        have ic19 := (p1_eq (x := x0) (y := 18) (m := x0.toInt) (n := 18) rfl (by decide)).mp c19
                                        obtain ⟨H1, e, f⟩ := fx_count_18 (sL := sL) (sx := sx) (cs := cs) (x0 := x0) (p1_c0 P) (p1_c3 P) (p1_c115 P) (p1_c141 P) (p1_c143 P) (p1_c145 P) (p1_c147 P) (p1_c149 P) (p1_c151 P) (p1_c153 P) (p1_c155 P) (p1_c116 P) (p1_c117 P) (p1_c119 P) (p1_c121 P) (p1_c127 P) (p1_c128 P) c1 c2 c3 c4 c5 c6 c7 c8 c9 c10 c11 c12 c13 c14 c15 c16 c17 c18 c19
                                        refine ⟨H1, ?_, fun j hj => f.2 j⟩
                                        rw [if_neg (mt (p1_eq (x := x0) (y := 0) (m := x0.toInt) (n := 0) rfl (by decide)).mp (by omega)), if_neg (mt (p1_eq (x := x0) (y := 1) (m := x0.toInt) (n := 1) rfl (by decide)).mp (by omega)), if_neg (mt (p1_eq (x := x0) (y := 2) (m := x0.toInt) (n := 2) rfl (by decide)).mp (by omega)), if_neg (mt (p1_eq (x := x0) (y := 3) (m := x0.toInt) (n := 3) rfl (by decide)).mp (by omega)), if_neg (mt (p1_eq (x := x0) (y := 4) (m := x0.toInt) (n := 4) rfl (by decide)).mp (by omega)), if_neg (mt (p1_eq (x := x0) (y := 5) (m := x0.toInt) (n := 5) rfl (by decide)).mp (by omega)), if_neg (mt (p1_eq (x := x0) (y := 6) (m := x0.toInt) (n := 6) rfl (by decide)).mp (by omega)), if_neg (mt (p1_eq (x := x0) (y := 7) (m := x0.toInt) (n := 7) rfl (by decide)).mp (by omega)), if_neg (mt (p1_eq (x := x0) (y := 8) (m := x0.toInt) (n := 8) rfl (by decide)).mp (by omega)), if_neg (mt (p1_eq (x := x0) (y := 9) (m := x0.toInt) (n := 9) rfl (by decide)).mp (by omega)), if_neg (mt (p1_eq (x := x0) (y := 10) (m := x0.toInt) (n := 10) rfl (by decide)).mp (by omega)), if_neg (mt (p1_eq (x := x0) (y := 11) (m := x0.toInt) (n := 11) rfl (by decide)).mp (by omega)), if_neg (mt (p1_eq (x := x0) (y := 12) (m := x0.toInt) (n := 12) rfl (by decide)).mp (by omega)), if_neg (mt (p1_eq (x := x0) (y := 13) (m := x0.toInt) (n := 13) rfl (by decide)).mp (by omega)), if_neg (mt (p1_eq (x := x0) (y := 14) (m := x0.toInt) (n := 14) rfl (by decide)).mp (by omega)), if_neg (mt (p1_eq (x := x0) (y := 17) (m := x0.toInt) (n := 17) rfl (by decide)).mp (by omega)), if_pos ((p1_eq (x := x0) (y := 18) (m := x0.toInt) (n := 18) rfl (by decide)).mpr (by omega))]
                                        exact e
                                      · have ic1 := mt (p1_eq (x := x0) (y := 0) (m := x0.toInt) (n := 0) rfl (by decide)).mpr c1
                                        have ic2 := mt (p1_eq (x := x0) (y := 1) (m := x0.toInt) (n := 1) rfl (by decide)).mpr c2
                                        have ic3 := mt (p1_eq (x := x0) (y := 2) (m := x0.toInt) (n := 2) rfl (by decide)).mpr c3
                                        have ic4 := mt (p1_eq (x := x0) (y := 3) (m := x0.toInt) (n := 3) rfl (by decide)).mpr c4
                                        have ic5 := mt (p1_eq (x := x0) (y := 4) (m := x0.toInt) (n := 4) rfl (by decide)).mpr c5
                                        have ic6 := mt (p1_eq (x := x0) (y := 5) (m := x0.toInt) (n := 5) rfl (by decide)).mpr c6
                                        have ic7 := mt (p1_eq (x := x0) (y := 6) (m := x0.toInt) (n := 6) rfl (by decide)).mpr c7
                                        have ic8 := mt (p1_eq (x := x0) (y := 7) (m := x0.toInt) (n := 7) rfl (by decide)).mpr c8
                                        have ic9 := mt (p1_eq (x := x0) (y := 8) (m := x0.toInt) (n := 8) rfl (by decide)).mpr c9
                                        have ic10 := mt (p1_eq (x := x0) (y := 9) (m := x0.toInt) (n := 9) rfl (by decide)).mpr c10
                                        have ic11 := mt (p1_eq (x := x0) (y := 10) (m := x0.toInt) (n := 10) rfl (by decide)).mpr c11
                                        have ic12 := mt (p1_eq (x := x0) (y := 11) (m := x0.toInt) (n := 11) rfl (by decide)).mpr c12
                                        have ic13 := mt (p1_eq (x := x0) (y := 12) (m := x0.toInt) (n := 12) rfl (by decide)).mpr c13
                                        have ic14 := mt (p1_eq (x := x0) (y := 13) (m := x0.toInt) (n := 13) rfl (by decide)).mpr c14
                                        have ic15 := mt (p1_eq (x := x0) (y := 14) (m := x0.toInt) (n := 14) rfl (by decide)).mpr c15
                                        have ic16 := mt (p1_eq (x := x0) (y := 15) (m := x0.toInt) (n := 15) rfl (by decide)).mpr c16
                                        have ic17 := mt (p1_eq (x := x0) (y := 16) (m := x0.toInt) (n := 16) rfl (by decide)).mpr c17
                                        have ic18 := mt (p1_eq (x := x0) (y := 17) (m := x0.toInt) (n := 17) rfl (by decide)).mpr c18
                                        have ic19 := mt (p1_eq (x := x0) (y := 18) (m := x0.toInt) (n := 18) rfl (by decide)).mpr c19
                                        obtain ⟨H1, e, f⟩ := fx_count_19 (sL := sL) (sx := sx) (cs := cs) (x0 := x0) (p1_c0 P) (p1_c3 P) (p1_c115 P) (p1_c141 P) (p1_c143 P) (p1_c145 P) (p1_c147 P) (p1_c149 P) (p1_c151 P) (p1_c153 P) (p1_c155 P) (p1_c116 P) (p1_c117 P) (p1_c119 P) (p1_c121 P) (p1_c127 P) (p1_c128 P) c1 c2 c3 c4 c5 c6 c7 c8 c9 c10 c11 c12 c13 c14 c15 c16 c17 c18 c19
                                        refine ⟨H1, ?_, fun j hj => f.2 j⟩
                                        rw [if_neg (mt (p1_eq (x := x0) (y := 0) (m := x0.toInt) (n := 0) rfl (by decide)).mp (by omega)), if_neg (mt (p1_eq (x := x0) (y := 1) (m := x0.toInt) (n := 1) rfl (by decide)).mp (by omega)), if_neg (mt (p1_eq (x := x0) (y := 2) (m := x0.toInt) (n := 2) rfl (by decide)).mp (by omega)), if_neg (mt (p1_eq (x := x0) (y := 3) (m := x0.toInt) (n := 3) rfl (by decide)).mp (by omega)), if_neg (mt (p1_eq (x := x0) (y := 4) (m := x0.toInt) (n := 4) rfl (by decide)).mp (by omega)), if_neg (mt (p1_eq (x := x0) (y := 5) (m := x0.toInt) (n := 5) rfl (by decide)).mp (by omega)), if_neg (mt (p1_eq (x := x0) (y := 6) (m := x0.toInt) (n := 6) rfl (by decide)).mp (by omega)), if_neg (mt (p1_eq (x := x0) (y := 7) (m := x0.toInt) (n := 7) rfl (by decide)).mp (by omega)), if_neg (mt (p1_eq (x := x0) (y := 8) (m := x0.toInt) (n := 8) rfl (by decide)).mp (by omega)), if_neg (mt (p1_eq (x := x0) (y := 9) (m := x0.toInt) (n := 9) rfl (by decide)).mp (by omega)), if_neg (mt (p1_eq (x := x0) (y := 10) (m := x0.toInt) (n := 10) rfl (by decide)).mp (by omega)), if_neg (mt (p1_eq (x := x0) (y := 11) (m := x0.toInt) (n := 11) rfl (by decide)).mp (by omega)), if_neg (mt (p1_eq (x := x0) (y := 12) (m := x0.toInt) (n := 12) rfl (by decide)).mp (by omega)), if_neg (mt (p1_eq (x := x0) (y := 13) (m := x0.toInt) (n := 13) rfl (by decide)).mp (by omega)), if_neg (mt (p1_eq (x := x0) (y := 14) (m := x0.toInt) (n := 14) rfl (by decide)).mp (by omega)), if_neg (mt (p1_eq (x := x0) (y := 17) (m := x0.toInt) (n := 17) rfl (by decide)).mp (by omega)), if_neg (mt (p1_eq (x := x0) (y := 18) (m := x0.toInt) (n := 18) rfl (by decide)).mp (by omega))]
                                        exact e

set_option maxRecDepth 100000 in
theorem px_stop {sL : Nat} {sx : Nat → Int32} {cs : Nat → Nat → Option Int32} {v3 : Int32} {h b : Nat} {H : am_H} {x0 x1 : Int32} (P : p1_P v3 h b H) (dm : p1_D v3 h b) : ∃ H1 : am_H, aX sL sx cs 257 0 [(0, .ref 0), (1, .int x0), (2, .int x1)] [] H 0 0 = some ((some (.int (if x0 < 0 then ((-1) : Int32) else (if Int32.ofNat h ≤ x0 then ((-1) : Int32) else (if x1 < 0 then ((-1) : Int32) else (if Int32.ofNat b ≤ x1 then ((-1) : Int32) else (if am_stv x1 = 0 then 0 else 1))))))), H1, 0, 0) ∧ ∀ j : Nat, 157 ≤ j → H1[j]? = H[j]? := by
  obtain ⟨d1, d2, d3, d4⟩ := dm
  by_cases c1 : x0 < 0
  · have ic1 := (p1_lt (x := x0) (y := 0) (m := x0.toInt) (n := 0) rfl (by decide)).mp c1
    obtain ⟨H1, e, f⟩ := fx_stop_0 (sL := sL) (sx := sx) (cs := cs) (x0 := x0) (x1 := x1) (p1_c0 P) (p1_c129 P) (p1_c136 P) (p1_c140 P) c1
    refine ⟨H1, ?_, fun j hj => f.2 j⟩
    rw [if_pos ((p1_lt (x := x0) (y := 0) (m := x0.toInt) (n := 0) rfl (by decide)).mpr (by omega))]
    exact e
  · by_cases c2 : (Int32.ofNat h) ≤ x0
    · have ic1 := mt (p1_lt (x := x0) (y := 0) (m := x0.toInt) (n := 0) rfl (by decide)).mpr c1
      have ic2 := (p1_le (x := Int32.ofNat h) (y := x0) (m := (h : Int)) (n := x0.toInt) (p1_n (by omega)) rfl).mp c2
      obtain ⟨H1, e, f⟩ := fx_stop_1 (sL := sL) (sx := sx) (cs := cs) (x0 := x0) (x1 := x1) (p1_c0 P) (p1_c129 P) (p1_c136 P) (p1_c140 P) c1 c2
      refine ⟨H1, ?_, fun j hj => f.2 j⟩
      rw [if_neg (mt (p1_lt (x := x0) (y := 0) (m := x0.toInt) (n := 0) rfl (by decide)).mp (by omega)), if_pos ((p1_le (x := Int32.ofNat h) (y := x0) (m := (h : Int)) (n := x0.toInt) (p1_n (by omega)) rfl).mpr (by omega))]
      exact e
    · by_cases c3 : x1 < 0
      · have ic1 := mt (p1_lt (x := x0) (y := 0) (m := x0.toInt) (n := 0) rfl (by decide)).mpr c1
        have ic2 := mt (p1_le (x := Int32.ofNat h) (y := x0) (m := (h : Int)) (n := x0.toInt) (p1_n (by omega)) rfl).mpr c2
        have ic3 := (p1_lt (x := x1) (y := 0) (m := x1.toInt) (n := 0) rfl (by decide)).mp c3
        obtain ⟨H1, e, f⟩ := fx_stop_2 (sL := sL) (sx := sx) (cs := cs) (x0 := x0) (x1 := x1) (p1_c0 P) (p1_c129 P) (p1_c136 P) (p1_c140 P) c1 c2 c3
        refine ⟨H1, ?_, fun j hj => f.2 j⟩
        rw [if_neg (mt (p1_lt (x := x0) (y := 0) (m := x0.toInt) (n := 0) rfl (by decide)).mp (by omega)), if_neg (mt (p1_le (x := Int32.ofNat h) (y := x0) (m := (h : Int)) (n := x0.toInt) (p1_n (by omega)) rfl).mp (by omega)), if_pos ((p1_lt (x := x1) (y := 0) (m := x1.toInt) (n := 0) rfl (by decide)).mpr (by omega))]
        exact e
      · by_cases c4 : (Int32.ofNat b) ≤ x1
        · have ic1 := mt (p1_lt (x := x0) (y := 0) (m := x0.toInt) (n := 0) rfl (by decide)).mpr c1
          have ic2 := mt (p1_le (x := Int32.ofNat h) (y := x0) (m := (h : Int)) (n := x0.toInt) (p1_n (by omega)) rfl).mpr c2
          have ic3 := mt (p1_lt (x := x1) (y := 0) (m := x1.toInt) (n := 0) rfl (by decide)).mpr c3
          have ic4 := (p1_le (x := Int32.ofNat b) (y := x1) (m := (b : Int)) (n := x1.toInt) (p1_n (by omega)) rfl).mp c4
          obtain ⟨H1, e, f⟩ := fx_stop_3 (sL := sL) (sx := sx) (cs := cs) (x0 := x0) (x1 := x1) (p1_c0 P) (p1_c129 P) (p1_c136 P) (p1_c140 P) c1 c2 c3 c4
          refine ⟨H1, ?_, fun j hj => f.2 j⟩
          rw [if_neg (mt (p1_lt (x := x0) (y := 0) (m := x0.toInt) (n := 0) rfl (by decide)).mp (by omega)), if_neg (mt (p1_le (x := Int32.ofNat h) (y := x0) (m := (h : Int)) (n := x0.toInt) (p1_n (by omega)) rfl).mp (by omega)), if_neg (mt (p1_lt (x := x1) (y := 0) (m := x1.toInt) (n := 0) rfl (by decide)).mp (by omega)), if_pos ((p1_le (x := Int32.ofNat b) (y := x1) (m := (b : Int)) (n := x1.toInt) (p1_n (by omega)) rfl).mpr (by omega))]
          exact e
        · by_cases c5 : (am_stp (fun _ => 0) b x1.toNatClampNeg) = 0
          · have ic1 := mt (p1_lt (x := x0) (y := 0) (m := x0.toInt) (n := 0) rfl (by decide)).mpr c1
            have ic2 := mt (p1_le (x := Int32.ofNat h) (y := x0) (m := (h : Int)) (n := x0.toInt) (p1_n (by omega)) rfl).mpr c2
            have ic3 := mt (p1_lt (x := x1) (y := 0) (m := x1.toInt) (n := 0) rfl (by decide)).mpr c3
            have ic4 := mt (p1_le (x := Int32.ofNat b) (y := x1) (m := (b : Int)) (n := x1.toInt) (p1_n (by omega)) rfl).mpr c4
            obtain ⟨k, hk, ek, -⟩ := p1_of (x := x1) (h := b) (by omega) (by omega)
            rw [p1_stp ek hk (by omega)] at c5
            have c50 := c5
            rw [← p1_stp ek hk (by omega)] at c50
            obtain ⟨H1, e, f⟩ := fx_stop_4 (sL := sL) (sx := sx) (cs := cs) (x0 := x0) (x1 := x1) (p1_c0 P) (p1_c129 P) (p1_c136 P) (p1_c140 P) c1 c2 c3 c4 c50 (within ek hk (by omega))
            refine ⟨H1, ?_, fun j hj => f.2 j⟩
            rw [if_neg (mt (p1_lt (x := x0) (y := 0) (m := x0.toInt) (n := 0) rfl (by decide)).mp (by omega)), if_neg (mt (p1_le (x := Int32.ofNat h) (y := x0) (m := (h : Int)) (n := x0.toInt) (p1_n (by omega)) rfl).mp (by omega)), if_neg (mt (p1_lt (x := x1) (y := 0) (m := x1.toInt) (n := 0) rfl (by decide)).mp (by omega)), if_neg (mt (p1_le (x := Int32.ofNat b) (y := x1) (m := (b : Int)) (n := x1.toInt) (p1_n (by omega)) rfl).mp (by omega)), if_pos c5]
            exact e
          · have ic1 := mt (p1_lt (x := x0) (y := 0) (m := x0.toInt) (n := 0) rfl (by decide)).mpr c1
            have ic2 := mt (p1_le (x := Int32.ofNat h) (y := x0) (m := (h : Int)) (n := x0.toInt) (p1_n (by omega)) rfl).mpr c2
            have ic3 := mt (p1_lt (x := x1) (y := 0) (m := x1.toInt) (n := 0) rfl (by decide)).mpr c3
            have ic4 := mt (p1_le (x := Int32.ofNat b) (y := x1) (m := (b : Int)) (n := x1.toInt) (p1_n (by omega)) rfl).mpr c4
            obtain ⟨k, hk, ek, -⟩ := p1_of (x := x1) (h := b) (by omega) (by omega)
            rw [p1_stp ek hk (by omega)] at c5
            have c50 := c5
            rw [← p1_stp ek hk (by omega)] at c50
            obtain ⟨H1, e, f⟩ := fx_stop_5 (sL := sL) (sx := sx) (cs := cs) (x0 := x0) (x1 := x1) (p1_c0 P) (p1_c129 P) (p1_c136 P) (p1_c140 P) c1 c2 c3 c4 c50 (within ek hk (by omega))
            refine ⟨H1, ?_, fun j hj => f.2 j⟩
            rw [if_neg (mt (p1_lt (x := x0) (y := 0) (m := x0.toInt) (n := 0) rfl (by decide)).mp (by omega)), if_neg (mt (p1_le (x := Int32.ofNat h) (y := x0) (m := (h : Int)) (n := x0.toInt) (p1_n (by omega)) rfl).mp (by omega)), if_neg (mt (p1_lt (x := x1) (y := 0) (m := x1.toInt) (n := 0) rfl (by decide)).mp (by omega)), if_neg (mt (p1_le (x := Int32.ofNat b) (y := x1) (m := (b : Int)) (n := x1.toInt) (p1_n (by omega)) rfl).mp (by omega)), if_neg c5]
            exact e

set_option maxRecDepth 100000 in
theorem pm_feed {sL : Nat} {sx : Nat → Int32} {cs : Nat → Nat → Option Int32} {v3 : Int32} {h b : Nat} {H : am_H} {x0 x1 x2 x3 x4 : Int32} (P : p1_Pm v3 h b H) (dm : p1_D v3 h b) : ∃ H1 : am_H, aX sL sx cs 261 0 [(0, .ref 157), (1, .int x0), (2, .int x1), (3, .int x2), (4, .int x3), (5, .int x4)] [] H 0 0 = some ((some (.int 1)), H1, 0, 0) := by
  obtain ⟨d1, d2, d3, d4⟩ := dm
  obtain ⟨H1, e, f⟩ := fm_feed_0 (sL := sL) (sx := sx) (cs := cs) (x0 := x0) (x1 := x1) (x2 := x2) (x3 := x3) (x4 := x4) (p1_c157 P) (p1_c158 P)
  refine ⟨H1, ?_⟩
  exact e

set_option maxRecDepth 100000 in
theorem pm_end {sL : Nat} {sx : Nat → Int32} {cs : Nat → Nat → Option Int32} {v3 : Int32} {h b : Nat} {H : am_H} {x0 : Int32} (P : p1_Pm v3 h b H) (dm : p1_D v3 h b) : ∃ H1 : am_H, aX sL sx cs 262 0 [(0, .ref 157), (1, .int x0)] [] H 0 0 = some ((some (.int (if x0 < 0 then (0 : Int32) else (if x0 ≤ 0 then (1 : Int32) else 0)))), H1, 0, 0) := by
  obtain ⟨d1, d2, d3, d4⟩ := dm
  by_cases c1 : x0 < 0
  · have ic1 := (p1_lt (x := x0) (y := 0) (m := x0.toInt) (n := 0) rfl (by decide)).mp c1
    obtain ⟨H1, e, f⟩ := fm_end_0 (sL := sL) (sx := sx) (cs := cs) (x0 := x0) (p1_c157 P) c1
    refine ⟨H1, ?_⟩
    rw [if_pos ((p1_lt (x := x0) (y := 0) (m := x0.toInt) (n := 0) rfl (by decide)).mpr (by omega))]
    exact e
  · by_cases c2 : x0 ≤ 0
    · have ic1 := mt (p1_lt (x := x0) (y := 0) (m := x0.toInt) (n := 0) rfl (by decide)).mpr c1
      have ic2 := (p1_le (x := x0) (y := 0) (m := x0.toInt) (n := 0) rfl (by decide)).mp c2
      obtain ⟨H1, e, f⟩ := fm_end_1 (sL := sL) (sx := sx) (cs := cs) (x0 := x0) (p1_c157 P) c1 c2
      refine ⟨H1, ?_⟩
      rw [if_neg (mt (p1_lt (x := x0) (y := 0) (m := x0.toInt) (n := 0) rfl (by decide)).mp (by omega)), if_pos ((p1_le (x := x0) (y := 0) (m := x0.toInt) (n := 0) rfl (by decide)).mpr (by omega))]
      exact e
    · have ic1 := mt (p1_lt (x := x0) (y := 0) (m := x0.toInt) (n := 0) rfl (by decide)).mpr c1
      have ic2 := mt (p1_le (x := x0) (y := 0) (m := x0.toInt) (n := 0) rfl (by decide)).mpr c2
      obtain ⟨H1, e, f⟩ := fm_end_2 (sL := sL) (sx := sx) (cs := cs) (x0 := x0) (p1_c157 P) c1 c2
      refine ⟨H1, ?_⟩
      rw [if_neg (mt (p1_lt (x := x0) (y := 0) (m := x0.toInt) (n := 0) rfl (by decide)).mp (by omega)), if_neg (mt (p1_le (x := x0) (y := 0) (m := x0.toInt) (n := 0) rfl (by decide)).mp (by omega))]
      exact e

set_option maxRecDepth 100000 in
theorem pm_describe {sL : Nat} {sx : Nat → Int32} {cs : Nat → Nat → Option Int32} {v3 : Int32} {h b : Nat} {H : am_H}  (P : p1_Pm v3 h b H) (dm : p1_D v3 h b) : ∃ H1 : am_H, aX sL sx cs 264 0 [(0, .ref 157)] [] H 0 0 = some ((some (.int 0)), H1, 0, 0) := by
  obtain ⟨d1, d2, d3, d4⟩ := dm
  obtain ⟨H1, e, f⟩ := fm_describe_0 (sL := sL) (sx := sx) (cs := cs) (p1_c157 P)
  refine ⟨H1, ?_⟩
  exact e

set_option maxRecDepth 100000 in
theorem pm_fault {sL : Nat} {sx : Nat → Int32} {cs : Nat → Nat → Option Int32} {v3 : Int32} {h b : Nat} {H : am_H} {x0 : Int32} (P : p1_Pm v3 h b H) (dm : p1_D v3 h b) : ∃ H1 : am_H, aX sL sx cs 292 0 [(0, .ref 157), (1, .int x0)] [] H 0 0 = some ((some (.int (if x0 = 0 then (0 : Int32) else (-1)))), H1, 0, 0) := by
  obtain ⟨d1, d2, d3, d4⟩ := dm
  by_cases c1 : x0 = 0
  · have ic1 := (p1_eq (x := x0) (y := 0) (m := x0.toInt) (n := 0) rfl (by decide)).mp c1
    obtain ⟨H1, e, f⟩ := fm_fault_0 (sL := sL) (sx := sx) (cs := cs) (x0 := x0) (p1_c157 P) c1
    refine ⟨H1, ?_⟩
    rw [if_pos ((p1_eq (x := x0) (y := 0) (m := x0.toInt) (n := 0) rfl (by decide)).mpr (by omega))]
    exact e
  · by_cases c2 : x0 = 1
    · have ic1 := mt (p1_eq (x := x0) (y := 0) (m := x0.toInt) (n := 0) rfl (by decide)).mpr c1
      have ic2 := (p1_eq (x := x0) (y := 1) (m := x0.toInt) (n := 1) rfl (by decide)).mp c2
      obtain ⟨H1, e, f⟩ := fm_fault_1 (sL := sL) (sx := sx) (cs := cs) (x0 := x0) (p1_c157 P) c1 c2
      refine ⟨H1, ?_⟩
      rw [if_neg (mt (p1_eq (x := x0) (y := 0) (m := x0.toInt) (n := 0) rfl (by decide)).mp (by omega))]
      exact e
    · have ic1 := mt (p1_eq (x := x0) (y := 0) (m := x0.toInt) (n := 0) rfl (by decide)).mpr c1
      have ic2 := mt (p1_eq (x := x0) (y := 1) (m := x0.toInt) (n := 1) rfl (by decide)).mpr c2
      obtain ⟨H1, e, f⟩ := fm_fault_2 (sL := sL) (sx := sx) (cs := cs) (x0 := x0) (p1_c157 P) c1 c2
      refine ⟨H1, ?_⟩
      rw [if_neg (mt (p1_eq (x := x0) (y := 0) (m := x0.toInt) (n := 0) rfl (by decide)).mp (by omega))]
      exact e

set_option maxRecDepth 100000 in
theorem pm_use {sL : Nat} {sx : Nat → Int32} {cs : Nat → Nat → Option Int32} {v3 : Int32} {h b : Nat} {H : am_H}  (P : p1_Pm v3 h b H) (dm : p1_D v3 h b) : ∃ H1 : am_H, aX sL sx cs 293 0 [(0, .ref 157)] [] H 0 0 = some ((some (.int (-1))), H1, 0, 0) := by
  obtain ⟨d1, d2, d3, d4⟩ := dm
  obtain ⟨H1, e, f⟩ := fm_use_0 (sL := sL) (sx := sx) (cs := cs) (p1_c157 P)
  refine ⟨H1, ?_⟩
  exact e

set_option maxRecDepth 100000 in
theorem pm_empty {sL : Nat} {sx : Nat → Int32} {cs : Nat → Nat → Option Int32} {v3 : Int32} {h b : Nat} {H : am_H}  (P : p1_Pm v3 h b H) (dm : p1_D v3 h b) : ∃ H1 : am_H, aX sL sx cs 294 0 [(0, .ref 157)] [] H 0 0 = some (none, H1, 0, 0) := by
  obtain ⟨d1, d2, d3, d4⟩ := dm
  obtain ⟨H1, e, f⟩ := fm_empty_0 (sL := sL) (sx := sx) (cs := cs) (p1_c157 P) (p1_c172 P)
  refine ⟨H1, ?_⟩
  exact e

set_option maxRecDepth 100000 in
theorem pm_ability {sL : Nat} {sx : Nat → Int32} {cs : Nat → Nat → Option Int32} {v3 : Int32} {h b : Nat} {H : am_H}  (P : p1_Pm v3 h b H) (dm : p1_D v3 h b) : ∃ H1 : am_H, aX sL sx cs 295 0 [(0, .ref 157)] [] H 0 0 = some ((some (.int (-1))), H1, 0, 0) := by
  obtain ⟨d1, d2, d3, d4⟩ := dm
  obtain ⟨H1, e, f⟩ := fm_ability_0 (sL := sL) (sx := sx) (cs := cs) (p1_c157 P)
  refine ⟨H1, ?_⟩
  exact e

set_option maxRecDepth 100000 in
theorem pm_expand {sL : Nat} {sx : Nat → Int32} {cs : Nat → Nat → Option Int32} {v3 : Int32} {h b : Nat} {H : am_H} {x0 x1 x2 x3 : Int32} (P : p1_Pm v3 h b H) (dm : p1_D v3 h b) : ∃ H1 : am_H, aX sL sx cs 298 0 [(0, .ref 157), (1, .int x0), (2, .int x1), (3, .int x2), (4, .int x3)] [] H 0 0 = some ((some (.int (-1))), H1, 0, 0) := by
  obtain ⟨d1, d2, d3, d4⟩ := dm
  obtain ⟨H1, e, f⟩ := fm_expand_0 (sL := sL) (sx := sx) (cs := cs) (x0 := x0) (x1 := x1) (x2 := x2) (x3 := x3) (p1_c157 P)
  refine ⟨H1, ?_⟩
  exact e

set_option maxRecDepth 100000 in
theorem pm_open {sL : Nat} {sx : Nat → Int32} {cs : Nat → Nat → Option Int32} {v3 : Int32} {h b : Nat} {H : am_H} {x0 x1 x2 x3 : Int32} (P : p1_Pm v3 h b H) (dm : p1_D v3 h b) : ∃ H1 : am_H, aX sL sx cs 306 0 [(0, .ref 157), (1, .int x0), (2, .int x1), (3, .int x2), (4, .int x3)] [] H 0 0 = some ((some (.int (-1))), H1, 0, 0) := by
  obtain ⟨d1, d2, d3, d4⟩ := dm
  obtain ⟨H1, e, f⟩ := fm_open_0 (sL := sL) (sx := sx) (cs := cs) (x0 := x0) (x1 := x1) (x2 := x2) (x3 := x3) (p1_c157 P) (p1_c172 P)
  refine ⟨H1, ?_⟩
  exact e

set_option maxRecDepth 100000 in
theorem pm_close {sL : Nat} {sx : Nat → Int32} {cs : Nat → Nat → Option Int32} {v3 : Int32} {h b : Nat} {H : am_H} {x0 : Int32} (P : p1_Pm v3 h b H) (dm : p1_D v3 h b) : ∃ H1 : am_H, aX sL sx cs 307 0 [(0, .ref 157), (1, .int x0)] [] H 0 0 = some ((some (.int 0)), H1, 0, 0) := by
  obtain ⟨d1, d2, d3, d4⟩ := dm
  by_cases c1 : x0 < 0
  · obtain ⟨H1, e, f⟩ := fm_close_0 (sL := sL) (sx := sx) (cs := cs) (x0 := x0) (p1_c157 P) (p1_c172 P) c1
    refine ⟨H1, ?_⟩
    exact e
  · by_cases c2 : 8 ≤ x0
    · obtain ⟨H1, e, f⟩ := fm_close_1 (sL := sL) (sx := sx) (cs := cs) (x0 := x0) (p1_c157 P) (p1_c172 P) c1 c2
      refine ⟨H1, ?_⟩
      exact e
    · have ic1 := mt (p1_lt (x := x0) (y := 0) (m := x0.toInt) (n := 0) rfl (by decide)).mpr c1
      have ic2 := mt (p1_le (x := 8) (y := x0) (m := 8) (n := x0.toInt) (by decide) rfl).mpr c2
      obtain ⟨ks1, hks1, eks1, -⟩ := p1_of (x := x0) (h := 8) (by omega) (by omega)
      obtain ⟨H1, e, f⟩ := fm_close_2 (sL := sL) (sx := sx) (cs := cs) (x0 := x0) (p1_c157 P) (p1_c172 P) c1 c2 (within eks1 hks1 (by omega))
      refine ⟨H1, ?_⟩
      exact e

set_option maxRecDepth 100000 in
theorem pm_at {sL : Nat} {sx : Nat → Int32} {cs : Nat → Nat → Option Int32} {v3 : Int32} {h b : Nat} {H : am_H} {x0 x1 x2 : Int32} (P : p1_Pm v3 h b H) (dm : p1_D v3 h b) : ∃ H1 : am_H, aX sL sx cs 309 0 [(0, .ref 157), (1, .int x0), (2, .int x1), (3, .int x2)] [] H 0 0 = some ((some (.int 0)), H1, 0, 0) := by
  obtain ⟨d1, d2, d3, d4⟩ := dm
  by_cases c1 : x0 < 0
  · obtain ⟨H1, e, f⟩ := fm_at_0 (sL := sL) (sx := sx) (cs := cs) (x0 := x0) (x1 := x1) (x2 := x2) (p1_c157 P) (p1_c172 P) c1
    refine ⟨H1, ?_⟩
    exact e
  · by_cases c2 : 8 ≤ x0
    · obtain ⟨H1, e, f⟩ := fm_at_1 (sL := sL) (sx := sx) (cs := cs) (x0 := x0) (x1 := x1) (x2 := x2) (p1_c157 P) (p1_c172 P) c1 c2
      refine ⟨H1, ?_⟩
      exact e
    · have ic1 := mt (p1_lt (x := x0) (y := 0) (m := x0.toInt) (n := 0) rfl (by decide)).mpr c1
      have ic2 := mt (p1_le (x := 8) (y := x0) (m := 8) (n := x0.toInt) (by decide) rfl).mpr c2
      obtain ⟨ks1, hks1, eks1, -⟩ := p1_of (x := x0) (h := 8) (by omega) (by omega)
      obtain ⟨H1, e, f⟩ := fm_at_2 (sL := sL) (sx := sx) (cs := cs) (x0 := x0) (x1 := x1) (x2 := x2) (p1_c157 P) (p1_c172 P) c1 c2 (within eks1 hks1 (by omega))
      refine ⟨H1, ?_⟩
      exact e

set_option maxRecDepth 100000 in
theorem pm_dress {sL : Nat} {sx : Nat → Int32} {cs : Nat → Nat → Option Int32} {v3 : Int32} {h b : Nat} {H : am_H} {x0 x1 : Int32} (P : p1_Pm v3 h b H) (dm : p1_D v3 h b) : ∃ H1 : am_H, aX sL sx cs 310 0 [(0, .ref 157), (1, .int x0), (2, .int x1)] [] H 0 0 = some ((some (.int 0)), H1, 0, 0) := by
  obtain ⟨d1, d2, d3, d4⟩ := dm
  by_cases c1 : x0 < 0
  · obtain ⟨H1, e, f⟩ := fm_dress_0 (sL := sL) (sx := sx) (cs := cs) (x0 := x0) (x1 := x1) (p1_c157 P) (p1_c172 P) c1
    refine ⟨H1, ?_⟩
    exact e
  · by_cases c2 : 8 ≤ x0
    · obtain ⟨H1, e, f⟩ := fm_dress_1 (sL := sL) (sx := sx) (cs := cs) (x0 := x0) (x1 := x1) (p1_c157 P) (p1_c172 P) c1 c2
      refine ⟨H1, ?_⟩
      exact e
    · have ic1 := mt (p1_lt (x := x0) (y := 0) (m := x0.toInt) (n := 0) rfl (by decide)).mpr c1
      have ic2 := mt (p1_le (x := 8) (y := x0) (m := 8) (n := x0.toInt) (by decide) rfl).mpr c2
      obtain ⟨ks1, hks1, eks1, -⟩ := p1_of (x := x0) (h := 8) (by omega) (by omega)
      obtain ⟨H1, e, f⟩ := fm_dress_2 (sL := sL) (sx := sx) (cs := cs) (x0 := x0) (x1 := x1) (p1_c157 P) (p1_c172 P) c1 c2 (within eks1 hks1 (by omega))
      refine ⟨H1, ?_⟩
      exact e

set_option maxRecDepth 100000 in
theorem pm_scrolls {sL : Nat} {sx : Nat → Int32} {cs : Nat → Nat → Option Int32} {v3 : Int32} {h b : Nat} {H : am_H} {x0 x1 : Int32} (P : p1_Pm v3 h b H) (dm : p1_D v3 h b) : ∃ H1 : am_H, aX sL sx cs 311 0 [(0, .ref 157), (1, .int x0), (2, .int x1)] [] H 0 0 = some ((some (.int 0)), H1, 0, 0) := by
  obtain ⟨d1, d2, d3, d4⟩ := dm
  by_cases c1 : x0 < 0
  · obtain ⟨H1, e, f⟩ := fm_scrolls_0 (sL := sL) (sx := sx) (cs := cs) (x0 := x0) (x1 := x1) (p1_c157 P) (p1_c172 P) c1
    refine ⟨H1, ?_⟩
    exact e
  · by_cases c2 : 8 ≤ x0
    · obtain ⟨H1, e, f⟩ := fm_scrolls_1 (sL := sL) (sx := sx) (cs := cs) (x0 := x0) (x1 := x1) (p1_c157 P) (p1_c172 P) c1 c2
      refine ⟨H1, ?_⟩
      exact e
    · have ic1 := mt (p1_lt (x := x0) (y := 0) (m := x0.toInt) (n := 0) rfl (by decide)).mpr c1
      have ic2 := mt (p1_le (x := 8) (y := x0) (m := 8) (n := x0.toInt) (by decide) rfl).mpr c2
      obtain ⟨ks1, hks1, eks1, -⟩ := p1_of (x := x0) (h := 8) (by omega) (by omega)
      obtain ⟨H1, e, f⟩ := fm_scrolls_2 (sL := sL) (sx := sx) (cs := cs) (x0 := x0) (x1 := x1) (p1_c157 P) (p1_c172 P) c1 c2 (within eks1 hks1 (by omega))
      refine ⟨H1, ?_⟩
      exact e

set_option maxRecDepth 100000 in
theorem pm_say {sL : Nat} {sx : Nat → Int32} {cs : Nat → Nat → Option Int32} {v3 : Int32} {h b : Nat} {H : am_H} {x0 : Int32} (P : p1_Pm v3 h b H) (dm : p1_D v3 h b) : ∃ H1 : am_H, aX sL sx cs 312 0 [(0, .ref 157), (1, .int x0)] [] H 0 0 = some ((some (.int (-1))), H1, 0, 0) := by
  obtain ⟨d1, d2, d3, d4⟩ := dm
  by_cases c1 : x0 < 0
  · obtain ⟨H1, e, f⟩ := fm_say_0 (sL := sL) (sx := sx) (cs := cs) (x0 := x0) (p1_c157 P) (p1_c172 P) c1
    refine ⟨H1, ?_⟩
    exact e
  · by_cases c2 : 8 ≤ x0
    · obtain ⟨H1, e, f⟩ := fm_say_1 (sL := sL) (sx := sx) (cs := cs) (x0 := x0) (p1_c157 P) (p1_c172 P) c1 c2
      refine ⟨H1, ?_⟩
      exact e
    · have ic1 := mt (p1_lt (x := x0) (y := 0) (m := x0.toInt) (n := 0) rfl (by decide)).mpr c1
      have ic2 := mt (p1_le (x := 8) (y := x0) (m := 8) (n := x0.toInt) (by decide) rfl).mpr c2
      obtain ⟨ks1, hks1, eks1, -⟩ := p1_of (x := x0) (h := 8) (by omega) (by omega)
      obtain ⟨H1, e, f⟩ := fm_say_2 (sL := sL) (sx := sx) (cs := cs) (x0 := x0) (p1_c157 P) (p1_c172 P) c1 c2 (within eks1 hks1 (by omega))
      refine ⟨H1, ?_⟩
      exact e

set_option maxRecDepth 100000 in
theorem pm_erase {sL : Nat} {sx : Nat → Int32} {cs : Nat → Nat → Option Int32} {v3 : Int32} {h b : Nat} {H : am_H} {x0 x1 : Int32} (P : p1_Pm v3 h b H) (dm : p1_D v3 h b) : ∃ H1 : am_H, aX sL sx cs 318 0 [(0, .ref 157), (1, .int x0), (2, .int x1)] [] H 0 0 = some ((some (.int 0)), H1, 0, 0) := by
  obtain ⟨d1, d2, d3, d4⟩ := dm
  by_cases c1 : x0 < 0
  · obtain ⟨H1, e, f⟩ := fm_erase_0 (sL := sL) (sx := sx) (cs := cs) (x0 := x0) (x1 := x1) (p1_c157 P) (p1_c172 P) c1
    refine ⟨H1, ?_⟩
    exact e
  · by_cases c2 : 8 ≤ x0
    · obtain ⟨H1, e, f⟩ := fm_erase_1 (sL := sL) (sx := sx) (cs := cs) (x0 := x0) (x1 := x1) (p1_c157 P) (p1_c172 P) c1 c2
      refine ⟨H1, ?_⟩
      exact e
    · have ic1 := mt (p1_lt (x := x0) (y := 0) (m := x0.toInt) (n := 0) rfl (by decide)).mpr c1
      have ic2 := mt (p1_le (x := 8) (y := x0) (m := 8) (n := x0.toInt) (by decide) rfl).mpr c2
      obtain ⟨ks1, hks1, eks1, -⟩ := p1_of (x := x0) (h := 8) (by omega) (by omega)
      obtain ⟨H1, e, f⟩ := fm_erase_2 (sL := sL) (sx := sx) (cs := cs) (x0 := x0) (x1 := x1) (p1_c157 P) (p1_c172 P) c1 c2 (within eks1 hks1 (by omega))
      refine ⟨H1, ?_⟩
      exact e

set_option maxRecDepth 100000 in
theorem pm_rows {sL : Nat} {sx : Nat → Int32} {cs : Nat → Nat → Option Int32} {v3 : Int32} {h b : Nat} {H : am_H} {x0 x1 : Int32} (P : p1_Pm v3 h b H) (dm : p1_D v3 h b) : ∃ H1 : am_H, aX sL sx cs 319 0 [(0, .ref 157), (1, .int x0), (2, .int x1)] [] H 0 0 = some ((some (.int 0)), H1, 0, 0) := by
  obtain ⟨d1, d2, d3, d4⟩ := dm
  by_cases c1 : x0 < 0
  · obtain ⟨H1, e, f⟩ := fm_rows_0 (sL := sL) (sx := sx) (cs := cs) (x0 := x0) (x1 := x1) (p1_c157 P) (p1_c172 P) c1
    refine ⟨H1, ?_⟩
    exact e
  · by_cases c2 : 8 ≤ x0
    · obtain ⟨H1, e, f⟩ := fm_rows_1 (sL := sL) (sx := sx) (cs := cs) (x0 := x0) (x1 := x1) (p1_c157 P) (p1_c172 P) c1 c2
      refine ⟨H1, ?_⟩
      exact e
    · have ic1 := mt (p1_lt (x := x0) (y := 0) (m := x0.toInt) (n := 0) rfl (by decide)).mpr c1
      have ic2 := mt (p1_le (x := 8) (y := x0) (m := 8) (n := x0.toInt) (by decide) rfl).mpr c2
      obtain ⟨ks1, hks1, eks1, -⟩ := p1_of (x := x0) (h := 8) (by omega) (by omega)
      obtain ⟨H1, e, f⟩ := fm_rows_2 (sL := sL) (sx := sx) (cs := cs) (x0 := x0) (x1 := x1) (p1_c157 P) (p1_c172 P) c1 c2 (within eks1 hks1 (by omega))
      refine ⟨H1, ?_⟩
      exact e

set_option maxRecDepth 100000 in
theorem pm_cells {sL : Nat} {sx : Nat → Int32} {cs : Nat → Nat → Option Int32} {v3 : Int32} {h b : Nat} {H : am_H} {x0 x1 : Int32} (P : p1_Pm v3 h b H) (dm : p1_D v3 h b) : ∃ H1 : am_H, aX sL sx cs 321 0 [(0, .ref 157), (1, .int x0), (2, .int x1)] [] H 0 0 = some ((some (.int 0)), H1, 0, 0) := by
  obtain ⟨d1, d2, d3, d4⟩ := dm
  by_cases c1 : x0 < 0
  · obtain ⟨H1, e, f⟩ := fm_cells_0 (sL := sL) (sx := sx) (cs := cs) (x0 := x0) (x1 := x1) (p1_c157 P) (p1_c172 P) c1
    refine ⟨H1, ?_⟩
    exact e
  · by_cases c2 : 8 ≤ x0
    · obtain ⟨H1, e, f⟩ := fm_cells_1 (sL := sL) (sx := sx) (cs := cs) (x0 := x0) (x1 := x1) (p1_c157 P) (p1_c172 P) c1 c2
      refine ⟨H1, ?_⟩
      exact e
    · have ic1 := mt (p1_lt (x := x0) (y := 0) (m := x0.toInt) (n := 0) rfl (by decide)).mpr c1
      have ic2 := mt (p1_le (x := 8) (y := x0) (m := 8) (n := x0.toInt) (by decide) rfl).mpr c2
      obtain ⟨ks1, hks1, eks1, -⟩ := p1_of (x := x0) (h := 8) (by omega) (by omega)
      obtain ⟨H1, e, f⟩ := fm_cells_2 (sL := sL) (sx := sx) (cs := cs) (x0 := x0) (x1 := x1) (p1_c157 P) (p1_c172 P) c1 c2 (within eks1 hks1 (by omega))
      refine ⟨H1, ?_⟩
      exact e

set_option maxRecDepth 100000 in
theorem pm_roll {sL : Nat} {sx : Nat → Int32} {cs : Nat → Nat → Option Int32} {v3 : Int32} {h b : Nat} {H : am_H} {x0 x1 : Int32} (P : p1_Pm v3 h b H) (dm : p1_D v3 h b) : ∃ H1 : am_H, aX sL sx cs 322 0 [(0, .ref 157), (1, .int x0), (2, .int x1)] [] H 0 0 = some ((some (.int 0)), H1, 0, 0) := by
  obtain ⟨d1, d2, d3, d4⟩ := dm
  by_cases c1 : x0 < 0
  · obtain ⟨H1, e, f⟩ := fm_roll_0 (sL := sL) (sx := sx) (cs := cs) (x0 := x0) (x1 := x1) (p1_c157 P) (p1_c172 P) c1
    refine ⟨H1, ?_⟩
    exact e
  · by_cases c2 : 8 ≤ x0
    · obtain ⟨H1, e, f⟩ := fm_roll_1 (sL := sL) (sx := sx) (cs := cs) (x0 := x0) (x1 := x1) (p1_c157 P) (p1_c172 P) c1 c2
      refine ⟨H1, ?_⟩
      exact e
    · have ic1 := mt (p1_lt (x := x0) (y := 0) (m := x0.toInt) (n := 0) rfl (by decide)).mpr c1
      have ic2 := mt (p1_le (x := 8) (y := x0) (m := 8) (n := x0.toInt) (by decide) rfl).mpr c2
      obtain ⟨ks1, hks1, eks1, -⟩ := p1_of (x := x0) (h := 8) (by omega) (by omega)
      obtain ⟨H1, e, f⟩ := fm_roll_2 (sL := sL) (sx := sx) (cs := cs) (x0 := x0) (x1 := x1) (p1_c157 P) (p1_c172 P) c1 c2 (within eks1 hks1 (by omega))
      refine ⟨H1, ?_⟩
      exact e

set_option maxRecDepth 100000 in
theorem pm_box {sL : Nat} {sx : Nat → Int32} {cs : Nat → Nat → Option Int32} {v3 : Int32} {h b : Nat} {H : am_H} {x0 : Int32} (P : p1_Pm v3 h b H) (dm : p1_D v3 h b) : ∃ H1 : am_H, aX sL sx cs 323 0 [(0, .ref 157), (1, .int x0)] [] H 0 0 = some ((some (.int 0)), H1, 0, 0) := by
  obtain ⟨d1, d2, d3, d4⟩ := dm
  by_cases c1 : x0 < 0
  · obtain ⟨H1, e, f⟩ := fm_box_0 (sL := sL) (sx := sx) (cs := cs) (x0 := x0) (p1_c157 P) (p1_c172 P) c1
    refine ⟨H1, ?_⟩
    exact e
  · by_cases c2 : 8 ≤ x0
    · obtain ⟨H1, e, f⟩ := fm_box_1 (sL := sL) (sx := sx) (cs := cs) (x0 := x0) (p1_c157 P) (p1_c172 P) c1 c2
      refine ⟨H1, ?_⟩
      exact e
    · have ic1 := mt (p1_lt (x := x0) (y := 0) (m := x0.toInt) (n := 0) rfl (by decide)).mpr c1
      have ic2 := mt (p1_le (x := 8) (y := x0) (m := 8) (n := x0.toInt) (by decide) rfl).mpr c2
      obtain ⟨ks1, hks1, eks1, -⟩ := p1_of (x := x0) (h := 8) (by omega) (by omega)
      obtain ⟨H1, e, f⟩ := fm_box_2 (sL := sL) (sx := sx) (cs := cs) (x0 := x0) (p1_c157 P) (p1_c172 P) c1 c2 (within eks1 hks1 (by omega))
      refine ⟨H1, ?_⟩
      exact e

set_option maxRecDepth 100000 in
theorem pm_look {sL : Nat} {sx : Nat → Int32} {cs : Nat → Nat → Option Int32} {v3 : Int32} {h b : Nat} {H : am_H} {x0 x1 x2 : Int32} (P : p1_Pm v3 h b H) (dm : p1_D v3 h b) : ∃ H1 : am_H, aX sL sx cs 324 0 [(0, .ref 157), (1, .int x0), (2, .int x1), (3, .int x2)] [] H 0 0 = some ((some (.int (-1))), H1, 0, 0) := by
  obtain ⟨d1, d2, d3, d4⟩ := dm
  by_cases c1 : x0 < 0
  · obtain ⟨H1, e, f⟩ := fm_look_0 (sL := sL) (sx := sx) (cs := cs) (x0 := x0) (x1 := x1) (x2 := x2) (p1_c157 P) (p1_c172 P) c1
    refine ⟨H1, ?_⟩
    exact e
  · by_cases c2 : 8 ≤ x0
    · obtain ⟨H1, e, f⟩ := fm_look_1 (sL := sL) (sx := sx) (cs := cs) (x0 := x0) (x1 := x1) (x2 := x2) (p1_c157 P) (p1_c172 P) c1 c2
      refine ⟨H1, ?_⟩
      exact e
    · have ic1 := mt (p1_lt (x := x0) (y := 0) (m := x0.toInt) (n := 0) rfl (by decide)).mpr c1
      have ic2 := mt (p1_le (x := 8) (y := x0) (m := 8) (n := x0.toInt) (by decide) rfl).mpr c2
      obtain ⟨ks1, hks1, eks1, -⟩ := p1_of (x := x0) (h := 8) (by omega) (by omega)
      obtain ⟨H1, e, f⟩ := fm_look_2 (sL := sL) (sx := sx) (cs := cs) (x0 := x0) (x1 := x1) (x2 := x2) (p1_c157 P) (p1_c172 P) c1 c2 (within eks1 hks1 (by omega))
      refine ⟨H1, ?_⟩
      exact e

set_option maxRecDepth 100000 in
theorem pm_where {sL : Nat} {sx : Nat → Int32} {cs : Nat → Nat → Option Int32} {v3 : Int32} {h b : Nat} {H : am_H} {x0 x1 : Int32} (P : p1_Pm v3 h b H) (dm : p1_D v3 h b) : ∃ H1 : am_H, aX sL sx cs 325 0 [(0, .ref 157), (1, .int x0), (2, .int x1)] [] H 0 0 = some ((some (.int (-1))), H1, 0, 0) := by
  obtain ⟨d1, d2, d3, d4⟩ := dm
  by_cases c1 : x0 < 0
  · obtain ⟨H1, e, f⟩ := fm_where_0 (sL := sL) (sx := sx) (cs := cs) (x0 := x0) (x1 := x1) (p1_c157 P) (p1_c172 P) c1
    refine ⟨H1, ?_⟩
    exact e
  · by_cases c2 : 8 ≤ x0
    · obtain ⟨H1, e, f⟩ := fm_where_1 (sL := sL) (sx := sx) (cs := cs) (x0 := x0) (x1 := x1) (p1_c157 P) (p1_c172 P) c1 c2
      refine ⟨H1, ?_⟩
      exact e
    · have ic1 := mt (p1_lt (x := x0) (y := 0) (m := x0.toInt) (n := 0) rfl (by decide)).mpr c1
      have ic2 := mt (p1_le (x := 8) (y := x0) (m := 8) (n := x0.toInt) (by decide) rfl).mpr c2
      obtain ⟨ks1, hks1, eks1, -⟩ := p1_of (x := x0) (h := 8) (by omega) (by omega)
      obtain ⟨H1, e, f⟩ := fm_where_2 (sL := sL) (sx := sx) (cs := cs) (x0 := x0) (x1 := x1) (p1_c157 P) (p1_c172 P) c1 c2 (within eks1 hks1 (by omega))
      refine ⟨H1, ?_⟩
      exact e

set_option maxRecDepth 100000 in
theorem pm_show {sL : Nat} {sx : Nat → Int32} {cs : Nat → Nat → Option Int32} {v3 : Int32} {h b : Nat} {H : am_H} {x0 : Int32} (P : p1_Pm v3 h b H) (dm : p1_D v3 h b) : ∃ H1 : am_H, aX sL sx cs 326 0 [(0, .ref 157), (1, .int x0)] [] H 0 0 = some ((some (.int (-1))), H1, 0, 0) := by
  obtain ⟨d1, d2, d3, d4⟩ := dm
  by_cases c1 : x0 < 0
  · obtain ⟨H1, e, f⟩ := fm_show_0 (sL := sL) (sx := sx) (cs := cs) (x0 := x0) (p1_c157 P) (p1_c172 P) c1
    refine ⟨H1, ?_⟩
    exact e
  · by_cases c2 : 8 ≤ x0
    · obtain ⟨H1, e, f⟩ := fm_show_1 (sL := sL) (sx := sx) (cs := cs) (x0 := x0) (p1_c157 P) (p1_c172 P) c1 c2
      refine ⟨H1, ?_⟩
      exact e
    · have ic1 := mt (p1_lt (x := x0) (y := 0) (m := x0.toInt) (n := 0) rfl (by decide)).mpr c1
      have ic2 := mt (p1_le (x := 8) (y := x0) (m := 8) (n := x0.toInt) (by decide) rfl).mpr c2
      obtain ⟨ks1, hks1, eks1, -⟩ := p1_of (x := x0) (h := 8) (by omega) (by omega)
      obtain ⟨H1, e, f⟩ := fm_show_2 (sL := sL) (sx := sx) (cs := cs) (x0 := x0) (p1_c157 P) (p1_c172 P) c1 c2 (within eks1 hks1 (by omega))
      refine ⟨H1, ?_⟩
      exact e

set_option maxRecDepth 100000 in
theorem pm_update {sL : Nat} {sx : Nat → Int32} {cs : Nat → Nat → Option Int32} {v3 : Int32} {h b : Nat} {H : am_H}  (P : p1_Pm v3 h b H) (dm : p1_D v3 h b) : ∃ H1 : am_H, aX sL sx cs 331 0 [(0, .ref 157)] [] H 0 0 = some ((some (.int (-1))), H1, 0, 0) := by
  obtain ⟨d1, d2, d3, d4⟩ := dm
  obtain ⟨H1, e, f⟩ := fm_update_0 (sL := sL) (sx := sx) (cs := cs) (p1_c157 P)
  refine ⟨H1, ?_⟩
  exact e

set_option maxRecDepth 100000 in
theorem pm_redraw {sL : Nat} {sx : Nat → Int32} {cs : Nat → Nat → Option Int32} {v3 : Int32} {h b : Nat} {H : am_H}  (P : p1_Pm v3 h b H) (dm : p1_D v3 h b) : ∃ H1 : am_H, aX sL sx cs 327 0 [(0, .ref 157)] [] H 0 0 = some ((some (.int 0)), H1, 0, 0) := by
  obtain ⟨d1, d2, d3, d4⟩ := dm
  obtain ⟨H1, e, f⟩ := fm_redraw_0 (sL := sL) (sx := sx) (cs := cs) (p1_c157 P)
  refine ⟨H1, ?_⟩
  exact e

set_option maxRecDepth 100000 in
theorem pm_known {sL : Nat} {sx : Nat → Int32} {cs : Nat → Nat → Option Int32} {v3 : Int32} {h b : Nat} {H : am_H} {x0 x1 : Int32} (P : p1_Pm v3 h b H) (dm : p1_D v3 h b) : ∃ H1 : am_H, aX sL sx cs 328 0 [(0, .ref 157), (1, .int x0), (2, .int x1)] [] H 0 0 = some ((some (.int (-1))), H1, 0, 0) := by
  obtain ⟨d1, d2, d3, d4⟩ := dm
  obtain ⟨H1, e, f⟩ := fm_known_0 (sL := sL) (sx := sx) (cs := cs) (x0 := x0) (x1 := x1) (p1_c157 P)
  refine ⟨H1, ?_⟩
  exact e

set_option maxRecDepth 100000 in
theorem pm_wanted {sL : Nat} {sx : Nat → Int32} {cs : Nat → Nat → Option Int32} {v3 : Int32} {h b : Nat} {H : am_H} {x0 x1 : Int32} (P : p1_Pm v3 h b H) (dm : p1_D v3 h b) : ∃ H1 : am_H, aX sL sx cs 330 0 [(0, .ref 157), (1, .int x0), (2, .int x1)] [] H 0 0 = some ((some (.int (-1))), H1, 0, 0) := by
  obtain ⟨d1, d2, d3, d4⟩ := dm
  obtain ⟨H1, e, f⟩ := fm_wanted_0 (sL := sL) (sx := sx) (cs := cs) (x0 := x0) (x1 := x1) (p1_c157 P)
  refine ⟨H1, ?_⟩
  exact e

set_option maxRecDepth 100000 in
theorem pm_flags {sL : Nat} {sx : Nat → Int32} {cs : Nat → Nat → Option Int32} {v3 : Int32} {h b : Nat} {H : am_H} {x0 : Int32} (P : p1_Pm v3 h b H) (dm : p1_D v3 h b) : ∃ H1 : am_H, aX sL sx cs 353 0 [(0, .ref 157), (1, .int x0)] [] H 0 0 = some ((some (.int 127)), H1, 0, 0) := by
  obtain ⟨d1, d2, d3, d4⟩ := dm
  by_cases c1 : (x0 &&& 1) = 0
  · obtain ⟨H1, e, f⟩ := fm_flags_0 (sL := sL) (sx := sx) (cs := cs) (x0 := x0) (p1_c157 P) c1
    refine ⟨H1, ?_⟩
    exact e
  · obtain ⟨H1, e, f⟩ := fm_flags_1 (sL := sL) (sx := sx) (cs := cs) (x0 := x0) (p1_c157 P) c1
    refine ⟨H1, ?_⟩
    exact e

set_option maxRecDepth 100000 in
theorem pm_write {sL : Nat} {sx : Nat → Int32} {cs : Nat → Nat → Option Int32} {v3 : Int32} {h b : Nat} {H : am_H}  (P : p1_Pm v3 h b H) (dm : p1_D v3 h b) : ∃ H1 : am_H, aX sL sx cs 355 0 [(0, .ref 157)] [] H 0 0 = some ((some (.int 0)), H1, 0, 0) := by
  obtain ⟨d1, d2, d3, d4⟩ := dm
  obtain ⟨H1, e, f⟩ := fm_write_0 (sL := sL) (sx := sx) (cs := cs) (p1_c157 P)
  refine ⟨H1, ?_⟩
  exact e

set_option maxRecDepth 100000 in
theorem pm_read {sL : Nat} {sx : Nat → Int32} {cs : Nat → Nat → Option Int32} {v3 : Int32} {h b : Nat} {H : am_H} {x0 : Int32} (P : p1_Pm v3 h b H) (dm : p1_D v3 h b) : ∃ H1 : am_H, aX sL sx cs 359 0 [(0, .ref 157), (1, .int x0)] [] H 0 0 = some ((some (.int (-1))), H1, 0, 0) := by
  obtain ⟨d1, d2, d3, d4⟩ := dm
  by_cases c1 : x0 < 1
  · obtain ⟨H1, e, f⟩ := fm_read_0 (sL := sL) (sx := sx) (cs := cs) (x0 := x0) (p1_c157 P) c1
    refine ⟨H1, ?_⟩
    exact e
  · by_cases c2 : 300 < x0
    · obtain ⟨H1, e, f⟩ := fm_read_1 (sL := sL) (sx := sx) (cs := cs) (x0 := x0) (p1_c157 P) c1 c2
      refine ⟨H1, ?_⟩
      exact e
    · obtain ⟨H1, e, f⟩ := fm_read_2 (sL := sL) (sx := sx) (cs := cs) (x0 := x0) (p1_c157 P) c1 c2
      refine ⟨H1, ?_⟩
      exact e

set_option maxRecDepth 100000 in
theorem pm_key {sL : Nat} {sx : Nat → Int32} {cs : Nat → Nat → Option Int32} {v3 : Int32} {h b : Nat} {H : am_H} {x0 x1 : Int32} (P : p1_Pm v3 h b H) (dm : p1_D v3 h b) : ∃ H1 : am_H, aX sL sx cs 411 0 [(0, .ref 157), (1, .int x0), (2, .int x1)] [] H 0 0 = some ((some (.int (if x0 < 0 then (0 : Int32) else (if 127 ≤ x0 then (0 : Int32) else (if x0 ≤ 28 then (1 : Int32) else (if 32 ≤ x0 then (1 : Int32) else 0)))))), H1, 0, 0) := by
  obtain ⟨d1, d2, d3, d4⟩ := dm
  by_cases c1 : x0 < 0
  · by_cases c2 : x0 < 32
    · have ic1 := (p1_lt (x := x0) (y := 0) (m := x0.toInt) (n := 0) rfl (by decide)).mp c1
      have ic2 := (p1_lt (x := x0) (y := 32) (m := x0.toInt) (n := 32) rfl (by decide)).mp c2
      obtain ⟨H1, e, f⟩ := fm_key_0 (sL := sL) (sx := sx) (cs := cs) (x0 := x0) (x1 := x1) (p1_c157 P) (p1_c194 P) c1 c2
      refine ⟨H1, ?_⟩
      rw [if_pos ((p1_lt (x := x0) (y := 0) (m := x0.toInt) (n := 0) rfl (by decide)).mpr (by omega))]
      exact e
    · by_cases c3 : 126 < x0
      · have ic1 := (p1_lt (x := x0) (y := 0) (m := x0.toInt) (n := 0) rfl (by decide)).mp c1
        have ic2 := mt (p1_lt (x := x0) (y := 32) (m := x0.toInt) (n := 32) rfl (by decide)).mpr c2
        have ic3 := (p1_lt (x := 126) (y := x0) (m := 126) (n := x0.toInt) (by decide) rfl).mp c3
        exfalso
        omega
      · have ic1 := (p1_lt (x := x0) (y := 0) (m := x0.toInt) (n := 0) rfl (by decide)).mp c1
        have ic2 := mt (p1_lt (x := x0) (y := 32) (m := x0.toInt) (n := 32) rfl (by decide)).mpr c2
        have ic3 := mt (p1_lt (x := 126) (y := x0) (m := 126) (n := x0.toInt) (by decide) rfl).mpr c3
        exfalso
        omega
  · by_cases c2 : x0 ≤ 28
    · have ic1 := mt (p1_lt (x := x0) (y := 0) (m := x0.toInt) (n := 0) rfl (by decide)).mpr c1
      have ic2 := (p1_le (x := x0) (y := 28) (m := x0.toInt) (n := 28) rfl (by decide)).mp c2
      obtain ⟨ks1, hks1, eks1, -⟩ := p1_of (x := x0) (h := 127) (by omega) (by omega)
      obtain ⟨H1, e, f⟩ := fm_key_3 (sL := sL) (sx := sx) (cs := cs) (x0 := x0) (x1 := x1) (p1_c157 P) (p1_c194 P) c1 c2 (within eks1 hks1 (by omega))
      refine ⟨H1, ?_⟩
      rw [if_neg (mt (p1_lt (x := x0) (y := 0) (m := x0.toInt) (n := 0) rfl (by decide)).mp (by omega)), if_neg (mt (p1_le (x := 127) (y := x0) (m := 127) (n := x0.toInt) (by decide) rfl).mp (by omega)), if_pos ((p1_le (x := x0) (y := 28) (m := x0.toInt) (n := 28) rfl (by decide)).mpr (by omega))]
      exact e
    · by_cases c3 : x0 < 32
      · have ic1 := mt (p1_lt (x := x0) (y := 0) (m := x0.toInt) (n := 0) rfl (by decide)).mpr c1
        have ic2 := mt (p1_le (x := x0) (y := 28) (m := x0.toInt) (n := 28) rfl (by decide)).mpr c2
        have ic3 := (p1_lt (x := x0) (y := 32) (m := x0.toInt) (n := 32) rfl (by decide)).mp c3
        obtain ⟨H1, e, f⟩ := fm_key_4 (sL := sL) (sx := sx) (cs := cs) (x0 := x0) (x1 := x1) (p1_c157 P) (p1_c194 P) c1 c2 c3
        refine ⟨H1, ?_⟩
        rw [if_neg (mt (p1_lt (x := x0) (y := 0) (m := x0.toInt) (n := 0) rfl (by decide)).mp (by omega)), if_neg (mt (p1_le (x := 127) (y := x0) (m := 127) (n := x0.toInt) (by decide) rfl).mp (by omega)), if_neg (mt (p1_le (x := x0) (y := 28) (m := x0.toInt) (n := 28) rfl (by decide)).mp (by omega)), if_neg (mt (p1_le (x := 32) (y := x0) (m := 32) (n := x0.toInt) (by decide) rfl).mp (by omega))]
        exact e
      · by_cases c4 : 126 < x0
        · have ic1 := mt (p1_lt (x := x0) (y := 0) (m := x0.toInt) (n := 0) rfl (by decide)).mpr c1
          have ic2 := mt (p1_le (x := x0) (y := 28) (m := x0.toInt) (n := 28) rfl (by decide)).mpr c2
          have ic3 := mt (p1_lt (x := x0) (y := 32) (m := x0.toInt) (n := 32) rfl (by decide)).mpr c3
          have ic4 := (p1_lt (x := 126) (y := x0) (m := 126) (n := x0.toInt) (by decide) rfl).mp c4
          obtain ⟨H1, e, f⟩ := fm_key_5 (sL := sL) (sx := sx) (cs := cs) (x0 := x0) (x1 := x1) (p1_c157 P) (p1_c194 P) c1 c2 c3 c4
          refine ⟨H1, ?_⟩
          rw [if_neg (mt (p1_lt (x := x0) (y := 0) (m := x0.toInt) (n := 0) rfl (by decide)).mp (by omega)), if_pos ((p1_le (x := 127) (y := x0) (m := 127) (n := x0.toInt) (by decide) rfl).mpr (by omega))]
          exact e
        · have ic1 := mt (p1_lt (x := x0) (y := 0) (m := x0.toInt) (n := 0) rfl (by decide)).mpr c1
          have ic2 := mt (p1_le (x := x0) (y := 28) (m := x0.toInt) (n := 28) rfl (by decide)).mpr c2
          have ic3 := mt (p1_lt (x := x0) (y := 32) (m := x0.toInt) (n := 32) rfl (by decide)).mpr c3
          have ic4 := mt (p1_lt (x := 126) (y := x0) (m := 126) (n := x0.toInt) (by decide) rfl).mpr c4
          obtain ⟨ks1, hks1, eks1, -⟩ := p1_of (x := x0) (h := 127) (by omega) (by omega)
          obtain ⟨H1, e, f⟩ := fm_key_6 (sL := sL) (sx := sx) (cs := cs) (x0 := x0) (x1 := x1) (p1_c157 P) (p1_c194 P) c1 c2 c3 c4 (within eks1 hks1 (by omega))
          refine ⟨H1, ?_⟩
          rw [if_neg (mt (p1_lt (x := x0) (y := 0) (m := x0.toInt) (n := 0) rfl (by decide)).mp (by omega)), if_neg (mt (p1_le (x := 127) (y := x0) (m := 127) (n := x0.toInt) (by decide) rfl).mp (by omega)), if_neg (mt (p1_le (x := x0) (y := 28) (m := x0.toInt) (n := 28) rfl (by decide)).mp (by omega)), if_pos ((p1_le (x := 32) (y := x0) (m := 32) (n := x0.toInt) (by decide) rfl).mpr (by omega))]
          exact e

set_option maxRecDepth 100000 in
theorem pm_spoil {sL : Nat} {sx : Nat → Int32} {cs : Nat → Nat → Option Int32} {v3 : Int32} {h b : Nat} {H : am_H} {x0 : Int32} (P : p1_Pm v3 h b H) (dm : p1_D v3 h b) : ∃ H1 : am_H, aX sL sx cs 364 0 [(0, .ref 157), (1, .int x0)] [] H 0 0 = some ((some (.int 0)), H1, 0, 0) := by
  obtain ⟨d1, d2, d3, d4⟩ := dm
  by_cases c1 : x0 = 0
  · by_cases c2 : x0 = 1
    · have ic1 := (p1_eq (x := x0) (y := 0) (m := x0.toInt) (n := 0) rfl (by decide)).mp c1
      have ic2 := (p1_eq (x := x0) (y := 1) (m := x0.toInt) (n := 1) rfl (by decide)).mp c2
      exfalso
      omega
    · obtain ⟨H1, e, f⟩ := fm_spoil_1 (sL := sL) (sx := sx) (cs := cs) (x0 := x0) (p1_c157 P) c1 c2
      refine ⟨H1, ?_⟩
      exact e
  · by_cases c2 : x0 = 1
    · obtain ⟨H1, e, f⟩ := fm_spoil_2 (sL := sL) (sx := sx) (cs := cs) (x0 := x0) (p1_c157 P) c1 c2
      refine ⟨H1, ?_⟩
      exact e
    · obtain ⟨H1, e, f⟩ := fm_spoil_3 (sL := sL) (sx := sx) (cs := cs) (x0 := x0) (p1_c157 P) c1 c2
      refine ⟨H1, ?_⟩
      exact e

set_option maxRecDepth 100000 in
theorem pm_screen {sL : Nat} {sx : Nat → Int32} {cs : Nat → Nat → Option Int32} {v3 : Int32} {h b : Nat} {H : am_H} {x0 x1 : Int32} (P : p1_Pm v3 h b H) (dm : p1_D v3 h b) : ∃ H1 : am_H, aX sL sx cs 412 0 [(0, .ref 157), (1, .int x0), (2, .int x1)] [] H 0 0 = some ((some (.int (if x0 < 0 then ((-1) : Int32) else (if Int32.ofNat h ≤ x0 then ((-1) : Int32) else (if x1 < 0 then ((-1) : Int32) else (if Int32.ofNat b ≤ x1 then ((-1) : Int32) else 32)))))), H1, 0, 0) := by
  obtain ⟨d1, d2, d3, d4⟩ := dm
  by_cases c1 : x0 < 0
  · have ic1 := (p1_lt (x := x0) (y := 0) (m := x0.toInt) (n := 0) rfl (by decide)).mp c1
    obtain ⟨H1, e, f⟩ := fm_screen_0 (sL := sL) (sx := sx) (cs := cs) (x0 := x0) (x1 := x1) (p1_c157 P) (p1_c190 P) c1
    refine ⟨H1, ?_⟩
    rw [if_pos ((p1_lt (x := x0) (y := 0) (m := x0.toInt) (n := 0) rfl (by decide)).mpr (by omega))]
    exact e
  · by_cases c2 : x1 < 0
    · have ic1 := mt (p1_lt (x := x0) (y := 0) (m := x0.toInt) (n := 0) rfl (by decide)).mpr c1
      have ic2 := (p1_lt (x := x1) (y := 0) (m := x1.toInt) (n := 0) rfl (by decide)).mp c2
      obtain ⟨H1, e, f⟩ := fm_screen_1 (sL := sL) (sx := sx) (cs := cs) (x0 := x0) (x1 := x1) (p1_c157 P) (p1_c190 P) c1 c2
      refine ⟨H1, ?_⟩
      have ea : (if x0 < 0 then ((-1) : Int32) else (if Int32.ofNat h ≤ x0 then ((-1) : Int32) else (if x1 < 0 then ((-1) : Int32) else (if Int32.ofNat b ≤ x1 then ((-1) : Int32) else 32)))) = ((-1) : Int32) := by (repeat' split) <;> first | rfl | contradiction
      rw [ea]
      exact e
    · by_cases c3 : (Int32.ofNat h) ≤ x0
      · have ic1 := mt (p1_lt (x := x0) (y := 0) (m := x0.toInt) (n := 0) rfl (by decide)).mpr c1
        have ic2 := mt (p1_lt (x := x1) (y := 0) (m := x1.toInt) (n := 0) rfl (by decide)).mpr c2
        have ic3 := (p1_le (x := Int32.ofNat h) (y := x0) (m := (h : Int)) (n := x0.toInt) (p1_n (by omega)) rfl).mp c3
        obtain ⟨H1, e, f⟩ := fm_screen_2 (sL := sL) (sx := sx) (cs := cs) (x0 := x0) (x1 := x1) (p1_c157 P) (p1_c190 P) c1 c2 c3
        refine ⟨H1, ?_⟩
        rw [if_neg (mt (p1_lt (x := x0) (y := 0) (m := x0.toInt) (n := 0) rfl (by decide)).mp (by omega)), if_pos ((p1_le (x := Int32.ofNat h) (y := x0) (m := (h : Int)) (n := x0.toInt) (p1_n (by omega)) rfl).mpr (by omega))]
        exact e
      · by_cases c4 : x1 < (Int32.ofNat b)
        · have ic1 := mt (p1_lt (x := x0) (y := 0) (m := x0.toInt) (n := 0) rfl (by decide)).mpr c1
          have ic2 := mt (p1_lt (x := x1) (y := 0) (m := x1.toInt) (n := 0) rfl (by decide)).mpr c2
          have ic3 := mt (p1_le (x := Int32.ofNat h) (y := x0) (m := (h : Int)) (n := x0.toInt) (p1_n (by omega)) rfl).mpr c3
          have ic4 := (p1_lt (x := x1) (y := Int32.ofNat b) (m := x1.toInt) (n := (b : Int)) rfl (p1_n (by omega))).mp c4
          obtain ⟨k, hk, ek, hm⟩ := p1_ix (x := x0) (y := x1) (h := 24) (b := b) (w := 80) d4 (by omega) (by omega) (by omega) (by omega) (by omega) (by omega)
          have ek : 80 * x0 + x1 = Int32.ofNat k := by rw [Int32.mul_comm]; exact ek
          obtain ⟨H1, e, f⟩ := fm_screen_3 (sL := sL) (sx := sx) (cs := cs) (x0 := x0) (x1 := x1) (p1_c157 P) (p1_c190 P) c1 c2 c3 c4 (within ek hk hm)
          refine ⟨H1, ?_⟩
          rw [p1_f32 ek hk hm] at e
          rw [if_neg (mt (p1_lt (x := x0) (y := 0) (m := x0.toInt) (n := 0) rfl (by decide)).mp (by omega)), if_neg (mt (p1_le (x := Int32.ofNat h) (y := x0) (m := (h : Int)) (n := x0.toInt) (p1_n (by omega)) rfl).mp (by omega)), if_neg (mt (p1_lt (x := x1) (y := 0) (m := x1.toInt) (n := 0) rfl (by decide)).mp (by omega)), if_neg (mt (p1_le (x := Int32.ofNat b) (y := x1) (m := (b : Int)) (n := x1.toInt) (p1_n (by omega)) rfl).mp (by omega))]
          exact e
        · have ic1 := mt (p1_lt (x := x0) (y := 0) (m := x0.toInt) (n := 0) rfl (by decide)).mpr c1
          have ic2 := mt (p1_lt (x := x1) (y := 0) (m := x1.toInt) (n := 0) rfl (by decide)).mpr c2
          have ic3 := mt (p1_le (x := Int32.ofNat h) (y := x0) (m := (h : Int)) (n := x0.toInt) (p1_n (by omega)) rfl).mpr c3
          have ic4 := mt (p1_lt (x := x1) (y := Int32.ofNat b) (m := x1.toInt) (n := (b : Int)) rfl (p1_n (by omega))).mpr c4
          obtain ⟨H1, e, f⟩ := fm_screen_4 (sL := sL) (sx := sx) (cs := cs) (x0 := x0) (x1 := x1) (p1_c157 P) (p1_c190 P) c1 c2 c3 c4
          refine ⟨H1, ?_⟩
          rw [if_neg (mt (p1_lt (x := x0) (y := 0) (m := x0.toInt) (n := 0) rfl (by decide)).mp (by omega)), if_neg (mt (p1_le (x := Int32.ofNat h) (y := x0) (m := (h : Int)) (n := x0.toInt) (p1_n (by omega)) rfl).mp (by omega)), if_neg (mt (p1_lt (x := x1) (y := 0) (m := x1.toInt) (n := 0) rfl (by decide)).mp (by omega)), if_pos ((p1_le (x := Int32.ofNat b) (y := x1) (m := (b : Int)) (n := x1.toInt) (p1_n (by omega)) rfl).mpr (by omega))]
          exact e

set_option maxRecDepth 100000 in
theorem pm_width {sL : Nat} {sx : Nat → Int32} {cs : Nat → Nat → Option Int32} {v3 : Int32} {h b : Nat} {H : am_H} {x0 : Int32} (P : p1_Pm v3 h b H) (dm : p1_D v3 h b) : ∃ H1 : am_H, aX sL sx cs 413 0 [(0, .ref 157), (1, .int x0)] [] H 0 0 = some ((some (.int (if x0 < 0 then ((-1) : Int32) else (if Int32.ofNat h ≤ x0 then ((-1) : Int32) else 0)))), H1, 0, 0) := by
  obtain ⟨d1, d2, d3, d4⟩ := dm
  by_cases c1 : x0 < 0
  · have ic1 := (p1_lt (x := x0) (y := 0) (m := x0.toInt) (n := 0) rfl (by decide)).mp c1
    obtain ⟨H1, e, f⟩ := fm_width_0 (sL := sL) (sx := sx) (cs := cs) (x0 := x0) (p1_c157 P) (p1_c191 P) c1
    refine ⟨H1, ?_⟩
    rw [if_pos ((p1_lt (x := x0) (y := 0) (m := x0.toInt) (n := 0) rfl (by decide)).mpr (by omega))]
    exact e
  · by_cases c2 : x0 < (Int32.ofNat h)
    · have ic1 := mt (p1_lt (x := x0) (y := 0) (m := x0.toInt) (n := 0) rfl (by decide)).mpr c1
      have ic2 := (p1_lt (x := x0) (y := Int32.ofNat h) (m := x0.toInt) (n := (h : Int)) rfl (p1_n (by omega))).mp c2
      obtain ⟨ks1, hks1, eks1, -⟩ := p1_of (x := x0) (h := 24) (by omega) (by omega)
      obtain ⟨H1, e, f⟩ := fm_width_1 (sL := sL) (sx := sx) (cs := cs) (x0 := x0) (p1_c157 P) (p1_c191 P) c1 c2 (within eks1 hks1 (by omega))
      refine ⟨H1, ?_⟩
      rw [if_neg (mt (p1_lt (x := x0) (y := 0) (m := x0.toInt) (n := 0) rfl (by decide)).mp (by omega)), if_neg (mt (p1_le (x := Int32.ofNat h) (y := x0) (m := (h : Int)) (n := x0.toInt) (p1_n (by omega)) rfl).mp (by omega))]
      exact e
    · have ic1 := mt (p1_lt (x := x0) (y := 0) (m := x0.toInt) (n := 0) rfl (by decide)).mpr c1
      have ic2 := mt (p1_lt (x := x0) (y := Int32.ofNat h) (m := x0.toInt) (n := (h : Int)) rfl (p1_n (by omega))).mpr c2
      obtain ⟨H1, e, f⟩ := fm_width_2 (sL := sL) (sx := sx) (cs := cs) (x0 := x0) (p1_c157 P) (p1_c191 P) c1 c2
      refine ⟨H1, ?_⟩
      rw [if_neg (mt (p1_lt (x := x0) (y := 0) (m := x0.toInt) (n := 0) rfl (by decide)).mp (by omega)), if_pos ((p1_le (x := Int32.ofNat h) (y := x0) (m := (h : Int)) (n := x0.toInt) (p1_n (by omega)) rfl).mpr (by omega))]
      exact e

set_option maxRecDepth 100000 in
theorem pm_state {sL : Nat} {sx : Nat → Int32} {cs : Nat → Nat → Option Int32} {v3 : Int32} {h b : Nat} {H : am_H} {x0 : Int32} (P : p1_Pm v3 h b H) (dm : p1_D v3 h b) : ∃ H1 : am_H, aX sL sx cs 414 0 [(0, .ref 157), (1, .int x0)] [] H 0 0 = some ((some (.int (if x0 = 0 then (0 : Int32) else (if x0 = 1 then (0 : Int32) else (if x0 = 2 then (0 : Int32) else (if x0 = 3 then (0 : Int32) else (if x0 = 4 then ((Int32.ofNat h - 1) : Int32) else (if x0 = 5 then (0 : Int32) else (if x0 = 6 then (96 : Int32) else (if x0 = 7 then (0 : Int32) else (if x0 = 8 then (0 : Int32) else (if x0 = 9 then (0 : Int32) else (if x0 = 10 then (0 : Int32) else (if x0 = 11 then (0 : Int32) else (if x0 = 12 then (0 : Int32) else (if x0 = 13 then (0 : Int32) else (if x0 = 14 then (0 : Int32) else (if x0 = 15 then (0 : Int32) else (if x0 = 16 then (0 : Int32) else (if x0 = 17 then (0 : Int32) else (-1))))))))))))))))))))), H1, 0, 0) := by
  obtain ⟨d1, d2, d3, d4⟩ := dm
  by_cases c1 : x0 = 0
  · have ic1 := (p1_eq (x := x0) (y := 0) (m := x0.toInt) (n := 0) rfl (by decide)).mp c1
    obtain ⟨H1, e, f⟩ := fm_state_0 (sL := sL) (sx := sx) (cs := cs) (x0 := x0) (p1_c157 P) c1
    refine ⟨H1, ?_⟩
    rw [if_pos ((p1_eq (x := x0) (y := 0) (m := x0.toInt) (n := 0) rfl (by decide)).mpr (by omega))]
    exact e
  · by_cases c2 : x0 = 1
    · have ic1 := mt (p1_eq (x := x0) (y := 0) (m := x0.toInt) (n := 0) rfl (by decide)).mpr c1
      have ic2 := (p1_eq (x := x0) (y := 1) (m := x0.toInt) (n := 1) rfl (by decide)).mp c2
      obtain ⟨H1, e, f⟩ := fm_state_1 (sL := sL) (sx := sx) (cs := cs) (x0 := x0) (p1_c157 P) c1 c2
      refine ⟨H1, ?_⟩
      rw [if_neg (mt (p1_eq (x := x0) (y := 0) (m := x0.toInt) (n := 0) rfl (by decide)).mp (by omega)), if_pos ((p1_eq (x := x0) (y := 1) (m := x0.toInt) (n := 1) rfl (by decide)).mpr (by omega))]
      exact e
    · by_cases c3 : x0 = 2
      · have ic1 := mt (p1_eq (x := x0) (y := 0) (m := x0.toInt) (n := 0) rfl (by decide)).mpr c1
        have ic2 := mt (p1_eq (x := x0) (y := 1) (m := x0.toInt) (n := 1) rfl (by decide)).mpr c2
        have ic3 := (p1_eq (x := x0) (y := 2) (m := x0.toInt) (n := 2) rfl (by decide)).mp c3
        obtain ⟨H1, e, f⟩ := fm_state_2 (sL := sL) (sx := sx) (cs := cs) (x0 := x0) (p1_c157 P) c1 c2 c3
        refine ⟨H1, ?_⟩
        rw [if_neg (mt (p1_eq (x := x0) (y := 0) (m := x0.toInt) (n := 0) rfl (by decide)).mp (by omega)), if_neg (mt (p1_eq (x := x0) (y := 1) (m := x0.toInt) (n := 1) rfl (by decide)).mp (by omega)), if_pos ((p1_eq (x := x0) (y := 2) (m := x0.toInt) (n := 2) rfl (by decide)).mpr (by omega))]
        exact e
      · by_cases c4 : x0 = 3
        · have ic1 := mt (p1_eq (x := x0) (y := 0) (m := x0.toInt) (n := 0) rfl (by decide)).mpr c1
          have ic2 := mt (p1_eq (x := x0) (y := 1) (m := x0.toInt) (n := 1) rfl (by decide)).mpr c2
          have ic3 := mt (p1_eq (x := x0) (y := 2) (m := x0.toInt) (n := 2) rfl (by decide)).mpr c3
          have ic4 := (p1_eq (x := x0) (y := 3) (m := x0.toInt) (n := 3) rfl (by decide)).mp c4
          obtain ⟨H1, e, f⟩ := fm_state_3 (sL := sL) (sx := sx) (cs := cs) (x0 := x0) (p1_c157 P) c1 c2 c3 c4
          refine ⟨H1, ?_⟩
          rw [if_neg (mt (p1_eq (x := x0) (y := 0) (m := x0.toInt) (n := 0) rfl (by decide)).mp (by omega)), if_neg (mt (p1_eq (x := x0) (y := 1) (m := x0.toInt) (n := 1) rfl (by decide)).mp (by omega)), if_neg (mt (p1_eq (x := x0) (y := 2) (m := x0.toInt) (n := 2) rfl (by decide)).mp (by omega)), if_pos ((p1_eq (x := x0) (y := 3) (m := x0.toInt) (n := 3) rfl (by decide)).mpr (by omega))]
          exact e
        · by_cases c5 : x0 = 4
          · have ic1 := mt (p1_eq (x := x0) (y := 0) (m := x0.toInt) (n := 0) rfl (by decide)).mpr c1
            have ic2 := mt (p1_eq (x := x0) (y := 1) (m := x0.toInt) (n := 1) rfl (by decide)).mpr c2
            have ic3 := mt (p1_eq (x := x0) (y := 2) (m := x0.toInt) (n := 2) rfl (by decide)).mpr c3
            have ic4 := mt (p1_eq (x := x0) (y := 3) (m := x0.toInt) (n := 3) rfl (by decide)).mpr c4
            have ic5 := (p1_eq (x := x0) (y := 4) (m := x0.toInt) (n := 4) rfl (by decide)).mp c5
            obtain ⟨H1, e, f⟩ := fm_state_4 (sL := sL) (sx := sx) (cs := cs) (x0 := x0) (p1_c157 P) c1 c2 c3 c4 c5
            refine ⟨H1, ?_⟩
            rw [if_neg (mt (p1_eq (x := x0) (y := 0) (m := x0.toInt) (n := 0) rfl (by decide)).mp (by omega)), if_neg (mt (p1_eq (x := x0) (y := 1) (m := x0.toInt) (n := 1) rfl (by decide)).mp (by omega)), if_neg (mt (p1_eq (x := x0) (y := 2) (m := x0.toInt) (n := 2) rfl (by decide)).mp (by omega)), if_neg (mt (p1_eq (x := x0) (y := 3) (m := x0.toInt) (n := 3) rfl (by decide)).mp (by omega)), if_pos ((p1_eq (x := x0) (y := 4) (m := x0.toInt) (n := 4) rfl (by decide)).mpr (by omega))]
            exact e
          · by_cases c6 : x0 = 5
            · have ic1 := mt (p1_eq (x := x0) (y := 0) (m := x0.toInt) (n := 0) rfl (by decide)).mpr c1
              have ic2 := mt (p1_eq (x := x0) (y := 1) (m := x0.toInt) (n := 1) rfl (by decide)).mpr c2
              have ic3 := mt (p1_eq (x := x0) (y := 2) (m := x0.toInt) (n := 2) rfl (by decide)).mpr c3
              have ic4 := mt (p1_eq (x := x0) (y := 3) (m := x0.toInt) (n := 3) rfl (by decide)).mpr c4
              have ic5 := mt (p1_eq (x := x0) (y := 4) (m := x0.toInt) (n := 4) rfl (by decide)).mpr c5
              have ic6 := (p1_eq (x := x0) (y := 5) (m := x0.toInt) (n := 5) rfl (by decide)).mp c6
              obtain ⟨H1, e, f⟩ := fm_state_5 (sL := sL) (sx := sx) (cs := cs) (x0 := x0) (p1_c157 P) c1 c2 c3 c4 c5 c6
              refine ⟨H1, ?_⟩
              rw [if_neg (mt (p1_eq (x := x0) (y := 0) (m := x0.toInt) (n := 0) rfl (by decide)).mp (by omega)), if_neg (mt (p1_eq (x := x0) (y := 1) (m := x0.toInt) (n := 1) rfl (by decide)).mp (by omega)), if_neg (mt (p1_eq (x := x0) (y := 2) (m := x0.toInt) (n := 2) rfl (by decide)).mp (by omega)), if_neg (mt (p1_eq (x := x0) (y := 3) (m := x0.toInt) (n := 3) rfl (by decide)).mp (by omega)), if_neg (mt (p1_eq (x := x0) (y := 4) (m := x0.toInt) (n := 4) rfl (by decide)).mp (by omega)), if_pos ((p1_eq (x := x0) (y := 5) (m := x0.toInt) (n := 5) rfl (by decide)).mpr (by omega))]
              exact e
            · by_cases c7 : x0 = 6
              · have ic1 := mt (p1_eq (x := x0) (y := 0) (m := x0.toInt) (n := 0) rfl (by decide)).mpr c1
                have ic2 := mt (p1_eq (x := x0) (y := 1) (m := x0.toInt) (n := 1) rfl (by decide)).mpr c2
                have ic3 := mt (p1_eq (x := x0) (y := 2) (m := x0.toInt) (n := 2) rfl (by decide)).mpr c3
                have ic4 := mt (p1_eq (x := x0) (y := 3) (m := x0.toInt) (n := 3) rfl (by decide)).mpr c4
                have ic5 := mt (p1_eq (x := x0) (y := 4) (m := x0.toInt) (n := 4) rfl (by decide)).mpr c5
                have ic6 := mt (p1_eq (x := x0) (y := 5) (m := x0.toInt) (n := 5) rfl (by decide)).mpr c6
                have ic7 := (p1_eq (x := x0) (y := 6) (m := x0.toInt) (n := 6) rfl (by decide)).mp c7
                obtain ⟨H1, e, f⟩ := fm_state_6 (sL := sL) (sx := sx) (cs := cs) (x0 := x0) (p1_c157 P) c1 c2 c3 c4 c5 c6 c7
                refine ⟨H1, ?_⟩
                rw [if_neg (mt (p1_eq (x := x0) (y := 0) (m := x0.toInt) (n := 0) rfl (by decide)).mp (by omega)), if_neg (mt (p1_eq (x := x0) (y := 1) (m := x0.toInt) (n := 1) rfl (by decide)).mp (by omega)), if_neg (mt (p1_eq (x := x0) (y := 2) (m := x0.toInt) (n := 2) rfl (by decide)).mp (by omega)), if_neg (mt (p1_eq (x := x0) (y := 3) (m := x0.toInt) (n := 3) rfl (by decide)).mp (by omega)), if_neg (mt (p1_eq (x := x0) (y := 4) (m := x0.toInt) (n := 4) rfl (by decide)).mp (by omega)), if_neg (mt (p1_eq (x := x0) (y := 5) (m := x0.toInt) (n := 5) rfl (by decide)).mp (by omega)), if_pos ((p1_eq (x := x0) (y := 6) (m := x0.toInt) (n := 6) rfl (by decide)).mpr (by omega))]
                exact e
              · by_cases c8 : x0 = 7
                · have ic1 := mt (p1_eq (x := x0) (y := 0) (m := x0.toInt) (n := 0) rfl (by decide)).mpr c1
                  have ic2 := mt (p1_eq (x := x0) (y := 1) (m := x0.toInt) (n := 1) rfl (by decide)).mpr c2
                  have ic3 := mt (p1_eq (x := x0) (y := 2) (m := x0.toInt) (n := 2) rfl (by decide)).mpr c3
                  have ic4 := mt (p1_eq (x := x0) (y := 3) (m := x0.toInt) (n := 3) rfl (by decide)).mpr c4
                  have ic5 := mt (p1_eq (x := x0) (y := 4) (m := x0.toInt) (n := 4) rfl (by decide)).mpr c5
                  have ic6 := mt (p1_eq (x := x0) (y := 5) (m := x0.toInt) (n := 5) rfl (by decide)).mpr c6
                  have ic7 := mt (p1_eq (x := x0) (y := 6) (m := x0.toInt) (n := 6) rfl (by decide)).mpr c7
                  have ic8 := (p1_eq (x := x0) (y := 7) (m := x0.toInt) (n := 7) rfl (by decide)).mp c8
                  obtain ⟨H1, e, f⟩ := fm_state_7 (sL := sL) (sx := sx) (cs := cs) (x0 := x0) (p1_c157 P) c1 c2 c3 c4 c5 c6 c7 c8
                  refine ⟨H1, ?_⟩
                  rw [if_neg (mt (p1_eq (x := x0) (y := 0) (m := x0.toInt) (n := 0) rfl (by decide)).mp (by omega)), if_neg (mt (p1_eq (x := x0) (y := 1) (m := x0.toInt) (n := 1) rfl (by decide)).mp (by omega)), if_neg (mt (p1_eq (x := x0) (y := 2) (m := x0.toInt) (n := 2) rfl (by decide)).mp (by omega)), if_neg (mt (p1_eq (x := x0) (y := 3) (m := x0.toInt) (n := 3) rfl (by decide)).mp (by omega)), if_neg (mt (p1_eq (x := x0) (y := 4) (m := x0.toInt) (n := 4) rfl (by decide)).mp (by omega)), if_neg (mt (p1_eq (x := x0) (y := 5) (m := x0.toInt) (n := 5) rfl (by decide)).mp (by omega)), if_neg (mt (p1_eq (x := x0) (y := 6) (m := x0.toInt) (n := 6) rfl (by decide)).mp (by omega)), if_pos ((p1_eq (x := x0) (y := 7) (m := x0.toInt) (n := 7) rfl (by decide)).mpr (by omega))]
                  exact e
                · by_cases c9 : x0 = 8
                  · have ic1 := mt (p1_eq (x := x0) (y := 0) (m := x0.toInt) (n := 0) rfl (by decide)).mpr c1
                    have ic2 := mt (p1_eq (x := x0) (y := 1) (m := x0.toInt) (n := 1) rfl (by decide)).mpr c2
                    have ic3 := mt (p1_eq (x := x0) (y := 2) (m := x0.toInt) (n := 2) rfl (by decide)).mpr c3
                    have ic4 := mt (p1_eq (x := x0) (y := 3) (m := x0.toInt) (n := 3) rfl (by decide)).mpr c4
                    have ic5 := mt (p1_eq (x := x0) (y := 4) (m := x0.toInt) (n := 4) rfl (by decide)).mpr c5
                    have ic6 := mt (p1_eq (x := x0) (y := 5) (m := x0.toInt) (n := 5) rfl (by decide)).mpr c6
                    have ic7 := mt (p1_eq (x := x0) (y := 6) (m := x0.toInt) (n := 6) rfl (by decide)).mpr c7
                    have ic8 := mt (p1_eq (x := x0) (y := 7) (m := x0.toInt) (n := 7) rfl (by decide)).mpr c8
                    have ic9 := (p1_eq (x := x0) (y := 8) (m := x0.toInt) (n := 8) rfl (by decide)).mp c9
                    obtain ⟨H1, e, f⟩ := fm_state_8 (sL := sL) (sx := sx) (cs := cs) (x0 := x0) (p1_c157 P) c1 c2 c3 c4 c5 c6 c7 c8 c9
                    refine ⟨H1, ?_⟩
                    rw [if_neg (mt (p1_eq (x := x0) (y := 0) (m := x0.toInt) (n := 0) rfl (by decide)).mp (by omega)), if_neg (mt (p1_eq (x := x0) (y := 1) (m := x0.toInt) (n := 1) rfl (by decide)).mp (by omega)), if_neg (mt (p1_eq (x := x0) (y := 2) (m := x0.toInt) (n := 2) rfl (by decide)).mp (by omega)), if_neg (mt (p1_eq (x := x0) (y := 3) (m := x0.toInt) (n := 3) rfl (by decide)).mp (by omega)), if_neg (mt (p1_eq (x := x0) (y := 4) (m := x0.toInt) (n := 4) rfl (by decide)).mp (by omega)), if_neg (mt (p1_eq (x := x0) (y := 5) (m := x0.toInt) (n := 5) rfl (by decide)).mp (by omega)), if_neg (mt (p1_eq (x := x0) (y := 6) (m := x0.toInt) (n := 6) rfl (by decide)).mp (by omega)), if_neg (mt (p1_eq (x := x0) (y := 7) (m := x0.toInt) (n := 7) rfl (by decide)).mp (by omega)), if_pos ((p1_eq (x := x0) (y := 8) (m := x0.toInt) (n := 8) rfl (by decide)).mpr (by omega))]
                    exact e
                  · by_cases c10 : x0 = 9
                    · have ic1 := mt (p1_eq (x := x0) (y := 0) (m := x0.toInt) (n := 0) rfl (by decide)).mpr c1
                      have ic2 := mt (p1_eq (x := x0) (y := 1) (m := x0.toInt) (n := 1) rfl (by decide)).mpr c2
                      have ic3 := mt (p1_eq (x := x0) (y := 2) (m := x0.toInt) (n := 2) rfl (by decide)).mpr c3
                      have ic4 := mt (p1_eq (x := x0) (y := 3) (m := x0.toInt) (n := 3) rfl (by decide)).mpr c4
                      have ic5 := mt (p1_eq (x := x0) (y := 4) (m := x0.toInt) (n := 4) rfl (by decide)).mpr c5
                      have ic6 := mt (p1_eq (x := x0) (y := 5) (m := x0.toInt) (n := 5) rfl (by decide)).mpr c6
                      have ic7 := mt (p1_eq (x := x0) (y := 6) (m := x0.toInt) (n := 6) rfl (by decide)).mpr c7
                      have ic8 := mt (p1_eq (x := x0) (y := 7) (m := x0.toInt) (n := 7) rfl (by decide)).mpr c8
                      have ic9 := mt (p1_eq (x := x0) (y := 8) (m := x0.toInt) (n := 8) rfl (by decide)).mpr c9
                      have ic10 := (p1_eq (x := x0) (y := 9) (m := x0.toInt) (n := 9) rfl (by decide)).mp c10
                      obtain ⟨H1, e, f⟩ := fm_state_9 (sL := sL) (sx := sx) (cs := cs) (x0 := x0) (p1_c157 P) c1 c2 c3 c4 c5 c6 c7 c8 c9 c10
                      refine ⟨H1, ?_⟩
                      rw [if_neg (mt (p1_eq (x := x0) (y := 0) (m := x0.toInt) (n := 0) rfl (by decide)).mp (by omega)), if_neg (mt (p1_eq (x := x0) (y := 1) (m := x0.toInt) (n := 1) rfl (by decide)).mp (by omega)), if_neg (mt (p1_eq (x := x0) (y := 2) (m := x0.toInt) (n := 2) rfl (by decide)).mp (by omega)), if_neg (mt (p1_eq (x := x0) (y := 3) (m := x0.toInt) (n := 3) rfl (by decide)).mp (by omega)), if_neg (mt (p1_eq (x := x0) (y := 4) (m := x0.toInt) (n := 4) rfl (by decide)).mp (by omega)), if_neg (mt (p1_eq (x := x0) (y := 5) (m := x0.toInt) (n := 5) rfl (by decide)).mp (by omega)), if_neg (mt (p1_eq (x := x0) (y := 6) (m := x0.toInt) (n := 6) rfl (by decide)).mp (by omega)), if_neg (mt (p1_eq (x := x0) (y := 7) (m := x0.toInt) (n := 7) rfl (by decide)).mp (by omega)), if_neg (mt (p1_eq (x := x0) (y := 8) (m := x0.toInt) (n := 8) rfl (by decide)).mp (by omega)), if_pos ((p1_eq (x := x0) (y := 9) (m := x0.toInt) (n := 9) rfl (by decide)).mpr (by omega))]
                      exact e
                    · by_cases c11 : x0 = 10
                      · have ic1 := mt (p1_eq (x := x0) (y := 0) (m := x0.toInt) (n := 0) rfl (by decide)).mpr c1
                        have ic2 := mt (p1_eq (x := x0) (y := 1) (m := x0.toInt) (n := 1) rfl (by decide)).mpr c2
                        have ic3 := mt (p1_eq (x := x0) (y := 2) (m := x0.toInt) (n := 2) rfl (by decide)).mpr c3
                        have ic4 := mt (p1_eq (x := x0) (y := 3) (m := x0.toInt) (n := 3) rfl (by decide)).mpr c4
                        have ic5 := mt (p1_eq (x := x0) (y := 4) (m := x0.toInt) (n := 4) rfl (by decide)).mpr c5
                        have ic6 := mt (p1_eq (x := x0) (y := 5) (m := x0.toInt) (n := 5) rfl (by decide)).mpr c6
                        have ic7 := mt (p1_eq (x := x0) (y := 6) (m := x0.toInt) (n := 6) rfl (by decide)).mpr c7
                        have ic8 := mt (p1_eq (x := x0) (y := 7) (m := x0.toInt) (n := 7) rfl (by decide)).mpr c8
                        have ic9 := mt (p1_eq (x := x0) (y := 8) (m := x0.toInt) (n := 8) rfl (by decide)).mpr c9
                        have ic10 := mt (p1_eq (x := x0) (y := 9) (m := x0.toInt) (n := 9) rfl (by decide)).mpr c10
                        have ic11 := (p1_eq (x := x0) (y := 10) (m := x0.toInt) (n := 10) rfl (by decide)).mp c11
                        obtain ⟨H1, e, f⟩ := fm_state_10 (sL := sL) (sx := sx) (cs := cs) (x0 := x0) (p1_c157 P) c1 c2 c3 c4 c5 c6 c7 c8 c9 c10 c11
                        refine ⟨H1, ?_⟩
                        rw [if_neg (mt (p1_eq (x := x0) (y := 0) (m := x0.toInt) (n := 0) rfl (by decide)).mp (by omega)), if_neg (mt (p1_eq (x := x0) (y := 1) (m := x0.toInt) (n := 1) rfl (by decide)).mp (by omega)), if_neg (mt (p1_eq (x := x0) (y := 2) (m := x0.toInt) (n := 2) rfl (by decide)).mp (by omega)), if_neg (mt (p1_eq (x := x0) (y := 3) (m := x0.toInt) (n := 3) rfl (by decide)).mp (by omega)), if_neg (mt (p1_eq (x := x0) (y := 4) (m := x0.toInt) (n := 4) rfl (by decide)).mp (by omega)), if_neg (mt (p1_eq (x := x0) (y := 5) (m := x0.toInt) (n := 5) rfl (by decide)).mp (by omega)), if_neg (mt (p1_eq (x := x0) (y := 6) (m := x0.toInt) (n := 6) rfl (by decide)).mp (by omega)), if_neg (mt (p1_eq (x := x0) (y := 7) (m := x0.toInt) (n := 7) rfl (by decide)).mp (by omega)), if_neg (mt (p1_eq (x := x0) (y := 8) (m := x0.toInt) (n := 8) rfl (by decide)).mp (by omega)), if_neg (mt (p1_eq (x := x0) (y := 9) (m := x0.toInt) (n := 9) rfl (by decide)).mp (by omega)), if_pos ((p1_eq (x := x0) (y := 10) (m := x0.toInt) (n := 10) rfl (by decide)).mpr (by omega))]
                        exact e
                      · by_cases c12 : x0 = 11
                        · have ic1 := mt (p1_eq (x := x0) (y := 0) (m := x0.toInt) (n := 0) rfl (by decide)).mpr c1
                          have ic2 := mt (p1_eq (x := x0) (y := 1) (m := x0.toInt) (n := 1) rfl (by decide)).mpr c2
                          have ic3 := mt (p1_eq (x := x0) (y := 2) (m := x0.toInt) (n := 2) rfl (by decide)).mpr c3
                          have ic4 := mt (p1_eq (x := x0) (y := 3) (m := x0.toInt) (n := 3) rfl (by decide)).mpr c4
                          have ic5 := mt (p1_eq (x := x0) (y := 4) (m := x0.toInt) (n := 4) rfl (by decide)).mpr c5
                          have ic6 := mt (p1_eq (x := x0) (y := 5) (m := x0.toInt) (n := 5) rfl (by decide)).mpr c6
                          have ic7 := mt (p1_eq (x := x0) (y := 6) (m := x0.toInt) (n := 6) rfl (by decide)).mpr c7
                          have ic8 := mt (p1_eq (x := x0) (y := 7) (m := x0.toInt) (n := 7) rfl (by decide)).mpr c8
                          have ic9 := mt (p1_eq (x := x0) (y := 8) (m := x0.toInt) (n := 8) rfl (by decide)).mpr c9
                          have ic10 := mt (p1_eq (x := x0) (y := 9) (m := x0.toInt) (n := 9) rfl (by decide)).mpr c10
                          have ic11 := mt (p1_eq (x := x0) (y := 10) (m := x0.toInt) (n := 10) rfl (by decide)).mpr c11
                          have ic12 := (p1_eq (x := x0) (y := 11) (m := x0.toInt) (n := 11) rfl (by decide)).mp c12
                          obtain ⟨H1, e, f⟩ := fm_state_11 (sL := sL) (sx := sx) (cs := cs) (x0 := x0) (p1_c157 P) c1 c2 c3 c4 c5 c6 c7 c8 c9 c10 c11 c12
                          refine ⟨H1, ?_⟩
                          rw [if_neg (mt (p1_eq (x := x0) (y := 0) (m := x0.toInt) (n := 0) rfl (by decide)).mp (by omega)), if_neg (mt (p1_eq (x := x0) (y := 1) (m := x0.toInt) (n := 1) rfl (by decide)).mp (by omega)), if_neg (mt (p1_eq (x := x0) (y := 2) (m := x0.toInt) (n := 2) rfl (by decide)).mp (by omega)), if_neg (mt (p1_eq (x := x0) (y := 3) (m := x0.toInt) (n := 3) rfl (by decide)).mp (by omega)), if_neg (mt (p1_eq (x := x0) (y := 4) (m := x0.toInt) (n := 4) rfl (by decide)).mp (by omega)), if_neg (mt (p1_eq (x := x0) (y := 5) (m := x0.toInt) (n := 5) rfl (by decide)).mp (by omega)), if_neg (mt (p1_eq (x := x0) (y := 6) (m := x0.toInt) (n := 6) rfl (by decide)).mp (by omega)), if_neg (mt (p1_eq (x := x0) (y := 7) (m := x0.toInt) (n := 7) rfl (by decide)).mp (by omega)), if_neg (mt (p1_eq (x := x0) (y := 8) (m := x0.toInt) (n := 8) rfl (by decide)).mp (by omega)), if_neg (mt (p1_eq (x := x0) (y := 9) (m := x0.toInt) (n := 9) rfl (by decide)).mp (by omega)), if_neg (mt (p1_eq (x := x0) (y := 10) (m := x0.toInt) (n := 10) rfl (by decide)).mp (by omega)), if_pos ((p1_eq (x := x0) (y := 11) (m := x0.toInt) (n := 11) rfl (by decide)).mpr (by omega))]
                          exact e
                        · by_cases c13 : x0 = 12
                          · have ic1 := mt (p1_eq (x := x0) (y := 0) (m := x0.toInt) (n := 0) rfl (by decide)).mpr c1
                            have ic2 := mt (p1_eq (x := x0) (y := 1) (m := x0.toInt) (n := 1) rfl (by decide)).mpr c2
                            have ic3 := mt (p1_eq (x := x0) (y := 2) (m := x0.toInt) (n := 2) rfl (by decide)).mpr c3
                            have ic4 := mt (p1_eq (x := x0) (y := 3) (m := x0.toInt) (n := 3) rfl (by decide)).mpr c4
                            have ic5 := mt (p1_eq (x := x0) (y := 4) (m := x0.toInt) (n := 4) rfl (by decide)).mpr c5
                            have ic6 := mt (p1_eq (x := x0) (y := 5) (m := x0.toInt) (n := 5) rfl (by decide)).mpr c6
                            have ic7 := mt (p1_eq (x := x0) (y := 6) (m := x0.toInt) (n := 6) rfl (by decide)).mpr c7
                            have ic8 := mt (p1_eq (x := x0) (y := 7) (m := x0.toInt) (n := 7) rfl (by decide)).mpr c8
                            have ic9 := mt (p1_eq (x := x0) (y := 8) (m := x0.toInt) (n := 8) rfl (by decide)).mpr c9
                            have ic10 := mt (p1_eq (x := x0) (y := 9) (m := x0.toInt) (n := 9) rfl (by decide)).mpr c10
                            have ic11 := mt (p1_eq (x := x0) (y := 10) (m := x0.toInt) (n := 10) rfl (by decide)).mpr c11
                            have ic12 := mt (p1_eq (x := x0) (y := 11) (m := x0.toInt) (n := 11) rfl (by decide)).mpr c12
                            have ic13 := (p1_eq (x := x0) (y := 12) (m := x0.toInt) (n := 12) rfl (by decide)).mp c13
                            obtain ⟨H1, e, f⟩ := fm_state_12 (sL := sL) (sx := sx) (cs := cs) (x0 := x0) (p1_c157 P) c1 c2 c3 c4 c5 c6 c7 c8 c9 c10 c11 c12 c13
                            refine ⟨H1, ?_⟩
                            rw [if_neg (mt (p1_eq (x := x0) (y := 0) (m := x0.toInt) (n := 0) rfl (by decide)).mp (by omega)), if_neg (mt (p1_eq (x := x0) (y := 1) (m := x0.toInt) (n := 1) rfl (by decide)).mp (by omega)), if_neg (mt (p1_eq (x := x0) (y := 2) (m := x0.toInt) (n := 2) rfl (by decide)).mp (by omega)), if_neg (mt (p1_eq (x := x0) (y := 3) (m := x0.toInt) (n := 3) rfl (by decide)).mp (by omega)), if_neg (mt (p1_eq (x := x0) (y := 4) (m := x0.toInt) (n := 4) rfl (by decide)).mp (by omega)), if_neg (mt (p1_eq (x := x0) (y := 5) (m := x0.toInt) (n := 5) rfl (by decide)).mp (by omega)), if_neg (mt (p1_eq (x := x0) (y := 6) (m := x0.toInt) (n := 6) rfl (by decide)).mp (by omega)), if_neg (mt (p1_eq (x := x0) (y := 7) (m := x0.toInt) (n := 7) rfl (by decide)).mp (by omega)), if_neg (mt (p1_eq (x := x0) (y := 8) (m := x0.toInt) (n := 8) rfl (by decide)).mp (by omega)), if_neg (mt (p1_eq (x := x0) (y := 9) (m := x0.toInt) (n := 9) rfl (by decide)).mp (by omega)), if_neg (mt (p1_eq (x := x0) (y := 10) (m := x0.toInt) (n := 10) rfl (by decide)).mp (by omega)), if_neg (mt (p1_eq (x := x0) (y := 11) (m := x0.toInt) (n := 11) rfl (by decide)).mp (by omega)), if_pos ((p1_eq (x := x0) (y := 12) (m := x0.toInt) (n := 12) rfl (by decide)).mpr (by omega))]
                            exact e
                          · by_cases c14 : x0 = 13
                            · have ic1 := mt (p1_eq (x := x0) (y := 0) (m := x0.toInt) (n := 0) rfl (by decide)).mpr c1
                              have ic2 := mt (p1_eq (x := x0) (y := 1) (m := x0.toInt) (n := 1) rfl (by decide)).mpr c2
                              have ic3 := mt (p1_eq (x := x0) (y := 2) (m := x0.toInt) (n := 2) rfl (by decide)).mpr c3
                              have ic4 := mt (p1_eq (x := x0) (y := 3) (m := x0.toInt) (n := 3) rfl (by decide)).mpr c4
                              have ic5 := mt (p1_eq (x := x0) (y := 4) (m := x0.toInt) (n := 4) rfl (by decide)).mpr c5
                              have ic6 := mt (p1_eq (x := x0) (y := 5) (m := x0.toInt) (n := 5) rfl (by decide)).mpr c6
                              have ic7 := mt (p1_eq (x := x0) (y := 6) (m := x0.toInt) (n := 6) rfl (by decide)).mpr c7
                              have ic8 := mt (p1_eq (x := x0) (y := 7) (m := x0.toInt) (n := 7) rfl (by decide)).mpr c8
                              have ic9 := mt (p1_eq (x := x0) (y := 8) (m := x0.toInt) (n := 8) rfl (by decide)).mpr c9
                              have ic10 := mt (p1_eq (x := x0) (y := 9) (m := x0.toInt) (n := 9) rfl (by decide)).mpr c10
                              have ic11 := mt (p1_eq (x := x0) (y := 10) (m := x0.toInt) (n := 10) rfl (by decide)).mpr c11
                              have ic12 := mt (p1_eq (x := x0) (y := 11) (m := x0.toInt) (n := 11) rfl (by decide)).mpr c12
                              have ic13 := mt (p1_eq (x := x0) (y := 12) (m := x0.toInt) (n := 12) rfl (by decide)).mpr c13
                              have ic14 := (p1_eq (x := x0) (y := 13) (m := x0.toInt) (n := 13) rfl (by decide)).mp c14
                              obtain ⟨H1, e, f⟩ := fm_state_13 (sL := sL) (sx := sx) (cs := cs) (x0 := x0) (p1_c157 P) c1 c2 c3 c4 c5 c6 c7 c8 c9 c10 c11 c12 c13 c14
                              refine ⟨H1, ?_⟩
                              rw [if_neg (mt (p1_eq (x := x0) (y := 0) (m := x0.toInt) (n := 0) rfl (by decide)).mp (by omega)), if_neg (mt (p1_eq (x := x0) (y := 1) (m := x0.toInt) (n := 1) rfl (by decide)).mp (by omega)), if_neg (mt (p1_eq (x := x0) (y := 2) (m := x0.toInt) (n := 2) rfl (by decide)).mp (by omega)), if_neg (mt (p1_eq (x := x0) (y := 3) (m := x0.toInt) (n := 3) rfl (by decide)).mp (by omega)), if_neg (mt (p1_eq (x := x0) (y := 4) (m := x0.toInt) (n := 4) rfl (by decide)).mp (by omega)), if_neg (mt (p1_eq (x := x0) (y := 5) (m := x0.toInt) (n := 5) rfl (by decide)).mp (by omega)), if_neg (mt (p1_eq (x := x0) (y := 6) (m := x0.toInt) (n := 6) rfl (by decide)).mp (by omega)), if_neg (mt (p1_eq (x := x0) (y := 7) (m := x0.toInt) (n := 7) rfl (by decide)).mp (by omega)), if_neg (mt (p1_eq (x := x0) (y := 8) (m := x0.toInt) (n := 8) rfl (by decide)).mp (by omega)), if_neg (mt (p1_eq (x := x0) (y := 9) (m := x0.toInt) (n := 9) rfl (by decide)).mp (by omega)), if_neg (mt (p1_eq (x := x0) (y := 10) (m := x0.toInt) (n := 10) rfl (by decide)).mp (by omega)), if_neg (mt (p1_eq (x := x0) (y := 11) (m := x0.toInt) (n := 11) rfl (by decide)).mp (by omega)), if_neg (mt (p1_eq (x := x0) (y := 12) (m := x0.toInt) (n := 12) rfl (by decide)).mp (by omega)), if_pos ((p1_eq (x := x0) (y := 13) (m := x0.toInt) (n := 13) rfl (by decide)).mpr (by omega))]
                              exact e
                            · by_cases c15 : x0 = 14
                              · have ic1 := mt (p1_eq (x := x0) (y := 0) (m := x0.toInt) (n := 0) rfl (by decide)).mpr c1
                                have ic2 := mt (p1_eq (x := x0) (y := 1) (m := x0.toInt) (n := 1) rfl (by decide)).mpr c2
                                have ic3 := mt (p1_eq (x := x0) (y := 2) (m := x0.toInt) (n := 2) rfl (by decide)).mpr c3
                                have ic4 := mt (p1_eq (x := x0) (y := 3) (m := x0.toInt) (n := 3) rfl (by decide)).mpr c4
                                have ic5 := mt (p1_eq (x := x0) (y := 4) (m := x0.toInt) (n := 4) rfl (by decide)).mpr c5
                                have ic6 := mt (p1_eq (x := x0) (y := 5) (m := x0.toInt) (n := 5) rfl (by decide)).mpr c6
                                have ic7 := mt (p1_eq (x := x0) (y := 6) (m := x0.toInt) (n := 6) rfl (by decide)).mpr c7
                                have ic8 := mt (p1_eq (x := x0) (y := 7) (m := x0.toInt) (n := 7) rfl (by decide)).mpr c8
                                have ic9 := mt (p1_eq (x := x0) (y := 8) (m := x0.toInt) (n := 8) rfl (by decide)).mpr c9
                                have ic10 := mt (p1_eq (x := x0) (y := 9) (m := x0.toInt) (n := 9) rfl (by decide)).mpr c10
                                have ic11 := mt (p1_eq (x := x0) (y := 10) (m := x0.toInt) (n := 10) rfl (by decide)).mpr c11
                                have ic12 := mt (p1_eq (x := x0) (y := 11) (m := x0.toInt) (n := 11) rfl (by decide)).mpr c12
                                have ic13 := mt (p1_eq (x := x0) (y := 12) (m := x0.toInt) (n := 12) rfl (by decide)).mpr c13
                                have ic14 := mt (p1_eq (x := x0) (y := 13) (m := x0.toInt) (n := 13) rfl (by decide)).mpr c14
                                have ic15 := (p1_eq (x := x0) (y := 14) (m := x0.toInt) (n := 14) rfl (by decide)).mp c15
                                obtain ⟨H1, e, f⟩ := fm_state_14 (sL := sL) (sx := sx) (cs := cs) (x0 := x0) (p1_c157 P) c1 c2 c3 c4 c5 c6 c7 c8 c9 c10 c11 c12 c13 c14 c15
                                refine ⟨H1, ?_⟩
                                rw [if_neg (mt (p1_eq (x := x0) (y := 0) (m := x0.toInt) (n := 0) rfl (by decide)).mp (by omega)), if_neg (mt (p1_eq (x := x0) (y := 1) (m := x0.toInt) (n := 1) rfl (by decide)).mp (by omega)), if_neg (mt (p1_eq (x := x0) (y := 2) (m := x0.toInt) (n := 2) rfl (by decide)).mp (by omega)), if_neg (mt (p1_eq (x := x0) (y := 3) (m := x0.toInt) (n := 3) rfl (by decide)).mp (by omega)), if_neg (mt (p1_eq (x := x0) (y := 4) (m := x0.toInt) (n := 4) rfl (by decide)).mp (by omega)), if_neg (mt (p1_eq (x := x0) (y := 5) (m := x0.toInt) (n := 5) rfl (by decide)).mp (by omega)), if_neg (mt (p1_eq (x := x0) (y := 6) (m := x0.toInt) (n := 6) rfl (by decide)).mp (by omega)), if_neg (mt (p1_eq (x := x0) (y := 7) (m := x0.toInt) (n := 7) rfl (by decide)).mp (by omega)), if_neg (mt (p1_eq (x := x0) (y := 8) (m := x0.toInt) (n := 8) rfl (by decide)).mp (by omega)), if_neg (mt (p1_eq (x := x0) (y := 9) (m := x0.toInt) (n := 9) rfl (by decide)).mp (by omega)), if_neg (mt (p1_eq (x := x0) (y := 10) (m := x0.toInt) (n := 10) rfl (by decide)).mp (by omega)), if_neg (mt (p1_eq (x := x0) (y := 11) (m := x0.toInt) (n := 11) rfl (by decide)).mp (by omega)), if_neg (mt (p1_eq (x := x0) (y := 12) (m := x0.toInt) (n := 12) rfl (by decide)).mp (by omega)), if_neg (mt (p1_eq (x := x0) (y := 13) (m := x0.toInt) (n := 13) rfl (by decide)).mp (by omega)), if_pos ((p1_eq (x := x0) (y := 14) (m := x0.toInt) (n := 14) rfl (by decide)).mpr (by omega))]
                                exact e
                              · by_cases c16 : x0 = 15
                                · have ic1 := mt (p1_eq (x := x0) (y := 0) (m := x0.toInt) (n := 0) rfl (by decide)).mpr c1
                                  have ic2 := mt (p1_eq (x := x0) (y := 1) (m := x0.toInt) (n := 1) rfl (by decide)).mpr c2
                                  have ic3 := mt (p1_eq (x := x0) (y := 2) (m := x0.toInt) (n := 2) rfl (by decide)).mpr c3
                                  have ic4 := mt (p1_eq (x := x0) (y := 3) (m := x0.toInt) (n := 3) rfl (by decide)).mpr c4
                                  have ic5 := mt (p1_eq (x := x0) (y := 4) (m := x0.toInt) (n := 4) rfl (by decide)).mpr c5
                                  have ic6 := mt (p1_eq (x := x0) (y := 5) (m := x0.toInt) (n := 5) rfl (by decide)).mpr c6
                                  have ic7 := mt (p1_eq (x := x0) (y := 6) (m := x0.toInt) (n := 6) rfl (by decide)).mpr c7
                                  have ic8 := mt (p1_eq (x := x0) (y := 7) (m := x0.toInt) (n := 7) rfl (by decide)).mpr c8
                                  have ic9 := mt (p1_eq (x := x0) (y := 8) (m := x0.toInt) (n := 8) rfl (by decide)).mpr c9
                                  have ic10 := mt (p1_eq (x := x0) (y := 9) (m := x0.toInt) (n := 9) rfl (by decide)).mpr c10
                                  have ic11 := mt (p1_eq (x := x0) (y := 10) (m := x0.toInt) (n := 10) rfl (by decide)).mpr c11
                                  have ic12 := mt (p1_eq (x := x0) (y := 11) (m := x0.toInt) (n := 11) rfl (by decide)).mpr c12
                                  have ic13 := mt (p1_eq (x := x0) (y := 12) (m := x0.toInt) (n := 12) rfl (by decide)).mpr c13
                                  have ic14 := mt (p1_eq (x := x0) (y := 13) (m := x0.toInt) (n := 13) rfl (by decide)).mpr c14
                                  have ic15 := mt (p1_eq (x := x0) (y := 14) (m := x0.toInt) (n := 14) rfl (by decide)).mpr c15
                                  have ic16 := (p1_eq (x := x0) (y := 15) (m := x0.toInt) (n := 15) rfl (by decide)).mp c16
                                  obtain ⟨H1, e, f⟩ := fm_state_15 (sL := sL) (sx := sx) (cs := cs) (x0 := x0) (p1_c157 P) c1 c2 c3 c4 c5 c6 c7 c8 c9 c10 c11 c12 c13 c14 c15 c16
                                  refine ⟨H1, ?_⟩
                                  rw [if_neg (mt (p1_eq (x := x0) (y := 0) (m := x0.toInt) (n := 0) rfl (by decide)).mp (by omega)), if_neg (mt (p1_eq (x := x0) (y := 1) (m := x0.toInt) (n := 1) rfl (by decide)).mp (by omega)), if_neg (mt (p1_eq (x := x0) (y := 2) (m := x0.toInt) (n := 2) rfl (by decide)).mp (by omega)), if_neg (mt (p1_eq (x := x0) (y := 3) (m := x0.toInt) (n := 3) rfl (by decide)).mp (by omega)), if_neg (mt (p1_eq (x := x0) (y := 4) (m := x0.toInt) (n := 4) rfl (by decide)).mp (by omega)), if_neg (mt (p1_eq (x := x0) (y := 5) (m := x0.toInt) (n := 5) rfl (by decide)).mp (by omega)), if_neg (mt (p1_eq (x := x0) (y := 6) (m := x0.toInt) (n := 6) rfl (by decide)).mp (by omega)), if_neg (mt (p1_eq (x := x0) (y := 7) (m := x0.toInt) (n := 7) rfl (by decide)).mp (by omega)), if_neg (mt (p1_eq (x := x0) (y := 8) (m := x0.toInt) (n := 8) rfl (by decide)).mp (by omega)), if_neg (mt (p1_eq (x := x0) (y := 9) (m := x0.toInt) (n := 9) rfl (by decide)).mp (by omega)), if_neg (mt (p1_eq (x := x0) (y := 10) (m := x0.toInt) (n := 10) rfl (by decide)).mp (by omega)), if_neg (mt (p1_eq (x := x0) (y := 11) (m := x0.toInt) (n := 11) rfl (by decide)).mp (by omega)), if_neg (mt (p1_eq (x := x0) (y := 12) (m := x0.toInt) (n := 12) rfl (by decide)).mp (by omega)), if_neg (mt (p1_eq (x := x0) (y := 13) (m := x0.toInt) (n := 13) rfl (by decide)).mp (by omega)), if_neg (mt (p1_eq (x := x0) (y := 14) (m := x0.toInt) (n := 14) rfl (by decide)).mp (by omega)), if_pos ((p1_eq (x := x0) (y := 15) (m := x0.toInt) (n := 15) rfl (by decide)).mpr (by omega))]
                                  exact e
                                · by_cases c17 : x0 = 16
                                  · have ic1 := mt (p1_eq (x := x0) (y := 0) (m := x0.toInt) (n := 0) rfl (by decide)).mpr c1
                                    have ic2 := mt (p1_eq (x := x0) (y := 1) (m := x0.toInt) (n := 1) rfl (by decide)).mpr c2
                                    have ic3 := mt (p1_eq (x := x0) (y := 2) (m := x0.toInt) (n := 2) rfl (by decide)).mpr c3
                                    have ic4 := mt (p1_eq (x := x0) (y := 3) (m := x0.toInt) (n := 3) rfl (by decide)).mpr c4
                                    have ic5 := mt (p1_eq (x := x0) (y := 4) (m := x0.toInt) (n := 4) rfl (by decide)).mpr c5
                                    have ic6 := mt (p1_eq (x := x0) (y := 5) (m := x0.toInt) (n := 5) rfl (by decide)).mpr c6
                                    have ic7 := mt (p1_eq (x := x0) (y := 6) (m := x0.toInt) (n := 6) rfl (by decide)).mpr c7
                                    have ic8 := mt (p1_eq (x := x0) (y := 7) (m := x0.toInt) (n := 7) rfl (by decide)).mpr c8
                                    have ic9 := mt (p1_eq (x := x0) (y := 8) (m := x0.toInt) (n := 8) rfl (by decide)).mpr c9
                                    have ic10 := mt (p1_eq (x := x0) (y := 9) (m := x0.toInt) (n := 9) rfl (by decide)).mpr c10
                                    have ic11 := mt (p1_eq (x := x0) (y := 10) (m := x0.toInt) (n := 10) rfl (by decide)).mpr c11
                                    have ic12 := mt (p1_eq (x := x0) (y := 11) (m := x0.toInt) (n := 11) rfl (by decide)).mpr c12
                                    have ic13 := mt (p1_eq (x := x0) (y := 12) (m := x0.toInt) (n := 12) rfl (by decide)).mpr c13
                                    have ic14 := mt (p1_eq (x := x0) (y := 13) (m := x0.toInt) (n := 13) rfl (by decide)).mpr c14
                                    have ic15 := mt (p1_eq (x := x0) (y := 14) (m := x0.toInt) (n := 14) rfl (by decide)).mpr c15
                                    have ic16 := mt (p1_eq (x := x0) (y := 15) (m := x0.toInt) (n := 15) rfl (by decide)).mpr c16
                                    have ic17 := (p1_eq (x := x0) (y := 16) (m := x0.toInt) (n := 16) rfl (by decide)).mp c17
                                    obtain ⟨H1, e, f⟩ := fm_state_16 (sL := sL) (sx := sx) (cs := cs) (x0 := x0) (p1_c157 P) c1 c2 c3 c4 c5 c6 c7 c8 c9 c10 c11 c12 c13 c14 c15 c16 c17
                                    refine ⟨H1, ?_⟩
                                    rw [if_neg (mt (p1_eq (x := x0) (y := 0) (m := x0.toInt) (n := 0) rfl (by decide)).mp (by omega)), if_neg (mt (p1_eq (x := x0) (y := 1) (m := x0.toInt) (n := 1) rfl (by decide)).mp (by omega)), if_neg (mt (p1_eq (x := x0) (y := 2) (m := x0.toInt) (n := 2) rfl (by decide)).mp (by omega)), if_neg (mt (p1_eq (x := x0) (y := 3) (m := x0.toInt) (n := 3) rfl (by decide)).mp (by omega)), if_neg (mt (p1_eq (x := x0) (y := 4) (m := x0.toInt) (n := 4) rfl (by decide)).mp (by omega)), if_neg (mt (p1_eq (x := x0) (y := 5) (m := x0.toInt) (n := 5) rfl (by decide)).mp (by omega)), if_neg (mt (p1_eq (x := x0) (y := 6) (m := x0.toInt) (n := 6) rfl (by decide)).mp (by omega)), if_neg (mt (p1_eq (x := x0) (y := 7) (m := x0.toInt) (n := 7) rfl (by decide)).mp (by omega)), if_neg (mt (p1_eq (x := x0) (y := 8) (m := x0.toInt) (n := 8) rfl (by decide)).mp (by omega)), if_neg (mt (p1_eq (x := x0) (y := 9) (m := x0.toInt) (n := 9) rfl (by decide)).mp (by omega)), if_neg (mt (p1_eq (x := x0) (y := 10) (m := x0.toInt) (n := 10) rfl (by decide)).mp (by omega)), if_neg (mt (p1_eq (x := x0) (y := 11) (m := x0.toInt) (n := 11) rfl (by decide)).mp (by omega)), if_neg (mt (p1_eq (x := x0) (y := 12) (m := x0.toInt) (n := 12) rfl (by decide)).mp (by omega)), if_neg (mt (p1_eq (x := x0) (y := 13) (m := x0.toInt) (n := 13) rfl (by decide)).mp (by omega)), if_neg (mt (p1_eq (x := x0) (y := 14) (m := x0.toInt) (n := 14) rfl (by decide)).mp (by omega)), if_neg (mt (p1_eq (x := x0) (y := 15) (m := x0.toInt) (n := 15) rfl (by decide)).mp (by omega)), if_pos ((p1_eq (x := x0) (y := 16) (m := x0.toInt) (n := 16) rfl (by decide)).mpr (by omega))]
                                    exact e
                                  · by_cases c18 : x0 = 17
                                    · have ic1 := mt (p1_eq (x := x0) (y := 0) (m := x0.toInt) (n := 0) rfl (by decide)).mpr c1
                                      have ic2 := mt (p1_eq (x := x0) (y := 1) (m := x0.toInt) (n := 1) rfl (by decide)).mpr c2
                                      have ic3 := mt (p1_eq (x := x0) (y := 2) (m := x0.toInt) (n := 2) rfl (by decide)).mpr c3
                                      have ic4 := mt (p1_eq (x := x0) (y := 3) (m := x0.toInt) (n := 3) rfl (by decide)).mpr c4
                                      have ic5 := mt (p1_eq (x := x0) (y := 4) (m := x0.toInt) (n := 4) rfl (by decide)).mpr c5
                                      have ic6 := mt (p1_eq (x := x0) (y := 5) (m := x0.toInt) (n := 5) rfl (by decide)).mpr c6
                                      have ic7 := mt (p1_eq (x := x0) (y := 6) (m := x0.toInt) (n := 6) rfl (by decide)).mpr c7
                                      have ic8 := mt (p1_eq (x := x0) (y := 7) (m := x0.toInt) (n := 7) rfl (by decide)).mpr c8
                                      have ic9 := mt (p1_eq (x := x0) (y := 8) (m := x0.toInt) (n := 8) rfl (by decide)).mpr c9
                                      have ic10 := mt (p1_eq (x := x0) (y := 9) (m := x0.toInt) (n := 9) rfl (by decide)).mpr c10
                                      have ic11 := mt (p1_eq (x := x0) (y := 10) (m := x0.toInt) (n := 10) rfl (by decide)).mpr c11
                                      have ic12 := mt (p1_eq (x := x0) (y := 11) (m := x0.toInt) (n := 11) rfl (by decide)).mpr c12
                                      have ic13 := mt (p1_eq (x := x0) (y := 12) (m := x0.toInt) (n := 12) rfl (by decide)).mpr c13
                                      have ic14 := mt (p1_eq (x := x0) (y := 13) (m := x0.toInt) (n := 13) rfl (by decide)).mpr c14
                                      have ic15 := mt (p1_eq (x := x0) (y := 14) (m := x0.toInt) (n := 14) rfl (by decide)).mpr c15
                                      have ic16 := mt (p1_eq (x := x0) (y := 15) (m := x0.toInt) (n := 15) rfl (by decide)).mpr c16
                                      have ic17 := mt (p1_eq (x := x0) (y := 16) (m := x0.toInt) (n := 16) rfl (by decide)).mpr c17
                                      have ic18 := (p1_eq (x := x0) (y := 17) (m := x0.toInt) (n := 17) rfl (by decide)).mp c18
                                      obtain ⟨H1, e, f⟩ := fm_state_17 (sL := sL) (sx := sx) (cs := cs) (x0 := x0) (p1_c157 P) c1 c2 c3 c4 c5 c6 c7 c8 c9 c10 c11 c12 c13 c14 c15 c16 c17 c18
                                      refine ⟨H1, ?_⟩
                                      rw [if_neg (mt (p1_eq (x := x0) (y := 0) (m := x0.toInt) (n := 0) rfl (by decide)).mp (by omega)), if_neg (mt (p1_eq (x := x0) (y := 1) (m := x0.toInt) (n := 1) rfl (by decide)).mp (by omega)), if_neg (mt (p1_eq (x := x0) (y := 2) (m := x0.toInt) (n := 2) rfl (by decide)).mp (by omega)), if_neg (mt (p1_eq (x := x0) (y := 3) (m := x0.toInt) (n := 3) rfl (by decide)).mp (by omega)), if_neg (mt (p1_eq (x := x0) (y := 4) (m := x0.toInt) (n := 4) rfl (by decide)).mp (by omega)), if_neg (mt (p1_eq (x := x0) (y := 5) (m := x0.toInt) (n := 5) rfl (by decide)).mp (by omega)), if_neg (mt (p1_eq (x := x0) (y := 6) (m := x0.toInt) (n := 6) rfl (by decide)).mp (by omega)), if_neg (mt (p1_eq (x := x0) (y := 7) (m := x0.toInt) (n := 7) rfl (by decide)).mp (by omega)), if_neg (mt (p1_eq (x := x0) (y := 8) (m := x0.toInt) (n := 8) rfl (by decide)).mp (by omega)), if_neg (mt (p1_eq (x := x0) (y := 9) (m := x0.toInt) (n := 9) rfl (by decide)).mp (by omega)), if_neg (mt (p1_eq (x := x0) (y := 10) (m := x0.toInt) (n := 10) rfl (by decide)).mp (by omega)), if_neg (mt (p1_eq (x := x0) (y := 11) (m := x0.toInt) (n := 11) rfl (by decide)).mp (by omega)), if_neg (mt (p1_eq (x := x0) (y := 12) (m := x0.toInt) (n := 12) rfl (by decide)).mp (by omega)), if_neg (mt (p1_eq (x := x0) (y := 13) (m := x0.toInt) (n := 13) rfl (by decide)).mp (by omega)), if_neg (mt (p1_eq (x := x0) (y := 14) (m := x0.toInt) (n := 14) rfl (by decide)).mp (by omega)), if_neg (mt (p1_eq (x := x0) (y := 15) (m := x0.toInt) (n := 15) rfl (by decide)).mp (by omega)), if_neg (mt (p1_eq (x := x0) (y := 16) (m := x0.toInt) (n := 16) rfl (by decide)).mp (by omega)), if_pos ((p1_eq (x := x0) (y := 17) (m := x0.toInt) (n := 17) rfl (by decide)).mpr (by omega))]
                                      exact e
                                    · by_cases c19 : x0 = 18
                                      · have ic1 := mt (p1_eq (x := x0) (y := 0) (m := x0.toInt) (n := 0) rfl (by decide)).mpr c1
                                        have ic2 := mt (p1_eq (x := x0) (y := 1) (m := x0.toInt) (n := 1) rfl (by decide)).mpr c2
                                        have ic3 := mt (p1_eq (x := x0) (y := 2) (m := x0.toInt) (n := 2) rfl (by decide)).mpr c3
                                        have ic4 := mt (p1_eq (x := x0) (y := 3) (m := x0.toInt) (n := 3) rfl (by decide)).mpr c4
                                        have ic5 := mt (p1_eq (x := x0) (y := 4) (m := x0.toInt) (n := 4) rfl (by decide)).mpr c5
                                        have ic6 := mt (p1_eq (x := x0) (y := 5) (m := x0.toInt) (n := 5) rfl (by decide)).mpr c6
                                        have ic7 := mt (p1_eq (x := x0) (y := 6) (m := x0.toInt) (n := 6) rfl (by decide)).mpr c7
                                        have ic8 := mt (p1_eq (x := x0) (y := 7) (m := x0.toInt) (n := 7) rfl (by decide)).mpr c8
                                        have ic9 := mt (p1_eq (x := x0) (y := 8) (m := x0.toInt) (n := 8) rfl (by decide)).mpr c9
                                        have ic10 := mt (p1_eq (x := x0) (y := 9) (m := x0.toInt) (n := 9) rfl (by decide)).mpr c10
                                        have ic11 := mt (p1_eq (x := x0) (y := 10) (m := x0.toInt) (n := 10) rfl (by decide)).mpr c11
                                        have ic12 := mt (p1_eq (x := x0) (y := 11) (m := x0.toInt) (n := 11) rfl (by decide)).mpr c12
                                        have ic13 := mt (p1_eq (x := x0) (y := 12) (m := x0.toInt) (n := 12) rfl (by decide)).mpr c13
                                        have ic14 := mt (p1_eq (x := x0) (y := 13) (m := x0.toInt) (n := 13) rfl (by decide)).mpr c14
                                        have ic15 := mt (p1_eq (x := x0) (y := 14) (m := x0.toInt) (n := 14) rfl (by decide)).mpr c15
                                        have ic16 := mt (p1_eq (x := x0) (y := 15) (m := x0.toInt) (n := 15) rfl (by decide)).mpr c16
                                        have ic17 := mt (p1_eq (x := x0) (y := 16) (m := x0.toInt) (n := 16) rfl (by decide)).mpr c17
                                        have ic18 := mt (p1_eq (x := x0) (y := 17) (m := x0.toInt) (n := 17) rfl (by decide)).mpr c18
                                        have ic19 := (p1_eq (x := x0) (y := 18) (m := x0.toInt) (n := 18) rfl (by decide)).mp c19
                                        obtain ⟨H1, e, f⟩ := fm_state_18 (sL := sL) (sx := sx) (cs := cs) (x0 := x0) (p1_c157 P) c1 c2 c3 c4 c5 c6 c7 c8 c9 c10 c11 c12 c13 c14 c15 c16 c17 c18 c19
                                        refine ⟨H1, ?_⟩
                                        rw [if_neg (mt (p1_eq (x := x0) (y := 0) (m := x0.toInt) (n := 0) rfl (by decide)).mp (by omega)), if_neg (mt (p1_eq (x := x0) (y := 1) (m := x0.toInt) (n := 1) rfl (by decide)).mp (by omega)), if_neg (mt (p1_eq (x := x0) (y := 2) (m := x0.toInt) (n := 2) rfl (by decide)).mp (by omega)), if_neg (mt (p1_eq (x := x0) (y := 3) (m := x0.toInt) (n := 3) rfl (by decide)).mp (by omega)), if_neg (mt (p1_eq (x := x0) (y := 4) (m := x0.toInt) (n := 4) rfl (by decide)).mp (by omega)), if_neg (mt (p1_eq (x := x0) (y := 5) (m := x0.toInt) (n := 5) rfl (by decide)).mp (by omega)), if_neg (mt (p1_eq (x := x0) (y := 6) (m := x0.toInt) (n := 6) rfl (by decide)).mp (by omega)), if_neg (mt (p1_eq (x := x0) (y := 7) (m := x0.toInt) (n := 7) rfl (by decide)).mp (by omega)), if_neg (mt (p1_eq (x := x0) (y := 8) (m := x0.toInt) (n := 8) rfl (by decide)).mp (by omega)), if_neg (mt (p1_eq (x := x0) (y := 9) (m := x0.toInt) (n := 9) rfl (by decide)).mp (by omega)), if_neg (mt (p1_eq (x := x0) (y := 10) (m := x0.toInt) (n := 10) rfl (by decide)).mp (by omega)), if_neg (mt (p1_eq (x := x0) (y := 11) (m := x0.toInt) (n := 11) rfl (by decide)).mp (by omega)), if_neg (mt (p1_eq (x := x0) (y := 12) (m := x0.toInt) (n := 12) rfl (by decide)).mp (by omega)), if_neg (mt (p1_eq (x := x0) (y := 13) (m := x0.toInt) (n := 13) rfl (by decide)).mp (by omega)), if_neg (mt (p1_eq (x := x0) (y := 14) (m := x0.toInt) (n := 14) rfl (by decide)).mp (by omega)), if_neg (mt (p1_eq (x := x0) (y := 15) (m := x0.toInt) (n := 15) rfl (by decide)).mp (by omega)), if_neg (mt (p1_eq (x := x0) (y := 16) (m := x0.toInt) (n := 16) rfl (by decide)).mp (by omega)), if_neg (mt (p1_eq (x := x0) (y := 17) (m := x0.toInt) (n := 17) rfl (by decide)).mp (by omega))]
                                        exact e
                                      · have ic1 := mt (p1_eq (x := x0) (y := 0) (m := x0.toInt) (n := 0) rfl (by decide)).mpr c1
                                        have ic2 := mt (p1_eq (x := x0) (y := 1) (m := x0.toInt) (n := 1) rfl (by decide)).mpr c2
                                        have ic3 := mt (p1_eq (x := x0) (y := 2) (m := x0.toInt) (n := 2) rfl (by decide)).mpr c3
                                        have ic4 := mt (p1_eq (x := x0) (y := 3) (m := x0.toInt) (n := 3) rfl (by decide)).mpr c4
                                        have ic5 := mt (p1_eq (x := x0) (y := 4) (m := x0.toInt) (n := 4) rfl (by decide)).mpr c5
                                        have ic6 := mt (p1_eq (x := x0) (y := 5) (m := x0.toInt) (n := 5) rfl (by decide)).mpr c6
                                        have ic7 := mt (p1_eq (x := x0) (y := 6) (m := x0.toInt) (n := 6) rfl (by decide)).mpr c7
                                        have ic8 := mt (p1_eq (x := x0) (y := 7) (m := x0.toInt) (n := 7) rfl (by decide)).mpr c8
                                        have ic9 := mt (p1_eq (x := x0) (y := 8) (m := x0.toInt) (n := 8) rfl (by decide)).mpr c9
                                        have ic10 := mt (p1_eq (x := x0) (y := 9) (m := x0.toInt) (n := 9) rfl (by decide)).mpr c10
                                        have ic11 := mt (p1_eq (x := x0) (y := 10) (m := x0.toInt) (n := 10) rfl (by decide)).mpr c11
                                        have ic12 := mt (p1_eq (x := x0) (y := 11) (m := x0.toInt) (n := 11) rfl (by decide)).mpr c12
                                        have ic13 := mt (p1_eq (x := x0) (y := 12) (m := x0.toInt) (n := 12) rfl (by decide)).mpr c13
                                        have ic14 := mt (p1_eq (x := x0) (y := 13) (m := x0.toInt) (n := 13) rfl (by decide)).mpr c14
                                        have ic15 := mt (p1_eq (x := x0) (y := 14) (m := x0.toInt) (n := 14) rfl (by decide)).mpr c15
                                        have ic16 := mt (p1_eq (x := x0) (y := 15) (m := x0.toInt) (n := 15) rfl (by decide)).mpr c16
                                        have ic17 := mt (p1_eq (x := x0) (y := 16) (m := x0.toInt) (n := 16) rfl (by decide)).mpr c17
                                        have ic18 := mt (p1_eq (x := x0) (y := 17) (m := x0.toInt) (n := 17) rfl (by decide)).mpr c18
                                        have ic19 := mt (p1_eq (x := x0) (y := 18) (m := x0.toInt) (n := 18) rfl (by decide)).mpr c19
                                        obtain ⟨H1, e, f⟩ := fm_state_19 (sL := sL) (sx := sx) (cs := cs) (x0 := x0) (p1_c157 P) c1 c2 c3 c4 c5 c6 c7 c8 c9 c10 c11 c12 c13 c14 c15 c16 c17 c18 c19
                                        refine ⟨H1, ?_⟩
                                        rw [if_neg (mt (p1_eq (x := x0) (y := 0) (m := x0.toInt) (n := 0) rfl (by decide)).mp (by omega)), if_neg (mt (p1_eq (x := x0) (y := 1) (m := x0.toInt) (n := 1) rfl (by decide)).mp (by omega)), if_neg (mt (p1_eq (x := x0) (y := 2) (m := x0.toInt) (n := 2) rfl (by decide)).mp (by omega)), if_neg (mt (p1_eq (x := x0) (y := 3) (m := x0.toInt) (n := 3) rfl (by decide)).mp (by omega)), if_neg (mt (p1_eq (x := x0) (y := 4) (m := x0.toInt) (n := 4) rfl (by decide)).mp (by omega)), if_neg (mt (p1_eq (x := x0) (y := 5) (m := x0.toInt) (n := 5) rfl (by decide)).mp (by omega)), if_neg (mt (p1_eq (x := x0) (y := 6) (m := x0.toInt) (n := 6) rfl (by decide)).mp (by omega)), if_neg (mt (p1_eq (x := x0) (y := 7) (m := x0.toInt) (n := 7) rfl (by decide)).mp (by omega)), if_neg (mt (p1_eq (x := x0) (y := 8) (m := x0.toInt) (n := 8) rfl (by decide)).mp (by omega)), if_neg (mt (p1_eq (x := x0) (y := 9) (m := x0.toInt) (n := 9) rfl (by decide)).mp (by omega)), if_neg (mt (p1_eq (x := x0) (y := 10) (m := x0.toInt) (n := 10) rfl (by decide)).mp (by omega)), if_neg (mt (p1_eq (x := x0) (y := 11) (m := x0.toInt) (n := 11) rfl (by decide)).mp (by omega)), if_neg (mt (p1_eq (x := x0) (y := 12) (m := x0.toInt) (n := 12) rfl (by decide)).mp (by omega)), if_neg (mt (p1_eq (x := x0) (y := 13) (m := x0.toInt) (n := 13) rfl (by decide)).mp (by omega)), if_neg (mt (p1_eq (x := x0) (y := 14) (m := x0.toInt) (n := 14) rfl (by decide)).mp (by omega)), if_neg (mt (p1_eq (x := x0) (y := 15) (m := x0.toInt) (n := 15) rfl (by decide)).mp (by omega)), if_neg (mt (p1_eq (x := x0) (y := 16) (m := x0.toInt) (n := 16) rfl (by decide)).mp (by omega)), if_neg (mt (p1_eq (x := x0) (y := 17) (m := x0.toInt) (n := 17) rfl (by decide)).mp (by omega))]
                                        exact e

set_option maxRecDepth 100000 in
theorem pm_count {sL : Nat} {sx : Nat → Int32} {cs : Nat → Nat → Option Int32} {v3 : Int32} {h b : Nat} {H : am_H} {x0 : Int32} (P : p1_Pm v3 h b H) (dm : p1_D v3 h b) : ∃ H1 : am_H, aX sL sx cs 415 0 [(0, .ref 157), (1, .int x0)] [] H 0 0 = some ((some (.int (if x0 = 0 then (0 : Int32) else (if x0 = 1 then (0 : Int32) else (if x0 = 2 then (0 : Int32) else (if x0 = 3 then (0 : Int32) else (if x0 = 4 then (0 : Int32) else (if x0 = 5 then (0 : Int32) else (if x0 = 6 then (0 : Int32) else (if x0 = 7 then (0 : Int32) else (if x0 = 8 then (0 : Int32) else (if x0 = 9 then (0 : Int32) else (if x0 = 10 then (0 : Int32) else (if x0 = 11 then (0 : Int32) else (if x0 = 12 then (0 : Int32) else (if x0 = 13 then (0 : Int32) else (if x0 = 14 then (0 : Int32) else (if x0 = 17 then (127 : Int32) else (if x0 = 18 then (0 : Int32) else (-1)))))))))))))))))))), H1, 0, 0) := by
  obtain ⟨d1, d2, d3, d4⟩ := dm
  by_cases c1 : x0 = 0
  · have ic1 := (p1_eq (x := x0) (y := 0) (m := x0.toInt) (n := 0) rfl (by decide)).mp c1
    obtain ⟨H1, e, f⟩ := fm_count_0 (sL := sL) (sx := sx) (cs := cs) (x0 := x0) (p1_c157 P) (p1_c172 P) c1
    refine ⟨H1, ?_⟩
    rw [if_pos ((p1_eq (x := x0) (y := 0) (m := x0.toInt) (n := 0) rfl (by decide)).mpr (by omega))]
    exact e
  · by_cases c2 : x0 = 1
    · have ic1 := mt (p1_eq (x := x0) (y := 0) (m := x0.toInt) (n := 0) rfl (by decide)).mpr c1
      have ic2 := (p1_eq (x := x0) (y := 1) (m := x0.toInt) (n := 1) rfl (by decide)).mp c2
      obtain ⟨H1, e, f⟩ := fm_count_1 (sL := sL) (sx := sx) (cs := cs) (x0 := x0) (p1_c157 P) (p1_c172 P) c1 c2
      refine ⟨H1, ?_⟩
      rw [if_neg (mt (p1_eq (x := x0) (y := 0) (m := x0.toInt) (n := 0) rfl (by decide)).mp (by omega)), if_pos ((p1_eq (x := x0) (y := 1) (m := x0.toInt) (n := 1) rfl (by decide)).mpr (by omega))]
      exact e
    · by_cases c3 : x0 = 2
      · have ic1 := mt (p1_eq (x := x0) (y := 0) (m := x0.toInt) (n := 0) rfl (by decide)).mpr c1
        have ic2 := mt (p1_eq (x := x0) (y := 1) (m := x0.toInt) (n := 1) rfl (by decide)).mpr c2
        have ic3 := (p1_eq (x := x0) (y := 2) (m := x0.toInt) (n := 2) rfl (by decide)).mp c3
        obtain ⟨H1, e, f⟩ := fm_count_2 (sL := sL) (sx := sx) (cs := cs) (x0 := x0) (p1_c157 P) (p1_c172 P) c1 c2 c3
        refine ⟨H1, ?_⟩
        rw [if_neg (mt (p1_eq (x := x0) (y := 0) (m := x0.toInt) (n := 0) rfl (by decide)).mp (by omega)), if_neg (mt (p1_eq (x := x0) (y := 1) (m := x0.toInt) (n := 1) rfl (by decide)).mp (by omega)), if_pos ((p1_eq (x := x0) (y := 2) (m := x0.toInt) (n := 2) rfl (by decide)).mpr (by omega))]
        exact e
      · by_cases c4 : x0 = 3
        · have ic1 := mt (p1_eq (x := x0) (y := 0) (m := x0.toInt) (n := 0) rfl (by decide)).mpr c1
          have ic2 := mt (p1_eq (x := x0) (y := 1) (m := x0.toInt) (n := 1) rfl (by decide)).mpr c2
          have ic3 := mt (p1_eq (x := x0) (y := 2) (m := x0.toInt) (n := 2) rfl (by decide)).mpr c3
          have ic4 := (p1_eq (x := x0) (y := 3) (m := x0.toInt) (n := 3) rfl (by decide)).mp c4
          obtain ⟨H1, e, f⟩ := fm_count_3 (sL := sL) (sx := sx) (cs := cs) (x0 := x0) (p1_c157 P) (p1_c172 P) c1 c2 c3 c4
          refine ⟨H1, ?_⟩
          rw [if_neg (mt (p1_eq (x := x0) (y := 0) (m := x0.toInt) (n := 0) rfl (by decide)).mp (by omega)), if_neg (mt (p1_eq (x := x0) (y := 1) (m := x0.toInt) (n := 1) rfl (by decide)).mp (by omega)), if_neg (mt (p1_eq (x := x0) (y := 2) (m := x0.toInt) (n := 2) rfl (by decide)).mp (by omega)), if_pos ((p1_eq (x := x0) (y := 3) (m := x0.toInt) (n := 3) rfl (by decide)).mpr (by omega))]
          exact e
        · by_cases c5 : x0 = 4
          · have ic1 := mt (p1_eq (x := x0) (y := 0) (m := x0.toInt) (n := 0) rfl (by decide)).mpr c1
            have ic2 := mt (p1_eq (x := x0) (y := 1) (m := x0.toInt) (n := 1) rfl (by decide)).mpr c2
            have ic3 := mt (p1_eq (x := x0) (y := 2) (m := x0.toInt) (n := 2) rfl (by decide)).mpr c3
            have ic4 := mt (p1_eq (x := x0) (y := 3) (m := x0.toInt) (n := 3) rfl (by decide)).mpr c4
            have ic5 := (p1_eq (x := x0) (y := 4) (m := x0.toInt) (n := 4) rfl (by decide)).mp c5
            obtain ⟨H1, e, f⟩ := fm_count_4 (sL := sL) (sx := sx) (cs := cs) (x0 := x0) (p1_c157 P) (p1_c172 P) c1 c2 c3 c4 c5
            refine ⟨H1, ?_⟩
            rw [if_neg (mt (p1_eq (x := x0) (y := 0) (m := x0.toInt) (n := 0) rfl (by decide)).mp (by omega)), if_neg (mt (p1_eq (x := x0) (y := 1) (m := x0.toInt) (n := 1) rfl (by decide)).mp (by omega)), if_neg (mt (p1_eq (x := x0) (y := 2) (m := x0.toInt) (n := 2) rfl (by decide)).mp (by omega)), if_neg (mt (p1_eq (x := x0) (y := 3) (m := x0.toInt) (n := 3) rfl (by decide)).mp (by omega)), if_pos ((p1_eq (x := x0) (y := 4) (m := x0.toInt) (n := 4) rfl (by decide)).mpr (by omega))]
            exact e
          · by_cases c6 : x0 = 5
            · have ic1 := mt (p1_eq (x := x0) (y := 0) (m := x0.toInt) (n := 0) rfl (by decide)).mpr c1
              have ic2 := mt (p1_eq (x := x0) (y := 1) (m := x0.toInt) (n := 1) rfl (by decide)).mpr c2
              have ic3 := mt (p1_eq (x := x0) (y := 2) (m := x0.toInt) (n := 2) rfl (by decide)).mpr c3
              have ic4 := mt (p1_eq (x := x0) (y := 3) (m := x0.toInt) (n := 3) rfl (by decide)).mpr c4
              have ic5 := mt (p1_eq (x := x0) (y := 4) (m := x0.toInt) (n := 4) rfl (by decide)).mpr c5
              have ic6 := (p1_eq (x := x0) (y := 5) (m := x0.toInt) (n := 5) rfl (by decide)).mp c6
              obtain ⟨H1, e, f⟩ := fm_count_5 (sL := sL) (sx := sx) (cs := cs) (x0 := x0) (p1_c157 P) (p1_c172 P) c1 c2 c3 c4 c5 c6
              refine ⟨H1, ?_⟩
              rw [if_neg (mt (p1_eq (x := x0) (y := 0) (m := x0.toInt) (n := 0) rfl (by decide)).mp (by omega)), if_neg (mt (p1_eq (x := x0) (y := 1) (m := x0.toInt) (n := 1) rfl (by decide)).mp (by omega)), if_neg (mt (p1_eq (x := x0) (y := 2) (m := x0.toInt) (n := 2) rfl (by decide)).mp (by omega)), if_neg (mt (p1_eq (x := x0) (y := 3) (m := x0.toInt) (n := 3) rfl (by decide)).mp (by omega)), if_neg (mt (p1_eq (x := x0) (y := 4) (m := x0.toInt) (n := 4) rfl (by decide)).mp (by omega)), if_pos ((p1_eq (x := x0) (y := 5) (m := x0.toInt) (n := 5) rfl (by decide)).mpr (by omega))]
              exact e
            · by_cases c7 : x0 = 6
              · have ic1 := mt (p1_eq (x := x0) (y := 0) (m := x0.toInt) (n := 0) rfl (by decide)).mpr c1
                have ic2 := mt (p1_eq (x := x0) (y := 1) (m := x0.toInt) (n := 1) rfl (by decide)).mpr c2
                have ic3 := mt (p1_eq (x := x0) (y := 2) (m := x0.toInt) (n := 2) rfl (by decide)).mpr c3
                have ic4 := mt (p1_eq (x := x0) (y := 3) (m := x0.toInt) (n := 3) rfl (by decide)).mpr c4
                have ic5 := mt (p1_eq (x := x0) (y := 4) (m := x0.toInt) (n := 4) rfl (by decide)).mpr c5
                have ic6 := mt (p1_eq (x := x0) (y := 5) (m := x0.toInt) (n := 5) rfl (by decide)).mpr c6
                have ic7 := (p1_eq (x := x0) (y := 6) (m := x0.toInt) (n := 6) rfl (by decide)).mp c7
                obtain ⟨H1, e, f⟩ := fm_count_6 (sL := sL) (sx := sx) (cs := cs) (x0 := x0) (p1_c157 P) (p1_c172 P) c1 c2 c3 c4 c5 c6 c7
                refine ⟨H1, ?_⟩
                rw [if_neg (mt (p1_eq (x := x0) (y := 0) (m := x0.toInt) (n := 0) rfl (by decide)).mp (by omega)), if_neg (mt (p1_eq (x := x0) (y := 1) (m := x0.toInt) (n := 1) rfl (by decide)).mp (by omega)), if_neg (mt (p1_eq (x := x0) (y := 2) (m := x0.toInt) (n := 2) rfl (by decide)).mp (by omega)), if_neg (mt (p1_eq (x := x0) (y := 3) (m := x0.toInt) (n := 3) rfl (by decide)).mp (by omega)), if_neg (mt (p1_eq (x := x0) (y := 4) (m := x0.toInt) (n := 4) rfl (by decide)).mp (by omega)), if_neg (mt (p1_eq (x := x0) (y := 5) (m := x0.toInt) (n := 5) rfl (by decide)).mp (by omega)), if_pos ((p1_eq (x := x0) (y := 6) (m := x0.toInt) (n := 6) rfl (by decide)).mpr (by omega))]
                exact e
              · by_cases c8 : x0 = 7
                · have ic1 := mt (p1_eq (x := x0) (y := 0) (m := x0.toInt) (n := 0) rfl (by decide)).mpr c1
                  have ic2 := mt (p1_eq (x := x0) (y := 1) (m := x0.toInt) (n := 1) rfl (by decide)).mpr c2
                  have ic3 := mt (p1_eq (x := x0) (y := 2) (m := x0.toInt) (n := 2) rfl (by decide)).mpr c3
                  have ic4 := mt (p1_eq (x := x0) (y := 3) (m := x0.toInt) (n := 3) rfl (by decide)).mpr c4
                  have ic5 := mt (p1_eq (x := x0) (y := 4) (m := x0.toInt) (n := 4) rfl (by decide)).mpr c5
                  have ic6 := mt (p1_eq (x := x0) (y := 5) (m := x0.toInt) (n := 5) rfl (by decide)).mpr c6
                  have ic7 := mt (p1_eq (x := x0) (y := 6) (m := x0.toInt) (n := 6) rfl (by decide)).mpr c7
                  have ic8 := (p1_eq (x := x0) (y := 7) (m := x0.toInt) (n := 7) rfl (by decide)).mp c8
                  obtain ⟨H1, e, f⟩ := fm_count_7 (sL := sL) (sx := sx) (cs := cs) (x0 := x0) (p1_c157 P) (p1_c172 P) c1 c2 c3 c4 c5 c6 c7 c8
                  refine ⟨H1, ?_⟩
                  rw [if_neg (mt (p1_eq (x := x0) (y := 0) (m := x0.toInt) (n := 0) rfl (by decide)).mp (by omega)), if_neg (mt (p1_eq (x := x0) (y := 1) (m := x0.toInt) (n := 1) rfl (by decide)).mp (by omega)), if_neg (mt (p1_eq (x := x0) (y := 2) (m := x0.toInt) (n := 2) rfl (by decide)).mp (by omega)), if_neg (mt (p1_eq (x := x0) (y := 3) (m := x0.toInt) (n := 3) rfl (by decide)).mp (by omega)), if_neg (mt (p1_eq (x := x0) (y := 4) (m := x0.toInt) (n := 4) rfl (by decide)).mp (by omega)), if_neg (mt (p1_eq (x := x0) (y := 5) (m := x0.toInt) (n := 5) rfl (by decide)).mp (by omega)), if_neg (mt (p1_eq (x := x0) (y := 6) (m := x0.toInt) (n := 6) rfl (by decide)).mp (by omega)), if_pos ((p1_eq (x := x0) (y := 7) (m := x0.toInt) (n := 7) rfl (by decide)).mpr (by omega))]
                  exact e
                · by_cases c9 : x0 = 8
                  · have ic1 := mt (p1_eq (x := x0) (y := 0) (m := x0.toInt) (n := 0) rfl (by decide)).mpr c1
                    have ic2 := mt (p1_eq (x := x0) (y := 1) (m := x0.toInt) (n := 1) rfl (by decide)).mpr c2
                    have ic3 := mt (p1_eq (x := x0) (y := 2) (m := x0.toInt) (n := 2) rfl (by decide)).mpr c3
                    have ic4 := mt (p1_eq (x := x0) (y := 3) (m := x0.toInt) (n := 3) rfl (by decide)).mpr c4
                    have ic5 := mt (p1_eq (x := x0) (y := 4) (m := x0.toInt) (n := 4) rfl (by decide)).mpr c5
                    have ic6 := mt (p1_eq (x := x0) (y := 5) (m := x0.toInt) (n := 5) rfl (by decide)).mpr c6
                    have ic7 := mt (p1_eq (x := x0) (y := 6) (m := x0.toInt) (n := 6) rfl (by decide)).mpr c7
                    have ic8 := mt (p1_eq (x := x0) (y := 7) (m := x0.toInt) (n := 7) rfl (by decide)).mpr c8
                    have ic9 := (p1_eq (x := x0) (y := 8) (m := x0.toInt) (n := 8) rfl (by decide)).mp c9
                    obtain ⟨H1, e, f⟩ := fm_count_8 (sL := sL) (sx := sx) (cs := cs) (x0 := x0) (p1_c157 P) (p1_c172 P) c1 c2 c3 c4 c5 c6 c7 c8 c9
                    refine ⟨H1, ?_⟩
                    rw [if_neg (mt (p1_eq (x := x0) (y := 0) (m := x0.toInt) (n := 0) rfl (by decide)).mp (by omega)), if_neg (mt (p1_eq (x := x0) (y := 1) (m := x0.toInt) (n := 1) rfl (by decide)).mp (by omega)), if_neg (mt (p1_eq (x := x0) (y := 2) (m := x0.toInt) (n := 2) rfl (by decide)).mp (by omega)), if_neg (mt (p1_eq (x := x0) (y := 3) (m := x0.toInt) (n := 3) rfl (by decide)).mp (by omega)), if_neg (mt (p1_eq (x := x0) (y := 4) (m := x0.toInt) (n := 4) rfl (by decide)).mp (by omega)), if_neg (mt (p1_eq (x := x0) (y := 5) (m := x0.toInt) (n := 5) rfl (by decide)).mp (by omega)), if_neg (mt (p1_eq (x := x0) (y := 6) (m := x0.toInt) (n := 6) rfl (by decide)).mp (by omega)), if_neg (mt (p1_eq (x := x0) (y := 7) (m := x0.toInt) (n := 7) rfl (by decide)).mp (by omega)), if_pos ((p1_eq (x := x0) (y := 8) (m := x0.toInt) (n := 8) rfl (by decide)).mpr (by omega))]
                    exact e
                  · by_cases c10 : x0 = 9
                    · have ic1 := mt (p1_eq (x := x0) (y := 0) (m := x0.toInt) (n := 0) rfl (by decide)).mpr c1
                      have ic2 := mt (p1_eq (x := x0) (y := 1) (m := x0.toInt) (n := 1) rfl (by decide)).mpr c2
                      have ic3 := mt (p1_eq (x := x0) (y := 2) (m := x0.toInt) (n := 2) rfl (by decide)).mpr c3
                      have ic4 := mt (p1_eq (x := x0) (y := 3) (m := x0.toInt) (n := 3) rfl (by decide)).mpr c4
                      have ic5 := mt (p1_eq (x := x0) (y := 4) (m := x0.toInt) (n := 4) rfl (by decide)).mpr c5
                      have ic6 := mt (p1_eq (x := x0) (y := 5) (m := x0.toInt) (n := 5) rfl (by decide)).mpr c6
                      have ic7 := mt (p1_eq (x := x0) (y := 6) (m := x0.toInt) (n := 6) rfl (by decide)).mpr c7
                      have ic8 := mt (p1_eq (x := x0) (y := 7) (m := x0.toInt) (n := 7) rfl (by decide)).mpr c8
                      have ic9 := mt (p1_eq (x := x0) (y := 8) (m := x0.toInt) (n := 8) rfl (by decide)).mpr c9
                      have ic10 := (p1_eq (x := x0) (y := 9) (m := x0.toInt) (n := 9) rfl (by decide)).mp c10
                      obtain ⟨H1, e, f⟩ := fm_count_9 (sL := sL) (sx := sx) (cs := cs) (x0 := x0) (p1_c157 P) (p1_c172 P) c1 c2 c3 c4 c5 c6 c7 c8 c9 c10
                      refine ⟨H1, ?_⟩
                      rw [if_neg (mt (p1_eq (x := x0) (y := 0) (m := x0.toInt) (n := 0) rfl (by decide)).mp (by omega)), if_neg (mt (p1_eq (x := x0) (y := 1) (m := x0.toInt) (n := 1) rfl (by decide)).mp (by omega)), if_neg (mt (p1_eq (x := x0) (y := 2) (m := x0.toInt) (n := 2) rfl (by decide)).mp (by omega)), if_neg (mt (p1_eq (x := x0) (y := 3) (m := x0.toInt) (n := 3) rfl (by decide)).mp (by omega)), if_neg (mt (p1_eq (x := x0) (y := 4) (m := x0.toInt) (n := 4) rfl (by decide)).mp (by omega)), if_neg (mt (p1_eq (x := x0) (y := 5) (m := x0.toInt) (n := 5) rfl (by decide)).mp (by omega)), if_neg (mt (p1_eq (x := x0) (y := 6) (m := x0.toInt) (n := 6) rfl (by decide)).mp (by omega)), if_neg (mt (p1_eq (x := x0) (y := 7) (m := x0.toInt) (n := 7) rfl (by decide)).mp (by omega)), if_neg (mt (p1_eq (x := x0) (y := 8) (m := x0.toInt) (n := 8) rfl (by decide)).mp (by omega)), if_pos ((p1_eq (x := x0) (y := 9) (m := x0.toInt) (n := 9) rfl (by decide)).mpr (by omega))]
                      exact e
                    · by_cases c11 : x0 = 10
                      · have ic1 := mt (p1_eq (x := x0) (y := 0) (m := x0.toInt) (n := 0) rfl (by decide)).mpr c1
                        have ic2 := mt (p1_eq (x := x0) (y := 1) (m := x0.toInt) (n := 1) rfl (by decide)).mpr c2
                        have ic3 := mt (p1_eq (x := x0) (y := 2) (m := x0.toInt) (n := 2) rfl (by decide)).mpr c3
                        have ic4 := mt (p1_eq (x := x0) (y := 3) (m := x0.toInt) (n := 3) rfl (by decide)).mpr c4
                        have ic5 := mt (p1_eq (x := x0) (y := 4) (m := x0.toInt) (n := 4) rfl (by decide)).mpr c5
                        have ic6 := mt (p1_eq (x := x0) (y := 5) (m := x0.toInt) (n := 5) rfl (by decide)).mpr c6
                        have ic7 := mt (p1_eq (x := x0) (y := 6) (m := x0.toInt) (n := 6) rfl (by decide)).mpr c7
                        have ic8 := mt (p1_eq (x := x0) (y := 7) (m := x0.toInt) (n := 7) rfl (by decide)).mpr c8
                        have ic9 := mt (p1_eq (x := x0) (y := 8) (m := x0.toInt) (n := 8) rfl (by decide)).mpr c9
                        have ic10 := mt (p1_eq (x := x0) (y := 9) (m := x0.toInt) (n := 9) rfl (by decide)).mpr c10
                        have ic11 := (p1_eq (x := x0) (y := 10) (m := x0.toInt) (n := 10) rfl (by decide)).mp c11
                        obtain ⟨H1, e, f⟩ := fm_count_10 (sL := sL) (sx := sx) (cs := cs) (x0 := x0) (p1_c157 P) (p1_c172 P) c1 c2 c3 c4 c5 c6 c7 c8 c9 c10 c11
                        refine ⟨H1, ?_⟩
                        rw [if_neg (mt (p1_eq (x := x0) (y := 0) (m := x0.toInt) (n := 0) rfl (by decide)).mp (by omega)), if_neg (mt (p1_eq (x := x0) (y := 1) (m := x0.toInt) (n := 1) rfl (by decide)).mp (by omega)), if_neg (mt (p1_eq (x := x0) (y := 2) (m := x0.toInt) (n := 2) rfl (by decide)).mp (by omega)), if_neg (mt (p1_eq (x := x0) (y := 3) (m := x0.toInt) (n := 3) rfl (by decide)).mp (by omega)), if_neg (mt (p1_eq (x := x0) (y := 4) (m := x0.toInt) (n := 4) rfl (by decide)).mp (by omega)), if_neg (mt (p1_eq (x := x0) (y := 5) (m := x0.toInt) (n := 5) rfl (by decide)).mp (by omega)), if_neg (mt (p1_eq (x := x0) (y := 6) (m := x0.toInt) (n := 6) rfl (by decide)).mp (by omega)), if_neg (mt (p1_eq (x := x0) (y := 7) (m := x0.toInt) (n := 7) rfl (by decide)).mp (by omega)), if_neg (mt (p1_eq (x := x0) (y := 8) (m := x0.toInt) (n := 8) rfl (by decide)).mp (by omega)), if_neg (mt (p1_eq (x := x0) (y := 9) (m := x0.toInt) (n := 9) rfl (by decide)).mp (by omega)), if_pos ((p1_eq (x := x0) (y := 10) (m := x0.toInt) (n := 10) rfl (by decide)).mpr (by omega))]
                        exact e
                      · by_cases c12 : x0 = 11
                        · have ic1 := mt (p1_eq (x := x0) (y := 0) (m := x0.toInt) (n := 0) rfl (by decide)).mpr c1
                          have ic2 := mt (p1_eq (x := x0) (y := 1) (m := x0.toInt) (n := 1) rfl (by decide)).mpr c2
                          have ic3 := mt (p1_eq (x := x0) (y := 2) (m := x0.toInt) (n := 2) rfl (by decide)).mpr c3
                          have ic4 := mt (p1_eq (x := x0) (y := 3) (m := x0.toInt) (n := 3) rfl (by decide)).mpr c4
                          have ic5 := mt (p1_eq (x := x0) (y := 4) (m := x0.toInt) (n := 4) rfl (by decide)).mpr c5
                          have ic6 := mt (p1_eq (x := x0) (y := 5) (m := x0.toInt) (n := 5) rfl (by decide)).mpr c6
                          have ic7 := mt (p1_eq (x := x0) (y := 6) (m := x0.toInt) (n := 6) rfl (by decide)).mpr c7
                          have ic8 := mt (p1_eq (x := x0) (y := 7) (m := x0.toInt) (n := 7) rfl (by decide)).mpr c8
                          have ic9 := mt (p1_eq (x := x0) (y := 8) (m := x0.toInt) (n := 8) rfl (by decide)).mpr c9
                          have ic10 := mt (p1_eq (x := x0) (y := 9) (m := x0.toInt) (n := 9) rfl (by decide)).mpr c10
                          have ic11 := mt (p1_eq (x := x0) (y := 10) (m := x0.toInt) (n := 10) rfl (by decide)).mpr c11
                          have ic12 := (p1_eq (x := x0) (y := 11) (m := x0.toInt) (n := 11) rfl (by decide)).mp c12
                          obtain ⟨H1, e, f⟩ := fm_count_11 (sL := sL) (sx := sx) (cs := cs) (x0 := x0) (p1_c157 P) (p1_c172 P) c1 c2 c3 c4 c5 c6 c7 c8 c9 c10 c11 c12
                          refine ⟨H1, ?_⟩
                          rw [if_neg (mt (p1_eq (x := x0) (y := 0) (m := x0.toInt) (n := 0) rfl (by decide)).mp (by omega)), if_neg (mt (p1_eq (x := x0) (y := 1) (m := x0.toInt) (n := 1) rfl (by decide)).mp (by omega)), if_neg (mt (p1_eq (x := x0) (y := 2) (m := x0.toInt) (n := 2) rfl (by decide)).mp (by omega)), if_neg (mt (p1_eq (x := x0) (y := 3) (m := x0.toInt) (n := 3) rfl (by decide)).mp (by omega)), if_neg (mt (p1_eq (x := x0) (y := 4) (m := x0.toInt) (n := 4) rfl (by decide)).mp (by omega)), if_neg (mt (p1_eq (x := x0) (y := 5) (m := x0.toInt) (n := 5) rfl (by decide)).mp (by omega)), if_neg (mt (p1_eq (x := x0) (y := 6) (m := x0.toInt) (n := 6) rfl (by decide)).mp (by omega)), if_neg (mt (p1_eq (x := x0) (y := 7) (m := x0.toInt) (n := 7) rfl (by decide)).mp (by omega)), if_neg (mt (p1_eq (x := x0) (y := 8) (m := x0.toInt) (n := 8) rfl (by decide)).mp (by omega)), if_neg (mt (p1_eq (x := x0) (y := 9) (m := x0.toInt) (n := 9) rfl (by decide)).mp (by omega)), if_neg (mt (p1_eq (x := x0) (y := 10) (m := x0.toInt) (n := 10) rfl (by decide)).mp (by omega)), if_pos ((p1_eq (x := x0) (y := 11) (m := x0.toInt) (n := 11) rfl (by decide)).mpr (by omega))]
                          exact e
                        · by_cases c13 : x0 = 12
                          · have ic1 := mt (p1_eq (x := x0) (y := 0) (m := x0.toInt) (n := 0) rfl (by decide)).mpr c1
                            have ic2 := mt (p1_eq (x := x0) (y := 1) (m := x0.toInt) (n := 1) rfl (by decide)).mpr c2
                            have ic3 := mt (p1_eq (x := x0) (y := 2) (m := x0.toInt) (n := 2) rfl (by decide)).mpr c3
                            have ic4 := mt (p1_eq (x := x0) (y := 3) (m := x0.toInt) (n := 3) rfl (by decide)).mpr c4
                            have ic5 := mt (p1_eq (x := x0) (y := 4) (m := x0.toInt) (n := 4) rfl (by decide)).mpr c5
                            have ic6 := mt (p1_eq (x := x0) (y := 5) (m := x0.toInt) (n := 5) rfl (by decide)).mpr c6
                            have ic7 := mt (p1_eq (x := x0) (y := 6) (m := x0.toInt) (n := 6) rfl (by decide)).mpr c7
                            have ic8 := mt (p1_eq (x := x0) (y := 7) (m := x0.toInt) (n := 7) rfl (by decide)).mpr c8
                            have ic9 := mt (p1_eq (x := x0) (y := 8) (m := x0.toInt) (n := 8) rfl (by decide)).mpr c9
                            have ic10 := mt (p1_eq (x := x0) (y := 9) (m := x0.toInt) (n := 9) rfl (by decide)).mpr c10
                            have ic11 := mt (p1_eq (x := x0) (y := 10) (m := x0.toInt) (n := 10) rfl (by decide)).mpr c11
                            have ic12 := mt (p1_eq (x := x0) (y := 11) (m := x0.toInt) (n := 11) rfl (by decide)).mpr c12
                            have ic13 := (p1_eq (x := x0) (y := 12) (m := x0.toInt) (n := 12) rfl (by decide)).mp c13
                            obtain ⟨H1, e, f⟩ := fm_count_12 (sL := sL) (sx := sx) (cs := cs) (x0 := x0) (p1_c157 P) (p1_c172 P) c1 c2 c3 c4 c5 c6 c7 c8 c9 c10 c11 c12 c13
                            refine ⟨H1, ?_⟩
                            rw [if_neg (mt (p1_eq (x := x0) (y := 0) (m := x0.toInt) (n := 0) rfl (by decide)).mp (by omega)), if_neg (mt (p1_eq (x := x0) (y := 1) (m := x0.toInt) (n := 1) rfl (by decide)).mp (by omega)), if_neg (mt (p1_eq (x := x0) (y := 2) (m := x0.toInt) (n := 2) rfl (by decide)).mp (by omega)), if_neg (mt (p1_eq (x := x0) (y := 3) (m := x0.toInt) (n := 3) rfl (by decide)).mp (by omega)), if_neg (mt (p1_eq (x := x0) (y := 4) (m := x0.toInt) (n := 4) rfl (by decide)).mp (by omega)), if_neg (mt (p1_eq (x := x0) (y := 5) (m := x0.toInt) (n := 5) rfl (by decide)).mp (by omega)), if_neg (mt (p1_eq (x := x0) (y := 6) (m := x0.toInt) (n := 6) rfl (by decide)).mp (by omega)), if_neg (mt (p1_eq (x := x0) (y := 7) (m := x0.toInt) (n := 7) rfl (by decide)).mp (by omega)), if_neg (mt (p1_eq (x := x0) (y := 8) (m := x0.toInt) (n := 8) rfl (by decide)).mp (by omega)), if_neg (mt (p1_eq (x := x0) (y := 9) (m := x0.toInt) (n := 9) rfl (by decide)).mp (by omega)), if_neg (mt (p1_eq (x := x0) (y := 10) (m := x0.toInt) (n := 10) rfl (by decide)).mp (by omega)), if_neg (mt (p1_eq (x := x0) (y := 11) (m := x0.toInt) (n := 11) rfl (by decide)).mp (by omega)), if_pos ((p1_eq (x := x0) (y := 12) (m := x0.toInt) (n := 12) rfl (by decide)).mpr (by omega))]
                            exact e
                          · by_cases c14 : x0 = 13
                            · have ic1 := mt (p1_eq (x := x0) (y := 0) (m := x0.toInt) (n := 0) rfl (by decide)).mpr c1
                              have ic2 := mt (p1_eq (x := x0) (y := 1) (m := x0.toInt) (n := 1) rfl (by decide)).mpr c2
                              have ic3 := mt (p1_eq (x := x0) (y := 2) (m := x0.toInt) (n := 2) rfl (by decide)).mpr c3
                              have ic4 := mt (p1_eq (x := x0) (y := 3) (m := x0.toInt) (n := 3) rfl (by decide)).mpr c4
                              have ic5 := mt (p1_eq (x := x0) (y := 4) (m := x0.toInt) (n := 4) rfl (by decide)).mpr c5
                              have ic6 := mt (p1_eq (x := x0) (y := 5) (m := x0.toInt) (n := 5) rfl (by decide)).mpr c6
                              have ic7 := mt (p1_eq (x := x0) (y := 6) (m := x0.toInt) (n := 6) rfl (by decide)).mpr c7
                              have ic8 := mt (p1_eq (x := x0) (y := 7) (m := x0.toInt) (n := 7) rfl (by decide)).mpr c8
                              have ic9 := mt (p1_eq (x := x0) (y := 8) (m := x0.toInt) (n := 8) rfl (by decide)).mpr c9
                              have ic10 := mt (p1_eq (x := x0) (y := 9) (m := x0.toInt) (n := 9) rfl (by decide)).mpr c10
                              have ic11 := mt (p1_eq (x := x0) (y := 10) (m := x0.toInt) (n := 10) rfl (by decide)).mpr c11
                              have ic12 := mt (p1_eq (x := x0) (y := 11) (m := x0.toInt) (n := 11) rfl (by decide)).mpr c12
                              have ic13 := mt (p1_eq (x := x0) (y := 12) (m := x0.toInt) (n := 12) rfl (by decide)).mpr c13
                              have ic14 := (p1_eq (x := x0) (y := 13) (m := x0.toInt) (n := 13) rfl (by decide)).mp c14
                              obtain ⟨H1, e, f⟩ := fm_count_13 (sL := sL) (sx := sx) (cs := cs) (x0 := x0) (p1_c157 P) (p1_c172 P) c1 c2 c3 c4 c5 c6 c7 c8 c9 c10 c11 c12 c13 c14
                              refine ⟨H1, ?_⟩
                              rw [if_neg (mt (p1_eq (x := x0) (y := 0) (m := x0.toInt) (n := 0) rfl (by decide)).mp (by omega)), if_neg (mt (p1_eq (x := x0) (y := 1) (m := x0.toInt) (n := 1) rfl (by decide)).mp (by omega)), if_neg (mt (p1_eq (x := x0) (y := 2) (m := x0.toInt) (n := 2) rfl (by decide)).mp (by omega)), if_neg (mt (p1_eq (x := x0) (y := 3) (m := x0.toInt) (n := 3) rfl (by decide)).mp (by omega)), if_neg (mt (p1_eq (x := x0) (y := 4) (m := x0.toInt) (n := 4) rfl (by decide)).mp (by omega)), if_neg (mt (p1_eq (x := x0) (y := 5) (m := x0.toInt) (n := 5) rfl (by decide)).mp (by omega)), if_neg (mt (p1_eq (x := x0) (y := 6) (m := x0.toInt) (n := 6) rfl (by decide)).mp (by omega)), if_neg (mt (p1_eq (x := x0) (y := 7) (m := x0.toInt) (n := 7) rfl (by decide)).mp (by omega)), if_neg (mt (p1_eq (x := x0) (y := 8) (m := x0.toInt) (n := 8) rfl (by decide)).mp (by omega)), if_neg (mt (p1_eq (x := x0) (y := 9) (m := x0.toInt) (n := 9) rfl (by decide)).mp (by omega)), if_neg (mt (p1_eq (x := x0) (y := 10) (m := x0.toInt) (n := 10) rfl (by decide)).mp (by omega)), if_neg (mt (p1_eq (x := x0) (y := 11) (m := x0.toInt) (n := 11) rfl (by decide)).mp (by omega)), if_neg (mt (p1_eq (x := x0) (y := 12) (m := x0.toInt) (n := 12) rfl (by decide)).mp (by omega)), if_pos ((p1_eq (x := x0) (y := 13) (m := x0.toInt) (n := 13) rfl (by decide)).mpr (by omega))]
                              exact e
                            · by_cases c15 : x0 = 14
                              · have ic1 := mt (p1_eq (x := x0) (y := 0) (m := x0.toInt) (n := 0) rfl (by decide)).mpr c1
                                have ic2 := mt (p1_eq (x := x0) (y := 1) (m := x0.toInt) (n := 1) rfl (by decide)).mpr c2
                                have ic3 := mt (p1_eq (x := x0) (y := 2) (m := x0.toInt) (n := 2) rfl (by decide)).mpr c3
                                have ic4 := mt (p1_eq (x := x0) (y := 3) (m := x0.toInt) (n := 3) rfl (by decide)).mpr c4
                                have ic5 := mt (p1_eq (x := x0) (y := 4) (m := x0.toInt) (n := 4) rfl (by decide)).mpr c5
                                have ic6 := mt (p1_eq (x := x0) (y := 5) (m := x0.toInt) (n := 5) rfl (by decide)).mpr c6
                                have ic7 := mt (p1_eq (x := x0) (y := 6) (m := x0.toInt) (n := 6) rfl (by decide)).mpr c7
                                have ic8 := mt (p1_eq (x := x0) (y := 7) (m := x0.toInt) (n := 7) rfl (by decide)).mpr c8
                                have ic9 := mt (p1_eq (x := x0) (y := 8) (m := x0.toInt) (n := 8) rfl (by decide)).mpr c9
                                have ic10 := mt (p1_eq (x := x0) (y := 9) (m := x0.toInt) (n := 9) rfl (by decide)).mpr c10
                                have ic11 := mt (p1_eq (x := x0) (y := 10) (m := x0.toInt) (n := 10) rfl (by decide)).mpr c11
                                have ic12 := mt (p1_eq (x := x0) (y := 11) (m := x0.toInt) (n := 11) rfl (by decide)).mpr c12
                                have ic13 := mt (p1_eq (x := x0) (y := 12) (m := x0.toInt) (n := 12) rfl (by decide)).mpr c13
                                have ic14 := mt (p1_eq (x := x0) (y := 13) (m := x0.toInt) (n := 13) rfl (by decide)).mpr c14
                                have ic15 := (p1_eq (x := x0) (y := 14) (m := x0.toInt) (n := 14) rfl (by decide)).mp c15
                                obtain ⟨H1, e, f⟩ := fm_count_14 (sL := sL) (sx := sx) (cs := cs) (x0 := x0) (p1_c157 P) (p1_c172 P) c1 c2 c3 c4 c5 c6 c7 c8 c9 c10 c11 c12 c13 c14 c15
                                refine ⟨H1, ?_⟩
                                rw [if_neg (mt (p1_eq (x := x0) (y := 0) (m := x0.toInt) (n := 0) rfl (by decide)).mp (by omega)), if_neg (mt (p1_eq (x := x0) (y := 1) (m := x0.toInt) (n := 1) rfl (by decide)).mp (by omega)), if_neg (mt (p1_eq (x := x0) (y := 2) (m := x0.toInt) (n := 2) rfl (by decide)).mp (by omega)), if_neg (mt (p1_eq (x := x0) (y := 3) (m := x0.toInt) (n := 3) rfl (by decide)).mp (by omega)), if_neg (mt (p1_eq (x := x0) (y := 4) (m := x0.toInt) (n := 4) rfl (by decide)).mp (by omega)), if_neg (mt (p1_eq (x := x0) (y := 5) (m := x0.toInt) (n := 5) rfl (by decide)).mp (by omega)), if_neg (mt (p1_eq (x := x0) (y := 6) (m := x0.toInt) (n := 6) rfl (by decide)).mp (by omega)), if_neg (mt (p1_eq (x := x0) (y := 7) (m := x0.toInt) (n := 7) rfl (by decide)).mp (by omega)), if_neg (mt (p1_eq (x := x0) (y := 8) (m := x0.toInt) (n := 8) rfl (by decide)).mp (by omega)), if_neg (mt (p1_eq (x := x0) (y := 9) (m := x0.toInt) (n := 9) rfl (by decide)).mp (by omega)), if_neg (mt (p1_eq (x := x0) (y := 10) (m := x0.toInt) (n := 10) rfl (by decide)).mp (by omega)), if_neg (mt (p1_eq (x := x0) (y := 11) (m := x0.toInt) (n := 11) rfl (by decide)).mp (by omega)), if_neg (mt (p1_eq (x := x0) (y := 12) (m := x0.toInt) (n := 12) rfl (by decide)).mp (by omega)), if_neg (mt (p1_eq (x := x0) (y := 13) (m := x0.toInt) (n := 13) rfl (by decide)).mp (by omega)), if_pos ((p1_eq (x := x0) (y := 14) (m := x0.toInt) (n := 14) rfl (by decide)).mpr (by omega))]
                                exact e
                              · by_cases c16 : x0 = 15
                                · have ic1 := mt (p1_eq (x := x0) (y := 0) (m := x0.toInt) (n := 0) rfl (by decide)).mpr c1
                                  have ic2 := mt (p1_eq (x := x0) (y := 1) (m := x0.toInt) (n := 1) rfl (by decide)).mpr c2
                                  have ic3 := mt (p1_eq (x := x0) (y := 2) (m := x0.toInt) (n := 2) rfl (by decide)).mpr c3
                                  have ic4 := mt (p1_eq (x := x0) (y := 3) (m := x0.toInt) (n := 3) rfl (by decide)).mpr c4
                                  have ic5 := mt (p1_eq (x := x0) (y := 4) (m := x0.toInt) (n := 4) rfl (by decide)).mpr c5
                                  have ic6 := mt (p1_eq (x := x0) (y := 5) (m := x0.toInt) (n := 5) rfl (by decide)).mpr c6
                                  have ic7 := mt (p1_eq (x := x0) (y := 6) (m := x0.toInt) (n := 6) rfl (by decide)).mpr c7
                                  have ic8 := mt (p1_eq (x := x0) (y := 7) (m := x0.toInt) (n := 7) rfl (by decide)).mpr c8
                                  have ic9 := mt (p1_eq (x := x0) (y := 8) (m := x0.toInt) (n := 8) rfl (by decide)).mpr c9
                                  have ic10 := mt (p1_eq (x := x0) (y := 9) (m := x0.toInt) (n := 9) rfl (by decide)).mpr c10
                                  have ic11 := mt (p1_eq (x := x0) (y := 10) (m := x0.toInt) (n := 10) rfl (by decide)).mpr c11
                                  have ic12 := mt (p1_eq (x := x0) (y := 11) (m := x0.toInt) (n := 11) rfl (by decide)).mpr c12
                                  have ic13 := mt (p1_eq (x := x0) (y := 12) (m := x0.toInt) (n := 12) rfl (by decide)).mpr c13
                                  have ic14 := mt (p1_eq (x := x0) (y := 13) (m := x0.toInt) (n := 13) rfl (by decide)).mpr c14
                                  have ic15 := mt (p1_eq (x := x0) (y := 14) (m := x0.toInt) (n := 14) rfl (by decide)).mpr c15
                                  have ic16 := (p1_eq (x := x0) (y := 15) (m := x0.toInt) (n := 15) rfl (by decide)).mp c16
                                  obtain ⟨H1, e, f⟩ := fm_count_15 (sL := sL) (sx := sx) (cs := cs) (x0 := x0) (p1_c157 P) (p1_c172 P) c1 c2 c3 c4 c5 c6 c7 c8 c9 c10 c11 c12 c13 c14 c15 c16
                                  refine ⟨H1, ?_⟩
                                  rw [if_neg (mt (p1_eq (x := x0) (y := 0) (m := x0.toInt) (n := 0) rfl (by decide)).mp (by omega)), if_neg (mt (p1_eq (x := x0) (y := 1) (m := x0.toInt) (n := 1) rfl (by decide)).mp (by omega)), if_neg (mt (p1_eq (x := x0) (y := 2) (m := x0.toInt) (n := 2) rfl (by decide)).mp (by omega)), if_neg (mt (p1_eq (x := x0) (y := 3) (m := x0.toInt) (n := 3) rfl (by decide)).mp (by omega)), if_neg (mt (p1_eq (x := x0) (y := 4) (m := x0.toInt) (n := 4) rfl (by decide)).mp (by omega)), if_neg (mt (p1_eq (x := x0) (y := 5) (m := x0.toInt) (n := 5) rfl (by decide)).mp (by omega)), if_neg (mt (p1_eq (x := x0) (y := 6) (m := x0.toInt) (n := 6) rfl (by decide)).mp (by omega)), if_neg (mt (p1_eq (x := x0) (y := 7) (m := x0.toInt) (n := 7) rfl (by decide)).mp (by omega)), if_neg (mt (p1_eq (x := x0) (y := 8) (m := x0.toInt) (n := 8) rfl (by decide)).mp (by omega)), if_neg (mt (p1_eq (x := x0) (y := 9) (m := x0.toInt) (n := 9) rfl (by decide)).mp (by omega)), if_neg (mt (p1_eq (x := x0) (y := 10) (m := x0.toInt) (n := 10) rfl (by decide)).mp (by omega)), if_neg (mt (p1_eq (x := x0) (y := 11) (m := x0.toInt) (n := 11) rfl (by decide)).mp (by omega)), if_neg (mt (p1_eq (x := x0) (y := 12) (m := x0.toInt) (n := 12) rfl (by decide)).mp (by omega)), if_neg (mt (p1_eq (x := x0) (y := 13) (m := x0.toInt) (n := 13) rfl (by decide)).mp (by omega)), if_neg (mt (p1_eq (x := x0) (y := 14) (m := x0.toInt) (n := 14) rfl (by decide)).mp (by omega)), if_neg (mt (p1_eq (x := x0) (y := 17) (m := x0.toInt) (n := 17) rfl (by decide)).mp (by omega)), if_neg (mt (p1_eq (x := x0) (y := 18) (m := x0.toInt) (n := 18) rfl (by decide)).mp (by omega))]
                                  exact e
                                · by_cases c17 : x0 = 16
                                  · have ic1 := mt (p1_eq (x := x0) (y := 0) (m := x0.toInt) (n := 0) rfl (by decide)).mpr c1
                                    have ic2 := mt (p1_eq (x := x0) (y := 1) (m := x0.toInt) (n := 1) rfl (by decide)).mpr c2
                                    have ic3 := mt (p1_eq (x := x0) (y := 2) (m := x0.toInt) (n := 2) rfl (by decide)).mpr c3
                                    have ic4 := mt (p1_eq (x := x0) (y := 3) (m := x0.toInt) (n := 3) rfl (by decide)).mpr c4
                                    have ic5 := mt (p1_eq (x := x0) (y := 4) (m := x0.toInt) (n := 4) rfl (by decide)).mpr c5
                                    have ic6 := mt (p1_eq (x := x0) (y := 5) (m := x0.toInt) (n := 5) rfl (by decide)).mpr c6
                                    have ic7 := mt (p1_eq (x := x0) (y := 6) (m := x0.toInt) (n := 6) rfl (by decide)).mpr c7
                                    have ic8 := mt (p1_eq (x := x0) (y := 7) (m := x0.toInt) (n := 7) rfl (by decide)).mpr c8
                                    have ic9 := mt (p1_eq (x := x0) (y := 8) (m := x0.toInt) (n := 8) rfl (by decide)).mpr c9
                                    have ic10 := mt (p1_eq (x := x0) (y := 9) (m := x0.toInt) (n := 9) rfl (by decide)).mpr c10
                                    have ic11 := mt (p1_eq (x := x0) (y := 10) (m := x0.toInt) (n := 10) rfl (by decide)).mpr c11
                                    have ic12 := mt (p1_eq (x := x0) (y := 11) (m := x0.toInt) (n := 11) rfl (by decide)).mpr c12
                                    have ic13 := mt (p1_eq (x := x0) (y := 12) (m := x0.toInt) (n := 12) rfl (by decide)).mpr c13
                                    have ic14 := mt (p1_eq (x := x0) (y := 13) (m := x0.toInt) (n := 13) rfl (by decide)).mpr c14
                                    have ic15 := mt (p1_eq (x := x0) (y := 14) (m := x0.toInt) (n := 14) rfl (by decide)).mpr c15
                                    have ic16 := mt (p1_eq (x := x0) (y := 15) (m := x0.toInt) (n := 15) rfl (by decide)).mpr c16
                                    have ic17 := (p1_eq (x := x0) (y := 16) (m := x0.toInt) (n := 16) rfl (by decide)).mp c17
                                    obtain ⟨H1, e, f⟩ := fm_count_16 (sL := sL) (sx := sx) (cs := cs) (x0 := x0) (p1_c157 P) (p1_c172 P) c1 c2 c3 c4 c5 c6 c7 c8 c9 c10 c11 c12 c13 c14 c15 c16 c17
                                    refine ⟨H1, ?_⟩
                                    rw [if_neg (mt (p1_eq (x := x0) (y := 0) (m := x0.toInt) (n := 0) rfl (by decide)).mp (by omega)), if_neg (mt (p1_eq (x := x0) (y := 1) (m := x0.toInt) (n := 1) rfl (by decide)).mp (by omega)), if_neg (mt (p1_eq (x := x0) (y := 2) (m := x0.toInt) (n := 2) rfl (by decide)).mp (by omega)), if_neg (mt (p1_eq (x := x0) (y := 3) (m := x0.toInt) (n := 3) rfl (by decide)).mp (by omega)), if_neg (mt (p1_eq (x := x0) (y := 4) (m := x0.toInt) (n := 4) rfl (by decide)).mp (by omega)), if_neg (mt (p1_eq (x := x0) (y := 5) (m := x0.toInt) (n := 5) rfl (by decide)).mp (by omega)), if_neg (mt (p1_eq (x := x0) (y := 6) (m := x0.toInt) (n := 6) rfl (by decide)).mp (by omega)), if_neg (mt (p1_eq (x := x0) (y := 7) (m := x0.toInt) (n := 7) rfl (by decide)).mp (by omega)), if_neg (mt (p1_eq (x := x0) (y := 8) (m := x0.toInt) (n := 8) rfl (by decide)).mp (by omega)), if_neg (mt (p1_eq (x := x0) (y := 9) (m := x0.toInt) (n := 9) rfl (by decide)).mp (by omega)), if_neg (mt (p1_eq (x := x0) (y := 10) (m := x0.toInt) (n := 10) rfl (by decide)).mp (by omega)), if_neg (mt (p1_eq (x := x0) (y := 11) (m := x0.toInt) (n := 11) rfl (by decide)).mp (by omega)), if_neg (mt (p1_eq (x := x0) (y := 12) (m := x0.toInt) (n := 12) rfl (by decide)).mp (by omega)), if_neg (mt (p1_eq (x := x0) (y := 13) (m := x0.toInt) (n := 13) rfl (by decide)).mp (by omega)), if_neg (mt (p1_eq (x := x0) (y := 14) (m := x0.toInt) (n := 14) rfl (by decide)).mp (by omega)), if_neg (mt (p1_eq (x := x0) (y := 17) (m := x0.toInt) (n := 17) rfl (by decide)).mp (by omega)), if_neg (mt (p1_eq (x := x0) (y := 18) (m := x0.toInt) (n := 18) rfl (by decide)).mp (by omega))]
                                    exact e
                                  · by_cases c18 : x0 = 17
                                    · have ic1 := mt (p1_eq (x := x0) (y := 0) (m := x0.toInt) (n := 0) rfl (by decide)).mpr c1
                                      have ic2 := mt (p1_eq (x := x0) (y := 1) (m := x0.toInt) (n := 1) rfl (by decide)).mpr c2
                                      have ic3 := mt (p1_eq (x := x0) (y := 2) (m := x0.toInt) (n := 2) rfl (by decide)).mpr c3
                                      have ic4 := mt (p1_eq (x := x0) (y := 3) (m := x0.toInt) (n := 3) rfl (by decide)).mpr c4
                                      have ic5 := mt (p1_eq (x := x0) (y := 4) (m := x0.toInt) (n := 4) rfl (by decide)).mpr c5
                                      have ic6 := mt (p1_eq (x := x0) (y := 5) (m := x0.toInt) (n := 5) rfl (by decide)).mpr c6
                                      have ic7 := mt (p1_eq (x := x0) (y := 6) (m := x0.toInt) (n := 6) rfl (by decide)).mpr c7
                                      have ic8 := mt (p1_eq (x := x0) (y := 7) (m := x0.toInt) (n := 7) rfl (by decide)).mpr c8
                                      have ic9 := mt (p1_eq (x := x0) (y := 8) (m := x0.toInt) (n := 8) rfl (by decide)).mpr c9
                                      have ic10 := mt (p1_eq (x := x0) (y := 9) (m := x0.toInt) (n := 9) rfl (by decide)).mpr c10
                                      have ic11 := mt (p1_eq (x := x0) (y := 10) (m := x0.toInt) (n := 10) rfl (by decide)).mpr c11
                                      have ic12 := mt (p1_eq (x := x0) (y := 11) (m := x0.toInt) (n := 11) rfl (by decide)).mpr c12
                                      have ic13 := mt (p1_eq (x := x0) (y := 12) (m := x0.toInt) (n := 12) rfl (by decide)).mpr c13
                                      have ic14 := mt (p1_eq (x := x0) (y := 13) (m := x0.toInt) (n := 13) rfl (by decide)).mpr c14
                                      have ic15 := mt (p1_eq (x := x0) (y := 14) (m := x0.toInt) (n := 14) rfl (by decide)).mpr c15
                                      have ic16 := mt (p1_eq (x := x0) (y := 15) (m := x0.toInt) (n := 15) rfl (by decide)).mpr c16
                                      have ic17 := mt (p1_eq (x := x0) (y := 16) (m := x0.toInt) (n := 16) rfl (by decide)).mpr c17
                                      have ic18 := (p1_eq (x := x0) (y := 17) (m := x0.toInt) (n := 17) rfl (by decide)).mp c18
                                      obtain ⟨H1, e, f⟩ := fm_count_17 (sL := sL) (sx := sx) (cs := cs) (x0 := x0) (p1_c157 P) (p1_c172 P) c1 c2 c3 c4 c5 c6 c7 c8 c9 c10 c11 c12 c13 c14 c15 c16 c17 c18
                                      refine ⟨H1, ?_⟩
                                      rw [if_neg (mt (p1_eq (x := x0) (y := 0) (m := x0.toInt) (n := 0) rfl (by decide)).mp (by omega)), if_neg (mt (p1_eq (x := x0) (y := 1) (m := x0.toInt) (n := 1) rfl (by decide)).mp (by omega)), if_neg (mt (p1_eq (x := x0) (y := 2) (m := x0.toInt) (n := 2) rfl (by decide)).mp (by omega)), if_neg (mt (p1_eq (x := x0) (y := 3) (m := x0.toInt) (n := 3) rfl (by decide)).mp (by omega)), if_neg (mt (p1_eq (x := x0) (y := 4) (m := x0.toInt) (n := 4) rfl (by decide)).mp (by omega)), if_neg (mt (p1_eq (x := x0) (y := 5) (m := x0.toInt) (n := 5) rfl (by decide)).mp (by omega)), if_neg (mt (p1_eq (x := x0) (y := 6) (m := x0.toInt) (n := 6) rfl (by decide)).mp (by omega)), if_neg (mt (p1_eq (x := x0) (y := 7) (m := x0.toInt) (n := 7) rfl (by decide)).mp (by omega)), if_neg (mt (p1_eq (x := x0) (y := 8) (m := x0.toInt) (n := 8) rfl (by decide)).mp (by omega)), if_neg (mt (p1_eq (x := x0) (y := 9) (m := x0.toInt) (n := 9) rfl (by decide)).mp (by omega)), if_neg (mt (p1_eq (x := x0) (y := 10) (m := x0.toInt) (n := 10) rfl (by decide)).mp (by omega)), if_neg (mt (p1_eq (x := x0) (y := 11) (m := x0.toInt) (n := 11) rfl (by decide)).mp (by omega)), if_neg (mt (p1_eq (x := x0) (y := 12) (m := x0.toInt) (n := 12) rfl (by decide)).mp (by omega)), if_neg (mt (p1_eq (x := x0) (y := 13) (m := x0.toInt) (n := 13) rfl (by decide)).mp (by omega)), if_neg (mt (p1_eq (x := x0) (y := 14) (m := x0.toInt) (n := 14) rfl (by decide)).mp (by omega)), if_pos ((p1_eq (x := x0) (y := 17) (m := x0.toInt) (n := 17) rfl (by decide)).mpr (by omega))]
                                      exact e
                                    · by_cases c19 : x0 = 18
                                      · have ic1 := mt (p1_eq (x := x0) (y := 0) (m := x0.toInt) (n := 0) rfl (by decide)).mpr c1
                                        have ic2 := mt (p1_eq (x := x0) (y := 1) (m := x0.toInt) (n := 1) rfl (by decide)).mpr c2
                                        have ic3 := mt (p1_eq (x := x0) (y := 2) (m := x0.toInt) (n := 2) rfl (by decide)).mpr c3
                                        have ic4 := mt (p1_eq (x := x0) (y := 3) (m := x0.toInt) (n := 3) rfl (by decide)).mpr c4
                                        have ic5 := mt (p1_eq (x := x0) (y := 4) (m := x0.toInt) (n := 4) rfl (by decide)).mpr c5
                                        have ic6 := mt (p1_eq (x := x0) (y := 5) (m := x0.toInt) (n := 5) rfl (by decide)).mpr c6
                                        have ic7 := mt (p1_eq (x := x0) (y := 6) (m := x0.toInt) (n := 6) rfl (by decide)).mpr c7
                                        have ic8 := mt (p1_eq (x := x0) (y := 7) (m := x0.toInt) (n := 7) rfl (by decide)).mpr c8
                                        have ic9 := mt (p1_eq (x := x0) (y := 8) (m := x0.toInt) (n := 8) rfl (by decide)).mpr c9
                                        have ic10 := mt (p1_eq (x := x0) (y := 9) (m := x0.toInt) (n := 9) rfl (by decide)).mpr c10
                                        have ic11 := mt (p1_eq (x := x0) (y := 10) (m := x0.toInt) (n := 10) rfl (by decide)).mpr c11
                                        have ic12 := mt (p1_eq (x := x0) (y := 11) (m := x0.toInt) (n := 11) rfl (by decide)).mpr c12
                                        have ic13 := mt (p1_eq (x := x0) (y := 12) (m := x0.toInt) (n := 12) rfl (by decide)).mpr c13
                                        have ic14 := mt (p1_eq (x := x0) (y := 13) (m := x0.toInt) (n := 13) rfl (by decide)).mpr c14
                                        have ic15 := mt (p1_eq (x := x0) (y := 14) (m := x0.toInt) (n := 14) rfl (by decide)).mpr c15
                                        have ic16 := mt (p1_eq (x := x0) (y := 15) (m := x0.toInt) (n := 15) rfl (by decide)).mpr c16
                                        have ic17 := mt (p1_eq (x := x0) (y := 16) (m := x0.toInt) (n := 16) rfl (by decide)).mpr c17
                                        have ic18 := mt (p1_eq (x := x0) (y := 17) (m := x0.toInt) (n := 17) rfl (by decide)).mpr c18
                                        have ic19 := (p1_eq (x := x0) (y := 18) (m := x0.toInt) (n := 18) rfl (by decide)).mp c19
                                        obtain ⟨H1, e, f⟩ := fm_count_18 (sL := sL) (sx := sx) (cs := cs) (x0 := x0) (p1_c157 P) (p1_c172 P) c1 c2 c3 c4 c5 c6 c7 c8 c9 c10 c11 c12 c13 c14 c15 c16 c17 c18 c19
                                        refine ⟨H1, ?_⟩
                                        rw [if_neg (mt (p1_eq (x := x0) (y := 0) (m := x0.toInt) (n := 0) rfl (by decide)).mp (by omega)), if_neg (mt (p1_eq (x := x0) (y := 1) (m := x0.toInt) (n := 1) rfl (by decide)).mp (by omega)), if_neg (mt (p1_eq (x := x0) (y := 2) (m := x0.toInt) (n := 2) rfl (by decide)).mp (by omega)), if_neg (mt (p1_eq (x := x0) (y := 3) (m := x0.toInt) (n := 3) rfl (by decide)).mp (by omega)), if_neg (mt (p1_eq (x := x0) (y := 4) (m := x0.toInt) (n := 4) rfl (by decide)).mp (by omega)), if_neg (mt (p1_eq (x := x0) (y := 5) (m := x0.toInt) (n := 5) rfl (by decide)).mp (by omega)), if_neg (mt (p1_eq (x := x0) (y := 6) (m := x0.toInt) (n := 6) rfl (by decide)).mp (by omega)), if_neg (mt (p1_eq (x := x0) (y := 7) (m := x0.toInt) (n := 7) rfl (by decide)).mp (by omega)), if_neg (mt (p1_eq (x := x0) (y := 8) (m := x0.toInt) (n := 8) rfl (by decide)).mp (by omega)), if_neg (mt (p1_eq (x := x0) (y := 9) (m := x0.toInt) (n := 9) rfl (by decide)).mp (by omega)), if_neg (mt (p1_eq (x := x0) (y := 10) (m := x0.toInt) (n := 10) rfl (by decide)).mp (by omega)), if_neg (mt (p1_eq (x := x0) (y := 11) (m := x0.toInt) (n := 11) rfl (by decide)).mp (by omega)), if_neg (mt (p1_eq (x := x0) (y := 12) (m := x0.toInt) (n := 12) rfl (by decide)).mp (by omega)), if_neg (mt (p1_eq (x := x0) (y := 13) (m := x0.toInt) (n := 13) rfl (by decide)).mp (by omega)), if_neg (mt (p1_eq (x := x0) (y := 14) (m := x0.toInt) (n := 14) rfl (by decide)).mp (by omega)), if_neg (mt (p1_eq (x := x0) (y := 17) (m := x0.toInt) (n := 17) rfl (by decide)).mp (by omega)), if_pos ((p1_eq (x := x0) (y := 18) (m := x0.toInt) (n := 18) rfl (by decide)).mpr (by omega))]
                                        exact e
                                      · have ic1 := mt (p1_eq (x := x0) (y := 0) (m := x0.toInt) (n := 0) rfl (by decide)).mpr c1
                                        have ic2 := mt (p1_eq (x := x0) (y := 1) (m := x0.toInt) (n := 1) rfl (by decide)).mpr c2
                                        have ic3 := mt (p1_eq (x := x0) (y := 2) (m := x0.toInt) (n := 2) rfl (by decide)).mpr c3
                                        have ic4 := mt (p1_eq (x := x0) (y := 3) (m := x0.toInt) (n := 3) rfl (by decide)).mpr c4
                                        have ic5 := mt (p1_eq (x := x0) (y := 4) (m := x0.toInt) (n := 4) rfl (by decide)).mpr c5
                                        have ic6 := mt (p1_eq (x := x0) (y := 5) (m := x0.toInt) (n := 5) rfl (by decide)).mpr c6
                                        have ic7 := mt (p1_eq (x := x0) (y := 6) (m := x0.toInt) (n := 6) rfl (by decide)).mpr c7
                                        have ic8 := mt (p1_eq (x := x0) (y := 7) (m := x0.toInt) (n := 7) rfl (by decide)).mpr c8
                                        have ic9 := mt (p1_eq (x := x0) (y := 8) (m := x0.toInt) (n := 8) rfl (by decide)).mpr c9
                                        have ic10 := mt (p1_eq (x := x0) (y := 9) (m := x0.toInt) (n := 9) rfl (by decide)).mpr c10
                                        have ic11 := mt (p1_eq (x := x0) (y := 10) (m := x0.toInt) (n := 10) rfl (by decide)).mpr c11
                                        have ic12 := mt (p1_eq (x := x0) (y := 11) (m := x0.toInt) (n := 11) rfl (by decide)).mpr c12
                                        have ic13 := mt (p1_eq (x := x0) (y := 12) (m := x0.toInt) (n := 12) rfl (by decide)).mpr c13
                                        have ic14 := mt (p1_eq (x := x0) (y := 13) (m := x0.toInt) (n := 13) rfl (by decide)).mpr c14
                                        have ic15 := mt (p1_eq (x := x0) (y := 14) (m := x0.toInt) (n := 14) rfl (by decide)).mpr c15
                                        have ic16 := mt (p1_eq (x := x0) (y := 15) (m := x0.toInt) (n := 15) rfl (by decide)).mpr c16
                                        have ic17 := mt (p1_eq (x := x0) (y := 16) (m := x0.toInt) (n := 16) rfl (by decide)).mpr c17
                                        have ic18 := mt (p1_eq (x := x0) (y := 17) (m := x0.toInt) (n := 17) rfl (by decide)).mpr c18
                                        have ic19 := mt (p1_eq (x := x0) (y := 18) (m := x0.toInt) (n := 18) rfl (by decide)).mpr c19
                                        obtain ⟨H1, e, f⟩ := fm_count_19 (sL := sL) (sx := sx) (cs := cs) (x0 := x0) (p1_c157 P) (p1_c172 P) c1 c2 c3 c4 c5 c6 c7 c8 c9 c10 c11 c12 c13 c14 c15 c16 c17 c18 c19
                                        refine ⟨H1, ?_⟩
                                        rw [if_neg (mt (p1_eq (x := x0) (y := 0) (m := x0.toInt) (n := 0) rfl (by decide)).mp (by omega)), if_neg (mt (p1_eq (x := x0) (y := 1) (m := x0.toInt) (n := 1) rfl (by decide)).mp (by omega)), if_neg (mt (p1_eq (x := x0) (y := 2) (m := x0.toInt) (n := 2) rfl (by decide)).mp (by omega)), if_neg (mt (p1_eq (x := x0) (y := 3) (m := x0.toInt) (n := 3) rfl (by decide)).mp (by omega)), if_neg (mt (p1_eq (x := x0) (y := 4) (m := x0.toInt) (n := 4) rfl (by decide)).mp (by omega)), if_neg (mt (p1_eq (x := x0) (y := 5) (m := x0.toInt) (n := 5) rfl (by decide)).mp (by omega)), if_neg (mt (p1_eq (x := x0) (y := 6) (m := x0.toInt) (n := 6) rfl (by decide)).mp (by omega)), if_neg (mt (p1_eq (x := x0) (y := 7) (m := x0.toInt) (n := 7) rfl (by decide)).mp (by omega)), if_neg (mt (p1_eq (x := x0) (y := 8) (m := x0.toInt) (n := 8) rfl (by decide)).mp (by omega)), if_neg (mt (p1_eq (x := x0) (y := 9) (m := x0.toInt) (n := 9) rfl (by decide)).mp (by omega)), if_neg (mt (p1_eq (x := x0) (y := 10) (m := x0.toInt) (n := 10) rfl (by decide)).mp (by omega)), if_neg (mt (p1_eq (x := x0) (y := 11) (m := x0.toInt) (n := 11) rfl (by decide)).mp (by omega)), if_neg (mt (p1_eq (x := x0) (y := 12) (m := x0.toInt) (n := 12) rfl (by decide)).mp (by omega)), if_neg (mt (p1_eq (x := x0) (y := 13) (m := x0.toInt) (n := 13) rfl (by decide)).mp (by omega)), if_neg (mt (p1_eq (x := x0) (y := 14) (m := x0.toInt) (n := 14) rfl (by decide)).mp (by omega)), if_neg (mt (p1_eq (x := x0) (y := 17) (m := x0.toInt) (n := 17) rfl (by decide)).mp (by omega)), if_neg (mt (p1_eq (x := x0) (y := 18) (m := x0.toInt) (n := 18) rfl (by decide)).mp (by omega))]
                                        exact e

set_option maxRecDepth 100000 in
theorem pm_stop {sL : Nat} {sx : Nat → Int32} {cs : Nat → Nat → Option Int32} {v3 : Int32} {h b : Nat} {H : am_H} {x0 x1 : Int32} (P : p1_Pm v3 h b H) (dm : p1_D v3 h b) : ∃ H1 : am_H, aX sL sx cs 416 0 [(0, .ref 157), (1, .int x0), (2, .int x1)] [] H 0 0 = some ((some (.int (if x0 < 0 then ((-1) : Int32) else (if Int32.ofNat h ≤ x0 then ((-1) : Int32) else (if x1 < 0 then ((-1) : Int32) else (if Int32.ofNat b ≤ x1 then ((-1) : Int32) else (if am_stv x1 = 0 then 0 else 1))))))), H1, 0, 0) := by
  obtain ⟨d1, d2, d3, d4⟩ := dm
  by_cases c1 : x0 < 0
  · have ic1 := (p1_lt (x := x0) (y := 0) (m := x0.toInt) (n := 0) rfl (by decide)).mp c1
    obtain ⟨H1, e, f⟩ := fm_stop_0 (sL := sL) (sx := sx) (cs := cs) (x0 := x0) (x1 := x1) (p1_c157 P) (p1_c192 P) c1
    refine ⟨H1, ?_⟩
    rw [if_pos ((p1_lt (x := x0) (y := 0) (m := x0.toInt) (n := 0) rfl (by decide)).mpr (by omega))]
    exact e
  · by_cases c2 : x1 < 0
    · have ic1 := mt (p1_lt (x := x0) (y := 0) (m := x0.toInt) (n := 0) rfl (by decide)).mpr c1
      have ic2 := (p1_lt (x := x1) (y := 0) (m := x1.toInt) (n := 0) rfl (by decide)).mp c2
      obtain ⟨H1, e, f⟩ := fm_stop_1 (sL := sL) (sx := sx) (cs := cs) (x0 := x0) (x1 := x1) (p1_c157 P) (p1_c192 P) c1 c2
      refine ⟨H1, ?_⟩
      have ea : (if x0 < 0 then ((-1) : Int32) else (if Int32.ofNat h ≤ x0 then ((-1) : Int32) else (if x1 < 0 then ((-1) : Int32) else (if Int32.ofNat b ≤ x1 then ((-1) : Int32) else (if am_stv x1 = 0 then 0 else 1))))) = ((-1) : Int32) := by (repeat' split) <;> first | rfl | contradiction
      rw [ea]
      exact e
    · by_cases c3 : (Int32.ofNat h) ≤ x0
      · have ic1 := mt (p1_lt (x := x0) (y := 0) (m := x0.toInt) (n := 0) rfl (by decide)).mpr c1
        have ic2 := mt (p1_lt (x := x1) (y := 0) (m := x1.toInt) (n := 0) rfl (by decide)).mpr c2
        have ic3 := (p1_le (x := Int32.ofNat h) (y := x0) (m := (h : Int)) (n := x0.toInt) (p1_n (by omega)) rfl).mp c3
        obtain ⟨H1, e, f⟩ := fm_stop_2 (sL := sL) (sx := sx) (cs := cs) (x0 := x0) (x1 := x1) (p1_c157 P) (p1_c192 P) c1 c2 c3
        refine ⟨H1, ?_⟩
        rw [if_neg (mt (p1_lt (x := x0) (y := 0) (m := x0.toInt) (n := 0) rfl (by decide)).mp (by omega)), if_pos ((p1_le (x := Int32.ofNat h) (y := x0) (m := (h : Int)) (n := x0.toInt) (p1_n (by omega)) rfl).mpr (by omega))]
        exact e
      · by_cases c4 : x1 < (Int32.ofNat b)
        · by_cases c5 : (am_stp (fun _ => 0) 80 x1.toNatClampNeg) = 0
          · have ic1 := mt (p1_lt (x := x0) (y := 0) (m := x0.toInt) (n := 0) rfl (by decide)).mpr c1
            have ic2 := mt (p1_lt (x := x1) (y := 0) (m := x1.toInt) (n := 0) rfl (by decide)).mpr c2
            have ic3 := mt (p1_le (x := Int32.ofNat h) (y := x0) (m := (h : Int)) (n := x0.toInt) (p1_n (by omega)) rfl).mpr c3
            have ic4 := (p1_lt (x := x1) (y := Int32.ofNat b) (m := x1.toInt) (n := (b : Int)) rfl (p1_n (by omega))).mp c4
            obtain ⟨k, hk, ek, -⟩ := p1_of (x := x1) (h := 80) (by omega) (by omega)
            rw [p1_stp ek hk (by omega)] at c5
            have c50 := c5
            rw [← p1_stp ek hk (by omega)] at c50
            obtain ⟨H1, e, f⟩ := fm_stop_3 (sL := sL) (sx := sx) (cs := cs) (x0 := x0) (x1 := x1) (p1_c157 P) (p1_c192 P) c1 c2 c3 c4 c50 (within ek hk (by omega))
            refine ⟨H1, ?_⟩
            rw [if_neg (mt (p1_lt (x := x0) (y := 0) (m := x0.toInt) (n := 0) rfl (by decide)).mp (by omega)), if_neg (mt (p1_le (x := Int32.ofNat h) (y := x0) (m := (h : Int)) (n := x0.toInt) (p1_n (by omega)) rfl).mp (by omega)), if_neg (mt (p1_lt (x := x1) (y := 0) (m := x1.toInt) (n := 0) rfl (by decide)).mp (by omega)), if_neg (mt (p1_le (x := Int32.ofNat b) (y := x1) (m := (b : Int)) (n := x1.toInt) (p1_n (by omega)) rfl).mp (by omega)), if_pos c5]
            exact e
          · have ic1 := mt (p1_lt (x := x0) (y := 0) (m := x0.toInt) (n := 0) rfl (by decide)).mpr c1
            have ic2 := mt (p1_lt (x := x1) (y := 0) (m := x1.toInt) (n := 0) rfl (by decide)).mpr c2
            have ic3 := mt (p1_le (x := Int32.ofNat h) (y := x0) (m := (h : Int)) (n := x0.toInt) (p1_n (by omega)) rfl).mpr c3
            have ic4 := (p1_lt (x := x1) (y := Int32.ofNat b) (m := x1.toInt) (n := (b : Int)) rfl (p1_n (by omega))).mp c4
            obtain ⟨k, hk, ek, -⟩ := p1_of (x := x1) (h := 80) (by omega) (by omega)
            rw [p1_stp ek hk (by omega)] at c5
            have c50 := c5
            rw [← p1_stp ek hk (by omega)] at c50
            obtain ⟨H1, e, f⟩ := fm_stop_4 (sL := sL) (sx := sx) (cs := cs) (x0 := x0) (x1 := x1) (p1_c157 P) (p1_c192 P) c1 c2 c3 c4 c50 (within ek hk (by omega))
            refine ⟨H1, ?_⟩
            rw [if_neg (mt (p1_lt (x := x0) (y := 0) (m := x0.toInt) (n := 0) rfl (by decide)).mp (by omega)), if_neg (mt (p1_le (x := Int32.ofNat h) (y := x0) (m := (h : Int)) (n := x0.toInt) (p1_n (by omega)) rfl).mp (by omega)), if_neg (mt (p1_lt (x := x1) (y := 0) (m := x1.toInt) (n := 0) rfl (by decide)).mp (by omega)), if_neg (mt (p1_le (x := Int32.ofNat b) (y := x1) (m := (b : Int)) (n := x1.toInt) (p1_n (by omega)) rfl).mp (by omega)), if_neg c5]
            exact e
        · have ic1 := mt (p1_lt (x := x0) (y := 0) (m := x0.toInt) (n := 0) rfl (by decide)).mpr c1
          have ic2 := mt (p1_lt (x := x1) (y := 0) (m := x1.toInt) (n := 0) rfl (by decide)).mpr c2
          have ic3 := mt (p1_le (x := Int32.ofNat h) (y := x0) (m := (h : Int)) (n := x0.toInt) (p1_n (by omega)) rfl).mpr c3
          have ic4 := mt (p1_lt (x := x1) (y := Int32.ofNat b) (m := x1.toInt) (n := (b : Int)) rfl (p1_n (by omega))).mpr c4
          obtain ⟨H1, e, f⟩ := fm_stop_5 (sL := sL) (sx := sx) (cs := cs) (x0 := x0) (x1 := x1) (p1_c157 P) (p1_c192 P) c1 c2 c3 c4
          refine ⟨H1, ?_⟩
          rw [if_neg (mt (p1_lt (x := x0) (y := 0) (m := x0.toInt) (n := 0) rfl (by decide)).mp (by omega)), if_neg (mt (p1_le (x := Int32.ofNat h) (y := x0) (m := (h : Int)) (n := x0.toInt) (p1_n (by omega)) rfl).mp (by omega)), if_neg (mt (p1_lt (x := x1) (y := 0) (m := x1.toInt) (n := 0) rfl (by decide)).mp (by omega)), if_pos ((p1_le (x := Int32.ofNat b) (y := x1) (m := (b : Int)) (n := x1.toInt) (p1_n (by omega)) rfl).mpr (by omega))]
          exact e
