/-! The first simulations: end, fault. -/
section SIM
variable {N h b : Nat} {a : xA}
/-- the tape: what was fed -/
def Rt (a : xA) : Prop := a 157 2 = a 0 1 ∧ 0 ≤ (a 0 1).toInt ∧ (a 0 1).toInt ≤ 3000 ∧ ∀ i : Nat, (i : Int) < (a 0 1).toInt → a 1 i = a 158 i &&& 255
/-- the fault last told -/
def Rf (a : xA) : Prop := a 157 13 = a 3 2 ∧ a 157 14 = a 3 3
theorem xU_o {p i q : Nat} {v : Int32} (hq : q ≠ p) : xU a p i v q = a q := if_neg hq
theorem xU_s {p i j : Nat} {v : Int32} (hj : j ≠ i) : xU a p i v p j = a p j := by
  unfold xU xW upd
  rw [if_pos rfl]
  exact if_neg hj
theorem xU_e {p i : Nat} {v : Int32} : xU a p i v p i = v := by
  unfold xU xW upd
  rw [if_pos rfl]
  exact if_pos rfl
theorem Rt_of {a2 : xA} (hR : Rt a) (k0 : a2 0 1 = a 0 1) (k1 : a2 1 = a 1) (k2 : a2 157 2 = a 157 2) (k3 : a2 158 = a 158) : Rt a2 := by
  unfold Rt
  rw [k0, k1, k2, k3]
  exact hR
theorem sim_end (hR : Rt a) (x0 : Int32) : ∃ (r : Int32) (a1 a2 : xA), f21_end N h b x0 a = some (r, a1) ∧ f262_end N h b x0 a1 = some (r, a2) ∧ Rt a2 ∧ (∀ p : Nat, p ≠ 0 → p ≠ 157 → a2 p = a p) ∧ (∀ i : Nat, i ≠ 1 → a2 0 i = a 0 i) ∧ ∀ i : Nat, i ≠ 0 → i ≠ 2 → a2 157 i = a 157 i := by
  have hR' := hR
  obtain ⟨h1, h2, h3, h4⟩ := hR
  have z0 : (0 : Int32).toInt = 0 := rfl
  by_cases c1 : x0 < 0
  · refine ⟨0, a, xU a 157 0 0, by unfold f21_end; rw [if_pos c1], by unfold f262_end xw; dsimp only; rw [if_pos c1], Rt_of hR' (by rw [xU_o (by decide)]) (by rw [xU_o (by decide)]) (by rw [xU_s (by decide)]) (by rw [xU_o (by decide)]), fun p hp hq => xU_o hq, fun i _ => by rw [xU_o (by decide)], fun i hi _ => xU_s hi⟩
  · by_cases c2 : x0 ≤ a 0 1
    · have c3 : x0 ≤ xU (xU a 0 1 x0) 157 0 0 157 2 := by
        rw [xU_s (by decide), xU_o (by decide), h1]
        exact c2
      refine ⟨1, xU a 0 1 x0, xU (xU (xU a 0 1 x0) 157 0 0) 157 2 x0, by unfold f21_end xw; rw [if_neg c1, if_pos c2], by unfold f262_end xw; dsimp only; rw [if_neg c1, if_pos c3], ⟨?_, ?_, ?_, ?_⟩, fun p hp hq => by rw [xU_o hq, xU_o hq, xU_o hp], fun i hi => by rw [xU_o (by decide), xU_o (by decide), xU_s hi], fun i hi hj => by rw [xU_s hj, xU_s hi, xU_o (by decide)]⟩
      · rw [xU_e, xU_o (by decide), xU_o (by decide), xU_e]
      · rw [xU_o (by decide), xU_o (by decide), xU_e]
        have := Int32.not_lt.mp c1
        rw [Int32.le_iff_toInt_le, z0] at this
        exact this
      · rw [xU_o (by decide), xU_o (by decide), xU_e]
        rw [Int32.le_iff_toInt_le] at c2
        omega
      · intro i hi
        rw [xU_o (by decide), xU_o (by decide), xU_e] at hi
        rw [xU_o (by decide), xU_o (by decide), xU_o (by decide), xU_o (by decide), xU_o (by decide), xU_o (by decide)]
        rw [Int32.le_iff_toInt_le] at c2
        exact h4 i (by omega)
    · have c3 : ¬ x0 ≤ xU a 157 0 0 157 2 := by
        rw [xU_s (by decide), h1]
        exact c2
      refine ⟨0, a, xU a 157 0 0, by unfold f21_end xw; rw [if_neg c1, if_neg c2], by unfold f262_end xw; dsimp only; rw [if_neg c1, if_neg c3], Rt_of hR' (by rw [xU_o (by decide)]) (by rw [xU_o (by decide)]) (by rw [xU_s (by decide)]) (by rw [xU_o (by decide)]), fun p hp hq => xU_o hq, fun i _ => by rw [xU_o (by decide)], fun i hi _ => xU_s hi⟩
theorem sim_fault (hR : Rf a) (x0 : Int32) : ∃ (r : Int32) (a1 a2 : xA), f70_fault N h b x0 a = some (r, a1) ∧ f292_fault N h b x0 a1 = some (r, a2) ∧ (∀ p : Nat, p ≠ 157 → a2 p = a p) ∧ ∀ i : Nat, i ≠ 0 → a2 157 i = a 157 i := by
  refine ⟨if x0 = 0 then a 3 2 else if x0 = 1 then a 3 3 else -1, a, xU a 157 0 0, ?_, ?_, fun p hp => xU_o hp, fun i hi => xU_s hi⟩
  · unfold f70_fault
    by_cases c0 : x0 = 0
    · rw [if_pos c0, if_pos c0]
    · rw [if_neg c0, if_neg c0]
      by_cases c1 : x0 = 1
      · rw [if_pos c1, if_pos c1]
      · rw [if_neg c1, if_neg c1]
  · unfold f292_fault xw
    dsimp only
    rw [show xU a 157 0 0 157 13 = a 157 13 from xU_s (by decide), show xU a 157 0 0 157 14 = a 157 14 from xU_s (by decide), hR.1, hR.2]
end SIM
