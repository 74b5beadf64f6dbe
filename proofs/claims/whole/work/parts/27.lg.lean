/-! Rows of references, told by a list. -/
def am_lg (l : List (Option Nat)) : Nat → Option Nat := fun j => l.getD j none
theorem am_lg_none (m : Nat) : (fun _ => none) = am_lg (List.replicate m none) := by
  funext j
  unfold am_lg
  rw [List.getD_eq_getElem?_getD, List.getElem?_replicate]
  by_cases h : j < m
  · rw [if_pos h]; rfl
  · rw [if_neg h]; rfl
theorem am_lg_up {l l2 : List (Option Nat)} {x : Int32} {i : Nat} {v : Option Nat} (hx : x.toNatClampNeg = i) (h : Nat.ble (i + 1) l.length = true) (hl : l.set i v = l2) : va_up (am_lg l) x.toNatClampNeg v = am_lg l2 := by
  subst hl
  rw [hx]
  funext j
  unfold am_lg va_up
  dsimp only
  rw [List.getD_eq_getElem?_getD, List.getD_eq_getElem?_getD]
  by_cases hj : j = i
  · subst hj
    rw [if_pos rfl, List.getElem?_set_self (Nat.le_of_ble_eq_true h)]
    rfl
  · rw [if_neg hj, List.getElem?_set_ne (Ne.symm hj)]
section LG
variable {sL : Nat} {sx : Nat → Int32} {cs : Nat → Nat → Option Int32} {y pc : Nat} {ls : am_L} {st : List Value} {H : am_H} {k n k1 n1 : Nat} {R : Option Value} {F : am_H → Prop}
theorem en_anewl {i a N m : Nat} {x : Int32} {C : String} {l : List (Option Nat)} (hI : am_co y pc = some (.anewarray i, .null, a, 0, false, [])) (hl : H.length = N) (hq : (am_ctb[a]?).map (fun q => q.1) = some C) (h2 : ¬ x < 0) (h3 : x.toNatClampNeg = m) (h4 : Nat.ble (m * 4) 536870912 = true) (h5 : List.replicate m none = l)
    (kk : ∀ H2 : am_H, H2.length = N + 1 → H2[N]? = some (.inl (.object C, (m, .inr (.inr (.inr (.inr (am_lg l))))))) → (∀ j : Nat, j < N → H2[j]? = H[j]?) → am_NW sL sx cs y (pc + 3) ls (.ref N :: st) H2 (k + 1) (n + m) R k1 n1 F) : am_NW sL sx cs y pc ls (.int x :: st) H k n R k1 n1 F := by
  refine en_anew hI hl hq h2 h3 h4 ?_
  rw [am_lg_none m, h5]
  exact kk
theorem en_mnal {i N p m : Nat} {x z : Int32} {a b : Nat} {l : List (Option Nat)} (hI : am_co y pc = some (.multianewarray i 2, .null, a, b, false, [])) (hl : H.length = N) (h1 : ¬ z < 0) (h2 : ¬ x < 0) (h3 : z.toNatClampNeg = p) (h4 : x.toNatClampNeg = m) (h5 : Nat.ble (p * 4) 536870912 = true) (h6 : Nat.ble (m * 4) 536870912 = true) (h7 : (List.range p).map (fun i => some (N + 1 + i)) = l)
    (kk : ∀ H2 : am_H, H2.length = N + 1 + p → H2[N]? = some (.inl (.array .int, (p, .inr (.inr (.inr (.inr (am_lg l))))))) → (∀ j : Nat, j < p → H2[N + 1 + j]? = some (.inl (.int, (m, .inl fun _ => 0)))) → (∀ j : Nat, j < N → H2[j]? = H[j]?) → am_NW sL sx cs y (pc + 4) ls (.ref N :: st) H2 (k + 1 + p) (n + p + p * m) R k1 n1 F) : am_NW sL sx cs y pc ls (.int x :: .int z :: st) H k n R k1 n1 F := by
  have e : (fun i => if i < p then some (N + 1 + i) else none) = am_lg l := by
    subst h7
    funext j
    unfold am_lg
    rw [List.getD_eq_getElem?_getD, List.getElem?_map]
    by_cases h : j < p
    · rw [if_pos h, List.getElem?_range h]; rfl
    · rw [if_neg h, List.getElem?_eq_none (by rw [List.length_range]; omega)]; rfl
  refine en_mna hI hl h1 h2 h3 h4 h5 h6 ?_
  rw [e]
  exact kk
end LG
