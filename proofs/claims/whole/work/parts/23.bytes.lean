set_option maxRecDepth 100000 in
theorem by_size {sL : Nat} {sx : Nat → Int32} {cs : Nat → Nat → Option Int32} {H : am_H} {o a : Nat} {f n : Int32} {m : Nat} {g : Nat → Int32} (ho : H[o]? = some (.inr (0, [.ref a, .int f, .int n]))) (ha : H[a]? = some (.inl (.int, (m, .inl g)))) (hoa : o ≠ a)  :
    aX sL sx cs 163 0 [(0, .ref o)] [] H 0 0 = some (some (.int n), H, 0, 0) := by
  refine (am_nb (m := 1) (pc1 := 1) (ls1 := [(0, .ref o)]) (st1 := [.ref o]) (H1 := H) (k1 := 0) (n1 := 0) (by with_unfolding_all rfl)).trans ?_
  refine (st_get rfl ho rfl).trans ?_
  exact st_iret rfl rfl rfl

set_option maxRecDepth 100000 in
theorem by_room {sL : Nat} {sx : Nat → Int32} {cs : Nat → Nat → Option Int32} {H : am_H} {o a : Nat} {f n : Int32} {m : Nat} {g : Nat → Int32} (ho : H[o]? = some (.inr (0, [.ref a, .int f, .int n]))) (ha : H[a]? = some (.inl (.int, (m, .inl g)))) (hoa : o ≠ a)  :
    aX sL sx cs 126 0 [(0, .ref o)] [] H 0 0 = some (some (.int ((Int32.ofNat m) - n)), H, 0, 0) := by
  refine (am_nb (m := 1) (pc1 := 1) (ls1 := [(0, .ref o)]) (st1 := [.ref o]) (H1 := H) (k1 := 0) (n1 := 0) (by with_unfolding_all rfl)).trans ?_
  refine (st_get rfl ho rfl).trans ?_
  refine (st_alen rfl ha).trans ?_
  refine (am_nb (m := 1) (pc1 := 6) (ls1 := [(0, .ref o)]) (st1 := [.ref o, .int (Int32.ofNat m)]) (H1 := H) (k1 := 0) (n1 := 0) (by with_unfolding_all rfl)).trans ?_
  refine (st_get rfl ho rfl).trans ?_
  refine (am_nb (m := 1) (pc1 := 10) (ls1 := [(0, .ref o)]) (st1 := [.int ((Int32.ofNat m) - n)]) (H1 := H) (k1 := 0) (n1 := 0) (by with_unfolding_all rfl)).trans ?_
  exact st_iret rfl rfl rfl

set_option maxRecDepth 100000 in
theorem by_clear {sL : Nat} {sx : Nat → Int32} {cs : Nat → Nat → Option Int32} {H : am_H} {o a : Nat} {f n : Int32} {m : Nat} {g : Nat → Int32} (ho : H[o]? = some (.inr (0, [.ref a, .int f, .int n]))) (ha : H[a]? = some (.inl (.int, (m, .inl g)))) (hoa : o ≠ a)  :
    aX sL sx cs 165 0 [(0, .ref o)] [] H 0 0 = some (none, (H.set o (.inr (0, [.ref a, .int f, .int 0]))), 0, 0) := by
  refine (am_nb (m := 2) (pc1 := 2) (ls1 := [(0, .ref o)]) (st1 := [.int 0, .ref o]) (H1 := H) (k1 := 0) (n1 := 0) (by with_unfolding_all rfl)).trans ?_
  refine (st_put rfl ho rfl rfl rfl).trans ?_
  have g1 := am_gs (c := .inr (0, [.ref a, .int f, .int 0])) ho
  have g2 := am_gn (c := .inr (0, [.ref a, .int f, .int 0])) hoa ha
  exact st_vret rfl rfl

set_option maxRecDepth 100000 in
theorem by_get {sL : Nat} {sx : Nat → Int32} {cs : Nat → Nat → Option Int32} {H : am_H} {o a : Nat} {f n : Int32} {m : Nat} {g : Nat → Int32} {i : Int32} (ho : H[o]? = some (.inr (0, [.ref a, .int f, .int n]))) (ha : H[a]? = some (.inl (.int, (m, .inl g)))) (hoa : o ≠ a) (s1 : ¬ (i < 0) → (i < n) → (¬ Int32.ofNat m = 0)) (s2 : ¬ (i < 0) → (i < n) → (¬ ((f + i) - (f + i) / (Int32.ofNat m) * (Int32.ofNat m) < 0 ∨ m ≤ ((f + i) - (f + i) / (Int32.ofNat m) * (Int32.ofNat m)).toNatClampNeg))) :
    aX sL sx cs 164 0 [(0, .ref o), (1, .int i)] [] H 0 0 = if i < 0 then some (some (.int (-1)), H, 0, 0) else (if i < n then some (some (.int (g (((f + i) - (f + i) / (Int32.ofNat m) * (Int32.ofNat m)).toNatClampNeg))), H, 0, 0) else some (some (.int (-1)), H, 0, 0)) := by
  refine (am_nb (m := 1) (pc1 := 1) (ls1 := [(0, .ref o), (1, .int i)]) (st1 := [.int i]) (H1 := H) (k1 := 0) (n1 := 0) (by with_unfolding_all rfl)).trans ?_
  refine (st_if rfl).trans ?_
  by_cases c1 : i < 0
  · rw [if_pos c1, show am_br ClassFile.Cond.lt i (0 : Int32) 12 4 = 12 from if_pos c1]
    refine (am_nb (m := 2) (pc1 := 33) (ls1 := [(0, .ref o), (1, .int i)]) (st1 := [.int (-1)]) (H1 := H) (k1 := 0) (n1 := 0) (by with_unfolding_all rfl)).trans ?_
    exact st_iret rfl rfl rfl
  · rw [if_neg c1, show am_br ClassFile.Cond.lt i (0 : Int32) 12 4 = 4 from if_neg c1]
    refine (am_nb (m := 2) (pc1 := 6) (ls1 := [(0, .ref o), (1, .int i)]) (st1 := [.ref o, .int i]) (H1 := H) (k1 := 0) (n1 := 0) (by with_unfolding_all rfl)).trans ?_
    refine (st_get rfl ho rfl).trans ?_
    refine (st_icmp rfl).trans ?_
    by_cases c2 : i < n
    · rw [if_pos c2, show am_br ClassFile.Cond.lt i n 16 12 = 16 from if_pos c2]
      refine (am_nb (m := 1) (pc1 := 17) (ls1 := [(0, .ref o), (1, .int i)]) (st1 := [.ref o]) (H1 := H) (k1 := 0) (n1 := 0) (by with_unfolding_all rfl)).trans ?_
      refine (st_get rfl ho rfl).trans ?_
      refine (am_nb (m := 1) (pc1 := 21) (ls1 := [(0, .ref o), (1, .int i)]) (st1 := [.ref o, .ref a]) (H1 := H) (k1 := 0) (n1 := 0) (by with_unfolding_all rfl)).trans ?_
      refine (st_get rfl ho rfl).trans ?_
      refine (am_nb (m := 3) (pc1 := 27) (ls1 := [(0, .ref o), (1, .int i)]) (st1 := [.ref o, .int (f + i), .ref a]) (H1 := H) (k1 := 0) (n1 := 0) (by with_unfolding_all rfl)).trans ?_
      refine (st_get rfl ho rfl).trans ?_
      refine (st_alen rfl ha).trans ?_
      refine (st_irem rfl (s1 c1 c2)).trans ?_
      refine (st_iald rfl ha (s2 c1 c2)).trans ?_
      exact st_iret rfl rfl rfl
    · rw [if_neg c2, show am_br ClassFile.Cond.lt i n 16 12 = 12 from if_neg c2]
      refine (am_nb (m := 2) (pc1 := 33) (ls1 := [(0, .ref o), (1, .int i)]) (st1 := [.int (-1)]) (H1 := H) (k1 := 0) (n1 := 0) (by with_unfolding_all rfl)).trans ?_
      exact st_iret rfl rfl rfl

set_option maxRecDepth 100000 in
theorem by_add {sL : Nat} {sx : Nat → Int32} {cs : Nat → Nat → Option Int32} {H : am_H} {o a : Nat} {f n : Int32} {m : Nat} {g : Nat → Int32} {b : Int32} (ho : H[o]? = some (.inr (0, [.ref a, .int f, .int n]))) (ha : H[a]? = some (.inl (.int, (m, .inl g)))) (hoa : o ≠ a) (s1 : (n < (Int32.ofNat m)) → (¬ Int32.ofNat m = 0)) (s2 : (n < (Int32.ofNat m)) → (¬ ((f + n) - (f + n) / (Int32.ofNat m) * (Int32.ofNat m) < 0 ∨ m ≤ ((f + n) - (f + n) / (Int32.ofNat m) * (Int32.ofNat m)).toNatClampNeg))) :
    aX sL sx cs 156 0 [(0, .ref o), (1, .int b)] [] H 0 0 = if n < (Int32.ofNat m) then some (some (.int 1), ((H.set a (.inl (.int, (m, .inl (upd g (((f + n) - (f + n) / (Int32.ofNat m) * (Int32.ofNat m)).toNatClampNeg) b))))).set o (.inr (0, [.ref a, .int f, .int (n + 1)]))), 0, 0) else some (some (.int 0), H, 0, 0) := by
  refine (am_nb (m := 1) (pc1 := 1) (ls1 := [(0, .ref o), (1, .int b)]) (st1 := [.ref o]) (H1 := H) (k1 := 0) (n1 := 0) (by with_unfolding_all rfl)).trans ?_
  refine (st_get rfl ho rfl).trans ?_
  refine (am_nb (m := 1) (pc1 := 5) (ls1 := [(0, .ref o), (1, .int b)]) (st1 := [.ref o, .int n]) (H1 := H) (k1 := 0) (n1 := 0) (by with_unfolding_all rfl)).trans ?_
  refine (st_get rfl ho rfl).trans ?_
  refine (st_alen rfl ha).trans ?_
  refine (st_icmp rfl).trans ?_
  by_cases c1 : n < (Int32.ofNat m)
  · rw [if_pos c1, show am_br ClassFile.Cond.lt n (Int32.ofNat m) 14 12 = 14 from if_pos c1]
    refine (am_nb (m := 1) (pc1 := 15) (ls1 := [(0, .ref o), (1, .int b)]) (st1 := [.ref o]) (H1 := H) (k1 := 0) (n1 := 0) (by with_unfolding_all rfl)).trans ?_
    refine (st_get rfl ho rfl).trans ?_
    refine (am_nb (m := 1) (pc1 := 19) (ls1 := [(0, .ref o), (1, .int b)]) (st1 := [.ref o, .ref a]) (H1 := H) (k1 := 0) (n1 := 0) (by with_unfolding_all rfl)).trans ?_
    refine (st_get rfl ho rfl).trans ?_
    refine (am_nb (m := 1) (pc1 := 23) (ls1 := [(0, .ref o), (1, .int b)]) (st1 := [.ref o, .int f, .ref a]) (H1 := H) (k1 := 0) (n1 := 0) (by with_unfolding_all rfl)).trans ?_
    refine (st_get rfl ho rfl).trans ?_
    refine (am_nb (m := 2) (pc1 := 28) (ls1 := [(0, .ref o), (1, .int b)]) (st1 := [.ref o, .int (f + n), .ref a]) (H1 := H) (k1 := 0) (n1 := 0) (by with_unfolding_all rfl)).trans ?_
    refine (st_get rfl ho rfl).trans ?_
    refine (st_alen rfl ha).trans ?_
    refine (st_irem rfl (s1 c1)).trans ?_
    refine (am_nb (m := 1) (pc1 := 34) (ls1 := [(0, .ref o), (1, .int b)]) (st1 := [.int b, .int ((f + n) - (f + n) / (Int32.ofNat m) * (Int32.ofNat m)), .ref a]) (H1 := H) (k1 := 0) (n1 := 0) (by with_unfolding_all rfl)).trans ?_
    refine (st_iast rfl ha (s2 c1)).trans ?_
    have g1 := am_gn (c := .inl (.int, (m, .inl (upd g (((f + n) - (f + n) / (Int32.ofNat m) * (Int32.ofNat m)).toNatClampNeg) b)))) (Ne.symm hoa) ho
    have g2 := am_gs (c := .inl (.int, (m, .inl (upd g (((f + n) - (f + n) / (Int32.ofNat m) * (Int32.ofNat m)).toNatClampNeg) b)))) ha
    refine (am_nb (m := 2) (pc1 := 37) (ls1 := [(0, .ref o), (1, .int b)]) (st1 := [.ref o, .ref o]) (H1 := (H.set a (.inl (.int, (m, .inl (upd g (((f + n) - (f + n) / (Int32.ofNat m) * (Int32.ofNat m)).toNatClampNeg) b)))))) (k1 := 0) (n1 := 0) (by with_unfolding_all rfl)).trans ?_
    refine (st_get rfl g1 rfl).trans ?_
    refine (am_nb (m := 2) (pc1 := 42) (ls1 := [(0, .ref o), (1, .int b)]) (st1 := [.int (n + 1), .ref o]) (H1 := (H.set a (.inl (.int, (m, .inl (upd g (((f + n) - (f + n) / (Int32.ofNat m) * (Int32.ofNat m)).toNatClampNeg) b)))))) (k1 := 0) (n1 := 0) (by with_unfolding_all rfl)).trans ?_
    refine (st_put rfl g1 rfl rfl rfl).trans ?_
    have g3 := am_gs (c := .inr (0, [.ref a, .int f, .int (n + 1)])) g1
    have g4 := am_gn (c := .inr (0, [.ref a, .int f, .int (n + 1)])) hoa g2
    refine (am_nb (m := 1) (pc1 := 46) (ls1 := [(0, .ref o), (1, .int b)]) (st1 := [.int 1]) (H1 := ((H.set a (.inl (.int, (m, .inl (upd g (((f + n) - (f + n) / (Int32.ofNat m) * (Int32.ofNat m)).toNatClampNeg) b))))).set o (.inr (0, [.ref a, .int f, .int (n + 1)])))) (k1 := 0) (n1 := 0) (by with_unfolding_all rfl)).trans ?_
    exact st_iret rfl rfl rfl
  · rw [if_neg c1, show am_br ClassFile.Cond.lt n (Int32.ofNat m) 14 12 = 12 from if_neg c1]
    refine (am_nb (m := 1) (pc1 := 13) (ls1 := [(0, .ref o), (1, .int b)]) (st1 := [.int 0]) (H1 := H) (k1 := 0) (n1 := 0) (by with_unfolding_all rfl)).trans ?_
    exact st_iret rfl rfl rfl

set_option maxRecDepth 100000 in
theorem by_takeFirst {sL : Nat} {sx : Nat → Int32} {cs : Nat → Nat → Option Int32} {H : am_H} {o a : Nat} {f n : Int32} {m : Nat} {g : Nat → Int32} (ho : H[o]? = some (.inr (0, [.ref a, .int f, .int n]))) (ha : H[a]? = some (.inl (.int, (m, .inl g)))) (hoa : o ≠ a) (s1 : ((0 : Int32) < n) → (¬ Int32.ofNat m = 0)) (s2 : ((0 : Int32) < n) → (¬ ((f + (0 : Int32)) - (f + (0 : Int32)) / (Int32.ofNat m) * (Int32.ofNat m) < 0 ∨ m ≤ ((f + (0 : Int32)) - (f + (0 : Int32)) / (Int32.ofNat m) * (Int32.ofNat m)).toNatClampNeg))) (s3 : ¬ ((0 : Int32) < 0) → ((0 : Int32) < n) → ¬ (n ≤ 0) → (¬ Int32.ofNat m = 0)) (s4 : ¬ ((0 : Int32) < 0) → ¬ ((0 : Int32) < n) → ¬ (n ≤ 0) → (¬ Int32.ofNat m = 0)) :
    aX sL sx cs 172 0 [(0, .ref o)] [] H 0 0 = if (0 : Int32) < n then (if n ≤ 0 then some (some (.int (g (((f + (0 : Int32)) - (f + (0 : Int32)) / (Int32.ofNat m) * (Int32.ofNat m)).toNatClampNeg))), H, 0, 0) else some (some (.int (g (((f + (0 : Int32)) - (f + (0 : Int32)) / (Int32.ofNat m) * (Int32.ofNat m)).toNatClampNeg))), ((H.set o (.inr (0, [.ref a, .int ((f + 1) - (f + 1) / (Int32.ofNat m) * (Int32.ofNat m)), .int n]))).set o (.inr (0, [.ref a, .int ((f + 1) - (f + 1) / (Int32.ofNat m) * (Int32.ofNat m)), .int (n - 1)]))), 0, 0)) else (if n ≤ 0 then some (some (.int (-1)), H, 0, 0) else some (some (.int (-1)), ((H.set o (.inr (0, [.ref a, .int ((f + 1) - (f + 1) / (Int32.ofNat m) * (Int32.ofNat m)), .int n]))).set o (.inr (0, [.ref a, .int ((f + 1) - (f + 1) / (Int32.ofNat m) * (Int32.ofNat m)), .int (n - 1)]))), 0, 0)) := by
  refine (am_nb (m := 2) (pc1 := 2) (ls1 := [(0, .ref o)]) (st1 := [.int 0, .ref o]) (H1 := H) (k1 := 0) (n1 := 0) (by with_unfolding_all rfl)).trans ?_
  by_cases c1 : (0 : Int32) < n
  · rw [if_pos c1]
    refine (st_cv1 (as := [.int 0]) (rest := []) (H1 := H) rfl rfl rfl rfl ho rfl (by with_unfolding_all rfl) (by with_unfolding_all rfl) ((by_get ho ha hoa (fun _ _ => (s1 c1)) (fun _ _ => (s2 c1))).trans (by rw [if_neg (by decide), if_pos c1]))).trans ?_
    refine (am_nb (m := 2) (pc1 := 7) (ls1 := [(1, .int (g (((f + (0 : Int32)) - (f + (0 : Int32)) / (Int32.ofNat m) * (Int32.ofNat m)).toNatClampNeg))), (0, .ref o)]) (st1 := [.ref o]) (H1 := H) (k1 := 0) (n1 := 0) (by with_unfolding_all rfl)).trans ?_
    refine (st_get rfl ho rfl).trans ?_
    refine (st_if rfl).trans ?_
    by_cases c2 : n ≤ 0
    · rw [if_pos c2, show am_br ClassFile.Cond.le n (0 : Int32) 39 13 = 39 from if_pos c2]
      refine (am_nb (m := 1) (pc1 := 40) (ls1 := [(1, .int (g (((f + (0 : Int32)) - (f + (0 : Int32)) / (Int32.ofNat m) * (Int32.ofNat m)).toNatClampNeg))), (0, .ref o)]) (st1 := [.int (g (((f + (0 : Int32)) - (f + (0 : Int32)) / (Int32.ofNat m) * (Int32.ofNat m)).toNatClampNeg))]) (H1 := H) (k1 := 0) (n1 := 0) (by with_unfolding_all rfl)).trans ?_
      exact st_iret rfl rfl rfl
    · rw [if_neg c2, show am_br ClassFile.Cond.le n (0 : Int32) 39 13 = 13 from if_neg c2]
      refine (am_nb (m := 2) (pc1 := 15) (ls1 := [(1, .int (g (((f + (0 : Int32)) - (f + (0 : Int32)) / (Int32.ofNat m) * (Int32.ofNat m)).toNatClampNeg))), (0, .ref o)]) (st1 := [.ref o, .ref o]) (H1 := H) (k1 := 0) (n1 := 0) (by with_unfolding_all rfl)).trans ?_
      refine (st_get rfl ho rfl).trans ?_
      refine (am_nb (m := 3) (pc1 := 21) (ls1 := [(1, .int (g (((f + (0 : Int32)) - (f + (0 : Int32)) / (Int32.ofNat m) * (Int32.ofNat m)).toNatClampNeg))), (0, .ref o)]) (st1 := [.ref o, .int (f + 1), .ref o]) (H1 := H) (k1 := 0) (n1 := 0) (by with_unfolding_all rfl)).trans ?_
      refine (st_get rfl ho rfl).trans ?_
      refine (st_alen rfl ha).trans ?_
      refine (st_irem rfl (s3 (by decide) c1 c2)).trans ?_
      refine (st_put rfl ho rfl rfl rfl).trans ?_
      have g1 := am_gs (c := .inr (0, [.ref a, .int ((f + 1) - (f + 1) / (Int32.ofNat m) * (Int32.ofNat m)), .int n])) ho
      have g2 := am_gn (c := .inr (0, [.ref a, .int ((f + 1) - (f + 1) / (Int32.ofNat m) * (Int32.ofNat m)), .int n])) hoa ha
      refine (am_nb (m := 2) (pc1 := 31) (ls1 := [(1, .int (g (((f + (0 : Int32)) - (f + (0 : Int32)) / (Int32.ofNat m) * (Int32.ofNat m)).toNatClampNeg))), (0, .ref o)]) (st1 := [.ref o, .ref o]) (H1 := (H.set o (.inr (0, [.ref a, .int ((f + 1) - (f + 1) / (Int32.ofNat m) * (Int32.ofNat m)), .int n])))) (k1 := 0) (n1 := 0) (by with_unfolding_all rfl)).trans ?_
      refine (st_get rfl g1 rfl).trans ?_
      refine (am_nb (m := 2) (pc1 := 36) (ls1 := [(1, .int (g (((f + (0 : Int32)) - (f + (0 : Int32)) / (Int32.ofNat m) * (Int32.ofNat m)).toNatClampNeg))), (0, .ref o)]) (st1 := [.int (n - 1), .ref o]) (H1 := (H.set o (.inr (0, [.ref a, .int ((f + 1) - (f + 1) / (Int32.ofNat m) * (Int32.ofNat m)), .int n])))) (k1 := 0) (n1 := 0) (by with_unfolding_all rfl)).trans ?_
      refine (st_put rfl g1 rfl rfl rfl).trans ?_
      have g3 := am_gs (c := .inr (0, [.ref a, .int ((f + 1) - (f + 1) / (Int32.ofNat m) * (Int32.ofNat m)), .int (n - 1)])) g1
      have g4 := am_gn (c := .inr (0, [.ref a, .int ((f + 1) - (f + 1) / (Int32.ofNat m) * (Int32.ofNat m)), .int (n - 1)])) hoa g2
      refine (am_nb (m := 1) (pc1 := 40) (ls1 := [(1, .int (g (((f + (0 : Int32)) - (f + (0 : Int32)) / (Int32.ofNat m) * (Int32.ofNat m)).toNatClampNeg))), (0, .ref o)]) (st1 := [.int (g (((f + (0 : Int32)) - (f + (0 : Int32)) / (Int32.ofNat m) * (Int32.ofNat m)).toNatClampNeg))]) (H1 := ((H.set o (.inr (0, [.ref a, .int ((f + 1) - (f + 1) / (Int32.ofNat m) * (Int32.ofNat m)), .int n]))).set o (.inr (0, [.ref a, .int ((f + 1) - (f + 1) / (Int32.ofNat m) * (Int32.ofNat m)), .int (n - 1)])))) (k1 := 0) (n1 := 0) (by with_unfolding_all rfl)).trans ?_
      exact st_iret rfl rfl rfl
  · rw [if_neg c1]
    refine (st_cv1 (as := [.int 0]) (rest := []) (H1 := H) rfl rfl rfl rfl ho rfl (by with_unfolding_all rfl) (by with_unfolding_all rfl) ((by_get ho ha hoa (by intros; contradiction) (by intros; contradiction)).trans (by rw [if_neg (by decide), if_neg c1]))).trans ?_
    refine (am_nb (m := 2) (pc1 := 7) (ls1 := [(1, .int (-1)), (0, .ref o)]) (st1 := [.ref o]) (H1 := H) (k1 := 0) (n1 := 0) (by with_unfolding_all rfl)).trans ?_
    refine (st_get rfl ho rfl).trans ?_
    refine (st_if rfl).trans ?_
    by_cases c3 : n ≤ 0
    · rw [if_pos c3, show am_br ClassFile.Cond.le n (0 : Int32) 39 13 = 39 from if_pos c3]
      refine (am_nb (m := 1) (pc1 := 40) (ls1 := [(1, .int (-1)), (0, .ref o)]) (st1 := [.int (-1)]) (H1 := H) (k1 := 0) (n1 := 0) (by with_unfolding_all rfl)).trans ?_
      exact st_iret rfl rfl rfl
    · rw [if_neg c3, show am_br ClassFile.Cond.le n (0 : Int32) 39 13 = 13 from if_neg c3]
      refine (am_nb (m := 2) (pc1 := 15) (ls1 := [(1, .int (-1)), (0, .ref o)]) (st1 := [.ref o, .ref o]) (H1 := H) (k1 := 0) (n1 := 0) (by with_unfolding_all rfl)).trans ?_
      refine (st_get rfl ho rfl).trans ?_
      refine (am_nb (m := 3) (pc1 := 21) (ls1 := [(1, .int (-1)), (0, .ref o)]) (st1 := [.ref o, .int (f + 1), .ref o]) (H1 := H) (k1 := 0) (n1 := 0) (by with_unfolding_all rfl)).trans ?_
      refine (st_get rfl ho rfl).trans ?_
      refine (st_alen rfl ha).trans ?_
      refine (st_irem rfl (s4 (by decide) c1 c3)).trans ?_
      refine (st_put rfl ho rfl rfl rfl).trans ?_
      have g5 := am_gs (c := .inr (0, [.ref a, .int ((f + 1) - (f + 1) / (Int32.ofNat m) * (Int32.ofNat m)), .int n])) ho
      have g6 := am_gn (c := .inr (0, [.ref a, .int ((f + 1) - (f + 1) / (Int32.ofNat m) * (Int32.ofNat m)), .int n])) hoa ha
      refine (am_nb (m := 2) (pc1 := 31) (ls1 := [(1, .int (-1)), (0, .ref o)]) (st1 := [.ref o, .ref o]) (H1 := (H.set o (.inr (0, [.ref a, .int ((f + 1) - (f + 1) / (Int32.ofNat m) * (Int32.ofNat m)), .int n])))) (k1 := 0) (n1 := 0) (by with_unfolding_all rfl)).trans ?_
      refine (st_get rfl g5 rfl).trans ?_
      refine (am_nb (m := 2) (pc1 := 36) (ls1 := [(1, .int (-1)), (0, .ref o)]) (st1 := [.int (n - 1), .ref o]) (H1 := (H.set o (.inr (0, [.ref a, .int ((f + 1) - (f + 1) / (Int32.ofNat m) * (Int32.ofNat m)), .int n])))) (k1 := 0) (n1 := 0) (by with_unfolding_all rfl)).trans ?_
      refine (st_put rfl g5 rfl rfl rfl).trans ?_
      have g7 := am_gs (c := .inr (0, [.ref a, .int ((f + 1) - (f + 1) / (Int32.ofNat m) * (Int32.ofNat m)), .int (n - 1)])) g5
      have g8 := am_gn (c := .inr (0, [.ref a, .int ((f + 1) - (f + 1) / (Int32.ofNat m) * (Int32.ofNat m)), .int (n - 1)])) hoa g6
      refine (am_nb (m := 1) (pc1 := 40) (ls1 := [(1, .int (-1)), (0, .ref o)]) (st1 := [.int (-1)]) (H1 := ((H.set o (.inr (0, [.ref a, .int ((f + 1) - (f + 1) / (Int32.ofNat m) * (Int32.ofNat m)), .int n]))).set o (.inr (0, [.ref a, .int ((f + 1) - (f + 1) / (Int32.ofNat m) * (Int32.ofNat m)), .int (n - 1)])))) (k1 := 0) (n1 := 0) (by with_unfolding_all rfl)).trans ?_
      exact st_iret rfl rfl rfl

set_option maxRecDepth 100000 in
theorem by_takeLast {sL : Nat} {sx : Nat → Int32} {cs : Nat → Nat → Option Int32} {H : am_H} {o a : Nat} {f n : Int32} {m : Nat} {g : Nat → Int32} (ho : H[o]? = some (.inr (0, [.ref a, .int f, .int n]))) (ha : H[a]? = some (.inl (.int, (m, .inl g)))) (hoa : o ≠ a) (s1 : ¬ ((n - 1) < 0) → ((n - 1) < n) → (¬ Int32.ofNat m = 0)) (s2 : ¬ ((n - 1) < 0) → ((n - 1) < n) → (¬ ((f + (n - 1)) - (f + (n - 1)) / (Int32.ofNat m) * (Int32.ofNat m) < 0 ∨ m ≤ ((f + (n - 1)) - (f + (n - 1)) / (Int32.ofNat m) * (Int32.ofNat m)).toNatClampNeg))) :
    aX sL sx cs 187 0 [(0, .ref o)] [] H 0 0 = if (n - 1) < 0 then (if n ≤ 0 then some (some (.int (-1)), H, 0, 0) else some (some (.int (-1)), (H.set o (.inr (0, [.ref a, .int f, .int (n - 1)]))), 0, 0)) else (if (n - 1) < n then (if n ≤ 0 then some (some (.int (g (((f + (n - 1)) - (f + (n - 1)) / (Int32.ofNat m) * (Int32.ofNat m)).toNatClampNeg))), H, 0, 0) else some (some (.int (g (((f + (n - 1)) - (f + (n - 1)) / (Int32.ofNat m) * (Int32.ofNat m)).toNatClampNeg))), (H.set o (.inr (0, [.ref a, .int f, .int (n - 1)]))), 0, 0)) else (if n ≤ 0 then some (some (.int (-1)), H, 0, 0) else some (some (.int (-1)), (H.set o (.inr (0, [.ref a, .int f, .int (n - 1)]))), 0, 0))) := by
  refine (am_nb (m := 2) (pc1 := 2) (ls1 := [(0, .ref o)]) (st1 := [.ref o, .ref o]) (H1 := H) (k1 := 0) (n1 := 0) (by with_unfolding_all rfl)).trans ?_
  refine (st_get rfl ho rfl).trans ?_
  refine (am_nb (m := 2) (pc1 := 7) (ls1 := [(0, .ref o)]) (st1 := [.int (n - 1), .ref o]) (H1 := H) (k1 := 0) (n1 := 0) (by with_unfolding_all rfl)).trans ?_
  by_cases c1 : (n - 1) < 0
  · rw [if_pos c1]
    refine (st_cv1 (as := [.int (n - 1)]) (rest := []) (H1 := H) rfl rfl rfl rfl ho rfl (by with_unfolding_all rfl) (by with_unfolding_all rfl) ((by_get ho ha hoa (by intros; contradiction) (by intros; contradiction)).trans (by rw [if_pos c1]))).trans ?_
    refine (am_nb (m := 2) (pc1 := 12) (ls1 := [(1, .int (-1)), (0, .ref o)]) (st1 := [.ref o]) (H1 := H) (k1 := 0) (n1 := 0) (by with_unfolding_all rfl)).trans ?_
    refine (st_get rfl ho rfl).trans ?_
    refine (st_if rfl).trans ?_
    by_cases c2 : n ≤ 0
    · rw [if_pos c2, show am_br ClassFile.Cond.le n (0 : Int32) 28 18 = 28 from if_pos c2]
      refine (am_nb (m := 1) (pc1 := 29) (ls1 := [(1, .int (-1)), (0, .ref o)]) (st1 := [.int (-1)]) (H1 := H) (k1 := 0) (n1 := 0) (by with_unfolding_all rfl)).trans ?_
      exact st_iret rfl rfl rfl
    · rw [if_neg c2, show am_br ClassFile.Cond.le n (0 : Int32) 28 18 = 18 from if_neg c2]
      refine (am_nb (m := 2) (pc1 := 20) (ls1 := [(1, .int (-1)), (0, .ref o)]) (st1 := [.ref o, .ref o]) (H1 := H) (k1 := 0) (n1 := 0) (by with_unfolding_all rfl)).trans ?_
      refine (st_get rfl ho rfl).trans ?_
      refine (am_nb (m := 2) (pc1 := 25) (ls1 := [(1, .int (-1)), (0, .ref o)]) (st1 := [.int (n - 1), .ref o]) (H1 := H) (k1 := 0) (n1 := 0) (by with_unfolding_all rfl)).trans ?_
      refine (st_put rfl ho rfl rfl rfl).trans ?_
      have g1 := am_gs (c := .inr (0, [.ref a, .int f, .int (n - 1)])) ho
      have g2 := am_gn (c := .inr (0, [.ref a, .int f, .int (n - 1)])) hoa ha
      refine (am_nb (m := 1) (pc1 := 29) (ls1 := [(1, .int (-1)), (0, .ref o)]) (st1 := [.int (-1)]) (H1 := (H.set o (.inr (0, [.ref a, .int f, .int (n - 1)])))) (k1 := 0) (n1 := 0) (by with_unfolding_all rfl)).trans ?_
      exact st_iret rfl rfl rfl
  · rw [if_neg c1]
    by_cases c3 : (n - 1) < n
    · rw [if_pos c3]
      refine (st_cv1 (as := [.int (n - 1)]) (rest := []) (H1 := H) rfl rfl rfl rfl ho rfl (by with_unfolding_all rfl) (by with_unfolding_all rfl) ((by_get ho ha hoa (fun _ _ => (s1 c1 c3)) (fun _ _ => (s2 c1 c3))).trans (by rw [if_neg c1, if_pos c3]))).trans ?_
      refine (am_nb (m := 2) (pc1 := 12) (ls1 := [(1, .int (g (((f + (n - 1)) - (f + (n - 1)) / (Int32.ofNat m) * (Int32.ofNat m)).toNatClampNeg))), (0, .ref o)]) (st1 := [.ref o]) (H1 := H) (k1 := 0) (n1 := 0) (by with_unfolding_all rfl)).trans ?_
      refine (st_get rfl ho rfl).trans ?_
      refine (st_if rfl).trans ?_
      by_cases c4 : n ≤ 0
      · rw [if_pos c4, show am_br ClassFile.Cond.le n (0 : Int32) 28 18 = 28 from if_pos c4]
        refine (am_nb (m := 1) (pc1 := 29) (ls1 := [(1, .int (g (((f + (n - 1)) - (f + (n - 1)) / (Int32.ofNat m) * (Int32.ofNat m)).toNatClampNeg))), (0, .ref o)]) (st1 := [.int (g (((f + (n - 1)) - (f + (n - 1)) / (Int32.ofNat m) * (Int32.ofNat m)).toNatClampNeg))]) (H1 := H) (k1 := 0) (n1 := 0) (by with_unfolding_all rfl)).trans ?_
        exact st_iret rfl rfl rfl
      · rw [if_neg c4, show am_br ClassFile.Cond.le n (0 : Int32) 28 18 = 18 from if_neg c4]
        refine (am_nb (m := 2) (pc1 := 20) (ls1 := [(1, .int (g (((f + (n - 1)) - (f + (n - 1)) / (Int32.ofNat m) * (Int32.ofNat m)).toNatClampNeg))), (0, .ref o)]) (st1 := [.ref o, .ref o]) (H1 := H) (k1 := 0) (n1 := 0) (by with_unfolding_all rfl)).trans ?_
        refine (st_get rfl ho rfl).trans ?_
        refine (am_nb (m := 2) (pc1 := 25) (ls1 := [(1, .int (g (((f + (n - 1)) - (f + (n - 1)) / (Int32.ofNat m) * (Int32.ofNat m)).toNatClampNeg))), (0, .ref o)]) (st1 := [.int (n - 1), .ref o]) (H1 := H) (k1 := 0) (n1 := 0) (by with_unfolding_all rfl)).trans ?_
        refine (st_put rfl ho rfl rfl rfl).trans ?_
        have g3 := am_gs (c := .inr (0, [.ref a, .int f, .int (n - 1)])) ho
        have g4 := am_gn (c := .inr (0, [.ref a, .int f, .int (n - 1)])) hoa ha
        refine (am_nb (m := 1) (pc1 := 29) (ls1 := [(1, .int (g (((f + (n - 1)) - (f + (n - 1)) / (Int32.ofNat m) * (Int32.ofNat m)).toNatClampNeg))), (0, .ref o)]) (st1 := [.int (g (((f + (n - 1)) - (f + (n - 1)) / (Int32.ofNat m) * (Int32.ofNat m)).toNatClampNeg))]) (H1 := (H.set o (.inr (0, [.ref a, .int f, .int (n - 1)])))) (k1 := 0) (n1 := 0) (by with_unfolding_all rfl)).trans ?_
        exact st_iret rfl rfl rfl
    · rw [if_neg c3]
      refine (st_cv1 (as := [.int (n - 1)]) (rest := []) (H1 := H) rfl rfl rfl rfl ho rfl (by with_unfolding_all rfl) (by with_unfolding_all rfl) ((by_get ho ha hoa (by intros; contradiction) (by intros; contradiction)).trans (by rw [if_neg c1, if_neg c3]))).trans ?_
      refine (am_nb (m := 2) (pc1 := 12) (ls1 := [(1, .int (-1)), (0, .ref o)]) (st1 := [.ref o]) (H1 := H) (k1 := 0) (n1 := 0) (by with_unfolding_all rfl)).trans ?_
      refine (st_get rfl ho rfl).trans ?_
      refine (st_if rfl).trans ?_
      by_cases c5 : n ≤ 0
      · rw [if_pos c5, show am_br ClassFile.Cond.le n (0 : Int32) 28 18 = 28 from if_pos c5]
        refine (am_nb (m := 1) (pc1 := 29) (ls1 := [(1, .int (-1)), (0, .ref o)]) (st1 := [.int (-1)]) (H1 := H) (k1 := 0) (n1 := 0) (by with_unfolding_all rfl)).trans ?_
        exact st_iret rfl rfl rfl
      · rw [if_neg c5, show am_br ClassFile.Cond.le n (0 : Int32) 28 18 = 18 from if_neg c5]
        refine (am_nb (m := 2) (pc1 := 20) (ls1 := [(1, .int (-1)), (0, .ref o)]) (st1 := [.ref o, .ref o]) (H1 := H) (k1 := 0) (n1 := 0) (by with_unfolding_all rfl)).trans ?_
        refine (st_get rfl ho rfl).trans ?_
        refine (am_nb (m := 2) (pc1 := 25) (ls1 := [(1, .int (-1)), (0, .ref o)]) (st1 := [.int (n - 1), .ref o]) (H1 := H) (k1 := 0) (n1 := 0) (by with_unfolding_all rfl)).trans ?_
        refine (st_put rfl ho rfl rfl rfl).trans ?_
        have g5 := am_gs (c := .inr (0, [.ref a, .int f, .int (n - 1)])) ho
        have g6 := am_gn (c := .inr (0, [.ref a, .int f, .int (n - 1)])) hoa ha
        refine (am_nb (m := 1) (pc1 := 29) (ls1 := [(1, .int (-1)), (0, .ref o)]) (st1 := [.int (-1)]) (H1 := (H.set o (.inr (0, [.ref a, .int f, .int (n - 1)])))) (k1 := 0) (n1 := 0) (by with_unfolding_all rfl)).trans ?_
        exact st_iret rfl rfl rfl
