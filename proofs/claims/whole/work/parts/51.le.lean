/-! More locals do no harm. -/
def le_c : am_L → am_L → Prop
  | [], _ => True
  | q :: t, ls => am_ld ls q.1 = some q.2 ∧ le_c t ls
def le_n : am_L → Prop
  | [] => True
  | q :: t => (∀ r ∈ t, r.1 ≠ q.1) ∧ le_n t
def le_d (l1 l2 : am_L) : Prop := ∀ (i : Nat) (v : Value), am_ld l1 i = some v → am_ld l2 i = some v
theorem le_cd : ∀ {l1 l2 : am_L}, le_c l1 l2 → le_d l1 l2
  | [], _, _ => fun i v e => by cases e
  | q :: t, l2, hc => fun i v e => by
    unfold am_ld at e
    by_cases hq : q.1 = i
    · rw [if_pos hq] at e
      cases e
      rw [← hq]
      exact hc.1
    · rw [if_neg hq] at e
      exact le_cd hc.2 i v e
theorem le_f {P : Nat × Value → Bool} : ∀ {l : am_L} {j : Nat} {w : Value}, am_ld l j = some w → P (j, w) = true → am_ld (l.filter P) j = some w
  | [], _, _, e, _ => by cases e
  | q :: t, j, w, e, hp => by
    unfold am_ld at e
    by_cases hq : q.1 = j
    · rw [if_pos hq] at e
      cases e
      have e1 : q = (j, q.2) := by rw [← hq]
      rw [List.filter_cons_of_pos (by rw [e1]; exact hp)]
      unfold am_ld
      rw [if_pos hq]
    · rw [if_neg hq] at e
      by_cases hP : P q = true
      · rw [List.filter_cons_of_pos hP]
        unfold am_ld
        rw [if_neg hq]
        exact le_f e hp
      · rw [List.filter_cons_of_neg hP]
        exact le_f e hp
theorem le_g {P : Nat × Value → Bool} : ∀ {l : am_L} {j : Nat} {w : Value}, le_n l → am_ld (l.filter P) j = some w → am_ld l j = some w ∧ P (j, w) = true
  | [], _, _, _, e => by cases e
  | q :: t, j, w, hn, e => by
    by_cases hP : P q = true
    · rw [List.filter_cons_of_pos hP] at e
      unfold am_ld at e
      by_cases hq : q.1 = j
      · rw [if_pos hq] at e
        cases e
        have e1 : q = (j, q.2) := by rw [← hq]
        refine ⟨?_, by rw [← e1]; exact hP⟩
        unfold am_ld
        rw [if_pos hq]
      · rw [if_neg hq] at e
        obtain ⟨h1, h2⟩ := le_g hn.2 e
        refine ⟨?_, h2⟩
        unfold am_ld
        rw [if_neg hq]
        exact h1
    · rw [List.filter_cons_of_neg hP] at e
      obtain ⟨h1, h2⟩ := le_g hn.2 e
      refine ⟨?_, h2⟩
      unfold am_ld
      rw [if_neg (fun hq => hn.1 _ (am_ld_mem h1) hq.symm)]
      exact h1
theorem le_nf {P : Nat × Value → Bool} : ∀ {l : am_L}, le_n l → le_n (l.filter P)
  | [], _ => trivial
  | q :: t, hn => by
    by_cases hP : P q = true
    · rw [List.filter_cons_of_pos hP]
      exact ⟨fun r hr => hn.1 r (List.mem_filter.mp hr).1, le_nf hn.2⟩
    · rw [List.filter_cons_of_neg hP]
      exact le_nf hn.2
theorem le_st1 {l1 l2 : am_L} {i : Nat} {v : Value} (hd : le_d l1 l2) (hn : le_n l1) : le_d (am_st1 l1 i v) (am_st1 l2 i v) ∧ le_n (am_st1 l1 i v) := by
  refine ⟨fun j w e => ?_, fun r hr q => ?_, le_nf hn⟩
  · unfold am_st1 at e ⊢
    unfold am_ld at e ⊢
    by_cases hq : (i, v).1 = j
    · rw [if_pos hq] at e ⊢
      exact e
    · rw [if_neg hq] at e ⊢
      obtain ⟨h1, h2⟩ := le_g hn e
      exact le_f (hd j w h1) h2
  · have h2 := (List.mem_filter.mp hr).2
    have q : r.1 = i := q
    rw [q] at h2
    simp at h2
theorem le_st2 {l1 l2 : am_L} {i : Nat} {v : Value} (hd : le_d l1 l2) (hn : le_n l1) : le_d (am_st2 l1 i v) (am_st2 l2 i v) ∧ le_n (am_st2 l1 i v) := by
  refine ⟨fun j w e => ?_, fun r hr q => ?_, le_nf hn⟩
  · unfold am_st2 at e ⊢
    unfold am_ld at e ⊢
    by_cases hq : (i, v).1 = j
    · rw [if_pos hq] at e ⊢
      exact e
    · rw [if_neg hq] at e ⊢
      obtain ⟨h1, h2⟩ := le_g hn e
      exact le_f (hd j w h1) h2
  · have h2 := (List.mem_filter.mp hr).2
    have q : r.1 = i := q
    rw [q] at h2
    simp at h2
def le_i (i : Instr) : Bool := match i with
  | .iload _ => true
  | .iload_n _ => true
  | .lload _ => true
  | .lload_n _ => true
  | .aload _ => true
  | .aload_n _ => true
  | .istore _ => true
  | .istore_n _ => true
  | .lstore _ => true
  | .lstore_n _ => true
  | .astore _ => true
  | .astore_n _ => true
  | .iinc _ _ => true
  | _ => false
set_option maxHeartbeats 4000000 in
theorem le_s0 {z : am_Z} {i : Instr} {v : Value} {a b : Nat} {ne : Bool} {tb : List (Int32 × Nat)} {pc : Nat} {ls : am_L} {st : List Value} {h : am_H} {k n : Nat} (hi : le_i i = false) :
    am_s z (i, v, a, b, ne, tb) pc ls st h k n = (am_s z (i, v, a, b, ne, tb) pc [] st h k n).map (fun t => (t.1, ls, t.2.2)) := by
  cases i <;> first | (cases hi; done) | (dsimp only [am_s]; (repeat' split) <;> rfl)
theorem le_s {z : am_Z} {I : am_I} {pc : Nat} {l1 l2 : am_L} {st : List Value} {h : am_H} {k n : Nat} {t : am_T} (hd : le_d l1 l2) (hn : le_n l1) (hs : am_s z I pc l1 st h k n = some t) : ∃ l3 : am_L, am_s z I pc l2 st h k n = some (t.1, l3, t.2.2) ∧ le_d t.2.1 l3 ∧ le_n t.2.1 := by
  obtain ⟨i, v, a, b, ne, tb⟩ := I
  by_cases hi : le_i i = false
  · rw [le_s0 hi] at hs
    obtain ⟨u, hu, rfl⟩ := Option.map_eq_some_iff.mp hs
    exact ⟨l2, by rw [le_s0 hi, hu]; rfl, hd, hn⟩
  · cases i
    case iload j =>
      dsimp only [am_s] at hs ⊢
      split at hs
      · rename_i x hl
        cases hs
        rw [hd _ _ hl]
        exact ⟨l2, rfl, hd, hn⟩
      · cases hs
    case iload_n j =>
      dsimp only [am_s] at hs ⊢
      split at hs
      · rename_i x hl
        cases hs
        rw [hd _ _ hl]
        exact ⟨l2, rfl, hd, hn⟩
      · cases hs
    case lload j =>
      dsimp only [am_s] at hs ⊢
      split at hs
      · rename_i x hl
        cases hs
        rw [hd _ _ hl]
        exact ⟨l2, rfl, hd, hn⟩
      · cases hs
    case lload_n j =>
      dsimp only [am_s] at hs ⊢
      split at hs
      · rename_i x hl
        cases hs
        rw [hd _ _ hl]
        exact ⟨l2, rfl, hd, hn⟩
      · cases hs
    case aload j =>
      dsimp only [am_s] at hs ⊢
      split at hs
      · rename_i x hl
        split at hs
        · rename_i hr
          cases hs
          rw [hd _ _ hl]
          dsimp only
          rw [if_pos hr]
          exact ⟨l2, rfl, hd, hn⟩
        · cases hs
      · cases hs
    case aload_n j =>
      dsimp only [am_s] at hs ⊢
      split at hs
      · rename_i x hl
        split at hs
        · rename_i hr
          cases hs
          rw [hd _ _ hl]
          dsimp only
          rw [if_pos hr]
          exact ⟨l2, rfl, hd, hn⟩
        · cases hs
      · cases hs
    case istore j =>
      dsimp only [am_s] at hs ⊢
      split at hs
      · split at hs
        · rename_i hr
          cases hs
          dsimp only
          rw [if_pos hr]
          exact ⟨_, rfl, le_st1 hd hn⟩
        · cases hs
      · cases hs
    case istore_n j =>
      dsimp only [am_s] at hs ⊢
      split at hs
      · split at hs
        · rename_i hr
          cases hs
          dsimp only
          rw [if_pos hr]
          exact ⟨_, rfl, le_st1 hd hn⟩
        · cases hs
      · cases hs
    case lstore j =>
      dsimp only [am_s] at hs ⊢
      split at hs
      · split at hs
        · rename_i hr
          cases hs
          dsimp only
          rw [if_pos hr]
          exact ⟨_, rfl, le_st2 hd hn⟩
        · cases hs
      · cases hs
    case lstore_n j =>
      dsimp only [am_s] at hs ⊢
      split at hs
      · split at hs
        · rename_i hr
          cases hs
          dsimp only
          rw [if_pos hr]
          exact ⟨_, rfl, le_st2 hd hn⟩
        · cases hs
      · cases hs
    case astore j =>
      dsimp only [am_s] at hs ⊢
      split at hs
      · split at hs
        · rename_i hr
          cases hs
          dsimp only
          rw [if_pos hr]
          exact ⟨_, rfl, le_st1 hd hn⟩
        · cases hs
      · cases hs
    case astore_n j =>
      dsimp only [am_s] at hs ⊢
      split at hs
      · split at hs
        · rename_i hr
          cases hs
          dsimp only
          rw [if_pos hr]
          exact ⟨_, rfl, le_st1 hd hn⟩
        · cases hs
      · cases hs
    case iinc j x =>
      dsimp only [am_s] at hs ⊢
      split at hs
      · rename_i w hl
        split at hs
        · rename_i hr
          cases hs
          rw [hd _ _ hl]
          dsimp only
          rw [if_pos hr]
          exact ⟨_, rfl, le_st1 hd hn⟩
        · cases hs
      · cases hs
    all_goals exact absurd rfl hi
section LEY
variable {co : Nat → Nat → Option am_I} {mt : Nat → am_M} {ct : List am_K} {sL : Nat} {sx : Nat → Int32} {cs : Nat → Nat → Option Int32}
theorem le_y : ∀ (f y pc : Nat) (l1 l2 : am_L) (st : List Value) (h : am_H) (k n : Nat) (A : am_A), le_d l1 l2 → le_n l1 → am_y co mt ct sL sx cs f y pc l1 st h k n = some A → am_y co mt ct sL sx cs f y pc l2 st h k n = some A
  | 0, _, _, _, _, _, _, _, _, _, _, _, hA => by cases hA
  | f + 1, y, pc, l1, l2, st, h, k, n, A, hd, hn, hA => by
    unfold am_y am_1 at hA ⊢
    cases hc : co y pc with
    | none => rw [hc] at hA; cases hA
    | some I =>
      rw [hc] at hA
      dsimp only at hA ⊢
      by_cases h0 : am_kd I = 0
      · rw [if_pos h0] at hA ⊢
        obtain ⟨t, ht, hA⟩ := Option.bind_eq_some_iff.mp hA
        obtain ⟨l3, h3, h4, h5⟩ := le_s hd hn ht
        rw [h3]
        exact le_y f y _ _ _ _ _ _ _ A h4 h5 hA
      · rw [if_neg h0] at hA ⊢
        by_cases h1 : am_kd I = 1
        · rw [if_pos h1] at hA ⊢
          exact hA
        · rw [if_neg h1] at hA ⊢
          obtain ⟨w, hw, hA⟩ := Option.bind_eq_some_iff.mp hA
          rw [hw]
          dsimp only [Option.bind]
          split at hA
          · rename_i hs
            rw [if_pos hs]
            obtain ⟨r, hr, hA⟩ := Option.bind_eq_some_iff.mp hA
            rw [hr]
            exact le_y f y _ _ _ _ _ _ _ A hd hn hA
          · cases hA
end LEY
def le_k : List Nat → Bool
  | [] => true
  | i :: t => t.all (fun j => !(j == i)) && le_k t
theorem le_kn : ∀ {l : am_L}, le_k (l.map (fun q => q.1)) = true → le_n l
  | [], _ => trivial
  | q :: t, hk => by
    have hk : ((t.map (fun q => q.1)).all (fun j => !(j == q.1)) && le_k (t.map (fun q => q.1))) = true := hk
    rw [Bool.and_eq_true] at hk
    refine ⟨fun r hr e => ?_, le_kn hk.2⟩
    have := List.all_eq_true.mp hk.1 r.1 (List.mem_map.mpr ⟨r, hr, rfl⟩)
    rw [e] at this
    simp at this
theorem le_E {sL : Nat} {sx : Nat → Int32} {cs : Nat → Nat → Option Int32} {y pc : Nat} {l1 l2 : am_L} {st : List Value} {H : am_H} {R : Option Value} {F : am_H → Prop} (hc : le_c l1 l2) (hn : le_k (l1.map (fun q => q.1)) = true) (e : am_E sL sx cs y pc l1 st H R F) : am_E sL sx cs y pc l2 st H R F := by
  obtain ⟨H1, e1, f⟩ := e
  refine ⟨H1, ?_, f⟩
  unfold aX at e1 ⊢
  obtain ⟨q, hq⟩ := am_X_iff.mp e1
  exact am_X_iff.mpr ⟨q, le_y q _ _ _ _ _ _ _ _ _ (le_cd hc) (le_kn hn) hq⟩
