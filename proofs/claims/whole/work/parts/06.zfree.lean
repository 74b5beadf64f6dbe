/-! Free runs: no fuel, no frames, no words: what is computed freely the machine computes, where the tables' frames and words suffice. -/
section FREE
variable {co : Nat → Nat → Option am_I} {mt : Nat → am_M} {ct : List am_K} {sL : Nat} {sx : Nat → Int32} {cs : Nat → Nat → Option Int32}
theorem am_1_mono {F G : Nat → Nat → am_L → List Value → am_H → Nat → Nat → Option am_A} (hFG : ∀ y pc ls st h k n A, F y pc ls st h k n = some A → G y pc ls st h k n = some A) {y pc : Nat} {ls : am_L} {st : List Value} {h : am_H} {k n : Nat} {A : am_A} (hA : am_1 co mt ct sL sx cs F y pc ls st h k n = some A) : am_1 co mt ct sL sx cs G y pc ls st h k n = some A := by
  unfold am_1 at hA ⊢
  split at hA
  · cases hA
  · split at hA
    · rename_i h0
      rw [if_pos h0]
      obtain ⟨t, ht, h2⟩ := Option.bind_eq_some_iff.mp hA
      exact Option.bind_eq_some_iff.mpr ⟨t, ht, hFG _ _ _ _ _ _ _ _ h2⟩
    · rename_i h0
      rw [if_neg h0]
      split at hA
      · rename_i h1
        rw [if_pos h1]
        exact hA
      · rename_i h1
        rw [if_neg h1]
        obtain ⟨w, hw, h2⟩ := Option.bind_eq_some_iff.mp hA
        refine Option.bind_eq_some_iff.mpr ⟨w, hw, ?_⟩
        split at h2
        · rename_i h3
          rw [if_pos h3]
          obtain ⟨r, hr, h4⟩ := Option.bind_eq_some_iff.mp h2
          exact Option.bind_eq_some_iff.mpr ⟨r, hFG _ _ _ _ _ _ _ _ hr, hFG _ _ _ _ _ _ _ _ h4⟩
        · cases h2
theorem am_y_succ : ∀ (f : Nat) (y pc : Nat) (ls : am_L) (st : List Value) (h : am_H) (k n : Nat) (A : am_A), am_y co mt ct sL sx cs f y pc ls st h k n = some A → am_y co mt ct sL sx cs (f + 1) y pc ls st h k n = some A
  | 0, _, _, _, _, _, _, _, _, hA => by cases hA
  | f + 1, y, pc, ls, st, h, k, n, A, hA => am_1_mono (am_y_succ f) hA
theorem am_y_le {f g : Nat} (hle : f ≤ g) {y pc : Nat} {ls : am_L} {st : List Value} {h : am_H} {k n : Nat} {A : am_A} (hA : am_y co mt ct sL sx cs f y pc ls st h k n = some A) : am_y co mt ct sL sx cs g y pc ls st h k n = some A := by
  induction hle with
  | refl => exact hA
  | step _ ih => exact am_y_succ _ _ _ _ _ _ _ _ _ ih
theorem am_X_iff {y pc : Nat} {ls : am_L} {st : List Value} {h : am_H} {k n : Nat} {A : am_A} : am_X co mt ct sL sx cs y pc ls st h k n = some A ↔ ∃ f : Nat, am_y co mt ct sL sx cs f y pc ls st h k n = some A := by
  unfold am_X
  constructor
  · intro hA
    split at hA
    · rename_i e
      obtain ⟨f, hf⟩ := Classical.choose_spec e
      exact ⟨f, by rw [hf]; exact hA⟩
    · cases hA
  · rintro ⟨f, hf⟩
    have e : ∃ (A : am_A) (f : Nat), am_y co mt ct sL sx cs f y pc ls st h k n = some A := ⟨A, f, hf⟩
    rw [dif_pos e]
    obtain ⟨g, hg⟩ := Classical.choose_spec e
    have h1 := am_y_le (Nat.le_max_left f g) hf
    have h2 := am_y_le (Nat.le_max_right f g) hg
    exact h2.symm.trans h1
theorem am_1_fin {y pc : Nat} {ls : am_L} {st : List Value} {h : am_H} {k n : Nat} {A : am_A} (hA : am_1 co mt ct sL sx cs (am_X co mt ct sL sx cs) y pc ls st h k n = some A) : ∃ f : Nat, am_1 co mt ct sL sx cs (am_y co mt ct sL sx cs f) y pc ls st h k n = some A := by
  unfold am_1 at hA ⊢
  split at hA
  · cases hA
  · split at hA
    · rename_i h0
      obtain ⟨t, ht, h2⟩ := Option.bind_eq_some_iff.mp hA
      obtain ⟨f, hf⟩ := am_X_iff.mp h2
      refine ⟨f, ?_⟩
      rw [if_pos h0]
      exact Option.bind_eq_some_iff.mpr ⟨t, ht, hf⟩
    · rename_i h0
      split at hA
      · rename_i h1
        refine ⟨0, ?_⟩
        rw [if_neg h0, if_pos h1]
        exact hA
      · rename_i h1
        obtain ⟨w, hw, h2⟩ := Option.bind_eq_some_iff.mp hA
        split at h2
        · rename_i h3
          obtain ⟨r, hr, h4⟩ := Option.bind_eq_some_iff.mp h2
          obtain ⟨f, hf⟩ := am_X_iff.mp hr
          obtain ⟨g, hg⟩ := am_X_iff.mp h4
          refine ⟨max f g, ?_⟩
          rw [if_neg h0, if_neg h1]
          refine Option.bind_eq_some_iff.mpr ⟨w, hw, ?_⟩
          rw [if_pos h3]
          exact Option.bind_eq_some_iff.mpr ⟨r, am_y_le (Nat.le_max_left f g) hf, am_y_le (Nat.le_max_right f g) hg⟩
        · cases h2
/-- the free run's equation -/
theorem am_X_eq (y pc : Nat) (ls : am_L) (st : List Value) (h : am_H) (k n : Nat) : am_X co mt ct sL sx cs y pc ls st h k n = am_1 co mt ct sL sx cs (am_X co mt ct sL sx cs) y pc ls st h k n := by
  have e1 : ∀ A : am_A, am_X co mt ct sL sx cs y pc ls st h k n = some A ↔ am_1 co mt ct sL sx cs (am_X co mt ct sL sx cs) y pc ls st h k n = some A := by
    intro A
    constructor
    · intro hA
      obtain ⟨f, hf⟩ := am_X_iff.mp hA
      cases f with
      | zero => cases hf
      | succ f => exact am_1_mono (fun y pc ls st h k n A hA => am_X_iff.mpr ⟨f, hA⟩) hf
    · intro hA
      obtain ⟨f, hf⟩ := am_1_fin hA
      exact am_X_iff.mpr ⟨f + 1, hf⟩
  cases ha : am_1 co mt ct sL sx cs (am_X co mt ct sL sx cs) y pc ls st h k n with
  | some A => exact (e1 A).mpr ha
  | none =>
    cases hb : am_X co mt ct sL sx cs y pc ls st h k n with
    | none => rfl
    | some A =>
      have := (e1 A).mp hb
      rw [ha] at this
      cases this
/-- frames and words that a builtin asks -/
def am_nd (I : am_I) : Nat × Nat := if 1000 ≤ I.2.2.1 then (match I.1 with
  | .invokespecial _ => (1, 26)
  | .invokestatic _ => if I.2.2.1 = 1008 then (10, 300) else (1, 26)
  | .invokevirtual _ => (4, 120)
  | _ => (0, 0)) else (0, 0)
theorem am_s_lift {d q nL : Nat} {I : am_I} {pc : Nat} {ls : am_L} {st : List Value} {h : am_H} {k n : Nat} {t : am_T} (h1 : (am_nd I).1 ≤ d) (h2 : (am_nd I).2 ≤ q) (hs : am_s (10, 300, nL, ct, sL, sx, cs) I pc ls st h k n = some t) : am_s (d, q, nL, ct, sL, sx, cs) I pc ls st h k n = some t := by
  obtain ⟨i, v, a, b, ne, tb⟩ := I
  cases i
  case invokespecial j =>
    unfold am_nd at h1 h2
    dsimp only [am_s] at hs ⊢
    dsimp only at h1 h2
    split at hs
    · split at hs
      · rename_i hq
        obtain ⟨q1, q2, q3, q4⟩ := hq
        rw [if_pos (by omega)] at h1 h2
        dsimp only at h1 h2
        rw [if_pos ⟨q1, by omega, by omega, q4⟩]
        exact hs
      · cases hs
    · cases hs
  case invokevirtual j =>
    unfold am_nd at h1 h2
    dsimp only [am_s] at hs ⊢
    dsimp only at h1 h2
    split at hs
    · split at hs
      · rename_i hq
        obtain ⟨q1, q2, q3, q4, q5⟩ := hq
        rw [if_pos (by omega)] at h1 h2
        dsimp only at h1 h2
        rw [if_pos ⟨q1, q2, by omega, by omega, q5⟩]
        exact hs
      · cases hs
    · cases hs
  case invokestatic j =>
    unfold am_nd at h1 h2
    dsimp only [am_s] at hs ⊢
    dsimp only at h1 h2
    split at hs
    · rw [if_pos (by decide), if_neg (by decide)] at h1 h2
      dsimp only at h1 h2
      split at hs
      · split at hs
        · split at hs
          · rename_i hq
            obtain ⟨q1, q2, q3, q4, q5, q6⟩ := hq
            rw [if_pos ⟨q1, q2, q3, by omega, by omega, q6⟩]
            exact hs
          · cases hs
        · cases hs
      · cases hs
    · rw [if_pos (by decide), if_neg (by decide)] at h1 h2
      dsimp only at h1 h2
      split at hs
      · split at hs
        · rename_i hq
          rw [if_pos ⟨by omega, by omega, hq.2.2⟩]
          exact hs
        · cases hs
      · cases hs
    · rw [if_pos (by decide), if_neg (by decide)] at h1 h2
      dsimp only at h1 h2
      split at hs
      · split at hs
        · rename_i hq
          rw [if_pos ⟨by omega, by omega, hq.2.2⟩]
          exact hs
        · cases hs
      · cases hs
    · rw [if_pos (by decide), if_neg (by decide)] at h1 h2
      dsimp only at h1 h2
      split at hs
      · split at hs
        · rename_i hq
          rw [if_pos ⟨by omega, by omega, hq.2.2⟩]
          exact hs
        · cases hs
      · cases hs
    · rw [if_pos (by decide), if_neg (by decide)] at h1 h2
      dsimp only at h1 h2
      split at hs
      · split at hs
        · rename_i hq
          rw [if_pos ⟨by omega, by omega, hq.2.2⟩]
          exact hs
        · cases hs
      · cases hs
    · rw [if_pos (by decide), if_pos (by decide)] at h1 h2
      dsimp only at h1 h2
      split at hs
      · split at hs
        · split at hs
          · split at hs
            · split at hs
              · rename_i hq
                obtain ⟨q1, q2, q3, q4⟩ := hq
                rw [if_pos ⟨by omega, by omega, q3, q4⟩]
                exact hs
              · cases hs
            · cases hs
          · cases hs
        · cases hs
      · cases hs
    · rw [if_pos (by decide), if_neg (by decide)] at h1 h2
      dsimp only at h1 h2
      split at hs
      · split at hs
        · rename_i hq
          rw [if_pos ⟨by omega, by omega, hq.2.2⟩]
          exact hs
        · cases hs
      · cases hs
    · cases hs
  all_goals exact hs
/-- the frames and words of every method suffice for what it does -/
def am_dqk (co : Nat → Nat → Option am_I) (mt : Nat → am_M) (dq : Nat → Nat × Nat) : Prop := ∀ (y pc : Nat) (I : am_I), co y pc = some I → (am_nd I).1 ≤ (dq y).1 ∧ (am_nd I).2 ≤ (dq y).2 ∧ (am_kd I ≠ 0 → am_kd I ≠ 1 → (dq I.2.2.1).1 + 1 ≤ (dq y).1 ∧ (dq I.2.2.1).2 + (19 + (mt I.2.2.1).2.2.1) ≤ (dq y).2)
theorem am_free {dq : Nat → Nat × Nat} (hdq : am_dqk co mt dq) : ∀ (f y pc : Nat) (ls : am_L) (st : List Value) (h : am_H) (k n : Nat) (A : am_A) (d q : Nat), (dq y).1 ≤ d → (dq y).2 ≤ q → am_y co mt ct sL sx cs f y pc ls st h k n = some A → am_x co mt ct sL sx cs f d q y pc ls st h k n = some A
  | 0, _, _, _, _, _, _, _, _, _, _, _, _, hA => by cases hA
  | f + 1, y, pc, ls, st, h, k, n, A, d, q, hd, hq, hA => by
    have hA : am_1 co mt ct sL sx cs (am_y co mt ct sL sx cs f) y pc ls st h k n = some A := hA
    unfold am_1 at hA
    unfold am_x
    split at hA
    · cases hA
    · rename_i I hI
      obtain ⟨g1, g2, g3⟩ := hdq y pc I hI
      split at hA
      · rename_i h0
        rw [if_pos h0]
        obtain ⟨t, ht, h2⟩ := Option.bind_eq_some_iff.mp hA
        rw [am_s_lift (by omega) (by omega) ht]
        exact am_free hdq f _ _ _ _ _ _ _ _ d q hd hq h2
      · rename_i h0
        rw [if_neg h0]
        split at hA
        · rename_i h1
          rw [if_pos h1]
          exact hA
        · rename_i h1
          rw [if_neg h1]
          obtain ⟨⟨as, rest⟩, hw, h2⟩ := Option.bind_eq_some_iff.mp hA
          rw [hw]
          dsimp only at h2 ⊢
          obtain ⟨g4, g5⟩ := g3 h0 h1
          split at h2
          · rename_i h3
            rw [if_pos ⟨by omega, by omega, h3.1, h3.2⟩]
            obtain ⟨r, hr, h4⟩ := Option.bind_eq_some_iff.mp h2
            rw [am_free hdq f _ _ _ _ _ _ _ r (d - 1) (q - (19 + (mt I.2.2.1).2.2.1)) (by omega) (by omega) hr]
            exact am_free hdq f _ _ _ _ _ _ _ _ d q hd hq h4
          · cases h2
end FREE
