/-! The terminal: what it has read, what it answers. -/
def Tq (c r : xA) : Prop := c 130 2 = r 157 79 ∧ RB c 130 64 (r 187) ∧ ∀ i, By (r 187 i) ∨ r 187 i = 256
def Ta (c r : xA) : Prop := c 132 2 = r 157 87 ∧ RB c 132 32 (fun i => r 188 i &&& 255) ∧ r 157 89 = 0 ∧ ∀ i, vp_nar .byte (r 188 i) = r 188 i
def Ts (c r : xA) : Prop := c 129 4 = r 157 83 ∧ (c 129 4 = 0 ∨ c 129 4 = 1) ∧ c 129 5 = r 157 84 ∧ (c 129 5 = 0 ∨ c 129 5 = 1) ∧ c 129 6 = r 157 85 ∧ (c 129 6 = 0 ∨ c 129 6 = 1) ∧ ((c 129 7 = 1 ∧ r 157 82 = 19) ∨ (c 129 7 = 0 ∧ ¬ r 157 82 = 19)) ∧ c 129 8 = r 157 80 ∧ c 129 9 = r 157 101 ∧ (48 ≤ c 130 2 → c 129 4 = 1)
def Tn (c r : xA) : Prop := (c 129 9 = 1 → c 129 10 = r 157 102) ∧ (c 129 9 = 3 → ∃ m : Nat, 1 ≤ m ∧ m ≤ 8 ∧ c 129 12 = Int32.ofNat m ∧ r 157 115 = Int32.ofNat (m - 1) ∧ c 129 13 = r 157 116 ∧ (c 129 13 = 0 ∨ c 129 13 = 1) ∧ c 129 14 = r 157 117 ∧ (c 129 14 = 0 ∨ c 129 14 = 1) ∧ ∀ i, i < m → c 135 i = r 193 i ∧ 0 ≤ c 135 i ∧ c 135 i ≤ 9999)
def tI (i : Nat) : Prop := (79 ≤ i ∧ i ≤ 89) ∨ (93 ≤ i ∧ i ≤ 117)
def Tff (c0 r0 c r : xA) : Prop := (∀ p, ¬ (129 ≤ p ∧ p ≤ 140) → c p = c0 p) ∧ (∀ p, p ≠ 157 → ¬ (187 ≤ p ∧ p ≤ 193) → r p = r0 p) ∧ (∀ i, ¬ tI i → r 157 i = r0 157 i)
def RT (h b : Nat) (c0 r0 c r : xA) : Prop := Tff c0 r0 c r ∧ RG h b c r c r ∧ Tq c r ∧ Ta c r ∧ Ts c r ∧ Tn c r
section T
variable {N h b : Nat} {c0 r0 c r c' r' : xA} {x y s v : Int32} {Y X Tp Bt F E k : Nat}
theorem Gf_rfl : Gf c r c r := ⟨fun _ _ => rfl, fun _ _ _ => rfl, fun _ _ => rfl⟩
theorem RG_rfl (hR : RG h b c0 r0 c r) : RG h b c r c r := ⟨Gf_rfl, hR.2⟩
theorem Tq_of (H : Tq c r) (h1 : c' 130 = c 130) (h2 : c' 131 = c 131) (h3 : r' 157 79 = r 157 79) (h4 : r' 187 = r 187) : Tq c' r' := by
  unfold Tq RB at *
  rw [h1, h3, h4]
  refine ⟨H.1, ⟨H.2.1.1, H.2.1.2.1, H.2.1.2.2.1, H.2.1.2.2.2.1, fun i hi => ?_⟩, H.2.2⟩
  show c' 131 _ = _
  rw [h2]
  exact H.2.1.2.2.2.2 i hi
theorem Ta_of (H : Ta c r) (h1 : c' 132 = c 132) (h2 : c' 133 = c 133) (h3 : r' 157 87 = r 157 87) (h4 : r' 188 = r 188) (h5 : r' 157 89 = r 157 89) : Ta c' r' := by
  unfold Ta RB at *
  rw [h1, h3, h4, h5]
  refine ⟨H.1, ⟨H.2.1.1, H.2.1.2.1, H.2.1.2.2.1, H.2.1.2.2.2.1, fun i hi => ?_⟩, H.2.2⟩
  show c' 133 _ = _
  rw [h2]
  exact H.2.1.2.2.2.2 i hi
theorem Ts_of (H : Ts c r) (h1 : ∀ i, 4 ≤ i → i ≤ 9 → c' 129 i = c 129 i) (h2 : ∀ i, (80 ≤ i ∧ i ≤ 85 ∧ i ≠ 81) ∨ i = 101 → r' 157 i = r 157 i) (h3 : c' 130 2 = c 130 2) : Ts c' r' := by
  unfold Ts at *
  rw [h1 4 (by decide) (by decide), h1 5 (by decide) (by decide), h1 6 (by decide) (by decide), h1 7 (by decide) (by decide), h1 8 (by decide) (by decide), h1 9 (by decide) (by decide), h2 83 (by decide), h2 84 (by decide), h2 85 (by decide), h2 82 (by decide), h2 80 (by decide), h2 101 (by decide), h3]
  exact H
theorem Tn_of (H : Tn c r) (h1 : c' 129 = c 129) (h2 : ∀ i, i = 102 ∨ (115 ≤ i ∧ i ≤ 117) → r' 157 i = r 157 i) (h3 : c' 135 = c 135) (h4 : r' 193 = r 193) : Tn c' r' := by
  unfold Tn at *
  rw [h1, h2 102 (by decide), h2 115 (by decide), h2 116 (by decide), h2 117 (by decide), h3, h4]
  exact H
/-- the screen's own work keeps the rest -/
theorem RT_g (hT : RT h b c0 r0 c r) (hR : RG h b c r c' r') : RT h b c0 r0 c' r' := by
  obtain ⟨t1, t2, t3, t4, t5, t6⟩ := hT
  obtain ⟨g1, g2, g3⟩ := hR.1
  have gi : ∀ i, i = 79 ∨ i = 80 ∨ (82 ≤ i ∧ i ≤ 89) ∨ i = 101 ∨ i = 102 ∨ (115 ≤ i ∧ i ≤ 117) → r' 157 i = r 157 i := fun i hi => g3 i (by unfold gI; omega)
  refine ⟨⟨fun p hp => ?_, fun p h1 h2 => ?_, fun i hi => ?_⟩, RG_rfl hR, Tq_of t3 (g1 _ (by decide)) (g1 _ (by decide)) (gi _ (by decide)) (g2 _ (by decide) (by decide)), Ta_of t4 (g1 _ (by decide)) (g1 _ (by decide)) (gi _ (by decide)) (g2 _ (by decide) (by decide)) (gi _ (by decide)), Ts_of t5 (fun i _ _ => by rw [g1 129 (by decide)]) (fun i hi => gi i (by omega)) (by rw [g1 130 (by decide)]), Tn_of t6 (g1 _ (by decide)) (fun i hi => gi i (by omega)) (g1 _ (by decide)) (g2 _ (by decide) (by decide))⟩
  · rw [g1 p (by omega)]; exact t1.1 p hp
  · rw [g2 p h1 (by omega)]; exact t1.2.1 p h1 h2
  · rw [g3 i (fun q => hi (by unfold gI at q; unfold tI; omega))]; exact t1.2.2 i hi
theorem d_g {F G : xA → Option xA} (hT : RT h b c0 r0 c r) (hq : RG h b c r c r → Q2 (F c) (G r) (fun p q => RG h b c r p q)) : Q2 (F c) (G r) (fun p q => RT h b c0 r0 p q) := q_mono (hq hT.2.1) (fun _ _ hh => RT_g hT hh)
/-- the terminal's own fields are set -/
theorem RG_t {p i q j : Nat} {v w : Int32} (hR : RG h b c r c r) (hp : ¬ (136 ≤ p ∧ p ≤ 140)) (hq : q ≠ 157 ∧ ¬ (190 ≤ q ∧ q ≤ 192) ∨ q = 157 ∧ ¬ gI j ∧ j ≠ 68 ∧ j ≠ 69) : RG h b (xU c p i v) (xU r q j w) (xU c p i v) (xU r q j w) := by
  obtain ⟨hf, ⟨Y, X, Tp, Bt, hs⟩, ho, hv, hc⟩ := hR
  have g : ∀ i1, gI i1 ∨ i1 = 68 ∨ i1 = 69 → xU r q j w 157 i1 = r 157 i1 := fun i1 h1 => by
    rw [xU_eq, if_neg (fun z => by
      rcases hq with u | u
      · exact u.1 z.1.symm
      · rcases h1 with h1 | h1
        · exact u.2.1 (z.2 ▸ h1)
        · omega)]
  have gp : ∀ p1, 136 ≤ p1 ∧ p1 ≤ 140 → xU c p i v p1 = c p1 := fun p1 h1 => xU_o (by omega)
  have gq : ∀ q1, 190 ≤ q1 ∧ q1 ≤ 192 → xU r q j w q1 = r q1 := fun q1 h1 => xU_o (by omega)
  refine ⟨Gf_rfl, ⟨Y, X, Tp, Bt, Gs_of hs (fun i1 _ => by rw [gp 136 (by decide)]) (fun i1 h1 => g i1 (by unfold gI; omega)) (by rw [gq 191 (by decide)])⟩, Go_of ho (gp 136 (by decide)) (fun i1 h1 => g i1 (Or.inl h1)), Gv_of hv (gp 137 (by decide)) (fun i1 h1 h2 h3 h4 h5 => g i1 (by unfold gI; omega)), Gc_of hc (gp 138 (by decide)) (gp 139 (by decide)) (gp 140 (by decide)) (gq 190 (by decide)) (gq 191 (by decide)) (gq 192 (by decide))⟩
theorem Tff_u {p i q j : Nat} {v w : Int32} (H : Tff c0 r0 c r) (hp : 129 ≤ p ∧ p ≤ 140) (hq : (187 ≤ q ∧ q ≤ 193) ∨ q = 157 ∧ tI j) : Tff c0 r0 (xU c p i v) (xU r q j w) := by
  refine ⟨fun p1 h1 => ?_, fun p1 h1 h2 => ?_, fun i1 h1 => ?_⟩
  · rw [xU_o (by omega)]; exact H.1 p1 h1
  · rw [xU_o (by omega)]; exact H.2.1 p1 h1 h2
  · rw [xU_eq, if_neg (fun z => by rcases hq with q | q; omega; exact h1 (z.2 ▸ q.2))]; exact H.2.2 i1 h1
/-- the state of reading changes to one that is neither ESCAPE nor SEQUENCE -/
theorem RT_9 (hT : RT h b c0 r0 c r) (hv : ¬ v = 1 ∧ ¬ v = 3) : RT h b c0 r0 (xU c 129 9 v) (xU r 157 101 v) := by
  obtain ⟨t1, t2, t3, t4, t5, t6⟩ := hT
  refine ⟨Tff_u t1 (by decide) (Or.inr ⟨rfl, by unfold tI; omega⟩), RG_t t2 (by decide) (Or.inr ⟨rfl, by unfold gI; omega, by decide, by decide⟩), Tq_of t3 rfl rfl rfl rfl, Ta_of t4 rfl rfl rfl rfl rfl, ?_, ?_⟩
  · unfold Ts at *
    simp [xU_eq]
    grind
  · unfold Tn
    simp [xU_eq]
    exact ⟨fun q => absurd q hv.1, fun q => absurd q hv.2⟩
end T
