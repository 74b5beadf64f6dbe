/-! The reader: a string's bytes. -/
def SLr (row len q m : Nat) (c0 r0 c r : xA) : Prop := RV len q c r ∧ c 3 13 = Int32.ofNat m ∧ m ≤ 9000 ∧ (∀ i, i < m → i < 40 → By (c 8 i) ∧ r 165 (40 * row + i) = (c 8 i).toInt8.toInt32) ∧ (∀ p, p ≠ 3 → p ≠ 8 → c p = c0 p) ∧ (∀ i, i ≠ 6 → i ≠ 13 → c 3 i = c0 3 i) ∧ (∀ p, p ≠ 157 → p ≠ 165 → r p = r0 p) ∧ (∀ i, i ≠ 15 → i ≠ 20 → r 157 i = r0 157 i) ∧ (∀ i, ¬ (40 * row ≤ i ∧ i < 40 * row + 40) → r 165 i = r0 165 i) ∧ NA r
def FS (row : Nat) (c0 r0 c r : xA) : Prop := (∀ p, p ≠ 3 → p ≠ 8 → c p = c0 p) ∧ (∀ i, i ≠ 2 → i ≠ 3 → i ≠ 6 → i ≠ 13 → c 3 i = c0 3 i) ∧ (∀ p, p ≠ 157 → p ≠ 165 → p ≠ 166 → r p = r0 p) ∧ (∀ i, i ≠ 13 → i ≠ 14 → i ≠ 15 → i ≠ 20 → r 157 i = r0 157 i) ∧ (∀ i, ¬ (40 * row ≤ i ∧ i < 40 * row + 40) → r 165 i = r0 165 i) ∧ (∀ i, i ≠ row → r 166 i = r0 166 i) ∧ NA r ∧ c 3 2 = r 157 13 ∧ c 3 3 = r 157 14
theorem NA_of {r r' : xA} (H : NA r) (h1 : r' 165 = r 165) (h2 : r' 166 = r 166) : NA r' := ⟨fun i => by rw [h1]; exact H.1 i, fun i => by rw [h2]; exact H.2 i⟩
section T
variable {N h b : Nat} {c0 r0 c r c' r' : xA} {x y z s v w : Int32} {len p i f k m q l a e K n row d : Nat}
theorem FS_f (H : SLr row len q m c0 r0 c r) : FS row c0 r0 (xU (xU c 3 2 x) 3 3 y) (xU (xU r 157 13 x) 157 14 y) := by
  obtain ⟨a1, a2, a3, a4, a5, a6, a7, a8, a9, b1⟩ := H
  exact ⟨fun p h1 h2 => by rw [xU_o h1, xU_o h1]; exact a5 p h1 h2, fun i h1 h2 h3 h4 => by rw [xU_s h2, xU_s h1]; exact a6 i h3 h4, fun p h1 h2 h3 => by rw [xU_o h1, xU_o h1]; exact a7 p h1 h2, fun i h1 h2 h3 h4 => by rw [xU_s h2, xU_s h1]; exact a8 i h3 h4, fun i h1 => by rw [xU_o (by decide), xU_o (by decide)]; exact a9 i h1, fun i h1 => by rw [xU_o (by decide), xU_o (by decide), a7 166 (by decide) (by decide)], NA_of b1 rfl rfl, by rw [xU_s (by decide), xU_e, xU_s (by decide), xU_e], by rw [xU_e, xU_e]⟩
theorem SL_20 (H : SLr row len q m c0 r0 c r) : SLr row len q m c0 r0 c (xU r 157 20 v) := by
  obtain ⟨a1, a2, a3, a4, a5, a6, a7, a8, a9, b1⟩ := H
  exact ⟨RV_of a1 (fun _ _ _ => rfl) rfl rfl (xU_s (by decide)) (xU_s (by decide)), a2, a3, a4, a5, a6, fun p h1 h2 => by rw [xU_o h1]; exact a7 p h1 h2, fun i h1 h2 => by rw [xU_s h2]; exact a8 i h1 h2, a9, b1⟩
theorem SL_p (H : SLr row len q m c0 r0 c r) (hd : q + d ≤ 9000) : SLr row len (q + d) m c0 r0 (cp c (q + d)) (rp r (q + d)) := by
  obtain ⟨a1, a2, a3, a4, a5, a6, a7, a8, a9, b1⟩ := H
  exact ⟨RV_q a1 hd, by unfold cp; rw [xU_s (by decide)]; exact a2, a3, a4, fun p h1 h2 => by unfold cp; rw [xU_o h1]; exact a5 p h1 h2, fun i h1 h2 => by unfold cp; rw [xU_s h1]; exact a6 i h1 h2, fun p h1 h2 => by unfold rp; rw [xU_o h1]; exact a7 p h1 h2, fun i h1 h2 => by unfold rp; rw [xU_s h1]; exact a8 i h1 h2, a9, b1⟩
/-- a byte is made; the reference's own way to go on -/
def mkR (row m : Nat) (v : Int32) (r : xA) : xA := if m < 40 then xU r 165 (40 * row + m) (vp_nar .byte v.toInt8.toInt32) else r
theorem SL_mk (hr : row < 468) (H : SLr row len q m c0 r0 c r) (hv : By v) (hd : q + d ≤ 9000) (hm : m + 1 ≤ 9000) : ∃ c1, f52_make N h b v c = some c1 ∧ c1 3 6 = c 3 6 ∧ SLr row len (q + d) (m + 1) c0 r0 (xU c1 3 6 (Int32.ofNat (q + d))) (mkR row m v (rp r (q + d))) := by
  obtain ⟨a1, a2, a3, a4, a5, a6, a7, a8, a9, b1⟩ := H
  unfold f52_make j52_19 mkR
  rw [a2]
  by_cases z : m < 40
  · have n40 : ¬ (40 : Int32) ≤ Int32.ofNat m := by rw [show (40 : Int32) = Int32.ofNat 40 from rfl, i_le (by decide) (by omega)]; omega
    rw [if_neg n40, xg_pos (g_ix z (by omega)), i_cl (by omega), if_pos z]
    have e13 : (xU c 8 m v) 3 13 + 1 = Int32.ofNat (m + 1) := by rw [xU_o (by decide), a2, on_s]
    refine ⟨xU (xU c 8 m v) 3 13 ((xU c 8 m v) 3 13 + 1), rfl, by rw [xU_s (by decide), xU_o (by decide)], ?_⟩
    rw [e13]
    refine ⟨?_, by rw [xU_s (by decide), xU_e], by omega, fun i h1 h2 => ?_, fun p h1 h2 => by rw [xU_o h1, xU_o h1, xU_o h2]; exact a5 p h1 h2, fun i h1 h2 => by rw [xU_s h1, xU_s h2, xU_o (by decide)]; exact a6 i h1 h2, fun p h1 h2 => by unfold rp; rw [xU_o h2, xU_o h1]; exact a7 p h1 h2, fun i h1 h2 => by unfold rp; rw [xU_o (by decide), xU_s h1]; exact a8 i h1 h2, fun i h1 => by unfold rp; rw [xU_s (by omega), xU_o (by decide)]; exact a9 i h1, ⟨fun i => ?_, b1.2⟩⟩
    · refine ⟨a1.1, hd, ?_, ?_, ?_, xU_e, ?_, fun i => ?_⟩
      · rw [xU_s (by decide), xU_s (by decide), xU_o (by decide)]; exact a1.2.2.1
      · rw [xU_s (by decide), xU_s (by decide), xU_o (by decide)]; exact a1.2.2.2.1
      · unfold rp; rw [xU_o (by decide), xU_s (by decide)]; exact a1.2.2.2.2.1
      · unfold rp; rw [xU_o (by decide), xU_e]
      · unfold rp; rw [xU_o (by decide), xU_o (by decide), xU_o (by decide), xU_o (by decide), xU_o (by decide)]; exact a1.2.2.2.2.2.2.2 i
    · rw [xU_o (by decide), xU_o (by decide)]
      by_cases e : i = m
      · subst e
        rw [xU_e, xU_e, by8n]
        exact ⟨hv, rfl⟩
      · rw [xU_s e, xU_s (by omega)]
        unfold rp
        rw [xU_o (by decide)]
        exact a4 i (by omega) h2
    · unfold rp
      rw [xU_eq]
      split
      · rw [by8n, by8n]
      · rw [xU_o (by decide)]; exact b1.1 i
  · have n40 : (40 : Int32) ≤ Int32.ofNat m := by rw [show (40 : Int32) = Int32.ofNat 40 from rfl, i_le (by decide) (by omega)]; omega
    rw [if_pos n40, if_neg z]
    rw [on_s]
    refine ⟨xU c 3 13 (Int32.ofNat (m + 1)), rfl, by rw [xU_s (by decide)], ?_⟩
    refine ⟨?_, by rw [xU_s (by decide), xU_e], by omega, fun i h1 h2 => ?_, fun p h1 h2 => by rw [xU_o h1, xU_o h1]; exact a5 p h1 h2, fun i h1 h2 => by rw [xU_s h1, xU_s h2]; exact a6 i h1 h2, fun p h1 h2 => by unfold rp; rw [xU_o h1]; exact a7 p h1 h2, fun i h1 h2 => by unfold rp; rw [xU_s h1]; exact a8 i h1 h2, a9, b1⟩
    · refine ⟨a1.1, hd, ?_, ?_, ?_, xU_e, ?_, fun i => ?_⟩
      · rw [xU_s (by decide), xU_s (by decide)]; exact a1.2.2.1
      · rw [xU_s (by decide), xU_s (by decide)]; exact a1.2.2.2.1
      · unfold rp; rw [xU_s (by decide)]; exact a1.2.2.2.2.1
      · unfold rp; rw [xU_e]
      · exact a1.2.2.2.2.2.2.2 i
    · exact a4 i (by omega) h2
/-- digits of a delay -/
theorem e_56 (H : RV len q c r) (hq : q ≤ 8000) : ∀ (k m f : Nat), m + k = 3 → k < f → l56_19 N h b f (Int32.ofNat m) c = some (0, Int32.ofNat (m + dc (Tx c len) k (q + 2 + m)), c)
  | 0, m, f, h1, h2 => by
    obtain ⟨f, rfl⟩ : ∃ f', f = f' + 1 := ⟨f - 1, by omega⟩
    have : m = 3 := by omega
    subst this
    rw [l56_19, if_pos (by decide)]
    rfl
  | k + 1, m, f, h1, h2 => by
    obtain ⟨f, rfl⟩ : ∃ f', f = f' + 1 := ⟨f - 1, by omega⟩
    rw [l56_19, if_neg (by rw [show (3 : Int32) = Int32.ofNat 3 from rfl, i_le (by decide) (by omega)]; omega), H.2.2.2.2.2.1, o2, ← Int32.ofNat_add, e_ba H (by omega), b2_some, e_dg, b2_some]
    by_cases z : 48 ≤ Tx c len (q + 2 + m) ∧ Tx c len (q + 2 + m) ≤ 57
    · have e1 : dc (Tx c len) (k + 1) (q + 2 + m) = dc (Tx c len) k (q + 2 + m + 1) + 1 := if_pos z
      rw [if_neg (by rw [zb_t z]; decide), on_s, e_56 H hq k (m + 1) f (by omega) (by omega), e1, show q + 2 + (m + 1) = q + 2 + m + 1 by omega, show m + 1 + dc (Tx c len) k (q + 2 + m + 1) = m + (dc (Tx c len) k (q + 2 + m + 1) + 1) by omega]
    · have e1 : dc (Tx c len) (k + 1) (q + 2 + m) = 0 := if_neg z
      rw [if_pos (zb_f z), e1]
      rfl
theorem e_124 {w1 w2 w3 w5 w6 : Int32} (H : RV len q c r) (hq : q ≤ 8000) : ∀ (k m f : Nat), m + k = 3 → k < f → l283_124 N h b w1 w2 w3 w5 w6 f (Int32.ofNat m) r = some (0, Int32.ofNat (m + dc (Tx c len) k (q + 2 + m)), r)
  | 0, m, f, h1, h2 => by
    obtain ⟨f, rfl⟩ : ∃ f', f = f' + 1 := ⟨f - 1, by omega⟩
    have : m = 3 := by omega
    subst this
    rw [l283_124, if_pos (by decide)]
    rfl
  | k + 1, m, f, h1, h2 => by
    obtain ⟨f, rfl⟩ : ∃ f', f = f' + 1 := ⟨f - 1, by omega⟩
    rw [l283_124, if_neg (by rw [show (3 : Int32) = Int32.ofNat 3 from rfl, i_le (by decide) (by omega)]; omega), H.2.2.2.2.2.2.1, o2, ← Int32.ofNat_add, e_hr H (by omega), b2_some, e_dg', b2_some]
    by_cases z : 48 ≤ Tx c len (q + 2 + m) ∧ Tx c len (q + 2 + m) ≤ 57
    · have e1 : dc (Tx c len) (k + 1) (q + 2 + m) = dc (Tx c len) k (q + 2 + m + 1) + 1 := if_pos z
      rw [if_neg (by rw [zb_t z]; decide), on_s, e_124 H hq k (m + 1) f (by omega) (by omega), e1, show q + 2 + (m + 1) = q + 2 + m + 1 by omega, show m + 1 + dc (Tx c len) k (q + 2 + m + 1) = m + (dc (Tx c len) k (q + 2 + m + 1) + 1) by omega]
    · have e1 : dc (Tx c len) (k + 1) (q + 2 + m) = 0 := if_neg z
      rw [if_pos (zb_f z), e1]
      rfl
/-- an octal number -/
theorem d_oct (hN : 100000 ≤ N) (H : SLr row len q m c0 r0 c r) (hq : q ≤ 8000) : (∃ c1 r1, f51_readOctal N h b c = some (0, c1) ∧ f285_octal N h b r = some (0, r1) ∧ FS row c0 r0 c1 r1) ∨ (∃ v, By v ∧ f51_readOctal N h b c = xb1 (f52_make N h b v c) (fun a => some (1, xU a 3 6 (a 3 6 + 4))) ∧ f285_octal N h b r = some (4, xU r 157 20 v)) := by
  have HV := H.1
  have lp : ∀ (k i f : Nat) (v : Int32), i + k = 4 → k < f → 1 ≤ i → 0 ≤ v → (i = 1 → v = 0) → (i = 2 → v ≤ 7) → (i = 3 → v ≤ 63) → Q2 (l51_4 N h b f v (Int32.ofNat i) c) (l285_4 N h b f v (Int32.ofNat i) r) (fun p q => p.1 = q.1 ∧ p.2.1 = q.2.1 ∧ p.2.2.1 = q.2.2.1 ∧ p.2.2.2 = c ∧ q.2.2.2 = r ∧ p.1 ≤ 2 ∧ 0 ≤ p.2.1) := by
    intro k
    induction k with
    | zero =>
      intro i f v h1 h2 h3 h4 _ _ _
      obtain ⟨f, rfl⟩ : ∃ f', f = f' + 1 := ⟨f - 1, by omega⟩
      have : i = 4 := by omega
      subst this
      rw [l51_4, l285_4, if_pos (by decide), if_pos (by decide)]
      exact ⟨_, _, rfl, rfl, rfl, rfl, rfl, rfl, rfl, by show 2 ≤ 2; omega, h4⟩
    | succ k ih =>
      intro i f v h1 h2 h3 h4 h5 h6 h7
      obtain ⟨f, rfl⟩ : ∃ f', f = f' + 1 := ⟨f - 1, by omega⟩
      have n3 : ¬ (3 : Int32) < Int32.ofNat i := by rw [show (3 : Int32) = Int32.ofNat 3 from rfl, i_lt (by decide) (by omega)]; omega
      have e15 : r 157 15 + Int32.ofNat i = Int32.ofNat (q + i) := by rw [HV.2.2.2.2.2.2.1, Int32.ofNat_add]
      have e6 : c 3 6 + Int32.ofNat i = Int32.ofNat (q + i) := by rw [HV.2.2.2.2.2.1, Int32.ofNat_add]
      rw [l51_4, l285_4]
      refine q_nl n3 (q_nr n3 ?_)
      unfold j285_54
      rw [e15, e6]
      refine q_l2 (e_ba HV (by omega)) (q_r2 (e_hr HV (by omega)) (q_l2 e_itx ?_))
      rw [e15]
      refine q_r2 (e_end HV (by omega)) ?_
      rw [e15]
      generalize eT : Tx c len (q + i) = T
      have bd : ∀ {t : Nat}, t ≤ 2 → Q2 (some (t, v, Int32.ofNat i, c)) (some (t, v, Int32.ofNat i, r)) (fun p q => p.1 = q.1 ∧ p.2.1 = q.2.1 ∧ p.2.2.1 = q.2.2.1 ∧ p.2.2.2 = c ∧ q.2.2.2 = r ∧ p.1 ≤ 2 ∧ 0 ≤ p.2.1) := fun ht => ⟨_, _, rfl, rfl, rfl, rfl, rfl, rfl, rfl, ht, h4⟩
      have ee := e_end (N := N) (h := h) (b := b) HV (show q + i < 100000 by omega)
      rw [eT] at ee
      by_cases z1 : T = -1 ∨ T = 10
      · have n1 : ¬ zb (T = -1 ∨ T = 10) = 0 := by rw [zb_t z1]; decide
        have n2 : ¬ zb (T = -1 ∨ T = 9 ∨ T = 10 ∨ 32 ≤ T ∧ T ≤ 126) = 0 := by rw [zb_t (by rcases z1 with q | q <;> simp [q])]; decide
        have n4 : T < 48 := by rcases z1 with q | q <;> rw [q] <;> decide
        exact q_nl n2 (q_pl n4 (q_nr n1 (q_r2 ee (q_nr n1 (bd (by omega))))))
      · have n1 : zb (T = -1 ∨ T = 10) = 0 := zb_f z1
        refine q_pr n1 (q_r2 e_itx' ?_)
        by_cases z2 : T = 9 ∨ T = 10 ∨ 32 ≤ T ∧ T ≤ 126
        · refine q_nl (by rw [zb_t (Or.inr z2)]; decide) (q_nr (by rw [zb_t z2]; decide) ?_)
          rw [e15]
          refine q_r2 ee (q_pr n1 ?_)
          by_cases z3 : T < 48
          · exact q_pl z3 (q_pr z3 (bd (by omega)))
          · refine q_nl z3 (q_nr z3 ?_)
            by_cases z4 : T ≤ 55
            · refine q_pl z4 (q_pr z4 ?_)
              rw [on_s, Int32.mul_comm v 8]
              have i3 : i = 1 ∨ i = 2 ∨ i = 3 := by omega
              refine ih (i + 1) f (8 * v + T - 48) (by omega) (by omega) (by omega) ?_ (fun e => by omega) (fun e => ?_) (fun e => ?_)
              · rcases i3 with q | q | q
                · have := h5 q; grind
                · have := h6 q; grind
                · have := h7 q; grind
              · have := h5 (by omega); grind
              · have := h6 (by omega); grind
            · exact q_nl z4 (q_nr z4 (bd (by omega)))
        · exact q_pl (zb_f (fun z => z.elim (fun e => z1 (Or.inl e)) z2)) (q_pr (zb_f z2) (bd (by omega)))
  obtain ⟨⟨t, v, i, c1⟩, ⟨t', v', i', r1⟩, e1, e2, k1, k2, k3, k4, k5, k6, k7⟩ := lp 3 1 N 0 (by omega) (by omega) (by omega) (by decide) (fun _ => rfl) (fun _ => by decide) (fun _ => by decide)
  dsimp only at k1 k2 k3 k4 k5 k6 k7
  subst k1 k2 k3 k4 k5
  have e1' : l51_4 N h b N 0 1 c1 = some (t, v, i, c1) := e1
  have e2' : l285_4 N h b N 0 1 r1 = some (t, v, i, r1) := e2
  unfold f51_readOctal f285_octal j51_51 j51_90 j285_79 j285_119
  rw [e1', e2', Option.bind_some, Option.bind_some]
  dsimp only
  have e36 := HV.2.2.2.2.2.1
  have e15 := HV.2.2.2.2.2.2.1
  have fl : ∀ {a b' : Int32}, ∃ c1' r1', xb2 (f26_failed N h b a b' c1) (fun r22 a23 => xg (r22 = 0 ∨ r22 = 1) (some (r22, a23))) = some ((0 : Int32), c1') ∧ xb2 (f270_fails N h b a b' r1) (fun r38 a39 => some ((0 : Int32), a39)) = some (0, r1') ∧ FS row c0 r0 c1' r1' := fun {a b'} => ⟨_, _, rfl, rfl, FS_f H⟩
  by_cases t0 : t = 0
  · subst t0
    rw [if_pos rfl, if_pos rfl, e36, e15]
    exact Or.inl fl
  rw [if_neg t0, if_neg t0]
  by_cases t1 : t = 1
  · rw [if_pos t1, if_pos t1, e36, e15]
    exact Or.inl fl
  rw [if_neg t1, if_neg t1]
  by_cases v0 : v = 0
  · rw [if_pos (by rw [v0]; decide), if_pos v0, e36, e15]
    exact Or.inl fl
  rw [if_neg (by grind), if_neg v0]
  by_cases v2 : v ≤ 255
  · rw [if_pos v2, if_pos v2]
    exact Or.inr ⟨v, by_of k7 v2, rfl, rfl⟩
  · rw [if_neg v2, if_neg v2, e36, e15]
    exact Or.inl fl
end T
