/-! Rows of the terminal's screen. -/
section G
variable {N h b : Nat} {c0 r0 c r c' r' : xA} {x y : Int32} {Y X Tp Bt F E : Nat}
def s0 (r : xA) (y x : Nat) : Int32 := r 190 (80 * y + x)
def v0 (r : xA) (y : Nat) : Int32 := r 191 y
def Cs (r a : xA) (G : Nat → Nat → Int32) (V : Nat → Int32) : Prop := (∀ p, p ≠ 190 → p ≠ 191 → a p = r p) ∧ (∀ y x, y < 24 → x < 80 → a 190 (80 * y + x) = G y x) ∧ (∀ y, y < 24 → a 191 y = V y)
theorem Cs_rfl : Cs r r (s0 r) (v0 r) := ⟨fun _ _ _ => rfl, fun _ _ _ _ => rfl, fun _ _ => rfl⟩
theorem Cs_eq {a : xA} {G G' : Nat → Nat → Int32} {V V' : Nat → Int32} (hC : Cs r a G V) (hG : ∀ y x, y < 24 → x < 80 → G y x = G' y x) (hV : ∀ y, y < 24 → V y = V' y) : Cs r a G' V' := ⟨hC.1, fun y x h1 h2 => (hC.2.1 y x h1 h2).trans (hG y x h1 h2), fun y h1 => (hC.2.2 y h1).trans (hV y h1)⟩
theorem Cs_tr {a a2 : xA} {G G' : Nat → Nat → Int32} {V V' : Nat → Int32} (hC : Cs r a G V) (hD : Cs a a2 G' V') : Cs r a2 G' V' := ⟨fun p h1 h2 => (hD.1 p h1 h2).trans (hC.1 p h1 h2), hD.2.1, hD.2.2⟩
theorem Cs_u {a : xA} {G : Nat → Nat → Int32} {V : Nat → Int32} {y x : Nat} {v : Int32} (hC : Cs r a G V) (hy : y < 24) (hx : x < 80) : Cs r (xU a 190 (80 * y + x) v) (fun y' x' => if y' = y ∧ x' = x then v else G y' x') V := by
  refine ⟨fun p h1 h2 => ?_, fun y1 x1 h1 h2 => ?_, fun y1 h1 => ?_⟩
  · rw [xU_o h1]; exact hC.1 p h1 h2
  · show _ = if y1 = y ∧ x1 = x then v else G y1 x1
    rw [xU_eq]
    by_cases z : y1 = y ∧ x1 = x
    · rw [if_pos z, if_pos (by omega)]
    · rw [if_neg z, if_neg (by omega)]; exact hC.2.1 y1 x1 h1 h2
  · rw [xU_o (by decide)]; exact hC.2.2 y1 h1
theorem Cs_v {a : xA} {G : Nat → Nat → Int32} {V : Nat → Int32} {y : Nat} {v : Int32} (hC : Cs r a G V) : Cs r (xU a 191 y v) G (fun y' => if y' = y then v else V y') := by
  refine ⟨fun p h1 h2 => ?_, fun y1 x1 h1 h2 => ?_, fun y1 h1 => ?_⟩
  · rw [xU_o h2]; exact hC.1 p h1 h2
  · rw [xU_o (by decide)]; exact hC.2.1 y1 x1 h1 h2
  · show _ = if y1 = y then v else V y1
    rw [xU_eq]
    by_cases z : y1 = y
    · rw [if_pos z, if_pos ⟨rfl, z⟩]
    · rw [if_neg z, if_neg (fun q => z q.2)]; exact hC.2.2 y1 h1
theorem o80 {y x : Nat} : (80 : Int32) * Int32.ofNat y + Int32.ofNat x = Int32.ofNat (80 * y + x) := by rw [Int32.ofNat_add, Int32.ofNat_mul]; rfl
theorem e_blank {yy A E : Nat} {a : xA} (hN : 100000 ≤ N) (hy : yy < 24) (hA : A ≤ E) (hE : E ≤ 80) : ∃ a', f390_blank N h b (Int32.ofNat yy) (Int32.ofNat A) (Int32.ofNat E) a = some a' ∧ Cs a a' (fun y' x' => if y' = yy ∧ A ≤ x' ∧ x' < E then 32 else s0 a y' x') (v0 a) := by
  unfold f390_blank
  obtain ⟨a', e1, e2⟩ := lp_up (L := l390_3 N h b (Int32.ofNat yy) (Int32.ofNat E)) (hi := E) (out := fun a => (0, a)) (P := fun j a' => A ≤ j ∧ Cs a a' (fun y' x' => if y' = yy ∧ A ≤ x' ∧ x' < j then 32 else s0 a y' x') (v0 a))
    (fun n j a1 h1 h2 => by
      rw [l390_3, if_neg (by rw [i_le (by omega) (by omega)]; omega), o80, xg_pos (g_ix (by omega) (by decide)), i_cl (by omega), on_s]
      exact ⟨_, rfl, by omega, Cs_eq (Cs_u h1.2 hy (by omega)) (fun y' x' h3 h4 => by have := h1.1; grind) (fun _ _ => rfl)⟩)
    (fun n a1 h1 => by rw [l390_3, if_pos (Int32.le_refl _)])
    (E - A) A N a (by omega) (by omega) ⟨Nat.le_refl _, Cs_eq Cs_rfl (fun y' x' h3 h4 => by rw [if_neg (by omega)]) (fun _ _ => rfl)⟩
  rw [e1]
  exact ⟨a', rfl, e2.2⟩
theorem e_copyRow {A E : Nat} {a : xA} (hN : 100000 ≤ N) (hb : b ≤ 80) (h9 : a 157 69 = Int32.ofNat b) (hA : A < 24) (hE : E < 24) (hne : A ≠ E) : ∃ a', f388_copyRow N h b (Int32.ofNat A) (Int32.ofNat E) a = some a' ∧ Cs a a' (fun y' x' => if y' = E ∧ x' < b then s0 a A x' else s0 a y' x') (fun y' => if y' = E then v0 a A else v0 a y') := by
  unfold f388_copyRow
  obtain ⟨a', e1, e2⟩ := lp_up (L := l388_2 N h b (Int32.ofNat A) (Int32.ofNat E)) (hi := b) (out := fun a => (0, a)) (P := fun j a' => Cs a a' (fun y' x' => if y' = E ∧ x' < j then s0 a A x' else s0 a y' x') (v0 a))
    (fun n j a1 h1 h2 => by
      have g9 : a1 157 69 = Int32.ofNat b := by rw [h1.1 157 (by decide) (by decide)]; exact h9
      rw [l388_2, g9, if_neg (by rw [i_le (by omega) (by omega)]; omega), o80, o80, xg_pos (g_ix (by omega) (by decide)), xg_pos (g_ix (by omega) (by decide)), i_cl (by omega), i_cl (by omega), on_s, h1.2.1 A j hA (by omega)]
      exact ⟨_, rfl, Cs_eq (Cs_u h1 hE (by omega)) (fun y' x' h3 h4 => by grind) (fun _ _ => rfl)⟩)
    (fun n a1 h1 => by
      have g9 : a1 157 69 = Int32.ofNat b := by rw [h1.1 157 (by decide) (by decide)]; exact h9
      rw [l388_2, g9, if_pos (Int32.le_refl _)])
    b 0 N a (by omega) (by omega) (Cs_eq Cs_rfl (fun y' x' h3 h4 => by rw [if_neg (by omega)]) (fun _ _ => rfl))
  have e1' : l388_2 N h b (Int32.ofNat A) (Int32.ofNat E) N 0 a = some (0, a') := e1
  rw [e1']
  show ∃ a'_1, xg _ (xg _ (xw (xU a' 191 _ (a' 191 _)) _)) = _ ∧ _
  rw [xg_pos (g_ix hA (by decide)), xg_pos (g_ix hE (by decide)), i_cl (by omega), i_cl (by omega), e2.2.2 A hA]
  exact ⟨_, rfl, Cs_v e2⟩
theorem e_emptyRow {E : Nat} {a : xA} (hN : 100000 ≤ N) (hb : b ≤ 80) (h9 : a 157 69 = Int32.ofNat b) (hE : E < 24) : ∃ a', f389_emptyRow N h b (Int32.ofNat E) a = some a' ∧ Cs a a' (fun y' x' => if y' = E ∧ x' < b then 32 else s0 a y' x') (fun y' => if y' = E then 0 else v0 a y') := by
  unfold f389_emptyRow
  obtain ⟨a', e1, e2⟩ := e_blank (N := N) (h := h) (b := b) (yy := E) (A := 0) (E := b) (a := a) hN hE (by omega) hb
  have e1' : f390_blank N h b (Int32.ofNat E) 0 (Int32.ofNat b) a = some a' := e1
  rw [h9, e1', b1_some, xg_pos (g_ix hE (by decide)), i_cl (by omega)]
  exact ⟨_, rfl, Cs_eq (Cs_v e2) (fun y' x' h3 h4 => by grind) (fun _ _ => rfl)⟩
/-- so many rows up or down among rows F .. E -/
def sU (b F E k : Nat) (r : xA) (y x : Nat) : Int32 := if F ≤ y ∧ y ≤ E ∧ x < b then (if y + k ≤ E then s0 r (y + k) x else 32) else s0 r y x
def wU (F E k : Nat) (r : xA) (y : Nat) : Int32 := if F ≤ y ∧ y ≤ E then (if y + k ≤ E then v0 r (y + k) else 0) else v0 r y
def sD (b F E k : Nat) (r : xA) (y x : Nat) : Int32 := if F ≤ y ∧ y ≤ E ∧ x < b then (if F + k ≤ y then s0 r (y - k) x else 32) else s0 r y x
def wD (F E k : Nat) (r : xA) (y : Nat) : Int32 := if F ≤ y ∧ y ≤ E then (if F + k ≤ y then v0 r (y - k) else 0) else v0 r y
theorem e_rup {a : xA} (hN : 100000 ≤ N) (hb : b ≤ 80) (h9 : a 157 69 = Int32.ofNat b) (hF : F ≤ E) (hE : E < 24) : ∃ a', f387_rollsUp N h b (Int32.ofNat F) (Int32.ofNat E) a = some a' ∧ Cs a a' (sU b F E 1 a) (wU F E 1 a) := by
  unfold f387_rollsUp
  obtain ⟨a', e1, e2⟩ := lp_up (L := l387_2 N h b (Int32.ofNat E)) (hi := E) (out := fun a => (0, a)) (P := fun j a' => F ≤ j ∧ Cs a a' (fun y x => if F ≤ y ∧ y < j ∧ x < b then s0 a (y + 1) x else s0 a y x) (fun y => if F ≤ y ∧ y < j then v0 a (y + 1) else v0 a y))
    (fun n j a1 h1 h2 => by
      have g9 : a1 157 69 = Int32.ofNat b := by rw [h1.2.1 157 (by decide) (by decide)]; exact h9
      obtain ⟨a2, t1, t2⟩ := e_copyRow (N := N) (h := h) (b := b) (A := j + 1) (E := j) (a := a1) hN hb g9 (by omega) (by omega) (by omega)
      rw [l387_2, if_neg (by rw [i_le (by omega) (by omega)]; omega), on_s, t1, b1_some]
      refine ⟨a2, rfl, by omega, Cs_eq (Cs_tr h1.2 t2) (fun y' x' h3 h4 => ?_) (fun y' h3 => ?_)⟩
      · have q1 : s0 a1 y' x' = _ := h1.2.2.1 y' x' h3 h4
        have q2 : s0 a1 (j + 1) x' = _ := h1.2.2.1 (j + 1) x' (by omega) h4
        rw [q1, q2]
        have := h1.1
        grind
      · have q1 : v0 a1 y' = _ := h1.2.2.2 y' h3
        have q2 : v0 a1 (j + 1) = _ := h1.2.2.2 (j + 1) (by omega)
        rw [q1, q2]
        have := h1.1
        grind)
    (fun n a1 h1 => by rw [l387_2, if_pos (Int32.le_refl _)])
    (E - F) F N a (by omega) (by omega) ⟨Nat.le_refl _, Cs_eq Cs_rfl (fun y' x' h3 h4 => by rw [if_neg (by omega)]) (fun y' h3 => by rw [if_neg (by omega)])⟩
  have g9 : a' 157 69 = Int32.ofNat b := by rw [e2.2.1 157 (by decide) (by decide)]; exact h9
  obtain ⟨a2, t1, t2⟩ := e_emptyRow (N := N) (h := h) (b := b) (a := a') hN hb g9 hE
  rw [e1]
  show ∃ a'_1, xb1 (f389_emptyRow N h b (Int32.ofNat E) a') _ = _ ∧ _
  rw [t1]
  refine ⟨a2, rfl, Cs_eq (Cs_tr e2.2 t2) (fun y' x' h3 h4 => ?_) (fun y' h3 => ?_)⟩
  · have q1 : s0 a' y' x' = _ := e2.2.2.1 y' x' h3 h4
    rw [q1]
    unfold sU
    grind
  · have q1 : v0 a' y' = _ := e2.2.2.2 y' h3
    rw [q1]
    unfold wU
    grind
theorem e_rdl {a : xA} (hN : 100000 ≤ N) (hb : b ≤ 80) (h9 : a 157 69 = Int32.ofNat b) (hE : E < 24) : ∀ (k n : Nat) {a1 : xA}, F + k ≤ E → k < n → Cs a a1 (fun y x => if F + k < y ∧ y ≤ E ∧ x < b then s0 a (y - 1) x else s0 a y x) (fun y => if F + k < y ∧ y ≤ E then v0 a (y - 1) else v0 a y) → ∃ a', l397_2 N h b (Int32.ofNat F) n (Int32.ofNat (F + k)) a1 = some (0, a') ∧ Cs a a' (fun y x => if F < y ∧ y ≤ E ∧ x < b then s0 a (y - 1) x else s0 a y x) (fun y => if F < y ∧ y ≤ E then v0 a (y - 1) else v0 a y)
  | 0, n, a1, h1, h2, h3 => by
    obtain ⟨m, rfl⟩ : ∃ m, n = m + 1 := ⟨n - 1, by omega⟩
    rw [l397_2, if_pos (show Int32.ofNat (F + 0) ≤ Int32.ofNat F from Int32.le_refl _)]
    exact ⟨a1, rfl, h3⟩
  | k + 1, n, a1, h1, h2, h3 => by
    obtain ⟨m, rfl⟩ : ∃ m, n = m + 1 := ⟨n - 1, by omega⟩
    have g9 : a1 157 69 = Int32.ofNat b := by rw [h3.1 157 (by decide) (by decide)]; exact h9
    obtain ⟨a2, t1, t2⟩ := e_copyRow (N := N) (h := h) (b := b) (A := F + k) (E := F + (k + 1)) (a := a1) hN hb g9 (by omega) (by omega) (by omega)
    have e1 : Int32.ofNat (F + (k + 1)) + (-1) = Int32.ofNat (F + k) := by
      rw [show F + (k + 1) = F + k + 1 by omega, Int32.ofNat_add]; show _ + 1 + -1 = _; grind
    rw [l397_2, if_neg (by rw [i_le (by omega) (by omega)]; omega), on_p (by omega), show F + (k + 1) - 1 = F + k by omega, t1, b1_some, e1]
    refine e_rdl hN hb h9 hE k m (by omega) (by omega) (Cs_eq (Cs_tr h3 t2) (fun y' x' h4 h5 => ?_) (fun y' h4 => ?_))
    · have q1 : s0 a1 y' x' = _ := h3.2.1 y' x' h4 h5
      have q2 : s0 a1 (F + k) x' = _ := h3.2.1 (F + k) x' (by omega) h5
      rw [q1, q2]
      grind
    · have q1 : v0 a1 y' = _ := h3.2.2 y' h4
      have q2 : v0 a1 (F + k) = _ := h3.2.2 (F + k) (by omega)
      rw [q1, q2]
      grind
theorem e_rdn {a : xA} (hN : 100000 ≤ N) (hb : b ≤ 80) (h9 : a 157 69 = Int32.ofNat b) (hF : F ≤ E) (hE : E < 24) : ∃ a', f397_rollsDown N h b (Int32.ofNat F) (Int32.ofNat E) a = some a' ∧ Cs a a' (sD b F E 1 a) (wD F E 1 a) := by
  unfold f397_rollsDown
  obtain ⟨a', e1, e2⟩ := e_rdl (N := N) (h := h) (b := b) (F := F) (a := a) hN hb h9 hE (E - F) N (a1 := a) (by omega) (by omega) (Cs_eq Cs_rfl (fun y' x' h3 h4 => by rw [if_neg (by omega)]) (fun y' h3 => by rw [if_neg (by omega)]))
  rw [show F + (E - F) = E by omega] at e1
  have g9 : a' 157 69 = Int32.ofNat b := by rw [e2.1 157 (by decide) (by decide)]; exact h9
  obtain ⟨a2, t1, t2⟩ := e_emptyRow (N := N) (h := h) (b := b) (E := F) (a := a') hN hb g9 (by omega)
  rw [e1]
  show ∃ a'_1, xb1 (f389_emptyRow N h b (Int32.ofNat F) a') _ = _ ∧ _
  rw [t1]
  refine ⟨a2, rfl, Cs_eq (Cs_tr e2 t2) (fun y' x' h3 h4 => ?_) (fun y' h3 => ?_)⟩
  · have q1 : s0 a' y' x' = _ := e2.2.1 y' x' h3 h4
    rw [q1]
    unfold sD
    grind
  · have q1 : v0 a' y' = _ := e2.2.2 y' h3
    rw [q1]
    unfold wD
    grind
theorem sU_s {k : Nat} {a a' : xA} (hE : E < 24) (hb : b ≤ 80) (h1 : Cs r a (sU b F E k r) (wU F E k r)) (h2 : Cs a a' (sU b F E 1 a) (wU F E 1 a)) : Cs r a' (sU b F E (k + 1) r) (wU F E (k + 1) r) := by
  refine Cs_eq (Cs_tr h1 h2) (fun y x h3 h4 => ?_) (fun y h3 => ?_)
  · have q1 : s0 a y x = sU b F E k r y x := h1.2.1 y x h3 h4
    by_cases z2 : (y + 1) < 24
    · have q2 : s0 a (y + 1) x = sU b F E k r (y + 1) x := h1.2.1 (y + 1) x z2 h4
      have e : y + 1 + k = y + (k + 1) := by omega
      unfold sU at q1 q2 ⊢
      rw [e] at q2
      grind
    · unfold sU at q1 ⊢
      grind
  · have q1 : v0 a y = wU F E k r y := h1.2.2 y h3
    by_cases z2 : (y + 1) < 24
    · have q2 : v0 a (y + 1) = wU F E k r (y + 1) := h1.2.2 (y + 1) z2
      have e : y + 1 + k = y + (k + 1) := by omega
      unfold wU at q1 q2 ⊢
      rw [e] at q2
      grind
    · unfold wU at q1 ⊢
      grind
theorem sD_s {k : Nat} {a a' : xA} (hE : E < 24) (hb : b ≤ 80) (h1 : Cs r a (sD b F E k r) (wD F E k r)) (h2 : Cs a a' (sD b F E 1 a) (wD F E 1 a)) : Cs r a' (sD b F E (k + 1) r) (wD F E (k + 1) r) := by
  refine Cs_eq (Cs_tr h1 h2) (fun y x h3 h4 => ?_) (fun y h3 => ?_)
  · have q1 : s0 a y x = sD b F E k r y x := h1.2.1 y x h3 h4
    by_cases z2 : (y - 1) < 24
    · have q2 : s0 a (y - 1) x = sD b F E k r (y - 1) x := h1.2.1 (y - 1) x z2 h4
      have e : y - 1 - k = y - (k + 1) := by omega
      unfold sD at q1 q2 ⊢
      rw [e] at q2
      grind
    · unfold sD at q1 ⊢
      grind
  · have q1 : v0 a y = wD F E k r y := h1.2.2 y h3
    by_cases z2 : (y - 1) < 24
    · have q2 : v0 a (y - 1) = wD F E k r (y - 1) := h1.2.2 (y - 1) z2
      have e : y - 1 - k = y - (k + 1) := by omega
      unfold wD at q1 q2 ⊢
      rw [e] at q2
      grind
    · unfold wD at q1 ⊢
      grind
end G
