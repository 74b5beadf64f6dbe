/-! The reader goes along the text. -/
def cp (c : xA) (q : Nat) : xA := xU c 3 6 (Int32.ofNat q)
def rp (r : xA) (q : Nat) : xA := xU r 157 15 (Int32.ofNat q)
section T
variable {N h b : Nat} {c0 r0 c r c' r' : xA} {x y z s v w : Int32} {len p i f k m q l a e K n : Nat}
theorem xU_xU {a : xA} {p i : Nat} {v w : Int32} : xU (xU a p i v) p i w = xU a p i w := by
  apply xA_ext
  intro q j
  simp only [xU_eq]
  grind
theorem cp_cp : cp (cp c p) q = cp c q := xU_xU
theorem rp_rp : rp (rp r p) q = rp r q := xU_xU
theorem cp_s (H : RV len p c r) : cp c p = c := by
  unfold cp
  rw [← H.2.2.2.2.2.1, xU_self]
theorem rp_s (H : RV len p c r) : rp r p = r := by
  unfold rp
  rw [← H.2.2.2.2.2.2.1, xU_self]
theorem RV_q (H : RV len p c r) (hq : q ≤ 9000) : RV len q (cp c q) (rp r q) := RV_p H hq
theorem Tx_cp : Tx (cp c q) len i = Tx c len i := rfl
theorem adv {L : Nat → xA → Option (Nat × xA)} {S : Nat → xA} {ok : Nat → Prop} {M t : Nat} (hs : ∀ n q, ok q → L (n + 1) (S q) = L n (S (q + 1))) (hz : ∀ n q, ¬ ok q → q ≤ max M p → L (n + 1) (S q) = some (t, S q)) (hb : ∀ q, ok q → q < M) : ∀ (k q n : Nat), M ≤ q + k → k < n → p ≤ q → q ≤ max M p → ∃ p', q ≤ p' ∧ p' ≤ max M p ∧ L n (S q) = some (t, S p') ∧ (∀ j, q ≤ j → j < p' → ok j) ∧ ¬ ok p' := by
  intro k
  induction k with
  | zero =>
    intro q n h1 h2 h3 h4
    obtain ⟨n, rfl⟩ : ∃ n', n = n' + 1 := ⟨n - 1, by omega⟩
    have no : ¬ ok q := fun e => by have := hb q e; omega
    exact ⟨q, Nat.le_refl _, h4, hz n q no h4, fun j h5 h6 => absurd h5 (by omega), no⟩
  | succ k ih =>
    intro q n h1 h2 h3 h4
    obtain ⟨n, rfl⟩ : ∃ n', n = n' + 1 := ⟨n - 1, by omega⟩
    by_cases o : ok q
    · have l := hb q o
      obtain ⟨p', g1, g2, g3, g4, g5⟩ := ih (q + 1) n (by omega) (by omega) (by omega) (by omega)
      refine ⟨p', by omega, g2, by rw [hs n q o]; exact g3, fun j h5 h6 => ?_, g5⟩
      by_cases e : j = q
      · subst e; exact o
      · exact g4 j (by omega) h6
    · exact ⟨q, Nat.le_refl _, h4, hz n q o h4, fun j h5 h6 => absurd h5 (by omega), o⟩
theorem adv_u {ok : Nat → Prop} {p1 p2 : Nat} (h1 : ∀ j, p ≤ j → j < p1 → ok j) (h2 : ¬ ok p1) (h3 : p ≤ p1) (g1 : ∀ j, p ≤ j → j < p2 → ok j) (g2 : ¬ ok p2) (g3 : p ≤ p2) : p1 = p2 := by
  rcases Nat.lt_trichotomy p1 p2 with l | l | l
  · exact absurd (g1 p1 h3 l) h2
  · exact l
  · exact absurd (h1 p2 g3 l) g2
/-- two loops that go on while the bytes are such -/
theorem adv2 {B : Int32 → Prop} {L1 L2 : Nat → xA → Option (Nat × xA)} (H : RV len p c r) (hB : ¬ B (-1)) (hp : p ≤ 8000) (hN : 100000 ≤ N)
    (h1 : ∀ n q, q ≤ 8000 → RV len q (cp c q) (rp r q) → (q < len → B (Tx c len q) → L1 (n + 1) (cp c q) = L1 n (cp c (q + 1))) ∧ (¬ (q < len ∧ B (Tx c len q)) → L1 (n + 1) (cp c q) = some (0, cp c q)))
    (h2 : ∀ n q, q ≤ 8000 → RV len q (cp c q) (rp r q) → (B (Tx c len q) → L2 (n + 1) (rp r q) = L2 n (rp r (q + 1))) ∧ (¬ B (Tx c len q) → L2 (n + 1) (rp r q) = some (0, rp r q))) :
    ∃ p', p ≤ p' ∧ p' ≤ max len p ∧ L1 N c = some (0, cp c p') ∧ L2 N r = some (0, rp r p') ∧ (∀ j, p ≤ j → j < p' → B (Tx c len j)) ∧ ¬ B (Tx c len p') := by
  have hl := H.1
  have mm : ∀ q, B (Tx c len q) → q < len := fun q hb => Tx_m (fun e => hB (e ▸ hb))
  obtain ⟨p1, a1, a2, a3, a4, a5⟩ := adv (L := L1) (S := cp c) (ok := fun q => B (Tx c len q)) (M := len) (t := 0) (p := p) (fun n q o => (h1 n q (by have := mm q o; omega) (RV_q H (by have := mm q o; omega))).1 (mm q o) o) (fun n q o hq => (h1 n q (by omega) (RV_q H (by omega))).2 (fun z => o z.2)) (fun q o => mm q o) len p N (by omega) (by omega) (Nat.le_refl _) (by omega)
  obtain ⟨p2, b1, b2, b3, b4, b5⟩ := adv (L := L2) (S := rp r) (ok := fun q => B (Tx c len q)) (M := len) (t := 0) (p := p) (fun n q o => (h2 n q (by have := mm q o; omega) (RV_q H (by have := mm q o; omega))).1 o) (fun n q o hq => (h2 n q (by omega) (RV_q H (by omega))).2 o) (fun q o => mm q o) len p N (by omega) (by omega) (Nat.le_refl _) (by omega)
  have e := adv_u a4 a5 a1 b4 b5 b1
  subst e
  rw [cp_s H] at a3
  rw [rp_s H] at b3
  exact ⟨p1, a1, a2, a3, b3, a4, a5⟩
theorem cp_6 : cp c q 3 6 = Int32.ofNat q := xU_e
theorem rp_15 : rp r q 157 15 = Int32.ofNat q := xU_e
theorem cp_n : xU (cp c q) 3 6 (cp c q 3 6 + 1) = cp c (q + 1) := by
  rw [cp_6, on_s]
  exact cp_cp
theorem rp_n : xU (rp r q) 157 15 (rp r q 157 15 + 1) = rp r (q + 1) := by
  rw [rp_15, on_s]
  exact rp_rp
theorem d_bl (hN : 100000 ≤ N) (H : RV len p c r) (hp : p ≤ 8000) : ∃ p', p ≤ p' ∧ p' ≤ max len p ∧ f31_passBlanks N h b c = some (cp c p') ∧ f268_blanks N h b r = some (rp r p') := by
  obtain ⟨M, hM⟩ : ∃ M, N = M + 1 := ⟨N - 1, by omega⟩
  have st1 : ∀ n q, q ≤ 8000 → RV len q (cp c q) (rp r q) → (q < len → (Tx c len q = 9 ∨ Tx c len q = 32) → l31_0 N h b (n + 1) (cp c q) = l31_0 N h b n (cp c (q + 1))) ∧ (¬ (q < len ∧ (Tx c len q = 9 ∨ Tx c len q = 32)) → l31_0 N h b (n + 1) (cp c q) = some (0, cp c q)) := by
    intro n q hq Hq
    refine ⟨fun g1 g2 => ?_, fun g => ?_⟩
    · rw [l31_0, if_neg (by rw [l_tx Hq]; omega), g_tx Hq g1, v_tx Hq g1, e_bl, b2_some, Tx_cp, if_neg (by rw [zb_t g2]; decide)]
      show l31_0 N h b n (xU (cp c q) 3 6 (cp c q 3 6 + 1)) = _
      rw [cp_n]
    · rw [l31_0]
      by_cases l : q < len
      · rw [if_neg (by rw [l_tx Hq]; omega), g_tx Hq l, v_tx Hq l, e_bl, b2_some, Tx_cp, if_pos (zb_f (fun z => g ⟨l, z⟩))]
      · rw [if_pos (by rw [l_tx Hq]; omega)]
  have st2 : ∀ n q, q ≤ 8000 → RV len q (cp c q) (rp r q) → ((Tx c len q = 9 ∨ Tx c len q = 32) → l268_0 N h b (n + 1) (rp r q) = l268_0 N h b n (rp r (q + 1))) ∧ (¬ (Tx c len q = 9 ∨ Tx c len q = 32) → l268_0 N h b (n + 1) (rp r q) = some (0, rp r q)) := by
    intro n q hq Hq
    refine ⟨fun g => ?_, fun g => ?_⟩
    · rw [l268_0, rp_15, e_hr Hq (by omega), b2_some, e_bl', b2_some, Tx_cp, if_neg (by rw [zb_t g]; decide)]
      show l268_0 N h b n (xU (rp r q) 157 15 (rp r q 157 15 + 1)) = _
      rw [rp_n]
    · rw [l268_0, rp_15, e_hr Hq (by omega), b2_some, e_bl', b2_some, Tx_cp, if_pos (zb_f g)]
  obtain ⟨p', a1, a2, a3, a4, a5, a6⟩ := adv2 (B := fun v => v = 9 ∨ v = 32) (L1 := l31_0 N h b) (L2 := l268_0 N h b) H (by decide) hp hN st1 st2
  have Hc := cp_s H
  have Hr := rp_s H
  have hl := H.1
  refine ⟨p', a1, a2, ?_, ?_⟩
  · unfold f31_passBlanks
    by_cases l : p < len
    · rw [if_neg (by rw [l_tx H]; omega), g_tx H l, v_tx H l, e_bl, b2_some]
      by_cases g : Tx c len p = 9 ∨ Tx c len p = 32
      · rw [if_neg (by rw [zb_t g]; decide)]
        show (l31_0 N h b N (xU c 3 6 (c 3 6 + 1))).bind _ = _
        rw [H.2.2.2.2.2.1, on_s]
        have e1 := (st1 N p hp (RV_q H (by omega))).1 l g
        rw [Hc] at e1
        have e2 : l31_0 N h b (N + 1) c = some (0, cp c p') := by
          obtain ⟨p2, b1, b2, b3, b4, b5, b6⟩ := adv2 (B := fun v => v = 9 ∨ v = 32) (N := N + 1) (L1 := l31_0 N h b) (L2 := l268_0 N h b) H (by decide) hp (by omega) st1 st2
          have e := adv_u (ok := fun q => Tx c len q = 9 ∨ Tx c len q = 32) a5 a6 a1 b5 b6 b1
          rw [e]
          exact b3
        rw [show xU c 3 6 (Int32.ofNat (p + 1)) = cp c (p + 1) from rfl, ← e1, e2, Option.bind_some]
      · rw [if_pos (zb_f g)]
        have : p' = p := adv_u (ok := fun q => Tx c len q = 9 ∨ Tx c len q = 32) a5 a6 a1 (fun j h1 h2 => absurd h1 (by omega)) g (Nat.le_refl _)
        rw [this, Hc]
    · have g : ¬ (Tx c len p = 9 ∨ Tx c len p = 32) := by
        have : Tx c len p = -1 := if_neg l
        rw [this]; decide
      have : p' = p := adv_u (ok := fun q => Tx c len q = 9 ∨ Tx c len q = 32) a5 a6 a1 (fun j h1 h2 => absurd h1 (by omega)) g (Nat.le_refl _)
      rw [if_pos (by rw [l_tx H]; omega), this, Hc]
  · unfold f268_blanks
    rw [H.2.2.2.2.2.2.1, e_hr H (by omega), b2_some, e_bl', b2_some]
    by_cases g : Tx c len p = 9 ∨ Tx c len p = 32
    · rw [if_neg (by rw [zb_t g]; decide)]
      show (l268_0 N h b N (xU r 157 15 (r 157 15 + 1))).bind _ = _
      rw [H.2.2.2.2.2.2.1, on_s]
      have e1 := (st2 N p hp (RV_q H (by omega))).1 g
      rw [Hr] at e1
      have e2 : l268_0 N h b (N + 1) r = some (0, rp r p') := by
        obtain ⟨p2, b1, b2, b3, b4, b5, b6⟩ := adv2 (B := fun v => v = 9 ∨ v = 32) (N := N + 1) (L1 := l31_0 N h b) (L2 := l268_0 N h b) H (by decide) hp (by omega) st1 st2
        have e := adv_u (ok := fun q => Tx c len q = 9 ∨ Tx c len q = 32) a5 a6 a1 b5 b6 b1
        rw [e]
        exact b4
      rw [show xU r 157 15 (Int32.ofNat (p + 1)) = rp r (p + 1) from rfl, ← e1, e2, Option.bind_some]
    · rw [if_pos (zb_f g)]
      have : p' = p := adv_u (ok := fun q => Tx c len q = 9 ∨ Tx c len q = 32) a5 a6 a1 (fun j h1 h2 => absurd h1 (by omega)) g (Nat.le_refl _)
      rw [this, Hr]
/-- names -/
theorem d_nml {w1 w2 w3 : Int32} (hN : 100000 ≤ N) (H : RV len p c r) (hp : p ≤ 8000) : ∃ p', p ≤ p' ∧ p' ≤ max len p ∧ l38_5 N h b w1 N c = some (0, cp c p') ∧ l277_15 N h b w2 N r = some (0, rp r p') ∧ l290_109 N h b w3 N r = some (0, rp r p') := by
  have hn : ¬ nmB (-1) := by unfold nmB; decide
  have st1 : ∀ n q, q ≤ 8000 → RV len q (cp c q) (rp r q) → (q < len → nmB (Tx c len q) → l38_5 N h b w1 (n + 1) (cp c q) = l38_5 N h b w1 n (cp c (q + 1))) ∧ (¬ (q < len ∧ nmB (Tx c len q)) → l38_5 N h b w1 (n + 1) (cp c q) = some (0, cp c q)) := by
    intro n q hq Hq
    refine ⟨fun g1 g2 => ?_, fun g => ?_⟩
    · rw [l38_5, if_neg (by rw [l_tx Hq]; omega), g_tx Hq g1, v_tx Hq g1, e_nb, b2_some, Tx_cp, if_neg (by rw [zb_t g2]; decide)]
      show l38_5 N h b w1 n (xU (cp c q) 3 6 (cp c q 3 6 + 1)) = _
      rw [cp_n]
    · rw [l38_5]
      by_cases l : q < len
      · rw [if_neg (by rw [l_tx Hq]; omega), g_tx Hq l, v_tx Hq l, e_nb, b2_some, Tx_cp, if_pos (zb_f (fun z => g ⟨l, z⟩))]
      · rw [if_pos (by rw [l_tx Hq]; omega)]
  have st2 : ∀ n q, q ≤ 8000 → RV len q (cp c q) (rp r q) → (nmB (Tx c len q) → l277_15 N h b w2 (n + 1) (rp r q) = l277_15 N h b w2 n (rp r (q + 1))) ∧ (¬ nmB (Tx c len q) → l277_15 N h b w2 (n + 1) (rp r q) = some (0, rp r q)) := by
    intro n q hq Hq
    refine ⟨fun g => ?_, fun g => ?_⟩
    · rw [l277_15, rp_15, e_hr Hq (by omega), b2_some, e_nb', b2_some, Tx_cp, if_neg (by rw [zb_t g]; decide)]
      show l277_15 N h b w2 n (xU (rp r q) 157 15 (rp r q 157 15 + 1)) = _
      rw [rp_n]
    · rw [l277_15, rp_15, e_hr Hq (by omega), b2_some, e_nb', b2_some, Tx_cp, if_pos (zb_f g)]
  have st3 : ∀ n q, q ≤ 8000 → RV len q (cp c q) (rp r q) → (nmB (Tx c len q) → l290_109 N h b w3 (n + 1) (rp r q) = l290_109 N h b w3 n (rp r (q + 1))) ∧ (¬ nmB (Tx c len q) → l290_109 N h b w3 (n + 1) (rp r q) = some (0, rp r q)) := by
    intro n q hq Hq
    refine ⟨fun g => ?_, fun g => ?_⟩
    · rw [l290_109, rp_15, e_hr Hq (by omega), b2_some, e_nb', b2_some, Tx_cp, if_neg (by rw [zb_t g]; decide)]
      show l290_109 N h b w3 n (xU (rp r q) 157 15 (rp r q 157 15 + 1)) = _
      rw [rp_n]
    · rw [l290_109, rp_15, e_hr Hq (by omega), b2_some, e_nb', b2_some, Tx_cp, if_pos (zb_f g)]
  obtain ⟨p', a1, a2, a3, a4, a5, a6⟩ := adv2 (B := nmB) (L1 := l38_5 N h b w1) (L2 := l277_15 N h b w2) H hn hp hN st1 st2
  obtain ⟨p2, b1, b2, b3, b4, b5, b6⟩ := adv2 (B := nmB) (L1 := l38_5 N h b w1) (L2 := l290_109 N h b w3) H hn hp hN st1 st3
  have e := adv_u (ok := fun q => nmB (Tx c len q)) a5 a6 a1 b5 b6 b1
  subst e
  exact ⟨p', a1, a2, a3, a4, b4⟩
/-- letters and digits -/
theorem d_abl {w2 : Int32} (hN : 100000 ≤ N) (H : RV len p c r) (hp : p ≤ 8000) : ∃ p', p ≤ p' ∧ p' ≤ max len p ∧ l33_24 N h b N c = some (0, cp c p') ∧ l272_29 N h b w2 N r = some (0, rp r p') ∧ (97 ≤ Tx c len p ∧ Tx c len p ≤ 122 → p < p' ∧ p' ≤ len) := by
  have st1 : ∀ n q, q ≤ 8000 → RV len q (cp c q) (rp r q) → (q < len → (97 ≤ Tx c len q ∧ Tx c len q ≤ 122 ∨ 48 ≤ Tx c len q ∧ Tx c len q ≤ 57) → l33_24 N h b (n + 1) (cp c q) = l33_24 N h b n (cp c (q + 1))) ∧ (¬ (q < len ∧ (97 ≤ Tx c len q ∧ Tx c len q ≤ 122 ∨ 48 ≤ Tx c len q ∧ Tx c len q ≤ 57)) → l33_24 N h b (n + 1) (cp c q) = some (0, cp c q)) := by
    intro n q hq Hq
    unfold j33_65 at *
    refine ⟨fun g1 g2 => ?_, fun g => ?_⟩
    · rw [l33_24, if_neg (by rw [l_tx Hq]; omega), g_tx Hq g1, v_tx Hq g1, e_lt, b2_some, Tx_cp]
      unfold j33_65
      by_cases l : 97 ≤ Tx c len q ∧ Tx c len q ≤ 122
      · rw [if_neg (by rw [zb_t l]; decide)]
        show l33_24 N h b n (xU (cp c q) 3 6 (cp c q 3 6 + 1)) = _
        rw [cp_n]
      · rw [if_pos (zb_f l), g_tx Hq g1, v_tx Hq g1, e_dg, b2_some, Tx_cp, if_neg (by rw [zb_t (g2.resolve_left l)]; decide)]
        show l33_24 N h b n (xU (cp c q) 3 6 (cp c q 3 6 + 1)) = _
        rw [cp_n]
    · rw [l33_24]
      by_cases l : q < len
      · rw [if_neg (by rw [l_tx Hq]; omega), g_tx Hq l, v_tx Hq l, e_lt, b2_some, Tx_cp, if_pos (zb_f (fun z => g ⟨l, Or.inl z⟩)), g_tx Hq l, v_tx Hq l, e_dg, b2_some, Tx_cp, if_pos (zb_f (fun z => g ⟨l, Or.inr z⟩))]
      · rw [if_pos (by rw [l_tx Hq]; omega)]
  have st2 : ∀ n q, q ≤ 8000 → RV len q (cp c q) (rp r q) → ((97 ≤ Tx c len q ∧ Tx c len q ≤ 122 ∨ 48 ≤ Tx c len q ∧ Tx c len q ≤ 57) → l272_29 N h b w2 (n + 1) (rp r q) = l272_29 N h b w2 n (rp r (q + 1))) ∧ (¬ (97 ≤ Tx c len q ∧ Tx c len q ≤ 122 ∨ 48 ≤ Tx c len q ∧ Tx c len q ≤ 57) → l272_29 N h b w2 (n + 1) (rp r q) = some (0, rp r q)) := by
    intro n q hq Hq
    refine ⟨fun g => ?_, fun g => ?_⟩
    · rw [l272_29, rp_15, e_hr Hq (by omega), b2_some, e_lt', b2_some, Tx_cp]
      unfold j272_57
      by_cases l : 97 ≤ Tx c len q ∧ Tx c len q ≤ 122
      · rw [if_neg (by rw [zb_t l]; decide)]
        show l272_29 N h b w2 n (xU (rp r q) 157 15 (rp r q 157 15 + 1)) = _
        rw [rp_n]
      · rw [if_pos (zb_f l), rp_15, e_hr Hq (by omega), b2_some, e_dg', b2_some, Tx_cp, if_neg (by rw [zb_t (g.resolve_left l)]; decide)]
        show l272_29 N h b w2 n (xU (rp r q) 157 15 (rp r q 157 15 + 1)) = _
        rw [rp_n]
    · rw [l272_29, rp_15, e_hr Hq (by omega), b2_some, e_lt', b2_some, Tx_cp, if_pos (zb_f (fun z => g (Or.inl z))), rp_15, e_hr Hq (by omega), b2_some, e_dg', b2_some, Tx_cp, if_pos (zb_f (fun z => g (Or.inr z)))]
  obtain ⟨p', a1, a2, a3, a4, a5, a6⟩ := adv2 (B := fun v => 97 ≤ v ∧ v ≤ 122 ∨ 48 ≤ v ∧ v ≤ 57) (L1 := l33_24 N h b) (L2 := l272_29 N h b w2) H (by decide) hp hN st1 st2
  refine ⟨p', a1, a2, a3, a4, fun g => ?_⟩
  have lp : p < len := Tx_m (fun e => by rw [e] at g; exact absurd g (by decide))
  by_cases e : p' = p
  · rw [e] at a6
    exact absurd (Or.inl g) a6
  · exact ⟨by omega, by omega⟩
end T
