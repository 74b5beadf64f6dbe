/-! The terminal answers. -/
/-- bytes laid into one row of the class -/
def Cp (p : Nat) (c a : xA) (L : List Int32) : Prop := (∀ q, q ≠ p → a q = c q) ∧ ∀ i, i < L.length → a p i = L.getD i 0
def Rp (r a : xA) (L : List Int32) : Prop := (∀ q, q ≠ 157 → q ≠ 189 → a q = r q) ∧ (∀ i, i ≠ 89 → a 157 i = r 157 i) ∧ a 157 89 = Int32.ofNat L.length ∧ ∀ i, i < L.length → a 189 i = L.getD i 0
section T
variable {N h b : Nat} {c0 r0 c r c' r' : xA} {x y s v : Int32} {Y X Tp Bt F E k : Nat}
theorem gd_l {L : List Int32} {i : Nat} (hi : i < L.length) : (L ++ [v]).getD i 0 = L.getD i 0 := by
  rw [List.getD_eq_getElem?_getD, List.getElem?_append_left hi, ← List.getD_eq_getElem?_getD]
theorem gd_e {L : List Int32} : (L ++ [v]).getD L.length 0 = v := by
  rw [List.getD_eq_getElem?_getD, List.getElem?_append_right (Nat.le_refl _), Nat.sub_self]
  rfl
theorem Cp_nil {p : Nat} : Cp p c c [] := ⟨fun _ _ => rfl, fun i hi => absurd hi (Nat.not_lt_zero i)⟩
theorem Cp_s {p : Nat} {a : xA} {L : List Int32} (H : Cp p c a L) {i : Nat} (hi : L.length = i) : Cp p c (xU a p i v) (L ++ [v]) := by
  subst hi
  refine ⟨fun q hq => by rw [xU_o hq]; exact H.1 q hq, fun i h1 => ?_⟩
  rw [List.length_append] at h1
  by_cases z : i = L.length
  · subst z; rw [xU_e, gd_e]
  · have h2 : i < L.length := by simp at h1; omega
    rw [xU_s z, gd_l h2]; exact H.2 i h2
theorem Rp_nil (h89 : r 157 89 = 0) : Rp r r [] := ⟨fun _ _ _ => rfl, fun _ _ => rfl, h89, fun i hi => absurd hi (Nat.not_lt_zero i)⟩
theorem e_rep {a : xA} {L : List Int32} (H : Rp r a L) (hl : L.length < 32) : ∃ a', f380_replies N h b x a = some a' ∧ Rp r a' (L ++ [x]) := by
  unfold f380_replies
  rw [H.2.2.1, xg_pos (g_ix hl (by decide)), i_cl (by omega)]
  refine ⟨_, rfl, fun q h1 h2 => by rw [xU_o h1, xU_o h2]; exact H.1 q h1 h2, fun i hi => by rw [xU_s hi, xU_o (by decide)]; exact H.2.1 i hi, ?_, fun i hi => ?_⟩
  · rw [xU_e, xU_o (by decide), H.2.2.1, on_s, List.length_append]; rfl
  · rw [List.length_append] at hi
    rw [xU_o (show 189 ≠ 157 by decide)]
    by_cases z : i = L.length
    · subst z; rw [xU_e, gd_e]
    · have h2 : i < L.length := by simp at hi; omega
      rw [xU_s z, gd_l h2]; exact H.2.2.2 i h2
theorem i_neg_le {m : Nat} (hm : m < 2 ^ 31) : (0 ≤ Int32.ofNat m) = True := by
  have e : (0 : Int32) = Int32.ofNat 0 := rfl
  rw [e, i_le (by decide) hm]
  exact propext ⟨fun _ => trivial, fun _ => Nat.zero_le m⟩
/-- a whole row of bytes into the ring, or nothing -/
theorem e_aw {p m : Nat} {f B : Nat → Int32} (hN : 100000 ≤ N) (hk : xk p = 100) (hp : p ≠ 132 ∧ p ≠ 133) (hm : m ≤ xl h b p) (hm2 : xl h b p < 2 ^ 31) (hB : RB c 132 32 f) (hb : ∀ i, i < m → c p i = B i) : ∃ c1, f201_addWhole N h b 132 p (Int32.ofNat m) c = some (zb ((c 132 2).toNatClampNeg + m ≤ 32), c1) ∧ (∀ q, q ≠ 132 → q ≠ 133 → c1 q = c q) ∧ (∀ i, i ≠ 2 → c1 132 i = c 132 i) ∧ ((c 132 2).toNatClampNeg + m ≤ 32 → c1 132 2 = Int32.ofNat ((c 132 2).toNatClampNeg + m) ∧ RB c1 132 32 (fun i => if i < (c 132 2).toNatClampNeg then f i else B (i - (c 132 2).toNatClampNeg))) ∧ (¬ (c 132 2).toNatClampNeg + m ≤ 32 → c1 = c) := by
  unfold f201_addWhole
  have e133 : xl h b (132 + 1) = 32 := rfl
  obtain ⟨k1, k2, k3, k4, k5⟩ := hB
  obtain ⟨fs, _, f2, f3⟩ := i_nat k1
  obtain ⟨ln, _, l2, l3⟩ := i_nat k3
  rw [f3] at k2
  rw [l3] at k4
  have mm : m < 2 ^ 31 := by omega
  rw [xg_pos (show xk 132 = 1 from rfl), xg_pos hk, e133, l3]
  have e1 : (Int32.ofNat 32 - c 132 2 < Int32.ofNat m) = ¬ (ln + m ≤ 32) := by
    rw [l2, ← Int32.ofNat_sub _ _ k4, i_lt (by omega) (by omega)]
    apply propext; omega
  by_cases z : ln + m ≤ 32
  · rw [if_neg (by rw [e1]; exact fun n => n z), if_pos (by rw [i_le (by omega) hm2]; exact hm), zb_t z]
    obtain ⟨a', q1, q2⟩ := lp_up (L := l201_24 N h b 132 p (Int32.ofNat m)) (hi := m) (out := fun a => (0, a)) (P := fun j a => (∀ q, q ≠ 133 → a q = c q) ∧ (∀ i, i < ln → a 133 ((fs + i) % 32) = c 133 ((fs + i) % 32)) ∧ ∀ i, i < j → a 133 ((fs + ln + i) % 32) = B i)
      (fun n j a h1 h2 => by
        have t1 : a 132 1 = Int32.ofNat fs := by rw [h1.1 132 (by decide)]; exact f2
        have t2 : a 132 2 = Int32.ofNat ln := by rw [h1.1 132 (by decide)]; exact l2
        have t3 : a p j = B j := by rw [h1.1 p hp.2]; exact hb j h2
        have t4 : (Int32.ofNat fs + Int32.ofNat ln + Int32.ofNat j) - (Int32.ofNat fs + Int32.ofNat ln + Int32.ofNat j) / Int32.ofNat 32 * Int32.ofNat 32 = Int32.ofNat ((fs + ln + j) % 32) := by
          rw [← Int32.ofNat_add, ← Int32.ofNat_add, i_modn (by omega) (by decide)]
        have t5 := Nat.mod_lt (fs + ln + j) (show 0 < 32 by decide)
        rw [l201_24, if_neg (by rw [i_le (by omega) (by omega)]; omega), e133, xg_pos (by decide), xg_pos (g_ix (by omega) (by omega)), t1, t2, t4, xg_pos (g_ix t5 (by decide)), i_cl (by omega), i_cl (by omega), t3, on_s]
        refine ⟨_, rfl, fun q hq => by rw [xU_o hq]; exact h1.1 q hq, fun i hi => ?_, fun i hi => ?_⟩
        · rw [xU_s (by rw [mod2 (by omega), mod2 (by omega)]; grind)]; exact h1.2.1 i hi
        · by_cases u : i = j
          · subst u; rw [xU_e]
          · rw [xU_s (by rw [mod2 (by omega), mod2 (by omega)]; grind)]; exact h1.2.2 i (by omega))
      (fun n a h1 => by rw [l201_24, if_pos (by rw [i_le (by omega) (by omega)]; omega)])
      m 0 N c (by omega) (by omega) ⟨fun _ _ => rfl, fun _ _ => rfl, fun i hi => absurd hi (Nat.not_lt_zero i)⟩
    have q1' : l201_24 N h b 132 p (Int32.ofNat m) N 0 c = some (0, a') := q1
    rw [q1']
    have t2 : a' 132 2 + Int32.ofNat m = Int32.ofNat (ln + m) := by rw [q2.1 132 (by decide), l2, Int32.ofNat_add]
    refine ⟨_, rfl, fun q h1 h2 => ?_, fun i hi => ?_, fun _ => ⟨?_, ?_⟩, fun n => absurd z n⟩
    · dsimp only; rw [xU_o h1]; exact q2.1 q h2
    · dsimp only; rw [xU_s hi, q2.1 132 (by decide)]
    · dsimp only; rw [xU_e, t2]
    · dsimp only
      rw [t2]
      unfold RB
      rw [xU_s (by decide), xU_e, xU_o (by decide), q2.1 132 (by decide), f3, i_cl (by omega), i_neg_le (by omega)]
      refine ⟨k1, k2, trivial, z, fun i hi => ?_⟩
      show a' 133 ((fs + i) % 32) = if i < ln then f i else B (i - ln)
      by_cases u : i < ln
      · rw [if_pos u, q2.2.1 i u, ← k5 i (by rw [l3]; exact u), f3]
      · rw [if_neg u]
        have := q2.2.2 (i - ln) (by omega)
        rw [show fs + ln + (i - ln) = fs + i by omega] at this
        exact this
  · rw [if_pos (by rw [e1]; exact z), zb_f z]
    exact ⟨c, rfl, fun _ _ _ => rfl, fun _ _ => rfl, fun n => absurd n z, fun _ => rfl⟩
/-- the reference's answer: whole, or nothing -/
theorem e_an {m ln : Nat} {L : List Int32} (hN : 100000 ≤ N) (hl : r 157 87 = Int32.ofNat ln) (hln : ln ≤ 32) (h89 : r 157 89 = Int32.ofNat m) (hm : m ≤ 32) : ∃ r1, f381_answer N h b r = some (zb (ln + m ≤ 32), r1) ∧ (∀ q, q ≠ 157 → q ≠ 188 → r1 q = r q) ∧ (∀ i, i ≠ 87 → i ≠ 89 → r1 157 i = r 157 i) ∧ r1 157 89 = 0 ∧ r1 157 87 = Int32.ofNat (if ln + m ≤ 32 then ln + m else ln) ∧ (∀ i, r1 188 i = if ln + m ≤ 32 ∧ ln ≤ i ∧ i < ln + m then vp_nar .byte ((r 189 (i - ln)).toInt8.toInt32) else r 188 i) := by
  unfold f381_answer j381_66
  have e1 : (32 < r 157 87 + r 157 89) = ¬ (ln + m ≤ 32) := by
    rw [hl, h89, ← Int32.ofNat_add, show (32 : Int32) = Int32.ofNat 32 from rfl, i_lt (by omega) (by omega)]
    apply propext; omega
  have e2 : (if 32 < r 157 87 + r 157 89 then (0 : Int32) else 1) = zb (ln + m ≤ 32) := by
    simp only [zi01, e1, Decidable.not_not]
  rw [e2]
  by_cases z : ln + m ≤ 32
  · rw [zb_t z, if_pos z]
    obtain ⟨a', q1, q2⟩ := lp_up (L := l381_22 N h b 1) (hi := m) (out := fun a => (0, a)) (P := fun j a => (∀ q, q ≠ 157 → q ≠ 188 → a q = r q) ∧ (∀ i, i ≠ 87 → a 157 i = r 157 i) ∧ a 157 87 = Int32.ofNat (ln + j) ∧ ∀ i, a 188 i = if ln ≤ i ∧ i < ln + j then vp_nar .byte ((r 189 (i - ln)).toInt8.toInt32) else r 188 i)
      (fun n j a h1 h2 => by
        have t1 : a 157 89 = Int32.ofNat m := by rw [h1.2.1 89 (by decide)]; exact h89
        rw [l381_22, t1, if_neg (by rw [i_le (by omega) (by omega)]; omega), if_neg (by decide), xg_pos (g_ix (by omega) (by decide)), h1.2.2.1, xg_pos (g_ix (by omega) (by decide)), i_cl (by omega), i_cl (by omega), h1.1 189 (by decide) (by decide), on_s]
        refine ⟨_, rfl, fun q u1 u2 => by rw [xU_o u1, xU_o u2]; exact h1.1 q u1 u2, fun i hi => by rw [xU_s hi, xU_o (by decide)]; exact h1.2.1 i hi, ?_, fun i => ?_⟩
        · rw [xU_e, xU_o (by decide), h1.2.2.1, on_s]; rfl
        · rw [xU_o (show 188 ≠ 157 by decide), xU_eq, h1.2.2.2 i]
          by_cases u : i = ln + j
          · rw [if_pos ⟨rfl, u⟩, if_pos (by omega), u, Nat.add_sub_cancel_left]
          · rw [if_neg (fun n => u n.2)]
            by_cases w : ln ≤ i ∧ i < ln + j
            · rw [if_pos w, if_pos (by omega)]
            · rw [if_neg w, if_neg (by omega)])
      (fun n a h1 => by rw [l381_22, h1.2.1 89 (by decide), h89, if_pos (by rw [i_le (by omega) (by omega)]; omega)])
      m 0 N r (by omega) (by omega) ⟨fun _ _ _ => rfl, fun _ _ => rfl, hl, fun i => by rw [if_neg (by omega)]⟩
    have q1' : l381_22 N h b 1 N 0 r = some (0, a') := q1
    rw [q1']
    refine ⟨_, rfl, fun q h1 h2 => by rw [xU_o h1]; exact q2.1 q h1 h2, fun i h1 h2 => by rw [xU_s h2]; exact q2.2.1 i h1, by rw [xU_e], by rw [xU_s (by decide)]; exact q2.2.2.1, fun i => ?_⟩
    rw [xU_o (by decide)]
    show a' 188 i = _
    rw [q2.2.2.2 i]
    by_cases w : ln ≤ i ∧ i < ln + m
    · rw [if_pos w, if_pos ⟨z, w⟩]
    · rw [if_neg w, if_neg (fun n => w n.2)]
  · rw [zb_f z, if_neg z]
    have q1 : l381_22 N h b 0 N 0 r = some (0, r) := by
      obtain ⟨n, rfl⟩ : ∃ n, N = n + 1 := ⟨N - 1, by omega⟩
      rw [l381_22]
      by_cases u : r 157 89 ≤ 0
      · rw [if_pos u]
      · rw [if_neg u, if_pos rfl]
    rw [q1]
    refine ⟨_, rfl, fun q h1 h2 => by rw [xU_o h1], fun i h1 h2 => by rw [xU_s h2], by rw [xU_e], by rw [xU_s (by decide)]; exact hl, fun i => ?_⟩
    rw [xU_o (by decide), if_neg (fun n => z n.1)]
theorem RG_same (hR : RG h b c0 r0 c r) (h1 : ∀ p, 136 ≤ p → p ≤ 140 → c' p = c p) (h2 : ∀ p, 190 ≤ p → p ≤ 192 → r' p = r p) (h3 : ∀ i, gI i ∨ i = 68 ∨ i = 69 → r' 157 i = r 157 i) : RG h b c' r' c' r' := by
  obtain ⟨hf, ⟨Y, X, Tp, Bt, hs⟩, ho, hv, hc⟩ := hR
  exact ⟨Gf_rfl, ⟨Y, X, Tp, Bt, Gs_of hs (fun i1 _ => by rw [h1 136 (by decide) (by decide)]) (fun i1 h1 => h3 i1 (by unfold gI; omega)) (by rw [h2 191 (by decide) (by decide)])⟩, Go_of ho (h1 136 (by decide) (by decide)) (fun i1 h1 => h3 i1 (Or.inl h1)), Gv_of hv (h1 137 (by decide) (by decide)) (fun i1 _ _ _ _ _ => h3 i1 (by unfold gI; omega)), Gc_of hc (h1 138 (by decide) (by decide)) (h1 139 (by decide) (by decide)) (h1 140 (by decide) (by decide)) (h2 190 (by decide) (by decide)) (h2 191 (by decide) (by decide)) (h2 192 (by decide) (by decide))⟩
theorem Ta_of' (H : Ta c r) (h1 : c' 132 = c 132) (h2 : c' 133 = c 133) (h3 : r' 157 87 = r 157 87) (h4 : r' 188 = r 188) : c' 132 2 = r' 157 87 ∧ RB c' 132 32 (fun i => r' 188 i &&& 255) ∧ True ∧ ∀ i, vp_nar .byte (r' 188 i) = r' 188 i := by
  unfold Ta RB at *
  rw [h1, h3, h4]
  refine ⟨H.1, ⟨H.2.1.1, H.2.1.2.1, H.2.1.2.2.1, H.2.1.2.2.2.1, fun i hi => ?_⟩, trivial, H.2.2.2⟩
  show c' 133 _ = _
  rw [h2]
  exact H.2.1.2.2.2.2 i hi
/-- all but that nothing is under way to the answers -/
def RTa (h b : Nat) (c r : xA) : Prop := RG h b c r c r ∧ Tq c r ∧ (c 132 2 = r 157 87 ∧ RB c 132 32 (fun i => r 188 i &&& 255) ∧ ∀ i, vp_nar .byte (r 188 i) = r 188 i) ∧ Ts c r ∧ Tn c r
theorem d_ans {p m : Nat} (hN : 100000 ≤ N) (hT : RTa h b c r) (hk : xk p = 100) (hp : p ≠ 132 ∧ p ≠ 133) (hm : m ≤ xl h b p) (hm2 : xl h b p < 2 ^ 31) (h89 : r 157 89 = Int32.ofNat m) (hm3 : m ≤ 32) (hb : ∀ i, i < m → c p i = r 189 i ∧ By (r 189 i)) : Q2 (f201_addWhole N h b 132 p (Int32.ofNat m) c) (f381_answer N h b r) (fun p q => p.1 = q.1 ∧ RT h b c r p.2 q.2) := by
  obtain ⟨t1, t2, ⟨t3, t4, t5⟩, t6, t7⟩ := hT
  obtain ⟨c1, u1, u2, u3, u4, u5⟩ := e_aw (N := N) (h := h) (b := b) (p := p) (m := m) (B := fun i => r 189 i) hN hk hp hm hm2 t4 (fun i hi => (hb i hi).1)
  have hl := i_ofn t4.2.2.1
  obtain ⟨r1, v1, v2, v3, v4, v5, v6⟩ := e_an (N := N) (h := h) (b := b) (r := r) (m := m) (ln := (c 132 2).toNatClampNeg) (L := []) hN (by rw [← t3]; exact hl.symm) t4.2.2.2.1 h89 hm3
  refine ⟨_, _, u1, v1, rfl, ⟨fun q hq => u2 q (by omega) (by omega), fun q h1 h2 => v2 q h1 (by omega), fun i hi => v3 i (fun n => hi (by unfold tI; omega)) (fun n => hi (by unfold tI; omega))⟩, RG_same t1 (fun q h1 h2 => u2 q (by omega) (by omega)) (fun q h1 h2 => v2 q (by omega) (by omega)) (fun i hi => v3 i (fun n => by unfold gI at hi; omega) (fun n => by unfold gI at hi; omega)), Tq_of t2 (u2 _ (by decide) (by decide)) (u2 _ (by decide) (by decide)) (v3 _ (by decide) (by decide)) (v2 _ (by decide) (by decide)), ⟨?_, ?_, v4, fun i => ?_⟩, Ts_of t6 (fun i _ _ => by dsimp only; rw [u2 129 (by decide) (by decide)]) (fun i hi => v3 i (by omega) (by omega)) (by dsimp only; rw [u2 130 (by decide) (by decide)]), Tn_of t7 (u2 _ (by decide) (by decide)) (fun i hi => v3 i (by omega) (by omega)) (u2 _ (by decide) (by decide)) (v2 _ (by decide) (by decide))⟩
  · dsimp only
    rw [v5]
    by_cases z : (c 132 2).toNatClampNeg + m ≤ 32
    · rw [if_pos z]; exact (u4 z).1
    · rw [if_neg z, u5 z, hl]
  · dsimp only
    by_cases z : (c 132 2).toNatClampNeg + m ≤ 32
    · have k := (u4 z).2
      have kl := (u4 z).1
      unfold RB at k ⊢
      refine ⟨k.1, k.2.1, k.2.2.1, k.2.2.2.1, fun i hi => ?_⟩
      rw [k.2.2.2.2 i hi]
      rw [kl, i_cl (by omega)] at hi
      dsimp only
      rw [v6 i]
      by_cases w : i < (c 132 2).toNatClampNeg
      · rw [if_pos w, if_neg (by omega)]
      · rw [if_neg w, if_pos (by omega), by8n, sb (hb _ (by omega)).2]
    · rw [u5 z]
      unfold RB at t4 ⊢
      refine ⟨t4.1, t4.2.1, t4.2.2.1, t4.2.2.2.1, fun i hi => ?_⟩
      rw [t4.2.2.2.2 i hi]
      dsimp only
      rw [v6 i, if_neg (fun n => z n.1)]
  · dsimp only
    rw [v6 i]
    by_cases w : (c 132 2).toNatClampNeg + m ≤ 32 ∧ (c 132 2).toNatClampNeg ≤ i ∧ i < (c 132 2).toNatClampNeg + m
    · rw [if_pos w, by8n, by8n]
    · rw [if_neg w]; exact t5 i
theorem RT_tr {c1 r1 : xA} (h1 : Tff c0 r0 c r) (h2 : RT h b c r c1 r1) : RT h b c0 r0 c1 r1 := by
  obtain ⟨g, k⟩ := h2
  exact ⟨⟨fun p hp => (g.1 p hp).trans (h1.1 p hp), fun p hp hq => (g.2.1 p hp hq).trans (h1.2.1 p hp hq), fun i hi => (g.2.2 i hi).trans (h1.2.2 i hi)⟩, k⟩
/-- the bytes of an answer are laid down on both sides -/
theorem RT_a {a a' : xA} {L : List Int32} (hT : RT h b c0 r0 c r) (hC : Cp 134 c a L) (hR : Rp r a' L) : RTa h b a a' ∧ Tff c0 r0 a a' := by
  obtain ⟨t1, t2, t3, t4, t5, t6⟩ := hT
  have cc : ∀ q, q ≠ 134 → a q = c q := hC.1
  have r1 := hR.1
  have r2 := hR.2.1
  obtain ⟨k1, k2, k3, k4⟩ := Ta_of' (c' := a) (r' := a') t4 (cc _ (by decide)) (cc _ (by decide)) (r2 _ (by decide)) (r1 _ (by decide) (by decide))
  refine ⟨⟨RG_same t2 (fun q h1 h2 => cc q (by omega)) (fun q h1 h2 => r1 q (by omega) (by omega)) (fun i hi => r2 i (fun n => by unfold gI at hi; omega)), Tq_of t3 (cc _ (by decide)) (cc _ (by decide)) (r2 _ (by decide)) (r1 _ (by decide) (by decide)), ⟨k1, k2, k4⟩, Ts_of t5 (fun i _ _ => by rw [cc 129 (by decide)]) (fun i hi => r2 i (by omega)) (by rw [cc 130 (by decide)]), Tn_of t6 (cc _ (by decide)) (fun i hi => r2 i (by omega)) (cc _ (by decide)) (r1 _ (by decide) (by decide))⟩, ⟨fun q hq => ?_, fun q h1 h2 => ?_, fun i hi => ?_⟩⟩
  · rw [cc q (by omega)]; exact t1.1 q hq
  · rw [r1 q h1 (by omega)]; exact t1.2.1 q h1 h2
  · rw [r2 i (fun n => hi (by unfold tI; omega))]; exact t1.2.2 i hi
/-- a whole answer -/
theorem d_say2 {a a' : xA} {L : List Int32} {m : Nat} (hN : 100000 ≤ N) (hT : RT h b c0 r0 c r) (hC : Cp 134 c a L) (hR : Rp r a' L) (hm : L.length = m) (hl : m ≤ 32) (hb : ∀ i, i < m → By (L.getD i 0)) : Q2 (xb2 (f201_addWhole N h b 132 134 (Int32.ofNat m) a) (fun _ a => some a)) (xb2 (f381_answer N h b a') (fun _ a => some a)) (fun p q => RT h b c0 r0 p q) := by
  obtain ⟨k1, k2⟩ := RT_a hT hC hR
  subst hm
  refine q_bs (d_ans (p := 134) hN k1 rfl (by decide) (show _ ≤ 32 from hl) (show 32 < 2 ^ 31 by decide) hR.2.2.1 hl (fun i hi => ?_)) (fun v c1 r1 h1 => q_ok1 (RT_tr k2 h1))
  rw [hC.2 i hi, hR.2.2.2 i hi]
  exact ⟨rfl, hb i hi⟩
end T
