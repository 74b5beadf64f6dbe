/-! The tape: feed, end, octet. -/
theorem sh_g {w A B : Int32} (k : Nat) (hk : k ≤ 24) (e2 : A.toBitVec = w.toBitVec >>> k) (e1 : B.toBitVec = w.toBitVec.sshiftRight k) : (A &&& 255).toInt8 = B.toInt8 := by
  apply Int8.toBitVec_inj.mp
  apply BitVec.eq_of_getLsbD_eq
  intro i hi
  have e3 : (255 : Int32).toBitVec = 255#32 := rfl
  have e4 : (255#32).getLsbD i = true := by
    rw [BitVec.getLsbD_ofNat]
    have : i = 0 ∨ i = 1 ∨ i = 2 ∨ i = 3 ∨ i = 4 ∨ i = 5 ∨ i = 6 ∨ i = 7 := by omega
    rcases this with q | q | q | q | q | q | q | q <;> subst q <;> rfl
  rw [Int32.toBitVec_toInt8, Int32.toBitVec_toInt8, BitVec.getLsbD_signExtend, BitVec.getLsbD_signExtend, Int32.toBitVec_and, e1, e2, e3, BitVec.getLsbD_and, BitVec.getLsbD_sshiftRight, BitVec.getLsbD_ushiftRight, e4]
  rw [if_pos (show i < 32 by omega), if_pos (show i < 32 by omega), if_pos (show k + i < 32 by omega)]
  simp [show i < 32 by omega, show ¬ 32 ≤ i by omega]
section T
variable {N h b : Nat} {c0 r0 c r : xA} {x y : Int32}
/-- so many of twenty bytes are fed -/
def FR (c0 r0 : xA) (T k : Nat) (c r : xA) : Prop := T + 20 ≤ 3000 ∧ k ≤ 20 ∧ c 0 1 = Int32.ofNat (T + k) ∧ r 157 2 = Int32.ofNat T ∧ (∀ i, By (c 1 i) ∧ r 158 i = (c 1 i).toInt8.toInt32) ∧ (∀ p, p ≠ 0 → p ≠ 1 → c p = c0 p) ∧ (∀ i, i ≠ 1 → c 0 i = c0 0 i) ∧ (∀ p, p ≠ 158 → r p = r0 p)
theorem fd_1 {T k n m : Nat} {w s w1 w2 w3 w4 w5 : Int32} (hR : FR c0 r0 T k c r) (hk : k < 20) (hs : 0 ≤ s)
    (hsel : (if 4 ≤ Int32.ofNat k then (if 8 ≤ Int32.ofNat k then (if 12 ≤ Int32.ofNat k then (if 16 ≤ Int32.ofNat k then w5 else w4) else w3) else w2) else w1) = w)
    (hb : ((w.toUInt32 >>> (s.toUInt32 &&& Int32.toUInt32 31)).toInt32 &&& 255).toInt8 = (w >>> ((8 * (3 - (Int32.ofNat k - Int32.ofNat k / 4 * 4))) &&& 31)).toInt8) :
    ∃ c1 r1, l20_3 N h b w (n + 1) s c = l20_3 N h b w n (s + (-8)) c1 ∧ l261_23 N h b w1 w2 w3 w4 w5 (m + 1) (Int32.ofNat k) r = l261_23 N h b w1 w2 w3 w4 w5 m (Int32.ofNat (k + 1)) r1 ∧ FR c0 r0 T (k + 1) c1 r1 := by
  obtain ⟨a1, a2, a3, a4, a5, a6, a7, a8⟩ := hR
  have e3 : (3000 : Int32) = Int32.ofNat 3000 := rfl
  have e20 : (20 : Int32) = Int32.ofNat 20 := rfl
  have ek : ∀ j : Nat, Int32.ofNat j + 1 = Int32.ofNat (j + 1) := fun j => by rw [Int32.ofNat_add]; rfl
  have g : ∀ j : Nat, j < 3000 → ¬ (Int32.ofNat j < 0 ∨ 3000 ≤ (Int32.ofNat j).toNatClampNeg) := fun j hj => by
    rw [i_neg (by omega), i_cl (by omega)]
    rintro (q | q)
    · exact q
    · omega
  rw [l20_3, l261_23, if_neg (Int32.not_lt.mpr hs), a3, if_neg (by rw [e3, i_le (by decide) (by omega)]; omega), xg_pos (g _ (by omega)), if_neg (by rw [e20, i_le (by decide) (by omega)]; omega), a4, ← Int32.ofNat_add, xg_pos (g _ (by omega)), hsel, ek, i_cl (by omega), by8n, ← hb]
  unfold xw
  dsimp only
  refine ⟨_, _, rfl, rfl, a1, by omega, ?_, ?_, fun i => ?_, fun p h1 h2 => ?_, fun i hi => ?_, fun p hp => ?_⟩
  · rw [xU_e, xU_o (by decide), a3, ek, Nat.add_assoc]
  · rw [xU_o (by decide), a4]
  · rw [xU_o (by decide), xU_eq, xU_eq]
    by_cases z : i = T + k
    · rw [if_pos ⟨rfl, z⟩, if_pos ⟨rfl, z⟩]
      exact ⟨byx _, rfl⟩
    · rw [if_neg (fun q => z q.2), if_neg (fun q => z q.2)]
      exact a5 i
  · rw [xU_o h1, xU_o h2, a6 p h1 h2]
  · rw [xU_s hi, xU_o (by decide), a7 i hi]
  · rw [xU_o hp, a8 p hp]
theorem fd_4 {T k n : Nat} {w w1 w2 w3 w4 w5 : Int32} (hN : 100000 ≤ N) (hR : FR c0 r0 T k c r) (hk : k + 4 ≤ 20)
    (hsel : ∀ i, i < 4 → (if 4 ≤ Int32.ofNat (k + i) then (if 8 ≤ Int32.ofNat (k + i) then (if 12 ≤ Int32.ofNat (k + i) then (if 16 ≤ Int32.ofNat (k + i) then w5 else w4) else w3) else w2) else w1) = w)
    (h0 : (8 * (3 - (Int32.ofNat k - Int32.ofNat k / 4 * 4))) &&& 31 = 24) (h1 : (8 * (3 - (Int32.ofNat (k + 1) - Int32.ofNat (k + 1) / 4 * 4))) &&& 31 = 16) (h2 : (8 * (3 - (Int32.ofNat (k + 2) - Int32.ofNat (k + 2) / 4 * 4))) &&& 31 = 8) (h3 : (8 * (3 - (Int32.ofNat (k + 3) - Int32.ofNat (k + 3) / 4 * 4))) &&& 31 = 0) :
    ∃ c1 r1, f20_feedFour N h b w c = some c1 ∧ l261_23 N h b w1 w2 w3 w4 w5 (n + 4) (Int32.ofNat k) r = l261_23 N h b w1 w2 w3 w4 w5 n (Int32.ofNat (k + 4)) r1 ∧ FR c0 r0 T (k + 4) c1 r1 := by
  obtain ⟨n0, rfl⟩ : ∃ n0, N = n0 + 1 + 1 + 1 + 1 + 1 := ⟨N - 5, by omega⟩
  obtain ⟨c1, r1, t1, u1, v1⟩ := fd_1 (N := n0 + 1 + 1 + 1 + 1 + 1) (h := h) (b := b) (n := n0 + 1 + 1 + 1 + 1) (m := n + 3) (s := 24) hR (by omega) (by decide) (hsel 0 (by decide)) (by rw [h0]; exact sh_g 24 (by decide) rfl rfl)
  obtain ⟨c2, r2, t2, u2, v2⟩ := fd_1 (N := n0 + 1 + 1 + 1 + 1 + 1) (h := h) (b := b) (n := n0 + 1 + 1 + 1) (m := n + 2) (s := 16) v1 (by omega) (by decide) (hsel 1 (by decide)) (by rw [h1]; exact sh_g 16 (by decide) rfl rfl)
  obtain ⟨c3, r3, t3, u3, v3⟩ := fd_1 (N := n0 + 1 + 1 + 1 + 1 + 1) (h := h) (b := b) (n := n0 + 1 + 1) (m := n + 1) (s := 8) v2 (by omega) (by decide) (hsel 2 (by decide)) (by rw [h2]; exact sh_g 8 (by decide) rfl rfl)
  obtain ⟨c4, r4, t4, u4, v4⟩ := fd_1 (N := n0 + 1 + 1 + 1 + 1 + 1) (h := h) (b := b) (n := n0 + 1) (m := n) (s := 0) v3 (by omega) (by decide) (hsel 3 (by decide)) (by rw [h3]; exact sh_g 0 (by decide) rfl rfl)
  refine ⟨c4, r4, ?_, ?_, v4⟩
  · unfold f20_feedFour
    rw [t1]
    have q1 : (24 : Int32) + (-8) = 16 := rfl
    have q2 : (16 : Int32) + (-8) = 8 := rfl
    have q3 : (8 : Int32) + (-8) = 0 := rfl
    rw [q1, t2, q2, t3, q3, t4, l20_3, if_pos (by decide)]
    rfl
  · show l261_23 _ h b w1 w2 w3 w4 w5 (n + 3 + 1) (Int32.ofNat k) r = _
    rw [u1]
    show l261_23 _ h b w1 w2 w3 w4 w5 (n + 2 + 1) (Int32.ofNat (k + 1)) r1 = _
    rw [u2]
    show l261_23 _ h b w1 w2 w3 w4 w5 (n + 1 + 1) (Int32.ofNat (k + 1 + 1)) r2 = _
    rw [u3]
    exact u4
/-- what feed and end may change -/
def Tf (c0 r0 c r : xA) : Prop := (∀ p, p ≠ 0 → p ≠ 1 → c p = c0 p) ∧ (∀ i, i ≠ 1 → c 0 i = c0 0 i) ∧ (∀ p, p ≠ 157 → p ≠ 158 → r p = r0 p) ∧ (∀ i, i ≠ 0 → i ≠ 2 → r 157 i = r0 157 i)
theorem t_feed {x0 x1 x2 x3 x4 : Int32} (hN : 100000 ≤ N) (ht : Rt c r) : Q2 (f19_feed N h b x0 x1 x2 x3 x4 c) (f261_feed N h b x0 x1 x2 x3 x4 r) (fun p q => p.1 = q.1 ∧ Rt p.2 q.2 ∧ Tf c r p.2 q.2) := by
  have ht' := ht
  obtain ⟨k1, k2, k3, k4⟩ := ht
  unfold f19_feed f261_feed
  refine q_wr.mpr ?_
  have e2 : xU r 157 0 0 157 2 = c 0 1 := by rw [xU_s (by decide), k1]
  rw [e2]
  have f0 : Tf c r c (xU r 157 0 0) := ⟨fun _ _ _ => rfl, fun _ _ => rfl, fun p h1 h2 => xU_o h1, fun i h1 h2 => xU_s h1⟩
  refine q_il.mpr ⟨fun z => q_pr z ?_, fun z => q_nr z (q_some.mpr ⟨rfl, ⟨k1, k2, k3, k4⟩, f0⟩)⟩
  obtain ⟨T, hT, eT, fT⟩ := i_nat k2
  have lT : T + 20 ≤ 3000 := by
    have e3 : (3000 : Int32) = Int32.ofNat 3000 := rfl
    have e20 : (20 : Int32) = Int32.ofNat 20 := rfl
    have := cl_le (n := 3000) k3 rfl
    rw [eT, e20, ← Int32.ofNat_add, e3, i_le (by omega) (by decide)] at z
    exact z
  have R0 : FR c (xU r 157 0 0) T 0 c (xU r 157 0 0) := ⟨lT, by decide, eT, by rw [e2, eT], k4, fun _ _ _ => rfl, fun _ _ => rfl, fun _ _ => rfl⟩
  obtain ⟨n0, rfl⟩ : ∃ n0, N = n0 + 1 + 4 + 4 + 4 + 4 + 4 := ⟨N - 21, by omega⟩
  obtain ⟨c1, r1, t1, u1, v1⟩ := fd_4 (h := h) (b := b) (n := n0 + 1 + 4 + 4 + 4 + 4) (w := x0) (w1 := x0) (w2 := x1) (w3 := x2) (w4 := x3) (w5 := x4) hN R0 (by decide) (fun i hi => by rcases (show i = 0 ∨ i = 1 ∨ i = 2 ∨ i = 3 by omega) with q | q | q | q <;> subst q <;> rfl) rfl rfl rfl rfl
  obtain ⟨c2, r2, t2, u2, v2⟩ := fd_4 (h := h) (b := b) (n := n0 + 1 + 4 + 4 + 4) (w := x1) (w1 := x0) (w2 := x1) (w3 := x2) (w4 := x3) (w5 := x4) hN v1 (by decide) (fun i hi => by rcases (show i = 0 ∨ i = 1 ∨ i = 2 ∨ i = 3 by omega) with q | q | q | q <;> subst q <;> rfl) rfl rfl rfl rfl
  obtain ⟨c3, r3, t3, u3, v3⟩ := fd_4 (h := h) (b := b) (n := n0 + 1 + 4 + 4) (w := x2) (w1 := x0) (w2 := x1) (w3 := x2) (w4 := x3) (w5 := x4) hN v2 (by decide) (fun i hi => by rcases (show i = 0 ∨ i = 1 ∨ i = 2 ∨ i = 3 by omega) with q | q | q | q <;> subst q <;> rfl) rfl rfl rfl rfl
  obtain ⟨c4, r4, t4, u4, v4⟩ := fd_4 (h := h) (b := b) (n := n0 + 1 + 4) (w := x3) (w1 := x0) (w2 := x1) (w3 := x2) (w4 := x3) (w5 := x4) hN v3 (by decide) (fun i hi => by rcases (show i = 0 ∨ i = 1 ∨ i = 2 ∨ i = 3 by omega) with q | q | q | q <;> subst q <;> rfl) rfl rfl rfl rfl
  obtain ⟨c5, r5, t5, u5, v5⟩ := fd_4 (h := h) (b := b) (n := n0 + 1) (w := x4) (w1 := x0) (w2 := x1) (w3 := x2) (w4 := x3) (w5 := x4) hN v4 (by decide) (fun i hi => by rcases (show i = 0 ∨ i = 1 ∨ i = 2 ∨ i = 3 by omega) with q | q | q | q <;> subst q <;> rfl) rfl rfl rfl rfl
  refine q_l1 t1 (q_l1 t2 (q_l1 t3 (q_l1 t4 (q_l1 t5 ?_))))
  have uL : l261_23 (n0 + 1 + 4 + 4 + 4 + 4 + 4) h b x0 x1 x2 x3 x4 (n0 + 1 + 4 + 4 + 4 + 4 + 4) 0 (xU r 157 0 0) = some (0, r5) := by
    show l261_23 _ h b x0 x1 x2 x3 x4 _ (Int32.ofNat 0) _ = _
    rw [u1, u2, u3, u4, u5, l261_23]
    exact if_pos (by decide)
  refine q_rb uL (q_wr.mpr (q_some.mpr ⟨rfl, ?_, ?_⟩))
  · obtain ⟨a1, a2, a3, a4, a5, a6, a7, a8⟩ := v5
    refine ⟨?_, ?_, ?_, a5⟩
    · dsimp only
      rw [xU_e, a3, a4, Int32.ofNat_add]; rfl
    · dsimp only
      rw [a3, show (0 : Int32) = Int32.ofNat 0 from rfl, i_le (by decide) (by omega)]; omega
    · dsimp only
      rw [a3, show (3000 : Int32) = Int32.ofNat 3000 from rfl, i_le (by omega) (by decide)]; omega
  · obtain ⟨a1, a2, a3, a4, a5, a6, a7, a8⟩ := v5
    refine ⟨a6, a7, fun p h1 h2 => ?_, fun i h1 h2 => ?_⟩
    · dsimp only
      rw [xU_o h1, a8 p h2, xU_o h1]
    · dsimp only
      rw [xU_s h2, a8 157 (by decide), xU_s h1]
theorem t_end (ht : Rt c r) : Q2 (f21_end N h b x c) (f262_end N h b x r) (fun p q => p.1 = q.1 ∧ Rt p.2 q.2 ∧ Tf c r p.2 q.2) := by
  obtain ⟨k1, k2, k3, k4⟩ := ht
  unfold f21_end f262_end
  refine q_wr.mpr ?_
  have e2 : xU r 157 0 0 157 2 = c 0 1 := by rw [xU_s (by decide), k1]
  rw [e2]
  have f0 : Tf c r c (xU r 157 0 0) := ⟨fun _ _ _ => rfl, fun _ _ => rfl, fun p h1 h2 => xU_o h1, fun i h1 h2 => xU_s h1⟩
  refine q_il.mpr ⟨fun z => q_pr z (q_some.mpr ⟨rfl, ⟨k1, k2, k3, k4⟩, f0⟩), fun z1 => q_nr z1 ?_⟩
  refine q_il.mpr ⟨fun z => q_pr z (q_wl.mpr (q_wr.mpr (q_some.mpr ⟨rfl, ⟨?_, ?_, ?_, k4⟩, ?_⟩))), fun z => q_nr z (q_some.mpr ⟨rfl, ⟨k1, k2, k3, k4⟩, f0⟩)⟩
  · dsimp only; rw [xU_e, xU_e]
  · dsimp only; rw [xU_e]; grind
  · dsimp only; rw [xU_e]; grind
  · exact ⟨fun p h1 h2 => by dsimp only; exact xU_o h1, fun i h1 => by dsimp only; exact xU_s h1, fun p h1 h2 => by dsimp only; rw [xU_o h1, xU_o h1], fun i h1 h2 => by dsimp only; rw [xU_s h2, xU_s h1]⟩
end T
