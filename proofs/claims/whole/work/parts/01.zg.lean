/-! The terminal acts; what is to be sent. -/
section T
variable {α β : Type} {Q : α → β → Prop} {N h b : Nat} {c0 r0 c r c' r' : xA} {x y z s v w t t1 t2 u1 u2 : Int32} {j : Nat}
theorem RT_take (hN : 100000 ≤ N) (hT : RT h b c0 r0 c r) (hp : 0 < c 130 2) : ∃ a', l366_151 N h b w N 0 (xU r 157 79 (r 157 79 - 1)) = some (0, a') ∧ RT h b c0 r0 (xU (xU c 130 1 (Int32.ofNat (((c 130 1).toNatClampNeg + 1) % 64))) 130 2 (c 130 2 - 1)) a' ∧ a' 157 83 = r 157 83 ∧ a' 157 79 = c 130 2 - 1 := by
  obtain ⟨q1, q2, q3⟩ := hT.2.2.1
  obtain ⟨k1, k2, k3, k4, k5⟩ := id q2
  obtain ⟨n, hn, en, fn⟩ := i_nat k3
  have hn2 : n ≤ 64 := by rw [← fn]; exact k4
  have hn3 : 0 < n := by rw [en, show (0 : Int32) = Int32.ofNat 0 from rfl, i_lt (by decide) hn] at hp; exact hp
  have em : c 130 2 - 1 = Int32.ofNat (n - 1) := by rw [en, show (1 : Int32) = Int32.ofNat 1 from rfl, ← Int32.ofNat_sub _ _ hn3]
  obtain ⟨b1, b2⟩ := RB_tf (by decide) (by decide) q2 hp
  obtain ⟨a', e1, e2, e3, e4⟩ := e_mv7 (N := N) (h := h) (b := b) (w1 := w) (L := n - 1) (by omega) (n - 1) 0 N (a := xU r 157 79 (r 157 79 - 1)) (by omega) (by omega) (by rw [xU_e, ← q1, em])
  have e79 : a' 157 79 = c 130 2 - 1 := by rw [e2 157 (by decide), xU_e, ← q1]
  refine ⟨a', e1, RT_q hT (fun p h1 h2 => by rw [xU_o h1, xU_o h1]) (fun p h1 h2 => by rw [e2 p h2, xU_o h1]) (fun i hi => by rw [e2 157 (by decide), xU_s hi]) ⟨by rw [xU_e, e79], ?_, fun i => ?_⟩ (fun hq => hT.2.2.2.2.1.2.2.2.2.2.2.2.2.2 ?_), by rw [e2 157 (by decide), xU_s (by decide)], e79⟩
  · unfold RB at b1 ⊢
    refine ⟨b1.1, b1.2.1, b1.2.2.1, b1.2.2.2.1, fun i hi => ?_⟩
    rw [b1.2.2.2.2 i hi]
    rw [xU_e, em, i_cl (by omega)] at hi
    dsimp only
    rw [e3 i (by omega) hi, xU_o (by decide), Nat.add_comm]
  · by_cases l : i < n - 1
    · rw [e3 i (by omega) l, xU_o (by decide)]; exact q3 _
    · rw [e4 i (by omega), xU_o (by decide)]; exact q3 _
  · rw [xU_e] at hq
    grind
theorem d_act {K' : xA → Option α} {K : xA → Option β} (hd : Dim N h b) (hT : RT h b c0 r0 c r) (hK : ∀ c' r', RT h b c0 r0 c' r' → Q2 (K' c') (xb1 (j366_209 N h b r') K) Q) : Q2 (xb1 (f203_act N h b c) K') (xb1 (j366_98 N h b r) K) Q := by
  have e16 : c 136 16 = r 157 81 := hT.2.1.2.2.1.2.2.2.2.2.2.2.2.2.2.2
  have e5 : c 129 5 = r 157 84 := hT.2.2.2.2.1.2.2.1
  have e4 : c 129 4 = r 157 83 := hT.2.2.2.2.1.1
  have e4b : c 129 4 = 0 ∨ c 129 4 = 1 := hT.2.2.2.2.1.2.1
  obtain ⟨q1, q2, q3⟩ := hT.2.2.1
  unfold f203_act j203_68 j366_98 j366_200 j366_201
  simp only [b1_i, b1_2, b1_1, b1_w, b1_some, b1_b, b1_g]
  rw [← e16, ← e5, ← q1]
  by_cases z1 : c 136 16 ≤ 0
  · refine q_pl z1 (q_pr z1 ?_)
    by_cases z2 : c 129 5 = 0
    · refine q_pl z2 (q_pr z2 (q_l2 (e_size rfl) ?_))
      by_cases z3 : c 130 2 ≤ 0
      · exact q_pl z3 (q_pr z3 (hK c r hT))
      refine q_nl z3 (q_nr z3 ?_)
      have hp : 0 < c 130 2 := Int32.not_le.mp z3
      refine q_l2 (e_tf (cap := 64) rfl rfl (by decide) (by decide) q2 hp) ?_
      refine q_l2 (e_size rfl) (q_wr.mpr ?_)
      obtain ⟨a', g1, g2, g3, g4⟩ := RT_take (w := r 187 0) hd.1 hT hp
      rw [← q1] at g1
      rw [g1, Option.bind_some]
      dsimp only
      have g6 : a' 157 83 = 0 ∨ a' 157 83 = 1 := by rw [g3, ← e4]; exact e4b
      have hx : (0 ≤ r 187 0 ∧ r 187 0 ≤ 255) ∨ r 187 0 = 256 := (q3 0).elim (fun q => Or.inl (by_le q)) Or.inr
      have go : ∀ {c1 r1 : xA}, RT h b c0 r0 c1 r1 → Q2 (xb1 (f204_readByte N h b (r 187 0) c1) K') (xb1 (f382_reads N h b (r 187 0) r1) (fun a => xb1 (j366_209 N h b a) K)) Q := fun h1 => q_b11 (d_byte hd h1 hx) (fun c2 r2 h2 => hK c2 r2 h2)
      rw [xU_e]
      by_cases z4 : 16 < c 130 2 - 1
      · refine q_pl z4 ?_
        by_cases z5 : a' 157 83 = 0
        · refine q_pr z5 (q_hr (Or.inl trivial) ?_)
          have e0 : xU a' 157 83 0 = a' := by rw [← z5, xU_self]
          show Q2 _ (xb1 (f382_reads N h b (r 187 0) (xU a' 157 83 0)) _) _
          rw [e0]
          exact go g2
        · refine q_nr z5 ?_
          rw [if_neg (by rw [g4]; grind)]
          refine q_hr (Or.inr rfl) ?_
          have e1 : a' 157 83 = 1 := g6.resolve_left z5
          have e0 : xU a' 157 83 1 = a' := by rw [← e1, xU_self]
          show Q2 _ (xb1 (f382_reads N h b (r 187 0) (xU a' 157 83 1)) _) _
          rw [e0]
          exact go g2
      · refine q_nl z4 (q_wl.mpr ?_)
        have g5 := RT_4 (v := 0) g2 (Or.inl rfl) (by rw [xU_e]; intro q; grind)
        by_cases z5 : a' 157 83 = 0
        · exact q_pr z5 (q_hr (Or.inl trivial) (go g5))
        · refine q_nr z5 ?_
          rw [if_pos (by rw [g4]; grind)]
          exact q_hr (Or.inl rfl) (go g5)
    · exact q_nl z2 (q_nr z2 (hK c r hT))
  · refine q_nl z1 (q_nr z1 (q_wl.mpr (q_wr.mpr ?_)))
    exact hK _ _ (RT_g hT (RG_16 (RT_G hT)))
/-- an answer's byte is taken -/
theorem RT_ansx (hN : 100000 ≤ N) (hT : RT h b c0 r0 c r) (hp : 0 < c 132 2) : ∃ a', l410_107 N h b w N 0 (xU r 157 87 (r 157 87 - 1)) = some (0, a') ∧ RT h b c0 r0 (xU (xU c 132 1 (Int32.ofNat (((c 132 1).toNatClampNeg + 1) % 32))) 132 2 (c 132 2 - 1)) a' := by
  obtain ⟨⟨f1, f2, f3⟩, t2, t3, ⟨q1, q2, q89, q3⟩, t5, t6⟩ := hT
  obtain ⟨k1, k2, k3, k4, k5⟩ := id q2
  obtain ⟨n, hn, en, fn⟩ := i_nat k3
  have hn2 : n ≤ 32 := by rw [← fn]; exact k4
  have hn3 : 0 < n := by rw [en, show (0 : Int32) = Int32.ofNat 0 from rfl, i_lt (by decide) hn] at hp; exact hp
  have em : c 132 2 - 1 = Int32.ofNat (n - 1) := by rw [en, show (1 : Int32) = Int32.ofNat 1 from rfl, ← Int32.ofNat_sub _ _ hn3]
  obtain ⟨b1, b2⟩ := RB_tf (by decide) (by decide) q2 hp
  obtain ⟨a', e1, e2, e3, e4⟩ := e_mv8 (N := N) (h := h) (b := b) (w1 := w) (L := n - 1) (by omega) (n - 1) 0 N (a := xU r 157 87 (r 157 87 - 1)) (by omega) (by omega) (by rw [xU_e, ← q1, em])
  have h1 : ∀ p, p ≠ 132 → xU (xU c 132 1 (Int32.ofNat (((c 132 1).toNatClampNeg + 1) % 32))) 132 2 (c 132 2 - 1) p = c p := fun p hp => by rw [xU_o hp, xU_o hp]
  have h2 : ∀ p, p ≠ 157 → p ≠ 188 → a' p = r p := fun p hp hp2 => by rw [e2 p hp2, xU_o hp]
  have h3 : ∀ i, i ≠ 87 → a' 157 i = r 157 i := fun i hi => by rw [e2 157 (by decide), xU_s hi]
  refine ⟨a', e1, ⟨fun p hp => ?_, fun p hp hp2 => ?_, fun i hi => ?_⟩, RG_same t2 (fun q h4 h5 => h1 q (by omega)) (fun q h4 h5 => h2 q (by omega) (by omega)) (fun i hi => h3 i (by unfold gI at hi; omega)), Tq_of t3 (h1 _ (by decide)) (h1 _ (by decide)) (h3 _ (by decide)) (h2 _ (by decide) (by decide)), ⟨?_, ?_, ?_, fun i => ?_⟩, Ts_of t5 (fun i _ _ => by rw [h1 129 (by decide)]) (fun i hi => h3 i (by omega)) (by rw [h1 130 (by decide)]), Tn_of t6 (h1 _ (by decide)) (fun i hi => h3 i (by omega)) (h1 _ (by decide)) (h2 _ (by decide) (by decide))⟩
  · rw [h1 p (by omega)]; exact f1 p hp
  · rw [h2 p hp (by omega)]; exact f2 p hp hp2
  · unfold tI at hi
    rw [h3 i (by omega)]; exact f3 i hi
  · rw [xU_e, e2 157 (by decide), xU_e, ← q1]
  · unfold RB at b1 ⊢
    refine ⟨b1.1, b1.2.1, b1.2.2.1, b1.2.2.2.1, fun i hi => ?_⟩
    rw [b1.2.2.2.2 i hi]
    rw [xU_e, em, i_cl (by omega)] at hi
    dsimp only
    rw [e3 i (by omega) hi, xU_o (by decide), Nat.add_comm, q3]
  · rw [h3 89 (by decide)]; exact q89
  · by_cases l : i < n - 1
    · rw [e3 i (by omega) l, xU_o (by decide), q3, q3]
    · rw [e4 i (by omega), xU_o (by decide)]; exact q3 _
theorem d_nt19 {T : Int32} (hN : 100000 ≤ N) (hT : RT h b c0 r0 c r) (ht : T = 0 ∨ T = 1) : ∃ v c1 r1, j245_19 N h b T c = some (v, c1) ∧ RT h b c0 r0 c1 r1 ∧ j410_19 N h b T r = j410_135 N h b v r1 ∧ (v = -1 ∨ By v ∧ ¬ v = -1) := by
  have bn : ∀ {v : Int32}, By v → By v ∧ ¬ v = -1 := fun {v} hv => ⟨hv, fun e => by have := (by_le hv).1; rw [e] at this; exact absurd this (by decide)⟩
  obtain ⟨s1, s2, s3, s4, s5, s6, s7, s8, s9, s10⟩ := hT.2.2.2.2.1
  obtain ⟨q1, q2, q89, q3⟩ := hT.2.2.2.1
  have tk : ∃ v c1 r1, (if (c 129 6) = 0 then (xb2 (f172_takeFirst N h b 132 c) (fun r24 a25 => some (r24, a25))) else (some ((-1), c))) = some (v, c1) ∧ RT h b c0 r0 c1 r1 ∧ j410_57 N h b (-1) r = j410_135 N h b v r1 ∧ (v = -1 ∨ By v ∧ ¬ v = -1) := by
    simp only [b2_id]
    unfold j410_57
    rw [if_pos rfl, ← s5, ← q1]
    by_cases z1 : c 129 6 = 0
    · rw [if_pos z1, if_pos z1]
      by_cases z2 : 0 < c 132 2
      · rw [if_neg (Int32.not_le.mpr z2), e_tf (cap := 32) rfl rfl (by decide) (by decide) q2 z2]
        obtain ⟨a', g1, g2⟩ := RT_ansx (w := r 188 0 &&& 255) hN hT z2
        rw [← q1] at g1
        refine ⟨_, _, a', rfl, g2, ?_, Or.inr (bn (byx _))⟩
        show (l410_107 N h b (r 188 0 &&& 255) N 0 (xU r 157 87 (c 132 2 - 1))).bind _ = _
        rw [g1]
        rfl
      · rw [if_pos (Int32.not_lt.mp z2), e_tfn (cap := 32) rfl rfl (by decide) (by decide) q2 z2]
        exact ⟨-1, c, r, rfl, hT, rfl, Or.inl rfl⟩
    · rw [if_neg z1, if_neg z1]
      exact ⟨-1, c, r, rfl, hT, rfl, Or.inl rfl⟩
  rcases s7 with ⟨a1, a2⟩ | ⟨a1, a2⟩ <;> rcases ht with e | e <;> subst e
  · have eA : j245_19 N h b 0 c = some (17, xU c 129 7 0) := by
      unfold j245_19
      rw [if_neg (by rw [a1]; decide), xg_pos (Or.inl rfl)]
      rfl
    have eB : j410_19 N h b 0 r = j410_57 N h b 17 r := by
      unfold j410_19 j410_41
      rw [if_pos rfl, if_pos rfl, if_pos a2]
    have eC : j410_57 N h b 17 r = j410_135 N h b 17 (xU r 157 82 17) := by
      unfold j410_57
      rw [if_neg (by decide)]
      rfl
    exact ⟨17, _, xU r 157 82 17, eA, RT_7 hT (Or.inr ⟨rfl, by decide⟩), eB.trans eC, Or.inr (bn (by decide))⟩
  · have eA : j245_19 N h b 1 c = if (c 129 6) = 0 then (xb2 (f172_takeFirst N h b 132 c) (fun r24 a25 => some (r24, a25))) else (some ((-1), c)) := by
      unfold j245_19
      rw [if_pos a1.symm]
    have eB : j410_19 N h b 1 r = j410_57 N h b (-1) r := by
      unfold j410_19 j410_41
      rw [if_neg (by decide), if_pos a2, if_neg (by decide)]
    rw [eA, eB]
    exact tk
  · have eA : j245_19 N h b 0 c = if (c 129 6) = 0 then (xb2 (f172_takeFirst N h b 132 c) (fun r24 a25 => some (r24, a25))) else (some ((-1), c)) := by
      unfold j245_19
      rw [if_pos a1.symm]
    have eB : j410_19 N h b 0 r = j410_57 N h b (-1) r := by
      unfold j410_19 j410_41
      rw [if_pos rfl, if_pos rfl, if_neg a2]
    rw [eA, eB]
    exact tk
  · have eA : j245_19 N h b 1 c = some (19, xU c 129 7 1) := by
      unfold j245_19
      rw [if_neg (by rw [a1]; decide), xg_pos (Or.inr rfl)]
      rfl
    have eB : j410_19 N h b 1 r = j410_57 N h b 19 r := by
      unfold j410_19 j410_41
      rw [if_neg (by decide), if_neg a2]
    have eC : j410_57 N h b 19 r = j410_135 N h b 19 (xU r 157 82 19) := by
      unfold j410_57
      rw [if_neg (by decide)]
      rfl
    exact ⟨19, _, xU r 157 82 19, eA, RT_7 hT (Or.inl ⟨rfl, rfl⟩), eB.trans eC, Or.inr (bn (by decide))⟩
theorem d_nts (hN : 100000 ≤ N) (hT : RT h b c0 r0 c r) : ∃ v c1 r1, f245_nextToSend N h b c = some (v, c1) ∧ RT h b c0 r0 c1 r1 ∧ f410_answers N h b r = j410_135 N h b v r1 ∧ (v = -1 ∨ By v ∧ ¬ v = -1) := by
  obtain ⟨s1, s2, s3, s4, s5, s6, s7, s8, s9, s10⟩ := hT.2.2.2.2.1
  by_cases z1 : c 129 4 = 0
  · have e1 : f245_nextToSend N h b c = j245_19 N h b (if c 129 5 = 0 then 0 else 1) c := by
      unfold f245_nextToSend j245_19
      rw [if_pos z1]
    have e2 : f410_answers N h b r = j410_19 N h b (if c 129 5 = 0 then 0 else 1) r := by
      unfold f410_answers j410_19
      rw [if_pos (by rw [← s1]; exact z1), s3]
    rw [e1, e2]
    exact d_nt19 hN hT (by split <;> decide)
  · have e1 : f245_nextToSend N h b c = j245_19 N h b 1 c := by
      unfold f245_nextToSend j245_14
      rw [if_neg z1]
    have e2 : f410_answers N h b r = j410_19 N h b 1 r := by
      unfold f410_answers j410_14
      rw [if_neg (by rw [← s1]; exact z1)]
    rw [e1, e2]
    exact d_nt19 hN hT (Or.inr rfl)
end T
