/-! What a sequence does. -/
section T
variable {N h b : Nat} {c0 r0 c r c' r' : xA} {x y s v : Int32} {Y X Tp Bt F E k m : Nat}
theorem e_j {rc : Int32 → xA → Option (Nat × xA)} {w v t : Int32} {a : xA} : j400_101 N h b rc w v t a = xw (xU a 157 98 (if w = 104 then (a 157 98) ||| t else (a 157 98) &&& (t ^^^ (-1)))) (fun a8 => if t = 16 then (xb1 (f384_goes N h b (if w = 104 then (a8 157 95) else (0 : Int32)) 0 a8) (fun a18 => rc (v + 1) a18)) else rc (v + 1) a8) := rfl
theorem d_priv (hd : Dim N h b) (hM : Nm m c r) (hR : RG h b c r c r) : Q2 (f224_turnPrivateModes N h b x c) (f400_privately N h b x r) (fun p q => RG h b c r p q) := by
  have key : ∀ {w : Int32}, (x = 104 ∧ w = 1 ∨ x = 108 ∧ w = 0) → Q2 ((l224_27 N h b w N 0 c).bind (fun z36 => some z36.2)) ((l400_15 N h b x N 0 r).bind (fun z38 => some z38.2)) (fun p q => RG h b c r p q) := by
    intro w hx
    refine d_loop (L1 := l224_27 N h b w) (L2 := l400_15 N h b x) hd hM hR (fun n j c' r' h1 h2 h3 h4 => ?_) (fun n c' r' h1 => ?_)
    · obtain ⟨n1, n2, n3, n4, n5⟩ := h2
      have ho := h1.2.2.1
      unfold Go at ho
      have et : ∀ k y : Int32, (if x = 104 then y ||| k else y &&& (k ^^^ -1)) = trn w k y := by
        intro k y
        unfold trn
        rcases hx with ⟨q1, q2⟩ | ⟨q1, q2⟩ <;> subst q1 <;> subst q2 <;> rfl
      have eu : ∀ {k : Int32} {a : xA}, f216_turn N h b k w a = some (xU a 136 10 (trn w k (a 136 10))) := fun {k a} => rfl
      have hk := fun k => RG_10 (v := trn w k (c' 136 10)) h1
      have K : ∀ k, ¬ k = 16 → Q2 (xb1 (f216_turn N h b k w c') (fun a11 => l224_27 N h b w n (Int32.ofNat (j + 1)) a11)) (j400_101 N h b (l400_15 N h b x n) x (Int32.ofNat j) k r') (fun p q => RG h b c r p.2 q.2) := by
        intro k hk16
        rw [e_j, et, eu, on_s, ← ho.2.2.1]
        exact q_wr.mpr (q_nr hk16 (h4 _ _ (hk k)))
      rw [l224_27, l400_15, n1, n2]
      refine q_nl (by rw [i_le (by omega) (by omega)]; omega) (q_nr (by rw [i_le (by omega) (by omega)]; omega) (q_hl (g_ix (by omega) (by decide)) (q_hr (g_ix (by omega) (by decide)) ?_)))
      rw [i_cl (by omega), (n5 j h3).1]
      unfold j224_159
      simp only [on_s]
      by_cases z1 : r' 193 j = 1
      · exact q_pl z1 (q_pr z1 (K 4 (by decide)))
      refine q_nl z1 (q_nr z1 ?_)
      by_cases z2 : r' 193 j = 5
      · exact q_pl z2 (q_pr z2 (K 8 (by decide)))
      refine q_nl z2 (q_nr z2 ?_)
      by_cases z3 : r' 193 j = 6
      · refine q_pl z3 (q_pr z3 ?_)
        rw [e_j, et, eu, on_s, ← ho.2.2.1]
        refine q_l1 rfl (q_wr.mpr (q_pr rfl ?_))
        have h5 := hk 16
        obtain ⟨hf, ⟨Y, X, Tp, Bt, hs⟩, _⟩ := h1
        obtain ⟨⟨a1, a2, a3, a4⟩, ⟨b1, b2, b3, b4⟩, ⟨d1, d2, d3, d4, d5, d6, d7, d8⟩⟩ := hs
        unfold f225_placeFirst
        rw [e_gh, b2_some]
        have ev : (if zb (¬ (xU c' 136 10 (trn w 16 (c' 136 10))) 136 10 &&& 16 = 0) = 0 then (0 : Int32) else (xU c' 136 10 (trn w 16 (c' 136 10))) 136 8) = (if x = 104 then (xU r' 157 98 (trn w 16 (c' 136 10))) 157 95 else 0) := by
          rw [xU_e, xU_s (by decide), xU_s (by decide), d5, d6]
          rcases hx with ⟨q1, q2⟩ | ⟨q1, q2⟩
          · subst q1; subst q2
            rw [if_pos rfl, zb_t, if_neg (by decide)]
            unfold trn
            rw [if_neg (by decide)]
            intro n
            have e := congrArg (fun v : Int32 => v.toBitVec.getLsbD 4) n
            simp at e
          · subst q1; subst q2
            have e0 : ¬ ¬ trn 0 16 (c' 136 10) &&& 16 = 0 := by
              unfold trn
              rw [if_pos rfl]
              intro n
              apply n
              rw [Int32.and_assoc]
              exact Int32.and_zero
            rw [zb_f e0, if_pos rfl, if_neg (show ¬ (108 : Int32) = 104 by decide)]
        rw [ev, b1_1]
        exact q_b11 (d_place hd h5) (fun c2 r2 h6 => h4 _ _ h6)
      refine q_nl z3 (q_nr z3 ?_)
      by_cases z4 : r' 193 j = 7
      · exact q_pl z4 (q_pr z4 (K 32 (by decide)))
      refine q_nl z4 (q_nr z4 ?_)
      refine q_wr.mpr ?_
      by_cases z5 : r' 193 j = 8
      · rw [if_pos z5, if_pos z5, et]
        refine q_nr (by decide) ?_
        unfold j400_154
        rw [on_s, eu, ← ho.2.2.1]
        exact h4 _ _ (hk 64)
      · rw [if_neg z5, if_neg z5, et]
        refine q_nr (by decide) ?_
        unfold j400_154
        rw [on_s, trn0, xU_self]
        exact h4 _ _ h1
    · constructor
      · rw [l224_27, h1.1, if_pos (by rw [i_le (by have := h1.2.2.2.1; omega) (by have := h1.2.2.2.1; omega)]; omega)]
      · rw [l400_15, h1.2.1, if_pos (by rw [i_le (by have := h1.2.2.2.1; omega) (by have := h1.2.2.2.1; omega)]; omega)]
  unfold f224_turnPrivateModes f400_privately j224_13 j400_13
  by_cases z1 : x = 104
  · refine q_pl z1 (q_pr z1 ?_)
    rw [if_pos z1]
    exact key (Or.inl ⟨z1, rfl⟩)
  refine q_nl z1 (q_nr z1 ?_)
  by_cases z2 : x = 108
  · refine q_pl z2 (q_pr z2 ?_)
    rw [if_neg z1]
    exact key (Or.inr ⟨z2, rfl⟩)
  exact q_nl z2 (q_nr z2 (q_ok1 hR))
end T
