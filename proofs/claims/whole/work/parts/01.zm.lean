/-! Strings: tokens as the class sees them; strings that are well formed. -/
section T
variable {N h b : Nat} {c r : xA} {x y z s v w : Int32} {G : Nat → Int32} {P S row n i f k m p : Nat}
theorem g_S (H : Vw h b P S row n c r G) (hi : i < n) : ¬ (Int32.ofNat (S + i) < 0 ∨ xl h b P ≤ (Int32.ofNat (S + i)).toNatClampNeg) := by
  obtain ⟨⟨a1, a2, a3, a4, a5⟩, _⟩ := H
  exact g_ix (by omega) (by omega)
theorem e_S (H : Vw h b P S row n c r G) (hi : i < n) : c P (Int32.ofNat (S + i)).toNatClampNeg = G i := by
  obtain ⟨⟨a1, a2, a3, a4, a5⟩, a6, a7, _⟩ := H
  rw [i_cl (by omega)]
  exact a7 i hi
theorem e_tdl (H : Vw h b P S row n c r G) (hi : i < n) : ∀ (k m f : Nat) (v : Int32), m + k = 5 → k < f → l58_540 N h b P (Int32.ofNat (S + i)) (Int32.ofNat (S + n)) f v (Int32.ofNat (S + (i + 2 + m))) c = some (0, vl G (dc G k (i + 2 + m)) (i + 2 + m) v, Int32.ofNat (S + (i + 2 + m + dc G k (i + 2 + m))), c)
  | 0, m, f, v, h1, h2 => by
    obtain ⟨⟨a1, a2, a3, a4, a5⟩, _⟩ := id H
    obtain ⟨f, rfl⟩ : ∃ f', f = f' + 1 := ⟨f - 1, by omega⟩
    have : m = 5 := by omega
    subst this
    rw [l58_540]
    by_cases q : Int32.ofNat (S + n) ≤ Int32.ofNat (S + (i + 2 + 5))
    · rw [if_pos q]; rfl
    · rw [if_neg q, o2, o5, if_pos (by rw [i_le (by omega) (by omega)]; omega)]; rfl
  | k + 1, m, f, v, h1, h2 => by
    obtain ⟨⟨a1, a2, a3, a4, a5⟩, _, _, _, a9⟩ := id H
    obtain ⟨f, rfl⟩ : ∃ f', f = f' + 1 := ⟨f - 1, by omega⟩
    rw [l58_540]
    by_cases q : i + 2 + m < n
    · rw [if_neg (by rw [i_le (by omega) (by omega)]; omega), o2, o5, if_neg (by rw [i_le (by omega) (by omega)]; omega), xg_pos (g_S H q), e_S H q]
      by_cases z : 48 ≤ G (i + 2 + m) ∧ G (i + 2 + m) ≤ 57
      · rw [if_neg (by grind), if_neg (by grind), on_s, show S + (i + 2 + m) + 1 = S + (i + 2 + (m + 1)) by omega, e_tdl H hi k (m + 1) f _ (by omega) (by omega)]
        have e1 : dc G (k + 1) (i + 2 + m) = dc G k (i + 2 + m + 1) + 1 := if_pos z
        rw [e1, Int32.mul_comm v 10]
        show some (0, vl G (dc G k (i + 2 + (m + 1))) (i + 2 + (m + 1)) _, Int32.ofNat (S + (i + 2 + (m + 1) + dc G k (i + 2 + (m + 1)))), c) = some (0, vl G (dc G k (i + 2 + m + 1)) (i + 2 + m + 1) _, Int32.ofNat (S + (i + 2 + m + (dc G k (i + 2 + m + 1) + 1))), c)
        rw [show i + 2 + (m + 1) = i + 2 + m + 1 by omega, show i + 2 + m + 1 + dc G k (i + 2 + m + 1) = i + 2 + m + (dc G k (i + 2 + m + 1) + 1) by omega]
      · have e1 : dc G (k + 1) (i + 2 + m) = 0 := if_neg z
        rw [e1]
        by_cases q2 : G (i + 2 + m) < 48
        · rw [if_pos q2]; rfl
        · rw [if_neg q2, if_pos (by grind)]; rfl
    · have e1 : dc G (k + 1) (i + 2 + m) = 0 := if_neg (by rw [a9 _ (by omega)]; decide)
      rw [if_pos (by rw [i_le (by omega) (by omega)]; omega), e1]
      rfl
theorem e_tl (H : Vw h b P S row n c r G) (hi : i < n) (hN : 100000 ≤ N) : f58_tokenLength N h b P (Int32.ofNat (S + i)) (Int32.ofNat (S + n)) c = some (Int32.ofNat (tl G i), c) := by
  obtain ⟨⟨a1, a2, a3, a4, a5⟩, a6, a7, a8, a9⟩ := id H
  unfold f58_tokenLength
  rw [xg_pos a1, if_neg (by rw [i_le (by omega) (by omega)]; omega), xg_pos (g_S H hi), e_S H hi]
  have eL : Int32.ofNat (S + n) - Int32.ofNat (S + i) = Int32.ofNat (n - i) := by
    rw [← Int32.ofNat_sub _ _ (by omega)]
    congr 1
    omega
  rw [eL]
  by_cases z : G i = 37
  · rw [if_pos z]
    by_cases l1 : i + 1 < n
    · rw [if_pos (by rw [show (2 : Int32) = Int32.ofNat 2 from rfl, i_le (by omega) (by omega)]; omega)]
      have e3 : ∀ t : Int32, j58_40 N h b P (Int32.ofNat (S + i)) (Int32.ofNat (S + n)) (Int32.ofNat (n - i)) t c = j58_56 N h b P (Int32.ofNat (S + i)) (Int32.ofNat (S + n)) t (G (i + 3)) c := by
        intro t
        unfold j58_40
        by_cases l3 : i + 3 < n
        · rw [if_neg (by rw [show (3 : Int32) = Int32.ofNat 3 from rfl, i_le (by omega) (by omega)]; omega), o3, show S + i + 3 = S + (i + 3) by omega, xg_pos (g_S H l3), e_S H l3]
        · rw [if_pos (by rw [show (3 : Int32) = Int32.ofNat 3 from rfl, i_le (by omega) (by omega)]; omega), a9 (i + 3) (by omega)]
      have e2 : (if Int32.ofNat (n - i) ≤ 2 then (j58_40 N h b P (Int32.ofNat (S + i)) (Int32.ofNat (S + n)) (Int32.ofNat (n - i)) (-1) c) else (xg (¬ (Int32.ofNat (S + i) + 2 < 0 ∨ xl h b P ≤ (Int32.ofNat (S + i) + 2).toNatClampNeg)) (j58_40 N h b P (Int32.ofNat (S + i)) (Int32.ofNat (S + n)) (Int32.ofNat (n - i)) (c P ((Int32.ofNat (S + i) + 2).toNatClampNeg)) c))) = j58_56 N h b P (Int32.ofNat (S + i)) (Int32.ofNat (S + n)) (G (i + 2)) (G (i + 3)) c := by
        by_cases l2 : i + 2 < n
        · rw [if_neg (by rw [show (2 : Int32) = Int32.ofNat 2 from rfl, i_le (by omega) (by omega)]; omega), o2, show S + i + 2 = S + (i + 2) by omega, xg_pos (g_S H l2), e_S H l2, e3]
        · rw [if_pos (by rw [show (2 : Int32) = Int32.ofNat 2 from rfl, i_le (by omega) (by omega)]; omega), a9 (i + 2) (by omega), e3]
      rw [e2]
      unfold j58_56 j58_499
      rw [on_s, show S + i + 1 = S + (i + 1) by omega, xg_pos (g_S H l1), e_S H l1]
      unfold tl
      rw [if_pos z]
      by_cases z1 : smp (G (i + 1))
      · rw [if_pos z1, if_pos z1]; rfl
      rw [if_neg z1, if_neg z1]
      by_cases z2 : G (i + 1) = 39
      · rw [if_pos z2, if_pos z2]
        split <;> rfl
      rw [if_neg z2, if_neg z2]
      by_cases z3 : G (i + 1) = 48
      · rw [if_pos z3, if_pos z3]
        by_cases y1 : G (i + 2) = 50
        · rw [if_pos y1]
          by_cases y2 : G (i + 3) = 100
          · rw [if_pos y2, if_pos ⟨Or.inl y1, y2⟩]; rfl
          · rw [if_neg y2, if_neg (fun q => y2 q.2)]; rfl
        · rw [if_neg y1]
          by_cases y3 : G (i + 2) = 51
          · rw [if_pos y3]
            by_cases y2 : G (i + 3) = 100
            · rw [if_pos y2, if_pos ⟨Or.inr y3, y2⟩]; rfl
            · rw [if_neg y2, if_neg (fun q => y2 q.2)]; rfl
          · rw [if_neg y3, if_neg (fun q => q.1.elim y1 y3)]; rfl
      rw [if_neg z3, if_neg z3]
      by_cases z4 : G (i + 1) = 50 ∨ G (i + 1) = 51
      · rw [if_pos z4, if_pos z4]
        split <;> rfl
      rw [if_neg z4, if_neg z4]
      by_cases z5 : G (i + 1) = 112
      · rw [if_pos z5, if_pos z5]
        by_cases y1 : G (i + 2) < 49
        · rw [if_pos y1, if_neg (by grind)]; rfl
        · rw [if_neg y1]
          by_cases y2 : 52 < G (i + 2)
          · rw [if_pos y2, if_neg (by grind)]; rfl
          · rw [if_neg y2, if_pos (by grind)]; rfl
      rw [if_neg z5, if_neg z5]
      by_cases z6 : G (i + 1) = 123
      · rw [if_pos z6, if_pos z6]
        have el := e_tdl (N := N) H hi 5 0 N 0 (by omega) (by omega)
        rw [o2, show S + i + 2 = S + (i + 2 + 0) by omega, el, Option.bind_some]
        have dl := dc_le (G := G) 6 (i + 2)
        have dl5 := dc_le (G := G) 5 (i + 2)
        have ds := dc_s (G := G) 5 (i + 2)
        dsimp only
        rw [show i + 2 + 0 = i + 2 by omega]
        have e0 : ∀ q1 q7, j58_630 N h b q1 q7 c = some (0, c) := fun _ _ => by
          unfold j58_630 j58_631
          rw [if_pos rfl]
        unfold j58_595
        rw [e0, o2]
        generalize hd : dc G 6 (i + 2) = d at dl ds ⊢
        generalize hd5 : dc G 5 (i + 2) = d5 at dl5 ds ⊢
        by_cases y0 : d5 = 0
        · have d0 : d = 0 := by
            by_cases q : d ≤ 5
            · have := ds.1 q; omega
            · have := (ds.2 q).1; omega
          rw [if_pos (by rw [i_le (by omega) (by omega)]; omega), if_neg (by omega)]; rfl
        rw [if_neg (by rw [i_le (by omega) (by omega)]; omega)]
        by_cases q : d ≤ 5
        · have ed := ds.1 q
          subst ed
          by_cases y3 : 32767 < vl G d5 (i + 2) 0
          · rw [if_pos y3, if_neg (fun q => absurd q.2.2.1 (Int32.not_le.mpr y3))]; rfl
          rw [if_neg y3]
          by_cases l4 : i + 2 + d5 < n
          · rw [if_neg (by rw [i_le (by omega) (by omega)]; omega), xg_pos (g_S H l4), e_S H l4]
            by_cases y4 : G (i + 2 + d5) = 125
            · rw [if_pos y4, if_neg (show ¬ (1 : Int32) = 0 by decide), if_pos ⟨by omega, by omega, Int32.not_lt.mp y3, y4⟩, on_s, ← Int32.ofNat_sub _ _ (by omega), show S + (i + 2 + d5) + 1 - (S + i) = d5 + 3 by omega]
            · rw [if_neg y4, if_pos rfl, if_neg (fun q => y4 q.2.2.2)]; rfl
          · rw [if_pos (by rw [i_le (by omega) (by omega)]; omega), if_neg (fun q => by rw [a9 _ (by omega)] at q; exact absurd q.2.2.2 (by decide))]; rfl
        · obtain ⟨k1, k2, k3⟩ := ds.2 q
          rw [if_neg (show ¬ (1 ≤ d ∧ d ≤ 5 ∧ _) from fun q2 => q q2.2.1)]
          by_cases y3 : 32767 < vl G d5 (i + 2) 0
          · rw [if_pos y3]; rfl
          rw [if_neg y3]
          by_cases l4 : i + 2 + d5 < n
          · rw [if_neg (by rw [i_le (by omega) (by omega)]; omega), xg_pos (g_S H l4), e_S H l4, k1, if_neg (show ¬ G (i + 2 + 5) = 125 from fun e => by rw [e] at k3; exact absurd k3 (by decide)), if_pos rfl]; rfl
          · rw [if_pos (by rw [i_le (by omega) (by omega)]; omega)]; rfl
      rw [if_neg z6, if_neg z6]; rfl
    · rw [if_neg (by rw [show (2 : Int32) = Int32.ofNat 2 from rfl, i_le (by omega) (by omega)]; omega)]
      have e1 : G (i + 1) = -1 := a9 _ (by omega)
      unfold tl
      rw [if_pos z, e1]
      rfl
  · rw [if_neg z]
    unfold tl
    rw [if_neg z]; rfl
end T
