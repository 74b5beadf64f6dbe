/-! The reader: one field. -/
def srt (a : Nat) : Int32 := if 3 ≤ Int32.ofNat a then (if 6 ≤ Int32.ofNat a then (2 : Int32) else (1 : Int32)) else (0 : Int32)
section T
variable {N h b : Nat} {c0 r0 c r c' r' : xA} {x y z s v w : Int32} {len p i f k m q l a e K n row d th k0 s' : Nat}
/-- an ability is told of: what both write first -/
theorem DC_told (H : DC k0 len q th c0 r0 c r) (ha : a < 39) (hv : ¬ v = 0) : FL k0 c0 r0 (xU c 6 a 1) (xU r 163 (39 * th + a) v) ∧ RV len q (xU c 6 a 1) (xU r 163 (39 * th + a) v) ∧ (∀ e, e < th → EE e (xU c 6 a 1) (xU r 163 (39 * th + a) v)) ∧ CURx th a (xU c 6 a 1) (xU r 163 (39 * th + a) v) ∧ c 3 7 = Int32.ofNat th := by
  obtain ⟨⟨⟨f1, f2, f3, f4, f5, f6, f7, f8, f9⟩, l1, l2, l3⟩, b2, b3, b4, b5, b6, g1, g2, g3, g4, u, u1, u2, u3, u4⟩ := H
  have oc : ∀ p, p ≠ 6 → xU c 6 a 1 p = c p := fun p h1 => xU_o h1
  have or' : ∀ p, p ≠ 163 → xU r 163 (39 * th + a) v p = r p := fun p h1 => xU_o h1
  have o63 : ∀ i, i ≠ 39 * th + a → xU r 163 (39 * th + a) v 163 i = r 163 i := fun i h1 => xU_s h1
  refine ⟨⟨⟨fun p h1 h2 h3 => by rw [oc p (by omega)]; exact f1 p h1 h2 h3, f2, fun p h1 h2 => by rw [or' p (by omega)]; exact f3 p h1 h2, f4, f5, f6, f7, fun i hi => by rw [o63 i (by omega)]; exact f8 i hi, f9⟩, l1, l2, l3⟩, RV_of b2 (fun _ _ _ => rfl) rfl rfl rfl rfl, fun e he => EE_of (b6 e he) (fun p h1 h2 => oc p (by omega)) rfl (fun _ _ _ => rfl) (fun _ _ _ => rfl) (fun i h1 h2 => ⟨o63 i (by omega), rfl, rfl⟩) (fun _ _ _ => rfl), ⟨g1, g2, En_of g3 (by rw [oc _ (by omega)]) (oc _ (by omega)) (oc _ (by omega)) rfl (fun _ _ _ => rfl) (fun _ _ _ => rfl), fun a' ha' => ?_, u, u1, u2, u3, u4⟩, b5⟩
  obtain ⟨k1, k2, k3⟩ := g4 a' ha'
  refine ⟨fun ne => Ea_of k1 (by rw [oc _ (by omega)]) (by rw [oc _ (by omega)]) (o63 _ (by omega)) rfl (fun _ hE => Es_of hE (by rw [oc _ (by omega)]) (fun i _ _ => by rw [oc _ (by omega)]) rfl (fun _ _ _ => rfl)), ?_, ?_⟩
  · by_cases e : a' = a
    · subst e; rw [xU_e]; exact Or.inr rfl
    · rw [xU_s e]; exact k2
  · by_cases e : a' = a
    · subst e
      rw [xU_e, xU_e]
      exact ⟨fun q => absurd q (by decide), fun q => absurd q hv⟩
    · rw [xU_s e, o63 _ (by omega)]; exact k3
theorem CURx_p {q' : Nat} (H : CURx th a c r) : CURx th a (cp c q') (rp r q') := by
  obtain ⟨a1, a2, a3, a4, u, b1, b2, b3, b4⟩ := H
  have oc : ∀ p, p ≠ 3 → cp c q' p = c p := fun p hp => xU_o hp
  refine ⟨by unfold cp; rw [xU_s (by decide)]; exact a1, by unfold rp; rw [xU_s (by decide)]; exact a2, En_of a3 (by rw [oc _ (by omega)]) (oc _ (by omega)) (oc _ (by omega)) rfl (fun _ _ _ => rfl) (fun _ _ _ => rfl), fun a ha => ?_, u, b1, by unfold cp; rw [xU_s (by decide)]; exact b2, by unfold rp; rw [xU_s (by decide)]; exact b3, b4⟩
  obtain ⟨k1, k2, k3⟩ := a4 a ha
  exact ⟨fun ne => Ea_of (k1 ne) (by rw [oc _ (by omega)]) (by rw [oc _ (by omega)]) rfl rfl (fun _ hE => Es_of hE (by rw [oc _ (by omega)]) (fun i _ _ => by rw [oc _ (by omega)]) rfl (fun _ _ _ => rfl)), k2, k3⟩
theorem CURx_E (H : CURx th a c r) (hE : Ea th a c r) : CUR th c r := by
  obtain ⟨a1, a2, a3, a4, a5⟩ := H
  refine ⟨a1, a2, a3, fun a' ha' => ?_, a5⟩
  obtain ⟨k1, k2, k3⟩ := a4 a' ha'
  refine ⟨?_, k2, k3⟩
  by_cases e : a' = a
  · subst e; exact hE
  · exact k1 e
/-- after a number or a string -/
theorem DC_T (hF : FL k0 c0 r0 c r) (hE : ∀ e, e < th → EE e c r) (hC : CURx th a c r) (h7 : c 3 7 = Int32.ofNat th) (hk : k0 ≤ th) (hth : th < 12) (ha : a < 39) (hT : TO th a (39 * th + a) c r c' r') (hV : RV len q c' r') (hEa : Ea th a c' r') : DC k0 len q th c0 r0 c' r' := by
  refine ⟨⟨FD_T hF.1 hT hk hth ha, hT.2.2.2.2.2.2.2.2.2, ?_, ?_⟩, hV, hk, hth, ?_, fun e he => EE_T (hE e he) hT he ha, CUR_T hC hT hth ha hEa⟩
  · rw [hT.2.1 2 (by decide) (by decide), hT.2.2.2.2.2.2.1 13 (by decide) (by decide)]; exact hF.2.2.1
  · rw [hT.2.1 3 (by decide) (by decide), hT.2.2.2.2.2.2.1 14 (by decide) (by decide)]; exact hF.2.2.2
  · rw [hT.2.1 7 (by decide) (by decide)]; exact h7
/-- which sort a sign says -/
theorem sel64 {α : Type} {A B C : α} {s : Int32} (hs : ¬ s = -1) : (if (if (64 : Int32) = 44 then (0 : Int32) else (if (64 : Int32) = 35 then (1 : Int32) else (if (64 : Int32) = 61 then (2 : Int32) else (if (64 : Int32) = 64 then s else (-1 : Int32))))) = (-1) then A else (if (if (64 : Int32) = 44 then (0 : Int32) else (if (64 : Int32) = 35 then (1 : Int32) else (if (64 : Int32) = 61 then (2 : Int32) else (if (64 : Int32) = 64 then s else (-1 : Int32))))) = s then B else C)) = B := by
  rw [if_neg (show ¬ (64 : Int32) = 44 by decide), if_neg (show ¬ (64 : Int32) = 35 by decide), if_neg (show ¬ (64 : Int32) = 61 by decide), if_pos (show (64 : Int32) = 64 from rfl), if_neg hs, if_pos rfl]
theorem sel35 {α : Type} {A B C : α} {s : Int32} : (if (if (35 : Int32) = 44 then (0 : Int32) else (if (35 : Int32) = 35 then (1 : Int32) else (if (35 : Int32) = 61 then (2 : Int32) else (if (35 : Int32) = 64 then s else (-1 : Int32))))) = (-1) then A else (if (if (35 : Int32) = 44 then (0 : Int32) else (if (35 : Int32) = 35 then (1 : Int32) else (if (35 : Int32) = 61 then (2 : Int32) else (if (35 : Int32) = 64 then s else (-1 : Int32))))) = s then B else C)) = if (1 : Int32) = s then B else C := by
  rw [if_neg (show ¬ (35 : Int32) = 44 by decide), if_pos (show (35 : Int32) = 35 from rfl), if_neg (show ¬ (1 : Int32) = -1 by decide)]
theorem sel61 {α : Type} {A B C : α} {s : Int32} : (if (if (61 : Int32) = 44 then (0 : Int32) else (if (61 : Int32) = 35 then (1 : Int32) else (if (61 : Int32) = 61 then (2 : Int32) else (if (61 : Int32) = 64 then s else (-1 : Int32))))) = (-1) then A else (if (if (61 : Int32) = 44 then (0 : Int32) else (if (61 : Int32) = 35 then (1 : Int32) else (if (61 : Int32) = 61 then (2 : Int32) else (if (61 : Int32) = 64 then s else (-1 : Int32))))) = s then B else C)) = if (2 : Int32) = s then B else C := by
  rw [if_neg (show ¬ (61 : Int32) = 44 by decide), if_neg (show ¬ (61 : Int32) = 35 by decide), if_pos (show (61 : Int32) = 61 from rfl), if_neg (show ¬ (2 : Int32) = -1 by decide)]
theorem sel44 {α : Type} {A B C : α} {s : Int32} : (if (if (44 : Int32) = 44 then (0 : Int32) else (if (44 : Int32) = 35 then (1 : Int32) else (if (44 : Int32) = 61 then (2 : Int32) else (if (44 : Int32) = 64 then s else (-1 : Int32))))) = (-1) then A else (if (if (44 : Int32) = 44 then (0 : Int32) else (if (44 : Int32) = 35 then (1 : Int32) else (if (44 : Int32) = 61 then (2 : Int32) else (if (44 : Int32) = 64 then s else (-1 : Int32))))) = s then B else C)) = if (0 : Int32) = s then B else C := by
  rw [if_pos (show (44 : Int32) = 44 from rfl), if_neg (show ¬ (0 : Int32) = -1 by decide)]
theorem selN {α : Type} {A B C : α} {s x : Int32} (y1 : ¬ x = 64) (y2 : ¬ x = 35) (y3 : ¬ x = 61) (y4 : ¬ x = 44) : (if (if x = 44 then (0 : Int32) else (if x = 35 then (1 : Int32) else (if x = 61 then (2 : Int32) else (if x = 64 then s else (-1 : Int32))))) = (-1) then A else (if (if x = 44 then (0 : Int32) else (if x = 35 then (1 : Int32) else (if x = 61 then (2 : Int32) else (if x = 64 then s else (-1 : Int32))))) = s then B else C)) = A := by
  rw [if_neg y4, if_neg y2, if_neg y3, if_neg y1, if_pos rfl]
theorem e163 {K : Int32} (hK : f46_signOf N h b y c = some (K, c)) (hx : ¬ x = 64) : j32_163 N h b x y c = if x = K then j32_188 N h b x y c else xb2 (f26_failed N h b 5 (c 3 6) c) (fun r114 a115 => xg (r114 = 0 ∨ r114 = 1) (some (r114, a115))) := by
  unfold j32_163
  rw [if_neg hx, hK, b2_some]
theorem k64 (ha : a < 39) : j32_188 N h b 64 (Int32.ofNat a) c = xb2 (f43_passComma N h b (xU (xU c 6 a 1) 3 6 ((xU c 6 a 1) 3 6 + 1))) (fun r90 a91 => xg (r90 = 0 ∨ r90 = 1) (some (r90, a91))) := by
  unfold j32_188
  rw [xg_pos (g_ix ha (by omega)), i_cl (show a < 2 ^ 31 by omega)]
  unfold xw
  dsimp only
  rw [if_neg (show ¬ (64 : Int32) = 35 by decide), if_neg (show ¬ (64 : Int32) = 61 by decide), if_pos (show (64 : Int32) = 64 from rfl)]
theorem k35 (ha : a < 39) : j32_188 N h b 35 (Int32.ofNat a) c = xb2 (f47_readNumber N h b (Int32.ofNat a) (xU (xU c 6 a 1) 3 6 ((xU c 6 a 1) 3 6 + 1))) (fun r54 a55 => if r54 = 0 then (some (0, a55)) else (xb2 (f43_passComma N h b a55) (fun r61 a62 => xg ((if r61 = 0 then (0 : Int32) else (1 : Int32)) = 0 ∨ (if r61 = 0 then (0 : Int32) else (1 : Int32)) = 1) (some ((if r61 = 0 then (0 : Int32) else (1 : Int32)), a62))))) := by
  unfold j32_188
  rw [xg_pos (g_ix ha (by omega)), i_cl (show a < 2 ^ 31 by omega)]
  unfold xw
  dsimp only
  rw [if_pos (show (35 : Int32) = 35 from rfl)]
theorem k61 (ha : a < 39) : j32_188 N h b 61 (Int32.ofNat a) c = xb2 (f49_readString N h b (Int32.ofNat a) (xU (xU c 6 a 1) 3 6 ((xU c 6 a 1) 3 6 + 1))) (fun r54 a55 => if r54 = 0 then (some (0, a55)) else (xb2 (f43_passComma N h b a55) (fun r61 a62 => xg ((if r61 = 0 then (0 : Int32) else (1 : Int32)) = 0 ∨ (if r61 = 0 then (0 : Int32) else (1 : Int32)) = 1) (some ((if r61 = 0 then (0 : Int32) else (1 : Int32)), a62))))) := by
  unfold j32_188
  rw [xg_pos (g_ix ha (by omega)), i_cl (show a < 2 ^ 31 by omega)]
  unfold xw
  dsimp only
  rw [if_neg (show ¬ (61 : Int32) = 35 by decide), if_pos (show (61 : Int32) = 61 from rfl)]
theorem k44 (ha : a < 39) (hth : th < 12) (h8 : c 3 8 = Int32.ofNat (9 + 7 * th)) : j32_188 N h b 44 (Int32.ofNat a) c = xb2 (f43_passComma N h b (xU (xU c 6 a 1) (9 + 7 * th + 3) a 1)) (fun r90 a91 => xg (r90 = 0 ∨ r90 = 1) (some (r90, a91))) := by
  obtain ⟨p1, p2, p3, p4, p5, p6, p7, p8⟩ := pl (h := h) (b := b) hth
  have e38 : (xU c 6 a 1) 3 8 = Int32.ofNat (9 + 7 * th) := h8
  have et : f61_tellFlag N h b (9 + 7 * th) (Int32.ofNat a) (xU c 6 a 1) = some (xU (xU c 6 a 1) (9 + 7 * th + 3) a 1) := by
    unfold f61_tellFlag
    rw [xg_pos p1, p4, xg_pos (g_ix ha (by omega)), i_cl (show a < 2 ^ 31 by omega)]
    rfl
  unfold j32_188
  rw [xg_pos (g_ix ha (by omega)), i_cl (show a < 2 ^ 31 by omega)]
  unfold xw
  dsimp only
  rw [if_neg (show ¬ (44 : Int32) = 35 by decide), if_neg (show ¬ (44 : Int32) = 61 by decide), if_neg (show ¬ (44 : Int32) = 64 by decide), e38, xg_pos (ofn_ne (by omega)), i_cl (show 9 + 7 * th < 2 ^ 31 by omega), xg_pos p1, et, b1_some]
theorem m64 {R : Int32} {V : Int32} : xw (xU r 163 row V) (fun a110 => if (64 : Int32) = 44 then (j272_364 N h b R 64 a110) else (xw (xU a110 157 15 ((a110 157 15) + 1)) (fun a131 => j272_364 N h b R 64 a131))) = some (1, xU (xU r 163 row V) 157 15 ((xU r 163 row V) 157 15 + 1)) := by
  unfold xw j272_364
  dsimp only
  rw [if_neg (show ¬ (64 : Int32) = 44 by decide), if_neg (show ¬ (64 : Int32) = 35 by decide), if_neg (show ¬ (64 : Int32) = 61 by decide)]
theorem m35 {R : Int32} {V : Int32} : xw (xU r 163 row V) (fun a110 => if (35 : Int32) = 44 then (j272_364 N h b R 35 a110) else (xw (xU a110 157 15 ((a110 157 15) + 1)) (fun a131 => j272_364 N h b R 35 a131))) = xb2 (f282_digits N h b R (xU (xU r 163 row V) 157 15 ((xU r 163 row V) 157 15 + 1))) (fun r120 a121 => xg (r120 = 0 ∨ r120 = 1) (some (r120, a121))) := by
  unfold xw j272_364
  dsimp only
  rw [if_neg (show ¬ (35 : Int32) = 44 by decide), if_pos (show (35 : Int32) = 35 from rfl)]
theorem m61 {R : Int32} {V : Int32} : xw (xU r 163 row V) (fun a110 => if (61 : Int32) = 44 then (j272_364 N h b R 61 a110) else (xw (xU a110 157 15 ((a110 157 15) + 1)) (fun a131 => j272_364 N h b R 61 a131))) = xb2 (f283_made N h b R (xU (xU r 163 row V) 157 15 ((xU r 163 row V) 157 15 + 1))) (fun r120 a121 => xg (r120 = 0 ∨ r120 = 1) (some (r120, a121))) := by
  unfold xw j272_364
  dsimp only
  rw [if_neg (show ¬ (61 : Int32) = 44 by decide), if_neg (show ¬ (61 : Int32) = 35 by decide), if_pos (show (61 : Int32) = 61 from rfl)]
theorem m44 {R : Int32} {V : Int32} : xw (xU r 163 row V) (fun a110 => if (44 : Int32) = 44 then (j272_364 N h b R 44 a110) else (xw (xU a110 157 15 ((a110 157 15) + 1)) (fun a131 => j272_364 N h b R 44 a131))) = some (1, xU r 163 row V) := by
  unfold xw j272_364
  dsimp only
  rw [if_pos (show (44 : Int32) = 44 from rfl), if_neg (show ¬ (44 : Int32) = 35 by decide), if_neg (show ¬ (44 : Int32) = 61 by decide)]
theorem nw1 : vp_nar .byte ((if (35 : Int32) = 64 then (2 : Int32) else (1 : Int32)).toInt8.toInt32) = 1 := by rw [if_neg (by decide), by8n]; decide
theorem nw2 : vp_nar .byte ((if (61 : Int32) = 64 then (2 : Int32) else (1 : Int32)).toInt8.toInt32) = 1 := by rw [if_neg (by decide), by8n]; decide
theorem nw3 : vp_nar .byte ((if (44 : Int32) = 64 then (2 : Int32) else (1 : Int32)).toInt8.toInt32) = 1 := by rw [if_neg (by decide), by8n]; decide
theorem nw4 : vp_nar .byte ((if (64 : Int32) = 64 then (2 : Int32) else (1 : Int32)).toInt8.toInt32) = 2 := by rw [if_pos rfl, by8n]; decide
theorem d_abf (hN : 100000 ≤ N) (H : DC k0 len q th c0 r0 c r) (hq : q ≤ len) (hs : s' + l = q) (hl1 : 1 ≤ l) (hl5 : l ≤ 5) (hB : Tx c len q = x) : FP k0 len q th c0 r0 (j32_87 N h b (Int32.ofNat s') x (Int32.ofNat l) c) (j272_166 N h b (Int32.ofNat s') (Int32.ofNat l) r) := by
  have HV := H.2.1
  have hl := HV.1
  have hth := H.2.2.2.1
  have e36 := HV.2.2.2.2.2.1
  have e15 := HV.2.2.2.2.2.2.1
  obtain ⟨t, t1, t2, t3⟩ := d_abn (N := N) (h := h) (b := b) (c := c) (r := r) (q := s') (l := l) hN HV.2.2.2.2.2.2.2 (by omega) hl5 hl1
  unfold j32_87 j272_166
  rw [HV.2.2.1, xg_pos (by decide), show (1 : Int32).toNatClampNeg = 1 from rfl, t1, t2, b2_some, b2_some]
  rcases t3 with e | ⟨a, ha, ea⟩
  · rw [if_pos e, if_pos e]
    exact ff H.1.1 H.1.2.1
  have tn : ¬ t = -1 := by rw [ea]; exact ofn_ne (by omega)
  rw [if_neg tn, if_neg tn]
  subst ea
  have g2 := H.2.2.2.2.2.2.2.1
  have gA := H.2.2.2.2.2.2.2.2.2.1 a ha
  obtain ⟨gE, gb, gi⟩ := gA
  rw [xg_pos (g_ix ha (by omega)), i_cl (show a < 2 ^ 31 by omega), g2, o39, xg_pos (g_ix (by omega) (by omega)), i_cl (show 39 * th + a < 2 ^ 31 by omega)]
  by_cases z1 : c 6 a = 0
  · rw [if_pos z1, if_pos (gi.mp z1), e15, e_hr HV (by omega), b2_some, hB, e15]
    have es : (if 3 ≤ Int32.ofNat a then (if 6 ≤ Int32.ofNat a then (2 : Int32) else (1 : Int32)) else (0 : Int32)) = srt a := rfl
    simp only [es]
    have nt : c (9 + 7 * th + 3) a = 0 := by
      rcases gE.1 with q | q
      · exact q
      · have := gE.2.1.mp q
        rw [gi.mp z1] at this
        exact absurd this (by decide)
    have n1 : vp_nar .byte ((1 : Int32).toInt8.toInt32) = 1 := by rw [by8n]; decide
    have n2 : vp_nar .byte ((2 : Int32).toInt8.toInt32) = 2 := by rw [by8n]; decide
    have sr : srt a = 0 ∧ a < 3 ∨ srt a = 1 ∧ 3 ≤ a ∧ a < 6 ∨ srt a = 2 ∧ 6 ≤ a := by
      unfold srt
      rw [show (3 : Int32) = Int32.ofNat 3 from rfl, show (6 : Int32) = Int32.ofNat 6 from rfl]
      by_cases q3 : 3 ≤ a
      · rw [if_pos (by rw [i_le (by decide) (by omega)]; exact q3)]
        by_cases q6 : 6 ≤ a
        · rw [if_pos (by rw [i_le (by decide) (by omega)]; exact q6)]; exact Or.inr (Or.inr ⟨rfl, q6⟩)
        · rw [if_neg (by rw [i_le (by decide) (by omega)]; exact q6)]; exact Or.inr (Or.inl ⟨rfl, q3, by omega⟩)
      · rw [if_neg (by rw [i_le (by decide) (by omega)]; exact q3)]; exact Or.inl ⟨rfl, by omega⟩
    have sg : f46_signOf N h b (Int32.ofNat a) c = some (if srt a = 0 then 44 else if srt a = 1 then 35 else 61, c) := by
      unfold f46_signOf srt
      by_cases q3 : 3 ≤ Int32.ofNat a
      · rw [if_pos q3, if_pos q3]
        by_cases q6 : 6 ≤ Int32.ofNat a
        · rw [if_pos q6, if_pos q6]; rfl
        · rw [if_neg q6, if_neg q6]; rfl
      · rw [if_neg q3, if_neg q3]; rfl
    by_cases y1 : x = 64
    · subst y1
      have hs1 : ¬ srt a = -1 := by rcases sr with q | q | q <;> rw [q.1] <;> decide
      have e163' : j32_163 N h b 64 (Int32.ofNat a) c = j32_188 N h b 64 (Int32.ofNat a) c := by
        unfold j32_163
        rw [if_pos (show (64 : Int32) = 64 from rfl)]
      rw [if_pos (show (64 : Int32) = 64 from rfl), sel64 hs1, e163', k64 ha, m64, nw4]
      obtain ⟨k1, k2, k3, k4, k5⟩ := DC_told (a := a) (v := 2) H ha (by decide)
      have e3 : xU (xU c 6 a 1) 3 6 ((xU c 6 a 1) 3 6 + 1) = cp (xU c 6 a 1) (q + 1) := by rw [xU_o (by decide), e36, on_s]; rfl
      have e4 : xU (xU r 163 (39 * th + a) 2) 157 15 ((xU r 163 (39 * th + a) 2) 157 15 + 1) = rp (xU r 163 (39 * th + a) 2) (q + 1) := by rw [xU_o (by decide), e15, on_s]; rfl
      rw [e3, e4]
      have hE : Ea th a (xU c 6 a 1) (xU r 163 (39 * th + a) 2) := by
        unfold Ea
        rw [xU_o (show 9 + 7 * th + 3 ≠ 6 by omega), xU_e, nt]
        exact ⟨Or.inl rfl, ⟨fun q => absurd q (by decide), fun q => absurd q (by decide)⟩, fun q => absurd q (by decide)⟩
      have hD : DC k0 len q th c0 r0 (xU c 6 a 1) (xU r 163 (39 * th + a) 2) := ⟨k1, k2, H.2.2.1, hth, k5, k3, CURx_E k4 hE⟩
      have := cm2 (N := N) (h := h) (b := b) hl (DC_p (q' := q + 1) hD (by omega)) (by omega)
      rcases this with g | g | ⟨c1, r1, q1, g1, g2⟩
      · exact Or.inl g
      · exact Or.inr (Or.inl g)
      · exact Or.inr (Or.inr ⟨c1, r1, q1, by omega, g2⟩)
    · by_cases y2 : x = 35
      · subst y2
        rw [if_neg (show ¬ (35 : Int32) = 64 by decide), if_pos (show (35 : Int32) = 35 from rfl), sel35, e163 sg (by decide)]
        rcases sr with ⟨s1, s2⟩ | ⟨s1, s2, s3⟩ | ⟨s1, s2⟩
        · rw [s1, if_pos (show (0 : Int32) = 0 from rfl), if_neg (show ¬ (35 : Int32) = 44 by decide), if_neg (show ¬ (1 : Int32) = 0 by decide), e36]
          exact ff H.1.1 H.1.2.1
        · rw [s1, if_neg (show ¬ (1 : Int32) = 0 by decide), if_pos (show (1 : Int32) = 1 from rfl), if_pos (show (35 : Int32) = 35 from rfl), if_pos (show (1 : Int32) = 1 from rfl), k35 ha, m35, nw1]
          obtain ⟨k1, k2, k3, k4, k5⟩ := DC_told (a := a) (v := 1) H ha (by decide)
          have e3 : xU (xU c 6 a 1) 3 6 ((xU c 6 a 1) 3 6 + 1) = cp (xU c 6 a 1) (q + 1) := by rw [xU_o (by decide), e36, on_s]; rfl
          have e4 : xU (xU r 163 (39 * th + a) 1) 157 15 ((xU r 163 (39 * th + a) 1) 157 15 + 1) = rp (xU r 163 (39 * th + a) 1) (q + 1) := by rw [xU_o (by decide), e15, on_s]; rfl
          rw [e3, e4]
          have HV1 := RV_q (q := q + 1) k2 (by omega)
          have C1 := CURx_p (q' := q + 1) k4
          obtain ⟨p1, p2, w1, w2, w3, w4⟩ := d_num (N := N) (h := h) (b := b) (a := a) hN hth s3 s2 C1.1 HV1 (by omega) k1.2.1
          have := cm (N := N) (h := h) (b := b) (k0 := k0) (len := len) (q := q) (th := th) (c0 := c0) (r0 := r0) (F := f47_readNumber N h b (Int32.ofNat a) (cp (xU c 6 a 1) (q + 1))) (G := f282_digits N h b (Int32.ofNat (39 * th + a)) (rp (xU r 163 (39 * th + a) 1) (q + 1))) hN hl ⟨p1, p2, w1, w2, w3, ?_⟩
          · exact this
          · rcases w4 with ⟨v1, v2⟩ | ⟨v1, v2, ⟨q1, v3, v4, v5⟩, v6, v7, v8, v9⟩
            · exact Or.inl ⟨v1, FS_L (FL_p k1).1 v2 H.2.2.1 ha⟩
            · refine Or.inr ⟨v1, q1, by omega, v4, DC_T (FL_p k1) (fun e he => EE_p (k3 e he)) C1 (by unfold cp; rw [xU_s (by decide)]; exact k5) H.2.2.1 hth ha v2 v5 ?_⟩
              have r1 : p2.2 163 (39 * th + a) = 1 := by
                rw [v2.2.2.2.2.2.1 163 (by decide) (by decide) (by decide) (by decide)]
                unfold rp
                rw [xU_o (by decide), xU_e]
              exact ⟨Or.inr v6, ⟨fun _ => r1, fun _ => v6⟩, fun _ => ⟨fun _ _ => ⟨v7, v8, v9⟩, fun g => absurd g (by omega)⟩⟩
        · rw [s1, if_neg (show ¬ (2 : Int32) = 0 by decide), if_neg (show ¬ (2 : Int32) = 1 by decide), if_neg (show ¬ (35 : Int32) = 61 by decide), if_neg (show ¬ (1 : Int32) = 2 by decide), e36]
          exact ff H.1.1 H.1.2.1
      · by_cases y3 : x = 61
        · subst y3
          rw [if_neg (show ¬ (61 : Int32) = 64 by decide), if_neg (show ¬ (61 : Int32) = 35 by decide), if_pos (show (61 : Int32) = 61 from rfl), sel61, e163 sg (by decide)]
          rcases sr with ⟨s1, s2⟩ | ⟨s1, s2, s3⟩ | ⟨s1, s2⟩
          · rw [s1, if_pos (show (0 : Int32) = 0 from rfl), if_neg (show ¬ (61 : Int32) = 44 by decide), if_neg (show ¬ (2 : Int32) = 0 by decide), e36]
            exact ff H.1.1 H.1.2.1
          · rw [s1, if_neg (show ¬ (1 : Int32) = 0 by decide), if_pos (show (1 : Int32) = 1 from rfl), if_neg (show ¬ (61 : Int32) = 35 by decide), if_neg (show ¬ (2 : Int32) = 1 by decide), e36]
            exact ff H.1.1 H.1.2.1
          · rw [s1, if_neg (show ¬ (2 : Int32) = 0 by decide), if_neg (show ¬ (2 : Int32) = 1 by decide), if_pos (show (61 : Int32) = 61 from rfl), if_pos (show (2 : Int32) = 2 from rfl), k61 ha, m61, nw2]
            obtain ⟨k1, k2, k3, k4, k5⟩ := DC_told (a := a) (v := 1) H ha (by decide)
            have e3 : xU (xU c 6 a 1) 3 6 ((xU c 6 a 1) 3 6 + 1) = cp (xU c 6 a 1) (q + 1) := by rw [xU_o (by decide), e36, on_s]; rfl
            have e4 : xU (xU r 163 (39 * th + a) 1) 157 15 ((xU r 163 (39 * th + a) 1) 157 15 + 1) = rp (xU r 163 (39 * th + a) 1) (q + 1) := by rw [xU_o (by decide), e15, on_s]; rfl
            rw [e3, e4]
            have HV1 := RV_q (q := q + 1) k2 (by omega)
            have C1 := CURx_p (q' := q + 1) k4
            have L1 := FL_p (q := q + 1) k1
            obtain ⟨p1, p2, w1, w2, w3, w4⟩ := d_str (N := N) (h := h) (b := b) (a := a) hN hth ha s2 C1.1 L1.2.2 HV1 (by omega) k1.2.1
            have := cm (N := N) (h := h) (b := b) (k0 := k0) (len := len) (q := q) (th := th) (c0 := c0) (r0 := r0) (F := f49_readString N h b (Int32.ofNat a) (cp (xU c 6 a 1) (q + 1))) (G := f283_made N h b (Int32.ofNat (39 * th + a)) (rp (xU r 163 (39 * th + a) 1) (q + 1))) hN hl ⟨p1, p2, w1, w2, w3, ?_⟩
            · exact this
            · rcases w4 with ⟨v1, v2⟩ | ⟨v1, v2, ⟨q1, v3, v4, v5⟩, v6, v7⟩
              · exact Or.inl ⟨v1, FS_L L1.1 v2 H.2.2.1 ha⟩
              · refine Or.inr ⟨v1, q1, by omega, by omega, DC_T L1 (fun e he => EE_p (k3 e he)) C1 (by unfold cp; rw [xU_s (by decide)]; exact k5) H.2.2.1 hth ha v2 v5 ?_⟩
                have r1 : p2.2 163 (39 * th + a) = 1 := by
                  rw [v2.2.2.2.2.2.1 163 (by decide) (by decide) (by decide) (by decide)]
                  unfold rp
                  rw [xU_o (by decide), xU_e]
                exact ⟨Or.inr v6, ⟨fun _ => r1, fun _ => v6⟩, fun _ => ⟨fun _ g => absurd g (by omega), fun _ => v7⟩⟩
        · by_cases y4 : x = 44
          · subst y4
            rw [if_neg (show ¬ (44 : Int32) = 64 by decide), if_neg (show ¬ (44 : Int32) = 35 by decide), if_neg (show ¬ (44 : Int32) = 61 by decide), if_pos (show (44 : Int32) = 44 from rfl), sel44, e163 sg (by decide)]
            rcases sr with ⟨s1, s2⟩ | ⟨s1, s2, s3⟩ | ⟨s1, s2⟩
            · rw [s1, if_pos (show (0 : Int32) = 0 from rfl), if_pos (show (44 : Int32) = 44 from rfl), if_pos (show (0 : Int32) = 0 from rfl), k44 ha hth H.2.2.2.2.2.2.1, m44, nw3]
              obtain ⟨k1, k2, k3, k4, k5⟩ := DC_told (a := a) (v := 1) H ha (by decide)
              have hT : TO th a (39 * th + a) (xU c 6 a 1) (xU r 163 (39 * th + a) 1) (xU (xU c 6 a 1) (9 + 7 * th + 3) a 1) (xU r 163 (39 * th + a) 1) := ⟨fun p h1 h2 h3 h4 h5 h6 => xU_o h3, fun i h1 h2 => by rw [xU_o (by omega)], fun i h1 => ⟨xU_s h1, by rw [xU_o (by omega)]⟩, fun i h1 => by rw [xU_o (by omega)], fun i h1 => by rw [xU_o (by omega)], fun _ _ _ _ _ => rfl, fun _ _ _ => rfl, fun _ _ => ⟨rfl, rfl⟩, fun _ _ => rfl, k1.2.1⟩
              have hD := DC_T (q := q) k1 k3 k4 k5 H.2.2.1 hth ha hT (RV_of k2 (fun i _ _ => by rw [xU_o (by omega)]) (by rw [xU_o (by omega)]) rfl rfl rfl) ⟨Or.inr xU_e, ⟨fun _ => xU_e, fun _ => xU_e⟩, fun _ => ⟨fun g => absurd g (by omega), fun g => absurd g (by omega)⟩⟩
              exact cm2 hl hD (by omega)
            · rw [s1, if_neg (show ¬ (1 : Int32) = 0 by decide), if_pos (show (1 : Int32) = 1 from rfl), if_neg (show ¬ (44 : Int32) = 35 by decide), if_neg (show ¬ (0 : Int32) = 1 by decide), e36]
              exact ff H.1.1 H.1.2.1
            · rw [s1, if_neg (show ¬ (2 : Int32) = 0 by decide), if_neg (show ¬ (2 : Int32) = 1 by decide), if_neg (show ¬ (44 : Int32) = 61 by decide), if_neg (show ¬ (0 : Int32) = 2 by decide), e36]
              exact ff H.1.1 H.1.2.1
          · rw [if_neg y1, if_neg y2, if_neg y3, if_neg y4, selN y1 y2 y3 y4, e36]
            exact ff H.1.1 H.1.2.1
  · rw [if_neg z1, if_neg (fun e => z1 (gi.mpr e))]
    exact ff H.1.1 H.1.2.1
end T
