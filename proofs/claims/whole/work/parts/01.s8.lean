/-! read. -/
section D
variable {N h b : Nat} {c0 r0 c r c' r' : xA} {x y : Int32}
/-- so many are taken from what is ready; what was written is f, g -/
def RDk (k : Nat) (c0 r0 c r : xA) : Prop := Ds c r ∧ Dq c r ∧ De c r ∧ ((c 121 2).toNatClampNeg + k = (r 157 67).toNatClampNeg ∧ 0 ≤ r 157 67 ∧ (r 157 67).toNatClampNeg ≤ 300 ∧ (∀ i, By (r 186 i) ∨ r 186 i = 256) ∧ RB c 121 300 (fun j => r 186 (k + j))) ∧
  (∀ p, ¬ (116 ≤ p ∧ p ≤ 122) → p ≠ 2 → c p = c0 p) ∧ (∀ p, ¬ p = 157 → ¬ (184 ≤ p ∧ p ≤ 186) → p ≠ 159 → r p = r0 p) ∧ (∀ i, ¬ (55 ≤ i ∧ i ≤ 67) → r 157 i = r0 157 i) ∧ (∀ i, By (c 2 i) ∧ r 159 i = (c 2 i).toInt8.toInt32)
theorem RDk_0 (hR : RD c0 r0 c r) (ho : ∀ i, By (c0 2 i) ∧ r0 159 i = (c0 2 i).toInt8.toInt32) : RDk 0 c0 r0 c r := by
  obtain ⟨f1, s1, q1, e1, r1⟩ := hR
  unfold Dr at r1
  refine ⟨s1, q1, e1, ⟨by rw [r1.1.1]; rfl, r1.1.1 ▸ r1.2.2.2.1, r1.1.1 ▸ r1.2.2.2.2.1, r1.1.2, ?_⟩, fun p h1 _ => f1.1 p h1, fun p h1 h2 _ => f1.2.1 p h1 h2, f1.2.2, fun i => ?_⟩
  · have : (fun j => r 186 (0 + j)) = r 186 := by funext j; rw [Nat.zero_add]
    rw [this]; exact r1.2
  · rw [f1.1 2 (by decide), f1.2.1 159 (by decide) (by decide)]; exact ho i
/-- one goes; a byte may be written -/
theorem RDk_t {k : Nat} (hR : RDk k c0 r0 c r) (hp : 0 < c 121 2) : RDk (k + 1) c0 r0 (xU (xU c 121 1 (Int32.ofNat (((c 121 1).toNatClampNeg + 1) % 300))) 121 2 (c 121 2 - 1)) r := by
  obtain ⟨s1, q1, e1, ⟨r1, r2, r3, r4, r5⟩, f1, f2, f3, f4⟩ := hR
  have t := RB_tf (by decide) (by decide) r5 hp
  refine ⟨Ds_of s1 rfl (fun _ _ _ => rfl), Dq_of q1 rfl rfl rfl rfl rfl, De_of e1 rfl rfl rfl rfl, ⟨?_, r2, r3, r4, ?_⟩, fun p h1 h2 => ?_, f2, f3, f4⟩
  · rw [xU_e]; omega
  · have : (fun j => r 186 (k + 1 + j)) = (fun j => r 186 (k + (1 + j))) := by funext j; rw [Nat.add_assoc]
    rw [this]; exact t.1
  · rw [xU_o (by omega), xU_o (by omega)]; exact f1 p h1 h2
theorem RDk_w {k m : Nat} (hR : RDk k c0 r0 c r) (hx : By x) : RDk k c0 r0 (xU c 2 m x) (xU r 159 m (vp_nar .byte x.toInt8.toInt32)) := by
  obtain ⟨s1, q1, e1, ⟨r1, r2, r3, r4, r5⟩, f1, f2, f3, f4⟩ := hR
  refine ⟨Ds_of s1 rfl (fun _ _ _ => rfl), Dq_of q1 rfl rfl rfl rfl rfl, De_of e1 rfl rfl rfl rfl, ⟨r1, r2, r3, r4, r5⟩, fun p h1 h2 => ?_, fun p h1 h2 h3 => ?_, f3, fun i => ?_⟩
  · rw [xU_o h2]; exact f1 p h1 h2
  · rw [xU_o h3]; exact f2 p h1 h2 h3
  · rw [xU_eq, xU_eq, by8n]
    have := f4 i
    split <;> split <;> grind
theorem e_get0 {k : Nat} (hR : RDk k c0 r0 c r) (hp : 0 < c 121 2) : f164_get N h b 121 0 c = some (r 186 k, c) := by
  obtain ⟨s1, q1, e1, ⟨r1, r2, r3, r4, r5⟩, f1, f2, f3, f4⟩ := hR
  unfold RB at r5
  have e0 : (0 : Int32).toNatClampNeg = 0 := rfl
  have hp' : 0 < (c 121 2).toNatClampNeg := by rw [cl_lt (by decide)] at hp; omega
  have e3 : ¬ ((0 : Int32) < 0 ∨ c 121 2 ≤ 0) := fun z => z.elim (fun q => absurd q (by decide)) (fun q => absurd hp (Int32.not_lt.mpr q))
  rw [e_get (cap := 300) rfl rfl (by decide) (by decide) r5.1 r5.2.1 r5.2.2.1 r5.2.2.2.1, if_neg e3, e0, r5.2.2.2.2 0 hp'] <;> rfl
theorem e_tf0 {k : Nat} (hR : RDk k c0 r0 c r) (hp : 0 < c 121 2) : f172_takeFirst N h b 121 c = some (r 186 k, xU (xU c 121 1 (Int32.ofNat (((c 121 1).toNatClampNeg + 1) % 300))) 121 2 (c 121 2 - 1)) := by
  obtain ⟨s1, q1, e1, ⟨r1, r2, r3, r4, r5⟩, f1, f2, f3, f4⟩ := hR
  rw [e_tf (cap := 300) rfl rfl (by decide) (by decide) r5 hp]
  rfl
/-- the loop of takeReady, in lines -/
theorem d_r1 {w w4 : Int32} (hw0 : 0 ≤ w) (hw : w ≤ 300) : ∀ (n : Nat) {k : Nat} {m : Int32} {c r : xA}, RDk k c0 r0 c r → r 157 67 = w4 → ¬ r 157 58 &&& 1 = 0 → 0 ≤ m → m ≤ w → k ≤ w4.toNatClampNeg → 300 < k + n →
    ∃ c1 r1 m1 k1 z, l171_14 N h b w 2 w4 n m (Int32.ofNat k) c = some (z, m1, c1) ∧ l359_38 N h b w n (Int32.ofNat k) m r = some (0, Int32.ofNat k1, m1, r1) ∧ 0 ≤ m1 ∧ m1 ≤ w ∧ k1 ≤ w4.toNatClampNeg ∧ r1 157 67 = w4 ∧
      (if k1 < w4.toNatClampNeg ∧ r1 186 k1 = 256 then RDk (k1 + 1) c0 r0 c1 r1 else RDk k1 c0 r0 c1 r1)
  | 0, k, m, c, r, hR, h1, h2, h3, h4, h5, h6 => by
    have := hR.2.2.2.1.2.2.1
    rw [h1] at this
    omega
  | n + 1, k, m, c, r, hR, h1, h2, h3, h4, h5, h6 => by
    have hs := hR.1
    unfold Ds at hs
    have a3 := hR.2.2.2.1.2.2.1
    have a2 := hR.2.2.2.1.2.1
    have a1 := hR.2.2.2.1.1
    have a4 := hR.2.2.2.1.2.2.2.1
    rw [h1] at a1 a2 a3
    have ew : Int32.ofNat w4.toNatClampNeg = w4 := i_ofn a2
    have c1 : (w4 ≤ Int32.ofNat k) = (w4.toNatClampNeg ≤ k) := by
      conv => lhs; rw [← ew]
      rw [i_le (by omega) (by omega)]
    unfold l171_14 l359_38
    rw [h1]
    by_cases z : w4 ≤ Int32.ofNat k
    · rw [if_pos z, if_pos z]
      rw [c1] at z
      exact ⟨c, r, m, k, 2, rfl, rfl, h3, h4, h5, h1, by rw [if_neg (by omega)]; exact hR⟩
    · rw [if_neg z, if_neg z]
      rw [c1] at z
      have hp : 0 < c 121 2 := by
        rw [cl_lt (by decide)]
        have e0 : (0 : Int32).toNatClampNeg = 0 := rfl
        omega
      have gi : ¬ (Int32.ofNat k < 0 ∨ 300 ≤ (Int32.ofNat k).toNatClampNeg) := by
        rw [i_neg (by omega), i_cl (by omega)]
        rintro (q | q)
        · exact q
        · omega
      rw [e_get0 hR hp, b2_some, xg_pos gi, i_cl (by omega)]
      by_cases z2 : r 186 k = 256
      · rw [if_neg (by rw [if_pos z2]; decide), e_has, b2_some, hs.1, if_pos z2]
        have e1 : (if zb (¬ r 157 58 &&& 1 = 0) = 0 then (0 : Int32) else 1) = 1 := if_neg (by rw [zb_0]; exact fun q => q h2)
        rw [e1]
        have key : j171_75 N h b (l171_14 N h b w 2 w4 n) w 2 w4 m (Int32.ofNat k) 1 1 c = some (1, m, xU (xU c 121 1 (Int32.ofNat (((c 121 1).toNatClampNeg + 1) % 300))) 121 2 (c 121 2 - 1)) := by
          unfold j171_75
          rw [e_tf0 hR hp, b2_some, if_neg (by decide)]
        have h9 := RDk_t hR hp
        rw [key]
        refine ⟨xU (xU c 121 1 (Int32.ofNat (((c 121 1).toNatClampNeg + 1) % 300))) 121 2 (c 121 2 - 1), r, m, k, 1, ?_, ?_, h3, h4, h5, h1, by rw [if_pos ⟨by omega, z2⟩]; exact h9⟩
        · split
          · rfl
          · exact if_neg (by decide)
        · split
          · rfl
          · first | rfl | exact if_pos z2
      · rw [if_pos (by rw [if_neg z2]), if_neg z2, if_neg z2]
        unfold j171_59 j171_60
        by_cases z3 : m < w
        · rw [if_pos z3, if_neg (Int32.not_le.mpr z3)]
          unfold j171_75 j171_111
          have hx : By (r 186 k) := (a4 k).resolve_right z2
          have g2 : ¬ (m < 0 ∨ 300 ≤ m.toNatClampNeg) := cl_ix (y := 300) h3 (by grind) rfl
          have ex : xl h b 2 = 300 := rfl
          rw [e_tf0 hR hp, b2_some, if_pos rfl, if_pos rfl, ex, if_neg (by show ¬ (300 : Int32) ≤ m; grind), xg_pos g2, xg_pos g2]
          unfold xw
          dsimp only
          have h9 := RDk_w (m := m.toNatClampNeg) (RDk_t hR hp) hx
          have ek : Int32.ofNat k + 1 = Int32.ofNat (k + 1) := by rw [Int32.ofNat_add]; rfl
          rw [ek]
          exact d_r1 hw0 hw n (m := m + 1) h9 h1 h2 (by grind) (by grind) (by omega) (by omega)
        · rw [if_neg z3, if_pos (Int32.not_lt.mp z3), if_pos rfl]
          exact ⟨c, r, m, k, 0, rfl, rfl, h3, h4, h5, h1, by rw [if_neg (fun q => z2 q.2)]; exact hR⟩
/-- the loop of takeReady, byte by byte -/
theorem d_r2 {w w4 : Int32} (hw0 : 0 ≤ w) (hw : w ≤ 300) : ∀ (n : Nat) {k : Nat} {m : Int32} {c r : xA}, RDk k c0 r0 c r → r 157 67 = w4 → r 157 58 &&& 1 = 0 → 0 ≤ m → m ≤ w → k ≤ w4.toNatClampNeg → 300 < k + n →
    ∃ c1 r1 m1 k1 z, l171_14 N h b w 2 w4 n m (Int32.ofNat k) c = some (z, m1, c1) ∧ l359_111 N h b w n (Int32.ofNat k) m r = some (0, Int32.ofNat k1, m1, r1) ∧ 0 ≤ m1 ∧ m1 ≤ w ∧ k1 ≤ w4.toNatClampNeg ∧ r1 157 67 = w4 ∧ RDk k1 c0 r0 c1 r1
  | 0, k, m, c, r, hR, h1, h2, h3, h4, h5, h6 => by
    have := hR.2.2.2.1.2.2.1
    rw [h1] at this
    omega
  | n + 1, k, m, c, r, hR, h1, h2, h3, h4, h5, h6 => by
    have hs := hR.1
    unfold Ds at hs
    have a3 := hR.2.2.2.1.2.2.1
    have a2 := hR.2.2.2.1.2.1
    have a1 := hR.2.2.2.1.1
    have a4 := hR.2.2.2.1.2.2.2.1
    rw [h1] at a1 a2 a3
    have ew : Int32.ofNat w4.toNatClampNeg = w4 := i_ofn a2
    have c1 : (w4 ≤ Int32.ofNat k) = (w4.toNatClampNeg ≤ k) := by
      conv => lhs; rw [← ew]
      rw [i_le (by omega) (by omega)]
    unfold l171_14 l359_111
    rw [h1]
    by_cases z : w4 ≤ Int32.ofNat k
    · rw [if_pos z, if_pos z]
      rw [c1] at z
      exact ⟨c, r, m, k, 2, rfl, rfl, h3, h4, h5, h1, hR⟩
    · rw [if_neg z, if_neg z]
      rw [c1] at z
      have hp : 0 < c 121 2 := by
        rw [cl_lt (by decide)]
        have e0 : (0 : Int32).toNatClampNeg = 0 := rfl
        omega
      have gi : ¬ (Int32.ofNat k < 0 ∨ 300 ≤ (Int32.ofNat k).toNatClampNeg) := by
        rw [i_neg (by omega), i_cl (by omega)]
        rintro (q | q)
        · exact q
        · omega
      have ek : Int32.ofNat k + 1 = Int32.ofNat (k + 1) := by rw [Int32.ofNat_add]; rfl
      rw [e_get0 hR hp, b2_some, xg_pos gi, i_cl (by omega)]
      by_cases z2 : r 186 k = 256
      · rw [if_neg (by rw [if_pos z2]; decide), e_has, b2_some, hs.1, if_pos z2, if_pos z2]
        have e1 : (if zb (¬ r 157 58 &&& 1 = 0) = 0 then (0 : Int32) else 1) = 0 := if_pos (by rw [zb_0]; exact fun q => q h2)
        rw [e1]
        by_cases z3 : m < w
        · rw [if_pos z3, if_neg (Int32.not_le.mpr z3)]
          unfold j171_75 j171_111 j359_152
          rw [e_tf0 hR hp, b2_some, if_pos rfl, if_neg (by decide), ek]
          exact d_r2 hw0 hw n (m := m) (RDk_t hR hp) h1 h2 h3 h4 (by omega) (by omega)
        · rw [if_neg z3, if_pos (Int32.not_lt.mp z3), if_pos rfl]
          exact ⟨c, r, m, k, 0, rfl, rfl, h3, h4, h5, h1, hR⟩
      · rw [if_pos (by rw [if_neg z2]), if_neg z2, if_neg z2]
        unfold j171_59 j171_60
        by_cases z3 : m < w
        · rw [if_pos z3, if_neg (Int32.not_le.mpr z3)]
          unfold j171_75 j171_111 j359_152
          have hx : By (r 186 k) := (a4 k).resolve_right z2
          have g2 : ¬ (m < 0 ∨ 300 ≤ m.toNatClampNeg) := cl_ix (y := 300) h3 (by grind) rfl
          have ex : xl h b 2 = 300 := rfl
          rw [e_tf0 hR hp, b2_some, if_pos rfl, if_pos rfl, ex, if_neg (by show ¬ (300 : Int32) ≤ m; grind), xg_pos g2, xg_pos g2]
          unfold xw
          dsimp only
          have h9 := RDk_w (m := m.toNatClampNeg) (RDk_t hR hp) hx
          rw [ek]
          exact d_r2 hw0 hw n (m := m + 1) h9 h1 h2 (by grind) (by grind) (by omega) (by omega)
        · rw [if_neg z3, if_pos (Int32.not_lt.mp z3), if_pos rfl]
          exact ⟨c, r, m, k, 0, rfl, rfl, h3, h4, h5, h1, hR⟩
/-- what is left moves to the front -/
theorem e_sh {w3 : Int32} {k : Nat} : ∀ (n j : Nat) {r : xA}, 0 ≤ r 157 67 → (r 157 67).toNatClampNeg ≤ 300 → k ≤ j → j ≤ (r 157 67).toNatClampNeg → (r 157 67).toNatClampNeg < j + n → ∃ r1, l359_161 N h b (Int32.ofNat k) w3 n (Int32.ofNat j) r = some (0, r1) ∧ (∀ p, p ≠ 186 → r1 p = r p) ∧ ∀ i, r1 186 i = if j ≤ i + k ∧ i + k < (r 157 67).toNatClampNeg then r 186 (i + k) else r 186 i
  | 0, j, r, h1, h2, h3, h4, h5 => by omega
  | n + 1, j, r, h1, h2, h3, h4, h5 => by
    rw [l359_161]
    have ew : Int32.ofNat (r 157 67).toNatClampNeg = r 157 67 := i_ofn h1
    by_cases z : (r 157 67).toNatClampNeg ≤ j
    · rw [if_pos (by rw [← ew, i_le (by omega) (by omega)]; exact z)]
      exact ⟨r, rfl, fun _ _ => rfl, fun i => by rw [if_neg (by omega)]⟩
    · have es : Int32.ofNat j - Int32.ofNat k = Int32.ofNat (j - k) := (Int32.ofNat_sub _ _ h3).symm
      have g1 : ¬ (Int32.ofNat j < 0 ∨ 300 ≤ (Int32.ofNat j).toNatClampNeg) := by
        rw [i_neg (by omega), i_cl (by omega)]
        rintro (q | q)
        · exact q
        · omega
      have g2 : ¬ (Int32.ofNat (j - k) < 0 ∨ 300 ≤ (Int32.ofNat (j - k)).toNatClampNeg) := by
        rw [i_neg (by omega), i_cl (by omega)]
        rintro (q | q)
        · exact q
        · omega
      rw [if_neg (by rw [← ew, i_le (by omega) (by omega)]; exact z), es, xg_pos g1, xg_pos g2, i_cl (show j < 2 ^ 31 by omega), i_cl (show j - k < 2 ^ 31 by omega)]
      unfold xw
      dsimp only
      have ek : Int32.ofNat j + 1 = Int32.ofNat (j + 1) := by rw [Int32.ofNat_add]; rfl
      rw [ek]
      have e67 : xU r 186 (j - k) (r 186 j) 157 67 = r 157 67 := by rw [xU_o (by decide)]
      obtain ⟨r1, t1, t2, t3⟩ := e_sh (k := k) (w3 := w3) n (j + 1) (r := xU r 186 (j - k) (r 186 j)) (by rw [e67]; exact h1) (by rw [e67]; exact h2) (by omega) (by rw [e67]; omega) (by rw [e67]; omega)
      refine ⟨r1, t1, fun p hp => by rw [t2 p hp, xU_o hp], fun i => ?_⟩
      rw [t3 i, e67, xU_eq, xU_eq]
      grind
theorem d_158 {k : Nat} {m : Int32} (hN : 100000 ≤ N) (hR : RDk k c0 r0 c r) (hk : k ≤ (r 157 67).toNatClampNeg) : ∃ r1 g, j359_158 N h b (Int32.ofNat k) m r = some (m, r1) ∧ RD (xU (xW c0 2 (c 2)) 0 3 m) (xU (xW r0 159 g) 157 4 m) (xU c 0 3 m) r1 ∧ ∀ i, By (c 2 i) ∧ g i = (c 2 i).toInt8.toInt32 := by
  obtain ⟨s1, q1, e1, ⟨a1, a2, a3, a4, a5⟩, f1, f2, f3, f4⟩ := hR
  obtain ⟨r1, t1, t2, t3⟩ := e_sh (N := N) (h := h) (b := b) (w3 := m) (k := k) N k a2 a3 (Nat.le_refl _) hk (by omega)
  have e157 : r1 157 = r 157 := t2 157 (by decide)
  unfold j359_158
  rw [t1]
  have es : r 157 67 - Int32.ofNat k = c 121 2 := by
    unfold RB at a5
    rw [← i_ofn a2, ← Int32.ofNat_sub _ _ hk, ← i_ofn a5.2.2.1]
    congr 1
    omega
  refine ⟨xU (xU r1 157 67 (r1 157 67 - Int32.ofNat k)) 157 4 m, r 159, rfl, ?_, f4⟩
  rw [e157, es]
  have key : RD (xW c0 2 (c 2)) (xW r0 159 (r 159)) c (xU r1 157 67 (c 121 2)) := by
    refine ⟨⟨fun p hp => ?_, fun p h1 h2 => ?_, fun i hi => ?_⟩, Ds_of s1 rfl (fun i h1 h2 => by rw [xU_s (by omega), e157]), Dq_of q1 rfl rfl (by rw [xU_s (by decide), e157]) (by rw [xU_s (by decide), e157]) (by rw [xU_o (by decide), t2 184 (by decide)]), De_of e1 rfl rfl (by rw [xU_s (by decide), e157]) (by rw [xU_o (by decide), t2 185 (by decide)]), ⟨⟨by rw [xU_e], fun i => ?_⟩, ?_⟩⟩
    · by_cases z : p = 2
      · subst z; rw [xW_e]
      · rw [xW_o z]; exact f1 p hp z
    · rw [xU_o h1, t2 p (by omega)]
      by_cases z : p = 159
      · subst z; rw [xW_e]
      · rw [xW_o z]; exact f2 p h1 h2 z
    · rw [xU_s (by omega), e157, xW_o (by decide)]; exact f3 i hi
    · rw [xU_o (by decide), t3]; split
      · exact a4 _
      · exact a4 _
    · rw [xU_o (by decide)]
      unfold RB at *
      refine ⟨a5.1, a5.2.1, a5.2.2.1, a5.2.2.2.1, fun i hi => ?_⟩
      rw [a5.2.2.2.2 i hi, t3, if_pos (by omega), Nat.add_comm]
  exact RD_r (by decide) (by decide) (RD_c (by decide) key)
theorem t_read (hN : 100000 ≤ N) (ho : Ro c r) (hR : RD c (xU r 157 0 0) c (xU r 157 0 0)) : Q2 (f170_read N h b x c) (f359_read N h b x r) (fun p q => p.1 = q.1 ∧ (RD c (xU r 157 0 0) p.2 q.2 ∨ ∃ f g m, 0 ≤ m ∧ m ≤ 300 ∧ RD (xU (xW c 2 f) 0 3 m) (xU (xW (xU r 157 0 0) 159 g) 157 4 m) p.2 q.2 ∧ ∀ i, By (f i) ∧ g i = (f i).toInt8.toInt32)) := by
  unfold f170_read f359_read
  have hs := hR.2.1
  have hr := hR.2.2.2.2
  unfold Ds at hs
  unfold Dr at hr
  unfold Ro at ho
  refine q_wr.mpr ?_
  refine q_il.mpr ⟨fun z => q_pr z (q_some.mpr ⟨rfl, Or.inl hR⟩), fun z1 => q_nr z1 ?_⟩
  refine q_il.mpr ⟨fun z => q_pr z (q_some.mpr ⟨rfl, Or.inl hR⟩), fun z2 => q_nr z2 (q_l2 (e_size xk121) ?_)⟩
  refine q_il.mpr ⟨fun z => q_pr (hr.1.1 ▸ z) (q_some.mpr ⟨rfl, Or.inl hR⟩), fun z => q_nr (hr.1.1 ▸ z) ?_⟩
  have hx0 : 0 ≤ x := by grind
  have hx1 : x ≤ 300 := by grind
  have h0 := RDk_0 hR ho.2.2.2
  unfold f171_takeReady
  rw [b2_g, b2_2]
  refine q_hl rfl (q_l2 (e_size xk121) (q_r2 e_flag ?_))
  rw [b2_b]
  have hz : ∀ (z : Nat) (m : Int32) (a : xA), (if z = 0 then some (m, a) else if z = 1 then some (m, a) else some (m, a)) = some (m, a) := by intro z m a; split <;> (try split) <;> rfl
  by_cases z5 : xU r 157 0 0 157 58 &&& 1 = 0
  · obtain ⟨c1, r1, m1, k1, z, t1, t2, t3, t4, t5, t6, t7⟩ := d_r2 (N := N) (h := h) (b := b) hx0 hx1 N (k := 0) (m := 0) h0 hr.1.1.symm z5 (by decide) hx0 (by omega) (by omega)
    refine q_pr (by rw [zb_0]; exact fun q => q z5) (q_lb t1 (q_rb t2 ?_))
    rw [hz, b2_some]
    obtain ⟨r2, g, u1, u2, u3⟩ := d_158 (N := N) (h := h) (b := b) (m := m1) hN t7 (by rw [t6]; exact t5)
    rw [u1]
    exact q_wl.mpr (q_some.mpr ⟨show xU c1 0 3 m1 0 3 = m1 from xU_e, Or.inr ⟨c1 2, g, m1, t3, by grind, u2, u3⟩⟩)
  · obtain ⟨c1, r1, m1, k1, z, t1, t2, t3, t4, t5, t6, t7⟩ := d_r1 (N := N) (h := h) (b := b) hx0 hx1 N (k := 0) (m := 0) h0 hr.1.1.symm z5 (by decide) hx0 (by omega) (by omega)
    refine q_nr (by rw [zb_0]; exact fun q => q z5) (q_lb t1 (q_rb t2 ?_))
    rw [hz, b2_some]
    have b3 : c 121 2 ≤ 300 := by rw [cl_lel (by decide)]; exact hr.2.2.2.2.1
    have b4 := cl_le (n := 300) b3 rfl
    have ew : Int32.ofNat (c 121 2).toNatClampNeg = c 121 2 := i_ofn hr.2.2.2.1
    have cc : (c 121 2 ≤ Int32.ofNat k1) = ((c 121 2).toNatClampNeg ≤ k1) := by
      conv => lhs; rw [← ew]
      rw [i_le (by omega) (by omega)]
    unfold j359_85
    dsimp only
    by_cases z6 : c 121 2 ≤ Int32.ofNat k1
    · have z7 := z6
      rw [cc] at z7
      rw [if_neg (by omega)] at t7
      obtain ⟨r2, g, u1, u2, u3⟩ := d_158 (N := N) (h := h) (b := b) (m := m1) hN t7 (by rw [t6]; exact t5)
      refine q_pr (by rw [t6]; exact z6) ?_
      rw [u1]
      exact q_wl.mpr (q_some.mpr ⟨show xU c1 0 3 m1 0 3 = m1 from xU_e, Or.inr ⟨c1 2, g, m1, t3, by grind, u2, u3⟩⟩)
    · have z7 := z6
      rw [cc] at z7
      refine q_nr (by rw [t6]; exact z6) (q_hr ?_ ?_)
      · rw [i_neg (by omega), i_cl (by omega)]
        rintro (q | q)
        · exact q
        · omega
      rw [i_cl (by omega)]
      have ek : Int32.ofNat k1 + 1 = Int32.ofNat (k1 + 1) := by rw [Int32.ofNat_add]; rfl
      by_cases z8 : r1 186 k1 = 256
      · rw [if_pos ⟨by omega, z8⟩] at t7
        obtain ⟨r2, g, u1, u2, u3⟩ := d_158 (N := N) (h := h) (b := b) (m := m1) hN t7 (by rw [t6]; omega)
        refine q_pr z8 ?_
        rw [ek, u1]
        exact q_wl.mpr (q_some.mpr ⟨show xU c1 0 3 m1 0 3 = m1 from xU_e, Or.inr ⟨c1 2, g, m1, t3, by grind, u2, u3⟩⟩)
      · rw [if_neg (fun q => z8 q.2)] at t7
        obtain ⟨r2, g, u1, u2, u3⟩ := d_158 (N := N) (h := h) (b := b) (m := m1) hN t7 (by rw [t6]; exact t5)
        refine q_nr z8 ?_
        rw [u1]
        exact q_wl.mpr (q_some.mpr ⟨show xU c1 0 3 m1 0 3 = m1 from xU_e, Or.inr ⟨c1 2, g, m1, t3, by grind, u2, u3⟩⟩)
end D
