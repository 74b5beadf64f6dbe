/-! The reader: strings and numbers are told. -/
/-- what telling one ability leaves alone -/
def TO (th a row : Nat) (c r c' r' : xA) : Prop := (∀ p, p ≠ 3 → p ≠ 8 → p ≠ 9 + 7 * th + 3 → p ≠ 9 + 7 * th + 4 → p ≠ 9 + 7 * th + 5 → p ≠ 9 + 7 * th + 6 → c' p = c p) ∧ (∀ i, i ≠ 6 → i ≠ 13 → c' 3 i = c 3 i) ∧ (∀ i, i ≠ a → c' (9 + 7 * th + 3) i = c (9 + 7 * th + 3) i ∧ c' (9 + 7 * th + 4) i = c (9 + 7 * th + 4) i) ∧ (∀ i, ¬ (6 ≤ a ∧ (a - 6) * 40 ≤ i ∧ i < (a - 6) * 40 + 40) → c' (9 + 7 * th + 5) i = c (9 + 7 * th + 5) i) ∧ (∀ i, ¬ (6 ≤ a ∧ i = a - 6) → c' (9 + 7 * th + 6) i = c (9 + 7 * th + 6) i) ∧ (∀ p, p ≠ 157 → p ≠ 164 → p ≠ 165 → p ≠ 166 → r' p = r p) ∧ (∀ i, i ≠ 15 → i ≠ 20 → r' 157 i = r 157 i) ∧ (∀ i, i ≠ row → r' 164 i = r 164 i ∧ r' 166 i = r 166 i) ∧ (∀ i, ¬ (40 * row ≤ i ∧ i < 40 * row + 40) → r' 165 i = r 165 i) ∧ NA r'
section T
variable {N h b : Nat} {c0 r0 c r c' r' : xA} {x y z s v w : Int32} {len p i f k m q l a e K n row d th : Nat}
theorem e_ts {P s m : Nat} (hth : th < 12) (ha : a < 39) (ha6 : 6 ≤ a) (hP : xk P = 100) (hs : s + m ≤ xl h b P) (hm : m ≤ 40) (hs2 : s < 100000) (n1 : P ≠ 9 + 7 * th + 3) (n2 : P ≠ 9 + 7 * th + 6) : f59_tellString N h b (9 + 7 * th) (Int32.ofNat a) P (Int32.ofNat s) (Int32.ofNat m) c = some (xW (xU (xU c (9 + 7 * th + 3) a 1) (9 + 7 * th + 6) (a - 6) (Int32.ofNat m)) (9 + 7 * th + 5) (va_cpy (c P) (c (9 + 7 * th + 5)) s ((a - 6) * 40) m)) := by
  obtain ⟨p1, p2, p3, p4, p5, p6, p7, p8⟩ := pl (h := h) (b := b) hth
  have em : Int32.ofNat a - 6 = Int32.ofNat (a - 6) := by rw [show (6 : Int32) = Int32.ofNat 6 from rfl, ← Int32.ofNat_sub _ _ ha6]
  have e40 : Int32.ofNat (a - 6) * 40 = Int32.ofNat ((a - 6) * 40) := by rw [Int32.ofNat_mul]; rfl
  unfold f59_tellString f60_startOf
  simp only [xw, b2_some]
  rw [xg_pos p1, xg_pos hP, p4, xg_pos (g_ix ha (by omega)), i_cl (show a < 2 ^ 31 by omega), p7, em, xg_pos (g_ix (by omega) (by omega)), i_cl (show a - 6 < 2 ^ 31 by omega), e40, p6, xg_pos ⟨by rw [i_neg (by omega)]; exact id, by rw [i_neg (by omega)]; exact id, by rw [i_neg (by omega)]; exact id, by rw [i_cl (by omega), i_cl (by omega)]; exact hs, by rw [i_cl (by omega), i_cl (by omega)]; omega⟩, i_cl (show (a - 6) * 40 < 2 ^ 31 by omega), i_cl (show m < 2 ^ 31 by omega), i_cl (show s < 2 ^ 31 by omega), xU_o n2, xU_o n1, xU_o (show 9 + 7 * th + 5 ≠ 9 + 7 * th + 6 by omega), xU_o (show 9 + 7 * th + 5 ≠ 9 + 7 * th + 3 by omega)]
theorem NA_166 {m' : Nat} (H : NA r) (hm : m' ≤ 40) : NA (xU r 166 p (Int32.ofNat m')) := ⟨H.1, fun i => by
  rw [xU_eq]
  split
  · exact ⟨m', hm, rfl⟩
  · exact H.2 i⟩
theorem d_str (hN : 100000 ≤ N) (hth : th < 12) (ha : a < 39) (ha6 : 6 ≤ a) (h8 : c 3 8 = Int32.ofNat (9 + 7 * th)) (hf : c 3 2 = r 157 13 ∧ c 3 3 = r 157 14) (HV : RV len q c r) (hq : q ≤ len + 1) (hA : NA r) : Q2 (f49_readString N h b (Int32.ofNat a) c) (f283_made N h b (Int32.ofNat (39 * th + a)) r) (fun p' q' => p'.1 = q'.1 ∧ ((p'.1 = 0 ∧ FS (39 * th + a) c r p'.2 q'.2) ∨ (p'.1 = 1 ∧ TO th a (39 * th + a) c r p'.2 q'.2 ∧ (∃ q1, q ≤ q1 ∧ q1 < len ∧ RV len q1 p'.2 q'.2) ∧ p'.2 (9 + 7 * th + 3) a = 1 ∧ Es th a p'.2 q'.2))) := by
  have hr : 39 * th + a < 468 := by omega
  have hl := HV.1
  have H0 : SLr (39 * th + a) len q 0 c r (xU c 3 13 0) r := ⟨RV_of HV (fun i h1 h2 => xU_s (by omega)) rfl rfl rfl rfl, xU_e, by omega, fun i hi => absurd hi (by omega), fun p h1 h2 => xU_o h1, fun i h1 h2 => xU_s h2, fun _ _ _ => rfl, fun _ _ _ => rfl, fun _ _ => rfl, hA⟩
  obtain ⟨pp, qq, e1, e2, hP⟩ := d_stl (N := N) (h := h) (b := b) (w1 := Int32.ofNat a) (w2 := c 3 6) (w3 := r 157 15) (q0 := q) hN hr len q 0 0 N _ _ (by omega) (Nat.le_refl _) (by omega) (by omega) (by omega) (by omega) H0
  have e1' : l49_12 N h b (Int32.ofNat a) (c 3 6) N 0 (xU c 3 13 0) = some pp := e1
  have e2' : l283_7 N h b (Int32.ofNat (39 * th + a)) (r 157 15) N 0 r = some qq := e2
  unfold f49_readString f283_made
  refine q_wl.mpr ?_
  rw [e1', e2', Option.bind_some, Option.bind_some]
  have e36 := HV.2.2.2.2.2.1
  have e37 := HV.2.2.2.2.2.2.1
  rcases hP with ⟨k1, q', m', H1, k2, k3, k4⟩ | ⟨k1, k2⟩
  · have HV1 := H1.1
    have e46 := HV1.2.2.2.2.2.1
    have e47 := HV1.2.2.2.2.2.2.1
    have eC : (if pp.1 = 0 then (j49_135 N h b (Int32.ofNat a) (c 3 6) pp.2) else (if pp.1 = 1 then (some (0, pp.2)) else (j49_135 N h b (Int32.ofNat a) (c 3 6) pp.2))) = j49_135 N h b (Int32.ofNat a) (c 3 6) pp.2 := by
      rcases k1 with q | q <;> rw [q]
      · rw [if_neg (by decide), if_neg (by decide)]
      · rw [if_pos rfl]
    rw [eC]
    unfold j49_135
    rw [e46]
    refine q_l2 (e_ba HV1 (by omega)) ?_
    rcases k4 with ⟨g1, g2⟩ | ⟨g1, g2⟩
    · refine q_pl g2 ?_
      rw [g1, if_neg (show ¬ (3 : Nat) = 0 by decide), if_neg (show ¬ (3 : Nat) = 1 by decide), if_neg (show ¬ (3 : Nat) = 2 by decide), k2]
      obtain ⟨b1, b2, b3, b4, b5, b6, b7, b8, b9, b10⟩ := id H1
      have q4 : q' < len := Tx_m (by rw [g2]; decide)
      rw [b2]
      by_cases z : m' ≤ 40
      · have z' : Int32.ofNat m' ≤ 40 := by rw [show (40 : Int32) = Int32.ofNat 40 from rfl, i_le (by omega) (by decide)]; exact z
        refine q_pl z' (q_pr z' (q_hr (g_ix hr (by omega)) (q_wr.mpr ?_)))
        rw [i_cl (by omega)]
        have hVw : Vw h b 8 0 (39 * th + a) m' pp.2 (xU qq.2.2 166 (39 * th + a) (Int32.ofNat m')) (Gr qq.2.2 (39 * th + a) m') := by
          refine ⟨⟨rfl, by show 0 + m' ≤ 40; omega, by show 40 ≤ 1320; omega, z, hr⟩, xU_e, fun i hi => ?_, fun i hi => ?_, fun i hi => ?_⟩
          · obtain ⟨t1, t2⟩ := b4 i hi (by omega)
            unfold Gr
            rw [if_pos hi, Nat.zero_add, t2, sb t1]
          · unfold Gr
            rw [if_pos hi, xU_o (by decide)]
          · unfold Gr
            rw [if_neg (by omega)]
        obtain ⟨w1, f1, f2, f3, f4⟩ := d_wf (N := N) hN hVw
        refine q_l2 f1 (q_r2 f2 ?_)
        rcases f3 with e | e
        · refine q_pl e (q_pr e ?_)
          rw [e36, e37]
          refine ⟨_, _, rfl, rfl, rfl, Or.inl ⟨rfl, ?_⟩⟩
          dsimp only
          have := FS_f (x := 8) (y := Int32.ofNat q) H1
          obtain ⟨s1, s2, s3, s4, s5, s6, s7, s8, s9⟩ := this
          refine ⟨s1, s2, fun p h1 h2 h3 => by rw [xU_o h1, xU_o h1, xU_o h3]; exact b7 p h1 h2, fun i h1 h2 h3 h4 => by rw [xU_s h2, xU_s h1, xU_o (by decide)]; exact b8 i h3 h4, fun i h1 => by rw [xU_o (by decide), xU_o (by decide), xU_o (by decide)]; exact b9 i h1, fun i h1 => by rw [xU_o (by decide), xU_o (by decide), xU_s h1, b7 166 (by decide) (by decide)], NA_166 b10 z, by rw [xU_s (by decide), xU_e, xU_s (by decide), xU_e], by rw [xU_e, xU_e]⟩
        · refine q_nl (by rw [e]; decide) (q_nr (by rw [e]; decide) ?_)
          have e38 : pp.2 3 8 = Int32.ofNat (9 + 7 * th) := by rw [b6 8 (by decide) (by decide)]; exact h8
          obtain ⟨p1, p2, p3, p4, p5, p6, p7, p8⟩ := pl (h := h) (b := b) hth
          rw [e38, i_cl (show 9 + 7 * th < 2 ^ 31 by omega)]
          refine q_hl (ofn_ne (by omega)) (q_hl p1 ?_)
          rw [b2]
          refine q_l1 (e_ts (P := 8) (s := 0) (m := m') hth ha ha6 rfl (by show 0 + m' ≤ 40; omega) z (by omega) (by omega) (by omega)) ?_
          unfold j283_286
          refine ⟨_, _, rfl, rfl, rfl, Or.inr ⟨rfl, ⟨fun p h1 h2 h3 h4 h5 h6 => ?_, fun i h1 h2 => ?_, fun i h1 => ⟨?_, ?_⟩, fun i h1 => ?_, fun i h1 => ?_, fun p h1 h2 h3 h4 => ?_, fun i h1 h2 => ?_, fun i h1 => ⟨?_, ?_⟩, fun i h1 => ?_, NA_166 b10 z⟩, ⟨q', ?_, q4, ?_⟩, ?_, ?_⟩⟩ <;> try dsimp only
          · rw [xW_o h5, xU_o h6, xU_o h3]; exact b5 p h1 h2
          · rw [xW_o (by omega), xU_o (by omega), xU_o (by omega)]; exact b6 i h1 h2
          · rw [xW_o (by omega), xU_o (by omega), xU_s h1, b5 _ (by omega) (by omega)]
          · rw [xW_o (by omega), xU_o (by omega), xU_o (by omega), b5 _ (by omega) (by omega)]
          · rw [xW_e]
            unfold va_cpy
            rw [if_neg (by omega), b5 _ (by omega) (by omega)]
          · rw [xW_o (by omega), xU_s (by omega), xU_o (by omega), b5 _ (by omega) (by omega)]
          · rw [xU_o h4]; exact b7 p h1 h3
          · rw [xU_o (by decide)]; exact b8 i h1 h2
          · rw [xU_o (by decide), b7 164 (by decide) (by decide)]
          · rw [xU_s h1, b7 166 (by decide) (by decide)]
          · rw [xU_o (by decide)]; exact b9 i h1
          · exact k3.1
          · exact RV_of b1 (fun i h1 h2 => by rw [xW_o (by omega), xU_o (by omega), xU_o (by omega)]) (by rw [xW_o (by omega), xU_o (by omega), xU_o (by omega)]) rfl rfl rfl
          · rw [xW_o (by omega), xU_o (by omega), xU_e]
          · refine ⟨m', z, by rw [xW_o (by omega), xU_e], xU_e, fun i hi => ?_, ?_⟩
            · obtain ⟨t1, t2⟩ := b4 i hi (by omega)
              rw [xW_e, xU_o (by decide), t2, sb t1]
              unfold va_cpy
              rw [if_pos (by omega), show 0 + ((a - 6) * 40 + i - (a - 6) * 40) = i by omega]
            · exact f4 e
      · have z' : ¬ Int32.ofNat m' ≤ 40 := by rw [show (40 : Int32) = Int32.ofNat 40 from rfl, i_le (by omega) (by decide)]; exact z
        refine q_nl z' (q_nr z' ?_)
        rw [e36, e37]
        exact ⟨_, _, rfl, rfl, rfl, Or.inl ⟨rfl, FS_f H1⟩⟩
    · rw [g1, if_pos rfl, e47]
      refine q_nl g2 ?_
      rw [e46]
      exact ⟨_, _, rfl, rfl, rfl, Or.inl ⟨rfl, FS_f H1⟩⟩
  · rw [k1, if_neg (by decide), if_pos rfl]
    rcases k2 with ⟨g1, g2⟩ | ⟨g1, g2⟩
    · rw [g1, if_neg (by decide), if_neg (by decide), if_pos rfl]
      exact ⟨_, _, rfl, rfl, rfl, Or.inl ⟨rfl, g2⟩⟩
    · rw [g1, if_neg (by decide), if_pos rfl]
      exact ⟨_, _, rfl, rfl, rfl, Or.inl ⟨rfl, g2⟩⟩
end T
section T2
variable {N h b : Nat} {c0 r0 c r c' r' : xA} {x y z s v w : Int32} {len p i f k m q l a e K n row d th : Nat}
theorem t64 {u : Nat} (hu : u ≤ 9) : (Int32.ofNat (48 + u)).toInt64 = Int64.ofNat (48 + u) := by
  have : ∀ m : Fin 10, (Int32.ofNat (48 + m.val)).toInt64 = Int64.ofNat (48 + m.val) := by decide
  exact this ⟨u, by omega⟩
theorem t32 {B : Nat} (hB : B < 2 ^ 31) : (Int64.ofNat B).toInt32 = Int32.ofNat B := by
  apply Int32.toInt_inj.mp
  rw [Int64.toInt_toInt32, Int64.toInt_ofNat_of_lt (by omega), Int32.toInt_ofNat_of_lt hB]
  exact Int.bmod_eq_of_le (by omega) (by omega)
/-- digits on both sides: the class's number stops at 32768, the reference's at 1000000 -/
def NB (A B : Nat) : Prop := (A = B ∧ A ≤ 32767) ∨ (A = 32768 ∧ 32768 ≤ B ∧ B ≤ 1000000)
theorem d_dgl {w1 w2 w3 w4 : Int32} (H : RV len p c r) : ∀ (k q A B f : Nat), len ≤ q + k → q ≤ max len p → p ≤ q → p ≤ 8000 → k < f → NB A B → ∃ q' A' B', q ≤ q' ∧ q' ≤ max len p ∧ NB A' B' ∧ l47_7 N h b w1 w2 f (Int32.ofNat A) (cp c q) = some (0, Int32.ofNat A', cp c q') ∧ l282_7 N h b w3 w4 f (Int64.ofNat B) (rp r q) = some (0, Int64.ofNat B', rp r q') := by
  intro k
  induction k with
  | zero =>
    intro q A B f h1 h2 h0 hp h3 h4
    obtain ⟨f, rfl⟩ : ∃ f', f = f' + 1 := ⟨f - 1, by omega⟩
    have hl := H.1
    have Hq := RV_q (q := q) H (by omega)
    have eT : Tx (cp c q) len q = -1 := if_neg (by omega)
    refine ⟨q, A, B, Nat.le_refl _, h2, h4, ?_, ?_⟩
    · rw [l47_7, if_pos (by rw [l_tx Hq]; omega)]
    · rw [l282_7, rp_15, e_hr Hq (by omega), b2_some, e_dg', b2_some, eT, if_pos (zb_f (by decide))]
  | succ k ih =>
    intro q A B f h1 h2 h0 hp h3 h4
    obtain ⟨f, rfl⟩ : ∃ f', f = f' + 1 := ⟨f - 1, by omega⟩
    have hl := H.1
    have Hq := RV_q (q := q) H (by omega)
    by_cases lq : q < len
    · by_cases z : 48 ≤ Tx c len q ∧ Tx c len q ≤ 57
      · have zu : ∃ u : Nat, u ≤ 9 ∧ Tx c len q = Int32.ofNat (48 + u) := by
          obtain ⟨n, hn, en, _⟩ := i_nat (show 0 ≤ Tx c len q by grind)
          rw [en, show (48 : Int32) = Int32.ofNat 48 from rfl, show (57 : Int32) = Int32.ofNat 57 from rfl, i_le (by decide) hn, i_le hn (by decide)] at z
          exact ⟨n - 48, by omega, by rw [en, show 48 + (n - 48) = n by omega]⟩
        obtain ⟨u, hu, eu⟩ := zu
        have hB : B ≤ 1000000 := by rcases h4 with q | q <;> omega
        have hA : A ≤ 32768 := by rcases h4 with q | q <;> omega
        have eA : xmin 32768 (Int32.ofNat A * 10 + Int32.ofNat (48 + u) - 48) = Int32.ofNat (min 32768 (A * 10 + u)) := by
          have : Int32.ofNat A * 10 + Int32.ofNat (48 + u) - 48 = Int32.ofNat (A * 10 + u) := by
            rw [show (10 : Int32) = Int32.ofNat 10 from rfl, show (48 : Int32) = Int32.ofNat 48 from rfl, ← Int32.ofNat_mul, ← Int32.ofNat_add, ← Int32.ofNat_sub _ _ (by omega)]
            congr 1
            omega
          rw [this, show (32768 : Int32) = Int32.ofNat 32768 from rfl, xminN (by decide) (by omega)]
        have eB : xminl (((10 * Int64.ofNat B) + (Int32.ofNat (48 + u)).toInt64) - 48) 1000000 = Int64.ofNat (min 1000000 (B * 10 + u)) := by
          have : 10 * Int64.ofNat B + (Int32.ofNat (48 + u)).toInt64 - 48 = Int64.ofNat (B * 10 + u) := by
            rw [t64 hu, show (10 : Int64) = Int64.ofNat 10 from rfl, show (48 : Int64) = Int64.ofNat 48 from rfl, ← Int64.ofNat_mul, ← Int64.ofNat_add, ← Int64.ofNat_sub _ _ (by omega)]
            congr 1
            omega
          rw [this]
          unfold xminl
          rw [show (1000000 : Int64) = Int64.ofNat 1000000 from rfl]
          by_cases q : 1000000 < B * 10 + u
          · rw [if_pos (by rw [j_lt (by decide) (by omega)]; exact q), Nat.min_eq_left (by omega)]
          · rw [if_neg (by rw [j_lt (by decide) (by omega)]; exact q), Nat.min_eq_right (by omega)]
        have hNB : NB (min 32768 (A * 10 + u)) (min 1000000 (B * 10 + u)) := by
          unfold NB at *
          rcases h4 with ⟨g1, g2⟩ | ⟨g1, g2, g3⟩
          · subst g1
            by_cases q : A * 10 + u ≤ 32767
            · left; omega
            · right; omega
          · right; omega
        obtain ⟨q', A', B', g1, g2, g3, g4, g5⟩ := ih (q + 1) _ _ f (by omega) (by omega) (by omega) hp (by omega) hNB
        refine ⟨q', A', B', by omega, g2, g3, ?_, ?_⟩
        · rw [l47_7, if_neg (by rw [l_tx Hq]; omega), g_tx Hq lq, v_tx Hq lq, e_dg, b2_some, Tx_cp, if_neg (by rw [zb_t z]; decide), g_tx Hq lq]
          show l47_7 N h b w1 w2 f (xmin 32768 (Int32.ofNat A * 10 + (cp c q) ((cp c q 3 4).toNatClampNeg) ((cp c q 3 6).toNatClampNeg) - 48)) (xU (cp c q) 3 6 (cp c q 3 6 + 1)) = _
          rw [v_tx Hq lq, Tx_cp, eu, eA, cp_n]
          exact g4
        · rw [l282_7, rp_15, e_hr Hq (by omega), b2_some, e_dg', b2_some, Tx_cp, if_neg (by rw [zb_t z]; decide), rp_15, e_hr Hq (by omega), b2_some, Tx_cp, eu, eB]
          show l282_7 N h b w3 w4 f (Int64.ofNat (min 1000000 (B * 10 + u))) (xU (rp r q) 157 15 (rp r q 157 15 + 1)) = _
          rw [rp_n]
          exact g5
      · refine ⟨q, A, B, Nat.le_refl _, h2, h4, ?_, ?_⟩
        · rw [l47_7, if_neg (by rw [l_tx Hq]; omega), g_tx Hq lq, v_tx Hq lq, e_dg, b2_some, Tx_cp, if_pos (zb_f z)]
        · rw [l282_7, rp_15, e_hr Hq (by omega), b2_some, e_dg', b2_some, Tx_cp, if_pos (zb_f z)]
    · exact ih q A B (f + 1) (by omega) h2 h0 hp (by omega) h4
theorem d_num (hN : 100000 ≤ N) (hth : th < 12) (ha : a < 6) (ha3 : 3 ≤ a) (h8 : c 3 8 = Int32.ofNat (9 + 7 * th)) (HV : RV len q c r) (hq : q ≤ len + 1) (hA : NA r) : Q2 (f47_readNumber N h b (Int32.ofNat a) c) (f282_digits N h b (Int32.ofNat (39 * th + a)) r) (fun p' q' => p'.1 = q'.1 ∧ ((p'.1 = 0 ∧ FS (39 * th + a) c r p'.2 q'.2) ∨ (p'.1 = 1 ∧ TO th a (39 * th + a) c r p'.2 q'.2 ∧ (∃ q1, q ≤ q1 ∧ q1 ≤ len + 1 ∧ RV len q1 p'.2 q'.2) ∧ p'.2 (9 + 7 * th + 3) a = 1 ∧ p'.2 (9 + 7 * th + 4) a = q'.2 164 (39 * th + a) ∧ 0 ≤ p'.2 (9 + 7 * th + 4) a ∧ p'.2 (9 + 7 * th + 4) a ≤ 32767))) := by
  have hl := HV.1
  have e36 := HV.2.2.2.2.2.1
  have e37 := HV.2.2.2.2.2.2.1
  obtain ⟨q', A, B, g1, g2, g3, g4, g5⟩ := d_dgl (N := N) (h := h) (b := b) (w1 := Int32.ofNat a) (w2 := c 3 6) (w3 := Int32.ofNat (39 * th + a)) (w4 := r 157 15) HV len q 0 0 N (by omega) (by omega) (Nat.le_refl _) (by omega) (by omega) (Or.inl ⟨rfl, by omega⟩)
  rw [cp_s HV] at g4
  rw [rp_s HV] at g5
  have g4' : l47_7 N h b (Int32.ofNat a) (c 3 6) N 0 c = some (0, Int32.ofNat A, cp c q') := g4
  have g5' : l282_7 N h b (Int32.ofNat (39 * th + a)) (r 157 15) N 0 r = some (0, Int64.ofNat B, rp r q') := g5
  have Hq := RV_q (q := q') HV (by omega)
  have FSf : ∀ {x y : Int32}, FS (39 * th + a) c r (xU (xU (cp c q') 3 2 x) 3 3 y) (xU (xU (rp r q') 157 13 x) 157 14 y) := by
    intro x y
    unfold cp rp
    exact ⟨fun p h1 h2 => by rw [xU_o h1, xU_o h1, xU_o h1], fun i h1 h2 h3 h4 => by rw [xU_s h2, xU_s h1, xU_s h3], fun p h1 h2 h3 => by rw [xU_o h1, xU_o h1, xU_o h1], fun i h1 h2 h3 h4 => by rw [xU_s h2, xU_s h1, xU_s h3], fun i h1 => rfl, fun i h1 => rfl, hA, by rw [xU_s (by decide), xU_e, xU_s (by decide), xU_e], by rw [xU_e, xU_e]⟩
  unfold f47_readNumber f282_digits
  rw [g4', g5', Option.bind_some, Option.bind_some]
  dsimp only
  unfold j47_69 j47_91 j47_118 j282_75 j282_103
  simp only [cp_6, rp_15, e36, e37]
  by_cases z1 : q' = q
  · subst z1
    refine q_pl rfl (q_pr rfl ?_)
    exact ⟨_, _, rfl, rfl, rfl, Or.inl ⟨rfl, FSf⟩⟩
  · have nz : ¬ Int32.ofNat q' = Int32.ofNat q := by rw [i_eq (by omega) (by omega)]; exact z1
    refine q_nl nz (q_nr nz (q_l2 (e_ba Hq (by omega)) (q_l2 e_itx (q_r2 (e_non Hq) ?_))))
    by_cases z2 : Tx (cp c q') len q' = -1 ∨ Tx (cp c q') len q' = 9 ∨ Tx (cp c q') len q' = 10 ∨ 32 ≤ Tx (cp c q') len q' ∧ Tx (cp c q') len q' ≤ 126
    · refine q_nl (by rw [zb_t z2]; decide) (q_pr (zb_f (fun n => n z2)) ?_)
      rw [cp_6, rp_15, ← Int32.ofNat_sub _ _ g1]
      by_cases z3 : 5 < Int32.ofNat (q' - q)
      · exact q_pl z3 (q_pr z3 ⟨_, _, rfl, rfl, rfl, Or.inl ⟨rfl, FSf⟩⟩)
      · refine q_nl z3 (q_nr z3 ?_)
        have hA2 : A ≤ 32768 := by rcases g3 with q | q <;> omega
        have hB2 : B ≤ 1000000 := by rcases g3 with q | q <;> omega
        by_cases z4 : A ≤ 32767
        · have eAB : A = B := by rcases g3 with q | q <;> omega
          subst eAB
          refine q_pl (by rw [show (32767 : Int32) = Int32.ofNat 32767 from rfl, i_le (by omega) (by decide)]; exact z4) (q_pr (by rw [lg_cmp_le, show (32767 : Int64) = Int64.ofNat 32767 from rfl, j_le (by omega) (by decide)]; exact z4) ?_)
          obtain ⟨p1, p2, p3, p4, p5, p6, p7, p8⟩ := pl (h := h) (b := b) hth
          have e38 : cp c q' 3 8 = Int32.ofNat (9 + 7 * th) := by unfold cp; rw [xU_s (by decide)]; exact h8
          rw [e38, i_cl (show 9 + 7 * th < 2 ^ 31 by omega)]
          refine q_hl (ofn_ne (by omega)) (q_hl p1 ?_)
          have et : f48_tellNumber N h b (9 + 7 * th) (Int32.ofNat a) (Int32.ofNat A) (cp c q') = some (xU (xU (cp c q') (9 + 7 * th + 3) a 1) (9 + 7 * th + 4) a (Int32.ofNat A)) := by
            unfold f48_tellNumber
            simp only [xw]
            rw [xg_pos p1, p4, xg_pos (g_ix (by omega) (by omega)), p5, xg_pos (g_ix ha (by omega)), i_cl (show a < 2 ^ 31 by omega)]
          refine q_l1 et (q_hr (g_ix (by omega) (by omega)) ?_)
          rw [i_cl (by omega), t32 (by omega)]
          unfold cp rp
          refine ⟨_, _, rfl, rfl, rfl, Or.inr ⟨rfl, ⟨fun p h1 h2 h3 h4 h5 h6 => ?_, fun i h1 h2 => ?_, fun i h1 => ⟨?_, ?_⟩, fun i h1 => ?_, fun i h1 => ?_, fun p h1 h2 h3 h4 => ?_, fun i h1 h2 => ?_, fun i h1 => ⟨?_, ?_⟩, fun i h1 => ?_, NA_of hA rfl rfl⟩, ⟨q', g1, by omega, ?_⟩, ?_, ?_, ?_, ?_⟩⟩ <;> try dsimp only
          · rw [xU_o h4, xU_o h3, xU_o h1]
          · rw [xU_o (by omega), xU_o (by omega), xU_s h1]
          · rw [xU_o (by omega), xU_s h1, xU_o (by omega)]
          · rw [xU_s h1, xU_o (by omega), xU_o (by omega)]
          · rw [xU_o (by omega), xU_o (by omega), xU_o (by omega)]
          · rw [xU_o (by omega), xU_o (by omega), xU_o (by omega)]
          · rw [xU_o h2, xU_o h1]
          · rw [xU_o (by decide), xU_s h1]
          · rw [xU_s h1, xU_o (by decide)]
          · rw [xU_o (by decide), xU_o (by decide)]
          · rw [xU_o (by decide), xU_o (by decide)]
          · exact RV_of Hq (fun i h1 h2 => by rw [xU_o (by omega), xU_o (by omega)]; rfl) (by rw [xU_o (by omega), xU_o (by omega)]; rfl) rfl rfl rfl
          · rw [xU_o (by omega), xU_e]
          · rw [xU_e, xU_e]
          · rw [xU_e]; exact zf (by omega)
          · rw [xU_e, show (32767 : Int32) = Int32.ofNat 32767 from rfl, i_le (by omega) (by decide)]; exact z4
        · refine q_nl (by rw [show (32767 : Int32) = Int32.ofNat 32767 from rfl, i_le (by omega) (by decide)]; exact z4) (q_nr (by rw [lg_cmp_le, show (32767 : Int64) = Int64.ofNat 32767 from rfl, j_le (by omega) (by decide)]; rcases g3 with q | q <;> omega) ?_)
          exact ⟨_, _, rfl, rfl, rfl, Or.inl ⟨rfl, FSf⟩⟩
    · refine q_pl (zb_f z2) (q_nr (by rw [zb_t z2]; decide) ?_)
      rw [cp_6, rp_15]
      exact ⟨_, _, rfl, rfl, rfl, Or.inl ⟨rfl, FSf⟩⟩
end T2
