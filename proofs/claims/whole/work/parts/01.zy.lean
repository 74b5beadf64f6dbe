/-! The reader: a whole string. -/
section T
variable {N h b : Nat} {c0 r0 c r c' r' : xA} {x y z s v w : Int32} {len p i f k m q l a e K n row d : Nat}
def EscP (N h b row q : Nat) (c0 r0 c r : xA) (F G : Option (Int32 × xA)) : Prop := (∃ c1 r1, F = some (0, c1) ∧ G = some (0, r1) ∧ FS row c0 r0 c1 r1) ∨ (∃ v d, By v ∧ (d = 2 ∨ d = 4) ∧ F = xb1 (f52_make N h b v c) (fun a => some (1, xU a 3 6 (a 3 6 + Int32.ofNat d))) ∧ G = some (Int32.ofNat d, xU r 157 20 v))
theorem fl2 (H : SLr row len q m c0 r0 c r) : ∃ c1' r1', xb2 (f26_failed N h b x y c) (fun r22 a23 => xg (r22 = 0 ∨ r22 = 1) (some (r22, a23))) = some ((0 : Int32), c1') ∧ xb2 (f270_fails N h b x y r) (fun r38 a39 => some ((0 : Int32), a39)) = some (0, r1') ∧ FS row c0 r0 c1' r1' := ⟨_, _, rfl, rfl, FS_f H⟩
theorem d_bsl (hN : 100000 ≤ N) (H : SLr row len q m c0 r0 c r) (hq : q ≤ 8000) : EscP N h b row q c0 r0 c r (f50_readBackslash N h b c) (f284_escape N h b 92 r) := by
  have HV := H.1
  have e15 : r 157 15 + 1 = Int32.ofNat (q + 1) := by rw [HV.2.2.2.2.2.2.1, on_s]
  have e6 : c 3 6 + 1 = Int32.ofNat (q + 1) := by rw [HV.2.2.2.2.2.1, on_s]
  have e36 := HV.2.2.2.2.2.1
  have e37 := HV.2.2.2.2.2.2.1
  have eb := e_ba (N := N) (h := h) (b := b) HV (show q + 1 < 100000 by omega)
  have eh := e_hr (N := N) (h := h) (b := b) HV (show q + 1 < 100000 by omega)
  have ee := e_end (N := N) (h := h) (b := b) HV (show q + 1 < 100000 by omega)
  unfold f50_readBackslash f284_escape j284_51
  rw [e15, e6, eb, b2_some, e_itx, b2_some, ee, b2_some, e15, eh, b2_some, e_itx', b2_some]
  generalize Tx c len (q + 1) = T at eb eh ee ⊢
  unfold j284_113
  by_cases z1 : T = -1 ∨ T = 10
  · have n2 : ¬ zb (T = -1 ∨ T = 9 ∨ T = 10 ∨ 32 ≤ T ∧ T ≤ 126) = 0 := by rw [zb_t (by rcases z1 with q | q <;> simp [q])]; decide
    have n4 : T < 48 := by rcases z1 with q | q <;> rw [q] <;> decide
    rw [if_neg n2, if_pos n4, if_neg (show ¬ zb (T = -1 ∨ T = 10) = 0 by rw [zb_t z1]; decide), b2_some, if_neg (show ¬ (10 : Int32) = 0 by decide), if_neg (show ¬ (10 : Int32) ≤ 0 by decide)]
    have ex : f53_escaped N h b T c = some (-1, c) := by
      unfold f53_escaped
      rcases z1 with q | q <;> rw [q] <;> rfl
    unfold j50_47
    rw [ex, b2_some, if_pos rfl, e36, e37]
    exact Or.inl (fl2 H)
  rw [if_pos (show zb (T = -1 ∨ T = 10) = 0 from zb_f z1)]
  by_cases z2 : T = 9 ∨ T = 10 ∨ 32 ≤ T ∧ T ≤ 126
  · rw [if_neg (show ¬ zb (T = -1 ∨ T = 9 ∨ T = 10 ∨ 32 ≤ T ∧ T ≤ 126) = 0 by rw [zb_t (Or.inr z2)]; decide), if_neg (show ¬ zb (T = 9 ∨ T = 10 ∨ 32 ≤ T ∧ T ≤ 126) = 0 by rw [zb_t z2]; decide), e15, eh, b2_some, if_pos (show (0 : Int32) = 0 from rfl), if_neg (show ¬ (92 : Int32) = 94 by decide), if_pos (show (0 : Int32) ≤ 0 by decide), if_neg (show ¬ (92 : Int32) = 94 by decide)]
    have tab : EscP N h b row q c0 r0 c r (j50_47 N h b T c) (j284_155 N h b T r) := by
      unfold j50_47 f53_escaped j284_155
      have yes : ∀ u, By u → EscP N h b row q c0 r0 c r (xb2 (some (u, c)) (fun r24 a25 => if r24 = (-1) then (xb2 (f26_failed N h b 10 (a25 3 6) a25) (fun r30 a31 => xg (r30 = 0 ∨ r30 = 1) (some (r30, a31)))) else (xb1 (f52_make N h b r24 a25) (fun a36 => xw (xU a36 3 6 ((a36 3 6) + 2)) (fun a37 => some (1, a37)))))) (xw (xU r 157 20 u) (fun a47 => some (2, a47))) := by
        intro u hu
        have nu : ¬ u = -1 := fun e => by have := (by_le hu).1; rw [e] at this; exact absurd this (by decide)
        rw [b2_some, if_neg nu]
        exact Or.inr ⟨u, 2, hu, Or.inl rfl, rfl, rfl⟩
      by_cases y1 : T = 44 ∨ T = 58 ∨ T = 92 ∨ T = 94
      · rw [if_pos y1, if_pos y1]
        exact yes T (by rcases y1 with e | e | e | e <;> rw [e] <;> decide)
      rw [if_neg y1, if_neg y1]
      by_cases y2 : T = 69
      · rw [if_pos y2, if_pos y2]; exact yes 27 (by decide)
      rw [if_neg y2, if_neg y2]
      by_cases y3 : T = 98
      · rw [if_pos y3, if_pos y3]; exact yes 8 (by decide)
      rw [if_neg y3, if_neg y3]
      by_cases y4 : T = 102
      · rw [if_pos y4, if_pos y4]; exact yes 12 (by decide)
      rw [if_neg y4, if_neg y4]
      by_cases y5 : T = 110
      · rw [if_pos y5, if_pos y5]; exact yes 10 (by decide)
      rw [if_neg y5, if_neg y5]
      by_cases y6 : T = 114
      · rw [if_pos y6, if_pos y6]; exact yes 13 (by decide)
      rw [if_neg y6, if_neg y6]
      by_cases y7 : T = 115
      · rw [if_pos y7, if_pos y7]; exact yes 32 (by decide)
      rw [if_neg y7, if_neg y7]
      by_cases y8 : T = 116
      · rw [if_pos y8, if_pos y8]; exact yes 9 (by decide)
      rw [if_neg y8, if_neg y8, b2_some, if_pos rfl, e36, e37]
      exact Or.inl (fl2 H)
    by_cases z3 : T < 48
    · rw [if_pos z3, if_pos z3]; exact tab
    rw [if_neg z3, if_neg z3]
    by_cases z4 : 55 < T
    · rw [if_pos z4, if_pos z4]; exact tab
    rw [if_neg z4, if_neg z4]
    rcases d_oct (N := N) (h := h) (b := b) hN H hq with ⟨c1, r1, g1, g2, g3⟩ | ⟨u, g1, g2, g3⟩
    · rw [g1, g2, b2_some, b2_some, xg_pos (Or.inl rfl)]
      exact Or.inl ⟨c1, r1, rfl, rfl, g3⟩
    · rw [g2, g3]
      refine Or.inr ⟨u, 4, g1, Or.inr rfl, ?_, rfl⟩
      cases f52_make N h b u c <;> rfl
  · rw [if_pos (show zb (T = -1 ∨ T = 9 ∨ T = 10 ∨ 32 ≤ T ∧ T ≤ 126) = 0 from zb_f (fun z => z.elim (fun e => z1 (Or.inl e)) z2)), if_pos (show zb (T = 9 ∨ T = 10 ∨ 32 ≤ T ∧ T ≤ 126) = 0 from zb_f z2), e15, e6]
    exact Or.inl (fl2 H)
theorem d_crt (H : SLr row len q m c0 r0 c r) (hq : q ≤ 8000) : EscP N h b row q c0 r0 c r (f54_readCaret N h b c) (f284_escape N h b 94 r) := by
  have HV := H.1
  have e15 : r 157 15 + 1 = Int32.ofNat (q + 1) := by rw [HV.2.2.2.2.2.2.1, on_s]
  have e6 : c 3 6 + 1 = Int32.ofNat (q + 1) := by rw [HV.2.2.2.2.2.1, on_s]
  have e36 := HV.2.2.2.2.2.1
  have e37 := HV.2.2.2.2.2.2.1
  have eb := e_ba (N := N) (h := h) (b := b) HV (show q + 1 < 100000 by omega)
  have eh := e_hr (N := N) (h := h) (b := b) HV (show q + 1 < 100000 by omega)
  have ee := e_end (N := N) (h := h) (b := b) HV (show q + 1 < 100000 by omega)
  unfold f54_readCaret f284_escape j284_51 j284_110 j284_113 j54_48 j54_59
  rw [e15, e6, eb, b2_some, e_itx, b2_some, ee, b2_some, e15, eh, b2_some, e_itx', b2_some]
  generalize Tx c len (q + 1) = T at eb eh ee ⊢
  by_cases z1 : T = -1 ∨ T = 10
  · have n2 : ¬ zb (T = -1 ∨ T = 9 ∨ T = 10 ∨ 32 ≤ T ∧ T ≤ 126) = 0 := by rw [zb_t (by rcases z1 with q | q <;> simp [q])]; decide
    have n3 : ¬ T = 63 := by rcases z1 with q | q <;> rw [q] <;> decide
    have n4 : T < 64 := by rcases z1 with q | q <;> rw [q] <;> decide
    rw [if_neg n2, if_neg n3, if_pos n4, if_neg (show ¬ zb (T = -1 ∨ T = 10) = 0 by rw [zb_t z1]; decide), b2_some, if_neg (show ¬ (10 : Int32) = 0 by decide), if_neg (show ¬ (10 : Int32) ≤ 0 by decide), e36, e37]
    exact Or.inl (fl2 H)
  rw [if_pos (show zb (T = -1 ∨ T = 10) = 0 from zb_f z1)]
  by_cases z2 : T = 9 ∨ T = 10 ∨ 32 ≤ T ∧ T ≤ 126
  · rw [if_neg (show ¬ zb (T = -1 ∨ T = 9 ∨ T = 10 ∨ 32 ≤ T ∧ T ≤ 126) = 0 by rw [zb_t (Or.inr z2)]; decide), if_neg (show ¬ zb (T = 9 ∨ T = 10 ∨ 32 ≤ T ∧ T ≤ 126) = 0 by rw [zb_t z2]; decide), e15, eh, b2_some, if_pos (show (0 : Int32) = 0 from rfl), if_pos (show (94 : Int32) = 94 from rfl)]
    by_cases z3 : T = 63
    · rw [if_pos z3, if_pos z3, if_pos z3]
      refine Or.inr ⟨127, 2, by decide, Or.inl rfl, rfl, ?_⟩
      unfold xw
      dsimp only
      rw [if_pos (show (0 : Int32) ≤ 0 by decide), if_pos rfl]
      rfl
    rw [if_neg z3, if_neg z3, if_neg z3]
    by_cases z4 : T < 64
    · rw [if_pos z4, if_pos z4, if_neg (show ¬ (10 : Int32) ≤ 0 by decide), e36, e37]
      exact Or.inl (fl2 H)
    rw [if_neg z4, if_neg z4]
    by_cases z5 : T ≤ 95
    · rw [if_pos z5, if_neg (by grind)]
      refine Or.inr ⟨T - 64, 2, by_of (by grind) (by grind), Or.inl rfl, rfl, ?_⟩
      unfold xw
      dsimp only
      rw [if_pos (show (0 : Int32) ≤ 0 by decide), if_pos rfl]
      rfl
    · rw [if_neg z5, if_pos (by grind), if_neg (show ¬ (10 : Int32) ≤ 0 by decide), e36, e37]
      exact Or.inl (fl2 H)
  · rw [if_pos (show zb (T = -1 ∨ T = 9 ∨ T = 10 ∨ 32 ≤ T ∧ T ≤ 126) = 0 from zb_f (fun z => z.elim (fun e => z1 (Or.inl e)) z2)), if_pos (show zb (T = 9 ∨ T = 10 ∨ 32 ≤ T ∧ T ≤ 126) = 0 from zb_f z2), e15, e6]
    exact Or.inl (fl2 H)
theorem e_202 {rc : Int32 → xA → Option (Nat × Int32 × xA)} {w2 : Int32} (hr : row < 468) (HV : r 157 15 = Int32.ofNat q) (hv : By v) (hm : m ≤ 9000) : j283_202 N h b rc (Int32.ofNat row) w2 (Int32.ofNat m) v (Int32.ofNat d) r = rc (Int32.ofNat (m + 1)) (mkR row m v (rp r (q + d))) := by
  have nv : ¬ v = -1 := fun e => by have := (by_le hv).1; rw [e] at this; exact absurd this (by decide)
  unfold j283_202 j283_242 mkR
  show (if v = -1 then _ else _) = _
  rw [if_neg nv, HV, ← Int32.ofNat_add, on_s]
  by_cases z : m < 40
  · rw [if_neg (by rw [show (40 : Int32) = Int32.ofNat 40 from rfl, i_le (by decide) (by omega)]; omega), if_pos z, o40, xg_pos (g_ix (by omega) (by omega)), i_cl (by omega)]
    rfl
  · rw [if_pos (by rw [show (40 : Int32) = Int32.ofNat 40 from rfl, i_le (by decide) (by omega)]; omega), if_neg z]
    rfl
theorem e_202n {rc : Int32 → xA → Option (Nat × Int32 × xA)} {w2 w1 : Int32} (HV : r 157 15 = Int32.ofNat q) : j283_202 N h b rc w1 w2 x (-1) (Int32.ofNat d) r = rc x (rp r (q + d)) := by
  unfold j283_202
  simp only [xw]
  rw [if_pos trivial, HV, ← Int32.ofNat_add]
  rfl
def SP (row len q0 : Nat) (c0 r0 : xA) (p : Nat × xA) (q : Nat × Int32 × xA) : Prop := ((p.1 = 2 ∨ p.1 = 0) ∧ ∃ q' m', SLr row len q' m' c0 r0 p.2 q.2.2 ∧ q.2.1 = Int32.ofNat m' ∧ (q0 ≤ q' ∧ q' ≤ 8000) ∧ ((q.1 = 3 ∧ Tx p.2 len q' = 44) ∨ (q.1 = 0 ∧ ¬ Tx p.2 len q' = 44))) ∨ (p.1 = 1 ∧ ((q.1 = 2 ∧ FS row c0 r0 p.2 q.2.2) ∨ (q.1 = 1 ∧ FS row c0 r0 p.2 (xU (xU q.2.2 157 13 1) 157 14 (q.2.2 157 15)))))
theorem d_stl {w1 w2 w3 : Int32} {q0 : Nat} (hN : 100000 ≤ N) (hr : row < 468) : ∀ (k q m t f : Nat) (c r : xA), len ≤ q + k → q0 ≤ q → q ≤ len + 10 → t ≤ q → m ≤ q → k < f → SLr row len q m c0 r0 c r → Q2 (l49_12 N h b w1 w2 f (Int32.ofNat t) c) (l283_7 N h b (Int32.ofNat row) w3 f (Int32.ofNat m) r) (SP row len q0 c0 r0) := by
  intro k
  induction k with
  | zero =>
    intro q m t f c r h1 h0 h2 h3 h4 h5 H
    obtain ⟨f, rfl⟩ : ∃ f', f = f' + 1 := ⟨f - 1, by omega⟩
    have HV := H.1
    have hl := HV.1
    have eT : Tx c len q = -1 := if_neg (by omega)
    rw [l49_12, l283_7, HV.2.2.2.2.2.2.1]
    refine q_r2 (e_hr HV (by omega)) ?_
    rw [HV.2.2.2.2.2.2.1, eT]
    refine q_nr (by decide) (q_r2 (e_end HV (by omega)) ?_)
    rw [eT]
    refine q_nr (by rw [zb_t (Or.inl rfl)]; decide) ?_
    have fin : SP row len q0 c0 r0 (2, c) (0, Int32.ofNat m, r) := Or.inl ⟨Or.inl rfl, q, m, H, rfl, ⟨h0, by omega⟩, Or.inr ⟨rfl, by rw [eT]; decide⟩⟩
    by_cases z : c 3 5 ≤ Int32.ofNat t
    · exact q_pl z ⟨_, _, rfl, rfl, fin⟩
    · exact q_nl z (q_pl (by rw [l_tx HV]; omega) ⟨_, _, rfl, rfl, fin⟩)
  | succ k ih =>
    intro q m t f c r h1 h0 h2 h3 h4 h5 H
    by_cases lq : q < len
    · obtain ⟨f, rfl⟩ : ∃ f', f = f' + 1 := ⟨f - 1, by omega⟩
      have HV := H.1
      have hl := HV.1
      have e36 := HV.2.2.2.2.2.1
      have e15 := HV.2.2.2.2.2.2.1
      have lb := Tx_by HV lq
      have nm1 : ¬ Tx c len q = -1 := fun e => by rw [e] at lb; exact absurd lb.1 (by decide)
      rw [l49_12, l283_7, e15]
      refine q_r2 (e_hr HV (by omega)) (q_nl (by rw [HV.2.2.2.1, i_le (by omega) (by omega)]; omega) (q_nl (by rw [l_tx HV]; omega) ?_))
      rw [g_tx HV lq, v_tx HV lq, e15]
      by_cases z1 : Tx c len q = 44
      · exact q_pl z1 (q_pr z1 ⟨_, _, rfl, rfl, Or.inl ⟨Or.inl rfl, q, m, H, rfl, ⟨h0, by omega⟩, Or.inl ⟨rfl, z1⟩⟩⟩)
      refine q_nl z1 (q_nr z1 (q_r2 (e_end HV (by omega)) ?_))
      by_cases z2 : Tx c len q = 10
      · exact q_pl z2 (q_nr (by rw [zb_t (Or.inr z2)]; decide) ⟨_, _, rfl, rfl, Or.inl ⟨Or.inr rfl, q, m, H, rfl, ⟨h0, by omega⟩, Or.inr ⟨rfl, z1⟩⟩⟩)
      refine q_nl z2 (q_pr (zb_f (fun z => z.elim nm1 z2)) ?_)
      rw [e15]
      refine q_r2 (e_hr HV (by omega)) (q_l2 e_itx (q_r2 e_itx' ?_))
      by_cases z3 : Tx c len q = 9 ∨ Tx c len q = 10 ∨ 32 ≤ Tx c len q ∧ Tx c len q ≤ 126
      · refine q_nl (by rw [zb_t (Or.inr z3)]; decide) (q_nr (by rw [zb_t z3]; decide) ?_)
        have hb : By (Tx c len q) := by_of lb.1 lb.2
        have mk : ∀ {v : Int32} {d : Nat} {r1 : xA} {c1 : xA} {R : Option (Nat × Int32 × xA)}, By v → 1 ≤ d → d ≤ 4 → SLr row len q m c0 r0 c r1 → (R = l283_7 N h b (Int32.ofNat row) w3 f (Int32.ofNat (m + 1)) (mkR row m v (rp r1 (q + d)))) → Q2 (xb1 (f52_make N h b v c) (fun a => l49_12 N h b w1 w2 f (Int32.ofNat t + 1) (xU a 3 6 (a 3 6 + Int32.ofNat d)))) R (SP row len q0 c0 r0) := by
          intro v d r1 c1 R g1 g2 g3 g4 g5
          obtain ⟨c2, k1, k2, k3⟩ := SL_mk (N := N) (h := h) (b := b) (d := d) hr g4 g1 (by omega) (by omega)
          rw [k1, g5, b1_some, k2, e36, ← Int32.ofNat_add, on_s]
          exact ih (q + d) (m + 1) (t + 1) f _ _ (by omega) (by omega) (by omega) (by omega) (by omega) (by omega) k3
        have esc : ∀ {F G : Option (Int32 × xA)}, EscP N h b row q c0 r0 c r F G → Q2 (xb2 F (fun r29 a30 => j49_122 N h b (l49_12 N h b w1 w2 f) w1 w2 (Int32.ofNat t) r29 a30)) (xb2 G (fun r31 a32 => if r31 = 0 then (some (2, Int32.ofNat m, a32)) else (j283_202 N h b (l283_7 N h b (Int32.ofNat row) w3 f) (Int32.ofNat row) w3 (Int32.ofNat m) (a32 157 20) r31 a32))) (SP row len q0 c0 r0) := by
          intro F G g
          unfold j49_122
          rcases g with ⟨c1, r1, g1, g2, g3⟩ | ⟨u, d, g1, g2, g3, g4⟩
          · rw [g1, g2, b2_some, b2_some, if_pos rfl, if_pos rfl]
            exact ⟨_, _, rfl, rfl, Or.inr ⟨rfl, Or.inl ⟨rfl, g3⟩⟩⟩
          · rw [g3, g4, b2_some, b2_1]
            have nd : ¬ Int32.ofNat d = 0 := by rw [show (0 : Int32) = Int32.ofNat 0 from rfl, i_eq (by omega) (by decide)]; omega
            rw [if_neg nd, xU_e, e_202 (q := q) hr (by rw [xU_s (by decide)]; exact e15) g1 (by omega)]
            have := mk (c1 := c) g1 (by omega) (by omega) (SL_20 (v := u) H) rfl (d := d)
            refine Eq.mp ?_ this
            congr 2
        by_cases z4 : Tx c len q = 92
        · refine q_pl z4 (q_pr z4 ?_)
          unfold j283_90
          rw [z4]
          exact esc (d_bsl hN H (by omega))
        refine q_nl z4 (q_nr z4 ?_)
        by_cases z5 : Tx c len q = 94
        · refine q_pl z5 (q_pr z5 ?_)
          unfold j283_90
          rw [z5]
          exact esc (d_crt H (by omega))
        refine q_nl z5 (q_nr z5 ?_)
        have pla : ∀ {R : Option (Nat × Int32 × xA)}, R = l283_7 N h b (Int32.ofNat row) w3 f (Int32.ofNat (m + 1)) (mkR row m (Tx c len q) (rp r (q + 1))) → Q2 (xb1 (j55_14 N h b (Tx c len q) 0 c) (fun a41 => j49_122 N h b (l49_12 N h b w1 w2 f) w1 w2 (Int32.ofNat t) 1 a41)) R (SP row len q0 c0 r0) := by
          intro R g
          unfold j55_14 j55_24 j49_122
          rw [if_pos rfl, b1_1]
          have := mk (c1 := c) hb (Nat.le_refl 1) (by omega) H g
          refine Eq.mp ?_ this
          congr 2
        unfold f55_readPlain
        by_cases z6 : Tx c len q = 36
        · rw [if_pos z6]
          refine q_pr z6 ?_
          have ed := e_124 (N := N) (h := h) (b := b) (w1 := Int32.ofNat row) (w2 := w3) (w3 := Int32.ofNat m) (w5 := Tx c len q) (w6 := 1) HV (show q ≤ 8000 by omega) 3 0 N (by omega) (by omega)
          have ed' : l283_124 N h b (Int32.ofNat row) w3 (Int32.ofNat m) (Tx c len q) 1 N 0 r = some (0, Int32.ofNat (0 + dc (Tx c len) 3 (q + 2 + 0)), r) := ed
          have ec := e_56 (N := N) (h := h) (b := b) HV (show q ≤ 8000 by omega) 3 0 N (by omega) (by omega)
          have ec' : l56_19 N h b N 0 c = some (0, Int32.ofNat (0 + dc (Tx c len) 3 (q + 2 + 0)), c) := ec
          rw [Nat.zero_add, Nat.add_zero] at ed' ec'
          have dl := dc_le (G := Tx c len) 3 (q + 2)
          rw [ed', Option.bind_some]
          dsimp only
          unfold f56_delayLength j56_48 j283_155
          rw [e15, e36, on_s, e_ba HV (by omega), b2_some, e_hr HV (by omega), b2_some]
          generalize dc (Tx c len) 3 (q + 2) = D at dl ec' ⊢
          have pl1 := pla (e_202 (N := N) (h := h) (b := b) (rc := l283_7 N h b (Int32.ofNat row) w3 f) (w2 := w3) (d := 1) hr e15 hb (by omega))
          by_cases z7 : Tx c len (q + 1) = 60
          · rw [if_pos z7, if_pos z7, ec', Option.bind_some]
            dsimp only
            by_cases z8 : D = 0
            · rw [if_pos (show Int32.ofNat D ≤ 0 by rw [z8]; decide), if_pos (show Int32.ofNat D ≤ 0 by rw [z8]; decide), b2_some]
              exact pl1
            · have nD : ¬ Int32.ofNat D ≤ 0 := by rw [show (0 : Int32) = Int32.ofNat 0 from rfl, i_le (by omega) (by decide)]; omega
              rw [if_neg nD, if_neg nD, e36, e15, o2, ← Int32.ofNat_add, e_ba HV (by omega), b2_some, e_hr HV (by omega), b2_some, b2_some]
              by_cases z9 : Tx c len (q + 2 + D) = 62
              · rw [if_pos z9, if_pos z9, o3, e_202n e15]
                unfold j55_14 j55_24
                have nD3 : ¬ Int32.ofNat (D + 3) = 0 := by rw [show (0 : Int32) = Int32.ofNat 0 from rfl, i_eq (by omega) (by decide)]; omega
                rw [if_neg nD3, mx1 (by omega), Nat.max_eq_right (by omega), e36, ← Int32.ofNat_add]
                unfold j49_122
                refine q_l1 (a := cp c (q + (D + 3))) rfl (q_nl (by decide) ?_)
                rw [on_s]
                exact ih (q + (D + 3)) m (t + 1) f _ _ (by omega) (by omega) (by omega) (by omega) (by omega) (by omega) (SL_p H (by omega))
              · rw [if_neg z9, if_neg z9]
                exact pl1
          · rw [if_neg z7, if_neg z7, b2_some]
            exact pl1
        · rw [if_neg z6]
          refine q_nr z6 ?_
          exact pla (e_202 (N := N) (h := h) (b := b) (rc := l283_7 N h b (Int32.ofNat row) w3 f) (w2 := w3) (d := 1) hr e15 hb (by omega))
      · refine q_pl (zb_f (fun z => z.elim nm1 z3)) (q_pr (zb_f z3) ?_)
        rw [e36]
        refine ⟨_, _, rfl, rfl, Or.inr ⟨rfl, Or.inr ⟨rfl, ?_⟩⟩⟩
        dsimp only
        rw [e15]
        exact FS_f H
    · exact ih q m t f c r (by omega) h0 h2 h3 h4 (by omega) H
end T
