/-! The line discipline. -/
abbrev By (x : Int32) : Prop := x &&& 255 = x
/-- a row of bytes in a ring -/
def RB (c : xA) (o cap : Nat) (f : Nat → Int32) : Prop := 0 ≤ c o 1 ∧ (c o 1).toNatClampNeg < cap ∧ 0 ≤ c o 2 ∧ (c o 2).toNatClampNeg ≤ cap ∧ ∀ i : Nat, i < (c o 2).toNatClampNeg → c (o + 1) (((c o 1).toNatClampNeg + i) % cap) = f i
def Df (c0 r0 c r : xA) : Prop := (∀ p, ¬ (116 ≤ p ∧ p ≤ 122) → c p = c0 p) ∧ (∀ p, ¬ p = 157 → ¬ (184 ≤ p ∧ p ≤ 186) → r p = r0 p) ∧ (∀ i, ¬ (55 ≤ i ∧ i ≤ 67) → r 157 i = r0 157 i)
def Ds (c r : xA) : Prop := c 116 3 = r 157 58 ∧ c 116 4 = r 157 62 ∧ c 116 5 = r 157 63 ∧ c 116 6 = r 157 61 ∧ c 116 7 = r 157 59 ∧ c 116 8 = r 157 60 ∧ c 116 9 = r 157 57 ∧
  0 ≤ c 116 7 ∧ c 116 7 ≤ 10000 ∧ 0 ≤ c 116 8 ∧ c 116 8 ≤ 10000 ∧ (c 116 4 = 0 ∨ c 116 4 = 1) ∧ (c 116 5 = 0 ∨ c 116 5 = 1)
def Dq (c r : xA) : Prop := c 117 1 = r 157 55 ∧ c 117 2 = r 157 56 ∧ 0 ≤ c 117 1 ∧ c 117 1 < 8000 ∧ 0 ≤ c 117 2 ∧ c 117 2 ≤ 8000 ∧ (∀ i, c 118 i = r 184 i &&& 255)
def De (c r : xA) : Prop := c 119 1 = 0 ∧ c 119 2 = r 157 65 ∧ 0 ≤ c 119 2 ∧ c 119 2 ≤ 100 ∧ (∀ i, c 120 i = r 185 i &&& 255) ∧ (∀ i, r 185 i = (c 120 i).toInt8.toInt32)
def Dr (c r : xA) : Prop := (c 121 2 = r 157 67 ∧ ∀ i, By (r 186 i) ∨ r 186 i = 256) ∧ RB c 121 300 (r 186)
def RD (c0 r0 c r : xA) : Prop := Df c0 r0 c r ∧ Ds c r ∧ Dq c r ∧ De c r ∧ Dr c r
section D
theorem byx (x : Int32) : By (x &&& 255) := by
  show x &&& 255 &&& 255 = x &&& 255
  rw [Int32.and_assoc]; rfl
variable {N h b : Nat} {c0 r0 c r c' r' : xA} {x y : Int32}
theorem Ds_of (H : Ds c r) (h1 : c' 116 = c 116) (h2 : ∀ i : Nat, 57 ≤ i → i ≤ 63 → r' 157 i = r 157 i) : Ds c' r' := by
  unfold Ds at *
  rw [h1, h2 57 (by decide) (by decide), h2 58 (by decide) (by decide), h2 59 (by decide) (by decide), h2 60 (by decide) (by decide), h2 61 (by decide) (by decide), h2 62 (by decide) (by decide), h2 63 (by decide) (by decide)]
  exact H
theorem Dq_of (H : Dq c r) (h1 : c' 117 = c 117) (h2 : c' 118 = c 118) (h3 : r' 157 55 = r 157 55) (h4 : r' 157 56 = r 157 56) (h5 : r' 184 = r 184) : Dq c' r' := by
  unfold Dq at *
  rw [h1, h2, h3, h4, h5]
  exact H
theorem De_of (H : De c r) (h1 : c' 119 = c 119) (h2 : c' 120 = c 120) (h3 : r' 157 65 = r 157 65) (h5 : r' 185 = r 185) : De c' r' := by
  unfold De at *
  rw [h1, h2, h3, h5]
  exact H
theorem Dr_of (H : Dr c r) (h1 : c' 121 = c 121) (h2 : c' 122 = c 122) (h3 : r' 157 67 = r 157 67) (h5 : r' 186 = r 186) : Dr c' r' := by
  unfold Dr RB at *
  rw [h1, h3, h5]
  refine ⟨H.1, H.2.1, H.2.2.1, H.2.2.2.1, H.2.2.2.2.1, fun i hi => ?_⟩
  show c' 122 _ = _
  rw [h2]
  exact H.2.2.2.2.2 i hi
theorem Df_u {p i q j : Nat} {v w : Int32} (H : Df c0 r0 c r) (hp : 116 ≤ p ∧ p ≤ 122) (hq : (184 ≤ q ∧ q ≤ 186) ∨ q = 157 ∧ 55 ≤ j ∧ j ≤ 67) : Df c0 r0 (xU c p i v) (xU r q j w) := by
  refine ⟨fun p1 h1 => ?_, fun p1 h1 h2 => ?_, fun i1 h1 => ?_⟩
  · rw [xU_o (by omega)]; exact H.1 p1 h1
  · rw [xU_o (by omega)]; exact H.2.1 p1 h1 h2
  · rw [xU_eq, if_neg (by omega)]; exact H.2.2 i1 h1
theorem Df_l {p i : Nat} {v : Int32} (H : Df c0 r0 c r) (hp : 116 ≤ p ∧ p ≤ 122) : Df c0 r0 (xU c p i v) r :=
  ⟨fun p1 h1 => by rw [xU_o (by omega)]; exact H.1 p1 h1, H.2.1, H.2.2⟩
theorem Df_r {q j : Nat} {w : Int32} (H : Df c0 r0 c r) (hq : (184 ≤ q ∧ q ≤ 186) ∨ q = 157 ∧ 55 ≤ j ∧ j ≤ 67) : Df c0 r0 c (xU r q j w) := by
  refine ⟨H.1, fun p1 h1 h2 => ?_, fun i1 h1 => ?_⟩
  · rw [xU_o (by omega)]; exact H.2.1 p1 h1 h2
  · rw [xU_eq, if_neg (by omega)]; exact H.2.2 i1 h1
/-- add, said plainly -/
theorem e_add {o cap : Nat} {a : xA} (hk : xk o = 1) (hl : xl h b (o + 1) = cap) (h0 : 0 < cap) (hc : cap < 2 ^ 30) (h1 : 0 ≤ a o 1) (h2 : (a o 1).toNatClampNeg < cap) (h3 : 0 ≤ a o 2) (h4 : (a o 2).toNatClampNeg ≤ cap) :
    f156_add N h b o x a = if a o 2 < Int32.ofNat cap then some (1, xU (xU a (o + 1) (((a o 1).toNatClampNeg + (a o 2).toNatClampNeg) % cap) x) o 2 (a o 2 + 1)) else some (0, a) := by
  unfold f156_add
  rw [xg_pos hk, hl]
  by_cases q : a o 2 < Int32.ofNat cap
  · rw [if_pos q, if_pos q]
    obtain ⟨X, hX, eX, fX⟩ := i_nat h1
    obtain ⟨Y, hY, eY, fY⟩ := i_nat h3
    rw [fX, fY]
    have lX : X < cap := by omega
    have lY : Y ≤ cap := by omega
    have e0 : ¬ Int32.ofNat cap = 0 := by
      have e : (0 : Int32) = Int32.ofNat 0 := rfl
      rw [e, i_eq (by omega) (by decide)]
      omega
    have e1 : a o 1 + a o 2 - (a o 1 + a o 2) / Int32.ofNat cap * Int32.ofNat cap = Int32.ofNat ((X + Y) % cap) := by
      rw [eX, eY, ← Int32.ofNat_add, i_modn (by omega) (by omega)]
    have lm : (X + Y) % cap < cap := Nat.mod_lt _ h0
    rw [xg_pos e0, e1, i_cl (by omega), xg_pos (by rw [i_neg (by omega)]; rintro (z | z); exact z; exact absurd lm (by omega))]
    unfold xw
    dsimp only
    have e2 : xU a (o + 1) ((X + Y) % cap) x o 2 = a o 2 := by rw [xU_o (by omega)]
    rw [e2]
  · rw [if_neg q, if_neg q]
theorem q_mod {f x : Int32} (h1 : 0 ≤ f) (h2 : f < 8000) (h3 : 0 ≤ x) (h4 : x ≤ 8000) : ((f + x) - (f + x) / 8000 * 8000).toNatClampNeg = (f.toNatClampNeg + x.toNatClampNeg) % 8000 ∧ ¬ ((f + x) - (f + x) / 8000 * 8000 < 0 ∨ 8000 ≤ ((f + x) - (f + x) / 8000 * 8000).toNatClampNeg) := by
  have := i_mod (x := f + x) (m := 8000) (by grind) (by decide)
  have e8 : (8000 : Int32).toNatClampNeg = 8000 := rfl
  have e : (f + x).toNatClampNeg = f.toNatClampNeg + x.toNatClampNeg := by
    have a1 := cl_le (n := 8000) (Int32.le_of_lt h2) rfl
    have a2 := cl_le (n := 8000) h4 rfl
    exact cl_add h1 h3 (by omega)
  rw [e8, e] at this
  grind
theorem q_ok3 {c1 r1 : xA} {v w : Int32} {P : xA → Prop} (e : v = w) (h : RD c0 r0 c1 r1) (k : P c1) : Q2 (some (v, c1)) (some (w, r1)) (fun p q => p.1 = q.1 ∧ RD c0 r0 p.2 q.2 ∧ P p.2) := ⟨(v, c1), (w, r1), rfl, rfl, e, h, k⟩
/-- what a put leaves: all but lost and column -/
def Dk (c c1 : xA) : Prop := (∀ i, i ≠ 9 → c1 116 i = c 116 i) ∧ c1 119 = c 119 ∧ c1 120 = c 120 ∧ c1 121 = c 121 ∧ c1 122 = c 122
theorem Dk_rfl : Dk c c := ⟨fun _ _ => rfl, rfl, rfl, rfl, rfl⟩
theorem Dk_tr {c1 c2 : xA} (h1 : Dk c c1) (h2 : Dk c1 c2) : Dk c c2 := ⟨fun i hi => (h2.1 i hi).trans (h1.1 i hi), h2.2.1.trans h1.2.1, h2.2.2.1.trans h1.2.2.1, h2.2.2.2.1.trans h1.2.2.2.1, h2.2.2.2.2.trans h1.2.2.2.2⟩
theorem d_q (hR : RD c0 r0 c r) (hx : By x) : Q2 (f168_enqueue N h b x c) (f352_queue N h b x r) (fun p q => p.1 = q.1 ∧ RD c0 r0 p.2 q.2 ∧ Dk c p.2) := by
  unfold f168_enqueue f352_queue
  obtain ⟨f1, s1, q1, e1, r1⟩ := hR
  have q1' := q1
  unfold Dq at q1'
  obtain ⟨k1, k2, k3, k4, k5, k6, k7⟩ := q1'
  have hm := q_mod k3 k4 k5 k6
  rw [e_add (cap := 8000) rfl rfl (by decide) (by decide) k3 (cl_ltn k3 k4 rfl) k5 (cl_le k6 rfl), ← k1, ← k2]
  by_cases z : c 117 2 = 8000
  · rw [if_neg (by rw [z]; decide), if_pos z, b2_some, if_pos rfl]
    unfold xw
    refine q_ok3 rfl ⟨Df_u f1 (by decide) (by decide), ?_, Dq_of q1 rfl rfl (xU_s (by decide)) (xU_s (by decide)) rfl, De_of e1 rfl rfl (xU_s (by decide)) rfl, Dr_of r1 rfl rfl (xU_s (by decide)) rfl⟩ ⟨fun i hi => xU_s hi, rfl, rfl, rfl, rfl⟩
    unfold Ds at *
    simpa [xU_eq] using s1
  · rw [if_pos (by show c 117 2 < 8000; grind), if_neg z, b2_some, if_neg (by decide), xg_pos hm.2, hm.1]
    unfold xw
    refine q_ok3 rfl ⟨Df_u (Df_u f1 (by decide) (by omega)) (by decide) (by decide), Ds_of s1 rfl (fun i h1 h2 => xU_s (by omega)), ?_, De_of e1 rfl rfl (xU_s (by decide)) rfl, Dr_of r1 rfl rfl (xU_s (by decide)) rfl⟩ ⟨fun i _ => rfl, rfl, rfl, rfl, rfl⟩
    unfold Dq
    have h8 := by8 x
    have h9 := by8n x
    unfold By at hx
    simp [xU_eq]
    grind
/-- the column behind a byte -/
def colB (f x y : Int32) : Int32 := if y = 8 then xmax 0 (x - 1) else if y = 9 then xmin 10000 (x / 8 * 8 + 8) else if y = 10 then (if f &&& 16 = 0 then x else 0) else if y = 13 then 0 else if 32 ≤ y ∧ y ≤ 126 then xmin 10000 (x + 1) else x
theorem e_cb {a : xA} : f169_columnBehind N h b x y a = some (colB (a 116 3) x y, a) := by
  unfold f169_columnBehind colB
  simp only [e_has, e_pr, b2_some, zb_0, Decidable.not_not]
  have : (x / 8 + 1) * 8 = x / 8 * 8 + 8 := by grind
  rw [this]
  grind
theorem e_mv {a : xA} : f357_moved N h b x y a = some (colB (a 157 58) x y, a) := by
  unfold f357_moved colB
  simp only [e_flag, b2_some, zb_0, Decidable.not_not]
  grind
theorem colB_b {f x y : Int32} (h0 : 0 ≤ x) (h1 : x ≤ 10000) : 0 ≤ colB f x y ∧ colB f x y ≤ 10000 := by
  have e := i_mod (x := x) (m := 8) h0 (by decide)
  unfold colB xmax xmin
  grind
theorem d_l1 {q q' : Int32} : ∀ (n : Nat) {s v w : Int32} {c r : xA}, RD c0 r0 c r → w = 8 - v → 0 ≤ v → v ≤ 8 → 8 < v.toNatClampNeg + n → Q2 (l167_58 N h b q n s v c) (l356_80 N h b q' n s w r) (fun p q => p.2.1 = q.2.1 ∧ RD c0 r0 p.2.2 q.2.2 ∧ Dk c p.2.2)
  | 0, s, v, w, c, r, hR, e, h1, h2, h3 => by have := cl_le (n := 8) h2 rfl; omega
  | n + 1, s, v, w, c, r, hR, e, h1, h2, h3 => by
    unfold l167_58 l356_80
    by_cases z : 8 ≤ v
    · rw [if_pos z, if_pos (by grind)]
      exact q_some.mpr ⟨rfl, hR, Dk_rfl⟩
    · rw [if_neg z, if_neg (by grind)]
      refine q_b22 (d_q hR rfl) (fun v1 c1 w1 r1 hh => ?_)
      obtain ⟨e1, h4, h5⟩ := hh
      dsimp only at e1 h4 h5
      subst e1
      refine q_mono (d_l1 n h4 (by grind) (by grind) (by grind) (by rw [cl_s h1 (Int32.not_le.mp z)]; omega)) (fun p q hh => ⟨hh.1, hh.2.1, Dk_tr h5 hh.2.2⟩)
def Dm (c c1 : xA) : Prop := (∀ i, i ≠ 7 → i ≠ 9 → c1 116 i = c 116 i) ∧ c1 119 = c 119 ∧ c1 120 = c 120 ∧ c1 121 = c 121 ∧ c1 122 = c 122
theorem Dm_rfl : Dm c c := ⟨fun _ _ _ => rfl, rfl, rfl, rfl, rfl⟩
theorem Dm_tr {c1 c2 : xA} (h1 : Dm c c1) (h2 : Dm c1 c2) : Dm c c2 := ⟨fun i hi hj => (h2.1 i hi hj).trans (h1.1 i hi hj), h2.2.1.trans h1.2.1, h2.2.2.1.trans h1.2.2.1, h2.2.2.2.1.trans h1.2.2.2.1, h2.2.2.2.2.trans h1.2.2.2.2⟩
theorem Dm_k {c1 c2 : xA} (h1 : Dk c c1) (h2 : Dm c1 c2) : Dm c c2 := Dm_tr ⟨fun i _ hj => h1.1 i hj, h1.2⟩ h2
theorem d_j88 {v w : Int32} (hR : RD c0 r0 c r) (e : v = w) (e2 : y = colB (c 116 3) (c 116 7) x) : Q2 (j167_88 N h b x v c) (j356_109 N h b w y r) (fun p q => p.1 = q.1 ∧ RD c0 r0 p.2 q.2 ∧ Dm c p.2) := by
  unfold j167_88 j356_109 xw
  rw [e_cb, b2_some]
  obtain ⟨f1, s1, q1, e1, r1⟩ := hR
  refine q_ok3 e ⟨Df_u f1 (by decide) (by decide), ?_, Dq_of q1 rfl rfl (xU_s (by decide)) (xU_s (by decide)) rfl, De_of e1 rfl rfl (xU_s (by decide)) rfl, Dr_of r1 rfl rfl (xU_s (by decide)) rfl⟩ ⟨fun i h7 _ => xU_s h7, rfl, rfl, rfl, rfl⟩
  unfold Ds at *
  have := colB_b (f := c 116 3) (y := x) s1.2.2.2.2.2.2.2.1 s1.2.2.2.2.2.2.2.2.1
  simp [xU_eq]
  grind
theorem d_putm (hN : 100000 ≤ N) (hR : RD c0 r0 c r) (hx : By x) : Q2 (f167_put N h b x c) (f356_putOne N h b x r) (fun p q => p.1 = q.1 ∧ RD c0 r0 p.2 q.2 ∧ Dm c p.2) := by
  have hs := hR.2.1
  unfold Ds at hs
  have key : ∀ {v w : Int32} {c1 r1 : xA}, v = w → RD c0 r0 c1 r1 → Dk c c1 → Q2 (j167_88 N h b x v c1) (j356_109 N h b w (colB (r 157 58) (r 157 59) x) r1) (fun p q => p.1 = q.1 ∧ RD c0 r0 p.2 q.2 ∧ Dm c p.2) := by
    intro v w c1 r1 e h1 h2
    exact q_mono (d_j88 h1 e (by rw [h2.1 3 (by decide), h2.1 7 (by decide), hs.1, hs.2.2.2.2.1])) (fun p q hh => ⟨hh.1, hh.2.1, Dm_k h2 hh.2.2⟩)
  have k2 : ∀ {q : Int32}, Q2 (j167_82 N h b x c) (j356_103 N h b x (colB (r 157 58) (r 157 59) x) r) (fun p q => p.1 = q.1 ∧ RD c0 r0 p.2 q.2 ∧ Dm c p.2) := by
    intro q
    unfold j167_82 j356_103
    exact q_b22 (d_q hR hx) (fun v1 c1 w1 r1 hh => key hh.1 hh.2.1 hh.2.2)
  have k3 : Q2 (j167_34 N h b x 0 c) (j356_44 N h b x 0 (colB (r 157 58) (r 157 59) x) r) (fun p q => p.1 = q.1 ∧ RD c0 r0 p.2 q.2 ∧ Dm c p.2) := by
    unfold j167_34 j356_44
    simp only [e_has, e_flag, b2_some, zb_0, Decidable.not_not, hs.1]
    by_cases z : x = 9
    · rw [if_pos z, if_pos z]
      by_cases z2 : r 157 58 &&& 128 = 0
      · rw [if_pos z2, if_pos z2]; exact k2 (q := 0)
      · rw [if_neg z2, if_neg z2]
        have hm := i_mod (x := c 116 7) (m := 8) hs.2.2.2.2.2.2.2.1 (by decide)
        have e7 := hs.2.2.2.2.1
        refine q_bb (d_l1 N hR (by rw [← e7]; grind) hm.1 (by grind) (by omega)) (fun p q hh => key hh.1 hh.2.1 hh.2.2)
    · rw [if_neg z, if_neg z]; exact k2 (q := 0)
  unfold f167_put f356_putOne
  rw [e_mv, b2_some]
  simp only [e_has, e_flag, b2_some, zb_0, Decidable.not_not, hs.1]
  by_cases z : x = 10
  · rw [if_pos z, if_pos z]
    by_cases z2 : r 157 58 &&& 16 = 0
    · rw [if_pos z2, if_pos z2]; exact k3
    · rw [if_neg z2, if_neg z2]
      refine q_b22 (d_q hR rfl) (fun v1 c1 w1 r1 hh => ?_)
      refine q_b22 (d_q hh.2.1 rfl) (fun v2 c2 w2 r2 h2 => ?_)
      exact key (by have a1 : v1 = w1 := hh.1; have a2 : v2 = w2 := h2.1; rw [a1, a2]) h2.2.1 (Dk_tr hh.2.2 h2.2.2)
  · rw [if_neg z, if_neg z]; exact k3
theorem d_put (hN : 100000 ≤ N) (hR : RD c0 r0 c r) (hx : By x) : Q2 (f167_put N h b x c) (f356_putOne N h b x r) (fun p q => p.1 = q.1 ∧ RD c0 r0 p.2 q.2) := q_mono (d_putm hN hR hx) (fun _ _ hh => ⟨hh.1, hh.2.1⟩)
theorem d_pvm {α β : Type} {Q : α → β → Prop} {k : Int32 → xA → Option α} {l : Int32 → xA → Option β} (hN : 100000 ≤ N) (hR : RD c0 r0 c r) (hx : By x) (h2 : ∀ v c1 r1, RD c0 r0 c1 r1 → Dm c c1 → Q2 (k v c1) (l v r1) Q) : Q2 (xb2 (f167_put N h b x c) k) (xb2 (f356_putOne N h b x r) l) Q := q_bs (R := fun c1 r1 => RD c0 r0 c1 r1 ∧ Dm c c1) (d_putm hN hR hx) (fun v c1 r1 hh => h2 v c1 r1 hh.1 hh.2)
/-- a put whose answer nobody wants -/
theorem d_pv {α β : Type} {Q : α → β → Prop} {k : Int32 → xA → Option α} {l : Int32 → xA → Option β} (hN : 100000 ≤ N) (hR : RD c0 r0 c r) (hx : By x) (h2 : ∀ v c1 r1, RD c0 r0 c1 r1 → Q2 (k v c1) (l v r1) Q) : Q2 (xb2 (f167_put N h b x c) k) (xb2 (f356_putOne N h b x r) l) Q := q_bs (d_put hN hR hx) h2
theorem i_xa (x y z : Int32) : (x ^^^ y) &&& z = (x &&& z) ^^^ (y &&& z) := by
  apply Int32.toBitVec_inj.mp
  simp only [Int32.toBitVec_and, Int32.toBitVec_xor]
  apply BitVec.eq_of_getLsbD_eq
  intro i hi
  simp only [BitVec.getLsbD_and, BitVec.getLsbD_xor]
  cases x.toBitVec.getLsbD i <;> cases y.toBitVec.getLsbD i <;> cases z.toBitVec.getLsbD i <;> rfl
theorem by_xor (hx : By x) : By (x ^^^ 64) := by
  unfold By at *
  have e : (64 : Int32) &&& 255 = 64 := rfl
  rw [i_xa, hx, e]
theorem d_echo (hN : 100000 ≤ N) (hR : RD c0 r0 c r) (hx : By x) : Q2 (f182_echo N h b x c) (f370_echo N h b x r) (fun p q => RD c0 r0 p q) := by
  have hs := hR.2.1
  unfold Ds at hs
  unfold f182_echo f370_echo
  simp only [e_has, e_flag, e_ec, e_ec', b2_some, zb_0, Decidable.not_not, hs.1]
  by_cases z : r 157 58 &&& 2 = 0
  · rw [if_pos z, if_pos z]; exact q_ok1 hR
  · rw [if_neg z, if_neg z]
    by_cases z2 : ¬ (x = 9 ∨ x = 10 ∨ 32 ≤ x ∧ x ≤ 126)
    · rw [if_pos z2, if_pos z2]
      exact d_pv hN hR rfl (fun _ _ _ h1 => d_pv hN h1 (by_xor hx) (fun _ _ _ h2 => q_ok1 h2))
    · rw [if_neg z2, if_neg z2]
      exact d_pv hN hR hx (fun _ _ _ h1 => q_ok1 h1)
theorem RD_3 {v : Int32} (hR : RD c0 r0 c r) : RD c0 r0 (xU c 116 3 v) (xU r 157 58 v) := by
  obtain ⟨f1, s1, q1, e1, r1⟩ := hR
  refine ⟨Df_u f1 (by decide) (by decide), ?_, Dq_of q1 rfl rfl (xU_s (by decide)) (xU_s (by decide)) rfl, De_of e1 rfl rfl (xU_s (by decide)) rfl, Dr_of r1 rfl rfl (xU_s (by decide)) rfl⟩
  unfold Ds at *
  simp [xU_eq]
  grind
theorem RD_4 {v : Int32} (hR : RD c0 r0 c r) (hv : v = 0 ∨ v = 1) : RD c0 r0 (xU c 116 4 v) (xU r 157 62 v) := by
  obtain ⟨f1, s1, q1, e1, r1⟩ := hR
  refine ⟨Df_u f1 (by decide) (by decide), ?_, Dq_of q1 rfl rfl (xU_s (by decide)) (xU_s (by decide)) rfl, De_of e1 rfl rfl (xU_s (by decide)) rfl, Dr_of r1 rfl rfl (xU_s (by decide)) rfl⟩
  unfold Ds at *
  simp [xU_eq]
  grind
theorem RD_5 {v : Int32} (hR : RD c0 r0 c r) (hv : v = 0 ∨ v = 1) : RD c0 r0 (xU c 116 5 v) (xU r 157 63 v) := by
  obtain ⟨f1, s1, q1, e1, r1⟩ := hR
  refine ⟨Df_u f1 (by decide) (by decide), ?_, Dq_of q1 rfl rfl (xU_s (by decide)) (xU_s (by decide)) rfl, De_of e1 rfl rfl (xU_s (by decide)) rfl, Dr_of r1 rfl rfl (xU_s (by decide)) rfl⟩
  unfold Ds at *
  simp [xU_eq]
  grind
theorem RD_6 (hR : RD c0 r0 c r) : RD c0 r0 (xU c 116 6 (c 116 6 + 1)) (xU r 157 61 (r 157 61 + 1)) := by
  obtain ⟨f1, s1, q1, e1, r1⟩ := hR
  refine ⟨Df_u f1 (by decide) (by decide), ?_, Dq_of q1 rfl rfl (xU_s (by decide)) (xU_s (by decide)) rfl, De_of e1 rfl rfl (xU_s (by decide)) rfl, Dr_of r1 rfl rfl (xU_s (by decide)) rfl⟩
  unfold Ds at *
  simp [xU_eq]
  grind
theorem RD_8 (hR : RD c0 r0 c r) : RD c0 r0 (xU c 116 8 (c 116 7)) (xU r 157 60 (r 157 59)) := by
  obtain ⟨f1, s1, q1, e1, r1⟩ := hR
  refine ⟨Df_u f1 (by decide) (by decide), ?_, Dq_of q1 rfl rfl (xU_s (by decide)) (xU_s (by decide)) rfl, De_of e1 rfl rfl (xU_s (by decide)) rfl, Dr_of r1 rfl rfl (xU_s (by decide)) rfl⟩
  unfold Ds at *
  simp [xU_eq]
  grind
theorem RD_eclr (hR : RD c0 r0 c r) : RD c0 r0 (xU c 119 2 0) (xU r 157 65 0) := by
  obtain ⟨f1, s1, q1, e1, r1⟩ := hR
  refine ⟨Df_u f1 (by decide) (by decide), Ds_of s1 rfl (fun i h1 h2 => xU_s (by omega)), Dq_of q1 rfl rfl (xU_s (by decide)) (xU_s (by decide)) rfl, ?_, Dr_of r1 rfl rfl (xU_s (by decide)) rfl⟩
  unfold De at *
  simp [xU_eq]
  grind
theorem RD_qclr (hR : RD c0 r0 c r) : RD c0 r0 (xU c 117 2 0) (xU r 157 56 0) := by
  obtain ⟨f1, s1, q1, e1, r1⟩ := hR
  refine ⟨Df_u f1 (by decide) (by decide), Ds_of s1 rfl (fun i h1 h2 => xU_s (by omega)), ?_, De_of e1 rfl rfl (xU_s (by decide)) rfl, Dr_of r1 rfl rfl (xU_s (by decide)) rfl⟩
  unfold Dq at *
  simp [xU_eq]
  grind
theorem RD_rclr (hR : RD c0 r0 c r) : RD c0 r0 (xU c 121 2 0) (xU r 157 67 0) := by
  obtain ⟨f1, s1, q1, e1, r1⟩ := hR
  refine ⟨Df_u f1 (by decide) (by decide), Ds_of s1 rfl (fun i h1 h2 => xU_s (by omega)), Dq_of q1 rfl rfl (xU_s (by decide)) (xU_s (by decide)) rfl, De_of e1 rfl rfl (xU_s (by decide)) rfl, ?_⟩
  unfold Dr RB at *
  simp [xU_eq]
  grind
end D
