/-! The reader: the text, seen on both sides. -/
/-- the byte at a place of the text; none behind its end -/
def Tx (c : xA) (len i : Nat) : Int32 := if i < len then c 1 i else -1
def RV (len p : Nat) (c r : xA) : Prop := len ≤ 3000 ∧ p ≤ 9000 ∧ c 3 4 = 1 ∧ c 3 5 = Int32.ofNat len ∧ r 157 16 = Int32.ofNat len ∧ c 3 6 = Int32.ofNat p ∧ r 157 15 = Int32.ofNat p ∧ (∀ i, By (c 1 i) ∧ r 158 i = (c 1 i).toInt8.toInt32)
section T
variable {N h b : Nat} {c0 r0 c r c' r' : xA} {x y z s v w : Int32} {len p i f k m : Nat}
theorem RV_of (H : RV len p c r) (h1 : ∀ i, 4 ≤ i → i ≤ 6 → c' 3 i = c 3 i) (h2 : c' 1 = c 1) (h3 : r' 158 = r 158) (h4 : r' 157 16 = r 157 16) (h5 : r' 157 15 = r 157 15) : RV len p c' r' := by
  unfold RV at *
  rw [h1 4 (by decide) (by decide), h1 5 (by decide) (by decide), h1 6 (by decide) (by decide), h2, h3, h4, h5]
  exact H
theorem RV_p (H : RV len p c r) {q : Nat} (hq : q ≤ 9000) : RV len q (xU c 3 6 (Int32.ofNat q)) (xU r 157 15 (Int32.ofNat q)) := by
  obtain ⟨a1, a2, a3, a4, a5, a6, a7, a8⟩ := H
  exact ⟨a1, hq, by rw [xU_s (by decide)]; exact a3, by rw [xU_s (by decide)]; exact a4, by rw [xU_s (by decide)]; exact a5, xU_e, xU_e, fun i => by rw [xU_o (by decide), xU_o (by decide)]; exact a8 i⟩
theorem Tx_by (H : RV len p c r) (hi : i < len) : 0 ≤ Tx c len i ∧ Tx c len i ≤ 255 := by
  unfold Tx
  rw [if_pos hi]
  exact by_le (H.2.2.2.2.2.2.2 i).1
theorem Tx_m (hi : ¬ Tx c len i = -1) : i < len := by
  by_cases q : i < len
  · exact q
  · exact absurd (if_neg q) hi
theorem e_ba (H : RV len p c r) (hi : i < 100000) : f28_byteAt N h b (Int32.ofNat i) c = some (Tx c len i, c) := by
  obtain ⟨a1, a2, a3, a4, a5, a6, a7, a8⟩ := H
  unfold f28_byteAt j28_12 Tx
  rw [if_neg (by rw [i_neg (by omega)]; exact id), a4]
  by_cases q : i < len
  · rw [if_pos (by rw [i_lt (by omega) (by omega)]; exact q), if_pos q, a3, xg_pos (by decide), xg_pos (show xk (1 : Int32).toNatClampNeg = 100 from rfl), show (1 : Int32).toNatClampNeg = 1 from rfl, show xl h b 1 = 3000 from rfl, xg_pos (g_ix (by omega) (by omega)), i_cl (by omega)]
  · rw [if_neg (by rw [i_lt (by omega) (by omega)]; exact q), if_neg q]
theorem e_hr (H : RV len p c r) (hi : i < 100000) : f266_here N h b (Int32.ofNat i) r = some (Tx c len i, r) := by
  obtain ⟨a1, a2, a3, a4, a5, a6, a7, a8⟩ := H
  unfold f266_here Tx
  rw [a5]
  by_cases q : i < len
  · rw [if_neg (by rw [i_le (by omega) (by omega)]; omega), if_pos q, xg_pos (g_ix (by omega) (by omega)), i_cl (by omega), (a8 i).2, sb (a8 i).1]
  · rw [if_pos (by rw [i_le (by omega) (by omega)]; omega), if_neg q]
theorem eq8 {k : Int32} (hx : By x) (hk : By k) : (x.toInt8.toInt32 = k.toInt8.toInt32) = (x = k) := by
  apply propext
  refine ⟨fun e => ?_, fun e => by rw [e]⟩
  have := congrArg (fun v : Int32 => v &&& 255) e
  rw [sb hx, sb hk] at this
  exact this
theorem e_end (H : RV len p c r) (hi : i < 100000) : f269_ends N h b (Int32.ofNat i) r = some (zb (Tx c len i = -1 ∨ Tx c len i = 10), r) := by
  obtain ⟨a1, a2, a3, a4, a5, a6, a7, a8⟩ := H
  unfold f269_ends j269_19 Tx
  rw [a5]
  by_cases q : i < len
  · have e10 : (r 158 i = 10) = (c 1 i = 10) := by
      rw [(a8 i).2, show (10 : Int32) = (10 : Int32).toInt8.toInt32 from rfl, eq8 (a8 i).1 (by decide)]
      rfl
    have lb := by_le (a8 i).1
    rw [if_neg (by rw [i_le (by omega) (by omega)]; omega), if_pos q, xg_pos (g_ix (by omega) (by omega)), i_cl (by omega), zi10, zg]
    congr 2
    unfold zb
    rw [e10]
    have : ¬ c 1 i = -1 := fun e => by rw [e] at lb; exact absurd lb.1 (by decide)
    simp [this]
  · rw [if_pos (by rw [i_le (by omega) (by omega)]; omega), if_neg q, zb_t (Or.inl rfl)]
/-- the class looks into the text itself -/
theorem g_tx {β : Type} {K : Option β} (H : RV len p c r) (hp : p < len) : xg (¬ (c 3 4) = -1) (xg (xk ((c 3 4).toNatClampNeg) = 100) (xg (¬ (c 3 6 < 0 ∨ xl h b ((c 3 4).toNatClampNeg) ≤ (c 3 6).toNatClampNeg)) K)) = K := by
  obtain ⟨a1, a2, a3, a4, a5, a6, a7, a8⟩ := H
  rw [a3, a6, xg_pos (by decide), xg_pos (show xk (1 : Int32).toNatClampNeg = 100 from rfl), show xl h b (1 : Int32).toNatClampNeg = 3000 from rfl, xg_pos (g_ix (by omega) (by omega))]
theorem v_tx (H : RV len p c r) (hp : p < len) : c ((c 3 4).toNatClampNeg) ((c 3 6).toNatClampNeg) = Tx c len p := by
  obtain ⟨a1, a2, a3, a4, a5, a6, a7, a8⟩ := H
  unfold Tx
  rw [if_pos hp, a3, a6, i_cl (by omega)]
  rfl
theorem l_tx (H : RV len p c r) : (c 3 5 ≤ c 3 6) = (len ≤ p) := by
  obtain ⟨a1, a2, a3, a4, a5, a6, a7, a8⟩ := H
  rw [a4, a6, i_le (by omega) (by omega)]
theorem l_tx' (H : RV len p c r) : (r 157 16 ≤ r 157 15) = (len ≤ p) := by
  obtain ⟨a1, a2, a3, a4, a5, a6, a7, a8⟩ := H
  rw [a5, a7, i_le (by omega) (by omega)]
theorem e_itx {a : xA} : f25_isText N h b x a = some (zb (x = -1 ∨ x = 9 ∨ x = 10 ∨ 32 ≤ x ∧ x ≤ 126), a) := by
  unfold f25_isText j25_29 xg zb
  grind
theorem e_itx' {a : xA} : f276_isText N h b x a = some (zb (x = 9 ∨ x = 10 ∨ 32 ≤ x ∧ x ≤ 126), a) := by
  unfold f276_isText j276_24 xg zb
  grind
theorem e_lt {a : xA} : f34_isLetter N h b x a = some (zb (97 ≤ x ∧ x ≤ 122), a) := by
  unfold f34_isLetter xg zb
  grind
theorem e_lt' {a : xA} : f273_isLetter N h b x a = some (zb (97 ≤ x ∧ x ≤ 122), a) := by
  unfold f273_isLetter xg zb
  grind
def nmB (x : Int32) : Prop := 97 ≤ x ∧ x ≤ 122 ∨ 48 ≤ x ∧ x ≤ 57 ∨ x = 45 ∨ x = 43
theorem e_nb {a : xA} : f39_isNameByte N h b x a = some (zb (nmB x), a) := by
  unfold f39_isNameByte j39_26
  rw [e_lt, b2_some, e_dg, b2_some]
  unfold xg zb nmB
  grind
theorem e_nb' {a : xA} : f278_isOfName N h b x a = some (zb (nmB x), a) := by
  unfold f278_isOfName j278_26
  rw [e_lt', b2_some, e_dg', b2_some]
  unfold xg zb nmB
  grind
theorem e_non (H : RV len p c r) : f275_isNone N h b r = some (zb (¬ (Tx c len p = -1 ∨ Tx c len p = 9 ∨ Tx c len p = 10 ∨ 32 ≤ Tx c len p ∧ Tx c len p ≤ 126)), r) := by
  have lt := l_tx' H
  unfold f275_isNone
  by_cases q : len ≤ p
  · have : Tx c len p = -1 := if_neg (by omega)
    rw [if_pos (by rw [lt]; exact q), zb_f (by rw [this]; decide)]
  · have lb := Tx_by H (i := p) (by omega)
    rw [if_neg (by rw [lt]; exact q), H.2.2.2.2.2.2.1, e_hr H (by have := H.2.1; omega), b2_some, e_itx', b2_some]
    have n1 : ¬ Tx c len p = -1 := fun e => by rw [e] at lb; exact absurd lb.1 (by decide)
    unfold xg zb
    grind
/-- one fault on both sides -/
theorem e_fl : f26_failed N h b x y c = some (0, xU (xU c 3 2 x) 3 3 y) := rfl
theorem e_fl' : f270_fails N h b x y r = some (0, xU (xU r 157 13 x) 157 14 y) := rfl
end T
