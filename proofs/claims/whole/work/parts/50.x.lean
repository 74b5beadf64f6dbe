/-! The cells of both programs as one function of place and index. -/
/-- a reference that changes: -1 null, else its place -/
def xN (x : Int32) : Value := if x = -1 then .null else .ref x.toNatClampNeg
def xF (ci p : Nat) (f : Nat → Int32) : List Value := match ci with
  | 0 => (.ref (p + 1)) :: (.int (f 1)) :: (.int (f 2)) :: []
  | 1 => (.ref (p + 1)) :: (.ref (p + 3)) :: (.ref (p + 5)) :: (.int (f 3)) :: (.int (f 4)) :: (.int (f 5)) :: (.int (f 6)) :: (.int (f 7)) :: (.int (f 8)) :: (.int (f 9)) :: []
  | 2 => (.ref (p + 1)) :: (.ref (p + 2)) :: (.int (f 2)) :: (.ref (p + 3)) :: (.ref (p + 4)) :: (.ref (p + 5)) :: (.ref (p + 6)) :: []
  | 3 => (.int (f 0)) :: (.int (f 1)) :: (.ref (p + 2)) :: (.ref (p + 3)) :: (.ref (p + 4)) :: (.int (f 5)) :: (.int (f 6)) :: (.int (f 7)) :: (.int (f 8)) :: (.int (f 9)) :: (.int (f 10)) :: (.int (f 11)) :: (.int (f 12)) :: (.int (f 13)) :: (.int (f 14)) :: (.int (f 15)) :: (.int (f 16)) :: (.ref (p + 1)) :: []
  | 4 => (.ref (p + 1)) :: (.ref (p + 2)) :: (.int (f 2)) :: (.int (f 3)) :: (.int (f 4)) :: (.ref (p + 3)) :: []
  | 5 => (.ref (p + 1)) :: (.int (f 1)) :: (.ref (p + 2)) :: (.ref (p + 3)) :: (.int (f 4)) :: []
  | 6 => (.ref (p + 1)) :: (.ref (p + 3)) :: (.ref (p + 5)) :: (.ref (p + 7)) :: (.ref (p + 8)) :: (.int (f 5)) :: (xN (f 6)) :: (xN (f 7)) :: (.int (f 8)) :: (.int (f 9)) :: (.int (f 10)) :: (.int (f 11)) :: (.int (f 12)) :: (.int (f 13)) :: (.int (f 14)) :: (.ref (p + 9)) :: (.ref (p + 10)) :: (.ref (p + 17)) :: (.int (f 18)) :: []
  | 7 => (.ref (p + 1)) :: (.int (f 1)) :: (.int (f 2)) :: (.int (f 3)) :: (xN (f 4)) :: (.int (f 5)) :: (.int (f 6)) :: (.int (f 7)) :: (xN (f 8)) :: (.ref (p + 3)) :: (.ref (p + 4)) :: (.int (f 11)) :: (.ref (p + 5)) :: (.int (f 13)) :: []
  | 8 => (.ref (p + 7)) :: (.ref (p + 1)) :: (.ref (p + 3)) :: (.ref (p + 5)) :: (.int (f 4)) :: (.int (f 5)) :: (.int (f 6)) :: (.int (f 7)) :: (.int (f 8)) :: (.int (f 9)) :: (.int (f 10)) :: (.ref (p + 6)) :: (.int (f 12)) :: (.int (f 13)) :: (.int (f 14)) :: []
  | 9 => (.ref (p + 1)) :: (.int (f 1)) :: (.int (f 2)) :: (.int (f 3)) :: (.int (f 4)) :: (.int (f 5)) :: (.int (f 6)) :: (.int (f 7)) :: (.int (f 8)) :: (.int (f 9)) :: []
  | 10 => (.int (f 0)) :: (.int (f 1)) :: (.int (f 2)) :: (.int (f 3)) :: []
  | 11 => (.ref (p + 1)) :: (.int (f 1)) :: (.ref (p + 2)) :: (.int (f 3)) :: (.ref (p + 3)) :: (.ref (p + 93)) :: (.ref (p + 97)) :: (.ref (p + 115)) :: (.ref (p + 116)) :: (.ref (p + 129)) :: (.ref (p + 123)) :: (.ref (p + 127)) :: (.ref (p + 128)) :: (.int (f 13)) :: (xN (f 14)) :: (.int (f 15)) :: []
  | 12 => (.int (f 0)) :: (.ref (p + 1)) :: (.int (f 2)) :: (.ref (p + 2)) :: (.int (f 4)) :: (.int (f 5)) :: (.ref (p + 3)) :: (.ref (p + 4)) :: (.ref (p + 5)) :: (.ref (p + 6)) :: (.ref (p + 7)) :: (.ref (p + 8)) :: (.ref (p + 9)) :: (.int (f 13)) :: (.int (f 14)) :: (.int (f 15)) :: (.int (f 16)) :: (.int (f 17)) :: (.ref (p + 10)) :: (.int (f 19)) :: (.int (f 20)) :: (.int (f 21)) :: (.ref (p + 11)) :: (.int (f 23)) :: (.ref (p + 12)) :: (.int (f 25)) :: (.int (f 26)) :: (.int (f 27)) :: (.ref (p + 13)) :: (.ref (p + 14)) :: (.int (f 30)) :: (.int (f 31)) :: (.int (f 32)) :: (.int (f 33)) :: (.int (f 34)) :: (.int (f 35)) :: (.int (f 36)) :: (.ref (p + 15)) :: (.ref (p + 16)) :: (.ref (p + 17)) :: (.ref (p + 18)) :: (.ref (p + 19)) :: (.ref (p + 20)) :: (.ref (p + 21)) :: (.ref (p + 22)) :: (.ref (p + 23)) :: (.ref (p + 24)) :: (.ref (p + 25)) :: (.ref (p + 26)) :: (.int (f 49)) :: (.int (f 50)) :: (.int (f 51)) :: (.int (f 52)) :: (.int (f 53)) :: (.ref (p + 27)) :: (.int (f 55)) :: (.int (f 56)) :: (.int (f 57)) :: (.int (f 58)) :: (.int (f 59)) :: (.int (f 60)) :: (.int (f 61)) :: (.int (f 62)) :: (.int (f 63)) :: (.ref (p + 28)) :: (.int (f 65)) :: (.ref (p + 29)) :: (.int (f 67)) :: (.int (f 68)) :: (.int (f 69)) :: (.int (f 70)) :: (.int (f 71)) :: (.int (f 72)) :: (.int (f 73)) :: (.int (f 74)) :: (.int (f 75)) :: (.int (f 76)) :: (.int (f 77)) :: (.ref (p + 30)) :: (.int (f 79)) :: (.int (f 80)) :: (.int (f 81)) :: (.int (f 82)) :: (.int (f 83)) :: (.int (f 84)) :: (.int (f 85)) :: (.ref (p + 31)) :: (.int (f 87)) :: (.ref (p + 32)) :: (.int (f 89)) :: (.ref (p + 33)) :: (.ref (p + 34)) :: (.ref (p + 35)) :: (.int (f 93)) :: (.int (f 94)) :: (.int (f 95)) :: (.int (f 96)) :: (.int (f 97)) :: (.int (f 98)) :: (.int (f 99)) :: (.int (f 100)) :: (.int (f 101)) :: (.int (f 102)) :: (.int (f 103)) :: (.int (f 104)) :: (.int (f 105)) :: (.int (f 106)) :: (.int (f 107)) :: (.int (f 108)) :: (.int (f 109)) :: (.int (f 110)) :: (.int (f 111)) :: (.int (f 112)) :: (.int (f 113)) :: (.ref (p + 36)) :: (.int (f 115)) :: (.int (f 116)) :: (.int (f 117)) :: (.ref (p + 37)) :: (.ref (p + 38)) :: (.int (f 120)) :: (.int (f 121)) :: []
  | _ => []
def xC (h b p : Nat) (f : Nat → Int32) : am_C :=
  if xk p = 100 then .inl (.int, (xl h b p, .inl f)) else if xk p = 101 then .inl (.boolean, (xl h b p, .inl f)) else if xk p = 102 then .inl (.byte, (xl h b p, .inl f)) else
  if p = 4 then .inl (.object "TerminalHouse$Entry", (12, .inr (.inr (.inr (.inr am_q4))))) else if p = 107 then .inl (.array .int, (6, .inr (.inr (.inr (.inr am_q107))))) else if p = 115 then .inl (.object "TerminalHouse$Window", (8, .inr (.inr (.inr (.inr am_q115))))) else .inr (xk p - 1, xF (xk p - 1) p f)
/-- the heap: both programs' cells by a, behind them T -/
def xS (h b : Nat) (T : List am_C) (a : xA) (H : am_H) : Prop := H.length = 196 + T.length ∧ (∀ p : Nat, p < 196 → H[p]? = some (xC h b p (a p))) ∧ ∀ j : Nat, 196 ≤ j → H[j]? = T[j - 196]?
theorem xk_lt {p : Nat} (hk : xk p ≠ 0) : p < 196 := by
  refine Nat.lt_of_not_le fun q => hk ?_
  unfold xk
  rw [List.getD_eq_getElem?_getD, List.getElem?_eq_none (show xkl.length ≤ p from q)]
  rfl
section XS
variable {h b : Nat} {T : List am_C} {a : xA} {H : am_H}
theorem xS.obj (hS : xS h b T a H) {p ci : Nat} (hk : xk p = ci + 1) (hc : ci < 13) : H[p]? = some (.inr (ci, xF ci p (a p))) := by
  rw [hS.2.1 p (xk_lt (by omega))]
  unfold xC
  rw [if_neg (by omega), if_neg (by omega), if_neg (by omega), if_neg (fun q => by subst q; exact absurd hk (by show ¬ 103 = ci + 1; omega)), if_neg (fun q => by subst q; exact absurd hk (by show ¬ 103 = ci + 1; omega)), if_neg (fun q => by subst q; exact absurd hk (by show ¬ 103 = ci + 1; omega)), hk, Nat.add_sub_cancel]
theorem xS.int (hS : xS h b T a H) {p : Nat} (hk : xk p = 100) : H[p]? = some (.inl (.int, (xl h b p, .inl (a p)))) := by
  rw [hS.2.1 p (xk_lt (by omega))]
  unfold xC
  rw [if_pos hk]
theorem xS.boo (hS : xS h b T a H) {p : Nat} (hk : xk p = 101) : H[p]? = some (.inl (.boolean, (xl h b p, .inl (a p)))) := by
  rw [hS.2.1 p (xk_lt (by omega))]
  unfold xC
  rw [if_neg (by omega), if_pos hk]
theorem xS.byt (hS : xS h b T a H) {p : Nat} (hk : xk p = 102) : H[p]? = some (.inl (.byte, (xl h b p, .inl (a p)))) := by
  rw [hS.2.1 p (xk_lt (by omega))]
  unfold xC
  rw [if_neg (by omega), if_neg (by omega), if_pos hk]
theorem xS.q4 (hS : xS h b T a H) : H[4]? = some (.inl (.object "TerminalHouse$Entry", (12, .inr (.inr (.inr (.inr am_q4)))))) := hS.2.1 4 (by decide)
theorem xS.q107 (hS : xS h b T a H) : H[107]? = some (.inl (.array .int, (6, .inr (.inr (.inr (.inr am_q107)))))) := hS.2.1 107 (by decide)
theorem xS.q115 (hS : xS h b T a H) : H[115]? = some (.inl (.object "TerminalHouse$Window", (8, .inr (.inr (.inr (.inr am_q115)))))) := hS.2.1 115 (by decide)
theorem xS.set (hS : xS h b T a H) {p : Nat} (hp : p < 196) {f : Nat → Int32} {c : am_C} (hc : c = xC h b p f) : xS h b T (xW a p f) (H.set p c) := by
  subst hc
  refine ⟨by rw [List.length_set]; exact hS.1, fun q hq => ?_, fun j hj => ?_⟩
  · by_cases e : p = q
    · subst e
      rw [List.getElem?_set_self (by have := hS.1; omega)]
      unfold xW
      rw [if_pos rfl]
    · rw [List.getElem?_set_ne e, hS.2.1 q hq]
      unfold xW
      rw [if_neg (Ne.symm e)]
  · rw [List.getElem?_set_ne (by omega)]
    exact hS.2.2 j hj
theorem xC_obj {p ci : Nat} {f : Nat → Int32} (hk : xk p = ci + 1) (hc : ci < 13) : xC h b p f = .inr (ci, xF ci p f) := by
  unfold xC
  rw [if_neg (by omega), if_neg (by omega), if_neg (by omega), if_neg (fun q => by subst q; exact absurd hk (by show ¬ 103 = ci + 1; omega)), if_neg (fun q => by subst q; exact absurd hk (by show ¬ 103 = ci + 1; omega)), if_neg (fun q => by subst q; exact absurd hk (by show ¬ 103 = ci + 1; omega)), hk, Nat.add_sub_cancel]
theorem xC_int {p : Nat} {f : Nat → Int32} (hk : xk p = 100) : xC h b p f = .inl (.int, (xl h b p, .inl f)) := by
  unfold xC
  rw [if_pos hk]
theorem xC_boo {p : Nat} {f : Nat → Int32} (hk : xk p = 101) : xC h b p f = .inl (.boolean, (xl h b p, .inl f)) := by
  unfold xC
  rw [if_neg (by omega), if_pos hk]
theorem xC_byt {p : Nat} {f : Nat → Int32} (hk : xk p = 102) : xC h b p f = .inl (.byte, (xl h b p, .inl f)) := by
  unfold xC
  rw [if_neg (by omega), if_neg (by omega), if_pos hk]
end XS
/-! Rows of runs over such a heap. -/
section XE
variable {sL : Nat} {sx : Nat → Int32} {cs : Nat → Nat → Option Int32} {y pc : Nat} {ls : am_L} {st : List Value} {H : am_H} {R : Option Value} {F : am_H → Prop} {h b : Nat} {T : List am_C} {a : xA}
theorem xe_get {i ci bb p : Nat} {ne : Bool} {v : Value} (hS : xS h b T a H) (hI : am_co y pc = some (.getfield i, .null, ci, bb, ne, [])) (hk : xk p = ci + 1) (hc : ci < 13) (hv : (xF ci p (a p))[bb]? = some v) (kk : am_E sL sx cs y (pc + 3) ls (v :: st) H R F) : am_E sL sx cs y pc ls (.ref p :: st) H R F :=
  ex_s (st_get hI (hS.obj hk hc) hv) kk
theorem xe_put {i ci bb p : Nat} {ne : Bool} {v : Value} {w : Int32} {ty : FieldType} (hS : xS h b T a H) (hI : am_co y pc = some (.putfield i, .null, ci, bb, ne, [])) (hk : xk p = ci + 1) (hc : ci < 13) (hb : Nat.ble (bb + 1) (xF ci p (a p)).length = true) (hty : (am_ctb[ci]?).bind (fun q => q.2[bb]?) = some ty) (hf : am_fit ty v = true) (he : (xF ci p (a p)).set bb v = xF ci p (upd (a p) bb w))
    (kk : ∀ H2 : am_H, xS h b T (xU a p bb w) H2 → am_E sL sx cs y (pc + 3) ls st H2 R F) : am_E sL sx cs y pc ls (v :: .ref p :: st) H R F :=
  ex_s (st_put hI (hS.obj hk hc) hb hty hf) (kk _ (hS.set (xk_lt (by omega)) (by rw [he, xC_obj hk hc])))
theorem xe_iald {p : Nat} {i : Int32} (hS : xS h b T a H) (hI : am_co y pc = some (.iaload, .null, 0, 0, false, [])) (hk : xk p = 100) (hi : ¬ (i < 0 ∨ xl h b p ≤ i.toNatClampNeg)) (kk : am_E sL sx cs y (pc + 1) ls (.int (a p i.toNatClampNeg) :: st) H R F) : am_E sL sx cs y pc ls (.int i :: .ref p :: st) H R F :=
  ex_s (st_iald hI (hS.int hk) hi) kk
theorem xe_zald {p : Nat} {i : Int32} (hS : xS h b T a H) (hI : am_co y pc = some (.baload, .null, 0, 0, false, [])) (hk : xk p = 101) (hi : ¬ (i < 0 ∨ xl h b p ≤ i.toNatClampNeg)) (kk : am_E sL sx cs y (pc + 1) ls (.int (a p i.toNatClampNeg) :: st) H R F) : am_E sL sx cs y pc ls (.int i :: .ref p :: st) H R F :=
  ex_s (st_zald hI (hS.boo hk) hi) kk
theorem xe_bald {p : Nat} {i : Int32} (hS : xS h b T a H) (hI : am_co y pc = some (.baload, .null, 0, 0, false, [])) (hk : xk p = 102) (hi : ¬ (i < 0 ∨ xl h b p ≤ i.toNatClampNeg)) (kk : am_E sL sx cs y (pc + 1) ls (.int (a p i.toNatClampNeg) :: st) H R F) : am_E sL sx cs y pc ls (.int i :: .ref p :: st) H R F :=
  ex_s (st_bald hI (hS.byt hk) hi) kk
theorem xe_iast {p : Nat} {i w : Int32} (hS : xS h b T a H) (hI : am_co y pc = some (.iastore, .null, 0, 0, false, [])) (hk : xk p = 100) (hi : ¬ (i < 0 ∨ xl h b p ≤ i.toNatClampNeg)) (kk : ∀ H2 : am_H, xS h b T (xU a p i.toNatClampNeg w) H2 → am_E sL sx cs y (pc + 1) ls st H2 R F) : am_E sL sx cs y pc ls (.int w :: .int i :: .ref p :: st) H R F :=
  ex_s (st_iast hI (hS.int hk) hi) (kk _ (hS.set (xk_lt (by omega)) (xC_int hk).symm))
theorem xe_zast {p : Nat} {i w : Int32} (hS : xS h b T a H) (hI : am_co y pc = some (.bastore, .null, 0, 0, false, [])) (hk : xk p = 101) (hi : ¬ (i < 0 ∨ xl h b p ≤ i.toNatClampNeg)) (kk : ∀ H2 : am_H, xS h b T (xU a p i.toNatClampNeg (vp_nar .boolean w)) H2 → am_E sL sx cs y (pc + 1) ls st H2 R F) : am_E sL sx cs y pc ls (.int w :: .int i :: .ref p :: st) H R F :=
  ex_s (st_zast hI (hS.boo hk) hi) (kk _ (hS.set (xk_lt (by omega)) (xC_boo hk).symm))
theorem xe_bast {p : Nat} {i w : Int32} (hS : xS h b T a H) (hI : am_co y pc = some (.bastore, .null, 0, 0, false, [])) (hk : xk p = 102) (hi : ¬ (i < 0 ∨ xl h b p ≤ i.toNatClampNeg)) (kk : ∀ H2 : am_H, xS h b T (xU a p i.toNatClampNeg (vp_nar .byte w)) H2 → am_E sL sx cs y (pc + 1) ls st H2 R F) : am_E sL sx cs y pc ls (.int w :: .int i :: .ref p :: st) H R F :=
  ex_s (st_bast hI (hS.byt hk) hi) (kk _ (hS.set (xk_lt (by omega)) (xC_byt hk).symm))
theorem xe_alen {p : Nat} (hS : xS h b T a H) (hI : am_co y pc = some (.arraylength, .null, 0, 0, false, [])) (hk : xk p = 100) (kk : am_E sL sx cs y (pc + 1) ls (.int (Int32.ofNat (xl h b p)) :: st) H R F) : am_E sL sx cs y pc ls (.ref p :: st) H R F :=
  ex_s (st_alen hI (hS.int hk)) kk
theorem xq4_ok : ∀ i : Nat, i < 12 → am_q4 i = some (9 + 7 * i) := by decide
theorem xq107_ok : ∀ i : Nat, i < 6 → am_q107 i = some (108 + i) := by decide
theorem xq115_ok : ∀ i : Nat, i < 8 → am_q115 i = some (141 + 2 * i) := by decide
theorem xe_q4 {i : Int32} (hS : xS h b T a H) (hI : am_co y pc = some (.aaload, .null, 0, 0, false, [])) (hi : ¬ (i < 0 ∨ 12 ≤ i.toNatClampNeg)) (kk : am_E sL sx cs y (pc + 1) ls (.ref (9 + 7 * i.toNatClampNeg) :: st) H R F) : am_E sL sx cs y pc ls (.int i :: .ref 4 :: st) H R F := by
  refine ex_s (st_aald hI hS.q4 hi rfl) ?_
  rw [xq4_ok _ (Nat.lt_of_not_le fun q => hi (Or.inr q))]
  exact kk
theorem xe_q107 {i : Int32} (hS : xS h b T a H) (hI : am_co y pc = some (.aaload, .null, 0, 0, false, [])) (hi : ¬ (i < 0 ∨ 6 ≤ i.toNatClampNeg)) (kk : am_E sL sx cs y (pc + 1) ls (.ref (108 + i.toNatClampNeg) :: st) H R F) : am_E sL sx cs y pc ls (.int i :: .ref 107 :: st) H R F := by
  refine ex_s (st_aald hI hS.q107 hi rfl) ?_
  rw [xq107_ok _ (Nat.lt_of_not_le fun q => hi (Or.inr q))]
  exact kk
theorem xe_q115 {i : Int32} (hS : xS h b T a H) (hI : am_co y pc = some (.aaload, .null, 0, 0, false, [])) (hi : ¬ (i < 0 ∨ 8 ≤ i.toNatClampNeg)) (kk : am_E sL sx cs y (pc + 1) ls (.ref (141 + 2 * i.toNatClampNeg) :: st) H R F) : am_E sL sx cs y pc ls (.int i :: .ref 115 :: st) H R F := by
  refine ex_s (st_aald hI hS.q115 hi rfl) ?_
  rw [xq115_ok _ (Nat.lt_of_not_le fun q => hi (Or.inr q))]
  exact kk
theorem xe_copy {i p q : Nat} {w dp sp : Int32} (hS : xS h b T a H) (hI : am_co y pc = some (.invokestatic i, .null, 1001, 0, false, [])) (hp : xk p = 100) (hq : xk q = 100) (hc : ¬ sp < 0 ∧ ¬ dp < 0 ∧ ¬ w < 0 ∧ sp.toNatClampNeg + w.toNatClampNeg ≤ xl h b p ∧ dp.toNatClampNeg + w.toNatClampNeg ≤ xl h b q) (h6 : am_sum st ≤ 8)
    (kk : ∀ H2 : am_H, xS h b T (xW a q (va_cpy (a p) (a q) sp.toNatClampNeg dp.toNatClampNeg w.toNatClampNeg)) H2 → am_E sL sx cs y (pc + 3) ls st H2 R F) : am_E sL sx cs y pc ls (.int w :: .int dp :: .ref q :: .int sp :: .ref p :: st) H R F :=
  ex_s (st_copy hI (hS.int hp) (hS.int hq) hc.1 hc.2.1 hc.2.2.1 hc.2.2.2.1 hc.2.2.2.2 h6) (kk _ (hS.set (xk_lt (by omega)) (xC_int hq).symm))
end XE
/-! More rows. -/
theorem xall196 {P : Nat → Prop} [DecidablePred P] (h : ∀ p : Nat, p < 196 → P p) (h0 : ∀ p : Nat, 196 ≤ p → P p) (p : Nat) : P p := if q : p < 196 then h p q else h0 p (by omega)
theorem xN_of {p K : Nat} (hk : xk p = K) (h0 : K ≠ 0) : xN (Int32.ofNat p) = .ref p := by
  have hp : p < 196 := xk_lt (by omega)
  have e1 : ¬ Int32.ofNat p = -1 := by
    intro q
    have := congrArg Int32.toInt q
    rw [Int32.toInt_ofNat_of_lt (by omega)] at this
    have e2 : (-1 : Int32).toInt = -1 := by decide
    rw [e2] at this
    omega
  unfold xN
  rw [if_neg e1, clamp_of rfl (by omega)]
theorem xfit_o {C : String} {w : Int32} : am_fit (.object C) (xN w) = true := by
  unfold xN
  split <;> rfl
theorem xfit_a {t : FieldType} {w : Int32} : am_fit (.array t) (xN w) = true := by
  unfold xN
  split <;> rfl
theorem xfit_z {w : Int32} (h : w = 0 ∨ w = 1) : am_fit .boolean (.int w) = true := by rcases h with h | h <;> (rw [h]; rfl)
theorem xnar_z {w : Int32} (h : w = 0 ∨ w = 1) : narrow .boolean (.int w) = .int w := by rcases h with h | h <;> (rw [h]; rfl)
theorem xrfl_m {w : Int32} : am_rfl (xN w) = true := by
  unfold xN
  split <;> rfl
theorem xkq4 {i : Int32} (g : ¬ (i < 0 ∨ 12 ≤ i.toNatClampNeg)) : xk (9 + 7 * i.toNatClampNeg) = 3 := by
  have h : ∀ j : Nat, j < 12 → xk (9 + 7 * j) = 3 := by decide
  exact h _ (Nat.lt_of_not_le fun q => g (Or.inr q))
theorem xkq107 {i : Int32} (g : ¬ (i < 0 ∨ 6 ≤ i.toNatClampNeg)) : xk (108 + i.toNatClampNeg) = 100 := by
  have h : ∀ j : Nat, j < 6 → xk (108 + j) = 100 := by decide
  exact h _ (Nat.lt_of_not_le fun q => g (Or.inr q))
theorem xkq115 {i : Int32} (g : ¬ (i < 0 ∨ 8 ≤ i.toNatClampNeg)) : xk (141 + 2 * i.toNatClampNeg) = 10 := by
  have h : ∀ j : Nat, j < 8 → xk (141 + 2 * j) = 10 := by decide
  exact h _ (Nat.lt_of_not_le fun q => g (Or.inr q))
theorem xd_0_1 {p : Nat} (hk : xk p = 1) : xk (p + 1) = 100 := by
  have h : ∀ q : Nat, q < 196 → xk q = 1 → xk (q + 1) = 100 := by decide +kernel
  exact h p (xk_lt (by omega)) hk
theorem xd_2_1 {p : Nat} (hk : xk p = 3) : xk (p + 1) = 100 := by
  have h : ∀ q : Nat, q < 196 → xk q = 3 → xk (q + 1) = 100 := by decide +kernel
  exact h p (xk_lt (by omega)) hk
theorem xd_2_2 {p : Nat} (hk : xk p = 3) : xk (p + 2) = 100 := by
  have h : ∀ q : Nat, q < 196 → xk q = 3 → xk (q + 2) = 100 := by decide +kernel
  exact h p (xk_lt (by omega)) hk
theorem xd_2_3 {p : Nat} (hk : xk p = 3) : xk (p + 3) = 101 := by
  have h : ∀ q : Nat, q < 196 → xk q = 3 → xk (q + 3) = 101 := by decide +kernel
  exact h p (xk_lt (by omega)) hk
theorem xd_2_4 {p : Nat} (hk : xk p = 3) : xk (p + 4) = 100 := by
  have h : ∀ q : Nat, q < 196 → xk q = 3 → xk (q + 4) = 100 := by decide +kernel
  exact h p (xk_lt (by omega)) hk
theorem xd_2_5 {p : Nat} (hk : xk p = 3) : xk (p + 5) = 100 := by
  have h : ∀ q : Nat, q < 196 → xk q = 3 → xk (q + 5) = 100 := by decide +kernel
  exact h p (xk_lt (by omega)) hk
theorem xd_2_6 {p : Nat} (hk : xk p = 3) : xk (p + 6) = 100 := by
  have h : ∀ q : Nat, q < 196 → xk q = 3 → xk (q + 6) = 100 := by decide +kernel
  exact h p (xk_lt (by omega)) hk
theorem xd_9_1 {p : Nat} (hk : xk p = 10) : xk (p + 1) = 100 := by
  have h : ∀ q : Nat, q < 196 → xk q = 10 → xk (q + 1) = 100 := by decide +kernel
  exact h p (xk_lt (by omega)) hk
section XM
variable {sL : Nat} {sx : Nat → Int32} {cs : Nat → Nat → Option Int32} {y pc : Nat} {ls : am_L} {st : List Value} {H : am_H} {R : Option Value} {F : am_H → Prop} {h b : Nat} {T : List am_C} {a : xA}
theorem xe_putN {i ci bb p : Nat} {ne : Bool} {v : Value} {w : Int32} {ty : FieldType} (hS : xS h b T a H) (hI : am_co y pc = some (.putfield i, .null, ci, bb, ne, [])) (hk : xk p = ci + 1) (hc : ci < 13) (hb : Nat.ble (bb + 1) (xF ci p (a p)).length = true) (hty : (am_ctb[ci]?).bind (fun q => q.2[bb]?) = some ty) (hv : v = xN w) (hf : am_fit ty (xN w) = true) (he : (xF ci p (a p)).set bb (xN w) = xF ci p (upd (a p) bb w))
    (kk : ∀ H2 : am_H, xS h b T (xU a p bb w) H2 → am_E sL sx cs y (pc + 3) ls st H2 R F) : am_E sL sx cs y pc ls (v :: .ref p :: st) H R F := by
  subst hv
  exact xe_put hS hI hk hc hb hty hf he kk
theorem xe_ialdc {p : Nat} {i v : Int32} (hS : xS h b T a H) (hI : am_co y pc = some (.iaload, .null, 0, 0, false, [])) (hk : xk p = 100) (hi : ¬ (i < 0 ∨ xl h b p ≤ i.toNatClampNeg)) (hv : a p i.toNatClampNeg = v) (kk : am_E sL sx cs y (pc + 1) ls (.int v :: st) H R F) : am_E sL sx cs y pc ls (.int i :: .ref p :: st) H R F := by
  subst hv
  exact xe_iald hS hI hk hi kk
theorem xe_zaldc {p : Nat} {i v : Int32} (hS : xS h b T a H) (hI : am_co y pc = some (.baload, .null, 0, 0, false, [])) (hk : xk p = 101) (hi : ¬ (i < 0 ∨ xl h b p ≤ i.toNatClampNeg)) (hv : a p i.toNatClampNeg = v) (kk : am_E sL sx cs y (pc + 1) ls (.int v :: st) H R F) : am_E sL sx cs y pc ls (.int i :: .ref p :: st) H R F := by
  subst hv
  exact xe_zald hS hI hk hi kk
theorem xe_baldc {p : Nat} {i v : Int32} (hS : xS h b T a H) (hI : am_co y pc = some (.baload, .null, 0, 0, false, [])) (hk : xk p = 102) (hi : ¬ (i < 0 ∨ xl h b p ≤ i.toNatClampNeg)) (hv : a p i.toNatClampNeg = v) (kk : am_E sL sx cs y (pc + 1) ls (.int v :: st) H R F) : am_E sL sx cs y pc ls (.int i :: .ref p :: st) H R F := by
  subst hv
  exact xe_bald hS hI hk hi kk
theorem xe_alenc {p : Nat} {v : Int32} (hS : xS h b T a H) (hI : am_co y pc = some (.arraylength, .null, 0, 0, false, [])) (hk : xk p = 100) (hv : Int32.ofNat (xl h b p) = v) (kk : am_E sL sx cs y (pc + 1) ls (.int v :: st) H R F) : am_E sL sx cs y pc ls (.ref p :: st) H R F := by
  subst hv
  exact xe_alen hS hI hk kk
theorem st_ldiv {x x' : Int64} {k n : Nat} (hI : am_co y pc = some (.ldiv, .null, 0, 0, false, [])) (h0 : ¬ x' = 0) : aX sL sx cs y pc ls (.long x' :: .long x :: st) H k n = aX sL sx cs y (pc + 1) ls (.long (x / x') :: st) H k n :=
  st_1 (u := (pc + 1, ls, .long (x / x') :: st, H, k, n)) hI rfl (by dsimp only [am_s]; rw [if_neg h0])
theorem st_lrem {x x' : Int64} {k n : Nat} (hI : am_co y pc = some (.lrem, .null, 0, 0, false, [])) (h0 : ¬ x' = 0) : aX sL sx cs y pc ls (.long x' :: .long x :: st) H k n = aX sL sx cs y (pc + 1) ls (.long (x - x / x' * x') :: st) H k n :=
  st_1 (u := (pc + 1, ls, .long (x - x / x' * x') :: st, H, k, n)) hI rfl (by dsimp only [am_s]; rw [if_neg h0])
theorem st_chr {i j : Nat} {ix x : Int32} {k n : Nat} (hI : am_co y pc = some (.invokevirtual i, .null, 1007, 0, false, [])) (h1 : ¬ ix < 0) (hc : cs j ix.toNatClampNeg = some x) (hs : Nat.ble (am_sum st) 8 = true) : aX sL sx cs y pc ls (.int ix :: .retAddr j :: st) H k n = aX sL sx cs y (pc + 3) ls (.int x :: st) H k n :=
  st_1 (u := (pc + 3, ls, .int x :: st, H, k, n)) hI rfl (by
    dsimp only [am_s]
    rw [if_pos ⟨rfl, h1, by decide, by decide, Nat.le_of_ble_eq_true hs⟩, hc])
def am_swn (x : Int32) (d : Nat) : List (Int32 × Nat) → Prop
  | [] => True
  | q :: t => (¬ x = q.1 ∨ q.2 = d) ∧ am_swn x d t
theorem sw_o {x : Int32} {d : Nat} : am_swn x d [] := trivial
theorem sw_c {x : Int32} {d : Nat} {q : Int32 × Nat} {t : List (Int32 × Nat)} (h : ¬ x = q.1 ∨ q.2 = d) (r : am_swn x d t) : am_swn x d (q :: t) := ⟨h, r⟩
theorem am_sw_n : ∀ {tb : List (Int32 × Nat)} {d : Nat} {x : Int32}, am_swn x d tb → am_sw tb d x = d
  | [], _, _, _ => rfl
  | q :: t, d, x, hn => by
    show (if x = q.1 then q.2 else am_sw t d x) = d
    by_cases c : x = q.1
    · rw [if_pos c]
      exact hn.1.resolve_left (fun z => z c)
    · rw [if_neg c]
      exact am_sw_n hn.2
end XM
theorem x_ofn {x : Int32} (h : ¬ x < 0) : Int32.ofNat x.toNatClampNeg = x := am_ofn (by
  have := Int32.not_lt.mp h
  have e0 : (0 : Int32).toInt = 0 := by decide
  have h2 := Int32.le_iff_toInt_le.mp this
  rw [e0] at h2
  exact h2)
theorem tf14_fill {sL : Nat} {sx : Nat → Int32} {h b N : Nat} {T : List am_C} {a' : xA} {x0 : Nat} {x1 x2 x3 : Int32} {a : xA} {H : am_H} (hS : xS h b T a H) (e : f14_fill N h b x0 x1 x2 x3 a = some a') : am_E sL sx am_cs 14 0 [(0, .ref x0), (1, .int x1), (2, .int x2), (3, .int x3)] [] H none (fun H1 => xS h b T a' H1) := by
  unfold f14_fill at e
  obtain ⟨g1, e⟩ := xg_some e
  obtain ⟨⟨c1, c2, c3, c4⟩, e⟩ := xg_some e
  obtain ⟨a1, ha1, e⟩ := xw_some e
  cases e
  have c5 : ¬ x2 < 0 := fun q => c1 (Int32.lt_of_le_of_lt c2 q)
  have e1 := x_ofn c1
  have e2 := x_ofn c5
  have c6 : x1.toNatClampNeg ≤ x2.toNatClampNeg := by
    rw [← e1, ← e2] at c2
    have l2 : x2.toNatClampNeg < 2 ^ 31 := by omega
    have l1 : x1.toNatClampNeg < 2 ^ 31 := by
      have := Int32.toNatClampNeg_lt x1
      omega
    exact (Int32.ofNat_le_ofNat l1 l2).mp c2
  have r := fl_ok (sL := sL) (sx := sx) (cs := am_cs) (v := x3) (hS.int g1) c6 c3 c4
  rw [e1, e2] at r
  refine ⟨_, r, ?_⟩
  rw [ha1]
  exact hS.set (xk_lt (by omega)) (xC_int g1).symm
