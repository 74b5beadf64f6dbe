/-! Calls, returns, and the whole machine. -/
theorem am_s_mono {z : am_Z} {I : am_I} {pc : Nat} {ls : am_L} {st : List Value} {h : am_H} {k n : Nat} {t : am_T} (hs : am_s z I pc ls st h k n = some t) : k ≤ t.2.2.2.2.1 ∧ n ≤ t.2.2.2.2.2 := by
  obtain ⟨i, v, a, b, ne, tb⟩ := I
  cases i <;> dsimp only [am_s] at hs <;> (repeat' split at hs) <;> first | (cases hs; exact ⟨Nat.le_refl _, Nat.le_refl _⟩) | (cases hs; exact ⟨by dsimp only; omega, by dsimp only; omega⟩) | cases hs
theorem am_ret_eq {i : Instr} {ret : Option FieldType} {st : List Value} {h : am_H} {k n : Nat} {A : am_A} (hr : am_ret i ret st h k n = some A) : A.2.1 = h ∧ A.2.2.1 = k ∧ A.2.2.2 = n := by
  unfold am_ret at hr
  (repeat' split at hr) <;> first | (cases hr; exact ⟨rfl, rfl, rfl⟩) | cases hr
section MONO
variable {co : Nat → Nat → Option am_I} {mt : Nat → am_M} {ct : List am_K} {sL : Nat} {sx : Nat → Int32} {cs : Nat → Nat → Option Int32}
theorem am_x_mono : ∀ (f d q y pc : Nat) (ls : am_L) (st : List Value) (h : am_H) (k n : Nat) (A : am_A), am_x co mt ct sL sx cs f d q y pc ls st h k n = some A → k ≤ A.2.2.1 ∧ n ≤ A.2.2.2
  | 0, _, _, _, _, _, _, _, _, _, _, hA => by cases hA
  | f + 1, d, q, y, pc, ls, st, h, k, n, A, hA => by
    unfold am_x at hA
    split at hA
    · cases hA
    · rename_i I hI
      split at hA
      · split at hA
        · cases hA
        · rename_i t ht
          have h1 := am_s_mono ht
          have h2 := am_x_mono f _ _ _ _ _ _ _ _ _ A hA
          omega
      · split at hA
        · have := am_ret_eq hA
          omega
        · split at hA
          · cases hA
          · split at hA
            · split at hA
              · cases hA
              · have h2 := am_x_mono f _ _ _ _ _ _ _ _ _ A hA
                omega
            · cases hA
end MONO
/-- what a call's tables say -/
def am_cal (B Bn : List Cond) (host : String) (M Y : am_M) (I : am_I) : Prop :=
  plainName Y.1.cls = true ∧ (Y.1.cls ≠ "java/lang/invoke/MethodHandle" ∧ Y.1.cls ≠ "java/lang/invoke/VarHandle" ∧ (parseMethodDescriptor Y.1.desc).map (fun d => d.parameters.length) = some I.2.2.2.1) ∧ Cond.code Y.1 Y.2.1 Y.2.2.1 Y.2.2.2 ∈ B ∧ Cond.initialized Y.1.cls ∈ B ∧
  match I.1 with
  | .invokestatic i => Cond.static Y.1 ∈ B ∧ (if I.2.2.2.2.1 = true then Cond.methodLinkNest M.1.cls i Y.1 host ∈ Bn else Cond.methodLink M.1.cls i Y.1 ∈ B)
  | .invokevirtual i => Cond.instanceMethod Y.1 ∈ B ∧ Cond.selects Y.1.cls Y.1 Y.1 ∈ B ∧ (if I.2.2.2.2.1 = true then Cond.methodLinkNest M.1.cls i Y.1 host ∈ Bn else Cond.methodLink M.1.cls i Y.1 ∈ B)
  | .invokespecial i => Y.1.name = "<init>" ∧ Y.2.2.2 = none ∧ Cond.instanceMethod Y.1 ∈ B ∧ (if I.2.2.2.2.1 = true then Cond.methodLinkNest M.1.cls i Y.1 host ∈ Bn else Cond.methodLink M.1.cls i Y.1 ∈ B)
  | _ => False
def am_Fx (N0 : Nat) (Fo : State → Heap → Prop) : Prop := am_Fk N0 Fo ∧ (∀ (u U : State) (H : Heap), u.WarmedH U.vm → Fo u H → Fo U H) ∧ ∀ (U : State) (g : JFrame) (mk : MethodId) (a : Array Value) (H : Heap), Fo U H → Fo (U.calling g mk a) H
def am_Bn (Bn : List Cond) : Prop := ∀ w ∈ Bn, w.onTables = true ∧ ∀ s U : State, s.WarmedH U.vm → va_Nw w s → va_Nw w U
def am_Bg (B : List Cond) : Prop := ∀ w ∈ B, (w.onTables && w.keeps) = true ∨ ∃ ty, w = .arrayClass ty
def am_hp (D : va_G) (cl : List vw_C) (dI : FieldType → ClassId) (tl : List FieldType) (N0 : Nat) (fl : Nat → Nat) (h : am_H) (H : Heap) : Prop := H.size = N0 + h.length ∧ va_P D cl (am_w dI N0 fl h) H ∧ am_tk tl h
def am_Pc (D : va_G) (cl : List vw_C) (dI : FieldType → ClassId) (tl : List FieldType) (N0 : Nat) (fl : Nat → Nat) (Fo : State → Heap → Prop) (Bn : List Cond) (as : List Value) (h : am_H) : Array Value → State → Prop := fun v U =>
  v = (as.map (am_v N0 fl)).toArray ∧ am_hp D cl dI tl N0 fl h U.heap ∧ Fo U U.heap ∧ va_K D cl (am_ty dI tl) U ∧ ∀ w ∈ Bn, va_Nw w U
def am_Qc (D : va_G) (cl : List vw_C) (dI : FieldType → ClassId) (tl : List FieldType) (N0 : Nat) (fl : Nat → Nat) (A : am_A) : Array Value → State → Outcome → State → Prop := fun _ st o t =>
  o = .returned (A.1.map (am_v N0 fl)) ∧ am_hp D cl dI tl N0 fl A.2.1 t.heap ∧ va_F (fun q => N0 ≤ q) st t ∧ st.heap.size + A.2.2.1 = N0 + A.2.1.length
def am_ws (B : List Cond) (Y : am_M) : List Cond := Cond.code Y.1 Y.2.1 Y.2.2.1 Y.2.2.2 :: B
def am_rm (d q : Nat) (A : am_A) : Room := { frames := d, cells := A.2.2.1, slots := A.2.2.2, locals := q }
/-- a method's contract, at these arguments and this heap -/
def am_Mt (l : Launch) (D : va_G) (cl : List vw_C) (dI : FieldType → ClassId) (tl : List FieldType) (N0 : Nat) (fl : Nat → Nat) (Fo : State → Heap → Prop) (B Bn : List Cond) (Y : am_M) (d q : Nat) (as : List Value) (h : am_H) (A : am_A) : Prop :=
  Met l Y.1 (am_ws B Y) (am_rm d q A) (am_Pc D cl dI tl N0 fl Fo Bn as h) (am_Qc D cl dI tl N0 fl A) A.2.2.1 A.2.2.2 (fun q => N0 ≤ q)
section AMC
variable {p : Program} {l : Launch} {e : Env} {R : Room} {s : State} {m : MethodId} {args : Array Value} {below : List Frame} {meth : Method} {c : Code} {Q : State → Prop}
variable {D : va_G} {cl : List vw_C} {dI : FieldType → ClassId} {tl : List FieldType} {N0 : Nat} {fl : Nat → Nat} {Fo : State → Heap → Prop} {H0 : Heap}
variable {pc : Nat} {ls : am_L} {st : List Value} {h : am_H} {k n : Nat}
variable {B Bn : List Cond} {cb : List vw_C} {ct : List am_K} {M : am_M} {host : String}
theorem am_blind (hF : am_Fx N0 Fo) (hBn : am_Bn Bn) (as : List Value) : FrameBlind (am_Pc D cl dI tl N0 fl Fo Bn as h) := by
  intro a U g mk hp
  obtain ⟨h1, h2, h3, h4, h5⟩ := hp
  exact ⟨h1, h2, hF.2.2 U g mk a _ h3, h4, fun w hw => va_Nw.same (u := U) (U := U.calling g mk a) (hBn w hw).1 rfl (h5 w hw)⟩
theorem am_pre {H : Heap} {locs : List Loc} (hE : am_Ev p s m args meth c B Bn D cl dI tl M) (hF : am_Fx N0 Fo) (hBn : am_Bn Bn) (hok : am_ok D cl dI tl N0 fl Fo s h H) (as : List Value) :
    ∀ U : State, U.heap = H → s.WarmedH U.vm → am_Pc D cl dI tl N0 fl Fo Bn as h (as.map (am_v N0 fl)).toArray U := by
  intro U hU hW
  obtain ⟨-, -, -, -, -, htn, hK, -⟩ := hE
  refine ⟨rfl, ⟨by rw [hU]; exact hok.1, by rw [hU]; exact hok.2.1, hok.2.2.2⟩, by rw [hU]; exact hF.2.1 s U H hW hok.2.2.1, hK.moved hW.alike, fun w hw => ?_⟩
  exact (hBn w hw).2 s U hW (va_Nw.of (hBn w hw).1 (htn w hw))
/-- behind a call -/
theorem am_back {H : Heap} {locs : List Loc} {la : Array Slot} {A : am_A} {a' : Array Value} {st0 rest : List Value} (hF : am_Fx N0 Fo) (hok : am_ok D cl dI tl N0 fl Fo s h H) (hS : va_S (fun q => N0 ≤ q) H0 H locs) (hl : lv_has la M.2.2.1 (am_lv N0 fl ls)) (hz : s.heap.size + k = N0 + h.length)
    (hr : va_Run p l e R s m args below meth c H locs k n A.2.2.1 A.2.2.2 (F0 m pc la st0) (rest.map (am_v N0 fl)) (am_Qc D cl dI tl N0 fl A a') (fun q => N0 ≤ q))
    (kk : am_G p l e R s m args below meth c Q D cl dI tl N0 fl Fo H0 M.2.2.1 (pc + 3) ls (A.1.toList ++ rest) A.2.1 (k + A.2.2.1) (n + A.2.2.2)) : W p l e R s m args below meth c H locs k n Q (F0 m pc la st0) := by
  intro T hT X
  obtain ⟨v, st₀, t, T', L, hst, X', hL, e1, e2, ⟨q1, q2, q3, q4⟩, go⟩ := hr T hT X
  cases q1
  rw [hst] at q4
  have hH := hok.1
  have hS1 : va_S (fun q => N0 ≤ q) H0 T'.heap (locs ++ L) := by
    obtain ⟨f1, f2⟩ := q3
    rw [hst] at f1 f2
    rw [e1]
    refine ⟨Nat.le_trans hS.1 f1, fun x x1 x2 => (f2 x (Nat.lt_of_lt_of_le x1 hS.1) x2).trans (hS.2.1 x x1 x2), fun x hx => ?_⟩
    rcases List.mem_append.mp hx with hx | hx
    · exact hS.2.2 x hx
    · exact hL x hx
  have hok1 : am_ok D cl dI tl N0 fl Fo s A.2.1 T'.heap := by
    obtain ⟨f1, f2⟩ := q3
    rw [hst] at f1 f2
    rw [e1]
    exact ⟨q2.1, q2.2.1, hF.1 s H t.heap hok.2.2.1 fun x hx => f2 x (by omega) (by show ¬ N0 ≤ x; omega), q2.2.2⟩
  have hw := kk T'.heap (locs ++ L) la hok1 hS1 hl (by omega)
  obtain ⟨t', a1, b1⟩ := hw T' rfl X'
  refine ⟨t', go t' ?_, b1⟩
  have e3 : (A.1.toList ++ rest).map (am_v N0 fl) = (A.1.map (am_v N0 fl)).toList ++ rest.map (am_v N0 fl) := by
    cases A.1 <;> rfl
  rw [e3] at a1
  exact a1
/-- a call -/
theorem am_call {d q : Nat} {I : am_I} {Y : am_M} {as rest : List Value} {A : am_A} (hE : am_Ev p s m args meth c B Bn D cl dI tl M) (hC : am_cls B cl cb ct) (hF : am_Fx N0 Fo) (hBn : am_Bn Bn) (hBg : am_Bg B) (hR : R.frames = d ∧ R.locals = q) (hI : am_dec M.2.1 pc I.1) (hc : am_cal B Bn host M Y I)
    (hM : am_Mt l D cl dI tl N0 fl Fo B Bn Y (d - 1) (q - (19 + Y.2.2.1)) as h A) (hp : am_pop ct Y.1.cls (am_kd I) I.2.2.2.1 st h = some (as, rest)) (hk2 : am_kd I ≠ 0) (hk3 : am_kd I ≠ 1) (hg : 0 < d ∧ 19 + Y.2.2.1 ≤ q ∧ am_sum rest ≤ 8 ∧ am_sum as ≤ Y.2.2.1) (hk : k + A.2.2.1 ≤ R.cells) (hn : n + A.2.2.2 ≤ R.slots)
    (kk : am_G p l e R s m args below meth c Q D cl dI tl N0 fl Fo H0 M.2.2.1 (pc + 3) ls (A.1.toList ++ rest) A.2.1 (k + A.2.2.1) (n + A.2.2.2)) : am_G p l e R s m args below meth c Q D cl dI tl N0 fl Fo H0 M.2.2.1 pc ls st h k n := by
  intro H locs la h1 h2 h3 h4
  obtain ⟨i, v, a, b, ne, tb⟩ := I
  obtain ⟨c1, c2, c3, c4, c5⟩ := hc
  dsimp only at c2 hp
  have hx := hE.1
  have hb := hE.2.1
  have hml := hE.2.2.1
  have hown := hE.2.2.2.1
  have hts := hE.2.2.2.2.1
  have htn := hE.2.2.2.2.2.1
  have hK := hE.2.2.2.2.2.2.1
  have hGood : GoodIn B (am_ws B Y) := by
    intro w hw
    rcases List.mem_cons.mp hw with rfl | hw
    · exact ⟨c3, hBg _ c3⟩
    · exact ⟨hw, hBg _ hw⟩
  have hfix : CallFix p m c M.2.1 M.2.2.1 s args B M.1.cls := ⟨hx, hb, hml, hown, hts⟩
  have hrm : (am_rm (d - 1) (q - (19 + Y.2.2.1)) A).frames + 1 ≤ R.frames ∧ 8 + (Y.2.2.1 + 11) + (am_rm (d - 1) (q - (19 + Y.2.2.1)) A).locals ≤ R.locals := by
    rw [hR.1, hR.2]
    show d - 1 + 1 ≤ d ∧ 8 + (Y.2.2.1 + 11) + (q - (19 + Y.2.2.1)) ≤ q
    omega
  have hW : 2 * (F0 m pc la (st.map (am_v N0 fl))).monitorRoom + ((rest.map (am_v N0 fl)).map fun v => v.category).sum ≤ 8 := by
    rw [am_sum_map]
    show 2 * 0 + am_sum rest ≤ 8
    omega
  obtain ⟨len, hd, hln⟩ := hI
  unfold am_pop at hp
  split at hp
  · cases hp
  rename_i hlen
  cases i
  case invokestatic j =>
    obtain rfl := hln _ rfl
    dsimp only at c5
    have hkd : am_kd (Instr.invokestatic j, v, a, b, ne, tb) = 2 := by
      unfold am_kd at hk2 ⊢
      dsimp only at hk2 ⊢
      split
      · rfl
      · rename_i hq
        rw [if_neg hq] at hk2
        exact absurd rfl hk2
    rw [hkd, if_pos rfl] at hp
    cases hp
    have hst : st.map (am_v N0 fl) = (((st.take b).reverse).map (am_v N0 fl)).reverse ++ (st.drop b).map (am_v N0 fl) := by
      rw [← List.map_reverse, List.reverse_reverse, ← List.map_append, List.take_append_drop]
    have hnl : (((st.take b).reverse).map (am_v N0 fl)).length = b := by
      rw [List.length_map, List.length_reverse, List.length_take]; omega
    obtain ⟨c5, c6⟩ := c5
    cases ne
    · exact am_back hF h1 h2 h3 h4 (va_runS hfix hM ⟨callB_of b hts hGood rfl rfl rfl (hts _ c4) (hts _ c6) c2 hrm, hts _ c5⟩ ⟨am_blind hF hBn _, am_pre (locs := locs) hE hF hBn h1 _⟩ rfl hnl h3.1 hst hW hd ⟨hk, hn⟩) kk
    · exact am_back hF h1 h2 h3 h4 (va_runSN hfix hM ⟨va_cnB b hts hGood rfl rfl rfl (va_Nw.of rfl (htn _ c6)) (hts _ c4) c2 hrm, hts _ c5, trivial⟩ ⟨am_blind hF hBn _, am_pre (locs := locs) hE hF hBn h1 _⟩ rfl hnl h3.1 hst hW hd ⟨hk, hn⟩) kk
  case invokevirtual j =>
    obtain rfl := hln _ rfl
    dsimp only at c5
    have hkd : am_kd (Instr.invokevirtual j, v, a, b, ne, tb) = 3 := by
      unfold am_kd at hk2 ⊢
      dsimp only at hk2 ⊢
      split
      · rfl
      · rename_i hq
        rw [if_neg hq] at hk2
        exact absurd rfl hk2
    rw [hkd, if_neg (by decide)] at hp
    split at hp
    · rename_i o rest' hdr
      split at hp
      · rename_i ci vs ho
        split at hp
        · rename_i hci
          cases hp
          have hst : st.map (am_v N0 fl) = (((st.take b).reverse).map (am_v N0 fl)).reverse ++ .ref (N0 + o) :: rest.map (am_v N0 fl) := by
            rw [← List.map_reverse, List.reverse_reverse]
            have e1 : st = st.take b ++ st.drop b := (List.take_append_drop b st).symm
            rw [hdr] at e1
            conv => lhs; rw [e1]
            rw [List.map_append]
            rfl
          have hnl : (((st.take b).reverse).map (am_v N0 fl)).length = b := by
            rw [List.length_map, List.length_reverse, List.length_take]; omega
          obtain ⟨qk, hq1, hq2⟩ := Option.map_eq_some_iff.mp hci
          obtain ⟨⟨C', T, N⟩, hr⟩ : ∃ r : vw_C, cb[ci]? = some r := by
            have : ci < cb.length := by rw [← hC.1.2]; exact (List.getElem?_eq_some_iff.mp hq1).1
            exact ⟨_, List.getElem?_eq_getElem this⟩
          obtain ⟨fs, f1, -⟩ := hC.2 ci C' T N hr
          have hr := hC.1.1 _ _ hr
          have hCC : C' = Y.1.cls := by
            rw [f1] at hq1
            cases hq1
            exact hq2
          have hrecv := va_recv hK h1.2.1 hr (am_w_at (dI := dI) (N0 := N0) (fl := fl) ho)
          dsimp only at hrecv
          rw [hCC] at hrecv
          obtain ⟨c5, c6, c7⟩ := c5
          cases ne
          · exact am_back hF h1 h2 h3 h4 (va_runV hfix hM ⟨callB_of b hts hGood rfl rfl rfl (hts _ c4) (hts _ c7) c2 hrm, hts _ c5, hts _ c6⟩ ⟨am_blind hF hBn _, hrecv, am_pre (locs := locs) hE hF hBn h1 _⟩ rfl hnl h3.1 hst hW hd ⟨hk, hn⟩) kk
          · exact am_back hF h1 h2 h3 h4 (va_runVN hfix hM ⟨va_cnB b hts hGood rfl rfl rfl (va_Nw.of rfl (htn _ c7)) (hts _ c4) c2 hrm, hts _ c5, hts _ c6⟩ ⟨am_blind hF hBn _, hrecv, am_pre (locs := locs) hE hF hBn h1 _⟩ rfl hnl h3.1 hst hW hd ⟨hk, hn⟩) kk
        · cases hp
      · cases hp
    · cases hp
  case invokespecial j =>
    obtain rfl := hln _ rfl
    dsimp only at c5
    have hkd : am_kd (Instr.invokespecial j, v, a, b, ne, tb) = 3 := by
      unfold am_kd at hk2 ⊢
      dsimp only at hk2 ⊢
      split
      · rfl
      · rename_i hq
        rw [if_neg hq] at hk2
        exact absurd rfl hk2
    rw [hkd, if_neg (by decide)] at hp
    split at hp
    · rename_i o rest' hdr
      split at hp
      · rename_i ci vs ho
        split at hp
        · rename_i hci
          cases hp
          have hst : st.map (am_v N0 fl) = (((st.take b).reverse).map (am_v N0 fl)).reverse ++ .ref (N0 + o) :: rest.map (am_v N0 fl) := by
            rw [← List.map_reverse, List.reverse_reverse]
            have e1 : st = st.take b ++ st.drop b := (List.take_append_drop b st).symm
            rw [hdr] at e1
            conv => lhs; rw [e1]
            rw [List.map_append]
            rfl
          have hnl : (((st.take b).reverse).map (am_v N0 fl)).length = b := by
            rw [List.length_map, List.length_reverse, List.length_take]; omega
          obtain ⟨qk, hq1, hq2⟩ := Option.map_eq_some_iff.mp hci
          obtain ⟨⟨C', T, N⟩, hr⟩ : ∃ r : vw_C, cb[ci]? = some r := by
            have : ci < cb.length := by rw [← hC.1.2]; exact (List.getElem?_eq_some_iff.mp hq1).1
            exact ⟨_, List.getElem?_eq_getElem this⟩
          obtain ⟨fs, f1, -⟩ := hC.2 ci C' T N hr
          have hr := hC.1.1 _ _ hr
          have hCC : C' = Y.1.cls := by
            rw [f1] at hq1
            cases hq1
            exact hq2
          have hrecv := va_recv hK h1.2.1 hr (am_w_at (dI := dI) (N0 := N0) (fl := fl) ho)
          dsimp only at hrecv
          rw [hCC] at hrecv
          obtain ⟨c5, c6, c7, c8⟩ := c5
          have hGood' : am_ws B Y = Cond.code Y.1 Y.2.1 Y.2.2.1 none :: B := by unfold am_ws; rw [c6]
          cases ne
          · exact am_back hF h1 h2 h3 h4 (va_runI hfix hM ⟨callB_of b hts hGood hGood' rfl rfl (hts _ c4) (hts _ c8) c2 hrm, c5, hts _ c7⟩ ⟨am_blind hF hBn _, am_pre (locs := locs) hE hF hBn h1 _⟩ rfl hnl h3.1 hst hW hd ⟨hk, hn⟩) kk
          · exact am_back hF h1 h2 h3 h4 (va_runIN hfix hM ⟨va_cnB b hts hGood hGood' rfl rfl (va_Nw.of rfl (htn _ c8)) (hts _ c4) c2 hrm, c5, hts _ c7⟩ ⟨am_blind hF hBn _, am_pre (locs := locs) hE hF hBn h1 _⟩ rfl hnl h3.1 hst hW hd ⟨hk, hn⟩) kk
        · cases hp
      · cases hp
    · cases hp
  all_goals exact absurd c5 (by intro z; exact z)
/-- a return of a method -/
theorem am_rets {A : am_A} {I : am_I} (hE : am_Ev p s m args meth c B Bn D cl dI tl M) (hI : am_dec M.2.1 pc I.1) (hr : am_ret I.1 M.2.2.2 st A.2.1 A.2.2.1 A.2.2.2 = some A) :
    am_G p l e R s m args below meth c (MQ below (am_Qc D cl dI tl N0 fl A) args s A.2.2.1 A.2.2.2 (fun q => N0 ≤ q)) D cl dI tl N0 fl Fo s.heap M.2.2.1 pc ls st A.2.1 A.2.2.1 A.2.2.2 := by
  intro H locs la h1 h2 h3 h4
  obtain ⟨i, v, a, b, ne, tb⟩ := I
  obtain ⟨len, hd, hln⟩ := hI
  have hx := hE.1
  have hb := hE.2.1
  have hrt := hE.2.2.2.2.2.2.2.1
  have hlk := hE.2.2.2.2.2.2.2.2.1
  have hq : ∀ (r : Option Value), A.1 = r → ∀ t : State, t.heap = H → s.WarmedH t.vm → am_Qc D cl dI tl N0 fl A args s (.returned (r.map (am_v N0 fl))) t := by
    intro r hr t ht hW
    refine ⟨by rw [hr], ⟨by rw [ht]; exact h1.1, by rw [ht]; exact h1.2.1, h1.2.2.2⟩, h2.F ht, h4⟩
  cases i
  case return_ =>
    obtain rfl := hln _ rfl
    dsimp only [am_ret] at hr
    split at hr
    · rename_i hm
      have hA : A.1 = none := by
        have := congrArg (fun z => z.map (fun y => y.1)) hr
        exact (Option.some.inj this).symm
      exact W.vret hx hb (hrt.trans hm) (hq none hA) h2.2.2 hd hlk
    · cases hr
  case ireturn =>
    obtain rfl := hln _ rfl
    dsimp only [am_ret] at hr
    split at hr
    · rename_i ty x hm
      split at hr
      · rename_i hnw
        have hA : A.1 = some (.int x) := by
          have := congrArg (fun z => z.map (fun y => y.1)) hr
          exact (Option.some.inj this).symm
        exact W.zret hx hb (hrt.trans hm) hnw (hq (some (.int x)) hA) h2.2.2 hd hlk
      · cases hr
    · cases hr
  case areturn =>
    obtain rfl := hln _ rfl
    dsimp only [am_ret] at hr
    split at hr
    · rename_i ty x hm
      split at hr
      · rename_i hnw
        have hA : A.1 = some x := by
          have := congrArg (fun z => z.map (fun y => y.1)) hr
          exact (Option.some.inj this).symm
        refine W.aret (v := am_v N0 fl x) hx hb (hrt.trans hm) ?_ (am_rfl_v N0 fl hnw.2) (hq (some x) hA) h2.2.2 hd hlk
        have h5 := hnw.1
        cases ty <;> first | exact Or.inl ⟨_, rfl⟩ | exact Or.inr ⟨_, rfl⟩ | cases h5
      · cases hr
    · cases hr
  case lreturn =>
    obtain rfl := hln _ rfl
    dsimp only [am_ret] at hr
    split at hr
    · rename_i x hm
      have hA : A.1 = some (.long x) := by
        have := congrArg (fun z => z.map (fun y => y.1)) hr
        exact (Option.some.inj this).symm
      exact W.lret hx hb (hrt.trans hm) (hq (some (.long x)) hA) h2.2.2 hd hlk
    · cases hr
  all_goals exact absurd hr (by simp [am_ret])
end AMC
section AMRUN
variable {l : Launch} {D : va_G} {cl : List vw_C} {dI : FieldType → ClassId} {tl : List FieldType} {N0 : Nat} {fl : Nat → Nat} {Fo : State → Heap → Prop} {B Bn : List Cond} {cb : List vw_C} {ct : List am_K} {host : String}
variable {co : Nat → Nat → Option am_I} {mt : Nat → am_M} {sL : Nat} {sx : Nat → Int32} {cs : Nat → Nat → Option Int32}
/-- what the tables must say, once for a program -/
def am_Tab (l : Launch) (D : va_G) (cl : List vw_C) (dI : FieldType → ClassId) (tl : List FieldType) (N0 : Nat) (fl : Nat → Nat) (Fo : State → Heap → Prop) (B Bn : List Cond) (cb : List vw_C) (ct : List am_K) (host : String) (co : Nat → Nat → Option am_I) (mt : Nat → am_M) (sL : Nat) (sx : Nat → Int32) (cs : Nat → Nat → Option Int32) : Prop :=
  am_cls B cl cb ct ∧ am_Fx N0 Fo ∧ am_Bn Bn ∧ am_Bg B ∧ (∀ (U : State) (H : Heap), Fo U H → va_X (fl 0) sL sx U H ∧ fl 0 < N0) ∧
  (∀ (y pc : Nat) (I : am_I), co y pc = some I → am_dec (mt y).2.1 pc I.1 ∧ am_aux B Bn cb tl host Fo fl (mt y) pc I ∧ (am_kd I ≠ 0 → am_kd I ≠ 1 → am_cal B Bn host (mt y) (mt I.2.2.1) I)) ∧
  ∀ (p : Program) (e : Env) (R : Room) (s : State) (m : MethodId) (args : Array Value) (below : List Frame) (meth : Method) (c : Code) (Q : State → Prop) (H0 : Heap) (M : am_M), am_Mna p l e R s m args below meth c Q D cl dI tl N0 fl Fo H0 B Bn M ∧ am_Chr p l e R s m args below meth c Q D cl dI tl N0 fl Fo H0 B Bn cs M ∧ am_Oct p l e R s m args below meth c Q D cl dI tl N0 fl Fo H0 B Bn M
def am_Run (l : Launch) (D : va_G) (cl : List vw_C) (dI : FieldType → ClassId) (tl : List FieldType) (N0 : Nat) (fl : Nat → Nat) (Fo : State → Heap → Prop) (B Bn : List Cond) (co : Nat → Nat → Option am_I) (M : am_M) (y d q pc : Nat) (ls : am_L) (st : List Value) (h : am_H) (k n : Nat) (A : am_A) : Prop :=
  ∀ (p : Program) (e : Env) (R : Room) (s : State) (m : MethodId) (args : Array Value) (below : List Frame) (meth : Method) (c : Code) (Q : State → Prop) (H0 : Heap), am_Ev p s m args meth c B Bn D cl dI tl M → (R.frames = d ∧ R.locals = q) → A.2.2.1 ≤ R.cells → A.2.2.2 ≤ R.slots →
    (∀ (pc : Nat) (ls : am_L) (st : List Value) (I : am_I), co y pc = some I → am_kd I = 1 → am_ret I.1 M.2.2.2 st A.2.1 A.2.2.1 A.2.2.2 = some A → am_G p l e R s m args below meth c Q D cl dI tl N0 fl Fo H0 M.2.2.1 pc ls st A.2.1 A.2.2.1 A.2.2.2) → am_G p l e R s m args below meth c Q D cl dI tl N0 fl Fo H0 M.2.2.1 pc ls st h k n
theorem am_met (hT : am_Tab l D cl dI tl N0 fl Fo B Bn cb ct host co mt sL sx cs) {y d q : Nat} {as : List Value} {h : am_H} {A : am_A} (hpl : plainName (mt y).1.cls = true) (has : am_sum as ≤ (mt y).2.2.1)
    (hrun : am_Run l D cl dI tl N0 fl Fo B Bn co (mt y) y d q 0 (lv_args 0 as) [] h 0 0 A) : am_Mt l D cl dI tl N0 fl Fo B Bn (mt y) d q as h A := by
  obtain ⟨hC, hF, hBn, hBg, hX, hco, hmna⟩ := hT
  refine Met.ofW hpl rfl ?_
  intro p e s m args below meth c s₁ Bd hml hv
  obtain ⟨rfl, hh, hFo, hK, hN⟩ := hv
  have hts := atoms_spec (ws := am_ws B (mt y)) Bd.pre
  have hE : am_Ev p s m (as.map (am_v N0 fl)).toArray meth c B Bn D cl dI tl (mt y) :=
    ⟨Bd.exec, Bd.bytes, hml, findClass_of_methodNamed Bd.named, fun w hw => hts w (List.mem_cons_of_mem _ hw), fun w hw => va_Nw.use (hBn w hw).1 (hN w hw), hK, Bd.returns, Bd.notSynchronized, fun hi => (name_of_methodNamed Bd.named Bd.method).1.trans hi⟩
  rw [lg_entry_eq]
  have hl := lv_entry (as.map (am_v N0 fl)) (n := (mt y).2.2.1) (by rw [am_sl_len, am_sum_eq, am_sum_map]; exact has)
  rw [am_lv_args] at hl
  refine hrun p e _ s m _ below meth c _ s.heap hE ⟨rfl, rfl⟩ (Nat.le_refl _) (Nat.le_refl _) ?_ s.heap [] _ ⟨hh.1, hh.2.1, hFo, hh.2.2⟩ va_S.rf hl (by have := hh.1; omega)
  intro pc ls st I hI hkd hr
  exact am_rets hE (hco y pc I hI).1 hr
theorem am_run (hT : am_Tab l D cl dI tl N0 fl Fo B Bn cb ct host co mt sL sx cs) : ∀ (f d q y pc : Nat) (ls : am_L) (st : List Value) (h : am_H) (k n : Nat) (A : am_A), am_x co mt ct sL sx cs f d q y pc ls st h k n = some A → am_Run l D cl dI tl N0 fl Fo B Bn co (mt y) y d q pc ls st h k n A
  | 0, _, _, _, _, _, _, _, _, _, _, hA => by cases hA
  | f + 1, d, q, y, pc, ls, st, h, k, n, A, hA => by
    intro p e R s m args below meth c Q H0 hE hR hk hn hret
    have hT0 := hT
    obtain ⟨hC, hF, hBn, hBg, hX, hco, hmna⟩ := hT0
    unfold am_x at hA
    split at hA
    · cases hA
    · rename_i I hI
      obtain ⟨g1, g2, g3⟩ := hco y pc I hI
      split at hA
      · split at hA
        · cases hA
        · rename_i t ht
          have hm := am_x_mono f _ _ _ _ _ _ _ _ _ A hA
          exact am_s_ok hE hC hF.1 hX (hmna p e R s m args below meth c Q H0 (mt y)).1 (hmna p e R s m args below meth c Q H0 (mt y)).2.1 (hmna p e R s m args below meth c Q H0 (mt y)).2.2 hR g1 g2 ht (Nat.le_trans hm.1 hk) (Nat.le_trans hm.2 hn) (am_run hT f _ _ _ _ _ _ _ _ _ A hA p e R s m args below meth c Q H0 hE hR hk hn hret)
      · rename_i hk0
        split at hA
        · rename_i hk1
          obtain ⟨e1, e2, e3⟩ := am_ret_eq hA
          subst e1
          subst e2
          subst e3
          exact hret pc ls st I hI hk1 hA
        · rename_i hk1
          split at hA
          · cases hA
          · rename_i as rest hp
            split at hA
            · rename_i hg
              split at hA
              · cases hA
              · rename_i r hr
                have hm := am_x_mono f _ _ _ _ _ _ _ _ _ A hA
                have hM : am_Mt l D cl dI tl N0 fl Fo B Bn (mt I.2.2.1) (d - 1) (q - (19 + (mt I.2.2.1).2.2.1)) as h r := am_met hT (g3 hk0 hk1).1 hg.2.2.2 (am_run hT f _ _ _ _ _ _ _ _ _ r hr)
                exact am_call hE hC hF hBn hBg hR g1 (g3 hk0 hk1) hM hp hk0 hk1 hg (Nat.le_trans hm.1 hk) (Nat.le_trans hm.2 hn) (am_run hT f _ _ _ _ _ _ _ _ _ A hA p e R s m args below meth c Q H0 hE hR hk hn hret)
            · cases hA
end AMRUN
