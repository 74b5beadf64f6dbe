/-! The abstract machine is sound: what it computes the machine does. -/
def am_v (N0 : Nat) (fl : Nat → Nat) (v : Value) : Value := match v with
  | .ref k => .ref (N0 + k)
  | .retAddr j => .ref (fl j)
  | w => w
def am_a (N0 : Nat) (x : vp_A) : vp_A := match x with
  | (n, .inr (.inr (.inr (.inr f)))) => (n, .inr (.inr (.inr (.inr fun j => (f j).map fun k => N0 + k))))
  | y => y
def am_e (dI : FieldType → ClassId) (N0 : Nat) (fl : Nat → Nat) (x : am_C) : va_E := match x with
  | .inl (t, a) => .inl (dI t, am_a N0 a)
  | .inr (ci, vs) => .inr (ci, vs.map (am_v N0 fl))
def am_w (dI : FieldType → ClassId) (N0 : Nat) (fl : Nat → Nat) (h : am_H) : va_W := h.mapIdx fun k x => (N0 + k, am_e dI N0 fl x)
def am_lv (N0 : Nat) (fl : Nat → Nat) (ls : am_L) : List (Nat × Value) := ls.map fun q => (q.1, am_v N0 fl q.2)
def am_ty (dI : FieldType → ClassId) (tl : List FieldType) : List (ClassId × FieldType) := tl.map fun t => (dI t, t)
theorem am_cat (N0 : Nat) (fl : Nat → Nat) (v : Value) : (am_v N0 fl v).category = v.category := by cases v <;> rfl
theorem am_sum_map (N0 : Nat) (fl : Nat → Nat) (st : List Value) : ((st.map (am_v N0 fl)).map fun v => v.category).sum = am_sum st := by
  rw [am_sum_eq, List.map_map]
  congr 1
  apply List.map_congr_left
  intro v _
  exact am_cat N0 fl v
theorem am_w_get (dI : FieldType → ClassId) (N0 : Nat) (fl : Nat → Nat) (h : am_H) (k : Nat) : (am_w dI N0 fl h)[k]? = (h[k]?).map fun x => (N0 + k, am_e dI N0 fl x) := by
  simp [am_w]
theorem am_w_len (dI : FieldType → ClassId) (N0 : Nat) (fl : Nat → Nat) (h : am_H) : (am_w dI N0 fl h).length = h.length := by simp [am_w]
theorem am_w_at {dI : FieldType → ClassId} {N0 : Nat} {fl : Nat → Nat} {h : am_H} {k : Nat} {x : am_C} (e : h[k]? = some x) : (am_w dI N0 fl h)[k]? = some (N0 + k, am_e dI N0 fl x) := by
  rw [am_w_get, e]; rfl
theorem am_w_set (dI : FieldType → ClassId) (N0 : Nat) (fl : Nat → Nat) (h : am_H) (k : Nat) (x : am_C) : (am_w dI N0 fl h).set k (N0 + k, am_e dI N0 fl x) = am_w dI N0 fl (h.set k x) := by
  apply List.ext_getElem?
  intro j
  rw [am_w_get, List.getElem?_set, List.getElem?_set, am_w_len, am_w_get]
  by_cases hj : k = j
  · subst hj
    by_cases hl : k < h.length
    · simp [hl]
    · simp [hl]
  · simp [hj]
theorem am_w_push (dI : FieldType → ClassId) (N0 : Nat) (fl : Nat → Nat) (h : am_H) (x : am_C) : am_w dI N0 fl (h ++ [x]) = am_w dI N0 fl h ++ [(N0 + h.length, am_e dI N0 fl x)] := by
  simp [am_w, List.mapIdx_append]
theorem am_w_D (dI : FieldType → ClassId) (N0 : Nat) (fl : Nat → Nat) (h : am_H) : va_D (fun q => N0 ≤ q) (am_w dI N0 fl h) := by
  refine ⟨fun i j p q hi hj he => ?_, fun k q hk => ?_⟩
  · rw [am_w_get] at hi hj
    obtain ⟨x, -, ex⟩ := Option.map_eq_some_iff.mp hi
    obtain ⟨y, -, ey⟩ := Option.map_eq_some_iff.mp hj
    rw [← ex, ← ey] at he
    have he : N0 + i = N0 + j := he
    omega
  · rw [am_w_get] at hk
    obtain ⟨x, -, ex⟩ := Option.map_eq_some_iff.mp hk
    rw [← ex]
    exact Nat.le_add_right _ _
theorem am_ty_at {dI : FieldType → ClassId} {tl : List FieldType} {t : FieldType} (h : t ∈ tl) : ∃ k : Nat, (am_ty dI tl)[k]? = some (dI t, t) := by
  obtain ⟨k, hk⟩ := List.getElem?_of_mem h
  exact ⟨k, by simp [am_ty, hk]⟩
theorem am_ld_mem {ls : am_L} {i : Nat} {v : Value} (h : am_ld ls i = some v) : (i, v) ∈ ls := by
  induction ls with
  | nil => cases h
  | cons q t ih =>
    unfold am_ld at h
    by_cases hq : q.1 = i
    · rw [if_pos hq] at h
      cases h
      subst hq
      exact List.mem_cons_self
    · rw [if_neg hq] at h
      exact List.mem_cons_of_mem _ (ih h)
theorem am_ld_at {ls : am_L} {i : Nat} {v : Value} {N0 : Nat} {fl : Nat → Nat} {la : Array Slot} {nL : Nat} (hl : lv_has la nL (am_lv N0 fl ls)) (h : am_ld ls i = some v) : la[i]? = some (.val (am_v N0 fl v)) :=
  hl.2.2 (i, am_v N0 fl v) (List.mem_map.mpr ⟨(i, v), am_ld_mem h, rfl⟩)
theorem am_lv_st1 (N0 : Nat) (fl : Nat → Nat) (ls : am_L) (i : Nat) (v : Value) : (i, am_v N0 fl v) :: (am_lv N0 fl ls).filter (fun q => !(q.1 == i) && !(q.1 + 1 == i && q.2.category == 2)) = am_lv N0 fl (am_st1 ls i v) := by
  unfold am_lv am_st1
  rw [List.map_cons, List.filter_map]
  congr 2
  apply List.filter_congr
  intro q _
  simp [am_cat]
theorem am_lv_st2 (N0 : Nat) (fl : Nat → Nat) (ls : am_L) (i : Nat) (v : Value) : (i, am_v N0 fl v) :: (am_lv N0 fl ls).filter (fun q => !(q.1 == i) && (!(q.1 == i + 1) && !(q.1 + 1 == i && q.2.category == 2))) = am_lv N0 fl (am_st2 ls i v) := by
  unfold am_lv am_st2
  rw [List.map_cons, List.filter_map]
  congr 2
  apply List.filter_congr
  intro q _
  simp [am_cat]
theorem am_lv_args (N0 : Nat) (fl : Nat → Nat) (vs : List Value) : ∀ i : Nat, lv_args i (vs.map (am_v N0 fl)) = am_lv N0 fl (lv_args i vs) := by
  induction vs with
  | nil => intro i; rfl
  | cons v vs ih =>
    intro i
    show (i, am_v N0 fl v) :: lv_args (if (am_v N0 fl v).category = 2 then i + 2 else i + 1) (vs.map (am_v N0 fl)) = (i, am_v N0 fl v) :: am_lv N0 fl (lv_args (if v.category = 2 then i + 2 else i + 1) vs)
    rw [am_cat, ih]
theorem am_sl_len (vs : List Value) : (lg_sl vs).length = am_sum vs := by
  rw [am_sum_eq]
  unfold lg_sl
  induction vs with
  | nil => rfl
  | cons v vs ih =>
    rw [List.flatMap_cons, List.length_append, ih, List.map_cons, List.sum_cons]
    congr 1
    cases v <;> rfl
theorem am_rf (N0 : Nat) (fl : Nat → Nat) (r : Option Nat) : am_v N0 fl (va_rf r) = va_rf (r.map fun k => N0 + k) := by cases r <;> rfl
theorem am_rfl_v {v : Value} (N0 : Nat) (fl : Nat → Nat) (h : am_rfl v = true) : am_v N0 fl v = .null ∨ ∃ a, am_v N0 fl v = .ref a := by
  cases v with
  | ref a => exact Or.inr ⟨_, rfl⟩
  | null => exact Or.inl rfl
  | retAddr j => exact Or.inr ⟨_, rfl⟩
  | int x => cases h
  | long x => cases h
  | float x => cases h
  | double x => cases h
theorem am_fit_ok {ty : FieldType} {v : Value} (N0 : Nat) (fl : Nat → Nat) (h : am_fit ty v = true) : narrow ty (am_v N0 fl v) = am_v N0 fl v ∧ fits ty (am_v N0 fl v) = true := by
  unfold am_fit at h
  split at h
  · exact ⟨rfl, rfl⟩
  · rename_i x
    simp only [Bool.or_eq_true, beq_iff_eq] at h
    rcases h with h | h <;> (subst h; exact ⟨rfl, rfl⟩)
  all_goals first | exact ⟨rfl, rfl⟩ | cases h
section AMS
variable {p : Program} {l : Launch} {e : Env} {R : Room} {s : State} {m : MethodId} {args : Array Value} {below : List Frame} {meth : Method} {c : Code} {Q : State → Prop}
variable {D : va_G} {cl : List vw_C} {dI : FieldType → ClassId} {tl : List FieldType} {N0 : Nat} {fl : Nat → Nat} {Fo : State → Heap → Prop} {H0 : Heap} {nL : Nat}
variable {cc : ByteArray} {pc : Nat} {ls : am_L} {st : List Value} {h : am_H} {k n : Nat}
def am_tk (tl : List FieldType) (h : am_H) : Prop := ∀ (k : Nat) (t : FieldType) (x : vp_A), h[k]? = some (.inl (t, x)) → t ∈ tl
theorem am_tk.set {tl : List FieldType} {h : am_H} (hk : am_tk tl h) {o : Nat} {x : am_C} (hx : ∀ (t : FieldType) (a : vp_A), x = .inl (t, a) → t ∈ tl) : am_tk tl (h.set o x) := by
  intro k t a e
  rw [List.getElem?_set] at e
  split at e
  · split at e
    · exact hx t a (Option.some.inj e)
    · cases e
  · exact hk k t a e
theorem am_tk.push {tl : List FieldType} {h : am_H} (hk : am_tk tl h) {x : am_C} (hx : ∀ (t : FieldType) (a : vp_A), x = .inl (t, a) → t ∈ tl) : am_tk tl (h ++ [x]) := by
  intro k t a e
  by_cases hl : k < h.length
  · rw [List.getElem?_append_left hl] at e
    exact hk k t a e
  · rw [List.getElem?_append_right (by omega)] at e
    have hz : k - h.length < 1 := (List.getElem?_eq_some_iff.mp e).1
    rw [show k - h.length = 0 by omega] at e
    exact hx t a (Option.some.inj e)
def am_ok (D : va_G) (cl : List vw_C) (dI : FieldType → ClassId) (tl : List FieldType) (N0 : Nat) (fl : Nat → Nat) (Fo : State → Heap → Prop) (s : State) (h : am_H) (H : Heap) : Prop :=
  H.size = N0 + h.length ∧ va_P D cl (am_w dI N0 fl h) H ∧ Fo s H ∧ am_tk tl h
def am_G (p : Program) (l : Launch) (e : Env) (R : Room) (s : State) (m : MethodId) (args : Array Value) (below : List Frame) (meth : Method) (c : Code) (Q : State → Prop) (D : va_G) (cl : List vw_C) (dI : FieldType → ClassId) (tl : List FieldType) (N0 : Nat) (fl : Nat → Nat) (Fo : State → Heap → Prop) (H0 : Heap) (nL : Nat)
    (pc : Nat) (ls : am_L) (st : List Value) (h : am_H) (k n : Nat) : Prop :=
  ∀ (H : Heap) (locs : List Loc) (la : Array Slot), am_ok D cl dI tl N0 fl Fo s h H → va_S (fun q => N0 ≤ q) H0 H locs → lv_has la nL (am_lv N0 fl ls) → s.heap.size + k = N0 + h.length →
    W p l e R s m args below meth c H locs k n Q (F0 m pc la (st.map (am_v N0 fl)))
theorem am_size {H : Heap} {locs : List Loc} {g : JFrame} (kk : H.size ≤ s.heap.size + k → W p l e R s m args below meth c H locs k n Q g) : W p l e R s m args below meth c H locs k n Q g := by
  intro T hT X
  have h1 : T.heap.size ≤ s.heap.size + k := X.same.2.2.1
  exact kk (by rw [← hT]; exact h1) T hT X
def am_Fk (N0 : Nat) (Fo : State → Heap → Prop) : Prop := ∀ (U : State) (H H1 : Heap), Fo U H → (∀ a : Nat, a < N0 → H1[a]? = H[a]?) → Fo U H1
theorem am_S0 {H : Heap} {locs : List Loc} (hS : va_S (fun q => N0 ≤ q) H0 H locs) : va_S (fun q => N0 ≤ q) H H locs := ⟨Nat.le_refl _, fun _ _ _ => rfl, hS.2.2⟩
theorem am_St {H H1 : Heap} {locs locs1 : List Loc} (hS : va_S (fun q => N0 ≤ q) H0 H locs) (h1 : va_S (fun q => N0 ≤ q) H H1 locs1) : va_S (fun q => N0 ≤ q) H0 H1 locs1 :=
  ⟨Nat.le_trans hS.1 h1.1, fun q a b => (h1.2.1 q (Nat.lt_of_lt_of_le a hS.1) b).trans (hS.2.1 q a b), h1.2.2⟩
/-- behind a store: the continuation at the new heap -/
theorem am_kk {H H1 : Heap} {locs locs1 : List Loc} {la : Array Slot} {h' : am_H} (hF : am_Fk N0 Fo) (hok : am_ok D cl dI tl N0 fl Fo s h H) (hS : va_S (fun q => N0 ≤ q) H0 H locs) (hz : s.heap.size + k = N0 + h.length)
    (kk : am_G p l e R s m args below meth c Q D cl dI tl N0 fl Fo H0 nL pc ls st h' k n) (hlen : h'.length = h.length) (ht1 : am_tk tl h') (hP1 : va_P D cl (am_w dI N0 fl h') H1) (hS1 : va_S (fun q => N0 ≤ q) H H1 locs1) (hl : lv_has la nL (am_lv N0 fl ls)) :
    W p l e R s m args below meth c H1 locs1 k n Q (F0 m pc la (st.map (am_v N0 fl))) := by
  refine am_size fun hsz => ?_
  have h1 := hS1.1
  have h2 := hok.1
  refine kk H1 locs1 la ⟨by omega, hP1, hF s H H1 hok.2.2.1 (fun a ha => hS1.2.1 a (by omega) (by show ¬ N0 ≤ a; omega)), ht1⟩ (am_St hS hS1) hl (by rw [hlen]; exact hz)
/-- behind a making -/
theorem am_kn {H H1 : Heap} {locs : List Loc} {la : Array Slot} {x : am_C} {n' : Nat} (hF : am_Fk N0 Fo) (hok : am_ok D cl dI tl N0 fl Fo s h H) (hS : va_S (fun q => N0 ≤ q) H0 H locs) (hz : s.heap.size + k = N0 + h.length)
    (kk : am_G p l e R s m args below meth c Q D cl dI tl N0 fl Fo H0 nL pc ls st (h ++ [x]) (k + 1) n') (z1 : H1.size = H.size + 1) (o1 : ∀ q : Nat, q < H.size → H1[q]? = H[q]?) (hx : va_at D cl (N0 + h.length, am_e dI N0 fl x) H1) (hxt : ∀ (t : FieldType) (a : vp_A), x = .inl (t, a) → t ∈ tl) (hl : lv_has la nL (am_lv N0 fl ls)) :
    W p l e R s m args below meth c H1 locs (k + 1) n' Q (F0 m pc la (st.map (am_v N0 fl))) := by
  have h2 := hok.1
  refine kk H1 locs la ⟨by rw [List.length_append]; show _ = N0 + (h.length + 1); omega, ?_, hF s H H1 hok.2.2.1 (fun a ha => o1 a (by omega)), hok.2.2.2.push hxt⟩ ⟨by have := hS.1; omega, fun q a b => (o1 q (Nat.lt_of_lt_of_le a hS.1)).trans (hS.2.1 q a b), hS.2.2⟩ hl (by rw [List.length_append]; show _ = N0 + (h.length + 1); omega)
  rw [am_w_push]
  refine (hok.2.1.kept fun k x hx => o1 x.1 ((hok.2.1 k x hx).lt)).app fun k x hx => ?_
  have hz : k < 1 := (List.getElem?_eq_some_iff.mp hx).1
  rw [show k = 0 by omega] at hx
  cases hx
  assumption
end AMS
