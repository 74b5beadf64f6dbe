/-! What the tables say of every listed instruction, by computation. -/
def am_dck (cc : ByteArray) (pc : Nat) (i : Instr) : Bool := match decode cc pc with
  | .ok (j, len) => decide (j = i) && (match am_ln i with
    | some q => decide (len = q)
    | none => true)
  | .error _ => false
theorem am_dck_ok {cc : ByteArray} {pc : Nat} {i : Instr} (h : am_dck cc pc i = true) : am_dec cc pc i := by
  unfold am_dck at h
  split at h
  · rename_i j len hd
    rw [Bool.and_eq_true] at h
    obtain ⟨h1, h2⟩ := h
    have e := of_decide_eq_true h1
    subst e
    refine ⟨len, hd, fun q hq => ?_⟩
    rw [hq] at h2
    exact of_decide_eq_true h2
  · cases h
def am_lkd (y : Nat) (I : am_I) (i kind : Nat) : Bool := decide (I.2.2.1 < 417) && decide ((am_mi I.2.2.1).2.1 = kind) && decide ((am_mi I.2.2.1).2.2.1 = I.2.2.2.1) && (am_MT.getD (am_mi y).1 []).any (fun q => decide (q.1 = (i, I.2.2.1, I.2.2.2.2.1)))
def am_ack (y pc : Nat) (I : am_I) : Bool :=
  let own := (am_mi y).1
  let v := I.2.1
  let a := I.2.2.1
  let b := I.2.2.2.1
  let ne := I.2.2.2.2.1
  let tb := I.2.2.2.2.2
  match I.1 with
  | .ldc i => match v with
    | .int w => (am_KT.getD own []).any (fun q => decide (q.1 = (i, w)))
    | .retAddr j => match am_ss[j - 1]? with
      | some q => decide (0 < j) && decide (q.1 = (am_mt y).1.cls) && decide (q.2.1 = i)
      | none => false
    | _ => false
  | .ldc_w i => match v with
    | .int w => (am_KT.getD own []).any (fun q => decide (q.1 = (i, w)))
    | .retAddr j => match am_ss[j - 1]? with
      | some q => decide (0 < j) && decide (q.1 = (am_mt y).1.cls) && decide (q.2.1 = i)
      | none => false
    | _ => false
  | .ldc2_w i => match v with
    | .long w => (am_JT.getD own []).any (fun q => decide (q.1 = (i, w)))
    | _ => false
  | .goto o => decide ((pc : Int) + o = (a : Int))
  | .ifCond _ o => decide ((pc : Int) + o = (a : Int))
  | .if_icmp _ o => decide ((pc : Int) + o = (a : Int))
  | .ifnull o => decide ((pc : Int) + o = (a : Int))
  | .ifnonnull o => decide ((pc : Int) + o = (a : Int))
  | .if_acmp _ o => decide ((pc : Int) + o = (a : Int))
  | .tableswitch d lo hi offs => decide ((pc : Int) + d = (a : Int)) && decide (hi = lo + offs.toList.length - 1) && am_tsc pc lo offs.toList tb
  | .lookupswitch d ps => decide ((pc : Int) + d = (a : Int)) && (ps.toList.zip (ps.toList.drop 1)).all (fun (a, next) => a.1 < next.1) && am_lkc pc ps.toList tb
  | .getfield i => (am_FT.getD own []).any (fun q => decide (q.1 = (i, a, b, ne)))
  | .putfield i => (am_FT.getD own []).any (fun q => decide (q.1 = (i, a, b, ne))) && (match am_clb[a]? with
    | some (C, T, _) => decide ((T b).2.2.2 = false) || (decide ((T b).2.2.2 = true) && decide (ne = false) && decide (C = (am_mt y).1.cls) && decide ((am_mt y).1.name = "<init>"))
    | none => false)
  | .new i => (am_CT.getD own []).any (fun q => decide (q.1 = (i, a)))
  | .anewarray i => (am_CT.getD own []).any (fun q => decide (q.1 = (i, a))) && (decide (a = 9) || decide (a = 2))
  | .newarray t => am_small (newarray.typeOf t)
  | .multianewarray i r => decide (r = 2) && (am_NA.getD own []).any (fun q => decide (q.1 = i))
  | .invokespecial i => if a = 1000 then (am_OI.getD own []).any (fun q => decide (q.1 = i)) else am_lkd y I i 2
  | .invokestatic i => if a = 1001 then (am_AC.getD own []).any (fun q => decide (q.1 = i)) else if a = 1008 then decide (b = 2) && decide ((am_mt y).1.cls = "TerminalHouseLaw") && decide (i = 37) else if 1000 ≤ a then (am_MA.getD own []).any (fun q => decide (q.1 = (i, a))) else am_lkd y I i 0
  | .invokevirtual i => if 1000 ≤ a then (am_CA.getD own []).any (fun q => decide (q.1 = i)) else am_lkd y I i 1
  | _ => true
theorem am_any {α β : Type} [DecidableEq α] {l : List (α × β)} {x : α} (h : l.any (fun q => decide (q.1 = x)) = true) : ∃ p : β, (x, p) ∈ l := by
  obtain ⟨q, hq, he⟩ := List.any_eq_true.mp h
  have e := of_decide_eq_true he
  subst e
  exact ⟨q.2, hq⟩
theorem am_code_w {a : Nat} (h : (am_mt a).1.cls ≠ "") (h2 : a ≠ 417) : Cond.code (am_mt a).1 (am_mt a).2.1 (am_mt a).2.2.1 (am_mt a).2.2.2 ∈ am_B := by
  unfold am_mt at h ⊢
  rw [if_neg h2] at h ⊢
  cases hl : am_ml[a / 16]? with
  | none =>
    rw [List.getD_eq_getElem?_getD, List.getD_eq_getElem?_getD, hl] at h
    exact absurd rfl h
  | some l =>
    rw [List.getD_eq_getElem?_getD, List.getD_eq_getElem?_getD, hl] at h ⊢
    cases hm : l[a % 16]? with
    | none =>
      rw [Option.getD_some, hm] at h
      exact absurd rfl h
    | some M =>
      rw [Option.getD_some, hm]
      exact am_cw l (List.mem_of_getElem? hl) M (List.mem_of_getElem? hm)
theorem am_mck_at {a : Nat} (h : a < 417) : am_mck (am_mt a) (am_mi a) = true := List.all_eq_true.mp am_M_ok a (List.mem_range.mpr (Nat.lt_succ_of_lt h))
section SEE
variable {N0 : Nat} {fl : Nat → Nat} {Fo : State → Heap → Prop}
def am_Fs (fl : Nat → Nat) (Fo : State → Heap → Prop) : Prop := (∀ (U : State) (H : Heap), Fo U H → ∀ (j : Nat) (q : String × Nat × String), am_ss[j]? = some q → vk_R q.1 q.2.1 q.2.2 (fl (j + 1)) U) ∧
  ∀ (U : State) (H : Heap), Fo U H → va_AO "TerminalHouse$Window" U ∧ va_AO "TerminalHouse$Entry" U ∧ (Cond.arrayOver (.array .int)).before #[] U = true
theorem am_fld_ok {y i a b : Nat} {ne : Bool} (hown : (am_mt y).1.cls = am_on (am_mi y).1) (h : (am_FT.getD (am_mi y).1 []).any (fun q => decide (q.1 = (i, a, b, ne))) = true) :
    ∃ (C : String) (T : u_T) (N : Nat), am_clb[a]? = some (C, T, N) ∧ b < N ∧ (if ne = true then Cond.fieldLinkNest (am_mt y).1.cls i C (T b).2.1 (T b).2.2.1 "TerminalHouse" ∈ am_N else Cond.fieldLink (am_mt y).1.cls i C (T b).2.1 (T b).2.2.1 ∈ am_B) := by
  obtain ⟨p, hp⟩ := am_any h
  have h1 := am_all_at am_FT_ok hp
  unfold am_fck at h1
  dsimp only at h1
  split at h1
  · rename_i C T N hc
    rw [Bool.and_eq_true] at h1
    refine ⟨C, T, N, hc, of_decide_eq_true h1.1, ?_⟩
    rw [hown]
    cases ne
    · exact am_atB_mem h1.2
    · exact am_atN_mem h1.2
  · cases h1
theorem am_lnk_ok {y i a : Nat} {ne : Bool} (hown : (am_mt y).1.cls = am_on (am_mi y).1) (h : (am_MT.getD (am_mi y).1 []).any (fun q => decide (q.1 = (i, a, ne))) = true) :
    if ne = true then Cond.methodLinkNest (am_mt y).1.cls i (am_mt a).1 "TerminalHouse" ∈ am_N else Cond.methodLink (am_mt y).1.cls i (am_mt a).1 ∈ am_B := by
  obtain ⟨p, hp⟩ := am_any h
  have h1 := am_all_at am_MT_ok hp
  unfold am_lck at h1
  dsimp only at h1
  rw [hown]
  cases ne
  · exact am_atB_mem h1
  · exact am_atN_mem h1
theorem am_ack_ok {y pc : Nat} {I : am_I} (hS : am_Fs fl Fo) (hown : (am_mt y).1.cls = am_on (am_mi y).1) (h : am_ack y pc I = true) : am_aux am_B am_N am_clb am_tl "TerminalHouse" Fo fl (am_mt y) pc I := by
  obtain ⟨i, v, a, b, ne, tb⟩ := I
  cases i
  case ldc j =>
    dsimp only [am_ack] at h
    dsimp only [am_aux]
    split at h
    · rename_i w
      obtain ⟨p, hp⟩ := am_any h
      refine Or.inl ⟨w, rfl, ?_⟩
      rw [hown]
      exact am_atB_mem (am_all_at am_KT_ok hp)
    · rename_i r
      split at h
      · rename_i q hq
        simp only [Bool.and_eq_true, decide_eq_true_eq] at h
        obtain ⟨⟨h1, h2⟩, h3⟩ := h
        refine Or.inr ⟨r, q.2.2, rfl, fun U H hF => ?_⟩
        have := hS.1 U H hF (r - 1) q hq
        rw [h2, h3, Nat.sub_add_cancel h1] at this
        exact this
      · cases h
    · cases h
  case ldc_w j =>
    dsimp only [am_ack] at h
    dsimp only [am_aux]
    split at h
    · rename_i w
      obtain ⟨p, hp⟩ := am_any h
      refine Or.inl ⟨w, rfl, ?_⟩
      rw [hown]
      exact am_atB_mem (am_all_at am_KT_ok hp)
    · rename_i r
      split at h
      · rename_i q hq
        simp only [Bool.and_eq_true, decide_eq_true_eq] at h
        obtain ⟨⟨h1, h2⟩, h3⟩ := h
        refine Or.inr ⟨r, q.2.2, rfl, fun U H hF => ?_⟩
        have := hS.1 U H hF (r - 1) q hq
        rw [h2, h3, Nat.sub_add_cancel h1] at this
        exact this
      · cases h
    · cases h
  case ldc2_w j =>
    dsimp only [am_ack] at h
    dsimp only [am_aux]
    split at h
    · rename_i w
      obtain ⟨p, hp⟩ := am_any h
      refine ⟨w, rfl, ?_⟩
      rw [hown]
      exact am_atB_mem (am_all_at am_JT_ok hp)
    · cases h
  case goto o => exact of_decide_eq_true (p := (pc : Int) + o = (a : Int)) h
  case ifCond c o => exact of_decide_eq_true (p := (pc : Int) + o = (a : Int)) h
  case if_icmp c o => exact of_decide_eq_true (p := (pc : Int) + o = (a : Int)) h
  case ifnull o => exact of_decide_eq_true (p := (pc : Int) + o = (a : Int)) h
  case ifnonnull o => exact of_decide_eq_true (p := (pc : Int) + o = (a : Int)) h
  case if_acmp c o => exact of_decide_eq_true (p := (pc : Int) + o = (a : Int)) h
  case tableswitch d lo hi offs =>
    dsimp only [am_ack] at h
    simp only [Bool.and_eq_true, decide_eq_true_eq] at h
    exact ⟨h.1.1, h.1.2, h.2⟩
  case lookupswitch d ps =>
    dsimp only [am_ack] at h
    rw [Bool.and_eq_true, Bool.and_eq_true] at h
    exact ⟨of_decide_eq_true h.1.1, h.1.2, h.2⟩
  case getfield j => exact am_fld_ok hown h
  case putfield j =>
    dsimp only [am_ack] at h
    rw [Bool.and_eq_true] at h
    obtain ⟨h1, h2⟩ := h
    obtain ⟨C, T, N, c1, c2, c3⟩ := am_fld_ok hown h1
    refine ⟨C, T, N, c1, c2, c3, ?_⟩
    rw [c1] at h2
    simp only [Bool.and_eq_true, Bool.or_eq_true, decide_eq_true_eq] at h2
    rcases h2 with h2 | ⟨⟨⟨g1, g2⟩, g3⟩, g4⟩
    · exact Or.inl h2
    · exact Or.inr ⟨g1, g2, g3, g4⟩
  case new j =>
    obtain ⟨p, hp⟩ := am_any h
    have h1 := am_all_at am_CT_ok hp
    unfold am_cck at h1
    dsimp only at h1
    split at h1
    · rename_i C T N hc
      refine ⟨C, T, N, hc, ?_⟩
      rw [hown]
      exact am_atB_mem h1
    · cases h1
  case anewarray j =>
    dsimp only [am_ack] at h
    rw [Bool.and_eq_true] at h
    obtain ⟨h0, h2⟩ := h
    obtain ⟨p, hp⟩ := am_any h0
    have h1 := am_all_at am_CT_ok hp
    unfold am_cck at h1
    dsimp only at h1
    simp only [Bool.or_eq_true, decide_eq_true_eq] at h2
    rcases h2 with h2 | h2
    · subst h2
      refine ⟨_, _, _, rfl, ?_, ?_, fun U H hF => (hS.2 U H hF).1⟩
      · rw [hown]
        exact am_atB_mem h1
      · decide +kernel
    · subst h2
      refine ⟨_, _, _, rfl, ?_, ?_, fun U H hF => (hS.2 U H hF).2.1⟩
      · rw [hown]
        exact am_atB_mem h1
      · decide +kernel
  case newarray t =>
    obtain ⟨w1, w2, w3, w4⟩ := am_AR_w
    cases t
    · exact ⟨w2, by decide +kernel⟩
    · cases h
    · cases h
    · cases h
    · exact ⟨w3, by decide +kernel⟩
    · cases h
    · exact ⟨w1, by decide +kernel⟩
    · exact ⟨w4, by decide +kernel⟩
  case multianewarray j r =>
    dsimp only [am_ack] at h
    rw [Bool.and_eq_true] at h
    obtain ⟨p, hp⟩ := am_any h.2
    refine ⟨of_decide_eq_true h.1, ?_, am_AR_w.1, by decide +kernel, by decide +kernel, fun U H hF => (hS.2 U H hF).2.2⟩
    rw [hown]
    exact am_atB_mem (am_all_at am_NA_ok hp)
  case invokespecial j =>
    dsimp only [am_ack] at h
    intro ha
    have ha : a = 1000 := ha
    rw [if_pos ha] at h
    obtain ⟨p, hp⟩ := am_any h
    refine ⟨?_, am_OI_w.1, am_OI_w.2⟩
    rw [hown]
    exact am_atB_mem (am_all_at am_OI_ok hp)
  case invokevirtual j =>
    dsimp only [am_ack] at h
    intro ha
    have ha : a = 1007 := ha
    rw [if_pos (by omega)] at h
    obtain ⟨p, hp⟩ := am_any h
    rw [hown]
    exact am_atB_mem (am_all_at am_CA_ok hp)
  case invokestatic j =>
    dsimp only [am_ack] at h
    dsimp only [am_aux]
    have hma : a ≠ 1001 → a ≠ 1008 → 1000 ≤ a → Cond.methodLink (am_mt y).1.cls j (am_mn a) ∈ am_B := fun n1 n3 n2 => by
      rw [if_neg n1, if_neg n3, if_pos n2] at h
      obtain ⟨p, hp⟩ := am_any h
      have h1 := am_all_at am_MA_ok hp
      rw [Bool.and_eq_true, Bool.and_eq_true] at h1
      rw [hown]
      exact am_atB_mem h1.1.1
    refine ⟨fun ha => ?_, fun ha => ?_, fun ha => ?_, fun ha => ?_, fun ha => ?_, fun ha => ?_, fun ha => ?_⟩
    · rw [if_pos ha] at h
      obtain ⟨p, hp⟩ := am_any h
      refine ⟨?_, am_AC_w⟩
      rw [hown]
      exact am_atB_mem (am_all_at am_AC_ok hp)
    · subst ha
      exact ⟨hma (by decide) (by decide) (by decide), am_MA_1002⟩
    · subst ha
      exact ⟨hma (by decide) (by decide) (by decide), am_MA_1003⟩
    · subst ha
      exact ⟨hma (by decide) (by decide) (by decide), am_MA_1004⟩
    · subst ha
      exact ⟨hma (by decide) (by decide) (by decide), am_MA_1005⟩
    · subst ha
      exact ⟨hma (by decide) (by decide) (by decide), am_MA_1006⟩
    · subst ha
      rw [if_neg (by decide), if_pos rfl] at h
      simp only [Bool.and_eq_true, decide_eq_true_eq] at h
      exact ⟨h.1.1, h.1.2, h.2⟩
  all_goals exact trivial
theorem am_lkd_ok {y : Nat} {I : am_I} {i kind : Nat} (hown : (am_mt y).1.cls = am_on (am_mi y).1) (hk : kind ≠ 9) (h : am_lkd y I i kind = true) :
    plainName (am_mt I.2.2.1).1.cls = true ∧ ((am_mt I.2.2.1).1.cls ≠ "java/lang/invoke/MethodHandle" ∧ (am_mt I.2.2.1).1.cls ≠ "java/lang/invoke/VarHandle" ∧ (parseMethodDescriptor (am_mt I.2.2.1).1.desc).map (fun d => d.parameters.length) = some I.2.2.2.1) ∧ Cond.code (am_mt I.2.2.1).1 (am_mt I.2.2.1).2.1 (am_mt I.2.2.1).2.2.1 (am_mt I.2.2.1).2.2.2 ∈ am_B ∧ Cond.initialized (am_mt I.2.2.1).1.cls ∈ am_B ∧
    (if kind = 0 then Cond.static (am_mt I.2.2.1).1 ∈ am_B else if kind = 1 then Cond.instanceMethod (am_mt I.2.2.1).1 ∈ am_B ∧ Cond.selects (am_mt I.2.2.1).1.cls (am_mt I.2.2.1).1 (am_mt I.2.2.1).1 ∈ am_B else (am_mt I.2.2.1).1.name = "<init>" ∧ (am_mt I.2.2.1).2.2.2 = none ∧ Cond.instanceMethod (am_mt I.2.2.1).1 ∈ am_B) ∧
    (if I.2.2.2.2.1 = true then Cond.methodLinkNest (am_mt y).1.cls i (am_mt I.2.2.1).1 "TerminalHouse" ∈ am_N else Cond.methodLink (am_mt y).1.cls i (am_mt I.2.2.1).1 ∈ am_B) := by
  unfold am_lkd at h
  rw [Bool.and_eq_true, Bool.and_eq_true, Bool.and_eq_true] at h
  obtain ⟨⟨⟨h1, h2⟩, h3⟩, h4⟩ := h
  have h2 := of_decide_eq_true h2
  have h3 := of_decide_eq_true h3
  have h1 := of_decide_eq_true h1
  have h5 := am_mck_at h1
  unfold am_mck at h5
  rw [h2, if_neg hk, h3] at h5
  rw [Bool.and_eq_true, Bool.and_eq_true, Bool.and_eq_true, Bool.and_eq_true, Bool.and_eq_true, Bool.and_eq_true] at h5
  obtain ⟨⟨⟨⟨⟨⟨p1, p2⟩, p3⟩, p4⟩, p5⟩, p6⟩, p7⟩ := h5
  refine ⟨p1, ⟨of_decide_eq_true p2, of_decide_eq_true p3, of_decide_eq_true p4⟩, am_code_w (of_decide_eq_true p5) (by omega), am_atB_mem p6, ?_, am_lnk_ok hown h4⟩
  by_cases k0 : kind = 0
  · rw [if_pos k0] at p7 ⊢
    exact am_atB_mem p7
  · rw [if_neg k0] at p7 ⊢
    by_cases k1 : kind = 1
    · rw [if_pos k1] at p7 ⊢
      rw [Bool.and_eq_true] at p7
      exact ⟨am_atB_mem p7.1, am_atB_mem p7.2⟩
    · rw [if_neg k1] at p7 ⊢
      rw [Bool.and_eq_true, Bool.and_eq_true] at p7
      exact ⟨of_decide_eq_true p7.1.1, of_decide_eq_true p7.1.2, am_atB_mem p7.2⟩
theorem am_cal_ok {y pc : Nat} {I : am_I} (hown : (am_mt y).1.cls = am_on (am_mi y).1) (h : am_ack y pc I = true) (k0 : am_kd I ≠ 0) (k1 : am_kd I ≠ 1) : am_cal am_B am_N "TerminalHouse" (am_mt y) (am_mt I.2.2.1) I := by
  obtain ⟨i, v, a, b, ne, tb⟩ := I
  cases i
  case invokestatic j =>
    dsimp only [am_ack] at h
    have ha : a < 1000 := by
      unfold am_kd at k0
      dsimp only at k0
      by_cases q : a < 1000
      · exact q
      · rw [if_neg q] at k0
        exact absurd rfl k0
    rw [if_neg (by omega), if_neg (by omega), if_neg (by omega)] at h
    obtain ⟨g1, g2, g3, g4, g5, g6⟩ := am_lkd_ok hown (by decide) h
    exact ⟨g1, g2, g3, g4, g5, g6⟩
  case invokevirtual j =>
    dsimp only [am_ack] at h
    have ha : a < 1000 := by
      unfold am_kd at k0
      dsimp only at k0
      by_cases q : a < 1000
      · exact q
      · rw [if_neg q] at k0
        exact absurd rfl k0
    rw [if_neg (by omega)] at h
    obtain ⟨g1, g2, g3, g4, g5, g6⟩ := am_lkd_ok hown (by decide) h
    exact ⟨g1, g2, g3, g4, g5.1, g5.2, g6⟩
  case invokespecial j =>
    dsimp only [am_ack] at h
    have ha : a < 1000 := by
      unfold am_kd at k0
      dsimp only at k0
      by_cases q : a < 1000
      · exact q
      · rw [if_neg q] at k0
        exact absurd rfl k0
    rw [if_neg (by omega)] at h
    obtain ⟨g1, g2, g3, g4, g5, g6⟩ := am_lkd_ok hown (by decide) h
    exact ⟨g1, g2, g3, g4, g5.1, g5.2.1, g5.2.2, g6⟩
  case return_ => exact absurd rfl k1
  case ireturn => exact absurd rfl k1
  case areturn => exact absurd rfl k1
  case lreturn => exact absurd rfl k1
  all_goals exact absurd rfl k0
end SEE
def am_qck (y : Nat) (I : am_I) : Bool := decide ((am_nd I).1 ≤ (am_dq y).1) && decide ((am_nd I).2 ≤ (am_dq y).2) && (decide (am_kd I < 2) || (decide ((am_dq I.2.2.1).1 + 1 ≤ (am_dq y).1) && decide ((am_dq I.2.2.1).2 + (19 + (am_mt I.2.2.1).2.2.1) ≤ (am_dq y).2)))
def am_ck1 (y : Nat) : Nat → List (Option am_I) → Bool
  | _, [] => true
  | pc, o :: t => (match o with
    | none => true
    | some I => am_dck (am_mt y).2.1 pc I.1 && am_ack y pc I && am_qck y I) && am_ck1 y (pc + 1) t
def am_ck2 (y : Nat) : Nat → List (List (Option am_I)) → Bool
  | _, [] => true
  | pc, c :: t => am_ck1 y pc c && am_ck2 y (pc + 16) t
theorem am_ck1_at {y : Nat} : ∀ {l : List (Option am_I)} {pc j : Nat} {I : am_I}, am_ck1 y pc l = true → l.getD j none = some I → (am_dck (am_mt y).2.1 (pc + j) I.1 = true ∧ am_ack y (pc + j) I = true) ∧ am_qck y I = true
  | [], _, _, _, _, hj => by cases hj
  | o :: t, pc, 0, I, h, hj => by
    have hj : o = some I := hj
    subst hj
    unfold am_ck1 at h
    rw [Bool.and_eq_true, Bool.and_eq_true, Bool.and_eq_true] at h
    exact h.1
  | o :: t, pc, j + 1, I, h, hj => by
    have hj : t.getD j none = some I := hj
    unfold am_ck1 at h
    rw [Bool.and_eq_true] at h
    have := am_ck1_at h.2 hj
    rw [show pc + 1 + j = pc + (j + 1) by omega] at this
    exact this
theorem am_ck2_at {y : Nat} : ∀ {l : List (List (Option am_I))} {pc i j : Nat} {I : am_I}, am_ck2 y pc l = true → (l.getD i []).getD j none = some I → (am_dck (am_mt y).2.1 (pc + 16 * i + j) I.1 = true ∧ am_ack y (pc + 16 * i + j) I = true) ∧ am_qck y I = true
  | [], _, _, _, _, _, hj => by cases hj
  | c :: t, pc, 0, j, I, h, hj => by
    have hj : c.getD j none = some I := hj
    unfold am_ck2 at h
    rw [Bool.and_eq_true] at h
    exact am_ck1_at h.1 hj
  | c :: t, pc, i + 1, j, I, h, hj => by
    have hj : (t.getD i []).getD j none = some I := hj
    unfold am_ck2 at h
    rw [Bool.and_eq_true] at h
    have := am_ck2_at h.2 hj
    rw [show pc + 16 + 16 * i + j = pc + 16 * (i + 1) + j by omega] at this
    exact this
