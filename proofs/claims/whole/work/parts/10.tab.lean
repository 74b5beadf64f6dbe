/-! The tables of the program, laid by a program of mine (wip/tools/mkt.py). -/
def am_tb : List (List Cond) := [k2_sels lw_privs, tables_1_1, tables_1_2, tables_1_3, tables_1_4, tables_1_5, tables_1_6, tables_1_7, tables_1_8, tables_1_9, tables_1_10, tables_1_11, tables_1_12]
theorem am_tb_eq : lw_tbl = am_tb.flatten := by
  unfold lw_tbl am_tb tables_1
  simp only [List.flatten_cons, List.flatten_nil, List.append_nil]
def am_at (p : Nat × Nat) (w : Cond) : Bool := match am_tb[p.1]? with
  | some l => match l[p.2]? with
    | some v => decide (v = w)
    | none => false
  | none => false
theorem am_at_mem {p : Nat × Nat} {w : Cond} (h : am_at p w = true) : w ∈ lw_tbl := by
  unfold am_at at h
  split at h
  · rename_i l hl
    split at h
    · rename_i v hv
      have e := of_decide_eq_true h
      subst e
      rw [am_tb_eq]
      exact List.mem_flatten.mpr ⟨l, List.mem_of_getElem? hl, List.mem_of_getElem? hv⟩
    · cases h
  · cases h
def am_isn : Cond → Bool
  | .fieldLinkNest _ _ _ _ _ _ => true
  | .methodLinkNest _ _ _ _ => true
  | _ => false
def am_B : List Cond := lw_tbl.filter goodWord
def am_N : List Cond := lw_tbl.filter am_isn
def am_atB (p : Nat × Nat) (w : Cond) : Bool := am_at p w && goodWord w
def am_atN (p : Nat × Nat) (w : Cond) : Bool := am_at p w && am_isn w
theorem am_atB_mem {p : Nat × Nat} {w : Cond} (h : am_atB p w = true) : w ∈ am_B := by
  unfold am_atB at h
  rw [Bool.and_eq_true] at h
  exact List.mem_filter.mpr ⟨am_at_mem h.1, h.2⟩
theorem am_atN_mem {p : Nat × Nat} {w : Cond} (h : am_atN p w = true) : w ∈ am_N := by
  unfold am_atN at h
  rw [Bool.and_eq_true] at h
  exact List.mem_filter.mpr ⟨am_at_mem h.1, h.2⟩
theorem am_B_good : am_Bg am_B := fun w hw => good_of_word (List.mem_filter.mp hw).2
theorem am_N_good : am_Bn am_N := by
  intro w hw
  have h := (List.mem_filter.mp hw).2
  unfold am_isn at h
  split at h
  · exact ⟨rfl, fun s U hW hZ => hZ.warmF hW⟩
  · exact ⟨rfl, fun s U hW hZ => hZ.warmM hW⟩
  · cases h
def am_own : List String := ["TerminalHouse$Bytes", "TerminalHouse$Discipline", "TerminalHouse$Entry", "TerminalHouse$Glass", "TerminalHouse$Keyboard", "TerminalHouse$Machine", "TerminalHouse$Painter", "TerminalHouse$Reader", "TerminalHouse$Terminal", "TerminalHouse$Window", "TerminalHouse$Wire", "TerminalHouse", "TerminalHouseModel", "TerminalHouseLaw", "java/util/Arrays"]
def am_on (i : Nat) : String := am_own.getD i ""
def am_fdl (l : List (String × String × Bool)) (C : String) : u_T := fun k => (C, l.getD k ("", "", false))
def am_f0 : List (String × String × Bool) := [("ring", "[I", true), ("first", "I", false), ("length", "I", false)]
def am_p0 : List (Nat × Nat) := [(2, 43), (2, 45), (2, 47)]
def am_f1 : List (String × String × Bool) := [("queue", "LTerminalHouse$Bytes;", true), ("edited", "LTerminalHouse$Bytes;", true), ("ready", "LTerminalHouse$Bytes;", true), ("flags", "I", false), ("isStopped", "Z", false), ("isLiteral", "Z", false), ("signals", "I", false), ("column", "I", false), ("lineStart", "I", false), ("lost", "I", false)]
def am_p1 : List (Nat × Nat) := [(2, 62), (2, 64), (2, 66), (2, 68), (2, 70), (2, 72), (2, 74), (2, 76), (2, 78), (2, 80)]
def am_f2 : List (String × String × Bool) := [("names", "[I", true), ("nameLengths", "[I", true), ("nameCount", "I", false), ("isThere", "[Z", true), ("numbers", "[I", true), ("texts", "[I", true), ("textLengths", "[I", true)]
def am_p2 : List (Nat × Nat) := [(1, 55), (1, 57), (1, 59), (1, 61), (1, 63), (1, 65), (1, 67)]
def am_f3 : List (String × String × Bool) := [("height", "I", true), ("breadth", "I", true), ("grid", "[I", true), ("widths", "[I", true), ("stops", "[Z", true), ("row", "I", false), ("column", "I", false), ("isPending", "Z", false), ("top", "I", false), ("bottom", "I", false), ("modes", "I", false), ("attributes", "I", false), ("sets", "I", false), ("setInUse", "I", false), ("lamps", "I", false), ("bells", "I", false), ("busy", "I", false), ("saved", "[I", true)]
def am_p3 : List (Nat × Nat) := [(2, 203), (2, 205), (2, 207), (2, 209), (2, 211), (2, 213), (2, 215), (2, 217), (2, 219), (2, 221), (2, 223), (2, 225), (2, 227), (2, 229), (2, 231), (2, 233), (2, 235), (2, 237)]
def am_f4 : List (String × String × Bool) := [("isDown", "[Z", true), ("isSeen", "[Z", true), ("inPlay", "I", false), ("repeating", "I", false), ("repeatTime", "I", false), ("bytes", "[I", true)]
def am_p4 : List (Nat × Nat) := [(2, 96), (2, 98), (2, 100), (2, 102), (2, 104), (2, 106)]
def am_f5 : List (String × String × Bool) := [("stack", "[I", true), ("height", "I", false), ("parameters", "[I", true), ("made", "[I", true), ("madeLength", "I", false)]
def am_p5 : List (Nat × Nat) := [(1, 131), (1, 133), (1, 135), (1, 137), (1, 139)]
def am_f6 : List (String × String × Bool) := [("wanted", "LTerminalHouse$Window;", true), ("known", "LTerminalHouse$Window;", true), ("before", "LTerminalHouse$Window;", true), ("aim", "[I", true), ("bytes", "[I", true), ("byteCount", "I", false), ("type", "LTerminalHouse$Entry;", false), ("machine", "LTerminalHouse$Machine;", false), ("lines", "I", false), ("columns", "I", false), ("offered", "I", false), ("tabStep", "I", false), ("isBellWanted", "Z", false), ("isStrange", "Z", false), ("isPlaced", "Z", false), ("plainLengths", "[I", true), ("lengths", "[[I", true), ("steps", "[I", true), ("stepCount", "I", false)]
def am_p6 : List (Nat × Nat) := [(1, 224), (1, 226), (1, 228), (1, 230), (1, 232), (1, 234), (1, 236), (1, 238), (2, 0), (2, 2), (2, 4), (2, 6), (2, 8), (2, 10), (2, 12), (2, 14), (2, 16), (2, 18), (2, 20)]
def am_f7 : List (String × String × Bool) := [("entries", "[LTerminalHouse$Entry;", true), ("landed", "I", false), ("faultNumber", "I", false), ("faultPlace", "I", false), ("text", "[I", false), ("length", "I", false), ("place", "I", false), ("through", "I", false), ("entry", "LTerminalHouse$Entry;", false), ("isTold", "[Z", true), ("used", "[I", true), ("useCount", "I", false), ("made", "[I", true), ("madeLength", "I", false)]
def am_p7 : List (Nat × Nat) := [(1, 89), (1, 91), (1, 93), (1, 95), (1, 97), (1, 99), (1, 101), (1, 103), (1, 105), (1, 107), (1, 109), (1, 111), (1, 113), (1, 115)]
def am_f8 : List (String × String × Bool) := [("glass", "LTerminalHouse$Glass;", true), ("silo", "LTerminalHouse$Bytes;", true), ("answers", "LTerminalHouse$Bytes;", true), ("answer", "[I", true), ("isFull", "Z", false), ("isHeld", "Z", false), ("isHushed", "Z", false), ("hasToldCause", "Z", false), ("lost", "I", false), ("reading", "I", false), ("kept", "I", false), ("numbers", "[I", true), ("numberCount", "I", false), ("isPrivate", "Z", false), ("isAtStart", "Z", false)]
def am_p8 : List (Nat × Nat) := [(3, 19), (3, 21), (3, 23), (3, 25), (3, 27), (3, 29), (3, 31), (3, 33), (3, 35), (3, 37), (3, 39), (3, 41), (3, 43), (3, 45), (3, 47)]
def am_f9 : List (String × String × Bool) := [("grid", "[I", true), ("isOpen", "Z", false), ("top", "I", false), ("left", "I", false), ("height", "I", false), ("breadth", "I", false), ("row", "I", false), ("column", "I", false), ("attributes", "I", false), ("isScrolling", "Z", false)]
def am_p9 : List (Nat × Nat) := [(1, 176), (1, 178), (1, 180), (1, 182), (1, 184), (1, 186), (1, 188), (1, 190), (1, 192), (1, 194)]
def am_f10 : List (String × String × Bool) := [("carried", "I", false), ("arrival", "I", false), ("isSpoiled", "Z", false), ("sent", "I", false)]
def am_p10 : List (Nat × Nat) := [(2, 120), (2, 122), (2, 124), (2, 126)]
def am_f11 : List (String × String × Bool) := [("tape", "[I", true), ("taped", "I", false), ("out", "[I", true), ("written", "I", false), ("reader", "LTerminalHouse$Reader;", true), ("machine", "LTerminalHouse$Machine;", true), ("painter", "LTerminalHouse$Painter;", true), ("windows", "[LTerminalHouse$Window;", true), ("discipline", "LTerminalHouse$Discipline;", true), ("terminal", "LTerminalHouse$Terminal;", true), ("keyboard", "LTerminalHouse$Keyboard;", true), ("toTerminal", "LTerminalHouse$Wire;", true), ("toProgram", "LTerminalHouse$Wire;", true), ("speed", "I", true), ("type", "LTerminalHouse$Entry;", false), ("time", "I", false)]
def am_p11 : List (Nat × Nat) := [(3, 67), (3, 69), (3, 71), (3, 73), (3, 75), (3, 77), (3, 79), (3, 81), (3, 83), (3, 85), (3, 87), (3, 89), (3, 91), (3, 93), (3, 95), (3, 97)]
def am_f12 : List (String × String × Bool) := [("thrown", "I", false), ("tape", "[B", true), ("taped", "I", false), ("out", "[B", true), ("outs", "I", false), ("entries", "I", false), ("nameMany", "[I", true), ("names", "[B", true), ("nameSize", "[I", true), ("told", "[B", true), ("number", "[I", true), ("string", "[B", true), ("size", "[I", true), ("fault", "I", false), ("place", "I", false), ("p", "I", false), ("n", "I", false), ("at", "I", false), ("uses", "[I", true), ("using", "I", false), ("escaped", "I", false), ("type", "I", false), ("put", "[B", true), ("puts", "I", false), ("stack", "[I", true), ("top", "I", false), ("cols", "I", false), ("rowsOf", "I", false), ("wanted", "[I", true), ("known", "[I", true), ("wantedRow", "I", false), ("wantedColumn", "I", false), ("row", "I", false), ("column", "I", false), ("on", "I", false), ("strange", "Z", false), ("bell", "Z", false), ("open", "[Z", true), ("top_", "[I", true), ("left", "[I", true), ("high", "[I", true), ("wide", "[I", true), ("atRow", "[I", true), ("atColumn", "[I", true), ("dressed", "[I", true), ("scrolls", "[Z", true), ("cell", "[I", true), ("typed", "[B", true), ("then", "[I", true), ("types", "I", false), ("offered", "I", false), ("thenRow", "I", false), ("thenColumn", "I", false), ("thenOn", "I", false), ("queueRow", "[B", true), ("queueFrom", "I", false), ("queued", "I", false), ("unqueued", "I", false), ("flags", "I", false), ("columnNow", "I", false), ("began", "I", false), ("signals", "I", false), ("stoppedNow", "I", false), ("literal", "Z", false), ("line", "[B", true), ("edited", "I", false), ("ready", "[I", true), ("readies", "I", false), ("height", "I", true), ("width", "I", true), ("speed", "I", true), ("time", "I", false), ("sentDown", "I", false), ("sentUp", "I", false), ("downByte", "I", false), ("upByte", "I", false), ("downAt", "I", false), ("upAt", "I", false), ("silo", "[I", true), ("siloed", "I", false), ("overrun", "I", false), ("busy", "I", false), ("toldLast", "I", false), ("full", "Z", false), ("held", "Z", false), ("hushed", "Z", false), ("answers", "[B", true), ("answered", "I", false), ("reply", "[I", true), ("replied", "I", false), ("screen", "[I", true), ("wideness", "[I", true), ("stops", "[Z", true), ("y", "I", false), ("x", "I", false), ("high_", "I", false), ("low", "I", false), ("dressNow", "I", false), ("modes", "I", false), ("lamps", "I", false), ("bells", "I", false), ("state", "I", false), ("kept", "I", false), ("inUse", "I", false), ("savedY", "I", false), ("savedX", "I", false), ("savedDress", "I", false), ("savedUse", "I", false), ("pending", "Z", false), ("signs0", "Z", false), ("signs1", "Z", false), ("savedSigns0", "Z", false), ("savedSigns1", "Z", false), ("savedOrigin", "Z", false), ("numbers", "[I", true), ("many", "I", false), ("private_", "Z", false), ("begun", "Z", false), ("down", "[Z", true), ("seen", "[Z", true), ("repeats", "I", false), ("again", "I", false)]
def am_p12 : List (Nat × Nat) := [(10, 98), (10, 100), (10, 102), (10, 104), (10, 106), (10, 108), (10, 110), (10, 112), (10, 114), (10, 116), (10, 118), (10, 120), (10, 122), (10, 124), (10, 126), (10, 128), (10, 130), (10, 132), (10, 134), (10, 136), (10, 138), (10, 140), (10, 142), (10, 144), (10, 146), (10, 148), (10, 150), (10, 152), (10, 154), (10, 156), (10, 158), (10, 160), (10, 162), (10, 164), (10, 166), (10, 168), (10, 170), (10, 172), (10, 174), (10, 176), (10, 178), (10, 180), (10, 182), (10, 184), (10, 186), (10, 188), (10, 190), (10, 192), (10, 194), (10, 196), (10, 198), (10, 200), (10, 202), (10, 204), (10, 206), (10, 208), (10, 210), (10, 212), (10, 214), (10, 216), (10, 218), (10, 220), (10, 222), (10, 224), (10, 226), (10, 228), (10, 230), (10, 232), (10, 234), (10, 236), (10, 238), (11, 0), (11, 2), (11, 4), (11, 6), (11, 8), (11, 10), (11, 12), (11, 14), (11, 16), (11, 18), (11, 20), (11, 22), (11, 24), (11, 26), (11, 28), (11, 30), (11, 32), (11, 34), (11, 36), (11, 38), (11, 40), (11, 42), (11, 44), (11, 46), (11, 48), (11, 50), (11, 52), (11, 54), (11, 56), (11, 58), (11, 60), (11, 62), (11, 64), (11, 66), (11, 68), (11, 70), (11, 72), (11, 74), (11, 76), (11, 78), (11, 80), (11, 82), (11, 84), (11, 86), (11, 88), (11, 90), (11, 92), (11, 94), (11, 96), (11, 98), (11, 100)]
def am_clb : List vw_C := [("TerminalHouse$Bytes", am_fdl am_f0 "TerminalHouse$Bytes", 3), ("TerminalHouse$Discipline", am_fdl am_f1 "TerminalHouse$Discipline", 10), ("TerminalHouse$Entry", am_fdl am_f2 "TerminalHouse$Entry", 7), ("TerminalHouse$Glass", am_fdl am_f3 "TerminalHouse$Glass", 18), ("TerminalHouse$Keyboard", am_fdl am_f4 "TerminalHouse$Keyboard", 6), ("TerminalHouse$Machine", am_fdl am_f5 "TerminalHouse$Machine", 5), ("TerminalHouse$Painter", am_fdl am_f6 "TerminalHouse$Painter", 19), ("TerminalHouse$Reader", am_fdl am_f7 "TerminalHouse$Reader", 14), ("TerminalHouse$Terminal", am_fdl am_f8 "TerminalHouse$Terminal", 15), ("TerminalHouse$Window", am_fdl am_f9 "TerminalHouse$Window", 10), ("TerminalHouse$Wire", am_fdl am_f10 "TerminalHouse$Wire", 4), ("TerminalHouse", am_fdl am_f11 "TerminalHouse", 16), ("TerminalHouseModel", am_fdl am_f12 "TerminalHouseModel", 122)]
def am_ctb : List am_K := [("TerminalHouse$Bytes", [(.array .int), .int, .int]),
  ("TerminalHouse$Discipline", [(.object "TerminalHouse$Bytes"), (.object "TerminalHouse$Bytes"), (.object "TerminalHouse$Bytes"), .int, .boolean, .boolean, .int, .int, .int, .int]),
  ("TerminalHouse$Entry", [(.array .int), (.array .int), .int, (.array .boolean), (.array .int), (.array .int), (.array .int)]),
  ("TerminalHouse$Glass", [.int, .int, (.array .int), (.array .int), (.array .boolean), .int, .int, .boolean, .int, .int, .int, .int, .int, .int, .int, .int, .int, (.array .int)]),
  ("TerminalHouse$Keyboard", [(.array .boolean), (.array .boolean), .int, .int, .int, (.array .int)]),
  ("TerminalHouse$Machine", [(.array .int), .int, (.array .int), (.array .int), .int]),
  ("TerminalHouse$Painter", [(.object "TerminalHouse$Window"), (.object "TerminalHouse$Window"), (.object "TerminalHouse$Window"), (.array .int), (.array .int), .int, (.object "TerminalHouse$Entry"), (.object "TerminalHouse$Machine"), .int, .int, .int, .int, .boolean, .boolean, .boolean, (.array .int), (.array (.array .int)), (.array .int), .int]),
  ("TerminalHouse$Reader", [(.array (.object "TerminalHouse$Entry")), .int, .int, .int, (.array .int), .int, .int, .int, (.object "TerminalHouse$Entry"), (.array .boolean), (.array .int), .int, (.array .int), .int]),
  ("TerminalHouse$Terminal", [(.object "TerminalHouse$Glass"), (.object "TerminalHouse$Bytes"), (.object "TerminalHouse$Bytes"), (.array .int), .boolean, .boolean, .boolean, .boolean, .int, .int, .int, (.array .int), .int, .boolean, .boolean]),
  ("TerminalHouse$Window", [(.array .int), .boolean, .int, .int, .int, .int, .int, .int, .int, .boolean]),
  ("TerminalHouse$Wire", [.int, .int, .boolean, .int]),
  ("TerminalHouse", [(.array .int), .int, (.array .int), .int, (.object "TerminalHouse$Reader"), (.object "TerminalHouse$Machine"), (.object "TerminalHouse$Painter"), (.array (.object "TerminalHouse$Window")), (.object "TerminalHouse$Discipline"), (.object "TerminalHouse$Terminal"), (.object "TerminalHouse$Keyboard"), (.object "TerminalHouse$Wire"), (.object "TerminalHouse$Wire"), .int, (.object "TerminalHouse$Entry"), .int]),
  ("TerminalHouseModel", [.int, (.array .byte), .int, (.array .byte), .int, .int, (.array .int), (.array .byte), (.array .int), (.array .byte), (.array .int), (.array .byte), (.array .int), .int, .int, .int, .int, .int, (.array .int), .int, .int, .int, (.array .byte), .int, (.array .int), .int, .int, .int, (.array .int), (.array .int), .int, .int, .int, .int, .int, .boolean, .boolean, (.array .boolean), (.array .int), (.array .int), (.array .int), (.array .int), (.array .int), (.array .int), (.array .int), (.array .boolean), (.array .int), (.array .byte), (.array .int), .int, .int, .int, .int, .int, (.array .byte), .int, .int, .int, .int, .int, .int, .int, .int, .boolean, (.array .byte), .int, (.array .int), .int, .int, .int, .int, .int, .int, .int, .int, .int, .int, .int, (.array .int), .int, .int, .int, .int, .boolean, .boolean, .boolean, (.array .byte), .int, (.array .int), .int, (.array .int), (.array .int), (.array .boolean), .int, .int, .int, .int, .int, .int, .int, .int, .int, .int, .int, .int, .int, .int, .int, .boolean, .boolean, .boolean, .boolean, .boolean, .boolean, (.array .int), .int, .boolean, .boolean, (.array .boolean), (.array .boolean), .int, .int])]
theorem am_cls_0 : ∃ fs : List FieldType, am_ctb[0]? = some ("TerminalHouse$Bytes", fs) ∧ fs.length = 3 ∧ (∀ k, k < 3 → parseFieldDescriptor ((am_fdl am_f0 "TerminalHouse$Bytes") k).2.2.1 = fs[k]?) ∧ (∀ k, k < 3 → ((am_fdl am_f0 "TerminalHouse$Bytes") k).1 = "TerminalHouse$Bytes") ∧
    (∀ a, a < 3 → ∀ b, b < 3 → a ≠ b → ((am_fdl am_f0 "TerminalHouse$Bytes") a).2.1 ≠ ((am_fdl am_f0 "TerminalHouse$Bytes") b).2.1) ∧ (∀ w ∈ u_ws "TerminalHouse$Bytes" (am_fdl am_f0 "TerminalHouse$Bytes") 3, w ∈ am_B) ∧ Cond.instantiable "TerminalHouse$Bytes" 3 ∈ am_B ∧ Cond.initialized "TerminalHouse$Bytes" ∈ am_B := by
  refine ⟨_, rfl, rfl, by decide +kernel, fun _ _ => rfl, by decide +kernel, ?_, am_atB_mem (p := (2, 32)) (by decide +kernel), am_atB_mem (p := (1, 8)) (by decide +kernel)⟩
  have h : ∀ k, k < 3 → am_atB (am_p0.getD k (0, 0)) (u_lay "TerminalHouse$Bytes" (am_fdl am_f0 "TerminalHouse$Bytes") k) = true := by decide +kernel
  intro w hw
  obtain ⟨k, hk, rfl⟩ := List.mem_map.mp hw
  exact am_atB_mem (h k (List.mem_range.mp hk))
theorem am_cls_1 : ∃ fs : List FieldType, am_ctb[1]? = some ("TerminalHouse$Discipline", fs) ∧ fs.length = 10 ∧ (∀ k, k < 10 → parseFieldDescriptor ((am_fdl am_f1 "TerminalHouse$Discipline") k).2.2.1 = fs[k]?) ∧ (∀ k, k < 10 → ((am_fdl am_f1 "TerminalHouse$Discipline") k).1 = "TerminalHouse$Discipline") ∧
    (∀ a, a < 10 → ∀ b, b < 10 → a ≠ b → ((am_fdl am_f1 "TerminalHouse$Discipline") a).2.1 ≠ ((am_fdl am_f1 "TerminalHouse$Discipline") b).2.1) ∧ (∀ w ∈ u_ws "TerminalHouse$Discipline" (am_fdl am_f1 "TerminalHouse$Discipline") 10, w ∈ am_B) ∧ Cond.instantiable "TerminalHouse$Discipline" 10 ∈ am_B ∧ Cond.initialized "TerminalHouse$Discipline" ∈ am_B := by
  refine ⟨_, rfl, rfl, by decide +kernel, fun _ _ => rfl, by decide +kernel, ?_, am_atB_mem (p := (2, 26)) (by decide +kernel), am_atB_mem (p := (1, 7)) (by decide +kernel)⟩
  have h : ∀ k, k < 10 → am_atB (am_p1.getD k (0, 0)) (u_lay "TerminalHouse$Discipline" (am_fdl am_f1 "TerminalHouse$Discipline") k) = true := by decide +kernel
  intro w hw
  obtain ⟨k, hk, rfl⟩ := List.mem_map.mp hw
  exact am_atB_mem (h k (List.mem_range.mp hk))
theorem am_cls_2 : ∃ fs : List FieldType, am_ctb[2]? = some ("TerminalHouse$Entry", fs) ∧ fs.length = 7 ∧ (∀ k, k < 7 → parseFieldDescriptor ((am_fdl am_f2 "TerminalHouse$Entry") k).2.2.1 = fs[k]?) ∧ (∀ k, k < 7 → ((am_fdl am_f2 "TerminalHouse$Entry") k).1 = "TerminalHouse$Entry") ∧
    (∀ a, a < 7 → ∀ b, b < 7 → a ≠ b → ((am_fdl am_f2 "TerminalHouse$Entry") a).2.1 ≠ ((am_fdl am_f2 "TerminalHouse$Entry") b).2.1) ∧ (∀ w ∈ u_ws "TerminalHouse$Entry" (am_fdl am_f2 "TerminalHouse$Entry") 7, w ∈ am_B) ∧ Cond.instantiable "TerminalHouse$Entry" 7 ∈ am_B ∧ Cond.initialized "TerminalHouse$Entry" ∈ am_B := by
  refine ⟨_, rfl, rfl, by decide +kernel, fun _ _ => rfl, by decide +kernel, ?_, am_atB_mem (p := (1, 41)) (by decide +kernel), am_atB_mem (p := (1, 3)) (by decide +kernel)⟩
  have h : ∀ k, k < 7 → am_atB (am_p2.getD k (0, 0)) (u_lay "TerminalHouse$Entry" (am_fdl am_f2 "TerminalHouse$Entry") k) = true := by decide +kernel
  intro w hw
  obtain ⟨k, hk, rfl⟩ := List.mem_map.mp hw
  exact am_atB_mem (h k (List.mem_range.mp hk))
theorem am_cls_3 : ∃ fs : List FieldType, am_ctb[3]? = some ("TerminalHouse$Glass", fs) ∧ fs.length = 18 ∧ (∀ k, k < 18 → parseFieldDescriptor ((am_fdl am_f3 "TerminalHouse$Glass") k).2.2.1 = fs[k]?) ∧ (∀ k, k < 18 → ((am_fdl am_f3 "TerminalHouse$Glass") k).1 = "TerminalHouse$Glass") ∧
    (∀ a, a < 18 → ∀ b, b < 18 → a ≠ b → ((am_fdl am_f3 "TerminalHouse$Glass") a).2.1 ≠ ((am_fdl am_f3 "TerminalHouse$Glass") b).2.1) ∧ (∀ w ∈ u_ws "TerminalHouse$Glass" (am_fdl am_f3 "TerminalHouse$Glass") 18, w ∈ am_B) ∧ Cond.instantiable "TerminalHouse$Glass" 18 ∈ am_B ∧ Cond.initialized "TerminalHouse$Glass" ∈ am_B := by
  refine ⟨_, rfl, rfl, by decide +kernel, fun _ _ => rfl, by decide +kernel, ?_, am_atB_mem (p := (2, 141)) (by decide +kernel), am_atB_mem (p := (1, 13)) (by decide +kernel)⟩
  have h : ∀ k, k < 18 → am_atB (am_p3.getD k (0, 0)) (u_lay "TerminalHouse$Glass" (am_fdl am_f3 "TerminalHouse$Glass") k) = true := by decide +kernel
  intro w hw
  obtain ⟨k, hk, rfl⟩ := List.mem_map.mp hw
  exact am_atB_mem (h k (List.mem_range.mp hk))
theorem am_cls_4 : ∃ fs : List FieldType, am_ctb[4]? = some ("TerminalHouse$Keyboard", fs) ∧ fs.length = 6 ∧ (∀ k, k < 6 → parseFieldDescriptor ((am_fdl am_f4 "TerminalHouse$Keyboard") k).2.2.1 = fs[k]?) ∧ (∀ k, k < 6 → ((am_fdl am_f4 "TerminalHouse$Keyboard") k).1 = "TerminalHouse$Keyboard") ∧
    (∀ a, a < 6 → ∀ b, b < 6 → a ≠ b → ((am_fdl am_f4 "TerminalHouse$Keyboard") a).2.1 ≠ ((am_fdl am_f4 "TerminalHouse$Keyboard") b).2.1) ∧ (∀ w ∈ u_ws "TerminalHouse$Keyboard" (am_fdl am_f4 "TerminalHouse$Keyboard") 6, w ∈ am_B) ∧ Cond.instantiable "TerminalHouse$Keyboard" 6 ∈ am_B ∧ Cond.initialized "TerminalHouse$Keyboard" ∈ am_B := by
  refine ⟨_, rfl, rfl, by decide +kernel, fun _ _ => rfl, by decide +kernel, ?_, am_atB_mem (p := (2, 84)) (by decide +kernel), am_atB_mem (p := (1, 10)) (by decide +kernel)⟩
  have h : ∀ k, k < 6 → am_atB (am_p4.getD k (0, 0)) (u_lay "TerminalHouse$Keyboard" (am_fdl am_f4 "TerminalHouse$Keyboard") k) = true := by decide +kernel
  intro w hw
  obtain ⟨k, hk, rfl⟩ := List.mem_map.mp hw
  exact am_atB_mem (h k (List.mem_range.mp hk))
theorem am_cls_5 : ∃ fs : List FieldType, am_ctb[5]? = some ("TerminalHouse$Machine", fs) ∧ fs.length = 5 ∧ (∀ k, k < 5 → parseFieldDescriptor ((am_fdl am_f5 "TerminalHouse$Machine") k).2.2.1 = fs[k]?) ∧ (∀ k, k < 5 → ((am_fdl am_f5 "TerminalHouse$Machine") k).1 = "TerminalHouse$Machine") ∧
    (∀ a, a < 5 → ∀ b, b < 5 → a ≠ b → ((am_fdl am_f5 "TerminalHouse$Machine") a).2.1 ≠ ((am_fdl am_f5 "TerminalHouse$Machine") b).2.1) ∧ (∀ w ∈ u_ws "TerminalHouse$Machine" (am_fdl am_f5 "TerminalHouse$Machine") 5, w ∈ am_B) ∧ Cond.instantiable "TerminalHouse$Machine" 5 ∈ am_B ∧ Cond.initialized "TerminalHouse$Machine" ∈ am_B := by
  refine ⟨_, rfl, rfl, by decide +kernel, fun _ _ => rfl, by decide +kernel, ?_, am_atB_mem (p := (1, 119)) (by decide +kernel), am_atB_mem (p := (1, 4)) (by decide +kernel)⟩
  have h : ∀ k, k < 5 → am_atB (am_p5.getD k (0, 0)) (u_lay "TerminalHouse$Machine" (am_fdl am_f5 "TerminalHouse$Machine") k) = true := by decide +kernel
  intro w hw
  obtain ⟨k, hk, rfl⟩ := List.mem_map.mp hw
  exact am_atB_mem (h k (List.mem_range.mp hk))
theorem am_cls_6 : ∃ fs : List FieldType, am_ctb[6]? = some ("TerminalHouse$Painter", fs) ∧ fs.length = 19 ∧ (∀ k, k < 19 → parseFieldDescriptor ((am_fdl am_f6 "TerminalHouse$Painter") k).2.2.1 = fs[k]?) ∧ (∀ k, k < 19 → ((am_fdl am_f6 "TerminalHouse$Painter") k).1 = "TerminalHouse$Painter") ∧
    (∀ a, a < 19 → ∀ b, b < 19 → a ≠ b → ((am_fdl am_f6 "TerminalHouse$Painter") a).2.1 ≠ ((am_fdl am_f6 "TerminalHouse$Painter") b).2.1) ∧ (∀ w ∈ u_ws "TerminalHouse$Painter" (am_fdl am_f6 "TerminalHouse$Painter") 19, w ∈ am_B) ∧ Cond.instantiable "TerminalHouse$Painter" 19 ∈ am_B ∧ Cond.initialized "TerminalHouse$Painter" ∈ am_B := by
  refine ⟨_, rfl, rfl, by decide +kernel, fun _ _ => rfl, by decide +kernel, ?_, am_atB_mem (p := (1, 143)) (by decide +kernel), am_atB_mem (p := (1, 5)) (by decide +kernel)⟩
  have h : ∀ k, k < 19 → am_atB (am_p6.getD k (0, 0)) (u_lay "TerminalHouse$Painter" (am_fdl am_f6 "TerminalHouse$Painter") k) = true := by decide +kernel
  intro w hw
  obtain ⟨k, hk, rfl⟩ := List.mem_map.mp hw
  exact am_atB_mem (h k (List.mem_range.mp hk))
theorem am_cls_7 : ∃ fs : List FieldType, am_ctb[7]? = some ("TerminalHouse$Reader", fs) ∧ fs.length = 14 ∧ (∀ k, k < 14 → parseFieldDescriptor ((am_fdl am_f7 "TerminalHouse$Reader") k).2.2.1 = fs[k]?) ∧ (∀ k, k < 14 → ((am_fdl am_f7 "TerminalHouse$Reader") k).1 = "TerminalHouse$Reader") ∧
    (∀ a, a < 14 → ∀ b, b < 14 → a ≠ b → ((am_fdl am_f7 "TerminalHouse$Reader") a).2.1 ≠ ((am_fdl am_f7 "TerminalHouse$Reader") b).2.1) ∧ (∀ w ∈ u_ws "TerminalHouse$Reader" (am_fdl am_f7 "TerminalHouse$Reader") 14, w ∈ am_B) ∧ Cond.instantiable "TerminalHouse$Reader" 14 ∈ am_B ∧ Cond.initialized "TerminalHouse$Reader" ∈ am_B := by
  refine ⟨_, rfl, rfl, by decide +kernel, fun _ _ => rfl, by decide +kernel, ?_, am_atB_mem (p := (1, 34)) (by decide +kernel), am_atB_mem (p := (1, 2)) (by decide +kernel)⟩
  have h : ∀ k, k < 14 → am_atB (am_p7.getD k (0, 0)) (u_lay "TerminalHouse$Reader" (am_fdl am_f7 "TerminalHouse$Reader") k) = true := by decide +kernel
  intro w hw
  obtain ⟨k, hk, rfl⟩ := List.mem_map.mp hw
  exact am_atB_mem (h k (List.mem_range.mp hk))
theorem am_cls_8 : ∃ fs : List FieldType, am_ctb[8]? = some ("TerminalHouse$Terminal", fs) ∧ fs.length = 15 ∧ (∀ k, k < 15 → parseFieldDescriptor ((am_fdl am_f8 "TerminalHouse$Terminal") k).2.2.1 = fs[k]?) ∧ (∀ k, k < 15 → ((am_fdl am_f8 "TerminalHouse$Terminal") k).1 = "TerminalHouse$Terminal") ∧
    (∀ a, a < 15 → ∀ b, b < 15 → a ≠ b → ((am_fdl am_f8 "TerminalHouse$Terminal") a).2.1 ≠ ((am_fdl am_f8 "TerminalHouse$Terminal") b).2.1) ∧ (∀ w ∈ u_ws "TerminalHouse$Terminal" (am_fdl am_f8 "TerminalHouse$Terminal") 15, w ∈ am_B) ∧ Cond.instantiable "TerminalHouse$Terminal" 15 ∈ am_B ∧ Cond.initialized "TerminalHouse$Terminal" ∈ am_B := by
  refine ⟨_, rfl, rfl, by decide +kernel, fun _ _ => rfl, by decide +kernel, ?_, am_atB_mem (p := (2, 133)) (by decide +kernel), am_atB_mem (p := (1, 12)) (by decide +kernel)⟩
  have h : ∀ k, k < 15 → am_atB (am_p8.getD k (0, 0)) (u_lay "TerminalHouse$Terminal" (am_fdl am_f8 "TerminalHouse$Terminal") k) = true := by decide +kernel
  intro w hw
  obtain ⟨k, hk, rfl⟩ := List.mem_map.mp hw
  exact am_atB_mem (h k (List.mem_range.mp hk))
theorem am_cls_9 : ∃ fs : List FieldType, am_ctb[9]? = some ("TerminalHouse$Window", fs) ∧ fs.length = 10 ∧ (∀ k, k < 10 → parseFieldDescriptor ((am_fdl am_f9 "TerminalHouse$Window") k).2.2.1 = fs[k]?) ∧ (∀ k, k < 10 → ((am_fdl am_f9 "TerminalHouse$Window") k).1 = "TerminalHouse$Window") ∧
    (∀ a, a < 10 → ∀ b, b < 10 → a ≠ b → ((am_fdl am_f9 "TerminalHouse$Window") a).2.1 ≠ ((am_fdl am_f9 "TerminalHouse$Window") b).2.1) ∧ (∀ w ∈ u_ws "TerminalHouse$Window" (am_fdl am_f9 "TerminalHouse$Window") 10, w ∈ am_B) ∧ Cond.instantiable "TerminalHouse$Window" 10 ∈ am_B ∧ Cond.initialized "TerminalHouse$Window" ∈ am_B := by
  refine ⟨_, rfl, rfl, by decide +kernel, fun _ _ => rfl, by decide +kernel, ?_, am_atB_mem (p := (1, 149)) (by decide +kernel), am_atB_mem (p := (1, 6)) (by decide +kernel)⟩
  have h : ∀ k, k < 10 → am_atB (am_p9.getD k (0, 0)) (u_lay "TerminalHouse$Window" (am_fdl am_f9 "TerminalHouse$Window") k) = true := by decide +kernel
  intro w hw
  obtain ⟨k, hk, rfl⟩ := List.mem_map.mp hw
  exact am_atB_mem (h k (List.mem_range.mp hk))
theorem am_cls_10 : ∃ fs : List FieldType, am_ctb[10]? = some ("TerminalHouse$Wire", fs) ∧ fs.length = 4 ∧ (∀ k, k < 4 → parseFieldDescriptor ((am_fdl am_f10 "TerminalHouse$Wire") k).2.2.1 = fs[k]?) ∧ (∀ k, k < 4 → ((am_fdl am_f10 "TerminalHouse$Wire") k).1 = "TerminalHouse$Wire") ∧
    (∀ a, a < 4 → ∀ b, b < 4 → a ≠ b → ((am_fdl am_f10 "TerminalHouse$Wire") a).2.1 ≠ ((am_fdl am_f10 "TerminalHouse$Wire") b).2.1) ∧ (∀ w ∈ u_ws "TerminalHouse$Wire" (am_fdl am_f10 "TerminalHouse$Wire") 4, w ∈ am_B) ∧ Cond.instantiable "TerminalHouse$Wire" 4 ∈ am_B ∧ Cond.initialized "TerminalHouse$Wire" ∈ am_B := by
  refine ⟨_, rfl, rfl, by decide +kernel, fun _ _ => rfl, by decide +kernel, ?_, am_atB_mem (p := (2, 110)) (by decide +kernel), am_atB_mem (p := (1, 11)) (by decide +kernel)⟩
  have h : ∀ k, k < 4 → am_atB (am_p10.getD k (0, 0)) (u_lay "TerminalHouse$Wire" (am_fdl am_f10 "TerminalHouse$Wire") k) = true := by decide +kernel
  intro w hw
  obtain ⟨k, hk, rfl⟩ := List.mem_map.mp hw
  exact am_atB_mem (h k (List.mem_range.mp hk))
theorem am_cls_11 : ∃ fs : List FieldType, am_ctb[11]? = some ("TerminalHouse", fs) ∧ fs.length = 16 ∧ (∀ k, k < 16 → parseFieldDescriptor ((am_fdl am_f11 "TerminalHouse") k).2.2.1 = fs[k]?) ∧ (∀ k, k < 16 → ((am_fdl am_f11 "TerminalHouse") k).1 = "TerminalHouse") ∧
    (∀ a, a < 16 → ∀ b, b < 16 → a ≠ b → ((am_fdl am_f11 "TerminalHouse") a).2.1 ≠ ((am_fdl am_f11 "TerminalHouse") b).2.1) ∧ (∀ w ∈ u_ws "TerminalHouse" (am_fdl am_f11 "TerminalHouse") 16, w ∈ am_B) ∧ Cond.instantiable "TerminalHouse" 16 ∈ am_B ∧ Cond.initialized "TerminalHouse" ∈ am_B := by
  refine ⟨_, rfl, rfl, by decide +kernel, fun _ _ => rfl, by decide +kernel, ?_, am_atB_mem (p := (1, 26)) (by decide +kernel), am_atB_mem (p := (1, 1)) (by decide +kernel)⟩
  have h : ∀ k, k < 16 → am_atB (am_p11.getD k (0, 0)) (u_lay "TerminalHouse" (am_fdl am_f11 "TerminalHouse") k) = true := by decide +kernel
  intro w hw
  obtain ⟨k, hk, rfl⟩ := List.mem_map.mp hw
  exact am_atB_mem (h k (List.mem_range.mp hk))
theorem am_cls_12 : ∃ fs : List FieldType, am_ctb[12]? = some ("TerminalHouseModel", fs) ∧ fs.length = 122 ∧ (∀ k, k < 122 → parseFieldDescriptor ((am_fdl am_f12 "TerminalHouseModel") k).2.2.1 = fs[k]?) ∧ (∀ k, k < 122 → ((am_fdl am_f12 "TerminalHouseModel") k).1 = "TerminalHouseModel") ∧
    (∀ a, a < 122 → ∀ b, b < 122 → a ≠ b → ((am_fdl am_f12 "TerminalHouseModel") a).2.1 ≠ ((am_fdl am_f12 "TerminalHouseModel") b).2.1) ∧ (∀ w ∈ u_ws "TerminalHouseModel" (am_fdl am_f12 "TerminalHouseModel") 122, w ∈ am_B) ∧ Cond.instantiable "TerminalHouseModel" 122 ∈ am_B ∧ Cond.initialized "TerminalHouseModel" ∈ am_B := by
  refine ⟨_, rfl, rfl, by decide +kernel, fun _ _ => rfl, by decide +kernel, ?_, am_atB_mem (p := (8, 49)) (by decide +kernel), am_atB_mem (p := (1, 15)) (by decide +kernel)⟩
  have h : ∀ k, k < 122 → am_atB (am_p12.getD k (0, 0)) (u_lay "TerminalHouseModel" (am_fdl am_f12 "TerminalHouseModel") k) = true := by decide +kernel
  intro w hw
  obtain ⟨k, hk, rfl⟩ := List.mem_map.mp hw
  exact am_atB_mem (h k (List.mem_range.mp hk))
/-- with the class whose cells are never looked into -/
def am_clx : List vw_C := am_clb ++ [("java/util/NoSuchElementException", am_fdl [] "", 0)]
theorem am_cls_ok : am_cls am_B am_clx am_clb am_ctb := ⟨⟨fun a q h => by unfold am_clx; rw [List.getElem?_append_left (List.getElem?_eq_some_iff.mp h).1]; exact h, rfl⟩, fun ci C T N h => by
  match ci, h with
  | 0, h => cases h; exact am_cls_0
  | 1, h => cases h; exact am_cls_1
  | 2, h => cases h; exact am_cls_2
  | 3, h => cases h; exact am_cls_3
  | 4, h => cases h; exact am_cls_4
  | 5, h => cases h; exact am_cls_5
  | 6, h => cases h; exact am_cls_6
  | 7, h => cases h; exact am_cls_7
  | 8, h => cases h; exact am_cls_8
  | 9, h => cases h; exact am_cls_9
  | 10, h => cases h; exact am_cls_10
  | 11, h => cases h; exact am_cls_11
  | 12, h => cases h; exact am_cls_12
  | n + 13, h => cases h⟩
def am_m0 : am_M := (⟨"", "", ""⟩, ⟨#[]⟩, 0, none)
def am_ml0 : List am_M := [(⟨"TerminalHouse", "<init>", "(III)V"⟩, prog_1_method_1_code, 6, (Option.none : Option FieldType)),
  (⟨"TerminalHouse$Reader", "<init>", "()V"⟩, prog_9_method_1_code, 2, (Option.none : Option FieldType)),
  (⟨"TerminalHouse$Entry", "<init>", "()V"⟩, prog_4_method_1_code, 1, (Option.none : Option FieldType)),
  (⟨"TerminalHouse$Machine", "<init>", "()V"⟩, prog_7_method_1_code, 1, (Option.none : Option FieldType)),
  (⟨"TerminalHouse$Painter", "<init>", "()V"⟩, prog_8_method_1_code, 1, (Option.none : Option FieldType)),
  (⟨"TerminalHouse$Window", "<init>", "()V"⟩, prog_11_method_1_code, 1, (Option.none : Option FieldType)),
  (⟨"TerminalHouse$Discipline", "<init>", "()V"⟩, prog_3_method_1_code, 1, (Option.none : Option FieldType)),
  (⟨"TerminalHouse$Bytes", "<init>", "(I)V"⟩, prog_2_method_1_code, 2, (Option.none : Option FieldType)),
  (⟨"TerminalHouse$Keyboard", "<init>", "()V"⟩, prog_6_method_1_code, 1, (Option.none : Option FieldType)),
  (⟨"TerminalHouse$Wire", "<init>", "()V"⟩, prog_12_method_1_code, 1, (Option.none : Option FieldType)),
  (⟨"TerminalHouse", "nearest", "(III)I"⟩, prog_1_method_45_code, 3, (Option.some FieldType.int)),
  (⟨"TerminalHouse$Terminal", "<init>", "(II)V"⟩, prog_10_method_1_code, 3, (Option.none : Option FieldType)),
  (⟨"TerminalHouse$Glass", "<init>", "(II)V"⟩, prog_5_method_1_code, 3, (Option.none : Option FieldType)),
  (⟨"TerminalHouse$Glass", "reset", "()V"⟩, prog_5_method_2_code, 2, (Option.none : Option FieldType)),
  (⟨"java/util/Arrays", "fill", "([IIII)V"⟩, prog_23_method_104_code, 5, (Option.none : Option FieldType)),
  (⟨"java/util/Arrays", "rangeCheck", "(III)V"⟩, prog_23_method_30_code, 3, (Option.none : Option FieldType))]
def am_ml1 : List am_M := [(⟨"TerminalHouse$Glass", "place", "(II)V"⟩, prog_5_method_8_code, 3, (Option.none : Option FieldType)),
  (⟨"TerminalHouse$Glass", "last", "()I"⟩, prog_5_method_6_code, 1, (Option.some FieldType.int)),
  (⟨"TerminalHouse$Glass", "save", "()V"⟩, prog_5_method_28_code, 1, (Option.none : Option FieldType)),
  (⟨"TerminalHouse", "feed", "(IIIII)Z"⟩, prog_1_method_2_code, 6, (Option.some FieldType.boolean)),
  (⟨"TerminalHouse", "feedFour", "(I)V"⟩, prog_1_method_3_code, 3, (Option.none : Option FieldType)),
  (⟨"TerminalHouse", "end", "(I)Z"⟩, prog_1_method_4_code, 2, (Option.some FieldType.boolean)),
  (⟨"TerminalHouse", "describe", "()I"⟩, prog_1_method_6_code, 2, (Option.some FieldType.int)),
  (⟨"TerminalHouse$Reader", "readText", "([II)I"⟩, prog_9_method_5_code, 6, (Option.some FieldType.int)),
  (⟨"TerminalHouse$Reader", "passComment", "()Z"⟩, prog_9_method_6_code, 1, (Option.some FieldType.boolean)),
  (⟨"TerminalHouse$Reader", "isText", "(I)Z"⟩, prog_9_method_30_code, 1, (Option.some FieldType.boolean)),
  (⟨"TerminalHouse$Reader", "failed", "(II)Z"⟩, prog_9_method_29_code, 3, (Option.some FieldType.boolean)),
  (⟨"TerminalHouse$Reader", "passLineEnd", "()Z"⟩, prog_9_method_26_code, 2, (Option.some FieldType.boolean)),
  (⟨"TerminalHouse$Reader", "byteAt", "(I)I"⟩, prog_9_method_28_code, 2, (Option.some FieldType.int)),
  (⟨"TerminalHouse", "isBlank", "(I)Z"⟩, prog_1_method_46_code, 1, (Option.some FieldType.boolean)),
  (⟨"TerminalHouse$Reader", "readFields", "()Z"⟩, prog_9_method_12_code, 2, (Option.some FieldType.boolean)),
  (⟨"TerminalHouse$Reader", "passBlanks", "()V"⟩, prog_9_method_25_code, 1, (Option.none : Option FieldType))]
def am_ml2 : List am_M := [(⟨"TerminalHouse$Reader", "readField", "()Z"⟩, prog_9_method_13_code, 5, (Option.some FieldType.boolean)),
  (⟨"TerminalHouse$Reader", "passAbility", "()Z"⟩, prog_9_method_14_code, 1, (Option.some FieldType.boolean)),
  (⟨"TerminalHouse", "isLetter", "(I)Z"⟩, prog_1_method_48_code, 1, (Option.some FieldType.boolean)),
  (⟨"TerminalHouse", "isDigit", "(I)Z"⟩, prog_1_method_47_code, 1, (Option.some FieldType.boolean)),
  (⟨"TerminalHouse$Reader", "isUse", "(II)Z"⟩, prog_9_method_15_code, 3, (Option.some FieldType.boolean)),
  (⟨"TerminalHouse$Reader", "readUse", "()Z"⟩, prog_9_method_16_code, 4, (Option.some FieldType.boolean)),
  (⟨"TerminalHouse$Reader", "passName", "()Z"⟩, prog_9_method_11_code, 2, (Option.some FieldType.boolean)),
  (⟨"TerminalHouse$Reader", "isNameByte", "(I)Z"⟩, prog_9_method_31_code, 1, (Option.some FieldType.boolean)),
  (⟨"TerminalHouse$Reader", "indexNamed", "([IIII)I"⟩, prog_9_method_4_code, 6, (Option.some FieldType.int)),
  (⟨"TerminalHouse$Entry", "isNamed", "([III)Z"⟩, prog_4_method_4_code, 5, (Option.some FieldType.boolean)),
  (⟨"TerminalHouse$Entry", "sameName", "(I[II)Z"⟩, prog_4_method_5_code, 6, (Option.some FieldType.boolean)),
  (⟨"TerminalHouse$Reader", "passComma", "()Z"⟩, prog_9_method_27_code, 1, (Option.some FieldType.boolean)),
  (⟨"TerminalHouse", "abilityNamed", "([III)I"⟩, prog_1_method_51_code, 4, (Option.some FieldType.int)),
  (⟨"TerminalHouse", "isAbility", "(I[III)Z"⟩, prog_1_method_52_code, 8, (Option.some FieldType.boolean)),
  (⟨"TerminalHouse$Reader", "signOf", "(I)I"⟩, prog_9_method_32_code, 1, (Option.some FieldType.int)),
  (⟨"TerminalHouse$Reader", "readNumber", "(I)Z"⟩, prog_9_method_17_code, 4, (Option.some FieldType.boolean))]
def am_ml3 : List am_M := [(⟨"TerminalHouse$Entry", "tellNumber", "(II)V"⟩, prog_4_method_11_code, 3, (Option.none : Option FieldType)),
  (⟨"TerminalHouse$Reader", "readString", "(I)Z"⟩, prog_9_method_18_code, 6, (Option.some FieldType.boolean)),
  (⟨"TerminalHouse$Reader", "readBackslash", "()Z"⟩, prog_9_method_20_code, 3, (Option.some FieldType.boolean)),
  (⟨"TerminalHouse$Reader", "readOctal", "()Z"⟩, prog_9_method_21_code, 4, (Option.some FieldType.boolean)),
  (⟨"TerminalHouse$Reader", "make", "(I)V"⟩, prog_9_method_24_code, 2, (Option.none : Option FieldType)),
  (⟨"TerminalHouse$Reader", "escaped", "(I)I"⟩, prog_9_method_33_code, 1, (Option.some FieldType.int)),
  (⟨"TerminalHouse$Reader", "readCaret", "()Z"⟩, prog_9_method_22_code, 2, (Option.some FieldType.boolean)),
  (⟨"TerminalHouse$Reader", "readPlain", "(I)V"⟩, prog_9_method_19_code, 3, (Option.none : Option FieldType)),
  (⟨"TerminalHouse$Reader", "delayLength", "()I"⟩, prog_9_method_23_code, 2, (Option.some FieldType.int)),
  (⟨"TerminalHouse$Machine", "isWellFormed", "([II)Z"⟩, prog_7_method_4_code, 8, (Option.some FieldType.boolean)),
  (⟨"TerminalHouse$Machine", "tokenLength", "([III)I"⟩, prog_7_method_2_code, 9, (Option.some FieldType.int)),
  (⟨"TerminalHouse$Entry", "tellString", "(I[III)V"⟩, prog_4_method_12_code, 5, (Option.none : Option FieldType)),
  (⟨"TerminalHouse$Entry", "startOf", "(I)I"⟩, prog_4_method_9_code, 1, (Option.some FieldType.int)),
  (⟨"TerminalHouse$Entry", "tellFlag", "(I)V"⟩, prog_4_method_10_code, 2, (Option.none : Option FieldType)),
  (⟨"TerminalHouse$Reader", "readNames", "()Z"⟩, prog_9_method_7_code, 3, (Option.some FieldType.boolean)),
  (⟨"TerminalHouse$Reader", "finishEntry", "()V"⟩, prog_9_method_9_code, 2, (Option.none : Option FieldType))]
def am_ml4 : List am_M := [(⟨"TerminalHouse$Entry", "takeFrom", "(LTerminalHouse$Entry;[Z)V"⟩, prog_4_method_13_code, 4, (Option.none : Option FieldType)),
  (⟨"TerminalHouse$Entry", "lengthOf", "(I)I"⟩, prog_4_method_8_code, 2, (Option.some FieldType.int)),
  (⟨"TerminalHouse$Reader", "beginEntry", "()V"⟩, prog_9_method_8_code, 2, (Option.none : Option FieldType)),
  (⟨"TerminalHouse$Entry", "begin", "()V"⟩, prog_4_method_2_code, 2, (Option.none : Option FieldType)),
  (⟨"TerminalHouse$Reader", "readName", "(I)Z"⟩, prog_9_method_10_code, 4, (Option.some FieldType.boolean)),
  (⟨"TerminalHouse$Entry", "addName", "([III)V"⟩, prog_4_method_3_code, 4, (Option.none : Option FieldType)),
  (⟨"TerminalHouse", "fault", "(I)I"⟩, prog_1_method_7_code, 2, (Option.some FieldType.int)),
  (⟨"TerminalHouse", "use", "()I"⟩, prog_1_method_8_code, 2, (Option.some FieldType.int)),
  (⟨"TerminalHouse$Reader", "entryNamed", "([II)LTerminalHouse$Entry;"⟩, prog_9_method_3_code, 4, (Option.some (FieldType.object "TerminalHouse$Entry"))),
  (⟨"TerminalHouse$Entry", "isUsable", "()Z"⟩, prog_4_method_14_code, 1, (Option.some FieldType.boolean)),
  (⟨"TerminalHouse$Entry", "has", "(I)Z"⟩, prog_4_method_6_code, 2, (Option.some FieldType.boolean)),
  (⟨"TerminalHouse", "closeWindows", "()V"⟩, prog_1_method_44_code, 2, (Option.none : Option FieldType)),
  (⟨"TerminalHouse$Painter", "begin", "(LTerminalHouse$Entry;LTerminalHouse$Machine;)V"⟩, prog_8_method_2_code, 4, (Option.none : Option FieldType)),
  (⟨"TerminalHouse$Entry", "number", "(I)I"⟩, prog_4_method_7_code, 2, (Option.some FieldType.int)),
  (⟨"TerminalHouse$Window", "begin", "(IIII)V"⟩, prog_11_method_2_code, 5, (Option.none : Option FieldType)),
  (⟨"TerminalHouse$Painter", "measureStrings", "()V"⟩, prog_8_method_3_code, 3, (Option.none : Option FieldType))]
def am_ml5 : List am_M := [(⟨"TerminalHouse$Painter", "measured", "(II)I"⟩, prog_8_method_4_code, 3, (Option.some FieldType.int)),
  (⟨"TerminalHouse$Machine", "setParameters", "(IIII)V"⟩, prog_7_method_5_code, 5, (Option.none : Option FieldType)),
  (⟨"TerminalHouse$Machine", "putTogether", "(LTerminalHouse$Entry;I)I"⟩, prog_7_method_6_code, 10, (Option.some FieldType.int)),
  (⟨"TerminalHouse$Machine", "make", "(I)V"⟩, prog_7_method_13_code, 2, (Option.none : Option FieldType)),
  (⟨"TerminalHouse$Machine", "pop", "()I"⟩, prog_7_method_11_code, 1, (Option.some FieldType.int)),
  (⟨"TerminalHouse$Machine", "skip", "([IIIZ)I"⟩, prog_7_method_7_code, 8, (Option.some FieldType.int)),
  (⟨"TerminalHouse$Machine", "makeDecimal", "(III)V"⟩, prog_7_method_12_code, 10, (Option.none : Option FieldType)),
  (⟨"TerminalHouse$Machine", "numberAt", "([III)I"⟩, prog_7_method_3_code, 5, (Option.some FieldType.int)),
  (⟨"TerminalHouse$Machine", "push", "(I)V"⟩, prog_7_method_10_code, 2, (Option.none : Option FieldType)),
  (⟨"TerminalHouse$Machine", "operate", "(I)V"⟩, prog_7_method_8_code, 4, (Option.none : Option FieldType)),
  (⟨"TerminalHouse$Machine", "combined", "(III)I"⟩, prog_7_method_9_code, 3, (Option.some FieldType.int)),
  (⟨"TerminalHouse", "empty", "()V"⟩, prog_1_method_9_code, 1, (Option.none : Option FieldType)),
  (⟨"TerminalHouse$Reader", "forget", "()V"⟩, prog_9_method_2_code, 1, (Option.none : Option FieldType)),
  (⟨"TerminalHouse", "ability", "()I"⟩, prog_1_method_10_code, 3, (Option.some FieldType.int)),
  (⟨"TerminalHouse", "expand", "(IIII)I"⟩, prog_1_method_11_code, 6, (Option.some FieldType.int)),
  (⟨"TerminalHouse", "open", "(IIII)I"⟩, prog_1_method_12_code, 6, (Option.some FieldType.int))]
def am_ml6 : List am_M := [(⟨"TerminalHouse$Window", "wouldHold", "(IIII)Z"⟩, prog_11_method_4_code, 5, (Option.some FieldType.boolean)),
  (⟨"TerminalHouse", "close", "(I)Z"⟩, prog_1_method_13_code, 3, (Option.some FieldType.boolean)),
  (⟨"TerminalHouse", "openWindow", "(I)LTerminalHouse$Window;"⟩, prog_1_method_42_code, 2, (Option.some (FieldType.object "TerminalHouse$Window"))),
  (⟨"TerminalHouse", "at", "(III)Z"⟩, prog_1_method_14_code, 5, (Option.some FieldType.boolean)),
  (⟨"TerminalHouse$Window", "hasCell", "(II)Z"⟩, prog_11_method_5_code, 3, (Option.some FieldType.boolean)),
  (⟨"TerminalHouse", "dress", "(II)Z"⟩, prog_1_method_15_code, 4, (Option.some FieldType.boolean)),
  (⟨"TerminalHouse", "scrolls", "(IZ)Z"⟩, prog_1_method_16_code, 4, (Option.some FieldType.boolean)),
  (⟨"TerminalHouse", "say", "(I)I"⟩, prog_1_method_17_code, 4, (Option.some FieldType.int)),
  (⟨"TerminalHouse", "sayTape", "(LTerminalHouse$Window;)I"⟩, prog_1_method_18_code, 4, (Option.some FieldType.int)),
  (⟨"TerminalHouse$Window", "breakLine", "()Z"⟩, prog_11_method_10_code, 1, (Option.some FieldType.boolean)),
  (⟨"TerminalHouse$Window", "goToNextRow", "()Z"⟩, prog_11_method_9_code, 1, (Option.some FieldType.boolean)),
  (⟨"TerminalHouse$Window", "slideRows", "(II)V"⟩, prog_11_method_12_code, 4, (Option.none : Option FieldType)),
  (⟨"TerminalHouse", "slide", "([IIIII)V"⟩, prog_1_method_50_code, 5, (Option.none : Option FieldType)),
  (⟨"TerminalHouse$Window", "sayByte", "(I)Z"⟩, prog_11_method_7_code, 5, (Option.some FieldType.boolean)),
  (⟨"TerminalHouse", "isPrintable", "(I)Z"⟩, prog_1_method_49_code, 1, (Option.some FieldType.boolean)),
  (⟨"TerminalHouse$Window", "saySign", "(I)Z"⟩, prog_11_method_8_code, 2, (Option.some FieldType.boolean))]
def am_ml7 : List am_M := [(⟨"TerminalHouse", "erase", "(II)Z"⟩, prog_1_method_19_code, 4, (Option.some FieldType.boolean)),
  (⟨"TerminalHouse$Window", "blankOut", "(I)Z"⟩, prog_11_method_11_code, 3, (Option.some FieldType.boolean)),
  (⟨"TerminalHouse", "rows", "(II)Z"⟩, prog_1_method_20_code, 4, (Option.some FieldType.boolean)),
  (⟨"TerminalHouse", "cells", "(II)Z"⟩, prog_1_method_21_code, 5, (Option.some FieldType.boolean)),
  (⟨"TerminalHouse", "roll", "(II)Z"⟩, prog_1_method_22_code, 4, (Option.some FieldType.boolean)),
  (⟨"TerminalHouse", "box", "(I)Z"⟩, prog_1_method_23_code, 3, (Option.some FieldType.boolean)),
  (⟨"TerminalHouse$Window", "drawEdge", "()V"⟩, prog_11_method_13_code, 6, (Option.none : Option FieldType)),
  (⟨"TerminalHouse", "look", "(III)I"⟩, prog_1_method_24_code, 5, (Option.some FieldType.int)),
  (⟨"TerminalHouse$Window", "cell", "(II)I"⟩, prog_11_method_6_code, 3, (Option.some FieldType.int)),
  (⟨"TerminalHouse", "where", "(II)I"⟩, prog_1_method_25_code, 4, (Option.some FieldType.int)),
  (⟨"TerminalHouse$Window", "tell", "(I)I"⟩, prog_11_method_15_code, 2, (Option.some FieldType.int)),
  (⟨"TerminalHouse", "show", "(I)I"⟩, prog_1_method_26_code, 3, (Option.some FieldType.int)),
  (⟨"TerminalHouse$Window", "copyTo", "(LTerminalHouse$Window;)I"⟩, prog_11_method_14_code, 7, (Option.some FieldType.int)),
  (⟨"TerminalHouse", "update", "()I"⟩, prog_1_method_27_code, 3, (Option.some FieldType.int)),
  (⟨"TerminalHouse$Bytes", "room", "()I"⟩, prog_2_method_3_code, 1, (Option.some FieldType.int)),
  (⟨"TerminalHouse$Painter", "paint", "(I)I"⟩, prog_8_method_5_code, 5, (Option.some FieldType.int))]
def am_ml8 : List am_M := [(⟨"TerminalHouse$Window", "become", "(LTerminalHouse$Window;)V"⟩, prog_11_method_3_code, 2, (Option.none : Option FieldType)),
  (⟨"TerminalHouse$Painter", "takeAim", "()V"⟩, prog_8_method_6_code, 3, (Option.none : Option FieldType)),
  (⟨"TerminalHouse$Painter", "send", "(IIII)V"⟩, prog_8_method_31_code, 8, (Option.none : Option FieldType)),
  (⟨"TerminalHouse$Painter", "addByte", "(I)V"⟩, prog_8_method_32_code, 2, (Option.none : Option FieldType)),
  (⟨"TerminalHouse$Painter", "startAnew", "()V"⟩, prog_8_method_7_code, 1, (Option.none : Option FieldType)),
  (⟨"TerminalHouse$Painter", "rollUp", "()V"⟩, prog_8_method_8_code, 5, (Option.none : Option FieldType)),
  (⟨"TerminalHouse$Painter", "rowsUnlike", "(I)I"⟩, prog_8_method_9_code, 4, (Option.some FieldType.int)),
  (⟨"TerminalHouse$Painter", "isRowUnlike", "(II)Z"⟩, prog_8_method_10_code, 6, (Option.some FieldType.boolean)),
  (⟨"TerminalHouse$Painter", "paintable", "(I)I"⟩, prog_8_method_11_code, 3, (Option.some FieldType.int)),
  (⟨"TerminalHouse$Painter", "moveTo", "(II)V"⟩, prog_8_method_16_code, 5, (Option.none : Option FieldType)),
  (⟨"TerminalHouse$Painter", "cheapestWay", "(II)I"⟩, prog_8_method_17_code, 8, (Option.some FieldType.int)),
  (⟨"TerminalHouse$Painter", "downLength", "(II)I"⟩, prog_8_method_18_code, 3, (Option.some FieldType.int)),
  (⟨"TerminalHouse$Painter", "pairLength", "(III)I"⟩, prog_8_method_19_code, 6, (Option.some FieldType.int)),
  (⟨"TerminalHouse$Painter", "acrossLength", "(III)I"⟩, prog_8_method_20_code, 5, (Option.some FieldType.int)),
  (⟨"TerminalHouse$Painter", "tabsLength", "(II)I"⟩, prog_8_method_23_code, 4, (Option.some FieldType.int)),
  (⟨"TerminalHouse$Painter", "lastStop", "(II)I"⟩, prog_8_method_21_code, 4, (Option.some FieldType.int))]
def am_ml9 : List am_M := [(⟨"TerminalHouse$Painter", "tabsBetween", "(II)I"⟩, prog_8_method_22_code, 3, (Option.some FieldType.int)),
  (⟨"TerminalHouse$Painter", "copyLength", "(III)I"⟩, prog_8_method_24_code, 5, (Option.some FieldType.int)),
  (⟨"TerminalHouse$Painter", "planWay", "(III)V"⟩, prog_8_method_25_code, 4, (Option.none : Option FieldType)),
  (⟨"TerminalHouse$Painter", "planStep", "(IIII)V"⟩, prog_8_method_29_code, 6, (Option.none : Option FieldType)),
  (⟨"TerminalHouse$Painter", "planDown", "(II)V"⟩, prog_8_method_26_code, 3, (Option.none : Option FieldType)),
  (⟨"TerminalHouse$Painter", "planPair", "(III)V"⟩, prog_8_method_27_code, 4, (Option.none : Option FieldType)),
  (⟨"TerminalHouse$Painter", "planAcross", "(III)V"⟩, prog_8_method_28_code, 8, (Option.none : Option FieldType)),
  (⟨"TerminalHouse$Painter", "copyKnown", "(III)V"⟩, prog_8_method_30_code, 5, (Option.none : Option FieldType)),
  (⟨"TerminalHouse$Painter", "paintRow", "(I)V"⟩, prog_8_method_12_code, 10, (Option.none : Option FieldType)),
  (⟨"TerminalHouse$Painter", "behindLastSign", "(I)I"⟩, prog_8_method_13_code, 3, (Option.some FieldType.int)),
  (⟨"TerminalHouse$Painter", "dressAs", "(I)V"⟩, prog_8_method_15_code, 4, (Option.none : Option FieldType)),
  (⟨"TerminalHouse$Painter", "paintCell", "(I)V"⟩, prog_8_method_14_code, 2, (Option.none : Option FieldType)),
  (⟨"TerminalHouse$Bytes", "add", "(I)Z"⟩, prog_2_method_5_code, 2, (Option.some FieldType.boolean)),
  (⟨"TerminalHouse", "redraw", "()Z"⟩, prog_1_method_28_code, 1, (Option.some FieldType.boolean)),
  (⟨"TerminalHouse", "known", "(II)I"⟩, prog_1_method_29_code, 3, (Option.some FieldType.int)),
  (⟨"TerminalHouse", "wanted", "(II)I"⟩, prog_1_method_30_code, 3, (Option.some FieldType.int))]
def am_ml10 : List am_M := [(⟨"TerminalHouse", "flags", "(I)I"⟩, prog_1_method_31_code, 2, (Option.some FieldType.int)),
  (⟨"TerminalHouse$Discipline", "changeFlags", "(I)I"⟩, prog_3_method_3_code, 4, (Option.some FieldType.int)),
  (⟨"TerminalHouse$Discipline", "has", "(I)Z"⟩, prog_3_method_2_code, 2, (Option.some FieldType.boolean)),
  (⟨"TerminalHouse$Bytes", "size", "()I"⟩, prog_2_method_2_code, 1, (Option.some FieldType.int)),
  (⟨"TerminalHouse$Bytes", "get", "(I)I"⟩, prog_2_method_7_code, 2, (Option.some FieldType.int)),
  (⟨"TerminalHouse$Bytes", "clear", "()V"⟩, prog_2_method_4_code, 1, (Option.none : Option FieldType)),
  (⟨"TerminalHouse", "write", "()I"⟩, prog_1_method_32_code, 3, (Option.some FieldType.int)),
  (⟨"TerminalHouse$Discipline", "put", "(I)I"⟩, prog_3_method_4_code, 4, (Option.some FieldType.int)),
  (⟨"TerminalHouse$Discipline", "enqueue", "(I)I"⟩, prog_3_method_5_code, 2, (Option.some FieldType.int)),
  (⟨"TerminalHouse$Discipline", "columnBehind", "(II)I"⟩, prog_3_method_6_code, 3, (Option.some FieldType.int)),
  (⟨"TerminalHouse", "read", "(I)I"⟩, prog_1_method_33_code, 2, (Option.some FieldType.int)),
  (⟨"TerminalHouse$Discipline", "takeReady", "(I[I)I"⟩, prog_3_method_20_code, 9, (Option.some FieldType.int)),
  (⟨"TerminalHouse$Bytes", "takeFirst", "()I"⟩, prog_2_method_8_code, 2, (Option.some FieldType.int)),
  (⟨"TerminalHouse", "key", "(IZ)Z"⟩, prog_1_method_34_code, 3, (Option.some FieldType.boolean)),
  (⟨"TerminalHouse$Keyboard", "press", "(IZ)Z"⟩, prog_6_method_2_code, 3, (Option.some FieldType.boolean)),
  (⟨"TerminalHouse", "spoil", "(I)Z"⟩, prog_1_method_35_code, 2, (Option.some FieldType.boolean))]
def am_ml11 : List am_M := [(⟨"TerminalHouse$Wire", "spoilByte", "()Z"⟩, prog_12_method_4_code, 1, (Option.some FieldType.boolean)),
  (⟨"TerminalHouse", "ticks", "(I)I"⟩, prog_1_method_36_code, 4, (Option.some FieldType.int)),
  (⟨"TerminalHouse$Wire", "arriving", "(I)I"⟩, prog_12_method_5_code, 3, (Option.some FieldType.int)),
  (⟨"TerminalHouse$Terminal", "receive", "(I)V"⟩, prog_10_method_2_code, 2, (Option.none : Option FieldType)),
  (⟨"TerminalHouse$Discipline", "receive", "(I)V"⟩, prog_3_method_8_code, 3, (Option.none : Option FieldType)),
  (⟨"TerminalHouse$Discipline", "take", "(I)V"⟩, prog_3_method_11_code, 4, (Option.none : Option FieldType)),
  (⟨"TerminalHouse$Discipline", "echo", "(I)V"⟩, prog_3_method_12_code, 2, (Option.none : Option FieldType)),
  (⟨"TerminalHouse$Discipline", "isEchoedAsItself", "(I)Z"⟩, prog_3_method_13_code, 1, (Option.some FieldType.boolean)),
  (⟨"TerminalHouse$Discipline", "interrupt", "()V"⟩, prog_3_method_9_code, 1, (Option.none : Option FieldType)),
  (⟨"TerminalHouse$Discipline", "edit", "(I)V"⟩, prog_3_method_10_code, 2, (Option.none : Option FieldType)),
  (⟨"TerminalHouse$Discipline", "rubOut", "(I)V"⟩, prog_3_method_17_code, 4, (Option.none : Option FieldType)),
  (⟨"TerminalHouse$Bytes", "takeLast", "()I"⟩, prog_2_method_9_code, 2, (Option.some FieldType.int)),
  (⟨"TerminalHouse$Discipline", "unecho", "(I)V"⟩, prog_3_method_18_code, 4, (Option.none : Option FieldType)),
  (⟨"TerminalHouse$Discipline", "columnOfEdited", "()I"⟩, prog_3_method_19_code, 4, (Option.some FieldType.int)),
  (⟨"TerminalHouse$Discipline", "wordLength", "()I"⟩, prog_3_method_16_code, 2, (Option.some FieldType.int)),
  (⟨"TerminalHouse$Discipline", "echoAnew", "()V"⟩, prog_3_method_14_code, 2, (Option.none : Option FieldType))]
def am_ml12 : List am_M := [(⟨"TerminalHouse$Discipline", "finishLine", "(Z)V"⟩, prog_3_method_15_code, 4, (Option.none : Option FieldType)),
  (⟨"TerminalHouse$Keyboard", "scan", "(ILTerminalHouse$Terminal;)V"⟩, prog_6_method_3_code, 5, (Option.none : Option FieldType)),
  (⟨"TerminalHouse$Keyboard", "release", "(I)V"⟩, prog_6_method_4_code, 2, (Option.none : Option FieldType)),
  (⟨"TerminalHouse$Keyboard", "strike", "(ILTerminalHouse$Terminal;)V"⟩, prog_6_method_6_code, 4, (Option.none : Option FieldType)),
  (⟨"TerminalHouse$Keyboard", "bytesOf", "(ILTerminalHouse$Glass;)I"⟩, prog_6_method_7_code, 5, (Option.some FieldType.int)),
  (⟨"TerminalHouse$Glass", "has", "(I)Z"⟩, prog_5_method_4_code, 2, (Option.some FieldType.boolean)),
  (⟨"TerminalHouse$Keyboard", "three", "(II)I"⟩, prog_6_method_10_code, 3, (Option.some FieldType.int)),
  (⟨"TerminalHouse$Keyboard", "one", "(I)I"⟩, prog_6_method_9_code, 2, (Option.some FieldType.int)),
  (⟨"TerminalHouse$Keyboard", "controlled", "(I)I"⟩, prog_6_method_8_code, 1, (Option.some FieldType.int)),
  (⟨"TerminalHouse$Bytes", "addWhole", "([II)Z"⟩, prog_2_method_6_code, 4, (Option.some FieldType.boolean)),
  (⟨"TerminalHouse$Keyboard", "isRepeatable", "(I)Z"⟩, prog_6_method_5_code, 1, (Option.some FieldType.boolean)),
  (⟨"TerminalHouse$Terminal", "act", "()V"⟩, prog_10_method_3_code, 2, (Option.none : Option FieldType)),
  (⟨"TerminalHouse$Terminal", "readByte", "(I)V"⟩, prog_10_method_5_code, 2, (Option.none : Option FieldType)),
  (⟨"TerminalHouse$Glass", "printSign", "(I)V"⟩, prog_5_method_14_code, 3, (Option.none : Option FieldType)),
  (⟨"TerminalHouse$Glass", "index", "()V"⟩, prog_5_method_15_code, 1, (Option.none : Option FieldType)),
  (⟨"TerminalHouse$Glass", "slideRows", "(III)V"⟩, prog_5_method_17_code, 5, (Option.none : Option FieldType))]
def am_ml13 : List am_M := [(⟨"TerminalHouse$Glass", "here", "()I"⟩, prog_5_method_7_code, 1, (Option.some FieldType.int)),
  (⟨"TerminalHouse$Terminal", "control", "(I)V"⟩, prog_10_method_6_code, 2, (Option.none : Option FieldType)),
  (⟨"TerminalHouse$Glass", "goToNextStop", "()V"⟩, prog_5_method_21_code, 3, (Option.none : Option FieldType)),
  (⟨"TerminalHouse$Glass", "print", "(I)V"⟩, prog_5_method_13_code, 3, (Option.none : Option FieldType)),
  (⟨"TerminalHouse$Terminal", "readEscape", "(I)V"⟩, prog_10_method_7_code, 3, (Option.none : Option FieldType)),
  (⟨"TerminalHouse$Terminal", "endEscape", "(I)V"⟩, prog_10_method_8_code, 2, (Option.none : Option FieldType)),
  (⟨"TerminalHouse$Terminal", "beginSequence", "()V"⟩, prog_10_method_11_code, 1, (Option.none : Option FieldType)),
  (⟨"TerminalHouse$Glass", "restore", "()V"⟩, prog_5_method_29_code, 1, (Option.none : Option FieldType)),
  (⟨"TerminalHouse$Glass", "turn", "(IZ)V"⟩, prog_5_method_5_code, 3, (Option.none : Option FieldType)),
  (⟨"TerminalHouse$Glass", "backIndex", "()V"⟩, prog_5_method_16_code, 1, (Option.none : Option FieldType)),
  (⟨"TerminalHouse$Terminal", "answerWhat", "()V"⟩, prog_10_method_19_code, 1, (Option.none : Option FieldType)),
  (⟨"TerminalHouse$Terminal", "endHash", "(I)V"⟩, prog_10_method_9_code, 2, (Option.none : Option FieldType)),
  (⟨"TerminalHouse$Glass", "setWidth", "(I)V"⟩, prog_5_method_26_code, 3, (Option.none : Option FieldType)),
  (⟨"TerminalHouse$Glass", "align", "()V"⟩, prog_5_method_25_code, 1, (Option.none : Option FieldType)),
  (⟨"TerminalHouse$Terminal", "chooseSet", "(II)V"⟩, prog_10_method_10_code, 3, (Option.none : Option FieldType)),
  (⟨"TerminalHouse$Terminal", "readSequence", "(I)V"⟩, prog_10_method_12_code, 4, (Option.none : Option FieldType))]
def am_ml14 : List am_M := [(⟨"TerminalHouse$Terminal", "turnPrivateModes", "(I)V"⟩, prog_10_method_18_code, 4, (Option.none : Option FieldType)),
  (⟨"TerminalHouse$Glass", "placeFirst", "()V"⟩, prog_5_method_10_code, 1, (Option.none : Option FieldType)),
  (⟨"TerminalHouse$Terminal", "moveOrErase", "(I)V"⟩, prog_10_method_13_code, 5, (Option.none : Option FieldType)),
  (⟨"TerminalHouse$Glass", "goUp", "(I)V"⟩, prog_5_method_11_code, 2, (Option.none : Option FieldType)),
  (⟨"TerminalHouse$Glass", "goDown", "(I)V"⟩, prog_5_method_12_code, 2, (Option.none : Option FieldType)),
  (⟨"TerminalHouse$Glass", "placeTold", "(II)V"⟩, prog_5_method_9_code, 3, (Option.none : Option FieldType)),
  (⟨"TerminalHouse$Glass", "eraseScreen", "(I)V"⟩, prog_5_method_24_code, 3, (Option.none : Option FieldType)),
  (⟨"TerminalHouse$Glass", "eraseRow", "(I)V"⟩, prog_5_method_23_code, 3, (Option.none : Option FieldType)),
  (⟨"TerminalHouse$Glass", "slideRowsHere", "(I)V"⟩, prog_5_method_18_code, 2, (Option.none : Option FieldType)),
  (⟨"TerminalHouse$Glass", "slideCellsHere", "(I)V"⟩, prog_5_method_19_code, 2, (Option.none : Option FieldType)),
  (⟨"TerminalHouse$Glass", "blankCellsHere", "(I)V"⟩, prog_5_method_20_code, 3, (Option.none : Option FieldType)),
  (⟨"TerminalHouse$Glass", "setMargins", "(II)V"⟩, prog_5_method_27_code, 3, (Option.none : Option FieldType)),
  (⟨"TerminalHouse$Terminal", "setOrAnswer", "(II)V"⟩, prog_10_method_14_code, 3, (Option.none : Option FieldType)),
  (⟨"TerminalHouse$Terminal", "dressByNumbers", "()V"⟩, prog_10_method_15_code, 2, (Option.none : Option FieldType)),
  (⟨"TerminalHouse$Terminal", "lightByNumbers", "()V"⟩, prog_10_method_16_code, 3, (Option.none : Option FieldType)),
  (⟨"TerminalHouse$Terminal", "turnModes", "(Z)V"⟩, prog_10_method_17_code, 3, (Option.none : Option FieldType))]
def am_ml15 : List am_M := [(⟨"TerminalHouse$Glass", "clearStops", "()V"⟩, prog_5_method_22_code, 2, (Option.none : Option FieldType)),
  (⟨"TerminalHouse$Terminal", "answerWell", "()V"⟩, prog_10_method_20_code, 1, (Option.none : Option FieldType)),
  (⟨"TerminalHouse$Terminal", "answerPlace", "()V"⟩, prog_10_method_21_code, 3, (Option.none : Option FieldType)),
  (⟨"TerminalHouse$Terminal", "addNumber", "(II)I"⟩, prog_10_method_22_code, 4, (Option.some FieldType.int)),
  (⟨"TerminalHouse$Wire", "isFree", "()Z"⟩, prog_12_method_2_code, 1, (Option.some FieldType.boolean)),
  (⟨"TerminalHouse$Terminal", "nextToSend", "()I"⟩, prog_10_method_4_code, 2, (Option.some FieldType.int)),
  (⟨"TerminalHouse$Wire", "carry", "(II)V"⟩, prog_12_method_3_code, 3, (Option.none : Option FieldType)),
  (⟨"TerminalHouse$Discipline", "nextToSend", "()I"⟩, prog_3_method_7_code, 1, (Option.some FieldType.int)),
  (⟨"TerminalHouse", "screen", "(II)I"⟩, prog_1_method_37_code, 4, (Option.some FieldType.int)),
  (⟨"TerminalHouse$Glass", "hasCell", "(II)Z"⟩, prog_5_method_3_code, 3, (Option.some FieldType.boolean)),
  (⟨"TerminalHouse", "width", "(I)I"⟩, prog_1_method_38_code, 3, (Option.some FieldType.int)),
  (⟨"TerminalHouse", "state", "(I)I"⟩, prog_1_method_39_code, 2, (Option.some FieldType.int)),
  (⟨"TerminalHouse$Terminal", "tell", "(I)I"⟩, prog_10_method_23_code, 2, (Option.some FieldType.int)),
  (⟨"TerminalHouse$Glass", "tell", "(I)I"⟩, prog_5_method_30_code, 2, (Option.some FieldType.int)),
  (⟨"TerminalHouse", "count", "(I)I"⟩, prog_1_method_40_code, 2, (Option.some FieldType.int)),
  (⟨"TerminalHouse", "openWindows", "()I"⟩, prog_1_method_43_code, 3, (Option.some FieldType.int))]
def am_ml16 : List am_M := [(⟨"TerminalHouse$Discipline", "tell", "(I)I"⟩, prog_3_method_21_code, 2, (Option.some FieldType.int)),
  (⟨"TerminalHouse", "stop", "(II)I"⟩, prog_1_method_41_code, 4, (Option.some FieldType.int)),
  (⟨"TerminalHouseLaw", "cell", "([II)I"⟩, method_2_code, 2, (Option.some FieldType.int)),
  (⟨"TerminalHouse", "octet", "(I)I"⟩, prog_1_method_5_code, 2, (Option.some FieldType.int)),
  (⟨"TerminalHouseModel", "thrown", "()I"⟩, prog_14_method_1_code, 1, (Option.some FieldType.int)),
  (⟨"TerminalHouseModel", "feed", "(IIIII)Z"⟩, prog_14_method_2_code, 8, (Option.some FieldType.boolean)),
  (⟨"TerminalHouseModel", "end", "(I)Z"⟩, prog_14_method_3_code, 2, (Option.some FieldType.boolean)),
  (⟨"TerminalHouseModel", "octet", "(I)I"⟩, prog_14_method_4_code, 2, (Option.some FieldType.int)),
  (⟨"TerminalHouseModel", "describe", "()I"⟩, prog_14_method_18_code, 3, (Option.some FieldType.int)),
  (⟨"TerminalHouseModel", "line", "(I)Z"⟩, prog_14_method_19_code, 3, (Option.some FieldType.boolean)),
  (⟨"TerminalHouseModel", "here", "(I)I"⟩, prog_14_method_5_code, 2, (Option.some FieldType.int)),
  (⟨"TerminalHouseModel", "isBlank", "(I)Z"⟩, prog_14_method_8_code, 1, (Option.some FieldType.boolean)),
  (⟨"TerminalHouseModel", "blanks", "()V"⟩, prog_14_method_14_code, 1, (Option.none : Option FieldType)),
  (⟨"TerminalHouseModel", "ends", "(I)Z"⟩, prog_14_method_6_code, 2, (Option.some FieldType.boolean)),
  (⟨"TerminalHouseModel", "fails", "(II)Z"⟩, prog_14_method_12_code, 3, (Option.some FieldType.boolean)),
  (⟨"TerminalHouseModel", "fields", "()Z"⟩, prog_14_method_22_code, 2, (Option.some FieldType.boolean))]
def am_ml17 : List am_M := [(⟨"TerminalHouseModel", "field", "()Z"⟩, prog_14_method_23_code, 8, (Option.some FieldType.boolean)),
  (⟨"TerminalHouseModel", "isLetter", "(I)Z"⟩, prog_14_method_9_code, 1, (Option.some FieldType.boolean)),
  (⟨"TerminalHouseModel", "isDigit", "(I)Z"⟩, prog_14_method_10_code, 1, (Option.some FieldType.boolean)),
  (⟨"TerminalHouseModel", "isNone", "()Z"⟩, prog_14_method_13_code, 1, (Option.some FieldType.boolean)),
  (⟨"TerminalHouseModel", "isText", "(I)Z"⟩, prog_14_method_7_code, 1, (Option.some FieldType.boolean)),
  (⟨"TerminalHouseModel", "useOf", "()Z"⟩, prog_14_method_25_code, 3, (Option.some FieldType.boolean)),
  (⟨"TerminalHouseModel", "isOfName", "(I)Z"⟩, prog_14_method_11_code, 1, (Option.some FieldType.boolean)),
  (⟨"TerminalHouseModel", "entryOf", "([BIII)I"⟩, prog_14_method_15_code, 7, (Option.some FieldType.int)),
  (⟨"TerminalHouseModel", "isName", "(I[BII)Z"⟩, prog_14_method_16_code, 7, (Option.some FieldType.boolean)),
  (⟨"TerminalHouseModel", "abilityOf", "(II)I"⟩, prog_14_method_17_code, 6, (Option.some FieldType.int)),
  (⟨"TerminalHouseModel", "digits", "(I)Z"⟩, prog_14_method_24_code, 5, (Option.some FieldType.boolean)),
  (⟨"TerminalHouseModel", "made", "(I)Z"⟩, prog_14_method_26_code, 8, (Option.some FieldType.boolean)),
  (⟨"TerminalHouseModel", "escape", "(I)I"⟩, prog_14_method_27_code, 4, (Option.some FieldType.int)),
  (⟨"TerminalHouseModel", "octal", "()I"⟩, prog_14_method_28_code, 4, (Option.some FieldType.int)),
  (⟨"TerminalHouseModel", "isWell", "(I)Z"⟩, prog_14_method_31_code, 8, (Option.some FieldType.boolean)),
  (⟨"TerminalHouseModel", "item", "(II)I"⟩, prog_14_method_30_code, 6, (Option.some FieldType.int))]
def am_ml18 : List am_M := [(⟨"TerminalHouseModel", "byteOf", "(II)I"⟩, prog_14_method_29_code, 3, (Option.some FieldType.int)),
  (⟨"TerminalHouseModel", "used", "()V"⟩, prog_14_method_32_code, 6, (Option.none : Option FieldType)),
  (⟨"TerminalHouseModel", "beginning", "()Z"⟩, prog_14_method_20_code, 5, (Option.some FieldType.boolean)),
  (⟨"TerminalHouseModel", "over", "()Z"⟩, prog_14_method_21_code, 1, (Option.some FieldType.boolean)),
  (⟨"TerminalHouseModel", "fault", "(I)I"⟩, prog_14_method_33_code, 2, (Option.some FieldType.int)),
  (⟨"TerminalHouseModel", "use", "()I"⟩, prog_14_method_36_code, 6, (Option.some FieldType.int)),
  (⟨"TerminalHouseModel", "empty", "()V"⟩, prog_14_method_37_code, 2, (Option.none : Option FieldType)),
  (⟨"TerminalHouseModel", "ability", "()I"⟩, prog_14_method_39_code, 4, (Option.some FieldType.int)),
  (⟨"TerminalHouseModel", "asked", "()I"⟩, prog_14_method_38_code, 3, (Option.some FieldType.int)),
  (⟨"TerminalHouseModel", "has", "(I)Z"⟩, prog_14_method_34_code, 2, (Option.some FieldType.boolean)),
  (⟨"TerminalHouseModel", "expand", "(IIII)I"⟩, prog_14_method_40_code, 7, (Option.some FieldType.int)),
  (⟨"TerminalHouseModel", "puts", "(IIIII)V"⟩, prog_14_method_46_code, 15, (Option.none : Option FieldType)),
  (⟨"TerminalHouseModel", "says", "(I)V"⟩, prog_14_method_41_code, 2, (Option.none : Option FieldType)),
  (⟨"TerminalHouseModel", "push", "(I)V"⟩, prog_14_method_42_code, 2, (Option.none : Option FieldType)),
  (⟨"TerminalHouseModel", "pop", "()I"⟩, prog_14_method_43_code, 1, (Option.some FieldType.int)),
  (⟨"TerminalHouseModel", "decimals", "(IIZ)V"⟩, prog_14_method_44_code, 11, (Option.none : Option FieldType))]
def am_ml19 : List am_M := [(⟨"TerminalHouseModel", "past", "(IIZ)I"⟩, prog_14_method_45_code, 8, (Option.some FieldType.int)),
  (⟨"TerminalHouseModel", "works", "(III)I"⟩, prog_14_method_47_code, 3, (Option.some FieldType.int)),
  (⟨"TerminalHouseModel", "open", "(IIII)I"⟩, prog_14_method_50_code, 8, (Option.some FieldType.int)),
  (⟨"TerminalHouseModel", "close", "(I)Z"⟩, prog_14_method_51_code, 2, (Option.some FieldType.boolean)),
  (⟨"TerminalHouseModel", "is", "(I)Z"⟩, prog_14_method_48_code, 2, (Option.some FieldType.boolean)),
  (⟨"TerminalHouseModel", "at", "(III)Z"⟩, prog_14_method_52_code, 4, (Option.some FieldType.boolean)),
  (⟨"TerminalHouseModel", "dress", "(II)Z"⟩, prog_14_method_53_code, 3, (Option.some FieldType.boolean)),
  (⟨"TerminalHouseModel", "scrolls", "(IZ)Z"⟩, prog_14_method_54_code, 3, (Option.some FieldType.boolean)),
  (⟨"TerminalHouseModel", "say", "(I)I"⟩, prog_14_method_60_code, 8, (Option.some FieldType.int)),
  (⟨"TerminalHouseModel", "letter", "(II)Z"⟩, prog_14_method_59_code, 3, (Option.some FieldType.boolean)),
  (⟨"TerminalHouseModel", "cellAt", "(III)I"⟩, prog_14_method_49_code, 4, (Option.some FieldType.int)),
  (⟨"TerminalHouseModel", "nextRow", "(I)Z"⟩, prog_14_method_58_code, 2, (Option.some FieldType.boolean)),
  (⟨"TerminalHouseModel", "up", "(II)V"⟩, prog_14_method_56_code, 5, (Option.none : Option FieldType)),
  (⟨"TerminalHouseModel", "clears", "(IIII)V"⟩, prog_14_method_55_code, 6, (Option.none : Option FieldType)),
  (⟨"TerminalHouseModel", "erase", "(II)Z"⟩, prog_14_method_61_code, 5, (Option.some FieldType.boolean)),
  (⟨"TerminalHouseModel", "rows", "(II)Z"⟩, prog_14_method_62_code, 5, (Option.some FieldType.boolean))]
def am_ml20 : List am_M := [(⟨"TerminalHouseModel", "down", "(II)V"⟩, prog_14_method_57_code, 5, (Option.none : Option FieldType)),
  (⟨"TerminalHouseModel", "cells", "(II)Z"⟩, prog_14_method_63_code, 9, (Option.some FieldType.boolean)),
  (⟨"TerminalHouseModel", "roll", "(II)Z"⟩, prog_14_method_64_code, 5, (Option.some FieldType.boolean)),
  (⟨"TerminalHouseModel", "box", "(I)Z"⟩, prog_14_method_65_code, 9, (Option.some FieldType.boolean)),
  (⟨"TerminalHouseModel", "look", "(III)I"⟩, prog_14_method_66_code, 4, (Option.some FieldType.int)),
  (⟨"TerminalHouseModel", "where", "(II)I"⟩, prog_14_method_67_code, 3, (Option.some FieldType.int)),
  (⟨"TerminalHouseModel", "show", "(I)I"⟩, prog_14_method_68_code, 7, (Option.some FieldType.int)),
  (⟨"TerminalHouseModel", "redraw", "()Z"⟩, prog_14_method_69_code, 1, (Option.some FieldType.boolean)),
  (⟨"TerminalHouseModel", "known", "(II)I"⟩, prog_14_method_71_code, 3, (Option.some FieldType.int)),
  (⟨"TerminalHouseModel", "onScreen", "(II)Z"⟩, prog_14_method_70_code, 3, (Option.some FieldType.boolean)),
  (⟨"TerminalHouseModel", "wanted", "(II)I"⟩, prog_14_method_72_code, 3, (Option.some FieldType.int)),
  (⟨"TerminalHouseModel", "update", "()I"⟩, prog_14_method_87_code, 2, (Option.some FieldType.int)),
  (⟨"TerminalHouseModel", "typeAll", "(IIII)V"⟩, prog_14_method_75_code, 8, (Option.none : Option FieldType)),
  (⟨"TerminalHouseModel", "bytesOf", "(III)I"⟩, prog_14_method_74_code, 4, (Option.some FieldType.int)),
  (⟨"TerminalHouseModel", "typeByte", "(I)V"⟩, prog_14_method_73_code, 2, (Option.none : Option FieldType)),
  (⟨"TerminalHouseModel", "begins", "()V"⟩, prog_14_method_88_code, 2, (Option.none : Option FieldType))]
def am_ml21 : List am_M := [(⟨"TerminalHouseModel", "rolls", "()V"⟩, prog_14_method_90_code, 8, (Option.none : Option FieldType)),
  (⟨"TerminalHouseModel", "movedCell", "(III)I"⟩, prog_14_method_89_code, 4, (Option.some FieldType.int)),
  (⟨"TerminalHouseModel", "unlike", "(III)Z"⟩, prog_14_method_86_code, 5, (Option.some FieldType.boolean)),
  (⟨"TerminalHouseModel", "offeredOf", "(I)I"⟩, prog_14_method_85_code, 2, (Option.some FieldType.int)),
  (⟨"TerminalHouseModel", "motion", "(II)V"⟩, prog_14_method_82_code, 7, (Option.none : Option FieldType)),
  (⟨"TerminalHouseModel", "undress", "()V"⟩, prog_14_method_83_code, 1, (Option.none : Option FieldType)),
  (⟨"TerminalHouseModel", "way", "(IIIZ)I"⟩, prog_14_method_81_code, 10, (Option.some FieldType.int)),
  (⟨"TerminalHouseModel", "upDown", "(IIZ)I"⟩, prog_14_method_77_code, 7, (Option.some FieldType.int)),
  (⟨"TerminalHouseModel", "eitherOf", "(IIIZ)I"⟩, prog_14_method_78_code, 9, (Option.some FieldType.int)),
  (⟨"TerminalHouseModel", "better", "(II)I"⟩, prog_14_method_76_code, 2, (Option.some FieldType.int)),
  (⟨"TerminalHouseModel", "across", "(IIIZ)I"⟩, prog_14_method_79_code, 13, (Option.some FieldType.int)),
  (⟨"TerminalHouseModel", "tabbed", "(IIZ)I"⟩, prog_14_method_80_code, 9, (Option.some FieldType.int)),
  (⟨"TerminalHouseModel", "numberOf", "(I)I"⟩, prog_14_method_35_code, 2, (Option.some FieldType.int)),
  (⟨"TerminalHouseModel", "updates", "(I)V"⟩, prog_14_method_91_code, 11, (Option.none : Option FieldType)),
  (⟨"TerminalHouseModel", "dresses", "(I)V"⟩, prog_14_method_84_code, 3, (Option.none : Option FieldType)),
  (⟨"TerminalHouseModel", "behind", "(II)V"⟩, prog_14_method_92_code, 4, (Option.none : Option FieldType))]
def am_ml22 : List am_M := [(⟨"TerminalHouseModel", "queue", "(I)I"⟩, prog_14_method_94_code, 2, (Option.some FieldType.int)),
  (⟨"TerminalHouseModel", "flags", "(I)I"⟩, prog_14_method_107_code, 4, (Option.some FieldType.int)),
  (⟨"TerminalHouseModel", "keep", "(I)V"⟩, prog_14_method_103_code, 2, (Option.none : Option FieldType)),
  (⟨"TerminalHouseModel", "write", "()I"⟩, prog_14_method_108_code, 4, (Option.some FieldType.int)),
  (⟨"TerminalHouseModel", "putOne", "(I)I"⟩, prog_14_method_96_code, 5, (Option.some FieldType.int)),
  (⟨"TerminalHouseModel", "moved", "(II)I"⟩, prog_14_method_95_code, 3, (Option.some FieldType.int)),
  (⟨"TerminalHouseModel", "flag", "(I)Z"⟩, prog_14_method_93_code, 2, (Option.some FieldType.boolean)),
  (⟨"TerminalHouseModel", "read", "(I)I"⟩, prog_14_method_109_code, 5, (Option.some FieldType.int)),
  (⟨"TerminalHouseModel", "<init>", "(III)V"⟩, prog_14_method_110_code, 4, (Option.none : Option FieldType)),
  (⟨"TerminalHouseModel", "anew", "()V"⟩, prog_14_method_119_code, 2, (Option.none : Option FieldType)),
  (⟨"TerminalHouseModel", "saves", "()V"⟩, prog_14_method_121_code, 1, (Option.none : Option FieldType)),
  (⟨"TerminalHouseModel", "mode", "(I)Z"⟩, prog_14_method_120_code, 2, (Option.some FieldType.boolean)),
  (⟨"TerminalHouseModel", "spoil", "(I)Z"⟩, prog_14_method_111_code, 2, (Option.some FieldType.boolean)),
  (⟨"TerminalHouseModel", "ticks", "(I)I"⟩, prog_14_method_112_code, 3, (Option.some FieldType.int)),
  (⟨"TerminalHouseModel", "tick", "()V"⟩, prog_14_method_113_code, 3, (Option.none : Option FieldType)),
  (⟨"TerminalHouseModel", "arrives", "(I)V"⟩, prog_14_method_114_code, 2, (Option.none : Option FieldType))]
def am_ml23 : List am_M := [(⟨"TerminalHouseModel", "comes", "(I)V"⟩, prog_14_method_99_code, 3, (Option.none : Option FieldType)),
  (⟨"TerminalHouseModel", "taken", "(I)V"⟩, prog_14_method_104_code, 3, (Option.none : Option FieldType)),
  (⟨"TerminalHouseModel", "echo", "(I)V"⟩, prog_14_method_98_code, 2, (Option.none : Option FieldType)),
  (⟨"TerminalHouseModel", "isPlain", "(I)Z"⟩, prog_14_method_97_code, 1, (Option.some FieldType.boolean)),
  (⟨"TerminalHouseModel", "signal", "()V"⟩, prog_14_method_100_code, 1, (Option.none : Option FieldType)),
  (⟨"TerminalHouseModel", "edits", "(I)V"⟩, prog_14_method_101_code, 3, (Option.none : Option FieldType)),
  (⟨"TerminalHouseModel", "rub", "()V"⟩, prog_14_method_106_code, 4, (Option.none : Option FieldType)),
  (⟨"TerminalHouseModel", "reached", "()I"⟩, prog_14_method_105_code, 4, (Option.some FieldType.int)),
  (⟨"TerminalHouseModel", "ended", "(Z)V"⟩, prog_14_method_102_code, 4, (Option.none : Option FieldType)),
  (⟨"TerminalHouseModel", "scan", "()V"⟩, prog_14_method_151_code, 4, (Option.none : Option FieldType)),
  (⟨"TerminalHouseModel", "isKey", "(I)Z"⟩, prog_14_method_149_code, 1, (Option.some FieldType.boolean)),
  (⟨"TerminalHouseModel", "struck", "(I)V"⟩, prog_14_method_152_code, 5, (Option.none : Option FieldType)),
  (⟨"TerminalHouseModel", "replies", "(I)V"⟩, prog_14_method_116_code, 2, (Option.none : Option FieldType)),
  (⟨"TerminalHouseModel", "answer", "()Z"⟩, prog_14_method_118_code, 3, (Option.some FieldType.boolean)),
  (⟨"TerminalHouseModel", "reads", "(I)V"⟩, prog_14_method_134_code, 2, (Option.none : Option FieldType)),
  (⟨"TerminalHouseModel", "prints", "(I)V"⟩, prog_14_method_131_code, 3, (Option.none : Option FieldType))]
def am_ml24 : List am_M := [(⟨"TerminalHouseModel", "goes", "(II)V"⟩, prog_14_method_123_code, 3, (Option.none : Option FieldType)),
  (⟨"TerminalHouseModel", "last", "(I)I"⟩, prog_14_method_122_code, 2, (Option.some FieldType.int)),
  (⟨"TerminalHouseModel", "index", "()V"⟩, prog_14_method_129_code, 1, (Option.none : Option FieldType)),
  (⟨"TerminalHouseModel", "rollsUp", "(II)V"⟩, prog_14_method_127_code, 4, (Option.none : Option FieldType)),
  (⟨"TerminalHouseModel", "copyRow", "(II)V"⟩, prog_14_method_125_code, 4, (Option.none : Option FieldType)),
  (⟨"TerminalHouseModel", "emptyRow", "(I)V"⟩, prog_14_method_126_code, 2, (Option.none : Option FieldType)),
  (⟨"TerminalHouseModel", "blank", "(III)V"⟩, prog_14_method_124_code, 5, (Option.none : Option FieldType)),
  (⟨"TerminalHouseModel", "control", "(I)V"⟩, prog_14_method_133_code, 3, (Option.none : Option FieldType)),
  (⟨"TerminalHouseModel", "letterSeen", "(I)V"⟩, prog_14_method_132_code, 3, (Option.none : Option FieldType)),
  (⟨"TerminalHouseModel", "escapes", "(I)V"⟩, prog_14_method_135_code, 3, (Option.none : Option FieldType)),
  (⟨"TerminalHouseModel", "widths", "(I)V"⟩, prog_14_method_138_code, 4, (Option.none : Option FieldType)),
  (⟨"TerminalHouseModel", "plainEscape", "(I)V"⟩, prog_14_method_136_code, 2, (Option.none : Option FieldType)),
  (⟨"TerminalHouseModel", "backIndex", "()V"⟩, prog_14_method_130_code, 1, (Option.none : Option FieldType)),
  (⟨"TerminalHouseModel", "rollsDown", "(II)V"⟩, prog_14_method_128_code, 4, (Option.none : Option FieldType)),
  (⟨"TerminalHouseModel", "tells", "()V"⟩, prog_14_method_137_code, 1, (Option.none : Option FieldType)),
  (⟨"TerminalHouseModel", "sequence", "(I)V"⟩, prog_14_method_139_code, 3, (Option.none : Option FieldType))]
def am_ml25 : List am_M := [(⟨"TerminalHouseModel", "privately", "(I)V"⟩, prog_14_method_140_code, 4, (Option.none : Option FieldType)),
  (⟨"TerminalHouseModel", "done", "(I)V"⟩, prog_14_method_141_code, 7, (Option.none : Option FieldType)),
  (⟨"TerminalHouseModel", "rowOf", "(I)I"⟩, prog_14_method_142_code, 2, (Option.some FieldType.int)),
  (⟨"TerminalHouseModel", "erases", "(I)V"⟩, prog_14_method_143_code, 7, (Option.none : Option FieldType)),
  (⟨"TerminalHouseModel", "rowsIn", "(ZI)V"⟩, prog_14_method_144_code, 4, (Option.none : Option FieldType)),
  (⟨"TerminalHouseModel", "cellsIn", "(II)V"⟩, prog_14_method_145_code, 6, (Option.none : Option FieldType)),
  (⟨"TerminalHouseModel", "attribute", "(I)V"⟩, prog_14_method_146_code, 2, (Option.none : Option FieldType)),
  (⟨"TerminalHouseModel", "margins", "(II)V"⟩, prog_14_method_147_code, 3, (Option.none : Option FieldType)),
  (⟨"TerminalHouseModel", "reports", "(I)V"⟩, prog_14_method_148_code, 2, (Option.none : Option FieldType)),
  (⟨"TerminalHouseModel", "decimal", "(I)V"⟩, prog_14_method_117_code, 2, (Option.none : Option FieldType)),
  (⟨"TerminalHouseModel", "answers", "()V"⟩, prog_14_method_115_code, 4, (Option.none : Option FieldType)),
  (⟨"TerminalHouseModel", "key", "(IZ)Z"⟩, prog_14_method_150_code, 3, (Option.some FieldType.boolean)),
  (⟨"TerminalHouseModel", "screen", "(II)I"⟩, prog_14_method_153_code, 3, (Option.some FieldType.int)),
  (⟨"TerminalHouseModel", "width", "(I)I"⟩, prog_14_method_154_code, 2, (Option.some FieldType.int)),
  (⟨"TerminalHouseModel", "state", "(I)I"⟩, prog_14_method_155_code, 2, (Option.some FieldType.int)),
  (⟨"TerminalHouseModel", "count", "(I)I"⟩, prog_14_method_156_code, 4, (Option.some FieldType.int))]
def am_ml26 : List am_M := [(⟨"TerminalHouseModel", "stop", "(II)I"⟩, prog_14_method_157_code, 3, (Option.some FieldType.int))]
def am_ml : List (List am_M) := [am_ml0, am_ml1, am_ml2, am_ml3, am_ml4, am_ml5, am_ml6, am_ml7, am_ml8, am_ml9, am_ml10, am_ml11, am_ml12, am_ml13, am_ml14, am_ml15, am_ml16, am_ml17, am_ml18, am_ml19, am_ml20, am_ml21, am_ml22, am_ml23, am_ml24, am_ml25, am_ml26]
def am_mt (y : Nat) : am_M := if y = 417 then (x, code, 7, ret) else (am_ml.getD (y / 16) []).getD (y % 16) am_m0
abbrev am_Mi : Type := Nat × Nat × Nat × (Nat × Nat) × (Nat × Nat) × (Nat × Nat) × (Nat × Nat)
def am_mi0 : List am_Mi := [(11, 2, 3, (1, 29), (1, 1), (1, 28), (0, 0)), (7, 2, 0, (1, 37), (1, 2), (1, 36), (0, 0)), (2, 2, 0, (1, 44), (1, 3), (1, 43), (0, 0)), (5, 2, 0, (1, 122), (1, 4), (1, 121), (0, 0)), (6, 2, 0, (1, 146), (1, 5), (1, 145), (0, 0)), (9, 2, 0, (1, 152), (1, 6), (1, 151), (0, 0)), (1, 2, 0, (2, 29), (1, 7), (2, 28), (0, 0)), (0, 2, 1, (2, 35), (1, 8), (2, 34), (0, 0)), (4, 2, 0, (2, 87), (1, 10), (2, 86), (0, 0)), (10, 2, 0, (2, 113), (1, 11), (2, 112), (0, 0)), (11, 0, 3, (2, 131), (1, 1), (2, 130), (0, 0)), (8, 2, 2, (2, 136), (1, 12), (2, 135), (0, 0)), (3, 2, 2, (2, 144), (1, 13), (2, 143), (0, 0)), (3, 1, 0, (2, 150), (1, 13), (2, 148), (2, 149)), (14, 0, 4, (2, 153), (1, 14), (2, 152), (0, 0)), (14, 0, 3, (2, 156), (1, 14), (2, 155), (0, 0))]
def am_mi1 : List am_Mi := [(3, 1, 2, (2, 160), (1, 13), (2, 158), (2, 159)), (3, 1, 0, (2, 164), (1, 13), (2, 163), (0, 0)), (3, 1, 0, (2, 168), (1, 13), (2, 166), (2, 167)), (11, 1, 5, (3, 103), (1, 1), (3, 101), (3, 102)), (11, 1, 1, (3, 107), (1, 1), (3, 106), (0, 1)), (11, 1, 1, (3, 111), (1, 1), (3, 109), (3, 110)), (11, 1, 0, (3, 115), (1, 1), (3, 113), (3, 114)), (7, 1, 2, (3, 119), (1, 2), (3, 117), (3, 118)), (7, 1, 0, (3, 123), (1, 2), (3, 122), (0, 2)), (7, 0, 1, (3, 126), (1, 2), (3, 125), (0, 0)), (7, 1, 2, (3, 130), (1, 2), (3, 129), (0, 3)), (7, 1, 0, (3, 134), (1, 2), (3, 133), (0, 4)), (7, 1, 1, (3, 138), (1, 2), (3, 137), (0, 5)), (11, 0, 1, (3, 141), (1, 1), (3, 140), (0, 0)), (7, 1, 0, (3, 145), (1, 2), (3, 144), (0, 6)), (7, 1, 0, (3, 149), (1, 2), (3, 148), (0, 7))]
def am_mi2 : List am_Mi := [(7, 1, 0, (3, 153), (1, 2), (3, 152), (0, 8)), (7, 1, 0, (3, 157), (1, 2), (3, 156), (0, 9)), (11, 0, 1, (3, 160), (1, 1), (3, 159), (0, 0)), (11, 0, 1, (3, 163), (1, 1), (3, 162), (0, 0)), (7, 1, 2, (3, 167), (1, 2), (3, 166), (0, 10)), (7, 1, 0, (3, 171), (1, 2), (3, 170), (0, 11)), (7, 1, 0, (3, 175), (1, 2), (3, 174), (0, 12)), (7, 0, 1, (3, 178), (1, 2), (3, 177), (0, 0)), (7, 1, 4, (3, 182), (1, 2), (3, 181), (0, 13)), (2, 1, 3, (3, 186), (1, 3), (3, 184), (3, 185)), (2, 1, 3, (3, 190), (1, 3), (3, 189), (0, 14)), (7, 1, 0, (3, 194), (1, 2), (3, 193), (0, 15)), (11, 0, 3, (3, 197), (1, 1), (3, 196), (0, 0)), (11, 0, 4, (3, 200), (1, 1), (3, 199), (0, 0)), (7, 0, 1, (4, 4), (1, 2), (4, 3), (0, 0)), (7, 1, 1, (4, 8), (1, 2), (4, 7), (0, 16))]
def am_mi3 : List am_Mi := [(2, 1, 2, (4, 16), (1, 3), (4, 14), (4, 15)), (7, 1, 1, (4, 20), (1, 2), (4, 19), (0, 17)), (7, 1, 0, (4, 24), (1, 2), (4, 23), (0, 18)), (7, 1, 0, (4, 28), (1, 2), (4, 27), (0, 19)), (7, 1, 1, (4, 32), (1, 2), (4, 31), (0, 20)), (7, 0, 1, (4, 35), (1, 2), (4, 34), (0, 0)), (7, 1, 0, (4, 39), (1, 2), (4, 38), (0, 21)), (7, 1, 1, (4, 43), (1, 2), (4, 42), (0, 22)), (7, 1, 0, (4, 47), (1, 2), (4, 46), (0, 23)), (5, 0, 2, (4, 51), (1, 4), (4, 50), (0, 0)), (5, 0, 3, (4, 54), (1, 4), (4, 53), (0, 0)), (2, 1, 4, (4, 58), (1, 3), (4, 56), (4, 57)), (2, 0, 1, (4, 61), (1, 3), (4, 60), (0, 0)), (2, 1, 1, (4, 68), (1, 3), (4, 66), (4, 67)), (7, 1, 0, (4, 72), (1, 2), (4, 71), (0, 24)), (7, 1, 0, (4, 76), (1, 2), (4, 75), (0, 25))]
def am_mi4 : List am_Mi := [(2, 1, 2, (4, 80), (1, 3), (4, 78), (4, 79)), (2, 1, 1, (4, 86), (1, 3), (4, 84), (4, 85)), (7, 1, 0, (4, 91), (1, 2), (4, 90), (0, 26)), (2, 1, 0, (4, 95), (1, 3), (4, 93), (4, 94)), (7, 1, 1, (4, 99), (1, 2), (4, 98), (0, 27)), (2, 1, 3, (4, 103), (1, 3), (4, 101), (4, 102)), (11, 1, 1, (4, 108), (1, 1), (4, 106), (4, 107)), (11, 1, 0, (4, 112), (1, 1), (4, 110), (4, 111)), (7, 1, 2, (4, 116), (1, 2), (4, 114), (4, 115)), (2, 1, 0, (4, 120), (1, 3), (4, 118), (4, 119)), (2, 1, 1, (4, 124), (1, 3), (4, 122), (4, 123)), (11, 1, 0, (4, 128), (1, 1), (4, 127), (0, 28)), (6, 1, 2, (4, 132), (1, 5), (4, 130), (4, 131)), (2, 1, 1, (4, 136), (1, 3), (4, 134), (4, 135)), (9, 1, 4, (4, 141), (1, 6), (4, 139), (4, 140)), (6, 1, 0, (4, 148), (1, 5), (4, 147), (0, 29))]
def am_mi5 : List am_Mi := [(6, 1, 2, (4, 152), (1, 5), (4, 151), (0, 30)), (5, 1, 4, (4, 157), (1, 4), (4, 155), (4, 156)), (5, 1, 2, (4, 161), (1, 4), (4, 159), (4, 160)), (5, 1, 1, (4, 168), (1, 4), (4, 167), (0, 31)), (5, 1, 0, (4, 172), (1, 4), (4, 171), (0, 32)), (5, 0, 4, (4, 175), (1, 4), (4, 174), (0, 0)), (5, 1, 3, (4, 179), (1, 4), (4, 178), (0, 33)), (5, 0, 3, (4, 183), (1, 4), (4, 182), (0, 0)), (5, 1, 1, (4, 188), (1, 4), (4, 187), (0, 34)), (5, 1, 1, (4, 192), (1, 4), (4, 191), (0, 35)), (5, 0, 3, (4, 195), (1, 4), (4, 194), (0, 0)), (11, 1, 0, (4, 199), (1, 1), (4, 197), (4, 198)), (7, 1, 0, (4, 203), (1, 2), (4, 201), (4, 202)), (11, 1, 0, (4, 207), (1, 1), (4, 205), (4, 206)), (11, 1, 4, (4, 217), (1, 1), (4, 215), (4, 216)), (11, 1, 4, (4, 223), (1, 1), (4, 221), (4, 222))]
def am_mi6 : List am_Mi := [(9, 1, 4, (4, 227), (1, 6), (4, 225), (4, 226)), (11, 1, 1, (4, 232), (1, 1), (4, 230), (4, 231)), (11, 1, 1, (4, 236), (1, 1), (4, 235), (0, 36)), (11, 1, 3, (5, 0), (1, 1), (4, 238), (4, 239)), (9, 1, 2, (5, 4), (1, 6), (5, 2), (5, 3)), (11, 1, 2, (5, 8), (1, 1), (5, 6), (5, 7)), (11, 1, 2, (5, 12), (1, 1), (5, 10), (5, 11)), (11, 1, 1, (5, 16), (1, 1), (5, 14), (5, 15)), (11, 1, 1, (5, 20), (1, 1), (5, 19), (0, 37)), (9, 1, 0, (5, 24), (1, 6), (5, 22), (5, 23)), (9, 1, 0, (5, 28), (1, 6), (5, 27), (0, 38)), (9, 1, 2, (5, 32), (1, 6), (5, 30), (5, 31)), (11, 0, 5, (5, 35), (1, 1), (5, 34), (0, 0)), (9, 1, 1, (5, 40), (1, 6), (5, 38), (5, 39)), (11, 0, 1, (5, 43), (1, 1), (5, 42), (0, 0)), (9, 1, 1, (5, 47), (1, 6), (5, 46), (0, 39))]
def am_mi7 : List am_Mi := [(11, 1, 2, (5, 52), (1, 1), (5, 50), (5, 51)), (9, 1, 1, (5, 56), (1, 6), (5, 54), (5, 55)), (11, 1, 2, (5, 60), (1, 1), (5, 58), (5, 59)), (11, 1, 2, (5, 65), (1, 1), (5, 63), (5, 64)), (11, 1, 2, (5, 70), (1, 1), (5, 68), (5, 69)), (11, 1, 1, (5, 76), (1, 1), (5, 74), (5, 75)), (9, 1, 0, (5, 80), (1, 6), (5, 78), (5, 79)), (11, 1, 3, (5, 84), (1, 1), (5, 82), (5, 83)), (9, 1, 2, (5, 88), (1, 6), (5, 86), (5, 87)), (11, 1, 2, (5, 93), (1, 1), (5, 91), (5, 92)), (9, 1, 1, (5, 97), (1, 6), (5, 95), (5, 96)), (11, 1, 1, (5, 101), (1, 1), (5, 99), (5, 100)), (9, 1, 1, (5, 105), (1, 6), (5, 103), (5, 104)), (11, 1, 0, (5, 109), (1, 1), (5, 107), (5, 108)), (0, 1, 0, (5, 113), (1, 8), (5, 111), (5, 112)), (6, 1, 1, (5, 117), (1, 5), (5, 115), (5, 116))]
def am_mi8 : List am_Mi := [(9, 1, 1, (5, 121), (1, 6), (5, 119), (5, 120)), (6, 1, 0, (5, 127), (1, 5), (5, 126), (0, 40)), (6, 1, 4, (5, 131), (1, 5), (5, 130), (0, 41)), (6, 1, 1, (5, 135), (1, 5), (5, 134), (0, 42)), (6, 1, 0, (5, 139), (1, 5), (5, 138), (0, 43)), (6, 1, 0, (5, 143), (1, 5), (5, 142), (0, 44)), (6, 1, 1, (5, 147), (1, 5), (5, 146), (0, 45)), (6, 1, 2, (5, 151), (1, 5), (5, 150), (0, 46)), (6, 1, 1, (5, 155), (1, 5), (5, 154), (0, 47)), (6, 1, 2, (5, 159), (1, 5), (5, 158), (0, 48)), (6, 1, 2, (5, 163), (1, 5), (5, 162), (0, 49)), (6, 1, 2, (5, 167), (1, 5), (5, 166), (0, 50)), (6, 1, 3, (5, 171), (1, 5), (5, 170), (0, 51)), (6, 1, 3, (5, 175), (1, 5), (5, 174), (0, 52)), (6, 1, 2, (5, 179), (1, 5), (5, 178), (0, 53)), (6, 1, 2, (5, 183), (1, 5), (5, 182), (0, 54))]
def am_mi9 : List am_Mi := [(6, 1, 2, (5, 187), (1, 5), (5, 186), (0, 55)), (6, 1, 3, (5, 191), (1, 5), (5, 190), (0, 56)), (6, 1, 3, (5, 196), (1, 5), (5, 195), (0, 57)), (6, 1, 4, (5, 200), (1, 5), (5, 199), (0, 58)), (6, 1, 2, (5, 204), (1, 5), (5, 203), (0, 59)), (6, 1, 3, (5, 208), (1, 5), (5, 207), (0, 60)), (6, 1, 3, (5, 212), (1, 5), (5, 211), (0, 61)), (6, 1, 3, (5, 216), (1, 5), (5, 215), (0, 62)), (6, 1, 1, (5, 221), (1, 5), (5, 220), (0, 63)), (6, 1, 1, (5, 225), (1, 5), (5, 224), (0, 64)), (6, 1, 1, (5, 230), (1, 5), (5, 229), (0, 65)), (6, 1, 1, (5, 234), (1, 5), (5, 233), (0, 66)), (0, 1, 1, (5, 239), (1, 8), (5, 237), (5, 238)), (11, 1, 0, (6, 3), (1, 1), (6, 1), (6, 2)), (11, 1, 2, (6, 7), (1, 1), (6, 5), (6, 6)), (11, 1, 2, (6, 11), (1, 1), (6, 9), (6, 10))]
def am_mi10 : List am_Mi := [(11, 1, 1, (6, 15), (1, 1), (6, 13), (6, 14)), (1, 1, 1, (6, 19), (1, 7), (6, 17), (6, 18)), (1, 1, 1, (6, 23), (1, 7), (6, 22), (0, 67)), (0, 1, 0, (6, 27), (1, 8), (6, 25), (6, 26)), (0, 1, 1, (6, 31), (1, 8), (6, 29), (6, 30)), (0, 1, 0, (6, 36), (1, 8), (6, 34), (6, 35)), (11, 1, 0, (6, 40), (1, 1), (6, 38), (6, 39)), (1, 1, 1, (6, 44), (1, 7), (6, 42), (6, 43)), (1, 1, 1, (6, 48), (1, 7), (6, 47), (0, 68)), (1, 1, 2, (6, 52), (1, 7), (6, 51), (0, 69)), (11, 1, 1, (6, 59), (1, 1), (6, 57), (6, 58)), (1, 1, 2, (6, 64), (1, 7), (6, 62), (6, 63)), (0, 1, 0, (6, 68), (1, 8), (6, 66), (6, 67)), (11, 1, 2, (6, 73), (1, 1), (6, 71), (6, 72)), (4, 1, 2, (6, 77), (1, 10), (6, 75), (6, 76)), (11, 1, 1, (6, 81), (1, 1), (6, 79), (6, 80))]
def am_mi11 : List am_Mi := [(10, 1, 0, (6, 85), (1, 11), (6, 83), (6, 84)), (11, 1, 1, (6, 89), (1, 1), (6, 87), (6, 88)), (10, 1, 1, (6, 94), (1, 11), (6, 92), (6, 93)), (8, 1, 1, (6, 98), (1, 12), (6, 96), (6, 97)), (1, 1, 1, (6, 104), (1, 7), (6, 102), (6, 103)), (1, 1, 1, (6, 108), (1, 7), (6, 107), (0, 70)), (1, 1, 1, (6, 113), (1, 7), (6, 112), (0, 71)), (1, 0, 1, (6, 116), (1, 7), (6, 115), (0, 0)), (1, 1, 0, (6, 120), (1, 7), (6, 119), (0, 72)), (1, 1, 1, (6, 124), (1, 7), (6, 123), (0, 73)), (1, 1, 1, (6, 128), (1, 7), (6, 127), (0, 74)), (0, 1, 0, (6, 132), (1, 8), (6, 130), (6, 131)), (1, 1, 1, (6, 136), (1, 7), (6, 135), (0, 75)), (1, 1, 0, (6, 140), (1, 7), (6, 139), (0, 76)), (1, 1, 0, (6, 144), (1, 7), (6, 143), (0, 77)), (1, 1, 0, (6, 149), (1, 7), (6, 148), (0, 78))]
def am_mi12 : List am_Mi := [(1, 1, 1, (6, 153), (1, 7), (6, 152), (0, 79)), (4, 1, 2, (6, 158), (1, 10), (6, 156), (6, 157)), (4, 1, 1, (6, 162), (1, 10), (6, 161), (0, 80)), (4, 1, 2, (6, 166), (1, 10), (6, 165), (0, 81)), (4, 1, 2, (6, 170), (1, 10), (6, 169), (0, 82)), (3, 1, 1, (6, 174), (1, 13), (6, 172), (6, 173)), (4, 1, 2, (6, 178), (1, 10), (6, 177), (0, 83)), (4, 1, 1, (6, 185), (1, 10), (6, 184), (0, 84)), (4, 0, 1, (6, 188), (1, 10), (6, 187), (0, 0)), (0, 1, 2, (6, 192), (1, 8), (6, 190), (6, 191)), (4, 0, 1, (6, 195), (1, 10), (6, 194), (0, 0)), (8, 1, 0, (6, 199), (1, 12), (6, 197), (6, 198)), (8, 1, 1, (6, 204), (1, 12), (6, 203), (0, 85)), (3, 1, 1, (6, 208), (1, 13), (6, 206), (6, 207)), (3, 1, 0, (6, 213), (1, 13), (6, 211), (6, 212)), (3, 1, 3, (6, 217), (1, 13), (6, 216), (0, 86))]
def am_mi13 : List am_Mi := [(3, 1, 0, (6, 222), (1, 13), (6, 221), (0, 87)), (8, 1, 1, (6, 226), (1, 12), (6, 225), (0, 88)), (3, 1, 0, (6, 231), (1, 13), (6, 229), (6, 230)), (3, 1, 1, (6, 237), (1, 13), (6, 235), (6, 236)), (8, 1, 1, (7, 2), (1, 12), (7, 1), (0, 89)), (8, 1, 1, (7, 6), (1, 12), (7, 5), (0, 90)), (8, 1, 0, (7, 10), (1, 12), (7, 9), (0, 91)), (3, 1, 0, (7, 15), (1, 13), (7, 13), (7, 14)), (3, 1, 2, (7, 19), (1, 13), (7, 17), (7, 18)), (3, 1, 0, (7, 23), (1, 13), (7, 21), (7, 22)), (8, 1, 0, (7, 27), (1, 12), (7, 26), (0, 92)), (8, 1, 1, (7, 34), (1, 12), (7, 33), (0, 93)), (3, 1, 1, (7, 38), (1, 13), (7, 36), (7, 37)), (3, 1, 0, (7, 42), (1, 13), (7, 40), (7, 41)), (8, 1, 2, (7, 46), (1, 12), (7, 45), (0, 94)), (8, 1, 1, (7, 50), (1, 12), (7, 49), (0, 95))]
def am_mi14 : List am_Mi := [(8, 1, 1, (7, 54), (1, 12), (7, 53), (0, 96)), (3, 1, 0, (7, 58), (1, 13), (7, 56), (7, 57)), (8, 1, 1, (7, 62), (1, 12), (7, 61), (0, 97)), (3, 1, 1, (7, 67), (1, 13), (7, 65), (7, 66)), (3, 1, 1, (7, 72), (1, 13), (7, 70), (7, 71)), (3, 1, 2, (7, 77), (1, 13), (7, 75), (7, 76)), (3, 1, 1, (7, 81), (1, 13), (7, 79), (7, 80)), (3, 1, 1, (7, 85), (1, 13), (7, 83), (7, 84)), (3, 1, 1, (7, 90), (1, 13), (7, 88), (7, 89)), (3, 1, 1, (7, 94), (1, 13), (7, 92), (7, 93)), (3, 1, 1, (7, 98), (1, 13), (7, 96), (7, 97)), (3, 1, 2, (7, 102), (1, 13), (7, 100), (7, 101)), (8, 1, 2, (7, 106), (1, 12), (7, 105), (0, 98)), (8, 1, 0, (7, 110), (1, 12), (7, 109), (0, 99)), (8, 1, 0, (7, 114), (1, 12), (7, 113), (0, 100)), (8, 1, 1, (7, 118), (1, 12), (7, 117), (0, 101))]
def am_mi15 : List am_Mi := [(3, 1, 0, (7, 122), (1, 13), (7, 120), (7, 121)), (8, 1, 0, (7, 126), (1, 12), (7, 125), (0, 102)), (8, 1, 0, (7, 130), (1, 12), (7, 129), (0, 103)), (8, 1, 2, (7, 134), (1, 12), (7, 133), (0, 104)), (10, 1, 0, (7, 141), (1, 11), (7, 139), (7, 140)), (8, 1, 0, (7, 145), (1, 12), (7, 143), (7, 144)), (10, 1, 2, (7, 149), (1, 11), (7, 147), (7, 148)), (1, 1, 0, (7, 153), (1, 7), (7, 151), (7, 152)), (11, 1, 2, (7, 157), (1, 1), (7, 155), (7, 156)), (3, 1, 2, (7, 161), (1, 13), (7, 159), (7, 160)), (11, 1, 1, (7, 165), (1, 1), (7, 163), (7, 164)), (11, 1, 1, (7, 169), (1, 1), (7, 167), (7, 168)), (8, 1, 1, (7, 173), (1, 12), (7, 171), (7, 172)), (3, 1, 1, (7, 177), (1, 13), (7, 175), (7, 176)), (11, 1, 1, (7, 181), (1, 1), (7, 179), (7, 180)), (11, 1, 0, (7, 185), (1, 1), (7, 184), (0, 105))]
def am_mi16 : List am_Mi := [(1, 1, 1, (7, 189), (1, 7), (7, 187), (7, 188)), (11, 1, 2, (7, 193), (1, 1), (7, 191), (7, 192)), (13, 0, 2, (7, 196), (1, 0), (7, 195), (0, 0)), (11, 1, 1, (7, 204), (1, 1), (7, 202), (7, 203)), (12, 1, 0, (8, 29), (1, 15), (8, 27), (8, 28)), (12, 1, 5, (8, 33), (1, 15), (8, 31), (8, 32)), (12, 1, 1, (8, 37), (1, 15), (8, 35), (8, 36)), (12, 1, 1, (8, 41), (1, 15), (8, 39), (8, 40)), (12, 1, 0, (8, 45), (1, 15), (8, 43), (8, 44)), (12, 1, 1, (8, 50), (1, 15), (8, 48), (0, 107)), (12, 1, 1, (8, 54), (1, 15), (8, 53), (0, 108)), (12, 0, 1, (8, 57), (1, 15), (8, 56), (0, 0)), (12, 1, 0, (8, 61), (1, 15), (8, 60), (0, 109)), (12, 1, 1, (8, 65), (1, 15), (8, 64), (0, 110)), (12, 1, 2, (8, 69), (1, 15), (8, 68), (0, 111)), (12, 1, 0, (8, 73), (1, 15), (8, 72), (0, 112))]
def am_mi17 : List am_Mi := [(12, 1, 0, (8, 77), (1, 15), (8, 76), (0, 113)), (12, 0, 1, (8, 80), (1, 15), (8, 79), (0, 0)), (12, 0, 1, (8, 83), (1, 15), (8, 82), (0, 0)), (12, 1, 0, (8, 87), (1, 15), (8, 86), (0, 114)), (12, 0, 1, (8, 90), (1, 15), (8, 89), (0, 0)), (12, 1, 0, (8, 94), (1, 15), (8, 93), (0, 115)), (12, 0, 1, (8, 97), (1, 15), (8, 96), (0, 0)), (12, 1, 4, (8, 101), (1, 15), (8, 100), (0, 116)), (12, 1, 4, (8, 105), (1, 15), (8, 104), (0, 117)), (12, 1, 2, (8, 109), (1, 15), (8, 108), (0, 118)), (12, 1, 1, (8, 115), (1, 15), (8, 114), (0, 119)), (12, 1, 1, (8, 126), (1, 15), (8, 125), (0, 120)), (12, 1, 1, (8, 130), (1, 15), (8, 129), (0, 121)), (12, 1, 0, (8, 134), (1, 15), (8, 133), (0, 122)), (12, 1, 1, (8, 138), (1, 15), (8, 137), (0, 123)), (12, 1, 2, (8, 142), (1, 15), (8, 141), (0, 124))]
def am_mi18 : List am_Mi := [(12, 1, 2, (8, 146), (1, 15), (8, 145), (0, 125)), (12, 1, 0, (8, 150), (1, 15), (8, 149), (0, 126)), (12, 1, 0, (8, 154), (1, 15), (8, 153), (0, 127)), (12, 1, 0, (8, 158), (1, 15), (8, 157), (0, 128)), (12, 1, 1, (8, 162), (1, 15), (8, 160), (8, 161)), (12, 1, 0, (8, 166), (1, 15), (8, 164), (8, 165)), (12, 1, 0, (8, 170), (1, 15), (8, 168), (8, 169)), (12, 1, 0, (8, 174), (1, 15), (8, 172), (8, 173)), (12, 1, 0, (8, 178), (1, 15), (8, 177), (0, 129)), (12, 1, 1, (8, 182), (1, 15), (8, 181), (0, 130)), (12, 1, 4, (8, 186), (1, 15), (8, 184), (8, 185)), (12, 1, 5, (8, 190), (1, 15), (8, 189), (0, 131)), (12, 1, 1, (8, 194), (1, 15), (8, 193), (0, 132)), (12, 1, 1, (8, 198), (1, 15), (8, 197), (0, 133)), (12, 1, 0, (8, 202), (1, 15), (8, 201), (0, 134)), (12, 1, 3, (8, 206), (1, 15), (8, 205), (0, 135))]
def am_mi19 : List am_Mi := [(12, 1, 3, (8, 213), (1, 15), (8, 212), (0, 136)), (12, 0, 3, (8, 216), (1, 15), (8, 215), (0, 0)), (12, 1, 4, (8, 220), (1, 15), (8, 218), (8, 219)), (12, 1, 1, (8, 224), (1, 15), (8, 222), (8, 223)), (12, 1, 1, (8, 228), (1, 15), (8, 227), (0, 137)), (12, 1, 3, (8, 232), (1, 15), (8, 230), (8, 231)), (12, 1, 2, (8, 236), (1, 15), (8, 234), (8, 235)), (12, 1, 2, (9, 0), (1, 15), (8, 238), (8, 239)), (12, 1, 1, (9, 4), (1, 15), (9, 2), (9, 3)), (12, 1, 2, (9, 8), (1, 15), (9, 7), (0, 138)), (12, 1, 3, (9, 12), (1, 15), (9, 11), (0, 139)), (12, 1, 1, (9, 16), (1, 15), (9, 15), (0, 140)), (12, 1, 2, (9, 20), (1, 15), (9, 19), (0, 141)), (12, 1, 4, (9, 24), (1, 15), (9, 23), (0, 142)), (12, 1, 2, (9, 30), (1, 15), (9, 28), (9, 29)), (12, 1, 2, (9, 34), (1, 15), (9, 32), (9, 33))]
def am_mi20 : List am_Mi := [(12, 1, 2, (9, 39), (1, 15), (9, 38), (0, 143)), (12, 1, 2, (9, 43), (1, 15), (9, 41), (9, 42)), (12, 1, 2, (9, 48), (1, 15), (9, 46), (9, 47)), (12, 1, 1, (9, 52), (1, 15), (9, 50), (9, 51)), (12, 1, 3, (9, 56), (1, 15), (9, 54), (9, 55)), (12, 1, 2, (9, 60), (1, 15), (9, 58), (9, 59)), (12, 1, 1, (9, 64), (1, 15), (9, 62), (9, 63)), (12, 1, 0, (9, 68), (1, 15), (9, 66), (9, 67)), (12, 1, 2, (9, 72), (1, 15), (9, 70), (9, 71)), (12, 1, 2, (9, 76), (1, 15), (9, 75), (0, 144)), (12, 1, 2, (9, 80), (1, 15), (9, 78), (9, 79)), (12, 1, 0, (9, 84), (1, 15), (9, 82), (9, 83)), (12, 1, 4, (9, 88), (1, 15), (9, 87), (0, 145)), (12, 1, 3, (9, 92), (1, 15), (9, 91), (0, 146)), (12, 1, 1, (9, 96), (1, 15), (9, 95), (0, 147)), (12, 1, 0, (9, 100), (1, 15), (9, 99), (0, 148))]
def am_mi21 : List am_Mi := [(12, 1, 0, (9, 104), (1, 15), (9, 103), (0, 149)), (12, 1, 3, (9, 108), (1, 15), (9, 107), (0, 150)), (12, 1, 3, (9, 112), (1, 15), (9, 111), (0, 151)), (12, 1, 1, (9, 116), (1, 15), (9, 115), (0, 152)), (12, 1, 2, (9, 120), (1, 15), (9, 119), (0, 153)), (12, 1, 0, (9, 124), (1, 15), (9, 123), (0, 154)), (12, 1, 4, (9, 128), (1, 15), (9, 127), (0, 155)), (12, 1, 3, (9, 132), (1, 15), (9, 131), (0, 156)), (12, 1, 4, (9, 139), (1, 15), (9, 138), (0, 157)), (12, 0, 2, (9, 142), (1, 15), (9, 141), (0, 0)), (12, 1, 4, (9, 146), (1, 15), (9, 145), (0, 158)), (12, 1, 3, (9, 150), (1, 15), (9, 149), (0, 159)), (12, 1, 1, (9, 154), (1, 15), (9, 153), (0, 160)), (12, 1, 1, (9, 158), (1, 15), (9, 157), (0, 161)), (12, 1, 1, (9, 162), (1, 15), (9, 161), (0, 162)), (12, 1, 2, (9, 166), (1, 15), (9, 165), (0, 163))]
def am_mi22 : List am_Mi := [(12, 1, 1, (9, 170), (1, 15), (9, 169), (0, 164)), (12, 1, 1, (9, 174), (1, 15), (9, 172), (9, 173)), (12, 1, 1, (9, 178), (1, 15), (9, 177), (0, 165)), (12, 1, 0, (9, 182), (1, 15), (9, 180), (9, 181)), (12, 1, 1, (9, 186), (1, 15), (9, 185), (0, 166)), (12, 1, 2, (9, 190), (1, 15), (9, 189), (0, 167)), (12, 1, 1, (9, 194), (1, 15), (9, 193), (0, 168)), (12, 1, 1, (9, 198), (1, 15), (9, 196), (9, 197)), (12, 2, 3, (9, 202), (1, 15), (9, 201), (0, 0)), (12, 1, 0, (9, 207), (1, 15), (9, 206), (0, 169)), (12, 1, 0, (9, 211), (1, 15), (9, 210), (0, 170)), (12, 1, 1, (9, 215), (1, 15), (9, 214), (0, 171)), (12, 1, 1, (11, 106), (1, 15), (11, 104), (11, 105)), (12, 1, 1, (11, 110), (1, 15), (11, 108), (11, 109)), (12, 1, 0, (11, 115), (1, 15), (11, 114), (0, 172)), (12, 1, 1, (11, 119), (1, 15), (11, 118), (0, 173))]
def am_mi23 : List am_Mi := [(12, 1, 1, (11, 123), (1, 15), (11, 122), (0, 174)), (12, 1, 1, (11, 127), (1, 15), (11, 126), (0, 175)), (12, 1, 1, (11, 131), (1, 15), (11, 130), (0, 176)), (12, 0, 1, (11, 134), (1, 15), (11, 133), (0, 0)), (12, 1, 0, (11, 138), (1, 15), (11, 137), (0, 177)), (12, 1, 1, (11, 142), (1, 15), (11, 141), (0, 178)), (12, 1, 0, (11, 146), (1, 15), (11, 145), (0, 179)), (12, 1, 0, (11, 150), (1, 15), (11, 149), (0, 180)), (12, 1, 1, (11, 154), (1, 15), (11, 153), (0, 181)), (12, 1, 0, (11, 158), (1, 15), (11, 157), (0, 182)), (12, 0, 1, (11, 161), (1, 15), (11, 160), (0, 0)), (12, 1, 1, (11, 165), (1, 15), (11, 164), (0, 183)), (12, 1, 1, (11, 169), (1, 15), (11, 168), (0, 184)), (12, 1, 0, (11, 173), (1, 15), (11, 172), (0, 185)), (12, 1, 1, (11, 177), (1, 15), (11, 176), (0, 186)), (12, 1, 1, (11, 181), (1, 15), (11, 180), (0, 187))]
def am_mi24 : List am_Mi := [(12, 1, 2, (11, 185), (1, 15), (11, 184), (0, 188)), (12, 1, 1, (11, 189), (1, 15), (11, 188), (0, 189)), (12, 1, 0, (11, 193), (1, 15), (11, 192), (0, 190)), (12, 1, 2, (11, 197), (1, 15), (11, 196), (0, 191)), (12, 1, 2, (11, 201), (1, 15), (11, 200), (0, 192)), (12, 1, 1, (11, 205), (1, 15), (11, 204), (0, 193)), (12, 1, 3, (11, 209), (1, 15), (11, 208), (0, 194)), (12, 1, 1, (11, 213), (1, 15), (11, 212), (0, 195)), (12, 1, 1, (11, 217), (1, 15), (11, 216), (0, 196)), (12, 1, 1, (11, 221), (1, 15), (11, 220), (0, 197)), (12, 1, 1, (11, 225), (1, 15), (11, 224), (0, 198)), (12, 1, 1, (11, 229), (1, 15), (11, 228), (0, 199)), (12, 1, 0, (11, 233), (1, 15), (11, 232), (0, 200)), (12, 1, 2, (11, 237), (1, 15), (11, 236), (0, 201)), (12, 1, 0, (12, 1), (1, 15), (12, 0), (0, 202)), (12, 1, 1, (12, 5), (1, 15), (12, 4), (0, 203))]
def am_mi25 : List am_Mi := [(12, 1, 1, (12, 9), (1, 15), (12, 8), (0, 204)), (12, 1, 1, (12, 13), (1, 15), (12, 12), (0, 205)), (12, 1, 1, (12, 17), (1, 15), (12, 16), (0, 206)), (12, 1, 1, (12, 21), (1, 15), (12, 20), (0, 207)), (12, 1, 2, (12, 25), (1, 15), (12, 24), (0, 208)), (12, 1, 2, (12, 29), (1, 15), (12, 28), (0, 209)), (12, 1, 1, (12, 33), (1, 15), (12, 32), (0, 210)), (12, 1, 2, (12, 37), (1, 15), (12, 36), (0, 211)), (12, 1, 1, (12, 41), (1, 15), (12, 40), (0, 212)), (12, 1, 1, (12, 45), (1, 15), (12, 44), (0, 213)), (12, 1, 0, (12, 49), (1, 15), (12, 48), (0, 214)), (12, 1, 2, (12, 53), (1, 15), (12, 51), (12, 52)), (12, 1, 2, (12, 57), (1, 15), (12, 55), (12, 56)), (12, 1, 1, (12, 61), (1, 15), (12, 59), (12, 60)), (12, 1, 1, (12, 65), (1, 15), (12, 63), (12, 64)), (12, 1, 1, (12, 69), (1, 15), (12, 67), (12, 68))]
def am_mi26 : List am_Mi := [(12, 1, 2, (12, 73), (1, 15), (12, 71), (12, 72)), (13, 9, 1, (0, 0), (0, 0), (0, 0), (0, 0))]
def am_mil : List (List am_Mi) := [am_mi0, am_mi1, am_mi2, am_mi3, am_mi4, am_mi5, am_mi6, am_mi7, am_mi8, am_mi9, am_mi10, am_mi11, am_mi12, am_mi13, am_mi14, am_mi15, am_mi16, am_mi17, am_mi18, am_mi19, am_mi20, am_mi21, am_mi22, am_mi23, am_mi24, am_mi25, am_mi26]
def am_mi (y : Nat) : am_Mi := (am_mil.getD (y / 16) []).getD (y % 16) (0, 9, 0, (0, 0), (0, 0), (0, 0), (0, 0))
/-- a method's own words -/
def am_mck (M : am_M) (r : am_Mi) : Bool := if r.2.1 = 9 then true else
  plainName M.1.cls && decide (M.1.cls ≠ "java/lang/invoke/MethodHandle") && decide (M.1.cls ≠ "java/lang/invoke/VarHandle") && decide ((parseMethodDescriptor M.1.desc).map (fun d => d.parameters.length) = some r.2.2.1) &&
  decide (M.1.cls ≠ "") && am_atB r.2.2.2.2.1 (.initialized M.1.cls) &&
  (if r.2.1 = 0 then am_atB r.2.2.2.2.2.1 (.static M.1) else if r.2.1 = 1 then am_atB r.2.2.2.2.2.1 (.instanceMethod M.1) && am_atB r.2.2.2.2.2.2 (.selects M.1.cls M.1 M.1) else decide (M.1.name = "<init>") && decide (M.2.2.2 = none) && am_atB r.2.2.2.2.2.1 (.instanceMethod M.1))
def am_nm : Nat := 418
theorem am_inB {l : List Cond} (hl : l ∈ am_tb) {w : Cond} {j : Nat} (h : l[j]? = some w) (hg : goodWord w = true) : w ∈ am_B := by
  refine List.mem_filter.mpr ⟨?_, hg⟩
  rw [am_tb_eq]
  exact List.mem_flatten.mpr ⟨l, hl, List.mem_of_getElem? h⟩
theorem am_tb_0 : k2_sels lw_privs ∈ am_tb := List.mem_of_getElem? (i := 0) rfl
theorem am_tb_1 : tables_1_1 ∈ am_tb := List.mem_of_getElem? (i := 1) rfl
theorem am_tb_2 : tables_1_2 ∈ am_tb := List.mem_of_getElem? (i := 2) rfl
theorem am_tb_3 : tables_1_3 ∈ am_tb := List.mem_of_getElem? (i := 3) rfl
theorem am_tb_4 : tables_1_4 ∈ am_tb := List.mem_of_getElem? (i := 4) rfl
theorem am_tb_5 : tables_1_5 ∈ am_tb := List.mem_of_getElem? (i := 5) rfl
theorem am_tb_6 : tables_1_6 ∈ am_tb := List.mem_of_getElem? (i := 6) rfl
theorem am_tb_7 : tables_1_7 ∈ am_tb := List.mem_of_getElem? (i := 7) rfl
theorem am_tb_8 : tables_1_8 ∈ am_tb := List.mem_of_getElem? (i := 8) rfl
theorem am_tb_9 : tables_1_9 ∈ am_tb := List.mem_of_getElem? (i := 9) rfl
theorem am_tb_10 : tables_1_10 ∈ am_tb := List.mem_of_getElem? (i := 10) rfl
theorem am_tb_11 : tables_1_11 ∈ am_tb := List.mem_of_getElem? (i := 11) rfl
theorem am_tb_12 : tables_1_12 ∈ am_tb := List.mem_of_getElem? (i := 12) rfl
theorem am_cw0 : ∀ M ∈ am_ml0, Cond.code M.1 M.2.1 M.2.2.1 M.2.2.2 ∈ am_B := List.forall_mem_cons.mpr ⟨am_inB am_tb_1 (j := 29) rfl rfl, List.forall_mem_cons.mpr ⟨am_inB am_tb_1 (j := 37) rfl rfl, List.forall_mem_cons.mpr ⟨am_inB am_tb_1 (j := 44) rfl rfl, List.forall_mem_cons.mpr ⟨am_inB am_tb_1 (j := 122) rfl rfl, List.forall_mem_cons.mpr ⟨am_inB am_tb_1 (j := 146) rfl rfl, List.forall_mem_cons.mpr ⟨am_inB am_tb_1 (j := 152) rfl rfl, List.forall_mem_cons.mpr ⟨am_inB am_tb_2 (j := 29) rfl rfl, List.forall_mem_cons.mpr ⟨am_inB am_tb_2 (j := 35) rfl rfl, List.forall_mem_cons.mpr ⟨am_inB am_tb_2 (j := 87) rfl rfl, List.forall_mem_cons.mpr ⟨am_inB am_tb_2 (j := 113) rfl rfl, List.forall_mem_cons.mpr ⟨am_inB am_tb_2 (j := 131) rfl rfl, List.forall_mem_cons.mpr ⟨am_inB am_tb_2 (j := 136) rfl rfl, List.forall_mem_cons.mpr ⟨am_inB am_tb_2 (j := 144) rfl rfl, List.forall_mem_cons.mpr ⟨am_inB am_tb_2 (j := 150) rfl rfl, List.forall_mem_cons.mpr ⟨am_inB am_tb_2 (j := 153) rfl rfl, List.forall_mem_cons.mpr ⟨am_inB am_tb_2 (j := 156) rfl rfl, fun _ h => absurd h List.not_mem_nil⟩⟩⟩⟩⟩⟩⟩⟩⟩⟩⟩⟩⟩⟩⟩⟩
theorem am_cw1 : ∀ M ∈ am_ml1, Cond.code M.1 M.2.1 M.2.2.1 M.2.2.2 ∈ am_B := List.forall_mem_cons.mpr ⟨am_inB am_tb_2 (j := 160) rfl rfl, List.forall_mem_cons.mpr ⟨am_inB am_tb_2 (j := 164) rfl rfl, List.forall_mem_cons.mpr ⟨am_inB am_tb_2 (j := 168) rfl rfl, List.forall_mem_cons.mpr ⟨am_inB am_tb_3 (j := 103) rfl rfl, List.forall_mem_cons.mpr ⟨am_inB am_tb_3 (j := 107) rfl rfl, List.forall_mem_cons.mpr ⟨am_inB am_tb_3 (j := 111) rfl rfl, List.forall_mem_cons.mpr ⟨am_inB am_tb_3 (j := 115) rfl rfl, List.forall_mem_cons.mpr ⟨am_inB am_tb_3 (j := 119) rfl rfl, List.forall_mem_cons.mpr ⟨am_inB am_tb_3 (j := 123) rfl rfl, List.forall_mem_cons.mpr ⟨am_inB am_tb_3 (j := 126) rfl rfl, List.forall_mem_cons.mpr ⟨am_inB am_tb_3 (j := 130) rfl rfl, List.forall_mem_cons.mpr ⟨am_inB am_tb_3 (j := 134) rfl rfl, List.forall_mem_cons.mpr ⟨am_inB am_tb_3 (j := 138) rfl rfl, List.forall_mem_cons.mpr ⟨am_inB am_tb_3 (j := 141) rfl rfl, List.forall_mem_cons.mpr ⟨am_inB am_tb_3 (j := 145) rfl rfl, List.forall_mem_cons.mpr ⟨am_inB am_tb_3 (j := 149) rfl rfl, fun _ h => absurd h List.not_mem_nil⟩⟩⟩⟩⟩⟩⟩⟩⟩⟩⟩⟩⟩⟩⟩⟩
theorem am_cw2 : ∀ M ∈ am_ml2, Cond.code M.1 M.2.1 M.2.2.1 M.2.2.2 ∈ am_B := List.forall_mem_cons.mpr ⟨am_inB am_tb_3 (j := 153) rfl rfl, List.forall_mem_cons.mpr ⟨am_inB am_tb_3 (j := 157) rfl rfl, List.forall_mem_cons.mpr ⟨am_inB am_tb_3 (j := 160) rfl rfl, List.forall_mem_cons.mpr ⟨am_inB am_tb_3 (j := 163) rfl rfl, List.forall_mem_cons.mpr ⟨am_inB am_tb_3 (j := 167) rfl rfl, List.forall_mem_cons.mpr ⟨am_inB am_tb_3 (j := 171) rfl rfl, List.forall_mem_cons.mpr ⟨am_inB am_tb_3 (j := 175) rfl rfl, List.forall_mem_cons.mpr ⟨am_inB am_tb_3 (j := 178) rfl rfl, List.forall_mem_cons.mpr ⟨am_inB am_tb_3 (j := 182) rfl rfl, List.forall_mem_cons.mpr ⟨am_inB am_tb_3 (j := 186) rfl rfl, List.forall_mem_cons.mpr ⟨am_inB am_tb_3 (j := 190) rfl rfl, List.forall_mem_cons.mpr ⟨am_inB am_tb_3 (j := 194) rfl rfl, List.forall_mem_cons.mpr ⟨am_inB am_tb_3 (j := 197) rfl rfl, List.forall_mem_cons.mpr ⟨am_inB am_tb_3 (j := 200) rfl rfl, List.forall_mem_cons.mpr ⟨am_inB am_tb_4 (j := 4) rfl rfl, List.forall_mem_cons.mpr ⟨am_inB am_tb_4 (j := 8) rfl rfl, fun _ h => absurd h List.not_mem_nil⟩⟩⟩⟩⟩⟩⟩⟩⟩⟩⟩⟩⟩⟩⟩⟩
theorem am_cw3 : ∀ M ∈ am_ml3, Cond.code M.1 M.2.1 M.2.2.1 M.2.2.2 ∈ am_B := List.forall_mem_cons.mpr ⟨am_inB am_tb_4 (j := 16) rfl rfl, List.forall_mem_cons.mpr ⟨am_inB am_tb_4 (j := 20) rfl rfl, List.forall_mem_cons.mpr ⟨am_inB am_tb_4 (j := 24) rfl rfl, List.forall_mem_cons.mpr ⟨am_inB am_tb_4 (j := 28) rfl rfl, List.forall_mem_cons.mpr ⟨am_inB am_tb_4 (j := 32) rfl rfl, List.forall_mem_cons.mpr ⟨am_inB am_tb_4 (j := 35) rfl rfl, List.forall_mem_cons.mpr ⟨am_inB am_tb_4 (j := 39) rfl rfl, List.forall_mem_cons.mpr ⟨am_inB am_tb_4 (j := 43) rfl rfl, List.forall_mem_cons.mpr ⟨am_inB am_tb_4 (j := 47) rfl rfl, List.forall_mem_cons.mpr ⟨am_inB am_tb_4 (j := 51) rfl rfl, List.forall_mem_cons.mpr ⟨am_inB am_tb_4 (j := 54) rfl rfl, List.forall_mem_cons.mpr ⟨am_inB am_tb_4 (j := 58) rfl rfl, List.forall_mem_cons.mpr ⟨am_inB am_tb_4 (j := 61) rfl rfl, List.forall_mem_cons.mpr ⟨am_inB am_tb_4 (j := 68) rfl rfl, List.forall_mem_cons.mpr ⟨am_inB am_tb_4 (j := 72) rfl rfl, List.forall_mem_cons.mpr ⟨am_inB am_tb_4 (j := 76) rfl rfl, fun _ h => absurd h List.not_mem_nil⟩⟩⟩⟩⟩⟩⟩⟩⟩⟩⟩⟩⟩⟩⟩⟩
theorem am_cw4 : ∀ M ∈ am_ml4, Cond.code M.1 M.2.1 M.2.2.1 M.2.2.2 ∈ am_B := List.forall_mem_cons.mpr ⟨am_inB am_tb_4 (j := 80) rfl rfl, List.forall_mem_cons.mpr ⟨am_inB am_tb_4 (j := 86) rfl rfl, List.forall_mem_cons.mpr ⟨am_inB am_tb_4 (j := 91) rfl rfl, List.forall_mem_cons.mpr ⟨am_inB am_tb_4 (j := 95) rfl rfl, List.forall_mem_cons.mpr ⟨am_inB am_tb_4 (j := 99) rfl rfl, List.forall_mem_cons.mpr ⟨am_inB am_tb_4 (j := 103) rfl rfl, List.forall_mem_cons.mpr ⟨am_inB am_tb_4 (j := 108) rfl rfl, List.forall_mem_cons.mpr ⟨am_inB am_tb_4 (j := 112) rfl rfl, List.forall_mem_cons.mpr ⟨am_inB am_tb_4 (j := 116) rfl rfl, List.forall_mem_cons.mpr ⟨am_inB am_tb_4 (j := 120) rfl rfl, List.forall_mem_cons.mpr ⟨am_inB am_tb_4 (j := 124) rfl rfl, List.forall_mem_cons.mpr ⟨am_inB am_tb_4 (j := 128) rfl rfl, List.forall_mem_cons.mpr ⟨am_inB am_tb_4 (j := 132) rfl rfl, List.forall_mem_cons.mpr ⟨am_inB am_tb_4 (j := 136) rfl rfl, List.forall_mem_cons.mpr ⟨am_inB am_tb_4 (j := 141) rfl rfl, List.forall_mem_cons.mpr ⟨am_inB am_tb_4 (j := 148) rfl rfl, fun _ h => absurd h List.not_mem_nil⟩⟩⟩⟩⟩⟩⟩⟩⟩⟩⟩⟩⟩⟩⟩⟩
theorem am_cw5 : ∀ M ∈ am_ml5, Cond.code M.1 M.2.1 M.2.2.1 M.2.2.2 ∈ am_B := List.forall_mem_cons.mpr ⟨am_inB am_tb_4 (j := 152) rfl rfl, List.forall_mem_cons.mpr ⟨am_inB am_tb_4 (j := 157) rfl rfl, List.forall_mem_cons.mpr ⟨am_inB am_tb_4 (j := 161) rfl rfl, List.forall_mem_cons.mpr ⟨am_inB am_tb_4 (j := 168) rfl rfl, List.forall_mem_cons.mpr ⟨am_inB am_tb_4 (j := 172) rfl rfl, List.forall_mem_cons.mpr ⟨am_inB am_tb_4 (j := 175) rfl rfl, List.forall_mem_cons.mpr ⟨am_inB am_tb_4 (j := 179) rfl rfl, List.forall_mem_cons.mpr ⟨am_inB am_tb_4 (j := 183) rfl rfl, List.forall_mem_cons.mpr ⟨am_inB am_tb_4 (j := 188) rfl rfl, List.forall_mem_cons.mpr ⟨am_inB am_tb_4 (j := 192) rfl rfl, List.forall_mem_cons.mpr ⟨am_inB am_tb_4 (j := 195) rfl rfl, List.forall_mem_cons.mpr ⟨am_inB am_tb_4 (j := 199) rfl rfl, List.forall_mem_cons.mpr ⟨am_inB am_tb_4 (j := 203) rfl rfl, List.forall_mem_cons.mpr ⟨am_inB am_tb_4 (j := 207) rfl rfl, List.forall_mem_cons.mpr ⟨am_inB am_tb_4 (j := 217) rfl rfl, List.forall_mem_cons.mpr ⟨am_inB am_tb_4 (j := 223) rfl rfl, fun _ h => absurd h List.not_mem_nil⟩⟩⟩⟩⟩⟩⟩⟩⟩⟩⟩⟩⟩⟩⟩⟩
theorem am_cw6 : ∀ M ∈ am_ml6, Cond.code M.1 M.2.1 M.2.2.1 M.2.2.2 ∈ am_B := List.forall_mem_cons.mpr ⟨am_inB am_tb_4 (j := 227) rfl rfl, List.forall_mem_cons.mpr ⟨am_inB am_tb_4 (j := 232) rfl rfl, List.forall_mem_cons.mpr ⟨am_inB am_tb_4 (j := 236) rfl rfl, List.forall_mem_cons.mpr ⟨am_inB am_tb_5 (j := 0) rfl rfl, List.forall_mem_cons.mpr ⟨am_inB am_tb_5 (j := 4) rfl rfl, List.forall_mem_cons.mpr ⟨am_inB am_tb_5 (j := 8) rfl rfl, List.forall_mem_cons.mpr ⟨am_inB am_tb_5 (j := 12) rfl rfl, List.forall_mem_cons.mpr ⟨am_inB am_tb_5 (j := 16) rfl rfl, List.forall_mem_cons.mpr ⟨am_inB am_tb_5 (j := 20) rfl rfl, List.forall_mem_cons.mpr ⟨am_inB am_tb_5 (j := 24) rfl rfl, List.forall_mem_cons.mpr ⟨am_inB am_tb_5 (j := 28) rfl rfl, List.forall_mem_cons.mpr ⟨am_inB am_tb_5 (j := 32) rfl rfl, List.forall_mem_cons.mpr ⟨am_inB am_tb_5 (j := 35) rfl rfl, List.forall_mem_cons.mpr ⟨am_inB am_tb_5 (j := 40) rfl rfl, List.forall_mem_cons.mpr ⟨am_inB am_tb_5 (j := 43) rfl rfl, List.forall_mem_cons.mpr ⟨am_inB am_tb_5 (j := 47) rfl rfl, fun _ h => absurd h List.not_mem_nil⟩⟩⟩⟩⟩⟩⟩⟩⟩⟩⟩⟩⟩⟩⟩⟩
theorem am_cw7 : ∀ M ∈ am_ml7, Cond.code M.1 M.2.1 M.2.2.1 M.2.2.2 ∈ am_B := List.forall_mem_cons.mpr ⟨am_inB am_tb_5 (j := 52) rfl rfl, List.forall_mem_cons.mpr ⟨am_inB am_tb_5 (j := 56) rfl rfl, List.forall_mem_cons.mpr ⟨am_inB am_tb_5 (j := 60) rfl rfl, List.forall_mem_cons.mpr ⟨am_inB am_tb_5 (j := 65) rfl rfl, List.forall_mem_cons.mpr ⟨am_inB am_tb_5 (j := 70) rfl rfl, List.forall_mem_cons.mpr ⟨am_inB am_tb_5 (j := 76) rfl rfl, List.forall_mem_cons.mpr ⟨am_inB am_tb_5 (j := 80) rfl rfl, List.forall_mem_cons.mpr ⟨am_inB am_tb_5 (j := 84) rfl rfl, List.forall_mem_cons.mpr ⟨am_inB am_tb_5 (j := 88) rfl rfl, List.forall_mem_cons.mpr ⟨am_inB am_tb_5 (j := 93) rfl rfl, List.forall_mem_cons.mpr ⟨am_inB am_tb_5 (j := 97) rfl rfl, List.forall_mem_cons.mpr ⟨am_inB am_tb_5 (j := 101) rfl rfl, List.forall_mem_cons.mpr ⟨am_inB am_tb_5 (j := 105) rfl rfl, List.forall_mem_cons.mpr ⟨am_inB am_tb_5 (j := 109) rfl rfl, List.forall_mem_cons.mpr ⟨am_inB am_tb_5 (j := 113) rfl rfl, List.forall_mem_cons.mpr ⟨am_inB am_tb_5 (j := 117) rfl rfl, fun _ h => absurd h List.not_mem_nil⟩⟩⟩⟩⟩⟩⟩⟩⟩⟩⟩⟩⟩⟩⟩⟩
theorem am_cw8 : ∀ M ∈ am_ml8, Cond.code M.1 M.2.1 M.2.2.1 M.2.2.2 ∈ am_B := List.forall_mem_cons.mpr ⟨am_inB am_tb_5 (j := 121) rfl rfl, List.forall_mem_cons.mpr ⟨am_inB am_tb_5 (j := 127) rfl rfl, List.forall_mem_cons.mpr ⟨am_inB am_tb_5 (j := 131) rfl rfl, List.forall_mem_cons.mpr ⟨am_inB am_tb_5 (j := 135) rfl rfl, List.forall_mem_cons.mpr ⟨am_inB am_tb_5 (j := 139) rfl rfl, List.forall_mem_cons.mpr ⟨am_inB am_tb_5 (j := 143) rfl rfl, List.forall_mem_cons.mpr ⟨am_inB am_tb_5 (j := 147) rfl rfl, List.forall_mem_cons.mpr ⟨am_inB am_tb_5 (j := 151) rfl rfl, List.forall_mem_cons.mpr ⟨am_inB am_tb_5 (j := 155) rfl rfl, List.forall_mem_cons.mpr ⟨am_inB am_tb_5 (j := 159) rfl rfl, List.forall_mem_cons.mpr ⟨am_inB am_tb_5 (j := 163) rfl rfl, List.forall_mem_cons.mpr ⟨am_inB am_tb_5 (j := 167) rfl rfl, List.forall_mem_cons.mpr ⟨am_inB am_tb_5 (j := 171) rfl rfl, List.forall_mem_cons.mpr ⟨am_inB am_tb_5 (j := 175) rfl rfl, List.forall_mem_cons.mpr ⟨am_inB am_tb_5 (j := 179) rfl rfl, List.forall_mem_cons.mpr ⟨am_inB am_tb_5 (j := 183) rfl rfl, fun _ h => absurd h List.not_mem_nil⟩⟩⟩⟩⟩⟩⟩⟩⟩⟩⟩⟩⟩⟩⟩⟩
theorem am_cw9 : ∀ M ∈ am_ml9, Cond.code M.1 M.2.1 M.2.2.1 M.2.2.2 ∈ am_B := List.forall_mem_cons.mpr ⟨am_inB am_tb_5 (j := 187) rfl rfl, List.forall_mem_cons.mpr ⟨am_inB am_tb_5 (j := 191) rfl rfl, List.forall_mem_cons.mpr ⟨am_inB am_tb_5 (j := 196) rfl rfl, List.forall_mem_cons.mpr ⟨am_inB am_tb_5 (j := 200) rfl rfl, List.forall_mem_cons.mpr ⟨am_inB am_tb_5 (j := 204) rfl rfl, List.forall_mem_cons.mpr ⟨am_inB am_tb_5 (j := 208) rfl rfl, List.forall_mem_cons.mpr ⟨am_inB am_tb_5 (j := 212) rfl rfl, List.forall_mem_cons.mpr ⟨am_inB am_tb_5 (j := 216) rfl rfl, List.forall_mem_cons.mpr ⟨am_inB am_tb_5 (j := 221) rfl rfl, List.forall_mem_cons.mpr ⟨am_inB am_tb_5 (j := 225) rfl rfl, List.forall_mem_cons.mpr ⟨am_inB am_tb_5 (j := 230) rfl rfl, List.forall_mem_cons.mpr ⟨am_inB am_tb_5 (j := 234) rfl rfl, List.forall_mem_cons.mpr ⟨am_inB am_tb_5 (j := 239) rfl rfl, List.forall_mem_cons.mpr ⟨am_inB am_tb_6 (j := 3) rfl rfl, List.forall_mem_cons.mpr ⟨am_inB am_tb_6 (j := 7) rfl rfl, List.forall_mem_cons.mpr ⟨am_inB am_tb_6 (j := 11) rfl rfl, fun _ h => absurd h List.not_mem_nil⟩⟩⟩⟩⟩⟩⟩⟩⟩⟩⟩⟩⟩⟩⟩⟩
theorem am_cw10 : ∀ M ∈ am_ml10, Cond.code M.1 M.2.1 M.2.2.1 M.2.2.2 ∈ am_B := List.forall_mem_cons.mpr ⟨am_inB am_tb_6 (j := 15) rfl rfl, List.forall_mem_cons.mpr ⟨am_inB am_tb_6 (j := 19) rfl rfl, List.forall_mem_cons.mpr ⟨am_inB am_tb_6 (j := 23) rfl rfl, List.forall_mem_cons.mpr ⟨am_inB am_tb_6 (j := 27) rfl rfl, List.forall_mem_cons.mpr ⟨am_inB am_tb_6 (j := 31) rfl rfl, List.forall_mem_cons.mpr ⟨am_inB am_tb_6 (j := 36) rfl rfl, List.forall_mem_cons.mpr ⟨am_inB am_tb_6 (j := 40) rfl rfl, List.forall_mem_cons.mpr ⟨am_inB am_tb_6 (j := 44) rfl rfl, List.forall_mem_cons.mpr ⟨am_inB am_tb_6 (j := 48) rfl rfl, List.forall_mem_cons.mpr ⟨am_inB am_tb_6 (j := 52) rfl rfl, List.forall_mem_cons.mpr ⟨am_inB am_tb_6 (j := 59) rfl rfl, List.forall_mem_cons.mpr ⟨am_inB am_tb_6 (j := 64) rfl rfl, List.forall_mem_cons.mpr ⟨am_inB am_tb_6 (j := 68) rfl rfl, List.forall_mem_cons.mpr ⟨am_inB am_tb_6 (j := 73) rfl rfl, List.forall_mem_cons.mpr ⟨am_inB am_tb_6 (j := 77) rfl rfl, List.forall_mem_cons.mpr ⟨am_inB am_tb_6 (j := 81) rfl rfl, fun _ h => absurd h List.not_mem_nil⟩⟩⟩⟩⟩⟩⟩⟩⟩⟩⟩⟩⟩⟩⟩⟩
theorem am_cw11 : ∀ M ∈ am_ml11, Cond.code M.1 M.2.1 M.2.2.1 M.2.2.2 ∈ am_B := List.forall_mem_cons.mpr ⟨am_inB am_tb_6 (j := 85) rfl rfl, List.forall_mem_cons.mpr ⟨am_inB am_tb_6 (j := 89) rfl rfl, List.forall_mem_cons.mpr ⟨am_inB am_tb_6 (j := 94) rfl rfl, List.forall_mem_cons.mpr ⟨am_inB am_tb_6 (j := 98) rfl rfl, List.forall_mem_cons.mpr ⟨am_inB am_tb_6 (j := 104) rfl rfl, List.forall_mem_cons.mpr ⟨am_inB am_tb_6 (j := 108) rfl rfl, List.forall_mem_cons.mpr ⟨am_inB am_tb_6 (j := 113) rfl rfl, List.forall_mem_cons.mpr ⟨am_inB am_tb_6 (j := 116) rfl rfl, List.forall_mem_cons.mpr ⟨am_inB am_tb_6 (j := 120) rfl rfl, List.forall_mem_cons.mpr ⟨am_inB am_tb_6 (j := 124) rfl rfl, List.forall_mem_cons.mpr ⟨am_inB am_tb_6 (j := 128) rfl rfl, List.forall_mem_cons.mpr ⟨am_inB am_tb_6 (j := 132) rfl rfl, List.forall_mem_cons.mpr ⟨am_inB am_tb_6 (j := 136) rfl rfl, List.forall_mem_cons.mpr ⟨am_inB am_tb_6 (j := 140) rfl rfl, List.forall_mem_cons.mpr ⟨am_inB am_tb_6 (j := 144) rfl rfl, List.forall_mem_cons.mpr ⟨am_inB am_tb_6 (j := 149) rfl rfl, fun _ h => absurd h List.not_mem_nil⟩⟩⟩⟩⟩⟩⟩⟩⟩⟩⟩⟩⟩⟩⟩⟩
theorem am_cw12 : ∀ M ∈ am_ml12, Cond.code M.1 M.2.1 M.2.2.1 M.2.2.2 ∈ am_B := List.forall_mem_cons.mpr ⟨am_inB am_tb_6 (j := 153) rfl rfl, List.forall_mem_cons.mpr ⟨am_inB am_tb_6 (j := 158) rfl rfl, List.forall_mem_cons.mpr ⟨am_inB am_tb_6 (j := 162) rfl rfl, List.forall_mem_cons.mpr ⟨am_inB am_tb_6 (j := 166) rfl rfl, List.forall_mem_cons.mpr ⟨am_inB am_tb_6 (j := 170) rfl rfl, List.forall_mem_cons.mpr ⟨am_inB am_tb_6 (j := 174) rfl rfl, List.forall_mem_cons.mpr ⟨am_inB am_tb_6 (j := 178) rfl rfl, List.forall_mem_cons.mpr ⟨am_inB am_tb_6 (j := 185) rfl rfl, List.forall_mem_cons.mpr ⟨am_inB am_tb_6 (j := 188) rfl rfl, List.forall_mem_cons.mpr ⟨am_inB am_tb_6 (j := 192) rfl rfl, List.forall_mem_cons.mpr ⟨am_inB am_tb_6 (j := 195) rfl rfl, List.forall_mem_cons.mpr ⟨am_inB am_tb_6 (j := 199) rfl rfl, List.forall_mem_cons.mpr ⟨am_inB am_tb_6 (j := 204) rfl rfl, List.forall_mem_cons.mpr ⟨am_inB am_tb_6 (j := 208) rfl rfl, List.forall_mem_cons.mpr ⟨am_inB am_tb_6 (j := 213) rfl rfl, List.forall_mem_cons.mpr ⟨am_inB am_tb_6 (j := 217) rfl rfl, fun _ h => absurd h List.not_mem_nil⟩⟩⟩⟩⟩⟩⟩⟩⟩⟩⟩⟩⟩⟩⟩⟩
theorem am_cw13 : ∀ M ∈ am_ml13, Cond.code M.1 M.2.1 M.2.2.1 M.2.2.2 ∈ am_B := List.forall_mem_cons.mpr ⟨am_inB am_tb_6 (j := 222) rfl rfl, List.forall_mem_cons.mpr ⟨am_inB am_tb_6 (j := 226) rfl rfl, List.forall_mem_cons.mpr ⟨am_inB am_tb_6 (j := 231) rfl rfl, List.forall_mem_cons.mpr ⟨am_inB am_tb_6 (j := 237) rfl rfl, List.forall_mem_cons.mpr ⟨am_inB am_tb_7 (j := 2) rfl rfl, List.forall_mem_cons.mpr ⟨am_inB am_tb_7 (j := 6) rfl rfl, List.forall_mem_cons.mpr ⟨am_inB am_tb_7 (j := 10) rfl rfl, List.forall_mem_cons.mpr ⟨am_inB am_tb_7 (j := 15) rfl rfl, List.forall_mem_cons.mpr ⟨am_inB am_tb_7 (j := 19) rfl rfl, List.forall_mem_cons.mpr ⟨am_inB am_tb_7 (j := 23) rfl rfl, List.forall_mem_cons.mpr ⟨am_inB am_tb_7 (j := 27) rfl rfl, List.forall_mem_cons.mpr ⟨am_inB am_tb_7 (j := 34) rfl rfl, List.forall_mem_cons.mpr ⟨am_inB am_tb_7 (j := 38) rfl rfl, List.forall_mem_cons.mpr ⟨am_inB am_tb_7 (j := 42) rfl rfl, List.forall_mem_cons.mpr ⟨am_inB am_tb_7 (j := 46) rfl rfl, List.forall_mem_cons.mpr ⟨am_inB am_tb_7 (j := 50) rfl rfl, fun _ h => absurd h List.not_mem_nil⟩⟩⟩⟩⟩⟩⟩⟩⟩⟩⟩⟩⟩⟩⟩⟩
theorem am_cw14 : ∀ M ∈ am_ml14, Cond.code M.1 M.2.1 M.2.2.1 M.2.2.2 ∈ am_B := List.forall_mem_cons.mpr ⟨am_inB am_tb_7 (j := 54) rfl rfl, List.forall_mem_cons.mpr ⟨am_inB am_tb_7 (j := 58) rfl rfl, List.forall_mem_cons.mpr ⟨am_inB am_tb_7 (j := 62) rfl rfl, List.forall_mem_cons.mpr ⟨am_inB am_tb_7 (j := 67) rfl rfl, List.forall_mem_cons.mpr ⟨am_inB am_tb_7 (j := 72) rfl rfl, List.forall_mem_cons.mpr ⟨am_inB am_tb_7 (j := 77) rfl rfl, List.forall_mem_cons.mpr ⟨am_inB am_tb_7 (j := 81) rfl rfl, List.forall_mem_cons.mpr ⟨am_inB am_tb_7 (j := 85) rfl rfl, List.forall_mem_cons.mpr ⟨am_inB am_tb_7 (j := 90) rfl rfl, List.forall_mem_cons.mpr ⟨am_inB am_tb_7 (j := 94) rfl rfl, List.forall_mem_cons.mpr ⟨am_inB am_tb_7 (j := 98) rfl rfl, List.forall_mem_cons.mpr ⟨am_inB am_tb_7 (j := 102) rfl rfl, List.forall_mem_cons.mpr ⟨am_inB am_tb_7 (j := 106) rfl rfl, List.forall_mem_cons.mpr ⟨am_inB am_tb_7 (j := 110) rfl rfl, List.forall_mem_cons.mpr ⟨am_inB am_tb_7 (j := 114) rfl rfl, List.forall_mem_cons.mpr ⟨am_inB am_tb_7 (j := 118) rfl rfl, fun _ h => absurd h List.not_mem_nil⟩⟩⟩⟩⟩⟩⟩⟩⟩⟩⟩⟩⟩⟩⟩⟩
theorem am_cw15 : ∀ M ∈ am_ml15, Cond.code M.1 M.2.1 M.2.2.1 M.2.2.2 ∈ am_B := List.forall_mem_cons.mpr ⟨am_inB am_tb_7 (j := 122) rfl rfl, List.forall_mem_cons.mpr ⟨am_inB am_tb_7 (j := 126) rfl rfl, List.forall_mem_cons.mpr ⟨am_inB am_tb_7 (j := 130) rfl rfl, List.forall_mem_cons.mpr ⟨am_inB am_tb_7 (j := 134) rfl rfl, List.forall_mem_cons.mpr ⟨am_inB am_tb_7 (j := 141) rfl rfl, List.forall_mem_cons.mpr ⟨am_inB am_tb_7 (j := 145) rfl rfl, List.forall_mem_cons.mpr ⟨am_inB am_tb_7 (j := 149) rfl rfl, List.forall_mem_cons.mpr ⟨am_inB am_tb_7 (j := 153) rfl rfl, List.forall_mem_cons.mpr ⟨am_inB am_tb_7 (j := 157) rfl rfl, List.forall_mem_cons.mpr ⟨am_inB am_tb_7 (j := 161) rfl rfl, List.forall_mem_cons.mpr ⟨am_inB am_tb_7 (j := 165) rfl rfl, List.forall_mem_cons.mpr ⟨am_inB am_tb_7 (j := 169) rfl rfl, List.forall_mem_cons.mpr ⟨am_inB am_tb_7 (j := 173) rfl rfl, List.forall_mem_cons.mpr ⟨am_inB am_tb_7 (j := 177) rfl rfl, List.forall_mem_cons.mpr ⟨am_inB am_tb_7 (j := 181) rfl rfl, List.forall_mem_cons.mpr ⟨am_inB am_tb_7 (j := 185) rfl rfl, fun _ h => absurd h List.not_mem_nil⟩⟩⟩⟩⟩⟩⟩⟩⟩⟩⟩⟩⟩⟩⟩⟩
theorem am_cw16 : ∀ M ∈ am_ml16, Cond.code M.1 M.2.1 M.2.2.1 M.2.2.2 ∈ am_B := List.forall_mem_cons.mpr ⟨am_inB am_tb_7 (j := 189) rfl rfl, List.forall_mem_cons.mpr ⟨am_inB am_tb_7 (j := 193) rfl rfl, List.forall_mem_cons.mpr ⟨am_inB am_tb_7 (j := 196) rfl rfl, List.forall_mem_cons.mpr ⟨am_inB am_tb_7 (j := 204) rfl rfl, List.forall_mem_cons.mpr ⟨am_inB am_tb_8 (j := 29) rfl rfl, List.forall_mem_cons.mpr ⟨am_inB am_tb_8 (j := 33) rfl rfl, List.forall_mem_cons.mpr ⟨am_inB am_tb_8 (j := 37) rfl rfl, List.forall_mem_cons.mpr ⟨am_inB am_tb_8 (j := 41) rfl rfl, List.forall_mem_cons.mpr ⟨am_inB am_tb_8 (j := 45) rfl rfl, List.forall_mem_cons.mpr ⟨am_inB am_tb_8 (j := 50) rfl rfl, List.forall_mem_cons.mpr ⟨am_inB am_tb_8 (j := 54) rfl rfl, List.forall_mem_cons.mpr ⟨am_inB am_tb_8 (j := 57) rfl rfl, List.forall_mem_cons.mpr ⟨am_inB am_tb_8 (j := 61) rfl rfl, List.forall_mem_cons.mpr ⟨am_inB am_tb_8 (j := 65) rfl rfl, List.forall_mem_cons.mpr ⟨am_inB am_tb_8 (j := 69) rfl rfl, List.forall_mem_cons.mpr ⟨am_inB am_tb_8 (j := 73) rfl rfl, fun _ h => absurd h List.not_mem_nil⟩⟩⟩⟩⟩⟩⟩⟩⟩⟩⟩⟩⟩⟩⟩⟩
theorem am_cw17 : ∀ M ∈ am_ml17, Cond.code M.1 M.2.1 M.2.2.1 M.2.2.2 ∈ am_B := List.forall_mem_cons.mpr ⟨am_inB am_tb_8 (j := 77) rfl rfl, List.forall_mem_cons.mpr ⟨am_inB am_tb_8 (j := 80) rfl rfl, List.forall_mem_cons.mpr ⟨am_inB am_tb_8 (j := 83) rfl rfl, List.forall_mem_cons.mpr ⟨am_inB am_tb_8 (j := 87) rfl rfl, List.forall_mem_cons.mpr ⟨am_inB am_tb_8 (j := 90) rfl rfl, List.forall_mem_cons.mpr ⟨am_inB am_tb_8 (j := 94) rfl rfl, List.forall_mem_cons.mpr ⟨am_inB am_tb_8 (j := 97) rfl rfl, List.forall_mem_cons.mpr ⟨am_inB am_tb_8 (j := 101) rfl rfl, List.forall_mem_cons.mpr ⟨am_inB am_tb_8 (j := 105) rfl rfl, List.forall_mem_cons.mpr ⟨am_inB am_tb_8 (j := 109) rfl rfl, List.forall_mem_cons.mpr ⟨am_inB am_tb_8 (j := 115) rfl rfl, List.forall_mem_cons.mpr ⟨am_inB am_tb_8 (j := 126) rfl rfl, List.forall_mem_cons.mpr ⟨am_inB am_tb_8 (j := 130) rfl rfl, List.forall_mem_cons.mpr ⟨am_inB am_tb_8 (j := 134) rfl rfl, List.forall_mem_cons.mpr ⟨am_inB am_tb_8 (j := 138) rfl rfl, List.forall_mem_cons.mpr ⟨am_inB am_tb_8 (j := 142) rfl rfl, fun _ h => absurd h List.not_mem_nil⟩⟩⟩⟩⟩⟩⟩⟩⟩⟩⟩⟩⟩⟩⟩⟩
theorem am_cw18 : ∀ M ∈ am_ml18, Cond.code M.1 M.2.1 M.2.2.1 M.2.2.2 ∈ am_B := List.forall_mem_cons.mpr ⟨am_inB am_tb_8 (j := 146) rfl rfl, List.forall_mem_cons.mpr ⟨am_inB am_tb_8 (j := 150) rfl rfl, List.forall_mem_cons.mpr ⟨am_inB am_tb_8 (j := 154) rfl rfl, List.forall_mem_cons.mpr ⟨am_inB am_tb_8 (j := 158) rfl rfl, List.forall_mem_cons.mpr ⟨am_inB am_tb_8 (j := 162) rfl rfl, List.forall_mem_cons.mpr ⟨am_inB am_tb_8 (j := 166) rfl rfl, List.forall_mem_cons.mpr ⟨am_inB am_tb_8 (j := 170) rfl rfl, List.forall_mem_cons.mpr ⟨am_inB am_tb_8 (j := 174) rfl rfl, List.forall_mem_cons.mpr ⟨am_inB am_tb_8 (j := 178) rfl rfl, List.forall_mem_cons.mpr ⟨am_inB am_tb_8 (j := 182) rfl rfl, List.forall_mem_cons.mpr ⟨am_inB am_tb_8 (j := 186) rfl rfl, List.forall_mem_cons.mpr ⟨am_inB am_tb_8 (j := 190) rfl rfl, List.forall_mem_cons.mpr ⟨am_inB am_tb_8 (j := 194) rfl rfl, List.forall_mem_cons.mpr ⟨am_inB am_tb_8 (j := 198) rfl rfl, List.forall_mem_cons.mpr ⟨am_inB am_tb_8 (j := 202) rfl rfl, List.forall_mem_cons.mpr ⟨am_inB am_tb_8 (j := 206) rfl rfl, fun _ h => absurd h List.not_mem_nil⟩⟩⟩⟩⟩⟩⟩⟩⟩⟩⟩⟩⟩⟩⟩⟩
theorem am_cw19 : ∀ M ∈ am_ml19, Cond.code M.1 M.2.1 M.2.2.1 M.2.2.2 ∈ am_B := List.forall_mem_cons.mpr ⟨am_inB am_tb_8 (j := 213) rfl rfl, List.forall_mem_cons.mpr ⟨am_inB am_tb_8 (j := 216) rfl rfl, List.forall_mem_cons.mpr ⟨am_inB am_tb_8 (j := 220) rfl rfl, List.forall_mem_cons.mpr ⟨am_inB am_tb_8 (j := 224) rfl rfl, List.forall_mem_cons.mpr ⟨am_inB am_tb_8 (j := 228) rfl rfl, List.forall_mem_cons.mpr ⟨am_inB am_tb_8 (j := 232) rfl rfl, List.forall_mem_cons.mpr ⟨am_inB am_tb_8 (j := 236) rfl rfl, List.forall_mem_cons.mpr ⟨am_inB am_tb_9 (j := 0) rfl rfl, List.forall_mem_cons.mpr ⟨am_inB am_tb_9 (j := 4) rfl rfl, List.forall_mem_cons.mpr ⟨am_inB am_tb_9 (j := 8) rfl rfl, List.forall_mem_cons.mpr ⟨am_inB am_tb_9 (j := 12) rfl rfl, List.forall_mem_cons.mpr ⟨am_inB am_tb_9 (j := 16) rfl rfl, List.forall_mem_cons.mpr ⟨am_inB am_tb_9 (j := 20) rfl rfl, List.forall_mem_cons.mpr ⟨am_inB am_tb_9 (j := 24) rfl rfl, List.forall_mem_cons.mpr ⟨am_inB am_tb_9 (j := 30) rfl rfl, List.forall_mem_cons.mpr ⟨am_inB am_tb_9 (j := 34) rfl rfl, fun _ h => absurd h List.not_mem_nil⟩⟩⟩⟩⟩⟩⟩⟩⟩⟩⟩⟩⟩⟩⟩⟩
theorem am_cw20 : ∀ M ∈ am_ml20, Cond.code M.1 M.2.1 M.2.2.1 M.2.2.2 ∈ am_B := List.forall_mem_cons.mpr ⟨am_inB am_tb_9 (j := 39) rfl rfl, List.forall_mem_cons.mpr ⟨am_inB am_tb_9 (j := 43) rfl rfl, List.forall_mem_cons.mpr ⟨am_inB am_tb_9 (j := 48) rfl rfl, List.forall_mem_cons.mpr ⟨am_inB am_tb_9 (j := 52) rfl rfl, List.forall_mem_cons.mpr ⟨am_inB am_tb_9 (j := 56) rfl rfl, List.forall_mem_cons.mpr ⟨am_inB am_tb_9 (j := 60) rfl rfl, List.forall_mem_cons.mpr ⟨am_inB am_tb_9 (j := 64) rfl rfl, List.forall_mem_cons.mpr ⟨am_inB am_tb_9 (j := 68) rfl rfl, List.forall_mem_cons.mpr ⟨am_inB am_tb_9 (j := 72) rfl rfl, List.forall_mem_cons.mpr ⟨am_inB am_tb_9 (j := 76) rfl rfl, List.forall_mem_cons.mpr ⟨am_inB am_tb_9 (j := 80) rfl rfl, List.forall_mem_cons.mpr ⟨am_inB am_tb_9 (j := 84) rfl rfl, List.forall_mem_cons.mpr ⟨am_inB am_tb_9 (j := 88) rfl rfl, List.forall_mem_cons.mpr ⟨am_inB am_tb_9 (j := 92) rfl rfl, List.forall_mem_cons.mpr ⟨am_inB am_tb_9 (j := 96) rfl rfl, List.forall_mem_cons.mpr ⟨am_inB am_tb_9 (j := 100) rfl rfl, fun _ h => absurd h List.not_mem_nil⟩⟩⟩⟩⟩⟩⟩⟩⟩⟩⟩⟩⟩⟩⟩⟩
theorem am_cw21 : ∀ M ∈ am_ml21, Cond.code M.1 M.2.1 M.2.2.1 M.2.2.2 ∈ am_B := List.forall_mem_cons.mpr ⟨am_inB am_tb_9 (j := 104) rfl rfl, List.forall_mem_cons.mpr ⟨am_inB am_tb_9 (j := 108) rfl rfl, List.forall_mem_cons.mpr ⟨am_inB am_tb_9 (j := 112) rfl rfl, List.forall_mem_cons.mpr ⟨am_inB am_tb_9 (j := 116) rfl rfl, List.forall_mem_cons.mpr ⟨am_inB am_tb_9 (j := 120) rfl rfl, List.forall_mem_cons.mpr ⟨am_inB am_tb_9 (j := 124) rfl rfl, List.forall_mem_cons.mpr ⟨am_inB am_tb_9 (j := 128) rfl rfl, List.forall_mem_cons.mpr ⟨am_inB am_tb_9 (j := 132) rfl rfl, List.forall_mem_cons.mpr ⟨am_inB am_tb_9 (j := 139) rfl rfl, List.forall_mem_cons.mpr ⟨am_inB am_tb_9 (j := 142) rfl rfl, List.forall_mem_cons.mpr ⟨am_inB am_tb_9 (j := 146) rfl rfl, List.forall_mem_cons.mpr ⟨am_inB am_tb_9 (j := 150) rfl rfl, List.forall_mem_cons.mpr ⟨am_inB am_tb_9 (j := 154) rfl rfl, List.forall_mem_cons.mpr ⟨am_inB am_tb_9 (j := 158) rfl rfl, List.forall_mem_cons.mpr ⟨am_inB am_tb_9 (j := 162) rfl rfl, List.forall_mem_cons.mpr ⟨am_inB am_tb_9 (j := 166) rfl rfl, fun _ h => absurd h List.not_mem_nil⟩⟩⟩⟩⟩⟩⟩⟩⟩⟩⟩⟩⟩⟩⟩⟩
theorem am_cw22 : ∀ M ∈ am_ml22, Cond.code M.1 M.2.1 M.2.2.1 M.2.2.2 ∈ am_B := List.forall_mem_cons.mpr ⟨am_inB am_tb_9 (j := 170) rfl rfl, List.forall_mem_cons.mpr ⟨am_inB am_tb_9 (j := 174) rfl rfl, List.forall_mem_cons.mpr ⟨am_inB am_tb_9 (j := 178) rfl rfl, List.forall_mem_cons.mpr ⟨am_inB am_tb_9 (j := 182) rfl rfl, List.forall_mem_cons.mpr ⟨am_inB am_tb_9 (j := 186) rfl rfl, List.forall_mem_cons.mpr ⟨am_inB am_tb_9 (j := 190) rfl rfl, List.forall_mem_cons.mpr ⟨am_inB am_tb_9 (j := 194) rfl rfl, List.forall_mem_cons.mpr ⟨am_inB am_tb_9 (j := 198) rfl rfl, List.forall_mem_cons.mpr ⟨am_inB am_tb_9 (j := 202) rfl rfl, List.forall_mem_cons.mpr ⟨am_inB am_tb_9 (j := 207) rfl rfl, List.forall_mem_cons.mpr ⟨am_inB am_tb_9 (j := 211) rfl rfl, List.forall_mem_cons.mpr ⟨am_inB am_tb_9 (j := 215) rfl rfl, List.forall_mem_cons.mpr ⟨am_inB am_tb_11 (j := 106) rfl rfl, List.forall_mem_cons.mpr ⟨am_inB am_tb_11 (j := 110) rfl rfl, List.forall_mem_cons.mpr ⟨am_inB am_tb_11 (j := 115) rfl rfl, List.forall_mem_cons.mpr ⟨am_inB am_tb_11 (j := 119) rfl rfl, fun _ h => absurd h List.not_mem_nil⟩⟩⟩⟩⟩⟩⟩⟩⟩⟩⟩⟩⟩⟩⟩⟩
theorem am_cw23 : ∀ M ∈ am_ml23, Cond.code M.1 M.2.1 M.2.2.1 M.2.2.2 ∈ am_B := List.forall_mem_cons.mpr ⟨am_inB am_tb_11 (j := 123) rfl rfl, List.forall_mem_cons.mpr ⟨am_inB am_tb_11 (j := 127) rfl rfl, List.forall_mem_cons.mpr ⟨am_inB am_tb_11 (j := 131) rfl rfl, List.forall_mem_cons.mpr ⟨am_inB am_tb_11 (j := 134) rfl rfl, List.forall_mem_cons.mpr ⟨am_inB am_tb_11 (j := 138) rfl rfl, List.forall_mem_cons.mpr ⟨am_inB am_tb_11 (j := 142) rfl rfl, List.forall_mem_cons.mpr ⟨am_inB am_tb_11 (j := 146) rfl rfl, List.forall_mem_cons.mpr ⟨am_inB am_tb_11 (j := 150) rfl rfl, List.forall_mem_cons.mpr ⟨am_inB am_tb_11 (j := 154) rfl rfl, List.forall_mem_cons.mpr ⟨am_inB am_tb_11 (j := 158) rfl rfl, List.forall_mem_cons.mpr ⟨am_inB am_tb_11 (j := 161) rfl rfl, List.forall_mem_cons.mpr ⟨am_inB am_tb_11 (j := 165) rfl rfl, List.forall_mem_cons.mpr ⟨am_inB am_tb_11 (j := 169) rfl rfl, List.forall_mem_cons.mpr ⟨am_inB am_tb_11 (j := 173) rfl rfl, List.forall_mem_cons.mpr ⟨am_inB am_tb_11 (j := 177) rfl rfl, List.forall_mem_cons.mpr ⟨am_inB am_tb_11 (j := 181) rfl rfl, fun _ h => absurd h List.not_mem_nil⟩⟩⟩⟩⟩⟩⟩⟩⟩⟩⟩⟩⟩⟩⟩⟩
theorem am_cw24 : ∀ M ∈ am_ml24, Cond.code M.1 M.2.1 M.2.2.1 M.2.2.2 ∈ am_B := List.forall_mem_cons.mpr ⟨am_inB am_tb_11 (j := 185) rfl rfl, List.forall_mem_cons.mpr ⟨am_inB am_tb_11 (j := 189) rfl rfl, List.forall_mem_cons.mpr ⟨am_inB am_tb_11 (j := 193) rfl rfl, List.forall_mem_cons.mpr ⟨am_inB am_tb_11 (j := 197) rfl rfl, List.forall_mem_cons.mpr ⟨am_inB am_tb_11 (j := 201) rfl rfl, List.forall_mem_cons.mpr ⟨am_inB am_tb_11 (j := 205) rfl rfl, List.forall_mem_cons.mpr ⟨am_inB am_tb_11 (j := 209) rfl rfl, List.forall_mem_cons.mpr ⟨am_inB am_tb_11 (j := 213) rfl rfl, List.forall_mem_cons.mpr ⟨am_inB am_tb_11 (j := 217) rfl rfl, List.forall_mem_cons.mpr ⟨am_inB am_tb_11 (j := 221) rfl rfl, List.forall_mem_cons.mpr ⟨am_inB am_tb_11 (j := 225) rfl rfl, List.forall_mem_cons.mpr ⟨am_inB am_tb_11 (j := 229) rfl rfl, List.forall_mem_cons.mpr ⟨am_inB am_tb_11 (j := 233) rfl rfl, List.forall_mem_cons.mpr ⟨am_inB am_tb_11 (j := 237) rfl rfl, List.forall_mem_cons.mpr ⟨am_inB am_tb_12 (j := 1) rfl rfl, List.forall_mem_cons.mpr ⟨am_inB am_tb_12 (j := 5) rfl rfl, fun _ h => absurd h List.not_mem_nil⟩⟩⟩⟩⟩⟩⟩⟩⟩⟩⟩⟩⟩⟩⟩⟩
theorem am_cw25 : ∀ M ∈ am_ml25, Cond.code M.1 M.2.1 M.2.2.1 M.2.2.2 ∈ am_B := List.forall_mem_cons.mpr ⟨am_inB am_tb_12 (j := 9) rfl rfl, List.forall_mem_cons.mpr ⟨am_inB am_tb_12 (j := 13) rfl rfl, List.forall_mem_cons.mpr ⟨am_inB am_tb_12 (j := 17) rfl rfl, List.forall_mem_cons.mpr ⟨am_inB am_tb_12 (j := 21) rfl rfl, List.forall_mem_cons.mpr ⟨am_inB am_tb_12 (j := 25) rfl rfl, List.forall_mem_cons.mpr ⟨am_inB am_tb_12 (j := 29) rfl rfl, List.forall_mem_cons.mpr ⟨am_inB am_tb_12 (j := 33) rfl rfl, List.forall_mem_cons.mpr ⟨am_inB am_tb_12 (j := 37) rfl rfl, List.forall_mem_cons.mpr ⟨am_inB am_tb_12 (j := 41) rfl rfl, List.forall_mem_cons.mpr ⟨am_inB am_tb_12 (j := 45) rfl rfl, List.forall_mem_cons.mpr ⟨am_inB am_tb_12 (j := 49) rfl rfl, List.forall_mem_cons.mpr ⟨am_inB am_tb_12 (j := 53) rfl rfl, List.forall_mem_cons.mpr ⟨am_inB am_tb_12 (j := 57) rfl rfl, List.forall_mem_cons.mpr ⟨am_inB am_tb_12 (j := 61) rfl rfl, List.forall_mem_cons.mpr ⟨am_inB am_tb_12 (j := 65) rfl rfl, List.forall_mem_cons.mpr ⟨am_inB am_tb_12 (j := 69) rfl rfl, fun _ h => absurd h List.not_mem_nil⟩⟩⟩⟩⟩⟩⟩⟩⟩⟩⟩⟩⟩⟩⟩⟩
theorem am_cw26 : ∀ M ∈ am_ml26, Cond.code M.1 M.2.1 M.2.2.1 M.2.2.2 ∈ am_B := List.forall_mem_cons.mpr ⟨am_inB am_tb_12 (j := 73) rfl rfl, fun _ h => absurd h List.not_mem_nil⟩
theorem am_cw : ∀ l ∈ am_ml, ∀ M ∈ l, Cond.code M.1 M.2.1 M.2.2.1 M.2.2.2 ∈ am_B := List.forall_mem_cons.mpr ⟨am_cw0, List.forall_mem_cons.mpr ⟨am_cw1, List.forall_mem_cons.mpr ⟨am_cw2, List.forall_mem_cons.mpr ⟨am_cw3, List.forall_mem_cons.mpr ⟨am_cw4, List.forall_mem_cons.mpr ⟨am_cw5, List.forall_mem_cons.mpr ⟨am_cw6, List.forall_mem_cons.mpr ⟨am_cw7, List.forall_mem_cons.mpr ⟨am_cw8, List.forall_mem_cons.mpr ⟨am_cw9, List.forall_mem_cons.mpr ⟨am_cw10, List.forall_mem_cons.mpr ⟨am_cw11, List.forall_mem_cons.mpr ⟨am_cw12, List.forall_mem_cons.mpr ⟨am_cw13, List.forall_mem_cons.mpr ⟨am_cw14, List.forall_mem_cons.mpr ⟨am_cw15, List.forall_mem_cons.mpr ⟨am_cw16, List.forall_mem_cons.mpr ⟨am_cw17, List.forall_mem_cons.mpr ⟨am_cw18, List.forall_mem_cons.mpr ⟨am_cw19, List.forall_mem_cons.mpr ⟨am_cw20, List.forall_mem_cons.mpr ⟨am_cw21, List.forall_mem_cons.mpr ⟨am_cw22, List.forall_mem_cons.mpr ⟨am_cw23, List.forall_mem_cons.mpr ⟨am_cw24, List.forall_mem_cons.mpr ⟨am_cw25, List.forall_mem_cons.mpr ⟨am_cw26, fun _ h => absurd h List.not_mem_nil⟩⟩⟩⟩⟩⟩⟩⟩⟩⟩⟩⟩⟩⟩⟩⟩⟩⟩⟩⟩⟩⟩⟩⟩⟩⟩⟩
