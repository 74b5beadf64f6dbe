/-! The law's octet: the words that a throw of the class's octet stands on. -/
def oc_E : String := "java/util/NoSuchElementException"
def oc_ns : List String := ["java/lang/RuntimeException", "java/lang/Exception"]
def oc_nw : List Cond := [.castable "java/util/NoSuchElementException" "java/util/NoSuchElementException", .declares ⟨"java/lang/RuntimeException", "<init>", "()V"⟩, .declares ⟨"java/lang/Exception", "<init>", "()V"⟩, .declares ⟨"java/lang/Throwable", "<init>", "()V"⟩]
def oc_own : List Cond := [
  (.initialized "java/lang/Throwable" : Cond),
  (.superclass "java/lang/Throwable" "java/lang/Object" : Cond),
  (.instanceMethod ⟨"java/lang/Throwable", "fillInStackTrace", "()Ljava/lang/Throwable;"⟩ : Cond),
  (.codeSync ⟨"java/lang/Throwable", "fillInStackTrace", "()Ljava/lang/Throwable;"⟩ LibCode.Throwable.Fill.code 1 (some (.object "java/lang/Throwable")) : Cond),
  (.instanceMethod ⟨"java/lang/Throwable", "fillInStackTrace", "(I)Ljava/lang/Throwable;"⟩ : Cond),
  (.native ⟨"java/lang/Throwable", "fillInStackTrace", "(I)Ljava/lang/Throwable;"⟩ : Cond),
  (.instanceMethod ⟨"java/lang/Throwable", "<init>", "()V"⟩ : Cond),
  (.code ⟨"java/lang/Throwable", "<init>", "()V"⟩ LibCode.Throwable.Init0.code 1 none : Cond),
  (.instanceMethod ⟨"java/lang/Object", "<init>", "()V"⟩ : Cond),
  (.code ⟨"java/lang/Object", "<init>", "()V"⟩ ⟨#[0xb1]⟩ 1 none : Cond),
  (.methodLink "java/lang/Throwable" 1 ⟨"java/lang/Object", "<init>", "()V"⟩ : Cond),
  (.methodLink "java/lang/Throwable" 27 ⟨"java/lang/Throwable", "fillInStackTrace", "()Ljava/lang/Throwable;"⟩ : Cond),
  (.methodLink "java/lang/Throwable" 202 ⟨"java/lang/Throwable", "fillInStackTrace", "(I)Ljava/lang/Throwable;"⟩ : Cond),
  (.fieldLink "java/lang/Throwable" 7 "java/lang/Throwable" "cause" "Ljava/lang/Throwable;" : Cond),
  (.lays "java/lang/Throwable" "java/lang/Throwable" "cause" "Ljava/lang/Throwable;" : Cond),
  (.fieldLink "java/lang/Throwable" 17 "java/lang/Throwable" "stackTrace" "[Ljava/lang/StackTraceElement;" : Cond),
  (.lays "java/lang/Throwable" "java/lang/Throwable" "stackTrace" "[Ljava/lang/StackTraceElement;" : Cond),
  (.fieldLink "java/lang/Throwable" 24 "java/lang/Throwable" "suppressedExceptions" "Ljava/util/List;" : Cond),
  (.lays "java/lang/Throwable" "java/lang/Throwable" "suppressedExceptions" "Ljava/util/List;" : Cond),
  (.fieldLink "java/lang/Throwable" 13 "java/lang/Throwable" "UNASSIGNED_STACK" "[Ljava/lang/StackTraceElement;" : Cond),
  (.laysStatic "java/lang/Throwable" "UNASSIGNED_STACK" "[Ljava/lang/StackTraceElement;" : Cond),
  (.fieldLink "java/lang/Throwable" 20 "java/lang/Throwable" "SUPPRESSED_SENTINEL" "Ljava/util/List;" : Cond),
  (.laysStatic "java/lang/Throwable" "SUPPRESSED_SENTINEL" "Ljava/util/List;" : Cond),
  (.lays "java/lang/Throwable" "java/lang/Throwable" "detailMessage" "Ljava/lang/String;" : Cond),
  (.instanceMethod ⟨"java/util/NoSuchElementException", "<init>", "()V"⟩ : Cond),
  (.code ⟨"java/util/NoSuchElementException", "<init>", "()V"⟩ Bundle.five 1 none : Cond),
  (.methodLink "java/util/NoSuchElementException" 1 ⟨"java/lang/RuntimeException", "<init>", "()V"⟩ : Cond),
  (.instanceMethod ⟨"java/lang/RuntimeException", "<init>", "()V"⟩ : Cond),
  (.declares ⟨"java/lang/RuntimeException", "<init>", "()V"⟩ : Cond),
  (.instanceMethod ⟨"java/lang/RuntimeException", "<init>", "()V"⟩ : Cond),
  (.code ⟨"java/lang/RuntimeException", "<init>", "()V"⟩ Bundle.five 1 none : Cond),
  (.methodLink "java/lang/RuntimeException" 1 ⟨"java/lang/Exception", "<init>", "()V"⟩ : Cond),
  (.instanceMethod ⟨"java/lang/Exception", "<init>", "()V"⟩ : Cond),
  (.declares ⟨"java/lang/Exception", "<init>", "()V"⟩ : Cond),
  (.instanceMethod ⟨"java/lang/Exception", "<init>", "()V"⟩ : Cond),
  (.code ⟨"java/lang/Exception", "<init>", "()V"⟩ Bundle.five 1 none : Cond),
  (.methodLink "java/lang/Exception" 1 ⟨"java/lang/Throwable", "<init>", "()V"⟩ : Cond),
  (.instanceMethod ⟨"java/lang/Throwable", "<init>", "()V"⟩ : Cond),
  (.declares ⟨"java/lang/Throwable", "<init>", "()V"⟩ : Cond),
  (.methodLink "TerminalHouse" 97 ⟨"java/util/NoSuchElementException", "<init>", "()V"⟩ : Cond),
  (.instantiable "java/util/NoSuchElementException" 6 : Cond),
  (.castable "java/util/NoSuchElementException" "java/util/NoSuchElementException" : Cond),
  (.selects "java/util/NoSuchElementException" ⟨"java/lang/Throwable", "fillInStackTrace", "(I)Ljava/lang/Throwable;"⟩ ⟨"java/lang/Throwable", "fillInStackTrace", "(I)Ljava/lang/Throwable;"⟩ : Cond),
  (.selects "java/util/NoSuchElementException" ⟨"java/lang/Throwable", "fillInStackTrace", "()Ljava/lang/Throwable;"⟩ ⟨"java/lang/Throwable", "fillInStackTrace", "()Ljava/lang/Throwable;"⟩ : Cond),
  (.lays "java/util/NoSuchElementException" "java/lang/Throwable" "cause" "Ljava/lang/Throwable;" : Cond),
  (.lays "java/util/NoSuchElementException" "java/lang/Throwable" "stackTrace" "[Ljava/lang/StackTraceElement;" : Cond),
  (.lays "java/util/NoSuchElementException" "java/lang/Throwable" "suppressedExceptions" "Ljava/util/List;" : Cond),
  (.lays "java/util/NoSuchElementException" "java/lang/Throwable" "detailMessage" "Ljava/lang/String;" : Cond),
  (.isRef (.static "java/lang/Throwable" "UNASSIGNED_STACK" "[Ljava/lang/StackTraceElement;") : Cond),
  (.isRef (.static "java/lang/Throwable" "SUPPRESSED_SENTINEL" "Ljava/util/List;") : Cond),
  (.fieldLink "java/lang/Throwable" 198 "java/lang/Throwable" "backtrace" "Ljava/lang/Object;" : Cond),
  (.lays "java/lang/Throwable" "java/lang/Throwable" "backtrace" "Ljava/lang/Object;" : Cond),
  (.lays "java/util/NoSuchElementException" "java/lang/Throwable" "backtrace" "Ljava/lang/Object;" : Cond)]
theorem oc_own_eq : Bundle.ownAtoms0 "TerminalHouse" 97 oc_E oc_ns = oc_own := rfl
set_option maxRecDepth 100000 in
theorem oc_own_ok : ∀ w ∈ oc_own, w ∈ am_B ∨ w ∈ oc_nw ∨ vx_no w = false := List.forall_mem_cons.mpr ⟨Or.inl (am_inB am_tb_1 (j := 16) rfl rfl), List.forall_mem_cons.mpr ⟨Or.inl (am_inB am_tb_7 (j := 227) rfl rfl), List.forall_mem_cons.mpr ⟨Or.inl (am_inB am_tb_7 (j := 236) rfl rfl), List.forall_mem_cons.mpr ⟨Or.inl (am_inB am_tb_7 (j := 238) rfl rfl), List.forall_mem_cons.mpr ⟨Or.inl (am_inB am_tb_8 (j := 1) rfl rfl), List.forall_mem_cons.mpr ⟨Or.inl (am_inB am_tb_8 (j := 3) rfl rfl), List.forall_mem_cons.mpr ⟨Or.inl (am_inB am_tb_7 (j := 228) rfl rfl), List.forall_mem_cons.mpr ⟨Or.inl (am_inB am_tb_7 (j := 229) rfl rfl), List.forall_mem_cons.mpr ⟨Or.inl (am_inB am_tb_1 (j := 31) rfl rfl), List.forall_mem_cons.mpr ⟨Or.inl (am_inB am_tb_1 (j := 32) rfl rfl), List.forall_mem_cons.mpr ⟨Or.inl (am_inB am_tb_7 (j := 230) rfl rfl), List.forall_mem_cons.mpr ⟨Or.inl (am_inB am_tb_7 (j := 235) rfl rfl), List.forall_mem_cons.mpr ⟨Or.inl (am_inB am_tb_7 (j := 239) rfl rfl), List.forall_mem_cons.mpr ⟨Or.inl (am_inB am_tb_8 (j := 15) rfl rfl), List.forall_mem_cons.mpr ⟨Or.inl (am_inB am_tb_7 (j := 217) rfl rfl), List.forall_mem_cons.mpr ⟨Or.inl (am_inB am_tb_8 (j := 16) rfl rfl), List.forall_mem_cons.mpr ⟨Or.inl (am_inB am_tb_7 (j := 219) rfl rfl), List.forall_mem_cons.mpr ⟨Or.inl (am_inB am_tb_8 (j := 17) rfl rfl), List.forall_mem_cons.mpr ⟨Or.inl (am_inB am_tb_7 (j := 221) rfl rfl), List.forall_mem_cons.mpr ⟨Or.inl (am_inB am_tb_7 (j := 231) rfl rfl), List.forall_mem_cons.mpr ⟨Or.inr (Or.inr rfl), List.forall_mem_cons.mpr ⟨Or.inl (am_inB am_tb_7 (j := 233) rfl rfl), List.forall_mem_cons.mpr ⟨Or.inr (Or.inr rfl), List.forall_mem_cons.mpr ⟨Or.inl (am_inB am_tb_7 (j := 223) rfl rfl), List.forall_mem_cons.mpr ⟨Or.inl (am_inB am_tb_8 (j := 5) rfl rfl), List.forall_mem_cons.mpr ⟨Or.inl (am_inB am_tb_8 (j := 6) rfl rfl), List.forall_mem_cons.mpr ⟨Or.inl (am_inB am_tb_8 (j := 7) rfl rfl), List.forall_mem_cons.mpr ⟨Or.inl (am_inB am_tb_8 (j := 8) rfl rfl), List.forall_mem_cons.mpr ⟨Or.inr (Or.inl (List.mem_of_getElem? (i := 1) rfl)), List.forall_mem_cons.mpr ⟨Or.inl (am_inB am_tb_8 (j := 8) rfl rfl), List.forall_mem_cons.mpr ⟨Or.inl (am_inB am_tb_8 (j := 9) rfl rfl), List.forall_mem_cons.mpr ⟨Or.inl (am_inB am_tb_8 (j := 10) rfl rfl), List.forall_mem_cons.mpr ⟨Or.inl (am_inB am_tb_8 (j := 11) rfl rfl), List.forall_mem_cons.mpr ⟨Or.inr (Or.inl (List.mem_of_getElem? (i := 2) rfl)), List.forall_mem_cons.mpr ⟨Or.inl (am_inB am_tb_8 (j := 11) rfl rfl), List.forall_mem_cons.mpr ⟨Or.inl (am_inB am_tb_8 (j := 12) rfl rfl), List.forall_mem_cons.mpr ⟨Or.inl (am_inB am_tb_8 (j := 13) rfl rfl), List.forall_mem_cons.mpr ⟨Or.inl (am_inB am_tb_7 (j := 228) rfl rfl), List.forall_mem_cons.mpr ⟨Or.inr (Or.inl (List.mem_of_getElem? (i := 3) rfl)), List.forall_mem_cons.mpr ⟨Or.inl (am_inB am_tb_8 (j := 4) rfl rfl), List.forall_mem_cons.mpr ⟨Or.inl (am_inB am_tb_7 (j := 206) rfl rfl), List.forall_mem_cons.mpr ⟨Or.inr (Or.inl (List.mem_of_getElem? (i := 0) rfl)), List.forall_mem_cons.mpr ⟨Or.inl (am_inB am_tb_7 (j := 214) rfl rfl), List.forall_mem_cons.mpr ⟨Or.inl (am_inB am_tb_7 (j := 215) rfl rfl), List.forall_mem_cons.mpr ⟨Or.inl (am_inB am_tb_7 (j := 216) rfl rfl), List.forall_mem_cons.mpr ⟨Or.inl (am_inB am_tb_7 (j := 218) rfl rfl), List.forall_mem_cons.mpr ⟨Or.inl (am_inB am_tb_7 (j := 220) rfl rfl), List.forall_mem_cons.mpr ⟨Or.inl (am_inB am_tb_7 (j := 222) rfl rfl), List.forall_mem_cons.mpr ⟨Or.inr (Or.inr rfl), List.forall_mem_cons.mpr ⟨Or.inr (Or.inr rfl), List.forall_mem_cons.mpr ⟨Or.inl (am_inB am_tb_7 (j := 226) rfl rfl), List.forall_mem_cons.mpr ⟨Or.inl (am_inB am_tb_7 (j := 225) rfl rfl), List.forall_mem_cons.mpr ⟨Or.inl (am_inB am_tb_7 (j := 224) rfl rfl), (fun _ h => nomatch h)⟩⟩⟩⟩⟩⟩⟩⟩⟩⟩⟩⟩⟩⟩⟩⟩⟩⟩⟩⟩⟩⟩⟩⟩⟩⟩⟩⟩⟩⟩⟩⟩⟩⟩⟩⟩⟩⟩⟩⟩⟩⟩⟩⟩⟩⟩⟩⟩⟩⟩⟩⟩⟩
def oc_z : MethodName := ⟨"TerminalHouseLaw", "octet", "(LTerminalHouse;I[J)I"⟩
def oc_y : MethodName := ⟨"TerminalHouse", "octet", "(I)I"⟩
def oc_hh : List (Nat × Nat × Nat × Nat) := [(0, 9, 12, 13)]
theorem oc_w1 : Cond.codeWith oc_z method_3_code 4 (some .int) oc_hh ∈ am_B := am_inB am_tb_7 (j := 199) rfl rfl
theorem oc_w2 : Cond.methodLink "TerminalHouseLaw" 37 oc_z ∈ am_B := am_inB am_tb_7 (j := 197) rfl rfl
theorem oc_w3 : Cond.static oc_z ∈ am_B := am_inB am_tb_7 (j := 198) rfl rfl
theorem oc_w4 : Cond.initialized "TerminalHouseLaw" ∈ am_B := am_inB am_tb_1 (j := 0) rfl rfl
theorem oc_w5 : Cond.classLink "TerminalHouseLaw" 13 oc_E ∈ am_B := am_inB am_tb_7 (j := 200) rfl rfl
theorem oc_w6 : Cond.methodLink "TerminalHouseLaw" 7 oc_y ∈ am_B := am_inB am_tb_7 (j := 201) rfl rfl
theorem oc_w7 : Cond.instanceMethod oc_y ∈ am_B := am_inB am_tb_7 (j := 202) rfl rfl
theorem oc_w8 : Cond.selects "TerminalHouse" oc_y oc_y ∈ am_B := am_inB am_tb_7 (j := 203) rfl rfl
theorem oc_w9 : Cond.code oc_y prog_1_method_5_code 2 (some .int) ∈ am_B := am_inB am_tb_7 (j := 204) rfl rfl
theorem oc_w10 : Cond.classLink "TerminalHouse" 95 oc_E ∈ am_B := am_inB am_tb_7 (j := 205) rfl rfl
theorem oc_w11 : Cond.initialized oc_E ∈ am_B := am_inB am_tb_1 (j := 19) rfl rfl
theorem oc_w12 : Cond.initialized "TerminalHouse" ∈ am_B := am_inB am_tb_1 (j := 1) rfl rfl
