/-! new int[n][k], for the abstract machine (the road of the library's own law of it, which no round sees; arrays of int alone). -/
section MNA
variable {E : CtlPost} {e : Env} {d : Bool} {acts : List Action} {s : State}
def am_ci (c : ClassId) (k : Nat) : Cell := { cls := c, slots := Array.replicate k (.int 0), vm := .none }
def am_cq (c : ClassId) (n b : Nat) : Nat → Cell
  | 0 => { cls := c, slots := Array.replicate n .null, vm := .none }
  | i + 1 => (am_cq c n b i).setSlot i (.ref (b + 1 + i))
/-- the state when the outer row and i inner ones are made -/
def am_mk (s : State) (c ci : ClassId) (n k : Nat) : Nat → State
  | 0 => s.pushCell (am_cq c n s.heap.size 0)
  | i + 1 => ((am_mk s c ci n k i).pushCell (am_ci ci k)).setCell s.heap.size (am_cq c n s.heap.size (i + 1))
theorem am_cq_facts (c : ClassId) (n b : Nat) : ∀ i, (am_cq c n b i).cls = c ∧ (am_cq c n b i).vm = .none ∧ (am_cq c n b i).slots.size = n
  | 0 => ⟨rfl, rfl, by simp [am_cq]⟩
  | i + 1 => by
    obtain ⟨g1, g2, g3⟩ := am_cq_facts c n b i
    exact ⟨by simp [am_cq, Cell.setSlot, g1], by simp [am_cq, Cell.setSlot, g2], by simp [am_cq, Cell.setSlot, g3]⟩
theorem am_cq_eq (c : ClassId) (n b : Nat) : ∀ i, am_cq c n b i = arrV c n (fun j => va_rf (if j < i then some (b + 1 + j) else none))
  | 0 => by
    show ({ cls := c, slots := Array.replicate n .null, vm := .none } : Cell) = _
    unfold arrV
    congr 1
    apply Array.ext
    · simp
    · intro j h1 h2
      simp [va_rf]
  | i + 1 => by
    show (am_cq c n b i).setSlot i (.ref (b + 1 + i)) = _
    rw [am_cq_eq c n b i, arrV_store]
    congr 1
    funext j
    unfold updV
    by_cases q : j = i
    · subst q
      rw [if_pos rfl, if_pos (by omega)]
      rfl
    · rw [if_neg q]
      dsimp only
      by_cases q2 : j < i
      · rw [if_pos q2, if_pos (by omega)]
      · rw [if_neg q2, if_neg (by omega)]
theorem am_ci_eq (c : ClassId) (k : Nat) : am_ci c k = arrV c k (fun _ => .int 0) := by
  unfold am_ci arrV
  congr 1
  apply Array.ext
  · simp
  · intro j h1 h2
    simp
theorem am_mk_facts (s : State) (c ci : ClassId) (n k : Nat) : ∀ i, (am_mk s c ci n k i).heap.size = s.heap.size + 1 + i ∧ (am_mk s c ci n k i).heap[s.heap.size]? = some (am_cq c n s.heap.size i) ∧ (am_mk s c ci n k i).vm = s.vm ∧ (am_mk s c ci n k i).slotsUsed = s.slotsUsed + n + i * k
  | 0 => ⟨by simp [am_mk], by simp [am_mk], rfl, by simp [am_mk, am_cq]⟩
  | i + 1 => by
    obtain ⟨g1, g2, g3, g4⟩ := am_mk_facts s c ci n k i
    have hlt : s.heap.size < (am_mk s c ci n k i).heap.size := by omega
    have hb : ((am_mk s c ci n k i).pushCell (am_ci ci k)).heap[s.heap.size]? = some (am_cq c n s.heap.size i) := by rw [State.heap_pushCell_of_lt (h := hlt)]; exact g2
    refine ⟨?_, State.heap_setCell_self hb, by simp [am_mk, g3], ?_⟩
    · simp [am_mk, State.setCell, g1]; omega
    · simp [am_mk, g4, am_ci, Nat.succ_mul]; omega
theorem am_mk_top (s : State) (f : JFrame) (c ci : ClassId) (n k : Nat) : ∀ i, am_mk (s.setTop f) c ci n k i = (am_mk s c ci n k i).setTop f
  | 0 => rfl
  | i + 1 => by simp only [am_mk, am_mk_top s f c ci n k i, State.heap_setTop, State.pushCell_setTop, State.setCell_setTop]
theorem am_mk_old (s : State) (c ci : ClassId) (n k : Nat) {a : Addr} (ha : a < s.heap.size) : ∀ i, (am_mk s c ci n k i).heap[a]? = s.heap[a]?
  | 0 => State.heap_pushCell_of_lt _ _ ha
  | i + 1 => by
    have g1 := (am_mk_facts s c ci n k i).1
    have hlt : a < (am_mk s c ci n k i).heap.size := Nat.lt_of_lt_of_le ha (by rw [g1]; omega)
    show (((am_mk s c ci n k i).pushCell (am_ci ci k)).setCell s.heap.size _).heap[a]? = _
    rw [State.heap_setCell_other (Nat.ne_of_gt ha), State.heap_pushCell_of_lt (h := hlt)]
    exact am_mk_old s c ci n k ha i
theorem am_mk_in (s : State) (c ci : ClassId) (n k : Nat) : ∀ i j, j < i → (am_mk s c ci n k i).heap[s.heap.size + 1 + j]? = some (am_ci ci k)
  | 0, _, h => absurd h (Nat.not_lt_zero _)
  | i + 1, j, h => by
    have g1 := (am_mk_facts s c ci n k i).1
    show (((am_mk s c ci n k i).pushCell (am_ci ci k)).setCell s.heap.size _).heap[s.heap.size + 1 + j]? = _
    rw [State.heap_setCell_other (show s.heap.size ≠ s.heap.size + 1 + j by omega)]
    rcases Nat.lt_or_ge j i with hj | hj
    · have hlt : s.heap.size + 1 + j < (am_mk s c ci n k i).heap.size := by rw [g1]; omega
      rw [State.heap_pushCell_of_lt (h := hlt)]
      exact am_mk_in s c ci n k i j hj
    · have e0 : j = i := by omega
      subst e0
      rw [← g1]
      exact State.heap_pushCell_size _ _
theorem am_wpA {c comp : ClassId} {k : Class} {type : FieldType} {len : Nat} {init : Value} (hk : s.vm.classes[c]? = some k) (hkind : k.kind = .array comp type)
    (hlimit : ¬ len > e.platform.arrayLengthLimit) (hheap : ¬ len * componentBytes type > e.platform.maxHeapBytes) (hfit : fits type init = true) (hdef : init.isDefault = true) {Q : Addr → Pre}
    (h1 : s.heap.size < e.platform.maxCells) (h2 : s.slotsUsed + len ≤ e.platform.maxSlots)
    (hq : Q s.heap.size d acts (s.pushCell { cls := c, slots := Array.replicate len init, vm := .none })) :
    wp (Jvm.newArray c len init) Q E e d acts s := by
  have hfits : ∀ i v, (Array.replicate len init)[i]? = some v → s.fitsSlot c .none i v = true := by
    intro i v hv
    simp only [Array.getElem?_replicate] at hv
    split at hv
    · cases hv; simp [State.fitsSlot, State.slotType?, hk, hkind, hfit]
    · cases hv
  have hda : allocActs (Array.replicate len init) s.heap.size acts = acts := by
    have hall : ((Array.replicate len init).all (·.isDefault)) = true := by
      rw [Array.all_replicate]; split <;> simp [hdef]
    unfold allocActs; rw [if_pos hall]
  simp only [Jvm.newArray, Jvm.arrayFits, wp_bind', Jvm.W.ask, Jvm.W.ite, hlimit, if_false, wp_pure', Jvm.W.theClass, hk, hkind, hheap, Jvm.W.alloc, Jvm.W.stop, Option.some.injEq, exists_eq_left', Array.size_replicate, hda]
  rw [if_neg (by omega)]
  exact ⟨h1, h2, hfits, hq⟩
theorem am_wp1 {comp cc : ClassId} {kc : Class} {x : Int32} (hkc : s.vm.classes[comp]? = some kc) (hkindc : kc.kind = .array cc .int) (hm : ¬ x < 0)
    (hl2 : ¬ x.toNatClampNeg > e.platform.arrayLengthLimit) (hh2 : ¬ x.toNatClampNeg * componentBytes .int > e.platform.maxHeapBytes)
    (h1 : s.heap.size < e.platform.maxCells) (h2 : s.slotsUsed + x.toNatClampNeg ≤ e.platform.maxSlots)
    {Q : Addr → Pre} (hq : Q s.heap.size d acts (s.pushCell (am_ci comp x.toNatClampNeg))) :
    wp (multianewarray.make comp [x]) Q E e d acts s := by
  rw [multianewarray.make]
  simp only [wp_bind', Jvm.W.ite, hm, if_false, wp_pure', Jvm.W.theClass, hkc, hkindc, Option.some.injEq, exists_eq_left']
  exact am_wpA hkc hkindc hl2 hh2 rfl rfl h1 h2 hq
theorem am_wp2 {c comp cc : ClassId} {k kc : Class} {y x : Int32} (hk : s.vm.classes[c]? = some k) (hkind : k.kind = .array comp (.array .int))
    (hkc : s.vm.classes[comp]? = some kc) (hkindc : kc.kind = .array cc .int) (hn : ¬ y < 0) (hm : ¬ x < 0)
    (hl1 : ¬ y.toNatClampNeg > e.platform.arrayLengthLimit) (hh1 : ¬ y.toNatClampNeg * componentBytes (.array .int) > e.platform.maxHeapBytes)
    (hl2 : ¬ x.toNatClampNeg > e.platform.arrayLengthLimit) (hh2 : ¬ x.toNatClampNeg * componentBytes .int > e.platform.maxHeapBytes)
    (hc : s.heap.size + 1 + y.toNatClampNeg ≤ e.platform.maxCells) (hs : s.slotsUsed + y.toNatClampNeg + y.toNatClampNeg * x.toNatClampNeg ≤ e.platform.maxSlots)
    {Q : Addr → Pre} (hq : ∀ d' acts', Q s.heap.size d' acts' (am_mk s c comp y.toNatClampNeg x.toNatClampNeg y.toNatClampNeg)) :
    wp (multianewarray.make c [y, x]) Q E e d acts s := by
  have hfind : ([x].find? (· < 0)) = none := by simp [hm]
  rw [multianewarray.make]
  simp only [wp_bind', Jvm.W.ite, hn, if_false, wp_pure', Jvm.W.theClass, hk, hkind, Option.some.injEq, exists_eq_left']
  refine am_wpA hk hkind hl1 hh1 rfl rfl (by omega) (by have := Nat.zero_le (y.toNatClampNeg * x.toNatClampNeg); omega) ?_
  simp only [hfind]
  rw [ite_self, wp_bind', Std.Legacy.Range.forIn_eq_forIn_range']
  have hsz : ([:y.toNatClampNeg] : Std.Legacy.Range).size = y.toNatClampNeg := by simp [Std.Legacy.Range.size]
  rw [hsz]
  show wp (forIn (List.range' 0 y.toNatClampNeg 1) PUnit.unit _) _ E e d acts _
  refine wp_forIn_inv (fun rest s' => ∃ i, i ≤ y.toNatClampNeg ∧ rest = List.range' i (y.toNatClampNeg - i) ∧ s' = am_mk s c comp y.toNatClampNeg x.toNatClampNeg i) _ _ ⟨0, Nat.zero_le _, rfl, rfl⟩ ?_ ?_
  · rintro z rest s' d' acts' Q' ⟨i, hi, hl, rfl⟩ hnext
    have hlt : i < y.toNatClampNeg := by
      rcases Nat.lt_or_ge i y.toNatClampNeg with h | h
      · exact h
      · rw [show y.toNatClampNeg - i = 0 from by omega] at hl; simp at hl
    obtain ⟨rfl, hrest⟩ : z = i ∧ rest = List.range' (i + 1) (y.toNatClampNeg - (i + 1)) := by
      rw [show y.toNatClampNeg - i = (y.toNatClampNeg - (i + 1)) + 1 from by omega, List.range'_succ] at hl
      exact ⟨(List.cons.inj hl).1, (List.cons.inj hl).2⟩
    obtain ⟨f1, f2, f3, f4⟩ := am_mk_facts s c comp y.toNatClampNeg x.toNatClampNeg z
    obtain ⟨o1, o2, o3⟩ := am_cq_facts c y.toNatClampNeg s.heap.size z
    have hmul : z * x.toNatClampNeg + x.toNatClampNeg ≤ y.toNatClampNeg * x.toNatClampNeg := by
      have := Nat.mul_le_mul_right x.toNatClampNeg (show z + 1 ≤ y.toNatClampNeg from hlt)
      rw [Nat.succ_mul] at this; exact this
    simp only [wp_bind']
    refine am_wp1 (by rw [f3]; exact hkc) hkindc hm hl2 hh2 (by rw [f1]; omega) (by rw [f4]; omega) ?_
    have hlt0 : s.heap.size < (am_mk s c comp y.toNatClampNeg x.toNatClampNeg z).heap.size := by rw [f1]; omega
    simp only [wp_bind', Jvm.W.writeLoc, wp_pure']
    refine ⟨am_cq c y.toNatClampNeg s.heap.size z, by rw [State.heap_pushCell_of_lt (h := hlt0)]; exact f2, by rw [o2]; simp, by rw [o3]; exact hlt, ?_, hnext _ _ _ ⟨z + 1, hlt, hrest, ?_⟩⟩
    · rw [o1, o2]
      simp [State.fitsSlot, State.slotType?, f3, hk, hkind, fits]
    · rw [f1]; rfl
  · rintro s' d' acts' ⟨i, hi, hl, rfl⟩
    have hiN : i = y.toNatClampNeg := by
      rcases Nat.lt_or_ge i y.toNatClampNeg with h | h
      · rw [show y.toNatClampNeg - i = (y.toNatClampNeg - (i + 1)) + 1 from by omega, List.range'_succ] at hl; cases hl
      · omega
    subst hiN
    simp only [wp_pure']
    exact hq _ _
end MNA
theorem am_over {args : Array Value} {s : State} (h : (Cond.arrayOver (.array .int)).before args s = true) :
    ∃ comp c k, s.vm.findClass (FieldType.array .int).toString = some comp ∧ s.vm.classes[c]? = some k ∧ k.kind = .array comp (.array .int) ∧ s.vm.findClass ("[" ++ (FieldType.array .int).toString) = some c := by
  simp only [Cond.before, Cond.holds, Cond.value, beq_iff_eq] at h
  cases hc : s.vm.findClass (FieldType.array .int).toString with
  | none => simp [hc] at h
  | some comp =>
    simp only [hc, Option.bind_some, Option.bind_eq_some_iff, Option.map_eq_some_iff] at h
    obtain ⟨c, hi, k, hk, hb⟩ := h
    obtain ⟨hlt, hp, -⟩ := Array.findIdx?_eq_some_iff_getElem.mp hi
    have hkk : s.vm.classes[c] = k := (Array.getElem?_eq_some_iff.mp hk).2
    rw [hkk] at hp
    cases hkind : k.kind with
    | array component ty =>
      rw [hkind] at hb hp
      simp at hb hp
      exact ⟨comp, c, k, rfl, hk, by rw [hkind, hp, hb.1], hb.2⟩
    | _ => rw [hkind] at hb; simp at hb
section MNB
variable {p : Program} {l : Launch} {e : Env} {R : Room} {s : State} {m : MethodId} {args : Array Value} {below : List Frame} {meth : Method} {c : Code} {T : State} {locs : List Loc} {cells slots : Nat}
theorem am_mk_stand (X : Stand p l e R s m args below meth c T locs cells slots) (cA comp : ClassId) (n k : Nat) :
    ∀ i, Stand p l e R s m args below meth c (am_mk T cA comp n k i) (locs ++ (List.range i).map fun j => ⟨T.heap.size, j⟩) (cells + 1 + i) (slots + n + i * k)
  | 0 => by
    have h := X.pushed (am_cq cA n T.heap.size 0)
    rw [(am_cq_facts cA n T.heap.size 0).2.2] at h
    simpa [am_mk] using h
  | i + 1 => by
    have Xi := am_mk_stand X cA comp n k i
    obtain ⟨f1, f2, f3, f4⟩ := am_mk_facts T cA comp n k i
    have hlt0 : T.heap.size < (am_mk T cA comp n k i).heap.size := by rw [f1]; omega
    have hcell : ((am_mk T cA comp n k i).pushCell (am_ci comp k)).heap[T.heap.size]? = some (am_cq cA n T.heap.size i) := by rw [State.heap_pushCell_of_lt (h := hlt0)]; exact f2
    have h := (Xi.pushed (am_ci comp k)).stored hcell i (.ref (T.heap.size + 1 + i))
    have e1 : (am_ci comp k).slots.size = k := by simp [am_ci]
    rw [e1] at h
    have e2 : (locs ++ (List.range (i + 1)).map fun j => (⟨T.heap.size, j⟩ : Loc)) = (locs ++ (List.range i).map fun j => (⟨T.heap.size, j⟩ : Loc)) ++ [⟨T.heap.size, i⟩] := by simp [List.range_succ, List.append_assoc]
    have e3 : slots + n + (i + 1) * k = slots + n + i * k + k := by rw [Nat.succ_mul]; omega
    rw [e2, e3]
    exact h
theorem am_mna1 (X : Stand p l e R s m args below meth c T locs cells slots) (hexec : p.tables.exec = Jvm.exec) {own : String} {index : Nat}
    (hown : s.vm.findClass own = some m.cls) (hclink : (Cond.classLink own index ("[" ++ (FieldType.array .int).toString)).before args s = true)
    (hover : (Cond.arrayOver (.array .int)).before args s = true) (harr : (Cond.arrayClass .int).before args s = true)
    {g : JFrame} (hg : g.method = m) (hdg : decode c.code g.pc = .ok (.multianewarray index 2, 4)) {y x : Int32} {rest : List Value} (hstack : g.stack = .int x :: .int y :: rest)
    (hn : ¬ y < 0) (hk : ¬ x < 0) (hb1 : y.toNatClampNeg * 4 ≤ 536870912) (hb2 : x.toNatClampNeg * 4 ≤ 536870912)
    (hcells : cells + (1 + y.toNatClampNeg) ≤ R.cells) (hslots : slots + (y.toNatClampNeg + y.toNatClampNeg * x.toNatClampNeg) ≤ R.slots) :
    ∃ (vm₁ : Vm) (cA comp : ClassId), s.vm.findClass ("[" ++ (FieldType.array .int).toString) = some cA ∧ s.vm.findClass (FieldType.array .int).toString = some comp ∧
      Stand p l e R s m args below meth c (am_mk (T.setVm vm₁) cA comp y.toNatClampNeg x.toNatClampNeg y.toNatClampNeg) (locs ++ (List.range y.toNatClampNeg).map fun j => ⟨T.heap.size, j⟩) (cells + 1 + y.toNatClampNeg) (slots + y.toNatClampNeg + y.toNatClampNeg * x.toNatClampNeg) ∧
      ∀ target, Steps p.tables e below ((am_mk (T.setVm vm₁) cA comp y.toNatClampNeg x.toNatClampNeg y.toNatClampNeg).setTop { g with pc := g.pc + 4, stack := .ref T.heap.size :: rest }) target →
        Steps p.tables e below (T.setTop g) target := by
  subst hg
  have hpl : e.platform.magicAccessors = ({} : Platform).magicAccessors := by rw [X.admits.platform]
  obtain ⟨comp, cA, kA, hcomp, hkA, hkindA, hnameA⟩ := am_over hover
  obtain ⟨comp', kC, cc, hcomp', hkC, hkindC⟩ := Cond.arrayClass_spec harr
  have ecomp : comp' = comp := Option.some.inj (hcomp'.symm.trans hcomp)
  subst ecomp
  obtain ⟨c0, hfc0, hcl⟩ := Cond.classLink_spec hown hclink e.platform hpl
  cases hnameA.symm.trans hfc0
  obtain ⟨hg₁, hwarm₁, hready₁⟩ := State.classEntry (e := e) X.warmed hcl
  generalize T.vm.noted g.method.cls index (.cls cA) = vm₁ at hg₁ hwarm₁ hready₁
  have hal : s.vm.Alike vm₁ := hwarm₁.alike
  obtain ⟨kA₁, hkA₁, heA⟩ := hal.2.2 _ _ hkA
  obtain ⟨kC₁, hkC₁, heC⟩ := hal.2.2 _ _ hkC
  have hkindA₁ : kA₁.kind = .array comp' (.array .int) := by rw [heA]; exact hkindA
  have hkindC₁ : kC₁.kind = .array cc .int := by rw [heC]; exact hkindC
  have X₁ := X.noted hwarm₁
  obtain ⟨hr1, hr2⟩ := X.roomAbove hcells hslots
  refine ⟨vm₁, cA, comp', hnameA, hcomp, am_mk_stand X₁ cA comp' _ _ _, fun target hrest => ?_⟩
  have hl1 : ¬ y.toNatClampNeg > e.platform.arrayLengthLimit := by rw [Launch.admits_arrayLengthLimit X.admits]; omega
  have hh1 : ¬ y.toNatClampNeg * componentBytes (.array .int) > e.platform.maxHeapBytes := by
    rw [Launch.admits_maxHeapBytes X.admits]; show ¬ y.toNatClampNeg * 4 > 536870912; omega
  have hl2 : ¬ x.toNatClampNeg > e.platform.arrayLengthLimit := by rw [Launch.admits_arrayLengthLimit X.admits]; omega
  have hh2 : ¬ x.toNatClampNeg * componentBytes .int > e.platform.maxHeapBytes := by
    rw [Launch.admits_maxHeapBytes X.admits]; show ¬ x.toNatClampNeg * 4 > 536870912; omega
  jvm_step X.here [hexec, hdg]
  simp only [multianewarray.sem, wp_bind', Jvm.W.resolveClassAt_links (State.method?_setTop g X.here.top) hg₁]
  rw [Jvm.W.popN, if_neg (by decide)]
  refine ⟨g, State.topJava?_setTop' (s := T.setVm vm₁) g X.here.top, [.int y, .int x], rest, rfl, hstack, ?_⟩
  simp only [List.mapM_cons, List.mapM_nil, wp_bind', wp_pure']
  refine am_wp2 (k := kA₁) (kc := kC₁) (comp := comp') (cc := cc) hkA₁ hkindA₁ hkC₁ hkindC₁ hn hk hl1 hh1 hl2 hh2 (by show T.heap.size + 1 + _ ≤ _; omega) (by show T.slotsUsed + _ + _ ≤ _; omega) (fun d' acts' => ?_)
  have XF := am_mk_stand X₁ cA comp' y.toNatClampNeg x.toNatClampNeg y.toNatClampNeg
  have eS : ((T.setTop g).setVm vm₁).setTop { g with stack := rest } = (T.setVm vm₁).setTop { g with stack := rest } := by
    show ((T.setVm vm₁).setTop g).setTop _ = _
    rw [State.setTop_setTop]
  rw [eS, am_mk_top]
  simp only [wp_bind', Jvm.W.mark, Jvm.W.pushRef, State.topJava?_setTop' _ XF.here.top, Option.some.injEq, exists_eq_left', State.setTop_setTop, State.heap_setTop]
  intro acts
  simp [jvm, XF.here.top]
  exact hrest
end MNB
section MNC
variable {p : Program} {l : Launch} {e : Env} {R : Room} {s : State} {m : MethodId} {args : Array Value} {below : List Frame} {meth : Method} {c : Code} {Q : State → Prop}
variable {D : va_G} {cl : List vw_C} {dI : FieldType → ClassId} {tl : List FieldType} {N0 : Nat} {fl : Nat → Nat} {Fo : State → Heap → Prop} {H0 : Heap} {B Bn : List Cond} {M : am_M}
theorem am_mna_ok (hF : am_Fk N0 Fo) : am_Mna p l e R s m args below meth c Q D cl dI tl N0 fl Fo H0 B Bn M := by
  intro pc ls st h k n i x y hE hd ha hy hx hy4 hx4 hk hn kk H locs la h1 h2 h3 h4 T hT X
  obtain ⟨hx0, hb, hml, hown, hts, htn, hK, -, -, -⟩ := hE
  obtain ⟨a1, a2, a3, a4, a5⟩ := ha
  have hover : (Cond.arrayOver (.array .int)).before args s = true := a5 s H h1.2.2.1
  obtain ⟨vm₁, cA, comp, fA, fC, X', step⟩ := am_mna1 X hx0 hown (hts _ a1) hover (hts _ a2) (g := F0 m pc la ((Value.int x :: Value.int y :: st).map (am_v N0 fl))) rfl (by rw [hb]; exact hd) rfl hy hx hy4 hx4 (by omega) (by omega)
  generalize hG : am_mk (T.setVm vm₁) cA comp y.toNatClampNeg x.toNatClampNeg y.toNatClampNeg = G at X' step
  obtain ⟨f1, f2, -, -⟩ := am_mk_facts (T.setVm vm₁) cA comp y.toNatClampNeg x.toNatClampNeg y.toNatClampNeg
  have f4 := am_mk_in (T.setVm vm₁) cA comp y.toNatClampNeg x.toNatClampNeg y.toNatClampNeg
  rw [hG] at f1 f2 f4
  have hTh : (T.setVm vm₁).heap = H := hT
  rw [hTh] at f1 f2 f4
  have f3 : ∀ a : Nat, a < H.size → G.heap[a]? = H[a]? := fun a ha => by
    have := am_mk_old (T.setVm vm₁) cA comp y.toNatClampNeg x.toNatClampNeg (a := a) (by rw [hTh]; exact ha) y.toNatClampNeg
    rw [hG, hTh] at this
    exact this
  have hsz := h1.1
  obtain ⟨j1, hj1⟩ := am_ty_at (dI := dI) a3
  obtain ⟨j2, hj2⟩ := am_ty_at (dI := dI) a4
  have e1 : dI .int = comp := Option.some.inj (((hK.2 j1 _ hj1).2 : s.vm.findClass ("[" ++ (FieldType.int).toString) = some (dI .int)).symm.trans fC)
  have e2 : dI (.array .int) = cA := Option.some.inj (((hK.2 j2 _ hj2).2 : s.vm.findClass ("[" ++ (FieldType.array .int).toString) = some (dI (.array .int))).symm.trans fA)
  generalize hnew : (.inl (.array .int, (y.toNatClampNeg, .inr (.inr (.inr (.inr fun i => if i < y.toNatClampNeg then some (h.length + 1 + i) else none))))) :: List.replicate y.toNatClampNeg (.inl (.int, (x.toNatClampNeg, .inl fun _ => 0))) : am_H) = nw at kk
  have hlen : nw.length = 1 + y.toNatClampNeg := by rw [← hnew, List.length_cons, List.length_replicate]; omega
  have hat : ∀ i, h.length ≤ i → ∀ z, (h ++ nw)[i]? = some z → va_at D cl (N0 + i, am_e dI N0 fl z) G.heap := by
    intro i hi z hz
    rw [List.getElem?_append_right hi, ← hnew] at hz
    cases hm : i - h.length with
    | zero =>
      rw [hm] at hz
      cases hz
      have e3 : N0 + i = H.size := by omega
      show G.heap[N0 + i]? = some (vp_cell (dI (.array .int)) (y.toNatClampNeg, .inr (.inr (.inr (.inr fun j => (if j < y.toNatClampNeg then some (h.length + 1 + j) else none).map fun k => N0 + k)))))
      rw [e3, f2, am_cq_eq, vp_cell_q, e2]
      congr 2
      funext j
      by_cases q : j < y.toNatClampNeg
      · rw [if_pos q, if_pos q]
        have e9 : H.size + 1 + j = N0 + (h.length + 1 + j) := by omega
        show Value.ref (H.size + 1 + j) = Value.ref (N0 + (h.length + 1 + j))
        rw [e9]
      · rw [if_neg q, if_neg q]
        rfl
    | succ w =>
      rw [hm, List.getElem?_cons_succ] at hz
      rw [List.getElem?_replicate] at hz
      split at hz
      · rename_i hw
        cases hz
        have e3 : N0 + i = H.size + 1 + w := by omega
        show G.heap[N0 + i]? = some (vp_cell (dI .int) (x.toNatClampNeg, .inl fun _ => 0))
        rw [e3, f4 w hw, am_ci_eq, vp_cell_i, e1]
      · cases hz
  have hw := kk G.heap (locs ++ (List.range y.toNatClampNeg).map fun j => ⟨T.heap.size, j⟩) la ⟨by rw [f1, List.length_append, hlen]; omega, ?_, ?_, ?_⟩ ⟨by have := h2.1; omega, ?_, ?_⟩ h3 (by rw [List.length_append, hlen]; omega)
  · obtain ⟨t, b1, b2⟩ := hw G rfl X'
    refine ⟨t, step t ?_, b2⟩
    have e5 : (Value.ref h.length :: st).map (am_v N0 fl) = .ref T.heap.size :: st.map (am_v N0 fl) := by
      rw [hT, hsz]
      rfl
    rw [e5] at b1
    exact b1
  · intro i q hq
    rw [am_w_get] at hq
    obtain ⟨z, hz, rfl⟩ := Option.map_eq_some_iff.mp hq
    by_cases hi : i < h.length
    · rw [List.getElem?_append_left hi] at hz
      exact (h1.2.1 i _ (am_w_at hz)).kept (f3 _ (by show N0 + i < H.size; omega))
    · exact hat i (by omega) z hz
  · exact hF s H G.heap h1.2.2.1 fun a ha => f3 a (by omega)
  · intro i t a e6
    by_cases hi : i < h.length
    · rw [List.getElem?_append_left hi] at e6
      exact h1.2.2.2 i t a e6
    · rw [List.getElem?_append_right (by omega), ← hnew] at e6
      rcases List.mem_cons.mp (List.mem_of_getElem? e6) with q | q
      · cases q
        exact a4
      · have := List.eq_of_mem_replicate q
        cases this
        exact a3
  · intro q q1 q2
    exact (f3 q (by have := h2.1; omega)).trans (h2.2.1 q q1 q2)
  · intro q hq
    rcases List.mem_append.mp hq with hq | hq
    · exact h2.2.2 q hq
    · obtain ⟨z, -, hz⟩ := List.mem_map.mp hq
      rw [← hz]
      show N0 ≤ T.heap.size
      rw [hT]
      omega
end MNC
