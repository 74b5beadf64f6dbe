/-! The abstract machine: cells by places, refs are places, foreign refs are retAddr; nothing here speaks of the program. -/
abbrev am_C : Type := (FieldType × vp_A) ⊕ (Nat × List Value)
abbrev am_H : Type := List am_C
abbrev am_L : Type := List (Nat × Value)
/-- instruction, constant, two numbers, nest mate's, switch table -/
abbrev am_I : Type := Instr × Value × Nat × Nat × Bool × List (Int32 × Nat)
/-- pc, locals, stack, heap, cells, slots -/
abbrev am_T : Type := Nat × am_L × List Value × am_H × Nat × Nat
/-- class name, its field types -/
abbrev am_K : Type := String × List FieldType
/-- what a frame knows: frames and words left, most locals, classes, the script, the texts -/
abbrev am_Z : Type := Nat × Nat × Nat × List am_K × Nat × (Nat → Int32) × (Nat → Nat → Option Int32)
def am_ld : am_L → Nat → Option Value
  | [], _ => none
  | q :: t, i => if q.1 = i then some q.2 else am_ld t i
def am_st1 (ls : am_L) (i : Nat) (v : Value) : am_L := (i, v) :: ls.filter (fun q => !(q.1 == i) && !(q.1 + 1 == i && q.2.category == 2))
def am_st2 (ls : am_L) (i : Nat) (v : Value) : am_L := (i, v) :: ls.filter (fun q => !(q.1 == i) && (!(q.1 == i + 1) && !(q.1 + 1 == i && q.2.category == 2)))
def am_br (c : ClassFile.Cond) (x y : Int32) (a b : Nat) : Nat := match c with
  | .eq => if x = y then a else b
  | .ne => if x = y then b else a
  | .lt => if x < y then a else b
  | .ge => if y ≤ x then a else b
  | .gt => if y < x then a else b
  | .le => if x ≤ y then a else b
def am_sw : List (Int32 × Nat) → Nat → Int32 → Nat
  | [], d, _ => d
  | q :: t, d, x => if x = q.1 then q.2 else am_sw t d x
def am_fit (ty : FieldType) (v : Value) : Bool := match ty, v with
  | .int, .int _ => true
  | .boolean, .int x => x == 0 || x == 1
  | .long, .long _ => true
  | .object _, .ref _ => true
  | .object _, .null => true
  | .object _, .retAddr _ => true
  | .array _, .ref _ => true
  | .array _, .null => true
  | .array _, .retAddr _ => true
  | _, _ => false
def am_rfl (v : Value) : Bool := match v with
  | .ref _ => true
  | .null => true
  | .retAddr _ => true
  | _ => false
def am_eqr (v w : Value) : Option Bool := match v, w with
  | .ref a, .ref b => some (a == b)
  | .ref _, .null => some false
  | .null, .ref _ => some false
  | .null, .null => some true
  | _, _ => none
def am_small (t : FieldType) : Bool := match t with
  | .int => true
  | .boolean => true
  | .byte => true
  | .long => true
  | _ => false
def am_z0 (t : FieldType) (n : Nat) : vp_A := match t with
  | .long => (n, .inr (.inl fun _ => 0))
  | _ => (n, .inl fun _ => 0)
def am_sum : List Value → Nat
  | [] => 0
  | v :: st => v.category + am_sum st
theorem am_sum_eq : ∀ st : List Value, am_sum st = (st.map fun v => v.category).sum
  | [] => rfl
  | v :: st => by rw [List.map_cons, List.sum_cons, ← am_sum_eq st]; rfl
/-- one simple instruction -/
def am_s (z : am_Z) (I : am_I) (pc : Nat) (ls : am_L) (st : List Value) (h : am_H) (k n : Nat) : Option am_T :=
  let nL := z.2.2.1
  let ct := z.2.2.2.1
  let v := I.2.1
  let a := I.2.2.1
  let b := I.2.2.2.1
  match I.1 with
  | .iconst x => some (pc + 1, ls, .int (Int32.ofInt x) :: st, h, k, n)
  | .bipush x => some (pc + 2, ls, .int (Int8.ofInt x).toInt32 :: st, h, k, n)
  | .sipush x => some (pc + 3, ls, .int (Int16.ofInt x).toInt32 :: st, h, k, n)
  | .lconst x => some (pc + 1, ls, .long (Int64.ofNat (x : Nat)) :: st, h, k, n)
  | .ldc _ => some (pc + 2, ls, v :: st, h, k, n)
  | .ldc_w _ => some (pc + 3, ls, v :: st, h, k, n)
  | .ldc2_w _ => some (pc + 3, ls, v :: st, h, k, n)
  | .aconst_null => some (pc + 1, ls, .null :: st, h, k, n)
  | .iload i => match am_ld ls i with
    | some (.int x) => some (pc + 2, ls, .int x :: st, h, k, n)
    | _ => none
  | .iload_n i => match am_ld ls i with
    | some (.int x) => some (pc + 1, ls, .int x :: st, h, k, n)
    | _ => none
  | .lload i => match am_ld ls i with
    | some (.long x) => some (pc + 2, ls, .long x :: st, h, k, n)
    | _ => none
  | .lload_n i => match am_ld ls i with
    | some (.long x) => some (pc + 1, ls, .long x :: st, h, k, n)
    | _ => none
  | .aload i => match am_ld ls i with
    | some v => if am_rfl v then some (pc + 2, ls, v :: st, h, k, n) else none
    | none => none
  | .aload_n i => match am_ld ls i with
    | some v => if am_rfl v then some (pc + 1, ls, v :: st, h, k, n) else none
    | none => none
  | .istore i => match st with
    | .int x :: st => if i < nL then some (pc + 2, am_st1 ls i (.int x), st, h, k, n) else none
    | _ => none
  | .istore_n i => match st with
    | .int x :: st => if (i : Nat) < nL then some (pc + 1, am_st1 ls i (.int x), st, h, k, n) else none
    | _ => none
  | .lstore i => match st with
    | .long x :: st => if i + 1 < nL then some (pc + 2, am_st2 ls i (.long x), st, h, k, n) else none
    | _ => none
  | .lstore_n i => match st with
    | .long x :: st => if (i : Nat) + 1 < nL then some (pc + 1, am_st2 ls i (.long x), st, h, k, n) else none
    | _ => none
  | .astore i => match st with
    | v :: st => if i < nL ∧ am_rfl v = true then some (pc + 2, am_st1 ls i v, st, h, k, n) else none
    | _ => none
  | .astore_n i => match st with
    | v :: st => if (i : Nat) < nL ∧ am_rfl v = true then some (pc + 1, am_st1 ls i v, st, h, k, n) else none
    | _ => none
  | .iinc i x => match am_ld ls i with
    | some (.int w) => if i < nL then some (pc + 3, am_st1 ls i (.int (w + Int32.ofInt x)), st, h, k, n) else none
    | _ => none
  | .iadd => match st with
    | .int y :: .int x :: st => some (pc + 1, ls, .int (x + y) :: st, h, k, n)
    | _ => none
  | .isub => match st with
    | .int y :: .int x :: st => some (pc + 1, ls, .int (x - y) :: st, h, k, n)
    | _ => none
  | .imul => match st with
    | .int y :: .int x :: st => some (pc + 1, ls, .int (x * y) :: st, h, k, n)
    | _ => none
  | .iand => match st with
    | .int y :: .int x :: st => some (pc + 1, ls, .int (x &&& y) :: st, h, k, n)
    | _ => none
  | .ior => match st with
    | .int y :: .int x :: st => some (pc + 1, ls, .int (x ||| y) :: st, h, k, n)
    | _ => none
  | .ixor => match st with
    | .int y :: .int x :: st => some (pc + 1, ls, .int (x ^^^ y) :: st, h, k, n)
    | _ => none
  | .idiv => match st with
    | .int y :: .int x :: st => if y = 0 then none else some (pc + 1, ls, .int (x / y) :: st, h, k, n)
    | _ => none
  | .irem => match st with
    | .int y :: .int x :: st => if y = 0 then none else some (pc + 1, ls, .int (x - x / y * y) :: st, h, k, n)
    | _ => none
  | .ineg => match st with
    | .int x :: st => some (pc + 1, ls, .int (-x) :: st, h, k, n)
    | _ => none
  | .ishl => match st with
    | .int y :: .int x :: st => some (pc + 1, ls, .int (x <<< (y &&& 31)) :: st, h, k, n)
    | _ => none
  | .ishr => match st with
    | .int y :: .int x :: st => some (pc + 1, ls, .int (x >>> (y &&& 31)) :: st, h, k, n)
    | _ => none
  | .iushr => match st with
    | .int y :: .int x :: st => some (pc + 1, ls, .int (x.toUInt32 >>> (y.toUInt32 &&& Int32.toUInt32 31)).toInt32 :: st, h, k, n)
    | _ => none
  | .i2l => match st with
    | .int x :: st => some (pc + 1, ls, .long x.toInt64 :: st, h, k, n)
    | _ => none
  | .l2i => match st with
    | .long x :: st => some (pc + 1, ls, .int x.toInt32 :: st, h, k, n)
    | _ => none
  | .i2b => match st with
    | .int x :: st => some (pc + 1, ls, .int x.toInt8.toInt32 :: st, h, k, n)
    | _ => none
  | .i2c => match st with
    | .int x :: st => some (pc + 1, ls, .int (x.toUInt32 % 65536).toInt32 :: st, h, k, n)
    | _ => none
  | .ladd => match st with
    | .long y :: .long x :: st => some (pc + 1, ls, .long (x + y) :: st, h, k, n)
    | _ => none
  | .lsub => match st with
    | .long y :: .long x :: st => some (pc + 1, ls, .long (x - y) :: st, h, k, n)
    | _ => none
  | .lmul => match st with
    | .long y :: .long x :: st => some (pc + 1, ls, .long (x * y) :: st, h, k, n)
    | _ => none
  | .ldiv => match st with
    | .long y :: .long x :: st => if y = 0 then none else some (pc + 1, ls, .long (x / y) :: st, h, k, n)
    | _ => none
  | .lrem => match st with
    | .long y :: .long x :: st => if y = 0 then none else some (pc + 1, ls, .long (x - x / y * y) :: st, h, k, n)
    | _ => none
  | .lneg => match st with
    | .long x :: st => some (pc + 1, ls, .long (-x) :: st, h, k, n)
    | _ => none
  | .lcmp => match st with
    | .long y :: .long x :: st => some (pc + 1, ls, .int (lg_cmp x y) :: st, h, k, n)
    | _ => none
  | .dup => match st with
    | v :: st => if v.category = 1 then some (pc + 1, ls, v :: v :: st, h, k, n) else none
    | _ => none
  | .pop => match st with
    | v :: st => if v.category = 1 then some (pc + 1, ls, st, h, k, n) else none
    | _ => none
  | .dup_x1 => match st with
    | v :: w :: st => if v.category = 1 ∧ w.category = 1 then some (pc + 1, ls, v :: w :: v :: st, h, k, n) else none
    | _ => none
  | .dup_x2 => match st with
    | v :: w :: u :: st => if v.category = 1 ∧ w.category = 1 ∧ u.category = 1 then some (pc + 1, ls, v :: w :: u :: v :: st, h, k, n) else none
    | _ => none
  | .dup2 => match st with
    | v :: w :: st => if v.category = 1 ∧ w.category = 1 then some (pc + 1, ls, v :: w :: v :: w :: st, h, k, n) else none
    | _ => none
  | .goto _ => some (a, ls, st, h, k, n)
  | .ifCond c _ => match st with
    | .int x :: st => some (am_br c x 0 a (pc + 3), ls, st, h, k, n)
    | _ => none
  | .if_icmp c _ => match st with
    | .int y :: .int x :: st => some (am_br c x y a (pc + 3), ls, st, h, k, n)
    | _ => none
  | .ifnull _ => match st with
    | .null :: st => some (a, ls, st, h, k, n)
    | .ref _ :: st => some (pc + 3, ls, st, h, k, n)
    | _ => none
  | .ifnonnull _ => match st with
    | .null :: st => some (pc + 3, ls, st, h, k, n)
    | .ref _ :: st => some (a, ls, st, h, k, n)
    | _ => none
  | .if_acmp c _ => match st with
    | w :: v :: st => match am_eqr v w with
      | some q => some (if (if c = .eq then q else !q) = true then a else pc + 3, ls, st, h, k, n)
      | none => none
    | _ => none
  | .tableswitch _ _ _ _ => match st with
    | .int x :: st => some (am_sw I.2.2.2.2.2 a x, ls, st, h, k, n)
    | _ => none
  | .lookupswitch _ _ => match st with
    | .int x :: st => some (am_sw I.2.2.2.2.2 a x, ls, st, h, k, n)
    | _ => none
  | .getfield _ => match st with
    | .ref o :: st => match h[o]? with
      | some (.inr (ci, vs)) => if ci = a then (match vs[b]? with
        | some w => some (pc + 3, ls, w :: st, h, k, n)
        | none => none) else none
      | _ => none
    | _ => none
  | .putfield _ => match st with
    | w :: .ref o :: st => match h[o]?, (ct[a]?).bind (fun q => q.2[b]?) with
      | some (.inr (ci, vs)), some ty => if ci = a ∧ b < vs.length ∧ am_fit ty w = true then some (pc + 3, ls, st, h.set o (.inr (ci, vs.set b w)), k, n) else none
      | _, _ => none
    | _ => none
  | .new _ => match ct[a]? with
    | some q => some (pc + 3, ls, .ref h.length :: st, h ++ [.inr (a, q.2.map defaultValue)], k + 1, n + q.2.length)
    | none => none
  | .newarray t => match st with
    | .int x :: st => if am_small (newarray.typeOf t) = true ∧ ¬ x < 0 ∧ x.toNatClampNeg * 8 ≤ 536870912 then
        some (pc + 2, ls, .ref h.length :: st, h ++ [.inl (newarray.typeOf t, am_z0 (newarray.typeOf t) x.toNatClampNeg)], k + 1, n + x.toNatClampNeg) else none
    | _ => none
  | .anewarray _ => match st with
    | .int x :: st => match ct[a]? with
      | some q => if ¬ x < 0 ∧ x.toNatClampNeg * 4 ≤ 536870912 then
          some (pc + 3, ls, .ref h.length :: st, h ++ [.inl (.object q.1, (x.toNatClampNeg, .inr (.inr (.inr (.inr fun _ => none)))))], k + 1, n + x.toNatClampNeg) else none
      | none => none
    | _ => none
  | .arraylength => match st with
    | .ref o :: st => match h[o]? with
      | some (.inl (_, x)) => some (pc + 1, ls, .int (Int32.ofNat x.1) :: st, h, k, n)
      | _ => none
    | .retAddr 0 :: st => some (pc + 1, ls, .int (Int32.ofNat z.2.2.2.2.1) :: st, h, k, n)
    | _ => none
  | .iaload => match st with
    | .int i :: .ref o :: st => match h[o]? with
      | some (.inl (.int, (m, .inl f))) => if i < 0 ∨ m ≤ i.toNatClampNeg then none else some (pc + 1, ls, .int (f i.toNatClampNeg) :: st, h, k, n)
      | _ => none
    | .int i :: .retAddr 0 :: st => if i < 0 ∨ z.2.2.2.2.1 ≤ i.toNatClampNeg then none else some (pc + 1, ls, .int (z.2.2.2.2.2.1 i.toNatClampNeg) :: st, h, k, n)
    | _ => none
  | .baload => match st with
    | .int i :: .ref o :: st => match h[o]? with
      | some (.inl (.boolean, (m, .inl f))) => if i < 0 ∨ m ≤ i.toNatClampNeg then none else some (pc + 1, ls, .int (f i.toNatClampNeg) :: st, h, k, n)
      | some (.inl (.byte, (m, .inl f))) => if i < 0 ∨ m ≤ i.toNatClampNeg then none else some (pc + 1, ls, .int (f i.toNatClampNeg) :: st, h, k, n)
      | _ => none
    | _ => none
  | .aaload => match st with
    | .int i :: .ref o :: st => match h[o]? with
      | some (.inl (t, (m, .inr (.inr (.inr (.inr f)))))) => if (i < 0 ∨ m ≤ i.toNatClampNeg) ∨ t.isReference = false then none else some (pc + 1, ls, va_rf (f i.toNatClampNeg) :: st, h, k, n)
      | _ => none
    | _ => none
  | .laload => match st with
    | .int i :: .ref o :: st => match h[o]? with
      | some (.inl (.long, (m, .inr (.inl f)))) => if i < 0 ∨ m ≤ i.toNatClampNeg then none else some (pc + 1, ls, .long (f i.toNatClampNeg) :: st, h, k, n)
      | _ => none
    | _ => none
  | .lastore => match st with
    | .long w :: .int i :: .ref o :: st => match h[o]? with
      | some (.inl (.long, (m, .inr (.inl f)))) => if i < 0 ∨ m ≤ i.toNatClampNeg then none else some (pc + 1, ls, st, h.set o (.inl (.long, (m, .inr (.inl (vp_updL f i.toNatClampNeg w))))), k, n)
      | _ => none
    | _ => none
  | .multianewarray _ _ => match st with
    | .int x :: .int y :: st => if (¬ y < 0 ∧ ¬ x < 0) ∧ y.toNatClampNeg * 4 ≤ 536870912 ∧ x.toNatClampNeg * 4 ≤ 536870912 then
        some (pc + 4, ls, .ref h.length :: st, h ++ (.inl (.array .int, (y.toNatClampNeg, .inr (.inr (.inr (.inr fun i => if i < y.toNatClampNeg then some (h.length + 1 + i) else none))))) :: List.replicate y.toNatClampNeg (.inl (.int, (x.toNatClampNeg, .inl fun _ => 0)))),
          k + 1 + y.toNatClampNeg, n + y.toNatClampNeg + y.toNatClampNeg * x.toNatClampNeg) else none
    | _ => none
  | .iastore => match st with
    | .int w :: .int i :: .ref o :: st => match h[o]? with
      | some (.inl (.int, (m, .inl f))) => if i < 0 ∨ m ≤ i.toNatClampNeg then none else some (pc + 1, ls, st, h.set o (.inl (.int, (m, .inl (upd f i.toNatClampNeg w)))), k, n)
      | _ => none
    | _ => none
  | .bastore => match st with
    | .int w :: .int i :: .ref o :: st => match h[o]? with
      | some (.inl (.boolean, (m, .inl f))) => if i < 0 ∨ m ≤ i.toNatClampNeg then none else some (pc + 1, ls, st, h.set o (.inl (.boolean, (m, .inl (upd f i.toNatClampNeg (vp_nar .boolean w))))), k, n)
      | some (.inl (.byte, (m, .inl f))) => if i < 0 ∨ m ≤ i.toNatClampNeg then none else some (pc + 1, ls, st, h.set o (.inl (.byte, (m, .inl (upd f i.toNatClampNeg (vp_nar .byte w))))), k, n)
      | _ => none
    | _ => none
  | .aastore => match st with
    | .null :: .int i :: .ref o :: st => match h[o]? with
      | some (.inl (.object c, (m, .inr (.inr (.inr (.inr f)))))) => if i < 0 ∨ m ≤ i.toNatClampNeg then none else some (pc + 1, ls, st, h.set o (.inl (.object c, (m, .inr (.inr (.inr (.inr (va_up f i.toNatClampNeg none))))))), k, n)
      | _ => none
    | .ref w :: .int i :: .ref o :: st => match h[o]?, h[w]? with
      | some (.inl (.object c, (m, .inr (.inr (.inr (.inr f)))))), some (.inr (ci, _)) => if (i < 0 ∨ m ≤ i.toNatClampNeg) ∨ (ct[ci]?).map (fun q => q.1) ≠ some c then none else some (pc + 1, ls, st, h.set o (.inl (.object c, (m, .inr (.inr (.inr (.inr (va_up f i.toNatClampNeg (some w)))))))), k, n)
      | _, _ => none
    | _ => none
  | .invokespecial _ => match st with
    | .ref _ :: st => if a = 1000 ∧ 0 < z.1 ∧ 26 ≤ z.2.1 ∧ am_sum st ≤ 8 then some (pc + 3, ls, st, h, k, n) else none
    | _ => none
  | .invokevirtual _ => match st with
    | .int i :: .retAddr j :: st => if a = 1007 ∧ ¬ i < 0 ∧ 4 ≤ z.1 ∧ 120 ≤ z.2.1 ∧ am_sum st ≤ 8 then (match z.2.2.2.2.2.2 j i.toNatClampNeg with
      | some x => some (pc + 3, ls, .int x :: st, h, k, n)
      | none => none) else none
    | _ => none
  | .invokestatic _ => match a with
    | 1001 => match st with
      | .int w :: .int dp :: .ref d :: .int sp :: .ref o :: st => match h[o]?, h[d]? with
        | some (.inl (.int, (m0, .inl f))), some (.inl (.int, (m1, .inl g))) =>
          if (¬ sp < 0 ∧ ¬ dp < 0 ∧ ¬ w < 0) ∧ sp.toNatClampNeg + w.toNatClampNeg ≤ m0 ∧ dp.toNatClampNeg + w.toNatClampNeg ≤ m1 ∧ 0 < z.1 ∧ 26 ≤ z.2.1 ∧ am_sum st ≤ 8 then
            some (pc + 3, ls, st, h.set d (.inl (.int, (m1, .inl (va_cpy f g sp.toNatClampNeg dp.toNatClampNeg w.toNatClampNeg)))), k, n) else none
        | _, _ => none
      | _ => none
    | 1002 => match st with
      | .int y :: .int x :: st => if 0 < z.1 ∧ 26 ≤ z.2.1 ∧ am_sum st ≤ 8 then some (pc + 3, ls, .int (if x < y then y else x) :: st, h, k, n) else none
      | _ => none
    | 1003 => match st with
      | .int y :: .int x :: st => if 0 < z.1 ∧ 26 ≤ z.2.1 ∧ am_sum st ≤ 8 then some (pc + 3, ls, .int (if y < x then y else x) :: st, h, k, n) else none
      | _ => none
    | 1004 => match st with
      | .int x :: st => if 0 < z.1 ∧ 26 ≤ z.2.1 ∧ am_sum st ≤ 8 then some (pc + 3, ls, .int (if 0 ≤ x then x else 0 - x) :: st, h, k, n) else none
      | _ => none
    | 1005 => match st with
      | .long y :: .long x :: st => if 0 < z.1 ∧ 26 ≤ z.2.1 ∧ am_sum st ≤ 8 then some (pc + 3, ls, .long (if y < x then y else x) :: st, h, k, n) else none
      | _ => none
    | 1008 => match st with
      | .ref w :: .int i :: .ref o :: st => match h[o]?, h[w]? with
        | some (.inr (11, vs)), some (.inl (.long, (m, .inr (.inl f)))) => match vs[b]?, vs[b + 1]? with
          | some (.ref oa), some (.int wr) => match h[oa]? with
            | some (.inl (.int, (m1, .inl g))) =>
              if 10 ≤ z.1 ∧ 300 ≤ z.2.1 ∧ am_sum st ≤ 8 ∧ 0 < m then
                if i < 0 ∨ wr ≤ i then some (pc + 3, ls, .int 1 :: st, h ++ [.inr (13, [])], k + 1, n + 6)
                else if m1 ≤ i.toNatClampNeg then none
                else some (pc + 3, ls, .int 0 :: st, h.set w (.inl (.long, (m, .inr (.inl (vp_updL f 0 (g i.toNatClampNeg).toInt64))))), k, n)
              else none
            | _ => none
          | _, _ => none
        | _, _ => none
      | _ => none
    | 1006 => match st with
      | .long x :: st => if 0 < z.1 ∧ 26 ≤ z.2.1 ∧ am_sum st ≤ 8 then some (pc + 3, ls, .long (if 0 < x then x else -x) :: st, h, k, n) else none
      | _ => none
    | _ => none
  | _ => none
/-- a method: name, code, most locals, what it returns -/
abbrev am_M : Type := MethodName × ByteArray × Nat × Option FieldType
/-- an answer: value, heap, cells, slots -/
abbrev am_A : Type := Option Value × am_H × Nat × Nat
def am_isr (t : FieldType) : Bool := match t with
  | .object _ => true
  | .array _ => true
  | _ => false
def am_ret (i : Instr) (ret : Option FieldType) (st : List Value) (h : am_H) (k n : Nat) : Option am_A := match i with
  | .return_ => match ret, st with
    | none, [] => some (none, h, k, n)
    | _, _ => none
  | .ireturn => match ret, st with
    | some ty, [.int x] => if narrow ty (.int x) = .int x then some (some (.int x), h, k, n) else none
    | _, _ => none
  | .areturn => match ret, st with
    | some ty, [v] => if am_isr ty = true ∧ am_rfl v = true then some (some v, h, k, n) else none
    | _, _ => none
  | .lreturn => match ret, st with
    | some .long, [.long x] => some (some (.long x), h, k, n)
    | _, _ => none
  | _ => none
/-- 0: a simple one, 1: a return, 2: a call without a receiver, 3: a call with one -/
def am_kd (I : am_I) : Nat := match I.1 with
  | .return_ => 1
  | .ireturn => 1
  | .areturn => 1
  | .lreturn => 1
  | .invokestatic _ => if I.2.2.1 < 1000 then 2 else 0
  | .invokevirtual _ => if I.2.2.1 < 1000 then 3 else 0
  | .invokespecial _ => if I.2.2.1 < 1000 then 3 else 0
  | _ => 0
/-- what a call takes: its arguments (the receiver first), the rest of the stack -/
def am_pop (ct : List am_K) (C : String) (kd b : Nat) (st : List Value) (h : am_H) : Option (List Value × List Value) :=
  if st.length < b then none
  else if kd = 2 then some ((st.take b).reverse, st.drop b)
  else match st.drop b with
    | .ref o :: rest => match h[o]? with
      | some (.inr (ci, _)) => if (ct[ci]?).map (fun q => q.1) = some C then some (.ref o :: (st.take b).reverse, rest) else none
      | _ => none
    | _ => none
/-- the machine: fuel, frames, words, method, pc, locals, stack, heap, cells, slots -/
def am_x (co : Nat → Nat → Option am_I) (mt : Nat → am_M) (ct : List am_K) (sL : Nat) (sx : Nat → Int32) (cs : Nat → Nat → Option Int32) :
    Nat → Nat → Nat → Nat → Nat → am_L → List Value → am_H → Nat → Nat → Option am_A
  | 0, _, _, _, _, _, _, _, _, _ => none
  | f + 1, d, q, y, pc, ls, st, h, k, n =>
    match co y pc with
    | none => none
    | some I =>
      if am_kd I = 0 then match am_s (d, q, (mt y).2.2.1, ct, sL, sx, cs) I pc ls st h k n with
        | none => none
        | some t => am_x co mt ct sL sx cs f d q y t.1 t.2.1 t.2.2.1 t.2.2.2.1 t.2.2.2.2.1 t.2.2.2.2.2
      else if am_kd I = 1 then am_ret I.1 (mt y).2.2.2 st h k n
      else match am_pop ct (mt I.2.2.1).1.cls (am_kd I) I.2.2.2.1 st h with
        | none => none
        | some (as, rest) =>
          if 0 < d ∧ 19 + (mt I.2.2.1).2.2.1 ≤ q ∧ am_sum rest ≤ 8 ∧ am_sum as ≤ (mt I.2.2.1).2.2.1 then
            match am_x co mt ct sL sx cs f (d - 1) (q - (19 + (mt I.2.2.1).2.2.1)) I.2.2.1 0 (lv_args 0 as) [] h 0 0 with
            | none => none
            | some r => am_x co mt ct sL sx cs f d q y (pc + 3) ls (r.1.toList ++ rest) r.2.1 (k + r.2.2.1) (n + r.2.2.2)
          else none
/-- one step of a free run: no frames or words are counted -/
def am_1 (co : Nat → Nat → Option am_I) (mt : Nat → am_M) (ct : List am_K) (sL : Nat) (sx : Nat → Int32) (cs : Nat → Nat → Option Int32) (F : Nat → Nat → am_L → List Value → am_H → Nat → Nat → Option am_A) (y pc : Nat) (ls : am_L) (st : List Value) (h : am_H) (k n : Nat) : Option am_A :=
  match co y pc with
  | none => none
  | some I =>
    if am_kd I = 0 then (am_s (10, 300, (mt y).2.2.1, ct, sL, sx, cs) I pc ls st h k n).bind fun t => F y t.1 t.2.1 t.2.2.1 t.2.2.2.1 t.2.2.2.2.1 t.2.2.2.2.2
    else if am_kd I = 1 then am_ret I.1 (mt y).2.2.2 st h k n
    else (am_pop ct (mt I.2.2.1).1.cls (am_kd I) I.2.2.2.1 st h).bind fun w =>
      if am_sum w.2 ≤ 8 ∧ am_sum w.1 ≤ (mt I.2.2.1).2.2.1 then (F I.2.2.1 0 (lv_args 0 w.1) [] h 0 0).bind fun r => F y (pc + 3) ls (r.1.toList ++ w.2) r.2.1 (k + r.2.2.1) (n + r.2.2.2) else none
def am_y (co : Nat → Nat → Option am_I) (mt : Nat → am_M) (ct : List am_K) (sL : Nat) (sx : Nat → Int32) (cs : Nat → Nat → Option Int32) : Nat → Nat → Nat → am_L → List Value → am_H → Nat → Nat → Option am_A
  | 0 => fun _ _ _ _ _ _ _ => none
  | f + 1 => am_1 co mt ct sL sx cs (am_y co mt ct sL sx cs f)
noncomputable def am_X (co : Nat → Nat → Option am_I) (mt : Nat → am_M) (ct : List am_K) (sL : Nat) (sx : Nat → Int32) (cs : Nat → Nat → Option Int32) (y pc : Nat) (ls : am_L) (st : List Value) (h : am_H) (k n : Nat) : Option am_A :=
  @dite (Option am_A) (∃ (A : am_A) (f : Nat), am_y co mt ct sL sx cs f y pc ls st h k n = some A) (Classical.propDecidable _) (fun e => some (Classical.choose e)) (fun _ => none)
