/-! The program as functions. -/
def j171_59 (N h b : Nat) (rc : Int32 → Int32 → xA → Option (Nat × Int32 × xA)) (w1 : Int32) (w2 : Nat) (w4 : Int32) (q3 : Int32) (q5 : Int32) (q6 : Int32) (a : xA) : Option (Nat × Int32 × xA) :=
  j171_60 N h b (rc) w1 w2 w4 q3 q5 q6 0 a

def l171_14 (N h b : Nat) (w1 : Int32) (w2 : Nat) (w4 : Int32) : Nat → Int32 → Int32 → xA → Option (Nat × Int32 × xA)
  | 0, _, _, _ => none
  | n + 1, v3, v5, a => if w4 ≤ v5 then (some (2, v3, a)) else (xb2 (f164_get N h b 121 0 a) (fun r11 a12 => if (if r11 = 256 then (1 : Int32) else (0 : Int32)) = 0 then (j171_59 N h b (l171_14 N h b w1 w2 w4 n) w1 w2 w4 v3 v5 (if r11 = 256 then (1 : Int32) else (0 : Int32)) a12) else (xb2 (f162_has N h b 1 a12) (fun r37 a38 => if v3 < w1 then (j171_75 N h b (l171_14 N h b w1 w2 w4 n) w1 w2 w4 v3 v5 (if r11 = 256 then (1 : Int32) else (0 : Int32)) (if r37 = 0 then (0 : Int32) else (1 : Int32)) a38) else (if (if r37 = 0 then (0 : Int32) else (1 : Int32)) = 0 then (some (0, v3, a38)) else (j171_75 N h b (l171_14 N h b w1 w2 w4 n) w1 w2 w4 v3 v5 (if r11 = 256 then (1 : Int32) else (0 : Int32)) (if r37 = 0 then (0 : Int32) else (1 : Int32)) a38))))))

/-- TerminalHouse$Discipline.takeReady(I[I)I -/
def f171_takeReady (N h b : Nat) (x0 : Int32) (x1 : Nat) (a : xA) : Option (Int32 × xA) :=
  xg (xk x1 = 100) (xb2 (f163_size N h b 121 a) (fun r5 a6 => (l171_14 N h b x0 x1 r5 N 0 0 a6).bind (fun z44 => if z44.1 = 0 then (some (z44.2.1, z44.2.2)) else (if z44.1 = 1 then (some (z44.2.1, z44.2.2)) else (some (z44.2.1, z44.2.2))))))

/-- TerminalHouse.read(I)I -/
def f170_read (N h b : Nat) (x0 : Int32) (a : xA) : Option (Int32 × xA) :=
  if x0 < 1 then (some ((-1), a)) else (if 300 < x0 then (some ((-1), a)) else (xb2 (f163_size N h b 121 a) (fun r9 a10 => if r9 = 0 then (some ((-1), a10)) else (xb2 (f171_takeReady N h b x0 2 a10) (fun r15 a16 => xw (xU a16 0 3 r15) (fun a17 => some (a17 0 3, a17)))))))

def j174_61 (N h b : Nat) (q1 : Int32) (q2 : Int32) (a : xA) : Option (Int32 × xA) :=
  xg (¬ (q1 < 0 ∨ 127 ≤ q1.toNatClampNeg)) (xw (xU a 124 (q1.toNatClampNeg) (vp_nar .boolean q2)) (fun a14 => some (1, a14)))

def j174_24 (N h b : Nat) (q1 : Int32) (q2 : Int32) (a : xA) : Option (Int32 × xA) :=
  xg (¬ (q1 < 0 ∨ 127 ≤ q1.toNatClampNeg)) (if q2 = (a 124 (q1.toNatClampNeg)) then (j174_61 N h b q1 q2 a) else (if (a 125 (q1.toNatClampNeg)) = 0 then (xw (xU a 123 2 ((a 123 2) + (if q2 = 0 then (-1 : Int32) else (1 : Int32)))) (fun a21 => j174_61 N h b q1 q2 a21)) else (j174_61 N h b q1 q2 a)))

/-- TerminalHouse$Keyboard.press(IZ)Z -/
def f174_press (N h b : Nat) (x0 : Int32) (x1 : Int32) (a : xA) : Option (Int32 × xA) :=
  if x0 < 0 then (some (0, a)) else (if 127 ≤ x0 then (some (0, a)) else (if x0 ≤ 28 then (j174_24 N h b x0 x1 a) else (if 32 ≤ x0 then (j174_24 N h b x0 x1 a) else (some (0, a)))))

/-- TerminalHouse.key(IZ)Z -/
def f173_key (N h b : Nat) (x0 : Int32) (x1 : Int32) (a : xA) : Option (Int32 × xA) :=
  xb2 (f174_press N h b x0 x1 a) (fun r4 a5 => xg (r4 = 0 ∨ r4 = 1) (some (r4, a5)))

/-- TerminalHouse$Wire.spoilByte()Z -/
def f176_spoilByte (N h b : Nat) (o : Nat) (a : xA) : Option (Int32 × xA) :=
  xg (xk o = 11) (xg ((if (a o 0) = (-1) then (0 : Int32) else (1 : Int32)) = 0 ∨ (if (a o 0) = (-1) then (0 : Int32) else (1 : Int32)) = 1) (xw (xU a o 2 (if (a o 0) = (-1) then (0 : Int32) else (1 : Int32))) (fun a3 => xg ((a3 o 2) = 0 ∨ (a3 o 2) = 1) (some (a3 o 2, a3)))))

/-- TerminalHouse.spoil(I)Z -/
def f175_spoil (N h b : Nat) (x0 : Int32) (a : xA) : Option (Int32 × xA) :=
  if x0 = 0 then (xb2 (f176_spoilByte N h b 127 a) (fun r5 a6 => xg (r5 = 0 ∨ r5 = 1) (some (r5, a6)))) else (if x0 = 1 then (xb2 (f176_spoilByte N h b 128 a) (fun r12 a13 => xg (r12 = 0 ∨ r12 = 1) (some (r12, a13)))) else (some (0, a)))

/-- TerminalHouse$Wire.arriving(I)I -/
def f178_arriving (N h b : Nat) (o : Nat) (x0 : Int32) (a : xA) : Option (Int32 × xA) :=
  xg (xk o = 11) (if (a o 0) = (-1) then (some ((-1), a)) else (if (a o 1) ≤ x0 then (xw (xU a o 0 (-1)) (fun a8 => some ((if (a o 2) = 0 then (a o 0) else (256 : Int32)), a8))) else (some ((-1), a))))

def j179_51 (N h b : Nat) (a : xA) : Option (xA) :=
  xb2 (f163_size N h b 130 a) (fun r12 a13 => if r12 < 48 then (some a13) else (xw (xU a13 129 4 1) (fun a16 => some a16)))

def j179_12 (N h b : Nat) (q1 : Int32) (a : xA) : Option (xA) :=
  xg ((if q1 = 19 then (1 : Int32) else (0 : Int32)) = 0 ∨ (if q1 = 19 then (1 : Int32) else (0 : Int32)) = 1) (xw (xU a 129 6 (if q1 = 19 then (1 : Int32) else (0 : Int32))) (fun a5 => j179_51 N h b a5))

/-- TerminalHouse$Terminal.receive(I)V -/
def f179_receive (N h b : Nat) (x0 : Int32) (a : xA) : Option (xA) :=
  if x0 = 19 then (j179_12 N h b x0 a) else (if x0 = 17 then (j179_12 N h b x0 a) else (xb2 (f156_add N h b 130 x0 a) (fun r25 a26 => if r25 = 0 then (xw (xU a26 129 8 ((a26 129 8) + 1)) (fun a29 => j179_51 N h b a29)) else (j179_51 N h b a26))))

def j183_19 (N h b : Nat) (a : xA) : Option (Int32 × xA) :=
  some (1, a)

/-- TerminalHouse$Discipline.isEchoedAsItself(I)Z -/
def f183_isEchoedAsItself (N h b : Nat) (x0 : Int32) (a : xA) : Option (Int32 × xA) :=
  if x0 = 9 then (j183_19 N h b a) else (if x0 = 10 then (j183_19 N h b a) else (xb2 (f110_isPrintable N h b x0 a) (fun r9 a10 => xg ((if r9 = 0 then (0 : Int32) else (1 : Int32)) = 0 ∨ (if r9 = 0 then (0 : Int32) else (1 : Int32)) = 1) (some ((if r9 = 0 then (0 : Int32) else (1 : Int32)), a10)))))

/-- TerminalHouse$Discipline.echo(I)V -/
def f182_echo (N h b : Nat) (x0 : Int32) (a : xA) : Option (xA) :=
  xb2 (f162_has N h b 2 a) (fun r4 a5 => if r4 = 0 then (some a5) else (xb2 (f183_isEchoedAsItself N h b x0 a5) (fun r10 a11 => if r10 = 0 then (xb2 (f167_put N h b 94 a11) (fun r17 a18 => xb2 (f167_put N h b (x0 ^^^ 64) a18) (fun r22 a23 => some a23))) else (xb2 (f167_put N h b x0 a11) (fun r27 a28 => some a28)))))

def j181_76 (N h b : Nat) (q1 : Int32) (a : xA) : Option (xA) :=
  xb1 (f182_echo N h b q1 a) (fun a30 => some a30)

def j181_43 (N h b : Nat) (q1 : Int32) (q2 : Int32) (t0 : Int32) (a : xA) : Option (xA) :=
  if t0 = 0 then (xb2 (f167_put N h b 7 a) (fun r23 a24 => some a24)) else (if q2 = 0 then (j181_76 N h b q1 a) else (xb2 (f162_has N h b 1 a) (fun r34 a35 => if r34 = 0 then (j181_76 N h b q1 a35) else (xw (xU a35 116 8 (a35 116 7)) (fun a38 => j181_76 N h b q1 a38)))))

/-- TerminalHouse$Discipline.take(I)V -/
def f181_take (N h b : Nat) (x0 : Int32) (a : xA) : Option (xA) :=
  xb2 (f163_size N h b 119 a) (fun r4 a5 => xb2 (f162_has N h b 1 a5) (fun r10 a11 => if r10 = 0 then (xb2 (f156_add N h b 121 x0 a11) (fun r17 a18 => j181_43 N h b x0 (if r4 = 0 then (1 : Int32) else (0 : Int32)) r17 a18)) else (xb2 (f156_add N h b 119 x0 a11) (fun r44 a45 => j181_43 N h b x0 (if r4 = 0 then (1 : Int32) else (0 : Int32)) r44 a45))))

/-- TerminalHouse$Discipline.interrupt()V -/
def f184_interrupt (N h b : Nat) (a : xA) : Option (xA) :=
  xw (xU a 116 6 ((a 116 6) + 1)) (fun a1 => xb1 (f165_clear N h b 119 a1) (fun a7 => xb1 (f165_clear N h b 121 a7) (fun a11 => xb1 (f165_clear N h b 117 a11) (fun a15 => xw (xU a15 116 5 0) (fun a16 => xw (xU a16 116 4 0) (fun a19 => xb2 (f162_has N h b 2 a19) (fun r25 a26 => if r25 = 0 then (some a26) else (xb2 (f167_put N h b 94 a26) (fun r32 a33 => xb2 (f167_put N h b 67 a33) (fun r37 a38 => xb2 (f167_put N h b 10 a38) (fun r42 a43 => some a43)))))))))))

/-- TerminalHouse$Bytes.takeLast()I -/
def f187_takeLast (N h b : Nat) (o : Nat) (a : xA) : Option (Int32 × xA) :=
  xg (xk o = 1) (xb2 (f164_get N h b o ((a o 2) - 1) a) (fun r5 a6 => if (a6 o 2) ≤ 0 then (some (r5, a6)) else (xw (xU a6 o 2 ((a6 o 2) - 1)) (fun a9 => some (r5, a9)))))

def j189_60 (N h b : Nat) (rc : Int32 → Int32 → xA → Option (Nat × Int32 × xA)) (q1 : Int32) (q2 : Int32) (a : xA) : Option (Nat × Int32 × xA) :=
  rc q1 (q2 + 1) a

def l189_7 (N h b : Nat) : Nat → Int32 → Int32 → xA → Option (Nat × Int32 × xA)
  | 0, _, _, _ => none
  | n + 1, v1, v2, a => xb2 (f163_size N h b 119 a) (fun r4 a5 => if r4 ≤ v2 then (some (0, v1, a5)) else (xb2 (f164_get N h b 119 v2 a5) (fun r10 a11 => xb2 (f183_isEchoedAsItself N h b r10 a11) (fun r15 a16 => if r15 = 0 then (xb2 (f169_columnBehind N h b v1 94 a16) (fun r22 a23 => xb2 (f169_columnBehind N h b r22 (r10 ^^^ 64) a23) (fun r27 a28 => j189_60 N h b (l189_7 N h b n) r27 v2 a28))) else (xb2 (f169_columnBehind N h b v1 r10 a16) (fun r32 a33 => j189_60 N h b (l189_7 N h b n) r32 v2 a33))))))

/-- TerminalHouse$Discipline.columnOfEdited()I -/
def f189_columnOfEdited (N h b : Nat) (a : xA) : Option (Int32 × xA) :=
  (l189_7 N h b N (a 116 8) 0 a).bind (fun z34 => some (z34.2.1, z34.2.2))

def l188_16 (N h b : Nat) (w2 : Int32) : Nat → Int32 → xA → Option (Nat × xA)
  | 0, _, _ => none
  | n + 1, v3, a => if v3 ≤ w2 then (some (0, a)) else (xb2 (f167_put N h b 8 a) (fun r11 a12 => l188_16 N h b w2 n (v3 + (-1)) a12))

def l188_58 (N h b : Nat) (w2 : Int32) : Nat → Int32 → xA → Option (Nat × xA)
  | 0, _, _ => none
  | n + 1, v3, a => if w2 ≤ v3 then (some (0, a)) else (xb2 (f167_put N h b 8 a) (fun r27 a28 => xb2 (f167_put N h b 32 a28) (fun r32 a33 => xb2 (f167_put N h b 8 a33) (fun r37 a38 => l188_58 N h b w2 n (v3 + 1) a38))))

/-- TerminalHouse$Discipline.unecho(I)V -/
def f188_unecho (N h b : Nat) (x0 : Int32) (a : xA) : Option (xA) :=
  if x0 = 9 then (xb2 (f189_columnOfEdited N h b a) (fun r5 a6 => (l188_16 N h b r5 N (a6 116 7) a6).bind (fun z13 => some z13.2))) else (if x0 = 10 then (some a) else (xb2 (f110_isPrintable N h b x0 a) (fun r20 a21 => (l188_58 N h b (if r20 = 0 then (2 : Int32) else (1 : Int32)) N 0 a21).bind (fun z39 => some z39.2))))

def j186_46 (N h b : Nat) (rc : Int32 → xA → Option (Nat × xA)) (w1 : Int32) (q2 : Int32) (a : xA) : Option (Nat × xA) :=
  rc (q2 + 1) a

def l186_2 (N h b : Nat) (w1 : Int32) : Nat → Int32 → xA → Option (Nat × xA)
  | 0, _, _ => none
  | n + 1, v2, a => if w1 ≤ v2 then (some (0, a)) else (xb2 (f163_size N h b 119 a) (fun r6 a7 => if r6 ≤ 0 then (some (0, a7)) else (xb2 (f187_takeLast N h b 119 a7) (fun r12 a13 => xb2 (f162_has N h b 2 a13) (fun r17 a18 => if r17 = 0 then (j186_46 N h b (l186_2 N h b w1 n) w1 v2 a18) else (xb2 (f162_has N h b 4 a18) (fun r24 a25 => if r24 = 0 then (j186_46 N h b (l186_2 N h b w1 n) w1 v2 a25) else (xb1 (f188_unecho N h b r12 a25) (fun a31 => j186_46 N h b (l186_2 N h b w1 n) w1 v2 a31)))))))))

/-- TerminalHouse$Discipline.rubOut(I)V -/
def f186_rubOut (N h b : Nat) (x0 : Int32) (a : xA) : Option (xA) :=
  (l186_2 N h b x0 N 0 a).bind (fun z32 => some z32.2)

def l190_8 (N h b : Nat) : Nat → Int32 → xA → Option (Nat × Int32 × xA)
  | 0, _, _ => none
  | n + 1, v1, a => if v1 ≤ 0 then (some (0, v1, a)) else (xb2 (f164_get N h b 119 (v1 - 1) a) (fun r10 a11 => xb2 (f29_isBlank N h b r10 a11) (fun r15 a16 => if r15 = 0 then (some (0, v1, a16)) else (l190_8 N h b n (v1 + (-1)) a16))))

def l190_34 (N h b : Nat) : Nat → Int32 → xA → Option (Nat × Int32 × xA)
  | 0, _, _ => none
  | n + 1, v1, a => if v1 ≤ 0 then (some (0, v1, a)) else (xb2 (f164_get N h b 119 (v1 - 1) a) (fun r25 a26 => xb2 (f29_isBlank N h b r25 a26) (fun r30 a31 => if r30 = 0 then (l190_34 N h b n (v1 + (-1)) a31) else (some (0, v1, a31)))))

def j190_60 (N h b : Nat) (q1 : Int32) (a : xA) : Option (Int32 × xA) :=
  xb2 (f163_size N h b 119 a) (fun r38 a39 => some (r38 - q1, a39))

/-- TerminalHouse$Discipline.wordLength()I -/
def f190_wordLength (N h b : Nat) (a : xA) : Option (Int32 × xA) :=
  xb2 (f163_size N h b 119 a) (fun r4 a5 => (l190_8 N h b N r4 a5).bind (fun z18 => (l190_34 N h b N z18.2.1 z18.2.2).bind (fun z33 => j190_60 N h b z33.2.1 z33.2.2)))

def l191_40 (N h b : Nat) : Nat → Int32 → xA → Option (Nat × xA)
  | 0, _, _ => none
  | n + 1, v1, a => xb2 (f163_size N h b 119 a) (fun r28 a29 => if r28 ≤ v1 then (some (0, a29)) else (xb2 (f164_get N h b 119 v1 a29) (fun r34 a35 => xb1 (f182_echo N h b r34 a35) (fun a39 => l191_40 N h b n (v1 + 1) a39))))

/-- TerminalHouse$Discipline.echoAnew()V -/
def f191_echoAnew (N h b : Nat) (a : xA) : Option (xA) :=
  xb2 (f162_has N h b 2 a) (fun r4 a5 => if r4 = 0 then (some a5) else (xb2 (f167_put N h b 94 a5) (fun r10 a11 => xb2 (f167_put N h b 82 a11) (fun r15 a16 => xb2 (f167_put N h b 10 a16) (fun r20 a21 => xw (xU a21 116 8 (a21 116 7)) (fun a22 => (l191_40 N h b N 0 a22).bind (fun z40 => some z40.2)))))))

def l192_39 (N h b : Nat) (w1 : Int32) : Nat → Int32 → xA → Option (Nat × xA)
  | 0, _, _ => none
  | n + 1, v3, a => xb2 (f163_size N h b 119 a) (fun r16 a17 => if r16 ≤ v3 then (some (0, a17)) else (xb2 (f164_get N h b 119 v3 a17) (fun r22 a23 => xb2 (f156_add N h b 121 r22 a23) (fun r27 a28 => l192_39 N h b w1 n (v3 + 1) a28))))

def j192_93 (N h b : Nat) (q1 : Int32) (a : xA) : Option (xA) :=
  xb2 (f156_add N h b 121 256 a) (fun r40 a41 => if q1 = 0 then (some a41) else (xb2 (f162_has N h b 2 a41) (fun r47 a48 => if r47 = 0 then (some a48) else (xb2 (f167_put N h b 10 a48) (fun r54 a55 => some a55)))))

/-- TerminalHouse$Discipline.finishLine(Z)V -/
def f192_finishLine (N h b : Nat) (x0 : Int32) (a : xA) : Option (xA) :=
  xb2 (f163_size N h b 119 a) (fun r4 a5 => xb2 (f126_room N h b 121 a5) (fun r10 a11 => if (r4 + (if x0 = 0 then (1 : Int32) else (2 : Int32))) ≤ r10 then ((l192_39 N h b x0 N 0 a11).bind (fun z29 => xb1 (f165_clear N h b 119 z29.2) (fun a34 => if x0 = 0 then (j192_93 N h b x0 a34) else (xb2 (f156_add N h b 121 10 a34) (fun r59 a60 => j192_93 N h b x0 a60))))) else (xb2 (f167_put N h b 7 a11) (fun r64 a65 => some a65))))

/-- TerminalHouse$Discipline.edit(I)V -/
def f185_edit (N h b : Nat) (x0 : Int32) (a : xA) : Option (xA) :=
  if x0 = 4 then (xb1 (f192_finishLine N h b 0 a) (fun a5 => some a5)) else (if x0 = 8 ∨ x0 = 127 then (xb1 (f186_rubOut N h b 1 a) (fun a10 => some a10)) else (if x0 = 10 then (xb1 (f192_finishLine N h b 1 a) (fun a15 => some a15)) else (if x0 = 18 then (xb1 (f191_echoAnew N h b a) (fun a20 => some a20)) else (if x0 = 21 then (xb2 (f163_size N h b 119 a) (fun r25 a26 => xb1 (f186_rubOut N h b r25 a26) (fun a30 => some a30))) else (if x0 = 22 then (xw (xU a 116 5 1) (fun a32 => xb2 (f162_has N h b 2 a32) (fun r38 a39 => if r38 = 0 then (some a39) else (xb2 (f167_put N h b 94 a39) (fun r44 a45 => xb2 (f167_put N h b 8 a45) (fun r49 a50 => some a50)))))) else (if x0 = 23 then (xb2 (f190_wordLength N h b a) (fun r55 a56 => xb1 (f186_rubOut N h b r55 a56) (fun a60 => some a60))) else (xb1 (f181_take N h b x0 a) (fun a64 => some a64))))))))

def j180_109 (N h b : Nat) (q2 : Int32) (a : xA) : Option (xA) :=
  xb2 (f162_has N h b 1 a) (fun r33 a34 => if r33 = 0 then (xb1 (f181_take N h b q2 a34) (fun a40 => some a40)) else (xb1 (f185_edit N h b q2 a34) (fun a44 => some a44)))

def j180_68 (N h b : Nat) (q2 : Int32) (a : xA) : Option (xA) :=
  if (a 116 5) = 0 then (xb2 (f162_has N h b 32 a) (fun r25 a26 => if r25 = 0 then (j180_109 N h b q2 a26) else (if q2 = 3 then (xb1 (f184_interrupt N h b a26) (fun a50 => some a50)) else (j180_109 N h b q2 a26)))) else (xw (xU a 116 5 0) (fun a51 => xb1 (f181_take N h b q2 a51) (fun a57 => some a57)))

def j180_50 (N h b : Nat) (q2 : Int32) (a : xA) : Option (xA) :=
  xg ((if q2 = 19 then (1 : Int32) else (0 : Int32)) = 0 ∨ (if q2 = 19 then (1 : Int32) else (0 : Int32)) = 1) (xw (xU a 116 4 (if q2 = 19 then (1 : Int32) else (0 : Int32))) (fun a63 => some a63))

def j180_28 (N h b : Nat) (t0 : Int32) (a : xA) : Option (xA) :=
  xb2 (f162_has N h b 64 a) (fun r14 a15 => if r14 = 0 then (j180_68 N h b t0 a15) else (if t0 = 19 then (j180_50 N h b t0 a15) else (if t0 = 17 then (j180_50 N h b t0 a15) else (j180_68 N h b t0 a15))))

def j180_27 (N h b : Nat) (q1 : Int32) (a : xA) : Option (xA) :=
  j180_28 N h b q1 a

/-- TerminalHouse$Discipline.receive(I)V -/
def f180_receive (N h b : Nat) (x0 : Int32) (a : xA) : Option (xA) :=
  if x0 = 13 then (xb2 (f162_has N h b 8 a) (fun r6 a7 => if r6 = 0 then (j180_27 N h b x0 a7) else (xb2 (f162_has N h b 64 a7) (fun r72 a73 => if r72 = 0 then (j180_68 N h b (if (a7 116 5) = 0 then (10 : Int32) else (x0)) a73) else (if (if (a7 116 5) = 0 then (10 : Int32) else (x0)) = 19 then (j180_50 N h b (if (a7 116 5) = 0 then (10 : Int32) else (x0)) a73) else (if (if (a7 116 5) = 0 then (10 : Int32) else (x0)) = 17 then (j180_50 N h b (if (a7 116 5) = 0 then (10 : Int32) else (x0)) a73) else (j180_68 N h b (if (a7 116 5) = 0 then (10 : Int32) else (x0)) a73))))))) else (j180_27 N h b x0 a)

def j194_26 (N h b : Nat) (q1 : Int32) (a : xA) : Option (xA) :=
  if (a 123 3) = q1 then (xw (xU a 123 3 (-1)) (fun a6 => some a6)) else (some a)

/-- TerminalHouse$Keyboard.release(I)V -/
def f194_release (N h b : Nat) (x0 : Int32) (a : xA) : Option (xA) :=
  xg (¬ (x0 < 0 ∨ 127 ≤ x0.toNatClampNeg)) (if (a 125 (x0.toNatClampNeg)) = 0 then (j194_26 N h b x0 a) else (xw (xU a 125 (x0.toNatClampNeg) 0) (fun a9 => xw (xU a9 123 2 ((a9 123 2) - 1)) (fun a12 => j194_26 N h b x0 a12))))

/-- TerminalHouse$Glass.has(I)Z -/
def f197_has (N h b : Nat) (x0 : Int32) (a : xA) : Option (Int32 × xA) :=
  xg ((if ((a 136 10) &&& x0) = 0 then (0 : Int32) else (1 : Int32)) = 0 ∨ (if ((a 136 10) &&& x0) = 0 then (0 : Int32) else (1 : Int32)) = 1) (some ((if ((a 136 10) &&& x0) = 0 then (0 : Int32) else (1 : Int32)), a))

/-- TerminalHouse$Keyboard.three(II)I -/
def f198_three (N h b : Nat) (x0 : Int32) (x1 : Int32) (a : xA) : Option (Int32 × xA) :=
  xw (xU a 126 0 27) (fun a1 => xw (xU a1 126 1 x0) (fun a4 => xw (xU a4 126 2 x1) (fun a7 => some (3, a7))))

/-- TerminalHouse$Keyboard.one(I)I -/
def f199_one (N h b : Nat) (x0 : Int32) (a : xA) : Option (Int32 × xA) :=
  xw (xU a 126 0 x0) (fun a1 => some (1, a1))

def j200_29 (N h b : Nat) (q0 : Int32) (a : xA) : Option (Int32 × xA) :=
  some ((if q0 = 63 then (127 : Int32) else (q0)), a)

def j200_24 (N h b : Nat) (q0 : Int32) (a : xA) : Option (Int32 × xA) :=
  some (q0 &&& 31, a)

def j200_12 (N h b : Nat) (q0 : Int32) (a : xA) : Option (Int32 × xA) :=
  if q0 < 97 then (j200_29 N h b q0 a) else (if 122 < q0 then (j200_29 N h b q0 a) else (j200_24 N h b q0 a))

/-- TerminalHouse$Keyboard.controlled(I)I -/
def f200_controlled (N h b : Nat) (x0 : Int32) (a : xA) : Option (Int32 × xA) :=
  if x0 < 64 then (j200_12 N h b x0 a) else (if x0 ≤ 95 then (j200_24 N h b x0 a) else (j200_12 N h b x0 a))

def j196_241 (N h b : Nat) (t0 : Int32) (a : xA) : Option (Int32 × xA) :=
  xb2 (f199_one N h b t0 a) (fun r44 a45 => some (r44, a45))

def j196_119 (N h b : Nat) (q1 : Int32) (a : xA) : Option (Int32 × xA) :=
  if 22 < q1 then (if q1 = 23 then (xb2 (f199_one N h b 9 a) (fun r18 a19 => some (r18, a19))) else (if q1 = 24 then (xb2 (f199_one N h b 8 a) (fun r24 a25 => some (r24, a25))) else (if q1 = 25 then (xb2 (f199_one N h b 127 a) (fun r30 a31 => some (r30, a31))) else (if q1 = 26 then (xb2 (f199_one N h b 27 a) (fun r36 a37 => some (r36, a37))) else (if q1 = 28 then (some (0, a)) else (if (a 124 28) = 0 then (j196_241 N h b q1 a) else (xb2 (f200_controlled N h b q1 a) (fun r49 a50 => j196_241 N h b r49 a50)))))))) else (xw (xU a 126 1 10) (fun a51 => xb2 (f199_one N h b 13 a51) (fun r57 a58 => xb2 (f197_has N h b 2 a58) (fun r62 a63 => some (r57 + (if r62 = 0 then (0 : Int32) else (1 : Int32)), a63)))))

/-- TerminalHouse$Keyboard.bytesOf(ILTerminalHouse$Glass;)I -/
def f196_bytesOf (N h b : Nat) (x0 : Int32) (a : xA) : Option (Int32 × xA) :=
  xb2 (f197_has N h b 128 a) (fun r4 a5 => if 4 ≤ x0 then (if 8 ≤ x0 then (if 21 ≤ x0 then (if x0 = 21 then (if r4 = 0 then (j196_119 N h b x0 a5) else (xb2 (f198_three N h b 79 77 a5) (fun r68 a69 => some (r68, a69)))) else (j196_119 N h b x0 a5)) else (if r4 = 0 then (xg (¬ x0 - 8 < 0) (xbc (am_cs 3 ((x0 - 8).toNatClampNeg)) (fun r73 => xb2 (f199_one N h b r73 a5) (fun r77 a78 => some (r77, a78))))) else (xg (¬ x0 - 8 < 0) (xbc (am_cs 2 ((x0 - 8).toNatClampNeg)) (fun r80 => xb2 (f198_three N h b 79 r80 a5) (fun r84 a85 => some (r84, a85))))))) else (xb2 (f198_three N h b 79 ((80 + x0) - 4) a5) (fun r89 a90 => some (r89, a90)))) else (xb2 (f197_has N h b 4 a5) (fun r94 a95 => xb2 (f198_three N h b (if r94 = 0 then (91 : Int32) else (79 : Int32)) (65 + x0) a95) (fun r100 a101 => some (r100, a101)))))

def l201_24 (N h b : Nat) (w0 : Nat) (w1 : Nat) (w2 : Int32) : Nat → Int32 → xA → Option (Nat × xA)
  | 0, _, _ => none
  | n + 1, v3, a => if w2 ≤ v3 then (some (0, a)) else (xg (¬ (Int32.ofNat (xl h b (w0 + 1))) = 0) (xg (¬ (v3 < 0 ∨ xl h b w1 ≤ v3.toNatClampNeg)) (xg (¬ ((((a w0 1) + (a w0 2)) + v3) - (((a w0 1) + (a w0 2)) + v3) / (Int32.ofNat (xl h b (w0 + 1))) * (Int32.ofNat (xl h b (w0 + 1))) < 0 ∨ xl h b (w0 + 1) ≤ ((((a w0 1) + (a w0 2)) + v3) - (((a w0 1) + (a w0 2)) + v3) / (Int32.ofNat (xl h b (w0 + 1))) * (Int32.ofNat (xl h b (w0 + 1)))).toNatClampNeg)) (xw (xU a (w0 + 1) (((((a w0 1) + (a w0 2)) + v3) - (((a w0 1) + (a w0 2)) + v3) / (Int32.ofNat (xl h b (w0 + 1))) * (Int32.ofNat (xl h b (w0 + 1)))).toNatClampNeg) (a w1 (v3.toNatClampNeg))) (fun a9 => l201_24 N h b w0 w1 w2 n (v3 + 1) a9)))))

/-- TerminalHouse$Bytes.addWhole([II)Z -/
def f201_addWhole (N h b : Nat) (o : Nat) (x0 : Nat) (x1 : Int32) (a : xA) : Option (Int32 × xA) :=
  xg (xk o = 1) (xg (xk x0 = 100) (if ((Int32.ofNat (xl h b (o + 1))) - (a o 2)) < x1 then (some (0, a)) else (if x1 ≤ (Int32.ofNat (xl h b x0)) then ((l201_24 N h b o x0 x1 N 0 a).bind (fun z13 => xw (xU z13.2 o 2 ((z13.2 o 2) + x1)) (fun a15 => some (1, a15)))) else (some (0, a)))))

/-- TerminalHouse$Keyboard.strike(ILTerminalHouse$Terminal;)V -/
def f195_strike (N h b : Nat) (x0 : Int32) (a : xA) : Option (xA) :=
  if x0 = 27 then (xg ((if (a 129 5) = 0 then (1 : Int32) else (0 : Int32)) = 0 ∨ (if (a 129 5) = 0 then (1 : Int32) else (0 : Int32)) = 1) (xw (xU a 129 5 (if (a 129 5) = 0 then (1 : Int32) else (0 : Int32))) (fun a3 => some a3))) else (xb2 (f196_bytesOf N h b x0 a) (fun r10 a11 => xb2 (f201_addWhole N h b 132 126 r10 a11) (fun r15 a16 => if r15 = 0 then (xw (xU a16 136 15 ((a16 136 15) + 1)) (fun a19 => some a19)) else (some a16))))

/-- TerminalHouse$Keyboard.isRepeatable(I)Z -/
def f202_isRepeatable (N h b : Nat) (x0 : Int32) (a : xA) : Option (Int32 × xA) :=
  if x0 = 22 then (some (0, a)) else (if x0 = 23 then (some (0, a)) else (if x0 = 26 then (some (0, a)) else (if x0 = 27 then (some (0, a)) else (xg ((if x0 = 28 then (0 : Int32) else (1 : Int32)) = 0 ∨ (if x0 = 28 then (0 : Int32) else (1 : Int32)) = 1) (some ((if x0 = 28 then (0 : Int32) else (1 : Int32)), a))))))

def j193_94 (N h b : Nat) (rc : Int32 → Int32 → xA → Option (Nat × xA)) (w1 : Int32) (q3 : Int32) (q4 : Int32) (a : xA) : Option (Nat × xA) :=
  rc q3 (q4 + 1) a

def l193_13 (N h b : Nat) (w1 : Int32) : Nat → Int32 → Int32 → xA → Option (Nat × xA)
  | 0, _, _, _ => none
  | n + 1, v3, v4, a => if 127 ≤ v4 then (some (0, a)) else (xg (¬ (v4 < 0 ∨ 127 ≤ v4.toNatClampNeg)) (if (a 124 (v4.toNatClampNeg)) = 0 then (xb1 (f194_release N h b v4 a) (fun a8 => j193_94 N h b (l193_13 N h b w1 n) w1 v3 v4 a8)) else (if (a 125 (v4.toNatClampNeg)) = 0 then (if 3 ≤ v3 then (j193_94 N h b (l193_13 N h b w1 n) w1 v3 v4 a) else (xw (xU a 125 (v4.toNatClampNeg) 1) (fun a14 => xb1 (f195_strike N h b v4 a14) (fun a20 => xb2 (f202_isRepeatable N h b v4 a20) (fun r24 a25 => if r24 = 0 then (j193_94 N h b (l193_13 N h b w1 n) w1 (v3 + 1) v4 a25) else (xw (xU a25 123 3 v4) (fun a28 => xw (xU a28 123 4 (w1 + 32)) (fun a31 => j193_94 N h b (l193_13 N h b w1 n) w1 (v3 + 1) v4 a31)))))))) else (j193_94 N h b (l193_13 N h b w1 n) w1 v3 v4 a))))

/-- TerminalHouse$Keyboard.scan(ILTerminalHouse$Terminal;)V -/
def f193_scan (N h b : Nat) (x0 : Int32) (a : xA) : Option (xA) :=
  if (a 123 2) = 0 then (some a) else ((l193_13 N h b x0 N 0 0 a).bind (fun z34 => if (z34.2 123 3) = (-1) then (some z34.2) else (xb2 (f197_has N h b 64 z34.2) (fun r41 a42 => if r41 = 0 then (some a42) else (if x0 < (a42 123 4) then (some a42) else (xb1 (f195_strike N h b (a42 123 3) a42) (fun a51 => xw (xU a51 123 4 (x0 + 4)) (fun a52 => some a52))))))))

/-- TerminalHouse$Glass.slideRows(III)V -/
def f207_slideRows (N h b : Nat) (x0 : Int32) (x1 : Int32) (x2 : Int32) (a : xA) : Option (xA) :=
  xb2 (f10_nearest N h b x2 (-(a 136 0)) (a 136 0) a) (fun r4 a5 => xb1 (f108_slide N h b 138 (x0 * (a5 136 1)) (((x1 - x0) + 1) * (a5 136 1)) (r4 * (a5 136 1)) 32 a5) (fun a9 => xb1 (f108_slide N h b 139 x0 ((x1 - x0) + 1) r4 0 a9) (fun a13 => xw (xU a13 136 16 3) (fun a14 => some a14))))

/-- TerminalHouse$Glass.index()V -/
def f206_index (N h b : Nat) (a : xA) : Option (xA) :=
  if (a 136 5) = (a 136 9) then (xb1 (f207_slideRows N h b (a 136 8) (a 136 9) (-1) a) (fun a6 => xw (xU a6 136 7 0) (fun a7 => some a7))) else (xb1 (f16_place N h b ((a 136 5) + 1) (a 136 6) a) (fun a13 => some a13))

/-- TerminalHouse$Glass.here()I -/
def f208_here (N h b : Nat) (a : xA) : Option (Int32 × xA) :=
  some (((a 136 5) * (a 136 1)) + (a 136 6), a)

def j205_102 (N h b : Nat) (q2 : Int32) (t0 : Int32) (a : xA) : Option (xA) :=
  xg (t0 = 0 ∨ t0 = 1) (xw (xU a 136 7 t0) (fun a26 => if q2 ≤ (a26 136 6) then (some a26) else (xw (xU a26 136 6 ((a26 136 6) + 1)) (fun a32 => some a32))))

def j205_101 (N h b : Nat) (q2 : Int32) (a : xA) : Option (xA) :=
  j205_102 N h b q2 0 a

def j205_60 (N h b : Nat) (q1 : Int32) (q2 : Int32) (a : xA) : Option (xA) :=
  xb2 (f208_here N h b a) (fun r18 a19 => xg (¬ (r18 < 0 ∨ (h * b) ≤ r18.toNatClampNeg)) (xw (xU a19 138 (r18.toNatClampNeg) (q1 + (256 * (a19 136 11)))) (fun a20 => if (a20 136 6) < q2 then (j205_101 N h b q2 a20) else (xb2 (f197_has N h b 32 a20) (fun r38 a39 => xg ((if r38 = 0 then (0 : Int32) else (1 : Int32)) = 0 ∨ (if r38 = 0 then (0 : Int32) else (1 : Int32)) = 1) (xw (xU a39 136 7 (if r38 = 0 then (0 : Int32) else (1 : Int32))) (fun a41 => if q2 ≤ (a41 136 6) then (some a41) else (xw (xU a41 136 6 ((a41 136 6) + 1)) (fun a47 => some a47)))))))))

def j205_25 (N h b : Nat) (q1 : Int32) (a : xA) : Option (xA) :=
  xb2 (f17_last N h b a) (fun r6 a7 => xb2 (f197_has N h b 1 a7) (fun r11 a12 => if r11 = 0 then (j205_60 N h b q1 r6 a12) else (xb2 (f208_here N h b a12) (fun r53 a54 => xb1 (f108_slide N h b 138 r53 ((r6 - (a54 136 6)) + 1) 1 32 a54) (fun a58 => j205_60 N h b q1 r6 a58)))))

/-- TerminalHouse$Glass.printSign(I)V -/
def f205_printSign (N h b : Nat) (x0 : Int32) (a : xA) : Option (xA) :=
  if (a 136 7) = 0 then (j205_25 N h b x0 a) else (xb2 (f197_has N h b 32 a) (fun r62 a63 => if r62 = 0 then (j205_25 N h b x0 a63) else (xw (xU a63 136 6 0) (fun a66 => xb1 (f206_index N h b a66) (fun a72 => j205_25 N h b x0 a72)))))

def l210_21 (N h b : Nat) (w1 : Int32) : Nat → Int32 → xA → Option (Nat × Int32 × xA)
  | 0, _, _ => none
  | n + 1, v2, a => if w1 ≤ v2 then (some (0, v2, a)) else (xg (¬ (v2 < 0 ∨ b ≤ v2.toNatClampNeg)) (if (a 140 (v2.toNatClampNeg)) = 0 then (l210_21 N h b w1 n (v2 + 1) a) else (some (0, v2, a))))

def j210_41 (N h b : Nat) (q2 : Int32) (a : xA) : Option (xA) :=
  xb1 (f16_place N h b (a 136 5) q2 a) (fun a16 => some a16)

/-- TerminalHouse$Glass.goToNextStop()V -/
def f210_goToNextStop (N h b : Nat) (a : xA) : Option (xA) :=
  xb2 (f17_last N h b a) (fun r4 a5 => if (a5 136 6) < r4 then ((l210_21 N h b r4 N ((a5 136 6) + 1) a5).bind (fun z11 => j210_41 N h b z11.2.1 z11.2.2)) else (some a5))

def j209_130 (N h b : Nat) (a : xA) : Option (xA) :=
  xb1 (f206_index N h b a) (fun a26 => some a26)

/-- TerminalHouse$Terminal.control(I)V -/
def f209_control (N h b : Nat) (x0 : Int32) (a : xA) : Option (xA) :=
  if x0 = 7 then (xw (xU a 136 15 ((a 136 15) + 1)) (fun a2 => some a2)) else (if x0 = 8 then (xb1 (f16_place N h b (a 136 5) ((a 136 6) - 1) a) (fun a9 => some a9)) else (if x0 = 9 then (xb1 (f210_goToNextStop N h b a) (fun a14 => some a14)) else (if x0 = 10 ∨ x0 = 11 ∨ x0 = 12 then (xb2 (f197_has N h b 2 a) (fun r19 a20 => if r19 = 0 then (j209_130 N h b a20) else (xb1 (f16_place N h b (a20 136 5) 0 a20) (fun a30 => j209_130 N h b a30)))) else (if x0 = 13 then (xb1 (f16_place N h b (a 136 5) 0 a) (fun a35 => some a35)) else (if x0 = 14 then (xw (xU a 136 13 1) (fun a37 => some a37)) else (if x0 = 15 then (xw (xU a 136 13 0) (fun a41 => some a41)) else (some a)))))))

def j211_25 (N h b : Nat) (q1 : Int32) (t0 : Int32) (a : xA) : Option (xA) :=
  xb1 (f205_printSign N h b (if t0 = 0 then (q1) else (q1 + 128)) a) (fun a8 => some a8)

def j211_24 (N h b : Nat) (q1 : Int32) (a : xA) : Option (xA) :=
  j211_25 N h b q1 0 a

/-- TerminalHouse$Glass.print(I)V -/
def f211_print (N h b : Nat) (x0 : Int32) (a : xA) : Option (xA) :=
  if (((a 136 12) >>> ((a 136 13) &&& 31)) &&& 1) = 0 then (j211_24 N h b x0 a) else (xb1 (f205_printSign N h b (if (if x0 < 95 then (0 : Int32) else (1 : Int32)) = 0 then (x0) else (x0 + 128)) a) (fun a14 => some a14))

/-- TerminalHouse$Terminal.beginSequence()V -/
def f214_beginSequence (N h b : Nat) (a : xA) : Option (xA) :=
  xw (xU a 129 9 3) (fun a1 => xw (xU a1 135 0 0) (fun a4 => xw (xU a4 129 12 1) (fun a7 => xw (xU a7 129 13 0) (fun a10 => xw (xU a10 129 14 1) (fun a13 => some a13)))))

/-- TerminalHouse$Glass.turn(IZ)V -/
def f216_turn (N h b : Nat) (x0 : Int32) (x1 : Int32) (a : xA) : Option (xA) :=
  xw (xU a 136 10 (if x1 = 0 then ((a 136 10) &&& (x0 ^^^ (-1))) else ((a 136 10) ||| x0))) (fun a2 => some a2)

/-- TerminalHouse$Glass.restore()V -/
def f215_restore (N h b : Nat) (a : xA) : Option (xA) :=
  xw (xU a 136 11 (a 137 2)) (fun a1 => xw (xU a1 136 12 (a1 137 3)) (fun a4 => xw (xU a4 136 13 (a4 137 4)) (fun a7 => xb1 (f216_turn N h b 16 (if (a7 137 5) = 0 then (0 : Int32) else (1 : Int32)) a7) (fun a14 => xb1 (f16_place N h b (a14 137 0) (a14 137 1) a14) (fun a18 => some a18)))))

/-- TerminalHouse$Glass.backIndex()V -/
def f217_backIndex (N h b : Nat) (a : xA) : Option (xA) :=
  if (a 136 5) = (a 136 8) then (xb1 (f207_slideRows N h b (a 136 8) (a 136 9) 1 a) (fun a6 => xw (xU a6 136 7 0) (fun a7 => some a7))) else (xb1 (f16_place N h b ((a 136 5) - 1) (a 136 6) a) (fun a13 => some a13))

/-- TerminalHouse$Terminal.answerWhat()V -/
def f218_answerWhat (N h b : Nat) (a : xA) : Option (xA) :=
  xw (xU a 134 0 27) (fun a1 => xw (xU a1 134 1 91) (fun a4 => xw (xU a4 134 2 63) (fun a7 => xw (xU a7 134 3 49) (fun a10 => xw (xU a10 134 4 59) (fun a13 => xw (xU a13 134 5 50) (fun a16 => xw (xU a16 134 6 99) (fun a19 => xb2 (f201_addWhole N h b 132 134 7 a19) (fun r25 a26 => some a26))))))))

/-- TerminalHouse$Terminal.endEscape(I)V -/
def f213_endEscape (N h b : Nat) (x0 : Int32) (a : xA) : Option (xA) :=
  if x0 = 55 then (xb1 (f18_save N h b a) (fun a5 => some a5)) else (if x0 = 56 then (xb1 (f215_restore N h b a) (fun a10 => some a10)) else (if x0 = 61 then (xb1 (f216_turn N h b 128 1 a) (fun a15 => some a15)) else (if x0 = 62 then (xb1 (f216_turn N h b 128 0 a) (fun a20 => some a20)) else (if x0 = 68 then (xb1 (f206_index N h b a) (fun a25 => some a25)) else (if x0 = 69 then (xb1 (f16_place N h b (a 136 5) 0 a) (fun a30 => xb1 (f206_index N h b a30) (fun a34 => some a34))) else (if x0 = 72 then (xg (¬ (a 136 6 < 0 ∨ b ≤ (a 136 6).toNatClampNeg)) (xw (xU a 140 ((a 136 6).toNatClampNeg) 1) (fun a36 => some a36))) else (if x0 = 77 then (xb1 (f217_backIndex N h b a) (fun a44 => some a44)) else (if x0 = 80 ∨ x0 = 88 ∨ x0 = 93 ∨ x0 = 94 ∨ x0 = 95 then (xw (xU a 129 9 5) (fun a46 => some a46)) else (if x0 = 90 then (xb1 (f218_answerWhat N h b a) (fun a53 => some a53)) else (if x0 = 91 then (xb1 (f214_beginSequence N h b a) (fun a58 => some a58)) else (if x0 = 99 then (xb1 (f13_reset N h b a) (fun a63 => some a63)) else (some a))))))))))))

/-- TerminalHouse$Glass.setWidth(I)V -/
def f220_setWidth (N h b : Nat) (x0 : Int32) (a : xA) : Option (xA) :=
  xg (¬ (a 136 5 < 0 ∨ h ≤ (a 136 5).toNatClampNeg)) (xw (xU a 139 ((a 136 5).toNatClampNeg) x0) (fun a1 => xb2 (f17_last N h b a1) (fun r8 a9 => xb1 (f14_fill N h b 138 ((((a9 136 5) * (a9 136 1)) + r8) + 1) (((a9 136 5) + 1) * (a9 136 1)) 32 a9) (fun a13 => if (a13 136 6) ≤ r8 then (some a13) else (xb1 (f16_place N h b (a13 136 5) r8 a13) (fun a19 => some a19))))))

/-- TerminalHouse$Glass.align()V -/
def f221_align (N h b : Nat) (a : xA) : Option (xA) :=
  xb1 (f14_fill N h b 138 0 (Int32.ofNat (h * b)) 69 a) (fun a4 => xb1 (f14_fill N h b 139 0 (a4 136 0) 0 a4) (fun a8 => xw (xU a8 136 8 0) (fun a9 => xw (xU a9 136 9 ((a9 136 0) - 1)) (fun a12 => xb1 (f16_place N h b 0 0 a12) (fun a18 => xw (xU a18 136 16 2) (fun a19 => some a19))))))

/-- TerminalHouse$Terminal.endHash(I)V -/
def f219_endHash (N h b : Nat) (x0 : Int32) (a : xA) : Option (xA) :=
  if x0 = 51 then (xb1 (f220_setWidth N h b 2 a) (fun a5 => some a5)) else (if x0 = 52 then (xb1 (f220_setWidth N h b 3 a) (fun a10 => some a10)) else (if x0 = 53 then (xb1 (f220_setWidth N h b 0 a) (fun a15 => some a15)) else (if x0 = 54 then (xb1 (f220_setWidth N h b 1 a) (fun a20 => some a20)) else (if x0 = 56 then (xb1 (f221_align N h b a) (fun a25 => some a25)) else (some a)))))

/-- TerminalHouse$Terminal.chooseSet(II)V -/
def f222_chooseSet (N h b : Nat) (x0 : Int32) (x1 : Int32) (a : xA) : Option (xA) :=
  if x1 = 66 then (xw (xU a 136 12 ((a 136 12) &&& (x0 ^^^ (-1)))) (fun a3 => some a3)) else (if x1 = 48 then (xw (xU a 136 12 ((a 136 12) ||| x0)) (fun a8 => some a8)) else (some a))

def j212_36 (N h b : Nat) (q1 : Int32) (t0 : Int32) (a : xA) : Option (xA) :=
  xw (xU a 129 9 (if t0 = 0 then (2 : Int32) else (1 : Int32))) (fun a33 => xw (xU a33 129 10 q1) (fun a36 => some a36))

def j212_31 (N h b : Nat) (q1 : Int32) (a : xA) : Option (xA) :=
  j212_36 N h b q1 1 a

def j212_35 (N h b : Nat) (q1 : Int32) (a : xA) : Option (xA) :=
  j212_36 N h b q1 0 a

/-- TerminalHouse$Terminal.readEscape(I)V -/
def f212_readEscape (N h b : Nat) (x0 : Int32) (a : xA) : Option (xA) :=
  if 48 ≤ x0 then (xw (xU a 129 9 0) (fun a2 => if (a2 129 10) = 0 then (xb1 (f213_endEscape N h b x0 a2) (fun a9 => some a9)) else (if (a2 129 10) = 35 then (xb1 (f219_endHash N h b x0 a2) (fun a14 => some a14)) else (if (a2 129 10) = 40 then (xb1 (f222_chooseSet N h b 1 x0 a2) (fun a19 => some a19)) else (if (a2 129 10) = 41 then (xb1 (f222_chooseSet N h b 2 x0 a2) (fun a24 => some a24)) else (some a2)))))) else (if (a 129 10) = 0 then (if x0 = 35 then (j212_31 N h b x0 a) else (if x0 = 40 then (j212_31 N h b x0 a) else (xw (xU a 129 9 (if (if x0 = 41 then (1 : Int32) else (0 : Int32)) = 0 then (2 : Int32) else (1 : Int32))) (fun a44 => xw (xU a44 129 10 x0) (fun a47 => some a47))))) else (j212_35 N h b x0 a))

/-- TerminalHouse$Glass.placeFirst()V -/
def f225_placeFirst (N h b : Nat) (a : xA) : Option (xA) :=
  xb2 (f197_has N h b 16 a) (fun r4 a5 => xb1 (f16_place N h b (if r4 = 0 then (0 : Int32) else (a5 136 8)) 0 a5) (fun a10 => some a10))

def j224_159 (N h b : Nat) (rc : Int32 → xA → Option (Nat × xA)) (w2 : Int32) (q3 : Int32) (a : xA) : Option (Nat × xA) :=
  rc (q3 + 1) a

def l224_27 (N h b : Nat) (w2 : Int32) : Nat → Int32 → xA → Option (Nat × xA)
  | 0, _, _ => none
  | n + 1, v3, a => if (a 129 12) ≤ v3 then (some (0, a)) else (xg (¬ (v3 < 0 ∨ 8 ≤ v3.toNatClampNeg)) (if (a 135 (v3.toNatClampNeg)) = 1 then (xb1 (f216_turn N h b 4 w2 a) (fun a11 => j224_159 N h b (l224_27 N h b w2 n) w2 v3 a11)) else (if (a 135 (v3.toNatClampNeg)) = 5 then (xb1 (f216_turn N h b 8 w2 a) (fun a16 => j224_159 N h b (l224_27 N h b w2 n) w2 v3 a16)) else (if (a 135 (v3.toNatClampNeg)) = 6 then (xb1 (f216_turn N h b 16 w2 a) (fun a21 => xb1 (f225_placeFirst N h b a21) (fun a25 => j224_159 N h b (l224_27 N h b w2 n) w2 v3 a25))) else (if (a 135 (v3.toNatClampNeg)) = 7 then (xb1 (f216_turn N h b 32 w2 a) (fun a30 => j224_159 N h b (l224_27 N h b w2 n) w2 v3 a30)) else (if (a 135 (v3.toNatClampNeg)) = 8 then (xb1 (f216_turn N h b 64 w2 a) (fun a35 => j224_159 N h b (l224_27 N h b w2 n) w2 v3 a35)) else (j224_159 N h b (l224_27 N h b w2 n) w2 v3 a)))))))

def j224_13 (N h b : Nat) (q1 : Int32) (a : xA) : Option (xA) :=
  (l224_27 N h b (if q1 = 104 then (1 : Int32) else (0 : Int32)) N 0 a).bind (fun z36 => some z36.2)

/-- TerminalHouse$Terminal.turnPrivateModes(I)V -/
def f224_turnPrivateModes (N h b : Nat) (x0 : Int32) (a : xA) : Option (xA) :=
  if x0 = 104 then (j224_13 N h b x0 a) else (if x0 = 108 then (j224_13 N h b x0 a) else (some a))

/-- TerminalHouse$Glass.goUp(I)V -/
def f227_goUp (N h b : Nat) (x0 : Int32) (a : xA) : Option (xA) :=
  xb1 (f16_place N h b (xmax ((a 136 5) - x0) (if (a 136 5) < (a 136 8) then (0 : Int32) else (a 136 8))) (a 136 6) a) (fun a5 => some a5)

/-- TerminalHouse$Glass.goDown(I)V -/
def f228_goDown (N h b : Nat) (x0 : Int32) (a : xA) : Option (xA) :=
  xb1 (f16_place N h b (xmin ((a 136 5) + x0) (if (a 136 9) < (a 136 5) then ((a 136 0) - 1) else (a 136 9))) (a 136 6) a) (fun a5 => some a5)

/-- TerminalHouse$Glass.placeTold(II)V -/
def f229_placeTold (N h b : Nat) (x0 : Int32) (x1 : Int32) (a : xA) : Option (xA) :=
  xb2 (f197_has N h b 16 a) (fun r4 a5 => if r4 = 0 then (xb1 (f16_place N h b x0 x1 a5) (fun a11 => some a11)) else (xb1 (f16_place N h b (xmin ((a5 136 8) + x0) (a5 136 9)) x1 a5) (fun a15 => some a15)))

/-- TerminalHouse$Glass.eraseRow(I)V -/
def f231_eraseRow (N h b : Nat) (x0 : Int32) (a : xA) : Option (xA) :=
  if x0 = 0 then (xb2 (f208_here N h b a) (fun r5 a6 => xb1 (f14_fill N h b 138 r5 (((a 136 5) * (a 136 1)) + (a6 136 1)) 32 a6) (fun a10 => some a10))) else (if x0 = 1 then (xb2 (f208_here N h b a) (fun r15 a16 => xb1 (f14_fill N h b 138 ((a 136 5) * (a 136 1)) (r15 + 1) 32 a16) (fun a20 => some a20))) else (if x0 = 2 then (xb1 (f14_fill N h b 138 ((a 136 5) * (a 136 1)) (((a 136 5) * (a 136 1)) + (a 136 1)) 32 a) (fun a25 => some a25)) else (some a)))

def j230_145 (N h b : Nat) (a : xA) : Option (xA) :=
  xw (xU a 136 16 2) (fun a16 => some a16)

def j230_97 (N h b : Nat) (q1 : Int32) (a : xA) : Option (xA) :=
  if q1 = 1 then (j230_145 N h b a) else (xb1 (f14_fill N h b 138 (((a 136 5) + 1) * (a 136 1)) (Int32.ofNat (h * b)) 32 a) (fun a22 => xb1 (f14_fill N h b 139 ((a22 136 5) + 1) (a22 136 0) 0 a22) (fun a26 => j230_145 N h b a26)))

def j230_61 (N h b : Nat) (q1 : Int32) (a : xA) : Option (xA) :=
  if q1 = 0 then (j230_97 N h b q1 a) else (xb1 (f14_fill N h b 138 0 ((a 136 5) * (a 136 1)) 32 a) (fun a30 => xb1 (f14_fill N h b 139 0 (a30 136 5) 0 a30) (fun a34 => j230_97 N h b q1 a34)))

def j230_41 (N h b : Nat) (q1 : Int32) (t0 : Int32) (a : xA) : Option (xA) :=
  xb1 (f231_eraseRow N h b q1 a) (fun a9 => if t0 = 0 then (j230_61 N h b q1 a9) else (xg (¬ (a9 136 5 < 0 ∨ h ≤ (a9 136 5).toNatClampNeg)) (xw (xU a9 139 ((a9 136 5).toNatClampNeg) 0) (fun a35 => j230_61 N h b q1 a35))))

def j230_36 (N h b : Nat) (q1 : Int32) (a : xA) : Option (xA) :=
  j230_41 N h b q1 1 a

/-- TerminalHouse$Glass.eraseScreen(I)V -/
def f230_eraseScreen (N h b : Nat) (x0 : Int32) (a : xA) : Option (xA) :=
  if x0 ≤ 2 then (if x0 = 2 then (j230_36 N h b x0 a) else (if x0 = 0 then (xb1 (f231_eraseRow N h b x0 a) (fun a46 => if (if (a 136 6) = 0 then (1 : Int32) else (0 : Int32)) = 0 then (j230_61 N h b x0 a46) else (xg (¬ (a46 136 5 < 0 ∨ h ≤ (a46 136 5).toNatClampNeg)) (xw (xU a46 139 ((a46 136 5).toNatClampNeg) 0) (fun a49 => j230_61 N h b x0 a49))))) else (xb2 (f17_last N h b a) (fun r56 a57 => xb1 (f231_eraseRow N h b x0 a57) (fun a62 => if (if (a 136 6) < r56 then (0 : Int32) else (1 : Int32)) = 0 then (j230_61 N h b x0 a62) else (xg (¬ (a62 136 5 < 0 ∨ h ≤ (a62 136 5).toNatClampNeg)) (xw (xU a62 139 ((a62 136 5).toNatClampNeg) 0) (fun a65 => j230_61 N h b x0 a65)))))))) else (some a)

/-- TerminalHouse$Glass.slideRowsHere(I)V -/
def f232_slideRowsHere (N h b : Nat) (x0 : Int32) (a : xA) : Option (xA) :=
  if (a 136 5) < (a 136 8) then (some a) else (if (a 136 9) < (a 136 5) then (some a) else (xb1 (f207_slideRows N h b (a 136 5) (a 136 9) x0 a) (fun a9 => xb1 (f16_place N h b (a9 136 5) 0 a9) (fun a13 => some a13))))

/-- TerminalHouse$Glass.slideCellsHere(I)V -/
def f233_slideCellsHere (N h b : Nat) (x0 : Int32) (a : xA) : Option (xA) :=
  xb2 (f208_here N h b a) (fun r4 a5 => xb2 (f17_last N h b a5) (fun r9 a10 => xb1 (f108_slide N h b 138 r4 ((r9 - (a10 136 6)) + 1) x0 32 a10) (fun a14 => xw (xU a14 136 7 0) (fun a15 => some a15))))

/-- TerminalHouse$Glass.blankCellsHere(I)V -/
def f234_blankCellsHere (N h b : Nat) (x0 : Int32) (a : xA) : Option (xA) :=
  xb2 (f17_last N h b a) (fun r4 a5 => xb2 (f208_here N h b a5) (fun r9 a10 => xb2 (f208_here N h b a10) (fun r14 a15 => xb1 (f14_fill N h b 138 r9 (r14 + (xmin x0 ((r4 - (a5 136 6)) + 1))) 32 a15) (fun a19 => xw (xU a19 136 7 0) (fun a20 => some a20)))))

/-- TerminalHouse$Glass.setMargins(II)V -/
def f235_setMargins (N h b : Nat) (x0 : Int32) (x1 : Int32) (a : xA) : Option (xA) :=
  if x1 ≤ x0 then (some a) else (if (a 136 0) < x1 then (some a) else (xw (xU a 136 8 (x0 - 1)) (fun a6 => xw (xU a6 136 9 (x1 - 1)) (fun a9 => xb2 (f197_has N h b 16 a9) (fun r15 a16 => xb1 (f16_place N h b (if r15 = 0 then (0 : Int32) else (a16 136 8)) 0 a16) (fun a21 => some a21))))))

def j237_288 (N h b : Nat) (rc : Int32 → xA → Option (Nat × xA)) (q1 : Int32) (a : xA) : Option (Nat × xA) :=
  rc (q1 + 1) a

def l237_2 (N h b : Nat) : Nat → Int32 → xA → Option (Nat × xA)
  | 0, _, _ => none
  | n + 1, v1, a => if (a 129 12) ≤ v1 then (some (0, a)) else (xg (¬ (v1 < 0 ∨ 8 ≤ v1.toNatClampNeg)) (if (a 135 (v1.toNatClampNeg)) = 0 then (xw (xU a 136 11 0) (fun a4 => j237_288 N h b (l237_2 N h b n) v1 a4)) else (if (a 135 (v1.toNatClampNeg)) = 1 then (xw (xU a 136 11 ((a 136 11) ||| 1)) (fun a8 => j237_288 N h b (l237_2 N h b n) v1 a8)) else (if (a 135 (v1.toNatClampNeg)) = 4 then (xw (xU a 136 11 ((a 136 11) ||| 2)) (fun a12 => j237_288 N h b (l237_2 N h b n) v1 a12)) else (if (a 135 (v1.toNatClampNeg)) = 5 then (xw (xU a 136 11 ((a 136 11) ||| 4)) (fun a16 => j237_288 N h b (l237_2 N h b n) v1 a16)) else (if (a 135 (v1.toNatClampNeg)) = 7 then (xw (xU a 136 11 ((a 136 11) ||| 8)) (fun a20 => j237_288 N h b (l237_2 N h b n) v1 a20)) else (if (a 135 (v1.toNatClampNeg)) = 22 then (xw (xU a 136 11 ((a 136 11) &&& (-2))) (fun a24 => j237_288 N h b (l237_2 N h b n) v1 a24)) else (if (a 135 (v1.toNatClampNeg)) = 24 then (xw (xU a 136 11 ((a 136 11) &&& (-3))) (fun a28 => j237_288 N h b (l237_2 N h b n) v1 a28)) else (if (a 135 (v1.toNatClampNeg)) = 25 then (xw (xU a 136 11 ((a 136 11) &&& (-5))) (fun a32 => j237_288 N h b (l237_2 N h b n) v1 a32)) else (if (a 135 (v1.toNatClampNeg)) = 27 then (xw (xU a 136 11 ((a 136 11) &&& (-9))) (fun a36 => j237_288 N h b (l237_2 N h b n) v1 a36)) else (j237_288 N h b (l237_2 N h b n) v1 a)))))))))))

/-- TerminalHouse$Terminal.dressByNumbers()V -/
def f237_dressByNumbers (N h b : Nat) (a : xA) : Option (xA) :=
  (l237_2 N h b N 0 a).bind (fun z39 => some z39.2)

def j238_54 (N h b : Nat) (rc : Int32 → xA → Option (Nat × xA)) (q1 : Int32) (a : xA) : Option (Nat × xA) :=
  rc (q1 + 1) a

def l238_2 (N h b : Nat) : Nat → Int32 → xA → Option (Nat × xA)
  | 0, _, _ => none
  | n + 1, v1, a => if (a 129 12) ≤ v1 then (some (0, a)) else (xg (¬ (v1 < 0 ∨ 8 ≤ v1.toNatClampNeg)) (if (a 135 (v1.toNatClampNeg)) = 0 then (xw (xU a 136 14 0) (fun a5 => j238_54 N h b (l238_2 N h b n) v1 a5)) else (if 4 < (a 135 (v1.toNatClampNeg)) then (j238_54 N h b (l238_2 N h b n) v1 a) else (xw (xU a 136 14 ((a 136 14) ||| ((1 : Int32) <<< (((a 135 (v1.toNatClampNeg)) - 1) &&& 31)))) (fun a10 => j238_54 N h b (l238_2 N h b n) v1 a10)))))

/-- TerminalHouse$Terminal.lightByNumbers()V -/
def f238_lightByNumbers (N h b : Nat) (a : xA) : Option (xA) :=
  (l238_2 N h b N 0 a).bind (fun z13 => some z13.2)

def j239_52 (N h b : Nat) (rc : Int32 → xA → Option (Nat × xA)) (w1 : Int32) (q2 : Int32) (a : xA) : Option (Nat × xA) :=
  rc (q2 + 1) a

def l239_2 (N h b : Nat) (w1 : Int32) : Nat → Int32 → xA → Option (Nat × xA)
  | 0, _, _ => none
  | n + 1, v2, a => if (a 129 12) ≤ v2 then (some (0, a)) else (xg (¬ (v2 < 0 ∨ 8 ≤ v2.toNatClampNeg)) (if (a 135 (v2.toNatClampNeg)) = 4 then (xb1 (f216_turn N h b 1 w1 a) (fun a8 => j239_52 N h b (l239_2 N h b w1 n) w1 v2 a8)) else (if (a 135 (v2.toNatClampNeg)) = 20 then (xb1 (f216_turn N h b 2 w1 a) (fun a14 => j239_52 N h b (l239_2 N h b w1 n) w1 v2 a14)) else (j239_52 N h b (l239_2 N h b w1 n) w1 v2 a))))

/-- TerminalHouse$Terminal.turnModes(Z)V -/
def f239_turnModes (N h b : Nat) (x0 : Int32) (a : xA) : Option (xA) :=
  (l239_2 N h b x0 N 0 a).bind (fun z15 => some z15.2)

def l240_2 (N h b : Nat) : Nat → Int32 → xA → Option (Nat × xA)
  | 0, _, _ => none
  | n + 1, v1, a => if (a 136 1) ≤ v1 then (some (0, a)) else (xg (¬ (v1 < 0 ∨ b ≤ v1.toNatClampNeg)) (xw (xU a 140 (v1.toNatClampNeg) 0) (fun a2 => l240_2 N h b n (v1 + 1) a2)))

/-- TerminalHouse$Glass.clearStops()V -/
def f240_clearStops (N h b : Nat) (a : xA) : Option (xA) :=
  (l240_2 N h b N 0 a).bind (fun z6 => some z6.2)

/-- TerminalHouse$Terminal.answerWell()V -/
def f241_answerWell (N h b : Nat) (a : xA) : Option (xA) :=
  xw (xU a 134 0 27) (fun a1 => xw (xU a1 134 1 91) (fun a4 => xw (xU a4 134 2 48) (fun a7 => xw (xU a7 134 3 110) (fun a10 => xb2 (f201_addWhole N h b 132 134 4 a10) (fun r16 a17 => some a17)))))

def j243_27 (N h b : Nat) (q1 : Int32) (q3 : Int32) (a : xA) : Option (Int32 × xA) :=
  xg (¬ (q3 < 0 ∨ 32 ≤ q3.toNatClampNeg)) (xw (xU a 134 (q3.toNatClampNeg) (48 + (q1 - q1 / 10 * 10))) (fun a3 => some (q3 + 1, a3)))

/-- TerminalHouse$Terminal.addNumber(II)I -/
def f243_addNumber (N h b : Nat) (x0 : Int32) (x1 : Int32) (a : xA) : Option (Int32 × xA) :=
  if x0 < 10 then (j243_27 N h b x0 x1 a) else (xg (¬ (x1 < 0 ∨ 32 ≤ x1.toNatClampNeg)) (xw (xU a 134 (x1.toNatClampNeg) (48 + ((x0 / 10) - (x0 / 10) / 10 * 10))) (fun a7 => j243_27 N h b x0 (x1 + 1) a7)))

def j242_23 (N h b : Nat) (t0 : Int32) (a : xA) : Option (xA) :=
  xw (xU a 134 0 27) (fun a8 => xw (xU a8 134 1 91) (fun a11 => xb2 (f243_addNumber N h b (xmax 1 (((a11 136 5) - t0) + 1)) 2 a11) (fun r17 a18 => xg (¬ (r17 < 0 ∨ 32 ≤ r17.toNatClampNeg)) (xw (xU a18 134 (r17.toNatClampNeg) 59) (fun a19 => xb2 (f243_addNumber N h b ((a19 136 6) + 1) (r17 + 1) a19) (fun r26 a27 => xg (¬ (r26 < 0 ∨ 32 ≤ r26.toNatClampNeg)) (xw (xU a27 134 (r26.toNatClampNeg) 82) (fun a28 => xb2 (f201_addWhole N h b 132 134 (r26 + 1) a28) (fun r35 a36 => some a36)))))))))

/-- TerminalHouse$Terminal.answerPlace()V -/
def f242_answerPlace (N h b : Nat) (a : xA) : Option (xA) :=
  xb2 (f197_has N h b 16 a) (fun r4 a5 => if r4 = 0 then (j242_23 N h b 0 a5) else (j242_23 N h b (a5 136 8) a5))

/-- TerminalHouse$Terminal.setOrAnswer(II)V -/
def f236_setOrAnswer (N h b : Nat) (x0 : Int32) (x1 : Int32) (a : xA) : Option (xA) :=
  if x0 = 99 then (if x1 = 0 then (xb1 (f218_answerWhat N h b a) (fun a7 => some a7)) else (some a)) else (if x0 = 103 then (if x1 = 0 then (xg (¬ (a 136 6 < 0 ∨ b ≤ (a 136 6).toNatClampNeg)) (xw (xU a 140 ((a 136 6).toNatClampNeg) 0) (fun a10 => some a10))) else (if x1 = 3 then (xb1 (f240_clearStops N h b a) (fun a19 => some a19)) else (some a))) else (if x0 = 104 then (xb1 (f239_turnModes N h b 1 a) (fun a24 => some a24)) else (if x0 = 108 then (xb1 (f239_turnModes N h b 0 a) (fun a29 => some a29)) else (if x0 = 109 then (xb1 (f237_dressByNumbers N h b a) (fun a34 => some a34)) else (if x0 = 110 then (if x1 = 5 then (xb1 (f241_answerWell N h b a) (fun a41 => some a41)) else (if x1 = 6 then (xb1 (f242_answerPlace N h b a) (fun a47 => some a47)) else (some a))) else (if x0 = 113 then (xb1 (f238_lightByNumbers N h b a) (fun a52 => some a52)) else (some a)))))))

def j226_498 (N h b : Nat) (t0 : Int32) (t1 : Int32) (a : xA) : Option (xA) :=
  xb1 (f235_setMargins N h b t1 t0 a) (fun a79 => some a79)

def j226_25 (N h b : Nat) (q1 : Int32) (q2 : Int32) (t0 : Int32) (a : xA) : Option (xA) :=
  if q1 = 64 then (xb1 (f233_slideCellsHere N h b (xmax 1 q2) a) (fun a7 => some a7)) else (if q1 = 65 then (xb1 (f227_goUp N h b (xmax 1 q2) a) (fun a12 => some a12)) else (if q1 = 66 then (xb1 (f228_goDown N h b (xmax 1 q2) a) (fun a17 => some a17)) else (if q1 = 67 then (xb1 (f16_place N h b (a 136 5) ((a 136 6) + (xmax 1 q2)) a) (fun a22 => some a22)) else (if q1 = 68 then (xb1 (f16_place N h b (a 136 5) ((a 136 6) - (xmax 1 q2)) a) (fun a27 => some a27)) else (if q1 = 71 then (xb1 (f16_place N h b (a 136 5) ((xmax 1 q2) - 1) a) (fun a32 => some a32)) else (if q1 = 72 ∨ q1 = 102 then (xb1 (f229_placeTold N h b ((xmax 1 q2) - 1) ((xmax 1 t0) - 1) a) (fun a37 => some a37)) else (if q1 = 74 then (xb1 (f230_eraseScreen N h b q2 a) (fun a42 => some a42)) else (if q1 = 75 then (xb1 (f231_eraseRow N h b q2 a) (fun a47 => some a47)) else (if q1 = 76 then (xb1 (f232_slideRowsHere N h b (xmax 1 q2) a) (fun a52 => some a52)) else (if q1 = 77 then (xb1 (f232_slideRowsHere N h b (-(xmax 1 q2)) a) (fun a57 => some a57)) else (if q1 = 80 then (xb1 (f233_slideCellsHere N h b (-(xmax 1 q2)) a) (fun a62 => some a62)) else (if q1 = 88 then (xb1 (f234_blankCellsHere N h b (xmax 1 q2) a) (fun a67 => some a67)) else (if q1 = 100 then (xb1 (f229_placeTold N h b ((xmax 1 q2) - 1) (a 136 6) a) (fun a72 => some a72)) else (if q1 = 114 then (if t0 = 0 then (j226_498 N h b (a 136 0) (xmax 1 q2) a) else (j226_498 N h b t0 (xmax 1 q2) a)) else (xb1 (f236_setOrAnswer N h b q1 q2 a) (fun a83 => some a83))))))))))))))))

/-- TerminalHouse$Terminal.moveOrErase(I)V -/
def f226_moveOrErase (N h b : Nat) (x0 : Int32) (a : xA) : Option (xA) :=
  if (a 129 12) ≤ 1 then (j226_25 N h b x0 (a 135 0) 0 a) else (j226_25 N h b x0 (a 135 0) (a 135 1) a)

def j223_149 (N h b : Nat) (a : xA) : Option (xA) :=
  xw (xU a 129 9 4) (fun a23 => some a23)

def j223_131 (N h b : Nat) (q1 : Int32) (q2 : Int32) (a : xA) : Option (xA) :=
  if q1 = 63 then (if q2 = 0 then (j223_149 N h b a) else (xw (xU a 129 13 1) (fun a26 => some a26))) else (j223_149 N h b a)

/-- TerminalHouse$Terminal.readSequence(I)V -/
def f223_readSequence (N h b : Nat) (x0 : Int32) (a : xA) : Option (xA) :=
  xw (xU a 129 14 0) (fun a1 => if x0 < 64 then (xb2 (f35_isDigit N h b x0 a1) (fun r8 a9 => if r8 = 0 then (if x0 = 59 then (if 8 ≤ (a9 129 12) then (j223_131 N h b x0 (a 129 14) a9) else (xg (¬ (a9 129 12 < 0 ∨ 8 ≤ (a9 129 12).toNatClampNeg)) (xw (xU a9 135 ((a9 129 12).toNatClampNeg) 0) (fun a29 => xw (xU a29 129 12 ((a29 129 12) + 1)) (fun a33 => some a33))))) else (j223_131 N h b x0 (a 129 14) a9)) else (xb2 (f10_nearest N h b ((a9 129 12) - 1) 0 7 a9) (fun r39 a40 => xg (¬ (r39 < 0 ∨ 8 ≤ r39.toNatClampNeg)) (xw (xU a40 135 (r39.toNatClampNeg) (xmin 9999 ((((a40 135 (r39.toNatClampNeg)) * 10) + x0) - 48))) (fun a42 => some a42)))))) else (xw (xU a1 129 9 0) (fun a45 => if (a45 129 13) = 0 then (xb1 (f226_moveOrErase N h b x0 a45) (fun a52 => some a52)) else (xb1 (f224_turnPrivateModes N h b x0 a45) (fun a56 => some a56)))))

def j204_13 (N h b : Nat) (a : xA) : Option (xA) :=
  xw (xU a 129 9 0) (fun a5 => xb1 (f205_printSign N h b 225 a5) (fun a11 => some a11))

/-- TerminalHouse$Terminal.readByte(I)V -/
def f204_readByte (N h b : Nat) (x0 : Int32) (a : xA) : Option (xA) :=
  if x0 = 256 then (j204_13 N h b a) else (if x0 = 26 then (j204_13 N h b a) else (if x0 = 24 then (xw (xU a 129 9 0) (fun a14 => some a14)) else (if x0 = 27 then (xw (xU a 129 9 1) (fun a18 => xw (xU a18 129 10 0) (fun a21 => some a21))) else (if x0 = 0 then (some a) else (if x0 < 127 then (if (a 129 9) = 5 then (xw (xU a 129 9 (if x0 = 7 then (0 : Int32) else (5 : Int32))) (fun a32 => some a32)) else (if 32 ≤ x0 then (if (a 129 9) = 0 then (xb1 (f211_print N h b x0 a) (fun a40 => some a40)) else (if (a 129 9) = 1 then (xb1 (f212_readEscape N h b x0 a) (fun a46 => some a46)) else (if (a 129 9) = 3 then (xb1 (f223_readSequence N h b x0 a) (fun a52 => some a52)) else (if x0 < (if (a 129 9) = 2 then (48 : Int32) else (64 : Int32)) then (some a) else (xw (xU a 129 9 0) (fun a56 => some a56)))))) else (xb1 (f209_control N h b x0 a) (fun a62 => some a62)))) else (some a))))))

def j203_68 (N h b : Nat) (q1 : Int32) (a : xA) : Option (xA) :=
  xb1 (f204_readByte N h b q1 a) (fun a26 => some a26)

/-- TerminalHouse$Terminal.act()V -/
def f203_act (N h b : Nat) (a : xA) : Option (xA) :=
  if (a 136 16) ≤ 0 then (if (a 129 5) = 0 then (xb2 (f163_size N h b 130 a) (fun r7 a8 => if r7 ≤ 0 then (some a8) else (xb2 (f172_takeFirst N h b 130 a8) (fun r14 a15 => xb2 (f163_size N h b 130 a15) (fun r19 a20 => if 16 < r19 then (j203_68 N h b r14 a20) else (xw (xU a20 129 4 0) (fun a27 => j203_68 N h b r14 a27))))))) else (some a)) else (xw (xU a 136 16 ((a 136 16) - 1)) (fun a30 => some a30))

/-- TerminalHouse$Wire.isFree()Z -/
def f244_isFree (N h b : Nat) (o : Nat) (a : xA) : Option (Int32 × xA) :=
  xg (xk o = 11) (xg ((if (a o 0) = (-1) then (1 : Int32) else (0 : Int32)) = 0 ∨ (if (a o 0) = (-1) then (1 : Int32) else (0 : Int32)) = 1) (some ((if (a o 0) = (-1) then (1 : Int32) else (0 : Int32)), a)))

def j245_19 (N h b : Nat) (t0 : Int32) (a : xA) : Option (Int32 × xA) :=
  if t0 = (a 129 7) then (if (a 129 6) = 0 then (xb2 (f172_takeFirst N h b 132 a) (fun r24 a25 => some (r24, a25))) else (some ((-1), a))) else (xg (t0 = 0 ∨ t0 = 1) (xw (xU a 129 7 t0) (fun a26 => some ((if t0 = 0 then (17 : Int32) else (19 : Int32)), a26))))

def j245_14 (N h b : Nat) (a : xA) : Option (Int32 × xA) :=
  j245_19 N h b 1 a

/-- TerminalHouse$Terminal.nextToSend()I -/
def f245_nextToSend (N h b : Nat) (a : xA) : Option (Int32 × xA) :=
  if (a 129 4) = 0 then (if (if (a 129 5) = 0 then (0 : Int32) else (1 : Int32)) = (a 129 7) then (if (a 129 6) = 0 then (xb2 (f172_takeFirst N h b 132 a) (fun r11 a12 => some (r11, a12))) else (some ((-1), a))) else (xg ((if (a 129 5) = 0 then (0 : Int32) else (1 : Int32)) = 0 ∨ (if (a 129 5) = 0 then (0 : Int32) else (1 : Int32)) = 1) (xw (xU a 129 7 (if (a 129 5) = 0 then (0 : Int32) else (1 : Int32))) (fun a13 => some ((if (if (a 129 5) = 0 then (0 : Int32) else (1 : Int32)) = 0 then (17 : Int32) else (19 : Int32)), a13))))) else (j245_14 N h b a)

/-- TerminalHouse$Wire.carry(II)V -/
def f246_carry (N h b : Nat) (o : Nat) (x0 : Int32) (x1 : Int32) (a : xA) : Option (xA) :=
  xg (xk o = 11) (if x0 = (-1) then (some a) else (xw (xU a o 0 x0) (fun a3 => xw (xU a3 o 1 x1) (fun a6 => xw (xU a6 o 2 0) (fun a9 => xw (xU a9 o 3 ((a9 o 3) + 1)) (fun a12 => some a12))))))

/-- TerminalHouse$Discipline.nextToSend()I -/
def f247_nextToSend (N h b : Nat) (a : xA) : Option (Int32 × xA) :=
  if (a 116 4) = 0 then (xb2 (f172_takeFirst N h b 117 a) (fun r6 a7 => some (r6, a7))) else (some ((-1), a))

def j177_198 (N h b : Nat) (rc : Int32 → xA → Option (Nat × Int32 × xA)) (w1 : Int32) (q2 : Int32) (a : xA) : Option (Nat × Int32 × xA) :=
  rc q2 a

def j177_165 (N h b : Nat) (rc : Int32 → xA → Option (Nat × Int32 × xA)) (w1 : Int32) (q2 : Int32) (a : xA) : Option (Nat × Int32 × xA) :=
  xb2 (f244_isFree N h b 127 a) (fun r45 a46 => if r45 = 0 then (j177_198 N h b (rc) w1 q2 a46) else (xb2 (f247_nextToSend N h b a46) (fun r52 a53 => xb1 (f246_carry N h b 127 r52 ((a53 0 15) + (a53 0 13)) a53) (fun a57 => j177_198 N h b (rc) w1 q2 a57))))

def j177_125 (N h b : Nat) (rc : Int32 → xA → Option (Nat × Int32 × xA)) (w1 : Int32) (q2 : Int32) (a : xA) : Option (Nat × Int32 × xA) :=
  xb1 (f203_act N h b a) (fun a34 => xb2 (f244_isFree N h b 128 a34) (fun r38 a39 => if r38 = 0 then (j177_165 N h b (rc) w1 q2 a39) else (xb2 (f245_nextToSend N h b a39) (fun r61 a62 => xb1 (f246_carry N h b 128 r61 ((a62 0 15) + (a62 0 13)) a62) (fun a66 => j177_165 N h b (rc) w1 q2 a66)))))

def j177_101 (N h b : Nat) (rc : Int32 → xA → Option (Nat × Int32 × xA)) (w1 : Int32) (q2 : Int32) (a : xA) : Option (Nat × Int32 × xA) :=
  if ((a 0 15) - (a 0 15) / 4 * 4) = 0 then (xb1 (f193_scan N h b (a 0 15) a) (fun a30 => j177_125 N h b (rc) w1 q2 a30)) else (j177_125 N h b (rc) w1 q2 a)

def j177_69 (N h b : Nat) (rc : Int32 → xA → Option (Nat × Int32 × xA)) (w1 : Int32) (q2 : Int32) (a : xA) : Option (Nat × Int32 × xA) :=
  xb2 (f178_arriving N h b 128 (a 0 15) a) (fun r20 a21 => if r20 = (-1) then (j177_101 N h b (rc) w1 q2 a21) else (if r20 = 256 then (j177_101 N h b (rc) w1 q2 a21) else (xb1 (f180_receive N h b r20 a21) (fun a72 => j177_101 N h b (rc) w1 q2 a72))))

def l177_16 (N h b : Nat) (w1 : Int32) : Nat → Int32 → xA → Option (Nat × Int32 × xA)
  | 0, _, _ => none
  | n + 1, v2, a => if w1 ≤ v2 then (some (0, v2, a)) else (if 1000000000 ≤ (a 0 15) then (some (0, v2, a)) else (xw (xU a 0 15 ((a 0 15) + 1)) (fun a7 => xb2 (f178_arriving N h b 127 (a7 0 15) a7) (fun r13 a14 => if r13 = (-1) then (j177_69 N h b (l177_16 N h b w1 n) w1 (v2 + 1) a14) else (xb1 (f179_receive N h b r13 a14) (fun a76 => j177_69 N h b (l177_16 N h b w1 n) w1 (v2 + 1) a76))))))

/-- TerminalHouse.ticks(I)I -/
def f177_ticks (N h b : Nat) (x0 : Int32) (a : xA) : Option (Int32 × xA) :=
  if x0 < 1 then (some ((-1), a)) else (if x0 ≤ 2000 then ((l177_16 N h b x0 N 0 a).bind (fun z77 => some (z77.2.1, z77.2.2))) else (some ((-1), a)))

/-- TerminalHouse$Glass.hasCell(II)Z -/
def f249_hasCell (N h b : Nat) (x0 : Int32) (x1 : Int32) (a : xA) : Option (Int32 × xA) :=
  if x0 < 0 then (some (0, a)) else (if (a 136 0) ≤ x0 then (some (0, a)) else (if x1 < 0 then (some (0, a)) else (xg ((if (a 136 1) ≤ x1 then (0 : Int32) else (1 : Int32)) = 0 ∨ (if (a 136 1) ≤ x1 then (0 : Int32) else (1 : Int32)) = 1) (some ((if (a 136 1) ≤ x1 then (0 : Int32) else (1 : Int32)), a)))))

/-- TerminalHouse.screen(II)I -/
def f248_screen (N h b : Nat) (x0 : Int32) (x1 : Int32) (a : xA) : Option (Int32 × xA) :=
  xb2 (f249_hasCell N h b x0 x1 a) (fun r4 a5 => if r4 = 0 then (some ((-1), a5)) else (xg (¬ ((x0 * (a5 136 1)) + x1 < 0 ∨ (h * b) ≤ ((x0 * (a5 136 1)) + x1).toNatClampNeg)) (some (a5 138 (((x0 * (a5 136 1)) + x1).toNatClampNeg), a5))))

/-- TerminalHouse.width(I)I -/
def f250_width (N h b : Nat) (x0 : Int32) (a : xA) : Option (Int32 × xA) :=
  xb2 (f249_hasCell N h b x0 0 a) (fun r4 a5 => if r4 = 0 then (some ((-1), a5)) else (xg (¬ (x0 < 0 ∨ h ≤ x0.toNatClampNeg)) (some (a5 139 (x0.toNatClampNeg), a5))))

/-- TerminalHouse$Terminal.tell(I)I -/
def f252_tell (N h b : Nat) (x0 : Int32) (a : xA) : Option (Int32 × xA) :=
  if x0 = 9 then (xb2 (f163_size N h b 130 a) (fun r5 a6 => some (r5, a6))) else (if x0 = 11 then (some ((if (a 129 5) = 0 then (0 : Int32) else (1 : Int32)), a)) else (if x0 = 12 then (some ((if (a 129 6) = 0 then (0 : Int32) else (1 : Int32)), a)) else (if x0 = 13 then (some ((if (a 129 4) = 0 then (0 : Int32) else (1 : Int32)) + (if (a 129 5) = 0 then (0 : Int32) else (2 : Int32)), a)) else (if x0 = 14 then (xb2 (f163_size N h b 132 a) (fun r18 a19 => some (r18, a19))) else (if x0 = 15 then (some (a 129 9, a)) else (if x0 = 16 then (some (a 129 8, a)) else (some ((-1), a))))))))

/-- TerminalHouse$Glass.tell(I)I -/
def f253_tell (N h b : Nat) (x0 : Int32) (a : xA) : Option (Int32 × xA) :=
  if x0 = 0 then (some (a 136 5, a)) else (if x0 = 1 then (some (a 136 6, a)) else (if x0 = 2 then (some ((if (a 136 7) = 0 then (0 : Int32) else (1 : Int32)), a)) else (if x0 = 3 then (some (a 136 8, a)) else (if x0 = 4 then (some (a 136 9, a)) else (if x0 = 5 then (some (a 136 11, a)) else (if x0 = 6 then (some (a 136 10, a)) else (if x0 = 7 then (some (a 136 14, a)) else (if x0 = 8 then (some (a 136 15, a)) else (if x0 = 10 then (some (a 136 16, a)) else (if x0 = 17 then (some (a 136 13, a)) else (some ((-1), a))))))))))))

def j251_41 (N h b : Nat) (q1 : Int32) (a : xA) : Option (Int32 × xA) :=
  xb2 (f253_tell N h b q1 a) (fun r9 a10 => some (r9, a10))

/-- TerminalHouse.state(I)I -/
def f251_state (N h b : Nat) (x0 : Int32) (a : xA) : Option (Int32 × xA) :=
  if x0 = 18 then (some (a 123 3, a)) else (if x0 < 9 then (j251_41 N h b x0 a) else (if 16 < x0 then (j251_41 N h b x0 a) else (if x0 = 10 then (j251_41 N h b x0 a) else (xb2 (f252_tell N h b x0 a) (fun r18 a19 => some (r18, a19))))))

def j255_25 (N h b : Nat) (rc : Int32 → Int32 → xA → Option (Nat × Int32 × xA)) (q1 : Int32) (q2 : Int32) (a : xA) : Option (Nat × Int32 × xA) :=
  rc q1 (q2 + 1) a

def l255_4 (N h b : Nat) : Nat → Int32 → Int32 → xA → Option (Nat × Int32 × xA)
  | 0, _, _, _ => none
  | n + 1, v1, v2, a => if 8 ≤ v2 then (some (0, v1, a)) else (xg (¬ (v2 < 0 ∨ 8 ≤ v2.toNatClampNeg)) (if (a (141 + 2 * v2.toNatClampNeg) 1) = 0 then (j255_25 N h b (l255_4 N h b n) v1 v2 a) else (j255_25 N h b (l255_4 N h b n) (v1 + 1) v2 a)))

/-- TerminalHouse.openWindows()I -/
def f255_openWindows (N h b : Nat) (a : xA) : Option (Int32 × xA) :=
  (l255_4 N h b N 0 0 a).bind (fun z5 => some (z5.2.1, z5.2.2))

/-- TerminalHouse$Discipline.tell(I)I -/
def f256_tell (N h b : Nat) (x0 : Int32) (a : xA) : Option (Int32 × xA) :=
  if x0 = 5 then (xb2 (f163_size N h b 117 a) (fun r5 a6 => some (r5, a6))) else (if x0 = 6 then (some ((if (a 116 4) = 0 then (0 : Int32) else (1 : Int32)), a)) else (if x0 = 7 then (xb2 (f163_size N h b 119 a) (fun r13 a14 => some (r13, a14))) else (if x0 = 8 then (xb2 (f163_size N h b 121 a) (fun r19 a20 => some (r19, a20))) else (if x0 = 9 then (some (a 116 6, a)) else (if x0 = 10 then (some (a 116 7, a)) else (if x0 = 17 then (some (a 116 3, a)) else (if x0 = 18 then (some (a 116 9, a)) else (some ((-1), a)))))))))

def j254_206 (N h b : Nat) (a : xA) : Option (Int32 × xA) :=
  some ((-1), a)

def j254_238 (N h b : Nat) (a : xA) : Option (Int32 × xA) :=
  some ((-1), a)

/-- TerminalHouse.count(I)I -/
def f254_count (N h b : Nat) (x0 : Int32) (a : xA) : Option (Int32 × xA) :=
  if x0 = 0 then (some (a 0 15, a)) else (if x0 = 1 then (some (a 3 1, a)) else (if x0 = 2 then (if (a 0 14) = -1 then (some (0, a)) else (some (a 98 4, a))) else (if x0 = 3 then (if (a 0 14) = -1 then (some (0, a)) else (some (a 98 5, a))) else (if x0 = 4 then (xb2 (f255_openWindows N h b a) (fun r11 a12 => some (r11, a12))) else (if x0 = 11 then (some (a 127 3, a)) else (if x0 = 12 then (some (a 128 3, a)) else (if x0 = 13 then (some (a 0 1, a)) else (if x0 = 14 then (if (a 0 14) = -1 then (some (0, a)) else (some (a 100 8, a))) else (if x0 = 15 then (if (a 0 14) = -1 then (j254_206 N h b a) else (if (a 97 14) = 0 then (j254_206 N h b a) else (some (a 100 6, a)))) else (if x0 = 16 then (if (a 0 14) = -1 then (j254_238 N h b a) else (if (a 97 14) = 0 then (j254_238 N h b a) else (some (a 100 7, a)))) else (xb2 (f256_tell N h b x0 a) (fun r29 a30 => some (r29, a30)))))))))))))

/-- TerminalHouse.stop(II)I -/
def f257_stop (N h b : Nat) (x0 : Int32) (x1 : Int32) (a : xA) : Option (Int32 × xA) :=
  xb2 (f249_hasCell N h b x0 x1 a) (fun r4 a5 => if r4 = 0 then (some ((-1), a5)) else (xg (¬ (x1 < 0 ∨ b ≤ x1.toNatClampNeg)) (some ((if (a5 140 (x1.toNatClampNeg)) = 0 then (0 : Int32) else (1 : Int32)), a5))))

/-- TerminalHouseModel.thrown()I -/
def f260_thrown (N h b : Nat) (a : xA) : Option (Int32 × xA) :=
  some (a 157 0, a)

def l261_23 (N h b : Nat) (w1 : Int32) (w2 : Int32) (w3 : Int32) (w4 : Int32) (w5 : Int32) : Nat → Int32 → xA → Option (Nat × xA)
  | 0, _, _ => none
  | n + 1, v6, a => if 20 ≤ v6 then (some (0, a)) else (xg (¬ ((a 157 2) + v6 < 0 ∨ 3000 ≤ ((a 157 2) + v6).toNatClampNeg)) (xw (xU a 158 (((a 157 2) + v6).toNatClampNeg) (vp_nar .byte (((if 4 ≤ v6 then (if 8 ≤ v6 then (if 12 ≤ v6 then (if 16 ≤ v6 then (w5) else (w4)) else (w3)) else (w2)) else (w1)) >>> ((8 * (3 - (v6 - v6 / 4 * 4))) &&& 31)).toInt8.toInt32))) (fun a10 => l261_23 N h b w1 w2 w3 w4 w5 n (v6 + 1) a10)))

/-- TerminalHouseModel.feed(IIIII)Z -/
def f261_feed (N h b : Nat) (x0 : Int32) (x1 : Int32) (x2 : Int32) (x3 : Int32) (x4 : Int32) (a : xA) : Option (Int32 × xA) :=
  xw (xU a 157 0 0) (fun a1 => if ((a1 157 2) + 20) ≤ 3000 then ((l261_23 N h b x0 x1 x2 x3 x4 N 0 a1).bind (fun z14 => xw (xU z14.2 157 2 ((z14.2 157 2) + 20)) (fun a16 => some (1, a16)))) else (some (0, a1)))

/-- TerminalHouseModel.end(I)Z -/
def f262_end (N h b : Nat) (x0 : Int32) (a : xA) : Option (Int32 × xA) :=
  xw (xU a 157 0 0) (fun a1 => if x0 < 0 then (some (0, a1)) else (if x0 ≤ (a1 157 2) then (xw (xU a1 157 2 x0) (fun a8 => some (1, a8))) else (some (0, a1))))

def j263_18 (N h b : Nat) (q1 : Int32) (t0 : Int32) (a : xA) : Option (Int32 × xA) :=
  xw (xU a 157 0 t0) (fun a4 => if (a4 157 0) ≤ 0 then (xg (¬ (q1 < 0 ∨ 300 ≤ q1.toNatClampNeg)) (some ((a4 159 (q1.toNatClampNeg)) &&& 255, a4))) else (some (0, a4)))

def j263_13 (N h b : Nat) (q1 : Int32) (a : xA) : Option (Int32 × xA) :=
  j263_18 N h b q1 1 a

/-- TerminalHouseModel.octet(I)I -/
def f263_octet (N h b : Nat) (x0 : Int32) (a : xA) : Option (Int32 × xA) :=
  if x0 < 0 then (j263_13 N h b x0 a) else (xw (xU a 157 0 (if x0 < (a 157 4) then (0 : Int32) else (1 : Int32))) (fun a11 => if (a11 157 0) ≤ 0 then (xg (¬ (x0 < 0 ∨ 300 ≤ x0.toNatClampNeg)) (some ((a11 159 (x0.toNatClampNeg)) &&& 255, a11))) else (some (0, a11))))

/-- TerminalHouseModel.here(I)I -/
def f266_here (N h b : Nat) (x0 : Int32) (a : xA) : Option (Int32 × xA) :=
  if (a 157 16) ≤ x0 then (some ((-1), a)) else (xg (¬ (x0 < 0 ∨ 3000 ≤ x0.toNatClampNeg)) (some ((a 158 (x0.toNatClampNeg)) &&& 255, a)))

def j267_12 (N h b : Nat) (a : xA) : Option (Int32 × xA) :=
  some (1, a)

/-- TerminalHouseModel.isBlank(I)Z -/
def f267_isBlank (N h b : Nat) (x0 : Int32) (a : xA) : Option (Int32 × xA) :=
  if x0 = 9 then (j267_12 N h b a) else (xg ((if x0 = 32 then (1 : Int32) else (0 : Int32)) = 0 ∨ (if x0 = 32 then (1 : Int32) else (0 : Int32)) = 1) (some ((if x0 = 32 then (1 : Int32) else (0 : Int32)), a)))

def l268_0 (N h b : Nat) : Nat → xA → Option (Nat × xA)
  | 0, _ => none
  | n + 1, a => xb2 (f266_here N h b (a 157 15) a) (fun r18 a19 => xb2 (f267_isBlank N h b r18 a19) (fun r23 a24 => if r23 = 0 then (some (0, a24)) else (xw (xU a24 157 15 ((a24 157 15) + 1)) (fun a26 => l268_0 N h b n a26))))

/-- TerminalHouseModel.blanks()V -/
def f268_blanks (N h b : Nat) (a : xA) : Option (xA) :=
  xb2 (f266_here N h b (a 157 15) a) (fun r4 a5 => xb2 (f267_isBlank N h b r4 a5) (fun r9 a10 => if r9 = 0 then (some a10) else (xw (xU a10 157 15 ((a10 157 15) + 1)) (fun a12 => (l268_0 N h b N a12).bind (fun z29 => some z29.2)))))

def j269_19 (N h b : Nat) (a : xA) : Option (Int32 × xA) :=
  some (1, a)

/-- TerminalHouseModel.ends(I)Z -/
def f269_ends (N h b : Nat) (x0 : Int32) (a : xA) : Option (Int32 × xA) :=
  if (a 157 16) ≤ x0 then (j269_19 N h b a) else (xg (¬ (x0 < 0 ∨ 3000 ≤ x0.toNatClampNeg)) (xg ((if (a 158 (x0.toNatClampNeg)) = 10 then (1 : Int32) else (0 : Int32)) = 0 ∨ (if (a 158 (x0.toNatClampNeg)) = 10 then (1 : Int32) else (0 : Int32)) = 1) (some ((if (a 158 (x0.toNatClampNeg)) = 10 then (1 : Int32) else (0 : Int32)), a))))

/-- TerminalHouseModel.fails(II)Z -/
def f270_fails (N h b : Nat) (x0 : Int32) (x1 : Int32) (a : xA) : Option (Int32 × xA) :=
  xw (xU a 157 13 x0) (fun a1 => xw (xU a1 157 14 x1) (fun a4 => some (0, a4)))

/-- TerminalHouseModel.isLetter(I)Z -/
def f273_isLetter (N h b : Nat) (x0 : Int32) (a : xA) : Option (Int32 × xA) :=
  if x0 < 97 then (some (0, a)) else (xg ((if 122 < x0 then (0 : Int32) else (1 : Int32)) = 0 ∨ (if 122 < x0 then (0 : Int32) else (1 : Int32)) = 1) (some ((if 122 < x0 then (0 : Int32) else (1 : Int32)), a)))

/-- TerminalHouseModel.isDigit(I)Z -/
def f274_isDigit (N h b : Nat) (x0 : Int32) (a : xA) : Option (Int32 × xA) :=
  if x0 < 48 then (some (0, a)) else (xg ((if 57 < x0 then (0 : Int32) else (1 : Int32)) = 0 ∨ (if 57 < x0 then (0 : Int32) else (1 : Int32)) = 1) (some ((if 57 < x0 then (0 : Int32) else (1 : Int32)), a)))

def j276_24 (N h b : Nat) (a : xA) : Option (Int32 × xA) :=
  some (1, a)

/-- TerminalHouseModel.isText(I)Z -/
def f276_isText (N h b : Nat) (x0 : Int32) (a : xA) : Option (Int32 × xA) :=
  if x0 = 9 then (j276_24 N h b a) else (if x0 = 10 then (j276_24 N h b a) else (if x0 < 32 then (some (0, a)) else (xg ((if 126 < x0 then (0 : Int32) else (1 : Int32)) = 0 ∨ (if 126 < x0 then (0 : Int32) else (1 : Int32)) = 1) (some ((if 126 < x0 then (0 : Int32) else (1 : Int32)), a)))))

/-- TerminalHouseModel.isNone()Z -/
def f275_isNone (N h b : Nat) (a : xA) : Option (Int32 × xA) :=
  if (a 157 16) ≤ (a 157 15) then (some (0, a)) else (xb2 (f266_here N h b (a 157 15) a) (fun r6 a7 => xb2 (f276_isText N h b r6 a7) (fun r11 a12 => xg ((if r11 = 0 then (1 : Int32) else (0 : Int32)) = 0 ∨ (if r11 = 0 then (1 : Int32) else (0 : Int32)) = 1) (some ((if r11 = 0 then (1 : Int32) else (0 : Int32)), a12)))))

def j278_26 (N h b : Nat) (a : xA) : Option (Int32 × xA) :=
  some (1, a)

/-- TerminalHouseModel.isOfName(I)Z -/
def f278_isOfName (N h b : Nat) (x0 : Int32) (a : xA) : Option (Int32 × xA) :=
  xb2 (f273_isLetter N h b x0 a) (fun r4 a5 => if r4 = 0 then (xb2 (f274_isDigit N h b x0 a5) (fun r11 a12 => if r11 = 0 then (if x0 = 45 then (j278_26 N h b a12) else (xg ((if x0 = 43 then (1 : Int32) else (0 : Int32)) = 0 ∨ (if x0 = 43 then (1 : Int32) else (0 : Int32)) = 1) (some ((if x0 = 43 then (1 : Int32) else (0 : Int32)), a12)))) else (j278_26 N h b a12))) else (j278_26 N h b a5))

def l280_21 (N h b : Nat) (w1 : Int32) (w2 : Nat) (w3 : Int32) (w4 : Int32) : Nat → Int32 → Int32 → xA → Option (Nat × Int32 × xA)
  | 0, _, _, _ => none
  | n + 1, v5, v6, a => if w4 ≤ v6 then (some (0, v5, a)) else (if v5 = 0 then (some (0, v5, a)) else (xg (¬ ((12 * w1) + v6 < 0 ∨ 576 ≤ ((12 * w1) + v6).toNatClampNeg)) (xg (¬ (w3 + v6 < 0 ∨ xl h b w2 ≤ (w3 + v6).toNatClampNeg)) (l280_21 N h b w1 w2 w3 w4 n (if (a 161 (((12 * w1) + v6).toNatClampNeg)) = (a w2 ((w3 + v6).toNatClampNeg)) then (1 : Int32) else (0 : Int32)) (v6 + 1) a))))

/-- TerminalHouseModel.isName(I[BII)Z -/
def f280_isName (N h b : Nat) (x0 : Int32) (x1 : Nat) (x2 : Int32) (x3 : Int32) (a : xA) : Option (Int32 × xA) :=
  xg (xk x1 = 102) (xg (¬ (x0 < 0 ∨ 48 ≤ x0.toNatClampNeg)) ((l280_21 N h b x0 x1 x2 x3 N (if (a 162 (x0.toNatClampNeg)) = x3 then (1 : Int32) else (0 : Int32)) 0 a).bind (fun z11 => xg (z11.2.1 = 0 ∨ z11.2.1 = 1) (some (z11.2.1, z11.2.2)))))

def l279_13 (N h b : Nat) (w1 : Nat) (w2 : Int32) (w3 : Int32) (w4 : Int32) (w5 : Int32) : Nat → Int32 → xA → Option (Nat × xA)
  | 0, _, _ => none
  | n + 1, v6, a => xg (¬ (w5 < 0 ∨ 12 ≤ w5.toNatClampNeg)) (if (a 160 (w5.toNatClampNeg)) ≤ v6 then (some (1, a)) else (xb2 (f280_isName N h b ((4 * w5) + v6) w1 w2 w3 a) (fun r8 a9 => if r8 = 0 then (l279_13 N h b w1 w2 w3 w4 w5 n (v6 + 1) a9) else (some (0, a9)))))

def l279_3 (N h b : Nat) (w1 : Nat) (w2 : Int32) (w3 : Int32) (w4 : Int32) : Nat → Int32 → xA → Option (Nat × Int32 × xA)
  | 0, _, _ => none
  | n + 1, v5, a => if w4 ≤ v5 then (some (1, v5, a)) else ((l279_13 N h b w1 w2 w3 w4 v5 N 0 a).bind (fun z11 => if z11.1 = 0 then (some (0, v5, z11.2)) else (l279_3 N h b w1 w2 w3 w4 n (v5 + 1) z11.2)))

/-- TerminalHouseModel.entryOf([BIII)I -/
def f279_entryOf (N h b : Nat) (x0 : Nat) (x1 : Int32) (x2 : Int32) (x3 : Int32) (a : xA) : Option (Int32 × xA) :=
  xg (xk x0 = 102) ((l279_3 N h b x0 x1 x2 x3 N 0 a).bind (fun z13 => if z13.1 = 0 then (some (z13.2.1, z13.2.2)) else (some ((-1), z13.2.2))))

def l277_15 (N h b : Nat) (w1 : Int32) : Nat → xA → Option (Nat × xA)
  | 0, _ => none
  | n + 1, a => xb2 (f266_here N h b (a 157 15) a) (fun r7 a8 => xb2 (f278_isOfName N h b r7 a8) (fun r12 a13 => if r12 = 0 then (some (0, a13)) else (xw (xU a13 157 15 ((a13 157 15) + 1)) (fun a15 => l277_15 N h b w1 n a15))))

def j277_57 (N h b : Nat) (a : xA) : Option (Int32 × xA) :=
  xb2 (f270_fails N h b 1 (a 157 15) a) (fun r25 a26 => xg (r25 = 0 ∨ r25 = 1) (some (r25, a26)))

/-- TerminalHouseModel.useOf()Z -/
def f277_useOf (N h b : Nat) (a : xA) : Option (Int32 × xA) :=
  xw (xU a 157 15 ((a 157 15) + 1)) (fun a1 => (l277_15 N h b (a1 157 15) N a1).bind (fun z18 => if (z18.2 157 15) = (a1 157 15) then (j277_57 N h b z18.2) else (xb2 (f275_isNone N h b z18.2) (fun r31 a32 => if r31 = 0 then (if ((a32 157 15) - (a1 157 15)) ≤ 12 then (if (a32 157 19) = 4 then (xb2 (f270_fails N h b 11 (a1 157 15) a32) (fun r39 a40 => xg (r39 = 0 ∨ r39 = 1) (some (r39, a40)))) else (xb2 (f279_entryOf N h b 158 (a1 157 15) ((a32 157 15) - (a1 157 15)) (a32 157 17) a32) (fun r45 a46 => if r45 = (-1) then (xb2 (f270_fails N h b 9 (a1 157 15) a46) (fun r51 a52 => xg (r51 = 0 ∨ r51 = 1) (some (r51, a52)))) else (xg (¬ (a46 157 19 < 0 ∨ 4 ≤ (a46 157 19).toNatClampNeg)) (xw (xU a46 167 ((a46 157 19).toNatClampNeg) r45) (fun a54 => xw (xU a54 157 19 ((a54 157 19) + 1)) (fun a58 => some (1, a58)))))))) else (xb2 (f270_fails N h b 2 (a1 157 15) a32) (fun r64 a65 => xg (r64 = 0 ∨ r64 = 1) (some (r64, a65))))) else (j277_57 N h b a32)))))

def j281_112 (N h b : Nat) (rc : Int32 → Int32 → xA → Option (Nat × Int32 × xA)) (w1 : Int32) (w2 : Int32) (w3 : Int32) (q5 : Int32) (t0 : Int32) (a : xA) : Option (Nat × Int32 × xA) :=
  rc t0 (q5 + 1) a

def j281_87 (N h b : Nat) (rc : Int32 → Int32 → xA → Option (Nat × Int32 × xA)) (w1 : Int32) (w2 : Int32) (w3 : Int32) (q5 : Int32) (a : xA) : Option (Nat × Int32 × xA) :=
  j281_112 N h b (rc) w1 w2 w3 q5 0 a

def l281_23 (N h b : Nat) (w1 : Int32) (w2 : Int32) (w3 : Int32) : Nat → Int32 → Int32 → xA → Option (Nat × Int32 × xA)
  | 0, _, _, _ => none
  | n + 1, v4, v5, a => if 5 ≤ v5 then (some (0, v4, a)) else (if v4 = 0 then (some (0, v4, a)) else (if w2 ≤ v5 then (xg (¬ (5 * w3) + v5 < 0) (xbc (am_cs 4 (((5 * w3) + v5).toNatClampNeg)) (fun r7 => l281_23 N h b w1 w2 w3 n (if r7 = 32 then (1 : Int32) else (0 : Int32)) (v5 + 1) a))) else (xg (¬ (5 * w3) + v5 < 0) (xbc (am_cs 4 (((5 * w3) + v5).toNatClampNeg)) (fun r10 => if r10 = 32 then (j281_87 N h b (l281_23 N h b w1 w2 w3 n) w1 w2 w3 v5 a) else (xbc (am_cs 4 (((5 * w3) + v5).toNatClampNeg)) (fun r13 => xg (¬ (w1 + v5 < 0 ∨ 3000 ≤ (w1 + v5).toNatClampNeg)) (l281_23 N h b w1 w2 w3 n (if r13 = ((a 158 ((w1 + v5).toNatClampNeg)) &&& 255) then (1 : Int32) else (0 : Int32)) (v5 + 1) a))))))))

def j281_120 (N h b : Nat) (rc : Int32 → xA → Option (Nat × Int32 × xA)) (w1 : Int32) (w2 : Int32) (q3 : Int32) (q4 : Int32) (a : xA) : Option (Nat × Int32 × xA) :=
  if q4 = 0 then (rc (q3 + 1) a) else (some (0, q3, a))

def l281_2 (N h b : Nat) (w1 : Int32) (w2 : Int32) : Nat → Int32 → xA → Option (Nat × Int32 × xA)
  | 0, _, _ => none
  | n + 1, v3, a => if 39 ≤ v3 then (some (1, v3, a)) else ((l281_23 N h b w1 w2 v3 N (if 5 < w2 then (0 : Int32) else (1 : Int32)) 0 a).bind (fun z16 => j281_120 N h b (l281_2 N h b w1 w2 n) w1 w2 v3 z16.2.1 z16.2.2))

/-- TerminalHouseModel.abilityOf(II)I -/
def f281_abilityOf (N h b : Nat) (x0 : Int32) (x1 : Int32) (a : xA) : Option (Int32 × xA) :=
  (l281_2 N h b x0 x1 N 0 a).bind (fun z19 => if z19.1 = 0 then (some (z19.2.1, z19.2.2)) else (some ((-1), z19.2.2)))

def l282_7 (N h b : Nat) (w1 : Int32) (w2 : Int32) : Nat → Int64 → xA → Option (Nat × Int64 × xA)
  | 0, _, _ => none
  | n + 1, v3, a => xb2 (f266_here N h b (a 157 15) a) (fun r4 a5 => xb2 (f274_isDigit N h b r4 a5) (fun r9 a10 => if r9 = 0 then (some (0, v3, a10)) else (xb2 (f266_here N h b (a10 157 15) a10) (fun r15 a16 => xw (xU a16 157 15 ((a16 157 15) + 1)) (fun a17 => l282_7 N h b w1 w2 n (xminl (((10 * v3) + r15.toInt64) - 48) 1000000) a17)))))

def j282_75 (N h b : Nat) (a : xA) : Option (Int32 × xA) :=
  xb2 (f270_fails N h b 1 (a 157 15) a) (fun r27 a28 => xg (r27 = 0 ∨ r27 = 1) (some (r27, a28)))

def j282_103 (N h b : Nat) (q2 : Int32) (a : xA) : Option (Int32 × xA) :=
  xb2 (f270_fails N h b 2 q2 a) (fun r41 a42 => xg (r41 = 0 ∨ r41 = 1) (some (r41, a42)))

/-- TerminalHouseModel.digits(I)Z -/
def f282_digits (N h b : Nat) (x0 : Int32) (a : xA) : Option (Int32 × xA) :=
  (l282_7 N h b x0 (a 157 15) N 0 a).bind (fun z20 => if (z20.2.2 157 15) = (a 157 15) then (j282_75 N h b z20.2.2) else (xb2 (f275_isNone N h b z20.2.2) (fun r33 a34 => if r33 = 0 then (if 5 < ((a34 157 15) - (a 157 15)) then (j282_103 N h b (a 157 15) a34) else (if (lg_cmp z20.2.1 32767) ≤ 0 then (xg (¬ (x0 < 0 ∨ 468 ≤ x0.toNatClampNeg)) (xw (xU a34 164 (x0.toNatClampNeg) z20.2.1.toInt32) (fun a45 => some (1, a45)))) else (j282_103 N h b (a 157 15) a34))) else (j282_75 N h b a34))))

def j285_54 (N h b : Nat) (rc : Int32 → Int32 → xA → Option (Nat × Int32 × Int32 × xA)) (q1 : Int32) (q2 : Int32) (q3 : Int32) (a : xA) : Option (Nat × Int32 × Int32 × xA) :=
  xb2 (f269_ends N h b ((a 157 15) + q2) a) (fun r23 a24 => if r23 = 0 then (if q3 < 48 then (some (1, q1, q2, a24)) else (if q3 ≤ 55 then (rc (((8 * q1) + q3) - 48) (q2 + 1) a24) else (some (1, q1, q2, a24)))) else (some (1, q1, q2, a24)))

def l285_4 (N h b : Nat) : Nat → Int32 → Int32 → xA → Option (Nat × Int32 × Int32 × xA)
  | 0, _, _, _ => none
  | n + 1, v1, v2, a => if 3 < v2 then (some (2, v1, v2, a)) else (xb2 (f266_here N h b ((a 157 15) + v2) a) (fun r5 a6 => xb2 (f269_ends N h b ((a6 157 15) + v2) a6) (fun r10 a11 => if r10 = 0 then (xb2 (f276_isText N h b r5 a11) (fun r17 a18 => if r17 = 0 then (some (0, v1, v2, a18)) else (j285_54 N h b (l285_4 N h b n) v1 v2 r5 a18))) else (j285_54 N h b (l285_4 N h b n) v1 v2 r5 a11))))

def j285_79 (N h b : Nat) (a : xA) : Option (Int32 × xA) :=
  xb2 (f270_fails N h b 10 (a 157 15) a) (fun r43 a44 => some (0, a44))

def j285_119 (N h b : Nat) (a : xA) : Option (Int32 × xA) :=
  xb2 (f270_fails N h b 10 (a 157 15) a) (fun r51 a52 => some (0, a52))

/-- TerminalHouseModel.octal()I -/
def f285_octal (N h b : Nat) (a : xA) : Option (Int32 × xA) :=
  (l285_4 N h b N 0 1 a).bind (fun z33 => if z33.1 = 0 then (xb2 (f270_fails N h b 1 ((z33.2.2.2 157 15) + z33.2.2.1) z33.2.2.2) (fun r38 a39 => some (0, a39))) else (if z33.1 = 1 then (j285_79 N h b z33.2.2.2) else (if z33.2.1 = 0 then (j285_119 N h b z33.2.2.2) else (if z33.2.1 ≤ 255 then (xw (xU z33.2.2.2 157 20 z33.2.1) (fun a54 => some (4, a54))) else (j285_119 N h b z33.2.2.2)))))

def j284_155 (N h b : Nat) (q3 : Int32) (a : xA) : Option (Int32 × xA) :=
  if q3 = 44 ∨ q3 = 58 ∨ q3 = 92 ∨ q3 = 94 then (xw (xU a 157 20 q3) (fun a47 => some (2, a47))) else (if q3 = 69 then (xw (xU a 157 20 27) (fun a51 => some (2, a51))) else (if q3 = 98 then (xw (xU a 157 20 8) (fun a55 => some (2, a55))) else (if q3 = 102 then (xw (xU a 157 20 12) (fun a59 => some (2, a59))) else (if q3 = 110 then (xw (xU a 157 20 10) (fun a63 => some (2, a63))) else (if q3 = 114 then (xw (xU a 157 20 13) (fun a67 => some (2, a67))) else (if q3 = 115 then (xw (xU a 157 20 32) (fun a71 => some (2, a71))) else (if q3 = 116 then (xw (xU a 157 20 9) (fun a75 => some (2, a75))) else (xb2 (f270_fails N h b 10 (a 157 15) a) (fun r81 a82 => some (0, a82))))))))))

def j284_113 (N h b : Nat) (q1 : Int32) (q2 : Int32) (q3 : Int32) (a : xA) : Option (Int32 × xA) :=
  if q2 ≤ 0 then (if q1 = 94 then (some (2, a)) else (if q3 < 48 then (j284_155 N h b q3 a) else (if 55 < q3 then (j284_155 N h b q3 a) else (xb2 (f285_octal N h b a) (fun r87 a88 => some (r87, a88)))))) else (xb2 (f270_fails N h b 10 (a 157 15) a) (fun r92 a93 => some (0, a93)))

def j284_110 (N h b : Nat) (q1 : Int32) (q3 : Int32) (a : xA) : Option (Int32 × xA) :=
  j284_113 N h b q1 10 q3 a

def j284_51 (N h b : Nat) (q1 : Int32) (q2 : Int32) (a : xA) : Option (Int32 × xA) :=
  xb2 (f266_here N h b ((a 157 15) + 1) a) (fun r27 a28 => if q2 = 0 then (if q1 = 94 then (if r27 = 63 then (xw (xU a28 157 20 127) (fun a38 => j284_113 N h b q1 q2 r27 a38)) else (if r27 < 64 then (j284_110 N h b q1 r27 a28) else (if 95 < r27 then (j284_110 N h b q1 r27 a28) else (xw (xU a28 157 20 (r27 - 64)) (fun a99 => j284_113 N h b q1 q2 r27 a99))))) else (j284_113 N h b q1 q2 r27 a28)) else (j284_113 N h b q1 q2 r27 a28))

/-- TerminalHouseModel.escape(I)I -/
def f284_escape (N h b : Nat) (x0 : Int32) (a : xA) : Option (Int32 × xA) :=
  xb2 (f269_ends N h b ((a 157 15) + 1) a) (fun r4 a5 => if r4 = 0 then (xb2 (f266_here N h b ((a5 157 15) + 1) a5) (fun r11 a12 => xb2 (f276_isText N h b r11 a12) (fun r16 a17 => if r16 = 0 then (xb2 (f270_fails N h b 1 ((a17 157 15) + 1) a17) (fun r22 a23 => some (0, a23))) else (j284_51 N h b x0 0 a17)))) else (j284_51 N h b x0 10 a5))

/-- TerminalHouseModel.byteOf(II)I -/
def f288_byteOf (N h b : Nat) (x0 : Int32) (x1 : Int32) (a : xA) : Option (Int32 × xA) :=
  if x1 < 0 then (some ((-1), a)) else (xg (¬ (x0 < 0 ∨ 468 ≤ x0.toNatClampNeg)) (if (a 166 (x0.toNatClampNeg)) ≤ x1 then (some ((-1), a)) else (xg (¬ ((40 * x0) + x1 < 0 ∨ 18720 ≤ ((40 * x0) + x1).toNatClampNeg)) (some ((a 165 (((40 * x0) + x1).toNatClampNeg)) &&& 255, a)))))

def j287_619 (N h b : Nat) (q1 : Int32) (q2 : Int32) (a : xA) : Option (Int32 × xA) :=
  xb2 (f288_byteOf N h b q1 (q2 + 3) a) (fun r39 a40 => some ((if r39 = 100 then (4 : Int32) else (0 : Int32)), a40))

def l287_479 (N h b : Nat) (w1 : Int32) (w2 : Int32) : Nat → Int32 → Int32 → xA → Option (Nat × Int32 × Int32 × xA)
  | 0, _, _, _ => none
  | n + 1, v4, v5, a => if 6 ≤ v4 then (some (0, v4, v5, a)) else (xb2 (f288_byteOf N h b w1 ((w2 + 2) + v4) a) (fun r67 a68 => xb2 (f274_isDigit N h b r67 a68) (fun r72 a73 => if r72 = 0 then (some (0, v4, v5, a73)) else (xb2 (f288_byteOf N h b w1 ((w2 + 2) + v4) a73) (fun r78 a79 => l287_479 N h b w1 w2 n (v4 + 1) (((10 * v5) + r78) - 48) a79)))))

def j287_531 (N h b : Nat) (q1 : Int32) (q2 : Int32) (q4 : Int32) (q5 : Int32) (a : xA) : Option (Int32 × xA) :=
  if q4 ≤ 0 then (some (0, a)) else (if 6 ≤ q4 then (some (0, a)) else (if 32767 < q5 then (some (0, a)) else (xb2 (f288_byteOf N h b q1 ((q2 + 2) + q4) a) (fun r94 a95 => some ((if r94 = 125 then (q4 + 3) else (0 : Int32)), a95)))))

/-- TerminalHouseModel.item(II)I -/
def f287_item (N h b : Nat) (x0 : Int32) (x1 : Int32) (a : xA) : Option (Int32 × xA) :=
  xb2 (f288_byteOf N h b x0 x1 a) (fun r4 a5 => if r4 = 37 then (xb2 (f288_byteOf N h b x0 (x1 + 1) a5) (fun r10 a11 => if r10 = 33 ∨ r10 = 37 ∨ r10 = 38 ∨ r10 = 42 ∨ r10 = 43 ∨ r10 = 45 ∨ r10 = 47 ∨ r10 = 59 ∨ r10 = 60 ∨ r10 = 61 ∨ r10 = 62 ∨ r10 = 63 ∨ r10 = 65 ∨ r10 = 79 ∨ r10 = 94 ∨ r10 = 99 ∨ r10 = 100 ∨ r10 = 101 ∨ r10 = 105 ∨ r10 = 109 ∨ r10 = 116 ∨ r10 = 124 ∨ r10 = 126 then (some (2, a11)) else (if r10 = 39 then (xb2 (f288_byteOf N h b x0 (x1 + 2) a11) (fun r17 a18 => if r17 = (-1) then (some (0, a18)) else (xb2 (f288_byteOf N h b x0 (x1 + 3) a18) (fun r24 a25 => some ((if r24 = 39 then (4 : Int32) else (0 : Int32)), a25))))) else (if r10 = 48 then (xb2 (f288_byteOf N h b x0 (x1 + 2) a11) (fun r31 a32 => if r31 = 50 then (j287_619 N h b x0 x1 a32) else (if r31 = 51 then (j287_619 N h b x0 x1 a32) else (some (0, a32))))) else (if r10 = 50 ∨ r10 = 51 then (xb2 (f288_byteOf N h b x0 (x1 + 2) a11) (fun r48 a49 => some ((if r48 = 100 then (3 : Int32) else (0 : Int32)), a49))) else (if r10 = 112 then (xb2 (f288_byteOf N h b x0 (x1 + 2) a11) (fun r55 a56 => if r55 < 49 then (some (0, a56)) else (some ((if 52 < r55 then (0 : Int32) else (3 : Int32)), a56)))) else (if r10 = 123 then ((l287_479 N h b x0 x1 N 0 0 a11).bind (fun z80 => j287_531 N h b x0 x1 z80.2.1 z80.2.2.1 z80.2.2.2)) else (some (0, a11))))))))) else (some (1, a5)))

def j286_169 (N h b : Nat) (rc : Int32 → Int32 → Int32 → xA → Option (Nat × Int32 × xA)) (w1 : Int32) (q2 : Int32) (q3 : Int32) (q4 : Int32) (q5 : Int32) (a : xA) : Option (Nat × Int32 × xA) :=
  rc q2 q3 (q4 + q5) a

def l286_7 (N h b : Nat) (w1 : Int32) : Nat → Int32 → Int32 → Int32 → xA → Option (Nat × Int32 × xA)
  | 0, _, _, _, _ => none
  | n + 1, v2, v3, v4, a => xg (¬ (w1 < 0 ∨ 468 ≤ w1.toNatClampNeg)) (if (a 166 (w1.toNatClampNeg)) ≤ v4 then (some (5, v3, a)) else (xb2 (f287_item N h b w1 v4 a) (fun r6 a7 => if r6 = 0 then (some (0, v3, a7)) else (xb2 (f288_byteOf N h b w1 v4 a7) (fun r12 a13 => if r12 = 37 then (xb2 (f288_byteOf N h b w1 (v4 + 1) a13) (fun r18 a19 => if r18 = 63 then (if v3 = 4 then (some (1, v3, a19)) else (j286_169 N h b (l286_7 N h b w1 n) w1 ((v2 <<< ((2 : Int32) &&& 31)) ||| 1) (v3 + 1) v4 r6 a19)) else (if r18 = 116 then (if v3 = 0 then (some (2, v3, a19)) else (if (v2 &&& 3) = 2 then (some (2, v3, a19)) else (j286_169 N h b (l286_7 N h b w1 n) w1 ((v2 &&& (-4)) ||| 2) v3 v4 r6 a19))) else (if r18 = 101 then (if v3 = 0 then (some (3, v3, a19)) else (if (v2 &&& 3) = 2 then (j286_169 N h b (l286_7 N h b w1 n) w1 (v2 ||| 3) v3 v4 r6 a19) else (some (3, v3, a19)))) else (if r18 = 59 then (if v3 = 0 then (some (4, v3, a19)) else (if (v2 &&& 3) = 1 then (some (4, v3, a19)) else (j286_169 N h b (l286_7 N h b w1 n) w1 (v2 >>> ((2 : Int32) &&& 31)) (v3 + (-1)) v4 r6 a19))) else (j286_169 N h b (l286_7 N h b w1 n) w1 v2 v3 v4 r6 a19)))))) else (j286_169 N h b (l286_7 N h b w1 n) w1 v2 v3 v4 r6 a13))))))

/-- TerminalHouseModel.isWell(I)Z -/
def f286_isWell (N h b : Nat) (x0 : Int32) (a : xA) : Option (Int32 × xA) :=
  (l286_7 N h b x0 N 0 0 0 a).bind (fun z41 => if z41.1 = 0 then (some (0, z41.2.2)) else (if z41.1 = 1 then (some (0, z41.2.2)) else (if z41.1 = 2 then (some (0, z41.2.2)) else (if z41.1 = 3 then (some (0, z41.2.2)) else (if z41.1 = 4 then (some (0, z41.2.2)) else (xg ((if z41.2.1 = 0 then (1 : Int32) else (0 : Int32)) = 0 ∨ (if z41.2.1 = 0 then (1 : Int32) else (0 : Int32)) = 1) (some ((if z41.2.1 = 0 then (1 : Int32) else (0 : Int32)), z41.2.2))))))))

def j283_242 (N h b : Nat) (rc : Int32 → xA → Option (Nat × Int32 × xA)) (w1 : Int32) (w2 : Int32) (q3 : Int32) (a : xA) : Option (Nat × Int32 × xA) :=
  rc (q3 + 1) a

def j283_202 (N h b : Nat) (rc : Int32 → xA → Option (Nat × Int32 × xA)) (w1 : Int32) (w2 : Int32) (q3 : Int32) (q5 : Int32) (q6 : Int32) (a : xA) : Option (Nat × Int32 × xA) :=
  xw (xU a 157 15 ((a 157 15) + q6)) (fun a34 => if q5 = (-1) then (rc q3 a34) else (if 40 ≤ q3 then (j283_242 N h b (rc) w1 w2 q3 a34) else (xg (¬ ((40 * w1) + q3 < 0 ∨ 18720 ≤ ((40 * w1) + q3).toNatClampNeg)) (xw (xU a34 165 (((40 * w1) + q3).toNatClampNeg) (vp_nar .byte q5.toInt8.toInt32)) (fun a40 => j283_242 N h b (rc) w1 w2 q3 a40)))))

def j283_90 (N h b : Nat) (rc : Int32 → xA → Option (Nat × Int32 × xA)) (w1 : Int32) (w2 : Int32) (q3 : Int32) (q4 : Int32) (a : xA) : Option (Nat × Int32 × xA) :=
  xb2 (f284_escape N h b q4 a) (fun r31 a32 => if r31 = 0 then (some (2, q3, a32)) else (j283_202 N h b (rc) w1 w2 q3 (a32 157 20) r31 a32))

def l283_124 (N h b : Nat) (w1 : Int32) (w2 : Int32) (w3 : Int32) (w5 : Int32) (w6 : Int32) : Nat → Int32 → xA → Option (Nat × Int32 × xA)
  | 0, _, _ => none
  | n + 1, v7, a => if 3 ≤ v7 then (some (0, v7, a)) else (xb2 (f266_here N h b (((a 157 15) + 2) + v7) a) (fun r51 a52 => xb2 (f274_isDigit N h b r51 a52) (fun r56 a57 => if r56 = 0 then (some (0, v7, a57)) else (l283_124 N h b w1 w2 w3 w5 w6 n (v7 + 1) a57))))

def j283_155 (N h b : Nat) (rc : Int32 → xA → Option (Nat × Int32 × xA)) (w1 : Int32) (w2 : Int32) (q3 : Int32) (q5 : Int32) (q6 : Int32) (q7 : Int32) (a : xA) : Option (Nat × Int32 × xA) :=
  xb2 (f266_here N h b ((a 157 15) + 1) a) (fun r64 a65 => if r64 = 60 then (if q7 ≤ 0 then (j283_202 N h b (rc) w1 w2 q3 q5 q6 a65) else (xb2 (f266_here N h b (((a65 157 15) + 2) + q7) a65) (fun r74 a75 => if r74 = 62 then (j283_202 N h b (rc) w1 w2 q3 (-1) (q7 + 3) a75) else (j283_202 N h b (rc) w1 w2 q3 q5 q6 a75)))) else (j283_202 N h b (rc) w1 w2 q3 q5 q6 a65))

def l283_7 (N h b : Nat) (w1 : Int32) (w2 : Int32) : Nat → Int32 → xA → Option (Nat × Int32 × xA)
  | 0, _, _ => none
  | n + 1, v3, a => xb2 (f266_here N h b (a 157 15) a) (fun r4 a5 => if r4 = 44 then (some (3, v3, a5)) else (xb2 (f269_ends N h b (a5 157 15) a5) (fun r10 a11 => if r10 = 0 then (xb2 (f266_here N h b (a11 157 15) a11) (fun r16 a17 => xb2 (f276_isText N h b r16 a17) (fun r21 a22 => if r21 = 0 then (some (1, v3, a22)) else (if r16 = 92 then (j283_90 N h b (l283_7 N h b w1 w2 n) w1 w2 v3 r16 a22) else (if r16 = 94 then (j283_90 N h b (l283_7 N h b w1 w2 n) w1 w2 v3 r16 a22) else (if r16 = 36 then ((l283_124 N h b w1 w2 v3 r16 1 N 0 a22).bind (fun z59 => j283_155 N h b (l283_7 N h b w1 w2 n) w1 w2 v3 r16 1 z59.2.1 z59.2.2)) else (j283_202 N h b (l283_7 N h b w1 w2 n) w1 w2 v3 r16 1 a22))))))) else (some (0, v3, a11)))))

def j283_286 (N h b : Nat) (a : xA) : Option (Int32 × xA) :=
  some (1, a)

/-- TerminalHouseModel.made(I)Z -/
def f283_made (N h b : Nat) (x0 : Int32) (a : xA) : Option (Int32 × xA) :=
  (l283_7 N h b x0 (a 157 15) N 0 a).bind (fun z78 => if z78.1 = 0 then (xb2 (f270_fails N h b 1 (z78.2.2 157 15) z78.2.2) (fun r83 a84 => xg (r83 = 0 ∨ r83 = 1) (some (r83, a84)))) else (if z78.1 = 1 then (xb2 (f270_fails N h b 1 (z78.2.2 157 15) z78.2.2) (fun r89 a90 => xg (r89 = 0 ∨ r89 = 1) (some (r89, a90)))) else (if z78.1 = 2 then (some (0, z78.2.2)) else (if z78.2.1 ≤ 40 then (xg (¬ (x0 < 0 ∨ 468 ≤ x0.toNatClampNeg)) (xw (xU z78.2.2 166 (x0.toNatClampNeg) z78.2.1) (fun a93 => xb2 (f286_isWell N h b x0 a93) (fun r100 a101 => if r100 = 0 then (xb2 (f270_fails N h b 8 (a 157 15) a101) (fun r107 a108 => xg ((if r107 = 0 then (0 : Int32) else (1 : Int32)) = 0 ∨ (if r107 = 0 then (0 : Int32) else (1 : Int32)) = 1) (some ((if r107 = 0 then (0 : Int32) else (1 : Int32)), a108)))) else (j283_286 N h b a101))))) else (xb2 (f270_fails N h b 2 (a 157 15) z78.2.2) (fun r114 a115 => xg (r114 = 0 ∨ r114 = 1) (some (r114, a115))))))))

def j272_57 (N h b : Nat) (rc : xA → Option (Nat × xA)) (w1 : Int32) (a : xA) : Option (Nat × xA) :=
  xw (xU a 157 15 ((a 157 15) + 1)) (fun a41 => rc a41)

def l272_29 (N h b : Nat) (w1 : Int32) : Nat → xA → Option (Nat × xA)
  | 0, _ => none
  | n + 1, a => xb2 (f266_here N h b (a 157 15) a) (fun r21 a22 => xb2 (f273_isLetter N h b r21 a22) (fun r26 a27 => if r26 = 0 then (xb2 (f266_here N h b (a27 157 15) a27) (fun r33 a34 => xb2 (f274_isDigit N h b r33 a34) (fun r38 a39 => if r38 = 0 then (some (0, a39)) else (j272_57 N h b (l272_29 N h b w1 n) w1 a39)))) else (j272_57 N h b (l272_29 N h b w1 n) w1 a27)))

def j272_364 (N h b : Nat) (q4 : Int32) (q6 : Int32) (a : xA) : Option (Int32 × xA) :=
  if q6 = 35 then (xb2 (f282_digits N h b q4 a) (fun r120 a121 => xg (r120 = 0 ∨ r120 = 1) (some (r120, a121)))) else (if q6 = 61 then (xb2 (f283_made N h b q4 a) (fun r128 a129 => xg (r128 = 0 ∨ r128 = 1) (some (r128, a129)))) else (some (1, a)))

def j272_166 (N h b : Nat) (q1 : Int32) (q2 : Int32) (a : xA) : Option (Int32 × xA) :=
  xb2 (f281_abilityOf N h b q1 q2 a) (fun r79 a80 => if r79 = (-1) then (xb2 (f270_fails N h b 4 q1 a80) (fun r85 a86 => xg (r85 = 0 ∨ r85 = 1) (some (r85, a86)))) else (xg (¬ ((39 * (a80 157 17)) + r79 < 0 ∨ 468 ≤ ((39 * (a80 157 17)) + r79).toNatClampNeg)) (if (a80 163 (((39 * (a80 157 17)) + r79).toNatClampNeg)) = 0 then (xb2 (f266_here N h b (a80 157 15) a80) (fun r95 a96 => if (if r95 = 44 then (0 : Int32) else (if r95 = 35 then (1 : Int32) else (if r95 = 61 then (2 : Int32) else (if r95 = 64 then ((if 3 ≤ r79 then (if 6 ≤ r79 then (2 : Int32) else (1 : Int32)) else (0 : Int32))) else (-1 : Int32))))) = (-1) then (xb2 (f270_fails N h b 1 (a96 157 15) a96) (fun r105 a106 => xg (r105 = 0 ∨ r105 = 1) (some (r105, a106)))) else (if (if r95 = 44 then (0 : Int32) else (if r95 = 35 then (1 : Int32) else (if r95 = 61 then (2 : Int32) else (if r95 = 64 then ((if 3 ≤ r79 then (if 6 ≤ r79 then (2 : Int32) else (1 : Int32)) else (0 : Int32))) else (-1 : Int32))))) = (if 3 ≤ r79 then (if 6 ≤ r79 then (2 : Int32) else (1 : Int32)) else (0 : Int32)) then (xw (xU a96 163 (((39 * (a80 157 17)) + r79).toNatClampNeg) (vp_nar .byte ((if r95 = 64 then (2 : Int32) else (1 : Int32)).toInt8.toInt32))) (fun a110 => if r95 = 44 then (j272_364 N h b ((39 * (a80 157 17)) + r79) r95 a110) else (xw (xU a110 157 15 ((a110 157 15) + 1)) (fun a131 => j272_364 N h b ((39 * (a80 157 17)) + r79) r95 a131)))) else (xb2 (f270_fails N h b 5 (a96 157 15) a96) (fun r137 a138 => xg (r137 = 0 ∨ r137 = 1) (some (r137, a138))))))) else (xb2 (f270_fails N h b 6 q1 a80) (fun r143 a144 => xg (r143 = 0 ∨ r143 = 1) (some (r143, a144)))))))

/-- TerminalHouseModel.field()Z -/
def f272_field (N h b : Nat) (a : xA) : Option (Int32 × xA) :=
  xb2 (f266_here N h b (a 157 15) a) (fun r4 a5 => xb2 (f273_isLetter N h b r4 a5) (fun r9 a10 => if r9 = 0 then (xb2 (f270_fails N h b 1 (a10 157 15) a10) (fun r15 a16 => xg (r15 = 0 ∨ r15 = 1) (some (r15, a16)))) else ((l272_29 N h b (a 157 15) N a10).bind (fun z44 => xb2 (f275_isNone N h b z44.2) (fun r49 a50 => if r49 = 0 then (if ((z44.2 157 15) - (a 157 15)) ≤ 5 then (if ((z44.2 157 15) - (a 157 15)) = 3 then (xg (¬ (a 157 15 < 0 ∨ 3000 ≤ (a 157 15).toNatClampNeg)) (if (a50 158 ((a 157 15).toNatClampNeg)) = 117 then (xg (¬ ((a 157 15) + 1 < 0 ∨ 3000 ≤ ((a 157 15) + 1).toNatClampNeg)) (if (a50 158 (((a 157 15) + 1).toNatClampNeg)) = 115 then (xg (¬ ((a 157 15) + 2 < 0 ∨ 3000 ≤ ((a 157 15) + 2).toNatClampNeg)) (if (a50 158 (((a 157 15) + 2).toNatClampNeg)) = 101 then (xb2 (f266_here N h b (a50 157 15) a50) (fun r67 a68 => if r67 = 61 then (xb2 (f277_useOf N h b a68) (fun r73 a74 => xg (r73 = 0 ∨ r73 = 1) (some (r73, a74)))) else (j272_166 N h b (a 157 15) ((z44.2 157 15) - (a 157 15)) a68))) else (j272_166 N h b (a 157 15) ((z44.2 157 15) - (a 157 15)) a50))) else (j272_166 N h b (a 157 15) ((z44.2 157 15) - (a 157 15)) a50))) else (j272_166 N h b (a 157 15) ((z44.2 157 15) - (a 157 15)) a50))) else (j272_166 N h b (a 157 15) ((z44.2 157 15) - (a 157 15)) a50)) else (xb2 (f270_fails N h b 2 (a 157 15) a50) (fun r149 a150 => xg (r149 = 0 ∨ r149 = 1) (some (r149, a150))))) else (xb2 (f270_fails N h b 1 (a50 157 15) a50) (fun r155 a156 => xg (r155 = 0 ∨ r155 = 1) (some (r155, a156)))))))))

def j271_49 (N h b : Nat) (rc : Int32 → xA → Option (Nat × Int32 × xA)) (q1 : Int32) (a : xA) : Option (Nat × Int32 × xA) :=
  xw (xU a 157 15 ((a 157 15) + 1)) (fun a15 => if q1 = 0 then (rc q1 a15) else (xb1 (f268_blanks N h b a15) (fun a22 => rc q1 a22)))

def l271_2 (N h b : Nat) : Nat → Int32 → xA → Option (Nat × Int32 × xA)
  | 0, _, _ => none
  | n + 1, v1, a => if v1 = 0 then (some (0, v1, a)) else (xb2 (f269_ends N h b (a 157 15) a) (fun r5 a6 => if r5 = 0 then (xb2 (f272_field N h b a6) (fun r11 a12 => if r11 = 0 then (j271_49 N h b (l271_2 N h b n) r11 a12) else (xb2 (f266_here N h b (a12 157 15) a12) (fun r26 a27 => if r26 = 44 then (j271_49 N h b (l271_2 N h b n) r11 a27) else (xb2 (f270_fails N h b 1 (a27 157 15) a27) (fun r33 a34 => j271_49 N h b (l271_2 N h b n) r33 a34)))))) else (some (0, v1, a6))))

def j271_70 (N h b : Nat) (q1 : Int32) (a : xA) : Option (Int32 × xA) :=
  xw (xU a 157 15 ((a 157 15) + 1)) (fun a37 => xg (q1 = 0 ∨ q1 = 1) (some (q1, a37)))

/-- TerminalHouseModel.fields()Z -/
def f271_fields (N h b : Nat) (a : xA) : Option (Int32 × xA) :=
  (l271_2 N h b N 1 a).bind (fun z35 => j271_70 N h b z35.2.1 z35.2.2)

def l289_100 (N h b : Nat) (w1 : Int32) (w2 : Int32) (w3 : Int32) (w4 : Int32) : Nat → Int32 → xA → Option (Nat × xA)
  | 0, _, _ => none
  | n + 1, v5, a => xg (¬ (w4 < 0 ∨ 468 ≤ w4.toNatClampNeg)) (if (a 166 (w4.toNatClampNeg)) ≤ v5 then (some (0, a)) else (xg (¬ ((40 * w4) + v5 < 0 ∨ 18720 ≤ ((40 * w4) + v5).toNatClampNeg)) (xg (¬ ((40 * w3) + v5 < 0 ∨ 18720 ≤ ((40 * w3) + v5).toNatClampNeg)) (xw (xU a 165 (((40 * w3) + v5).toNatClampNeg) (vp_nar .byte (a 165 (((40 * w4) + v5).toNatClampNeg)))) (fun a20 => l289_100 N h b w1 w2 w3 w4 n (v5 + 1) a20)))))

def j289_143 (N h b : Nat) (rc : Int32 → xA → Option (Nat × xA)) (w1 : Int32) (q2 : Int32) (a : xA) : Option (Nat × xA) :=
  rc (q2 + 1) a

def l289_12 (N h b : Nat) (w1 : Int32) : Nat → Int32 → xA → Option (Nat × xA)
  | 0, _, _ => none
  | n + 1, v2, a => if 39 ≤ v2 then (some (0, a)) else (xg (¬ (w1 < 0 ∨ 4 ≤ w1.toNatClampNeg)) (xg (¬ ((39 * (a 157 17)) + v2 < 0 ∨ 468 ≤ ((39 * (a 157 17)) + v2).toNatClampNeg)) (if (a 163 (((39 * (a 157 17)) + v2).toNatClampNeg)) = 0 then (xg (¬ ((39 * (a 167 (w1.toNatClampNeg))) + v2 < 0 ∨ 468 ≤ ((39 * (a 167 (w1.toNatClampNeg))) + v2).toNatClampNeg)) (if (a 163 (((39 * (a 167 (w1.toNatClampNeg))) + v2).toNatClampNeg)) = 1 then (xw (xU a 163 (((39 * (a 157 17)) + v2).toNatClampNeg) (vp_nar .byte 1)) (fun a8 => xw (xU a8 164 (((39 * (a 157 17)) + v2).toNatClampNeg) (a8 164 (((39 * (a 167 (w1.toNatClampNeg))) + v2).toNatClampNeg))) (fun a11 => xw (xU a11 166 (((39 * (a 157 17)) + v2).toNatClampNeg) (a11 166 (((39 * (a 167 (w1.toNatClampNeg))) + v2).toNatClampNeg))) (fun a14 => (l289_100 N h b w1 v2 ((39 * (a 157 17)) + v2) ((39 * (a 167 (w1.toNatClampNeg))) + v2) N 0 a14).bind (fun z24 => j289_143 N h b (l289_12 N h b w1 n) w1 v2 z24.2))))) else (j289_143 N h b (l289_12 N h b w1 n) w1 v2 a))) else (j289_143 N h b (l289_12 N h b w1 n) w1 v2 a))))

def l289_2 (N h b : Nat) : Nat → Int32 → xA → Option (Nat × xA)
  | 0, _, _ => none
  | n + 1, v1, a => if (a 157 19) ≤ v1 then (some (0, a)) else ((l289_12 N h b v1 N 0 a).bind (fun z26 => l289_2 N h b n (v1 + 1) z26.2))

/-- TerminalHouseModel.used()V -/
def f289_used (N h b : Nat) (a : xA) : Option (xA) :=
  (l289_2 N h b N 0 a).bind (fun z28 => xw (xU z28.2 157 19 0) (fun a30 => some a30))

/-- TerminalHouseModel.over()Z -/
def f291_over (N h b : Nat) (a : xA) : Option (Int32 × xA) :=
  xb1 (f268_blanks N h b a) (fun a4 => xb2 (f269_ends N h b (a4 157 15) a4) (fun r8 a9 => if r8 = 0 then (xb2 (f270_fails N h b 1 (a9 157 15) a9) (fun r14 a15 => xg (r14 = 0 ∨ r14 = 1) (some (r14, a15)))) else (xw (xU a9 157 15 ((a9 157 15) + 1)) (fun a17 => some (1, a17)))))

def l290_71 (N h b : Nat) : Nat → Int32 → xA → Option (Nat × xA)
  | 0, _, _ => none
  | n + 1, v1, a => if 39 ≤ v1 then (some (0, a)) else (xg (¬ ((39 * (a 157 17)) + v1 < 0 ∨ 468 ≤ ((39 * (a 157 17)) + v1).toNatClampNeg)) (xw (xU a 163 (((39 * (a 157 17)) + v1).toNatClampNeg) (vp_nar .byte 0)) (fun a36 => l290_71 N h b n (v1 + 1) a36)))

def l290_109 (N h b : Nat) (w2 : Int32) : Nat → xA → Option (Nat × xA)
  | 0, _ => none
  | n + 1, a => xb2 (f266_here N h b (a 157 15) a) (fun r46 a47 => xb2 (f278_isOfName N h b r46 a47) (fun r51 a52 => if r51 = 0 then (some (0, a52)) else (xw (xU a52 157 15 ((a52 157 15) + 1)) (fun a54 => l290_109 N h b w2 n a54))))

def l290_264 (N h b : Nat) (w2 : Int32) (w3 : Int32) : Nat → Int32 → xA → Option (Nat × xA)
  | 0, _, _ => none
  | n + 1, v4, a => xg (¬ (w3 < 0 ∨ 48 ≤ w3.toNatClampNeg)) (if (a 162 (w3.toNatClampNeg)) ≤ v4 then (some (0, a)) else (xg (¬ (w2 + v4 < 0 ∨ 3000 ≤ (w2 + v4).toNatClampNeg)) (xg (¬ ((12 * w3) + v4 < 0 ∨ 576 ≤ ((12 * w3) + v4).toNatClampNeg)) (xw (xU a 161 (((12 * w3) + v4).toNatClampNeg) (vp_nar .byte (a 158 ((w2 + v4).toNatClampNeg)))) (fun a83 => l290_264 N h b w2 w3 n (v4 + 1) a83)))))

def j290_361 (N h b : Nat) (rc : Int32 → xA → Option (Nat × Int32 × xA)) (q1 : Int32) (a : xA) : Option (Nat × Int32 × xA) :=
  xw (xU a 157 15 ((a 157 15) + 1)) (fun a107 => rc q1 a107)

def l290_100 (N h b : Nat) : Nat → Int32 → xA → Option (Nat × Int32 × xA)
  | 0, _, _ => none
  | n + 1, v1, a => if v1 = 0 then (some (5, 0, a)) else ((l290_109 N h b (a 157 15) N a).bind (fun z57 => if (z57.2 157 15) = (a 157 15) then (some (0, (a 157 15), z57.2)) else (xb2 (f275_isNone N h b z57.2) (fun r64 a65 => if r64 = 0 then (if ((a65 157 15) - (a 157 15)) ≤ 12 then (xb2 (f279_entryOf N h b 158 (a 157 15) ((a65 157 15) - (a 157 15)) ((a65 157 17) + 1) a65) (fun r71 a72 => if r71 = (-1) then (xg (¬ (a72 157 17 < 0 ∨ 12 ≤ (a72 157 17).toNatClampNeg)) (if (a72 160 ((a72 157 17).toNatClampNeg)) = 4 then (some (3, (a 157 15), a72)) else (xg (¬ ((4 * (a72 157 17)) + (a72 160 ((a72 157 17).toNatClampNeg)) < 0 ∨ 48 ≤ ((4 * (a72 157 17)) + (a72 160 ((a72 157 17).toNatClampNeg))).toNatClampNeg)) (xw (xU a72 162 (((4 * (a72 157 17)) + (a72 160 ((a72 157 17).toNatClampNeg))).toNatClampNeg) ((a72 157 15) - (a 157 15))) (fun a76 => (l290_264 N h b (a 157 15) ((4 * (a72 157 17)) + (a72 160 ((a72 157 17).toNatClampNeg))) N 0 a76).bind (fun z87 => xg (¬ (z87.2 157 17 < 0 ∨ 12 ≤ (z87.2 157 17).toNatClampNeg)) (xw (xU z87.2 160 ((z87.2 157 17).toNatClampNeg) ((z87.2 160 ((z87.2 157 17).toNatClampNeg)) + 1)) (fun a90 => xb2 (f266_here N h b (a90 157 15) a90) (fun r96 a97 => if (if r96 = 124 then (1 : Int32) else (0 : Int32)) = 0 then (xb2 (f266_here N h b (a97 157 15) a97) (fun r104 a105 => if r104 = 44 then (j290_361 N h b (l290_100 N h b n) (if r96 = 124 then (1 : Int32) else (0 : Int32)) a105) else (some (4, 0, a105)))) else (j290_361 N h b (l290_100 N h b n) (if r96 = 124 then (1 : Int32) else (0 : Int32)) a97)))))))))) else (some (2, (a 157 15), a72)))) else (some (1, (a 157 15), a65))) else (some (0, (a 157 15), a65))))))

def j290_151 (N h b : Nat) (a : xA) : Option (Int32 × xA) :=
  xb2 (f270_fails N h b 1 (a 157 15) a) (fun r115 a116 => xg (r115 = 0 ∨ r115 = 1) (some (r115, a116)))

/-- TerminalHouseModel.beginning()Z -/
def f290_beginning (N h b : Nat) (a : xA) : Option (Int32 × xA) :=
  xb2 (f266_here N h b (a 157 15) a) (fun r4 a5 => xb2 (f278_isOfName N h b r4 a5) (fun r9 a10 => if r9 = 0 then (xb2 (f270_fails N h b 1 (a10 157 15) a10) (fun r15 a16 => xg (r15 = 0 ∨ r15 = 1) (some (r15, a16)))) else (if (a10 157 17) = 11 then (xb2 (f270_fails N h b 7 (a10 157 15) a10) (fun r22 a23 => xg (r22 = 0 ∨ r22 = 1) (some (r22, a23)))) else (xw (xU a10 157 17 ((a10 157 17) + 1)) (fun a25 => xg (¬ (a25 157 17 < 0 ∨ 12 ≤ (a25 157 17).toNatClampNeg)) (xw (xU a25 160 ((a25 157 17).toNatClampNeg) 0) (fun a28 => xw (xU a28 157 19 0) (fun a32 => (l290_71 N h b N 0 a32).bind (fun z40 => (l290_100 N h b N 1 z40.2).bind (fun z110 => if z110.1 = 0 then (j290_151 N h b z110.2.2) else (if z110.1 = 1 then (xb2 (f270_fails N h b 2 z110.2.1 z110.2.2) (fun r121 a122 => xg (r121 = 0 ∨ r121 = 1) (some (r121, a122)))) else (if z110.1 = 2 then (xb2 (f270_fails N h b 3 z110.2.1 z110.2.2) (fun r127 a128 => xg (r127 = 0 ∨ r127 = 1) (some (r127, a128)))) else (if z110.1 = 3 then (xb2 (f270_fails N h b 11 z110.2.1 z110.2.2) (fun r133 a134 => xg (r133 = 0 ∨ r133 = 1) (some (r133, a134)))) else (if z110.1 = 4 then (xb2 (f270_fails N h b 1 (z110.2.2 157 15) z110.2.2) (fun r139 a140 => xg (r139 = 0 ∨ r139 = 1) (some (r139, a140)))) else (xb2 (f291_over N h b z110.2.2) (fun r145 a146 => xg (r145 = 0 ∨ r145 = 1) (some (r145, a146))))))))))))))))))

def l265_74 (N h b : Nat) (w1 : Int32) : Nat → xA → Option (Nat × xA)
  | 0, _ => none
  | n + 1, a => xb2 (f269_ends N h b (a 157 15) a) (fun r17 a18 => if r17 = 0 then (xb2 (f266_here N h b (a18 157 15) a18) (fun r23 a24 => xb2 (f276_isText N h b r23 a24) (fun r28 a29 => if r28 = 0 then (some (0, a29)) else (xw (xU a29 157 15 ((a29 157 15) + 1)) (fun a31 => l265_74 N h b w1 n a31))))) else (some (1, a18)))

def j265_157 (N h b : Nat) (a : xA) : Option (Int32 × xA) :=
  xb2 (f290_beginning N h b a) (fun r53 a54 => xg (r53 = 0 ∨ r53 = 1) (some (r53, a54)))

def j265_122 (N h b : Nat) (q1 : Int32) (a : xA) : Option (Int32 × xA) :=
  xb2 (f269_ends N h b (a 157 15) a) (fun r45 a46 => if r45 = 0 then (if (a46 157 17) < q1 then (j265_157 N h b a46) else (xb1 (f289_used N h b a46) (fun a59 => j265_157 N h b a59))) else (xw (xU a46 157 15 ((a46 157 15) + 1)) (fun a60 => some (1, a60))))

/-- TerminalHouseModel.line(I)Z -/
def f265_line (N h b : Nat) (x0 : Int32) (a : xA) : Option (Int32 × xA) :=
  xb2 (f266_here N h b (a 157 15) a) (fun r4 a5 => xb2 (f267_isBlank N h b r4 a5) (fun r9 a10 => if r9 = 0 then (if r4 = 35 then ((l265_74 N h b x0 N a10).bind (fun z34 => if z34.1 = 0 then (xb2 (f270_fails N h b 1 (z34.2 157 15) z34.2) (fun r39 a40 => xg (r39 = 0 ∨ r39 = 1) (some (r39, a40)))) else (j265_122 N h b x0 z34.2))) else (j265_122 N h b x0 a10)) else (xb1 (f268_blanks N h b a10) (fun a66 => xb2 (f269_ends N h b (a66 157 15) a66) (fun r70 a71 => if r70 = 0 then (if x0 ≤ (a71 157 17) then (xb2 (f271_fields N h b a71) (fun r78 a79 => xg (r78 = 0 ∨ r78 = 1) (some (r78, a79)))) else (xb2 (f270_fails N h b 1 (a71 157 15) a71) (fun r84 a85 => xg (r84 = 0 ∨ r84 = 1) (some (r84, a85))))) else (xw (xU a71 157 15 ((a71 157 15) + 1)) (fun a87 => some (1, a87))))))))

def l264_50 (N h b : Nat) (w1 : Int32) : Nat → Int32 → xA → Option (Nat × Int32 × xA)
  | 0, _, _ => none
  | n + 1, v2, a => if v2 = 0 then (some (0, v2, a)) else (if (a 157 16) ≤ (a 157 15) then (some (0, v2, a)) else (xb2 (f265_line N h b w1 a) (fun r29 a30 => l264_50 N h b w1 n r29 a30)))

def j264_92 (N h b : Nat) (a : xA) : Option (Int32 × xA) :=
  xw (xU a 157 5 ((a 157 17) + 1)) (fun a36 => some (a36 157 5, a36))

def j264_74 (N h b : Nat) (q1 : Int32) (q2 : Int32) (a : xA) : Option (Int32 × xA) :=
  if q2 = 0 then (some ((-1), a)) else (if (a 157 17) < q1 then (j264_92 N h b a) else (xb1 (f289_used N h b a) (fun a42 => j264_92 N h b a42)))

/-- TerminalHouseModel.describe()I -/
def f264_describe (N h b : Nat) (a : xA) : Option (Int32 × xA) :=
  xw (xU a 157 0 0) (fun a1 => xw (xU a1 157 16 (a1 157 2)) (fun a4 => xw (xU a4 157 2 0) (fun a7 => xw (xU a7 157 15 0) (fun a10 => xw (xU a10 157 13 0) (fun a13 => xw (xU a13 157 14 (-1)) (fun a16 => xw (xU a16 157 17 ((a16 157 5) - 1)) (fun a19 => (l264_50 N h b (a19 157 5) N 1 a19).bind (fun z31 => j264_74 N h b (a19 157 5) z31.2.1 z31.2.2))))))))

/-- TerminalHouseModel.fault(I)I -/
def f292_fault (N h b : Nat) (x0 : Int32) (a : xA) : Option (Int32 × xA) :=
  xw (xU a 157 0 0) (fun a1 => some ((if x0 = 0 then (a1 157 13) else (if x0 = 1 then (a1 157 14) else (-1 : Int32))), a1))

def l293_189 (N h b : Nat) : Nat → Int32 → xA → Option (Nat × xA)
  | 0, _, _ => none
  | n + 1, v5, a => if 8 ≤ v5 then (some (0, a)) else (xg (¬ (v5 < 0 ∨ 8 ≤ v5.toNatClampNeg)) (xw (xU a 172 (v5.toNatClampNeg) 0) (fun a29 => l293_189 N h b n (v5 + 1) a29)))

def l293_213 (N h b : Nat) : Nat → Int32 → xA → Option (Nat × xA)
  | 0, _, _ => none
  | n + 1, v5, a => if 1920 ≤ v5 then (some (0, a)) else (xg (¬ (v5 < 0 ∨ 1920 ≤ v5.toNatClampNeg)) (xw (xU a 170 (v5.toNatClampNeg) 32) (fun a36 => xw (xU a36 171 (v5.toNatClampNeg) 32) (fun a40 => l293_213 N h b n (v5 + 1) a40))))

def j293_147 (N h b : Nat) (q2 : Int32) (q3 : Int32) (t0 : Int32) (a : xA) : Option (Int32 × xA) :=
  if t0 = 0 then (some ((-2), a)) else (xw (xU a 157 21 q2) (fun a17 => xg (¬ (q3 + 3 < 0 ∨ 468 ≤ (q3 + 3).toNatClampNeg)) (xw (xU a17 157 26 (a17 164 ((q3 + 3).toNatClampNeg))) (fun a21 => xg (¬ (q3 + 4 < 0 ∨ 468 ≤ (q3 + 4).toNatClampNeg)) (xw (xU a21 157 27 (a21 164 ((q3 + 4).toNatClampNeg))) (fun a25 => (l293_189 N h b N 0 a25).bind (fun z33 => (l293_213 N h b N 0 z33.2).bind (fun z43 => xw (xU z43.2 157 30 0) (fun a45 => xw (xU a45 157 31 0) (fun a48 => xw (xU a48 157 32 (-1)) (fun a51 => xw (xU a51 157 33 (-1)) (fun a54 => xw (xU a54 157 34 0) (fun a57 => xw (xU a57 157 35 1) (fun a60 => xw (xU a60 157 36 0) (fun a63 => some (0, a63))))))))))))))))

def j293_146 (N h b : Nat) (q2 : Int32) (q3 : Int32) (a : xA) : Option (Int32 × xA) :=
  j293_147 N h b q2 q3 0 a

/-- TerminalHouseModel.use()I -/
def f293_use (N h b : Nat) (a : xA) : Option (Int32 × xA) :=
  xw (xU a 157 0 0) (fun a1 => xw (xU a1 157 2 0) (fun a4 => xb2 (f279_entryOf N h b 158 0 (a1 157 2) (a4 157 5) a4) (fun r10 a11 => if r10 = (-1) then (some ((-1), a11)) else (xg (¬ ((39 * r10) + 3 < 0 ∨ 468 ≤ ((39 * r10) + 3).toNatClampNeg)) (if (a11 163 (((39 * r10) + 3).toNatClampNeg)) = 1 then (if (a11 164 (((39 * r10) + 3).toNatClampNeg)) < 4 then (j293_146 N h b r10 (39 * r10) a11) else (if 80 < (a11 164 (((39 * r10) + 3).toNatClampNeg)) then (j293_146 N h b r10 (39 * r10) a11) else (xg (¬ ((39 * r10) + 4 < 0 ∨ 468 ≤ ((39 * r10) + 4).toNatClampNeg)) (if (a11 163 (((39 * r10) + 4).toNatClampNeg)) = 1 then (if (a11 164 (((39 * r10) + 4).toNatClampNeg)) < 2 then (j293_146 N h b r10 (39 * r10) a11) else (if 24 < (a11 164 (((39 * r10) + 4).toNatClampNeg)) then (j293_146 N h b r10 (39 * r10) a11) else (xg (¬ ((39 * r10) + 7 < 0 ∨ 468 ≤ ((39 * r10) + 7).toNatClampNeg)) (if (a11 163 (((39 * r10) + 7).toNatClampNeg)) = 1 then (xg (¬ ((39 * r10) + 9 < 0 ∨ 468 ≤ ((39 * r10) + 9).toNatClampNeg)) (if (if (a11 163 (((39 * r10) + 9).toNatClampNeg)) = 1 then (1 : Int32) else (0 : Int32)) = 0 then (some ((-2), a11)) else (xw (xU a11 157 21 r10) (fun a80 => xw (xU a80 157 26 (a80 164 (((39 * r10) + 3).toNatClampNeg))) (fun a83 => xw (xU a83 157 27 (a83 164 (((39 * r10) + 4).toNatClampNeg))) (fun a86 => (l293_189 N h b N 0 a86).bind (fun z89 => (l293_213 N h b N 0 z89.2).bind (fun z91 => xw (xU z91.2 157 30 0) (fun a93 => xw (xU a93 157 31 0) (fun a96 => xw (xU a96 157 32 (-1)) (fun a99 => xw (xU a99 157 33 (-1)) (fun a102 => xw (xU a102 157 34 0) (fun a105 => xw (xU a105 157 35 1) (fun a108 => xw (xU a108 157 36 0) (fun a111 => some (0, a111)))))))))))))))) else (j293_146 N h b r10 (39 * r10) a11))))) else (j293_146 N h b r10 (39 * r10) a11))))) else (j293_146 N h b r10 (39 * r10) a11))))))

def l294_37 (N h b : Nat) : Nat → Int32 → xA → Option (Nat × xA)
  | 0, _, _ => none
  | n + 1, v1, a => if 8 ≤ v1 then (some (0, a)) else (xg (¬ (v1 < 0 ∨ 8 ≤ v1.toNatClampNeg)) (xw (xU a 172 (v1.toNatClampNeg) 0) (fun a23 => l294_37 N h b n (v1 + 1) a23)))

/-- TerminalHouseModel.empty()V -/
def f294_empty (N h b : Nat) (a : xA) : Option (xA) :=
  xw (xU a 157 0 0) (fun a1 => xw (xU a1 157 5 0) (fun a4 => xw (xU a4 157 21 (-1)) (fun a7 => xw (xU a7 157 36 0) (fun a10 => xw (xU a10 157 32 (-1)) (fun a13 => xw (xU a13 157 33 (-1)) (fun a16 => xw (xU a16 157 34 0) (fun a19 => (l294_37 N h b N 0 a19).bind (fun z27 => some z27.2))))))))

def j296_38 (N h b : Nat) (a : xA) : Option (Int32 × xA) :=
  some ((-1), a)

def j296_28 (N h b : Nat) (q1 : Int32) (t0 : Int32) (a : xA) : Option (Int32 × xA) :=
  if t0 = (-1) then (j296_38 N h b a) else (some ((if q1 = 0 then (-1 : Int32) else (t0)), a))

/-- TerminalHouseModel.asked()I -/
def f296_asked (N h b : Nat) (a : xA) : Option (Int32 × xA) :=
  xw (xU a 157 2 0) (fun a1 => if (a1 157 21) = (-1) then (j296_28 N h b (a 157 2) (-1) a1) else (xb2 (f281_abilityOf N h b 0 (a 157 2) a1) (fun r13 a14 => j296_28 N h b (a 157 2) r13 a14)))

/-- TerminalHouseModel.has(I)Z -/
def f297_has (N h b : Nat) (x0 : Int32) (a : xA) : Option (Int32 × xA) :=
  if (a 157 21) = (-1) then (some (0, a)) else (xg (¬ ((39 * (a 157 21)) + x0 < 0 ∨ 468 ≤ ((39 * (a 157 21)) + x0).toNatClampNeg)) (xg ((if (a 163 (((39 * (a 157 21)) + x0).toNatClampNeg)) = 1 then (1 : Int32) else (0 : Int32)) = 0 ∨ (if (a 163 (((39 * (a 157 21)) + x0).toNatClampNeg)) = 1 then (1 : Int32) else (0 : Int32)) = 1) (some ((if (a 163 (((39 * (a 157 21)) + x0).toNatClampNeg)) = 1 then (1 : Int32) else (0 : Int32)), a))))

def l295_81 (N h b : Nat) (w2 : Int32) : Nat → Int32 → xA → Option (Nat × xA)
  | 0, _, _ => none
  | n + 1, v3, a => if (a 157 4) ≤ v3 then (some (0, a)) else (xg (¬ ((40 * w2) + v3 < 0 ∨ 18720 ≤ ((40 * w2) + v3).toNatClampNeg)) (xg (¬ (v3 < 0 ∨ 300 ≤ v3.toNatClampNeg)) (xw (xU a 159 (v3.toNatClampNeg) (vp_nar .byte (a 165 (((40 * w2) + v3).toNatClampNeg)))) (fun a24 => l295_81 N h b w2 n (v3 + 1) a24))))

/-- TerminalHouseModel.ability()I -/
def f295_ability (N h b : Nat) (a : xA) : Option (Int32 × xA) :=
  xw (xU a 157 0 0) (fun a1 => xb2 (f296_asked N h b a1) (fun r7 a8 => if r7 = (-1) then (some ((-1), a8)) else (if 3 ≤ r7 then (xb2 (f297_has N h b r7 a8) (fun r14 a15 => if r14 = 0 then (some ((-1), a15)) else (if 6 ≤ r7 then (xg (¬ ((39 * (a15 157 21)) + r7 < 0 ∨ 468 ≤ ((39 * (a15 157 21)) + r7).toNatClampNeg)) (xw (xU a15 157 4 (a15 166 (((39 * (a15 157 21)) + r7).toNatClampNeg))) (fun a19 => (l295_81 N h b ((39 * (a15 157 21)) + r7) N 0 a19).bind (fun z28 => some (z28.2 157 4, z28.2))))) else (xg (¬ ((39 * (a15 157 21)) + r7 < 0 ∨ 468 ≤ ((39 * (a15 157 21)) + r7).toNatClampNeg)) (some (a15 164 (((39 * (a15 157 21)) + r7).toNatClampNeg), a15)))))) else (xb2 (f297_has N h b r7 a8) (fun r34 a35 => some ((if r34 = 0 then (0 : Int32) else (1 : Int32)), a35))))))

/-- TerminalHouseModel.says(I)V -/
def f300_says (N h b : Nat) (x0 : Int32) (a : xA) : Option (xA) :=
  if (a 157 23) = 60 then (some a) else (xg (¬ (a 157 23 < 0 ∨ 60 ≤ (a 157 23).toNatClampNeg)) (xw (xU a 168 ((a 157 23).toNatClampNeg) (vp_nar .byte x0.toInt8.toInt32)) (fun a2 => xw (xU a2 157 23 ((a2 157 23) + 1)) (fun a6 => some a6))))

/-- TerminalHouseModel.push(I)V -/
def f301_push (N h b : Nat) (x0 : Int32) (a : xA) : Option (xA) :=
  if (a 157 25) = 8 then (some a) else (xg (¬ (a 157 25 < 0 ∨ 8 ≤ (a 157 25).toNatClampNeg)) (xw (xU a 169 ((a 157 25).toNatClampNeg) x0) (fun a2 => xw (xU a2 157 25 ((a2 157 25) + 1)) (fun a6 => some a6))))

/-- TerminalHouseModel.pop()I -/
def f302_pop (N h b : Nat) (a : xA) : Option (Int32 × xA) :=
  if (a 157 25) = 0 then (some (0, a)) else (xw (xU a 157 25 ((a 157 25) - 1)) (fun a2 => xg (¬ (a2 157 25 < 0 ∨ 8 ≤ (a2 157 25).toNatClampNeg)) (some (a2 169 ((a2 157 25).toNatClampNeg), a2))))

def l303_13 (N h b : Nat) (w1 : Int32) (w2 : Int32) (w3 : Int32) (w4 : Int64) : Nat → Int64 → Int32 → xA → Option (Nat × Int64 × Int32 × xA)
  | 0, _, _, _ => none
  | n + 1, v6, v8, a => xg (¬ v6 = 0) (if (lg_cmp (w4 / v6) 10) < 0 then (some (0, v6, v8, a)) else (l303_13 N h b w1 w2 w3 w4 n (v6 * 10) (v8 + 1) a))

def l303_57 (N h b : Nat) (w1 : Int32) (w2 : Int32) (w3 : Int32) (w4 : Int64) (w6 : Int64) (w9 : Int32) : Nat → Int32 → xA → Option (Nat × xA)
  | 0, _, _ => none
  | n + 1, v10, a => if w2 ≤ v10 then (some (0, a)) else (if w3 = 0 then (xb1 (f300_says N h b 32 a) (fun a13 => l303_57 N h b w1 w2 w3 w4 w6 w9 n (v10 + 1) a13)) else (some (0, a)))

def l303_93 (N h b : Nat) (w2 : Int32) (w3 : Int32) (w4 : Int64) (w6 : Int64) : Nat → Int32 → xA → Option (Nat × xA)
  | 0, _, _ => none
  | n + 1, v10, a => if w2 ≤ v10 then (some (0, a)) else (if w3 = 0 then (some (0, a)) else (xb1 (f300_says N h b 48 a) (fun a23 => l303_93 N h b w2 w3 w4 w6 n (v10 + 1) a23)))

def l303_115 (N h b : Nat) (w4 : Int64) : Nat → Int64 → xA → Option (Nat × xA)
  | 0, _, _ => none
  | n + 1, v6, a => if (lg_cmp v6 0) ≤ 0 then (some (0, a)) else (xg (¬ v6 = 0) (xb1 (f300_says N h b (48 + (((w4 / v6) - (w4 / v6) / 10 * 10).toInt32)) a) (fun a31 => l303_115 N h b w4 n (v6 / 10) a31)))

def j303_89 (N h b : Nat) (q2 : Int32) (q3 : Int32) (q4 : Int64) (q6 : Int64) (q9 : Int32) (a : xA) : Option (xA) :=
  (l303_93 N h b q2 q3 q4 q6 N q9 a).bind (fun z24 => (l303_115 N h b q4 N q6 z24.2).bind (fun z32 => some z32.2))

def j303_79 (N h b : Nat) (q1 : Int32) (q2 : Int32) (q3 : Int32) (q4 : Int64) (q6 : Int64) (q9 : Int32) (a : xA) : Option (xA) :=
  if 0 ≤ q1 then (j303_89 N h b q2 q3 q4 q6 q9 a) else (xb1 (f300_says N h b 45 a) (fun a37 => j303_89 N h b q2 q3 q4 q6 q9 a37))

/-- TerminalHouseModel.decimals(IIZ)V -/
def f303_decimals (N h b : Nat) (x0 : Int32) (x1 : Int32) (x2 : Int32) (a : xA) : Option (xA) :=
  (l303_13 N h b x0 x1 x2 (xabsl x0.toInt64) N 1 1 a).bind (fun z3 => (l303_57 N h b x0 x1 x2 (xabsl x0.toInt64) z3.2.1 (z3.2.2.1 + (if 0 ≤ x0 then (0 : Int32) else (1 : Int32))) N (z3.2.2.1 + (if 0 ≤ x0 then (0 : Int32) else (1 : Int32))) z3.2.2.2).bind (fun z14 => j303_79 N h b x0 x1 x2 (xabsl x0.toInt64) z3.2.1 (z3.2.2.1 + (if 0 ≤ x0 then (0 : Int32) else (1 : Int32))) z14.2))

def j304_103 (N h b : Nat) (rc : Int32 → Int32 → xA → Option (Nat × Int32 × Int32 × xA)) (w1 : Int32) (w3 : Int32) (q4 : Int32) (q5 : Int32) (q6 : Int32) (a : xA) : Option (Nat × Int32 × Int32 × xA) :=
  rc (q4 + q6) q5 a

def j304_93 (N h b : Nat) (rc : Int32 → Int32 → xA → Option (Nat × Int32 × Int32 × xA)) (w1 : Int32) (w3 : Int32) (q4 : Int32) (q5 : Int32) (q6 : Int32) (q7 : Int32) (a : xA) : Option (Nat × Int32 × Int32 × xA) :=
  if q7 = 59 then (j304_103 N h b (rc) w1 w3 q4 (q5 + (-1)) q6 a) else (j304_103 N h b (rc) w1 w3 q4 q5 q6 a)

def j304_71 (N h b : Nat) (rc : Int32 → Int32 → xA → Option (Nat × Int32 × Int32 × xA)) (w1 : Int32) (w3 : Int32) (q4 : Int32) (q5 : Int32) (q6 : Int32) (q7 : Int32) (a : xA) : Option (Nat × Int32 × Int32 × xA) :=
  if q7 = 101 then (if q5 = 0 then (if w3 = 0 then (j304_93 N h b (rc) w1 w3 q4 q5 q6 q7 a) else (some (0, q4, q6, a))) else (j304_93 N h b (rc) w1 w3 q4 q5 q6 q7 a)) else (j304_93 N h b (rc) w1 w3 q4 q5 q6 q7 a)

def j304_59 (N h b : Nat) (rc : Int32 → Int32 → xA → Option (Nat × Int32 × Int32 × xA)) (w1 : Int32) (w3 : Int32) (q4 : Int32) (q5 : Int32) (q6 : Int32) (q7 : Int32) (a : xA) : Option (Nat × Int32 × Int32 × xA) :=
  if q7 = 59 then (if q5 = 0 then (some (0, q4, q6, a)) else (j304_71 N h b (rc) w1 w3 q4 q5 q6 q7 a)) else (j304_71 N h b (rc) w1 w3 q4 q5 q6 q7 a)

def l304_6 (N h b : Nat) (w1 : Int32) (w3 : Int32) : Nat → Int32 → Int32 → xA → Option (Nat × Int32 × Int32 × xA)
  | 0, _, _, _ => none
  | n + 1, v4, v5, a => xg (¬ (w1 < 0 ∨ 468 ≤ w1.toNatClampNeg)) (if (a 166 (w1.toNatClampNeg)) ≤ v4 then (some (1, v4, 0, a)) else (xb2 (f287_item N h b w1 v4 a) (fun r6 a7 => xb2 (f288_byteOf N h b w1 v4 a7) (fun r11 a12 => if r11 = 37 then (xb2 (f288_byteOf N h b w1 (v4 + 1) a12) (fun r17 a18 => if r17 = 63 then (j304_59 N h b (l304_6 N h b w1 w3 n) w1 w3 v4 (v5 + 1) r6 r17 a18) else (j304_59 N h b (l304_6 N h b w1 w3 n) w1 w3 v4 v5 r6 r17 a18))) else (j304_103 N h b (l304_6 N h b w1 w3 n) w1 w3 v4 v5 r6 a12)))))

def j304_87 (N h b : Nat) (q4 : Int32) (q6 : Int32) (a : xA) : Option (Int32 × xA) :=
  some (q4 + q6, a)

/-- TerminalHouseModel.past(IIZ)I -/
def f304_past (N h b : Nat) (x0 : Int32) (x1 : Int32) (x2 : Int32) (a : xA) : Option (Int32 × xA) :=
  (l304_6 N h b x0 x2 N x1 0 a).bind (fun z40 => if z40.1 = 0 then (j304_87 N h b z40.2.1 z40.2.2.1 z40.2.2.2) else (some (z40.2.1, z40.2.2.2)))

def j305_215 (N h b : Nat) (a : xA) : Option (Int32 × xA) :=
  some (1, a)

/-- TerminalHouseModel.works(III)I -/
def f305_works (N h b : Nat) (x0 : Int32) (x1 : Int32) (x2 : Int32) (a : xA) : Option (Int32 × xA) :=
  if x0 = 38 then (some (x1 &&& x2, a)) else (if x0 = 42 then (some (x1 * x2, a)) else (if x0 = 43 then (some (x1 + x2, a)) else (if x0 = 45 then (some (x1 - x2, a)) else (if x0 = 47 then (if x2 = 0 then (some (0, a)) else (some (x1 / x2, a))) else (if x0 = 60 then (some ((if x2 ≤ x1 then (0 : Int32) else (1 : Int32)), a)) else (if x0 = 61 then (some ((if x1 = x2 then (1 : Int32) else (0 : Int32)), a)) else (if x0 = 62 then (some ((if x1 ≤ x2 then (0 : Int32) else (1 : Int32)), a)) else (if x0 = 65 then (if x1 = 0 then (some (0, a)) else (some ((if x2 = 0 then (0 : Int32) else (1 : Int32)), a))) else (if x0 = 94 then (some (x1 ^^^ x2, a)) else (if x0 = 109 then (if x2 = 0 then (some (0, a)) else (some (x1 - ((x1 / x2) * x2), a))) else (if x0 = 124 then (some (x1 ||| x2, a)) else (if x1 = 0 then (some ((if x2 = 0 then (0 : Int32) else (1 : Int32)), a)) else (j305_215 N h b a)))))))))))))

def j299_567 (N h b : Nat) (rc : Int32 → Int32 → Int32 → xA → Option (Nat × xA)) (w4 : Int32) (w5 : Int32) (w6 : Int32) (q7 : Int32) (q8 : Int32) (q12 : Int32) (a : xA) : Option (Nat × xA) :=
  rc q7 q8 q12 a

def l299_351 (N h b : Nat) (w4 : Int32) (w5 : Int32) (w6 : Int32) (w7 : Int32) (w8 : Int32) (w12 : Int32) : Nat → Int32 → Int32 → xA → Option (Nat × Int32 × xA)
  | 0, _, _, _ => none
  | n + 1, v13, v14, a => xb2 (f288_byteOf N h b w6 v14 a) (fun r150 a151 => if r150 = 125 then (some (0, v13, a151)) else (xb2 (f288_byteOf N h b w6 v14 a151) (fun r156 a157 => l299_351 N h b w4 w5 w6 w7 w8 w12 n (((10 * v13) + r156) - 48) (v14 + 1) a157)))

def j299_88 (N h b : Nat) (rc : Int32 → Int32 → Int32 → xA → Option (Nat × xA)) (w4 : Int32) (w5 : Int32) (w6 : Int32) (q7 : Int32) (q8 : Int32) (q9 : Int32) (q10 : Int32) (t0 : Int32) (a : xA) : Option (Nat × xA) :=
  if t0 = (-1) then (xb2 (f288_byteOf N h b w6 q9 a) (fun r36 a37 => xb1 (f300_says N h b r36 a37) (fun a41 => j299_567 N h b (rc) w4 w5 w6 q7 q8 (q9 + q10) a41))) else (if t0 = 33 then (xb2 (f302_pop N h b a) (fun r46 a47 => xb1 (f301_push N h b (if r46 = 0 then (1 : Int32) else (0 : Int32)) a47) (fun a52 => j299_567 N h b (rc) w4 w5 w6 q7 q8 (q9 + q10) a52))) else (if t0 = 37 then (xb1 (f300_says N h b 37 a) (fun a57 => j299_567 N h b (rc) w4 w5 w6 q7 q8 (q9 + q10) a57)) else (if t0 = 39 then (xb2 (f288_byteOf N h b w6 (q9 + 2) a) (fun r62 a63 => xb1 (f301_push N h b r62 a63) (fun a67 => j299_567 N h b (rc) w4 w5 w6 q7 q8 (q9 + q10) a67))) else (if t0 = 48 then (xb2 (f302_pop N h b a) (fun r72 a73 => xb2 (f288_byteOf N h b w6 (q9 + 2) a73) (fun r77 a78 => xb1 (f303_decimals N h b r72 (r77 - 48) 1 a78) (fun a82 => j299_567 N h b (rc) w4 w5 w6 q7 q8 (q9 + q10) a82)))) else (if t0 = 50 ∨ t0 = 51 then (xb2 (f302_pop N h b a) (fun r87 a88 => xb1 (f303_decimals N h b r87 (t0 - 48) 0 a88) (fun a92 => j299_567 N h b (rc) w4 w5 w6 q7 q8 (q9 + q10) a92))) else (if t0 = 59 ∨ t0 = 63 then (j299_567 N h b (rc) w4 w5 w6 q7 q8 (q9 + q10) a) else (if t0 = 99 then (xb2 (f302_pop N h b a) (fun r98 a99 => xb1 (f300_says N h b r98 a99) (fun a103 => j299_567 N h b (rc) w4 w5 w6 q7 q8 (q9 + q10) a103))) else (if t0 = 100 then (xb2 (f302_pop N h b a) (fun r108 a109 => xb1 (f303_decimals N h b r108 0 0 a109) (fun a113 => j299_567 N h b (rc) w4 w5 w6 q7 q8 (q9 + q10) a113))) else (if t0 = 101 then (xb2 (f304_past N h b w6 (q9 + q10) 0 a) (fun r118 a119 => j299_567 N h b (rc) w4 w5 w6 q7 q8 r118 a119)) else (if t0 = 105 then (j299_567 N h b (rc) w4 w5 w6 (q7 + 1) (q8 + 1) (q9 + q10) a) else (if t0 = 112 then (xb2 (f288_byteOf N h b w6 (q9 + 2) a) (fun r125 a126 => xb1 (f301_push N h b (if (r125 - 48) = 1 then (q7) else (if (r125 - 48) = 2 then (q8) else (if (r125 - 48) = 3 then (w4) else (w5)))) a126) (fun a133 => j299_567 N h b (rc) w4 w5 w6 q7 q8 (q9 + q10) a133))) else (if t0 = 116 then (xb2 (f302_pop N h b a) (fun r138 a139 => if r138 = 0 then (xb2 (f304_past N h b w6 (q9 + q10) 1 a139) (fun r144 a145 => j299_567 N h b (rc) w4 w5 w6 q7 q8 r144 a145)) else (j299_567 N h b (rc) w4 w5 w6 q7 q8 (q9 + q10) a139))) else (if t0 = 123 then ((l299_351 N h b w4 w5 w6 q7 q8 (q9 + q10) N 0 (q9 + 2) a).bind (fun z158 => xb1 (f301_push N h b z158.2.1 z158.2.2) (fun a163 => j299_567 N h b (rc) w4 w5 w6 q7 q8 (q9 + q10) a163))) else (if t0 = 126 then (xb2 (f302_pop N h b a) (fun r168 a169 => xb1 (f301_push N h b (r168 ^^^ (-1)) a169) (fun a173 => j299_567 N h b (rc) w4 w5 w6 q7 q8 (q9 + q10) a173))) else (xb2 (f302_pop N h b a) (fun r177 a178 => xb2 (f302_pop N h b a178) (fun r182 a183 => xb2 (f305_works N h b t0 r182 r177 a183) (fun r187 a188 => xb1 (f301_push N h b r187 a188) (fun a192 => j299_567 N h b (rc) w4 w5 w6 q7 q8 (q9 + q10) a192)))))))))))))))))))

def l299_39 (N h b : Nat) (w4 : Int32) (w5 : Int32) (w6 : Int32) : Nat → Int32 → Int32 → Int32 → xA → Option (Nat × xA)
  | 0, _, _, _, _ => none
  | n + 1, v7, v8, v9, a => xg (¬ (w6 < 0 ∨ 468 ≤ w6.toNatClampNeg)) (if (a 166 (w6.toNatClampNeg)) ≤ v9 then (some (0, a)) else (xb2 (f287_item N h b w6 v9 a) (fun r18 a19 => xb2 (f288_byteOf N h b w6 v9 a19) (fun r23 a24 => if r23 = 37 then (xb2 (f288_byteOf N h b w6 (v9 + 1) a24) (fun r30 a31 => j299_88 N h b (l299_39 N h b w4 w5 w6 n) w4 w5 w6 v7 v8 v9 r18 r30 a31)) else (j299_88 N h b (l299_39 N h b w4 w5 w6 n) w4 w5 w6 v7 v8 v9 r18 (-1) a24)))))

/-- TerminalHouseModel.puts(IIIII)V -/
def f299_puts (N h b : Nat) (x0 : Int32) (x1 : Int32) (x2 : Int32) (x3 : Int32) (x4 : Int32) (a : xA) : Option (xA) :=
  xw (xU a 157 23 0) (fun a1 => xw (xU a1 157 25 0) (fun a4 => xb2 (f297_has N h b x0 a4) (fun r10 a11 => if r10 = 0 then (some a11) else ((l299_39 N h b x3 x4 ((39 * (a11 157 21)) + x0) N x1 x2 0 a11).bind (fun z193 => some z193.2)))))

def l298_51 (N h b : Nat) : Nat → Int32 → xA → Option (Nat × xA)
  | 0, _, _ => none
  | n + 1, v6, a => if (a 157 23) ≤ v6 then (some (0, a)) else (xg (¬ (v6 < 0 ∨ 60 ≤ v6.toNatClampNeg)) (xg (¬ (v6 < 0 ∨ 300 ≤ v6.toNatClampNeg)) (xw (xU a 159 (v6.toNatClampNeg) (vp_nar .byte (a 168 (v6.toNatClampNeg)))) (fun a26 => l298_51 N h b n (v6 + 1) a26))))

/-- TerminalHouseModel.expand(IIII)I -/
def f298_expand (N h b : Nat) (x0 : Int32) (x1 : Int32) (x2 : Int32) (x3 : Int32) (a : xA) : Option (Int32 × xA) :=
  xw (xU a 157 0 0) (fun a1 => xb2 (f296_asked N h b a1) (fun r7 a8 => if r7 < 6 then (some ((-1), a8)) else (xb2 (f297_has N h b r7 a8) (fun r14 a15 => if r14 = 0 then (some ((-1), a15)) else (xb1 (f299_puts N h b r7 x0 x1 x2 x3 a15) (fun a20 => xw (xU a20 157 4 (a20 157 23)) (fun a21 => (l298_51 N h b N 0 a21).bind (fun z30 => some (z30.2 157 4, z30.2)))))))))

def l306_8 (N h b : Nat) (w1 : Int32) (w2 : Int32) (w3 : Int32) (w4 : Int32) : Nat → Int32 → xA → Option (Nat × Int32 × xA)
  | 0, _, _ => none
  | n + 1, v5, a => if 8 ≤ v5 then (some (0, v5, a)) else (xg (¬ (v5 < 0 ∨ 8 ≤ v5.toNatClampNeg)) (if (a 172 (v5.toNatClampNeg)) = 0 then (some (0, v5, a)) else (l306_8 N h b w1 w2 w3 w4 n (v5 + 1) a)))

def l306_193 (N h b : Nat) (w5 : Int32) : Nat → Int32 → xA → Option (Nat × xA)
  | 0, _, _ => none
  | n + 1, v7, a => if 1920 ≤ v7 then (some (0, a)) else (xg (¬ ((1920 * w5) + v7 < 0 ∨ 15360 ≤ ((1920 * w5) + v7).toNatClampNeg)) (xw (xU a 181 (((1920 * w5) + v7).toNatClampNeg) 32) (fun a41 => l306_193 N h b w5 n (v7 + 1) a41)))

def j306_108 (N h b : Nat) (q1 : Int32) (q2 : Int32) (q3 : Int32) (q4 : Int32) (q5 : Int32) (t0 : Int32) (a : xA) : Option (Int32 × xA) :=
  if t0 = 0 then (some ((-1), a)) else (xg (¬ (q5 < 0 ∨ 8 ≤ q5.toNatClampNeg)) (xw (xU a 172 (q5.toNatClampNeg) 1) (fun a12 => xw (xU a12 173 (q5.toNatClampNeg) q1) (fun a16 => xw (xU a16 174 (q5.toNatClampNeg) q2) (fun a19 => xw (xU a19 175 (q5.toNatClampNeg) q3) (fun a22 => xw (xU a22 176 (q5.toNatClampNeg) q4) (fun a25 => xw (xU a25 177 (q5.toNatClampNeg) 0) (fun a28 => xw (xU a28 178 (q5.toNatClampNeg) 0) (fun a31 => xw (xU a31 179 (q5.toNatClampNeg) 0) (fun a34 => xw (xU a34 180 (q5.toNatClampNeg) 0) (fun a37 => (l306_193 N h b q5 N 0 a37).bind (fun z45 => some (q5, z45.2)))))))))))))

def j306_107 (N h b : Nat) (q1 : Int32) (q2 : Int32) (q3 : Int32) (q4 : Int32) (q5 : Int32) (a : xA) : Option (Int32 × xA) :=
  j306_108 N h b q1 q2 q3 q4 q5 0 a

def j306_31 (N h b : Nat) (q1 : Int32) (q2 : Int32) (q3 : Int32) (q4 : Int32) (q5 : Int32) (a : xA) : Option (Int32 × xA) :=
  if (a 157 21) = (-1) then (j306_107 N h b q1 q2 q3 q4 q5 a) else (if 8 ≤ q5 then (j306_107 N h b q1 q2 q3 q4 q5 a) else (if q3 < 1 then (j306_107 N h b q1 q2 q3 q4 q5 a) else (if q4 < 1 then (j306_107 N h b q1 q2 q3 q4 q5 a) else (if q1 < 0 then (j306_107 N h b q1 q2 q3 q4 q5 a) else (if q2 < 0 then (j306_107 N h b q1 q2 q3 q4 q5 a) else (if (a 157 27) < q3 then (j306_107 N h b q1 q2 q3 q4 q5 a) else (if (a 157 26) < q4 then (j306_107 N h b q1 q2 q3 q4 q5 a) else (if ((a 157 27) - q3) < q1 then (j306_107 N h b q1 q2 q3 q4 q5 a) else (if (if ((a 157 26) - q4) < q2 then (0 : Int32) else (1 : Int32)) = 0 then (some ((-1), a)) else (xg (¬ (q5 < 0 ∨ 8 ≤ q5.toNatClampNeg)) (xw (xU a 172 (q5.toNatClampNeg) 1) (fun a92 => xw (xU a92 173 (q5.toNatClampNeg) q1) (fun a96 => xw (xU a96 174 (q5.toNatClampNeg) q2) (fun a99 => xw (xU a99 175 (q5.toNatClampNeg) q3) (fun a102 => xw (xU a102 176 (q5.toNatClampNeg) q4) (fun a105 => xw (xU a105 177 (q5.toNatClampNeg) 0) (fun a108 => xw (xU a108 178 (q5.toNatClampNeg) 0) (fun a111 => xw (xU a111 179 (q5.toNatClampNeg) 0) (fun a114 => xw (xU a114 180 (q5.toNatClampNeg) 0) (fun a117 => (l306_193 N h b q5 N 0 a117).bind (fun z120 => some (q5, z120.2))))))))))))))))))))))

/-- TerminalHouseModel.open(IIII)I -/
def f306_open (N h b : Nat) (x0 : Int32) (x1 : Int32) (x2 : Int32) (x3 : Int32) (a : xA) : Option (Int32 × xA) :=
  xw (xU a 157 0 0) (fun a1 => (l306_8 N h b x0 x1 x2 x3 N 0 a1).bind (fun z8 => j306_31 N h b x0 x1 x2 x3 z8.2.1 z8.2.2))

/-- TerminalHouseModel.is(I)Z -/
def f308_is (N h b : Nat) (x0 : Int32) (a : xA) : Option (Int32 × xA) :=
  if x0 < 0 then (some (0, a)) else (if 8 ≤ x0 then (some (0, a)) else (xg (¬ (x0 < 0 ∨ 8 ≤ x0.toNatClampNeg)) (xg ((if (a 172 (x0.toNatClampNeg)) = 0 then (0 : Int32) else (1 : Int32)) = 0 ∨ (if (a 172 (x0.toNatClampNeg)) = 0 then (0 : Int32) else (1 : Int32)) = 1) (some ((if (a 172 (x0.toNatClampNeg)) = 0 then (0 : Int32) else (1 : Int32)), a)))))

/-- TerminalHouseModel.close(I)Z -/
def f307_close (N h b : Nat) (x0 : Int32) (a : xA) : Option (Int32 × xA) :=
  xw (xU a 157 0 0) (fun a1 => xb2 (f308_is N h b x0 a1) (fun r7 a8 => if r7 = 0 then (some (0, a8)) else (xg (¬ (x0 < 0 ∨ 8 ≤ x0.toNatClampNeg)) (xw (xU a8 172 (x0.toNatClampNeg) 0) (fun a10 => some (1, a10))))))

/-- TerminalHouseModel.at(III)Z -/
def f309_at (N h b : Nat) (x0 : Int32) (x1 : Int32) (x2 : Int32) (a : xA) : Option (Int32 × xA) :=
  xw (xU a 157 0 0) (fun a1 => xb2 (f308_is N h b x0 a1) (fun r7 a8 => if r7 = 0 then (some (0, a8)) else (if x1 < 0 then (some (0, a8)) else (if x2 < 0 then (some (0, a8)) else (xg (¬ (x0 < 0 ∨ 8 ≤ x0.toNatClampNeg)) (if (a8 175 (x0.toNatClampNeg)) ≤ x1 then (some (0, a8)) else (if x2 < (a8 176 (x0.toNatClampNeg)) then (xw (xU a8 177 (x0.toNatClampNeg) x1) (fun a22 => xw (xU a22 178 (x0.toNatClampNeg) x2) (fun a25 => some (1, a25)))) else (some (0, a8)))))))))

/-- TerminalHouseModel.dress(II)Z -/
def f310_dress (N h b : Nat) (x0 : Int32) (x1 : Int32) (a : xA) : Option (Int32 × xA) :=
  xw (xU a 157 0 0) (fun a1 => xb2 (f308_is N h b x0 a1) (fun r7 a8 => if r7 = 0 then (some (0, a8)) else (if x1 < 0 then (some (0, a8)) else (if x1 ≤ 15 then (xg (¬ (x0 < 0 ∨ 8 ≤ x0.toNatClampNeg)) (xw (xU a8 179 (x0.toNatClampNeg) x1) (fun a17 => some (1, a17)))) else (some (0, a8))))))

/-- TerminalHouseModel.scrolls(IZ)Z -/
def f311_scrolls (N h b : Nat) (x0 : Int32) (x1 : Int32) (a : xA) : Option (Int32 × xA) :=
  xw (xU a 157 0 0) (fun a1 => xb2 (f308_is N h b x0 a1) (fun r7 a8 => if r7 = 0 then (some (0, a8)) else (xg (¬ (x0 < 0 ∨ 8 ≤ x0.toNatClampNeg)) (xw (xU a8 180 (x0.toNatClampNeg) (vp_nar .boolean x1)) (fun a10 => some (1, a10))))))

/-- TerminalHouseModel.cellAt(III)I -/
def f314_cellAt (N h b : Nat) (x0 : Int32) (x1 : Int32) (x2 : Int32) (a : xA) : Option (Int32 × xA) :=
  some (((1920 * x0) + (80 * x1)) + x2, a)

def j316_70 (N h b : Nat) (rc : Int32 → xA → Option (Nat × xA)) (w1 : Int32) (w3 : Int32) (q4 : Int32) (t0 : Int32) (t1 : Int32) (a : xA) : Option (Nat × xA) :=
  xg (¬ (t1 < 0 ∨ 15360 ≤ t1.toNatClampNeg)) (xw (xU a 181 (t1.toNatClampNeg) t0) (fun a12 => rc (q4 + 1) a12))

def l316_15 (N h b : Nat) (w1 : Int32) (w3 : Int32) : Nat → Int32 → xA → Option (Nat × xA)
  | 0, _, _ => none
  | n + 1, v4, a => xg (¬ (w1 < 0 ∨ 8 ≤ w1.toNatClampNeg)) (if (a 176 (w1.toNatClampNeg)) ≤ v4 then (some (0, a)) else (xb2 (f314_cellAt N h b w1 w3 v4 a) (fun r8 a9 => if (a9 175 (w1.toNatClampNeg)) ≤ (w3 + 1) then (j316_70 N h b (l316_15 N h b w1 w3 n) w1 w3 v4 32 r8 a9) else (xb2 (f314_cellAt N h b w1 (w3 + 1) v4 a9) (fun r19 a20 => xg (¬ (r19 < 0 ∨ 15360 ≤ r19.toNatClampNeg)) (j316_70 N h b (l316_15 N h b w1 w3 n) w1 w3 v4 (a20 181 (r19.toNatClampNeg)) r8 a20))))))

def l316_2 (N h b : Nat) (w1 : Int32) : Nat → Int32 → xA → Option (Nat × xA)
  | 0, _, _ => none
  | n + 1, v3, a => xg (¬ (w1 < 0 ∨ 8 ≤ w1.toNatClampNeg)) (if (a 175 (w1.toNatClampNeg)) ≤ v3 then (some (0, a)) else ((l316_15 N h b w1 v3 N 0 a).bind (fun z22 => l316_2 N h b w1 n (v3 + 1) z22.2)))

/-- TerminalHouseModel.up(II)V -/
def f316_up (N h b : Nat) (x0 : Int32) (x1 : Int32) (a : xA) : Option (xA) :=
  (l316_2 N h b x0 N x1 a).bind (fun z24 => some z24.2)

def j315_64 (N h b : Nat) (q1 : Int32) (a : xA) : Option (Int32 × xA) :=
  xg (¬ (q1 < 0 ∨ 8 ≤ q1.toNatClampNeg)) (xw (xU a 178 (q1.toNatClampNeg) 0) (fun a12 => some (1, a12)))

def j315_28 (N h b : Nat) (q1 : Int32) (a : xA) : Option (Int32 × xA) :=
  xg (¬ (q1 < 0 ∨ 8 ≤ q1.toNatClampNeg)) (if (a 177 (q1.toNatClampNeg)) = ((a 175 (q1.toNatClampNeg)) - 1) then (xb1 (f316_up N h b q1 0 a) (fun a11 => j315_64 N h b q1 a11)) else (xw (xU a 177 (q1.toNatClampNeg) ((a 177 (q1.toNatClampNeg)) + 1)) (fun a16 => j315_64 N h b q1 a16)))
