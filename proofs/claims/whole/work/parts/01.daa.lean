/-! The program as functions. -/
/-- TerminalHouse.nearest(III)I -/
def f10_nearest (N h b : Nat) (x0 : Int32) (x1 : Int32) (x2 : Int32) (a : xA) : Option (Int32 × xA) :=
  if x1 ≤ x0 then (some ((if x0 ≤ x2 then (x0) else (x2)), a)) else (some (x1, a))

/-- TerminalHouse$Glass.last()I -/
def f17_last (N h b : Nat) (a : xA) : Option (Int32 × xA) :=
  xg (¬ (a 136 5 < 0 ∨ h ≤ (a 136 5).toNatClampNeg)) (if (a 139 ((a 136 5).toNatClampNeg)) = 0 then (some ((a 136 1) - 1, a)) else (some (((a 136 1) / 2) - 1, a)))

/-- TerminalHouse$Glass.place(II)V -/
def f16_place (N h b : Nat) (x0 : Int32) (x1 : Int32) (a : xA) : Option (xA) :=
  xb2 (f10_nearest N h b x0 0 ((a 136 0) - 1) a) (fun r4 a5 => xw (xU a5 136 5 r4) (fun a6 => xb2 (f17_last N h b a6) (fun r12 a13 => xb2 (f10_nearest N h b x1 0 r12 a13) (fun r17 a18 => xw (xU a18 136 6 r17) (fun a19 => xw (xU a19 136 7 0) (fun a22 => some a22))))))

/-- TerminalHouse$Glass.save()V -/
def f18_save (N h b : Nat) (a : xA) : Option (xA) :=
  xw (xU a 137 0 (a 136 5)) (fun a1 => xw (xU a1 137 1 (a1 136 6)) (fun a4 => xw (xU a4 137 2 (a4 136 11)) (fun a7 => xw (xU a7 137 3 (a7 136 12)) (fun a10 => xw (xU a10 137 4 (a10 136 13)) (fun a13 => xw (xU a13 137 5 ((a13 136 10) &&& 16)) (fun a16 => some a16))))))

def j13_59 (N h b : Nat) (rc : Int32 → xA → Option (Nat × xA)) (q1 : Int32) (t0 : Int32) (t1 : Int32) (a : xA) : Option (Nat × xA) :=
  xg (¬ (t1 < 0 ∨ b ≤ t1.toNatClampNeg)) (xw (xU a 140 (t1.toNatClampNeg) (vp_nar .boolean t0)) (fun a12 => rc (q1 + 1) a12))

def j13_58 (N h b : Nat) (rc : Int32 → xA → Option (Nat × xA)) (q1 : Int32) (t0 : Int32) (a : xA) : Option (Nat × xA) :=
  j13_59 N h b (rc) q1 0 t0 a

def l13_30 (N h b : Nat) : Nat → Int32 → xA → Option (Nat × xA)
  | 0, _, _ => none
  | n + 1, v1, a => if (a 136 1) ≤ v1 then (some (0, a)) else (if v1 ≤ 0 then (j13_58 N h b (l13_30 N h b n) v1 v1 a) else (xg (¬ (v1 < 0 ∨ b ≤ v1.toNatClampNeg)) (xw (xU a 140 (v1.toNatClampNeg) (vp_nar .boolean (if (v1 - v1 / 8 * 8) = 0 then (1 : Int32) else (0 : Int32)))) (fun a17 => l13_30 N h b n (v1 + 1) a17))))

/-- TerminalHouse$Glass.reset()V -/
def f13_reset (N h b : Nat) (a : xA) : Option (xA) :=
  xb1 (f14_fill N h b 138 0 (Int32.ofNat (h * b)) 32 a) (fun a4 => xb1 (f14_fill N h b 139 0 (a4 136 0) 0 a4) (fun a8 => (l13_30 N h b N 0 a8).bind (fun z21 => xw (xU z21.2 136 8 0) (fun a23 => xw (xU a23 136 9 ((a23 136 0) - 1)) (fun a26 => xw (xU a26 136 10 96) (fun a29 => xw (xU a29 136 11 0) (fun a32 => xw (xU a32 136 12 0) (fun a35 => xw (xU a35 136 13 0) (fun a38 => xw (xU a38 136 14 0) (fun a41 => xb1 (f16_place N h b 0 0 a41) (fun a47 => xb1 (f18_save N h b a47) (fun a51 => some a51))))))))))))

def l20_3 (N h b : Nat) (w1 : Int32) : Nat → Int32 → xA → Option (Nat × xA)
  | 0, _, _ => none
  | n + 1, v2, a => if v2 < 0 then (some (0, a)) else (if 3000 ≤ (a 0 1) then (some (0, a)) else (xg (¬ (a 0 1 < 0 ∨ 3000 ≤ (a 0 1).toNatClampNeg)) (xw (xU a 1 ((a 0 1).toNatClampNeg) (((w1.toUInt32 >>> (v2.toUInt32 &&& Int32.toUInt32 31)).toInt32) &&& 255)) (fun a5 => xw (xU a5 0 1 ((a5 0 1) + 1)) (fun a9 => l20_3 N h b w1 n (v2 + (-8)) a9)))))

/-- TerminalHouse.feedFour(I)V -/
def f20_feedFour (N h b : Nat) (x0 : Int32) (a : xA) : Option (xA) :=
  (l20_3 N h b x0 N 24 a).bind (fun z12 => some z12.2)

/-- TerminalHouse.feed(IIIII)Z -/
def f19_feed (N h b : Nat) (x0 : Int32) (x1 : Int32) (x2 : Int32) (x3 : Int32) (x4 : Int32) (a : xA) : Option (Int32 × xA) :=
  if ((a 0 1) + 20) ≤ 3000 then (xb1 (f20_feedFour N h b x0 a) (fun a5 => xb1 (f20_feedFour N h b x1 a5) (fun a9 => xb1 (f20_feedFour N h b x2 a9) (fun a13 => xb1 (f20_feedFour N h b x3 a13) (fun a17 => xb1 (f20_feedFour N h b x4 a17) (fun a21 => some (1, a21))))))) else (some (0, a))

/-- TerminalHouse.end(I)Z -/
def f21_end (N h b : Nat) (x0 : Int32) (a : xA) : Option (Int32 × xA) :=
  if x0 < 0 then (some (0, a)) else (if x0 ≤ (a 0 1) then (xw (xU a 0 1 x0) (fun a5 => some (1, a5))) else (some (0, a)))

def j25_29 (N h b : Nat) (a : xA) : Option (Int32 × xA) :=
  some (1, a)

/-- TerminalHouse$Reader.isText(I)Z -/
def f25_isText (N h b : Nat) (x0 : Int32) (a : xA) : Option (Int32 × xA) :=
  if x0 = (-1) then (j25_29 N h b a) else (if x0 = 10 then (j25_29 N h b a) else (if x0 = 9 then (j25_29 N h b a) else (if x0 < 32 then (some (0, a)) else (xg ((if 126 < x0 then (0 : Int32) else (1 : Int32)) = 0 ∨ (if 126 < x0 then (0 : Int32) else (1 : Int32)) = 1) (some ((if 126 < x0 then (0 : Int32) else (1 : Int32)), a))))))

/-- TerminalHouse$Reader.failed(II)Z -/
def f26_failed (N h b : Nat) (x0 : Int32) (x1 : Int32) (a : xA) : Option (Int32 × xA) :=
  xw (xU a 3 2 x0) (fun a1 => xw (xU a1 3 3 x1) (fun a4 => some (0, a4)))

def j28_12 (N h b : Nat) (a : xA) : Option (Int32 × xA) :=
  some ((-1), a)

/-- TerminalHouse$Reader.byteAt(I)I -/
def f28_byteAt (N h b : Nat) (x0 : Int32) (a : xA) : Option (Int32 × xA) :=
  if x0 < 0 then (j28_12 N h b a) else (if x0 < (a 3 5) then (xg (¬ (a 3 4) = -1) (xg (xk ((a 3 4).toNatClampNeg) = 100) (xg (¬ (x0 < 0 ∨ xl h b ((a 3 4).toNatClampNeg) ≤ x0.toNatClampNeg)) (some (a ((a 3 4).toNatClampNeg) (x0.toNatClampNeg), a))))) else (j28_12 N h b a))

def j27_30 (N h b : Nat) (a : xA) : Option (Int32 × xA) :=
  xw (xU a 3 6 ((a 3 6) + 1)) (fun a9 => some (1, a9))

/-- TerminalHouse$Reader.passLineEnd()Z -/
def f27_passLineEnd (N h b : Nat) (a : xA) : Option (Int32 × xA) :=
  xb2 (f28_byteAt N h b (a 3 6) a) (fun r4 a5 => if r4 = (-1) then (j27_30 N h b a5) else (if r4 = 10 then (j27_30 N h b a5) else (xb2 (f26_failed N h b 1 (a5 3 6) a5) (fun r16 a17 => xg (r16 = 0 ∨ r16 = 1) (some (r16, a17))))))

def j24_63 (N h b : Nat) (a : xA) : Option (Int32 × xA) :=
  xb2 (f27_passLineEnd N h b a) (fun r6 a7 => xg (r6 = 0 ∨ r6 = 1) (some (r6, a7)))

def l24_0 (N h b : Nat) : Nat → xA → Option (Nat × xA)
  | 0, _ => none
  | n + 1, a => if (a 3 5) ≤ (a 3 6) then (some (1, a)) else (xg (¬ (a 3 4) = -1) (xg (xk ((a 3 4).toNatClampNeg) = 100) (xg (¬ (a 3 6 < 0 ∨ xl h b ((a 3 4).toNatClampNeg) ≤ (a 3 6).toNatClampNeg)) (if (a ((a 3 4).toNatClampNeg) ((a 3 6).toNatClampNeg)) = 10 then (some (1, a)) else (xb2 (f25_isText N h b (a ((a 3 4).toNatClampNeg) ((a 3 6).toNatClampNeg)) a) (fun r38 a39 => if r38 = 0 then (some (0, a39)) else (xw (xU a39 3 6 ((a39 3 6) + 1)) (fun a41 => l24_0 N h b n a41))))))))

/-- TerminalHouse$Reader.passComment()Z -/
def f24_passComment (N h b : Nat) (a : xA) : Option (Int32 × xA) :=
  if (a 3 5) ≤ (a 3 6) then (j24_63 N h b a) else (xg (¬ (a 3 4) = -1) (xg (xk ((a 3 4).toNatClampNeg) = 100) (xg (¬ (a 3 6 < 0 ∨ xl h b ((a 3 4).toNatClampNeg) ≤ (a 3 6).toNatClampNeg)) (if (a ((a 3 4).toNatClampNeg) ((a 3 6).toNatClampNeg)) = 10 then (j24_63 N h b a) else (xb2 (f25_isText N h b (a ((a 3 4).toNatClampNeg) ((a 3 6).toNatClampNeg)) a) (fun r17 a18 => if r17 = 0 then (xb2 (f26_failed N h b 1 (a18 3 6) a18) (fun r23 a24 => xg (r23 = 0 ∨ r23 = 1) (some (r23, a24)))) else (xw (xU a18 3 6 ((a18 3 6) + 1)) (fun a26 => (l24_0 N h b N a26).bind (fun z44 => if z44.1 = 0 then (xb2 (f26_failed N h b 1 (z44.2 3 6) z44.2) (fun r49 a50 => xg (r49 = 0 ∨ r49 = 1) (some (r49, a50)))) else (j24_63 N h b z44.2))))))))))

def j29_12 (N h b : Nat) (a : xA) : Option (Int32 × xA) :=
  some (1, a)

/-- TerminalHouse.isBlank(I)Z -/
def f29_isBlank (N h b : Nat) (x0 : Int32) (a : xA) : Option (Int32 × xA) :=
  if x0 = 9 then (j29_12 N h b a) else (xg ((if x0 = 32 then (1 : Int32) else (0 : Int32)) = 0 ∨ (if x0 = 32 then (1 : Int32) else (0 : Int32)) = 1) (some ((if x0 = 32 then (1 : Int32) else (0 : Int32)), a)))

def l31_0 (N h b : Nat) : Nat → xA → Option (Nat × xA)
  | 0, _ => none
  | n + 1, a => if (a 3 5) ≤ (a 3 6) then (some (0, a)) else (xg (¬ (a 3 4) = -1) (xg (xk ((a 3 4).toNatClampNeg) = 100) (xg (¬ (a 3 6 < 0 ∨ xl h b ((a 3 4).toNatClampNeg) ≤ (a 3 6).toNatClampNeg)) (xb2 (f29_isBlank N h b (a ((a 3 4).toNatClampNeg) ((a 3 6).toNatClampNeg)) a) (fun r24 a25 => if r24 = 0 then (some (0, a25)) else (xw (xU a25 3 6 ((a25 3 6) + 1)) (fun a27 => l31_0 N h b n a27)))))))

/-- TerminalHouse$Reader.passBlanks()V -/
def f31_passBlanks (N h b : Nat) (a : xA) : Option (xA) :=
  if (a 3 5) ≤ (a 3 6) then (some a) else (xg (¬ (a 3 4) = -1) (xg (xk ((a 3 4).toNatClampNeg) = 100) (xg (¬ (a 3 6 < 0 ∨ xl h b ((a 3 4).toNatClampNeg) ≤ (a 3 6).toNatClampNeg)) (xb2 (f29_isBlank N h b (a ((a 3 4).toNatClampNeg) ((a 3 6).toNatClampNeg)) a) (fun r9 a10 => if r9 = 0 then (some a10) else (xw (xU a10 3 6 ((a10 3 6) + 1)) (fun a13 => (l31_0 N h b N a13).bind (fun z30 => some z30.2))))))))

/-- TerminalHouse.isLetter(I)Z -/
def f34_isLetter (N h b : Nat) (x0 : Int32) (a : xA) : Option (Int32 × xA) :=
  if x0 < 97 then (some (0, a)) else (xg ((if 122 < x0 then (0 : Int32) else (1 : Int32)) = 0 ∨ (if 122 < x0 then (0 : Int32) else (1 : Int32)) = 1) (some ((if 122 < x0 then (0 : Int32) else (1 : Int32)), a)))

/-- TerminalHouse.isDigit(I)Z -/
def f35_isDigit (N h b : Nat) (x0 : Int32) (a : xA) : Option (Int32 × xA) :=
  if x0 < 48 then (some (0, a)) else (xg ((if 57 < x0 then (0 : Int32) else (1 : Int32)) = 0 ∨ (if 57 < x0 then (0 : Int32) else (1 : Int32)) = 1) (some ((if 57 < x0 then (0 : Int32) else (1 : Int32)), a)))

def j33_65 (N h b : Nat) (rc : xA → Option (Nat × xA)) (a : xA) : Option (Nat × xA) :=
  xw (xU a 3 6 ((a 3 6) + 1)) (fun a39 => rc a39)

def l33_24 (N h b : Nat) : Nat → xA → Option (Nat × xA)
  | 0, _ => none
  | n + 1, a => if (a 3 5) ≤ (a 3 6) then (some (0, a)) else (xg (¬ (a 3 4) = -1) (xg (xk ((a 3 4).toNatClampNeg) = 100) (xg (¬ (a 3 6 < 0 ∨ xl h b ((a 3 4).toNatClampNeg) ≤ (a 3 6).toNatClampNeg)) (xb2 (f34_isLetter N h b (a ((a 3 4).toNatClampNeg) ((a 3 6).toNatClampNeg)) a) (fun r26 a27 => if r26 = 0 then (xg (¬ (a27 3 4) = -1) (xg (xk ((a27 3 4).toNatClampNeg) = 100) (xg (¬ (a27 3 6 < 0 ∨ xl h b ((a27 3 4).toNatClampNeg) ≤ (a27 3 6).toNatClampNeg)) (xb2 (f35_isDigit N h b (a27 ((a27 3 4).toNatClampNeg) ((a27 3 6).toNatClampNeg)) a27) (fun r36 a37 => if r36 = 0 then (some (0, a37)) else (j33_65 N h b (l33_24 N h b n) a37)))))) else (j33_65 N h b (l33_24 N h b n) a27))))))

def j33_104 (N h b : Nat) (a : xA) : Option (Int32 × xA) :=
  some (1, a)

def j33_78 (N h b : Nat) (a : xA) : Option (Int32 × xA) :=
  xb2 (f28_byteAt N h b (a 3 6) a) (fun r47 a48 => xb2 (f25_isText N h b r47 a48) (fun r52 a53 => if r52 = 0 then (xb2 (f26_failed N h b 1 (a53 3 6) a53) (fun r59 a60 => xg ((if r59 = 0 then (0 : Int32) else (1 : Int32)) = 0 ∨ (if r59 = 0 then (0 : Int32) else (1 : Int32)) = 1) (some ((if r59 = 0 then (0 : Int32) else (1 : Int32)), a60)))) else (j33_104 N h b a53)))

/-- TerminalHouse$Reader.passAbility()Z -/
def f33_passAbility (N h b : Nat) (a : xA) : Option (Int32 × xA) :=
  xb2 (f28_byteAt N h b (a 3 6) a) (fun r4 a5 => xb2 (f34_isLetter N h b r4 a5) (fun r9 a10 => if r9 = 0 then (xb2 (f26_failed N h b 1 (a10 3 6) a10) (fun r15 a16 => xg (r15 = 0 ∨ r15 = 1) (some (r15, a16)))) else ((l33_24 N h b N a10).bind (fun z42 => j33_78 N h b z42.2))))

/-- TerminalHouse$Reader.isUse(II)Z -/
def f36_isUse (N h b : Nat) (x0 : Int32) (x1 : Int32) (a : xA) : Option (Int32 × xA) :=
  if x1 = 3 then (xg (¬ (a 3 4) = -1) (xg (xk ((a 3 4).toNatClampNeg) = 100) (xg (¬ (x0 < 0 ∨ xl h b ((a 3 4).toNatClampNeg) ≤ x0.toNatClampNeg)) (if (a ((a 3 4).toNatClampNeg) (x0.toNatClampNeg)) = 117 then (xg (¬ (x0 + 1 < 0 ∨ xl h b ((a 3 4).toNatClampNeg) ≤ (x0 + 1).toNatClampNeg)) (if (a ((a 3 4).toNatClampNeg) ((x0 + 1).toNatClampNeg)) = 115 then (xg (¬ (x0 + 2 < 0 ∨ xl h b ((a 3 4).toNatClampNeg) ≤ (x0 + 2).toNatClampNeg)) (xg ((if (a ((a 3 4).toNatClampNeg) ((x0 + 2).toNatClampNeg)) = 101 then (1 : Int32) else (0 : Int32)) = 0 ∨ (if (a ((a 3 4).toNatClampNeg) ((x0 + 2).toNatClampNeg)) = 101 then (1 : Int32) else (0 : Int32)) = 1) (some ((if (a ((a 3 4).toNatClampNeg) ((x0 + 2).toNatClampNeg)) = 101 then (1 : Int32) else (0 : Int32)), a)))) else (some (0, a)))) else (some (0, a)))))) else (some (0, a))

def j39_26 (N h b : Nat) (a : xA) : Option (Int32 × xA) :=
  some (1, a)

/-- TerminalHouse$Reader.isNameByte(I)Z -/
def f39_isNameByte (N h b : Nat) (x0 : Int32) (a : xA) : Option (Int32 × xA) :=
  xb2 (f34_isLetter N h b x0 a) (fun r4 a5 => if r4 = 0 then (xb2 (f35_isDigit N h b x0 a5) (fun r11 a12 => if r11 = 0 then (if x0 = 45 then (j39_26 N h b a12) else (xg ((if x0 = 43 then (1 : Int32) else (0 : Int32)) = 0 ∨ (if x0 = 43 then (1 : Int32) else (0 : Int32)) = 1) (some ((if x0 = 43 then (1 : Int32) else (0 : Int32)), a12)))) else (j39_26 N h b a12))) else (j39_26 N h b a5))

def l38_5 (N h b : Nat) (w1 : Int32) : Nat → xA → Option (Nat × xA)
  | 0, _ => none
  | n + 1, a => if (a 3 5) ≤ (a 3 6) then (some (0, a)) else (xg (¬ (a 3 4) = -1) (xg (xk ((a 3 4).toNatClampNeg) = 100) (xg (¬ (a 3 6 < 0 ∨ xl h b ((a 3 4).toNatClampNeg) ≤ (a 3 6).toNatClampNeg)) (xb2 (f39_isNameByte N h b (a ((a 3 4).toNatClampNeg) ((a 3 6).toNatClampNeg)) a) (fun r9 a10 => if r9 = 0 then (some (0, a10)) else (xw (xU a10 3 6 ((a10 3 6) + 1)) (fun a12 => l38_5 N h b w1 n a12)))))))

def j38_66 (N h b : Nat) (a : xA) : Option (Int32 × xA) :=
  xb2 (f26_failed N h b 1 (a 3 6) a) (fun r22 a23 => xg (r22 = 0 ∨ r22 = 1) (some (r22, a23)))

def j38_44 (N h b : Nat) (q1 : Int32) (a : xA) : Option (Int32 × xA) :=
  if (a 3 6) = q1 then (j38_66 N h b a) else (xb2 (f28_byteAt N h b (a 3 6) a) (fun r28 a29 => xb2 (f25_isText N h b r28 a29) (fun r33 a34 => if r33 = 0 then (j38_66 N h b a34) else (some (1, a34)))))

/-- TerminalHouse$Reader.passName()Z -/
def f38_passName (N h b : Nat) (a : xA) : Option (Int32 × xA) :=
  (l38_5 N h b (a 3 6) N a).bind (fun z15 => j38_44 N h b (a 3 6) z15.2)

def l42_9 (N h b : Nat) (w0 : Nat) (w1 : Int32) (w2 : Nat) (w3 : Int32) (w4 : Int32) : Nat → Int32 → xA → Option (Nat × xA)
  | 0, _, _ => none
  | n + 1, v5, a => xg (¬ (w1 < 0 ∨ xl h b (w0 + 2) ≤ w1.toNatClampNeg)) (if (a (w0 + 2) (w1.toNatClampNeg)) ≤ v5 then (some (1, a)) else (xg (¬ (w4 + v5 < 0 ∨ xl h b (w0 + 1) ≤ (w4 + v5).toNatClampNeg)) (xg (¬ (w3 + v5 < 0 ∨ xl h b w2 ≤ (w3 + v5).toNatClampNeg)) (if (a (w0 + 1) ((w4 + v5).toNatClampNeg)) = (a w2 ((w3 + v5).toNatClampNeg)) then (l42_9 N h b w0 w1 w2 w3 w4 n (v5 + 1) a) else (some (0, a))))))

/-- TerminalHouse$Entry.sameName(I[II)Z -/
def f42_sameName (N h b : Nat) (o : Nat) (x0 : Int32) (x1 : Nat) (x2 : Int32) (a : xA) : Option (Int32 × xA) :=
  xg (xk o = 3) (xg (xk x1 = 100) ((l42_9 N h b o x0 x1 x2 (x0 * 12) N 0 a).bind (fun z8 => if z8.1 = 0 then (some (0, z8.2)) else (some (1, z8.2)))))

def j41_36 (N h b : Nat) (rc : Int32 → xA → Option (Nat × xA)) (w0 : Nat) (w1 : Nat) (w2 : Int32) (w3 : Int32) (q4 : Int32) (a : xA) : Option (Nat × xA) :=
  rc (q4 + 1) a

def l41_3 (N h b : Nat) (w0 : Nat) (w1 : Nat) (w2 : Int32) (w3 : Int32) : Nat → Int32 → xA → Option (Nat × xA)
  | 0, _, _ => none
  | n + 1, v4, a => if (a w0 2) ≤ v4 then (some (1, a)) else (xg (¬ (v4 < 0 ∨ xl h b (w0 + 2) ≤ v4.toNatClampNeg)) (if (a (w0 + 2) (v4.toNatClampNeg)) = w3 then (xb2 (f42_sameName N h b w0 v4 w1 w2 a) (fun r10 a11 => if r10 = 0 then (j41_36 N h b (l41_3 N h b w0 w1 w2 w3 n) w0 w1 w2 w3 v4 a11) else (some (0, a11)))) else (j41_36 N h b (l41_3 N h b w0 w1 w2 w3 n) w0 w1 w2 w3 v4 a)))

/-- TerminalHouse$Entry.isNamed([III)Z -/
def f41_isNamed (N h b : Nat) (o : Nat) (x0 : Nat) (x1 : Int32) (x2 : Int32) (a : xA) : Option (Int32 × xA) :=
  xg (xk o = 3) (xg (xk x0 = 100) ((l41_3 N h b o x0 x1 x2 N 0 a).bind (fun z13 => if z13.1 = 0 then (some (1, z13.2)) else (some (0, z13.2)))))

def l40_3 (N h b : Nat) (w1 : Nat) (w2 : Int32) (w3 : Int32) (w4 : Int32) : Nat → Int32 → xA → Option (Nat × Int32 × xA)
  | 0, _, _ => none
  | n + 1, v5, a => if w4 ≤ v5 then (some (1, v5, a)) else (if 12 ≤ v5 then (some (1, v5, a)) else (xg (¬ (v5 < 0 ∨ 12 ≤ v5.toNatClampNeg)) (xb2 (f41_isNamed N h b (9 + 7 * v5.toNatClampNeg) w1 w2 w3 a) (fun r10 a11 => if r10 = 0 then (l40_3 N h b w1 w2 w3 w4 n (v5 + 1) a11) else (some (0, v5, a11))))))

/-- TerminalHouse$Reader.indexNamed([IIII)I -/
def f40_indexNamed (N h b : Nat) (x0 : Nat) (x1 : Int32) (x2 : Int32) (x3 : Int32) (a : xA) : Option (Int32 × xA) :=
  xg (xk x0 = 100) ((l40_3 N h b x0 x1 x2 x3 N 0 a).bind (fun z13 => if z13.1 = 0 then (some (z13.2.1, z13.2.2)) else (some ((-1), z13.2.2))))

/-- TerminalHouse$Reader.readUse()Z -/
def f37_readUse (N h b : Nat) (a : xA) : Option (Int32 × xA) :=
  xb2 (f38_passName N h b a) (fun r4 a5 => if r4 = 0 then (some (0, a5)) else (if ((a5 3 6) - (a 3 6)) ≤ 12 then (if (a5 3 11) < 4 then (xg (¬ (a5 3 4) = -1) (xb2 (f40_indexNamed N h b ((a5 3 4).toNatClampNeg) (a 3 6) ((a5 3 6) - (a 3 6)) (a5 3 7) a5) (fun r13 a14 => if r13 = (-1) then (xb2 (f26_failed N h b 9 (a 3 6) a14) (fun r19 a20 => xg (r19 = 0 ∨ r19 = 1) (some (r19, a20)))) else (xg (¬ (a14 3 11 < 0 ∨ 4 ≤ (a14 3 11).toNatClampNeg)) (xw (xU a14 7 ((a14 3 11).toNatClampNeg) r13) (fun a22 => xw (xU a22 3 11 ((a22 3 11) + 1)) (fun a26 => some (1, a26)))))))) else (xb2 (f26_failed N h b 11 (a 3 6) a5) (fun r32 a33 => xg (r32 = 0 ∨ r32 = 1) (some (r32, a33))))) else (xb2 (f26_failed N h b 2 (a 3 6) a5) (fun r38 a39 => xg (r38 = 0 ∨ r38 = 1) (some (r38, a39))))))

/-- TerminalHouse$Reader.passComma()Z -/
def f43_passComma (N h b : Nat) (a : xA) : Option (Int32 × xA) :=
  xb2 (f28_byteAt N h b (a 3 6) a) (fun r4 a5 => if r4 = 44 then (xw (xU a5 3 6 ((a5 3 6) + 1)) (fun a7 => some (1, a7))) else (xb2 (f26_failed N h b 1 (a5 3 6) a5) (fun r13 a14 => xg (r13 = 0 ∨ r13 = 1) (some (r13, a14)))))

def j45_71 (N h b : Nat) (rc : Int32 → xA → Option (Nat × xA)) (w1 : Nat) (w2 : Int32) (w3 : Int32) (w4 : Int32) (q5 : Int32) (t0 : Int32) (a : xA) : Option (Nat × xA) :=
  if t0 = 0 then (some (0, a)) else (rc (q5 + 1) a)

def j45_55 (N h b : Nat) (rc : Int32 → xA → Option (Nat × xA)) (w1 : Nat) (w2 : Int32) (w3 : Int32) (w4 : Int32) (q5 : Int32) (a : xA) : Option (Nat × xA) :=
  j45_71 N h b (rc) w1 w2 w3 w4 q5 0 a

def l45_8 (N h b : Nat) (w1 : Nat) (w2 : Int32) (w3 : Int32) (w4 : Int32) : Nat → Int32 → xA → Option (Nat × xA)
  | 0, _, _ => none
  | n + 1, v5, a => if 5 ≤ v5 then (some (1, a)) else (xg (¬ w4 + v5 < 0) (xbc (am_cs 1 ((w4 + v5).toNatClampNeg)) (fun r4 => if w3 ≤ v5 then (if (if r4 = 32 then (1 : Int32) else (0 : Int32)) = 0 then (some (0, a)) else (l45_8 N h b w1 w2 w3 w4 n (v5 + 1) a)) else (if r4 = 32 then (j45_55 N h b (l45_8 N h b w1 w2 w3 w4 n) w1 w2 w3 w4 v5 a) else (xg (¬ (w2 + v5 < 0 ∨ xl h b w1 ≤ (w2 + v5).toNatClampNeg)) (if (if (a w1 ((w2 + v5).toNatClampNeg)) = r4 then (1 : Int32) else (0 : Int32)) = 0 then (some (0, a)) else (l45_8 N h b w1 w2 w3 w4 n (v5 + 1) a)))))))

/-- TerminalHouse.isAbility(I[III)Z -/
def f45_isAbility (N h b : Nat) (x0 : Int32) (x1 : Nat) (x2 : Int32) (x3 : Int32) (a : xA) : Option (Int32 × xA) :=
  xg (xk x1 = 100) ((l45_8 N h b x1 x2 x3 (x0 * 5) N 0 a).bind (fun z17 => if z17.1 = 0 then (some (0, z17.2)) else (some (1, z17.2))))

def l44_26 (N h b : Nat) (w0 : Nat) (w1 : Int32) (w2 : Int32) : Nat → Int32 → xA → Option (Nat × Int32 × xA)
  | 0, _, _ => none
  | n + 1, v3, a => if 39 ≤ v3 then (some (1, v3, a)) else (xb2 (f45_isAbility N h b v3 w0 w1 w2 a) (fun r16 a17 => if r16 = 0 then (l44_26 N h b w0 w1 w2 n (v3 + 1) a17) else (some (0, v3, a17))))

/-- TerminalHouse.abilityNamed([III)I -/
def f44_abilityNamed (N h b : Nat) (x0 : Nat) (x1 : Int32) (x2 : Int32) (a : xA) : Option (Int32 × xA) :=
  xg (xk x0 = 100) (if x2 < 1 then (some ((-1), a)) else (if 5 < x2 then (some ((-1), a)) else (if x1 < 0 then (some ((-1), a)) else (if x1 ≤ ((Int32.ofNat (xl h b x0)) - x2) then ((l44_26 N h b x0 x1 x2 N 0 a).bind (fun z19 => if z19.1 = 0 then (some (z19.2.1, z19.2.2)) else (some ((-1), z19.2.2)))) else (some ((-1), a))))))

/-- TerminalHouse$Reader.signOf(I)I -/
def f46_signOf (N h b : Nat) (x0 : Int32) (a : xA) : Option (Int32 × xA) :=
  if 3 ≤ x0 then (some ((if 6 ≤ x0 then (61 : Int32) else (35 : Int32)), a)) else (some (44, a))

/-- TerminalHouse$Entry.tellNumber(II)V -/
def f48_tellNumber (N h b : Nat) (o : Nat) (x0 : Int32) (x1 : Int32) (a : xA) : Option (xA) :=
  xg (xk o = 3) (xg (¬ (x0 < 0 ∨ xl h b (o + 3) ≤ x0.toNatClampNeg)) (xw (xU a (o + 3) (x0.toNatClampNeg) 1) (fun a2 => xg (¬ (x0 < 0 ∨ xl h b (o + 4) ≤ x0.toNatClampNeg)) (xw (xU a2 (o + 4) (x0.toNatClampNeg) x1) (fun a6 => some a6)))))

def l47_7 (N h b : Nat) (w1 : Int32) (w2 : Int32) : Nat → Int32 → xA → Option (Nat × Int32 × xA)
  | 0, _, _ => none
  | n + 1, v3, a => if (a 3 5) ≤ (a 3 6) then (some (0, v3, a)) else (xg (¬ (a 3 4) = -1) (xg (xk ((a 3 4).toNatClampNeg) = 100) (xg (¬ (a 3 6 < 0 ∨ xl h b ((a 3 4).toNatClampNeg) ≤ (a 3 6).toNatClampNeg)) (xb2 (f35_isDigit N h b (a ((a 3 4).toNatClampNeg) ((a 3 6).toNatClampNeg)) a) (fun r9 a10 => if r9 = 0 then (some (0, v3, a10)) else (xg (¬ (a10 3 4) = -1) (xg (xk ((a10 3 4).toNatClampNeg) = 100) (xg (¬ (a10 3 6 < 0 ∨ xl h b ((a10 3 4).toNatClampNeg) ≤ (a10 3 6).toNatClampNeg)) (xw (xU a10 3 6 ((a10 3 6) + 1)) (fun a15 => l47_7 N h b w1 w2 n (xmin 32768 (((v3 * 10) + (a10 ((a10 3 4).toNatClampNeg) ((a10 3 6).toNatClampNeg))) - 48)) a15))))))))))

def j47_91 (N h b : Nat) (a : xA) : Option (Int32 × xA) :=
  xb2 (f26_failed N h b 1 (a 3 6) a) (fun r25 a26 => xg (r25 = 0 ∨ r25 = 1) (some (r25, a26)))

def j47_118 (N h b : Nat) (q2 : Int32) (a : xA) : Option (Int32 × xA) :=
  xb2 (f26_failed N h b 2 q2 a) (fun r45 a46 => xg (r45 = 0 ∨ r45 = 1) (some (r45, a46)))

def j47_69 (N h b : Nat) (q1 : Int32) (q2 : Int32) (q3 : Int32) (a : xA) : Option (Int32 × xA) :=
  if (a 3 6) = q2 then (j47_91 N h b a) else (xb2 (f28_byteAt N h b (a 3 6) a) (fun r31 a32 => xb2 (f25_isText N h b r31 a32) (fun r36 a37 => if r36 = 0 then (j47_91 N h b a37) else (if 5 < ((a37 3 6) - q2) then (j47_118 N h b q2 a37) else (if q3 ≤ 32767 then (xg (¬ (a37 3 8) = -1) (xg (xk ((a37 3 8).toNatClampNeg) = 3) (xb1 (f48_tellNumber N h b ((a37 3 8).toNatClampNeg) q1 q3 a37) (fun a54 => some (1, a54))))) else (j47_118 N h b q2 a37))))))

/-- TerminalHouse$Reader.readNumber(I)Z -/
def f47_readNumber (N h b : Nat) (x0 : Int32) (a : xA) : Option (Int32 × xA) :=
  (l47_7 N h b x0 (a 3 6) N 0 a).bind (fun z18 => j47_69 N h b x0 (a 3 6) z18.2.1 z18.2.2)

def j52_19 (N h b : Nat) (a : xA) : Option (xA) :=
  xw (xU a 3 13 ((a 3 13) + 1)) (fun a3 => some a3)

/-- TerminalHouse$Reader.make(I)V -/
def f52_make (N h b : Nat) (x0 : Int32) (a : xA) : Option (xA) :=
  if 40 ≤ (a 3 13) then (j52_19 N h b a) else (xg (¬ (a 3 13 < 0 ∨ 40 ≤ (a 3 13).toNatClampNeg)) (xw (xU a 8 ((a 3 13).toNatClampNeg) x0) (fun a6 => j52_19 N h b a6)))

def l51_4 (N h b : Nat) : Nat → Int32 → Int32 → xA → Option (Nat × Int32 × Int32 × xA)
  | 0, _, _, _ => none
  | n + 1, v1, v2, a => if 3 < v2 then (some (2, v1, v2, a)) else (xb2 (f28_byteAt N h b ((a 3 6) + v2) a) (fun r5 a6 => xb2 (f25_isText N h b r5 a6) (fun r10 a11 => if r10 = 0 then (some (0, v1, v2, a11)) else (if r5 < 48 then (some (1, v1, v2, a11)) else (if r5 ≤ 55 then (l51_4 N h b n (((v1 * 8) + r5) - 48) (v2 + 1) a11) else (some (1, v1, v2, a11)))))))

def j51_51 (N h b : Nat) (a : xA) : Option (Int32 × xA) :=
  xb2 (f26_failed N h b 10 (a 3 6) a) (fun r28 a29 => xg (r28 = 0 ∨ r28 = 1) (some (r28, a29)))

def j51_90 (N h b : Nat) (a : xA) : Option (Int32 × xA) :=
  xb2 (f26_failed N h b 10 (a 3 6) a) (fun r37 a38 => xg (r37 = 0 ∨ r37 = 1) (some (r37, a38)))

/-- TerminalHouse$Reader.readOctal()Z -/
def f51_readOctal (N h b : Nat) (a : xA) : Option (Int32 × xA) :=
  (l51_4 N h b N 0 1 a).bind (fun z17 => if z17.1 = 0 then (xb2 (f26_failed N h b 1 ((z17.2.2.2 3 6) + z17.2.2.1) z17.2.2.2) (fun r22 a23 => xg (r22 = 0 ∨ r22 = 1) (some (r22, a23)))) else (if z17.1 = 1 then (j51_51 N h b z17.2.2.2) else (if z17.2.1 < 1 then (j51_90 N h b z17.2.2.2) else (if z17.2.1 ≤ 255 then (xb1 (f52_make N h b z17.2.1 z17.2.2.2) (fun a44 => xw (xU a44 3 6 ((a44 3 6) + 4)) (fun a45 => some (1, a45)))) else (j51_90 N h b z17.2.2.2)))))

/-- TerminalHouse$Reader.escaped(I)I -/
def f53_escaped (N h b : Nat) (x0 : Int32) (a : xA) : Option (Int32 × xA) :=
  if x0 = 44 ∨ x0 = 58 ∨ x0 = 92 ∨ x0 = 94 then (some (x0, a)) else (if x0 = 69 then (some (27, a)) else (if x0 = 98 then (some (8, a)) else (if x0 = 102 then (some (12, a)) else (if x0 = 110 then (some (10, a)) else (if x0 = 114 then (some (13, a)) else (if x0 = 115 then (some (32, a)) else (if x0 = 116 then (some (9, a)) else (some ((-1), a)))))))))

def j50_47 (N h b : Nat) (q1 : Int32) (a : xA) : Option (Int32 × xA) :=
  xb2 (f53_escaped N h b q1 a) (fun r24 a25 => if r24 = (-1) then (xb2 (f26_failed N h b 10 (a25 3 6) a25) (fun r30 a31 => xg (r30 = 0 ∨ r30 = 1) (some (r30, a31)))) else (xb1 (f52_make N h b r24 a25) (fun a36 => xw (xU a36 3 6 ((a36 3 6) + 2)) (fun a37 => some (1, a37)))))

/-- TerminalHouse$Reader.readBackslash()Z -/
def f50_readBackslash (N h b : Nat) (a : xA) : Option (Int32 × xA) :=
  xb2 (f28_byteAt N h b ((a 3 6) + 1) a) (fun r4 a5 => xb2 (f25_isText N h b r4 a5) (fun r9 a10 => if r9 = 0 then (xb2 (f26_failed N h b 1 ((a10 3 6) + 1) a10) (fun r15 a16 => xg (r15 = 0 ∨ r15 = 1) (some (r15, a16)))) else (if r4 < 48 then (j50_47 N h b r4 a10) else (if 55 < r4 then (j50_47 N h b r4 a10) else (xb2 (f51_readOctal N h b a10) (fun r44 a45 => xg (r44 = 0 ∨ r44 = 1) (some (r44, a45))))))))

def j54_59 (N h b : Nat) (q1 : Int32) (a : xA) : Option (Int32 × xA) :=
  xb1 (f52_make N h b (if q1 = 63 then (127 : Int32) else (q1 - 64)) a) (fun a25 => xw (xU a25 3 6 ((a25 3 6) + 2)) (fun a26 => some (1, a26)))

def j54_48 (N h b : Nat) (a : xA) : Option (Int32 × xA) :=
  xb2 (f26_failed N h b 10 (a 3 6) a) (fun r36 a37 => xg (r36 = 0 ∨ r36 = 1) (some (r36, a37)))

/-- TerminalHouse$Reader.readCaret()Z -/
def f54_readCaret (N h b : Nat) (a : xA) : Option (Int32 × xA) :=
  xb2 (f28_byteAt N h b ((a 3 6) + 1) a) (fun r4 a5 => xb2 (f25_isText N h b r4 a5) (fun r9 a10 => if r9 = 0 then (xb2 (f26_failed N h b 1 ((a10 3 6) + 1) a10) (fun r15 a16 => xg (r15 = 0 ∨ r15 = 1) (some (r15, a16)))) else (if r4 = 63 then (j54_59 N h b r4 a10) else (if r4 < 64 then (j54_48 N h b a10) else (if r4 ≤ 95 then (j54_59 N h b r4 a10) else (j54_48 N h b a10))))))

def l56_19 (N h b : Nat) : Nat → Int32 → xA → Option (Nat × Int32 × xA)
  | 0, _, _ => none
  | n + 1, v1, a => if 3 ≤ v1 then (some (0, v1, a)) else (xb2 (f28_byteAt N h b (((a 3 6) + 2) + v1) a) (fun r12 a13 => xb2 (f35_isDigit N h b r12 a13) (fun r17 a18 => if r17 = 0 then (some (0, v1, a18)) else (l56_19 N h b n (v1 + 1) a18))))

def j56_48 (N h b : Nat) (q1 : Int32) (a : xA) : Option (Int32 × xA) :=
  if q1 ≤ 0 then (some (0, a)) else (xb2 (f28_byteAt N h b (((a 3 6) + 2) + q1) a) (fun r27 a28 => some ((if r27 = 62 then (q1 + 3) else (0 : Int32)), a28)))

/-- TerminalHouse$Reader.delayLength()I -/
def f56_delayLength (N h b : Nat) (a : xA) : Option (Int32 × xA) :=
  xb2 (f28_byteAt N h b ((a 3 6) + 1) a) (fun r4 a5 => if r4 = 60 then ((l56_19 N h b N 0 a5).bind (fun z20 => j56_48 N h b z20.2.1 z20.2.2)) else (some (0, a5)))

def j55_24 (N h b : Nat) (q2 : Int32) (a : xA) : Option (xA) :=
  xw (xU a 3 6 ((a 3 6) + (xmax 1 q2))) (fun a14 => some a14)

def j55_14 (N h b : Nat) (q1 : Int32) (t0 : Int32) (a : xA) : Option (xA) :=
  if t0 = 0 then (xb1 (f52_make N h b q1 a) (fun a13 => j55_24 N h b t0 a13)) else (j55_24 N h b t0 a)

/-- TerminalHouse$Reader.readPlain(I)V -/
def f55_readPlain (N h b : Nat) (x0 : Int32) (a : xA) : Option (xA) :=
  if x0 = 36 then (xb2 (f56_delayLength N h b a) (fun r6 a7 => j55_14 N h b x0 r6 a7)) else (j55_14 N h b x0 0 a)

def j58_499 (N h b : Nat) (q5 : Int32) (a : xA) : Option (Int32 × xA) :=
  some ((if q5 = 100 then (4 : Int32) else (0 : Int32)), a)

def l58_540 (N h b : Nat) (w0 : Nat) (w1 : Int32) (w2 : Int32) : Nat → Int32 → Int32 → xA → Option (Nat × Int32 × Int32 × xA)
  | 0, _, _, _ => none
  | n + 1, v6, v7, a => if w2 ≤ v7 then (some (0, v6, v7, a)) else (if ((w1 + 2) + 5) ≤ v7 then (some (0, v6, v7, a)) else (xg (¬ (v7 < 0 ∨ xl h b w0 ≤ v7.toNatClampNeg)) (if (a w0 (v7.toNatClampNeg)) < 48 then (some (0, v6, v7, a)) else (if 57 < (a w0 (v7.toNatClampNeg)) then (some (0, v6, v7, a)) else (l58_540 N h b w0 w1 w2 n (((v6 * 10) + (a w0 (v7.toNatClampNeg))) - 48) (v7 + 1) a)))))

def j58_631 (N h b : Nat) (q1 : Int32) (q7 : Int32) (t0 : Int32) (a : xA) : Option (Int32 × xA) :=
  some ((if t0 = 0 then (0 : Int32) else ((q7 + 1) - q1)), a)

def j58_630 (N h b : Nat) (q1 : Int32) (q7 : Int32) (a : xA) : Option (Int32 × xA) :=
  j58_631 N h b q1 q7 0 a

def j58_595 (N h b : Nat) (q0 : Nat) (q1 : Int32) (q2 : Int32) (q6 : Int32) (q7 : Int32) (a : xA) : Option (Int32 × xA) :=
  if q7 ≤ (q1 + 2) then (j58_630 N h b q1 q7 a) else (if 32767 < q6 then (j58_630 N h b q1 q7 a) else (if q2 ≤ q7 then (j58_630 N h b q1 q7 a) else (xg (¬ (q7 < 0 ∨ xl h b q0 ≤ q7.toNatClampNeg)) (some ((if (if (a q0 (q7.toNatClampNeg)) = 125 then (1 : Int32) else (0 : Int32)) = 0 then (0 : Int32) else ((q7 + 1) - q1)), a)))))

def j58_56 (N h b : Nat) (q0 : Nat) (q1 : Int32) (q2 : Int32) (q4 : Int32) (t0 : Int32) (a : xA) : Option (Int32 × xA) :=
  xg (¬ (q1 + 1 < 0 ∨ xl h b q0 ≤ (q1 + 1).toNatClampNeg)) (if (a q0 ((q1 + 1).toNatClampNeg)) = 33 ∨ (a q0 ((q1 + 1).toNatClampNeg)) = 37 ∨ (a q0 ((q1 + 1).toNatClampNeg)) = 38 ∨ (a q0 ((q1 + 1).toNatClampNeg)) = 42 ∨ (a q0 ((q1 + 1).toNatClampNeg)) = 43 ∨ (a q0 ((q1 + 1).toNatClampNeg)) = 45 ∨ (a q0 ((q1 + 1).toNatClampNeg)) = 47 ∨ (a q0 ((q1 + 1).toNatClampNeg)) = 59 ∨ (a q0 ((q1 + 1).toNatClampNeg)) = 60 ∨ (a q0 ((q1 + 1).toNatClampNeg)) = 61 ∨ (a q0 ((q1 + 1).toNatClampNeg)) = 62 ∨ (a q0 ((q1 + 1).toNatClampNeg)) = 63 ∨ (a q0 ((q1 + 1).toNatClampNeg)) = 65 ∨ (a q0 ((q1 + 1).toNatClampNeg)) = 79 ∨ (a q0 ((q1 + 1).toNatClampNeg)) = 94 ∨ (a q0 ((q1 + 1).toNatClampNeg)) = 99 ∨ (a q0 ((q1 + 1).toNatClampNeg)) = 100 ∨ (a q0 ((q1 + 1).toNatClampNeg)) = 101 ∨ (a q0 ((q1 + 1).toNatClampNeg)) = 105 ∨ (a q0 ((q1 + 1).toNatClampNeg)) = 109 ∨ (a q0 ((q1 + 1).toNatClampNeg)) = 116 ∨ (a q0 ((q1 + 1).toNatClampNeg)) = 124 ∨ (a q0 ((q1 + 1).toNatClampNeg)) = 126 then (some (2, a)) else (if (a q0 ((q1 + 1).toNatClampNeg)) = 39 then (some ((if t0 = 39 then (4 : Int32) else (0 : Int32)), a)) else (if (a q0 ((q1 + 1).toNatClampNeg)) = 48 then (if q4 = 50 then (j58_499 N h b t0 a) else (if q4 = 51 then (j58_499 N h b t0 a) else (some (0, a)))) else (if (a q0 ((q1 + 1).toNatClampNeg)) = 50 ∨ (a q0 ((q1 + 1).toNatClampNeg)) = 51 then (some ((if q4 = 100 then (3 : Int32) else (0 : Int32)), a)) else (if (a q0 ((q1 + 1).toNatClampNeg)) = 112 then (if q4 < 49 then (some (0, a)) else (some ((if 52 < q4 then (0 : Int32) else (3 : Int32)), a))) else (if (a q0 ((q1 + 1).toNatClampNeg)) = 123 then ((l58_540 N h b q0 q1 q2 N 0 (q1 + 2) a).bind (fun z40 => j58_595 N h b q0 q1 q2 z40.2.1 z40.2.2.1 z40.2.2.2)) else (some (0, a))))))))

def j58_40 (N h b : Nat) (q0 : Nat) (q1 : Int32) (q2 : Int32) (q3 : Int32) (t0 : Int32) (a : xA) : Option (Int32 × xA) :=
  if q3 ≤ 3 then (j58_56 N h b q0 q1 q2 t0 (-1) a) else (xg (¬ (q1 + 3 < 0 ∨ xl h b q0 ≤ (q1 + 3).toNatClampNeg)) (j58_56 N h b q0 q1 q2 t0 (a q0 ((q1 + 3).toNatClampNeg)) a))

/-- TerminalHouse$Machine.tokenLength([III)I -/
def f58_tokenLength (N h b : Nat) (x0 : Nat) (x1 : Int32) (x2 : Int32) (a : xA) : Option (Int32 × xA) :=
  xg (xk x0 = 100) (if x2 ≤ x1 then (some (1, a)) else (xg (¬ (x1 < 0 ∨ xl h b x0 ≤ x1.toNatClampNeg)) (if (a x0 (x1.toNatClampNeg)) = 37 then (if 2 ≤ (x2 - x1) then (if (x2 - x1) ≤ 2 then (j58_40 N h b x0 x1 x2 (x2 - x1) (-1) a) else (xg (¬ (x1 + 2 < 0 ∨ xl h b x0 ≤ (x1 + 2).toNatClampNeg)) (j58_40 N h b x0 x1 x2 (x2 - x1) (a x0 ((x1 + 2).toNatClampNeg)) a))) else (some (0, a))) else (some (1, a)))))

def j57_161 (N h b : Nat) (rc : Int32 → Int32 → Int32 → xA → Option (Nat × Int32 × xA)) (w0 : Nat) (w1 : Int32) (q2 : Int32) (q3 : Int32) (q4 : Int32) (q5 : Int32) (a : xA) : Option (Nat × Int32 × xA) :=
  if q2 = (-1) then (some (1, q3, a)) else (if q3 ≤ 4 then (rc q2 q3 (q4 + q5) a) else (some (1, q3, a)))

def j57_100 (N h b : Nat) (rc : Int32 → Int32 → Int32 → xA → Option (Nat × Int32 × xA)) (w0 : Nat) (w1 : Int32) (q3 : Int32) (q4 : Int32) (q5 : Int32) (t0 : Int32) (a : xA) : Option (Nat × Int32 × xA) :=
  j57_161 N h b (rc) w0 w1 t0 q3 q4 q5 a

def j57_90 (N h b : Nat) (rc : Int32 → Int32 → Int32 → xA → Option (Nat × Int32 × xA)) (w0 : Nat) (w1 : Int32) (q2 : Int32) (q3 : Int32) (q4 : Int32) (q5 : Int32) (q7 : Int32) (a : xA) : Option (Nat × Int32 × xA) :=
  j57_100 N h b (rc) w0 w1 q3 q4 q5 ((q2 - q7) + 2) a

def j57_157 (N h b : Nat) (rc : Int32 → Int32 → Int32 → xA → Option (Nat × Int32 × xA)) (w0 : Nat) (w1 : Int32) (q3 : Int32) (q4 : Int32) (q5 : Int32) (t0 : Int32) (a : xA) : Option (Nat × Int32 × xA) :=
  j57_161 N h b (rc) w0 w1 t0 (q3 + (-1)) q4 q5 a

def j57_150 (N h b : Nat) (rc : Int32 → Int32 → Int32 → xA → Option (Nat × Int32 × xA)) (w0 : Nat) (w1 : Int32) (q2 : Int32) (q3 : Int32) (q4 : Int32) (q5 : Int32) (a : xA) : Option (Nat × Int32 × xA) :=
  j57_157 N h b (rc) w0 w1 q3 q4 q5 (q2 >>> ((2 : Int32) &&& 31)) a

def j57_45 (N h b : Nat) (rc : Int32 → Int32 → Int32 → xA → Option (Nat × Int32 × xA)) (w0 : Nat) (w1 : Int32) (q2 : Int32) (q3 : Int32) (q4 : Int32) (q5 : Int32) (t0 : Int32) (a : xA) : Option (Nat × Int32 × xA) :=
  if t0 = 63 then (j57_161 N h b (rc) w0 w1 ((q2 <<< ((2 : Int32) &&& 31)) ||| 1) (q3 + 1) q4 q5 a) else (if t0 = 116 then (if (q2 &&& 3) = 1 then (j57_90 N h b (rc) w0 w1 q2 q3 q4 q5 (q2 &&& 3) a) else (j57_161 N h b (rc) w0 w1 (if (q2 &&& 3) = 3 then ((q2 - (q2 &&& 3)) + 2) else (-1 : Int32)) q3 q4 q5 a)) else (if t0 = 101 then (j57_161 N h b (rc) w0 w1 (if (q2 &&& 3) = 2 then ((q2 - (q2 &&& 3)) + 3) else (-1 : Int32)) q3 q4 q5 a) else (if t0 = 59 then (if (q2 &&& 3) = 2 then (j57_150 N h b (rc) w0 w1 q2 q3 q4 q5 a) else (if (q2 &&& 3) = 3 then (j57_150 N h b (rc) w0 w1 q2 q3 q4 q5 a) else (j57_157 N h b (rc) w0 w1 q3 q4 q5 (-1) a))) else (j57_161 N h b (rc) w0 w1 q2 q3 q4 q5 a))))

def l57_7 (N h b : Nat) (w0 : Nat) (w1 : Int32) : Nat → Int32 → Int32 → Int32 → xA → Option (Nat × Int32 × xA)
  | 0, _, _, _, _ => none
  | n + 1, v2, v3, v4, a => if w1 ≤ v4 then (some (2, v3, a)) else (xb2 (f58_tokenLength N h b w0 v4 w1 a) (fun r6 a7 => if r6 = 0 then (some (0, v3, a7)) else (if r6 = 2 then (xg (¬ (v4 + 1 < 0 ∨ xl h b w0 ≤ (v4 + 1).toNatClampNeg)) (j57_45 N h b (l57_7 N h b w0 w1 n) w0 w1 v2 v3 v4 r6 (a7 w0 ((v4 + 1).toNatClampNeg)) a7)) else (j57_45 N h b (l57_7 N h b w0 w1 n) w0 w1 v2 v3 v4 r6 (-1) a7))))

/-- TerminalHouse$Machine.isWellFormed([II)Z -/
def f57_isWellFormed (N h b : Nat) (x0 : Nat) (x1 : Int32) (a : xA) : Option (Int32 × xA) :=
  xg (xk x0 = 100) ((l57_7 N h b x0 x1 N 0 0 0 a).bind (fun z34 => if z34.1 = 0 then (some (0, z34.2.2)) else (if z34.1 = 1 then (some (0, z34.2.2)) else (xg ((if z34.2.1 = 0 then (1 : Int32) else (0 : Int32)) = 0 ∨ (if z34.2.1 = 0 then (1 : Int32) else (0 : Int32)) = 1) (some ((if z34.2.1 = 0 then (1 : Int32) else (0 : Int32)), z34.2.2))))))

/-- TerminalHouse$Entry.startOf(I)I -/
def f60_startOf (N h b : Nat) (x0 : Int32) (a : xA) : Option (Int32 × xA) :=
  some ((x0 - 6) * 40, a)

/-- TerminalHouse$Entry.tellString(I[III)V -/
def f59_tellString (N h b : Nat) (o : Nat) (x0 : Int32) (x1 : Nat) (x2 : Int32) (x3 : Int32) (a : xA) : Option (xA) :=
  xg (xk o = 3) (xg (xk x1 = 100) (xg (¬ (x0 < 0 ∨ xl h b (o + 3) ≤ x0.toNatClampNeg)) (xw (xU a (o + 3) (x0.toNatClampNeg) 1) (fun a3 => xg (¬ (x0 - 6 < 0 ∨ xl h b (o + 6) ≤ (x0 - 6).toNatClampNeg)) (xw (xU a3 (o + 6) ((x0 - 6).toNatClampNeg) x3) (fun a7 => xb2 (f60_startOf N h b x0 a7) (fun r14 a15 => xg (¬ x2 < 0 ∧ ¬ r14 < 0 ∧ ¬ x3 < 0 ∧ x2.toNatClampNeg + x3.toNatClampNeg ≤ xl h b x1 ∧ r14.toNatClampNeg + x3.toNatClampNeg ≤ xl h b (o + 5)) (xw (xW a15 (o + 5) (va_cpy (a15 x1) (a15 (o + 5)) (x2.toNatClampNeg) (r14.toNatClampNeg) (x3.toNatClampNeg))) (fun a17 => some a17)))))))))

def j49_122 (N h b : Nat) (rc : Int32 → xA → Option (Nat × xA)) (w1 : Int32) (w2 : Int32) (q3 : Int32) (q5 : Int32) (a : xA) : Option (Nat × xA) :=
  if q5 = 0 then (some (1, a)) else (rc (q3 + 1) a)

def l49_12 (N h b : Nat) (w1 : Int32) (w2 : Int32) : Nat → Int32 → xA → Option (Nat × xA)
  | 0, _, _ => none
  | n + 1, v3, a => if (a 3 5) ≤ v3 then (some (2, a)) else (if (a 3 5) ≤ (a 3 6) then (some (2, a)) else (xg (¬ (a 3 4) = -1) (xg (xk ((a 3 4).toNatClampNeg) = 100) (xg (¬ (a 3 6 < 0 ∨ xl h b ((a 3 4).toNatClampNeg) ≤ (a 3 6).toNatClampNeg)) (if (a ((a 3 4).toNatClampNeg) ((a 3 6).toNatClampNeg)) = 44 then (some (2, a)) else (if (a ((a 3 4).toNatClampNeg) ((a 3 6).toNatClampNeg)) = 10 then (some (0, a)) else (xb2 (f25_isText N h b (a ((a 3 4).toNatClampNeg) ((a 3 6).toNatClampNeg)) a) (fun r14 a15 => if r14 = 0 then (xb2 (f26_failed N h b 1 (a15 3 6) a15) (fun r21 a22 => j49_122 N h b (l49_12 N h b w1 w2 n) w1 w2 v3 r21 a22)) else (if (a ((a 3 4).toNatClampNeg) ((a 3 6).toNatClampNeg)) = 92 then (xb2 (f50_readBackslash N h b a15) (fun r29 a30 => j49_122 N h b (l49_12 N h b w1 w2 n) w1 w2 v3 r29 a30)) else (if (a ((a 3 4).toNatClampNeg) ((a 3 6).toNatClampNeg)) = 94 then (xb2 (f54_readCaret N h b a15) (fun r36 a37 => j49_122 N h b (l49_12 N h b w1 w2 n) w1 w2 v3 r36 a37)) else (xb1 (f55_readPlain N h b (a ((a 3 4).toNatClampNeg) ((a 3 6).toNatClampNeg)) a15) (fun a41 => j49_122 N h b (l49_12 N h b w1 w2 n) w1 w2 v3 1 a41))))))))))))

def j49_135 (N h b : Nat) (q1 : Int32) (q2 : Int32) (a : xA) : Option (Int32 × xA) :=
  xb2 (f28_byteAt N h b (a 3 6) a) (fun r47 a48 => if r47 = 44 then (if (a48 3 13) ≤ 40 then (xb2 (f57_isWellFormed N h b 8 (a48 3 13) a48) (fun r54 a55 => if r54 = 0 then (xb2 (f26_failed N h b 8 q2 a55) (fun r60 a61 => xg (r60 = 0 ∨ r60 = 1) (some (r60, a61)))) else (xg (¬ (a55 3 8) = -1) (xg (xk ((a55 3 8).toNatClampNeg) = 3) (xb1 (f59_tellString N h b ((a55 3 8).toNatClampNeg) q1 8 0 (a55 3 13) a55) (fun a68 => some (1, a68))))))) else (xb2 (f26_failed N h b 2 q2 a48) (fun r72 a73 => xg (r72 = 0 ∨ r72 = 1) (some (r72, a73))))) else (xb2 (f26_failed N h b 1 (a48 3 6) a48) (fun r78 a79 => xg (r78 = 0 ∨ r78 = 1) (some (r78, a79)))))

/-- TerminalHouse$Reader.readString(I)Z -/
def f49_readString (N h b : Nat) (x0 : Int32) (a : xA) : Option (Int32 × xA) :=
  xw (xU a 3 13 0) (fun a1 => (l49_12 N h b x0 (a 3 6) N 0 a1).bind (fun z42 => if z42.1 = 0 then (j49_135 N h b x0 (a 3 6) z42.2) else (if z42.1 = 1 then (some (0, z42.2)) else (j49_135 N h b x0 (a 3 6) z42.2))))

/-- TerminalHouse$Entry.tellFlag(I)V -/
def f61_tellFlag (N h b : Nat) (o : Nat) (x0 : Int32) (a : xA) : Option (xA) :=
  xg (xk o = 3) (xg (¬ (x0 < 0 ∨ xl h b (o + 3) ≤ x0.toNatClampNeg)) (xw (xU a (o + 3) (x0.toNatClampNeg) 1) (fun a2 => some a2)))

def j32_188 (N h b : Nat) (q2 : Int32) (q4 : Int32) (a : xA) : Option (Int32 × xA) :=
  xg (¬ (q4 < 0 ∨ 39 ≤ q4.toNatClampNeg)) (xw (xU a 6 (q4.toNatClampNeg) 1) (fun a43 => if q2 = 35 then (xw (xU a43 3 6 ((a43 3 6) + 1)) (fun a48 => xb2 (f47_readNumber N h b q4 a48) (fun r54 a55 => if r54 = 0 then (some (0, a55)) else (xb2 (f43_passComma N h b a55) (fun r61 a62 => xg ((if r61 = 0 then (0 : Int32) else (1 : Int32)) = 0 ∨ (if r61 = 0 then (0 : Int32) else (1 : Int32)) = 1) (some ((if r61 = 0 then (0 : Int32) else (1 : Int32)), a62))))))) else (if q2 = 61 then (xw (xU a43 3 6 ((a43 3 6) + 1)) (fun a66 => xb2 (f49_readString N h b q4 a66) (fun r72 a73 => if r72 = 0 then (some (0, a73)) else (xb2 (f43_passComma N h b a73) (fun r79 a80 => xg ((if r79 = 0 then (0 : Int32) else (1 : Int32)) = 0 ∨ (if r79 = 0 then (0 : Int32) else (1 : Int32)) = 1) (some ((if r79 = 0 then (0 : Int32) else (1 : Int32)), a80))))))) else (if q2 = 64 then (xw (xU a43 3 6 ((a43 3 6) + 1)) (fun a84 => xb2 (f43_passComma N h b a84) (fun r90 a91 => xg (r90 = 0 ∨ r90 = 1) (some (r90, a91))))) else (xg (¬ (a43 3 8) = -1) (xg (xk ((a43 3 8).toNatClampNeg) = 3) (xb1 (f61_tellFlag N h b ((a43 3 8).toNatClampNeg) q4 a43) (fun a98 => xb2 (f43_passComma N h b a98) (fun r102 a103 => xg (r102 = 0 ∨ r102 = 1) (some (r102, a103)))))))))))

def j32_163 (N h b : Nat) (q2 : Int32) (q4 : Int32) (a : xA) : Option (Int32 × xA) :=
  if q2 = 64 then (j32_188 N h b q2 q4 a) else (xb2 (f46_signOf N h b q4 a) (fun r108 a109 => if q2 = r108 then (j32_188 N h b q2 q4 a109) else (xb2 (f26_failed N h b 5 (a109 3 6) a109) (fun r114 a115 => xg (r114 = 0 ∨ r114 = 1) (some (r114, a115))))))

def j32_87 (N h b : Nat) (q1 : Int32) (q2 : Int32) (q3 : Int32) (a : xA) : Option (Int32 × xA) :=
  xg (¬ (a 3 4) = -1) (xb2 (f44_abilityNamed N h b ((a 3 4).toNatClampNeg) q1 q3 a) (fun r25 a26 => if r25 = (-1) then (xb2 (f26_failed N h b 4 q1 a26) (fun r31 a32 => xg (r31 = 0 ∨ r31 = 1) (some (r31, a32)))) else (xg (¬ (r25 < 0 ∨ 39 ≤ r25.toNatClampNeg)) (if (a26 6 (r25.toNatClampNeg)) = 0 then (if q2 = 64 then (j32_163 N h b q2 r25 a26) else (if q2 = 35 then (j32_163 N h b q2 r25 a26) else (if q2 = 61 then (j32_163 N h b q2 r25 a26) else (if q2 = 44 then (j32_163 N h b q2 r25 a26) else (xb2 (f26_failed N h b 1 (a26 3 6) a26) (fun r128 a129 => xg (r128 = 0 ∨ r128 = 1) (some (r128, a129)))))))) else (xb2 (f26_failed N h b 6 q1 a26) (fun r134 a135 => xg (r134 = 0 ∨ r134 = 1) (some (r134, a135))))))))

/-- TerminalHouse$Reader.readField()Z -/
def f32_readField (N h b : Nat) (a : xA) : Option (Int32 × xA) :=
  xb2 (f33_passAbility N h b a) (fun r4 a5 => if r4 = 0 then (some (0, a5)) else (xb2 (f28_byteAt N h b (a5 3 6) a5) (fun r10 a11 => if ((a11 3 6) - (a 3 6)) ≤ 5 then (if r10 = 61 then (xb2 (f36_isUse N h b (a 3 6) ((a11 3 6) - (a 3 6)) a11) (fun r18 a19 => if r18 = 0 then (j32_87 N h b (a 3 6) r10 ((a11 3 6) - (a 3 6)) a19) else (xw (xU a19 3 6 ((a19 3 6) + 1)) (fun a137 => xb2 (f37_readUse N h b a137) (fun r143 a144 => if r143 = 0 then (some (0, a144)) else (xb2 (f43_passComma N h b a144) (fun r150 a151 => xg ((if r150 = 0 then (0 : Int32) else (1 : Int32)) = 0 ∨ (if r150 = 0 then (0 : Int32) else (1 : Int32)) = 1) (some ((if r150 = 0 then (0 : Int32) else (1 : Int32)), a151))))))))) else (j32_87 N h b (a 3 6) r10 ((a11 3 6) - (a 3 6)) a11)) else (xb2 (f26_failed N h b 2 (a 3 6) a11) (fun r157 a158 => xg (r157 = 0 ∨ r157 = 1) (some (r157, a158)))))))

def l30_6 (N h b : Nat) : Nat → Int32 → xA → Option (Nat × xA)
  | 0, _, _ => none
  | n + 1, v1, a => if (a 3 5) ≤ v1 then (some (2, a)) else (if (a 3 5) ≤ (a 3 6) then (some (2, a)) else (xg (¬ (a 3 4) = -1) (xg (xk ((a 3 4).toNatClampNeg) = 100) (xg (¬ (a 3 6 < 0 ∨ xl h b ((a 3 4).toNatClampNeg) ≤ (a 3 6).toNatClampNeg)) (if (a ((a 3 4).toNatClampNeg) ((a 3 6).toNatClampNeg)) = 10 then (some (2, a)) else (if (a 3 8) = -1 then (some (0, a)) else (xb2 (f32_readField N h b a) (fun r16 a17 => if r16 = 0 then (some (1, a17)) else (xb1 (f31_passBlanks N h b a17) (fun a22 => l30_6 N h b n (v1 + 1) a22))))))))))

def j30_75 (N h b : Nat) (a : xA) : Option (Int32 × xA) :=
  xb2 (f27_passLineEnd N h b a) (fun r34 a35 => xg (r34 = 0 ∨ r34 = 1) (some (r34, a35)))

/-- TerminalHouse$Reader.readFields()Z -/
def f30_readFields (N h b : Nat) (a : xA) : Option (Int32 × xA) :=
  xb1 (f31_passBlanks N h b a) (fun a4 => (l30_6 N h b N 0 a4).bind (fun z23 => if z23.1 = 0 then (xb2 (f26_failed N h b 1 (z23.2 3 6) z23.2) (fun r28 a29 => xg (r28 = 0 ∨ r28 = 1) (some (r28, a29)))) else (if z23.1 = 1 then (some (0, z23.2)) else (j30_75 N h b z23.2))))

/-- TerminalHouse$Entry.lengthOf(I)I -/
def f65_lengthOf (N h b : Nat) (o : Nat) (x0 : Int32) (a : xA) : Option (Int32 × xA) :=
  xg (xk o = 3) (xg (¬ (x0 - 6 < 0 ∨ xl h b (o + 6) ≤ (x0 - 6).toNatClampNeg)) (some (a (o + 6) ((x0 - 6).toNatClampNeg), a)))

def j64_86 (N h b : Nat) (rc : Int32 → xA → Option (Nat × xA)) (w0 : Nat) (w1 : Nat) (w2 : Nat) (q3 : Int32) (a : xA) : Option (Nat × xA) :=
  rc (q3 + 1) a

def l64_2 (N h b : Nat) (w0 : Nat) (w1 : Nat) (w2 : Nat) : Nat → Int32 → xA → Option (Nat × xA)
  | 0, _, _ => none
  | n + 1, v3, a => if 39 ≤ v3 then (some (0, a)) else (xg (¬ (v3 < 0 ∨ xl h b w2 ≤ v3.toNatClampNeg)) (if (a w2 (v3.toNatClampNeg)) = 0 then (xg (¬ (v3 < 0 ∨ xl h b (w0 + 3) ≤ v3.toNatClampNeg)) (if (a (w0 + 3) (v3.toNatClampNeg)) = 0 then (xg (¬ (v3 < 0 ∨ xl h b (w1 + 3) ≤ v3.toNatClampNeg)) (if (a (w1 + 3) (v3.toNatClampNeg)) = 0 then (j64_86 N h b (l64_2 N h b w0 w1 w2 n) w0 w1 w2 v3 a) else (if 3 ≤ v3 then (if 6 ≤ v3 then (xb2 (f60_startOf N h b v3 a) (fun r22 a23 => xb2 (f65_lengthOf N h b w1 v3 a23) (fun r27 a28 => xb1 (f59_tellString N h b w0 v3 (w1 + 5) r22 r27 a28) (fun a32 => j64_86 N h b (l64_2 N h b w0 w1 w2 n) w0 w1 w2 v3 a32)))) else (xg (¬ (v3 < 0 ∨ xl h b (w1 + 4) ≤ v3.toNatClampNeg)) (xb1 (f48_tellNumber N h b w0 v3 (a (w1 + 4) (v3.toNatClampNeg)) a) (fun a37 => j64_86 N h b (l64_2 N h b w0 w1 w2 n) w0 w1 w2 v3 a37)))) else (xb1 (f61_tellFlag N h b w0 v3 a) (fun a41 => j64_86 N h b (l64_2 N h b w0 w1 w2 n) w0 w1 w2 v3 a41))))) else (j64_86 N h b (l64_2 N h b w0 w1 w2 n) w0 w1 w2 v3 a))) else (j64_86 N h b (l64_2 N h b w0 w1 w2 n) w0 w1 w2 v3 a)))

/-- TerminalHouse$Entry.takeFrom(LTerminalHouse$Entry;[Z)V -/
def f64_takeFrom (N h b : Nat) (o : Nat) (x0 : Nat) (x1 : Nat) (a : xA) : Option (xA) :=
  xg (xk o = 3) (xg (xk x0 = 3) (xg (xk x1 = 101) ((l64_2 N h b o x0 x1 N 0 a).bind (fun z42 => some z42.2))))

def l63_10 (N h b : Nat) : Nat → Int32 → xA → Option (Nat × xA)
  | 0, _, _ => none
  | n + 1, v1, a => if (a 3 11) ≤ v1 then (some (0, a)) else (xg (¬ (v1 < 0 ∨ 4 ≤ v1.toNatClampNeg)) (xg (¬ (a 7 (v1.toNatClampNeg) < 0 ∨ 12 ≤ (a 7 (v1.toNatClampNeg)).toNatClampNeg)) (xg (¬ (a 3 8) = -1) (xg (xk ((a 3 8).toNatClampNeg) = 3) (xb1 (f64_takeFrom N h b ((a 3 8).toNatClampNeg) (9 + 7 * (a 7 (v1.toNatClampNeg)).toNatClampNeg) 6 a) (fun a10 => l63_10 N h b n (v1 + 1) a10))))))

/-- TerminalHouse$Reader.finishEntry()V -/
def f63_finishEntry (N h b : Nat) (a : xA) : Option (xA) :=
  if (a 3 8) = -1 then (some a) else ((l63_10 N h b N 0 a).bind (fun z11 => xw (xU z11.2 3 8 (-1)) (fun a13 => xw (xU a13 3 7 ((a13 3 7) + 1)) (fun a16 => some a16))))

def l67_7 (N h b : Nat) (w0 : Nat) : Nat → Int32 → xA → Option (Nat × xA)
  | 0, _, _ => none
  | n + 1, v1, a => if 39 ≤ v1 then (some (0, a)) else (xg (¬ (v1 < 0 ∨ xl h b (w0 + 3) ≤ v1.toNatClampNeg)) (xw (xU a (w0 + 3) (v1.toNatClampNeg) 0) (fun a6 => l67_7 N h b w0 n (v1 + 1) a6)))

/-- TerminalHouse$Entry.begin()V -/
def f67_begin (N h b : Nat) (o : Nat) (a : xA) : Option (xA) :=
  xg (xk o = 3) (xw (xU a o 2 0) (fun a2 => (l67_7 N h b o N 0 a2).bind (fun z10 => some z10.2)))

def l66_27 (N h b : Nat) : Nat → Int32 → xA → Option (Nat × xA)
  | 0, _, _ => none
  | n + 1, v1, a => if 39 ≤ v1 then (some (0, a)) else (xg (¬ (v1 < 0 ∨ 39 ≤ v1.toNatClampNeg)) (xw (xU a 6 (v1.toNatClampNeg) 0) (fun a15 => l66_27 N h b n (v1 + 1) a15)))

/-- TerminalHouse$Reader.beginEntry()V -/
def f66_beginEntry (N h b : Nat) (a : xA) : Option (xA) :=
  xg (¬ (a 3 7 < 0 ∨ 12 ≤ (a 3 7).toNatClampNeg)) (xw (xU a 3 8 (Int32.ofNat (9 + 7 * (a 3 7).toNatClampNeg))) (fun a2 => xg (¬ (a2 3 8) = -1) (xg (xk ((a2 3 8).toNatClampNeg) = 3) (xb1 (f67_begin N h b ((a2 3 8).toNatClampNeg) a2) (fun a10 => xw (xU a10 3 11 0) (fun a11 => (l66_27 N h b N 0 a11).bind (fun z19 => some z19.2)))))))

/-- TerminalHouse$Entry.addName([III)V -/
def f69_addName (N h b : Nat) (o : Nat) (x0 : Nat) (x1 : Int32) (x2 : Int32) (a : xA) : Option (xA) :=
  xg (xk o = 3) (xg (xk x0 = 100) (if 4 ≤ (a o 2) then (some a) else (if 12 < x2 then (some a) else (if x1 ≤ ((Int32.ofNat (xl h b x0)) - x2) then (xg (¬ x1 < 0 ∧ ¬ (a o 2) * 12 < 0 ∧ ¬ x2 < 0 ∧ x1.toNatClampNeg + x2.toNatClampNeg ≤ xl h b x0 ∧ ((a o 2) * 12).toNatClampNeg + x2.toNatClampNeg ≤ xl h b (o + 1)) (xw (xW a (o + 1) (va_cpy (a x0) (a (o + 1)) (x1.toNatClampNeg) (((a o 2) * 12).toNatClampNeg) (x2.toNatClampNeg))) (fun a10 => xg (¬ (a10 o 2 < 0 ∨ xl h b (o + 2) ≤ (a10 o 2).toNatClampNeg)) (xw (xU a10 (o + 2) ((a10 o 2).toNatClampNeg) x2) (fun a13 => xw (xU a13 o 2 ((a13 o 2) + 1)) (fun a17 => some a17)))))) else (some a)))))

/-- TerminalHouse$Reader.readName(I)Z -/
def f68_readName (N h b : Nat) (x0 : Int32) (a : xA) : Option (Int32 × xA) :=
  xb2 (f38_passName N h b a) (fun r4 a5 => if r4 = 0 then (some (0, a5)) else (if ((a5 3 6) - (a 3 6)) ≤ 12 then (xg (¬ (a5 3 4) = -1) (xb2 (f40_indexNamed N h b ((a5 3 4).toNatClampNeg) (a 3 6) ((a5 3 6) - (a 3 6)) ((a5 3 7) + 1) a5) (fun r12 a13 => if r12 = (-1) then (if x0 < 4 then (xg (¬ (a13 3 4) = -1) (xg (¬ (a13 3 8) = -1) (xg (xk ((a13 3 8).toNatClampNeg) = 3) (xb1 (f69_addName N h b ((a13 3 8).toNatClampNeg) ((a13 3 4).toNatClampNeg) (a 3 6) ((a5 3 6) - (a 3 6)) a13) (fun a22 => some (1, a22)))))) else (xb2 (f26_failed N h b 11 (a 3 6) a13) (fun r26 a27 => xg (r26 = 0 ∨ r26 = 1) (some (r26, a27))))) else (xb2 (f26_failed N h b 3 (a 3 6) a13) (fun r32 a33 => xg (r32 = 0 ∨ r32 = 1) (some (r32, a33))))))) else (xb2 (f26_failed N h b 2 (a 3 6) a5) (fun r38 a39 => xg (r38 = 0 ∨ r38 = 1) (some (r38, a39))))))

def j62_113 (N h b : Nat) (rc : Int32 → xA → Option (Nat × xA)) (q1 : Int32) (q2 : Int32) (a : xA) : Option (Nat × xA) :=
  xw (xU a 3 6 ((a 3 6) + 1)) (fun a43 => if q2 = 44 then (some (2, a43)) else (rc (q1 + 1) a43))

def l62_67 (N h b : Nat) : Nat → Int32 → xA → Option (Nat × xA)
  | 0, _, _ => none
  | n + 1, v1, a => if 4 < v1 then (some (3, a)) else (xb2 (f68_readName N h b v1 a) (fun r32 a33 => if r32 = 0 then (some (0, a33)) else (xb2 (f28_byteAt N h b (a33 3 6) a33) (fun r38 a39 => if r38 = 44 then (j62_113 N h b (l62_67 N h b n) v1 r38 a39) else (if r38 = 124 then (j62_113 N h b (l62_67 N h b n) v1 r38 a39) else (some (1, a39)))))))

def j62_40 (N h b : Nat) (t0 : Int32) (t1 : Int32) (a : xA) : Option (Int32 × xA) :=
  if (t1 + t0) < 12 then (xb1 (f63_finishEntry N h b a) (fun a23 => xb1 (f66_beginEntry N h b a23) (fun a27 => (l62_67 N h b N 0 a27).bind (fun z48 => if z48.1 = 0 then (some (0, z48.2)) else (if z48.1 = 1 then (xb2 (f26_failed N h b 1 (z48.2 3 6) z48.2) (fun r53 a54 => xg (r53 = 0 ∨ r53 = 1) (some (r53, a54)))) else (if z48.1 = 2 then (xb1 (f31_passBlanks N h b z48.2) (fun a59 => xb2 (f27_passLineEnd N h b a59) (fun r63 a64 => xg (r63 = 0 ∨ r63 = 1) (some (r63, a64))))) else (xb2 (f26_failed N h b 11 (z48.2 3 6) z48.2) (fun r69 a70 => xg (r69 = 0 ∨ r69 = 1) (some (r69, a70)))))))))) else (xb2 (f26_failed N h b 7 (a 3 6) a) (fun r75 a76 => xg (r75 = 0 ∨ r75 = 1) (some (r75, a76))))

/-- TerminalHouse$Reader.readNames()Z -/
def f62_readNames (N h b : Nat) (a : xA) : Option (Int32 × xA) :=
  xb2 (f28_byteAt N h b (a 3 6) a) (fun r4 a5 => xb2 (f39_isNameByte N h b r4 a5) (fun r9 a10 => if r9 = 0 then (xb2 (f26_failed N h b 1 (a10 3 6) a10) (fun r15 a16 => xg (r15 = 0 ∨ r15 = 1) (some (r15, a16)))) else (if (a10 3 8) = -1 then (j62_40 N h b 0 (a10 3 7) a10) else (j62_40 N h b 1 (a10 3 7) a10))))

def j23_125 (N h b : Nat) (rc : Int32 → Int32 → xA → Option (Nat × Int32 × xA)) (w2 : Int32) (q3 : Int32) (q4 : Int32) (a : xA) : Option (Nat × Int32 × xA) :=
  rc q3 (q4 + 1) a

def j23_124 (N h b : Nat) (rc : Int32 → Int32 → xA → Option (Nat × Int32 × xA)) (w2 : Int32) (q4 : Int32) (t0 : Int32) (a : xA) : Option (Nat × Int32 × xA) :=
  j23_125 N h b (rc) w2 t0 q4 a

def l23_43 (N h b : Nat) (w2 : Int32) : Nat → Int32 → Int32 → xA → Option (Nat × Int32 × xA)
  | 0, _, _, _ => none
  | n + 1, v3, v4, a => if w2 ≤ v4 then (some (0, v3, a)) else (if v3 = 0 then (some (0, v3, a)) else (if (a 3 5) ≤ (a 3 6) then (some (0, v3, a)) else (xg (¬ (a 3 4) = -1) (xg (xk ((a 3 4).toNatClampNeg) = 100) (xg (¬ (a 3 6 < 0 ∨ xl h b ((a 3 4).toNatClampNeg) ≤ (a 3 6).toNatClampNeg)) (if (a ((a 3 4).toNatClampNeg) ((a 3 6).toNatClampNeg)) = 35 then (xb2 (f24_passComment N h b a) (fun r34 a35 => j23_125 N h b (l23_43 N h b w2 n) w2 r34 v4 a35)) else (xb2 (f29_isBlank N h b (a ((a 3 4).toNatClampNeg) ((a 3 6).toNatClampNeg)) a) (fun r39 a40 => if r39 = 0 then (if (a ((a 3 4).toNatClampNeg) ((a 3 6).toNatClampNeg)) = 10 then (xb2 (f27_passLineEnd N h b a40) (fun r49 a50 => j23_124 N h b (l23_43 N h b w2 n) w2 v4 r49 a50)) else (xb2 (f62_readNames N h b a40) (fun r54 a55 => j23_124 N h b (l23_43 N h b w2 n) w2 v4 r54 a55))) else (xb2 (f30_readFields N h b a40) (fun r59 a60 => j23_125 N h b (l23_43 N h b w2 n) w2 r59 v4 a60))))))))))

def j23_131 (N h b : Nat) (q3 : Int32) (a : xA) : Option (Int32 × xA) :=
  if q3 = 0 then (some ((-1), a)) else (xb1 (f63_finishEntry N h b a) (fun a67 => xw (xU a67 3 1 (a67 3 7)) (fun a68 => some (a68 3 1, a68))))

/-- TerminalHouse$Reader.readText([II)I -/
def f23_readText (N h b : Nat) (x0 : Nat) (x1 : Int32) (a : xA) : Option (Int32 × xA) :=
  xg (xk x0 = 100) (xw (xU a 3 4 (Int32.ofNat x0)) (fun a2 => xw (xU a2 3 5 x1) (fun a5 => xw (xU a5 3 6 0) (fun a8 => xw (xU a8 3 7 (a8 3 1)) (fun a11 => xw (xU a11 3 8 (-1)) (fun a14 => xw (xU a14 3 2 0) (fun a17 => xw (xU a17 3 3 (-1)) (fun a20 => (l23_43 N h b x1 N 1 0 a20).bind (fun z61 => j23_131 N h b z61.2.1 z61.2.2)))))))))

/-- TerminalHouse.describe()I -/
def f22_describe (N h b : Nat) (a : xA) : Option (Int32 × xA) :=
  xb2 (f23_readText N h b 1 (a 0 1) a) (fun r4 a5 => xw (xU a5 0 1 0) (fun a6 => some (r4, a6)))

/-- TerminalHouse.fault(I)I -/
def f70_fault (N h b : Nat) (x0 : Int32) (a : xA) : Option (Int32 × xA) :=
  if x0 = 0 then (some (a 3 2, a)) else (if x0 = 1 then (some (a 3 3, a)) else (some ((-1), a)))

/-- TerminalHouse$Reader.entryNamed([II)LTerminalHouse$Entry; -/
def f72_entryNamed (N h b : Nat) (x0 : Nat) (x1 : Int32) (a : xA) : Option (Int32 × xA) :=
  xg (xk x0 = 100) (xb2 (f40_indexNamed N h b x0 0 x1 (a 3 1) a) (fun r5 a6 => if r5 = (-1) then (some ((-1), a6)) else (xg (¬ (r5 < 0 ∨ 12 ≤ r5.toNatClampNeg)) (some ((Int32.ofNat (9 + 7 * r5.toNatClampNeg)), a6)))))

/-- TerminalHouse$Entry.has(I)Z -/
def f74_has (N h b : Nat) (o : Nat) (x0 : Int32) (a : xA) : Option (Int32 × xA) :=
  xg (xk o = 3) (xg (¬ (x0 < 0 ∨ xl h b (o + 3) ≤ x0.toNatClampNeg)) (xg ((a (o + 3) (x0.toNatClampNeg)) = 0 ∨ (a (o + 3) (x0.toNatClampNeg)) = 1) (some (a (o + 3) (x0.toNatClampNeg), a))))

/-- TerminalHouse$Entry.isUsable()Z -/
def f73_isUsable (N h b : Nat) (o : Nat) (a : xA) : Option (Int32 × xA) :=
  xg (xk o = 3) (xb2 (f74_has N h b o 3 a) (fun r5 a6 => if r5 = 0 then (some (0, a6)) else (xg (¬ ((3 : Int32) < 0 ∨ xl h b (o + 4) ≤ (3 : Int32).toNatClampNeg)) (if (a6 (o + 4) ((3 : Int32).toNatClampNeg)) < 4 then (some (0, a6)) else (if 80 < (a6 (o + 4) ((3 : Int32).toNatClampNeg)) then (some (0, a6)) else (xb2 (f74_has N h b o 4 a6) (fun r15 a16 => if r15 = 0 then (some (0, a16)) else (xg (¬ ((4 : Int32) < 0 ∨ xl h b (o + 4) ≤ (4 : Int32).toNatClampNeg)) (if (a16 (o + 4) ((4 : Int32).toNatClampNeg)) < 2 then (some (0, a16)) else (if 24 < (a16 (o + 4) ((4 : Int32).toNatClampNeg)) then (some (0, a16)) else (xb2 (f74_has N h b o 7 a16) (fun r27 a28 => if r27 = 0 then (some (0, a28)) else (xb2 (f74_has N h b o 9 a28) (fun r34 a35 => xg ((if r34 = 0 then (0 : Int32) else (1 : Int32)) = 0 ∨ (if r34 = 0 then (0 : Int32) else (1 : Int32)) = 1) (some ((if r34 = 0 then (0 : Int32) else (1 : Int32)), a35))))))))))))))))

def l75_2 (N h b : Nat) : Nat → Int32 → xA → Option (Nat × xA)
  | 0, _, _ => none
  | n + 1, v1, a => if 8 ≤ v1 then (some (0, a)) else (xg (¬ (v1 < 0 ∨ 8 ≤ v1.toNatClampNeg)) (xw (xU a (141 + 2 * v1.toNatClampNeg) 1 0) (fun a3 => l75_2 N h b n (v1 + 1) a3)))

/-- TerminalHouse.closeWindows()V -/
def f75_closeWindows (N h b : Nat) (a : xA) : Option (xA) :=
  (l75_2 N h b N 0 a).bind (fun z6 => some z6.2)

/-- TerminalHouse$Entry.number(I)I -/
def f77_number (N h b : Nat) (o : Nat) (x0 : Int32) (a : xA) : Option (Int32 × xA) :=
  xg (xk o = 3) (xg (¬ (x0 < 0 ∨ xl h b (o + 4) ≤ x0.toNatClampNeg)) (some (a (o + 4) (x0.toNatClampNeg), a)))

/-- TerminalHouse$Window.begin(IIII)V -/
def f78_begin (N h b : Nat) (o : Nat) (x0 : Int32) (x1 : Int32) (x2 : Int32) (x3 : Int32) (a : xA) : Option (xA) :=
  xg (xk o = 10) (xw (xU a o 1 1) (fun a2 => xw (xU a2 o 2 x0) (fun a5 => xw (xU a5 o 3 x1) (fun a8 => xb2 (f10_nearest N h b x2 1 24 a8) (fun r14 a15 => xw (xU a15 o 4 r14) (fun a16 => xb2 (f10_nearest N h b x3 1 80 a16) (fun r22 a23 => xw (xU a23 o 5 r22) (fun a24 => xw (xU a24 o 6 0) (fun a27 => xw (xU a27 o 7 0) (fun a30 => xw (xU a30 o 8 0) (fun a33 => xw (xU a33 o 9 0) (fun a36 => xb1 (f14_fill N h b (o + 1) 0 ((a36 o 4) * (a36 o 5)) 32 a36) (fun a42 => some a42)))))))))))))

/-- TerminalHouse$Machine.setParameters(IIII)V -/
def f81_setParameters (N h b : Nat) (x0 : Int32) (x1 : Int32) (x2 : Int32) (x3 : Int32) (a : xA) : Option (xA) :=
  xw (xU a 95 0 x0) (fun a1 => xw (xU a1 95 1 x1) (fun a4 => xw (xU a4 95 2 x2) (fun a7 => xw (xU a7 95 3 x3) (fun a10 => some a10))))

/-- TerminalHouse$Machine.make(I)V -/
def f83_make (N h b : Nat) (x0 : Int32) (a : xA) : Option (xA) :=
  if 60 ≤ (a 93 4) then (some a) else (xg (¬ (a 93 4 < 0 ∨ 60 ≤ (a 93 4).toNatClampNeg)) (xw (xU a 96 ((a 93 4).toNatClampNeg) x0) (fun a3 => xw (xU a3 93 4 ((a3 93 4) + 1)) (fun a7 => some a7))))

/-- TerminalHouse$Machine.pop()I -/
def f84_pop (N h b : Nat) (a : xA) : Option (Int32 × xA) :=
  if (a 93 1) = 0 then (some (0, a)) else (xw (xU a 93 1 ((a 93 1) - 1)) (fun a2 => xg (¬ (a2 93 1 < 0 ∨ 8 ≤ (a2 93 1).toNatClampNeg)) (some (a2 94 ((a2 93 1).toNatClampNeg), a2))))

def j85_99 (N h b : Nat) (rc : Int32 → Int32 → xA → Option (Nat × Int32 × xA)) (w0 : Nat) (w2 : Int32) (w3 : Int32) (q4 : Int32) (q5 : Int32) (a : xA) : Option (Nat × Int32 × xA) :=
  rc q4 q5 a

def j85_76 (N h b : Nat) (rc : Int32 → Int32 → xA → Option (Nat × Int32 × xA)) (w0 : Nat) (w2 : Int32) (w3 : Int32) (q4 : Int32) (q5 : Int32) (q7 : Int32) (a : xA) : Option (Nat × Int32 × xA) :=
  if q7 = 63 then (j85_99 N h b (rc) w0 w2 w3 (q4 + 1) q5 a) else (if q7 = 59 then (j85_99 N h b (rc) w0 w2 w3 (q4 + (-1)) q5 a) else (j85_99 N h b (rc) w0 w2 w3 q4 q5 a))

def j85_41 (N h b : Nat) (rc : Int32 → Int32 → xA → Option (Nat × Int32 × xA)) (w0 : Nat) (w2 : Int32) (w3 : Int32) (q4 : Int32) (q5 : Int32) (q6 : Int32) (t0 : Int32) (a : xA) : Option (Nat × Int32 × xA) :=
  if q4 = 0 then (if t0 = 59 then (some (0, (q5 + q6), a)) else (if t0 = 101 then (if w3 = 0 then (j85_76 N h b (rc) w0 w2 w3 q4 (q5 + q6) t0 a) else (some (0, (q5 + q6), a))) else (j85_76 N h b (rc) w0 w2 w3 q4 (q5 + q6) t0 a))) else (j85_76 N h b (rc) w0 w2 w3 q4 (q5 + q6) t0 a)

def l85_6 (N h b : Nat) (w0 : Nat) (w2 : Int32) (w3 : Int32) : Nat → Int32 → Int32 → xA → Option (Nat × Int32 × xA)
  | 0, _, _, _ => none
  | n + 1, v4, v5, a => if w2 ≤ v5 then (some (1, v5, a)) else (xb2 (f58_tokenLength N h b w0 v5 w2 a) (fun r6 a7 => if (xmax 1 r6) = 2 then (xg (¬ (v5 + 1 < 0 ∨ xl h b w0 ≤ (v5 + 1).toNatClampNeg)) (j85_41 N h b (l85_6 N h b w0 w2 w3 n) w0 w2 w3 v4 v5 (xmax 1 r6) (a7 w0 ((v5 + 1).toNatClampNeg)) a7)) else (j85_41 N h b (l85_6 N h b w0 w2 w3 n) w0 w2 w3 v4 v5 (xmax 1 r6) (-1) a7)))

/-- TerminalHouse$Machine.skip([IIIZ)I -/
def f85_skip (N h b : Nat) (x0 : Nat) (x1 : Int32) (x2 : Int32) (x3 : Int32) (a : xA) : Option (Int32 × xA) :=
  xg (xk x0 = 100) ((l85_6 N h b x0 x2 x3 N 0 x1 a).bind (fun z27 => if z27.1 = 0 then (some (z27.2.1, z27.2.2)) else (some (x2, z27.2.2))))

def l86_28 (N h b : Nat) (w1 : Int32) (w2 : Int32) (w3 : Int32) (w4 : Int64) : Nat → Int64 → Int32 → xA → Option (Nat × Int64 × Int32 × xA)
  | 0, _, _, _ => none
  | n + 1, v6, v8, a => if 12 ≤ v8 then (some (0, v6, v8, a)) else (if (lg_cmp (w4 / 10) v6) < 0 then (some (0, v6, v8, a)) else (l86_28 N h b w1 w2 w3 w4 n (v6 * 10) (v8 + 1) a))

def l86_81 (N h b : Nat) (w1 : Int32) (w2 : Int32) (w3 : Int32) (w4 : Int64) (w6 : Int64) : Nat → Int32 → xA → Option (Nat × xA)
  | 0, _, _ => none
  | n + 1, v9, a => if w2 ≤ v9 then (some (0, a)) else (xb1 (f83_make N h b w3 a) (fun a16 => l86_81 N h b w1 w2 w3 w4 w6 n (v9 + 1) a16))

def l86_114 (N h b : Nat) (w4 : Int64) : Nat → Int64 → xA → Option (Nat × xA)
  | 0, _, _ => none
  | n + 1, v6, a => if (lg_cmp v6 0) ≤ 0 then (some (0, a)) else (xg (¬ v6 = 0) (xb1 (f83_make N h b (48 + (((w4 / v6) - (w4 / v6) / 10 * 10).toInt32)) a) (fun a25 => l86_114 N h b w4 n (v6 / 10) a25)))

def j86_77 (N h b : Nat) (q1 : Int32) (q2 : Int32) (q3 : Int32) (q4 : Int64) (q6 : Int64) (q8 : Int32) (a : xA) : Option (xA) :=
  (l86_81 N h b q1 q2 q3 q4 q6 N q8 a).bind (fun z17 => if 0 ≤ q1 then ((l86_114 N h b q4 N q6 z17.2).bind (fun z26 => some z26.2)) else (if q3 = 32 then (xb1 (f83_make N h b 45 z17.2) (fun a32 => (l86_114 N h b q4 N q6 a32).bind (fun z33 => some z33.2))) else ((l86_114 N h b q4 N q6 z17.2).bind (fun z35 => some z35.2))))

def j86_61 (N h b : Nat) (q1 : Int32) (q2 : Int32) (q3 : Int32) (q4 : Int64) (q6 : Int64) (q8 : Int32) (a : xA) : Option (xA) :=
  if 0 ≤ q1 then (j86_77 N h b q1 q2 q3 q4 q6 q8 a) else (if q3 = 32 then (j86_77 N h b q1 q2 q3 q4 q6 q8 a) else (xb1 (f83_make N h b 45 a) (fun a42 => j86_77 N h b q1 q2 q3 q4 q6 q8 a42)))

def j86_12 (N h b : Nat) (q1 : Int32) (q2 : Int32) (q3 : Int32) (t0 : Int64) (a : xA) : Option (xA) :=
  (l86_28 N h b q1 q2 q3 t0 N 1 (if 0 ≤ q1 then (1 : Int32) else (2 : Int32)) a).bind (fun z7 => j86_61 N h b q1 q2 q3 t0 z7.2.1 z7.2.2.1 z7.2.2.2)

/-- TerminalHouse$Machine.makeDecimal(III)V -/
def f86_makeDecimal (N h b : Nat) (x0 : Int32) (x1 : Int32) (x2 : Int32) (a : xA) : Option (xA) :=
  if 0 ≤ x0 then (j86_12 N h b x0 x1 x2 x0.toInt64 a) else (j86_12 N h b x0 x1 x2 (-x0.toInt64) a)

def l87_5 (N h b : Nat) (w0 : Nat) (w1 : Int32) (w2 : Int32) : Nat → Int32 → Int32 → xA → Option (Nat × Int32 × xA)
  | 0, _, _, _ => none
  | n + 1, v3, v4, a => if 5 ≤ v4 then (some (0, v3, a)) else (if w2 ≤ (w1 + v4) then (some (0, v3, a)) else (xg (¬ (w1 + v4 < 0 ∨ xl h b w0 ≤ (w1 + v4).toNatClampNeg)) (xb2 (f35_isDigit N h b (a w0 ((w1 + v4).toNatClampNeg)) a) (fun r11 a12 => if r11 = 0 then (some (0, v3, a12)) else (l87_5 N h b w0 w1 w2 n (((v3 * 10) + (a12 w0 ((w1 + v4).toNatClampNeg))) - 48) (v4 + 1) a12)))))

/-- TerminalHouse$Machine.numberAt([III)I -/
def f87_numberAt (N h b : Nat) (x0 : Nat) (x1 : Int32) (x2 : Int32) (a : xA) : Option (Int32 × xA) :=
  xg (xk x0 = 100) ((l87_5 N h b x0 x1 x2 N 0 0 a).bind (fun z14 => some (z14.2.1, z14.2.2)))

/-- TerminalHouse$Machine.push(I)V -/
def f88_push (N h b : Nat) (x0 : Int32) (a : xA) : Option (xA) :=
  if 8 ≤ (a 93 1) then (some a) else (xg (¬ (a 93 1 < 0 ∨ 8 ≤ (a 93 1).toNatClampNeg)) (xw (xU a 94 ((a 93 1).toNatClampNeg) x0) (fun a3 => xw (xU a3 93 1 ((a3 93 1) + 1)) (fun a7 => some a7))))

def j90_223 (N h b : Nat) (a : xA) : Option (Int32 × xA) :=
  some (1, a)

/-- TerminalHouse$Machine.combined(III)I -/
def f90_combined (N h b : Nat) (x0 : Int32) (x1 : Int32) (x2 : Int32) (a : xA) : Option (Int32 × xA) :=
  if x0 = 38 then (some (x1 &&& x2, a)) else (if x0 = 42 then (some (x1 * x2, a)) else (if x0 = 43 then (some (x1 + x2, a)) else (if x0 = 45 then (some (x1 - x2, a)) else (if x0 = 47 then (if x2 = 0 then (some (0, a)) else (some (x1 / x2, a))) else (if x0 = 60 then (some ((if x2 ≤ x1 then (0 : Int32) else (1 : Int32)), a)) else (if x0 = 61 then (some ((if x1 = x2 then (1 : Int32) else (0 : Int32)), a)) else (if x0 = 62 then (some ((if x1 ≤ x2 then (0 : Int32) else (1 : Int32)), a)) else (if x0 = 65 then (if x1 = 0 then (some (0, a)) else (some ((if x2 = 0 then (0 : Int32) else (1 : Int32)), a))) else (if x0 = 79 then (if x1 = 0 then (some ((if x2 = 0 then (0 : Int32) else (1 : Int32)), a)) else (j90_223 N h b a)) else (if x0 = 94 then (some (x1 ^^^ x2, a)) else (if x0 = 109 then (if x2 = 0 then (some (0, a)) else (some (x1 - ((x1 / x2) * x2), a))) else (if x0 = 124 then (some (x1 ||| x2, a)) else (some (0, a))))))))))))))

/-- TerminalHouse$Machine.operate(I)V -/
def f89_operate (N h b : Nat) (x0 : Int32) (a : xA) : Option (xA) :=
  if x0 = 33 then (xb2 (f84_pop N h b a) (fun r5 a6 => xb1 (f88_push N h b (if r5 = 0 then (1 : Int32) else (0 : Int32)) a6) (fun a11 => some a11))) else (if x0 = 37 then (xb1 (f83_make N h b 37 a) (fun a16 => some a16)) else (if x0 = 59 ∨ x0 = 63 then (some a) else (if x0 = 99 then (xb2 (f84_pop N h b a) (fun r22 a23 => xb1 (f83_make N h b (r22 &&& 255) a23) (fun a27 => some a27))) else (if x0 = 105 then (xw (xU a 95 0 ((a 95 0) + 1)) (fun a29 => xw (xU a29 95 1 ((a29 95 1) + 1)) (fun a32 => some a32))) else (if x0 = 126 then (xb2 (f84_pop N h b a) (fun r39 a40 => xb1 (f88_push N h b (r39 ^^^ (-1)) a40) (fun a44 => some a44))) else (xb2 (f84_pop N h b a) (fun r48 a49 => xb2 (f84_pop N h b a49) (fun r53 a54 => xb2 (f90_combined N h b x0 r53 r48 a54) (fun r58 a59 => xb1 (f88_push N h b r58 a59) (fun a63 => some a63))))))))))

def j82_333 (N h b : Nat) (rc : Int32 → Int32 → xA → Option (Nat × xA)) (w3 : Nat) (w5 : Int32) (q6 : Int32) (q8 : Int32) (a : xA) : Option (Nat × xA) :=
  rc q8 (q6 + 1) a

def j82_201 (N h b : Nat) (rc : Int32 → Int32 → xA → Option (Nat × xA)) (w3 : Nat) (w5 : Int32) (q6 : Int32) (t0 : Int32) (a : xA) : Option (Nat × xA) :=
  j82_333 N h b (rc) w3 w5 q6 t0 a

def l82_34 (N h b : Nat) (w3 : Nat) (w5 : Int32) : Nat → Int32 → Int32 → xA → Option (Nat × xA)
  | 0, _, _, _ => none
  | n + 1, v4, v6, a => if 40 ≤ v6 then (some (0, a)) else (if w5 ≤ v4 then (some (0, a)) else (xb2 (f58_tokenLength N h b w3 v4 w5 a) (fun r23 a24 => if 2 ≤ r23 then (xg (¬ (v4 + 1 < 0 ∨ xl h b w3 ≤ (v4 + 1).toNatClampNeg)) (if (a24 w3 ((v4 + 1).toNatClampNeg)) = 39 then (xg (¬ (v4 + 2 < 0 ∨ xl h b w3 ≤ (v4 + 2).toNatClampNeg)) (xb1 (f88_push N h b (a24 w3 ((v4 + 2).toNatClampNeg)) a24) (fun a32 => j82_333 N h b (l82_34 N h b w3 w5 n) w3 w5 v6 (v4 + (xmax 1 r23)) a32))) else (if (a24 w3 ((v4 + 1).toNatClampNeg)) = 48 then (xb2 (f84_pop N h b a24) (fun r37 a38 => xg (¬ (v4 + 2 < 0 ∨ xl h b w3 ≤ (v4 + 2).toNatClampNeg)) (xb1 (f86_makeDecimal N h b r37 ((a38 w3 ((v4 + 2).toNatClampNeg)) - 48) 48 a38) (fun a43 => j82_333 N h b (l82_34 N h b w3 w5 n) w3 w5 v6 (v4 + (xmax 1 r23)) a43)))) else (if (a24 w3 ((v4 + 1).toNatClampNeg)) = 50 ∨ (a24 w3 ((v4 + 1).toNatClampNeg)) = 51 then (xb2 (f84_pop N h b a24) (fun r48 a49 => xb1 (f86_makeDecimal N h b r48 ((a24 w3 ((v4 + 1).toNatClampNeg)) - 48) 32 a49) (fun a53 => j82_333 N h b (l82_34 N h b w3 w5 n) w3 w5 v6 (v4 + (xmax 1 r23)) a53))) else (if (a24 w3 ((v4 + 1).toNatClampNeg)) = 100 then (xb2 (f84_pop N h b a24) (fun r58 a59 => xb1 (f86_makeDecimal N h b r58 0 32 a59) (fun a63 => j82_333 N h b (l82_34 N h b w3 w5 n) w3 w5 v6 (v4 + (xmax 1 r23)) a63))) else (if (a24 w3 ((v4 + 1).toNatClampNeg)) = 101 then (xb2 (f85_skip N h b w3 (v4 + (xmax 1 r23)) w5 0 a24) (fun r68 a69 => j82_333 N h b (l82_34 N h b w3 w5 n) w3 w5 v6 r68 a69)) else (if (a24 w3 ((v4 + 1).toNatClampNeg)) = 112 then (xg (¬ (v4 + 2 < 0 ∨ xl h b w3 ≤ (v4 + 2).toNatClampNeg)) (xg (¬ (((a24 w3 ((v4 + 2).toNatClampNeg)) - 49) &&& 3 < 0 ∨ 4 ≤ (((a24 w3 ((v4 + 2).toNatClampNeg)) - 49) &&& 3).toNatClampNeg)) (xb1 (f88_push N h b (a24 95 ((((a24 w3 ((v4 + 2).toNatClampNeg)) - 49) &&& 3).toNatClampNeg)) a24) (fun a76 => j82_333 N h b (l82_34 N h b w3 w5 n) w3 w5 v6 (v4 + (xmax 1 r23)) a76)))) else (if (a24 w3 ((v4 + 1).toNatClampNeg)) = 116 then (xb2 (f84_pop N h b a24) (fun r81 a82 => if r81 = 0 then (xb2 (f85_skip N h b w3 (v4 + (xmax 1 r23)) w5 1 a82) (fun r88 a89 => j82_201 N h b (l82_34 N h b w3 w5 n) w3 w5 v6 r88 a89)) else (j82_201 N h b (l82_34 N h b w3 w5 n) w3 w5 v6 (v4 + (xmax 1 r23)) a82))) else (if (a24 w3 ((v4 + 1).toNatClampNeg)) = 123 then (xb2 (f87_numberAt N h b w3 (v4 + 2) w5 a24) (fun r94 a95 => xb1 (f88_push N h b r94 a95) (fun a99 => j82_333 N h b (l82_34 N h b w3 w5 n) w3 w5 v6 (v4 + (xmax 1 r23)) a99))) else (xb1 (f89_operate N h b (a24 w3 ((v4 + 1).toNatClampNeg)) a24) (fun a103 => j82_333 N h b (l82_34 N h b w3 w5 n) w3 w5 v6 (v4 + (xmax 1 r23)) a103))))))))))) else (xg (¬ (v4 < 0 ∨ xl h b w3 ≤ v4.toNatClampNeg)) (xb1 (f83_make N h b (a24 w3 (v4.toNatClampNeg)) a24) (fun a108 => j82_333 N h b (l82_34 N h b w3 w5 n) w3 w5 v6 (v4 + (xmax 1 r23)) a108))))))

/-- TerminalHouse$Machine.putTogether(LTerminalHouse$Entry;I)I -/
def f82_putTogether (N h b : Nat) (x0 : Nat) (x1 : Int32) (a : xA) : Option (Int32 × xA) :=
  xg (xk x0 = 3) (xb2 (f60_startOf N h b x1 a) (fun r5 a6 => xb2 (f65_lengthOf N h b x0 x1 a6) (fun r10 a11 => xw (xU a11 93 1 0) (fun a12 => xw (xU a12 93 4 0) (fun a15 => (l82_34 N h b (x0 + 5) (r5 + r10) N r5 0 a15).bind (fun z109 => some (z109.2 93 4, z109.2)))))))

/-- TerminalHouse$Painter.measured(II)I -/
def f80_measured (N h b : Nat) (x0 : Int32) (x1 : Int32) (a : xA) : Option (Int32 × xA) :=
  xg (¬ (a 97 6) = -1) (xg (xk ((a 97 6).toNatClampNeg) = 3) (xb2 (f74_has N h b ((a 97 6).toNatClampNeg) x0 a) (fun r6 a7 => if r6 = 0 then (some (1000000, a7)) else (xg ((a7 97 7) = 93) (xb1 (f81_setParameters N h b x1 0 0 0 a7) (fun a13 => xg (¬ (a13 97 6) = -1) (xg ((a13 97 7) = 93) (xb2 (f82_putTogether N h b ((a13 97 6).toNatClampNeg) x0 a13) (fun r19 a20 => some (r19, a20))))))))))

def l79_3 (N h b : Nat) : Nat → Int32 → xA → Option (Nat × xA)
  | 0, _, _ => none
  | n + 1, v1, a => if 39 ≤ v1 then (some (0, a)) else (xb2 (f80_measured N h b v1 0 a) (fun r5 a6 => xg (¬ (v1 < 0 ∨ 39 ≤ v1.toNatClampNeg)) (xw (xU a6 106 (v1.toNatClampNeg) r5) (fun a7 => l79_3 N h b n (v1 + 1) a7))))

def l79_38 (N h b : Nat) (w1 : Int32) : Nat → Int32 → xA → Option (Nat × xA)
  | 0, _, _ => none
  | n + 1, v2, a => if 80 ≤ v2 then (some (0, a)) else (xg (¬ (w1 - 14 < 0 ∨ 6 ≤ (w1 - 14).toNatClampNeg)) (xb2 (f80_measured N h b w1 v2 a) (fun r19 a20 => xg (¬ (v2 < 0 ∨ xl h b (108 + (w1 - 14).toNatClampNeg) ≤ v2.toNatClampNeg)) (xw (xU a20 (108 + (w1 - 14).toNatClampNeg) (v2.toNatClampNeg) r19) (fun a21 => l79_38 N h b w1 n (v2 + 1) a21)))))

def l79_30 (N h b : Nat) : Nat → Int32 → xA → Option (Nat × xA)
  | 0, _, _ => none
  | n + 1, v1, a => if 19 < v1 then (some (0, a)) else ((l79_38 N h b v1 N 0 a).bind (fun z25 => l79_30 N h b n (v1 + 1) z25.2))

/-- TerminalHouse$Painter.measureStrings()V -/
def f79_measureStrings (N h b : Nat) (a : xA) : Option (xA) :=
  (l79_3 N h b N 6 a).bind (fun z11 => (l79_30 N h b N 14 z11.2).bind (fun z27 => some z27.2))

def j76_184 (N h b : Nat) (rc : Int32 → xA → Option (Nat × xA)) (q3 : Int32) (a : xA) : Option (Nat × xA) :=
  rc (q3 + 1) a

def l76_141 (N h b : Nat) : Nat → Int32 → xA → Option (Nat × xA)
  | 0, _, _ => none
  | n + 1, v3, a => if 4 ≤ v3 then (some (0, a)) else (xg (¬ (a 97 6) = -1) (xg (xk ((a 97 6).toNatClampNeg) = 3) (xb2 (f74_has N h b ((a 97 6).toNatClampNeg) (26 + v3) a) (fun r76 a77 => if r76 = 0 then (j76_184 N h b (l76_141 N h b n) v3 a77) else (xg (¬ (a77 97 6) = -1) (xg (xk ((a77 97 6).toNatClampNeg) = 3) (xb2 (f74_has N h b ((a77 97 6).toNatClampNeg) 25 a77) (fun r85 a86 => if r85 = 0 then (j76_184 N h b (l76_141 N h b n) v3 a86) else (xw (xU a86 97 10 ((a86 97 10) ||| ((1 : Int32) <<< (v3 &&& 31)))) (fun a89 => j76_184 N h b (l76_141 N h b n) v3 a89))))))))))

def j76_131 (N h b : Nat) (t0 : Int32) (a : xA) : Option (xA) :=
  xw (xU a 97 11 t0) (fun a64 => xw (xU a64 97 10 0) (fun a67 => (l76_141 N h b N 0 a67).bind (fun z92 => xb1 (f79_measureStrings N h b z92.2) (fun a97 => some a97))))

def j76_130 (N h b : Nat) (a : xA) : Option (xA) :=
  j76_131 N h b 0 a

/-- TerminalHouse$Painter.begin(LTerminalHouse$Entry;LTerminalHouse$Machine;)V -/
def f76_begin (N h b : Nat) (x0 : Nat) (a : xA) : Option (xA) :=
  xg (xk x0 = 3) (xw (xU a 97 6 (Int32.ofNat x0)) (fun a2 => xw (xU a2 97 7 (Int32.ofNat 93)) (fun a5 => xg (¬ (a5 97 6) = -1) (xg (xk ((a5 97 6).toNatClampNeg) = 3) (xb2 (f77_number N h b ((a5 97 6).toNatClampNeg) 4 a5) (fun r13 a14 => xb2 (f10_nearest N h b r13 1 24 a14) (fun r18 a19 => xw (xU a19 97 8 r18) (fun a20 => xg (¬ (a20 97 6) = -1) (xg (xk ((a20 97 6).toNatClampNeg) = 3) (xb2 (f77_number N h b ((a20 97 6).toNatClampNeg) 3 a20) (fun r28 a29 => xb2 (f10_nearest N h b r28 1 80 a29) (fun r33 a34 => xw (xU a34 97 9 r33) (fun a35 => xb1 (f78_begin N h b 98 0 0 (a35 97 8) (a35 97 9) a35) (fun a41 => xb1 (f78_begin N h b 100 0 0 (a41 97 8) (a41 97 9) a41) (fun a45 => xw (xU a45 97 12 0) (fun a46 => xw (xU a46 97 13 1) (fun a49 => xw (xU a49 97 14 0) (fun a52 => xg (¬ (a52 97 6) = -1) (xg (xk ((a52 97 6).toNatClampNeg) = 3) (xb2 (f74_has N h b ((a52 97 6).toNatClampNeg) 21 a52) (fun r60 a61 => if r60 = 0 then (j76_130 N h b a61) else (xg (¬ (a61 97 6) = -1) (xg (xk ((a61 97 6).toNatClampNeg) = 3) (xb2 (f74_has N h b ((a61 97 6).toNatClampNeg) 5 a61) (fun r103 a104 => if r103 = 0 then (j76_130 N h b a104) else (xg (¬ (a104 97 6) = -1) (xg (xk ((a104 97 6).toNatClampNeg) = 3) (xb2 (f77_number N h b ((a104 97 6).toNatClampNeg) 5 a104) (fun r112 a113 => j76_131 N h b r112 a113)))))))))))))))))))))))))))))

/-- TerminalHouse.use()I -/
def f71_use (N h b : Nat) (a : xA) : Option (Int32 × xA) :=
  xb2 (f72_entryNamed N h b 1 (a 0 1) a) (fun r4 a5 => xw (xU a5 0 1 0) (fun a6 => if r4 = -1 then (some ((-1), a6)) else (xg (xk r4.toNatClampNeg = 3) (xb2 (f73_isUsable N h b r4.toNatClampNeg a6) (fun r14 a15 => if r14 = 0 then (some ((-2), a15)) else (xw (xU a15 0 14 (Int32.ofNat r4.toNatClampNeg)) (fun a17 => xb1 (f75_closeWindows N h b a17) (fun a23 => xb1 (f76_begin N h b r4.toNatClampNeg a23) (fun a27 => some (0, a27))))))))))

/-- TerminalHouse$Reader.forget()V -/
def f92_forget (N h b : Nat) (a : xA) : Option (xA) :=
  xw (xU a 3 1 0) (fun a1 => some a1)

/-- TerminalHouse.empty()V -/
def f91_empty (N h b : Nat) (a : xA) : Option (xA) :=
  xb1 (f92_forget N h b a) (fun a4 => xw (xU a4 0 14 (-1)) (fun a5 => xb1 (f75_closeWindows N h b a5) (fun a11 => some a11)))

/-- TerminalHouse.ability()I -/
def f93_ability (N h b : Nat) (a : xA) : Option (Int32 × xA) :=
  xb2 (f44_abilityNamed N h b 1 0 (a 0 1) a) (fun r4 a5 => xw (xU a5 0 1 0) (fun a6 => if (a6 0 14) = -1 then (some ((-1), a6)) else (if r4 = (-1) then (some ((-1), a6)) else (if 3 ≤ r4 then (xg (xk ((a6 0 14).toNatClampNeg) = 3) (xb2 (f74_has N h b ((a6 0 14).toNatClampNeg) r4 a6) (fun r16 a17 => if r16 = 0 then (some ((-1), a17)) else (if 6 ≤ r4 then (xg (¬ (a17 0 14) = -1) (xg (xk ((a17 0 14).toNatClampNeg) = 3) (xb2 (f65_lengthOf N h b ((a17 0 14).toNatClampNeg) r4 a17) (fun r25 a26 => xg (¬ (a26 0 14) = -1) (xg (xk ((a26 0 14).toNatClampNeg) = 3) (xb2 (f60_startOf N h b r4 a26) (fun r32 a33 => xg (¬ r32 < 0 ∧ ¬ (0 : Int32) < 0 ∧ ¬ r25 < 0 ∧ r32.toNatClampNeg + r25.toNatClampNeg ≤ xl h b ((a26 0 14).toNatClampNeg + 5) ∧ (0 : Int32).toNatClampNeg + r25.toNatClampNeg ≤ 300) (xw (xW a33 2 (va_cpy (a33 ((a26 0 14).toNatClampNeg + 5)) (a33 2) (r32.toNatClampNeg) ((0 : Int32).toNatClampNeg) (r25.toNatClampNeg))) (fun a35 => xw (xU a35 0 3 r25) (fun a38 => some (r25, a38))))))))))) else (xg (¬ (a17 0 14) = -1) (xg (xk ((a17 0 14).toNatClampNeg) = 3) (xb2 (f77_number N h b ((a17 0 14).toNatClampNeg) r4 a17) (fun r46 a47 => some (r46, a47))))))))) else (xg (xk ((a6 0 14).toNatClampNeg) = 3) (xb2 (f74_has N h b ((a6 0 14).toNatClampNeg) r4 a6) (fun r52 a53 => some ((if r52 = 0 then (0 : Int32) else (1 : Int32)), a53))))))))

/-- TerminalHouse.expand(IIII)I -/
def f94_expand (N h b : Nat) (x0 : Int32) (x1 : Int32) (x2 : Int32) (x3 : Int32) (a : xA) : Option (Int32 × xA) :=
  xb2 (f44_abilityNamed N h b 1 0 (a 0 1) a) (fun r4 a5 => xw (xU a5 0 1 0) (fun a6 => if (a6 0 14) = -1 then (some ((-1), a6)) else (if r4 < 6 then (some ((-1), a6)) else (xg (xk ((a6 0 14).toNatClampNeg) = 3) (xb2 (f74_has N h b ((a6 0 14).toNatClampNeg) r4 a6) (fun r16 a17 => if r16 = 0 then (some ((-1), a17)) else (xb1 (f81_setParameters N h b x0 x1 x2 x3 a17) (fun a22 => xg (¬ (a22 0 14) = -1) (xb2 (f82_putTogether N h b ((a22 0 14).toNatClampNeg) r4 a22) (fun r27 a28 => xw (xU a28 0 3 r27) (fun a29 => xg (¬ (0 : Int32) < 0 ∧ ¬ (0 : Int32) < 0 ∧ ¬ a29 0 3 < 0 ∧ (0 : Int32).toNatClampNeg + (a29 0 3).toNatClampNeg ≤ 60 ∧ (0 : Int32).toNatClampNeg + (a29 0 3).toNatClampNeg ≤ 300) (xw (xW a29 2 (va_cpy (a29 96) (a29 2) ((0 : Int32).toNatClampNeg) ((0 : Int32).toNatClampNeg) ((a29 0 3).toNatClampNeg))) (fun a33 => some (a33 0 3, a33))))))))))))))

/-- TerminalHouse$Window.wouldHold(IIII)Z -/
def f96_wouldHold (N h b : Nat) (o : Nat) (x0 : Int32) (x1 : Int32) (x2 : Int32) (x3 : Int32) (a : xA) : Option (Int32 × xA) :=
  xg (xk o = 10) (if x2 < 1 then (some (0, a)) else (if x3 < 1 then (some (0, a)) else (if (a o 4) < x2 then (some (0, a)) else (if (a o 5) < x3 then (some (0, a)) else (if x0 < 0 then (some (0, a)) else (if x1 < 0 then (some (0, a)) else (if ((a o 4) - x2) < x0 then (some (0, a)) else (xg ((if ((a o 5) - x3) < x1 then (0 : Int32) else (1 : Int32)) = 0 ∨ (if ((a o 5) - x3) < x1 then (0 : Int32) else (1 : Int32)) = 1) (some ((if ((a o 5) - x3) < x1 then (0 : Int32) else (1 : Int32)), a))))))))))

def l95_30 (N h b : Nat) (w1 : Int32) (w2 : Int32) (w3 : Int32) (w4 : Int32) : Nat → Int32 → xA → Option (Nat × Int32 × xA)
  | 0, _, _ => none
  | n + 1, v5, a => if 8 ≤ v5 then (some (1, v5, a)) else (xg (¬ (v5 < 0 ∨ 8 ≤ v5.toNatClampNeg)) (if (a (141 + 2 * v5.toNatClampNeg) 1) = 0 then (some (0, v5, a)) else (l95_30 N h b w1 w2 w3 w4 n (v5 + 1) a)))

/-- TerminalHouse.open(IIII)I -/
def f95_open (N h b : Nat) (x0 : Int32) (x1 : Int32) (x2 : Int32) (x3 : Int32) (a : xA) : Option (Int32 × xA) :=
  if (a 0 14) = -1 then (some ((-1), a)) else (xb2 (f96_wouldHold N h b 98 x0 x1 x2 x3 a) (fun r5 a6 => if r5 = 0 then (some ((-1), a6)) else ((l95_30 N h b x0 x1 x2 x3 N 0 a6).bind (fun z11 => if z11.1 = 0 then (xg (¬ (z11.2.1 < 0 ∨ 8 ≤ z11.2.1.toNatClampNeg)) (xb1 (f78_begin N h b (141 + 2 * z11.2.1.toNatClampNeg) x0 x1 x2 x3 z11.2.2) (fun a17 => some (z11.2.1, a17)))) else (some ((-1), z11.2.2))))))

/-- TerminalHouse.openWindow(I)LTerminalHouse$Window; -/
def f98_openWindow (N h b : Nat) (x0 : Int32) (a : xA) : Option (Int32 × xA) :=
  if x0 < 0 then (some ((-1), a)) else (if 8 ≤ x0 then (some ((-1), a)) else (xg (¬ (x0 < 0 ∨ 8 ≤ x0.toNatClampNeg)) (if (a (141 + 2 * x0.toNatClampNeg) 1) = 0 then (some ((-1), a)) else (some ((Int32.ofNat (141 + 2 * x0.toNatClampNeg)), a)))))

/-- TerminalHouse.close(I)Z -/
def f97_close (N h b : Nat) (x0 : Int32) (a : xA) : Option (Int32 × xA) :=
  xb2 (f98_openWindow N h b x0 a) (fun r4 a5 => if r4 = -1 then (some (0, a5)) else (xg (xk r4.toNatClampNeg = 10) (xw (xU a5 r4.toNatClampNeg 1 0) (fun a8 => some (1, a8)))))

/-- TerminalHouse$Window.hasCell(II)Z -/
def f100_hasCell (N h b : Nat) (o : Nat) (x0 : Int32) (x1 : Int32) (a : xA) : Option (Int32 × xA) :=
  xg (xk o = 10) (if x0 < 0 then (some (0, a)) else (if (a o 4) ≤ x0 then (some (0, a)) else (if x1 < 0 then (some (0, a)) else (xg ((if (a o 5) ≤ x1 then (0 : Int32) else (1 : Int32)) = 0 ∨ (if (a o 5) ≤ x1 then (0 : Int32) else (1 : Int32)) = 1) (some ((if (a o 5) ≤ x1 then (0 : Int32) else (1 : Int32)), a))))))

/-- TerminalHouse.at(III)Z -/
def f99_at (N h b : Nat) (x0 : Int32) (x1 : Int32) (x2 : Int32) (a : xA) : Option (Int32 × xA) :=
  xb2 (f98_openWindow N h b x0 a) (fun r4 a5 => if r4 = -1 then (some (0, a5)) else (xg (xk r4.toNatClampNeg = 10) (xb2 (f100_hasCell N h b r4.toNatClampNeg x1 x2 a5) (fun r11 a12 => if r11 = 0 then (some (0, a12)) else (xw (xU a12 r4.toNatClampNeg 6 x1) (fun a14 => xw (xU a14 r4.toNatClampNeg 7 x2) (fun a17 => some (1, a17))))))))

/-- TerminalHouse.dress(II)Z -/
def f101_dress (N h b : Nat) (x0 : Int32) (x1 : Int32) (a : xA) : Option (Int32 × xA) :=
  xb2 (f98_openWindow N h b x0 a) (fun r4 a5 => if r4 = -1 then (some (0, a5)) else (if x1 < 0 then (some (0, a5)) else (if x1 ≤ 15 then (xg (xk r4.toNatClampNeg = 10) (xw (xU a5 r4.toNatClampNeg 8 x1) (fun a12 => some (1, a12)))) else (some (0, a5)))))

/-- TerminalHouse.scrolls(IZ)Z -/
def f102_scrolls (N h b : Nat) (x0 : Int32) (x1 : Int32) (a : xA) : Option (Int32 × xA) :=
  xb2 (f98_openWindow N h b x0 a) (fun r4 a5 => if r4 = -1 then (some (0, a5)) else (xg (xk r4.toNatClampNeg = 10) (xg (x1 = 0 ∨ x1 = 1) (xw (xU a5 r4.toNatClampNeg 9 x1) (fun a8 => some (1, a8))))))

def j108_28 (N h b : Nat) (q0 : Nat) (q1 : Int32) (q2 : Int32) (q4 : Int32) (a : xA) : Option (xA) :=
  xb1 (f14_fill N h b q0 q1 (q1 + q2) q4 a) (fun a13 => some a13)

/-- TerminalHouse.slide([IIIII)V -/
def f108_slide (N h b : Nat) (x0 : Nat) (x1 : Int32) (x2 : Int32) (x3 : Int32) (x4 : Int32) (a : xA) : Option (xA) :=
  xg (xk x0 = 100) (if x1 < 0 then (some a) else (if x2 ≤ 0 then (some a) else (if x2 ≤ ((Int32.ofNat (xl h b x0)) - x1) then (if x2 ≤ x3 then (j108_28 N h b x0 x1 x2 x4 a) else (if (-x2) < x3 then (if x3 < 0 then (xg (¬ x1 - x3 < 0 ∧ ¬ x1 < 0 ∧ ¬ x2 + x3 < 0 ∧ (x1 - x3).toNatClampNeg + (x2 + x3).toNatClampNeg ≤ xl h b x0 ∧ x1.toNatClampNeg + (x2 + x3).toNatClampNeg ≤ xl h b x0) (xw (xW a x0 (va_cpy (a x0) (a x0) ((x1 - x3).toNatClampNeg) (x1.toNatClampNeg) ((x2 + x3).toNatClampNeg))) (fun a18 => xb1 (f14_fill N h b x0 ((x1 + x2) + x3) (x1 + x2) x4 a18) (fun a24 => some a24)))) else (xg (¬ x1 < 0 ∧ ¬ x1 + x3 < 0 ∧ ¬ x2 - x3 < 0 ∧ x1.toNatClampNeg + (x2 - x3).toNatClampNeg ≤ xl h b x0 ∧ (x1 + x3).toNatClampNeg + (x2 - x3).toNatClampNeg ≤ xl h b x0) (xw (xW a x0 (va_cpy (a x0) (a x0) (x1.toNatClampNeg) ((x1 + x3).toNatClampNeg) ((x2 - x3).toNatClampNeg))) (fun a26 => xb1 (f14_fill N h b x0 x1 (x1 + x3) x4 a26) (fun a32 => some a32))))) else (j108_28 N h b x0 x1 x2 x4 a))) else (some a))))

/-- TerminalHouse$Window.slideRows(II)V -/
def f107_slideRows (N h b : Nat) (o : Nat) (x0 : Int32) (x1 : Int32) (a : xA) : Option (xA) :=
  xg (xk o = 10) (xb2 (f10_nearest N h b x1 (-(a o 4)) (a o 4) a) (fun r5 a6 => xb1 (f108_slide N h b (o + 1) (x0 * (a6 o 5)) (((a6 o 4) - x0) * (a6 o 5)) (r5 * (a6 o 5)) 32 a6) (fun a10 => some a10)))

def j106_44 (N h b : Nat) (q0 : Nat) (a : xA) : Option (Int32 × xA) :=
  xw (xU a q0 7 0) (fun a10 => some (1, a10))

/-- TerminalHouse$Window.goToNextRow()Z -/
def f106_goToNextRow (N h b : Nat) (o : Nat) (a : xA) : Option (Int32 × xA) :=
  xg (xk o = 10) (if ((a o 4) - 1) ≤ (a o 6) then (if (a o 9) = 0 then (some (0, a)) else (xb1 (f107_slideRows N h b o 0 (-1) a) (fun a9 => j106_44 N h b o a9))) else (xw (xU a o 6 ((a o 6) + 1)) (fun a13 => j106_44 N h b o a13)))

def j105_22 (N h b : Nat) (q0 : Nat) (a : xA) : Option (Int32 × xA) :=
  xb1 (f14_fill N h b (q0 + 1) (((a q0 6) * (a q0 5)) + (a q0 7)) (((a q0 6) + 1) * (a q0 5)) 32 a) (fun a8 => xb2 (f106_goToNextRow N h b q0 a8) (fun r12 a13 => xg (r12 = 0 ∨ r12 = 1) (some (r12, a13))))

/-- TerminalHouse$Window.breakLine()Z -/
def f105_breakLine (N h b : Nat) (o : Nat) (a : xA) : Option (Int32 × xA) :=
  xg (xk o = 10) (if (a o 6) < ((a o 4) - 1) then (j105_22 N h b o a) else (if (a o 9) = 0 then (some (0, a)) else (j105_22 N h b o a)))

/-- TerminalHouse.isPrintable(I)Z -/
def f110_isPrintable (N h b : Nat) (x0 : Int32) (a : xA) : Option (Int32 × xA) :=
  if x0 < 32 then (some (0, a)) else (xg ((if 126 < x0 then (0 : Int32) else (1 : Int32)) = 0 ∨ (if 126 < x0 then (0 : Int32) else (1 : Int32)) = 1) (some ((if 126 < x0 then (0 : Int32) else (1 : Int32)), a)))

/-- TerminalHouse$Window.saySign(I)Z -/
def f111_saySign (N h b : Nat) (o : Nat) (x0 : Int32) (a : xA) : Option (Int32 × xA) :=
  xg (xk o = 10) (xg (¬ (((a o 6) * (a o 5)) + (a o 7) < 0 ∨ xl h b (o + 1) ≤ (((a o 6) * (a o 5)) + (a o 7)).toNatClampNeg)) (xw (xU a (o + 1) ((((a o 6) * (a o 5)) + (a o 7)).toNatClampNeg) (x0 + (256 * (a o 8)))) (fun a2 => if ((a2 o 5) - 1) ≤ (a2 o 7) then (xb2 (f106_goToNextRow N h b o a2) (fun r10 a11 => xg (r10 = 0 ∨ r10 = 1) (some (r10, a11)))) else (xw (xU a2 o 7 ((a2 o 7) + 1)) (fun a13 => some (1, a13))))))

def l109_50 (N h b : Nat) (w0 : Nat) (w3 : Int32) : Nat → Int32 → Int32 → xA → Option (Nat × Int32 × xA)
  | 0, _, _, _ => none
  | n + 1, v2, v4, a => if w3 ≤ v4 then (some (0, v2, a)) else (if v2 = 0 then (some (0, v2, a)) else (xb2 (f111_saySign N h b w0 32 a) (fun r16 a17 => l109_50 N h b w0 w3 n r16 (v4 + 1) a17)))

def j109_73 (N h b : Nat) (q2 : Int32) (a : xA) : Option (Int32 × xA) :=
  xg (q2 = 0 ∨ q2 = 1) (some (q2, a))

/-- TerminalHouse$Window.sayByte(I)Z -/
def f109_sayByte (N h b : Nat) (o : Nat) (x0 : Int32) (a : xA) : Option (Int32 × xA) :=
  xg (xk o = 10) (xb2 (f110_isPrintable N h b x0 a) (fun r5 a6 => if r5 = 0 then (if x0 = 9 then ((l109_50 N h b o (xmin (8 - ((a6 o 7) - (a6 o 7) / 8 * 8)) ((a6 o 5) - (a6 o 7))) N 1 0 a6).bind (fun z18 => j109_73 N h b z18.2.1 z18.2.2)) else (if x0 = 13 then (xw (xU a6 o 7 0) (fun a23 => some (1, a23))) else (if x0 = 8 then (if (a6 o 7) ≤ 0 then (some (1, a6)) else (xw (xU a6 o 7 ((a6 o 7) - 1)) (fun a31 => some (1, a31)))) else (some (1, a6))))) else (xb2 (f111_saySign N h b o x0 a6) (fun r37 a38 => xg (r37 = 0 ∨ r37 = 1) (some (r37, a38))))))

def j104_61 (N h b : Nat) (rc : Int32 → xA → Option (Nat × Int32 × xA)) (w1 : Nat) (q2 : Int32) (a : xA) : Option (Nat × Int32 × xA) :=
  rc (q2 + 1) a

def l104_2 (N h b : Nat) (w1 : Nat) : Nat → Int32 → xA → Option (Nat × Int32 × xA)
  | 0, _, _ => none
  | n + 1, v2, a => if (a 0 1) ≤ v2 then (some (2, v2, a)) else (xg (¬ (v2 < 0 ∨ 3000 ≤ v2.toNatClampNeg)) (if (a 1 (v2.toNatClampNeg)) = 10 then (xb2 (f105_breakLine N h b w1 a) (fun r9 a10 => if r9 = 0 then (some (0, v2, a10)) else (j104_61 N h b (l104_2 N h b w1 n) w1 v2 a10))) else (if (a 1 (v2.toNatClampNeg)) = 7 then (xw (xU a 97 12 1) (fun a14 => j104_61 N h b (l104_2 N h b w1 n) w1 v2 a14)) else (xb2 (f109_sayByte N h b w1 (a 1 (v2.toNatClampNeg)) a) (fun r20 a21 => if r20 = 0 then (some (1, v2, a21)) else (j104_61 N h b (l104_2 N h b w1 n) w1 v2 a21))))))

/-- TerminalHouse.sayTape(LTerminalHouse$Window;)I -/
def f104_sayTape (N h b : Nat) (x0 : Nat) (a : xA) : Option (Int32 × xA) :=
  xg (xk x0 = 10) ((l104_2 N h b x0 N 0 a).bind (fun z23 => if z23.1 = 0 then (some (z23.2.1, z23.2.2)) else (if z23.1 = 1 then (some (z23.2.1 + 1, z23.2.2)) else (some (z23.2.2 0 1, z23.2.2)))))

def j103_19 (N h b : Nat) (t0 : Int32) (a : xA) : Option (Int32 × xA) :=
  xw (xU a 0 1 0) (fun a7 => some (t0, a7))

/-- TerminalHouse.say(I)I -/
def f103_say (N h b : Nat) (x0 : Int32) (a : xA) : Option (Int32 × xA) :=
  xb2 (f98_openWindow N h b x0 a) (fun r4 a5 => if r4 = -1 then (j103_19 N h b (-1) a5) else (xb2 (f104_sayTape N h b r4.toNatClampNeg a5) (fun r13 a14 => j103_19 N h b r13 a14)))

/-- TerminalHouse$Window.blankOut(I)Z -/
def f113_blankOut (N h b : Nat) (o : Nat) (x0 : Int32) (a : xA) : Option (Int32 × xA) :=
  xg (xk o = 10) (if x0 = 0 then (xb1 (f14_fill N h b (o + 1) 0 ((a o 4) * (a o 5)) 32 a) (fun a6 => xw (xU a6 o 6 0) (fun a7 => xw (xU a7 o 7 0) (fun a10 => some (1, a10))))) else (if x0 = 1 then (xb1 (f14_fill N h b (o + 1) (((a o 6) * (a o 5)) + (a o 7)) ((a o 4) * (a o 5)) 32 a) (fun a17 => some (1, a17))) else (if x0 = 2 then (xb1 (f14_fill N h b (o + 1) (((a o 6) * (a o 5)) + (a o 7)) (((a o 6) + 1) * (a o 5)) 32 a) (fun a22 => some (1, a22))) else (some (0, a)))))

/-- TerminalHouse.erase(II)Z -/
def f112_erase (N h b : Nat) (x0 : Int32) (x1 : Int32) (a : xA) : Option (Int32 × xA) :=
  xb2 (f98_openWindow N h b x0 a) (fun r4 a5 => if r4 = -1 then (some (0, a5)) else (xg (xk r4.toNatClampNeg = 10) (xb2 (f113_blankOut N h b r4.toNatClampNeg x1 a5) (fun r11 a12 => xg ((if r11 = 0 then (0 : Int32) else (1 : Int32)) = 0 ∨ (if r11 = 0 then (0 : Int32) else (1 : Int32)) = 1) (some ((if r11 = 0 then (0 : Int32) else (1 : Int32)), a12))))))

/-- TerminalHouse.rows(II)Z -/
def f114_rows (N h b : Nat) (x0 : Int32) (x1 : Int32) (a : xA) : Option (Int32 × xA) :=
  xb2 (f98_openWindow N h b x0 a) (fun r4 a5 => if r4 = -1 then (some (0, a5)) else (xg (xk r4.toNatClampNeg = 10) (xb1 (f107_slideRows N h b r4.toNatClampNeg (a5 r4.toNatClampNeg 6) x1 a5) (fun a11 => some (1, a11)))))

/-- TerminalHouse.cells(II)Z -/
def f115_cells (N h b : Nat) (x0 : Int32) (x1 : Int32) (a : xA) : Option (Int32 × xA) :=
  xb2 (f98_openWindow N h b x0 a) (fun r4 a5 => if r4 = -1 then (some (0, a5)) else (xg (xk r4.toNatClampNeg = 10) (xb1 (f108_slide N h b (r4.toNatClampNeg + 1) (((a5 r4.toNatClampNeg 6) * (a5 r4.toNatClampNeg 5)) + (a5 r4.toNatClampNeg 7)) ((a5 r4.toNatClampNeg 5) - (a5 r4.toNatClampNeg 7)) x1 32 a5) (fun a11 => some (1, a11)))))

def j116_27 (N h b : Nat) (t0 : Int32) (t1 : Int32) (t2 : Nat) (a : xA) : Option (Int32 × xA) :=
  xg (xk t2 = 10) (xb1 (f107_slideRows N h b t2 t1 t0 a) (fun a13 => some (1, a13)))

/-- TerminalHouse.roll(II)Z -/
def f116_roll (N h b : Nat) (x0 : Int32) (x1 : Int32) (a : xA) : Option (Int32 × xA) :=
  xb2 (f98_openWindow N h b x0 a) (fun r4 a5 => if r4 = -1 then (some (0, a5)) else (if x1 = (-2147483648) then (j116_27 N h b 2147483647 0 r4.toNatClampNeg a5) else (j116_27 N h b (-x1) 0 r4.toNatClampNeg a5)))

def j118_117 (N h b : Nat) (rc : Int32 → xA → Option (Nat × xA)) (w0 : Nat) (w1 : Int32) (q2 : Int32) (a : xA) : Option (Nat × xA) :=
  rc (q2 + 1) a

def j118_70 (N h b : Nat) (rc : Int32 → xA → Option (Nat × xA)) (w0 : Nat) (w1 : Int32) (q2 : Int32) (q3 : Int32) (q4 : Int32) (a : xA) : Option (Nat × xA) :=
  xg (¬ ((w1 * (a w0 5)) + q2 < 0 ∨ xl h b (w0 + 1) ≤ ((w1 * (a w0 5)) + q2).toNatClampNeg)) (xw (xU a (w0 + 1) (((w1 * (a w0 5)) + q2).toNatClampNeg) ((if q4 = 0 then (45 : Int32) else (if q3 = 0 then (124 : Int32) else (43 : Int32))) + (256 * (a w0 8)))) (fun a18 => j118_117 N h b (rc) w0 w1 q2 a18))

def j118_59 (N h b : Nat) (rc : Int32 → xA → Option (Nat × xA)) (w0 : Nat) (w1 : Int32) (q2 : Int32) (q3 : Int32) (t0 : Int32) (a : xA) : Option (Nat × xA) :=
  if q3 = 0 then (if t0 = 0 then (j118_117 N h b (rc) w0 w1 q2 a) else (j118_70 N h b (rc) w0 w1 q2 q3 t0 a)) else (j118_70 N h b (rc) w0 w1 q2 q3 t0 a)

def j118_54 (N h b : Nat) (rc : Int32 → xA → Option (Nat × xA)) (w0 : Nat) (w1 : Int32) (q2 : Int32) (q3 : Int32) (a : xA) : Option (Nat × xA) :=
  j118_59 N h b (rc) w0 w1 q2 q3 1 a

def j118_39 (N h b : Nat) (rc : Int32 → xA → Option (Nat × xA)) (w0 : Nat) (w1 : Int32) (q2 : Int32) (t0 : Int32) (a : xA) : Option (Nat × xA) :=
  if q2 = 0 then (j118_54 N h b (rc) w0 w1 q2 t0 a) else (if t0 = 0 then (if (if q2 = ((a w0 5) - 1) then (1 : Int32) else (0 : Int32)) = 0 then (j118_117 N h b (rc) w0 w1 q2 a) else (j118_70 N h b (rc) w0 w1 q2 t0 (if q2 = ((a w0 5) - 1) then (1 : Int32) else (0 : Int32)) a)) else (j118_70 N h b (rc) w0 w1 q2 t0 (if q2 = ((a w0 5) - 1) then (1 : Int32) else (0 : Int32)) a))

def j118_34 (N h b : Nat) (rc : Int32 → xA → Option (Nat × xA)) (w0 : Nat) (w1 : Int32) (q2 : Int32) (a : xA) : Option (Nat × xA) :=
  j118_39 N h b (rc) w0 w1 q2 1 a

def l118_12 (N h b : Nat) (w0 : Nat) (w1 : Int32) : Nat → Int32 → xA → Option (Nat × xA)
  | 0, _, _ => none
  | n + 1, v2, a => if (a w0 5) ≤ v2 then (some (0, a)) else (if w1 = 0 then (j118_34 N h b (l118_12 N h b w0 w1 n) w0 w1 v2 a) else (if v2 = 0 then (j118_54 N h b (l118_12 N h b w0 w1 n) w0 w1 v2 (if w1 = ((a w0 4) - 1) then (1 : Int32) else (0 : Int32)) a) else (if (if w1 = ((a w0 4) - 1) then (1 : Int32) else (0 : Int32)) = 0 then (if (if v2 = ((a w0 5) - 1) then (1 : Int32) else (0 : Int32)) = 0 then (j118_117 N h b (l118_12 N h b w0 w1 n) w0 w1 v2 a) else (j118_70 N h b (l118_12 N h b w0 w1 n) w0 w1 v2 (if w1 = ((a w0 4) - 1) then (1 : Int32) else (0 : Int32)) (if v2 = ((a w0 5) - 1) then (1 : Int32) else (0 : Int32)) a)) else (j118_70 N h b (l118_12 N h b w0 w1 n) w0 w1 v2 (if w1 = ((a w0 4) - 1) then (1 : Int32) else (0 : Int32)) (if v2 = ((a w0 5) - 1) then (1 : Int32) else (0 : Int32)) a))))

def l118_2 (N h b : Nat) (w0 : Nat) : Nat → Int32 → xA → Option (Nat × xA)
  | 0, _, _ => none
  | n + 1, v1, a => if (a w0 4) ≤ v1 then (some (0, a)) else ((l118_12 N h b w0 v1 N 0 a).bind (fun z40 => l118_2 N h b w0 n (v1 + 1) z40.2))

/-- TerminalHouse$Window.drawEdge()V -/
def f118_drawEdge (N h b : Nat) (o : Nat) (a : xA) : Option (xA) :=
  xg (xk o = 10) ((l118_2 N h b o N 0 a).bind (fun z42 => some z42.2))

/-- TerminalHouse.box(I)Z -/
def f117_box (N h b : Nat) (x0 : Int32) (a : xA) : Option (Int32 × xA) :=
  xb2 (f98_openWindow N h b x0 a) (fun r4 a5 => if r4 = -1 then (some (0, a5)) else (xg (xk r4.toNatClampNeg = 10) (xb1 (f118_drawEdge N h b r4.toNatClampNeg a5) (fun a11 => some (1, a11)))))

/-- TerminalHouse$Window.cell(II)I -/
def f120_cell (N h b : Nat) (o : Nat) (x0 : Int32) (x1 : Int32) (a : xA) : Option (Int32 × xA) :=
  xg (xk o = 10) (xb2 (f100_hasCell N h b o x0 x1 a) (fun r5 a6 => if r5 = 0 then (some ((-1), a6)) else (xg (¬ ((x0 * (a6 o 5)) + x1 < 0 ∨ xl h b (o + 1) ≤ ((x0 * (a6 o 5)) + x1).toNatClampNeg)) (some (a6 (o + 1) (((x0 * (a6 o 5)) + x1).toNatClampNeg), a6)))))

/-- TerminalHouse.look(III)I -/
def f119_look (N h b : Nat) (x0 : Int32) (x1 : Int32) (x2 : Int32) (a : xA) : Option (Int32 × xA) :=
  xb2 (f98_openWindow N h b x0 a) (fun r4 a5 => if r4 = -1 then (some ((-1), a5)) else (xg (xk r4.toNatClampNeg = 10) (xb2 (f120_cell N h b r4.toNatClampNeg x1 x2 a5) (fun r11 a12 => some (r11, a12)))))

/-- TerminalHouse$Window.tell(I)I -/
def f122_tell (N h b : Nat) (o : Nat) (x0 : Int32) (a : xA) : Option (Int32 × xA) :=
  xg (xk o = 10) (if x0 = 0 then (some (a o 2, a)) else (if x0 = 1 then (some (a o 3, a)) else (if x0 = 2 then (some (a o 4, a)) else (if x0 = 3 then (some (a o 5, a)) else (if x0 = 4 then (some (a o 6, a)) else (if x0 = 5 then (some (a o 7, a)) else (if x0 = 6 then (some (a o 8, a)) else (if x0 = 7 then (some ((if (a o 9) = 0 then (0 : Int32) else (1 : Int32)), a)) else (some ((-1), a))))))))))

/-- TerminalHouse.where(II)I -/
def f121_where (N h b : Nat) (x0 : Int32) (x1 : Int32) (a : xA) : Option (Int32 × xA) :=
  xb2 (f98_openWindow N h b x0 a) (fun r4 a5 => if r4 = -1 then (some ((-1), a5)) else (xg (xk r4.toNatClampNeg = 10) (xb2 (f122_tell N h b r4.toNatClampNeg x1 a5) (fun r11 a12 => some (r11, a12)))))

def j124_85 (N h b : Nat) (rc : Int32 → Int32 → xA → Option (Nat × Int32 × xA)) (w0 : Nat) (w1 : Nat) (w3 : Int32) (q2 : Int32) (q4 : Int32) (a : xA) : Option (Nat × Int32 × xA) :=
  rc q2 (q4 + 1) a

def l124_15 (N h b : Nat) (w0 : Nat) (w1 : Nat) (w3 : Int32) : Nat → Int32 → Int32 → xA → Option (Nat × Int32 × xA)
  | 0, _, _, _ => none
  | n + 1, v2, v4, a => if (a w0 5) ≤ v4 then (some (0, v2, a)) else (xg (¬ ((w3 * (a w0 5)) + v4 < 0 ∨ xl h b (w0 + 1) ≤ ((w3 * (a w0 5)) + v4).toNatClampNeg)) (xg (¬ (((((a w0 2) + w3) * (a w1 5)) + (a w0 3)) + v4 < 0 ∨ xl h b (w1 + 1) ≤ (((((a w0 2) + w3) * (a w1 5)) + (a w0 3)) + v4).toNatClampNeg)) (if (a (w1 + 1) ((((((a w0 2) + w3) * (a w1 5)) + (a w0 3)) + v4).toNatClampNeg)) = (a (w0 + 1) (((w3 * (a w0 5)) + v4).toNatClampNeg)) then (j124_85 N h b (l124_15 N h b w0 w1 w3 n) w0 w1 w3 v2 v4 a) else (xw (xU a (w1 + 1) ((((((a w0 2) + w3) * (a w1 5)) + (a w0 3)) + v4).toNatClampNeg) (a (w0 + 1) (((w3 * (a w0 5)) + v4).toNatClampNeg))) (fun a9 => j124_85 N h b (l124_15 N h b w0 w1 w3 n) w0 w1 w3 (v2 + 1) v4 a9)))))

def l124_4 (N h b : Nat) (w0 : Nat) (w1 : Nat) : Nat → Int32 → Int32 → xA → Option (Nat × Int32 × xA)
  | 0, _, _, _ => none
  | n + 1, v2, v3, a => if (a w0 4) ≤ v3 then (some (0, v2, a)) else ((l124_15 N h b w0 w1 v3 N v2 0 a).bind (fun z12 => l124_4 N h b w0 w1 n z12.2.1 (v3 + 1) z12.2.2))

/-- TerminalHouse$Window.copyTo(LTerminalHouse$Window;)I -/
def f124_copyTo (N h b : Nat) (o : Nat) (x0 : Nat) (a : xA) : Option (Int32 × xA) :=
  xg (xk o = 10) (xg (xk x0 = 10) ((l124_4 N h b o x0 N 0 0 a).bind (fun z14 => xw (xU z14.2.2 x0 6 ((z14.2.2 o 2) + (z14.2.2 o 6))) (fun a16 => xw (xU a16 x0 7 ((a16 o 3) + (a16 o 7))) (fun a19 => some (z14.2.1, a19))))))

/-- TerminalHouse.show(I)I -/
def f123_show (N h b : Nat) (x0 : Int32) (a : xA) : Option (Int32 × xA) :=
  xb2 (f98_openWindow N h b x0 a) (fun r4 a5 => if r4 = -1 then (some ((-1), a5)) else (xg (xk r4.toNatClampNeg = 10) (xb2 (f124_copyTo N h b r4.toNatClampNeg 98 a5) (fun r11 a12 => some (r11, a12)))))

/-- TerminalHouse$Bytes.room()I -/
def f126_room (N h b : Nat) (o : Nat) (a : xA) : Option (Int32 × xA) :=
  xg (xk o = 1) (some ((Int32.ofNat (xl h b (o + 1))) - (a o 2), a))

/-- TerminalHouse$Window.become(LTerminalHouse$Window;)V -/
def f128_become (N h b : Nat) (o : Nat) (x0 : Nat) (a : xA) : Option (xA) :=
  xg (xk o = 10) (xg (xk x0 = 10) (xb1 (f78_begin N h b o (a x0 2) (a x0 3) (a x0 4) (a x0 5) a) (fun a6 => xw (xU a6 o 6 (a6 x0 6)) (fun a7 => xw (xU a7 o 7 (a7 x0 7)) (fun a10 => xw (xU a10 o 8 (a10 x0 8)) (fun a13 => xg (¬ (0 : Int32) < 0 ∧ ¬ (0 : Int32) < 0 ∧ ¬ (a13 o 4) * (a13 o 5) < 0 ∧ (0 : Int32).toNatClampNeg + ((a13 o 4) * (a13 o 5)).toNatClampNeg ≤ xl h b (x0 + 1) ∧ (0 : Int32).toNatClampNeg + ((a13 o 4) * (a13 o 5)).toNatClampNeg ≤ xl h b (o + 1)) (xw (xW a13 (o + 1) (va_cpy (a13 (x0 + 1)) (a13 (o + 1)) ((0 : Int32).toNatClampNeg) ((0 : Int32).toNatClampNeg) (((a13 o 4) * (a13 o 5)).toNatClampNeg))) (fun a17 => some a17))))))))

def l129_2 (N h b : Nat) : Nat → Int32 → xA → Option (Nat × xA)
  | 0, _, _ => none
  | n + 1, v1, a => if ((a 97 8) * (a 97 9)) ≤ v1 then (some (0, a)) else (xg (¬ (v1 < 0 ∨ 1920 ≤ v1.toNatClampNeg)) (xw (xU a 104 (v1.toNatClampNeg) (((a 99 (v1.toNatClampNeg)) &&& 255) + (256 * (((a 99 (v1.toNatClampNeg)) >>> ((8 : Int32) &&& 31)) &&& (a 97 10))))) (fun a3 => l129_2 N h b n (v1 + 1) a3)))

/-- TerminalHouse$Painter.takeAim()V -/
def f129_takeAim (N h b : Nat) (a : xA) : Option (xA) :=
  (l129_2 N h b N 0 a).bind (fun z6 => some z6.2)

def j131_20 (N h b : Nat) (a : xA) : Option (xA) :=
  xw (xU a 97 5 ((a 97 5) + 1)) (fun a3 => some a3)

/-- TerminalHouse$Painter.addByte(I)V -/
def f131_addByte (N h b : Nat) (x0 : Int32) (a : xA) : Option (xA) :=
  if 6000 ≤ (a 97 5) then (j131_20 N h b a) else (xg (¬ (a 97 5 < 0 ∨ 6000 ≤ (a 97 5).toNatClampNeg)) (xw (xU a 105 ((a 97 5).toNatClampNeg) x0) (fun a6 => j131_20 N h b a6)))

def l130_50 (N h b : Nat) (w2 : Int32) (w5 : Int32) (w6 : Int32) : Nat → Int32 → xA → Option (Nat × xA)
  | 0, _, _ => none
  | n + 1, v7, a => if w5 ≤ v7 then (some (0, a)) else (xg ((a 97 7) = 93) (xg (¬ (v7 < 0 ∨ 60 ≤ v7.toNatClampNeg)) (xb1 (f131_addByte N h b (a 96 (v7.toNatClampNeg)) a) (fun a28 => l130_50 N h b w2 w5 w6 n (v7 + 1) a28))))

def l130_41 (N h b : Nat) (w2 : Int32) (w5 : Int32) : Nat → Int32 → xA → Option (Nat × xA)
  | 0, _, _ => none
  | n + 1, v6, a => if w2 ≤ v6 then (some (0, a)) else ((l130_50 N h b w2 w5 v6 N 0 a).bind (fun z29 => l130_41 N h b w2 w5 n (v6 + 1) z29.2))

/-- TerminalHouse$Painter.send(IIII)V -/
def f130_send (N h b : Nat) (x0 : Int32) (x1 : Int32) (x2 : Int32) (x3 : Int32) (a : xA) : Option (xA) :=
  xg (¬ (a 97 6) = -1) (xg (xk ((a 97 6).toNatClampNeg) = 3) (xb2 (f74_has N h b ((a 97 6).toNatClampNeg) x0 a) (fun r6 a7 => if r6 = 0 then (some a7) else (xg ((a7 97 7) = 93) (xb1 (f81_setParameters N h b x2 x3 0 0 a7) (fun a13 => xg (¬ (a13 97 6) = -1) (xg ((a13 97 7) = 93) (xb2 (f82_putTogether N h b ((a13 97 6).toNatClampNeg) x0 a13) (fun r19 a20 => (l130_41 N h b x1 r19 N 0 a20).bind (fun z31 => some z31.2))))))))))

/-- TerminalHouse$Painter.startAnew()V -/
def f132_startAnew (N h b : Nat) (a : xA) : Option (xA) :=
  xb1 (f130_send N h b 30 1 0 0 a) (fun a4 => xb1 (f130_send N h b 25 1 0 0 a4) (fun a8 => xb1 (f130_send N h b 23 1 0 ((a8 97 8) - 1) a8) (fun a12 => xb1 (f130_send N h b 7 1 0 0 a12) (fun a16 => xb1 (f78_begin N h b 100 0 0 (a16 97 8) (a16 97 9) a16) (fun a20 => xw (xU a20 97 14 1) (fun a21 => xw (xU a21 97 13 0) (fun a24 => some a24)))))))

def j136_37 (N h b : Nat) (t0 : Int32) (a : xA) : Option (Int32 × xA) :=
  some ((if t0 = 0 then (a 97 9) else ((a 97 9) - 1)), a)

def j136_36 (N h b : Nat) (a : xA) : Option (Int32 × xA) :=
  j136_37 N h b 0 a

/-- TerminalHouse$Painter.paintable(I)I -/
def f136_paintable (N h b : Nat) (x0 : Int32) (a : xA) : Option (Int32 × xA) :=
  if x0 = ((a 97 8) - 1) then (xg (¬ (a 97 6) = -1) (xg (xk ((a 97 6).toNatClampNeg) = 3) (xb2 (f74_has N h b ((a 97 6).toNatClampNeg) 0 a) (fun r8 a9 => if r8 = 0 then (j136_36 N h b a9) else (xg (¬ (a9 97 6) = -1) (xg (xk ((a9 97 6).toNatClampNeg) = 3) (xb2 (f74_has N h b ((a9 97 6).toNatClampNeg) 1 a9) (fun r18 a19 => some ((if (if r18 = 0 then (1 : Int32) else (0 : Int32)) = 0 then (a19 97 9) else ((a19 97 9) - 1)), a19))))))))) else (j136_36 N h b a)

def j135_45 (N h b : Nat) (rc : Int32 → xA → Option (Nat × xA)) (w1 : Int32) (w2 : Int32) (w3 : Int32) (q4 : Int32) (t0 : Int32) (a : xA) : Option (Nat × xA) :=
  xg (¬ ((w1 * (a 97 9)) + q4 < 0 ∨ 1920 ≤ ((w1 * (a 97 9)) + q4).toNatClampNeg)) (if (a 104 (((w1 * (a 97 9)) + q4).toNatClampNeg)) = t0 then (rc (q4 + 1) a) else (some (0, a)))

def l135_9 (N h b : Nat) (w1 : Int32) (w2 : Int32) (w3 : Int32) : Nat → Int32 → xA → Option (Nat × xA)
  | 0, _, _ => none
  | n + 1, v4, a => if w3 ≤ v4 then (some (1, a)) else (if (a 97 8) ≤ w2 then (j135_45 N h b (l135_9 N h b w1 w2 w3 n) w1 w2 w3 v4 32 a) else (xg (¬ ((w2 * (a 97 9)) + v4 < 0 ∨ 1920 ≤ ((w2 * (a 97 9)) + v4).toNatClampNeg)) (j135_45 N h b (l135_9 N h b w1 w2 w3 n) w1 w2 w3 v4 (a 101 (((w2 * (a 97 9)) + v4).toNatClampNeg)) a)))

/-- TerminalHouse$Painter.isRowUnlike(II)Z -/
def f135_isRowUnlike (N h b : Nat) (x0 : Int32) (x1 : Int32) (a : xA) : Option (Int32 × xA) :=
  xb2 (f136_paintable N h b x0 a) (fun r4 a5 => (l135_9 N h b x0 x1 r4 N 0 a5).bind (fun z12 => if z12.1 = 0 then (some (1, z12.2)) else (some (0, z12.2))))

def j134_26 (N h b : Nat) (rc : Int32 → Int32 → xA → Option (Nat × Int32 × xA)) (w1 : Int32) (q2 : Int32) (q3 : Int32) (a : xA) : Option (Nat × Int32 × xA) :=
  rc q2 (q3 + 1) a

def l134_4 (N h b : Nat) (w1 : Int32) : Nat → Int32 → Int32 → xA → Option (Nat × Int32 × xA)
  | 0, _, _, _ => none
  | n + 1, v2, v3, a => if (a 97 8) ≤ v3 then (some (0, v2, a)) else (xb2 (f135_isRowUnlike N h b v3 (v3 + w1) a) (fun r5 a6 => if r5 = 0 then (j134_26 N h b (l134_4 N h b w1 n) w1 v2 v3 a6) else (j134_26 N h b (l134_4 N h b w1 n) w1 (v2 + 1) v3 a6)))

/-- TerminalHouse$Painter.rowsUnlike(I)I -/
def f134_rowsUnlike (N h b : Nat) (x0 : Int32) (a : xA) : Option (Int32 × xA) :=
  (l134_4 N h b x0 N 0 0 a).bind (fun z9 => some (z9.2.1, z9.2.2))

/-- TerminalHouse$Painter.pairLength(III)I -/
def f140_pairLength (N h b : Nat) (x0 : Int32) (x1 : Int32) (x2 : Int32) (a : xA) : Option (Int32 × xA) :=
  if x2 = 0 then (some (0, a)) else (xg (¬ (x0 < 0 ∨ 39 ≤ x0.toNatClampNeg)) (xg (¬ (x1 - 14 < 0 ∨ 6 ≤ (x1 - 14).toNatClampNeg)) (xg (¬ (x2 < 0 ∨ xl h b (108 + (x1 - 14).toNatClampNeg) ≤ x2.toNatClampNeg)) (some ((if (a (108 + (x1 - 14).toNatClampNeg) (x2.toNatClampNeg)) < (x2 * (a 106 (x0.toNatClampNeg))) then (a (108 + (x1 - 14).toNatClampNeg) (x2.toNatClampNeg)) else (x2 * (a 106 (x0.toNatClampNeg)))), a)))))

/-- TerminalHouse$Painter.downLength(II)I -/
def f139_downLength (N h b : Nat) (x0 : Int32) (x1 : Int32) (a : xA) : Option (Int32 × xA) :=
  if x1 < x0 then (xb2 (f140_pairLength N h b 10 14 (x0 - x1) a) (fun r6 a7 => some (r6, a7))) else (xb2 (f140_pairLength N h b 11 15 (x1 - x0) a) (fun r11 a12 => some (r11, a12)))

def j143_22 (N h b : Nat) (q1 : Int32) (t0 : Int32) (a : xA) : Option (Int32 × xA) :=
  some ((if t0 ≤ q1 then (-1 : Int32) else (t0)), a)

/-- TerminalHouse$Painter.lastStop(II)I -/
def f143_lastStop (N h b : Nat) (x0 : Int32) (x1 : Int32) (a : xA) : Option (Int32 × xA) :=
  if (a 97 11) ≤ 0 then (j143_22 N h b x0 (-1) a) else (xg (¬ (a 97 11) = 0) (j143_22 N h b x0 ((x1 / (a 97 11)) * (a 97 11)) a))

/-- TerminalHouse$Painter.tabsBetween(II)I -/
def f144_tabsBetween (N h b : Nat) (x0 : Int32) (x1 : Int32) (a : xA) : Option (Int32 × xA) :=
  if (a 97 11) ≤ 0 then (some (0, a)) else (xg (¬ (a 97 11) = 0) (some ((x1 / (a 97 11)) - (x0 / (a 97 11)), a)))

/-- TerminalHouse$Painter.tabsLength(II)I -/
def f142_tabsLength (N h b : Nat) (x0 : Int32) (x1 : Int32) (a : xA) : Option (Int32 × xA) :=
  xb2 (f143_lastStop N h b x0 x1 a) (fun r4 a5 => if r4 = (-1) then (some (1000000, a5)) else (xb2 (f144_tabsBetween N h b x0 r4 a5) (fun r10 a11 => xb2 (f140_pairLength N h b 13 17 (x1 - r4) a11) (fun r15 a16 => some ((r10 * (a11 106 21)) + r15, a16)))))

def l145_3 (N h b : Nat) (w1 : Int32) (w2 : Int32) (w3 : Int32) : Nat → Int32 → xA → Option (Nat × xA)
  | 0, _, _ => none
  | n + 1, v4, a => if w3 ≤ v4 then (some (1, a)) else (xg (¬ ((w1 * (a 97 9)) + v4 < 0 ∨ 1920 ≤ ((w1 * (a 97 9)) + v4).toNatClampNeg)) (if ((a 101 (((w1 * (a 97 9)) + v4).toNatClampNeg)) >>> ((8 : Int32) &&& 31)) = (a 100 8) then (l145_3 N h b w1 w2 w3 n (v4 + 1) a) else (some (0, a))))

/-- TerminalHouse$Painter.copyLength(III)I -/
def f145_copyLength (N h b : Nat) (x0 : Int32) (x1 : Int32) (x2 : Int32) (a : xA) : Option (Int32 × xA) :=
  (l145_3 N h b x0 x1 x2 N x1 a).bind (fun z4 => if z4.1 = 0 then (some (1000000, z4.2)) else (some (x2 - x1, z4.2)))

/-- TerminalHouse$Painter.acrossLength(III)I -/
def f141_acrossLength (N h b : Nat) (x0 : Int32) (x1 : Int32) (x2 : Int32) (a : xA) : Option (Int32 × xA) :=
  if x0 < x1 then (xb2 (f140_pairLength N h b 13 17 (x1 - x0) a) (fun r5 a6 => xb2 (f142_tabsLength N h b x0 x1 a6) (fun r10 a11 => xb2 (f145_copyLength N h b x2 x0 x1 a11) (fun r15 a16 => some (xmin r5 (xmin r10 r15), a16))))) else (xb2 (f140_pairLength N h b 12 16 (x0 - x1) a) (fun r20 a21 => some (r20, a21)))

def j138_199 (N h b : Nat) (q1 : Int32) (q2 : Int32) (q3 : Int32) (q4 : Int32) (a : xA) : Option (Int32 × xA) :=
  xb2 (f139_downLength N h b 0 q1 a) (fun r21 a22 => xb2 (f141_acrossLength N h b 0 q2 q1 a22) (fun r26 a27 => some ((if q4 ≤ (((a 106 8) + r21) + r26) then (q3) else (6 : Int32)), a27)))

def j138_166 (N h b : Nat) (q1 : Int32) (q2 : Int32) (q3 : Int32) (q4 : Int32) (q5 : Int32) (a : xA) : Option (Int32 × xA) :=
  xb2 (f141_acrossLength N h b 0 q2 q1 a) (fun r44 a45 => if q4 ≤ (((a 106 20) + q5) + r44) then (j138_199 N h b q1 q2 q3 q4 a45) else (j138_199 N h b q1 q2 5 (((a 106 20) + q5) + r44) a45))

def j138_114 (N h b : Nat) (q1 : Int32) (q2 : Int32) (q3 : Int32) (q4 : Int32) (a : xA) : Option (Int32 × xA) :=
  if (a 97 14) = 0 then (j138_199 N h b q1 q2 q3 q4 a) else (xb2 (f139_downLength N h b (a 100 6) q1 a) (fun r32 a33 => xb2 (f141_acrossLength N h b (a33 100 7) q2 q1 a33) (fun r37 a38 => if q4 ≤ (r32 + r37) then (j138_166 N h b q1 q2 q3 q4 r32 a38) else (j138_166 N h b q1 q2 4 (r32 + r37) r32 a38))))

def j138_71 (N h b : Nat) (q1 : Int32) (q2 : Int32) (q3 : Int32) (q4 : Int32) (a : xA) : Option (Int32 × xA) :=
  if (a 97 14) = 0 then (j138_114 N h b q1 q2 q3 q4 a) else (if (a 100 7) = q2 then (xg (¬ (q1 < 0 ∨ 80 ≤ q1.toNatClampNeg)) (if q4 ≤ (a 113 (q1.toNatClampNeg)) then (j138_114 N h b q1 q2 q3 q4 a) else (j138_114 N h b q1 q2 3 (a 113 (q1.toNatClampNeg)) a))) else (j138_114 N h b q1 q2 q3 q4 a))

/-- TerminalHouse$Painter.cheapestWay(II)I -/
def f138_cheapestWay (N h b : Nat) (x0 : Int32) (x1 : Int32) (a : xA) : Option (Int32 × xA) :=
  xg ((a 97 7) = 93) (xb1 (f81_setParameters N h b x0 x1 0 0 a) (fun a5 => xg (¬ (a5 97 6) = -1) (xg ((a5 97 7) = 93) (xb2 (f82_putTogether N h b ((a5 97 6).toNatClampNeg) 9 a5) (fun r11 a12 => if (a12 97 14) = 0 then (j138_71 N h b x0 x1 1 r11 a12) else (if (a12 100 6) = x0 then (xg (¬ (x1 < 0 ∨ 80 ≤ x1.toNatClampNeg)) (if r11 ≤ (a12 112 (x1.toNatClampNeg)) then (j138_71 N h b x0 x1 1 r11 a12) else (j138_71 N h b x0 x1 2 (a12 112 (x1.toNatClampNeg)) a12))) else (j138_71 N h b x0 x1 1 r11 a12)))))))

/-- TerminalHouse$Painter.planStep(IIII)V -/
def f147_planStep (N h b : Nat) (x0 : Int32) (x1 : Int32) (x2 : Int32) (x3 : Int32) (a : xA) : Option (xA) :=
  if (a 97 18) < 5 then (xg (¬ ((a 97 18) * 4 < 0 ∨ 20 ≤ ((a 97 18) * 4).toNatClampNeg)) (xw (xU a 114 (((a 97 18) * 4).toNatClampNeg) x0) (fun a2 => xg (¬ (((a 97 18) * 4) + 1 < 0 ∨ 20 ≤ (((a 97 18) * 4) + 1).toNatClampNeg)) (xw (xU a2 114 ((((a 97 18) * 4) + 1).toNatClampNeg) x1) (fun a6 => xg (¬ (((a 97 18) * 4) + 2 < 0 ∨ 20 ≤ (((a 97 18) * 4) + 2).toNatClampNeg)) (xw (xU a6 114 ((((a 97 18) * 4) + 2).toNatClampNeg) x2) (fun a10 => xg (¬ (((a 97 18) * 4) + 3 < 0 ∨ 20 ≤ (((a 97 18) * 4) + 3).toNatClampNeg)) (xw (xU a10 114 ((((a 97 18) * 4) + 3).toNatClampNeg) x3) (fun a14 => xw (xU a14 97 18 ((a14 97 18) + 1)) (fun a18 => some a18)))))))))) else (some a)

def j149_37 (N h b : Nat) (q2 : Int32) (q3 : Int32) (a : xA) : Option (xA) :=
  if q3 ≤ 0 then (some a) else (xb1 (f147_planStep N h b q2 1 q3 0 a) (fun a8 => some a8))

/-- TerminalHouse$Painter.planPair(III)V -/
def f149_planPair (N h b : Nat) (x0 : Int32) (x1 : Int32) (x2 : Int32) (a : xA) : Option (xA) :=
  if x2 ≤ 0 then (j149_37 N h b x1 x2 a) else (xg (¬ (x0 < 0 ∨ 39 ≤ x0.toNatClampNeg)) (xg (¬ (x1 - 14 < 0 ∨ 6 ≤ (x1 - 14).toNatClampNeg)) (xg (¬ (x2 < 0 ∨ xl h b (108 + (x1 - 14).toNatClampNeg) ≤ x2.toNatClampNeg)) (if (a (108 + (x1 - 14).toNatClampNeg) (x2.toNatClampNeg)) < (x2 * (a 106 (x0.toNatClampNeg))) then (j149_37 N h b x1 x2 a) else (xb1 (f147_planStep N h b x0 x2 0 0 a) (fun a18 => some a18))))))

/-- TerminalHouse$Painter.planDown(II)V -/
def f148_planDown (N h b : Nat) (x0 : Int32) (x1 : Int32) (a : xA) : Option (xA) :=
  if x1 < x0 then (xb1 (f149_planPair N h b 10 14 (x0 - x1) a) (fun a6 => some a6)) else (xb1 (f149_planPair N h b 11 15 (x1 - x0) a) (fun a10 => some a10))

def j150_75 (N h b : Nat) (q1 : Int32) (q2 : Int32) (q5 : Int32) (q6 : Int32) (a : xA) : Option (xA) :=
  if q6 < q5 then (xb1 (f147_planStep N h b (-1) 1 q1 q2 a) (fun a25 => some a25)) else (xb2 (f143_lastStop N h b q1 q2 a) (fun r29 a30 => xb2 (f144_tabsBetween N h b q1 r29 a30) (fun r34 a35 => xb1 (f147_planStep N h b 21 r34 0 0 a35) (fun a39 => xb1 (f149_planPair N h b 13 17 (q2 - r29) a39) (fun a43 => some a43)))))

/-- TerminalHouse$Painter.planAcross(III)V -/
def f150_planAcross (N h b : Nat) (x0 : Int32) (x1 : Int32) (x2 : Int32) (a : xA) : Option (xA) :=
  if x0 < x1 then (xb2 (f140_pairLength N h b 13 17 (x1 - x0) a) (fun r5 a6 => xb2 (f142_tabsLength N h b x0 x1 a6) (fun r10 a11 => xb2 (f145_copyLength N h b x2 x0 x1 a11) (fun r15 a16 => if r10 < r5 then (j150_75 N h b x0 x1 r10 r15 a16) else (if r15 < r5 then (j150_75 N h b x0 x1 r10 r15 a16) else (xb1 (f149_planPair N h b 13 17 (x1 - x0) a16) (fun a48 => some a48))))))) else (xb1 (f149_planPair N h b 12 16 (x0 - x1) a) (fun a52 => some a52))

/-- TerminalHouse$Painter.planWay(III)V -/
def f146_planWay (N h b : Nat) (x0 : Int32) (x1 : Int32) (x2 : Int32) (a : xA) : Option (xA) :=
  xw (xU a 97 18 0) (fun a1 => if x0 = 2 then (xb1 (f147_planStep N h b 18 1 x2 0 a1) (fun a8 => some a8)) else (if x0 = 3 then (xb1 (f147_planStep N h b 19 1 x1 0 a1) (fun a13 => some a13)) else (if x0 = 4 then (xb1 (f148_planDown N h b (a1 100 6) x1 a1) (fun a18 => xb1 (f150_planAcross N h b (a18 100 7) x2 x1 a18) (fun a22 => some a22))) else (if x0 = 5 then (xb1 (f147_planStep N h b 20 1 0 0 a1) (fun a27 => xb1 (f148_planDown N h b (a27 100 6) x1 a27) (fun a31 => xb1 (f150_planAcross N h b 0 x2 x1 a31) (fun a35 => some a35)))) else (if x0 = 6 then (xb1 (f147_planStep N h b 8 1 0 0 a1) (fun a40 => xb1 (f148_planDown N h b 0 x1 a40) (fun a44 => xb1 (f150_planAcross N h b 0 x2 x1 a44) (fun a48 => some a48)))) else (xb1 (f147_planStep N h b 9 1 x1 x2 a1) (fun a52 => some a52)))))))

def l151_3 (N h b : Nat) (w1 : Int32) (w3 : Int32) : Nat → Int32 → xA → Option (Nat × xA)
  | 0, _, _ => none
  | n + 1, v4, a => if w3 ≤ v4 then (some (0, a)) else (xg (¬ ((w1 * (a 97 9)) + v4 < 0 ∨ 1920 ≤ ((w1 * (a 97 9)) + v4).toNatClampNeg)) (xb1 (f131_addByte N h b ((a 101 (((w1 * (a 97 9)) + v4).toNatClampNeg)) &&& 255) a) (fun a6 => l151_3 N h b w1 w3 n (v4 + 1) a6)))

/-- TerminalHouse$Painter.copyKnown(III)V -/
def f151_copyKnown (N h b : Nat) (x0 : Int32) (x1 : Int32) (x2 : Int32) (a : xA) : Option (xA) :=
  (l151_3 N h b x0 x2 N x1 a).bind (fun z7 => some z7.2)

def j137_170 (N h b : Nat) (rc : Int32 → xA → Option (Nat × xA)) (w1 : Int32) (w2 : Int32) (q3 : Int32) (a : xA) : Option (Nat × xA) :=
  rc (q3 + 1) a

def l137_82 (N h b : Nat) (w1 : Int32) (w2 : Int32) : Nat → Int32 → xA → Option (Nat × xA)
  | 0, _, _ => none
  | n + 1, v3, a => if (a 97 18) ≤ v3 then (some (0, a)) else (xg (¬ (v3 * 4 < 0 ∨ 20 ≤ (v3 * 4).toNatClampNeg)) (if (a 114 ((v3 * 4).toNatClampNeg)) = (-1) then (xg (¬ ((v3 * 4) + 2 < 0 ∨ 20 ≤ ((v3 * 4) + 2).toNatClampNeg)) (xg (¬ ((v3 * 4) + 3 < 0 ∨ 20 ≤ ((v3 * 4) + 3).toNatClampNeg)) (xb1 (f151_copyKnown N h b w1 (a 114 (((v3 * 4) + 2).toNatClampNeg)) (a 114 (((v3 * 4) + 3).toNatClampNeg)) a) (fun a22 => j137_170 N h b (l137_82 N h b w1 w2 n) w1 w2 v3 a22)))) else (xg (¬ ((v3 * 4) + 1 < 0 ∨ 20 ≤ ((v3 * 4) + 1).toNatClampNeg)) (xg (¬ ((v3 * 4) + 2 < 0 ∨ 20 ≤ ((v3 * 4) + 2).toNatClampNeg)) (xg (¬ ((v3 * 4) + 3 < 0 ∨ 20 ≤ ((v3 * 4) + 3).toNatClampNeg)) (xb1 (f130_send N h b (a 114 ((v3 * 4).toNatClampNeg)) (a 114 (((v3 * 4) + 1).toNatClampNeg)) (a 114 (((v3 * 4) + 2).toNatClampNeg)) (a 114 (((v3 * 4) + 3).toNatClampNeg)) a) (fun a29 => j137_170 N h b (l137_82 N h b w1 w2 n) w1 w2 v3 a29)))))))

def j137_68 (N h b : Nat) (q1 : Int32) (q2 : Int32) (a : xA) : Option (xA) :=
  xb2 (f138_cheapestWay N h b q1 q2 a) (fun r8 a9 => xb1 (f146_planWay N h b r8 q1 q2 a9) (fun a13 => (l137_82 N h b q1 q2 N 0 a13).bind (fun z30 => xw (xU z30.2 100 6 q1) (fun a32 => xw (xU a32 100 7 q2) (fun a35 => xw (xU a35 97 14 1) (fun a38 => some a38))))))

def j137_30 (N h b : Nat) (q1 : Int32) (q2 : Int32) (a : xA) : Option (xA) :=
  if (a 100 8) = 0 then (j137_68 N h b q1 q2 a) else (xg (¬ (a 97 6) = -1) (xg (xk ((a 97 6).toNatClampNeg) = 3) (xb2 (f74_has N h b ((a 97 6).toNatClampNeg) 2 a) (fun r46 a47 => if r46 = 0 then (xb1 (f130_send N h b 25 1 0 0 a47) (fun a53 => xw (xU a53 100 8 0) (fun a54 => j137_68 N h b q1 q2 a54))) else (j137_68 N h b q1 q2 a47)))))

/-- TerminalHouse$Painter.moveTo(II)V -/
def f137_moveTo (N h b : Nat) (x0 : Int32) (x1 : Int32) (a : xA) : Option (xA) :=
  if (a 97 14) = 0 then (j137_30 N h b x0 x1 a) else (if (a 100 6) = x0 then (if (a 100 7) = x1 then (some a) else (j137_30 N h b x0 x1 a)) else (j137_30 N h b x0 x1 a))

def j133_50 (N h b : Nat) (rc : Int32 → Int32 → Int32 → xA → Option (Nat × Int32 × xA)) (q1 : Int32) (q2 : Int32) (q3 : Int32) (a : xA) : Option (Nat × Int32 × xA) :=
  rc q1 q2 (q3 + 1) a

def l133_24 (N h b : Nat) : Nat → Int32 → Int32 → Int32 → xA → Option (Nat × Int32 × xA)
  | 0, _, _, _, _ => none
  | n + 1, v1, v2, v3, a => if (a 97 8) ≤ v3 then (some (0, v1, a)) else (xb2 (f134_rowsUnlike N h b v3 a) (fun r13 a14 => if v2 ≤ r13 then (j133_50 N h b (l133_24 N h b n) v1 v2 v3 a14) else (j133_50 N h b (l133_24 N h b n) v3 r13 v3 a14)))

/-- TerminalHouse$Painter.rollUp()V -/
def f133_rollUp (N h b : Nat) (a : xA) : Option (xA) :=
  xg (¬ (a 97 6) = -1) (xg (xk ((a 97 6).toNatClampNeg) = 3) (xb2 (f74_has N h b ((a 97 6).toNatClampNeg) 22 a) (fun r6 a7 => if r6 = 0 then (some a7) else ((l133_24 N h b N 0 ((a7 97 8) + 1) 0 a7).bind (fun z17 => if z17.2.1 ≤ 0 then (some z17.2.2) else (xb1 (f137_moveTo N h b ((z17.2.2 97 8) - 1) 0 z17.2.2) (fun a24 => xb1 (f130_send N h b 22 z17.2.1 0 0 a24) (fun a28 => xb1 (f107_slideRows N h b 100 0 (-z17.2.1) a28) (fun a32 => some a32)))))))))

def l153_5 (N h b : Nat) (w1 : Int32) : Nat → Int32 → xA → Option (Nat × Int32 × xA)
  | 0, _, _ => none
  | n + 1, v2, a => if v2 ≤ 0 then (some (1, v2, a)) else (xg (¬ ((w1 + v2) - 1 < 0 ∨ 1920 ≤ ((w1 + v2) - 1).toNatClampNeg)) (if (a 104 (((w1 + v2) - 1).toNatClampNeg)) = 32 then (l153_5 N h b w1 n (v2 + (-1)) a) else (some (0, v2, a))))

/-- TerminalHouse$Painter.behindLastSign(I)I -/
def f153_behindLastSign (N h b : Nat) (x0 : Int32) (a : xA) : Option (Int32 × xA) :=
  (l153_5 N h b x0 N (a 97 9) a).bind (fun z4 => if z4.1 = 0 then (some (z4.2.1, z4.2.2)) else (some (0, z4.2.2)))

def j154_84 (N h b : Nat) (rc : Int32 → xA → Option (Nat × xA)) (w1 : Int32) (q2 : Int32) (a : xA) : Option (Nat × xA) :=
  rc (q2 + 1) a

def l154_33 (N h b : Nat) (w1 : Int32) : Nat → Int32 → xA → Option (Nat × xA)
  | 0, _, _ => none
  | n + 1, v2, a => if 4 ≤ v2 then (some (0, a)) else (if (w1 &&& ((1 : Int32) <<< (v2 &&& 31))) = 0 then (j154_84 N h b (l154_33 N h b w1 n) w1 v2 a) else (if ((a 100 8) &&& ((1 : Int32) <<< (v2 &&& 31))) = 0 then (xb1 (f130_send N h b (26 + v2) 1 0 0 a) (fun a11 => xw (xU a11 100 8 ((a11 100 8) ||| ((1 : Int32) <<< (v2 &&& 31)))) (fun a12 => j154_84 N h b (l154_33 N h b w1 n) w1 v2 a12))) else (j154_84 N h b (l154_33 N h b w1 n) w1 v2 a)))

def j154_31 (N h b : Nat) (q1 : Int32) (a : xA) : Option (xA) :=
  (l154_33 N h b q1 N 0 a).bind (fun z15 => some z15.2)

/-- TerminalHouse$Painter.dressAs(I)V -/
def f154_dressAs (N h b : Nat) (x0 : Int32) (a : xA) : Option (xA) :=
  if ((a 100 8) &&& (x0 ^^^ (-1))) = 0 then (j154_31 N h b x0 a) else (xb1 (f130_send N h b 25 1 0 0 a) (fun a20 => xw (xU a20 100 8 0) (fun a21 => j154_31 N h b x0 a21)))

def j155_99 (N h b : Nat) (a : xA) : Option (xA) :=
  xw (xU a 97 14 0) (fun a36 => some a36)

/-- TerminalHouse$Painter.paintCell(I)V -/
def f155_paintCell (N h b : Nat) (x0 : Int32) (a : xA) : Option (xA) :=
  xg (¬ (x0 < 0 ∨ 1920 ≤ x0.toNatClampNeg)) (xb1 (f131_addByte N h b ((a 104 (x0.toNatClampNeg)) &&& 255) a) (fun a5 => xw (xU a5 101 (x0.toNatClampNeg) (a5 104 (x0.toNatClampNeg))) (fun a6 => if ((a6 97 9) - 1) ≤ (a6 100 7) then (xg (¬ (a6 97 6) = -1) (xg (xk ((a6 97 6).toNatClampNeg) = 3) (xb2 (f74_has N h b ((a6 97 6).toNatClampNeg) 0 a6) (fun r15 a16 => if r15 = 0 then (some a16) else (xg (¬ (a16 97 6) = -1) (xg (xk ((a16 97 6).toNatClampNeg) = 3) (xb2 (f74_has N h b ((a16 97 6).toNatClampNeg) 1 a16) (fun r24 a25 => if r24 = 0 then (if (a25 100 6) < ((a25 97 8) - 1) then (xw (xU a25 100 6 ((a25 100 6) + 1)) (fun a30 => xw (xU a30 100 7 0) (fun a33 => some a33))) else (j155_99 N h b a25)) else (j155_99 N h b a25))))))))) else (xw (xU a6 100 7 ((a6 100 7) + 1)) (fun a39 => some a39)))))

def j152_69 (N h b : Nat) (rc : Int32 → Int32 → Int32 → xA → Option (Nat × Int32 × Int32 × xA)) (w1 : Int32) (w2 : Int32) (w5 : Int32) (q3 : Int32) (q4 : Int32) (q6 : Int32) (a : xA) : Option (Nat × Int32 × Int32 × xA) :=
  rc q3 q4 (q6 + 1) a

def l152_22 (N h b : Nat) (w1 : Int32) (w2 : Int32) (w5 : Int32) : Nat → Int32 → Int32 → Int32 → xA → Option (Nat × Int32 × Int32 × xA)
  | 0, _, _, _, _ => none
  | n + 1, v3, v4, v6, a => if w5 ≤ v6 then (some (0, v3, v4, a)) else (xg (¬ (w2 + v6 < 0 ∨ 1920 ≤ (w2 + v6).toNatClampNeg)) (if (a 104 ((w2 + v6).toNatClampNeg)) = (a 101 ((w2 + v6).toNatClampNeg)) then (j152_69 N h b (l152_22 N h b w1 w2 w5 n) w1 w2 w5 v3 v4 v6 a) else (j152_69 N h b (l152_22 N h b w1 w2 w5 n) w1 w2 w5 (if v3 = (-1) then (v6) else (v3)) v6 v6 a)))

def j152_209 (N h b : Nat) (rc : Int32 → xA → Option (Nat × xA)) (w1 : Int32) (w2 : Int32) (w6 : Int32) (w7 : Int32) (w8 : Int32) (q9 : Int32) (a : xA) : Option (Nat × xA) :=
  rc (q9 + 1) a

def l152_147 (N h b : Nat) (w1 : Int32) (w2 : Int32) (w6 : Int32) (w7 : Int32) (w8 : Int32) : Nat → Int32 → xA → Option (Nat × xA)
  | 0, _, _ => none
  | n + 1, v9, a => if w8 ≤ v9 then (some (0, a)) else (xg (¬ (w2 + v9 < 0 ∨ 1920 ≤ (w2 + v9).toNatClampNeg)) (if (a 104 ((w2 + v9).toNatClampNeg)) = (a 101 ((w2 + v9).toNatClampNeg)) then (j152_209 N h b (l152_147 N h b w1 w2 w6 w7 w8 n) w1 w2 w6 w7 w8 v9 a) else (xb1 (f137_moveTo N h b w1 v9 a) (fun a37 => xb1 (f154_dressAs N h b ((a37 104 ((w2 + v9).toNatClampNeg)) >>> ((8 : Int32) &&& 31)) a37) (fun a41 => xb1 (f155_paintCell N h b (w2 + v9) a41) (fun a45 => j152_209 N h b (l152_147 N h b w1 w2 w6 w7 w8 n) w1 w2 w6 w7 w8 v9 a45))))))

def j152_126 (N h b : Nat) (q1 : Int32) (q2 : Int32) (q3 : Int32) (q4 : Int32) (q6 : Int32) (t0 : Int32) (a : xA) : Option (xA) :=
  (l152_147 N h b q1 q2 q6 t0 (if t0 = 0 then (q4 + 1) else (q6)) N q3 a).bind (fun z46 => if t0 = 0 then (some z46.2) else (xb1 (f137_moveTo N h b q1 q6 z46.2) (fun a53 => xb1 (f154_dressAs N h b 0 a53) (fun a57 => xb1 (f130_send N h b 24 1 0 0 a57) (fun a61 => xb1 (f14_fill N h b 101 (q2 + q6) (q2 + (a61 97 9)) 32 a61) (fun a65 => some a65))))))

def j152_125 (N h b : Nat) (q1 : Int32) (q2 : Int32) (q3 : Int32) (q4 : Int32) (q6 : Int32) (a : xA) : Option (xA) :=
  j152_126 N h b q1 q2 q3 q4 q6 0 a

/-- TerminalHouse$Painter.paintRow(I)V -/
def f152_paintRow (N h b : Nat) (x0 : Int32) (a : xA) : Option (xA) :=
  xb2 (f136_paintable N h b x0 a) (fun r4 a5 => (l152_22 N h b x0 (x0 * (a 97 9)) r4 N (-1) (-1) 0 a5).bind (fun z12 => if z12.2.1 = (-1) then (some z12.2.2.2) else (xb2 (f153_behindLastSign N h b (x0 * (a 97 9)) z12.2.2.2) (fun r18 a19 => xg (¬ (a19 97 6) = -1) (xg (xk ((a19 97 6).toNatClampNeg) = 3) (xb2 (f74_has N h b ((a19 97 6).toNatClampNeg) 24 a19) (fun r25 a26 => if r25 = 0 then (j152_125 N h b x0 (x0 * (a 97 9)) z12.2.1 z12.2.2.1 (xmax z12.2.1 r18) a26) else ((l152_147 N h b x0 (x0 * (a 97 9)) (xmax z12.2.1 r18) (if ((z12.2.2.1 + 1) - (xmax z12.2.1 r18)) ≤ (a26 106 24) then (0 : Int32) else (1 : Int32)) (if (if ((z12.2.2.1 + 1) - (xmax z12.2.1 r18)) ≤ (a26 106 24) then (0 : Int32) else (1 : Int32)) = 0 then (z12.2.2.1 + 1) else (xmax z12.2.1 r18)) N z12.2.1 a26).bind (fun z68 => if (if ((z12.2.2.1 + 1) - (xmax z12.2.1 r18)) ≤ (a26 106 24) then (0 : Int32) else (1 : Int32)) = 0 then (some z68.2) else (xb1 (f137_moveTo N h b x0 (xmax z12.2.1 r18) z68.2) (fun a75 => xb1 (f154_dressAs N h b 0 a75) (fun a79 => xb1 (f130_send N h b 24 1 0 0 a79) (fun a83 => xb1 (f14_fill N h b 101 ((x0 * (a 97 9)) + (xmax z12.2.1 r18)) ((x0 * (a 97 9)) + (a83 97 9)) 32 a83) (fun a87 => some a87))))))))))))))

def l127_64 (N h b : Nat) (w1 : Int32) (w2 : Int32) (w3 : Int32) : Nat → Int32 → xA → Option (Nat × xA)
  | 0, _, _ => none
  | n + 1, v4, a => if (a 97 8) ≤ v4 then (some (0, a)) else (xb1 (f152_paintRow N h b v4 a) (fun a24 => l127_64 N h b w1 w2 w3 n (v4 + 1) a24))

def j127_126 (N h b : Nat) (q2 : Int32) (q3 : Int32) (a : xA) : Option (Int32 × xA) :=
  xb1 (f128_become N h b 100 102 a) (fun a41 => xg (q2 = 0 ∨ q2 = 1) (xw (xU a41 97 13 q2) (fun a42 => xg (q3 = 0 ∨ q3 = 1) (xw (xU a42 97 14 q3) (fun a46 => some ((-1), a46))))))

def j127_57 (N h b : Nat) (q1 : Int32) (q2 : Int32) (q3 : Int32) (a : xA) : Option (Int32 × xA) :=
  xb1 (f133_rollUp N h b a) (fun a19 => (l127_64 N h b q1 q2 q3 N 0 a19).bind (fun z25 => xb1 (f154_dressAs N h b 0 z25.2) (fun a30 => xb1 (f137_moveTo N h b (a30 98 6) (a30 98 7) a30) (fun a34 => if 6000 < (a34 97 5) then (j127_126 N h b q2 q3 a34) else (if (a34 97 5) ≤ q1 then (xw (xU a34 97 12 0) (fun a51 => some (a51 97 5, a51))) else (j127_126 N h b q2 q3 a34))))))

def j127_46 (N h b : Nat) (q1 : Int32) (q2 : Int32) (q3 : Int32) (a : xA) : Option (Int32 × xA) :=
  if (a 97 13) = 0 then (j127_57 N h b q1 q2 q3 a) else (xb1 (f132_startAnew N h b a) (fun a57 => j127_57 N h b q1 q2 q3 a57))

/-- TerminalHouse$Painter.paint(I)I -/
def f127_paint (N h b : Nat) (x0 : Int32) (a : xA) : Option (Int32 × xA) :=
  xb1 (f128_become N h b 102 100 a) (fun a4 => xw (xU a4 97 5 0) (fun a5 => xb1 (f129_takeAim N h b a5) (fun a11 => if (a11 97 12) = 0 then (j127_46 N h b x0 (a 97 13) (a 97 14) a11) else (xb1 (f130_send N h b 6 1 0 0 a11) (fun a61 => j127_46 N h b x0 (a 97 13) (a 97 14) a61)))))

/-- TerminalHouse$Bytes.add(I)Z -/
def f156_add (N h b : Nat) (o : Nat) (x0 : Int32) (a : xA) : Option (Int32 × xA) :=
  xg (xk o = 1) (if (a o 2) < (Int32.ofNat (xl h b (o + 1))) then (xg (¬ (Int32.ofNat (xl h b (o + 1))) = 0) (xg (¬ (((a o 1) + (a o 2)) - ((a o 1) + (a o 2)) / (Int32.ofNat (xl h b (o + 1))) * (Int32.ofNat (xl h b (o + 1))) < 0 ∨ xl h b (o + 1) ≤ (((a o 1) + (a o 2)) - ((a o 1) + (a o 2)) / (Int32.ofNat (xl h b (o + 1))) * (Int32.ofNat (xl h b (o + 1)))).toNatClampNeg)) (xw (xU a (o + 1) ((((a o 1) + (a o 2)) - ((a o 1) + (a o 2)) / (Int32.ofNat (xl h b (o + 1))) * (Int32.ofNat (xl h b (o + 1)))).toNatClampNeg) x0) (fun a4 => xw (xU a4 o 2 ((a4 o 2) + 1)) (fun a8 => some (1, a8)))))) else (some (0, a)))

def l125_29 (N h b : Nat) (w1 : Int32) : Nat → Int32 → xA → Option (Nat × xA)
  | 0, _, _ => none
  | n + 1, v2, a => if w1 ≤ v2 then (some (0, a)) else (xg (¬ (v2 < 0 ∨ 6000 ≤ v2.toNatClampNeg)) (xb2 (f156_add N h b 117 (a 105 (v2.toNatClampNeg)) a) (fun r17 a18 => l125_29 N h b w1 n (v2 + 1) a18)))

/-- TerminalHouse.update()I -/
def f125_update (N h b : Nat) (a : xA) : Option (Int32 × xA) :=
  if (a 0 14) = -1 then (some ((-1), a)) else (xb2 (f126_room N h b 117 a) (fun r5 a6 => xb2 (f127_paint N h b r5 a6) (fun r10 a11 => (l125_29 N h b r10 N 0 a11).bind (fun z19 => some (r10, z19.2)))))

/-- TerminalHouse.redraw()Z -/
def f157_redraw (N h b : Nat) (a : xA) : Option (Int32 × xA) :=
  if (a 0 14) = -1 then (some (0, a)) else (xw (xU a 97 13 1) (fun a2 => some (1, a2)))

def j158_17 (N h b : Nat) (a : xA) : Option (Int32 × xA) :=
  some ((-1), a)

/-- TerminalHouse.known(II)I -/
def f158_known (N h b : Nat) (x0 : Int32) (x1 : Int32) (a : xA) : Option (Int32 × xA) :=
  if (a 0 14) = -1 then (j158_17 N h b a) else (if (a 97 13) = 0 then (xb2 (f120_cell N h b 100 x0 x1 a) (fun r7 a8 => some (r7, a8))) else (j158_17 N h b a))

/-- TerminalHouse.wanted(II)I -/
def f159_wanted (N h b : Nat) (x0 : Int32) (x1 : Int32) (a : xA) : Option (Int32 × xA) :=
  if (a 0 14) = -1 then (some ((-1), a)) else (xb2 (f120_cell N h b 98 x0 x1 a) (fun r5 a6 => some (r5, a6)))

/-- TerminalHouse$Discipline.has(I)Z -/
def f162_has (N h b : Nat) (x0 : Int32) (a : xA) : Option (Int32 × xA) :=
  xg ((if ((a 116 3) &&& x0) = 0 then (0 : Int32) else (1 : Int32)) = 0 ∨ (if ((a 116 3) &&& x0) = 0 then (0 : Int32) else (1 : Int32)) = 1) (some ((if ((a 116 3) &&& x0) = 0 then (0 : Int32) else (1 : Int32)), a))

/-- TerminalHouse$Bytes.size()I -/
def f163_size (N h b : Nat) (o : Nat) (a : xA) : Option (Int32 × xA) :=
  xg (xk o = 1) (some (a o 2, a))

def j164_12 (N h b : Nat) (a : xA) : Option (Int32 × xA) :=
  some ((-1), a)

/-- TerminalHouse$Bytes.get(I)I -/
def f164_get (N h b : Nat) (o : Nat) (x0 : Int32) (a : xA) : Option (Int32 × xA) :=
  xg (xk o = 1) (if x0 < 0 then (j164_12 N h b a) else (if x0 < (a o 2) then (xg (¬ (Int32.ofNat (xl h b (o + 1))) = 0) (xg (¬ (((a o 1) + x0) - ((a o 1) + x0) / (Int32.ofNat (xl h b (o + 1))) * (Int32.ofNat (xl h b (o + 1))) < 0 ∨ xl h b (o + 1) ≤ (((a o 1) + x0) - ((a o 1) + x0) / (Int32.ofNat (xl h b (o + 1))) * (Int32.ofNat (xl h b (o + 1)))).toNatClampNeg)) (some (a (o + 1) ((((a o 1) + x0) - ((a o 1) + x0) / (Int32.ofNat (xl h b (o + 1))) * (Int32.ofNat (xl h b (o + 1)))).toNatClampNeg), a)))) else (j164_12 N h b a)))

/-- TerminalHouse$Bytes.clear()V -/
def f165_clear (N h b : Nat) (o : Nat) (a : xA) : Option (xA) :=
  xg (xk o = 1) (xw (xU a o 2 0) (fun a2 => some a2))

def l161_26 (N h b : Nat) (w2 : Int32) : Nat → Int32 → xA → Option (Nat × xA)
  | 0, _, _ => none
  | n + 1, v3, a => xb2 (f163_size N h b 119 a) (fun r16 a17 => if r16 ≤ v3 then (some (0, a17)) else (xb2 (f164_get N h b 119 v3 a17) (fun r22 a23 => xb2 (f156_add N h b 121 r22 a23) (fun r27 a28 => l161_26 N h b w2 n (v3 + 1) a28))))

/-- TerminalHouse$Discipline.changeFlags(I)I -/
def f161_changeFlags (N h b : Nat) (x0 : Int32) (a : xA) : Option (Int32 × xA) :=
  xw (xU a 116 3 x0) (fun a1 => if ((a 116 3) &&& 1) = 0 then (some (a 116 3, a1)) else (xb2 (f162_has N h b 1 a1) (fun r9 a10 => if r9 = 0 then ((l161_26 N h b (a 116 3) N 0 a10).bind (fun z29 => xb1 (f165_clear N h b 119 z29.2) (fun a34 => xw (xU a34 116 5 0) (fun a35 => some (a 116 3, a35))))) else (some (a 116 3, a10)))))

/-- TerminalHouse.flags(I)I -/
def f160_flags (N h b : Nat) (x0 : Int32) (a : xA) : Option (Int32 × xA) :=
  xb2 (f161_changeFlags N h b (x0 &&& 255) a) (fun r4 a5 => some (r4, a5))

/-- TerminalHouse$Discipline.enqueue(I)I -/
def f168_enqueue (N h b : Nat) (x0 : Int32) (a : xA) : Option (Int32 × xA) :=
  xb2 (f156_add N h b 117 x0 a) (fun r4 a5 => if r4 = 0 then (xw (xU a5 116 9 ((a5 116 9) + 1)) (fun a7 => some (0, a7))) else (some (1, a5)))

/-- TerminalHouse$Discipline.columnBehind(II)I -/
def f169_columnBehind (N h b : Nat) (x0 : Int32) (x1 : Int32) (a : xA) : Option (Int32 × xA) :=
  if x1 = 8 then (some (xmax 0 (x0 - 1), a)) else (if x1 = 9 then (some (xmin 10000 (((x0 / 8) + 1) * 8), a)) else (if x1 = 10 then (xb2 (f162_has N h b 16 a) (fun r7 a8 => some ((if r7 = 0 then (x0) else (0 : Int32)), a8))) else (if x1 = 13 then (some (0, a)) else (xb2 (f110_isPrintable N h b x1 a) (fun r14 a15 => if r14 = 0 then (some (x0, a15)) else (some (xmin 10000 (x0 + 1), a15)))))))

def j167_88 (N h b : Nat) (q1 : Int32) (q2 : Int32) (a : xA) : Option (Int32 × xA) :=
  xb2 (f169_columnBehind N h b (a 116 7) q1 a) (fun r26 a27 => xw (xU a27 116 7 r26) (fun a28 => some (q2, a28)))

def j167_82 (N h b : Nat) (q1 : Int32) (a : xA) : Option (Int32 × xA) :=
  xb2 (f168_enqueue N h b q1 a) (fun r21 a22 => j167_88 N h b q1 r21 a22)

def l167_58 (N h b : Nat) (w1 : Int32) : Nat → Int32 → Int32 → xA → Option (Nat × Int32 × xA)
  | 0, _, _, _ => none
  | n + 1, v2, v3, a => if 8 ≤ v3 then (some (0, v2, a)) else (xb2 (f168_enqueue N h b 32 a) (fun r35 a36 => l167_58 N h b w1 n (v2 + r35) (v3 + 1) a36))

def j167_34 (N h b : Nat) (q1 : Int32) (q2 : Int32) (a : xA) : Option (Int32 × xA) :=
  if q1 = 9 then (xb2 (f162_has N h b 128 a) (fun r14 a15 => if r14 = 0 then (j167_82 N h b q1 a15) else ((l167_58 N h b q1 N q2 ((a15 116 7) - (a15 116 7) / 8 * 8) a15).bind (fun z37 => j167_88 N h b q1 z37.2.1 z37.2.2)))) else (j167_82 N h b q1 a)

/-- TerminalHouse$Discipline.put(I)I -/
def f167_put (N h b : Nat) (x0 : Int32) (a : xA) : Option (Int32 × xA) :=
  if x0 = 10 then (xb2 (f162_has N h b 16 a) (fun r6 a7 => if r6 = 0 then (j167_34 N h b x0 0 a7) else (xb2 (f168_enqueue N h b 13 a7) (fun r42 a43 => xb2 (f168_enqueue N h b 10 a43) (fun r47 a48 => j167_88 N h b x0 (r42 + r47) a48))))) else (j167_34 N h b x0 0 a)

def l166_4 (N h b : Nat) : Nat → Int32 → Int32 → xA → Option (Nat × Int32 × xA)
  | 0, _, _, _ => none
  | n + 1, v1, v2, a => if (a 0 1) ≤ v2 then (some (0, v1, a)) else (xg (¬ (v2 < 0 ∨ 3000 ≤ v2.toNatClampNeg)) (xb2 (f167_put N h b (a 1 (v2.toNatClampNeg)) a) (fun r6 a7 => l166_4 N h b n (v1 + r6) (v2 + 1) a7)))

/-- TerminalHouse.write()I -/
def f166_write (N h b : Nat) (a : xA) : Option (Int32 × xA) :=
  (l166_4 N h b N 0 0 a).bind (fun z8 => xw (xU z8.2.2 0 1 0) (fun a10 => some (z8.2.1, a10)))

/-- TerminalHouse$Bytes.takeFirst()I -/
def f172_takeFirst (N h b : Nat) (o : Nat) (a : xA) : Option (Int32 × xA) :=
  xg (xk o = 1) (xb2 (f164_get N h b o 0 a) (fun r5 a6 => if (a6 o 2) ≤ 0 then (some (r5, a6)) else (xg (¬ (Int32.ofNat (xl h b (o + 1))) = 0) (xw (xU a6 o 1 (((a6 o 1) + 1) - ((a6 o 1) + 1) / (Int32.ofNat (xl h b (o + 1))) * (Int32.ofNat (xl h b (o + 1))))) (fun a10 => xw (xU a10 o 2 ((a10 o 2) - 1)) (fun a13 => some (r5, a13)))))))

def j171_111 (N h b : Nat) (rc : Int32 → Int32 → xA → Option (Nat × Int32 × xA)) (w1 : Int32) (w2 : Nat) (w4 : Int32) (q3 : Int32) (q5 : Int32) (a : xA) : Option (Nat × Int32 × xA) :=
  rc q3 (q5 + 1) a

def j171_75 (N h b : Nat) (rc : Int32 → Int32 → xA → Option (Nat × Int32 × xA)) (w1 : Int32) (w2 : Nat) (w4 : Int32) (q3 : Int32) (q5 : Int32) (q6 : Int32) (q7 : Int32) (a : xA) : Option (Nat × Int32 × xA) :=
  xb2 (f172_takeFirst N h b 121 a) (fun r22 a23 => if q7 = 0 then (if q6 = 0 then (if (Int32.ofNat (xl h b w2)) ≤ q3 then (j171_111 N h b (rc) w1 w2 w4 q3 q5 a23) else (xg (¬ (q3 < 0 ∨ xl h b w2 ≤ q3.toNatClampNeg)) (xw (xU a23 w2 (q3.toNatClampNeg) r22) (fun a29 => j171_111 N h b (rc) w1 w2 w4 (q3 + 1) q5 a29)))) else (j171_111 N h b (rc) w1 w2 w4 q3 q5 a23)) else (some (1, q3, a23)))

def j171_60 (N h b : Nat) (rc : Int32 → Int32 → xA → Option (Nat × Int32 × xA)) (w1 : Int32) (w2 : Nat) (w4 : Int32) (q3 : Int32) (q5 : Int32) (q6 : Int32) (t0 : Int32) (a : xA) : Option (Nat × Int32 × xA) :=
  if q3 < w1 then (j171_75 N h b (rc) w1 w2 w4 q3 q5 q6 t0 a) else (if t0 = 0 then (some (0, q3, a)) else (j171_75 N h b (rc) w1 w2 w4 q3 q5 q6 t0 a))
