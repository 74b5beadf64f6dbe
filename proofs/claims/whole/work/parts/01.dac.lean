/-! The program as functions. -/
/-- TerminalHouseModel.nextRow(I)Z -/
def f315_nextRow (N h b : Nat) (x0 : Int32) (a : xA) : Option (Int32 × xA) :=
  xg (¬ (x0 < 0 ∨ 8 ≤ x0.toNatClampNeg)) (if (a 177 (x0.toNatClampNeg)) = ((a 175 (x0.toNatClampNeg)) - 1) then (if (a 180 (x0.toNatClampNeg)) = 0 then (some (0, a)) else (j315_28 N h b x0 a)) else (j315_28 N h b x0 a))

/-- TerminalHouseModel.letter(II)Z -/
def f313_letter (N h b : Nat) (x0 : Int32) (x1 : Int32) (a : xA) : Option (Int32 × xA) :=
  xg (¬ (x0 < 0 ∨ 8 ≤ x0.toNatClampNeg)) (xb2 (f314_cellAt N h b x0 (a 177 (x0.toNatClampNeg)) (a 178 (x0.toNatClampNeg)) a) (fun r5 a6 => xg (¬ (r5 < 0 ∨ 15360 ≤ r5.toNatClampNeg)) (xw (xU a6 181 (r5.toNatClampNeg) (x1 + (256 * (a6 179 (x0.toNatClampNeg))))) (fun a7 => if ((a7 176 (x0.toNatClampNeg)) - 1) ≤ (a7 178 (x0.toNatClampNeg)) then (xb2 (f315_nextRow N h b x0 a7) (fun r15 a16 => xg (r15 = 0 ∨ r15 = 1) (some (r15, a16)))) else (xw (xU a7 178 (x0.toNatClampNeg) ((a7 178 (x0.toNatClampNeg)) + 1)) (fun a18 => some (1, a18)))))))

def l317_3 (N h b : Nat) (w1 : Int32) (w2 : Int32) (w4 : Int32) : Nat → Int32 → xA → Option (Nat × xA)
  | 0, _, _ => none
  | n + 1, v5, a => if w4 ≤ v5 then (some (0, a)) else (xb2 (f314_cellAt N h b w1 w2 v5 a) (fun r5 a6 => xg (¬ (r5 < 0 ∨ 15360 ≤ r5.toNatClampNeg)) (xw (xU a6 181 (r5.toNatClampNeg) 32) (fun a7 => l317_3 N h b w1 w2 w4 n (v5 + 1) a7))))

/-- TerminalHouseModel.clears(IIII)V -/
def f317_clears (N h b : Nat) (x0 : Int32) (x1 : Int32) (x2 : Int32) (x3 : Int32) (a : xA) : Option (xA) :=
  (l317_3 N h b x0 x1 x3 N x2 a).bind (fun z11 => some z11.2)

def j312_268 (N h b : Nat) (rc : Int32 → xA → Option (Nat × Int32 × xA)) (w2 : Int32) (w3 : Int32) (q4 : Int32) (q6 : Int32) (a : xA) : Option (Nat × Int32 × xA) :=
  if q6 = 0 then (some (1, q4, a)) else (rc (q4 + 1) a)

def j312_114 (N h b : Nat) (rc : Int32 → xA → Option (Nat × Int32 × xA)) (w2 : Int32) (w3 : Int32) (q4 : Int32) (q6 : Int32) (a : xA) : Option (Nat × Int32 × xA) :=
  xg (¬ (w3 < 0 ∨ 8 ≤ w3.toNatClampNeg)) (xb1 (f317_clears N h b w3 (a 177 (w3.toNatClampNeg)) (a 178 (w3.toNatClampNeg)) (a 176 (w3.toNatClampNeg)) a) (fun a27 => xb2 (f315_nextRow N h b w3 a27) (fun r31 a32 => j312_268 N h b (rc) w2 w3 q4 q6 a32)))

def l312_183 (N h b : Nat) (w2 : Int32) (w3 : Int32) (w4 : Int32) : Nat → Int32 → Int32 → xA → Option (Nat × Int32 × xA)
  | 0, _, _, _ => none
  | n + 1, v6, v7, a => if v7 ≤ 0 then (some (0, v6, a)) else (if v6 = 0 then (some (0, v6, a)) else (xb2 (f313_letter N h b w3 32 a) (fun r43 a44 => l312_183 N h b w2 w3 w4 n r43 (v7 + (-1)) a44)))

def j312_208 (N h b : Nat) (rc : Int32 → xA → Option (Nat × Int32 × xA)) (w2 : Int32) (w3 : Int32) (q4 : Int32) (q6 : Int32) (a : xA) : Option (Nat × Int32 × xA) :=
  j312_268 N h b (rc) w2 w3 q4 q6 a

def j312_78 (N h b : Nat) (rc : Int32 → xA → Option (Nat × Int32 × xA)) (w2 : Int32) (w3 : Int32) (q4 : Int32) (q5 : Int32) (q6 : Int32) (a : xA) : Option (Nat × Int32 × xA) :=
  if q5 = 10 then (xg (¬ (w3 < 0 ∨ 8 ≤ w3.toNatClampNeg)) (if (a 177 (w3.toNatClampNeg)) = ((a 175 (w3.toNatClampNeg)) - 1) then (if (a 180 (w3.toNatClampNeg)) = 0 then (some (0, q4, a)) else (j312_114 N h b (rc) w2 w3 q4 q6 a)) else (j312_114 N h b (rc) w2 w3 q4 q6 a))) else (if q5 = 9 then (xg (¬ (w3 < 0 ∨ 8 ≤ w3.toNatClampNeg)) ((l312_183 N h b w2 w3 q4 N q6 (xmin (8 - ((a 178 (w3.toNatClampNeg)) - (a 178 (w3.toNatClampNeg)) / 8 * 8)) ((a 176 (w3.toNatClampNeg)) - (a 178 (w3.toNatClampNeg)))) a).bind (fun z45 => j312_208 N h b (rc) w2 w3 q4 z45.2.1 z45.2.2))) else (if q5 = 13 then (xg (¬ (w3 < 0 ∨ 8 ≤ w3.toNatClampNeg)) (xw (xU a 178 (w3.toNatClampNeg) 0) (fun a49 => j312_268 N h b (rc) w2 w3 q4 q6 a49))) else (if q5 = 8 then (xg (¬ (w3 < 0 ∨ 8 ≤ w3.toNatClampNeg)) (xw (xU a 178 (w3.toNatClampNeg) (xmax 0 ((a 178 (w3.toNatClampNeg)) - 1))) (fun a56 => j312_268 N h b (rc) w2 w3 q4 q6 a56))) else (if q5 = 7 then (xw (xU a 157 36 1) (fun a61 => j312_268 N h b (rc) w2 w3 q4 q6 a61)) else (j312_268 N h b (rc) w2 w3 q4 q6 a)))))

def l312_30 (N h b : Nat) (w2 : Int32) (w3 : Int32) : Nat → Int32 → xA → Option (Nat × Int32 × xA)
  | 0, _, _ => none
  | n + 1, v4, a => if w2 ≤ v4 then (some (2, v4, a)) else (xg (¬ (v4 < 0 ∨ 3000 ≤ v4.toNatClampNeg)) (if ((a 158 (v4.toNatClampNeg)) &&& 255) < 32 then (j312_78 N h b (l312_30 N h b w2 w3 n) w2 w3 v4 ((a 158 (v4.toNatClampNeg)) &&& 255) 1 a) else (if 126 < ((a 158 (v4.toNatClampNeg)) &&& 255) then (j312_78 N h b (l312_30 N h b w2 w3 n) w2 w3 v4 ((a 158 (v4.toNatClampNeg)) &&& 255) 1 a) else (xb2 (f313_letter N h b w3 ((a 158 (v4.toNatClampNeg)) &&& 255) a) (fun r68 a69 => j312_268 N h b (l312_30 N h b w2 w3 n) w2 w3 v4 r68 a69)))))

/-- TerminalHouseModel.say(I)I -/
def f312_say (N h b : Nat) (x0 : Int32) (a : xA) : Option (Int32 × xA) :=
  xw (xU a 157 0 0) (fun a1 => xw (xU a1 157 2 0) (fun a4 => xb2 (f308_is N h b x0 a4) (fun r10 a11 => if r10 = 0 then (some ((-1), a11)) else ((l312_30 N h b (a1 157 2) x0 N 0 a11).bind (fun z70 => if z70.1 = 0 then (some (z70.2.1, z70.2.2)) else (if z70.1 = 1 then (some (z70.2.1 + 1, z70.2.2)) else (some (a1 157 2, z70.2.2))))))))

def l318_71 (N h b : Nat) (w2 : Int32) (w3 : Int32) : Nat → Int32 → xA → Option (Nat × xA)
  | 0, _, _ => none
  | n + 1, v4, a => xg (¬ (w3 < 0 ∨ 8 ≤ w3.toNatClampNeg)) (if (a 175 (w3.toNatClampNeg)) ≤ v4 then (some (0, a)) else (if 2 ≤ w2 then (some (0, a)) else (xb1 (f317_clears N h b w3 v4 0 (a 176 (w3.toNatClampNeg)) a) (fun a29 => l318_71 N h b w2 w3 n (v4 + 1) a29))))

def j318_107 (N h b : Nat) (q2 : Int32) (q3 : Int32) (a : xA) : Option (Int32 × xA) :=
  if q2 = 0 then (xg (¬ (q3 < 0 ∨ 8 ≤ q3.toNatClampNeg)) (xw (xU a 177 (q3.toNatClampNeg) 0) (fun a34 => xw (xU a34 178 (q3.toNatClampNeg) 0) (fun a38 => some (1, a38))))) else (some (1, a))

def j318_69 (N h b : Nat) (q2 : Int32) (q3 : Int32) (t0 : Int32) (a : xA) : Option (Int32 × xA) :=
  (l318_71 N h b q2 q3 N t0 a).bind (fun z30 => j318_107 N h b q2 q3 z30.2)

def j318_53 (N h b : Nat) (q2 : Int32) (q3 : Int32) (a : xA) : Option (Int32 × xA) :=
  if q2 = 0 then (j318_69 N h b q2 q3 0 a) else (xg (¬ (q3 < 0 ∨ 8 ≤ q3.toNatClampNeg)) (j318_69 N h b q2 q3 ((a 177 (q3.toNatClampNeg)) + 1) a))

/-- TerminalHouseModel.erase(II)Z -/
def f318_erase (N h b : Nat) (x0 : Int32) (x1 : Int32) (a : xA) : Option (Int32 × xA) :=
  xw (xU a 157 0 0) (fun a1 => xb2 (f308_is N h b x0 a1) (fun r7 a8 => if r7 = 0 then (some (0, a8)) else (if x1 < 0 then (some (0, a8)) else (if x1 ≤ 2 then (if x1 ≤ 0 then (j318_53 N h b x1 x0 a8) else (xg (¬ (x0 < 0 ∨ 8 ≤ x0.toNatClampNeg)) (xb1 (f317_clears N h b x0 (a8 177 (x0.toNatClampNeg)) (a8 178 (x0.toNatClampNeg)) (a8 176 (x0.toNatClampNeg)) a8) (fun a46 => j318_53 N h b x1 x0 a46)))) else (some (0, a8))))))

def j320_65 (N h b : Nat) (rc : Int32 → xA → Option (Nat × xA)) (w1 : Int32) (w2 : Int32) (w3 : Int32) (q4 : Int32) (t0 : Int32) (t1 : Int32) (a : xA) : Option (Nat × xA) :=
  xg (¬ (t1 < 0 ∨ 15360 ≤ t1.toNatClampNeg)) (xw (xU a 181 (t1.toNatClampNeg) t0) (fun a12 => rc (q4 + 1) a12))

def l320_17 (N h b : Nat) (w1 : Int32) (w2 : Int32) (w3 : Int32) : Nat → Int32 → xA → Option (Nat × xA)
  | 0, _, _ => none
  | n + 1, v4, a => xg (¬ (w1 < 0 ∨ 8 ≤ w1.toNatClampNeg)) (if (a 176 (w1.toNatClampNeg)) ≤ v4 then (some (0, a)) else (xb2 (f314_cellAt N h b w1 w3 v4 a) (fun r8 a9 => if w3 ≤ w2 then (j320_65 N h b (l320_17 N h b w1 w2 w3 n) w1 w2 w3 v4 32 r8 a9) else (xb2 (f314_cellAt N h b w1 (w3 - 1) v4 a9) (fun r19 a20 => xg (¬ (r19 < 0 ∨ 15360 ≤ r19.toNatClampNeg)) (j320_65 N h b (l320_17 N h b w1 w2 w3 n) w1 w2 w3 v4 (a20 181 (r19.toNatClampNeg)) r8 a20))))))

def l320_9 (N h b : Nat) (w1 : Int32) (w2 : Int32) : Nat → Int32 → xA → Option (Nat × xA)
  | 0, _, _ => none
  | n + 1, v3, a => if v3 < w2 then (some (0, a)) else ((l320_17 N h b w1 w2 v3 N 0 a).bind (fun z22 => l320_9 N h b w1 w2 n (v3 + (-1)) z22.2))

/-- TerminalHouseModel.down(II)V -/
def f320_down (N h b : Nat) (x0 : Int32) (x1 : Int32) (a : xA) : Option (xA) :=
  xg (¬ (x0 < 0 ∨ 8 ≤ x0.toNatClampNeg)) ((l320_9 N h b x0 x1 N ((a 175 (x0.toNatClampNeg)) - 1) a).bind (fun z24 => some z24.2))

def j319_66 (N h b : Nat) (rc : Int32 → xA → Option (Nat × xA)) (w1 : Int32) (w2 : Int32) (w3 : Int32) (q4 : Int32) (a : xA) : Option (Nat × xA) :=
  rc (q4 + 1) a

def l319_31 (N h b : Nat) (w1 : Int32) (w2 : Int32) (w3 : Int32) : Nat → Int32 → xA → Option (Nat × xA)
  | 0, _, _ => none
  | n + 1, v4, a => if w3 ≤ v4 then (some (0, a)) else (if w2 ≤ 0 then (xg (¬ (w1 < 0 ∨ 8 ≤ w1.toNatClampNeg)) (xb1 (f316_up N h b w1 (a 177 (w1.toNatClampNeg)) a) (fun a17 => j319_66 N h b (l319_31 N h b w1 w2 w3 n) w1 w2 w3 v4 a17))) else (xg (¬ (w1 < 0 ∨ 8 ≤ w1.toNatClampNeg)) (xb1 (f320_down N h b w1 (a 177 (w1.toNatClampNeg)) a) (fun a22 => j319_66 N h b (l319_31 N h b w1 w2 w3 n) w1 w2 w3 v4 a22))))

/-- TerminalHouseModel.rows(II)Z -/
def f319_rows (N h b : Nat) (x0 : Int32) (x1 : Int32) (a : xA) : Option (Int32 × xA) :=
  xw (xU a 157 0 0) (fun a1 => xb2 (f308_is N h b x0 a1) (fun r7 a8 => if r7 = 0 then (some (0, a8)) else ((l319_31 N h b x0 x1 ((xminl (xabsl x1.toInt64) 24).toInt32) N 0 a8).bind (fun z23 => some (1, z23.2)))))

def l321_125 (N h b : Nat) (w2 : Int32) (w4 : Int32) (w5 : Int32) (w6 : Int32) (w7 : Int32) : Nat → Int32 → xA → Option (Nat × xA)
  | 0, _, _ => none
  | n + 1, v8, a => if (w6 - 1) ≤ v8 then (some (0, a)) else (xg (¬ (v8 + 1 < 0 ∨ 15360 ≤ (v8 + 1).toNatClampNeg)) (xg (¬ (v8 < 0 ∨ 15360 ≤ v8.toNatClampNeg)) (xw (xU a 181 (v8.toNatClampNeg) (a 181 ((v8 + 1).toNatClampNeg))) (fun a25 => l321_125 N h b w2 w4 w5 w6 w7 n (v8 + 1) a25))))

def j321_156 (N h b : Nat) (rc : Int32 → xA → Option (Nat × xA)) (w2 : Int32) (w4 : Int32) (w5 : Int32) (w6 : Int32) (q7 : Int32) (a : xA) : Option (Nat × xA) :=
  xg (¬ ((if w2 ≤ 0 then (w6 - 1) else (w5)) < 0 ∨ 15360 ≤ (if w2 ≤ 0 then (w6 - 1) else (w5)).toNatClampNeg)) (xw (xU a 181 ((if w2 ≤ 0 then (w6 - 1) else (w5)).toNatClampNeg) 32) (fun a32 => rc (q7 + 1) a32))

def l321_89 (N h b : Nat) (w2 : Int32) (w4 : Int32) (w5 : Int32) (w6 : Int32) (w7 : Int32) : Nat → Int32 → xA → Option (Nat × xA)
  | 0, _, _ => none
  | n + 1, v8, a => if v8 ≤ w5 then (some (0, a)) else (xg (¬ (v8 - 1 < 0 ∨ 15360 ≤ (v8 - 1).toNatClampNeg)) (xg (¬ (v8 < 0 ∨ 15360 ≤ v8.toNatClampNeg)) (xw (xU a 181 (v8.toNatClampNeg) (a 181 ((v8 - 1).toNatClampNeg))) (fun a38 => l321_89 N h b w2 w4 w5 w6 w7 n (v8 + (-1)) a38))))

def l321_72 (N h b : Nat) (w2 : Int32) (w4 : Int32) (w5 : Int32) (w6 : Int32) : Nat → Int32 → xA → Option (Nat × xA)
  | 0, _, _ => none
  | n + 1, v7, a => if w4 ≤ v7 then (some (0, a)) else (if w2 ≤ 0 then ((l321_125 N h b w2 w4 w5 w6 v7 N w5 a).bind (fun z29 => j321_156 N h b (l321_72 N h b w2 w4 w5 w6 n) w2 w4 w5 w6 v7 z29.2)) else ((l321_89 N h b w2 w4 w5 w6 v7 N (w6 - 1) a).bind (fun z42 => j321_156 N h b (l321_72 N h b w2 w4 w5 w6 n) w2 w4 w5 w6 v7 z42.2)))

/-- TerminalHouseModel.cells(II)Z -/
def f321_cells (N h b : Nat) (x0 : Int32) (x1 : Int32) (a : xA) : Option (Int32 × xA) :=
  xw (xU a 157 0 0) (fun a1 => xb2 (f308_is N h b x0 a1) (fun r7 a8 => if r7 = 0 then (some (0, a8)) else (xg (¬ (x0 < 0 ∨ 8 ≤ x0.toNatClampNeg)) (xb2 (f314_cellAt N h b x0 (a8 177 (x0.toNatClampNeg)) (a8 178 (x0.toNatClampNeg)) a8) (fun r14 a15 => xb2 (f314_cellAt N h b x0 (a15 177 (x0.toNatClampNeg)) (a15 176 (x0.toNatClampNeg)) a15) (fun r19 a20 => (l321_72 N h b x1 ((xminl (xabsl x1.toInt64) 80).toInt32) r14 r19 N 0 a20).bind (fun z44 => some (1, z44.2))))))))

def j322_56 (N h b : Nat) (rc : Int32 → xA → Option (Nat × xA)) (w1 : Int32) (w2 : Int32) (w3 : Int32) (q4 : Int32) (a : xA) : Option (Nat × xA) :=
  rc (q4 + 1) a

def l322_31 (N h b : Nat) (w1 : Int32) (w2 : Int32) (w3 : Int32) : Nat → Int32 → xA → Option (Nat × xA)
  | 0, _, _ => none
  | n + 1, v4, a => if w3 ≤ v4 then (some (0, a)) else (if w2 ≤ 0 then (xb1 (f320_down N h b w1 0 a) (fun a16 => j322_56 N h b (l322_31 N h b w1 w2 w3 n) w1 w2 w3 v4 a16)) else (xb1 (f316_up N h b w1 0 a) (fun a20 => j322_56 N h b (l322_31 N h b w1 w2 w3 n) w1 w2 w3 v4 a20)))

/-- TerminalHouseModel.roll(II)Z -/
def f322_roll (N h b : Nat) (x0 : Int32) (x1 : Int32) (a : xA) : Option (Int32 × xA) :=
  xw (xU a 157 0 0) (fun a1 => xb2 (f308_is N h b x0 a1) (fun r7 a8 => if r7 = 0 then (some (0, a8)) else ((l322_31 N h b x0 x1 ((xminl (xabsl x1.toInt64) 24).toInt32) N 0 a8).bind (fun z21 => some (1, z21.2)))))

def j323_154 (N h b : Nat) (rc : Int32 → xA → Option (Nat × xA)) (w2 : Int32) (w3 : Int32) (w4 : Int32) (w5 : Int32) (q6 : Int32) (a : xA) : Option (Nat × xA) :=
  rc (q6 + 1) a

def j323_130 (N h b : Nat) (rc : Int32 → xA → Option (Nat × xA)) (w2 : Int32) (w3 : Int32) (w4 : Int32) (w5 : Int32) (q6 : Int32) (q7 : Int32) (t0 : Int32) (a : xA) : Option (Nat × xA) :=
  xg (¬ (w2 < 0 ∨ 8 ≤ w2.toNatClampNeg)) (xg (¬ (t0 < 0 ∨ 15360 ≤ t0.toNatClampNeg)) (xw (xU a 181 (t0.toNatClampNeg) ((if q7 = 0 then (124 : Int32) else (45 : Int32)) + (256 * (a 179 (w2.toNatClampNeg))))) (fun a34 => j323_154 N h b (rc) w2 w3 w4 w5 q6 a34)))

def j323_102 (N h b : Nat) (rc : Int32 → xA → Option (Nat × xA)) (w2 : Int32) (w3 : Int32) (w4 : Int32) (w5 : Int32) (q6 : Int32) (q7 : Int32) (q8 : Int32) (a : xA) : Option (Nat × xA) :=
  xb2 (f314_cellAt N h b w2 w5 q6 a) (fun r27 a28 => if q7 = 0 then (j323_130 N h b (rc) w2 w3 w4 w5 q6 q7 r27 a28) else (xg (¬ (w2 < 0 ∨ 8 ≤ w2.toNatClampNeg)) (xg (¬ (r27 < 0 ∨ 15360 ≤ r27.toNatClampNeg)) (xw (xU a28 181 (r27.toNatClampNeg) ((if q8 = 0 then (if q7 = 0 then (124 : Int32) else (45 : Int32)) else (43 : Int32)) + (256 * (a28 179 (w2.toNatClampNeg))))) (fun a41 => j323_154 N h b (rc) w2 w3 w4 w5 q6 a41)))))

def j323_90 (N h b : Nat) (rc : Int32 → xA → Option (Nat × xA)) (w2 : Int32) (w3 : Int32) (w4 : Int32) (w5 : Int32) (q6 : Int32) (q7 : Int32) (t0 : Int32) (a : xA) : Option (Nat × xA) :=
  if q7 = 0 then (if t0 = 0 then (j323_154 N h b (rc) w2 w3 w4 w5 q6 a) else (j323_102 N h b (rc) w2 w3 w4 w5 q6 q7 t0 a)) else (j323_102 N h b (rc) w2 w3 w4 w5 q6 q7 t0 a)

def j323_85 (N h b : Nat) (rc : Int32 → xA → Option (Nat × xA)) (w2 : Int32) (w3 : Int32) (w4 : Int32) (w5 : Int32) (q6 : Int32) (q7 : Int32) (a : xA) : Option (Nat × xA) :=
  j323_90 N h b (rc) w2 w3 w4 w5 q6 q7 1 a

def j323_71 (N h b : Nat) (rc : Int32 → xA → Option (Nat × xA)) (w2 : Int32) (w3 : Int32) (w4 : Int32) (w5 : Int32) (q6 : Int32) (t0 : Int32) (a : xA) : Option (Nat × xA) :=
  if q6 = 0 then (j323_85 N h b (rc) w2 w3 w4 w5 q6 t0 a) else (if t0 = 0 then (if (if q6 = w4 then (1 : Int32) else (0 : Int32)) = 0 then (j323_154 N h b (rc) w2 w3 w4 w5 q6 a) else (j323_102 N h b (rc) w2 w3 w4 w5 q6 t0 (if q6 = w4 then (1 : Int32) else (0 : Int32)) a)) else (j323_102 N h b (rc) w2 w3 w4 w5 q6 t0 (if q6 = w4 then (1 : Int32) else (0 : Int32)) a))

def j323_66 (N h b : Nat) (rc : Int32 → xA → Option (Nat × xA)) (w2 : Int32) (w3 : Int32) (w4 : Int32) (w5 : Int32) (q6 : Int32) (a : xA) : Option (Nat × xA) :=
  j323_71 N h b (rc) w2 w3 w4 w5 q6 1 a

def l323_48 (N h b : Nat) (w2 : Int32) (w3 : Int32) (w4 : Int32) (w5 : Int32) : Nat → Int32 → xA → Option (Nat × xA)
  | 0, _, _ => none
  | n + 1, v6, a => if w4 < v6 then (some (0, a)) else (if w5 = 0 then (j323_66 N h b (l323_48 N h b w2 w3 w4 w5 n) w2 w3 w4 w5 v6 a) else (if v6 = 0 then (j323_85 N h b (l323_48 N h b w2 w3 w4 w5 n) w2 w3 w4 w5 v6 (if w5 = w3 then (1 : Int32) else (0 : Int32)) a) else (if (if w5 = w3 then (1 : Int32) else (0 : Int32)) = 0 then (if (if v6 = w4 then (1 : Int32) else (0 : Int32)) = 0 then (j323_154 N h b (l323_48 N h b w2 w3 w4 w5 n) w2 w3 w4 w5 v6 a) else (j323_102 N h b (l323_48 N h b w2 w3 w4 w5 n) w2 w3 w4 w5 v6 (if w5 = w3 then (1 : Int32) else (0 : Int32)) (if v6 = w4 then (1 : Int32) else (0 : Int32)) a)) else (j323_102 N h b (l323_48 N h b w2 w3 w4 w5 n) w2 w3 w4 w5 v6 (if w5 = w3 then (1 : Int32) else (0 : Int32)) (if v6 = w4 then (1 : Int32) else (0 : Int32)) a))))

def l323_39 (N h b : Nat) (w2 : Int32) (w3 : Int32) (w4 : Int32) : Nat → Int32 → xA → Option (Nat × xA)
  | 0, _, _ => none
  | n + 1, v5, a => if w3 < v5 then (some (0, a)) else ((l323_48 N h b w2 w3 w4 v5 N 0 a).bind (fun z61 => l323_39 N h b w2 w3 w4 n (v5 + 1) z61.2))

/-- TerminalHouseModel.box(I)Z -/
def f323_box (N h b : Nat) (x0 : Int32) (a : xA) : Option (Int32 × xA) :=
  xw (xU a 157 0 0) (fun a1 => xb2 (f308_is N h b x0 a1) (fun r7 a8 => if r7 = 0 then (some (0, a8)) else (xg (¬ (x0 < 0 ∨ 8 ≤ x0.toNatClampNeg)) ((l323_39 N h b x0 ((a8 175 (x0.toNatClampNeg)) - 1) ((a8 176 (x0.toNatClampNeg)) - 1) N 0 a8).bind (fun z63 => some (1, z63.2))))))

def j324_41 (N h b : Nat) (a : xA) : Option (Int32 × xA) :=
  some ((-1), a)

/-- TerminalHouseModel.look(III)I -/
def f324_look (N h b : Nat) (x0 : Int32) (x1 : Int32) (x2 : Int32) (a : xA) : Option (Int32 × xA) :=
  xw (xU a 157 0 0) (fun a1 => xb2 (f308_is N h b x0 a1) (fun r7 a8 => if r7 = 0 then (j324_41 N h b a8) else (if x1 < 0 then (j324_41 N h b a8) else (if x2 < 0 then (j324_41 N h b a8) else (xg (¬ (x0 < 0 ∨ 8 ≤ x0.toNatClampNeg)) (if (a8 175 (x0.toNatClampNeg)) ≤ x1 then (j324_41 N h b a8) else (if x2 < (a8 176 (x0.toNatClampNeg)) then (xb2 (f314_cellAt N h b x0 x1 x2 a8) (fun r26 a27 => xg (¬ (r26 < 0 ∨ 15360 ≤ r26.toNatClampNeg)) (some (a27 181 (r26.toNatClampNeg), a27)))) else (j324_41 N h b a8))))))))

/-- TerminalHouseModel.where(II)I -/
def f325_where (N h b : Nat) (x0 : Int32) (x1 : Int32) (a : xA) : Option (Int32 × xA) :=
  xw (xU a 157 0 0) (fun a1 => xb2 (f308_is N h b x0 a1) (fun r7 a8 => if r7 = 0 then (some ((-1), a8)) else (if x1 = 0 then (xg (¬ (x0 < 0 ∨ 8 ≤ x0.toNatClampNeg)) (some (a8 173 (x0.toNatClampNeg), a8))) else (if x1 = 1 then (xg (¬ (x0 < 0 ∨ 8 ≤ x0.toNatClampNeg)) (some (a8 174 (x0.toNatClampNeg), a8))) else (if x1 = 2 then (xg (¬ (x0 < 0 ∨ 8 ≤ x0.toNatClampNeg)) (some (a8 175 (x0.toNatClampNeg), a8))) else (if x1 = 3 then (xg (¬ (x0 < 0 ∨ 8 ≤ x0.toNatClampNeg)) (some (a8 176 (x0.toNatClampNeg), a8))) else (if x1 = 4 then (xg (¬ (x0 < 0 ∨ 8 ≤ x0.toNatClampNeg)) (some (a8 177 (x0.toNatClampNeg), a8))) else (if x1 = 5 then (xg (¬ (x0 < 0 ∨ 8 ≤ x0.toNatClampNeg)) (some (a8 178 (x0.toNatClampNeg), a8))) else (if x1 = 6 then (xg (¬ (x0 < 0 ∨ 8 ≤ x0.toNatClampNeg)) (some (a8 179 (x0.toNatClampNeg), a8))) else (if x1 = 7 then (xg (¬ (x0 < 0 ∨ 8 ≤ x0.toNatClampNeg)) (some ((if (a8 180 (x0.toNatClampNeg)) = 0 then (0 : Int32) else (1 : Int32)), a8))) else (some ((-1), a8))))))))))))

def l326_32 (N h b : Nat) (w1 : Int32) (w3 : Int32) : Nat → Int32 → Int32 → xA → Option (Nat × Int32 × xA)
  | 0, _, _, _ => none
  | n + 1, v2, v4, a => xg (¬ (w1 < 0 ∨ 8 ≤ w1.toNatClampNeg)) (if (a 176 (w1.toNatClampNeg)) ≤ v4 then (some (0, v2, a)) else (xb2 (f314_cellAt N h b w1 w3 v4 a) (fun r17 a18 => xg (¬ (r17 < 0 ∨ 15360 ≤ r17.toNatClampNeg)) (xg (¬ (((80 * ((a 173 (w1.toNatClampNeg)) + w3)) + (a 174 (w1.toNatClampNeg))) + v4 < 0 ∨ 1920 ≤ (((80 * ((a 173 (w1.toNatClampNeg)) + w3)) + (a 174 (w1.toNatClampNeg))) + v4).toNatClampNeg)) (xw (xU a18 170 ((((80 * ((a 173 (w1.toNatClampNeg)) + w3)) + (a 174 (w1.toNatClampNeg))) + v4).toNatClampNeg) (a18 181 (r17.toNatClampNeg))) (fun a22 => l326_32 N h b w1 w3 n (v2 + (if (a18 170 ((((80 * ((a 173 (w1.toNatClampNeg)) + w3)) + (a 174 (w1.toNatClampNeg))) + v4).toNatClampNeg)) = (a18 181 (r17.toNatClampNeg)) then (0 : Int32) else (1 : Int32))) (v4 + 1) a22))))))

def l326_19 (N h b : Nat) (w1 : Int32) : Nat → Int32 → Int32 → xA → Option (Nat × Int32 × xA)
  | 0, _, _, _ => none
  | n + 1, v2, v3, a => xg (¬ (w1 < 0 ∨ 8 ≤ w1.toNatClampNeg)) (if (a 175 (w1.toNatClampNeg)) ≤ v3 then (some (0, v2, a)) else ((l326_32 N h b w1 v3 N v2 0 a).bind (fun z25 => l326_19 N h b w1 n z25.2.1 (v3 + 1) z25.2.2)))

/-- TerminalHouseModel.show(I)I -/
def f326_show (N h b : Nat) (x0 : Int32) (a : xA) : Option (Int32 × xA) :=
  xw (xU a 157 0 0) (fun a1 => xb2 (f308_is N h b x0 a1) (fun r7 a8 => if r7 = 0 then (some ((-1), a8)) else ((l326_19 N h b x0 N 0 0 a8).bind (fun z27 => xg (¬ (x0 < 0 ∨ 8 ≤ x0.toNatClampNeg)) (xw (xU z27.2.2 157 30 ((z27.2.2 173 (x0.toNatClampNeg)) + (z27.2.2 177 (x0.toNatClampNeg)))) (fun a30 => xw (xU a30 157 31 ((a30 174 (x0.toNatClampNeg)) + (a30 178 (x0.toNatClampNeg)))) (fun a33 => some (z27.2.1, a33))))))))

/-- TerminalHouseModel.redraw()Z -/
def f327_redraw (N h b : Nat) (a : xA) : Option (Int32 × xA) :=
  xw (xU a 157 0 0) (fun a1 => if (a1 157 21) = (-1) then (some (0, a1)) else (xw (xU a1 157 35 1) (fun a5 => some (1, a5))))

/-- TerminalHouseModel.onScreen(II)Z -/
def f329_onScreen (N h b : Nat) (x0 : Int32) (x1 : Int32) (a : xA) : Option (Int32 × xA) :=
  if (a 157 21) = (-1) then (some (0, a)) else (if x0 < 0 then (some (0, a)) else (if x1 < 0 then (some (0, a)) else (if (a 157 27) ≤ x0 then (some (0, a)) else (xg ((if (a 157 26) ≤ x1 then (0 : Int32) else (1 : Int32)) = 0 ∨ (if (a 157 26) ≤ x1 then (0 : Int32) else (1 : Int32)) = 1) (some ((if (a 157 26) ≤ x1 then (0 : Int32) else (1 : Int32)), a))))))

def j328_21 (N h b : Nat) (a : xA) : Option (Int32 × xA) :=
  some ((-1), a)

/-- TerminalHouseModel.known(II)I -/
def f328_known (N h b : Nat) (x0 : Int32) (x1 : Int32) (a : xA) : Option (Int32 × xA) :=
  xw (xU a 157 0 0) (fun a1 => xb2 (f329_onScreen N h b x0 x1 a1) (fun r7 a8 => if r7 = 0 then (j328_21 N h b a8) else (if (a8 157 35) = 0 then (xg (¬ ((80 * x0) + x1 < 0 ∨ 1920 ≤ ((80 * x0) + x1).toNatClampNeg)) (some (a8 171 (((80 * x0) + x1).toNatClampNeg), a8))) else (j328_21 N h b a8))))

/-- TerminalHouseModel.wanted(II)I -/
def f330_wanted (N h b : Nat) (x0 : Int32) (x1 : Int32) (a : xA) : Option (Int32 × xA) :=
  xw (xU a 157 0 0) (fun a1 => xb2 (f329_onScreen N h b x0 x1 a1) (fun r7 a8 => if r7 = 0 then (some ((-1), a8)) else (xg (¬ ((80 * x0) + x1 < 0 ∨ 1920 ≤ ((80 * x0) + x1).toNatClampNeg)) (some (a8 170 (((80 * x0) + x1).toNatClampNeg), a8)))))

/-- TerminalHouseModel.bytesOf(III)I -/
def f333_bytesOf (N h b : Nat) (x0 : Int32) (x1 : Int32) (x2 : Int32) (a : xA) : Option (Int32 × xA) :=
  xb2 (f297_has N h b x0 a) (fun r4 a5 => if r4 = 0 then (some ((-1), a5)) else (xb1 (f299_puts N h b x0 x1 x2 0 0 a5) (fun a10 => some (a10 157 23, a10))))

def j334_21 (N h b : Nat) (a : xA) : Option (xA) :=
  xw (xU a 157 49 ((a 157 49) + 1)) (fun a3 => some a3)

/-- TerminalHouseModel.typeByte(I)V -/
def f334_typeByte (N h b : Nat) (x0 : Int32) (a : xA) : Option (xA) :=
  if 6000 ≤ (a 157 49) then (j334_21 N h b a) else (xg (¬ (a 157 49 < 0 ∨ 6000 ≤ (a 157 49).toNatClampNeg)) (xw (xU a 182 ((a 157 49).toNatClampNeg) (vp_nar .byte x0.toInt8.toInt32)) (fun a6 => j334_21 N h b a6)))

def l332_32 (N h b : Nat) (w4 : Int32) (w5 : Int32) (w6 : Int32) : Nat → Int32 → xA → Option (Nat × xA)
  | 0, _, _ => none
  | n + 1, v7, a => if w5 ≤ v7 then (some (0, a)) else (xg (¬ (v7 < 0 ∨ 60 ≤ v7.toNatClampNeg)) (xb1 (f334_typeByte N h b (a 168 (v7.toNatClampNeg)) a) (fun a15 => l332_32 N h b w4 w5 w6 n (v7 + 1) a15)))

def l332_12 (N h b : Nat) (w4 : Int32) (w5 : Int32) : Nat → Int32 → xA → Option (Nat × xA)
  | 0, _, _ => none
  | n + 1, v6, a => if w4 ≤ v6 then (some (0, a)) else (if 6000 < (a 157 49) then (some (0, a)) else ((l332_32 N h b w4 w5 v6 N 0 a).bind (fun z16 => l332_12 N h b w4 w5 n (v6 + 1) z16.2)))

/-- TerminalHouseModel.typeAll(IIII)V -/
def f332_typeAll (N h b : Nat) (x0 : Int32) (x1 : Int32) (x2 : Int32) (x3 : Int32) (a : xA) : Option (xA) :=
  xb2 (f333_bytesOf N h b x0 x1 x2 a) (fun r4 a5 => (l332_12 N h b x3 r4 N 0 a5).bind (fun z18 => some z18.2))

def l335_43 (N h b : Nat) : Nat → Int32 → xA → Option (Nat × xA)
  | 0, _, _ => none
  | n + 1, v1, a => if 1920 ≤ v1 then (some (0, a)) else (xg (¬ (v1 < 0 ∨ 1920 ≤ v1.toNatClampNeg)) (xw (xU a 183 (v1.toNatClampNeg) 32) (fun a18 => l335_43 N h b n (v1 + 1) a18)))

/-- TerminalHouseModel.begins()V -/
def f335_begins (N h b : Nat) (a : xA) : Option (xA) :=
  xb1 (f332_typeAll N h b 30 0 0 1 a) (fun a4 => xb1 (f332_typeAll N h b 25 0 0 1 a4) (fun a8 => xb1 (f332_typeAll N h b 23 0 ((a8 157 27) - 1) 1 a8) (fun a12 => xb1 (f332_typeAll N h b 7 0 0 1 a12) (fun a16 => (l335_43 N h b N 0 a16).bind (fun z22 => xw (xU z22.2 157 51 0) (fun a24 => xw (xU a24 157 52 0) (fun a27 => xw (xU a27 157 53 0) (fun a30 => some a30))))))))

/-- TerminalHouseModel.movedCell(III)I -/
def f337_movedCell (N h b : Nat) (x0 : Int32) (x1 : Int32) (x2 : Int32) (a : xA) : Option (Int32 × xA) :=
  if (a 157 27) ≤ (x0 + x2) then (some (32, a)) else (xg (¬ ((80 * (x0 + x2)) + x1 < 0 ∨ 1920 ≤ ((80 * (x0 + x2)) + x1).toNatClampNeg)) (some (a 183 (((80 * (x0 + x2)) + x1).toNatClampNeg), a)))

/-- TerminalHouseModel.offeredOf(I)I -/
def f339_offeredOf (N h b : Nat) (x0 : Int32) (a : xA) : Option (Int32 × xA) :=
  some ((x0 &&& 255) + (256 * ((x0 >>> ((8 : Int32) &&& 31)) &&& (a 157 50))), a)

def j338_41 (N h b : Nat) (q1 : Int32) (q2 : Int32) (q3 : Int32) (t0 : Int32) (a : xA) : Option (Int32 × xA) :=
  if t0 = 0 then (xg (¬ ((80 * q1) + q2 < 0 ∨ 1920 ≤ ((80 * q1) + q2).toNatClampNeg)) (xb2 (f339_offeredOf N h b (a 170 (((80 * q1) + q2).toNatClampNeg)) a) (fun r19 a20 => xg ((if r19 = q3 then (0 : Int32) else (1 : Int32)) = 0 ∨ (if r19 = q3 then (0 : Int32) else (1 : Int32)) = 1) (some ((if r19 = q3 then (0 : Int32) else (1 : Int32)), a20))))) else (some (0, a))

def j338_40 (N h b : Nat) (q1 : Int32) (q2 : Int32) (q3 : Int32) (a : xA) : Option (Int32 × xA) :=
  j338_41 N h b q1 q2 q3 0 a

/-- TerminalHouseModel.unlike(III)Z -/
def f338_unlike (N h b : Nat) (x0 : Int32) (x1 : Int32) (x2 : Int32) (a : xA) : Option (Int32 × xA) :=
  if x0 = ((a 157 27) - 1) then (if x1 = ((a 157 26) - 1) then (xb2 (f297_has N h b 0 a) (fun r9 a10 => if r9 = 0 then (j338_40 N h b x0 x1 x2 a10) else (xb2 (f297_has N h b 1 a10) (fun r26 a27 => if (if r26 = 0 then (1 : Int32) else (0 : Int32)) = 0 then (xg (¬ ((80 * x0) + x1 < 0 ∨ 1920 ≤ ((80 * x0) + x1).toNatClampNeg)) (xb2 (f339_offeredOf N h b (a27 170 (((80 * x0) + x1).toNatClampNeg)) a27) (fun r35 a36 => xg ((if r35 = x2 then (0 : Int32) else (1 : Int32)) = 0 ∨ (if r35 = x2 then (0 : Int32) else (1 : Int32)) = 1) (some ((if r35 = x2 then (0 : Int32) else (1 : Int32)), a36))))) else (some (0, a27)))))) else (j338_40 N h b x0 x1 x2 a)) else (j338_40 N h b x0 x1 x2 a)

/-- TerminalHouseModel.undress()V -/
def f341_undress (N h b : Nat) (a : xA) : Option (xA) :=
  xb1 (f332_typeAll N h b 25 0 0 1 a) (fun a4 => xw (xU a4 157 53 0) (fun a5 => some a5))

def j345_29 (N h b : Nat) (a : xA) : Option (Int32 × xA) :=
  some (0, a)

def j345_14 (N h b : Nat) (q0 : Int32) (q1 : Int32) (a : xA) : Option (Int32 × xA) :=
  if q1 = (-1) then (j345_29 N h b a) else (if q0 = (-1) then (some (1, a)) else (some ((if q1 < q0 then (1 : Int32) else (0 : Int32)), a)))

/-- TerminalHouseModel.better(II)I -/
def f345_better (N h b : Nat) (x0 : Int32) (x1 : Int32) (a : xA) : Option (Int32 × xA) :=
  if x0 = (-1) then (some ((if x1 = (-1) then (-1 : Int32) else (if x1 = (-1) then (0 : Int32) else (if x0 = (-1) then (1 : Int32) else (if x1 < x0 then (1 : Int32) else (0 : Int32))))), a)) else (j345_14 N h b x0 x1 a)

def j344_80 (N h b : Nat) (q6 : Int32) (q7 : Int32) (q8 : Int32) (a : xA) : Option (Int32 × xA) :=
  some ((if q8 = (-1) then (-1 : Int32) else (if q8 = 0 then (q6) else (q7))), a)

def j344_61 (N h b : Nat) (q2 : Int32) (q3 : Int32) (q4 : Int32) (q6 : Int32) (q7 : Int32) (q8 : Int32) (a : xA) : Option (Int32 × xA) :=
  if q4 = 0 then (j344_80 N h b q6 q7 q8 a) else (if q8 = 1 then (xb1 (f332_typeAll N h b q2 q3 0 1 a) (fun a30 => j344_80 N h b q6 q7 q8 a30)) else (j344_80 N h b q6 q7 q8 a))

/-- TerminalHouseModel.eitherOf(IIIZ)I -/
def f344_eitherOf (N h b : Nat) (x0 : Int32) (x1 : Int32) (x2 : Int32) (x3 : Int32) (a : xA) : Option (Int32 × xA) :=
  xb2 (f333_bytesOf N h b x0 0 0 a) (fun r4 a5 => xb2 (f333_bytesOf N h b x1 x2 0 a5) (fun r10 a11 => xb2 (f345_better N h b (if r4 = (-1) then (-1 : Int32) else (r4 * x2)) r10 a11) (fun r15 a16 => if x3 = 0 then (j344_61 N h b x1 x2 x3 (if r4 = (-1) then (-1 : Int32) else (r4 * x2)) r10 r15 a16) else (if r15 = 0 then (xb1 (f332_typeAll N h b x0 0 0 x2 a16) (fun a36 => j344_61 N h b x1 x2 x3 (if r4 = (-1) then (-1 : Int32) else (r4 * x2)) r10 r15 a36)) else (j344_61 N h b x1 x2 x3 (if r4 = (-1) then (-1 : Int32) else (r4 * x2)) r10 r15 a16)))))

/-- TerminalHouseModel.upDown(IIZ)I -/
def f343_upDown (N h b : Nat) (x0 : Int32) (x1 : Int32) (x2 : Int32) (a : xA) : Option (Int32 × xA) :=
  if (xabs (x1 - x0)) = 0 then (some (0, a)) else (xb2 (f344_eitherOf N h b (if x1 ≤ x0 then (10 : Int32) else (11 : Int32)) (if x1 ≤ x0 then (14 : Int32) else (15 : Int32)) (xabs (x1 - x0)) x2 a) (fun r7 a8 => some (r7, a8)))

/-- TerminalHouseModel.numberOf(I)I -/
def f348_numberOf (N h b : Nat) (x0 : Int32) (a : xA) : Option (Int32 × xA) :=
  xb2 (f297_has N h b x0 a) (fun r4 a5 => if r4 = 0 then (some (0, a5)) else (xg (¬ ((39 * (a5 157 21)) + x0 < 0 ∨ 468 ≤ ((39 * (a5 157 21)) + x0).toNatClampNeg)) (some (a5 164 (((39 * (a5 157 21)) + x0).toNatClampNeg), a5))))

def j347_75 (N h b : Nat) (q2 : Int32) (q3 : Int32) (q5 : Int32) (q6 : Int32) (t0 : Int32) (a : xA) : Option (Int32 × xA) :=
  if t0 = (-1) then (some ((-1), a)) else (xb2 (f333_bytesOf N h b 21 0 0 a) (fun r22 a23 => if q3 = 0 then (some ((q6 * r22) + t0, a23)) else (xb1 (f332_typeAll N h b 21 0 0 q6 a23) (fun a29 => if q5 = q2 then (some ((q6 * r22) + t0, a29)) else (xb2 (f344_eitherOf N h b 13 17 (q2 - q5) 1 a29) (fun r35 a36 => some ((q6 * r22) + t0, a36)))))))

/-- TerminalHouseModel.tabbed(IIZ)I -/
def f347_tabbed (N h b : Nat) (x0 : Int32) (x1 : Int32) (x2 : Int32) (a : xA) : Option (Int32 × xA) :=
  xb2 (f348_numberOf N h b 5 a) (fun r4 a5 => xb2 (f297_has N h b 21 a5) (fun r9 a10 => if r9 = 0 then (some ((-1), a10)) else (if r4 = 0 then (some ((-1), a10)) else (if x0 < ((x1 / r4) * r4) then (if ((x1 / r4) * r4) = x1 then (j347_75 N h b x1 x2 ((x1 / r4) * r4) ((((x1 / r4) * r4) / r4) - (x0 / r4)) 0 a10) else (xb2 (f344_eitherOf N h b 13 17 (x1 - ((x1 / r4) * r4)) 0 a10) (fun r40 a41 => j347_75 N h b x1 x2 ((x1 / r4) * r4) ((((x1 / r4) * r4) / r4) - (x0 / r4)) r40 a41))) else (some ((-1), a10))))))

def l346_58 (N h b : Nat) (w1 : Int32) (w2 : Int32) (w3 : Int32) (w4 : Int32) (w5 : Int32) (w6 : Int32) (w7 : Int32) : Nat → Int32 → Int32 → xA → Option (Nat × Int32 × xA)
  | 0, _, _, _ => none
  | n + 1, v8, v9, a => if w2 ≤ v9 then (some (0, v8, a)) else (if v8 = 0 then (some (0, v8, a)) else (xg (¬ ((80 * w3) + v9 < 0 ∨ 1920 ≤ ((80 * w3) + v9).toNatClampNeg)) (l346_58 N h b w1 w2 w3 w4 w5 w6 w7 n (if ((a 183 (((80 * w3) + v9).toNatClampNeg)) >>> ((8 : Int32) &&& 31)) = (a 157 53) then (1 : Int32) else (0 : Int32)) (v9 + 1) a)))

def l346_165 (N h b : Nat) (w2 : Int32) (w3 : Int32) (w4 : Int32) (w7 : Int32) : Nat → Int32 → xA → Option (Nat × xA)
  | 0, _, _ => none
  | n + 1, v12, a => if w2 ≤ v12 then (some (0, a)) else (if w4 = 0 then (some (0, a)) else (xg (¬ ((80 * w3) + v12 < 0 ∨ 1920 ≤ ((80 * w3) + v12).toNatClampNeg)) (xb1 (f334_typeByte N h b ((a 183 (((80 * w3) + v12).toNatClampNeg)) &&& 255) a) (fun a44 => l346_165 N h b w2 w3 w4 w7 n (v12 + 1) a44))))

def j346_236 (N h b : Nat) (q1 : Int32) (q2 : Int32) (q4 : Int32) (q9 : Int32) (q10 : Int32) (a : xA) : Option (Int32 × xA) :=
  if q4 = 0 then (some (q10, a)) else (if q9 = 1 then (xb2 (f347_tabbed N h b q1 q2 1 a) (fun r59 a60 => some (q10, a60))) else (some (q10, a)))

def j346_114 (N h b : Nat) (q1 : Int32) (q2 : Int32) (q3 : Int32) (q4 : Int32) (q5 : Int32) (q6 : Int32) (q7 : Int32) (a : xA) : Option (Int32 × xA) :=
  xb2 (f345_better N h b q5 q6 a) (fun r26 a27 => xb2 (f345_better N h b (if r26 = (-1) then (-1 : Int32) else (if r26 = 0 then (q5) else (q6))) q7 a27) (fun r33 a34 => if r33 = 1 then ((l346_165 N h b q2 q3 q4 q7 N q1 a34).bind (fun z45 => some (q7, z45.2))) else (if r33 = (-1) then (some ((-1), a34)) else (if q4 = 0 then (j346_236 N h b q1 q2 q4 r26 (if r26 = (-1) then (-1 : Int32) else (if r26 = 0 then (q5) else (q6))) a34) else (if r26 = 0 then (xb2 (f344_eitherOf N h b 13 17 (q2 - q1) 1 a34) (fun r66 a67 => j346_236 N h b q1 q2 q4 r26 (if r26 = (-1) then (-1 : Int32) else (if r26 = 0 then (q5) else (q6))) a67)) else (j346_236 N h b q1 q2 q4 r26 (if r26 = (-1) then (-1 : Int32) else (if r26 = 0 then (q5) else (q6))) a34))))))

def j346_104 (N h b : Nat) (q1 : Int32) (q2 : Int32) (q3 : Int32) (q4 : Int32) (q5 : Int32) (q6 : Int32) (q7 : Int32) (q8 : Int32) (a : xA) : Option (Int32 × xA) :=
  if q8 = 0 then (j346_114 N h b q1 q2 q3 q4 q5 q6 q7 a) else (j346_114 N h b q1 q2 q3 q4 q5 q6 (q2 - q1) a)

/-- TerminalHouseModel.across(IIIZ)I -/
def f346_across (N h b : Nat) (x0 : Int32) (x1 : Int32) (x2 : Int32) (x3 : Int32) (a : xA) : Option (Int32 × xA) :=
  if x0 = x1 then (some (0, a)) else (if x0 ≤ x1 then (xb2 (f344_eitherOf N h b 13 17 (x1 - x0) 0 a) (fun r6 a7 => xb2 (f347_tabbed N h b x0 x1 0 a7) (fun r11 a12 => (l346_58 N h b x0 x1 x2 x3 r6 r11 (-1) N 1 x0 a12).bind (fun z19 => j346_104 N h b x0 x1 x2 x3 r6 r11 (-1) z19.2.1 z19.2.2)))) else (xb2 (f344_eitherOf N h b 12 16 (x0 - x1) x3 a) (fun r71 a72 => some (r71, a72))))

def j342_78 (N h b : Nat) (q2 : Int32) (q3 : Int32) (a : xA) : Option (Int32 × xA) :=
  xb2 (f333_bytesOf N h b 9 q2 q3 a) (fun r12 a13 => some (r12, a13))

def j342_151 (N h b : Nat) (q1 : Int32) (q2 : Int32) (q3 : Int32) (q6 : Int32) (a : xA) : Option (Int32 × xA) :=
  xb2 (f333_bytesOf N h b q6 (if q1 = 2 then (q3) else (q2)) 0 a) (fun r42 a43 => some (r42, a43))

def j342_128 (N h b : Nat) (q1 : Int32) (q2 : Int32) (q3 : Int32) (q4 : Int32) (q6 : Int32) (a : xA) : Option (Int32 × xA) :=
  if q4 = 0 then (j342_151 N h b q1 q2 q3 q6 a) else (xb1 (f332_typeAll N h b q6 (if q1 = 2 then (q3) else (q2)) 0 1 a) (fun a48 => j342_151 N h b q1 q2 q3 q6 a48))

def j342_97 (N h b : Nat) (q1 : Int32) (q2 : Int32) (q3 : Int32) (q4 : Int32) (q5 : Int32) (q6 : Int32) (a : xA) : Option (Int32 × xA) :=
  if q5 = 0 then (some ((-1), a)) else (if q1 = 2 then (if (a 157 51) = q2 then (j342_128 N h b q1 q2 q3 q4 q6 a) else (some ((-1), a))) else (if (a 157 52) = q3 then (j342_128 N h b q1 q2 q3 q4 q6 a) else (some ((-1), a))))

def j342_282 (N h b : Nat) (q7 : Int32) (q8 : Int32) (t0 : Int32) (a : xA) : Option (Int32 × xA) :=
  some ((if t0 = (-1) then (-1 : Int32) else ((q7 + q8) + t0)), a)

def j342_228 (N h b : Nat) (q1 : Int32) (q2 : Int32) (q3 : Int32) (q4 : Int32) (q7 : Int32) (a : xA) : Option (Int32 × xA) :=
  xb2 (f343_upDown N h b (if q1 = 6 then (0 : Int32) else (a 157 51)) q2 q4 a) (fun r64 a65 => if r64 = (-1) then (j342_282 N h b q7 r64 (-1) a65) else (xb2 (f346_across N h b (if q1 = 4 then (a65 157 52) else (0 : Int32)) q3 q2 q4 a65) (fun r74 a75 => j342_282 N h b q7 r64 r74 a75)))

def j342_199 (N h b : Nat) (q1 : Int32) (q2 : Int32) (q3 : Int32) (q4 : Int32) (q6 : Int32) (t0 : Int32) (a : xA) : Option (Int32 × xA) :=
  if t0 = (-1) then (some ((-1), a)) else (if q4 = 0 then (j342_228 N h b q1 q2 q3 q4 t0 a) else (if q1 ≤ 4 then (j342_228 N h b q1 q2 q3 q4 t0 a) else (xb1 (f332_typeAll N h b q6 0 0 1 a) (fun a81 => j342_228 N h b q1 q2 q3 q4 t0 a81))))

def j342_182 (N h b : Nat) (q1 : Int32) (q2 : Int32) (q3 : Int32) (q4 : Int32) (q6 : Int32) (a : xA) : Option (Int32 × xA) :=
  if q1 = 4 then (j342_199 N h b q1 q2 q3 q4 q6 0 a) else (xb2 (f333_bytesOf N h b q6 0 0 a) (fun r85 a86 => j342_199 N h b q1 q2 q3 q4 q6 r85 a86))

/-- TerminalHouseModel.way(IIIZ)I -/
def f342_way (N h b : Nat) (x0 : Int32) (x1 : Int32) (x2 : Int32) (x3 : Int32) (a : xA) : Option (Int32 × xA) :=
  if x0 = 1 then (if x3 = 0 then (j342_78 N h b x1 x2 a) else (xb1 (f332_typeAll N h b 9 x1 x2 1 a) (fun a17 => j342_78 N h b x1 x2 a17))) else (if x0 = 2 then (j342_97 N h b x0 x1 x2 x3 (if (a 157 51) = (-1) then (0 : Int32) else (1 : Int32)) (if x0 = 1 then (9 : Int32) else (if x0 = 2 then (18 : Int32) else (if x0 = 3 then (19 : Int32) else (if x0 = 5 then (20 : Int32) else (8 : Int32))))) a) else (if x0 = 3 then (j342_97 N h b x0 x1 x2 x3 (if (a 157 51) = (-1) then (0 : Int32) else (1 : Int32)) (if x0 = 1 then (9 : Int32) else (if x0 = 2 then (18 : Int32) else (if x0 = 3 then (19 : Int32) else (if x0 = 5 then (20 : Int32) else (8 : Int32))))) a) else (if 6 ≤ x0 then (j342_182 N h b x0 x1 x2 x3 (if x0 = 1 then (9 : Int32) else (if x0 = 2 then (18 : Int32) else (if x0 = 3 then (19 : Int32) else (if x0 = 5 then (20 : Int32) else (8 : Int32))))) a) else (if (if (a 157 51) = (-1) then (0 : Int32) else (1 : Int32)) = 0 then (some ((-1), a)) else (j342_182 N h b x0 x1 x2 x3 (if x0 = 1 then (9 : Int32) else (if x0 = 2 then (18 : Int32) else (if x0 = 3 then (19 : Int32) else (if x0 = 5 then (20 : Int32) else (8 : Int32))))) a)))))

def j340_90 (N h b : Nat) (rc : Int32 → Int32 → Int32 → xA → Option (Nat × Int32 × xA)) (w1 : Int32) (w2 : Int32) (q3 : Int32) (q4 : Int32) (q5 : Int32) (a : xA) : Option (Nat × Int32 × xA) :=
  rc q3 q4 (q5 + 1) a

def j340_83 (N h b : Nat) (rc : Int32 → Int32 → Int32 → xA → Option (Nat × Int32 × xA)) (w1 : Int32) (w2 : Int32) (q5 : Int32) (q6 : Int32) (a : xA) : Option (Nat × Int32 × xA) :=
  j340_90 N h b (rc) w1 w2 q5 q6 q5 a

def l340_44 (N h b : Nat) (w1 : Int32) (w2 : Int32) : Nat → Int32 → Int32 → Int32 → xA → Option (Nat × Int32 × xA)
  | 0, _, _, _, _ => none
  | n + 1, v3, v4, v5, a => if 6 < v5 then (some (0, v3, a)) else (xb2 (f342_way N h b v5 w1 w2 0 a) (fun r11 a12 => if r11 = (-1) then (j340_90 N h b (l340_44 N h b w1 w2 n) w1 w2 v3 v4 v5 a12) else (if v3 = (-1) then (j340_83 N h b (l340_44 N h b w1 w2 n) w1 w2 v5 r11 a12) else (if r11 < v4 then (j340_83 N h b (l340_44 N h b w1 w2 n) w1 w2 v5 r11 a12) else (j340_90 N h b (l340_44 N h b w1 w2 n) w1 w2 v3 v4 v5 a12)))))

def j340_36 (N h b : Nat) (q1 : Int32) (q2 : Int32) (a : xA) : Option (xA) :=
  (l340_44 N h b q1 q2 N (-1) 0 1 a).bind (fun z21 => xb2 (f342_way N h b z21.2.1 q1 q2 1 z21.2.2) (fun r26 a27 => xw (xU a27 157 51 q1) (fun a28 => xw (xU a28 157 52 q2) (fun a31 => some a31))))

def j340_17 (N h b : Nat) (q1 : Int32) (q2 : Int32) (a : xA) : Option (xA) :=
  if (a 157 53) = 0 then (j340_36 N h b q1 q2 a) else (xb2 (f297_has N h b 2 a) (fun r37 a38 => if r37 = 0 then (xb1 (f341_undress N h b a38) (fun a44 => j340_36 N h b q1 q2 a44)) else (j340_36 N h b q1 q2 a38)))

/-- TerminalHouseModel.motion(II)V -/
def f340_motion (N h b : Nat) (x0 : Int32) (x1 : Int32) (a : xA) : Option (xA) :=
  if (a 157 51) = x0 then (if (a 157 52) = x1 then (some a) else (j340_17 N h b x0 x1 a)) else (j340_17 N h b x0 x1 a)

def l336_50 (N h b : Nat) (w1 : Int32) (w2 : Int32) (w3 : Int32) (w4 : Int32) (w5 : Int32) : Nat → Int32 → Int32 → xA → Option (Nat × Int32 × xA)
  | 0, _, _, _ => none
  | n + 1, v6, v7, a => if (a 157 26) ≤ v7 then (some (0, v6, a)) else (if v6 = 0 then (xb2 (f337_movedCell N h b w5 v7 w3 a) (fun r16 a17 => xb2 (f338_unlike N h b w5 v7 r16 a17) (fun r21 a22 => l336_50 N h b w1 w2 w3 w4 w5 n r21 (v7 + 1) a22))) else (some (0, v6, a)))

def j336_89 (N h b : Nat) (rc : Int32 → Int32 → xA → Option (Nat × Int32 × xA)) (w1 : Int32) (w2 : Int32) (w3 : Int32) (q4 : Int32) (q5 : Int32) (q6 : Int32) (a : xA) : Option (Nat × Int32 × xA) :=
  rc (q4 + (if q6 = 0 then (0 : Int32) else (1 : Int32))) (q5 + 1) a

def l336_35 (N h b : Nat) (w1 : Int32) (w2 : Int32) (w3 : Int32) : Nat → Int32 → Int32 → xA → Option (Nat × Int32 × xA)
  | 0, _, _, _ => none
  | n + 1, v4, v5, a => if (a 157 27) ≤ v5 then (some (0, v4, a)) else ((l336_50 N h b w1 w2 w3 v4 v5 N 0 0 a).bind (fun z23 => j336_89 N h b (l336_35 N h b w1 w2 w3 n) w1 w2 w3 v4 v5 z23.2.1 z23.2.2))

def j336_121 (N h b : Nat) (rc : Int32 → Int32 → Int32 → xA → Option (Nat × Int32 × xA)) (q1 : Int32) (q2 : Int32) (q3 : Int32) (a : xA) : Option (Nat × Int32 × xA) :=
  rc q1 q2 (q3 + 1) a

def l336_21 (N h b : Nat) : Nat → Int32 → Int32 → Int32 → xA → Option (Nat × Int32 × xA)
  | 0, _, _, _, _ => none
  | n + 1, v1, v2, v3, a => if (a 157 27) ≤ v3 then (some (0, v1, a)) else ((l336_35 N h b v1 v2 v3 N 0 0 a).bind (fun z26 => if v2 ≤ z26.2.1 then (j336_121 N h b (l336_21 N h b n) v1 v2 v3 z26.2.2) else (j336_121 N h b (l336_21 N h b n) v3 z26.2.1 v3 z26.2.2)))

def l336_165 (N h b : Nat) (w1 : Int32) (w3 : Int32) : Nat → Int32 → xA → Option (Nat × xA)
  | 0, _, _ => none
  | n + 1, v4, a => if (a 157 26) ≤ v4 then (some (0, a)) else (xb2 (f337_movedCell N h b w3 v4 w1 a) (fun r46 a47 => xg (¬ ((80 * w3) + v4 < 0 ∨ 1920 ≤ ((80 * w3) + v4).toNatClampNeg)) (xw (xU a47 183 (((80 * w3) + v4).toNatClampNeg) r46) (fun a48 => l336_165 N h b w1 w3 n (v4 + 1) a48))))

def l336_154 (N h b : Nat) (w1 : Int32) : Nat → Int32 → xA → Option (Nat × xA)
  | 0, _, _ => none
  | n + 1, v3, a => if (a 157 27) ≤ v3 then (some (0, a)) else ((l336_165 N h b w1 v3 N 0 a).bind (fun z52 => l336_154 N h b w1 n (v3 + 1) z52.2))

/-- TerminalHouseModel.rolls()V -/
def f336_rolls (N h b : Nat) (a : xA) : Option (xA) :=
  xb2 (f297_has N h b 22 a) (fun r4 a5 => if r4 = 0 then (some a5) else ((l336_21 N h b N 0 ((a5 157 27) + 1) 0 a5).bind (fun z30 => if z30.2.1 = 0 then (some z30.2.2) else (xb1 (f340_motion N h b ((z30.2.2 157 27) - 1) 0 z30.2.2) (fun a36 => xb1 (f332_typeAll N h b 22 0 0 z30.2.1 a36) (fun a40 => (l336_154 N h b z30.2.1 N 0 a40).bind (fun z54 => some z54.2)))))))

def j350_63 (N h b : Nat) (rc : Int32 → xA → Option (Nat × xA)) (w1 : Int32) (q2 : Int32) (a : xA) : Option (Nat × xA) :=
  rc (q2 + 1) a

def l350_17 (N h b : Nat) (w1 : Int32) : Nat → Int32 → xA → Option (Nat × xA)
  | 0, _, _ => none
  | n + 1, v2, a => if 4 ≤ v2 then (some (0, a)) else (if ((w1 &&& ((a 157 53) ^^^ (-1))) &&& ((1 : Int32) <<< (v2 &&& 31))) = 0 then (j350_63 N h b (l350_17 N h b w1 n) w1 v2 a) else (xb1 (f332_typeAll N h b (26 + v2) 0 0 1 a) (fun a9 => xw (xU a9 157 53 ((a9 157 53) ||| ((1 : Int32) <<< (v2 &&& 31)))) (fun a10 => j350_63 N h b (l350_17 N h b w1 n) w1 v2 a10))))

def j350_15 (N h b : Nat) (q1 : Int32) (a : xA) : Option (xA) :=
  (l350_17 N h b q1 N 0 a).bind (fun z13 => some z13.2)

/-- TerminalHouseModel.dresses(I)V -/
def f350_dresses (N h b : Nat) (x0 : Int32) (a : xA) : Option (xA) :=
  if ((a 157 53) &&& (x0 ^^^ (-1))) = 0 then (j350_15 N h b x0 a) else (xb1 (f341_undress N h b a) (fun a18 => j350_15 N h b x0 a18))

def j351_51 (N h b : Nat) (q1 : Int32) (t0 : Int32) (a : xA) : Option (xA) :=
  xw (xU a 157 51 (if t0 = 0 then (q1 + 1) else (-1 : Int32))) (fun a27 => xw (xU a27 157 52 (if t0 = 0 then (0 : Int32) else (-1 : Int32))) (fun a31 => some a31))

def j351_46 (N h b : Nat) (q1 : Int32) (a : xA) : Option (xA) :=
  j351_51 N h b q1 1 a

/-- TerminalHouseModel.behind(II)V -/
def f351_behind (N h b : Nat) (x0 : Int32) (x1 : Int32) (a : xA) : Option (xA) :=
  if ((a 157 26) - 1) ≤ x1 then (xb2 (f297_has N h b 0 a) (fun r5 a6 => if r5 = 0 then (some a6) else (xb2 (f297_has N h b 1 a6) (fun r12 a13 => if r12 = 0 then (xw (xU a13 157 51 (if (if x0 = ((a13 157 27) - 1) then (1 : Int32) else (0 : Int32)) = 0 then (x0 + 1) else (-1 : Int32))) (fun a19 => xw (xU a19 157 52 (if (if x0 = ((a13 157 27) - 1) then (1 : Int32) else (0 : Int32)) = 0 then (0 : Int32) else (-1 : Int32))) (fun a23 => some a23))) else (j351_46 N h b x0 a13))))) else (xw (xU a 157 52 (x1 + 1)) (fun a34 => some a34))

def l349_2 (N h b : Nat) (w1 : Int32) : Nat → Int32 → xA → Option (Nat × Int32 × xA)
  | 0, _, _ => none
  | n + 1, v2, a => if (a 157 26) ≤ v2 then (some (0, v2, a)) else (xg (¬ ((80 * w1) + v2 < 0 ∨ 1920 ≤ ((80 * w1) + v2).toNatClampNeg)) (xb2 (f338_unlike N h b w1 v2 (a 183 (((80 * w1) + v2).toNatClampNeg)) a) (fun r7 a8 => if r7 = 0 then (l349_2 N h b w1 n (v2 + 1) a8) else (some (0, v2, a8)))))

def l349_52 (N h b : Nat) (w1 : Int32) (w2 : Int32) : Nat → Int32 → xA → Option (Nat × Int32 × xA)
  | 0, _, _ => none
  | n + 1, v3, a => xg (¬ ((80 * w1) + v3 < 0 ∨ 1920 ≤ ((80 * w1) + v3).toNatClampNeg)) (xb2 (f338_unlike N h b w1 v3 (a 183 (((80 * w1) + v3).toNatClampNeg)) a) (fun r17 a18 => if r17 = 0 then (l349_52 N h b w1 w2 n (v3 + (-1)) a18) else (some (0, v3, a18))))

def l349_84 (N h b : Nat) (w1 : Int32) (w2 : Int32) (w3 : Int32) : Nat → Int32 → xA → Option (Nat × Int32 × xA)
  | 0, _, _ => none
  | n + 1, v4, a => if v4 ≤ 0 then (some (0, v4, a)) else (xg (¬ (((80 * w1) + v4) - 1 < 0 ∨ 1920 ≤ (((80 * w1) + v4) - 1).toNatClampNeg)) (xb2 (f339_offeredOf N h b (a 170 ((((80 * w1) + v4) - 1).toNatClampNeg)) a) (fun r28 a29 => if r28 = 32 then (l349_84 N h b w1 w2 w3 n (v4 + (-1)) a29) else (some (0, v4, a29)))))

def j349_285 (N h b : Nat) (rc : Int32 → xA → Option (Nat × xA)) (w1 : Int32) (w5 : Int32) (w7 : Int32) (w8 : Int32) (q9 : Int32) (a : xA) : Option (Nat × xA) :=
  rc (q9 + 1) a

def l349_178 (N h b : Nat) (w1 : Int32) (w5 : Int32) (w7 : Int32) (w8 : Int32) : Nat → Int32 → xA → Option (Nat × xA)
  | 0, _, _ => none
  | n + 1, v9, a => if w8 ≤ v9 then (some (0, a)) else (if 6000 < (a 157 49) then (some (0, a)) else (xg (¬ ((80 * w1) + v9 < 0 ∨ 1920 ≤ ((80 * w1) + v9).toNatClampNeg)) (xb2 (f338_unlike N h b w1 v9 (a 183 (((80 * w1) + v9).toNatClampNeg)) a) (fun r48 a49 => if r48 = 0 then (j349_285 N h b (l349_178 N h b w1 w5 w7 w8 n) w1 w5 w7 w8 v9 a49) else (xb2 (f339_offeredOf N h b (a49 170 (((80 * w1) + v9).toNatClampNeg)) a49) (fun r54 a55 => xb1 (f340_motion N h b w1 v9 a55) (fun a59 => xb1 (f350_dresses N h b (r54 >>> ((8 : Int32) &&& 31)) a59) (fun a63 => xb1 (f334_typeByte N h b (r54 &&& 255) a63) (fun a67 => xw (xU a67 183 (((80 * w1) + v9).toNatClampNeg) r54) (fun a68 => xb1 (f351_behind N h b w1 v9 a68) (fun a74 => j349_285 N h b (l349_178 N h b w1 w5 w7 w8 n) w1 w5 w7 w8 v9 a74)))))))))))

def l349_332 (N h b : Nat) (w1 : Int32) : Nat → Int32 → xA → Option (Nat × xA)
  | 0, _, _ => none
  | n + 1, v9, a => if (a 157 26) ≤ v9 then (some (0, a)) else (xg (¬ ((80 * w1) + v9 < 0 ∨ 1920 ≤ ((80 * w1) + v9).toNatClampNeg)) (xw (xU a 183 (((80 * w1) + v9).toNatClampNeg) 32) (fun a94 => l349_332 N h b w1 n (v9 + 1) a94)))

def j349_291 (N h b : Nat) (q1 : Int32) (q5 : Int32) (q7 : Int32) (a : xA) : Option (xA) :=
  if q7 = 0 then (some a) else (if (a 157 49) ≤ 6000 then (xb1 (f340_motion N h b q1 q5 a) (fun a84 => xb1 (f350_dresses N h b 0 a84) (fun a88 => xb1 (f332_typeAll N h b 24 0 0 1 a88) (fun a92 => (l349_332 N h b q1 N q5 a92).bind (fun z98 => some z98.2))))) else (some a))

def j349_158 (N h b : Nat) (q1 : Int32) (q2 : Int32) (q3 : Int32) (q5 : Int32) (t0 : Int32) (a : xA) : Option (xA) :=
  (l349_178 N h b q1 q5 t0 (if t0 = 0 then (q3 + 1) else (q5)) N q2 a).bind (fun z75 => j349_291 N h b q1 q5 t0 z75.2)

def j349_157 (N h b : Nat) (q1 : Int32) (q2 : Int32) (q3 : Int32) (q5 : Int32) (a : xA) : Option (xA) :=
  j349_158 N h b q1 q2 q3 q5 0 a

def j349_118 (N h b : Nat) (q1 : Int32) (q2 : Int32) (q3 : Int32) (q4 : Int32) (a : xA) : Option (xA) :=
  xb2 (f333_bytesOf N h b 24 0 0 a) (fun r36 a37 => if r36 = (-1) then (j349_157 N h b q1 q2 q3 (xmax q2 q4) a37) else ((l349_178 N h b q1 (xmax q2 q4) (if ((q3 + 1) - (xmax q2 q4)) ≤ r36 then (0 : Int32) else (1 : Int32)) (if (if ((q3 + 1) - (xmax q2 q4)) ≤ r36 then (0 : Int32) else (1 : Int32)) = 0 then (q3 + 1) else (xmax q2 q4)) N q2 a37).bind (fun z102 => j349_291 N h b q1 (xmax q2 q4) (if ((q3 + 1) - (xmax q2 q4)) ≤ r36 then (0 : Int32) else (1 : Int32)) z102.2)))

def j349_36 (N h b : Nat) (q1 : Int32) (q2 : Int32) (a : xA) : Option (xA) :=
  if q2 = (a 157 26) then (some a) else ((l349_52 N h b q1 q2 N ((a 157 26) - 1) a).bind (fun z20 => (l349_84 N h b q1 q2 z20.2.1 N (z20.2.2 157 26) z20.2.2).bind (fun z31 => j349_118 N h b q1 q2 z20.2.1 z31.2.1 z31.2.2)))

/-- TerminalHouseModel.updates(I)V -/
def f349_updates (N h b : Nat) (x0 : Int32) (a : xA) : Option (xA) :=
  (l349_2 N h b x0 N 0 a).bind (fun z10 => j349_36 N h b x0 z10.2.1 z10.2.2)

/-- TerminalHouseModel.queue(I)I -/
def f352_queue (N h b : Nat) (x0 : Int32) (a : xA) : Option (Int32 × xA) :=
  if (a 157 56) = 8000 then (xw (xU a 157 57 ((a 157 57) + 1)) (fun a2 => some (0, a2))) else (xg (¬ (((a 157 55) + (a 157 56)) - ((a 157 55) + (a 157 56)) / 8000 * 8000 < 0 ∨ 8000 ≤ (((a 157 55) + (a 157 56)) - ((a 157 55) + (a 157 56)) / 8000 * 8000).toNatClampNeg)) (xw (xU a 184 ((((a 157 55) + (a 157 56)) - ((a 157 55) + (a 157 56)) / 8000 * 8000).toNatClampNeg) (vp_nar .byte x0.toInt8.toInt32)) (fun a5 => xw (xU a5 157 56 ((a5 157 56) + 1)) (fun a9 => some (1, a9)))))

def j331_64 (N h b : Nat) (rc : Int32 → xA → Option (Nat × xA)) (q1 : Int32) (t0 : Int32) (t1 : Int32) (a : xA) : Option (Nat × xA) :=
  xw (xU a 157 50 (t1 ||| t0)) (fun a19 => rc (q1 + 1) a19)

def j331_63 (N h b : Nat) (rc : Int32 → xA → Option (Nat × xA)) (q1 : Int32) (t0 : Int32) (a : xA) : Option (Nat × xA) :=
  j331_64 N h b (rc) q1 0 t0 a

def l331_27 (N h b : Nat) : Nat → Int32 → xA → Option (Nat × xA)
  | 0, _, _ => none
  | n + 1, v1, a => if 4 ≤ v1 then (some (0, a)) else (xb2 (f297_has N h b 25 a) (fun r15 a16 => if r15 = 0 then (j331_63 N h b (l331_27 N h b n) v1 (a 157 50) a16) else (xb2 (f297_has N h b (26 + v1) a16) (fun r25 a26 => if r25 = 0 then (j331_63 N h b (l331_27 N h b n) v1 (a 157 50) a26) else (j331_64 N h b (l331_27 N h b n) v1 ((1 : Int32) <<< (v1 &&& 31)) (a 157 50) a26)))))

def l331_76 (N h b : Nat) : Nat → Int32 → xA → Option (Nat × xA)
  | 0, _, _ => none
  | n + 1, v1, a => if 1920 ≤ v1 then (some (0, a)) else (xg (¬ (v1 < 0 ∨ 1920 ≤ v1.toNatClampNeg)) (xw (xU a 183 (v1.toNatClampNeg) (a 171 (v1.toNatClampNeg))) (fun a33 => l331_76 N h b n (v1 + 1) a33)))

def l331_158 (N h b : Nat) : Nat → Int32 → xA → Option (Nat × xA)
  | 0, _, _ => none
  | n + 1, v1, a => if (a 157 27) ≤ v1 then (some (0, a)) else (if 6000 < (a 157 49) then (some (0, a)) else (xb1 (f349_updates N h b v1 a) (fun a62 => l331_158 N h b n (v1 + 1) a62)))

def l331_253 (N h b : Nat) : Nat → Int32 → xA → Option (Nat × xA)
  | 0, _, _ => none
  | n + 1, v1, a => if 1920 ≤ v1 then (some (0, a)) else (xg (¬ (v1 < 0 ∨ 1920 ≤ v1.toNatClampNeg)) (xw (xU a 171 (v1.toNatClampNeg) (a 183 (v1.toNatClampNeg))) (fun a79 => l331_253 N h b n (v1 + 1) a79)))

def l331_304 (N h b : Nat) : Nat → Int32 → xA → Option (Nat × xA)
  | 0, _, _ => none
  | n + 1, v1, a => if (a 157 49) ≤ v1 then (some (0, a)) else (xg (¬ (v1 < 0 ∨ 6000 ≤ v1.toNatClampNeg)) (xb2 (f352_queue N h b (a 182 (v1.toNatClampNeg)) a) (fun r98 a99 => l331_304 N h b n (v1 + 1) a99)))

def j331_214 (N h b : Nat) (a : xA) : Option (Int32 × xA) :=
  if 6000 < (a 157 49) then (some ((-1), a)) else (if ((a 157 56) + (a 157 49)) ≤ 8000 then (xw (xU a 157 36 0) (fun a71 => xw (xU a71 157 35 0) (fun a74 => (l331_253 N h b N 0 a74).bind (fun z82 => xw (xU z82.2 157 32 (z82.2 157 51)) (fun a84 => xw (xU a84 157 33 (a84 157 52)) (fun a87 => xw (xU a87 157 34 (a87 157 53)) (fun a90 => (l331_304 N h b N 0 a90).bind (fun z100 => some (z100.2 157 49, z100.2))))))))) else (some ((-1), a)))

def j331_187 (N h b : Nat) (a : xA) : Option (Int32 × xA) :=
  if 6000 < (a 157 49) then (j331_214 N h b a) else (xb1 (f350_dresses N h b 0 a) (fun a105 => xb1 (f340_motion N h b (a105 157 30) (a105 157 31) a105) (fun a109 => j331_214 N h b a109)))

def j331_152 (N h b : Nat) (a : xA) : Option (Int32 × xA) :=
  xb1 (f336_rolls N h b a) (fun a54 => (l331_158 N h b N 0 a54).bind (fun z63 => j331_187 N h b z63.2))

def j331_141 (N h b : Nat) (a : xA) : Option (Int32 × xA) :=
  if (a 157 35) = 0 then (j331_152 N h b a) else (xb1 (f335_begins N h b a) (fun a113 => j331_152 N h b a113))

/-- TerminalHouseModel.update()I -/
def f331_update (N h b : Nat) (a : xA) : Option (Int32 × xA) :=
  xw (xU a 157 0 0) (fun a1 => if (a1 157 21) = (-1) then (some ((-1), a1)) else (xw (xU a1 157 49 0) (fun a5 => xw (xU a5 157 50 0) (fun a8 => (l331_27 N h b N 0 a8).bind (fun z29 => (l331_76 N h b N 0 z29.2).bind (fun z36 => xw (xU z36.2 157 51 (z36.2 157 32)) (fun a38 => xw (xU a38 157 52 (a38 157 33)) (fun a41 => xw (xU a41 157 53 (a41 157 34)) (fun a44 => if (a44 157 36) = 0 then (j331_141 N h b a44) else (xb1 (f332_typeAll N h b 6 0 0 1 a44) (fun a117 => j331_141 N h b a117)))))))))))

/-- TerminalHouseModel.keep(I)V -/
def f354_keep (N h b : Nat) (x0 : Int32) (a : xA) : Option (xA) :=
  xg (¬ (a 157 67 < 0 ∨ 300 ≤ (a 157 67).toNatClampNeg)) (xw (xU a 186 ((a 157 67).toNatClampNeg) x0) (fun a1 => xw (xU a1 157 67 ((a1 157 67) + 1)) (fun a5 => some a5)))

def l353_33 (N h b : Nat) (w2 : Int32) : Nat → Int32 → xA → Option (Nat × xA)
  | 0, _, _ => none
  | n + 1, v3, a => if (a 157 65) ≤ v3 then (some (0, a)) else (if 300 ≤ (a 157 67) then (some (0, a)) else (xg (¬ (v3 < 0 ∨ 100 ≤ v3.toNatClampNeg)) (xb1 (f354_keep N h b ((a 185 (v3.toNatClampNeg)) &&& 255) a) (fun a20 => l353_33 N h b w2 n (v3 + 1) a20))))

def j353_71 (N h b : Nat) (q2 : Int32) (a : xA) : Option (Int32 × xA) :=
  xw (xU a 157 65 0) (fun a23 => xw (xU a23 157 63 0) (fun a26 => some (q2, a26)))

/-- TerminalHouseModel.flags(I)I -/
def f353_flags (N h b : Nat) (x0 : Int32) (a : xA) : Option (Int32 × xA) :=
  xw (xU a 157 0 0) (fun a1 => xw (xU a1 157 58 (x0 &&& 255)) (fun a4 => if ((a1 157 58) &&& 1) = 0 then (some (a1 157 58, a4)) else (if (x0 &&& 1) = 0 then ((l353_33 N h b (a1 157 58) N 0 a4).bind (fun z21 => j353_71 N h b (a1 157 58) z21.2)) else (some (a1 157 58, a4)))))

/-- TerminalHouseModel.flag(I)Z -/
def f358_flag (N h b : Nat) (x0 : Int32) (a : xA) : Option (Int32 × xA) :=
  xg ((if ((a 157 58) &&& x0) = 0 then (0 : Int32) else (1 : Int32)) = 0 ∨ (if ((a 157 58) &&& x0) = 0 then (0 : Int32) else (1 : Int32)) = 1) (some ((if ((a 157 58) &&& x0) = 0 then (0 : Int32) else (1 : Int32)), a))

/-- TerminalHouseModel.moved(II)I -/
def f357_moved (N h b : Nat) (x0 : Int32) (x1 : Int32) (a : xA) : Option (Int32 × xA) :=
  if x1 = 13 then (some (0, a)) else (if x1 = 10 then (xb2 (f358_flag N h b 16 a) (fun r6 a7 => some ((if r6 = 0 then (x0) else (0 : Int32)), a7))) else (if x1 = 8 then (some (xmax 0 (x0 - 1), a)) else (if x1 = 9 then (some (xmin 10000 (((x0 / 8) * 8) + 8), a)) else (if x1 < 32 then (some (x0, a)) else (if 126 < x1 then (some (x0, a)) else (some (xmin 10000 (x0 + 1), a)))))))

def j356_109 (N h b : Nat) (q2 : Int32) (q3 : Int32) (a : xA) : Option (Int32 × xA) :=
  xw (xU a 157 59 q3) (fun a28 => some (q2, a28))

def j356_103 (N h b : Nat) (q1 : Int32) (q3 : Int32) (a : xA) : Option (Int32 × xA) :=
  xb2 (f352_queue N h b q1 a) (fun r26 a27 => j356_109 N h b r26 q3 a27)

def l356_80 (N h b : Nat) (w3 : Int32) : Nat → Int32 → Int32 → xA → Option (Nat × Int32 × xA)
  | 0, _, _, _ => none
  | n + 1, v2, v4, a => if v4 ≤ 0 then (some (0, v2, a)) else (xb2 (f352_queue N h b 32 a) (fun r35 a36 => l356_80 N h b w3 n (v2 + r35) (v4 + (-1)) a36))

def j356_44 (N h b : Nat) (q1 : Int32) (q2 : Int32) (q3 : Int32) (a : xA) : Option (Int32 × xA) :=
  if q1 = 9 then (xb2 (f358_flag N h b 128 a) (fun r19 a20 => if r19 = 0 then (j356_103 N h b q1 q3 a20) else ((l356_80 N h b q3 N q2 (((((a20 157 59) / 8) * 8) + 8) - (a20 157 59)) a20).bind (fun z37 => j356_109 N h b z37.2.1 q3 z37.2.2)))) else (j356_103 N h b q1 q3 a)

/-- TerminalHouseModel.putOne(I)I -/
def f356_putOne (N h b : Nat) (x0 : Int32) (a : xA) : Option (Int32 × xA) :=
  xb2 (f357_moved N h b (a 157 59) x0 a) (fun r4 a5 => if x0 = 10 then (xb2 (f358_flag N h b 16 a5) (fun r11 a12 => if r11 = 0 then (j356_44 N h b x0 0 r4 a12) else (xb2 (f352_queue N h b 13 a12) (fun r42 a43 => xb2 (f352_queue N h b 10 a43) (fun r47 a48 => j356_109 N h b (r42 + r47) r4 a48))))) else (j356_44 N h b x0 0 r4 a5))

def l355_19 (N h b : Nat) (w1 : Int32) : Nat → Int32 → Int32 → xA → Option (Nat × Int32 × xA)
  | 0, _, _, _ => none
  | n + 1, v2, v3, a => if w1 ≤ v3 then (some (0, v2, a)) else (xg (¬ (v3 < 0 ∨ 3000 ≤ v3.toNatClampNeg)) (xb2 (f356_putOne N h b ((a 158 (v3.toNatClampNeg)) &&& 255) a) (fun r12 a13 => l355_19 N h b w1 n (v2 + r12) (v3 + 1) a13)))

/-- TerminalHouseModel.write()I -/
def f355_write (N h b : Nat) (a : xA) : Option (Int32 × xA) :=
  xw (xU a 157 0 0) (fun a1 => xw (xU a1 157 2 0) (fun a4 => (l355_19 N h b (a1 157 2) N 0 0 a4).bind (fun z14 => some (z14.2.1, z14.2.2))))

def j359_152 (N h b : Nat) (rc : Int32 → Int32 → xA → Option (Nat × Int32 × Int32 × xA)) (w1 : Int32) (q2 : Int32) (q3 : Int32) (a : xA) : Option (Nat × Int32 × Int32 × xA) :=
  rc (q2 + 1) q3 a

def l359_111 (N h b : Nat) (w1 : Int32) : Nat → Int32 → Int32 → xA → Option (Nat × Int32 × Int32 × xA)
  | 0, _, _, _ => none
  | n + 1, v2, v3, a => if (a 157 67) ≤ v2 then (some (0, v2, v3, a)) else (if w1 ≤ v3 then (some (0, v2, v3, a)) else (xg (¬ (v2 < 0 ∨ 300 ≤ v2.toNatClampNeg)) (if (a 186 (v2.toNatClampNeg)) = 256 then (j359_152 N h b (l359_111 N h b w1 n) w1 v2 v3 a) else (xg (¬ (v3 < 0 ∨ 300 ≤ v3.toNatClampNeg)) (xw (xU a 159 (v3.toNatClampNeg) (vp_nar .byte ((a 186 (v2.toNatClampNeg)).toInt8.toInt32))) (fun a25 => j359_152 N h b (l359_111 N h b w1 n) w1 v2 (v3 + 1) a25))))))

def l359_161 (N h b : Nat) (w2 : Int32) (w3 : Int32) : Nat → Int32 → xA → Option (Nat × xA)
  | 0, _, _ => none
  | n + 1, v4, a => if (a 157 67) ≤ v4 then (some (0, a)) else (xg (¬ (v4 < 0 ∨ 300 ≤ v4.toNatClampNeg)) (xg (¬ (v4 - w2 < 0 ∨ 300 ≤ (v4 - w2).toNatClampNeg)) (xw (xU a 186 ((v4 - w2).toNatClampNeg) (a 186 (v4.toNatClampNeg))) (fun a33 => l359_161 N h b w2 w3 n (v4 + 1) a33))))

def j359_158 (N h b : Nat) (q2 : Int32) (q3 : Int32) (a : xA) : Option (Int32 × xA) :=
  (l359_161 N h b q2 q3 N q2 a).bind (fun z37 => xw (xU z37.2 157 67 ((z37.2 157 67) - q2)) (fun a39 => xw (xU a39 157 4 q3) (fun a42 => some (q3, a42))))

def l359_38 (N h b : Nat) (w1 : Int32) : Nat → Int32 → Int32 → xA → Option (Nat × Int32 × Int32 × xA)
  | 0, _, _, _ => none
  | n + 1, v2, v3, a => if (a 157 67) ≤ v2 then (some (0, v2, v3, a)) else (if w1 ≤ v3 then (some (0, v2, v3, a)) else (xg (¬ (v2 < 0 ∨ 300 ≤ v2.toNatClampNeg)) (if (a 186 (v2.toNatClampNeg)) = 256 then (some (0, v2, v3, a)) else (xg (¬ (v3 < 0 ∨ 300 ≤ v3.toNatClampNeg)) (xw (xU a 159 (v3.toNatClampNeg) (vp_nar .byte ((a 186 (v2.toNatClampNeg)).toInt8.toInt32))) (fun a52 => l359_38 N h b w1 n (v2 + 1) (v3 + 1) a52))))))

def j359_85 (N h b : Nat) (q2 : Int32) (q3 : Int32) (a : xA) : Option (Int32 × xA) :=
  if (a 157 67) ≤ q2 then (j359_158 N h b q2 q3 a) else (xg (¬ (q2 < 0 ∨ 300 ≤ q2.toNatClampNeg)) (if (a 186 (q2.toNatClampNeg)) = 256 then (j359_158 N h b (q2 + 1) q3 a) else (j359_158 N h b q2 q3 a)))

/-- TerminalHouseModel.read(I)I -/
def f359_read (N h b : Nat) (x0 : Int32) (a : xA) : Option (Int32 × xA) :=
  xw (xU a 157 0 0) (fun a1 => if x0 < 1 then (some ((-1), a1)) else (if 300 < x0 then (some ((-1), a1)) else (if (a1 157 67) = 0 then (some ((-1), a1)) else (xb2 (f358_flag N h b 1 a1) (fun r15 a16 => if r15 = 0 then ((l359_111 N h b x0 N 0 0 a16).bind (fun z29 => j359_158 N h b z29.2.1 z29.2.2.1 z29.2.2.2)) else ((l359_38 N h b x0 N 0 0 a16).bind (fun z56 => j359_85 N h b z56.2.1 z56.2.2.1 z56.2.2.2)))))))

/-- TerminalHouseModel.mode(I)Z -/
def f363_mode (N h b : Nat) (x0 : Int32) (a : xA) : Option (Int32 × xA) :=
  xg ((if ((a 157 98) &&& x0) = 0 then (0 : Int32) else (1 : Int32)) = 0 ∨ (if ((a 157 98) &&& x0) = 0 then (0 : Int32) else (1 : Int32)) = 1) (some ((if ((a 157 98) &&& x0) = 0 then (0 : Int32) else (1 : Int32)), a))

/-- TerminalHouseModel.saves()V -/
def f362_saves (N h b : Nat) (a : xA) : Option (xA) :=
  xw (xU a 157 104 (a 157 93)) (fun a1 => xw (xU a1 157 105 (a1 157 94)) (fun a4 => xw (xU a4 157 106 (a4 157 97)) (fun a7 => xg ((a7 157 109) = 0 ∨ (a7 157 109) = 1) (xw (xU a7 157 111 (a7 157 109)) (fun a10 => xg ((a10 157 110) = 0 ∨ (a10 157 110) = 1) (xw (xU a10 157 112 (a10 157 110)) (fun a14 => xw (xU a14 157 107 (a14 157 103)) (fun a18 => xb2 (f363_mode N h b 16 a18) (fun r24 a25 => xg (r24 = 0 ∨ r24 = 1) (xw (xU a25 157 113 r24) (fun a26 => some a26)))))))))))

def l361_2 (N h b : Nat) : Nat → Int32 → xA → Option (Nat × xA)
  | 0, _, _ => none
  | n + 1, v1, a => if 1920 ≤ v1 then (some (0, a)) else (xg (¬ (v1 < 0 ∨ 1920 ≤ v1.toNatClampNeg)) (xw (xU a 190 (v1.toNatClampNeg) 32) (fun a2 => l361_2 N h b n (v1 + 1) a2)))

def l361_25 (N h b : Nat) : Nat → Int32 → xA → Option (Nat × xA)
  | 0, _, _ => none
  | n + 1, v1, a => if 24 ≤ v1 then (some (0, a)) else (xg (¬ (v1 < 0 ∨ 24 ≤ v1.toNatClampNeg)) (xw (xU a 191 (v1.toNatClampNeg) 0) (fun a9 => l361_25 N h b n (v1 + 1) a9)))

def j361_73 (N h b : Nat) (rc : Int32 → xA → Option (Nat × xA)) (q1 : Int32) (t0 : Int32) (t1 : Int32) (a : xA) : Option (Nat × xA) :=
  xg (¬ (t1 < 0 ∨ 80 ≤ t1.toNatClampNeg)) (xw (xU a 192 (t1.toNatClampNeg) (vp_nar .boolean t0)) (fun a18 => rc (q1 + 1) a18))

def j361_72 (N h b : Nat) (rc : Int32 → xA → Option (Nat × xA)) (q1 : Int32) (t0 : Int32) (a : xA) : Option (Nat × xA) :=
  j361_73 N h b (rc) q1 0 t0 a

def l361_46 (N h b : Nat) : Nat → Int32 → xA → Option (Nat × xA)
  | 0, _, _ => none
  | n + 1, v1, a => if 80 ≤ v1 then (some (0, a)) else (if v1 ≤ 0 then (j361_72 N h b (l361_46 N h b n) v1 v1 a) else (xg (¬ (v1 < 0 ∨ 80 ≤ v1.toNatClampNeg)) (xw (xU a 192 (v1.toNatClampNeg) (vp_nar .boolean (if (v1 - v1 / 8 * 8) = 0 then (1 : Int32) else (0 : Int32)))) (fun a23 => l361_46 N h b n (v1 + 1) a23))))

/-- TerminalHouseModel.anew()V -/
def f361_anew (N h b : Nat) (a : xA) : Option (xA) :=
  (l361_2 N h b N 0 a).bind (fun z6 => (l361_25 N h b N 0 z6.2).bind (fun z13 => (l361_46 N h b N 0 z13.2).bind (fun z27 => xw (xU z27.2 157 93 0) (fun a29 => xw (xU a29 157 94 0) (fun a32 => xw (xU a32 157 108 0) (fun a35 => xw (xU a35 157 95 0) (fun a38 => xw (xU a38 157 96 ((a38 157 68) - 1)) (fun a41 => xw (xU a41 157 98 96) (fun a44 => xw (xU a44 157 97 0) (fun a47 => xw (xU a47 157 109 0) (fun a50 => xw (xU a50 157 110 0) (fun a53 => xw (xU a53 157 103 0) (fun a56 => xw (xU a56 157 99 0) (fun a59 => xb1 (f362_saves N h b a59) (fun a65 => some a65)))))))))))))))

def j364_27 (N h b : Nat) (q1 : Int32) (a : xA) : Option (Int32 × xA) :=
  if q1 = 1 then (if (a 157 75) = (-1) then (some (0, a)) else (xw (xU a 157 75 256) (fun a15 => some (1, a15)))) else (some (0, a))

/-- TerminalHouseModel.spoil(I)Z -/
def f364_spoil (N h b : Nat) (x0 : Int32) (a : xA) : Option (Int32 × xA) :=
  xw (xU a 157 0 0) (fun a1 => if x0 = 0 then (if (a1 157 74) = (-1) then (j364_27 N h b x0 a1) else (xw (xU a1 157 74 256) (fun a18 => some (1, a18)))) else (j364_27 N h b x0 a1))

def j367_12 (N h b : Nat) (q1 : Int32) (a : xA) : Option (xA) :=
  xg ((if q1 = 19 then (1 : Int32) else (0 : Int32)) = 0 ∨ (if q1 = 19 then (1 : Int32) else (0 : Int32)) = 1) (xw (xU a 157 85 (if q1 = 19 then (1 : Int32) else (0 : Int32))) (fun a6 => some a6))

def j367_90 (N h b : Nat) (t0 : Int32) (a : xA) : Option (xA) :=
  xg (t0 = 0 ∨ t0 = 1) (xw (xU a 157 83 t0) (fun a30 => some a30))

def j367_85 (N h b : Nat) (a : xA) : Option (xA) :=
  j367_90 N h b 1 a

/-- TerminalHouseModel.arrives(I)V -/
def f367_arrives (N h b : Nat) (x0 : Int32) (a : xA) : Option (xA) :=
  if x0 = 19 then (j367_12 N h b x0 a) else (if x0 = 17 then (j367_12 N h b x0 a) else (if (a 157 79) = 64 then (xw (xU a 157 80 ((a 157 80) + 1)) (fun a12 => some a12)) else (xg (¬ (a 157 79 < 0 ∨ 64 ≤ (a 157 79).toNatClampNeg)) (xw (xU a 187 ((a 157 79).toNatClampNeg) x0) (fun a15 => xw (xU a15 157 79 ((a15 157 79) + 1)) (fun a19 => if (a19 157 83) = 0 then (xg ((if (a19 157 79) < 48 then (0 : Int32) else (1 : Int32)) = 0 ∨ (if (a19 157 79) < 48 then (0 : Int32) else (1 : Int32)) = 1) (xw (xU a19 157 83 (if (a19 157 79) < 48 then (0 : Int32) else (1 : Int32))) (fun a26 => some a26))) else (j367_85 N h b a19)))))))

def j371_24 (N h b : Nat) (a : xA) : Option (Int32 × xA) :=
  some (1, a)

/-- TerminalHouseModel.isPlain(I)Z -/
def f371_isPlain (N h b : Nat) (x0 : Int32) (a : xA) : Option (Int32 × xA) :=
  if x0 = 9 then (j371_24 N h b a) else (if x0 = 10 then (j371_24 N h b a) else (if x0 < 32 then (some (0, a)) else (xg ((if 126 < x0 then (0 : Int32) else (1 : Int32)) = 0 ∨ (if 126 < x0 then (0 : Int32) else (1 : Int32)) = 1) (some ((if 126 < x0 then (0 : Int32) else (1 : Int32)), a)))))

/-- TerminalHouseModel.echo(I)V -/
def f370_echo (N h b : Nat) (x0 : Int32) (a : xA) : Option (xA) :=
  xb2 (f358_flag N h b 2 a) (fun r4 a5 => if r4 = 0 then (some a5) else (xb2 (f371_isPlain N h b x0 a5) (fun r10 a11 => if r10 = 0 then (xb2 (f356_putOne N h b 94 a11) (fun r16 a17 => xb2 (f356_putOne N h b (x0 ^^^ 64) a17) (fun r21 a22 => some a22))) else (xb2 (f356_putOne N h b x0 a11) (fun r26 a27 => some a27)))))

def j369_105 (N h b : Nat) (q1 : Int32) (a : xA) : Option (xA) :=
  xb1 (f370_echo N h b q1 a) (fun a29 => some a29)

def j369_76 (N h b : Nat) (q1 : Int32) (a : xA) : Option (xA) :=
  xg (¬ (a 157 65 < 0 ∨ 100 ≤ (a 157 65).toNatClampNeg)) (xw (xU a 185 ((a 157 65).toNatClampNeg) (vp_nar .byte q1.toInt8.toInt32)) (fun a35 => xw (xU a35 157 65 ((a35 157 65) + 1)) (fun a39 => j369_105 N h b q1 a39)))

/-- TerminalHouseModel.taken(I)V -/
def f369_taken (N h b : Nat) (x0 : Int32) (a : xA) : Option (xA) :=
  xb2 (f358_flag N h b 1 a) (fun r4 a5 => if (if r4 = 0 then (if 300 ≤ (a5 157 67) then (0 : Int32) else (1 : Int32)) else (if 100 ≤ (a5 157 65) then (0 : Int32) else (1 : Int32))) = 0 then (xb2 (f356_putOne N h b 7 a5) (fun r13 a14 => some a14)) else (xb2 (f358_flag N h b 1 a5) (fun r18 a19 => if r18 = 0 then (xb1 (f354_keep N h b x0 a19) (fun a25 => j369_105 N h b x0 a25)) else (if (a19 157 65) = 0 then (xw (xU a19 157 60 (a19 157 59)) (fun a32 => j369_76 N h b x0 a32)) else (j369_76 N h b x0 a19)))))

/-- TerminalHouseModel.signal()V -/
def f372_signal (N h b : Nat) (a : xA) : Option (xA) :=
  xw (xU a 157 61 ((a 157 61) + 1)) (fun a1 => xw (xU a1 157 65 0) (fun a4 => xw (xU a4 157 67 0) (fun a7 => xw (xU a7 157 56 0) (fun a10 => xw (xU a10 157 63 0) (fun a13 => xw (xU a13 157 62 0) (fun a16 => xb2 (f358_flag N h b 2 a16) (fun r22 a23 => if r22 = 0 then (some a23) else (xb2 (f356_putOne N h b 94 a23) (fun r28 a29 => xb2 (f356_putOne N h b 67 a29) (fun r33 a34 => xb2 (f356_putOne N h b 10 a34) (fun r38 a39 => some a39)))))))))))

def j375_57 (N h b : Nat) (rc : Int32 → Int32 → xA → Option (Nat × Int32 × xA)) (q2 : Int32) (t0 : Int32) (a : xA) : Option (Nat × Int32 × xA) :=
  rc t0 (q2 + 1) a

def l375_7 (N h b : Nat) : Nat → Int32 → Int32 → xA → Option (Nat × Int32 × xA)
  | 0, _, _, _ => none
  | n + 1, v1, v2, a => if (a 157 65) ≤ v2 then (some (0, v1, a)) else (xg (¬ (v2 < 0 ∨ 100 ≤ v2.toNatClampNeg)) (xb2 (f371_isPlain N h b ((a 185 (v2.toNatClampNeg)) &&& 255) a) (fun r6 a7 => if r6 = 0 then (xb2 (f357_moved N h b v1 94 a7) (fun r13 a14 => xb2 (f357_moved N h b r13 (((a 185 (v2.toNatClampNeg)) &&& 255) ^^^ 64) a14) (fun r18 a19 => j375_57 N h b (l375_7 N h b n) v2 r18 a19))) else (xb2 (f357_moved N h b v1 ((a 185 (v2.toNatClampNeg)) &&& 255) a7) (fun r23 a24 => j375_57 N h b (l375_7 N h b n) v2 r23 a24)))))

/-- TerminalHouseModel.reached()I -/
def f375_reached (N h b : Nat) (a : xA) : Option (Int32 × xA) :=
  (l375_7 N h b N (a 157 60) 0 a).bind (fun z25 => some (z25.2.1, z25.2.2))

def l374_65 (N h b : Nat) (w2 : Int32) : Nat → Int32 → xA → Option (Nat × xA)
  | 0, _, _ => none
  | n + 1, v3, a => if w2 ≤ v3 then (some (0, a)) else (xb2 (f356_putOne N h b 8 a) (fun r32 a33 => l374_65 N h b w2 n (v3 + 1) a33))

def l374_104 (N h b : Nat) (w2 : Int32) : Nat → Int32 → xA → Option (Nat × xA)
  | 0, _, _ => none
  | n + 1, v3, a => if w2 ≤ v3 then (some (0, a)) else (xb2 (f356_putOne N h b 8 a) (fun r43 a44 => xb2 (f356_putOne N h b 32 a44) (fun r48 a49 => xb2 (f356_putOne N h b 8 a49) (fun r53 a54 => l374_104 N h b w2 n (v3 + 1) a54))))

def j374_101 (N h b : Nat) (t0 : Int32) (a : xA) : Option (xA) :=
  (l374_104 N h b t0 N 0 a).bind (fun z55 => some z55.2)

def j374_100 (N h b : Nat) (a : xA) : Option (xA) :=
  j374_101 N h b 2 a

/-- TerminalHouseModel.rub()V -/
def f374_rub (N h b : Nat) (a : xA) : Option (xA) :=
  xw (xU a 157 65 ((a 157 65) - 1)) (fun a1 => xg (¬ (a1 157 65 < 0 ∨ 100 ≤ (a1 157 65).toNatClampNeg)) (xb2 (f358_flag N h b 2 a1) (fun r8 a9 => if r8 = 0 then (some a9) else (xb2 (f358_flag N h b 4 a9) (fun r15 a16 => if r15 = 0 then (some a16) else (if ((a1 185 ((a1 157 65).toNatClampNeg)) &&& 255) = 10 then (some a16) else (if ((a1 185 ((a1 157 65).toNatClampNeg)) &&& 255) = 9 then (xb2 (f375_reached N h b a16) (fun r26 a27 => (l374_65 N h b ((a16 157 59) - r26) N 0 a27).bind (fun z34 => some z34.2))) else (if ((a1 185 ((a1 157 65).toNatClampNeg)) &&& 255) < 32 then (j374_100 N h b a16) else ((l374_104 N h b (if 126 < ((a1 185 ((a1 157 65).toNatClampNeg)) &&& 255) then (2 : Int32) else (1 : Int32)) N 0 a16).bind (fun z58 => some z58.2))))))))))

def l376_37 (N h b : Nat) (w1 : Int32) : Nat → Int32 → xA → Option (Nat × xA)
  | 0, _, _ => none
  | n + 1, v3, a => if (a 157 65) ≤ v3 then (some (0, a)) else (xg (¬ (v3 < 0 ∨ 100 ≤ v3.toNatClampNeg)) (xb1 (f354_keep N h b ((a 185 (v3.toNatClampNeg)) &&& 255) a) (fun a8 => l376_37 N h b w1 n (v3 + 1) a8)))

def j376_75 (N h b : Nat) (q1 : Int32) (a : xA) : Option (xA) :=
  xb1 (f354_keep N h b 256 a) (fun a16 => xw (xU a16 157 65 0) (fun a17 => if q1 = 0 then (some a17) else (xb2 (f358_flag N h b 2 a17) (fun r25 a26 => if r25 = 0 then (some a26) else (xb2 (f356_putOne N h b 10 a26) (fun r32 a33 => some a33))))))

/-- TerminalHouseModel.ended(Z)V -/
def f376_ended (N h b : Nat) (x0 : Int32) (a : xA) : Option (xA) :=
  if ((a 157 67) + ((a 157 65) + (if x0 = 0 then (1 : Int32) else (2 : Int32)))) ≤ 300 then ((l376_37 N h b x0 N 0 a).bind (fun z9 => if x0 = 0 then (j376_75 N h b x0 z9.2) else (xb1 (f354_keep N h b 10 z9.2) (fun a37 => j376_75 N h b x0 a37)))) else (xb2 (f356_putOne N h b 7 a) (fun r41 a42 => some a42))

def l373_238 (N h b : Nat) : Nat → Int32 → xA → Option (Nat × xA)
  | 0, _, _ => none
  | n + 1, v2, a => if (a 157 65) ≤ v2 then (some (0, a)) else (xg (¬ (v2 < 0 ∨ 100 ≤ v2.toNatClampNeg)) (xb1 (f370_echo N h b ((a 185 (v2.toNatClampNeg)) &&& 255) a) (fun a47 => l373_238 N h b n (v2 + 1) a47)))

def l373_182 (N h b : Nat) : Nat → xA → Option (Nat × xA)
  | 0, _ => none
  | n + 1, a => if (a 157 65) ≤ 0 then (some (0, a)) else (xb1 (f374_rub N h b a) (fun a55 => l373_182 N h b n a55))

def l373_120 (N h b : Nat) : Nat → xA → Option (Nat × xA)
  | 0, _ => none
  | n + 1, a => if (a 157 65) ≤ 0 then (some (0, a)) else (xg (¬ ((a 157 65) - 1 < 0 ∨ 100 ≤ ((a 157 65) - 1).toNatClampNeg)) (xb2 (f267_isBlank N h b (a 185 (((a 157 65) - 1).toNatClampNeg)) a) (fun r84 a85 => if r84 = 0 then (some (0, a85)) else (xb1 (f374_rub N h b a85) (fun a90 => l373_120 N h b n a90)))))

def l373_151 (N h b : Nat) : Nat → xA → Option (Nat × xA)
  | 0, _ => none
  | n + 1, a => if (a 157 65) ≤ 0 then (some (0, a)) else (xg (¬ ((a 157 65) - 1 < 0 ∨ 100 ≤ ((a 157 65) - 1).toNatClampNeg)) (xb2 (f267_isBlank N h b (a 185 (((a 157 65) - 1).toNatClampNeg)) a) (fun r98 a99 => if r98 = 0 then (xb1 (f374_rub N h b a99) (fun a104 => l373_151 N h b n a104)) else (some (0, a99)))))

/-- TerminalHouseModel.edits(I)V -/
def f373_edits (N h b : Nat) (x0 : Int32) (a : xA) : Option (xA) :=
  if x0 = 4 then (xb1 (f376_ended N h b 0 a) (fun a5 => some a5)) else (if x0 = 8 ∨ x0 = 127 then (if (a 157 65) ≤ 0 then (some a) else (xb1 (f374_rub N h b a) (fun a11 => some a11))) else (if x0 = 10 then (xb1 (f376_ended N h b 1 a) (fun a16 => some a16)) else (if x0 = 18 then (xb2 (f358_flag N h b 2 a) (fun r21 a22 => if r21 = 0 then (some a22) else (xb2 (f356_putOne N h b 94 a22) (fun r27 a28 => xb2 (f356_putOne N h b 82 a28) (fun r32 a33 => xb2 (f356_putOne N h b 10 a33) (fun r37 a38 => xw (xU a38 157 60 (a38 157 59)) (fun a39 => (l373_238 N h b N 0 a39).bind (fun z48 => some z48.2)))))))) else (if x0 = 21 then ((l373_182 N h b N a).bind (fun z56 => some z56.2)) else (if x0 = 22 then (xw (xU a 157 63 1) (fun a59 => xb2 (f358_flag N h b 2 a59) (fun r65 a66 => if r65 = 0 then (some a66) else (xb2 (f356_putOne N h b 94 a66) (fun r71 a72 => xb2 (f356_putOne N h b 8 a72) (fun r76 a77 => some a77)))))) else (if x0 = 23 then ((l373_120 N h b N a).bind (fun z91 => (l373_151 N h b N z91.2).bind (fun z105 => some z105.2))) else (xb1 (f369_taken N h b x0 a) (fun a110 => some a110))))))))

def j368_105 (N h b : Nat) (q2 : Int32) (a : xA) : Option (xA) :=
  xb2 (f358_flag N h b 1 a) (fun r33 a34 => if r33 = 0 then (xb1 (f369_taken N h b q2 a34) (fun a40 => some a40)) else (xb1 (f373_edits N h b q2 a34) (fun a44 => some a44)))

def j368_64 (N h b : Nat) (q2 : Int32) (a : xA) : Option (xA) :=
  if (a 157 63) = 0 then (xb2 (f358_flag N h b 32 a) (fun r25 a26 => if r25 = 0 then (j368_105 N h b q2 a26) else (if q2 = 3 then (xb1 (f372_signal N h b a26) (fun a50 => some a50)) else (j368_105 N h b q2 a26)))) else (xw (xU a 157 63 0) (fun a51 => xb1 (f369_taken N h b q2 a51) (fun a57 => some a57)))

def j368_48 (N h b : Nat) (q2 : Int32) (a : xA) : Option (xA) :=
  xw (xU a 157 62 (if q2 = 19 then (1 : Int32) else (0 : Int32))) (fun a63 => some a63)

def j368_27 (N h b : Nat) (q2 : Int32) (a : xA) : Option (xA) :=
  xb2 (f358_flag N h b 64 a) (fun r14 a15 => if r14 = 0 then (j368_64 N h b q2 a15) else (if q2 = 19 then (j368_48 N h b q2 a15) else (if q2 = 17 then (j368_48 N h b q2 a15) else (j368_64 N h b q2 a15))))

/-- TerminalHouseModel.comes(I)V -/
def f368_comes (N h b : Nat) (x0 : Int32) (a : xA) : Option (xA) :=
  if x0 = 13 then (xb2 (f358_flag N h b 8 a) (fun r6 a7 => if r6 = 0 then (j368_27 N h b x0 a7) else (if (a7 157 63) = 0 then (j368_27 N h b 10 a7) else (j368_27 N h b x0 a7)))) else (j368_27 N h b x0 a)

def j378_10 (N h b : Nat) (q0 : Int32) (a : xA) : Option (Int32 × xA) :=
  if q0 < 32 then (some (0, a)) else (xg ((if 126 < q0 then (0 : Int32) else (1 : Int32)) = 0 ∨ (if 126 < q0 then (0 : Int32) else (1 : Int32)) = 1) (some ((if 126 < q0 then (0 : Int32) else (1 : Int32)), a)))

def j378_22 (N h b : Nat) (a : xA) : Option (Int32 × xA) :=
  some (1, a)

/-- TerminalHouseModel.isKey(I)Z -/
def f378_isKey (N h b : Nat) (x0 : Int32) (a : xA) : Option (Int32 × xA) :=
  if x0 < 0 then (j378_10 N h b x0 a) else (if x0 ≤ 28 then (j378_22 N h b a) else (j378_10 N h b x0 a))

/-- TerminalHouseModel.replies(I)V -/
def f380_replies (N h b : Nat) (x0 : Int32) (a : xA) : Option (xA) :=
  xg (¬ (a 157 89 < 0 ∨ 32 ≤ (a 157 89).toNatClampNeg)) (xw (xU a 189 ((a 157 89).toNatClampNeg) x0) (fun a1 => xw (xU a1 157 89 ((a1 157 89) + 1)) (fun a5 => some a5)))

def l381_22 (N h b : Nat) (w1 : Int32) : Nat → Int32 → xA → Option (Nat × xA)
  | 0, _, _ => none
  | n + 1, v2, a => if (a 157 89) ≤ v2 then (some (0, a)) else (if w1 = 0 then (some (0, a)) else (xg (¬ (v2 < 0 ∨ 32 ≤ v2.toNatClampNeg)) (xg (¬ (a 157 87 < 0 ∨ 32 ≤ (a 157 87).toNatClampNeg)) (xw (xU a 188 ((a 157 87).toNatClampNeg) (vp_nar .byte ((a 189 (v2.toNatClampNeg)).toInt8.toInt32))) (fun a7 => xw (xU a7 157 87 ((a7 157 87) + 1)) (fun a11 => l381_22 N h b w1 n (v2 + 1) a11))))))

def j381_66 (N h b : Nat) (q1 : Int32) (a : xA) : Option (Int32 × xA) :=
  xw (xU a 157 89 0) (fun a16 => xg (q1 = 0 ∨ q1 = 1) (some (q1, a16)))

/-- TerminalHouseModel.answer()Z -/
def f381_answer (N h b : Nat) (a : xA) : Option (Int32 × xA) :=
  (l381_22 N h b (if 32 < ((a 157 87) + (a 157 89)) then (0 : Int32) else (1 : Int32)) N 0 a).bind (fun z14 => j381_66 N h b (if 32 < ((a 157 87) + (a 157 89)) then (0 : Int32) else (1 : Int32)) z14.2)

def j379_407 (N h b : Nat) (a : xA) : Option (xA) :=
  xb2 (f381_answer N h b a) (fun r31 a32 => if r31 = 0 then (xw (xU a32 157 100 ((a32 157 100) + 1)) (fun a35 => some a35)) else (some a32))

def j379_234 (N h b : Nat) (a : xA) : Option (xA) :=
  xb1 (f380_replies N h b 13 a) (fun a21 => xb2 (f363_mode N h b 2 a21) (fun r25 a26 => if r25 = 0 then (j379_407 N h b a26) else (xb1 (f380_replies N h b 10 a26) (fun a41 => j379_407 N h b a41))))

def j379_365 (N h b : Nat) (q1 : Int32) (t0 : Int32) (a : xA) : Option (xA) :=
  xb1 (f380_replies N h b (if (a 194 28) = 0 then (q1) else (if t0 = 0 then (if q1 = 63 then (127 : Int32) else (q1)) else (q1 &&& 31))) a) (fun a63 => j379_407 N h b a63)

def j379_364 (N h b : Nat) (q1 : Int32) (a : xA) : Option (xA) :=
  j379_365 N h b q1 0 a

def j379_348 (N h b : Nat) (q1 : Int32) (a : xA) : Option (xA) :=
  if q1 < 97 then (j379_364 N h b q1 a) else (xb1 (f380_replies N h b (if (a 194 28) = 0 then (q1) else (if (if 122 < q1 then (0 : Int32) else (1 : Int32)) = 0 then (if q1 = 63 then (127 : Int32) else (q1)) else (q1 &&& 31))) a) (fun a71 => j379_407 N h b a71))

def j379_360 (N h b : Nat) (q1 : Int32) (a : xA) : Option (xA) :=
  j379_365 N h b q1 1 a

def j379_222 (N h b : Nat) (q1 : Int32) (a : xA) : Option (xA) :=
  if q1 = 21 then (j379_234 N h b a) else (if q1 = 22 then (j379_234 N h b a) else (if 26 < q1 then (if q1 = 27 then (xg ((if (a 157 84) = 0 then (1 : Int32) else (0 : Int32)) = 0 ∨ (if (a 157 84) = 0 then (1 : Int32) else (0 : Int32)) = 1) (xw (xU a 157 84 (if (a 157 84) = 0 then (1 : Int32) else (0 : Int32))) (fun a46 => j379_407 N h b a46))) else (if q1 < 32 then (j379_407 N h b a) else (if q1 < 64 then (j379_348 N h b q1 a) else (if q1 ≤ 95 then (j379_360 N h b q1 a) else (j379_348 N h b q1 a))))) else (xb1 (f380_replies N h b (if q1 = 23 then (9 : Int32) else (if q1 = 24 then (8 : Int32) else (if q1 = 25 then (127 : Int32) else (27 : Int32)))) a) (fun a81 => j379_407 N h b a81))))

def j379_174 (N h b : Nat) (q2 : Int32) (q3 : Int32) (q4 : Int32) (a : xA) : Option (xA) :=
  xb1 (f380_replies N h b (if q2 = 0 then (q3) else (q4)) a) (fun a106 => j379_407 N h b a106)

def j379_41 (N h b : Nat) (q1 : Int32) (t0 : Int32) (a : xA) : Option (xA) :=
  xb1 (f380_replies N h b t0 a) (fun a124 => xb1 (f380_replies N h b (if 4 ≤ q1 then ((80 + q1) - 4) else (65 + q1)) a124) (fun a129 => j379_407 N h b a129))

def j379_34 (N h b : Nat) (q1 : Int32) (a : xA) : Option (xA) :=
  j379_41 N h b q1 79 a

def j379_63 (N h b : Nat) (t0 : Int32) (a : xA) : Option (xA) :=
  xb1 (f380_replies N h b t0 a) (fun a143 => j379_407 N h b a143)

/-- TerminalHouseModel.struck(I)V -/
def f379_struck (N h b : Nat) (x0 : Int32) (a : xA) : Option (xA) :=
  xb2 (f363_mode N h b 128 a) (fun r4 a5 => if 8 ≤ x0 then (if 20 < x0 then (if x0 = 21 then (if r4 = 0 then (j379_222 N h b x0 a5) else (xb1 (f380_replies N h b 27 a5) (fun a85 => xb1 (f380_replies N h b 79 a85) (fun a89 => xb1 (f380_replies N h b 77 a89) (fun a93 => j379_407 N h b a93))))) else (j379_222 N h b x0 a5)) else (if r4 = 0 then (j379_174 N h b r4 (if 18 ≤ x0 then (if x0 = 18 then (45 : Int32) else (if x0 = 19 then (44 : Int32) else (46 : Int32))) else ((48 + x0) - 8)) (if 18 ≤ x0 then (if x0 = 18 then (109 : Int32) else (if x0 = 19 then (108 : Int32) else (110 : Int32))) else ((112 + x0) - 8)) a5) else (xb1 (f380_replies N h b 27 a5) (fun a110 => xb1 (f380_replies N h b 79 a110) (fun a114 => j379_174 N h b r4 (if 18 ≤ x0 then (if x0 = 18 then (45 : Int32) else (if x0 = 19 then (44 : Int32) else (46 : Int32))) else ((48 + x0) - 8)) (if 18 ≤ x0 then (if x0 = 18 then (109 : Int32) else (if x0 = 19 then (108 : Int32) else (110 : Int32))) else ((112 + x0) - 8)) a114))))) else (xb1 (f380_replies N h b 27 a5) (fun a118 => if 4 ≤ x0 then (j379_34 N h b x0 a118) else (xb2 (f363_mode N h b 4 a118) (fun r133 a134 => xb1 (f380_replies N h b (if r133 = 0 then (91 : Int32) else (79 : Int32)) a134) (fun a139 => j379_63 N h b (65 + x0) a139))))))

def j377_131 (N h b : Nat) (rc : Int32 → Int32 → xA → Option (Nat × xA)) (q1 : Int32) (q2 : Int32) (a : xA) : Option (Nat × xA) :=
  rc q1 (q2 + 1) a

def j377_110 (N h b : Nat) (rc : Int32 → Int32 → xA → Option (Nat × xA)) (q1 : Int32) (q2 : Int32) (t0 : Int32) (a : xA) : Option (Nat × xA) :=
  if t0 = 0 then (xw (xU a 157 120 q2) (fun a32 => xw (xU a32 157 121 ((a32 157 71) + 32)) (fun a35 => j377_131 N h b (rc) q1 q2 a35))) else (j377_131 N h b (rc) q1 q2 a)

def j377_105 (N h b : Nat) (rc : Int32 → Int32 → xA → Option (Nat × xA)) (q1 : Int32) (q2 : Int32) (a : xA) : Option (Nat × xA) :=
  j377_110 N h b (rc) q1 q2 1 a

def j377_109 (N h b : Nat) (rc : Int32 → Int32 → xA → Option (Nat × xA)) (q1 : Int32) (q2 : Int32) (a : xA) : Option (Nat × xA) :=
  j377_110 N h b (rc) q1 q2 0 a

def l377_4 (N h b : Nat) : Nat → Int32 → Int32 → xA → Option (Nat × xA)
  | 0, _, _, _ => none
  | n + 1, v1, v2, a => if 127 ≤ v2 then (some (0, a)) else (xb2 (f378_isKey N h b v2 a) (fun r5 a6 => if r5 = 0 then (j377_131 N h b (l377_4 N h b n) v1 v2 a6) else (xg (¬ (v2 < 0 ∨ 127 ≤ v2.toNatClampNeg)) (if (a6 194 (v2.toNatClampNeg)) = 0 then (xw (xU a6 195 (v2.toNatClampNeg) 0) (fun a10 => if (a10 157 120) = v2 then (xw (xU a10 157 120 (-1)) (fun a14 => j377_131 N h b (l377_4 N h b n) v1 v2 a14)) else (j377_131 N h b (l377_4 N h b n) v1 v2 a10))) else (if (a6 195 (v2.toNatClampNeg)) = 0 then (if 3 ≤ v1 then (j377_131 N h b (l377_4 N h b n) v1 v2 a6) else (xw (xU a6 195 (v2.toNatClampNeg) 1) (fun a19 => xb1 (f379_struck N h b v2 a19) (fun a25 => if v2 = 22 then (j377_105 N h b (l377_4 N h b n) (v1 + 1) v2 a25) else (if v2 = 23 then (j377_105 N h b (l377_4 N h b n) (v1 + 1) v2 a25) else (if v2 < 26 then (j377_109 N h b (l377_4 N h b n) (v1 + 1) v2 a25) else (if (if 28 < v2 then (0 : Int32) else (1 : Int32)) = 0 then (xw (xU a25 157 120 v2) (fun a47 => xw (xU a47 157 121 ((a47 157 71) + 32)) (fun a50 => j377_131 N h b (l377_4 N h b n) (v1 + 1) v2 a50))) else (j377_131 N h b (l377_4 N h b n) (v1 + 1) v2 a25)))))))) else (j377_131 N h b (l377_4 N h b n) v1 v2 a6))))))

/-- TerminalHouseModel.scan()V -/
def f377_scan (N h b : Nat) (a : xA) : Option (xA) :=
  (l377_4 N h b N 0 0 a).bind (fun z53 => if (z53.2 157 120) = (-1) then (some z53.2) else (xb2 (f363_mode N h b 64 z53.2) (fun r60 a61 => if r60 = 0 then (some a61) else (if (a61 157 71) < (a61 157 121) then (some a61) else (xb1 (f379_struck N h b (a61 157 120) a61) (fun a70 => xw (xU a70 157 121 ((a70 157 71) + 4)) (fun a71 => some a71)))))))

/-- TerminalHouseModel.last(I)I -/
def f385_last (N h b : Nat) (x0 : Int32) (a : xA) : Option (Int32 × xA) :=
  xg (¬ (x0 < 0 ∨ 24 ≤ x0.toNatClampNeg)) (if (a 191 (x0.toNatClampNeg)) = 0 then (some ((a 157 69) - 1, a)) else (some (((a 157 69) / 2) - 1, a)))

/-- TerminalHouseModel.goes(II)V -/
def f384_goes (N h b : Nat) (x0 : Int32) (x1 : Int32) (a : xA) : Option (xA) :=
  xw (xU a 157 93 (xmax 0 (xmin ((a 157 68) - 1) x0))) (fun a1 => xb2 (f385_last N h b (a1 157 93) a1) (fun r7 a8 => xw (xU a8 157 94 (xmax 0 (xmin r7 x1))) (fun a9 => xw (xU a9 157 108 0) (fun a12 => some a12))))

def l388_2 (N h b : Nat) (w1 : Int32) (w2 : Int32) : Nat → Int32 → xA → Option (Nat × xA)
  | 0, _, _ => none
  | n + 1, v3, a => if (a 157 69) ≤ v3 then (some (0, a)) else (xg (¬ ((80 * w1) + v3 < 0 ∨ 1920 ≤ ((80 * w1) + v3).toNatClampNeg)) (xg (¬ ((80 * w2) + v3 < 0 ∨ 1920 ≤ ((80 * w2) + v3).toNatClampNeg)) (xw (xU a 190 (((80 * w2) + v3).toNatClampNeg) (a 190 (((80 * w1) + v3).toNatClampNeg))) (fun a3 => l388_2 N h b w1 w2 n (v3 + 1) a3))))

/-- TerminalHouseModel.copyRow(II)V -/
def f388_copyRow (N h b : Nat) (x0 : Int32) (x1 : Int32) (a : xA) : Option (xA) :=
  (l388_2 N h b x0 x1 N 0 a).bind (fun z7 => xg (¬ (x0 < 0 ∨ 24 ≤ x0.toNatClampNeg)) (xg (¬ (x1 < 0 ∨ 24 ≤ x1.toNatClampNeg)) (xw (xU z7.2 191 (x1.toNatClampNeg) (z7.2 191 (x0.toNatClampNeg))) (fun a10 => some a10))))

def l390_3 (N h b : Nat) (w1 : Int32) (w3 : Int32) : Nat → Int32 → xA → Option (Nat × xA)
  | 0, _, _ => none
  | n + 1, v4, a => if w3 ≤ v4 then (some (0, a)) else (xg (¬ ((80 * w1) + v4 < 0 ∨ 1920 ≤ ((80 * w1) + v4).toNatClampNeg)) (xw (xU a 190 (((80 * w1) + v4).toNatClampNeg) 32) (fun a2 => l390_3 N h b w1 w3 n (v4 + 1) a2)))

/-- TerminalHouseModel.blank(III)V -/
def f390_blank (N h b : Nat) (x0 : Int32) (x1 : Int32) (x2 : Int32) (a : xA) : Option (xA) :=
  (l390_3 N h b x0 x2 N x1 a).bind (fun z6 => some z6.2)

/-- TerminalHouseModel.emptyRow(I)V -/
def f389_emptyRow (N h b : Nat) (x0 : Int32) (a : xA) : Option (xA) :=
  xb1 (f390_blank N h b x0 0 (a 157 69) a) (fun a4 => xg (¬ (x0 < 0 ∨ 24 ≤ x0.toNatClampNeg)) (xw (xU a4 191 (x0.toNatClampNeg) 0) (fun a5 => some a5)))

def l387_2 (N h b : Nat) (w2 : Int32) : Nat → Int32 → xA → Option (Nat × xA)
  | 0, _, _ => none
  | n + 1, v3, a => if w2 ≤ v3 then (some (0, a)) else (xb1 (f388_copyRow N h b (v3 + 1) v3 a) (fun a5 => l387_2 N h b w2 n (v3 + 1) a5))

/-- TerminalHouseModel.rollsUp(II)V -/
def f387_rollsUp (N h b : Nat) (x0 : Int32) (x1 : Int32) (a : xA) : Option (xA) :=
  (l387_2 N h b x1 N x0 a).bind (fun z6 => xb1 (f389_emptyRow N h b x1 z6.2) (fun a11 => some a11))

/-- TerminalHouseModel.index()V -/
def f386_index (N h b : Nat) (a : xA) : Option (xA) :=
  if (a 157 93) = (a 157 96) then (xb1 (f387_rollsUp N h b (a 157 95) (a 157 96) a) (fun a6 => xw (xU a6 157 81 3) (fun a7 => xb1 (f384_goes N h b (a7 157 93) (a7 157 94) a7) (fun a13 => some a13)))) else (xb1 (f384_goes N h b (xmin ((a 157 93) + 1) ((a 157 68) - 1)) (a 157 94) a) (fun a17 => some a17))

def j383_90 (N h b : Nat) (q1 : Int32) (a : xA) : Option (xA) :=
  xg (¬ ((80 * (a 157 93)) + (a 157 94) < 0 ∨ 1920 ≤ ((80 * (a 157 93)) + (a 157 94)).toNatClampNeg)) (xw (xU a 190 (((80 * (a 157 93)) + (a 157 94)).toNatClampNeg) (q1 + (256 * (a 157 97)))) (fun a10 => xb2 (f385_last N h b (a10 157 93) a10) (fun r17 a18 => if r17 ≤ (a10 157 94) then (xb2 (f363_mode N h b 32 a18) (fun r24 a25 => xg (r24 = 0 ∨ r24 = 1) (xw (xU a25 157 108 r24) (fun a26 => some a26)))) else (xb1 (f384_goes N h b (a18 157 93) ((a18 157 94) + 1) a18) (fun a33 => some a33)))))

def l383_46 (N h b : Nat) (w1 : Int32) : Nat → Int32 → xA → Option (Nat × xA)
  | 0, _, _ => none
  | n + 1, v2, a => if v2 ≤ (a 157 94) then (some (0, a)) else (xg (¬ (((80 * (a 157 93)) + v2) - 1 < 0 ∨ 1920 ≤ (((80 * (a 157 93)) + v2) - 1).toNatClampNeg)) (xg (¬ ((80 * (a 157 93)) + v2 < 0 ∨ 1920 ≤ ((80 * (a 157 93)) + v2).toNatClampNeg)) (xw (xU a 190 (((80 * (a 157 93)) + v2).toNatClampNeg) (a 190 ((((80 * (a 157 93)) + v2) - 1).toNatClampNeg))) (fun a41 => l383_46 N h b w1 n (v2 + (-1)) a41))))

def j383_29 (N h b : Nat) (q1 : Int32) (a : xA) : Option (xA) :=
  xb2 (f363_mode N h b 1 a) (fun r6 a7 => if r6 = 0 then (j383_90 N h b q1 a7) else (xb2 (f385_last N h b (a7 157 93) a7) (fun r37 a38 => (l383_46 N h b q1 N r37 a38).bind (fun z45 => j383_90 N h b q1 z45.2))))

/-- TerminalHouseModel.prints(I)V -/
def f383_prints (N h b : Nat) (x0 : Int32) (a : xA) : Option (xA) :=
  if (a 157 108) = 0 then (j383_29 N h b x0 a) else (xb2 (f363_mode N h b 32 a) (fun r50 a51 => if r50 = 0 then (j383_29 N h b x0 a51) else (xb1 (f384_goes N h b (a51 157 93) 0 a51) (fun a57 => xb1 (f386_index N h b a57) (fun a61 => j383_29 N h b x0 a61)))))

def l391_107 (N h b : Nat) : Nat → Int32 → xA → Option (Nat × Int32 × xA)
  | 0, _, _ => none
  | n + 1, v2, a => xb2 (f385_last N h b (a 157 93) a) (fun r20 a21 => if r20 ≤ v2 then (some (0, v2, a21)) else (xg (¬ (v2 < 0 ∨ 80 ≤ v2.toNatClampNeg)) (if (a21 192 (v2.toNatClampNeg)) = 0 then (l391_107 N h b n (v2 + 1) a21) else (some (0, v2, a21)))))

def j391_134 (N h b : Nat) (q2 : Int32) (a : xA) : Option (xA) :=
  xb1 (f384_goes N h b (a 157 93) q2 a) (fun a31 => some a31)

def j391_163 (N h b : Nat) (a : xA) : Option (xA) :=
  xb1 (f386_index N h b a) (fun a43 => some a43)

/-- TerminalHouseModel.control(I)V -/
def f391_control (N h b : Nat) (x0 : Int32) (a : xA) : Option (xA) :=
  if x0 = 7 then (xw (xU a 157 100 ((a 157 100) + 1)) (fun a2 => some a2)) else (if x0 = 8 then (xb1 (f384_goes N h b (a 157 93) ((a 157 94) - 1) a) (fun a9 => some a9)) else (if x0 = 9 then (xb2 (f385_last N h b (a 157 93) a) (fun r14 a15 => if (a 157 94) = r14 then (some a15) else ((l391_107 N h b N ((a15 157 94) + 1) a15).bind (fun z26 => j391_134 N h b z26.2.1 z26.2.2)))) else (if x0 = 10 ∨ x0 = 11 ∨ x0 = 12 then (xb2 (f363_mode N h b 2 a) (fun r36 a37 => if r36 = 0 then (j391_163 N h b a37) else (xb1 (f384_goes N h b (a37 157 93) 0 a37) (fun a47 => j391_163 N h b a47)))) else (if x0 = 13 then (xb1 (f384_goes N h b (a 157 93) 0 a) (fun a52 => some a52)) else (if x0 = 14 then (xw (xU a 157 103 1) (fun a54 => some a54)) else (if x0 = 15 then (xw (xU a 157 103 0) (fun a58 => some a58)) else (some a)))))))

def j392_39 (N h b : Nat) (t0 : Int32) (a : xA) : Option (xA) :=
  xb1 (f383_prints N h b t0 a) (fun a8 => some a8)

def j392_38 (N h b : Nat) (q1 : Int32) (a : xA) : Option (xA) :=
  j392_39 N h b q1 a

/-- TerminalHouseModel.letterSeen(I)V -/
def f392_letterSeen (N h b : Nat) (x0 : Int32) (a : xA) : Option (xA) :=
  if (if (a 157 103) = 0 then (a 157 109) else (a 157 110)) = 0 then (j392_38 N h b x0 a) else (xb1 (f383_prints N h b (if x0 < 95 then (x0) else (x0 + 128)) a) (fun a13 => some a13))

def l394_130 (N h b : Nat) (w2 : Int32) : Nat → Int32 → xA → Option (Nat × xA)
  | 0, _, _ => none
  | n + 1, v3, a => if (a 157 69) ≤ v3 then (some (0, a)) else (xg (¬ ((80 * w2) + v3 < 0 ∨ 1920 ≤ ((80 * w2) + v3).toNatClampNeg)) (xw (xU a 190 (((80 * w2) + v3).toNatClampNeg) 69) (fun a5 => l394_130 N h b w2 n (v3 + 1) a5)))

def l394_120 (N h b : Nat) : Nat → Int32 → xA → Option (Nat × xA)
  | 0, _, _ => none
  | n + 1, v2, a => if (a 157 68) ≤ v2 then (some (0, a)) else ((l394_130 N h b v2 N 0 a).bind (fun z9 => xg (¬ (v2 < 0 ∨ 24 ≤ v2.toNatClampNeg)) (xw (xU z9.2 191 (v2.toNatClampNeg) 0) (fun a11 => l394_120 N h b n (v2 + 1) a11))))

def j394_112 (N h b : Nat) (q1 : Int32) (a : xA) : Option (xA) :=
  if q1 = 56 then ((l394_120 N h b N 0 a).bind (fun z15 => xw (xU z15.2 157 95 0) (fun a17 => xw (xU a17 157 96 ((a17 157 68) - 1)) (fun a20 => xb1 (f384_goes N h b 0 0 a20) (fun a26 => xw (xU a26 157 81 2) (fun a27 => some a27)))))) else (some a)

def j394_82 (N h b : Nat) (a : xA) : Option (xA) :=
  xb2 (f385_last N h b (a 157 93) a) (fun r44 a45 => if (a 157 94) ≤ r44 then (some a45) else (xb1 (f384_goes N h b (a45 157 93) (a45 157 94) a45) (fun a50 => some a50)))

/-- TerminalHouseModel.widths(I)V -/
def f394_widths (N h b : Nat) (x0 : Int32) (a : xA) : Option (xA) :=
  if x0 < 51 then (j394_112 N h b x0 a) else (if 54 < x0 then (j394_112 N h b x0 a) else (xg (¬ (a 157 93 < 0 ∨ 24 ≤ (a 157 93).toNatClampNeg)) (xw (xU a 191 ((a 157 93).toNatClampNeg) (if x0 = 51 then (2 : Int32) else (if x0 = 52 then (3 : Int32) else (if x0 = 53 then (0 : Int32) else (1 : Int32))))) (fun a34 => xg (¬ (a34 157 93 < 0 ∨ 24 ≤ (a34 157 93).toNatClampNeg)) (if (a34 191 ((a34 157 93).toNatClampNeg)) = 0 then (j394_82 N h b a34) else (xb1 (f390_blank N h b (a34 157 93) ((a34 157 69) / 2) (a34 157 69) a34) (fun a54 => j394_82 N h b a54)))))))

def l397_2 (N h b : Nat) (w1 : Int32) : Nat → Int32 → xA → Option (Nat × xA)
  | 0, _, _ => none
  | n + 1, v3, a => if v3 ≤ w1 then (some (0, a)) else (xb1 (f388_copyRow N h b (v3 - 1) v3 a) (fun a5 => l397_2 N h b w1 n (v3 + (-1)) a5))

/-- TerminalHouseModel.rollsDown(II)V -/
def f397_rollsDown (N h b : Nat) (x0 : Int32) (x1 : Int32) (a : xA) : Option (xA) :=
  (l397_2 N h b x0 N x1 a).bind (fun z6 => xb1 (f389_emptyRow N h b x0 z6.2) (fun a11 => some a11))

/-- TerminalHouseModel.backIndex()V -/
def f396_backIndex (N h b : Nat) (a : xA) : Option (xA) :=
  if (a 157 93) = (a 157 95) then (xb1 (f397_rollsDown N h b (a 157 95) (a 157 96) a) (fun a6 => xw (xU a6 157 81 3) (fun a7 => xb1 (f384_goes N h b (a7 157 93) (a7 157 94) a7) (fun a13 => some a13)))) else (xb1 (f384_goes N h b (xmax ((a 157 93) - 1) 0) (a 157 94) a) (fun a17 => some a17))

/-- TerminalHouseModel.tells()V -/
def f398_tells (N h b : Nat) (a : xA) : Option (xA) :=
  xb1 (f380_replies N h b 27 a) (fun a4 => xb1 (f380_replies N h b 91 a4) (fun a8 => xb1 (f380_replies N h b 63 a8) (fun a12 => xb1 (f380_replies N h b 49 a12) (fun a16 => xb1 (f380_replies N h b 59 a16) (fun a20 => xb1 (f380_replies N h b 50 a20) (fun a24 => xb1 (f380_replies N h b 99 a24) (fun a28 => xb2 (f381_answer N h b a28) (fun r32 a33 => some a33))))))))

/-- TerminalHouseModel.plainEscape(I)V -/
def f395_plainEscape (N h b : Nat) (x0 : Int32) (a : xA) : Option (xA) :=
  if x0 = 55 then (xb1 (f362_saves N h b a) (fun a5 => some a5)) else (if x0 = 56 then (xw (xU a 157 97 (a 157 106)) (fun a7 => xg ((a7 157 111) = 0 ∨ (a7 157 111) = 1) (xw (xU a7 157 109 (a7 157 111)) (fun a10 => xg ((a10 157 112) = 0 ∨ (a10 157 112) = 1) (xw (xU a10 157 110 (a10 157 112)) (fun a14 => xw (xU a14 157 103 (a14 157 107)) (fun a18 => xw (xU a18 157 98 (if (a18 157 113) = 0 then ((a18 157 98) &&& (-17)) else ((a18 157 98) ||| 16))) (fun a22 => xb1 (f384_goes N h b (a22 157 104) (a22 157 105) a22) (fun a28 => some a28))))))))) else (if x0 = 61 then (xw (xU a 157 98 ((a 157 98) ||| 128)) (fun a30 => some a30)) else (if x0 = 62 then (xw (xU a 157 98 ((a 157 98) &&& (-129))) (fun a34 => some a34)) else (if x0 = 68 then (xb1 (f386_index N h b a) (fun a41 => some a41)) else (if x0 = 69 then (xb1 (f384_goes N h b (a 157 93) 0 a) (fun a46 => xb1 (f386_index N h b a46) (fun a50 => some a50))) else (if x0 = 72 then (xg (¬ (a 157 94 < 0 ∨ 80 ≤ (a 157 94).toNatClampNeg)) (xw (xU a 192 ((a 157 94).toNatClampNeg) 1) (fun a52 => some a52))) else (if x0 = 77 then (xb1 (f396_backIndex N h b a) (fun a60 => some a60)) else (if x0 = 90 then (xb1 (f398_tells N h b a) (fun a65 => some a65)) else (if x0 = 99 then (xb1 (f361_anew N h b a) (fun a70 => some a70)) else (some a))))))))))

def j393_227 (N h b : Nat) (a : xA) : Option (xA) :=
  xw (xU a 157 101 5) (fun a33 => some a33)

def j393_158 (N h b : Nat) (a : xA) : Option (xA) :=
  some a

def j393_130 (N h b : Nat) (q1 : Int32) (q2 : Int32) (a : xA) : Option (xA) :=
  if q2 = 0 then (j393_158 N h b a) else (if (a 157 102) = 41 then (xg ((if q1 = 48 then (1 : Int32) else (0 : Int32)) = 0 ∨ (if q1 = 48 then (1 : Int32) else (0 : Int32)) = 1) (xw (xU a 157 110 (if q1 = 48 then (1 : Int32) else (0 : Int32))) (fun a69 => j393_158 N h b a69))) else (j393_158 N h b a))

def j393_101 (N h b : Nat) (q1 : Int32) (t0 : Int32) (a : xA) : Option (xA) :=
  if t0 = 0 then (j393_130 N h b q1 t0 a) else (if (a 157 102) = 40 then (xg ((if q1 = 48 then (1 : Int32) else (0 : Int32)) = 0 ∨ (if q1 = 48 then (1 : Int32) else (0 : Int32)) = 1) (xw (xU a 157 109 (if q1 = 48 then (1 : Int32) else (0 : Int32))) (fun a77 => j393_130 N h b q1 t0 a77))) else (j393_130 N h b q1 t0 a))

def j393_96 (N h b : Nat) (q1 : Int32) (a : xA) : Option (xA) :=
  j393_101 N h b q1 1 a

def j393_36 (N h b : Nat) (q1 : Int32) (t0 : Int32) (a : xA) : Option (xA) :=
  if t0 = 0 then (xw (xU a 157 101 2) (fun a103 => some a103)) else (xw (xU a 157 102 q1) (fun a106 => some a106))

def j393_31 (N h b : Nat) (q1 : Int32) (a : xA) : Option (xA) :=
  j393_36 N h b q1 1 a

def j393_35 (N h b : Nat) (q1 : Int32) (a : xA) : Option (xA) :=
  j393_36 N h b q1 0 a

/-- TerminalHouseModel.escapes(I)V -/
def f393_escapes (N h b : Nat) (x0 : Int32) (a : xA) : Option (xA) :=
  if 48 ≤ x0 then (xw (xU a 157 101 0) (fun a2 => if (a2 157 102) = 35 then (xb1 (f394_widths N h b x0 a2) (fun a9 => some a9)) else (if (a2 157 102) = 0 then (if x0 = 91 then (xw (xU a2 157 101 3) (fun a12 => xw (xU a12 157 115 0) (fun a15 => xw (xU a15 193 0 0) (fun a18 => xw (xU a18 157 116 0) (fun a21 => xw (xU a21 157 117 1) (fun a24 => some a24)))))) else (if x0 = 80 then (j393_227 N h b a2) else (if x0 = 88 then (j393_227 N h b a2) else (if x0 = 93 then (j393_227 N h b a2) else (if x0 = 94 then (j393_227 N h b a2) else (if x0 = 95 then (j393_227 N h b a2) else (xb1 (f395_plainEscape N h b x0 a2) (fun a53 => some a53)))))))) else (if x0 = 66 then (j393_96 N h b x0 a2) else (if (if x0 = 48 then (1 : Int32) else (0 : Int32)) = 0 then (j393_130 N h b x0 (if x0 = 48 then (1 : Int32) else (0 : Int32)) a2) else (if (a2 157 102) = 40 then (xg ((if x0 = 48 then (1 : Int32) else (0 : Int32)) = 0 ∨ (if x0 = 48 then (1 : Int32) else (0 : Int32)) = 1) (xw (xU a2 157 109 (if x0 = 48 then (1 : Int32) else (0 : Int32))) (fun a90 => j393_130 N h b x0 (if x0 = 48 then (1 : Int32) else (0 : Int32)) a90))) else (j393_130 N h b x0 (if x0 = 48 then (1 : Int32) else (0 : Int32)) a2))))))) else (if (a 157 102) = 0 then (if x0 = 35 then (j393_31 N h b x0 a) else (if x0 = 40 then (j393_31 N h b x0 a) else (if (if x0 = 41 then (1 : Int32) else (0 : Int32)) = 0 then (xw (xU a 157 101 2) (fun a115 => some a115)) else (xw (xU a 157 102 x0) (fun a118 => some a118))))) else (j393_35 N h b x0 a))

def j400_154 (N h b : Nat) (rc : Int32 → xA → Option (Nat × xA)) (w1 : Int32) (q2 : Int32) (a : xA) : Option (Nat × xA) :=
  rc (q2 + 1) a

def j400_101 (N h b : Nat) (rc : Int32 → xA → Option (Nat × xA)) (w1 : Int32) (q2 : Int32) (t0 : Int32) (a : xA) : Option (Nat × xA) :=
  xw (xU a 157 98 (if w1 = 104 then ((a 157 98) ||| t0) else ((a 157 98) &&& (t0 ^^^ (-1))))) (fun a8 => if t0 = 16 then (xb1 (f384_goes N h b (if w1 = 104 then (a8 157 95) else (0 : Int32)) 0 a8) (fun a18 => j400_154 N h b (rc) w1 q2 a18)) else (j400_154 N h b (rc) w1 q2 a8))

def l400_15 (N h b : Nat) (w1 : Int32) : Nat → Int32 → xA → Option (Nat × xA)
  | 0, _, _ => none
  | n + 1, v2, a => if (a 157 115) ≤ v2 then (some (0, a)) else (xg (¬ (v2 < 0 ∨ 8 ≤ v2.toNatClampNeg)) (if (a 193 (v2.toNatClampNeg)) = 1 then (j400_101 N h b (l400_15 N h b w1 n) w1 v2 4 a) else (if (a 193 (v2.toNatClampNeg)) = 5 then (j400_101 N h b (l400_15 N h b w1 n) w1 v2 8 a) else (if (a 193 (v2.toNatClampNeg)) = 6 then (j400_101 N h b (l400_15 N h b w1 n) w1 v2 16 a) else (if (a 193 (v2.toNatClampNeg)) = 7 then (j400_101 N h b (l400_15 N h b w1 n) w1 v2 32 a) else (xw (xU a 157 98 (if w1 = 104 then ((a 157 98) ||| (if (a 193 (v2.toNatClampNeg)) = 8 then (64 : Int32) else (0 : Int32))) else ((a 157 98) &&& ((if (a 193 (v2.toNatClampNeg)) = 8 then (64 : Int32) else (0 : Int32)) ^^^ (-1))))) (fun a27 => if (if (a 193 (v2.toNatClampNeg)) = 8 then (64 : Int32) else (0 : Int32)) = 16 then (xb1 (f384_goes N h b (if w1 = 104 then (a27 157 95) else (0 : Int32)) 0 a27) (fun a37 => j400_154 N h b (l400_15 N h b w1 n) w1 v2 a37)) else (j400_154 N h b (l400_15 N h b w1 n) w1 v2 a27))))))))

def j400_13 (N h b : Nat) (q1 : Int32) (a : xA) : Option (xA) :=
  (l400_15 N h b q1 N 0 a).bind (fun z38 => some z38.2)

/-- TerminalHouseModel.privately(I)V -/
def f400_privately (N h b : Nat) (x0 : Int32) (a : xA) : Option (xA) :=
  if x0 = 104 then (j400_13 N h b x0 a) else (if x0 = 108 then (j400_13 N h b x0 a) else (some a))

/-- TerminalHouseModel.rowOf(I)I -/
def f402_rowOf (N h b : Nat) (x0 : Int32) (a : xA) : Option (Int32 × xA) :=
  xb2 (f363_mode N h b 16 a) (fun r4 a5 => if r4 = 0 then (some (xmin (x0 - 1) ((a5 157 68) - 1), a5)) else (some (xmin (((a5 157 95) + x0) - 1) (a5 157 96), a5)))

def j403_135 (N h b : Nat) (rc : Int32 → xA → Option (Nat × xA)) (w1 : Int32) (w3 : Int32) (q4 : Int32) (a : xA) : Option (Nat × xA) :=
  rc (q4 + 1) a

def j403_97 (N h b : Nat) (rc : Int32 → xA → Option (Nat × xA)) (w1 : Int32) (w3 : Int32) (q4 : Int32) (q5 : Int32) (t0 : Int32) (a : xA) : Option (Nat × xA) :=
  xb1 (f390_blank N h b q4 q5 (t0 + 1) a) (fun a17 => if q5 = 0 then (xb2 (f385_last N h b q4 a17) (fun r23 a24 => if t0 = r23 then (xg (¬ (q4 < 0 ∨ 24 ≤ q4.toNatClampNeg)) (xw (xU a24 191 (q4.toNatClampNeg) 0) (fun a27 => j403_135 N h b (rc) w1 w3 q4 a27))) else (j403_135 N h b (rc) w1 w3 q4 a24))) else (j403_135 N h b (rc) w1 w3 q4 a17))

def j403_91 (N h b : Nat) (rc : Int32 → xA → Option (Nat × xA)) (w1 : Int32) (w3 : Int32) (q4 : Int32) (q5 : Int32) (a : xA) : Option (Nat × xA) :=
  xb2 (f385_last N h b q4 a) (fun r34 a35 => j403_97 N h b (rc) w1 w3 q4 q5 r34 a35)

def j403_68 (N h b : Nat) (rc : Int32 → xA → Option (Nat × xA)) (w1 : Int32) (w3 : Int32) (q4 : Int32) (t0 : Int32) (a : xA) : Option (Nat × xA) :=
  if w1 = 1 then (if q4 = (a 157 93) then (j403_97 N h b (rc) w1 w3 q4 t0 (a 157 94) a) else (j403_91 N h b (rc) w1 w3 q4 t0 a)) else (j403_91 N h b (rc) w1 w3 q4 t0 a)

def j403_67 (N h b : Nat) (rc : Int32 → xA → Option (Nat × xA)) (w1 : Int32) (w3 : Int32) (q4 : Int32) (a : xA) : Option (Nat × xA) :=
  j403_68 N h b (rc) w1 w3 q4 0 a

def l403_41 (N h b : Nat) (w1 : Int32) (w3 : Int32) : Nat → Int32 → xA → Option (Nat × xA)
  | 0, _, _ => none
  | n + 1, v4, a => if w3 < v4 then (some (0, a)) else (if w1 = 0 then (if w1 = 1 then (if v4 = (a 157 93) then (j403_97 N h b (l403_41 N h b w1 w3 n) w1 w3 v4 (if v4 = (a 157 93) then (a 157 94) else (0 : Int32)) (a 157 94) a) else (j403_91 N h b (l403_41 N h b w1 w3 n) w1 w3 v4 (if v4 = (a 157 93) then (a 157 94) else (0 : Int32)) a)) else (j403_91 N h b (l403_41 N h b w1 w3 n) w1 w3 v4 (if v4 = (a 157 93) then (a 157 94) else (0 : Int32)) a)) else (j403_67 N h b (l403_41 N h b w1 w3 n) w1 w3 v4 a))

/-- TerminalHouseModel.erases(I)V -/
def f403_erases (N h b : Nat) (x0 : Int32) (a : xA) : Option (xA) :=
  if x0 ≤ 2 then ((l403_41 N h b x0 (if x0 = 1 then (a 157 93) else ((a 157 68) - 1)) N (if x0 = 0 then (a 157 93) else (0 : Int32)) a).bind (fun z41 => xw (xU z41.2 157 81 2) (fun a43 => some a43))) else (some a)

def j404_68 (N h b : Nat) (rc : Int32 → xA → Option (Nat × xA)) (w1 : Int32) (w2 : Int32) (q3 : Int32) (a : xA) : Option (Nat × xA) :=
  rc (q3 + 1) a

def l404_25 (N h b : Nat) (w1 : Int32) (w2 : Int32) : Nat → Int32 → xA → Option (Nat × xA)
  | 0, _, _ => none
  | n + 1, v3, a => if (xmin w2 (a 157 68)) ≤ v3 then (some (0, a)) else (if w1 = 0 then (xb1 (f387_rollsUp N h b (a 157 93) (a 157 96) a) (fun a11 => j404_68 N h b (l404_25 N h b w1 w2 n) w1 w2 v3 a11)) else (xb1 (f397_rollsDown N h b (a 157 93) (a 157 96) a) (fun a15 => j404_68 N h b (l404_25 N h b w1 w2 n) w1 w2 v3 a15)))

/-- TerminalHouseModel.rowsIn(ZI)V -/
def f404_rowsIn (N h b : Nat) (x0 : Int32) (x1 : Int32) (a : xA) : Option (xA) :=
  if (a 157 93) < (a 157 95) then (some a) else (if (a 157 93) ≤ (a 157 96) then ((l404_25 N h b x0 x1 N 0 a).bind (fun z16 => xb1 (f384_goes N h b (z16.2 157 93) 0 z16.2) (fun a21 => xw (xU a21 157 81 3) (fun a22 => some a22)))) else (some a))

def l405_32 (N h b : Nat) (w1 : Int32) (w3 : Int32) (w4 : Int32) : Nat → Int32 → xA → Option (Nat × xA)
  | 0, _, _ => none
  | n + 1, v5, a => if v5 < ((a 157 94) + w4) then (some (0, a)) else (xg (¬ (((80 * (a 157 93)) + v5) - w4 < 0 ∨ 1920 ≤ (((80 * (a 157 93)) + v5) - w4).toNatClampNeg)) (xg (¬ ((80 * (a 157 93)) + v5 < 0 ∨ 1920 ≤ ((80 * (a 157 93)) + v5).toNatClampNeg)) (xw (xU a 190 (((80 * (a 157 93)) + v5).toNatClampNeg) (a 190 ((((80 * (a 157 93)) + v5) - w4).toNatClampNeg))) (fun a10 => l405_32 N h b w1 w3 w4 n (v5 + (-1)) a10))))

def l405_95 (N h b : Nat) (w1 : Int32) (w3 : Int32) (w4 : Int32) : Nat → Int32 → xA → Option (Nat × xA)
  | 0, _, _ => none
  | n + 1, v5, a => if w3 < (v5 + w4) then (some (0, a)) else (xg (¬ (((80 * (a 157 93)) + v5) + w4 < 0 ∨ 1920 ≤ (((80 * (a 157 93)) + v5) + w4).toNatClampNeg)) (xg (¬ ((80 * (a 157 93)) + v5 < 0 ∨ 1920 ≤ ((80 * (a 157 93)) + v5).toNatClampNeg)) (xw (xU a 190 (((80 * (a 157 93)) + v5).toNatClampNeg) (a 190 ((((80 * (a 157 93)) + v5) + w4).toNatClampNeg))) (fun a20 => l405_95 N h b w1 w3 w4 n (v5 + 1) a20))))

def j405_188 (N h b : Nat) (a : xA) : Option (xA) :=
  xw (xU a 157 108 0) (fun a32 => some a32)

def j405_143 (N h b : Nat) (q1 : Int32) (q3 : Int32) (q4 : Int32) (a : xA) : Option (xA) :=
  if q1 = 80 then (xb1 (f390_blank N h b (a 157 93) ((q3 + 1) - q4) (q3 + 1) a) (fun a31 => j405_188 N h b a31)) else (xb1 (f390_blank N h b (a 157 93) (a 157 94) ((a 157 94) + q4) a) (fun a38 => j405_188 N h b a38))

def j405_83 (N h b : Nat) (q1 : Int32) (q3 : Int32) (q4 : Int32) (a : xA) : Option (xA) :=
  if q1 = 80 then ((l405_95 N h b q1 q3 q4 N (a 157 94) a).bind (fun z24 => j405_143 N h b q1 q3 q4 z24.2)) else (j405_143 N h b q1 q3 q4 a)

/-- TerminalHouseModel.cellsIn(II)V -/
def f405_cellsIn (N h b : Nat) (x0 : Int32) (x1 : Int32) (a : xA) : Option (xA) :=
  xb2 (f385_last N h b (a 157 93) a) (fun r4 a5 => if x0 = 64 then ((l405_32 N h b x0 r4 (xmin x1 ((r4 + 1) - (a5 157 94))) N r4 a5).bind (fun z14 => j405_83 N h b x0 r4 (xmin x1 ((r4 + 1) - (a5 157 94))) z14.2)) else (j405_83 N h b x0 r4 (xmin x1 ((r4 + 1) - (a5 157 94))) a5))

/-- TerminalHouseModel.attribute(I)V -/
def f406_attribute (N h b : Nat) (x0 : Int32) (a : xA) : Option (xA) :=
  if x0 = 0 then (xw (xU a 157 97 0) (fun a2 => some a2)) else (if x0 = 1 then (xw (xU a 157 97 ((a 157 97) ||| 1)) (fun a6 => some a6)) else (if x0 = 4 then (xw (xU a 157 97 ((a 157 97) ||| 2)) (fun a10 => some a10)) else (if x0 = 5 then (xw (xU a 157 97 ((a 157 97) ||| 4)) (fun a14 => some a14)) else (if x0 = 7 then (xw (xU a 157 97 ((a 157 97) ||| 8)) (fun a18 => some a18)) else (if x0 = 22 then (xw (xU a 157 97 ((a 157 97) &&& (-2))) (fun a22 => some a22)) else (if x0 = 24 then (xw (xU a 157 97 ((a 157 97) &&& (-3))) (fun a26 => some a26)) else (if x0 = 25 then (xw (xU a 157 97 ((a 157 97) &&& (-5))) (fun a30 => some a30)) else (if x0 = 27 then (xw (xU a 157 97 ((a 157 97) &&& (-9))) (fun a34 => some a34)) else (some a)))))))))

/-- TerminalHouseModel.margins(II)V -/
def f407_margins (N h b : Nat) (x0 : Int32) (x1 : Int32) (a : xA) : Option (xA) :=
  if x1 ≤ x0 then (some a) else (if x1 ≤ (a 157 68) then (xw (xU a 157 95 (x0 - 1)) (fun a5 => xw (xU a5 157 96 (x1 - 1)) (fun a8 => xb2 (f363_mode N h b 16 a8) (fun r14 a15 => xb1 (f384_goes N h b (if r14 = 0 then (0 : Int32) else (a15 157 95)) 0 a15) (fun a20 => some a20))))) else (some a))

def j409_17 (N h b : Nat) (q1 : Int32) (a : xA) : Option (xA) :=
  xb1 (f380_replies N h b (48 + (q1 - q1 / 10 * 10)) a) (fun a6 => some a6)

/-- TerminalHouseModel.decimal(I)V -/
def f409_decimal (N h b : Nat) (x0 : Int32) (a : xA) : Option (xA) :=
  if x0 < 10 then (j409_17 N h b x0 a) else (xb1 (f380_replies N h b (48 + (x0 / 10)) a) (fun a10 => j409_17 N h b x0 a10))

def j408_89 (N h b : Nat) (t0 : Int32) (a : xA) : Option (xA) :=
  xb1 (f409_decimal N h b t0 a) (fun a42 => xb1 (f380_replies N h b 59 a42) (fun a46 => xb1 (f409_decimal N h b ((a46 157 94) + 1) a46) (fun a50 => xb1 (f380_replies N h b 82 a50) (fun a54 => xb2 (f381_answer N h b a54) (fun r58 a59 => some a59)))))

/-- TerminalHouseModel.reports(I)V -/
def f408_reports (N h b : Nat) (x0 : Int32) (a : xA) : Option (xA) :=
  if x0 = 5 then (xb1 (f380_replies N h b 27 a) (fun a5 => xb1 (f380_replies N h b 91 a5) (fun a9 => xb1 (f380_replies N h b 48 a9) (fun a13 => xb1 (f380_replies N h b 110 a13) (fun a17 => xb2 (f381_answer N h b a17) (fun r21 a22 => some a22)))))) else (if x0 = 6 then (xb1 (f380_replies N h b 27 a) (fun a27 => xb1 (f380_replies N h b 91 a27) (fun a31 => xb2 (f363_mode N h b 16 a31) (fun r35 a36 => if r35 = 0 then (j408_89 N h b ((a36 157 93) + 1) a36) else (j408_89 N h b (xmax 1 (((a36 157 93) - (a36 157 95)) + 1)) a36))))) else (some a))

def l401_620 (N h b : Nat) : Nat → Int32 → xA → Option (Nat × xA)
  | 0, _, _ => none
  | n + 1, v5, a => if 80 ≤ v5 then (some (0, a)) else (xg (¬ (v5 < 0 ∨ 80 ≤ v5.toNatClampNeg)) (xw (xU a 192 (v5.toNatClampNeg) 0) (fun a106 => l401_620 N h b n (v5 + 1) a106)))

def j401_688 (N h b : Nat) (rc : Int32 → xA → Option (Nat × xA)) (w1 : Int32) (q5 : Int32) (t0 : Int32) (a : xA) : Option (Nat × xA) :=
  xw (xU a 157 98 (if w1 = 104 then ((a 157 98) ||| t0) else ((a 157 98) &&& (t0 ^^^ (-1))))) (fun a118 => rc (q5 + 1) a118)

def l401_647 (N h b : Nat) (w1 : Int32) : Nat → Int32 → xA → Option (Nat × xA)
  | 0, _, _ => none
  | n + 1, v5, a => if (a 157 115) ≤ v5 then (some (0, a)) else (xg (¬ (v5 < 0 ∨ 8 ≤ v5.toNatClampNeg)) (if (a 193 (v5.toNatClampNeg)) = 4 then (j401_688 N h b (l401_647 N h b w1 n) w1 v5 1 a) else (xw (xU a 157 98 (if w1 = 104 then ((a 157 98) ||| (if (a 193 (v5.toNatClampNeg)) = 20 then (2 : Int32) else (0 : Int32))) else ((a 157 98) &&& ((if (a 193 (v5.toNatClampNeg)) = 20 then (2 : Int32) else (0 : Int32)) ^^^ (-1))))) (fun a123 => l401_647 N h b w1 n (v5 + 1) a123))))

def l401_545 (N h b : Nat) : Nat → Int32 → xA → Option (Nat × xA)
  | 0, _, _ => none
  | n + 1, v5, a => if (a 157 115) ≤ v5 then (some (0, a)) else (xg (¬ (v5 < 0 ∨ 8 ≤ v5.toNatClampNeg)) (xb1 (f406_attribute N h b (a 193 (v5.toNatClampNeg)) a) (fun a134 => l401_545 N h b n (v5 + 1) a134)))

def j401_808 (N h b : Nat) (rc : Int32 → xA → Option (Nat × xA)) (q5 : Int32) (t0 : Int32) (a : xA) : Option (Nat × xA) :=
  xw (xU a 157 99 t0) (fun a147 => rc (q5 + 1) a147)

def l401_750 (N h b : Nat) : Nat → Int32 → xA → Option (Nat × xA)
  | 0, _, _ => none
  | n + 1, v5, a => if (a 157 115) ≤ v5 then (some (0, a)) else (xg (¬ (v5 < 0 ∨ 8 ≤ v5.toNatClampNeg)) (if (a 193 (v5.toNatClampNeg)) = 0 then (j401_808 N h b (l401_750 N h b n) v5 0 a) else (if 4 < (a 193 (v5.toNatClampNeg)) then (j401_808 N h b (l401_750 N h b n) v5 (a 157 99) a) else (j401_808 N h b (l401_750 N h b n) v5 ((a 157 99) ||| ((1 : Int32) <<< (((a 193 (v5.toNatClampNeg)) - 1) &&& 31))) a))))

def j401_25 (N h b : Nat) (q1 : Int32) (q2 : Int32) (t0 : Int32) (a : xA) : Option (xA) :=
  if q1 = 64 ∨ q1 = 80 ∨ q1 = 88 then (xb1 (f405_cellsIn N h b q1 (xmax 1 q2) a) (fun a7 => some a7)) else (if q1 = 65 then (xb1 (f384_goes N h b (xmax ((a 157 93) - (xmax 1 q2)) (if (a 157 93) < (a 157 95) then (0 : Int32) else (a 157 95))) (a 157 94) a) (fun a13 => some a13)) else (if q1 = 66 then (xb1 (f384_goes N h b (xmin ((a 157 93) + (xmax 1 q2)) (if (a 157 96) < (a 157 93) then ((a 157 68) - 1) else (a 157 96))) (a 157 94) a) (fun a19 => some a19)) else (if q1 = 67 then (xb1 (f384_goes N h b (a 157 93) ((a 157 94) + (xmax 1 q2)) a) (fun a24 => some a24)) else (if q1 = 68 then (xb1 (f384_goes N h b (a 157 93) ((a 157 94) - (xmax 1 q2)) a) (fun a29 => some a29)) else (if q1 = 71 then (xb1 (f384_goes N h b (a 157 93) ((xmax 1 q2) - 1) a) (fun a34 => some a34)) else (if q1 = 72 ∨ q1 = 102 then (xb2 (f402_rowOf N h b (xmax 1 q2) a) (fun r39 a40 => xb1 (f384_goes N h b r39 ((xmax 1 t0) - 1) a40) (fun a44 => some a44))) else (if q1 = 74 then (xb1 (f403_erases N h b q2 a) (fun a49 => some a49)) else (if q1 = 75 then (if q2 = 0 then (xb2 (f385_last N h b (a 157 93) a) (fun r55 a56 => xb1 (f390_blank N h b (a 157 93) (a 157 94) (r55 + 1) a56) (fun a60 => some a60))) else (if q2 = 1 then (xb1 (f390_blank N h b (a 157 93) 0 ((a 157 94) + 1) a) (fun a65 => some a65)) else (if q2 = 2 then (xb2 (f385_last N h b (a 157 93) a) (fun r70 a71 => xb1 (f390_blank N h b (a 157 93) 0 (r70 + 1) a71) (fun a75 => some a75))) else (some a)))) else (if q1 = 76 ∨ q1 = 77 then (xb1 (f404_rowsIn N h b (if q1 = 76 then (1 : Int32) else (0 : Int32)) (xmax 1 q2) a) (fun a81 => some a81)) else (if q1 = 99 then (if q2 = 0 then (xb1 (f398_tells N h b a) (fun a87 => some a87)) else (some a)) else (if q1 = 100 then (xb2 (f402_rowOf N h b (xmax 1 q2) a) (fun r92 a93 => xb1 (f384_goes N h b r92 (a93 157 94) a93) (fun a97 => some a97))) else (if q1 = 103 then (if q2 = 0 then (xg (¬ (a 157 94 < 0 ∨ 80 ≤ (a 157 94).toNatClampNeg)) (xw (xU a 192 ((a 157 94).toNatClampNeg) 0) (fun a100 => some a100))) else (if q2 = 3 then ((l401_620 N h b N 0 a).bind (fun z110 => some z110.2)) else (some a))) else (if q1 = 104 ∨ q1 = 108 then ((l401_647 N h b q1 N 0 a).bind (fun z126 => some z126.2)) else (if q1 = 109 then ((l401_545 N h b N 0 a).bind (fun z135 => some z135.2)) else (if q1 = 110 then (xb1 (f408_reports N h b q2 a) (fun a141 => some a141)) else (if q1 = 113 then ((l401_750 N h b N 0 a).bind (fun z152 => some z152.2)) else (if q1 = 114 then (xb1 (f407_margins N h b (xmax 1 q2) (if t0 = 0 then (a 157 68) else (t0)) a) (fun a159 => some a159)) else (some a))))))))))))))))))

/-- TerminalHouseModel.done(I)V -/
def f401_done (N h b : Nat) (x0 : Int32) (a : xA) : Option (xA) :=
  if (a 157 115) ≤ 1 then (j401_25 N h b x0 (a 193 0) 0 a) else (j401_25 N h b x0 (a 193 0) (a 193 1) a)

def j399_121 (N h b : Nat) (q1 : Int32) (a : xA) : Option (xA) :=
  if q1 < 64 then (xw (xU a 157 101 4) (fun a27 => some a27)) else (xw (xU a 157 101 0) (fun a30 => xw (xU a30 157 115 ((a30 157 115) + 1)) (fun a33 => if (a33 157 116) = 0 then (xb1 (f401_done N h b q1 a33) (fun a41 => some a41)) else (xb1 (f400_privately N h b q1 a33) (fun a45 => some a45)))))

def j399_57 (N h b : Nat) (q1 : Int32) (q2 : Int32) (a : xA) : Option (xA) :=
  if q1 = 59 then (xw (xU a 157 115 ((a 157 115) + 1)) (fun a8 => if (a8 157 115) = 8 then (xw (xU a8 157 101 4) (fun a12 => some a12)) else (xg (¬ (a8 157 115 < 0 ∨ 8 ≤ (a8 157 115).toNatClampNeg)) (xw (xU a8 193 ((a8 157 115).toNatClampNeg) 0) (fun a15 => some a15))))) else (if q1 = 63 then (if q2 = 0 then (j399_121 N h b q1 a) else (xw (xU a 157 116 1) (fun a46 => some a46))) else (j399_121 N h b q1 a))

/-- TerminalHouseModel.sequence(I)V -/
def f399_sequence (N h b : Nat) (x0 : Int32) (a : xA) : Option (xA) :=
  xw (xU a 157 117 0) (fun a1 => if x0 < 48 then (j399_57 N h b x0 (a 157 117) a1) else (if 57 < x0 then (j399_57 N h b x0 (a 157 117) a1) else (xg (¬ (a1 157 115 < 0 ∨ 8 ≤ (a1 157 115).toNatClampNeg)) (xw (xU a1 193 ((a1 157 115).toNatClampNeg) (xmin 9999 (((10 * (a1 193 ((a1 157 115).toNatClampNeg))) + x0) - 48))) (fun a51 => some a51)))))

def j382_200 (N h b : Nat) (a : xA) : Option (xA) :=
  xw (xU a 157 101 0) (fun a66 => some a66)

/-- TerminalHouseModel.reads(I)V -/
def f382_reads (N h b : Nat) (x0 : Int32) (a : xA) : Option (xA) :=
  if x0 = 256 then (xw (xU a 157 101 0) (fun a2 => xb1 (f383_prints N h b 225 a2) (fun a8 => some a8))) else (if 128 ≤ x0 then (some a) else (if x0 = 0 then (some a) else (if x0 = 127 then (some a) else (if x0 = 24 then (xw (xU a 157 101 0) (fun a20 => some a20)) else (if x0 = 26 then (xw (xU a 157 101 0) (fun a24 => xb1 (f383_prints N h b 225 a24) (fun a30 => some a30))) else (if x0 = 27 then (xw (xU a 157 101 1) (fun a32 => xw (xU a32 157 102 0) (fun a35 => some a35))) else (if (a 157 101) = 5 then (if x0 = 7 then (xw (xU a 157 101 0) (fun a40 => some a40)) else (some a)) else (if 32 ≤ x0 then (if (a 157 101) = 0 then (xb1 (f392_letterSeen N h b x0 a) (fun a48 => some a48)) else (if (a 157 101) = 1 then (xb1 (f393_escapes N h b x0 a) (fun a54 => some a54)) else (if (a 157 101) = 3 then (xb1 (f399_sequence N h b x0 a) (fun a60 => some a60)) else (if (a 157 101) = 2 then (if x0 < 48 then (some a) else (j382_200 N h b a)) else (if x0 < 64 then (some a) else (j382_200 N h b a)))))) else (xb1 (f391_control N h b x0 a) (fun a74 => some a74))))))))))

def j410_135 (N h b : Nat) (q2 : Int32) (a : xA) : Option (xA) :=
  if q2 = (-1) then (some a) else (xw (xU a 157 75 q2) (fun a18 => xw (xU a18 157 77 ((a18 157 71) + (a18 157 70))) (fun a21 => xw (xU a21 157 73 ((a21 157 73) + 1)) (fun a24 => some a24))))

def l410_107 (N h b : Nat) (w2 : Int32) : Nat → Int32 → xA → Option (Nat × xA)
  | 0, _, _ => none
  | n + 1, v3, a => if (a 157 87) ≤ v3 then (some (0, a)) else (xg (¬ (v3 + 1 < 0 ∨ 32 ≤ (v3 + 1).toNatClampNeg)) (xg (¬ (v3 < 0 ∨ 32 ≤ v3.toNatClampNeg)) (xw (xU a 188 (v3.toNatClampNeg) (vp_nar .byte (a 188 ((v3 + 1).toNatClampNeg)))) (fun a32 => l410_107 N h b w2 n (v3 + 1) a32))))

def j410_57 (N h b : Nat) (q2 : Int32) (a : xA) : Option (xA) :=
  if q2 = (-1) then (if (a 157 85) = 0 then (if (a 157 87) ≤ 0 then (j410_135 N h b q2 a) else (xw (xU a 157 87 ((a 157 87) - 1)) (fun a27 => (l410_107 N h b ((a 188 0) &&& 255) N 0 a27).bind (fun z36 => j410_135 N h b ((a 188 0) &&& 255) z36.2)))) else (j410_135 N h b q2 a)) else (xw (xU a 157 82 q2) (fun a38 => j410_135 N h b q2 a38))

def j410_41 (N h b : Nat) (q1 : Int32) (q2 : Int32) (a : xA) : Option (xA) :=
  if q1 = 0 then (if (a 157 82) = 19 then (j410_57 N h b 17 a) else (j410_57 N h b q2 a)) else (j410_57 N h b q2 a)

def j410_19 (N h b : Nat) (t0 : Int32) (a : xA) : Option (xA) :=
  if t0 = 0 then (j410_41 N h b t0 (-1) a) else (if (a 157 82) = 19 then (j410_41 N h b t0 (-1) a) else (j410_57 N h b 19 a))

def j410_14 (N h b : Nat) (a : xA) : Option (xA) :=
  j410_19 N h b 1 a

/-- TerminalHouseModel.answers()V -/
def f410_answers (N h b : Nat) (a : xA) : Option (xA) :=
  if (a 157 83) = 0 then (if (if (a 157 84) = 0 then (0 : Int32) else (1 : Int32)) = 0 then (j410_41 N h b (if (a 157 84) = 0 then (0 : Int32) else (1 : Int32)) (-1) a) else (if (a 157 82) = 19 then (j410_41 N h b (if (a 157 84) = 0 then (0 : Int32) else (1 : Int32)) (-1) a) else (j410_57 N h b 19 a))) else (j410_14 N h b a)

def j366_221 (N h b : Nat) (a : xA) : Option (xA) :=
  if (a 157 74) = (-1) then (if (a 157 62) = 0 then (if (a 157 56) ≤ 0 then (some a) else (xg (¬ (a 157 55 < 0 ∨ 8000 ≤ (a 157 55).toNatClampNeg)) (xw (xU a 157 74 ((a 184 ((a 157 55).toNatClampNeg)) &&& 255)) (fun a29 => xw (xU a29 157 55 (((a29 157 55) + 1) - ((a29 157 55) + 1) / 8000 * 8000)) (fun a32 => xw (xU a32 157 56 ((a32 157 56) - 1)) (fun a35 => xw (xU a35 157 76 ((a35 157 71) + (a35 157 70))) (fun a38 => xw (xU a38 157 72 ((a38 157 72) + 1)) (fun a41 => some a41)))))))) else (some a)) else (some a)

def j366_209 (N h b : Nat) (a : xA) : Option (xA) :=
  if (a 157 75) = (-1) then (xb1 (f410_answers N h b a) (fun a24 => j366_221 N h b a24)) else (j366_221 N h b a)

def l366_151 (N h b : Nat) (w1 : Int32) : Nat → Int32 → xA → Option (Nat × xA)
  | 0, _, _ => none
  | n + 1, v2, a => if (a 157 79) ≤ v2 then (some (0, a)) else (xg (¬ (v2 + 1 < 0 ∨ 64 ≤ (v2 + 1).toNatClampNeg)) (xg (¬ (v2 < 0 ∨ 64 ≤ v2.toNatClampNeg)) (xw (xU a 187 (v2.toNatClampNeg) (a 187 ((v2 + 1).toNatClampNeg))) (fun a49 => l366_151 N h b w1 n (v2 + 1) a49))))

def j366_201 (N h b : Nat) (q1 : Int32) (t0 : Int32) (a : xA) : Option (xA) :=
  xg (t0 = 0 ∨ t0 = 1) (xw (xU a 157 83 t0) (fun a58 => xb1 (f382_reads N h b q1 a58) (fun a65 => j366_209 N h b a65)))

def j366_200 (N h b : Nat) (q1 : Int32) (a : xA) : Option (xA) :=
  j366_201 N h b q1 0 a

def j366_98 (N h b : Nat) (a : xA) : Option (xA) :=
  if (a 157 81) ≤ 0 then (if (a 157 84) = 0 then (if (a 157 79) ≤ 0 then (j366_209 N h b a) else (xw (xU a 157 79 ((a 157 79) - 1)) (fun a44 => (l366_151 N h b (a 187 0) N 0 a44).bind (fun z53 => if (z53.2 157 83) = 0 then (j366_200 N h b (a 187 0) z53.2) else (xg ((if (z53.2 157 79) ≤ 16 then (0 : Int32) else (1 : Int32)) = 0 ∨ (if (z53.2 157 79) ≤ 16 then (0 : Int32) else (1 : Int32)) = 1) (xw (xU z53.2 157 83 (if (z53.2 157 79) ≤ 16 then (0 : Int32) else (1 : Int32))) (fun a67 => xb1 (f382_reads N h b (a 187 0) a67) (fun a74 => j366_209 N h b a74)))))))) else (j366_209 N h b a)) else (xw (xU a 157 81 ((a 157 81) - 1)) (fun a75 => j366_209 N h b a75))

def j366_85 (N h b : Nat) (a : xA) : Option (xA) :=
  if ((a 157 71) - (a 157 71) / 4 * 4) = 0 then (xb1 (f377_scan N h b a) (fun a15 => j366_98 N h b a15)) else (j366_98 N h b a)

def j366_44 (N h b : Nat) (a : xA) : Option (xA) :=
  if (a 157 75) = (-1) then (j366_85 N h b a) else (if (a 157 77) = (a 157 71) then (xw (xU a 157 75 (-1)) (fun a80 => if (a 157 75) = 256 then (j366_85 N h b a80) else (xb1 (f368_comes N h b (a 157 75) a80) (fun a88 => j366_85 N h b a88)))) else (j366_85 N h b a))

/-- TerminalHouseModel.tick()V -/
def f366_tick (N h b : Nat) (a : xA) : Option (xA) :=
  xw (xU a 157 71 ((a 157 71) + 1)) (fun a1 => if (a1 157 74) = (-1) then (j366_44 N h b a1) else (if (a1 157 76) = (a1 157 71) then (xw (xU a1 157 74 (-1)) (fun a91 => xb1 (f367_arrives N h b (a1 157 74) a91) (fun a97 => j366_44 N h b a97))) else (j366_44 N h b a1)))

def l365_21 (N h b : Nat) (w1 : Int32) : Nat → Int32 → xA → Option (Nat × Int32 × xA)
  | 0, _, _ => none
  | n + 1, v2, a => if w1 ≤ v2 then (some (0, v2, a)) else (if 1000000000 ≤ (a 157 71) then (some (0, v2, a)) else (xb1 (f366_tick N h b a) (fun a15 => l365_21 N h b w1 n (v2 + 1) a15)))

/-- TerminalHouseModel.ticks(I)I -/
def f365_ticks (N h b : Nat) (x0 : Int32) (a : xA) : Option (Int32 × xA) :=
  xw (xU a 157 0 0) (fun a1 => if x0 < 1 then (some ((-1), a1)) else (if x0 ≤ 2000 then ((l365_21 N h b x0 N 0 a1).bind (fun z16 => some (z16.2.1, z16.2.2))) else (some ((-1), a1))))

/-- TerminalHouseModel.key(IZ)Z -/
def f411_key (N h b : Nat) (x0 : Int32) (x1 : Int32) (a : xA) : Option (Int32 × xA) :=
  xw (xU a 157 0 0) (fun a1 => xb2 (f378_isKey N h b x0 a1) (fun r7 a8 => if r7 = 0 then (some (0, a8)) else (xg (¬ (x0 < 0 ∨ 127 ≤ x0.toNatClampNeg)) (xw (xU a8 194 (x0.toNatClampNeg) (vp_nar .boolean x1)) (fun a10 => some (1, a10))))))

def j412_29 (N h b : Nat) (a : xA) : Option (Int32 × xA) :=
  some ((-1), a)

/-- TerminalHouseModel.screen(II)I -/
def f412_screen (N h b : Nat) (x0 : Int32) (x1 : Int32) (a : xA) : Option (Int32 × xA) :=
  xw (xU a 157 0 0) (fun a1 => if x0 < 0 then (j412_29 N h b a1) else (if x1 < 0 then (j412_29 N h b a1) else (if (a1 157 68) ≤ x0 then (j412_29 N h b a1) else (if x1 < (a1 157 69) then (xg (¬ ((80 * x0) + x1 < 0 ∨ 1920 ≤ ((80 * x0) + x1).toNatClampNeg)) (some (a1 190 (((80 * x0) + x1).toNatClampNeg), a1))) else (j412_29 N h b a1)))))

def j413_17 (N h b : Nat) (a : xA) : Option (Int32 × xA) :=
  some ((-1), a)

/-- TerminalHouseModel.width(I)I -/
def f413_width (N h b : Nat) (x0 : Int32) (a : xA) : Option (Int32 × xA) :=
  xw (xU a 157 0 0) (fun a1 => if x0 < 0 then (j413_17 N h b a1) else (if x0 < (a1 157 68) then (xg (¬ (x0 < 0 ∨ 24 ≤ x0.toNatClampNeg)) (some (a1 191 (x0.toNatClampNeg), a1))) else (j413_17 N h b a1)))

/-- TerminalHouseModel.state(I)I -/
def f414_state (N h b : Nat) (x0 : Int32) (a : xA) : Option (Int32 × xA) :=
  xw (xU a 157 0 0) (fun a1 => if x0 = 0 then (some (a1 157 93, a1)) else (if x0 = 1 then (some (a1 157 94, a1)) else (if x0 = 2 then (some ((if (a1 157 108) = 0 then (0 : Int32) else (1 : Int32)), a1)) else (if x0 = 3 then (some (a1 157 95, a1)) else (if x0 = 4 then (some (a1 157 96, a1)) else (if x0 = 5 then (some (a1 157 97, a1)) else (if x0 = 6 then (some (a1 157 98, a1)) else (if x0 = 7 then (some (a1 157 99, a1)) else (if x0 = 8 then (some (a1 157 100, a1)) else (if x0 = 9 then (some (a1 157 79, a1)) else (if x0 = 10 then (some (a1 157 81, a1)) else (if x0 = 11 then (some ((if (a1 157 84) = 0 then (0 : Int32) else (1 : Int32)), a1)) else (if x0 = 12 then (some ((if (a1 157 85) = 0 then (0 : Int32) else (1 : Int32)), a1)) else (if x0 = 13 then (some ((if (a1 157 83) = 0 then (0 : Int32) else (1 : Int32)) + (if (a1 157 84) = 0 then (0 : Int32) else (2 : Int32)), a1)) else (if x0 = 14 then (some (a1 157 87, a1)) else (if x0 = 15 then (some (a1 157 101, a1)) else (if x0 = 16 then (some (a1 157 80, a1)) else (if x0 = 17 then (some (a1 157 103, a1)) else (if x0 = 18 then (some (a1 157 120, a1)) else (some ((-1), a1)))))))))))))))))))))

def l415_144 (N h b : Nat) : Nat → Int32 → Int32 → xA → Option (Nat × Int32 × xA)
  | 0, _, _, _ => none
  | n + 1, v2, v3, a => if 8 ≤ v3 then (some (0, v2, a)) else (xg (¬ (v3 < 0 ∨ 8 ≤ v3.toNatClampNeg)) (l415_144 N h b n (v2 + (if (a 172 (v3.toNatClampNeg)) = 0 then (0 : Int32) else (1 : Int32))) (v3 + 1) a))

/-- TerminalHouseModel.count(I)I -/
def f415_count (N h b : Nat) (x0 : Int32) (a : xA) : Option (Int32 × xA) :=
  xw (xU a 157 0 0) (fun a1 => if x0 = 0 then (some (a1 157 71, a1)) else (if x0 = 1 then (some (a1 157 5, a1)) else (if x0 = 2 then (some ((if (a1 157 21) = (-1) then (0 : Int32) else (a1 157 27)), a1)) else (if x0 = 3 then (some ((if (a1 157 21) = (-1) then (0 : Int32) else (a1 157 26)), a1)) else (if x0 = 4 then ((l415_144 N h b N 0 0 a1).bind (fun z14 => some (z14.2.1, z14.2.2))) else (if x0 = 5 then (some (a1 157 56, a1)) else (if x0 = 6 then (some (a1 157 62, a1)) else (if x0 = 7 then (some (a1 157 65, a1)) else (if x0 = 8 then (some (a1 157 67, a1)) else (if x0 = 9 then (some (a1 157 61, a1)) else (if x0 = 10 then (some (a1 157 59, a1)) else (if x0 = 11 then (some (a1 157 72, a1)) else (if x0 = 12 then (some (a1 157 73, a1)) else (if x0 = 13 then (some (a1 157 2, a1)) else (if x0 = 14 then (some (a1 157 34, a1)) else (if x0 = 15 then (some (a1 157 32, a1)) else (if x0 = 16 then (some (a1 157 33, a1)) else (if x0 = 17 then (some (a1 157 58, a1)) else (if x0 = 18 then (some (a1 157 57, a1)) else (some ((-1), a1)))))))))))))))))))))

def j416_29 (N h b : Nat) (a : xA) : Option (Int32 × xA) :=
  some ((-1), a)

/-- TerminalHouseModel.stop(II)I -/
def f416_stop (N h b : Nat) (x0 : Int32) (x1 : Int32) (a : xA) : Option (Int32 × xA) :=
  xw (xU a 157 0 0) (fun a1 => if x0 < 0 then (j416_29 N h b a1) else (if x1 < 0 then (j416_29 N h b a1) else (if (a1 157 68) ≤ x0 then (j416_29 N h b a1) else (if x1 < (a1 157 69) then (xg (¬ (x1 < 0 ∨ 80 ≤ x1.toNatClampNeg)) (some ((if (a1 192 (x1.toNatClampNeg)) = 0 then (0 : Int32) else (1 : Int32)), a1))) else (j416_29 N h b a1)))))
