/-! The law's loop, out of a relation that every call keeps. -/
section LOOP
variable {sL : Nat} {sx : Nat → Int32} {N h b : Nat} {Rel : xA → Prop} {T : List am_C}
/-- call 0 -/
def xs_0 (N h b : Nat) (Rel : xA → Prop) : Prop := ∀ a : xA, Rel a → ∀ x0 x1 x2 x3 x4 : Int32, ∃ (r : Int32) (a1 a2 : xA), f19_feed N h b x0 x1 x2 x3 x4 a = some (r, a1) ∧ f261_feed N h b x0 x1 x2 x3 x4 a1 = some (r, a2) ∧ Rel a2
/-- call 1 -/
def xs_1 (N h b : Nat) (Rel : xA → Prop) : Prop := ∀ a : xA, Rel a → ∀ x0 : Int32, ∃ (r : Int32) (a1 a2 : xA), f21_end N h b x0 a = some (r, a1) ∧ f262_end N h b x0 a1 = some (r, a2) ∧ Rel a2
/-- call 3 -/
def xs_3 (N h b : Nat) (Rel : xA → Prop) : Prop := ∀ a : xA, Rel a → ∃ (r : Int32) (a1 a2 : xA), f22_describe N h b  a = some (r, a1) ∧ f264_describe N h b  a1 = some (r, a2) ∧ Rel a2
/-- call 4 -/
def xs_4 (N h b : Nat) (Rel : xA → Prop) : Prop := ∀ a : xA, Rel a → ∀ x0 : Int32, ∃ (r : Int32) (a1 a2 : xA), f70_fault N h b x0 a = some (r, a1) ∧ f292_fault N h b x0 a1 = some (r, a2) ∧ Rel a2
/-- call 5 -/
def xs_5 (N h b : Nat) (Rel : xA → Prop) : Prop := ∀ a : xA, Rel a → ∃ (r : Int32) (a1 a2 : xA), f71_use N h b  a = some (r, a1) ∧ f293_use N h b  a1 = some (r, a2) ∧ Rel a2
/-- call 6 -/
def xs_6 (N h b : Nat) (Rel : xA → Prop) : Prop := ∀ a : xA, Rel a → ∃ a1 a2 : xA, f91_empty N h b  a = some a1 ∧ f294_empty N h b  a1 = some a2 ∧ Rel a2
/-- call 7 -/
def xs_7 (N h b : Nat) (Rel : xA → Prop) : Prop := ∀ a : xA, Rel a → ∃ (r : Int32) (a1 a2 : xA), f93_ability N h b  a = some (r, a1) ∧ f295_ability N h b  a1 = some (r, a2) ∧ Rel a2
/-- call 8 -/
def xs_8 (N h b : Nat) (Rel : xA → Prop) : Prop := ∀ a : xA, Rel a → ∀ x0 x1 x2 x3 : Int32, ∃ (r : Int32) (a1 a2 : xA), f94_expand N h b x0 x1 x2 x3 a = some (r, a1) ∧ f298_expand N h b x0 x1 x2 x3 a1 = some (r, a2) ∧ Rel a2
/-- call 9 -/
def xs_9 (N h b : Nat) (Rel : xA → Prop) : Prop := ∀ a : xA, Rel a → ∀ x0 x1 x2 x3 : Int32, ∃ (r : Int32) (a1 a2 : xA), f95_open N h b x0 x1 x2 x3 a = some (r, a1) ∧ f306_open N h b x0 x1 x2 x3 a1 = some (r, a2) ∧ Rel a2
/-- call 10 -/
def xs_10 (N h b : Nat) (Rel : xA → Prop) : Prop := ∀ a : xA, Rel a → ∀ x0 : Int32, ∃ (r : Int32) (a1 a2 : xA), f97_close N h b x0 a = some (r, a1) ∧ f307_close N h b x0 a1 = some (r, a2) ∧ Rel a2
/-- call 11 -/
def xs_11 (N h b : Nat) (Rel : xA → Prop) : Prop := ∀ a : xA, Rel a → ∀ x0 x1 x2 : Int32, ∃ (r : Int32) (a1 a2 : xA), f99_at N h b x0 x1 x2 a = some (r, a1) ∧ f309_at N h b x0 x1 x2 a1 = some (r, a2) ∧ Rel a2
/-- call 12 -/
def xs_12 (N h b : Nat) (Rel : xA → Prop) : Prop := ∀ a : xA, Rel a → ∀ x0 x1 : Int32, ∃ (r : Int32) (a1 a2 : xA), f101_dress N h b x0 x1 a = some (r, a1) ∧ f310_dress N h b x0 x1 a1 = some (r, a2) ∧ Rel a2
/-- call 13 -/
def xs_13 (N h b : Nat) (Rel : xA → Prop) : Prop := ∀ a : xA, Rel a → ∀ x0 x1 : Int32, (x1 = 0 ∨ x1 = 1) → ∃ (r : Int32) (a1 a2 : xA), f102_scrolls N h b x0 x1 a = some (r, a1) ∧ f311_scrolls N h b x0 x1 a1 = some (r, a2) ∧ Rel a2
/-- call 14 -/
def xs_14 (N h b : Nat) (Rel : xA → Prop) : Prop := ∀ a : xA, Rel a → ∀ x0 : Int32, ∃ (r : Int32) (a1 a2 : xA), f103_say N h b x0 a = some (r, a1) ∧ f312_say N h b x0 a1 = some (r, a2) ∧ Rel a2
/-- call 15 -/
def xs_15 (N h b : Nat) (Rel : xA → Prop) : Prop := ∀ a : xA, Rel a → ∀ x0 x1 : Int32, ∃ (r : Int32) (a1 a2 : xA), f112_erase N h b x0 x1 a = some (r, a1) ∧ f318_erase N h b x0 x1 a1 = some (r, a2) ∧ Rel a2
/-- call 16 -/
def xs_16 (N h b : Nat) (Rel : xA → Prop) : Prop := ∀ a : xA, Rel a → ∀ x0 x1 : Int32, ∃ (r : Int32) (a1 a2 : xA), f114_rows N h b x0 x1 a = some (r, a1) ∧ f319_rows N h b x0 x1 a1 = some (r, a2) ∧ Rel a2
/-- call 17 -/
def xs_17 (N h b : Nat) (Rel : xA → Prop) : Prop := ∀ a : xA, Rel a → ∀ x0 x1 : Int32, ∃ (r : Int32) (a1 a2 : xA), f115_cells N h b x0 x1 a = some (r, a1) ∧ f321_cells N h b x0 x1 a1 = some (r, a2) ∧ Rel a2
/-- call 18 -/
def xs_18 (N h b : Nat) (Rel : xA → Prop) : Prop := ∀ a : xA, Rel a → ∀ x0 x1 : Int32, ∃ (r : Int32) (a1 a2 : xA), f116_roll N h b x0 x1 a = some (r, a1) ∧ f322_roll N h b x0 x1 a1 = some (r, a2) ∧ Rel a2
/-- call 19 -/
def xs_19 (N h b : Nat) (Rel : xA → Prop) : Prop := ∀ a : xA, Rel a → ∀ x0 : Int32, ∃ (r : Int32) (a1 a2 : xA), f117_box N h b x0 a = some (r, a1) ∧ f323_box N h b x0 a1 = some (r, a2) ∧ Rel a2
/-- call 20 -/
def xs_20 (N h b : Nat) (Rel : xA → Prop) : Prop := ∀ a : xA, Rel a → ∀ x0 x1 x2 : Int32, ∃ (r : Int32) (a1 a2 : xA), f119_look N h b x0 x1 x2 a = some (r, a1) ∧ f324_look N h b x0 x1 x2 a1 = some (r, a2) ∧ Rel a2
/-- call 21 -/
def xs_21 (N h b : Nat) (Rel : xA → Prop) : Prop := ∀ a : xA, Rel a → ∀ x0 x1 : Int32, ∃ (r : Int32) (a1 a2 : xA), f121_where N h b x0 x1 a = some (r, a1) ∧ f325_where N h b x0 x1 a1 = some (r, a2) ∧ Rel a2
/-- call 22 -/
def xs_22 (N h b : Nat) (Rel : xA → Prop) : Prop := ∀ a : xA, Rel a → ∀ x0 : Int32, ∃ (r : Int32) (a1 a2 : xA), f123_show N h b x0 a = some (r, a1) ∧ f326_show N h b x0 a1 = some (r, a2) ∧ Rel a2
/-- call 23 -/
def xs_23 (N h b : Nat) (Rel : xA → Prop) : Prop := ∀ a : xA, Rel a → ∃ (r : Int32) (a1 a2 : xA), f125_update N h b  a = some (r, a1) ∧ f331_update N h b  a1 = some (r, a2) ∧ Rel a2
/-- call 24 -/
def xs_24 (N h b : Nat) (Rel : xA → Prop) : Prop := ∀ a : xA, Rel a → ∃ (r : Int32) (a1 a2 : xA), f157_redraw N h b  a = some (r, a1) ∧ f327_redraw N h b  a1 = some (r, a2) ∧ Rel a2
/-- call 25 -/
def xs_25 (N h b : Nat) (Rel : xA → Prop) : Prop := ∀ a : xA, Rel a → ∀ x0 x1 : Int32, ∃ (r : Int32) (a1 a2 : xA), f158_known N h b x0 x1 a = some (r, a1) ∧ f328_known N h b x0 x1 a1 = some (r, a2) ∧ Rel a2
/-- call 26 -/
def xs_26 (N h b : Nat) (Rel : xA → Prop) : Prop := ∀ a : xA, Rel a → ∀ x0 x1 : Int32, ∃ (r : Int32) (a1 a2 : xA), f159_wanted N h b x0 x1 a = some (r, a1) ∧ f330_wanted N h b x0 x1 a1 = some (r, a2) ∧ Rel a2
/-- call 27 -/
def xs_27 (N h b : Nat) (Rel : xA → Prop) : Prop := ∀ a : xA, Rel a → ∀ x0 : Int32, ∃ (r : Int32) (a1 a2 : xA), f160_flags N h b x0 a = some (r, a1) ∧ f353_flags N h b x0 a1 = some (r, a2) ∧ Rel a2
/-- call 28 -/
def xs_28 (N h b : Nat) (Rel : xA → Prop) : Prop := ∀ a : xA, Rel a → ∃ (r : Int32) (a1 a2 : xA), f166_write N h b  a = some (r, a1) ∧ f355_write N h b  a1 = some (r, a2) ∧ Rel a2
/-- call 29 -/
def xs_29 (N h b : Nat) (Rel : xA → Prop) : Prop := ∀ a : xA, Rel a → ∀ x0 : Int32, ∃ (r : Int32) (a1 a2 : xA), f170_read N h b x0 a = some (r, a1) ∧ f359_read N h b x0 a1 = some (r, a2) ∧ Rel a2
/-- call 30 -/
def xs_30 (N h b : Nat) (Rel : xA → Prop) : Prop := ∀ a : xA, Rel a → ∀ x0 x1 : Int32, (x1 = 0 ∨ x1 = 1) → ∃ (r : Int32) (a1 a2 : xA), f173_key N h b x0 x1 a = some (r, a1) ∧ f411_key N h b x0 x1 a1 = some (r, a2) ∧ Rel a2
/-- call 31 -/
def xs_31 (N h b : Nat) (Rel : xA → Prop) : Prop := ∀ a : xA, Rel a → ∀ x0 : Int32, ∃ (r : Int32) (a1 a2 : xA), f175_spoil N h b x0 a = some (r, a1) ∧ f364_spoil N h b x0 a1 = some (r, a2) ∧ Rel a2
/-- call 32 -/
def xs_32 (N h b : Nat) (Rel : xA → Prop) : Prop := ∀ a : xA, Rel a → ∀ x0 : Int32, ∃ (r : Int32) (a1 a2 : xA), f177_ticks N h b x0 a = some (r, a1) ∧ f365_ticks N h b x0 a1 = some (r, a2) ∧ Rel a2
/-- call 33 -/
def xs_33 (N h b : Nat) (Rel : xA → Prop) : Prop := ∀ a : xA, Rel a → ∀ x0 x1 : Int32, ∃ (r : Int32) (a1 a2 : xA), f248_screen N h b x0 x1 a = some (r, a1) ∧ f412_screen N h b x0 x1 a1 = some (r, a2) ∧ Rel a2
/-- call 34 -/
def xs_34 (N h b : Nat) (Rel : xA → Prop) : Prop := ∀ a : xA, Rel a → ∀ x0 : Int32, ∃ (r : Int32) (a1 a2 : xA), f250_width N h b x0 a = some (r, a1) ∧ f413_width N h b x0 a1 = some (r, a2) ∧ Rel a2
/-- call 35 -/
def xs_35 (N h b : Nat) (Rel : xA → Prop) : Prop := ∀ a : xA, Rel a → ∀ x0 : Int32, ∃ (r : Int32) (a1 a2 : xA), f251_state N h b x0 a = some (r, a1) ∧ f414_state N h b x0 a1 = some (r, a2) ∧ Rel a2
/-- call 36 -/
def xs_36 (N h b : Nat) (Rel : xA → Prop) : Prop := ∀ a : xA, Rel a → ∀ x0 : Int32, ∃ (r : Int32) (a1 a2 : xA), f254_count N h b x0 a = some (r, a1) ∧ f415_count N h b x0 a1 = some (r, a2) ∧ Rel a2
/-- call 37 -/
def xs_37 (N h b : Nat) (Rel : xA → Prop) : Prop := ∀ a : xA, Rel a → ∀ x0 x1 : Int32, ∃ (r : Int32) (a1 a2 : xA), f257_stop N h b x0 x1 a = some (r, a1) ∧ f416_stop N h b x0 x1 a1 = some (r, a2) ∧ Rel a2
/-- octet: what the class's tape holds, against the reference's -/
def xs_2 (N h b : Nat) (Rel : xA → Prop) : Prop := ∀ a : xA, Rel a → ∀ x0 : Int32, ∃ (r q : Int32) (a1 a2 : xA), f263_octet N h b x0 a = some (r, a1) ∧ f260_thrown N h b a1 = some (q, a2) ∧ Rel a2 ∧ ((x0 < 0 ∨ a 0 3 ≤ x0) → q = 1) ∧ (¬ (x0 < 0 ∨ a 0 3 ≤ x0) → q = 0 ∧ r = a 2 x0.toNatClampNeg ∧ x0.toNatClampNeg < 300)
def xSim (N h b : Nat) (Rel : xA → Prop) : Prop := xs_0 N h b Rel ∧ xs_1 N h b Rel ∧ xs_2 N h b Rel ∧ xs_3 N h b Rel ∧ xs_4 N h b Rel ∧ xs_5 N h b Rel ∧ xs_6 N h b Rel ∧ xs_7 N h b Rel ∧ xs_8 N h b Rel ∧ xs_9 N h b Rel ∧ xs_10 N h b Rel ∧ xs_11 N h b Rel ∧ xs_12 N h b Rel ∧ xs_13 N h b Rel ∧ xs_14 N h b Rel ∧ xs_15 N h b Rel ∧ xs_16 N h b Rel ∧ xs_17 N h b Rel ∧ xs_18 N h b Rel ∧ xs_19 N h b Rel ∧ xs_20 N h b Rel ∧ xs_21 N h b Rel ∧ xs_22 N h b Rel ∧ xs_23 N h b Rel ∧ xs_24 N h b Rel ∧ xs_25 N h b Rel ∧ xs_26 N h b Rel ∧ xs_27 N h b Rel ∧ xs_28 N h b Rel ∧ xs_29 N h b Rel ∧ xs_30 N h b Rel ∧ xs_31 N h b Rel ∧ xs_32 N h b Rel ∧ xs_33 N h b Rel ∧ xs_34 N h b Rel ∧ xs_35 N h b Rel ∧ xs_36 N h b Rel ∧ xs_37 N h b Rel
theorem le_aX {cs : Nat → Nat → Option Int32} {y pc : Nat} {l1 l2 : am_L} {st : List Value} {H : am_H} {k n : Nat} {A : am_A} (hc : le_c l1 l2) (hn : le_k (l1.map (fun q => q.1)) = true) (e : aX sL sx cs y pc l1 st H k n = some A) : aX sL sx cs y pc l2 st H k n = some A := by
  unfold aX at e ⊢
  obtain ⟨q, hq⟩ := am_X_iff.mp e
  exact am_X_iff.mpr ⟨q, le_y q _ _ _ _ _ _ _ _ _ (le_cd hc) (le_kn hn) hq⟩
theorem nz01 (x : Int32) : am_nz x = 0 ∨ am_nz x = 1 := by
  unfold am_nz
  split
  · exact Or.inl rfl
  · exact Or.inr rfl
def xT (T : List am_C) : Prop := ∃ f : Nat → Int64, T[0]? = some (.inl (.long, (1, .inr (.inl f))))
/-- what a turn gives -/
def xTurn (sL : Nat) (sx : Nat → Int32) (h b : Nat) (Rel : xA → Prop) (j : Nat) (H : am_H) (k n : Nat) : Prop := ∃ (T2 : List am_C) (a2 : xA) (H2 : am_H) (l2 : am_L) (t : Nat), t ≤ 1 ∧ xS h b T2 a2 H2 ∧ xT T2 ∧ Rel a2 ∧ le_c (lb_l (Int32.ofNat j + 6)) l2 ∧ aX sL sx am_cs 417 70 (lb_l (Int32.ofNat j)) [.int (sx j &&& 63)] H k n = aX sL sx am_cs 417 53 l2 [] H2 (k + t) (n + 6 * t)
theorem le_lb (J : Int32) : le_c (lb_l J) (lb_l J) := ⟨rfl, rfl, rfl, rfl, rfl, trivial⟩
theorem xu_0 {a : xA} {H : am_H} {j k n : Nat} (hL : sL < 2 ^ 31) (hj : j + 5 < sL) (hs : xs_0 N h b Rel) (hS : xS h b T a H) (hT : xT T) (ha : Rel a) (hc : sx j &&& 63 = 0) : xTurn sL sx h b Rel j H k n := by
  obtain ⟨r, a1, a2, e1, e2, hr⟩ := hs a ha (sx (j + 1)) (sx (j + 2)) (sx (j + 3)) (sx (j + 4)) (sx (j + 5))
  obtain ⟨H1, r1, s1⟩ := tf19_feed (sL := sL) (sx := sx) hS e1
  obtain ⟨H2, r2, s2⟩ := tf261_feed (sL := sL) (sx := sx) s1 e2
  exact ⟨T, a2, H2, _, 0, by decide, s2, hT, hr, le_lb _, lc_0 hL hj (hS.obj rfl (by decide)) (s1.obj rfl (by decide)) r1 r2 hc⟩
theorem xu_1 {a : xA} {H : am_H} {j k n : Nat} (hL : sL < 2 ^ 31) (hj : j + 5 < sL) (hs : xs_1 N h b Rel) (hS : xS h b T a H) (hT : xT T) (ha : Rel a) (hc : sx j &&& 63 = 1) : xTurn sL sx h b Rel j H k n := by
  obtain ⟨r, a1, a2, e1, e2, hr⟩ := hs a ha (sx (j + 1))
  obtain ⟨H1, r1, s1⟩ := tf21_end (sL := sL) (sx := sx) hS e1
  obtain ⟨H2, r2, s2⟩ := tf262_end (sL := sL) (sx := sx) s1 e2
  exact ⟨T, a2, H2, _, 0, by decide, s2, hT, hr, le_lb _, lc_1 hL hj (hS.obj rfl (by decide)) (s1.obj rfl (by decide)) r1 r2 hc⟩
theorem xu_3 {a : xA} {H : am_H} {j k n : Nat} (hL : sL < 2 ^ 31) (hj : j + 5 < sL) (hs : xs_3 N h b Rel) (hS : xS h b T a H) (hT : xT T) (ha : Rel a) (hc : sx j &&& 63 = 3) : xTurn sL sx h b Rel j H k n := by
  obtain ⟨r, a1, a2, e1, e2, hr⟩ := hs a ha
  obtain ⟨H1, r1, s1⟩ := tf22_describe (sL := sL) (sx := sx) hS e1
  obtain ⟨H2, r2, s2⟩ := tf264_describe (sL := sL) (sx := sx) s1 e2
  exact ⟨T, a2, H2, _, 0, by decide, s2, hT, hr, le_lb _, lc_3 hL hj (hS.obj rfl (by decide)) (s1.obj rfl (by decide)) r1 r2 hc⟩
theorem xu_4 {a : xA} {H : am_H} {j k n : Nat} (hL : sL < 2 ^ 31) (hj : j + 5 < sL) (hs : xs_4 N h b Rel) (hS : xS h b T a H) (hT : xT T) (ha : Rel a) (hc : sx j &&& 63 = 4) : xTurn sL sx h b Rel j H k n := by
  obtain ⟨r, a1, a2, e1, e2, hr⟩ := hs a ha (sx (j + 1))
  obtain ⟨H1, r1, s1⟩ := tf70_fault (sL := sL) (sx := sx) hS e1
  obtain ⟨H2, r2, s2⟩ := tf292_fault (sL := sL) (sx := sx) s1 e2
  exact ⟨T, a2, H2, _, 0, by decide, s2, hT, hr, le_lb _, lc_4 hL hj (hS.obj rfl (by decide)) (s1.obj rfl (by decide)) r1 r2 hc⟩
theorem xu_5 {a : xA} {H : am_H} {j k n : Nat} (hL : sL < 2 ^ 31) (hj : j + 5 < sL) (hs : xs_5 N h b Rel) (hS : xS h b T a H) (hT : xT T) (ha : Rel a) (hc : sx j &&& 63 = 5) : xTurn sL sx h b Rel j H k n := by
  obtain ⟨r, a1, a2, e1, e2, hr⟩ := hs a ha
  obtain ⟨H1, r1, s1⟩ := tf71_use (sL := sL) (sx := sx) hS e1
  obtain ⟨H2, r2, s2⟩ := tf293_use (sL := sL) (sx := sx) s1 e2
  exact ⟨T, a2, H2, _, 0, by decide, s2, hT, hr, le_lb _, lc_5 hL hj (hS.obj rfl (by decide)) (s1.obj rfl (by decide)) r1 r2 hc⟩
theorem xu_6 {a : xA} {H : am_H} {j k n : Nat} (hL : sL < 2 ^ 31) (hj : j + 5 < sL) (hs : xs_6 N h b Rel) (hS : xS h b T a H) (hT : xT T) (ha : Rel a) (hc : sx j &&& 63 = 6) : xTurn sL sx h b Rel j H k n := by
  obtain ⟨a1, a2, e1, e2, hr⟩ := hs a ha
  obtain ⟨H1, r1, s1⟩ := tf91_empty (sL := sL) (sx := sx) hS e1
  obtain ⟨H2, r2, s2⟩ := tf294_empty (sL := sL) (sx := sx) s1 e2
  exact ⟨T, a2, H2, _, 0, by decide, s2, hT, hr, le_lb _, lc_6 hL hj (hS.obj rfl (by decide)) (s1.obj rfl (by decide)) r1 r2 hc⟩
theorem xu_7 {a : xA} {H : am_H} {j k n : Nat} (hL : sL < 2 ^ 31) (hj : j + 5 < sL) (hs : xs_7 N h b Rel) (hS : xS h b T a H) (hT : xT T) (ha : Rel a) (hc : sx j &&& 63 = 7) : xTurn sL sx h b Rel j H k n := by
  obtain ⟨r, a1, a2, e1, e2, hr⟩ := hs a ha
  obtain ⟨H1, r1, s1⟩ := tf93_ability (sL := sL) (sx := sx) hS e1
  obtain ⟨H2, r2, s2⟩ := tf295_ability (sL := sL) (sx := sx) s1 e2
  exact ⟨T, a2, H2, _, 0, by decide, s2, hT, hr, le_lb _, lc_7 hL hj (hS.obj rfl (by decide)) (s1.obj rfl (by decide)) r1 r2 hc⟩
theorem xu_8 {a : xA} {H : am_H} {j k n : Nat} (hL : sL < 2 ^ 31) (hj : j + 5 < sL) (hs : xs_8 N h b Rel) (hS : xS h b T a H) (hT : xT T) (ha : Rel a) (hc : sx j &&& 63 = 8) : xTurn sL sx h b Rel j H k n := by
  obtain ⟨r, a1, a2, e1, e2, hr⟩ := hs a ha (sx (j + 1)) (sx (j + 2)) (sx (j + 3)) (sx (j + 4))
  obtain ⟨H1, r1, s1⟩ := tf94_expand (sL := sL) (sx := sx) hS e1
  obtain ⟨H2, r2, s2⟩ := tf298_expand (sL := sL) (sx := sx) s1 e2
  exact ⟨T, a2, H2, _, 0, by decide, s2, hT, hr, le_lb _, lc_8 hL hj (hS.obj rfl (by decide)) (s1.obj rfl (by decide)) r1 r2 hc⟩
theorem xu_9 {a : xA} {H : am_H} {j k n : Nat} (hL : sL < 2 ^ 31) (hj : j + 5 < sL) (hs : xs_9 N h b Rel) (hS : xS h b T a H) (hT : xT T) (ha : Rel a) (hc : sx j &&& 63 = 9) : xTurn sL sx h b Rel j H k n := by
  obtain ⟨r, a1, a2, e1, e2, hr⟩ := hs a ha (sx (j + 1)) (sx (j + 2)) (sx (j + 3)) (sx (j + 4))
  obtain ⟨H1, r1, s1⟩ := tf95_open (sL := sL) (sx := sx) hS e1
  obtain ⟨H2, r2, s2⟩ := tf306_open (sL := sL) (sx := sx) s1 e2
  exact ⟨T, a2, H2, _, 0, by decide, s2, hT, hr, le_lb _, lc_9 hL hj (hS.obj rfl (by decide)) (s1.obj rfl (by decide)) r1 r2 hc⟩
theorem xu_10 {a : xA} {H : am_H} {j k n : Nat} (hL : sL < 2 ^ 31) (hj : j + 5 < sL) (hs : xs_10 N h b Rel) (hS : xS h b T a H) (hT : xT T) (ha : Rel a) (hc : sx j &&& 63 = 10) : xTurn sL sx h b Rel j H k n := by
  obtain ⟨r, a1, a2, e1, e2, hr⟩ := hs a ha (sx (j + 1))
  obtain ⟨H1, r1, s1⟩ := tf97_close (sL := sL) (sx := sx) hS e1
  obtain ⟨H2, r2, s2⟩ := tf307_close (sL := sL) (sx := sx) s1 e2
  exact ⟨T, a2, H2, _, 0, by decide, s2, hT, hr, le_lb _, lc_10 hL hj (hS.obj rfl (by decide)) (s1.obj rfl (by decide)) r1 r2 hc⟩
theorem xu_11 {a : xA} {H : am_H} {j k n : Nat} (hL : sL < 2 ^ 31) (hj : j + 5 < sL) (hs : xs_11 N h b Rel) (hS : xS h b T a H) (hT : xT T) (ha : Rel a) (hc : sx j &&& 63 = 11) : xTurn sL sx h b Rel j H k n := by
  obtain ⟨r, a1, a2, e1, e2, hr⟩ := hs a ha (sx (j + 1)) (sx (j + 2)) (sx (j + 3))
  obtain ⟨H1, r1, s1⟩ := tf99_at (sL := sL) (sx := sx) hS e1
  obtain ⟨H2, r2, s2⟩ := tf309_at (sL := sL) (sx := sx) s1 e2
  exact ⟨T, a2, H2, _, 0, by decide, s2, hT, hr, le_lb _, lc_11 hL hj (hS.obj rfl (by decide)) (s1.obj rfl (by decide)) r1 r2 hc⟩
theorem xu_12 {a : xA} {H : am_H} {j k n : Nat} (hL : sL < 2 ^ 31) (hj : j + 5 < sL) (hs : xs_12 N h b Rel) (hS : xS h b T a H) (hT : xT T) (ha : Rel a) (hc : sx j &&& 63 = 12) : xTurn sL sx h b Rel j H k n := by
  obtain ⟨r, a1, a2, e1, e2, hr⟩ := hs a ha (sx (j + 1)) (sx (j + 2))
  obtain ⟨H1, r1, s1⟩ := tf101_dress (sL := sL) (sx := sx) hS e1
  obtain ⟨H2, r2, s2⟩ := tf310_dress (sL := sL) (sx := sx) s1 e2
  exact ⟨T, a2, H2, _, 0, by decide, s2, hT, hr, le_lb _, lc_12 hL hj (hS.obj rfl (by decide)) (s1.obj rfl (by decide)) r1 r2 hc⟩
theorem xu_13 {a : xA} {H : am_H} {j k n : Nat} (hL : sL < 2 ^ 31) (hj : j + 5 < sL) (hs : xs_13 N h b Rel) (hS : xS h b T a H) (hT : xT T) (ha : Rel a) (hc : sx j &&& 63 = 13) : xTurn sL sx h b Rel j H k n := by
  obtain ⟨r, a1, a2, e1, e2, hr⟩ := hs a ha (sx (j + 1)) (am_nz (sx (j + 2))) (nz01 _)
  obtain ⟨H1, r1, s1⟩ := tf102_scrolls (sL := sL) (sx := sx) hS e1
  obtain ⟨H2, r2, s2⟩ := tf311_scrolls (sL := sL) (sx := sx) s1 e2
  exact ⟨T, a2, H2, _, 0, by decide, s2, hT, hr, le_lb _, lc_13 hL hj (hS.obj rfl (by decide)) (s1.obj rfl (by decide)) r1 r2 hc⟩
theorem xu_14 {a : xA} {H : am_H} {j k n : Nat} (hL : sL < 2 ^ 31) (hj : j + 5 < sL) (hs : xs_14 N h b Rel) (hS : xS h b T a H) (hT : xT T) (ha : Rel a) (hc : sx j &&& 63 = 14) : xTurn sL sx h b Rel j H k n := by
  obtain ⟨r, a1, a2, e1, e2, hr⟩ := hs a ha (sx (j + 1))
  obtain ⟨H1, r1, s1⟩ := tf103_say (sL := sL) (sx := sx) hS e1
  obtain ⟨H2, r2, s2⟩ := tf312_say (sL := sL) (sx := sx) s1 e2
  exact ⟨T, a2, H2, _, 0, by decide, s2, hT, hr, le_lb _, lc_14 hL hj (hS.obj rfl (by decide)) (s1.obj rfl (by decide)) r1 r2 hc⟩
theorem xu_15 {a : xA} {H : am_H} {j k n : Nat} (hL : sL < 2 ^ 31) (hj : j + 5 < sL) (hs : xs_15 N h b Rel) (hS : xS h b T a H) (hT : xT T) (ha : Rel a) (hc : sx j &&& 63 = 15) : xTurn sL sx h b Rel j H k n := by
  obtain ⟨r, a1, a2, e1, e2, hr⟩ := hs a ha (sx (j + 1)) (sx (j + 2))
  obtain ⟨H1, r1, s1⟩ := tf112_erase (sL := sL) (sx := sx) hS e1
  obtain ⟨H2, r2, s2⟩ := tf318_erase (sL := sL) (sx := sx) s1 e2
  exact ⟨T, a2, H2, _, 0, by decide, s2, hT, hr, le_lb _, lc_15 hL hj (hS.obj rfl (by decide)) (s1.obj rfl (by decide)) r1 r2 hc⟩
theorem xu_16 {a : xA} {H : am_H} {j k n : Nat} (hL : sL < 2 ^ 31) (hj : j + 5 < sL) (hs : xs_16 N h b Rel) (hS : xS h b T a H) (hT : xT T) (ha : Rel a) (hc : sx j &&& 63 = 16) : xTurn sL sx h b Rel j H k n := by
  obtain ⟨r, a1, a2, e1, e2, hr⟩ := hs a ha (sx (j + 1)) (sx (j + 2))
  obtain ⟨H1, r1, s1⟩ := tf114_rows (sL := sL) (sx := sx) hS e1
  obtain ⟨H2, r2, s2⟩ := tf319_rows (sL := sL) (sx := sx) s1 e2
  exact ⟨T, a2, H2, _, 0, by decide, s2, hT, hr, le_lb _, lc_16 hL hj (hS.obj rfl (by decide)) (s1.obj rfl (by decide)) r1 r2 hc⟩
theorem xu_17 {a : xA} {H : am_H} {j k n : Nat} (hL : sL < 2 ^ 31) (hj : j + 5 < sL) (hs : xs_17 N h b Rel) (hS : xS h b T a H) (hT : xT T) (ha : Rel a) (hc : sx j &&& 63 = 17) : xTurn sL sx h b Rel j H k n := by
  obtain ⟨r, a1, a2, e1, e2, hr⟩ := hs a ha (sx (j + 1)) (sx (j + 2))
  obtain ⟨H1, r1, s1⟩ := tf115_cells (sL := sL) (sx := sx) hS e1
  obtain ⟨H2, r2, s2⟩ := tf321_cells (sL := sL) (sx := sx) s1 e2
  exact ⟨T, a2, H2, _, 0, by decide, s2, hT, hr, le_lb _, lc_17 hL hj (hS.obj rfl (by decide)) (s1.obj rfl (by decide)) r1 r2 hc⟩
theorem xu_18 {a : xA} {H : am_H} {j k n : Nat} (hL : sL < 2 ^ 31) (hj : j + 5 < sL) (hs : xs_18 N h b Rel) (hS : xS h b T a H) (hT : xT T) (ha : Rel a) (hc : sx j &&& 63 = 18) : xTurn sL sx h b Rel j H k n := by
  obtain ⟨r, a1, a2, e1, e2, hr⟩ := hs a ha (sx (j + 1)) (sx (j + 2))
  obtain ⟨H1, r1, s1⟩ := tf116_roll (sL := sL) (sx := sx) hS e1
  obtain ⟨H2, r2, s2⟩ := tf322_roll (sL := sL) (sx := sx) s1 e2
  exact ⟨T, a2, H2, _, 0, by decide, s2, hT, hr, le_lb _, lc_18 hL hj (hS.obj rfl (by decide)) (s1.obj rfl (by decide)) r1 r2 hc⟩
theorem xu_19 {a : xA} {H : am_H} {j k n : Nat} (hL : sL < 2 ^ 31) (hj : j + 5 < sL) (hs : xs_19 N h b Rel) (hS : xS h b T a H) (hT : xT T) (ha : Rel a) (hc : sx j &&& 63 = 19) : xTurn sL sx h b Rel j H k n := by
  obtain ⟨r, a1, a2, e1, e2, hr⟩ := hs a ha (sx (j + 1))
  obtain ⟨H1, r1, s1⟩ := tf117_box (sL := sL) (sx := sx) hS e1
  obtain ⟨H2, r2, s2⟩ := tf323_box (sL := sL) (sx := sx) s1 e2
  exact ⟨T, a2, H2, _, 0, by decide, s2, hT, hr, le_lb _, lc_19 hL hj (hS.obj rfl (by decide)) (s1.obj rfl (by decide)) r1 r2 hc⟩
theorem xu_20 {a : xA} {H : am_H} {j k n : Nat} (hL : sL < 2 ^ 31) (hj : j + 5 < sL) (hs : xs_20 N h b Rel) (hS : xS h b T a H) (hT : xT T) (ha : Rel a) (hc : sx j &&& 63 = 20) : xTurn sL sx h b Rel j H k n := by
  obtain ⟨r, a1, a2, e1, e2, hr⟩ := hs a ha (sx (j + 1)) (sx (j + 2)) (sx (j + 3))
  obtain ⟨H1, r1, s1⟩ := tf119_look (sL := sL) (sx := sx) hS e1
  obtain ⟨H2, r2, s2⟩ := tf324_look (sL := sL) (sx := sx) s1 e2
  exact ⟨T, a2, H2, _, 0, by decide, s2, hT, hr, le_lb _, lc_20 hL hj (hS.obj rfl (by decide)) (s1.obj rfl (by decide)) r1 r2 hc⟩
theorem xu_21 {a : xA} {H : am_H} {j k n : Nat} (hL : sL < 2 ^ 31) (hj : j + 5 < sL) (hs : xs_21 N h b Rel) (hS : xS h b T a H) (hT : xT T) (ha : Rel a) (hc : sx j &&& 63 = 21) : xTurn sL sx h b Rel j H k n := by
  obtain ⟨r, a1, a2, e1, e2, hr⟩ := hs a ha (sx (j + 1)) (sx (j + 2))
  obtain ⟨H1, r1, s1⟩ := tf121_where (sL := sL) (sx := sx) hS e1
  obtain ⟨H2, r2, s2⟩ := tf325_where (sL := sL) (sx := sx) s1 e2
  exact ⟨T, a2, H2, _, 0, by decide, s2, hT, hr, le_lb _, lc_21 hL hj (hS.obj rfl (by decide)) (s1.obj rfl (by decide)) r1 r2 hc⟩
theorem xu_22 {a : xA} {H : am_H} {j k n : Nat} (hL : sL < 2 ^ 31) (hj : j + 5 < sL) (hs : xs_22 N h b Rel) (hS : xS h b T a H) (hT : xT T) (ha : Rel a) (hc : sx j &&& 63 = 22) : xTurn sL sx h b Rel j H k n := by
  obtain ⟨r, a1, a2, e1, e2, hr⟩ := hs a ha (sx (j + 1))
  obtain ⟨H1, r1, s1⟩ := tf123_show (sL := sL) (sx := sx) hS e1
  obtain ⟨H2, r2, s2⟩ := tf326_show (sL := sL) (sx := sx) s1 e2
  exact ⟨T, a2, H2, _, 0, by decide, s2, hT, hr, le_lb _, lc_22 hL hj (hS.obj rfl (by decide)) (s1.obj rfl (by decide)) r1 r2 hc⟩
theorem xu_23 {a : xA} {H : am_H} {j k n : Nat} (hL : sL < 2 ^ 31) (hj : j + 5 < sL) (hs : xs_23 N h b Rel) (hS : xS h b T a H) (hT : xT T) (ha : Rel a) (hc : sx j &&& 63 = 23) : xTurn sL sx h b Rel j H k n := by
  obtain ⟨r, a1, a2, e1, e2, hr⟩ := hs a ha
  obtain ⟨H1, r1, s1⟩ := tf125_update (sL := sL) (sx := sx) hS e1
  obtain ⟨H2, r2, s2⟩ := tf331_update (sL := sL) (sx := sx) s1 e2
  exact ⟨T, a2, H2, _, 0, by decide, s2, hT, hr, le_lb _, lc_23 hL hj (hS.obj rfl (by decide)) (s1.obj rfl (by decide)) r1 r2 hc⟩
theorem xu_24 {a : xA} {H : am_H} {j k n : Nat} (hL : sL < 2 ^ 31) (hj : j + 5 < sL) (hs : xs_24 N h b Rel) (hS : xS h b T a H) (hT : xT T) (ha : Rel a) (hc : sx j &&& 63 = 24) : xTurn sL sx h b Rel j H k n := by
  obtain ⟨r, a1, a2, e1, e2, hr⟩ := hs a ha
  obtain ⟨H1, r1, s1⟩ := tf157_redraw (sL := sL) (sx := sx) hS e1
  obtain ⟨H2, r2, s2⟩ := tf327_redraw (sL := sL) (sx := sx) s1 e2
  exact ⟨T, a2, H2, _, 0, by decide, s2, hT, hr, le_lb _, lc_24 hL hj (hS.obj rfl (by decide)) (s1.obj rfl (by decide)) r1 r2 hc⟩
theorem xu_25 {a : xA} {H : am_H} {j k n : Nat} (hL : sL < 2 ^ 31) (hj : j + 5 < sL) (hs : xs_25 N h b Rel) (hS : xS h b T a H) (hT : xT T) (ha : Rel a) (hc : sx j &&& 63 = 25) : xTurn sL sx h b Rel j H k n := by
  obtain ⟨r, a1, a2, e1, e2, hr⟩ := hs a ha (sx (j + 1)) (sx (j + 2))
  obtain ⟨H1, r1, s1⟩ := tf158_known (sL := sL) (sx := sx) hS e1
  obtain ⟨H2, r2, s2⟩ := tf328_known (sL := sL) (sx := sx) s1 e2
  exact ⟨T, a2, H2, _, 0, by decide, s2, hT, hr, le_lb _, lc_25 hL hj (hS.obj rfl (by decide)) (s1.obj rfl (by decide)) r1 r2 hc⟩
theorem xu_26 {a : xA} {H : am_H} {j k n : Nat} (hL : sL < 2 ^ 31) (hj : j + 5 < sL) (hs : xs_26 N h b Rel) (hS : xS h b T a H) (hT : xT T) (ha : Rel a) (hc : sx j &&& 63 = 26) : xTurn sL sx h b Rel j H k n := by
  obtain ⟨r, a1, a2, e1, e2, hr⟩ := hs a ha (sx (j + 1)) (sx (j + 2))
  obtain ⟨H1, r1, s1⟩ := tf159_wanted (sL := sL) (sx := sx) hS e1
  obtain ⟨H2, r2, s2⟩ := tf330_wanted (sL := sL) (sx := sx) s1 e2
  exact ⟨T, a2, H2, _, 0, by decide, s2, hT, hr, le_lb _, lc_26 hL hj (hS.obj rfl (by decide)) (s1.obj rfl (by decide)) r1 r2 hc⟩
theorem xu_27 {a : xA} {H : am_H} {j k n : Nat} (hL : sL < 2 ^ 31) (hj : j + 5 < sL) (hs : xs_27 N h b Rel) (hS : xS h b T a H) (hT : xT T) (ha : Rel a) (hc : sx j &&& 63 = 27) : xTurn sL sx h b Rel j H k n := by
  obtain ⟨r, a1, a2, e1, e2, hr⟩ := hs a ha (sx (j + 1))
  obtain ⟨H1, r1, s1⟩ := tf160_flags (sL := sL) (sx := sx) hS e1
  obtain ⟨H2, r2, s2⟩ := tf353_flags (sL := sL) (sx := sx) s1 e2
  exact ⟨T, a2, H2, _, 0, by decide, s2, hT, hr, le_lb _, lc_27 hL hj (hS.obj rfl (by decide)) (s1.obj rfl (by decide)) r1 r2 hc⟩
theorem xu_28 {a : xA} {H : am_H} {j k n : Nat} (hL : sL < 2 ^ 31) (hj : j + 5 < sL) (hs : xs_28 N h b Rel) (hS : xS h b T a H) (hT : xT T) (ha : Rel a) (hc : sx j &&& 63 = 28) : xTurn sL sx h b Rel j H k n := by
  obtain ⟨r, a1, a2, e1, e2, hr⟩ := hs a ha
  obtain ⟨H1, r1, s1⟩ := tf166_write (sL := sL) (sx := sx) hS e1
  obtain ⟨H2, r2, s2⟩ := tf355_write (sL := sL) (sx := sx) s1 e2
  exact ⟨T, a2, H2, _, 0, by decide, s2, hT, hr, le_lb _, lc_28 hL hj (hS.obj rfl (by decide)) (s1.obj rfl (by decide)) r1 r2 hc⟩
theorem xu_29 {a : xA} {H : am_H} {j k n : Nat} (hL : sL < 2 ^ 31) (hj : j + 5 < sL) (hs : xs_29 N h b Rel) (hS : xS h b T a H) (hT : xT T) (ha : Rel a) (hc : sx j &&& 63 = 29) : xTurn sL sx h b Rel j H k n := by
  obtain ⟨r, a1, a2, e1, e2, hr⟩ := hs a ha (sx (j + 1))
  obtain ⟨H1, r1, s1⟩ := tf170_read (sL := sL) (sx := sx) hS e1
  obtain ⟨H2, r2, s2⟩ := tf359_read (sL := sL) (sx := sx) s1 e2
  exact ⟨T, a2, H2, _, 0, by decide, s2, hT, hr, le_lb _, lc_29 hL hj (hS.obj rfl (by decide)) (s1.obj rfl (by decide)) r1 r2 hc⟩
theorem xu_30 {a : xA} {H : am_H} {j k n : Nat} (hL : sL < 2 ^ 31) (hj : j + 5 < sL) (hs : xs_30 N h b Rel) (hS : xS h b T a H) (hT : xT T) (ha : Rel a) (hc : sx j &&& 63 = 30) : xTurn sL sx h b Rel j H k n := by
  obtain ⟨r, a1, a2, e1, e2, hr⟩ := hs a ha (sx (j + 1)) (am_nz (sx (j + 2))) (nz01 _)
  obtain ⟨H1, r1, s1⟩ := tf173_key (sL := sL) (sx := sx) hS e1
  obtain ⟨H2, r2, s2⟩ := tf411_key (sL := sL) (sx := sx) s1 e2
  exact ⟨T, a2, H2, _, 0, by decide, s2, hT, hr, le_lb _, lc_30 hL hj (hS.obj rfl (by decide)) (s1.obj rfl (by decide)) r1 r2 hc⟩
theorem xu_31 {a : xA} {H : am_H} {j k n : Nat} (hL : sL < 2 ^ 31) (hj : j + 5 < sL) (hs : xs_31 N h b Rel) (hS : xS h b T a H) (hT : xT T) (ha : Rel a) (hc : sx j &&& 63 = 31) : xTurn sL sx h b Rel j H k n := by
  obtain ⟨r, a1, a2, e1, e2, hr⟩ := hs a ha (sx (j + 1))
  obtain ⟨H1, r1, s1⟩ := tf175_spoil (sL := sL) (sx := sx) hS e1
  obtain ⟨H2, r2, s2⟩ := tf364_spoil (sL := sL) (sx := sx) s1 e2
  exact ⟨T, a2, H2, _, 0, by decide, s2, hT, hr, le_lb _, lc_31 hL hj (hS.obj rfl (by decide)) (s1.obj rfl (by decide)) r1 r2 hc⟩
theorem xu_32 {a : xA} {H : am_H} {j k n : Nat} (hL : sL < 2 ^ 31) (hj : j + 5 < sL) (hs : xs_32 N h b Rel) (hS : xS h b T a H) (hT : xT T) (ha : Rel a) (hc : sx j &&& 63 = 32) : xTurn sL sx h b Rel j H k n := by
  obtain ⟨r, a1, a2, e1, e2, hr⟩ := hs a ha (sx (j + 1))
  obtain ⟨H1, r1, s1⟩ := tf177_ticks (sL := sL) (sx := sx) hS e1
  obtain ⟨H2, r2, s2⟩ := tf365_ticks (sL := sL) (sx := sx) s1 e2
  exact ⟨T, a2, H2, _, 0, by decide, s2, hT, hr, le_lb _, lc_32 hL hj (hS.obj rfl (by decide)) (s1.obj rfl (by decide)) r1 r2 hc⟩
theorem xu_33 {a : xA} {H : am_H} {j k n : Nat} (hL : sL < 2 ^ 31) (hj : j + 5 < sL) (hs : xs_33 N h b Rel) (hS : xS h b T a H) (hT : xT T) (ha : Rel a) (hc : sx j &&& 63 = 33) : xTurn sL sx h b Rel j H k n := by
  obtain ⟨r, a1, a2, e1, e2, hr⟩ := hs a ha (sx (j + 1)) (sx (j + 2))
  obtain ⟨H1, r1, s1⟩ := tf248_screen (sL := sL) (sx := sx) hS e1
  obtain ⟨H2, r2, s2⟩ := tf412_screen (sL := sL) (sx := sx) s1 e2
  exact ⟨T, a2, H2, _, 0, by decide, s2, hT, hr, le_lb _, lc_33 hL hj (hS.obj rfl (by decide)) (s1.obj rfl (by decide)) r1 r2 hc⟩
theorem xu_34 {a : xA} {H : am_H} {j k n : Nat} (hL : sL < 2 ^ 31) (hj : j + 5 < sL) (hs : xs_34 N h b Rel) (hS : xS h b T a H) (hT : xT T) (ha : Rel a) (hc : sx j &&& 63 = 34) : xTurn sL sx h b Rel j H k n := by
  obtain ⟨r, a1, a2, e1, e2, hr⟩ := hs a ha (sx (j + 1))
  obtain ⟨H1, r1, s1⟩ := tf250_width (sL := sL) (sx := sx) hS e1
  obtain ⟨H2, r2, s2⟩ := tf413_width (sL := sL) (sx := sx) s1 e2
  exact ⟨T, a2, H2, _, 0, by decide, s2, hT, hr, le_lb _, lc_34 hL hj (hS.obj rfl (by decide)) (s1.obj rfl (by decide)) r1 r2 hc⟩
theorem xu_35 {a : xA} {H : am_H} {j k n : Nat} (hL : sL < 2 ^ 31) (hj : j + 5 < sL) (hs : xs_35 N h b Rel) (hS : xS h b T a H) (hT : xT T) (ha : Rel a) (hc : sx j &&& 63 = 35) : xTurn sL sx h b Rel j H k n := by
  obtain ⟨r, a1, a2, e1, e2, hr⟩ := hs a ha (sx (j + 1))
  obtain ⟨H1, r1, s1⟩ := tf251_state (sL := sL) (sx := sx) hS e1
  obtain ⟨H2, r2, s2⟩ := tf414_state (sL := sL) (sx := sx) s1 e2
  exact ⟨T, a2, H2, _, 0, by decide, s2, hT, hr, le_lb _, lc_35 hL hj (hS.obj rfl (by decide)) (s1.obj rfl (by decide)) r1 r2 hc⟩
theorem xu_36 {a : xA} {H : am_H} {j k n : Nat} (hL : sL < 2 ^ 31) (hj : j + 5 < sL) (hs : xs_36 N h b Rel) (hS : xS h b T a H) (hT : xT T) (ha : Rel a) (hc : sx j &&& 63 = 36) : xTurn sL sx h b Rel j H k n := by
  obtain ⟨r, a1, a2, e1, e2, hr⟩ := hs a ha (sx (j + 1))
  obtain ⟨H1, r1, s1⟩ := tf254_count (sL := sL) (sx := sx) hS e1
  obtain ⟨H2, r2, s2⟩ := tf415_count (sL := sL) (sx := sx) s1 e2
  exact ⟨T, a2, H2, _, 0, by decide, s2, hT, hr, le_lb _, lc_36 hL hj (hS.obj rfl (by decide)) (s1.obj rfl (by decide)) r1 r2 hc⟩
theorem xu_37 {a : xA} {H : am_H} {j k n : Nat} (hL : sL < 2 ^ 31) (hj : j + 5 < sL) (hs : xs_37 N h b Rel) (hS : xS h b T a H) (hT : xT T) (ha : Rel a) (hc : sx j &&& 63 = 37) : xTurn sL sx h b Rel j H k n := by
  obtain ⟨r, a1, a2, e1, e2, hr⟩ := hs a ha (sx (j + 1)) (sx (j + 2))
  obtain ⟨H1, r1, s1⟩ := tf257_stop (sL := sL) (sx := sx) hS e1
  obtain ⟨H2, r2, s2⟩ := tf416_stop (sL := sL) (sx := sx) s1 e2
  exact ⟨T, a2, H2, _, 0, by decide, s2, hT, hr, le_lb _, lc_37 hL hj (hS.obj rfl (by decide)) (s1.obj rfl (by decide)) r1 r2 hc⟩
theorem st_octt2 {cs : Nat → Nat → Option Int32} {H : am_H} {k n y pc : Nat} {ls : am_L} {st : List Value} {o w oa m m1 : Nat} {vs : List Value} {f : Nat → Int64} {g : Nat → Int32} {i wr : Int32} (hI : am_co y pc = some (.invokestatic 37, .null, 1008, 2, false, [])) (ho : H[o]? = some (.inr (11, vs))) (hw : H[w]? = some (.inl (.long, (m, .inr (.inl f))))) (h2 : vs[2]? = some (.ref oa)) (h3 : vs[3]? = some (.int wr)) (hoa : H[oa]? = some (.inl (.int, (m1, .inl g)))) (hm : 0 < m) (hs : am_sum st ≤ 8) (c : i < 0 ∨ wr ≤ i) :
    aX sL sx cs y pc ls (.ref w :: .int i :: .ref o :: st) H k n = aX sL sx cs y (pc + 3) ls (.int 1 :: st) (H ++ [.inr (13, [])]) (k + 1) (n + 6) :=
  st_1 (u := (pc + 3, ls, .int 1 :: st, H ++ [.inr (13, [])], k + 1, n + 6)) hI rfl (by
    simp only [am_s, ho, hw, h2, h3, hoa]
    first
      | rw [if_pos ⟨by decide, by decide, hs, hm⟩, if_pos c]
      | rw [if_pos ⟨trivial, trivial, hs, hm⟩, if_pos c]
      | rw [if_pos ⟨hs, hm⟩, if_pos c]
      | simp [hs, hm, c])
theorem st_octr2 {cs : Nat → Nat → Option Int32} {H : am_H} {k n y pc : Nat} {ls : am_L} {st : List Value} {o w oa m m1 : Nat} {vs : List Value} {f : Nat → Int64} {g : Nat → Int32} {i wr : Int32} (hI : am_co y pc = some (.invokestatic 37, .null, 1008, 2, false, [])) (ho : H[o]? = some (.inr (11, vs))) (hw : H[w]? = some (.inl (.long, (m, .inr (.inl f))))) (h2 : vs[2]? = some (.ref oa)) (h3 : vs[3]? = some (.int wr)) (hoa : H[oa]? = some (.inl (.int, (m1, .inl g)))) (hm : 0 < m) (hs : am_sum st ≤ 8) (c : ¬ (i < 0 ∨ wr ≤ i)) (c2 : ¬ m1 ≤ i.toNatClampNeg) :
    aX sL sx cs y pc ls (.ref w :: .int i :: .ref o :: st) H k n = aX sL sx cs y (pc + 3) ls (.int 0 :: st) (H.set w (.inl (.long, (m, .inr (.inl (vp_updL f 0 (g i.toNatClampNeg).toInt64)))))) k n :=
  st_1 (u := (pc + 3, ls, .int 0 :: st, H.set w (.inl (.long, (m, .inr (.inl (vp_updL f 0 (g i.toNatClampNeg).toInt64))))), k, n)) hI rfl (by
    simp only [am_s, ho, hw, h2, h3, hoa]
    first
      | rw [if_pos ⟨by decide, by decide, hs, hm⟩, if_neg c, if_neg c2]
      | rw [if_pos ⟨trivial, trivial, hs, hm⟩, if_neg c, if_neg c2]
      | rw [if_pos ⟨hs, hm⟩, if_neg c, if_neg c2]
      | simp [hs, hm, c, c2])
theorem st_lald2 {cs : Nat → Nat → Option Int32} {H : am_H} {k n y pc w m : Nat} {ls : am_L} {st : List Value} {f : Nat → Int64} {i : Int32} (hI : am_co y pc = some (.laload, .null, 0, 0, false, [])) (hw : H[w]? = some (.inl (.long, (m, .inr (.inl f))))) (hi : ¬ (i < 0 ∨ m ≤ i.toNatClampNeg)) : aX sL sx cs y pc ls (.int i :: .ref w :: st) H k n = aX sL sx cs y (pc + 1) ls (.long (f i.toNatClampNeg) :: st) H k n :=
  st_1 (u := (pc + 1, ls, .long (f i.toNatClampNeg) :: st, H, k, n)) hI rfl (by
    simp only [am_s, hw]
    rw [if_neg hi])
theorem xS.push {a : xA} {H : am_H} (hS : xS h b T a H) (c : am_C) : xS h b (T ++ [c]) a (H ++ [c]) := by
  refine ⟨by rw [List.length_append, List.length_append, hS.1]; simp only [List.length_cons, List.length_nil]; omega, fun p hp => ?_, fun j hj => ?_⟩
  · rw [List.getElem?_append_left (by have := hS.1; omega)]
    exact hS.2.1 p hp
  · by_cases q : j < H.length
    · rw [List.getElem?_append_left q, List.getElem?_append_left (by have := hS.1; omega)]
      exact hS.2.2 j hj
    · rw [List.getElem?_append_right (by omega), List.getElem?_append_right (by have := hS.1; omega)]
      have e : j - H.length = j - 196 - T.length := by have := hS.1; omega
      rw [e]
theorem xS.tail {a : xA} {H : am_H} (hS : xS h b T a H) (c : am_C) (hp : 0 < T.length) : xS h b (T.set 0 c) a (H.set 196 c) := by
  refine ⟨by rw [List.length_set, List.length_set, hS.1], fun p hp => ?_, fun j hj => ?_⟩
  · rw [List.getElem?_set_ne (by omega)]
    exact hS.2.1 p hp
  · by_cases q : 196 = j
    · subst q
      rw [List.getElem?_set_self (by have := hS.1; omega), List.getElem?_set_self hp]
    · rw [List.getElem?_set_ne q, List.getElem?_set_ne (by omega)]
      exact hS.2.2 j hj
theorem lb_a3 {H : am_H} {k n pc : Nat} {st : List Value} {J : Int32} (i0 : am_co 417 pc = some (.aload_n 3, .null, 0, 0, false, [])) : aX sL sx am_cs 417 pc (lb_l J) st H k n = aX sL sx am_cs 417 (pc + 1) (lb_l J) (.ref 196 :: st) H k n :=
  st_1 (u := (pc + 1, lb_l J, .ref 196 :: st, H, k, n)) i0 rfl (by with_unfolding_all rfl)
theorem xT.pos {T : List am_C} (hT : xT T) : 0 < T.length := by
  obtain ⟨f, hf⟩ := hT
  exact (List.getElem?_eq_some_iff.mp hf).1
set_option maxRecDepth 100000 in
theorem xu_2 {a : xA} {H : am_H} {j k n : Nat} (hL : sL < 2 ^ 31) (hj : j + 5 < sL) (hs : xs_2 N h b Rel) (hS : xS h b T a H) (hT : xT T) (ha : Rel a) (hc : sx j &&& 63 = 2) : xTurn sL sx h b Rel j H k n := by
  obtain ⟨r, q, a1, a2, e1, e2, hr, c1, c2⟩ := hs a ha (sx (j + 1))
  have hp := hT.pos
  obtain ⟨f, hf⟩ := hT
  have hw : H[196]? = some (.inl (.long, (1, .inr (.inl f)))) := (hS.2.2 196 (Nat.le_refl _)).trans hf
  have h0 := hS.obj (p := 0) (ci := 11) rfl (by decide)
  have h2 := hS.int (p := 2) rfl
  by_cases c : sx (j + 1) < 0 ∨ a 0 3 ≤ sx (j + 1)
  · have hq := c1 c
    subst hq
    have hS2 := hS.push (.inr (13, []))
    obtain ⟨H1, r1, s1⟩ := tf263_octet (sL := sL) (sx := sx) hS2 e1
    obtain ⟨H2, r2, s2⟩ := tf260_thrown (sL := sL) (sx := sx) s1 e2
    refine ⟨_, a2, H2, (4, .int (Int32.ofNat j + 6)) :: (6, .int r) :: (5, .int 1) :: [(3, .ref 196), (2, .ref 157), (1, .ref 0), (0, .retAddr 0)], 1, Nat.le_refl _, s2, ⟨f, by rw [List.getElem?_append_left hp]; exact hf⟩, hr, ⟨rfl, rfl, rfl, rfl, rfl, trivial⟩, ?_⟩
    rw [hc]
    refine (st_tsw rfl).trans ?_
    refine (st_pc (pc2 := 334) (by decide +kernel)).trans ?_
    refine (lb_a1 (pc := 334) rfl).trans ?_
    refine (lb_B (pc := 335) (d := 1) rfl rfl rfl (by decide) rfl).trans ?_
    refine (st_sc (d := 1) rfl hL (by omega)).trans ?_
    refine (lb_a3 (pc := 341) rfl).trans ?_
    refine (st_octt2 rfl h0 hw rfl rfl h2 (by decide) (by decide) c).trans ?_
    refine (am_nb (m := 6) (pc1 := 353) (ls1 := ((5, .int 1) :: (4, .int (Int32.ofNat j)) :: [(3, .ref 196), (2, .ref 157), (1, .ref 0), (0, .retAddr 0)])) (st1 := [.int (Int32.ofNat j + 1), .retAddr 0, .ref 157]) (H1 := H ++ [.inr (13, [])]) (k1 := k + 1) (n1 := n + 6) (by with_unfolding_all rfl)).trans ?_
    refine (st_sc (d := 1) rfl hL (by omega)).trans ?_
    refine (st_cv1 (as := [.int (sx (j + 1))]) (rest := []) rfl rfl rfl rfl (hS2.obj (p := 157) (ci := 12) rfl (by decide)) rfl (by with_unfolding_all rfl) (by with_unfolding_all rfl) r1).trans ?_
    refine (am_nb (m := 2) (pc1 := 360) (ls1 := ((6, .int r) :: (5, .int 1) :: (4, .int (Int32.ofNat j)) :: [(3, .ref 196), (2, .ref 157), (1, .ref 0), (0, .retAddr 0)])) (st1 := [.ref 157]) (H1 := H1) (k1 := k + 1 + 0) (n1 := n + 6 + 0) (by with_unfolding_all rfl)).trans ?_
    refine (st_cv1 (as := []) (rest := []) rfl rfl rfl rfl (s1.obj (p := 157) (ci := 12) rfl (by decide)) rfl (by with_unfolding_all rfl) (by with_unfolding_all rfl) r2).trans ?_
    refine (am_nb (m := 1) (pc1 := 365) (ls1 := ((6, .int r) :: (5, .int 1) :: (4, .int (Int32.ofNat j)) :: [(3, .ref 196), (2, .ref 157), (1, .ref 0), (0, .retAddr 0)])) (st1 := [.int 1, .int 1]) (H1 := H2) (k1 := k + 1 + 0 + 0) (n1 := n + 6 + 0 + 0) (by with_unfolding_all rfl)).trans ?_
    refine (st_icmp rfl).trans ?_
    refine (st_pc (pc2 := 370) (by decide +kernel)).trans ?_
    refine (am_nb (m := 1) (pc1 := 372) (ls1 := ((6, .int r) :: (5, .int 1) :: (4, .int (Int32.ofNat j)) :: [(3, .ref 196), (2, .ref 157), (1, .ref 0), (0, .retAddr 0)])) (st1 := [.int 1]) (H1 := H2) (k1 := k + 1 + 0 + 0) (n1 := n + 6 + 0 + 0) (by with_unfolding_all rfl)).trans ?_
    refine (st_if rfl).trans ?_
    refine (st_pc (pc2 := 387) (by decide +kernel)).trans ?_
    exact am_nb (m := 3) (by with_unfolding_all rfl)
  · obtain ⟨hq, hv, h300⟩ := c2 c
    subst hq
    have hS2 := hS.tail (.inl (.long, (1, .inr (.inl (vp_updL f 0 (a 2 (sx (j + 1)).toNatClampNeg).toInt64))))) hp
    obtain ⟨H1, r1, s1⟩ := tf263_octet (sL := sL) (sx := sx) hS2 e1
    obtain ⟨H2, r2, s2⟩ := tf260_thrown (sL := sL) (sx := sx) s1 e2
    have hw2 : H2[196]? = some (.inl (.long, (1, .inr (.inl (vp_updL f 0 (a 2 (sx (j + 1)).toNatClampNeg).toInt64))))) := by
      rw [s2.2.2 196 (Nat.le_refl _)]
      exact List.getElem?_set_self hp
    refine ⟨_, a2, H2, (4, .int (Int32.ofNat j + 6)) :: (6, .int r) :: (5, .int 0) :: [(3, .ref 196), (2, .ref 157), (1, .ref 0), (0, .retAddr 0)], 0, Nat.zero_le _, s2, ⟨_, List.getElem?_set_self hp⟩, hr, ⟨rfl, rfl, rfl, rfl, rfl, trivial⟩, ?_⟩
    rw [hc]
    refine (st_tsw rfl).trans ?_
    refine (st_pc (pc2 := 334) (by decide +kernel)).trans ?_
    refine (lb_a1 (pc := 334) rfl).trans ?_
    refine (lb_B (pc := 335) (d := 1) rfl rfl rfl (by decide) rfl).trans ?_
    refine (st_sc (d := 1) rfl hL (by omega)).trans ?_
    refine (lb_a3 (pc := 341) rfl).trans ?_
    refine (st_octr2 rfl h0 hw rfl rfl h2 (by decide) (by decide) c (by show ¬ 300 ≤ _; omega)).trans ?_
    refine (am_nb (m := 6) (pc1 := 353) (ls1 := ((5, .int 0) :: (4, .int (Int32.ofNat j)) :: [(3, .ref 196), (2, .ref 157), (1, .ref 0), (0, .retAddr 0)])) (st1 := [.int (Int32.ofNat j + 1), .retAddr 0, .ref 157]) (H1 := (H.set 196 (.inl (.long, (1, .inr (.inl (vp_updL f 0 (a 2 (sx (j + 1)).toNatClampNeg).toInt64))))))) (k1 := k) (n1 := n) (by with_unfolding_all rfl)).trans ?_
    refine (st_sc (d := 1) rfl hL (by omega)).trans ?_
    refine (st_cv1 (as := [.int (sx (j + 1))]) (rest := []) rfl rfl rfl rfl (hS2.obj (p := 157) (ci := 12) rfl (by decide)) rfl (by with_unfolding_all rfl) (by with_unfolding_all rfl) r1).trans ?_
    refine (am_nb (m := 2) (pc1 := 360) (ls1 := ((6, .int r) :: (5, .int 0) :: (4, .int (Int32.ofNat j)) :: [(3, .ref 196), (2, .ref 157), (1, .ref 0), (0, .retAddr 0)])) (st1 := [.ref 157]) (H1 := H1) (k1 := k + 0) (n1 := n + 0) (by with_unfolding_all rfl)).trans ?_
    refine (st_cv1 (as := []) (rest := []) rfl rfl rfl rfl (s1.obj (p := 157) (ci := 12) rfl (by decide)) rfl (by with_unfolding_all rfl) (by with_unfolding_all rfl) r2).trans ?_
    refine (am_nb (m := 1) (pc1 := 365) (ls1 := ((6, .int r) :: (5, .int 0) :: (4, .int (Int32.ofNat j)) :: [(3, .ref 196), (2, .ref 157), (1, .ref 0), (0, .retAddr 0)])) (st1 := [.int 0, .int 0]) (H1 := H2) (k1 := k + 0 + 0) (n1 := n + 0 + 0) (by with_unfolding_all rfl)).trans ?_
    refine (st_icmp rfl).trans ?_
    refine (st_pc (pc2 := 370) (by decide +kernel)).trans ?_
    refine (am_nb (m := 1) (pc1 := 372) (ls1 := ((6, .int r) :: (5, .int 0) :: (4, .int (Int32.ofNat j)) :: [(3, .ref 196), (2, .ref 157), (1, .ref 0), (0, .retAddr 0)])) (st1 := [.int 0]) (H1 := H2) (k1 := k + 0 + 0) (n1 := n + 0 + 0) (by with_unfolding_all rfl)).trans ?_
    refine (st_if rfl).trans ?_
    refine (st_pc (pc2 := 375) (by decide +kernel)).trans ?_
    refine (am_nb (m := 2) (pc1 := 377) (ls1 := ((6, .int r) :: (5, .int 0) :: (4, .int (Int32.ofNat j)) :: [(3, .ref 196), (2, .ref 157), (1, .ref 0), (0, .retAddr 0)])) (st1 := [.int 0, .ref 196]) (H1 := H2) (k1 := k + 0 + 0) (n1 := n + 0 + 0) (by with_unfolding_all rfl)).trans ?_
    refine (st_lald2 rfl hw2 (by decide)).trans ?_
    refine (am_nb (m := 3) (pc1 := 382) (ls1 := ((6, .int r) :: (5, .int 0) :: (4, .int (Int32.ofNat j)) :: [(3, .ref 196), (2, .ref 157), (1, .ref 0), (0, .retAddr 0)])) (st1 := [.int (lg_cmp (vp_updL f 0 (a 2 (sx (j + 1)).toNatClampNeg).toInt64 (0 : Int32).toNatClampNeg) r.toInt64)]) (H1 := H2) (k1 := k + 0 + 0) (n1 := n + 0 + 0) (by with_unfolding_all rfl)).trans ?_
    have hz : lg_cmp (vp_updL f 0 (a 2 (sx (j + 1)).toNatClampNeg).toInt64 (0 : Int32).toNatClampNeg) r.toInt64 = 0 := by
      rw [hv]
      show lg_cmp (a 2 (sx (j + 1)).toNatClampNeg).toInt64 (a 2 (sx (j + 1)).toNatClampNeg).toInt64 = 0
      unfold lg_cmp
      rw [if_neg (Int64.lt_irrefl), if_pos rfl]
    rw [hz]
    refine (st_if rfl).trans ?_
    refine (st_pc (pc2 := 387) (by decide +kernel)).trans ?_
    exact am_nb (m := 3) (by with_unfolding_all rfl)
theorem xu_all {a : xA} {H : am_H} {j k n : Nat} (hL : sL < 2 ^ 31) (hj : j + 5 < sL) (hs : xSim N h b Rel) (hS : xS h b T a H) (hT : xT T) (ha : Rel a) : xTurn sL sx h b Rel j H k n := by
  obtain ⟨s0, s1, s2, s3, s4, s5, s6, s7, s8, s9, s10, s11, s12, s13, s14, s15, s16, s17, s18, s19, s20, s21, s22, s23, s24, s25, s26, s27, s28, s29, s30, s31, s32, s33, s34, s35, s36, s37⟩ := hs
  by_cases c0 : sx j &&& 63 = 0
  · exact xu_0 hL hj s0 hS hT ha c0
  by_cases c1 : sx j &&& 63 = 1
  · exact xu_1 hL hj s1 hS hT ha c1
  by_cases c2 : sx j &&& 63 = 2
  · exact xu_2 hL hj s2 hS hT ha c2
  by_cases c3 : sx j &&& 63 = 3
  · exact xu_3 hL hj s3 hS hT ha c3
  by_cases c4 : sx j &&& 63 = 4
  · exact xu_4 hL hj s4 hS hT ha c4
  by_cases c5 : sx j &&& 63 = 5
  · exact xu_5 hL hj s5 hS hT ha c5
  by_cases c6 : sx j &&& 63 = 6
  · exact xu_6 hL hj s6 hS hT ha c6
  by_cases c7 : sx j &&& 63 = 7
  · exact xu_7 hL hj s7 hS hT ha c7
  by_cases c8 : sx j &&& 63 = 8
  · exact xu_8 hL hj s8 hS hT ha c8
  by_cases c9 : sx j &&& 63 = 9
  · exact xu_9 hL hj s9 hS hT ha c9
  by_cases c10 : sx j &&& 63 = 10
  · exact xu_10 hL hj s10 hS hT ha c10
  by_cases c11 : sx j &&& 63 = 11
  · exact xu_11 hL hj s11 hS hT ha c11
  by_cases c12 : sx j &&& 63 = 12
  · exact xu_12 hL hj s12 hS hT ha c12
  by_cases c13 : sx j &&& 63 = 13
  · exact xu_13 hL hj s13 hS hT ha c13
  by_cases c14 : sx j &&& 63 = 14
  · exact xu_14 hL hj s14 hS hT ha c14
  by_cases c15 : sx j &&& 63 = 15
  · exact xu_15 hL hj s15 hS hT ha c15
  by_cases c16 : sx j &&& 63 = 16
  · exact xu_16 hL hj s16 hS hT ha c16
  by_cases c17 : sx j &&& 63 = 17
  · exact xu_17 hL hj s17 hS hT ha c17
  by_cases c18 : sx j &&& 63 = 18
  · exact xu_18 hL hj s18 hS hT ha c18
  by_cases c19 : sx j &&& 63 = 19
  · exact xu_19 hL hj s19 hS hT ha c19
  by_cases c20 : sx j &&& 63 = 20
  · exact xu_20 hL hj s20 hS hT ha c20
  by_cases c21 : sx j &&& 63 = 21
  · exact xu_21 hL hj s21 hS hT ha c21
  by_cases c22 : sx j &&& 63 = 22
  · exact xu_22 hL hj s22 hS hT ha c22
  by_cases c23 : sx j &&& 63 = 23
  · exact xu_23 hL hj s23 hS hT ha c23
  by_cases c24 : sx j &&& 63 = 24
  · exact xu_24 hL hj s24 hS hT ha c24
  by_cases c25 : sx j &&& 63 = 25
  · exact xu_25 hL hj s25 hS hT ha c25
  by_cases c26 : sx j &&& 63 = 26
  · exact xu_26 hL hj s26 hS hT ha c26
  by_cases c27 : sx j &&& 63 = 27
  · exact xu_27 hL hj s27 hS hT ha c27
  by_cases c28 : sx j &&& 63 = 28
  · exact xu_28 hL hj s28 hS hT ha c28
  by_cases c29 : sx j &&& 63 = 29
  · exact xu_29 hL hj s29 hS hT ha c29
  by_cases c30 : sx j &&& 63 = 30
  · exact xu_30 hL hj s30 hS hT ha c30
  by_cases c31 : sx j &&& 63 = 31
  · exact xu_31 hL hj s31 hS hT ha c31
  by_cases c32 : sx j &&& 63 = 32
  · exact xu_32 hL hj s32 hS hT ha c32
  by_cases c33 : sx j &&& 63 = 33
  · exact xu_33 hL hj s33 hS hT ha c33
  by_cases c34 : sx j &&& 63 = 34
  · exact xu_34 hL hj s34 hS hT ha c34
  by_cases c35 : sx j &&& 63 = 35
  · exact xu_35 hL hj s35 hS hT ha c35
  by_cases c36 : sx j &&& 63 = 36
  · exact xu_36 hL hj s36 hS hT ha c36
  by_cases c37 : sx j &&& 63 = 37
  · exact xu_37 hL hj s37 hS hT ha c37
  refine ⟨T, a, H, _, 0, Nat.zero_le _, hS, hT, ha, le_lb _, lc_d (fun q hq => ?_)⟩
  match q, hq with
  | 0, _ => exact c0
  | 1, _ => exact c1
  | 2, _ => exact c2
  | 3, _ => exact c3
  | 4, _ => exact c4
  | 5, _ => exact c5
  | 6, _ => exact c6
  | 7, _ => exact c7
  | 8, _ => exact c8
  | 9, _ => exact c9
  | 10, _ => exact c10
  | 11, _ => exact c11
  | 12, _ => exact c12
  | 13, _ => exact c13
  | 14, _ => exact c14
  | 15, _ => exact c15
  | 16, _ => exact c16
  | 17, _ => exact c17
  | 18, _ => exact c18
  | 19, _ => exact c19
  | 20, _ => exact c20
  | 21, _ => exact c21
  | 22, _ => exact c22
  | 23, _ => exact c23
  | 24, _ => exact c24
  | 25, _ => exact c25
  | 26, _ => exact c26
  | 27, _ => exact c27
  | 28, _ => exact c28
  | 29, _ => exact c29
  | 30, _ => exact c30
  | 31, _ => exact c31
  | 32, _ => exact c32
  | 33, _ => exact c33
  | 34, _ => exact c34
  | 35, _ => exact c35
  | 36, _ => exact c36
  | 37, _ => exact c37
  | q + 38, hq => omega
theorem lw_cmp {L j : Nat} (hL : L < 2 ^ 31) (hj : j < 2 ^ 31) : (Int32.ofNat L - 6 < Int32.ofNat j) ↔ L < j + 6 := by
  rw [Int32.lt_iff_toInt_lt, Int32.toInt_sub, Int32.toInt_ofNat_of_lt hL, Int32.toInt_ofNat_of_lt hj, show (6 : Int32).toInt = 6 from rfl, Int.bmod_eq_of_le (by omega) (by omega)]
  omega
theorem lw_loop (hL : sL < 2 ^ 30) (hs : xSim N h b Rel) : ∀ (m j : Nat) (T : List am_C) (a : xA) (H : am_H) (k n : Nat), sL < j + 6 + 6 * m → j < 2 ^ 30 + 6 → xS h b T a H → xT T → Rel a → ∃ (H2 : am_H) (t : Nat), t ≤ m ∧ aX sL sx am_cs 417 53 (lb_l (Int32.ofNat j)) [] H k n = some (some (.int 1), H2, k + t, n + 6 * t) := by
  intro m
  induction m with
  | zero =>
    intro j T a H k n h1 h2 hS hT ha
    exact ⟨H, 0, Nat.le_refl _, lw_exit ((lw_cmp (by omega) (by omega)).mpr (by omega))⟩
  | succ m ih =>
    intro j T a H k n h1 h2 hS hT ha
    by_cases c : sL < j + 6
    · exact ⟨H, 0, Nat.zero_le _, lw_exit ((lw_cmp (by omega) (by omega)).mpr c)⟩
    · obtain ⟨T2, a2, H2, l2, t, ht, s2, t2, r2, hle, e⟩ := xu_all (sL := sL) (sx := sx) (j := j) (k := k) (n := n) (by omega) (by omega) hs hS hT ha
      obtain ⟨H3, t3, ht3, e3⟩ := ih (j + 6) T2 a2 H2 (k + t) (n + 6 * t) (by omega) (by omega) s2 t2 r2
      refine ⟨H3, t + t3, by omega, ?_⟩
      have ej : Int32.ofNat (j + 6) = Int32.ofNat j + 6 := Int32.ofNat_add j 6
      rw [ej] at e3
      have e4 := le_aX hle rfl e3
      refine (lw_call (by omega) (fun q => c ((lw_cmp (by omega) (by omega)).mp q)) (by omega)).trans (e.trans (e4.trans ?_))
      rw [show k + t + t3 = k + (t + t3) by omega, show n + 6 * t + 6 * t3 = n + 6 * (t + t3) by omega]
end LOOP
