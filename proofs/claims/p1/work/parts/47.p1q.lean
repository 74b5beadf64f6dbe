/-! p1: a turn of the law on the fresh state. -/
section P1Q
variable {sx : Nat → Int32} {cs : Nat → Nat → Option Int32} {v3 : Int32} {h b : Nat} {H : am_H} {k n : Nat}

theorem p1_q0 (P : p1_P v3 h b H) (dm : p1_D v3 h b) (hc : sx 3 &&& 63 = 0) : ∃ H2 : am_H, aX 9 sx cs 417 70 ((4, .int (Int32.ofNat 3)) :: [(3, .ref 196), (2, .ref 157), (1, .ref 0), (0, .retAddr 0)]) [.int (sx 3 &&& 63)] H k n = aX 9 sx cs 417 53 ((4, .int (Int32.ofNat 3 + 6)) :: [(3, .ref 196), (2, .ref 157), (1, .ref 0), (0, .retAddr 0)]) [] H2 (k + 0 + 0) (n + 0 + 0) := by
  obtain ⟨H1, e1, f1⟩ := px_feed (sL := 9) (sx := sx) (cs := cs) (x0 := sx (3 + 1)) (x1 := sx (3 + 2)) (x2 := sx (3 + 3)) (x3 := sx (3 + 4)) (x4 := sx (3 + 5)) P dm
  have P1 := P.2.keep (fun j a _ => f1 j a)
  obtain ⟨H2, e2⟩ := pm_feed (sL := 9) (sx := sx) (cs := cs) (x0 := sx (3 + 1)) (x1 := sx (3 + 2)) (x2 := sx (3 + 3)) (x3 := sx (3 + 4)) (x4 := sx (3 + 5)) P1 dm
  exact ⟨H2, lc_0 (j := 3) (by decide) (by decide) (p1_c0 P) (p1_c157 P1) e1 e2 hc⟩

theorem p1_q1 (P : p1_P v3 h b H) (dm : p1_D v3 h b) (hc : sx 3 &&& 63 = 1) : ∃ H2 : am_H, aX 9 sx cs 417 70 ((4, .int (Int32.ofNat 3)) :: [(3, .ref 196), (2, .ref 157), (1, .ref 0), (0, .retAddr 0)]) [.int (sx 3 &&& 63)] H k n = aX 9 sx cs 417 53 ((4, .int (Int32.ofNat 3 + 6)) :: [(3, .ref 196), (2, .ref 157), (1, .ref 0), (0, .retAddr 0)]) [] H2 (k + 0 + 0) (n + 0 + 0) := by
  obtain ⟨H1, e1, f1⟩ := px_end (sL := 9) (sx := sx) (cs := cs) (x0 := sx (3 + 1)) P dm
  have P1 := P.2.keep (fun j a _ => f1 j a)
  obtain ⟨H2, e2⟩ := pm_end (sL := 9) (sx := sx) (cs := cs) (x0 := sx (3 + 1)) P1 dm
  exact ⟨H2, lc_1 (j := 3) (by decide) (by decide) (p1_c0 P) (p1_c157 P1) e1 e2 hc⟩

theorem p1_q3 (P : p1_P v3 h b H) (dm : p1_D v3 h b) (hc : sx 3 &&& 63 = 3) : ∃ H2 : am_H, aX 9 sx cs 417 70 ((4, .int (Int32.ofNat 3)) :: [(3, .ref 196), (2, .ref 157), (1, .ref 0), (0, .retAddr 0)]) [.int (sx 3 &&& 63)] H k n = aX 9 sx cs 417 53 ((4, .int (Int32.ofNat 3 + 6)) :: [(3, .ref 196), (2, .ref 157), (1, .ref 0), (0, .retAddr 0)]) [] H2 (k + 0 + 0) (n + 0 + 0) := by
  obtain ⟨H1, e1, f1⟩ := px_describe (sL := 9) (sx := sx) (cs := cs)  P dm
  have P1 := P.2.keep (fun j a _ => f1 j a)
  obtain ⟨H2, e2⟩ := pm_describe (sL := 9) (sx := sx) (cs := cs)  P1 dm
  exact ⟨H2, lc_3 (j := 3) (by decide) (by decide) (p1_c0 P) (p1_c157 P1) e1 e2 hc⟩

theorem p1_q4 (P : p1_P v3 h b H) (dm : p1_D v3 h b) (hc : sx 3 &&& 63 = 4) : ∃ H2 : am_H, aX 9 sx cs 417 70 ((4, .int (Int32.ofNat 3)) :: [(3, .ref 196), (2, .ref 157), (1, .ref 0), (0, .retAddr 0)]) [.int (sx 3 &&& 63)] H k n = aX 9 sx cs 417 53 ((4, .int (Int32.ofNat 3 + 6)) :: [(3, .ref 196), (2, .ref 157), (1, .ref 0), (0, .retAddr 0)]) [] H2 (k + 0 + 0) (n + 0 + 0) := by
  obtain ⟨H1, e1, f1⟩ := px_fault (sL := 9) (sx := sx) (cs := cs) (x0 := sx (3 + 1)) P dm
  have P1 := P.2.keep (fun j a _ => f1 j a)
  obtain ⟨H2, e2⟩ := pm_fault (sL := 9) (sx := sx) (cs := cs) (x0 := sx (3 + 1)) P1 dm
  exact ⟨H2, lc_4 (j := 3) (by decide) (by decide) (p1_c0 P) (p1_c157 P1) e1 e2 hc⟩

theorem p1_q5 (P : p1_P v3 h b H) (dm : p1_D v3 h b) (hc : sx 3 &&& 63 = 5) : ∃ H2 : am_H, aX 9 sx cs 417 70 ((4, .int (Int32.ofNat 3)) :: [(3, .ref 196), (2, .ref 157), (1, .ref 0), (0, .retAddr 0)]) [.int (sx 3 &&& 63)] H k n = aX 9 sx cs 417 53 ((4, .int (Int32.ofNat 3 + 6)) :: [(3, .ref 196), (2, .ref 157), (1, .ref 0), (0, .retAddr 0)]) [] H2 (k + 0 + 0) (n + 0 + 0) := by
  obtain ⟨H1, e1, f1⟩ := px_use (sL := 9) (sx := sx) (cs := cs)  P dm
  have P1 := P.2.keep (fun j a _ => f1 j a)
  obtain ⟨H2, e2⟩ := pm_use (sL := 9) (sx := sx) (cs := cs)  P1 dm
  exact ⟨H2, lc_5 (j := 3) (by decide) (by decide) (p1_c0 P) (p1_c157 P1) e1 e2 hc⟩

theorem p1_q6 (P : p1_P v3 h b H) (dm : p1_D v3 h b) (hc : sx 3 &&& 63 = 6) : ∃ H2 : am_H, aX 9 sx cs 417 70 ((4, .int (Int32.ofNat 3)) :: [(3, .ref 196), (2, .ref 157), (1, .ref 0), (0, .retAddr 0)]) [.int (sx 3 &&& 63)] H k n = aX 9 sx cs 417 53 ((4, .int (Int32.ofNat 3 + 6)) :: [(3, .ref 196), (2, .ref 157), (1, .ref 0), (0, .retAddr 0)]) [] H2 (k + 0 + 0) (n + 0 + 0) := by
  obtain ⟨H1, e1, f1⟩ := px_empty (sL := 9) (sx := sx) (cs := cs)  P dm
  have P1 := P.2.keep (fun j a _ => f1 j a)
  obtain ⟨H2, e2⟩ := pm_empty (sL := 9) (sx := sx) (cs := cs)  P1 dm
  exact ⟨H2, lc_6 (j := 3) (by decide) (by decide) (p1_c0 P) (p1_c157 P1) e1 e2 hc⟩

theorem p1_q7 (P : p1_P v3 h b H) (dm : p1_D v3 h b) (hc : sx 3 &&& 63 = 7) : ∃ H2 : am_H, aX 9 sx cs 417 70 ((4, .int (Int32.ofNat 3)) :: [(3, .ref 196), (2, .ref 157), (1, .ref 0), (0, .retAddr 0)]) [.int (sx 3 &&& 63)] H k n = aX 9 sx cs 417 53 ((4, .int (Int32.ofNat 3 + 6)) :: [(3, .ref 196), (2, .ref 157), (1, .ref 0), (0, .retAddr 0)]) [] H2 (k + 0 + 0) (n + 0 + 0) := by
  obtain ⟨H1, e1, f1⟩ := px_ability (sL := 9) (sx := sx) (cs := cs)  P dm
  have P1 := P.2.keep (fun j a _ => f1 j a)
  obtain ⟨H2, e2⟩ := pm_ability (sL := 9) (sx := sx) (cs := cs)  P1 dm
  exact ⟨H2, lc_7 (j := 3) (by decide) (by decide) (p1_c0 P) (p1_c157 P1) e1 e2 hc⟩

theorem p1_q8 (P : p1_P v3 h b H) (dm : p1_D v3 h b) (hc : sx 3 &&& 63 = 8) : ∃ H2 : am_H, aX 9 sx cs 417 70 ((4, .int (Int32.ofNat 3)) :: [(3, .ref 196), (2, .ref 157), (1, .ref 0), (0, .retAddr 0)]) [.int (sx 3 &&& 63)] H k n = aX 9 sx cs 417 53 ((4, .int (Int32.ofNat 3 + 6)) :: [(3, .ref 196), (2, .ref 157), (1, .ref 0), (0, .retAddr 0)]) [] H2 (k + 0 + 0) (n + 0 + 0) := by
  obtain ⟨H1, e1, f1⟩ := px_expand (sL := 9) (sx := sx) (cs := cs) (x0 := sx (3 + 1)) (x1 := sx (3 + 2)) (x2 := sx (3 + 3)) (x3 := sx (3 + 4)) P dm
  have P1 := P.2.keep (fun j a _ => f1 j a)
  obtain ⟨H2, e2⟩ := pm_expand (sL := 9) (sx := sx) (cs := cs) (x0 := sx (3 + 1)) (x1 := sx (3 + 2)) (x2 := sx (3 + 3)) (x3 := sx (3 + 4)) P1 dm
  exact ⟨H2, lc_8 (j := 3) (by decide) (by decide) (p1_c0 P) (p1_c157 P1) e1 e2 hc⟩

theorem p1_q9 (P : p1_P v3 h b H) (dm : p1_D v3 h b) (hc : sx 3 &&& 63 = 9) : ∃ H2 : am_H, aX 9 sx cs 417 70 ((4, .int (Int32.ofNat 3)) :: [(3, .ref 196), (2, .ref 157), (1, .ref 0), (0, .retAddr 0)]) [.int (sx 3 &&& 63)] H k n = aX 9 sx cs 417 53 ((4, .int (Int32.ofNat 3 + 6)) :: [(3, .ref 196), (2, .ref 157), (1, .ref 0), (0, .retAddr 0)]) [] H2 (k + 0 + 0) (n + 0 + 0) := by
  obtain ⟨H1, e1, f1⟩ := px_open (sL := 9) (sx := sx) (cs := cs) (x0 := sx (3 + 1)) (x1 := sx (3 + 2)) (x2 := sx (3 + 3)) (x3 := sx (3 + 4)) P dm
  have P1 := P.2.keep (fun j a _ => f1 j a)
  obtain ⟨H2, e2⟩ := pm_open (sL := 9) (sx := sx) (cs := cs) (x0 := sx (3 + 1)) (x1 := sx (3 + 2)) (x2 := sx (3 + 3)) (x3 := sx (3 + 4)) P1 dm
  exact ⟨H2, lc_9 (j := 3) (by decide) (by decide) (p1_c0 P) (p1_c157 P1) e1 e2 hc⟩

theorem p1_q10 (P : p1_P v3 h b H) (dm : p1_D v3 h b) (hc : sx 3 &&& 63 = 10) : ∃ H2 : am_H, aX 9 sx cs 417 70 ((4, .int (Int32.ofNat 3)) :: [(3, .ref 196), (2, .ref 157), (1, .ref 0), (0, .retAddr 0)]) [.int (sx 3 &&& 63)] H k n = aX 9 sx cs 417 53 ((4, .int (Int32.ofNat 3 + 6)) :: [(3, .ref 196), (2, .ref 157), (1, .ref 0), (0, .retAddr 0)]) [] H2 (k + 0 + 0) (n + 0 + 0) := by
  obtain ⟨H1, e1, f1⟩ := px_close (sL := 9) (sx := sx) (cs := cs) (x0 := sx (3 + 1)) P dm
  have P1 := P.2.keep (fun j a _ => f1 j a)
  obtain ⟨H2, e2⟩ := pm_close (sL := 9) (sx := sx) (cs := cs) (x0 := sx (3 + 1)) P1 dm
  exact ⟨H2, lc_10 (j := 3) (by decide) (by decide) (p1_c0 P) (p1_c157 P1) e1 e2 hc⟩

theorem p1_q11 (P : p1_P v3 h b H) (dm : p1_D v3 h b) (hc : sx 3 &&& 63 = 11) : ∃ H2 : am_H, aX 9 sx cs 417 70 ((4, .int (Int32.ofNat 3)) :: [(3, .ref 196), (2, .ref 157), (1, .ref 0), (0, .retAddr 0)]) [.int (sx 3 &&& 63)] H k n = aX 9 sx cs 417 53 ((4, .int (Int32.ofNat 3 + 6)) :: [(3, .ref 196), (2, .ref 157), (1, .ref 0), (0, .retAddr 0)]) [] H2 (k + 0 + 0) (n + 0 + 0) := by
  obtain ⟨H1, e1, f1⟩ := px_at (sL := 9) (sx := sx) (cs := cs) (x0 := sx (3 + 1)) (x1 := sx (3 + 2)) (x2 := sx (3 + 3)) P dm
  have P1 := P.2.keep (fun j a _ => f1 j a)
  obtain ⟨H2, e2⟩ := pm_at (sL := 9) (sx := sx) (cs := cs) (x0 := sx (3 + 1)) (x1 := sx (3 + 2)) (x2 := sx (3 + 3)) P1 dm
  exact ⟨H2, lc_11 (j := 3) (by decide) (by decide) (p1_c0 P) (p1_c157 P1) e1 e2 hc⟩

theorem p1_q12 (P : p1_P v3 h b H) (dm : p1_D v3 h b) (hc : sx 3 &&& 63 = 12) : ∃ H2 : am_H, aX 9 sx cs 417 70 ((4, .int (Int32.ofNat 3)) :: [(3, .ref 196), (2, .ref 157), (1, .ref 0), (0, .retAddr 0)]) [.int (sx 3 &&& 63)] H k n = aX 9 sx cs 417 53 ((4, .int (Int32.ofNat 3 + 6)) :: [(3, .ref 196), (2, .ref 157), (1, .ref 0), (0, .retAddr 0)]) [] H2 (k + 0 + 0) (n + 0 + 0) := by
  obtain ⟨H1, e1, f1⟩ := px_dress (sL := 9) (sx := sx) (cs := cs) (x0 := sx (3 + 1)) (x1 := sx (3 + 2)) P dm
  have P1 := P.2.keep (fun j a _ => f1 j a)
  obtain ⟨H2, e2⟩ := pm_dress (sL := 9) (sx := sx) (cs := cs) (x0 := sx (3 + 1)) (x1 := sx (3 + 2)) P1 dm
  exact ⟨H2, lc_12 (j := 3) (by decide) (by decide) (p1_c0 P) (p1_c157 P1) e1 e2 hc⟩

theorem p1_q13 (P : p1_P v3 h b H) (dm : p1_D v3 h b) (hc : sx 3 &&& 63 = 13) : ∃ H2 : am_H, aX 9 sx cs 417 70 ((4, .int (Int32.ofNat 3)) :: [(3, .ref 196), (2, .ref 157), (1, .ref 0), (0, .retAddr 0)]) [.int (sx 3 &&& 63)] H k n = aX 9 sx cs 417 53 ((4, .int (Int32.ofNat 3 + 6)) :: [(3, .ref 196), (2, .ref 157), (1, .ref 0), (0, .retAddr 0)]) [] H2 (k + 0 + 0) (n + 0 + 0) := by
  obtain ⟨H1, e1, f1⟩ := px_scrolls (sL := 9) (sx := sx) (cs := cs) (x0 := sx (3 + 1)) (x1 := am_nz (sx (3 + 2))) P dm
  have P1 := P.2.keep (fun j a _ => f1 j a)
  obtain ⟨H2, e2⟩ := pm_scrolls (sL := 9) (sx := sx) (cs := cs) (x0 := sx (3 + 1)) (x1 := am_nz (sx (3 + 2))) P1 dm
  exact ⟨H2, lc_13 (j := 3) (by decide) (by decide) (p1_c0 P) (p1_c157 P1) e1 e2 hc⟩

theorem p1_q14 (P : p1_P v3 h b H) (dm : p1_D v3 h b) (hc : sx 3 &&& 63 = 14) : ∃ H2 : am_H, aX 9 sx cs 417 70 ((4, .int (Int32.ofNat 3)) :: [(3, .ref 196), (2, .ref 157), (1, .ref 0), (0, .retAddr 0)]) [.int (sx 3 &&& 63)] H k n = aX 9 sx cs 417 53 ((4, .int (Int32.ofNat 3 + 6)) :: [(3, .ref 196), (2, .ref 157), (1, .ref 0), (0, .retAddr 0)]) [] H2 (k + 0 + 0) (n + 0 + 0) := by
  obtain ⟨H1, e1, f1⟩ := px_say (sL := 9) (sx := sx) (cs := cs) (x0 := sx (3 + 1)) P dm
  have P1 := P.2.keep (fun j a _ => f1 j a)
  obtain ⟨H2, e2⟩ := pm_say (sL := 9) (sx := sx) (cs := cs) (x0 := sx (3 + 1)) P1 dm
  exact ⟨H2, lc_14 (j := 3) (by decide) (by decide) (p1_c0 P) (p1_c157 P1) e1 e2 hc⟩

theorem p1_q15 (P : p1_P v3 h b H) (dm : p1_D v3 h b) (hc : sx 3 &&& 63 = 15) : ∃ H2 : am_H, aX 9 sx cs 417 70 ((4, .int (Int32.ofNat 3)) :: [(3, .ref 196), (2, .ref 157), (1, .ref 0), (0, .retAddr 0)]) [.int (sx 3 &&& 63)] H k n = aX 9 sx cs 417 53 ((4, .int (Int32.ofNat 3 + 6)) :: [(3, .ref 196), (2, .ref 157), (1, .ref 0), (0, .retAddr 0)]) [] H2 (k + 0 + 0) (n + 0 + 0) := by
  obtain ⟨H1, e1, f1⟩ := px_erase (sL := 9) (sx := sx) (cs := cs) (x0 := sx (3 + 1)) (x1 := sx (3 + 2)) P dm
  have P1 := P.2.keep (fun j a _ => f1 j a)
  obtain ⟨H2, e2⟩ := pm_erase (sL := 9) (sx := sx) (cs := cs) (x0 := sx (3 + 1)) (x1 := sx (3 + 2)) P1 dm
  exact ⟨H2, lc_15 (j := 3) (by decide) (by decide) (p1_c0 P) (p1_c157 P1) e1 e2 hc⟩

theorem p1_q16 (P : p1_P v3 h b H) (dm : p1_D v3 h b) (hc : sx 3 &&& 63 = 16) : ∃ H2 : am_H, aX 9 sx cs 417 70 ((4, .int (Int32.ofNat 3)) :: [(3, .ref 196), (2, .ref 157), (1, .ref 0), (0, .retAddr 0)]) [.int (sx 3 &&& 63)] H k n = aX 9 sx cs 417 53 ((4, .int (Int32.ofNat 3 + 6)) :: [(3, .ref 196), (2, .ref 157), (1, .ref 0), (0, .retAddr 0)]) [] H2 (k + 0 + 0) (n + 0 + 0) := by
  obtain ⟨H1, e1, f1⟩ := px_rows (sL := 9) (sx := sx) (cs := cs) (x0 := sx (3 + 1)) (x1 := sx (3 + 2)) P dm
  have P1 := P.2.keep (fun j a _ => f1 j a)
  obtain ⟨H2, e2⟩ := pm_rows (sL := 9) (sx := sx) (cs := cs) (x0 := sx (3 + 1)) (x1 := sx (3 + 2)) P1 dm
  exact ⟨H2, lc_16 (j := 3) (by decide) (by decide) (p1_c0 P) (p1_c157 P1) e1 e2 hc⟩

theorem p1_q17 (P : p1_P v3 h b H) (dm : p1_D v3 h b) (hc : sx 3 &&& 63 = 17) : ∃ H2 : am_H, aX 9 sx cs 417 70 ((4, .int (Int32.ofNat 3)) :: [(3, .ref 196), (2, .ref 157), (1, .ref 0), (0, .retAddr 0)]) [.int (sx 3 &&& 63)] H k n = aX 9 sx cs 417 53 ((4, .int (Int32.ofNat 3 + 6)) :: [(3, .ref 196), (2, .ref 157), (1, .ref 0), (0, .retAddr 0)]) [] H2 (k + 0 + 0) (n + 0 + 0) := by
  obtain ⟨H1, e1, f1⟩ := px_cells (sL := 9) (sx := sx) (cs := cs) (x0 := sx (3 + 1)) (x1 := sx (3 + 2)) P dm
  have P1 := P.2.keep (fun j a _ => f1 j a)
  obtain ⟨H2, e2⟩ := pm_cells (sL := 9) (sx := sx) (cs := cs) (x0 := sx (3 + 1)) (x1 := sx (3 + 2)) P1 dm
  exact ⟨H2, lc_17 (j := 3) (by decide) (by decide) (p1_c0 P) (p1_c157 P1) e1 e2 hc⟩

theorem p1_q18 (P : p1_P v3 h b H) (dm : p1_D v3 h b) (hc : sx 3 &&& 63 = 18) : ∃ H2 : am_H, aX 9 sx cs 417 70 ((4, .int (Int32.ofNat 3)) :: [(3, .ref 196), (2, .ref 157), (1, .ref 0), (0, .retAddr 0)]) [.int (sx 3 &&& 63)] H k n = aX 9 sx cs 417 53 ((4, .int (Int32.ofNat 3 + 6)) :: [(3, .ref 196), (2, .ref 157), (1, .ref 0), (0, .retAddr 0)]) [] H2 (k + 0 + 0) (n + 0 + 0) := by
  obtain ⟨H1, e1, f1⟩ := px_roll (sL := 9) (sx := sx) (cs := cs) (x0 := sx (3 + 1)) (x1 := sx (3 + 2)) P dm
  have P1 := P.2.keep (fun j a _ => f1 j a)
  obtain ⟨H2, e2⟩ := pm_roll (sL := 9) (sx := sx) (cs := cs) (x0 := sx (3 + 1)) (x1 := sx (3 + 2)) P1 dm
  exact ⟨H2, lc_18 (j := 3) (by decide) (by decide) (p1_c0 P) (p1_c157 P1) e1 e2 hc⟩

theorem p1_q19 (P : p1_P v3 h b H) (dm : p1_D v3 h b) (hc : sx 3 &&& 63 = 19) : ∃ H2 : am_H, aX 9 sx cs 417 70 ((4, .int (Int32.ofNat 3)) :: [(3, .ref 196), (2, .ref 157), (1, .ref 0), (0, .retAddr 0)]) [.int (sx 3 &&& 63)] H k n = aX 9 sx cs 417 53 ((4, .int (Int32.ofNat 3 + 6)) :: [(3, .ref 196), (2, .ref 157), (1, .ref 0), (0, .retAddr 0)]) [] H2 (k + 0 + 0) (n + 0 + 0) := by
  obtain ⟨H1, e1, f1⟩ := px_box (sL := 9) (sx := sx) (cs := cs) (x0 := sx (3 + 1)) P dm
  have P1 := P.2.keep (fun j a _ => f1 j a)
  obtain ⟨H2, e2⟩ := pm_box (sL := 9) (sx := sx) (cs := cs) (x0 := sx (3 + 1)) P1 dm
  exact ⟨H2, lc_19 (j := 3) (by decide) (by decide) (p1_c0 P) (p1_c157 P1) e1 e2 hc⟩

theorem p1_q20 (P : p1_P v3 h b H) (dm : p1_D v3 h b) (hc : sx 3 &&& 63 = 20) : ∃ H2 : am_H, aX 9 sx cs 417 70 ((4, .int (Int32.ofNat 3)) :: [(3, .ref 196), (2, .ref 157), (1, .ref 0), (0, .retAddr 0)]) [.int (sx 3 &&& 63)] H k n = aX 9 sx cs 417 53 ((4, .int (Int32.ofNat 3 + 6)) :: [(3, .ref 196), (2, .ref 157), (1, .ref 0), (0, .retAddr 0)]) [] H2 (k + 0 + 0) (n + 0 + 0) := by
  obtain ⟨H1, e1, f1⟩ := px_look (sL := 9) (sx := sx) (cs := cs) (x0 := sx (3 + 1)) (x1 := sx (3 + 2)) (x2 := sx (3 + 3)) P dm
  have P1 := P.2.keep (fun j a _ => f1 j a)
  obtain ⟨H2, e2⟩ := pm_look (sL := 9) (sx := sx) (cs := cs) (x0 := sx (3 + 1)) (x1 := sx (3 + 2)) (x2 := sx (3 + 3)) P1 dm
  exact ⟨H2, lc_20 (j := 3) (by decide) (by decide) (p1_c0 P) (p1_c157 P1) e1 e2 hc⟩

theorem p1_q21 (P : p1_P v3 h b H) (dm : p1_D v3 h b) (hc : sx 3 &&& 63 = 21) : ∃ H2 : am_H, aX 9 sx cs 417 70 ((4, .int (Int32.ofNat 3)) :: [(3, .ref 196), (2, .ref 157), (1, .ref 0), (0, .retAddr 0)]) [.int (sx 3 &&& 63)] H k n = aX 9 sx cs 417 53 ((4, .int (Int32.ofNat 3 + 6)) :: [(3, .ref 196), (2, .ref 157), (1, .ref 0), (0, .retAddr 0)]) [] H2 (k + 0 + 0) (n + 0 + 0) := by
  obtain ⟨H1, e1, f1⟩ := px_where (sL := 9) (sx := sx) (cs := cs) (x0 := sx (3 + 1)) (x1 := sx (3 + 2)) P dm
  have P1 := P.2.keep (fun j a _ => f1 j a)
  obtain ⟨H2, e2⟩ := pm_where (sL := 9) (sx := sx) (cs := cs) (x0 := sx (3 + 1)) (x1 := sx (3 + 2)) P1 dm
  exact ⟨H2, lc_21 (j := 3) (by decide) (by decide) (p1_c0 P) (p1_c157 P1) e1 e2 hc⟩

theorem p1_q22 (P : p1_P v3 h b H) (dm : p1_D v3 h b) (hc : sx 3 &&& 63 = 22) : ∃ H2 : am_H, aX 9 sx cs 417 70 ((4, .int (Int32.ofNat 3)) :: [(3, .ref 196), (2, .ref 157), (1, .ref 0), (0, .retAddr 0)]) [.int (sx 3 &&& 63)] H k n = aX 9 sx cs 417 53 ((4, .int (Int32.ofNat 3 + 6)) :: [(3, .ref 196), (2, .ref 157), (1, .ref 0), (0, .retAddr 0)]) [] H2 (k + 0 + 0) (n + 0 + 0) := by
  obtain ⟨H1, e1, f1⟩ := px_show (sL := 9) (sx := sx) (cs := cs) (x0 := sx (3 + 1)) P dm
  have P1 := P.2.keep (fun j a _ => f1 j a)
  obtain ⟨H2, e2⟩ := pm_show (sL := 9) (sx := sx) (cs := cs) (x0 := sx (3 + 1)) P1 dm
  exact ⟨H2, lc_22 (j := 3) (by decide) (by decide) (p1_c0 P) (p1_c157 P1) e1 e2 hc⟩

theorem p1_q23 (P : p1_P v3 h b H) (dm : p1_D v3 h b) (hc : sx 3 &&& 63 = 23) : ∃ H2 : am_H, aX 9 sx cs 417 70 ((4, .int (Int32.ofNat 3)) :: [(3, .ref 196), (2, .ref 157), (1, .ref 0), (0, .retAddr 0)]) [.int (sx 3 &&& 63)] H k n = aX 9 sx cs 417 53 ((4, .int (Int32.ofNat 3 + 6)) :: [(3, .ref 196), (2, .ref 157), (1, .ref 0), (0, .retAddr 0)]) [] H2 (k + 0 + 0) (n + 0 + 0) := by
  obtain ⟨H1, e1, f1⟩ := px_update (sL := 9) (sx := sx) (cs := cs)  P dm
  have P1 := P.2.keep (fun j a _ => f1 j a)
  obtain ⟨H2, e2⟩ := pm_update (sL := 9) (sx := sx) (cs := cs)  P1 dm
  exact ⟨H2, lc_23 (j := 3) (by decide) (by decide) (p1_c0 P) (p1_c157 P1) e1 e2 hc⟩

theorem p1_q24 (P : p1_P v3 h b H) (dm : p1_D v3 h b) (hc : sx 3 &&& 63 = 24) : ∃ H2 : am_H, aX 9 sx cs 417 70 ((4, .int (Int32.ofNat 3)) :: [(3, .ref 196), (2, .ref 157), (1, .ref 0), (0, .retAddr 0)]) [.int (sx 3 &&& 63)] H k n = aX 9 sx cs 417 53 ((4, .int (Int32.ofNat 3 + 6)) :: [(3, .ref 196), (2, .ref 157), (1, .ref 0), (0, .retAddr 0)]) [] H2 (k + 0 + 0) (n + 0 + 0) := by
  obtain ⟨H1, e1, f1⟩ := px_redraw (sL := 9) (sx := sx) (cs := cs)  P dm
  have P1 := P.2.keep (fun j a _ => f1 j a)
  obtain ⟨H2, e2⟩ := pm_redraw (sL := 9) (sx := sx) (cs := cs)  P1 dm
  exact ⟨H2, lc_24 (j := 3) (by decide) (by decide) (p1_c0 P) (p1_c157 P1) e1 e2 hc⟩

theorem p1_q25 (P : p1_P v3 h b H) (dm : p1_D v3 h b) (hc : sx 3 &&& 63 = 25) : ∃ H2 : am_H, aX 9 sx cs 417 70 ((4, .int (Int32.ofNat 3)) :: [(3, .ref 196), (2, .ref 157), (1, .ref 0), (0, .retAddr 0)]) [.int (sx 3 &&& 63)] H k n = aX 9 sx cs 417 53 ((4, .int (Int32.ofNat 3 + 6)) :: [(3, .ref 196), (2, .ref 157), (1, .ref 0), (0, .retAddr 0)]) [] H2 (k + 0 + 0) (n + 0 + 0) := by
  obtain ⟨H1, e1, f1⟩ := px_known (sL := 9) (sx := sx) (cs := cs) (x0 := sx (3 + 1)) (x1 := sx (3 + 2)) P dm
  have P1 := P.2.keep (fun j a _ => f1 j a)
  obtain ⟨H2, e2⟩ := pm_known (sL := 9) (sx := sx) (cs := cs) (x0 := sx (3 + 1)) (x1 := sx (3 + 2)) P1 dm
  exact ⟨H2, lc_25 (j := 3) (by decide) (by decide) (p1_c0 P) (p1_c157 P1) e1 e2 hc⟩

theorem p1_q26 (P : p1_P v3 h b H) (dm : p1_D v3 h b) (hc : sx 3 &&& 63 = 26) : ∃ H2 : am_H, aX 9 sx cs 417 70 ((4, .int (Int32.ofNat 3)) :: [(3, .ref 196), (2, .ref 157), (1, .ref 0), (0, .retAddr 0)]) [.int (sx 3 &&& 63)] H k n = aX 9 sx cs 417 53 ((4, .int (Int32.ofNat 3 + 6)) :: [(3, .ref 196), (2, .ref 157), (1, .ref 0), (0, .retAddr 0)]) [] H2 (k + 0 + 0) (n + 0 + 0) := by
  obtain ⟨H1, e1, f1⟩ := px_wanted (sL := 9) (sx := sx) (cs := cs) (x0 := sx (3 + 1)) (x1 := sx (3 + 2)) P dm
  have P1 := P.2.keep (fun j a _ => f1 j a)
  obtain ⟨H2, e2⟩ := pm_wanted (sL := 9) (sx := sx) (cs := cs) (x0 := sx (3 + 1)) (x1 := sx (3 + 2)) P1 dm
  exact ⟨H2, lc_26 (j := 3) (by decide) (by decide) (p1_c0 P) (p1_c157 P1) e1 e2 hc⟩

theorem p1_q27 (P : p1_P v3 h b H) (dm : p1_D v3 h b) (hc : sx 3 &&& 63 = 27) : ∃ H2 : am_H, aX 9 sx cs 417 70 ((4, .int (Int32.ofNat 3)) :: [(3, .ref 196), (2, .ref 157), (1, .ref 0), (0, .retAddr 0)]) [.int (sx 3 &&& 63)] H k n = aX 9 sx cs 417 53 ((4, .int (Int32.ofNat 3 + 6)) :: [(3, .ref 196), (2, .ref 157), (1, .ref 0), (0, .retAddr 0)]) [] H2 (k + 0 + 0) (n + 0 + 0) := by
  obtain ⟨H1, e1, f1⟩ := px_flags (sL := 9) (sx := sx) (cs := cs) (x0 := sx (3 + 1)) P dm
  have P1 := P.2.keep (fun j a _ => f1 j a)
  obtain ⟨H2, e2⟩ := pm_flags (sL := 9) (sx := sx) (cs := cs) (x0 := sx (3 + 1)) P1 dm
  exact ⟨H2, lc_27 (j := 3) (by decide) (by decide) (p1_c0 P) (p1_c157 P1) e1 e2 hc⟩

theorem p1_q28 (P : p1_P v3 h b H) (dm : p1_D v3 h b) (hc : sx 3 &&& 63 = 28) : ∃ H2 : am_H, aX 9 sx cs 417 70 ((4, .int (Int32.ofNat 3)) :: [(3, .ref 196), (2, .ref 157), (1, .ref 0), (0, .retAddr 0)]) [.int (sx 3 &&& 63)] H k n = aX 9 sx cs 417 53 ((4, .int (Int32.ofNat 3 + 6)) :: [(3, .ref 196), (2, .ref 157), (1, .ref 0), (0, .retAddr 0)]) [] H2 (k + 0 + 0) (n + 0 + 0) := by
  obtain ⟨H1, e1, f1⟩ := px_write (sL := 9) (sx := sx) (cs := cs)  P dm
  have P1 := P.2.keep (fun j a _ => f1 j a)
  obtain ⟨H2, e2⟩ := pm_write (sL := 9) (sx := sx) (cs := cs)  P1 dm
  exact ⟨H2, lc_28 (j := 3) (by decide) (by decide) (p1_c0 P) (p1_c157 P1) e1 e2 hc⟩

theorem p1_q29 (P : p1_P v3 h b H) (dm : p1_D v3 h b) (hc : sx 3 &&& 63 = 29) : ∃ H2 : am_H, aX 9 sx cs 417 70 ((4, .int (Int32.ofNat 3)) :: [(3, .ref 196), (2, .ref 157), (1, .ref 0), (0, .retAddr 0)]) [.int (sx 3 &&& 63)] H k n = aX 9 sx cs 417 53 ((4, .int (Int32.ofNat 3 + 6)) :: [(3, .ref 196), (2, .ref 157), (1, .ref 0), (0, .retAddr 0)]) [] H2 (k + 0 + 0) (n + 0 + 0) := by
  obtain ⟨H1, e1, f1⟩ := px_read (sL := 9) (sx := sx) (cs := cs) (x0 := sx (3 + 1)) P dm
  have P1 := P.2.keep (fun j a _ => f1 j a)
  obtain ⟨H2, e2⟩ := pm_read (sL := 9) (sx := sx) (cs := cs) (x0 := sx (3 + 1)) P1 dm
  exact ⟨H2, lc_29 (j := 3) (by decide) (by decide) (p1_c0 P) (p1_c157 P1) e1 e2 hc⟩

theorem p1_q30 (P : p1_P v3 h b H) (dm : p1_D v3 h b) (hc : sx 3 &&& 63 = 30) : ∃ H2 : am_H, aX 9 sx cs 417 70 ((4, .int (Int32.ofNat 3)) :: [(3, .ref 196), (2, .ref 157), (1, .ref 0), (0, .retAddr 0)]) [.int (sx 3 &&& 63)] H k n = aX 9 sx cs 417 53 ((4, .int (Int32.ofNat 3 + 6)) :: [(3, .ref 196), (2, .ref 157), (1, .ref 0), (0, .retAddr 0)]) [] H2 (k + 0 + 0) (n + 0 + 0) := by
  obtain ⟨H1, e1, f1⟩ := px_key (sL := 9) (sx := sx) (cs := cs) (x0 := sx (3 + 1)) (x1 := am_nz (sx (3 + 2))) P dm
  have P1 := P.2.keep (fun j a _ => f1 j a)
  obtain ⟨H2, e2⟩ := pm_key (sL := 9) (sx := sx) (cs := cs) (x0 := sx (3 + 1)) (x1 := am_nz (sx (3 + 2))) P1 dm
  exact ⟨H2, lc_30 (j := 3) (by decide) (by decide) (p1_c0 P) (p1_c157 P1) e1 e2 hc⟩

theorem p1_q31 (P : p1_P v3 h b H) (dm : p1_D v3 h b) (hc : sx 3 &&& 63 = 31) : ∃ H2 : am_H, aX 9 sx cs 417 70 ((4, .int (Int32.ofNat 3)) :: [(3, .ref 196), (2, .ref 157), (1, .ref 0), (0, .retAddr 0)]) [.int (sx 3 &&& 63)] H k n = aX 9 sx cs 417 53 ((4, .int (Int32.ofNat 3 + 6)) :: [(3, .ref 196), (2, .ref 157), (1, .ref 0), (0, .retAddr 0)]) [] H2 (k + 0 + 0) (n + 0 + 0) := by
  obtain ⟨H1, e1, f1⟩ := px_spoil (sL := 9) (sx := sx) (cs := cs) (x0 := sx (3 + 1)) P dm
  have P1 := P.2.keep (fun j a _ => f1 j a)
  obtain ⟨H2, e2⟩ := pm_spoil (sL := 9) (sx := sx) (cs := cs) (x0 := sx (3 + 1)) P1 dm
  exact ⟨H2, lc_31 (j := 3) (by decide) (by decide) (p1_c0 P) (p1_c157 P1) e1 e2 hc⟩

theorem p1_q32 (P : p1_P v3 h b H) (dm : p1_D v3 h b) (hc : sx 3 &&& 63 = 32) : ∃ H2 : am_H, aX 9 sx cs 417 70 ((4, .int (Int32.ofNat 3)) :: [(3, .ref 196), (2, .ref 157), (1, .ref 0), (0, .retAddr 0)]) [.int (sx 3 &&& 63)] H k n = aX 9 sx cs 417 53 ((4, .int (Int32.ofNat 3 + 6)) :: [(3, .ref 196), (2, .ref 157), (1, .ref 0), (0, .retAddr 0)]) [] H2 (k + 0 + 0) (n + 0 + 0) := by
  obtain ⟨H1, e1, f1⟩ := px_ticks (sL := 9) (sx := sx) (cs := cs) (x0 := sx (3 + 1)) P dm
  have P1 := P.2.keep (fun j a _ => f1 j a)
  obtain ⟨H2, e2⟩ := pm_ticks (sL := 9) (sx := sx) (cs := cs) (x0 := sx (3 + 1)) P1 dm
  exact ⟨H2, lc_32 (j := 3) (by decide) (by decide) (p1_c0 P) (p1_c157 P1) e1 e2 hc⟩

theorem p1_q33 (P : p1_P v3 h b H) (dm : p1_D v3 h b) (hc : sx 3 &&& 63 = 33) : ∃ H2 : am_H, aX 9 sx cs 417 70 ((4, .int (Int32.ofNat 3)) :: [(3, .ref 196), (2, .ref 157), (1, .ref 0), (0, .retAddr 0)]) [.int (sx 3 &&& 63)] H k n = aX 9 sx cs 417 53 ((4, .int (Int32.ofNat 3 + 6)) :: [(3, .ref 196), (2, .ref 157), (1, .ref 0), (0, .retAddr 0)]) [] H2 (k + 0 + 0) (n + 0 + 0) := by
  obtain ⟨H1, e1, f1⟩ := px_screen (sL := 9) (sx := sx) (cs := cs) (x0 := sx (3 + 1)) (x1 := sx (3 + 2)) P dm
  have P1 := P.2.keep (fun j a _ => f1 j a)
  obtain ⟨H2, e2⟩ := pm_screen (sL := 9) (sx := sx) (cs := cs) (x0 := sx (3 + 1)) (x1 := sx (3 + 2)) P1 dm
  exact ⟨H2, lc_33 (j := 3) (by decide) (by decide) (p1_c0 P) (p1_c157 P1) e1 e2 hc⟩

theorem p1_q34 (P : p1_P v3 h b H) (dm : p1_D v3 h b) (hc : sx 3 &&& 63 = 34) : ∃ H2 : am_H, aX 9 sx cs 417 70 ((4, .int (Int32.ofNat 3)) :: [(3, .ref 196), (2, .ref 157), (1, .ref 0), (0, .retAddr 0)]) [.int (sx 3 &&& 63)] H k n = aX 9 sx cs 417 53 ((4, .int (Int32.ofNat 3 + 6)) :: [(3, .ref 196), (2, .ref 157), (1, .ref 0), (0, .retAddr 0)]) [] H2 (k + 0 + 0) (n + 0 + 0) := by
  obtain ⟨H1, e1, f1⟩ := px_width (sL := 9) (sx := sx) (cs := cs) (x0 := sx (3 + 1)) P dm
  have P1 := P.2.keep (fun j a _ => f1 j a)
  obtain ⟨H2, e2⟩ := pm_width (sL := 9) (sx := sx) (cs := cs) (x0 := sx (3 + 1)) P1 dm
  exact ⟨H2, lc_34 (j := 3) (by decide) (by decide) (p1_c0 P) (p1_c157 P1) e1 e2 hc⟩

theorem p1_q35 (P : p1_P v3 h b H) (dm : p1_D v3 h b) (hc : sx 3 &&& 63 = 35) : ∃ H2 : am_H, aX 9 sx cs 417 70 ((4, .int (Int32.ofNat 3)) :: [(3, .ref 196), (2, .ref 157), (1, .ref 0), (0, .retAddr 0)]) [.int (sx 3 &&& 63)] H k n = aX 9 sx cs 417 53 ((4, .int (Int32.ofNat 3 + 6)) :: [(3, .ref 196), (2, .ref 157), (1, .ref 0), (0, .retAddr 0)]) [] H2 (k + 0 + 0) (n + 0 + 0) := by
  obtain ⟨H1, e1, f1⟩ := px_state (sL := 9) (sx := sx) (cs := cs) (x0 := sx (3 + 1)) P dm
  have P1 := P.2.keep (fun j a _ => f1 j a)
  obtain ⟨H2, e2⟩ := pm_state (sL := 9) (sx := sx) (cs := cs) (x0 := sx (3 + 1)) P1 dm
  exact ⟨H2, lc_35 (j := 3) (by decide) (by decide) (p1_c0 P) (p1_c157 P1) e1 e2 hc⟩

theorem p1_q36 (P : p1_P v3 h b H) (dm : p1_D v3 h b) (hc : sx 3 &&& 63 = 36) : ∃ H2 : am_H, aX 9 sx cs 417 70 ((4, .int (Int32.ofNat 3)) :: [(3, .ref 196), (2, .ref 157), (1, .ref 0), (0, .retAddr 0)]) [.int (sx 3 &&& 63)] H k n = aX 9 sx cs 417 53 ((4, .int (Int32.ofNat 3 + 6)) :: [(3, .ref 196), (2, .ref 157), (1, .ref 0), (0, .retAddr 0)]) [] H2 (k + 0 + 0) (n + 0 + 0) := by
  obtain ⟨H1, e1, f1⟩ := px_count (sL := 9) (sx := sx) (cs := cs) (x0 := sx (3 + 1)) P dm
  have P1 := P.2.keep (fun j a _ => f1 j a)
  obtain ⟨H2, e2⟩ := pm_count (sL := 9) (sx := sx) (cs := cs) (x0 := sx (3 + 1)) P1 dm
  exact ⟨H2, lc_36 (j := 3) (by decide) (by decide) (p1_c0 P) (p1_c157 P1) e1 e2 hc⟩

theorem p1_q37 (P : p1_P v3 h b H) (dm : p1_D v3 h b) (hc : sx 3 &&& 63 = 37) : ∃ H2 : am_H, aX 9 sx cs 417 70 ((4, .int (Int32.ofNat 3)) :: [(3, .ref 196), (2, .ref 157), (1, .ref 0), (0, .retAddr 0)]) [.int (sx 3 &&& 63)] H k n = aX 9 sx cs 417 53 ((4, .int (Int32.ofNat 3 + 6)) :: [(3, .ref 196), (2, .ref 157), (1, .ref 0), (0, .retAddr 0)]) [] H2 (k + 0 + 0) (n + 0 + 0) := by
  obtain ⟨H1, e1, f1⟩ := px_stop (sL := 9) (sx := sx) (cs := cs) (x0 := sx (3 + 1)) (x1 := sx (3 + 2)) P dm
  have P1 := P.2.keep (fun j a _ => f1 j a)
  obtain ⟨H2, e2⟩ := pm_stop (sL := 9) (sx := sx) (cs := cs) (x0 := sx (3 + 1)) (x1 := sx (3 + 2)) P1 dm
  exact ⟨H2, lc_37 (j := 3) (by decide) (by decide) (p1_c0 P) (p1_c157 P1) e1 e2 hc⟩

theorem st_octt {sL : Nat} {sx : Nat → Int32} {y pc : Nat} {ls : am_L} {st : List Value} {o w oa m m1 : Nat} {vs : List Value} {f : Nat → Int64} {g : Nat → Int32} {i wr : Int32} (hI : am_co y pc = some (.invokestatic 37, .null, 1008, 2, false, [])) (ho : H[o]? = some (.inr (11, vs))) (hw : H[w]? = some (.inl (.long, (m, .inr (.inl f))))) (h2 : vs[2]? = some (.ref oa)) (h3 : vs[3]? = some (.int wr)) (hoa : H[oa]? = some (.inl (.int, (m1, .inl g)))) (hs : am_sum st ≤ 8) (hm : 0 < m) (c : i < 0 ∨ wr ≤ i) :
    aX sL sx cs y pc ls (.ref w :: .int i :: .ref o :: st) H k n = aX sL sx cs y (pc + 3) ls (.int 1 :: st) (H ++ [.inr (13, [])]) (k + 1) (n + 6) :=
  st_1 (u := (pc + 3, ls, .int 1 :: st, H ++ [.inr (13, [])], k + 1, n + 6)) hI rfl (by
    simp only [am_s, ho, hw, h2, h3, hoa]
    first
      | rw [if_pos ⟨by decide, by decide, hs, hm⟩, if_pos c]
      | rw [if_pos ⟨trivial, trivial, hs, hm⟩, if_pos c]
      | rw [if_pos ⟨hs, hm⟩, if_pos c]
      | simp [hs, hm, c])
set_option maxRecDepth 100000 in
theorem p1_q2 (P : p1_P v3 h b H) (hl : H.length = 197) (h196 : am_is H 196 (.inl (.long, am_z0 .long 1))) (hc : sx 3 &&& 63 = 2) : ∃ H2 : am_H, aX 9 sx cs 417 70 ((4, .int (Int32.ofNat 3)) :: [(3, .ref 196), (2, .ref 157), (1, .ref 0), (0, .retAddr 0)]) [.int (sx 3 &&& 63)] H k n = aX 9 sx cs 417 53 ((4, .int (Int32.ofNat 3 + 6)) :: (6, .int 0) :: (5, .int 1) :: [(3, .ref 196), (2, .ref 157), (1, .ref 0), (0, .retAddr 0)]) [] H2 (k + 1 + 0 + 0) (n + 6 + 0 + 0) := by
  rw [hc]
  have ka : ∀ j : Nat, j < 197 → (H ++ [(.inr (13, []) : am_C)])[j]? = H[j]? := fun j hj => List.getElem?_append_left (by omega)
  have P1 : p1_Pm v3 h b (H ++ [(.inr (13, []) : am_C)]) := P.2.keep (fun j a c => ka j (by omega))
  have key : am_E 9 sx cs 263 0 [(0, .ref 157), (1, .int (sx (3 + 1)))] [] (H ++ [(.inr (13, []) : am_C)]) (some (.int 0)) (fun H1 => ∃ vs : List Value, am_is H1 157 (.inr (12, vs)) ∧ vs[0]? = some (.int 1)) := by
    by_cases c1 : sx (3 + 1) < 0
    · exact (fm_octet_0 (p1_c157 P1) c1).mono (fun H1 z => ⟨_, z.1.1, rfl⟩)
    · exact (fm_octet_1 (p1_c157 P1) c1).mono (fun H1 z => ⟨_, z.1.1, rfl⟩)
  obtain ⟨H1, e1, vs, f1, v0⟩ := key
  have e2 : aX 9 sx cs 260 0 [(0, .ref 157)] [] H1 0 0 = some (some (.int 1), H1, 0, 0) := by
    refine (am_nb (m := 1) (pc1 := 1) (ls1 := [(0, .ref 157)]) (st1 := [.ref 157]) (H1 := H1) (k1 := 0) (n1 := 0) (by with_unfolding_all rfl)).trans ?_
    refine (st_get rfl f1 v0).trans ?_
    exact st_iret rfl rfl rfl
  refine ⟨H1, ?_⟩
  refine (st_tsw rfl).trans ?_
  refine (st_pc (pc2 := 334) (by decide +kernel)).trans ?_
  refine (am_nb (m := 5) (pc1 := 340) (ls1 := ((4, .int (Int32.ofNat 3)) :: [(3, .ref 196), (2, .ref 157), (1, .ref 0), (0, .retAddr 0)])) (st1 := [.int (Int32.ofNat 3 + 1), .retAddr 0, .ref 0]) (H1 := H) (k1 := k) (n1 := n) (by with_unfolding_all rfl)).trans ?_
  refine (st_sc (j := 3) (d := 1) rfl (by decide) (by decide)).trans ?_
  refine (am_nb (m := 1) (pc1 := 342) (ls1 := ((4, .int (Int32.ofNat 3)) :: [(3, .ref 196), (2, .ref 157), (1, .ref 0), (0, .retAddr 0)])) (st1 := [.ref 196, .int (sx (3 + 1)), .ref 0]) (H1 := H) (k1 := k) (n1 := n) (by with_unfolding_all rfl)).trans ?_
  refine (st_octt rfl (p1_c0 P) h196 rfl rfl (p1_c2 P) (by decide) (by decide) (by rcases Int32.lt_or_le (sx (3 + 1)) 0 with q | q; exact Or.inl q; exact Or.inr q)).trans ?_
  refine (am_nb (m := 6) (pc1 := 353) (ls1 := ((5, .int 1) :: (4, .int (Int32.ofNat 3)) :: [(3, .ref 196), (2, .ref 157), (1, .ref 0), (0, .retAddr 0)])) (st1 := [.int (Int32.ofNat 3 + 1), .retAddr 0, .ref 157]) (H1 := H ++ [.inr (13, [])]) (k1 := k + 1) (n1 := n + 6) (by with_unfolding_all rfl)).trans ?_
  refine (st_sc (j := 3) (d := 1) rfl (by decide) (by decide)).trans ?_
  refine (st_cv1 (as := [.int (sx (3 + 1))]) (rest := []) rfl rfl rfl rfl (p1_c157 P1) rfl (by with_unfolding_all rfl) (by with_unfolding_all rfl) e1).trans ?_
  refine (am_nb (m := 2) (pc1 := 360) (ls1 := ((6, .int 0) :: (5, .int 1) :: (4, .int (Int32.ofNat 3)) :: [(3, .ref 196), (2, .ref 157), (1, .ref 0), (0, .retAddr 0)])) (st1 := [.ref 157]) (H1 := H1) (k1 := k + 1 + 0) (n1 := n + 6 + 0) (by with_unfolding_all rfl)).trans ?_
  refine (st_cv1 (as := []) (rest := []) rfl rfl rfl rfl f1 rfl (by with_unfolding_all rfl) (by with_unfolding_all rfl) e2).trans ?_
  refine (am_nb (m := 1) (pc1 := 365) (ls1 := ((6, .int 0) :: (5, .int 1) :: (4, .int (Int32.ofNat 3)) :: [(3, .ref 196), (2, .ref 157), (1, .ref 0), (0, .retAddr 0)])) (st1 := [.int 1, .int 1]) (H1 := H1) (k1 := k + 1 + 0 + 0) (n1 := n + 6 + 0 + 0) (by with_unfolding_all rfl)).trans ?_
  refine (st_icmp rfl).trans ?_
  refine (st_pc (pc2 := 370) (by decide +kernel)).trans ?_
  refine (am_nb (m := 1) (pc1 := 372) (ls1 := ((6, .int 0) :: (5, .int 1) :: (4, .int (Int32.ofNat 3)) :: [(3, .ref 196), (2, .ref 157), (1, .ref 0), (0, .retAddr 0)])) (st1 := [.int 1]) (H1 := H1) (k1 := k + 1 + 0 + 0) (n1 := n + 6 + 0 + 0) (by with_unfolding_all rfl)).trans ?_
  refine (st_if rfl).trans ?_
  refine (st_pc (pc2 := 387) (by decide +kernel)).trans ?_
  exact am_nb (m := 3) (by with_unfolding_all rfl)
theorem lw_exit2 {i : Int32} (c : Int32.ofNat 9 - 6 < i) : aX 9 sx cs 417 53 ((4, .int i) :: (6, .int 0) :: (5, .int 1) :: [(3, .ref 196), (2, .ref 157), (1, .ref 0), (0, .retAddr 0)]) [] H k n = some (some (.int 1), H, k, n) := by
  refine (am_nb (m := 5) (pc1 := 60) (ls1 := ((4, .int i) :: (6, .int 0) :: (5, .int 1) :: [(3, .ref 196), (2, .ref 157), (1, .ref 0), (0, .retAddr 0)])) (st1 := [.int (Int32.ofNat 9 - 6), .int i]) (H1 := H) (k1 := k) (n1 := n) (by with_unfolding_all rfl)).trans ?_
  refine (st_icmp rfl).trans ?_
  refine (st_pc (pc2 := 1481) (if_pos c)).trans ?_
  refine (am_nbl (m := 1) (pc1 := 1482) (ls1 := ((4, .int i) :: (6, .int 0) :: (5, .int 1) :: [(3, .ref 196), (2, .ref 157), (1, .ref 0), (0, .retAddr 0)])) (st1 := [.int 1]) (H1 := H) (k1 := k) (n1 := n) (by with_unfolding_all rfl)).trans ?_
  exact st_iret rfl rfl rfl
/-- which call makes a cell -/
def p1_o (sL : Nat) (sx : Nat → Int32) : Nat := if sL = 9 ∧ sx 3 &&& 63 = 2 then 1 else 0
theorem p1_go {sL : Nat} (hL : sL ≤ 9) (P : p1_P v3 h b H) (dm : p1_D v3 h b) (hl : H.length = 197) (h196 : am_is H 196 (.inl (.long, am_z0 .long 1))) : am_NW sL sx cs 417 53 ((4, .int (Int32.ofNat 3)) :: [(3, .ref 196), (2, .ref 157), (1, .ref 0), (0, .retAddr 0)]) [] H k n (some (.int 1)) (k + p1_o sL sx) (n + 6 * p1_o sL sx) (fun _ => True) := by
  by_cases c9 : sL = 9
  · subst c9
    have fin : ∀ H2 : am_H, aX 9 sx cs 417 53 ((4, .int (Int32.ofNat 3 + 6)) :: [(3, .ref 196), (2, .ref 157), (1, .ref 0), (0, .retAddr 0)]) [] H2 (k + 0 + 0) (n + 0 + 0) = some (some (.int 1), H2, k, n) := fun H2 => lw_exit (by decide)
    refine en_s (lw_call (j := 3) (by decide) (by decide) (by decide)) ?_
    by_cases c2 : sx 3 &&& 63 = 2
    · have eo : p1_o 9 sx = 1 := if_pos ⟨rfl, c2⟩
      rw [eo]
      obtain ⟨H2, e⟩ := p1_q2 (cs := cs) (k := k) (n := n) P hl h196 c2
      exact ⟨H2, e.trans (lw_exit2 (by decide)), trivial⟩
    · have eo : p1_o 9 sx = 0 := if_neg (fun q => c2 q.2)
      rw [eo]
      have all : ∃ H2 : am_H, aX 9 sx cs 417 70 ((4, .int (Int32.ofNat 3)) :: [(3, .ref 196), (2, .ref 157), (1, .ref 0), (0, .retAddr 0)]) [.int (sx 3 &&& 63)] H k n = aX 9 sx cs 417 53 ((4, .int (Int32.ofNat 3 + 6)) :: [(3, .ref 196), (2, .ref 157), (1, .ref 0), (0, .retAddr 0)]) [] H2 (k + 0 + 0) (n + 0 + 0) := by
        by_cases u0 : sx 3 &&& 63 = 0
        · exact p1_q0 P dm u0
        by_cases u1 : sx 3 &&& 63 = 1
        · exact p1_q1 P dm u1
        by_cases u3 : sx 3 &&& 63 = 3
        · exact p1_q3 P dm u3
        by_cases u4 : sx 3 &&& 63 = 4
        · exact p1_q4 P dm u4
        by_cases u5 : sx 3 &&& 63 = 5
        · exact p1_q5 P dm u5
        by_cases u6 : sx 3 &&& 63 = 6
        · exact p1_q6 P dm u6
        by_cases u7 : sx 3 &&& 63 = 7
        · exact p1_q7 P dm u7
        by_cases u8 : sx 3 &&& 63 = 8
        · exact p1_q8 P dm u8
        by_cases u9 : sx 3 &&& 63 = 9
        · exact p1_q9 P dm u9
        by_cases u10 : sx 3 &&& 63 = 10
        · exact p1_q10 P dm u10
        by_cases u11 : sx 3 &&& 63 = 11
        · exact p1_q11 P dm u11
        by_cases u12 : sx 3 &&& 63 = 12
        · exact p1_q12 P dm u12
        by_cases u13 : sx 3 &&& 63 = 13
        · exact p1_q13 P dm u13
        by_cases u14 : sx 3 &&& 63 = 14
        · exact p1_q14 P dm u14
        by_cases u15 : sx 3 &&& 63 = 15
        · exact p1_q15 P dm u15
        by_cases u16 : sx 3 &&& 63 = 16
        · exact p1_q16 P dm u16
        by_cases u17 : sx 3 &&& 63 = 17
        · exact p1_q17 P dm u17
        by_cases u18 : sx 3 &&& 63 = 18
        · exact p1_q18 P dm u18
        by_cases u19 : sx 3 &&& 63 = 19
        · exact p1_q19 P dm u19
        by_cases u20 : sx 3 &&& 63 = 20
        · exact p1_q20 P dm u20
        by_cases u21 : sx 3 &&& 63 = 21
        · exact p1_q21 P dm u21
        by_cases u22 : sx 3 &&& 63 = 22
        · exact p1_q22 P dm u22
        by_cases u23 : sx 3 &&& 63 = 23
        · exact p1_q23 P dm u23
        by_cases u24 : sx 3 &&& 63 = 24
        · exact p1_q24 P dm u24
        by_cases u25 : sx 3 &&& 63 = 25
        · exact p1_q25 P dm u25
        by_cases u26 : sx 3 &&& 63 = 26
        · exact p1_q26 P dm u26
        by_cases u27 : sx 3 &&& 63 = 27
        · exact p1_q27 P dm u27
        by_cases u28 : sx 3 &&& 63 = 28
        · exact p1_q28 P dm u28
        by_cases u29 : sx 3 &&& 63 = 29
        · exact p1_q29 P dm u29
        by_cases u30 : sx 3 &&& 63 = 30
        · exact p1_q30 P dm u30
        by_cases u31 : sx 3 &&& 63 = 31
        · exact p1_q31 P dm u31
        by_cases u32 : sx 3 &&& 63 = 32
        · exact p1_q32 P dm u32
        by_cases u33 : sx 3 &&& 63 = 33
        · exact p1_q33 P dm u33
        by_cases u34 : sx 3 &&& 63 = 34
        · exact p1_q34 P dm u34
        by_cases u35 : sx 3 &&& 63 = 35
        · exact p1_q35 P dm u35
        by_cases u36 : sx 3 &&& 63 = 36
        · exact p1_q36 P dm u36
        by_cases u37 : sx 3 &&& 63 = 37
        · exact p1_q37 P dm u37
        refine ⟨H, lc_d (j := 3) ?_⟩
        intro q hq
        match q, hq with
        | 0, _ => exact u0
        | 1, _ => exact u1
        | 2, _ => exact c2
        | 3, _ => exact u3
        | 4, _ => exact u4
        | 5, _ => exact u5
        | 6, _ => exact u6
        | 7, _ => exact u7
        | 8, _ => exact u8
        | 9, _ => exact u9
        | 10, _ => exact u10
        | 11, _ => exact u11
        | 12, _ => exact u12
        | 13, _ => exact u13
        | 14, _ => exact u14
        | 15, _ => exact u15
        | 16, _ => exact u16
        | 17, _ => exact u17
        | 18, _ => exact u18
        | 19, _ => exact u19
        | 20, _ => exact u20
        | 21, _ => exact u21
        | 22, _ => exact u22
        | 23, _ => exact u23
        | 24, _ => exact u24
        | 25, _ => exact u25
        | 26, _ => exact u26
        | 27, _ => exact u27
        | 28, _ => exact u28
        | 29, _ => exact u29
        | 30, _ => exact u30
        | 31, _ => exact u31
        | 32, _ => exact u32
        | 33, _ => exact u33
        | 34, _ => exact u34
        | 35, _ => exact u35
        | 36, _ => exact u36
        | 37, _ => exact u37
        | (q + 38), hq => exact absurd hq (by omega)
      obtain ⟨H2, e⟩ := all
      exact ⟨H2, e.trans (fin H2), trivial⟩
  · have eo : p1_o sL sx = 0 := if_neg (fun q => c9 q.1)
    rw [eo]
    have hlt : sL < 9 := by omega
    have dec : ∀ m : Nat, m < 9 → Int32.ofNat m - 6 < Int32.ofNat 3 := by decide
    exact ⟨H, lw_exit (dec sL hlt), trivial⟩
end P1Q
