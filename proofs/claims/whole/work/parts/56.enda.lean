/-! whole: the end, out of the one owed statement. -/
theorem xS_mk (h b : Nat) (T : List am_C) (a : xA) : xS h b T a ((List.range 196).map (fun p => xC h b p (a p)) ++ T) := by
  have hl : ((List.range 196).map (fun p => xC h b p (a p))).length = 196 := by rw [List.length_map, List.length_range]
  refine ⟨by rw [List.length_append, hl], fun p hp => ?_, fun j hj => ?_⟩
  · rw [List.getElem?_append_left (by omega), List.getElem?_map, List.getElem?_range hp]
    rfl
  · rw [List.getElem?_append_right (by omega), hl]
theorem xS_uni {h b : Nat} {T : List am_C} {a : xA} {H H' : am_H} (h1 : xS h b T a H) (h2 : xS h b T a H') : H = H' := by
  apply List.ext_getElem?
  intro i
  by_cases c : i < 196
  · rw [h1.2.1 i c, h2.2.1 i c]
  · rw [h1.2.2 i (by omega), h2.2.2 i (by omega)]
/-- owed: a relation of both programs' states that holds at the start and that every call keeps, both answering alike -/
def xGoal : Prop := ∃ N : Nat, ∀ (v3 : Int32) (h b : Nat), 4 ≤ h → h ≤ 24 → 16 ≤ b → b ≤ 80 → b % 2 = 0 → 1 ≤ v3.toInt → v3.toInt ≤ 16 → ∃ Rel : xA → Prop, xSim N h b Rel ∧ Rel (x0 v3 h b)
theorem whole_run (hg : xGoal) {sL : Nat} {sx : Nat → Int32} (hL : sL ≤ 3075) : ∃ A : am_A, aX sL sx am_cs 417 0 [(0, .retAddr 0)] [] [] 0 0 = some A ∧ A.1 = some (.int 1) ∧ A.2.2.1 ≤ 601024 ∧ A.2.2.2 ≤ 7293000 := by
  obtain ⟨N, hg⟩ := hg
  obtain ⟨h, b, w2, v3, ⟨d1, d2, d3, d4, d5, d6, d7⟩, ⟨e1, e2, e2b, e3⟩, em1, em2, em3⟩ := am_dims (am_ce sL sx 0) (am_ce sL sx 1) (am_ce sL sx 2)
  obtain ⟨Rel, hs, h0⟩ := hg v3 h b d1 d2 d3 d4 d5 d6 d7
  obtain ⟨⟨eg1, hh1, hh2, hh3⟩, ez1, hi0⟩ := am_high h (by omega) d1
  obtain ⟨⟨eg2, hb1, hb2, hb3⟩, ez2⟩ := am_wide b (by omega) d3
  obtain ⟨hp, hq, hr⟩ := am_both h (by omega) b (by omega)
  have hhb : h * b ≤ 24 * 80 := Nat.mul_le_mul d2 d4
  have hS0 := xS_mk h b [(.inl (.long, am_z0 .long 1) : am_C)] (x0 v3 h b)
  obtain ⟨H2, t, ht, e⟩ := lw_loop (sL := sL) (sx := sx) (by omega) hs 512 3 [(.inl (.long, am_z0 .long 1) : am_C)] (x0 v3 h b) _ 197 ((((16 + (((((((((((((((((43957 + (160 + ((((6 + (h * b)) + h) + b) + 0))) + 10) + 1920) + 10) + 1920) + 10) + 1920) + 10) + 1920) + 10) + 1920) + 10) + 1920) + 10) + 1920) + 10) + 1920)) + 122) + 62138) + 1) (by omega) (by omega) hS0 ⟨_, rfl⟩ h0
  have key := lw_start (sL := sL) (sx := sx) (cs := am_cs) (R := some (.int 1)) (F := fun _ => True) (k1 := 197 + t) (n1 := ((((16 + (((((((((((((((((43957 + (160 + ((((6 + (h * b)) + h) + b) + 0))) + 10) + 1920) + 10) + 1920) + 10) + 1920) + 10) + 1920) + 10) + 1920) + 10) + 1920) + 10) + 1920) + 10) + 1920)) + 122) + 62138) + 1) + 6 * t) (by omega) e1 e2 e2b e3 eg1 eg2 hp hq hr hh1 hh2 hh3 hb1 hb2 hb3 (by omega) (by omega) (by omega) ez1 ez2 hi0 em1 em2 em3
    (fun Ha Hb Hc Hd He hB hD hl h196 k1 k2 => by
      have hu := xS_uni (x0_ok hB hD hl h196 k1 k2) hS0
      rw [hu]
      exact ⟨H2, e, trivial⟩)
  obtain ⟨H1, e1, -⟩ := key
  exact ⟨_, e1, rfl, by show 197 + t ≤ 601024; omega, by dsimp only; omega⟩
