/-! p1: leaves. -/
set_option maxRecDepth 100000 in
theorem fx_rows_8 {sL : Nat} {sx : Nat → Int32} {cs : Nat → Nat → Option Int32} {H : am_H} {v0_13 : Int32} {x0 : Int32} {x1 : Int32} (h0 : am_is H 0 (.inr (11, [.ref 1, .int 0, .ref 2, .int 0, .ref 3, .ref 93, .ref 97, .ref 115, .ref 116, .ref 129, .ref 123, .ref 127, .ref 128, .int v0_13, .null, .int 0]))) (h115 : am_is H 115 (.inl ((.object "TerminalHouse$Window"), (8, .inr (.inr (.inr (.inr am_q115))))))) (h141 : am_is H 141 (.inr (9, [.ref 142, .int 0, .int 0, .int 0, .int 0, .int 0, .int 0, .int 0, .int 0, .int 0]))) (h143 : am_is H 143 (.inr (9, [.ref 144, .int 0, .int 0, .int 0, .int 0, .int 0, .int 0, .int 0, .int 0, .int 0]))) (h145 : am_is H 145 (.inr (9, [.ref 146, .int 0, .int 0, .int 0, .int 0, .int 0, .int 0, .int 0, .int 0, .int 0]))) (h147 : am_is H 147 (.inr (9, [.ref 148, .int 0, .int 0, .int 0, .int 0, .int 0, .int 0, .int 0, .int 0, .int 0]))) (h149 : am_is H 149 (.inr (9, [.ref 150, .int 0, .int 0, .int 0, .int 0, .int 0, .int 0, .int 0, .int 0, .int 0]))) (h151 : am_is H 151 (.inr (9, [.ref 152, .int 0, .int 0, .int 0, .int 0, .int 0, .int 0, .int 0, .int 0, .int 0]))) (h153 : am_is H 153 (.inr (9, [.ref 154, .int 0, .int 0, .int 0, .int 0, .int 0, .int 0, .int 0, .int 0, .int 0]))) (h155 : am_is H 155 (.inr (9, [.ref 156, .int 0, .int 0, .int 0, .int 0, .int 0, .int 0, .int 0, .int 0, .int 0]))) (c1 : ¬ x0 < 0) (c2 : ¬ 8 ≤ x0) (c3 : x0 = 6)  :
    am_E sL sx cs 114 0 [(0, .ref 0), (1, .int x0), (2, .int x1)] [] H (some (.int 0)) (fun H1 => (True) ∧ ∀ j : Nat, H1[j]? = H[j]?) := by
  refine ex_s (am_nb (m := 2) (pc1 := 2) (ls1 := [(0, .ref 0), (1, .int x0), (2, .int x1)]) (st1 := [.int x0, .ref 0]) (H1 := H) (k1 := 0) (n1 := 0) (by with_unfolding_all rfl)) ?_
  refine ex_cv1 (as := [.int x0]) (rest := []) rfl rfl rfl rfl h0 rfl (by with_unfolding_all rfl) (by with_unfolding_all rfl) (fx_rows_1_8 h0 h115 h141 h143 h145 h147 h149 h151 h153 h155 c1 c2 c3) ?_
  rintro H155 ⟨-, k155⟩
  refine ex_s (am_nb (m := 4) (pc1 := 11) (ls1 := [(3, .null), (0, .ref 0), (1, .int x0), (2, .int x1)]) (st1 := [.int 0]) (H1 := H155) (k1 := 0) (n1 := 0) (by with_unfolding_all rfl)) ?_
  exact ex_r (st_iret rfl rfl rfl) ⟨trivial, fun j => (k155 j)⟩

set_option maxRecDepth 100000 in
theorem fx_rows_9 {sL : Nat} {sx : Nat → Int32} {cs : Nat → Nat → Option Int32} {H : am_H} {v0_13 : Int32} {x0 : Int32} {x1 : Int32} (h0 : am_is H 0 (.inr (11, [.ref 1, .int 0, .ref 2, .int 0, .ref 3, .ref 93, .ref 97, .ref 115, .ref 116, .ref 129, .ref 123, .ref 127, .ref 128, .int v0_13, .null, .int 0]))) (h115 : am_is H 115 (.inl ((.object "TerminalHouse$Window"), (8, .inr (.inr (.inr (.inr am_q115))))))) (h141 : am_is H 141 (.inr (9, [.ref 142, .int 0, .int 0, .int 0, .int 0, .int 0, .int 0, .int 0, .int 0, .int 0]))) (h143 : am_is H 143 (.inr (9, [.ref 144, .int 0, .int 0, .int 0, .int 0, .int 0, .int 0, .int 0, .int 0, .int 0]))) (h145 : am_is H 145 (.inr (9, [.ref 146, .int 0, .int 0, .int 0, .int 0, .int 0, .int 0, .int 0, .int 0, .int 0]))) (h147 : am_is H 147 (.inr (9, [.ref 148, .int 0, .int 0, .int 0, .int 0, .int 0, .int 0, .int 0, .int 0, .int 0]))) (h149 : am_is H 149 (.inr (9, [.ref 150, .int 0, .int 0, .int 0, .int 0, .int 0, .int 0, .int 0, .int 0, .int 0]))) (h151 : am_is H 151 (.inr (9, [.ref 152, .int 0, .int 0, .int 0, .int 0, .int 0, .int 0, .int 0, .int 0, .int 0]))) (h153 : am_is H 153 (.inr (9, [.ref 154, .int 0, .int 0, .int 0, .int 0, .int 0, .int 0, .int 0, .int 0, .int 0]))) (h155 : am_is H 155 (.inr (9, [.ref 156, .int 0, .int 0, .int 0, .int 0, .int 0, .int 0, .int 0, .int 0, .int 0]))) (c1 : ¬ x0 < 0) (c2 : ¬ 8 ≤ x0) (c3 : x0 = 7)  :
    am_E sL sx cs 114 0 [(0, .ref 0), (1, .int x0), (2, .int x1)] [] H (some (.int 0)) (fun H1 => (True) ∧ ∀ j : Nat, H1[j]? = H[j]?) := by
  refine ex_s (am_nb (m := 2) (pc1 := 2) (ls1 := [(0, .ref 0), (1, .int x0), (2, .int x1)]) (st1 := [.int x0, .ref 0]) (H1 := H) (k1 := 0) (n1 := 0) (by with_unfolding_all rfl)) ?_
  refine ex_cv1 (as := [.int x0]) (rest := []) rfl rfl rfl rfl h0 rfl (by with_unfolding_all rfl) (by with_unfolding_all rfl) (fx_rows_1_9 h0 h115 h141 h143 h145 h147 h149 h151 h153 h155 c1 c2 c3) ?_
  rintro H156 ⟨-, k156⟩
  refine ex_s (am_nb (m := 4) (pc1 := 11) (ls1 := [(3, .null), (0, .ref 0), (1, .int x0), (2, .int x1)]) (st1 := [.int 0]) (H1 := H156) (k1 := 0) (n1 := 0) (by with_unfolding_all rfl)) ?_
  exact ex_r (st_iret rfl rfl rfl) ⟨trivial, fun j => (k156 j)⟩

set_option maxRecDepth 100000 in
theorem fx_cells_1_0 {sL : Nat} {sx : Nat → Int32} {cs : Nat → Nat → Option Int32} {H : am_H} {v0_13 : Int32} {x0 : Int32} (h0 : am_is H 0 (.inr (11, [.ref 1, .int 0, .ref 2, .int 0, .ref 3, .ref 93, .ref 97, .ref 115, .ref 116, .ref 129, .ref 123, .ref 127, .ref 128, .int v0_13, .null, .int 0]))) (h115 : am_is H 115 (.inl ((.object "TerminalHouse$Window"), (8, .inr (.inr (.inr (.inr am_q115))))))) (h141 : am_is H 141 (.inr (9, [.ref 142, .int 0, .int 0, .int 0, .int 0, .int 0, .int 0, .int 0, .int 0, .int 0]))) (h143 : am_is H 143 (.inr (9, [.ref 144, .int 0, .int 0, .int 0, .int 0, .int 0, .int 0, .int 0, .int 0, .int 0]))) (h145 : am_is H 145 (.inr (9, [.ref 146, .int 0, .int 0, .int 0, .int 0, .int 0, .int 0, .int 0, .int 0, .int 0]))) (h147 : am_is H 147 (.inr (9, [.ref 148, .int 0, .int 0, .int 0, .int 0, .int 0, .int 0, .int 0, .int 0, .int 0]))) (h149 : am_is H 149 (.inr (9, [.ref 150, .int 0, .int 0, .int 0, .int 0, .int 0, .int 0, .int 0, .int 0, .int 0]))) (h151 : am_is H 151 (.inr (9, [.ref 152, .int 0, .int 0, .int 0, .int 0, .int 0, .int 0, .int 0, .int 0, .int 0]))) (h153 : am_is H 153 (.inr (9, [.ref 154, .int 0, .int 0, .int 0, .int 0, .int 0, .int 0, .int 0, .int 0, .int 0]))) (h155 : am_is H 155 (.inr (9, [.ref 156, .int 0, .int 0, .int 0, .int 0, .int 0, .int 0, .int 0, .int 0, .int 0]))) (c1 : x0 < 0)  :
    am_E sL sx cs 98 0 [(0, .ref 0), (1, .int x0)] [] H (some (.null)) (fun H1 => (True) ∧ ∀ j : Nat, H1[j]? = H[j]?) := by
  refine ex_s (am_nb (m := 1) (pc1 := 1) (ls1 := [(0, .ref 0), (1, .int x0)]) (st1 := [.int x0]) (H1 := H) (k1 := 0) (n1 := 0) (by with_unfolding_all rfl)) ?_
  refine ex_s (st_if rfl) ?_
  refine ex_pc (if_pos c1) ?_
  refine ex_s (am_nb (m := 1) (pc1 := 23) (ls1 := [(0, .ref 0), (1, .int x0)]) (st1 := [.null]) (H1 := H) (k1 := 0) (n1 := 0) (by with_unfolding_all rfl)) ?_
  exact ex_r (st_aret rfl rfl rfl rfl) ⟨trivial, fun j => rfl⟩

set_option maxRecDepth 100000 in
theorem fx_cells_1_1 {sL : Nat} {sx : Nat → Int32} {cs : Nat → Nat → Option Int32} {H : am_H} {v0_13 : Int32} {x0 : Int32} (h0 : am_is H 0 (.inr (11, [.ref 1, .int 0, .ref 2, .int 0, .ref 3, .ref 93, .ref 97, .ref 115, .ref 116, .ref 129, .ref 123, .ref 127, .ref 128, .int v0_13, .null, .int 0]))) (h115 : am_is H 115 (.inl ((.object "TerminalHouse$Window"), (8, .inr (.inr (.inr (.inr am_q115))))))) (h141 : am_is H 141 (.inr (9, [.ref 142, .int 0, .int 0, .int 0, .int 0, .int 0, .int 0, .int 0, .int 0, .int 0]))) (h143 : am_is H 143 (.inr (9, [.ref 144, .int 0, .int 0, .int 0, .int 0, .int 0, .int 0, .int 0, .int 0, .int 0]))) (h145 : am_is H 145 (.inr (9, [.ref 146, .int 0, .int 0, .int 0, .int 0, .int 0, .int 0, .int 0, .int 0, .int 0]))) (h147 : am_is H 147 (.inr (9, [.ref 148, .int 0, .int 0, .int 0, .int 0, .int 0, .int 0, .int 0, .int 0, .int 0]))) (h149 : am_is H 149 (.inr (9, [.ref 150, .int 0, .int 0, .int 0, .int 0, .int 0, .int 0, .int 0, .int 0, .int 0]))) (h151 : am_is H 151 (.inr (9, [.ref 152, .int 0, .int 0, .int 0, .int 0, .int 0, .int 0, .int 0, .int 0, .int 0]))) (h153 : am_is H 153 (.inr (9, [.ref 154, .int 0, .int 0, .int 0, .int 0, .int 0, .int 0, .int 0, .int 0, .int 0]))) (h155 : am_is H 155 (.inr (9, [.ref 156, .int 0, .int 0, .int 0, .int 0, .int 0, .int 0, .int 0, .int 0, .int 0]))) (c1 : ¬ x0 < 0) (c2 : 8 ≤ x0)  :
    am_E sL sx cs 98 0 [(0, .ref 0), (1, .int x0)] [] H (some (.null)) (fun H1 => (True) ∧ ∀ j : Nat, H1[j]? = H[j]?) := by
  refine ex_s (am_nb (m := 1) (pc1 := 1) (ls1 := [(0, .ref 0), (1, .int x0)]) (st1 := [.int x0]) (H1 := H) (k1 := 0) (n1 := 0) (by with_unfolding_all rfl)) ?_
  refine ex_s (st_if rfl) ?_
  refine ex_pc (if_neg c1) ?_
  refine ex_s (am_nb (m := 2) (pc1 := 7) (ls1 := [(0, .ref 0), (1, .int x0)]) (st1 := [.int 8, .int x0]) (H1 := H) (k1 := 0) (n1 := 0) (by with_unfolding_all rfl)) ?_
  refine ex_s (st_icmp rfl) ?_
  refine ex_pc (if_pos c2) ?_
  refine ex_s (am_nb (m := 1) (pc1 := 23) (ls1 := [(0, .ref 0), (1, .int x0)]) (st1 := [.null]) (H1 := H) (k1 := 0) (n1 := 0) (by with_unfolding_all rfl)) ?_
  exact ex_r (st_aret rfl rfl rfl rfl) ⟨trivial, fun j => rfl⟩

set_option maxRecDepth 100000 in
theorem fx_cells_1_2 {sL : Nat} {sx : Nat → Int32} {cs : Nat → Nat → Option Int32} {H : am_H} {v0_13 : Int32} {x0 : Int32} (h0 : am_is H 0 (.inr (11, [.ref 1, .int 0, .ref 2, .int 0, .ref 3, .ref 93, .ref 97, .ref 115, .ref 116, .ref 129, .ref 123, .ref 127, .ref 128, .int v0_13, .null, .int 0]))) (h115 : am_is H 115 (.inl ((.object "TerminalHouse$Window"), (8, .inr (.inr (.inr (.inr am_q115))))))) (h141 : am_is H 141 (.inr (9, [.ref 142, .int 0, .int 0, .int 0, .int 0, .int 0, .int 0, .int 0, .int 0, .int 0]))) (h143 : am_is H 143 (.inr (9, [.ref 144, .int 0, .int 0, .int 0, .int 0, .int 0, .int 0, .int 0, .int 0, .int 0]))) (h145 : am_is H 145 (.inr (9, [.ref 146, .int 0, .int 0, .int 0, .int 0, .int 0, .int 0, .int 0, .int 0, .int 0]))) (h147 : am_is H 147 (.inr (9, [.ref 148, .int 0, .int 0, .int 0, .int 0, .int 0, .int 0, .int 0, .int 0, .int 0]))) (h149 : am_is H 149 (.inr (9, [.ref 150, .int 0, .int 0, .int 0, .int 0, .int 0, .int 0, .int 0, .int 0, .int 0]))) (h151 : am_is H 151 (.inr (9, [.ref 152, .int 0, .int 0, .int 0, .int 0, .int 0, .int 0, .int 0, .int 0, .int 0]))) (h153 : am_is H 153 (.inr (9, [.ref 154, .int 0, .int 0, .int 0, .int 0, .int 0, .int 0, .int 0, .int 0, .int 0]))) (h155 : am_is H 155 (.inr (9, [.ref 156, .int 0, .int 0, .int 0, .int 0, .int 0, .int 0, .int 0, .int 0, .int 0]))) (c1 : ¬ x0 < 0) (c2 : ¬ 8 ≤ x0) (c3 : x0 = 0)  :
    am_E sL sx cs 98 0 [(0, .ref 0), (1, .int x0)] [] H (some (.null)) (fun H1 => (True) ∧ ∀ j : Nat, H1[j]? = H[j]?) := by
  refine ex_s (am_nb (m := 1) (pc1 := 1) (ls1 := [(0, .ref 0), (1, .int x0)]) (st1 := [.int x0]) (H1 := H) (k1 := 0) (n1 := 0) (by with_unfolding_all rfl)) ?_
  refine ex_s (st_if rfl) ?_
  refine ex_pc (if_neg c1) ?_
  refine ex_s (am_nb (m := 2) (pc1 := 7) (ls1 := [(0, .ref 0), (1, .int x0)]) (st1 := [.int 8, .int x0]) (H1 := H) (k1 := 0) (n1 := 0) (by with_unfolding_all rfl)) ?_
  refine ex_s (st_icmp rfl) ?_
  refine ex_pc (if_neg c2) ?_
  refine ex_s (am_nb (m := 1) (pc1 := 11) (ls1 := [(0, .ref 0), (1, .int x0)]) (st1 := [.ref 0]) (H1 := H) (k1 := 0) (n1 := 0) (by with_unfolding_all rfl)) ?_
  refine ex_s (st_get rfl h0 rfl) ?_
  refine ex_s (am_nb (m := 1) (pc1 := 15) (ls1 := [(0, .ref 0), (1, .int x0)]) (st1 := [.int x0, .ref 115]) (H1 := H) (k1 := 0) (n1 := 0) (by with_unfolding_all rfl)) ?_
  refine ex_s (st_aald rfl h115 (by rw [c3]; decide) rfl) ?_
  refine ex_s (am_nb (m := 0) (pc1 := 16) (ls1 := [(0, .ref 0), (1, .int x0)]) (st1 := [.ref 141]) (H1 := H) (k1 := 0) (n1 := 0) (by rw [c3]; with_unfolding_all rfl)) ?_
  refine ex_s (st_get rfl h141 rfl) ?_
  refine ex_s (am_nb (m := 2) (pc1 := 23) (ls1 := [(0, .ref 0), (1, .int x0)]) (st1 := [.null]) (H1 := H) (k1 := 0) (n1 := 0) (by with_unfolding_all rfl)) ?_
  exact ex_r (st_aret rfl rfl rfl rfl) ⟨trivial, fun j => rfl⟩

set_option maxRecDepth 100000 in
theorem fx_cells_1_3 {sL : Nat} {sx : Nat → Int32} {cs : Nat → Nat → Option Int32} {H : am_H} {v0_13 : Int32} {x0 : Int32} (h0 : am_is H 0 (.inr (11, [.ref 1, .int 0, .ref 2, .int 0, .ref 3, .ref 93, .ref 97, .ref 115, .ref 116, .ref 129, .ref 123, .ref 127, .ref 128, .int v0_13, .null, .int 0]))) (h115 : am_is H 115 (.inl ((.object "TerminalHouse$Window"), (8, .inr (.inr (.inr (.inr am_q115))))))) (h141 : am_is H 141 (.inr (9, [.ref 142, .int 0, .int 0, .int 0, .int 0, .int 0, .int 0, .int 0, .int 0, .int 0]))) (h143 : am_is H 143 (.inr (9, [.ref 144, .int 0, .int 0, .int 0, .int 0, .int 0, .int 0, .int 0, .int 0, .int 0]))) (h145 : am_is H 145 (.inr (9, [.ref 146, .int 0, .int 0, .int 0, .int 0, .int 0, .int 0, .int 0, .int 0, .int 0]))) (h147 : am_is H 147 (.inr (9, [.ref 148, .int 0, .int 0, .int 0, .int 0, .int 0, .int 0, .int 0, .int 0, .int 0]))) (h149 : am_is H 149 (.inr (9, [.ref 150, .int 0, .int 0, .int 0, .int 0, .int 0, .int 0, .int 0, .int 0, .int 0]))) (h151 : am_is H 151 (.inr (9, [.ref 152, .int 0, .int 0, .int 0, .int 0, .int 0, .int 0, .int 0, .int 0, .int 0]))) (h153 : am_is H 153 (.inr (9, [.ref 154, .int 0, .int 0, .int 0, .int 0, .int 0, .int 0, .int 0, .int 0, .int 0]))) (h155 : am_is H 155 (.inr (9, [.ref 156, .int 0, .int 0, .int 0, .int 0, .int 0, .int 0, .int 0, .int 0, .int 0]))) (c1 : ¬ x0 < 0) (c2 : ¬ 8 ≤ x0) (c3 : x0 = 1)  :
    am_E sL sx cs 98 0 [(0, .ref 0), (1, .int x0)] [] H (some (.null)) (fun H1 => (True) ∧ ∀ j : Nat, H1[j]? = H[j]?) := by
  refine ex_s (am_nb (m := 1) (pc1 := 1) (ls1 := [(0, .ref 0), (1, .int x0)]) (st1 := [.int x0]) (H1 := H) (k1 := 0) (n1 := 0) (by with_unfolding_all rfl)) ?_
  refine ex_s (st_if rfl) ?_
  refine ex_pc (if_neg c1) ?_
  refine ex_s (am_nb (m := 2) (pc1 := 7) (ls1 := [(0, .ref 0), (1, .int x0)]) (st1 := [.int 8, .int x0]) (H1 := H) (k1 := 0) (n1 := 0) (by with_unfolding_all rfl)) ?_
  refine ex_s (st_icmp rfl) ?_
  refine ex_pc (if_neg c2) ?_
  refine ex_s (am_nb (m := 1) (pc1 := 11) (ls1 := [(0, .ref 0), (1, .int x0)]) (st1 := [.ref 0]) (H1 := H) (k1 := 0) (n1 := 0) (by with_unfolding_all rfl)) ?_
  refine ex_s (st_get rfl h0 rfl) ?_
  refine ex_s (am_nb (m := 1) (pc1 := 15) (ls1 := [(0, .ref 0), (1, .int x0)]) (st1 := [.int x0, .ref 115]) (H1 := H) (k1 := 0) (n1 := 0) (by with_unfolding_all rfl)) ?_
  refine ex_s (st_aald rfl h115 (by rw [c3]; decide) rfl) ?_
  refine ex_s (am_nb (m := 0) (pc1 := 16) (ls1 := [(0, .ref 0), (1, .int x0)]) (st1 := [.ref 143]) (H1 := H) (k1 := 0) (n1 := 0) (by rw [c3]; with_unfolding_all rfl)) ?_
  refine ex_s (st_get rfl h143 rfl) ?_
  refine ex_s (am_nb (m := 2) (pc1 := 23) (ls1 := [(0, .ref 0), (1, .int x0)]) (st1 := [.null]) (H1 := H) (k1 := 0) (n1 := 0) (by with_unfolding_all rfl)) ?_
  exact ex_r (st_aret rfl rfl rfl rfl) ⟨trivial, fun j => rfl⟩

set_option maxRecDepth 100000 in
theorem fx_cells_1_4 {sL : Nat} {sx : Nat → Int32} {cs : Nat → Nat → Option Int32} {H : am_H} {v0_13 : Int32} {x0 : Int32} (h0 : am_is H 0 (.inr (11, [.ref 1, .int 0, .ref 2, .int 0, .ref 3, .ref 93, .ref 97, .ref 115, .ref 116, .ref 129, .ref 123, .ref 127, .ref 128, .int v0_13, .null, .int 0]))) (h115 : am_is H 115 (.inl ((.object "TerminalHouse$Window"), (8, .inr (.inr (.inr (.inr am_q115))))))) (h141 : am_is H 141 (.inr (9, [.ref 142, .int 0, .int 0, .int 0, .int 0, .int 0, .int 0, .int 0, .int 0, .int 0]))) (h143 : am_is H 143 (.inr (9, [.ref 144, .int 0, .int 0, .int 0, .int 0, .int 0, .int 0, .int 0, .int 0, .int 0]))) (h145 : am_is H 145 (.inr (9, [.ref 146, .int 0, .int 0, .int 0, .int 0, .int 0, .int 0, .int 0, .int 0, .int 0]))) (h147 : am_is H 147 (.inr (9, [.ref 148, .int 0, .int 0, .int 0, .int 0, .int 0, .int 0, .int 0, .int 0, .int 0]))) (h149 : am_is H 149 (.inr (9, [.ref 150, .int 0, .int 0, .int 0, .int 0, .int 0, .int 0, .int 0, .int 0, .int 0]))) (h151 : am_is H 151 (.inr (9, [.ref 152, .int 0, .int 0, .int 0, .int 0, .int 0, .int 0, .int 0, .int 0, .int 0]))) (h153 : am_is H 153 (.inr (9, [.ref 154, .int 0, .int 0, .int 0, .int 0, .int 0, .int 0, .int 0, .int 0, .int 0]))) (h155 : am_is H 155 (.inr (9, [.ref 156, .int 0, .int 0, .int 0, .int 0, .int 0, .int 0, .int 0, .int 0, .int 0]))) (c1 : ¬ x0 < 0) (c2 : ¬ 8 ≤ x0) (c3 : x0 = 2)  :
    am_E sL sx cs 98 0 [(0, .ref 0), (1, .int x0)] [] H (some (.null)) (fun H1 => (True) ∧ ∀ j : Nat, H1[j]? = H[j]?) := by
  refine ex_s (am_nb (m := 1) (pc1 := 1) (ls1 := [(0, .ref 0), (1, .int x0)]) (st1 := [.int x0]) (H1 := H) (k1 := 0) (n1 := 0) (by with_unfolding_all rfl)) ?_
  refine ex_s (st_if rfl) ?_
  refine ex_pc (if_neg c1) ?_
  refine ex_s (am_nb (m := 2) (pc1 := 7) (ls1 := [(0, .ref 0), (1, .int x0)]) (st1 := [.int 8, .int x0]) (H1 := H) (k1 := 0) (n1 := 0) (by with_unfolding_all rfl)) ?_
  refine ex_s (st_icmp rfl) ?_
  refine ex_pc (if_neg c2) ?_
  refine ex_s (am_nb (m := 1) (pc1 := 11) (ls1 := [(0, .ref 0), (1, .int x0)]) (st1 := [.ref 0]) (H1 := H) (k1 := 0) (n1 := 0) (by with_unfolding_all rfl)) ?_
  refine ex_s (st_get rfl h0 rfl) ?_
  refine ex_s (am_nb (m := 1) (pc1 := 15) (ls1 := [(0, .ref 0), (1, .int x0)]) (st1 := [.int x0, .ref 115]) (H1 := H) (k1 := 0) (n1 := 0) (by with_unfolding_all rfl)) ?_
  refine ex_s (st_aald rfl h115 (by rw [c3]; decide) rfl) ?_
  refine ex_s (am_nb (m := 0) (pc1 := 16) (ls1 := [(0, .ref 0), (1, .int x0)]) (st1 := [.ref 145]) (H1 := H) (k1 := 0) (n1 := 0) (by rw [c3]; with_unfolding_all rfl)) ?_
  refine ex_s (st_get rfl h145 rfl) ?_
  refine ex_s (am_nb (m := 2) (pc1 := 23) (ls1 := [(0, .ref 0), (1, .int x0)]) (st1 := [.null]) (H1 := H) (k1 := 0) (n1 := 0) (by with_unfolding_all rfl)) ?_
  exact ex_r (st_aret rfl rfl rfl rfl) ⟨trivial, fun j => rfl⟩

set_option maxRecDepth 100000 in
theorem fx_cells_1_5 {sL : Nat} {sx : Nat → Int32} {cs : Nat → Nat → Option Int32} {H : am_H} {v0_13 : Int32} {x0 : Int32} (h0 : am_is H 0 (.inr (11, [.ref 1, .int 0, .ref 2, .int 0, .ref 3, .ref 93, .ref 97, .ref 115, .ref 116, .ref 129, .ref 123, .ref 127, .ref 128, .int v0_13, .null, .int 0]))) (h115 : am_is H 115 (.inl ((.object "TerminalHouse$Window"), (8, .inr (.inr (.inr (.inr am_q115))))))) (h141 : am_is H 141 (.inr (9, [.ref 142, .int 0, .int 0, .int 0, .int 0, .int 0, .int 0, .int 0, .int 0, .int 0]))) (h143 : am_is H 143 (.inr (9, [.ref 144, .int 0, .int 0, .int 0, .int 0, .int 0, .int 0, .int 0, .int 0, .int 0]))) (h145 : am_is H 145 (.inr (9, [.ref 146, .int 0, .int 0, .int 0, .int 0, .int 0, .int 0, .int 0, .int 0, .int 0]))) (h147 : am_is H 147 (.inr (9, [.ref 148, .int 0, .int 0, .int 0, .int 0, .int 0, .int 0, .int 0, .int 0, .int 0]))) (h149 : am_is H 149 (.inr (9, [.ref 150, .int 0, .int 0, .int 0, .int 0, .int 0, .int 0, .int 0, .int 0, .int 0]))) (h151 : am_is H 151 (.inr (9, [.ref 152, .int 0, .int 0, .int 0, .int 0, .int 0, .int 0, .int 0, .int 0, .int 0]))) (h153 : am_is H 153 (.inr (9, [.ref 154, .int 0, .int 0, .int 0, .int 0, .int 0, .int 0, .int 0, .int 0, .int 0]))) (h155 : am_is H 155 (.inr (9, [.ref 156, .int 0, .int 0, .int 0, .int 0, .int 0, .int 0, .int 0, .int 0, .int 0]))) (c1 : ¬ x0 < 0) (c2 : ¬ 8 ≤ x0) (c3 : x0 = 3)  :
    am_E sL sx cs 98 0 [(0, .ref 0), (1, .int x0)] [] H (some (.null)) (fun H1 => (True) ∧ ∀ j : Nat, H1[j]? = H[j]?) := by
  refine ex_s (am_nb (m := 1) (pc1 := 1) (ls1 := [(0, .ref 0), (1, .int x0)]) (st1 := [.int x0]) (H1 := H) (k1 := 0) (n1 := 0) (by with_unfolding_all rfl)) ?_
  refine ex_s (st_if rfl) ?_
  refine ex_pc (if_neg c1) ?_
  refine ex_s (am_nb (m := 2) (pc1 := 7) (ls1 := [(0, .ref 0), (1, .int x0)]) (st1 := [.int 8, .int x0]) (H1 := H) (k1 := 0) (n1 := 0) (by with_unfolding_all rfl)) ?_
  refine ex_s (st_icmp rfl) ?_
  refine ex_pc (if_neg c2) ?_
  refine ex_s (am_nb (m := 1) (pc1 := 11) (ls1 := [(0, .ref 0), (1, .int x0)]) (st1 := [.ref 0]) (H1 := H) (k1 := 0) (n1 := 0) (by with_unfolding_all rfl)) ?_
  refine ex_s (st_get rfl h0 rfl) ?_
  refine ex_s (am_nb (m := 1) (pc1 := 15) (ls1 := [(0, .ref 0), (1, .int x0)]) (st1 := [.int x0, .ref 115]) (H1 := H) (k1 := 0) (n1 := 0) (by with_unfolding_all rfl)) ?_
  refine ex_s (st_aald rfl h115 (by rw [c3]; decide) rfl) ?_
  refine ex_s (am_nb (m := 0) (pc1 := 16) (ls1 := [(0, .ref 0), (1, .int x0)]) (st1 := [.ref 147]) (H1 := H) (k1 := 0) (n1 := 0) (by rw [c3]; with_unfolding_all rfl)) ?_
  refine ex_s (st_get rfl h147 rfl) ?_
  refine ex_s (am_nb (m := 2) (pc1 := 23) (ls1 := [(0, .ref 0), (1, .int x0)]) (st1 := [.null]) (H1 := H) (k1 := 0) (n1 := 0) (by with_unfolding_all rfl)) ?_
  exact ex_r (st_aret rfl rfl rfl rfl) ⟨trivial, fun j => rfl⟩

set_option maxRecDepth 100000 in
theorem fx_cells_1_6 {sL : Nat} {sx : Nat → Int32} {cs : Nat → Nat → Option Int32} {H : am_H} {v0_13 : Int32} {x0 : Int32} (h0 : am_is H 0 (.inr (11, [.ref 1, .int 0, .ref 2, .int 0, .ref 3, .ref 93, .ref 97, .ref 115, .ref 116, .ref 129, .ref 123, .ref 127, .ref 128, .int v0_13, .null, .int 0]))) (h115 : am_is H 115 (.inl ((.object "TerminalHouse$Window"), (8, .inr (.inr (.inr (.inr am_q115))))))) (h141 : am_is H 141 (.inr (9, [.ref 142, .int 0, .int 0, .int 0, .int 0, .int 0, .int 0, .int 0, .int 0, .int 0]))) (h143 : am_is H 143 (.inr (9, [.ref 144, .int 0, .int 0, .int 0, .int 0, .int 0, .int 0, .int 0, .int 0, .int 0]))) (h145 : am_is H 145 (.inr (9, [.ref 146, .int 0, .int 0, .int 0, .int 0, .int 0, .int 0, .int 0, .int 0, .int 0]))) (h147 : am_is H 147 (.inr (9, [.ref 148, .int 0, .int 0, .int 0, .int 0, .int 0, .int 0, .int 0, .int 0, .int 0]))) (h149 : am_is H 149 (.inr (9, [.ref 150, .int 0, .int 0, .int 0, .int 0, .int 0, .int 0, .int 0, .int 0, .int 0]))) (h151 : am_is H 151 (.inr (9, [.ref 152, .int 0, .int 0, .int 0, .int 0, .int 0, .int 0, .int 0, .int 0, .int 0]))) (h153 : am_is H 153 (.inr (9, [.ref 154, .int 0, .int 0, .int 0, .int 0, .int 0, .int 0, .int 0, .int 0, .int 0]))) (h155 : am_is H 155 (.inr (9, [.ref 156, .int 0, .int 0, .int 0, .int 0, .int 0, .int 0, .int 0, .int 0, .int 0]))) (c1 : ¬ x0 < 0) (c2 : ¬ 8 ≤ x0) (c3 : x0 = 4)  :
    am_E sL sx cs 98 0 [(0, .ref 0), (1, .int x0)] [] H (some (.null)) (fun H1 => (True) ∧ ∀ j : Nat, H1[j]? = H[j]?) := by
  refine ex_s (am_nb (m := 1) (pc1 := 1) (ls1 := [(0, .ref 0), (1, .int x0)]) (st1 := [.int x0]) (H1 := H) (k1 := 0) (n1 := 0) (by with_unfolding_all rfl)) ?_
  refine ex_s (st_if rfl) ?_
  refine ex_pc (if_neg c1) ?_
  refine ex_s (am_nb (m := 2) (pc1 := 7) (ls1 := [(0, .ref 0), (1, .int x0)]) (st1 := [.int 8, .int x0]) (H1 := H) (k1 := 0) (n1 := 0) (by with_unfolding_all rfl)) ?_
  refine ex_s (st_icmp rfl) ?_
  refine ex_pc (if_neg c2) ?_
  refine ex_s (am_nb (m := 1) (pc1 := 11) (ls1 := [(0, .ref 0), (1, .int x0)]) (st1 := [.ref 0]) (H1 := H) (k1 := 0) (n1 := 0) (by with_unfolding_all rfl)) ?_
  refine ex_s (st_get rfl h0 rfl) ?_
  refine ex_s (am_nb (m := 1) (pc1 := 15) (ls1 := [(0, .ref 0), (1, .int x0)]) (st1 := [.int x0, .ref 115]) (H1 := H) (k1 := 0) (n1 := 0) (by with_unfolding_all rfl)) ?_
  refine ex_s (st_aald rfl h115 (by rw [c3]; decide) rfl) ?_
  refine ex_s (am_nb (m := 0) (pc1 := 16) (ls1 := [(0, .ref 0), (1, .int x0)]) (st1 := [.ref 149]) (H1 := H) (k1 := 0) (n1 := 0) (by rw [c3]; with_unfolding_all rfl)) ?_
  refine ex_s (st_get rfl h149 rfl) ?_
  refine ex_s (am_nb (m := 2) (pc1 := 23) (ls1 := [(0, .ref 0), (1, .int x0)]) (st1 := [.null]) (H1 := H) (k1 := 0) (n1 := 0) (by with_unfolding_all rfl)) ?_
  exact ex_r (st_aret rfl rfl rfl rfl) ⟨trivial, fun j => rfl⟩

set_option maxRecDepth 100000 in
theorem fx_cells_1_7 {sL : Nat} {sx : Nat → Int32} {cs : Nat → Nat → Option Int32} {H : am_H} {v0_13 : Int32} {x0 : Int32} (h0 : am_is H 0 (.inr (11, [.ref 1, .int 0, .ref 2, .int 0, .ref 3, .ref 93, .ref 97, .ref 115, .ref 116, .ref 129, .ref 123, .ref 127, .ref 128, .int v0_13, .null, .int 0]))) (h115 : am_is H 115 (.inl ((.object "TerminalHouse$Window"), (8, .inr (.inr (.inr (.inr am_q115))))))) (h141 : am_is H 141 (.inr (9, [.ref 142, .int 0, .int 0, .int 0, .int 0, .int 0, .int 0, .int 0, .int 0, .int 0]))) (h143 : am_is H 143 (.inr (9, [.ref 144, .int 0, .int 0, .int 0, .int 0, .int 0, .int 0, .int 0, .int 0, .int 0]))) (h145 : am_is H 145 (.inr (9, [.ref 146, .int 0, .int 0, .int 0, .int 0, .int 0, .int 0, .int 0, .int 0, .int 0]))) (h147 : am_is H 147 (.inr (9, [.ref 148, .int 0, .int 0, .int 0, .int 0, .int 0, .int 0, .int 0, .int 0, .int 0]))) (h149 : am_is H 149 (.inr (9, [.ref 150, .int 0, .int 0, .int 0, .int 0, .int 0, .int 0, .int 0, .int 0, .int 0]))) (h151 : am_is H 151 (.inr (9, [.ref 152, .int 0, .int 0, .int 0, .int 0, .int 0, .int 0, .int 0, .int 0, .int 0]))) (h153 : am_is H 153 (.inr (9, [.ref 154, .int 0, .int 0, .int 0, .int 0, .int 0, .int 0, .int 0, .int 0, .int 0]))) (h155 : am_is H 155 (.inr (9, [.ref 156, .int 0, .int 0, .int 0, .int 0, .int 0, .int 0, .int 0, .int 0, .int 0]))) (c1 : ¬ x0 < 0) (c2 : ¬ 8 ≤ x0) (c3 : x0 = 5)  :
    am_E sL sx cs 98 0 [(0, .ref 0), (1, .int x0)] [] H (some (.null)) (fun H1 => (True) ∧ ∀ j : Nat, H1[j]? = H[j]?) := by
  refine ex_s (am_nb (m := 1) (pc1 := 1) (ls1 := [(0, .ref 0), (1, .int x0)]) (st1 := [.int x0]) (H1 := H) (k1 := 0) (n1 := 0) (by with_unfolding_all rfl)) ?_
  refine ex_s (st_if rfl) ?_
  refine ex_pc (if_neg c1) ?_
  refine ex_s (am_nb (m := 2) (pc1 := 7) (ls1 := [(0, .ref 0), (1, .int x0)]) (st1 := [.int 8, .int x0]) (H1 := H) (k1 := 0) (n1 := 0) (by with_unfolding_all rfl)) ?_
  refine ex_s (st_icmp rfl) ?_
  refine ex_pc (if_neg c2) ?_
  refine ex_s (am_nb (m := 1) (pc1 := 11) (ls1 := [(0, .ref 0), (1, .int x0)]) (st1 := [.ref 0]) (H1 := H) (k1 := 0) (n1 := 0) (by with_unfolding_all rfl)) ?_
  refine ex_s (st_get rfl h0 rfl) ?_
  refine ex_s (am_nb (m := 1) (pc1 := 15) (ls1 := [(0, .ref 0), (1, .int x0)]) (st1 := [.int x0, .ref 115]) (H1 := H) (k1 := 0) (n1 := 0) (by with_unfolding_all rfl)) ?_
  refine ex_s (st_aald rfl h115 (by rw [c3]; decide) rfl) ?_
  refine ex_s (am_nb (m := 0) (pc1 := 16) (ls1 := [(0, .ref 0), (1, .int x0)]) (st1 := [.ref 151]) (H1 := H) (k1 := 0) (n1 := 0) (by rw [c3]; with_unfolding_all rfl)) ?_
  refine ex_s (st_get rfl h151 rfl) ?_
  refine ex_s (am_nb (m := 2) (pc1 := 23) (ls1 := [(0, .ref 0), (1, .int x0)]) (st1 := [.null]) (H1 := H) (k1 := 0) (n1 := 0) (by with_unfolding_all rfl)) ?_
  exact ex_r (st_aret rfl rfl rfl rfl) ⟨trivial, fun j => rfl⟩

set_option maxRecDepth 100000 in
theorem fx_cells_1_8 {sL : Nat} {sx : Nat → Int32} {cs : Nat → Nat → Option Int32} {H : am_H} {v0_13 : Int32} {x0 : Int32} (h0 : am_is H 0 (.inr (11, [.ref 1, .int 0, .ref 2, .int 0, .ref 3, .ref 93, .ref 97, .ref 115, .ref 116, .ref 129, .ref 123, .ref 127, .ref 128, .int v0_13, .null, .int 0]))) (h115 : am_is H 115 (.inl ((.object "TerminalHouse$Window"), (8, .inr (.inr (.inr (.inr am_q115))))))) (h141 : am_is H 141 (.inr (9, [.ref 142, .int 0, .int 0, .int 0, .int 0, .int 0, .int 0, .int 0, .int 0, .int 0]))) (h143 : am_is H 143 (.inr (9, [.ref 144, .int 0, .int 0, .int 0, .int 0, .int 0, .int 0, .int 0, .int 0, .int 0]))) (h145 : am_is H 145 (.inr (9, [.ref 146, .int 0, .int 0, .int 0, .int 0, .int 0, .int 0, .int 0, .int 0, .int 0]))) (h147 : am_is H 147 (.inr (9, [.ref 148, .int 0, .int 0, .int 0, .int 0, .int 0, .int 0, .int 0, .int 0, .int 0]))) (h149 : am_is H 149 (.inr (9, [.ref 150, .int 0, .int 0, .int 0, .int 0, .int 0, .int 0, .int 0, .int 0, .int 0]))) (h151 : am_is H 151 (.inr (9, [.ref 152, .int 0, .int 0, .int 0, .int 0, .int 0, .int 0, .int 0, .int 0, .int 0]))) (h153 : am_is H 153 (.inr (9, [.ref 154, .int 0, .int 0, .int 0, .int 0, .int 0, .int 0, .int 0, .int 0, .int 0]))) (h155 : am_is H 155 (.inr (9, [.ref 156, .int 0, .int 0, .int 0, .int 0, .int 0, .int 0, .int 0, .int 0, .int 0]))) (c1 : ¬ x0 < 0) (c2 : ¬ 8 ≤ x0) (c3 : x0 = 6)  :
    am_E sL sx cs 98 0 [(0, .ref 0), (1, .int x0)] [] H (some (.null)) (fun H1 => (True) ∧ ∀ j : Nat, H1[j]? = H[j]?) := by
  refine ex_s (am_nb (m := 1) (pc1 := 1) (ls1 := [(0, .ref 0), (1, .int x0)]) (st1 := [.int x0]) (H1 := H) (k1 := 0) (n1 := 0) (by with_unfolding_all rfl)) ?_
  refine ex_s (st_if rfl) ?_
  refine ex_pc (if_neg c1) ?_
  refine ex_s (am_nb (m := 2) (pc1 := 7) (ls1 := [(0, .ref 0), (1, .int x0)]) (st1 := [.int 8, .int x0]) (H1 := H) (k1 := 0) (n1 := 0) (by with_unfolding_all rfl)) ?_
  refine ex_s (st_icmp rfl) ?_
  refine ex_pc (if_neg c2) ?_
  refine ex_s (am_nb (m := 1) (pc1 := 11) (ls1 := [(0, .ref 0), (1, .int x0)]) (st1 := [.ref 0]) (H1 := H) (k1 := 0) (n1 := 0) (by with_unfolding_all rfl)) ?_
  refine ex_s (st_get rfl h0 rfl) ?_
  refine ex_s (am_nb (m := 1) (pc1 := 15) (ls1 := [(0, .ref 0), (1, .int x0)]) (st1 := [.int x0, .ref 115]) (H1 := H) (k1 := 0) (n1 := 0) (by with_unfolding_all rfl)) ?_
  refine ex_s (st_aald rfl h115 (by rw [c3]; decide) rfl) ?_
  refine ex_s (am_nb (m := 0) (pc1 := 16) (ls1 := [(0, .ref 0), (1, .int x0)]) (st1 := [.ref 153]) (H1 := H) (k1 := 0) (n1 := 0) (by rw [c3]; with_unfolding_all rfl)) ?_
  refine ex_s (st_get rfl h153 rfl) ?_
  refine ex_s (am_nb (m := 2) (pc1 := 23) (ls1 := [(0, .ref 0), (1, .int x0)]) (st1 := [.null]) (H1 := H) (k1 := 0) (n1 := 0) (by with_unfolding_all rfl)) ?_
  exact ex_r (st_aret rfl rfl rfl rfl) ⟨trivial, fun j => rfl⟩

set_option maxRecDepth 100000 in
theorem fx_cells_1_9 {sL : Nat} {sx : Nat → Int32} {cs : Nat → Nat → Option Int32} {H : am_H} {v0_13 : Int32} {x0 : Int32} (h0 : am_is H 0 (.inr (11, [.ref 1, .int 0, .ref 2, .int 0, .ref 3, .ref 93, .ref 97, .ref 115, .ref 116, .ref 129, .ref 123, .ref 127, .ref 128, .int v0_13, .null, .int 0]))) (h115 : am_is H 115 (.inl ((.object "TerminalHouse$Window"), (8, .inr (.inr (.inr (.inr am_q115))))))) (h141 : am_is H 141 (.inr (9, [.ref 142, .int 0, .int 0, .int 0, .int 0, .int 0, .int 0, .int 0, .int 0, .int 0]))) (h143 : am_is H 143 (.inr (9, [.ref 144, .int 0, .int 0, .int 0, .int 0, .int 0, .int 0, .int 0, .int 0, .int 0]))) (h145 : am_is H 145 (.inr (9, [.ref 146, .int 0, .int 0, .int 0, .int 0, .int 0, .int 0, .int 0, .int 0, .int 0]))) (h147 : am_is H 147 (.inr (9, [.ref 148, .int 0, .int 0, .int 0, .int 0, .int 0, .int 0, .int 0, .int 0, .int 0]))) (h149 : am_is H 149 (.inr (9, [.ref 150, .int 0, .int 0, .int 0, .int 0, .int 0, .int 0, .int 0, .int 0, .int 0]))) (h151 : am_is H 151 (.inr (9, [.ref 152, .int 0, .int 0, .int 0, .int 0, .int 0, .int 0, .int 0, .int 0, .int 0]))) (h153 : am_is H 153 (.inr (9, [.ref 154, .int 0, .int 0, .int 0, .int 0, .int 0, .int 0, .int 0, .int 0, .int 0]))) (h155 : am_is H 155 (.inr (9, [.ref 156, .int 0, .int 0, .int 0, .int 0, .int 0, .int 0, .int 0, .int 0, .int 0]))) (c1 : ¬ x0 < 0) (c2 : ¬ 8 ≤ x0) (c3 : x0 = 7)  :
    am_E sL sx cs 98 0 [(0, .ref 0), (1, .int x0)] [] H (some (.null)) (fun H1 => (True) ∧ ∀ j : Nat, H1[j]? = H[j]?) := by
  refine ex_s (am_nb (m := 1) (pc1 := 1) (ls1 := [(0, .ref 0), (1, .int x0)]) (st1 := [.int x0]) (H1 := H) (k1 := 0) (n1 := 0) (by with_unfolding_all rfl)) ?_
  refine ex_s (st_if rfl) ?_
  refine ex_pc (if_neg c1) ?_
  refine ex_s (am_nb (m := 2) (pc1 := 7) (ls1 := [(0, .ref 0), (1, .int x0)]) (st1 := [.int 8, .int x0]) (H1 := H) (k1 := 0) (n1 := 0) (by with_unfolding_all rfl)) ?_
  refine ex_s (st_icmp rfl) ?_
  refine ex_pc (if_neg c2) ?_
  refine ex_s (am_nb (m := 1) (pc1 := 11) (ls1 := [(0, .ref 0), (1, .int x0)]) (st1 := [.ref 0]) (H1 := H) (k1 := 0) (n1 := 0) (by with_unfolding_all rfl)) ?_
  refine ex_s (st_get rfl h0 rfl) ?_
  refine ex_s (am_nb (m := 1) (pc1 := 15) (ls1 := [(0, .ref 0), (1, .int x0)]) (st1 := [.int x0, .ref 115]) (H1 := H) (k1 := 0) (n1 := 0) (by with_unfolding_all rfl)) ?_
  refine ex_s (st_aald rfl h115 (by rw [c3]; decide) rfl) ?_
  refine ex_s (am_nb (m := 0) (pc1 := 16) (ls1 := [(0, .ref 0), (1, .int x0)]) (st1 := [.ref 155]) (H1 := H) (k1 := 0) (n1 := 0) (by rw [c3]; with_unfolding_all rfl)) ?_
  refine ex_s (st_get rfl h155 rfl) ?_
  refine ex_s (am_nb (m := 2) (pc1 := 23) (ls1 := [(0, .ref 0), (1, .int x0)]) (st1 := [.null]) (H1 := H) (k1 := 0) (n1 := 0) (by with_unfolding_all rfl)) ?_
  exact ex_r (st_aret rfl rfl rfl rfl) ⟨trivial, fun j => rfl⟩

set_option maxRecDepth 100000 in
theorem fx_cells_0 {sL : Nat} {sx : Nat → Int32} {cs : Nat → Nat → Option Int32} {H : am_H} {v0_13 : Int32} {x0 : Int32} {x1 : Int32} (h0 : am_is H 0 (.inr (11, [.ref 1, .int 0, .ref 2, .int 0, .ref 3, .ref 93, .ref 97, .ref 115, .ref 116, .ref 129, .ref 123, .ref 127, .ref 128, .int v0_13, .null, .int 0]))) (h115 : am_is H 115 (.inl ((.object "TerminalHouse$Window"), (8, .inr (.inr (.inr (.inr am_q115))))))) (h141 : am_is H 141 (.inr (9, [.ref 142, .int 0, .int 0, .int 0, .int 0, .int 0, .int 0, .int 0, .int 0, .int 0]))) (h143 : am_is H 143 (.inr (9, [.ref 144, .int 0, .int 0, .int 0, .int 0, .int 0, .int 0, .int 0, .int 0, .int 0]))) (h145 : am_is H 145 (.inr (9, [.ref 146, .int 0, .int 0, .int 0, .int 0, .int 0, .int 0, .int 0, .int 0, .int 0]))) (h147 : am_is H 147 (.inr (9, [.ref 148, .int 0, .int 0, .int 0, .int 0, .int 0, .int 0, .int 0, .int 0, .int 0]))) (h149 : am_is H 149 (.inr (9, [.ref 150, .int 0, .int 0, .int 0, .int 0, .int 0, .int 0, .int 0, .int 0, .int 0]))) (h151 : am_is H 151 (.inr (9, [.ref 152, .int 0, .int 0, .int 0, .int 0, .int 0, .int 0, .int 0, .int 0, .int 0]))) (h153 : am_is H 153 (.inr (9, [.ref 154, .int 0, .int 0, .int 0, .int 0, .int 0, .int 0, .int 0, .int 0, .int 0]))) (h155 : am_is H 155 (.inr (9, [.ref 156, .int 0, .int 0, .int 0, .int 0, .int 0, .int 0, .int 0, .int 0, .int 0]))) (c1 : x0 < 0)  :
    am_E sL sx cs 115 0 [(0, .ref 0), (1, .int x0), (2, .int x1)] [] H (some (.int 0)) (fun H1 => (True) ∧ ∀ j : Nat, H1[j]? = H[j]?) := by
  refine ex_s (am_nb (m := 2) (pc1 := 2) (ls1 := [(0, .ref 0), (1, .int x0), (2, .int x1)]) (st1 := [.int x0, .ref 0]) (H1 := H) (k1 := 0) (n1 := 0) (by with_unfolding_all rfl)) ?_
  refine ex_cv1 (as := [.int x0]) (rest := []) rfl rfl rfl rfl h0 rfl (by with_unfolding_all rfl) (by with_unfolding_all rfl) (fx_cells_1_0 h0 h115 h141 h143 h145 h147 h149 h151 h153 h155 c1) ?_
  rintro H157 ⟨-, k157⟩
  refine ex_s (am_nb (m := 4) (pc1 := 11) (ls1 := [(3, .null), (0, .ref 0), (1, .int x0), (2, .int x1)]) (st1 := [.int 0]) (H1 := H157) (k1 := 0) (n1 := 0) (by with_unfolding_all rfl)) ?_
  exact ex_r (st_iret rfl rfl rfl) ⟨trivial, fun j => (k157 j)⟩

set_option maxRecDepth 100000 in
theorem fx_cells_1 {sL : Nat} {sx : Nat → Int32} {cs : Nat → Nat → Option Int32} {H : am_H} {v0_13 : Int32} {x0 : Int32} {x1 : Int32} (h0 : am_is H 0 (.inr (11, [.ref 1, .int 0, .ref 2, .int 0, .ref 3, .ref 93, .ref 97, .ref 115, .ref 116, .ref 129, .ref 123, .ref 127, .ref 128, .int v0_13, .null, .int 0]))) (h115 : am_is H 115 (.inl ((.object "TerminalHouse$Window"), (8, .inr (.inr (.inr (.inr am_q115))))))) (h141 : am_is H 141 (.inr (9, [.ref 142, .int 0, .int 0, .int 0, .int 0, .int 0, .int 0, .int 0, .int 0, .int 0]))) (h143 : am_is H 143 (.inr (9, [.ref 144, .int 0, .int 0, .int 0, .int 0, .int 0, .int 0, .int 0, .int 0, .int 0]))) (h145 : am_is H 145 (.inr (9, [.ref 146, .int 0, .int 0, .int 0, .int 0, .int 0, .int 0, .int 0, .int 0, .int 0]))) (h147 : am_is H 147 (.inr (9, [.ref 148, .int 0, .int 0, .int 0, .int 0, .int 0, .int 0, .int 0, .int 0, .int 0]))) (h149 : am_is H 149 (.inr (9, [.ref 150, .int 0, .int 0, .int 0, .int 0, .int 0, .int 0, .int 0, .int 0, .int 0]))) (h151 : am_is H 151 (.inr (9, [.ref 152, .int 0, .int 0, .int 0, .int 0, .int 0, .int 0, .int 0, .int 0, .int 0]))) (h153 : am_is H 153 (.inr (9, [.ref 154, .int 0, .int 0, .int 0, .int 0, .int 0, .int 0, .int 0, .int 0, .int 0]))) (h155 : am_is H 155 (.inr (9, [.ref 156, .int 0, .int 0, .int 0, .int 0, .int 0, .int 0, .int 0, .int 0, .int 0]))) (c1 : ¬ x0 < 0) (c2 : 8 ≤ x0)  :
    am_E sL sx cs 115 0 [(0, .ref 0), (1, .int x0), (2, .int x1)] [] H (some (.int 0)) (fun H1 => (True) ∧ ∀ j : Nat, H1[j]? = H[j]?) := by
  refine ex_s (am_nb (m := 2) (pc1 := 2) (ls1 := [(0, .ref 0), (1, .int x0), (2, .int x1)]) (st1 := [.int x0, .ref 0]) (H1 := H) (k1 := 0) (n1 := 0) (by with_unfolding_all rfl)) ?_
  refine ex_cv1 (as := [.int x0]) (rest := []) rfl rfl rfl rfl h0 rfl (by with_unfolding_all rfl) (by with_unfolding_all rfl) (fx_cells_1_1 h0 h115 h141 h143 h145 h147 h149 h151 h153 h155 c1 c2) ?_
  rintro H158 ⟨-, k158⟩
  refine ex_s (am_nb (m := 4) (pc1 := 11) (ls1 := [(3, .null), (0, .ref 0), (1, .int x0), (2, .int x1)]) (st1 := [.int 0]) (H1 := H158) (k1 := 0) (n1 := 0) (by with_unfolding_all rfl)) ?_
  exact ex_r (st_iret rfl rfl rfl) ⟨trivial, fun j => (k158 j)⟩

set_option maxRecDepth 100000 in
theorem fx_cells_2 {sL : Nat} {sx : Nat → Int32} {cs : Nat → Nat → Option Int32} {H : am_H} {v0_13 : Int32} {x0 : Int32} {x1 : Int32} (h0 : am_is H 0 (.inr (11, [.ref 1, .int 0, .ref 2, .int 0, .ref 3, .ref 93, .ref 97, .ref 115, .ref 116, .ref 129, .ref 123, .ref 127, .ref 128, .int v0_13, .null, .int 0]))) (h115 : am_is H 115 (.inl ((.object "TerminalHouse$Window"), (8, .inr (.inr (.inr (.inr am_q115))))))) (h141 : am_is H 141 (.inr (9, [.ref 142, .int 0, .int 0, .int 0, .int 0, .int 0, .int 0, .int 0, .int 0, .int 0]))) (h143 : am_is H 143 (.inr (9, [.ref 144, .int 0, .int 0, .int 0, .int 0, .int 0, .int 0, .int 0, .int 0, .int 0]))) (h145 : am_is H 145 (.inr (9, [.ref 146, .int 0, .int 0, .int 0, .int 0, .int 0, .int 0, .int 0, .int 0, .int 0]))) (h147 : am_is H 147 (.inr (9, [.ref 148, .int 0, .int 0, .int 0, .int 0, .int 0, .int 0, .int 0, .int 0, .int 0]))) (h149 : am_is H 149 (.inr (9, [.ref 150, .int 0, .int 0, .int 0, .int 0, .int 0, .int 0, .int 0, .int 0, .int 0]))) (h151 : am_is H 151 (.inr (9, [.ref 152, .int 0, .int 0, .int 0, .int 0, .int 0, .int 0, .int 0, .int 0, .int 0]))) (h153 : am_is H 153 (.inr (9, [.ref 154, .int 0, .int 0, .int 0, .int 0, .int 0, .int 0, .int 0, .int 0, .int 0]))) (h155 : am_is H 155 (.inr (9, [.ref 156, .int 0, .int 0, .int 0, .int 0, .int 0, .int 0, .int 0, .int 0, .int 0]))) (c1 : ¬ x0 < 0) (c2 : ¬ 8 ≤ x0) (c3 : x0 = 0)  :
    am_E sL sx cs 115 0 [(0, .ref 0), (1, .int x0), (2, .int x1)] [] H (some (.int 0)) (fun H1 => (True) ∧ ∀ j : Nat, H1[j]? = H[j]?) := by
  refine ex_s (am_nb (m := 2) (pc1 := 2) (ls1 := [(0, .ref 0), (1, .int x0), (2, .int x1)]) (st1 := [.int x0, .ref 0]) (H1 := H) (k1 := 0) (n1 := 0) (by with_unfolding_all rfl)) ?_
  refine ex_cv1 (as := [.int x0]) (rest := []) rfl rfl rfl rfl h0 rfl (by with_unfolding_all rfl) (by with_unfolding_all rfl) (fx_cells_1_2 h0 h115 h141 h143 h145 h147 h149 h151 h153 h155 c1 c2 c3) ?_
  rintro H159 ⟨-, k159⟩
  refine ex_s (am_nb (m := 4) (pc1 := 11) (ls1 := [(3, .null), (0, .ref 0), (1, .int x0), (2, .int x1)]) (st1 := [.int 0]) (H1 := H159) (k1 := 0) (n1 := 0) (by with_unfolding_all rfl)) ?_
  exact ex_r (st_iret rfl rfl rfl) ⟨trivial, fun j => (k159 j)⟩

set_option maxRecDepth 100000 in
theorem fx_cells_3 {sL : Nat} {sx : Nat → Int32} {cs : Nat → Nat → Option Int32} {H : am_H} {v0_13 : Int32} {x0 : Int32} {x1 : Int32} (h0 : am_is H 0 (.inr (11, [.ref 1, .int 0, .ref 2, .int 0, .ref 3, .ref 93, .ref 97, .ref 115, .ref 116, .ref 129, .ref 123, .ref 127, .ref 128, .int v0_13, .null, .int 0]))) (h115 : am_is H 115 (.inl ((.object "TerminalHouse$Window"), (8, .inr (.inr (.inr (.inr am_q115))))))) (h141 : am_is H 141 (.inr (9, [.ref 142, .int 0, .int 0, .int 0, .int 0, .int 0, .int 0, .int 0, .int 0, .int 0]))) (h143 : am_is H 143 (.inr (9, [.ref 144, .int 0, .int 0, .int 0, .int 0, .int 0, .int 0, .int 0, .int 0, .int 0]))) (h145 : am_is H 145 (.inr (9, [.ref 146, .int 0, .int 0, .int 0, .int 0, .int 0, .int 0, .int 0, .int 0, .int 0]))) (h147 : am_is H 147 (.inr (9, [.ref 148, .int 0, .int 0, .int 0, .int 0, .int 0, .int 0, .int 0, .int 0, .int 0]))) (h149 : am_is H 149 (.inr (9, [.ref 150, .int 0, .int 0, .int 0, .int 0, .int 0, .int 0, .int 0, .int 0, .int 0]))) (h151 : am_is H 151 (.inr (9, [.ref 152, .int 0, .int 0, .int 0, .int 0, .int 0, .int 0, .int 0, .int 0, .int 0]))) (h153 : am_is H 153 (.inr (9, [.ref 154, .int 0, .int 0, .int 0, .int 0, .int 0, .int 0, .int 0, .int 0, .int 0]))) (h155 : am_is H 155 (.inr (9, [.ref 156, .int 0, .int 0, .int 0, .int 0, .int 0, .int 0, .int 0, .int 0, .int 0]))) (c1 : ¬ x0 < 0) (c2 : ¬ 8 ≤ x0) (c3 : x0 = 1)  :
    am_E sL sx cs 115 0 [(0, .ref 0), (1, .int x0), (2, .int x1)] [] H (some (.int 0)) (fun H1 => (True) ∧ ∀ j : Nat, H1[j]? = H[j]?) := by
  refine ex_s (am_nb (m := 2) (pc1 := 2) (ls1 := [(0, .ref 0), (1, .int x0), (2, .int x1)]) (st1 := [.int x0, .ref 0]) (H1 := H) (k1 := 0) (n1 := 0) (by with_unfolding_all rfl)) ?_
  refine ex_cv1 (as := [.int x0]) (rest := []) rfl rfl rfl rfl h0 rfl (by with_unfolding_all rfl) (by with_unfolding_all rfl) (fx_cells_1_3 h0 h115 h141 h143 h145 h147 h149 h151 h153 h155 c1 c2 c3) ?_
  rintro H160 ⟨-, k160⟩
  refine ex_s (am_nb (m := 4) (pc1 := 11) (ls1 := [(3, .null), (0, .ref 0), (1, .int x0), (2, .int x1)]) (st1 := [.int 0]) (H1 := H160) (k1 := 0) (n1 := 0) (by with_unfolding_all rfl)) ?_
  exact ex_r (st_iret rfl rfl rfl) ⟨trivial, fun j => (k160 j)⟩

set_option maxRecDepth 100000 in
theorem fx_cells_4 {sL : Nat} {sx : Nat → Int32} {cs : Nat → Nat → Option Int32} {H : am_H} {v0_13 : Int32} {x0 : Int32} {x1 : Int32} (h0 : am_is H 0 (.inr (11, [.ref 1, .int 0, .ref 2, .int 0, .ref 3, .ref 93, .ref 97, .ref 115, .ref 116, .ref 129, .ref 123, .ref 127, .ref 128, .int v0_13, .null, .int 0]))) (h115 : am_is H 115 (.inl ((.object "TerminalHouse$Window"), (8, .inr (.inr (.inr (.inr am_q115))))))) (h141 : am_is H 141 (.inr (9, [.ref 142, .int 0, .int 0, .int 0, .int 0, .int 0, .int 0, .int 0, .int 0, .int 0]))) (h143 : am_is H 143 (.inr (9, [.ref 144, .int 0, .int 0, .int 0, .int 0, .int 0, .int 0, .int 0, .int 0, .int 0]))) (h145 : am_is H 145 (.inr (9, [.ref 146, .int 0, .int 0, .int 0, .int 0, .int 0, .int 0, .int 0, .int 0, .int 0]))) (h147 : am_is H 147 (.inr (9, [.ref 148, .int 0, .int 0, .int 0, .int 0, .int 0, .int 0, .int 0, .int 0, .int 0]))) (h149 : am_is H 149 (.inr (9, [.ref 150, .int 0, .int 0, .int 0, .int 0, .int 0, .int 0, .int 0, .int 0, .int 0]))) (h151 : am_is H 151 (.inr (9, [.ref 152, .int 0, .int 0, .int 0, .int 0, .int 0, .int 0, .int 0, .int 0, .int 0]))) (h153 : am_is H 153 (.inr (9, [.ref 154, .int 0, .int 0, .int 0, .int 0, .int 0, .int 0, .int 0, .int 0, .int 0]))) (h155 : am_is H 155 (.inr (9, [.ref 156, .int 0, .int 0, .int 0, .int 0, .int 0, .int 0, .int 0, .int 0, .int 0]))) (c1 : ¬ x0 < 0) (c2 : ¬ 8 ≤ x0) (c3 : x0 = 2)  :
    am_E sL sx cs 115 0 [(0, .ref 0), (1, .int x0), (2, .int x1)] [] H (some (.int 0)) (fun H1 => (True) ∧ ∀ j : Nat, H1[j]? = H[j]?) := by
  refine ex_s (am_nb (m := 2) (pc1 := 2) (ls1 := [(0, .ref 0), (1, .int x0), (2, .int x1)]) (st1 := [.int x0, .ref 0]) (H1 := H) (k1 := 0) (n1 := 0) (by with_unfolding_all rfl)) ?_
  refine ex_cv1 (as := [.int x0]) (rest := []) rfl rfl rfl rfl h0 rfl (by with_unfolding_all rfl) (by with_unfolding_all rfl) (fx_cells_1_4 h0 h115 h141 h143 h145 h147 h149 h151 h153 h155 c1 c2 c3) ?_
  rintro H161 ⟨-, k161⟩
  refine ex_s (am_nb (m := 4) (pc1 := 11) (ls1 := [(3, .null), (0, .ref 0), (1, .int x0), (2, .int x1)]) (st1 := [.int 0]) (H1 := H161) (k1 := 0) (n1 := 0) (by with_unfolding_all rfl)) ?_
  exact ex_r (st_iret rfl rfl rfl) ⟨trivial, fun j => (k161 j)⟩

set_option maxRecDepth 100000 in
theorem fx_cells_5 {sL : Nat} {sx : Nat → Int32} {cs : Nat → Nat → Option Int32} {H : am_H} {v0_13 : Int32} {x0 : Int32} {x1 : Int32} (h0 : am_is H 0 (.inr (11, [.ref 1, .int 0, .ref 2, .int 0, .ref 3, .ref 93, .ref 97, .ref 115, .ref 116, .ref 129, .ref 123, .ref 127, .ref 128, .int v0_13, .null, .int 0]))) (h115 : am_is H 115 (.inl ((.object "TerminalHouse$Window"), (8, .inr (.inr (.inr (.inr am_q115))))))) (h141 : am_is H 141 (.inr (9, [.ref 142, .int 0, .int 0, .int 0, .int 0, .int 0, .int 0, .int 0, .int 0, .int 0]))) (h143 : am_is H 143 (.inr (9, [.ref 144, .int 0, .int 0, .int 0, .int 0, .int 0, .int 0, .int 0, .int 0, .int 0]))) (h145 : am_is H 145 (.inr (9, [.ref 146, .int 0, .int 0, .int 0, .int 0, .int 0, .int 0, .int 0, .int 0, .int 0]))) (h147 : am_is H 147 (.inr (9, [.ref 148, .int 0, .int 0, .int 0, .int 0, .int 0, .int 0, .int 0, .int 0, .int 0]))) (h149 : am_is H 149 (.inr (9, [.ref 150, .int 0, .int 0, .int 0, .int 0, .int 0, .int 0, .int 0, .int 0, .int 0]))) (h151 : am_is H 151 (.inr (9, [.ref 152, .int 0, .int 0, .int 0, .int 0, .int 0, .int 0, .int 0, .int 0, .int 0]))) (h153 : am_is H 153 (.inr (9, [.ref 154, .int 0, .int 0, .int 0, .int 0, .int 0, .int 0, .int 0, .int 0, .int 0]))) (h155 : am_is H 155 (.inr (9, [.ref 156, .int 0, .int 0, .int 0, .int 0, .int 0, .int 0, .int 0, .int 0, .int 0]))) (c1 : ¬ x0 < 0) (c2 : ¬ 8 ≤ x0) (c3 : x0 = 3)  :
    am_E sL sx cs 115 0 [(0, .ref 0), (1, .int x0), (2, .int x1)] [] H (some (.int 0)) (fun H1 => (True) ∧ ∀ j : Nat, H1[j]? = H[j]?) := by
  refine ex_s (am_nb (m := 2) (pc1 := 2) (ls1 := [(0, .ref 0), (1, .int x0), (2, .int x1)]) (st1 := [.int x0, .ref 0]) (H1 := H) (k1 := 0) (n1 := 0) (by with_unfolding_all rfl)) ?_
  refine ex_cv1 (as := [.int x0]) (rest := []) rfl rfl rfl rfl h0 rfl (by with_unfolding_all rfl) (by with_unfolding_all rfl) (fx_cells_1_5 h0 h115 h141 h143 h145 h147 h149 h151 h153 h155 c1 c2 c3) ?_
  rintro H162 ⟨-, k162⟩
  refine ex_s (am_nb (m := 4) (pc1 := 11) (ls1 := [(3, .null), (0, .ref 0), (1, .int x0), (2, .int x1)]) (st1 := [.int 0]) (H1 := H162) (k1 := 0) (n1 := 0) (by with_unfolding_all rfl)) ?_
  exact ex_r (st_iret rfl rfl rfl) ⟨trivial, fun j => (k162 j)⟩

set_option maxRecDepth 100000 in
theorem fx_cells_6 {sL : Nat} {sx : Nat → Int32} {cs : Nat → Nat → Option Int32} {H : am_H} {v0_13 : Int32} {x0 : Int32} {x1 : Int32} (h0 : am_is H 0 (.inr (11, [.ref 1, .int 0, .ref 2, .int 0, .ref 3, .ref 93, .ref 97, .ref 115, .ref 116, .ref 129, .ref 123, .ref 127, .ref 128, .int v0_13, .null, .int 0]))) (h115 : am_is H 115 (.inl ((.object "TerminalHouse$Window"), (8, .inr (.inr (.inr (.inr am_q115))))))) (h141 : am_is H 141 (.inr (9, [.ref 142, .int 0, .int 0, .int 0, .int 0, .int 0, .int 0, .int 0, .int 0, .int 0]))) (h143 : am_is H 143 (.inr (9, [.ref 144, .int 0, .int 0, .int 0, .int 0, .int 0, .int 0, .int 0, .int 0, .int 0]))) (h145 : am_is H 145 (.inr (9, [.ref 146, .int 0, .int 0, .int 0, .int 0, .int 0, .int 0, .int 0, .int 0, .int 0]))) (h147 : am_is H 147 (.inr (9, [.ref 148, .int 0, .int 0, .int 0, .int 0, .int 0, .int 0, .int 0, .int 0, .int 0]))) (h149 : am_is H 149 (.inr (9, [.ref 150, .int 0, .int 0, .int 0, .int 0, .int 0, .int 0, .int 0, .int 0, .int 0]))) (h151 : am_is H 151 (.inr (9, [.ref 152, .int 0, .int 0, .int 0, .int 0, .int 0, .int 0, .int 0, .int 0, .int 0]))) (h153 : am_is H 153 (.inr (9, [.ref 154, .int 0, .int 0, .int 0, .int 0, .int 0, .int 0, .int 0, .int 0, .int 0]))) (h155 : am_is H 155 (.inr (9, [.ref 156, .int 0, .int 0, .int 0, .int 0, .int 0, .int 0, .int 0, .int 0, .int 0]))) (c1 : ¬ x0 < 0) (c2 : ¬ 8 ≤ x0) (c3 : x0 = 4)  :
    am_E sL sx cs 115 0 [(0, .ref 0), (1, .int x0), (2, .int x1)] [] H (some (.int 0)) (fun H1 => (True) ∧ ∀ j : Nat, H1[j]? = H[j]?) := by
  refine ex_s (am_nb (m := 2) (pc1 := 2) (ls1 := [(0, .ref 0), (1, .int x0), (2, .int x1)]) (st1 := [.int x0, .ref 0]) (H1 := H) (k1 := 0) (n1 := 0) (by with_unfolding_all rfl)) ?_
  refine ex_cv1 (as := [.int x0]) (rest := []) rfl rfl rfl rfl h0 rfl (by with_unfolding_all rfl) (by with_unfolding_all rfl) (fx_cells_1_6 h0 h115 h141 h143 h145 h147 h149 h151 h153 h155 c1 c2 c3) ?_
  rintro H163 ⟨-, k163⟩
  refine ex_s (am_nb (m := 4) (pc1 := 11) (ls1 := [(3, .null), (0, .ref 0), (1, .int x0), (2, .int x1)]) (st1 := [.int 0]) (H1 := H163) (k1 := 0) (n1 := 0) (by with_unfolding_all rfl)) ?_
  exact ex_r (st_iret rfl rfl rfl) ⟨trivial, fun j => (k163 j)⟩

set_option maxRecDepth 100000 in
theorem fx_cells_7 {sL : Nat} {sx : Nat → Int32} {cs : Nat → Nat → Option Int32} {H : am_H} {v0_13 : Int32} {x0 : Int32} {x1 : Int32} (h0 : am_is H 0 (.inr (11, [.ref 1, .int 0, .ref 2, .int 0, .ref 3, .ref 93, .ref 97, .ref 115, .ref 116, .ref 129, .ref 123, .ref 127, .ref 128, .int v0_13, .null, .int 0]))) (h115 : am_is H 115 (.inl ((.object "TerminalHouse$Window"), (8, .inr (.inr (.inr (.inr am_q115))))))) (h141 : am_is H 141 (.inr (9, [.ref 142, .int 0, .int 0, .int 0, .int 0, .int 0, .int 0, .int 0, .int 0, .int 0]))) (h143 : am_is H 143 (.inr (9, [.ref 144, .int 0, .int 0, .int 0, .int 0, .int 0, .int 0, .int 0, .int 0, .int 0]))) (h145 : am_is H 145 (.inr (9, [.ref 146, .int 0, .int 0, .int 0, .int 0, .int 0, .int 0, .int 0, .int 0, .int 0]))) (h147 : am_is H 147 (.inr (9, [.ref 148, .int 0, .int 0, .int 0, .int 0, .int 0, .int 0, .int 0, .int 0, .int 0]))) (h149 : am_is H 149 (.inr (9, [.ref 150, .int 0, .int 0, .int 0, .int 0, .int 0, .int 0, .int 0, .int 0, .int 0]))) (h151 : am_is H 151 (.inr (9, [.ref 152, .int 0, .int 0, .int 0, .int 0, .int 0, .int 0, .int 0, .int 0, .int 0]))) (h153 : am_is H 153 (.inr (9, [.ref 154, .int 0, .int 0, .int 0, .int 0, .int 0, .int 0, .int 0, .int 0, .int 0]))) (h155 : am_is H 155 (.inr (9, [.ref 156, .int 0, .int 0, .int 0, .int 0, .int 0, .int 0, .int 0, .int 0, .int 0]))) (c1 : ¬ x0 < 0) (c2 : ¬ 8 ≤ x0) (c3 : x0 = 5)  :
    am_E sL sx cs 115 0 [(0, .ref 0), (1, .int x0), (2, .int x1)] [] H (some (.int 0)) (fun H1 => (True) ∧ ∀ j : Nat, H1[j]? = H[j]?) := by
  refine ex_s (am_nb (m := 2) (pc1 := 2) (ls1 := [(0, .ref 0), (1, .int x0), (2, .int x1)]) (st1 := [.int x0, .ref 0]) (H1 := H) (k1 := 0) (n1 := 0) (by with_unfolding_all rfl)) ?_
  refine ex_cv1 (as := [.int x0]) (rest := []) rfl rfl rfl rfl h0 rfl (by with_unfolding_all rfl) (by with_unfolding_all rfl) (fx_cells_1_7 h0 h115 h141 h143 h145 h147 h149 h151 h153 h155 c1 c2 c3) ?_
  rintro H164 ⟨-, k164⟩
  refine ex_s (am_nb (m := 4) (pc1 := 11) (ls1 := [(3, .null), (0, .ref 0), (1, .int x0), (2, .int x1)]) (st1 := [.int 0]) (H1 := H164) (k1 := 0) (n1 := 0) (by with_unfolding_all rfl)) ?_
  exact ex_r (st_iret rfl rfl rfl) ⟨trivial, fun j => (k164 j)⟩

set_option maxRecDepth 100000 in
theorem fx_cells_8 {sL : Nat} {sx : Nat → Int32} {cs : Nat → Nat → Option Int32} {H : am_H} {v0_13 : Int32} {x0 : Int32} {x1 : Int32} (h0 : am_is H 0 (.inr (11, [.ref 1, .int 0, .ref 2, .int 0, .ref 3, .ref 93, .ref 97, .ref 115, .ref 116, .ref 129, .ref 123, .ref 127, .ref 128, .int v0_13, .null, .int 0]))) (h115 : am_is H 115 (.inl ((.object "TerminalHouse$Window"), (8, .inr (.inr (.inr (.inr am_q115))))))) (h141 : am_is H 141 (.inr (9, [.ref 142, .int 0, .int 0, .int 0, .int 0, .int 0, .int 0, .int 0, .int 0, .int 0]))) (h143 : am_is H 143 (.inr (9, [.ref 144, .int 0, .int 0, .int 0, .int 0, .int 0, .int 0, .int 0, .int 0, .int 0]))) (h145 : am_is H 145 (.inr (9, [.ref 146, .int 0, .int 0, .int 0, .int 0, .int 0, .int 0, .int 0, .int 0, .int 0]))) (h147 : am_is H 147 (.inr (9, [.ref 148, .int 0, .int 0, .int 0, .int 0, .int 0, .int 0, .int 0, .int 0, .int 0]))) (h149 : am_is H 149 (.inr (9, [.ref 150, .int 0, .int 0, .int 0, .int 0, .int 0, .int 0, .int 0, .int 0, .int 0]))) (h151 : am_is H 151 (.inr (9, [.ref 152, .int 0, .int 0, .int 0, .int 0, .int 0, .int 0, .int 0, .int 0, .int 0]))) (h153 : am_is H 153 (.inr (9, [.ref 154, .int 0, .int 0, .int 0, .int 0, .int 0, .int 0, .int 0, .int 0, .int 0]))) (h155 : am_is H 155 (.inr (9, [.ref 156, .int 0, .int 0, .int 0, .int 0, .int 0, .int 0, .int 0, .int 0, .int 0]))) (c1 : ¬ x0 < 0) (c2 : ¬ 8 ≤ x0) (c3 : x0 = 6)  :
    am_E sL sx cs 115 0 [(0, .ref 0), (1, .int x0), (2, .int x1)] [] H (some (.int 0)) (fun H1 => (True) ∧ ∀ j : Nat, H1[j]? = H[j]?) := by
  refine ex_s (am_nb (m := 2) (pc1 := 2) (ls1 := [(0, .ref 0), (1, .int x0), (2, .int x1)]) (st1 := [.int x0, .ref 0]) (H1 := H) (k1 := 0) (n1 := 0) (by with_unfolding_all rfl)) ?_
  refine ex_cv1 (as := [.int x0]) (rest := []) rfl rfl rfl rfl h0 rfl (by with_unfolding_all rfl) (by with_unfolding_all rfl) (fx_cells_1_8 h0 h115 h141 h143 h145 h147 h149 h151 h153 h155 c1 c2 c3) ?_
  rintro H165 ⟨-, k165⟩
  refine ex_s (am_nb (m := 4) (pc1 := 11) (ls1 := [(3, .null), (0, .ref 0), (1, .int x0), (2, .int x1)]) (st1 := [.int 0]) (H1 := H165) (k1 := 0) (n1 := 0) (by with_unfolding_all rfl)) ?_
  exact ex_r (st_iret rfl rfl rfl) ⟨trivial, fun j => (k165 j)⟩

set_option maxRecDepth 100000 in
theorem fx_cells_9 {sL : Nat} {sx : Nat → Int32} {cs : Nat → Nat → Option Int32} {H : am_H} {v0_13 : Int32} {x0 : Int32} {x1 : Int32} (h0 : am_is H 0 (.inr (11, [.ref 1, .int 0, .ref 2, .int 0, .ref 3, .ref 93, .ref 97, .ref 115, .ref 116, .ref 129, .ref 123, .ref 127, .ref 128, .int v0_13, .null, .int 0]))) (h115 : am_is H 115 (.inl ((.object "TerminalHouse$Window"), (8, .inr (.inr (.inr (.inr am_q115))))))) (h141 : am_is H 141 (.inr (9, [.ref 142, .int 0, .int 0, .int 0, .int 0, .int 0, .int 0, .int 0, .int 0, .int 0]))) (h143 : am_is H 143 (.inr (9, [.ref 144, .int 0, .int 0, .int 0, .int 0, .int 0, .int 0, .int 0, .int 0, .int 0]))) (h145 : am_is H 145 (.inr (9, [.ref 146, .int 0, .int 0, .int 0, .int 0, .int 0, .int 0, .int 0, .int 0, .int 0]))) (h147 : am_is H 147 (.inr (9, [.ref 148, .int 0, .int 0, .int 0, .int 0, .int 0, .int 0, .int 0, .int 0, .int 0]))) (h149 : am_is H 149 (.inr (9, [.ref 150, .int 0, .int 0, .int 0, .int 0, .int 0, .int 0, .int 0, .int 0, .int 0]))) (h151 : am_is H 151 (.inr (9, [.ref 152, .int 0, .int 0, .int 0, .int 0, .int 0, .int 0, .int 0, .int 0, .int 0]))) (h153 : am_is H 153 (.inr (9, [.ref 154, .int 0, .int 0, .int 0, .int 0, .int 0, .int 0, .int 0, .int 0, .int 0]))) (h155 : am_is H 155 (.inr (9, [.ref 156, .int 0, .int 0, .int 0, .int 0, .int 0, .int 0, .int 0, .int 0, .int 0]))) (c1 : ¬ x0 < 0) (c2 : ¬ 8 ≤ x0) (c3 : x0 = 7)  :
    am_E sL sx cs 115 0 [(0, .ref 0), (1, .int x0), (2, .int x1)] [] H (some (.int 0)) (fun H1 => (True) ∧ ∀ j : Nat, H1[j]? = H[j]?) := by
  refine ex_s (am_nb (m := 2) (pc1 := 2) (ls1 := [(0, .ref 0), (1, .int x0), (2, .int x1)]) (st1 := [.int x0, .ref 0]) (H1 := H) (k1 := 0) (n1 := 0) (by with_unfolding_all rfl)) ?_
  refine ex_cv1 (as := [.int x0]) (rest := []) rfl rfl rfl rfl h0 rfl (by with_unfolding_all rfl) (by with_unfolding_all rfl) (fx_cells_1_9 h0 h115 h141 h143 h145 h147 h149 h151 h153 h155 c1 c2 c3) ?_
  rintro H166 ⟨-, k166⟩
  refine ex_s (am_nb (m := 4) (pc1 := 11) (ls1 := [(3, .null), (0, .ref 0), (1, .int x0), (2, .int x1)]) (st1 := [.int 0]) (H1 := H166) (k1 := 0) (n1 := 0) (by with_unfolding_all rfl)) ?_
  exact ex_r (st_iret rfl rfl rfl) ⟨trivial, fun j => (k166 j)⟩

set_option maxRecDepth 100000 in
theorem fx_roll_1_0 {sL : Nat} {sx : Nat → Int32} {cs : Nat → Nat → Option Int32} {H : am_H} {v0_13 : Int32} {x0 : Int32} (h0 : am_is H 0 (.inr (11, [.ref 1, .int 0, .ref 2, .int 0, .ref 3, .ref 93, .ref 97, .ref 115, .ref 116, .ref 129, .ref 123, .ref 127, .ref 128, .int v0_13, .null, .int 0]))) (h115 : am_is H 115 (.inl ((.object "TerminalHouse$Window"), (8, .inr (.inr (.inr (.inr am_q115))))))) (h141 : am_is H 141 (.inr (9, [.ref 142, .int 0, .int 0, .int 0, .int 0, .int 0, .int 0, .int 0, .int 0, .int 0]))) (h143 : am_is H 143 (.inr (9, [.ref 144, .int 0, .int 0, .int 0, .int 0, .int 0, .int 0, .int 0, .int 0, .int 0]))) (h145 : am_is H 145 (.inr (9, [.ref 146, .int 0, .int 0, .int 0, .int 0, .int 0, .int 0, .int 0, .int 0, .int 0]))) (h147 : am_is H 147 (.inr (9, [.ref 148, .int 0, .int 0, .int 0, .int 0, .int 0, .int 0, .int 0, .int 0, .int 0]))) (h149 : am_is H 149 (.inr (9, [.ref 150, .int 0, .int 0, .int 0, .int 0, .int 0, .int 0, .int 0, .int 0, .int 0]))) (h151 : am_is H 151 (.inr (9, [.ref 152, .int 0, .int 0, .int 0, .int 0, .int 0, .int 0, .int 0, .int 0, .int 0]))) (h153 : am_is H 153 (.inr (9, [.ref 154, .int 0, .int 0, .int 0, .int 0, .int 0, .int 0, .int 0, .int 0, .int 0]))) (h155 : am_is H 155 (.inr (9, [.ref 156, .int 0, .int 0, .int 0, .int 0, .int 0, .int 0, .int 0, .int 0, .int 0]))) (c1 : x0 < 0)  :
    am_E sL sx cs 98 0 [(0, .ref 0), (1, .int x0)] [] H (some (.null)) (fun H1 => (True) ∧ ∀ j : Nat, H1[j]? = H[j]?) := by
  refine ex_s (am_nb (m := 1) (pc1 := 1) (ls1 := [(0, .ref 0), (1, .int x0)]) (st1 := [.int x0]) (H1 := H) (k1 := 0) (n1 := 0) (by with_unfolding_all rfl)) ?_
  refine ex_s (st_if rfl) ?_
  refine ex_pc (if_pos c1) ?_
  refine ex_s (am_nb (m := 1) (pc1 := 23) (ls1 := [(0, .ref 0), (1, .int x0)]) (st1 := [.null]) (H1 := H) (k1 := 0) (n1 := 0) (by with_unfolding_all rfl)) ?_
  exact ex_r (st_aret rfl rfl rfl rfl) ⟨trivial, fun j => rfl⟩

set_option maxRecDepth 100000 in
theorem fx_roll_1_1 {sL : Nat} {sx : Nat → Int32} {cs : Nat → Nat → Option Int32} {H : am_H} {v0_13 : Int32} {x0 : Int32} (h0 : am_is H 0 (.inr (11, [.ref 1, .int 0, .ref 2, .int 0, .ref 3, .ref 93, .ref 97, .ref 115, .ref 116, .ref 129, .ref 123, .ref 127, .ref 128, .int v0_13, .null, .int 0]))) (h115 : am_is H 115 (.inl ((.object "TerminalHouse$Window"), (8, .inr (.inr (.inr (.inr am_q115))))))) (h141 : am_is H 141 (.inr (9, [.ref 142, .int 0, .int 0, .int 0, .int 0, .int 0, .int 0, .int 0, .int 0, .int 0]))) (h143 : am_is H 143 (.inr (9, [.ref 144, .int 0, .int 0, .int 0, .int 0, .int 0, .int 0, .int 0, .int 0, .int 0]))) (h145 : am_is H 145 (.inr (9, [.ref 146, .int 0, .int 0, .int 0, .int 0, .int 0, .int 0, .int 0, .int 0, .int 0]))) (h147 : am_is H 147 (.inr (9, [.ref 148, .int 0, .int 0, .int 0, .int 0, .int 0, .int 0, .int 0, .int 0, .int 0]))) (h149 : am_is H 149 (.inr (9, [.ref 150, .int 0, .int 0, .int 0, .int 0, .int 0, .int 0, .int 0, .int 0, .int 0]))) (h151 : am_is H 151 (.inr (9, [.ref 152, .int 0, .int 0, .int 0, .int 0, .int 0, .int 0, .int 0, .int 0, .int 0]))) (h153 : am_is H 153 (.inr (9, [.ref 154, .int 0, .int 0, .int 0, .int 0, .int 0, .int 0, .int 0, .int 0, .int 0]))) (h155 : am_is H 155 (.inr (9, [.ref 156, .int 0, .int 0, .int 0, .int 0, .int 0, .int 0, .int 0, .int 0, .int 0]))) (c1 : ¬ x0 < 0) (c2 : 8 ≤ x0)  :
    am_E sL sx cs 98 0 [(0, .ref 0), (1, .int x0)] [] H (some (.null)) (fun H1 => (True) ∧ ∀ j : Nat, H1[j]? = H[j]?) := by
  refine ex_s (am_nb (m := 1) (pc1 := 1) (ls1 := [(0, .ref 0), (1, .int x0)]) (st1 := [.int x0]) (H1 := H) (k1 := 0) (n1 := 0) (by with_unfolding_all rfl)) ?_
  refine ex_s (st_if rfl) ?_
  refine ex_pc (if_neg c1) ?_
  refine ex_s (am_nb (m := 2) (pc1 := 7) (ls1 := [(0, .ref 0), (1, .int x0)]) (st1 := [.int 8, .int x0]) (H1 := H) (k1 := 0) (n1 := 0) (by with_unfolding_all rfl)) ?_
  refine ex_s (st_icmp rfl) ?_
  refine ex_pc (if_pos c2) ?_
  refine ex_s (am_nb (m := 1) (pc1 := 23) (ls1 := [(0, .ref 0), (1, .int x0)]) (st1 := [.null]) (H1 := H) (k1 := 0) (n1 := 0) (by with_unfolding_all rfl)) ?_
  exact ex_r (st_aret rfl rfl rfl rfl) ⟨trivial, fun j => rfl⟩

set_option maxRecDepth 100000 in
theorem fx_roll_1_2 {sL : Nat} {sx : Nat → Int32} {cs : Nat → Nat → Option Int32} {H : am_H} {v0_13 : Int32} {x0 : Int32} (h0 : am_is H 0 (.inr (11, [.ref 1, .int 0, .ref 2, .int 0, .ref 3, .ref 93, .ref 97, .ref 115, .ref 116, .ref 129, .ref 123, .ref 127, .ref 128, .int v0_13, .null, .int 0]))) (h115 : am_is H 115 (.inl ((.object "TerminalHouse$Window"), (8, .inr (.inr (.inr (.inr am_q115))))))) (h141 : am_is H 141 (.inr (9, [.ref 142, .int 0, .int 0, .int 0, .int 0, .int 0, .int 0, .int 0, .int 0, .int 0]))) (h143 : am_is H 143 (.inr (9, [.ref 144, .int 0, .int 0, .int 0, .int 0, .int 0, .int 0, .int 0, .int 0, .int 0]))) (h145 : am_is H 145 (.inr (9, [.ref 146, .int 0, .int 0, .int 0, .int 0, .int 0, .int 0, .int 0, .int 0, .int 0]))) (h147 : am_is H 147 (.inr (9, [.ref 148, .int 0, .int 0, .int 0, .int 0, .int 0, .int 0, .int 0, .int 0, .int 0]))) (h149 : am_is H 149 (.inr (9, [.ref 150, .int 0, .int 0, .int 0, .int 0, .int 0, .int 0, .int 0, .int 0, .int 0]))) (h151 : am_is H 151 (.inr (9, [.ref 152, .int 0, .int 0, .int 0, .int 0, .int 0, .int 0, .int 0, .int 0, .int 0]))) (h153 : am_is H 153 (.inr (9, [.ref 154, .int 0, .int 0, .int 0, .int 0, .int 0, .int 0, .int 0, .int 0, .int 0]))) (h155 : am_is H 155 (.inr (9, [.ref 156, .int 0, .int 0, .int 0, .int 0, .int 0, .int 0, .int 0, .int 0, .int 0]))) (c1 : ¬ x0 < 0) (c2 : ¬ 8 ≤ x0) (c3 : x0 = 0)  :
    am_E sL sx cs 98 0 [(0, .ref 0), (1, .int x0)] [] H (some (.null)) (fun H1 => (True) ∧ ∀ j : Nat, H1[j]? = H[j]?) := by
  refine ex_s (am_nb (m := 1) (pc1 := 1) (ls1 := [(0, .ref 0), (1, .int x0)]) (st1 := [.int x0]) (H1 := H) (k1 := 0) (n1 := 0) (by with_unfolding_all rfl)) ?_
  refine ex_s (st_if rfl) ?_
  refine ex_pc (if_neg c1) ?_
  refine ex_s (am_nb (m := 2) (pc1 := 7) (ls1 := [(0, .ref 0), (1, .int x0)]) (st1 := [.int 8, .int x0]) (H1 := H) (k1 := 0) (n1 := 0) (by with_unfolding_all rfl)) ?_
  refine ex_s (st_icmp rfl) ?_
  refine ex_pc (if_neg c2) ?_
  refine ex_s (am_nb (m := 1) (pc1 := 11) (ls1 := [(0, .ref 0), (1, .int x0)]) (st1 := [.ref 0]) (H1 := H) (k1 := 0) (n1 := 0) (by with_unfolding_all rfl)) ?_
  refine ex_s (st_get rfl h0 rfl) ?_
  refine ex_s (am_nb (m := 1) (pc1 := 15) (ls1 := [(0, .ref 0), (1, .int x0)]) (st1 := [.int x0, .ref 115]) (H1 := H) (k1 := 0) (n1 := 0) (by with_unfolding_all rfl)) ?_
  refine ex_s (st_aald rfl h115 (by rw [c3]; decide) rfl) ?_
  refine ex_s (am_nb (m := 0) (pc1 := 16) (ls1 := [(0, .ref 0), (1, .int x0)]) (st1 := [.ref 141]) (H1 := H) (k1 := 0) (n1 := 0) (by rw [c3]; with_unfolding_all rfl)) ?_
  refine ex_s (st_get rfl h141 rfl) ?_
  refine ex_s (am_nb (m := 2) (pc1 := 23) (ls1 := [(0, .ref 0), (1, .int x0)]) (st1 := [.null]) (H1 := H) (k1 := 0) (n1 := 0) (by with_unfolding_all rfl)) ?_
  exact ex_r (st_aret rfl rfl rfl rfl) ⟨trivial, fun j => rfl⟩

set_option maxRecDepth 100000 in
theorem fx_roll_1_3 {sL : Nat} {sx : Nat → Int32} {cs : Nat → Nat → Option Int32} {H : am_H} {v0_13 : Int32} {x0 : Int32} (h0 : am_is H 0 (.inr (11, [.ref 1, .int 0, .ref 2, .int 0, .ref 3, .ref 93, .ref 97, .ref 115, .ref 116, .ref 129, .ref 123, .ref 127, .ref 128, .int v0_13, .null, .int 0]))) (h115 : am_is H 115 (.inl ((.object "TerminalHouse$Window"), (8, .inr (.inr (.inr (.inr am_q115))))))) (h141 : am_is H 141 (.inr (9, [.ref 142, .int 0, .int 0, .int 0, .int 0, .int 0, .int 0, .int 0, .int 0, .int 0]))) (h143 : am_is H 143 (.inr (9, [.ref 144, .int 0, .int 0, .int 0, .int 0, .int 0, .int 0, .int 0, .int 0, .int 0]))) (h145 : am_is H 145 (.inr (9, [.ref 146, .int 0, .int 0, .int 0, .int 0, .int 0, .int 0, .int 0, .int 0, .int 0]))) (h147 : am_is H 147 (.inr (9, [.ref 148, .int 0, .int 0, .int 0, .int 0, .int 0, .int 0, .int 0, .int 0, .int 0]))) (h149 : am_is H 149 (.inr (9, [.ref 150, .int 0, .int 0, .int 0, .int 0, .int 0, .int 0, .int 0, .int 0, .int 0]))) (h151 : am_is H 151 (.inr (9, [.ref 152, .int 0, .int 0, .int 0, .int 0, .int 0, .int 0, .int 0, .int 0, .int 0]))) (h153 : am_is H 153 (.inr (9, [.ref 154, .int 0, .int 0, .int 0, .int 0, .int 0, .int 0, .int 0, .int 0, .int 0]))) (h155 : am_is H 155 (.inr (9, [.ref 156, .int 0, .int 0, .int 0, .int 0, .int 0, .int 0, .int 0, .int 0, .int 0]))) (c1 : ¬ x0 < 0) (c2 : ¬ 8 ≤ x0) (c3 : x0 = 1)  :
    am_E sL sx cs 98 0 [(0, .ref 0), (1, .int x0)] [] H (some (.null)) (fun H1 => (True) ∧ ∀ j : Nat, H1[j]? = H[j]?) := by
  refine ex_s (am_nb (m := 1) (pc1 := 1) (ls1 := [(0, .ref 0), (1, .int x0)]) (st1 := [.int x0]) (H1 := H) (k1 := 0) (n1 := 0) (by with_unfolding_all rfl)) ?_
  refine ex_s (st_if rfl) ?_
  refine ex_pc (if_neg c1) ?_
  refine ex_s (am_nb (m := 2) (pc1 := 7) (ls1 := [(0, .ref 0), (1, .int x0)]) (st1 := [.int 8, .int x0]) (H1 := H) (k1 := 0) (n1 := 0) (by with_unfolding_all rfl)) ?_
  refine ex_s (st_icmp rfl) ?_
  refine ex_pc (if_neg c2) ?_
  refine ex_s (am_nb (m := 1) (pc1 := 11) (ls1 := [(0, .ref 0), (1, .int x0)]) (st1 := [.ref 0]) (H1 := H) (k1 := 0) (n1 := 0) (by with_unfolding_all rfl)) ?_
  refine ex_s (st_get rfl h0 rfl) ?_
  refine ex_s (am_nb (m := 1) (pc1 := 15) (ls1 := [(0, .ref 0), (1, .int x0)]) (st1 := [.int x0, .ref 115]) (H1 := H) (k1 := 0) (n1 := 0) (by with_unfolding_all rfl)) ?_
  refine ex_s (st_aald rfl h115 (by rw [c3]; decide) rfl) ?_
  refine ex_s (am_nb (m := 0) (pc1 := 16) (ls1 := [(0, .ref 0), (1, .int x0)]) (st1 := [.ref 143]) (H1 := H) (k1 := 0) (n1 := 0) (by rw [c3]; with_unfolding_all rfl)) ?_
  refine ex_s (st_get rfl h143 rfl) ?_
  refine ex_s (am_nb (m := 2) (pc1 := 23) (ls1 := [(0, .ref 0), (1, .int x0)]) (st1 := [.null]) (H1 := H) (k1 := 0) (n1 := 0) (by with_unfolding_all rfl)) ?_
  exact ex_r (st_aret rfl rfl rfl rfl) ⟨trivial, fun j => rfl⟩

set_option maxRecDepth 100000 in
theorem fx_roll_1_4 {sL : Nat} {sx : Nat → Int32} {cs : Nat → Nat → Option Int32} {H : am_H} {v0_13 : Int32} {x0 : Int32} (h0 : am_is H 0 (.inr (11, [.ref 1, .int 0, .ref 2, .int 0, .ref 3, .ref 93, .ref 97, .ref 115, .ref 116, .ref 129, .ref 123, .ref 127, .ref 128, .int v0_13, .null, .int 0]))) (h115 : am_is H 115 (.inl ((.object "TerminalHouse$Window"), (8, .inr (.inr (.inr (.inr am_q115))))))) (h141 : am_is H 141 (.inr (9, [.ref 142, .int 0, .int 0, .int 0, .int 0, .int 0, .int 0, .int 0, .int 0, .int 0]))) (h143 : am_is H 143 (.inr (9, [.ref 144, .int 0, .int 0, .int 0, .int 0, .int 0, .int 0, .int 0, .int 0, .int 0]))) (h145 : am_is H 145 (.inr (9, [.ref 146, .int 0, .int 0, .int 0, .int 0, .int 0, .int 0, .int 0, .int 0, .int 0]))) (h147 : am_is H 147 (.inr (9, [.ref 148, .int 0, .int 0, .int 0, .int 0, .int 0, .int 0, .int 0, .int 0, .int 0]))) (h149 : am_is H 149 (.inr (9, [.ref 150, .int 0, .int 0, .int 0, .int 0, .int 0, .int 0, .int 0, .int 0, .int 0]))) (h151 : am_is H 151 (.inr (9, [.ref 152, .int 0, .int 0, .int 0, .int 0, .int 0, .int 0, .int 0, .int 0, .int 0]))) (h153 : am_is H 153 (.inr (9, [.ref 154, .int 0, .int 0, .int 0, .int 0, .int 0, .int 0, .int 0, .int 0, .int 0]))) (h155 : am_is H 155 (.inr (9, [.ref 156, .int 0, .int 0, .int 0, .int 0, .int 0, .int 0, .int 0, .int 0, .int 0]))) (c1 : ¬ x0 < 0) (c2 : ¬ 8 ≤ x0) (c3 : x0 = 2)  :
    am_E sL sx cs 98 0 [(0, .ref 0), (1, .int x0)] [] H (some (.null)) (fun H1 => (True) ∧ ∀ j : Nat, H1[j]? = H[j]?) := by
  refine ex_s (am_nb (m := 1) (pc1 := 1) (ls1 := [(0, .ref 0), (1, .int x0)]) (st1 := [.int x0]) (H1 := H) (k1 := 0) (n1 := 0) (by with_unfolding_all rfl)) ?_
  refine ex_s (st_if rfl) ?_
  refine ex_pc (if_neg c1) ?_
  refine ex_s (am_nb (m := 2) (pc1 := 7) (ls1 := [(0, .ref 0), (1, .int x0)]) (st1 := [.int 8, .int x0]) (H1 := H) (k1 := 0) (n1 := 0) (by with_unfolding_all rfl)) ?_
  refine ex_s (st_icmp rfl) ?_
  refine ex_pc (if_neg c2) ?_
  refine ex_s (am_nb (m := 1) (pc1 := 11) (ls1 := [(0, .ref 0), (1, .int x0)]) (st1 := [.ref 0]) (H1 := H) (k1 := 0) (n1 := 0) (by with_unfolding_all rfl)) ?_
  refine ex_s (st_get rfl h0 rfl) ?_
  refine ex_s (am_nb (m := 1) (pc1 := 15) (ls1 := [(0, .ref 0), (1, .int x0)]) (st1 := [.int x0, .ref 115]) (H1 := H) (k1 := 0) (n1 := 0) (by with_unfolding_all rfl)) ?_
  refine ex_s (st_aald rfl h115 (by rw [c3]; decide) rfl) ?_
  refine ex_s (am_nb (m := 0) (pc1 := 16) (ls1 := [(0, .ref 0), (1, .int x0)]) (st1 := [.ref 145]) (H1 := H) (k1 := 0) (n1 := 0) (by rw [c3]; with_unfolding_all rfl)) ?_
  refine ex_s (st_get rfl h145 rfl) ?_
  refine ex_s (am_nb (m := 2) (pc1 := 23) (ls1 := [(0, .ref 0), (1, .int x0)]) (st1 := [.null]) (H1 := H) (k1 := 0) (n1 := 0) (by with_unfolding_all rfl)) ?_
  exact ex_r (st_aret rfl rfl rfl rfl) ⟨trivial, fun j => rfl⟩

set_option maxRecDepth 100000 in
theorem fx_roll_1_5 {sL : Nat} {sx : Nat → Int32} {cs : Nat → Nat → Option Int32} {H : am_H} {v0_13 : Int32} {x0 : Int32} (h0 : am_is H 0 (.inr (11, [.ref 1, .int 0, .ref 2, .int 0, .ref 3, .ref 93, .ref 97, .ref 115, .ref 116, .ref 129, .ref 123, .ref 127, .ref 128, .int v0_13, .null, .int 0]))) (h115 : am_is H 115 (.inl ((.object "TerminalHouse$Window"), (8, .inr (.inr (.inr (.inr am_q115))))))) (h141 : am_is H 141 (.inr (9, [.ref 142, .int 0, .int 0, .int 0, .int 0, .int 0, .int 0, .int 0, .int 0, .int 0]))) (h143 : am_is H 143 (.inr (9, [.ref 144, .int 0, .int 0, .int 0, .int 0, .int 0, .int 0, .int 0, .int 0, .int 0]))) (h145 : am_is H 145 (.inr (9, [.ref 146, .int 0, .int 0, .int 0, .int 0, .int 0, .int 0, .int 0, .int 0, .int 0]))) (h147 : am_is H 147 (.inr (9, [.ref 148, .int 0, .int 0, .int 0, .int 0, .int 0, .int 0, .int 0, .int 0, .int 0]))) (h149 : am_is H 149 (.inr (9, [.ref 150, .int 0, .int 0, .int 0, .int 0, .int 0, .int 0, .int 0, .int 0, .int 0]))) (h151 : am_is H 151 (.inr (9, [.ref 152, .int 0, .int 0, .int 0, .int 0, .int 0, .int 0, .int 0, .int 0, .int 0]))) (h153 : am_is H 153 (.inr (9, [.ref 154, .int 0, .int 0, .int 0, .int 0, .int 0, .int 0, .int 0, .int 0, .int 0]))) (h155 : am_is H 155 (.inr (9, [.ref 156, .int 0, .int 0, .int 0, .int 0, .int 0, .int 0, .int 0, .int 0, .int 0]))) (c1 : ¬ x0 < 0) (c2 : ¬ 8 ≤ x0) (c3 : x0 = 3)  :
    am_E sL sx cs 98 0 [(0, .ref 0), (1, .int x0)] [] H (some (.null)) (fun H1 => (True) ∧ ∀ j : Nat, H1[j]? = H[j]?) := by
  refine ex_s (am_nb (m := 1) (pc1 := 1) (ls1 := [(0, .ref 0), (1, .int x0)]) (st1 := [.int x0]) (H1 := H) (k1 := 0) (n1 := 0) (by with_unfolding_all rfl)) ?_
  refine ex_s (st_if rfl) ?_
  refine ex_pc (if_neg c1) ?_
  refine ex_s (am_nb (m := 2) (pc1 := 7) (ls1 := [(0, .ref 0), (1, .int x0)]) (st1 := [.int 8, .int x0]) (H1 := H) (k1 := 0) (n1 := 0) (by with_unfolding_all rfl)) ?_
  refine ex_s (st_icmp rfl) ?_
  refine ex_pc (if_neg c2) ?_
  refine ex_s (am_nb (m := 1) (pc1 := 11) (ls1 := [(0, .ref 0), (1, .int x0)]) (st1 := [.ref 0]) (H1 := H) (k1 := 0) (n1 := 0) (by with_unfolding_all rfl)) ?_
  refine ex_s (st_get rfl h0 rfl) ?_
  refine ex_s (am_nb (m := 1) (pc1 := 15) (ls1 := [(0, .ref 0), (1, .int x0)]) (st1 := [.int x0, .ref 115]) (H1 := H) (k1 := 0) (n1 := 0) (by with_unfolding_all rfl)) ?_
  refine ex_s (st_aald rfl h115 (by rw [c3]; decide) rfl) ?_
  refine ex_s (am_nb (m := 0) (pc1 := 16) (ls1 := [(0, .ref 0), (1, .int x0)]) (st1 := [.ref 147]) (H1 := H) (k1 := 0) (n1 := 0) (by rw [c3]; with_unfolding_all rfl)) ?_
  refine ex_s (st_get rfl h147 rfl) ?_
  refine ex_s (am_nb (m := 2) (pc1 := 23) (ls1 := [(0, .ref 0), (1, .int x0)]) (st1 := [.null]) (H1 := H) (k1 := 0) (n1 := 0) (by with_unfolding_all rfl)) ?_
  exact ex_r (st_aret rfl rfl rfl rfl) ⟨trivial, fun j => rfl⟩

set_option maxRecDepth 100000 in
theorem fx_roll_1_6 {sL : Nat} {sx : Nat → Int32} {cs : Nat → Nat → Option Int32} {H : am_H} {v0_13 : Int32} {x0 : Int32} (h0 : am_is H 0 (.inr (11, [.ref 1, .int 0, .ref 2, .int 0, .ref 3, .ref 93, .ref 97, .ref 115, .ref 116, .ref 129, .ref 123, .ref 127, .ref 128, .int v0_13, .null, .int 0]))) (h115 : am_is H 115 (.inl ((.object "TerminalHouse$Window"), (8, .inr (.inr (.inr (.inr am_q115))))))) (h141 : am_is H 141 (.inr (9, [.ref 142, .int 0, .int 0, .int 0, .int 0, .int 0, .int 0, .int 0, .int 0, .int 0]))) (h143 : am_is H 143 (.inr (9, [.ref 144, .int 0, .int 0, .int 0, .int 0, .int 0, .int 0, .int 0, .int 0, .int 0]))) (h145 : am_is H 145 (.inr (9, [.ref 146, .int 0, .int 0, .int 0, .int 0, .int 0, .int 0, .int 0, .int 0, .int 0]))) (h147 : am_is H 147 (.inr (9, [.ref 148, .int 0, .int 0, .int 0, .int 0, .int 0, .int 0, .int 0, .int 0, .int 0]))) (h149 : am_is H 149 (.inr (9, [.ref 150, .int 0, .int 0, .int 0, .int 0, .int 0, .int 0, .int 0, .int 0, .int 0]))) (h151 : am_is H 151 (.inr (9, [.ref 152, .int 0, .int 0, .int 0, .int 0, .int 0, .int 0, .int 0, .int 0, .int 0]))) (h153 : am_is H 153 (.inr (9, [.ref 154, .int 0, .int 0, .int 0, .int 0, .int 0, .int 0, .int 0, .int 0, .int 0]))) (h155 : am_is H 155 (.inr (9, [.ref 156, .int 0, .int 0, .int 0, .int 0, .int 0, .int 0, .int 0, .int 0, .int 0]))) (c1 : ¬ x0 < 0) (c2 : ¬ 8 ≤ x0) (c3 : x0 = 4)  :
    am_E sL sx cs 98 0 [(0, .ref 0), (1, .int x0)] [] H (some (.null)) (fun H1 => (True) ∧ ∀ j : Nat, H1[j]? = H[j]?) := by
  refine ex_s (am_nb (m := 1) (pc1 := 1) (ls1 := [(0, .ref 0), (1, .int x0)]) (st1 := [.int x0]) (H1 := H) (k1 := 0) (n1 := 0) (by with_unfolding_all rfl)) ?_
  refine ex_s (st_if rfl) ?_
  refine ex_pc (if_neg c1) ?_
  refine ex_s (am_nb (m := 2) (pc1 := 7) (ls1 := [(0, .ref 0), (1, .int x0)]) (st1 := [.int 8, .int x0]) (H1 := H) (k1 := 0) (n1 := 0) (by with_unfolding_all rfl)) ?_
  refine ex_s (st_icmp rfl) ?_
  refine ex_pc (if_neg c2) ?_
  refine ex_s (am_nb (m := 1) (pc1 := 11) (ls1 := [(0, .ref 0), (1, .int x0)]) (st1 := [.ref 0]) (H1 := H) (k1 := 0) (n1 := 0) (by with_unfolding_all rfl)) ?_
  refine ex_s (st_get rfl h0 rfl) ?_
  refine ex_s (am_nb (m := 1) (pc1 := 15) (ls1 := [(0, .ref 0), (1, .int x0)]) (st1 := [.int x0, .ref 115]) (H1 := H) (k1 := 0) (n1 := 0) (by with_unfolding_all rfl)) ?_
  refine ex_s (st_aald rfl h115 (by rw [c3]; decide) rfl) ?_
  refine ex_s (am_nb (m := 0) (pc1 := 16) (ls1 := [(0, .ref 0), (1, .int x0)]) (st1 := [.ref 149]) (H1 := H) (k1 := 0) (n1 := 0) (by rw [c3]; with_unfolding_all rfl)) ?_
  refine ex_s (st_get rfl h149 rfl) ?_
  refine ex_s (am_nb (m := 2) (pc1 := 23) (ls1 := [(0, .ref 0), (1, .int x0)]) (st1 := [.null]) (H1 := H) (k1 := 0) (n1 := 0) (by with_unfolding_all rfl)) ?_
  exact ex_r (st_aret rfl rfl rfl rfl) ⟨trivial, fun j => rfl⟩

set_option maxRecDepth 100000 in
theorem fx_roll_1_7 {sL : Nat} {sx : Nat → Int32} {cs : Nat → Nat → Option Int32} {H : am_H} {v0_13 : Int32} {x0 : Int32} (h0 : am_is H 0 (.inr (11, [.ref 1, .int 0, .ref 2, .int 0, .ref 3, .ref 93, .ref 97, .ref 115, .ref 116, .ref 129, .ref 123, .ref 127, .ref 128, .int v0_13, .null, .int 0]))) (h115 : am_is H 115 (.inl ((.object "TerminalHouse$Window"), (8, .inr (.inr (.inr (.inr am_q115))))))) (h141 : am_is H 141 (.inr (9, [.ref 142, .int 0, .int 0, .int 0, .int 0, .int 0, .int 0, .int 0, .int 0, .int 0]))) (h143 : am_is H 143 (.inr (9, [.ref 144, .int 0, .int 0, .int 0, .int 0, .int 0, .int 0, .int 0, .int 0, .int 0]))) (h145 : am_is H 145 (.inr (9, [.ref 146, .int 0, .int 0, .int 0, .int 0, .int 0, .int 0, .int 0, .int 0, .int 0]))) (h147 : am_is H 147 (.inr (9, [.ref 148, .int 0, .int 0, .int 0, .int 0, .int 0, .int 0, .int 0, .int 0, .int 0]))) (h149 : am_is H 149 (.inr (9, [.ref 150, .int 0, .int 0, .int 0, .int 0, .int 0, .int 0, .int 0, .int 0, .int 0]))) (h151 : am_is H 151 (.inr (9, [.ref 152, .int 0, .int 0, .int 0, .int 0, .int 0, .int 0, .int 0, .int 0, .int 0]))) (h153 : am_is H 153 (.inr (9, [.ref 154, .int 0, .int 0, .int 0, .int 0, .int 0, .int 0, .int 0, .int 0, .int 0]))) (h155 : am_is H 155 (.inr (9, [.ref 156, .int 0, .int 0, .int 0, .int 0, .int 0, .int 0, .int 0, .int 0, .int 0]))) (c1 : ¬ x0 < 0) (c2 : ¬ 8 ≤ x0) (c3 : x0 = 5)  :
    am_E sL sx cs 98 0 [(0, .ref 0), (1, .int x0)] [] H (some (.null)) (fun H1 => (True) ∧ ∀ j : Nat, H1[j]? = H[j]?) := by
  refine ex_s (am_nb (m := 1) (pc1 := 1) (ls1 := [(0, .ref 0), (1, .int x0)]) (st1 := [.int x0]) (H1 := H) (k1 := 0) (n1 := 0) (by with_unfolding_all rfl)) ?_
  refine ex_s (st_if rfl) ?_
  refine ex_pc (if_neg c1) ?_
  refine ex_s (am_nb (m := 2) (pc1 := 7) (ls1 := [(0, .ref 0), (1, .int x0)]) (st1 := [.int 8, .int x0]) (H1 := H) (k1 := 0) (n1 := 0) (by with_unfolding_all rfl)) ?_
  refine ex_s (st_icmp rfl) ?_
  refine ex_pc (if_neg c2) ?_
  refine ex_s (am_nb (m := 1) (pc1 := 11) (ls1 := [(0, .ref 0), (1, .int x0)]) (st1 := [.ref 0]) (H1 := H) (k1 := 0) (n1 := 0) (by with_unfolding_all rfl)) ?_
  refine ex_s (st_get rfl h0 rfl) ?_
  refine ex_s (am_nb (m := 1) (pc1 := 15) (ls1 := [(0, .ref 0), (1, .int x0)]) (st1 := [.int x0, .ref 115]) (H1 := H) (k1 := 0) (n1 := 0) (by with_unfolding_all rfl)) ?_
  refine ex_s (st_aald rfl h115 (by rw [c3]; decide) rfl) ?_
  refine ex_s (am_nb (m := 0) (pc1 := 16) (ls1 := [(0, .ref 0), (1, .int x0)]) (st1 := [.ref 151]) (H1 := H) (k1 := 0) (n1 := 0) (by rw [c3]; with_unfolding_all rfl)) ?_
  refine ex_s (st_get rfl h151 rfl) ?_
  refine ex_s (am_nb (m := 2) (pc1 := 23) (ls1 := [(0, .ref 0), (1, .int x0)]) (st1 := [.null]) (H1 := H) (k1 := 0) (n1 := 0) (by with_unfolding_all rfl)) ?_
  exact ex_r (st_aret rfl rfl rfl rfl) ⟨trivial, fun j => rfl⟩

set_option maxRecDepth 100000 in
theorem fx_roll_1_8 {sL : Nat} {sx : Nat → Int32} {cs : Nat → Nat → Option Int32} {H : am_H} {v0_13 : Int32} {x0 : Int32} (h0 : am_is H 0 (.inr (11, [.ref 1, .int 0, .ref 2, .int 0, .ref 3, .ref 93, .ref 97, .ref 115, .ref 116, .ref 129, .ref 123, .ref 127, .ref 128, .int v0_13, .null, .int 0]))) (h115 : am_is H 115 (.inl ((.object "TerminalHouse$Window"), (8, .inr (.inr (.inr (.inr am_q115))))))) (h141 : am_is H 141 (.inr (9, [.ref 142, .int 0, .int 0, .int 0, .int 0, .int 0, .int 0, .int 0, .int 0, .int 0]))) (h143 : am_is H 143 (.inr (9, [.ref 144, .int 0, .int 0, .int 0, .int 0, .int 0, .int 0, .int 0, .int 0, .int 0]))) (h145 : am_is H 145 (.inr (9, [.ref 146, .int 0, .int 0, .int 0, .int 0, .int 0, .int 0, .int 0, .int 0, .int 0]))) (h147 : am_is H 147 (.inr (9, [.ref 148, .int 0, .int 0, .int 0, .int 0, .int 0, .int 0, .int 0, .int 0, .int 0]))) (h149 : am_is H 149 (.inr (9, [.ref 150, .int 0, .int 0, .int 0, .int 0, .int 0, .int 0, .int 0, .int 0, .int 0]))) (h151 : am_is H 151 (.inr (9, [.ref 152, .int 0, .int 0, .int 0, .int 0, .int 0, .int 0, .int 0, .int 0, .int 0]))) (h153 : am_is H 153 (.inr (9, [.ref 154, .int 0, .int 0, .int 0, .int 0, .int 0, .int 0, .int 0, .int 0, .int 0]))) (h155 : am_is H 155 (.inr (9, [.ref 156, .int 0, .int 0, .int 0, .int 0, .int 0, .int 0, .int 0, .int 0, .int 0]))) (c1 : ¬ x0 < 0) (c2 : ¬ 8 ≤ x0) (c3 : x0 = 6)  :
    am_E sL sx cs 98 0 [(0, .ref 0), (1, .int x0)] [] H (some (.null)) (fun H1 => (True) ∧ ∀ j : Nat, H1[j]? = H[j]?) := by
  refine ex_s (am_nb (m := 1) (pc1 := 1) (ls1 := [(0, .ref 0), (1, .int x0)]) (st1 := [.int x0]) (H1 := H) (k1 := 0) (n1 := 0) (by with_unfolding_all rfl)) ?_
  refine ex_s (st_if rfl) ?_
  refine ex_pc (if_neg c1) ?_
  refine ex_s (am_nb (m := 2) (pc1 := 7) (ls1 := [(0, .ref 0), (1, .int x0)]) (st1 := [.int 8, .int x0]) (H1 := H) (k1 := 0) (n1 := 0) (by with_unfolding_all rfl)) ?_
  refine ex_s (st_icmp rfl) ?_
  refine ex_pc (if_neg c2) ?_
  refine ex_s (am_nb (m := 1) (pc1 := 11) (ls1 := [(0, .ref 0), (1, .int x0)]) (st1 := [.ref 0]) (H1 := H) (k1 := 0) (n1 := 0) (by with_unfolding_all rfl)) ?_
  refine ex_s (st_get rfl h0 rfl) ?_
  refine ex_s (am_nb (m := 1) (pc1 := 15) (ls1 := [(0, .ref 0), (1, .int x0)]) (st1 := [.int x0, .ref 115]) (H1 := H) (k1 := 0) (n1 := 0) (by with_unfolding_all rfl)) ?_
  refine ex_s (st_aald rfl h115 (by rw [c3]; decide) rfl) ?_
  refine ex_s (am_nb (m := 0) (pc1 := 16) (ls1 := [(0, .ref 0), (1, .int x0)]) (st1 := [.ref 153]) (H1 := H) (k1 := 0) (n1 := 0) (by rw [c3]; with_unfolding_all rfl)) ?_
  refine ex_s (st_get rfl h153 rfl) ?_
  refine ex_s (am_nb (m := 2) (pc1 := 23) (ls1 := [(0, .ref 0), (1, .int x0)]) (st1 := [.null]) (H1 := H) (k1 := 0) (n1 := 0) (by with_unfolding_all rfl)) ?_
  exact ex_r (st_aret rfl rfl rfl rfl) ⟨trivial, fun j => rfl⟩

set_option maxRecDepth 100000 in
theorem fx_roll_1_9 {sL : Nat} {sx : Nat → Int32} {cs : Nat → Nat → Option Int32} {H : am_H} {v0_13 : Int32} {x0 : Int32} (h0 : am_is H 0 (.inr (11, [.ref 1, .int 0, .ref 2, .int 0, .ref 3, .ref 93, .ref 97, .ref 115, .ref 116, .ref 129, .ref 123, .ref 127, .ref 128, .int v0_13, .null, .int 0]))) (h115 : am_is H 115 (.inl ((.object "TerminalHouse$Window"), (8, .inr (.inr (.inr (.inr am_q115))))))) (h141 : am_is H 141 (.inr (9, [.ref 142, .int 0, .int 0, .int 0, .int 0, .int 0, .int 0, .int 0, .int 0, .int 0]))) (h143 : am_is H 143 (.inr (9, [.ref 144, .int 0, .int 0, .int 0, .int 0, .int 0, .int 0, .int 0, .int 0, .int 0]))) (h145 : am_is H 145 (.inr (9, [.ref 146, .int 0, .int 0, .int 0, .int 0, .int 0, .int 0, .int 0, .int 0, .int 0]))) (h147 : am_is H 147 (.inr (9, [.ref 148, .int 0, .int 0, .int 0, .int 0, .int 0, .int 0, .int 0, .int 0, .int 0]))) (h149 : am_is H 149 (.inr (9, [.ref 150, .int 0, .int 0, .int 0, .int 0, .int 0, .int 0, .int 0, .int 0, .int 0]))) (h151 : am_is H 151 (.inr (9, [.ref 152, .int 0, .int 0, .int 0, .int 0, .int 0, .int 0, .int 0, .int 0, .int 0]))) (h153 : am_is H 153 (.inr (9, [.ref 154, .int 0, .int 0, .int 0, .int 0, .int 0, .int 0, .int 0, .int 0, .int 0]))) (h155 : am_is H 155 (.inr (9, [.ref 156, .int 0, .int 0, .int 0, .int 0, .int 0, .int 0, .int 0, .int 0, .int 0]))) (c1 : ¬ x0 < 0) (c2 : ¬ 8 ≤ x0) (c3 : x0 = 7)  :
    am_E sL sx cs 98 0 [(0, .ref 0), (1, .int x0)] [] H (some (.null)) (fun H1 => (True) ∧ ∀ j : Nat, H1[j]? = H[j]?) := by
  refine ex_s (am_nb (m := 1) (pc1 := 1) (ls1 := [(0, .ref 0), (1, .int x0)]) (st1 := [.int x0]) (H1 := H) (k1 := 0) (n1 := 0) (by with_unfolding_all rfl)) ?_
  refine ex_s (st_if rfl) ?_
  refine ex_pc (if_neg c1) ?_
  refine ex_s (am_nb (m := 2) (pc1 := 7) (ls1 := [(0, .ref 0), (1, .int x0)]) (st1 := [.int 8, .int x0]) (H1 := H) (k1 := 0) (n1 := 0) (by with_unfolding_all rfl)) ?_
  refine ex_s (st_icmp rfl) ?_
  refine ex_pc (if_neg c2) ?_
  refine ex_s (am_nb (m := 1) (pc1 := 11) (ls1 := [(0, .ref 0), (1, .int x0)]) (st1 := [.ref 0]) (H1 := H) (k1 := 0) (n1 := 0) (by with_unfolding_all rfl)) ?_
  refine ex_s (st_get rfl h0 rfl) ?_
  refine ex_s (am_nb (m := 1) (pc1 := 15) (ls1 := [(0, .ref 0), (1, .int x0)]) (st1 := [.int x0, .ref 115]) (H1 := H) (k1 := 0) (n1 := 0) (by with_unfolding_all rfl)) ?_
  refine ex_s (st_aald rfl h115 (by rw [c3]; decide) rfl) ?_
  refine ex_s (am_nb (m := 0) (pc1 := 16) (ls1 := [(0, .ref 0), (1, .int x0)]) (st1 := [.ref 155]) (H1 := H) (k1 := 0) (n1 := 0) (by rw [c3]; with_unfolding_all rfl)) ?_
  refine ex_s (st_get rfl h155 rfl) ?_
  refine ex_s (am_nb (m := 2) (pc1 := 23) (ls1 := [(0, .ref 0), (1, .int x0)]) (st1 := [.null]) (H1 := H) (k1 := 0) (n1 := 0) (by with_unfolding_all rfl)) ?_
  exact ex_r (st_aret rfl rfl rfl rfl) ⟨trivial, fun j => rfl⟩

set_option maxRecDepth 100000 in
theorem fx_roll_0 {sL : Nat} {sx : Nat → Int32} {cs : Nat → Nat → Option Int32} {H : am_H} {v0_13 : Int32} {x0 : Int32} {x1 : Int32} (h0 : am_is H 0 (.inr (11, [.ref 1, .int 0, .ref 2, .int 0, .ref 3, .ref 93, .ref 97, .ref 115, .ref 116, .ref 129, .ref 123, .ref 127, .ref 128, .int v0_13, .null, .int 0]))) (h115 : am_is H 115 (.inl ((.object "TerminalHouse$Window"), (8, .inr (.inr (.inr (.inr am_q115))))))) (h141 : am_is H 141 (.inr (9, [.ref 142, .int 0, .int 0, .int 0, .int 0, .int 0, .int 0, .int 0, .int 0, .int 0]))) (h143 : am_is H 143 (.inr (9, [.ref 144, .int 0, .int 0, .int 0, .int 0, .int 0, .int 0, .int 0, .int 0, .int 0]))) (h145 : am_is H 145 (.inr (9, [.ref 146, .int 0, .int 0, .int 0, .int 0, .int 0, .int 0, .int 0, .int 0, .int 0]))) (h147 : am_is H 147 (.inr (9, [.ref 148, .int 0, .int 0, .int 0, .int 0, .int 0, .int 0, .int 0, .int 0, .int 0]))) (h149 : am_is H 149 (.inr (9, [.ref 150, .int 0, .int 0, .int 0, .int 0, .int 0, .int 0, .int 0, .int 0, .int 0]))) (h151 : am_is H 151 (.inr (9, [.ref 152, .int 0, .int 0, .int 0, .int 0, .int 0, .int 0, .int 0, .int 0, .int 0]))) (h153 : am_is H 153 (.inr (9, [.ref 154, .int 0, .int 0, .int 0, .int 0, .int 0, .int 0, .int 0, .int 0, .int 0]))) (h155 : am_is H 155 (.inr (9, [.ref 156, .int 0, .int 0, .int 0, .int 0, .int 0, .int 0, .int 0, .int 0, .int 0]))) (c1 : x0 < 0)  :
    am_E sL sx cs 116 0 [(0, .ref 0), (1, .int x0), (2, .int x1)] [] H (some (.int 0)) (fun H1 => (True) ∧ ∀ j : Nat, H1[j]? = H[j]?) := by
  refine ex_s (am_nb (m := 2) (pc1 := 2) (ls1 := [(0, .ref 0), (1, .int x0), (2, .int x1)]) (st1 := [.int x0, .ref 0]) (H1 := H) (k1 := 0) (n1 := 0) (by with_unfolding_all rfl)) ?_
  refine ex_cv1 (as := [.int x0]) (rest := []) rfl rfl rfl rfl h0 rfl (by with_unfolding_all rfl) (by with_unfolding_all rfl) (fx_roll_1_0 h0 h115 h141 h143 h145 h147 h149 h151 h153 h155 c1) ?_
  rintro H167 ⟨-, k167⟩
  refine ex_s (am_nb (m := 4) (pc1 := 11) (ls1 := [(3, .null), (0, .ref 0), (1, .int x0), (2, .int x1)]) (st1 := [.int 0]) (H1 := H167) (k1 := 0) (n1 := 0) (by with_unfolding_all rfl)) ?_
  exact ex_r (st_iret rfl rfl rfl) ⟨trivial, fun j => (k167 j)⟩

set_option maxRecDepth 100000 in
theorem fx_roll_1 {sL : Nat} {sx : Nat → Int32} {cs : Nat → Nat → Option Int32} {H : am_H} {v0_13 : Int32} {x0 : Int32} {x1 : Int32} (h0 : am_is H 0 (.inr (11, [.ref 1, .int 0, .ref 2, .int 0, .ref 3, .ref 93, .ref 97, .ref 115, .ref 116, .ref 129, .ref 123, .ref 127, .ref 128, .int v0_13, .null, .int 0]))) (h115 : am_is H 115 (.inl ((.object "TerminalHouse$Window"), (8, .inr (.inr (.inr (.inr am_q115))))))) (h141 : am_is H 141 (.inr (9, [.ref 142, .int 0, .int 0, .int 0, .int 0, .int 0, .int 0, .int 0, .int 0, .int 0]))) (h143 : am_is H 143 (.inr (9, [.ref 144, .int 0, .int 0, .int 0, .int 0, .int 0, .int 0, .int 0, .int 0, .int 0]))) (h145 : am_is H 145 (.inr (9, [.ref 146, .int 0, .int 0, .int 0, .int 0, .int 0, .int 0, .int 0, .int 0, .int 0]))) (h147 : am_is H 147 (.inr (9, [.ref 148, .int 0, .int 0, .int 0, .int 0, .int 0, .int 0, .int 0, .int 0, .int 0]))) (h149 : am_is H 149 (.inr (9, [.ref 150, .int 0, .int 0, .int 0, .int 0, .int 0, .int 0, .int 0, .int 0, .int 0]))) (h151 : am_is H 151 (.inr (9, [.ref 152, .int 0, .int 0, .int 0, .int 0, .int 0, .int 0, .int 0, .int 0, .int 0]))) (h153 : am_is H 153 (.inr (9, [.ref 154, .int 0, .int 0, .int 0, .int 0, .int 0, .int 0, .int 0, .int 0, .int 0]))) (h155 : am_is H 155 (.inr (9, [.ref 156, .int 0, .int 0, .int 0, .int 0, .int 0, .int 0, .int 0, .int 0, .int 0]))) (c1 : ¬ x0 < 0) (c2 : 8 ≤ x0)  :
    am_E sL sx cs 116 0 [(0, .ref 0), (1, .int x0), (2, .int x1)] [] H (some (.int 0)) (fun H1 => (True) ∧ ∀ j : Nat, H1[j]? = H[j]?) := by
  refine ex_s (am_nb (m := 2) (pc1 := 2) (ls1 := [(0, .ref 0), (1, .int x0), (2, .int x1)]) (st1 := [.int x0, .ref 0]) (H1 := H) (k1 := 0) (n1 := 0) (by with_unfolding_all rfl)) ?_
  refine ex_cv1 (as := [.int x0]) (rest := []) rfl rfl rfl rfl h0 rfl (by with_unfolding_all rfl) (by with_unfolding_all rfl) (fx_roll_1_1 h0 h115 h141 h143 h145 h147 h149 h151 h153 h155 c1 c2) ?_
  rintro H168 ⟨-, k168⟩
  refine ex_s (am_nb (m := 4) (pc1 := 11) (ls1 := [(3, .null), (0, .ref 0), (1, .int x0), (2, .int x1)]) (st1 := [.int 0]) (H1 := H168) (k1 := 0) (n1 := 0) (by with_unfolding_all rfl)) ?_
  exact ex_r (st_iret rfl rfl rfl) ⟨trivial, fun j => (k168 j)⟩

set_option maxRecDepth 100000 in
theorem fx_roll_2 {sL : Nat} {sx : Nat → Int32} {cs : Nat → Nat → Option Int32} {H : am_H} {v0_13 : Int32} {x0 : Int32} {x1 : Int32} (h0 : am_is H 0 (.inr (11, [.ref 1, .int 0, .ref 2, .int 0, .ref 3, .ref 93, .ref 97, .ref 115, .ref 116, .ref 129, .ref 123, .ref 127, .ref 128, .int v0_13, .null, .int 0]))) (h115 : am_is H 115 (.inl ((.object "TerminalHouse$Window"), (8, .inr (.inr (.inr (.inr am_q115))))))) (h141 : am_is H 141 (.inr (9, [.ref 142, .int 0, .int 0, .int 0, .int 0, .int 0, .int 0, .int 0, .int 0, .int 0]))) (h143 : am_is H 143 (.inr (9, [.ref 144, .int 0, .int 0, .int 0, .int 0, .int 0, .int 0, .int 0, .int 0, .int 0]))) (h145 : am_is H 145 (.inr (9, [.ref 146, .int 0, .int 0, .int 0, .int 0, .int 0, .int 0, .int 0, .int 0, .int 0]))) (h147 : am_is H 147 (.inr (9, [.ref 148, .int 0, .int 0, .int 0, .int 0, .int 0, .int 0, .int 0, .int 0, .int 0]))) (h149 : am_is H 149 (.inr (9, [.ref 150, .int 0, .int 0, .int 0, .int 0, .int 0, .int 0, .int 0, .int 0, .int 0]))) (h151 : am_is H 151 (.inr (9, [.ref 152, .int 0, .int 0, .int 0, .int 0, .int 0, .int 0, .int 0, .int 0, .int 0]))) (h153 : am_is H 153 (.inr (9, [.ref 154, .int 0, .int 0, .int 0, .int 0, .int 0, .int 0, .int 0, .int 0, .int 0]))) (h155 : am_is H 155 (.inr (9, [.ref 156, .int 0, .int 0, .int 0, .int 0, .int 0, .int 0, .int 0, .int 0, .int 0]))) (c1 : ¬ x0 < 0) (c2 : ¬ 8 ≤ x0) (c3 : x0 = 0)  :
    am_E sL sx cs 116 0 [(0, .ref 0), (1, .int x0), (2, .int x1)] [] H (some (.int 0)) (fun H1 => (True) ∧ ∀ j : Nat, H1[j]? = H[j]?) := by
  refine ex_s (am_nb (m := 2) (pc1 := 2) (ls1 := [(0, .ref 0), (1, .int x0), (2, .int x1)]) (st1 := [.int x0, .ref 0]) (H1 := H) (k1 := 0) (n1 := 0) (by with_unfolding_all rfl)) ?_
  refine ex_cv1 (as := [.int x0]) (rest := []) rfl rfl rfl rfl h0 rfl (by with_unfolding_all rfl) (by with_unfolding_all rfl) (fx_roll_1_2 h0 h115 h141 h143 h145 h147 h149 h151 h153 h155 c1 c2 c3) ?_
  rintro H169 ⟨-, k169⟩
  refine ex_s (am_nb (m := 4) (pc1 := 11) (ls1 := [(3, .null), (0, .ref 0), (1, .int x0), (2, .int x1)]) (st1 := [.int 0]) (H1 := H169) (k1 := 0) (n1 := 0) (by with_unfolding_all rfl)) ?_
  exact ex_r (st_iret rfl rfl rfl) ⟨trivial, fun j => (k169 j)⟩

set_option maxRecDepth 100000 in
theorem fx_roll_3 {sL : Nat} {sx : Nat → Int32} {cs : Nat → Nat → Option Int32} {H : am_H} {v0_13 : Int32} {x0 : Int32} {x1 : Int32} (h0 : am_is H 0 (.inr (11, [.ref 1, .int 0, .ref 2, .int 0, .ref 3, .ref 93, .ref 97, .ref 115, .ref 116, .ref 129, .ref 123, .ref 127, .ref 128, .int v0_13, .null, .int 0]))) (h115 : am_is H 115 (.inl ((.object "TerminalHouse$Window"), (8, .inr (.inr (.inr (.inr am_q115))))))) (h141 : am_is H 141 (.inr (9, [.ref 142, .int 0, .int 0, .int 0, .int 0, .int 0, .int 0, .int 0, .int 0, .int 0]))) (h143 : am_is H 143 (.inr (9, [.ref 144, .int 0, .int 0, .int 0, .int 0, .int 0, .int 0, .int 0, .int 0, .int 0]))) (h145 : am_is H 145 (.inr (9, [.ref 146, .int 0, .int 0, .int 0, .int 0, .int 0, .int 0, .int 0, .int 0, .int 0]))) (h147 : am_is H 147 (.inr (9, [.ref 148, .int 0, .int 0, .int 0, .int 0, .int 0, .int 0, .int 0, .int 0, .int 0]))) (h149 : am_is H 149 (.inr (9, [.ref 150, .int 0, .int 0, .int 0, .int 0, .int 0, .int 0, .int 0, .int 0, .int 0]))) (h151 : am_is H 151 (.inr (9, [.ref 152, .int 0, .int 0, .int 0, .int 0, .int 0, .int 0, .int 0, .int 0, .int 0]))) (h153 : am_is H 153 (.inr (9, [.ref 154, .int 0, .int 0, .int 0, .int 0, .int 0, .int 0, .int 0, .int 0, .int 0]))) (h155 : am_is H 155 (.inr (9, [.ref 156, .int 0, .int 0, .int 0, .int 0, .int 0, .int 0, .int 0, .int 0, .int 0]))) (c1 : ¬ x0 < 0) (c2 : ¬ 8 ≤ x0) (c3 : x0 = 1)  :
    am_E sL sx cs 116 0 [(0, .ref 0), (1, .int x0), (2, .int x1)] [] H (some (.int 0)) (fun H1 => (True) ∧ ∀ j : Nat, H1[j]? = H[j]?) := by
  refine ex_s (am_nb (m := 2) (pc1 := 2) (ls1 := [(0, .ref 0), (1, .int x0), (2, .int x1)]) (st1 := [.int x0, .ref 0]) (H1 := H) (k1 := 0) (n1 := 0) (by with_unfolding_all rfl)) ?_
  refine ex_cv1 (as := [.int x0]) (rest := []) rfl rfl rfl rfl h0 rfl (by with_unfolding_all rfl) (by with_unfolding_all rfl) (fx_roll_1_3 h0 h115 h141 h143 h145 h147 h149 h151 h153 h155 c1 c2 c3) ?_
  rintro H170 ⟨-, k170⟩
  refine ex_s (am_nb (m := 4) (pc1 := 11) (ls1 := [(3, .null), (0, .ref 0), (1, .int x0), (2, .int x1)]) (st1 := [.int 0]) (H1 := H170) (k1 := 0) (n1 := 0) (by with_unfolding_all rfl)) ?_
  exact ex_r (st_iret rfl rfl rfl) ⟨trivial, fun j => (k170 j)⟩

set_option maxRecDepth 100000 in
theorem fx_roll_4 {sL : Nat} {sx : Nat → Int32} {cs : Nat → Nat → Option Int32} {H : am_H} {v0_13 : Int32} {x0 : Int32} {x1 : Int32} (h0 : am_is H 0 (.inr (11, [.ref 1, .int 0, .ref 2, .int 0, .ref 3, .ref 93, .ref 97, .ref 115, .ref 116, .ref 129, .ref 123, .ref 127, .ref 128, .int v0_13, .null, .int 0]))) (h115 : am_is H 115 (.inl ((.object "TerminalHouse$Window"), (8, .inr (.inr (.inr (.inr am_q115))))))) (h141 : am_is H 141 (.inr (9, [.ref 142, .int 0, .int 0, .int 0, .int 0, .int 0, .int 0, .int 0, .int 0, .int 0]))) (h143 : am_is H 143 (.inr (9, [.ref 144, .int 0, .int 0, .int 0, .int 0, .int 0, .int 0, .int 0, .int 0, .int 0]))) (h145 : am_is H 145 (.inr (9, [.ref 146, .int 0, .int 0, .int 0, .int 0, .int 0, .int 0, .int 0, .int 0, .int 0]))) (h147 : am_is H 147 (.inr (9, [.ref 148, .int 0, .int 0, .int 0, .int 0, .int 0, .int 0, .int 0, .int 0, .int 0]))) (h149 : am_is H 149 (.inr (9, [.ref 150, .int 0, .int 0, .int 0, .int 0, .int 0, .int 0, .int 0, .int 0, .int 0]))) (h151 : am_is H 151 (.inr (9, [.ref 152, .int 0, .int 0, .int 0, .int 0, .int 0, .int 0, .int 0, .int 0, .int 0]))) (h153 : am_is H 153 (.inr (9, [.ref 154, .int 0, .int 0, .int 0, .int 0, .int 0, .int 0, .int 0, .int 0, .int 0]))) (h155 : am_is H 155 (.inr (9, [.ref 156, .int 0, .int 0, .int 0, .int 0, .int 0, .int 0, .int 0, .int 0, .int 0]))) (c1 : ¬ x0 < 0) (c2 : ¬ 8 ≤ x0) (c3 : x0 = 2)  :
    am_E sL sx cs 116 0 [(0, .ref 0), (1, .int x0), (2, .int x1)] [] H (some (.int 0)) (fun H1 => (True) ∧ ∀ j : Nat, H1[j]? = H[j]?) := by
  refine ex_s (am_nb (m := 2) (pc1 := 2) (ls1 := [(0, .ref 0), (1, .int x0), (2, .int x1)]) (st1 := [.int x0, .ref 0]) (H1 := H) (k1 := 0) (n1 := 0) (by with_unfolding_all rfl)) ?_
  refine ex_cv1 (as := [.int x0]) (rest := []) rfl rfl rfl rfl h0 rfl (by with_unfolding_all rfl) (by with_unfolding_all rfl) (fx_roll_1_4 h0 h115 h141 h143 h145 h147 h149 h151 h153 h155 c1 c2 c3) ?_
  rintro H171 ⟨-, k171⟩
  refine ex_s (am_nb (m := 4) (pc1 := 11) (ls1 := [(3, .null), (0, .ref 0), (1, .int x0), (2, .int x1)]) (st1 := [.int 0]) (H1 := H171) (k1 := 0) (n1 := 0) (by with_unfolding_all rfl)) ?_
  exact ex_r (st_iret rfl rfl rfl) ⟨trivial, fun j => (k171 j)⟩

set_option maxRecDepth 100000 in
theorem fx_roll_5 {sL : Nat} {sx : Nat → Int32} {cs : Nat → Nat → Option Int32} {H : am_H} {v0_13 : Int32} {x0 : Int32} {x1 : Int32} (h0 : am_is H 0 (.inr (11, [.ref 1, .int 0, .ref 2, .int 0, .ref 3, .ref 93, .ref 97, .ref 115, .ref 116, .ref 129, .ref 123, .ref 127, .ref 128, .int v0_13, .null, .int 0]))) (h115 : am_is H 115 (.inl ((.object "TerminalHouse$Window"), (8, .inr (.inr (.inr (.inr am_q115))))))) (h141 : am_is H 141 (.inr (9, [.ref 142, .int 0, .int 0, .int 0, .int 0, .int 0, .int 0, .int 0, .int 0, .int 0]))) (h143 : am_is H 143 (.inr (9, [.ref 144, .int 0, .int 0, .int 0, .int 0, .int 0, .int 0, .int 0, .int 0, .int 0]))) (h145 : am_is H 145 (.inr (9, [.ref 146, .int 0, .int 0, .int 0, .int 0, .int 0, .int 0, .int 0, .int 0, .int 0]))) (h147 : am_is H 147 (.inr (9, [.ref 148, .int 0, .int 0, .int 0, .int 0, .int 0, .int 0, .int 0, .int 0, .int 0]))) (h149 : am_is H 149 (.inr (9, [.ref 150, .int 0, .int 0, .int 0, .int 0, .int 0, .int 0, .int 0, .int 0, .int 0]))) (h151 : am_is H 151 (.inr (9, [.ref 152, .int 0, .int 0, .int 0, .int 0, .int 0, .int 0, .int 0, .int 0, .int 0]))) (h153 : am_is H 153 (.inr (9, [.ref 154, .int 0, .int 0, .int 0, .int 0, .int 0, .int 0, .int 0, .int 0, .int 0]))) (h155 : am_is H 155 (.inr (9, [.ref 156, .int 0, .int 0, .int 0, .int 0, .int 0, .int 0, .int 0, .int 0, .int 0]))) (c1 : ¬ x0 < 0) (c2 : ¬ 8 ≤ x0) (c3 : x0 = 3)  :
    am_E sL sx cs 116 0 [(0, .ref 0), (1, .int x0), (2, .int x1)] [] H (some (.int 0)) (fun H1 => (True) ∧ ∀ j : Nat, H1[j]? = H[j]?) := by
  refine ex_s (am_nb (m := 2) (pc1 := 2) (ls1 := [(0, .ref 0), (1, .int x0), (2, .int x1)]) (st1 := [.int x0, .ref 0]) (H1 := H) (k1 := 0) (n1 := 0) (by with_unfolding_all rfl)) ?_
  refine ex_cv1 (as := [.int x0]) (rest := []) rfl rfl rfl rfl h0 rfl (by with_unfolding_all rfl) (by with_unfolding_all rfl) (fx_roll_1_5 h0 h115 h141 h143 h145 h147 h149 h151 h153 h155 c1 c2 c3) ?_
  rintro H172 ⟨-, k172⟩
  refine ex_s (am_nb (m := 4) (pc1 := 11) (ls1 := [(3, .null), (0, .ref 0), (1, .int x0), (2, .int x1)]) (st1 := [.int 0]) (H1 := H172) (k1 := 0) (n1 := 0) (by with_unfolding_all rfl)) ?_
  exact ex_r (st_iret rfl rfl rfl) ⟨trivial, fun j => (k172 j)⟩

set_option maxRecDepth 100000 in
theorem fx_roll_6 {sL : Nat} {sx : Nat → Int32} {cs : Nat → Nat → Option Int32} {H : am_H} {v0_13 : Int32} {x0 : Int32} {x1 : Int32} (h0 : am_is H 0 (.inr (11, [.ref 1, .int 0, .ref 2, .int 0, .ref 3, .ref 93, .ref 97, .ref 115, .ref 116, .ref 129, .ref 123, .ref 127, .ref 128, .int v0_13, .null, .int 0]))) (h115 : am_is H 115 (.inl ((.object "TerminalHouse$Window"), (8, .inr (.inr (.inr (.inr am_q115))))))) (h141 : am_is H 141 (.inr (9, [.ref 142, .int 0, .int 0, .int 0, .int 0, .int 0, .int 0, .int 0, .int 0, .int 0]))) (h143 : am_is H 143 (.inr (9, [.ref 144, .int 0, .int 0, .int 0, .int 0, .int 0, .int 0, .int 0, .int 0, .int 0]))) (h145 : am_is H 145 (.inr (9, [.ref 146, .int 0, .int 0, .int 0, .int 0, .int 0, .int 0, .int 0, .int 0, .int 0]))) (h147 : am_is H 147 (.inr (9, [.ref 148, .int 0, .int 0, .int 0, .int 0, .int 0, .int 0, .int 0, .int 0, .int 0]))) (h149 : am_is H 149 (.inr (9, [.ref 150, .int 0, .int 0, .int 0, .int 0, .int 0, .int 0, .int 0, .int 0, .int 0]))) (h151 : am_is H 151 (.inr (9, [.ref 152, .int 0, .int 0, .int 0, .int 0, .int 0, .int 0, .int 0, .int 0, .int 0]))) (h153 : am_is H 153 (.inr (9, [.ref 154, .int 0, .int 0, .int 0, .int 0, .int 0, .int 0, .int 0, .int 0, .int 0]))) (h155 : am_is H 155 (.inr (9, [.ref 156, .int 0, .int 0, .int 0, .int 0, .int 0, .int 0, .int 0, .int 0, .int 0]))) (c1 : ¬ x0 < 0) (c2 : ¬ 8 ≤ x0) (c3 : x0 = 4)  :
    am_E sL sx cs 116 0 [(0, .ref 0), (1, .int x0), (2, .int x1)] [] H (some (.int 0)) (fun H1 => (True) ∧ ∀ j : Nat, H1[j]? = H[j]?) := by
  refine ex_s (am_nb (m := 2) (pc1 := 2) (ls1 := [(0, .ref 0), (1, .int x0), (2, .int x1)]) (st1 := [.int x0, .ref 0]) (H1 := H) (k1 := 0) (n1 := 0) (by with_unfolding_all rfl)) ?_
  refine ex_cv1 (as := [.int x0]) (rest := []) rfl rfl rfl rfl h0 rfl (by with_unfolding_all rfl) (by with_unfolding_all rfl) (fx_roll_1_6 h0 h115 h141 h143 h145 h147 h149 h151 h153 h155 c1 c2 c3) ?_
  rintro H173 ⟨-, k173⟩
  refine ex_s (am_nb (m := 4) (pc1 := 11) (ls1 := [(3, .null), (0, .ref 0), (1, .int x0), (2, .int x1)]) (st1 := [.int 0]) (H1 := H173) (k1 := 0) (n1 := 0) (by with_unfolding_all rfl)) ?_
  exact ex_r (st_iret rfl rfl rfl) ⟨trivial, fun j => (k173 j)⟩

set_option maxRecDepth 100000 in
theorem fx_roll_7 {sL : Nat} {sx : Nat → Int32} {cs : Nat → Nat → Option Int32} {H : am_H} {v0_13 : Int32} {x0 : Int32} {x1 : Int32} (h0 : am_is H 0 (.inr (11, [.ref 1, .int 0, .ref 2, .int 0, .ref 3, .ref 93, .ref 97, .ref 115, .ref 116, .ref 129, .ref 123, .ref 127, .ref 128, .int v0_13, .null, .int 0]))) (h115 : am_is H 115 (.inl ((.object "TerminalHouse$Window"), (8, .inr (.inr (.inr (.inr am_q115))))))) (h141 : am_is H 141 (.inr (9, [.ref 142, .int 0, .int 0, .int 0, .int 0, .int 0, .int 0, .int 0, .int 0, .int 0]))) (h143 : am_is H 143 (.inr (9, [.ref 144, .int 0, .int 0, .int 0, .int 0, .int 0, .int 0, .int 0, .int 0, .int 0]))) (h145 : am_is H 145 (.inr (9, [.ref 146, .int 0, .int 0, .int 0, .int 0, .int 0, .int 0, .int 0, .int 0, .int 0]))) (h147 : am_is H 147 (.inr (9, [.ref 148, .int 0, .int 0, .int 0, .int 0, .int 0, .int 0, .int 0, .int 0, .int 0]))) (h149 : am_is H 149 (.inr (9, [.ref 150, .int 0, .int 0, .int 0, .int 0, .int 0, .int 0, .int 0, .int 0, .int 0]))) (h151 : am_is H 151 (.inr (9, [.ref 152, .int 0, .int 0, .int 0, .int 0, .int 0, .int 0, .int 0, .int 0, .int 0]))) (h153 : am_is H 153 (.inr (9, [.ref 154, .int 0, .int 0, .int 0, .int 0, .int 0, .int 0, .int 0, .int 0, .int 0]))) (h155 : am_is H 155 (.inr (9, [.ref 156, .int 0, .int 0, .int 0, .int 0, .int 0, .int 0, .int 0, .int 0, .int 0]))) (c1 : ¬ x0 < 0) (c2 : ¬ 8 ≤ x0) (c3 : x0 = 5)  :
    am_E sL sx cs 116 0 [(0, .ref 0), (1, .int x0), (2, .int x1)] [] H (some (.int 0)) (fun H1 => (True) ∧ ∀ j : Nat, H1[j]? = H[j]?) := by
  refine ex_s (am_nb (m := 2) (pc1 := 2) (ls1 := [(0, .ref 0), (1, .int x0), (2, .int x1)]) (st1 := [.int x0, .ref 0]) (H1 := H) (k1 := 0) (n1 := 0) (by with_unfolding_all rfl)) ?_
  refine ex_cv1 (as := [.int x0]) (rest := []) rfl rfl rfl rfl h0 rfl (by with_unfolding_all rfl) (by with_unfolding_all rfl) (fx_roll_1_7 h0 h115 h141 h143 h145 h147 h149 h151 h153 h155 c1 c2 c3) ?_
  rintro H174 ⟨-, k174⟩
  refine ex_s (am_nb (m := 4) (pc1 := 11) (ls1 := [(3, .null), (0, .ref 0), (1, .int x0), (2, .int x1)]) (st1 := [.int 0]) (H1 := H174) (k1 := 0) (n1 := 0) (by with_unfolding_all rfl)) ?_
  exact ex_r (st_iret rfl rfl rfl) ⟨trivial, fun j => (k174 j)⟩

set_option maxRecDepth 100000 in
theorem fx_roll_8 {sL : Nat} {sx : Nat → Int32} {cs : Nat → Nat → Option Int32} {H : am_H} {v0_13 : Int32} {x0 : Int32} {x1 : Int32} (h0 : am_is H 0 (.inr (11, [.ref 1, .int 0, .ref 2, .int 0, .ref 3, .ref 93, .ref 97, .ref 115, .ref 116, .ref 129, .ref 123, .ref 127, .ref 128, .int v0_13, .null, .int 0]))) (h115 : am_is H 115 (.inl ((.object "TerminalHouse$Window"), (8, .inr (.inr (.inr (.inr am_q115))))))) (h141 : am_is H 141 (.inr (9, [.ref 142, .int 0, .int 0, .int 0, .int 0, .int 0, .int 0, .int 0, .int 0, .int 0]))) (h143 : am_is H 143 (.inr (9, [.ref 144, .int 0, .int 0, .int 0, .int 0, .int 0, .int 0, .int 0, .int 0, .int 0]))) (h145 : am_is H 145 (.inr (9, [.ref 146, .int 0, .int 0, .int 0, .int 0, .int 0, .int 0, .int 0, .int 0, .int 0]))) (h147 : am_is H 147 (.inr (9, [.ref 148, .int 0, .int 0, .int 0, .int 0, .int 0, .int 0, .int 0, .int 0, .int 0]))) (h149 : am_is H 149 (.inr (9, [.ref 150, .int 0, .int 0, .int 0, .int 0, .int 0, .int 0, .int 0, .int 0, .int 0]))) (h151 : am_is H 151 (.inr (9, [.ref 152, .int 0, .int 0, .int 0, .int 0, .int 0, .int 0, .int 0, .int 0, .int 0]))) (h153 : am_is H 153 (.inr (9, [.ref 154, .int 0, .int 0, .int 0, .int 0, .int 0, .int 0, .int 0, .int 0, .int 0]))) (h155 : am_is H 155 (.inr (9, [.ref 156, .int 0, .int 0, .int 0, .int 0, .int 0, .int 0, .int 0, .int 0, .int 0]))) (c1 : ¬ x0 < 0) (c2 : ¬ 8 ≤ x0) (c3 : x0 = 6)  :
    am_E sL sx cs 116 0 [(0, .ref 0), (1, .int x0), (2, .int x1)] [] H (some (.int 0)) (fun H1 => (True) ∧ ∀ j : Nat, H1[j]? = H[j]?) := by
  refine ex_s (am_nb (m := 2) (pc1 := 2) (ls1 := [(0, .ref 0), (1, .int x0), (2, .int x1)]) (st1 := [.int x0, .ref 0]) (H1 := H) (k1 := 0) (n1 := 0) (by with_unfolding_all rfl)) ?_
  refine ex_cv1 (as := [.int x0]) (rest := []) rfl rfl rfl rfl h0 rfl (by with_unfolding_all rfl) (by with_unfolding_all rfl) (fx_roll_1_8 h0 h115 h141 h143 h145 h147 h149 h151 h153 h155 c1 c2 c3) ?_
  rintro H175 ⟨-, k175⟩
  refine ex_s (am_nb (m := 4) (pc1 := 11) (ls1 := [(3, .null), (0, .ref 0), (1, .int x0), (2, .int x1)]) (st1 := [.int 0]) (H1 := H175) (k1 := 0) (n1 := 0) (by with_unfolding_all rfl)) ?_
  exact ex_r (st_iret rfl rfl rfl) ⟨trivial, fun j => (k175 j)⟩

set_option maxRecDepth 100000 in
theorem fx_roll_9 {sL : Nat} {sx : Nat → Int32} {cs : Nat → Nat → Option Int32} {H : am_H} {v0_13 : Int32} {x0 : Int32} {x1 : Int32} (h0 : am_is H 0 (.inr (11, [.ref 1, .int 0, .ref 2, .int 0, .ref 3, .ref 93, .ref 97, .ref 115, .ref 116, .ref 129, .ref 123, .ref 127, .ref 128, .int v0_13, .null, .int 0]))) (h115 : am_is H 115 (.inl ((.object "TerminalHouse$Window"), (8, .inr (.inr (.inr (.inr am_q115))))))) (h141 : am_is H 141 (.inr (9, [.ref 142, .int 0, .int 0, .int 0, .int 0, .int 0, .int 0, .int 0, .int 0, .int 0]))) (h143 : am_is H 143 (.inr (9, [.ref 144, .int 0, .int 0, .int 0, .int 0, .int 0, .int 0, .int 0, .int 0, .int 0]))) (h145 : am_is H 145 (.inr (9, [.ref 146, .int 0, .int 0, .int 0, .int 0, .int 0, .int 0, .int 0, .int 0, .int 0]))) (h147 : am_is H 147 (.inr (9, [.ref 148, .int 0, .int 0, .int 0, .int 0, .int 0, .int 0, .int 0, .int 0, .int 0]))) (h149 : am_is H 149 (.inr (9, [.ref 150, .int 0, .int 0, .int 0, .int 0, .int 0, .int 0, .int 0, .int 0, .int 0]))) (h151 : am_is H 151 (.inr (9, [.ref 152, .int 0, .int 0, .int 0, .int 0, .int 0, .int 0, .int 0, .int 0, .int 0]))) (h153 : am_is H 153 (.inr (9, [.ref 154, .int 0, .int 0, .int 0, .int 0, .int 0, .int 0, .int 0, .int 0, .int 0]))) (h155 : am_is H 155 (.inr (9, [.ref 156, .int 0, .int 0, .int 0, .int 0, .int 0, .int 0, .int 0, .int 0, .int 0]))) (c1 : ¬ x0 < 0) (c2 : ¬ 8 ≤ x0) (c3 : x0 = 7)  :
    am_E sL sx cs 116 0 [(0, .ref 0), (1, .int x0), (2, .int x1)] [] H (some (.int 0)) (fun H1 => (True) ∧ ∀ j : Nat, H1[j]? = H[j]?) := by
  refine ex_s (am_nb (m := 2) (pc1 := 2) (ls1 := [(0, .ref 0), (1, .int x0), (2, .int x1)]) (st1 := [.int x0, .ref 0]) (H1 := H) (k1 := 0) (n1 := 0) (by with_unfolding_all rfl)) ?_
  refine ex_cv1 (as := [.int x0]) (rest := []) rfl rfl rfl rfl h0 rfl (by with_unfolding_all rfl) (by with_unfolding_all rfl) (fx_roll_1_9 h0 h115 h141 h143 h145 h147 h149 h151 h153 h155 c1 c2 c3) ?_
  rintro H176 ⟨-, k176⟩
  refine ex_s (am_nb (m := 4) (pc1 := 11) (ls1 := [(3, .null), (0, .ref 0), (1, .int x0), (2, .int x1)]) (st1 := [.int 0]) (H1 := H176) (k1 := 0) (n1 := 0) (by with_unfolding_all rfl)) ?_
  exact ex_r (st_iret rfl rfl rfl) ⟨trivial, fun j => (k176 j)⟩

set_option maxRecDepth 100000 in
theorem fx_box_1_0 {sL : Nat} {sx : Nat → Int32} {cs : Nat → Nat → Option Int32} {H : am_H} {v0_13 : Int32} {x0 : Int32} (h0 : am_is H 0 (.inr (11, [.ref 1, .int 0, .ref 2, .int 0, .ref 3, .ref 93, .ref 97, .ref 115, .ref 116, .ref 129, .ref 123, .ref 127, .ref 128, .int v0_13, .null, .int 0]))) (h115 : am_is H 115 (.inl ((.object "TerminalHouse$Window"), (8, .inr (.inr (.inr (.inr am_q115))))))) (h141 : am_is H 141 (.inr (9, [.ref 142, .int 0, .int 0, .int 0, .int 0, .int 0, .int 0, .int 0, .int 0, .int 0]))) (h143 : am_is H 143 (.inr (9, [.ref 144, .int 0, .int 0, .int 0, .int 0, .int 0, .int 0, .int 0, .int 0, .int 0]))) (h145 : am_is H 145 (.inr (9, [.ref 146, .int 0, .int 0, .int 0, .int 0, .int 0, .int 0, .int 0, .int 0, .int 0]))) (h147 : am_is H 147 (.inr (9, [.ref 148, .int 0, .int 0, .int 0, .int 0, .int 0, .int 0, .int 0, .int 0, .int 0]))) (h149 : am_is H 149 (.inr (9, [.ref 150, .int 0, .int 0, .int 0, .int 0, .int 0, .int 0, .int 0, .int 0, .int 0]))) (h151 : am_is H 151 (.inr (9, [.ref 152, .int 0, .int 0, .int 0, .int 0, .int 0, .int 0, .int 0, .int 0, .int 0]))) (h153 : am_is H 153 (.inr (9, [.ref 154, .int 0, .int 0, .int 0, .int 0, .int 0, .int 0, .int 0, .int 0, .int 0]))) (h155 : am_is H 155 (.inr (9, [.ref 156, .int 0, .int 0, .int 0, .int 0, .int 0, .int 0, .int 0, .int 0, .int 0]))) (c1 : x0 < 0)  :
    am_E sL sx cs 98 0 [(0, .ref 0), (1, .int x0)] [] H (some (.null)) (fun H1 => (True) ∧ ∀ j : Nat, H1[j]? = H[j]?) := by
  refine ex_s (am_nb (m := 1) (pc1 := 1) (ls1 := [(0, .ref 0), (1, .int x0)]) (st1 := [.int x0]) (H1 := H) (k1 := 0) (n1 := 0) (by with_unfolding_all rfl)) ?_
  refine ex_s (st_if rfl) ?_
  refine ex_pc (if_pos c1) ?_
  refine ex_s (am_nb (m := 1) (pc1 := 23) (ls1 := [(0, .ref 0), (1, .int x0)]) (st1 := [.null]) (H1 := H) (k1 := 0) (n1 := 0) (by with_unfolding_all rfl)) ?_
  exact ex_r (st_aret rfl rfl rfl rfl) ⟨trivial, fun j => rfl⟩

set_option maxRecDepth 100000 in
theorem fx_box_1_1 {sL : Nat} {sx : Nat → Int32} {cs : Nat → Nat → Option Int32} {H : am_H} {v0_13 : Int32} {x0 : Int32} (h0 : am_is H 0 (.inr (11, [.ref 1, .int 0, .ref 2, .int 0, .ref 3, .ref 93, .ref 97, .ref 115, .ref 116, .ref 129, .ref 123, .ref 127, .ref 128, .int v0_13, .null, .int 0]))) (h115 : am_is H 115 (.inl ((.object "TerminalHouse$Window"), (8, .inr (.inr (.inr (.inr am_q115))))))) (h141 : am_is H 141 (.inr (9, [.ref 142, .int 0, .int 0, .int 0, .int 0, .int 0, .int 0, .int 0, .int 0, .int 0]))) (h143 : am_is H 143 (.inr (9, [.ref 144, .int 0, .int 0, .int 0, .int 0, .int 0, .int 0, .int 0, .int 0, .int 0]))) (h145 : am_is H 145 (.inr (9, [.ref 146, .int 0, .int 0, .int 0, .int 0, .int 0, .int 0, .int 0, .int 0, .int 0]))) (h147 : am_is H 147 (.inr (9, [.ref 148, .int 0, .int 0, .int 0, .int 0, .int 0, .int 0, .int 0, .int 0, .int 0]))) (h149 : am_is H 149 (.inr (9, [.ref 150, .int 0, .int 0, .int 0, .int 0, .int 0, .int 0, .int 0, .int 0, .int 0]))) (h151 : am_is H 151 (.inr (9, [.ref 152, .int 0, .int 0, .int 0, .int 0, .int 0, .int 0, .int 0, .int 0, .int 0]))) (h153 : am_is H 153 (.inr (9, [.ref 154, .int 0, .int 0, .int 0, .int 0, .int 0, .int 0, .int 0, .int 0, .int 0]))) (h155 : am_is H 155 (.inr (9, [.ref 156, .int 0, .int 0, .int 0, .int 0, .int 0, .int 0, .int 0, .int 0, .int 0]))) (c1 : ¬ x0 < 0) (c2 : 8 ≤ x0)  :
    am_E sL sx cs 98 0 [(0, .ref 0), (1, .int x0)] [] H (some (.null)) (fun H1 => (True) ∧ ∀ j : Nat, H1[j]? = H[j]?) := by
  refine ex_s (am_nb (m := 1) (pc1 := 1) (ls1 := [(0, .ref 0), (1, .int x0)]) (st1 := [.int x0]) (H1 := H) (k1 := 0) (n1 := 0) (by with_unfolding_all rfl)) ?_
  refine ex_s (st_if rfl) ?_
  refine ex_pc (if_neg c1) ?_
  refine ex_s (am_nb (m := 2) (pc1 := 7) (ls1 := [(0, .ref 0), (1, .int x0)]) (st1 := [.int 8, .int x0]) (H1 := H) (k1 := 0) (n1 := 0) (by with_unfolding_all rfl)) ?_
  refine ex_s (st_icmp rfl) ?_
  refine ex_pc (if_pos c2) ?_
  refine ex_s (am_nb (m := 1) (pc1 := 23) (ls1 := [(0, .ref 0), (1, .int x0)]) (st1 := [.null]) (H1 := H) (k1 := 0) (n1 := 0) (by with_unfolding_all rfl)) ?_
  exact ex_r (st_aret rfl rfl rfl rfl) ⟨trivial, fun j => rfl⟩

set_option maxRecDepth 100000 in
theorem fx_box_1_2 {sL : Nat} {sx : Nat → Int32} {cs : Nat → Nat → Option Int32} {H : am_H} {v0_13 : Int32} {x0 : Int32} (h0 : am_is H 0 (.inr (11, [.ref 1, .int 0, .ref 2, .int 0, .ref 3, .ref 93, .ref 97, .ref 115, .ref 116, .ref 129, .ref 123, .ref 127, .ref 128, .int v0_13, .null, .int 0]))) (h115 : am_is H 115 (.inl ((.object "TerminalHouse$Window"), (8, .inr (.inr (.inr (.inr am_q115))))))) (h141 : am_is H 141 (.inr (9, [.ref 142, .int 0, .int 0, .int 0, .int 0, .int 0, .int 0, .int 0, .int 0, .int 0]))) (h143 : am_is H 143 (.inr (9, [.ref 144, .int 0, .int 0, .int 0, .int 0, .int 0, .int 0, .int 0, .int 0, .int 0]))) (h145 : am_is H 145 (.inr (9, [.ref 146, .int 0, .int 0, .int 0, .int 0, .int 0, .int 0, .int 0, .int 0, .int 0]))) (h147 : am_is H 147 (.inr (9, [.ref 148, .int 0, .int 0, .int 0, .int 0, .int 0, .int 0, .int 0, .int 0, .int 0]))) (h149 : am_is H 149 (.inr (9, [.ref 150, .int 0, .int 0, .int 0, .int 0, .int 0, .int 0, .int 0, .int 0, .int 0]))) (h151 : am_is H 151 (.inr (9, [.ref 152, .int 0, .int 0, .int 0, .int 0, .int 0, .int 0, .int 0, .int 0, .int 0]))) (h153 : am_is H 153 (.inr (9, [.ref 154, .int 0, .int 0, .int 0, .int 0, .int 0, .int 0, .int 0, .int 0, .int 0]))) (h155 : am_is H 155 (.inr (9, [.ref 156, .int 0, .int 0, .int 0, .int 0, .int 0, .int 0, .int 0, .int 0, .int 0]))) (c1 : ¬ x0 < 0) (c2 : ¬ 8 ≤ x0) (c3 : x0 = 0)  :
    am_E sL sx cs 98 0 [(0, .ref 0), (1, .int x0)] [] H (some (.null)) (fun H1 => (True) ∧ ∀ j : Nat, H1[j]? = H[j]?) := by
  refine ex_s (am_nb (m := 1) (pc1 := 1) (ls1 := [(0, .ref 0), (1, .int x0)]) (st1 := [.int x0]) (H1 := H) (k1 := 0) (n1 := 0) (by with_unfolding_all rfl)) ?_
  refine ex_s (st_if rfl) ?_
  refine ex_pc (if_neg c1) ?_
  refine ex_s (am_nb (m := 2) (pc1 := 7) (ls1 := [(0, .ref 0), (1, .int x0)]) (st1 := [.int 8, .int x0]) (H1 := H) (k1 := 0) (n1 := 0) (by with_unfolding_all rfl)) ?_
  refine ex_s (st_icmp rfl) ?_
  refine ex_pc (if_neg c2) ?_
  refine ex_s (am_nb (m := 1) (pc1 := 11) (ls1 := [(0, .ref 0), (1, .int x0)]) (st1 := [.ref 0]) (H1 := H) (k1 := 0) (n1 := 0) (by with_unfolding_all rfl)) ?_
  refine ex_s (st_get rfl h0 rfl) ?_
  refine ex_s (am_nb (m := 1) (pc1 := 15) (ls1 := [(0, .ref 0), (1, .int x0)]) (st1 := [.int x0, .ref 115]) (H1 := H) (k1 := 0) (n1 := 0) (by with_unfolding_all rfl)) ?_
  refine ex_s (st_aald rfl h115 (by rw [c3]; decide) rfl) ?_
  refine ex_s (am_nb (m := 0) (pc1 := 16) (ls1 := [(0, .ref 0), (1, .int x0)]) (st1 := [.ref 141]) (H1 := H) (k1 := 0) (n1 := 0) (by rw [c3]; with_unfolding_all rfl)) ?_
  refine ex_s (st_get rfl h141 rfl) ?_
  refine ex_s (am_nb (m := 2) (pc1 := 23) (ls1 := [(0, .ref 0), (1, .int x0)]) (st1 := [.null]) (H1 := H) (k1 := 0) (n1 := 0) (by with_unfolding_all rfl)) ?_
  exact ex_r (st_aret rfl rfl rfl rfl) ⟨trivial, fun j => rfl⟩

set_option maxRecDepth 100000 in
theorem fx_box_1_3 {sL : Nat} {sx : Nat → Int32} {cs : Nat → Nat → Option Int32} {H : am_H} {v0_13 : Int32} {x0 : Int32} (h0 : am_is H 0 (.inr (11, [.ref 1, .int 0, .ref 2, .int 0, .ref 3, .ref 93, .ref 97, .ref 115, .ref 116, .ref 129, .ref 123, .ref 127, .ref 128, .int v0_13, .null, .int 0]))) (h115 : am_is H 115 (.inl ((.object "TerminalHouse$Window"), (8, .inr (.inr (.inr (.inr am_q115))))))) (h141 : am_is H 141 (.inr (9, [.ref 142, .int 0, .int 0, .int 0, .int 0, .int 0, .int 0, .int 0, .int 0, .int 0]))) (h143 : am_is H 143 (.inr (9, [.ref 144, .int 0, .int 0, .int 0, .int 0, .int 0, .int 0, .int 0, .int 0, .int 0]))) (h145 : am_is H 145 (.inr (9, [.ref 146, .int 0, .int 0, .int 0, .int 0, .int 0, .int 0, .int 0, .int 0, .int 0]))) (h147 : am_is H 147 (.inr (9, [.ref 148, .int 0, .int 0, .int 0, .int 0, .int 0, .int 0, .int 0, .int 0, .int 0]))) (h149 : am_is H 149 (.inr (9, [.ref 150, .int 0, .int 0, .int 0, .int 0, .int 0, .int 0, .int 0, .int 0, .int 0]))) (h151 : am_is H 151 (.inr (9, [.ref 152, .int 0, .int 0, .int 0, .int 0, .int 0, .int 0, .int 0, .int 0, .int 0]))) (h153 : am_is H 153 (.inr (9, [.ref 154, .int 0, .int 0, .int 0, .int 0, .int 0, .int 0, .int 0, .int 0, .int 0]))) (h155 : am_is H 155 (.inr (9, [.ref 156, .int 0, .int 0, .int 0, .int 0, .int 0, .int 0, .int 0, .int 0, .int 0]))) (c1 : ¬ x0 < 0) (c2 : ¬ 8 ≤ x0) (c3 : x0 = 1)  :
    am_E sL sx cs 98 0 [(0, .ref 0), (1, .int x0)] [] H (some (.null)) (fun H1 => (True) ∧ ∀ j : Nat, H1[j]? = H[j]?) := by
  refine ex_s (am_nb (m := 1) (pc1 := 1) (ls1 := [(0, .ref 0), (1, .int x0)]) (st1 := [.int x0]) (H1 := H) (k1 := 0) (n1 := 0) (by with_unfolding_all rfl)) ?_
  refine ex_s (st_if rfl) ?_
  refine ex_pc (if_neg c1) ?_
  refine ex_s (am_nb (m := 2) (pc1 := 7) (ls1 := [(0, .ref 0), (1, .int x0)]) (st1 := [.int 8, .int x0]) (H1 := H) (k1 := 0) (n1 := 0) (by with_unfolding_all rfl)) ?_
  refine ex_s (st_icmp rfl) ?_
  refine ex_pc (if_neg c2) ?_
  refine ex_s (am_nb (m := 1) (pc1 := 11) (ls1 := [(0, .ref 0), (1, .int x0)]) (st1 := [.ref 0]) (H1 := H) (k1 := 0) (n1 := 0) (by with_unfolding_all rfl)) ?_
  refine ex_s (st_get rfl h0 rfl) ?_
  refine ex_s (am_nb (m := 1) (pc1 := 15) (ls1 := [(0, .ref 0), (1, .int x0)]) (st1 := [.int x0, .ref 115]) (H1 := H) (k1 := 0) (n1 := 0) (by with_unfolding_all rfl)) ?_
  refine ex_s (st_aald rfl h115 (by rw [c3]; decide) rfl) ?_
  refine ex_s (am_nb (m := 0) (pc1 := 16) (ls1 := [(0, .ref 0), (1, .int x0)]) (st1 := [.ref 143]) (H1 := H) (k1 := 0) (n1 := 0) (by rw [c3]; with_unfolding_all rfl)) ?_
  refine ex_s (st_get rfl h143 rfl) ?_
  refine ex_s (am_nb (m := 2) (pc1 := 23) (ls1 := [(0, .ref 0), (1, .int x0)]) (st1 := [.null]) (H1 := H) (k1 := 0) (n1 := 0) (by with_unfolding_all rfl)) ?_
  exact ex_r (st_aret rfl rfl rfl rfl) ⟨trivial, fun j => rfl⟩

set_option maxRecDepth 100000 in
theorem fx_box_1_4 {sL : Nat} {sx : Nat → Int32} {cs : Nat → Nat → Option Int32} {H : am_H} {v0_13 : Int32} {x0 : Int32} (h0 : am_is H 0 (.inr (11, [.ref 1, .int 0, .ref 2, .int 0, .ref 3, .ref 93, .ref 97, .ref 115, .ref 116, .ref 129, .ref 123, .ref 127, .ref 128, .int v0_13, .null, .int 0]))) (h115 : am_is H 115 (.inl ((.object "TerminalHouse$Window"), (8, .inr (.inr (.inr (.inr am_q115))))))) (h141 : am_is H 141 (.inr (9, [.ref 142, .int 0, .int 0, .int 0, .int 0, .int 0, .int 0, .int 0, .int 0, .int 0]))) (h143 : am_is H 143 (.inr (9, [.ref 144, .int 0, .int 0, .int 0, .int 0, .int 0, .int 0, .int 0, .int 0, .int 0]))) (h145 : am_is H 145 (.inr (9, [.ref 146, .int 0, .int 0, .int 0, .int 0, .int 0, .int 0, .int 0, .int 0, .int 0]))) (h147 : am_is H 147 (.inr (9, [.ref 148, .int 0, .int 0, .int 0, .int 0, .int 0, .int 0, .int 0, .int 0, .int 0]))) (h149 : am_is H 149 (.inr (9, [.ref 150, .int 0, .int 0, .int 0, .int 0, .int 0, .int 0, .int 0, .int 0, .int 0]))) (h151 : am_is H 151 (.inr (9, [.ref 152, .int 0, .int 0, .int 0, .int 0, .int 0, .int 0, .int 0, .int 0, .int 0]))) (h153 : am_is H 153 (.inr (9, [.ref 154, .int 0, .int 0, .int 0, .int 0, .int 0, .int 0, .int 0, .int 0, .int 0]))) (h155 : am_is H 155 (.inr (9, [.ref 156, .int 0, .int 0, .int 0, .int 0, .int 0, .int 0, .int 0, .int 0, .int 0]))) (c1 : ¬ x0 < 0) (c2 : ¬ 8 ≤ x0) (c3 : x0 = 2)  :
    am_E sL sx cs 98 0 [(0, .ref 0), (1, .int x0)] [] H (some (.null)) (fun H1 => (True) ∧ ∀ j : Nat, H1[j]? = H[j]?) := by
  refine ex_s (am_nb (m := 1) (pc1 := 1) (ls1 := [(0, .ref 0), (1, .int x0)]) (st1 := [.int x0]) (H1 := H) (k1 := 0) (n1 := 0) (by with_unfolding_all rfl)) ?_
  refine ex_s (st_if rfl) ?_
  refine ex_pc (if_neg c1) ?_
  refine ex_s (am_nb (m := 2) (pc1 := 7) (ls1 := [(0, .ref 0), (1, .int x0)]) (st1 := [.int 8, .int x0]) (H1 := H) (k1 := 0) (n1 := 0) (by with_unfolding_all rfl)) ?_
  refine ex_s (st_icmp rfl) ?_
  refine ex_pc (if_neg c2) ?_
  refine ex_s (am_nb (m := 1) (pc1 := 11) (ls1 := [(0, .ref 0), (1, .int x0)]) (st1 := [.ref 0]) (H1 := H) (k1 := 0) (n1 := 0) (by with_unfolding_all rfl)) ?_
  refine ex_s (st_get rfl h0 rfl) ?_
  refine ex_s (am_nb (m := 1) (pc1 := 15) (ls1 := [(0, .ref 0), (1, .int x0)]) (st1 := [.int x0, .ref 115]) (H1 := H) (k1 := 0) (n1 := 0) (by with_unfolding_all rfl)) ?_
  refine ex_s (st_aald rfl h115 (by rw [c3]; decide) rfl) ?_
  refine ex_s (am_nb (m := 0) (pc1 := 16) (ls1 := [(0, .ref 0), (1, .int x0)]) (st1 := [.ref 145]) (H1 := H) (k1 := 0) (n1 := 0) (by rw [c3]; with_unfolding_all rfl)) ?_
  refine ex_s (st_get rfl h145 rfl) ?_
  refine ex_s (am_nb (m := 2) (pc1 := 23) (ls1 := [(0, .ref 0), (1, .int x0)]) (st1 := [.null]) (H1 := H) (k1 := 0) (n1 := 0) (by with_unfolding_all rfl)) ?_
  exact ex_r (st_aret rfl rfl rfl rfl) ⟨trivial, fun j => rfl⟩

set_option maxRecDepth 100000 in
theorem fx_box_1_5 {sL : Nat} {sx : Nat → Int32} {cs : Nat → Nat → Option Int32} {H : am_H} {v0_13 : Int32} {x0 : Int32} (h0 : am_is H 0 (.inr (11, [.ref 1, .int 0, .ref 2, .int 0, .ref 3, .ref 93, .ref 97, .ref 115, .ref 116, .ref 129, .ref 123, .ref 127, .ref 128, .int v0_13, .null, .int 0]))) (h115 : am_is H 115 (.inl ((.object "TerminalHouse$Window"), (8, .inr (.inr (.inr (.inr am_q115))))))) (h141 : am_is H 141 (.inr (9, [.ref 142, .int 0, .int 0, .int 0, .int 0, .int 0, .int 0, .int 0, .int 0, .int 0]))) (h143 : am_is H 143 (.inr (9, [.ref 144, .int 0, .int 0, .int 0, .int 0, .int 0, .int 0, .int 0, .int 0, .int 0]))) (h145 : am_is H 145 (.inr (9, [.ref 146, .int 0, .int 0, .int 0, .int 0, .int 0, .int 0, .int 0, .int 0, .int 0]))) (h147 : am_is H 147 (.inr (9, [.ref 148, .int 0, .int 0, .int 0, .int 0, .int 0, .int 0, .int 0, .int 0, .int 0]))) (h149 : am_is H 149 (.inr (9, [.ref 150, .int 0, .int 0, .int 0, .int 0, .int 0, .int 0, .int 0, .int 0, .int 0]))) (h151 : am_is H 151 (.inr (9, [.ref 152, .int 0, .int 0, .int 0, .int 0, .int 0, .int 0, .int 0, .int 0, .int 0]))) (h153 : am_is H 153 (.inr (9, [.ref 154, .int 0, .int 0, .int 0, .int 0, .int 0, .int 0, .int 0, .int 0, .int 0]))) (h155 : am_is H 155 (.inr (9, [.ref 156, .int 0, .int 0, .int 0, .int 0, .int 0, .int 0, .int 0, .int 0, .int 0]))) (c1 : ¬ x0 < 0) (c2 : ¬ 8 ≤ x0) (c3 : x0 = 3)  :
    am_E sL sx cs 98 0 [(0, .ref 0), (1, .int x0)] [] H (some (.null)) (fun H1 => (True) ∧ ∀ j : Nat, H1[j]? = H[j]?) := by
  refine ex_s (am_nb (m := 1) (pc1 := 1) (ls1 := [(0, .ref 0), (1, .int x0)]) (st1 := [.int x0]) (H1 := H) (k1 := 0) (n1 := 0) (by with_unfolding_all rfl)) ?_
  refine ex_s (st_if rfl) ?_
  refine ex_pc (if_neg c1) ?_
  refine ex_s (am_nb (m := 2) (pc1 := 7) (ls1 := [(0, .ref 0), (1, .int x0)]) (st1 := [.int 8, .int x0]) (H1 := H) (k1 := 0) (n1 := 0) (by with_unfolding_all rfl)) ?_
  refine ex_s (st_icmp rfl) ?_
  refine ex_pc (if_neg c2) ?_
  refine ex_s (am_nb (m := 1) (pc1 := 11) (ls1 := [(0, .ref 0), (1, .int x0)]) (st1 := [.ref 0]) (H1 := H) (k1 := 0) (n1 := 0) (by with_unfolding_all rfl)) ?_
  refine ex_s (st_get rfl h0 rfl) ?_
  refine ex_s (am_nb (m := 1) (pc1 := 15) (ls1 := [(0, .ref 0), (1, .int x0)]) (st1 := [.int x0, .ref 115]) (H1 := H) (k1 := 0) (n1 := 0) (by with_unfolding_all rfl)) ?_
  refine ex_s (st_aald rfl h115 (by rw [c3]; decide) rfl) ?_
  refine ex_s (am_nb (m := 0) (pc1 := 16) (ls1 := [(0, .ref 0), (1, .int x0)]) (st1 := [.ref 147]) (H1 := H) (k1 := 0) (n1 := 0) (by rw [c3]; with_unfolding_all rfl)) ?_
  refine ex_s (st_get rfl h147 rfl) ?_
  refine ex_s (am_nb (m := 2) (pc1 := 23) (ls1 := [(0, .ref 0), (1, .int x0)]) (st1 := [.null]) (H1 := H) (k1 := 0) (n1 := 0) (by with_unfolding_all rfl)) ?_
  exact ex_r (st_aret rfl rfl rfl rfl) ⟨trivial, fun j => rfl⟩

set_option maxRecDepth 100000 in
theorem fx_box_1_6 {sL : Nat} {sx : Nat → Int32} {cs : Nat → Nat → Option Int32} {H : am_H} {v0_13 : Int32} {x0 : Int32} (h0 : am_is H 0 (.inr (11, [.ref 1, .int 0, .ref 2, .int 0, .ref 3, .ref 93, .ref 97, .ref 115, .ref 116, .ref 129, .ref 123, .ref 127, .ref 128, .int v0_13, .null, .int 0]))) (h115 : am_is H 115 (.inl ((.object "TerminalHouse$Window"), (8, .inr (.inr (.inr (.inr am_q115))))))) (h141 : am_is H 141 (.inr (9, [.ref 142, .int 0, .int 0, .int 0, .int 0, .int 0, .int 0, .int 0, .int 0, .int 0]))) (h143 : am_is H 143 (.inr (9, [.ref 144, .int 0, .int 0, .int 0, .int 0, .int 0, .int 0, .int 0, .int 0, .int 0]))) (h145 : am_is H 145 (.inr (9, [.ref 146, .int 0, .int 0, .int 0, .int 0, .int 0, .int 0, .int 0, .int 0, .int 0]))) (h147 : am_is H 147 (.inr (9, [.ref 148, .int 0, .int 0, .int 0, .int 0, .int 0, .int 0, .int 0, .int 0, .int 0]))) (h149 : am_is H 149 (.inr (9, [.ref 150, .int 0, .int 0, .int 0, .int 0, .int 0, .int 0, .int 0, .int 0, .int 0]))) (h151 : am_is H 151 (.inr (9, [.ref 152, .int 0, .int 0, .int 0, .int 0, .int 0, .int 0, .int 0, .int 0, .int 0]))) (h153 : am_is H 153 (.inr (9, [.ref 154, .int 0, .int 0, .int 0, .int 0, .int 0, .int 0, .int 0, .int 0, .int 0]))) (h155 : am_is H 155 (.inr (9, [.ref 156, .int 0, .int 0, .int 0, .int 0, .int 0, .int 0, .int 0, .int 0, .int 0]))) (c1 : ¬ x0 < 0) (c2 : ¬ 8 ≤ x0) (c3 : x0 = 4)  :
    am_E sL sx cs 98 0 [(0, .ref 0), (1, .int x0)] [] H (some (.null)) (fun H1 => (True) ∧ ∀ j : Nat, H1[j]? = H[j]?) := by
  refine ex_s (am_nb (m := 1) (pc1 := 1) (ls1 := [(0, .ref 0), (1, .int x0)]) (st1 := [.int x0]) (H1 := H) (k1 := 0) (n1 := 0) (by with_unfolding_all rfl)) ?_
  refine ex_s (st_if rfl) ?_
  refine ex_pc (if_neg c1) ?_
  refine ex_s (am_nb (m := 2) (pc1 := 7) (ls1 := [(0, .ref 0), (1, .int x0)]) (st1 := [.int 8, .int x0]) (H1 := H) (k1 := 0) (n1 := 0) (by with_unfolding_all rfl)) ?_
  refine ex_s (st_icmp rfl) ?_
  refine ex_pc (if_neg c2) ?_
  refine ex_s (am_nb (m := 1) (pc1 := 11) (ls1 := [(0, .ref 0), (1, .int x0)]) (st1 := [.ref 0]) (H1 := H) (k1 := 0) (n1 := 0) (by with_unfolding_all rfl)) ?_
  refine ex_s (st_get rfl h0 rfl) ?_
  refine ex_s (am_nb (m := 1) (pc1 := 15) (ls1 := [(0, .ref 0), (1, .int x0)]) (st1 := [.int x0, .ref 115]) (H1 := H) (k1 := 0) (n1 := 0) (by with_unfolding_all rfl)) ?_
  refine ex_s (st_aald rfl h115 (by rw [c3]; decide) rfl) ?_
  refine ex_s (am_nb (m := 0) (pc1 := 16) (ls1 := [(0, .ref 0), (1, .int x0)]) (st1 := [.ref 149]) (H1 := H) (k1 := 0) (n1 := 0) (by rw [c3]; with_unfolding_all rfl)) ?_
  refine ex_s (st_get rfl h149 rfl) ?_
  refine ex_s (am_nb (m := 2) (pc1 := 23) (ls1 := [(0, .ref 0), (1, .int x0)]) (st1 := [.null]) (H1 := H) (k1 := 0) (n1 := 0) (by with_unfolding_all rfl)) ?_
  exact ex_r (st_aret rfl rfl rfl rfl) ⟨trivial, fun j => rfl⟩

set_option maxRecDepth 100000 in
theorem fx_box_1_7 {sL : Nat} {sx : Nat → Int32} {cs : Nat → Nat → Option Int32} {H : am_H} {v0_13 : Int32} {x0 : Int32} (h0 : am_is H 0 (.inr (11, [.ref 1, .int 0, .ref 2, .int 0, .ref 3, .ref 93, .ref 97, .ref 115, .ref 116, .ref 129, .ref 123, .ref 127, .ref 128, .int v0_13, .null, .int 0]))) (h115 : am_is H 115 (.inl ((.object "TerminalHouse$Window"), (8, .inr (.inr (.inr (.inr am_q115))))))) (h141 : am_is H 141 (.inr (9, [.ref 142, .int 0, .int 0, .int 0, .int 0, .int 0, .int 0, .int 0, .int 0, .int 0]))) (h143 : am_is H 143 (.inr (9, [.ref 144, .int 0, .int 0, .int 0, .int 0, .int 0, .int 0, .int 0, .int 0, .int 0]))) (h145 : am_is H 145 (.inr (9, [.ref 146, .int 0, .int 0, .int 0, .int 0, .int 0, .int 0, .int 0, .int 0, .int 0]))) (h147 : am_is H 147 (.inr (9, [.ref 148, .int 0, .int 0, .int 0, .int 0, .int 0, .int 0, .int 0, .int 0, .int 0]))) (h149 : am_is H 149 (.inr (9, [.ref 150, .int 0, .int 0, .int 0, .int 0, .int 0, .int 0, .int 0, .int 0, .int 0]))) (h151 : am_is H 151 (.inr (9, [.ref 152, .int 0, .int 0, .int 0, .int 0, .int 0, .int 0, .int 0, .int 0, .int 0]))) (h153 : am_is H 153 (.inr (9, [.ref 154, .int 0, .int 0, .int 0, .int 0, .int 0, .int 0, .int 0, .int 0, .int 0]))) (h155 : am_is H 155 (.inr (9, [.ref 156, .int 0, .int 0, .int 0, .int 0, .int 0, .int 0, .int 0, .int 0, .int 0]))) (c1 : ¬ x0 < 0) (c2 : ¬ 8 ≤ x0) (c3 : x0 = 5)  :
    am_E sL sx cs 98 0 [(0, .ref 0), (1, .int x0)] [] H (some (.null)) (fun H1 => (True) ∧ ∀ j : Nat, H1[j]? = H[j]?) := by
  refine ex_s (am_nb (m := 1) (pc1 := 1) (ls1 := [(0, .ref 0), (1, .int x0)]) (st1 := [.int x0]) (H1 := H) (k1 := 0) (n1 := 0) (by with_unfolding_all rfl)) ?_
  refine ex_s (st_if rfl) ?_
  refine ex_pc (if_neg c1) ?_
  refine ex_s (am_nb (m := 2) (pc1 := 7) (ls1 := [(0, .ref 0), (1, .int x0)]) (st1 := [.int 8, .int x0]) (H1 := H) (k1 := 0) (n1 := 0) (by with_unfolding_all rfl)) ?_
  refine ex_s (st_icmp rfl) ?_
  refine ex_pc (if_neg c2) ?_
  refine ex_s (am_nb (m := 1) (pc1 := 11) (ls1 := [(0, .ref 0), (1, .int x0)]) (st1 := [.ref 0]) (H1 := H) (k1 := 0) (n1 := 0) (by with_unfolding_all rfl)) ?_
  refine ex_s (st_get rfl h0 rfl) ?_
  refine ex_s (am_nb (m := 1) (pc1 := 15) (ls1 := [(0, .ref 0), (1, .int x0)]) (st1 := [.int x0, .ref 115]) (H1 := H) (k1 := 0) (n1 := 0) (by with_unfolding_all rfl)) ?_
  refine ex_s (st_aald rfl h115 (by rw [c3]; decide) rfl) ?_
  refine ex_s (am_nb (m := 0) (pc1 := 16) (ls1 := [(0, .ref 0), (1, .int x0)]) (st1 := [.ref 151]) (H1 := H) (k1 := 0) (n1 := 0) (by rw [c3]; with_unfolding_all rfl)) ?_
  refine ex_s (st_get rfl h151 rfl) ?_
  refine ex_s (am_nb (m := 2) (pc1 := 23) (ls1 := [(0, .ref 0), (1, .int x0)]) (st1 := [.null]) (H1 := H) (k1 := 0) (n1 := 0) (by with_unfolding_all rfl)) ?_
  exact ex_r (st_aret rfl rfl rfl rfl) ⟨trivial, fun j => rfl⟩

set_option maxRecDepth 100000 in
theorem fx_box_1_8 {sL : Nat} {sx : Nat → Int32} {cs : Nat → Nat → Option Int32} {H : am_H} {v0_13 : Int32} {x0 : Int32} (h0 : am_is H 0 (.inr (11, [.ref 1, .int 0, .ref 2, .int 0, .ref 3, .ref 93, .ref 97, .ref 115, .ref 116, .ref 129, .ref 123, .ref 127, .ref 128, .int v0_13, .null, .int 0]))) (h115 : am_is H 115 (.inl ((.object "TerminalHouse$Window"), (8, .inr (.inr (.inr (.inr am_q115))))))) (h141 : am_is H 141 (.inr (9, [.ref 142, .int 0, .int 0, .int 0, .int 0, .int 0, .int 0, .int 0, .int 0, .int 0]))) (h143 : am_is H 143 (.inr (9, [.ref 144, .int 0, .int 0, .int 0, .int 0, .int 0, .int 0, .int 0, .int 0, .int 0]))) (h145 : am_is H 145 (.inr (9, [.ref 146, .int 0, .int 0, .int 0, .int 0, .int 0, .int 0, .int 0, .int 0, .int 0]))) (h147 : am_is H 147 (.inr (9, [.ref 148, .int 0, .int 0, .int 0, .int 0, .int 0, .int 0, .int 0, .int 0, .int 0]))) (h149 : am_is H 149 (.inr (9, [.ref 150, .int 0, .int 0, .int 0, .int 0, .int 0, .int 0, .int 0, .int 0, .int 0]))) (h151 : am_is H 151 (.inr (9, [.ref 152, .int 0, .int 0, .int 0, .int 0, .int 0, .int 0, .int 0, .int 0, .int 0]))) (h153 : am_is H 153 (.inr (9, [.ref 154, .int 0, .int 0, .int 0, .int 0, .int 0, .int 0, .int 0, .int 0, .int 0]))) (h155 : am_is H 155 (.inr (9, [.ref 156, .int 0, .int 0, .int 0, .int 0, .int 0, .int 0, .int 0, .int 0, .int 0]))) (c1 : ¬ x0 < 0) (c2 : ¬ 8 ≤ x0) (c3 : x0 = 6)  :
    am_E sL sx cs 98 0 [(0, .ref 0), (1, .int x0)] [] H (some (.null)) (fun H1 => (True) ∧ ∀ j : Nat, H1[j]? = H[j]?) := by
  refine ex_s (am_nb (m := 1) (pc1 := 1) (ls1 := [(0, .ref 0), (1, .int x0)]) (st1 := [.int x0]) (H1 := H) (k1 := 0) (n1 := 0) (by with_unfolding_all rfl)) ?_
  refine ex_s (st_if rfl) ?_
  refine ex_pc (if_neg c1) ?_
  refine ex_s (am_nb (m := 2) (pc1 := 7) (ls1 := [(0, .ref 0), (1, .int x0)]) (st1 := [.int 8, .int x0]) (H1 := H) (k1 := 0) (n1 := 0) (by with_unfolding_all rfl)) ?_
  refine ex_s (st_icmp rfl) ?_
  refine ex_pc (if_neg c2) ?_
  refine ex_s (am_nb (m := 1) (pc1 := 11) (ls1 := [(0, .ref 0), (1, .int x0)]) (st1 := [.ref 0]) (H1 := H) (k1 := 0) (n1 := 0) (by with_unfolding_all rfl)) ?_
  refine ex_s (st_get rfl h0 rfl) ?_
  refine ex_s (am_nb (m := 1) (pc1 := 15) (ls1 := [(0, .ref 0), (1, .int x0)]) (st1 := [.int x0, .ref 115]) (H1 := H) (k1 := 0) (n1 := 0) (by with_unfolding_all rfl)) ?_
  refine ex_s (st_aald rfl h115 (by rw [c3]; decide) rfl) ?_
  refine ex_s (am_nb (m := 0) (pc1 := 16) (ls1 := [(0, .ref 0), (1, .int x0)]) (st1 := [.ref 153]) (H1 := H) (k1 := 0) (n1 := 0) (by rw [c3]; with_unfolding_all rfl)) ?_
  refine ex_s (st_get rfl h153 rfl) ?_
  refine ex_s (am_nb (m := 2) (pc1 := 23) (ls1 := [(0, .ref 0), (1, .int x0)]) (st1 := [.null]) (H1 := H) (k1 := 0) (n1 := 0) (by with_unfolding_all rfl)) ?_
  exact ex_r (st_aret rfl rfl rfl rfl) ⟨trivial, fun j => rfl⟩

set_option maxRecDepth 100000 in
theorem fx_box_1_9 {sL : Nat} {sx : Nat → Int32} {cs : Nat → Nat → Option Int32} {H : am_H} {v0_13 : Int32} {x0 : Int32} (h0 : am_is H 0 (.inr (11, [.ref 1, .int 0, .ref 2, .int 0, .ref 3, .ref 93, .ref 97, .ref 115, .ref 116, .ref 129, .ref 123, .ref 127, .ref 128, .int v0_13, .null, .int 0]))) (h115 : am_is H 115 (.inl ((.object "TerminalHouse$Window"), (8, .inr (.inr (.inr (.inr am_q115))))))) (h141 : am_is H 141 (.inr (9, [.ref 142, .int 0, .int 0, .int 0, .int 0, .int 0, .int 0, .int 0, .int 0, .int 0]))) (h143 : am_is H 143 (.inr (9, [.ref 144, .int 0, .int 0, .int 0, .int 0, .int 0, .int 0, .int 0, .int 0, .int 0]))) (h145 : am_is H 145 (.inr (9, [.ref 146, .int 0, .int 0, .int 0, .int 0, .int 0, .int 0, .int 0, .int 0, .int 0]))) (h147 : am_is H 147 (.inr (9, [.ref 148, .int 0, .int 0, .int 0, .int 0, .int 0, .int 0, .int 0, .int 0, .int 0]))) (h149 : am_is H 149 (.inr (9, [.ref 150, .int 0, .int 0, .int 0, .int 0, .int 0, .int 0, .int 0, .int 0, .int 0]))) (h151 : am_is H 151 (.inr (9, [.ref 152, .int 0, .int 0, .int 0, .int 0, .int 0, .int 0, .int 0, .int 0, .int 0]))) (h153 : am_is H 153 (.inr (9, [.ref 154, .int 0, .int 0, .int 0, .int 0, .int 0, .int 0, .int 0, .int 0, .int 0]))) (h155 : am_is H 155 (.inr (9, [.ref 156, .int 0, .int 0, .int 0, .int 0, .int 0, .int 0, .int 0, .int 0, .int 0]))) (c1 : ¬ x0 < 0) (c2 : ¬ 8 ≤ x0) (c3 : x0 = 7)  :
    am_E sL sx cs 98 0 [(0, .ref 0), (1, .int x0)] [] H (some (.null)) (fun H1 => (True) ∧ ∀ j : Nat, H1[j]? = H[j]?) := by
  refine ex_s (am_nb (m := 1) (pc1 := 1) (ls1 := [(0, .ref 0), (1, .int x0)]) (st1 := [.int x0]) (H1 := H) (k1 := 0) (n1 := 0) (by with_unfolding_all rfl)) ?_
  refine ex_s (st_if rfl) ?_
  refine ex_pc (if_neg c1) ?_
  refine ex_s (am_nb (m := 2) (pc1 := 7) (ls1 := [(0, .ref 0), (1, .int x0)]) (st1 := [.int 8, .int x0]) (H1 := H) (k1 := 0) (n1 := 0) (by with_unfolding_all rfl)) ?_
  refine ex_s (st_icmp rfl) ?_
  refine ex_pc (if_neg c2) ?_
  refine ex_s (am_nb (m := 1) (pc1 := 11) (ls1 := [(0, .ref 0), (1, .int x0)]) (st1 := [.ref 0]) (H1 := H) (k1 := 0) (n1 := 0) (by with_unfolding_all rfl)) ?_
  refine ex_s (st_get rfl h0 rfl) ?_
  refine ex_s (am_nb (m := 1) (pc1 := 15) (ls1 := [(0, .ref 0), (1, .int x0)]) (st1 := [.int x0, .ref 115]) (H1 := H) (k1 := 0) (n1 := 0) (by with_unfolding_all rfl)) ?_
  refine ex_s (st_aald rfl h115 (by rw [c3]; decide) rfl) ?_
  refine ex_s (am_nb (m := 0) (pc1 := 16) (ls1 := [(0, .ref 0), (1, .int x0)]) (st1 := [.ref 155]) (H1 := H) (k1 := 0) (n1 := 0) (by rw [c3]; with_unfolding_all rfl)) ?_
  refine ex_s (st_get rfl h155 rfl) ?_
  refine ex_s (am_nb (m := 2) (pc1 := 23) (ls1 := [(0, .ref 0), (1, .int x0)]) (st1 := [.null]) (H1 := H) (k1 := 0) (n1 := 0) (by with_unfolding_all rfl)) ?_
  exact ex_r (st_aret rfl rfl rfl rfl) ⟨trivial, fun j => rfl⟩

set_option maxRecDepth 100000 in
theorem fx_box_0 {sL : Nat} {sx : Nat → Int32} {cs : Nat → Nat → Option Int32} {H : am_H} {v0_13 : Int32} {x0 : Int32} (h0 : am_is H 0 (.inr (11, [.ref 1, .int 0, .ref 2, .int 0, .ref 3, .ref 93, .ref 97, .ref 115, .ref 116, .ref 129, .ref 123, .ref 127, .ref 128, .int v0_13, .null, .int 0]))) (h115 : am_is H 115 (.inl ((.object "TerminalHouse$Window"), (8, .inr (.inr (.inr (.inr am_q115))))))) (h141 : am_is H 141 (.inr (9, [.ref 142, .int 0, .int 0, .int 0, .int 0, .int 0, .int 0, .int 0, .int 0, .int 0]))) (h143 : am_is H 143 (.inr (9, [.ref 144, .int 0, .int 0, .int 0, .int 0, .int 0, .int 0, .int 0, .int 0, .int 0]))) (h145 : am_is H 145 (.inr (9, [.ref 146, .int 0, .int 0, .int 0, .int 0, .int 0, .int 0, .int 0, .int 0, .int 0]))) (h147 : am_is H 147 (.inr (9, [.ref 148, .int 0, .int 0, .int 0, .int 0, .int 0, .int 0, .int 0, .int 0, .int 0]))) (h149 : am_is H 149 (.inr (9, [.ref 150, .int 0, .int 0, .int 0, .int 0, .int 0, .int 0, .int 0, .int 0, .int 0]))) (h151 : am_is H 151 (.inr (9, [.ref 152, .int 0, .int 0, .int 0, .int 0, .int 0, .int 0, .int 0, .int 0, .int 0]))) (h153 : am_is H 153 (.inr (9, [.ref 154, .int 0, .int 0, .int 0, .int 0, .int 0, .int 0, .int 0, .int 0, .int 0]))) (h155 : am_is H 155 (.inr (9, [.ref 156, .int 0, .int 0, .int 0, .int 0, .int 0, .int 0, .int 0, .int 0, .int 0]))) (c1 : x0 < 0)  :
    am_E sL sx cs 117 0 [(0, .ref 0), (1, .int x0)] [] H (some (.int 0)) (fun H1 => (True) ∧ ∀ j : Nat, H1[j]? = H[j]?) := by
  refine ex_s (am_nb (m := 2) (pc1 := 2) (ls1 := [(0, .ref 0), (1, .int x0)]) (st1 := [.int x0, .ref 0]) (H1 := H) (k1 := 0) (n1 := 0) (by with_unfolding_all rfl)) ?_
  refine ex_cv1 (as := [.int x0]) (rest := []) rfl rfl rfl rfl h0 rfl (by with_unfolding_all rfl) (by with_unfolding_all rfl) (fx_box_1_0 h0 h115 h141 h143 h145 h147 h149 h151 h153 h155 c1) ?_
  rintro H177 ⟨-, k177⟩
  refine ex_s (am_nb (m := 4) (pc1 := 11) (ls1 := [(2, .null), (0, .ref 0), (1, .int x0)]) (st1 := [.int 0]) (H1 := H177) (k1 := 0) (n1 := 0) (by with_unfolding_all rfl)) ?_
  exact ex_r (st_iret rfl rfl rfl) ⟨trivial, fun j => (k177 j)⟩

set_option maxRecDepth 100000 in
theorem fx_box_1 {sL : Nat} {sx : Nat → Int32} {cs : Nat → Nat → Option Int32} {H : am_H} {v0_13 : Int32} {x0 : Int32} (h0 : am_is H 0 (.inr (11, [.ref 1, .int 0, .ref 2, .int 0, .ref 3, .ref 93, .ref 97, .ref 115, .ref 116, .ref 129, .ref 123, .ref 127, .ref 128, .int v0_13, .null, .int 0]))) (h115 : am_is H 115 (.inl ((.object "TerminalHouse$Window"), (8, .inr (.inr (.inr (.inr am_q115))))))) (h141 : am_is H 141 (.inr (9, [.ref 142, .int 0, .int 0, .int 0, .int 0, .int 0, .int 0, .int 0, .int 0, .int 0]))) (h143 : am_is H 143 (.inr (9, [.ref 144, .int 0, .int 0, .int 0, .int 0, .int 0, .int 0, .int 0, .int 0, .int 0]))) (h145 : am_is H 145 (.inr (9, [.ref 146, .int 0, .int 0, .int 0, .int 0, .int 0, .int 0, .int 0, .int 0, .int 0]))) (h147 : am_is H 147 (.inr (9, [.ref 148, .int 0, .int 0, .int 0, .int 0, .int 0, .int 0, .int 0, .int 0, .int 0]))) (h149 : am_is H 149 (.inr (9, [.ref 150, .int 0, .int 0, .int 0, .int 0, .int 0, .int 0, .int 0, .int 0, .int 0]))) (h151 : am_is H 151 (.inr (9, [.ref 152, .int 0, .int 0, .int 0, .int 0, .int 0, .int 0, .int 0, .int 0, .int 0]))) (h153 : am_is H 153 (.inr (9, [.ref 154, .int 0, .int 0, .int 0, .int 0, .int 0, .int 0, .int 0, .int 0, .int 0]))) (h155 : am_is H 155 (.inr (9, [.ref 156, .int 0, .int 0, .int 0, .int 0, .int 0, .int 0, .int 0, .int 0, .int 0]))) (c1 : ¬ x0 < 0) (c2 : 8 ≤ x0)  :
    am_E sL sx cs 117 0 [(0, .ref 0), (1, .int x0)] [] H (some (.int 0)) (fun H1 => (True) ∧ ∀ j : Nat, H1[j]? = H[j]?) := by
  refine ex_s (am_nb (m := 2) (pc1 := 2) (ls1 := [(0, .ref 0), (1, .int x0)]) (st1 := [.int x0, .ref 0]) (H1 := H) (k1 := 0) (n1 := 0) (by with_unfolding_all rfl)) ?_
  refine ex_cv1 (as := [.int x0]) (rest := []) rfl rfl rfl rfl h0 rfl (by with_unfolding_all rfl) (by with_unfolding_all rfl) (fx_box_1_1 h0 h115 h141 h143 h145 h147 h149 h151 h153 h155 c1 c2) ?_
  rintro H178 ⟨-, k178⟩
  refine ex_s (am_nb (m := 4) (pc1 := 11) (ls1 := [(2, .null), (0, .ref 0), (1, .int x0)]) (st1 := [.int 0]) (H1 := H178) (k1 := 0) (n1 := 0) (by with_unfolding_all rfl)) ?_
  exact ex_r (st_iret rfl rfl rfl) ⟨trivial, fun j => (k178 j)⟩

set_option maxRecDepth 100000 in
theorem fx_box_2 {sL : Nat} {sx : Nat → Int32} {cs : Nat → Nat → Option Int32} {H : am_H} {v0_13 : Int32} {x0 : Int32} (h0 : am_is H 0 (.inr (11, [.ref 1, .int 0, .ref 2, .int 0, .ref 3, .ref 93, .ref 97, .ref 115, .ref 116, .ref 129, .ref 123, .ref 127, .ref 128, .int v0_13, .null, .int 0]))) (h115 : am_is H 115 (.inl ((.object "TerminalHouse$Window"), (8, .inr (.inr (.inr (.inr am_q115))))))) (h141 : am_is H 141 (.inr (9, [.ref 142, .int 0, .int 0, .int 0, .int 0, .int 0, .int 0, .int 0, .int 0, .int 0]))) (h143 : am_is H 143 (.inr (9, [.ref 144, .int 0, .int 0, .int 0, .int 0, .int 0, .int 0, .int 0, .int 0, .int 0]))) (h145 : am_is H 145 (.inr (9, [.ref 146, .int 0, .int 0, .int 0, .int 0, .int 0, .int 0, .int 0, .int 0, .int 0]))) (h147 : am_is H 147 (.inr (9, [.ref 148, .int 0, .int 0, .int 0, .int 0, .int 0, .int 0, .int 0, .int 0, .int 0]))) (h149 : am_is H 149 (.inr (9, [.ref 150, .int 0, .int 0, .int 0, .int 0, .int 0, .int 0, .int 0, .int 0, .int 0]))) (h151 : am_is H 151 (.inr (9, [.ref 152, .int 0, .int 0, .int 0, .int 0, .int 0, .int 0, .int 0, .int 0, .int 0]))) (h153 : am_is H 153 (.inr (9, [.ref 154, .int 0, .int 0, .int 0, .int 0, .int 0, .int 0, .int 0, .int 0, .int 0]))) (h155 : am_is H 155 (.inr (9, [.ref 156, .int 0, .int 0, .int 0, .int 0, .int 0, .int 0, .int 0, .int 0, .int 0]))) (c1 : ¬ x0 < 0) (c2 : ¬ 8 ≤ x0) (c3 : x0 = 0)  :
    am_E sL sx cs 117 0 [(0, .ref 0), (1, .int x0)] [] H (some (.int 0)) (fun H1 => (True) ∧ ∀ j : Nat, H1[j]? = H[j]?) := by
  refine ex_s (am_nb (m := 2) (pc1 := 2) (ls1 := [(0, .ref 0), (1, .int x0)]) (st1 := [.int x0, .ref 0]) (H1 := H) (k1 := 0) (n1 := 0) (by with_unfolding_all rfl)) ?_
  refine ex_cv1 (as := [.int x0]) (rest := []) rfl rfl rfl rfl h0 rfl (by with_unfolding_all rfl) (by with_unfolding_all rfl) (fx_box_1_2 h0 h115 h141 h143 h145 h147 h149 h151 h153 h155 c1 c2 c3) ?_
  rintro H179 ⟨-, k179⟩
  refine ex_s (am_nb (m := 4) (pc1 := 11) (ls1 := [(2, .null), (0, .ref 0), (1, .int x0)]) (st1 := [.int 0]) (H1 := H179) (k1 := 0) (n1 := 0) (by with_unfolding_all rfl)) ?_
  exact ex_r (st_iret rfl rfl rfl) ⟨trivial, fun j => (k179 j)⟩

set_option maxRecDepth 100000 in
theorem fx_box_3 {sL : Nat} {sx : Nat → Int32} {cs : Nat → Nat → Option Int32} {H : am_H} {v0_13 : Int32} {x0 : Int32} (h0 : am_is H 0 (.inr (11, [.ref 1, .int 0, .ref 2, .int 0, .ref 3, .ref 93, .ref 97, .ref 115, .ref 116, .ref 129, .ref 123, .ref 127, .ref 128, .int v0_13, .null, .int 0]))) (h115 : am_is H 115 (.inl ((.object "TerminalHouse$Window"), (8, .inr (.inr (.inr (.inr am_q115))))))) (h141 : am_is H 141 (.inr (9, [.ref 142, .int 0, .int 0, .int 0, .int 0, .int 0, .int 0, .int 0, .int 0, .int 0]))) (h143 : am_is H 143 (.inr (9, [.ref 144, .int 0, .int 0, .int 0, .int 0, .int 0, .int 0, .int 0, .int 0, .int 0]))) (h145 : am_is H 145 (.inr (9, [.ref 146, .int 0, .int 0, .int 0, .int 0, .int 0, .int 0, .int 0, .int 0, .int 0]))) (h147 : am_is H 147 (.inr (9, [.ref 148, .int 0, .int 0, .int 0, .int 0, .int 0, .int 0, .int 0, .int 0, .int 0]))) (h149 : am_is H 149 (.inr (9, [.ref 150, .int 0, .int 0, .int 0, .int 0, .int 0, .int 0, .int 0, .int 0, .int 0]))) (h151 : am_is H 151 (.inr (9, [.ref 152, .int 0, .int 0, .int 0, .int 0, .int 0, .int 0, .int 0, .int 0, .int 0]))) (h153 : am_is H 153 (.inr (9, [.ref 154, .int 0, .int 0, .int 0, .int 0, .int 0, .int 0, .int 0, .int 0, .int 0]))) (h155 : am_is H 155 (.inr (9, [.ref 156, .int 0, .int 0, .int 0, .int 0, .int 0, .int 0, .int 0, .int 0, .int 0]))) (c1 : ¬ x0 < 0) (c2 : ¬ 8 ≤ x0) (c3 : x0 = 1)  :
    am_E sL sx cs 117 0 [(0, .ref 0), (1, .int x0)] [] H (some (.int 0)) (fun H1 => (True) ∧ ∀ j : Nat, H1[j]? = H[j]?) := by
  refine ex_s (am_nb (m := 2) (pc1 := 2) (ls1 := [(0, .ref 0), (1, .int x0)]) (st1 := [.int x0, .ref 0]) (H1 := H) (k1 := 0) (n1 := 0) (by with_unfolding_all rfl)) ?_
  refine ex_cv1 (as := [.int x0]) (rest := []) rfl rfl rfl rfl h0 rfl (by with_unfolding_all rfl) (by with_unfolding_all rfl) (fx_box_1_3 h0 h115 h141 h143 h145 h147 h149 h151 h153 h155 c1 c2 c3) ?_
  rintro H180 ⟨-, k180⟩
  refine ex_s (am_nb (m := 4) (pc1 := 11) (ls1 := [(2, .null), (0, .ref 0), (1, .int x0)]) (st1 := [.int 0]) (H1 := H180) (k1 := 0) (n1 := 0) (by with_unfolding_all rfl)) ?_
  exact ex_r (st_iret rfl rfl rfl) ⟨trivial, fun j => (k180 j)⟩

set_option maxRecDepth 100000 in
theorem fx_box_4 {sL : Nat} {sx : Nat → Int32} {cs : Nat → Nat → Option Int32} {H : am_H} {v0_13 : Int32} {x0 : Int32} (h0 : am_is H 0 (.inr (11, [.ref 1, .int 0, .ref 2, .int 0, .ref 3, .ref 93, .ref 97, .ref 115, .ref 116, .ref 129, .ref 123, .ref 127, .ref 128, .int v0_13, .null, .int 0]))) (h115 : am_is H 115 (.inl ((.object "TerminalHouse$Window"), (8, .inr (.inr (.inr (.inr am_q115))))))) (h141 : am_is H 141 (.inr (9, [.ref 142, .int 0, .int 0, .int 0, .int 0, .int 0, .int 0, .int 0, .int 0, .int 0]))) (h143 : am_is H 143 (.inr (9, [.ref 144, .int 0, .int 0, .int 0, .int 0, .int 0, .int 0, .int 0, .int 0, .int 0]))) (h145 : am_is H 145 (.inr (9, [.ref 146, .int 0, .int 0, .int 0, .int 0, .int 0, .int 0, .int 0, .int 0, .int 0]))) (h147 : am_is H 147 (.inr (9, [.ref 148, .int 0, .int 0, .int 0, .int 0, .int 0, .int 0, .int 0, .int 0, .int 0]))) (h149 : am_is H 149 (.inr (9, [.ref 150, .int 0, .int 0, .int 0, .int 0, .int 0, .int 0, .int 0, .int 0, .int 0]))) (h151 : am_is H 151 (.inr (9, [.ref 152, .int 0, .int 0, .int 0, .int 0, .int 0, .int 0, .int 0, .int 0, .int 0]))) (h153 : am_is H 153 (.inr (9, [.ref 154, .int 0, .int 0, .int 0, .int 0, .int 0, .int 0, .int 0, .int 0, .int 0]))) (h155 : am_is H 155 (.inr (9, [.ref 156, .int 0, .int 0, .int 0, .int 0, .int 0, .int 0, .int 0, .int 0, .int 0]))) (c1 : ¬ x0 < 0) (c2 : ¬ 8 ≤ x0) (c3 : x0 = 2)  :
    am_E sL sx cs 117 0 [(0, .ref 0), (1, .int x0)] [] H (some (.int 0)) (fun H1 => (True) ∧ ∀ j : Nat, H1[j]? = H[j]?) := by
  refine ex_s (am_nb (m := 2) (pc1 := 2) (ls1 := [(0, .ref 0), (1, .int x0)]) (st1 := [.int x0, .ref 0]) (H1 := H) (k1 := 0) (n1 := 0) (by with_unfolding_all rfl)) ?_
  refine ex_cv1 (as := [.int x0]) (rest := []) rfl rfl rfl rfl h0 rfl (by with_unfolding_all rfl) (by with_unfolding_all rfl) (fx_box_1_4 h0 h115 h141 h143 h145 h147 h149 h151 h153 h155 c1 c2 c3) ?_
  rintro H181 ⟨-, k181⟩
  refine ex_s (am_nb (m := 4) (pc1 := 11) (ls1 := [(2, .null), (0, .ref 0), (1, .int x0)]) (st1 := [.int 0]) (H1 := H181) (k1 := 0) (n1 := 0) (by with_unfolding_all rfl)) ?_
  exact ex_r (st_iret rfl rfl rfl) ⟨trivial, fun j => (k181 j)⟩

set_option maxRecDepth 100000 in
theorem fx_box_5 {sL : Nat} {sx : Nat → Int32} {cs : Nat → Nat → Option Int32} {H : am_H} {v0_13 : Int32} {x0 : Int32} (h0 : am_is H 0 (.inr (11, [.ref 1, .int 0, .ref 2, .int 0, .ref 3, .ref 93, .ref 97, .ref 115, .ref 116, .ref 129, .ref 123, .ref 127, .ref 128, .int v0_13, .null, .int 0]))) (h115 : am_is H 115 (.inl ((.object "TerminalHouse$Window"), (8, .inr (.inr (.inr (.inr am_q115))))))) (h141 : am_is H 141 (.inr (9, [.ref 142, .int 0, .int 0, .int 0, .int 0, .int 0, .int 0, .int 0, .int 0, .int 0]))) (h143 : am_is H 143 (.inr (9, [.ref 144, .int 0, .int 0, .int 0, .int 0, .int 0, .int 0, .int 0, .int 0, .int 0]))) (h145 : am_is H 145 (.inr (9, [.ref 146, .int 0, .int 0, .int 0, .int 0, .int 0, .int 0, .int 0, .int 0, .int 0]))) (h147 : am_is H 147 (.inr (9, [.ref 148, .int 0, .int 0, .int 0, .int 0, .int 0, .int 0, .int 0, .int 0, .int 0]))) (h149 : am_is H 149 (.inr (9, [.ref 150, .int 0, .int 0, .int 0, .int 0, .int 0, .int 0, .int 0, .int 0, .int 0]))) (h151 : am_is H 151 (.inr (9, [.ref 152, .int 0, .int 0, .int 0, .int 0, .int 0, .int 0, .int 0, .int 0, .int 0]))) (h153 : am_is H 153 (.inr (9, [.ref 154, .int 0, .int 0, .int 0, .int 0, .int 0, .int 0, .int 0, .int 0, .int 0]))) (h155 : am_is H 155 (.inr (9, [.ref 156, .int 0, .int 0, .int 0, .int 0, .int 0, .int 0, .int 0, .int 0, .int 0]))) (c1 : ¬ x0 < 0) (c2 : ¬ 8 ≤ x0) (c3 : x0 = 3)  :
    am_E sL sx cs 117 0 [(0, .ref 0), (1, .int x0)] [] H (some (.int 0)) (fun H1 => (True) ∧ ∀ j : Nat, H1[j]? = H[j]?) := by
  refine ex_s (am_nb (m := 2) (pc1 := 2) (ls1 := [(0, .ref 0), (1, .int x0)]) (st1 := [.int x0, .ref 0]) (H1 := H) (k1 := 0) (n1 := 0) (by with_unfolding_all rfl)) ?_
  refine ex_cv1 (as := [.int x0]) (rest := []) rfl rfl rfl rfl h0 rfl (by with_unfolding_all rfl) (by with_unfolding_all rfl) (fx_box_1_5 h0 h115 h141 h143 h145 h147 h149 h151 h153 h155 c1 c2 c3) ?_
  rintro H182 ⟨-, k182⟩
  refine ex_s (am_nb (m := 4) (pc1 := 11) (ls1 := [(2, .null), (0, .ref 0), (1, .int x0)]) (st1 := [.int 0]) (H1 := H182) (k1 := 0) (n1 := 0) (by with_unfolding_all rfl)) ?_
  exact ex_r (st_iret rfl rfl rfl) ⟨trivial, fun j => (k182 j)⟩

set_option maxRecDepth 100000 in
theorem fx_box_6 {sL : Nat} {sx : Nat → Int32} {cs : Nat → Nat → Option Int32} {H : am_H} {v0_13 : Int32} {x0 : Int32} (h0 : am_is H 0 (.inr (11, [.ref 1, .int 0, .ref 2, .int 0, .ref 3, .ref 93, .ref 97, .ref 115, .ref 116, .ref 129, .ref 123, .ref 127, .ref 128, .int v0_13, .null, .int 0]))) (h115 : am_is H 115 (.inl ((.object "TerminalHouse$Window"), (8, .inr (.inr (.inr (.inr am_q115))))))) (h141 : am_is H 141 (.inr (9, [.ref 142, .int 0, .int 0, .int 0, .int 0, .int 0, .int 0, .int 0, .int 0, .int 0]))) (h143 : am_is H 143 (.inr (9, [.ref 144, .int 0, .int 0, .int 0, .int 0, .int 0, .int 0, .int 0, .int 0, .int 0]))) (h145 : am_is H 145 (.inr (9, [.ref 146, .int 0, .int 0, .int 0, .int 0, .int 0, .int 0, .int 0, .int 0, .int 0]))) (h147 : am_is H 147 (.inr (9, [.ref 148, .int 0, .int 0, .int 0, .int 0, .int 0, .int 0, .int 0, .int 0, .int 0]))) (h149 : am_is H 149 (.inr (9, [.ref 150, .int 0, .int 0, .int 0, .int 0, .int 0, .int 0, .int 0, .int 0, .int 0]))) (h151 : am_is H 151 (.inr (9, [.ref 152, .int 0, .int 0, .int 0, .int 0, .int 0, .int 0, .int 0, .int 0, .int 0]))) (h153 : am_is H 153 (.inr (9, [.ref 154, .int 0, .int 0, .int 0, .int 0, .int 0, .int 0, .int 0, .int 0, .int 0]))) (h155 : am_is H 155 (.inr (9, [.ref 156, .int 0, .int 0, .int 0, .int 0, .int 0, .int 0, .int 0, .int 0, .int 0]))) (c1 : ¬ x0 < 0) (c2 : ¬ 8 ≤ x0) (c3 : x0 = 4)  :
    am_E sL sx cs 117 0 [(0, .ref 0), (1, .int x0)] [] H (some (.int 0)) (fun H1 => (True) ∧ ∀ j : Nat, H1[j]? = H[j]?) := by
  refine ex_s (am_nb (m := 2) (pc1 := 2) (ls1 := [(0, .ref 0), (1, .int x0)]) (st1 := [.int x0, .ref 0]) (H1 := H) (k1 := 0) (n1 := 0) (by with_unfolding_all rfl)) ?_
  refine ex_cv1 (as := [.int x0]) (rest := []) rfl rfl rfl rfl h0 rfl (by with_unfolding_all rfl) (by with_unfolding_all rfl) (fx_box_1_6 h0 h115 h141 h143 h145 h147 h149 h151 h153 h155 c1 c2 c3) ?_
  rintro H183 ⟨-, k183⟩
  refine ex_s (am_nb (m := 4) (pc1 := 11) (ls1 := [(2, .null), (0, .ref 0), (1, .int x0)]) (st1 := [.int 0]) (H1 := H183) (k1 := 0) (n1 := 0) (by with_unfolding_all rfl)) ?_
  exact ex_r (st_iret rfl rfl rfl) ⟨trivial, fun j => (k183 j)⟩

set_option maxRecDepth 100000 in
theorem fx_box_7 {sL : Nat} {sx : Nat → Int32} {cs : Nat → Nat → Option Int32} {H : am_H} {v0_13 : Int32} {x0 : Int32} (h0 : am_is H 0 (.inr (11, [.ref 1, .int 0, .ref 2, .int 0, .ref 3, .ref 93, .ref 97, .ref 115, .ref 116, .ref 129, .ref 123, .ref 127, .ref 128, .int v0_13, .null, .int 0]))) (h115 : am_is H 115 (.inl ((.object "TerminalHouse$Window"), (8, .inr (.inr (.inr (.inr am_q115))))))) (h141 : am_is H 141 (.inr (9, [.ref 142, .int 0, .int 0, .int 0, .int 0, .int 0, .int 0, .int 0, .int 0, .int 0]))) (h143 : am_is H 143 (.inr (9, [.ref 144, .int 0, .int 0, .int 0, .int 0, .int 0, .int 0, .int 0, .int 0, .int 0]))) (h145 : am_is H 145 (.inr (9, [.ref 146, .int 0, .int 0, .int 0, .int 0, .int 0, .int 0, .int 0, .int 0, .int 0]))) (h147 : am_is H 147 (.inr (9, [.ref 148, .int 0, .int 0, .int 0, .int 0, .int 0, .int 0, .int 0, .int 0, .int 0]))) (h149 : am_is H 149 (.inr (9, [.ref 150, .int 0, .int 0, .int 0, .int 0, .int 0, .int 0, .int 0, .int 0, .int 0]))) (h151 : am_is H 151 (.inr (9, [.ref 152, .int 0, .int 0, .int 0, .int 0, .int 0, .int 0, .int 0, .int 0, .int 0]))) (h153 : am_is H 153 (.inr (9, [.ref 154, .int 0, .int 0, .int 0, .int 0, .int 0, .int 0, .int 0, .int 0, .int 0]))) (h155 : am_is H 155 (.inr (9, [.ref 156, .int 0, .int 0, .int 0, .int 0, .int 0, .int 0, .int 0, .int 0, .int 0]))) (c1 : ¬ x0 < 0) (c2 : ¬ 8 ≤ x0) (c3 : x0 = 5)  :
    am_E sL sx cs 117 0 [(0, .ref 0), (1, .int x0)] [] H (some (.int 0)) (fun H1 => (True) ∧ ∀ j : Nat, H1[j]? = H[j]?) := by
  refine ex_s (am_nb (m := 2) (pc1 := 2) (ls1 := [(0, .ref 0), (1, .int x0)]) (st1 := [.int x0, .ref 0]) (H1 := H) (k1 := 0) (n1 := 0) (by with_unfolding_all rfl)) ?_
  refine ex_cv1 (as := [.int x0]) (rest := []) rfl rfl rfl rfl h0 rfl (by with_unfolding_all rfl) (by with_unfolding_all rfl) (fx_box_1_7 h0 h115 h141 h143 h145 h147 h149 h151 h153 h155 c1 c2 c3) ?_
  rintro H184 ⟨-, k184⟩
  refine ex_s (am_nb (m := 4) (pc1 := 11) (ls1 := [(2, .null), (0, .ref 0), (1, .int x0)]) (st1 := [.int 0]) (H1 := H184) (k1 := 0) (n1 := 0) (by with_unfolding_all rfl)) ?_
  exact ex_r (st_iret rfl rfl rfl) ⟨trivial, fun j => (k184 j)⟩

set_option maxRecDepth 100000 in
theorem fx_box_8 {sL : Nat} {sx : Nat → Int32} {cs : Nat → Nat → Option Int32} {H : am_H} {v0_13 : Int32} {x0 : Int32} (h0 : am_is H 0 (.inr (11, [.ref 1, .int 0, .ref 2, .int 0, .ref 3, .ref 93, .ref 97, .ref 115, .ref 116, .ref 129, .ref 123, .ref 127, .ref 128, .int v0_13, .null, .int 0]))) (h115 : am_is H 115 (.inl ((.object "TerminalHouse$Window"), (8, .inr (.inr (.inr (.inr am_q115))))))) (h141 : am_is H 141 (.inr (9, [.ref 142, .int 0, .int 0, .int 0, .int 0, .int 0, .int 0, .int 0, .int 0, .int 0]))) (h143 : am_is H 143 (.inr (9, [.ref 144, .int 0, .int 0, .int 0, .int 0, .int 0, .int 0, .int 0, .int 0, .int 0]))) (h145 : am_is H 145 (.inr (9, [.ref 146, .int 0, .int 0, .int 0, .int 0, .int 0, .int 0, .int 0, .int 0, .int 0]))) (h147 : am_is H 147 (.inr (9, [.ref 148, .int 0, .int 0, .int 0, .int 0, .int 0, .int 0, .int 0, .int 0, .int 0]))) (h149 : am_is H 149 (.inr (9, [.ref 150, .int 0, .int 0, .int 0, .int 0, .int 0, .int 0, .int 0, .int 0, .int 0]))) (h151 : am_is H 151 (.inr (9, [.ref 152, .int 0, .int 0, .int 0, .int 0, .int 0, .int 0, .int 0, .int 0, .int 0]))) (h153 : am_is H 153 (.inr (9, [.ref 154, .int 0, .int 0, .int 0, .int 0, .int 0, .int 0, .int 0, .int 0, .int 0]))) (h155 : am_is H 155 (.inr (9, [.ref 156, .int 0, .int 0, .int 0, .int 0, .int 0, .int 0, .int 0, .int 0, .int 0]))) (c1 : ¬ x0 < 0) (c2 : ¬ 8 ≤ x0) (c3 : x0 = 6)  :
    am_E sL sx cs 117 0 [(0, .ref 0), (1, .int x0)] [] H (some (.int 0)) (fun H1 => (True) ∧ ∀ j : Nat, H1[j]? = H[j]?) := by
  refine ex_s (am_nb (m := 2) (pc1 := 2) (ls1 := [(0, .ref 0), (1, .int x0)]) (st1 := [.int x0, .ref 0]) (H1 := H) (k1 := 0) (n1 := 0) (by with_unfolding_all rfl)) ?_
  refine ex_cv1 (as := [.int x0]) (rest := []) rfl rfl rfl rfl h0 rfl (by with_unfolding_all rfl) (by with_unfolding_all rfl) (fx_box_1_8 h0 h115 h141 h143 h145 h147 h149 h151 h153 h155 c1 c2 c3) ?_
  rintro H185 ⟨-, k185⟩
  refine ex_s (am_nb (m := 4) (pc1 := 11) (ls1 := [(2, .null), (0, .ref 0), (1, .int x0)]) (st1 := [.int 0]) (H1 := H185) (k1 := 0) (n1 := 0) (by with_unfolding_all rfl)) ?_
  exact ex_r (st_iret rfl rfl rfl) ⟨trivial, fun j => (k185 j)⟩

set_option maxRecDepth 100000 in
theorem fx_box_9 {sL : Nat} {sx : Nat → Int32} {cs : Nat → Nat → Option Int32} {H : am_H} {v0_13 : Int32} {x0 : Int32} (h0 : am_is H 0 (.inr (11, [.ref 1, .int 0, .ref 2, .int 0, .ref 3, .ref 93, .ref 97, .ref 115, .ref 116, .ref 129, .ref 123, .ref 127, .ref 128, .int v0_13, .null, .int 0]))) (h115 : am_is H 115 (.inl ((.object "TerminalHouse$Window"), (8, .inr (.inr (.inr (.inr am_q115))))))) (h141 : am_is H 141 (.inr (9, [.ref 142, .int 0, .int 0, .int 0, .int 0, .int 0, .int 0, .int 0, .int 0, .int 0]))) (h143 : am_is H 143 (.inr (9, [.ref 144, .int 0, .int 0, .int 0, .int 0, .int 0, .int 0, .int 0, .int 0, .int 0]))) (h145 : am_is H 145 (.inr (9, [.ref 146, .int 0, .int 0, .int 0, .int 0, .int 0, .int 0, .int 0, .int 0, .int 0]))) (h147 : am_is H 147 (.inr (9, [.ref 148, .int 0, .int 0, .int 0, .int 0, .int 0, .int 0, .int 0, .int 0, .int 0]))) (h149 : am_is H 149 (.inr (9, [.ref 150, .int 0, .int 0, .int 0, .int 0, .int 0, .int 0, .int 0, .int 0, .int 0]))) (h151 : am_is H 151 (.inr (9, [.ref 152, .int 0, .int 0, .int 0, .int 0, .int 0, .int 0, .int 0, .int 0, .int 0]))) (h153 : am_is H 153 (.inr (9, [.ref 154, .int 0, .int 0, .int 0, .int 0, .int 0, .int 0, .int 0, .int 0, .int 0]))) (h155 : am_is H 155 (.inr (9, [.ref 156, .int 0, .int 0, .int 0, .int 0, .int 0, .int 0, .int 0, .int 0, .int 0]))) (c1 : ¬ x0 < 0) (c2 : ¬ 8 ≤ x0) (c3 : x0 = 7)  :
    am_E sL sx cs 117 0 [(0, .ref 0), (1, .int x0)] [] H (some (.int 0)) (fun H1 => (True) ∧ ∀ j : Nat, H1[j]? = H[j]?) := by
  refine ex_s (am_nb (m := 2) (pc1 := 2) (ls1 := [(0, .ref 0), (1, .int x0)]) (st1 := [.int x0, .ref 0]) (H1 := H) (k1 := 0) (n1 := 0) (by with_unfolding_all rfl)) ?_
  refine ex_cv1 (as := [.int x0]) (rest := []) rfl rfl rfl rfl h0 rfl (by with_unfolding_all rfl) (by with_unfolding_all rfl) (fx_box_1_9 h0 h115 h141 h143 h145 h147 h149 h151 h153 h155 c1 c2 c3) ?_
  rintro H186 ⟨-, k186⟩
  refine ex_s (am_nb (m := 4) (pc1 := 11) (ls1 := [(2, .null), (0, .ref 0), (1, .int x0)]) (st1 := [.int 0]) (H1 := H186) (k1 := 0) (n1 := 0) (by with_unfolding_all rfl)) ?_
  exact ex_r (st_iret rfl rfl rfl) ⟨trivial, fun j => (k186 j)⟩

set_option maxRecDepth 100000 in
theorem fx_look_1_0 {sL : Nat} {sx : Nat → Int32} {cs : Nat → Nat → Option Int32} {H : am_H} {v0_13 : Int32} {x0 : Int32} (h0 : am_is H 0 (.inr (11, [.ref 1, .int 0, .ref 2, .int 0, .ref 3, .ref 93, .ref 97, .ref 115, .ref 116, .ref 129, .ref 123, .ref 127, .ref 128, .int v0_13, .null, .int 0]))) (h115 : am_is H 115 (.inl ((.object "TerminalHouse$Window"), (8, .inr (.inr (.inr (.inr am_q115))))))) (h141 : am_is H 141 (.inr (9, [.ref 142, .int 0, .int 0, .int 0, .int 0, .int 0, .int 0, .int 0, .int 0, .int 0]))) (h143 : am_is H 143 (.inr (9, [.ref 144, .int 0, .int 0, .int 0, .int 0, .int 0, .int 0, .int 0, .int 0, .int 0]))) (h145 : am_is H 145 (.inr (9, [.ref 146, .int 0, .int 0, .int 0, .int 0, .int 0, .int 0, .int 0, .int 0, .int 0]))) (h147 : am_is H 147 (.inr (9, [.ref 148, .int 0, .int 0, .int 0, .int 0, .int 0, .int 0, .int 0, .int 0, .int 0]))) (h149 : am_is H 149 (.inr (9, [.ref 150, .int 0, .int 0, .int 0, .int 0, .int 0, .int 0, .int 0, .int 0, .int 0]))) (h151 : am_is H 151 (.inr (9, [.ref 152, .int 0, .int 0, .int 0, .int 0, .int 0, .int 0, .int 0, .int 0, .int 0]))) (h153 : am_is H 153 (.inr (9, [.ref 154, .int 0, .int 0, .int 0, .int 0, .int 0, .int 0, .int 0, .int 0, .int 0]))) (h155 : am_is H 155 (.inr (9, [.ref 156, .int 0, .int 0, .int 0, .int 0, .int 0, .int 0, .int 0, .int 0, .int 0]))) (c1 : x0 < 0)  :
    am_E sL sx cs 98 0 [(0, .ref 0), (1, .int x0)] [] H (some (.null)) (fun H1 => (True) ∧ ∀ j : Nat, H1[j]? = H[j]?) := by
  refine ex_s (am_nb (m := 1) (pc1 := 1) (ls1 := [(0, .ref 0), (1, .int x0)]) (st1 := [.int x0]) (H1 := H) (k1 := 0) (n1 := 0) (by with_unfolding_all rfl)) ?_
  refine ex_s (st_if rfl) ?_
  refine ex_pc (if_pos c1) ?_
  refine ex_s (am_nb (m := 1) (pc1 := 23) (ls1 := [(0, .ref 0), (1, .int x0)]) (st1 := [.null]) (H1 := H) (k1 := 0) (n1 := 0) (by with_unfolding_all rfl)) ?_
  exact ex_r (st_aret rfl rfl rfl rfl) ⟨trivial, fun j => rfl⟩

set_option maxRecDepth 100000 in
theorem fx_look_1_1 {sL : Nat} {sx : Nat → Int32} {cs : Nat → Nat → Option Int32} {H : am_H} {v0_13 : Int32} {x0 : Int32} (h0 : am_is H 0 (.inr (11, [.ref 1, .int 0, .ref 2, .int 0, .ref 3, .ref 93, .ref 97, .ref 115, .ref 116, .ref 129, .ref 123, .ref 127, .ref 128, .int v0_13, .null, .int 0]))) (h115 : am_is H 115 (.inl ((.object "TerminalHouse$Window"), (8, .inr (.inr (.inr (.inr am_q115))))))) (h141 : am_is H 141 (.inr (9, [.ref 142, .int 0, .int 0, .int 0, .int 0, .int 0, .int 0, .int 0, .int 0, .int 0]))) (h143 : am_is H 143 (.inr (9, [.ref 144, .int 0, .int 0, .int 0, .int 0, .int 0, .int 0, .int 0, .int 0, .int 0]))) (h145 : am_is H 145 (.inr (9, [.ref 146, .int 0, .int 0, .int 0, .int 0, .int 0, .int 0, .int 0, .int 0, .int 0]))) (h147 : am_is H 147 (.inr (9, [.ref 148, .int 0, .int 0, .int 0, .int 0, .int 0, .int 0, .int 0, .int 0, .int 0]))) (h149 : am_is H 149 (.inr (9, [.ref 150, .int 0, .int 0, .int 0, .int 0, .int 0, .int 0, .int 0, .int 0, .int 0]))) (h151 : am_is H 151 (.inr (9, [.ref 152, .int 0, .int 0, .int 0, .int 0, .int 0, .int 0, .int 0, .int 0, .int 0]))) (h153 : am_is H 153 (.inr (9, [.ref 154, .int 0, .int 0, .int 0, .int 0, .int 0, .int 0, .int 0, .int 0, .int 0]))) (h155 : am_is H 155 (.inr (9, [.ref 156, .int 0, .int 0, .int 0, .int 0, .int 0, .int 0, .int 0, .int 0, .int 0]))) (c1 : ¬ x0 < 0) (c2 : 8 ≤ x0)  :
    am_E sL sx cs 98 0 [(0, .ref 0), (1, .int x0)] [] H (some (.null)) (fun H1 => (True) ∧ ∀ j : Nat, H1[j]? = H[j]?) := by
  refine ex_s (am_nb (m := 1) (pc1 := 1) (ls1 := [(0, .ref 0), (1, .int x0)]) (st1 := [.int x0]) (H1 := H) (k1 := 0) (n1 := 0) (by with_unfolding_all rfl)) ?_
  refine ex_s (st_if rfl) ?_
  refine ex_pc (if_neg c1) ?_
  refine ex_s (am_nb (m := 2) (pc1 := 7) (ls1 := [(0, .ref 0), (1, .int x0)]) (st1 := [.int 8, .int x0]) (H1 := H) (k1 := 0) (n1 := 0) (by with_unfolding_all rfl)) ?_
  refine ex_s (st_icmp rfl) ?_
  refine ex_pc (if_pos c2) ?_
  refine ex_s (am_nb (m := 1) (pc1 := 23) (ls1 := [(0, .ref 0), (1, .int x0)]) (st1 := [.null]) (H1 := H) (k1 := 0) (n1 := 0) (by with_unfolding_all rfl)) ?_
  exact ex_r (st_aret rfl rfl rfl rfl) ⟨trivial, fun j => rfl⟩

set_option maxRecDepth 100000 in
theorem fx_look_1_2 {sL : Nat} {sx : Nat → Int32} {cs : Nat → Nat → Option Int32} {H : am_H} {v0_13 : Int32} {x0 : Int32} (h0 : am_is H 0 (.inr (11, [.ref 1, .int 0, .ref 2, .int 0, .ref 3, .ref 93, .ref 97, .ref 115, .ref 116, .ref 129, .ref 123, .ref 127, .ref 128, .int v0_13, .null, .int 0]))) (h115 : am_is H 115 (.inl ((.object "TerminalHouse$Window"), (8, .inr (.inr (.inr (.inr am_q115))))))) (h141 : am_is H 141 (.inr (9, [.ref 142, .int 0, .int 0, .int 0, .int 0, .int 0, .int 0, .int 0, .int 0, .int 0]))) (h143 : am_is H 143 (.inr (9, [.ref 144, .int 0, .int 0, .int 0, .int 0, .int 0, .int 0, .int 0, .int 0, .int 0]))) (h145 : am_is H 145 (.inr (9, [.ref 146, .int 0, .int 0, .int 0, .int 0, .int 0, .int 0, .int 0, .int 0, .int 0]))) (h147 : am_is H 147 (.inr (9, [.ref 148, .int 0, .int 0, .int 0, .int 0, .int 0, .int 0, .int 0, .int 0, .int 0]))) (h149 : am_is H 149 (.inr (9, [.ref 150, .int 0, .int 0, .int 0, .int 0, .int 0, .int 0, .int 0, .int 0, .int 0]))) (h151 : am_is H 151 (.inr (9, [.ref 152, .int 0, .int 0, .int 0, .int 0, .int 0, .int 0, .int 0, .int 0, .int 0]))) (h153 : am_is H 153 (.inr (9, [.ref 154, .int 0, .int 0, .int 0, .int 0, .int 0, .int 0, .int 0, .int 0, .int 0]))) (h155 : am_is H 155 (.inr (9, [.ref 156, .int 0, .int 0, .int 0, .int 0, .int 0, .int 0, .int 0, .int 0, .int 0]))) (c1 : ¬ x0 < 0) (c2 : ¬ 8 ≤ x0) (c3 : x0 = 0)  :
    am_E sL sx cs 98 0 [(0, .ref 0), (1, .int x0)] [] H (some (.null)) (fun H1 => (True) ∧ ∀ j : Nat, H1[j]? = H[j]?) := by
  refine ex_s (am_nb (m := 1) (pc1 := 1) (ls1 := [(0, .ref 0), (1, .int x0)]) (st1 := [.int x0]) (H1 := H) (k1 := 0) (n1 := 0) (by with_unfolding_all rfl)) ?_
  refine ex_s (st_if rfl) ?_
  refine ex_pc (if_neg c1) ?_
  refine ex_s (am_nb (m := 2) (pc1 := 7) (ls1 := [(0, .ref 0), (1, .int x0)]) (st1 := [.int 8, .int x0]) (H1 := H) (k1 := 0) (n1 := 0) (by with_unfolding_all rfl)) ?_
  refine ex_s (st_icmp rfl) ?_
  refine ex_pc (if_neg c2) ?_
  refine ex_s (am_nb (m := 1) (pc1 := 11) (ls1 := [(0, .ref 0), (1, .int x0)]) (st1 := [.ref 0]) (H1 := H) (k1 := 0) (n1 := 0) (by with_unfolding_all rfl)) ?_
  refine ex_s (st_get rfl h0 rfl) ?_
  refine ex_s (am_nb (m := 1) (pc1 := 15) (ls1 := [(0, .ref 0), (1, .int x0)]) (st1 := [.int x0, .ref 115]) (H1 := H) (k1 := 0) (n1 := 0) (by with_unfolding_all rfl)) ?_
  refine ex_s (st_aald rfl h115 (by rw [c3]; decide) rfl) ?_
  refine ex_s (am_nb (m := 0) (pc1 := 16) (ls1 := [(0, .ref 0), (1, .int x0)]) (st1 := [.ref 141]) (H1 := H) (k1 := 0) (n1 := 0) (by rw [c3]; with_unfolding_all rfl)) ?_
  refine ex_s (st_get rfl h141 rfl) ?_
  refine ex_s (am_nb (m := 2) (pc1 := 23) (ls1 := [(0, .ref 0), (1, .int x0)]) (st1 := [.null]) (H1 := H) (k1 := 0) (n1 := 0) (by with_unfolding_all rfl)) ?_
  exact ex_r (st_aret rfl rfl rfl rfl) ⟨trivial, fun j => rfl⟩

set_option maxRecDepth 100000 in
theorem fx_look_1_3 {sL : Nat} {sx : Nat → Int32} {cs : Nat → Nat → Option Int32} {H : am_H} {v0_13 : Int32} {x0 : Int32} (h0 : am_is H 0 (.inr (11, [.ref 1, .int 0, .ref 2, .int 0, .ref 3, .ref 93, .ref 97, .ref 115, .ref 116, .ref 129, .ref 123, .ref 127, .ref 128, .int v0_13, .null, .int 0]))) (h115 : am_is H 115 (.inl ((.object "TerminalHouse$Window"), (8, .inr (.inr (.inr (.inr am_q115))))))) (h141 : am_is H 141 (.inr (9, [.ref 142, .int 0, .int 0, .int 0, .int 0, .int 0, .int 0, .int 0, .int 0, .int 0]))) (h143 : am_is H 143 (.inr (9, [.ref 144, .int 0, .int 0, .int 0, .int 0, .int 0, .int 0, .int 0, .int 0, .int 0]))) (h145 : am_is H 145 (.inr (9, [.ref 146, .int 0, .int 0, .int 0, .int 0, .int 0, .int 0, .int 0, .int 0, .int 0]))) (h147 : am_is H 147 (.inr (9, [.ref 148, .int 0, .int 0, .int 0, .int 0, .int 0, .int 0, .int 0, .int 0, .int 0]))) (h149 : am_is H 149 (.inr (9, [.ref 150, .int 0, .int 0, .int 0, .int 0, .int 0, .int 0, .int 0, .int 0, .int 0]))) (h151 : am_is H 151 (.inr (9, [.ref 152, .int 0, .int 0, .int 0, .int 0, .int 0, .int 0, .int 0, .int 0, .int 0]))) (h153 : am_is H 153 (.inr (9, [.ref 154, .int 0, .int 0, .int 0, .int 0, .int 0, .int 0, .int 0, .int 0, .int 0]))) (h155 : am_is H 155 (.inr (9, [.ref 156, .int 0, .int 0, .int 0, .int 0, .int 0, .int 0, .int 0, .int 0, .int 0]))) (c1 : ¬ x0 < 0) (c2 : ¬ 8 ≤ x0) (c3 : x0 = 1)  :
    am_E sL sx cs 98 0 [(0, .ref 0), (1, .int x0)] [] H (some (.null)) (fun H1 => (True) ∧ ∀ j : Nat, H1[j]? = H[j]?) := by
  refine ex_s (am_nb (m := 1) (pc1 := 1) (ls1 := [(0, .ref 0), (1, .int x0)]) (st1 := [.int x0]) (H1 := H) (k1 := 0) (n1 := 0) (by with_unfolding_all rfl)) ?_
  refine ex_s (st_if rfl) ?_
  refine ex_pc (if_neg c1) ?_
  refine ex_s (am_nb (m := 2) (pc1 := 7) (ls1 := [(0, .ref 0), (1, .int x0)]) (st1 := [.int 8, .int x0]) (H1 := H) (k1 := 0) (n1 := 0) (by with_unfolding_all rfl)) ?_
  refine ex_s (st_icmp rfl) ?_
  refine ex_pc (if_neg c2) ?_
  refine ex_s (am_nb (m := 1) (pc1 := 11) (ls1 := [(0, .ref 0), (1, .int x0)]) (st1 := [.ref 0]) (H1 := H) (k1 := 0) (n1 := 0) (by with_unfolding_all rfl)) ?_
  refine ex_s (st_get rfl h0 rfl) ?_
  refine ex_s (am_nb (m := 1) (pc1 := 15) (ls1 := [(0, .ref 0), (1, .int x0)]) (st1 := [.int x0, .ref 115]) (H1 := H) (k1 := 0) (n1 := 0) (by with_unfolding_all rfl)) ?_
  refine ex_s (st_aald rfl h115 (by rw [c3]; decide) rfl) ?_
  refine ex_s (am_nb (m := 0) (pc1 := 16) (ls1 := [(0, .ref 0), (1, .int x0)]) (st1 := [.ref 143]) (H1 := H) (k1 := 0) (n1 := 0) (by rw [c3]; with_unfolding_all rfl)) ?_
  refine ex_s (st_get rfl h143 rfl) ?_
  refine ex_s (am_nb (m := 2) (pc1 := 23) (ls1 := [(0, .ref 0), (1, .int x0)]) (st1 := [.null]) (H1 := H) (k1 := 0) (n1 := 0) (by with_unfolding_all rfl)) ?_
  exact ex_r (st_aret rfl rfl rfl rfl) ⟨trivial, fun j => rfl⟩

set_option maxRecDepth 100000 in
theorem fx_look_1_4 {sL : Nat} {sx : Nat → Int32} {cs : Nat → Nat → Option Int32} {H : am_H} {v0_13 : Int32} {x0 : Int32} (h0 : am_is H 0 (.inr (11, [.ref 1, .int 0, .ref 2, .int 0, .ref 3, .ref 93, .ref 97, .ref 115, .ref 116, .ref 129, .ref 123, .ref 127, .ref 128, .int v0_13, .null, .int 0]))) (h115 : am_is H 115 (.inl ((.object "TerminalHouse$Window"), (8, .inr (.inr (.inr (.inr am_q115))))))) (h141 : am_is H 141 (.inr (9, [.ref 142, .int 0, .int 0, .int 0, .int 0, .int 0, .int 0, .int 0, .int 0, .int 0]))) (h143 : am_is H 143 (.inr (9, [.ref 144, .int 0, .int 0, .int 0, .int 0, .int 0, .int 0, .int 0, .int 0, .int 0]))) (h145 : am_is H 145 (.inr (9, [.ref 146, .int 0, .int 0, .int 0, .int 0, .int 0, .int 0, .int 0, .int 0, .int 0]))) (h147 : am_is H 147 (.inr (9, [.ref 148, .int 0, .int 0, .int 0, .int 0, .int 0, .int 0, .int 0, .int 0, .int 0]))) (h149 : am_is H 149 (.inr (9, [.ref 150, .int 0, .int 0, .int 0, .int 0, .int 0, .int 0, .int 0, .int 0, .int 0]))) (h151 : am_is H 151 (.inr (9, [.ref 152, .int 0, .int 0, .int 0, .int 0, .int 0, .int 0, .int 0, .int 0, .int 0]))) (h153 : am_is H 153 (.inr (9, [.ref 154, .int 0, .int 0, .int 0, .int 0, .int 0, .int 0, .int 0, .int 0, .int 0]))) (h155 : am_is H 155 (.inr (9, [.ref 156, .int 0, .int 0, .int 0, .int 0, .int 0, .int 0, .int 0, .int 0, .int 0]))) (c1 : ¬ x0 < 0) (c2 : ¬ 8 ≤ x0) (c3 : x0 = 2)  :
    am_E sL sx cs 98 0 [(0, .ref 0), (1, .int x0)] [] H (some (.null)) (fun H1 => (True) ∧ ∀ j : Nat, H1[j]? = H[j]?) := by
  refine ex_s (am_nb (m := 1) (pc1 := 1) (ls1 := [(0, .ref 0), (1, .int x0)]) (st1 := [.int x0]) (H1 := H) (k1 := 0) (n1 := 0) (by with_unfolding_all rfl)) ?_
  refine ex_s (st_if rfl) ?_
  refine ex_pc (if_neg c1) ?_
  refine ex_s (am_nb (m := 2) (pc1 := 7) (ls1 := [(0, .ref 0), (1, .int x0)]) (st1 := [.int 8, .int x0]) (H1 := H) (k1 := 0) (n1 := 0) (by with_unfolding_all rfl)) ?_
  refine ex_s (st_icmp rfl) ?_
  refine ex_pc (if_neg c2) ?_
  refine ex_s (am_nb (m := 1) (pc1 := 11) (ls1 := [(0, .ref 0), (1, .int x0)]) (st1 := [.ref 0]) (H1 := H) (k1 := 0) (n1 := 0) (by with_unfolding_all rfl)) ?_
  refine ex_s (st_get rfl h0 rfl) ?_
  refine ex_s (am_nb (m := 1) (pc1 := 15) (ls1 := [(0, .ref 0), (1, .int x0)]) (st1 := [.int x0, .ref 115]) (H1 := H) (k1 := 0) (n1 := 0) (by with_unfolding_all rfl)) ?_
  refine ex_s (st_aald rfl h115 (by rw [c3]; decide) rfl) ?_
  refine ex_s (am_nb (m := 0) (pc1 := 16) (ls1 := [(0, .ref 0), (1, .int x0)]) (st1 := [.ref 145]) (H1 := H) (k1 := 0) (n1 := 0) (by rw [c3]; with_unfolding_all rfl)) ?_
  refine ex_s (st_get rfl h145 rfl) ?_
  refine ex_s (am_nb (m := 2) (pc1 := 23) (ls1 := [(0, .ref 0), (1, .int x0)]) (st1 := [.null]) (H1 := H) (k1 := 0) (n1 := 0) (by with_unfolding_all rfl)) ?_
  exact ex_r (st_aret rfl rfl rfl rfl) ⟨trivial, fun j => rfl⟩

set_option maxRecDepth 100000 in
theorem fx_look_1_5 {sL : Nat} {sx : Nat → Int32} {cs : Nat → Nat → Option Int32} {H : am_H} {v0_13 : Int32} {x0 : Int32} (h0 : am_is H 0 (.inr (11, [.ref 1, .int 0, .ref 2, .int 0, .ref 3, .ref 93, .ref 97, .ref 115, .ref 116, .ref 129, .ref 123, .ref 127, .ref 128, .int v0_13, .null, .int 0]))) (h115 : am_is H 115 (.inl ((.object "TerminalHouse$Window"), (8, .inr (.inr (.inr (.inr am_q115))))))) (h141 : am_is H 141 (.inr (9, [.ref 142, .int 0, .int 0, .int 0, .int 0, .int 0, .int 0, .int 0, .int 0, .int 0]))) (h143 : am_is H 143 (.inr (9, [.ref 144, .int 0, .int 0, .int 0, .int 0, .int 0, .int 0, .int 0, .int 0, .int 0]))) (h145 : am_is H 145 (.inr (9, [.ref 146, .int 0, .int 0, .int 0, .int 0, .int 0, .int 0, .int 0, .int 0, .int 0]))) (h147 : am_is H 147 (.inr (9, [.ref 148, .int 0, .int 0, .int 0, .int 0, .int 0, .int 0, .int 0, .int 0, .int 0]))) (h149 : am_is H 149 (.inr (9, [.ref 150, .int 0, .int 0, .int 0, .int 0, .int 0, .int 0, .int 0, .int 0, .int 0]))) (h151 : am_is H 151 (.inr (9, [.ref 152, .int 0, .int 0, .int 0, .int 0, .int 0, .int 0, .int 0, .int 0, .int 0]))) (h153 : am_is H 153 (.inr (9, [.ref 154, .int 0, .int 0, .int 0, .int 0, .int 0, .int 0, .int 0, .int 0, .int 0]))) (h155 : am_is H 155 (.inr (9, [.ref 156, .int 0, .int 0, .int 0, .int 0, .int 0, .int 0, .int 0, .int 0, .int 0]))) (c1 : ¬ x0 < 0) (c2 : ¬ 8 ≤ x0) (c3 : x0 = 3)  :
    am_E sL sx cs 98 0 [(0, .ref 0), (1, .int x0)] [] H (some (.null)) (fun H1 => (True) ∧ ∀ j : Nat, H1[j]? = H[j]?) := by
  refine ex_s (am_nb (m := 1) (pc1 := 1) (ls1 := [(0, .ref 0), (1, .int x0)]) (st1 := [.int x0]) (H1 := H) (k1 := 0) (n1 := 0) (by with_unfolding_all rfl)) ?_
  refine ex_s (st_if rfl) ?_
  refine ex_pc (if_neg c1) ?_
  refine ex_s (am_nb (m := 2) (pc1 := 7) (ls1 := [(0, .ref 0), (1, .int x0)]) (st1 := [.int 8, .int x0]) (H1 := H) (k1 := 0) (n1 := 0) (by with_unfolding_all rfl)) ?_
  refine ex_s (st_icmp rfl) ?_
  refine ex_pc (if_neg c2) ?_
  refine ex_s (am_nb (m := 1) (pc1 := 11) (ls1 := [(0, .ref 0), (1, .int x0)]) (st1 := [.ref 0]) (H1 := H) (k1 := 0) (n1 := 0) (by with_unfolding_all rfl)) ?_
  refine ex_s (st_get rfl h0 rfl) ?_
  refine ex_s (am_nb (m := 1) (pc1 := 15) (ls1 := [(0, .ref 0), (1, .int x0)]) (st1 := [.int x0, .ref 115]) (H1 := H) (k1 := 0) (n1 := 0) (by with_unfolding_all rfl)) ?_
  refine ex_s (st_aald rfl h115 (by rw [c3]; decide) rfl) ?_
  refine ex_s (am_nb (m := 0) (pc1 := 16) (ls1 := [(0, .ref 0), (1, .int x0)]) (st1 := [.ref 147]) (H1 := H) (k1 := 0) (n1 := 0) (by rw [c3]; with_unfolding_all rfl)) ?_
  refine ex_s (st_get rfl h147 rfl) ?_
  refine ex_s (am_nb (m := 2) (pc1 := 23) (ls1 := [(0, .ref 0), (1, .int x0)]) (st1 := [.null]) (H1 := H) (k1 := 0) (n1 := 0) (by with_unfolding_all rfl)) ?_
  exact ex_r (st_aret rfl rfl rfl rfl) ⟨trivial, fun j => rfl⟩

set_option maxRecDepth 100000 in
theorem fx_look_1_6 {sL : Nat} {sx : Nat → Int32} {cs : Nat → Nat → Option Int32} {H : am_H} {v0_13 : Int32} {x0 : Int32} (h0 : am_is H 0 (.inr (11, [.ref 1, .int 0, .ref 2, .int 0, .ref 3, .ref 93, .ref 97, .ref 115, .ref 116, .ref 129, .ref 123, .ref 127, .ref 128, .int v0_13, .null, .int 0]))) (h115 : am_is H 115 (.inl ((.object "TerminalHouse$Window"), (8, .inr (.inr (.inr (.inr am_q115))))))) (h141 : am_is H 141 (.inr (9, [.ref 142, .int 0, .int 0, .int 0, .int 0, .int 0, .int 0, .int 0, .int 0, .int 0]))) (h143 : am_is H 143 (.inr (9, [.ref 144, .int 0, .int 0, .int 0, .int 0, .int 0, .int 0, .int 0, .int 0, .int 0]))) (h145 : am_is H 145 (.inr (9, [.ref 146, .int 0, .int 0, .int 0, .int 0, .int 0, .int 0, .int 0, .int 0, .int 0]))) (h147 : am_is H 147 (.inr (9, [.ref 148, .int 0, .int 0, .int 0, .int 0, .int 0, .int 0, .int 0, .int 0, .int 0]))) (h149 : am_is H 149 (.inr (9, [.ref 150, .int 0, .int 0, .int 0, .int 0, .int 0, .int 0, .int 0, .int 0, .int 0]))) (h151 : am_is H 151 (.inr (9, [.ref 152, .int 0, .int 0, .int 0, .int 0, .int 0, .int 0, .int 0, .int 0, .int 0]))) (h153 : am_is H 153 (.inr (9, [.ref 154, .int 0, .int 0, .int 0, .int 0, .int 0, .int 0, .int 0, .int 0, .int 0]))) (h155 : am_is H 155 (.inr (9, [.ref 156, .int 0, .int 0, .int 0, .int 0, .int 0, .int 0, .int 0, .int 0, .int 0]))) (c1 : ¬ x0 < 0) (c2 : ¬ 8 ≤ x0) (c3 : x0 = 4)  :
    am_E sL sx cs 98 0 [(0, .ref 0), (1, .int x0)] [] H (some (.null)) (fun H1 => (True) ∧ ∀ j : Nat, H1[j]? = H[j]?) := by
  refine ex_s (am_nb (m := 1) (pc1 := 1) (ls1 := [(0, .ref 0), (1, .int x0)]) (st1 := [.int x0]) (H1 := H) (k1 := 0) (n1 := 0) (by with_unfolding_all rfl)) ?_
  refine ex_s (st_if rfl) ?_
  refine ex_pc (if_neg c1) ?_
  refine ex_s (am_nb (m := 2) (pc1 := 7) (ls1 := [(0, .ref 0), (1, .int x0)]) (st1 := [.int 8, .int x0]) (H1 := H) (k1 := 0) (n1 := 0) (by with_unfolding_all rfl)) ?_
  refine ex_s (st_icmp rfl) ?_
  refine ex_pc (if_neg c2) ?_
  refine ex_s (am_nb (m := 1) (pc1 := 11) (ls1 := [(0, .ref 0), (1, .int x0)]) (st1 := [.ref 0]) (H1 := H) (k1 := 0) (n1 := 0) (by with_unfolding_all rfl)) ?_
  refine ex_s (st_get rfl h0 rfl) ?_
  refine ex_s (am_nb (m := 1) (pc1 := 15) (ls1 := [(0, .ref 0), (1, .int x0)]) (st1 := [.int x0, .ref 115]) (H1 := H) (k1 := 0) (n1 := 0) (by with_unfolding_all rfl)) ?_
  refine ex_s (st_aald rfl h115 (by rw [c3]; decide) rfl) ?_
  refine ex_s (am_nb (m := 0) (pc1 := 16) (ls1 := [(0, .ref 0), (1, .int x0)]) (st1 := [.ref 149]) (H1 := H) (k1 := 0) (n1 := 0) (by rw [c3]; with_unfolding_all rfl)) ?_
  refine ex_s (st_get rfl h149 rfl) ?_
  refine ex_s (am_nb (m := 2) (pc1 := 23) (ls1 := [(0, .ref 0), (1, .int x0)]) (st1 := [.null]) (H1 := H) (k1 := 0) (n1 := 0) (by with_unfolding_all rfl)) ?_
  exact ex_r (st_aret rfl rfl rfl rfl) ⟨trivial, fun j => rfl⟩

set_option maxRecDepth 100000 in
theorem fx_look_1_7 {sL : Nat} {sx : Nat → Int32} {cs : Nat → Nat → Option Int32} {H : am_H} {v0_13 : Int32} {x0 : Int32} (h0 : am_is H 0 (.inr (11, [.ref 1, .int 0, .ref 2, .int 0, .ref 3, .ref 93, .ref 97, .ref 115, .ref 116, .ref 129, .ref 123, .ref 127, .ref 128, .int v0_13, .null, .int 0]))) (h115 : am_is H 115 (.inl ((.object "TerminalHouse$Window"), (8, .inr (.inr (.inr (.inr am_q115))))))) (h141 : am_is H 141 (.inr (9, [.ref 142, .int 0, .int 0, .int 0, .int 0, .int 0, .int 0, .int 0, .int 0, .int 0]))) (h143 : am_is H 143 (.inr (9, [.ref 144, .int 0, .int 0, .int 0, .int 0, .int 0, .int 0, .int 0, .int 0, .int 0]))) (h145 : am_is H 145 (.inr (9, [.ref 146, .int 0, .int 0, .int 0, .int 0, .int 0, .int 0, .int 0, .int 0, .int 0]))) (h147 : am_is H 147 (.inr (9, [.ref 148, .int 0, .int 0, .int 0, .int 0, .int 0, .int 0, .int 0, .int 0, .int 0]))) (h149 : am_is H 149 (.inr (9, [.ref 150, .int 0, .int 0, .int 0, .int 0, .int 0, .int 0, .int 0, .int 0, .int 0]))) (h151 : am_is H 151 (.inr (9, [.ref 152, .int 0, .int 0, .int 0, .int 0, .int 0, .int 0, .int 0, .int 0, .int 0]))) (h153 : am_is H 153 (.inr (9, [.ref 154, .int 0, .int 0, .int 0, .int 0, .int 0, .int 0, .int 0, .int 0, .int 0]))) (h155 : am_is H 155 (.inr (9, [.ref 156, .int 0, .int 0, .int 0, .int 0, .int 0, .int 0, .int 0, .int 0, .int 0]))) (c1 : ¬ x0 < 0) (c2 : ¬ 8 ≤ x0) (c3 : x0 = 5)  :
    am_E sL sx cs 98 0 [(0, .ref 0), (1, .int x0)] [] H (some (.null)) (fun H1 => (True) ∧ ∀ j : Nat, H1[j]? = H[j]?) := by
  refine ex_s (am_nb (m := 1) (pc1 := 1) (ls1 := [(0, .ref 0), (1, .int x0)]) (st1 := [.int x0]) (H1 := H) (k1 := 0) (n1 := 0) (by with_unfolding_all rfl)) ?_
  refine ex_s (st_if rfl) ?_
  refine ex_pc (if_neg c1) ?_
  refine ex_s (am_nb (m := 2) (pc1 := 7) (ls1 := [(0, .ref 0), (1, .int x0)]) (st1 := [.int 8, .int x0]) (H1 := H) (k1 := 0) (n1 := 0) (by with_unfolding_all rfl)) ?_
  refine ex_s (st_icmp rfl) ?_
  refine ex_pc (if_neg c2) ?_
  refine ex_s (am_nb (m := 1) (pc1 := 11) (ls1 := [(0, .ref 0), (1, .int x0)]) (st1 := [.ref 0]) (H1 := H) (k1 := 0) (n1 := 0) (by with_unfolding_all rfl)) ?_
  refine ex_s (st_get rfl h0 rfl) ?_
  refine ex_s (am_nb (m := 1) (pc1 := 15) (ls1 := [(0, .ref 0), (1, .int x0)]) (st1 := [.int x0, .ref 115]) (H1 := H) (k1 := 0) (n1 := 0) (by with_unfolding_all rfl)) ?_
  refine ex_s (st_aald rfl h115 (by rw [c3]; decide) rfl) ?_
  refine ex_s (am_nb (m := 0) (pc1 := 16) (ls1 := [(0, .ref 0), (1, .int x0)]) (st1 := [.ref 151]) (H1 := H) (k1 := 0) (n1 := 0) (by rw [c3]; with_unfolding_all rfl)) ?_
  refine ex_s (st_get rfl h151 rfl) ?_
  refine ex_s (am_nb (m := 2) (pc1 := 23) (ls1 := [(0, .ref 0), (1, .int x0)]) (st1 := [.null]) (H1 := H) (k1 := 0) (n1 := 0) (by with_unfolding_all rfl)) ?_
  exact ex_r (st_aret rfl rfl rfl rfl) ⟨trivial, fun j => rfl⟩

set_option maxRecDepth 100000 in
theorem fx_look_1_8 {sL : Nat} {sx : Nat → Int32} {cs : Nat → Nat → Option Int32} {H : am_H} {v0_13 : Int32} {x0 : Int32} (h0 : am_is H 0 (.inr (11, [.ref 1, .int 0, .ref 2, .int 0, .ref 3, .ref 93, .ref 97, .ref 115, .ref 116, .ref 129, .ref 123, .ref 127, .ref 128, .int v0_13, .null, .int 0]))) (h115 : am_is H 115 (.inl ((.object "TerminalHouse$Window"), (8, .inr (.inr (.inr (.inr am_q115))))))) (h141 : am_is H 141 (.inr (9, [.ref 142, .int 0, .int 0, .int 0, .int 0, .int 0, .int 0, .int 0, .int 0, .int 0]))) (h143 : am_is H 143 (.inr (9, [.ref 144, .int 0, .int 0, .int 0, .int 0, .int 0, .int 0, .int 0, .int 0, .int 0]))) (h145 : am_is H 145 (.inr (9, [.ref 146, .int 0, .int 0, .int 0, .int 0, .int 0, .int 0, .int 0, .int 0, .int 0]))) (h147 : am_is H 147 (.inr (9, [.ref 148, .int 0, .int 0, .int 0, .int 0, .int 0, .int 0, .int 0, .int 0, .int 0]))) (h149 : am_is H 149 (.inr (9, [.ref 150, .int 0, .int 0, .int 0, .int 0, .int 0, .int 0, .int 0, .int 0, .int 0]))) (h151 : am_is H 151 (.inr (9, [.ref 152, .int 0, .int 0, .int 0, .int 0, .int 0, .int 0, .int 0, .int 0, .int 0]))) (h153 : am_is H 153 (.inr (9, [.ref 154, .int 0, .int 0, .int 0, .int 0, .int 0, .int 0, .int 0, .int 0, .int 0]))) (h155 : am_is H 155 (.inr (9, [.ref 156, .int 0, .int 0, .int 0, .int 0, .int 0, .int 0, .int 0, .int 0, .int 0]))) (c1 : ¬ x0 < 0) (c2 : ¬ 8 ≤ x0) (c3 : x0 = 6)  :
    am_E sL sx cs 98 0 [(0, .ref 0), (1, .int x0)] [] H (some (.null)) (fun H1 => (True) ∧ ∀ j : Nat, H1[j]? = H[j]?) := by
  refine ex_s (am_nb (m := 1) (pc1 := 1) (ls1 := [(0, .ref 0), (1, .int x0)]) (st1 := [.int x0]) (H1 := H) (k1 := 0) (n1 := 0) (by with_unfolding_all rfl)) ?_
  refine ex_s (st_if rfl) ?_
  refine ex_pc (if_neg c1) ?_
  refine ex_s (am_nb (m := 2) (pc1 := 7) (ls1 := [(0, .ref 0), (1, .int x0)]) (st1 := [.int 8, .int x0]) (H1 := H) (k1 := 0) (n1 := 0) (by with_unfolding_all rfl)) ?_
  refine ex_s (st_icmp rfl) ?_
  refine ex_pc (if_neg c2) ?_
  refine ex_s (am_nb (m := 1) (pc1 := 11) (ls1 := [(0, .ref 0), (1, .int x0)]) (st1 := [.ref 0]) (H1 := H) (k1 := 0) (n1 := 0) (by with_unfolding_all rfl)) ?_
  refine ex_s (st_get rfl h0 rfl) ?_
  refine ex_s (am_nb (m := 1) (pc1 := 15) (ls1 := [(0, .ref 0), (1, .int x0)]) (st1 := [.int x0, .ref 115]) (H1 := H) (k1 := 0) (n1 := 0) (by with_unfolding_all rfl)) ?_
  refine ex_s (st_aald rfl h115 (by rw [c3]; decide) rfl) ?_
  refine ex_s (am_nb (m := 0) (pc1 := 16) (ls1 := [(0, .ref 0), (1, .int x0)]) (st1 := [.ref 153]) (H1 := H) (k1 := 0) (n1 := 0) (by rw [c3]; with_unfolding_all rfl)) ?_
  refine ex_s (st_get rfl h153 rfl) ?_
  refine ex_s (am_nb (m := 2) (pc1 := 23) (ls1 := [(0, .ref 0), (1, .int x0)]) (st1 := [.null]) (H1 := H) (k1 := 0) (n1 := 0) (by with_unfolding_all rfl)) ?_
  exact ex_r (st_aret rfl rfl rfl rfl) ⟨trivial, fun j => rfl⟩

set_option maxRecDepth 100000 in
theorem fx_look_1_9 {sL : Nat} {sx : Nat → Int32} {cs : Nat → Nat → Option Int32} {H : am_H} {v0_13 : Int32} {x0 : Int32} (h0 : am_is H 0 (.inr (11, [.ref 1, .int 0, .ref 2, .int 0, .ref 3, .ref 93, .ref 97, .ref 115, .ref 116, .ref 129, .ref 123, .ref 127, .ref 128, .int v0_13, .null, .int 0]))) (h115 : am_is H 115 (.inl ((.object "TerminalHouse$Window"), (8, .inr (.inr (.inr (.inr am_q115))))))) (h141 : am_is H 141 (.inr (9, [.ref 142, .int 0, .int 0, .int 0, .int 0, .int 0, .int 0, .int 0, .int 0, .int 0]))) (h143 : am_is H 143 (.inr (9, [.ref 144, .int 0, .int 0, .int 0, .int 0, .int 0, .int 0, .int 0, .int 0, .int 0]))) (h145 : am_is H 145 (.inr (9, [.ref 146, .int 0, .int 0, .int 0, .int 0, .int 0, .int 0, .int 0, .int 0, .int 0]))) (h147 : am_is H 147 (.inr (9, [.ref 148, .int 0, .int 0, .int 0, .int 0, .int 0, .int 0, .int 0, .int 0, .int 0]))) (h149 : am_is H 149 (.inr (9, [.ref 150, .int 0, .int 0, .int 0, .int 0, .int 0, .int 0, .int 0, .int 0, .int 0]))) (h151 : am_is H 151 (.inr (9, [.ref 152, .int 0, .int 0, .int 0, .int 0, .int 0, .int 0, .int 0, .int 0, .int 0]))) (h153 : am_is H 153 (.inr (9, [.ref 154, .int 0, .int 0, .int 0, .int 0, .int 0, .int 0, .int 0, .int 0, .int 0]))) (h155 : am_is H 155 (.inr (9, [.ref 156, .int 0, .int 0, .int 0, .int 0, .int 0, .int 0, .int 0, .int 0, .int 0]))) (c1 : ¬ x0 < 0) (c2 : ¬ 8 ≤ x0) (c3 : x0 = 7)  :
    am_E sL sx cs 98 0 [(0, .ref 0), (1, .int x0)] [] H (some (.null)) (fun H1 => (True) ∧ ∀ j : Nat, H1[j]? = H[j]?) := by
  refine ex_s (am_nb (m := 1) (pc1 := 1) (ls1 := [(0, .ref 0), (1, .int x0)]) (st1 := [.int x0]) (H1 := H) (k1 := 0) (n1 := 0) (by with_unfolding_all rfl)) ?_
  refine ex_s (st_if rfl) ?_
  refine ex_pc (if_neg c1) ?_
  refine ex_s (am_nb (m := 2) (pc1 := 7) (ls1 := [(0, .ref 0), (1, .int x0)]) (st1 := [.int 8, .int x0]) (H1 := H) (k1 := 0) (n1 := 0) (by with_unfolding_all rfl)) ?_
  refine ex_s (st_icmp rfl) ?_
  refine ex_pc (if_neg c2) ?_
  refine ex_s (am_nb (m := 1) (pc1 := 11) (ls1 := [(0, .ref 0), (1, .int x0)]) (st1 := [.ref 0]) (H1 := H) (k1 := 0) (n1 := 0) (by with_unfolding_all rfl)) ?_
  refine ex_s (st_get rfl h0 rfl) ?_
  refine ex_s (am_nb (m := 1) (pc1 := 15) (ls1 := [(0, .ref 0), (1, .int x0)]) (st1 := [.int x0, .ref 115]) (H1 := H) (k1 := 0) (n1 := 0) (by with_unfolding_all rfl)) ?_
  refine ex_s (st_aald rfl h115 (by rw [c3]; decide) rfl) ?_
  refine ex_s (am_nb (m := 0) (pc1 := 16) (ls1 := [(0, .ref 0), (1, .int x0)]) (st1 := [.ref 155]) (H1 := H) (k1 := 0) (n1 := 0) (by rw [c3]; with_unfolding_all rfl)) ?_
  refine ex_s (st_get rfl h155 rfl) ?_
  refine ex_s (am_nb (m := 2) (pc1 := 23) (ls1 := [(0, .ref 0), (1, .int x0)]) (st1 := [.null]) (H1 := H) (k1 := 0) (n1 := 0) (by with_unfolding_all rfl)) ?_
  exact ex_r (st_aret rfl rfl rfl rfl) ⟨trivial, fun j => rfl⟩

set_option maxRecDepth 100000 in
theorem fx_look_0 {sL : Nat} {sx : Nat → Int32} {cs : Nat → Nat → Option Int32} {H : am_H} {v0_13 : Int32} {x0 : Int32} {x1 : Int32} {x2 : Int32} (h0 : am_is H 0 (.inr (11, [.ref 1, .int 0, .ref 2, .int 0, .ref 3, .ref 93, .ref 97, .ref 115, .ref 116, .ref 129, .ref 123, .ref 127, .ref 128, .int v0_13, .null, .int 0]))) (h115 : am_is H 115 (.inl ((.object "TerminalHouse$Window"), (8, .inr (.inr (.inr (.inr am_q115))))))) (h141 : am_is H 141 (.inr (9, [.ref 142, .int 0, .int 0, .int 0, .int 0, .int 0, .int 0, .int 0, .int 0, .int 0]))) (h143 : am_is H 143 (.inr (9, [.ref 144, .int 0, .int 0, .int 0, .int 0, .int 0, .int 0, .int 0, .int 0, .int 0]))) (h145 : am_is H 145 (.inr (9, [.ref 146, .int 0, .int 0, .int 0, .int 0, .int 0, .int 0, .int 0, .int 0, .int 0]))) (h147 : am_is H 147 (.inr (9, [.ref 148, .int 0, .int 0, .int 0, .int 0, .int 0, .int 0, .int 0, .int 0, .int 0]))) (h149 : am_is H 149 (.inr (9, [.ref 150, .int 0, .int 0, .int 0, .int 0, .int 0, .int 0, .int 0, .int 0, .int 0]))) (h151 : am_is H 151 (.inr (9, [.ref 152, .int 0, .int 0, .int 0, .int 0, .int 0, .int 0, .int 0, .int 0, .int 0]))) (h153 : am_is H 153 (.inr (9, [.ref 154, .int 0, .int 0, .int 0, .int 0, .int 0, .int 0, .int 0, .int 0, .int 0]))) (h155 : am_is H 155 (.inr (9, [.ref 156, .int 0, .int 0, .int 0, .int 0, .int 0, .int 0, .int 0, .int 0, .int 0]))) (c1 : x0 < 0)  :
    am_E sL sx cs 119 0 [(0, .ref 0), (1, .int x0), (2, .int x1), (3, .int x2)] [] H (some (.int (-1))) (fun H1 => (True) ∧ ∀ j : Nat, H1[j]? = H[j]?) := by
  refine ex_s (am_nb (m := 2) (pc1 := 2) (ls1 := [(0, .ref 0), (1, .int x0), (2, .int x1), (3, .int x2)]) (st1 := [.int x0, .ref 0]) (H1 := H) (k1 := 0) (n1 := 0) (by with_unfolding_all rfl)) ?_
  refine ex_cv1 (as := [.int x0]) (rest := []) rfl rfl rfl rfl h0 rfl (by with_unfolding_all rfl) (by with_unfolding_all rfl) (fx_look_1_0 h0 h115 h141 h143 h145 h147 h149 h151 h153 h155 c1) ?_
  rintro H187 ⟨-, k187⟩
  refine ex_s (am_nb (m := 5) (pc1 := 23) (ls1 := [(4, .null), (0, .ref 0), (1, .int x0), (2, .int x1), (3, .int x2)]) (st1 := [.int (-1)]) (H1 := H187) (k1 := 0) (n1 := 0) (by with_unfolding_all rfl)) ?_
  exact ex_r (st_iret rfl rfl rfl) ⟨trivial, fun j => (k187 j)⟩

set_option maxRecDepth 100000 in
theorem fx_look_1 {sL : Nat} {sx : Nat → Int32} {cs : Nat → Nat → Option Int32} {H : am_H} {v0_13 : Int32} {x0 : Int32} {x1 : Int32} {x2 : Int32} (h0 : am_is H 0 (.inr (11, [.ref 1, .int 0, .ref 2, .int 0, .ref 3, .ref 93, .ref 97, .ref 115, .ref 116, .ref 129, .ref 123, .ref 127, .ref 128, .int v0_13, .null, .int 0]))) (h115 : am_is H 115 (.inl ((.object "TerminalHouse$Window"), (8, .inr (.inr (.inr (.inr am_q115))))))) (h141 : am_is H 141 (.inr (9, [.ref 142, .int 0, .int 0, .int 0, .int 0, .int 0, .int 0, .int 0, .int 0, .int 0]))) (h143 : am_is H 143 (.inr (9, [.ref 144, .int 0, .int 0, .int 0, .int 0, .int 0, .int 0, .int 0, .int 0, .int 0]))) (h145 : am_is H 145 (.inr (9, [.ref 146, .int 0, .int 0, .int 0, .int 0, .int 0, .int 0, .int 0, .int 0, .int 0]))) (h147 : am_is H 147 (.inr (9, [.ref 148, .int 0, .int 0, .int 0, .int 0, .int 0, .int 0, .int 0, .int 0, .int 0]))) (h149 : am_is H 149 (.inr (9, [.ref 150, .int 0, .int 0, .int 0, .int 0, .int 0, .int 0, .int 0, .int 0, .int 0]))) (h151 : am_is H 151 (.inr (9, [.ref 152, .int 0, .int 0, .int 0, .int 0, .int 0, .int 0, .int 0, .int 0, .int 0]))) (h153 : am_is H 153 (.inr (9, [.ref 154, .int 0, .int 0, .int 0, .int 0, .int 0, .int 0, .int 0, .int 0, .int 0]))) (h155 : am_is H 155 (.inr (9, [.ref 156, .int 0, .int 0, .int 0, .int 0, .int 0, .int 0, .int 0, .int 0, .int 0]))) (c1 : ¬ x0 < 0) (c2 : 8 ≤ x0)  :
    am_E sL sx cs 119 0 [(0, .ref 0), (1, .int x0), (2, .int x1), (3, .int x2)] [] H (some (.int (-1))) (fun H1 => (True) ∧ ∀ j : Nat, H1[j]? = H[j]?) := by
  refine ex_s (am_nb (m := 2) (pc1 := 2) (ls1 := [(0, .ref 0), (1, .int x0), (2, .int x1), (3, .int x2)]) (st1 := [.int x0, .ref 0]) (H1 := H) (k1 := 0) (n1 := 0) (by with_unfolding_all rfl)) ?_
  refine ex_cv1 (as := [.int x0]) (rest := []) rfl rfl rfl rfl h0 rfl (by with_unfolding_all rfl) (by with_unfolding_all rfl) (fx_look_1_1 h0 h115 h141 h143 h145 h147 h149 h151 h153 h155 c1 c2) ?_
  rintro H188 ⟨-, k188⟩
  refine ex_s (am_nb (m := 5) (pc1 := 23) (ls1 := [(4, .null), (0, .ref 0), (1, .int x0), (2, .int x1), (3, .int x2)]) (st1 := [.int (-1)]) (H1 := H188) (k1 := 0) (n1 := 0) (by with_unfolding_all rfl)) ?_
  exact ex_r (st_iret rfl rfl rfl) ⟨trivial, fun j => (k188 j)⟩

set_option maxRecDepth 100000 in
theorem fx_look_2 {sL : Nat} {sx : Nat → Int32} {cs : Nat → Nat → Option Int32} {H : am_H} {v0_13 : Int32} {x0 : Int32} {x1 : Int32} {x2 : Int32} (h0 : am_is H 0 (.inr (11, [.ref 1, .int 0, .ref 2, .int 0, .ref 3, .ref 93, .ref 97, .ref 115, .ref 116, .ref 129, .ref 123, .ref 127, .ref 128, .int v0_13, .null, .int 0]))) (h115 : am_is H 115 (.inl ((.object "TerminalHouse$Window"), (8, .inr (.inr (.inr (.inr am_q115))))))) (h141 : am_is H 141 (.inr (9, [.ref 142, .int 0, .int 0, .int 0, .int 0, .int 0, .int 0, .int 0, .int 0, .int 0]))) (h143 : am_is H 143 (.inr (9, [.ref 144, .int 0, .int 0, .int 0, .int 0, .int 0, .int 0, .int 0, .int 0, .int 0]))) (h145 : am_is H 145 (.inr (9, [.ref 146, .int 0, .int 0, .int 0, .int 0, .int 0, .int 0, .int 0, .int 0, .int 0]))) (h147 : am_is H 147 (.inr (9, [.ref 148, .int 0, .int 0, .int 0, .int 0, .int 0, .int 0, .int 0, .int 0, .int 0]))) (h149 : am_is H 149 (.inr (9, [.ref 150, .int 0, .int 0, .int 0, .int 0, .int 0, .int 0, .int 0, .int 0, .int 0]))) (h151 : am_is H 151 (.inr (9, [.ref 152, .int 0, .int 0, .int 0, .int 0, .int 0, .int 0, .int 0, .int 0, .int 0]))) (h153 : am_is H 153 (.inr (9, [.ref 154, .int 0, .int 0, .int 0, .int 0, .int 0, .int 0, .int 0, .int 0, .int 0]))) (h155 : am_is H 155 (.inr (9, [.ref 156, .int 0, .int 0, .int 0, .int 0, .int 0, .int 0, .int 0, .int 0, .int 0]))) (c1 : ¬ x0 < 0) (c2 : ¬ 8 ≤ x0) (c3 : x0 = 0)  :
    am_E sL sx cs 119 0 [(0, .ref 0), (1, .int x0), (2, .int x1), (3, .int x2)] [] H (some (.int (-1))) (fun H1 => (True) ∧ ∀ j : Nat, H1[j]? = H[j]?) := by
  refine ex_s (am_nb (m := 2) (pc1 := 2) (ls1 := [(0, .ref 0), (1, .int x0), (2, .int x1), (3, .int x2)]) (st1 := [.int x0, .ref 0]) (H1 := H) (k1 := 0) (n1 := 0) (by with_unfolding_all rfl)) ?_
  refine ex_cv1 (as := [.int x0]) (rest := []) rfl rfl rfl rfl h0 rfl (by with_unfolding_all rfl) (by with_unfolding_all rfl) (fx_look_1_2 h0 h115 h141 h143 h145 h147 h149 h151 h153 h155 c1 c2 c3) ?_
  rintro H189 ⟨-, k189⟩
  refine ex_s (am_nb (m := 5) (pc1 := 23) (ls1 := [(4, .null), (0, .ref 0), (1, .int x0), (2, .int x1), (3, .int x2)]) (st1 := [.int (-1)]) (H1 := H189) (k1 := 0) (n1 := 0) (by with_unfolding_all rfl)) ?_
  exact ex_r (st_iret rfl rfl rfl) ⟨trivial, fun j => (k189 j)⟩

set_option maxRecDepth 100000 in
theorem fx_look_3 {sL : Nat} {sx : Nat → Int32} {cs : Nat → Nat → Option Int32} {H : am_H} {v0_13 : Int32} {x0 : Int32} {x1 : Int32} {x2 : Int32} (h0 : am_is H 0 (.inr (11, [.ref 1, .int 0, .ref 2, .int 0, .ref 3, .ref 93, .ref 97, .ref 115, .ref 116, .ref 129, .ref 123, .ref 127, .ref 128, .int v0_13, .null, .int 0]))) (h115 : am_is H 115 (.inl ((.object "TerminalHouse$Window"), (8, .inr (.inr (.inr (.inr am_q115))))))) (h141 : am_is H 141 (.inr (9, [.ref 142, .int 0, .int 0, .int 0, .int 0, .int 0, .int 0, .int 0, .int 0, .int 0]))) (h143 : am_is H 143 (.inr (9, [.ref 144, .int 0, .int 0, .int 0, .int 0, .int 0, .int 0, .int 0, .int 0, .int 0]))) (h145 : am_is H 145 (.inr (9, [.ref 146, .int 0, .int 0, .int 0, .int 0, .int 0, .int 0, .int 0, .int 0, .int 0]))) (h147 : am_is H 147 (.inr (9, [.ref 148, .int 0, .int 0, .int 0, .int 0, .int 0, .int 0, .int 0, .int 0, .int 0]))) (h149 : am_is H 149 (.inr (9, [.ref 150, .int 0, .int 0, .int 0, .int 0, .int 0, .int 0, .int 0, .int 0, .int 0]))) (h151 : am_is H 151 (.inr (9, [.ref 152, .int 0, .int 0, .int 0, .int 0, .int 0, .int 0, .int 0, .int 0, .int 0]))) (h153 : am_is H 153 (.inr (9, [.ref 154, .int 0, .int 0, .int 0, .int 0, .int 0, .int 0, .int 0, .int 0, .int 0]))) (h155 : am_is H 155 (.inr (9, [.ref 156, .int 0, .int 0, .int 0, .int 0, .int 0, .int 0, .int 0, .int 0, .int 0]))) (c1 : ¬ x0 < 0) (c2 : ¬ 8 ≤ x0) (c3 : x0 = 1)  :
    am_E sL sx cs 119 0 [(0, .ref 0), (1, .int x0), (2, .int x1), (3, .int x2)] [] H (some (.int (-1))) (fun H1 => (True) ∧ ∀ j : Nat, H1[j]? = H[j]?) := by
  refine ex_s (am_nb (m := 2) (pc1 := 2) (ls1 := [(0, .ref 0), (1, .int x0), (2, .int x1), (3, .int x2)]) (st1 := [.int x0, .ref 0]) (H1 := H) (k1 := 0) (n1 := 0) (by with_unfolding_all rfl)) ?_
  refine ex_cv1 (as := [.int x0]) (rest := []) rfl rfl rfl rfl h0 rfl (by with_unfolding_all rfl) (by with_unfolding_all rfl) (fx_look_1_3 h0 h115 h141 h143 h145 h147 h149 h151 h153 h155 c1 c2 c3) ?_
  rintro H190 ⟨-, k190⟩
  refine ex_s (am_nb (m := 5) (pc1 := 23) (ls1 := [(4, .null), (0, .ref 0), (1, .int x0), (2, .int x1), (3, .int x2)]) (st1 := [.int (-1)]) (H1 := H190) (k1 := 0) (n1 := 0) (by with_unfolding_all rfl)) ?_
  exact ex_r (st_iret rfl rfl rfl) ⟨trivial, fun j => (k190 j)⟩

set_option maxRecDepth 100000 in
theorem fx_look_4 {sL : Nat} {sx : Nat → Int32} {cs : Nat → Nat → Option Int32} {H : am_H} {v0_13 : Int32} {x0 : Int32} {x1 : Int32} {x2 : Int32} (h0 : am_is H 0 (.inr (11, [.ref 1, .int 0, .ref 2, .int 0, .ref 3, .ref 93, .ref 97, .ref 115, .ref 116, .ref 129, .ref 123, .ref 127, .ref 128, .int v0_13, .null, .int 0]))) (h115 : am_is H 115 (.inl ((.object "TerminalHouse$Window"), (8, .inr (.inr (.inr (.inr am_q115))))))) (h141 : am_is H 141 (.inr (9, [.ref 142, .int 0, .int 0, .int 0, .int 0, .int 0, .int 0, .int 0, .int 0, .int 0]))) (h143 : am_is H 143 (.inr (9, [.ref 144, .int 0, .int 0, .int 0, .int 0, .int 0, .int 0, .int 0, .int 0, .int 0]))) (h145 : am_is H 145 (.inr (9, [.ref 146, .int 0, .int 0, .int 0, .int 0, .int 0, .int 0, .int 0, .int 0, .int 0]))) (h147 : am_is H 147 (.inr (9, [.ref 148, .int 0, .int 0, .int 0, .int 0, .int 0, .int 0, .int 0, .int 0, .int 0]))) (h149 : am_is H 149 (.inr (9, [.ref 150, .int 0, .int 0, .int 0, .int 0, .int 0, .int 0, .int 0, .int 0, .int 0]))) (h151 : am_is H 151 (.inr (9, [.ref 152, .int 0, .int 0, .int 0, .int 0, .int 0, .int 0, .int 0, .int 0, .int 0]))) (h153 : am_is H 153 (.inr (9, [.ref 154, .int 0, .int 0, .int 0, .int 0, .int 0, .int 0, .int 0, .int 0, .int 0]))) (h155 : am_is H 155 (.inr (9, [.ref 156, .int 0, .int 0, .int 0, .int 0, .int 0, .int 0, .int 0, .int 0, .int 0]))) (c1 : ¬ x0 < 0) (c2 : ¬ 8 ≤ x0) (c3 : x0 = 2)  :
    am_E sL sx cs 119 0 [(0, .ref 0), (1, .int x0), (2, .int x1), (3, .int x2)] [] H (some (.int (-1))) (fun H1 => (True) ∧ ∀ j : Nat, H1[j]? = H[j]?) := by
  refine ex_s (am_nb (m := 2) (pc1 := 2) (ls1 := [(0, .ref 0), (1, .int x0), (2, .int x1), (3, .int x2)]) (st1 := [.int x0, .ref 0]) (H1 := H) (k1 := 0) (n1 := 0) (by with_unfolding_all rfl)) ?_
  refine ex_cv1 (as := [.int x0]) (rest := []) rfl rfl rfl rfl h0 rfl (by with_unfolding_all rfl) (by with_unfolding_all rfl) (fx_look_1_4 h0 h115 h141 h143 h145 h147 h149 h151 h153 h155 c1 c2 c3) ?_
  rintro H191 ⟨-, k191⟩
  refine ex_s (am_nb (m := 5) (pc1 := 23) (ls1 := [(4, .null), (0, .ref 0), (1, .int x0), (2, .int x1), (3, .int x2)]) (st1 := [.int (-1)]) (H1 := H191) (k1 := 0) (n1 := 0) (by with_unfolding_all rfl)) ?_
  exact ex_r (st_iret rfl rfl rfl) ⟨trivial, fun j => (k191 j)⟩

set_option maxRecDepth 100000 in
theorem fx_look_5 {sL : Nat} {sx : Nat → Int32} {cs : Nat → Nat → Option Int32} {H : am_H} {v0_13 : Int32} {x0 : Int32} {x1 : Int32} {x2 : Int32} (h0 : am_is H 0 (.inr (11, [.ref 1, .int 0, .ref 2, .int 0, .ref 3, .ref 93, .ref 97, .ref 115, .ref 116, .ref 129, .ref 123, .ref 127, .ref 128, .int v0_13, .null, .int 0]))) (h115 : am_is H 115 (.inl ((.object "TerminalHouse$Window"), (8, .inr (.inr (.inr (.inr am_q115))))))) (h141 : am_is H 141 (.inr (9, [.ref 142, .int 0, .int 0, .int 0, .int 0, .int 0, .int 0, .int 0, .int 0, .int 0]))) (h143 : am_is H 143 (.inr (9, [.ref 144, .int 0, .int 0, .int 0, .int 0, .int 0, .int 0, .int 0, .int 0, .int 0]))) (h145 : am_is H 145 (.inr (9, [.ref 146, .int 0, .int 0, .int 0, .int 0, .int 0, .int 0, .int 0, .int 0, .int 0]))) (h147 : am_is H 147 (.inr (9, [.ref 148, .int 0, .int 0, .int 0, .int 0, .int 0, .int 0, .int 0, .int 0, .int 0]))) (h149 : am_is H 149 (.inr (9, [.ref 150, .int 0, .int 0, .int 0, .int 0, .int 0, .int 0, .int 0, .int 0, .int 0]))) (h151 : am_is H 151 (.inr (9, [.ref 152, .int 0, .int 0, .int 0, .int 0, .int 0, .int 0, .int 0, .int 0, .int 0]))) (h153 : am_is H 153 (.inr (9, [.ref 154, .int 0, .int 0, .int 0, .int 0, .int 0, .int 0, .int 0, .int 0, .int 0]))) (h155 : am_is H 155 (.inr (9, [.ref 156, .int 0, .int 0, .int 0, .int 0, .int 0, .int 0, .int 0, .int 0, .int 0]))) (c1 : ¬ x0 < 0) (c2 : ¬ 8 ≤ x0) (c3 : x0 = 3)  :
    am_E sL sx cs 119 0 [(0, .ref 0), (1, .int x0), (2, .int x1), (3, .int x2)] [] H (some (.int (-1))) (fun H1 => (True) ∧ ∀ j : Nat, H1[j]? = H[j]?) := by
  refine ex_s (am_nb (m := 2) (pc1 := 2) (ls1 := [(0, .ref 0), (1, .int x0), (2, .int x1), (3, .int x2)]) (st1 := [.int x0, .ref 0]) (H1 := H) (k1 := 0) (n1 := 0) (by with_unfolding_all rfl)) ?_
  refine ex_cv1 (as := [.int x0]) (rest := []) rfl rfl rfl rfl h0 rfl (by with_unfolding_all rfl) (by with_unfolding_all rfl) (fx_look_1_5 h0 h115 h141 h143 h145 h147 h149 h151 h153 h155 c1 c2 c3) ?_
  rintro H192 ⟨-, k192⟩
  refine ex_s (am_nb (m := 5) (pc1 := 23) (ls1 := [(4, .null), (0, .ref 0), (1, .int x0), (2, .int x1), (3, .int x2)]) (st1 := [.int (-1)]) (H1 := H192) (k1 := 0) (n1 := 0) (by with_unfolding_all rfl)) ?_
  exact ex_r (st_iret rfl rfl rfl) ⟨trivial, fun j => (k192 j)⟩

set_option maxRecDepth 100000 in
theorem fx_look_6 {sL : Nat} {sx : Nat → Int32} {cs : Nat → Nat → Option Int32} {H : am_H} {v0_13 : Int32} {x0 : Int32} {x1 : Int32} {x2 : Int32} (h0 : am_is H 0 (.inr (11, [.ref 1, .int 0, .ref 2, .int 0, .ref 3, .ref 93, .ref 97, .ref 115, .ref 116, .ref 129, .ref 123, .ref 127, .ref 128, .int v0_13, .null, .int 0]))) (h115 : am_is H 115 (.inl ((.object "TerminalHouse$Window"), (8, .inr (.inr (.inr (.inr am_q115))))))) (h141 : am_is H 141 (.inr (9, [.ref 142, .int 0, .int 0, .int 0, .int 0, .int 0, .int 0, .int 0, .int 0, .int 0]))) (h143 : am_is H 143 (.inr (9, [.ref 144, .int 0, .int 0, .int 0, .int 0, .int 0, .int 0, .int 0, .int 0, .int 0]))) (h145 : am_is H 145 (.inr (9, [.ref 146, .int 0, .int 0, .int 0, .int 0, .int 0, .int 0, .int 0, .int 0, .int 0]))) (h147 : am_is H 147 (.inr (9, [.ref 148, .int 0, .int 0, .int 0, .int 0, .int 0, .int 0, .int 0, .int 0, .int 0]))) (h149 : am_is H 149 (.inr (9, [.ref 150, .int 0, .int 0, .int 0, .int 0, .int 0, .int 0, .int 0, .int 0, .int 0]))) (h151 : am_is H 151 (.inr (9, [.ref 152, .int 0, .int 0, .int 0, .int 0, .int 0, .int 0, .int 0, .int 0, .int 0]))) (h153 : am_is H 153 (.inr (9, [.ref 154, .int 0, .int 0, .int 0, .int 0, .int 0, .int 0, .int 0, .int 0, .int 0]))) (h155 : am_is H 155 (.inr (9, [.ref 156, .int 0, .int 0, .int 0, .int 0, .int 0, .int 0, .int 0, .int 0, .int 0]))) (c1 : ¬ x0 < 0) (c2 : ¬ 8 ≤ x0) (c3 : x0 = 4)  :
    am_E sL sx cs 119 0 [(0, .ref 0), (1, .int x0), (2, .int x1), (3, .int x2)] [] H (some (.int (-1))) (fun H1 => (True) ∧ ∀ j : Nat, H1[j]? = H[j]?) := by
  refine ex_s (am_nb (m := 2) (pc1 := 2) (ls1 := [(0, .ref 0), (1, .int x0), (2, .int x1), (3, .int x2)]) (st1 := [.int x0, .ref 0]) (H1 := H) (k1 := 0) (n1 := 0) (by with_unfolding_all rfl)) ?_
  refine ex_cv1 (as := [.int x0]) (rest := []) rfl rfl rfl rfl h0 rfl (by with_unfolding_all rfl) (by with_unfolding_all rfl) (fx_look_1_6 h0 h115 h141 h143 h145 h147 h149 h151 h153 h155 c1 c2 c3) ?_
  rintro H193 ⟨-, k193⟩
  refine ex_s (am_nb (m := 5) (pc1 := 23) (ls1 := [(4, .null), (0, .ref 0), (1, .int x0), (2, .int x1), (3, .int x2)]) (st1 := [.int (-1)]) (H1 := H193) (k1 := 0) (n1 := 0) (by with_unfolding_all rfl)) ?_
  exact ex_r (st_iret rfl rfl rfl) ⟨trivial, fun j => (k193 j)⟩

set_option maxRecDepth 100000 in
theorem fx_look_7 {sL : Nat} {sx : Nat → Int32} {cs : Nat → Nat → Option Int32} {H : am_H} {v0_13 : Int32} {x0 : Int32} {x1 : Int32} {x2 : Int32} (h0 : am_is H 0 (.inr (11, [.ref 1, .int 0, .ref 2, .int 0, .ref 3, .ref 93, .ref 97, .ref 115, .ref 116, .ref 129, .ref 123, .ref 127, .ref 128, .int v0_13, .null, .int 0]))) (h115 : am_is H 115 (.inl ((.object "TerminalHouse$Window"), (8, .inr (.inr (.inr (.inr am_q115))))))) (h141 : am_is H 141 (.inr (9, [.ref 142, .int 0, .int 0, .int 0, .int 0, .int 0, .int 0, .int 0, .int 0, .int 0]))) (h143 : am_is H 143 (.inr (9, [.ref 144, .int 0, .int 0, .int 0, .int 0, .int 0, .int 0, .int 0, .int 0, .int 0]))) (h145 : am_is H 145 (.inr (9, [.ref 146, .int 0, .int 0, .int 0, .int 0, .int 0, .int 0, .int 0, .int 0, .int 0]))) (h147 : am_is H 147 (.inr (9, [.ref 148, .int 0, .int 0, .int 0, .int 0, .int 0, .int 0, .int 0, .int 0, .int 0]))) (h149 : am_is H 149 (.inr (9, [.ref 150, .int 0, .int 0, .int 0, .int 0, .int 0, .int 0, .int 0, .int 0, .int 0]))) (h151 : am_is H 151 (.inr (9, [.ref 152, .int 0, .int 0, .int 0, .int 0, .int 0, .int 0, .int 0, .int 0, .int 0]))) (h153 : am_is H 153 (.inr (9, [.ref 154, .int 0, .int 0, .int 0, .int 0, .int 0, .int 0, .int 0, .int 0, .int 0]))) (h155 : am_is H 155 (.inr (9, [.ref 156, .int 0, .int 0, .int 0, .int 0, .int 0, .int 0, .int 0, .int 0, .int 0]))) (c1 : ¬ x0 < 0) (c2 : ¬ 8 ≤ x0) (c3 : x0 = 5)  :
    am_E sL sx cs 119 0 [(0, .ref 0), (1, .int x0), (2, .int x1), (3, .int x2)] [] H (some (.int (-1))) (fun H1 => (True) ∧ ∀ j : Nat, H1[j]? = H[j]?) := by
  refine ex_s (am_nb (m := 2) (pc1 := 2) (ls1 := [(0, .ref 0), (1, .int x0), (2, .int x1), (3, .int x2)]) (st1 := [.int x0, .ref 0]) (H1 := H) (k1 := 0) (n1 := 0) (by with_unfolding_all rfl)) ?_
  refine ex_cv1 (as := [.int x0]) (rest := []) rfl rfl rfl rfl h0 rfl (by with_unfolding_all rfl) (by with_unfolding_all rfl) (fx_look_1_7 h0 h115 h141 h143 h145 h147 h149 h151 h153 h155 c1 c2 c3) ?_
  rintro H194 ⟨-, k194⟩
  refine ex_s (am_nb (m := 5) (pc1 := 23) (ls1 := [(4, .null), (0, .ref 0), (1, .int x0), (2, .int x1), (3, .int x2)]) (st1 := [.int (-1)]) (H1 := H194) (k1 := 0) (n1 := 0) (by with_unfolding_all rfl)) ?_
  exact ex_r (st_iret rfl rfl rfl) ⟨trivial, fun j => (k194 j)⟩

set_option maxRecDepth 100000 in
theorem fx_look_8 {sL : Nat} {sx : Nat → Int32} {cs : Nat → Nat → Option Int32} {H : am_H} {v0_13 : Int32} {x0 : Int32} {x1 : Int32} {x2 : Int32} (h0 : am_is H 0 (.inr (11, [.ref 1, .int 0, .ref 2, .int 0, .ref 3, .ref 93, .ref 97, .ref 115, .ref 116, .ref 129, .ref 123, .ref 127, .ref 128, .int v0_13, .null, .int 0]))) (h115 : am_is H 115 (.inl ((.object "TerminalHouse$Window"), (8, .inr (.inr (.inr (.inr am_q115))))))) (h141 : am_is H 141 (.inr (9, [.ref 142, .int 0, .int 0, .int 0, .int 0, .int 0, .int 0, .int 0, .int 0, .int 0]))) (h143 : am_is H 143 (.inr (9, [.ref 144, .int 0, .int 0, .int 0, .int 0, .int 0, .int 0, .int 0, .int 0, .int 0]))) (h145 : am_is H 145 (.inr (9, [.ref 146, .int 0, .int 0, .int 0, .int 0, .int 0, .int 0, .int 0, .int 0, .int 0]))) (h147 : am_is H 147 (.inr (9, [.ref 148, .int 0, .int 0, .int 0, .int 0, .int 0, .int 0, .int 0, .int 0, .int 0]))) (h149 : am_is H 149 (.inr (9, [.ref 150, .int 0, .int 0, .int 0, .int 0, .int 0, .int 0, .int 0, .int 0, .int 0]))) (h151 : am_is H 151 (.inr (9, [.ref 152, .int 0, .int 0, .int 0, .int 0, .int 0, .int 0, .int 0, .int 0, .int 0]))) (h153 : am_is H 153 (.inr (9, [.ref 154, .int 0, .int 0, .int 0, .int 0, .int 0, .int 0, .int 0, .int 0, .int 0]))) (h155 : am_is H 155 (.inr (9, [.ref 156, .int 0, .int 0, .int 0, .int 0, .int 0, .int 0, .int 0, .int 0, .int 0]))) (c1 : ¬ x0 < 0) (c2 : ¬ 8 ≤ x0) (c3 : x0 = 6)  :
    am_E sL sx cs 119 0 [(0, .ref 0), (1, .int x0), (2, .int x1), (3, .int x2)] [] H (some (.int (-1))) (fun H1 => (True) ∧ ∀ j : Nat, H1[j]? = H[j]?) := by
  refine ex_s (am_nb (m := 2) (pc1 := 2) (ls1 := [(0, .ref 0), (1, .int x0), (2, .int x1), (3, .int x2)]) (st1 := [.int x0, .ref 0]) (H1 := H) (k1 := 0) (n1 := 0) (by with_unfolding_all rfl)) ?_
  refine ex_cv1 (as := [.int x0]) (rest := []) rfl rfl rfl rfl h0 rfl (by with_unfolding_all rfl) (by with_unfolding_all rfl) (fx_look_1_8 h0 h115 h141 h143 h145 h147 h149 h151 h153 h155 c1 c2 c3) ?_
  rintro H195 ⟨-, k195⟩
  refine ex_s (am_nb (m := 5) (pc1 := 23) (ls1 := [(4, .null), (0, .ref 0), (1, .int x0), (2, .int x1), (3, .int x2)]) (st1 := [.int (-1)]) (H1 := H195) (k1 := 0) (n1 := 0) (by with_unfolding_all rfl)) ?_
  exact ex_r (st_iret rfl rfl rfl) ⟨trivial, fun j => (k195 j)⟩

set_option maxRecDepth 100000 in
theorem fx_look_9 {sL : Nat} {sx : Nat → Int32} {cs : Nat → Nat → Option Int32} {H : am_H} {v0_13 : Int32} {x0 : Int32} {x1 : Int32} {x2 : Int32} (h0 : am_is H 0 (.inr (11, [.ref 1, .int 0, .ref 2, .int 0, .ref 3, .ref 93, .ref 97, .ref 115, .ref 116, .ref 129, .ref 123, .ref 127, .ref 128, .int v0_13, .null, .int 0]))) (h115 : am_is H 115 (.inl ((.object "TerminalHouse$Window"), (8, .inr (.inr (.inr (.inr am_q115))))))) (h141 : am_is H 141 (.inr (9, [.ref 142, .int 0, .int 0, .int 0, .int 0, .int 0, .int 0, .int 0, .int 0, .int 0]))) (h143 : am_is H 143 (.inr (9, [.ref 144, .int 0, .int 0, .int 0, .int 0, .int 0, .int 0, .int 0, .int 0, .int 0]))) (h145 : am_is H 145 (.inr (9, [.ref 146, .int 0, .int 0, .int 0, .int 0, .int 0, .int 0, .int 0, .int 0, .int 0]))) (h147 : am_is H 147 (.inr (9, [.ref 148, .int 0, .int 0, .int 0, .int 0, .int 0, .int 0, .int 0, .int 0, .int 0]))) (h149 : am_is H 149 (.inr (9, [.ref 150, .int 0, .int 0, .int 0, .int 0, .int 0, .int 0, .int 0, .int 0, .int 0]))) (h151 : am_is H 151 (.inr (9, [.ref 152, .int 0, .int 0, .int 0, .int 0, .int 0, .int 0, .int 0, .int 0, .int 0]))) (h153 : am_is H 153 (.inr (9, [.ref 154, .int 0, .int 0, .int 0, .int 0, .int 0, .int 0, .int 0, .int 0, .int 0]))) (h155 : am_is H 155 (.inr (9, [.ref 156, .int 0, .int 0, .int 0, .int 0, .int 0, .int 0, .int 0, .int 0, .int 0]))) (c1 : ¬ x0 < 0) (c2 : ¬ 8 ≤ x0) (c3 : x0 = 7)  :
    am_E sL sx cs 119 0 [(0, .ref 0), (1, .int x0), (2, .int x1), (3, .int x2)] [] H (some (.int (-1))) (fun H1 => (True) ∧ ∀ j : Nat, H1[j]? = H[j]?) := by
  refine ex_s (am_nb (m := 2) (pc1 := 2) (ls1 := [(0, .ref 0), (1, .int x0), (2, .int x1), (3, .int x2)]) (st1 := [.int x0, .ref 0]) (H1 := H) (k1 := 0) (n1 := 0) (by with_unfolding_all rfl)) ?_
  refine ex_cv1 (as := [.int x0]) (rest := []) rfl rfl rfl rfl h0 rfl (by with_unfolding_all rfl) (by with_unfolding_all rfl) (fx_look_1_9 h0 h115 h141 h143 h145 h147 h149 h151 h153 h155 c1 c2 c3) ?_
  rintro H196 ⟨-, k196⟩
  refine ex_s (am_nb (m := 5) (pc1 := 23) (ls1 := [(4, .null), (0, .ref 0), (1, .int x0), (2, .int x1), (3, .int x2)]) (st1 := [.int (-1)]) (H1 := H196) (k1 := 0) (n1 := 0) (by with_unfolding_all rfl)) ?_
  exact ex_r (st_iret rfl rfl rfl) ⟨trivial, fun j => (k196 j)⟩

set_option maxRecDepth 100000 in
theorem fx_where_1_0 {sL : Nat} {sx : Nat → Int32} {cs : Nat → Nat → Option Int32} {H : am_H} {v0_13 : Int32} {x0 : Int32} (h0 : am_is H 0 (.inr (11, [.ref 1, .int 0, .ref 2, .int 0, .ref 3, .ref 93, .ref 97, .ref 115, .ref 116, .ref 129, .ref 123, .ref 127, .ref 128, .int v0_13, .null, .int 0]))) (h115 : am_is H 115 (.inl ((.object "TerminalHouse$Window"), (8, .inr (.inr (.inr (.inr am_q115))))))) (h141 : am_is H 141 (.inr (9, [.ref 142, .int 0, .int 0, .int 0, .int 0, .int 0, .int 0, .int 0, .int 0, .int 0]))) (h143 : am_is H 143 (.inr (9, [.ref 144, .int 0, .int 0, .int 0, .int 0, .int 0, .int 0, .int 0, .int 0, .int 0]))) (h145 : am_is H 145 (.inr (9, [.ref 146, .int 0, .int 0, .int 0, .int 0, .int 0, .int 0, .int 0, .int 0, .int 0]))) (h147 : am_is H 147 (.inr (9, [.ref 148, .int 0, .int 0, .int 0, .int 0, .int 0, .int 0, .int 0, .int 0, .int 0]))) (h149 : am_is H 149 (.inr (9, [.ref 150, .int 0, .int 0, .int 0, .int 0, .int 0, .int 0, .int 0, .int 0, .int 0]))) (h151 : am_is H 151 (.inr (9, [.ref 152, .int 0, .int 0, .int 0, .int 0, .int 0, .int 0, .int 0, .int 0, .int 0]))) (h153 : am_is H 153 (.inr (9, [.ref 154, .int 0, .int 0, .int 0, .int 0, .int 0, .int 0, .int 0, .int 0, .int 0]))) (h155 : am_is H 155 (.inr (9, [.ref 156, .int 0, .int 0, .int 0, .int 0, .int 0, .int 0, .int 0, .int 0, .int 0]))) (c1 : x0 < 0)  :
    am_E sL sx cs 98 0 [(0, .ref 0), (1, .int x0)] [] H (some (.null)) (fun H1 => (True) ∧ ∀ j : Nat, H1[j]? = H[j]?) := by
  refine ex_s (am_nb (m := 1) (pc1 := 1) (ls1 := [(0, .ref 0), (1, .int x0)]) (st1 := [.int x0]) (H1 := H) (k1 := 0) (n1 := 0) (by with_unfolding_all rfl)) ?_
  refine ex_s (st_if rfl) ?_
  refine ex_pc (if_pos c1) ?_
  refine ex_s (am_nb (m := 1) (pc1 := 23) (ls1 := [(0, .ref 0), (1, .int x0)]) (st1 := [.null]) (H1 := H) (k1 := 0) (n1 := 0) (by with_unfolding_all rfl)) ?_
  exact ex_r (st_aret rfl rfl rfl rfl) ⟨trivial, fun j => rfl⟩

set_option maxRecDepth 100000 in
theorem fx_where_1_1 {sL : Nat} {sx : Nat → Int32} {cs : Nat → Nat → Option Int32} {H : am_H} {v0_13 : Int32} {x0 : Int32} (h0 : am_is H 0 (.inr (11, [.ref 1, .int 0, .ref 2, .int 0, .ref 3, .ref 93, .ref 97, .ref 115, .ref 116, .ref 129, .ref 123, .ref 127, .ref 128, .int v0_13, .null, .int 0]))) (h115 : am_is H 115 (.inl ((.object "TerminalHouse$Window"), (8, .inr (.inr (.inr (.inr am_q115))))))) (h141 : am_is H 141 (.inr (9, [.ref 142, .int 0, .int 0, .int 0, .int 0, .int 0, .int 0, .int 0, .int 0, .int 0]))) (h143 : am_is H 143 (.inr (9, [.ref 144, .int 0, .int 0, .int 0, .int 0, .int 0, .int 0, .int 0, .int 0, .int 0]))) (h145 : am_is H 145 (.inr (9, [.ref 146, .int 0, .int 0, .int 0, .int 0, .int 0, .int 0, .int 0, .int 0, .int 0]))) (h147 : am_is H 147 (.inr (9, [.ref 148, .int 0, .int 0, .int 0, .int 0, .int 0, .int 0, .int 0, .int 0, .int 0]))) (h149 : am_is H 149 (.inr (9, [.ref 150, .int 0, .int 0, .int 0, .int 0, .int 0, .int 0, .int 0, .int 0, .int 0]))) (h151 : am_is H 151 (.inr (9, [.ref 152, .int 0, .int 0, .int 0, .int 0, .int 0, .int 0, .int 0, .int 0, .int 0]))) (h153 : am_is H 153 (.inr (9, [.ref 154, .int 0, .int 0, .int 0, .int 0, .int 0, .int 0, .int 0, .int 0, .int 0]))) (h155 : am_is H 155 (.inr (9, [.ref 156, .int 0, .int 0, .int 0, .int 0, .int 0, .int 0, .int 0, .int 0, .int 0]))) (c1 : ¬ x0 < 0) (c2 : 8 ≤ x0)  :
    am_E sL sx cs 98 0 [(0, .ref 0), (1, .int x0)] [] H (some (.null)) (fun H1 => (True) ∧ ∀ j : Nat, H1[j]? = H[j]?) := by
  refine ex_s (am_nb (m := 1) (pc1 := 1) (ls1 := [(0, .ref 0), (1, .int x0)]) (st1 := [.int x0]) (H1 := H) (k1 := 0) (n1 := 0) (by with_unfolding_all rfl)) ?_
  refine ex_s (st_if rfl) ?_
  refine ex_pc (if_neg c1) ?_
  refine ex_s (am_nb (m := 2) (pc1 := 7) (ls1 := [(0, .ref 0), (1, .int x0)]) (st1 := [.int 8, .int x0]) (H1 := H) (k1 := 0) (n1 := 0) (by with_unfolding_all rfl)) ?_
  refine ex_s (st_icmp rfl) ?_
  refine ex_pc (if_pos c2) ?_
  refine ex_s (am_nb (m := 1) (pc1 := 23) (ls1 := [(0, .ref 0), (1, .int x0)]) (st1 := [.null]) (H1 := H) (k1 := 0) (n1 := 0) (by with_unfolding_all rfl)) ?_
  exact ex_r (st_aret rfl rfl rfl rfl) ⟨trivial, fun j => rfl⟩

set_option maxRecDepth 100000 in
theorem fx_where_1_2 {sL : Nat} {sx : Nat → Int32} {cs : Nat → Nat → Option Int32} {H : am_H} {v0_13 : Int32} {x0 : Int32} (h0 : am_is H 0 (.inr (11, [.ref 1, .int 0, .ref 2, .int 0, .ref 3, .ref 93, .ref 97, .ref 115, .ref 116, .ref 129, .ref 123, .ref 127, .ref 128, .int v0_13, .null, .int 0]))) (h115 : am_is H 115 (.inl ((.object "TerminalHouse$Window"), (8, .inr (.inr (.inr (.inr am_q115))))))) (h141 : am_is H 141 (.inr (9, [.ref 142, .int 0, .int 0, .int 0, .int 0, .int 0, .int 0, .int 0, .int 0, .int 0]))) (h143 : am_is H 143 (.inr (9, [.ref 144, .int 0, .int 0, .int 0, .int 0, .int 0, .int 0, .int 0, .int 0, .int 0]))) (h145 : am_is H 145 (.inr (9, [.ref 146, .int 0, .int 0, .int 0, .int 0, .int 0, .int 0, .int 0, .int 0, .int 0]))) (h147 : am_is H 147 (.inr (9, [.ref 148, .int 0, .int 0, .int 0, .int 0, .int 0, .int 0, .int 0, .int 0, .int 0]))) (h149 : am_is H 149 (.inr (9, [.ref 150, .int 0, .int 0, .int 0, .int 0, .int 0, .int 0, .int 0, .int 0, .int 0]))) (h151 : am_is H 151 (.inr (9, [.ref 152, .int 0, .int 0, .int 0, .int 0, .int 0, .int 0, .int 0, .int 0, .int 0]))) (h153 : am_is H 153 (.inr (9, [.ref 154, .int 0, .int 0, .int 0, .int 0, .int 0, .int 0, .int 0, .int 0, .int 0]))) (h155 : am_is H 155 (.inr (9, [.ref 156, .int 0, .int 0, .int 0, .int 0, .int 0, .int 0, .int 0, .int 0, .int 0]))) (c1 : ¬ x0 < 0) (c2 : ¬ 8 ≤ x0) (c3 : x0 = 0)  :
    am_E sL sx cs 98 0 [(0, .ref 0), (1, .int x0)] [] H (some (.null)) (fun H1 => (True) ∧ ∀ j : Nat, H1[j]? = H[j]?) := by
  refine ex_s (am_nb (m := 1) (pc1 := 1) (ls1 := [(0, .ref 0), (1, .int x0)]) (st1 := [.int x0]) (H1 := H) (k1 := 0) (n1 := 0) (by with_unfolding_all rfl)) ?_
  refine ex_s (st_if rfl) ?_
  refine ex_pc (if_neg c1) ?_
  refine ex_s (am_nb (m := 2) (pc1 := 7) (ls1 := [(0, .ref 0), (1, .int x0)]) (st1 := [.int 8, .int x0]) (H1 := H) (k1 := 0) (n1 := 0) (by with_unfolding_all rfl)) ?_
  refine ex_s (st_icmp rfl) ?_
  refine ex_pc (if_neg c2) ?_
  refine ex_s (am_nb (m := 1) (pc1 := 11) (ls1 := [(0, .ref 0), (1, .int x0)]) (st1 := [.ref 0]) (H1 := H) (k1 := 0) (n1 := 0) (by with_unfolding_all rfl)) ?_
  refine ex_s (st_get rfl h0 rfl) ?_
  refine ex_s (am_nb (m := 1) (pc1 := 15) (ls1 := [(0, .ref 0), (1, .int x0)]) (st1 := [.int x0, .ref 115]) (H1 := H) (k1 := 0) (n1 := 0) (by with_unfolding_all rfl)) ?_
  refine ex_s (st_aald rfl h115 (by rw [c3]; decide) rfl) ?_
  refine ex_s (am_nb (m := 0) (pc1 := 16) (ls1 := [(0, .ref 0), (1, .int x0)]) (st1 := [.ref 141]) (H1 := H) (k1 := 0) (n1 := 0) (by rw [c3]; with_unfolding_all rfl)) ?_
  refine ex_s (st_get rfl h141 rfl) ?_
  refine ex_s (am_nb (m := 2) (pc1 := 23) (ls1 := [(0, .ref 0), (1, .int x0)]) (st1 := [.null]) (H1 := H) (k1 := 0) (n1 := 0) (by with_unfolding_all rfl)) ?_
  exact ex_r (st_aret rfl rfl rfl rfl) ⟨trivial, fun j => rfl⟩

set_option maxRecDepth 100000 in
theorem fx_where_1_3 {sL : Nat} {sx : Nat → Int32} {cs : Nat → Nat → Option Int32} {H : am_H} {v0_13 : Int32} {x0 : Int32} (h0 : am_is H 0 (.inr (11, [.ref 1, .int 0, .ref 2, .int 0, .ref 3, .ref 93, .ref 97, .ref 115, .ref 116, .ref 129, .ref 123, .ref 127, .ref 128, .int v0_13, .null, .int 0]))) (h115 : am_is H 115 (.inl ((.object "TerminalHouse$Window"), (8, .inr (.inr (.inr (.inr am_q115))))))) (h141 : am_is H 141 (.inr (9, [.ref 142, .int 0, .int 0, .int 0, .int 0, .int 0, .int 0, .int 0, .int 0, .int 0]))) (h143 : am_is H 143 (.inr (9, [.ref 144, .int 0, .int 0, .int 0, .int 0, .int 0, .int 0, .int 0, .int 0, .int 0]))) (h145 : am_is H 145 (.inr (9, [.ref 146, .int 0, .int 0, .int 0, .int 0, .int 0, .int 0, .int 0, .int 0, .int 0]))) (h147 : am_is H 147 (.inr (9, [.ref 148, .int 0, .int 0, .int 0, .int 0, .int 0, .int 0, .int 0, .int 0, .int 0]))) (h149 : am_is H 149 (.inr (9, [.ref 150, .int 0, .int 0, .int 0, .int 0, .int 0, .int 0, .int 0, .int 0, .int 0]))) (h151 : am_is H 151 (.inr (9, [.ref 152, .int 0, .int 0, .int 0, .int 0, .int 0, .int 0, .int 0, .int 0, .int 0]))) (h153 : am_is H 153 (.inr (9, [.ref 154, .int 0, .int 0, .int 0, .int 0, .int 0, .int 0, .int 0, .int 0, .int 0]))) (h155 : am_is H 155 (.inr (9, [.ref 156, .int 0, .int 0, .int 0, .int 0, .int 0, .int 0, .int 0, .int 0, .int 0]))) (c1 : ¬ x0 < 0) (c2 : ¬ 8 ≤ x0) (c3 : x0 = 1)  :
    am_E sL sx cs 98 0 [(0, .ref 0), (1, .int x0)] [] H (some (.null)) (fun H1 => (True) ∧ ∀ j : Nat, H1[j]? = H[j]?) := by
  refine ex_s (am_nb (m := 1) (pc1 := 1) (ls1 := [(0, .ref 0), (1, .int x0)]) (st1 := [.int x0]) (H1 := H) (k1 := 0) (n1 := 0) (by with_unfolding_all rfl)) ?_
  refine ex_s (st_if rfl) ?_
  refine ex_pc (if_neg c1) ?_
  refine ex_s (am_nb (m := 2) (pc1 := 7) (ls1 := [(0, .ref 0), (1, .int x0)]) (st1 := [.int 8, .int x0]) (H1 := H) (k1 := 0) (n1 := 0) (by with_unfolding_all rfl)) ?_
  refine ex_s (st_icmp rfl) ?_
  refine ex_pc (if_neg c2) ?_
  refine ex_s (am_nb (m := 1) (pc1 := 11) (ls1 := [(0, .ref 0), (1, .int x0)]) (st1 := [.ref 0]) (H1 := H) (k1 := 0) (n1 := 0) (by with_unfolding_all rfl)) ?_
  refine ex_s (st_get rfl h0 rfl) ?_
  refine ex_s (am_nb (m := 1) (pc1 := 15) (ls1 := [(0, .ref 0), (1, .int x0)]) (st1 := [.int x0, .ref 115]) (H1 := H) (k1 := 0) (n1 := 0) (by with_unfolding_all rfl)) ?_
  refine ex_s (st_aald rfl h115 (by rw [c3]; decide) rfl) ?_
  refine ex_s (am_nb (m := 0) (pc1 := 16) (ls1 := [(0, .ref 0), (1, .int x0)]) (st1 := [.ref 143]) (H1 := H) (k1 := 0) (n1 := 0) (by rw [c3]; with_unfolding_all rfl)) ?_
  refine ex_s (st_get rfl h143 rfl) ?_
  refine ex_s (am_nb (m := 2) (pc1 := 23) (ls1 := [(0, .ref 0), (1, .int x0)]) (st1 := [.null]) (H1 := H) (k1 := 0) (n1 := 0) (by with_unfolding_all rfl)) ?_
  exact ex_r (st_aret rfl rfl rfl rfl) ⟨trivial, fun j => rfl⟩

set_option maxRecDepth 100000 in
theorem fx_where_1_4 {sL : Nat} {sx : Nat → Int32} {cs : Nat → Nat → Option Int32} {H : am_H} {v0_13 : Int32} {x0 : Int32} (h0 : am_is H 0 (.inr (11, [.ref 1, .int 0, .ref 2, .int 0, .ref 3, .ref 93, .ref 97, .ref 115, .ref 116, .ref 129, .ref 123, .ref 127, .ref 128, .int v0_13, .null, .int 0]))) (h115 : am_is H 115 (.inl ((.object "TerminalHouse$Window"), (8, .inr (.inr (.inr (.inr am_q115))))))) (h141 : am_is H 141 (.inr (9, [.ref 142, .int 0, .int 0, .int 0, .int 0, .int 0, .int 0, .int 0, .int 0, .int 0]))) (h143 : am_is H 143 (.inr (9, [.ref 144, .int 0, .int 0, .int 0, .int 0, .int 0, .int 0, .int 0, .int 0, .int 0]))) (h145 : am_is H 145 (.inr (9, [.ref 146, .int 0, .int 0, .int 0, .int 0, .int 0, .int 0, .int 0, .int 0, .int 0]))) (h147 : am_is H 147 (.inr (9, [.ref 148, .int 0, .int 0, .int 0, .int 0, .int 0, .int 0, .int 0, .int 0, .int 0]))) (h149 : am_is H 149 (.inr (9, [.ref 150, .int 0, .int 0, .int 0, .int 0, .int 0, .int 0, .int 0, .int 0, .int 0]))) (h151 : am_is H 151 (.inr (9, [.ref 152, .int 0, .int 0, .int 0, .int 0, .int 0, .int 0, .int 0, .int 0, .int 0]))) (h153 : am_is H 153 (.inr (9, [.ref 154, .int 0, .int 0, .int 0, .int 0, .int 0, .int 0, .int 0, .int 0, .int 0]))) (h155 : am_is H 155 (.inr (9, [.ref 156, .int 0, .int 0, .int 0, .int 0, .int 0, .int 0, .int 0, .int 0, .int 0]))) (c1 : ¬ x0 < 0) (c2 : ¬ 8 ≤ x0) (c3 : x0 = 2)  :
    am_E sL sx cs 98 0 [(0, .ref 0), (1, .int x0)] [] H (some (.null)) (fun H1 => (True) ∧ ∀ j : Nat, H1[j]? = H[j]?) := by
  refine ex_s (am_nb (m := 1) (pc1 := 1) (ls1 := [(0, .ref 0), (1, .int x0)]) (st1 := [.int x0]) (H1 := H) (k1 := 0) (n1 := 0) (by with_unfolding_all rfl)) ?_
  refine ex_s (st_if rfl) ?_
  refine ex_pc (if_neg c1) ?_
  refine ex_s (am_nb (m := 2) (pc1 := 7) (ls1 := [(0, .ref 0), (1, .int x0)]) (st1 := [.int 8, .int x0]) (H1 := H) (k1 := 0) (n1 := 0) (by with_unfolding_all rfl)) ?_
  refine ex_s (st_icmp rfl) ?_
  refine ex_pc (if_neg c2) ?_
  refine ex_s (am_nb (m := 1) (pc1 := 11) (ls1 := [(0, .ref 0), (1, .int x0)]) (st1 := [.ref 0]) (H1 := H) (k1 := 0) (n1 := 0) (by with_unfolding_all rfl)) ?_
  refine ex_s (st_get rfl h0 rfl) ?_
  refine ex_s (am_nb (m := 1) (pc1 := 15) (ls1 := [(0, .ref 0), (1, .int x0)]) (st1 := [.int x0, .ref 115]) (H1 := H) (k1 := 0) (n1 := 0) (by with_unfolding_all rfl)) ?_
  refine ex_s (st_aald rfl h115 (by rw [c3]; decide) rfl) ?_
  refine ex_s (am_nb (m := 0) (pc1 := 16) (ls1 := [(0, .ref 0), (1, .int x0)]) (st1 := [.ref 145]) (H1 := H) (k1 := 0) (n1 := 0) (by rw [c3]; with_unfolding_all rfl)) ?_
  refine ex_s (st_get rfl h145 rfl) ?_
  refine ex_s (am_nb (m := 2) (pc1 := 23) (ls1 := [(0, .ref 0), (1, .int x0)]) (st1 := [.null]) (H1 := H) (k1 := 0) (n1 := 0) (by with_unfolding_all rfl)) ?_
  exact ex_r (st_aret rfl rfl rfl rfl) ⟨trivial, fun j => rfl⟩

set_option maxRecDepth 100000 in
theorem fx_where_1_5 {sL : Nat} {sx : Nat → Int32} {cs : Nat → Nat → Option Int32} {H : am_H} {v0_13 : Int32} {x0 : Int32} (h0 : am_is H 0 (.inr (11, [.ref 1, .int 0, .ref 2, .int 0, .ref 3, .ref 93, .ref 97, .ref 115, .ref 116, .ref 129, .ref 123, .ref 127, .ref 128, .int v0_13, .null, .int 0]))) (h115 : am_is H 115 (.inl ((.object "TerminalHouse$Window"), (8, .inr (.inr (.inr (.inr am_q115))))))) (h141 : am_is H 141 (.inr (9, [.ref 142, .int 0, .int 0, .int 0, .int 0, .int 0, .int 0, .int 0, .int 0, .int 0]))) (h143 : am_is H 143 (.inr (9, [.ref 144, .int 0, .int 0, .int 0, .int 0, .int 0, .int 0, .int 0, .int 0, .int 0]))) (h145 : am_is H 145 (.inr (9, [.ref 146, .int 0, .int 0, .int 0, .int 0, .int 0, .int 0, .int 0, .int 0, .int 0]))) (h147 : am_is H 147 (.inr (9, [.ref 148, .int 0, .int 0, .int 0, .int 0, .int 0, .int 0, .int 0, .int 0, .int 0]))) (h149 : am_is H 149 (.inr (9, [.ref 150, .int 0, .int 0, .int 0, .int 0, .int 0, .int 0, .int 0, .int 0, .int 0]))) (h151 : am_is H 151 (.inr (9, [.ref 152, .int 0, .int 0, .int 0, .int 0, .int 0, .int 0, .int 0, .int 0, .int 0]))) (h153 : am_is H 153 (.inr (9, [.ref 154, .int 0, .int 0, .int 0, .int 0, .int 0, .int 0, .int 0, .int 0, .int 0]))) (h155 : am_is H 155 (.inr (9, [.ref 156, .int 0, .int 0, .int 0, .int 0, .int 0, .int 0, .int 0, .int 0, .int 0]))) (c1 : ¬ x0 < 0) (c2 : ¬ 8 ≤ x0) (c3 : x0 = 3)  :
    am_E sL sx cs 98 0 [(0, .ref 0), (1, .int x0)] [] H (some (.null)) (fun H1 => (True) ∧ ∀ j : Nat, H1[j]? = H[j]?) := by
  refine ex_s (am_nb (m := 1) (pc1 := 1) (ls1 := [(0, .ref 0), (1, .int x0)]) (st1 := [.int x0]) (H1 := H) (k1 := 0) (n1 := 0) (by with_unfolding_all rfl)) ?_
  refine ex_s (st_if rfl) ?_
  refine ex_pc (if_neg c1) ?_
  refine ex_s (am_nb (m := 2) (pc1 := 7) (ls1 := [(0, .ref 0), (1, .int x0)]) (st1 := [.int 8, .int x0]) (H1 := H) (k1 := 0) (n1 := 0) (by with_unfolding_all rfl)) ?_
  refine ex_s (st_icmp rfl) ?_
  refine ex_pc (if_neg c2) ?_
  refine ex_s (am_nb (m := 1) (pc1 := 11) (ls1 := [(0, .ref 0), (1, .int x0)]) (st1 := [.ref 0]) (H1 := H) (k1 := 0) (n1 := 0) (by with_unfolding_all rfl)) ?_
  refine ex_s (st_get rfl h0 rfl) ?_
  refine ex_s (am_nb (m := 1) (pc1 := 15) (ls1 := [(0, .ref 0), (1, .int x0)]) (st1 := [.int x0, .ref 115]) (H1 := H) (k1 := 0) (n1 := 0) (by with_unfolding_all rfl)) ?_
  refine ex_s (st_aald rfl h115 (by rw [c3]; decide) rfl) ?_
  refine ex_s (am_nb (m := 0) (pc1 := 16) (ls1 := [(0, .ref 0), (1, .int x0)]) (st1 := [.ref 147]) (H1 := H) (k1 := 0) (n1 := 0) (by rw [c3]; with_unfolding_all rfl)) ?_
  refine ex_s (st_get rfl h147 rfl) ?_
  refine ex_s (am_nb (m := 2) (pc1 := 23) (ls1 := [(0, .ref 0), (1, .int x0)]) (st1 := [.null]) (H1 := H) (k1 := 0) (n1 := 0) (by with_unfolding_all rfl)) ?_
  exact ex_r (st_aret rfl rfl rfl rfl) ⟨trivial, fun j => rfl⟩

set_option maxRecDepth 100000 in
theorem fx_where_1_6 {sL : Nat} {sx : Nat → Int32} {cs : Nat → Nat → Option Int32} {H : am_H} {v0_13 : Int32} {x0 : Int32} (h0 : am_is H 0 (.inr (11, [.ref 1, .int 0, .ref 2, .int 0, .ref 3, .ref 93, .ref 97, .ref 115, .ref 116, .ref 129, .ref 123, .ref 127, .ref 128, .int v0_13, .null, .int 0]))) (h115 : am_is H 115 (.inl ((.object "TerminalHouse$Window"), (8, .inr (.inr (.inr (.inr am_q115))))))) (h141 : am_is H 141 (.inr (9, [.ref 142, .int 0, .int 0, .int 0, .int 0, .int 0, .int 0, .int 0, .int 0, .int 0]))) (h143 : am_is H 143 (.inr (9, [.ref 144, .int 0, .int 0, .int 0, .int 0, .int 0, .int 0, .int 0, .int 0, .int 0]))) (h145 : am_is H 145 (.inr (9, [.ref 146, .int 0, .int 0, .int 0, .int 0, .int 0, .int 0, .int 0, .int 0, .int 0]))) (h147 : am_is H 147 (.inr (9, [.ref 148, .int 0, .int 0, .int 0, .int 0, .int 0, .int 0, .int 0, .int 0, .int 0]))) (h149 : am_is H 149 (.inr (9, [.ref 150, .int 0, .int 0, .int 0, .int 0, .int 0, .int 0, .int 0, .int 0, .int 0]))) (h151 : am_is H 151 (.inr (9, [.ref 152, .int 0, .int 0, .int 0, .int 0, .int 0, .int 0, .int 0, .int 0, .int 0]))) (h153 : am_is H 153 (.inr (9, [.ref 154, .int 0, .int 0, .int 0, .int 0, .int 0, .int 0, .int 0, .int 0, .int 0]))) (h155 : am_is H 155 (.inr (9, [.ref 156, .int 0, .int 0, .int 0, .int 0, .int 0, .int 0, .int 0, .int 0, .int 0]))) (c1 : ¬ x0 < 0) (c2 : ¬ 8 ≤ x0) (c3 : x0 = 4)  :
    am_E sL sx cs 98 0 [(0, .ref 0), (1, .int x0)] [] H (some (.null)) (fun H1 => (True) ∧ ∀ j : Nat, H1[j]? = H[j]?) := by
  refine ex_s (am_nb (m := 1) (pc1 := 1) (ls1 := [(0, .ref 0), (1, .int x0)]) (st1 := [.int x0]) (H1 := H) (k1 := 0) (n1 := 0) (by with_unfolding_all rfl)) ?_
  refine ex_s (st_if rfl) ?_
  refine ex_pc (if_neg c1) ?_
  refine ex_s (am_nb (m := 2) (pc1 := 7) (ls1 := [(0, .ref 0), (1, .int x0)]) (st1 := [.int 8, .int x0]) (H1 := H) (k1 := 0) (n1 := 0) (by with_unfolding_all rfl)) ?_
  refine ex_s (st_icmp rfl) ?_
  refine ex_pc (if_neg c2) ?_
  refine ex_s (am_nb (m := 1) (pc1 := 11) (ls1 := [(0, .ref 0), (1, .int x0)]) (st1 := [.ref 0]) (H1 := H) (k1 := 0) (n1 := 0) (by with_unfolding_all rfl)) ?_
  refine ex_s (st_get rfl h0 rfl) ?_
  refine ex_s (am_nb (m := 1) (pc1 := 15) (ls1 := [(0, .ref 0), (1, .int x0)]) (st1 := [.int x0, .ref 115]) (H1 := H) (k1 := 0) (n1 := 0) (by with_unfolding_all rfl)) ?_
  refine ex_s (st_aald rfl h115 (by rw [c3]; decide) rfl) ?_
  refine ex_s (am_nb (m := 0) (pc1 := 16) (ls1 := [(0, .ref 0), (1, .int x0)]) (st1 := [.ref 149]) (H1 := H) (k1 := 0) (n1 := 0) (by rw [c3]; with_unfolding_all rfl)) ?_
  refine ex_s (st_get rfl h149 rfl) ?_
  refine ex_s (am_nb (m := 2) (pc1 := 23) (ls1 := [(0, .ref 0), (1, .int x0)]) (st1 := [.null]) (H1 := H) (k1 := 0) (n1 := 0) (by with_unfolding_all rfl)) ?_
  exact ex_r (st_aret rfl rfl rfl rfl) ⟨trivial, fun j => rfl⟩

set_option maxRecDepth 100000 in
theorem fx_where_1_7 {sL : Nat} {sx : Nat → Int32} {cs : Nat → Nat → Option Int32} {H : am_H} {v0_13 : Int32} {x0 : Int32} (h0 : am_is H 0 (.inr (11, [.ref 1, .int 0, .ref 2, .int 0, .ref 3, .ref 93, .ref 97, .ref 115, .ref 116, .ref 129, .ref 123, .ref 127, .ref 128, .int v0_13, .null, .int 0]))) (h115 : am_is H 115 (.inl ((.object "TerminalHouse$Window"), (8, .inr (.inr (.inr (.inr am_q115))))))) (h141 : am_is H 141 (.inr (9, [.ref 142, .int 0, .int 0, .int 0, .int 0, .int 0, .int 0, .int 0, .int 0, .int 0]))) (h143 : am_is H 143 (.inr (9, [.ref 144, .int 0, .int 0, .int 0, .int 0, .int 0, .int 0, .int 0, .int 0, .int 0]))) (h145 : am_is H 145 (.inr (9, [.ref 146, .int 0, .int 0, .int 0, .int 0, .int 0, .int 0, .int 0, .int 0, .int 0]))) (h147 : am_is H 147 (.inr (9, [.ref 148, .int 0, .int 0, .int 0, .int 0, .int 0, .int 0, .int 0, .int 0, .int 0]))) (h149 : am_is H 149 (.inr (9, [.ref 150, .int 0, .int 0, .int 0, .int 0, .int 0, .int 0, .int 0, .int 0, .int 0]))) (h151 : am_is H 151 (.inr (9, [.ref 152, .int 0, .int 0, .int 0, .int 0, .int 0, .int 0, .int 0, .int 0, .int 0]))) (h153 : am_is H 153 (.inr (9, [.ref 154, .int 0, .int 0, .int 0, .int 0, .int 0, .int 0, .int 0, .int 0, .int 0]))) (h155 : am_is H 155 (.inr (9, [.ref 156, .int 0, .int 0, .int 0, .int 0, .int 0, .int 0, .int 0, .int 0, .int 0]))) (c1 : ¬ x0 < 0) (c2 : ¬ 8 ≤ x0) (c3 : x0 = 5)  :
    am_E sL sx cs 98 0 [(0, .ref 0), (1, .int x0)] [] H (some (.null)) (fun H1 => (True) ∧ ∀ j : Nat, H1[j]? = H[j]?) := by
  refine ex_s (am_nb (m := 1) (pc1 := 1) (ls1 := [(0, .ref 0), (1, .int x0)]) (st1 := [.int x0]) (H1 := H) (k1 := 0) (n1 := 0) (by with_unfolding_all rfl)) ?_
  refine ex_s (st_if rfl) ?_
  refine ex_pc (if_neg c1) ?_
  refine ex_s (am_nb (m := 2) (pc1 := 7) (ls1 := [(0, .ref 0), (1, .int x0)]) (st1 := [.int 8, .int x0]) (H1 := H) (k1 := 0) (n1 := 0) (by with_unfolding_all rfl)) ?_
  refine ex_s (st_icmp rfl) ?_
  refine ex_pc (if_neg c2) ?_
  refine ex_s (am_nb (m := 1) (pc1 := 11) (ls1 := [(0, .ref 0), (1, .int x0)]) (st1 := [.ref 0]) (H1 := H) (k1 := 0) (n1 := 0) (by with_unfolding_all rfl)) ?_
  refine ex_s (st_get rfl h0 rfl) ?_
  refine ex_s (am_nb (m := 1) (pc1 := 15) (ls1 := [(0, .ref 0), (1, .int x0)]) (st1 := [.int x0, .ref 115]) (H1 := H) (k1 := 0) (n1 := 0) (by with_unfolding_all rfl)) ?_
  refine ex_s (st_aald rfl h115 (by rw [c3]; decide) rfl) ?_
  refine ex_s (am_nb (m := 0) (pc1 := 16) (ls1 := [(0, .ref 0), (1, .int x0)]) (st1 := [.ref 151]) (H1 := H) (k1 := 0) (n1 := 0) (by rw [c3]; with_unfolding_all rfl)) ?_
  refine ex_s (st_get rfl h151 rfl) ?_
  refine ex_s (am_nb (m := 2) (pc1 := 23) (ls1 := [(0, .ref 0), (1, .int x0)]) (st1 := [.null]) (H1 := H) (k1 := 0) (n1 := 0) (by with_unfolding_all rfl)) ?_
  exact ex_r (st_aret rfl rfl rfl rfl) ⟨trivial, fun j => rfl⟩

set_option maxRecDepth 100000 in
theorem fx_where_1_8 {sL : Nat} {sx : Nat → Int32} {cs : Nat → Nat → Option Int32} {H : am_H} {v0_13 : Int32} {x0 : Int32} (h0 : am_is H 0 (.inr (11, [.ref 1, .int 0, .ref 2, .int 0, .ref 3, .ref 93, .ref 97, .ref 115, .ref 116, .ref 129, .ref 123, .ref 127, .ref 128, .int v0_13, .null, .int 0]))) (h115 : am_is H 115 (.inl ((.object "TerminalHouse$Window"), (8, .inr (.inr (.inr (.inr am_q115))))))) (h141 : am_is H 141 (.inr (9, [.ref 142, .int 0, .int 0, .int 0, .int 0, .int 0, .int 0, .int 0, .int 0, .int 0]))) (h143 : am_is H 143 (.inr (9, [.ref 144, .int 0, .int 0, .int 0, .int 0, .int 0, .int 0, .int 0, .int 0, .int 0]))) (h145 : am_is H 145 (.inr (9, [.ref 146, .int 0, .int 0, .int 0, .int 0, .int 0, .int 0, .int 0, .int 0, .int 0]))) (h147 : am_is H 147 (.inr (9, [.ref 148, .int 0, .int 0, .int 0, .int 0, .int 0, .int 0, .int 0, .int 0, .int 0]))) (h149 : am_is H 149 (.inr (9, [.ref 150, .int 0, .int 0, .int 0, .int 0, .int 0, .int 0, .int 0, .int 0, .int 0]))) (h151 : am_is H 151 (.inr (9, [.ref 152, .int 0, .int 0, .int 0, .int 0, .int 0, .int 0, .int 0, .int 0, .int 0]))) (h153 : am_is H 153 (.inr (9, [.ref 154, .int 0, .int 0, .int 0, .int 0, .int 0, .int 0, .int 0, .int 0, .int 0]))) (h155 : am_is H 155 (.inr (9, [.ref 156, .int 0, .int 0, .int 0, .int 0, .int 0, .int 0, .int 0, .int 0, .int 0]))) (c1 : ¬ x0 < 0) (c2 : ¬ 8 ≤ x0) (c3 : x0 = 6)  :
    am_E sL sx cs 98 0 [(0, .ref 0), (1, .int x0)] [] H (some (.null)) (fun H1 => (True) ∧ ∀ j : Nat, H1[j]? = H[j]?) := by
  refine ex_s (am_nb (m := 1) (pc1 := 1) (ls1 := [(0, .ref 0), (1, .int x0)]) (st1 := [.int x0]) (H1 := H) (k1 := 0) (n1 := 0) (by with_unfolding_all rfl)) ?_
  refine ex_s (st_if rfl) ?_
  refine ex_pc (if_neg c1) ?_
  refine ex_s (am_nb (m := 2) (pc1 := 7) (ls1 := [(0, .ref 0), (1, .int x0)]) (st1 := [.int 8, .int x0]) (H1 := H) (k1 := 0) (n1 := 0) (by with_unfolding_all rfl)) ?_
  refine ex_s (st_icmp rfl) ?_
  refine ex_pc (if_neg c2) ?_
  refine ex_s (am_nb (m := 1) (pc1 := 11) (ls1 := [(0, .ref 0), (1, .int x0)]) (st1 := [.ref 0]) (H1 := H) (k1 := 0) (n1 := 0) (by with_unfolding_all rfl)) ?_
  refine ex_s (st_get rfl h0 rfl) ?_
  refine ex_s (am_nb (m := 1) (pc1 := 15) (ls1 := [(0, .ref 0), (1, .int x0)]) (st1 := [.int x0, .ref 115]) (H1 := H) (k1 := 0) (n1 := 0) (by with_unfolding_all rfl)) ?_
  refine ex_s (st_aald rfl h115 (by rw [c3]; decide) rfl) ?_
  refine ex_s (am_nb (m := 0) (pc1 := 16) (ls1 := [(0, .ref 0), (1, .int x0)]) (st1 := [.ref 153]) (H1 := H) (k1 := 0) (n1 := 0) (by rw [c3]; with_unfolding_all rfl)) ?_
  refine ex_s (st_get rfl h153 rfl) ?_
  refine ex_s (am_nb (m := 2) (pc1 := 23) (ls1 := [(0, .ref 0), (1, .int x0)]) (st1 := [.null]) (H1 := H) (k1 := 0) (n1 := 0) (by with_unfolding_all rfl)) ?_
  exact ex_r (st_aret rfl rfl rfl rfl) ⟨trivial, fun j => rfl⟩

set_option maxRecDepth 100000 in
theorem fx_where_1_9 {sL : Nat} {sx : Nat → Int32} {cs : Nat → Nat → Option Int32} {H : am_H} {v0_13 : Int32} {x0 : Int32} (h0 : am_is H 0 (.inr (11, [.ref 1, .int 0, .ref 2, .int 0, .ref 3, .ref 93, .ref 97, .ref 115, .ref 116, .ref 129, .ref 123, .ref 127, .ref 128, .int v0_13, .null, .int 0]))) (h115 : am_is H 115 (.inl ((.object "TerminalHouse$Window"), (8, .inr (.inr (.inr (.inr am_q115))))))) (h141 : am_is H 141 (.inr (9, [.ref 142, .int 0, .int 0, .int 0, .int 0, .int 0, .int 0, .int 0, .int 0, .int 0]))) (h143 : am_is H 143 (.inr (9, [.ref 144, .int 0, .int 0, .int 0, .int 0, .int 0, .int 0, .int 0, .int 0, .int 0]))) (h145 : am_is H 145 (.inr (9, [.ref 146, .int 0, .int 0, .int 0, .int 0, .int 0, .int 0, .int 0, .int 0, .int 0]))) (h147 : am_is H 147 (.inr (9, [.ref 148, .int 0, .int 0, .int 0, .int 0, .int 0, .int 0, .int 0, .int 0, .int 0]))) (h149 : am_is H 149 (.inr (9, [.ref 150, .int 0, .int 0, .int 0, .int 0, .int 0, .int 0, .int 0, .int 0, .int 0]))) (h151 : am_is H 151 (.inr (9, [.ref 152, .int 0, .int 0, .int 0, .int 0, .int 0, .int 0, .int 0, .int 0, .int 0]))) (h153 : am_is H 153 (.inr (9, [.ref 154, .int 0, .int 0, .int 0, .int 0, .int 0, .int 0, .int 0, .int 0, .int 0]))) (h155 : am_is H 155 (.inr (9, [.ref 156, .int 0, .int 0, .int 0, .int 0, .int 0, .int 0, .int 0, .int 0, .int 0]))) (c1 : ¬ x0 < 0) (c2 : ¬ 8 ≤ x0) (c3 : x0 = 7)  :
    am_E sL sx cs 98 0 [(0, .ref 0), (1, .int x0)] [] H (some (.null)) (fun H1 => (True) ∧ ∀ j : Nat, H1[j]? = H[j]?) := by
  refine ex_s (am_nb (m := 1) (pc1 := 1) (ls1 := [(0, .ref 0), (1, .int x0)]) (st1 := [.int x0]) (H1 := H) (k1 := 0) (n1 := 0) (by with_unfolding_all rfl)) ?_
  refine ex_s (st_if rfl) ?_
  refine ex_pc (if_neg c1) ?_
  refine ex_s (am_nb (m := 2) (pc1 := 7) (ls1 := [(0, .ref 0), (1, .int x0)]) (st1 := [.int 8, .int x0]) (H1 := H) (k1 := 0) (n1 := 0) (by with_unfolding_all rfl)) ?_
  refine ex_s (st_icmp rfl) ?_
  refine ex_pc (if_neg c2) ?_
  refine ex_s (am_nb (m := 1) (pc1 := 11) (ls1 := [(0, .ref 0), (1, .int x0)]) (st1 := [.ref 0]) (H1 := H) (k1 := 0) (n1 := 0) (by with_unfolding_all rfl)) ?_
  refine ex_s (st_get rfl h0 rfl) ?_
  refine ex_s (am_nb (m := 1) (pc1 := 15) (ls1 := [(0, .ref 0), (1, .int x0)]) (st1 := [.int x0, .ref 115]) (H1 := H) (k1 := 0) (n1 := 0) (by with_unfolding_all rfl)) ?_
  refine ex_s (st_aald rfl h115 (by rw [c3]; decide) rfl) ?_
  refine ex_s (am_nb (m := 0) (pc1 := 16) (ls1 := [(0, .ref 0), (1, .int x0)]) (st1 := [.ref 155]) (H1 := H) (k1 := 0) (n1 := 0) (by rw [c3]; with_unfolding_all rfl)) ?_
  refine ex_s (st_get rfl h155 rfl) ?_
  refine ex_s (am_nb (m := 2) (pc1 := 23) (ls1 := [(0, .ref 0), (1, .int x0)]) (st1 := [.null]) (H1 := H) (k1 := 0) (n1 := 0) (by with_unfolding_all rfl)) ?_
  exact ex_r (st_aret rfl rfl rfl rfl) ⟨trivial, fun j => rfl⟩

set_option maxRecDepth 100000 in
theorem fx_where_0 {sL : Nat} {sx : Nat → Int32} {cs : Nat → Nat → Option Int32} {H : am_H} {v0_13 : Int32} {x0 : Int32} {x1 : Int32} (h0 : am_is H 0 (.inr (11, [.ref 1, .int 0, .ref 2, .int 0, .ref 3, .ref 93, .ref 97, .ref 115, .ref 116, .ref 129, .ref 123, .ref 127, .ref 128, .int v0_13, .null, .int 0]))) (h115 : am_is H 115 (.inl ((.object "TerminalHouse$Window"), (8, .inr (.inr (.inr (.inr am_q115))))))) (h141 : am_is H 141 (.inr (9, [.ref 142, .int 0, .int 0, .int 0, .int 0, .int 0, .int 0, .int 0, .int 0, .int 0]))) (h143 : am_is H 143 (.inr (9, [.ref 144, .int 0, .int 0, .int 0, .int 0, .int 0, .int 0, .int 0, .int 0, .int 0]))) (h145 : am_is H 145 (.inr (9, [.ref 146, .int 0, .int 0, .int 0, .int 0, .int 0, .int 0, .int 0, .int 0, .int 0]))) (h147 : am_is H 147 (.inr (9, [.ref 148, .int 0, .int 0, .int 0, .int 0, .int 0, .int 0, .int 0, .int 0, .int 0]))) (h149 : am_is H 149 (.inr (9, [.ref 150, .int 0, .int 0, .int 0, .int 0, .int 0, .int 0, .int 0, .int 0, .int 0]))) (h151 : am_is H 151 (.inr (9, [.ref 152, .int 0, .int 0, .int 0, .int 0, .int 0, .int 0, .int 0, .int 0, .int 0]))) (h153 : am_is H 153 (.inr (9, [.ref 154, .int 0, .int 0, .int 0, .int 0, .int 0, .int 0, .int 0, .int 0, .int 0]))) (h155 : am_is H 155 (.inr (9, [.ref 156, .int 0, .int 0, .int 0, .int 0, .int 0, .int 0, .int 0, .int 0, .int 0]))) (c1 : x0 < 0)  :
    am_E sL sx cs 121 0 [(0, .ref 0), (1, .int x0), (2, .int x1)] [] H (some (.int (-1))) (fun H1 => (True) ∧ ∀ j : Nat, H1[j]? = H[j]?) := by
  refine ex_s (am_nb (m := 2) (pc1 := 2) (ls1 := [(0, .ref 0), (1, .int x0), (2, .int x1)]) (st1 := [.int x0, .ref 0]) (H1 := H) (k1 := 0) (n1 := 0) (by with_unfolding_all rfl)) ?_
  refine ex_cv1 (as := [.int x0]) (rest := []) rfl rfl rfl rfl h0 rfl (by with_unfolding_all rfl) (by with_unfolding_all rfl) (fx_where_1_0 h0 h115 h141 h143 h145 h147 h149 h151 h153 h155 c1) ?_
  rintro H197 ⟨-, k197⟩
  refine ex_s (am_nb (m := 5) (pc1 := 19) (ls1 := [(3, .null), (0, .ref 0), (1, .int x0), (2, .int x1)]) (st1 := [.int (-1)]) (H1 := H197) (k1 := 0) (n1 := 0) (by with_unfolding_all rfl)) ?_
  exact ex_r (st_iret rfl rfl rfl) ⟨trivial, fun j => (k197 j)⟩

set_option maxRecDepth 100000 in
theorem fx_where_1 {sL : Nat} {sx : Nat → Int32} {cs : Nat → Nat → Option Int32} {H : am_H} {v0_13 : Int32} {x0 : Int32} {x1 : Int32} (h0 : am_is H 0 (.inr (11, [.ref 1, .int 0, .ref 2, .int 0, .ref 3, .ref 93, .ref 97, .ref 115, .ref 116, .ref 129, .ref 123, .ref 127, .ref 128, .int v0_13, .null, .int 0]))) (h115 : am_is H 115 (.inl ((.object "TerminalHouse$Window"), (8, .inr (.inr (.inr (.inr am_q115))))))) (h141 : am_is H 141 (.inr (9, [.ref 142, .int 0, .int 0, .int 0, .int 0, .int 0, .int 0, .int 0, .int 0, .int 0]))) (h143 : am_is H 143 (.inr (9, [.ref 144, .int 0, .int 0, .int 0, .int 0, .int 0, .int 0, .int 0, .int 0, .int 0]))) (h145 : am_is H 145 (.inr (9, [.ref 146, .int 0, .int 0, .int 0, .int 0, .int 0, .int 0, .int 0, .int 0, .int 0]))) (h147 : am_is H 147 (.inr (9, [.ref 148, .int 0, .int 0, .int 0, .int 0, .int 0, .int 0, .int 0, .int 0, .int 0]))) (h149 : am_is H 149 (.inr (9, [.ref 150, .int 0, .int 0, .int 0, .int 0, .int 0, .int 0, .int 0, .int 0, .int 0]))) (h151 : am_is H 151 (.inr (9, [.ref 152, .int 0, .int 0, .int 0, .int 0, .int 0, .int 0, .int 0, .int 0, .int 0]))) (h153 : am_is H 153 (.inr (9, [.ref 154, .int 0, .int 0, .int 0, .int 0, .int 0, .int 0, .int 0, .int 0, .int 0]))) (h155 : am_is H 155 (.inr (9, [.ref 156, .int 0, .int 0, .int 0, .int 0, .int 0, .int 0, .int 0, .int 0, .int 0]))) (c1 : ¬ x0 < 0) (c2 : 8 ≤ x0)  :
    am_E sL sx cs 121 0 [(0, .ref 0), (1, .int x0), (2, .int x1)] [] H (some (.int (-1))) (fun H1 => (True) ∧ ∀ j : Nat, H1[j]? = H[j]?) := by
  refine ex_s (am_nb (m := 2) (pc1 := 2) (ls1 := [(0, .ref 0), (1, .int x0), (2, .int x1)]) (st1 := [.int x0, .ref 0]) (H1 := H) (k1 := 0) (n1 := 0) (by with_unfolding_all rfl)) ?_
  refine ex_cv1 (as := [.int x0]) (rest := []) rfl rfl rfl rfl h0 rfl (by with_unfolding_all rfl) (by with_unfolding_all rfl) (fx_where_1_1 h0 h115 h141 h143 h145 h147 h149 h151 h153 h155 c1 c2) ?_
  rintro H198 ⟨-, k198⟩
  refine ex_s (am_nb (m := 5) (pc1 := 19) (ls1 := [(3, .null), (0, .ref 0), (1, .int x0), (2, .int x1)]) (st1 := [.int (-1)]) (H1 := H198) (k1 := 0) (n1 := 0) (by with_unfolding_all rfl)) ?_
  exact ex_r (st_iret rfl rfl rfl) ⟨trivial, fun j => (k198 j)⟩

set_option maxRecDepth 100000 in
theorem fx_where_2 {sL : Nat} {sx : Nat → Int32} {cs : Nat → Nat → Option Int32} {H : am_H} {v0_13 : Int32} {x0 : Int32} {x1 : Int32} (h0 : am_is H 0 (.inr (11, [.ref 1, .int 0, .ref 2, .int 0, .ref 3, .ref 93, .ref 97, .ref 115, .ref 116, .ref 129, .ref 123, .ref 127, .ref 128, .int v0_13, .null, .int 0]))) (h115 : am_is H 115 (.inl ((.object "TerminalHouse$Window"), (8, .inr (.inr (.inr (.inr am_q115))))))) (h141 : am_is H 141 (.inr (9, [.ref 142, .int 0, .int 0, .int 0, .int 0, .int 0, .int 0, .int 0, .int 0, .int 0]))) (h143 : am_is H 143 (.inr (9, [.ref 144, .int 0, .int 0, .int 0, .int 0, .int 0, .int 0, .int 0, .int 0, .int 0]))) (h145 : am_is H 145 (.inr (9, [.ref 146, .int 0, .int 0, .int 0, .int 0, .int 0, .int 0, .int 0, .int 0, .int 0]))) (h147 : am_is H 147 (.inr (9, [.ref 148, .int 0, .int 0, .int 0, .int 0, .int 0, .int 0, .int 0, .int 0, .int 0]))) (h149 : am_is H 149 (.inr (9, [.ref 150, .int 0, .int 0, .int 0, .int 0, .int 0, .int 0, .int 0, .int 0, .int 0]))) (h151 : am_is H 151 (.inr (9, [.ref 152, .int 0, .int 0, .int 0, .int 0, .int 0, .int 0, .int 0, .int 0, .int 0]))) (h153 : am_is H 153 (.inr (9, [.ref 154, .int 0, .int 0, .int 0, .int 0, .int 0, .int 0, .int 0, .int 0, .int 0]))) (h155 : am_is H 155 (.inr (9, [.ref 156, .int 0, .int 0, .int 0, .int 0, .int 0, .int 0, .int 0, .int 0, .int 0]))) (c1 : ¬ x0 < 0) (c2 : ¬ 8 ≤ x0) (c3 : x0 = 0)  :
    am_E sL sx cs 121 0 [(0, .ref 0), (1, .int x0), (2, .int x1)] [] H (some (.int (-1))) (fun H1 => (True) ∧ ∀ j : Nat, H1[j]? = H[j]?) := by
  refine ex_s (am_nb (m := 2) (pc1 := 2) (ls1 := [(0, .ref 0), (1, .int x0), (2, .int x1)]) (st1 := [.int x0, .ref 0]) (H1 := H) (k1 := 0) (n1 := 0) (by with_unfolding_all rfl)) ?_
  refine ex_cv1 (as := [.int x0]) (rest := []) rfl rfl rfl rfl h0 rfl (by with_unfolding_all rfl) (by with_unfolding_all rfl) (fx_where_1_2 h0 h115 h141 h143 h145 h147 h149 h151 h153 h155 c1 c2 c3) ?_
  rintro H199 ⟨-, k199⟩
  refine ex_s (am_nb (m := 5) (pc1 := 19) (ls1 := [(3, .null), (0, .ref 0), (1, .int x0), (2, .int x1)]) (st1 := [.int (-1)]) (H1 := H199) (k1 := 0) (n1 := 0) (by with_unfolding_all rfl)) ?_
  exact ex_r (st_iret rfl rfl rfl) ⟨trivial, fun j => (k199 j)⟩

set_option maxRecDepth 100000 in
theorem fx_where_3 {sL : Nat} {sx : Nat → Int32} {cs : Nat → Nat → Option Int32} {H : am_H} {v0_13 : Int32} {x0 : Int32} {x1 : Int32} (h0 : am_is H 0 (.inr (11, [.ref 1, .int 0, .ref 2, .int 0, .ref 3, .ref 93, .ref 97, .ref 115, .ref 116, .ref 129, .ref 123, .ref 127, .ref 128, .int v0_13, .null, .int 0]))) (h115 : am_is H 115 (.inl ((.object "TerminalHouse$Window"), (8, .inr (.inr (.inr (.inr am_q115))))))) (h141 : am_is H 141 (.inr (9, [.ref 142, .int 0, .int 0, .int 0, .int 0, .int 0, .int 0, .int 0, .int 0, .int 0]))) (h143 : am_is H 143 (.inr (9, [.ref 144, .int 0, .int 0, .int 0, .int 0, .int 0, .int 0, .int 0, .int 0, .int 0]))) (h145 : am_is H 145 (.inr (9, [.ref 146, .int 0, .int 0, .int 0, .int 0, .int 0, .int 0, .int 0, .int 0, .int 0]))) (h147 : am_is H 147 (.inr (9, [.ref 148, .int 0, .int 0, .int 0, .int 0, .int 0, .int 0, .int 0, .int 0, .int 0]))) (h149 : am_is H 149 (.inr (9, [.ref 150, .int 0, .int 0, .int 0, .int 0, .int 0, .int 0, .int 0, .int 0, .int 0]))) (h151 : am_is H 151 (.inr (9, [.ref 152, .int 0, .int 0, .int 0, .int 0, .int 0, .int 0, .int 0, .int 0, .int 0]))) (h153 : am_is H 153 (.inr (9, [.ref 154, .int 0, .int 0, .int 0, .int 0, .int 0, .int 0, .int 0, .int 0, .int 0]))) (h155 : am_is H 155 (.inr (9, [.ref 156, .int 0, .int 0, .int 0, .int 0, .int 0, .int 0, .int 0, .int 0, .int 0]))) (c1 : ¬ x0 < 0) (c2 : ¬ 8 ≤ x0) (c3 : x0 = 1)  :
    am_E sL sx cs 121 0 [(0, .ref 0), (1, .int x0), (2, .int x1)] [] H (some (.int (-1))) (fun H1 => (True) ∧ ∀ j : Nat, H1[j]? = H[j]?) := by
  refine ex_s (am_nb (m := 2) (pc1 := 2) (ls1 := [(0, .ref 0), (1, .int x0), (2, .int x1)]) (st1 := [.int x0, .ref 0]) (H1 := H) (k1 := 0) (n1 := 0) (by with_unfolding_all rfl)) ?_
  refine ex_cv1 (as := [.int x0]) (rest := []) rfl rfl rfl rfl h0 rfl (by with_unfolding_all rfl) (by with_unfolding_all rfl) (fx_where_1_3 h0 h115 h141 h143 h145 h147 h149 h151 h153 h155 c1 c2 c3) ?_
  rintro H200 ⟨-, k200⟩
  refine ex_s (am_nb (m := 5) (pc1 := 19) (ls1 := [(3, .null), (0, .ref 0), (1, .int x0), (2, .int x1)]) (st1 := [.int (-1)]) (H1 := H200) (k1 := 0) (n1 := 0) (by with_unfolding_all rfl)) ?_
  exact ex_r (st_iret rfl rfl rfl) ⟨trivial, fun j => (k200 j)⟩

set_option maxRecDepth 100000 in
theorem fx_where_4 {sL : Nat} {sx : Nat → Int32} {cs : Nat → Nat → Option Int32} {H : am_H} {v0_13 : Int32} {x0 : Int32} {x1 : Int32} (h0 : am_is H 0 (.inr (11, [.ref 1, .int 0, .ref 2, .int 0, .ref 3, .ref 93, .ref 97, .ref 115, .ref 116, .ref 129, .ref 123, .ref 127, .ref 128, .int v0_13, .null, .int 0]))) (h115 : am_is H 115 (.inl ((.object "TerminalHouse$Window"), (8, .inr (.inr (.inr (.inr am_q115))))))) (h141 : am_is H 141 (.inr (9, [.ref 142, .int 0, .int 0, .int 0, .int 0, .int 0, .int 0, .int 0, .int 0, .int 0]))) (h143 : am_is H 143 (.inr (9, [.ref 144, .int 0, .int 0, .int 0, .int 0, .int 0, .int 0, .int 0, .int 0, .int 0]))) (h145 : am_is H 145 (.inr (9, [.ref 146, .int 0, .int 0, .int 0, .int 0, .int 0, .int 0, .int 0, .int 0, .int 0]))) (h147 : am_is H 147 (.inr (9, [.ref 148, .int 0, .int 0, .int 0, .int 0, .int 0, .int 0, .int 0, .int 0, .int 0]))) (h149 : am_is H 149 (.inr (9, [.ref 150, .int 0, .int 0, .int 0, .int 0, .int 0, .int 0, .int 0, .int 0, .int 0]))) (h151 : am_is H 151 (.inr (9, [.ref 152, .int 0, .int 0, .int 0, .int 0, .int 0, .int 0, .int 0, .int 0, .int 0]))) (h153 : am_is H 153 (.inr (9, [.ref 154, .int 0, .int 0, .int 0, .int 0, .int 0, .int 0, .int 0, .int 0, .int 0]))) (h155 : am_is H 155 (.inr (9, [.ref 156, .int 0, .int 0, .int 0, .int 0, .int 0, .int 0, .int 0, .int 0, .int 0]))) (c1 : ¬ x0 < 0) (c2 : ¬ 8 ≤ x0) (c3 : x0 = 2)  :
    am_E sL sx cs 121 0 [(0, .ref 0), (1, .int x0), (2, .int x1)] [] H (some (.int (-1))) (fun H1 => (True) ∧ ∀ j : Nat, H1[j]? = H[j]?) := by
  refine ex_s (am_nb (m := 2) (pc1 := 2) (ls1 := [(0, .ref 0), (1, .int x0), (2, .int x1)]) (st1 := [.int x0, .ref 0]) (H1 := H) (k1 := 0) (n1 := 0) (by with_unfolding_all rfl)) ?_
  refine ex_cv1 (as := [.int x0]) (rest := []) rfl rfl rfl rfl h0 rfl (by with_unfolding_all rfl) (by with_unfolding_all rfl) (fx_where_1_4 h0 h115 h141 h143 h145 h147 h149 h151 h153 h155 c1 c2 c3) ?_
  rintro H201 ⟨-, k201⟩
  refine ex_s (am_nb (m := 5) (pc1 := 19) (ls1 := [(3, .null), (0, .ref 0), (1, .int x0), (2, .int x1)]) (st1 := [.int (-1)]) (H1 := H201) (k1 := 0) (n1 := 0) (by with_unfolding_all rfl)) ?_
  exact ex_r (st_iret rfl rfl rfl) ⟨trivial, fun j => (k201 j)⟩

set_option maxRecDepth 100000 in
theorem fx_where_5 {sL : Nat} {sx : Nat → Int32} {cs : Nat → Nat → Option Int32} {H : am_H} {v0_13 : Int32} {x0 : Int32} {x1 : Int32} (h0 : am_is H 0 (.inr (11, [.ref 1, .int 0, .ref 2, .int 0, .ref 3, .ref 93, .ref 97, .ref 115, .ref 116, .ref 129, .ref 123, .ref 127, .ref 128, .int v0_13, .null, .int 0]))) (h115 : am_is H 115 (.inl ((.object "TerminalHouse$Window"), (8, .inr (.inr (.inr (.inr am_q115))))))) (h141 : am_is H 141 (.inr (9, [.ref 142, .int 0, .int 0, .int 0, .int 0, .int 0, .int 0, .int 0, .int 0, .int 0]))) (h143 : am_is H 143 (.inr (9, [.ref 144, .int 0, .int 0, .int 0, .int 0, .int 0, .int 0, .int 0, .int 0, .int 0]))) (h145 : am_is H 145 (.inr (9, [.ref 146, .int 0, .int 0, .int 0, .int 0, .int 0, .int 0, .int 0, .int 0, .int 0]))) (h147 : am_is H 147 (.inr (9, [.ref 148, .int 0, .int 0, .int 0, .int 0, .int 0, .int 0, .int 0, .int 0, .int 0]))) (h149 : am_is H 149 (.inr (9, [.ref 150, .int 0, .int 0, .int 0, .int 0, .int 0, .int 0, .int 0, .int 0, .int 0]))) (h151 : am_is H 151 (.inr (9, [.ref 152, .int 0, .int 0, .int 0, .int 0, .int 0, .int 0, .int 0, .int 0, .int 0]))) (h153 : am_is H 153 (.inr (9, [.ref 154, .int 0, .int 0, .int 0, .int 0, .int 0, .int 0, .int 0, .int 0, .int 0]))) (h155 : am_is H 155 (.inr (9, [.ref 156, .int 0, .int 0, .int 0, .int 0, .int 0, .int 0, .int 0, .int 0, .int 0]))) (c1 : ¬ x0 < 0) (c2 : ¬ 8 ≤ x0) (c3 : x0 = 3)  :
    am_E sL sx cs 121 0 [(0, .ref 0), (1, .int x0), (2, .int x1)] [] H (some (.int (-1))) (fun H1 => (True) ∧ ∀ j : Nat, H1[j]? = H[j]?) := by
  refine ex_s (am_nb (m := 2) (pc1 := 2) (ls1 := [(0, .ref 0), (1, .int x0), (2, .int x1)]) (st1 := [.int x0, .ref 0]) (H1 := H) (k1 := 0) (n1 := 0) (by with_unfolding_all rfl)) ?_
  refine ex_cv1 (as := [.int x0]) (rest := []) rfl rfl rfl rfl h0 rfl (by with_unfolding_all rfl) (by with_unfolding_all rfl) (fx_where_1_5 h0 h115 h141 h143 h145 h147 h149 h151 h153 h155 c1 c2 c3) ?_
  rintro H202 ⟨-, k202⟩
  refine ex_s (am_nb (m := 5) (pc1 := 19) (ls1 := [(3, .null), (0, .ref 0), (1, .int x0), (2, .int x1)]) (st1 := [.int (-1)]) (H1 := H202) (k1 := 0) (n1 := 0) (by with_unfolding_all rfl)) ?_
  exact ex_r (st_iret rfl rfl rfl) ⟨trivial, fun j => (k202 j)⟩

set_option maxRecDepth 100000 in
theorem fx_where_6 {sL : Nat} {sx : Nat → Int32} {cs : Nat → Nat → Option Int32} {H : am_H} {v0_13 : Int32} {x0 : Int32} {x1 : Int32} (h0 : am_is H 0 (.inr (11, [.ref 1, .int 0, .ref 2, .int 0, .ref 3, .ref 93, .ref 97, .ref 115, .ref 116, .ref 129, .ref 123, .ref 127, .ref 128, .int v0_13, .null, .int 0]))) (h115 : am_is H 115 (.inl ((.object "TerminalHouse$Window"), (8, .inr (.inr (.inr (.inr am_q115))))))) (h141 : am_is H 141 (.inr (9, [.ref 142, .int 0, .int 0, .int 0, .int 0, .int 0, .int 0, .int 0, .int 0, .int 0]))) (h143 : am_is H 143 (.inr (9, [.ref 144, .int 0, .int 0, .int 0, .int 0, .int 0, .int 0, .int 0, .int 0, .int 0]))) (h145 : am_is H 145 (.inr (9, [.ref 146, .int 0, .int 0, .int 0, .int 0, .int 0, .int 0, .int 0, .int 0, .int 0]))) (h147 : am_is H 147 (.inr (9, [.ref 148, .int 0, .int 0, .int 0, .int 0, .int 0, .int 0, .int 0, .int 0, .int 0]))) (h149 : am_is H 149 (.inr (9, [.ref 150, .int 0, .int 0, .int 0, .int 0, .int 0, .int 0, .int 0, .int 0, .int 0]))) (h151 : am_is H 151 (.inr (9, [.ref 152, .int 0, .int 0, .int 0, .int 0, .int 0, .int 0, .int 0, .int 0, .int 0]))) (h153 : am_is H 153 (.inr (9, [.ref 154, .int 0, .int 0, .int 0, .int 0, .int 0, .int 0, .int 0, .int 0, .int 0]))) (h155 : am_is H 155 (.inr (9, [.ref 156, .int 0, .int 0, .int 0, .int 0, .int 0, .int 0, .int 0, .int 0, .int 0]))) (c1 : ¬ x0 < 0) (c2 : ¬ 8 ≤ x0) (c3 : x0 = 4)  :
    am_E sL sx cs 121 0 [(0, .ref 0), (1, .int x0), (2, .int x1)] [] H (some (.int (-1))) (fun H1 => (True) ∧ ∀ j : Nat, H1[j]? = H[j]?) := by
  refine ex_s (am_nb (m := 2) (pc1 := 2) (ls1 := [(0, .ref 0), (1, .int x0), (2, .int x1)]) (st1 := [.int x0, .ref 0]) (H1 := H) (k1 := 0) (n1 := 0) (by with_unfolding_all rfl)) ?_
  refine ex_cv1 (as := [.int x0]) (rest := []) rfl rfl rfl rfl h0 rfl (by with_unfolding_all rfl) (by with_unfolding_all rfl) (fx_where_1_6 h0 h115 h141 h143 h145 h147 h149 h151 h153 h155 c1 c2 c3) ?_
  rintro H203 ⟨-, k203⟩
  refine ex_s (am_nb (m := 5) (pc1 := 19) (ls1 := [(3, .null), (0, .ref 0), (1, .int x0), (2, .int x1)]) (st1 := [.int (-1)]) (H1 := H203) (k1 := 0) (n1 := 0) (by with_unfolding_all rfl)) ?_
  exact ex_r (st_iret rfl rfl rfl) ⟨trivial, fun j => (k203 j)⟩

set_option maxRecDepth 100000 in
theorem fx_where_7 {sL : Nat} {sx : Nat → Int32} {cs : Nat → Nat → Option Int32} {H : am_H} {v0_13 : Int32} {x0 : Int32} {x1 : Int32} (h0 : am_is H 0 (.inr (11, [.ref 1, .int 0, .ref 2, .int 0, .ref 3, .ref 93, .ref 97, .ref 115, .ref 116, .ref 129, .ref 123, .ref 127, .ref 128, .int v0_13, .null, .int 0]))) (h115 : am_is H 115 (.inl ((.object "TerminalHouse$Window"), (8, .inr (.inr (.inr (.inr am_q115))))))) (h141 : am_is H 141 (.inr (9, [.ref 142, .int 0, .int 0, .int 0, .int 0, .int 0, .int 0, .int 0, .int 0, .int 0]))) (h143 : am_is H 143 (.inr (9, [.ref 144, .int 0, .int 0, .int 0, .int 0, .int 0, .int 0, .int 0, .int 0, .int 0]))) (h145 : am_is H 145 (.inr (9, [.ref 146, .int 0, .int 0, .int 0, .int 0, .int 0, .int 0, .int 0, .int 0, .int 0]))) (h147 : am_is H 147 (.inr (9, [.ref 148, .int 0, .int 0, .int 0, .int 0, .int 0, .int 0, .int 0, .int 0, .int 0]))) (h149 : am_is H 149 (.inr (9, [.ref 150, .int 0, .int 0, .int 0, .int 0, .int 0, .int 0, .int 0, .int 0, .int 0]))) (h151 : am_is H 151 (.inr (9, [.ref 152, .int 0, .int 0, .int 0, .int 0, .int 0, .int 0, .int 0, .int 0, .int 0]))) (h153 : am_is H 153 (.inr (9, [.ref 154, .int 0, .int 0, .int 0, .int 0, .int 0, .int 0, .int 0, .int 0, .int 0]))) (h155 : am_is H 155 (.inr (9, [.ref 156, .int 0, .int 0, .int 0, .int 0, .int 0, .int 0, .int 0, .int 0, .int 0]))) (c1 : ¬ x0 < 0) (c2 : ¬ 8 ≤ x0) (c3 : x0 = 5)  :
    am_E sL sx cs 121 0 [(0, .ref 0), (1, .int x0), (2, .int x1)] [] H (some (.int (-1))) (fun H1 => (True) ∧ ∀ j : Nat, H1[j]? = H[j]?) := by
  refine ex_s (am_nb (m := 2) (pc1 := 2) (ls1 := [(0, .ref 0), (1, .int x0), (2, .int x1)]) (st1 := [.int x0, .ref 0]) (H1 := H) (k1 := 0) (n1 := 0) (by with_unfolding_all rfl)) ?_
  refine ex_cv1 (as := [.int x0]) (rest := []) rfl rfl rfl rfl h0 rfl (by with_unfolding_all rfl) (by with_unfolding_all rfl) (fx_where_1_7 h0 h115 h141 h143 h145 h147 h149 h151 h153 h155 c1 c2 c3) ?_
  rintro H204 ⟨-, k204⟩
  refine ex_s (am_nb (m := 5) (pc1 := 19) (ls1 := [(3, .null), (0, .ref 0), (1, .int x0), (2, .int x1)]) (st1 := [.int (-1)]) (H1 := H204) (k1 := 0) (n1 := 0) (by with_unfolding_all rfl)) ?_
  exact ex_r (st_iret rfl rfl rfl) ⟨trivial, fun j => (k204 j)⟩

set_option maxRecDepth 100000 in
theorem fx_where_8 {sL : Nat} {sx : Nat → Int32} {cs : Nat → Nat → Option Int32} {H : am_H} {v0_13 : Int32} {x0 : Int32} {x1 : Int32} (h0 : am_is H 0 (.inr (11, [.ref 1, .int 0, .ref 2, .int 0, .ref 3, .ref 93, .ref 97, .ref 115, .ref 116, .ref 129, .ref 123, .ref 127, .ref 128, .int v0_13, .null, .int 0]))) (h115 : am_is H 115 (.inl ((.object "TerminalHouse$Window"), (8, .inr (.inr (.inr (.inr am_q115))))))) (h141 : am_is H 141 (.inr (9, [.ref 142, .int 0, .int 0, .int 0, .int 0, .int 0, .int 0, .int 0, .int 0, .int 0]))) (h143 : am_is H 143 (.inr (9, [.ref 144, .int 0, .int 0, .int 0, .int 0, .int 0, .int 0, .int 0, .int 0, .int 0]))) (h145 : am_is H 145 (.inr (9, [.ref 146, .int 0, .int 0, .int 0, .int 0, .int 0, .int 0, .int 0, .int 0, .int 0]))) (h147 : am_is H 147 (.inr (9, [.ref 148, .int 0, .int 0, .int 0, .int 0, .int 0, .int 0, .int 0, .int 0, .int 0]))) (h149 : am_is H 149 (.inr (9, [.ref 150, .int 0, .int 0, .int 0, .int 0, .int 0, .int 0, .int 0, .int 0, .int 0]))) (h151 : am_is H 151 (.inr (9, [.ref 152, .int 0, .int 0, .int 0, .int 0, .int 0, .int 0, .int 0, .int 0, .int 0]))) (h153 : am_is H 153 (.inr (9, [.ref 154, .int 0, .int 0, .int 0, .int 0, .int 0, .int 0, .int 0, .int 0, .int 0]))) (h155 : am_is H 155 (.inr (9, [.ref 156, .int 0, .int 0, .int 0, .int 0, .int 0, .int 0, .int 0, .int 0, .int 0]))) (c1 : ¬ x0 < 0) (c2 : ¬ 8 ≤ x0) (c3 : x0 = 6)  :
    am_E sL sx cs 121 0 [(0, .ref 0), (1, .int x0), (2, .int x1)] [] H (some (.int (-1))) (fun H1 => (True) ∧ ∀ j : Nat, H1[j]? = H[j]?) := by
  refine ex_s (am_nb (m := 2) (pc1 := 2) (ls1 := [(0, .ref 0), (1, .int x0), (2, .int x1)]) (st1 := [.int x0, .ref 0]) (H1 := H) (k1 := 0) (n1 := 0) (by with_unfolding_all rfl)) ?_
  refine ex_cv1 (as := [.int x0]) (rest := []) rfl rfl rfl rfl h0 rfl (by with_unfolding_all rfl) (by with_unfolding_all rfl) (fx_where_1_8 h0 h115 h141 h143 h145 h147 h149 h151 h153 h155 c1 c2 c3) ?_
  rintro H205 ⟨-, k205⟩
  refine ex_s (am_nb (m := 5) (pc1 := 19) (ls1 := [(3, .null), (0, .ref 0), (1, .int x0), (2, .int x1)]) (st1 := [.int (-1)]) (H1 := H205) (k1 := 0) (n1 := 0) (by with_unfolding_all rfl)) ?_
  exact ex_r (st_iret rfl rfl rfl) ⟨trivial, fun j => (k205 j)⟩

set_option maxRecDepth 100000 in
theorem fx_where_9 {sL : Nat} {sx : Nat → Int32} {cs : Nat → Nat → Option Int32} {H : am_H} {v0_13 : Int32} {x0 : Int32} {x1 : Int32} (h0 : am_is H 0 (.inr (11, [.ref 1, .int 0, .ref 2, .int 0, .ref 3, .ref 93, .ref 97, .ref 115, .ref 116, .ref 129, .ref 123, .ref 127, .ref 128, .int v0_13, .null, .int 0]))) (h115 : am_is H 115 (.inl ((.object "TerminalHouse$Window"), (8, .inr (.inr (.inr (.inr am_q115))))))) (h141 : am_is H 141 (.inr (9, [.ref 142, .int 0, .int 0, .int 0, .int 0, .int 0, .int 0, .int 0, .int 0, .int 0]))) (h143 : am_is H 143 (.inr (9, [.ref 144, .int 0, .int 0, .int 0, .int 0, .int 0, .int 0, .int 0, .int 0, .int 0]))) (h145 : am_is H 145 (.inr (9, [.ref 146, .int 0, .int 0, .int 0, .int 0, .int 0, .int 0, .int 0, .int 0, .int 0]))) (h147 : am_is H 147 (.inr (9, [.ref 148, .int 0, .int 0, .int 0, .int 0, .int 0, .int 0, .int 0, .int 0, .int 0]))) (h149 : am_is H 149 (.inr (9, [.ref 150, .int 0, .int 0, .int 0, .int 0, .int 0, .int 0, .int 0, .int 0, .int 0]))) (h151 : am_is H 151 (.inr (9, [.ref 152, .int 0, .int 0, .int 0, .int 0, .int 0, .int 0, .int 0, .int 0, .int 0]))) (h153 : am_is H 153 (.inr (9, [.ref 154, .int 0, .int 0, .int 0, .int 0, .int 0, .int 0, .int 0, .int 0, .int 0]))) (h155 : am_is H 155 (.inr (9, [.ref 156, .int 0, .int 0, .int 0, .int 0, .int 0, .int 0, .int 0, .int 0, .int 0]))) (c1 : ¬ x0 < 0) (c2 : ¬ 8 ≤ x0) (c3 : x0 = 7)  :
    am_E sL sx cs 121 0 [(0, .ref 0), (1, .int x0), (2, .int x1)] [] H (some (.int (-1))) (fun H1 => (True) ∧ ∀ j : Nat, H1[j]? = H[j]?) := by
  refine ex_s (am_nb (m := 2) (pc1 := 2) (ls1 := [(0, .ref 0), (1, .int x0), (2, .int x1)]) (st1 := [.int x0, .ref 0]) (H1 := H) (k1 := 0) (n1 := 0) (by with_unfolding_all rfl)) ?_
  refine ex_cv1 (as := [.int x0]) (rest := []) rfl rfl rfl rfl h0 rfl (by with_unfolding_all rfl) (by with_unfolding_all rfl) (fx_where_1_9 h0 h115 h141 h143 h145 h147 h149 h151 h153 h155 c1 c2 c3) ?_
  rintro H206 ⟨-, k206⟩
  refine ex_s (am_nb (m := 5) (pc1 := 19) (ls1 := [(3, .null), (0, .ref 0), (1, .int x0), (2, .int x1)]) (st1 := [.int (-1)]) (H1 := H206) (k1 := 0) (n1 := 0) (by with_unfolding_all rfl)) ?_
  exact ex_r (st_iret rfl rfl rfl) ⟨trivial, fun j => (k206 j)⟩

set_option maxRecDepth 100000 in
theorem fx_show_1_0 {sL : Nat} {sx : Nat → Int32} {cs : Nat → Nat → Option Int32} {H : am_H} {v0_13 : Int32} {x0 : Int32} (h0 : am_is H 0 (.inr (11, [.ref 1, .int 0, .ref 2, .int 0, .ref 3, .ref 93, .ref 97, .ref 115, .ref 116, .ref 129, .ref 123, .ref 127, .ref 128, .int v0_13, .null, .int 0]))) (h115 : am_is H 115 (.inl ((.object "TerminalHouse$Window"), (8, .inr (.inr (.inr (.inr am_q115))))))) (h141 : am_is H 141 (.inr (9, [.ref 142, .int 0, .int 0, .int 0, .int 0, .int 0, .int 0, .int 0, .int 0, .int 0]))) (h143 : am_is H 143 (.inr (9, [.ref 144, .int 0, .int 0, .int 0, .int 0, .int 0, .int 0, .int 0, .int 0, .int 0]))) (h145 : am_is H 145 (.inr (9, [.ref 146, .int 0, .int 0, .int 0, .int 0, .int 0, .int 0, .int 0, .int 0, .int 0]))) (h147 : am_is H 147 (.inr (9, [.ref 148, .int 0, .int 0, .int 0, .int 0, .int 0, .int 0, .int 0, .int 0, .int 0]))) (h149 : am_is H 149 (.inr (9, [.ref 150, .int 0, .int 0, .int 0, .int 0, .int 0, .int 0, .int 0, .int 0, .int 0]))) (h151 : am_is H 151 (.inr (9, [.ref 152, .int 0, .int 0, .int 0, .int 0, .int 0, .int 0, .int 0, .int 0, .int 0]))) (h153 : am_is H 153 (.inr (9, [.ref 154, .int 0, .int 0, .int 0, .int 0, .int 0, .int 0, .int 0, .int 0, .int 0]))) (h155 : am_is H 155 (.inr (9, [.ref 156, .int 0, .int 0, .int 0, .int 0, .int 0, .int 0, .int 0, .int 0, .int 0]))) (c1 : x0 < 0)  :
    am_E sL sx cs 98 0 [(0, .ref 0), (1, .int x0)] [] H (some (.null)) (fun H1 => (True) ∧ ∀ j : Nat, H1[j]? = H[j]?) := by
  refine ex_s (am_nb (m := 1) (pc1 := 1) (ls1 := [(0, .ref 0), (1, .int x0)]) (st1 := [.int x0]) (H1 := H) (k1 := 0) (n1 := 0) (by with_unfolding_all rfl)) ?_
  refine ex_s (st_if rfl) ?_
  refine ex_pc (if_pos c1) ?_
  refine ex_s (am_nb (m := 1) (pc1 := 23) (ls1 := [(0, .ref 0), (1, .int x0)]) (st1 := [.null]) (H1 := H) (k1 := 0) (n1 := 0) (by with_unfolding_all rfl)) ?_
  exact ex_r (st_aret rfl rfl rfl rfl) ⟨trivial, fun j => rfl⟩

set_option maxRecDepth 100000 in
theorem fx_show_1_1 {sL : Nat} {sx : Nat → Int32} {cs : Nat → Nat → Option Int32} {H : am_H} {v0_13 : Int32} {x0 : Int32} (h0 : am_is H 0 (.inr (11, [.ref 1, .int 0, .ref 2, .int 0, .ref 3, .ref 93, .ref 97, .ref 115, .ref 116, .ref 129, .ref 123, .ref 127, .ref 128, .int v0_13, .null, .int 0]))) (h115 : am_is H 115 (.inl ((.object "TerminalHouse$Window"), (8, .inr (.inr (.inr (.inr am_q115))))))) (h141 : am_is H 141 (.inr (9, [.ref 142, .int 0, .int 0, .int 0, .int 0, .int 0, .int 0, .int 0, .int 0, .int 0]))) (h143 : am_is H 143 (.inr (9, [.ref 144, .int 0, .int 0, .int 0, .int 0, .int 0, .int 0, .int 0, .int 0, .int 0]))) (h145 : am_is H 145 (.inr (9, [.ref 146, .int 0, .int 0, .int 0, .int 0, .int 0, .int 0, .int 0, .int 0, .int 0]))) (h147 : am_is H 147 (.inr (9, [.ref 148, .int 0, .int 0, .int 0, .int 0, .int 0, .int 0, .int 0, .int 0, .int 0]))) (h149 : am_is H 149 (.inr (9, [.ref 150, .int 0, .int 0, .int 0, .int 0, .int 0, .int 0, .int 0, .int 0, .int 0]))) (h151 : am_is H 151 (.inr (9, [.ref 152, .int 0, .int 0, .int 0, .int 0, .int 0, .int 0, .int 0, .int 0, .int 0]))) (h153 : am_is H 153 (.inr (9, [.ref 154, .int 0, .int 0, .int 0, .int 0, .int 0, .int 0, .int 0, .int 0, .int 0]))) (h155 : am_is H 155 (.inr (9, [.ref 156, .int 0, .int 0, .int 0, .int 0, .int 0, .int 0, .int 0, .int 0, .int 0]))) (c1 : ¬ x0 < 0) (c2 : 8 ≤ x0)  :
    am_E sL sx cs 98 0 [(0, .ref 0), (1, .int x0)] [] H (some (.null)) (fun H1 => (True) ∧ ∀ j : Nat, H1[j]? = H[j]?) := by
  refine ex_s (am_nb (m := 1) (pc1 := 1) (ls1 := [(0, .ref 0), (1, .int x0)]) (st1 := [.int x0]) (H1 := H) (k1 := 0) (n1 := 0) (by with_unfolding_all rfl)) ?_
  refine ex_s (st_if rfl) ?_
  refine ex_pc (if_neg c1) ?_
  refine ex_s (am_nb (m := 2) (pc1 := 7) (ls1 := [(0, .ref 0), (1, .int x0)]) (st1 := [.int 8, .int x0]) (H1 := H) (k1 := 0) (n1 := 0) (by with_unfolding_all rfl)) ?_
  refine ex_s (st_icmp rfl) ?_
  refine ex_pc (if_pos c2) ?_
  refine ex_s (am_nb (m := 1) (pc1 := 23) (ls1 := [(0, .ref 0), (1, .int x0)]) (st1 := [.null]) (H1 := H) (k1 := 0) (n1 := 0) (by with_unfolding_all rfl)) ?_
  exact ex_r (st_aret rfl rfl rfl rfl) ⟨trivial, fun j => rfl⟩

set_option maxRecDepth 100000 in
theorem fx_show_1_2 {sL : Nat} {sx : Nat → Int32} {cs : Nat → Nat → Option Int32} {H : am_H} {v0_13 : Int32} {x0 : Int32} (h0 : am_is H 0 (.inr (11, [.ref 1, .int 0, .ref 2, .int 0, .ref 3, .ref 93, .ref 97, .ref 115, .ref 116, .ref 129, .ref 123, .ref 127, .ref 128, .int v0_13, .null, .int 0]))) (h115 : am_is H 115 (.inl ((.object "TerminalHouse$Window"), (8, .inr (.inr (.inr (.inr am_q115))))))) (h141 : am_is H 141 (.inr (9, [.ref 142, .int 0, .int 0, .int 0, .int 0, .int 0, .int 0, .int 0, .int 0, .int 0]))) (h143 : am_is H 143 (.inr (9, [.ref 144, .int 0, .int 0, .int 0, .int 0, .int 0, .int 0, .int 0, .int 0, .int 0]))) (h145 : am_is H 145 (.inr (9, [.ref 146, .int 0, .int 0, .int 0, .int 0, .int 0, .int 0, .int 0, .int 0, .int 0]))) (h147 : am_is H 147 (.inr (9, [.ref 148, .int 0, .int 0, .int 0, .int 0, .int 0, .int 0, .int 0, .int 0, .int 0]))) (h149 : am_is H 149 (.inr (9, [.ref 150, .int 0, .int 0, .int 0, .int 0, .int 0, .int 0, .int 0, .int 0, .int 0]))) (h151 : am_is H 151 (.inr (9, [.ref 152, .int 0, .int 0, .int 0, .int 0, .int 0, .int 0, .int 0, .int 0, .int 0]))) (h153 : am_is H 153 (.inr (9, [.ref 154, .int 0, .int 0, .int 0, .int 0, .int 0, .int 0, .int 0, .int 0, .int 0]))) (h155 : am_is H 155 (.inr (9, [.ref 156, .int 0, .int 0, .int 0, .int 0, .int 0, .int 0, .int 0, .int 0, .int 0]))) (c1 : ¬ x0 < 0) (c2 : ¬ 8 ≤ x0) (c3 : x0 = 0)  :
    am_E sL sx cs 98 0 [(0, .ref 0), (1, .int x0)] [] H (some (.null)) (fun H1 => (True) ∧ ∀ j : Nat, H1[j]? = H[j]?) := by
  refine ex_s (am_nb (m := 1) (pc1 := 1) (ls1 := [(0, .ref 0), (1, .int x0)]) (st1 := [.int x0]) (H1 := H) (k1 := 0) (n1 := 0) (by with_unfolding_all rfl)) ?_
  refine ex_s (st_if rfl) ?_
  refine ex_pc (if_neg c1) ?_
  refine ex_s (am_nb (m := 2) (pc1 := 7) (ls1 := [(0, .ref 0), (1, .int x0)]) (st1 := [.int 8, .int x0]) (H1 := H) (k1 := 0) (n1 := 0) (by with_unfolding_all rfl)) ?_
  refine ex_s (st_icmp rfl) ?_
  refine ex_pc (if_neg c2) ?_
  refine ex_s (am_nb (m := 1) (pc1 := 11) (ls1 := [(0, .ref 0), (1, .int x0)]) (st1 := [.ref 0]) (H1 := H) (k1 := 0) (n1 := 0) (by with_unfolding_all rfl)) ?_
  refine ex_s (st_get rfl h0 rfl) ?_
  refine ex_s (am_nb (m := 1) (pc1 := 15) (ls1 := [(0, .ref 0), (1, .int x0)]) (st1 := [.int x0, .ref 115]) (H1 := H) (k1 := 0) (n1 := 0) (by with_unfolding_all rfl)) ?_
  refine ex_s (st_aald rfl h115 (by rw [c3]; decide) rfl) ?_
  refine ex_s (am_nb (m := 0) (pc1 := 16) (ls1 := [(0, .ref 0), (1, .int x0)]) (st1 := [.ref 141]) (H1 := H) (k1 := 0) (n1 := 0) (by rw [c3]; with_unfolding_all rfl)) ?_
  refine ex_s (st_get rfl h141 rfl) ?_
  refine ex_s (am_nb (m := 2) (pc1 := 23) (ls1 := [(0, .ref 0), (1, .int x0)]) (st1 := [.null]) (H1 := H) (k1 := 0) (n1 := 0) (by with_unfolding_all rfl)) ?_
  exact ex_r (st_aret rfl rfl rfl rfl) ⟨trivial, fun j => rfl⟩

set_option maxRecDepth 100000 in
theorem fx_show_1_3 {sL : Nat} {sx : Nat → Int32} {cs : Nat → Nat → Option Int32} {H : am_H} {v0_13 : Int32} {x0 : Int32} (h0 : am_is H 0 (.inr (11, [.ref 1, .int 0, .ref 2, .int 0, .ref 3, .ref 93, .ref 97, .ref 115, .ref 116, .ref 129, .ref 123, .ref 127, .ref 128, .int v0_13, .null, .int 0]))) (h115 : am_is H 115 (.inl ((.object "TerminalHouse$Window"), (8, .inr (.inr (.inr (.inr am_q115))))))) (h141 : am_is H 141 (.inr (9, [.ref 142, .int 0, .int 0, .int 0, .int 0, .int 0, .int 0, .int 0, .int 0, .int 0]))) (h143 : am_is H 143 (.inr (9, [.ref 144, .int 0, .int 0, .int 0, .int 0, .int 0, .int 0, .int 0, .int 0, .int 0]))) (h145 : am_is H 145 (.inr (9, [.ref 146, .int 0, .int 0, .int 0, .int 0, .int 0, .int 0, .int 0, .int 0, .int 0]))) (h147 : am_is H 147 (.inr (9, [.ref 148, .int 0, .int 0, .int 0, .int 0, .int 0, .int 0, .int 0, .int 0, .int 0]))) (h149 : am_is H 149 (.inr (9, [.ref 150, .int 0, .int 0, .int 0, .int 0, .int 0, .int 0, .int 0, .int 0, .int 0]))) (h151 : am_is H 151 (.inr (9, [.ref 152, .int 0, .int 0, .int 0, .int 0, .int 0, .int 0, .int 0, .int 0, .int 0]))) (h153 : am_is H 153 (.inr (9, [.ref 154, .int 0, .int 0, .int 0, .int 0, .int 0, .int 0, .int 0, .int 0, .int 0]))) (h155 : am_is H 155 (.inr (9, [.ref 156, .int 0, .int 0, .int 0, .int 0, .int 0, .int 0, .int 0, .int 0, .int 0]))) (c1 : ¬ x0 < 0) (c2 : ¬ 8 ≤ x0) (c3 : x0 = 1)  :
    am_E sL sx cs 98 0 [(0, .ref 0), (1, .int x0)] [] H (some (.null)) (fun H1 => (True) ∧ ∀ j : Nat, H1[j]? = H[j]?) := by
  refine ex_s (am_nb (m := 1) (pc1 := 1) (ls1 := [(0, .ref 0), (1, .int x0)]) (st1 := [.int x0]) (H1 := H) (k1 := 0) (n1 := 0) (by with_unfolding_all rfl)) ?_
  refine ex_s (st_if rfl) ?_
  refine ex_pc (if_neg c1) ?_
  refine ex_s (am_nb (m := 2) (pc1 := 7) (ls1 := [(0, .ref 0), (1, .int x0)]) (st1 := [.int 8, .int x0]) (H1 := H) (k1 := 0) (n1 := 0) (by with_unfolding_all rfl)) ?_
  refine ex_s (st_icmp rfl) ?_
  refine ex_pc (if_neg c2) ?_
  refine ex_s (am_nb (m := 1) (pc1 := 11) (ls1 := [(0, .ref 0), (1, .int x0)]) (st1 := [.ref 0]) (H1 := H) (k1 := 0) (n1 := 0) (by with_unfolding_all rfl)) ?_
  refine ex_s (st_get rfl h0 rfl) ?_
  refine ex_s (am_nb (m := 1) (pc1 := 15) (ls1 := [(0, .ref 0), (1, .int x0)]) (st1 := [.int x0, .ref 115]) (H1 := H) (k1 := 0) (n1 := 0) (by with_unfolding_all rfl)) ?_
  refine ex_s (st_aald rfl h115 (by rw [c3]; decide) rfl) ?_
  refine ex_s (am_nb (m := 0) (pc1 := 16) (ls1 := [(0, .ref 0), (1, .int x0)]) (st1 := [.ref 143]) (H1 := H) (k1 := 0) (n1 := 0) (by rw [c3]; with_unfolding_all rfl)) ?_
  refine ex_s (st_get rfl h143 rfl) ?_
  refine ex_s (am_nb (m := 2) (pc1 := 23) (ls1 := [(0, .ref 0), (1, .int x0)]) (st1 := [.null]) (H1 := H) (k1 := 0) (n1 := 0) (by with_unfolding_all rfl)) ?_
  exact ex_r (st_aret rfl rfl rfl rfl) ⟨trivial, fun j => rfl⟩

set_option maxRecDepth 100000 in
theorem fx_show_1_4 {sL : Nat} {sx : Nat → Int32} {cs : Nat → Nat → Option Int32} {H : am_H} {v0_13 : Int32} {x0 : Int32} (h0 : am_is H 0 (.inr (11, [.ref 1, .int 0, .ref 2, .int 0, .ref 3, .ref 93, .ref 97, .ref 115, .ref 116, .ref 129, .ref 123, .ref 127, .ref 128, .int v0_13, .null, .int 0]))) (h115 : am_is H 115 (.inl ((.object "TerminalHouse$Window"), (8, .inr (.inr (.inr (.inr am_q115))))))) (h141 : am_is H 141 (.inr (9, [.ref 142, .int 0, .int 0, .int 0, .int 0, .int 0, .int 0, .int 0, .int 0, .int 0]))) (h143 : am_is H 143 (.inr (9, [.ref 144, .int 0, .int 0, .int 0, .int 0, .int 0, .int 0, .int 0, .int 0, .int 0]))) (h145 : am_is H 145 (.inr (9, [.ref 146, .int 0, .int 0, .int 0, .int 0, .int 0, .int 0, .int 0, .int 0, .int 0]))) (h147 : am_is H 147 (.inr (9, [.ref 148, .int 0, .int 0, .int 0, .int 0, .int 0, .int 0, .int 0, .int 0, .int 0]))) (h149 : am_is H 149 (.inr (9, [.ref 150, .int 0, .int 0, .int 0, .int 0, .int 0, .int 0, .int 0, .int 0, .int 0]))) (h151 : am_is H 151 (.inr (9, [.ref 152, .int 0, .int 0, .int 0, .int 0, .int 0, .int 0, .int 0, .int 0, .int 0]))) (h153 : am_is H 153 (.inr (9, [.ref 154, .int 0, .int 0, .int 0, .int 0, .int 0, .int 0, .int 0, .int 0, .int 0]))) (h155 : am_is H 155 (.inr (9, [.ref 156, .int 0, .int 0, .int 0, .int 0, .int 0, .int 0, .int 0, .int 0, .int 0]))) (c1 : ¬ x0 < 0) (c2 : ¬ 8 ≤ x0) (c3 : x0 = 2)  :
    am_E sL sx cs 98 0 [(0, .ref 0), (1, .int x0)] [] H (some (.null)) (fun H1 => (True) ∧ ∀ j : Nat, H1[j]? = H[j]?) := by
  refine ex_s (am_nb (m := 1) (pc1 := 1) (ls1 := [(0, .ref 0), (1, .int x0)]) (st1 := [.int x0]) (H1 := H) (k1 := 0) (n1 := 0) (by with_unfolding_all rfl)) ?_
  refine ex_s (st_if rfl) ?_
  refine ex_pc (if_neg c1) ?_
  refine ex_s (am_nb (m := 2) (pc1 := 7) (ls1 := [(0, .ref 0), (1, .int x0)]) (st1 := [.int 8, .int x0]) (H1 := H) (k1 := 0) (n1 := 0) (by with_unfolding_all rfl)) ?_
  refine ex_s (st_icmp rfl) ?_
  refine ex_pc (if_neg c2) ?_
  refine ex_s (am_nb (m := 1) (pc1 := 11) (ls1 := [(0, .ref 0), (1, .int x0)]) (st1 := [.ref 0]) (H1 := H) (k1 := 0) (n1 := 0) (by with_unfolding_all rfl)) ?_
  refine ex_s (st_get rfl h0 rfl) ?_
  refine ex_s (am_nb (m := 1) (pc1 := 15) (ls1 := [(0, .ref 0), (1, .int x0)]) (st1 := [.int x0, .ref 115]) (H1 := H) (k1 := 0) (n1 := 0) (by with_unfolding_all rfl)) ?_
  refine ex_s (st_aald rfl h115 (by rw [c3]; decide) rfl) ?_
  refine ex_s (am_nb (m := 0) (pc1 := 16) (ls1 := [(0, .ref 0), (1, .int x0)]) (st1 := [.ref 145]) (H1 := H) (k1 := 0) (n1 := 0) (by rw [c3]; with_unfolding_all rfl)) ?_
  refine ex_s (st_get rfl h145 rfl) ?_
  refine ex_s (am_nb (m := 2) (pc1 := 23) (ls1 := [(0, .ref 0), (1, .int x0)]) (st1 := [.null]) (H1 := H) (k1 := 0) (n1 := 0) (by with_unfolding_all rfl)) ?_
  exact ex_r (st_aret rfl rfl rfl rfl) ⟨trivial, fun j => rfl⟩

set_option maxRecDepth 100000 in
theorem fx_show_1_5 {sL : Nat} {sx : Nat → Int32} {cs : Nat → Nat → Option Int32} {H : am_H} {v0_13 : Int32} {x0 : Int32} (h0 : am_is H 0 (.inr (11, [.ref 1, .int 0, .ref 2, .int 0, .ref 3, .ref 93, .ref 97, .ref 115, .ref 116, .ref 129, .ref 123, .ref 127, .ref 128, .int v0_13, .null, .int 0]))) (h115 : am_is H 115 (.inl ((.object "TerminalHouse$Window"), (8, .inr (.inr (.inr (.inr am_q115))))))) (h141 : am_is H 141 (.inr (9, [.ref 142, .int 0, .int 0, .int 0, .int 0, .int 0, .int 0, .int 0, .int 0, .int 0]))) (h143 : am_is H 143 (.inr (9, [.ref 144, .int 0, .int 0, .int 0, .int 0, .int 0, .int 0, .int 0, .int 0, .int 0]))) (h145 : am_is H 145 (.inr (9, [.ref 146, .int 0, .int 0, .int 0, .int 0, .int 0, .int 0, .int 0, .int 0, .int 0]))) (h147 : am_is H 147 (.inr (9, [.ref 148, .int 0, .int 0, .int 0, .int 0, .int 0, .int 0, .int 0, .int 0, .int 0]))) (h149 : am_is H 149 (.inr (9, [.ref 150, .int 0, .int 0, .int 0, .int 0, .int 0, .int 0, .int 0, .int 0, .int 0]))) (h151 : am_is H 151 (.inr (9, [.ref 152, .int 0, .int 0, .int 0, .int 0, .int 0, .int 0, .int 0, .int 0, .int 0]))) (h153 : am_is H 153 (.inr (9, [.ref 154, .int 0, .int 0, .int 0, .int 0, .int 0, .int 0, .int 0, .int 0, .int 0]))) (h155 : am_is H 155 (.inr (9, [.ref 156, .int 0, .int 0, .int 0, .int 0, .int 0, .int 0, .int 0, .int 0, .int 0]))) (c1 : ¬ x0 < 0) (c2 : ¬ 8 ≤ x0) (c3 : x0 = 3)  :
    am_E sL sx cs 98 0 [(0, .ref 0), (1, .int x0)] [] H (some (.null)) (fun H1 => (True) ∧ ∀ j : Nat, H1[j]? = H[j]?) := by
  refine ex_s (am_nb (m := 1) (pc1 := 1) (ls1 := [(0, .ref 0), (1, .int x0)]) (st1 := [.int x0]) (H1 := H) (k1 := 0) (n1 := 0) (by with_unfolding_all rfl)) ?_
  refine ex_s (st_if rfl) ?_
  refine ex_pc (if_neg c1) ?_
  refine ex_s (am_nb (m := 2) (pc1 := 7) (ls1 := [(0, .ref 0), (1, .int x0)]) (st1 := [.int 8, .int x0]) (H1 := H) (k1 := 0) (n1 := 0) (by with_unfolding_all rfl)) ?_
  refine ex_s (st_icmp rfl) ?_
  refine ex_pc (if_neg c2) ?_
  refine ex_s (am_nb (m := 1) (pc1 := 11) (ls1 := [(0, .ref 0), (1, .int x0)]) (st1 := [.ref 0]) (H1 := H) (k1 := 0) (n1 := 0) (by with_unfolding_all rfl)) ?_
  refine ex_s (st_get rfl h0 rfl) ?_
  refine ex_s (am_nb (m := 1) (pc1 := 15) (ls1 := [(0, .ref 0), (1, .int x0)]) (st1 := [.int x0, .ref 115]) (H1 := H) (k1 := 0) (n1 := 0) (by with_unfolding_all rfl)) ?_
  refine ex_s (st_aald rfl h115 (by rw [c3]; decide) rfl) ?_
  refine ex_s (am_nb (m := 0) (pc1 := 16) (ls1 := [(0, .ref 0), (1, .int x0)]) (st1 := [.ref 147]) (H1 := H) (k1 := 0) (n1 := 0) (by rw [c3]; with_unfolding_all rfl)) ?_
  refine ex_s (st_get rfl h147 rfl) ?_
  refine ex_s (am_nb (m := 2) (pc1 := 23) (ls1 := [(0, .ref 0), (1, .int x0)]) (st1 := [.null]) (H1 := H) (k1 := 0) (n1 := 0) (by with_unfolding_all rfl)) ?_
  exact ex_r (st_aret rfl rfl rfl rfl) ⟨trivial, fun j => rfl⟩

set_option maxRecDepth 100000 in
theorem fx_show_1_6 {sL : Nat} {sx : Nat → Int32} {cs : Nat → Nat → Option Int32} {H : am_H} {v0_13 : Int32} {x0 : Int32} (h0 : am_is H 0 (.inr (11, [.ref 1, .int 0, .ref 2, .int 0, .ref 3, .ref 93, .ref 97, .ref 115, .ref 116, .ref 129, .ref 123, .ref 127, .ref 128, .int v0_13, .null, .int 0]))) (h115 : am_is H 115 (.inl ((.object "TerminalHouse$Window"), (8, .inr (.inr (.inr (.inr am_q115))))))) (h141 : am_is H 141 (.inr (9, [.ref 142, .int 0, .int 0, .int 0, .int 0, .int 0, .int 0, .int 0, .int 0, .int 0]))) (h143 : am_is H 143 (.inr (9, [.ref 144, .int 0, .int 0, .int 0, .int 0, .int 0, .int 0, .int 0, .int 0, .int 0]))) (h145 : am_is H 145 (.inr (9, [.ref 146, .int 0, .int 0, .int 0, .int 0, .int 0, .int 0, .int 0, .int 0, .int 0]))) (h147 : am_is H 147 (.inr (9, [.ref 148, .int 0, .int 0, .int 0, .int 0, .int 0, .int 0, .int 0, .int 0, .int 0]))) (h149 : am_is H 149 (.inr (9, [.ref 150, .int 0, .int 0, .int 0, .int 0, .int 0, .int 0, .int 0, .int 0, .int 0]))) (h151 : am_is H 151 (.inr (9, [.ref 152, .int 0, .int 0, .int 0, .int 0, .int 0, .int 0, .int 0, .int 0, .int 0]))) (h153 : am_is H 153 (.inr (9, [.ref 154, .int 0, .int 0, .int 0, .int 0, .int 0, .int 0, .int 0, .int 0, .int 0]))) (h155 : am_is H 155 (.inr (9, [.ref 156, .int 0, .int 0, .int 0, .int 0, .int 0, .int 0, .int 0, .int 0, .int 0]))) (c1 : ¬ x0 < 0) (c2 : ¬ 8 ≤ x0) (c3 : x0 = 4)  :
    am_E sL sx cs 98 0 [(0, .ref 0), (1, .int x0)] [] H (some (.null)) (fun H1 => (True) ∧ ∀ j : Nat, H1[j]? = H[j]?) := by
  refine ex_s (am_nb (m := 1) (pc1 := 1) (ls1 := [(0, .ref 0), (1, .int x0)]) (st1 := [.int x0]) (H1 := H) (k1 := 0) (n1 := 0) (by with_unfolding_all rfl)) ?_
  refine ex_s (st_if rfl) ?_
  refine ex_pc (if_neg c1) ?_
  refine ex_s (am_nb (m := 2) (pc1 := 7) (ls1 := [(0, .ref 0), (1, .int x0)]) (st1 := [.int 8, .int x0]) (H1 := H) (k1 := 0) (n1 := 0) (by with_unfolding_all rfl)) ?_
  refine ex_s (st_icmp rfl) ?_
  refine ex_pc (if_neg c2) ?_
  refine ex_s (am_nb (m := 1) (pc1 := 11) (ls1 := [(0, .ref 0), (1, .int x0)]) (st1 := [.ref 0]) (H1 := H) (k1 := 0) (n1 := 0) (by with_unfolding_all rfl)) ?_
  refine ex_s (st_get rfl h0 rfl) ?_
  refine ex_s (am_nb (m := 1) (pc1 := 15) (ls1 := [(0, .ref 0), (1, .int x0)]) (st1 := [.int x0, .ref 115]) (H1 := H) (k1 := 0) (n1 := 0) (by with_unfolding_all rfl)) ?_
  refine ex_s (st_aald rfl h115 (by rw [c3]; decide) rfl) ?_
  refine ex_s (am_nb (m := 0) (pc1 := 16) (ls1 := [(0, .ref 0), (1, .int x0)]) (st1 := [.ref 149]) (H1 := H) (k1 := 0) (n1 := 0) (by rw [c3]; with_unfolding_all rfl)) ?_
  refine ex_s (st_get rfl h149 rfl) ?_
  refine ex_s (am_nb (m := 2) (pc1 := 23) (ls1 := [(0, .ref 0), (1, .int x0)]) (st1 := [.null]) (H1 := H) (k1 := 0) (n1 := 0) (by with_unfolding_all rfl)) ?_
  exact ex_r (st_aret rfl rfl rfl rfl) ⟨trivial, fun j => rfl⟩

set_option maxRecDepth 100000 in
theorem fx_show_1_7 {sL : Nat} {sx : Nat → Int32} {cs : Nat → Nat → Option Int32} {H : am_H} {v0_13 : Int32} {x0 : Int32} (h0 : am_is H 0 (.inr (11, [.ref 1, .int 0, .ref 2, .int 0, .ref 3, .ref 93, .ref 97, .ref 115, .ref 116, .ref 129, .ref 123, .ref 127, .ref 128, .int v0_13, .null, .int 0]))) (h115 : am_is H 115 (.inl ((.object "TerminalHouse$Window"), (8, .inr (.inr (.inr (.inr am_q115))))))) (h141 : am_is H 141 (.inr (9, [.ref 142, .int 0, .int 0, .int 0, .int 0, .int 0, .int 0, .int 0, .int 0, .int 0]))) (h143 : am_is H 143 (.inr (9, [.ref 144, .int 0, .int 0, .int 0, .int 0, .int 0, .int 0, .int 0, .int 0, .int 0]))) (h145 : am_is H 145 (.inr (9, [.ref 146, .int 0, .int 0, .int 0, .int 0, .int 0, .int 0, .int 0, .int 0, .int 0]))) (h147 : am_is H 147 (.inr (9, [.ref 148, .int 0, .int 0, .int 0, .int 0, .int 0, .int 0, .int 0, .int 0, .int 0]))) (h149 : am_is H 149 (.inr (9, [.ref 150, .int 0, .int 0, .int 0, .int 0, .int 0, .int 0, .int 0, .int 0, .int 0]))) (h151 : am_is H 151 (.inr (9, [.ref 152, .int 0, .int 0, .int 0, .int 0, .int 0, .int 0, .int 0, .int 0, .int 0]))) (h153 : am_is H 153 (.inr (9, [.ref 154, .int 0, .int 0, .int 0, .int 0, .int 0, .int 0, .int 0, .int 0, .int 0]))) (h155 : am_is H 155 (.inr (9, [.ref 156, .int 0, .int 0, .int 0, .int 0, .int 0, .int 0, .int 0, .int 0, .int 0]))) (c1 : ¬ x0 < 0) (c2 : ¬ 8 ≤ x0) (c3 : x0 = 5)  :
    am_E sL sx cs 98 0 [(0, .ref 0), (1, .int x0)] [] H (some (.null)) (fun H1 => (True) ∧ ∀ j : Nat, H1[j]? = H[j]?) := by
  refine ex_s (am_nb (m := 1) (pc1 := 1) (ls1 := [(0, .ref 0), (1, .int x0)]) (st1 := [.int x0]) (H1 := H) (k1 := 0) (n1 := 0) (by with_unfolding_all rfl)) ?_
  refine ex_s (st_if rfl) ?_
  refine ex_pc (if_neg c1) ?_
  refine ex_s (am_nb (m := 2) (pc1 := 7) (ls1 := [(0, .ref 0), (1, .int x0)]) (st1 := [.int 8, .int x0]) (H1 := H) (k1 := 0) (n1 := 0) (by with_unfolding_all rfl)) ?_
  refine ex_s (st_icmp rfl) ?_
  refine ex_pc (if_neg c2) ?_
  refine ex_s (am_nb (m := 1) (pc1 := 11) (ls1 := [(0, .ref 0), (1, .int x0)]) (st1 := [.ref 0]) (H1 := H) (k1 := 0) (n1 := 0) (by with_unfolding_all rfl)) ?_
  refine ex_s (st_get rfl h0 rfl) ?_
  refine ex_s (am_nb (m := 1) (pc1 := 15) (ls1 := [(0, .ref 0), (1, .int x0)]) (st1 := [.int x0, .ref 115]) (H1 := H) (k1 := 0) (n1 := 0) (by with_unfolding_all rfl)) ?_
  refine ex_s (st_aald rfl h115 (by rw [c3]; decide) rfl) ?_
  refine ex_s (am_nb (m := 0) (pc1 := 16) (ls1 := [(0, .ref 0), (1, .int x0)]) (st1 := [.ref 151]) (H1 := H) (k1 := 0) (n1 := 0) (by rw [c3]; with_unfolding_all rfl)) ?_
  refine ex_s (st_get rfl h151 rfl) ?_
  refine ex_s (am_nb (m := 2) (pc1 := 23) (ls1 := [(0, .ref 0), (1, .int x0)]) (st1 := [.null]) (H1 := H) (k1 := 0) (n1 := 0) (by with_unfolding_all rfl)) ?_
  exact ex_r (st_aret rfl rfl rfl rfl) ⟨trivial, fun j => rfl⟩

set_option maxRecDepth 100000 in
theorem fx_show_1_8 {sL : Nat} {sx : Nat → Int32} {cs : Nat → Nat → Option Int32} {H : am_H} {v0_13 : Int32} {x0 : Int32} (h0 : am_is H 0 (.inr (11, [.ref 1, .int 0, .ref 2, .int 0, .ref 3, .ref 93, .ref 97, .ref 115, .ref 116, .ref 129, .ref 123, .ref 127, .ref 128, .int v0_13, .null, .int 0]))) (h115 : am_is H 115 (.inl ((.object "TerminalHouse$Window"), (8, .inr (.inr (.inr (.inr am_q115))))))) (h141 : am_is H 141 (.inr (9, [.ref 142, .int 0, .int 0, .int 0, .int 0, .int 0, .int 0, .int 0, .int 0, .int 0]))) (h143 : am_is H 143 (.inr (9, [.ref 144, .int 0, .int 0, .int 0, .int 0, .int 0, .int 0, .int 0, .int 0, .int 0]))) (h145 : am_is H 145 (.inr (9, [.ref 146, .int 0, .int 0, .int 0, .int 0, .int 0, .int 0, .int 0, .int 0, .int 0]))) (h147 : am_is H 147 (.inr (9, [.ref 148, .int 0, .int 0, .int 0, .int 0, .int 0, .int 0, .int 0, .int 0, .int 0]))) (h149 : am_is H 149 (.inr (9, [.ref 150, .int 0, .int 0, .int 0, .int 0, .int 0, .int 0, .int 0, .int 0, .int 0]))) (h151 : am_is H 151 (.inr (9, [.ref 152, .int 0, .int 0, .int 0, .int 0, .int 0, .int 0, .int 0, .int 0, .int 0]))) (h153 : am_is H 153 (.inr (9, [.ref 154, .int 0, .int 0, .int 0, .int 0, .int 0, .int 0, .int 0, .int 0, .int 0]))) (h155 : am_is H 155 (.inr (9, [.ref 156, .int 0, .int 0, .int 0, .int 0, .int 0, .int 0, .int 0, .int 0, .int 0]))) (c1 : ¬ x0 < 0) (c2 : ¬ 8 ≤ x0) (c3 : x0 = 6)  :
    am_E sL sx cs 98 0 [(0, .ref 0), (1, .int x0)] [] H (some (.null)) (fun H1 => (True) ∧ ∀ j : Nat, H1[j]? = H[j]?) := by
  refine ex_s (am_nb (m := 1) (pc1 := 1) (ls1 := [(0, .ref 0), (1, .int x0)]) (st1 := [.int x0]) (H1 := H) (k1 := 0) (n1 := 0) (by with_unfolding_all rfl)) ?_
  refine ex_s (st_if rfl) ?_
  refine ex_pc (if_neg c1) ?_
  refine ex_s (am_nb (m := 2) (pc1 := 7) (ls1 := [(0, .ref 0), (1, .int x0)]) (st1 := [.int 8, .int x0]) (H1 := H) (k1 := 0) (n1 := 0) (by with_unfolding_all rfl)) ?_
  refine ex_s (st_icmp rfl) ?_
  refine ex_pc (if_neg c2) ?_
  refine ex_s (am_nb (m := 1) (pc1 := 11) (ls1 := [(0, .ref 0), (1, .int x0)]) (st1 := [.ref 0]) (H1 := H) (k1 := 0) (n1 := 0) (by with_unfolding_all rfl)) ?_
  refine ex_s (st_get rfl h0 rfl) ?_
  refine ex_s (am_nb (m := 1) (pc1 := 15) (ls1 := [(0, .ref 0), (1, .int x0)]) (st1 := [.int x0, .ref 115]) (H1 := H) (k1 := 0) (n1 := 0) (by with_unfolding_all rfl)) ?_
  refine ex_s (st_aald rfl h115 (by rw [c3]; decide) rfl) ?_
  refine ex_s (am_nb (m := 0) (pc1 := 16) (ls1 := [(0, .ref 0), (1, .int x0)]) (st1 := [.ref 153]) (H1 := H) (k1 := 0) (n1 := 0) (by rw [c3]; with_unfolding_all rfl)) ?_
  refine ex_s (st_get rfl h153 rfl) ?_
  refine ex_s (am_nb (m := 2) (pc1 := 23) (ls1 := [(0, .ref 0), (1, .int x0)]) (st1 := [.null]) (H1 := H) (k1 := 0) (n1 := 0) (by with_unfolding_all rfl)) ?_
  exact ex_r (st_aret rfl rfl rfl rfl) ⟨trivial, fun j => rfl⟩

set_option maxRecDepth 100000 in
theorem fx_show_1_9 {sL : Nat} {sx : Nat → Int32} {cs : Nat → Nat → Option Int32} {H : am_H} {v0_13 : Int32} {x0 : Int32} (h0 : am_is H 0 (.inr (11, [.ref 1, .int 0, .ref 2, .int 0, .ref 3, .ref 93, .ref 97, .ref 115, .ref 116, .ref 129, .ref 123, .ref 127, .ref 128, .int v0_13, .null, .int 0]))) (h115 : am_is H 115 (.inl ((.object "TerminalHouse$Window"), (8, .inr (.inr (.inr (.inr am_q115))))))) (h141 : am_is H 141 (.inr (9, [.ref 142, .int 0, .int 0, .int 0, .int 0, .int 0, .int 0, .int 0, .int 0, .int 0]))) (h143 : am_is H 143 (.inr (9, [.ref 144, .int 0, .int 0, .int 0, .int 0, .int 0, .int 0, .int 0, .int 0, .int 0]))) (h145 : am_is H 145 (.inr (9, [.ref 146, .int 0, .int 0, .int 0, .int 0, .int 0, .int 0, .int 0, .int 0, .int 0]))) (h147 : am_is H 147 (.inr (9, [.ref 148, .int 0, .int 0, .int 0, .int 0, .int 0, .int 0, .int 0, .int 0, .int 0]))) (h149 : am_is H 149 (.inr (9, [.ref 150, .int 0, .int 0, .int 0, .int 0, .int 0, .int 0, .int 0, .int 0, .int 0]))) (h151 : am_is H 151 (.inr (9, [.ref 152, .int 0, .int 0, .int 0, .int 0, .int 0, .int 0, .int 0, .int 0, .int 0]))) (h153 : am_is H 153 (.inr (9, [.ref 154, .int 0, .int 0, .int 0, .int 0, .int 0, .int 0, .int 0, .int 0, .int 0]))) (h155 : am_is H 155 (.inr (9, [.ref 156, .int 0, .int 0, .int 0, .int 0, .int 0, .int 0, .int 0, .int 0, .int 0]))) (c1 : ¬ x0 < 0) (c2 : ¬ 8 ≤ x0) (c3 : x0 = 7)  :
    am_E sL sx cs 98 0 [(0, .ref 0), (1, .int x0)] [] H (some (.null)) (fun H1 => (True) ∧ ∀ j : Nat, H1[j]? = H[j]?) := by
  refine ex_s (am_nb (m := 1) (pc1 := 1) (ls1 := [(0, .ref 0), (1, .int x0)]) (st1 := [.int x0]) (H1 := H) (k1 := 0) (n1 := 0) (by with_unfolding_all rfl)) ?_
  refine ex_s (st_if rfl) ?_
  refine ex_pc (if_neg c1) ?_
  refine ex_s (am_nb (m := 2) (pc1 := 7) (ls1 := [(0, .ref 0), (1, .int x0)]) (st1 := [.int 8, .int x0]) (H1 := H) (k1 := 0) (n1 := 0) (by with_unfolding_all rfl)) ?_
  refine ex_s (st_icmp rfl) ?_
  refine ex_pc (if_neg c2) ?_
  refine ex_s (am_nb (m := 1) (pc1 := 11) (ls1 := [(0, .ref 0), (1, .int x0)]) (st1 := [.ref 0]) (H1 := H) (k1 := 0) (n1 := 0) (by with_unfolding_all rfl)) ?_
  refine ex_s (st_get rfl h0 rfl) ?_
  refine ex_s (am_nb (m := 1) (pc1 := 15) (ls1 := [(0, .ref 0), (1, .int x0)]) (st1 := [.int x0, .ref 115]) (H1 := H) (k1 := 0) (n1 := 0) (by with_unfolding_all rfl)) ?_
  refine ex_s (st_aald rfl h115 (by rw [c3]; decide) rfl) ?_
  refine ex_s (am_nb (m := 0) (pc1 := 16) (ls1 := [(0, .ref 0), (1, .int x0)]) (st1 := [.ref 155]) (H1 := H) (k1 := 0) (n1 := 0) (by rw [c3]; with_unfolding_all rfl)) ?_
  refine ex_s (st_get rfl h155 rfl) ?_
  refine ex_s (am_nb (m := 2) (pc1 := 23) (ls1 := [(0, .ref 0), (1, .int x0)]) (st1 := [.null]) (H1 := H) (k1 := 0) (n1 := 0) (by with_unfolding_all rfl)) ?_
  exact ex_r (st_aret rfl rfl rfl rfl) ⟨trivial, fun j => rfl⟩

set_option maxRecDepth 100000 in
theorem fx_show_0 {sL : Nat} {sx : Nat → Int32} {cs : Nat → Nat → Option Int32} {H : am_H} {v0_13 : Int32} {x0 : Int32} (h0 : am_is H 0 (.inr (11, [.ref 1, .int 0, .ref 2, .int 0, .ref 3, .ref 93, .ref 97, .ref 115, .ref 116, .ref 129, .ref 123, .ref 127, .ref 128, .int v0_13, .null, .int 0]))) (h115 : am_is H 115 (.inl ((.object "TerminalHouse$Window"), (8, .inr (.inr (.inr (.inr am_q115))))))) (h141 : am_is H 141 (.inr (9, [.ref 142, .int 0, .int 0, .int 0, .int 0, .int 0, .int 0, .int 0, .int 0, .int 0]))) (h143 : am_is H 143 (.inr (9, [.ref 144, .int 0, .int 0, .int 0, .int 0, .int 0, .int 0, .int 0, .int 0, .int 0]))) (h145 : am_is H 145 (.inr (9, [.ref 146, .int 0, .int 0, .int 0, .int 0, .int 0, .int 0, .int 0, .int 0, .int 0]))) (h147 : am_is H 147 (.inr (9, [.ref 148, .int 0, .int 0, .int 0, .int 0, .int 0, .int 0, .int 0, .int 0, .int 0]))) (h149 : am_is H 149 (.inr (9, [.ref 150, .int 0, .int 0, .int 0, .int 0, .int 0, .int 0, .int 0, .int 0, .int 0]))) (h151 : am_is H 151 (.inr (9, [.ref 152, .int 0, .int 0, .int 0, .int 0, .int 0, .int 0, .int 0, .int 0, .int 0]))) (h153 : am_is H 153 (.inr (9, [.ref 154, .int 0, .int 0, .int 0, .int 0, .int 0, .int 0, .int 0, .int 0, .int 0]))) (h155 : am_is H 155 (.inr (9, [.ref 156, .int 0, .int 0, .int 0, .int 0, .int 0, .int 0, .int 0, .int 0, .int 0]))) (c1 : x0 < 0)  :
    am_E sL sx cs 123 0 [(0, .ref 0), (1, .int x0)] [] H (some (.int (-1))) (fun H1 => (True) ∧ ∀ j : Nat, H1[j]? = H[j]?) := by
  refine ex_s (am_nb (m := 2) (pc1 := 2) (ls1 := [(0, .ref 0), (1, .int x0)]) (st1 := [.int x0, .ref 0]) (H1 := H) (k1 := 0) (n1 := 0) (by with_unfolding_all rfl)) ?_
  refine ex_cv1 (as := [.int x0]) (rest := []) rfl rfl rfl rfl h0 rfl (by with_unfolding_all rfl) (by with_unfolding_all rfl) (fx_show_1_0 h0 h115 h141 h143 h145 h147 h149 h151 h153 h155 c1) ?_
  rintro H207 ⟨-, k207⟩
  refine ex_s (am_nb (m := 5) (pc1 := 25) (ls1 := [(2, .null), (0, .ref 0), (1, .int x0)]) (st1 := [.int (-1)]) (H1 := H207) (k1 := 0) (n1 := 0) (by with_unfolding_all rfl)) ?_
  exact ex_r (st_iret rfl rfl rfl) ⟨trivial, fun j => (k207 j)⟩

set_option maxRecDepth 100000 in
theorem fx_show_1 {sL : Nat} {sx : Nat → Int32} {cs : Nat → Nat → Option Int32} {H : am_H} {v0_13 : Int32} {x0 : Int32} (h0 : am_is H 0 (.inr (11, [.ref 1, .int 0, .ref 2, .int 0, .ref 3, .ref 93, .ref 97, .ref 115, .ref 116, .ref 129, .ref 123, .ref 127, .ref 128, .int v0_13, .null, .int 0]))) (h115 : am_is H 115 (.inl ((.object "TerminalHouse$Window"), (8, .inr (.inr (.inr (.inr am_q115))))))) (h141 : am_is H 141 (.inr (9, [.ref 142, .int 0, .int 0, .int 0, .int 0, .int 0, .int 0, .int 0, .int 0, .int 0]))) (h143 : am_is H 143 (.inr (9, [.ref 144, .int 0, .int 0, .int 0, .int 0, .int 0, .int 0, .int 0, .int 0, .int 0]))) (h145 : am_is H 145 (.inr (9, [.ref 146, .int 0, .int 0, .int 0, .int 0, .int 0, .int 0, .int 0, .int 0, .int 0]))) (h147 : am_is H 147 (.inr (9, [.ref 148, .int 0, .int 0, .int 0, .int 0, .int 0, .int 0, .int 0, .int 0, .int 0]))) (h149 : am_is H 149 (.inr (9, [.ref 150, .int 0, .int 0, .int 0, .int 0, .int 0, .int 0, .int 0, .int 0, .int 0]))) (h151 : am_is H 151 (.inr (9, [.ref 152, .int 0, .int 0, .int 0, .int 0, .int 0, .int 0, .int 0, .int 0, .int 0]))) (h153 : am_is H 153 (.inr (9, [.ref 154, .int 0, .int 0, .int 0, .int 0, .int 0, .int 0, .int 0, .int 0, .int 0]))) (h155 : am_is H 155 (.inr (9, [.ref 156, .int 0, .int 0, .int 0, .int 0, .int 0, .int 0, .int 0, .int 0, .int 0]))) (c1 : ¬ x0 < 0) (c2 : 8 ≤ x0)  :
    am_E sL sx cs 123 0 [(0, .ref 0), (1, .int x0)] [] H (some (.int (-1))) (fun H1 => (True) ∧ ∀ j : Nat, H1[j]? = H[j]?) := by
  refine ex_s (am_nb (m := 2) (pc1 := 2) (ls1 := [(0, .ref 0), (1, .int x0)]) (st1 := [.int x0, .ref 0]) (H1 := H) (k1 := 0) (n1 := 0) (by with_unfolding_all rfl)) ?_
  refine ex_cv1 (as := [.int x0]) (rest := []) rfl rfl rfl rfl h0 rfl (by with_unfolding_all rfl) (by with_unfolding_all rfl) (fx_show_1_1 h0 h115 h141 h143 h145 h147 h149 h151 h153 h155 c1 c2) ?_
  rintro H208 ⟨-, k208⟩
  refine ex_s (am_nb (m := 5) (pc1 := 25) (ls1 := [(2, .null), (0, .ref 0), (1, .int x0)]) (st1 := [.int (-1)]) (H1 := H208) (k1 := 0) (n1 := 0) (by with_unfolding_all rfl)) ?_
  exact ex_r (st_iret rfl rfl rfl) ⟨trivial, fun j => (k208 j)⟩

set_option maxRecDepth 100000 in
theorem fx_show_2 {sL : Nat} {sx : Nat → Int32} {cs : Nat → Nat → Option Int32} {H : am_H} {v0_13 : Int32} {x0 : Int32} (h0 : am_is H 0 (.inr (11, [.ref 1, .int 0, .ref 2, .int 0, .ref 3, .ref 93, .ref 97, .ref 115, .ref 116, .ref 129, .ref 123, .ref 127, .ref 128, .int v0_13, .null, .int 0]))) (h115 : am_is H 115 (.inl ((.object "TerminalHouse$Window"), (8, .inr (.inr (.inr (.inr am_q115))))))) (h141 : am_is H 141 (.inr (9, [.ref 142, .int 0, .int 0, .int 0, .int 0, .int 0, .int 0, .int 0, .int 0, .int 0]))) (h143 : am_is H 143 (.inr (9, [.ref 144, .int 0, .int 0, .int 0, .int 0, .int 0, .int 0, .int 0, .int 0, .int 0]))) (h145 : am_is H 145 (.inr (9, [.ref 146, .int 0, .int 0, .int 0, .int 0, .int 0, .int 0, .int 0, .int 0, .int 0]))) (h147 : am_is H 147 (.inr (9, [.ref 148, .int 0, .int 0, .int 0, .int 0, .int 0, .int 0, .int 0, .int 0, .int 0]))) (h149 : am_is H 149 (.inr (9, [.ref 150, .int 0, .int 0, .int 0, .int 0, .int 0, .int 0, .int 0, .int 0, .int 0]))) (h151 : am_is H 151 (.inr (9, [.ref 152, .int 0, .int 0, .int 0, .int 0, .int 0, .int 0, .int 0, .int 0, .int 0]))) (h153 : am_is H 153 (.inr (9, [.ref 154, .int 0, .int 0, .int 0, .int 0, .int 0, .int 0, .int 0, .int 0, .int 0]))) (h155 : am_is H 155 (.inr (9, [.ref 156, .int 0, .int 0, .int 0, .int 0, .int 0, .int 0, .int 0, .int 0, .int 0]))) (c1 : ¬ x0 < 0) (c2 : ¬ 8 ≤ x0) (c3 : x0 = 0)  :
    am_E sL sx cs 123 0 [(0, .ref 0), (1, .int x0)] [] H (some (.int (-1))) (fun H1 => (True) ∧ ∀ j : Nat, H1[j]? = H[j]?) := by
  refine ex_s (am_nb (m := 2) (pc1 := 2) (ls1 := [(0, .ref 0), (1, .int x0)]) (st1 := [.int x0, .ref 0]) (H1 := H) (k1 := 0) (n1 := 0) (by with_unfolding_all rfl)) ?_
  refine ex_cv1 (as := [.int x0]) (rest := []) rfl rfl rfl rfl h0 rfl (by with_unfolding_all rfl) (by with_unfolding_all rfl) (fx_show_1_2 h0 h115 h141 h143 h145 h147 h149 h151 h153 h155 c1 c2 c3) ?_
  rintro H209 ⟨-, k209⟩
  refine ex_s (am_nb (m := 5) (pc1 := 25) (ls1 := [(2, .null), (0, .ref 0), (1, .int x0)]) (st1 := [.int (-1)]) (H1 := H209) (k1 := 0) (n1 := 0) (by with_unfolding_all rfl)) ?_
  exact ex_r (st_iret rfl rfl rfl) ⟨trivial, fun j => (k209 j)⟩

set_option maxRecDepth 100000 in
theorem fx_show_3 {sL : Nat} {sx : Nat → Int32} {cs : Nat → Nat → Option Int32} {H : am_H} {v0_13 : Int32} {x0 : Int32} (h0 : am_is H 0 (.inr (11, [.ref 1, .int 0, .ref 2, .int 0, .ref 3, .ref 93, .ref 97, .ref 115, .ref 116, .ref 129, .ref 123, .ref 127, .ref 128, .int v0_13, .null, .int 0]))) (h115 : am_is H 115 (.inl ((.object "TerminalHouse$Window"), (8, .inr (.inr (.inr (.inr am_q115))))))) (h141 : am_is H 141 (.inr (9, [.ref 142, .int 0, .int 0, .int 0, .int 0, .int 0, .int 0, .int 0, .int 0, .int 0]))) (h143 : am_is H 143 (.inr (9, [.ref 144, .int 0, .int 0, .int 0, .int 0, .int 0, .int 0, .int 0, .int 0, .int 0]))) (h145 : am_is H 145 (.inr (9, [.ref 146, .int 0, .int 0, .int 0, .int 0, .int 0, .int 0, .int 0, .int 0, .int 0]))) (h147 : am_is H 147 (.inr (9, [.ref 148, .int 0, .int 0, .int 0, .int 0, .int 0, .int 0, .int 0, .int 0, .int 0]))) (h149 : am_is H 149 (.inr (9, [.ref 150, .int 0, .int 0, .int 0, .int 0, .int 0, .int 0, .int 0, .int 0, .int 0]))) (h151 : am_is H 151 (.inr (9, [.ref 152, .int 0, .int 0, .int 0, .int 0, .int 0, .int 0, .int 0, .int 0, .int 0]))) (h153 : am_is H 153 (.inr (9, [.ref 154, .int 0, .int 0, .int 0, .int 0, .int 0, .int 0, .int 0, .int 0, .int 0]))) (h155 : am_is H 155 (.inr (9, [.ref 156, .int 0, .int 0, .int 0, .int 0, .int 0, .int 0, .int 0, .int 0, .int 0]))) (c1 : ¬ x0 < 0) (c2 : ¬ 8 ≤ x0) (c3 : x0 = 1)  :
    am_E sL sx cs 123 0 [(0, .ref 0), (1, .int x0)] [] H (some (.int (-1))) (fun H1 => (True) ∧ ∀ j : Nat, H1[j]? = H[j]?) := by
  refine ex_s (am_nb (m := 2) (pc1 := 2) (ls1 := [(0, .ref 0), (1, .int x0)]) (st1 := [.int x0, .ref 0]) (H1 := H) (k1 := 0) (n1 := 0) (by with_unfolding_all rfl)) ?_
  refine ex_cv1 (as := [.int x0]) (rest := []) rfl rfl rfl rfl h0 rfl (by with_unfolding_all rfl) (by with_unfolding_all rfl) (fx_show_1_3 h0 h115 h141 h143 h145 h147 h149 h151 h153 h155 c1 c2 c3) ?_
  rintro H210 ⟨-, k210⟩
  refine ex_s (am_nb (m := 5) (pc1 := 25) (ls1 := [(2, .null), (0, .ref 0), (1, .int x0)]) (st1 := [.int (-1)]) (H1 := H210) (k1 := 0) (n1 := 0) (by with_unfolding_all rfl)) ?_
  exact ex_r (st_iret rfl rfl rfl) ⟨trivial, fun j => (k210 j)⟩

set_option maxRecDepth 100000 in
theorem fx_show_4 {sL : Nat} {sx : Nat → Int32} {cs : Nat → Nat → Option Int32} {H : am_H} {v0_13 : Int32} {x0 : Int32} (h0 : am_is H 0 (.inr (11, [.ref 1, .int 0, .ref 2, .int 0, .ref 3, .ref 93, .ref 97, .ref 115, .ref 116, .ref 129, .ref 123, .ref 127, .ref 128, .int v0_13, .null, .int 0]))) (h115 : am_is H 115 (.inl ((.object "TerminalHouse$Window"), (8, .inr (.inr (.inr (.inr am_q115))))))) (h141 : am_is H 141 (.inr (9, [.ref 142, .int 0, .int 0, .int 0, .int 0, .int 0, .int 0, .int 0, .int 0, .int 0]))) (h143 : am_is H 143 (.inr (9, [.ref 144, .int 0, .int 0, .int 0, .int 0, .int 0, .int 0, .int 0, .int 0, .int 0]))) (h145 : am_is H 145 (.inr (9, [.ref 146, .int 0, .int 0, .int 0, .int 0, .int 0, .int 0, .int 0, .int 0, .int 0]))) (h147 : am_is H 147 (.inr (9, [.ref 148, .int 0, .int 0, .int 0, .int 0, .int 0, .int 0, .int 0, .int 0, .int 0]))) (h149 : am_is H 149 (.inr (9, [.ref 150, .int 0, .int 0, .int 0, .int 0, .int 0, .int 0, .int 0, .int 0, .int 0]))) (h151 : am_is H 151 (.inr (9, [.ref 152, .int 0, .int 0, .int 0, .int 0, .int 0, .int 0, .int 0, .int 0, .int 0]))) (h153 : am_is H 153 (.inr (9, [.ref 154, .int 0, .int 0, .int 0, .int 0, .int 0, .int 0, .int 0, .int 0, .int 0]))) (h155 : am_is H 155 (.inr (9, [.ref 156, .int 0, .int 0, .int 0, .int 0, .int 0, .int 0, .int 0, .int 0, .int 0]))) (c1 : ¬ x0 < 0) (c2 : ¬ 8 ≤ x0) (c3 : x0 = 2)  :
    am_E sL sx cs 123 0 [(0, .ref 0), (1, .int x0)] [] H (some (.int (-1))) (fun H1 => (True) ∧ ∀ j : Nat, H1[j]? = H[j]?) := by
  refine ex_s (am_nb (m := 2) (pc1 := 2) (ls1 := [(0, .ref 0), (1, .int x0)]) (st1 := [.int x0, .ref 0]) (H1 := H) (k1 := 0) (n1 := 0) (by with_unfolding_all rfl)) ?_
  refine ex_cv1 (as := [.int x0]) (rest := []) rfl rfl rfl rfl h0 rfl (by with_unfolding_all rfl) (by with_unfolding_all rfl) (fx_show_1_4 h0 h115 h141 h143 h145 h147 h149 h151 h153 h155 c1 c2 c3) ?_
  rintro H211 ⟨-, k211⟩
  refine ex_s (am_nb (m := 5) (pc1 := 25) (ls1 := [(2, .null), (0, .ref 0), (1, .int x0)]) (st1 := [.int (-1)]) (H1 := H211) (k1 := 0) (n1 := 0) (by with_unfolding_all rfl)) ?_
  exact ex_r (st_iret rfl rfl rfl) ⟨trivial, fun j => (k211 j)⟩

set_option maxRecDepth 100000 in
theorem fx_show_5 {sL : Nat} {sx : Nat → Int32} {cs : Nat → Nat → Option Int32} {H : am_H} {v0_13 : Int32} {x0 : Int32} (h0 : am_is H 0 (.inr (11, [.ref 1, .int 0, .ref 2, .int 0, .ref 3, .ref 93, .ref 97, .ref 115, .ref 116, .ref 129, .ref 123, .ref 127, .ref 128, .int v0_13, .null, .int 0]))) (h115 : am_is H 115 (.inl ((.object "TerminalHouse$Window"), (8, .inr (.inr (.inr (.inr am_q115))))))) (h141 : am_is H 141 (.inr (9, [.ref 142, .int 0, .int 0, .int 0, .int 0, .int 0, .int 0, .int 0, .int 0, .int 0]))) (h143 : am_is H 143 (.inr (9, [.ref 144, .int 0, .int 0, .int 0, .int 0, .int 0, .int 0, .int 0, .int 0, .int 0]))) (h145 : am_is H 145 (.inr (9, [.ref 146, .int 0, .int 0, .int 0, .int 0, .int 0, .int 0, .int 0, .int 0, .int 0]))) (h147 : am_is H 147 (.inr (9, [.ref 148, .int 0, .int 0, .int 0, .int 0, .int 0, .int 0, .int 0, .int 0, .int 0]))) (h149 : am_is H 149 (.inr (9, [.ref 150, .int 0, .int 0, .int 0, .int 0, .int 0, .int 0, .int 0, .int 0, .int 0]))) (h151 : am_is H 151 (.inr (9, [.ref 152, .int 0, .int 0, .int 0, .int 0, .int 0, .int 0, .int 0, .int 0, .int 0]))) (h153 : am_is H 153 (.inr (9, [.ref 154, .int 0, .int 0, .int 0, .int 0, .int 0, .int 0, .int 0, .int 0, .int 0]))) (h155 : am_is H 155 (.inr (9, [.ref 156, .int 0, .int 0, .int 0, .int 0, .int 0, .int 0, .int 0, .int 0, .int 0]))) (c1 : ¬ x0 < 0) (c2 : ¬ 8 ≤ x0) (c3 : x0 = 3)  :
    am_E sL sx cs 123 0 [(0, .ref 0), (1, .int x0)] [] H (some (.int (-1))) (fun H1 => (True) ∧ ∀ j : Nat, H1[j]? = H[j]?) := by
  refine ex_s (am_nb (m := 2) (pc1 := 2) (ls1 := [(0, .ref 0), (1, .int x0)]) (st1 := [.int x0, .ref 0]) (H1 := H) (k1 := 0) (n1 := 0) (by with_unfolding_all rfl)) ?_
  refine ex_cv1 (as := [.int x0]) (rest := []) rfl rfl rfl rfl h0 rfl (by with_unfolding_all rfl) (by with_unfolding_all rfl) (fx_show_1_5 h0 h115 h141 h143 h145 h147 h149 h151 h153 h155 c1 c2 c3) ?_
  rintro H212 ⟨-, k212⟩
  refine ex_s (am_nb (m := 5) (pc1 := 25) (ls1 := [(2, .null), (0, .ref 0), (1, .int x0)]) (st1 := [.int (-1)]) (H1 := H212) (k1 := 0) (n1 := 0) (by with_unfolding_all rfl)) ?_
  exact ex_r (st_iret rfl rfl rfl) ⟨trivial, fun j => (k212 j)⟩

set_option maxRecDepth 100000 in
theorem fx_show_6 {sL : Nat} {sx : Nat → Int32} {cs : Nat → Nat → Option Int32} {H : am_H} {v0_13 : Int32} {x0 : Int32} (h0 : am_is H 0 (.inr (11, [.ref 1, .int 0, .ref 2, .int 0, .ref 3, .ref 93, .ref 97, .ref 115, .ref 116, .ref 129, .ref 123, .ref 127, .ref 128, .int v0_13, .null, .int 0]))) (h115 : am_is H 115 (.inl ((.object "TerminalHouse$Window"), (8, .inr (.inr (.inr (.inr am_q115))))))) (h141 : am_is H 141 (.inr (9, [.ref 142, .int 0, .int 0, .int 0, .int 0, .int 0, .int 0, .int 0, .int 0, .int 0]))) (h143 : am_is H 143 (.inr (9, [.ref 144, .int 0, .int 0, .int 0, .int 0, .int 0, .int 0, .int 0, .int 0, .int 0]))) (h145 : am_is H 145 (.inr (9, [.ref 146, .int 0, .int 0, .int 0, .int 0, .int 0, .int 0, .int 0, .int 0, .int 0]))) (h147 : am_is H 147 (.inr (9, [.ref 148, .int 0, .int 0, .int 0, .int 0, .int 0, .int 0, .int 0, .int 0, .int 0]))) (h149 : am_is H 149 (.inr (9, [.ref 150, .int 0, .int 0, .int 0, .int 0, .int 0, .int 0, .int 0, .int 0, .int 0]))) (h151 : am_is H 151 (.inr (9, [.ref 152, .int 0, .int 0, .int 0, .int 0, .int 0, .int 0, .int 0, .int 0, .int 0]))) (h153 : am_is H 153 (.inr (9, [.ref 154, .int 0, .int 0, .int 0, .int 0, .int 0, .int 0, .int 0, .int 0, .int 0]))) (h155 : am_is H 155 (.inr (9, [.ref 156, .int 0, .int 0, .int 0, .int 0, .int 0, .int 0, .int 0, .int 0, .int 0]))) (c1 : ¬ x0 < 0) (c2 : ¬ 8 ≤ x0) (c3 : x0 = 4)  :
    am_E sL sx cs 123 0 [(0, .ref 0), (1, .int x0)] [] H (some (.int (-1))) (fun H1 => (True) ∧ ∀ j : Nat, H1[j]? = H[j]?) := by
  refine ex_s (am_nb (m := 2) (pc1 := 2) (ls1 := [(0, .ref 0), (1, .int x0)]) (st1 := [.int x0, .ref 0]) (H1 := H) (k1 := 0) (n1 := 0) (by with_unfolding_all rfl)) ?_
  refine ex_cv1 (as := [.int x0]) (rest := []) rfl rfl rfl rfl h0 rfl (by with_unfolding_all rfl) (by with_unfolding_all rfl) (fx_show_1_6 h0 h115 h141 h143 h145 h147 h149 h151 h153 h155 c1 c2 c3) ?_
  rintro H213 ⟨-, k213⟩
  refine ex_s (am_nb (m := 5) (pc1 := 25) (ls1 := [(2, .null), (0, .ref 0), (1, .int x0)]) (st1 := [.int (-1)]) (H1 := H213) (k1 := 0) (n1 := 0) (by with_unfolding_all rfl)) ?_
  exact ex_r (st_iret rfl rfl rfl) ⟨trivial, fun j => (k213 j)⟩

set_option maxRecDepth 100000 in
theorem fx_show_7 {sL : Nat} {sx : Nat → Int32} {cs : Nat → Nat → Option Int32} {H : am_H} {v0_13 : Int32} {x0 : Int32} (h0 : am_is H 0 (.inr (11, [.ref 1, .int 0, .ref 2, .int 0, .ref 3, .ref 93, .ref 97, .ref 115, .ref 116, .ref 129, .ref 123, .ref 127, .ref 128, .int v0_13, .null, .int 0]))) (h115 : am_is H 115 (.inl ((.object "TerminalHouse$Window"), (8, .inr (.inr (.inr (.inr am_q115))))))) (h141 : am_is H 141 (.inr (9, [.ref 142, .int 0, .int 0, .int 0, .int 0, .int 0, .int 0, .int 0, .int 0, .int 0]))) (h143 : am_is H 143 (.inr (9, [.ref 144, .int 0, .int 0, .int 0, .int 0, .int 0, .int 0, .int 0, .int 0, .int 0]))) (h145 : am_is H 145 (.inr (9, [.ref 146, .int 0, .int 0, .int 0, .int 0, .int 0, .int 0, .int 0, .int 0, .int 0]))) (h147 : am_is H 147 (.inr (9, [.ref 148, .int 0, .int 0, .int 0, .int 0, .int 0, .int 0, .int 0, .int 0, .int 0]))) (h149 : am_is H 149 (.inr (9, [.ref 150, .int 0, .int 0, .int 0, .int 0, .int 0, .int 0, .int 0, .int 0, .int 0]))) (h151 : am_is H 151 (.inr (9, [.ref 152, .int 0, .int 0, .int 0, .int 0, .int 0, .int 0, .int 0, .int 0, .int 0]))) (h153 : am_is H 153 (.inr (9, [.ref 154, .int 0, .int 0, .int 0, .int 0, .int 0, .int 0, .int 0, .int 0, .int 0]))) (h155 : am_is H 155 (.inr (9, [.ref 156, .int 0, .int 0, .int 0, .int 0, .int 0, .int 0, .int 0, .int 0, .int 0]))) (c1 : ¬ x0 < 0) (c2 : ¬ 8 ≤ x0) (c3 : x0 = 5)  :
    am_E sL sx cs 123 0 [(0, .ref 0), (1, .int x0)] [] H (some (.int (-1))) (fun H1 => (True) ∧ ∀ j : Nat, H1[j]? = H[j]?) := by
  refine ex_s (am_nb (m := 2) (pc1 := 2) (ls1 := [(0, .ref 0), (1, .int x0)]) (st1 := [.int x0, .ref 0]) (H1 := H) (k1 := 0) (n1 := 0) (by with_unfolding_all rfl)) ?_
  refine ex_cv1 (as := [.int x0]) (rest := []) rfl rfl rfl rfl h0 rfl (by with_unfolding_all rfl) (by with_unfolding_all rfl) (fx_show_1_7 h0 h115 h141 h143 h145 h147 h149 h151 h153 h155 c1 c2 c3) ?_
  rintro H214 ⟨-, k214⟩
  refine ex_s (am_nb (m := 5) (pc1 := 25) (ls1 := [(2, .null), (0, .ref 0), (1, .int x0)]) (st1 := [.int (-1)]) (H1 := H214) (k1 := 0) (n1 := 0) (by with_unfolding_all rfl)) ?_
  exact ex_r (st_iret rfl rfl rfl) ⟨trivial, fun j => (k214 j)⟩

set_option maxRecDepth 100000 in
theorem fx_show_8 {sL : Nat} {sx : Nat → Int32} {cs : Nat → Nat → Option Int32} {H : am_H} {v0_13 : Int32} {x0 : Int32} (h0 : am_is H 0 (.inr (11, [.ref 1, .int 0, .ref 2, .int 0, .ref 3, .ref 93, .ref 97, .ref 115, .ref 116, .ref 129, .ref 123, .ref 127, .ref 128, .int v0_13, .null, .int 0]))) (h115 : am_is H 115 (.inl ((.object "TerminalHouse$Window"), (8, .inr (.inr (.inr (.inr am_q115))))))) (h141 : am_is H 141 (.inr (9, [.ref 142, .int 0, .int 0, .int 0, .int 0, .int 0, .int 0, .int 0, .int 0, .int 0]))) (h143 : am_is H 143 (.inr (9, [.ref 144, .int 0, .int 0, .int 0, .int 0, .int 0, .int 0, .int 0, .int 0, .int 0]))) (h145 : am_is H 145 (.inr (9, [.ref 146, .int 0, .int 0, .int 0, .int 0, .int 0, .int 0, .int 0, .int 0, .int 0]))) (h147 : am_is H 147 (.inr (9, [.ref 148, .int 0, .int 0, .int 0, .int 0, .int 0, .int 0, .int 0, .int 0, .int 0]))) (h149 : am_is H 149 (.inr (9, [.ref 150, .int 0, .int 0, .int 0, .int 0, .int 0, .int 0, .int 0, .int 0, .int 0]))) (h151 : am_is H 151 (.inr (9, [.ref 152, .int 0, .int 0, .int 0, .int 0, .int 0, .int 0, .int 0, .int 0, .int 0]))) (h153 : am_is H 153 (.inr (9, [.ref 154, .int 0, .int 0, .int 0, .int 0, .int 0, .int 0, .int 0, .int 0, .int 0]))) (h155 : am_is H 155 (.inr (9, [.ref 156, .int 0, .int 0, .int 0, .int 0, .int 0, .int 0, .int 0, .int 0, .int 0]))) (c1 : ¬ x0 < 0) (c2 : ¬ 8 ≤ x0) (c3 : x0 = 6)  :
    am_E sL sx cs 123 0 [(0, .ref 0), (1, .int x0)] [] H (some (.int (-1))) (fun H1 => (True) ∧ ∀ j : Nat, H1[j]? = H[j]?) := by
  refine ex_s (am_nb (m := 2) (pc1 := 2) (ls1 := [(0, .ref 0), (1, .int x0)]) (st1 := [.int x0, .ref 0]) (H1 := H) (k1 := 0) (n1 := 0) (by with_unfolding_all rfl)) ?_
  refine ex_cv1 (as := [.int x0]) (rest := []) rfl rfl rfl rfl h0 rfl (by with_unfolding_all rfl) (by with_unfolding_all rfl) (fx_show_1_8 h0 h115 h141 h143 h145 h147 h149 h151 h153 h155 c1 c2 c3) ?_
  rintro H215 ⟨-, k215⟩
  refine ex_s (am_nb (m := 5) (pc1 := 25) (ls1 := [(2, .null), (0, .ref 0), (1, .int x0)]) (st1 := [.int (-1)]) (H1 := H215) (k1 := 0) (n1 := 0) (by with_unfolding_all rfl)) ?_
  exact ex_r (st_iret rfl rfl rfl) ⟨trivial, fun j => (k215 j)⟩

set_option maxRecDepth 100000 in
theorem fx_show_9 {sL : Nat} {sx : Nat → Int32} {cs : Nat → Nat → Option Int32} {H : am_H} {v0_13 : Int32} {x0 : Int32} (h0 : am_is H 0 (.inr (11, [.ref 1, .int 0, .ref 2, .int 0, .ref 3, .ref 93, .ref 97, .ref 115, .ref 116, .ref 129, .ref 123, .ref 127, .ref 128, .int v0_13, .null, .int 0]))) (h115 : am_is H 115 (.inl ((.object "TerminalHouse$Window"), (8, .inr (.inr (.inr (.inr am_q115))))))) (h141 : am_is H 141 (.inr (9, [.ref 142, .int 0, .int 0, .int 0, .int 0, .int 0, .int 0, .int 0, .int 0, .int 0]))) (h143 : am_is H 143 (.inr (9, [.ref 144, .int 0, .int 0, .int 0, .int 0, .int 0, .int 0, .int 0, .int 0, .int 0]))) (h145 : am_is H 145 (.inr (9, [.ref 146, .int 0, .int 0, .int 0, .int 0, .int 0, .int 0, .int 0, .int 0, .int 0]))) (h147 : am_is H 147 (.inr (9, [.ref 148, .int 0, .int 0, .int 0, .int 0, .int 0, .int 0, .int 0, .int 0, .int 0]))) (h149 : am_is H 149 (.inr (9, [.ref 150, .int 0, .int 0, .int 0, .int 0, .int 0, .int 0, .int 0, .int 0, .int 0]))) (h151 : am_is H 151 (.inr (9, [.ref 152, .int 0, .int 0, .int 0, .int 0, .int 0, .int 0, .int 0, .int 0, .int 0]))) (h153 : am_is H 153 (.inr (9, [.ref 154, .int 0, .int 0, .int 0, .int 0, .int 0, .int 0, .int 0, .int 0, .int 0]))) (h155 : am_is H 155 (.inr (9, [.ref 156, .int 0, .int 0, .int 0, .int 0, .int 0, .int 0, .int 0, .int 0, .int 0]))) (c1 : ¬ x0 < 0) (c2 : ¬ 8 ≤ x0) (c3 : x0 = 7)  :
    am_E sL sx cs 123 0 [(0, .ref 0), (1, .int x0)] [] H (some (.int (-1))) (fun H1 => (True) ∧ ∀ j : Nat, H1[j]? = H[j]?) := by
  refine ex_s (am_nb (m := 2) (pc1 := 2) (ls1 := [(0, .ref 0), (1, .int x0)]) (st1 := [.int x0, .ref 0]) (H1 := H) (k1 := 0) (n1 := 0) (by with_unfolding_all rfl)) ?_
  refine ex_cv1 (as := [.int x0]) (rest := []) rfl rfl rfl rfl h0 rfl (by with_unfolding_all rfl) (by with_unfolding_all rfl) (fx_show_1_9 h0 h115 h141 h143 h145 h147 h149 h151 h153 h155 c1 c2 c3) ?_
  rintro H216 ⟨-, k216⟩
  refine ex_s (am_nb (m := 5) (pc1 := 25) (ls1 := [(2, .null), (0, .ref 0), (1, .int x0)]) (st1 := [.int (-1)]) (H1 := H216) (k1 := 0) (n1 := 0) (by with_unfolding_all rfl)) ?_
  exact ex_r (st_iret rfl rfl rfl) ⟨trivial, fun j => (k216 j)⟩

set_option maxRecDepth 100000 in
theorem fx_update_0 {sL : Nat} {sx : Nat → Int32} {cs : Nat → Nat → Option Int32} {H : am_H} {v0_13 : Int32} (h0 : am_is H 0 (.inr (11, [.ref 1, .int 0, .ref 2, .int 0, .ref 3, .ref 93, .ref 97, .ref 115, .ref 116, .ref 129, .ref 123, .ref 127, .ref 128, .int v0_13, .null, .int 0])))   :
    am_E sL sx cs 125 0 [(0, .ref 0)] [] H (some (.int (-1))) (fun H1 => (True) ∧ ∀ j : Nat, H1[j]? = H[j]?) := by
  refine ex_s (am_nb (m := 1) (pc1 := 1) (ls1 := [(0, .ref 0)]) (st1 := [.ref 0]) (H1 := H) (k1 := 0) (n1 := 0) (by with_unfolding_all rfl)) ?_
  refine ex_s (st_get rfl h0 rfl) ?_
  refine ex_s (am_nb (m := 2) (pc1 := 8) (ls1 := [(0, .ref 0)]) (st1 := [.int (-1)]) (H1 := H) (k1 := 0) (n1 := 0) (by with_unfolding_all rfl)) ?_
  exact ex_r (st_iret rfl rfl rfl) ⟨trivial, fun j => rfl⟩

set_option maxRecDepth 100000 in
theorem fx_redraw_0 {sL : Nat} {sx : Nat → Int32} {cs : Nat → Nat → Option Int32} {H : am_H} {v0_13 : Int32} (h0 : am_is H 0 (.inr (11, [.ref 1, .int 0, .ref 2, .int 0, .ref 3, .ref 93, .ref 97, .ref 115, .ref 116, .ref 129, .ref 123, .ref 127, .ref 128, .int v0_13, .null, .int 0])))   :
    am_E sL sx cs 157 0 [(0, .ref 0)] [] H (some (.int 0)) (fun H1 => (True) ∧ ∀ j : Nat, H1[j]? = H[j]?) := by
  refine ex_s (am_nb (m := 1) (pc1 := 1) (ls1 := [(0, .ref 0)]) (st1 := [.ref 0]) (H1 := H) (k1 := 0) (n1 := 0) (by with_unfolding_all rfl)) ?_
  refine ex_s (st_get rfl h0 rfl) ?_
  refine ex_s (am_nb (m := 2) (pc1 := 8) (ls1 := [(0, .ref 0)]) (st1 := [.int 0]) (H1 := H) (k1 := 0) (n1 := 0) (by with_unfolding_all rfl)) ?_
  exact ex_r (st_iret rfl rfl rfl) ⟨trivial, fun j => rfl⟩

set_option maxRecDepth 100000 in
theorem fx_known_0 {sL : Nat} {sx : Nat → Int32} {cs : Nat → Nat → Option Int32} {H : am_H} {v0_13 : Int32} {x0 : Int32} {x1 : Int32} (h0 : am_is H 0 (.inr (11, [.ref 1, .int 0, .ref 2, .int 0, .ref 3, .ref 93, .ref 97, .ref 115, .ref 116, .ref 129, .ref 123, .ref 127, .ref 128, .int v0_13, .null, .int 0])))   :
    am_E sL sx cs 158 0 [(0, .ref 0), (1, .int x0), (2, .int x1)] [] H (some (.int (-1))) (fun H1 => (True) ∧ ∀ j : Nat, H1[j]? = H[j]?) := by
  refine ex_s (am_nb (m := 1) (pc1 := 1) (ls1 := [(0, .ref 0), (1, .int x0), (2, .int x1)]) (st1 := [.ref 0]) (H1 := H) (k1 := 0) (n1 := 0) (by with_unfolding_all rfl)) ?_
  refine ex_s (st_get rfl h0 rfl) ?_
  refine ex_s (am_nb (m := 3) (pc1 := 33) (ls1 := [(0, .ref 0), (1, .int x0), (2, .int x1)]) (st1 := [.int (-1)]) (H1 := H) (k1 := 0) (n1 := 0) (by with_unfolding_all rfl)) ?_
  exact ex_r (st_iret rfl rfl rfl) ⟨trivial, fun j => rfl⟩

set_option maxRecDepth 100000 in
theorem fx_wanted_0 {sL : Nat} {sx : Nat → Int32} {cs : Nat → Nat → Option Int32} {H : am_H} {v0_13 : Int32} {x0 : Int32} {x1 : Int32} (h0 : am_is H 0 (.inr (11, [.ref 1, .int 0, .ref 2, .int 0, .ref 3, .ref 93, .ref 97, .ref 115, .ref 116, .ref 129, .ref 123, .ref 127, .ref 128, .int v0_13, .null, .int 0])))   :
    am_E sL sx cs 159 0 [(0, .ref 0), (1, .int x0), (2, .int x1)] [] H (some (.int (-1))) (fun H1 => (True) ∧ ∀ j : Nat, H1[j]? = H[j]?) := by
  refine ex_s (am_nb (m := 1) (pc1 := 1) (ls1 := [(0, .ref 0), (1, .int x0), (2, .int x1)]) (st1 := [.ref 0]) (H1 := H) (k1 := 0) (n1 := 0) (by with_unfolding_all rfl)) ?_
  refine ex_s (st_get rfl h0 rfl) ?_
  refine ex_s (am_nb (m := 3) (pc1 := 23) (ls1 := [(0, .ref 0), (1, .int x0), (2, .int x1)]) (st1 := [.int (-1)]) (H1 := H) (k1 := 0) (n1 := 0) (by with_unfolding_all rfl)) ?_
  exact ex_r (st_iret rfl rfl rfl) ⟨trivial, fun j => rfl⟩

set_option maxRecDepth 100000 in
theorem fx_flags_2_0 {sL : Nat} {sx : Nat → Int32} {cs : Nat → Nat → Option Int32} {H : am_H} {x0 : Int32} (h116 : am_is H 116 (.inr (1, [.ref 117, .ref 119, .ref 121, .int (x0 &&& 255), .int 0, .int 0, .int 0, .int 0, .int 0, .int 0]))) (c1 : ((x0 &&& 255) &&& 1) = 0)  :
    am_E sL sx cs 162 0 [(0, .ref 116), (1, .int 1)] [] H (some (.int 0)) (fun H1 => (True) ∧ ∀ j : Nat, H1[j]? = H[j]?) := by
  refine ex_s (am_nb (m := 1) (pc1 := 1) (ls1 := [(0, .ref 116), (1, .int 1)]) (st1 := [.ref 116]) (H1 := H) (k1 := 0) (n1 := 0) (by with_unfolding_all rfl)) ?_
  refine ex_s (st_get rfl h116 rfl) ?_
  refine ex_s (am_nb (m := 2) (pc1 := 6) (ls1 := [(0, .ref 116), (1, .int 1)]) (st1 := [.int ((x0 &&& 255) &&& 1)]) (H1 := H) (k1 := 0) (n1 := 0) (by with_unfolding_all rfl)) ?_
  refine ex_s (st_if rfl) ?_
  refine ex_pc (if_pos c1) ?_
  refine ex_s (am_nb (m := 1) (pc1 := 14) (ls1 := [(0, .ref 116), (1, .int 1)]) (st1 := [.int 0]) (H1 := H) (k1 := 0) (n1 := 0) (by with_unfolding_all rfl)) ?_
  exact ex_r (st_iret rfl rfl rfl) ⟨trivial, fun j => rfl⟩

set_option maxRecDepth 100000 in
theorem fx_flags_2_1 {sL : Nat} {sx : Nat → Int32} {cs : Nat → Nat → Option Int32} {H : am_H} {x0 : Int32} (h116 : am_is H 116 (.inr (1, [.ref 117, .ref 119, .ref 121, .int (x0 &&& 255), .int 0, .int 0, .int 0, .int 0, .int 0, .int 0]))) (c1 : ¬ ((x0 &&& 255) &&& 1) = 0)  :
    am_E sL sx cs 162 0 [(0, .ref 116), (1, .int 1)] [] H (some (.int 1)) (fun H1 => (True) ∧ ∀ j : Nat, H1[j]? = H[j]?) := by
  refine ex_s (am_nb (m := 1) (pc1 := 1) (ls1 := [(0, .ref 116), (1, .int 1)]) (st1 := [.ref 116]) (H1 := H) (k1 := 0) (n1 := 0) (by with_unfolding_all rfl)) ?_
  refine ex_s (st_get rfl h116 rfl) ?_
  refine ex_s (am_nb (m := 2) (pc1 := 6) (ls1 := [(0, .ref 116), (1, .int 1)]) (st1 := [.int ((x0 &&& 255) &&& 1)]) (H1 := H) (k1 := 0) (n1 := 0) (by with_unfolding_all rfl)) ?_
  refine ex_s (st_if rfl) ?_
  refine ex_pc (if_neg c1) ?_
  refine ex_s (am_nb (m := 2) (pc1 := 14) (ls1 := [(0, .ref 116), (1, .int 1)]) (st1 := [.int 1]) (H1 := H) (k1 := 0) (n1 := 0) (by with_unfolding_all rfl)) ?_
  exact ex_r (st_iret rfl rfl rfl) ⟨trivial, fun j => rfl⟩

set_option maxRecDepth 100000 in
theorem fx_flags_3_0 {sL : Nat} {sx : Nat → Int32} {cs : Nat → Nat → Option Int32} {H : am_H}  (h119 : am_is H 119 (.inr (0, [.ref 120, .int 0, .int 0])))   :
    am_E sL sx cs 163 0 [(0, .ref 119)] [] H (some (.int 0)) (fun H1 => (True) ∧ ∀ j : Nat, H1[j]? = H[j]?) := by
  refine ex_s (am_nb (m := 1) (pc1 := 1) (ls1 := [(0, .ref 119)]) (st1 := [.ref 119]) (H1 := H) (k1 := 0) (n1 := 0) (by with_unfolding_all rfl)) ?_
  refine ex_s (st_get rfl h119 rfl) ?_
  exact ex_r (st_iret rfl rfl rfl) ⟨trivial, fun j => rfl⟩

set_option maxRecDepth 100000 in
theorem fx_flags_4_0 {sL : Nat} {sx : Nat → Int32} {cs : Nat → Nat → Option Int32} {H : am_H}  (h119 : am_is H 119 (.inr (0, [.ref 120, .int 0, .int 0])))   :
    am_E sL sx cs 165 0 [(0, .ref 119)] [] H none (fun H1 => (am_is H1 119 (.inr (0, [.ref 120, .int 0, .int 0])) ∧ True) ∧ ∀ j : Nat, j ≠ 119 → H1[j]? = H[j]?) := by
  refine ex_s (am_nb (m := 2) (pc1 := 2) (ls1 := [(0, .ref 119)]) (st1 := [.int 0, .ref 119]) (H1 := H) (k1 := 0) (n1 := 0) (by with_unfolding_all rfl)) ?_
  refine ex_put rfl h119 rfl rfl rfl ?_
  intro H221 f221 k221
  exact ex_r (st_vret rfl rfl) ⟨⟨f221, trivial⟩, fun j n119 => (k221 j n119)⟩

set_option maxRecDepth 100000 in
theorem fx_flags_1_0 {sL : Nat} {sx : Nat → Int32} {cs : Nat → Nat → Option Int32} {H : am_H} {x0 : Int32} (h116 : am_is H 116 (.inr (1, [.ref 117, .ref 119, .ref 121, .int 127, .int 0, .int 0, .int 0, .int 0, .int 0, .int 0]))) (h119 : am_is H 119 (.inr (0, [.ref 120, .int 0, .int 0]))) (c1 : ((x0 &&& 255) &&& 1) = 0)  :
    am_E sL sx cs 161 0 [(0, .ref 116), (1, .int (x0 &&& 255))] [] H (some (.int 127)) (fun H1 => (am_is H1 116 (.inr (1, [.ref 117, .ref 119, .ref 121, .int (x0 &&& 255), .int 0, .int 0, .int 0, .int 0, .int 0, .int 0])) ∧ am_is H1 119 (.inr (0, [.ref 120, .int 0, .int 0])) ∧ True) ∧ ∀ j : Nat, j ≠ 116 → j ≠ 119 → H1[j]? = H[j]?) := by
  refine ex_s (am_nb (m := 1) (pc1 := 1) (ls1 := [(0, .ref 116), (1, .int (x0 &&& 255))]) (st1 := [.ref 116]) (H1 := H) (k1 := 0) (n1 := 0) (by with_unfolding_all rfl)) ?_
  refine ex_s (st_get rfl h116 rfl) ?_
  refine ex_s (am_nb (m := 3) (pc1 := 7) (ls1 := [(2, .int 127), (0, .ref 116), (1, .int (x0 &&& 255))]) (st1 := [.int (x0 &&& 255), .ref 116]) (H1 := H) (k1 := 0) (n1 := 0) (by with_unfolding_all rfl)) ?_
  refine ex_put rfl h116 rfl rfl rfl ?_
  intro H217 f217 k217
  refine ex_s (am_nb (m := 6) (pc1 := 18) (ls1 := [(2, .int 127), (0, .ref 116), (1, .int (x0 &&& 255))]) (st1 := [.int 1, .ref 116]) (H1 := H217) (k1 := 0) (n1 := 0) (by with_unfolding_all rfl)) ?_
  refine ex_cv1 (as := [.int 1]) (rest := []) rfl rfl rfl rfl f217 rfl (by with_unfolding_all rfl) (by with_unfolding_all rfl) (fx_flags_2_0 f217 c1) ?_
  rintro H218 ⟨-, k218⟩
  refine ex_s (am_nb (m := 5) (pc1 := 28) (ls1 := [(3, .int 0), (2, .int 127), (0, .ref 116), (1, .int (x0 &&& 255))]) (st1 := [.ref 116, .int 0]) (H1 := H218) (k1 := 0) (n1 := 0) (by with_unfolding_all rfl)) ?_
  refine ex_s (st_get rfl ((k218 116).trans f217) rfl) ?_
  refine ex_cv1 (as := []) (rest := [.int 0]) rfl rfl rfl rfl ((k218 119).trans ((k217 119 (by decide)).trans h119)) rfl (by with_unfolding_all rfl) (by with_unfolding_all rfl) (fx_flags_3_0 ((k218 119).trans ((k217 119 (by decide)).trans h119))) ?_
  rintro H220 ⟨-, k220⟩
  refine ex_s (am_nb (m := 2) (pc1 := 60) (ls1 := [(3, .int 0), (2, .int 127), (0, .ref 116), (1, .int (x0 &&& 255))]) (st1 := [.ref 116]) (H1 := H220) (k1 := 0) (n1 := 0) (by with_unfolding_all rfl)) ?_
  refine ex_s (st_get rfl ((k220 116).trans ((k218 116).trans f217)) rfl) ?_
  refine ex_cv0 (as := []) (rest := []) rfl rfl rfl rfl ((k220 119).trans ((k218 119).trans ((k217 119 (by decide)).trans h119))) rfl (by with_unfolding_all rfl) (by with_unfolding_all rfl) (fx_flags_4_0 ((k220 119).trans ((k218 119).trans ((k217 119 (by decide)).trans h119)))) ?_
  rintro H222 ⟨⟨f222_119, -⟩, k222⟩
  refine ex_s (am_nb (m := 2) (pc1 := 68) (ls1 := [(3, .int 0), (2, .int 127), (0, .ref 116), (1, .int (x0 &&& 255))]) (st1 := [.int 0, .ref 116]) (H1 := H222) (k1 := 0) (n1 := 0) (by with_unfolding_all rfl)) ?_
  refine ex_put rfl ((k222 116 (by decide)).trans ((k220 116).trans ((k218 116).trans f217))) rfl rfl rfl ?_
  intro H223 f223 k223
  refine ex_s (am_nb (m := 1) (pc1 := 72) (ls1 := [(3, .int 0), (2, .int 127), (0, .ref 116), (1, .int (x0 &&& 255))]) (st1 := [.int 127]) (H1 := H223) (k1 := 0) (n1 := 0) (by with_unfolding_all rfl)) ?_
  exact ex_r (st_iret rfl rfl rfl) ⟨⟨f223, ((k223 119 (by decide)).trans f222_119), trivial⟩, fun j n116 n119 => ((k223 j n116).trans ((k222 j n119).trans ((k220 j).trans ((k218 j).trans (k217 j n116)))))⟩

set_option maxRecDepth 100000 in
theorem fx_flags_1_1 {sL : Nat} {sx : Nat → Int32} {cs : Nat → Nat → Option Int32} {H : am_H} {x0 : Int32} (h116 : am_is H 116 (.inr (1, [.ref 117, .ref 119, .ref 121, .int 127, .int 0, .int 0, .int 0, .int 0, .int 0, .int 0]))) (h119 : am_is H 119 (.inr (0, [.ref 120, .int 0, .int 0]))) (c1 : ¬ ((x0 &&& 255) &&& 1) = 0)  :
    am_E sL sx cs 161 0 [(0, .ref 116), (1, .int (x0 &&& 255))] [] H (some (.int 127)) (fun H1 => (am_is H1 116 (.inr (1, [.ref 117, .ref 119, .ref 121, .int (x0 &&& 255), .int 0, .int 0, .int 0, .int 0, .int 0, .int 0])) ∧ True) ∧ ∀ j : Nat, j ≠ 116 → H1[j]? = H[j]?) := by
  refine ex_s (am_nb (m := 1) (pc1 := 1) (ls1 := [(0, .ref 116), (1, .int (x0 &&& 255))]) (st1 := [.ref 116]) (H1 := H) (k1 := 0) (n1 := 0) (by with_unfolding_all rfl)) ?_
  refine ex_s (st_get rfl h116 rfl) ?_
  refine ex_s (am_nb (m := 3) (pc1 := 7) (ls1 := [(2, .int 127), (0, .ref 116), (1, .int (x0 &&& 255))]) (st1 := [.int (x0 &&& 255), .ref 116]) (H1 := H) (k1 := 0) (n1 := 0) (by with_unfolding_all rfl)) ?_
  refine ex_put rfl h116 rfl rfl rfl ?_
  intro H217 f217 k217
  refine ex_s (am_nb (m := 6) (pc1 := 18) (ls1 := [(2, .int 127), (0, .ref 116), (1, .int (x0 &&& 255))]) (st1 := [.int 1, .ref 116]) (H1 := H217) (k1 := 0) (n1 := 0) (by with_unfolding_all rfl)) ?_
  refine ex_cv1 (as := [.int 1]) (rest := []) rfl rfl rfl rfl f217 rfl (by with_unfolding_all rfl) (by with_unfolding_all rfl) (fx_flags_2_1 f217 c1) ?_
  rintro H219 ⟨-, k219⟩
  refine ex_s (am_nb (m := 2) (pc1 := 72) (ls1 := [(2, .int 127), (0, .ref 116), (1, .int (x0 &&& 255))]) (st1 := [.int 127]) (H1 := H219) (k1 := 0) (n1 := 0) (by with_unfolding_all rfl)) ?_
  exact ex_r (st_iret rfl rfl rfl) ⟨⟨((k219 116).trans f217), trivial⟩, fun j n116 => ((k219 j).trans (k217 j n116))⟩

set_option maxRecDepth 100000 in
theorem fx_flags_0 {sL : Nat} {sx : Nat → Int32} {cs : Nat → Nat → Option Int32} {H : am_H} {v0_13 : Int32} {x0 : Int32} (h0 : am_is H 0 (.inr (11, [.ref 1, .int 0, .ref 2, .int 0, .ref 3, .ref 93, .ref 97, .ref 115, .ref 116, .ref 129, .ref 123, .ref 127, .ref 128, .int v0_13, .null, .int 0]))) (h116 : am_is H 116 (.inr (1, [.ref 117, .ref 119, .ref 121, .int 127, .int 0, .int 0, .int 0, .int 0, .int 0, .int 0]))) (h119 : am_is H 119 (.inr (0, [.ref 120, .int 0, .int 0]))) (c1 : ((x0 &&& 255) &&& 1) = 0)  :
    am_E sL sx cs 160 0 [(0, .ref 0), (1, .int x0)] [] H (some (.int 127)) (fun H1 => (am_is H1 116 (.inr (1, [.ref 117, .ref 119, .ref 121, .int (x0 &&& 255), .int 0, .int 0, .int 0, .int 0, .int 0, .int 0])) ∧ am_is H1 119 (.inr (0, [.ref 120, .int 0, .int 0])) ∧ True) ∧ ∀ j : Nat, j ≠ 116 → j ≠ 119 → H1[j]? = H[j]?) := by
  refine ex_s (am_nb (m := 1) (pc1 := 1) (ls1 := [(0, .ref 0), (1, .int x0)]) (st1 := [.ref 0]) (H1 := H) (k1 := 0) (n1 := 0) (by with_unfolding_all rfl)) ?_
  refine ex_s (st_get rfl h0 rfl) ?_
  refine ex_s (am_nb (m := 3) (pc1 := 9) (ls1 := [(0, .ref 0), (1, .int x0)]) (st1 := [.int (x0 &&& 255), .ref 116]) (H1 := H) (k1 := 0) (n1 := 0) (by with_unfolding_all rfl)) ?_
  refine ex_cv1 (as := [.int (x0 &&& 255)]) (rest := []) rfl rfl rfl rfl h116 rfl (by with_unfolding_all rfl) (by with_unfolding_all rfl) (fx_flags_1_0 h116 h119 c1) ?_
  rintro H224 ⟨⟨f224_116, f224_119, -⟩, k224⟩
  exact ex_r (st_iret rfl rfl rfl) ⟨⟨f224_116, f224_119, trivial⟩, fun j n116 n119 => (k224 j n116 n119)⟩

set_option maxRecDepth 100000 in
theorem fx_flags_1 {sL : Nat} {sx : Nat → Int32} {cs : Nat → Nat → Option Int32} {H : am_H} {v0_13 : Int32} {x0 : Int32} (h0 : am_is H 0 (.inr (11, [.ref 1, .int 0, .ref 2, .int 0, .ref 3, .ref 93, .ref 97, .ref 115, .ref 116, .ref 129, .ref 123, .ref 127, .ref 128, .int v0_13, .null, .int 0]))) (h116 : am_is H 116 (.inr (1, [.ref 117, .ref 119, .ref 121, .int 127, .int 0, .int 0, .int 0, .int 0, .int 0, .int 0]))) (h119 : am_is H 119 (.inr (0, [.ref 120, .int 0, .int 0]))) (c1 : ¬ ((x0 &&& 255) &&& 1) = 0)  :
    am_E sL sx cs 160 0 [(0, .ref 0), (1, .int x0)] [] H (some (.int 127)) (fun H1 => (am_is H1 116 (.inr (1, [.ref 117, .ref 119, .ref 121, .int (x0 &&& 255), .int 0, .int 0, .int 0, .int 0, .int 0, .int 0])) ∧ True) ∧ ∀ j : Nat, j ≠ 116 → H1[j]? = H[j]?) := by
  refine ex_s (am_nb (m := 1) (pc1 := 1) (ls1 := [(0, .ref 0), (1, .int x0)]) (st1 := [.ref 0]) (H1 := H) (k1 := 0) (n1 := 0) (by with_unfolding_all rfl)) ?_
  refine ex_s (st_get rfl h0 rfl) ?_
  refine ex_s (am_nb (m := 3) (pc1 := 9) (ls1 := [(0, .ref 0), (1, .int x0)]) (st1 := [.int (x0 &&& 255), .ref 116]) (H1 := H) (k1 := 0) (n1 := 0) (by with_unfolding_all rfl)) ?_
  refine ex_cv1 (as := [.int (x0 &&& 255)]) (rest := []) rfl rfl rfl rfl h116 rfl (by with_unfolding_all rfl) (by with_unfolding_all rfl) (fx_flags_1_1 h116 h119 c1) ?_
  rintro H225 ⟨⟨f225_116, -⟩, k225⟩
  exact ex_r (st_iret rfl rfl rfl) ⟨⟨f225_116, trivial⟩, fun j n116 => (k225 j n116)⟩

set_option maxRecDepth 100000 in
theorem fx_write_0 {sL : Nat} {sx : Nat → Int32} {cs : Nat → Nat → Option Int32} {H : am_H} {v0_13 : Int32} (h0 : am_is H 0 (.inr (11, [.ref 1, .int 0, .ref 2, .int 0, .ref 3, .ref 93, .ref 97, .ref 115, .ref 116, .ref 129, .ref 123, .ref 127, .ref 128, .int v0_13, .null, .int 0])))   :
    am_E sL sx cs 166 0 [(0, .ref 0)] [] H (some (.int 0)) (fun H1 => (am_is H1 0 (.inr (11, [.ref 1, .int 0, .ref 2, .int 0, .ref 3, .ref 93, .ref 97, .ref 115, .ref 116, .ref 129, .ref 123, .ref 127, .ref 128, .int v0_13, .null, .int 0])) ∧ True) ∧ ∀ j : Nat, j ≠ 0 → H1[j]? = H[j]?) := by
  refine ex_s (am_nb (m := 6) (pc1 := 6) (ls1 := [(2, .int 0), (1, .int 0), (0, .ref 0)]) (st1 := [.ref 0, .int 0]) (H1 := H) (k1 := 0) (n1 := 0) (by with_unfolding_all rfl)) ?_
  refine ex_s (st_get rfl h0 rfl) ?_
  refine ex_s (am_nb (m := 3) (pc1 := 36) (ls1 := [(2, .int 0), (1, .int 0), (0, .ref 0)]) (st1 := [.int 0, .ref 0]) (H1 := H) (k1 := 0) (n1 := 0) (by with_unfolding_all rfl)) ?_
  refine ex_put rfl h0 rfl rfl rfl ?_
  intro H226 f226 k226
  refine ex_s (am_nb (m := 1) (pc1 := 40) (ls1 := [(2, .int 0), (1, .int 0), (0, .ref 0)]) (st1 := [.int 0]) (H1 := H226) (k1 := 0) (n1 := 0) (by with_unfolding_all rfl)) ?_
  exact ex_r (st_iret rfl rfl rfl) ⟨⟨f226, trivial⟩, fun j n0 => (k226 j n0)⟩

set_option maxRecDepth 100000 in
theorem fx_read_1_0 {sL : Nat} {sx : Nat → Int32} {cs : Nat → Nat → Option Int32} {H : am_H}  (h121 : am_is H 121 (.inr (0, [.ref 122, .int 0, .int 0])))   :
    am_E sL sx cs 163 0 [(0, .ref 121)] [] H (some (.int 0)) (fun H1 => (True) ∧ ∀ j : Nat, H1[j]? = H[j]?) := by
  refine ex_s (am_nb (m := 1) (pc1 := 1) (ls1 := [(0, .ref 121)]) (st1 := [.ref 121]) (H1 := H) (k1 := 0) (n1 := 0) (by with_unfolding_all rfl)) ?_
  refine ex_s (st_get rfl h121 rfl) ?_
  exact ex_r (st_iret rfl rfl rfl) ⟨trivial, fun j => rfl⟩

set_option maxRecDepth 100000 in
theorem fx_read_0 {sL : Nat} {sx : Nat → Int32} {cs : Nat → Nat → Option Int32} {H : am_H} {v0_13 : Int32} {x0 : Int32} (h0 : am_is H 0 (.inr (11, [.ref 1, .int 0, .ref 2, .int 0, .ref 3, .ref 93, .ref 97, .ref 115, .ref 116, .ref 129, .ref 123, .ref 127, .ref 128, .int v0_13, .null, .int 0]))) (h116 : am_is H 116 (.inr (1, [.ref 117, .ref 119, .ref 121, .int 127, .int 0, .int 0, .int 0, .int 0, .int 0, .int 0]))) (h121 : am_is H 121 (.inr (0, [.ref 122, .int 0, .int 0]))) (c1 : x0 < 1)  :
    am_E sL sx cs 170 0 [(0, .ref 0), (1, .int x0)] [] H (some (.int (-1))) (fun H1 => (True) ∧ ∀ j : Nat, H1[j]? = H[j]?) := by
  refine ex_s (am_nb (m := 2) (pc1 := 2) (ls1 := [(0, .ref 0), (1, .int x0)]) (st1 := [.int 1, .int x0]) (H1 := H) (k1 := 0) (n1 := 0) (by with_unfolding_all rfl)) ?_
  refine ex_s (st_icmp rfl) ?_
  refine ex_pc (if_pos c1) ?_
  refine ex_s (am_nb (m := 1) (pc1 := 26) (ls1 := [(0, .ref 0), (1, .int x0)]) (st1 := [.int (-1)]) (H1 := H) (k1 := 0) (n1 := 0) (by with_unfolding_all rfl)) ?_
  exact ex_r (st_iret rfl rfl rfl) ⟨trivial, fun j => rfl⟩

set_option maxRecDepth 100000 in
theorem fx_read_1 {sL : Nat} {sx : Nat → Int32} {cs : Nat → Nat → Option Int32} {H : am_H} {v0_13 : Int32} {x0 : Int32} (h0 : am_is H 0 (.inr (11, [.ref 1, .int 0, .ref 2, .int 0, .ref 3, .ref 93, .ref 97, .ref 115, .ref 116, .ref 129, .ref 123, .ref 127, .ref 128, .int v0_13, .null, .int 0]))) (h116 : am_is H 116 (.inr (1, [.ref 117, .ref 119, .ref 121, .int 127, .int 0, .int 0, .int 0, .int 0, .int 0, .int 0]))) (h121 : am_is H 121 (.inr (0, [.ref 122, .int 0, .int 0]))) (c1 : ¬ x0 < 1) (c2 : 300 < x0)  :
    am_E sL sx cs 170 0 [(0, .ref 0), (1, .int x0)] [] H (some (.int (-1))) (fun H1 => (True) ∧ ∀ j : Nat, H1[j]? = H[j]?) := by
  refine ex_s (am_nb (m := 2) (pc1 := 2) (ls1 := [(0, .ref 0), (1, .int x0)]) (st1 := [.int 1, .int x0]) (H1 := H) (k1 := 0) (n1 := 0) (by with_unfolding_all rfl)) ?_
  refine ex_s (st_icmp rfl) ?_
  refine ex_pc (if_neg c1) ?_
  refine ex_s (am_nb (m := 2) (pc1 := 9) (ls1 := [(0, .ref 0), (1, .int x0)]) (st1 := [.int 300, .int x0]) (H1 := H) (k1 := 0) (n1 := 0) (by with_unfolding_all rfl)) ?_
  refine ex_s (st_icmp rfl) ?_
  refine ex_pc (if_pos c2) ?_
  refine ex_s (am_nb (m := 1) (pc1 := 26) (ls1 := [(0, .ref 0), (1, .int x0)]) (st1 := [.int (-1)]) (H1 := H) (k1 := 0) (n1 := 0) (by with_unfolding_all rfl)) ?_
  exact ex_r (st_iret rfl rfl rfl) ⟨trivial, fun j => rfl⟩

set_option maxRecDepth 100000 in
theorem fx_read_2 {sL : Nat} {sx : Nat → Int32} {cs : Nat → Nat → Option Int32} {H : am_H} {v0_13 : Int32} {x0 : Int32} (h0 : am_is H 0 (.inr (11, [.ref 1, .int 0, .ref 2, .int 0, .ref 3, .ref 93, .ref 97, .ref 115, .ref 116, .ref 129, .ref 123, .ref 127, .ref 128, .int v0_13, .null, .int 0]))) (h116 : am_is H 116 (.inr (1, [.ref 117, .ref 119, .ref 121, .int 127, .int 0, .int 0, .int 0, .int 0, .int 0, .int 0]))) (h121 : am_is H 121 (.inr (0, [.ref 122, .int 0, .int 0]))) (c1 : ¬ x0 < 1) (c2 : ¬ 300 < x0)  :
    am_E sL sx cs 170 0 [(0, .ref 0), (1, .int x0)] [] H (some (.int (-1))) (fun H1 => (True) ∧ ∀ j : Nat, H1[j]? = H[j]?) := by
  refine ex_s (am_nb (m := 2) (pc1 := 2) (ls1 := [(0, .ref 0), (1, .int x0)]) (st1 := [.int 1, .int x0]) (H1 := H) (k1 := 0) (n1 := 0) (by with_unfolding_all rfl)) ?_
  refine ex_s (st_icmp rfl) ?_
  refine ex_pc (if_neg c1) ?_
  refine ex_s (am_nb (m := 2) (pc1 := 9) (ls1 := [(0, .ref 0), (1, .int x0)]) (st1 := [.int 300, .int x0]) (H1 := H) (k1 := 0) (n1 := 0) (by with_unfolding_all rfl)) ?_
  refine ex_s (st_icmp rfl) ?_
  refine ex_pc (if_neg c2) ?_
  refine ex_s (am_nb (m := 1) (pc1 := 13) (ls1 := [(0, .ref 0), (1, .int x0)]) (st1 := [.ref 0]) (H1 := H) (k1 := 0) (n1 := 0) (by with_unfolding_all rfl)) ?_
  refine ex_s (st_get rfl h0 rfl) ?_
  refine ex_s (st_get rfl h116 rfl) ?_
  refine ex_cv1 (as := []) (rest := []) rfl rfl rfl rfl h121 rfl (by with_unfolding_all rfl) (by with_unfolding_all rfl) (fx_read_1_0 h121) ?_
  rintro H227 ⟨-, k227⟩
  refine ex_s (am_nb (m := 2) (pc1 := 26) (ls1 := [(0, .ref 0), (1, .int x0)]) (st1 := [.int (-1)]) (H1 := H227) (k1 := 0) (n1 := 0) (by with_unfolding_all rfl)) ?_
  exact ex_r (st_iret rfl rfl rfl) ⟨trivial, fun j => (k227 j)⟩

set_option maxRecDepth 100000 in
theorem fx_key_1_0 {sL : Nat} {sx : Nat → Int32} {cs : Nat → Nat → Option Int32} {H : am_H} {x0 : Int32} {x1 : Int32} (h123 : am_is H 123 (.inr (4, [.ref 124, .ref 125, .int 0, .int (-1), .int 0, .ref 126]))) (h124 : am_is H 124 (.inl (.boolean, (127, .inl (fun _ => 0))))) (h125 : am_is H 125 (.inl (.boolean, (127, .inl (fun _ => 0))))) (c1 : x0 < 0)  :
    am_E sL sx cs 174 0 [(0, .ref 123), (1, .int x0), (2, .int x1)] [] H (some (.int 0)) (fun H1 => (True) ∧ ∀ j : Nat, H1[j]? = H[j]?) := by
  refine ex_s (am_nb (m := 1) (pc1 := 1) (ls1 := [(0, .ref 123), (1, .int x0), (2, .int x1)]) (st1 := [.int x0]) (H1 := H) (k1 := 0) (n1 := 0) (by with_unfolding_all rfl)) ?_
  refine ex_s (st_if rfl) ?_
  refine ex_pc (if_pos c1) ?_
  refine ex_s (am_nb (m := 1) (pc1 := 23) (ls1 := [(0, .ref 123), (1, .int x0), (2, .int x1)]) (st1 := [.int 0]) (H1 := H) (k1 := 0) (n1 := 0) (by with_unfolding_all rfl)) ?_
  exact ex_r (st_iret rfl rfl rfl) ⟨trivial, fun j => rfl⟩

set_option maxRecDepth 100000 in
theorem fx_key_1_1 {sL : Nat} {sx : Nat → Int32} {cs : Nat → Nat → Option Int32} {H : am_H} {x0 : Int32} {x1 : Int32} (h123 : am_is H 123 (.inr (4, [.ref 124, .ref 125, .int 0, .int (-1), .int 0, .ref 126]))) (h124 : am_is H 124 (.inl (.boolean, (127, .inl (fun _ => 0))))) (h125 : am_is H 125 (.inl (.boolean, (127, .inl (fun _ => 0))))) (c1 : ¬ x0 < 0) (c2 : 127 ≤ x0)  :
    am_E sL sx cs 174 0 [(0, .ref 123), (1, .int x0), (2, .int x1)] [] H (some (.int 0)) (fun H1 => (True) ∧ ∀ j : Nat, H1[j]? = H[j]?) := by
  refine ex_s (am_nb (m := 1) (pc1 := 1) (ls1 := [(0, .ref 123), (1, .int x0), (2, .int x1)]) (st1 := [.int x0]) (H1 := H) (k1 := 0) (n1 := 0) (by with_unfolding_all rfl)) ?_
  refine ex_s (st_if rfl) ?_
  refine ex_pc (if_neg c1) ?_
  refine ex_s (am_nb (m := 2) (pc1 := 7) (ls1 := [(0, .ref 123), (1, .int x0), (2, .int x1)]) (st1 := [.int 127, .int x0]) (H1 := H) (k1 := 0) (n1 := 0) (by with_unfolding_all rfl)) ?_
  refine ex_s (st_icmp rfl) ?_
  refine ex_pc (if_pos c2) ?_
  refine ex_s (am_nb (m := 1) (pc1 := 23) (ls1 := [(0, .ref 123), (1, .int x0), (2, .int x1)]) (st1 := [.int 0]) (H1 := H) (k1 := 0) (n1 := 0) (by with_unfolding_all rfl)) ?_
  exact ex_r (st_iret rfl rfl rfl) ⟨trivial, fun j => rfl⟩

set_option maxRecDepth 100000 in
theorem fx_key_1_2 {sL : Nat} {sx : Nat → Int32} {cs : Nat → Nat → Option Int32} {H : am_H} {x0 : Int32} {x1 : Int32} (h123 : am_is H 123 (.inr (4, [.ref 124, .ref 125, .int 0, .int (-1), .int 0, .ref 126]))) (h124 : am_is H 124 (.inl (.boolean, (127, .inl (fun _ => 0))))) (h125 : am_is H 125 (.inl (.boolean, (127, .inl (fun _ => 0))))) (c1 : ¬ x0 < 0) (c2 : ¬ 127 ≤ x0) (c3 : x0 ≤ 28) (c4 : x1 = 0) (s1 : ¬ (x0 < 0 ∨ 127 ≤ x0.toNatClampNeg)) :
    am_E sL sx cs 174 0 [(0, .ref 123), (1, .int x0), (2, .int x1)] [] H (some (.int 1)) (fun H1 => (am_is H1 124 (.inl (.boolean, (127, .inl (upd (fun _ => 0) x0.toNatClampNeg (vp_nar .boolean x1))))) ∧ True) ∧ ∀ j : Nat, j ≠ 124 → H1[j]? = H[j]?) := by
  refine ex_s (am_nb (m := 1) (pc1 := 1) (ls1 := [(0, .ref 123), (1, .int x0), (2, .int x1)]) (st1 := [.int x0]) (H1 := H) (k1 := 0) (n1 := 0) (by with_unfolding_all rfl)) ?_
  refine ex_s (st_if rfl) ?_
  refine ex_pc (if_neg c1) ?_
  refine ex_s (am_nb (m := 2) (pc1 := 7) (ls1 := [(0, .ref 123), (1, .int x0), (2, .int x1)]) (st1 := [.int 127, .int x0]) (H1 := H) (k1 := 0) (n1 := 0) (by with_unfolding_all rfl)) ?_
  refine ex_s (st_icmp rfl) ?_
  refine ex_pc (if_neg c2) ?_
  refine ex_s (am_nb (m := 2) (pc1 := 13) (ls1 := [(0, .ref 123), (1, .int x0), (2, .int x1)]) (st1 := [.int 28, .int x0]) (H1 := H) (k1 := 0) (n1 := 0) (by with_unfolding_all rfl)) ?_
  refine ex_s (st_icmp rfl) ?_
  refine ex_pc (if_pos c3) ?_
  refine ex_s (am_nb (m := 2) (pc1 := 26) (ls1 := [(0, .ref 123), (1, .int x0), (2, .int x1)]) (st1 := [.ref 123, .int x1]) (H1 := H) (k1 := 0) (n1 := 0) (by with_unfolding_all rfl)) ?_
  refine ex_s (st_get rfl h123 rfl) ?_
  refine ex_s (am_nb (m := 1) (pc1 := 30) (ls1 := [(0, .ref 123), (1, .int x0), (2, .int x1)]) (st1 := [.int x0, .ref 124, .int x1]) (H1 := H) (k1 := 0) (n1 := 0) (by with_unfolding_all rfl)) ?_
  refine ex_s (st_zald rfl h124 s1) ?_
  refine ex_s (st_icmp rfl) ?_
  refine ex_pc (if_pos c4) ?_
  refine ex_s (am_nb (m := 1) (pc1 := 62) (ls1 := [(0, .ref 123), (1, .int x0), (2, .int x1)]) (st1 := [.ref 123]) (H1 := H) (k1 := 0) (n1 := 0) (by with_unfolding_all rfl)) ?_
  refine ex_s (st_get rfl h123 rfl) ?_
  refine ex_s (am_nb (m := 2) (pc1 := 67) (ls1 := [(0, .ref 123), (1, .int x0), (2, .int x1)]) (st1 := [.int x1, .int x0, .ref 124]) (H1 := H) (k1 := 0) (n1 := 0) (by with_unfolding_all rfl)) ?_
  refine ex_zast rfl h124 s1 ?_
  intro H228 f228 k228
  refine ex_s (am_nb (m := 1) (pc1 := 69) (ls1 := [(0, .ref 123), (1, .int x0), (2, .int x1)]) (st1 := [.int 1]) (H1 := H228) (k1 := 0) (n1 := 0) (by with_unfolding_all rfl)) ?_
  exact ex_r (st_iret rfl rfl rfl) ⟨⟨f228, trivial⟩, fun j n124 => (k228 j n124)⟩

set_option maxRecDepth 100000 in
theorem fx_key_1_3 {sL : Nat} {sx : Nat → Int32} {cs : Nat → Nat → Option Int32} {H : am_H} {x0 : Int32} {x1 : Int32} (h123 : am_is H 123 (.inr (4, [.ref 124, .ref 125, .int 0, .int (-1), .int 0, .ref 126]))) (h124 : am_is H 124 (.inl (.boolean, (127, .inl (fun _ => 0))))) (h125 : am_is H 125 (.inl (.boolean, (127, .inl (fun _ => 0))))) (c1 : ¬ x0 < 0) (c2 : ¬ 127 ≤ x0) (c3 : x0 ≤ 28) (c4 : ¬ x1 = 0) (s1 : ¬ (x0 < 0 ∨ 127 ≤ x0.toNatClampNeg)) :
    am_E sL sx cs 174 0 [(0, .ref 123), (1, .int x0), (2, .int x1)] [] H (some (.int 1)) (fun H1 => (am_is H1 123 (.inr (4, [.ref 124, .ref 125, .int 1, .int (-1), .int 0, .ref 126])) ∧ am_is H1 124 (.inl (.boolean, (127, .inl (upd (fun _ => 0) x0.toNatClampNeg (vp_nar .boolean x1))))) ∧ True) ∧ ∀ j : Nat, j ≠ 123 → j ≠ 124 → H1[j]? = H[j]?) := by
  refine ex_s (am_nb (m := 1) (pc1 := 1) (ls1 := [(0, .ref 123), (1, .int x0), (2, .int x1)]) (st1 := [.int x0]) (H1 := H) (k1 := 0) (n1 := 0) (by with_unfolding_all rfl)) ?_
  refine ex_s (st_if rfl) ?_
  refine ex_pc (if_neg c1) ?_
  refine ex_s (am_nb (m := 2) (pc1 := 7) (ls1 := [(0, .ref 123), (1, .int x0), (2, .int x1)]) (st1 := [.int 127, .int x0]) (H1 := H) (k1 := 0) (n1 := 0) (by with_unfolding_all rfl)) ?_
  refine ex_s (st_icmp rfl) ?_
  refine ex_pc (if_neg c2) ?_
  refine ex_s (am_nb (m := 2) (pc1 := 13) (ls1 := [(0, .ref 123), (1, .int x0), (2, .int x1)]) (st1 := [.int 28, .int x0]) (H1 := H) (k1 := 0) (n1 := 0) (by with_unfolding_all rfl)) ?_
  refine ex_s (st_icmp rfl) ?_
  refine ex_pc (if_pos c3) ?_
  refine ex_s (am_nb (m := 2) (pc1 := 26) (ls1 := [(0, .ref 123), (1, .int x0), (2, .int x1)]) (st1 := [.ref 123, .int x1]) (H1 := H) (k1 := 0) (n1 := 0) (by with_unfolding_all rfl)) ?_
  refine ex_s (st_get rfl h123 rfl) ?_
  refine ex_s (am_nb (m := 1) (pc1 := 30) (ls1 := [(0, .ref 123), (1, .int x0), (2, .int x1)]) (st1 := [.int x0, .ref 124, .int x1]) (H1 := H) (k1 := 0) (n1 := 0) (by with_unfolding_all rfl)) ?_
  refine ex_s (st_zald rfl h124 s1) ?_
  refine ex_s (st_icmp rfl) ?_
  refine ex_pc (if_neg c4) ?_
  refine ex_s (am_nb (m := 1) (pc1 := 35) (ls1 := [(0, .ref 123), (1, .int x0), (2, .int x1)]) (st1 := [.ref 123]) (H1 := H) (k1 := 0) (n1 := 0) (by with_unfolding_all rfl)) ?_
  refine ex_s (st_get rfl h123 rfl) ?_
  refine ex_s (am_nb (m := 1) (pc1 := 39) (ls1 := [(0, .ref 123), (1, .int x0), (2, .int x1)]) (st1 := [.int x0, .ref 125]) (H1 := H) (k1 := 0) (n1 := 0) (by with_unfolding_all rfl)) ?_
  refine ex_s (st_zald rfl h125 s1) ?_
  refine ex_s (am_nb (m := 3) (pc1 := 45) (ls1 := [(0, .ref 123), (1, .int x0), (2, .int x1)]) (st1 := [.ref 123, .ref 123]) (H1 := H) (k1 := 0) (n1 := 0) (by with_unfolding_all rfl)) ?_
  refine ex_s (st_get rfl h123 rfl) ?_
  refine ex_s (am_nb (m := 1) (pc1 := 49) (ls1 := [(0, .ref 123), (1, .int x0), (2, .int x1)]) (st1 := [.int x1, .int 0, .ref 123]) (H1 := H) (k1 := 0) (n1 := 0) (by with_unfolding_all rfl)) ?_
  refine ex_s (st_if rfl) ?_
  refine ex_pc (if_neg c4) ?_
  refine ex_s (am_nb (m := 3) (pc1 := 58) (ls1 := [(0, .ref 123), (1, .int x0), (2, .int x1)]) (st1 := [.int 1, .ref 123]) (H1 := H) (k1 := 0) (n1 := 0) (by with_unfolding_all rfl)) ?_
  refine ex_put rfl h123 rfl rfl rfl ?_
  intro H229 f229 k229
  refine ex_s (am_nb (m := 1) (pc1 := 62) (ls1 := [(0, .ref 123), (1, .int x0), (2, .int x1)]) (st1 := [.ref 123]) (H1 := H229) (k1 := 0) (n1 := 0) (by with_unfolding_all rfl)) ?_
  refine ex_s (st_get rfl f229 rfl) ?_
  refine ex_s (am_nb (m := 2) (pc1 := 67) (ls1 := [(0, .ref 123), (1, .int x0), (2, .int x1)]) (st1 := [.int x1, .int x0, .ref 124]) (H1 := H229) (k1 := 0) (n1 := 0) (by with_unfolding_all rfl)) ?_
  refine ex_zast rfl ((k229 124 (by decide)).trans h124) s1 ?_
  intro H230 f230 k230
  refine ex_s (am_nb (m := 1) (pc1 := 69) (ls1 := [(0, .ref 123), (1, .int x0), (2, .int x1)]) (st1 := [.int 1]) (H1 := H230) (k1 := 0) (n1 := 0) (by with_unfolding_all rfl)) ?_
  exact ex_r (st_iret rfl rfl rfl) ⟨⟨((k230 123 (by decide)).trans f229), f230, trivial⟩, fun j n123 n124 => ((k230 j n124).trans (k229 j n123))⟩

set_option maxRecDepth 100000 in
theorem fx_key_1_4 {sL : Nat} {sx : Nat → Int32} {cs : Nat → Nat → Option Int32} {H : am_H} {x0 : Int32} {x1 : Int32} (h123 : am_is H 123 (.inr (4, [.ref 124, .ref 125, .int 0, .int (-1), .int 0, .ref 126]))) (h124 : am_is H 124 (.inl (.boolean, (127, .inl (fun _ => 0))))) (h125 : am_is H 125 (.inl (.boolean, (127, .inl (fun _ => 0))))) (c1 : ¬ x0 < 0) (c2 : ¬ 127 ≤ x0) (c3 : ¬ x0 ≤ 28) (c4 : 32 ≤ x0) (c5 : x1 = 0) (s1 : ¬ (x0 < 0 ∨ 127 ≤ x0.toNatClampNeg)) :
    am_E sL sx cs 174 0 [(0, .ref 123), (1, .int x0), (2, .int x1)] [] H (some (.int 1)) (fun H1 => (am_is H1 124 (.inl (.boolean, (127, .inl (upd (fun _ => 0) x0.toNatClampNeg (vp_nar .boolean x1))))) ∧ True) ∧ ∀ j : Nat, j ≠ 124 → H1[j]? = H[j]?) := by
  refine ex_s (am_nb (m := 1) (pc1 := 1) (ls1 := [(0, .ref 123), (1, .int x0), (2, .int x1)]) (st1 := [.int x0]) (H1 := H) (k1 := 0) (n1 := 0) (by with_unfolding_all rfl)) ?_
  refine ex_s (st_if rfl) ?_
  refine ex_pc (if_neg c1) ?_
  refine ex_s (am_nb (m := 2) (pc1 := 7) (ls1 := [(0, .ref 123), (1, .int x0), (2, .int x1)]) (st1 := [.int 127, .int x0]) (H1 := H) (k1 := 0) (n1 := 0) (by with_unfolding_all rfl)) ?_
  refine ex_s (st_icmp rfl) ?_
  refine ex_pc (if_neg c2) ?_
  refine ex_s (am_nb (m := 2) (pc1 := 13) (ls1 := [(0, .ref 123), (1, .int x0), (2, .int x1)]) (st1 := [.int 28, .int x0]) (H1 := H) (k1 := 0) (n1 := 0) (by with_unfolding_all rfl)) ?_
  refine ex_s (st_icmp rfl) ?_
  refine ex_pc (if_neg c3) ?_
  refine ex_s (am_nb (m := 2) (pc1 := 19) (ls1 := [(0, .ref 123), (1, .int x0), (2, .int x1)]) (st1 := [.int 32, .int x0]) (H1 := H) (k1 := 0) (n1 := 0) (by with_unfolding_all rfl)) ?_
  refine ex_s (st_icmp rfl) ?_
  refine ex_pc (if_pos c4) ?_
  refine ex_s (am_nb (m := 2) (pc1 := 26) (ls1 := [(0, .ref 123), (1, .int x0), (2, .int x1)]) (st1 := [.ref 123, .int x1]) (H1 := H) (k1 := 0) (n1 := 0) (by with_unfolding_all rfl)) ?_
  refine ex_s (st_get rfl h123 rfl) ?_
  refine ex_s (am_nb (m := 1) (pc1 := 30) (ls1 := [(0, .ref 123), (1, .int x0), (2, .int x1)]) (st1 := [.int x0, .ref 124, .int x1]) (H1 := H) (k1 := 0) (n1 := 0) (by with_unfolding_all rfl)) ?_
  refine ex_s (st_zald rfl h124 s1) ?_
  refine ex_s (st_icmp rfl) ?_
  refine ex_pc (if_pos c5) ?_
  refine ex_s (am_nb (m := 1) (pc1 := 62) (ls1 := [(0, .ref 123), (1, .int x0), (2, .int x1)]) (st1 := [.ref 123]) (H1 := H) (k1 := 0) (n1 := 0) (by with_unfolding_all rfl)) ?_
  refine ex_s (st_get rfl h123 rfl) ?_
  refine ex_s (am_nb (m := 2) (pc1 := 67) (ls1 := [(0, .ref 123), (1, .int x0), (2, .int x1)]) (st1 := [.int x1, .int x0, .ref 124]) (H1 := H) (k1 := 0) (n1 := 0) (by with_unfolding_all rfl)) ?_
  refine ex_zast rfl h124 s1 ?_
  intro H231 f231 k231
  refine ex_s (am_nb (m := 1) (pc1 := 69) (ls1 := [(0, .ref 123), (1, .int x0), (2, .int x1)]) (st1 := [.int 1]) (H1 := H231) (k1 := 0) (n1 := 0) (by with_unfolding_all rfl)) ?_
  exact ex_r (st_iret rfl rfl rfl) ⟨⟨f231, trivial⟩, fun j n124 => (k231 j n124)⟩

set_option maxRecDepth 100000 in
theorem fx_key_1_5 {sL : Nat} {sx : Nat → Int32} {cs : Nat → Nat → Option Int32} {H : am_H} {x0 : Int32} {x1 : Int32} (h123 : am_is H 123 (.inr (4, [.ref 124, .ref 125, .int 0, .int (-1), .int 0, .ref 126]))) (h124 : am_is H 124 (.inl (.boolean, (127, .inl (fun _ => 0))))) (h125 : am_is H 125 (.inl (.boolean, (127, .inl (fun _ => 0))))) (c1 : ¬ x0 < 0) (c2 : ¬ 127 ≤ x0) (c3 : ¬ x0 ≤ 28) (c4 : 32 ≤ x0) (c5 : ¬ x1 = 0) (s1 : ¬ (x0 < 0 ∨ 127 ≤ x0.toNatClampNeg)) :
    am_E sL sx cs 174 0 [(0, .ref 123), (1, .int x0), (2, .int x1)] [] H (some (.int 1)) (fun H1 => (am_is H1 123 (.inr (4, [.ref 124, .ref 125, .int 1, .int (-1), .int 0, .ref 126])) ∧ am_is H1 124 (.inl (.boolean, (127, .inl (upd (fun _ => 0) x0.toNatClampNeg (vp_nar .boolean x1))))) ∧ True) ∧ ∀ j : Nat, j ≠ 123 → j ≠ 124 → H1[j]? = H[j]?) := by
  refine ex_s (am_nb (m := 1) (pc1 := 1) (ls1 := [(0, .ref 123), (1, .int x0), (2, .int x1)]) (st1 := [.int x0]) (H1 := H) (k1 := 0) (n1 := 0) (by with_unfolding_all rfl)) ?_
  refine ex_s (st_if rfl) ?_
  refine ex_pc (if_neg c1) ?_
  refine ex_s (am_nb (m := 2) (pc1 := 7) (ls1 := [(0, .ref 123), (1, .int x0), (2, .int x1)]) (st1 := [.int 127, .int x0]) (H1 := H) (k1 := 0) (n1 := 0) (by with_unfolding_all rfl)) ?_
  refine ex_s (st_icmp rfl) ?_
  refine ex_pc (if_neg c2) ?_
  refine ex_s (am_nb (m := 2) (pc1 := 13) (ls1 := [(0, .ref 123), (1, .int x0), (2, .int x1)]) (st1 := [.int 28, .int x0]) (H1 := H) (k1 := 0) (n1 := 0) (by with_unfolding_all rfl)) ?_
  refine ex_s (st_icmp rfl) ?_
  refine ex_pc (if_neg c3) ?_
  refine ex_s (am_nb (m := 2) (pc1 := 19) (ls1 := [(0, .ref 123), (1, .int x0), (2, .int x1)]) (st1 := [.int 32, .int x0]) (H1 := H) (k1 := 0) (n1 := 0) (by with_unfolding_all rfl)) ?_
  refine ex_s (st_icmp rfl) ?_
  refine ex_pc (if_pos c4) ?_
  refine ex_s (am_nb (m := 2) (pc1 := 26) (ls1 := [(0, .ref 123), (1, .int x0), (2, .int x1)]) (st1 := [.ref 123, .int x1]) (H1 := H) (k1 := 0) (n1 := 0) (by with_unfolding_all rfl)) ?_
  refine ex_s (st_get rfl h123 rfl) ?_
  refine ex_s (am_nb (m := 1) (pc1 := 30) (ls1 := [(0, .ref 123), (1, .int x0), (2, .int x1)]) (st1 := [.int x0, .ref 124, .int x1]) (H1 := H) (k1 := 0) (n1 := 0) (by with_unfolding_all rfl)) ?_
  refine ex_s (st_zald rfl h124 s1) ?_
  refine ex_s (st_icmp rfl) ?_
  refine ex_pc (if_neg c5) ?_
  refine ex_s (am_nb (m := 1) (pc1 := 35) (ls1 := [(0, .ref 123), (1, .int x0), (2, .int x1)]) (st1 := [.ref 123]) (H1 := H) (k1 := 0) (n1 := 0) (by with_unfolding_all rfl)) ?_
  refine ex_s (st_get rfl h123 rfl) ?_
  refine ex_s (am_nb (m := 1) (pc1 := 39) (ls1 := [(0, .ref 123), (1, .int x0), (2, .int x1)]) (st1 := [.int x0, .ref 125]) (H1 := H) (k1 := 0) (n1 := 0) (by with_unfolding_all rfl)) ?_
  refine ex_s (st_zald rfl h125 s1) ?_
  refine ex_s (am_nb (m := 3) (pc1 := 45) (ls1 := [(0, .ref 123), (1, .int x0), (2, .int x1)]) (st1 := [.ref 123, .ref 123]) (H1 := H) (k1 := 0) (n1 := 0) (by with_unfolding_all rfl)) ?_
  refine ex_s (st_get rfl h123 rfl) ?_
  refine ex_s (am_nb (m := 1) (pc1 := 49) (ls1 := [(0, .ref 123), (1, .int x0), (2, .int x1)]) (st1 := [.int x1, .int 0, .ref 123]) (H1 := H) (k1 := 0) (n1 := 0) (by with_unfolding_all rfl)) ?_
  refine ex_s (st_if rfl) ?_
  refine ex_pc (if_neg c5) ?_
  refine ex_s (am_nb (m := 3) (pc1 := 58) (ls1 := [(0, .ref 123), (1, .int x0), (2, .int x1)]) (st1 := [.int 1, .ref 123]) (H1 := H) (k1 := 0) (n1 := 0) (by with_unfolding_all rfl)) ?_
  refine ex_put rfl h123 rfl rfl rfl ?_
  intro H232 f232 k232
  refine ex_s (am_nb (m := 1) (pc1 := 62) (ls1 := [(0, .ref 123), (1, .int x0), (2, .int x1)]) (st1 := [.ref 123]) (H1 := H232) (k1 := 0) (n1 := 0) (by with_unfolding_all rfl)) ?_
  refine ex_s (st_get rfl f232 rfl) ?_
  refine ex_s (am_nb (m := 2) (pc1 := 67) (ls1 := [(0, .ref 123), (1, .int x0), (2, .int x1)]) (st1 := [.int x1, .int x0, .ref 124]) (H1 := H232) (k1 := 0) (n1 := 0) (by with_unfolding_all rfl)) ?_
  refine ex_zast rfl ((k232 124 (by decide)).trans h124) s1 ?_
  intro H233 f233 k233
  refine ex_s (am_nb (m := 1) (pc1 := 69) (ls1 := [(0, .ref 123), (1, .int x0), (2, .int x1)]) (st1 := [.int 1]) (H1 := H233) (k1 := 0) (n1 := 0) (by with_unfolding_all rfl)) ?_
  exact ex_r (st_iret rfl rfl rfl) ⟨⟨((k233 123 (by decide)).trans f232), f233, trivial⟩, fun j n123 n124 => ((k233 j n124).trans (k232 j n123))⟩

set_option maxRecDepth 100000 in
theorem fx_key_1_6 {sL : Nat} {sx : Nat → Int32} {cs : Nat → Nat → Option Int32} {H : am_H} {x0 : Int32} {x1 : Int32} (h123 : am_is H 123 (.inr (4, [.ref 124, .ref 125, .int 0, .int (-1), .int 0, .ref 126]))) (h124 : am_is H 124 (.inl (.boolean, (127, .inl (fun _ => 0))))) (h125 : am_is H 125 (.inl (.boolean, (127, .inl (fun _ => 0))))) (c1 : ¬ x0 < 0) (c2 : ¬ 127 ≤ x0) (c3 : ¬ x0 ≤ 28) (c4 : ¬ 32 ≤ x0)  :
    am_E sL sx cs 174 0 [(0, .ref 123), (1, .int x0), (2, .int x1)] [] H (some (.int 0)) (fun H1 => (True) ∧ ∀ j : Nat, H1[j]? = H[j]?) := by
  refine ex_s (am_nb (m := 1) (pc1 := 1) (ls1 := [(0, .ref 123), (1, .int x0), (2, .int x1)]) (st1 := [.int x0]) (H1 := H) (k1 := 0) (n1 := 0) (by with_unfolding_all rfl)) ?_
  refine ex_s (st_if rfl) ?_
  refine ex_pc (if_neg c1) ?_
  refine ex_s (am_nb (m := 2) (pc1 := 7) (ls1 := [(0, .ref 123), (1, .int x0), (2, .int x1)]) (st1 := [.int 127, .int x0]) (H1 := H) (k1 := 0) (n1 := 0) (by with_unfolding_all rfl)) ?_
  refine ex_s (st_icmp rfl) ?_
  refine ex_pc (if_neg c2) ?_
  refine ex_s (am_nb (m := 2) (pc1 := 13) (ls1 := [(0, .ref 123), (1, .int x0), (2, .int x1)]) (st1 := [.int 28, .int x0]) (H1 := H) (k1 := 0) (n1 := 0) (by with_unfolding_all rfl)) ?_
  refine ex_s (st_icmp rfl) ?_
  refine ex_pc (if_neg c3) ?_
  refine ex_s (am_nb (m := 2) (pc1 := 19) (ls1 := [(0, .ref 123), (1, .int x0), (2, .int x1)]) (st1 := [.int 32, .int x0]) (H1 := H) (k1 := 0) (n1 := 0) (by with_unfolding_all rfl)) ?_
  refine ex_s (st_icmp rfl) ?_
  refine ex_pc (if_neg c4) ?_
  refine ex_s (am_nb (m := 1) (pc1 := 23) (ls1 := [(0, .ref 123), (1, .int x0), (2, .int x1)]) (st1 := [.int 0]) (H1 := H) (k1 := 0) (n1 := 0) (by with_unfolding_all rfl)) ?_
  exact ex_r (st_iret rfl rfl rfl) ⟨trivial, fun j => rfl⟩

set_option maxRecDepth 100000 in
theorem fx_key_0 {sL : Nat} {sx : Nat → Int32} {cs : Nat → Nat → Option Int32} {H : am_H} {v0_13 : Int32} {x0 : Int32} {x1 : Int32} (h0 : am_is H 0 (.inr (11, [.ref 1, .int 0, .ref 2, .int 0, .ref 3, .ref 93, .ref 97, .ref 115, .ref 116, .ref 129, .ref 123, .ref 127, .ref 128, .int v0_13, .null, .int 0]))) (h123 : am_is H 123 (.inr (4, [.ref 124, .ref 125, .int 0, .int (-1), .int 0, .ref 126]))) (h124 : am_is H 124 (.inl (.boolean, (127, .inl (fun _ => 0))))) (h125 : am_is H 125 (.inl (.boolean, (127, .inl (fun _ => 0))))) (c1 : x0 < 0)  :
    am_E sL sx cs 173 0 [(0, .ref 0), (1, .int x0), (2, .int x1)] [] H (some (.int 0)) (fun H1 => (True) ∧ ∀ j : Nat, H1[j]? = H[j]?) := by
  refine ex_s (am_nb (m := 1) (pc1 := 1) (ls1 := [(0, .ref 0), (1, .int x0), (2, .int x1)]) (st1 := [.ref 0]) (H1 := H) (k1 := 0) (n1 := 0) (by with_unfolding_all rfl)) ?_
  refine ex_s (st_get rfl h0 rfl) ?_
  refine ex_s (am_nb (m := 2) (pc1 := 6) (ls1 := [(0, .ref 0), (1, .int x0), (2, .int x1)]) (st1 := [.int x1, .int x0, .ref 123]) (H1 := H) (k1 := 0) (n1 := 0) (by with_unfolding_all rfl)) ?_
  refine ex_cv1 (as := [.int x0, .int x1]) (rest := []) rfl rfl rfl rfl h123 rfl (by with_unfolding_all rfl) (by with_unfolding_all rfl) (fx_key_1_0 h123 h124 h125 c1) ?_
  rintro H234 ⟨-, k234⟩
  exact ex_r (st_iret rfl rfl rfl) ⟨trivial, fun j => (k234 j)⟩

set_option maxRecDepth 100000 in
theorem fx_key_1 {sL : Nat} {sx : Nat → Int32} {cs : Nat → Nat → Option Int32} {H : am_H} {v0_13 : Int32} {x0 : Int32} {x1 : Int32} (h0 : am_is H 0 (.inr (11, [.ref 1, .int 0, .ref 2, .int 0, .ref 3, .ref 93, .ref 97, .ref 115, .ref 116, .ref 129, .ref 123, .ref 127, .ref 128, .int v0_13, .null, .int 0]))) (h123 : am_is H 123 (.inr (4, [.ref 124, .ref 125, .int 0, .int (-1), .int 0, .ref 126]))) (h124 : am_is H 124 (.inl (.boolean, (127, .inl (fun _ => 0))))) (h125 : am_is H 125 (.inl (.boolean, (127, .inl (fun _ => 0))))) (c1 : ¬ x0 < 0) (c2 : 127 ≤ x0)  :
    am_E sL sx cs 173 0 [(0, .ref 0), (1, .int x0), (2, .int x1)] [] H (some (.int 0)) (fun H1 => (True) ∧ ∀ j : Nat, H1[j]? = H[j]?) := by
  refine ex_s (am_nb (m := 1) (pc1 := 1) (ls1 := [(0, .ref 0), (1, .int x0), (2, .int x1)]) (st1 := [.ref 0]) (H1 := H) (k1 := 0) (n1 := 0) (by with_unfolding_all rfl)) ?_
  refine ex_s (st_get rfl h0 rfl) ?_
  refine ex_s (am_nb (m := 2) (pc1 := 6) (ls1 := [(0, .ref 0), (1, .int x0), (2, .int x1)]) (st1 := [.int x1, .int x0, .ref 123]) (H1 := H) (k1 := 0) (n1 := 0) (by with_unfolding_all rfl)) ?_
  refine ex_cv1 (as := [.int x0, .int x1]) (rest := []) rfl rfl rfl rfl h123 rfl (by with_unfolding_all rfl) (by with_unfolding_all rfl) (fx_key_1_1 h123 h124 h125 c1 c2) ?_
  rintro H235 ⟨-, k235⟩
  exact ex_r (st_iret rfl rfl rfl) ⟨trivial, fun j => (k235 j)⟩

set_option maxRecDepth 100000 in
theorem fx_key_2 {sL : Nat} {sx : Nat → Int32} {cs : Nat → Nat → Option Int32} {H : am_H} {v0_13 : Int32} {x0 : Int32} {x1 : Int32} (h0 : am_is H 0 (.inr (11, [.ref 1, .int 0, .ref 2, .int 0, .ref 3, .ref 93, .ref 97, .ref 115, .ref 116, .ref 129, .ref 123, .ref 127, .ref 128, .int v0_13, .null, .int 0]))) (h123 : am_is H 123 (.inr (4, [.ref 124, .ref 125, .int 0, .int (-1), .int 0, .ref 126]))) (h124 : am_is H 124 (.inl (.boolean, (127, .inl (fun _ => 0))))) (h125 : am_is H 125 (.inl (.boolean, (127, .inl (fun _ => 0))))) (c1 : ¬ x0 < 0) (c2 : ¬ 127 ≤ x0) (c3 : x0 ≤ 28) (c4 : x1 = 0) (s1 : ¬ (x0 < 0 ∨ 127 ≤ x0.toNatClampNeg)) :
    am_E sL sx cs 173 0 [(0, .ref 0), (1, .int x0), (2, .int x1)] [] H (some (.int 1)) (fun H1 => (am_is H1 124 (.inl (.boolean, (127, .inl (upd (fun _ => 0) x0.toNatClampNeg (vp_nar .boolean x1))))) ∧ True) ∧ ∀ j : Nat, j ≠ 124 → H1[j]? = H[j]?) := by
  refine ex_s (am_nb (m := 1) (pc1 := 1) (ls1 := [(0, .ref 0), (1, .int x0), (2, .int x1)]) (st1 := [.ref 0]) (H1 := H) (k1 := 0) (n1 := 0) (by with_unfolding_all rfl)) ?_
  refine ex_s (st_get rfl h0 rfl) ?_
  refine ex_s (am_nb (m := 2) (pc1 := 6) (ls1 := [(0, .ref 0), (1, .int x0), (2, .int x1)]) (st1 := [.int x1, .int x0, .ref 123]) (H1 := H) (k1 := 0) (n1 := 0) (by with_unfolding_all rfl)) ?_
  refine ex_cv1 (as := [.int x0, .int x1]) (rest := []) rfl rfl rfl rfl h123 rfl (by with_unfolding_all rfl) (by with_unfolding_all rfl) (fx_key_1_2 h123 h124 h125 c1 c2 c3 c4 s1) ?_
  rintro H236 ⟨⟨f236_124, -⟩, k236⟩
  exact ex_r (st_iret rfl rfl rfl) ⟨⟨f236_124, trivial⟩, fun j n124 => (k236 j n124)⟩

set_option maxRecDepth 100000 in
theorem fx_key_3 {sL : Nat} {sx : Nat → Int32} {cs : Nat → Nat → Option Int32} {H : am_H} {v0_13 : Int32} {x0 : Int32} {x1 : Int32} (h0 : am_is H 0 (.inr (11, [.ref 1, .int 0, .ref 2, .int 0, .ref 3, .ref 93, .ref 97, .ref 115, .ref 116, .ref 129, .ref 123, .ref 127, .ref 128, .int v0_13, .null, .int 0]))) (h123 : am_is H 123 (.inr (4, [.ref 124, .ref 125, .int 0, .int (-1), .int 0, .ref 126]))) (h124 : am_is H 124 (.inl (.boolean, (127, .inl (fun _ => 0))))) (h125 : am_is H 125 (.inl (.boolean, (127, .inl (fun _ => 0))))) (c1 : ¬ x0 < 0) (c2 : ¬ 127 ≤ x0) (c3 : x0 ≤ 28) (c4 : ¬ x1 = 0) (s1 : ¬ (x0 < 0 ∨ 127 ≤ x0.toNatClampNeg)) :
    am_E sL sx cs 173 0 [(0, .ref 0), (1, .int x0), (2, .int x1)] [] H (some (.int 1)) (fun H1 => (am_is H1 123 (.inr (4, [.ref 124, .ref 125, .int 1, .int (-1), .int 0, .ref 126])) ∧ am_is H1 124 (.inl (.boolean, (127, .inl (upd (fun _ => 0) x0.toNatClampNeg (vp_nar .boolean x1))))) ∧ True) ∧ ∀ j : Nat, j ≠ 123 → j ≠ 124 → H1[j]? = H[j]?) := by
  refine ex_s (am_nb (m := 1) (pc1 := 1) (ls1 := [(0, .ref 0), (1, .int x0), (2, .int x1)]) (st1 := [.ref 0]) (H1 := H) (k1 := 0) (n1 := 0) (by with_unfolding_all rfl)) ?_
  refine ex_s (st_get rfl h0 rfl) ?_
  refine ex_s (am_nb (m := 2) (pc1 := 6) (ls1 := [(0, .ref 0), (1, .int x0), (2, .int x1)]) (st1 := [.int x1, .int x0, .ref 123]) (H1 := H) (k1 := 0) (n1 := 0) (by with_unfolding_all rfl)) ?_
  refine ex_cv1 (as := [.int x0, .int x1]) (rest := []) rfl rfl rfl rfl h123 rfl (by with_unfolding_all rfl) (by with_unfolding_all rfl) (fx_key_1_3 h123 h124 h125 c1 c2 c3 c4 s1) ?_
  rintro H237 ⟨⟨f237_123, f237_124, -⟩, k237⟩
  exact ex_r (st_iret rfl rfl rfl) ⟨⟨f237_123, f237_124, trivial⟩, fun j n123 n124 => (k237 j n123 n124)⟩

set_option maxRecDepth 100000 in
theorem fx_key_4 {sL : Nat} {sx : Nat → Int32} {cs : Nat → Nat → Option Int32} {H : am_H} {v0_13 : Int32} {x0 : Int32} {x1 : Int32} (h0 : am_is H 0 (.inr (11, [.ref 1, .int 0, .ref 2, .int 0, .ref 3, .ref 93, .ref 97, .ref 115, .ref 116, .ref 129, .ref 123, .ref 127, .ref 128, .int v0_13, .null, .int 0]))) (h123 : am_is H 123 (.inr (4, [.ref 124, .ref 125, .int 0, .int (-1), .int 0, .ref 126]))) (h124 : am_is H 124 (.inl (.boolean, (127, .inl (fun _ => 0))))) (h125 : am_is H 125 (.inl (.boolean, (127, .inl (fun _ => 0))))) (c1 : ¬ x0 < 0) (c2 : ¬ 127 ≤ x0) (c3 : ¬ x0 ≤ 28) (c4 : 32 ≤ x0) (c5 : x1 = 0) (s1 : ¬ (x0 < 0 ∨ 127 ≤ x0.toNatClampNeg)) :
    am_E sL sx cs 173 0 [(0, .ref 0), (1, .int x0), (2, .int x1)] [] H (some (.int 1)) (fun H1 => (am_is H1 124 (.inl (.boolean, (127, .inl (upd (fun _ => 0) x0.toNatClampNeg (vp_nar .boolean x1))))) ∧ True) ∧ ∀ j : Nat, j ≠ 124 → H1[j]? = H[j]?) := by
  refine ex_s (am_nb (m := 1) (pc1 := 1) (ls1 := [(0, .ref 0), (1, .int x0), (2, .int x1)]) (st1 := [.ref 0]) (H1 := H) (k1 := 0) (n1 := 0) (by with_unfolding_all rfl)) ?_
  refine ex_s (st_get rfl h0 rfl) ?_
  refine ex_s (am_nb (m := 2) (pc1 := 6) (ls1 := [(0, .ref 0), (1, .int x0), (2, .int x1)]) (st1 := [.int x1, .int x0, .ref 123]) (H1 := H) (k1 := 0) (n1 := 0) (by with_unfolding_all rfl)) ?_
  refine ex_cv1 (as := [.int x0, .int x1]) (rest := []) rfl rfl rfl rfl h123 rfl (by with_unfolding_all rfl) (by with_unfolding_all rfl) (fx_key_1_4 h123 h124 h125 c1 c2 c3 c4 c5 s1) ?_
  rintro H238 ⟨⟨f238_124, -⟩, k238⟩
  exact ex_r (st_iret rfl rfl rfl) ⟨⟨f238_124, trivial⟩, fun j n124 => (k238 j n124)⟩

set_option maxRecDepth 100000 in
theorem fx_key_5 {sL : Nat} {sx : Nat → Int32} {cs : Nat → Nat → Option Int32} {H : am_H} {v0_13 : Int32} {x0 : Int32} {x1 : Int32} (h0 : am_is H 0 (.inr (11, [.ref 1, .int 0, .ref 2, .int 0, .ref 3, .ref 93, .ref 97, .ref 115, .ref 116, .ref 129, .ref 123, .ref 127, .ref 128, .int v0_13, .null, .int 0]))) (h123 : am_is H 123 (.inr (4, [.ref 124, .ref 125, .int 0, .int (-1), .int 0, .ref 126]))) (h124 : am_is H 124 (.inl (.boolean, (127, .inl (fun _ => 0))))) (h125 : am_is H 125 (.inl (.boolean, (127, .inl (fun _ => 0))))) (c1 : ¬ x0 < 0) (c2 : ¬ 127 ≤ x0) (c3 : ¬ x0 ≤ 28) (c4 : 32 ≤ x0) (c5 : ¬ x1 = 0) (s1 : ¬ (x0 < 0 ∨ 127 ≤ x0.toNatClampNeg)) :
    am_E sL sx cs 173 0 [(0, .ref 0), (1, .int x0), (2, .int x1)] [] H (some (.int 1)) (fun H1 => (am_is H1 123 (.inr (4, [.ref 124, .ref 125, .int 1, .int (-1), .int 0, .ref 126])) ∧ am_is H1 124 (.inl (.boolean, (127, .inl (upd (fun _ => 0) x0.toNatClampNeg (vp_nar .boolean x1))))) ∧ True) ∧ ∀ j : Nat, j ≠ 123 → j ≠ 124 → H1[j]? = H[j]?) := by
  refine ex_s (am_nb (m := 1) (pc1 := 1) (ls1 := [(0, .ref 0), (1, .int x0), (2, .int x1)]) (st1 := [.ref 0]) (H1 := H) (k1 := 0) (n1 := 0) (by with_unfolding_all rfl)) ?_
  refine ex_s (st_get rfl h0 rfl) ?_
  refine ex_s (am_nb (m := 2) (pc1 := 6) (ls1 := [(0, .ref 0), (1, .int x0), (2, .int x1)]) (st1 := [.int x1, .int x0, .ref 123]) (H1 := H) (k1 := 0) (n1 := 0) (by with_unfolding_all rfl)) ?_
  refine ex_cv1 (as := [.int x0, .int x1]) (rest := []) rfl rfl rfl rfl h123 rfl (by with_unfolding_all rfl) (by with_unfolding_all rfl) (fx_key_1_5 h123 h124 h125 c1 c2 c3 c4 c5 s1) ?_
  rintro H239 ⟨⟨f239_123, f239_124, -⟩, k239⟩
  exact ex_r (st_iret rfl rfl rfl) ⟨⟨f239_123, f239_124, trivial⟩, fun j n123 n124 => (k239 j n123 n124)⟩

set_option maxRecDepth 100000 in
theorem fx_key_6 {sL : Nat} {sx : Nat → Int32} {cs : Nat → Nat → Option Int32} {H : am_H} {v0_13 : Int32} {x0 : Int32} {x1 : Int32} (h0 : am_is H 0 (.inr (11, [.ref 1, .int 0, .ref 2, .int 0, .ref 3, .ref 93, .ref 97, .ref 115, .ref 116, .ref 129, .ref 123, .ref 127, .ref 128, .int v0_13, .null, .int 0]))) (h123 : am_is H 123 (.inr (4, [.ref 124, .ref 125, .int 0, .int (-1), .int 0, .ref 126]))) (h124 : am_is H 124 (.inl (.boolean, (127, .inl (fun _ => 0))))) (h125 : am_is H 125 (.inl (.boolean, (127, .inl (fun _ => 0))))) (c1 : ¬ x0 < 0) (c2 : ¬ 127 ≤ x0) (c3 : ¬ x0 ≤ 28) (c4 : ¬ 32 ≤ x0)  :
    am_E sL sx cs 173 0 [(0, .ref 0), (1, .int x0), (2, .int x1)] [] H (some (.int 0)) (fun H1 => (True) ∧ ∀ j : Nat, H1[j]? = H[j]?) := by
  refine ex_s (am_nb (m := 1) (pc1 := 1) (ls1 := [(0, .ref 0), (1, .int x0), (2, .int x1)]) (st1 := [.ref 0]) (H1 := H) (k1 := 0) (n1 := 0) (by with_unfolding_all rfl)) ?_
  refine ex_s (st_get rfl h0 rfl) ?_
  refine ex_s (am_nb (m := 2) (pc1 := 6) (ls1 := [(0, .ref 0), (1, .int x0), (2, .int x1)]) (st1 := [.int x1, .int x0, .ref 123]) (H1 := H) (k1 := 0) (n1 := 0) (by with_unfolding_all rfl)) ?_
  refine ex_cv1 (as := [.int x0, .int x1]) (rest := []) rfl rfl rfl rfl h123 rfl (by with_unfolding_all rfl) (by with_unfolding_all rfl) (fx_key_1_6 h123 h124 h125 c1 c2 c3 c4) ?_
  rintro H240 ⟨-, k240⟩
  exact ex_r (st_iret rfl rfl rfl) ⟨trivial, fun j => (k240 j)⟩

set_option maxRecDepth 100000 in
theorem fx_spoil_1_0 {sL : Nat} {sx : Nat → Int32} {cs : Nat → Nat → Option Int32} {H : am_H}  (h127 : am_is H 127 (.inr (10, [.int (-1), .int 0, .int 0, .int 0])))   :
    am_E sL sx cs 176 0 [(0, .ref 127)] [] H (some (.int 0)) (fun H1 => (am_is H1 127 (.inr (10, [.int (-1), .int 0, .int 0, .int 0])) ∧ True) ∧ ∀ j : Nat, j ≠ 127 → H1[j]? = H[j]?) := by
  refine ex_s (am_nb (m := 2) (pc1 := 2) (ls1 := [(0, .ref 127)]) (st1 := [.ref 127, .ref 127]) (H1 := H) (k1 := 0) (n1 := 0) (by with_unfolding_all rfl)) ?_
  refine ex_s (st_get rfl h127 rfl) ?_
  refine ex_s (am_nb (m := 3) (pc1 := 14) (ls1 := [(0, .ref 127)]) (st1 := [.int 0, .ref 127]) (H1 := H) (k1 := 0) (n1 := 0) (by with_unfolding_all rfl)) ?_
  refine ex_put rfl h127 rfl rfl rfl ?_
  intro H241 f241 k241
  refine ex_s (am_nb (m := 1) (pc1 := 18) (ls1 := [(0, .ref 127)]) (st1 := [.ref 127]) (H1 := H241) (k1 := 0) (n1 := 0) (by with_unfolding_all rfl)) ?_
  refine ex_s (st_get rfl f241 rfl) ?_
  exact ex_r (st_iret rfl rfl rfl) ⟨⟨f241, trivial⟩, fun j n127 => (k241 j n127)⟩

set_option maxRecDepth 100000 in
theorem fx_spoil_2_0 {sL : Nat} {sx : Nat → Int32} {cs : Nat → Nat → Option Int32} {H : am_H}  (h128 : am_is H 128 (.inr (10, [.int (-1), .int 0, .int 0, .int 0])))   :
    am_E sL sx cs 176 0 [(0, .ref 128)] [] H (some (.int 0)) (fun H1 => (am_is H1 128 (.inr (10, [.int (-1), .int 0, .int 0, .int 0])) ∧ True) ∧ ∀ j : Nat, j ≠ 128 → H1[j]? = H[j]?) := by
  refine ex_s (am_nb (m := 2) (pc1 := 2) (ls1 := [(0, .ref 128)]) (st1 := [.ref 128, .ref 128]) (H1 := H) (k1 := 0) (n1 := 0) (by with_unfolding_all rfl)) ?_
  refine ex_s (st_get rfl h128 rfl) ?_
  refine ex_s (am_nb (m := 3) (pc1 := 14) (ls1 := [(0, .ref 128)]) (st1 := [.int 0, .ref 128]) (H1 := H) (k1 := 0) (n1 := 0) (by with_unfolding_all rfl)) ?_
  refine ex_put rfl h128 rfl rfl rfl ?_
  intro H243 f243 k243
  refine ex_s (am_nb (m := 1) (pc1 := 18) (ls1 := [(0, .ref 128)]) (st1 := [.ref 128]) (H1 := H243) (k1 := 0) (n1 := 0) (by with_unfolding_all rfl)) ?_
  refine ex_s (st_get rfl f243 rfl) ?_
  exact ex_r (st_iret rfl rfl rfl) ⟨⟨f243, trivial⟩, fun j n128 => (k243 j n128)⟩

set_option maxRecDepth 100000 in
theorem fx_spoil_0 {sL : Nat} {sx : Nat → Int32} {cs : Nat → Nat → Option Int32} {H : am_H} {v0_13 : Int32} {x0 : Int32} (h0 : am_is H 0 (.inr (11, [.ref 1, .int 0, .ref 2, .int 0, .ref 3, .ref 93, .ref 97, .ref 115, .ref 116, .ref 129, .ref 123, .ref 127, .ref 128, .int v0_13, .null, .int 0]))) (h127 : am_is H 127 (.inr (10, [.int (-1), .int 0, .int 0, .int 0]))) (h128 : am_is H 128 (.inr (10, [.int (-1), .int 0, .int 0, .int 0]))) (c1 : x0 = 0)  :
    am_E sL sx cs 175 0 [(0, .ref 0), (1, .int x0)] [] H (some (.int 0)) (fun H1 => (am_is H1 127 (.inr (10, [.int (-1), .int 0, .int 0, .int 0])) ∧ True) ∧ ∀ j : Nat, j ≠ 127 → H1[j]? = H[j]?) := by
  refine ex_s (am_nb (m := 1) (pc1 := 1) (ls1 := [(0, .ref 0), (1, .int x0)]) (st1 := [.int x0]) (H1 := H) (k1 := 0) (n1 := 0) (by with_unfolding_all rfl)) ?_
  refine ex_s (st_lsw rfl) ?_
  refine ex_pc (if_pos c1) ?_
  refine ex_s (am_nb (m := 1) (pc1 := 29) (ls1 := [(0, .ref 0), (1, .int x0)]) (st1 := [.ref 0]) (H1 := H) (k1 := 0) (n1 := 0) (by with_unfolding_all rfl)) ?_
  refine ex_s (st_get rfl h0 rfl) ?_
  refine ex_cv1 (as := []) (rest := []) rfl rfl rfl rfl h127 rfl (by with_unfolding_all rfl) (by with_unfolding_all rfl) (fx_spoil_1_0 h127) ?_
  rintro H242 ⟨⟨f242_127, -⟩, k242⟩
  exact ex_r (st_iret rfl rfl rfl) ⟨⟨f242_127, trivial⟩, fun j n127 => (k242 j n127)⟩

set_option maxRecDepth 100000 in
theorem fx_spoil_1 {sL : Nat} {sx : Nat → Int32} {cs : Nat → Nat → Option Int32} {H : am_H} {v0_13 : Int32} {x0 : Int32} (h0 : am_is H 0 (.inr (11, [.ref 1, .int 0, .ref 2, .int 0, .ref 3, .ref 93, .ref 97, .ref 115, .ref 116, .ref 129, .ref 123, .ref 127, .ref 128, .int v0_13, .null, .int 0]))) (h127 : am_is H 127 (.inr (10, [.int (-1), .int 0, .int 0, .int 0]))) (h128 : am_is H 128 (.inr (10, [.int (-1), .int 0, .int 0, .int 0]))) (c1 : ¬ x0 = 0) (c2 : x0 = 1)  :
    am_E sL sx cs 175 0 [(0, .ref 0), (1, .int x0)] [] H (some (.int 0)) (fun H1 => (am_is H1 128 (.inr (10, [.int (-1), .int 0, .int 0, .int 0])) ∧ True) ∧ ∀ j : Nat, j ≠ 128 → H1[j]? = H[j]?) := by
  refine ex_s (am_nb (m := 1) (pc1 := 1) (ls1 := [(0, .ref 0), (1, .int x0)]) (st1 := [.int x0]) (H1 := H) (k1 := 0) (n1 := 0) (by with_unfolding_all rfl)) ?_
  refine ex_s (st_lsw rfl) ?_
  refine ex_pc (if_neg c1) ?_
  refine ex_pc (if_pos c2) ?_
  refine ex_s (am_nb (m := 1) (pc1 := 37) (ls1 := [(0, .ref 0), (1, .int x0)]) (st1 := [.ref 0]) (H1 := H) (k1 := 0) (n1 := 0) (by with_unfolding_all rfl)) ?_
  refine ex_s (st_get rfl h0 rfl) ?_
  refine ex_cv1 (as := []) (rest := []) rfl rfl rfl rfl h128 rfl (by with_unfolding_all rfl) (by with_unfolding_all rfl) (fx_spoil_2_0 h128) ?_
  rintro H244 ⟨⟨f244_128, -⟩, k244⟩
  exact ex_r (st_iret rfl rfl rfl) ⟨⟨f244_128, trivial⟩, fun j n128 => (k244 j n128)⟩

set_option maxRecDepth 100000 in
theorem fx_spoil_2 {sL : Nat} {sx : Nat → Int32} {cs : Nat → Nat → Option Int32} {H : am_H} {v0_13 : Int32} {x0 : Int32} (h0 : am_is H 0 (.inr (11, [.ref 1, .int 0, .ref 2, .int 0, .ref 3, .ref 93, .ref 97, .ref 115, .ref 116, .ref 129, .ref 123, .ref 127, .ref 128, .int v0_13, .null, .int 0]))) (h127 : am_is H 127 (.inr (10, [.int (-1), .int 0, .int 0, .int 0]))) (h128 : am_is H 128 (.inr (10, [.int (-1), .int 0, .int 0, .int 0]))) (c1 : ¬ x0 = 0) (c2 : ¬ x0 = 1)  :
    am_E sL sx cs 175 0 [(0, .ref 0), (1, .int x0)] [] H (some (.int 0)) (fun H1 => (True) ∧ ∀ j : Nat, H1[j]? = H[j]?) := by
  refine ex_s (am_nb (m := 1) (pc1 := 1) (ls1 := [(0, .ref 0), (1, .int x0)]) (st1 := [.int x0]) (H1 := H) (k1 := 0) (n1 := 0) (by with_unfolding_all rfl)) ?_
  refine ex_s (st_lsw rfl) ?_
  refine ex_pc (if_neg c1) ?_
  refine ex_pc (if_neg c2) ?_
  refine ex_pc (pc1 := 44) rfl ?_
  refine ex_s (am_nb (m := 1) (pc1 := 45) (ls1 := [(0, .ref 0), (1, .int x0)]) (st1 := [.int 0]) (H1 := H) (k1 := 0) (n1 := 0) (by with_unfolding_all rfl)) ?_
  exact ex_r (st_iret rfl rfl rfl) ⟨trivial, fun j => rfl⟩

set_option maxRecDepth 100000 in
theorem fx_screen_1_0 {sL : Nat} {sx : Nat → Int32} {cs : Nat → Nat → Option Int32} {H : am_H} {v136_0 : Int32} {v136_1 : Int32} {v136_9 : Int32} {x0 : Int32} {x1 : Int32} (h136 : am_is H 136 (.inr (3, [.int v136_0, .int v136_1, .ref 138, .ref 139, .ref 140, .int 0, .int 0, .int 0, .int 0, .int v136_9, .int 96, .int 0, .int 0, .int 0, .int 0, .int 0, .int 0, .ref 137]))) (c1 : x0 < 0)  :
    am_E sL sx cs 249 0 [(0, .ref 136), (1, .int x0), (2, .int x1)] [] H (some (.int 0)) (fun H1 => (True) ∧ ∀ j : Nat, H1[j]? = H[j]?) := by
  refine ex_s (am_nb (m := 1) (pc1 := 1) (ls1 := [(0, .ref 136), (1, .int x0), (2, .int x1)]) (st1 := [.int x0]) (H1 := H) (k1 := 0) (n1 := 0) (by with_unfolding_all rfl)) ?_
  refine ex_s (st_if rfl) ?_
  refine ex_pc (if_pos c1) ?_
  refine ex_s (am_nb (m := 1) (pc1 := 29) (ls1 := [(0, .ref 136), (1, .int x0), (2, .int x1)]) (st1 := [.int 0]) (H1 := H) (k1 := 0) (n1 := 0) (by with_unfolding_all rfl)) ?_
  exact ex_r (st_iret rfl rfl rfl) ⟨trivial, fun j => rfl⟩

set_option maxRecDepth 100000 in
theorem fx_screen_1_1 {sL : Nat} {sx : Nat → Int32} {cs : Nat → Nat → Option Int32} {H : am_H} {v136_0 : Int32} {v136_1 : Int32} {v136_9 : Int32} {x0 : Int32} {x1 : Int32} (h136 : am_is H 136 (.inr (3, [.int v136_0, .int v136_1, .ref 138, .ref 139, .ref 140, .int 0, .int 0, .int 0, .int 0, .int v136_9, .int 96, .int 0, .int 0, .int 0, .int 0, .int 0, .int 0, .ref 137]))) (c1 : ¬ x0 < 0) (c2 : v136_0 ≤ x0)  :
    am_E sL sx cs 249 0 [(0, .ref 136), (1, .int x0), (2, .int x1)] [] H (some (.int 0)) (fun H1 => (True) ∧ ∀ j : Nat, H1[j]? = H[j]?) := by
  refine ex_s (am_nb (m := 1) (pc1 := 1) (ls1 := [(0, .ref 136), (1, .int x0), (2, .int x1)]) (st1 := [.int x0]) (H1 := H) (k1 := 0) (n1 := 0) (by with_unfolding_all rfl)) ?_
  refine ex_s (st_if rfl) ?_
  refine ex_pc (if_neg c1) ?_
  refine ex_s (am_nb (m := 2) (pc1 := 6) (ls1 := [(0, .ref 136), (1, .int x0), (2, .int x1)]) (st1 := [.ref 136, .int x0]) (H1 := H) (k1 := 0) (n1 := 0) (by with_unfolding_all rfl)) ?_
  refine ex_s (st_get rfl h136 rfl) ?_
  refine ex_s (st_icmp rfl) ?_
  refine ex_pc (if_pos c2) ?_
  refine ex_s (am_nb (m := 1) (pc1 := 29) (ls1 := [(0, .ref 136), (1, .int x0), (2, .int x1)]) (st1 := [.int 0]) (H1 := H) (k1 := 0) (n1 := 0) (by with_unfolding_all rfl)) ?_
  exact ex_r (st_iret rfl rfl rfl) ⟨trivial, fun j => rfl⟩

set_option maxRecDepth 100000 in
theorem fx_screen_1_2 {sL : Nat} {sx : Nat → Int32} {cs : Nat → Nat → Option Int32} {H : am_H} {v136_0 : Int32} {v136_1 : Int32} {v136_9 : Int32} {x0 : Int32} {x1 : Int32} (h136 : am_is H 136 (.inr (3, [.int v136_0, .int v136_1, .ref 138, .ref 139, .ref 140, .int 0, .int 0, .int 0, .int 0, .int v136_9, .int 96, .int 0, .int 0, .int 0, .int 0, .int 0, .int 0, .ref 137]))) (c1 : ¬ x0 < 0) (c2 : ¬ v136_0 ≤ x0) (c3 : x1 < 0)  :
    am_E sL sx cs 249 0 [(0, .ref 136), (1, .int x0), (2, .int x1)] [] H (some (.int 0)) (fun H1 => (True) ∧ ∀ j : Nat, H1[j]? = H[j]?) := by
  refine ex_s (am_nb (m := 1) (pc1 := 1) (ls1 := [(0, .ref 136), (1, .int x0), (2, .int x1)]) (st1 := [.int x0]) (H1 := H) (k1 := 0) (n1 := 0) (by with_unfolding_all rfl)) ?_
  refine ex_s (st_if rfl) ?_
  refine ex_pc (if_neg c1) ?_
  refine ex_s (am_nb (m := 2) (pc1 := 6) (ls1 := [(0, .ref 136), (1, .int x0), (2, .int x1)]) (st1 := [.ref 136, .int x0]) (H1 := H) (k1 := 0) (n1 := 0) (by with_unfolding_all rfl)) ?_
  refine ex_s (st_get rfl h136 rfl) ?_
  refine ex_s (st_icmp rfl) ?_
  refine ex_pc (if_neg c2) ?_
  refine ex_s (am_nb (m := 1) (pc1 := 13) (ls1 := [(0, .ref 136), (1, .int x0), (2, .int x1)]) (st1 := [.int x1]) (H1 := H) (k1 := 0) (n1 := 0) (by with_unfolding_all rfl)) ?_
  refine ex_s (st_if rfl) ?_
  refine ex_pc (if_pos c3) ?_
  refine ex_s (am_nb (m := 1) (pc1 := 29) (ls1 := [(0, .ref 136), (1, .int x0), (2, .int x1)]) (st1 := [.int 0]) (H1 := H) (k1 := 0) (n1 := 0) (by with_unfolding_all rfl)) ?_
  exact ex_r (st_iret rfl rfl rfl) ⟨trivial, fun j => rfl⟩

set_option maxRecDepth 100000 in
theorem fx_screen_1_3 {sL : Nat} {sx : Nat → Int32} {cs : Nat → Nat → Option Int32} {H : am_H} {v136_0 : Int32} {v136_1 : Int32} {v136_9 : Int32} {x0 : Int32} {x1 : Int32} (h136 : am_is H 136 (.inr (3, [.int v136_0, .int v136_1, .ref 138, .ref 139, .ref 140, .int 0, .int 0, .int 0, .int 0, .int v136_9, .int 96, .int 0, .int 0, .int 0, .int 0, .int 0, .int 0, .ref 137]))) (c1 : ¬ x0 < 0) (c2 : ¬ v136_0 ≤ x0) (c3 : ¬ x1 < 0) (c4 : v136_1 ≤ x1)  :
    am_E sL sx cs 249 0 [(0, .ref 136), (1, .int x0), (2, .int x1)] [] H (some (.int 0)) (fun H1 => (True) ∧ ∀ j : Nat, H1[j]? = H[j]?) := by
  refine ex_s (am_nb (m := 1) (pc1 := 1) (ls1 := [(0, .ref 136), (1, .int x0), (2, .int x1)]) (st1 := [.int x0]) (H1 := H) (k1 := 0) (n1 := 0) (by with_unfolding_all rfl)) ?_
  refine ex_s (st_if rfl) ?_
  refine ex_pc (if_neg c1) ?_
  refine ex_s (am_nb (m := 2) (pc1 := 6) (ls1 := [(0, .ref 136), (1, .int x0), (2, .int x1)]) (st1 := [.ref 136, .int x0]) (H1 := H) (k1 := 0) (n1 := 0) (by with_unfolding_all rfl)) ?_
  refine ex_s (st_get rfl h136 rfl) ?_
  refine ex_s (st_icmp rfl) ?_
  refine ex_pc (if_neg c2) ?_
  refine ex_s (am_nb (m := 1) (pc1 := 13) (ls1 := [(0, .ref 136), (1, .int x0), (2, .int x1)]) (st1 := [.int x1]) (H1 := H) (k1 := 0) (n1 := 0) (by with_unfolding_all rfl)) ?_
  refine ex_s (st_if rfl) ?_
  refine ex_pc (if_neg c3) ?_
  refine ex_s (am_nb (m := 2) (pc1 := 18) (ls1 := [(0, .ref 136), (1, .int x0), (2, .int x1)]) (st1 := [.ref 136, .int x1]) (H1 := H) (k1 := 0) (n1 := 0) (by with_unfolding_all rfl)) ?_
  refine ex_s (st_get rfl h136 rfl) ?_
  refine ex_s (st_icmp rfl) ?_
  refine ex_pc (if_pos c4) ?_
  refine ex_s (am_nb (m := 1) (pc1 := 29) (ls1 := [(0, .ref 136), (1, .int x0), (2, .int x1)]) (st1 := [.int 0]) (H1 := H) (k1 := 0) (n1 := 0) (by with_unfolding_all rfl)) ?_
  exact ex_r (st_iret rfl rfl rfl) ⟨trivial, fun j => rfl⟩

set_option maxRecDepth 100000 in
theorem fx_screen_1_4 {sL : Nat} {sx : Nat → Int32} {cs : Nat → Nat → Option Int32} {H : am_H} {v136_0 : Int32} {v136_1 : Int32} {v136_9 : Int32} {x0 : Int32} {x1 : Int32} (h136 : am_is H 136 (.inr (3, [.int v136_0, .int v136_1, .ref 138, .ref 139, .ref 140, .int 0, .int 0, .int 0, .int 0, .int v136_9, .int 96, .int 0, .int 0, .int 0, .int 0, .int 0, .int 0, .ref 137]))) (c1 : ¬ x0 < 0) (c2 : ¬ v136_0 ≤ x0) (c3 : ¬ x1 < 0) (c4 : ¬ v136_1 ≤ x1)  :
    am_E sL sx cs 249 0 [(0, .ref 136), (1, .int x0), (2, .int x1)] [] H (some (.int 1)) (fun H1 => (True) ∧ ∀ j : Nat, H1[j]? = H[j]?) := by
  refine ex_s (am_nb (m := 1) (pc1 := 1) (ls1 := [(0, .ref 136), (1, .int x0), (2, .int x1)]) (st1 := [.int x0]) (H1 := H) (k1 := 0) (n1 := 0) (by with_unfolding_all rfl)) ?_
  refine ex_s (st_if rfl) ?_
  refine ex_pc (if_neg c1) ?_
  refine ex_s (am_nb (m := 2) (pc1 := 6) (ls1 := [(0, .ref 136), (1, .int x0), (2, .int x1)]) (st1 := [.ref 136, .int x0]) (H1 := H) (k1 := 0) (n1 := 0) (by with_unfolding_all rfl)) ?_
  refine ex_s (st_get rfl h136 rfl) ?_
  refine ex_s (st_icmp rfl) ?_
  refine ex_pc (if_neg c2) ?_
  refine ex_s (am_nb (m := 1) (pc1 := 13) (ls1 := [(0, .ref 136), (1, .int x0), (2, .int x1)]) (st1 := [.int x1]) (H1 := H) (k1 := 0) (n1 := 0) (by with_unfolding_all rfl)) ?_
  refine ex_s (st_if rfl) ?_
  refine ex_pc (if_neg c3) ?_
  refine ex_s (am_nb (m := 2) (pc1 := 18) (ls1 := [(0, .ref 136), (1, .int x0), (2, .int x1)]) (st1 := [.ref 136, .int x1]) (H1 := H) (k1 := 0) (n1 := 0) (by with_unfolding_all rfl)) ?_
  refine ex_s (st_get rfl h136 rfl) ?_
  refine ex_s (st_icmp rfl) ?_
  refine ex_pc (if_neg c4) ?_
  refine ex_s (am_nb (m := 2) (pc1 := 29) (ls1 := [(0, .ref 136), (1, .int x0), (2, .int x1)]) (st1 := [.int 1]) (H1 := H) (k1 := 0) (n1 := 0) (by with_unfolding_all rfl)) ?_
  exact ex_r (st_iret rfl rfl rfl) ⟨trivial, fun j => rfl⟩

set_option maxRecDepth 100000 in
theorem fx_screen_0 {sL : Nat} {sx : Nat → Int32} {cs : Nat → Nat → Option Int32} {H : am_H} {v0_13 : Int32} {v136_0 : Int32} {v136_1 : Int32} {v136_9 : Int32} {m138 : Nat} {g138 : Nat → Int32} {x0 : Int32} {x1 : Int32} (h0 : am_is H 0 (.inr (11, [.ref 1, .int 0, .ref 2, .int 0, .ref 3, .ref 93, .ref 97, .ref 115, .ref 116, .ref 129, .ref 123, .ref 127, .ref 128, .int v0_13, .null, .int 0]))) (h129 : am_is H 129 (.inr (8, [.ref 136, .ref 130, .ref 132, .ref 134, .int 0, .int 0, .int 0, .int 0, .int 0, .int 0, .int 0, .ref 135, .int 0, .int 0, .int 0]))) (h136 : am_is H 136 (.inr (3, [.int v136_0, .int v136_1, .ref 138, .ref 139, .ref 140, .int 0, .int 0, .int 0, .int 0, .int v136_9, .int 96, .int 0, .int 0, .int 0, .int 0, .int 0, .int 0, .ref 137]))) (h138 : am_is H 138 (.inl (.int, (m138, .inl g138)))) (c1 : x0 < 0)  :
    am_E sL sx cs 248 0 [(0, .ref 0), (1, .int x0), (2, .int x1)] [] H (some (.int (-1))) (fun H1 => (True) ∧ ∀ j : Nat, H1[j]? = H[j]?) := by
  refine ex_s (am_nb (m := 1) (pc1 := 1) (ls1 := [(0, .ref 0), (1, .int x0), (2, .int x1)]) (st1 := [.ref 0]) (H1 := H) (k1 := 0) (n1 := 0) (by with_unfolding_all rfl)) ?_
  refine ex_s (st_get rfl h0 rfl) ?_
  refine ex_s (st_get rfl h129 rfl) ?_
  refine ex_s (am_nb (m := 4) (pc1 := 11) (ls1 := [(3, .ref 136), (0, .ref 0), (1, .int x0), (2, .int x1)]) (st1 := [.int x1, .int x0, .ref 136]) (H1 := H) (k1 := 0) (n1 := 0) (by with_unfolding_all rfl)) ?_
  refine ex_cv1 (as := [.int x0, .int x1]) (rest := []) rfl rfl rfl rfl h136 rfl (by with_unfolding_all rfl) (by with_unfolding_all rfl) (fx_screen_1_0 h136 c1) ?_
  rintro H245 ⟨-, k245⟩
  refine ex_s (am_nb (m := 2) (pc1 := 34) (ls1 := [(3, .ref 136), (0, .ref 0), (1, .int x0), (2, .int x1)]) (st1 := [.int (-1)]) (H1 := H245) (k1 := 0) (n1 := 0) (by with_unfolding_all rfl)) ?_
  exact ex_r (st_iret rfl rfl rfl) ⟨trivial, fun j => (k245 j)⟩

set_option maxRecDepth 100000 in
theorem fx_screen_1 {sL : Nat} {sx : Nat → Int32} {cs : Nat → Nat → Option Int32} {H : am_H} {v0_13 : Int32} {v136_0 : Int32} {v136_1 : Int32} {v136_9 : Int32} {m138 : Nat} {g138 : Nat → Int32} {x0 : Int32} {x1 : Int32} (h0 : am_is H 0 (.inr (11, [.ref 1, .int 0, .ref 2, .int 0, .ref 3, .ref 93, .ref 97, .ref 115, .ref 116, .ref 129, .ref 123, .ref 127, .ref 128, .int v0_13, .null, .int 0]))) (h129 : am_is H 129 (.inr (8, [.ref 136, .ref 130, .ref 132, .ref 134, .int 0, .int 0, .int 0, .int 0, .int 0, .int 0, .int 0, .ref 135, .int 0, .int 0, .int 0]))) (h136 : am_is H 136 (.inr (3, [.int v136_0, .int v136_1, .ref 138, .ref 139, .ref 140, .int 0, .int 0, .int 0, .int 0, .int v136_9, .int 96, .int 0, .int 0, .int 0, .int 0, .int 0, .int 0, .ref 137]))) (h138 : am_is H 138 (.inl (.int, (m138, .inl g138)))) (c1 : ¬ x0 < 0) (c2 : v136_0 ≤ x0)  :
    am_E sL sx cs 248 0 [(0, .ref 0), (1, .int x0), (2, .int x1)] [] H (some (.int (-1))) (fun H1 => (True) ∧ ∀ j : Nat, H1[j]? = H[j]?) := by
  refine ex_s (am_nb (m := 1) (pc1 := 1) (ls1 := [(0, .ref 0), (1, .int x0), (2, .int x1)]) (st1 := [.ref 0]) (H1 := H) (k1 := 0) (n1 := 0) (by with_unfolding_all rfl)) ?_
  refine ex_s (st_get rfl h0 rfl) ?_
  refine ex_s (st_get rfl h129 rfl) ?_
  refine ex_s (am_nb (m := 4) (pc1 := 11) (ls1 := [(3, .ref 136), (0, .ref 0), (1, .int x0), (2, .int x1)]) (st1 := [.int x1, .int x0, .ref 136]) (H1 := H) (k1 := 0) (n1 := 0) (by with_unfolding_all rfl)) ?_
  refine ex_cv1 (as := [.int x0, .int x1]) (rest := []) rfl rfl rfl rfl h136 rfl (by with_unfolding_all rfl) (by with_unfolding_all rfl) (fx_screen_1_1 h136 c1 c2) ?_
  rintro H246 ⟨-, k246⟩
  refine ex_s (am_nb (m := 2) (pc1 := 34) (ls1 := [(3, .ref 136), (0, .ref 0), (1, .int x0), (2, .int x1)]) (st1 := [.int (-1)]) (H1 := H246) (k1 := 0) (n1 := 0) (by with_unfolding_all rfl)) ?_
  exact ex_r (st_iret rfl rfl rfl) ⟨trivial, fun j => (k246 j)⟩
