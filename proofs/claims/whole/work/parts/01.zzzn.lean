/-! update: one cell of a row. -/
def hO (r : xA) : Prop := 0 ≤ r 157 50 ∧ r 157 50 ≤ 15
section T
variable {N h b : Nat} {c0 r0 c r c' r' c'' r'' : xA} {x y z s v w w1 w2 w3 w4 w5 w6 w7 x' y' : Int32} {len p i f k m q a e K n n' row d th k0 A B t Ln Co V H o j W L a0 a1 m' y0 y1 x0 x1 S Y X R C kk D E F G : Nat}
theorem dc1 (hn : n < 2 ^ 31) : Int32.ofNat n >>> ((8 : Int32) &&& 31) = Int32.ofNat (n / 256) := by
  apply Int32.toInt_inj.mp
  have e0 : (Int32.ofNat n >>> ((8 : Int32) &&& 31)).toInt = (Int32.ofNat n).toInt >>> 8 := by
    show ((Int32.ofNat n).toBitVec.sshiftRight 8).toInt = _
    rw [BitVec.toInt_sshiftRight]
    rfl
  rw [e0, Int32.toInt_ofNat_of_lt hn, Int32.toInt_ofNat_of_lt (by omega), Int.shiftRight_eq_div_pow]
  omega
theorem dc2 : ∀ (U : Fin 256), Int32.ofNat U.val &&& 15 = Int32.ofNat U.val → U.val < 16 := by decide +kernel
theorem dc4 : ∀ (O : Fin 16), Int32.ofNat O.val &&& 15 = Int32.ofNat O.val := by decide +kernel
theorem dc3 : ∀ (O : Fin 16), Int32.ofNat O.val &&& 255 = Int32.ofNat O.val := by decide +kernel
/-- the dress of what is wanted -/
theorem aim_E (H : UV N h b e Ln Co c r) (ho : hO r) (hR : R < Ln) (hV : V < Co) : ∃ E : Nat, E < 16 ∧ c 104 (R * Co + V) >>> ((8 : Int32) &&& 31) = Int32.ofNat E := by
  obtain ⟨O, o1, o2, _⟩ := i_nat ho.1
  have o3 := ho.2
  rw [o2, show (15 : Int32) = Int32.ofNat 15 from rfl, i_le o1 (by decide)] at o3
  have hu : ∃ U : Nat, U < 256 ∧ r 170 (80 * R + V) &&& 255 = Int32.ofNat U := by
    have hb := by_le (byx (r 170 (80 * R + V)))
    obtain ⟨U, u1, u2, _⟩ := i_nat hb.1
    have u3 := hb.2
    rw [u2, show (255 : Int32) = Int32.ofNat 255 from rfl, i_le u1 (by decide)] at u3
    exact ⟨U, by omega, u2⟩
  have he : ∃ E : Nat, E < 16 ∧ (r 170 (80 * R + V) >>> ((8 : Int32) &&& 31)) &&& r 157 50 = Int32.ofNat E := by
    generalize r 170 (80 * R + V) >>> ((8 : Int32) &&& 31) = w
    rw [o2]
    have e1 : (w &&& Int32.ofNat O) &&& 255 = w &&& Int32.ofNat O := by rw [Int32.and_assoc, dc3 ⟨O, by omega⟩]
    have hb := by_le (show By (w &&& Int32.ofNat O) from e1)
    obtain ⟨U, u1, u2, _⟩ := i_nat hb.1
    have u3 := hb.2
    rw [u2, show (255 : Int32) = Int32.ofNat 255 from rfl, i_le u1 (by decide)] at u3
    have e2 : (w &&& Int32.ofNat O) &&& 15 = w &&& Int32.ofNat O := by rw [Int32.and_assoc, dc4 ⟨O, by omega⟩]
    rw [u2] at e2
    exact ⟨U, dc2 ⟨U, by omega⟩ e2, u2⟩
  obtain ⟨U, u1, u2⟩ := hu
  obtain ⟨E, e1, e2⟩ := he
  refine ⟨E, e1, ?_⟩
  rw [H.1.2.2.2.1 R V hR hV, u2, e2, show (256 : Int32) = Int32.ofNat 256 from rfl, ← Int32.ofNat_mul, ← Int32.ofNat_add]
  rw [dc1 (by omega), show (U + 256 * E) / 256 = E by omega]
/-- a cell that is unlike: go there, dress, paint -/
theorem d_one (hN : 100000 ≤ N) (H : UV N h b e Ln Co c r) (ho : hO r) (hR : R < Ln) (hV : V < Co) (hu : Uc (W + 15400) c r) : ∃ c' r', (∀ K : xA → Option (Nat × xA), xb1 (f137_moveTo N h b (Int32.ofNat R) (Int32.ofNat V) c) (fun a37 => xb1 (f154_dressAs N h b ((a37 104 (R * Co + V)) >>> ((8 : Int32) &&& 31)) a37) (fun a41 => xb1 (f155_paintCell N h b (Int32.ofNat (R * Co + V)) a41) K)) = K c') ∧ (∀ K : xA → Option (Nat × xA), xb1 (f340_motion N h b (Int32.ofNat R) (Int32.ofNat V) r) (fun a59 => xb1 (f350_dresses N h b ((c 104 (R * Co + V)) >>> ((8 : Int32) &&& 31)) a59) (fun a63 => xb1 (f334_typeByte N h b (c 104 (R * Co + V) &&& 255) a63) (fun a67 => xw (xU a67 183 (80 * R + V) (c 104 (R * Co + V))) (fun a68 => xb1 (f351_behind N h b (Int32.ofNat R) (Int32.ofNat V) a68) K)))) = K r') ∧ UV N h b e Ln Co c' r' ∧ UX 15400 c r c' r' := by
  obtain ⟨c1, r1, k1, k2, k3, k4, k5⟩ := d_move (N := N) (h := h) (b := b) (W := W + 340) hN H hR hV (Uc_m hu (by omega))
  obtain ⟨E, e1, e2⟩ := aim_E H ho hR hV
  have e104 : c1 104 = c 104 := k4.1.1 104 (by decide) (by decide) (by decide) (by decide) (by decide)
  obtain ⟨c2, r2, g1, g2, g3, g4, g5, _⟩ := d_drs (N := N) (h := h) (b := b) (W := W + 40) (E := E) hN k3 e1 (Uc_m ((k4.2 (W + 340)).1 (Uc_m hu (by omega))) (by omega))
  have e104' : c2 104 = c 104 := by rw [g4.1.1 104 (by decide) (by decide) (by decide) (by decide) (by decide), e104]
  obtain ⟨c3, r3, m1, m2, m3, m4⟩ := d_pc (N := N) (h := h) (b := b) (W := W) hN g3 (g5 R V k5) (Uc_m ((g4.2 (W + 40)).1 (Uc_m ((k4.2 (W + 340)).1 (Uc_m hu (by omega))) (by omega))) (by omega))
  rw [e104'] at m2
  refine ⟨c3, r3, fun K => ?_, fun K => ?_, m3, UX_m (UX_t k4 (UX_t g4 m4)) (by omega)⟩
  · rw [k1, b1_some, e104, e2, g1, b1_some, m1, b1_some]
  · rw [k2, b1_some, e2, g2, b1_some]
    exact b1_1.symm.trans (congrArg (fun z => xb1 z K) m2)
end T
