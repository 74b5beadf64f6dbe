/-! The reader: what holds while a text is read. -/
def FD (k0 : Nat) (c0 r0 c r : xA) : Prop := (∀ p, p ≠ 3 → ¬ (6 ≤ p ∧ p ≤ 8) → ¬ (9 + 7 * k0 ≤ p ∧ p ≤ 92) → c p = c0 p) ∧ (∀ i, ¬ (2 ≤ i ∧ i ≤ 13) → c 3 i = c0 3 i) ∧ (∀ p, p ≠ 157 → ¬ (160 ≤ p ∧ p ≤ 167) → r p = r0 p) ∧ (∀ i, ¬ (13 ≤ i ∧ i ≤ 20) → r 157 i = r0 157 i) ∧ (∀ e, e < k0 → r 160 e = r0 160 e) ∧ (∀ i, i < 48 * k0 → r 161 i = r0 161 i) ∧ (∀ i, i < 4 * k0 → r 162 i = r0 162 i) ∧ (∀ i, i < 39 * k0 → r 163 i = r0 163 i ∧ r 164 i = r0 164 i ∧ r 166 i = r0 166 i) ∧ (∀ i, i < 1560 * k0 → r 165 i = r0 165 i)
def FL (k0 : Nat) (c0 r0 c r : xA) : Prop := FD k0 c0 r0 c r ∧ NA r ∧ c 3 2 = r 157 13 ∧ c 3 3 = r 157 14
def CUR (th : Nat) (c r : xA) : Prop := c 3 8 = Int32.ofNat (9 + 7 * th) ∧ r 157 17 = Int32.ofNat th ∧ En th c r ∧ (∀ a, a < 39 → Ea th a c r ∧ (c 6 a = 0 ∨ c 6 a = 1) ∧ (c 6 a = 0 ↔ r 163 (39 * th + a) = 0)) ∧ (∃ u : Nat, u ≤ 4 ∧ c 3 11 = Int32.ofNat u ∧ r 157 19 = Int32.ofNat u ∧ ∀ i, i < u → ∃ e, e < th ∧ c 7 i = Int32.ofNat e ∧ r 167 i = Int32.ofNat e)
/-- the current entry but for one ability -/
def CURx (th a0 : Nat) (c r : xA) : Prop := c 3 8 = Int32.ofNat (9 + 7 * th) ∧ r 157 17 = Int32.ofNat th ∧ En th c r ∧ (∀ a, a < 39 → (a ≠ a0 → Ea th a c r) ∧ (c 6 a = 0 ∨ c 6 a = 1) ∧ (c 6 a = 0 ↔ r 163 (39 * th + a) = 0)) ∧ (∃ u : Nat, u ≤ 4 ∧ c 3 11 = Int32.ofNat u ∧ r 157 19 = Int32.ofNat u ∧ ∀ i, i < u → ∃ e, e < th ∧ c 7 i = Int32.ofNat e ∧ r 167 i = Int32.ofNat e)
def DC (k0 len q th : Nat) (c0 r0 c r : xA) : Prop := FL k0 c0 r0 c r ∧ RV len q c r ∧ k0 ≤ th ∧ th < 12 ∧ c 3 7 = Int32.ofNat th ∧ (∀ e, e < th → EE e c r) ∧ CUR th c r
section T
variable {N h b : Nat} {c0 r0 c r c' r' : xA} {x y z s v w : Int32} {len p i f k m q l a e K n row d th k0 : Nat}
theorem En_of (H : En e c r) (h0 : c' (9 + 7 * e) 2 = c (9 + 7 * e) 2) (h1 : c' (9 + 7 * e + 1) = c (9 + 7 * e + 1)) (h2 : c' (9 + 7 * e + 2) = c (9 + 7 * e + 2)) (h3 : r' 160 e = r 160 e) (h4 : ∀ i, 48 * e ≤ i → i < 48 * e + 48 → r' 161 i = r 161 i) (h5 : ∀ i, 4 * e ≤ i → i < 4 * e + 4 → r' 162 i = r 162 i) : En e c' r' := by
  obtain ⟨k, a1, a2, a3, a4⟩ := H
  refine ⟨k, a1, by rw [h0]; exact a2, by rw [h3]; exact a3, fun j hj => ?_⟩
  obtain ⟨m, b1, b2, b3, b4⟩ := a4 j hj
  refine ⟨m, b1, by rw [h2]; exact b2, by rw [h5 _ (by omega) (by omega)]; exact b3, fun i hi => ?_⟩
  rw [h1, h4 _ (by omega) (by omega)]
  exact b4 i hi
theorem Es_of (H : Es e a c r) (h1 : c' (9 + 7 * e + 6) (a - 6) = c (9 + 7 * e + 6) (a - 6)) (h2 : ∀ i, (a - 6) * 40 ≤ i → i < (a - 6) * 40 + 40 → c' (9 + 7 * e + 5) i = c (9 + 7 * e + 5) i) (h3 : r' 166 (39 * e + a) = r 166 (39 * e + a)) (h4 : ∀ i, 40 * (39 * e + a) ≤ i → i < 40 * (39 * e + a) + 40 → r' 165 i = r 165 i) : Es e a c' r' := by
  obtain ⟨n, b1, b2, b3, b4, b5⟩ := H
  have eG : Gr r' (39 * e + a) n = Gr r (39 * e + a) n := by
    funext i
    unfold Gr
    split
    · rw [h4 _ (by omega) (by omega)]
    · rfl
  refine ⟨n, b1, by rw [h1]; exact b2, by rw [h3]; exact b3, fun i hi => ?_, by rw [eG]; exact b5⟩
  rw [h2 _ (by omega) (by omega), h4 _ (by omega) (by omega)]
  exact b4 i hi
theorem Ea_of (H : Ea e a c r) (h1 : c' (9 + 7 * e + 3) a = c (9 + 7 * e + 3) a) (h2 : c' (9 + 7 * e + 4) a = c (9 + 7 * e + 4) a) (h3 : r' 163 (39 * e + a) = r 163 (39 * e + a)) (h4 : r' 164 (39 * e + a) = r 164 (39 * e + a)) (hs : 6 ≤ a → Es e a c r → Es e a c' r') : Ea e a c' r' := by
  obtain ⟨b1, b2, b3⟩ := H
  unfold Ea
  rw [h1, h2, h3, h4]
  exact ⟨b1, b2, fun q => ⟨(b3 q).1, fun g => hs g ((b3 q).2 g)⟩⟩
theorem EE_of (H : EE e c r) (h1 : ∀ p, 9 + 7 * e ≤ p → p ≤ 9 + 7 * e + 6 → c' p = c p) (h3 : r' 160 e = r 160 e) (h4 : ∀ i, 48 * e ≤ i → i < 48 * e + 48 → r' 161 i = r 161 i) (h5 : ∀ i, 4 * e ≤ i → i < 4 * e + 4 → r' 162 i = r 162 i) (h6 : ∀ i, 39 * e ≤ i → i < 39 * e + 39 → r' 163 i = r 163 i ∧ r' 164 i = r 164 i ∧ r' 166 i = r 166 i) (h7 : ∀ i, 1560 * e ≤ i → i < 1560 * e + 1560 → r' 165 i = r 165 i) : EE e c' r' := by
  refine ⟨En_of H.1 (by rw [h1 _ (by omega) (by omega)]) (h1 _ (by omega) (by omega)) (h1 _ (by omega) (by omega)) h3 h4 h5, fun a ha => ?_⟩
  have g := h6 (39 * e + a) (by omega) (by omega)
  refine Ea_of (H.2 a ha) (by rw [h1 _ (by omega) (by omega)]) (by rw [h1 _ (by omega) (by omega)]) g.1 g.2.1 (fun _ hE => Es_of hE (by rw [h1 _ (by omega) (by omega)]) (fun i _ _ => by rw [h1 _ (by omega) (by omega)]) g.2.2 (fun i h8 h9 => h7 i (by omega) (by omega)))
theorem FD_p (H : FD k0 c0 r0 c r) : FD k0 c0 r0 (cp c q) (rp r q) := by
  obtain ⟨a1, a2, a3, a4, a5, a6, a7, a8, a9⟩ := H
  unfold cp rp
  exact ⟨fun p h1 h2 h3 => by rw [xU_o h1]; exact a1 p h1 h2 h3, fun i h1 => by rw [xU_s (by omega)]; exact a2 i h1, fun p h1 h2 => by rw [xU_o h1]; exact a3 p h1 h2, fun i h1 => by rw [xU_s (by omega)]; exact a4 i h1, a5, a6, a7, a8, a9⟩
theorem FL_p (H : FL k0 c0 r0 c r) : FL k0 c0 r0 (cp c q) (rp r q) := ⟨FD_p H.1, H.2.1, by unfold cp rp; rw [xU_s (by decide), xU_s (by decide)]; exact H.2.2.1, by unfold cp rp; rw [xU_s (by decide), xU_s (by decide)]; exact H.2.2.2⟩
theorem FL_f (H : FD k0 c0 r0 c r) (hA : NA r) : FL k0 c0 r0 (xU (xU c 3 2 x) 3 3 y) (xU (xU r 157 13 x) 157 14 y) := by
  obtain ⟨a1, a2, a3, a4, a5, a6, a7, a8, a9⟩ := H
  refine ⟨⟨fun p h1 h2 h3 => by rw [xU_o h1, xU_o h1]; exact a1 p h1 h2 h3, fun i h1 => by rw [xU_s (by omega), xU_s (by omega)]; exact a2 i h1, fun p h1 h2 => by rw [xU_o h1, xU_o h1]; exact a3 p h1 h2, fun i h1 => by rw [xU_s (by omega), xU_s (by omega)]; exact a4 i h1, a5, a6, a7, a8, a9⟩, hA, ?_, ?_⟩
  · rw [xU_s (by decide), xU_e, xU_s (by decide), xU_e]
  · rw [xU_e, xU_e]
theorem CUR_p (H : CUR th c r) : CUR th (cp c q) (rp r q) := by
  obtain ⟨a1, a2, a3, a4, u, b1, b2, b3, b4⟩ := H
  have oc : ∀ p, p ≠ 3 → cp c q p = c p := fun p hp => xU_o hp
  have or' : ∀ p, p ≠ 157 → rp r q p = r p := fun p hp => xU_o hp
  refine ⟨by unfold cp; rw [xU_s (by decide)]; exact a1, by unfold rp; rw [xU_s (by decide)]; exact a2, En_of a3 (by rw [oc _ (by omega)]) (oc _ (by omega)) (oc _ (by omega)) rfl (fun _ _ _ => rfl) (fun _ _ _ => rfl), fun a ha => ?_, u, b1, by unfold cp; rw [xU_s (by decide)]; exact b2, by unfold rp; rw [xU_s (by decide)]; exact b3, b4⟩
  obtain ⟨k1, k2, k3⟩ := a4 a ha
  exact ⟨Ea_of k1 (by rw [oc _ (by omega)]) (by rw [oc _ (by omega)]) rfl rfl (fun _ hE => Es_of hE (by rw [oc _ (by omega)]) (fun i _ _ => by rw [oc _ (by omega)]) rfl (fun _ _ _ => rfl)), k2, k3⟩
theorem EE_p (H : EE e c r) : EE e (cp c q) (rp r q) := EE_of H (fun p h1 h2 => xU_o (by omega)) rfl (fun _ _ _ => rfl) (fun _ _ _ => rfl) (fun _ _ _ => ⟨rfl, rfl, rfl⟩) (fun _ _ _ => rfl)
theorem DC_p {q' : Nat} (H : DC k0 len q th c0 r0 c r) (hq : q' ≤ 9000) : DC k0 len q' th c0 r0 (cp c q') (rp r q') := by
  obtain ⟨a1, a2, a3, a4, a5, a6, a7⟩ := H
  exact ⟨FL_p a1, RV_q a2 hq, a3, a4, by unfold cp; rw [xU_s (by decide)]; exact a5, fun e he => EE_p (a6 e he), CUR_p a7⟩
theorem FS_L (H : FD k0 c0 r0 c r) (hF : FS (39 * th + a) c r c' r') (hk : k0 ≤ th) (ha : a < 39) : FL k0 c0 r0 c' r' := by
  obtain ⟨a1, a2, a3, a4, a5, a6, a7, a8, a9⟩ := H
  obtain ⟨s1, s2, s3, s4, s5, s6, s7, s8, s9⟩ := hF
  refine ⟨⟨fun p h1 h2 h3 => by rw [s1 p h1 (by omega)]; exact a1 p h1 h2 h3, fun i h1 => by rw [s2 i (by omega) (by omega) (by omega) (by omega)]; exact a2 i h1, fun p h1 h2 => by rw [s3 p h1 (by omega) (by omega)]; exact a3 p h1 h2, fun i h1 => by rw [s4 i (by omega) (by omega) (by omega) (by omega)]; exact a4 i h1, fun e he => by rw [s3 160 (by decide) (by decide) (by decide)]; exact a5 e he, fun i hi => by rw [s3 161 (by decide) (by decide) (by decide)]; exact a6 i hi, fun i hi => by rw [s3 162 (by decide) (by decide) (by decide)]; exact a7 i hi, fun i hi => ?_, fun i hi => ?_⟩, s7, s8, s9⟩
  · rw [s3 163 (by decide) (by decide) (by decide), s3 164 (by decide) (by decide) (by decide), s6 i (by omega)]
    exact a8 i hi
  · rw [s5 i (by omega)]
    exact a9 i hi
theorem FD_T (H : FD k0 c0 r0 c r) (hT : TO th a (39 * th + a) c r c' r') (hk : k0 ≤ th) (hth : th < 12) (ha : a < 39) : FD k0 c0 r0 c' r' := by
  obtain ⟨a1, a2, a3, a4, a5, a6, a7, a8, a9⟩ := H
  obtain ⟨t1, t2, t3, t4, t5, t6, t7, t8, t9, t10⟩ := hT
  refine ⟨fun p h1 h2 h3 => by rw [t1 p h1 (by omega) (by omega) (by omega) (by omega) (by omega)]; exact a1 p h1 h2 h3, fun i h1 => by rw [t2 i (by omega) (by omega)]; exact a2 i h1, fun p h1 h2 => by rw [t6 p h1 (by omega) (by omega) (by omega)]; exact a3 p h1 h2, fun i h1 => by rw [t7 i (by omega) (by omega)]; exact a4 i h1, fun e he => by rw [t6 160 (by decide) (by decide) (by decide) (by decide)]; exact a5 e he, fun i hi => by rw [t6 161 (by decide) (by decide) (by decide) (by decide)]; exact a6 i hi, fun i hi => by rw [t6 162 (by decide) (by decide) (by decide) (by decide)]; exact a7 i hi, fun i hi => ?_, fun i hi => ?_⟩
  · have := t8 i (by omega)
    rw [t6 163 (by decide) (by decide) (by decide) (by decide), this.1, this.2]
    exact a8 i hi
  · rw [t9 i (by omega)]
    exact a9 i hi
theorem EE_T (H : EE e c r) (hT : TO th a (39 * th + a) c r c' r') (he : e < th) (ha : a < 39) : EE e c' r' := by
  obtain ⟨t1, t2, t3, t4, t5, t6, t7, t8, t9, t10⟩ := hT
  refine EE_of H (fun p h1 h2 => t1 p (by omega) (by omega) (by omega) (by omega) (by omega) (by omega)) (by rw [t6 160 (by decide) (by decide) (by decide) (by decide)]) (fun i _ _ => by rw [t6 161 (by decide) (by decide) (by decide) (by decide)]) (fun i _ _ => by rw [t6 162 (by decide) (by decide) (by decide) (by decide)]) (fun i h1 h2 => ⟨by rw [t6 163 (by decide) (by decide) (by decide) (by decide)], (t8 i (by omega)).1, (t8 i (by omega)).2⟩) (fun i h1 h2 => t9 i (by omega))
/-- the current entry, when one ability was told -/
theorem CUR_T (H : CURx th a c r) (hT : TO th a (39 * th + a) c r c' r') (hth : th < 12) (ha : a < 39) (hE : Ea th a c' r') : CUR th c' r' := by
  obtain ⟨a1, a2, a3, a4, u, b1, b2, b3, b4⟩ := H
  obtain ⟨t1, t2, t3, t4, t5, t6, t7, t8, t9, t10⟩ := hT
  refine ⟨by rw [t2 8 (by decide) (by decide)]; exact a1, by rw [t7 17 (by decide) (by decide)]; exact a2, En_of a3 (by rw [t1 _ (by omega) (by omega) (by omega) (by omega) (by omega) (by omega)]) (t1 _ (by omega) (by omega) (by omega) (by omega) (by omega) (by omega)) (t1 _ (by omega) (by omega) (by omega) (by omega) (by omega) (by omega)) (by rw [t6 160 (by decide) (by decide) (by decide) (by decide)]) (fun i _ _ => by rw [t6 161 (by decide) (by decide) (by decide) (by decide)]) (fun i _ _ => by rw [t6 162 (by decide) (by decide) (by decide) (by decide)]), fun a' ha' => ?_, u, b1, by rw [t2 11 (by decide) (by decide)]; exact b2, by rw [t7 19 (by decide) (by decide)]; exact b3, fun i hi => ?_⟩
  · obtain ⟨k1, k2, k3⟩ := a4 a' ha'
    refine ⟨?_, ?_, ?_⟩
    · by_cases e : a' = a
      · subst e; exact hE
      · have g := t8 (39 * th + a') (by omega)
        refine Ea_of (k1 e) (t3 a' e).1 (t3 a' e).2 (by rw [t6 163 (by decide) (by decide) (by decide) (by decide)]) g.1 (fun h6 hS => Es_of hS (t5 _ (by omega)) (fun i h1 h2 => t4 i (by omega)) g.2 (fun i h1 h2 => t9 i (by omega)))
    · rw [t1 6 (by omega) (by omega) (by omega) (by omega) (by omega) (by omega)]; exact k2
    · rw [t1 6 (by omega) (by omega) (by omega) (by omega) (by omega) (by omega), t6 163 (by decide) (by decide) (by decide) (by decide)]; exact k3
  · rw [t1 7 (by omega) (by omega) (by omega) (by omega) (by omega) (by omega), t6 167 (by decide) (by decide) (by decide) (by decide)]
    exact b4 i hi
theorem d_com (H : RV len q c r) (hq : q ≤ 8000) : (Tx c len q = 44 → f43_passComma N h b c = some (1, cp c (q + 1))) ∧ (¬ Tx c len q = 44 → f43_passComma N h b c = some (0, xU (xU c 3 2 1) 3 3 (Int32.ofNat q))) := by
  have e36 := H.2.2.2.2.2.1
  unfold f43_passComma
  rw [e36, e_ba H (by omega), b2_some]
  refine ⟨fun g => ?_, fun g => ?_⟩
  · rw [if_pos g, e36, on_s]
    rfl
  · rw [if_neg g, e36]
    rfl
theorem d_le (H : RV len q c r) (hq : q ≤ 8000) : (Tx c len q = -1 ∨ Tx c len q = 10 → f27_passLineEnd N h b c = some (1, cp c (q + 1))) ∧ (¬ (Tx c len q = -1 ∨ Tx c len q = 10) → f27_passLineEnd N h b c = some (0, xU (xU c 3 2 1) 3 3 (Int32.ofNat q))) := by
  have e36 := H.2.2.2.2.2.1
  unfold f27_passLineEnd j27_30
  rw [e36, e_ba H (by omega), b2_some]
  refine ⟨fun g => ?_, fun g => ?_⟩
  · by_cases z : Tx c len q = -1
    · rw [if_pos z, e36, on_s]; rfl
    · rw [if_neg z, if_pos (g.resolve_left z), e36, on_s]; rfl
  · rw [if_neg (fun e => g (Or.inl e)), if_neg (fun e => g (Or.inr e)), e36]
    rfl
end T
