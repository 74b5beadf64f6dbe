/-! update: a row is painted. The reference stops where the bytes are too many; the class goes on. -/
/-- the reference's own state: what the class is held against, or one that stopped -/
def AC (c r ra : xA) : Prop := ra = r ∨ (6000 < ra 157 49 ∧ 6000 < c 97 5 ∧ MQb ra)
/-- what the reference's painting leaves alone -/
def RX (r r' : xA) : Prop := (∀ p, p ≠ 157 → p ≠ 168 → p ≠ 169 → p ≠ 182 → p ≠ 183 → r' p = r p) ∧ (∀ i, i ≠ 23 → i ≠ 25 → i ≠ 49 → ¬ (51 ≤ i ∧ i ≤ 53) → r' 157 i = r 157 i)
section T
variable {N h b : Nat} {c0 r0 c r c' r' c'' r'' ra ra' : xA} {x y z s v w w1 w2 w3 w4 w5 w6 w7 x' y' : Int32} {len p i f k m q a e K n n' row d th k0 A B t Ln Co V H o j W L a0 a1 m' y0 y1 x0 x1 S Y X R C kk D E F G : Nat}
theorem RX_r : RX r r := ⟨fun _ _ _ _ _ _ => rfl, fun _ _ _ _ _ => rfl⟩
theorem RX_t (H : RX r r') (G : RX r' r'') : RX r r'' := ⟨fun p h1 h2 h3 h4 h5 => by rw [G.1 p h1 h2 h3 h4 h5, H.1 p h1 h2 h3 h4 h5], fun i h1 h2 h3 h4 => by rw [G.2 i h1 h2 h3 h4, H.2 i h1 h2 h3 h4]⟩
theorem RX_U (H : UX k c r c' r') : RX r r' := ⟨H.1.2.2.2.1, H.1.2.2.2.2⟩
theorem hO_R (H : hO r) (G : RX r r') : hO r' := by
  unfold hO
  rw [G.2 50 (by decide) (by decide) (by decide) (by decide)]
  exact H
theorem hO_U (H : hO r) (G : UX k c r c' r') : hO r' := hO_R H (RX_U G)
theorem pt_U (he : e < 12) (G : UX k c r c' r') : pt e Ln Co R c' = pt e Ln Co R c := by
  unfold pt
  rw [G.1.1 (9 + 7 * e + 3) (by omega) (by omega) (by omega) (by omega) (by omega)]
/-- too many on one side: too many on both -/
theorem Uc_c (H : Uc W c r) (g : 6000 < c 97 5) : Ud W c r := by
  rcases H.2 with ⟨n, n1, n2, _⟩ | q
  · rw [n2, show (6000 : Int32) = Int32.ofNat 6000 from rfl, i_lt (by decide) (by omega)] at g
    omega
  · exact q
theorem Uc_r (H : Uc W c r) (g : 6000 < r 157 49) : Ud W c r := by
  rcases H.2 with ⟨n, n1, n2, n3, _⟩ | q
  · rw [n3, show (6000 : Int32) = Int32.ofNat 6000 from rfl, i_lt (by decide) (by omega)] at g
    omega
  · exact q
/-- too many: it stays so -/
theorem AC_d (H : AC c r ra) (hq : MQb ra) (g : 6000 < ra 157 49) (hu : Uc (W + k) c r) (G : UX k c r c' r') : AC c' r' ra := by
  refine Or.inr ⟨g, ?_, hq⟩
  have hd : Ud (W + k) c r := by
    rcases H with q | ⟨_, q, _⟩
    · rw [q] at g
      exact Uc_r hu g
    · exact Uc_c hu q
  exact (UD_g ((G.2 W).2 hd).1).1
theorem AC_q (H : AC c r ra) (hq : MQb r) : MQb ra := by
  rcases H with q | q
  · rw [q]; exact hq
  · exact q.2.2
theorem AC_l (H : AC c r ra) (g : ¬ 6000 < ra 157 49) : ra = r := by
  rcases H with q | q
  · exact q
  · exact absurd q.1 g
/-- the cells of a row -/
theorem d_147 (hN : 100000 ≤ N) (hR : R < Ln) (hA : A ≤ Co) : ∀ (k v f : Nat) (c r ra : xA), v + k = A → k < f → A ≤ pt e Ln Co R c → UV N h b e Ln Co c r → hO r → Uc (W + 15400 * k) c r → AC c r ra → ∃ c' r' ra', l152_147 N h b (Int32.ofNat R) (Int32.ofNat (R * Co)) w6 w7 (Int32.ofNat A) f (Int32.ofNat v) c = some (0, c') ∧ l349_178 N h b (Int32.ofNat R) w5 w4 (Int32.ofNat A) f (Int32.ofNat v) ra = some (0, ra') ∧ UV N h b e Ln Co c' r' ∧ UX (15400 * k) c r c' r' ∧ AC c' r' ra' ∧ RX ra ra' := by
  intro k
  induction k with
  | zero =>
    intro v f c r ra g1 g2 g3 H ho hu ha
    obtain ⟨f, rfl⟩ : ∃ f', f = f' + 1 := ⟨f - 1, by omega⟩
    have : v = A := by omega
    subst this
    rw [l152_147, l349_178, if_pos (Int32.le_refl _), if_pos (Int32.le_refl _)]
    exact ⟨c, r, ra, rfl, rfl, H, UX_r, ha, RX_r⟩
  | succ k ih =>
    intro v f c r ra g1 g2 g3 H ho hu ha
    obtain ⟨f, rfl⟩ : ∃ f', f = f' + 1 := ⟨f - 1, by omega⟩
    have l24 := H.1.1.2.2.1
    have hco := H.1.1.2.2.2.2.1
    have he := H.1.1.1
    have hix' := hix (V := v) hR (show v < Co by omega) l24 hco
    have e1 : Int32.ofNat (R * Co) + Int32.ofNat v = Int32.ofNat (R * Co + v) := by rw [← Int32.ofNat_add]
    have nle : ¬ Int32.ofNat A ≤ Int32.ofNat v := by rw [i_le (by omega) (by omega)]; omega
    have eu := e_ul (N := N) (h := h) (b := b) (V := v) H hR (by omega)
    have e2 : (80 : Int32) * Int32.ofNat R + Int32.ofNat v = Int32.ofNat (80 * R + v) := by rw [show (80 : Int32) = Int32.ofNat 80 from rfl, ← Int32.ofNat_mul, ← Int32.ofNat_add]
    have off : f339_offeredOf N h b (r 170 (80 * R + v)) r = some (c 104 (R * Co + v), r) := by
      unfold f339_offeredOf
      rw [H.1.2.2.2.1 R v hR (by omega)]
    rw [e2, xg_pos (g_ix (show 80 * R + v < 1920 by omega) (by omega)), i_cl (show 80 * R + v < 2 ^ 31 by omega)] at eu
    have hq := AC_q ha H.2.2
    rw [l152_147, if_neg nle, e1, xg_pos (g_ix hix' (by omega)), i_cl (show R * Co + v < 2 ^ 31 by omega)]
    unfold j152_209
    by_cases z : c 104 (R * Co + v) = c 101 (R * Co + v)
    · rw [if_pos z, on_s]
      have zu : ¬ ul e Ln Co R c v := fun q => q.2 z
      rw [zb_f zu] at eu
      by_cases d : 6000 < ra 157 49
      · obtain ⟨c', r', ra', k1, k2, k3, k4, k5, k6⟩ := ih (v + 1) f c r ra (by omega) (by omega) g3 H ho (Uc_m hu (by omega)) ha
        refine ⟨c', r', ra, k1, ?_, k3, UX_m k4 (by omega), AC_d ha hq d (Uc_m hu (show W + 15400 * k ≤ _ by omega)) k4, RX_r⟩
        rw [l349_178, if_neg nle, if_pos d]
      · obtain ⟨c', r', ra', k1, k2, k3, k4, k5, k6⟩ := ih (v + 1) f c r ra (by omega) (by omega) g3 H ho (Uc_m hu (by omega)) ha
        refine ⟨c', r', ra', k1, ?_, k3, UX_m k4 (by omega), k5, k6⟩
        have := AC_l ha d
        subst this
        rw [l349_178, if_neg nle, if_neg d, e2, xg_pos (g_ix (show 80 * R + v < 1920 by omega) (by omega)), i_cl (show 80 * R + v < 2 ^ 31 by omega), eu, b2_some, if_pos rfl]
        unfold j349_285
        rw [on_s]
        exact k2
    · have zu : ul e Ln Co R c v := ⟨by omega, z⟩
      rw [zb_t zu] at eu
      rw [if_neg z]
      obtain ⟨c1, r1, m1, m2, m3, m4⟩ := d_one (N := N) (h := h) (b := b) (W := W + 15400 * k) hN H ho hR (show v < Co by omega) (Uc_m hu (by omega))
      have hu1 := (m4.2 (W + 15400 * k)).1 (Uc_m hu (by omega))
      have hp : A ≤ pt e Ln Co R c1 := by rw [pt_U he m4]; exact g3
      by_cases d : 6000 < ra 157 49
      · have ha1 : AC c1 r1 ra := AC_d ha hq d (Uc_m hu (show (W + 15400 * k) + 15400 ≤ _ by omega)) m4
        obtain ⟨c', r', ra', k1, k2, k3, k4, k5, k6⟩ := ih (v + 1) f c1 r1 ra (by omega) (by omega) hp m3 (hO_U ho m4) hu1 ha1
        refine ⟨c', r', ra, ?_, ?_, k3, UX_m (UX_t m4 k4) (by omega), AC_d ha1 hq d hu1 k4, RX_r⟩
        · rw [m1, on_s]; exact k1
        · rw [l349_178, if_neg nle, if_pos d]
      · have := AC_l ha d
        subst this
        obtain ⟨c', r', ra', k1, k2, k3, k4, k5, k6⟩ := ih (v + 1) f c1 r1 r1 (by omega) (by omega) hp m3 (hO_U ho m4) hu1 (Or.inl rfl)
        refine ⟨c', r', ra', ?_, ?_, k3, UX_m (UX_t m4 k4) (by omega), k5, RX_t (RX_U m4) k6⟩
        · rw [m1, on_s]; exact k1
        · rw [l349_178, if_neg nle, if_neg d, e2, xg_pos (g_ix (show 80 * R + v < 1920 by omega) (by omega)), i_cl (show 80 * R + v < 2 ^ 31 by omega), eu, b2_some, if_neg (show ¬ (1 : Int32) = 0 by decide), off, b2_some]
          unfold j349_285
          rw [m2, on_s]
          exact k2
end T
