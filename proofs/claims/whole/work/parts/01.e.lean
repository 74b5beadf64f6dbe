/-! Two runs side by side. -/
theorem xU_eq {a : xA} {p i q j : Nat} {v : Int32} : xU a p i v q j = if q = p ∧ j = i then v else a q j := by
  unfold xU xW upd
  by_cases h : q = p
  · by_cases k : j = i
    · rw [if_pos h, if_pos k, if_pos ⟨h, k⟩]
    · rw [if_pos h, if_neg k, if_neg (fun z => k z.2), h]
  · rw [if_neg h, if_neg (fun z => h z.1)]
theorem xU_o {a : xA} {p i q : Nat} {v : Int32} (hq : q ≠ p) : xU a p i v q = a q := if_neg hq
theorem xW_o {a : xA} {p q : Nat} {f : Nat → Int32} (hq : q ≠ p) : xW a p f q = a q := if_neg hq
theorem xW_e {a : xA} {p : Nat} {f : Nat → Int32} : xW a p f p = f := if_pos rfl
theorem xU_s {a : xA} {p i j : Nat} {v : Int32} (hj : j ≠ i) : xU a p i v p j = a p j := by
  rw [xU_eq, if_neg (fun z => hj z.2)]
theorem xU_e {a : xA} {p i : Nat} {v : Int32} : xU a p i v p i = v := by
  rw [xU_eq, if_pos ⟨rfl, rfl⟩]
section Q
variable {α β γ δ : Type} {Q : α → β → Prop}
def Q2 (F : Option α) (G : Option β) (Q : α → β → Prop) : Prop := ∃ x y, F = some x ∧ G = some y ∧ Q x y
theorem q_some {x : α} {y : β} : Q2 (some x) (some y) Q ↔ Q x y := ⟨fun ⟨_, _, e, f, h⟩ => by cases e; cases f; exact h, fun h => ⟨x, y, rfl, rfl, h⟩⟩
theorem q_gl {p : Prop} [Decidable p] {F : Option α} {G : Option β} : Q2 (xg p F) G Q ↔ p ∧ Q2 F G Q := by
  by_cases h : p
  · rw [xg_pos h]; exact ⟨fun z => ⟨h, z⟩, fun z => z.2⟩
  · refine ⟨fun ⟨_, _, e, _⟩ => ?_, fun z => absurd z.1 h⟩
    rw [xg, if_neg h] at e
    cases e
theorem q_gr {p : Prop} [Decidable p] {F : Option α} {G : Option β} : Q2 F (xg p G) Q ↔ p ∧ Q2 F G Q := by
  by_cases h : p
  · rw [xg_pos h]; exact ⟨fun z => ⟨h, z⟩, fun z => z.2⟩
  · refine ⟨fun ⟨_, _, _, e, _⟩ => ?_, fun z => absurd z.1 h⟩
    rw [xg, if_neg h] at e
    cases e
theorem q_wl {a : xA} {k : xA → Option α} {G : Option β} : Q2 (xw a k) G Q ↔ Q2 (k a) G Q := Iff.rfl
theorem q_wr {a : xA} {k : xA → Option β} {F : Option α} : Q2 F (xw a k) Q ↔ Q2 F (k a) Q := Iff.rfl
theorem q_il {p : Prop} [Decidable p] {F F' : Option α} {G : Option β} : Q2 (if p then F else F') G Q ↔ (p → Q2 F G Q) ∧ (¬ p → Q2 F' G Q) := by
  by_cases h : p
  · rw [if_pos h]; exact ⟨fun z => ⟨fun _ => z, fun n => absurd h n⟩, fun z => z.1 h⟩
  · rw [if_neg h]; exact ⟨fun z => ⟨fun n => absurd n h, fun _ => z⟩, fun z => z.2 h⟩
theorem q_ir {p : Prop} [Decidable p] {F : Option α} {G G' : Option β} : Q2 F (if p then G else G') Q ↔ (p → Q2 F G Q) ∧ (¬ p → Q2 F G' Q) := by
  by_cases h : p
  · rw [if_pos h]; exact ⟨fun z => ⟨fun _ => z, fun n => absurd h n⟩, fun z => z.1 h⟩
  · rw [if_neg h]; exact ⟨fun z => ⟨fun n => absurd n h, fun _ => z⟩, fun z => z.2 h⟩
theorem q_b22 {m m' : Option (Int32 × xA)} {k : Int32 → xA → Option α} {l : Int32 → xA → Option β} {Q1 : Int32 × xA → Int32 × xA → Prop} (h1 : Q2 m m' Q1) (h2 : ∀ v c w r, Q1 (v, c) (w, r) → Q2 (k v c) (l w r) Q) : Q2 (xb2 m k) (xb2 m' l) Q := by
  obtain ⟨⟨v, c⟩, ⟨w, r⟩, e1, e2, h⟩ := h1
  rw [e1, e2]
  exact h2 v c w r h
theorem q_b11 {m m' : Option xA} {k : xA → Option α} {l : xA → Option β} {Q1 : xA → xA → Prop} (h1 : Q2 m m' Q1) (h2 : ∀ c r, Q1 c r → Q2 (k c) (l r) Q) : Q2 (xb1 m k) (xb1 m' l) Q := by
  obtain ⟨c, r, e1, e2, h⟩ := h1
  rw [e1, e2]
  exact h2 c r h
theorem q_bb {m : Option γ} {m' : Option δ} {k : γ → Option α} {l : δ → Option β} {Q1 : γ → δ → Prop} (h1 : Q2 m m' Q1) (h2 : ∀ c r, Q1 c r → Q2 (k c) (l r) Q) : Q2 (m.bind k) (m'.bind l) Q := by
  obtain ⟨c, r, e1, e2, h⟩ := h1
  rw [e1, e2]
  exact h2 c r h
theorem q_mono {F : Option α} {G : Option β} {Q1 : α → β → Prop} (h1 : Q2 F G Q1) (h2 : ∀ x y, Q1 x y → Q x y) : Q2 F G Q := by
  obtain ⟨c, r, e1, e2, h⟩ := h1
  exact ⟨c, r, e1, e2, h2 c r h⟩
theorem q_ok {R : xA → xA → Prop} {v w : Int32} {c r : xA} (e : v = w) (h : R c r) : Q2 (some (v, c)) (some (w, r)) (fun p q => p.1 = q.1 ∧ R p.2 q.2) := ⟨(v, c), (w, r), rfl, rfl, e, h⟩
theorem q_ok1 {R : xA → xA → Prop} {c r : xA} (h : R c r) : Q2 (some c) (some r) (fun p q => R p q) := ⟨c, r, rfl, rfl, h⟩
theorem q_bs {m m' : Option (Int32 × xA)} {k : Int32 → xA → Option α} {l : Int32 → xA → Option β} {R : xA → xA → Prop} (h1 : Q2 m m' (fun p q => p.1 = q.1 ∧ R p.2 q.2)) (h2 : ∀ v c r, R c r → Q2 (k v c) (l v r) Q) : Q2 (xb2 m k) (xb2 m' l) Q := by
  obtain ⟨⟨v, c⟩, ⟨w, r⟩, e1, e2, e3, h⟩ := h1
  rw [e1, e2]
  have e4 : v = w := e3
  subst e4
  exact h2 v c r h
section I
variable {p : Prop} {d : Decidable p} {F F' : Option α} {G G' : Option β}
theorem q_pl (h : p) (k : Q2 F G Q) : Q2 (@ite _ p d F F') G Q := by rw [if_pos h]; exact k
theorem q_nl (h : ¬ p) (k : Q2 F' G Q) : Q2 (@ite _ p d F F') G Q := by rw [if_neg h]; exact k
theorem q_pr (h : p) (k : Q2 F G Q) : Q2 F (@ite _ p d G G') Q := by rw [if_pos h]; exact k
theorem q_nr (h : ¬ p) (k : Q2 F G' Q) : Q2 F (@ite _ p d G G') Q := by rw [if_neg h]; exact k
theorem q_hl (h : p) (k : Q2 F G Q) : Q2 (@xg _ p d F) G Q := by rw [xg_pos h]; exact k
theorem q_hr (h : p) (k : Q2 F G Q) : Q2 F (@xg _ p d G) Q := by rw [xg_pos h]; exact k
theorem q_l2 {m : Option (Int32 × xA)} {k : Int32 → xA → Option α} {v : Int32} {a : xA} (e : m = some (v, a)) (h : Q2 (k v a) G Q) : Q2 (xb2 m k) G Q := by rw [e]; exact h
theorem q_r2 {m : Option (Int32 × xA)} {k : Int32 → xA → Option β} {v : Int32} {a : xA} (e : m = some (v, a)) (h : Q2 F (k v a) Q) : Q2 F (xb2 m k) Q := by rw [e]; exact h
theorem q_l1 {m : Option xA} {k : xA → Option α} {a : xA} (e : m = some a) (h : Q2 (k a) G Q) : Q2 (xb1 m k) G Q := by rw [e]; exact h
theorem q_r1 {m : Option xA} {k : xA → Option β} {a : xA} (e : m = some a) (h : Q2 F (k a) Q) : Q2 F (xb1 m k) Q := by rw [e]; exact h
theorem q_lb {m : Option γ} {k : γ → Option α} {a : γ} (e : m = some a) (h : Q2 (k a) G Q) : Q2 (m.bind k) G Q := by rw [e]; exact h
theorem q_rb {m : Option γ} {k : γ → Option β} {a : γ} (e : m = some a) (h : Q2 F (k a) Q) : Q2 F (m.bind k) Q := by rw [e]; exact h
end I
end Q
theorem xg_d {β : Type} {c : Prop} {d : Decidable c} {k : Option β} (q : c) : @xg β c d k = k := @xg_pos β c d k q
section B
variable {β γ : Type}
theorem b2_some {v : Int32} {a : xA} {k : Int32 → xA → Option β} : xb2 (some (v, a)) k = k v a := rfl
theorem b1_some {a : xA} {k : xA → Option β} : xb1 (some a) k = k a := rfl
theorem b2_g {p : Prop} [Decidable p] {m : Option (Int32 × xA)} {k : Int32 → xA → Option β} : xb2 (xg p m) k = xg p (xb2 m k) := by
  unfold xg
  by_cases h : p
  · rw [if_pos h, if_pos h]
  · rw [if_neg h, if_neg h]; rfl
theorem b1_g {p : Prop} [Decidable p] {m : Option xA} {k : xA → Option β} : xb1 (xg p m) k = xg p (xb1 m k) := by
  unfold xg
  by_cases h : p
  · rw [if_pos h, if_pos h]
  · rw [if_neg h, if_neg h]; rfl
theorem b2_i {p : Prop} [Decidable p] {m n : Option (Int32 × xA)} {k : Int32 → xA → Option β} : xb2 (if p then m else n) k = if p then xb2 m k else xb2 n k := by
  by_cases h : p
  · rw [if_pos h, if_pos h]
  · rw [if_neg h, if_neg h]
theorem b1_i {p : Prop} [Decidable p] {m n : Option xA} {k : xA → Option β} : xb1 (if p then m else n) k = if p then xb1 m k else xb1 n k := by
  by_cases h : p
  · rw [if_pos h, if_pos h]
  · rw [if_neg h, if_neg h]
theorem b2_w {a : xA} {m : xA → Option (Int32 × xA)} {k : Int32 → xA → Option β} : xb2 (xw a m) k = xw a (fun a => xb2 (m a) k) := rfl
theorem b1_w {a : xA} {m : xA → Option xA} {k : xA → Option β} : xb1 (xw a m) k = xw a (fun a => xb1 (m a) k) := rfl
theorem b2_2 {m : Option (Int32 × xA)} {l : Int32 → xA → Option (Int32 × xA)} {k : Int32 → xA → Option β} : xb2 (xb2 m l) k = xb2 m (fun v a => xb2 (l v a) k) := by
  cases m <;> rfl
theorem b1_2 {m : Option (Int32 × xA)} {l : Int32 → xA → Option xA} {k : xA → Option β} : xb1 (xb2 m l) k = xb2 m (fun v a => xb1 (l v a) k) := by
  cases m <;> rfl
theorem b2_1 {m : Option xA} {l : xA → Option (Int32 × xA)} {k : Int32 → xA → Option β} : xb2 (xb1 m l) k = xb1 m (fun a => xb2 (l a) k) := by
  cases m <;> rfl
theorem b1_1 {m : Option xA} {l : xA → Option xA} {k : xA → Option β} : xb1 (xb1 m l) k = xb1 m (fun a => xb1 (l a) k) := by
  cases m <;> rfl
theorem b2_b {m : Option γ} {l : γ → Option (Int32 × xA)} {k : Int32 → xA → Option β} : xb2 (m.bind l) k = m.bind (fun z => xb2 (l z) k) := by
  cases m <;> rfl
theorem b1_b {m : Option γ} {l : γ → Option xA} {k : xA → Option β} : xb1 (m.bind l) k = m.bind (fun z => xb1 (l z) k) := by
  cases m <;> rfl
end B
