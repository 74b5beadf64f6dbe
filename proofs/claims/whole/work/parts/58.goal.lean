/-! whole: both states behind the constructors. -/
section X
variable {N h b : Nat} {v3 : Int32}
theorem kn_z {A : xA} (h1 : ∀ i, A 124 i = 0) (h2 : ∀ i, A 125 i = 0) : ∀ n, kn A n = 0
  | 0 => rfl
  | n + 1 => by
    show kn A n + dn A n = 0
    rw [kn_z h1 h2 n]
    unfold dn
    rw [if_pos ⟨h1 n, h2 n⟩]
theorem RB_0 {A : xA} {o cap : Nat} {f : Nat → Int32} (h1 : A o 1 = 0) (h2 : A o 2 = 0) (hc : 0 < cap) : RB A o cap f := by
  unfold RB
  rw [h1, h2]
  exact ⟨by decide, hc, by decide, Nat.zero_le _, fun i hi => absurd hi (Nat.not_lt_zero _)⟩
theorem by0 : By (0 : Int32) := rfl
set_option maxRecDepth 100000 in
set_option maxHeartbeats 4000000 in
theorem x_init (h1 : 4 ≤ h) (h2 : h ≤ 24) (b1 : 16 ≤ b) (b2 : b ≤ 80) (v1 : 1 ≤ v3.toInt) (v2 : v3.toInt ≤ 16) : AR N h b (x0 v3 h b) (x0 v3 h b) := by
  generalize hA : x0 v3 h b = A
  have z1 : ∀ i, A 1 i = 0 := fun _ => by rw [← hA]; rfl
  have z2 : ∀ i, A 2 i = 0 := fun _ => by rw [← hA]; rfl
  have z118 : ∀ i, A 118 i = 0 := fun _ => by rw [← hA]; rfl
  have z120 : ∀ i, A 120 i = 0 := fun _ => by rw [← hA]; rfl
  have z122 : ∀ i, A 122 i = 0 := fun _ => by rw [← hA]; rfl
  have z124 : ∀ i, A 124 i = 0 := fun _ => by rw [← hA]; rfl
  have z125 : ∀ i, A 125 i = 0 := fun _ => by rw [← hA]; rfl
  have z131 : ∀ i, A 131 i = 0 := fun _ => by rw [← hA]; rfl
  have z133 : ∀ i, A 133 i = 0 := fun _ => by rw [← hA]; rfl
  have z139 : ∀ i, A 139 i = 0 := fun _ => by rw [← hA]; rfl
  have z158 : ∀ i, A 158 i = 0 := fun _ => by rw [← hA]; rfl
  have z159 : ∀ i, A 159 i = 0 := fun _ => by rw [← hA]; rfl
  have z165 : ∀ i, A 165 i = 0 := fun _ => by rw [← hA]; rfl
  have z166 : ∀ i, A 166 i = 0 := fun _ => by rw [← hA]; rfl
  have z168 : ∀ i, A 168 i = 0 := fun _ => by rw [← hA]; rfl
  have z172 : ∀ i, A 172 i = 0 := fun _ => by rw [← hA]; rfl
  have z184 : ∀ i, A 184 i = 0 := fun _ => by rw [← hA]; rfl
  have z185 : ∀ i, A 185 i = 0 := fun _ => by rw [← hA]; rfl
  have z186 : ∀ i, A 186 i = 0 := fun _ => by rw [← hA]; rfl
  have z187 : ∀ i, A 187 i = 0 := fun _ => by rw [← hA]; rfl
  have z188 : ∀ i, A 188 i = 0 := fun _ => by rw [← hA]; rfl
  have z191 : ∀ i, A 191 i = 0 := fun _ => by rw [← hA]; rfl
  have z193 : ∀ i, A 193 i = 0 := fun _ => by rw [← hA]; rfl
  have z194 : ∀ i, A 194 i = 0 := fun _ => by rw [← hA]; rfl
  have z195 : ∀ i, A 195 i = 0 := fun _ => by rw [← hA]; rfl
  have e0_1 : A 0 1 = 0 := by rw [← hA]; rfl
  have e0_3 : A 0 3 = 0 := by rw [← hA]; rfl
  have e0_13 : A 0 13 = v3 := by rw [← hA]; rfl
  have e0_14 : A 0 14 = -1 := by rw [← hA]; rfl
  have e0_15 : A 0 15 = 0 := by rw [← hA]; rfl
  have e3_1 : A 3 1 = 0 := by rw [← hA]; rfl
  have e3_2 : A 3 2 = 0 := by rw [← hA]; rfl
  have e3_3 : A 3 3 = -1 := by rw [← hA]; rfl
  have e116_3 : A 116 3 = 127 := by rw [← hA]; rfl
  have e116_4 : A 116 4 = 0 := by rw [← hA]; rfl
  have e116_5 : A 116 5 = 0 := by rw [← hA]; rfl
  have e116_6 : A 116 6 = 0 := by rw [← hA]; rfl
  have e116_7 : A 116 7 = 0 := by rw [← hA]; rfl
  have e116_8 : A 116 8 = 0 := by rw [← hA]; rfl
  have e116_9 : A 116 9 = 0 := by rw [← hA]; rfl
  have e117_1 : A 117 1 = 0 := by rw [← hA]; rfl
  have e117_2 : A 117 2 = 0 := by rw [← hA]; rfl
  have e119_1 : A 119 1 = 0 := by rw [← hA]; rfl
  have e119_2 : A 119 2 = 0 := by rw [← hA]; rfl
  have e121_1 : A 121 1 = 0 := by rw [← hA]; rfl
  have e121_2 : A 121 2 = 0 := by rw [← hA]; rfl
  have e123_2 : A 123 2 = 0 := by rw [← hA]; rfl
  have e123_3 : A 123 3 = -1 := by rw [← hA]; rfl
  have e123_4 : A 123 4 = 0 := by rw [← hA]; rfl
  have e127_0 : A 127 0 = -1 := by rw [← hA]; rfl
  have e127_2 : A 127 2 = 0 := by rw [← hA]; rfl
  have e127_3 : A 127 3 = 0 := by rw [← hA]; rfl
  have e128_0 : A 128 0 = -1 := by rw [← hA]; rfl
  have e128_2 : A 128 2 = 0 := by rw [← hA]; rfl
  have e128_3 : A 128 3 = 0 := by rw [← hA]; rfl
  have e129_4 : A 129 4 = 0 := by rw [← hA]; rfl
  have e129_5 : A 129 5 = 0 := by rw [← hA]; rfl
  have e129_6 : A 129 6 = 0 := by rw [← hA]; rfl
  have e129_7 : A 129 7 = 0 := by rw [← hA]; rfl
  have e129_8 : A 129 8 = 0 := by rw [← hA]; rfl
  have e129_9 : A 129 9 = 0 := by rw [← hA]; rfl
  have e130_1 : A 130 1 = 0 := by rw [← hA]; rfl
  have e130_2 : A 130 2 = 0 := by rw [← hA]; rfl
  have e132_1 : A 132 1 = 0 := by rw [← hA]; rfl
  have e132_2 : A 132 2 = 0 := by rw [← hA]; rfl
  have e136_0 : A 136 0 = Int32.ofNat h := by rw [← hA]; rfl
  have e136_1 : A 136 1 = Int32.ofNat b := by rw [← hA]; rfl
  have e136_5 : A 136 5 = 0 := by rw [← hA]; rfl
  have e136_6 : A 136 6 = 0 := by rw [← hA]; rfl
  have e136_7 : A 136 7 = 0 := by rw [← hA]; rfl
  have e136_8 : A 136 8 = 0 := by rw [← hA]; rfl
  have e136_9 : A 136 9 = Int32.ofNat h - 1 := by rw [← hA]; rfl
  have e136_10 : A 136 10 = 96 := by rw [← hA]; rfl
  have e136_11 : A 136 11 = 0 := by rw [← hA]; rfl
  have e136_12 : A 136 12 = 0 := by rw [← hA]; rfl
  have e136_13 : A 136 13 = 0 := by rw [← hA]; rfl
  have e136_14 : A 136 14 = 0 := by rw [← hA]; rfl
  have e136_15 : A 136 15 = 0 := by rw [← hA]; rfl
  have e136_16 : A 136 16 = 0 := by rw [← hA]; rfl
  have e137_0 : A 137 0 = 0 := by rw [← hA]; rfl
  have e137_1 : A 137 1 = 0 := by rw [← hA]; rfl
  have e137_2 : A 137 2 = 0 := by rw [← hA]; rfl
  have e137_3 : A 137 3 = 0 := by rw [← hA]; rfl
  have e137_4 : A 137 4 = 0 := by rw [← hA]; rfl
  have e137_5 : A 137 5 = 0 := by rw [← hA]; rfl
  have e157_2 : A 157 2 = 0 := by rw [← hA]; rfl
  have e157_4 : A 157 4 = 0 := by rw [← hA]; rfl
  have e157_5 : A 157 5 = 0 := by rw [← hA]; rfl
  have e157_13 : A 157 13 = 0 := by rw [← hA]; rfl
  have e157_14 : A 157 14 = -1 := by rw [← hA]; rfl
  have e157_21 : A 157 21 = -1 := by rw [← hA]; rfl
  have e157_32 : A 157 32 = -1 := by rw [← hA]; rfl
  have e157_33 : A 157 33 = -1 := by rw [← hA]; rfl
  have e157_34 : A 157 34 = 0 := by rw [← hA]; rfl
  have e157_55 : A 157 55 = 0 := by rw [← hA]; rfl
  have e157_56 : A 157 56 = 0 := by rw [← hA]; rfl
  have e157_57 : A 157 57 = 0 := by rw [← hA]; rfl
  have e157_58 : A 157 58 = 127 := by rw [← hA]; rfl
  have e157_59 : A 157 59 = 0 := by rw [← hA]; rfl
  have e157_60 : A 157 60 = 0 := by rw [← hA]; rfl
  have e157_61 : A 157 61 = 0 := by rw [← hA]; rfl
  have e157_62 : A 157 62 = 0 := by rw [← hA]; rfl
  have e157_63 : A 157 63 = 0 := by rw [← hA]; rfl
  have e157_65 : A 157 65 = 0 := by rw [← hA]; rfl
  have e157_67 : A 157 67 = 0 := by rw [← hA]; rfl
  have e157_68 : A 157 68 = Int32.ofNat h := by rw [← hA]; rfl
  have e157_69 : A 157 69 = Int32.ofNat b := by rw [← hA]; rfl
  have e157_70 : A 157 70 = v3 := by rw [← hA]; rfl
  have e157_71 : A 157 71 = 0 := by rw [← hA]; rfl
  have e157_72 : A 157 72 = 0 := by rw [← hA]; rfl
  have e157_73 : A 157 73 = 0 := by rw [← hA]; rfl
  have e157_74 : A 157 74 = -1 := by rw [← hA]; rfl
  have e157_75 : A 157 75 = -1 := by rw [← hA]; rfl
  have e157_79 : A 157 79 = 0 := by rw [← hA]; rfl
  have e157_80 : A 157 80 = 0 := by rw [← hA]; rfl
  have e157_81 : A 157 81 = 0 := by rw [← hA]; rfl
  have e157_82 : A 157 82 = 0 := by rw [← hA]; rfl
  have e157_83 : A 157 83 = 0 := by rw [← hA]; rfl
  have e157_84 : A 157 84 = 0 := by rw [← hA]; rfl
  have e157_85 : A 157 85 = 0 := by rw [← hA]; rfl
  have e157_87 : A 157 87 = 0 := by rw [← hA]; rfl
  have e157_89 : A 157 89 = 0 := by rw [← hA]; rfl
  have e157_93 : A 157 93 = 0 := by rw [← hA]; rfl
  have e157_94 : A 157 94 = 0 := by rw [← hA]; rfl
  have e157_95 : A 157 95 = 0 := by rw [← hA]; rfl
  have e157_96 : A 157 96 = Int32.ofNat h - 1 := by rw [← hA]; rfl
  have e157_97 : A 157 97 = 0 := by rw [← hA]; rfl
  have e157_98 : A 157 98 = 96 := by rw [← hA]; rfl
  have e157_99 : A 157 99 = 0 := by rw [← hA]; rfl
  have e157_100 : A 157 100 = 0 := by rw [← hA]; rfl
  have e157_101 : A 157 101 = 0 := by rw [← hA]; rfl
  have e157_103 : A 157 103 = 0 := by rw [← hA]; rfl
  have e157_104 : A 157 104 = 0 := by rw [← hA]; rfl
  have e157_105 : A 157 105 = 0 := by rw [← hA]; rfl
  have e157_106 : A 157 106 = 0 := by rw [← hA]; rfl
  have e157_107 : A 157 107 = 0 := by rw [← hA]; rfl
  have e157_108 : A 157 108 = 0 := by rw [← hA]; rfl
  have e157_109 : A 157 109 = 0 := by rw [← hA]; rfl
  have e157_110 : A 157 110 = 0 := by rw [← hA]; rfl
  have e157_111 : A 157 111 = 0 := by rw [← hA]; rfl
  have e157_112 : A 157 112 = 0 := by rw [← hA]; rfl
  have e157_113 : A 157 113 = 0 := by rw [← hA]; rfl
  have e157_120 : A 157 120 = -1 := by rw [← hA]; rfl
  have e157_121 : A 157 121 = 0 := by rw [← hA]; rfl
  have w1 : ∀ w, w < 8 → A (141 + 2 * w) 1 = 0 := fun w hw => by
    obtain rfl | rfl | rfl | rfl | rfl | rfl | rfl | rfl : w = 0 ∨ w = 1 ∨ w = 2 ∨ w = 3 ∨ w = 4 ∨ w = 5 ∨ w = 6 ∨ w = 7 := by omega
    all_goals (rw [← hA]; rfl)
  have f138 : A 138 = am_fll (fun _ => 0) 0 (h * b) 32 := by rw [← hA]; rfl
  have f190 : A 190 = am_fll (fun _ => 0) 0 1920 32 := by rw [← hA]; rfl
  have f140 : A 140 = am_stp (fun _ => 0) b := by rw [← hA]; rfl
  have f192 : A 192 = am_stp (fun _ => 0) 80 := by rw [← hA]; rfl
  clear hA
  have eh : Int32.ofNat h - 1 = Int32.ofNat (h - 1) := by rw [show (1 : Int32) = Int32.ofNat 1 from rfl, ← Int32.ofNat_sub _ _ (by omega)]
  have n14 : ∀ e, e < 12 → ¬ A 0 14 = Int32.ofNat (9 + 7 * e) := fun e he q => by
    rw [e0_14] at q
    exact absurd q.symm (ofn_ne (by omega))
  have hRD : RD A A A A := by
    refine ⟨Df_rfl, ?_, ?_, ?_, ?_⟩
    · unfold Ds
      rw [e116_3, e116_4, e116_5, e116_6, e116_7, e116_8, e116_9, e157_58, e157_62, e157_63, e157_61, e157_59, e157_60, e157_57]
      decide
    · unfold Dq
      rw [e117_1, e117_2, e157_55, e157_56]
      exact ⟨rfl, rfl, by decide, by decide, by decide, by decide, fun i => by rw [z118, z184]; rfl⟩
    · unfold De
      rw [e119_1, e119_2, e157_65]
      exact ⟨rfl, rfl, by decide, by decide, fun i => by rw [z120, z185]; rfl, fun i => by rw [z120, z185]; rfl⟩
    · exact ⟨⟨by rw [e121_2, e157_67], fun i => Or.inl (by rw [z186]; exact by0)⟩, RB_0 e121_1 e121_2 (by decide)⟩
  have hRT : RT h b A A A A := by
    refine ⟨⟨fun _ _ => rfl, fun _ _ _ => rfl, fun _ _ => rfl⟩, ⟨⟨fun _ _ => rfl, fun _ _ _ => rfl, fun _ _ => rfl⟩, ⟨0, 0, 0, h - 1, ⟨e136_0, e136_1, e157_68, e157_69⟩, ⟨by omega, Nat.zero_le _, Nat.zero_le _, by omega⟩, ⟨e136_5, e157_93, e136_6, e157_94, e136_8, e157_95, by rw [e136_9, eh], by rw [e157_96, eh]⟩⟩, ?_, ?_, ?_⟩, ?_, ?_, ?_, ?_⟩
    · unfold Go
      rw [e136_7, e136_10, e136_11, e136_12, e136_13, e136_14, e136_15, e136_16, e157_108, e157_98, e157_97, e157_109, e157_110, e157_103, e157_99, e157_100, e157_81]
      decide
    · unfold Gv
      refine ⟨⟨0, 0, by omega, by omega, e137_0, e157_104, e137_1, e157_105⟩, ?_⟩
      rw [e137_2, e137_3, e137_4, e137_5, e157_106, e157_111, e157_112, e157_107, e157_113]
      decide
    · refine ⟨fun y _ => by rw [z139, z191], fun x hx => ?_, fun y x hy hx => ?_, fun y x _ hn _ _ => absurd (z191 y) hn⟩
      · rw [f140, f192]
        unfold am_stp
        rw [if_pos hx, if_pos (show x < 80 by omega)]
      · rw [f138, f190]
        unfold am_fll
        rw [if_pos ⟨Nat.zero_le _, rc_lt hy hx⟩, if_pos ⟨Nat.zero_le _, by omega⟩]
    · exact ⟨by rw [e130_2, e157_79], RB_0 e130_1 e130_2 (by decide), fun i => Or.inl (by rw [z187]; exact by0)⟩
    · exact ⟨by rw [e132_2, e157_87], RB_0 e132_1 e132_2 (by decide), e157_89, fun i => by rw [z188]; rfl⟩
    · unfold Ts
      rw [e129_4, e129_5, e129_6, e129_7, e129_8, e129_9, e157_83, e157_84, e157_85, e157_82, e157_80, e157_101, e130_2]
      decide
    · refine ⟨fun g => ?_, fun g => ?_⟩
      · rw [e129_9] at g; exact absurd g (by decide)
      · rw [e129_9] at g; exact absurd g (by decide)
  refine ⟨0, ⟨by rw [e0_1, e157_2], by rw [e0_1]; decide, by rw [e0_1]; decide, fun i => by rw [z1, z158]; exact ⟨by0, rfl⟩⟩, ⟨by rw [e0_3, e157_4], by rw [e0_3]; decide, by rw [e0_3]; decide, fun i => by rw [z2, z159]; exact ⟨by0, rfl⟩⟩, ⟨by decide, e3_1, e157_5, fun e he => absurd he (Nat.not_lt_zero _), by rw [e3_2, e157_13], by rw [e3_3, e157_14], ⟨fun i => by rw [z165]; rfl, fun i => ⟨0, by decide, z166 i⟩⟩, fun e he q => absurd q (n14 e he)⟩, Or.inl ⟨e0_14, e157_21, e157_32, e157_33, e157_34⟩, fun e he q => absurd q (n14 e he), fun w hw => Or.inl ⟨w1 w hw, z172 w⟩, ⟨hRD, hRT, ⟨fun i _ => by rw [z124, z125, z194, z195]; decide, fun i _ _ => ⟨z124 i, z125 i⟩, ⟨by rw [e123_3, e157_120], by rw [e123_4, e157_121], Or.inl e123_3⟩, by rw [e123_2, kn_z z124 z125]; rfl⟩, ⟨Or.inl ⟨e127_0, e157_74⟩, by rw [e127_3, e157_72], Or.inl e127_2⟩, ⟨Or.inl ⟨e128_0, e157_75⟩, by rw [e128_3, e157_73], Or.inl e128_2⟩, ⟨by rw [e0_15, e157_71], by rw [e0_15]; decide, by rw [e0_15]; decide, by rw [e0_13, e157_70], by rw [e0_13, Int32.le_iff_toInt_le]; exact v1, by rw [e0_13, Int32.le_iff_toInt_le]; exact v2⟩, LF_r⟩, fun i => by rw [z168]; rfl⟩
theorem x_goal : xGoal := ⟨1000000, fun v3 h b h1 h2 b1 b2 b3 v1 v2 => ⟨fun a => AR 1000000 h b a a, x_sim ⟨by omega, h1, h2, b1, b2, b3⟩, x_init h1 h2 b1 b2 v1 v2⟩⟩
end X
