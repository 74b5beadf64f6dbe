theorem am_ck2_by {y : Nat} : ∀ {l : List (List (Option am_I))} {pc : Nat}, (∀ j, j < l.length → am_ck1 y (pc + 16 * j) (l.getD j []) = true) → am_ck2 y pc l = true
  | [], _, _ => rfl
  | c :: t, pc, h => by
    unfold am_ck2
    rw [Bool.and_eq_true]
    refine ⟨h 0 (Nat.zero_lt_succ _), am_ck2_by fun j hj => ?_⟩
    have := h (j + 1) (Nat.succ_lt_succ hj)
    rw [show pc + 16 + 16 * j = pc + 16 * (j + 1) by omega]
    exact this
theorem am_s417 : am_ck2 417 0 am_c417 = true := am_ck2_by fun j hj => by
  have hj : j < 93 := hj
  rw [Nat.zero_add]
  match j, hj with
  | 0, _ => exact am_sl0
  | 1, _ => exact am_sl1
  | 2, _ => exact am_sl2
  | 3, _ => exact am_sl3
  | 4, _ => exact am_sl4
  | 5, _ => exact am_sl5
  | 6, _ => exact am_sl6
  | 7, _ => exact am_sl7
  | 8, _ => exact am_sl8
  | 9, _ => exact am_sl9
  | 10, _ => exact am_sl10
  | 11, _ => exact am_sl11
  | 12, _ => exact am_sl12
  | 13, _ => exact am_sl13
  | 14, _ => exact am_sl14
  | 15, _ => exact am_sl15
  | 16, _ => exact am_sl16
  | 17, _ => exact am_sl17
  | 18, _ => exact am_sl18
  | 19, _ => exact am_sl19
  | 20, _ => exact am_sl20
  | 21, _ => exact am_sl21
  | 22, _ => exact am_sl22
  | 23, _ => exact am_sl23
  | 24, _ => exact am_sl24
  | 25, _ => exact am_sl25
  | 26, _ => exact am_sl26
  | 27, _ => exact am_sl27
  | 28, _ => exact am_sl28
  | 29, _ => exact am_sl29
  | 30, _ => exact am_sl30
  | 31, _ => exact am_sl31
  | 32, _ => exact am_sl32
  | 33, _ => exact am_sl33
  | 34, _ => exact am_sl34
  | 35, _ => exact am_sl35
  | 36, _ => exact am_sl36
  | 37, _ => exact am_sl37
  | 38, _ => exact am_sl38
  | 39, _ => exact am_sl39
  | 40, _ => exact am_sl40
  | 41, _ => exact am_sl41
  | 42, _ => exact am_sl42
  | 43, _ => exact am_sl43
  | 44, _ => exact am_sl44
  | 45, _ => exact am_sl45
  | 46, _ => exact am_sl46
  | 47, _ => exact am_sl47
  | 48, _ => exact am_sl48
  | 49, _ => exact am_sl49
  | 50, _ => exact am_sl50
  | 51, _ => exact am_sl51
  | 52, _ => exact am_sl52
  | 53, _ => exact am_sl53
  | 54, _ => exact am_sl54
  | 55, _ => exact am_sl55
  | 56, _ => exact am_sl56
  | 57, _ => exact am_sl57
  | 58, _ => exact am_sl58
  | 59, _ => exact am_sl59
  | 60, _ => exact am_sl60
  | 61, _ => exact am_sl61
  | 62, _ => exact am_sl62
  | 63, _ => exact am_sl63
  | 64, _ => exact am_sl64
  | 65, _ => exact am_sl65
  | 66, _ => exact am_sl66
  | 67, _ => exact am_sl67
  | 68, _ => exact am_sl68
  | 69, _ => exact am_sl69
  | 70, _ => exact am_sl70
  | 71, _ => exact am_sl71
  | 72, _ => exact am_sl72
  | 73, _ => exact am_sl73
  | 74, _ => exact am_sl74
  | 75, _ => exact am_sl75
  | 76, _ => exact am_sl76
  | 77, _ => exact am_sl77
  | 78, _ => exact am_sl78
  | 79, _ => exact am_sl79
  | 80, _ => exact am_sl80
  | 81, _ => exact am_sl81
  | 82, _ => exact am_sl82
  | 83, _ => exact am_sl83
  | 84, _ => exact am_sl84
  | 85, _ => exact am_sl85
  | 86, _ => exact am_sl86
  | 87, _ => exact am_sl87
  | 88, _ => exact am_sl88
  | 89, _ => exact am_sl89
  | 90, _ => exact am_sl90
  | 91, _ => exact am_sl91
  | 92, _ => exact am_sl92
  | n + 93, h => omega
theorem am_sc0 : ∀ (j : Nat) (q : List (List (Option am_I))), am_cl0[j]? = some q → am_ck2 (0 + j) 0 q = true := fun j q h => by
  match j, h with
  | 0, h => cases h; exact am_s0
  | 1, h => cases h; exact am_s1
  | 2, h => cases h; exact am_s2
  | 3, h => cases h; exact am_s3
  | 4, h => cases h; exact am_s4
  | 5, h => cases h; exact am_s5
  | 6, h => cases h; exact am_s6
  | 7, h => cases h; exact am_s7
  | 8, h => cases h; exact am_s8
  | 9, h => cases h; exact am_s9
  | 10, h => cases h; exact am_s10
  | 11, h => cases h; exact am_s11
  | 12, h => cases h; exact am_s12
  | 13, h => cases h; exact am_s13
  | 14, h => cases h; exact am_s14
  | 15, h => cases h; exact am_s15
  | n + 16, h => cases h
theorem am_sc1 : ∀ (j : Nat) (q : List (List (Option am_I))), am_cl1[j]? = some q → am_ck2 (16 + j) 0 q = true := fun j q h => by
  match j, h with
  | 0, h => cases h; exact am_s16
  | 1, h => cases h; exact am_s17
  | 2, h => cases h; exact am_s18
  | 3, h => cases h; exact am_s19
  | 4, h => cases h; exact am_s20
  | 5, h => cases h; exact am_s21
  | 6, h => cases h; exact am_s22
  | 7, h => cases h; exact am_s23
  | 8, h => cases h; exact am_s24
  | 9, h => cases h; exact am_s25
  | 10, h => cases h; exact am_s26
  | 11, h => cases h; exact am_s27
  | 12, h => cases h; exact am_s28
  | 13, h => cases h; exact am_s29
  | 14, h => cases h; exact am_s30
  | 15, h => cases h; exact am_s31
  | n + 16, h => cases h
theorem am_sc2 : ∀ (j : Nat) (q : List (List (Option am_I))), am_cl2[j]? = some q → am_ck2 (32 + j) 0 q = true := fun j q h => by
  match j, h with
  | 0, h => cases h; exact am_s32
  | 1, h => cases h; exact am_s33
  | 2, h => cases h; exact am_s34
  | 3, h => cases h; exact am_s35
  | 4, h => cases h; exact am_s36
  | 5, h => cases h; exact am_s37
  | 6, h => cases h; exact am_s38
  | 7, h => cases h; exact am_s39
  | 8, h => cases h; exact am_s40
  | 9, h => cases h; exact am_s41
  | 10, h => cases h; exact am_s42
  | 11, h => cases h; exact am_s43
  | 12, h => cases h; exact am_s44
  | 13, h => cases h; exact am_s45
  | 14, h => cases h; exact am_s46
  | 15, h => cases h; exact am_s47
  | n + 16, h => cases h
theorem am_sc3 : ∀ (j : Nat) (q : List (List (Option am_I))), am_cl3[j]? = some q → am_ck2 (48 + j) 0 q = true := fun j q h => by
  match j, h with
  | 0, h => cases h; exact am_s48
  | 1, h => cases h; exact am_s49
  | 2, h => cases h; exact am_s50
  | 3, h => cases h; exact am_s51
  | 4, h => cases h; exact am_s52
  | 5, h => cases h; exact am_s53
  | 6, h => cases h; exact am_s54
  | 7, h => cases h; exact am_s55
  | 8, h => cases h; exact am_s56
  | 9, h => cases h; exact am_s57
  | 10, h => cases h; exact am_s58
  | 11, h => cases h; exact am_s59
  | 12, h => cases h; exact am_s60
  | 13, h => cases h; exact am_s61
  | 14, h => cases h; exact am_s62
  | 15, h => cases h; exact am_s63
  | n + 16, h => cases h
theorem am_sc4 : ∀ (j : Nat) (q : List (List (Option am_I))), am_cl4[j]? = some q → am_ck2 (64 + j) 0 q = true := fun j q h => by
  match j, h with
  | 0, h => cases h; exact am_s64
  | 1, h => cases h; exact am_s65
  | 2, h => cases h; exact am_s66
  | 3, h => cases h; exact am_s67
  | 4, h => cases h; exact am_s68
  | 5, h => cases h; exact am_s69
  | 6, h => cases h; exact am_s70
  | 7, h => cases h; exact am_s71
  | 8, h => cases h; exact am_s72
  | 9, h => cases h; exact am_s73
  | 10, h => cases h; exact am_s74
  | 11, h => cases h; exact am_s75
  | 12, h => cases h; exact am_s76
  | 13, h => cases h; exact am_s77
  | 14, h => cases h; exact am_s78
  | 15, h => cases h; exact am_s79
  | n + 16, h => cases h
theorem am_sc5 : ∀ (j : Nat) (q : List (List (Option am_I))), am_cl5[j]? = some q → am_ck2 (80 + j) 0 q = true := fun j q h => by
  match j, h with
  | 0, h => cases h; exact am_s80
  | 1, h => cases h; exact am_s81
  | 2, h => cases h; exact am_s82
  | 3, h => cases h; exact am_s83
  | 4, h => cases h; exact am_s84
  | 5, h => cases h; exact am_s85
  | 6, h => cases h; exact am_s86
  | 7, h => cases h; exact am_s87
  | 8, h => cases h; exact am_s88
  | 9, h => cases h; exact am_s89
  | 10, h => cases h; exact am_s90
  | 11, h => cases h; exact am_s91
  | 12, h => cases h; exact am_s92
  | 13, h => cases h; exact am_s93
  | 14, h => cases h; exact am_s94
  | 15, h => cases h; exact am_s95
  | n + 16, h => cases h
theorem am_sc6 : ∀ (j : Nat) (q : List (List (Option am_I))), am_cl6[j]? = some q → am_ck2 (96 + j) 0 q = true := fun j q h => by
  match j, h with
  | 0, h => cases h; exact am_s96
  | 1, h => cases h; exact am_s97
  | 2, h => cases h; exact am_s98
  | 3, h => cases h; exact am_s99
  | 4, h => cases h; exact am_s100
  | 5, h => cases h; exact am_s101
  | 6, h => cases h; exact am_s102
  | 7, h => cases h; exact am_s103
  | 8, h => cases h; exact am_s104
  | 9, h => cases h; exact am_s105
  | 10, h => cases h; exact am_s106
  | 11, h => cases h; exact am_s107
  | 12, h => cases h; exact am_s108
  | 13, h => cases h; exact am_s109
  | 14, h => cases h; exact am_s110
  | 15, h => cases h; exact am_s111
  | n + 16, h => cases h
theorem am_sc7 : ∀ (j : Nat) (q : List (List (Option am_I))), am_cl7[j]? = some q → am_ck2 (112 + j) 0 q = true := fun j q h => by
  match j, h with
  | 0, h => cases h; exact am_s112
  | 1, h => cases h; exact am_s113
  | 2, h => cases h; exact am_s114
  | 3, h => cases h; exact am_s115
  | 4, h => cases h; exact am_s116
  | 5, h => cases h; exact am_s117
  | 6, h => cases h; exact am_s118
  | 7, h => cases h; exact am_s119
  | 8, h => cases h; exact am_s120
  | 9, h => cases h; exact am_s121
  | 10, h => cases h; exact am_s122
  | 11, h => cases h; exact am_s123
  | 12, h => cases h; exact am_s124
  | 13, h => cases h; exact am_s125
  | 14, h => cases h; exact am_s126
  | 15, h => cases h; exact am_s127
  | n + 16, h => cases h
theorem am_sc8 : ∀ (j : Nat) (q : List (List (Option am_I))), am_cl8[j]? = some q → am_ck2 (128 + j) 0 q = true := fun j q h => by
  match j, h with
  | 0, h => cases h; exact am_s128
  | 1, h => cases h; exact am_s129
  | 2, h => cases h; exact am_s130
  | 3, h => cases h; exact am_s131
  | 4, h => cases h; exact am_s132
  | 5, h => cases h; exact am_s133
  | 6, h => cases h; exact am_s134
  | 7, h => cases h; exact am_s135
  | 8, h => cases h; exact am_s136
  | 9, h => cases h; exact am_s137
  | 10, h => cases h; exact am_s138
  | 11, h => cases h; exact am_s139
  | 12, h => cases h; exact am_s140
  | 13, h => cases h; exact am_s141
  | 14, h => cases h; exact am_s142
  | 15, h => cases h; exact am_s143
  | n + 16, h => cases h
theorem am_sc9 : ∀ (j : Nat) (q : List (List (Option am_I))), am_cl9[j]? = some q → am_ck2 (144 + j) 0 q = true := fun j q h => by
  match j, h with
  | 0, h => cases h; exact am_s144
  | 1, h => cases h; exact am_s145
  | 2, h => cases h; exact am_s146
  | 3, h => cases h; exact am_s147
  | 4, h => cases h; exact am_s148
  | 5, h => cases h; exact am_s149
  | 6, h => cases h; exact am_s150
  | 7, h => cases h; exact am_s151
  | 8, h => cases h; exact am_s152
  | 9, h => cases h; exact am_s153
  | 10, h => cases h; exact am_s154
  | 11, h => cases h; exact am_s155
  | 12, h => cases h; exact am_s156
  | 13, h => cases h; exact am_s157
  | 14, h => cases h; exact am_s158
  | 15, h => cases h; exact am_s159
  | n + 16, h => cases h
theorem am_sc10 : ∀ (j : Nat) (q : List (List (Option am_I))), am_cl10[j]? = some q → am_ck2 (160 + j) 0 q = true := fun j q h => by
  match j, h with
  | 0, h => cases h; exact am_s160
  | 1, h => cases h; exact am_s161
  | 2, h => cases h; exact am_s162
  | 3, h => cases h; exact am_s163
  | 4, h => cases h; exact am_s164
  | 5, h => cases h; exact am_s165
  | 6, h => cases h; exact am_s166
  | 7, h => cases h; exact am_s167
  | 8, h => cases h; exact am_s168
  | 9, h => cases h; exact am_s169
  | 10, h => cases h; exact am_s170
  | 11, h => cases h; exact am_s171
  | 12, h => cases h; exact am_s172
  | 13, h => cases h; exact am_s173
  | 14, h => cases h; exact am_s174
  | 15, h => cases h; exact am_s175
  | n + 16, h => cases h
theorem am_sc11 : ∀ (j : Nat) (q : List (List (Option am_I))), am_cl11[j]? = some q → am_ck2 (176 + j) 0 q = true := fun j q h => by
  match j, h with
  | 0, h => cases h; exact am_s176
  | 1, h => cases h; exact am_s177
  | 2, h => cases h; exact am_s178
  | 3, h => cases h; exact am_s179
  | 4, h => cases h; exact am_s180
  | 5, h => cases h; exact am_s181
  | 6, h => cases h; exact am_s182
  | 7, h => cases h; exact am_s183
  | 8, h => cases h; exact am_s184
  | 9, h => cases h; exact am_s185
  | 10, h => cases h; exact am_s186
  | 11, h => cases h; exact am_s187
  | 12, h => cases h; exact am_s188
  | 13, h => cases h; exact am_s189
  | 14, h => cases h; exact am_s190
  | 15, h => cases h; exact am_s191
  | n + 16, h => cases h
theorem am_sc12 : ∀ (j : Nat) (q : List (List (Option am_I))), am_cl12[j]? = some q → am_ck2 (192 + j) 0 q = true := fun j q h => by
  match j, h with
  | 0, h => cases h; exact am_s192
  | 1, h => cases h; exact am_s193
  | 2, h => cases h; exact am_s194
  | 3, h => cases h; exact am_s195
  | 4, h => cases h; exact am_s196
  | 5, h => cases h; exact am_s197
  | 6, h => cases h; exact am_s198
  | 7, h => cases h; exact am_s199
  | 8, h => cases h; exact am_s200
  | 9, h => cases h; exact am_s201
  | 10, h => cases h; exact am_s202
  | 11, h => cases h; exact am_s203
  | 12, h => cases h; exact am_s204
  | 13, h => cases h; exact am_s205
  | 14, h => cases h; exact am_s206
  | 15, h => cases h; exact am_s207
  | n + 16, h => cases h
theorem am_sc13 : ∀ (j : Nat) (q : List (List (Option am_I))), am_cl13[j]? = some q → am_ck2 (208 + j) 0 q = true := fun j q h => by
  match j, h with
  | 0, h => cases h; exact am_s208
  | 1, h => cases h; exact am_s209
  | 2, h => cases h; exact am_s210
  | 3, h => cases h; exact am_s211
  | 4, h => cases h; exact am_s212
  | 5, h => cases h; exact am_s213
  | 6, h => cases h; exact am_s214
  | 7, h => cases h; exact am_s215
  | 8, h => cases h; exact am_s216
  | 9, h => cases h; exact am_s217
  | 10, h => cases h; exact am_s218
  | 11, h => cases h; exact am_s219
  | 12, h => cases h; exact am_s220
  | 13, h => cases h; exact am_s221
  | 14, h => cases h; exact am_s222
  | 15, h => cases h; exact am_s223
  | n + 16, h => cases h
theorem am_sc14 : ∀ (j : Nat) (q : List (List (Option am_I))), am_cl14[j]? = some q → am_ck2 (224 + j) 0 q = true := fun j q h => by
  match j, h with
  | 0, h => cases h; exact am_s224
  | 1, h => cases h; exact am_s225
  | 2, h => cases h; exact am_s226
  | 3, h => cases h; exact am_s227
  | 4, h => cases h; exact am_s228
  | 5, h => cases h; exact am_s229
  | 6, h => cases h; exact am_s230
  | 7, h => cases h; exact am_s231
  | 8, h => cases h; exact am_s232
  | 9, h => cases h; exact am_s233
  | 10, h => cases h; exact am_s234
  | 11, h => cases h; exact am_s235
  | 12, h => cases h; exact am_s236
  | 13, h => cases h; exact am_s237
  | 14, h => cases h; exact am_s238
  | 15, h => cases h; exact am_s239
  | n + 16, h => cases h
theorem am_sc15 : ∀ (j : Nat) (q : List (List (Option am_I))), am_cl15[j]? = some q → am_ck2 (240 + j) 0 q = true := fun j q h => by
  match j, h with
  | 0, h => cases h; exact am_s240
  | 1, h => cases h; exact am_s241
  | 2, h => cases h; exact am_s242
  | 3, h => cases h; exact am_s243
  | 4, h => cases h; exact am_s244
  | 5, h => cases h; exact am_s245
  | 6, h => cases h; exact am_s246
  | 7, h => cases h; exact am_s247
  | 8, h => cases h; exact am_s248
  | 9, h => cases h; exact am_s249
  | 10, h => cases h; exact am_s250
  | 11, h => cases h; exact am_s251
  | 12, h => cases h; exact am_s252
  | 13, h => cases h; exact am_s253
  | 14, h => cases h; exact am_s254
  | 15, h => cases h; exact am_s255
  | n + 16, h => cases h
theorem am_sc16 : ∀ (j : Nat) (q : List (List (Option am_I))), am_cl16[j]? = some q → am_ck2 (256 + j) 0 q = true := fun j q h => by
  match j, h with
  | 0, h => cases h; exact am_s256
  | 1, h => cases h; exact am_s257
  | 2, h => cases h; exact am_s258
  | 3, h => cases h; exact am_s259
  | 4, h => cases h; exact am_s260
  | 5, h => cases h; exact am_s261
  | 6, h => cases h; exact am_s262
  | 7, h => cases h; exact am_s263
  | 8, h => cases h; exact am_s264
  | 9, h => cases h; exact am_s265
  | 10, h => cases h; exact am_s266
  | 11, h => cases h; exact am_s267
  | 12, h => cases h; exact am_s268
  | 13, h => cases h; exact am_s269
  | 14, h => cases h; exact am_s270
  | 15, h => cases h; exact am_s271
  | n + 16, h => cases h
theorem am_sc17 : ∀ (j : Nat) (q : List (List (Option am_I))), am_cl17[j]? = some q → am_ck2 (272 + j) 0 q = true := fun j q h => by
  match j, h with
  | 0, h => cases h; exact am_s272
  | 1, h => cases h; exact am_s273
  | 2, h => cases h; exact am_s274
  | 3, h => cases h; exact am_s275
  | 4, h => cases h; exact am_s276
  | 5, h => cases h; exact am_s277
  | 6, h => cases h; exact am_s278
  | 7, h => cases h; exact am_s279
  | 8, h => cases h; exact am_s280
  | 9, h => cases h; exact am_s281
  | 10, h => cases h; exact am_s282
  | 11, h => cases h; exact am_s283
  | 12, h => cases h; exact am_s284
  | 13, h => cases h; exact am_s285
  | 14, h => cases h; exact am_s286
  | 15, h => cases h; exact am_s287
  | n + 16, h => cases h
theorem am_sc18 : ∀ (j : Nat) (q : List (List (Option am_I))), am_cl18[j]? = some q → am_ck2 (288 + j) 0 q = true := fun j q h => by
  match j, h with
  | 0, h => cases h; exact am_s288
  | 1, h => cases h; exact am_s289
  | 2, h => cases h; exact am_s290
  | 3, h => cases h; exact am_s291
  | 4, h => cases h; exact am_s292
  | 5, h => cases h; exact am_s293
  | 6, h => cases h; exact am_s294
  | 7, h => cases h; exact am_s295
  | 8, h => cases h; exact am_s296
  | 9, h => cases h; exact am_s297
  | 10, h => cases h; exact am_s298
  | 11, h => cases h; exact am_s299
  | 12, h => cases h; exact am_s300
  | 13, h => cases h; exact am_s301
  | 14, h => cases h; exact am_s302
  | 15, h => cases h; exact am_s303
  | n + 16, h => cases h
theorem am_sc19 : ∀ (j : Nat) (q : List (List (Option am_I))), am_cl19[j]? = some q → am_ck2 (304 + j) 0 q = true := fun j q h => by
  match j, h with
  | 0, h => cases h; exact am_s304
  | 1, h => cases h; exact am_s305
  | 2, h => cases h; exact am_s306
  | 3, h => cases h; exact am_s307
  | 4, h => cases h; exact am_s308
  | 5, h => cases h; exact am_s309
  | 6, h => cases h; exact am_s310
  | 7, h => cases h; exact am_s311
  | 8, h => cases h; exact am_s312
  | 9, h => cases h; exact am_s313
  | 10, h => cases h; exact am_s314
  | 11, h => cases h; exact am_s315
  | 12, h => cases h; exact am_s316
  | 13, h => cases h; exact am_s317
  | 14, h => cases h; exact am_s318
  | 15, h => cases h; exact am_s319
  | n + 16, h => cases h
theorem am_sc20 : ∀ (j : Nat) (q : List (List (Option am_I))), am_cl20[j]? = some q → am_ck2 (320 + j) 0 q = true := fun j q h => by
  match j, h with
  | 0, h => cases h; exact am_s320
  | 1, h => cases h; exact am_s321
  | 2, h => cases h; exact am_s322
  | 3, h => cases h; exact am_s323
  | 4, h => cases h; exact am_s324
  | 5, h => cases h; exact am_s325
  | 6, h => cases h; exact am_s326
  | 7, h => cases h; exact am_s327
  | 8, h => cases h; exact am_s328
  | 9, h => cases h; exact am_s329
  | 10, h => cases h; exact am_s330
  | 11, h => cases h; exact am_s331
  | 12, h => cases h; exact am_s332
  | 13, h => cases h; exact am_s333
  | 14, h => cases h; exact am_s334
  | 15, h => cases h; exact am_s335
  | n + 16, h => cases h
theorem am_sc21 : ∀ (j : Nat) (q : List (List (Option am_I))), am_cl21[j]? = some q → am_ck2 (336 + j) 0 q = true := fun j q h => by
  match j, h with
  | 0, h => cases h; exact am_s336
  | 1, h => cases h; exact am_s337
  | 2, h => cases h; exact am_s338
  | 3, h => cases h; exact am_s339
  | 4, h => cases h; exact am_s340
  | 5, h => cases h; exact am_s341
  | 6, h => cases h; exact am_s342
  | 7, h => cases h; exact am_s343
  | 8, h => cases h; exact am_s344
  | 9, h => cases h; exact am_s345
  | 10, h => cases h; exact am_s346
  | 11, h => cases h; exact am_s347
  | 12, h => cases h; exact am_s348
  | 13, h => cases h; exact am_s349
  | 14, h => cases h; exact am_s350
  | 15, h => cases h; exact am_s351
  | n + 16, h => cases h
theorem am_sc22 : ∀ (j : Nat) (q : List (List (Option am_I))), am_cl22[j]? = some q → am_ck2 (352 + j) 0 q = true := fun j q h => by
  match j, h with
  | 0, h => cases h; exact am_s352
  | 1, h => cases h; exact am_s353
  | 2, h => cases h; exact am_s354
  | 3, h => cases h; exact am_s355
  | 4, h => cases h; exact am_s356
  | 5, h => cases h; exact am_s357
  | 6, h => cases h; exact am_s358
  | 7, h => cases h; exact am_s359
  | 8, h => cases h; exact am_s360
  | 9, h => cases h; exact am_s361
  | 10, h => cases h; exact am_s362
  | 11, h => cases h; exact am_s363
  | 12, h => cases h; exact am_s364
  | 13, h => cases h; exact am_s365
  | 14, h => cases h; exact am_s366
  | 15, h => cases h; exact am_s367
  | n + 16, h => cases h
theorem am_sc23 : ∀ (j : Nat) (q : List (List (Option am_I))), am_cl23[j]? = some q → am_ck2 (368 + j) 0 q = true := fun j q h => by
  match j, h with
  | 0, h => cases h; exact am_s368
  | 1, h => cases h; exact am_s369
  | 2, h => cases h; exact am_s370
  | 3, h => cases h; exact am_s371
  | 4, h => cases h; exact am_s372
  | 5, h => cases h; exact am_s373
  | 6, h => cases h; exact am_s374
  | 7, h => cases h; exact am_s375
  | 8, h => cases h; exact am_s376
  | 9, h => cases h; exact am_s377
  | 10, h => cases h; exact am_s378
  | 11, h => cases h; exact am_s379
  | 12, h => cases h; exact am_s380
  | 13, h => cases h; exact am_s381
  | 14, h => cases h; exact am_s382
  | 15, h => cases h; exact am_s383
  | n + 16, h => cases h
theorem am_sc24 : ∀ (j : Nat) (q : List (List (Option am_I))), am_cl24[j]? = some q → am_ck2 (384 + j) 0 q = true := fun j q h => by
  match j, h with
  | 0, h => cases h; exact am_s384
  | 1, h => cases h; exact am_s385
  | 2, h => cases h; exact am_s386
  | 3, h => cases h; exact am_s387
  | 4, h => cases h; exact am_s388
  | 5, h => cases h; exact am_s389
  | 6, h => cases h; exact am_s390
  | 7, h => cases h; exact am_s391
  | 8, h => cases h; exact am_s392
  | 9, h => cases h; exact am_s393
  | 10, h => cases h; exact am_s394
  | 11, h => cases h; exact am_s395
  | 12, h => cases h; exact am_s396
  | 13, h => cases h; exact am_s397
  | 14, h => cases h; exact am_s398
  | 15, h => cases h; exact am_s399
  | n + 16, h => cases h
theorem am_sc25 : ∀ (j : Nat) (q : List (List (Option am_I))), am_cl25[j]? = some q → am_ck2 (400 + j) 0 q = true := fun j q h => by
  match j, h with
  | 0, h => cases h; exact am_s400
  | 1, h => cases h; exact am_s401
  | 2, h => cases h; exact am_s402
  | 3, h => cases h; exact am_s403
  | 4, h => cases h; exact am_s404
  | 5, h => cases h; exact am_s405
  | 6, h => cases h; exact am_s406
  | 7, h => cases h; exact am_s407
  | 8, h => cases h; exact am_s408
  | 9, h => cases h; exact am_s409
  | 10, h => cases h; exact am_s410
  | 11, h => cases h; exact am_s411
  | 12, h => cases h; exact am_s412
  | 13, h => cases h; exact am_s413
  | 14, h => cases h; exact am_s414
  | 15, h => cases h; exact am_s415
  | n + 16, h => cases h
theorem am_sc26 : ∀ (j : Nat) (q : List (List (Option am_I))), am_cl26[j]? = some q → am_ck2 (416 + j) 0 q = true := fun j q h => by
  match j, h with
  | 0, h => cases h; exact am_s416
  | 1, h => cases h; exact am_s417
  | n + 2, h => cases h
theorem am_scc : ∀ (i j : Nat) (l : List (List (List (Option am_I)))) (q : List (List (Option am_I))), am_cll[i]? = some l → l[j]? = some q → am_ck2 (16 * i + j) 0 q = true := fun i j l q h hq => by
  match i, h with
  | 0, h => cases h; exact am_sc0 j q hq
  | 1, h => cases h; exact am_sc1 j q hq
  | 2, h => cases h; exact am_sc2 j q hq
  | 3, h => cases h; exact am_sc3 j q hq
  | 4, h => cases h; exact am_sc4 j q hq
  | 5, h => cases h; exact am_sc5 j q hq
  | 6, h => cases h; exact am_sc6 j q hq
  | 7, h => cases h; exact am_sc7 j q hq
  | 8, h => cases h; exact am_sc8 j q hq
  | 9, h => cases h; exact am_sc9 j q hq
  | 10, h => cases h; exact am_sc10 j q hq
  | 11, h => cases h; exact am_sc11 j q hq
  | 12, h => cases h; exact am_sc12 j q hq
  | 13, h => cases h; exact am_sc13 j q hq
  | 14, h => cases h; exact am_sc14 j q hq
  | 15, h => cases h; exact am_sc15 j q hq
  | 16, h => cases h; exact am_sc16 j q hq
  | 17, h => cases h; exact am_sc17 j q hq
  | 18, h => cases h; exact am_sc18 j q hq
  | 19, h => cases h; exact am_sc19 j q hq
  | 20, h => cases h; exact am_sc20 j q hq
  | 21, h => cases h; exact am_sc21 j q hq
  | 22, h => cases h; exact am_sc22 j q hq
  | 23, h => cases h; exact am_sc23 j q hq
  | 24, h => cases h; exact am_sc24 j q hq
  | 25, h => cases h; exact am_sc25 j q hq
  | 26, h => cases h; exact am_sc26 j q hq
  | n + 27, h => cases h
theorem am_see (y : Nat) : am_ck2 y 0 (am_ls y) = true := by
  unfold am_ls
  rw [List.getD_eq_getElem?_getD, List.getD_eq_getElem?_getD]
  cases hl : am_cll[y / 16]? with
  | none => rfl
  | some l =>
    rw [Option.getD_some]
    cases hq : l[y % 16]? with
    | none => rfl
    | some q =>
      have := am_scc (y / 16) (y % 16) l q hl hq
      rw [Nat.div_add_mod] at this
      exact this
theorem am_own_at {y pc : Nat} {I : am_I} (h : am_co y pc = some I) : (am_mt y).1.cls = am_on (am_mi y).1 := by
  have hy : y < 418 := by
    refine Nat.lt_of_not_le fun hle => ?_
    unfold am_co am_get am_ls at h
    have : (am_cll.getD (y / 16) []).getD (y % 16) [] = [] := by
      rw [List.getD_eq_getElem?_getD, List.getD_eq_getElem?_getD]
      by_cases q : y / 16 < 27
      · have e1 : y / 16 = 26 := by omega
        have e2 : 2 ≤ y % 16 := by omega
        rw [e1]
        show (am_cl26[y % 16]?).getD [] = []
        rw [List.getElem?_eq_none (show am_cl26.length ≤ y % 16 from e2)]
        rfl
      · rw [List.getElem?_eq_none (show am_cll.length ≤ y / 16 by show 27 ≤ y / 16; omega)]
        rfl
    rw [this] at h
    cases h
  exact of_decide_eq_true (List.all_eq_true.mp am_M_own y (List.mem_range.mpr hy))
/-- what the tables must say of every instruction -/
theorem am_co_ok {fl : Nat → Nat} {Fo : State → Heap → Prop} (hS : am_Fs fl Fo) : ∀ (y pc : Nat) (I : am_I), am_co y pc = some I → am_dec (am_mt y).2.1 pc I.1 ∧ am_aux am_B am_N am_clb am_tl "TerminalHouse" Fo fl (am_mt y) pc I ∧ (am_kd I ≠ 0 → am_kd I ≠ 1 → am_cal am_B am_N "TerminalHouse" (am_mt y) (am_mt I.2.2.1) I) := by
  intro y pc I h
  have hown := am_own_at h
  have h2 := am_ck2_at (am_see y) (i := pc / 16) (j := pc % 16) h
  rw [show 0 + 16 * (pc / 16) + pc % 16 = pc by omega] at h2
  exact ⟨am_dck_ok h2.1.1, am_ack_ok hS hown h2.1.2, am_cal_ok hown h2.1.2⟩
theorem am_dq_ok : am_dqk am_co am_mt am_dq := by
  intro y pc I h
  have h2 := (am_ck2_at (am_see y) (i := pc / 16) (j := pc % 16) h).2
  unfold am_qck at h2
  simp only [Bool.and_eq_true, Bool.or_eq_true, decide_eq_true_eq] at h2
  refine ⟨h2.1.1, h2.1.2, fun k0 k1 => ?_⟩
  rcases h2.2 with q | q
  · omega
  · exact q
