/-! The law's listing in two levels. -/
theorem lw_gd {α : Type} (l : List α) (i : Nat) (d : α) (h : l.length ≤ i) : l.getD i d = d := by
  rw [List.getD_eq_getElem?_getD, List.getElem?_eq_none h]
  rfl
def lw_l0 : List (List (Option am_I)) := [[am_j (.new 8) 11, none, none, am_i .dup, am_i (.aload_n 0), am_i (.iconst 0), am_f (.invokestatic 15) 258 2 false, none, none, am_i (.aload_n 0), am_i (.iconst 1), am_f (.invokestatic 15) 258 2 false, none, none, am_i (.aload_n 0), am_i (.iconst 2)],
  [am_f (.invokestatic 15) 258 2 false, none, none, am_f (.invokespecial 21) 0 3 false, none, none, am_i (.astore_n 1), am_j (.new 24) 12, none, none, am_i .dup, am_i (.aload_n 0), am_i (.iconst 0), am_f (.invokestatic 15) 258 2 false, none, none],
  [am_i (.aload_n 0), am_i (.iconst 1), am_f (.invokestatic 15) 258 2 false, none, none, am_i (.aload_n 0), am_i (.iconst 2), am_f (.invokestatic 15) 258 2 false, none, none, am_f (.invokespecial 26) 360 3 false, none, none, am_i (.astore_n 2), am_i (.iconst 1), am_i (.newarray .long)],
  [none, am_i (.astore_n 3), am_i (.iconst 3), am_i (.istore 4), none, am_i (.iload 4), none, am_i (.aload_n 0), am_i .arraylength, am_i (.bipush 6), none, am_i .isub, am_j (.if_icmp .gt 1421) 1481, none, none, am_i (.aload_n 0)],
  [am_i (.iload 4), none, am_i .iaload, am_i (.bipush 63), none, am_i .iand, am_t (.tableswitch 1405 0 37 #[166, 239, 264, 320, 333, 358, 371, 382, 395, 456, 517, 542, 591, 628, 681, 706, 743, 780, 817, 854, 879, 928, 965, 990, 1003, 1016, 1053, 1090, 1115, 1128, 1153, 1206, 1231, 1256, 1293, 1318, 1343, 1368]) 1475 [(0, 236), (1, 309), (2, 334), (3, 390), (4, 403), (5, 428), (6, 441), (7, 452), (8, 465), (9, 526), (10, 587), (11, 612), (12, 661), (13, 698), (14, 751), (15, 776), (16, 813), (17, 850), (18, 887), (19, 924), (20, 949), (21, 998), (22, 1035), (23, 1060), (24, 1073), (25, 1086), (26, 1123), (27, 1160), (28, 1185), (29, 1198), (30, 1223), (31, 1276), (32, 1301), (33, 1326), (34, 1363), (35, 1388), (36, 1413), (37, 1438)], none, none, none, none, none, none, none, none, none],
  [none, none, none, none, none, none, none, none, none, none, none, none, none, none, none, none],
  [none, none, none, none, none, none, none, none, none, none, none, none, none, none, none, none],
  [none, none, none, none, none, none, none, none, none, none, none, none, none, none, none, none],
  [none, none, none, none, none, none, none, none, none, none, none, none, none, none, none, none],
  [none, none, none, none, none, none, none, none, none, none, none, none, none, none, none, none],
  [none, none, none, none, none, none, none, none, none, none, none, none, none, none, none, none],
  [none, none, none, none, none, none, none, none, none, none, none, none, none, none, none, none],
  [none, none, none, none, none, none, none, none, none, none, none, none, none, none, none, none],
  [none, none, none, none, none, none, none, none, none, none, none, none, none, none, none, none],
  [none, none, none, none, none, none, none, none, none, none, none, none, am_i (.aload_n 1), am_i (.aload_n 0), am_i (.iload 4), none],
  [am_i (.iconst 1), am_i .iadd, am_i .iaload, am_i (.aload_n 0), am_i (.iload 4), none, am_i (.iconst 2), am_i .iadd, am_i .iaload, am_i (.aload_n 0), am_i (.iload 4), none, am_i (.iconst 3), am_i .iadd, am_i .iaload, am_i (.aload_n 0)]]
def lw_l1 : List (List (Option am_I)) := [[am_i (.iload 4), none, am_i (.iconst 4), am_i .iadd, am_i .iaload, am_i (.aload_n 0), am_i (.iload 4), none, am_i (.iconst 5), am_i .iadd, am_i .iaload, am_f (.invokevirtual 27) 19 5 false, none, none, am_i (.aload_n 2), am_i (.aload_n 0)],
  [am_i (.iload 4), none, am_i (.iconst 1), am_i .iadd, am_i .iaload, am_i (.aload_n 0), am_i (.iload 4), none, am_i (.iconst 2), am_i .iadd, am_i .iaload, am_i (.aload_n 0), am_i (.iload 4), none, am_i (.iconst 3), am_i .iadd],
  [am_i .iaload, am_i (.aload_n 0), am_i (.iload 4), none, am_i (.iconst 4), am_i .iadd, am_i .iaload, am_i (.aload_n 0), am_i (.iload 4), none, am_i (.iconst 5), am_i .iadd, am_i .iaload, am_f (.invokevirtual 31) 261 5 false, none, none],
  [am_j (.if_icmp .eq 1171) 1475, none, none, am_i (.iconst 0), am_i .ireturn, am_i (.aload_n 1), am_i (.aload_n 0), am_i (.iload 4), none, am_i (.iconst 1), am_i .iadd, am_i .iaload, am_f (.invokevirtual 32) 21 1 false, none, none, am_i (.aload_n 2)],
  [am_i (.aload_n 0), am_i (.iload 4), none, am_i (.iconst 1), am_i .iadd, am_i .iaload, am_f (.invokevirtual 36) 262 1 false, none, none, am_j (.if_icmp .eq 1146) 1475, none, none, am_i (.iconst 0), am_i .ireturn, am_i (.aload_n 1), am_i (.aload_n 0)],
  [am_i (.iload 4), none, am_i (.iconst 1), am_i .iadd, am_i .iaload, am_i (.aload_n 3), am_f (.invokestatic 37) 1008 2 false, none, none, am_i (.istore 5), none, am_i (.aload_n 2), am_i (.aload_n 0), am_i (.iload 4), none, am_i (.iconst 1)],
  [am_i .iadd, am_i .iaload, am_f (.invokevirtual 40) 263 1 false, none, none, am_i (.istore 6), none, am_i (.aload_n 2), am_f (.invokevirtual 41) 260 0 false, none, none, am_i (.iload 5), none, am_j (.if_icmp .eq 5) 370, none, none],
  [am_i (.iconst 0), am_i .ireturn, am_i (.iload 5), none, am_j (.ifCond .ne 15) 387, none, none, am_i (.aload_n 3), am_i (.iconst 0), am_i .laload, am_i (.iload 6), none, am_i .i2l, am_i .lcmp, am_j (.ifCond .eq 5) 387, none],
  [none, am_i (.iconst 0), am_i .ireturn, am_j (.goto 1088) 1475, none, none, am_i (.aload_n 1), am_f (.invokevirtual 45) 22 0 false, none, none, am_i (.aload_n 2), am_f (.invokevirtual 48) 264 0 false, none, none, am_j (.if_icmp .eq 1077) 1475, none],
  [none, am_i (.iconst 0), am_i .ireturn, am_i (.aload_n 1), am_i (.aload_n 0), am_i (.iload 4), none, am_i (.iconst 1), am_i .iadd, am_i .iaload, am_f (.invokevirtual 49) 70 1 false, none, none, am_i (.aload_n 2), am_i (.aload_n 0), am_i (.iload 4)],
  [none, am_i (.iconst 1), am_i .iadd, am_i .iaload, am_f (.invokevirtual 52) 292 1 false, none, none, am_j (.if_icmp .eq 1052) 1475, none, none, am_i (.iconst 0), am_i .ireturn, am_i (.aload_n 1), am_f (.invokevirtual 53) 71 0 false, none, none],
  [am_i (.aload_n 2), am_f (.invokevirtual 56) 293 0 false, none, none, am_j (.if_icmp .eq 1039) 1475, none, none, am_i (.iconst 0), am_i .ireturn, am_i (.aload_n 1), am_f (.invokevirtual 57) 91 0 false, none, none, am_i (.aload_n 2), am_f (.invokevirtual 60) 294 0 false, none],
  [none, am_j (.goto 1026) 1475, none, none, am_i (.aload_n 1), am_f (.invokevirtual 61) 93 0 false, none, none, am_i (.aload_n 2), am_f (.invokevirtual 64) 295 0 false, none, none, am_j (.if_icmp .eq 1015) 1475, none, none, am_i (.iconst 0)],
  [am_i .ireturn, am_i (.aload_n 1), am_i (.aload_n 0), am_i (.iload 4), none, am_i (.iconst 1), am_i .iadd, am_i .iaload, am_i (.aload_n 0), am_i (.iload 4), none, am_i (.iconst 2), am_i .iadd, am_i .iaload, am_i (.aload_n 0), am_i (.iload 4)],
  [none, am_i (.iconst 3), am_i .iadd, am_i .iaload, am_i (.aload_n 0), am_i (.iload 4), none, am_i (.iconst 4), am_i .iadd, am_i .iaload, am_f (.invokevirtual 65) 94 4 false, none, none, am_i (.aload_n 2), am_i (.aload_n 0), am_i (.iload 4)],
  [none, am_i (.iconst 1), am_i .iadd, am_i .iaload, am_i (.aload_n 0), am_i (.iload 4), none, am_i (.iconst 2), am_i .iadd, am_i .iaload, am_i (.aload_n 0), am_i (.iload 4), none, am_i (.iconst 3), am_i .iadd, am_i .iaload]]
def lw_l2 : List (List (Option am_I)) := [[am_i (.aload_n 0), am_i (.iload 4), none, am_i (.iconst 4), am_i .iadd, am_i .iaload, am_f (.invokevirtual 69) 298 4 false, none, none, am_j (.if_icmp .eq 954) 1475, none, none, am_i (.iconst 0), am_i .ireturn, am_i (.aload_n 1), am_i (.aload_n 0)],
  [am_i (.iload 4), none, am_i (.iconst 1), am_i .iadd, am_i .iaload, am_i (.aload_n 0), am_i (.iload 4), none, am_i (.iconst 2), am_i .iadd, am_i .iaload, am_i (.aload_n 0), am_i (.iload 4), none, am_i (.iconst 3), am_i .iadd],
  [am_i .iaload, am_i (.aload_n 0), am_i (.iload 4), none, am_i (.iconst 4), am_i .iadd, am_i .iaload, am_f (.invokevirtual 70) 95 4 false, none, none, am_i (.aload_n 2), am_i (.aload_n 0), am_i (.iload 4), none, am_i (.iconst 1), am_i .iadd],
  [am_i .iaload, am_i (.aload_n 0), am_i (.iload 4), none, am_i (.iconst 2), am_i .iadd, am_i .iaload, am_i (.aload_n 0), am_i (.iload 4), none, am_i (.iconst 3), am_i .iadd, am_i .iaload, am_i (.aload_n 0), am_i (.iload 4), none],
  [am_i (.iconst 4), am_i .iadd, am_i .iaload, am_f (.invokevirtual 73) 306 4 false, none, none, am_j (.if_icmp .eq 893) 1475, none, none, am_i (.iconst 0), am_i .ireturn, am_i (.aload_n 1), am_i (.aload_n 0), am_i (.iload 4), none, am_i (.iconst 1)],
  [am_i .iadd, am_i .iaload, am_f (.invokevirtual 74) 97 1 false, none, none, am_i (.aload_n 2), am_i (.aload_n 0), am_i (.iload 4), none, am_i (.iconst 1), am_i .iadd, am_i .iaload, am_f (.invokevirtual 77) 307 1 false, none, none, am_j (.if_icmp .eq 868) 1475],
  [none, none, am_i (.iconst 0), am_i .ireturn, am_i (.aload_n 1), am_i (.aload_n 0), am_i (.iload 4), none, am_i (.iconst 1), am_i .iadd, am_i .iaload, am_i (.aload_n 0), am_i (.iload 4), none, am_i (.iconst 2), am_i .iadd],
  [am_i .iaload, am_i (.aload_n 0), am_i (.iload 4), none, am_i (.iconst 3), am_i .iadd, am_i .iaload, am_f (.invokevirtual 78) 99 3 false, none, none, am_i (.aload_n 2), am_i (.aload_n 0), am_i (.iload 4), none, am_i (.iconst 1), am_i .iadd],
  [am_i .iaload, am_i (.aload_n 0), am_i (.iload 4), none, am_i (.iconst 2), am_i .iadd, am_i .iaload, am_i (.aload_n 0), am_i (.iload 4), none, am_i (.iconst 3), am_i .iadd, am_i .iaload, am_f (.invokevirtual 82) 309 3 false, none, none],
  [am_j (.if_icmp .eq 819) 1475, none, none, am_i (.iconst 0), am_i .ireturn, am_i (.aload_n 1), am_i (.aload_n 0), am_i (.iload 4), none, am_i (.iconst 1), am_i .iadd, am_i .iaload, am_i (.aload_n 0), am_i (.iload 4), none, am_i (.iconst 2)],
  [am_i .iadd, am_i .iaload, am_f (.invokevirtual 83) 101 2 false, none, none, am_i (.aload_n 2), am_i (.aload_n 0), am_i (.iload 4), none, am_i (.iconst 1), am_i .iadd, am_i .iaload, am_i (.aload_n 0), am_i (.iload 4), none, am_i (.iconst 2)],
  [am_i .iadd, am_i .iaload, am_f (.invokevirtual 87) 310 2 false, none, none, am_j (.if_icmp .eq 782) 1475, none, none, am_i (.iconst 0), am_i .ireturn, am_i (.aload_n 1), am_i (.aload_n 0), am_i (.iload 4), none, am_i (.iconst 1), am_i .iadd],
  [am_i .iaload, am_i (.aload_n 0), am_i (.iload 4), none, am_i (.iconst 2), am_i .iadd, am_i .iaload, am_j (.ifCond .eq 7) 718, none, none, am_i (.iconst 1), am_j (.goto 4) 719, none, none, am_i (.iconst 0), am_f (.invokevirtual 88) 102 2 false],
  [none, none, am_i (.aload_n 2), am_i (.aload_n 0), am_i (.iload 4), none, am_i (.iconst 1), am_i .iadd, am_i .iaload, am_i (.aload_n 0), am_i (.iload 4), none, am_i (.iconst 2), am_i .iadd, am_i .iaload, am_j (.ifCond .eq 7) 742],
  [none, none, am_i (.iconst 1), am_j (.goto 4) 743, none, none, am_i (.iconst 0), am_f (.invokevirtual 92) 311 2 false, none, none, am_j (.if_icmp .eq 729) 1475, none, none, am_i (.iconst 0), am_i .ireturn, am_i (.aload_n 1)],
  [am_i (.aload_n 0), am_i (.iload 4), none, am_i (.iconst 1), am_i .iadd, am_i .iaload, am_f (.invokevirtual 93) 103 1 false, none, none, am_i (.aload_n 2), am_i (.aload_n 0), am_i (.iload 4), none, am_i (.iconst 1), am_i .iadd, am_i .iaload]]
def lw_l3 : List (List (Option am_I)) := [[am_f (.invokevirtual 96) 312 1 false, none, none, am_j (.if_icmp .eq 704) 1475, none, none, am_i (.iconst 0), am_i .ireturn, am_i (.aload_n 1), am_i (.aload_n 0), am_i (.iload 4), none, am_i (.iconst 1), am_i .iadd, am_i .iaload, am_i (.aload_n 0)],
  [am_i (.iload 4), none, am_i (.iconst 2), am_i .iadd, am_i .iaload, am_f (.invokevirtual 97) 112 2 false, none, none, am_i (.aload_n 2), am_i (.aload_n 0), am_i (.iload 4), none, am_i (.iconst 1), am_i .iadd, am_i .iaload, am_i (.aload_n 0)],
  [am_i (.iload 4), none, am_i (.iconst 2), am_i .iadd, am_i .iaload, am_f (.invokevirtual 100) 318 2 false, none, none, am_j (.if_icmp .eq 667) 1475, none, none, am_i (.iconst 0), am_i .ireturn, am_i (.aload_n 1), am_i (.aload_n 0), am_i (.iload 4)],
  [none, am_i (.iconst 1), am_i .iadd, am_i .iaload, am_i (.aload_n 0), am_i (.iload 4), none, am_i (.iconst 2), am_i .iadd, am_i .iaload, am_f (.invokevirtual 101) 114 2 false, none, none, am_i (.aload_n 2), am_i (.aload_n 0), am_i (.iload 4)],
  [none, am_i (.iconst 1), am_i .iadd, am_i .iaload, am_i (.aload_n 0), am_i (.iload 4), none, am_i (.iconst 2), am_i .iadd, am_i .iaload, am_f (.invokevirtual 104) 319 2 false, none, none, am_j (.if_icmp .eq 630) 1475, none, none],
  [am_i (.iconst 0), am_i .ireturn, am_i (.aload_n 1), am_i (.aload_n 0), am_i (.iload 4), none, am_i (.iconst 1), am_i .iadd, am_i .iaload, am_i (.aload_n 0), am_i (.iload 4), none, am_i (.iconst 2), am_i .iadd, am_i .iaload, am_f (.invokevirtual 105) 115 2 false],
  [none, none, am_i (.aload_n 2), am_i (.aload_n 0), am_i (.iload 4), none, am_i (.iconst 1), am_i .iadd, am_i .iaload, am_i (.aload_n 0), am_i (.iload 4), none, am_i (.iconst 2), am_i .iadd, am_i .iaload, am_f (.invokevirtual 108) 321 2 false],
  [none, none, am_j (.if_icmp .eq 593) 1475, none, none, am_i (.iconst 0), am_i .ireturn, am_i (.aload_n 1), am_i (.aload_n 0), am_i (.iload 4), none, am_i (.iconst 1), am_i .iadd, am_i .iaload, am_i (.aload_n 0), am_i (.iload 4)],
  [none, am_i (.iconst 2), am_i .iadd, am_i .iaload, am_f (.invokevirtual 109) 116 2 false, none, none, am_i (.aload_n 2), am_i (.aload_n 0), am_i (.iload 4), none, am_i (.iconst 1), am_i .iadd, am_i .iaload, am_i (.aload_n 0), am_i (.iload 4)],
  [none, am_i (.iconst 2), am_i .iadd, am_i .iaload, am_f (.invokevirtual 112) 322 2 false, none, none, am_j (.if_icmp .eq 556) 1475, none, none, am_i (.iconst 0), am_i .ireturn, am_i (.aload_n 1), am_i (.aload_n 0), am_i (.iload 4), none],
  [am_i (.iconst 1), am_i .iadd, am_i .iaload, am_f (.invokevirtual 113) 117 1 false, none, none, am_i (.aload_n 2), am_i (.aload_n 0), am_i (.iload 4), none, am_i (.iconst 1), am_i .iadd, am_i .iaload, am_f (.invokevirtual 116) 323 1 false, none, none],
  [am_j (.if_icmp .eq 531) 1475, none, none, am_i (.iconst 0), am_i .ireturn, am_i (.aload_n 1), am_i (.aload_n 0), am_i (.iload 4), none, am_i (.iconst 1), am_i .iadd, am_i .iaload, am_i (.aload_n 0), am_i (.iload 4), none, am_i (.iconst 2)],
  [am_i .iadd, am_i .iaload, am_i (.aload_n 0), am_i (.iload 4), none, am_i (.iconst 3), am_i .iadd, am_i .iaload, am_f (.invokevirtual 117) 119 3 false, none, none, am_i (.aload_n 2), am_i (.aload_n 0), am_i (.iload 4), none, am_i (.iconst 1)],
  [am_i .iadd, am_i .iaload, am_i (.aload_n 0), am_i (.iload 4), none, am_i (.iconst 2), am_i .iadd, am_i .iaload, am_i (.aload_n 0), am_i (.iload 4), none, am_i (.iconst 3), am_i .iadd, am_i .iaload, am_f (.invokevirtual 121) 324 3 false, none],
  [none, am_j (.if_icmp .eq 482) 1475, none, none, am_i (.iconst 0), am_i .ireturn, am_i (.aload_n 1), am_i (.aload_n 0), am_i (.iload 4), none, am_i (.iconst 1), am_i .iadd, am_i .iaload, am_i (.aload_n 0), am_i (.iload 4), none],
  [am_i (.iconst 2), am_i .iadd, am_i .iaload, am_f (.invokevirtual 122) 121 2 false, none, none, am_i (.aload_n 2), am_i (.aload_n 0), am_i (.iload 4), none, am_i (.iconst 1), am_i .iadd, am_i .iaload, am_i (.aload_n 0), am_i (.iload 4), none]]
def lw_l4 : List (List (Option am_I)) := [[am_i (.iconst 2), am_i .iadd, am_i .iaload, am_f (.invokevirtual 126) 325 2 false, none, none, am_j (.if_icmp .eq 445) 1475, none, none, am_i (.iconst 0), am_i .ireturn, am_i (.aload_n 1), am_i (.aload_n 0), am_i (.iload 4), none, am_i (.iconst 1)],
  [am_i .iadd, am_i .iaload, am_f (.invokevirtual 127) 123 1 false, none, none, am_i (.aload_n 2), am_i (.aload_n 0), am_i (.iload 4), none, am_i (.iconst 1), am_i .iadd, am_i .iaload, am_f (.invokevirtual 130) 326 1 false, none, none, am_j (.if_icmp .eq 420) 1475],
  [none, none, am_i (.iconst 0), am_i .ireturn, am_i (.aload_n 1), am_f (.invokevirtual 131) 125 0 false, none, none, am_i (.aload_n 2), am_f (.invokevirtual 134) 331 0 false, none, none, am_j (.if_icmp .eq 407) 1475, none, none, am_i (.iconst 0)],
  [am_i .ireturn, am_i (.aload_n 1), am_f (.invokevirtual 135) 157 0 false, none, none, am_i (.aload_n 2), am_f (.invokevirtual 139) 327 0 false, none, none, am_j (.if_icmp .eq 394) 1475, none, none, am_i (.iconst 0), am_i .ireturn, am_i (.aload_n 1), am_i (.aload_n 0)],
  [am_i (.iload 4), none, am_i (.iconst 1), am_i .iadd, am_i .iaload, am_i (.aload_n 0), am_i (.iload 4), none, am_i (.iconst 2), am_i .iadd, am_i .iaload, am_f (.invokevirtual 140) 158 2 false, none, none, am_i (.aload_n 2), am_i (.aload_n 0)],
  [am_i (.iload 4), none, am_i (.iconst 1), am_i .iadd, am_i .iaload, am_i (.aload_n 0), am_i (.iload 4), none, am_i (.iconst 2), am_i .iadd, am_i .iaload, am_f (.invokevirtual 143) 328 2 false, none, none, am_j (.if_icmp .eq 357) 1475, none],
  [none, am_i (.iconst 0), am_i .ireturn, am_i (.aload_n 1), am_i (.aload_n 0), am_i (.iload 4), none, am_i (.iconst 1), am_i .iadd, am_i .iaload, am_i (.aload_n 0), am_i (.iload 4), none, am_i (.iconst 2), am_i .iadd, am_i .iaload],
  [am_f (.invokevirtual 144) 159 2 false, none, none, am_i (.aload_n 2), am_i (.aload_n 0), am_i (.iload 4), none, am_i (.iconst 1), am_i .iadd, am_i .iaload, am_i (.aload_n 0), am_i (.iload 4), none, am_i (.iconst 2), am_i .iadd, am_i .iaload],
  [am_f (.invokevirtual 147) 330 2 false, none, none, am_j (.if_icmp .eq 320) 1475, none, none, am_i (.iconst 0), am_i .ireturn, am_i (.aload_n 1), am_i (.aload_n 0), am_i (.iload 4), none, am_i (.iconst 1), am_i .iadd, am_i .iaload, am_f (.invokevirtual 148) 160 1 false],
  [none, none, am_i (.aload_n 2), am_i (.aload_n 0), am_i (.iload 4), none, am_i (.iconst 1), am_i .iadd, am_i .iaload, am_f (.invokevirtual 151) 353 1 false, none, none, am_j (.if_icmp .eq 295) 1475, none, none, am_i (.iconst 0)],
  [am_i .ireturn, am_i (.aload_n 1), am_f (.invokevirtual 152) 166 0 false, none, none, am_i (.aload_n 2), am_f (.invokevirtual 155) 355 0 false, none, none, am_j (.if_icmp .eq 282) 1475, none, none, am_i (.iconst 0), am_i .ireturn, am_i (.aload_n 1), am_i (.aload_n 0)],
  [am_i (.iload 4), none, am_i (.iconst 1), am_i .iadd, am_i .iaload, am_f (.invokevirtual 156) 170 1 false, none, none, am_i (.aload_n 2), am_i (.aload_n 0), am_i (.iload 4), none, am_i (.iconst 1), am_i .iadd, am_i .iaload, am_f (.invokevirtual 159) 359 1 false],
  [none, none, am_j (.if_icmp .eq 257) 1475, none, none, am_i (.iconst 0), am_i .ireturn, am_i (.aload_n 1), am_i (.aload_n 0), am_i (.iload 4), none, am_i (.iconst 1), am_i .iadd, am_i .iaload, am_i (.aload_n 0), am_i (.iload 4)],
  [none, am_i (.iconst 2), am_i .iadd, am_i .iaload, am_j (.ifCond .eq 7) 1243, none, none, am_i (.iconst 1), am_j (.goto 4) 1244, none, none, am_i (.iconst 0), am_f (.invokevirtual 160) 173 2 false, none, none, am_i (.aload_n 2)],
  [am_i (.aload_n 0), am_i (.iload 4), none, am_i (.iconst 1), am_i .iadd, am_i .iaload, am_i (.aload_n 0), am_i (.iload 4), none, am_i (.iconst 2), am_i .iadd, am_i .iaload, am_j (.ifCond .eq 7) 1267, none, none, am_i (.iconst 1)],
  [am_j (.goto 4) 1268, none, none, am_i (.iconst 0), am_f (.invokevirtual 163) 411 2 false, none, none, am_j (.if_icmp .eq 204) 1475, none, none, am_i (.iconst 0), am_i .ireturn, am_i (.aload_n 1), am_i (.aload_n 0), am_i (.iload 4), none]]
def lw_l5 : List (List (Option am_I)) := [[am_i (.iconst 1), am_i .iadd, am_i .iaload, am_f (.invokevirtual 164) 175 1 false, none, none, am_i (.aload_n 2), am_i (.aload_n 0), am_i (.iload 4), none, am_i (.iconst 1), am_i .iadd, am_i .iaload, am_f (.invokevirtual 167) 364 1 false, none, none],
  [am_j (.if_icmp .eq 179) 1475, none, none, am_i (.iconst 0), am_i .ireturn, am_i (.aload_n 1), am_i (.aload_n 0), am_i (.iload 4), none, am_i (.iconst 1), am_i .iadd, am_i .iaload, am_f (.invokevirtual 168) 177 1 false, none, none, am_i (.aload_n 2)],
  [am_i (.aload_n 0), am_i (.iload 4), none, am_i (.iconst 1), am_i .iadd, am_i .iaload, am_f (.invokevirtual 171) 365 1 false, none, none, am_j (.if_icmp .eq 154) 1475, none, none, am_i (.iconst 0), am_i .ireturn, am_i (.aload_n 1), am_i (.aload_n 0)],
  [am_i (.iload 4), none, am_i (.iconst 1), am_i .iadd, am_i .iaload, am_i (.aload_n 0), am_i (.iload 4), none, am_i (.iconst 2), am_i .iadd, am_i .iaload, am_f (.invokevirtual 172) 248 2 false, none, none, am_i (.aload_n 2), am_i (.aload_n 0)],
  [am_i (.iload 4), none, am_i (.iconst 1), am_i .iadd, am_i .iaload, am_i (.aload_n 0), am_i (.iload 4), none, am_i (.iconst 2), am_i .iadd, am_i .iaload, am_f (.invokevirtual 175) 412 2 false, none, none, am_j (.if_icmp .eq 117) 1475, none],
  [none, am_i (.iconst 0), am_i .ireturn, am_i (.aload_n 1), am_i (.aload_n 0), am_i (.iload 4), none, am_i (.iconst 1), am_i .iadd, am_i .iaload, am_f (.invokevirtual 176) 250 1 false, none, none, am_i (.aload_n 2), am_i (.aload_n 0), am_i (.iload 4)],
  [none, am_i (.iconst 1), am_i .iadd, am_i .iaload, am_f (.invokevirtual 179) 413 1 false, none, none, am_j (.if_icmp .eq 92) 1475, none, none, am_i (.iconst 0), am_i .ireturn, am_i (.aload_n 1), am_i (.aload_n 0), am_i (.iload 4), none],
  [am_i (.iconst 1), am_i .iadd, am_i .iaload, am_f (.invokevirtual 180) 251 1 false, none, none, am_i (.aload_n 2), am_i (.aload_n 0), am_i (.iload 4), none, am_i (.iconst 1), am_i .iadd, am_i .iaload, am_f (.invokevirtual 183) 414 1 false, none, none],
  [am_j (.if_icmp .eq 67) 1475, none, none, am_i (.iconst 0), am_i .ireturn, am_i (.aload_n 1), am_i (.aload_n 0), am_i (.iload 4), none, am_i (.iconst 1), am_i .iadd, am_i .iaload, am_f (.invokevirtual 184) 254 1 false, none, none, am_i (.aload_n 2)],
  [am_i (.aload_n 0), am_i (.iload 4), none, am_i (.iconst 1), am_i .iadd, am_i .iaload, am_f (.invokevirtual 187) 415 1 false, none, none, am_j (.if_icmp .eq 42) 1475, none, none, am_i (.iconst 0), am_i .ireturn, am_i (.aload_n 1), am_i (.aload_n 0)],
  [am_i (.iload 4), none, am_i (.iconst 1), am_i .iadd, am_i .iaload, am_i (.aload_n 0), am_i (.iload 4), none, am_i (.iconst 2), am_i .iadd, am_i .iaload, am_f (.invokevirtual 188) 257 2 false, none, none, am_i (.aload_n 2), am_i (.aload_n 0)],
  [am_i (.iload 4), none, am_i (.iconst 1), am_i .iadd, am_i .iaload, am_i (.aload_n 0), am_i (.iload 4), none, am_i (.iconst 2), am_i .iadd, am_i .iaload, am_f (.invokevirtual 191) 416 2 false, none, none, am_j (.if_icmp .eq 5) 1475, none],
  [none, am_i (.iconst 0), am_i .ireturn, am_i (.iinc 4 6), none, none, am_j (.goto (-1425)) 53, none, none, am_i (.iconst 1), am_i .ireturn]]
def lw_T : List (List (List (Option am_I))) := [lw_l0, lw_l1, lw_l2, lw_l3, lw_l4, lw_l5]
def lw_t (pc : Nat) : Option am_I := ((lw_T.getD (pc / 16 / 16) []).getD (pc / 16 % 16) []).getD (pc % 16) none
set_option maxRecDepth 100000 in
theorem lw_ch : ∀ i : Nat, am_c417.getD i [] = (lw_T.getD (i / 16) []).getD (i % 16) []
  | 0 => rfl
  | 1 => rfl
  | 2 => rfl
  | 3 => rfl
  | 4 => rfl
  | 5 => rfl
  | 6 => rfl
  | 7 => rfl
  | 8 => rfl
  | 9 => rfl
  | 10 => rfl
  | 11 => rfl
  | 12 => rfl
  | 13 => rfl
  | 14 => rfl
  | 15 => rfl
  | 16 => rfl
  | 17 => rfl
  | 18 => rfl
  | 19 => rfl
  | 20 => rfl
  | 21 => rfl
  | 22 => rfl
  | 23 => rfl
  | 24 => rfl
  | 25 => rfl
  | 26 => rfl
  | 27 => rfl
  | 28 => rfl
  | 29 => rfl
  | 30 => rfl
  | 31 => rfl
  | 32 => rfl
  | 33 => rfl
  | 34 => rfl
  | 35 => rfl
  | 36 => rfl
  | 37 => rfl
  | 38 => rfl
  | 39 => rfl
  | 40 => rfl
  | 41 => rfl
  | 42 => rfl
  | 43 => rfl
  | 44 => rfl
  | 45 => rfl
  | 46 => rfl
  | 47 => rfl
  | 48 => rfl
  | 49 => rfl
  | 50 => rfl
  | 51 => rfl
  | 52 => rfl
  | 53 => rfl
  | 54 => rfl
  | 55 => rfl
  | 56 => rfl
  | 57 => rfl
  | 58 => rfl
  | 59 => rfl
  | 60 => rfl
  | 61 => rfl
  | 62 => rfl
  | 63 => rfl
  | 64 => rfl
  | 65 => rfl
  | 66 => rfl
  | 67 => rfl
  | 68 => rfl
  | 69 => rfl
  | 70 => rfl
  | 71 => rfl
  | 72 => rfl
  | 73 => rfl
  | 74 => rfl
  | 75 => rfl
  | 76 => rfl
  | 77 => rfl
  | 78 => rfl
  | 79 => rfl
  | 80 => rfl
  | 81 => rfl
  | 82 => rfl
  | 83 => rfl
  | 84 => rfl
  | 85 => rfl
  | 86 => rfl
  | 87 => rfl
  | 88 => rfl
  | 89 => rfl
  | 90 => rfl
  | 91 => rfl
  | 92 => rfl
  | i + 93 => by
    rw [lw_gd _ _ _ (show am_c417.length ≤ i + 93 from Nat.le_add_left _ _)]
    by_cases c : (i + 93) / 16 = 5
    · rw [c, lw_gd _ _ _ (show (lw_T.getD 5 []).length ≤ (i + 93) % 16 by show 13 ≤ (i + 93) % 16; omega)]
    · rw [lw_gd lw_T _ _ (show lw_T.length ≤ (i + 93) / 16 by show 6 ≤ (i + 93) / 16; omega)]
      rfl
theorem lw_co (pc : Nat) : am_co 417 pc = lw_t pc := by
  show (am_c417.getD (pc / 16) []).getD (pc % 16) none = _
  rw [lw_ch]
  rfl
section LWN
variable {sL : Nat} {sx : Nat → Int32} {cs : Nat → Nat → Option Int32}
def am_nl (sL : Nat) (sx : Nat → Int32) (cs : Nat → Nat → Option Int32) : Nat → Nat → am_L → List Value → am_H → Nat → Nat → Option am_T
  | 0, pc, ls, st, h, k, n => some (pc, ls, st, h, k, n)
  | m + 1, pc, ls, st, h, k, n => match lw_t pc with
    | none => none
    | some I => if am_kd I = 0 then (match am_s (10, 300, 7, am_ctb, sL, sx, cs) I pc ls st h k n with
      | none => none
      | some u => am_nl sL sx cs m u.1 u.2.1 u.2.2.1 u.2.2.2.1 u.2.2.2.2.1 u.2.2.2.2.2) else none
theorem am_nl_eq : ∀ (m pc : Nat) (ls : am_L) (st : List Value) (h : am_H) (k n : Nat), am_nl sL sx cs m pc ls st h k n = am_nn sL sx cs 417 m pc ls st h k n
  | 0, _, _, _, _, _, _ => rfl
  | m + 1, pc, ls, st, h, k, n => by
    unfold am_nl am_nn
    rw [lw_co]
    cases lw_t pc with
    | none => rfl
    | some I =>
      dsimp only
      split
      · have e7 : (am_mt 417).2.2.1 = 7 := rfl
        rw [e7]
        cases am_s (10, 300, 7, am_ctb, sL, sx, cs) I pc ls st h k n with
        | none => rfl
        | some u => exact am_nl_eq m _ _ _ _ _ _
      · rfl
theorem am_nbl {m pc : Nat} {ls : am_L} {st : List Value} {H : am_H} {k n : Nat} {pc1 : Nat} {ls1 : am_L} {st1 : List Value} {H1 : am_H} {k1 n1 : Nat} (hu : am_nl sL sx cs m pc ls st H k n = some (pc1, ls1, st1, H1, k1, n1)) : aX sL sx cs 417 pc ls st H k n = aX sL sx cs 417 pc1 ls1 st1 H1 k1 n1 := am_nn_ok (by rw [← am_nl_eq]; exact hu)
end LWN
