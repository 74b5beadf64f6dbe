/-- 213: TerminalHouse$Terminal.endEscape(I)V -/
def am_c213 : List (List (Option am_I)) := [[am_i (.iload_n 1), am_t (.tableswitch 339 55 99 #[210, 220, 339, 339, 339, 339, 311, 325, 339, 339, 339, 339, 339, 230, 240, 339, 339, 275, 339, 339, 339, 339, 265, 339, 339, 202, 339, 339, 339, 339, 339, 339, 339, 202, 339, 294, 195, 339, 202, 202, 202, 339, 339, 339, 301]) 340 [(55, 211), (56, 221), (57, 340), (58, 340), (59, 340), (60, 340), (61, 312), (62, 326), (63, 340), (64, 340), (65, 340), (66, 340), (67, 340), (68, 231), (69, 241), (70, 340), (71, 340), (72, 276), (73, 340), (74, 340), (75, 340), (76, 340), (77, 266), (78, 340), (79, 340), (80, 203), (81, 340), (82, 340), (83, 340), (84, 340), (85, 340), (86, 340), (87, 340), (88, 203), (89, 340), (90, 295), (91, 196), (92, 340), (93, 203), (94, 203), (95, 203), (96, 340), (97, 340), (98, 340), (99, 302)], none, none, none, none, none, none, none, none, none, none, none, none, none, none],
  [none, none, none, none, none, none, none, none, none, none, none, none, none, none, none, none],
  [none, none, none, none, none, none, none, none, none, none, none, none, none, none, none, none],
  [none, none, none, none, none, none, none, none, none, none, none, none, none, none, none, none],
  [none, none, none, none, none, none, none, none, none, none, none, none, none, none, none, none],
  [none, none, none, none, none, none, none, none, none, none, none, none, none, none, none, none],
  [none, none, none, none, none, none, none, none, none, none, none, none, none, none, none, none],
  [none, none, none, none, none, none, none, none, none, none, none, none, none, none, none, none],
  [none, none, none, none, none, none, none, none, none, none, none, none, none, none, none, none],
  [none, none, none, none, none, none, none, none, none, none, none, none, none, none, none, none],
  [none, none, none, none, none, none, none, none, none, none, none, none, none, none, none, none],
  [none, none, none, none, none, none, none, none, none, none, none, none, none, none, none, none],
  [none, none, none, none, am_i (.aload_n 0), am_f (.invokevirtual 127) 214 0 false, none, none, am_j (.goto 140) 340, none, none, am_i (.aload_n 0), am_i (.iconst 5), am_f (.putfield 73) 8 9 false, none, none],
  [am_j (.goto 132) 340, none, none, am_i (.aload_n 0), am_f (.getfield 35) 8 0 false, none, none, am_f (.invokevirtual 130) 18 0 false, none, none, am_j (.goto 122) 340, none, none, am_i (.aload_n 0), am_f (.getfield 35) 8 0 false, none],
  [none, am_f (.invokevirtual 133) 215 0 false, none, none, am_j (.goto 112) 340, none, none, am_i (.aload_n 0), am_f (.getfield 35) 8 0 false, none, none, am_f (.invokevirtual 112) 206 0 false, none, none, am_j (.goto 102) 340, none],
  [none, am_i (.aload_n 0), am_f (.getfield 35) 8 0 false, none, none, am_i (.aload_n 0), am_f (.getfield 35) 8 0 false, none, none, am_f (.getfield 97) 3 5 true, none, none, am_i (.iconst 0), am_f (.invokevirtual 103) 16 2 false, none, none],
  [am_i (.aload_n 0), am_f (.getfield 35) 8 0 false, none, none, am_f (.invokevirtual 112) 206 0 false, none, none, am_j (.goto 77) 340, none, none, am_i (.aload_n 0), am_f (.getfield 35) 8 0 false, none, none, am_f (.invokevirtual 136) 217 0 false, none],
  [none, am_j (.goto 67) 340, none, none, am_i (.aload_n 0), am_f (.getfield 35) 8 0 false, none, none, am_f (.getfield 139) 3 4 true, none, none, am_i (.aload_n 0), am_f (.getfield 35) 8 0 false, none, none, am_f (.getfield 100) 3 6 true],
  [none, none, am_i (.iconst 1), am_i .bastore, am_j (.goto 48) 340, none, none, am_i (.aload_n 0), am_f (.invokevirtual 143) 218 0 false, none, none, am_j (.goto 41) 340, none, none, am_i (.aload_n 0), am_f (.getfield 35) 8 0 false],
  [none, none, am_f (.invokevirtual 146) 13 0 false, none, none, am_j (.goto 31) 340, none, none, am_i (.aload_n 0), am_f (.getfield 35) 8 0 false, none, none, am_i (.sipush 128), none, none, am_i (.iconst 1)],
  [am_f (.invokevirtual 149) 216 2 false, none, none, am_j (.goto 17) 340, none, none, am_i (.aload_n 0), am_f (.getfield 35) 8 0 false, none, none, am_i (.sipush 128), none, none, am_i (.iconst 0), am_f (.invokevirtual 149) 216 2 false, none],
  [none, am_j (.goto 3) 340, none, none, am_i .return_]]
/-- 214: TerminalHouse$Terminal.beginSequence()V -/
def am_c214 : List (List (Option am_I)) := [[am_i (.aload_n 0), am_i (.iconst 3), am_f (.putfield 73) 8 9 false, none, none, am_i (.aload_n 0), am_f (.getfield 27) 8 11 false, none, none, am_i (.iconst 0), am_i (.iconst 0), am_i .iastore, am_i (.aload_n 0), am_i (.iconst 1), am_f (.putfield 162) 8 12 false, none],
  [none, am_i (.aload_n 0), am_i (.iconst 0), am_f (.putfield 165) 8 13 false, none, none, am_i (.aload_n 0), am_i (.iconst 1), am_f (.putfield 168) 8 14 false, none, none, am_i .return_]]
/-- 215: TerminalHouse$Glass.restore()V -/
def am_c215 : List (List (Option am_I)) := [[am_i (.aload_n 0), am_i (.aload_n 0), am_f (.getfield 9) 3 17 false, none, none, am_i (.iconst 2), am_i .iaload, am_f (.putfield 54) 3 11 false, none, none, am_i (.aload_n 0), am_i (.aload_n 0), am_f (.getfield 9) 3 17 false, none, none, am_i (.iconst 3)],
  [am_i .iaload, am_f (.putfield 57) 3 12 false, none, none, am_i (.aload_n 0), am_i (.aload_n 0), am_f (.getfield 9) 3 17 false, none, none, am_i (.iconst 4), am_i .iaload, am_f (.putfield 60) 3 13 false, none, none, am_i (.aload_n 0), am_i (.bipush 16)],
  [none, am_i (.aload_n 0), am_f (.getfield 9) 3 17 false, none, none, am_i (.iconst 5), am_i .iaload, am_j (.ifCond .eq 7) 46, none, none, am_i (.iconst 1), am_j (.goto 4) 47, none, none, am_i (.iconst 0), am_f (.invokevirtual 124) 216 2 false],
  [none, none, am_i (.aload_n 0), am_i (.aload_n 0), am_f (.getfield 9) 3 17 false, none, none, am_i (.iconst 0), am_i .iaload, am_i (.aload_n 0), am_f (.getfield 9) 3 17 false, none, none, am_i (.iconst 1), am_i .iaload, am_f (.invokevirtual 66) 16 2 false],
  [none, none, am_i .return_]]
/-- 216: TerminalHouse$Glass.turn(IZ)V -/
def am_c216 : List (List (Option am_I)) := [[am_i (.aload_n 0), am_i (.iload_n 2), am_j (.ifCond .eq 12) 14, none, none, am_i (.aload_n 0), am_f (.getfield 51) 3 10 false, none, none, am_i (.iload_n 1), am_i .ior, am_j (.goto 11) 22, none, none, am_i (.aload_n 0), am_f (.getfield 51) 3 10 false],
  [none, none, am_i (.iload_n 1), am_i (.iconst (-1)), am_i .ixor, am_i .iand, am_f (.putfield 51) 3 10 false, none, none, am_i .return_]]
/-- 217: TerminalHouse$Glass.backIndex()V -/
def am_c217 : List (List (Option am_I)) := [[am_i (.aload_n 0), am_f (.getfield 73) 3 5 false, none, none, am_i (.aload_n 0), am_f (.getfield 45) 3 8 false, none, none, am_j (.if_icmp .ne 24) 32, none, none, am_i (.aload_n 0), am_i (.aload_n 0), am_f (.getfield 45) 3 8 false, none, none],
  [am_i (.aload_n 0), am_f (.getfield 48) 3 9 false, none, none, am_i (.iconst 1), am_f (.invokevirtual 114) 207 3 false, none, none, am_i (.aload_n 0), am_i (.iconst 0), am_f (.putfield 83) 3 7 false, none, none, am_j (.goto 17) 46, none, none],
  [am_i (.aload_n 0), am_i (.aload_n 0), am_f (.getfield 73) 3 5 false, none, none, am_i (.iconst 1), am_i .isub, am_i (.aload_n 0), am_f (.getfield 76) 3 6 false, none, none, am_f (.invokevirtual 66) 16 2 false, none, none, am_i .return_]]
/-- 218: TerminalHouse$Terminal.answerWhat()V -/
def am_c218 : List (List (Option am_I)) := [[am_i (.aload_n 0), am_f (.getfield 23) 8 3 false, none, none, am_i (.iconst 0), am_i (.bipush 27), none, am_i .iastore, am_i (.aload_n 0), am_f (.getfield 23) 8 3 false, none, none, am_i (.iconst 1), am_i (.bipush 91), none, am_i .iastore],
  [am_i (.aload_n 0), am_f (.getfield 23) 8 3 false, none, none, am_i (.iconst 2), am_i (.bipush 63), none, am_i .iastore, am_i (.aload_n 0), am_f (.getfield 23) 8 3 false, none, none, am_i (.iconst 3), am_i (.bipush 49), none, am_i .iastore],
  [am_i (.aload_n 0), am_f (.getfield 23) 8 3 false, none, none, am_i (.iconst 4), am_i (.bipush 59), none, am_i .iastore, am_i (.aload_n 0), am_f (.getfield 23) 8 3 false, none, none, am_i (.iconst 5), am_i (.bipush 50), none, am_i .iastore],
  [am_i (.aload_n 0), am_f (.getfield 23) 8 3 false, none, none, am_i (.bipush 6), none, am_i (.bipush 99), none, am_i .iastore, am_i (.aload_n 0), am_f (.getfield 20) 8 2 false, none, none, am_i (.aload_n 0), am_f (.getfield 23) 8 3 false, none],
  [none, am_i (.bipush 7), none, am_f (.invokevirtual 254) 201 2 false, none, none, am_i .pop, am_i .return_]]
/-- 219: TerminalHouse$Terminal.endHash(I)V -/
def am_c219 : List (List (Option am_I)) := [[am_i (.iload_n 1), am_t (.tableswitch 93 51 56 #[39, 50, 61, 72, 93, 83]) 94 [(51, 40), (52, 51), (53, 62), (54, 73), (55, 94), (56, 84)], none, none, none, none, none, none, none, none, none, none, none, none, none, none],
  [none, none, none, none, none, none, none, none, none, none, none, none, none, none, none, none],
  [none, none, none, none, none, none, none, none, am_i (.aload_n 0), am_f (.getfield 35) 8 0 false, none, none, am_i (.iconst 2), am_f (.invokevirtual 153) 220 1 false, none, none],
  [am_j (.goto 46) 94, none, none, am_i (.aload_n 0), am_f (.getfield 35) 8 0 false, none, none, am_i (.iconst 3), am_f (.invokevirtual 153) 220 1 false, none, none, am_j (.goto 35) 94, none, none, am_i (.aload_n 0), am_f (.getfield 35) 8 0 false],
  [none, none, am_i (.iconst 0), am_f (.invokevirtual 153) 220 1 false, none, none, am_j (.goto 24) 94, none, none, am_i (.aload_n 0), am_f (.getfield 35) 8 0 false, none, none, am_i (.iconst 1), am_f (.invokevirtual 153) 220 1 false, none],
  [none, am_j (.goto 13) 94, none, none, am_i (.aload_n 0), am_f (.getfield 35) 8 0 false, none, none, am_f (.invokevirtual 156) 221 0 false, none, none, am_j (.goto 3) 94, none, none, am_i .return_]]
/-- 220: TerminalHouse$Glass.setWidth(I)V -/
def am_c220 : List (List (Option am_I)) := [[am_i (.aload_n 0), am_f (.getfield 29) 3 3 false, none, none, am_i (.aload_n 0), am_f (.getfield 73) 3 5 false, none, none, am_i (.iload_n 1), am_i .iastore, am_i (.aload_n 0), am_f (.invokevirtual 79) 17 0 false, none, none, am_i (.istore_n 2), am_i (.aload_n 0)],
  [am_f (.getfield 26) 3 2 false, none, none, am_i (.aload_n 0), am_f (.getfield 73) 3 5 false, none, none, am_i (.aload_n 0), am_f (.getfield 23) 3 1 false, none, none, am_i .imul, am_i (.iload_n 2), am_i .iadd, am_i (.iconst 1), am_i .iadd],
  [am_i (.aload_n 0), am_f (.getfield 73) 3 5 false, none, none, am_i (.iconst 1), am_i .iadd, am_i (.aload_n 0), am_f (.getfield 23) 3 1 false, none, none, am_i .imul, am_i (.bipush 32), none, am_f (.invokestatic 39) 14 4 false, none, none],
  [am_i (.aload_n 0), am_f (.getfield 76) 3 6 false, none, none, am_i (.iload_n 2), am_j (.if_icmp .le 12) 65, none, none, am_i (.aload_n 0), am_i (.aload_n 0), am_f (.getfield 73) 3 5 false, none, none, am_i (.iload_n 2), am_f (.invokevirtual 66) 16 2 false, none],
  [none, am_i .return_]]
/-- 221: TerminalHouse$Glass.align()V -/
def am_c221 : List (List (Option am_I)) := [[am_i (.aload_n 0), am_f (.getfield 26) 3 2 false, none, none, am_i (.iconst 0), am_i (.aload_n 0), am_f (.getfield 26) 3 2 false, none, none, am_i .arraylength, am_i (.bipush 69), none, am_f (.invokestatic 39) 14 4 false, none, none, am_i (.aload_n 0)],
  [am_f (.getfield 29) 3 3 false, none, none, am_i (.iconst 0), am_i (.aload_n 0), am_f (.getfield 19) 3 0 false, none, none, am_i (.iconst 0), am_f (.invokestatic 39) 14 4 false, none, none, am_i (.aload_n 0), am_i (.iconst 0), am_f (.putfield 45) 3 8 false, none],
  [none, am_i (.aload_n 0), am_i (.aload_n 0), am_f (.getfield 19) 3 0 false, none, none, am_i (.iconst 1), am_i .isub, am_f (.putfield 48) 3 9 false, none, none, am_i (.aload_n 0), am_i (.iconst 0), am_i (.iconst 0), am_f (.invokevirtual 66) 16 2 false, none],
  [none, am_i (.aload_n 0), am_i (.iconst 2), am_f (.putfield 118) 3 16 false, none, none, am_i .return_]]
/-- 222: TerminalHouse$Terminal.chooseSet(II)V -/
def am_c222 : List (List (Option am_I)) := [[am_i (.iload_n 2), am_i (.bipush 66), none, am_j (.if_icmp .ne 21) 24, none, none, am_i (.aload_n 0), am_f (.getfield 35) 8 0 false, none, none, am_i .dup, am_f (.getfield 159) 3 12 true, none, none, am_i (.iload_n 1), am_i (.iconst (-1))],
  [am_i .ixor, am_i .iand, am_f (.putfield 159) 3 12 true, none, none, am_j (.goto 22) 43, none, none, am_i (.iload_n 2), am_i (.bipush 48), none, am_j (.if_icmp .ne 16) 43, none, none, am_i (.aload_n 0), am_f (.getfield 35) 8 0 false],
  [none, none, am_i .dup, am_f (.getfield 159) 3 12 true, none, none, am_i (.iload_n 1), am_i .ior, am_f (.putfield 159) 3 12 true, none, none, am_i .return_]]
/-- 223: TerminalHouse$Terminal.readSequence(I)V -/
def am_c223 : List (List (Option am_I)) := [[am_i (.aload_n 0), am_f (.getfield 168) 8 14 false, none, none, am_i (.istore_n 2), am_i (.aload_n 0), am_i (.iconst 0), am_f (.putfield 168) 8 14 false, none, none, am_i (.iload_n 1), am_i (.bipush 64), none, am_j (.if_icmp .lt 31) 44, none, none],
  [am_i (.aload_n 0), am_i (.iconst 0), am_f (.putfield 73) 8 9 false, none, none, am_i (.aload_n 0), am_f (.getfield 165) 8 13 false, none, none, am_j (.ifCond .eq 11) 36, none, none, am_i (.aload_n 0), am_i (.iload_n 1), am_f (.invokevirtual 171) 224 1 false, none],
  [none, am_j (.goto 121) 154, none, none, am_i (.aload_n 0), am_i (.iload_n 1), am_f (.invokevirtual 174) 226 1 false, none, none, am_j (.goto 113) 154, none, none, am_i (.iload_n 1), am_f (.invokestatic 177) 35 1 true, none, none],
  [am_j (.ifCond .eq 45) 93, none, none, am_i (.aload_n 0), am_f (.getfield 162) 8 12 false, none, none, am_i (.iconst 1), am_i .isub, am_i (.iconst 0), am_i (.bipush 7), none, am_f (.invokestatic 180) 10 3 true, none, none, am_i (.istore_n 3)],
  [am_i (.aload_n 0), am_f (.getfield 27) 8 11 false, none, none, am_i (.iload_n 3), am_i (.sipush 9999), none, none, am_i (.aload_n 0), am_f (.getfield 27) 8 11 false, none, none, am_i (.iload_n 3), am_i .iaload, am_i (.bipush 10), none],
  [am_i .imul, am_i (.iload_n 1), am_i .iadd, am_i (.bipush 48), none, am_i .isub, am_j (.invokestatic 184) 1003, none, none, am_i .iastore, am_j (.goto 64) 154, none, none, am_i (.iload_n 1), am_i (.bipush 59), none],
  [am_j (.if_icmp .ne 35) 131, none, none, am_i (.aload_n 0), am_f (.getfield 162) 8 12 false, none, none, am_i (.bipush 8), none, am_j (.if_icmp .ge 26) 131, none, none, am_i (.aload_n 0), am_f (.getfield 27) 8 11 false, none, none],
  [am_i (.aload_n 0), am_f (.getfield 162) 8 12 false, none, none, am_i (.iconst 0), am_i .iastore, am_i (.aload_n 0), am_i .dup, am_f (.getfield 162) 8 12 false, none, none, am_i (.iconst 1), am_i .iadd, am_f (.putfield 162) 8 12 false, none, none],
  [am_j (.goto 26) 154, none, none, am_i (.iload_n 1), am_i (.bipush 63), none, am_j (.if_icmp .ne 15) 149, none, none, am_i (.iload_n 2), am_j (.ifCond .eq 11) 149, none, none, am_i (.aload_n 0), am_i (.iconst 1), am_f (.putfield 165) 8 13 false],
  [none, none, am_j (.goto 8) 154, none, none, am_i (.aload_n 0), am_i (.iconst 4), am_f (.putfield 73) 8 9 false, none, none, am_i .return_]]
/-- 224: TerminalHouse$Terminal.turnPrivateModes(I)V -/
def am_c224 : List (List (Option am_I)) := [[am_i (.iload_n 1), am_i (.bipush 104), none, am_j (.if_icmp .eq 10) 13, none, none, am_i (.iload_n 1), am_i (.bipush 108), none, am_j (.if_icmp .eq 4) 13, none, none, am_i .return_, am_i (.iload_n 1), am_i (.bipush 104), none],
  [am_j (.if_icmp .ne 7) 23, none, none, am_i (.iconst 1), am_j (.goto 4) 24, none, none, am_i (.iconst 0), am_i (.istore_n 2), am_i (.iconst 0), am_i (.istore_n 3), am_i (.iload_n 3), am_i (.aload_n 0), am_f (.getfield 162) 8 12 false, none, none],
  [am_j (.if_icmp .ge 133) 165, none, none, am_i (.aload_n 0), am_f (.getfield 27) 8 11 false, none, none, am_i (.iload_n 3), am_i .iaload, am_t (.tableswitch 118 1 8 #[47, 118, 118, 118, 59, 72, 92, 105]) 159 [(1, 88), (2, 159), (3, 159), (4, 159), (5, 100), (6, 113), (7, 133), (8, 146)], none, none, none, none, none, none],
  [none, none, none, none, none, none, none, none, none, none, none, none, none, none, none, none],
  [none, none, none, none, none, none, none, none, none, none, none, none, none, none, none, none],
  [none, none, none, none, none, none, none, none, am_i (.aload_n 0), am_f (.getfield 35) 8 0 false, none, none, am_i (.iconst 4), am_i (.iload_n 2), am_f (.invokevirtual 149) 216 2 false, none],
  [none, am_j (.goto 62) 159, none, none, am_i (.aload_n 0), am_f (.getfield 35) 8 0 false, none, none, am_i (.bipush 8), none, am_i (.iload_n 2), am_f (.invokevirtual 149) 216 2 false, none, none, am_j (.goto 49) 159, none],
  [none, am_i (.aload_n 0), am_f (.getfield 35) 8 0 false, none, none, am_i (.bipush 16), none, am_i (.iload_n 2), am_f (.invokevirtual 149) 216 2 false, none, none, am_i (.aload_n 0), am_f (.getfield 35) 8 0 false, none, none, am_f (.invokevirtual 251) 225 0 false],
  [none, none, am_j (.goto 29) 159, none, none, am_i (.aload_n 0), am_f (.getfield 35) 8 0 false, none, none, am_i (.bipush 32), none, am_i (.iload_n 2), am_f (.invokevirtual 149) 216 2 false, none, none, am_j (.goto 16) 159],
  [none, none, am_i (.aload_n 0), am_f (.getfield 35) 8 0 false, none, none, am_i (.bipush 64), none, am_i (.iload_n 2), am_f (.invokevirtual 149) 216 2 false, none, none, am_j (.goto 3) 159, none, none, am_i (.iinc 3 1)],
  [none, none, am_j (.goto (-135)) 27, none, none, am_i .return_]]
/-- 225: TerminalHouse$Glass.placeFirst()V -/
def am_c225 : List (List (Option am_I)) := [[am_i (.aload_n 0), am_i (.aload_n 0), am_i (.bipush 16), none, am_f (.invokevirtual 87) 197 1 false, none, none, am_j (.ifCond .eq 10) 17, none, none, am_i (.aload_n 0), am_f (.getfield 45) 3 8 false, none, none, am_j (.goto 4) 18, none],
  [none, am_i (.iconst 0), am_i (.iconst 0), am_f (.invokevirtual 66) 16 2 false, none, none, am_i .return_]]
/-- 226: TerminalHouse$Terminal.moveOrErase(I)V -/
def am_c226 : List (List (Option am_I)) := [[am_i (.aload_n 0), am_f (.getfield 27) 8 11 false, none, none, am_i (.iconst 0), am_i .iaload, am_i (.istore_n 2), am_i (.aload_n 0), am_f (.getfield 162) 8 12 false, none, none, am_i (.iconst 1), am_j (.if_icmp .le 12) 24, none, none, am_i (.aload_n 0)],
  [am_f (.getfield 27) 8 11 false, none, none, am_i (.iconst 1), am_i .iaload, am_j (.goto 4) 25, none, none, am_i (.iconst 0), am_i (.istore_n 3), am_i (.iconst 1), am_i (.iload_n 2), am_j (.invokestatic 190) 1002, none, none, am_i (.istore 4)],
  [none, am_i (.iload_n 1), am_t (.tableswitch 470 64 114 #[406, 218, 230, 242, 269, 470, 470, 296, 338, 470, 359, 370, 381, 393, 470, 470, 418, 470, 470, 470, 470, 470, 470, 470, 431, 470, 470, 470, 470, 470, 470, 470, 470, 470, 470, 470, 317, 470, 338, 470, 470, 470, 470, 470, 470, 470, 470, 470, 470, 470, 443]) 504 [(64, 440), (65, 252), (66, 264), (67, 276), (68, 303), (69, 504), (70, 504), (71, 330), (72, 372), (73, 504), (74, 393), (75, 404), (76, 415), (77, 427), (78, 504), (79, 504), (80, 452), (81, 504), (82, 504), (83, 504), (84, 504), (85, 504), (86, 504), (87, 504), (88, 465), (89, 504), (90, 504), (91, 504), (92, 504), (93, 504), (94, 504), (95, 504), (96, 504), (97, 504), (98, 504), (99, 504), (100, 351), (101, 504), (102, 372), (103, 504), (104, 504), (105, 504), (106, 504), (107, 504), (108, 504), (109, 504), (110, 504), (111, 504), (112, 504), (113, 504), (114, 477)], none, none, none, none, none, none, none, none, none, none, none, none, none],
  [none, none, none, none, none, none, none, none, none, none, none, none, none, none, none, none],
  [none, none, none, none, none, none, none, none, none, none, none, none, none, none, none, none],
  [none, none, none, none, none, none, none, none, none, none, none, none, none, none, none, none],
  [none, none, none, none, none, none, none, none, none, none, none, none, none, none, none, none],
  [none, none, none, none, none, none, none, none, none, none, none, none, none, none, none, none],
  [none, none, none, none, none, none, none, none, none, none, none, none, none, none, none, none],
  [none, none, none, none, none, none, none, none, none, none, none, none, none, none, none, none],
  [none, none, none, none, none, none, none, none, none, none, none, none, none, none, none, none],
  [none, none, none, none, none, none, none, none, none, none, none, none, none, none, none, none],
  [none, none, none, none, none, none, none, none, none, none, none, none, none, none, none, none],
  [none, none, none, none, none, none, none, none, none, none, none, none, none, none, none, none],
  [none, none, none, none, none, none, none, none, none, none, none, none, none, none, none, none],
  [none, none, none, none, none, none, none, none, none, none, none, none, am_i (.aload_n 0), am_f (.getfield 35) 8 0 false, none, none],
  [am_i (.iload 4), none, am_f (.invokevirtual 193) 227 1 false, none, none, am_j (.goto 249) 510, none, none, am_i (.aload_n 0), am_f (.getfield 35) 8 0 false, none, none, am_i (.iload 4), none, am_f (.invokevirtual 196) 228 1 false, none],
  [none, am_j (.goto 237) 510, none, none, am_i (.aload_n 0), am_f (.getfield 35) 8 0 false, none, none, am_i (.aload_n 0), am_f (.getfield 35) 8 0 false, none, none, am_f (.getfield 97) 3 5 true, none, none, am_i (.aload_n 0)],
  [am_f (.getfield 35) 8 0 false, none, none, am_f (.getfield 100) 3 6 true, none, none, am_i (.iload 4), none, am_i .iadd, am_f (.invokevirtual 103) 16 2 false, none, none, am_j (.goto 210) 510, none, none, am_i (.aload_n 0)],
  [am_f (.getfield 35) 8 0 false, none, none, am_i (.aload_n 0), am_f (.getfield 35) 8 0 false, none, none, am_f (.getfield 97) 3 5 true, none, none, am_i (.aload_n 0), am_f (.getfield 35) 8 0 false, none, none, am_f (.getfield 100) 3 6 true, none],
  [none, am_i (.iload 4), none, am_i .isub, am_f (.invokevirtual 103) 16 2 false, none, none, am_j (.goto 183) 510, none, none, am_i (.aload_n 0), am_f (.getfield 35) 8 0 false, none, none, am_i (.aload_n 0), am_f (.getfield 35) 8 0 false],
  [none, none, am_f (.getfield 97) 3 5 true, none, none, am_i (.iload 4), none, am_i (.iconst 1), am_i .isub, am_f (.invokevirtual 103) 16 2 false, none, none, am_j (.goto 162) 510, none, none, am_i (.aload_n 0)],
  [am_f (.getfield 35) 8 0 false, none, none, am_i (.iload 4), none, am_i (.iconst 1), am_i .isub, am_i (.aload_n 0), am_f (.getfield 35) 8 0 false, none, none, am_f (.getfield 100) 3 6 true, none, none, am_f (.invokevirtual 199) 229 2 false, none],
  [none, am_j (.goto 141) 510, none, none, am_i (.aload_n 0), am_f (.getfield 35) 8 0 false, none, none, am_i (.iload 4), none, am_i (.iconst 1), am_i .isub, am_i (.iconst 1), am_i (.iload_n 3), am_j (.invokestatic 190) 1002, none],
  [none, am_i (.iconst 1), am_i .isub, am_f (.invokevirtual 199) 229 2 false, none, none, am_j (.goto 120) 510, none, none, am_i (.aload_n 0), am_f (.getfield 35) 8 0 false, none, none, am_i (.iload_n 2), am_f (.invokevirtual 202) 230 1 false, none],
  [none, am_j (.goto 109) 510, none, none, am_i (.aload_n 0), am_f (.getfield 35) 8 0 false, none, none, am_i (.iload_n 2), am_f (.invokevirtual 205) 231 1 false, none, none, am_j (.goto 98) 510, none, none, am_i (.aload_n 0)],
  [am_f (.getfield 35) 8 0 false, none, none, am_i (.iload 4), none, am_f (.invokevirtual 208) 232 1 false, none, none, am_j (.goto 86) 510, none, none, am_i (.aload_n 0), am_f (.getfield 35) 8 0 false, none, none, am_i (.iload 4)],
  [none, am_i .ineg, am_f (.invokevirtual 208) 232 1 false, none, none, am_j (.goto 73) 510, none, none, am_i (.aload_n 0), am_f (.getfield 35) 8 0 false, none, none, am_i (.iload 4), none, am_f (.invokevirtual 211) 233 1 false, none],
  [none, am_j (.goto 61) 510, none, none, am_i (.aload_n 0), am_f (.getfield 35) 8 0 false, none, none, am_i (.iload 4), none, am_i .ineg, am_f (.invokevirtual 211) 233 1 false, none, none, am_j (.goto 48) 510, none],
  [none, am_i (.aload_n 0), am_f (.getfield 35) 8 0 false, none, none, am_i (.iload 4), none, am_f (.invokevirtual 214) 234 1 false, none, none, am_j (.goto 36) 510, none, none, am_i (.aload_n 0), am_f (.getfield 35) 8 0 false, none],
  [none, am_i (.iload 4), none, am_i (.iload_n 3), am_j (.ifCond .ne 13) 497, none, none, am_i (.aload_n 0), am_f (.getfield 35) 8 0 false, none, none, am_f (.getfield 217) 3 0 true, none, none, am_j (.goto 4) 498, none],
  [none, am_i (.iload_n 3), am_f (.invokevirtual 220) 235 2 false, none, none, am_j (.goto 9) 510, none, none, am_i (.aload_n 0), am_i (.iload_n 1), am_i (.iload_n 2), am_f (.invokevirtual 223) 236 2 false, none, none, am_i .return_]]
/-- 227: TerminalHouse$Glass.goUp(I)V -/
def am_c227 : List (List (Option am_I)) := [[am_i (.aload_n 0), am_i (.aload_n 0), am_f (.getfield 73) 3 5 false, none, none, am_i (.iload_n 1), am_i .isub, am_i (.aload_n 0), am_f (.getfield 73) 3 5 false, none, none, am_i (.aload_n 0), am_f (.getfield 45) 3 8 false, none, none, am_j (.if_icmp .lt 10) 25],
  [none, none, am_i (.aload_n 0), am_f (.getfield 45) 3 8 false, none, none, am_j (.goto 4) 26, none, none, am_i (.iconst 0), am_j (.invokestatic 97) 1002, none, none, am_i (.aload_n 0), am_f (.getfield 76) 3 6 false, none],
  [none, am_f (.invokevirtual 66) 16 2 false, none, none, am_i .return_]]
/-- 228: TerminalHouse$Glass.goDown(I)V -/
def am_c228 : List (List (Option am_I)) := [[am_i (.aload_n 0), am_i (.aload_n 0), am_f (.getfield 73) 3 5 false, none, none, am_i (.iload_n 1), am_i .iadd, am_i (.aload_n 0), am_f (.getfield 73) 3 5 false, none, none, am_i (.aload_n 0), am_f (.getfield 48) 3 9 false, none, none, am_j (.if_icmp .gt 10) 25],
  [none, none, am_i (.aload_n 0), am_f (.getfield 48) 3 9 false, none, none, am_j (.goto 9) 31, none, none, am_i (.aload_n 0), am_f (.getfield 19) 3 0 false, none, none, am_i (.iconst 1), am_i .isub, am_j (.invokestatic 91) 1003],
  [none, none, am_i (.aload_n 0), am_f (.getfield 76) 3 6 false, none, none, am_f (.invokevirtual 66) 16 2 false, none, none, am_i .return_]]
/-- 229: TerminalHouse$Glass.placeTold(II)V -/
def am_c229 : List (List (Option am_I)) := [[am_i (.aload_n 0), am_i (.bipush 16), none, am_f (.invokevirtual 87) 197 1 false, none, none, am_j (.ifCond .eq 24) 30, none, none, am_i (.aload_n 0), am_i (.aload_n 0), am_f (.getfield 45) 3 8 false, none, none, am_i (.iload_n 1), am_i .iadd],
  [am_i (.aload_n 0), am_f (.getfield 48) 3 9 false, none, none, am_j (.invokestatic 91) 1003, none, none, am_i (.iload_n 2), am_f (.invokevirtual 66) 16 2 false, none, none, am_j (.goto 9) 36, none, none, am_i (.aload_n 0), am_i (.iload_n 1)],
  [am_i (.iload_n 2), am_f (.invokevirtual 66) 16 2 false, none, none, am_i .return_]]
/-- 230: TerminalHouse$Glass.eraseScreen(I)V -/
def am_c230 : List (List (Option am_I)) := [[am_i (.iload_n 1), am_i (.iconst 2), am_j (.if_icmp .le 4) 6, none, none, am_i .return_, am_i (.iload_n 1), am_i (.iconst 2), am_j (.if_icmp .eq 28) 36, none, none, am_i (.iload_n 1), am_j (.ifCond .ne 13) 25, none, none, am_i (.aload_n 0)],
  [am_f (.getfield 76) 3 6 false, none, none, am_j (.ifCond .ne 21) 40, none, none, am_j (.goto 14) 36, none, none, am_i (.aload_n 0), am_f (.getfield 76) 3 6 false, none, none, am_i (.aload_n 0), am_f (.invokevirtual 79) 17 0 false, none],
  [none, am_j (.if_icmp .lt 7) 40, none, none, am_i (.iconst 1), am_j (.goto 4) 41, none, none, am_i (.iconst 0), am_i (.istore_n 2), am_i (.aload_n 0), am_i (.iload_n 1), am_f (.invokevirtual 121) 231 1 false, none, none, am_i (.iload_n 2)],
  [am_j (.ifCond .eq 13) 61, none, none, am_i (.aload_n 0), am_f (.getfield 29) 3 3 false, none, none, am_i (.aload_n 0), am_f (.getfield 73) 3 5 false, none, none, am_i (.iconst 0), am_i .iastore, am_i (.iload_n 1), am_j (.ifCond .eq 35) 97, none],
  [none, am_i (.aload_n 0), am_f (.getfield 26) 3 2 false, none, none, am_i (.iconst 0), am_i (.aload_n 0), am_f (.getfield 73) 3 5 false, none, none, am_i (.aload_n 0), am_f (.getfield 23) 3 1 false, none, none, am_i .imul, am_i (.bipush 32)],
  [none, am_f (.invokestatic 39) 14 4 false, none, none, am_i (.aload_n 0), am_f (.getfield 29) 3 3 false, none, none, am_i (.iconst 0), am_i (.aload_n 0), am_f (.getfield 73) 3 5 false, none, none, am_i (.iconst 0), am_f (.invokestatic 39) 14 4 false, none],
  [none, am_i (.iload_n 1), am_i (.iconst 1), am_j (.if_icmp .eq 46) 145, none, none, am_i (.aload_n 0), am_f (.getfield 26) 3 2 false, none, none, am_i (.aload_n 0), am_f (.getfield 73) 3 5 false, none, none, am_i (.iconst 1), am_i .iadd],
  [am_i (.aload_n 0), am_f (.getfield 23) 3 1 false, none, none, am_i .imul, am_i (.aload_n 0), am_f (.getfield 26) 3 2 false, none, none, am_i .arraylength, am_i (.bipush 32), none, am_f (.invokestatic 39) 14 4 false, none, none, am_i (.aload_n 0)],
  [am_f (.getfield 29) 3 3 false, none, none, am_i (.aload_n 0), am_f (.getfield 73) 3 5 false, none, none, am_i (.iconst 1), am_i .iadd, am_i (.aload_n 0), am_f (.getfield 19) 3 0 false, none, none, am_i (.iconst 0), am_f (.invokestatic 39) 14 4 false, none],
  [none, am_i (.aload_n 0), am_i (.iconst 2), am_f (.putfield 118) 3 16 false, none, none, am_i .return_]]
/-- 231: TerminalHouse$Glass.eraseRow(I)V -/
def am_c231 : List (List (Option am_I)) := [[am_i (.aload_n 0), am_f (.getfield 73) 3 5 false, none, none, am_i (.aload_n 0), am_f (.getfield 23) 3 1 false, none, none, am_i .imul, am_i (.istore_n 2), am_i (.iload_n 1), am_t (.tableswitch 85 0 2 #[25, 47, 66]) 96 [(0, 36), (1, 58), (2, 77)], none, none, none, none],
  [none, none, none, none, none, none, none, none, none, none, none, none, none, none, none, none],
  [none, none, none, none, am_i (.aload_n 0), am_f (.getfield 26) 3 2 false, none, none, am_i (.aload_n 0), am_f (.invokevirtual 107) 208 0 false, none, none, am_i (.iload_n 2), am_i (.aload_n 0), am_f (.getfield 23) 3 1 false, none],
  [none, am_i .iadd, am_i (.bipush 32), none, am_f (.invokestatic 39) 14 4 false, none, none, am_j (.goto 41) 96, none, none, am_i (.aload_n 0), am_f (.getfield 26) 3 2 false, none, none, am_i (.iload_n 2), am_i (.aload_n 0)],
  [am_f (.invokevirtual 107) 208 0 false, none, none, am_i (.iconst 1), am_i .iadd, am_i (.bipush 32), none, am_f (.invokestatic 39) 14 4 false, none, none, am_j (.goto 22) 96, none, none, am_i (.aload_n 0), am_f (.getfield 26) 3 2 false, none],
  [none, am_i (.iload_n 2), am_i (.iload_n 2), am_i (.aload_n 0), am_f (.getfield 23) 3 1 false, none, none, am_i .iadd, am_i (.bipush 32), none, am_f (.invokestatic 39) 14 4 false, none, none, am_j (.goto 3) 96, none, none],
  [am_i .return_]]
/-- 232: TerminalHouse$Glass.slideRowsHere(I)V -/
def am_c232 : List (List (Option am_I)) := [[am_i (.aload_n 0), am_f (.getfield 73) 3 5 false, none, none, am_i (.aload_n 0), am_f (.getfield 45) 3 8 false, none, none, am_j (.if_icmp .lt 36) 44, none, none, am_i (.aload_n 0), am_f (.getfield 73) 3 5 false, none, none, am_i (.aload_n 0)],
  [am_f (.getfield 48) 3 9 false, none, none, am_j (.if_icmp .gt 25) 44, none, none, am_i (.aload_n 0), am_i (.aload_n 0), am_f (.getfield 73) 3 5 false, none, none, am_i (.aload_n 0), am_f (.getfield 48) 3 9 false, none, none, am_i (.iload_n 1)],
  [am_f (.invokevirtual 114) 207 3 false, none, none, am_i (.aload_n 0), am_i (.aload_n 0), am_f (.getfield 73) 3 5 false, none, none, am_i (.iconst 0), am_f (.invokevirtual 66) 16 2 false, none, none, am_i .return_]]
/-- 233: TerminalHouse$Glass.slideCellsHere(I)V -/
def am_c233 : List (List (Option am_I)) := [[am_i (.aload_n 0), am_f (.getfield 26) 3 2 false, none, none, am_i (.aload_n 0), am_f (.invokevirtual 107) 208 0 false, none, none, am_i (.aload_n 0), am_f (.invokevirtual 79) 17 0 false, none, none, am_i (.aload_n 0), am_f (.getfield 76) 3 6 false, none, none],
  [am_i .isub, am_i (.iconst 1), am_i .iadd, am_i (.iload_n 1), am_i (.bipush 32), none, am_f (.invokestatic 110) 108 5 true, none, none, am_i (.aload_n 0), am_i (.iconst 0), am_f (.putfield 83) 3 7 false, none, none, am_i .return_]]
/-- 234: TerminalHouse$Glass.blankCellsHere(I)V -/
def am_c234 : List (List (Option am_I)) := [[am_i (.iload_n 1), am_i (.aload_n 0), am_f (.invokevirtual 79) 17 0 false, none, none, am_i (.aload_n 0), am_f (.getfield 76) 3 6 false, none, none, am_i .isub, am_i (.iconst 1), am_i .iadd, am_j (.invokestatic 91) 1003, none, none, am_i (.istore_n 2)],
  [am_i (.aload_n 0), am_f (.getfield 26) 3 2 false, none, none, am_i (.aload_n 0), am_f (.invokevirtual 107) 208 0 false, none, none, am_i (.aload_n 0), am_f (.invokevirtual 107) 208 0 false, none, none, am_i (.iload_n 2), am_i .iadd, am_i (.bipush 32), none],
  [am_f (.invokestatic 39) 14 4 false, none, none, am_i (.aload_n 0), am_i (.iconst 0), am_f (.putfield 83) 3 7 false, none, none, am_i .return_]]
/-- 235: TerminalHouse$Glass.setMargins(II)V -/
def am_c235 : List (List (Option am_I)) := [[am_i (.iload_n 1), am_i (.iload_n 2), am_j (.if_icmp .ge 47) 49, none, none, am_i (.iload_n 2), am_i (.aload_n 0), am_f (.getfield 19) 3 0 false, none, none, am_j (.if_icmp .gt 39) 49, none, none, am_i (.aload_n 0), am_i (.iload_n 1), am_i (.iconst 1)],
  [am_i .isub, am_f (.putfield 45) 3 8 false, none, none, am_i (.aload_n 0), am_i (.iload_n 2), am_i (.iconst 1), am_i .isub, am_f (.putfield 48) 3 9 false, none, none, am_i (.aload_n 0), am_i (.aload_n 0), am_i (.bipush 16), none, am_f (.invokevirtual 87) 197 1 false],
  [none, none, am_j (.ifCond .eq 10) 44, none, none, am_i (.aload_n 0), am_f (.getfield 45) 3 8 false, none, none, am_j (.goto 4) 45, none, none, am_i (.iconst 0), am_i (.iconst 0), am_f (.invokevirtual 66) 16 2 false, none],
  [none, am_i .return_]]
/-- 236: TerminalHouse$Terminal.setOrAnswer(II)V -/
def am_c236 : List (List (Option am_I)) := [[am_i (.iload_n 1), am_t (.tableswitch 179 99 113 #[143, 179, 179, 179, 105, 89, 179, 179, 179, 97, 75, 154, 179, 179, 82]) 180 [(99, 144), (100, 180), (101, 180), (102, 180), (103, 106), (104, 90), (105, 180), (106, 180), (107, 180), (108, 98), (109, 76), (110, 155), (111, 180), (112, 180), (113, 83)], none, none, none, none, none, none, none, none, none, none, none, none, none, none],
  [none, none, none, none, none, none, none, none, none, none, none, none, none, none, none, none],
  [none, none, none, none, none, none, none, none, none, none, none, none, none, none, none, none],
  [none, none, none, none, none, none, none, none, none, none, none, none, none, none, none, none],
  [none, none, none, none, none, none, none, none, none, none, none, none, am_i (.aload_n 0), am_f (.invokevirtual 226) 237 0 false, none, none],
  [am_j (.goto 100) 180, none, none, am_i (.aload_n 0), am_f (.invokevirtual 229) 238 0 false, none, none, am_j (.goto 93) 180, none, none, am_i (.aload_n 0), am_i (.iconst 1), am_f (.invokevirtual 232) 239 1 false, none, none, am_j (.goto 85) 180],
  [none, none, am_i (.aload_n 0), am_i (.iconst 0), am_f (.invokevirtual 232) 239 1 false, none, none, am_j (.goto 77) 180, none, none, am_i (.iload_n 2), am_j (.ifCond .ne 22) 129, none, none, am_i (.aload_n 0), am_f (.getfield 35) 8 0 false],
  [none, none, am_f (.getfield 139) 3 4 true, none, none, am_i (.aload_n 0), am_f (.getfield 35) 8 0 false, none, none, am_f (.getfield 100) 3 6 true, none, none, am_i (.iconst 0), am_i .bastore, am_j (.goto 54) 180, none],
  [none, am_i (.iload_n 2), am_i (.iconst 3), am_j (.if_icmp .ne 49) 180, none, none, am_i (.aload_n 0), am_f (.getfield 35) 8 0 false, none, none, am_f (.invokevirtual 236) 240 0 false, none, none, am_j (.goto 39) 180, none, none],
  [am_i (.iload_n 2), am_j (.ifCond .ne 35) 180, none, none, am_i (.aload_n 0), am_f (.invokevirtual 143) 218 0 false, none, none, am_j (.goto 28) 180, none, none, am_i (.iload_n 2), am_i (.iconst 5), am_j (.if_icmp .ne 10) 167, none, none],
  [am_i (.aload_n 0), am_f (.invokevirtual 239) 241 0 false, none, none, am_j (.goto 16) 180, none, none, am_i (.iload_n 2), am_i (.bipush 6), none, am_j (.if_icmp .ne 10) 180, none, none, am_i (.aload_n 0), am_f (.invokevirtual 242) 242 0 false, none],
  [none, am_j (.goto 3) 180, none, none, am_i .return_]]
/-- 237: TerminalHouse$Terminal.dressByNumbers()V -/
def am_c237 : List (List (Option am_I)) := [[am_i (.iconst 0), am_i (.istore_n 1), am_i (.iload_n 1), am_i (.aload_n 0), am_f (.getfield 162) 8 12 false, none, none, am_j (.if_icmp .ge 287) 294, none, none, am_i (.aload_n 0), am_f (.getfield 27) 8 11 false, none, none, am_i (.iload_n 1), am_i .iaload],
  [am_t (.tableswitch 272 0 27 #[128, 139, 272, 272, 155, 171, 272, 187, 272, 272, 272, 272, 272, 272, 272, 272, 272, 272, 272, 272, 272, 272, 204, 272, 221, 238, 272, 255]) 288 [(0, 144), (1, 155), (2, 288), (3, 288), (4, 171), (5, 187), (6, 288), (7, 203), (8, 288), (9, 288), (10, 288), (11, 288), (12, 288), (13, 288), (14, 288), (15, 288), (16, 288), (17, 288), (18, 288), (19, 288), (20, 288), (21, 288), (22, 220), (23, 288), (24, 237), (25, 254), (26, 288), (27, 271)], none, none, none, none, none, none, none, none, none, none, none, none, none, none, none],
  [none, none, none, none, none, none, none, none, none, none, none, none, none, none, none, none],
  [none, none, none, none, none, none, none, none, none, none, none, none, none, none, none, none],
  [none, none, none, none, none, none, none, none, none, none, none, none, none, none, none, none],
  [none, none, none, none, none, none, none, none, none, none, none, none, none, none, none, none],
  [none, none, none, none, none, none, none, none, none, none, none, none, none, none, none, none],
  [none, none, none, none, none, none, none, none, none, none, none, none, none, none, none, none],
  [none, none, none, none, none, none, none, none, none, none, none, none, none, none, none, none],
  [am_i (.aload_n 0), am_f (.getfield 35) 8 0 false, none, none, am_i (.iconst 0), am_f (.putfield 245) 3 11 true, none, none, am_j (.goto 136) 288, none, none, am_i (.aload_n 0), am_f (.getfield 35) 8 0 false, none, none, am_i .dup],
  [am_f (.getfield 245) 3 11 true, none, none, am_i (.iconst 1), am_i .ior, am_f (.putfield 245) 3 11 true, none, none, am_j (.goto 120) 288, none, none, am_i (.aload_n 0), am_f (.getfield 35) 8 0 false, none, none, am_i .dup],
  [am_f (.getfield 245) 3 11 true, none, none, am_i (.iconst 2), am_i .ior, am_f (.putfield 245) 3 11 true, none, none, am_j (.goto 104) 288, none, none, am_i (.aload_n 0), am_f (.getfield 35) 8 0 false, none, none, am_i .dup],
  [am_f (.getfield 245) 3 11 true, none, none, am_i (.iconst 4), am_i .ior, am_f (.putfield 245) 3 11 true, none, none, am_j (.goto 88) 288, none, none, am_i (.aload_n 0), am_f (.getfield 35) 8 0 false, none, none, am_i .dup],
  [am_f (.getfield 245) 3 11 true, none, none, am_i (.bipush 8), none, am_i .ior, am_f (.putfield 245) 3 11 true, none, none, am_j (.goto 71) 288, none, none, am_i (.aload_n 0), am_f (.getfield 35) 8 0 false, none, none],
  [am_i .dup, am_f (.getfield 245) 3 11 true, none, none, am_i (.bipush (-2)), none, am_i .iand, am_f (.putfield 245) 3 11 true, none, none, am_j (.goto 54) 288, none, none, am_i (.aload_n 0), am_f (.getfield 35) 8 0 false, none],
  [none, am_i .dup, am_f (.getfield 245) 3 11 true, none, none, am_i (.bipush (-3)), none, am_i .iand, am_f (.putfield 245) 3 11 true, none, none, am_j (.goto 37) 288, none, none, am_i (.aload_n 0), am_f (.getfield 35) 8 0 false],
  [none, none, am_i .dup, am_f (.getfield 245) 3 11 true, none, none, am_i (.bipush (-5)), none, am_i .iand, am_f (.putfield 245) 3 11 true, none, none, am_j (.goto 20) 288, none, none, am_i (.aload_n 0)],
  [am_f (.getfield 35) 8 0 false, none, none, am_i .dup, am_f (.getfield 245) 3 11 true, none, none, am_i (.bipush (-9)), none, am_i .iand, am_f (.putfield 245) 3 11 true, none, none, am_j (.goto 3) 288, none, none],
  [am_i (.iinc 1 1), none, none, am_j (.goto (-289)) 2, none, none, am_i .return_]]
/-- 238: TerminalHouse$Terminal.lightByNumbers()V -/
def am_c238 : List (List (Option am_I)) := [[am_i (.iconst 0), am_i (.istore_n 1), am_i (.iload_n 1), am_i (.aload_n 0), am_f (.getfield 162) 8 12 false, none, none, am_j (.if_icmp .ge 53) 60, none, none, am_i (.aload_n 0), am_f (.getfield 27) 8 11 false, none, none, am_i (.iload_n 1), am_i .iaload],
  [am_i (.istore_n 2), am_i (.iload_n 2), am_j (.ifCond .ne 14) 32, none, none, am_i (.aload_n 0), am_f (.getfield 35) 8 0 false, none, none, am_i (.iconst 0), am_f (.putfield 248) 3 14 true, none, none, am_j (.goto 25) 54, none, none],
  [am_i (.iload_n 2), am_i (.iconst 4), am_j (.if_icmp .gt 20) 54, none, none, am_i (.aload_n 0), am_f (.getfield 35) 8 0 false, none, none, am_i .dup, am_f (.getfield 248) 3 14 true, none, none, am_i (.iconst 1), am_i (.iload_n 2), am_i (.iconst 1)],
  [am_i .isub, am_i .ishl, am_i .ior, am_f (.putfield 248) 3 14 true, none, none, am_i (.iinc 1 1), none, none, am_j (.goto (-55)) 2, none, none, am_i .return_]]
/-- 239: TerminalHouse$Terminal.turnModes(Z)V -/
def am_c239 : List (List (Option am_I)) := [[am_i (.iconst 0), am_i (.istore_n 2), am_i (.iload_n 2), am_i (.aload_n 0), am_f (.getfield 162) 8 12 false, none, none, am_j (.if_icmp .ge 51) 58, none, none, am_i (.aload_n 0), am_f (.getfield 27) 8 11 false, none, none, am_i (.iload_n 2), am_i .iaload],
  [am_i (.iconst 4), am_j (.if_icmp .ne 15) 32, none, none, am_i (.aload_n 0), am_f (.getfield 35) 8 0 false, none, none, am_i (.iconst 1), am_i (.iload_n 1), am_f (.invokevirtual 149) 216 2 false, none, none, am_j (.goto 23) 52, none, none],
  [am_i (.aload_n 0), am_f (.getfield 27) 8 11 false, none, none, am_i (.iload_n 2), am_i .iaload, am_i (.bipush 20), none, am_j (.if_icmp .ne 12) 52, none, none, am_i (.aload_n 0), am_f (.getfield 35) 8 0 false, none, none, am_i (.iconst 2)],
  [am_i (.iload_n 1), am_f (.invokevirtual 149) 216 2 false, none, none, am_i (.iinc 2 1), none, none, am_j (.goto (-53)) 2, none, none, am_i .return_]]
/-- 240: TerminalHouse$Glass.clearStops()V -/
def am_c240 : List (List (Option am_I)) := [[am_i (.iconst 0), am_i (.istore_n 1), am_i (.iload_n 1), am_i (.aload_n 0), am_f (.getfield 23) 3 1 false, none, none, am_j (.if_icmp .ge 16) 23, none, none, am_i (.aload_n 0), am_f (.getfield 32) 3 4 false, none, none, am_i (.iload_n 1), am_i (.iconst 0)],
  [am_i .bastore, am_i (.iinc 1 1), none, none, am_j (.goto (-18)) 2, none, none, am_i .return_]]
/-- 241: TerminalHouse$Terminal.answerWell()V -/
def am_c241 : List (List (Option am_I)) := [[am_i (.aload_n 0), am_f (.getfield 23) 8 3 false, none, none, am_i (.iconst 0), am_i (.bipush 27), none, am_i .iastore, am_i (.aload_n 0), am_f (.getfield 23) 8 3 false, none, none, am_i (.iconst 1), am_i (.bipush 91), none, am_i .iastore],
  [am_i (.aload_n 0), am_f (.getfield 23) 8 3 false, none, none, am_i (.iconst 2), am_i (.bipush 48), none, am_i .iastore, am_i (.aload_n 0), am_f (.getfield 23) 8 3 false, none, none, am_i (.iconst 3), am_i (.bipush 110), none, am_i .iastore],
  [am_i (.aload_n 0), am_f (.getfield 20) 8 2 false, none, none, am_i (.aload_n 0), am_f (.getfield 23) 8 3 false, none, none, am_i (.iconst 4), am_f (.invokevirtual 254) 201 2 false, none, none, am_i .pop, am_i .return_]]
/-- 242: TerminalHouse$Terminal.answerPlace()V -/
def am_c242 : List (List (Option am_I)) := [[am_i (.aload_n 0), am_f (.getfield 35) 8 0 false, none, none, am_i (.bipush 16), none, am_f (.invokevirtual 109) 197 1 false, none, none, am_j (.ifCond .eq 13) 22, none, none, am_i (.aload_n 0), am_f (.getfield 35) 8 0 false, none, none],
  [am_f (.getfield 258) 3 8 true, none, none, am_j (.goto 4) 23, none, none, am_i (.iconst 0), am_i (.istore_n 1), am_i (.aload_n 0), am_f (.getfield 23) 8 3 false, none, none, am_i (.iconst 0), am_i (.bipush 27), none, am_i .iastore],
  [am_i (.aload_n 0), am_f (.getfield 23) 8 3 false, none, none, am_i (.iconst 1), am_i (.bipush 91), none, am_i .iastore, am_i (.aload_n 0), am_i (.iconst 1), am_i (.aload_n 0), am_f (.getfield 35) 8 0 false, none, none, am_f (.getfield 97) 3 5 true, none],
  [none, am_i (.iload_n 1), am_i .isub, am_i (.iconst 1), am_i .iadd, am_j (.invokestatic 190) 1002, none, none, am_i (.iconst 2), am_f (.invokevirtual 261) 243 2 false, none, none, am_i (.istore_n 2), am_i (.aload_n 0), am_f (.getfield 23) 8 3 false, none],
  [none, am_i (.iload_n 2), am_i (.bipush 59), none, am_i .iastore, am_i (.aload_n 0), am_i (.aload_n 0), am_f (.getfield 35) 8 0 false, none, none, am_f (.getfield 100) 3 6 true, none, none, am_i (.iconst 1), am_i .iadd, am_i (.iload_n 2)],
  [am_i (.iconst 1), am_i .iadd, am_f (.invokevirtual 261) 243 2 false, none, none, am_i (.istore_n 2), am_i (.aload_n 0), am_f (.getfield 23) 8 3 false, none, none, am_i (.iload_n 2), am_i (.bipush 82), none, am_i .iastore, am_i (.aload_n 0), am_f (.getfield 20) 8 2 false],
  [none, none, am_i (.aload_n 0), am_f (.getfield 23) 8 3 false, none, none, am_i (.iload_n 2), am_i (.iconst 1), am_i .iadd, am_f (.invokevirtual 254) 201 2 false, none, none, am_i .pop, am_i .return_]]
/-- 243: TerminalHouse$Terminal.addNumber(II)I -/
def am_c243 : List (List (Option am_I)) := [[am_i (.iload_n 2), am_i (.istore_n 3), am_i (.iload_n 1), am_i (.bipush 10), none, am_j (.if_icmp .lt 22) 27, none, none, am_i (.aload_n 0), am_f (.getfield 23) 8 3 false, none, none, am_i (.iload_n 3), am_i (.bipush 48), none, am_i (.iload_n 1)],
  [am_i (.bipush 10), none, am_i .idiv, am_i (.bipush 10), none, am_i .irem, am_i .iadd, am_i .iastore, am_i (.iinc 3 1), none, none, am_i (.aload_n 0), am_f (.getfield 23) 8 3 false, none, none, am_i (.iload_n 3)],
  [am_i (.bipush 48), none, am_i (.iload_n 1), am_i (.bipush 10), none, am_i .irem, am_i .iadd, am_i .iastore, am_i (.iload_n 3), am_i (.iconst 1), am_i .iadd, am_i .ireturn]]
/-- 244: TerminalHouse$Wire.isFree()Z -/
def am_c244 : List (List (Option am_I)) := [[am_i (.aload_n 0), am_f (.getfield 9) 10 0 false, none, none, am_i (.iconst (-1)), am_j (.if_icmp .ne 7) 12, none, none, am_i (.iconst 1), am_j (.goto 4) 13, none, none, am_i (.iconst 0), am_i .ireturn]]
/-- 245: TerminalHouse$Terminal.nextToSend()I -/
def am_c245 : List (List (Option am_I)) := [[am_i (.aload_n 0), am_f (.getfield 55) 8 4 false, none, none, am_j (.ifCond .ne 10) 14, none, none, am_i (.aload_n 0), am_f (.getfield 61) 8 5 false, none, none, am_j (.ifCond .eq 7) 18, none, none, am_i (.iconst 1), am_j (.goto 4) 19],
  [none, none, am_i (.iconst 0), am_i (.istore_n 1), am_i (.iload_n 1), am_i (.aload_n 0), am_f (.getfield 70) 8 7 false, none, none, am_j (.if_icmp .eq 20) 45, none, none, am_i (.aload_n 0), am_i (.iload_n 1), am_f (.putfield 70) 8 7 false, none],
  [none, am_i (.iload_n 1), am_j (.ifCond .eq 8) 42, none, none, am_i (.bipush 19), none, am_j (.goto 5) 44, none, none, am_i (.bipush 17), none, am_i .ireturn, am_i (.aload_n 0), am_f (.getfield 39) 8 6 false, none],
  [none, am_j (.ifCond .eq 7) 56, none, none, am_i (.iconst (-1)), am_j (.goto 10) 63, none, none, am_i (.aload_n 0), am_f (.getfield 20) 8 2 false, none, none, am_f (.invokevirtual 64) 172 0 false, none, none, am_i .ireturn]]
/-- 246: TerminalHouse$Wire.carry(II)V -/
def am_c246 : List (List (Option am_I)) := [[am_i (.iload_n 1), am_i (.iconst (-1)), am_j (.if_icmp .ne 4) 6, none, none, am_i .return_, am_i (.aload_n 0), am_i (.iload_n 1), am_f (.putfield 9) 10 0 false, none, none, am_i (.aload_n 0), am_i (.iload_n 2), am_f (.putfield 15) 10 1 false, none, none],
  [am_i (.aload_n 0), am_i (.iconst 0), am_f (.putfield 18) 10 2 false, none, none, am_i (.aload_n 0), am_i .dup, am_f (.getfield 22) 10 3 false, none, none, am_i (.iconst 1), am_i .iadd, am_f (.putfield 22) 10 3 false, none, none, am_i .return_]]
/-- 247: TerminalHouse$Discipline.nextToSend()I -/
def am_c247 : List (List (Option am_I)) := [[am_i (.aload_n 0), am_f (.getfield 76) 1 4 false, none, none, am_j (.ifCond .eq 7) 11, none, none, am_i (.iconst (-1)), am_j (.goto 10) 18, none, none, am_i (.aload_n 0), am_f (.getfield 14) 1 0 false, none, none, am_f (.invokevirtual 79) 172 0 false],
  [none, none, am_i .ireturn]]
/-- 248: TerminalHouse.screen(II)I -/
def am_c248 : List (List (Option am_I)) := [[am_i (.aload_n 0), am_f (.getfield 76) 11 9 false, none, none, am_f (.getfield 326) 8 0 true, none, none, am_i (.astore_n 3), am_i (.aload_n 3), am_i (.iload_n 1), am_i (.iload_n 2), am_f (.invokevirtual 330) 249 2 false, none, none, am_j (.ifCond .eq 19) 33, none],
  [none, am_i (.aload_n 3), am_f (.getfield 333) 3 2 true, none, none, am_i (.iload_n 1), am_i (.aload_n 3), am_f (.getfield 334) 3 1 true, none, none, am_i .imul, am_i (.iload_n 2), am_i .iadd, am_i .iaload, am_j (.goto 4) 34, none],
  [none, am_i (.iconst (-1)), am_i .ireturn]]
/-- 249: TerminalHouse$Glass.hasCell(II)Z -/
def am_c249 : List (List (Option am_I)) := [[am_i (.iload_n 1), am_j (.ifCond .lt 27) 28, none, none, am_i (.iload_n 1), am_i (.aload_n 0), am_f (.getfield 19) 3 0 false, none, none, am_j (.if_icmp .ge 19) 28, none, none, am_i (.iload_n 2), am_j (.ifCond .lt 15) 28, none, none],
  [am_i (.iload_n 2), am_i (.aload_n 0), am_f (.getfield 23) 3 1 false, none, none, am_j (.if_icmp .ge 7) 28, none, none, am_i (.iconst 1), am_j (.goto 4) 29, none, none, am_i (.iconst 0), am_i .ireturn]]
/-- 250: TerminalHouse.width(I)I -/
def am_c250 : List (List (Option am_I)) := [[am_i (.aload_n 0), am_f (.getfield 76) 11 9 false, none, none, am_f (.getfield 326) 8 0 true, none, none, am_i (.astore_n 2), am_i (.aload_n 2), am_i (.iload_n 1), am_i (.iconst 0), am_f (.invokevirtual 330) 249 2 false, none, none, am_j (.ifCond .eq 12) 26, none],
  [none, am_i (.aload_n 2), am_f (.getfield 335) 3 3 true, none, none, am_i (.iload_n 1), am_i .iaload, am_j (.goto 4) 27, none, none, am_i (.iconst (-1)), am_i .ireturn]]
/-- 251: TerminalHouse.state(I)I -/
def am_c251 : List (List (Option am_I)) := [[am_i (.iload_n 1), am_i (.bipush 18), none, am_j (.if_icmp .ne 11) 14, none, none, am_i (.aload_n 0), am_f (.getfield 53) 11 10 false, none, none, am_f (.getfield 338) 4 3 true, none, none, am_i .ireturn, am_i (.iload_n 1), am_i (.bipush 9)],
  [none, am_j (.if_icmp .lt 24) 41, none, none, am_i (.iload_n 1), am_i (.bipush 16), none, am_j (.if_icmp .gt 18) 41, none, none, am_i (.iload_n 1), am_i (.bipush 10), none, am_j (.if_icmp .eq 12) 41, none, none],
  [am_i (.aload_n 0), am_f (.getfield 76) 11 9 false, none, none, am_i (.iload_n 1), am_f (.invokevirtual 341) 252 1 false, none, none, am_i .ireturn, am_i (.aload_n 0), am_f (.getfield 76) 11 9 false, none, none, am_f (.getfield 326) 8 0 true, none, none],
  [am_i (.iload_n 1), am_f (.invokevirtual 342) 253 1 false, none, none, am_i .ireturn]]
/-- 252: TerminalHouse$Terminal.tell(I)I -/
def am_c252 : List (List (Option am_I)) := [[am_i (.iload_n 1), am_t (.tableswitch 125 9 16 #[47, 125, 55, 68, 81, 107, 115, 120]) 126 [(9, 48), (10, 126), (11, 56), (12, 69), (13, 82), (14, 108), (15, 116), (16, 121)], none, none, none, none, none, none, none, none, none, none, none, none, none, none],
  [none, none, none, none, none, none, none, none, none, none, none, none, none, none, none, none],
  [none, none, none, none, none, none, none, none, none, none, none, none, none, none, none, none],
  [am_i (.aload_n 0), am_f (.getfield 14) 8 1 false, none, none, am_f (.invokevirtual 51) 163 0 false, none, none, am_i .ireturn, am_i (.aload_n 0), am_f (.getfield 61) 8 5 false, none, none, am_j (.ifCond .eq 7) 67, none, none, am_i (.iconst 1)],
  [am_j (.goto 4) 68, none, none, am_i (.iconst 0), am_i .ireturn, am_i (.aload_n 0), am_f (.getfield 39) 8 6 false, none, none, am_j (.ifCond .eq 7) 80, none, none, am_i (.iconst 1), am_j (.goto 4) 81, none, none],
  [am_i (.iconst 0), am_i .ireturn, am_i (.aload_n 0), am_f (.getfield 55) 8 4 false, none, none, am_j (.ifCond .eq 7) 93, none, none, am_i (.iconst 1), am_j (.goto 4) 94, none, none, am_i (.iconst 0), am_i (.aload_n 0), am_f (.getfield 61) 8 5 false],
  [none, none, am_j (.ifCond .eq 7) 105, none, none, am_i (.iconst 2), am_j (.goto 4) 106, none, none, am_i (.iconst 0), am_i .iadd, am_i .ireturn, am_i (.aload_n 0), am_f (.getfield 20) 8 2 false, none, none],
  [am_f (.invokevirtual 51) 163 0 false, none, none, am_i .ireturn, am_i (.aload_n 0), am_f (.getfield 73) 8 9 false, none, none, am_i .ireturn, am_i (.aload_n 0), am_f (.getfield 47) 8 8 false, none, none, am_i .ireturn, am_i (.iconst (-1)), am_i .ireturn]]
/-- 253: TerminalHouse$Glass.tell(I)I -/
def am_c253 : List (List (Option am_I)) := [[am_i (.iload_n 1), am_t (.tableswitch 150 0 17 #[87, 92, 97, 110, 115, 120, 125, 130, 135, 150, 140, 150, 150, 150, 150, 150, 150, 145]) 151 [(0, 88), (1, 93), (2, 98), (3, 111), (4, 116), (5, 121), (6, 126), (7, 131), (8, 136), (9, 151), (10, 141), (11, 151), (12, 151), (13, 151), (14, 151), (15, 151), (16, 151), (17, 146)], none, none, none, none, none, none, none, none, none, none, none, none, none, none],
  [none, none, none, none, none, none, none, none, none, none, none, none, none, none, none, none],
  [none, none, none, none, none, none, none, none, none, none, none, none, none, none, none, none],
  [none, none, none, none, none, none, none, none, none, none, none, none, none, none, none, none],
  [none, none, none, none, none, none, none, none, none, none, none, none, none, none, none, none],
  [none, none, none, none, none, none, none, none, am_i (.aload_n 0), am_f (.getfield 73) 3 5 false, none, none, am_i .ireturn, am_i (.aload_n 0), am_f (.getfield 76) 3 6 false, none],
  [none, am_i .ireturn, am_i (.aload_n 0), am_f (.getfield 83) 3 7 false, none, none, am_j (.ifCond .eq 7) 109, none, none, am_i (.iconst 1), am_j (.goto 4) 110, none, none, am_i (.iconst 0), am_i .ireturn, am_i (.aload_n 0)],
  [am_f (.getfield 45) 3 8 false, none, none, am_i .ireturn, am_i (.aload_n 0), am_f (.getfield 48) 3 9 false, none, none, am_i .ireturn, am_i (.aload_n 0), am_f (.getfield 54) 3 11 false, none, none, am_i .ireturn, am_i (.aload_n 0), am_f (.getfield 51) 3 10 false],
  [none, none, am_i .ireturn, am_i (.aload_n 0), am_f (.getfield 63) 3 14 false, none, none, am_i .ireturn, am_i (.aload_n 0), am_f (.getfield 128) 3 15 false, none, none, am_i .ireturn, am_i (.aload_n 0), am_f (.getfield 118) 3 16 false, none],
  [none, am_i .ireturn, am_i (.aload_n 0), am_f (.getfield 60) 3 13 false, none, none, am_i .ireturn, am_i (.iconst (-1)), am_i .ireturn]]
/-- 254: TerminalHouse.count(I)I -/
def am_c254 : List (List (Option am_I)) := [[am_i (.iload_n 1), am_t (.tableswitch 252 0 16 #[83, 88, 96, 118, 140, 252, 252, 252, 252, 252, 252, 145, 153, 161, 166, 188, 220]) 253 [(0, 84), (1, 89), (2, 97), (3, 119), (4, 141), (5, 253), (6, 253), (7, 253), (8, 253), (9, 253), (10, 253), (11, 146), (12, 154), (13, 162), (14, 167), (15, 189), (16, 221)], none, none, none, none, none, none, none, none, none, none, none, none, none, none],
  [none, none, none, none, none, none, none, none, none, none, none, none, none, none, none, none],
  [none, none, none, none, none, none, none, none, none, none, none, none, none, none, none, none],
  [none, none, none, none, none, none, none, none, none, none, none, none, none, none, none, none],
  [none, none, none, none, none, none, none, none, none, none, none, none, none, none, none, none],
  [none, none, none, none, am_i (.aload_n 0), am_f (.getfield 298) 11 15 false, none, none, am_i .ireturn, am_i (.aload_n 0), am_f (.getfield 19) 11 4 false, none, none, am_f (.getfield 343) 7 1 true, none, none],
  [am_i .ireturn, am_i (.aload_n 0), am_f (.getfield 118) 11 14 false, none, none, am_j (.ifnonnull 7) 108, none, none, am_i (.iconst 0), am_j (.goto 13) 118, none, none, am_i (.aload_n 0), am_f (.getfield 33) 11 6 false, none, none],
  [am_f (.getfield 170) 6 0 true, none, none, am_f (.getfield 346) 9 4 true, none, none, am_i .ireturn, am_i (.aload_n 0), am_f (.getfield 118) 11 14 false, none, none, am_j (.ifnonnull 7) 130, none, none, am_i (.iconst 0), am_j (.goto 13) 140],
  [none, none, am_i (.aload_n 0), am_f (.getfield 33) 11 6 false, none, none, am_f (.getfield 170) 6 0 true, none, none, am_f (.getfield 223) 9 5 true, none, none, am_i .ireturn, am_i (.aload_n 0), am_f (.invokevirtual 349) 255 0 false, none],
  [none, am_i .ireturn, am_i (.aload_n 0), am_f (.getfield 60) 11 11 false, none, none, am_f (.getfield 352) 10 3 true, none, none, am_i .ireturn, am_i (.aload_n 0), am_f (.getfield 64) 11 12 false, none, none, am_f (.getfield 352) 10 3 true, none],
  [none, am_i .ireturn, am_i (.aload_n 0), am_f (.getfield 85) 11 1 false, none, none, am_i .ireturn, am_i (.aload_n 0), am_f (.getfield 118) 11 14 false, none, none, am_j (.ifnonnull 7) 178, none, none, am_i (.iconst 0), am_j (.goto 13) 188],
  [none, none, am_i (.aload_n 0), am_f (.getfield 33) 11 6 false, none, none, am_f (.getfield 272) 6 1 true, none, none, am_f (.getfield 198) 9 8 true, none, none, am_i .ireturn, am_i (.aload_n 0), am_f (.getfield 118) 11 14 false, none],
  [none, am_j (.ifnull 13) 206, none, none, am_i (.aload_n 0), am_f (.getfield 33) 11 6 false, none, none, am_f (.getfield 355) 6 14 true, none, none, am_j (.ifCond .ne 7) 210, none, none, am_i (.iconst (-1)), am_j (.goto 13) 220],
  [none, none, am_i (.aload_n 0), am_f (.getfield 33) 11 6 false, none, none, am_f (.getfield 272) 6 1 true, none, none, am_f (.getfield 192) 9 6 true, none, none, am_i .ireturn, am_i (.aload_n 0), am_f (.getfield 118) 11 14 false, none],
  [none, am_j (.ifnull 13) 238, none, none, am_i (.aload_n 0), am_f (.getfield 33) 11 6 false, none, none, am_f (.getfield 355) 6 14 true, none, none, am_j (.ifCond .ne 7) 242, none, none, am_i (.iconst (-1)), am_j (.goto 13) 252],
  [none, none, am_i (.aload_n 0), am_f (.getfield 33) 11 6 false, none, none, am_f (.getfield 272) 6 1 true, none, none, am_f (.getfield 195) 9 7 true, none, none, am_i .ireturn, am_i (.aload_n 0), am_f (.getfield 46) 11 8 false, none],
  [none, am_i (.iload_n 1), am_f (.invokevirtual 358) 256 1 false, none, none, am_i .ireturn]]
/-- 255: TerminalHouse.openWindows()I -/
def am_c255 : List (List (Option am_I)) := [[am_i (.iconst 0), am_i (.istore_n 1), am_i (.iconst 0), am_i (.istore_n 2), am_i (.iload_n 2), am_i (.bipush 8), none, am_j (.if_icmp .ge 24) 31, none, none, am_i (.aload_n 0), am_f (.getfield 39) 11 7 false, none, none, am_i (.iload_n 2), am_i .aaload],
  [am_f (.getfield 178) 9 1 true, none, none, am_j (.ifCond .eq 6) 25, none, none, am_i (.iinc 1 1), none, none, am_i (.iinc 2 1), none, none, am_j (.goto (-24)) 4, none, none, am_i (.iload_n 1)],
  [am_i .ireturn]]
/-- 256: TerminalHouse$Discipline.tell(I)I -/
def am_c256 : List (List (Option am_I)) := [[am_i (.iload_n 1), am_t (.tableswitch 128 5 18 #[71, 79, 92, 100, 108, 113, 128, 128, 128, 128, 128, 128, 118, 123]) 129 [(5, 72), (6, 80), (7, 93), (8, 101), (9, 109), (10, 114), (11, 129), (12, 129), (13, 129), (14, 129), (15, 129), (16, 129), (17, 119), (18, 124)], none, none, none, none, none, none, none, none, none, none, none, none, none, none],
  [none, none, none, none, none, none, none, none, none, none, none, none, none, none, none, none],
  [none, none, none, none, none, none, none, none, none, none, none, none, none, none, none, none],
  [none, none, none, none, none, none, none, none, none, none, none, none, none, none, none, none],
  [none, none, none, none, none, none, none, none, am_i (.aload_n 0), am_f (.getfield 14) 1 0 false, none, none, am_f (.invokevirtual 34) 163 0 false, none, none, am_i .ireturn],
  [am_i (.aload_n 0), am_f (.getfield 76) 1 4 false, none, none, am_j (.ifCond .eq 7) 91, none, none, am_i (.iconst 1), am_j (.goto 4) 92, none, none, am_i (.iconst 0), am_i .ireturn, am_i (.aload_n 0), am_f (.getfield 20) 1 1 false, none],
  [none, am_f (.invokevirtual 34) 163 0 false, none, none, am_i .ireturn, am_i (.aload_n 0), am_f (.getfield 23) 1 2 false, none, none, am_f (.invokevirtual 34) 163 0 false, none, none, am_i .ireturn, am_i (.aload_n 0), am_f (.getfield 91) 1 6 false, none],
  [none, am_i .ireturn, am_i (.aload_n 0), am_f (.getfield 55) 1 7 false, none, none, am_i .ireturn, am_i (.aload_n 0), am_f (.getfield 26) 1 3 false, none, none, am_i .ireturn, am_i (.aload_n 0), am_f (.getfield 62) 1 9 false, none, none],
  [am_i .ireturn, am_i (.iconst (-1)), am_i .ireturn]]
/-- 257: TerminalHouse.stop(II)I -/
def am_c257 : List (List (Option am_I)) := [[am_i (.aload_n 0), am_f (.getfield 76) 11 9 false, none, none, am_f (.getfield 326) 8 0 true, none, none, am_i (.astore_n 3), am_i (.aload_n 3), am_i (.iload_n 1), am_i (.iload_n 2), am_f (.invokevirtual 330) 249 2 false, none, none, am_j (.ifCond .ne 5) 19, none],
  [none, am_i (.iconst (-1)), am_i .ireturn, am_i (.aload_n 3), am_f (.getfield 359) 3 4 true, none, none, am_i (.iload_n 2), am_i .baload, am_j (.ifCond .eq 7) 32, none, none, am_i (.iconst 1), am_j (.goto 4) 33, none, none],
  [am_i (.iconst 0), am_i .ireturn]]
/-- 258: TerminalHouseLaw.cell([II)I -/
def am_c258 : List (List (Option am_I)) := [[am_i (.iload_n 1), am_i (.aload_n 0), am_i .arraylength, am_j (.if_icmp .ge 9) 12, none, none, am_i (.aload_n 0), am_i (.iload_n 1), am_i .iaload, am_j (.goto 4) 13, none, none, am_i (.iconst 0), am_i .ireturn]]
/-- 259: TerminalHouse.octet(I)I -/
def am_c259 : List (List (Option am_I)) := [[am_i (.iload_n 1), am_j (.ifCond .lt 11) 12, none, none, am_i (.iload_n 1), am_i (.aload_n 0), am_f (.getfield 92) 11 3 false, none, none, am_j (.if_icmp .lt 11) 20, none, none, none, none, none, am_i .dup],
  [none, none, none, none, am_i (.aload_n 0), am_f (.getfield 13) 11 2 false, none, none, am_i (.iload_n 1), am_i .iaload, am_i .ireturn]]
/-- 260: TerminalHouseModel.thrown()I -/
def am_c260 : List (List (Option am_I)) := [[am_i (.aload_n 0), am_f (.getfield 1) 12 0 false, none, none, am_i .ireturn]]
/-- 261: TerminalHouseModel.feed(IIIII)Z -/
def am_c261 : List (List (Option am_I)) := [[am_i (.aload_n 0), am_i (.iconst 0), am_f (.putfield 1) 12 0 false, none, none, am_i (.aload_n 0), am_f (.getfield 7) 12 2 false, none, none, am_i (.bipush 20), none, am_i .iadd, am_i (.sipush 3000), none, none, am_j (.if_icmp .le 5) 20],
  [none, none, am_i (.iconst 0), am_i .ireturn, am_i (.iconst 0), am_i (.istore 6), none, am_i (.iload 6), none, am_i (.bipush 20), none, am_j (.if_icmp .ge 82) 109, none, none, am_i (.iload 6), none],
  [am_i (.iconst 4), am_j (.if_icmp .ge 7) 40, none, none, am_i (.iload_n 1), am_j (.goto 39) 76, none, none, am_i (.iload 6), none, am_i (.bipush 8), none, am_j (.if_icmp .ge 7) 51, none, none, am_i (.iload_n 2)],
  [am_j (.goto 28) 76, none, none, am_i (.iload 6), none, am_i (.bipush 12), none, am_j (.if_icmp .ge 7) 62, none, none, am_i (.iload_n 3), am_j (.goto 17) 76, none, none, am_i (.iload 6), none],
  [am_i (.bipush 16), none, am_j (.if_icmp .ge 8) 74, none, none, am_i (.iload 4), none, am_j (.goto 5) 76, none, none, am_i (.iload 5), none, am_i (.istore 7), none, am_i (.aload_n 0), am_f (.getfield 10) 12 1 false],
  [none, none, am_i (.aload_n 0), am_f (.getfield 7) 12 2 false, none, none, am_i (.iload 6), none, am_i .iadd, am_i (.iload 7), none, am_i (.bipush 8), none, am_i (.iconst 3), am_i (.iload 6), none],
  [am_i (.iconst 4), am_i .irem, am_i .isub, am_i .imul, am_i .ishr, am_i .i2b, am_i .bastore, am_i (.iinc 6 1), none, none, am_j (.goto (-83)) 23, none, none, am_i (.aload_n 0), am_i .dup, am_f (.getfield 7) 12 2 false],
  [none, none, am_i (.bipush 20), none, am_i .iadd, am_f (.putfield 7) 12 2 false, none, none, am_i (.iconst 1), am_i .ireturn]]
/-- 262: TerminalHouseModel.end(I)Z -/
def am_c262 : List (List (Option am_I)) := [[am_i (.aload_n 0), am_i (.iconst 0), am_f (.putfield 1) 12 0 false, none, none, am_i (.iload_n 1), am_j (.ifCond .lt 11) 17, none, none, am_i (.iload_n 1), am_i (.aload_n 0), am_f (.getfield 7) 12 2 false, none, none, am_j (.if_icmp .le 5) 19, none],
  [none, am_i (.iconst 0), am_i .ireturn, am_i (.aload_n 0), am_i (.iload_n 1), am_f (.putfield 7) 12 2 false, none, none, am_i (.iconst 1), am_i .ireturn]]
/-- 263: TerminalHouseModel.octet(I)I -/
def am_c263 : List (List (Option am_I)) := [[am_i (.aload_n 0), am_i (.iload_n 1), am_j (.ifCond .lt 11) 13, none, none, am_i (.iload_n 1), am_i (.aload_n 0), am_f (.getfield 14) 12 4 false, none, none, am_j (.if_icmp .lt 7) 17, none, none, am_i (.iconst 1), am_j (.goto 4) 18, none],
  [none, am_i (.iconst 0), am_f (.putfield 1) 12 0 false, none, none, am_i (.aload_n 0), am_f (.getfield 1) 12 0 false, none, none, am_j (.ifCond .le 7) 32, none, none, am_i (.iconst 0), am_j (.goto 13) 42, none, none],
  [am_i (.aload_n 0), am_f (.getfield 17) 12 3 false, none, none, am_i (.iload_n 1), am_i .baload, am_i (.sipush 255), none, none, am_i .iand, am_i .ireturn]]
/-- 264: TerminalHouseModel.describe()I -/
def am_c264 : List (List (Option am_I)) := [[am_i (.aload_n 0), am_i (.iconst 0), am_f (.putfield 1) 12 0 false, none, none, am_i (.aload_n 0), am_i (.aload_n 0), am_f (.getfield 7) 12 2 false, none, none, am_f (.putfield 20) 12 16 false, none, none, am_i (.aload_n 0), am_i (.iconst 0), am_f (.putfield 7) 12 2 false],
  [none, none, am_i (.aload_n 0), am_i (.iconst 0), am_f (.putfield 36) 12 15 false, none, none, am_i (.aload_n 0), am_i (.iconst 0), am_f (.putfield 30) 12 13 false, none, none, am_i (.aload_n 0), am_i (.iconst (-1)), am_f (.putfield 33) 12 14 false, none],
  [none, am_i (.aload_n 0), am_i (.aload_n 0), am_f (.getfield 71) 12 5 false, none, none, am_i (.iconst 1), am_i .isub, am_f (.putfield 74) 12 17 false, none, none, am_i (.aload_n 0), am_f (.getfield 71) 12 5 false, none, none, am_i (.istore_n 1)],
  [am_i (.iconst 1), am_i (.istore_n 2), am_i (.iload_n 2), am_j (.ifCond .eq 23) 74, none, none, am_i (.aload_n 0), am_f (.getfield 36) 12 15 false, none, none, am_i (.aload_n 0), am_f (.getfield 20) 12 16 false, none, none, am_j (.if_icmp .ge 12) 74, none],
  [none, am_i (.aload_n 0), am_i (.iload_n 1), am_f (.invokevirtual 77) 265 1 false, none, none, am_i (.istore_n 2), am_j (.goto (-21)) 50, none, none, am_i (.iload_n 2), am_j (.ifCond .ne 5) 80, none, none, am_i (.iconst (-1)), am_i .ireturn],
  [am_i (.aload_n 0), am_f (.getfield 74) 12 17 false, none, none, am_i (.iload_n 1), am_j (.if_icmp .lt 7) 92, none, none, am_i (.aload_n 0), am_f (.invokevirtual 80) 289 0 false, none, none, am_i (.aload_n 0), am_i (.aload_n 0), am_f (.getfield 74) 12 17 false, none],
  [none, am_i (.iconst 1), am_i .iadd, am_f (.putfield 71) 12 5 false, none, none, am_i (.aload_n 0), am_f (.getfield 71) 12 5 false, none, none, am_i .ireturn]]
/-- 265: TerminalHouseModel.line(I)Z -/
def am_c265 : List (List (Option am_I)) := [[am_i (.aload_n 0), am_i (.aload_n 0), am_f (.getfield 36) 12 15 false, none, none, am_f (.invokevirtual 39) 266 1 false, none, none, am_i (.istore_n 2), am_i (.iload_n 2), am_f (.invokestatic 46) 267 1 false, none, none, am_j (.ifCond .eq 55) 68, none, none],
  [am_i (.aload_n 0), am_f (.invokevirtual 84) 268 0 false, none, none, am_i (.aload_n 0), am_i (.aload_n 0), am_f (.getfield 36) 12 15 false, none, none, am_f (.invokevirtual 87) 269 1 false, none, none, am_j (.ifCond .eq 15) 43, none, none, am_i (.aload_n 0)],
  [am_i .dup, am_f (.getfield 36) 12 15 false, none, none, am_i (.iconst 1), am_i .iadd, am_f (.putfield 36) 12 15 false, none, none, am_i (.iconst 1), am_i .ireturn, am_i (.aload_n 0), am_f (.getfield 74) 12 17 false, none, none, am_i (.iload_n 1)],
  [am_j (.if_icmp .ge 15) 63, none, none, am_i (.aload_n 0), am_i (.iconst 1), am_i (.aload_n 0), am_f (.getfield 36) 12 15 false, none, none, am_f (.invokevirtual 90) 270 2 false, none, none, am_j (.goto 7) 67, none, none, am_i (.aload_n 0)],
  [am_f (.invokevirtual 94) 271 0 false, none, none, am_i .ireturn, am_i (.iload_n 2), am_i (.bipush 35), none, am_j (.if_icmp .ne 51) 122, none, none, am_i (.aload_n 0), am_i (.aload_n 0), am_f (.getfield 36) 12 15 false, none, none, am_f (.invokevirtual 87) 269 1 false],
  [none, none, am_j (.ifCond .ne 40) 122, none, none, am_i (.aload_n 0), am_i (.aload_n 0), am_f (.getfield 36) 12 15 false, none, none, am_f (.invokevirtual 39) 266 1 false, none, none, am_f (.invokestatic 43) 276 1 false, none, none],
  [am_j (.ifCond .ne 13) 109, none, none, am_i (.aload_n 0), am_i (.iconst 1), am_i (.aload_n 0), am_f (.getfield 36) 12 15 false, none, none, am_f (.invokevirtual 90) 270 2 false, none, none, am_i .ireturn, am_i (.aload_n 0), am_i .dup, am_f (.getfield 36) 12 15 false],
  [none, none, am_i (.iconst 1), am_i .iadd, am_f (.putfield 36) 12 15 false, none, none, am_j (.goto (-45)) 74, none, none, am_i (.aload_n 0), am_i (.aload_n 0), am_f (.getfield 36) 12 15 false, none, none, am_f (.invokevirtual 87) 269 1 false],
  [none, none, am_j (.ifCond .eq 15) 145, none, none, am_i (.aload_n 0), am_i .dup, am_f (.getfield 36) 12 15 false, none, none, am_i (.iconst 1), am_i .iadd, am_f (.putfield 36) 12 15 false, none, none, am_i (.iconst 1)],
  [am_i .ireturn, am_i (.aload_n 0), am_f (.getfield 74) 12 17 false, none, none, am_i (.iload_n 1), am_j (.if_icmp .lt 7) 157, none, none, am_i (.aload_n 0), am_f (.invokevirtual 80) 289 0 false, none, none, am_i (.aload_n 0), am_f (.invokevirtual 98) 290 0 false, none],
  [none, am_i .ireturn]]
/-- 266: TerminalHouseModel.here(I)I -/
def am_c266 : List (List (Option am_I)) := [[am_i (.iload_n 1), am_i (.aload_n 0), am_f (.getfield 20) 12 16 false, none, none, am_j (.if_icmp .ge 16) 21, none, none, am_i (.aload_n 0), am_f (.getfield 10) 12 1 false, none, none, am_i (.iload_n 1), am_i .baload, am_i (.sipush 255), none],
  [none, am_i .iand, am_j (.goto 4) 22, none, none, am_i (.iconst (-1)), am_i .ireturn]]
/-- 267: TerminalHouseModel.isBlank(I)Z -/
def am_c267 : List (List (Option am_I)) := [[am_i (.iload_n 0), am_i (.bipush 9), none, am_j (.if_icmp .eq 9) 12, none, none, am_i (.iload_n 0), am_i (.bipush 32), none, am_j (.if_icmp .ne 7) 16, none, none, am_i (.iconst 1), am_j (.goto 4) 17, none, none],
  [am_i (.iconst 0), am_i .ireturn]]
/-- 268: TerminalHouseModel.blanks()V -/
def am_c268 : List (List (Option am_I)) := [[am_i (.aload_n 0), am_i (.aload_n 0), am_f (.getfield 36) 12 15 false, none, none, am_f (.invokevirtual 39) 266 1 false, none, none, am_f (.invokestatic 46) 267 1 false, none, none, am_j (.ifCond .eq 16) 27, none, none, am_i (.aload_n 0), am_i .dup],
  [am_f (.getfield 36) 12 15 false, none, none, am_i (.iconst 1), am_i .iadd, am_f (.putfield 36) 12 15 false, none, none, am_j (.goto (-24)) 0, none, none, am_i .return_]]
/-- 269: TerminalHouseModel.ends(I)Z -/
def am_c269 : List (List (Option am_I)) := [[am_i (.iload_n 1), am_i (.aload_n 0), am_f (.getfield 20) 12 16 false, none, none, am_j (.if_icmp .ge 14) 19, none, none, am_i (.aload_n 0), am_f (.getfield 10) 12 1 false, none, none, am_i (.iload_n 1), am_i .baload, am_i (.bipush 10), none],
  [am_j (.if_icmp .ne 7) 23, none, none, am_i (.iconst 1), am_j (.goto 4) 24, none, none, am_i (.iconst 0), am_i .ireturn]]
/-- 270: TerminalHouseModel.fails(II)Z -/
def am_c270 : List (List (Option am_I)) := [[am_i (.aload_n 0), am_i (.iload_n 1), am_f (.putfield 30) 12 13 false, none, none, am_i (.aload_n 0), am_i (.iload_n 2), am_f (.putfield 33) 12 14 false, none, none, am_i (.iconst 0), am_i .ireturn]]
/-- 271: TerminalHouseModel.fields()Z -/
def am_c271 : List (List (Option am_I)) := [[am_i (.iconst 1), am_i (.istore_n 1), am_i (.iload_n 1), am_j (.ifCond .eq 67) 70, none, none, am_i (.aload_n 0), am_i (.aload_n 0), am_f (.getfield 36) 12 15 false, none, none, am_f (.invokevirtual 87) 269 1 false, none, none, am_j (.ifCond .ne 56) 70, none],
  [none, am_i (.aload_n 0), am_f (.invokevirtual 120) 272 0 false, none, none, am_i (.istore_n 1), am_i (.iload_n 1), am_j (.ifCond .eq 26) 49, none, none, am_i (.aload_n 0), am_i (.aload_n 0), am_f (.getfield 36) 12 15 false, none, none, am_f (.invokevirtual 39) 266 1 false],
  [none, none, am_i (.bipush 44), none, am_j (.if_icmp .eq 13) 49, none, none, am_i (.aload_n 0), am_i (.iconst 1), am_i (.aload_n 0), am_f (.getfield 36) 12 15 false, none, none, am_f (.invokevirtual 90) 270 2 false, none, none],
  [am_i (.istore_n 1), am_i (.aload_n 0), am_i .dup, am_f (.getfield 36) 12 15 false, none, none, am_i (.iconst 1), am_i .iadd, am_f (.putfield 36) 12 15 false, none, none, am_i (.iload_n 1), am_j (.ifCond .eq (-58)) 2, none, none, am_i (.aload_n 0)],
  [am_f (.invokevirtual 84) 268 0 false, none, none, am_j (.goto (-65)) 2, none, none, am_i (.aload_n 0), am_i .dup, am_f (.getfield 36) 12 15 false, none, none, am_i (.iconst 1), am_i .iadd, am_f (.putfield 36) 12 15 false, none, none],
  [am_i (.iload_n 1), am_i .ireturn]]
/-- 272: TerminalHouseModel.field()Z -/
def am_c272 : List (List (Option am_I)) := [[am_i (.aload_n 0), am_f (.getfield 36) 12 15 false, none, none, am_i (.istore_n 1), am_i (.aload_n 0), am_i (.aload_n 0), am_f (.getfield 36) 12 15 false, none, none, am_f (.invokevirtual 39) 266 1 false, none, none, am_f (.invokestatic 23) 273 1 false, none, none],
  [am_j (.ifCond .ne 13) 29, none, none, am_i (.aload_n 0), am_i (.iconst 1), am_i (.aload_n 0), am_f (.getfield 36) 12 15 false, none, none, am_f (.invokevirtual 90) 270 2 false, none, none, am_i .ireturn, am_i (.aload_n 0), am_i (.aload_n 0), am_f (.getfield 36) 12 15 false],
  [none, none, am_f (.invokevirtual 39) 266 1 false, none, none, am_f (.invokestatic 23) 273 1 false, none, none, am_j (.ifCond .ne 17) 57, none, none, am_i (.aload_n 0), am_i (.aload_n 0), am_f (.getfield 36) 12 15 false, none, none],
  [am_f (.invokevirtual 39) 266 1 false, none, none, am_f (.invokestatic 27) 274 1 false, none, none, am_j (.ifCond .eq 16) 70, none, none, am_i (.aload_n 0), am_i .dup, am_f (.getfield 36) 12 15 false, none, none, am_i (.iconst 1), am_i .iadd],
  [am_f (.putfield 36) 12 15 false, none, none, am_j (.goto (-38)) 29, none, none, am_i (.aload_n 0), am_f (.getfield 36) 12 15 false, none, none, am_i (.iload_n 1), am_i .isub, am_i (.istore_n 2), am_i (.aload_n 0), am_f (.invokevirtual 110) 275 0 false, none],
  [none, am_j (.ifCond .eq 13) 94, none, none, am_i (.aload_n 0), am_i (.iconst 1), am_i (.aload_n 0), am_f (.getfield 36) 12 15 false, none, none, am_f (.invokevirtual 90) 270 2 false, none, none, am_i .ireturn, am_i (.iload_n 2), am_i (.iconst 5)],
  [am_j (.if_icmp .le 10) 106, none, none, am_i (.aload_n 0), am_i (.iconst 2), am_i (.iload_n 1), am_f (.invokevirtual 90) 270 2 false, none, none, am_i .ireturn, am_i (.iload_n 2), am_i (.iconst 3), am_j (.if_icmp .ne 58) 166, none, none, am_i (.aload_n 0)],
  [am_f (.getfield 10) 12 1 false, none, none, am_i (.iload_n 1), am_i .baload, am_i (.bipush 117), none, am_j (.if_icmp .ne 47) 166, none, none, am_i (.aload_n 0), am_f (.getfield 10) 12 1 false, none, none, am_i (.iload_n 1), am_i (.iconst 1)],
  [am_i .iadd, am_i .baload, am_i (.bipush 115), none, am_j (.if_icmp .ne 34) 166, none, none, am_i (.aload_n 0), am_f (.getfield 10) 12 1 false, none, none, am_i (.iload_n 1), am_i (.iconst 2), am_i .iadd, am_i .baload, am_i (.bipush 101)],
  [none, am_j (.if_icmp .ne 21) 166, none, none, am_i (.aload_n 0), am_i (.aload_n 0), am_f (.getfield 36) 12 15 false, none, none, am_f (.invokevirtual 39) 266 1 false, none, none, am_i (.bipush 61), none, am_j (.if_icmp .ne 8) 166, none],
  [none, am_i (.aload_n 0), am_f (.invokevirtual 123) 277 0 false, none, none, am_i .ireturn, am_i (.aload_n 0), am_i (.iload_n 1), am_i (.iload_n 2), am_f (.invokevirtual 126) 281 2 false, none, none, am_i (.istore_n 3), am_i (.iload_n 3), am_i (.iconst (-1)), am_j (.if_icmp .ne 10) 185],
  [none, none, am_i (.aload_n 0), am_i (.iconst 4), am_i (.iload_n 1), am_f (.invokevirtual 90) 270 2 false, none, none, am_i .ireturn, am_i (.bipush 39), none, am_i (.aload_n 0), am_f (.getfield 74) 12 17 false, none, none, am_i .imul],
  [am_i (.iload_n 3), am_i .iadd, am_i (.istore 4), none, am_i (.aload_n 0), am_f (.getfield 107) 12 9 false, none, none, am_i (.iload 4), none, am_i .baload, am_j (.ifCond .eq 11) 214, none, none, am_i (.aload_n 0), am_i (.bipush 6)],
  [none, am_i (.iload_n 1), am_f (.invokevirtual 90) 270 2 false, none, none, am_i .ireturn, am_i (.iload_n 3), am_i (.iconst 3), am_j (.if_icmp .ge 7) 223, none, none, am_i (.iconst 0), am_j (.goto 14) 234, none, none, am_i (.iload_n 3)],
  [am_i (.bipush 6), none, am_j (.if_icmp .ge 7) 233, none, none, am_i (.iconst 1), am_j (.goto 4) 234, none, none, am_i (.iconst 2), am_i (.istore 5), none, am_i (.aload_n 0), am_i (.aload_n 0), am_f (.getfield 36) 12 15 false, none],
  [none, am_f (.invokevirtual 39) 266 1 false, none, none, am_i (.istore 6), none, am_i (.iload 6), none, am_i (.bipush 44), none, am_j (.if_icmp .ne 7) 257, none, none, am_i (.iconst 0), am_j (.goto 38) 292, none],
  [none, am_i (.iload 6), none, am_i (.bipush 35), none, am_j (.if_icmp .ne 7) 268, none, none, am_i (.iconst 1), am_j (.goto 27) 292, none, none, am_i (.iload 6), none, am_i (.bipush 61), none],
  [am_j (.if_icmp .ne 7) 279, none, none, am_i (.iconst 2), am_j (.goto 16) 292, none, none, am_i (.iload 6), none, am_i (.bipush 64), none, am_j (.if_icmp .ne 8) 291, none, none, am_i (.iload 5), none],
  [am_j (.goto 4) 292, none, none, am_i (.iconst (-1)), am_i (.istore 7), none, am_i (.iload 7), none, am_i (.iconst (-1)), am_j (.if_icmp .ne 13) 310, none, none, am_i (.aload_n 0), am_i (.iconst 1), am_i (.aload_n 0), am_f (.getfield 36) 12 15 false],
  [none, none, am_f (.invokevirtual 90) 270 2 false, none, none, am_i .ireturn, am_i (.iload 7), none, am_i (.iload 5), none, am_j (.if_icmp .eq 13) 327, none, none, am_i (.aload_n 0), am_i (.iconst 5), am_i (.aload_n 0)],
  [am_f (.getfield 36) 12 15 false, none, none, am_f (.invokevirtual 90) 270 2 false, none, none, am_i .ireturn, am_i (.aload_n 0), am_f (.getfield 107) 12 9 false, none, none, am_i (.iload 4), none, am_i (.iload 6), none, am_i (.bipush 64)],
  [none, am_j (.if_icmp .ne 7) 344, none, none, am_i (.iconst 2), am_j (.goto 4) 345, none, none, am_i (.iconst 1), am_i .i2b, am_i .bastore, am_i (.iload 6), none, am_i (.bipush 44), none, am_j (.if_icmp .eq 13) 364],
  [none, none, am_i (.aload_n 0), am_i .dup, am_f (.getfield 36) 12 15 false, none, none, am_i (.iconst 1), am_i .iadd, am_f (.putfield 36) 12 15 false, none, none, am_i (.iload 6), none, am_i (.bipush 35), none],
  [am_j (.if_icmp .ne 12) 380, none, none, am_i (.aload_n 0), am_i (.iload 4), none, am_f (.invokevirtual 130) 282 1 false, none, none, am_j (.goto 20) 397, none, none, am_i (.iload 6), none, am_i (.bipush 61), none],
  [am_j (.if_icmp .ne 12) 396, none, none, am_i (.aload_n 0), am_i (.iload 4), none, am_f (.invokevirtual 133) 283 1 false, none, none, am_j (.goto 4) 397, none, none, am_i (.iconst 1), am_i .ireturn]]
/-- 273: TerminalHouseModel.isLetter(I)Z -/
def am_c273 : List (List (Option am_I)) := [[am_i (.iload_n 0), am_i (.bipush 97), none, am_j (.if_icmp .lt 13) 16, none, none, am_i (.iload_n 0), am_i (.bipush 122), none, am_j (.if_icmp .gt 7) 16, none, none, am_i (.iconst 1), am_j (.goto 4) 17, none, none],
  [am_i (.iconst 0), am_i .ireturn]]
/-- 274: TerminalHouseModel.isDigit(I)Z -/
def am_c274 : List (List (Option am_I)) := [[am_i (.iload_n 0), am_i (.bipush 48), none, am_j (.if_icmp .lt 13) 16, none, none, am_i (.iload_n 0), am_i (.bipush 57), none, am_j (.if_icmp .gt 7) 16, none, none, am_i (.iconst 1), am_j (.goto 4) 17, none, none],
  [am_i (.iconst 0), am_i .ireturn]]
/-- 275: TerminalHouseModel.isNone()Z -/
def am_c275 : List (List (Option am_I)) := [[am_i (.aload_n 0), am_f (.getfield 36) 12 15 false, none, none, am_i (.aload_n 0), am_f (.getfield 20) 12 16 false, none, none, am_j (.if_icmp .ge 21) 29, none, none, am_i (.aload_n 0), am_i (.aload_n 0), am_f (.getfield 36) 12 15 false, none, none],
  [am_f (.invokevirtual 39) 266 1 false, none, none, am_f (.invokestatic 43) 276 1 false, none, none, am_j (.ifCond .ne 7) 29, none, none, am_i (.iconst 1), am_j (.goto 4) 30, none, none, am_i (.iconst 0), am_i .ireturn]]
/-- 276: TerminalHouseModel.isText(I)Z -/
def am_c276 : List (List (Option am_I)) := [[am_i (.iload_n 0), am_i (.bipush 9), none, am_j (.if_icmp .eq 21) 24, none, none, am_i (.iload_n 0), am_i (.bipush 10), none, am_j (.if_icmp .eq 15) 24, none, none, am_i (.iload_n 0), am_i (.bipush 32), none, am_j (.if_icmp .lt 13) 28],
  [none, none, am_i (.iload_n 0), am_i (.bipush 126), none, am_j (.if_icmp .gt 7) 28, none, none, am_i (.iconst 1), am_j (.goto 4) 29, none, none, am_i (.iconst 0), am_i .ireturn]]
/-- 277: TerminalHouseModel.useOf()Z -/
def am_c277 : List (List (Option am_I)) := [[am_i (.aload_n 0), am_i .dup, am_f (.getfield 36) 12 15 false, none, none, am_i (.iconst 1), am_i .iadd, am_f (.putfield 36) 12 15 false, none, none, am_i (.aload_n 0), am_f (.getfield 36) 12 15 false, none, none, am_i (.istore_n 1), am_i (.aload_n 0)],
  [am_i (.aload_n 0), am_f (.getfield 36) 12 15 false, none, none, am_f (.invokevirtual 39) 266 1 false, none, none, am_f (.invokestatic 101) 278 1 false, none, none, am_j (.ifCond .eq 16) 42, none, none, am_i (.aload_n 0), am_i .dup, am_f (.getfield 36) 12 15 false],
  [none, none, am_i (.iconst 1), am_i .iadd, am_f (.putfield 36) 12 15 false, none, none, am_j (.goto (-24)) 15, none, none, am_i (.aload_n 0), am_f (.getfield 36) 12 15 false, none, none, am_i (.iload_n 1), am_j (.if_icmp .eq 10) 57],
  [none, none, am_i (.aload_n 0), am_f (.invokevirtual 110) 275 0 false, none, none, am_j (.ifCond .eq 13) 67, none, none, am_i (.aload_n 0), am_i (.iconst 1), am_i (.aload_n 0), am_f (.getfield 36) 12 15 false, none, none, am_f (.invokevirtual 90) 270 2 false],
  [none, none, am_i .ireturn, am_i (.aload_n 0), am_f (.getfield 36) 12 15 false, none, none, am_i (.iload_n 1), am_i .isub, am_i (.bipush 12), none, am_j (.if_icmp .le 10) 85, none, none, am_i (.aload_n 0), am_i (.iconst 2)],
  [am_i (.iload_n 1), am_f (.invokevirtual 90) 270 2 false, none, none, am_i .ireturn, am_i (.aload_n 0), am_f (.getfield 104) 12 19 false, none, none, am_i (.iconst 4), am_j (.if_icmp .ne 11) 101, none, none, am_i (.aload_n 0), am_i (.bipush 11), none],
  [am_i (.iload_n 1), am_f (.invokevirtual 90) 270 2 false, none, none, am_i .ireturn, am_i (.aload_n 0), am_i (.aload_n 0), am_f (.getfield 10) 12 1 false, none, none, am_i (.iload_n 1), am_i (.aload_n 0), am_f (.getfield 36) 12 15 false, none, none, am_i (.iload_n 1)],
  [am_i .isub, am_i (.aload_n 0), am_f (.getfield 74) 12 17 false, none, none, am_f (.invokevirtual 113) 279 4 false, none, none, am_i (.istore_n 2), am_i (.iload_n 2), am_i (.iconst (-1)), am_j (.if_icmp .ne 11) 134, none, none, am_i (.aload_n 0), am_i (.bipush 9)],
  [none, am_i (.iload_n 1), am_f (.invokevirtual 90) 270 2 false, none, none, am_i .ireturn, am_i (.aload_n 0), am_f (.getfield 153) 12 18 false, none, none, am_i (.aload_n 0), am_f (.getfield 104) 12 19 false, none, none, am_i (.iload_n 2), am_i .iastore],
  [am_i (.aload_n 0), am_i .dup, am_f (.getfield 104) 12 19 false, none, none, am_i (.iconst 1), am_i .iadd, am_f (.putfield 104) 12 19 false, none, none, am_i (.iconst 1), am_i .ireturn]]
/-- 278: TerminalHouseModel.isOfName(I)Z -/
def am_c278 : List (List (Option am_I)) := [[am_i (.iload_n 0), am_f (.invokestatic 23) 273 1 false, none, none, am_j (.ifCond .ne 22) 26, none, none, am_i (.iload_n 0), am_f (.invokestatic 27) 274 1 false, none, none, am_j (.ifCond .ne 15) 26, none, none, am_i (.iload_n 0), am_i (.bipush 45)],
  [none, am_j (.if_icmp .eq 9) 26, none, none, am_i (.iload_n 0), am_i (.bipush 43), none, am_j (.if_icmp .ne 7) 30, none, none, am_i (.iconst 1), am_j (.goto 4) 31, none, none, am_i (.iconst 0), am_i .ireturn]]
/-- 279: TerminalHouseModel.entryOf([BIII)I -/
def am_c279 : List (List (Option am_I)) := [[am_i (.iconst 0), am_i (.istore 5), none, am_i (.iload 5), none, am_i (.iload 4), none, am_j (.if_icmp .ge 50) 57, none, none, am_i (.iconst 0), am_i (.istore 6), none, am_i (.iload 6), none, am_i (.aload_n 0)],
  [am_f (.getfield 49) 12 6 false, none, none, am_i (.iload 5), none, am_i .iaload, am_j (.if_icmp .ge 29) 51, none, none, am_i (.aload_n 0), am_i (.iconst 4), am_i (.iload 5), none, am_i .imul, am_i (.iload 6), none],
  [am_i .iadd, am_i (.aload_n 1), am_i (.iload_n 2), am_i (.iload_n 3), am_f (.invokevirtual 53) 280 4 false, none, none, am_j (.ifCond .eq 6) 45, none, none, am_i (.iload 5), none, am_i .ireturn, am_i (.iinc 6 1), none, none],
  [am_j (.goto (-35)) 13, none, none, am_i (.iinc 5 1), none, none, am_j (.goto (-51)) 3, none, none, am_i (.iconst (-1)), am_i .ireturn]]
/-- 280: TerminalHouseModel.isName(I[BII)Z -/
def am_c280 : List (List (Option am_I)) := [[am_i (.aload_n 0), am_f (.getfield 57) 12 8 false, none, none, am_i (.iload_n 1), am_i .iaload, am_i (.iload 4), none, am_j (.if_icmp .ne 7) 15, none, none, am_i (.iconst 1), am_j (.goto 4) 16, none, none, am_i (.iconst 0)],
  [am_i (.istore 5), none, am_i (.iconst 0), am_i (.istore 6), none, am_i (.iload 6), none, am_i (.iload 4), none, am_j (.if_icmp .ge 42) 67, none, none, am_i (.iload 5), none, am_j (.ifCond .eq 37) 67, none],
  [none, am_i (.aload_n 0), am_f (.getfield 60) 12 7 false, none, none, am_i (.bipush 12), none, am_i (.iload_n 1), am_i .imul, am_i (.iload 6), none, am_i .iadd, am_i .baload, am_i (.aload_n 2), am_i (.iload_n 3), am_i (.iload 6)],
  [none, am_i .iadd, am_i .baload, am_j (.if_icmp .ne 7) 58, none, none, am_i (.iconst 1), am_j (.goto 4) 59, none, none, am_i (.iconst 0), am_i (.istore 5), none, am_i (.iinc 6 1), none, none],
  [am_j (.goto (-43)) 21, none, none, am_i (.iload 5), none, am_i .ireturn]]
/-- 281: TerminalHouseModel.abilityOf(II)I -/
def am_c281 : List (List (Option am_I)) := [[am_i (.iconst 0), am_i (.istore_n 3), am_i (.iload_n 3), am_i (.bipush 39), none, am_j (.if_icmp .ge 128) 133, none, none, am_i (.iload_n 2), am_i (.iconst 5), am_j (.if_icmp .gt 7) 17, none, none, am_i (.iconst 1), am_j (.goto 4) 18, none],
  [none, am_i (.iconst 0), am_i (.istore 4), none, am_i (.iconst 0), am_i (.istore 5), none, am_i (.iload 5), none, am_i (.iconst 5), am_j (.if_icmp .ge 94) 120, none, none, am_i (.iload 4), none, am_j (.ifCond .eq 89) 120],
  [none, none, am_i (.iload 5), none, am_i (.iload_n 2), am_j (.if_icmp .ge 54) 91, none, none, am_v0 (.ldc 63) (.retAddr 4), none, am_i (.iconst 5), am_i (.iload_n 3), am_i .imul, am_i (.iload 5), none, am_i .iadd],
  [am_j (.invokevirtual 65) 1007, none, none, am_i (.bipush 32), none, am_j (.if_icmp .eq 34) 87, none, none, am_v0 (.ldc 63) (.retAddr 4), none, am_i (.iconst 5), am_i (.iload_n 3), am_i .imul, am_i (.iload 5), none, am_i .iadd],
  [am_j (.invokevirtual 65) 1007, none, none, am_i (.aload_n 0), am_f (.getfield 10) 12 1 false, none, none, am_i (.iload_n 1), am_i (.iload 5), none, am_i .iadd, am_i .baload, am_i (.sipush 255), none, none, am_i .iand],
  [am_j (.if_icmp .ne 7) 87, none, none, am_i (.iconst 1), am_j (.goto 28) 112, none, none, am_i (.iconst 0), am_j (.goto 24) 112, none, none, am_v0 (.ldc 63) (.retAddr 4), none, am_i (.iconst 5), am_i (.iload_n 3), am_i .imul],
  [am_i (.iload 5), none, am_i .iadd, am_j (.invokevirtual 65) 1007, none, none, am_i (.bipush 32), none, am_j (.if_icmp .ne 7) 111, none, none, am_i (.iconst 1), am_j (.goto 4) 112, none, none, am_i (.iconst 0)],
  [am_i (.istore 4), none, am_i (.iinc 5 1), none, none, am_j (.goto (-94)) 23, none, none, am_i (.iload 4), none, am_j (.ifCond .eq 5) 127, none, none, am_i (.iload_n 3), am_i .ireturn, am_i (.iinc 3 1)],
  [none, none, am_j (.goto (-128)) 2, none, none, am_i (.iconst (-1)), am_i .ireturn]]
