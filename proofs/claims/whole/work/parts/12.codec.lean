/-- 143: TerminalHouse$Painter.lastStop(II)I -/
def am_c143 : List (List (Option am_I)) := [[am_i (.aload_n 0), am_f (.getfield 85) 6 11 false, none, none, am_j (.ifCond .le 17) 21, none, none, am_i (.iload_n 2), am_i (.aload_n 0), am_f (.getfield 85) 6 11 false, none, none, am_i .idiv, am_i (.aload_n 0), am_f (.getfield 85) 6 11 false, none],
  [none, am_i .imul, am_j (.goto 4) 22, none, none, am_i (.iconst (-1)), am_i (.istore_n 3), am_i (.iload_n 3), am_i (.iload_n 1), am_j (.if_icmp .le 7) 32, none, none, am_i (.iload_n 3), am_j (.goto 4) 33, none, none],
  [am_i (.iconst (-1)), am_i .ireturn]]
/-- 144: TerminalHouse$Painter.tabsBetween(II)I -/
def am_c144 : List (List (Option am_I)) := [[am_i (.aload_n 0), am_f (.getfield 85) 6 11 false, none, none, am_j (.ifCond .le 19) 23, none, none, am_i (.iload_n 2), am_i (.aload_n 0), am_f (.getfield 85) 6 11 false, none, none, am_i .idiv, am_i (.iload_n 1), am_i (.aload_n 0), am_f (.getfield 85) 6 11 false],
  [none, none, am_i .idiv, am_i .isub, am_j (.goto 4) 24, none, none, am_i (.iconst 0), am_i .ireturn]]
/-- 145: TerminalHouse$Painter.copyLength(III)I -/
def am_c145 : List (List (Option am_I)) := [[am_i (.iload_n 2), am_i (.istore 4), none, am_i (.iload 4), none, am_i (.iload_n 3), am_j (.if_icmp .ge 42) 48, none, none, am_i (.aload_n 0), am_f (.getfield 18) 6 1 false, none, none, am_f (.getfield 144) 9 0 true, none, none],
  [am_i (.iload_n 1), am_i (.aload_n 0), am_f (.getfield 64) 6 9 false, none, none, am_i .imul, am_i (.iload 4), none, am_i .iadd, am_i .iaload, am_i (.bipush 8), none, am_i .ishr, am_i (.aload_n 0), am_f (.getfield 18) 6 1 false, none],
  [none, am_f (.getfield 180) 9 8 true, none, none, am_j (.if_icmp .eq 6) 42, none, none, am_v0 (.ldc 98) (.int 1000000), none, am_i .ireturn, am_i (.iinc 4 1), none, none, am_j (.goto (-42)) 3, none, none],
  [am_i (.iload_n 3), am_i (.iload_n 2), am_i .isub, am_i .ireturn]]
/-- 146: TerminalHouse$Painter.planWay(III)V -/
def am_c146 : List (List (Option am_I)) := [[am_i (.aload_n 0), am_i (.iconst 0), am_f (.putfield 190) 6 18 false, none, none, am_i (.iload_n 1), am_t (.tableswitch 142 2 6 #[34, 46, 58, 86, 117]) 148 [(2, 40), (3, 52), (4, 64), (5, 92), (6, 123)], none, none, none, none, none, none, none, none, none],
  [none, none, none, none, none, none, none, none, none, none, none, none, none, none, none, none],
  [none, none, none, none, none, none, none, none, am_i (.aload_n 0), am_i (.bipush 18), none, am_i (.iconst 1), am_i (.iload_n 3), am_i (.iconst 0), am_f (.invokevirtual 220) 147 4 false, none],
  [none, am_j (.goto 108) 157, none, none, am_i (.aload_n 0), am_i (.bipush 19), none, am_i (.iconst 1), am_i (.iload_n 2), am_i (.iconst 0), am_f (.invokevirtual 220) 147 4 false, none, none, am_j (.goto 96) 157, none, none],
  [am_i (.aload_n 0), am_i (.aload_n 0), am_f (.getfield 18) 6 1 false, none, none, am_f (.getfield 134) 9 6 true, none, none, am_i (.iload_n 2), am_f (.invokevirtual 223) 148 2 false, none, none, am_i (.aload_n 0), am_i (.aload_n 0), am_f (.getfield 18) 6 1 false, none],
  [none, am_f (.getfield 137) 9 7 true, none, none, am_i (.iload_n 3), am_i (.iload_n 2), am_f (.invokevirtual 226) 150 3 false, none, none, am_j (.goto 68) 157, none, none, am_i (.aload_n 0), am_i (.bipush 20), none, am_i (.iconst 1)],
  [am_i (.iconst 0), am_i (.iconst 0), am_f (.invokevirtual 220) 147 4 false, none, none, am_i (.aload_n 0), am_i (.aload_n 0), am_f (.getfield 18) 6 1 false, none, none, am_f (.getfield 134) 9 6 true, none, none, am_i (.iload_n 2), am_f (.invokevirtual 223) 148 2 false, none],
  [none, am_i (.aload_n 0), am_i (.iconst 0), am_i (.iload_n 3), am_i (.iload_n 2), am_f (.invokevirtual 226) 150 3 false, none, none, am_j (.goto 37) 157, none, none, am_i (.aload_n 0), am_i (.bipush 8), none, am_i (.iconst 1), am_i (.iconst 0)],
  [am_i (.iconst 0), am_f (.invokevirtual 220) 147 4 false, none, none, am_i (.aload_n 0), am_i (.iconst 0), am_i (.iload_n 2), am_f (.invokevirtual 223) 148 2 false, none, none, am_i (.aload_n 0), am_i (.iconst 0), am_i (.iload_n 3), am_i (.iload_n 2), am_f (.invokevirtual 226) 150 3 false, none],
  [none, am_j (.goto 12) 157, none, none, am_i (.aload_n 0), am_i (.bipush 9), none, am_i (.iconst 1), am_i (.iload_n 2), am_i (.iload_n 3), am_f (.invokevirtual 220) 147 4 false, none, none, am_i .return_]]
/-- 147: TerminalHouse$Painter.planStep(IIII)V -/
def am_c147 : List (List (Option am_I)) := [[am_i (.aload_n 0), am_f (.getfield 190) 6 18 false, none, none, am_i (.iconst 5), am_j (.if_icmp .lt 4) 9, none, none, am_i .return_, am_i (.aload_n 0), am_f (.getfield 190) 6 18 false, none, none, am_i (.iconst 4), am_i .imul, am_i (.istore 5)],
  [none, am_i (.aload_n 0), am_f (.getfield 39) 6 17 false, none, none, am_i (.iload 5), none, am_i (.iload_n 1), am_i .iastore, am_i (.aload_n 0), am_f (.getfield 39) 6 17 false, none, none, am_i (.iload 5), none, am_i (.iconst 1)],
  [am_i .iadd, am_i (.iload_n 2), am_i .iastore, am_i (.aload_n 0), am_f (.getfield 39) 6 17 false, none, none, am_i (.iload 5), none, am_i (.iconst 2), am_i .iadd, am_i (.iload_n 3), am_i .iastore, am_i (.aload_n 0), am_f (.getfield 39) 6 17 false, none],
  [none, am_i (.iload 5), none, am_i (.iconst 3), am_i .iadd, am_i (.iload 4), none, am_i .iastore, am_i (.aload_n 0), am_i .dup, am_f (.getfield 190) 6 18 false, none, none, am_i (.iconst 1), am_i .iadd, am_f (.putfield 190) 6 18 false],
  [none, none, am_i .return_]]
/-- 148: TerminalHouse$Painter.planDown(II)V -/
def am_c148 : List (List (Option am_I)) := [[am_i (.iload_n 2), am_i (.iload_n 1), am_j (.if_icmp .lt 17) 19, none, none, am_i (.aload_n 0), am_i (.bipush 11), none, am_i (.bipush 15), none, am_i (.iload_n 2), am_i (.iload_n 1), am_i .isub, am_f (.invokevirtual 229) 149 3 false, none, none],
  [am_j (.goto 14) 30, none, none, am_i (.aload_n 0), am_i (.bipush 10), none, am_i (.bipush 14), none, am_i (.iload_n 1), am_i (.iload_n 2), am_i .isub, am_f (.invokevirtual 229) 149 3 false, none, none, am_i .return_]]
/-- 149: TerminalHouse$Painter.planPair(III)V -/
def am_c149 : List (List (Option am_I)) := [[am_i (.iload_n 3), am_j (.ifCond .le 36) 37, none, none, am_i (.iload_n 3), am_i (.aload_n 0), am_f (.getfield 31) 6 15 false, none, none, am_i (.iload_n 1), am_i .iaload, am_i .imul, am_i (.aload_n 0), am_f (.getfield 36) 6 16 false, none, none],
  [am_i (.iload_n 2), am_i (.bipush 14), none, am_i .isub, am_i .aaload, am_i (.iload_n 3), am_i .iaload, am_j (.if_icmp .gt 14) 37, none, none, am_i (.aload_n 0), am_i (.iload_n 1), am_i (.iload_n 3), am_i (.iconst 0), am_i (.iconst 0), am_f (.invokevirtual 220) 147 4 false],
  [none, none, am_j (.goto 15) 49, none, none, am_i (.iload_n 3), am_j (.ifCond .le 11) 49, none, none, am_i (.aload_n 0), am_i (.iload_n 2), am_i (.iconst 1), am_i (.iload_n 3), am_i (.iconst 0), am_f (.invokevirtual 220) 147 4 false, none],
  [none, am_i .return_]]
/-- 150: TerminalHouse$Painter.planAcross(III)V -/
def am_c150 : List (List (Option am_I)) := [[am_i (.iload_n 2), am_i (.iload_n 1), am_j (.if_icmp .gt 15) 17, none, none, am_i (.aload_n 0), am_i (.bipush 12), none, am_i (.bipush 16), none, am_i (.iload_n 1), am_i (.iload_n 2), am_i .isub, am_f (.invokevirtual 229) 149 3 false, none, none],
  [am_i .return_, am_i (.aload_n 0), am_i (.bipush 13), none, am_i (.bipush 17), none, am_i (.iload_n 2), am_i (.iload_n 1), am_i .isub, am_f (.invokevirtual 202) 140 3 false, none, none, am_i (.istore 4), none, am_i (.aload_n 0), am_i (.iload_n 1)],
  [am_i (.iload_n 2), am_f (.invokevirtual 205) 142 2 false, none, none, am_i (.istore 5), none, am_i (.aload_n 0), am_i (.iload_n 3), am_i (.iload_n 1), am_i (.iload_n 2), am_f (.invokevirtual 208) 145 3 false, none, none, am_i (.istore 6), none, am_i (.iload 4)],
  [none, am_i (.iload 5), none, am_j (.if_icmp .gt 24) 75, none, none, am_i (.iload 4), none, am_i (.iload 6), none, am_j (.if_icmp .gt 17) 75, none, none, am_i (.aload_n 0), am_i (.bipush 13), none],
  [am_i (.bipush 17), none, am_i (.iload_n 2), am_i (.iload_n 1), am_i .isub, am_f (.invokevirtual 229) 149 3 false, none, none, am_j (.goto 56) 128, none, none, am_i (.iload 5), none, am_i (.iload 6), none, am_j (.if_icmp .gt 41) 120],
  [none, none, am_i (.aload_n 0), am_i (.iload_n 1), am_i (.iload_n 2), am_f (.invokevirtual 214) 143 2 false, none, none, am_i (.istore 7), none, am_i (.aload_n 0), am_i (.bipush 21), none, am_i (.aload_n 0), am_i (.iload_n 1), am_i (.iload 7)],
  [none, am_f (.invokevirtual 217) 144 2 false, none, none, am_i (.iconst 0), am_i (.iconst 0), am_f (.invokevirtual 220) 147 4 false, none, none, am_i (.aload_n 0), am_i (.bipush 13), none, am_i (.bipush 17), none, am_i (.iload_n 2), am_i (.iload 7)],
  [none, am_i .isub, am_f (.invokevirtual 229) 149 3 false, none, none, am_j (.goto 11) 128, none, none, am_i (.aload_n 0), am_i (.iconst (-1)), am_i (.iconst 1), am_i (.iload_n 1), am_i (.iload_n 2), am_f (.invokevirtual 220) 147 4 false, none, none],
  [am_i .return_]]
/-- 151: TerminalHouse$Painter.copyKnown(III)V -/
def am_c151 : List (List (Option am_I)) := [[am_i (.iload_n 2), am_i (.istore 4), none, am_i (.iload 4), none, am_i (.iload_n 3), am_j (.if_icmp .ge 34) 40, none, none, am_i (.aload_n 0), am_i (.aload_n 0), am_f (.getfield 18) 6 1 false, none, none, am_f (.getfield 144) 9 0 true, none],
  [none, am_i (.iload_n 1), am_i (.aload_n 0), am_f (.getfield 64) 6 9 false, none, none, am_i .imul, am_i (.iload 4), none, am_i .iadd, am_i .iaload, am_i (.sipush 255), none, none, am_i .iand, am_f (.invokevirtual 177) 131 1 false],
  [none, none, am_i (.iinc 4 1), none, none, am_j (.goto (-34)) 3, none, none, am_i .return_]]
/-- 152: TerminalHouse$Painter.paintRow(I)V -/
def am_c152 : List (List (Option am_I)) := [[am_i (.iload_n 1), am_i (.aload_n 0), am_f (.getfield 64) 6 9 false, none, none, am_i .imul, am_i (.istore_n 2), am_i (.iconst (-1)), am_i (.istore_n 3), am_i (.iconst (-1)), am_i (.istore 4), none, am_i (.aload_n 0), am_i (.iload_n 1), am_f (.invokevirtual 157) 136 1 false, none],
  [none, am_i (.istore 5), none, am_i (.iconst 0), am_i (.istore 6), none, am_i (.iload 6), none, am_i (.iload 5), none, am_j (.if_icmp .ge 49) 75, none, none, am_i (.aload_n 0), am_f (.getfield 24) 6 3 false, none],
  [none, am_i (.iload_n 2), am_i (.iload 6), none, am_i .iadd, am_i .iaload, am_i (.aload_n 0), am_f (.getfield 18) 6 1 false, none, none, am_f (.getfield 144) 9 0 true, none, none, am_i (.iload_n 2), am_i (.iload 6), none],
  [am_i .iadd, am_i .iaload, am_j (.if_icmp .eq 19) 69, none, none, am_i (.iload_n 3), am_i (.iconst (-1)), am_j (.if_icmp .ne 8) 63, none, none, am_i (.iload 6), none, am_j (.goto 4) 64, none, none, am_i (.iload_n 3)],
  [am_i (.istore_n 3), am_i (.iload 6), none, am_i (.istore 4), none, am_i (.iinc 6 1), none, none, am_j (.goto (-50)) 22, none, none, am_i (.iload_n 3), am_i (.iconst (-1)), am_j (.if_icmp .ne 4) 81, none, none],
  [am_i .return_, am_i (.iload_n 3), am_i (.aload_n 0), am_i (.iload_n 2), am_f (.invokevirtual 160) 153 1 false, none, none, am_j (.invokestatic 163) 1002, none, none, am_i (.istore 6), none, am_i (.aload_n 0), am_f (.getfield 42) 6 6 false, none, none],
  [am_i (.bipush 24), none, am_f (.invokevirtual 81) 74 1 false, none, none, am_j (.ifCond .eq 24) 125, none, none, am_i (.iload 4), none, am_i (.iconst 1), am_i .iadd, am_i (.iload 6), none, am_i .isub, am_i (.aload_n 0)],
  [am_f (.getfield 31) 6 15 false, none, none, am_i (.bipush 24), none, am_i .iaload, am_j (.if_icmp .le 7) 125, none, none, am_i (.iconst 1), am_j (.goto 4) 126, none, none, am_i (.iconst 0), am_i (.istore 7), none],
  [am_i (.iload 7), none, am_j (.ifCond .eq 8) 138, none, none, am_i (.iload 6), none, am_j (.goto 7) 142, none, none, am_i (.iload 4), none, am_i (.iconst 1), am_i .iadd, am_i (.istore 8), none],
  [am_i (.iload_n 3), am_i (.istore 9), none, am_i (.iload 9), none, am_i (.iload 8), none, am_j (.if_icmp .ge 64) 215, none, none, am_i (.aload_n 0), am_f (.getfield 24) 6 3 false, none, none, am_i (.iload_n 2), am_i (.iload 9)],
  [none, am_i .iadd, am_i .iaload, am_i (.aload_n 0), am_f (.getfield 18) 6 1 false, none, none, am_f (.getfield 144) 9 0 true, none, none, am_i (.iload_n 2), am_i (.iload 9), none, am_i .iadd, am_i .iaload, am_j (.if_icmp .eq 34) 209],
  [none, none, am_i (.aload_n 0), am_i (.iload_n 1), am_i (.iload 9), none, am_f (.invokevirtual 140) 137 2 false, none, none, am_i (.aload_n 0), am_i (.aload_n 0), am_f (.getfield 24) 6 3 false, none, none, am_i (.iload_n 2), am_i (.iload 9)],
  [none, am_i .iadd, am_i .iaload, am_i (.bipush 8), none, am_i .ishr, am_f (.invokevirtual 131) 154 1 false, none, none, am_i (.aload_n 0), am_i (.iload_n 2), am_i (.iload 9), none, am_i .iadd, am_f (.invokevirtual 168) 155 1 false, none],
  [none, am_i (.iinc 9 1), none, none, am_j (.goto (-65)) 147, none, none, am_i (.iload 7), none, am_j (.ifCond .eq 46) 263, none, none, am_i (.aload_n 0), am_i (.iload_n 1), am_i (.iload 6), none],
  [am_f (.invokevirtual 140) 137 2 false, none, none, am_i (.aload_n 0), am_i (.iconst 0), am_f (.invokevirtual 131) 154 1 false, none, none, am_i (.aload_n 0), am_i (.bipush 24), none, am_i (.iconst 1), am_i (.iconst 0), am_i (.iconst 0), am_f (.invokevirtual 118) 130 4 false, none],
  [none, am_i (.aload_n 0), am_f (.getfield 18) 6 1 false, none, none, am_f (.getfield 144) 9 0 true, none, none, am_i (.iload_n 2), am_i (.iload 6), none, am_i .iadd, am_i (.iload_n 2), am_i (.aload_n 0), am_f (.getfield 64) 6 9 false, none],
  [none, am_i .iadd, am_i (.bipush 32), none, am_f (.invokestatic 171) 14 4 false, none, none, am_i .return_]]
/-- 153: TerminalHouse$Painter.behindLastSign(I)I -/
def am_c153 : List (List (Option am_I)) := [[am_i (.aload_n 0), am_f (.getfield 64) 6 9 false, none, none, am_i (.istore_n 2), am_i (.iload_n 2), am_j (.ifCond .le 26) 32, none, none, am_i (.aload_n 0), am_f (.getfield 24) 6 3 false, none, none, am_i (.iload_n 1), am_i (.iload_n 2), am_i .iadd],
  [am_i (.iconst 1), am_i .isub, am_i .iaload, am_i (.bipush 32), none, am_j (.if_icmp .eq 5) 26, none, none, am_i (.iload_n 2), am_i .ireturn, am_i (.iinc 2 (-1)), none, none, am_j (.goto (-24)) 5, none, none],
  [am_i (.iconst 0), am_i .ireturn]]
/-- 154: TerminalHouse$Painter.dressAs(I)V -/
def am_c154 : List (List (Option am_I)) := [[am_i (.aload_n 0), am_f (.getfield 18) 6 1 false, none, none, am_f (.getfield 180) 9 8 true, none, none, am_i (.iload_n 1), am_i (.iconst (-1)), am_i .ixor, am_i .iand, am_j (.ifCond .eq 20) 31, none, none, am_i (.aload_n 0), am_i (.bipush 25)],
  [none, am_i (.iconst 1), am_i (.iconst 0), am_i (.iconst 0), am_f (.invokevirtual 118) 130 4 false, none, none, am_i (.aload_n 0), am_f (.getfield 18) 6 1 false, none, none, am_i (.iconst 0), am_f (.putfield 180) 9 8 true, none, none, am_i (.iconst 0)],
  [am_i (.istore_n 2), am_i (.iload_n 2), am_i (.iconst 4), am_j (.if_icmp .ge 55) 90, none, none, am_i (.iconst 1), am_i (.iload_n 2), am_i .ishl, am_i (.istore_n 3), am_i (.iload_n 1), am_i (.iload_n 3), am_i .iand, am_j (.ifCond .eq 39) 84, none, none],
  [am_i (.aload_n 0), am_f (.getfield 18) 6 1 false, none, none, am_f (.getfield 180) 9 8 true, none, none, am_i (.iload_n 3), am_i .iand, am_j (.ifCond .ne 27) 84, none, none, am_i (.aload_n 0), am_i (.bipush 26), none, am_i (.iload_n 2)],
  [am_i .iadd, am_i (.iconst 1), am_i (.iconst 0), am_i (.iconst 0), am_f (.invokevirtual 118) 130 4 false, none, none, am_i (.aload_n 0), am_f (.getfield 18) 6 1 false, none, none, am_i .dup, am_f (.getfield 180) 9 8 true, none, none, am_i (.iload_n 3)],
  [am_i .ior, am_f (.putfield 180) 9 8 true, none, none, am_i (.iinc 2 1), none, none, am_j (.goto (-54)) 33, none, none, am_i .return_]]
/-- 155: TerminalHouse$Painter.paintCell(I)V -/
def am_c155 : List (List (Option am_I)) := [[am_i (.aload_n 0), am_i (.aload_n 0), am_f (.getfield 24) 6 3 false, none, none, am_i (.iload_n 1), am_i .iaload, am_i (.sipush 255), none, none, am_i .iand, am_f (.invokevirtual 177) 131 1 false, none, none, am_i (.aload_n 0), am_f (.getfield 18) 6 1 false],
  [none, none, am_f (.getfield 144) 9 0 true, none, none, am_i (.iload_n 1), am_i (.aload_n 0), am_f (.getfield 24) 6 3 false, none, none, am_i (.iload_n 1), am_i .iaload, am_i .iastore, am_i (.aload_n 0), am_f (.getfield 18) 6 1 false, none],
  [none, am_f (.getfield 137) 9 7 true, none, none, am_i (.aload_n 0), am_f (.getfield 64) 6 9 false, none, none, am_i (.iconst 1), am_i .isub, am_j (.if_icmp .ge 19) 61, none, none, am_i (.aload_n 0), am_f (.getfield 18) 6 1 false, none],
  [none, am_i .dup, am_f (.getfield 137) 9 7 true, none, none, am_i (.iconst 1), am_i .iadd, am_f (.putfield 137) 9 7 true, none, none, am_j (.goto 70) 128, none, none, am_i (.aload_n 0), am_f (.getfield 42) 6 6 false, none],
  [none, am_i (.iconst 0), am_f (.invokevirtual 81) 74 1 false, none, none, am_j (.ifCond .eq 59) 128, none, none, am_i (.aload_n 0), am_f (.getfield 42) 6 6 false, none, none, am_i (.iconst 1), am_f (.invokevirtual 81) 74 1 false, none, none],
  [am_j (.ifCond .ne 19) 99, none, none, am_i (.aload_n 0), am_f (.getfield 18) 6 1 false, none, none, am_f (.getfield 134) 9 6 true, none, none, am_i (.aload_n 0), am_f (.getfield 60) 6 8 false, none, none, am_i (.iconst 1), am_i .isub],
  [am_j (.if_icmp .lt 11) 107, none, none, am_i (.aload_n 0), am_i (.iconst 0), am_f (.putfield 78) 6 14 false, none, none, am_j (.goto 24) 128, none, none, am_i (.aload_n 0), am_f (.getfield 18) 6 1 false, none, none, am_i .dup],
  [am_f (.getfield 134) 9 6 true, none, none, am_i (.iconst 1), am_i .iadd, am_f (.putfield 134) 9 6 true, none, none, am_i (.aload_n 0), am_f (.getfield 18) 6 1 false, none, none, am_i (.iconst 0), am_f (.putfield 137) 9 7 true, none, none],
  [am_i .return_]]
/-- 156: TerminalHouse$Bytes.add(I)Z -/
def am_c156 : List (List (Option am_I)) := [[am_i (.aload_n 0), am_f (.getfield 21) 0 2 false, none, none, am_i (.aload_n 0), am_f (.getfield 15) 0 0 false, none, none, am_i .arraylength, am_j (.if_icmp .lt 5) 14, none, none, am_i (.iconst 0), am_i .ireturn, am_i (.aload_n 0), am_f (.getfield 15) 0 0 false],
  [none, none, am_i (.aload_n 0), am_f (.getfield 25) 0 1 false, none, none, am_i (.aload_n 0), am_f (.getfield 21) 0 2 false, none, none, am_i .iadd, am_i (.aload_n 0), am_f (.getfield 15) 0 0 false, none, none, am_i .arraylength],
  [am_i .irem, am_i (.iload_n 1), am_i .iastore, am_i (.aload_n 0), am_i .dup, am_f (.getfield 21) 0 2 false, none, none, am_i (.iconst 1), am_i .iadd, am_f (.putfield 21) 0 2 false, none, none, am_i (.iconst 1), am_i .ireturn]]
/-- 157: TerminalHouse.redraw()Z -/
def am_c157 : List (List (Option am_I)) := [[am_i (.aload_n 0), am_f (.getfield 118) 11 14 false, none, none, am_j (.ifnonnull 5) 9, none, none, am_i (.iconst 0), am_i .ireturn, am_i (.aload_n 0), am_f (.getfield 33) 11 6 false, none, none, am_i (.iconst 1), am_f (.putfield 269) 6 13 true, none],
  [none, am_i (.iconst 1), am_i .ireturn]]
/-- 158: TerminalHouse.known(II)I -/
def am_c158 : List (List (Option am_I)) := [[am_i (.aload_n 0), am_f (.getfield 118) 11 14 false, none, none, am_j (.ifnull 13) 17, none, none, am_i (.aload_n 0), am_f (.getfield 33) 11 6 false, none, none, am_f (.getfield 269) 6 13 true, none, none, am_j (.ifCond .eq 7) 21, none],
  [none, am_i (.iconst (-1)), am_j (.goto 15) 33, none, none, am_i (.aload_n 0), am_f (.getfield 33) 11 6 false, none, none, am_f (.getfield 272) 6 1 true, none, none, am_i (.iload_n 1), am_i (.iload_n 2), am_f (.invokevirtual 240) 120 2 false, none],
  [none, am_i .ireturn]]
/-- 159: TerminalHouse.wanted(II)I -/
def am_c159 : List (List (Option am_I)) := [[am_i (.aload_n 0), am_f (.getfield 118) 11 14 false, none, none, am_j (.ifnonnull 7) 11, none, none, am_i (.iconst (-1)), am_j (.goto 15) 23, none, none, am_i (.aload_n 0), am_f (.getfield 33) 11 6 false, none, none, am_f (.getfield 170) 6 0 true],
  [none, none, am_i (.iload_n 1), am_i (.iload_n 2), am_f (.invokevirtual 240) 120 2 false, none, none, am_i .ireturn]]
/-- 160: TerminalHouse.flags(I)I -/
def am_c160 : List (List (Option am_I)) := [[am_i (.aload_n 0), am_f (.getfield 46) 11 8 false, none, none, am_i (.iload_n 1), am_i (.sipush 255), none, none, am_i .iand, am_f (.invokevirtual 275) 161 1 false, none, none, am_i .ireturn]]
/-- 161: TerminalHouse$Discipline.changeFlags(I)I -/
def am_c161 : List (List (Option am_I)) := [[am_i (.aload_n 0), am_f (.getfield 26) 1 3 false, none, none, am_i (.istore_n 2), am_i (.aload_n 0), am_i (.iload_n 1), am_f (.putfield 26) 1 3 false, none, none, am_i (.iload_n 2), am_i (.iconst 1), am_i .iand, am_j (.ifCond .eq 58) 71, none, none],
  [am_i (.aload_n 0), am_i (.iconst 1), am_f (.invokevirtual 30) 162 1 false, none, none, am_j (.ifCond .ne 50) 71, none, none, am_i (.iconst 0), am_i (.istore_n 3), am_i (.iload_n 3), am_i (.aload_n 0), am_f (.getfield 20) 1 1 false, none, none, am_f (.invokevirtual 34) 163 0 false],
  [none, none, am_j (.if_icmp .ge 25) 59, none, none, am_i (.aload_n 0), am_f (.getfield 23) 1 2 false, none, none, am_i (.aload_n 0), am_f (.getfield 20) 1 1 false, none, none, am_i (.iload_n 3), am_f (.invokevirtual 38) 164 1 false, none],
  [none, am_f (.invokevirtual 42) 156 1 false, none, none, am_i .pop, am_i (.iinc 3 1), none, none, am_j (.goto (-30)) 26, none, none, am_i (.aload_n 0), am_f (.getfield 20) 1 1 false, none, none, am_f (.invokevirtual 45) 165 0 false],
  [none, none, am_i (.aload_n 0), am_i (.iconst 0), am_f (.putfield 48) 1 5 false, none, none, am_i (.iload_n 2), am_i .ireturn]]
/-- 162: TerminalHouse$Discipline.has(I)Z -/
def am_c162 : List (List (Option am_I)) := [[am_i (.aload_n 0), am_f (.getfield 26) 1 3 false, none, none, am_i (.iload_n 1), am_i .iand, am_j (.ifCond .eq 7) 13, none, none, am_i (.iconst 1), am_j (.goto 4) 14, none, none, am_i (.iconst 0), am_i .ireturn]]
/-- 163: TerminalHouse$Bytes.size()I -/
def am_c163 : List (List (Option am_I)) := [[am_i (.aload_n 0), am_f (.getfield 21) 0 2 false, none, none, am_i .ireturn]]
/-- 164: TerminalHouse$Bytes.get(I)I -/
def am_c164 : List (List (Option am_I)) := [[am_i (.iload_n 1), am_j (.ifCond .lt 11) 12, none, none, am_i (.iload_n 1), am_i (.aload_n 0), am_f (.getfield 21) 0 2 false, none, none, am_j (.if_icmp .lt 7) 16, none, none, am_i (.iconst (-1)), am_j (.goto 20) 33, none, none],
  [am_i (.aload_n 0), am_f (.getfield 15) 0 0 false, none, none, am_i (.aload_n 0), am_f (.getfield 25) 0 1 false, none, none, am_i (.iload_n 1), am_i .iadd, am_i (.aload_n 0), am_f (.getfield 15) 0 0 false, none, none, am_i .arraylength, am_i .irem],
  [am_i .iaload, am_i .ireturn]]
/-- 165: TerminalHouse$Bytes.clear()V -/
def am_c165 : List (List (Option am_I)) := [[am_i (.aload_n 0), am_i (.iconst 0), am_f (.putfield 21) 0 2 false, none, none, am_i .return_]]
/-- 166: TerminalHouse.write()I -/
def am_c166 : List (List (Option am_I)) := [[am_i (.iconst 0), am_i (.istore_n 1), am_i (.iconst 0), am_i (.istore_n 2), am_i (.iload_n 2), am_i (.aload_n 0), am_f (.getfield 85) 11 1 false, none, none, am_j (.if_icmp .ge 25) 34, none, none, am_i (.iload_n 1), am_i (.aload_n 0), am_f (.getfield 46) 11 8 false, none],
  [none, am_i (.aload_n 0), am_f (.getfield 9) 11 0 false, none, none, am_i (.iload_n 2), am_i .iaload, am_f (.invokevirtual 278) 167 1 false, none, none, am_i .iadd, am_i (.istore_n 1), am_i (.iinc 2 1), none, none, am_j (.goto (-27)) 4],
  [none, none, am_i (.aload_n 0), am_i (.iconst 0), am_f (.putfield 85) 11 1 false, none, none, am_i (.iload_n 1), am_i .ireturn]]
/-- 167: TerminalHouse$Discipline.put(I)I -/
def am_c167 : List (List (Option am_I)) := [[am_i (.iconst 0), am_i (.istore_n 2), am_i (.iload_n 1), am_i (.bipush 10), none, am_j (.if_icmp .ne 29) 34, none, none, am_i (.aload_n 0), am_i (.bipush 16), none, am_f (.invokevirtual 30) 162 1 false, none, none, am_j (.ifCond .eq 20) 34, none],
  [none, am_i (.aload_n 0), am_i (.bipush 13), none, am_f (.invokevirtual 52) 168 1 false, none, none, am_i (.aload_n 0), am_i (.bipush 10), none, am_f (.invokevirtual 52) 168 1 false, none, none, am_i .iadd, am_i (.istore_n 2), am_j (.goto 57) 88],
  [none, none, am_i (.iload_n 1), am_i (.bipush 9), none, am_j (.if_icmp .ne 45) 82, none, none, am_i (.aload_n 0), am_i (.sipush 128), none, none, am_f (.invokevirtual 30) 162 1 false, none, none, am_j (.ifCond .eq 35) 82],
  [none, none, am_i (.aload_n 0), am_f (.getfield 55) 1 7 false, none, none, am_i (.bipush 8), none, am_i .irem, am_i (.istore_n 3), am_i (.iload_n 3), am_i (.bipush 8), none, am_j (.if_icmp .ge 18) 79, none, none],
  [am_i (.iload_n 2), am_i (.aload_n 0), am_i (.bipush 32), none, am_f (.invokevirtual 52) 168 1 false, none, none, am_i .iadd, am_i (.istore_n 2), am_i (.iinc 3 1), none, none, am_j (.goto (-18)) 58, none, none, am_j (.goto 9) 88],
  [none, none, am_i (.aload_n 0), am_i (.iload_n 1), am_f (.invokevirtual 52) 168 1 false, none, none, am_i (.istore_n 2), am_i (.aload_n 0), am_i (.aload_n 0), am_i (.aload_n 0), am_f (.getfield 55) 1 7 false, none, none, am_i (.iload_n 1), am_f (.invokevirtual 58) 169 2 false],
  [none, none, am_f (.putfield 55) 1 7 false, none, none, am_i (.iload_n 2), am_i .ireturn]]
/-- 168: TerminalHouse$Discipline.enqueue(I)I -/
def am_c168 : List (List (Option am_I)) := [[am_i (.aload_n 0), am_f (.getfield 14) 1 0 false, none, none, am_i (.iload_n 1), am_f (.invokevirtual 42) 156 1 false, none, none, am_j (.ifCond .eq 5) 13, none, none, am_i (.iconst 1), am_i .ireturn, am_i (.aload_n 0), am_i .dup, am_f (.getfield 62) 1 9 false],
  [none, none, am_i (.iconst 1), am_i .iadd, am_f (.putfield 62) 1 9 false, none, none, am_i (.iconst 0), am_i .ireturn]]
/-- 169: TerminalHouse$Discipline.columnBehind(II)I -/
def am_c169 : List (List (Option am_I)) := [[am_i (.iload_n 2), am_t (.tableswitch 80 8 13 #[56, 64, 41, 80, 80, 39]) 81 [(8, 57), (9, 65), (10, 42), (11, 81), (12, 81), (13, 40)], none, none, none, none, none, none, none, none, none, none, none, none, none, none],
  [none, none, none, none, none, none, none, none, none, none, none, none, none, none, none, none],
  [none, none, none, none, none, none, none, none, am_i (.iconst 0), am_i .ireturn, am_i (.aload_n 0), am_i (.bipush 16), none, am_f (.invokevirtual 30) 162 1 false, none, none],
  [am_j (.ifCond .eq 7) 55, none, none, am_i (.iconst 0), am_j (.goto 4) 56, none, none, am_i (.iload_n 1), am_i .ireturn, am_i (.iconst 0), am_i (.iload_n 1), am_i (.iconst 1), am_i .isub, am_j (.invokestatic 65) 1002, none, none],
  [am_i .ireturn, am_i (.sipush 10000), none, none, am_i (.iload_n 1), am_i (.bipush 8), none, am_i .idiv, am_i (.iconst 1), am_i .iadd, am_i (.bipush 8), none, am_i .imul, am_j (.invokestatic 70) 1003, none, none],
  [am_i .ireturn, am_i (.iload_n 2), am_f (.invokestatic 73) 110 1 true, none, none, am_j (.ifCond .eq 15) 100, none, none, am_i (.sipush 10000), none, none, am_i (.iload_n 1), am_i (.iconst 1), am_i .iadd, am_j (.invokestatic 70) 1003, none],
  [none, am_j (.goto 4) 101, none, none, am_i (.iload_n 1), am_i .ireturn]]
/-- 170: TerminalHouse.read(I)I -/
def am_c170 : List (List (Option am_I)) := [[am_i (.iload_n 1), am_i (.iconst 1), am_j (.if_icmp .lt 23) 25, none, none, am_i (.iload_n 1), am_i (.sipush 300), none, none, am_j (.if_icmp .gt 16) 25, none, none, am_i (.aload_n 0), am_f (.getfield 46) 11 8 false, none, none],
  [am_f (.getfield 281) 1 2 true, none, none, am_f (.invokevirtual 284) 163 0 false, none, none, am_j (.ifCond .ne 5) 27, none, none, am_i (.iconst (-1)), am_i .ireturn, am_i (.aload_n 0), am_i (.aload_n 0), am_f (.getfield 46) 11 8 false, none, none],
  [am_i (.iload_n 1), am_i (.aload_n 0), am_f (.getfield 13) 11 2 false, none, none, am_f (.invokevirtual 287) 171 2 false, none, none, am_f (.putfield 92) 11 3 false, none, none, am_i (.aload_n 0), am_f (.getfield 92) 11 3 false, none, none, am_i .ireturn]]
/-- 171: TerminalHouse$Discipline.takeReady(I[I)I -/
def am_c171 : List (List (Option am_I)) := [[am_i (.iconst 0), am_i (.istore_n 3), am_i (.aload_n 0), am_f (.getfield 23) 1 2 false, none, none, am_f (.invokevirtual 34) 163 0 false, none, none, am_i (.istore 4), none, am_i (.iconst 0), am_i (.istore 5), none, am_i (.iload 5), none],
  [am_i (.iload 4), none, am_j (.if_icmp .ge 99) 117, none, none, am_i (.aload_n 0), am_f (.getfield 23) 1 2 false, none, none, am_i (.iconst 0), am_f (.invokevirtual 38) 164 1 false, none, none, am_i (.sipush 256), none, none],
  [am_j (.if_icmp .ne 7) 39, none, none, am_i (.iconst 1), am_j (.goto 4) 40, none, none, am_i (.iconst 0), am_i (.istore 6), none, am_i (.iload 6), none, am_j (.ifCond .eq 15) 59, none, none, am_i (.aload_n 0)],
  [am_i (.iconst 1), am_f (.invokevirtual 30) 162 1 false, none, none, am_j (.ifCond .eq 7) 59, none, none, am_i (.iconst 1), am_j (.goto 4) 60, none, none, am_i (.iconst 0), am_i (.istore 7), none, am_i (.iload_n 3), am_i (.iload_n 1)],
  [am_j (.if_icmp .lt 11) 75, none, none, am_i (.iload 7), none, am_j (.ifCond .ne 6) 75, none, none, am_j (.goto 45) 117, none, none, am_i (.aload_n 0), am_f (.getfield 23) 1 2 false, none, none, am_f (.invokevirtual 79) 172 0 false],
  [none, none, am_i (.istore 8), none, am_i (.iload 7), none, am_j (.ifCond .eq 6) 92, none, none, am_j (.goto 28) 117, none, none, am_i (.iload 6), none, am_j (.ifCond .ne 17) 111, none],
  [none, am_i (.iload_n 3), am_i (.aload_n 2), am_i .arraylength, am_j (.if_icmp .ge 11) 111, none, none, am_i (.aload_n 2), am_i (.iload_n 3), am_i (.iload 8), none, am_i .iastore, am_i (.iinc 3 1), none, none, am_i (.iinc 5 1)],
  [none, none, am_j (.goto (-100)) 14, none, none, am_i (.iload_n 3), am_i .ireturn]]
/-- 172: TerminalHouse$Bytes.takeFirst()I -/
def am_c172 : List (List (Option am_I)) := [[am_i (.aload_n 0), am_i (.iconst 0), am_f (.invokevirtual 28) 164 1 false, none, none, am_i (.istore_n 1), am_i (.aload_n 0), am_f (.getfield 21) 0 2 false, none, none, am_j (.ifCond .le 29) 39, none, none, am_i (.aload_n 0), am_i (.aload_n 0), am_f (.getfield 25) 0 1 false],
  [none, none, am_i (.iconst 1), am_i .iadd, am_i (.aload_n 0), am_f (.getfield 15) 0 0 false, none, none, am_i .arraylength, am_i .irem, am_f (.putfield 25) 0 1 false, none, none, am_i (.aload_n 0), am_i .dup, am_f (.getfield 21) 0 2 false],
  [none, none, am_i (.iconst 1), am_i .isub, am_f (.putfield 21) 0 2 false, none, none, am_i (.iload_n 1), am_i .ireturn]]
/-- 173: TerminalHouse.key(IZ)Z -/
def am_c173 : List (List (Option am_I)) := [[am_i (.aload_n 0), am_f (.getfield 53) 11 10 false, none, none, am_i (.iload_n 1), am_i (.iload_n 2), am_f (.invokevirtual 291) 174 2 false, none, none, am_i .ireturn]]
/-- 174: TerminalHouse$Keyboard.press(IZ)Z -/
def am_c174 : List (List (Option am_I)) := [[am_i (.iload_n 1), am_j (.ifCond .lt 21) 22, none, none, am_i (.iload_n 1), am_i (.bipush 127), none, am_j (.if_icmp .ge 15) 22, none, none, am_i (.iload_n 1), am_i (.bipush 28), none, am_j (.if_icmp .le 11) 24, none, none],
  [am_i (.iload_n 1), am_i (.bipush 32), none, am_j (.if_icmp .ge 5) 24, none, none, am_i (.iconst 0), am_i .ireturn, am_i (.iload_n 2), am_i (.aload_n 0), am_f (.getfield 11) 4 0 false, none, none, am_i (.iload_n 1), am_i .baload, am_j (.if_icmp .eq 30) 61],
  [none, none, am_i (.aload_n 0), am_f (.getfield 15) 4 1 false, none, none, am_i (.iload_n 1), am_i .baload, am_j (.ifCond .ne 21) 61, none, none, am_i (.aload_n 0), am_i .dup, am_f (.getfield 26) 4 2 false, none, none],
  [am_i (.iload_n 2), am_j (.ifCond .eq 7) 56, none, none, am_i (.iconst 1), am_j (.goto 4) 57, none, none, am_i (.iconst (-1)), am_i .iadd, am_f (.putfield 26) 4 2 false, none, none, am_i (.aload_n 0), am_f (.getfield 11) 4 0 false, none],
  [none, am_i (.iload_n 1), am_i (.iload_n 2), am_i .bastore, am_i (.iconst 1), am_i .ireturn]]
/-- 175: TerminalHouse.spoil(I)Z -/
def am_c175 : List (List (Option am_I)) := [[am_i (.iload_n 1), am_t (.lookupswitch 43 #[(0, 27), (1, 35)]) 44 [(0, 28), (1, 36)], none, none, none, none, none, none, none, none, none, none, none, none, none, none],
  [none, none, none, none, none, none, none, none, none, none, none, none, am_i (.aload_n 0), am_f (.getfield 60) 11 11 false, none, none],
  [am_f (.invokevirtual 295) 176 0 false, none, none, am_i .ireturn, am_i (.aload_n 0), am_f (.getfield 64) 11 12 false, none, none, am_f (.invokevirtual 295) 176 0 false, none, none, am_i .ireturn, am_i (.iconst 0), am_i .ireturn]]
/-- 176: TerminalHouse$Wire.spoilByte()Z -/
def am_c176 : List (List (Option am_I)) := [[am_i (.aload_n 0), am_i (.aload_n 0), am_f (.getfield 9) 10 0 false, none, none, am_i (.iconst (-1)), am_j (.if_icmp .eq 7) 13, none, none, am_i (.iconst 1), am_j (.goto 4) 14, none, none, am_i (.iconst 0), am_f (.putfield 18) 10 2 false, none],
  [none, am_i (.aload_n 0), am_f (.getfield 18) 10 2 false, none, none, am_i .ireturn]]
/-- 177: TerminalHouse.ticks(I)I -/
def am_c177 : List (List (Option am_I)) := [[am_i (.iload_n 1), am_i (.iconst 1), am_j (.if_icmp .lt 10) 12, none, none, am_i (.iload_n 1), am_i (.sipush 2000), none, none, am_j (.if_icmp .le 5) 14, none, none, am_i (.iconst (-1)), am_i .ireturn, am_i (.iconst 0), am_i (.istore_n 2)],
  [am_i (.iload_n 2), am_i (.iload_n 1), am_j (.if_icmp .ge 183) 201, none, none, am_i (.aload_n 0), am_f (.getfield 298) 11 15 false, none, none, am_v0 (.ldc_w 301) (.int 1000000000), none, none, am_j (.if_icmp .ge 173) 201, none, none, am_i (.iinc 2 1)],
  [none, none, am_i (.aload_n 0), am_i .dup, am_f (.getfield 298) 11 15 false, none, none, am_i (.iconst 1), am_i .iadd, am_f (.putfield 298) 11 15 false, none, none, am_i (.aload_n 0), am_f (.getfield 60) 11 11 false, none, none],
  [am_i (.aload_n 0), am_f (.getfield 298) 11 15 false, none, none, am_f (.invokevirtual 302) 178 1 false, none, none, am_i (.istore_n 3), am_i (.iload_n 3), am_i (.iconst (-1)), am_j (.if_icmp .eq 11) 69, none, none, am_i (.aload_n 0), am_f (.getfield 76) 11 9 false, none],
  [none, am_i (.iload_n 3), am_f (.invokevirtual 305) 179 1 false, none, none, am_i (.aload_n 0), am_f (.getfield 64) 11 12 false, none, none, am_i (.aload_n 0), am_f (.getfield 298) 11 15 false, none, none, am_f (.invokevirtual 302) 178 1 false, none, none],
  [am_i (.istore_n 3), am_i (.iload_n 3), am_i (.iconst (-1)), am_j (.if_icmp .eq 18) 101, none, none, am_i (.iload_n 3), am_i (.sipush 256), none, none, am_j (.if_icmp .eq 11) 101, none, none, am_i (.aload_n 0), am_f (.getfield 46) 11 8 false, none],
  [none, am_i (.iload_n 3), am_f (.invokevirtual 308) 180 1 false, none, none, am_i (.aload_n 0), am_f (.getfield 298) 11 15 false, none, none, am_i (.iconst 4), am_i .irem, am_j (.ifCond .ne 18) 125, none, none, am_i (.aload_n 0), am_f (.getfield 53) 11 10 false],
  [none, none, am_i (.aload_n 0), am_f (.getfield 298) 11 15 false, none, none, am_i (.aload_n 0), am_f (.getfield 76) 11 9 false, none, none, am_f (.invokevirtual 309) 193 2 false, none, none, am_i (.aload_n 0), am_f (.getfield 76) 11 9 false, none],
  [none, am_f (.invokevirtual 313) 203 0 false, none, none, am_i (.aload_n 0), am_f (.getfield 64) 11 12 false, none, none, am_f (.invokevirtual 316) 244 0 false, none, none, am_j (.ifCond .eq 26) 165, none, none, am_i (.aload_n 0), am_f (.getfield 64) 11 12 false],
  [none, none, am_i (.aload_n 0), am_f (.getfield 76) 11 9 false, none, none, am_f (.invokevirtual 319) 245 0 false, none, none, am_i (.aload_n 0), am_f (.getfield 298) 11 15 false, none, none, am_i (.aload_n 0), am_f (.getfield 80) 11 13 false, none],
  [none, am_i .iadd, am_f (.invokevirtual 322) 246 2 false, none, none, am_i (.aload_n 0), am_f (.getfield 60) 11 11 false, none, none, am_f (.invokevirtual 316) 244 0 false, none, none, am_j (.ifCond .eq 26) 198, none, none, am_i (.aload_n 0)],
  [am_f (.getfield 60) 11 11 false, none, none, am_i (.aload_n 0), am_f (.getfield 46) 11 8 false, none, none, am_f (.invokevirtual 325) 247 0 false, none, none, am_i (.aload_n 0), am_f (.getfield 298) 11 15 false, none, none, am_i (.aload_n 0), am_f (.getfield 80) 11 13 false],
  [none, none, am_i .iadd, am_f (.invokevirtual 322) 246 2 false, none, none, am_j (.goto (-182)) 16, none, none, am_i (.iload_n 2), am_i .ireturn]]
/-- 178: TerminalHouse$Wire.arriving(I)I -/
def am_c178 : List (List (Option am_I)) := [[am_i (.aload_n 0), am_f (.getfield 9) 10 0 false, none, none, am_i (.iconst (-1)), am_j (.if_icmp .eq 11) 16, none, none, am_i (.iload_n 1), am_i (.aload_n 0), am_f (.getfield 15) 10 1 false, none, none, am_j (.if_icmp .ge 5) 18, none, none],
  [am_i (.iconst (-1)), am_i .ireturn, am_i (.aload_n 0), am_f (.getfield 18) 10 2 false, none, none, am_j (.ifCond .eq 9) 31, none, none, am_i (.sipush 256), none, none, am_j (.goto 7) 35, none, none, am_i (.aload_n 0)],
  [am_f (.getfield 9) 10 0 false, none, none, am_i (.istore_n 2), am_i (.aload_n 0), am_i (.iconst (-1)), am_f (.putfield 9) 10 0 false, none, none, am_i (.iload_n 2), am_i .ireturn]]
/-- 179: TerminalHouse$Terminal.receive(I)V -/
def am_c179 : List (List (Option am_I)) := [[am_i (.iload_n 1), am_i (.bipush 19), none, am_j (.if_icmp .eq 9) 12, none, none, am_i (.iload_n 1), am_i (.bipush 17), none, am_j (.if_icmp .ne 21) 30, none, none, am_i (.aload_n 0), am_i (.iload_n 1), am_i (.bipush 19), none],
  [am_j (.if_icmp .ne 7) 23, none, none, am_i (.iconst 1), am_j (.goto 4) 24, none, none, am_i (.iconst 0), am_f (.putfield 39) 8 6 false, none, none, am_j (.goto 24) 51, none, none, am_i (.aload_n 0), am_f (.getfield 14) 8 1 false],
  [none, none, am_i (.iload_n 1), am_f (.invokevirtual 43) 156 1 false, none, none, am_j (.ifCond .ne 13) 51, none, none, am_i (.aload_n 0), am_i .dup, am_f (.getfield 47) 8 8 false, none, none, am_i (.iconst 1), am_i .iadd],
  [am_f (.putfield 47) 8 8 false, none, none, am_i (.aload_n 0), am_f (.getfield 14) 8 1 false, none, none, am_f (.invokevirtual 51) 163 0 false, none, none, am_i (.bipush 48), none, am_j (.if_icmp .lt 8) 68, none, none, am_i (.aload_n 0)],
  [am_i (.iconst 1), am_f (.putfield 55) 8 4 false, none, none, am_i .return_]]
/-- 180: TerminalHouse$Discipline.receive(I)V -/
def am_c180 : List (List (Option am_I)) := [[am_i (.iload_n 1), am_i (.bipush 13), none, am_j (.if_icmp .ne 24) 27, none, none, am_i (.aload_n 0), am_i (.bipush 8), none, am_f (.invokevirtual 30) 162 1 false, none, none, am_j (.ifCond .eq 15) 27, none, none, am_i (.aload_n 0)],
  [am_f (.getfield 48) 1 5 false, none, none, am_j (.ifCond .ne 8) 27, none, none, am_i (.bipush 10), none, am_j (.goto 4) 28, none, none, am_i (.iload_n 1), am_i (.istore_n 2), am_i (.aload_n 0), am_i (.bipush 64), none],
  [am_f (.invokevirtual 30) 162 1 false, none, none, am_j (.ifCond .eq 33) 68, none, none, am_i (.iload_n 2), am_i (.bipush 19), none, am_j (.if_icmp .eq 9) 50, none, none, am_i (.iload_n 2), am_i (.bipush 17), none, am_j (.if_icmp .ne 21) 68],
  [none, none, am_i (.aload_n 0), am_i (.iload_n 2), am_i (.bipush 19), none, am_j (.if_icmp .ne 7) 61, none, none, am_i (.iconst 1), am_j (.goto 4) 62, none, none, am_i (.iconst 0), am_f (.putfield 76) 1 4 false, none],
  [none, am_j (.goto 65) 130, none, none, am_i (.aload_n 0), am_f (.getfield 48) 1 5 false, none, none, am_j (.ifCond .eq 16) 88, none, none, am_i (.aload_n 0), am_i (.iconst 0), am_f (.putfield 48) 1 5 false, none, none],
  [am_i (.aload_n 0), am_i (.iload_n 2), am_f (.invokevirtual 82) 181 1 false, none, none, am_j (.goto 45) 130, none, none, am_i (.aload_n 0), am_i (.bipush 32), none, am_f (.invokevirtual 30) 162 1 false, none, none, am_j (.ifCond .eq 15) 109, none],
  [none, am_i (.iload_n 2), am_i (.iconst 3), am_j (.if_icmp .ne 10) 109, none, none, am_i (.aload_n 0), am_f (.invokevirtual 85) 184 0 false, none, none, am_j (.goto 24) 130, none, none, am_i (.aload_n 0), am_i (.iconst 1), am_f (.invokevirtual 30) 162 1 false],
  [none, none, am_j (.ifCond .eq 11) 125, none, none, am_i (.aload_n 0), am_i (.iload_n 2), am_f (.invokevirtual 88) 185 1 false, none, none, am_j (.goto 8) 130, none, none, am_i (.aload_n 0), am_i (.iload_n 2), am_f (.invokevirtual 82) 181 1 false],
  [none, none, am_i .return_]]
/-- 181: TerminalHouse$Discipline.take(I)V -/
def am_c181 : List (List (Option am_I)) := [[am_i (.aload_n 0), am_f (.getfield 20) 1 1 false, none, none, am_f (.invokevirtual 34) 163 0 false, none, none, am_j (.ifCond .ne 7) 14, none, none, am_i (.iconst 1), am_j (.goto 4) 15, none, none, am_i (.iconst 0), am_i (.istore_n 2)],
  [am_i (.aload_n 0), am_i (.iconst 1), am_f (.invokevirtual 30) 162 1 false, none, none, am_j (.ifCond .eq 14) 35, none, none, am_i (.aload_n 0), am_f (.getfield 20) 1 1 false, none, none, am_i (.iload_n 1), am_f (.invokevirtual 42) 156 1 false, none, none],
  [am_j (.goto 11) 43, none, none, am_i (.aload_n 0), am_f (.getfield 23) 1 2 false, none, none, am_i (.iload_n 1), am_f (.invokevirtual 42) 156 1 false, none, none, am_i (.istore_n 3), am_i (.iload_n 3), am_j (.ifCond .ne 11) 56, none, none],
  [am_i (.aload_n 0), am_i (.bipush 7), none, am_f (.invokevirtual 94) 167 1 false, none, none, am_i .pop, am_i .return_, am_i (.iload_n 2), am_j (.ifCond .eq 19) 76, none, none, am_i (.aload_n 0), am_i (.iconst 1), am_f (.invokevirtual 30) 162 1 false, none],
  [none, am_j (.ifCond .eq 11) 76, none, none, am_i (.aload_n 0), am_i (.aload_n 0), am_f (.getfield 55) 1 7 false, none, none, am_f (.putfield 110) 1 8 false, none, none, am_i (.aload_n 0), am_i (.iload_n 1), am_f (.invokevirtual 113) 182 1 false, none],
  [none, am_i .return_]]
/-- 182: TerminalHouse$Discipline.echo(I)V -/
def am_c182 : List (List (Option am_I)) := [[am_i (.aload_n 0), am_i (.iconst 2), am_f (.invokevirtual 30) 162 1 false, none, none, am_j (.ifCond .ne 4) 9, none, none, am_i .return_, am_i (.iload_n 1), am_f (.invokestatic 116) 183 1 false, none, none, am_j (.ifCond .eq 12) 25, none, none],
  [am_i (.aload_n 0), am_i (.iload_n 1), am_f (.invokevirtual 94) 167 1 false, none, none, am_i .pop, am_j (.goto 19) 41, none, none, am_i (.aload_n 0), am_i (.bipush 94), none, am_f (.invokevirtual 94) 167 1 false, none, none, am_i .pop],
  [am_i (.aload_n 0), am_i (.iload_n 1), am_i (.bipush 64), none, am_i .ixor, am_f (.invokevirtual 94) 167 1 false, none, none, am_i .pop, am_i .return_]]
/-- 183: TerminalHouse$Discipline.isEchoedAsItself(I)Z -/
def am_c183 : List (List (Option am_I)) := [[am_i (.iload_n 0), am_i (.bipush 9), none, am_j (.if_icmp .eq 16) 19, none, none, am_i (.iload_n 0), am_i (.bipush 10), none, am_j (.if_icmp .eq 10) 19, none, none, am_i (.iload_n 0), am_f (.invokestatic 73) 110 1 true, none, none],
  [am_j (.ifCond .eq 7) 23, none, none, am_i (.iconst 1), am_j (.goto 4) 24, none, none, am_i (.iconst 0), am_i .ireturn]]
/-- 184: TerminalHouse$Discipline.interrupt()V -/
def am_c184 : List (List (Option am_I)) := [[am_i (.aload_n 0), am_i .dup, am_f (.getfield 91) 1 6 false, none, none, am_i (.iconst 1), am_i .iadd, am_f (.putfield 91) 1 6 false, none, none, am_i (.aload_n 0), am_f (.getfield 20) 1 1 false, none, none, am_f (.invokevirtual 45) 165 0 false, none],
  [none, am_i (.aload_n 0), am_f (.getfield 23) 1 2 false, none, none, am_f (.invokevirtual 45) 165 0 false, none, none, am_i (.aload_n 0), am_f (.getfield 14) 1 0 false, none, none, am_f (.invokevirtual 45) 165 0 false, none, none, am_i (.aload_n 0)],
  [am_i (.iconst 0), am_f (.putfield 48) 1 5 false, none, none, am_i (.aload_n 0), am_i (.iconst 0), am_f (.putfield 76) 1 4 false, none, none, am_i (.aload_n 0), am_i (.iconst 2), am_f (.invokevirtual 30) 162 1 false, none, none, am_j (.ifCond .eq 24) 70, none],
  [none, am_i (.aload_n 0), am_i (.bipush 94), none, am_f (.invokevirtual 94) 167 1 false, none, none, am_i .pop, am_i (.aload_n 0), am_i (.bipush 67), none, am_f (.invokevirtual 94) 167 1 false, none, none, am_i .pop, am_i (.aload_n 0)],
  [am_i (.bipush 10), none, am_f (.invokevirtual 94) 167 1 false, none, none, am_i .pop, am_i .return_]]
/-- 185: TerminalHouse$Discipline.edit(I)V -/
def am_c185 : List (List (Option am_I)) := [[am_i (.iload_n 1), am_t (.lookupswitch 161 #[(4, 145), (8, 105), (10, 153), (18, 138), (21, 124), (22, 75), (23, 113), (127, 105)]) 162 [(4, 146), (8, 106), (10, 154), (18, 139), (21, 125), (22, 76), (23, 114), (127, 106)], none, none, none, none, none, none, none, none, none, none, none, none, none, none],
  [none, none, none, none, none, none, none, none, none, none, none, none, none, none, none, none],
  [none, none, none, none, none, none, none, none, none, none, none, none, none, none, none, none],
  [none, none, none, none, none, none, none, none, none, none, none, none, none, none, none, none],
  [none, none, none, none, none, none, none, none, none, none, none, none, am_i (.aload_n 0), am_i (.iconst 1), am_f (.putfield 48) 1 5 false, none],
  [none, am_i (.aload_n 0), am_i (.iconst 2), am_f (.invokevirtual 30) 162 1 false, none, none, am_j (.ifCond .eq 81) 167, none, none, am_i (.aload_n 0), am_i (.bipush 94), none, am_f (.invokevirtual 94) 167 1 false, none, none, am_i .pop],
  [am_i (.aload_n 0), am_i (.bipush 8), none, am_f (.invokevirtual 94) 167 1 false, none, none, am_i .pop, am_j (.goto 64) 167, none, none, am_i (.aload_n 0), am_i (.iconst 1), am_f (.invokevirtual 97) 186 1 false, none, none, am_j (.goto 56) 167],
  [none, none, am_i (.aload_n 0), am_i (.aload_n 0), am_f (.invokevirtual 100) 190 0 false, none, none, am_f (.invokevirtual 97) 186 1 false, none, none, am_j (.goto 45) 167, none, none, am_i (.aload_n 0), am_i (.aload_n 0), am_f (.getfield 20) 1 1 false],
  [none, none, am_f (.invokevirtual 34) 163 0 false, none, none, am_f (.invokevirtual 97) 186 1 false, none, none, am_j (.goto 31) 167, none, none, am_i (.aload_n 0), am_f (.invokevirtual 103) 191 0 false, none, none, am_j (.goto 24) 167],
  [none, none, am_i (.aload_n 0), am_i (.iconst 0), am_f (.invokevirtual 106) 192 1 false, none, none, am_j (.goto 16) 167, none, none, am_i (.aload_n 0), am_i (.iconst 1), am_f (.invokevirtual 106) 192 1 false, none, none, am_j (.goto 8) 167],
  [none, none, am_i (.aload_n 0), am_i (.iload_n 1), am_f (.invokevirtual 82) 181 1 false, none, none, am_i .return_]]
/-- 186: TerminalHouse$Discipline.rubOut(I)V -/
def am_c186 : List (List (Option am_I)) := [[am_i (.iconst 0), am_i (.istore_n 2), am_i (.iload_n 2), am_i (.iload_n 1), am_j (.if_icmp .ge 48) 52, none, none, am_i (.aload_n 0), am_f (.getfield 20) 1 1 false, none, none, am_f (.invokevirtual 34) 163 0 false, none, none, am_j (.ifCond .le 38) 52, none],
  [none, am_i (.aload_n 0), am_f (.getfield 20) 1 1 false, none, none, am_f (.invokevirtual 125) 187 0 false, none, none, am_i (.istore_n 3), am_i (.aload_n 0), am_i (.iconst 2), am_f (.invokevirtual 30) 162 1 false, none, none, am_j (.ifCond .eq 16) 46, none],
  [none, am_i (.aload_n 0), am_i (.iconst 4), am_f (.invokevirtual 30) 162 1 false, none, none, am_j (.ifCond .eq 8) 46, none, none, am_i (.aload_n 0), am_i (.iload_n 3), am_f (.invokevirtual 128) 188 1 false, none, none, am_i (.iinc 2 1), none],
  [none, am_j (.goto (-47)) 2, none, none, am_i .return_]]
/-- 187: TerminalHouse$Bytes.takeLast()I -/
def am_c187 : List (List (Option am_I)) := [[am_i (.aload_n 0), am_i (.aload_n 0), am_f (.getfield 21) 0 2 false, none, none, am_i (.iconst 1), am_i .isub, am_f (.invokevirtual 28) 164 1 false, none, none, am_i (.istore_n 1), am_i (.aload_n 0), am_f (.getfield 21) 0 2 false, none, none, am_j (.ifCond .le 13) 28],
  [none, none, am_i (.aload_n 0), am_i .dup, am_f (.getfield 21) 0 2 false, none, none, am_i (.iconst 1), am_i .isub, am_f (.putfield 21) 0 2 false, none, none, am_i (.iload_n 1), am_i .ireturn]]
/-- 188: TerminalHouse$Discipline.unecho(I)V -/
def am_c188 : List (List (Option am_I)) := [[am_i (.iload_n 1), am_i (.bipush 9), none, am_j (.if_icmp .ne 34) 37, none, none, am_i (.aload_n 0), am_f (.invokevirtual 131) 189 0 false, none, none, am_i (.istore_n 2), am_i (.aload_n 0), am_f (.getfield 55) 1 7 false, none, none, am_i (.istore_n 3)],
  [am_i (.iload_n 3), am_i (.iload_n 2), am_j (.if_icmp .le 16) 34, none, none, am_i (.aload_n 0), am_i (.bipush 8), none, am_f (.invokevirtual 94) 167 1 false, none, none, am_i .pop, am_i (.iinc 3 (-1)), none, none, am_j (.goto (-15)) 16],
  [none, none, am_j (.goto 56) 90, none, none, am_i (.iload_n 1), am_i (.bipush 10), none, am_j (.if_icmp .eq 50) 90, none, none, am_i (.iload_n 1), am_f (.invokestatic 73) 110 1 true, none, none, am_j (.ifCond .eq 7) 54],
  [none, none, am_i (.iconst 1), am_j (.goto 4) 55, none, none, am_i (.iconst 2), am_i (.istore_n 2), am_i (.iconst 0), am_i (.istore_n 3), am_i (.iload_n 3), am_i (.iload_n 2), am_j (.if_icmp .ge 30) 90, none, none, am_i (.aload_n 0)],
  [am_i (.bipush 8), none, am_f (.invokevirtual 94) 167 1 false, none, none, am_i .pop, am_i (.aload_n 0), am_i (.bipush 32), none, am_f (.invokevirtual 94) 167 1 false, none, none, am_i .pop, am_i (.aload_n 0), am_i (.bipush 8), none],
  [am_f (.invokevirtual 94) 167 1 false, none, none, am_i .pop, am_i (.iinc 3 1), none, none, am_j (.goto (-29)) 58, none, none, am_i .return_]]
/-- 189: TerminalHouse$Discipline.columnOfEdited()I -/
def am_c189 : List (List (Option am_I)) := [[am_i (.aload_n 0), am_f (.getfield 110) 1 8 false, none, none, am_i (.istore_n 1), am_i (.iconst 0), am_i (.istore_n 2), am_i (.iload_n 2), am_i (.aload_n 0), am_f (.getfield 20) 1 1 false, none, none, am_f (.invokevirtual 34) 163 0 false, none, none, am_j (.if_icmp .ge 51) 66],
  [none, none, am_i (.aload_n 0), am_f (.getfield 20) 1 1 false, none, none, am_i (.iload_n 2), am_f (.invokevirtual 38) 164 1 false, none, none, am_i (.istore_n 3), am_i (.iload_n 3), am_f (.invokestatic 116) 183 1 false, none, none, am_j (.ifCond .eq 13) 44],
  [none, none, am_i (.aload_n 0), am_i (.iload_n 1), am_i (.iload_n 3), am_f (.invokevirtual 58) 169 2 false, none, none, am_i (.istore_n 1), am_j (.goto 19) 60, none, none, am_i (.aload_n 0), am_i (.aload_n 0), am_i (.iload_n 1), am_i (.bipush 94)],
  [none, am_f (.invokevirtual 58) 169 2 false, none, none, am_i (.iload_n 3), am_i (.bipush 64), none, am_i .ixor, am_f (.invokevirtual 58) 169 2 false, none, none, am_i (.istore_n 1), am_i (.iinc 2 1), none, none, am_j (.goto (-56)) 7],
  [none, none, am_i (.iload_n 1), am_i .ireturn]]
/-- 190: TerminalHouse$Discipline.wordLength()I -/
def am_c190 : List (List (Option am_I)) := [[am_i (.aload_n 0), am_f (.getfield 20) 1 1 false, none, none, am_f (.invokevirtual 34) 163 0 false, none, none, am_i (.istore_n 1), am_i (.iload_n 1), am_j (.ifCond .le 25) 34, none, none, am_i (.aload_n 0), am_f (.getfield 20) 1 1 false, none, none],
  [am_i (.iload_n 1), am_i (.iconst 1), am_i .isub, am_f (.invokevirtual 38) 164 1 false, none, none, am_f (.invokestatic 122) 29 1 true, none, none, am_j (.ifCond .eq 9) 34, none, none, am_i (.iinc 1 (-1)), none, none, am_j (.goto (-23)) 8],
  [none, none, am_i (.iload_n 1), am_j (.ifCond .le 25) 60, none, none, am_i (.aload_n 0), am_f (.getfield 20) 1 1 false, none, none, am_i (.iload_n 1), am_i (.iconst 1), am_i .isub, am_f (.invokevirtual 38) 164 1 false, none, none],
  [am_f (.invokestatic 122) 29 1 true, none, none, am_j (.ifCond .ne 9) 60, none, none, am_i (.iinc 1 (-1)), none, none, am_j (.goto (-23)) 34, none, none, am_i (.aload_n 0), am_f (.getfield 20) 1 1 false, none, none],
  [am_f (.invokevirtual 34) 163 0 false, none, none, am_i (.iload_n 1), am_i .isub, am_i .ireturn]]
/-- 191: TerminalHouse$Discipline.echoAnew()V -/
def am_c191 : List (List (Option am_I)) := [[am_i (.aload_n 0), am_i (.iconst 2), am_f (.invokevirtual 30) 162 1 false, none, none, am_j (.ifCond .ne 4) 9, none, none, am_i .return_, am_i (.aload_n 0), am_i (.bipush 94), none, am_f (.invokevirtual 94) 167 1 false, none, none, am_i .pop],
  [am_i (.aload_n 0), am_i (.bipush 82), none, am_f (.invokevirtual 94) 167 1 false, none, none, am_i .pop, am_i (.aload_n 0), am_i (.bipush 10), none, am_f (.invokevirtual 94) 167 1 false, none, none, am_i .pop, am_i (.aload_n 0), am_i (.aload_n 0)],
  [am_f (.getfield 55) 1 7 false, none, none, am_f (.putfield 110) 1 8 false, none, none, am_i (.iconst 0), am_i (.istore_n 1), am_i (.iload_n 1), am_i (.aload_n 0), am_f (.getfield 20) 1 1 false, none, none, am_f (.invokevirtual 34) 163 0 false, none, none],
  [am_j (.if_icmp .ge 21) 69, none, none, am_i (.aload_n 0), am_i (.aload_n 0), am_f (.getfield 20) 1 1 false, none, none, am_i (.iload_n 1), am_f (.invokevirtual 38) 164 1 false, none, none, am_f (.invokevirtual 113) 182 1 false, none, none, am_i (.iinc 1 1)],
  [none, none, am_j (.goto (-26)) 40, none, none, am_i .return_]]
/-- 192: TerminalHouse$Discipline.finishLine(Z)V -/
def am_c192 : List (List (Option am_I)) := [[am_i (.aload_n 0), am_f (.getfield 20) 1 1 false, none, none, am_f (.invokevirtual 34) 163 0 false, none, none, am_i (.iload_n 1), am_j (.ifCond .eq 7) 15, none, none, am_i (.iconst 2), am_j (.goto 4) 16, none, none, am_i (.iconst 1)],
  [am_i .iadd, am_i (.istore_n 2), am_i (.iload_n 2), am_i (.aload_n 0), am_f (.getfield 23) 1 2 false, none, none, am_f (.invokevirtual 119) 126 0 false, none, none, am_j (.if_icmp .le 11) 37, none, none, am_i (.aload_n 0), am_i (.bipush 7), none],
  [am_f (.invokevirtual 94) 167 1 false, none, none, am_i .pop, am_i .return_, am_i (.iconst 0), am_i (.istore_n 3), am_i (.iload_n 3), am_i (.aload_n 0), am_f (.getfield 20) 1 1 false, none, none, am_f (.invokevirtual 34) 163 0 false, none, none, am_j (.if_icmp .ge 25) 72],
  [none, none, am_i (.aload_n 0), am_f (.getfield 23) 1 2 false, none, none, am_i (.aload_n 0), am_f (.getfield 20) 1 1 false, none, none, am_i (.iload_n 3), am_f (.invokevirtual 38) 164 1 false, none, none, am_f (.invokevirtual 42) 156 1 false, none],
  [none, am_i .pop, am_i (.iinc 3 1), none, none, am_j (.goto (-30)) 39, none, none, am_i (.aload_n 0), am_f (.getfield 20) 1 1 false, none, none, am_f (.invokevirtual 45) 165 0 false, none, none, am_i (.iload_n 1)],
  [am_j (.ifCond .eq 13) 93, none, none, am_i (.aload_n 0), am_f (.getfield 23) 1 2 false, none, none, am_i (.bipush 10), none, am_f (.invokevirtual 42) 156 1 false, none, none, am_i .pop, am_i (.aload_n 0), am_f (.getfield 23) 1 2 false, none],
  [none, am_i (.sipush 256), none, none, am_f (.invokevirtual 42) 156 1 false, none, none, am_i .pop, am_i (.iload_n 1), am_j (.ifCond .eq 18) 123, none, none, am_i (.aload_n 0), am_i (.iconst 2), am_f (.invokevirtual 30) 162 1 false, none],
  [none, am_j (.ifCond .eq 10) 123, none, none, am_i (.aload_n 0), am_i (.bipush 10), none, am_f (.invokevirtual 94) 167 1 false, none, none, am_i .pop, am_i .return_]]
/-- 193: TerminalHouse$Keyboard.scan(ILTerminalHouse$Terminal;)V -/
def am_c193 : List (List (Option am_I)) := [[am_i (.aload_n 0), am_f (.getfield 26) 4 2 false, none, none, am_j (.ifCond .ne 4) 8, none, none, am_i .return_, am_i (.iconst 0), am_i (.istore_n 3), am_i (.iconst 0), am_i (.istore 4), none, am_i (.iload 4), none, am_i (.bipush 127)],
  [none, am_j (.if_icmp .ge 83) 100, none, none, am_i (.aload_n 0), am_f (.getfield 11) 4 0 false, none, none, am_i (.iload 4), none, am_i .baload, am_j (.ifCond .ne 12) 39, none, none, am_i (.aload_n 0), am_i (.iload 4)],
  [none, am_f (.invokevirtual 29) 194 1 false, none, none, am_j (.goto 58) 94, none, none, am_i (.aload_n 0), am_f (.getfield 15) 4 1 false, none, none, am_i (.iload 4), none, am_i .baload, am_j (.ifCond .ne 48) 94, none],
  [none, am_i (.iload_n 3), am_i (.iconst 3), am_j (.if_icmp .ge 43) 94, none, none, am_i (.iinc 3 1), none, none, am_i (.aload_n 0), am_f (.getfield 15) 4 1 false, none, none, am_i (.iload 4), none, am_i (.iconst 1)],
  [am_i .bastore, am_i (.aload_n 0), am_i (.iload 4), none, am_i (.aload_n 2), am_f (.invokevirtual 33) 195 2 false, none, none, am_i (.iload 4), none, am_f (.invokestatic 37) 202 1 false, none, none, am_j (.ifCond .eq 17) 94, none, none],
  [am_i (.aload_n 0), am_i (.iload 4), none, am_f (.putfield 18) 4 3 false, none, none, am_i (.aload_n 0), am_i (.iload_n 1), am_i (.bipush 32), none, am_i .iadd, am_f (.putfield 41) 4 4 false, none, none, am_i (.iinc 4 1), none],
  [none, am_j (.goto (-84)) 13, none, none, am_i (.aload_n 0), am_f (.getfield 18) 4 3 false, none, none, am_i (.iconst (-1)), am_j (.if_icmp .eq 39) 144, none, none, am_i (.aload_n 2), am_f (.getfield 44) 8 0 true, none, none],
  [am_i (.bipush 64), none, am_f (.invokevirtual 52) 197 1 false, none, none, am_j (.ifCond .eq 27) 144, none, none, am_i (.iload_n 1), am_i (.aload_n 0), am_f (.getfield 41) 4 4 false, none, none, am_j (.if_icmp .lt 19) 144, none, none],
  [am_i (.aload_n 0), am_i (.aload_n 0), am_f (.getfield 18) 4 3 false, none, none, am_i (.aload_n 2), am_f (.invokevirtual 33) 195 2 false, none, none, am_i (.aload_n 0), am_i (.iload_n 1), am_i (.iconst 4), am_i .iadd, am_f (.putfield 41) 4 4 false, none, none],
  [am_i .return_]]
/-- 194: TerminalHouse$Keyboard.release(I)V -/
def am_c194 : List (List (Option am_I)) := [[am_i (.aload_n 0), am_f (.getfield 15) 4 1 false, none, none, am_i (.iload_n 1), am_i .baload, am_j (.ifCond .eq 20) 26, none, none, am_i (.aload_n 0), am_f (.getfield 15) 4 1 false, none, none, am_i (.iload_n 1), am_i (.iconst 0), am_i .bastore],
  [am_i (.aload_n 0), am_i .dup, am_f (.getfield 26) 4 2 false, none, none, am_i (.iconst 1), am_i .isub, am_f (.putfield 26) 4 2 false, none, none, am_i (.aload_n 0), am_f (.getfield 18) 4 3 false, none, none, am_i (.iload_n 1), am_j (.if_icmp .ne 8) 39],
  [none, none, am_i (.aload_n 0), am_i (.iconst (-1)), am_f (.putfield 18) 4 3 false, none, none, am_i .return_]]
/-- 195: TerminalHouse$Keyboard.strike(ILTerminalHouse$Terminal;)V -/
def am_c195 : List (List (Option am_I)) := [[am_i (.iload_n 1), am_i (.bipush 27), none, am_j (.if_icmp .ne 20) 23, none, none, am_i (.aload_n 2), am_i (.aload_n 2), am_f (.getfield 55) 8 5 true, none, none, am_j (.ifCond .ne 7) 18, none, none, am_i (.iconst 1), am_j (.goto 4) 19],
  [none, none, am_i (.iconst 0), am_f (.putfield 55) 8 5 true, none, none, am_i .return_, am_i (.aload_n 0), am_i (.iload_n 1), am_i (.aload_n 2), am_f (.getfield 44) 8 0 true, none, none, am_f (.invokevirtual 59) 196 2 false, none, none],
  [am_i (.istore_n 3), am_i (.aload_n 2), am_f (.getfield 63) 8 2 true, none, none, am_i (.aload_n 0), am_f (.getfield 22) 4 5 false, none, none, am_i (.iload_n 3), am_f (.invokevirtual 67) 201 2 false, none, none, am_j (.ifCond .ne 16) 61, none, none],
  [am_i (.aload_n 2), am_f (.getfield 44) 8 0 true, none, none, am_i .dup, am_f (.getfield 73) 3 15 true, none, none, am_i (.iconst 1), am_i .iadd, am_f (.putfield 73) 3 15 true, none, none, am_i .return_]]
/-- 196: TerminalHouse$Keyboard.bytesOf(ILTerminalHouse$Glass;)I -/
def am_c196 : List (List (Option am_I)) := [[am_i (.aload_n 2), am_i (.sipush 128), none, none, am_f (.invokevirtual 52) 197 1 false, none, none, am_i (.istore_n 3), am_i (.iload_n 1), am_i (.iconst 4), am_j (.if_icmp .ge 27) 37, none, none, am_i (.aload_n 0), am_i (.aload_n 2), am_i (.iconst 4)],
  [am_f (.invokevirtual 52) 197 1 false, none, none, am_j (.ifCond .eq 8) 27, none, none, am_i (.bipush 79), none, am_j (.goto 5) 29, none, none, am_i (.bipush 91), none, am_i (.bipush 65), none, am_i (.iload_n 1)],
  [am_i .iadd, am_f (.invokevirtual 76) 198 2 false, none, none, am_i .ireturn, am_i (.iload_n 1), am_i (.bipush 8), none, am_j (.if_icmp .ge 16) 56, none, none, am_i (.aload_n 0), am_i (.bipush 79), none, am_i (.bipush 80), none],
  [am_i (.iload_n 1), am_i .iadd, am_i (.iconst 4), am_i .isub, am_f (.invokevirtual 76) 198 2 false, none, none, am_i .ireturn, am_i (.iload_n 1), am_i (.bipush 21), none, am_j (.if_icmp .ge 41) 100, none, none, am_i (.iload_n 1), am_i (.bipush 8)],
  [none, am_i .isub, am_i (.istore 4), none, am_i (.iload_n 3), am_j (.ifCond .eq 19) 88, none, none, am_i (.aload_n 0), am_i (.bipush 79), none, am_v0 (.ldc 80) (.retAddr 2), none, am_i (.iload 4), none, am_j (.invokevirtual 82) 1007],
  [none, none, am_f (.invokevirtual 76) 198 2 false, none, none, am_j (.goto 14) 99, none, none, am_i (.aload_n 0), am_v0 (.ldc 88) (.retAddr 3), none, am_i (.iload 4), none, am_j (.invokevirtual 82) 1007, none, none],
  [am_f (.invokevirtual 90) 199 1 false, none, none, am_i .ireturn, am_i (.iload_n 1), am_i (.bipush 21), none, am_j (.if_icmp .ne 16) 119, none, none, am_i (.iload_n 3), am_j (.ifCond .eq 12) 119, none, none, am_i (.aload_n 0), am_i (.bipush 79)],
  [none, am_i (.bipush 77), none, am_f (.invokevirtual 76) 198 2 false, none, none, am_i .ireturn, am_i (.iload_n 1), am_i (.bipush 22), none, am_j (.if_icmp .gt 32) 154, none, none, am_i (.aload_n 0), am_f (.getfield 22) 4 5 false, none],
  [none, am_i (.iconst 1), am_i (.bipush 10), none, am_i .iastore, am_i (.aload_n 0), am_i (.bipush 13), none, am_f (.invokevirtual 90) 199 1 false, none, none, am_i (.aload_n 2), am_i (.iconst 2), am_f (.invokevirtual 52) 197 1 false, none, none],
  [am_j (.ifCond .eq 7) 151, none, none, am_i (.iconst 1), am_j (.goto 4) 152, none, none, am_i (.iconst 0), am_i .iadd, am_i .ireturn, am_i (.iload_n 1), am_t (.tableswitch 67 23 28 #[37, 44, 51, 58, 67, 65]) 222 [(23, 192), (24, 199), (25, 206), (26, 213), (27, 222), (28, 220)], none, none, none, none],
  [none, none, none, none, none, none, none, none, none, none, none, none, none, none, none, none],
  [none, none, none, none, none, none, none, none, none, none, none, none, none, none, none, none],
  [am_i (.aload_n 0), am_i (.bipush 9), none, am_f (.invokevirtual 90) 199 1 false, none, none, am_i .ireturn, am_i (.aload_n 0), am_i (.bipush 8), none, am_f (.invokevirtual 90) 199 1 false, none, none, am_i .ireturn, am_i (.aload_n 0), am_i (.bipush 127)],
  [none, am_f (.invokevirtual 90) 199 1 false, none, none, am_i .ireturn, am_i (.aload_n 0), am_i (.bipush 27), none, am_f (.invokevirtual 90) 199 1 false, none, none, am_i .ireturn, am_i (.iconst 0), am_i .ireturn, am_i (.aload_n 0), am_i (.aload_n 0)],
  [am_f (.getfield 11) 4 0 false, none, none, am_i (.bipush 28), none, am_i .baload, am_j (.ifCond .eq 10) 240, none, none, am_i (.iload_n 1), am_f (.invokestatic 94) 200 1 false, none, none, am_j (.goto 4) 241, none, none],
  [am_i (.iload_n 1), am_f (.invokevirtual 90) 199 1 false, none, none, am_i .ireturn]]
/-- 197: TerminalHouse$Glass.has(I)Z -/
def am_c197 : List (List (Option am_I)) := [[am_i (.aload_n 0), am_f (.getfield 51) 3 10 false, none, none, am_i (.iload_n 1), am_i .iand, am_j (.ifCond .eq 7) 13, none, none, am_i (.iconst 1), am_j (.goto 4) 14, none, none, am_i (.iconst 0), am_i .ireturn]]
/-- 198: TerminalHouse$Keyboard.three(II)I -/
def am_c198 : List (List (Option am_I)) := [[am_i (.aload_n 0), am_f (.getfield 22) 4 5 false, none, none, am_i (.iconst 0), am_i (.bipush 27), none, am_i .iastore, am_i (.aload_n 0), am_f (.getfield 22) 4 5 false, none, none, am_i (.iconst 1), am_i (.iload_n 1), am_i .iastore, am_i (.aload_n 0)],
  [am_f (.getfield 22) 4 5 false, none, none, am_i (.iconst 2), am_i (.iload_n 2), am_i .iastore, am_i (.iconst 3), am_i .ireturn]]
/-- 199: TerminalHouse$Keyboard.one(I)I -/
def am_c199 : List (List (Option am_I)) := [[am_i (.aload_n 0), am_f (.getfield 22) 4 5 false, none, none, am_i (.iconst 0), am_i (.iload_n 1), am_i .iastore, am_i (.iconst 1), am_i .ireturn]]
/-- 200: TerminalHouse$Keyboard.controlled(I)I -/
def am_c200 : List (List (Option am_I)) := [[am_i (.iload_n 0), am_i (.bipush 64), none, am_j (.if_icmp .lt 9) 12, none, none, am_i (.iload_n 0), am_i (.bipush 95), none, am_j (.if_icmp .le 15) 24, none, none, am_i (.iload_n 0), am_i (.bipush 97), none, am_j (.if_icmp .lt 14) 29],
  [none, none, am_i (.iload_n 0), am_i (.bipush 122), none, am_j (.if_icmp .gt 8) 29, none, none, am_i (.iload_n 0), am_i (.bipush 31), none, am_i .iand, am_i .ireturn, am_i (.iload_n 0), am_i (.bipush 63), none],
  [am_j (.if_icmp .ne 8) 40, none, none, am_i (.bipush 127), none, am_j (.goto 4) 41, none, none, am_i (.iload_n 0), am_i .ireturn]]
/-- 201: TerminalHouse$Bytes.addWhole([II)Z -/
def am_c201 : List (List (Option am_I)) := [[am_i (.iload_n 2), am_i (.aload_n 0), am_f (.getfield 15) 0 0 false, none, none, am_i .arraylength, am_i (.aload_n 0), am_f (.getfield 21) 0 2 false, none, none, am_i .isub, am_j (.if_icmp .gt 9) 20, none, none, am_i (.iload_n 2), am_i (.aload_n 1)],
  [am_i .arraylength, am_j (.if_icmp .le 5) 22, none, none, am_i (.iconst 0), am_i .ireturn, am_i (.iconst 0), am_i (.istore_n 3), am_i (.iload_n 3), am_i (.iload_n 2), am_j (.if_icmp .ge 34) 60, none, none, am_i (.aload_n 0), am_f (.getfield 15) 0 0 false, none],
  [none, am_i (.aload_n 0), am_f (.getfield 25) 0 1 false, none, none, am_i (.aload_n 0), am_f (.getfield 21) 0 2 false, none, none, am_i .iadd, am_i (.iload_n 3), am_i .iadd, am_i (.aload_n 0), am_f (.getfield 15) 0 0 false, none, none],
  [am_i .arraylength, am_i .irem, am_i (.aload_n 1), am_i (.iload_n 3), am_i .iaload, am_i .iastore, am_i (.iinc 3 1), none, none, am_j (.goto (-33)) 24, none, none, am_i (.aload_n 0), am_i .dup, am_f (.getfield 21) 0 2 false, none],
  [none, am_i (.iload_n 2), am_i .iadd, am_f (.putfield 21) 0 2 false, none, none, am_i (.iconst 1), am_i .ireturn]]
/-- 202: TerminalHouse$Keyboard.isRepeatable(I)Z -/
def am_c202 : List (List (Option am_I)) := [[am_i (.iload_n 0), am_i (.bipush 22), none, am_j (.if_icmp .eq 31) 34, none, none, am_i (.iload_n 0), am_i (.bipush 23), none, am_j (.if_icmp .eq 25) 34, none, none, am_i (.iload_n 0), am_i (.bipush 26), none, am_j (.if_icmp .eq 19) 34],
  [none, none, am_i (.iload_n 0), am_i (.bipush 27), none, am_j (.if_icmp .eq 13) 34, none, none, am_i (.iload_n 0), am_i (.bipush 28), none, am_j (.if_icmp .eq 7) 34, none, none, am_i (.iconst 1), am_j (.goto 4) 35],
  [none, none, am_i (.iconst 0), am_i .ireturn]]
/-- 203: TerminalHouse$Terminal.act()V -/
def am_c203 : List (List (Option am_I)) := [[am_i (.aload_n 0), am_f (.getfield 35) 8 0 false, none, none, am_f (.getfield 58) 3 16 true, none, none, am_j (.ifCond .le 19) 26, none, none, am_i (.aload_n 0), am_f (.getfield 35) 8 0 false, none, none, am_i .dup, am_f (.getfield 58) 3 16 true],
  [none, none, am_i (.iconst 1), am_i .isub, am_f (.putfield 58) 3 16 true, none, none, am_j (.goto 50) 73, none, none, am_i (.aload_n 0), am_f (.getfield 61) 8 5 false, none, none, am_j (.ifCond .ne 43) 73, none],
  [none, am_i (.aload_n 0), am_f (.getfield 14) 8 1 false, none, none, am_f (.invokevirtual 51) 163 0 false, none, none, am_j (.ifCond .le 33) 73, none, none, am_i (.aload_n 0), am_f (.getfield 14) 8 1 false, none, none, am_f (.invokevirtual 64) 172 0 false],
  [none, none, am_i (.istore_n 1), am_i (.aload_n 0), am_f (.getfield 14) 8 1 false, none, none, am_f (.invokevirtual 51) 163 0 false, none, none, am_i (.bipush 16), none, am_j (.if_icmp .gt 8) 68, none, none, am_i (.aload_n 0)],
  [am_i (.iconst 0), am_f (.putfield 55) 8 4 false, none, none, am_i (.aload_n 0), am_i (.iload_n 1), am_f (.invokevirtual 67) 204 1 false, none, none, am_i .return_]]
/-- 204: TerminalHouse$Terminal.readByte(I)V -/
def am_c204 : List (List (Option am_I)) := [[am_i (.iload_n 1), am_i (.sipush 256), none, none, am_j (.if_icmp .eq 9) 13, none, none, am_i (.iload_n 1), am_i (.bipush 26), none, am_j (.if_icmp .ne 21) 31, none, none, am_i (.aload_n 0), am_i (.iconst 0), am_f (.putfield 73) 8 9 false],
  [none, none, am_i (.aload_n 0), am_f (.getfield 35) 8 0 false, none, none, am_i (.sipush 225), none, none, am_f (.invokevirtual 76) 205 1 false, none, none, am_j (.goto 161) 189, none, none, am_i (.iload_n 1)],
  [am_i (.bipush 24), none, am_j (.if_icmp .ne 11) 45, none, none, am_i (.aload_n 0), am_i (.iconst 0), am_f (.putfield 73) 8 9 false, none, none, am_j (.goto 147) 189, none, none, am_i (.iload_n 1), am_i (.bipush 27), none],
  [am_j (.if_icmp .ne 16) 64, none, none, am_i (.aload_n 0), am_i (.iconst 1), am_f (.putfield 73) 8 9 false, none, none, am_i (.aload_n 0), am_i (.iconst 0), am_f (.putfield 79) 8 10 false, none, none, am_j (.goto 128) 189, none, none],
  [am_i (.iload_n 1), am_j (.ifCond .eq 9) 74, none, none, am_i (.iload_n 1), am_i (.bipush 127), none, am_j (.if_icmp .lt 4) 75, none, none, am_i .return_, am_i (.aload_n 0), am_f (.getfield 73) 8 9 false, none, none, am_i (.iconst 5)],
  [am_j (.if_icmp .ne 21) 101, none, none, am_i (.aload_n 0), am_i (.iload_n 1), am_i (.bipush 7), none, am_j (.if_icmp .ne 7) 94, none, none, am_i (.iconst 0), am_j (.goto 4) 95, none, none, am_i (.iconst 5), am_f (.putfield 73) 8 9 false],
  [none, none, am_j (.goto 91) 189, none, none, am_i (.iload_n 1), am_i (.bipush 32), none, am_j (.if_icmp .ge 11) 115, none, none, am_i (.aload_n 0), am_i (.iload_n 1), am_f (.invokevirtual 82) 209 1 false, none, none],
  [am_j (.goto 77) 189, none, none, am_i (.aload_n 0), am_f (.getfield 73) 8 9 false, none, none, am_j (.ifCond .ne 14) 133, none, none, am_i (.aload_n 0), am_f (.getfield 35) 8 0 false, none, none, am_i (.iload_n 1), am_f (.invokevirtual 85) 211 1 false],
  [none, none, am_j (.goto 59) 189, none, none, am_i (.aload_n 0), am_f (.getfield 73) 8 9 false, none, none, am_i (.iconst 1), am_j (.if_icmp .ne 11) 149, none, none, am_i (.aload_n 0), am_i (.iload_n 1), am_f (.invokevirtual 88) 212 1 false],
  [none, none, am_j (.goto 43) 189, none, none, am_i (.aload_n 0), am_f (.getfield 73) 8 9 false, none, none, am_i (.iconst 3), am_j (.if_icmp .ne 11) 165, none, none, am_i (.aload_n 0), am_i (.iload_n 1), am_f (.invokevirtual 91) 223 1 false],
  [none, none, am_j (.goto 27) 189, none, none, am_i (.iload_n 1), am_i (.aload_n 0), am_f (.getfield 73) 8 9 false, none, none, am_i (.iconst 2), am_j (.if_icmp .ne 8) 179, none, none, am_i (.bipush 48), none],
  [am_j (.goto 5) 181, none, none, am_i (.bipush 64), none, am_j (.if_icmp .lt 8) 189, none, none, am_i (.aload_n 0), am_i (.iconst 0), am_f (.putfield 73) 8 9 false, none, none, am_i .return_]]
/-- 205: TerminalHouse$Glass.printSign(I)V -/
def am_c205 : List (List (Option am_I)) := [[am_i (.aload_n 0), am_f (.getfield 83) 3 7 false, none, none, am_j (.ifCond .eq 21) 25, none, none, am_i (.aload_n 0), am_i (.bipush 32), none, am_f (.invokevirtual 87) 197 1 false, none, none, am_j (.ifCond .eq 12) 25, none, none],
  [am_i (.aload_n 0), am_i (.iconst 0), am_f (.putfield 76) 3 6 false, none, none, am_i (.aload_n 0), am_f (.invokevirtual 104) 206 0 false, none, none, am_i (.aload_n 0), am_f (.invokevirtual 79) 17 0 false, none, none, am_i (.istore_n 2), am_i (.aload_n 0), am_i (.iconst 1)],
  [am_f (.invokevirtual 87) 197 1 false, none, none, am_j (.ifCond .eq 25) 60, none, none, am_i (.aload_n 0), am_f (.getfield 26) 3 2 false, none, none, am_i (.aload_n 0), am_f (.invokevirtual 107) 208 0 false, none, none, am_i (.iload_n 2), am_i (.aload_n 0)],
  [am_f (.getfield 76) 3 6 false, none, none, am_i .isub, am_i (.iconst 1), am_i .iadd, am_i (.iconst 1), am_i (.bipush 32), none, am_f (.invokestatic 110) 108 5 true, none, none, am_i (.aload_n 0), am_f (.getfield 26) 3 2 false, none, none],
  [am_i (.aload_n 0), am_f (.invokevirtual 107) 208 0 false, none, none, am_i (.iload_n 1), am_i (.sipush 256), none, none, am_i (.aload_n 0), am_f (.getfield 54) 3 11 false, none, none, am_i .imul, am_i .iadd, am_i .iastore, am_i (.aload_n 0)],
  [am_i (.aload_n 0), am_f (.getfield 76) 3 6 false, none, none, am_i (.iload_n 2), am_j (.if_icmp .lt 16) 101, none, none, am_i (.aload_n 0), am_i (.bipush 32), none, am_f (.invokevirtual 87) 197 1 false, none, none, am_j (.ifCond .eq 7) 101, none],
  [none, am_i (.iconst 1), am_j (.goto 4) 102, none, none, am_i (.iconst 0), am_f (.putfield 83) 3 7 false, none, none, am_i (.aload_n 0), am_f (.getfield 76) 3 6 false, none, none, am_i (.iload_n 2), am_j (.if_icmp .ge 13) 123, none],
  [none, am_i (.aload_n 0), am_i .dup, am_f (.getfield 76) 3 6 false, none, none, am_i (.iconst 1), am_i .iadd, am_f (.putfield 76) 3 6 false, none, none, am_i .return_]]
/-- 206: TerminalHouse$Glass.index()V -/
def am_c206 : List (List (Option am_I)) := [[am_i (.aload_n 0), am_f (.getfield 73) 3 5 false, none, none, am_i (.aload_n 0), am_f (.getfield 48) 3 9 false, none, none, am_j (.if_icmp .ne 24) 32, none, none, am_i (.aload_n 0), am_i (.aload_n 0), am_f (.getfield 45) 3 8 false, none, none],
  [am_i (.aload_n 0), am_f (.getfield 48) 3 9 false, none, none, am_i (.iconst (-1)), am_f (.invokevirtual 114) 207 3 false, none, none, am_i (.aload_n 0), am_i (.iconst 0), am_f (.putfield 83) 3 7 false, none, none, am_j (.goto 17) 46, none, none],
  [am_i (.aload_n 0), am_i (.aload_n 0), am_f (.getfield 73) 3 5 false, none, none, am_i (.iconst 1), am_i .iadd, am_i (.aload_n 0), am_f (.getfield 76) 3 6 false, none, none, am_f (.invokevirtual 66) 16 2 false, none, none, am_i .return_]]
/-- 207: TerminalHouse$Glass.slideRows(III)V -/
def am_c207 : List (List (Option am_I)) := [[am_i (.iload_n 3), am_i (.aload_n 0), am_f (.getfield 19) 3 0 false, none, none, am_i .ineg, am_i (.aload_n 0), am_f (.getfield 19) 3 0 false, none, none, am_f (.invokestatic 15) 10 3 true, none, none, am_i (.istore 4), none, am_i (.aload_n 0)],
  [am_f (.getfield 26) 3 2 false, none, none, am_i (.iload_n 1), am_i (.aload_n 0), am_f (.getfield 23) 3 1 false, none, none, am_i .imul, am_i (.iload_n 2), am_i (.iload_n 1), am_i .isub, am_i (.iconst 1), am_i .iadd, am_i (.aload_n 0), am_f (.getfield 23) 3 1 false],
  [none, none, am_i .imul, am_i (.iload 4), none, am_i (.aload_n 0), am_f (.getfield 23) 3 1 false, none, none, am_i .imul, am_i (.bipush 32), none, am_f (.invokestatic 110) 108 5 true, none, none, am_i (.aload_n 0)],
  [am_f (.getfield 29) 3 3 false, none, none, am_i (.iload_n 1), am_i (.iload_n 2), am_i (.iload_n 1), am_i .isub, am_i (.iconst 1), am_i .iadd, am_i (.iload 4), none, am_i (.iconst 0), am_f (.invokestatic 110) 108 5 true, none, none, am_i (.aload_n 0)],
  [am_i (.iconst 3), am_f (.putfield 118) 3 16 false, none, none, am_i .return_]]
/-- 208: TerminalHouse$Glass.here()I -/
def am_c208 : List (List (Option am_I)) := [[am_i (.aload_n 0), am_f (.getfield 73) 3 5 false, none, none, am_i (.aload_n 0), am_f (.getfield 23) 3 1 false, none, none, am_i .imul, am_i (.aload_n 0), am_f (.getfield 76) 3 6 false, none, none, am_i .iadd, am_i .ireturn]]
/-- 209: TerminalHouse$Terminal.control(I)V -/
def am_c209 : List (List (Option am_I)) := [[am_i (.iload_n 1), am_t (.tableswitch 179 7 15 #[51, 67, 93, 103, 103, 103, 139, 157, 168]) 180 [(7, 52), (8, 68), (9, 94), (10, 104), (11, 104), (12, 104), (13, 140), (14, 158), (15, 169)], none, none, none, none, none, none, none, none, none, none, none, none, none, none],
  [none, none, none, none, none, none, none, none, none, none, none, none, none, none, none, none],
  [none, none, none, none, none, none, none, none, none, none, none, none, none, none, none, none],
  [none, none, none, none, am_i (.aload_n 0), am_f (.getfield 35) 8 0 false, none, none, am_i .dup, am_f (.getfield 94) 3 15 true, none, none, am_i (.iconst 1), am_i .iadd, am_f (.putfield 94) 3 15 true, none],
  [none, am_j (.goto 115) 180, none, none, am_i (.aload_n 0), am_f (.getfield 35) 8 0 false, none, none, am_i (.aload_n 0), am_f (.getfield 35) 8 0 false, none, none, am_f (.getfield 97) 3 5 true, none, none, am_i (.aload_n 0)],
  [am_f (.getfield 35) 8 0 false, none, none, am_f (.getfield 100) 3 6 true, none, none, am_i (.iconst 1), am_i .isub, am_f (.invokevirtual 103) 16 2 false, none, none, am_j (.goto 89) 180, none, none, am_i (.aload_n 0), am_f (.getfield 35) 8 0 false],
  [none, none, am_f (.invokevirtual 106) 210 0 false, none, none, am_j (.goto 79) 180, none, none, am_i (.aload_n 0), am_f (.getfield 35) 8 0 false, none, none, am_i (.iconst 2), am_f (.invokevirtual 109) 197 1 false, none, none],
  [am_j (.ifCond .eq 18) 130, none, none, am_i (.aload_n 0), am_f (.getfield 35) 8 0 false, none, none, am_i (.aload_n 0), am_f (.getfield 35) 8 0 false, none, none, am_f (.getfield 97) 3 5 true, none, none, am_i (.iconst 0), am_f (.invokevirtual 103) 16 2 false],
  [none, none, am_i (.aload_n 0), am_f (.getfield 35) 8 0 false, none, none, am_f (.invokevirtual 112) 206 0 false, none, none, am_j (.goto 43) 180, none, none, am_i (.aload_n 0), am_f (.getfield 35) 8 0 false, none, none],
  [am_i (.aload_n 0), am_f (.getfield 35) 8 0 false, none, none, am_f (.getfield 97) 3 5 true, none, none, am_i (.iconst 0), am_f (.invokevirtual 103) 16 2 false, none, none, am_j (.goto 25) 180, none, none, am_i (.aload_n 0), am_f (.getfield 35) 8 0 false],
  [none, none, am_i (.iconst 1), am_f (.putfield 115) 3 13 true, none, none, am_j (.goto 14) 180, none, none, am_i (.aload_n 0), am_f (.getfield 35) 8 0 false, none, none, am_i (.iconst 0), am_f (.putfield 115) 3 13 true, none],
  [none, am_j (.goto 3) 180, none, none, am_i .return_]]
/-- 210: TerminalHouse$Glass.goToNextStop()V -/
def am_c210 : List (List (Option am_I)) := [[am_i (.aload_n 0), am_f (.invokevirtual 79) 17 0 false, none, none, am_i (.istore_n 1), am_i (.aload_n 0), am_f (.getfield 76) 3 6 false, none, none, am_i (.iload_n 1), am_j (.if_icmp .lt 4) 14, none, none, am_i .return_, am_i (.aload_n 0), am_f (.getfield 76) 3 6 false],
  [none, none, am_i (.iconst 1), am_i .iadd, am_i (.istore_n 2), am_i (.iload_n 2), am_i (.iload_n 1), am_j (.if_icmp .ge 18) 41, none, none, am_i (.aload_n 0), am_f (.getfield 32) 3 4 false, none, none, am_i (.iload_n 2), am_i .baload],
  [am_j (.ifCond .ne 9) 41, none, none, am_i (.iinc 2 1), none, none, am_j (.goto (-17)) 21, none, none, am_i (.aload_n 0), am_i (.aload_n 0), am_f (.getfield 73) 3 5 false, none, none, am_i (.iload_n 2), am_f (.invokevirtual 66) 16 2 false],
  [none, none, am_i .return_]]
/-- 211: TerminalHouse$Glass.print(I)V -/
def am_c211 : List (List (Option am_I)) := [[am_i (.aload_n 0), am_f (.getfield 57) 3 12 false, none, none, am_i (.aload_n 0), am_f (.getfield 60) 3 13 false, none, none, am_i .ishr, am_i (.iconst 1), am_i .iand, am_j (.ifCond .eq 13) 24, none, none, am_i (.iload_n 1), am_i (.bipush 95)],
  [none, am_j (.if_icmp .lt 7) 24, none, none, am_i (.iconst 1), am_j (.goto 4) 25, none, none, am_i (.iconst 0), am_i (.istore_n 2), am_i (.aload_n 0), am_i (.iload_n 2), am_j (.ifCond .eq 11) 39, none, none, am_i (.iload_n 1)],
  [am_i (.sipush 128), none, none, am_i .iadd, am_j (.goto 4) 40, none, none, am_i (.iload_n 1), am_f (.invokevirtual 100) 205 1 false, none, none, am_i .return_]]
/-- 212: TerminalHouse$Terminal.readEscape(I)V -/
def am_c212 : List (List (Option am_I)) := [[am_i (.iload_n 1), am_i (.bipush 48), none, am_j (.if_icmp .ge 53) 56, none, none, am_i (.aload_n 0), am_f (.getfield 79) 8 10 false, none, none, am_j (.ifCond .ne 25) 35, none, none, am_i (.iload_n 1), am_i (.bipush 35), none],
  [am_j (.if_icmp .eq 15) 31, none, none, am_i (.iload_n 1), am_i (.bipush 40), none, am_j (.if_icmp .eq 9) 31, none, none, am_i (.iload_n 1), am_i (.bipush 41), none, am_j (.if_icmp .ne 7) 35, none, none, am_i (.iconst 1)],
  [am_j (.goto 4) 36, none, none, am_i (.iconst 0), am_i (.istore_n 2), am_i (.aload_n 0), am_i (.iload_n 2), am_j (.ifCond .eq 7) 46, none, none, am_i (.iconst 1), am_j (.goto 4) 47, none, none, am_i (.iconst 2), am_f (.putfield 73) 8 9 false],
  [none, none, am_i (.aload_n 0), am_i (.iload_n 1), am_f (.putfield 79) 8 10 false, none, none, am_i .return_, am_i (.aload_n 0), am_i (.iconst 0), am_f (.putfield 73) 8 9 false, none, none, am_i (.aload_n 0), am_f (.getfield 79) 8 10 false, none],
  [none, am_t (.lookupswitch 77 #[(0, 43), (35, 51), (40, 59), (41, 68)]) 142 [(0, 108), (35, 116), (40, 124), (41, 133)], none, none, none, none, none, none, none, none, none, none, none, none, none, none],
  [none, none, none, none, none, none, none, none, none, none, none, none, none, none, none, none],
  [none, none, none, none, none, none, none, none, none, none, none, none, am_i (.aload_n 0), am_i (.iload_n 1), am_f (.invokevirtual 118) 213 1 false, none],
  [none, am_j (.goto 29) 142, none, none, am_i (.aload_n 0), am_i (.iload_n 1), am_f (.invokevirtual 121) 219 1 false, none, none, am_j (.goto 21) 142, none, none, am_i (.aload_n 0), am_i (.iconst 1), am_i (.iload_n 1), am_f (.invokevirtual 124) 222 2 false],
  [none, none, am_j (.goto 12) 142, none, none, am_i (.aload_n 0), am_i (.iconst 2), am_i (.iload_n 1), am_f (.invokevirtual 124) 222 2 false, none, none, am_j (.goto 3) 142, none, none, am_i .return_]]
