/-- 73: TerminalHouse$Entry.isUsable()Z -/
def am_c73 : List (List (Option am_I)) := [[am_i (.aload_n 0), am_i (.iconst 3), am_f (.invokevirtual 64) 74 1 false, none, none, am_j (.ifCond .eq 75) 80, none, none, am_i (.aload_n 0), am_f (.getfield 22) 2 4 false, none, none, am_i (.iconst 3), am_i .iaload, am_i (.iconst 4), am_j (.if_icmp .lt 65) 80],
  [none, none, am_i (.aload_n 0), am_f (.getfield 22) 2 4 false, none, none, am_i (.iconst 3), am_i .iaload, am_i (.bipush 80), none, am_j (.if_icmp .gt 54) 80, none, none, am_i (.aload_n 0), am_i (.iconst 4), am_f (.invokevirtual 64) 74 1 false],
  [none, none, am_j (.ifCond .eq 46) 80, none, none, am_i (.aload_n 0), am_f (.getfield 22) 2 4 false, none, none, am_i (.iconst 4), am_i .iaload, am_i (.iconst 2), am_j (.if_icmp .lt 36) 80, none, none, am_i (.aload_n 0)],
  [am_f (.getfield 22) 2 4 false, none, none, am_i (.iconst 4), am_i .iaload, am_i (.bipush 24), none, am_j (.if_icmp .gt 25) 80, none, none, am_i (.aload_n 0), am_i (.bipush 7), none, am_f (.invokevirtual 64) 74 1 false, none, none],
  [am_j (.ifCond .eq 16) 80, none, none, am_i (.aload_n 0), am_i (.bipush 9), none, am_f (.invokevirtual 64) 74 1 false, none, none, am_j (.ifCond .eq 7) 80, none, none, am_i (.iconst 1), am_j (.goto 4) 81, none, none],
  [am_i (.iconst 0), am_i .ireturn]]
/-- 74: TerminalHouse$Entry.has(I)Z -/
def am_c74 : List (List (Option am_I)) := [[am_i (.aload_n 0), am_f (.getfield 18) 2 3 false, none, none, am_i (.iload_n 1), am_i .baload, am_i .ireturn]]
/-- 75: TerminalHouse.closeWindows()V -/
def am_c75 : List (List (Option am_I)) := [[am_i (.iconst 0), am_i (.istore_n 1), am_i (.iload_n 1), am_i (.bipush 8), none, am_j (.if_icmp .ge 19) 24, none, none, am_i (.aload_n 0), am_f (.getfield 39) 11 7 false, none, none, am_i (.iload_n 1), am_i .aaload, am_i (.iconst 0), am_f (.putfield 178) 9 1 true],
  [none, none, am_i (.iinc 1 1), none, none, am_j (.goto (-19)) 2, none, none, am_i .return_]]
/-- 76: TerminalHouse$Painter.begin(LTerminalHouse$Entry;LTerminalHouse$Machine;)V -/
def am_c76 : List (List (Option am_I)) := [[am_i (.aload_n 0), am_i (.aload_n 1), am_f (.putfield 42) 6 6 false, none, none, am_i (.aload_n 0), am_i (.aload_n 2), am_f (.putfield 46) 6 7 false, none, none, am_i (.aload_n 0), am_i (.aload_n 0), am_f (.getfield 42) 6 6 false, none, none, am_i (.iconst 4)],
  [am_f (.invokevirtual 50) 77 1 false, none, none, am_i (.iconst 1), am_i (.bipush 24), none, am_f (.invokestatic 56) 10 3 true, none, none, am_f (.putfield 60) 6 8 false, none, none, am_i (.aload_n 0), am_i (.aload_n 0), am_f (.getfield 42) 6 6 false, none],
  [none, am_i (.iconst 3), am_f (.invokevirtual 50) 77 1 false, none, none, am_i (.iconst 1), am_i (.bipush 80), none, am_f (.invokestatic 56) 10 3 true, none, none, am_f (.putfield 64) 6 9 false, none, none, am_i (.aload_n 0), am_f (.getfield 12) 6 0 false],
  [none, none, am_i (.iconst 0), am_i (.iconst 0), am_i (.aload_n 0), am_f (.getfield 60) 6 8 false, none, none, am_i (.aload_n 0), am_f (.getfield 64) 6 9 false, none, none, am_f (.invokevirtual 67) 78 4 false, none, none, am_i (.aload_n 0)],
  [am_f (.getfield 18) 6 1 false, none, none, am_i (.iconst 0), am_i (.iconst 0), am_i (.aload_n 0), am_f (.getfield 60) 6 8 false, none, none, am_i (.aload_n 0), am_f (.getfield 64) 6 9 false, none, none, am_f (.invokevirtual 67) 78 4 false, none, none],
  [am_i (.aload_n 0), am_i (.iconst 0), am_f (.putfield 71) 6 12 false, none, none, am_i (.aload_n 0), am_i (.iconst 1), am_f (.putfield 75) 6 13 false, none, none, am_i (.aload_n 0), am_i (.iconst 0), am_f (.putfield 78) 6 14 false, none, none, am_i (.aload_n 0)],
  [am_i (.aload_n 0), am_f (.getfield 42) 6 6 false, none, none, am_i (.bipush 21), none, am_f (.invokevirtual 81) 74 1 false, none, none, am_j (.ifCond .eq 25) 130, none, none, am_i (.aload_n 0), am_f (.getfield 42) 6 6 false, none, none],
  [am_i (.iconst 5), am_f (.invokevirtual 81) 74 1 false, none, none, am_j (.ifCond .eq 14) 130, none, none, am_i (.aload_n 0), am_f (.getfield 42) 6 6 false, none, none, am_i (.iconst 5), am_f (.invokevirtual 50) 77 1 false, none, none, am_j (.goto 4) 131],
  [none, none, am_i (.iconst 0), am_f (.putfield 85) 6 11 false, none, none, am_i (.aload_n 0), am_i (.iconst 0), am_f (.putfield 88) 6 10 false, none, none, am_i (.iconst 0), am_i (.istore_n 3), am_i (.iload_n 3), am_i (.iconst 4), am_j (.if_icmp .ge 47) 190],
  [none, none, am_i (.aload_n 0), am_f (.getfield 42) 6 6 false, none, none, am_i (.bipush 26), none, am_i (.iload_n 3), am_i .iadd, am_f (.invokevirtual 81) 74 1 false, none, none, am_j (.ifCond .eq 27) 184, none, none],
  [am_i (.aload_n 0), am_f (.getfield 42) 6 6 false, none, none, am_i (.bipush 25), none, am_f (.invokevirtual 81) 74 1 false, none, none, am_j (.ifCond .eq 15) 184, none, none, am_i (.aload_n 0), am_i .dup, am_f (.getfield 88) 6 10 false, none],
  [none, am_i (.iconst 1), am_i (.iload_n 3), am_i .ishl, am_i .ior, am_f (.putfield 88) 6 10 false, none, none, am_i (.iinc 3 1), none, none, am_j (.goto (-46)) 141, none, none, am_i (.aload_n 0), am_f (.invokevirtual 91) 79 0 false],
  [none, none, am_i .return_]]
/-- 77: TerminalHouse$Entry.number(I)I -/
def am_c77 : List (List (Option am_I)) := [[am_i (.aload_n 0), am_f (.getfield 22) 2 4 false, none, none, am_i (.iload_n 1), am_i .iaload, am_i .ireturn]]
/-- 78: TerminalHouse$Window.begin(IIII)V -/
def am_c78 : List (List (Option am_I)) := [[am_i (.aload_n 0), am_i (.iconst 1), am_f (.putfield 15) 9 1 false, none, none, am_i (.aload_n 0), am_i (.iload_n 1), am_f (.putfield 19) 9 2 false, none, none, am_i (.aload_n 0), am_i (.iload_n 2), am_f (.putfield 23) 9 3 false, none, none, am_i (.aload_n 0)],
  [am_i (.iload_n 3), am_i (.iconst 1), am_i (.bipush 24), none, am_f (.invokestatic 26) 10 3 true, none, none, am_f (.putfield 30) 9 4 false, none, none, am_i (.aload_n 0), am_i (.iload 4), none, am_i (.iconst 1), am_i (.bipush 80), none],
  [am_f (.invokestatic 26) 10 3 true, none, none, am_f (.putfield 33) 9 5 false, none, none, am_i (.aload_n 0), am_i (.iconst 0), am_f (.putfield 36) 9 6 false, none, none, am_i (.aload_n 0), am_i (.iconst 0), am_f (.putfield 39) 9 7 false, none, none],
  [am_i (.aload_n 0), am_i (.iconst 0), am_f (.putfield 42) 9 8 false, none, none, am_i (.aload_n 0), am_i (.iconst 0), am_f (.putfield 45) 9 9 false, none, none, am_i (.aload_n 0), am_f (.getfield 9) 9 0 false, none, none, am_i (.iconst 0), am_i (.aload_n 0)],
  [am_f (.getfield 30) 9 4 false, none, none, am_i (.aload_n 0), am_f (.getfield 33) 9 5 false, none, none, am_i .imul, am_i (.bipush 32), none, am_f (.invokestatic 48) 14 4 false, none, none, am_i .return_]]
/-- 79: TerminalHouse$Painter.measureStrings()V -/
def am_c79 : List (List (Option am_I)) := [[am_i (.bipush 6), none, am_i (.istore_n 1), am_i (.iload_n 1), am_i (.bipush 39), none, am_j (.if_icmp .ge 21) 27, none, none, am_i (.aload_n 0), am_f (.getfield 31) 6 15 false, none, none, am_i (.iload_n 1), am_i (.aload_n 0), am_i (.iload_n 1)],
  [am_i (.iconst 0), am_f (.invokevirtual 94) 80 2 false, none, none, am_i .iastore, am_i (.iinc 1 1), none, none, am_j (.goto (-21)) 3, none, none, am_i (.bipush 14), none, am_i (.istore_n 1), am_i (.iload_n 1), am_i (.bipush 19)],
  [none, am_j (.if_icmp .gt 40) 73, none, none, am_i (.iconst 0), am_i (.istore_n 2), am_i (.iload_n 2), am_i (.bipush 80), none, am_j (.if_icmp .ge 26) 67, none, none, am_i (.aload_n 0), am_f (.getfield 36) 6 16 false, none, none],
  [am_i (.iload_n 1), am_i (.bipush 14), none, am_i .isub, am_i .aaload, am_i (.iload_n 2), am_i (.aload_n 0), am_i (.iload_n 1), am_i (.iload_n 2), am_f (.invokevirtual 94) 80 2 false, none, none, am_i .iastore, am_i (.iinc 2 1), none, none],
  [am_j (.goto (-26)) 38, none, none, am_i (.iinc 1 1), none, none, am_j (.goto (-40)) 30, none, none, am_i .return_]]
/-- 80: TerminalHouse$Painter.measured(II)I -/
def am_c80 : List (List (Option am_I)) := [[am_i (.aload_n 0), am_f (.getfield 42) 6 6 false, none, none, am_i (.iload_n 1), am_f (.invokevirtual 81) 74 1 false, none, none, am_j (.ifCond .ne 6) 14, none, none, am_v0 (.ldc 98) (.int 1000000), none, am_i .ireturn, am_i (.aload_n 0), am_f (.getfield 46) 6 7 false],
  [none, none, am_i (.iload_n 2), am_i (.iconst 0), am_i (.iconst 0), am_i (.iconst 0), am_f (.invokevirtual 99) 81 4 false, none, none, am_i (.aload_n 0), am_f (.getfield 46) 6 7 false, none, none, am_i (.aload_n 0), am_f (.getfield 42) 6 6 false, none],
  [none, am_i (.iload_n 1), am_f (.invokevirtual 104) 82 2 false, none, none, am_i .ireturn]]
/-- 81: TerminalHouse$Machine.setParameters(IIII)V -/
def am_c81 : List (List (Option am_I)) := [[am_i (.aload_n 0), am_f (.getfield 15) 5 2 false, none, none, am_i (.iconst 0), am_i (.iload_n 1), am_i .iastore, am_i (.aload_n 0), am_f (.getfield 15) 5 2 false, none, none, am_i (.iconst 1), am_i (.iload_n 2), am_i .iastore, am_i (.aload_n 0), am_f (.getfield 15) 5 2 false],
  [none, none, am_i (.iconst 2), am_i (.iload_n 3), am_i .iastore, am_i (.aload_n 0), am_f (.getfield 15) 5 2 false, none, none, am_i (.iconst 3), am_i (.iload 4), none, am_i .iastore, am_i .return_]]
/-- 82: TerminalHouse$Machine.putTogether(LTerminalHouse$Entry;I)I -/
def am_c82 : List (List (Option am_I)) := [[am_i (.aload_n 1), am_f (.getfield 31) 2 5 true, none, none, am_i (.astore_n 3), am_i (.iload_n 2), am_f (.invokestatic 36) 60 1 false, none, none, am_i (.istore 4), none, am_i (.iload 4), none, am_i (.aload_n 1), am_i (.iload_n 2), am_f (.invokevirtual 40) 65 1 false],
  [none, none, am_i .iadd, am_i (.istore 5), none, am_i (.aload_n 0), am_i (.iconst 0), am_f (.putfield 43) 5 1 false, none, none, am_i (.aload_n 0), am_i (.iconst 0), am_f (.putfield 47) 5 4 false, none, none, am_i (.iconst 0)],
  [am_i (.istore 6), none, am_i (.iload 6), none, am_i (.bipush 40), none, am_j (.if_icmp .ge 305) 343, none, none, am_i (.iload 4), none, am_i (.iload 5), none, am_j (.if_icmp .ge 298) 343, none, none],
  [am_i (.aload_n 3), am_i (.iload 4), none, am_i (.iload 5), none, am_f (.invokestatic 27) 58 3 false, none, none, am_i (.istore 7), none, am_i (.iload 4), none, am_i (.iconst 1), am_i (.iload 7), none, am_j (.invokestatic 50) 1002],
  [none, none, am_i .iadd, am_i (.istore 8), none, am_i (.iload 7), none, am_i (.iconst 2), am_j (.if_icmp .ge 14) 86, none, none, am_i (.aload_n 0), am_i (.aload_n 3), am_i (.iload 4), none, am_i .iaload],
  [am_f (.invokevirtual 56) 83 1 false, none, none, am_j (.goto 250) 333, none, none, am_i (.aload_n 3), am_i (.iload 4), none, am_i (.iconst 1), am_i .iadd, am_i .iaload, am_i (.istore 9), none, am_i (.iload 9), none],
  [am_t (.lookupswitch 231 #[(39, 218), (48, 156), (50, 138), (51, 138), (100, 124), (101, 110), (112, 195), (116, 84), (123, 178)]) 327 [(39, 314), (48, 252), (50, 234), (51, 234), (100, 220), (101, 206), (112, 291), (116, 180), (123, 274)], none, none, none, none, none, none, none, none, none, none, none, none, none, none, none],
  [none, none, none, none, none, none, none, none, none, none, none, none, none, none, none, none],
  [none, none, none, none, none, none, none, none, none, none, none, none, none, none, none, none],
  [none, none, none, none, none, none, none, none, none, none, none, none, none, none, none, none],
  [none, none, none, none, none, none, none, none, none, none, none, none, none, none, none, none],
  [none, none, none, none, am_i (.aload_n 0), am_f (.invokevirtual 60) 84 0 false, none, none, am_j (.ifCond .ne 15) 199, none, none, am_i (.aload_n 3), am_i (.iload 8), none, am_i (.iload 5), none],
  [am_i (.iconst 1), am_f (.invokestatic 64) 85 4 false, none, none, am_j (.goto 5) 201, none, none, am_i (.iload 8), none, am_i (.istore 8), none, am_j (.goto 130) 333, none, none, am_i (.aload_n 3), am_i (.iload 8)],
  [none, am_i (.iload 5), none, am_i (.iconst 0), am_f (.invokestatic 64) 85 4 false, none, none, am_i (.istore 8), none, am_j (.goto 116) 333, none, none, am_i (.aload_n 0), am_i (.aload_n 0), am_f (.invokevirtual 60) 84 0 false, none],
  [none, am_i (.iconst 0), am_i (.bipush 32), none, am_f (.invokevirtual 68) 86 3 false, none, none, am_j (.goto 102) 333, none, none, am_i (.aload_n 0), am_i (.aload_n 0), am_f (.invokevirtual 60) 84 0 false, none, none, am_i (.iload 9)],
  [none, am_i (.bipush 48), none, am_i .isub, am_i (.bipush 32), none, am_f (.invokevirtual 68) 86 3 false, none, none, am_j (.goto 84) 333, none, none, am_i (.aload_n 0), am_i (.aload_n 0), am_f (.invokevirtual 60) 84 0 false, none],
  [none, am_i (.aload_n 3), am_i (.iload 4), none, am_i (.iconst 2), am_i .iadd, am_i .iaload, am_i (.bipush 48), none, am_i .isub, am_i (.bipush 48), none, am_f (.invokevirtual 68) 86 3 false, none, none, am_j (.goto 62) 333],
  [none, none, am_i (.aload_n 0), am_i (.aload_n 3), am_i (.iload 4), none, am_i (.iconst 2), am_i .iadd, am_i (.iload 5), none, am_f (.invokestatic 72) 87 3 false, none, none, am_f (.invokevirtual 75) 88 1 false, none, none],
  [am_j (.goto 45) 333, none, none, am_i (.aload_n 0), am_i (.aload_n 0), am_f (.getfield 15) 5 2 false, none, none, am_i (.aload_n 3), am_i (.iload 4), none, am_i (.iconst 2), am_i .iadd, am_i .iaload, am_i (.bipush 49), none],
  [am_i .isub, am_i (.iconst 3), am_i .iand, am_i .iaload, am_f (.invokevirtual 75) 88 1 false, none, none, am_j (.goto 22) 333, none, none, am_i (.aload_n 0), am_i (.aload_n 3), am_i (.iload 4), none, am_i (.iconst 2), am_i .iadd],
  [am_i .iaload, am_f (.invokevirtual 75) 88 1 false, none, none, am_j (.goto 9) 333, none, none, am_i (.aload_n 0), am_i (.iload 9), none, am_f (.invokevirtual 78) 89 1 false, none, none, am_i (.iload 8), none, am_i (.istore 4)],
  [none, am_i (.iinc 6 1), none, none, am_j (.goto (-306)) 34, none, none, am_i (.aload_n 0), am_f (.getfield 47) 5 4 false, none, none, am_i .ireturn]]
/-- 83: TerminalHouse$Machine.make(I)V -/
def am_c83 : List (List (Option am_I)) := [[am_i (.aload_n 0), am_f (.getfield 47) 5 4 false, none, none, am_i (.bipush 60), none, am_j (.if_icmp .ge 23) 29, none, none, am_i (.aload_n 0), am_f (.getfield 18) 5 3 false, none, none, am_i (.aload_n 0), am_f (.getfield 47) 5 4 false, none],
  [none, am_i (.iload_n 1), am_i .iastore, am_i (.aload_n 0), am_i .dup, am_f (.getfield 47) 5 4 false, none, none, am_i (.iconst 1), am_i .iadd, am_f (.putfield 47) 5 4 false, none, none, am_i .return_]]
/-- 84: TerminalHouse$Machine.pop()I -/
def am_c84 : List (List (Option am_I)) := [[am_i (.aload_n 0), am_f (.getfield 43) 5 1 false, none, none, am_j (.ifCond .ne 5) 9, none, none, am_i (.iconst 0), am_i .ireturn, am_i (.aload_n 0), am_i .dup, am_f (.getfield 43) 5 1 false, none, none, am_i (.iconst 1), am_i .isub],
  [am_f (.putfield 43) 5 1 false, none, none, am_i (.aload_n 0), am_f (.getfield 11) 5 0 false, none, none, am_i (.aload_n 0), am_f (.getfield 43) 5 1 false, none, none, am_i .iaload, am_i .ireturn]]
/-- 85: TerminalHouse$Machine.skip([IIIZ)I -/
def am_c85 : List (List (Option am_I)) := [[am_i (.iconst 0), am_i (.istore 4), none, am_i (.iload_n 1), am_i (.istore 5), none, am_i (.iload 5), none, am_i (.iload_n 2), am_j (.if_icmp .ge 93) 102, none, none, am_i (.iconst 1), am_i (.aload_n 0), am_i (.iload 5), none],
  [am_i (.iload_n 2), am_f (.invokestatic 27) 58 3 false, none, none, am_j (.invokestatic 50) 1002, none, none, am_i (.istore 6), none, am_i (.iload 6), none, am_i (.iconst 2), am_j (.if_icmp .ne 12) 40, none, none, am_i (.aload_n 0)],
  [am_i (.iload 5), none, am_i (.iconst 1), am_i .iadd, am_i .iaload, am_j (.goto 4) 41, none, none, am_i (.iconst (-1)), am_i (.istore 7), none, am_i (.iload 5), none, am_i (.iload 6), none, am_i .iadd],
  [am_i (.istore 5), none, am_i (.iload 4), none, am_j (.ifCond .ne 24) 76, none, none, am_i (.iload 7), none, am_i (.bipush 59), none, am_j (.if_icmp .eq 14) 73, none, none, am_i (.iload 7), none],
  [am_i (.bipush 101), none, am_j (.if_icmp .ne 10) 76, none, none, am_i (.iload_n 3), am_j (.ifCond .eq 6) 76, none, none, am_i (.iload 5), none, am_i .ireturn, am_i (.iload 7), none, am_i (.bipush 63), none],
  [am_j (.if_icmp .ne 9) 89, none, none, am_i (.iinc 4 1), none, none, am_j (.goto 13) 99, none, none, am_i (.iload 7), none, am_i (.bipush 59), none, am_j (.if_icmp .ne 6) 99, none, none],
  [am_i (.iinc 4 (-1)), none, none, am_j (.goto (-93)) 6, none, none, am_i (.iload_n 2), am_i .ireturn]]
/-- 86: TerminalHouse$Machine.makeDecimal(III)V -/
def am_c86 : List (List (Option am_I)) := [[am_i (.iload_n 1), am_j (.ifCond .ge 9) 10, none, none, am_i (.iload_n 1), am_i .i2l, am_i .lneg, am_j (.goto 5) 12, none, none, am_i (.iload_n 1), am_i .i2l, am_i (.lstore 4), none, am_i (.lconst 1), am_i (.lstore 6)],
  [none, am_i (.iload_n 1), am_j (.ifCond .ge 7) 25, none, none, am_i (.iconst 2), am_j (.goto 4) 26, none, none, am_i (.iconst 1), am_i (.istore 8), none, am_i (.iload 8), none, am_i (.bipush 12), none],
  [am_j (.if_icmp .ge 29) 61, none, none, am_i (.lload 4), none, am_v0 (.ldc2_w 85) (.long 10), none, none, am_i .ldiv, am_i (.lload 6), none, am_i .lcmp, am_j (.ifCond .lt 17) 61, none, none, am_i (.lload 6)],
  [none, am_v0 (.ldc2_w 85) (.long 10), none, none, am_i .lmul, am_i (.lstore 6), none, am_i (.iinc 8 1), none, none, am_j (.goto (-30)) 28, none, none, am_i (.iload_n 1), am_j (.ifCond .ge 15) 77, none],
  [none, am_i (.iload_n 3), am_i (.bipush 32), none, am_j (.if_icmp .eq 9) 77, none, none, am_i (.aload_n 0), am_i (.bipush 45), none, am_f (.invokevirtual 56) 83 1 false, none, none, am_i (.iload 8), none, am_i (.istore 9)],
  [none, am_i (.iload 9), none, am_i (.iload_n 2), am_j (.if_icmp .ge 14) 98, none, none, am_i (.aload_n 0), am_i (.iload_n 3), am_f (.invokevirtual 56) 83 1 false, none, none, am_i (.iinc 9 1), none, none, am_j (.goto (-14)) 81],
  [none, none, am_i (.iload_n 1), am_j (.ifCond .ge 15) 114, none, none, am_i (.iload_n 3), am_i (.bipush 32), none, am_j (.if_icmp .ne 9) 114, none, none, am_i (.aload_n 0), am_i (.bipush 45), none, am_f (.invokevirtual 56) 83 1 false],
  [none, none, am_i (.lload 6), none, am_i (.lconst 0), am_i .lcmp, am_j (.ifCond .le 31) 149, none, none, am_i (.aload_n 0), am_i (.bipush 48), none, am_i (.lload 4), none, am_i (.lload 6), none],
  [am_i .ldiv, am_v0 (.ldc2_w 85) (.long 10), none, none, am_i .lrem, am_i .l2i, am_i .iadd, am_f (.invokevirtual 56) 83 1 false, none, none, am_i (.lload 6), none, am_v0 (.ldc2_w 85) (.long 10), none, none, am_i .ldiv],
  [am_i (.lstore 6), none, am_j (.goto (-32)) 114, none, none, am_i .return_]]
/-- 87: TerminalHouse$Machine.numberAt([III)I -/
def am_c87 : List (List (Option am_I)) := [[am_i (.iconst 0), am_i (.istore_n 3), am_i (.iconst 0), am_i (.istore 4), none, am_i (.iload 4), none, am_i (.iconst 5), am_j (.if_icmp .ge 44) 52, none, none, am_i (.iload_n 1), am_i (.iload 4), none, am_i .iadd, am_i (.iload_n 2)],
  [am_j (.if_icmp .ge 36) 52, none, none, am_i (.aload_n 0), am_i (.iload_n 1), am_i (.iload 4), none, am_i .iadd, am_i .iaload, am_f (.invokestatic 23) 35 1 true, none, none, am_j (.ifCond .eq 24) 52, none, none, am_i (.iload_n 3)],
  [am_i (.bipush 10), none, am_i .imul, am_i (.aload_n 0), am_i (.iload_n 1), am_i (.iload 4), none, am_i .iadd, am_i .iaload, am_i .iadd, am_i (.bipush 48), none, am_i .isub, am_i (.istore_n 3), am_i (.iinc 4 1), none],
  [none, am_j (.goto (-44)) 5, none, none, am_i (.iload_n 3), am_i .ireturn]]
/-- 88: TerminalHouse$Machine.push(I)V -/
def am_c88 : List (List (Option am_I)) := [[am_i (.aload_n 0), am_f (.getfield 43) 5 1 false, none, none, am_i (.bipush 8), none, am_j (.if_icmp .ge 23) 29, none, none, am_i (.aload_n 0), am_f (.getfield 11) 5 0 false, none, none, am_i (.aload_n 0), am_f (.getfield 43) 5 1 false, none],
  [none, am_i (.iload_n 1), am_i .iastore, am_i (.aload_n 0), am_i .dup, am_f (.getfield 43) 5 1 false, none, none, am_i (.iconst 1), am_i .iadd, am_f (.putfield 43) 5 1 false, none, none, am_i .return_]]
/-- 89: TerminalHouse$Machine.operate(I)V -/
def am_c89 : List (List (Option am_I)) := [[am_i (.iload_n 1), am_t (.lookupswitch 149 #[(33, 114), (37, 67), (59, 146), (63, 146), (99, 76), (105, 91), (126, 133)]) 150 [(33, 115), (37, 68), (59, 147), (63, 147), (99, 77), (105, 92), (126, 134)], none, none, none, none, none, none, none, none, none, none, none, none, none, none],
  [none, none, none, none, none, none, none, none, none, none, none, none, none, none, none, none],
  [none, none, none, none, none, none, none, none, none, none, none, none, none, none, none, none],
  [none, none, none, none, none, none, none, none, none, none, none, none, none, none, none, none],
  [none, none, none, none, am_i (.aload_n 0), am_i (.bipush 37), none, am_f (.invokevirtual 56) 83 1 false, none, none, am_j (.goto 96) 170, none, none, am_i (.aload_n 0), am_i (.aload_n 0), am_f (.invokevirtual 60) 84 0 false],
  [none, none, am_i (.sipush 255), none, none, am_i .iand, am_f (.invokevirtual 56) 83 1 false, none, none, am_j (.goto 81) 170, none, none, am_i (.aload_n 0), am_f (.getfield 15) 5 2 false, none, none],
  [am_i (.iconst 0), am_i .dup2, am_i .iaload, am_i (.iconst 1), am_i .iadd, am_i .iastore, am_i (.aload_n 0), am_f (.getfield 15) 5 2 false, none, none, am_i (.iconst 1), am_i .dup2, am_i .iaload, am_i (.iconst 1), am_i .iadd, am_i .iastore],
  [am_j (.goto 58) 170, none, none, am_i (.aload_n 0), am_i (.aload_n 0), am_f (.invokevirtual 60) 84 0 false, none, none, am_j (.ifCond .ne 7) 127, none, none, am_i (.iconst 1), am_j (.goto 4) 128, none, none, am_i (.iconst 0)],
  [am_f (.invokevirtual 75) 88 1 false, none, none, am_j (.goto 39) 170, none, none, am_i (.aload_n 0), am_i (.aload_n 0), am_f (.invokevirtual 60) 84 0 false, none, none, am_i (.iconst (-1)), am_i .ixor, am_f (.invokevirtual 75) 88 1 false, none, none],
  [am_j (.goto 26) 170, none, none, am_j (.goto 23) 170, none, none, am_i (.aload_n 0), am_f (.invokevirtual 60) 84 0 false, none, none, am_i (.istore_n 2), am_i (.aload_n 0), am_f (.invokevirtual 60) 84 0 false, none, none, am_i (.istore_n 3)],
  [am_i (.aload_n 0), am_i (.iload_n 1), am_i (.iload_n 3), am_i (.iload_n 2), am_f (.invokestatic 81) 90 3 false, none, none, am_f (.invokevirtual 75) 88 1 false, none, none, am_i .return_]]
/-- 90: TerminalHouse$Machine.combined(III)I -/
def am_c90 : List (List (Option am_I)) := [[am_i (.iload_n 0), am_t (.lookupswitch 228 #[(38, 155), (42, 123), (43, 115), (45, 119), (47, 127), (60, 178), (61, 167), (62, 189), (65, 200), (79, 214), (94, 163), (109, 139), (124, 159)]) 229 [(38, 156), (42, 124), (43, 116), (45, 120), (47, 128), (60, 179), (61, 168), (62, 190), (65, 201), (79, 215), (94, 164), (109, 140), (124, 160)], none, none, none, none, none, none, none, none, none, none, none, none, none, none],
  [none, none, none, none, none, none, none, none, none, none, none, none, none, none, none, none],
  [none, none, none, none, none, none, none, none, none, none, none, none, none, none, none, none],
  [none, none, none, none, none, none, none, none, none, none, none, none, none, none, none, none],
  [none, none, none, none, none, none, none, none, none, none, none, none, none, none, none, none],
  [none, none, none, none, none, none, none, none, none, none, none, none, none, none, none, none],
  [none, none, none, none, none, none, none, none, none, none, none, none, none, none, none, none],
  [none, none, none, none, am_i (.iload_n 1), am_i (.iload_n 2), am_i .iadd, am_i .ireturn, am_i (.iload_n 1), am_i (.iload_n 2), am_i .isub, am_i .ireturn, am_i (.iload_n 1), am_i (.iload_n 2), am_i .imul, am_i .ireturn],
  [am_i (.iload_n 2), am_j (.ifCond .ne 7) 136, none, none, am_i (.iconst 0), am_j (.goto 6) 139, none, none, am_i (.iload_n 1), am_i (.iload_n 2), am_i .idiv, am_i .ireturn, am_i (.iload_n 2), am_j (.ifCond .ne 7) 148, none, none],
  [am_i (.iconst 0), am_j (.goto 10) 155, none, none, am_i (.iload_n 1), am_i (.iload_n 1), am_i (.iload_n 2), am_i .idiv, am_i (.iload_n 2), am_i .imul, am_i .isub, am_i .ireturn, am_i (.iload_n 1), am_i (.iload_n 2), am_i .iand, am_i .ireturn],
  [am_i (.iload_n 1), am_i (.iload_n 2), am_i .ior, am_i .ireturn, am_i (.iload_n 1), am_i (.iload_n 2), am_i .ixor, am_i .ireturn, am_i (.iload_n 1), am_i (.iload_n 2), am_j (.if_icmp .ne 7) 177, none, none, am_i (.iconst 1), am_j (.goto 4) 178, none],
  [none, am_i (.iconst 0), am_i .ireturn, am_i (.iload_n 1), am_i (.iload_n 2), am_j (.if_icmp .ge 7) 188, none, none, am_i (.iconst 1), am_j (.goto 4) 189, none, none, am_i (.iconst 0), am_i .ireturn, am_i (.iload_n 1), am_i (.iload_n 2)],
  [am_j (.if_icmp .le 7) 199, none, none, am_i (.iconst 1), am_j (.goto 4) 200, none, none, am_i (.iconst 0), am_i .ireturn, am_i (.iload_n 1), am_j (.ifCond .eq 11) 213, none, none, am_i (.iload_n 2), am_j (.ifCond .eq 7) 213, none],
  [none, am_i (.iconst 1), am_j (.goto 4) 214, none, none, am_i (.iconst 0), am_i .ireturn, am_i (.iload_n 1), am_j (.ifCond .ne 7) 223, none, none, am_i (.iload_n 2), am_j (.ifCond .eq 7) 227, none, none, am_i (.iconst 1)],
  [am_j (.goto 4) 228, none, none, am_i (.iconst 0), am_i .ireturn, am_i (.iconst 0), am_i .ireturn]]
/-- 91: TerminalHouse.empty()V -/
def am_c91 : List (List (Option am_I)) := [[am_i (.aload_n 0), am_f (.getfield 19) 11 4 false, none, none, am_f (.invokevirtual 129) 92 0 false, none, none, am_i (.aload_n 0), am_i .aconst_null, am_f (.putfield 118) 11 14 false, none, none, am_i (.aload_n 0), am_f (.invokevirtual 122) 75 0 false, none, none],
  [am_i .return_]]
/-- 92: TerminalHouse$Reader.forget()V -/
def am_c92 : List (List (Option am_I)) := [[am_i (.aload_n 0), am_i (.iconst 0), am_f (.putfield 36) 7 1 false, none, none, am_i .return_]]
/-- 93: TerminalHouse.ability()I -/
def am_c93 : List (List (Option am_I)) := [[am_i (.aload_n 0), am_f (.getfield 9) 11 0 false, none, none, am_i (.iconst 0), am_i (.aload_n 0), am_f (.getfield 85) 11 1 false, none, none, am_f (.invokestatic 132) 44 3 false, none, none, am_i (.istore_n 1), am_i (.aload_n 0), am_i (.iconst 0), am_f (.putfield 85) 11 1 false],
  [none, none, am_i (.aload_n 0), am_f (.getfield 118) 11 14 false, none, none, am_j (.ifnull 8) 30, none, none, am_i (.iload_n 1), am_i (.iconst (-1)), am_j (.if_icmp .ne 5) 32, none, none, am_i (.iconst (-1)), am_i .ireturn],
  [am_i (.iload_n 1), am_i (.iconst 3), am_j (.if_icmp .ge 20) 54, none, none, am_i (.aload_n 0), am_f (.getfield 118) 11 14 false, none, none, am_i (.iload_n 1), am_f (.invokevirtual 136) 74 1 false, none, none, am_j (.ifCond .eq 7) 52, none, none],
  [am_i (.iconst 1), am_j (.goto 4) 53, none, none, am_i (.iconst 0), am_i .ireturn, am_i (.aload_n 0), am_f (.getfield 118) 11 14 false, none, none, am_i (.iload_n 1), am_f (.invokevirtual 136) 74 1 false, none, none, am_j (.ifCond .ne 5) 67, none],
  [none, am_i (.iconst (-1)), am_i .ireturn, am_i (.iload_n 1), am_i (.bipush 6), none, am_j (.if_icmp .ge 12) 82, none, none, am_i (.aload_n 0), am_f (.getfield 118) 11 14 false, none, none, am_i (.iload_n 1), am_f (.invokevirtual 140) 77 1 false, none],
  [none, am_i .ireturn, am_i (.aload_n 0), am_f (.getfield 118) 11 14 false, none, none, am_i (.iload_n 1), am_f (.invokevirtual 144) 65 1 false, none, none, am_i (.istore_n 2), am_i (.aload_n 0), am_f (.getfield 118) 11 14 false, none, none, am_f (.getfield 147) 2 5 true],
  [none, none, am_i (.iload_n 1), am_f (.invokestatic 150) 60 1 false, none, none, am_i (.aload_n 0), am_f (.getfield 13) 11 2 false, none, none, am_i (.iconst 0), am_i (.iload_n 2), am_j (.invokestatic 153) 1001, none, none, am_i (.aload_n 0)],
  [am_i (.iload_n 2), am_f (.putfield 92) 11 3 false, none, none, am_i (.iload_n 2), am_i .ireturn]]
/-- 94: TerminalHouse.expand(IIII)I -/
def am_c94 : List (List (Option am_I)) := [[am_i (.aload_n 0), am_f (.getfield 9) 11 0 false, none, none, am_i (.iconst 0), am_i (.aload_n 0), am_f (.getfield 85) 11 1 false, none, none, am_f (.invokestatic 132) 44 3 false, none, none, am_i (.istore 5), none, am_i (.aload_n 0), am_i (.iconst 0)],
  [am_f (.putfield 85) 11 1 false, none, none, am_i (.aload_n 0), am_f (.getfield 118) 11 14 false, none, none, am_j (.ifnull 22) 45, none, none, am_i (.iload 5), none, am_i (.bipush 6), none, am_j (.if_icmp .lt 15) 45, none],
  [none, am_i (.aload_n 0), am_f (.getfield 118) 11 14 false, none, none, am_i (.iload 5), none, am_f (.invokevirtual 136) 74 1 false, none, none, am_j (.ifCond .ne 5) 47, none, none, am_i (.iconst (-1)), am_i .ireturn, am_i (.aload_n 0)],
  [am_f (.getfield 26) 11 5 false, none, none, am_i (.iload_n 1), am_i (.iload_n 2), am_i (.iload_n 3), am_i (.iload 4), none, am_f (.invokevirtual 159) 81 4 false, none, none, am_i (.aload_n 0), am_i (.aload_n 0), am_f (.getfield 26) 11 5 false, none, none],
  [am_i (.aload_n 0), am_f (.getfield 118) 11 14 false, none, none, am_i (.iload 5), none, am_f (.invokevirtual 163) 82 2 false, none, none, am_f (.putfield 92) 11 3 false, none, none, am_i (.aload_n 0), am_f (.getfield 26) 11 5 false, none, none],
  [am_f (.getfield 167) 5 3 true, none, none, am_i (.iconst 0), am_i (.aload_n 0), am_f (.getfield 13) 11 2 false, none, none, am_i (.iconst 0), am_i (.aload_n 0), am_f (.getfield 92) 11 3 false, none, none, am_j (.invokestatic 153) 1001, none, none],
  [am_i (.aload_n 0), am_f (.getfield 92) 11 3 false, none, none, am_i .ireturn]]
/-- 95: TerminalHouse.open(IIII)I -/
def am_c95 : List (List (Option am_I)) := [[am_i (.aload_n 0), am_f (.getfield 118) 11 14 false, none, none, am_j (.ifnull 21) 25, none, none, am_i (.aload_n 0), am_f (.getfield 33) 11 6 false, none, none, am_f (.getfield 170) 6 0 true, none, none, am_i (.iload_n 1), am_i (.iload_n 2)],
  [am_i (.iload_n 3), am_i (.iload 4), none, am_f (.invokevirtual 174) 96 4 false, none, none, am_j (.ifCond .ne 5) 27, none, none, am_i (.iconst (-1)), am_i .ireturn, am_i (.iconst 0), am_i (.istore 5), none, am_i (.iload 5), none],
  [am_i (.bipush 8), none, am_j (.if_icmp .ge 40) 74, none, none, am_i (.aload_n 0), am_f (.getfield 39) 11 7 false, none, none, am_i (.iload 5), none, am_i .aaload, am_f (.getfield 178) 9 1 true, none, none, am_j (.ifCond .ne 21) 68],
  [none, none, am_i (.aload_n 0), am_f (.getfield 39) 11 7 false, none, none, am_i (.iload 5), none, am_i .aaload, am_i (.iload_n 1), am_i (.iload_n 2), am_i (.iload_n 3), am_i (.iload 4), none, am_f (.invokevirtual 182) 78 4 false, none],
  [none, am_i (.iload 5), none, am_i .ireturn, am_i (.iinc 5 1), none, none, am_j (.goto (-41)) 30, none, none, am_i (.iconst (-1)), am_i .ireturn]]
/-- 96: TerminalHouse$Window.wouldHold(IIII)Z -/
def am_c96 : List (List (Option am_I)) := [[am_i (.iload_n 3), am_i (.iconst 1), am_j (.if_icmp .lt 59) 61, none, none, am_i (.iload 4), none, am_i (.iconst 1), am_j (.if_icmp .lt 53) 61, none, none, am_i (.iload_n 3), am_i (.aload_n 0), am_f (.getfield 30) 9 4 false, none, none],
  [am_j (.if_icmp .gt 45) 61, none, none, am_i (.iload 4), none, am_i (.aload_n 0), am_f (.getfield 33) 9 5 false, none, none, am_j (.if_icmp .gt 36) 61, none, none, am_i (.iload_n 1), am_j (.ifCond .lt 32) 61, none, none],
  [am_i (.iload_n 2), am_j (.ifCond .lt 28) 61, none, none, am_i (.iload_n 1), am_i (.aload_n 0), am_f (.getfield 30) 9 4 false, none, none, am_i (.iload_n 3), am_i .isub, am_j (.if_icmp .gt 18) 61, none, none, am_i (.iload_n 2), am_i (.aload_n 0)],
  [am_f (.getfield 33) 9 5 false, none, none, am_i (.iload 4), none, am_i .isub, am_j (.if_icmp .gt 7) 61, none, none, am_i (.iconst 1), am_j (.goto 4) 62, none, none, am_i (.iconst 0), am_i .ireturn]]
/-- 97: TerminalHouse.close(I)Z -/
def am_c97 : List (List (Option am_I)) := [[am_i (.aload_n 0), am_i (.iload_n 1), am_f (.invokevirtual 184) 98 1 false, none, none, am_i (.astore_n 2), am_i (.aload_n 2), am_j (.ifnonnull 5) 12, none, none, am_i (.iconst 0), am_i .ireturn, am_i (.aload_n 2), am_i (.iconst 0), am_f (.putfield 178) 9 1 true, none],
  [none, am_i (.iconst 1), am_i .ireturn]]
/-- 98: TerminalHouse.openWindow(I)LTerminalHouse$Window; -/
def am_c98 : List (List (Option am_I)) := [[am_i (.iload_n 1), am_j (.ifCond .lt 21) 22, none, none, am_i (.iload_n 1), am_i (.bipush 8), none, am_j (.if_icmp .ge 15) 22, none, none, am_i (.aload_n 0), am_f (.getfield 39) 11 7 false, none, none, am_i (.iload_n 1), am_i .aaload],
  [am_f (.getfield 178) 9 1 true, none, none, am_j (.ifCond .ne 5) 24, none, none, am_i .aconst_null, am_i .areturn, am_i (.aload_n 0), am_f (.getfield 39) 11 7 false, none, none, am_i (.iload_n 1), am_i .aaload, am_i .areturn]]
/-- 99: TerminalHouse.at(III)Z -/
def am_c99 : List (List (Option am_I)) := [[am_i (.aload_n 0), am_i (.iload_n 1), am_f (.invokevirtual 184) 98 1 false, none, none, am_i (.astore 4), none, am_i (.aload 4), none, am_j (.ifnull 13) 22, none, none, am_i (.aload 4), none, am_i (.iload_n 2), am_i (.iload_n 3)],
  [am_f (.invokevirtual 188) 100 2 false, none, none, am_j (.ifCond .ne 5) 24, none, none, am_i (.iconst 0), am_i .ireturn, am_i (.aload 4), none, am_i (.iload_n 2), am_f (.putfield 192) 9 6 true, none, none, am_i (.aload 4), none],
  [am_i (.iload_n 3), am_f (.putfield 195) 9 7 true, none, none, am_i (.iconst 1), am_i .ireturn]]
/-- 100: TerminalHouse$Window.hasCell(II)Z -/
def am_c100 : List (List (Option am_I)) := [[am_i (.iload_n 1), am_j (.ifCond .lt 27) 28, none, none, am_i (.iload_n 1), am_i (.aload_n 0), am_f (.getfield 30) 9 4 false, none, none, am_j (.if_icmp .ge 19) 28, none, none, am_i (.iload_n 2), am_j (.ifCond .lt 15) 28, none, none],
  [am_i (.iload_n 2), am_i (.aload_n 0), am_f (.getfield 33) 9 5 false, none, none, am_j (.if_icmp .ge 7) 28, none, none, am_i (.iconst 1), am_j (.goto 4) 29, none, none, am_i (.iconst 0), am_i .ireturn]]
/-- 101: TerminalHouse.dress(II)Z -/
def am_c101 : List (List (Option am_I)) := [[am_i (.aload_n 0), am_i (.iload_n 1), am_f (.invokevirtual 184) 98 1 false, none, none, am_i (.astore_n 3), am_i (.aload_n 3), am_j (.ifnull 13) 20, none, none, am_i (.iload_n 2), am_j (.ifCond .lt 9) 20, none, none, am_i (.iload_n 2), am_i (.bipush 15)],
  [none, am_j (.if_icmp .le 5) 22, none, none, am_i (.iconst 0), am_i .ireturn, am_i (.aload_n 3), am_i (.iload_n 2), am_f (.putfield 198) 9 8 true, none, none, am_i (.iconst 1), am_i .ireturn]]
/-- 102: TerminalHouse.scrolls(IZ)Z -/
def am_c102 : List (List (Option am_I)) := [[am_i (.aload_n 0), am_i (.iload_n 1), am_f (.invokevirtual 184) 98 1 false, none, none, am_i (.astore_n 3), am_i (.aload_n 3), am_j (.ifnonnull 5) 12, none, none, am_i (.iconst 0), am_i .ireturn, am_i (.aload_n 3), am_i (.iload_n 2), am_f (.putfield 201) 9 9 true, none],
  [none, am_i (.iconst 1), am_i .ireturn]]
/-- 103: TerminalHouse.say(I)I -/
def am_c103 : List (List (Option am_I)) := [[am_i (.aload_n 0), am_i (.iload_n 1), am_f (.invokevirtual 184) 98 1 false, none, none, am_i (.astore_n 2), am_i (.aload_n 2), am_j (.ifnonnull 7) 14, none, none, am_i (.iconst (-1)), am_j (.goto 8) 19, none, none, am_i (.aload_n 0), am_i (.aload_n 2)],
  [am_f (.invokevirtual 204) 104 1 false, none, none, am_i (.istore_n 3), am_i (.aload_n 0), am_i (.iconst 0), am_f (.putfield 85) 11 1 false, none, none, am_i (.iload_n 3), am_i .ireturn]]
/-- 104: TerminalHouse.sayTape(LTerminalHouse$Window;)I -/
def am_c104 : List (List (Option am_I)) := [[am_i (.iconst 0), am_i (.istore_n 2), am_i (.iload_n 2), am_i (.aload_n 0), am_f (.getfield 85) 11 1 false, none, none, am_j (.if_icmp .ge 60) 67, none, none, am_i (.aload_n 0), am_f (.getfield 9) 11 0 false, none, none, am_i (.iload_n 2), am_i .iaload],
  [am_i (.istore_n 3), am_i (.iload_n 3), am_i (.bipush 10), none, am_j (.if_icmp .ne 12) 32, none, none, am_i (.aload_n 1), am_f (.invokevirtual 208) 105 0 false, none, none, am_j (.ifCond .ne 34) 61, none, none, am_i (.iload_n 2), am_i .ireturn],
  [am_i (.iload_n 3), am_i (.bipush 7), none, am_j (.if_icmp .ne 14) 49, none, none, am_i (.aload_n 0), am_f (.getfield 33) 11 6 false, none, none, am_i (.iconst 1), am_f (.putfield 211) 6 12 true, none, none, am_j (.goto 15) 61, none],
  [none, am_i (.aload_n 1), am_i (.iload_n 3), am_f (.invokevirtual 214) 109 1 false, none, none, am_j (.ifCond .ne 7) 61, none, none, am_i (.iload_n 2), am_i (.iconst 1), am_i .iadd, am_i .ireturn, am_i (.iinc 2 1), none, none],
  [am_j (.goto (-62)) 2, none, none, am_i (.aload_n 0), am_f (.getfield 85) 11 1 false, none, none, am_i .ireturn]]
/-- 105: TerminalHouse$Window.breakLine()Z -/
def am_c105 : List (List (Option am_I)) := [[am_i (.aload_n 0), am_f (.getfield 36) 9 6 false, none, none, am_i (.aload_n 0), am_f (.getfield 30) 9 4 false, none, none, am_i (.iconst 1), am_i .isub, am_j (.if_icmp .lt 12) 22, none, none, am_i (.aload_n 0), am_f (.getfield 45) 9 9 false, none],
  [none, am_j (.ifCond .ne 5) 22, none, none, am_i (.iconst 0), am_i .ireturn, am_i (.aload_n 0), am_f (.getfield 9) 9 0 false, none, none, am_i (.aload_n 0), am_f (.getfield 36) 9 6 false, none, none, am_i (.aload_n 0), am_f (.getfield 33) 9 5 false],
  [none, none, am_i .imul, am_i (.aload_n 0), am_f (.getfield 39) 9 7 false, none, none, am_i .iadd, am_i (.aload_n 0), am_f (.getfield 36) 9 6 false, none, none, am_i (.iconst 1), am_i .iadd, am_i (.aload_n 0), am_f (.getfield 33) 9 5 false],
  [none, none, am_i .imul, am_i (.bipush 32), none, am_f (.invokestatic 48) 14 4 false, none, none, am_i (.aload_n 0), am_f (.invokevirtual 81) 106 0 false, none, none, am_i .ireturn]]
/-- 106: TerminalHouse$Window.goToNextRow()Z -/
def am_c106 : List (List (Option am_I)) := [[am_i (.aload_n 0), am_f (.getfield 36) 9 6 false, none, none, am_i (.aload_n 0), am_f (.getfield 30) 9 4 false, none, none, am_i (.iconst 1), am_i .isub, am_j (.if_icmp .ge 16) 26, none, none, am_i (.aload_n 0), am_i .dup, am_f (.getfield 36) 9 6 false],
  [none, none, am_i (.iconst 1), am_i .iadd, am_f (.putfield 36) 9 6 false, none, none, am_j (.goto 21) 44, none, none, am_i (.aload_n 0), am_f (.getfield 45) 9 9 false, none, none, am_j (.ifCond .eq 12) 42, none],
  [none, am_i (.aload_n 0), am_i (.iconst 0), am_i (.iconst (-1)), am_f (.invokevirtual 85) 107 2 false, none, none, am_j (.goto 5) 44, none, none, am_i (.iconst 0), am_i .ireturn, am_i (.aload_n 0), am_i (.iconst 0), am_f (.putfield 39) 9 7 false, none],
  [none, am_i (.iconst 1), am_i .ireturn]]
/-- 107: TerminalHouse$Window.slideRows(II)V -/
def am_c107 : List (List (Option am_I)) := [[am_i (.iload_n 2), am_i (.aload_n 0), am_f (.getfield 30) 9 4 false, none, none, am_i .ineg, am_i (.aload_n 0), am_f (.getfield 30) 9 4 false, none, none, am_f (.invokestatic 26) 10 3 true, none, none, am_i (.istore_n 3), am_i (.aload_n 0), am_f (.getfield 9) 9 0 false],
  [none, none, am_i (.iload_n 1), am_i (.aload_n 0), am_f (.getfield 33) 9 5 false, none, none, am_i .imul, am_i (.aload_n 0), am_f (.getfield 30) 9 4 false, none, none, am_i (.iload_n 1), am_i .isub, am_i (.aload_n 0), am_f (.getfield 33) 9 5 false],
  [none, none, am_i .imul, am_i (.iload_n 3), am_i (.aload_n 0), am_f (.getfield 33) 9 5 false, none, none, am_i .imul, am_i (.bipush 32), none, am_f (.invokestatic 89) 108 5 true, none, none, am_i .return_]]
/-- 108: TerminalHouse.slide([IIIII)V -/
def am_c108 : List (List (Option am_I)) := [[am_i (.iload_n 1), am_j (.ifCond .lt 15) 16, none, none, am_i (.iload_n 2), am_j (.ifCond .le 11) 16, none, none, am_i (.iload_n 2), am_i (.aload_n 0), am_i .arraylength, am_i (.iload_n 1), am_i .isub, am_j (.if_icmp .le 4) 17, none, none],
  [am_i .return_, am_i (.iload_n 3), am_i (.iload_n 2), am_j (.if_icmp .ge 9) 28, none, none, am_i (.iload_n 3), am_i (.iload_n 2), am_i .ineg, am_j (.if_icmp .gt 16) 41, none, none, am_i (.aload_n 0), am_i (.iload_n 1), am_i (.iload_n 1), am_i (.iload_n 2)],
  [am_i .iadd, am_i (.iload 4), none, am_f (.invokestatic 363) 14 4 false, none, none, am_j (.goto 58) 96, none, none, am_i (.iload_n 3), am_j (.ifCond .lt 28) 70, none, none, am_i (.aload_n 0), am_i (.iload_n 1), am_i (.aload_n 0)],
  [am_i (.iload_n 1), am_i (.iload_n 3), am_i .iadd, am_i (.iload_n 2), am_i (.iload_n 3), am_i .isub, am_j (.invokestatic 153) 1001, none, none, am_i (.aload_n 0), am_i (.iload_n 1), am_i (.iload_n 1), am_i (.iload_n 3), am_i .iadd, am_i (.iload 4), none],
  [am_f (.invokestatic 363) 14 4 false, none, none, am_j (.goto 29) 96, none, none, am_i (.aload_n 0), am_i (.iload_n 1), am_i (.iload_n 3), am_i .isub, am_i (.aload_n 0), am_i (.iload_n 1), am_i (.iload_n 2), am_i (.iload_n 3), am_i .iadd, am_j (.invokestatic 153) 1001],
  [none, none, am_i (.aload_n 0), am_i (.iload_n 1), am_i (.iload_n 2), am_i .iadd, am_i (.iload_n 3), am_i .iadd, am_i (.iload_n 1), am_i (.iload_n 2), am_i .iadd, am_i (.iload 4), none, am_f (.invokestatic 363) 14 4 false, none, none],
  [am_i .return_]]
/-- 109: TerminalHouse$Window.sayByte(I)Z -/
def am_c109 : List (List (Option am_I)) := [[am_i (.iconst 1), am_i (.istore_n 2), am_i (.iload_n 1), am_f (.invokestatic 68) 110 1 true, none, none, am_j (.ifCond .eq 12) 18, none, none, am_i (.aload_n 0), am_i (.iload_n 1), am_f (.invokevirtual 72) 111 1 false, none, none, am_i (.istore_n 2), am_j (.goto 98) 113],
  [none, none, am_i (.iload_n 1), am_i (.bipush 9), none, am_j (.if_icmp .ne 55) 76, none, none, am_i (.bipush 8), none, am_i (.aload_n 0), am_f (.getfield 39) 9 7 false, none, none, am_i (.bipush 8), none],
  [am_i .irem, am_i .isub, am_i (.aload_n 0), am_f (.getfield 33) 9 5 false, none, none, am_i (.aload_n 0), am_f (.getfield 39) 9 7 false, none, none, am_i .isub, am_j (.invokestatic 75) 1003, none, none, am_i (.istore_n 3), am_i (.iconst 0)],
  [am_i (.istore 4), none, am_i (.iload 4), none, am_i (.iload_n 3), am_j (.if_icmp .ge 20) 73, none, none, am_i (.iload_n 2), am_j (.ifCond .eq 16) 73, none, none, am_i (.aload_n 0), am_i (.bipush 32), none, am_f (.invokevirtual 72) 111 1 false],
  [none, none, am_i (.istore_n 2), am_i (.iinc 4 1), none, none, am_j (.goto (-20)) 50, none, none, am_j (.goto 40) 113, none, none, am_i (.iload_n 1), am_i (.bipush 13), none, am_j (.if_icmp .ne 11) 90],
  [none, none, am_i (.aload_n 0), am_i (.iconst 0), am_f (.putfield 39) 9 7 false, none, none, am_j (.goto 26) 113, none, none, am_i (.iload_n 1), am_i (.bipush 8), none, am_j (.if_icmp .ne 20) 113, none, none],
  [am_i (.aload_n 0), am_f (.getfield 39) 9 7 false, none, none, am_j (.ifCond .le 13) 113, none, none, am_i (.aload_n 0), am_i .dup, am_f (.getfield 39) 9 7 false, none, none, am_i (.iconst 1), am_i .isub, am_f (.putfield 39) 9 7 false, none],
  [none, am_i (.iload_n 2), am_i .ireturn]]
/-- 110: TerminalHouse.isPrintable(I)Z -/
def am_c110 : List (List (Option am_I)) := [[am_i (.iload_n 0), am_i (.bipush 32), none, am_j (.if_icmp .lt 13) 16, none, none, am_i (.iload_n 0), am_i (.bipush 126), none, am_j (.if_icmp .gt 7) 16, none, none, am_i (.iconst 1), am_j (.goto 4) 17, none, none],
  [am_i (.iconst 0), am_i .ireturn]]
/-- 111: TerminalHouse$Window.saySign(I)Z -/
def am_c111 : List (List (Option am_I)) := [[am_i (.aload_n 0), am_f (.getfield 9) 9 0 false, none, none, am_i (.aload_n 0), am_f (.getfield 36) 9 6 false, none, none, am_i (.aload_n 0), am_f (.getfield 33) 9 5 false, none, none, am_i .imul, am_i (.aload_n 0), am_f (.getfield 39) 9 7 false, none],
  [none, am_i .iadd, am_i (.iload_n 1), am_i (.sipush 256), none, none, am_i (.aload_n 0), am_f (.getfield 42) 9 8 false, none, none, am_i .imul, am_i .iadd, am_i .iastore, am_i (.aload_n 0), am_f (.getfield 39) 9 7 false, none],
  [none, am_i (.aload_n 0), am_f (.getfield 33) 9 5 false, none, none, am_i (.iconst 1), am_i .isub, am_j (.if_icmp .ge 15) 54, none, none, am_i (.aload_n 0), am_i .dup, am_f (.getfield 39) 9 7 false, none, none, am_i (.iconst 1)],
  [am_i .iadd, am_f (.putfield 39) 9 7 false, none, none, am_i (.iconst 1), am_i .ireturn, am_i (.aload_n 0), am_f (.invokevirtual 81) 106 0 false, none, none, am_i .ireturn]]
/-- 112: TerminalHouse.erase(II)Z -/
def am_c112 : List (List (Option am_I)) := [[am_i (.aload_n 0), am_i (.iload_n 1), am_f (.invokevirtual 184) 98 1 false, none, none, am_i (.astore_n 3), am_i (.aload_n 3), am_j (.ifnull 15) 22, none, none, am_i (.aload_n 3), am_i (.iload_n 2), am_f (.invokevirtual 217) 113 1 false, none, none, am_j (.ifCond .eq 7) 22],
  [none, none, am_i (.iconst 1), am_j (.goto 4) 23, none, none, am_i (.iconst 0), am_i .ireturn]]
/-- 113: TerminalHouse$Window.blankOut(I)Z -/
def am_c113 : List (List (Option am_I)) := [[am_i (.aload_n 0), am_f (.getfield 36) 9 6 false, none, none, am_i (.aload_n 0), am_f (.getfield 33) 9 5 false, none, none, am_i .imul, am_i (.aload_n 0), am_f (.getfield 39) 9 7 false, none, none, am_i .iadd, am_i (.istore_n 2), am_i (.iload_n 1)],
  [am_t (.tableswitch 103 0 2 #[28, 59, 80]) 119 [(0, 44), (1, 75), (2, 96)], none, none, none, none, none, none, none, none, none, none, none, none, none, none, none],
  [none, none, none, none, none, none, none, none, none, none, none, none, am_i (.aload_n 0), am_f (.getfield 9) 9 0 false, none, none],
  [am_i (.iconst 0), am_i (.aload_n 0), am_f (.getfield 30) 9 4 false, none, none, am_i (.aload_n 0), am_f (.getfield 33) 9 5 false, none, none, am_i .imul, am_i (.bipush 32), none, am_f (.invokestatic 48) 14 4 false, none, none, am_i (.aload_n 0)],
  [am_i (.iconst 0), am_f (.putfield 36) 9 6 false, none, none, am_i (.aload_n 0), am_i (.iconst 0), am_f (.putfield 39) 9 7 false, none, none, am_i (.iconst 1), am_i .ireturn, am_i (.aload_n 0), am_f (.getfield 9) 9 0 false, none, none, am_i (.iload_n 2)],
  [am_i (.aload_n 0), am_f (.getfield 30) 9 4 false, none, none, am_i (.aload_n 0), am_f (.getfield 33) 9 5 false, none, none, am_i .imul, am_i (.bipush 32), none, am_f (.invokestatic 48) 14 4 false, none, none, am_i (.iconst 1), am_i .ireturn],
  [am_i (.aload_n 0), am_f (.getfield 9) 9 0 false, none, none, am_i (.iload_n 2), am_i (.aload_n 0), am_f (.getfield 36) 9 6 false, none, none, am_i (.iconst 1), am_i .iadd, am_i (.aload_n 0), am_f (.getfield 33) 9 5 false, none, none, am_i .imul],
  [am_i (.bipush 32), none, am_f (.invokestatic 48) 14 4 false, none, none, am_i (.iconst 1), am_i .ireturn, am_i (.iconst 0), am_i .ireturn]]
/-- 114: TerminalHouse.rows(II)Z -/
def am_c114 : List (List (Option am_I)) := [[am_i (.aload_n 0), am_i (.iload_n 1), am_f (.invokevirtual 184) 98 1 false, none, none, am_i (.astore_n 3), am_i (.aload_n 3), am_j (.ifnonnull 5) 12, none, none, am_i (.iconst 0), am_i .ireturn, am_i (.aload_n 3), am_i (.aload_n 3), am_f (.getfield 192) 9 6 true, none],
  [none, am_i (.iload_n 2), am_f (.invokevirtual 220) 107 2 false, none, none, am_i (.iconst 1), am_i .ireturn]]
/-- 115: TerminalHouse.cells(II)Z -/
def am_c115 : List (List (Option am_I)) := [[am_i (.aload_n 0), am_i (.iload_n 1), am_f (.invokevirtual 184) 98 1 false, none, none, am_i (.astore_n 3), am_i (.aload_n 3), am_j (.ifnonnull 5) 12, none, none, am_i (.iconst 0), am_i .ireturn, am_i (.aload_n 3), am_f (.getfield 192) 9 6 true, none, none],
  [am_i (.aload_n 3), am_f (.getfield 223) 9 5 true, none, none, am_i .imul, am_i (.aload_n 3), am_f (.getfield 195) 9 7 true, none, none, am_i .iadd, am_i (.istore 4), none, am_i (.aload_n 3), am_f (.getfield 226) 9 0 true, none, none],
  [am_i (.iload 4), none, am_i (.aload_n 3), am_f (.getfield 223) 9 5 true, none, none, am_i (.aload_n 3), am_f (.getfield 195) 9 7 true, none, none, am_i .isub, am_i (.iload_n 2), am_i (.bipush 32), none, am_f (.invokestatic 229) 108 5 false, none],
  [none, am_i (.iconst 1), am_i .ireturn]]
/-- 116: TerminalHouse.roll(II)Z -/
def am_c116 : List (List (Option am_I)) := [[am_i (.aload_n 0), am_i (.iload_n 1), am_f (.invokevirtual 184) 98 1 false, none, none, am_i (.astore_n 3), am_i (.aload_n 3), am_j (.ifnonnull 5) 12, none, none, am_i (.iconst 0), am_i .ireturn, am_i (.aload_n 3), am_i (.iconst 0), am_i (.iload_n 2), am_v0 (.ldc 235) (.int (-2147483648))],
  [none, am_j (.if_icmp .ne 8) 25, none, none, am_v0 (.ldc 236) (.int 2147483647), none, am_j (.goto 5) 27, none, none, am_i (.iload_n 2), am_i .ineg, am_f (.invokevirtual 220) 107 2 false, none, none, am_i (.iconst 1), am_i .ireturn]]
/-- 117: TerminalHouse.box(I)Z -/
def am_c117 : List (List (Option am_I)) := [[am_i (.aload_n 0), am_i (.iload_n 1), am_f (.invokevirtual 184) 98 1 false, none, none, am_i (.astore_n 2), am_i (.aload_n 2), am_j (.ifnonnull 5) 12, none, none, am_i (.iconst 0), am_i .ireturn, am_i (.aload_n 2), am_f (.invokevirtual 237) 118 0 false, none, none],
  [am_i (.iconst 1), am_i .ireturn]]
/-- 118: TerminalHouse$Window.drawEdge()V -/
def am_c118 : List (List (Option am_I)) := [[am_i (.iconst 0), am_i (.istore_n 1), am_i (.iload_n 1), am_i (.aload_n 0), am_f (.getfield 30) 9 4 false, none, none, am_j (.if_icmp .ge 122) 129, none, none, am_i (.iconst 0), am_i (.istore_n 2), am_i (.iload_n 2), am_i (.aload_n 0), am_f (.getfield 33) 9 5 false, none],
  [none, am_j (.if_icmp .ge 106) 123, none, none, am_i (.iload_n 1), am_j (.ifCond .eq 13) 34, none, none, am_i (.iload_n 1), am_i (.aload_n 0), am_f (.getfield 30) 9 4 false, none, none, am_i (.iconst 1), am_i .isub, am_j (.if_icmp .ne 7) 38],
  [none, none, am_i (.iconst 1), am_j (.goto 4) 39, none, none, am_i (.iconst 0), am_i (.istore_n 3), am_i (.iload_n 2), am_j (.ifCond .eq 13) 54, none, none, am_i (.iload_n 2), am_i (.aload_n 0), am_f (.getfield 33) 9 5 false, none],
  [none, am_i (.iconst 1), am_i .isub, am_j (.if_icmp .ne 7) 58, none, none, am_i (.iconst 1), am_j (.goto 4) 59, none, none, am_i (.iconst 0), am_i (.istore 4), none, am_i (.iload_n 3), am_j (.ifCond .ne 8) 70, none],
  [none, am_i (.iload 4), none, am_j (.ifCond .eq 50) 117, none, none, am_i (.iload 4), none, am_j (.ifCond .ne 8) 80, none, none, am_i (.bipush 45), none, am_j (.goto 14) 91, none, none],
  [am_i (.iload_n 3), am_j (.ifCond .eq 8) 89, none, none, am_i (.bipush 43), none, am_j (.goto 5) 91, none, none, am_i (.bipush 124), none, am_i (.istore 5), none, am_i (.aload_n 0), am_f (.getfield 9) 9 0 false, none],
  [none, am_i (.iload_n 1), am_i (.aload_n 0), am_f (.getfield 33) 9 5 false, none, none, am_i .imul, am_i (.iload_n 2), am_i .iadd, am_i (.iload 5), none, am_i (.sipush 256), none, none, am_i (.aload_n 0), am_f (.getfield 42) 9 8 false],
  [none, none, am_i .imul, am_i .iadd, am_i .iastore, am_i (.iinc 2 1), none, none, am_j (.goto (-108)) 12, none, none, am_i (.iinc 1 1), none, none, am_j (.goto (-124)) 2, none],
  [none, am_i .return_]]
/-- 119: TerminalHouse.look(III)I -/
def am_c119 : List (List (Option am_I)) := [[am_i (.aload_n 0), am_i (.iload_n 1), am_f (.invokevirtual 184) 98 1 false, none, none, am_i (.astore 4), none, am_i (.aload 4), none, am_j (.ifnonnull 7) 16, none, none, am_i (.iconst (-1)), am_j (.goto 10) 23, none, none],
  [am_i (.aload 4), none, am_i (.iload_n 2), am_i (.iload_n 3), am_f (.invokevirtual 240) 120 2 false, none, none, am_i .ireturn]]
/-- 120: TerminalHouse$Window.cell(II)I -/
def am_c120 : List (List (Option am_I)) := [[am_i (.aload_n 0), am_i (.iload_n 1), am_i (.iload_n 2), am_f (.invokevirtual 64) 100 2 false, none, none, am_j (.ifCond .eq 19) 25, none, none, am_i (.aload_n 0), am_f (.getfield 9) 9 0 false, none, none, am_i (.iload_n 1), am_i (.aload_n 0), am_f (.getfield 33) 9 5 false],
  [none, none, am_i .imul, am_i (.iload_n 2), am_i .iadd, am_i .iaload, am_j (.goto 4) 26, none, none, am_i (.iconst (-1)), am_i .ireturn]]
/-- 121: TerminalHouse.where(II)I -/
def am_c121 : List (List (Option am_I)) := [[am_i (.aload_n 0), am_i (.iload_n 1), am_f (.invokevirtual 184) 98 1 false, none, none, am_i (.astore_n 3), am_i (.aload_n 3), am_j (.ifnonnull 7) 14, none, none, am_i (.iconst (-1)), am_j (.goto 8) 19, none, none, am_i (.aload_n 3), am_i (.iload_n 2)],
  [am_f (.invokevirtual 244) 122 1 false, none, none, am_i .ireturn]]
/-- 122: TerminalHouse$Window.tell(I)I -/
def am_c122 : List (List (Option am_I)) := [[am_i (.iload_n 1), am_t (.tableswitch 95 0 7 #[47, 52, 57, 62, 67, 72, 77, 82]) 96 [(0, 48), (1, 53), (2, 58), (3, 63), (4, 68), (5, 73), (6, 78), (7, 83)], none, none, none, none, none, none, none, none, none, none, none, none, none, none],
  [none, none, none, none, none, none, none, none, none, none, none, none, none, none, none, none],
  [none, none, none, none, none, none, none, none, none, none, none, none, none, none, none, none],
  [am_i (.aload_n 0), am_f (.getfield 19) 9 2 false, none, none, am_i .ireturn, am_i (.aload_n 0), am_f (.getfield 23) 9 3 false, none, none, am_i .ireturn, am_i (.aload_n 0), am_f (.getfield 30) 9 4 false, none, none, am_i .ireturn, am_i (.aload_n 0)],
  [am_f (.getfield 33) 9 5 false, none, none, am_i .ireturn, am_i (.aload_n 0), am_f (.getfield 36) 9 6 false, none, none, am_i .ireturn, am_i (.aload_n 0), am_f (.getfield 39) 9 7 false, none, none, am_i .ireturn, am_i (.aload_n 0), am_f (.getfield 42) 9 8 false],
  [none, none, am_i .ireturn, am_i (.aload_n 0), am_f (.getfield 45) 9 9 false, none, none, am_j (.ifCond .eq 7) 94, none, none, am_i (.iconst 1), am_j (.goto 4) 95, none, none, am_i (.iconst 0), am_i .ireturn],
  [am_i (.iconst (-1)), am_i .ireturn]]
/-- 123: TerminalHouse.show(I)I -/
def am_c123 : List (List (Option am_I)) := [[am_i (.aload_n 0), am_i (.iload_n 1), am_f (.invokevirtual 184) 98 1 false, none, none, am_i (.astore_n 2), am_i (.aload_n 2), am_j (.ifnonnull 7) 14, none, none, am_i (.iconst (-1)), am_j (.goto 14) 25, none, none, am_i (.aload_n 2), am_i (.aload_n 0)],
  [am_f (.getfield 33) 11 6 false, none, none, am_f (.getfield 170) 6 0 true, none, none, am_f (.invokevirtual 247) 124 1 false, none, none, am_i .ireturn]]
/-- 124: TerminalHouse$Window.copyTo(LTerminalHouse$Window;)I -/
def am_c124 : List (List (Option am_I)) := [[am_i (.iconst 0), am_i (.istore_n 2), am_i (.iconst 0), am_i (.istore_n 3), am_i (.iload_n 3), am_i (.aload_n 0), am_f (.getfield 30) 9 4 false, none, none, am_j (.if_icmp .ge 88) 97, none, none, am_i (.iconst 0), am_i (.istore 4), none, am_i (.iload 4)],
  [none, am_i (.aload_n 0), am_f (.getfield 33) 9 5 false, none, none, am_j (.if_icmp .ge 70) 91, none, none, am_i (.aload_n 0), am_f (.getfield 19) 9 2 false, none, none, am_i (.iload_n 3), am_i .iadd, am_i (.aload_n 1), am_f (.getfield 33) 9 5 false],
  [none, none, am_i .imul, am_i (.aload_n 0), am_f (.getfield 23) 9 3 false, none, none, am_i .iadd, am_i (.iload 4), none, am_i .iadd, am_i (.istore 5), none, am_i (.aload_n 0), am_f (.getfield 9) 9 0 false, none],
  [none, am_i (.iload_n 3), am_i (.aload_n 0), am_f (.getfield 33) 9 5 false, none, none, am_i .imul, am_i (.iload 4), none, am_i .iadd, am_i .iaload, am_i (.istore 6), none, am_i (.aload_n 1), am_f (.getfield 9) 9 0 false, none],
  [none, am_i (.iload 5), none, am_i .iaload, am_i (.iload 6), none, am_j (.if_icmp .eq 15) 85, none, none, am_i (.aload_n 1), am_f (.getfield 9) 9 0 false, none, none, am_i (.iload 5), none, am_i (.iload 6)],
  [none, am_i .iastore, am_i (.iinc 2 1), none, none, am_i (.iinc 4 1), none, none, am_j (.goto (-73)) 15, none, none, am_i (.iinc 3 1), none, none, am_j (.goto (-90)) 4, none],
  [none, am_i (.aload_n 1), am_i (.aload_n 0), am_f (.getfield 19) 9 2 false, none, none, am_i (.aload_n 0), am_f (.getfield 36) 9 6 false, none, none, am_i .iadd, am_f (.putfield 36) 9 6 false, none, none, am_i (.aload_n 1), am_i (.aload_n 0)],
  [am_f (.getfield 23) 9 3 false, none, none, am_i (.aload_n 0), am_f (.getfield 39) 9 7 false, none, none, am_i .iadd, am_f (.putfield 39) 9 7 false, none, none, am_i (.iload_n 2), am_i .ireturn]]
/-- 125: TerminalHouse.update()I -/
def am_c125 : List (List (Option am_I)) := [[am_i (.aload_n 0), am_f (.getfield 118) 11 14 false, none, none, am_j (.ifnonnull 5) 9, none, none, am_i (.iconst (-1)), am_i .ireturn, am_i (.aload_n 0), am_f (.getfield 33) 11 6 false, none, none, am_i (.aload_n 0), am_f (.getfield 46) 11 8 false, none],
  [none, am_f (.getfield 250) 1 0 true, none, none, am_f (.invokevirtual 254) 126 0 false, none, none, am_f (.invokevirtual 260) 127 1 false, none, none, am_i (.istore_n 1), am_i (.iconst 0), am_i (.istore_n 2), am_i (.iload_n 2), am_i (.iload_n 1), am_j (.if_icmp .ge 29) 60],
  [none, none, am_i (.aload_n 0), am_f (.getfield 46) 11 8 false, none, none, am_f (.getfield 250) 1 0 true, none, none, am_i (.aload_n 0), am_f (.getfield 33) 11 6 false, none, none, am_f (.getfield 263) 6 4 true, none, none],
  [am_i (.iload_n 2), am_i .iaload, am_f (.invokevirtual 266) 156 1 false, none, none, am_i .pop, am_i (.iinc 2 1), none, none, am_j (.goto (-28)) 29, none, none, am_i (.iload_n 1), am_i .ireturn]]
/-- 126: TerminalHouse$Bytes.room()I -/
def am_c126 : List (List (Option am_I)) := [[am_i (.aload_n 0), am_f (.getfield 15) 0 0 false, none, none, am_i .arraylength, am_i (.aload_n 0), am_f (.getfield 21) 0 2 false, none, none, am_i .isub, am_i .ireturn]]
/-- 127: TerminalHouse$Painter.paint(I)I -/
def am_c127 : List (List (Option am_I)) := [[am_i (.aload_n 0), am_f (.getfield 75) 6 13 false, none, none, am_i (.istore_n 2), am_i (.aload_n 0), am_f (.getfield 78) 6 14 false, none, none, am_i (.istore_n 3), am_i (.aload_n 0), am_f (.getfield 21) 6 2 false, none, none, am_i (.aload_n 0), am_f (.getfield 18) 6 1 false],
  [none, none, am_f (.invokevirtual 108) 128 1 false, none, none, am_i (.aload_n 0), am_i (.iconst 0), am_f (.putfield 112) 6 5 false, none, none, am_i (.aload_n 0), am_f (.invokevirtual 115) 129 0 false, none, none, am_i (.aload_n 0), am_f (.getfield 71) 6 12 false],
  [none, none, am_j (.ifCond .eq 12) 46, none, none, am_i (.aload_n 0), am_i (.bipush 6), none, am_i (.iconst 1), am_i (.iconst 0), am_i (.iconst 0), am_f (.invokevirtual 118) 130 4 false, none, none, am_i (.aload_n 0), am_f (.getfield 75) 6 13 false],
  [none, none, am_j (.ifCond .eq 7) 57, none, none, am_i (.aload_n 0), am_f (.invokevirtual 121) 132 0 false, none, none, am_i (.aload_n 0), am_f (.invokevirtual 124) 133 0 false, none, none, am_i (.iconst 0), am_i (.istore 4), none],
  [am_i (.iload 4), none, am_i (.aload_n 0), am_f (.getfield 60) 6 8 false, none, none, am_j (.if_icmp .ge 15) 85, none, none, am_i (.aload_n 0), am_i (.iload 4), none, am_f (.invokevirtual 127) 152 1 false, none, none, am_i (.iinc 4 1)],
  [none, none, am_j (.goto (-18)) 64, none, none, am_i (.aload_n 0), am_i (.iconst 0), am_f (.invokevirtual 131) 154 1 false, none, none, am_i (.aload_n 0), am_i (.aload_n 0), am_f (.getfield 12) 6 0 false, none, none, am_f (.getfield 134) 9 6 true],
  [none, none, am_i (.aload_n 0), am_f (.getfield 12) 6 0 false, none, none, am_f (.getfield 137) 9 7 true, none, none, am_f (.invokevirtual 140) 137 2 false, none, none, am_i (.aload_n 0), am_f (.getfield 112) 6 5 false, none, none],
  [am_i (.sipush 6000), none, none, am_j (.if_icmp .gt 11) 126, none, none, am_i (.aload_n 0), am_f (.getfield 112) 6 5 false, none, none, am_i (.iload_n 1), am_j (.if_icmp .le 26) 149, none, none, am_i (.aload_n 0), am_f (.getfield 18) 6 1 false],
  [none, none, am_i (.aload_n 0), am_f (.getfield 21) 6 2 false, none, none, am_f (.invokevirtual 108) 128 1 false, none, none, am_i (.aload_n 0), am_i (.iload_n 2), am_f (.putfield 75) 6 13 false, none, none, am_i (.aload_n 0), am_i (.iload_n 3)],
  [am_f (.putfield 78) 6 14 false, none, none, am_i (.iconst (-1)), am_i .ireturn, am_i (.aload_n 0), am_i (.iconst 0), am_f (.putfield 71) 6 12 false, none, none, am_i (.aload_n 0), am_f (.getfield 112) 6 5 false, none, none, am_i .ireturn]]
/-- 128: TerminalHouse$Window.become(LTerminalHouse$Window;)V -/
def am_c128 : List (List (Option am_I)) := [[am_i (.aload_n 0), am_i (.aload_n 1), am_f (.getfield 19) 9 2 false, none, none, am_i (.aload_n 1), am_f (.getfield 23) 9 3 false, none, none, am_i (.aload_n 1), am_f (.getfield 30) 9 4 false, none, none, am_i (.aload_n 1), am_f (.getfield 33) 9 5 false, none],
  [none, am_f (.invokevirtual 54) 78 4 false, none, none, am_i (.aload_n 0), am_i (.aload_n 1), am_f (.getfield 36) 9 6 false, none, none, am_f (.putfield 36) 9 6 false, none, none, am_i (.aload_n 0), am_i (.aload_n 1), am_f (.getfield 39) 9 7 false, none],
  [none, am_f (.putfield 39) 9 7 false, none, none, am_i (.aload_n 0), am_i (.aload_n 1), am_f (.getfield 42) 9 8 false, none, none, am_f (.putfield 42) 9 8 false, none, none, am_i (.aload_n 1), am_f (.getfield 9) 9 0 false, none, none],
  [am_i (.iconst 0), am_i (.aload_n 0), am_f (.getfield 9) 9 0 false, none, none, am_i (.iconst 0), am_i (.aload_n 0), am_f (.getfield 30) 9 4 false, none, none, am_i (.aload_n 0), am_f (.getfield 33) 9 5 false, none, none, am_i .imul, am_j (.invokestatic 58) 1001],
  [none, none, am_i .return_]]
/-- 129: TerminalHouse$Painter.takeAim()V -/
def am_c129 : List (List (Option am_I)) := [[am_i (.iconst 0), am_i (.istore_n 1), am_i (.iload_n 1), am_i (.aload_n 0), am_f (.getfield 60) 6 8 false, none, none, am_i (.aload_n 0), am_f (.getfield 64) 6 9 false, none, none, am_i .imul, am_j (.if_icmp .ge 44) 56, none, none, am_i (.aload_n 0)],
  [am_f (.getfield 12) 6 0 false, none, none, am_f (.getfield 144) 9 0 true, none, none, am_i (.iload_n 1), am_i .iaload, am_i (.istore_n 2), am_i (.aload_n 0), am_f (.getfield 24) 6 3 false, none, none, am_i (.iload_n 1), am_i (.iload_n 2), am_i (.sipush 255)],
  [none, none, am_i .iand, am_i (.sipush 256), none, none, am_i (.iload_n 2), am_i (.bipush 8), none, am_i .ishr, am_i (.aload_n 0), am_f (.getfield 88) 6 10 false, none, none, am_i .iand, am_i .imul],
  [am_i .iadd, am_i .iastore, am_i (.iinc 1 1), none, none, am_j (.goto (-51)) 2, none, none, am_i .return_]]
/-- 130: TerminalHouse$Painter.send(IIII)V -/
def am_c130 : List (List (Option am_I)) := [[am_i (.aload_n 0), am_f (.getfield 42) 6 6 false, none, none, am_i (.iload_n 1), am_f (.invokevirtual 81) 74 1 false, none, none, am_j (.ifCond .ne 4) 12, none, none, am_i .return_, am_i (.aload_n 0), am_f (.getfield 46) 6 7 false, none, none],
  [am_i (.iload_n 3), am_i (.iload 4), none, am_i (.iconst 0), am_i (.iconst 0), am_f (.invokevirtual 99) 81 4 false, none, none, am_i (.aload_n 0), am_f (.getfield 46) 6 7 false, none, none, am_i (.aload_n 0), am_f (.getfield 42) 6 6 false, none, none],
  [am_i (.iload_n 1), am_f (.invokevirtual 104) 82 2 false, none, none, am_i (.istore 5), none, am_i (.iconst 0), am_i (.istore 6), none, am_i (.iload 6), none, am_i (.iload_n 2), am_j (.if_icmp .ge 39) 83, none, none, am_i (.iconst 0)],
  [am_i (.istore 7), none, am_i (.iload 7), none, am_i (.iload 5), none, am_j (.if_icmp .ge 23) 77, none, none, am_i (.aload_n 0), am_i (.aload_n 0), am_f (.getfield 46) 6 7 false, none, none, am_f (.getfield 232) 5 3 true, none],
  [none, am_i (.iload 7), none, am_i .iaload, am_f (.invokevirtual 177) 131 1 false, none, none, am_i (.iinc 7 1), none, none, am_j (.goto (-24)) 50, none, none, am_i (.iinc 6 1), none, none],
  [am_j (.goto (-39)) 41, none, none, am_i .return_]]
/-- 131: TerminalHouse$Painter.addByte(I)V -/
def am_c131 : List (List (Option am_I)) := [[am_i (.aload_n 0), am_f (.getfield 112) 6 5 false, none, none, am_i (.sipush 6000), none, none, am_j (.if_icmp .ge 13) 20, none, none, am_i (.aload_n 0), am_f (.getfield 28) 6 4 false, none, none, am_i (.aload_n 0), am_f (.getfield 112) 6 5 false],
  [none, none, am_i (.iload_n 1), am_i .iastore, am_i (.aload_n 0), am_i .dup, am_f (.getfield 112) 6 5 false, none, none, am_i (.iconst 1), am_i .iadd, am_f (.putfield 112) 6 5 false, none, none, am_i .return_]]
/-- 132: TerminalHouse$Painter.startAnew()V -/
def am_c132 : List (List (Option am_I)) := [[am_i (.aload_n 0), am_i (.bipush 30), none, am_i (.iconst 1), am_i (.iconst 0), am_i (.iconst 0), am_f (.invokevirtual 118) 130 4 false, none, none, am_i (.aload_n 0), am_i (.bipush 25), none, am_i (.iconst 1), am_i (.iconst 0), am_i (.iconst 0), am_f (.invokevirtual 118) 130 4 false],
  [none, none, am_i (.aload_n 0), am_i (.bipush 23), none, am_i (.iconst 1), am_i (.iconst 0), am_i (.aload_n 0), am_f (.getfield 60) 6 8 false, none, none, am_i (.iconst 1), am_i .isub, am_f (.invokevirtual 118) 130 4 false, none, none],
  [am_i (.aload_n 0), am_i (.bipush 7), none, am_i (.iconst 1), am_i (.iconst 0), am_i (.iconst 0), am_f (.invokevirtual 118) 130 4 false, none, none, am_i (.aload_n 0), am_f (.getfield 18) 6 1 false, none, none, am_i (.iconst 0), am_i (.iconst 0), am_i (.aload_n 0)],
  [am_f (.getfield 60) 6 8 false, none, none, am_i (.aload_n 0), am_f (.getfield 64) 6 9 false, none, none, am_f (.invokevirtual 67) 78 4 false, none, none, am_i (.aload_n 0), am_i (.iconst 1), am_f (.putfield 78) 6 14 false, none, none, am_i (.aload_n 0)],
  [am_i (.iconst 0), am_f (.putfield 75) 6 13 false, none, none, am_i .return_]]
/-- 133: TerminalHouse$Painter.rollUp()V -/
def am_c133 : List (List (Option am_I)) := [[am_i (.aload_n 0), am_f (.getfield 42) 6 6 false, none, none, am_i (.bipush 22), none, am_f (.invokevirtual 81) 74 1 false, none, none, am_j (.ifCond .ne 4) 13, none, none, am_i .return_, am_i (.iconst 0), am_i (.istore_n 1), am_i (.aload_n 0)],
  [am_f (.getfield 60) 6 8 false, none, none, am_i (.iconst 1), am_i .iadd, am_i (.istore_n 2), am_i (.iconst 0), am_i (.istore_n 3), am_i (.iload_n 3), am_i (.aload_n 0), am_f (.getfield 60) 6 8 false, none, none, am_j (.if_icmp .ge 27) 56, none, none],
  [am_i (.aload_n 0), am_i (.iload_n 3), am_f (.invokevirtual 147) 134 1 false, none, none, am_i (.istore 4), none, am_i (.iload 4), none, am_i (.iload_n 2), am_j (.if_icmp .ge 8) 50, none, none, am_i (.iload 4), none, am_i (.istore_n 2)],
  [am_i (.iload_n 3), am_i (.istore_n 1), am_i (.iinc 3 1), none, none, am_j (.goto (-29)) 24, none, none, am_i (.iload_n 1), am_j (.ifCond .le 33) 90, none, none, am_i (.aload_n 0), am_i (.aload_n 0), am_f (.getfield 60) 6 8 false, none],
  [none, am_i (.iconst 1), am_i .isub, am_i (.iconst 0), am_f (.invokevirtual 140) 137 2 false, none, none, am_i (.aload_n 0), am_i (.bipush 22), none, am_i (.iload_n 1), am_i (.iconst 0), am_i (.iconst 0), am_f (.invokevirtual 118) 130 4 false, none, none],
  [am_i (.aload_n 0), am_f (.getfield 18) 6 1 false, none, none, am_i (.iconst 0), am_i (.iload_n 1), am_i .ineg, am_f (.invokevirtual 150) 107 2 false, none, none, am_i .return_]]
/-- 134: TerminalHouse$Painter.rowsUnlike(I)I -/
def am_c134 : List (List (Option am_I)) := [[am_i (.iconst 0), am_i (.istore_n 2), am_i (.iconst 0), am_i (.istore_n 3), am_i (.iload_n 3), am_i (.aload_n 0), am_f (.getfield 60) 6 8 false, none, none, am_j (.if_icmp .ge 23) 32, none, none, am_i (.aload_n 0), am_i (.iload_n 3), am_i (.iload_n 3), am_i (.iload_n 1)],
  [am_i .iadd, am_f (.invokevirtual 153) 135 2 false, none, none, am_j (.ifCond .eq 6) 26, none, none, am_i (.iinc 2 1), none, none, am_i (.iinc 3 1), none, none, am_j (.goto (-25)) 4, none, none],
  [am_i (.iload_n 2), am_i .ireturn]]
/-- 135: TerminalHouse$Painter.isRowUnlike(II)Z -/
def am_c135 : List (List (Option am_I)) := [[am_i (.aload_n 0), am_i (.iload_n 1), am_f (.invokevirtual 157) 136 1 false, none, none, am_i (.istore_n 3), am_i (.iconst 0), am_i (.istore 4), none, am_i (.iload 4), none, am_i (.iload_n 3), am_j (.if_icmp .ge 62) 74, none, none, am_i (.iload_n 2)],
  [am_i (.aload_n 0), am_f (.getfield 60) 6 8 false, none, none, am_j (.if_icmp .ge 23) 43, none, none, am_i (.aload_n 0), am_f (.getfield 18) 6 1 false, none, none, am_f (.getfield 144) 9 0 true, none, none, am_i (.iload_n 2), am_i (.aload_n 0)],
  [am_f (.getfield 64) 6 9 false, none, none, am_i .imul, am_i (.iload 4), none, am_i .iadd, am_i .iaload, am_j (.goto 5) 45, none, none, am_i (.bipush 32), none, am_i (.istore 5), none, am_i (.aload_n 0)],
  [am_f (.getfield 24) 6 3 false, none, none, am_i (.iload_n 1), am_i (.aload_n 0), am_f (.getfield 64) 6 9 false, none, none, am_i .imul, am_i (.iload 4), none, am_i .iadd, am_i .iaload, am_i (.iload 5), none, am_j (.if_icmp .eq 5) 68],
  [none, none, am_i (.iconst 1), am_i .ireturn, am_i (.iinc 4 1), none, none, am_j (.goto (-62)) 9, none, none, am_i (.iconst 0), am_i .ireturn]]
/-- 136: TerminalHouse$Painter.paintable(I)I -/
def am_c136 : List (List (Option am_I)) := [[am_i (.iload_n 1), am_i (.aload_n 0), am_f (.getfield 60) 6 8 false, none, none, am_i (.iconst 1), am_i .isub, am_j (.if_icmp .ne 29) 36, none, none, am_i (.aload_n 0), am_f (.getfield 42) 6 6 false, none, none, am_i (.iconst 0), am_f (.invokevirtual 81) 74 1 false],
  [none, none, am_j (.ifCond .eq 18) 36, none, none, am_i (.aload_n 0), am_f (.getfield 42) 6 6 false, none, none, am_i (.iconst 1), am_f (.invokevirtual 81) 74 1 false, none, none, am_j (.ifCond .ne 7) 36, none, none],
  [am_i (.iconst 1), am_j (.goto 4) 37, none, none, am_i (.iconst 0), am_i (.istore_n 2), am_i (.iload_n 2), am_j (.ifCond .eq 12) 51, none, none, am_i (.aload_n 0), am_f (.getfield 64) 6 9 false, none, none, am_i (.iconst 1), am_i .isub],
  [am_j (.goto 7) 55, none, none, am_i (.aload_n 0), am_f (.getfield 64) 6 9 false, none, none, am_i .ireturn]]
/-- 137: TerminalHouse$Painter.moveTo(II)V -/
def am_c137 : List (List (Option am_I)) := [[am_i (.aload_n 0), am_f (.getfield 78) 6 14 false, none, none, am_j (.ifCond .eq 26) 30, none, none, am_i (.aload_n 0), am_f (.getfield 18) 6 1 false, none, none, am_f (.getfield 134) 9 6 true, none, none, am_i (.iload_n 1), am_j (.if_icmp .ne 15) 30],
  [none, none, am_i (.aload_n 0), am_f (.getfield 18) 6 1 false, none, none, am_f (.getfield 137) 9 7 true, none, none, am_i (.iload_n 2), am_j (.if_icmp .ne 4) 30, none, none, am_i .return_, am_i (.aload_n 0), am_f (.getfield 18) 6 1 false],
  [none, none, am_f (.getfield 180) 9 8 true, none, none, am_j (.ifCond .eq 31) 68, none, none, am_i (.aload_n 0), am_f (.getfield 42) 6 6 false, none, none, am_i (.iconst 2), am_f (.invokevirtual 81) 74 1 false, none, none],
  [am_j (.ifCond .ne 20) 68, none, none, am_i (.aload_n 0), am_i (.bipush 25), none, am_i (.iconst 1), am_i (.iconst 0), am_i (.iconst 0), am_f (.invokevirtual 118) 130 4 false, none, none, am_i (.aload_n 0), am_f (.getfield 18) 6 1 false, none, none],
  [am_i (.iconst 0), am_f (.putfield 180) 9 8 true, none, none, am_i (.aload_n 0), am_i (.aload_n 0), am_i (.iload_n 1), am_i (.iload_n 2), am_f (.invokevirtual 183) 138 2 false, none, none, am_i (.iload_n 1), am_i (.iload_n 2), am_f (.invokevirtual 186) 146 3 false, none, none],
  [am_i (.iconst 0), am_i (.istore_n 3), am_i (.iload_n 3), am_i (.aload_n 0), am_f (.getfield 190) 6 18 false, none, none, am_j (.if_icmp .ge 89) 176, none, none, am_i (.iload_n 3), am_i (.iconst 4), am_i .imul, am_i (.istore 4), none, am_i (.aload_n 0)],
  [am_f (.getfield 39) 6 17 false, none, none, am_i (.iload 4), none, am_i .iaload, am_i (.iconst (-1)), am_j (.if_icmp .ne 29) 132, none, none, am_i (.aload_n 0), am_i (.iload_n 1), am_i (.aload_n 0), am_f (.getfield 39) 6 17 false, none, none],
  [am_i (.iload 4), none, am_i (.iconst 2), am_i .iadd, am_i .iaload, am_i (.aload_n 0), am_f (.getfield 39) 6 17 false, none, none, am_i (.iload 4), none, am_i (.iconst 3), am_i .iadd, am_i .iaload, am_f (.invokevirtual 193) 151 3 false, none],
  [none, am_j (.goto 41) 170, none, none, am_i (.aload_n 0), am_i (.aload_n 0), am_f (.getfield 39) 6 17 false, none, none, am_i (.iload 4), none, am_i .iaload, am_i (.aload_n 0), am_f (.getfield 39) 6 17 false, none, none],
  [am_i (.iload 4), none, am_i (.iconst 1), am_i .iadd, am_i .iaload, am_i (.aload_n 0), am_f (.getfield 39) 6 17 false, none, none, am_i (.iload 4), none, am_i (.iconst 2), am_i .iadd, am_i .iaload, am_i (.aload_n 0), am_f (.getfield 39) 6 17 false],
  [none, none, am_i (.iload 4), none, am_i (.iconst 3), am_i .iadd, am_i .iaload, am_f (.invokevirtual 118) 130 4 false, none, none, am_i (.iinc 3 1), none, none, am_j (.goto (-91)) 82, none, none],
  [am_i (.aload_n 0), am_f (.getfield 18) 6 1 false, none, none, am_i (.iload_n 1), am_f (.putfield 134) 9 6 true, none, none, am_i (.aload_n 0), am_f (.getfield 18) 6 1 false, none, none, am_i (.iload_n 2), am_f (.putfield 137) 9 7 true, none, none],
  [am_i (.aload_n 0), am_i (.iconst 1), am_f (.putfield 78) 6 14 false, none, none, am_i .return_]]
/-- 138: TerminalHouse$Painter.cheapestWay(II)I -/
def am_c138 : List (List (Option am_I)) := [[am_i (.aload_n 0), am_f (.getfield 46) 6 7 false, none, none, am_i (.iload_n 1), am_i (.iload_n 2), am_i (.iconst 0), am_i (.iconst 0), am_f (.invokevirtual 99) 81 4 false, none, none, am_i (.iconst 1), am_i (.istore_n 3), am_i (.aload_n 0), am_f (.getfield 46) 6 7 false, none],
  [none, am_i (.aload_n 0), am_f (.getfield 42) 6 6 false, none, none, am_i (.bipush 9), none, am_f (.invokevirtual 104) 82 2 false, none, none, am_i (.istore 4), none, am_i (.aload_n 0), am_f (.getfield 78) 6 14 false, none, none],
  [am_j (.ifCond .eq 39) 71, none, none, am_i (.aload_n 0), am_f (.getfield 18) 6 1 false, none, none, am_f (.getfield 134) 9 6 true, none, none, am_i (.iload_n 1), am_j (.if_icmp .ne 28) 71, none, none, am_i (.aload_n 0), am_f (.getfield 36) 6 16 false],
  [none, none, am_i (.iconst 4), am_i .aaload, am_i (.iload_n 2), am_i .iaload, am_i (.iload 4), none, am_j (.if_icmp .ge 15) 71, none, none, am_i (.iconst 2), am_i (.istore_n 3), am_i (.aload_n 0), am_f (.getfield 36) 6 16 false, none],
  [none, am_i (.iconst 4), am_i .aaload, am_i (.iload_n 2), am_i .iaload, am_i (.istore 4), none, am_i (.aload_n 0), am_f (.getfield 78) 6 14 false, none, none, am_j (.ifCond .eq 39) 114, none, none, am_i (.aload_n 0), am_f (.getfield 18) 6 1 false],
  [none, none, am_f (.getfield 137) 9 7 true, none, none, am_i (.iload_n 2), am_j (.if_icmp .ne 28) 114, none, none, am_i (.aload_n 0), am_f (.getfield 36) 6 16 false, none, none, am_i (.iconst 5), am_i .aaload, am_i (.iload_n 1)],
  [am_i .iaload, am_i (.iload 4), none, am_j (.if_icmp .ge 15) 114, none, none, am_i (.iconst 3), am_i (.istore_n 3), am_i (.aload_n 0), am_f (.getfield 36) 6 16 false, none, none, am_i (.iconst 5), am_i .aaload, am_i (.iload_n 1), am_i .iaload],
  [am_i (.istore 4), none, am_i (.aload_n 0), am_f (.getfield 78) 6 14 false, none, none, am_j (.ifCond .eq 81) 199, none, none, am_i (.aload_n 0), am_i (.aload_n 0), am_f (.getfield 18) 6 1 false, none, none, am_f (.getfield 134) 9 6 true, none],
  [none, am_i (.iload_n 1), am_f (.invokevirtual 196) 139 2 false, none, none, am_i (.istore 5), none, am_i (.iload 5), none, am_i (.aload_n 0), am_i (.aload_n 0), am_f (.getfield 18) 6 1 false, none, none, am_f (.getfield 137) 9 7 true, none],
  [none, am_i (.iload_n 2), am_i (.iload_n 1), am_f (.invokevirtual 199) 141 3 false, none, none, am_i .iadd, am_i (.istore 6), none, am_i (.iload 6), none, am_i (.iload 4), none, am_j (.if_icmp .ge 9) 166, none, none],
  [am_i (.iconst 4), am_i (.istore_n 3), am_i (.iload 6), none, am_i (.istore 4), none, am_i (.aload_n 0), am_f (.getfield 31) 6 15 false, none, none, am_i (.bipush 20), none, am_i .iaload, am_i (.iload 5), none, am_i .iadd],
  [am_i (.aload_n 0), am_i (.iconst 0), am_i (.iload_n 2), am_i (.iload_n 1), am_f (.invokevirtual 199) 141 3 false, none, none, am_i .iadd, am_i (.istore 7), none, am_i (.iload 7), none, am_i (.iload 4), none, am_j (.if_icmp .ge 9) 199, none],
  [none, am_i (.iconst 5), am_i (.istore_n 3), am_i (.iload 7), none, am_i (.istore 4), none, am_i (.aload_n 0), am_f (.getfield 31) 6 15 false, none, none, am_i (.bipush 8), none, am_i .iaload, am_i (.aload_n 0), am_i (.iconst 0)],
  [am_i (.iload_n 1), am_f (.invokevirtual 196) 139 2 false, none, none, am_i .iadd, am_i (.aload_n 0), am_i (.iconst 0), am_i (.iload_n 2), am_i (.iload_n 1), am_f (.invokevirtual 199) 141 3 false, none, none, am_i .iadd, am_i (.istore 5), none, am_i (.iload 5)],
  [none, am_i (.iload 4), none, am_j (.if_icmp .ge 8) 235, none, none, am_i (.bipush 6), none, am_j (.goto 4) 236, none, none, am_i (.iload_n 3), am_i .ireturn]]
/-- 139: TerminalHouse$Painter.downLength(II)I -/
def am_c139 : List (List (Option am_I)) := [[am_i (.iload_n 2), am_i (.iload_n 1), am_j (.if_icmp .lt 17) 19, none, none, am_i (.aload_n 0), am_i (.bipush 11), none, am_i (.bipush 15), none, am_i (.iload_n 2), am_i (.iload_n 1), am_i .isub, am_f (.invokevirtual 202) 140 3 false, none, none],
  [am_j (.goto 14) 30, none, none, am_i (.aload_n 0), am_i (.bipush 10), none, am_i (.bipush 14), none, am_i (.iload_n 1), am_i (.iload_n 2), am_i .isub, am_f (.invokevirtual 202) 140 3 false, none, none, am_i .ireturn]]
/-- 140: TerminalHouse$Painter.pairLength(III)I -/
def am_c140 : List (List (Option am_I)) := [[am_i (.iload_n 3), am_j (.ifCond .ne 5) 6, none, none, am_i (.iconst 0), am_i .ireturn, am_i (.iload_n 3), am_i (.aload_n 0), am_f (.getfield 31) 6 15 false, none, none, am_i (.iload_n 1), am_i .iaload, am_i .imul, am_i (.istore 4), none],
  [am_i (.aload_n 0), am_f (.getfield 36) 6 16 false, none, none, am_i (.iload_n 2), am_i (.bipush 14), none, am_i .isub, am_i .aaload, am_i (.iload_n 3), am_i .iaload, am_i (.istore 5), none, am_i (.iload 4), none, am_i (.iload 5)],
  [none, am_j (.if_icmp .gt 8) 41, none, none, am_i (.iload 4), none, am_j (.goto 5) 43, none, none, am_i (.iload 5), none, am_i .ireturn]]
/-- 141: TerminalHouse$Painter.acrossLength(III)I -/
def am_c141 : List (List (Option am_I)) := [[am_i (.iload_n 2), am_i (.iload_n 1), am_j (.if_icmp .gt 15) 17, none, none, am_i (.aload_n 0), am_i (.bipush 12), none, am_i (.bipush 16), none, am_i (.iload_n 1), am_i (.iload_n 2), am_i .isub, am_f (.invokevirtual 202) 140 3 false, none, none],
  [am_i .ireturn, am_i (.aload_n 0), am_i (.bipush 13), none, am_i (.bipush 17), none, am_i (.iload_n 2), am_i (.iload_n 1), am_i .isub, am_f (.invokevirtual 202) 140 3 false, none, none, am_i (.istore 4), none, am_i (.iload 4), none],
  [am_i (.aload_n 0), am_i (.iload_n 1), am_i (.iload_n 2), am_f (.invokevirtual 205) 142 2 false, none, none, am_i (.aload_n 0), am_i (.iload_n 3), am_i (.iload_n 1), am_i (.iload_n 2), am_f (.invokevirtual 208) 145 3 false, none, none, am_j (.invokestatic 211) 1003, none, none],
  [am_j (.invokestatic 211) 1003, none, none, am_i .ireturn]]
/-- 142: TerminalHouse$Painter.tabsLength(II)I -/
def am_c142 : List (List (Option am_I)) := [[am_i (.aload_n 0), am_i (.iload_n 1), am_i (.iload_n 2), am_f (.invokevirtual 214) 143 2 false, none, none, am_i (.istore_n 3), am_i (.iload_n 3), am_i (.iconst (-1)), am_j (.if_icmp .ne 6) 15, none, none, am_v0 (.ldc 98) (.int 1000000), none, am_i .ireturn, am_i (.aload_n 0)],
  [am_i (.iload_n 1), am_i (.iload_n 3), am_f (.invokevirtual 217) 144 2 false, none, none, am_i (.aload_n 0), am_f (.getfield 31) 6 15 false, none, none, am_i (.bipush 21), none, am_i .iaload, am_i .imul, am_i (.aload_n 0), am_i (.bipush 13), none],
  [am_i (.bipush 17), none, am_i (.iload_n 2), am_i (.iload_n 3), am_i .isub, am_f (.invokevirtual 202) 140 3 false, none, none, am_i .iadd, am_i .ireturn]]
