/-- 0: TerminalHouse.<init>(III)V -/
def am_c0 : List (List (Option am_I)) := [[am_i (.aload_n 0), am_j (.invokespecial 3) 1000, none, none, am_i (.aload_n 0), am_i (.sipush 3000), none, none, am_i (.newarray .int), none, am_f (.putfield 9) 11 0 false, none, none, am_i (.aload_n 0), am_i (.sipush 300), none],
  [none, am_i (.newarray .int), none, am_f (.putfield 13) 11 2 false, none, none, am_i (.aload_n 0), am_j (.new 16) 7, none, none, am_i .dup, am_f (.invokespecial 18) 1 0 false, none, none, am_f (.putfield 19) 11 4 false, none],
  [none, am_i (.aload_n 0), am_j (.new 23) 5, none, none, am_i .dup, am_f (.invokespecial 25) 3 0 true, none, none, am_f (.putfield 26) 11 5 false, none, none, am_i (.aload_n 0), am_j (.new 30) 6, none, none],
  [am_i .dup, am_f (.invokespecial 32) 4 0 true, none, none, am_f (.putfield 33) 11 6 false, none, none, am_i (.aload_n 0), am_i (.bipush 8), none, am_j (.anewarray 37) 9, none, none, am_f (.putfield 39) 11 7 false, none, none],
  [am_i (.aload_n 0), am_j (.new 43) 1, none, none, am_i .dup, am_f (.invokespecial 45) 6 0 true, none, none, am_f (.putfield 46) 11 8 false, none, none, am_i (.aload_n 0), am_j (.new 50) 4, none, none, am_i .dup],
  [am_f (.invokespecial 52) 8 0 true, none, none, am_f (.putfield 53) 11 10 false, none, none, am_i (.aload_n 0), am_j (.new 57) 10, none, none, am_i .dup, am_f (.invokespecial 59) 9 0 true, none, none, am_f (.putfield 60) 11 11 false, none],
  [none, am_i (.aload_n 0), am_j (.new 57) 10, none, none, am_i .dup, am_f (.invokespecial 59) 9 0 true, none, none, am_f (.putfield 64) 11 12 false, none, none, am_i (.iload_n 2), am_i (.bipush 16), none, am_i (.bipush 80)],
  [none, am_f (.invokestatic 67) 10 3 false, none, none, am_i (.iconst 2), am_i .idiv, am_i (.iconst 2), am_i .imul, am_i (.istore 4), none, am_i (.aload_n 0), am_j (.new 71) 8, none, none, am_i .dup, am_i (.iload_n 1)],
  [am_i (.iconst 4), am_i (.bipush 24), none, am_f (.invokestatic 67) 10 3 false, none, none, am_i (.iload 4), none, am_f (.invokespecial 73) 11 2 false, none, none, am_f (.putfield 76) 11 9 false, none, none, am_i (.aload_n 0), am_i (.iload_n 3)],
  [am_i (.iconst 1), am_i (.bipush 16), none, am_f (.invokestatic 67) 10 3 false, none, none, am_f (.putfield 80) 11 13 false, none, none, am_i (.iconst 0), am_i (.istore 5), none, am_i (.iload 5), none, am_i (.bipush 8), none],
  [am_j (.if_icmp .ge 23) 183, none, none, am_i (.aload_n 0), am_f (.getfield 39) 11 7 false, none, none, am_i (.iload 5), none, am_j (.new 37) 9, none, none, am_i .dup, am_f (.invokespecial 84) 5 0 true, none, none],
  [am_i .aastore, am_i (.iinc 5 1), none, none, am_j (.goto (-24)) 156, none, none, am_i .return_]]
/-- 1: TerminalHouse$Reader.<init>()V -/
def am_c1 : List (List (Option am_I)) := [[am_i (.aload_n 0), am_j (.invokespecial 3) 1000, none, none, am_i (.aload_n 0), am_i (.bipush 12), none, am_j (.anewarray 11) 2, none, none, am_f (.putfield 13) 7 0 false, none, none, am_i (.aload_n 0), am_i (.iconst (-1)), am_f (.putfield 17) 7 3 false],
  [none, none, am_i (.aload_n 0), am_i (.iconst 0), am_i (.newarray .int), none, am_f (.putfield 21) 7 4 false, none, none, am_i (.aload_n 0), am_i (.bipush 39), none, am_i (.newarray .boolean), none, am_f (.putfield 25) 7 9 false, none],
  [none, am_i (.aload_n 0), am_i (.iconst 4), am_i (.newarray .int), none, am_f (.putfield 29) 7 10 false, none, none, am_i (.aload_n 0), am_i (.bipush 40), none, am_i (.newarray .int), none, am_f (.putfield 32) 7 12 false, none, none],
  [am_i (.iconst 0), am_i (.istore_n 1), am_i (.iload_n 1), am_i (.bipush 12), none, am_j (.if_icmp .ge 22) 75, none, none, am_i (.aload_n 0), am_f (.getfield 13) 7 0 false, none, none, am_i (.iload_n 1), am_j (.new 11) 2, none, none],
  [am_i .dup, am_f (.invokespecial 35) 2 0 true, none, none, am_i .aastore, am_i (.iinc 1 1), none, none, am_j (.goto (-22)) 50, none, none, am_i .return_]]
/-- 2: TerminalHouse$Entry.<init>()V -/
def am_c2 : List (List (Option am_I)) := [[am_i (.aload_n 0), am_j (.invokespecial 3) 1000, none, none, am_i (.aload_n 0), am_i (.bipush 48), none, am_i (.newarray .int), none, am_f (.putfield 11) 2 0 false, none, none, am_i (.aload_n 0), am_i (.iconst 4), am_i (.newarray .int), none],
  [am_f (.putfield 15) 2 1 false, none, none, am_i (.aload_n 0), am_i (.bipush 39), none, am_i (.newarray .boolean), none, am_f (.putfield 18) 2 3 false, none, none, am_i (.aload_n 0), am_i (.bipush 6), none, am_i (.newarray .int), none],
  [am_f (.putfield 22) 2 4 false, none, none, am_i (.aload_n 0), am_i (.sipush 1320), none, none, am_i (.newarray .int), none, am_f (.putfield 25) 2 5 false, none, none, am_i (.aload_n 0), am_i (.bipush 33), none, am_i (.newarray .int)],
  [none, am_f (.putfield 28) 2 6 false, none, none, am_i .return_]]
/-- 3: TerminalHouse$Machine.<init>()V -/
def am_c3 : List (List (Option am_I)) := [[am_i (.aload_n 0), am_j (.invokespecial 3) 1000, none, none, am_i (.aload_n 0), am_i (.bipush 8), none, am_i (.newarray .int), none, am_f (.putfield 11) 5 0 false, none, none, am_i (.aload_n 0), am_i (.iconst 4), am_i (.newarray .int), none],
  [am_f (.putfield 15) 5 2 false, none, none, am_i (.aload_n 0), am_i (.bipush 60), none, am_i (.newarray .int), none, am_f (.putfield 18) 5 3 false, none, none, am_i .return_]]
/-- 4: TerminalHouse$Painter.<init>()V -/
def am_c4 : List (List (Option am_I)) := [[am_i (.aload_n 0), am_j (.invokespecial 3) 1000, none, none, am_i (.aload_n 0), am_j (.new 9) 9, none, none, am_i .dup, am_f (.invokespecial 11) 5 0 true, none, none, am_f (.putfield 12) 6 0 false, none, none, am_i (.aload_n 0)],
  [am_j (.new 9) 9, none, none, am_i .dup, am_f (.invokespecial 11) 5 0 true, none, none, am_f (.putfield 18) 6 1 false, none, none, am_i (.aload_n 0), am_j (.new 9) 9, none, none, am_i .dup, am_f (.invokespecial 11) 5 0 true],
  [none, none, am_f (.putfield 21) 6 2 false, none, none, am_i (.aload_n 0), am_i (.sipush 1920), none, none, am_i (.newarray .int), none, am_f (.putfield 24) 6 3 false, none, none, am_i (.aload_n 0), am_i (.sipush 6000)],
  [none, none, am_i (.newarray .int), none, am_f (.putfield 28) 6 4 false, none, none, am_i (.aload_n 0), am_i (.bipush 39), none, am_i (.newarray .int), none, am_f (.putfield 31) 6 15 false, none, none, am_i (.aload_n 0)],
  [am_i (.bipush 6), none, am_i (.bipush 80), none, am_i (.multianewarray 34 2), none, none, none, am_f (.putfield 36) 6 16 false, none, none, am_i (.aload_n 0), am_i (.bipush 20), none, am_i (.newarray .int), none],
  [am_f (.putfield 39) 6 17 false, none, none, am_i .return_]]
/-- 5: TerminalHouse$Window.<init>()V -/
def am_c5 : List (List (Option am_I)) := [[am_i (.aload_n 0), am_j (.invokespecial 3) 1000, none, none, am_i (.aload_n 0), am_i (.sipush 1920), none, none, am_i (.newarray .int), none, am_f (.putfield 9) 9 0 false, none, none, am_i .return_]]
/-- 6: TerminalHouse$Discipline.<init>()V -/
def am_c6 : List (List (Option am_I)) := [[am_i (.aload_n 0), am_j (.invokespecial 3) 1000, none, none, am_i (.aload_n 0), am_j (.new 9) 0, none, none, am_i .dup, am_i (.sipush 8000), none, none, am_f (.invokespecial 11) 7 1 false, none, none, am_f (.putfield 14) 1 0 false],
  [none, none, am_i (.aload_n 0), am_j (.new 9) 0, none, none, am_i .dup, am_i (.bipush 100), none, am_f (.invokespecial 11) 7 1 false, none, none, am_f (.putfield 20) 1 1 false, none, none, am_i (.aload_n 0)],
  [am_j (.new 9) 0, none, none, am_i .dup, am_i (.sipush 300), none, none, am_f (.invokespecial 11) 7 1 false, none, none, am_f (.putfield 23) 1 2 false, none, none, am_i (.aload_n 0), am_i (.bipush 127), none],
  [am_f (.putfield 26) 1 3 false, none, none, am_i .return_]]
/-- 7: TerminalHouse$Bytes.<init>(I)V -/
def am_c7 : List (List (Option am_I)) := [[am_i (.aload_n 0), am_j (.invokespecial 3) 1000, none, none, am_i (.aload_n 0), am_i (.iconst 1), am_i (.iload_n 1), am_j (.invokestatic 9) 1002, none, none, am_i (.newarray .int), none, am_f (.putfield 15) 0 0 false, none, none, am_i .return_]]
/-- 8: TerminalHouse$Keyboard.<init>()V -/
def am_c8 : List (List (Option am_I)) := [[am_i (.aload_n 0), am_j (.invokespecial 3) 1000, none, none, am_i (.aload_n 0), am_i (.bipush 127), none, am_i (.newarray .boolean), none, am_f (.putfield 11) 4 0 false, none, none, am_i (.aload_n 0), am_i (.bipush 127), none, am_i (.newarray .boolean)],
  [none, am_f (.putfield 15) 4 1 false, none, none, am_i (.aload_n 0), am_i (.iconst (-1)), am_f (.putfield 18) 4 3 false, none, none, am_i (.aload_n 0), am_i (.iconst 3), am_i (.newarray .int), none, am_f (.putfield 22) 4 5 false, none, none],
  [am_i .return_]]
/-- 9: TerminalHouse$Wire.<init>()V -/
def am_c9 : List (List (Option am_I)) := [[am_i (.aload_n 0), am_j (.invokespecial 3) 1000, none, none, am_i (.aload_n 0), am_i (.iconst (-1)), am_f (.putfield 9) 10 0 false, none, none, am_i .return_]]
/-- 10: TerminalHouse.nearest(III)I -/
def am_c10 : List (List (Option am_I)) := [[am_i (.iload_n 0), am_i (.iload_n 1), am_j (.if_icmp .ge 5) 7, none, none, am_i (.iload_n 1), am_i .ireturn, am_i (.iload_n 0), am_i (.iload_n 2), am_j (.if_icmp .le 7) 16, none, none, am_i (.iload_n 2), am_j (.goto 4) 17, none, none],
  [am_i (.iload_n 0), am_i .ireturn]]
/-- 11: TerminalHouse$Terminal.<init>(II)V -/
def am_c11 : List (List (Option am_I)) := [[am_i (.aload_n 0), am_j (.invokespecial 3) 1000, none, none, am_i (.aload_n 0), am_j (.new 9) 0, none, none, am_i .dup, am_i (.bipush 64), none, am_f (.invokespecial 11) 7 1 false, none, none, am_f (.putfield 14) 8 1 false, none],
  [none, am_i (.aload_n 0), am_j (.new 9) 0, none, none, am_i .dup, am_i (.bipush 32), none, am_f (.invokespecial 11) 7 1 false, none, none, am_f (.putfield 20) 8 2 false, none, none, am_i (.aload_n 0), am_i (.bipush 32)],
  [none, am_i (.newarray .int), none, am_f (.putfield 23) 8 3 false, none, none, am_i (.aload_n 0), am_i (.bipush 8), none, am_i (.newarray .int), none, am_f (.putfield 27) 8 11 false, none, none, am_i (.aload_n 0), am_j (.new 30) 3],
  [none, none, am_i .dup, am_i (.iload_n 1), am_i (.iload_n 2), am_f (.invokespecial 32) 12 2 false, none, none, am_f (.putfield 35) 8 0 false, none, none, am_i .return_]]
/-- 12: TerminalHouse$Glass.<init>(II)V -/
def am_c12 : List (List (Option am_I)) := [[am_i (.aload_n 0), am_j (.invokespecial 3) 1000, none, none, am_i (.aload_n 0), am_i (.bipush 6), none, am_i (.newarray .int), none, am_f (.putfield 9) 3 17 false, none, none, am_i (.aload_n 0), am_i (.iload_n 1), am_i (.iconst 1), am_i (.bipush 24)],
  [none, am_f (.invokestatic 15) 10 3 true, none, none, am_f (.putfield 19) 3 0 false, none, none, am_i (.aload_n 0), am_i (.iload_n 2), am_i (.iconst 2), am_i (.bipush 80), none, am_f (.invokestatic 15) 10 3 true, none, none, am_f (.putfield 23) 3 1 false],
  [none, none, am_i (.aload_n 0), am_i (.aload_n 0), am_f (.getfield 19) 3 0 false, none, none, am_i (.aload_n 0), am_f (.getfield 23) 3 1 false, none, none, am_i .imul, am_i (.newarray .int), none, am_f (.putfield 26) 3 2 false, none],
  [none, am_i (.aload_n 0), am_i (.aload_n 0), am_f (.getfield 19) 3 0 false, none, none, am_i (.newarray .int), none, am_f (.putfield 29) 3 3 false, none, none, am_i (.aload_n 0), am_i (.aload_n 0), am_f (.getfield 23) 3 1 false, none, none],
  [am_i (.newarray .boolean), none, am_f (.putfield 32) 3 4 false, none, none, am_i (.aload_n 0), am_f (.invokevirtual 36) 13 0 false, none, none, am_i .return_]]
/-- 13: TerminalHouse$Glass.reset()V -/
def am_c13 : List (List (Option am_I)) := [[am_i (.aload_n 0), am_f (.getfield 26) 3 2 false, none, none, am_i (.iconst 0), am_i (.aload_n 0), am_f (.getfield 26) 3 2 false, none, none, am_i .arraylength, am_i (.bipush 32), none, am_f (.invokestatic 39) 14 4 false, none, none, am_i (.aload_n 0)],
  [am_f (.getfield 29) 3 3 false, none, none, am_i (.iconst 0), am_i (.aload_n 0), am_f (.getfield 19) 3 0 false, none, none, am_i (.iconst 0), am_f (.invokestatic 39) 14 4 false, none, none, am_i (.iconst 0), am_i (.istore_n 1), am_i (.iload_n 1), am_i (.aload_n 0)],
  [am_f (.getfield 23) 3 1 false, none, none, am_j (.if_icmp .ge 31) 66, none, none, am_i (.aload_n 0), am_f (.getfield 32) 3 4 false, none, none, am_i (.iload_n 1), am_i (.iload_n 1), am_j (.ifCond .le 14) 58, none, none, am_i (.iload_n 1)],
  [am_i (.bipush 8), none, am_i .irem, am_j (.ifCond .ne 7) 58, none, none, am_i (.iconst 1), am_j (.goto 4) 59, none, none, am_i (.iconst 0), am_i .bastore, am_i (.iinc 1 1), none, none, am_j (.goto (-33)) 30],
  [none, none, am_i (.aload_n 0), am_i (.iconst 0), am_f (.putfield 45) 3 8 false, none, none, am_i (.aload_n 0), am_i (.aload_n 0), am_f (.getfield 19) 3 0 false, none, none, am_i (.iconst 1), am_i .isub, am_f (.putfield 48) 3 9 false, none],
  [none, am_i (.aload_n 0), am_i (.bipush 96), none, am_f (.putfield 51) 3 10 false, none, none, am_i (.aload_n 0), am_i (.iconst 0), am_f (.putfield 54) 3 11 false, none, none, am_i (.aload_n 0), am_i (.iconst 0), am_f (.putfield 57) 3 12 false, none],
  [none, am_i (.aload_n 0), am_i (.iconst 0), am_f (.putfield 60) 3 13 false, none, none, am_i (.aload_n 0), am_i (.iconst 0), am_f (.putfield 63) 3 14 false, none, none, am_i (.aload_n 0), am_i (.iconst 0), am_i (.iconst 0), am_f (.invokevirtual 66) 16 2 false, none],
  [none, am_i (.aload_n 0), am_f (.invokevirtual 70) 18 0 false, none, none, am_i .return_]]
/-- 14: java/util/Arrays.fill([IIII)V -/
def am_c14 : List (List (Option am_I)) := [[am_i (.aload_n 0), am_i .arraylength, am_i (.iload_n 1), am_i (.iload_n 2), am_f (.invokestatic 13) 15 3 false, none, none, am_i (.iload_n 1), am_i (.istore 4), none, am_i (.iload 4), none, am_i (.iload_n 2), am_j (.if_icmp .ge 14) 27, none, none],
  [am_i (.aload_n 0), am_i (.iload 4), none, am_i (.iload_n 3), am_i .iastore, am_i (.iinc 4 1), none, none, am_j (.goto (-14)) 10, none, none, am_i .return_]]
/-- 15: java/util/Arrays.rangeCheck(III)V -/
def am_c15 : List (List (Option am_I)) := [[am_i (.iload_n 1), am_i (.iload_n 2), am_j (.if_icmp .le 44) 46, none, none, none, none, none, am_i .dup, none, none, none, am_i .dup, none, none, none],
  [none, none, none, none, none, am_i (.iload_n 1), none, none, none, none, none, none, none, none, am_i (.iload_n 2), none],
  [none, none, none, none, none, none, none, none, none, none, none, none, none, none, am_i (.iload_n 1), am_j (.ifCond .ge 12) 59],
  [none, none, none, none, none, am_i .dup, am_i (.iload_n 1), none, none, none, none, am_i (.iload_n 2), am_i (.iload_n 0), am_j (.if_icmp .le 12) 73, none, none],
  [none, none, none, am_i .dup, am_i (.iload_n 2), none, none, none, none, am_i .return_]]
/-- 16: TerminalHouse$Glass.place(II)V -/
def am_c16 : List (List (Option am_I)) := [[am_i (.aload_n 0), am_i (.iload_n 1), am_i (.iconst 0), am_i (.aload_n 0), am_f (.getfield 19) 3 0 false, none, none, am_i (.iconst 1), am_i .isub, am_f (.invokestatic 15) 10 3 true, none, none, am_f (.putfield 73) 3 5 false, none, none, am_i (.aload_n 0)],
  [am_i (.iload_n 2), am_i (.iconst 0), am_i (.aload_n 0), am_f (.invokevirtual 79) 17 0 false, none, none, am_f (.invokestatic 15) 10 3 true, none, none, am_f (.putfield 76) 3 6 false, none, none, am_i (.aload_n 0), am_i (.iconst 0), am_f (.putfield 83) 3 7 false, none],
  [none, am_i .return_]]
/-- 17: TerminalHouse$Glass.last()I -/
def am_c17 : List (List (Option am_I)) := [[am_i (.aload_n 0), am_f (.getfield 29) 3 3 false, none, none, am_i (.aload_n 0), am_f (.getfield 73) 3 5 false, none, none, am_i .iaload, am_j (.ifCond .ne 12) 21, none, none, am_i (.aload_n 0), am_f (.getfield 23) 3 1 false, none, none],
  [am_i (.iconst 1), am_i .isub, am_j (.goto 11) 29, none, none, am_i (.aload_n 0), am_f (.getfield 23) 3 1 false, none, none, am_i (.iconst 2), am_i .idiv, am_i (.iconst 1), am_i .isub, am_i .ireturn]]
/-- 18: TerminalHouse$Glass.save()V -/
def am_c18 : List (List (Option am_I)) := [[am_i (.aload_n 0), am_f (.getfield 9) 3 17 false, none, none, am_i (.iconst 0), am_i (.aload_n 0), am_f (.getfield 73) 3 5 false, none, none, am_i .iastore, am_i (.aload_n 0), am_f (.getfield 9) 3 17 false, none, none, am_i (.iconst 1), am_i (.aload_n 0)],
  [am_f (.getfield 76) 3 6 false, none, none, am_i .iastore, am_i (.aload_n 0), am_f (.getfield 9) 3 17 false, none, none, am_i (.iconst 2), am_i (.aload_n 0), am_f (.getfield 54) 3 11 false, none, none, am_i .iastore, am_i (.aload_n 0), am_f (.getfield 9) 3 17 false],
  [none, none, am_i (.iconst 3), am_i (.aload_n 0), am_f (.getfield 57) 3 12 false, none, none, am_i .iastore, am_i (.aload_n 0), am_f (.getfield 9) 3 17 false, none, none, am_i (.iconst 4), am_i (.aload_n 0), am_f (.getfield 60) 3 13 false, none],
  [none, am_i .iastore, am_i (.aload_n 0), am_f (.getfield 9) 3 17 false, none, none, am_i (.iconst 5), am_i (.aload_n 0), am_f (.getfield 51) 3 10 false, none, none, am_i (.bipush 16), none, am_i .iand, am_i .iastore, am_i .return_]]
/-- 19: TerminalHouse.feed(IIIII)Z -/
def am_c19 : List (List (Option am_I)) := [[am_i (.aload_n 0), am_f (.getfield 85) 11 1 false, none, none, am_i (.bipush 20), none, am_i .iadd, am_i (.sipush 3000), none, none, am_j (.if_icmp .le 5) 15, none, none, am_i (.iconst 0), am_i .ireturn, am_i (.aload_n 0)],
  [am_i (.iload_n 1), am_f (.invokevirtual 88) 20 1 false, none, none, am_i (.aload_n 0), am_i (.iload_n 2), am_f (.invokevirtual 88) 20 1 false, none, none, am_i (.aload_n 0), am_i (.iload_n 3), am_f (.invokevirtual 88) 20 1 false, none, none, am_i (.aload_n 0), am_i (.iload 4)],
  [none, am_f (.invokevirtual 88) 20 1 false, none, none, am_i (.aload_n 0), am_i (.iload 5), none, am_f (.invokevirtual 88) 20 1 false, none, none, am_i (.iconst 1), am_i .ireturn]]
/-- 20: TerminalHouse.feedFour(I)V -/
def am_c20 : List (List (Option am_I)) := [[am_i (.bipush 24), none, am_i (.istore_n 2), am_i (.iload_n 2), am_j (.ifCond .lt 45) 49, none, none, am_i (.aload_n 0), am_f (.getfield 85) 11 1 false, none, none, am_i (.sipush 3000), none, none, am_j (.if_icmp .ge 35) 49, none],
  [none, am_i (.aload_n 0), am_f (.getfield 9) 11 0 false, none, none, am_i (.aload_n 0), am_f (.getfield 85) 11 1 false, none, none, am_i (.iload_n 1), am_i (.iload_n 2), am_i .iushr, am_i (.sipush 255), none, none, am_i .iand],
  [am_i .iastore, am_i (.aload_n 0), am_i .dup, am_f (.getfield 85) 11 1 false, none, none, am_i (.iconst 1), am_i .iadd, am_f (.putfield 85) 11 1 false, none, none, am_i (.iinc 2 (-8)), none, none, am_j (.goto (-43)) 3, none],
  [none, am_i .return_]]
/-- 21: TerminalHouse.end(I)Z -/
def am_c21 : List (List (Option am_I)) := [[am_i (.iload_n 1), am_j (.ifCond .lt 11) 12, none, none, am_i (.iload_n 1), am_i (.aload_n 0), am_f (.getfield 85) 11 1 false, none, none, am_j (.if_icmp .le 5) 14, none, none, am_i (.iconst 0), am_i .ireturn, am_i (.aload_n 0), am_i (.iload_n 1)],
  [am_f (.putfield 85) 11 1 false, none, none, am_i (.iconst 1), am_i .ireturn]]
/-- 22: TerminalHouse.describe()I -/
def am_c22 : List (List (Option am_I)) := [[am_i (.aload_n 0), am_f (.getfield 19) 11 4 false, none, none, am_i (.aload_n 0), am_f (.getfield 9) 11 0 false, none, none, am_i (.aload_n 0), am_f (.getfield 85) 11 1 false, none, none, am_f (.invokevirtual 98) 23 2 false, none, none, am_i (.istore_n 1)],
  [am_i (.aload_n 0), am_i (.iconst 0), am_f (.putfield 85) 11 1 false, none, none, am_i (.iload_n 1), am_i .ireturn]]
/-- 23: TerminalHouse$Reader.readText([II)I -/
def am_c23 : List (List (Option am_I)) := [[am_i (.aload_n 0), am_i (.aload_n 1), am_f (.putfield 21) 7 4 false, none, none, am_i (.aload_n 0), am_i (.iload_n 2), am_f (.putfield 47) 7 5 false, none, none, am_i (.aload_n 0), am_i (.iconst 0), am_f (.putfield 50) 7 6 false, none, none, am_i (.aload_n 0)],
  [am_i (.aload_n 0), am_f (.getfield 36) 7 1 false, none, none, am_f (.putfield 53) 7 7 false, none, none, am_i (.aload_n 0), am_i .aconst_null, am_f (.putfield 56) 7 8 false, none, none, am_i (.aload_n 0), am_i (.iconst 0), am_f (.putfield 60) 7 2 false, none],
  [none, am_i (.aload_n 0), am_i (.iconst (-1)), am_f (.putfield 17) 7 3 false, none, none, am_i (.iconst 1), am_i (.istore_n 3), am_i (.iconst 0), am_i (.istore 4), none, am_i (.iload 4), none, am_i (.iload_n 2), am_j (.if_icmp .ge 85) 131, none],
  [none, am_i (.iload_n 3), am_j (.ifCond .eq 81) 131, none, none, am_i (.aload_n 0), am_f (.getfield 50) 7 6 false, none, none, am_i (.aload_n 0), am_f (.getfield 47) 7 5 false, none, none, am_j (.if_icmp .ge 70) 131, none, none],
  [am_i (.aload_n 0), am_f (.getfield 21) 7 4 false, none, none, am_i (.aload_n 0), am_f (.getfield 50) 7 6 false, none, none, am_i .iaload, am_i (.istore 5), none, am_i (.iload 5), none, am_i (.bipush 35), none, am_j (.if_icmp .ne 11) 90],
  [none, none, am_i (.aload_n 0), am_f (.invokevirtual 63) 24 0 false, none, none, am_i (.istore_n 3), am_j (.goto 38) 125, none, none, am_i (.iload 5), none, am_f (.invokestatic 67) 29 1 true, none, none, am_j (.ifCond .eq 11) 106],
  [none, none, am_i (.aload_n 0), am_f (.invokevirtual 71) 30 0 false, none, none, am_i (.istore_n 3), am_j (.goto 22) 125, none, none, am_i (.iload 5), none, am_i (.bipush 10), none, am_j (.if_icmp .ne 10) 120, none],
  [none, am_i (.aload_n 0), am_f (.invokevirtual 74) 27 0 false, none, none, am_j (.goto 7) 124, none, none, am_i (.aload_n 0), am_f (.invokevirtual 77) 62 0 false, none, none, am_i (.istore_n 3), am_i (.iinc 4 1), none, none],
  [am_j (.goto (-85)) 43, none, none, am_i (.iload_n 3), am_j (.ifCond .ne 5) 137, none, none, am_i (.iconst (-1)), am_i .ireturn, am_i (.aload_n 0), am_f (.invokevirtual 80) 63 0 false, none, none, am_i (.aload_n 0), am_i (.aload_n 0), am_f (.getfield 53) 7 7 false],
  [none, none, am_f (.putfield 36) 7 1 false, none, none, am_i (.aload_n 0), am_f (.getfield 36) 7 1 false, none, none, am_i .ireturn]]
/-- 24: TerminalHouse$Reader.passComment()Z -/
def am_c24 : List (List (Option am_I)) := [[am_i (.aload_n 0), am_f (.getfield 50) 7 6 false, none, none, am_i (.aload_n 0), am_f (.getfield 47) 7 5 false, none, none, am_j (.if_icmp .ge 55) 63, none, none, am_i (.aload_n 0), am_f (.getfield 21) 7 4 false, none, none, am_i (.aload_n 0)],
  [am_f (.getfield 50) 7 6 false, none, none, am_i .iaload, am_i (.bipush 10), none, am_j (.if_icmp .eq 41) 63, none, none, am_i (.aload_n 0), am_f (.getfield 21) 7 4 false, none, none, am_i (.aload_n 0), am_f (.getfield 50) 7 6 false, none],
  [none, am_i .iaload, am_f (.invokestatic 83) 25 1 false, none, none, am_j (.ifCond .ne 13) 50, none, none, am_i (.aload_n 0), am_i (.iconst 1), am_i (.aload_n 0), am_f (.getfield 50) 7 6 false, none, none, am_f (.invokevirtual 86) 26 2 false, none],
  [none, am_i .ireturn, am_i (.aload_n 0), am_i .dup, am_f (.getfield 50) 7 6 false, none, none, am_i (.iconst 1), am_i .iadd, am_f (.putfield 50) 7 6 false, none, none, am_j (.goto (-60)) 0, none, none, am_i (.aload_n 0)],
  [am_f (.invokevirtual 74) 27 0 false, none, none, am_i .ireturn]]
/-- 25: TerminalHouse$Reader.isText(I)Z -/
def am_c25 : List (List (Option am_I)) := [[am_i (.iload_n 0), am_i (.iconst (-1)), am_j (.if_icmp .eq 27) 29, none, none, am_i (.iload_n 0), am_i (.bipush 10), none, am_j (.if_icmp .eq 21) 29, none, none, am_i (.iload_n 0), am_i (.bipush 9), none, am_j (.if_icmp .eq 15) 29, none],
  [none, am_i (.iload_n 0), am_i (.bipush 32), none, am_j (.if_icmp .lt 13) 33, none, none, am_i (.iload_n 0), am_i (.bipush 126), none, am_j (.if_icmp .gt 7) 33, none, none, am_i (.iconst 1), am_j (.goto 4) 34, none],
  [none, am_i (.iconst 0), am_i .ireturn]]
/-- 26: TerminalHouse$Reader.failed(II)Z -/
def am_c26 : List (List (Option am_I)) := [[am_i (.aload_n 0), am_i (.iload_n 1), am_f (.putfield 60) 7 2 false, none, none, am_i (.aload_n 0), am_i (.iload_n 2), am_f (.putfield 17) 7 3 false, none, none, am_i (.iconst 0), am_i .ireturn]]
/-- 27: TerminalHouse$Reader.passLineEnd()Z -/
def am_c27 : List (List (Option am_I)) := [[am_i (.aload_n 0), am_i (.aload_n 0), am_f (.getfield 50) 7 6 false, none, none, am_f (.invokevirtual 90) 28 1 false, none, none, am_i (.istore_n 1), am_i (.iload_n 1), am_i (.iconst (-1)), am_j (.if_icmp .eq 19) 30, none, none, am_i (.iload_n 1), am_i (.bipush 10)],
  [none, am_j (.if_icmp .eq 13) 30, none, none, am_i (.aload_n 0), am_i (.iconst 1), am_i (.aload_n 0), am_f (.getfield 50) 7 6 false, none, none, am_f (.invokevirtual 86) 26 2 false, none, none, am_i .ireturn, am_i (.aload_n 0), am_i .dup],
  [am_f (.getfield 50) 7 6 false, none, none, am_i (.iconst 1), am_i .iadd, am_f (.putfield 50) 7 6 false, none, none, am_i (.iconst 1), am_i .ireturn]]
/-- 28: TerminalHouse$Reader.byteAt(I)I -/
def am_c28 : List (List (Option am_I)) := [[am_i (.iload_n 1), am_j (.ifCond .lt 11) 12, none, none, am_i (.iload_n 1), am_i (.aload_n 0), am_f (.getfield 47) 7 5 false, none, none, am_j (.if_icmp .lt 7) 16, none, none, am_i (.iconst (-1)), am_j (.goto 9) 22, none, none],
  [am_i (.aload_n 0), am_f (.getfield 21) 7 4 false, none, none, am_i (.iload_n 1), am_i .iaload, am_i .ireturn]]
/-- 29: TerminalHouse.isBlank(I)Z -/
def am_c29 : List (List (Option am_I)) := [[am_i (.iload_n 0), am_i (.bipush 9), none, am_j (.if_icmp .eq 9) 12, none, none, am_i (.iload_n 0), am_i (.bipush 32), none, am_j (.if_icmp .ne 7) 16, none, none, am_i (.iconst 1), am_j (.goto 4) 17, none, none],
  [am_i (.iconst 0), am_i .ireturn]]
/-- 30: TerminalHouse$Reader.readFields()Z -/
def am_c30 : List (List (Option am_I)) := [[am_i (.aload_n 0), am_f (.invokevirtual 103) 31 0 false, none, none, am_i (.iconst 0), am_i (.istore_n 1), am_i (.iload_n 1), am_i (.aload_n 0), am_f (.getfield 47) 7 5 false, none, none, am_j (.if_icmp .ge 64) 75, none, none, am_i (.aload_n 0), am_f (.getfield 50) 7 6 false],
  [none, none, am_i (.aload_n 0), am_f (.getfield 47) 7 5 false, none, none, am_j (.if_icmp .ge 53) 75, none, none, am_i (.aload_n 0), am_f (.getfield 21) 7 4 false, none, none, am_i (.aload_n 0), am_f (.getfield 50) 7 6 false, none],
  [none, am_i .iaload, am_i (.bipush 10), none, am_j (.if_icmp .eq 39) 75, none, none, am_i (.aload_n 0), am_f (.getfield 56) 7 8 false, none, none, am_j (.ifnonnull 13) 56, none, none, am_i (.aload_n 0), am_i (.iconst 1)],
  [am_i (.aload_n 0), am_f (.getfield 50) 7 6 false, none, none, am_f (.invokevirtual 86) 26 2 false, none, none, am_i .ireturn, am_i (.aload_n 0), am_f (.invokevirtual 123) 32 0 false, none, none, am_j (.ifCond .ne 5) 65, none, none, am_i (.iconst 0)],
  [am_i .ireturn, am_i (.aload_n 0), am_f (.invokevirtual 103) 31 0 false, none, none, am_i (.iinc 1 1), none, none, am_j (.goto (-66)) 6, none, none, am_i (.aload_n 0), am_f (.invokevirtual 74) 27 0 false, none, none, am_i .ireturn]]
/-- 31: TerminalHouse$Reader.passBlanks()V -/
def am_c31 : List (List (Option am_I)) := [[am_i (.aload_n 0), am_f (.getfield 50) 7 6 false, none, none, am_i (.aload_n 0), am_f (.getfield 47) 7 5 false, none, none, am_j (.if_icmp .ge 31) 39, none, none, am_i (.aload_n 0), am_f (.getfield 21) 7 4 false, none, none, am_i (.aload_n 0)],
  [am_f (.getfield 50) 7 6 false, none, none, am_i .iaload, am_f (.invokestatic 67) 29 1 true, none, none, am_j (.ifCond .eq 16) 39, none, none, am_i (.aload_n 0), am_i .dup, am_f (.getfield 50) 7 6 false, none, none, am_i (.iconst 1)],
  [am_i .iadd, am_f (.putfield 50) 7 6 false, none, none, am_j (.goto (-36)) 0, none, none, am_i .return_]]
/-- 32: TerminalHouse$Reader.readField()Z -/
def am_c32 : List (List (Option am_I)) := [[am_i (.aload_n 0), am_f (.getfield 50) 7 6 false, none, none, am_i (.istore_n 1), am_i (.aload_n 0), am_f (.invokevirtual 126) 33 0 false, none, none, am_j (.ifCond .ne 5) 14, none, none, am_i (.iconst 0), am_i .ireturn, am_i (.aload_n 0), am_i (.aload_n 0)],
  [am_f (.getfield 50) 7 6 false, none, none, am_f (.invokevirtual 90) 28 1 false, none, none, am_i (.istore_n 2), am_i (.aload_n 0), am_f (.getfield 50) 7 6 false, none, none, am_i (.iload_n 1), am_i .isub, am_i (.istore_n 3), am_i (.iload_n 3), am_i (.iconst 5)],
  [am_j (.if_icmp .le 10) 42, none, none, am_i (.aload_n 0), am_i (.iconst 2), am_i (.iload_n 1), am_f (.invokevirtual 86) 26 2 false, none, none, am_i .ireturn, am_i (.iload_n 2), am_i (.bipush 61), none, am_j (.if_icmp .ne 42) 87, none, none],
  [am_i (.aload_n 0), am_i (.iload_n 1), am_i (.iload_n 3), am_f (.invokevirtual 129) 36 2 false, none, none, am_j (.ifCond .eq 33) 87, none, none, am_i (.aload_n 0), am_i .dup, am_f (.getfield 50) 7 6 false, none, none, am_i (.iconst 1), am_i .iadd],
  [am_f (.putfield 50) 7 6 false, none, none, am_i (.aload_n 0), am_f (.invokevirtual 132) 37 0 false, none, none, am_j (.ifCond .eq 14) 85, none, none, am_i (.aload_n 0), am_f (.invokevirtual 135) 43 0 false, none, none, am_j (.ifCond .eq 7) 85, none],
  [none, am_i (.iconst 1), am_j (.goto 4) 86, none, none, am_i (.iconst 0), am_i .ireturn, am_i (.aload_n 0), am_f (.getfield 21) 7 4 false, none, none, am_i (.iload_n 1), am_i (.iload_n 3), am_f (.invokestatic 138) 44 3 true, none, none],
  [am_i (.istore 4), none, am_i (.iload 4), none, am_i (.iconst (-1)), am_j (.if_icmp .ne 10) 111, none, none, am_i (.aload_n 0), am_i (.iconst 4), am_i (.iload_n 1), am_f (.invokevirtual 86) 26 2 false, none, none, am_i .ireturn, am_i (.aload_n 0)],
  [am_f (.getfield 25) 7 9 false, none, none, am_i (.iload 4), none, am_i .baload, am_j (.ifCond .eq 11) 129, none, none, am_i (.aload_n 0), am_i (.bipush 6), none, am_i (.iload_n 1), am_f (.invokevirtual 86) 26 2 false, none, none],
  [am_i .ireturn, am_i (.iload_n 2), am_i (.bipush 64), none, am_j (.if_icmp .eq 31) 163, none, none, am_i (.iload_n 2), am_i (.bipush 35), none, am_j (.if_icmp .eq 25) 163, none, none, am_i (.iload_n 2), am_i (.bipush 61), none],
  [am_j (.if_icmp .eq 19) 163, none, none, am_i (.iload_n 2), am_i (.bipush 44), none, am_j (.if_icmp .eq 13) 163, none, none, am_i (.aload_n 0), am_i (.iconst 1), am_i (.aload_n 0), am_f (.getfield 50) 7 6 false, none, none, am_f (.invokevirtual 86) 26 2 false],
  [none, none, am_i .ireturn, am_i (.iload_n 2), am_i (.bipush 64), none, am_j (.if_icmp .eq 22) 188, none, none, am_i (.iload_n 2), am_i (.iload 4), none, am_f (.invokestatic 142) 46 1 false, none, none, am_j (.if_icmp .eq 13) 188],
  [none, none, am_i (.aload_n 0), am_i (.iconst 5), am_i (.aload_n 0), am_f (.getfield 50) 7 6 false, none, none, am_f (.invokevirtual 86) 26 2 false, none, none, am_i .ireturn, am_i (.aload_n 0), am_f (.getfield 25) 7 9 false, none, none],
  [am_i (.iload 4), none, am_i (.iconst 1), am_i .bastore, am_i (.iload_n 2), am_t (.lookupswitch 114 #[(35, 35), (61, 67), (64, 99)]) 311 [(35, 232), (61, 264), (64, 296)], none, none, none, none, none, none, none, none, none, none],
  [none, none, none, none, none, none, none, none, none, none, none, none, none, none, none, none],
  [none, none, none, none, none, none, none, none, am_i (.aload_n 0), am_i .dup, am_f (.getfield 50) 7 6 false, none, none, am_i (.iconst 1), am_i .iadd, am_f (.putfield 50) 7 6 false],
  [none, none, am_i (.aload_n 0), am_i (.iload 4), none, am_f (.invokevirtual 145) 47 1 false, none, none, am_j (.ifCond .eq 14) 262, none, none, am_i (.aload_n 0), am_f (.invokevirtual 135) 43 0 false, none, none, am_j (.ifCond .eq 7) 262],
  [none, none, am_i (.iconst 1), am_j (.goto 4) 263, none, none, am_i (.iconst 0), am_i .ireturn, am_i (.aload_n 0), am_i .dup, am_f (.getfield 50) 7 6 false, none, none, am_i (.iconst 1), am_i .iadd, am_f (.putfield 50) 7 6 false],
  [none, none, am_i (.aload_n 0), am_i (.iload 4), none, am_f (.invokevirtual 148) 49 1 false, none, none, am_j (.ifCond .eq 14) 294, none, none, am_i (.aload_n 0), am_f (.invokevirtual 135) 43 0 false, none, none, am_j (.ifCond .eq 7) 294],
  [none, none, am_i (.iconst 1), am_j (.goto 4) 295, none, none, am_i (.iconst 0), am_i .ireturn, am_i (.aload_n 0), am_i .dup, am_f (.getfield 50) 7 6 false, none, none, am_i (.iconst 1), am_i .iadd, am_f (.putfield 50) 7 6 false],
  [none, none, am_i (.aload_n 0), am_f (.invokevirtual 135) 43 0 false, none, none, am_i .ireturn, am_i (.aload_n 0), am_f (.getfield 56) 7 8 false, none, none, am_i (.iload 4), none, am_f (.invokevirtual 151) 61 1 false, none, none],
  [am_i (.aload_n 0), am_f (.invokevirtual 135) 43 0 false, none, none, am_i .ireturn]]
/-- 33: TerminalHouse$Reader.passAbility()Z -/
def am_c33 : List (List (Option am_I)) := [[am_i (.aload_n 0), am_i (.aload_n 0), am_f (.getfield 50) 7 6 false, none, none, am_f (.invokevirtual 90) 28 1 false, none, none, am_f (.invokestatic 155) 34 1 true, none, none, am_j (.ifCond .ne 13) 24, none, none, am_i (.aload_n 0), am_i (.iconst 1)],
  [am_i (.aload_n 0), am_f (.getfield 50) 7 6 false, none, none, am_f (.invokevirtual 86) 26 2 false, none, none, am_i .ireturn, am_i (.aload_n 0), am_f (.getfield 50) 7 6 false, none, none, am_i (.aload_n 0), am_f (.getfield 47) 7 5 false, none, none],
  [am_j (.if_icmp .ge 46) 78, none, none, am_i (.aload_n 0), am_f (.getfield 21) 7 4 false, none, none, am_i (.aload_n 0), am_f (.getfield 50) 7 6 false, none, none, am_i .iaload, am_f (.invokestatic 155) 34 1 true, none, none, am_j (.ifCond .ne 18) 65],
  [none, none, am_i (.aload_n 0), am_f (.getfield 21) 7 4 false, none, none, am_i (.aload_n 0), am_f (.getfield 50) 7 6 false, none, none, am_i .iaload, am_f (.invokestatic 158) 35 1 true, none, none, am_j (.ifCond .eq 16) 78, none],
  [none, am_i (.aload_n 0), am_i .dup, am_f (.getfield 50) 7 6 false, none, none, am_i (.iconst 1), am_i .iadd, am_f (.putfield 50) 7 6 false, none, none, am_j (.goto (-51)) 24, none, none, am_i (.aload_n 0), am_i (.aload_n 0)],
  [am_f (.getfield 50) 7 6 false, none, none, am_f (.invokevirtual 90) 28 1 false, none, none, am_f (.invokestatic 83) 25 1 false, none, none, am_j (.ifCond .ne 15) 104, none, none, am_i (.aload_n 0), am_i (.iconst 1), am_i (.aload_n 0), am_f (.getfield 50) 7 6 false],
  [none, none, am_f (.invokevirtual 86) 26 2 false, none, none, am_j (.ifCond .eq 7) 108, none, none, am_i (.iconst 1), am_j (.goto 4) 109, none, none, am_i (.iconst 0), am_i .ireturn]]
/-- 34: TerminalHouse.isLetter(I)Z -/
def am_c34 : List (List (Option am_I)) := [[am_i (.iload_n 0), am_i (.bipush 97), none, am_j (.if_icmp .lt 13) 16, none, none, am_i (.iload_n 0), am_i (.bipush 122), none, am_j (.if_icmp .gt 7) 16, none, none, am_i (.iconst 1), am_j (.goto 4) 17, none, none],
  [am_i (.iconst 0), am_i .ireturn]]
/-- 35: TerminalHouse.isDigit(I)Z -/
def am_c35 : List (List (Option am_I)) := [[am_i (.iload_n 0), am_i (.bipush 48), none, am_j (.if_icmp .lt 13) 16, none, none, am_i (.iload_n 0), am_i (.bipush 57), none, am_j (.if_icmp .gt 7) 16, none, none, am_i (.iconst 1), am_j (.goto 4) 17, none, none],
  [am_i (.iconst 0), am_i .ireturn]]
/-- 36: TerminalHouse$Reader.isUse(II)Z -/
def am_c36 : List (List (Option am_I)) := [[am_i (.iload_n 2), am_i (.iconst 3), am_j (.if_icmp .ne 44) 46, none, none, am_i (.aload_n 0), am_f (.getfield 21) 7 4 false, none, none, am_i (.iload_n 1), am_i .iaload, am_i (.bipush 117), none, am_j (.if_icmp .ne 33) 46, none, none],
  [am_i (.aload_n 0), am_f (.getfield 21) 7 4 false, none, none, am_i (.iload_n 1), am_i (.iconst 1), am_i .iadd, am_i .iaload, am_i (.bipush 115), none, am_j (.if_icmp .ne 20) 46, none, none, am_i (.aload_n 0), am_f (.getfield 21) 7 4 false, none],
  [none, am_i (.iload_n 1), am_i (.iconst 2), am_i .iadd, am_i .iaload, am_i (.bipush 101), none, am_j (.if_icmp .ne 7) 46, none, none, am_i (.iconst 1), am_j (.goto 4) 47, none, none, am_i (.iconst 0), am_i .ireturn]]
/-- 37: TerminalHouse$Reader.readUse()Z -/
def am_c37 : List (List (Option am_I)) := [[am_i (.aload_n 0), am_f (.getfield 50) 7 6 false, none, none, am_i (.istore_n 1), am_i (.aload_n 0), am_f (.invokevirtual 116) 38 0 false, none, none, am_j (.ifCond .ne 5) 14, none, none, am_i (.iconst 0), am_i .ireturn, am_i (.aload_n 0), am_f (.getfield 50) 7 6 false],
  [none, none, am_i (.iload_n 1), am_i .isub, am_i (.istore_n 2), am_i (.iload_n 2), am_i (.bipush 12), none, am_j (.if_icmp .le 10) 34, none, none, am_i (.aload_n 0), am_i (.iconst 2), am_i (.iload_n 1), am_f (.invokevirtual 86) 26 2 false, none],
  [none, am_i .ireturn, am_i (.aload_n 0), am_f (.getfield 109) 7 11 false, none, none, am_i (.iconst 4), am_j (.if_icmp .lt 11) 50, none, none, am_i (.aload_n 0), am_i (.bipush 11), none, am_i (.iload_n 1), am_f (.invokevirtual 86) 26 2 false, none],
  [none, am_i .ireturn, am_i (.aload_n 0), am_i (.aload_n 0), am_f (.getfield 21) 7 4 false, none, none, am_i (.iload_n 1), am_i (.iload_n 2), am_i (.aload_n 0), am_f (.getfield 53) 7 7 false, none, none, am_f (.invokevirtual 39) 40 4 false, none, none],
  [am_i (.istore_n 3), am_i (.iload_n 3), am_i (.iconst (-1)), am_j (.if_icmp .ne 11) 78, none, none, am_i (.aload_n 0), am_i (.bipush 9), none, am_i (.iload_n 1), am_f (.invokevirtual 86) 26 2 false, none, none, am_i .ireturn, am_i (.aload_n 0), am_f (.getfield 29) 7 10 false],
  [none, none, am_i (.aload_n 0), am_f (.getfield 109) 7 11 false, none, none, am_i (.iload_n 3), am_i .iastore, am_i (.aload_n 0), am_i .dup, am_f (.getfield 109) 7 11 false, none, none, am_i (.iconst 1), am_i .iadd, am_f (.putfield 109) 7 11 false],
  [none, none, am_i (.iconst 1), am_i .ireturn]]
/-- 38: TerminalHouse$Reader.passName()Z -/
def am_c38 : List (List (Option am_I)) := [[am_i (.aload_n 0), am_f (.getfield 50) 7 6 false, none, none, am_i (.istore_n 1), am_i (.aload_n 0), am_f (.getfield 50) 7 6 false, none, none, am_i (.aload_n 0), am_f (.getfield 47) 7 5 false, none, none, am_j (.if_icmp .ge 31) 44, none, none],
  [am_i (.aload_n 0), am_f (.getfield 21) 7 4 false, none, none, am_i (.aload_n 0), am_f (.getfield 50) 7 6 false, none, none, am_i .iaload, am_f (.invokestatic 94) 39 1 false, none, none, am_j (.ifCond .eq 16) 44, none, none, am_i (.aload_n 0)],
  [am_i .dup, am_f (.getfield 50) 7 6 false, none, none, am_i (.iconst 1), am_i .iadd, am_f (.putfield 50) 7 6 false, none, none, am_j (.goto (-36)) 5, none, none, am_i (.aload_n 0), am_f (.getfield 50) 7 6 false, none, none],
  [am_i (.iload_n 1), am_j (.if_icmp .eq 17) 66, none, none, am_i (.aload_n 0), am_i (.aload_n 0), am_f (.getfield 50) 7 6 false, none, none, am_f (.invokevirtual 90) 28 1 false, none, none, am_f (.invokestatic 83) 25 1 false, none, none, am_j (.ifCond .ne 13) 76],
  [none, none, am_i (.aload_n 0), am_i (.iconst 1), am_i (.aload_n 0), am_f (.getfield 50) 7 6 false, none, none, am_f (.invokevirtual 86) 26 2 false, none, none, am_i .ireturn, am_i (.iconst 1), am_i .ireturn]]
/-- 39: TerminalHouse$Reader.isNameByte(I)Z -/
def am_c39 : List (List (Option am_I)) := [[am_i (.iload_n 0), am_f (.invokestatic 155) 34 1 true, none, none, am_j (.ifCond .ne 22) 26, none, none, am_i (.iload_n 0), am_f (.invokestatic 158) 35 1 true, none, none, am_j (.ifCond .ne 15) 26, none, none, am_i (.iload_n 0), am_i (.bipush 45)],
  [none, am_j (.if_icmp .eq 9) 26, none, none, am_i (.iload_n 0), am_i (.bipush 43), none, am_j (.if_icmp .ne 7) 30, none, none, am_i (.iconst 1), am_j (.goto 4) 31, none, none, am_i (.iconst 0), am_i .ireturn]]
/-- 40: TerminalHouse$Reader.indexNamed([IIII)I -/
def am_c40 : List (List (Option am_I)) := [[am_i (.iconst 0), am_i (.istore 5), none, am_i (.iload 5), none, am_i (.iload 4), none, am_j (.if_icmp .ge 35) 42, none, none, am_i (.iload 5), none, am_i (.bipush 12), none, am_j (.if_icmp .ge 28) 42, none],
  [none, am_i (.aload_n 0), am_f (.getfield 13) 7 0 false, none, none, am_i (.iload 5), none, am_i .aaload, am_i (.aload_n 1), am_i (.iload_n 2), am_i (.iload_n 3), am_f (.invokevirtual 43) 41 3 false, none, none, am_j (.ifCond .eq 6) 36, none],
  [none, am_i (.iload 5), none, am_i .ireturn, am_i (.iinc 5 1), none, none, am_j (.goto (-36)) 3, none, none, am_i (.iconst (-1)), am_i .ireturn]]
/-- 41: TerminalHouse$Entry.isNamed([III)Z -/
def am_c41 : List (List (Option am_I)) := [[am_i (.iconst 0), am_i (.istore 4), none, am_i (.iload 4), none, am_i (.aload_n 0), am_f (.getfield 31) 2 2 false, none, none, am_j (.if_icmp .ge 33) 42, none, none, am_i (.aload_n 0), am_f (.getfield 15) 2 1 false, none, none],
  [am_i (.iload 4), none, am_i .iaload, am_i (.iload_n 3), am_j (.if_icmp .ne 16) 36, none, none, am_i (.aload_n 0), am_i (.iload 4), none, am_i (.aload_n 1), am_i (.iload_n 2), am_f (.invokevirtual 41) 42 3 false, none, none, am_j (.ifCond .eq 5) 36],
  [none, none, am_i (.iconst 1), am_i .ireturn, am_i (.iinc 4 1), none, none, am_j (.goto (-36)) 3, none, none, am_i (.iconst 0), am_i .ireturn]]
/-- 42: TerminalHouse$Entry.sameName(I[II)Z -/
def am_c42 : List (List (Option am_I)) := [[am_i (.iload_n 1), am_i (.bipush 12), none, am_i .imul, am_i (.istore 4), none, am_i (.iconst 0), am_i (.istore 5), none, am_i (.iload 5), none, am_i (.aload_n 0), am_f (.getfield 15) 2 1 false, none, none, am_i (.iload_n 1)],
  [am_i .iaload, am_j (.if_icmp .ge 30) 47, none, none, am_i (.aload_n 0), am_f (.getfield 11) 2 0 false, none, none, am_i (.iload 4), none, am_i (.iload 5), none, am_i .iadd, am_i .iaload, am_i (.aload_n 2), am_i (.iload_n 3)],
  [am_i (.iload 5), none, am_i .iadd, am_i .iaload, am_j (.if_icmp .eq 5) 41, none, none, am_i (.iconst 0), am_i .ireturn, am_i (.iinc 5 1), none, none, am_j (.goto (-35)) 9, none, none, am_i (.iconst 1)],
  [am_i .ireturn]]
/-- 43: TerminalHouse$Reader.passComma()Z -/
def am_c43 : List (List (Option am_I)) := [[am_i (.aload_n 0), am_i (.aload_n 0), am_f (.getfield 50) 7 6 false, none, none, am_f (.invokevirtual 90) 28 1 false, none, none, am_i (.bipush 44), none, am_j (.if_icmp .eq 13) 23, none, none, am_i (.aload_n 0), am_i (.iconst 1), am_i (.aload_n 0)],
  [am_f (.getfield 50) 7 6 false, none, none, am_f (.invokevirtual 86) 26 2 false, none, none, am_i .ireturn, am_i (.aload_n 0), am_i .dup, am_f (.getfield 50) 7 6 false, none, none, am_i (.iconst 1), am_i .iadd, am_f (.putfield 50) 7 6 false, none],
  [none, am_i (.iconst 1), am_i .ireturn]]
/-- 44: TerminalHouse.abilityNamed([III)I -/
def am_c44 : List (List (Option am_I)) := [[am_i (.iload_n 2), am_i (.iconst 1), am_j (.if_icmp .lt 20) 22, none, none, am_i (.iload_n 2), am_i (.iconst 5), am_j (.if_icmp .gt 15) 22, none, none, am_i (.iload_n 1), am_j (.ifCond .lt 11) 22, none, none, am_i (.iload_n 1), am_i (.aload_n 0)],
  [am_i .arraylength, am_i (.iload_n 2), am_i .isub, am_j (.if_icmp .le 5) 24, none, none, am_i (.iconst (-1)), am_i .ireturn, am_i (.iconst 0), am_i (.istore_n 3), am_i (.iload_n 3), am_i (.bipush 39), none, am_j (.if_icmp .ge 21) 50, none, none],
  [am_i (.iload_n 3), am_i (.aload_n 0), am_i (.iload_n 1), am_i (.iload_n 2), am_f (.invokestatic 369) 45 4 false, none, none, am_j (.ifCond .eq 5) 44, none, none, am_i (.iload_n 3), am_i .ireturn, am_i (.iinc 3 1), none, none, am_j (.goto (-21)) 26],
  [none, none, am_i (.iconst (-1)), am_i .ireturn]]
/-- 45: TerminalHouse.isAbility(I[III)Z -/
def am_c45 : List (List (Option am_I)) := [[am_i (.iload_n 0), am_i (.iconst 5), am_i .imul, am_i (.istore 4), none, am_i (.iconst 0), am_i (.istore 5), none, am_i (.iload 5), none, am_i (.iconst 5), am_j (.if_icmp .ge 75) 86, none, none, am_v0 (.ldc_w 373) (.retAddr 1), none],
  [none, am_i (.iload 4), none, am_i (.iload 5), none, am_i .iadd, am_j (.invokevirtual 375) 1007, none, none, am_i (.istore 6), none, am_i (.iload 5), none, am_i (.iload_n 3), am_j (.if_icmp .ge 29) 59, none],
  [none, am_i (.iload 6), none, am_i (.bipush 32), none, am_j (.if_icmp .eq 18) 55, none, none, am_i (.aload_n 1), am_i (.iload_n 2), am_i (.iload 5), none, am_i .iadd, am_i .iaload, am_i (.iload 6), none],
  [am_j (.if_icmp .ne 7) 55, none, none, am_i (.iconst 1), am_j (.goto 19) 71, none, none, am_i (.iconst 0), am_j (.goto 15) 71, none, none, am_i (.iload 6), none, am_i (.bipush 32), none, am_j (.if_icmp .ne 7) 70],
  [none, none, am_i (.iconst 1), am_j (.goto 4) 71, none, none, am_i (.iconst 0), am_i (.istore 7), none, am_i (.iload 7), none, am_j (.ifCond .ne 5) 80, none, none, am_i (.iconst 0), am_i .ireturn],
  [am_i (.iinc 5 1), none, none, am_j (.goto (-75)) 8, none, none, am_i (.iconst 1), am_i .ireturn]]
/-- 46: TerminalHouse$Reader.signOf(I)I -/
def am_c46 : List (List (Option am_I)) := [[am_i (.iload_n 0), am_i (.iconst 3), am_j (.if_icmp .ge 6) 8, none, none, am_i (.bipush 44), none, am_i .ireturn, am_i (.iload_n 0), am_i (.bipush 6), none, am_j (.if_icmp .ge 8) 19, none, none, am_i (.bipush 35), none],
  [am_j (.goto 5) 21, none, none, am_i (.bipush 61), none, am_i .ireturn]]
/-- 47: TerminalHouse$Reader.readNumber(I)Z -/
def am_c47 : List (List (Option am_I)) := [[am_i (.aload_n 0), am_f (.getfield 50) 7 6 false, none, none, am_i (.istore_n 2), am_i (.iconst 0), am_i (.istore_n 3), am_i (.aload_n 0), am_f (.getfield 50) 7 6 false, none, none, am_i (.aload_n 0), am_f (.getfield 47) 7 5 false, none, none, am_j (.if_icmp .ge 54) 69],
  [none, none, am_i (.aload_n 0), am_f (.getfield 21) 7 4 false, none, none, am_i (.aload_n 0), am_f (.getfield 50) 7 6 false, none, none, am_i .iaload, am_f (.invokestatic 158) 35 1 true, none, none, am_j (.ifCond .eq 39) 69, none],
  [none, am_v0 (.ldc 161) (.int 32768), none, am_i (.iload_n 3), am_i (.bipush 10), none, am_i .imul, am_i (.aload_n 0), am_f (.getfield 21) 7 4 false, none, none, am_i (.aload_n 0), am_f (.getfield 50) 7 6 false, none, none, am_i .iaload],
  [am_i .iadd, am_i (.bipush 48), none, am_i .isub, am_j (.invokestatic 162) 1003, none, none, am_i (.istore_n 3), am_i (.aload_n 0), am_i .dup, am_f (.getfield 50) 7 6 false, none, none, am_i (.iconst 1), am_i .iadd, am_f (.putfield 50) 7 6 false],
  [none, none, am_j (.goto (-59)) 7, none, none, am_i (.aload_n 0), am_f (.getfield 50) 7 6 false, none, none, am_i (.iload_n 2), am_j (.if_icmp .eq 17) 91, none, none, am_i (.aload_n 0), am_i (.aload_n 0), am_f (.getfield 50) 7 6 false],
  [none, none, am_f (.invokevirtual 90) 28 1 false, none, none, am_f (.invokestatic 83) 25 1 false, none, none, am_j (.ifCond .ne 13) 101, none, none, am_i (.aload_n 0), am_i (.iconst 1), am_i (.aload_n 0), am_f (.getfield 50) 7 6 false, none],
  [none, am_f (.invokevirtual 86) 26 2 false, none, none, am_i .ireturn, am_i (.aload_n 0), am_f (.getfield 50) 7 6 false, none, none, am_i (.iload_n 2), am_i .isub, am_i (.iconst 5), am_j (.if_icmp .gt 10) 118, none, none, am_i (.iload_n 3)],
  [am_i (.sipush 32767), none, none, am_j (.if_icmp .le 10) 125, none, none, am_i (.aload_n 0), am_i (.iconst 2), am_i (.iload_n 2), am_f (.invokevirtual 86) 26 2 false, none, none, am_i .ireturn, am_i (.aload_n 0), am_f (.getfield 56) 7 8 false, none],
  [none, am_i (.iload_n 1), am_i (.iload_n 3), am_f (.invokevirtual 168) 48 2 false, none, none, am_i (.iconst 1), am_i .ireturn]]
/-- 48: TerminalHouse$Entry.tellNumber(II)V -/
def am_c48 : List (List (Option am_I)) := [[am_i (.aload_n 0), am_f (.getfield 18) 2 3 false, none, none, am_i (.iload_n 1), am_i (.iconst 1), am_i .bastore, am_i (.aload_n 0), am_f (.getfield 22) 2 4 false, none, none, am_i (.iload_n 1), am_i (.iload_n 2), am_i .iastore, am_i .return_]]
/-- 49: TerminalHouse$Reader.readString(I)Z -/
def am_c49 : List (List (Option am_I)) := [[am_i (.aload_n 0), am_f (.getfield 50) 7 6 false, none, none, am_i (.istore_n 2), am_i (.aload_n 0), am_i (.iconst 0), am_f (.putfield 172) 7 13 false, none, none, am_i (.iconst 0), am_i (.istore_n 3), am_i (.iload_n 3), am_i (.aload_n 0), am_f (.getfield 47) 7 5 false, none],
  [none, am_j (.if_icmp .ge 118) 135, none, none, am_i (.aload_n 0), am_f (.getfield 50) 7 6 false, none, none, am_i (.aload_n 0), am_f (.getfield 47) 7 5 false, none, none, am_j (.if_icmp .ge 107) 135, none, none, am_i (.aload_n 0)],
  [am_f (.getfield 21) 7 4 false, none, none, am_i (.aload_n 0), am_f (.getfield 50) 7 6 false, none, none, am_i .iaload, am_i (.istore 4), none, am_i (.iload 4), none, am_i (.bipush 44), none, am_j (.if_icmp .eq 89) 135, none],
  [none, am_i (.iload 4), none, am_i (.bipush 10), none, am_j (.if_icmp .ne 6) 59, none, none, am_j (.goto 79) 135, none, none, am_i (.iconst 1), am_i (.istore 5), none, am_i (.iload 4), none],
  [am_f (.invokestatic 83) 25 1 false, none, none, am_j (.ifCond .ne 17) 84, none, none, am_i (.aload_n 0), am_i (.iconst 1), am_i (.aload_n 0), am_f (.getfield 50) 7 6 false, none, none, am_f (.invokevirtual 86) 26 2 false, none, none, am_i (.istore 5)],
  [none, am_j (.goto 41) 122, none, none, am_i (.iload 4), none, am_i (.bipush 92), none, am_j (.if_icmp .ne 12) 100, none, none, am_i (.aload_n 0), am_f (.invokevirtual 175) 50 0 false, none, none, am_i (.istore 5)],
  [none, am_j (.goto 25) 122, none, none, am_i (.iload 4), none, am_i (.bipush 94), none, am_j (.if_icmp .ne 12) 116, none, none, am_i (.aload_n 0), am_f (.invokevirtual 178) 54 0 false, none, none, am_i (.istore 5)],
  [none, am_j (.goto 9) 122, none, none, am_i (.aload_n 0), am_i (.iload 4), none, am_f (.invokevirtual 181) 55 1 false, none, none, am_i (.iload 5), none, am_j (.ifCond .ne 5) 129, none, none, am_i (.iconst 0)],
  [am_i .ireturn, am_i (.iinc 3 1), none, none, am_j (.goto (-120)) 12, none, none, am_i (.aload_n 0), am_i (.aload_n 0), am_f (.getfield 50) 7 6 false, none, none, am_f (.invokevirtual 90) 28 1 false, none, none, am_i (.bipush 44)],
  [none, am_j (.if_icmp .eq 13) 158, none, none, am_i (.aload_n 0), am_i (.iconst 1), am_i (.aload_n 0), am_f (.getfield 50) 7 6 false, none, none, am_f (.invokevirtual 86) 26 2 false, none, none, am_i .ireturn, am_i (.aload_n 0), am_f (.getfield 172) 7 13 false],
  [none, none, am_i (.bipush 40), none, am_j (.if_icmp .le 10) 174, none, none, am_i (.aload_n 0), am_i (.iconst 2), am_i (.iload_n 2), am_f (.invokevirtual 86) 26 2 false, none, none, am_i .ireturn, am_i (.aload_n 0), am_f (.getfield 32) 7 12 false],
  [none, none, am_i (.aload_n 0), am_f (.getfield 172) 7 13 false, none, none, am_f (.invokestatic 184) 57 2 false, none, none, am_j (.ifCond .ne 11) 196, none, none, am_i (.aload_n 0), am_i (.bipush 8), none, am_i (.iload_n 2)],
  [am_f (.invokevirtual 86) 26 2 false, none, none, am_i .ireturn, am_i (.aload_n 0), am_f (.getfield 56) 7 8 false, none, none, am_i (.iload_n 1), am_i (.aload_n 0), am_f (.getfield 32) 7 12 false, none, none, am_i (.iconst 0), am_i (.aload_n 0), am_f (.getfield 172) 7 13 false],
  [none, none, am_f (.invokevirtual 190) 59 4 false, none, none, am_i (.iconst 1), am_i .ireturn]]
/-- 50: TerminalHouse$Reader.readBackslash()Z -/
def am_c50 : List (List (Option am_I)) := [[am_i (.aload_n 0), am_i (.aload_n 0), am_f (.getfield 50) 7 6 false, none, none, am_i (.iconst 1), am_i .iadd, am_f (.invokevirtual 90) 28 1 false, none, none, am_i (.istore_n 1), am_i (.iload_n 1), am_f (.invokestatic 83) 25 1 false, none, none, am_j (.ifCond .ne 15) 30],
  [none, none, am_i (.aload_n 0), am_i (.iconst 1), am_i (.aload_n 0), am_f (.getfield 50) 7 6 false, none, none, am_i (.iconst 1), am_i .iadd, am_f (.invokevirtual 86) 26 2 false, none, none, am_i .ireturn, am_i (.iload_n 1), am_i (.bipush 48)],
  [none, am_j (.if_icmp .lt 14) 47, none, none, am_i (.iload_n 1), am_i (.bipush 55), none, am_j (.if_icmp .gt 8) 47, none, none, am_i (.aload_n 0), am_f (.invokevirtual 204) 51 0 false, none, none, am_i .ireturn, am_i (.iload_n 1)],
  [am_f (.invokestatic 207) 53 1 false, none, none, am_i (.istore_n 2), am_i (.iload_n 2), am_i (.iconst (-1)), am_j (.if_icmp .ne 14) 68, none, none, am_i (.aload_n 0), am_i (.bipush 10), none, am_i (.aload_n 0), am_f (.getfield 50) 7 6 false, none, none],
  [am_f (.invokevirtual 86) 26 2 false, none, none, am_i .ireturn, am_i (.aload_n 0), am_i (.iload_n 2), am_f (.invokevirtual 198) 52 1 false, none, none, am_i (.aload_n 0), am_i .dup, am_f (.getfield 50) 7 6 false, none, none, am_i (.iconst 2), am_i .iadd],
  [am_f (.putfield 50) 7 6 false, none, none, am_i (.iconst 1), am_i .ireturn]]
/-- 51: TerminalHouse$Reader.readOctal()Z -/
def am_c51 : List (List (Option am_I)) := [[am_i (.iconst 0), am_i (.istore_n 1), am_i (.iconst 1), am_i (.istore_n 2), am_i (.iload_n 2), am_i (.iconst 3), am_j (.if_icmp .gt 72) 78, none, none, am_i (.aload_n 0), am_i (.aload_n 0), am_f (.getfield 50) 7 6 false, none, none, am_i (.iload_n 2), am_i .iadd],
  [am_f (.invokevirtual 90) 28 1 false, none, none, am_i (.istore_n 3), am_i (.iload_n 3), am_f (.invokestatic 83) 25 1 false, none, none, am_j (.ifCond .ne 15) 39, none, none, am_i (.aload_n 0), am_i (.iconst 1), am_i (.aload_n 0), am_f (.getfield 50) 7 6 false, none],
  [none, am_i (.iload_n 2), am_i .iadd, am_f (.invokevirtual 86) 26 2 false, none, none, am_i .ireturn, am_i (.iload_n 3), am_i (.bipush 48), none, am_j (.if_icmp .lt 9) 51, none, none, am_i (.iload_n 3), am_i (.bipush 55), none],
  [am_j (.if_icmp .le 14) 62, none, none, am_i (.aload_n 0), am_i (.bipush 10), none, am_i (.aload_n 0), am_f (.getfield 50) 7 6 false, none, none, am_f (.invokevirtual 86) 26 2 false, none, none, am_i .ireturn, am_i (.iload_n 1), am_i (.bipush 8)],
  [none, am_i .imul, am_i (.iload_n 3), am_i .iadd, am_i (.bipush 48), none, am_i .isub, am_i (.istore_n 1), am_i (.iinc 2 1), none, none, am_j (.goto (-71)) 4, none, none, am_i (.iload_n 1), am_i (.iconst 1)],
  [am_j (.if_icmp .lt 10) 90, none, none, am_i (.iload_n 1), am_i (.sipush 255), none, none, am_j (.if_icmp .le 14) 101, none, none, am_i (.aload_n 0), am_i (.bipush 10), none, am_i (.aload_n 0), am_f (.getfield 50) 7 6 false, none],
  [none, am_f (.invokevirtual 86) 26 2 false, none, none, am_i .ireturn, am_i (.aload_n 0), am_i (.iload_n 1), am_f (.invokevirtual 198) 52 1 false, none, none, am_i (.aload_n 0), am_i .dup, am_f (.getfield 50) 7 6 false, none, none, am_i (.iconst 4)],
  [am_i .iadd, am_f (.putfield 50) 7 6 false, none, none, am_i (.iconst 1), am_i .ireturn]]
/-- 52: TerminalHouse$Reader.make(I)V -/
def am_c52 : List (List (Option am_I)) := [[am_i (.aload_n 0), am_f (.getfield 172) 7 13 false, none, none, am_i (.bipush 40), none, am_j (.if_icmp .ge 13) 19, none, none, am_i (.aload_n 0), am_f (.getfield 32) 7 12 false, none, none, am_i (.aload_n 0), am_f (.getfield 172) 7 13 false, none],
  [none, am_i (.iload_n 1), am_i .iastore, am_i (.aload_n 0), am_i .dup, am_f (.getfield 172) 7 13 false, none, none, am_i (.iconst 1), am_i .iadd, am_f (.putfield 172) 7 13 false, none, none, am_i .return_]]
/-- 53: TerminalHouse$Reader.escaped(I)I -/
def am_c53 : List (List (Option am_I)) := [[am_i (.iload_n 0), am_t (.lookupswitch 122 #[(44, 120), (58, 120), (69, 99), (92, 120), (94, 120), (98, 111), (102, 114), (110, 102), (114, 105), (115, 117), (116, 108)]) 123 [(44, 121), (58, 121), (69, 100), (92, 121), (94, 121), (98, 112), (102, 115), (110, 103), (114, 106), (115, 118), (116, 109)], none, none, none, none, none, none, none, none, none, none, none, none, none, none],
  [none, none, none, none, none, none, none, none, none, none, none, none, none, none, none, none],
  [none, none, none, none, none, none, none, none, none, none, none, none, none, none, none, none],
  [none, none, none, none, none, none, none, none, none, none, none, none, none, none, none, none],
  [none, none, none, none, none, none, none, none, none, none, none, none, none, none, none, none],
  [none, none, none, none, none, none, none, none, none, none, none, none, none, none, none, none],
  [none, none, none, none, am_i (.bipush 27), none, am_i .ireturn, am_i (.bipush 10), none, am_i .ireturn, am_i (.bipush 13), none, am_i .ireturn, am_i (.bipush 9), none, am_i .ireturn],
  [am_i (.bipush 8), none, am_i .ireturn, am_i (.bipush 12), none, am_i .ireturn, am_i (.bipush 32), none, am_i .ireturn, am_i (.iload_n 0), am_i .ireturn, am_i (.iconst (-1)), am_i .ireturn]]
/-- 54: TerminalHouse$Reader.readCaret()Z -/
def am_c54 : List (List (Option am_I)) := [[am_i (.aload_n 0), am_i (.aload_n 0), am_f (.getfield 50) 7 6 false, none, none, am_i (.iconst 1), am_i .iadd, am_f (.invokevirtual 90) 28 1 false, none, none, am_i (.istore_n 1), am_i (.iload_n 1), am_f (.invokestatic 83) 25 1 false, none, none, am_j (.ifCond .ne 15) 30],
  [none, none, am_i (.aload_n 0), am_i (.iconst 1), am_i (.aload_n 0), am_f (.getfield 50) 7 6 false, none, none, am_i (.iconst 1), am_i .iadd, am_f (.invokevirtual 86) 26 2 false, none, none, am_i .ireturn, am_i (.iload_n 1), am_i (.bipush 63)],
  [none, am_j (.if_icmp .eq 26) 59, none, none, am_i (.iload_n 1), am_i (.bipush 64), none, am_j (.if_icmp .lt 9) 48, none, none, am_i (.iload_n 1), am_i (.bipush 95), none, am_j (.if_icmp .le 14) 59, none, none],
  [am_i (.aload_n 0), am_i (.bipush 10), none, am_i (.aload_n 0), am_f (.getfield 50) 7 6 false, none, none, am_f (.invokevirtual 86) 26 2 false, none, none, am_i .ireturn, am_i (.aload_n 0), am_i (.iload_n 1), am_i (.bipush 63), none, am_j (.if_icmp .ne 8) 71],
  [none, none, am_i (.bipush 127), none, am_j (.goto 7) 75, none, none, am_i (.iload_n 1), am_i (.bipush 64), none, am_i .isub, am_f (.invokevirtual 198) 52 1 false, none, none, am_i (.aload_n 0), am_i .dup],
  [am_f (.getfield 50) 7 6 false, none, none, am_i (.iconst 2), am_i .iadd, am_f (.putfield 50) 7 6 false, none, none, am_i (.iconst 1), am_i .ireturn]]
/-- 55: TerminalHouse$Reader.readPlain(I)V -/
def am_c55 : List (List (Option am_I)) := [[am_i (.iload_n 1), am_i (.bipush 36), none, am_j (.if_icmp .ne 10) 13, none, none, am_i (.aload_n 0), am_f (.invokevirtual 194) 56 0 false, none, none, am_j (.goto 4) 14, none, none, am_i (.iconst 0), am_i (.istore_n 2), am_i (.iload_n 2)],
  [am_j (.ifCond .ne 8) 24, none, none, am_i (.aload_n 0), am_i (.iload_n 1), am_f (.invokevirtual 198) 52 1 false, none, none, am_i (.aload_n 0), am_i .dup, am_f (.getfield 50) 7 6 false, none, none, am_i (.iconst 1), am_i (.iload_n 2), am_j (.invokestatic 201) 1002],
  [none, none, am_i .iadd, am_f (.putfield 50) 7 6 false, none, none, am_i .return_]]
/-- 56: TerminalHouse$Reader.delayLength()I -/
def am_c56 : List (List (Option am_I)) := [[am_i (.aload_n 0), am_i (.aload_n 0), am_f (.getfield 50) 7 6 false, none, none, am_i (.iconst 1), am_i .iadd, am_f (.invokevirtual 90) 28 1 false, none, none, am_i (.bipush 60), none, am_j (.if_icmp .eq 5) 17, none, none, am_i (.iconst 0)],
  [am_i .ireturn, am_i (.iconst 0), am_i (.istore_n 1), am_i (.iload_n 1), am_i (.iconst 3), am_j (.if_icmp .ge 27) 48, none, none, am_i (.aload_n 0), am_i (.aload_n 0), am_f (.getfield 50) 7 6 false, none, none, am_i (.iconst 2), am_i .iadd, am_i (.iload_n 1)],
  [am_i .iadd, am_f (.invokevirtual 90) 28 1 false, none, none, am_f (.invokestatic 158) 35 1 true, none, none, am_j (.ifCond .eq 9) 48, none, none, am_i (.iinc 1 1), none, none, am_j (.goto (-26)) 19, none, none],
  [am_i (.iload_n 1), am_j (.ifCond .le 26) 75, none, none, am_i (.aload_n 0), am_i (.aload_n 0), am_f (.getfield 50) 7 6 false, none, none, am_i (.iconst 2), am_i .iadd, am_i (.iload_n 1), am_i .iadd, am_f (.invokevirtual 90) 28 1 false, none, none],
  [am_i (.bipush 62), none, am_j (.if_icmp .ne 9) 75, none, none, am_i (.iload_n 1), am_i (.iconst 3), am_i .iadd, am_j (.goto 4) 76, none, none, am_i (.iconst 0), am_i .ireturn]]
/-- 57: TerminalHouse$Machine.isWellFormed([II)Z -/
def am_c57 : List (List (Option am_I)) := [[am_i (.iconst 0), am_i (.istore_n 2), am_i (.iconst 0), am_i (.istore_n 3), am_i (.iconst 0), am_i (.istore 4), none, am_i (.iload 4), none, am_i (.iload_n 1), am_j (.if_icmp .ge 173) 183, none, none, am_i (.aload_n 0), am_i (.iload 4), none],
  [am_i (.iload_n 1), am_f (.invokestatic 27) 58 3 false, none, none, am_i (.istore 5), none, am_i (.iload 5), none, am_j (.ifCond .ne 5) 29, none, none, am_i (.iconst 0), am_i .ireturn, am_i (.iload 5), none, am_i (.iconst 2)],
  [am_j (.if_icmp .ne 12) 44, none, none, am_i (.aload_n 0), am_i (.iload 4), none, am_i (.iconst 1), am_i .iadd, am_i .iaload, am_j (.goto 4) 45, none, none, am_i (.iconst (-1)), am_i (.istore 6), none, am_i (.iload_n 2)],
  [am_i (.iconst 3), am_i .iand, am_i (.istore 7), none, am_i (.iload 6), none, am_i (.bipush 63), none, am_j (.if_icmp .ne 15) 71, none, none, am_i (.iload_n 2), am_i (.iconst 2), am_i .ishl, am_i (.iconst 1), am_i .ior],
  [am_i (.istore_n 2), am_i (.iinc 3 1), none, none, am_j (.goto 93) 161, none, none, am_i (.iload 6), none, am_i (.bipush 116), none, am_j (.if_icmp .ne 29) 104, none, none, am_i (.iload 7), none],
  [am_i (.iconst 1), am_j (.if_icmp .eq 9) 90, none, none, am_i (.iload 7), none, am_i (.iconst 3), am_j (.if_icmp .ne 12) 99, none, none, am_i (.iload_n 2), am_i (.iload 7), none, am_i .isub, am_i (.iconst 2), am_i .iadd],
  [am_j (.goto 4) 100, none, none, am_i (.iconst (-1)), am_i (.istore_n 2), am_j (.goto 60) 161, none, none, am_i (.iload 6), none, am_i (.bipush 101), none, am_j (.if_icmp .ne 23) 131, none, none, am_i (.iload 7)],
  [none, am_i (.iconst 2), am_j (.if_icmp .ne 12) 126, none, none, am_i (.iload_n 2), am_i (.iload 7), none, am_i .isub, am_i (.iconst 3), am_i .iadd, am_j (.goto 4) 127, none, none, am_i (.iconst (-1)), am_i (.istore_n 2)],
  [am_j (.goto 33) 161, none, none, am_i (.iload 6), none, am_i (.bipush 59), none, am_j (.if_icmp .ne 26) 161, none, none, am_i (.iload 7), none, am_i (.iconst 2), am_j (.if_icmp .eq 9) 150, none, none],
  [am_i (.iload 7), none, am_i (.iconst 3), am_j (.if_icmp .ne 9) 156, none, none, am_i (.iload_n 2), am_i (.iconst 2), am_i .ishr, am_j (.goto 4) 157, none, none, am_i (.iconst (-1)), am_i (.istore_n 2), am_i (.iinc 3 (-1)), none],
  [none, am_i (.iload_n 2), am_i (.iconst (-1)), am_j (.if_icmp .eq 8) 171, none, none, am_i (.iload_n 3), am_i (.iconst 4), am_j (.if_icmp .le 5) 173, none, none, am_i (.iconst 0), am_i .ireturn, am_i (.iload 4), none, am_i (.iload 5)],
  [none, am_i .iadd, am_i (.istore 4), none, am_j (.goto (-173)) 7, none, none, am_i (.iload_n 3), am_j (.ifCond .ne 7) 191, none, none, am_i (.iconst 1), am_j (.goto 4) 192, none, none, am_i (.iconst 0)],
  [am_i .ireturn]]
/-- 58: TerminalHouse$Machine.tokenLength([III)I -/
def am_c58 : List (List (Option am_I)) := [[am_i (.iload_n 1), am_i (.iload_n 2), am_j (.if_icmp .ge 11) 13, none, none, am_i (.aload_n 0), am_i (.iload_n 1), am_i .iaload, am_i (.bipush 37), none, am_j (.if_icmp .eq 5) 15, none, none, am_i (.iconst 1), am_i .ireturn, am_i (.iload_n 2)],
  [am_i (.iload_n 1), am_i .isub, am_i (.istore_n 3), am_i (.iload_n 3), am_i (.iconst 2), am_j (.if_icmp .ge 5) 26, none, none, am_i (.iconst 0), am_i .ireturn, am_i (.iload_n 3), am_i (.iconst 2), am_j (.if_icmp .le 11) 39, none, none, am_i (.aload_n 0)],
  [am_i (.iload_n 1), am_i (.iconst 2), am_i .iadd, am_i .iaload, am_j (.goto 4) 40, none, none, am_i (.iconst (-1)), am_i (.istore 4), none, am_i (.iload_n 3), am_i (.iconst 3), am_j (.if_icmp .le 11) 55, none, none, am_i (.aload_n 0)],
  [am_i (.iload_n 1), am_i (.iconst 3), am_i .iadd, am_i .iaload, am_j (.goto 4) 56, none, none, am_i (.iconst (-1)), am_i (.istore 5), none, am_i (.aload_n 0), am_i (.iload_n 1), am_i (.iconst 1), am_i .iadd, am_i .iaload, am_t (.tableswitch 467 33 126 #[465, 467, 467, 467, 465, 465, 449, 467, 467, 465, 465, 467, 465, 467, 465, 422, 467, 409, 409, 467, 467, 467, 467, 467, 467, 467, 465, 465, 465, 465, 465, 467, 465, 467, 467, 467, 467, 467, 467, 467, 467, 467, 467, 467, 467, 467, 465, 467, 467, 467, 467, 467, 467, 467, 467, 467, 467, 467, 467, 467, 467, 465, 467, 467, 467, 467, 465, 465, 465, 467, 467, 467, 465, 467, 467, 467, 465, 467, 467, 389, 467, 467, 467, 465, 467, 467, 467, 467, 467, 467, 462, 465, 467, 465]) 530 [(33, 528), (34, 530), (35, 530), (36, 530), (37, 528), (38, 528), (39, 512), (40, 530), (41, 530), (42, 528), (43, 528), (44, 530), (45, 528), (46, 530), (47, 528), (48, 485), (49, 530), (50, 472), (51, 472), (52, 530), (53, 530), (54, 530), (55, 530), (56, 530), (57, 530), (58, 530), (59, 528), (60, 528), (61, 528), (62, 528), (63, 528), (64, 530), (65, 528), (66, 530), (67, 530), (68, 530), (69, 530), (70, 530), (71, 530), (72, 530), (73, 530), (74, 530), (75, 530), (76, 530), (77, 530), (78, 530), (79, 528), (80, 530), (81, 530), (82, 530), (83, 530), (84, 530), (85, 530), (86, 530), (87, 530), (88, 530), (89, 530), (90, 530), (91, 530), (92, 530), (93, 530), (94, 528), (95, 530), (96, 530), (97, 530), (98, 530), (99, 528), (100, 528), (101, 528), (102, 530), (103, 530), (104, 530), (105, 528), (106, 530), (107, 530), (108, 530), (109, 528), (110, 530), (111, 530), (112, 452), (113, 530), (114, 530), (115, 530), (116, 528), (117, 530), (118, 530), (119, 530), (120, 530), (121, 530), (122, 530), (123, 525), (124, 528), (125, 530), (126, 528)]],
  [none, none, none, none, none, none, none, none, none, none, none, none, none, none, none, none],
  [none, none, none, none, none, none, none, none, none, none, none, none, none, none, none, none],
  [none, none, none, none, none, none, none, none, none, none, none, none, none, none, none, none],
  [none, none, none, none, none, none, none, none, none, none, none, none, none, none, none, none],
  [none, none, none, none, none, none, none, none, none, none, none, none, none, none, none, none],
  [none, none, none, none, none, none, none, none, none, none, none, none, none, none, none, none],
  [none, none, none, none, none, none, none, none, none, none, none, none, none, none, none, none],
  [none, none, none, none, none, none, none, none, none, none, none, none, none, none, none, none],
  [none, none, none, none, none, none, none, none, none, none, none, none, none, none, none, none],
  [none, none, none, none, none, none, none, none, none, none, none, none, none, none, none, none],
  [none, none, none, none, none, none, none, none, none, none, none, none, none, none, none, none],
  [none, none, none, none, none, none, none, none, none, none, none, none, none, none, none, none],
  [none, none, none, none, none, none, none, none, none, none, none, none, none, none, none, none],
  [none, none, none, none, none, none, none, none, none, none, none, none, none, none, none, none],
  [none, none, none, none, none, none, none, none, none, none, none, none, none, none, none, none],
  [none, none, none, none, none, none, none, none, none, none, none, none, none, none, none, none],
  [none, none, none, none, none, none, none, none, none, none, none, none, none, none, none, none],
  [none, none, none, none, none, none, none, none, none, none, none, none, none, none, none, none],
  [none, none, none, none, none, none, none, none, none, none, none, none, none, none, none, none],
  [none, none, none, none, none, none, none, none, none, none, none, none, none, none, none, none],
  [none, none, none, none, none, none, none, none, none, none, none, none, none, none, none, none],
  [none, none, none, none, none, none, none, none, none, none, none, none, none, none, none, none],
  [none, none, none, none, none, none, none, none, none, none, none, none, none, none, none, none],
  [none, none, none, none, none, none, none, none, none, none, none, none, none, none, none, none],
  [none, none, none, none, am_i (.iload 4), none, am_i (.bipush 49), none, am_j (.if_icmp .lt 14) 470, none, none, am_i (.iload 4), none, am_i (.bipush 52), none, am_j (.if_icmp .gt 7) 470],
  [none, none, am_i (.iconst 3), am_j (.goto 4) 471, none, none, am_i (.iconst 0), am_i .ireturn, am_i (.iload 4), none, am_i (.bipush 100), none, am_j (.if_icmp .ne 7) 483, none, none, am_i (.iconst 3)],
  [am_j (.goto 4) 484, none, none, am_i (.iconst 0), am_i .ireturn, am_i (.iload 4), none, am_i (.bipush 50), none, am_j (.if_icmp .eq 10) 499, none, none, am_i (.iload 4), none, am_i (.bipush 51), none],
  [am_j (.if_icmp .ne 14) 510, none, none, am_i (.iload 5), none, am_i (.bipush 100), none, am_j (.if_icmp .ne 7) 510, none, none, am_i (.iconst 4), am_j (.goto 4) 511, none, none, am_i (.iconst 0), am_i .ireturn],
  [am_i (.iload 5), none, am_i (.bipush 39), none, am_j (.if_icmp .ne 7) 523, none, none, am_i (.iconst 4), am_j (.goto 4) 524, none, none, am_i (.iconst 0), am_i .ireturn, am_j (.goto 7) 532, none, none],
  [am_i (.iconst 2), am_i .ireturn, am_i (.iconst 0), am_i .ireturn, am_i (.iconst 0), am_i (.istore 6), none, am_i (.iload_n 1), am_i (.iconst 2), am_i .iadd, am_i (.istore 7), none, am_i (.iload 7), none, am_i (.iload_n 2), am_j (.if_icmp .ge 52) 595],
  [none, none, am_i (.iload 7), none, am_i (.iload_n 1), am_i (.iconst 2), am_i .iadd, am_i (.iconst 5), am_i .iadd, am_j (.if_icmp .ge 42) 595, none, none, am_i (.aload_n 0), am_i (.iload 7), none, am_i .iaload],
  [am_i (.bipush 48), none, am_j (.if_icmp .lt 33) 595, none, none, am_i (.aload_n 0), am_i (.iload 7), none, am_i .iaload, am_i (.bipush 57), none, am_j (.if_icmp .gt 24) 595, none, none, am_i (.iload 6), none],
  [am_i (.bipush 10), none, am_i .imul, am_i (.aload_n 0), am_i (.iload 7), none, am_i .iaload, am_i .iadd, am_i (.bipush 48), none, am_i .isub, am_i (.istore 6), none, am_i (.iinc 7 1), none, none],
  [am_j (.goto (-52)) 540, none, none, am_i (.iload 7), none, am_i (.iload_n 1), am_i (.iconst 2), am_i .iadd, am_j (.if_icmp .le 30) 630, none, none, am_i (.iload 6), none, am_i (.sipush 32767), none, none],
  [am_j (.if_icmp .gt 22) 630, none, none, am_i (.iload 7), none, am_i (.iload_n 2), am_j (.if_icmp .ge 16) 630, none, none, am_i (.aload_n 0), am_i (.iload 7), none, am_i .iaload, am_i (.bipush 125), none, am_j (.if_icmp .ne 7) 630],
  [none, none, am_i (.iconst 1), am_j (.goto 4) 631, none, none, am_i (.iconst 0), am_i (.istore 8), none, am_i (.iload 8), none, am_j (.ifCond .eq 12) 647, none, none, am_i (.iload 7), none],
  [am_i (.iconst 1), am_i .iadd, am_i (.iload_n 1), am_i .isub, am_j (.goto 4) 648, none, none, am_i (.iconst 0), am_i .ireturn]]
/-- 59: TerminalHouse$Entry.tellString(I[III)V -/
def am_c59 : List (List (Option am_I)) := [[am_i (.aload_n 0), am_f (.getfield 18) 2 3 false, none, none, am_i (.iload_n 1), am_i (.iconst 1), am_i .bastore, am_i (.aload_n 0), am_f (.getfield 28) 2 6 false, none, none, am_i (.iload_n 1), am_i (.bipush 6), none, am_i .isub, am_i (.iload 4)],
  [none, am_i .iastore, am_i (.aload_n 2), am_i (.iload_n 3), am_i (.aload_n 0), am_f (.getfield 25) 2 5 false, none, none, am_i (.iload_n 1), am_f (.invokestatic 45) 60 1 false, none, none, am_i (.iload 4), none, am_j (.invokestatic 35) 1001, none],
  [none, am_i .return_]]
/-- 60: TerminalHouse$Entry.startOf(I)I -/
def am_c60 : List (List (Option am_I)) := [[am_i (.iload_n 0), am_i (.bipush 6), none, am_i .isub, am_i (.bipush 40), none, am_i .imul, am_i .ireturn]]
/-- 61: TerminalHouse$Entry.tellFlag(I)V -/
def am_c61 : List (List (Option am_I)) := [[am_i (.aload_n 0), am_f (.getfield 18) 2 3 false, none, none, am_i (.iload_n 1), am_i (.iconst 1), am_i .bastore, am_i .return_]]
/-- 62: TerminalHouse$Reader.readNames()Z -/
def am_c62 : List (List (Option am_I)) := [[am_i (.aload_n 0), am_i (.aload_n 0), am_f (.getfield 50) 7 6 false, none, none, am_f (.invokevirtual 90) 28 1 false, none, none, am_f (.invokestatic 94) 39 1 false, none, none, am_j (.ifCond .ne 13) 24, none, none, am_i (.aload_n 0), am_i (.iconst 1)],
  [am_i (.aload_n 0), am_f (.getfield 50) 7 6 false, none, none, am_f (.invokevirtual 86) 26 2 false, none, none, am_i .ireturn, am_i (.aload_n 0), am_f (.getfield 53) 7 7 false, none, none, am_i (.aload_n 0), am_f (.getfield 56) 7 8 false, none, none],
  [am_j (.ifnonnull 7) 39, none, none, am_i (.iconst 0), am_j (.goto 4) 40, none, none, am_i (.iconst 1), am_i .iadd, am_i (.bipush 12), none, am_j (.if_icmp .lt 14) 57, none, none, am_i (.aload_n 0), am_i (.bipush 7)],
  [none, am_i (.aload_n 0), am_f (.getfield 50) 7 6 false, none, none, am_f (.invokevirtual 86) 26 2 false, none, none, am_i .ireturn, am_i (.aload_n 0), am_f (.invokevirtual 80) 63 0 false, none, none, am_i (.aload_n 0), am_f (.invokevirtual 97) 66 0 false, none],
  [none, am_i (.iconst 0), am_i (.istore_n 1), am_i (.iload_n 1), am_i (.iconst 4), am_j (.if_icmp .gt 75) 144, none, none, am_i (.aload_n 0), am_i (.iload_n 1), am_f (.invokevirtual 100) 68 1 false, none, none, am_j (.ifCond .ne 5) 82, none, none],
  [am_i (.iconst 0), am_i .ireturn, am_i (.aload_n 0), am_i (.aload_n 0), am_f (.getfield 50) 7 6 false, none, none, am_f (.invokevirtual 90) 28 1 false, none, none, am_i (.istore_n 2), am_i (.iload_n 2), am_i (.bipush 44), none, am_j (.if_icmp .eq 19) 113, none],
  [none, am_i (.iload_n 2), am_i (.bipush 124), none, am_j (.if_icmp .eq 13) 113, none, none, am_i (.aload_n 0), am_i (.iconst 1), am_i (.aload_n 0), am_f (.getfield 50) 7 6 false, none, none, am_f (.invokevirtual 86) 26 2 false, none, none],
  [am_i .ireturn, am_i (.aload_n 0), am_i .dup, am_f (.getfield 50) 7 6 false, none, none, am_i (.iconst 1), am_i .iadd, am_f (.putfield 50) 7 6 false, none, none, am_i (.iload_n 2), am_i (.bipush 44), none, am_j (.if_icmp .ne 12) 138, none],
  [none, am_i (.aload_n 0), am_f (.invokevirtual 103) 31 0 false, none, none, am_i (.aload_n 0), am_f (.invokevirtual 74) 27 0 false, none, none, am_i .ireturn, am_i (.iinc 1 1), none, none, am_j (.goto (-74)) 67, none, none],
  [am_i (.aload_n 0), am_i (.bipush 11), none, am_i (.aload_n 0), am_f (.getfield 50) 7 6 false, none, none, am_f (.invokevirtual 86) 26 2 false, none, none, am_i .ireturn]]
/-- 63: TerminalHouse$Reader.finishEntry()V -/
def am_c63 : List (List (Option am_I)) := [[am_i (.aload_n 0), am_f (.getfield 56) 7 8 false, none, none, am_j (.ifnonnull 4) 8, none, none, am_i .return_, am_i (.iconst 0), am_i (.istore_n 1), am_i (.iload_n 1), am_i (.aload_n 0), am_f (.getfield 109) 7 11 false, none, none, am_j (.if_icmp .ge 31) 46],
  [none, none, am_i (.aload_n 0), am_f (.getfield 56) 7 8 false, none, none, am_i (.aload_n 0), am_f (.getfield 13) 7 0 false, none, none, am_i (.aload_n 0), am_f (.getfield 29) 7 10 false, none, none, am_i (.iload_n 1), am_i .iaload],
  [am_i .aaload, am_i (.aload_n 0), am_f (.getfield 25) 7 9 false, none, none, am_f (.invokevirtual 112) 64 2 false, none, none, am_i (.iinc 1 1), none, none, am_j (.goto (-33)) 10, none, none, am_i (.aload_n 0), am_i .aconst_null],
  [am_f (.putfield 56) 7 8 false, none, none, am_i (.aload_n 0), am_i .dup, am_f (.getfield 53) 7 7 false, none, none, am_i (.iconst 1), am_i .iadd, am_f (.putfield 53) 7 7 false, none, none, am_i .return_]]
/-- 64: TerminalHouse$Entry.takeFrom(LTerminalHouse$Entry;[Z)V -/
def am_c64 : List (List (Option am_I)) := [[am_i (.iconst 0), am_i (.istore_n 3), am_i (.iload_n 3), am_i (.bipush 39), none, am_j (.if_icmp .ge 87) 92, none, none, am_i (.aload_n 2), am_i (.iload_n 3), am_i .baload, am_j (.ifCond .ne 75) 86, none, none, am_i (.aload_n 0), am_f (.getfield 18) 2 3 false],
  [none, none, am_i (.iload_n 3), am_i .baload, am_j (.ifCond .ne 66) 86, none, none, am_i (.aload_n 1), am_f (.getfield 18) 2 3 false, none, none, am_i (.iload_n 3), am_i .baload, am_j (.ifCond .ne 6) 35, none, none],
  [am_j (.goto 54) 86, none, none, am_i (.iload_n 3), am_i (.iconst 3), am_j (.if_icmp .ge 11) 48, none, none, am_i (.aload_n 0), am_i (.iload_n 3), am_f (.invokevirtual 49) 61 1 false, none, none, am_j (.goto 41) 86, none, none],
  [am_i (.iload_n 3), am_i (.bipush 6), none, am_j (.if_icmp .ge 17) 68, none, none, am_i (.aload_n 0), am_i (.iload_n 3), am_i (.aload_n 1), am_f (.getfield 22) 2 4 false, none, none, am_i (.iload_n 3), am_i .iaload, am_f (.invokevirtual 53) 48 2 false, none],
  [none, am_j (.goto 21) 86, none, none, am_i (.aload_n 0), am_i (.iload_n 3), am_i (.aload_n 1), am_f (.getfield 25) 2 5 false, none, none, am_i (.iload_n 3), am_f (.invokestatic 45) 60 1 false, none, none, am_i (.aload_n 1), am_i (.iload_n 3)],
  [am_f (.invokevirtual 57) 65 1 false, none, none, am_f (.invokevirtual 60) 59 4 false, none, none, am_i (.iinc 3 1), none, none, am_j (.goto (-87)) 2, none, none, am_i .return_]]
/-- 65: TerminalHouse$Entry.lengthOf(I)I -/
def am_c65 : List (List (Option am_I)) := [[am_i (.aload_n 0), am_f (.getfield 28) 2 6 false, none, none, am_i (.iload_n 1), am_i (.bipush 6), none, am_i .isub, am_i .iaload, am_i .ireturn]]
/-- 66: TerminalHouse$Reader.beginEntry()V -/
def am_c66 : List (List (Option am_I)) := [[am_i (.aload_n 0), am_i (.aload_n 0), am_f (.getfield 13) 7 0 false, none, none, am_i (.aload_n 0), am_f (.getfield 53) 7 7 false, none, none, am_i .aaload, am_f (.putfield 56) 7 8 false, none, none, am_i (.aload_n 0), am_f (.getfield 56) 7 8 false, none],
  [none, am_f (.invokevirtual 106) 67 0 false, none, none, am_i (.aload_n 0), am_i (.iconst 0), am_f (.putfield 109) 7 11 false, none, none, am_i (.iconst 0), am_i (.istore_n 1), am_i (.iload_n 1), am_i (.bipush 39), none, am_j (.if_icmp .ge 16) 46, none],
  [none, am_i (.aload_n 0), am_f (.getfield 25) 7 9 false, none, none, am_i (.iload_n 1), am_i (.iconst 0), am_i .bastore, am_i (.iinc 1 1), none, none, am_j (.goto (-16)) 27, none, none, am_i .return_]]
/-- 67: TerminalHouse$Entry.begin()V -/
def am_c67 : List (List (Option am_I)) := [[am_i (.aload_n 0), am_i (.iconst 0), am_f (.putfield 31) 2 2 false, none, none, am_i (.iconst 0), am_i (.istore_n 1), am_i (.iload_n 1), am_i (.bipush 39), none, am_j (.if_icmp .ge 16) 26, none, none, am_i (.aload_n 0), am_f (.getfield 18) 2 3 false, none],
  [none, am_i (.iload_n 1), am_i (.iconst 0), am_i .bastore, am_i (.iinc 1 1), none, none, am_j (.goto (-16)) 7, none, none, am_i .return_]]
/-- 68: TerminalHouse$Reader.readName(I)Z -/
def am_c68 : List (List (Option am_I)) := [[am_i (.aload_n 0), am_f (.getfield 50) 7 6 false, none, none, am_i (.istore_n 2), am_i (.aload_n 0), am_f (.invokevirtual 116) 38 0 false, none, none, am_j (.ifCond .ne 5) 14, none, none, am_i (.iconst 0), am_i .ireturn, am_i (.aload_n 0), am_f (.getfield 50) 7 6 false],
  [none, none, am_i (.iload_n 2), am_i .isub, am_i (.istore_n 3), am_i (.iload_n 3), am_i (.bipush 12), none, am_j (.if_icmp .le 10) 34, none, none, am_i (.aload_n 0), am_i (.iconst 2), am_i (.iload_n 2), am_f (.invokevirtual 86) 26 2 false, none],
  [none, am_i .ireturn, am_i (.aload_n 0), am_i (.aload_n 0), am_f (.getfield 21) 7 4 false, none, none, am_i (.iload_n 2), am_i (.iload_n 3), am_i (.aload_n 0), am_f (.getfield 53) 7 7 false, none, none, am_i (.iconst 1), am_i .iadd, am_f (.invokevirtual 39) 40 4 false],
  [none, none, am_i (.iconst (-1)), am_j (.if_icmp .eq 10) 61, none, none, am_i (.aload_n 0), am_i (.iconst 3), am_i (.iload_n 2), am_f (.invokevirtual 86) 26 2 false, none, none, am_i .ireturn, am_i (.iload_n 1), am_i (.iconst 4), am_j (.if_icmp .lt 11) 74],
  [none, none, am_i (.aload_n 0), am_i (.bipush 11), none, am_i (.iload_n 2), am_f (.invokevirtual 86) 26 2 false, none, none, am_i .ireturn, am_i (.aload_n 0), am_f (.getfield 56) 7 8 false, none, none, am_i (.aload_n 0), am_f (.getfield 21) 7 4 false],
  [none, none, am_i (.iload_n 2), am_i (.iload_n 3), am_f (.invokevirtual 119) 69 3 false, none, none, am_i (.iconst 1), am_i .ireturn]]
/-- 69: TerminalHouse$Entry.addName([III)V -/
def am_c69 : List (List (Option am_I)) := [[am_i (.aload_n 0), am_f (.getfield 31) 2 2 false, none, none, am_i (.iconst 4), am_j (.if_icmp .ge 17) 22, none, none, am_i (.iload_n 3), am_i (.bipush 12), none, am_j (.if_icmp .gt 11) 22, none, none, am_i (.iload_n 2), am_i (.aload_n 1)],
  [am_i .arraylength, am_i (.iload_n 3), am_i .isub, am_j (.if_icmp .le 4) 23, none, none, am_i .return_, am_i (.aload_n 1), am_i (.iload_n 2), am_i (.aload_n 0), am_f (.getfield 11) 2 0 false, none, none, am_i (.aload_n 0), am_f (.getfield 31) 2 2 false, none],
  [none, am_i (.bipush 12), none, am_i .imul, am_i (.iload_n 3), am_j (.invokestatic 35) 1001, none, none, am_i (.aload_n 0), am_f (.getfield 15) 2 1 false, none, none, am_i (.aload_n 0), am_f (.getfield 31) 2 2 false, none, none],
  [am_i (.iload_n 3), am_i .iastore, am_i (.aload_n 0), am_i .dup, am_f (.getfield 31) 2 2 false, none, none, am_i (.iconst 1), am_i .iadd, am_f (.putfield 31) 2 2 false, none, none, am_i .return_]]
/-- 70: TerminalHouse.fault(I)I -/
def am_c70 : List (List (Option am_I)) := [[am_i (.iload_n 1), am_t (.lookupswitch 43 #[(0, 27), (1, 35)]) 44 [(0, 28), (1, 36)], none, none, none, none, none, none, none, none, none, none, none, none, none, none],
  [none, none, none, none, none, none, none, none, none, none, none, none, am_i (.aload_n 0), am_f (.getfield 19) 11 4 false, none, none],
  [am_f (.getfield 102) 7 2 true, none, none, am_i .ireturn, am_i (.aload_n 0), am_f (.getfield 19) 11 4 false, none, none, am_f (.getfield 105) 7 3 true, none, none, am_i .ireturn, am_i (.iconst (-1)), am_i .ireturn]]
/-- 71: TerminalHouse.use()I -/
def am_c71 : List (List (Option am_I)) := [[am_i (.aload_n 0), am_f (.getfield 19) 11 4 false, none, none, am_i (.aload_n 0), am_f (.getfield 9) 11 0 false, none, none, am_i (.aload_n 0), am_f (.getfield 85) 11 1 false, none, none, am_f (.invokevirtual 108) 72 2 false, none, none, am_i (.astore_n 1)],
  [am_i (.aload_n 0), am_i (.iconst 0), am_f (.putfield 85) 11 1 false, none, none, am_i (.aload_n 1), am_j (.ifnonnull 5) 27, none, none, am_i (.iconst (-1)), am_i .ireturn, am_i (.aload_n 1), am_f (.invokevirtual 112) 73 0 false, none, none, am_j (.ifCond .ne 6) 37],
  [none, none, am_i (.bipush (-2)), none, am_i .ireturn, am_i (.aload_n 0), am_i (.aload_n 1), am_f (.putfield 118) 11 14 false, none, none, am_i (.aload_n 0), am_f (.invokevirtual 122) 75 0 false, none, none, am_i (.aload_n 0), am_f (.getfield 33) 11 6 false],
  [none, none, am_i (.aload_n 1), am_i (.aload_n 0), am_f (.getfield 26) 11 5 false, none, none, am_f (.invokevirtual 125) 76 2 false, none, none, am_i (.iconst 0), am_i .ireturn]]
/-- 72: TerminalHouse$Reader.entryNamed([II)LTerminalHouse$Entry; -/
def am_c72 : List (List (Option am_I)) := [[am_i (.aload_n 0), am_i (.aload_n 1), am_i (.iconst 0), am_i (.iload_n 2), am_i (.aload_n 0), am_f (.getfield 36) 7 1 false, none, none, am_f (.invokevirtual 39) 40 4 false, none, none, am_i (.istore_n 3), am_i (.iload_n 3), am_i (.iconst (-1)), am_j (.if_icmp .ne 7) 21, none],
  [none, am_i .aconst_null, am_j (.goto 9) 27, none, none, am_i (.aload_n 0), am_f (.getfield 13) 7 0 false, none, none, am_i (.iload_n 3), am_i .aaload, am_i .areturn]]
