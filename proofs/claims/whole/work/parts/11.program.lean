/-! THE PROGRAM as the abstract machine reads it: printed out of javac's bytecode by a program of mine (wip/whole/gentab.py, emit.py); that it is the bytecode is proved in the next part -/
-- 0: java/lang/Integer.bitCount(I)I
def mr_0 : ab_M := (yJ6_bitCount_0f7a4, prog_8_method_49_code, 1, some .int, 1, true)
def pc_0 : List Nat := [0]
def b_0_0 : List ab_I := [(.iload_n 0, [], 0), (.iload_n 0, [], 0), (.iconst 1, [], 0), (.iushr, [], 0), (.ldc_w 265, [], 1431655765), (.iand, [], 0), (.isub, [], 0), (.istore_n 0, [], 0), (.iload_n 0, [], 0), (.ldc_w 266, [], 858993459), (.iand, [], 0), (.iload_n 0, [], 0), (.iconst 2, [], 0), (.iushr, [], 0), (.ldc_w 266, [], 858993459), (.iand, [], 0), (.iadd, [], 0), (.istore_n 0, [], 0), (.iload_n 0, [], 0), (.iload_n 0, [], 0), (.iconst 4, [], 0), (.iushr, [], 0), (.iadd, [], 0), (.ldc_w 267, [], 252645135), (.iand, [], 0), (.istore_n 0, [], 0), (.iload_n 0, [], 0), (.iload_n 0, [], 0), (.bipush 8, [], 0), (.iushr, [], 0), (.iadd, [], 0), (.istore_n 0, [], 0), (.iload_n 0, [], 0), (.iload_n 0, [], 0), (.bipush 16, [], 0), (.iushr, [], 0), (.iadd, [], 0), (.istore_n 0, [], 0), (.iload_n 0, [], 0), (.bipush 63, [], 0), (.iand, [], 0), (.ireturn, [0], 0)]
def bk_0 : List (List ab_I) := [b_0_0]
-- 1: java/lang/Long.bitCount(J)I
def mr_1 : ab_M := (yJ13_bitCount_95d88, prog_9_method_50_code, 2, some .int, 1, true)
def pc_1 : List Nat := [0]
def b_1_0 : List ab_I := [(.lload_n 0, [], 0), (.lload_n 0, [], 0), (.iconst 1, [], 0), (.lushr, [], 0), (.ldc2_w 314, [], 6148914691236517205), (.land, [], 0), (.lsub, [], 0), (.lstore_n 0, [], 0), (.lload_n 0, [], 0), (.ldc2_w 316, [], 3689348814741910323), (.land, [], 0), (.lload_n 0, [], 0), (.iconst 2, [], 0), (.lushr, [], 0), (.ldc2_w 316, [], 3689348814741910323), (.land, [], 0), (.ladd, [], 0), (.lstore_n 0, [], 0), (.lload_n 0, [], 0), (.lload_n 0, [], 0), (.iconst 4, [], 0), (.lushr, [], 0), (.ladd, [], 0), (.ldc2_w 318, [], 1085102592571150095), (.land, [], 0), (.lstore_n 0, [], 0), (.lload_n 0, [], 0), (.lload_n 0, [], 0), (.bipush 8, [], 0), (.lushr, [], 0), (.ladd, [], 0), (.lstore_n 0, [], 0), (.lload_n 0, [], 0), (.lload_n 0, [], 0), (.bipush 16, [], 0), (.lushr, [], 0), (.ladd, [], 0), (.lstore_n 0, [], 0), (.lload_n 0, [], 0), (.lload_n 0, [], 0), (.bipush 32, [], 0), (.lushr, [], 0), (.ladd, [], 0), (.lstore_n 0, [], 0), (.lload_n 0, [], 0), (.l2i, [], 0), (.bipush 127, [], 0), (.iand, [], 0), (.ireturn, [0], 0)]
def bk_1 : List (List ab_I) := [b_1_0]
-- 2: java/util/Arrays.rangeCheck(III)V
def mr_2 : ab_M := (yJ7_rangeCheck_23922, prog_12_method_30_code, 3, none, 3, true)
def pc_2 : List Nat := [0, 5, 46, 50, 59, 64, 73]
def b_2_0 : List ab_I := [(.iload_n 1, [], 0), (.iload_n 2, [], 0), (.if_icmp .le 44, [2], 0)]
def b_2_1 : List ab_I := [(.athrow, [], 0)]
def b_2_2 : List ab_I := [(.iload_n 1, [], 0), (.ifCond .ge 12, [4], 0)]
def b_2_3 : List ab_I := [(.athrow, [], 0)]
def b_2_4 : List ab_I := [(.iload_n 2, [], 0), (.iload_n 0, [], 0), (.if_icmp .le 12, [6], 0)]
def b_2_5 : List ab_I := [(.athrow, [], 0)]
def b_2_6 : List ab_I := [(.return_, [], 0)]
def bk_2 : List (List ab_I) := [b_2_0, b_2_1, b_2_2, b_2_3, b_2_4, b_2_5, b_2_6]
-- 3: java/util/Arrays.fill([JJ)V
def mr_3 : ab_M := (yJ7_fill_d0a16, prog_12_method_101_code, 5, none, 2, true)
def pc_3 : List Nat := [0, 6, 22]
def b_3_0 : List ab_I := [(.iconst 0, [], 0), (.istore_n 3, [], 0), (.aload_n 0, [], 0), (.arraylength, [], 0), (.istore 4, [], 0)]
def b_3_1 : List ab_I := [(.iload_n 3, [], 0), (.iload 4, [], 0), (.if_icmp .ge 13, [2], 0), (.aload_n 0, [], 0), (.iload_n 3, [], 0), (.lload_n 1, [], 0), (.lastore, [], 0), (.iinc 3 1, [], 0), (.goto (-13), [1], 0)]
def b_3_2 : List ab_I := [(.return_, [], 0)]
def bk_3 : List (List ab_I) := [b_3_0, b_3_1, b_3_2]
-- 4: java/util/Arrays.fill([II)V
def mr_4 : ab_M := (yJ7_fill_53178, prog_12_method_103_code, 4, none, 2, true)
def pc_4 : List Nat := [0, 5, 20]
def b_4_0 : List ab_I := [(.iconst 0, [], 0), (.istore_n 2, [], 0), (.aload_n 0, [], 0), (.arraylength, [], 0), (.istore_n 3, [], 0)]
def b_4_1 : List ab_I := [(.iload_n 2, [], 0), (.iload_n 3, [], 0), (.if_icmp .ge 13, [2], 0), (.aload_n 0, [], 0), (.iload_n 2, [], 0), (.iload_n 1, [], 0), (.iastore, [], 0), (.iinc 2 1, [], 0), (.goto (-12), [1], 0)]
def b_4_2 : List ab_I := [(.return_, [], 0)]
def bk_4 : List (List ab_I) := [b_4_0, b_4_1, b_4_2]
-- 5: java/util/Arrays.fill([IIII)V
def mr_5 : ab_M := (yJ7_fill_fda19, prog_12_method_104_code, 5, none, 4, true)
def pc_5 : List Nat := [0, 10, 27]
def b_5_0 : List ab_I := [(.aload_n 0, [], 0), (.arraylength, [], 0), (.iload_n 1, [], 0), (.iload_n 2, [], 0), (.invokestatic 13, [2, 3, 0], 0), (.iload_n 1, [], 0), (.istore 4, [], 0)]
def b_5_1 : List ab_I := [(.iload 4, [], 0), (.iload_n 2, [], 0), (.if_icmp .ge 14, [2], 0), (.aload_n 0, [], 0), (.iload 4, [], 0), (.iload_n 3, [], 0), (.iastore, [], 0), (.iinc 4 1, [], 0), (.goto (-14), [1], 0)]
def b_5_2 : List ab_I := [(.return_, [], 0)]
def bk_5 : List (List ab_I) := [b_5_0, b_5_1, b_5_2]
-- 6: RelayRace$Race.takeText(LRelayRace$Text;)V
def mr_6 : ab_M := (yX0_takeText, prog_2_method_2_code, 5, none, 1, false)
def pc_6 : List Nat := [0, 21, 22, 27, 37, 96, 102]
def b_6_0 : List ab_I := [(.aload_n 0, [], 0), (.aload_n 1, [], 0), (.invokevirtual 38, [27, 1, 2], 0), (.iconst (-1), [], 0), (.if_icmp .ne 15, [1], 0), (.aload_n 1, [], 0), (.getfield 44, [2, 1], 0), (.iconst 1, [], 0), (.iadd, [], 0), (.bipush 9, [], 0), (.idiv, [], 0), (.goto 4, [2], 0)]
def b_6_1 : List ab_I := [(.iconst 0, [], 0)]
def b_6_2 : List ab_I := [(.putfield 28, [0, 5, 0], 0), (.iconst 0, [], 0), (.istore_n 2, [], 0)]
def b_6_3 : List ab_I := [(.iload_n 2, [], 0), (.aload_n 0, [], 0), (.getfield 28, [0, 5], 0), (.if_icmp .ge 70, [6], 0), (.iconst 0, [], 0), (.istore_n 3, [], 0)]
def b_6_4 : List ab_I := [(.iload_n 3, [], 0), (.iconst 4, [], 0), (.if_icmp .ge 57, [5], 0), (.iload_n 2, [], 0), (.bipush 9, [], 0), (.imul, [], 0), (.iconst 2, [], 0), (.iload_n 3, [], 0), (.imul, [], 0), (.iadd, [], 0), (.istore 4, [], 0), (.aload_n 0, [], 0), (.getfield 9, [0, 0], 0), (.iload_n 2, [], 0), (.iconst 4, [], 0), (.imul, [], 0), (.iload_n 3, [], 0), (.iadd, [], 0), (.aload_n 1, [], 0), (.iload 4, [], 0), (.invokevirtual 47, [29, 2, 2], 0), (.iastore, [], 0), (.aload_n 0, [], 0), (.getfield 15, [0, 1], 0), (.iload_n 2, [], 0), (.iconst 4, [], 0), (.imul, [], 0), (.iload_n 3, [], 0), (.iadd, [], 0), (.aload_n 1, [], 0), (.getfield 51, [2, 0], 0), (.iload 4, [], 0), (.iconst 1, [], 0), (.iadd, [], 0), (.iaload, [], 0), (.bipush 48, [], 0), (.isub, [], 0), (.iastore, [], 0), (.iinc 3 1, [], 0), (.goto (-56), [4], 0)]
def b_6_5 : List ab_I := [(.iinc 2 1, [], 0), (.goto (-72), [3], 0)]
def b_6_6 : List ab_I := [(.return_, [], 0)]
def bk_6 : List (List ab_I) := [b_6_0, b_6_1, b_6_2, b_6_3, b_6_4, b_6_5, b_6_6]
-- 7: RelayRace$Race.takeRace(LRelayRace$Race;)V
def mr_7 : ab_M := (yX0_takeRace, prog_2_method_3_code, 2, none, 1, false)
def pc_7 : List Nat := [0]
def b_7_0 : List ab_I := [(.aload_n 0, [], 0), (.aload_n 1, [], 0), (.getfield 28, [0, 5], 0), (.putfield 28, [0, 5, 0], 0), (.aload_n 0, [], 0), (.aload_n 1, [], 0), (.getfield 32, [0, 6], 0), (.putfield 32, [0, 6, 0], 0), (.aload_n 0, [], 0), (.aload_n 1, [], 0), (.getfield 35, [0, 7], 0), (.putfield 35, [0, 7, 0], 0), (.aload_n 1, [], 0), (.getfield 9, [0, 0], 0), (.iconst 0, [], 0), (.aload_n 0, [], 0), (.getfield 9, [0, 0], 0), (.iconst 0, [], 0), (.aload_n 0, [], 0), (.getfield 9, [0, 0], 0), (.arraylength, [], 0), (.invokestatic 54, [], 0), (.aload_n 1, [], 0), (.getfield 15, [0, 1], 0), (.iconst 0, [], 0), (.aload_n 0, [], 0), (.getfield 15, [0, 1], 0), (.iconst 0, [], 0), (.aload_n 0, [], 0), (.getfield 15, [0, 1], 0), (.arraylength, [], 0), (.invokestatic 54, [], 0), (.aload_n 1, [], 0), (.getfield 18, [0, 2], 0), (.iconst 0, [], 0), (.aload_n 0, [], 0), (.getfield 18, [0, 2], 0), (.iconst 0, [], 0), (.aload_n 0, [], 0), (.getfield 18, [0, 2], 0), (.arraylength, [], 0), (.invokestatic 54, [], 0), (.aload_n 1, [], 0), (.getfield 22, [0, 3], 0), (.iconst 0, [], 0), (.aload_n 0, [], 0), (.getfield 22, [0, 3], 0), (.iconst 0, [], 0), (.aload_n 0, [], 0), (.getfield 22, [0, 3], 0), (.arraylength, [], 0), (.invokestatic 54, [], 0), (.aload_n 1, [], 0), (.getfield 25, [0, 4], 0), (.iconst 0, [], 0), (.aload_n 0, [], 0), (.getfield 25, [0, 4], 0), (.iconst 0, [], 0), (.aload_n 0, [], 0), (.getfield 25, [0, 4], 0), (.arraylength, [], 0), (.invokestatic 54, [], 0), (.return_, [], 0)]
def bk_7 : List (List ab_I) := [b_7_0]
-- 8: RelayRace$Race.takeRunner(LRelayRace$Race;III)V
def mr_8 : ab_M := (yX0_takeRunner, prog_2_method_4_code, 5, none, 4, false)
def pc_8 : List Nat := [0]
def b_8_0 : List ab_I := [(.aload_n 0, [], 0), (.getfield 9, [0, 0], 0), (.iload_n 2, [], 0), (.iconst 4, [], 0), (.imul, [], 0), (.iload_n 3, [], 0), (.iadd, [], 0), (.aload_n 1, [], 0), (.getfield 9, [0, 0], 0), (.iload_n 2, [], 0), (.iconst 4, [], 0), (.imul, [], 0), (.iload 4, [], 0), (.iadd, [], 0), (.iaload, [], 0), (.iastore, [], 0), (.aload_n 0, [], 0), (.getfield 15, [0, 1], 0), (.iload_n 2, [], 0), (.iconst 4, [], 0), (.imul, [], 0), (.iload_n 3, [], 0), (.iadd, [], 0), (.aload_n 1, [], 0), (.getfield 15, [0, 1], 0), (.iload_n 2, [], 0), (.iconst 4, [], 0), (.imul, [], 0), (.iload 4, [], 0), (.iadd, [], 0), (.iaload, [], 0), (.iastore, [], 0), (.return_, [], 0)]
def bk_8 : List (List ab_I) := [b_8_0]
-- 9: RelayRace$Race.setConditions(ILRelayRace$Triples;I)V
def mr_9 : ab_M := (yX0_setConditions, prog_2_method_5_code, 5, none, 3, false)
def pc_9 : List Nat := [0, 22, 65, 71]
def b_9_0 : List ab_I := [(.aload_n 0, [], 0), (.iload_n 1, [], 0), (.putfield 32, [0, 6, 0], 0), (.aload_n 0, [], 0), (.bipush 48, [], 0), (.putfield 35, [0, 7, 0], 0), (.aload_n 0, [], 0), (.getfield 18, [0, 2], 0), (.lconst 0, [], 0), (.invokestatic 60, [3, 2, 0], 0), (.iconst 0, [], 0), (.istore 4, [], 0)]
def b_9_1 : List ab_I := [(.iload 4, [], 0), (.aload_n 2, [], 0), (.getfield 66, [3, 3], 0), (.if_icmp .ge 43, [3], 0), (.iload_n 3, [], 0), (.iload 4, [], 0), (.ishr, [], 0), (.iconst 1, [], 0), (.iand, [], 0), (.ifCond .eq 28, [2], 0), (.aload_n 0, [], 0), (.aload_n 2, [], 0), (.getfield 71, [3, 0], 0), (.iload 4, [], 0), (.iaload, [], 0), (.aload_n 2, [], 0), (.getfield 74, [3, 1], 0), (.iload 4, [], 0), (.iaload, [], 0), (.aload_n 2, [], 0), (.getfield 77, [3, 2], 0), (.iload 4, [], 0), (.iaload, [], 0), (.invokevirtual 80, [10, 4, 0], 0)]
def b_9_2 : List ab_I := [(.iinc 4 1, [], 0), (.goto (-46), [1], 0)]
def b_9_3 : List ab_I := [(.return_, [], 0)]
def bk_9 : List (List ab_I) := [b_9_0, b_9_1, b_9_2, b_9_3]
-- 10: RelayRace$Race.befall(III)V
def mr_10 : ab_M := (yX0_befall, prog_2_method_6_code, 4, none, 3, false)
def pc_10 : List Nat := [0, 17, 21, 27, 47, 61]
def b_10_0 : List ab_I := [(.iload_n 1, [], 0), (.ifCond .ne 26, [3], 0), (.aload_n 0, [], 0), (.iload_n 2, [], 0), (.aload_n 0, [], 0), (.getfield 35, [0, 7], 0), (.if_icmp .ge 7, [1], 0), (.iload_n 2, [], 0), (.goto 7, [2], 0)]
def b_10_1 : List ab_I := [(.aload_n 0, [], 0), (.getfield 35, [0, 7], 0)]
def b_10_2 : List ab_I := [(.putfield 35, [0, 7, 0], 0), (.goto 37, [5], 0)]
def b_10_3 : List ab_I := [(.iload_n 1, [], 0), (.iconst 1, [], 0), (.if_icmp .ne 18, [4], 0), (.aload_n 0, [], 0), (.getfield 18, [0, 2], 0), (.iload_n 3, [], 0), (.dup2, [], 0), (.laload, [], 0), (.lconst 1, [], 0), (.iload_n 2, [], 0), (.lshl, [], 0), (.lor, [], 0), (.lastore, [], 0), (.goto 17, [5], 0)]
def b_10_4 : List ab_I := [(.aload_n 0, [], 0), (.getfield 18, [0, 2], 0), (.iload_n 3, [], 0), (.dup2, [], 0), (.laload, [], 0), (.ldc2_w 84, [], 7), (.iload_n 2, [], 0), (.lshl, [], 0), (.lor, [], 0), (.lastore, [], 0)]
def b_10_5 : List ab_I := [(.return_, [], 0)]
def bk_10 : List (List ab_I) := [b_10_0, b_10_1, b_10_2, b_10_3, b_10_4, b_10_5]
-- 11: RelayRace$Race.runAll()V
def mr_11 : ab_M := (yX0_runAll, prog_2_method_7_code, 2, none, 0, false)
def pc_11 : List Nat := [0, 2, 21]
def b_11_0 : List ab_I := [(.iconst 0, [], 0), (.istore_n 1, [], 0)]
def b_11_1 : List ab_I := [(.iload_n 1, [], 0), (.aload_n 0, [], 0), (.getfield 28, [0, 5], 0), (.if_icmp .ge 14, [2], 0), (.aload_n 0, [], 0), (.iload_n 1, [], 0), (.invokevirtual 86, [12, 2, 0], 0), (.iinc 1 1, [], 0), (.goto (-16), [1], 0)]
def b_11_2 : List ab_I := [(.return_, [], 0)]
def bk_11 : List (List ab_I) := [b_11_0, b_11_1, b_11_2]
-- 12: RelayRace$Race.runTeam(I)V
def mr_12 : ab_M := (yX0_runTeam, prog_2_method_8_code, 7, none, 1, false)
def pc_12 : List Nat := [0, 32, 72, 117, 142, 148]
def b_12_0 : List ab_I := [(.iload_n 1, [], 0), (.bipush 48, [], 0), (.imul, [], 0), (.istore_n 2, [], 0), (.iconst 0, [], 0), (.istore_n 3, [], 0), (.iconst 0, [], 0), (.istore 4, [], 0), (.iconst 0, [], 0), (.istore 5, [], 0), (.aload_n 0, [], 0), (.getfield 25, [0, 4], 0), (.iload_n 1, [], 0), (.iconst 4, [], 0), (.imul, [], 0), (.iload_n 1, [], 0), (.iconst 4, [], 0), (.imul, [], 0), (.iconst 4, [], 0), (.iadd, [], 0), (.iconst (-1), [], 0), (.invokestatic 90, [5, 4, 0], 0), (.iconst 0, [], 0), (.istore 6, [], 0)]
def b_12_1 : List ab_I := [(.iload 6, [], 0), (.bipush 48, [], 0), (.if_icmp .ge 112, [5], 0), (.aload_n 0, [], 0), (.getfield 18, [0, 2], 0), (.iload_n 1, [], 0), (.laload, [], 0), (.iload 6, [], 0), (.lshr, [], 0), (.lconst 1, [], 0), (.land, [], 0), (.lconst 0, [], 0), (.lcmp, [], 0), (.ifCond .ne 20, [2], 0), (.iload_n 3, [], 0), (.aload_n 0, [], 0), (.iload_n 1, [], 0), (.iconst 4, [], 0), (.imul, [], 0), (.iload 4, [], 0), (.iadd, [], 0), (.iload 5, [], 0), (.iload 6, [], 0), (.invokevirtual 93, [13, 4, 0], 0), (.iadd, [], 0), (.istore_n 3, [], 0)]
def b_12_2 : List ab_I := [(.iinc 5 1, [], 0), (.aload_n 0, [], 0), (.getfield 22, [0, 3], 0), (.iload_n 2, [], 0), (.iload 6, [], 0), (.iadd, [], 0), (.iload_n 3, [], 0), (.iastore, [], 0), (.iload_n 3, [], 0), (.iload 4, [], 0), (.iconst 1, [], 0), (.iadd, [], 0), (.aload_n 0, [], 0), (.getfield 32, [0, 6], 0), (.imul, [], 0), (.if_icmp .lt 22, [3], 0), (.aload_n 0, [], 0), (.getfield 25, [0, 4], 0), (.iload_n 1, [], 0), (.iconst 4, [], 0), (.imul, [], 0), (.iload 4, [], 0), (.iadd, [], 0), (.iload 6, [], 0), (.iastore, [], 0), (.iinc 4 1, [], 0), (.iconst 0, [], 0), (.istore 5, [], 0)]
def b_12_3 : List ab_I := [(.iload 4, [], 0), (.iconst 4, [], 0), (.if_icmp .ne 22, [4], 0), (.aload_n 0, [], 0), (.getfield 22, [0, 3], 0), (.iload_n 2, [], 0), (.iload 6, [], 0), (.iadd, [], 0), (.iload_n 2, [], 0), (.bipush 48, [], 0), (.iadd, [], 0), (.iload_n 3, [], 0), (.invokestatic 90, [5, 4, 0], 0), (.goto 9, [5], 0)]
def b_12_4 : List ab_I := [(.iinc 6 1, [], 0), (.goto (-113), [1], 0)]
def b_12_5 : List ab_I := [(.return_, [], 0)]
def bk_12 : List (List ab_I) := [b_12_0, b_12_1, b_12_2, b_12_3, b_12_4, b_12_5]
-- 13: RelayRace$Race.stride(III)I
def mr_13 : ab_M := (yX0_stride, prog_2_method_9_code, 5, some .int, 3, false)
def pc_13 : List Nat := [0, 28, 29, 44, 45, 48, 65, 76]
def b_13_0 : List ab_I := [(.aload_n 0, [], 0), (.getfield 15, [0, 1], 0), (.iload_n 1, [], 0), (.iaload, [], 0), (.istore 4, [], 0), (.aload_n 0, [], 0), (.getfield 9, [0, 0], 0), (.iload_n 1, [], 0), (.iaload, [], 0), (.ifCond .ne 34, [5], 0), (.iload 4, [], 0), (.iload_n 2, [], 0), (.iconst 3, [], 0), (.if_icmp .ge 7, [1], 0), (.iconst 1, [], 0), (.goto 4, [2], 0)]
def b_13_1 : List ab_I := [(.iconst 0, [], 0)]
def b_13_2 : List ab_I := [(.iadd, [], 0), (.istore 4, [], 0), (.iload 4, [], 0), (.iload_n 2, [], 0), (.bipush 6, [], 0), (.if_icmp .lt 7, [3], 0), (.iconst 1, [], 0), (.goto 4, [4], 0)]
def b_13_3 : List ab_I := [(.iconst 0, [], 0)]
def b_13_4 : List ab_I := [(.isub, [], 0), (.istore 4, [], 0)]
def b_13_5 : List ab_I := [(.aload_n 0, [], 0), (.getfield 9, [0, 0], 0), (.iload_n 1, [], 0), (.iaload, [], 0), (.iconst 2, [], 0), (.if_icmp .ne 10, [6], 0), (.iload_n 2, [], 0), (.ifCond .ne 6, [6], 0), (.iinc 4 (-1), [], 0)]
def b_13_6 : List ab_I := [(.iload_n 3, [], 0), (.aload_n 0, [], 0), (.getfield 35, [0, 7], 0), (.if_icmp .lt 6, [7], 0), (.iinc 4 (-1), [], 0)]
def b_13_7 : List ab_I := [(.iconst 1, [], 0), (.iload 4, [], 0), (.invokestatic 97, [1], 0), (.ireturn, [0], 0)]
def bk_13 : List (List ab_I) := [b_13_0, b_13_1, b_13_2, b_13_3, b_13_4, b_13_5, b_13_6, b_13_7]
-- 14: RelayRace$Race.metresAt(II)I
def mr_14 : ab_M := (yX0_metresAt, prog_2_method_10_code, 3, some .int, 2, false)
def pc_14 : List Nat := [0]
def b_14_0 : List ab_I := [(.aload_n 0, [], 0), (.getfield 22, [0, 3], 0), (.iload_n 1, [], 0), (.bipush 48, [], 0), (.imul, [], 0), (.iload_n 2, [], 0), (.iadd, [], 0), (.iaload, [], 0), (.ireturn, [0], 0)]
def bk_14 : List (List ab_I) := [b_14_0]
-- 15: RelayRace$Race.homeOf(I)I
def mr_15 : ab_M := (yX0_homeOf, prog_2_method_11_code, 2, some .int, 1, false)
def pc_15 : List Nat := [0]
def b_15_0 : List ab_I := [(.aload_n 0, [], 0), (.getfield 25, [0, 4], 0), (.iload_n 1, [], 0), (.iconst 4, [], 0), (.imul, [], 0), (.iconst 4, [], 0), (.iadd, [], 0), (.iconst 1, [], 0), (.isub, [], 0), (.iaload, [], 0), (.ireturn, [0], 0)]
def bk_15 : List (List ab_I) := [b_15_0]
-- 16: RelayRace$Race.legAt(II)I
def mr_16 : ab_M := (yX0_legAt, prog_2_method_12_code, 6, some .int, 2, false)
def pc_16 : List Nat := [0, 5, 39, 45]
def b_16_0 : List ab_I := [(.iconst 0, [], 0), (.istore_n 3, [], 0), (.iconst 0, [], 0), (.istore 4, [], 0)]
def b_16_1 : List ab_I := [(.iload 4, [], 0), (.iconst 4, [], 0), (.if_icmp .ge 37, [3], 0), (.aload_n 0, [], 0), (.getfield 25, [0, 4], 0), (.iload_n 1, [], 0), (.iconst 4, [], 0), (.imul, [], 0), (.iload 4, [], 0), (.iadd, [], 0), (.iaload, [], 0), (.istore 5, [], 0), (.iload 5, [], 0), (.iconst (-1), [], 0), (.if_icmp .eq 12, [2], 0), (.iload 5, [], 0), (.iload_n 2, [], 0), (.if_icmp .gt 6, [2], 0), (.iinc 3 1, [], 0)]
def b_16_2 : List ab_I := [(.iinc 4 1, [], 0), (.goto (-37), [1], 0)]
def b_16_3 : List ab_I := [(.iload_n 3, [], 0), (.ireturn, [0], 0)]
def bk_16 : List (List ab_I) := [b_16_0, b_16_1, b_16_2, b_16_3]
-- 17: RelayRace$Race.stoodOf(I)I
def mr_17 : ab_M := (yX0_stoodOf, prog_2_method_13_code, 4, some .int, 1, false)
def pc_17 : List Nat := [0, 16, 17]
def b_17_0 : List ab_I := [(.aload_n 0, [], 0), (.iload_n 1, [], 0), (.invokevirtual 103, [15, 2, 0], 0), (.istore_n 2, [], 0), (.iload_n 2, [], 0), (.iconst (-1), [], 0), (.if_icmp .ne 8, [1], 0), (.bipush 48, [], 0), (.goto 4, [2], 0)]
def b_17_1 : List ab_I := [(.iload_n 2, [], 0)]
def b_17_2 : List ab_I := [(.istore_n 3, [], 0), (.aload_n 0, [], 0), (.getfield 18, [0, 2], 0), (.iload_n 1, [], 0), (.laload, [], 0), (.lconst 1, [], 0), (.iload_n 3, [], 0), (.lshl, [], 0), (.lconst 1, [], 0), (.lsub, [], 0), (.land, [], 0), (.invokestatic 106, [1, 1, 0], 0), (.ireturn, [0], 0)]
def bk_17 : List (List ab_I) := [b_17_0, b_17_1, b_17_2]
-- 18: RelayRace$Race.standingAt(II)I
def mr_18 : ab_M := (yX0_standingAt, prog_2_method_14_code, 5, some .int, 2, false)
def pc_18 : List Nat := [0, 23, 24]
def b_18_0 : List ab_I := [(.aload_n 0, [], 0), (.iload_n 1, [], 0), (.invokevirtual 103, [15, 2, 0], 0), (.istore_n 3, [], 0), (.iload_n 3, [], 0), (.iconst (-1), [], 0), (.if_icmp .eq 15, [1], 0), (.iload_n 3, [], 0), (.iload_n 2, [], 0), (.if_icmp .gt 10, [1], 0), (.bipush 48, [], 0), (.iload_n 3, [], 0), (.isub, [], 0), (.goto 4, [2], 0)]
def b_18_1 : List ab_I := [(.iconst 0, [], 0)]
def b_18_2 : List ab_I := [(.istore 4, [], 0), (.iload 4, [], 0), (.sipush 4096, [], 0), (.imul, [], 0), (.iconst 4, [], 0), (.aload_n 0, [], 0), (.iload_n 1, [], 0), (.iload_n 2, [], 0), (.invokevirtual 112, [14, 3, 0], 0), (.imul, [], 0), (.iadd, [], 0), (.iconst 3, [], 0), (.iadd, [], 0), (.iload_n 1, [], 0), (.isub, [], 0), (.ireturn, [0], 0)]
def bk_18 : List (List ab_I) := [b_18_0, b_18_1, b_18_2]
-- 19: RelayRace$Race.rankAt(II)I
def mr_19 : ab_M := (yX0_rankAt, prog_2_method_15_code, 6, some .int, 2, false)
def pc_19 : List Nat := [0, 13, 36, 42]
def b_19_0 : List ab_I := [(.aload_n 0, [], 0), (.iload_n 1, [], 0), (.iload_n 2, [], 0), (.invokevirtual 115, [18, 3, 0], 0), (.istore_n 3, [], 0), (.iconst 0, [], 0), (.istore 4, [], 0), (.iconst 0, [], 0), (.istore 5, [], 0)]
def b_19_1 : List ab_I := [(.iload 5, [], 0), (.aload_n 0, [], 0), (.getfield 28, [0, 5], 0), (.if_icmp .ge 23, [3], 0), (.aload_n 0, [], 0), (.iload 5, [], 0), (.iload_n 2, [], 0), (.invokevirtual 115, [18, 3, 0], 0), (.iload_n 3, [], 0), (.if_icmp .le 6, [2], 0), (.iinc 4 1, [], 0)]
def b_19_2 : List ab_I := [(.iinc 5 1, [], 0), (.goto (-26), [1], 0)]
def b_19_3 : List ab_I := [(.iload 4, [], 0), (.ireturn, [0], 0)]
def bk_19 : List (List ab_I) := [b_19_0, b_19_1, b_19_2, b_19_3]
-- 20: RelayRace$Race.foremostAt(I)I
def mr_20 : ab_M := (yX0_foremostAt, prog_2_method_16_code, 6, some .int, 1, false)
def pc_20 : List Nat := [0, 7, 37, 43]
def b_20_0 : List ab_I := [(.iconst (-1), [], 0), (.istore_n 2, [], 0), (.iconst (-1), [], 0), (.istore_n 3, [], 0), (.iconst 0, [], 0), (.istore 4, [], 0)]
def b_20_1 : List ab_I := [(.iload 4, [], 0), (.aload_n 0, [], 0), (.getfield 28, [0, 5], 0), (.if_icmp .ge 30, [3], 0), (.aload_n 0, [], 0), (.iload 4, [], 0), (.iload_n 1, [], 0), (.invokevirtual 115, [18, 3, 0], 0), (.istore 5, [], 0), (.iload 5, [], 0), (.iload_n 3, [], 0), (.if_icmp .le 9, [2], 0), (.iload 4, [], 0), (.istore_n 2, [], 0), (.iload 5, [], 0), (.istore_n 3, [], 0)]
def b_20_2 : List ab_I := [(.iinc 4 1, [], 0), (.goto (-33), [1], 0)]
def b_20_3 : List ab_I := [(.iload_n 2, [], 0), (.ireturn, [0], 0)]
def bk_20 : List (List ab_I) := [b_20_0, b_20_1, b_20_2, b_20_3]
-- 21: RelayRace$Race.winner()I
def mr_21 : ab_M := (yX0_winner, prog_2_method_17_code, 2, some .int, 0, false)
def pc_21 : List Nat := [0, 25, 26]
def b_21_0 : List ab_I := [(.aload_n 0, [], 0), (.bipush 47, [], 0), (.invokevirtual 118, [20, 2, 0], 0), (.istore_n 1, [], 0), (.iload_n 1, [], 0), (.iconst (-1), [], 0), (.if_icmp .eq 16, [1], 0), (.aload_n 0, [], 0), (.iload_n 1, [], 0), (.invokevirtual 103, [15, 2, 0], 0), (.iconst (-1), [], 0), (.if_icmp .eq 7, [1], 0), (.iload_n 1, [], 0), (.goto 4, [2], 0)]
def b_21_1 : List ab_I := [(.iconst (-1), [], 0)]
def b_21_2 : List ab_I := [(.ireturn, [0], 0)]
def bk_21 : List (List ab_I) := [b_21_0, b_21_1, b_21_2]
-- 22: RelayRace$Race.comesOutAs(LRelayRace$Triples;)Z
def mr_22 : ab_M := (yX0_comesOutAs, prog_2_method_18_code, 4, some .boolean, 1, false)
def pc_22 : List Nat := [0, 2, 45, 47, 53]
def b_22_0 : List ab_I := [(.iconst 0, [], 0), (.istore_n 2, [], 0)]
def b_22_1 : List ab_I := [(.iload_n 2, [], 0), (.aload_n 1, [], 0), (.getfield 66, [3, 3], 0), (.if_icmp .ge 46, [4], 0), (.aload_n 1, [], 0), (.getfield 74, [3, 1], 0), (.iload_n 2, [], 0), (.iaload, [], 0), (.istore_n 3, [], 0), (.iload_n 3, [], 0), (.aload_n 0, [], 0), (.getfield 28, [0, 5], 0), (.if_icmp .ge 23, [2], 0), (.aload_n 0, [], 0), (.iload_n 3, [], 0), (.aload_n 1, [], 0), (.getfield 71, [3, 0], 0), (.iload_n 2, [], 0), (.iaload, [], 0), (.invokevirtual 121, [19, 3, 0], 0), (.aload_n 1, [], 0), (.getfield 77, [3, 2], 0), (.iload_n 2, [], 0), (.iaload, [], 0), (.if_icmp .eq 5, [3], 0)]
def b_22_2 : List ab_I := [(.iconst 0, [], 0), (.ireturn, [1], 0)]
def b_22_3 : List ab_I := [(.iinc 2 1, [], 0), (.goto (-48), [1], 0)]
def b_22_4 : List ab_I := [(.iconst 1, [], 0), (.ireturn, [1], 0)]
def bk_22 : List (List ab_I) := [b_22_0, b_22_1, b_22_2, b_22_3, b_22_4]
-- 23: RelayRace$Sheet.begin(II)V
def mr_23 : ab_M := (yX1_begin, prog_3_method_2_code, 3, none, 2, false)
def pc_23 : List Nat := [0]
def b_23_0 : List ab_I := [(.aload_n 0, [], 0), (.iconst 0, [], 0), (.putfield 15, [1, 1, 1], 0), (.aload_n 0, [], 0), (.iload_n 1, [], 0), (.putfield 19, [1, 2, 0], 0), (.aload_n 0, [], 0), (.iload_n 2, [], 0), (.putfield 23, [1, 3, 0], 0), (.aload_n 0, [], 0), (.getfield 9, [1, 0], 0), (.iconst 0, [], 0), (.invokestatic 26, [4, 2, 0], 0), (.return_, [], 0)]
def bk_23 : List (List ab_I) := [b_23_0]
-- 24: RelayRace$Sheet.store(II)V
def mr_24 : ab_M := (yX1_store, prog_3_method_3_code, 3, none, 2, false)
def pc_24 : List Nat := [0, 18, 37, 44]
def b_24_0 : List ab_I := [(.aload_n 0, [], 0), (.getfield 19, [1, 2], 0), (.ifCond .ne 14, [1], 0), (.aload_n 0, [], 0), (.getfield 9, [1, 0], 0), (.iload_n 1, [], 0), (.iload_n 2, [], 0), (.i2b, [], 0), (.iastore, [], 0), (.goto 29, [3], 0)]
def b_24_1 : List ab_I := [(.aload_n 0, [], 0), (.getfield 19, [1, 2], 0), (.iconst 1, [], 0), (.if_icmp .ne 14, [2], 0), (.aload_n 0, [], 0), (.getfield 9, [1, 0], 0), (.iload_n 1, [], 0), (.iload_n 2, [], 0), (.i2s, [], 0), (.iastore, [], 0), (.goto 10, [3], 0)]
def b_24_2 : List ab_I := [(.aload_n 0, [], 0), (.getfield 9, [1, 0], 0), (.iload_n 1, [], 0), (.iload_n 2, [], 0), (.iastore, [], 0)]
def b_24_3 : List ab_I := [(.return_, [], 0)]
def bk_24 : List (List ab_I) := [b_24_0, b_24_1, b_24_2, b_24_3]
-- 25: RelayRace$Sheet.hasItems(II)Z
def mr_25 : ab_M := (yX1_hasItems, prog_3_method_4_code, 3, some .boolean, 2, false)
def pc_25 : List Nat := [0, 30, 31]
def b_25_0 : List ab_I := [(.iload_n 1, [], 0), (.ifCond .lt 29, [1], 0), (.iload_n 2, [], 0), (.ifCond .lt 25, [1], 0), (.iload_n 1, [], 0), (.aload_n 0, [], 0), (.getfield 23, [1, 3], 0), (.if_icmp .gt 17, [1], 0), (.iload_n 2, [], 0), (.aload_n 0, [], 0), (.getfield 23, [1, 3], 0), (.iload_n 1, [], 0), (.isub, [], 0), (.if_icmp .gt 7, [1], 0), (.iconst 1, [], 0), (.goto 4, [2], 0)]
def b_25_1 : List ab_I := [(.iconst 0, [], 0)]
def b_25_2 : List ab_I := [(.ireturn, [1], 0)]
def bk_25 : List (List ab_I) := [b_25_0, b_25_1, b_25_2]
-- 26: RelayRace$Text.append(I)V
def mr_26 : ab_M := (yX2_append, prog_4_method_2_code, 2, none, 1, false)
def pc_26 : List Nat := [0]
def b_26_0 : List ab_I := [(.aload_n 0, [], 0), (.getfield 9, [2, 0], 0), (.aload_n 0, [], 0), (.getfield 15, [2, 1], 0), (.iload_n 1, [], 0), (.iastore, [], 0), (.aload_n 0, [], 0), (.dup, [], 0), (.getfield 15, [2, 1], 0), (.iconst 1, [], 0), (.iadd, [], 0), (.putfield 15, [2, 1, 0], 0), (.return_, [], 0)]
def bk_26 : List (List ab_I) := [b_26_0]
-- 27: RelayRace$Text.firstFault()I
def mr_27 : ab_M := (yX2_firstFault, prog_4_method_3_code, 2, some .int, 0, false)
def pc_27 : List Nat := [0, 2, 20, 26, 45, 49, 53]
def b_27_0 : List ab_I := [(.iconst 0, [], 0), (.istore_n 1, [], 0)]
def b_27_1 : List ab_I := [(.iload_n 1, [], 0), (.aload_n 0, [], 0), (.getfield 15, [2, 1], 0), (.if_icmp .ge 19, [3], 0), (.aload_n 0, [], 0), (.iload_n 1, [], 0), (.invokevirtual 19, [28, 2, 2], 0), (.ifCond .ne 5, [2], 0), (.iload_n 1, [], 0), (.ireturn, [0], 0)]
def b_27_2 : List ab_I := [(.iinc 1 1, [], 0), (.goto (-21), [1], 0)]
def b_27_3 : List ab_I := [(.aload_n 0, [], 0), (.getfield 15, [2, 1], 0), (.ifCond .eq 15, [4], 0), (.aload_n 0, [], 0), (.getfield 15, [2, 1], 0), (.bipush 9, [], 0), (.irem, [], 0), (.bipush 8, [], 0), (.if_icmp .ne 7, [5], 0)]
def b_27_4 : List ab_I := [(.iconst (-1), [], 0), (.goto 7, [6], 0)]
def b_27_5 : List ab_I := [(.aload_n 0, [], 0), (.getfield 15, [2, 1], 0)]
def b_27_6 : List ab_I := [(.ireturn, [0], 0)]
def bk_27 : List (List ab_I) := [b_27_0, b_27_1, b_27_2, b_27_3, b_27_4, b_27_5, b_27_6]
-- 28: RelayRace$Text.goesOn(I)Z
def mr_28 : ab_M := (yX2_goesOn, prog_4_method_4_code, 3, some .boolean, 1, false)
def pc_28 : List Nat := [0, 26, 27, 28, 47, 48, 49, 75, 76]
def b_28_0 : List ab_I := [(.iload_n 1, [], 0), (.bipush 9, [], 0), (.irem, [], 0), (.istore_n 2, [], 0), (.iload_n 2, [], 0), (.bipush 8, [], 0), (.if_icmp .ne 20, [3], 0), (.aload_n 0, [], 0), (.getfield 9, [2, 0], 0), (.iload_n 1, [], 0), (.iaload, [], 0), (.bipush 59, [], 0), (.if_icmp .ne 7, [1], 0), (.iconst 1, [], 0), (.goto 4, [2], 0)]
def b_28_1 : List ab_I := [(.iconst 0, [], 0)]
def b_28_2 : List ab_I := [(.ireturn, [1], 0)]
def b_28_3 : List ab_I := [(.iload_n 2, [], 0), (.iconst 2, [], 0), (.irem, [], 0), (.ifCond .ne 18, [6], 0), (.aload_n 0, [], 0), (.iload_n 1, [], 0), (.invokevirtual 23, [29, 2, 2], 0), (.iconst (-1), [], 0), (.if_icmp .eq 7, [4], 0), (.iconst 1, [], 0), (.goto 4, [5], 0)]
def b_28_4 : List ab_I := [(.iconst 0, [], 0)]
def b_28_5 : List ab_I := [(.ireturn, [1], 0)]
def b_28_6 : List ab_I := [(.aload_n 0, [], 0), (.getfield 9, [2, 0], 0), (.iload_n 1, [], 0), (.iaload, [], 0), (.bipush 49, [], 0), (.if_icmp .lt 18, [7], 0), (.aload_n 0, [], 0), (.getfield 9, [2, 0], 0), (.iload_n 1, [], 0), (.iaload, [], 0), (.bipush 57, [], 0), (.if_icmp .gt 7, [7], 0), (.iconst 1, [], 0), (.goto 4, [8], 0)]
def b_28_7 : List ab_I := [(.iconst 0, [], 0)]
def b_28_8 : List ab_I := [(.ireturn, [1], 0)]
def bk_28 : List (List ab_I) := [b_28_0, b_28_1, b_28_2, b_28_3, b_28_4, b_28_5, b_28_6, b_28_7, b_28_8]
-- 29: RelayRace$Text.sortAt(I)I
def mr_29 : ab_M := (yX2_sortAt, prog_4_method_5_code, 2, some .int, 1, false)
def pc_29 : List Nat := [0, 40, 42, 44, 46]
def b_29_0 : List ab_I := [(.aload_n 0, [], 0), (.getfield 9, [2, 0], 0), (.iload_n 1, [], 0), (.iaload, [], 0), (.lookupswitch 40 #[(100, 36), (110, 38), (115, 34)], [4, 2, 3, 1], 0)]
def b_29_1 : List ab_I := [(.iconst 0, [], 0), (.ireturn, [0], 0)]
def b_29_2 : List ab_I := [(.iconst 1, [], 0), (.ireturn, [0], 0)]
def b_29_3 : List ab_I := [(.iconst 2, [], 0), (.ireturn, [0], 0)]
def b_29_4 : List ab_I := [(.iconst (-1), [], 0), (.ireturn, [0], 0)]
def bk_29 : List (List ab_I) := [b_29_0, b_29_1, b_29_2, b_29_3, b_29_4]
-- 30: RelayRace$Triples.append(III)V
def mr_30 : ab_M := (yX3_append, prog_5_method_2_code, 4, none, 3, false)
def pc_30 : List Nat := [0]
def b_30_0 : List ab_I := [(.aload_n 0, [], 0), (.getfield 9, [3, 0], 0), (.aload_n 0, [], 0), (.getfield 21, [3, 3], 0), (.iload_n 1, [], 0), (.iastore, [], 0), (.aload_n 0, [], 0), (.getfield 15, [3, 1], 0), (.aload_n 0, [], 0), (.getfield 21, [3, 3], 0), (.iload_n 2, [], 0), (.iastore, [], 0), (.aload_n 0, [], 0), (.getfield 18, [3, 2], 0), (.aload_n 0, [], 0), (.getfield 21, [3, 3], 0), (.iload_n 3, [], 0), (.iastore, [], 0), (.aload_n 0, [], 0), (.dup, [], 0), (.getfield 21, [3, 3], 0), (.iconst 1, [], 0), (.iadd, [], 0), (.putfield 21, [3, 3, 0], 0), (.return_, [], 0)]
def bk_30 : List (List ab_I) := [b_30_0]
-- 31: RelayRace.type(I)I
def mr_31 : ab_M := (yX4_type, prog_1_method_2_code, 2, some .int, 1, false)
def pc_31 : List Nat := [0, 11, 14, 29]
def b_31_0 : List ab_I := [(.iload_n 1, [], 0), (.ifCond .lt 10, [1], 0), (.iload_n 1, [], 0), (.sipush 255, [], 0), (.if_icmp .le 6, [2], 0)]
def b_31_1 : List ab_I := [(.bipush (-2), [], 0), (.ireturn, [0], 0)]
def b_31_2 : List ab_I := [(.aload_n 0, [], 0), (.getfield 12, [4, 0], 0), (.getfield 67, [2, 1], 0), (.bipush 35, [], 0), (.if_icmp .lt 6, [3], 0), (.bipush (-4), [], 0), (.ireturn, [0], 0)]
def b_31_3 : List ab_I := [(.aload_n 0, [], 0), (.getfield 12, [4, 0], 0), (.iload_n 1, [], 0), (.invokevirtual 70, [26, 2, 2], 0), (.aload_n 0, [], 0), (.getfield 32, [4, 4], 0), (.aload_n 0, [], 0), (.getfield 12, [4, 0], 0), (.invokevirtual 74, [6, 2, 0], 0), (.aload_n 0, [], 0), (.invokevirtual 78, [40, 1, 4], 0), (.aload_n 0, [], 0), (.getfield 12, [4, 0], 0), (.getfield 67, [2, 1], 0), (.ireturn, [0], 0)]
def bk_31 : List (List ab_I) := [b_31_0, b_31_1, b_31_2, b_31_3]
-- 32: RelayRace.wipe()I
def mr_32 : ab_M := (yX4_wipe, prog_1_method_3_code, 2, some .int, 0, false)
def pc_32 : List Nat := [0]
def b_32_0 : List ab_I := [(.aload_n 0, [], 0), (.getfield 12, [4, 0], 0), (.getfield 67, [2, 1], 0), (.istore_n 1, [], 0), (.aload_n 0, [], 0), (.getfield 12, [4, 0], 0), (.iconst 0, [], 0), (.putfield 67, [2, 1, 0], 0), (.aload_n 0, [], 0), (.getfield 32, [4, 4], 0), (.aload_n 0, [], 0), (.getfield 12, [4, 0], 0), (.invokevirtual 74, [6, 2, 0], 0), (.aload_n 0, [], 0), (.invokevirtual 78, [40, 1, 4], 0), (.iload_n 1, [], 0), (.ireturn, [0], 0)]
def bk_32 : List (List ab_I) := [b_32_0]
-- 33: RelayRace.undo()I
def mr_33 : ab_M := (yX4_undo, prog_1_method_4_code, 1, some .int, 0, false)
def pc_33 : List Nat := [0, 13]
def b_33_0 : List ab_I := [(.aload_n 0, [], 0), (.getfield 12, [4, 0], 0), (.getfield 67, [2, 1], 0), (.ifCond .ne 6, [1], 0), (.bipush (-3), [], 0), (.ireturn, [0], 0)]
def b_33_1 : List ab_I := [(.aload_n 0, [], 0), (.getfield 12, [4, 0], 0), (.dup, [], 0), (.getfield 67, [2, 1], 0), (.iconst 1, [], 0), (.isub, [], 0), (.putfield 67, [2, 1, 0], 0), (.aload_n 0, [], 0), (.getfield 32, [4, 4], 0), (.aload_n 0, [], 0), (.getfield 12, [4, 0], 0), (.invokevirtual 74, [6, 2, 0], 0), (.aload_n 0, [], 0), (.invokevirtual 78, [40, 1, 4], 0), (.aload_n 0, [], 0), (.getfield 12, [4, 0], 0), (.getfield 67, [2, 1], 0), (.ireturn, [0], 0)]
def bk_33 : List (List ab_I) := [b_33_0, b_33_1]
-- 34: RelayRace.fault()I
def mr_34 : ab_M := (yX4_fault, prog_1_method_5_code, 1, some .int, 0, false)
def pc_34 : List Nat := [0]
def b_34_0 : List ab_I := [(.aload_n 0, [], 0), (.getfield 12, [4, 0], 0), (.invokevirtual 81, [27, 1, 2], 0), (.ireturn, [0], 0)]
def bk_34 : List (List ab_I) := [b_34_0]
-- 35: RelayRace.runner(III)I
def mr_35 : ab_M := (yX4_runner, prog_1_method_6_code, 5, some .int, 3, false)
def pc_35 : List Nat := [0, 22, 25, 49, 59]
def b_35_0 : List ab_I := [(.aload_n 0, [], 0), (.iload_n 1, [], 0), (.invokevirtual 85, [92, 2, 4], 0), (.ifCond .eq 17, [1], 0), (.iload_n 2, [], 0), (.invokestatic 89, [93, 1, 0], 0), (.ifCond .eq 10, [1], 0), (.iload_n 3, [], 0), (.invokestatic 92, [97, 1, 0], 0), (.ifCond .ne 6, [2], 0)]
def b_35_1 : List ab_I := [(.bipush (-2), [], 0), (.ireturn, [0], 0)]
def b_35_2 : List ab_I := [(.iload_n 1, [], 0), (.iconst 4, [], 0), (.imul, [], 0), (.iload_n 2, [], 0), (.iadd, [], 0), (.istore 4, [], 0), (.iload_n 3, [], 0), (.ifCond .ne 16, [3], 0), (.aload_n 0, [], 0), (.getfield 32, [4, 4], 0), (.getfield 95, [0, 0], 0), (.iload 4, [], 0), (.iaload, [], 0), (.goto 13, [4], 0)]
def b_35_3 : List ab_I := [(.aload_n 0, [], 0), (.getfield 32, [4, 4], 0), (.getfield 98, [0, 1], 0), (.iload 4, [], 0), (.iaload, [], 0)]
def b_35_4 : List ab_I := [(.ireturn, [0], 0)]
def bk_35 : List (List ab_I) := [b_35_0, b_35_1, b_35_2, b_35_3, b_35_4]
-- 36: RelayRace.along(I)I
def mr_36 : ab_M := (yX4_along, prog_1_method_7_code, 3, some .int, 1, false)
def pc_36 : List Nat := [0, 12, 15]
def b_36_0 : List ab_I := [(.iload_n 1, [], 0), (.bipush 10, [], 0), (.if_icmp .lt 9, [1], 0), (.iload_n 1, [], 0), (.bipush 60, [], 0), (.if_icmp .le 6, [2], 0)]
def b_36_1 : List ab_I := [(.bipush (-2), [], 0), (.ireturn, [0], 0)]
def b_36_2 : List ab_I := [(.aload_n 0, [], 0), (.getfield 59, [4, 11], 0), (.istore_n 2, [], 0), (.aload_n 0, [], 0), (.iload_n 1, [], 0), (.putfield 59, [4, 11, 0], 0), (.aload_n 0, [], 0), (.invokevirtual 78, [40, 1, 4], 0), (.iload_n 2, [], 0), (.ireturn, [0], 0)]
def bk_36 : List (List ab_I) := [b_36_0, b_36_1, b_36_2]
-- 37: RelayRace.event(III)I
def mr_37 : ab_M := (yX4_event, prog_1_method_8_code, 4, some .int, 3, false)
def pc_37 : List Nat := [0, 12, 27]
def b_37_0 : List ab_I := [(.iload_n 1, [], 0), (.iload_n 2, [], 0), (.iload_n 3, [], 0), (.invokestatic 101, [96, 3, 0], 0), (.ifCond .ne 6, [1], 0), (.bipush (-2), [], 0), (.ireturn, [0], 0)]
def b_37_1 : List ab_I := [(.aload_n 0, [], 0), (.getfield 19, [4, 1], 0), (.getfield 105, [3, 3], 0), (.bipush 8, [], 0), (.if_icmp .lt 6, [2], 0), (.bipush (-4), [], 0), (.ireturn, [0], 0)]
def b_37_2 : List ab_I := [(.aload_n 0, [], 0), (.getfield 19, [4, 1], 0), (.iload_n 1, [], 0), (.iload_n 2, [], 0), (.iload_n 3, [], 0), (.invokevirtual 108, [30, 4, 3], 0), (.aload_n 0, [], 0), (.invokevirtual 78, [40, 1, 4], 0), (.aload_n 0, [], 0), (.getfield 19, [4, 1], 0), (.getfield 105, [3, 3], 0), (.ireturn, [0], 0)]
def bk_37 : List (List ab_I) := [b_37_0, b_37_1, b_37_2]
-- 38: RelayRace.back()I
def mr_38 : ab_M := (yX4_back, prog_1_method_9_code, 1, some .int, 0, false)
def pc_38 : List Nat := [0, 13]
def b_38_0 : List ab_I := [(.aload_n 0, [], 0), (.getfield 19, [4, 1], 0), (.getfield 105, [3, 3], 0), (.ifCond .ne 6, [1], 0), (.bipush (-3), [], 0), (.ireturn, [0], 0)]
def b_38_1 : List ab_I := [(.aload_n 0, [], 0), (.getfield 19, [4, 1], 0), (.dup, [], 0), (.getfield 105, [3, 3], 0), (.iconst 1, [], 0), (.isub, [], 0), (.putfield 105, [3, 3, 0], 0), (.aload_n 0, [], 0), (.invokevirtual 78, [40, 1, 4], 0), (.aload_n 0, [], 0), (.getfield 19, [4, 1], 0), (.getfield 105, [3, 3], 0), (.ireturn, [0], 0)]
def bk_38 : List (List ab_I) := [b_38_0, b_38_1]
-- 39: RelayRace.read(I)I
def mr_39 : ab_M := (yX4_read, prog_1_method_10_code, 6, some .int, 1, false)
def pc_39 : List Nat := [0, 10, 30, 41, 98, 130]
def b_39_0 : List ab_I := [(.iload_n 1, [], 0), (.invokestatic 111, [98, 1, 0], 0), (.ifCond .ne 6, [1], 0), (.bipush (-2), [], 0), (.ireturn, [0], 0)]
def b_39_1 : List ab_I := [(.aload_n 0, [], 0), (.getfield 55, [4, 10], 0), (.iload_n 1, [], 0), (.aaload, [], 0), (.astore_n 2, [], 0), (.aload_n 2, [], 0), (.getfield 114, [1, 1], 0), (.ifCond .eq 9, [2], 0), (.aload_n 0, [], 0), (.iconst 1, [], 0), (.invokevirtual 117, [100, 2, 4], 0), (.ireturn, [0], 0)]
def b_39_2 : List ab_I := [(.aload_n 0, [], 0), (.getfield 19, [4, 1], 0), (.getfield 105, [3, 3], 0), (.istore_n 3, [], 0), (.iconst 0, [], 0), (.istore 4, [], 0)]
def b_39_3 : List ab_I := [(.iload 4, [], 0), (.iconst 3, [], 0), (.iadd, [], 0), (.aload_n 2, [], 0), (.getfield 121, [1, 3], 0), (.if_icmp .gt 81, [5], 0), (.aload_n 0, [], 0), (.getfield 19, [4, 1], 0), (.getfield 105, [3, 3], 0), (.bipush 8, [], 0), (.if_icmp .ge 69, [5], 0), (.aload_n 2, [], 0), (.getfield 122, [1, 0], 0), (.astore 5, [], 0), (.aload 5, [], 0), (.iload 4, [], 0), (.iaload, [], 0), (.aload 5, [], 0), (.iload 4, [], 0), (.iconst 1, [], 0), (.iadd, [], 0), (.iaload, [], 0), (.aload 5, [], 0), (.iload 4, [], 0), (.iconst 2, [], 0), (.iadd, [], 0), (.iaload, [], 0), (.invokestatic 101, [96, 3, 0], 0), (.ifCond .ne 6, [4], 0), (.goto 35, [5], 0)]
def b_39_4 : List ab_I := [(.aload_n 0, [], 0), (.getfield 19, [4, 1], 0), (.aload 5, [], 0), (.iload 4, [], 0), (.iaload, [], 0), (.aload 5, [], 0), (.iload 4, [], 0), (.iconst 1, [], 0), (.iadd, [], 0), (.iaload, [], 0), (.aload 5, [], 0), (.iload 4, [], 0), (.iconst 2, [], 0), (.iadd, [], 0), (.iaload, [], 0), (.invokevirtual 108, [30, 4, 3], 0), (.iinc 4 3, [], 0), (.goto (-86), [3], 0)]
def b_39_5 : List ab_I := [(.aload_n 0, [], 0), (.invokevirtual 78, [40, 1, 4], 0), (.aload_n 0, [], 0), (.getfield 19, [4, 1], 0), (.getfield 105, [3, 3], 0), (.iload_n 3, [], 0), (.isub, [], 0), (.ireturn, [0], 0)]
def bk_39 : List (List ab_I) := [b_39_0, b_39_1, b_39_2, b_39_3, b_39_4, b_39_5]
-- 40: RelayRace.runTold()V
def mr_40 : ab_M := (yX4_runTold, prog_1_method_11_code, 1, none, 0, false)
def pc_40 : List Nat := [0]
def b_40_0 : List ab_I := [(.aload_n 0, [], 0), (.iconst 1, [], 0), (.putfield 43, [4, 7, 1], 0), (.aload_n 0, [], 0), (.getfield 32, [4, 4], 0), (.aload_n 0, [], 0), (.getfield 59, [4, 11], 0), (.aload_n 0, [], 0), (.getfield 19, [4, 1], 0), (.aload_n 0, [], 0), (.invokevirtual 125, [41, 1, 4], 0), (.invokevirtual 128, [9, 4, 0], 0), (.aload_n 0, [], 0), (.getfield 32, [4, 4], 0), (.invokevirtual 132, [11, 1, 0], 0), (.return_, [], 0)]
def bk_40 : List (List ab_I) := [b_40_0]
-- 41: RelayRace.everyEvent()I
def mr_41 : ab_M := (yX4_everyEvent, prog_1_method_12_code, 1, some .int, 0, false)
def pc_41 : List Nat := [0]
def b_41_0 : List ab_I := [(.iconst 1, [], 0), (.aload_n 0, [], 0), (.getfield 19, [4, 1], 0), (.getfield 105, [3, 3], 0), (.ishl, [], 0), (.iconst 1, [], 0), (.isub, [], 0), (.ireturn, [0], 0)]
def bk_41 : List (List ab_I) := [b_41_0]
-- 42: RelayRace.at(III)I
def mr_42 : ab_M := (yX4_at, prog_1_method_13_code, 4, some .int, 3, false)
def pc_42 : List Nat := [0, 24, 27, 41, 58, 67]
def b_42_0 : List ab_I := [(.iload_n 1, [], 0), (.invokestatic 135, [94, 1, 0], 0), (.ifCond .eq 20, [1], 0), (.aload_n 0, [], 0), (.iload_n 2, [], 0), (.invokevirtual 85, [92, 2, 4], 0), (.ifCond .eq 12, [1], 0), (.iload_n 3, [], 0), (.ifCond .lt 8, [1], 0), (.iload_n 3, [], 0), (.iconst 2, [], 0), (.if_icmp .le 6, [2], 0)]
def b_42_1 : List ab_I := [(.bipush (-2), [], 0), (.ireturn, [0], 0)]
def b_42_2 : List ab_I := [(.iload_n 3, [], 0), (.ifCond .ne 13, [3], 0), (.aload_n 0, [], 0), (.getfield 32, [4, 4], 0), (.iload_n 2, [], 0), (.iload_n 1, [], 0), (.invokevirtual 138, [14, 3, 0], 0), (.ireturn, [0], 0)]
def b_42_3 : List ab_I := [(.iload_n 3, [], 0), (.iconst 1, [], 0), (.if_icmp .ne 15, [4], 0), (.aload_n 0, [], 0), (.getfield 32, [4, 4], 0), (.iload_n 2, [], 0), (.iload_n 1, [], 0), (.invokevirtual 142, [16, 3, 0], 0), (.goto 12, [5], 0)]
def b_42_4 : List ab_I := [(.aload_n 0, [], 0), (.getfield 32, [4, 4], 0), (.iload_n 2, [], 0), (.iload_n 1, [], 0), (.invokevirtual 145, [19, 3, 0], 0)]
def b_42_5 : List ab_I := [(.ireturn, [0], 0)]
def bk_42 : List (List ab_I) := [b_42_0, b_42_1, b_42_2, b_42_3, b_42_4, b_42_5]
-- 43: RelayRace.home(I)I
def mr_43 : ab_M := (yX4_home, prog_1_method_14_code, 2, some .int, 1, false)
def pc_43 : List Nat := [0, 19, 21]
def b_43_0 : List ab_I := [(.aload_n 0, [], 0), (.iload_n 1, [], 0), (.invokevirtual 85, [92, 2, 4], 0), (.ifCond .eq 14, [1], 0), (.aload_n 0, [], 0), (.getfield 32, [4, 4], 0), (.iload_n 1, [], 0), (.invokevirtual 148, [15, 2, 0], 0), (.goto 5, [2], 0)]
def b_43_1 : List ab_I := [(.bipush (-2), [], 0)]
def b_43_2 : List ab_I := [(.ireturn, [0], 0)]
def bk_43 : List (List ab_I) := [b_43_0, b_43_1, b_43_2]
-- 44: RelayRace.lasted(II)I
def mr_44 : ab_M := (yX4_lasted, prog_1_method_15_code, 5, some .int, 2, false)
def pc_44 : List Nat := [0, 15, 18, 39, 47, 62]
def b_44_0 : List ab_I := [(.aload_n 0, [], 0), (.iload_n 1, [], 0), (.invokevirtual 85, [92, 2, 4], 0), (.ifCond .eq 10, [1], 0), (.iload_n 2, [], 0), (.invokestatic 89, [93, 1, 0], 0), (.ifCond .ne 6, [2], 0)]
def b_44_1 : List ab_I := [(.bipush (-2), [], 0), (.ireturn, [0], 0)]
def b_44_2 : List ab_I := [(.aload_n 0, [], 0), (.getfield 32, [4, 4], 0), (.getfield 151, [0, 4], 0), (.iload_n 1, [], 0), (.iconst 4, [], 0), (.imul, [], 0), (.iload_n 2, [], 0), (.iadd, [], 0), (.iaload, [], 0), (.istore_n 3, [], 0), (.iload_n 3, [], 0), (.iconst (-1), [], 0), (.if_icmp .ne 5, [3], 0), (.iconst (-1), [], 0), (.ireturn, [0], 0)]
def b_44_3 : List ab_I := [(.iload_n 2, [], 0), (.ifCond .ne 7, [4], 0), (.iconst (-1), [], 0), (.goto 18, [5], 0)]
def b_44_4 : List ab_I := [(.aload_n 0, [], 0), (.getfield 32, [4, 4], 0), (.getfield 151, [0, 4], 0), (.iload_n 1, [], 0), (.iconst 4, [], 0), (.imul, [], 0), (.iload_n 2, [], 0), (.iadd, [], 0), (.iconst 1, [], 0), (.isub, [], 0), (.iaload, [], 0)]
def b_44_5 : List ab_I := [(.istore 4, [], 0), (.iload_n 3, [], 0), (.iload 4, [], 0), (.isub, [], 0), (.ireturn, [0], 0)]
def bk_44 : List (List ab_I) := [b_44_0, b_44_1, b_44_2, b_44_3, b_44_4, b_44_5]
-- 45: RelayRace.won(I)I
def mr_45 : ab_M := (yX4_won, prog_1_method_16_code, 2, some .int, 1, false)
def pc_45 : List Nat := [0, 10]
def b_45_0 : List ab_I := [(.iload_n 1, [], 0), (.invokestatic 92, [97, 1, 0], 0), (.ifCond .ne 6, [1], 0), (.bipush (-2), [], 0), (.ireturn, [0], 0)]
def b_45_1 : List ab_I := [(.aload_n 0, [], 0), (.getfield 32, [4, 4], 0), (.iload_n 1, [], 0), (.invokestatic 154, [46, 2, 0], 0), (.ireturn, [0], 0)]
def bk_45 : List (List ab_I) := [b_45_0, b_45_1]
-- 46: RelayRace.winnerOf(LRelayRace$Race;I)I
def mr_46 : ab_M := (yX4_winnerOf, prog_1_method_17_code, 3, some .int, 2, true)
def pc_46 : List Nat := [0, 12, 20, 25]
def b_46_0 : List ab_I := [(.aload_n 0, [], 0), (.invokevirtual 158, [21, 1, 0], 0), (.istore_n 2, [], 0), (.iload_n 2, [], 0), (.iconst (-1), [], 0), (.if_icmp .ne 5, [1], 0), (.iconst (-1), [], 0), (.ireturn, [0], 0)]
def b_46_1 : List ab_I := [(.iload_n 1, [], 0), (.ifCond .ne 7, [2], 0), (.iload_n 2, [], 0), (.goto 8, [3], 0)]
def b_46_2 : List ab_I := [(.aload_n 0, [], 0), (.iload_n 2, [], 0), (.invokevirtual 148, [15, 2, 0], 0)]
def b_46_3 : List ab_I := [(.ireturn, [0], 0)]
def bk_46 : List (List ab_I) := [b_46_0, b_46_1, b_46_2, b_46_3]
-- 47: RelayRace.changes()I
def mr_47 : ab_M := (yX4_changes, prog_1_method_18_code, 3, some .int, 0, false)
def pc_47 : List Nat := [0, 4, 34, 40]
def b_47_0 : List ab_I := [(.iconst 0, [], 0), (.istore_n 1, [], 0), (.iconst 1, [], 0), (.istore_n 2, [], 0)]
def b_47_1 : List ab_I := [(.iload_n 2, [], 0), (.bipush 48, [], 0), (.if_icmp .ge 33, [3], 0), (.aload_n 0, [], 0), (.getfield 32, [4, 4], 0), (.iload_n 2, [], 0), (.invokevirtual 161, [20, 2, 0], 0), (.aload_n 0, [], 0), (.getfield 32, [4, 4], 0), (.iload_n 2, [], 0), (.iconst 1, [], 0), (.isub, [], 0), (.invokevirtual 161, [20, 2, 0], 0), (.if_icmp .eq 6, [2], 0), (.iinc 1 1, [], 0)]
def b_47_2 : List ab_I := [(.iinc 2 1, [], 0), (.goto (-33), [1], 0)]
def b_47_3 : List ab_I := [(.iload_n 1, [], 0), (.ireturn, [0], 0)]
def bk_47 : List (List ab_I) := [b_47_0, b_47_1, b_47_2, b_47_3]
-- 48: RelayRace.leader(I)I
def mr_48 : ab_M := (yX4_leader, prog_1_method_19_code, 6, some .int, 1, false)
def pc_48 : List Nat := [0, 10, 17, 49, 55, 63, 64]
def b_48_0 : List ab_I := [(.iload_n 1, [], 0), (.invokestatic 92, [97, 1, 0], 0), (.ifCond .ne 6, [1], 0), (.bipush (-2), [], 0), (.ireturn, [0], 0)]
def b_48_1 : List ab_I := [(.iconst (-1), [], 0), (.istore_n 2, [], 0), (.iconst (-1), [], 0), (.istore_n 3, [], 0), (.iconst 0, [], 0), (.istore 4, [], 0)]
def b_48_2 : List ab_I := [(.iload 4, [], 0), (.aload_n 0, [], 0), (.getfield 32, [4, 4], 0), (.getfield 164, [0, 5], 0), (.if_icmp .ge 29, [4], 0), (.aload_n 0, [], 0), (.iload 4, [], 0), (.invokevirtual 167, [49, 2, 4], 0), (.istore 5, [], 0), (.iload 5, [], 0), (.iload_n 3, [], 0), (.if_icmp .le 9, [3], 0), (.iload 4, [], 0), (.istore_n 2, [], 0), (.iload 5, [], 0), (.istore_n 3, [], 0)]
def b_48_3 : List ab_I := [(.iinc 4 1, [], 0), (.goto (-35), [2], 0)]
def b_48_4 : List ab_I := [(.iload_n 1, [], 0), (.ifCond .ne 7, [5], 0), (.iload_n 2, [], 0), (.goto 4, [6], 0)]
def b_48_5 : List ab_I := [(.iload_n 3, [], 0)]
def b_48_6 : List ab_I := [(.ireturn, [0], 0)]
def bk_48 : List (List ab_I) := [b_48_0, b_48_1, b_48_2, b_48_3, b_48_4, b_48_5, b_48_6]
-- 49: RelayRace.momentsAhead(I)I
def mr_49 : ab_M := (yX4_momentsAhead, prog_1_method_20_code, 4, some .int, 1, false)
def pc_49 : List Nat := [0, 4, 25, 31]
def b_49_0 : List ab_I := [(.iconst 0, [], 0), (.istore_n 2, [], 0), (.iconst 0, [], 0), (.istore_n 3, [], 0)]
def b_49_1 : List ab_I := [(.iload_n 3, [], 0), (.bipush 48, [], 0), (.if_icmp .ge 24, [3], 0), (.aload_n 0, [], 0), (.getfield 32, [4, 4], 0), (.iload_n 3, [], 0), (.invokevirtual 161, [20, 2, 0], 0), (.iload_n 1, [], 0), (.if_icmp .ne 6, [2], 0), (.iinc 2 1, [], 0)]
def b_49_2 : List ab_I := [(.iinc 3 1, [], 0), (.goto (-24), [1], 0)]
def b_49_3 : List ab_I := [(.iload_n 2, [], 0), (.ireturn, [0], 0)]
def bk_49 : List (List ab_I) := [b_49_0, b_49_1, b_49_2, b_49_3]
-- 50: RelayRace.stood(I)I
def mr_50 : ab_M := (yX4_stood, prog_1_method_21_code, 2, some .int, 1, false)
def pc_50 : List Nat := [0, 19, 21]
def b_50_0 : List ab_I := [(.aload_n 0, [], 0), (.iload_n 1, [], 0), (.invokevirtual 85, [92, 2, 4], 0), (.ifCond .eq 14, [1], 0), (.aload_n 0, [], 0), (.getfield 32, [4, 4], 0), (.iload_n 1, [], 0), (.invokevirtual 170, [17, 2, 0], 0), (.goto 5, [2], 0)]
def b_50_1 : List ab_I := [(.bipush (-2), [], 0)]
def b_50_2 : List ab_I := [(.ireturn, [0], 0)]
def bk_50 : List (List ab_I) := [b_50_0, b_50_1, b_50_2]
-- 51: RelayRace.order(II)I
def mr_51 : ab_M := (yX4_order, prog_1_method_22_code, 3, some .int, 2, false)
def pc_51 : List Nat := [0, 17, 20]
def b_51_0 : List ab_I := [(.aload_n 0, [], 0), (.iload_n 1, [], 0), (.invokevirtual 85, [92, 2, 4], 0), (.ifCond .eq 12, [1], 0), (.iload_n 2, [], 0), (.ifCond .lt 8, [1], 0), (.iload_n 2, [], 0), (.iconst 4, [], 0), (.if_icmp .le 6, [2], 0)]
def b_51_1 : List ab_I := [(.bipush (-2), [], 0), (.ireturn, [0], 0)]
def b_51_2 : List ab_I := [(.aload_n 0, [], 0), (.iload_n 1, [], 0), (.invokevirtual 173, [52, 2, 4], 0), (.aload_n 0, [], 0), (.getfield 47, [4, 8], 0), (.iload_n 2, [], 0), (.iaload, [], 0), (.ireturn, [0], 0)]
def bk_51 : List (List ab_I) := [b_51_0, b_51_1, b_51_2]
-- 52: RelayRace.findOrder(I)V
def mr_52 : ab_M := (yX4_findOrder, prog_1_method_23_code, 5, none, 1, false)
def pc_52 : List Nat := [0, 21, 28, 36, 68, 74, 80, 86]
def b_52_0 : List ab_I := [(.aload_n 0, [], 0), (.getfield 47, [4, 8], 0), (.iconst (-1), [], 0), (.invokestatic 176, [4, 2, 0], 0), (.aload_n 0, [], 0), (.getfield 36, [4, 5], 0), (.aload_n 0, [], 0), (.getfield 32, [4, 4], 0), (.invokevirtual 182, [7, 2, 0], 0), (.iconst 0, [], 0), (.istore_n 2, [], 0)]
def b_52_1 : List ab_I := [(.iload_n 2, [], 0), (.iconst 4, [], 0), (.if_icmp .ge 63, [7], 0), (.iconst 0, [], 0), (.istore_n 3, [], 0)]
def b_52_2 : List ab_I := [(.iload_n 3, [], 0), (.iconst 4, [], 0), (.if_icmp .ge 50, [6], 0), (.iconst 0, [], 0), (.istore 4, [], 0)]
def b_52_3 : List ab_I := [(.iload 4, [], 0), (.iconst 4, [], 0), (.if_icmp .ge 35, [5], 0), (.iload_n 2, [], 0), (.iload_n 3, [], 0), (.if_icmp .eq 24, [4], 0), (.iload_n 2, [], 0), (.iload 4, [], 0), (.if_icmp .eq 18, [4], 0), (.iload_n 3, [], 0), (.iload 4, [], 0), (.if_icmp .eq 12, [4], 0), (.aload_n 0, [], 0), (.iload_n 1, [], 0), (.iload_n 2, [], 0), (.iload_n 3, [], 0), (.iload 4, [], 0), (.invokevirtual 186, [53, 5, 4], 0)]
def b_52_4 : List ab_I := [(.iinc 4 1, [], 0), (.goto (-35), [3], 0)]
def b_52_5 : List ab_I := [(.iinc 3 1, [], 0), (.goto (-49), [2], 0)]
def b_52_6 : List ab_I := [(.iinc 2 1, [], 0), (.goto (-62), [1], 0)]
def b_52_7 : List ab_I := [(.return_, [], 0)]
def bk_52 : List (List ab_I) := [b_52_0, b_52_1, b_52_2, b_52_3, b_52_4, b_52_5, b_52_6, b_52_7]
-- 53: RelayRace.tryOrder(IIII)V
def mr_53 : ab_M := (yX4_tryOrder, prog_1_method_24_code, 6, none, 4, false)
def pc_53 : List Nat := [0, 141]
def b_53_0 : List ab_I := [(.bipush 6, [], 0), (.iload_n 2, [], 0), (.isub, [], 0), (.iload_n 3, [], 0), (.isub, [], 0), (.iload 4, [], 0), (.isub, [], 0), (.istore 5, [], 0), (.aload_n 0, [], 0), (.getfield 36, [4, 5], 0), (.aload_n 0, [], 0), (.getfield 32, [4, 4], 0), (.iload_n 1, [], 0), (.iconst 0, [], 0), (.iload_n 2, [], 0), (.invokevirtual 190, [8, 5, 0], 0), (.aload_n 0, [], 0), (.getfield 36, [4, 5], 0), (.aload_n 0, [], 0), (.getfield 32, [4, 4], 0), (.iload_n 1, [], 0), (.iconst 1, [], 0), (.iload_n 3, [], 0), (.invokevirtual 190, [8, 5, 0], 0), (.aload_n 0, [], 0), (.getfield 36, [4, 5], 0), (.aload_n 0, [], 0), (.getfield 32, [4, 4], 0), (.iload_n 1, [], 0), (.iconst 2, [], 0), (.iload 4, [], 0), (.invokevirtual 190, [8, 5, 0], 0), (.aload_n 0, [], 0), (.getfield 36, [4, 5], 0), (.aload_n 0, [], 0), (.getfield 32, [4, 4], 0), (.iload_n 1, [], 0), (.iconst 3, [], 0), (.iload 5, [], 0), (.invokevirtual 190, [8, 5, 0], 0), (.aload_n 0, [], 0), (.getfield 36, [4, 5], 0), (.iload_n 1, [], 0), (.invokevirtual 194, [12, 2, 0], 0), (.aload_n 0, [], 0), (.getfield 36, [4, 5], 0), (.iload_n 1, [], 0), (.invokevirtual 148, [15, 2, 0], 0), (.aload_n 0, [], 0), (.getfield 47, [4, 8], 0), (.iconst 4, [], 0), (.iaload, [], 0), (.invokestatic 197, [55, 2, 0], 0), (.ifCond .eq 47, [1], 0), (.aload_n 0, [], 0), (.getfield 47, [4, 8], 0), (.iconst 0, [], 0), (.iload_n 2, [], 0), (.iastore, [], 0), (.aload_n 0, [], 0), (.getfield 47, [4, 8], 0), (.iconst 1, [], 0), (.iload_n 3, [], 0), (.iastore, [], 0), (.aload_n 0, [], 0), (.getfield 47, [4, 8], 0), (.iconst 2, [], 0), (.iload 4, [], 0), (.iastore, [], 0), (.aload_n 0, [], 0), (.getfield 47, [4, 8], 0), (.iconst 3, [], 0), (.iload 5, [], 0), (.iastore, [], 0), (.aload_n 0, [], 0), (.getfield 47, [4, 8], 0), (.iconst 4, [], 0), (.aload_n 0, [], 0), (.getfield 36, [4, 5], 0), (.iload_n 1, [], 0), (.invokevirtual 148, [15, 2, 0], 0), (.iastore, [], 0)]
def b_53_1 : List ab_I := [(.return_, [], 0)]
def bk_53 : List (List ab_I) := [b_53_0, b_53_1]
-- 54: RelayRace.train(II)I
def mr_54 : ab_M := (yX4_train, prog_1_method_25_code, 7, some .int, 2, false)
def pc_54 : List Nat := [0, 15, 18, 37, 135, 141, 149, 151]
def b_54_0 : List ab_I := [(.aload_n 0, [], 0), (.iload_n 1, [], 0), (.invokevirtual 85, [92, 2, 4], 0), (.ifCond .eq 10, [1], 0), (.iload_n 2, [], 0), (.invokestatic 92, [97, 1, 0], 0), (.ifCond .ne 6, [2], 0)]
def b_54_1 : List ab_I := [(.bipush (-2), [], 0), (.ireturn, [0], 0)]
def b_54_2 : List ab_I := [(.iconst (-1), [], 0), (.istore_n 3, [], 0), (.iconst (-1), [], 0), (.istore 4, [], 0), (.aload_n 0, [], 0), (.getfield 36, [4, 5], 0), (.aload_n 0, [], 0), (.getfield 32, [4, 4], 0), (.invokevirtual 182, [7, 2, 0], 0), (.iconst 0, [], 0), (.istore 5, [], 0)]
def b_54_3 : List ab_I := [(.iload 5, [], 0), (.iconst 4, [], 0), (.if_icmp .ge 101, [5], 0), (.iload_n 1, [], 0), (.iconst 4, [], 0), (.imul, [], 0), (.iload 5, [], 0), (.iadd, [], 0), (.istore 6, [], 0), (.aload_n 0, [], 0), (.getfield 36, [4, 5], 0), (.getfield 98, [0, 1], 0), (.iload 6, [], 0), (.bipush 9, [], 0), (.aload_n 0, [], 0), (.getfield 32, [4, 4], 0), (.getfield 98, [0, 1], 0), (.iload 6, [], 0), (.iaload, [], 0), (.iconst 1, [], 0), (.iadd, [], 0), (.invokestatic 201, [2], 0), (.iastore, [], 0), (.aload_n 0, [], 0), (.getfield 36, [4, 5], 0), (.iload_n 1, [], 0), (.invokevirtual 194, [12, 2, 0], 0), (.aload_n 0, [], 0), (.getfield 36, [4, 5], 0), (.getfield 98, [0, 1], 0), (.iload 6, [], 0), (.aload_n 0, [], 0), (.getfield 32, [4, 4], 0), (.getfield 98, [0, 1], 0), (.iload 6, [], 0), (.iaload, [], 0), (.iastore, [], 0), (.aload_n 0, [], 0), (.getfield 36, [4, 5], 0), (.iload_n 1, [], 0), (.invokevirtual 148, [15, 2, 0], 0), (.iload 4, [], 0), (.invokestatic 197, [55, 2, 0], 0), (.ifCond .eq 16, [4], 0), (.iload 5, [], 0), (.istore_n 3, [], 0), (.aload_n 0, [], 0), (.getfield 36, [4, 5], 0), (.iload_n 1, [], 0), (.invokevirtual 148, [15, 2, 0], 0), (.istore 4, [], 0)]
def b_54_4 : List ab_I := [(.iinc 5 1, [], 0), (.goto (-101), [3], 0)]
def b_54_5 : List ab_I := [(.iload_n 2, [], 0), (.ifCond .ne 7, [6], 0), (.iload_n 3, [], 0), (.goto 5, [7], 0)]
def b_54_6 : List ab_I := [(.iload 4, [], 0)]
def b_54_7 : List ab_I := [(.ireturn, [0], 0)]
def bk_54 : List (List ab_I) := [b_54_0, b_54_1, b_54_2, b_54_3, b_54_4, b_54_5, b_54_6, b_54_7]
-- 55: RelayRace.isSooner(II)Z
def mr_55 : ab_M := (yX4_isSooner, prog_1_method_26_code, 2, some .boolean, 2, true)
def pc_55 : List Nat := [0, 15, 19, 20]
def b_55_0 : List ab_I := [(.iload_n 0, [], 0), (.iconst (-1), [], 0), (.if_icmp .eq 17, [2], 0), (.iload_n 1, [], 0), (.iconst (-1), [], 0), (.if_icmp .eq 8, [1], 0), (.iload_n 0, [], 0), (.iload_n 1, [], 0), (.if_icmp .ge 7, [2], 0)]
def b_55_1 : List ab_I := [(.iconst 1, [], 0), (.goto 4, [3], 0)]
def b_55_2 : List ab_I := [(.iconst 0, [], 0)]
def b_55_3 : List ab_I := [(.ireturn, [1], 0)]
def bk_55 : List (List ab_I) := [b_55_0, b_55_1, b_55_2, b_55_3]
-- 56: RelayRace.fit(I)I
def mr_56 : ab_M := (yX4_fit, prog_1_method_27_code, 3, some .int, 1, false)
def pc_56 : List Nat := [0, 11, 25, 59, 65]
def b_56_0 : List ab_I := [(.aload_n 0, [], 0), (.iload_n 1, [], 0), (.invokevirtual 85, [92, 2, 4], 0), (.ifCond .ne 6, [1], 0), (.bipush (-2), [], 0), (.ireturn, [0], 0)]
def b_56_1 : List ab_I := [(.aload_n 0, [], 0), (.getfield 36, [4, 5], 0), (.aload_n 0, [], 0), (.getfield 32, [4, 4], 0), (.invokevirtual 182, [7, 2, 0], 0), (.bipush 10, [], 0), (.istore_n 2, [], 0)]
def b_56_2 : List ab_I := [(.iload_n 2, [], 0), (.bipush 60, [], 0), (.if_icmp .gt 37, [4], 0), (.aload_n 0, [], 0), (.getfield 36, [4, 5], 0), (.iload_n 2, [], 0), (.putfield 206, [0, 6, 0], 0), (.aload_n 0, [], 0), (.getfield 36, [4, 5], 0), (.invokevirtual 132, [11, 1, 0], 0), (.aload_n 0, [], 0), (.getfield 36, [4, 5], 0), (.invokevirtual 158, [21, 1, 0], 0), (.iload_n 1, [], 0), (.if_icmp .ne 5, [3], 0), (.iload_n 2, [], 0), (.ireturn, [0], 0)]
def b_56_3 : List ab_I := [(.iinc 2 1, [], 0), (.goto (-37), [2], 0)]
def b_56_4 : List ab_I := [(.iconst (-1), [], 0), (.ireturn, [0], 0)]
def bk_56 : List (List ab_I) := [b_56_0, b_56_1, b_56_2, b_56_3, b_56_4]
-- 57: RelayRace.spare(I)I
def mr_57 : ab_M := (yX4_spare, prog_1_method_28_code, 5, some .int, 1, false)
def pc_57 : List Nat := [0, 10, 13, 39, 40, 41, 43, 76, 82, 84, 100, 142, 148, 154]
def b_57_0 : List ab_I := [(.iload_n 1, [], 0), (.iconst (-1), [], 0), (.if_icmp .lt 8, [1], 0), (.iload_n 1, [], 0), (.iconst 1, [], 0), (.if_icmp .le 6, [2], 0)]
def b_57_1 : List ab_I := [(.bipush (-2), [], 0), (.ireturn, [0], 0)]
def b_57_2 : List ab_I := [(.aload_n 0, [], 0), (.invokevirtual 207, [59, 1, 4], 0), (.aload_n 0, [], 0), (.invokevirtual 125, [41, 1, 4], 0), (.istore_n 2, [], 0), (.aload_n 0, [], 0), (.iload_n 2, [], 0), (.invokevirtual 210, [60, 2, 4], 0), (.ifCond .ne 14, [5], 0), (.iload_n 1, [], 0), (.iconst (-1), [], 0), (.if_icmp .ne 7, [3], 0), (.iconst 0, [], 0), (.goto 4, [4], 0)]
def b_57_3 : List ab_I := [(.iconst (-1), [], 0)]
def b_57_4 : List ab_I := [(.ireturn, [0], 0)]
def b_57_5 : List ab_I := [(.iconst 0, [], 0), (.istore_n 3, [], 0)]
def b_57_6 : List ab_I := [(.iload_n 3, [], 0), (.aload_n 0, [], 0), (.getfield 19, [4, 1], 0), (.getfield 105, [3, 3], 0), (.if_icmp .ge 31, [8], 0), (.aload_n 0, [], 0), (.iload_n 2, [], 0), (.iconst 1, [], 0), (.iload_n 3, [], 0), (.ishl, [], 0), (.iconst (-1), [], 0), (.ixor, [], 0), (.iand, [], 0), (.invokevirtual 210, [60, 2, 4], 0), (.ifCond .ne 11, [7], 0), (.iload_n 1, [], 0), (.iconst 1, [], 0), (.iload_n 3, [], 0), (.iconst (-1), [], 0), (.invokestatic 213, [58, 4, 0], 0), (.ireturn, [0], 0)]
def b_57_7 : List ab_I := [(.iinc 3 1, [], 0), (.goto (-36), [6], 0)]
def b_57_8 : List ab_I := [(.iconst 0, [], 0), (.istore_n 3, [], 0)]
def b_57_9 : List ab_I := [(.iload_n 3, [], 0), (.aload_n 0, [], 0), (.getfield 19, [4, 1], 0), (.getfield 105, [3, 3], 0), (.if_icmp .ge 62, [13], 0), (.iload_n 3, [], 0), (.iconst 1, [], 0), (.iadd, [], 0), (.istore 4, [], 0)]
def b_57_10 : List ab_I := [(.iload 4, [], 0), (.aload_n 0, [], 0), (.getfield 19, [4, 1], 0), (.getfield 105, [3, 3], 0), (.if_icmp .ge 39, [12], 0), (.aload_n 0, [], 0), (.iload_n 2, [], 0), (.iconst 1, [], 0), (.iload_n 3, [], 0), (.ishl, [], 0), (.iconst (-1), [], 0), (.ixor, [], 0), (.iand, [], 0), (.iconst 1, [], 0), (.iload 4, [], 0), (.ishl, [], 0), (.iconst (-1), [], 0), (.ixor, [], 0), (.iand, [], 0), (.invokevirtual 210, [60, 2, 4], 0), (.ifCond .ne 12, [11], 0), (.iload_n 1, [], 0), (.iconst 2, [], 0), (.iload_n 3, [], 0), (.iload 4, [], 0), (.invokestatic 213, [58, 4, 0], 0), (.ireturn, [0], 0)]
def b_57_11 : List ab_I := [(.iinc 4 1, [], 0), (.goto (-45), [10], 0)]
def b_57_12 : List ab_I := [(.iinc 3 1, [], 0), (.goto (-67), [9], 0)]
def b_57_13 : List ab_I := [(.iconst (-1), [], 0), (.ireturn, [0], 0)]
def bk_57 : List (List ab_I) := [b_57_0, b_57_1, b_57_2, b_57_3, b_57_4, b_57_5, b_57_6, b_57_7, b_57_8, b_57_9, b_57_10, b_57_11, b_57_12, b_57_13]
-- 58: RelayRace.spared(IIII)I
def mr_58 : ab_M := (yX4_spared, prog_1_method_29_code, 4, some .int, 4, true)
def pc_58 : List Nat := [0, 7, 15, 16]
def b_58_0 : List ab_I := [(.iload_n 0, [], 0), (.iconst (-1), [], 0), (.if_icmp .ne 5, [1], 0), (.iload_n 1, [], 0), (.ireturn, [0], 0)]
def b_58_1 : List ab_I := [(.iload_n 0, [], 0), (.ifCond .ne 7, [2], 0), (.iload_n 2, [], 0), (.goto 4, [3], 0)]
def b_58_2 : List ab_I := [(.iload_n 3, [], 0)]
def b_58_3 : List ab_I := [(.ireturn, [0], 0)]
def bk_58 : List (List ab_I) := [b_58_0, b_58_1, b_58_2, b_58_3]
-- 59: RelayRace.prepareStandings()V
def mr_59 : ab_M := (yX4_prepareStandings, prog_1_method_30_code, 1, none, 0, false)
def pc_59 : List Nat := [0, 31]
def b_59_0 : List ab_I := [(.aload_n 0, [], 0), (.getfield 36, [4, 5], 0), (.aload_n 0, [], 0), (.getfield 32, [4, 4], 0), (.invokevirtual 182, [7, 2, 0], 0), (.aload_n 0, [], 0), (.getfield 43, [4, 7], 0), (.ifCond .eq 16, [1], 0), (.aload_n 0, [], 0), (.getfield 39, [4, 6], 0), (.iconst 0, [], 0), (.invokestatic 176, [4, 2, 0], 0), (.aload_n 0, [], 0), (.iconst 0, [], 0), (.putfield 43, [4, 7, 1], 0)]
def b_59_1 : List ab_I := [(.return_, [], 0)]
def bk_59 : List (List ab_I) := [b_59_0, b_59_1]
-- 60: RelayRace.winnerWith(I)I
def mr_60 : ab_M := (yX4_winnerWith, prog_1_method_31_code, 6, some .int, 1, false)
def pc_60 : List Nat := [0, 9, 42, 48]
def b_60_0 : List ab_I := [(.iconst (-1), [], 0), (.istore_n 2, [], 0), (.sipush 4095, [], 0), (.istore_n 3, [], 0), (.iconst 0, [], 0), (.istore 4, [], 0)]
def b_60_1 : List ab_I := [(.iload 4, [], 0), (.aload_n 0, [], 0), (.getfield 32, [4, 4], 0), (.getfield 164, [0, 5], 0), (.if_icmp .ge 30, [3], 0), (.aload_n 0, [], 0), (.iload 4, [], 0), (.iload_n 1, [], 0), (.invokevirtual 217, [61, 3, 4], 0), (.istore 5, [], 0), (.iload 5, [], 0), (.iload_n 3, [], 0), (.if_icmp .le 9, [2], 0), (.iload 4, [], 0), (.istore_n 2, [], 0), (.iload 5, [], 0), (.istore_n 3, [], 0)]
def b_60_2 : List ab_I := [(.iinc 4 1, [], 0), (.goto (-36), [1], 0)]
def b_60_3 : List ab_I := [(.iload_n 2, [], 0), (.ireturn, [0], 0)]
def bk_60 : List (List ab_I) := [b_60_0, b_60_1, b_60_2, b_60_3]
-- 61: RelayRace.standingWith(II)I
def mr_61 : ab_M := (yX4_standingWith, prog_1_method_32_code, 5, some .int, 2, false)
def pc_61 : List Nat := [0, 68]
def b_61_0 : List ab_I := [(.iload_n 2, [], 0), (.aload_n 0, [], 0), (.iload_n 1, [], 0), (.invokevirtual 220, [62, 2, 4], 0), (.iand, [], 0), (.istore_n 3, [], 0), (.iload_n 1, [], 0), (.sipush 256, [], 0), (.imul, [], 0), (.iload_n 3, [], 0), (.iadd, [], 0), (.istore 4, [], 0), (.aload_n 0, [], 0), (.getfield 39, [4, 6], 0), (.iload 4, [], 0), (.iaload, [], 0), (.ifCond .ne 44, [1], 0), (.aload_n 0, [], 0), (.getfield 36, [4, 5], 0), (.aload_n 0, [], 0), (.getfield 59, [4, 11], 0), (.aload_n 0, [], 0), (.getfield 19, [4, 1], 0), (.iload_n 3, [], 0), (.invokevirtual 128, [9, 4, 0], 0), (.aload_n 0, [], 0), (.getfield 36, [4, 5], 0), (.iload_n 1, [], 0), (.invokevirtual 194, [12, 2, 0], 0), (.aload_n 0, [], 0), (.getfield 39, [4, 6], 0), (.iload 4, [], 0), (.aload_n 0, [], 0), (.getfield 36, [4, 5], 0), (.iload_n 1, [], 0), (.bipush 47, [], 0), (.invokevirtual 223, [18, 3, 0], 0), (.iastore, [], 0)]
def b_61_1 : List ab_I := [(.aload_n 0, [], 0), (.getfield 39, [4, 6], 0), (.iload 4, [], 0), (.iaload, [], 0), (.ireturn, [0], 0)]
def bk_61 : List (List ab_I) := [b_61_0, b_61_1]
-- 62: RelayRace.eventsTouching(I)I
def mr_62 : ab_M := (yX4_eventsTouching, prog_1_method_33_code, 4, some .int, 1, false)
def pc_62 : List Nat := [0, 4, 40, 46, 52]
def b_62_0 : List ab_I := [(.iconst 0, [], 0), (.istore_n 2, [], 0), (.iconst 0, [], 0), (.istore_n 3, [], 0)]
def b_62_1 : List ab_I := [(.iload_n 3, [], 0), (.aload_n 0, [], 0), (.getfield 19, [4, 1], 0), (.getfield 105, [3, 3], 0), (.if_icmp .ge 40, [4], 0), (.aload_n 0, [], 0), (.getfield 19, [4, 1], 0), (.getfield 226, [3, 0], 0), (.iload_n 3, [], 0), (.iaload, [], 0), (.ifCond .eq 16, [2], 0), (.aload_n 0, [], 0), (.getfield 19, [4, 1], 0), (.getfield 229, [3, 2], 0), (.iload_n 3, [], 0), (.iaload, [], 0), (.iload_n 1, [], 0), (.if_icmp .ne 9, [3], 0)]
def b_62_2 : List ab_I := [(.iload_n 2, [], 0), (.iconst 1, [], 0), (.iload_n 3, [], 0), (.ishl, [], 0), (.ior, [], 0), (.istore_n 2, [], 0)]
def b_62_3 : List ab_I := [(.iinc 3 1, [], 0), (.goto (-45), [1], 0)]
def b_62_4 : List ab_I := [(.iload_n 2, [], 0), (.ireturn, [0], 0)]
def bk_62 : List (List ab_I) := [b_62_0, b_62_1, b_62_2, b_62_3, b_62_4]
-- 63: RelayRace.seen(III)I
def mr_63 : ab_M := (yX4_seen, prog_1_method_34_code, 4, some .int, 3, false)
def pc_63 : List Nat := [0, 21, 24, 39]
def b_63_0 : List ab_I := [(.iload_n 1, [], 0), (.invokestatic 135, [94, 1, 0], 0), (.ifCond .eq 17, [1], 0), (.iload_n 2, [], 0), (.invokestatic 232, [95, 1, 0], 0), (.ifCond .eq 10, [1], 0), (.iload_n 3, [], 0), (.invokestatic 232, [95, 1, 0], 0), (.ifCond .ne 6, [2], 0)]
def b_63_1 : List ab_I := [(.bipush (-2), [], 0), (.ireturn, [0], 0)]
def b_63_2 : List ab_I := [(.aload_n 0, [], 0), (.getfield 23, [4, 2], 0), (.getfield 105, [3, 3], 0), (.bipush 8, [], 0), (.if_icmp .lt 6, [3], 0), (.bipush (-4), [], 0), (.ireturn, [0], 0)]
def b_63_3 : List ab_I := [(.aload_n 0, [], 0), (.getfield 23, [4, 2], 0), (.iload_n 1, [], 0), (.iload_n 2, [], 0), (.iload_n 3, [], 0), (.invokevirtual 108, [30, 4, 3], 0), (.aload_n 0, [], 0), (.getfield 23, [4, 2], 0), (.getfield 105, [3, 3], 0), (.ireturn, [0], 0)]
def bk_63 : List (List ab_I) := [b_63_0, b_63_1, b_63_2, b_63_3]
-- 64: RelayRace.forget()I
def mr_64 : ab_M := (yX4_forget, prog_1_method_35_code, 2, some .int, 0, false)
def pc_64 : List Nat := [0]
def b_64_0 : List ab_I := [(.aload_n 0, [], 0), (.getfield 23, [4, 2], 0), (.getfield 105, [3, 3], 0), (.istore_n 1, [], 0), (.aload_n 0, [], 0), (.getfield 23, [4, 2], 0), (.iconst 0, [], 0), (.putfield 105, [3, 3, 0], 0), (.iload_n 1, [], 0), (.ireturn, [0], 0)]
def bk_64 : List (List ab_I) := [b_64_0]
-- 65: RelayRace.never()I
def mr_65 : ab_M := (yX4_never, prog_1_method_36_code, 3, some .int, 0, false)
def pc_65 : List Nat := [0, 15, 78, 84]
def b_65_0 : List ab_I := [(.iconst 0, [], 0), (.istore_n 1, [], 0), (.aload_n 0, [], 0), (.getfield 36, [4, 5], 0), (.aload_n 0, [], 0), (.getfield 32, [4, 4], 0), (.invokevirtual 182, [7, 2, 0], 0), (.iconst 0, [], 0), (.istore_n 2, [], 0)]
def b_65_1 : List ab_I := [(.iload_n 2, [], 0), (.aload_n 0, [], 0), (.getfield 19, [4, 1], 0), (.getfield 105, [3, 3], 0), (.if_icmp .ge 61, [3], 0), (.aload_n 0, [], 0), (.getfield 36, [4, 5], 0), (.aload_n 0, [], 0), (.getfield 59, [4, 11], 0), (.aload_n 0, [], 0), (.getfield 19, [4, 1], 0), (.aload_n 0, [], 0), (.invokevirtual 125, [41, 1, 4], 0), (.iconst 1, [], 0), (.iload_n 2, [], 0), (.ishl, [], 0), (.iconst (-1), [], 0), (.ixor, [], 0), (.iand, [], 0), (.invokevirtual 128, [9, 4, 0], 0), (.aload_n 0, [], 0), (.getfield 36, [4, 5], 0), (.invokevirtual 132, [11, 1, 0], 0), (.aload_n 0, [], 0), (.getfield 36, [4, 5], 0), (.aload_n 0, [], 0), (.getfield 23, [4, 2], 0), (.invokevirtual 235, [22, 2, 0], 0), (.ifCond .eq 9, [2], 0), (.iload_n 1, [], 0), (.iconst 1, [], 0), (.iload_n 2, [], 0), (.ishl, [], 0), (.ior, [], 0), (.istore_n 1, [], 0)]
def b_65_2 : List ab_I := [(.iinc 2 1, [], 0), (.goto (-66), [1], 0)]
def b_65_3 : List ab_I := [(.iload_n 1, [], 0), (.ireturn, [0], 0)]
def bk_65 : List (List ab_I) := [b_65_0, b_65_1, b_65_2, b_65_3]
-- 66: RelayRace.was(III)I
def mr_66 : ab_M := (yX4_was, prog_1_method_37_code, 4, some .int, 3, false)
def pc_66 : List Nat := [0, 22, 25, 49, 55]
def b_66_0 : List ab_I := [(.aload_n 0, [], 0), (.iload_n 1, [], 0), (.invokevirtual 85, [92, 2, 4], 0), (.ifCond .eq 17, [1], 0), (.iload_n 2, [], 0), (.invokestatic 89, [93, 1, 0], 0), (.ifCond .eq 10, [1], 0), (.iload_n 3, [], 0), (.invokestatic 92, [97, 1, 0], 0), (.ifCond .ne 6, [2], 0)]
def b_66_1 : List ab_I := [(.bipush (-2), [], 0), (.ireturn, [0], 0)]
def b_66_2 : List ab_I := [(.aload_n 0, [], 0), (.getfield 36, [4, 5], 0), (.aload_n 0, [], 0), (.getfield 32, [4, 4], 0), (.invokevirtual 182, [7, 2, 0], 0), (.iload_n 3, [], 0), (.ifCond .ne 12, [3], 0), (.aload_n 0, [], 0), (.iload_n 1, [], 0), (.iload_n 2, [], 0), (.invokevirtual 239, [67, 3, 4], 0), (.goto 9, [4], 0)]
def b_66_3 : List ab_I := [(.aload_n 0, [], 0), (.iload_n 1, [], 0), (.iload_n 2, [], 0), (.invokevirtual 242, [68, 3, 4], 0)]
def b_66_4 : List ab_I := [(.ireturn, [0], 0)]
def bk_66 : List (List ab_I) := [b_66_0, b_66_1, b_66_2, b_66_3, b_66_4]
-- 67: RelayRace.possiblePaces(II)I
def mr_67 : ab_M := (yX4_possiblePaces, prog_1_method_38_code, 5, some .int, 2, false)
def pc_67 : List Nat := [0, 5, 56, 62]
def b_67_0 : List ab_I := [(.iconst 0, [], 0), (.istore_n 3, [], 0), (.iconst 1, [], 0), (.istore 4, [], 0)]
def b_67_1 : List ab_I := [(.iload 4, [], 0), (.bipush 9, [], 0), (.if_icmp .gt 53, [3], 0), (.aload_n 0, [], 0), (.getfield 36, [4, 5], 0), (.getfield 98, [0, 1], 0), (.iload_n 1, [], 0), (.iconst 4, [], 0), (.imul, [], 0), (.iload_n 2, [], 0), (.iadd, [], 0), (.iload 4, [], 0), (.iastore, [], 0), (.aload_n 0, [], 0), (.getfield 36, [4, 5], 0), (.iload_n 1, [], 0), (.invokevirtual 194, [12, 2, 0], 0), (.aload_n 0, [], 0), (.getfield 36, [4, 5], 0), (.aload_n 0, [], 0), (.getfield 23, [4, 2], 0), (.invokevirtual 235, [22, 2, 0], 0), (.ifCond .eq 10, [2], 0), (.iload_n 3, [], 0), (.iconst 1, [], 0), (.iload 4, [], 0), (.ishl, [], 0), (.ior, [], 0), (.istore_n 3, [], 0)]
def b_67_2 : List ab_I := [(.iinc 4 1, [], 0), (.goto (-54), [1], 0)]
def b_67_3 : List ab_I := [(.iload_n 3, [], 0), (.ireturn, [0], 0)]
def bk_67 : List (List ab_I) := [b_67_0, b_67_1, b_67_2, b_67_3]
-- 68: RelayRace.possibleSorts(II)I
def mr_68 : ab_M := (yX4_possibleSorts, prog_1_method_39_code, 5, some .int, 2, false)
def pc_68 : List Nat := [0, 5, 55, 61]
def b_68_0 : List ab_I := [(.iconst 0, [], 0), (.istore_n 3, [], 0), (.iconst 0, [], 0), (.istore 4, [], 0)]
def b_68_1 : List ab_I := [(.iload 4, [], 0), (.iconst 3, [], 0), (.if_icmp .ge 53, [3], 0), (.aload_n 0, [], 0), (.getfield 36, [4, 5], 0), (.getfield 95, [0, 0], 0), (.iload_n 1, [], 0), (.iconst 4, [], 0), (.imul, [], 0), (.iload_n 2, [], 0), (.iadd, [], 0), (.iload 4, [], 0), (.iastore, [], 0), (.aload_n 0, [], 0), (.getfield 36, [4, 5], 0), (.iload_n 1, [], 0), (.invokevirtual 194, [12, 2, 0], 0), (.aload_n 0, [], 0), (.getfield 36, [4, 5], 0), (.aload_n 0, [], 0), (.getfield 23, [4, 2], 0), (.invokevirtual 235, [22, 2, 0], 0), (.ifCond .eq 10, [2], 0), (.iload_n 3, [], 0), (.iconst 1, [], 0), (.iload 4, [], 0), (.ishl, [], 0), (.ior, [], 0), (.istore_n 3, [], 0)]
def b_68_2 : List ab_I := [(.iinc 4 1, [], 0), (.goto (-53), [1], 0)]
def b_68_3 : List ab_I := [(.iload_n 3, [], 0), (.ireturn, [0], 0)]
def bk_68 : List (List ab_I) := [b_68_0, b_68_1, b_68_2, b_68_3]
-- 69: RelayRace.ask(II)I
def mr_69 : ab_M := (yX4_ask, prog_1_method_40_code, 5, some .int, 2, false)
def pc_69 : List Nat := [0, 15, 18, 39, 86, 92, 97, 121, 127]
def b_69_0 : List ab_I := [(.aload_n 0, [], 0), (.iload_n 1, [], 0), (.invokevirtual 85, [92, 2, 4], 0), (.ifCond .eq 10, [1], 0), (.iload_n 2, [], 0), (.invokestatic 89, [93, 1, 0], 0), (.ifCond .ne 6, [2], 0)]
def b_69_1 : List ab_I := [(.bipush (-2), [], 0), (.ireturn, [0], 0)]
def b_69_2 : List ab_I := [(.aload_n 0, [], 0), (.getfield 50, [4, 9], 0), (.iconst 0, [], 0), (.invokestatic 176, [4, 2, 0], 0), (.aload_n 0, [], 0), (.getfield 36, [4, 5], 0), (.aload_n 0, [], 0), (.getfield 32, [4, 4], 0), (.invokevirtual 182, [7, 2, 0], 0), (.iconst 1, [], 0), (.istore_n 3, [], 0)]
def b_69_3 : List ab_I := [(.iload_n 3, [], 0), (.bipush 9, [], 0), (.if_icmp .gt 50, [5], 0), (.aload_n 0, [], 0), (.getfield 36, [4, 5], 0), (.getfield 98, [0, 1], 0), (.iload_n 1, [], 0), (.iconst 4, [], 0), (.imul, [], 0), (.iload_n 2, [], 0), (.iadd, [], 0), (.iload_n 3, [], 0), (.iastore, [], 0), (.aload_n 0, [], 0), (.getfield 36, [4, 5], 0), (.iload_n 1, [], 0), (.invokevirtual 194, [12, 2, 0], 0), (.aload_n 0, [], 0), (.getfield 36, [4, 5], 0), (.aload_n 0, [], 0), (.getfield 23, [4, 2], 0), (.invokevirtual 235, [22, 2, 0], 0), (.ifCond .eq 8, [4], 0), (.aload_n 0, [], 0), (.iload_n 1, [], 0), (.invokevirtual 245, [70, 2, 4], 0)]
def b_69_4 : List ab_I := [(.iinc 3 1, [], 0), (.goto (-50), [3], 0)]
def b_69_5 : List ab_I := [(.iconst 0, [], 0), (.istore_n 3, [], 0), (.iconst 1, [], 0), (.istore 4, [], 0)]
def b_69_6 : List ab_I := [(.iload 4, [], 0), (.bipush 48, [], 0), (.if_icmp .ge 26, [8], 0), (.aload_n 0, [], 0), (.iload 4, [], 0), (.invokevirtual 248, [71, 2, 4], 0), (.aload_n 0, [], 0), (.iload_n 3, [], 0), (.invokevirtual 248, [71, 2, 4], 0), (.if_icmp .ge 6, [7], 0), (.iload 4, [], 0), (.istore_n 3, [], 0)]
def b_69_7 : List ab_I := [(.iinc 4 1, [], 0), (.goto (-27), [6], 0)]
def b_69_8 : List ab_I := [(.iload_n 3, [], 0), (.ireturn, [0], 0)]
def bk_69 : List (List ab_I) := [b_69_0, b_69_1, b_69_2, b_69_3, b_69_4, b_69_5, b_69_6, b_69_7, b_69_8]
-- 70: RelayRace.countRanks(I)V
def mr_70 : ab_M := (yX4_countRanks, prog_1_method_41_code, 3, none, 1, false)
def pc_70 : List Nat := [0, 2, 36]
def b_70_0 : List ab_I := [(.iconst 0, [], 0), (.istore_n 2, [], 0)]
def b_70_1 : List ab_I := [(.iload_n 2, [], 0), (.bipush 48, [], 0), (.if_icmp .ge 31, [2], 0), (.aload_n 0, [], 0), (.getfield 50, [4, 9], 0), (.iload_n 2, [], 0), (.iconst 4, [], 0), (.imul, [], 0), (.aload_n 0, [], 0), (.getfield 36, [4, 5], 0), (.iload_n 1, [], 0), (.iload_n 2, [], 0), (.invokevirtual 145, [19, 3, 0], 0), (.iadd, [], 0), (.dup2, [], 0), (.iaload, [], 0), (.iconst 1, [], 0), (.iadd, [], 0), (.iastore, [], 0), (.iinc 2 1, [], 0), (.goto (-31), [1], 0)]
def b_70_2 : List ab_I := [(.return_, [], 0)]
def bk_70 : List (List ab_I) := [b_70_0, b_70_1, b_70_2]
-- 71: RelayRace.mostAlike(I)I
def mr_71 : ab_M := (yX4_mostAlike, prog_1_method_42_code, 4, some .int, 1, false)
def pc_71 : List Nat := [0, 4, 30]
def b_71_0 : List ab_I := [(.iconst 0, [], 0), (.istore_n 2, [], 0), (.iconst 0, [], 0), (.istore_n 3, [], 0)]
def b_71_1 : List ab_I := [(.iload_n 3, [], 0), (.iconst 4, [], 0), (.if_icmp .ge 24, [2], 0), (.iload_n 2, [], 0), (.aload_n 0, [], 0), (.getfield 50, [4, 9], 0), (.iload_n 1, [], 0), (.iconst 4, [], 0), (.imul, [], 0), (.iload_n 3, [], 0), (.iadd, [], 0), (.iaload, [], 0), (.invokestatic 251, [1], 0), (.istore_n 2, [], 0), (.iinc 3 1, [], 0), (.goto (-23), [1], 0)]
def b_71_2 : List ab_I := [(.iload_n 2, [], 0), (.ireturn, [0], 0)]
def bk_71 : List (List ab_I) := [b_71_0, b_71_1, b_71_2]
-- 72: RelayRace.chance(III)J
def mr_72 : ab_M := (yX4_chance, prog_1_method_43_code, 7, some .long, 3, false)
def pc_72 : List Nat := [0, 25, 29, 39, 73, 79, 94, 95, 96, 116, 130]
def b_72_0 : List ab_I := [(.iload_n 1, [], 0), (.ifCond .lt 24, [1], 0), (.iload_n 1, [], 0), (.bipush 16, [], 0), (.if_icmp .gt 18, [1], 0), (.aload_n 0, [], 0), (.iload_n 2, [], 0), (.invokevirtual 85, [92, 2, 4], 0), (.ifCond .eq 10, [1], 0), (.iload_n 3, [], 0), (.invokestatic 92, [97, 1, 0], 0), (.ifCond .ne 7, [2], 0)]
def b_72_1 : List ab_I := [(.ldc2_w 254, [], (-9223372036854775806)), (.lreturn, [], 0)]
def b_72_2 : List ab_I := [(.aload_n 0, [], 0), (.invokevirtual 207, [59, 1, 4], 0), (.lconst 0, [], 0), (.lstore 4, [], 0), (.iconst 0, [], 0), (.istore 6, [], 0)]
def b_72_3 : List ab_I := [(.iload 6, [], 0), (.aload_n 0, [], 0), (.invokevirtual 125, [41, 1, 4], 0), (.if_icmp .gt 34, [5], 0), (.aload_n 0, [], 0), (.iload 6, [], 0), (.invokevirtual 210, [60, 2, 4], 0), (.iload_n 2, [], 0), (.if_icmp .ne 18, [4], 0), (.lload 4, [], 0), (.aload_n 0, [], 0), (.iload_n 1, [], 0), (.iload 6, [], 0), (.invokestatic 256, [0, 1, 0], 0), (.invokevirtual 261, [74, 3, 4], 0), (.ladd, [], 0), (.lstore 4, [], 0)]
def b_72_4 : List ab_I := [(.iinc 6 1, [], 0), (.goto (-37), [3], 0)]
def b_72_5 : List ab_I := [(.lload 4, [], 0), (.lconst 0, [], 0), (.lcmp, [], 0), (.ifCond .ne 13, [8], 0), (.iload_n 3, [], 0), (.ifCond .ne 7, [6], 0), (.lconst 0, [], 0), (.goto 4, [7], 0)]
def b_72_6 : List ab_I := [(.lconst 1, [], 0)]
def b_72_7 : List ab_I := [(.lreturn, [], 0)]
def b_72_8 : List ab_I := [(.aload_n 0, [], 0), (.lload 4, [], 0), (.invokevirtual 265, [73, 2, 4], 0), (.istore 6, [], 0), (.iload_n 3, [], 0), (.ifCond .ne 11, [9], 0), (.lload 4, [], 0), (.iload 6, [], 0), (.lshr, [], 0), (.goto 17, [10], 0)]
def b_72_9 : List ab_I := [(.lconst 1, [], 0), (.iconst 4, [], 0), (.aload_n 0, [], 0), (.getfield 19, [4, 1], 0), (.getfield 105, [3, 3], 0), (.imul, [], 0), (.iload 6, [], 0), (.isub, [], 0), (.lshl, [], 0)]
def b_72_10 : List ab_I := [(.lreturn, [], 0)]
def bk_72 : List (List ab_I) := [b_72_0, b_72_1, b_72_2, b_72_3, b_72_4, b_72_5, b_72_6, b_72_7, b_72_8, b_72_9, b_72_10]
-- 73: RelayRace.sharedTwos(J)I
def mr_73 : ab_M := (yX4_sharedTwos, prog_1_method_44_code, 4, some .int, 1, false)
def pc_73 : List Nat := [0, 2, 31]
def b_73_0 : List ab_I := [(.iconst 0, [], 0), (.istore_n 3, [], 0)]
def b_73_1 : List ab_I := [(.iload_n 3, [], 0), (.iconst 4, [], 0), (.aload_n 0, [], 0), (.getfield 19, [4, 1], 0), (.getfield 105, [3, 3], 0), (.imul, [], 0), (.if_icmp .ge 19, [2], 0), (.lload_n 1, [], 0), (.iload_n 3, [], 0), (.lshr, [], 0), (.lconst 1, [], 0), (.land, [], 0), (.lconst 0, [], 0), (.lcmp, [], 0), (.ifCond .ne 9, [2], 0), (.iinc 3 1, [], 0), (.goto (-26), [1], 0)]
def b_73_2 : List ab_I := [(.iload_n 3, [], 0), (.ireturn, [0], 0)]
def bk_73 : List (List ab_I) := [b_73_0, b_73_1, b_73_2]
-- 74: RelayRace.weight(II)J
def mr_74 : ab_M := (yX4_weight, prog_1_method_45_code, 6, some .long, 2, false)
def pc_74 : List Nat := [0, 5, 29, 34, 42]
def b_74_0 : List ab_I := [(.lconst 1, [], 0), (.lstore_n 3, [], 0), (.iconst 0, [], 0), (.istore 5, [], 0)]
def b_74_1 : List ab_I := [(.iload 5, [], 0), (.aload_n 0, [], 0), (.getfield 19, [4, 1], 0), (.getfield 105, [3, 3], 0), (.if_icmp .ge 28, [4], 0), (.lload_n 3, [], 0), (.iload 5, [], 0), (.iload_n 2, [], 0), (.if_icmp .ge 8, [2], 0), (.iload_n 1, [], 0), (.i2l, [], 0), (.goto 8, [3], 0)]
def b_74_2 : List ab_I := [(.bipush 16, [], 0), (.iload_n 1, [], 0), (.isub, [], 0), (.i2l, [], 0)]
def b_74_3 : List ab_I := [(.lmul, [], 0), (.lstore_n 3, [], 0), (.iinc 5 1, [], 0), (.goto (-34), [1], 0)]
def b_74_4 : List ab_I := [(.lload_n 3, [], 0), (.lreturn, [], 0)]
def bk_74 : List (List ab_I) := [b_74_0, b_74_1, b_74_2, b_74_3, b_74_4]
-- 75: RelayRace.years(III)I
def mr_75 : ab_M := (yX4_years, prog_1_method_46_code, 4, some .int, 3, false)
def pc_75 : List Nat := [0, 17, 20]
def b_75_0 : List ab_I := [(.iload_n 2, [], 0), (.ifCond .lt 16, [1], 0), (.iload_n 2, [], 0), (.bipush 8, [], 0), (.if_icmp .gt 10, [1], 0), (.iload_n 3, [], 0), (.invokestatic 92, [97, 1, 0], 0), (.ifCond .ne 6, [2], 0)]
def b_75_1 : List ab_I := [(.bipush (-2), [], 0), (.ireturn, [0], 0)]
def b_75_2 : List ab_I := [(.aload_n 0, [], 0), (.iload_n 1, [], 0), (.iload_n 2, [], 0), (.invokevirtual 269, [76, 3, 4], 0), (.aload_n 0, [], 0), (.getfield 36, [4, 5], 0), (.aload_n 0, [], 0), (.getfield 32, [4, 4], 0), (.invokevirtual 182, [7, 2, 0], 0), (.aload_n 0, [], 0), (.getfield 36, [4, 5], 0), (.aload_n 0, [], 0), (.getfield 59, [4, 11], 0), (.aload_n 0, [], 0), (.getfield 26, [4, 3], 0), (.iconst 1, [], 0), (.iload_n 2, [], 0), (.ishl, [], 0), (.iconst 1, [], 0), (.isub, [], 0), (.invokevirtual 128, [9, 4, 0], 0), (.aload_n 0, [], 0), (.getfield 36, [4, 5], 0), (.invokevirtual 132, [11, 1, 0], 0), (.aload_n 0, [], 0), (.getfield 36, [4, 5], 0), (.iload_n 3, [], 0), (.invokestatic 154, [46, 2, 0], 0), (.ireturn, [0], 0)]
def bk_75 : List (List ab_I) := [b_75_0, b_75_1, b_75_2]
-- 76: RelayRace.drawEvents(II)V
def mr_76 : ab_M := (yX4_drawEvents, prog_1_method_47_code, 7, none, 2, false)
def pc_76 : List Nat := [0, 13, 74]
def b_76_0 : List ab_I := [(.aload_n 0, [], 0), (.getfield 26, [4, 3], 0), (.iconst 0, [], 0), (.putfield 105, [3, 3, 0], 0), (.iload_n 1, [], 0), (.istore_n 3, [], 0), (.iconst 0, [], 0), (.istore 4, [], 0)]
def b_76_1 : List ab_I := [(.iload 4, [], 0), (.iload_n 2, [], 0), (.if_icmp .ge 58, [2], 0), (.iload_n 3, [], 0), (.invokestatic 273, [77, 1, 0], 0), (.istore_n 3, [], 0), (.iload_n 3, [], 0), (.bipush 16, [], 0), (.iushr, [], 0), (.iconst 3, [], 0), (.irem, [], 0), (.istore 5, [], 0), (.iload_n 3, [], 0), (.invokestatic 273, [77, 1, 0], 0), (.istore_n 3, [], 0), (.iload_n 3, [], 0), (.bipush 16, [], 0), (.iushr, [], 0), (.bipush 48, [], 0), (.irem, [], 0), (.istore 6, [], 0), (.iload_n 3, [], 0), (.invokestatic 273, [77, 1, 0], 0), (.istore_n 3, [], 0), (.aload_n 0, [], 0), (.getfield 26, [4, 3], 0), (.iload 5, [], 0), (.iload 6, [], 0), (.iload_n 3, [], 0), (.bipush 16, [], 0), (.iushr, [], 0), (.iconst 4, [], 0), (.irem, [], 0), (.invokevirtual 108, [30, 4, 3], 0), (.iinc 4 1, [], 0), (.goto (-58), [1], 0)]
def b_76_2 : List ab_I := [(.return_, [], 0)]
def bk_76 : List (List ab_I) := [b_76_0, b_76_1, b_76_2]
-- 77: RelayRace.nextSeed(I)I
def mr_77 : ab_M := (yX4_nextSeed, prog_1_method_48_code, 1, some .int, 1, true)
def pc_77 : List Nat := [0]
def b_77_0 : List ab_I := [(.ldc_w 276, [], 1103515245), (.iload_n 0, [], 0), (.imul, [], 0), (.sipush 12345, [], 0), (.iadd, [], 0), (.ireturn, [0], 0)]
def bk_77 : List (List ab_I) := [b_77_0]
-- 78: RelayRace.sheet(III)I
def mr_78 : ab_M := (yX4_sheet, prog_1_method_49_code, 4, some .int, 3, false)
def pc_78 : List Nat := [0, 20, 23, 33]
def b_78_0 : List ab_I := [(.iload_n 1, [], 0), (.invokestatic 111, [98, 1, 0], 0), (.ifCond .eq 16, [1], 0), (.iload_n 2, [], 0), (.invokestatic 277, [99, 1, 0], 0), (.ifCond .eq 9, [1], 0), (.iload_n 3, [], 0), (.bipush 60, [], 0), (.if_icmp .le 6, [2], 0)]
def b_78_1 : List ab_I := [(.bipush (-2), [], 0), (.ireturn, [0], 0)]
def b_78_2 : List ab_I := [(.iload_n 3, [], 0), (.ifCond .ge 9, [3], 0), (.aload_n 0, [], 0), (.iconst 5, [], 0), (.invokevirtual 117, [100, 2, 4], 0), (.ireturn, [0], 0)]
def b_78_3 : List ab_I := [(.aload_n 0, [], 0), (.getfield 55, [4, 10], 0), (.iload_n 1, [], 0), (.aaload, [], 0), (.iload_n 2, [], 0), (.iload_n 3, [], 0), (.invokevirtual 280, [23, 3, 1], 0), (.iload_n 3, [], 0), (.ireturn, [0], 0)]
def bk_78 : List (List ab_I) := [b_78_0, b_78_1, b_78_2, b_78_3]
-- 79: RelayRace.lose(I)I
def mr_79 : ab_M := (yX4_lose, prog_1_method_50_code, 2, some .int, 1, false)
def pc_79 : List Nat := [0, 10, 28]
def b_79_0 : List ab_I := [(.iload_n 1, [], 0), (.invokestatic 111, [98, 1, 0], 0), (.ifCond .ne 6, [1], 0), (.bipush (-2), [], 0), (.ireturn, [0], 0)]
def b_79_1 : List ab_I := [(.aload_n 0, [], 0), (.getfield 55, [4, 10], 0), (.iload_n 1, [], 0), (.aaload, [], 0), (.getfield 114, [1, 1], 0), (.ifCond .eq 9, [2], 0), (.aload_n 0, [], 0), (.iconst 1, [], 0), (.invokevirtual 117, [100, 2, 4], 0), (.ireturn, [0], 0)]
def b_79_2 : List ab_I := [(.aload_n 0, [], 0), (.getfield 55, [4, 10], 0), (.iload_n 1, [], 0), (.aaload, [], 0), (.iconst 1, [], 0), (.putfield 114, [1, 1, 1], 0), (.aload_n 0, [], 0), (.getfield 55, [4, 10], 0), (.iload_n 1, [], 0), (.aaload, [], 0), (.getfield 121, [1, 3], 0), (.ireturn, [0], 0)]
def bk_79 : List (List ab_I) := [b_79_0, b_79_1, b_79_2]
-- 80: RelayRace.put(IIII)I
def mr_80 : ab_M := (yX4_put, prog_1_method_51_code, 6, some .int, 4, false)
def pc_80 : List Nat := [0, 14, 17, 42]
def b_80_0 : List ab_I := [(.iload_n 1, [], 0), (.invokestatic 111, [98, 1, 0], 0), (.ifCond .eq 10, [1], 0), (.iload_n 2, [], 0), (.invokestatic 277, [99, 1, 0], 0), (.ifCond .ne 6, [2], 0)]
def b_80_1 : List ab_I := [(.bipush (-2), [], 0), (.ireturn, [0], 0)]
def b_80_2 : List ab_I := [(.aload_n 0, [], 0), (.getfield 55, [4, 10], 0), (.iload_n 1, [], 0), (.aaload, [], 0), (.iload_n 2, [], 0), (.iload_n 3, [], 0), (.invokestatic 283, [82, 3, 0], 0), (.istore 5, [], 0), (.iload 5, [], 0), (.ifCond .eq 10, [3], 0), (.aload_n 0, [], 0), (.iload 5, [], 0), (.invokevirtual 117, [100, 2, 4], 0), (.ireturn, [0], 0)]
def b_80_3 : List ab_I := [(.aload_n 0, [], 0), (.getfield 55, [4, 10], 0), (.iload_n 1, [], 0), (.aaload, [], 0), (.iload_n 3, [], 0), (.iload 4, [], 0), (.invokevirtual 287, [24, 3, 1], 0), (.iconst 1, [], 0), (.ireturn, [0], 0)]
def bk_80 : List (List ab_I) := [b_80_0, b_80_1, b_80_2, b_80_3]
-- 81: RelayRace.get(III)I
def mr_81 : ab_M := (yX4_get, prog_1_method_52_code, 5, some .int, 3, false)
def pc_81 : List Nat := [0, 14, 18, 46]
def b_81_0 : List ab_I := [(.iload_n 1, [], 0), (.invokestatic 111, [98, 1, 0], 0), (.ifCond .eq 10, [1], 0), (.iload_n 2, [], 0), (.invokestatic 277, [99, 1, 0], 0), (.ifCond .ne 7, [2], 0)]
def b_81_1 : List ab_I := [(.ldc_w 290, [], (-2147483648)), (.ireturn, [0], 0)]
def b_81_2 : List ab_I := [(.aload_n 0, [], 0), (.getfield 55, [4, 10], 0), (.iload_n 1, [], 0), (.aaload, [], 0), (.iload_n 2, [], 0), (.iload_n 3, [], 0), (.invokestatic 283, [82, 3, 0], 0), (.istore 4, [], 0), (.iload 4, [], 0), (.ifCond .eq 13, [3], 0), (.aload_n 0, [], 0), (.iload 4, [], 0), (.putfield 63, [4, 12, 0], 0), (.ldc_w 290, [], (-2147483648)), (.ireturn, [0], 0)]
def b_81_3 : List ab_I := [(.aload_n 0, [], 0), (.getfield 55, [4, 10], 0), (.iload_n 1, [], 0), (.aaload, [], 0), (.getfield 122, [1, 0], 0), (.iload_n 3, [], 0), (.iaload, [], 0), (.ireturn, [0], 0)]
def bk_81 : List (List ab_I) := [b_81_0, b_81_1, b_81_2, b_81_3]
-- 82: RelayRace.findingAt(LRelayRace$Sheet;II)I
def mr_82 : ab_M := (yX4_findingAt, prog_1_method_53_code, 3, some .int, 3, true)
def pc_82 : List Nat := [0, 9, 19, 31, 35, 36]
def b_82_0 : List ab_I := [(.aload_n 0, [], 0), (.getfield 114, [1, 1], 0), (.ifCond .eq 5, [1], 0), (.iconst 1, [], 0), (.ireturn, [0], 0)]
def b_82_1 : List ab_I := [(.aload_n 0, [], 0), (.getfield 291, [1, 2], 0), (.iload_n 1, [], 0), (.if_icmp .eq 5, [2], 0), (.iconst 3, [], 0), (.ireturn, [0], 0)]
def b_82_2 : List ab_I := [(.iload_n 2, [], 0), (.ifCond .lt 11, [3], 0), (.iload_n 2, [], 0), (.aload_n 0, [], 0), (.getfield 121, [1, 3], 0), (.if_icmp .lt 7, [4], 0)]
def b_82_3 : List ab_I := [(.iconst 2, [], 0), (.goto 4, [5], 0)]
def b_82_4 : List ab_I := [(.iconst 0, [], 0)]
def b_82_5 : List ab_I := [(.ireturn, [0], 0)]
def bk_82 : List (List ab_I) := [b_82_0, b_82_1, b_82_2, b_82_3, b_82_4, b_82_5]
-- 83: RelayRace.copy(IIIII)I
def mr_83 : ab_M := (yX4_copy, prog_1_method_54_code, 8, some .int, 5, false)
def pc_83 : List Nat := [0, 14, 17, 49, 55, 74, 97, 103]
def b_83_0 : List ab_I := [(.iload_n 1, [], 0), (.invokestatic 111, [98, 1, 0], 0), (.ifCond .eq 10, [1], 0), (.iload_n 3, [], 0), (.invokestatic 111, [98, 1, 0], 0), (.ifCond .ne 6, [2], 0)]
def b_83_1 : List ab_I := [(.bipush (-2), [], 0), (.ireturn, [0], 0)]
def b_83_2 : List ab_I := [(.aload_n 0, [], 0), (.getfield 55, [4, 10], 0), (.iload_n 1, [], 0), (.aaload, [], 0), (.astore 6, [], 0), (.aload_n 0, [], 0), (.getfield 55, [4, 10], 0), (.iload_n 3, [], 0), (.aaload, [], 0), (.astore 7, [], 0), (.aload 6, [], 0), (.getfield 114, [1, 1], 0), (.ifCond .ne 11, [3], 0), (.aload 7, [], 0), (.getfield 114, [1, 1], 0), (.ifCond .eq 9, [4], 0)]
def b_83_3 : List ab_I := [(.aload_n 0, [], 0), (.iconst 1, [], 0), (.invokevirtual 117, [100, 2, 4], 0), (.ireturn, [0], 0)]
def b_83_4 : List ab_I := [(.aload 6, [], 0), (.getfield 291, [1, 2], 0), (.aload 7, [], 0), (.getfield 291, [1, 2], 0), (.if_icmp .eq 9, [5], 0), (.aload_n 0, [], 0), (.iconst 4, [], 0), (.invokevirtual 117, [100, 2, 4], 0), (.ireturn, [0], 0)]
def b_83_5 : List ab_I := [(.aload 6, [], 0), (.iload_n 2, [], 0), (.iload 5, [], 0), (.invokevirtual 294, [25, 3, 1], 0), (.ifCond .eq 15, [6], 0), (.aload 7, [], 0), (.iload 4, [], 0), (.iload 5, [], 0), (.invokevirtual 294, [25, 3, 1], 0), (.ifCond .ne 9, [7], 0)]
def b_83_6 : List ab_I := [(.aload_n 0, [], 0), (.iconst 2, [], 0), (.invokevirtual 117, [100, 2, 4], 0), (.ireturn, [0], 0)]
def b_83_7 : List ab_I := [(.aload 6, [], 0), (.getfield 122, [1, 0], 0), (.iload_n 2, [], 0), (.aload 7, [], 0), (.getfield 122, [1, 0], 0), (.iload 4, [], 0), (.iload 5, [], 0), (.invokestatic 297, [], 0), (.iconst 1, [], 0), (.ireturn, [0], 0)]
def bk_83 : List (List ab_I) := [b_83_0, b_83_1, b_83_2, b_83_3, b_83_4, b_83_5, b_83_6, b_83_7]
-- 84: RelayRace.write(II)I
def mr_84 : ab_M := (yX4_write, prog_1_method_55_code, 6, some .int, 2, false)
def pc_84 : List Nat := [0, 15, 18, 38, 52, 81]
def b_84_0 : List ab_I := [(.aload_n 0, [], 0), (.iload_n 1, [], 0), (.invokevirtual 85, [92, 2, 4], 0), (.ifCond .eq 10, [1], 0), (.iload_n 2, [], 0), (.invokestatic 111, [98, 1, 0], 0), (.ifCond .ne 6, [2], 0)]
def b_84_1 : List ab_I := [(.bipush (-2), [], 0), (.ireturn, [0], 0)]
def b_84_2 : List ab_I := [(.aload_n 0, [], 0), (.getfield 55, [4, 10], 0), (.iload_n 2, [], 0), (.aaload, [], 0), (.astore_n 3, [], 0), (.aload_n 3, [], 0), (.getfield 114, [1, 1], 0), (.ifCond .eq 9, [3], 0), (.aload_n 0, [], 0), (.iconst 1, [], 0), (.invokevirtual 117, [100, 2, 4], 0), (.ireturn, [0], 0)]
def b_84_3 : List ab_I := [(.aload_n 3, [], 0), (.getfield 121, [1, 3], 0), (.bipush 48, [], 0), (.invokestatic 201, [2], 0), (.istore 4, [], 0), (.iconst 0, [], 0), (.istore 5, [], 0)]
def b_84_4 : List ab_I := [(.iload 5, [], 0), (.iload 4, [], 0), (.if_icmp .ge 25, [5], 0), (.aload_n 3, [], 0), (.iload 5, [], 0), (.aload_n 0, [], 0), (.getfield 32, [4, 4], 0), (.iload_n 1, [], 0), (.iload 5, [], 0), (.invokevirtual 138, [14, 3, 0], 0), (.invokevirtual 287, [24, 3, 1], 0), (.iinc 5 1, [], 0), (.goto (-26), [4], 0)]
def b_84_5 : List ab_I := [(.iload 4, [], 0), (.ireturn, [0], 0)]
def bk_84 : List (List ab_I) := [b_84_0, b_84_1, b_84_2, b_84_3, b_84_4, b_84_5]
-- 85: RelayRace.count(I)I
def mr_85 : ab_M := (yX4_count, prog_1_method_56_code, 2, some .int, 1, false)
def pc_85 : List Nat := [0, 52, 60, 68, 73, 81, 86, 91, 96, 104, 109]
def b_85_0 : List ab_I := [(.iload_n 1, [], 0), (.tableswitch 108 0 8 #[51, 59, 67, 72, 80, 85, 90, 95, 103], [10, 1, 2, 3, 4, 5, 6, 7, 8, 9], 0)]
def b_85_1 : List ab_I := [(.aload_n 0, [], 0), (.getfield 32, [4, 4], 0), (.getfield 164, [0, 5], 0), (.ireturn, [0], 0)]
def b_85_2 : List ab_I := [(.aload_n 0, [], 0), (.getfield 12, [4, 0], 0), (.getfield 67, [2, 1], 0), (.ireturn, [0], 0)]
def b_85_3 : List ab_I := [(.aload_n 0, [], 0), (.getfield 59, [4, 11], 0), (.ireturn, [0], 0)]
def b_85_4 : List ab_I := [(.aload_n 0, [], 0), (.getfield 19, [4, 1], 0), (.getfield 105, [3, 3], 0), (.ireturn, [0], 0)]
def b_85_5 : List ab_I := [(.aload_n 0, [], 0), (.invokevirtual 303, [86, 1, 4], 0), (.ireturn, [0], 0)]
def b_85_6 : List ab_I := [(.aload_n 0, [], 0), (.invokevirtual 306, [47, 1, 4], 0), (.ireturn, [0], 0)]
def b_85_7 : List ab_I := [(.aload_n 0, [], 0), (.invokevirtual 309, [87, 1, 4], 0), (.ireturn, [0], 0)]
def b_85_8 : List ab_I := [(.aload_n 0, [], 0), (.getfield 23, [4, 2], 0), (.getfield 105, [3, 3], 0), (.ireturn, [0], 0)]
def b_85_9 : List ab_I := [(.aload_n 0, [], 0), (.getfield 63, [4, 12], 0), (.ireturn, [0], 0)]
def b_85_10 : List ab_I := [(.bipush (-2), [], 0), (.ireturn, [0], 0)]
def bk_85 : List (List ab_I) := [b_85_0, b_85_1, b_85_2, b_85_3, b_85_4, b_85_5, b_85_6, b_85_7, b_85_8, b_85_9, b_85_10]
-- 86: RelayRace.teamsHome()I
def mr_86 : ab_M := (yX4_teamsHome, prog_1_method_57_code, 3, some .int, 0, false)
def pc_86 : List Nat := [0, 4, 30, 36]
def b_86_0 : List ab_I := [(.iconst 0, [], 0), (.istore_n 1, [], 0), (.iconst 0, [], 0), (.istore_n 2, [], 0)]
def b_86_1 : List ab_I := [(.iload_n 2, [], 0), (.aload_n 0, [], 0), (.getfield 32, [4, 4], 0), (.getfield 164, [0, 5], 0), (.if_icmp .ge 24, [3], 0), (.aload_n 0, [], 0), (.getfield 32, [4, 4], 0), (.iload_n 2, [], 0), (.invokevirtual 148, [15, 2, 0], 0), (.iconst (-1), [], 0), (.if_icmp .eq 6, [2], 0), (.iinc 1 1, [], 0)]
def b_86_2 : List ab_I := [(.iinc 2 1, [], 0), (.goto (-29), [1], 0)]
def b_86_3 : List ab_I := [(.iload_n 1, [], 0), (.ireturn, [0], 0)]
def bk_86 : List (List ab_I) := [b_86_0, b_86_1, b_86_2, b_86_3]
-- 87: RelayRace.metresTogether()I
def mr_87 : ab_M := (yX4_metresTogether, prog_1_method_58_code, 3, some .int, 0, false)
def pc_87 : List Nat := [0, 4, 34]
def b_87_0 : List ab_I := [(.iconst 0, [], 0), (.istore_n 1, [], 0), (.iconst 0, [], 0), (.istore_n 2, [], 0)]
def b_87_1 : List ab_I := [(.iload_n 2, [], 0), (.aload_n 0, [], 0), (.getfield 32, [4, 4], 0), (.getfield 164, [0, 5], 0), (.if_icmp .ge 22, [2], 0), (.iload_n 1, [], 0), (.aload_n 0, [], 0), (.getfield 32, [4, 4], 0), (.iload_n 2, [], 0), (.bipush 47, [], 0), (.invokevirtual 138, [14, 3, 0], 0), (.iadd, [], 0), (.istore_n 1, [], 0), (.iinc 2 1, [], 0), (.goto (-27), [1], 0)]
def b_87_2 : List ab_I := [(.iload_n 1, [], 0), (.ireturn, [0], 0)]
def bk_87 : List (List ab_I) := [b_87_0, b_87_1, b_87_2]
-- 88: RelayRace.digest()J
def mr_88 : ab_M := (yX4_digest, prog_1_method_59_code, 4, some .long, 0, false)
def pc_88 : List Nat := [0, 6, 31, 45, 83]
def b_88_0 : List ab_I := [(.ldc2_w 312, [], 17), (.lstore_n 1, [], 0), (.iconst 0, [], 0), (.istore_n 3, [], 0)]
def b_88_1 : List ab_I := [(.iload_n 3, [], 0), (.bipush 7, [], 0), (.if_icmp .gt 22, [2], 0), (.ldc2_w 314, [], 31), (.lload_n 1, [], 0), (.lmul, [], 0), (.aload_n 0, [], 0), (.iload_n 3, [], 0), (.invokevirtual 316, [85, 2, 4], 0), (.i2l, [], 0), (.ladd, [], 0), (.lstore_n 1, [], 0), (.iinc 3 1, [], 0), (.goto (-22), [1], 0)]
def b_88_2 : List ab_I := [(.ldc2_w 314, [], 31), (.lload_n 1, [], 0), (.lmul, [], 0), (.aload_n 0, [], 0), (.invokevirtual 319, [34, 1, 4], 0), (.i2l, [], 0), (.ladd, [], 0), (.lstore_n 1, [], 0), (.iconst 0, [], 0), (.istore_n 3, [], 0)]
def b_88_3 : List ab_I := [(.iload_n 3, [], 0), (.aload_n 0, [], 0), (.getfield 32, [4, 4], 0), (.getfield 164, [0, 5], 0), (.if_icmp .ge 30, [4], 0), (.aload_n 0, [], 0), (.lload_n 1, [], 0), (.iload_n 3, [], 0), (.invokevirtual 322, [89, 3, 4], 0), (.lstore_n 1, [], 0), (.aload_n 0, [], 0), (.lload_n 1, [], 0), (.iload_n 3, [], 0), (.invokevirtual 326, [90, 3, 4], 0), (.lstore_n 1, [], 0), (.aload_n 0, [], 0), (.lload_n 1, [], 0), (.iload_n 3, [], 0), (.invokevirtual 329, [91, 3, 4], 0), (.lstore_n 1, [], 0), (.iinc 3 1, [], 0), (.goto (-35), [3], 0)]
def b_88_4 : List ab_I := [(.ldc2_w 314, [], 31), (.lload_n 1, [], 0), (.lmul, [], 0), (.aload_n 0, [], 0), (.iconst 0, [], 0), (.invokevirtual 332, [45, 2, 4], 0), (.i2l, [], 0), (.ladd, [], 0), (.lstore_n 1, [], 0), (.ldc2_w 314, [], 31), (.lload_n 1, [], 0), (.lmul, [], 0), (.aload_n 0, [], 0), (.iconst 1, [], 0), (.invokevirtual 332, [45, 2, 4], 0), (.i2l, [], 0), (.ladd, [], 0), (.lstore_n 1, [], 0), (.ldc2_w 314, [], 31), (.lload_n 1, [], 0), (.lmul, [], 0), (.aload_n 0, [], 0), (.iconst 0, [], 0), (.invokevirtual 335, [48, 2, 4], 0), (.i2l, [], 0), (.ladd, [], 0), (.lstore_n 1, [], 0), (.ldc2_w 314, [], 31), (.lload_n 1, [], 0), (.lmul, [], 0), (.aload_n 0, [], 0), (.iconst 1, [], 0), (.invokevirtual 335, [48, 2, 4], 0), (.i2l, [], 0), (.ladd, [], 0), (.lstore_n 1, [], 0), (.ldc2_w 314, [], 31), (.lload_n 1, [], 0), (.lmul, [], 0), (.aload_n 0, [], 0), (.iconst (-1), [], 0), (.invokevirtual 338, [57, 2, 4], 0), (.i2l, [], 0), (.ladd, [], 0), (.lstore_n 1, [], 0), (.ldc2_w 314, [], 31), (.lload_n 1, [], 0), (.lmul, [], 0), (.aload_n 0, [], 0), (.iconst 0, [], 0), (.invokevirtual 338, [57, 2, 4], 0), (.i2l, [], 0), (.ladd, [], 0), (.lstore_n 1, [], 0), (.ldc2_w 314, [], 31), (.lload_n 1, [], 0), (.lmul, [], 0), (.aload_n 0, [], 0), (.invokevirtual 341, [65, 1, 4], 0), (.i2l, [], 0), (.ladd, [], 0), (.lstore_n 1, [], 0), (.ldc2_w 314, [], 31), (.lload_n 1, [], 0), (.lmul, [], 0), (.aload_n 0, [], 0), (.bipush 7, [], 0), (.bipush 6, [], 0), (.iconst 0, [], 0), (.invokevirtual 344, [75, 4, 4], 0), (.i2l, [], 0), (.ladd, [], 0), (.lstore_n 1, [], 0), (.ldc2_w 314, [], 31), (.lload_n 1, [], 0), (.lmul, [], 0), (.aload_n 0, [], 0), (.bipush 7, [], 0), (.bipush 6, [], 0), (.iconst 1, [], 0), (.invokevirtual 344, [75, 4, 4], 0), (.i2l, [], 0), (.ladd, [], 0), (.lreturn, [], 0)]
def bk_88 : List (List ab_I) := [b_88_0, b_88_1, b_88_2, b_88_3, b_88_4]
-- 89: RelayRace.digestMoments(JI)J
def mr_89 : ab_M := (yX4_digestMoments, prog_1_method_60_code, 11, some .long, 2, false)
def pc_89 : List Nat := [0, 16, 33, 64, 70]
def b_89_0 : List ab_I := [(.lload_n 1, [], 0), (.lstore 4, [], 0), (.getstatic 348, [], 0), (.astore 6, [], 0), (.aload 6, [], 0), (.arraylength, [], 0), (.istore 7, [], 0), (.iconst 0, [], 0), (.istore 8, [], 0)]
def b_89_1 : List ab_I := [(.iload 8, [], 0), (.iload 7, [], 0), (.if_icmp .ge 50, [4], 0), (.aload 6, [], 0), (.iload 8, [], 0), (.iaload, [], 0), (.istore 9, [], 0), (.iconst 0, [], 0), (.istore 10, [], 0)]
def b_89_2 : List ab_I := [(.iload 10, [], 0), (.iconst 2, [], 0), (.if_icmp .gt 28, [3], 0), (.ldc2_w 314, [], 31), (.lload 4, [], 0), (.lmul, [], 0), (.aload_n 0, [], 0), (.iload 9, [], 0), (.iload_n 3, [], 0), (.iload 10, [], 0), (.invokevirtual 351, [42, 4, 4], 0), (.i2l, [], 0), (.ladd, [], 0), (.lstore 4, [], 0), (.iinc 10 1, [], 0), (.goto (-28), [2], 0)]
def b_89_3 : List ab_I := [(.iinc 8 1, [], 0), (.goto (-51), [1], 0)]
def b_89_4 : List ab_I := [(.lload 4, [], 0), (.lreturn, [], 0)]
def bk_89 : List (List ab_I) := [b_89_0, b_89_1, b_89_2, b_89_3, b_89_4]
-- 90: RelayRace.digestLegs(JI)J
def mr_90 : ab_M := (yX4_digestLegs, prog_1_method_61_code, 7, some .long, 2, false)
def pc_90 : List Nat := [0, 6, 124]
def b_90_0 : List ab_I := [(.lload_n 1, [], 0), (.lstore 4, [], 0), (.iconst 0, [], 0), (.istore 6, [], 0)]
def b_90_1 : List ab_I := [(.iload 6, [], 0), (.iconst 4, [], 0), (.if_icmp .ge 115, [2], 0), (.ldc2_w 314, [], 31), (.lload 4, [], 0), (.lmul, [], 0), (.aload_n 0, [], 0), (.iload_n 3, [], 0), (.iload 6, [], 0), (.iconst 0, [], 0), (.invokevirtual 354, [35, 4, 4], 0), (.i2l, [], 0), (.ladd, [], 0), (.lstore 4, [], 0), (.ldc2_w 314, [], 31), (.lload 4, [], 0), (.lmul, [], 0), (.aload_n 0, [], 0), (.iload_n 3, [], 0), (.iload 6, [], 0), (.iconst 1, [], 0), (.invokevirtual 354, [35, 4, 4], 0), (.i2l, [], 0), (.ladd, [], 0), (.lstore 4, [], 0), (.ldc2_w 314, [], 31), (.lload 4, [], 0), (.lmul, [], 0), (.aload_n 0, [], 0), (.iload_n 3, [], 0), (.iload 6, [], 0), (.invokevirtual 357, [44, 3, 4], 0), (.i2l, [], 0), (.ladd, [], 0), (.lstore 4, [], 0), (.ldc2_w 314, [], 31), (.lload 4, [], 0), (.lmul, [], 0), (.aload_n 0, [], 0), (.iload_n 3, [], 0), (.iload 6, [], 0), (.iconst 0, [], 0), (.invokevirtual 360, [66, 4, 4], 0), (.i2l, [], 0), (.ladd, [], 0), (.lstore 4, [], 0), (.ldc2_w 314, [], 31), (.lload 4, [], 0), (.lmul, [], 0), (.aload_n 0, [], 0), (.iload_n 3, [], 0), (.iload 6, [], 0), (.iconst 1, [], 0), (.invokevirtual 360, [66, 4, 4], 0), (.i2l, [], 0), (.ladd, [], 0), (.lstore 4, [], 0), (.ldc2_w 314, [], 31), (.lload 4, [], 0), (.lmul, [], 0), (.aload_n 0, [], 0), (.iload_n 3, [], 0), (.iload 6, [], 0), (.invokevirtual 363, [69, 3, 4], 0), (.i2l, [], 0), (.ladd, [], 0), (.lstore 4, [], 0), (.iinc 6 1, [], 0), (.goto (-115), [1], 0)]
def b_90_2 : List ab_I := [(.lload 4, [], 0), (.lreturn, [], 0)]
def bk_90 : List (List ab_I) := [b_90_0, b_90_1, b_90_2]
-- 91: RelayRace.digestPlans(JI)J
def mr_91 : ab_M := (yX4_digestPlans, prog_1_method_62_code, 7, some .long, 2, false)
def pc_91 : List Nat := [0, 41, 70]
def b_91_0 : List ab_I := [(.lload_n 1, [], 0), (.lstore 4, [], 0), (.ldc2_w 314, [], 31), (.lload 4, [], 0), (.lmul, [], 0), (.aload_n 0, [], 0), (.iload_n 3, [], 0), (.invokevirtual 366, [43, 2, 4], 0), (.i2l, [], 0), (.ladd, [], 0), (.lstore 4, [], 0), (.ldc2_w 314, [], 31), (.lload 4, [], 0), (.lmul, [], 0), (.aload_n 0, [], 0), (.iload_n 3, [], 0), (.invokevirtual 369, [50, 2, 4], 0), (.i2l, [], 0), (.ladd, [], 0), (.lstore 4, [], 0), (.aload_n 0, [], 0), (.iload_n 3, [], 0), (.invokevirtual 173, [52, 2, 4], 0), (.iconst 0, [], 0), (.istore 6, [], 0)]
def b_91_1 : List ab_I := [(.iload 6, [], 0), (.iconst 4, [], 0), (.if_icmp .gt 26, [2], 0), (.ldc2_w 314, [], 31), (.lload 4, [], 0), (.lmul, [], 0), (.aload_n 0, [], 0), (.getfield 47, [4, 8], 0), (.iload 6, [], 0), (.iaload, [], 0), (.i2l, [], 0), (.ladd, [], 0), (.lstore 4, [], 0), (.iinc 6 1, [], 0), (.goto (-26), [1], 0)]
def b_91_2 : List ab_I := [(.ldc2_w 314, [], 31), (.lload 4, [], 0), (.lmul, [], 0), (.aload_n 0, [], 0), (.iload_n 3, [], 0), (.iconst 0, [], 0), (.invokevirtual 372, [54, 3, 4], 0), (.i2l, [], 0), (.ladd, [], 0), (.lstore 4, [], 0), (.ldc2_w 314, [], 31), (.lload 4, [], 0), (.lmul, [], 0), (.aload_n 0, [], 0), (.iload_n 3, [], 0), (.iconst 1, [], 0), (.invokevirtual 372, [54, 3, 4], 0), (.i2l, [], 0), (.ladd, [], 0), (.lstore 4, [], 0), (.ldc2_w 314, [], 31), (.lload 4, [], 0), (.lmul, [], 0), (.aload_n 0, [], 0), (.iload_n 3, [], 0), (.invokevirtual 375, [56, 2, 4], 0), (.i2l, [], 0), (.ladd, [], 0), (.lstore 4, [], 0), (.ldc2_w 314, [], 31), (.lload 4, [], 0), (.lmul, [], 0), (.aload_n 0, [], 0), (.iconst 5, [], 0), (.iload_n 3, [], 0), (.iconst 0, [], 0), (.invokevirtual 378, [72, 4, 4], 0), (.ladd, [], 0), (.lstore 4, [], 0), (.ldc2_w 314, [], 31), (.lload 4, [], 0), (.lmul, [], 0), (.aload_n 0, [], 0), (.iconst 5, [], 0), (.iload_n 3, [], 0), (.iconst 1, [], 0), (.invokevirtual 378, [72, 4, 4], 0), (.ladd, [], 0), (.lreturn, [], 0)]
def bk_91 : List (List ab_I) := [b_91_0, b_91_1, b_91_2]
-- 92: RelayRace.isTeam(I)Z
def mr_92 : ab_M := (yX4_isTeam, prog_1_method_63_code, 2, some .boolean, 1, false)
def pc_92 : List Nat := [0, 19, 20]
def b_92_0 : List ab_I := [(.iload_n 1, [], 0), (.ifCond .lt 18, [1], 0), (.iload_n 1, [], 0), (.aload_n 0, [], 0), (.getfield 32, [4, 4], 0), (.getfield 164, [0, 5], 0), (.if_icmp .ge 7, [1], 0), (.iconst 1, [], 0), (.goto 4, [2], 0)]
def b_92_1 : List ab_I := [(.iconst 0, [], 0)]
def b_92_2 : List ab_I := [(.ireturn, [1], 0)]
def bk_92 : List (List ab_I) := [b_92_0, b_92_1, b_92_2]
-- 93: RelayRace.isLeg(I)Z
def mr_93 : ab_M := (yX4_isLeg, prog_1_method_64_code, 1, some .boolean, 1, true)
def pc_93 : List Nat := [0, 13, 14]
def b_93_0 : List ab_I := [(.iload_n 0, [], 0), (.ifCond .lt 12, [1], 0), (.iload_n 0, [], 0), (.iconst 4, [], 0), (.if_icmp .ge 7, [1], 0), (.iconst 1, [], 0), (.goto 4, [2], 0)]
def b_93_1 : List ab_I := [(.iconst 0, [], 0)]
def b_93_2 : List ab_I := [(.ireturn, [1], 0)]
def bk_93 : List (List ab_I) := [b_93_0, b_93_1, b_93_2]
-- 94: RelayRace.isMoment(I)Z
def mr_94 : ab_M := (yX4_isMoment, prog_1_method_65_code, 1, some .boolean, 1, true)
def pc_94 : List Nat := [0, 14, 15]
def b_94_0 : List ab_I := [(.iload_n 0, [], 0), (.ifCond .lt 13, [1], 0), (.iload_n 0, [], 0), (.bipush 48, [], 0), (.if_icmp .ge 7, [1], 0), (.iconst 1, [], 0), (.goto 4, [2], 0)]
def b_94_1 : List ab_I := [(.iconst 0, [], 0)]
def b_94_2 : List ab_I := [(.ireturn, [1], 0)]
def bk_94 : List (List ab_I) := [b_94_0, b_94_1, b_94_2]
-- 95: RelayRace.isNumber(I)Z
def mr_95 : ab_M := (yX4_isNumber, prog_1_method_66_code, 1, some .boolean, 1, true)
def pc_95 : List Nat := [0, 13, 14]
def b_95_0 : List ab_I := [(.iload_n 0, [], 0), (.ifCond .lt 12, [1], 0), (.iload_n 0, [], 0), (.iconst 4, [], 0), (.if_icmp .ge 7, [1], 0), (.iconst 1, [], 0), (.goto 4, [2], 0)]
def b_95_1 : List ab_I := [(.iconst 0, [], 0)]
def b_95_2 : List ab_I := [(.ireturn, [1], 0)]
def bk_95 : List (List ab_I) := [b_95_0, b_95_1, b_95_2]
-- 96: RelayRace.isEvent(III)Z
def mr_96 : ab_M := (yX4_isEvent, prog_1_method_67_code, 3, some .boolean, 3, true)
def pc_96 : List Nat := [0, 27, 28]
def b_96_0 : List ab_I := [(.iload_n 0, [], 0), (.ifCond .lt 26, [1], 0), (.iload_n 0, [], 0), (.iconst 2, [], 0), (.if_icmp .gt 21, [1], 0), (.iload_n 1, [], 0), (.invokestatic 135, [94, 1, 0], 0), (.ifCond .eq 14, [1], 0), (.iload_n 2, [], 0), (.invokestatic 232, [95, 1, 0], 0), (.ifCond .eq 7, [1], 0), (.iconst 1, [], 0), (.goto 4, [2], 0)]
def b_96_1 : List ab_I := [(.iconst 0, [], 0)]
def b_96_2 : List ab_I := [(.ireturn, [1], 0)]
def bk_96 : List (List ab_I) := [b_96_0, b_96_1, b_96_2]
-- 97: RelayRace.isEither(I)Z
def mr_97 : ab_M := (yX4_isEither, prog_1_method_68_code, 1, some .boolean, 1, true)
def pc_97 : List Nat := [0, 9, 13, 14]
def b_97_0 : List ab_I := [(.iload_n 0, [], 0), (.ifCond .eq 8, [1], 0), (.iload_n 0, [], 0), (.iconst 1, [], 0), (.if_icmp .ne 7, [2], 0)]
def b_97_1 : List ab_I := [(.iconst 1, [], 0), (.goto 4, [3], 0)]
def b_97_2 : List ab_I := [(.iconst 0, [], 0)]
def b_97_3 : List ab_I := [(.ireturn, [1], 0)]
def bk_97 : List (List ab_I) := [b_97_0, b_97_1, b_97_2, b_97_3]
-- 98: RelayRace.isSheet(I)Z
def mr_98 : ab_M := (yX4_isSheet, prog_1_method_69_code, 1, some .boolean, 1, true)
def pc_98 : List Nat := [0, 13, 14]
def b_98_0 : List ab_I := [(.iload_n 0, [], 0), (.ifCond .lt 12, [1], 0), (.iload_n 0, [], 0), (.iconst 4, [], 0), (.if_icmp .ge 7, [1], 0), (.iconst 1, [], 0), (.goto 4, [2], 0)]
def b_98_1 : List ab_I := [(.iconst 0, [], 0)]
def b_98_2 : List ab_I := [(.ireturn, [1], 0)]
def bk_98 : List (List ab_I) := [b_98_0, b_98_1, b_98_2]
-- 99: RelayRace.isForm(I)Z
def mr_99 : ab_M := (yX4_isForm, prog_1_method_70_code, 1, some .boolean, 1, true)
def pc_99 : List Nat := [0, 13, 14]
def b_99_0 : List ab_I := [(.iload_n 0, [], 0), (.ifCond .lt 12, [1], 0), (.iload_n 0, [], 0), (.iconst 3, [], 0), (.if_icmp .ge 7, [1], 0), (.iconst 1, [], 0), (.goto 4, [2], 0)]
def b_99_1 : List ab_I := [(.iconst 0, [], 0)]
def b_99_2 : List ab_I := [(.ireturn, [1], 0)]
def bk_99 : List (List ab_I) := [b_99_0, b_99_1, b_99_2]
-- 100: RelayRace.found(I)I
def mr_100 : ab_M := (yX4_found, prog_1_method_71_code, 2, some .int, 1, false)
def pc_100 : List Nat := [0]
def b_100_0 : List ab_I := [(.aload_n 0, [], 0), (.iload_n 1, [], 0), (.putfield 63, [4, 12, 0], 0), (.bipush (-10), [], 0), (.iload_n 1, [], 0), (.isub, [], 0), (.ireturn, [0], 0)]
def bk_100 : List (List ab_I) := [b_100_0]
-- 101: RelayRaceModel.in(III)Z
def mr_101 : ab_M := (yX5_in, prog_7_method_3_code, 3, some .boolean, 3, true)
def pc_101 : List Nat := [0, 14, 15]
def b_101_0 : List ab_I := [(.iload_n 0, [], 0), (.iload_n 1, [], 0), (.if_icmp .lt 12, [1], 0), (.iload_n 0, [], 0), (.iload_n 2, [], 0), (.if_icmp .gt 7, [1], 0), (.iconst 1, [], 0), (.goto 4, [2], 0)]
def b_101_1 : List ab_I := [(.iconst 0, [], 0)]
def b_101_2 : List ab_I := [(.ireturn, [1], 0)]
def bk_101 : List (List ab_I) := [b_101_0, b_101_1, b_101_2]
-- 102: RelayRaceModel.isIn(II)Z
def mr_102 : ab_M := (yX5_isIn, prog_7_method_4_code, 2, some .boolean, 2, true)
def pc_102 : List Nat := [0, 13, 14]
def b_102_0 : List ab_I := [(.iload_n 0, [], 0), (.iload_n 1, [], 0), (.ishr, [], 0), (.iconst 1, [], 0), (.iand, [], 0), (.iconst 1, [], 0), (.if_icmp .ne 7, [1], 0), (.iconst 1, [], 0), (.goto 4, [2], 0)]
def b_102_1 : List ab_I := [(.iconst 0, [], 0)]
def b_102_2 : List ab_I := [(.ireturn, [1], 0)]
def bk_102 : List (List ab_I) := [b_102_0, b_102_1, b_102_2]
-- 103: RelayRaceModel.no(I)J
def mr_103 : ab_M := (yX5_no, prog_7_method_5_code, 1, some .long, 1, true)
def pc_103 : List Nat := [0]
def b_103_0 : List ab_I := [(.ldc2_w 102, [], (-9223372036854775808)), (.iload_n 0, [], 0), (.i2l, [], 0), (.lsub, [], 0), (.lreturn, [], 0)]
def bk_103 : List (List ab_I) := [b_103_0]
-- 104: RelayRaceModel.lowest(JJI)J
def mr_104 : ab_M := (yX5_lowest, prog_7_method_6_code, 11, some .long, 3, true)
def pc_104 : List Nat := [0, 6, 31, 43, 47]
def b_104_0 : List ab_I := [(.lload_n 0, [], 0), (.lstore 5, [], 0), (.lload_n 2, [], 0), (.lstore 7, [], 0)]
def b_104_1 : List ab_I := [(.lload 7, [], 0), (.lconst 0, [], 0), (.lcmp, [], 0), (.ifCond .eq 21, [2], 0), (.lload 5, [], 0), (.lload 7, [], 0), (.lrem, [], 0), (.lstore 9, [], 0), (.lload 7, [], 0), (.lstore 5, [], 0), (.lload 9, [], 0), (.lstore 7, [], 0), (.goto (-22), [1], 0)]
def b_104_2 : List ab_I := [(.iload 4, [], 0), (.ifCond .ne 10, [3], 0), (.lload_n 0, [], 0), (.lload 5, [], 0), (.ldiv, [], 0), (.goto 7, [4], 0)]
def b_104_3 : List ab_I := [(.lload_n 2, [], 0), (.lload 5, [], 0), (.ldiv, [], 0)]
def b_104_4 : List ab_I := [(.lreturn, [], 0)]
def bk_104 : List (List ab_I) := [b_104_0, b_104_1, b_104_2, b_104_3, b_104_4]
-- 105: RelayRaceModel.isMoment(I)Z
def mr_105 : ab_M := (yX5_isMoment, prog_7_method_7_code, 1, some .boolean, 1, true)
def pc_105 : List Nat := [0]
def b_105_0 : List ab_I := [(.iload_n 0, [], 0), (.iconst 0, [], 0), (.bipush 47, [], 0), (.invokestatic 104, [101, 3, 0], 0), (.ireturn, [1], 0)]
def bk_105 : List (List ab_I) := [b_105_0]
-- 106: RelayRaceModel.isFour(I)Z
def mr_106 : ab_M := (yX5_isFour, prog_7_method_8_code, 1, some .boolean, 1, true)
def pc_106 : List Nat := [0]
def b_106_0 : List ab_I := [(.iload_n 0, [], 0), (.iconst 0, [], 0), (.iconst 3, [], 0), (.invokestatic 104, [101, 3, 0], 0), (.ireturn, [1], 0)]
def bk_106 : List (List ab_I) := [b_106_0]
-- 107: RelayRaceModel.isTwo(I)Z
def mr_107 : ab_M := (yX5_isTwo, prog_7_method_9_code, 1, some .boolean, 1, true)
def pc_107 : List Nat := [0]
def b_107_0 : List ab_I := [(.iload_n 0, [], 0), (.iconst 0, [], 0), (.iconst 1, [], 0), (.invokestatic 104, [101, 3, 0], 0), (.ireturn, [1], 0)]
def bk_107 : List (List ab_I) := [b_107_0]
-- 108: RelayRaceModel.isThree(I)Z
def mr_108 : ab_M := (yX5_isThree, prog_7_method_10_code, 1, some .boolean, 1, true)
def pc_108 : List Nat := [0]
def b_108_0 : List ab_I := [(.iload_n 0, [], 0), (.iconst 0, [], 0), (.iconst 2, [], 0), (.invokestatic 104, [101, 3, 0], 0), (.ireturn, [1], 0)]
def bk_108 : List (List ab_I) := [b_108_0]
-- 109: RelayRaceModel.type(I)I
def mr_109 : ab_M := (yX5_type, prog_7_method_11_code, 2, some .int, 1, false)
def pc_109 : List Nat := [0, 14, 26]
def b_109_0 : List ab_I := [(.iload_n 1, [], 0), (.iconst 0, [], 0), (.sipush 255, [], 0), (.invokestatic 104, [101, 3, 0], 0), (.ifCond .ne 6, [1], 0), (.bipush (-2), [], 0), (.ireturn, [0], 0)]
def b_109_1 : List ab_I := [(.aload_n 0, [], 0), (.getfield 108, [5, 0], 0), (.bipush 35, [], 0), (.if_icmp .ne 6, [2], 0), (.bipush (-4), [], 0), (.ireturn, [0], 0)]
def b_109_2 : List ab_I := [(.aload_n 0, [], 0), (.getfield 7, [5, 1], 0), (.aload_n 0, [], 0), (.getfield 108, [5, 0], 0), (.iload_n 1, [], 0), (.iastore, [], 0), (.aload_n 0, [], 0), (.dup, [], 0), (.getfield 108, [5, 0], 0), (.iconst 1, [], 0), (.iadd, [], 0), (.putfield 108, [5, 0, 0], 0), (.aload_n 0, [], 0), (.getfield 108, [5, 0], 0), (.ireturn, [0], 0)]
def bk_109 : List (List ab_I) := [b_109_0, b_109_1, b_109_2]
-- 110: RelayRaceModel.wipe()I
def mr_110 : ab_M := (yX5_wipe, prog_7_method_12_code, 2, some .int, 0, false)
def pc_110 : List Nat := [0]
def b_110_0 : List ab_I := [(.aload_n 0, [], 0), (.getfield 108, [5, 0], 0), (.istore_n 1, [], 0), (.aload_n 0, [], 0), (.iconst 0, [], 0), (.putfield 108, [5, 0, 0], 0), (.iload_n 1, [], 0), (.ireturn, [0], 0)]
def bk_110 : List (List ab_I) := [b_110_0]
-- 111: RelayRaceModel.undo()I
def mr_111 : ab_M := (yX5_undo, prog_7_method_13_code, 1, some .int, 0, false)
def pc_111 : List Nat := [0, 10]
def b_111_0 : List ab_I := [(.aload_n 0, [], 0), (.getfield 108, [5, 0], 0), (.ifCond .ne 6, [1], 0), (.bipush (-3), [], 0), (.ireturn, [0], 0)]
def b_111_1 : List ab_I := [(.aload_n 0, [], 0), (.dup, [], 0), (.getfield 108, [5, 0], 0), (.iconst 1, [], 0), (.isub, [], 0), (.putfield 108, [5, 0, 0], 0), (.aload_n 0, [], 0), (.getfield 108, [5, 0], 0), (.ireturn, [0], 0)]
def bk_111 : List (List ab_I) := [b_111_0, b_111_1]
-- 112: RelayRaceModel.byteAt(I)I
def mr_112 : ab_M := (yX5_byteAt, prog_7_method_14_code, 2, some .int, 1, false)
def pc_112 : List Nat := [0, 17, 18]
def b_112_0 : List ab_I := [(.iload_n 1, [], 0), (.aload_n 0, [], 0), (.getfield 108, [5, 0], 0), (.if_icmp .ge 12, [1], 0), (.aload_n 0, [], 0), (.getfield 7, [5, 1], 0), (.iload_n 1, [], 0), (.iaload, [], 0), (.goto 4, [2], 0)]
def b_112_1 : List ab_I := [(.iconst (-1), [], 0)]
def b_112_2 : List ab_I := [(.ireturn, [0], 0)]
def bk_112 : List (List ab_I) := [b_112_0, b_112_1, b_112_2]
-- 113: RelayRaceModel.readsRunner(II)I
def mr_113 : ab_M := (yX5_readsRunner, prog_7_method_15_code, 6, some .int, 2, false)
def pc_113 : List Nat := [0, 16, 26, 36, 37, 63, 65, 78]
def b_113_0 : List ab_I := [(.aload_n 0, [], 0), (.iload_n 2, [], 0), (.invokevirtual 111, [112, 2, 5], 0), (.istore_n 3, [], 0), (.iload_n 3, [], 0), (.bipush 115, [], 0), (.if_icmp .ne 7, [1], 0), (.iconst 0, [], 0), (.goto 24, [4], 0)]
def b_113_1 : List ab_I := [(.iload_n 3, [], 0), (.bipush 100, [], 0), (.if_icmp .ne 7, [2], 0), (.iconst 1, [], 0), (.goto 14, [4], 0)]
def b_113_2 : List ab_I := [(.iload_n 3, [], 0), (.bipush 110, [], 0), (.if_icmp .ne 7, [3], 0), (.iconst 2, [], 0), (.goto 4, [4], 0)]
def b_113_3 : List ab_I := [(.iconst (-1), [], 0)]
def b_113_4 : List ab_I := [(.istore 4, [], 0), (.aload_n 0, [], 0), (.iload_n 2, [], 0), (.iconst 1, [], 0), (.iadd, [], 0), (.invokevirtual 111, [112, 2, 5], 0), (.bipush 48, [], 0), (.isub, [], 0), (.istore 5, [], 0), (.iload_n 1, [], 0), (.bipush 16, [], 0), (.if_icmp .ge 9, [5], 0), (.iload 4, [], 0), (.iconst (-1), [], 0), (.if_icmp .ne 5, [6], 0)]
def b_113_5 : List ab_I := [(.iconst 0, [], 0), (.ireturn, [0], 0)]
def b_113_6 : List ab_I := [(.iload 5, [], 0), (.iconst 1, [], 0), (.bipush 9, [], 0), (.invokestatic 104, [101, 3, 0], 0), (.ifCond .ne 5, [7], 0), (.iconst 1, [], 0), (.ireturn, [0], 0)]
def b_113_7 : List ab_I := [(.aload_n 0, [], 0), (.getfield 13, [5, 3], 0), (.iload_n 1, [], 0), (.iload 4, [], 0), (.iastore, [], 0), (.aload_n 0, [], 0), (.getfield 16, [5, 4], 0), (.iload_n 1, [], 0), (.iload 5, [], 0), (.iastore, [], 0), (.iconst 2, [], 0), (.ireturn, [0], 0)]
def bk_113 : List (List ab_I) := [b_113_0, b_113_1, b_113_2, b_113_3, b_113_4, b_113_5, b_113_6, b_113_7]
-- 114: RelayRaceModel.readsTeam(II)I
def mr_114 : ab_M := (yX5_readsTeam, prog_7_method_16_code, 5, some .int, 2, false)
def pc_114 : List Nat := [0, 2, 36, 42]
def b_114_0 : List ab_I := [(.iconst 0, [], 0), (.istore_n 3, [], 0)]
def b_114_1 : List ab_I := [(.iload_n 3, [], 0), (.iconst 4, [], 0), (.if_icmp .ge 38, [3], 0), (.aload_n 0, [], 0), (.iconst 4, [], 0), (.iload_n 1, [], 0), (.imul, [], 0), (.iload_n 3, [], 0), (.iadd, [], 0), (.iload_n 2, [], 0), (.iconst 2, [], 0), (.iload_n 3, [], 0), (.imul, [], 0), (.iadd, [], 0), (.invokevirtual 115, [113, 3, 5], 0), (.istore 4, [], 0), (.iload 4, [], 0), (.iconst 2, [], 0), (.if_icmp .ge 10, [2], 0), (.iconst 2, [], 0), (.iload_n 3, [], 0), (.imul, [], 0), (.iload 4, [], 0), (.iadd, [], 0), (.ireturn, [0], 0)]
def b_114_2 : List ab_I := [(.iinc 3 1, [], 0), (.goto (-37), [1], 0)]
def b_114_3 : List ab_I := [(.bipush 8, [], 0), (.ireturn, [0], 0)]
def bk_114 : List (List ab_I) := [b_114_0, b_114_1, b_114_2, b_114_3]
-- 115: RelayRaceModel.faultOf()I
def mr_115 : ab_M := (yX5_faultOf, prog_7_method_17_code, 4, some .int, 0, false)
def pc_115 : List Nat := [0, 9, 21, 38, 59, 71, 77]
def b_115_0 : List ab_I := [(.iconst 0, [], 0), (.istore_n 1, [], 0), (.iconst 0, [], 0), (.istore_n 2, [], 0), (.aload_n 0, [], 0), (.iconst 0, [], 0), (.putfield 119, [5, 2, 0], 0)]
def b_115_1 : List ab_I := [(.iload_n 2, [], 0), (.aload_n 0, [], 0), (.getfield 108, [5, 0], 0), (.if_icmp .lt 7, [2], 0), (.iload_n 2, [], 0), (.ifCond .le 59, [6], 0)]
def b_115_2 : List ab_I := [(.aload_n 0, [], 0), (.iload_n 1, [], 0), (.iload_n 2, [], 0), (.invokevirtual 122, [114, 3, 5], 0), (.istore_n 3, [], 0), (.iload_n 3, [], 0), (.bipush 8, [], 0), (.if_icmp .ge 7, [3], 0), (.iload_n 2, [], 0), (.iload_n 3, [], 0), (.iadd, [], 0), (.ireturn, [0], 0)]
def b_115_3 : List ab_I := [(.iinc 1 1, [], 0), (.iinc 2 8, [], 0), (.iload_n 2, [], 0), (.aload_n 0, [], 0), (.getfield 108, [5, 0], 0), (.if_icmp .ne 10, [4], 0), (.aload_n 0, [], 0), (.iload_n 1, [], 0), (.putfield 119, [5, 2, 0], 0), (.iconst (-1), [], 0), (.ireturn, [0], 0)]
def b_115_4 : List ab_I := [(.aload_n 0, [], 0), (.iload_n 2, [], 0), (.invokevirtual 111, [112, 2, 5], 0), (.bipush 59, [], 0), (.if_icmp .eq 5, [5], 0), (.iload_n 2, [], 0), (.ireturn, [0], 0)]
def b_115_5 : List ab_I := [(.iinc 2 1, [], 0), (.goto (-65), [1], 0)]
def b_115_6 : List ab_I := [(.iconst (-1), [], 0), (.ireturn, [0], 0)]
def bk_115 : List (List ab_I) := [b_115_0, b_115_1, b_115_2, b_115_3, b_115_4, b_115_5, b_115_6]
-- 116: RelayRaceModel.reads()V
def mr_116 : ab_M := (yX5_reads, prog_7_method_18_code, 2, none, 0, false)
def pc_116 : List Nat := [0]
def b_116_0 : List ab_I := [(.aload_n 0, [], 0), (.invokevirtual 125, [115, 1, 5], 0), (.istore_n 1, [], 0), (.return_, [], 0)]
def bk_116 : List (List ab_I) := [b_116_0]
-- 117: RelayRaceModel.fault()I
def mr_117 : ab_M := (yX5_fault, prog_7_method_19_code, 1, some .int, 0, false)
def pc_117 : List Nat := [0]
def b_117_0 : List ab_I := [(.aload_n 0, [], 0), (.invokevirtual 125, [115, 1, 5], 0), (.ireturn, [0], 0)]
def bk_117 : List (List ab_I) := [b_117_0]
-- 118: RelayRaceModel.isTeam(I)Z
def mr_118 : ab_M := (yX5_isTeam, prog_7_method_20_code, 2, some .boolean, 1, false)
def pc_118 : List Nat := [0]
def b_118_0 : List ab_I := [(.aload_n 0, [], 0), (.invokevirtual 129, [116, 1, 5], 0), (.iload_n 1, [], 0), (.iconst 0, [], 0), (.aload_n 0, [], 0), (.getfield 119, [5, 2], 0), (.iconst 1, [], 0), (.isub, [], 0), (.invokestatic 104, [101, 3, 0], 0), (.ireturn, [1], 0)]
def bk_118 : List (List ab_I) := [b_118_0]
-- 119: RelayRaceModel.runnerOf(III)I
def mr_119 : ab_M := (yX5_runnerOf, prog_7_method_21_code, 4, some .int, 3, false)
def pc_119 : List Nat := [0, 17, 27]
def b_119_0 : List ab_I := [(.iload_n 3, [], 0), (.ifCond .ne 16, [1], 0), (.aload_n 0, [], 0), (.getfield 13, [5, 3], 0), (.iconst 4, [], 0), (.iload_n 1, [], 0), (.imul, [], 0), (.iload_n 2, [], 0), (.iadd, [], 0), (.iaload, [], 0), (.goto 13, [2], 0)]
def b_119_1 : List ab_I := [(.aload_n 0, [], 0), (.getfield 16, [5, 4], 0), (.iconst 4, [], 0), (.iload_n 1, [], 0), (.imul, [], 0), (.iload_n 2, [], 0), (.iadd, [], 0), (.iaload, [], 0)]
def b_119_2 : List ab_I := [(.ireturn, [0], 0)]
def bk_119 : List (List ab_I) := [b_119_0, b_119_1, b_119_2]
-- 120: RelayRaceModel.runner(III)I
def mr_120 : ab_M := (yX5_runner, prog_7_method_22_code, 4, some .int, 3, false)
def pc_120 : List Nat := [0, 32, 34]
def b_120_0 : List ab_I := [(.aload_n 0, [], 0), (.iload_n 1, [], 0), (.invokevirtual 132, [118, 2, 5], 0), (.ifCond .eq 27, [1], 0), (.iload_n 2, [], 0), (.invokestatic 136, [106, 1, 0], 0), (.ifCond .eq 20, [1], 0), (.iload_n 3, [], 0), (.invokestatic 139, [107, 1, 0], 0), (.ifCond .eq 13, [1], 0), (.aload_n 0, [], 0), (.iload_n 1, [], 0), (.iload_n 2, [], 0), (.iload_n 3, [], 0), (.invokevirtual 142, [119, 4, 5], 0), (.goto 5, [2], 0)]
def b_120_1 : List ab_I := [(.bipush (-2), [], 0)]
def b_120_2 : List ab_I := [(.ireturn, [0], 0)]
def bk_120 : List (List ab_I) := [b_120_0, b_120_1, b_120_2]
-- 121: RelayRaceModel.along(I)I
def mr_121 : ab_M := (yX5_along, prog_7_method_23_code, 3, some .int, 1, false)
def pc_121 : List Nat := [0, 14]
def b_121_0 : List ab_I := [(.iload_n 1, [], 0), (.bipush 10, [], 0), (.bipush 60, [], 0), (.invokestatic 104, [101, 3, 0], 0), (.ifCond .ne 6, [1], 0), (.bipush (-2), [], 0), (.ireturn, [0], 0)]
def b_121_1 : List ab_I := [(.aload_n 0, [], 0), (.getfield 98, [5, 5], 0), (.istore_n 2, [], 0), (.aload_n 0, [], 0), (.iload_n 1, [], 0), (.putfield 98, [5, 5, 0], 0), (.iload_n 2, [], 0), (.ireturn, [0], 0)]
def bk_121 : List (List ab_I) := [b_121_0, b_121_1]
-- 122: RelayRaceModel.event(III)I
def mr_122 : ab_M := (yX5_event, prog_7_method_24_code, 4, some .int, 3, false)
def pc_122 : List Nat := [0, 21, 24, 36]
def b_122_0 : List ab_I := [(.iload_n 1, [], 0), (.invokestatic 146, [108, 1, 0], 0), (.ifCond .eq 17, [1], 0), (.iload_n 2, [], 0), (.invokestatic 149, [105, 1, 0], 0), (.ifCond .eq 10, [1], 0), (.iload_n 3, [], 0), (.invokestatic 136, [106, 1, 0], 0), (.ifCond .ne 6, [2], 0)]
def b_122_1 : List ab_I := [(.bipush (-2), [], 0), (.ireturn, [0], 0)]
def b_122_2 : List ab_I := [(.aload_n 0, [], 0), (.getfield 152, [5, 6], 0), (.bipush 8, [], 0), (.if_icmp .ne 6, [3], 0), (.bipush (-4), [], 0), (.ireturn, [0], 0)]
def b_122_3 : List ab_I := [(.aload_n 0, [], 0), (.getfield 19, [5, 7], 0), (.aload_n 0, [], 0), (.getfield 152, [5, 6], 0), (.iload_n 1, [], 0), (.iastore, [], 0), (.aload_n 0, [], 0), (.getfield 22, [5, 8], 0), (.aload_n 0, [], 0), (.getfield 152, [5, 6], 0), (.iload_n 2, [], 0), (.iastore, [], 0), (.aload_n 0, [], 0), (.getfield 25, [5, 9], 0), (.aload_n 0, [], 0), (.getfield 152, [5, 6], 0), (.iload_n 3, [], 0), (.iastore, [], 0), (.aload_n 0, [], 0), (.dup, [], 0), (.getfield 152, [5, 6], 0), (.iconst 1, [], 0), (.iadd, [], 0), (.putfield 152, [5, 6, 0], 0), (.aload_n 0, [], 0), (.getfield 152, [5, 6], 0), (.ireturn, [0], 0)]
def bk_122 : List (List ab_I) := [b_122_0, b_122_1, b_122_2, b_122_3]
-- 123: RelayRaceModel.back()I
def mr_123 : ab_M := (yX5_back, prog_7_method_25_code, 1, some .int, 0, false)
def pc_123 : List Nat := [0, 10]
def b_123_0 : List ab_I := [(.aload_n 0, [], 0), (.getfield 152, [5, 6], 0), (.ifCond .ne 6, [1], 0), (.bipush (-3), [], 0), (.ireturn, [0], 0)]
def b_123_1 : List ab_I := [(.aload_n 0, [], 0), (.dup, [], 0), (.getfield 152, [5, 6], 0), (.iconst 1, [], 0), (.isub, [], 0), (.putfield 152, [5, 6, 0], 0), (.aload_n 0, [], 0), (.getfield 152, [5, 6], 0), (.ireturn, [0], 0)]
def bk_123 : List (List ab_I) := [b_123_0, b_123_1]
-- 124: RelayRaceModel.read(I)I
def mr_124 : ab_M := (yX5_read, prog_7_method_26_code, 4, some .int, 1, false)
def pc_124 : List Nat := [0, 10, 25, 32, 93]
def b_124_0 : List ab_I := [(.iload_n 1, [], 0), (.invokestatic 155, [178, 1, 0], 0), (.ifCond .ne 6, [1], 0), (.bipush (-2), [], 0), (.ireturn, [0], 0)]
def b_124_1 : List ab_I := [(.aload_n 0, [], 0), (.getfield 82, [5, 32], 0), (.iload_n 1, [], 0), (.baload, [], 0), (.ifCond .ne 9, [2], 0), (.aload_n 0, [], 0), (.iconst 1, [], 0), (.invokevirtual 158, [177, 2, 5], 0), (.ireturn, [0], 0)]
def b_124_2 : List ab_I := [(.iconst 0, [], 0), (.istore_n 2, [], 0), (.bipush 60, [], 0), (.iload_n 1, [], 0), (.imul, [], 0), (.istore_n 3, [], 0)]
def b_124_3 : List ab_I := [(.iconst 3, [], 0), (.iload_n 2, [], 0), (.imul, [], 0), (.iconst 2, [], 0), (.iadd, [], 0), (.aload_n 0, [], 0), (.getfield 89, [5, 34], 0), (.iload_n 1, [], 0), (.iaload, [], 0), (.if_icmp .ge 50, [4], 0), (.aload_n 0, [], 0), (.aload_n 0, [], 0), (.getfield 92, [5, 35], 0), (.iload_n 3, [], 0), (.iconst 3, [], 0), (.iload_n 2, [], 0), (.imul, [], 0), (.iadd, [], 0), (.iaload, [], 0), (.aload_n 0, [], 0), (.getfield 92, [5, 35], 0), (.iload_n 3, [], 0), (.iconst 3, [], 0), (.iload_n 2, [], 0), (.imul, [], 0), (.iadd, [], 0), (.iconst 1, [], 0), (.iadd, [], 0), (.iaload, [], 0), (.aload_n 0, [], 0), (.getfield 92, [5, 35], 0), (.iload_n 3, [], 0), (.iconst 3, [], 0), (.iload_n 2, [], 0), (.imul, [], 0), (.iadd, [], 0), (.iconst 2, [], 0), (.iadd, [], 0), (.iaload, [], 0), (.invokevirtual 161, [122, 4, 5], 0), (.ifCond .le 9, [4], 0), (.iinc 2 1, [], 0), (.goto (-58), [3], 0)]
def b_124_4 : List ab_I := [(.iload_n 2, [], 0), (.ireturn, [0], 0)]
def bk_124 : List (List ab_I) := [b_124_0, b_124_1, b_124_2, b_124_3, b_124_4]
-- 125: RelayRaceModel.asTold()V
def mr_125 : ab_M := (yX5_asTold, prog_7_method_27_code, 2, none, 0, false)
def pc_125 : List Nat := [0, 22, 72, 79, 100]
def b_125_0 : List ab_I := [(.aload_n 0, [], 0), (.invokevirtual 129, [116, 1, 5], 0), (.aload_n 0, [], 0), (.aload_n 0, [], 0), (.getfield 98, [5, 5], 0), (.putfield 164, [5, 10, 0], 0), (.aload_n 0, [], 0), (.aload_n 0, [], 0), (.getfield 152, [5, 6], 0), (.putfield 167, [5, 11, 0], 0), (.iconst 0, [], 0), (.istore_n 1, [], 0)]
def b_125_1 : List ab_I := [(.iload_n 1, [], 0), (.aload_n 0, [], 0), (.getfield 152, [5, 6], 0), (.if_icmp .ge 45, [2], 0), (.aload_n 0, [], 0), (.getfield 28, [5, 12], 0), (.iload_n 1, [], 0), (.aload_n 0, [], 0), (.getfield 19, [5, 7], 0), (.iload_n 1, [], 0), (.iaload, [], 0), (.iastore, [], 0), (.aload_n 0, [], 0), (.getfield 31, [5, 13], 0), (.iload_n 1, [], 0), (.aload_n 0, [], 0), (.getfield 22, [5, 8], 0), (.iload_n 1, [], 0), (.iaload, [], 0), (.iastore, [], 0), (.aload_n 0, [], 0), (.getfield 34, [5, 14], 0), (.iload_n 1, [], 0), (.aload_n 0, [], 0), (.getfield 25, [5, 9], 0), (.iload_n 1, [], 0), (.iaload, [], 0), (.iastore, [], 0), (.iinc 1 1, [], 0), (.goto (-47), [1], 0)]
def b_125_2 : List ab_I := [(.aload_n 0, [], 0), (.iconst 0, [], 0), (.putfield 170, [5, 15, 0], 0), (.iconst 0, [], 0), (.istore_n 1, [], 0)]
def b_125_3 : List ab_I := [(.iload_n 1, [], 0), (.bipush 16, [], 0), (.if_icmp .ge 18, [4], 0), (.aload_n 0, [], 0), (.getfield 37, [5, 16], 0), (.iload_n 1, [], 0), (.iload_n 1, [], 0), (.iconst 4, [], 0), (.irem, [], 0), (.iastore, [], 0), (.iinc 1 1, [], 0), (.goto (-18), [3], 0)]
def b_125_4 : List ab_I := [(.return_, [], 0)]
def bk_125 : List (List ab_I) := [b_125_0, b_125_1, b_125_2, b_125_3, b_125_4]
-- 126: RelayRaceModel.isRain(I)Z
def mr_126 : ab_M := (yX5_isRain, prog_7_method_28_code, 4, some .boolean, 1, false)
def pc_126 : List Nat := [0, 4, 46, 50, 51, 58]
def b_126_0 : List ab_I := [(.iconst 0, [], 0), (.istore_n 2, [], 0), (.iconst 0, [], 0), (.istore_n 3, [], 0)]
def b_126_1 : List ab_I := [(.iload_n 3, [], 0), (.aload_n 0, [], 0), (.getfield 167, [5, 11], 0), (.if_icmp .ge 49, [5], 0), (.iload_n 2, [], 0), (.ifCond .ne 33, [2], 0), (.aload_n 0, [], 0), (.getfield 28, [5, 12], 0), (.iload_n 3, [], 0), (.iaload, [], 0), (.ifCond .ne 28, [3], 0), (.aload_n 0, [], 0), (.getfield 31, [5, 13], 0), (.iload_n 3, [], 0), (.iaload, [], 0), (.iload_n 1, [], 0), (.if_icmp .gt 18, [3], 0), (.aload_n 0, [], 0), (.getfield 170, [5, 15], 0), (.iload_n 3, [], 0), (.invokestatic 173, [102, 2, 0], 0), (.ifCond .ne 7, [3], 0)]
def b_126_2 : List ab_I := [(.iconst 1, [], 0), (.goto 4, [4], 0)]
def b_126_3 : List ab_I := [(.iconst 0, [], 0)]
def b_126_4 : List ab_I := [(.istore_n 2, [], 0), (.iinc 3 1, [], 0), (.goto (-51), [1], 0)]
def b_126_5 : List ab_I := [(.iload_n 2, [], 0), (.ireturn, [1], 0)]
def bk_126 : List (List ab_I) := [b_126_0, b_126_1, b_126_2, b_126_3, b_126_4, b_126_5]
-- 127: RelayRaceModel.stands(II)Z
def mr_127 : ab_M := (yX5_stands, prog_7_method_29_code, 7, some .boolean, 2, false)
def pc_127 : List Nat := [0, 5, 52, 53, 80, 101, 105, 106, 113]
def b_127_0 : List ab_I := [(.iconst 0, [], 0), (.istore_n 3, [], 0), (.iconst 0, [], 0), (.istore 4, [], 0)]
def b_127_1 : List ab_I := [(.iload 4, [], 0), (.aload_n 0, [], 0), (.getfield 167, [5, 11], 0), (.if_icmp .ge 102, [8], 0), (.iload_n 1, [], 0), (.aload_n 0, [], 0), (.getfield 31, [5, 13], 0), (.iload 4, [], 0), (.iaload, [], 0), (.isub, [], 0), (.istore 5, [], 0), (.aload_n 0, [], 0), (.getfield 34, [5, 14], 0), (.iload 4, [], 0), (.iaload, [], 0), (.iload_n 2, [], 0), (.if_icmp .ne 19, [2], 0), (.aload_n 0, [], 0), (.getfield 170, [5, 15], 0), (.iload 4, [], 0), (.invokestatic 173, [102, 2, 0], 0), (.ifCond .ne 7, [2], 0), (.iconst 1, [], 0), (.goto 4, [3], 0)]
def b_127_2 : List ab_I := [(.iconst 0, [], 0)]
def b_127_3 : List ab_I := [(.istore 6, [], 0), (.iload_n 3, [], 0), (.ifCond .ne 45, [5], 0), (.iload 6, [], 0), (.ifCond .eq 44, [6], 0), (.aload_n 0, [], 0), (.getfield 28, [5, 12], 0), (.iload 4, [], 0), (.iaload, [], 0), (.iconst 1, [], 0), (.if_icmp .ne 8, [4], 0), (.iload 5, [], 0), (.ifCond .eq 24, [5], 0)]
def b_127_4 : List ab_I := [(.aload_n 0, [], 0), (.getfield 28, [5, 12], 0), (.iload 4, [], 0), (.iaload, [], 0), (.iconst 2, [], 0), (.if_icmp .ne 17, [6], 0), (.iload 5, [], 0), (.iconst 0, [], 0), (.iconst 2, [], 0), (.invokestatic 104, [101, 3, 0], 0), (.ifCond .eq 7, [6], 0)]
def b_127_5 : List ab_I := [(.iconst 1, [], 0), (.goto 4, [7], 0)]
def b_127_6 : List ab_I := [(.iconst 0, [], 0)]
def b_127_7 : List ab_I := [(.istore_n 3, [], 0), (.iinc 4 1, [], 0), (.goto (-105), [1], 0)]
def b_127_8 : List ab_I := [(.iload_n 3, [], 0), (.ireturn, [1], 0)]
def bk_127 : List (List ab_I) := [b_127_0, b_127_1, b_127_2, b_127_3, b_127_4, b_127_5, b_127_6, b_127_7, b_127_8]
-- 128: RelayRaceModel.stride(IIZ)I
def mr_128 : ab_M := (yX5_stride, prog_7_method_30_code, 5, some .int, 3, false)
def pc_128 : List Nat := [0, 28, 38, 42, 43, 66, 67, 80, 81, 94, 96]
def b_128_0 : List ab_I := [(.aload_n 0, [], 0), (.getfield 16, [5, 4], 0), (.iload_n 1, [], 0), (.iaload, [], 0), (.istore 4, [], 0), (.iload 4, [], 0), (.aload_n 0, [], 0), (.getfield 13, [5, 3], 0), (.iload_n 1, [], 0), (.iaload, [], 0), (.ifCond .ne 26, [3], 0), (.iload_n 2, [], 0), (.iconst 3, [], 0), (.if_icmp .ge 7, [1], 0), (.iconst 1, [], 0), (.goto 18, [4], 0)]
def b_128_1 : List ab_I := [(.iload_n 2, [], 0), (.bipush 6, [], 0), (.if_icmp .ge 7, [2], 0), (.iconst 0, [], 0), (.goto 8, [4], 0)]
def b_128_2 : List ab_I := [(.iconst (-1), [], 0), (.goto 4, [4], 0)]
def b_128_3 : List ab_I := [(.iconst 0, [], 0)]
def b_128_4 : List ab_I := [(.iadd, [], 0), (.istore 4, [], 0), (.iload 4, [], 0), (.aload_n 0, [], 0), (.getfield 13, [5, 3], 0), (.iload_n 1, [], 0), (.iaload, [], 0), (.iconst 2, [], 0), (.if_icmp .ne 11, [5], 0), (.iload_n 2, [], 0), (.ifCond .ne 7, [5], 0), (.iconst 1, [], 0), (.goto 4, [6], 0)]
def b_128_5 : List ab_I := [(.iconst 0, [], 0)]
def b_128_6 : List ab_I := [(.isub, [], 0), (.istore 4, [], 0), (.iload 4, [], 0), (.iload_n 3, [], 0), (.ifCond .eq 7, [7], 0), (.iconst 1, [], 0), (.goto 4, [8], 0)]
def b_128_7 : List ab_I := [(.iconst 0, [], 0)]
def b_128_8 : List ab_I := [(.isub, [], 0), (.istore 4, [], 0), (.iload 4, [], 0), (.iconst 1, [], 0), (.if_icmp .ge 7, [9], 0), (.iconst 1, [], 0), (.goto 5, [10], 0)]
def b_128_9 : List ab_I := [(.iload 4, [], 0)]
def b_128_10 : List ab_I := [(.ireturn, [0], 0)]
def bk_128 : List (List ab_I) := [b_128_0, b_128_1, b_128_2, b_128_3, b_128_4, b_128_5, b_128_6, b_128_7, b_128_8, b_128_9, b_128_10]
-- 129: RelayRaceModel.goes(IIZ)V
def mr_129 : ab_M := (yX5_goes, prog_7_method_31_code, 5, none, 3, false)
def pc_129 : List Nat := [0, 30, 65, 146, 147, 148]
def b_129_0 : List ab_I := [(.aload_n 0, [], 0), (.getfield 43, [5, 18], 0), (.iload_n 2, [], 0), (.iaload, [], 0), (.istore 4, [], 0), (.aload_n 0, [], 0), (.iload_n 1, [], 0), (.iload_n 2, [], 0), (.invokevirtual 177, [127, 3, 5], 0), (.ifCond .eq 16, [1], 0), (.aload_n 0, [], 0), (.getfield 52, [5, 21], 0), (.iload_n 2, [], 0), (.dup2, [], 0), (.iaload, [], 0), (.iconst 1, [], 0), (.iadd, [], 0), (.iastore, [], 0), (.goto 38, [2], 0)]
def b_129_1 : List ab_I := [(.aload_n 0, [], 0), (.getfield 40, [5, 17], 0), (.iload_n 2, [], 0), (.dup2, [], 0), (.iaload, [], 0), (.aload_n 0, [], 0), (.iconst 4, [], 0), (.iload_n 2, [], 0), (.imul, [], 0), (.aload_n 0, [], 0), (.getfield 37, [5, 16], 0), (.iconst 4, [], 0), (.iload_n 2, [], 0), (.imul, [], 0), (.iload 4, [], 0), (.iadd, [], 0), (.iaload, [], 0), (.iadd, [], 0), (.aload_n 0, [], 0), (.getfield 46, [5, 19], 0), (.iload_n 2, [], 0), (.iaload, [], 0), (.iload_n 3, [], 0), (.invokevirtual 180, [128, 4, 5], 0), (.iadd, [], 0), (.iastore, [], 0)]
def b_129_2 : List ab_I := [(.aload_n 0, [], 0), (.getfield 46, [5, 19], 0), (.iload_n 2, [], 0), (.dup2, [], 0), (.iaload, [], 0), (.iconst 1, [], 0), (.iadd, [], 0), (.iastore, [], 0), (.aload_n 0, [], 0), (.getfield 40, [5, 17], 0), (.iload_n 2, [], 0), (.iaload, [], 0), (.aload_n 0, [], 0), (.getfield 164, [5, 10], 0), (.iload 4, [], 0), (.iconst 1, [], 0), (.iadd, [], 0), (.imul, [], 0), (.if_icmp .lt 58, [5], 0), (.aload_n 0, [], 0), (.getfield 55, [5, 22], 0), (.iconst 4, [], 0), (.iload_n 2, [], 0), (.imul, [], 0), (.iload 4, [], 0), (.iadd, [], 0), (.aload_n 0, [], 0), (.getfield 46, [5, 19], 0), (.iload_n 2, [], 0), (.iaload, [], 0), (.iastore, [], 0), (.aload_n 0, [], 0), (.getfield 46, [5, 19], 0), (.iload_n 2, [], 0), (.iconst 0, [], 0), (.iastore, [], 0), (.aload_n 0, [], 0), (.getfield 43, [5, 18], 0), (.iload_n 2, [], 0), (.dup2, [], 0), (.iaload, [], 0), (.iconst 1, [], 0), (.iadd, [], 0), (.iastore, [], 0), (.aload_n 0, [], 0), (.getfield 49, [5, 20], 0), (.iload_n 2, [], 0), (.aload_n 0, [], 0), (.getfield 43, [5, 18], 0), (.iload_n 2, [], 0), (.iaload, [], 0), (.iconst 4, [], 0), (.if_icmp .ne 7, [3], 0), (.iload_n 1, [], 0), (.goto 4, [4], 0)]
def b_129_3 : List ab_I := [(.iconst (-1), [], 0)]
def b_129_4 : List ab_I := [(.iastore, [], 0)]
def b_129_5 : List ab_I := [(.return_, [], 0)]
def bk_129 : List (List ab_I) := [b_129_0, b_129_1, b_129_2, b_129_3, b_129_4, b_129_5]
-- 130: RelayRaceModel.isAhead(II)Z
def mr_130 : ab_M := (yX5_isAhead, prog_7_method_32_code, 5, some .boolean, 2, false)
def pc_130 : List Nat := [0, 14, 15, 30, 31, 41, 79, 80, 81, 115, 119, 128, 129]
def b_130_0 : List ab_I := [(.aload_n 0, [], 0), (.getfield 49, [5, 20], 0), (.iload_n 1, [], 0), (.iaload, [], 0), (.iconst (-1), [], 0), (.if_icmp .eq 7, [1], 0), (.iconst 1, [], 0), (.goto 4, [2], 0)]
def b_130_1 : List ab_I := [(.iconst 0, [], 0)]
def b_130_2 : List ab_I := [(.istore_n 3, [], 0), (.aload_n 0, [], 0), (.getfield 49, [5, 20], 0), (.iload_n 2, [], 0), (.iaload, [], 0), (.iconst (-1), [], 0), (.if_icmp .eq 7, [3], 0), (.iconst 1, [], 0), (.goto 4, [4], 0)]
def b_130_3 : List ab_I := [(.iconst 0, [], 0)]
def b_130_4 : List ab_I := [(.istore 4, [], 0), (.iload_n 3, [], 0), (.iload 4, [], 0), (.if_icmp .eq 5, [5], 0), (.iload_n 3, [], 0), (.ireturn, [1], 0)]
def b_130_5 : List ab_I := [(.iload_n 3, [], 0), (.ifCond .eq 39, [8], 0), (.aload_n 0, [], 0), (.getfield 49, [5, 20], 0), (.iload_n 1, [], 0), (.iaload, [], 0), (.aload_n 0, [], 0), (.getfield 49, [5, 20], 0), (.iload_n 2, [], 0), (.iaload, [], 0), (.if_icmp .eq 24, [8], 0), (.aload_n 0, [], 0), (.getfield 49, [5, 20], 0), (.iload_n 1, [], 0), (.iaload, [], 0), (.aload_n 0, [], 0), (.getfield 49, [5, 20], 0), (.iload_n 2, [], 0), (.iaload, [], 0), (.if_icmp .ge 7, [6], 0), (.iconst 1, [], 0), (.goto 4, [7], 0)]
def b_130_6 : List ab_I := [(.iconst 0, [], 0)]
def b_130_7 : List ab_I := [(.ireturn, [1], 0)]
def b_130_8 : List ab_I := [(.aload_n 0, [], 0), (.getfield 40, [5, 17], 0), (.iload_n 1, [], 0), (.iaload, [], 0), (.aload_n 0, [], 0), (.getfield 40, [5, 17], 0), (.iload_n 2, [], 0), (.iaload, [], 0), (.if_icmp .eq 26, [10], 0), (.aload_n 0, [], 0), (.getfield 40, [5, 17], 0), (.iload_n 1, [], 0), (.iaload, [], 0), (.aload_n 0, [], 0), (.getfield 40, [5, 17], 0), (.iload_n 2, [], 0), (.iaload, [], 0), (.if_icmp .le 7, [9], 0), (.iconst 1, [], 0), (.goto 17, [12], 0)]
def b_130_9 : List ab_I := [(.iconst 0, [], 0), (.goto 13, [12], 0)]
def b_130_10 : List ab_I := [(.iload_n 1, [], 0), (.iload_n 2, [], 0), (.if_icmp .ge 7, [11], 0), (.iconst 1, [], 0), (.goto 4, [12], 0)]
def b_130_11 : List ab_I := [(.iconst 0, [], 0)]
def b_130_12 : List ab_I := [(.ireturn, [1], 0)]
def bk_130 : List (List ab_I) := [b_130_0, b_130_1, b_130_2, b_130_3, b_130_4, b_130_5, b_130_6, b_130_7, b_130_8, b_130_9, b_130_10, b_130_11, b_130_12]
-- 131: RelayRaceModel.goesBy(I)V
def mr_131 : ab_M := (yX5_goesBy, prog_7_method_33_code, 6, none, 1, false)
def pc_131 : List Nat := [0, 8, 33, 39, 41, 55, 86, 87, 96, 146]
def b_131_0 : List ab_I := [(.aload_n 0, [], 0), (.iload_n 1, [], 0), (.invokevirtual 184, [126, 2, 5], 0), (.istore_n 2, [], 0), (.iconst 0, [], 0), (.istore_n 3, [], 0)]
def b_131_1 : List ab_I := [(.iload_n 3, [], 0), (.aload_n 0, [], 0), (.getfield 119, [5, 2], 0), (.if_icmp .ge 26, [3], 0), (.aload_n 0, [], 0), (.getfield 49, [5, 20], 0), (.iload_n 3, [], 0), (.iaload, [], 0), (.iconst (-1), [], 0), (.if_icmp .ne 10, [2], 0), (.aload_n 0, [], 0), (.iload_n 1, [], 0), (.iload_n 3, [], 0), (.iload_n 2, [], 0), (.invokevirtual 187, [129, 4, 5], 0)]
def b_131_2 : List ab_I := [(.iinc 3 1, [], 0), (.goto (-28), [1], 0)]
def b_131_3 : List ab_I := [(.iconst 0, [], 0), (.istore_n 3, [], 0)]
def b_131_4 : List ab_I := [(.iload_n 3, [], 0), (.aload_n 0, [], 0), (.getfield 119, [5, 2], 0), (.if_icmp .ge 100, [9], 0), (.iconst 0, [], 0), (.istore 4, [], 0), (.iconst 0, [], 0), (.istore 5, [], 0)]
def b_131_5 : List ab_I := [(.iload 5, [], 0), (.aload_n 0, [], 0), (.getfield 119, [5, 2], 0), (.if_icmp .ge 35, [8], 0), (.iload 4, [], 0), (.iload 5, [], 0), (.iload_n 3, [], 0), (.if_icmp .eq 17, [6], 0), (.aload_n 0, [], 0), (.iload 5, [], 0), (.iload_n 3, [], 0), (.invokevirtual 191, [130, 3, 5], 0), (.ifCond .eq 7, [6], 0), (.iconst 1, [], 0), (.goto 4, [7], 0)]
def b_131_6 : List ab_I := [(.iconst 0, [], 0)]
def b_131_7 : List ab_I := [(.iadd, [], 0), (.istore 4, [], 0), (.iinc 5 1, [], 0), (.goto (-38), [5], 0)]
def b_131_8 : List ab_I := [(.aload_n 0, [], 0), (.getfield 58, [5, 23], 0), (.iconst 4, [], 0), (.iload_n 1, [], 0), (.imul, [], 0), (.iload_n 3, [], 0), (.iadd, [], 0), (.aload_n 0, [], 0), (.getfield 40, [5, 17], 0), (.iload_n 3, [], 0), (.iaload, [], 0), (.iastore, [], 0), (.aload_n 0, [], 0), (.getfield 61, [5, 24], 0), (.iconst 4, [], 0), (.iload_n 1, [], 0), (.imul, [], 0), (.iload_n 3, [], 0), (.iadd, [], 0), (.aload_n 0, [], 0), (.getfield 43, [5, 18], 0), (.iload_n 3, [], 0), (.iaload, [], 0), (.iastore, [], 0), (.aload_n 0, [], 0), (.getfield 64, [5, 25], 0), (.iconst 4, [], 0), (.iload_n 1, [], 0), (.imul, [], 0), (.iload_n 3, [], 0), (.iadd, [], 0), (.iload 4, [], 0), (.iastore, [], 0), (.iinc 3 1, [], 0), (.goto (-102), [4], 0)]
def b_131_9 : List ab_I := [(.return_, [], 0)]
def bk_131 : List (List ab_I) := [b_131_0, b_131_1, b_131_2, b_131_3, b_131_4, b_131_5, b_131_6, b_131_7, b_131_8, b_131_9]
-- 132: RelayRaceModel.runs()V
def mr_132 : ab_M := (yX5_runs, prog_7_method_34_code, 2, none, 0, false)
def pc_132 : List Nat := [0, 2, 48, 50, 69, 71, 88]
def b_132_0 : List ab_I := [(.iconst 0, [], 0), (.istore_n 1, [], 0)]
def b_132_1 : List ab_I := [(.iload_n 1, [], 0), (.iconst 4, [], 0), (.if_icmp .ge 44, [2], 0), (.aload_n 0, [], 0), (.getfield 40, [5, 17], 0), (.iload_n 1, [], 0), (.iconst 0, [], 0), (.iastore, [], 0), (.aload_n 0, [], 0), (.getfield 43, [5, 18], 0), (.iload_n 1, [], 0), (.iconst 0, [], 0), (.iastore, [], 0), (.aload_n 0, [], 0), (.getfield 46, [5, 19], 0), (.iload_n 1, [], 0), (.iconst 0, [], 0), (.iastore, [], 0), (.aload_n 0, [], 0), (.getfield 49, [5, 20], 0), (.iload_n 1, [], 0), (.iconst (-1), [], 0), (.iastore, [], 0), (.aload_n 0, [], 0), (.getfield 52, [5, 21], 0), (.iload_n 1, [], 0), (.iconst 0, [], 0), (.iastore, [], 0), (.iinc 1 1, [], 0), (.goto (-43), [1], 0)]
def b_132_2 : List ab_I := [(.iconst 0, [], 0), (.istore_n 1, [], 0)]
def b_132_3 : List ab_I := [(.iload_n 1, [], 0), (.bipush 16, [], 0), (.if_icmp .ge 16, [4], 0), (.aload_n 0, [], 0), (.getfield 55, [5, 22], 0), (.iload_n 1, [], 0), (.iconst (-1), [], 0), (.iastore, [], 0), (.iinc 1 1, [], 0), (.goto (-16), [3], 0)]
def b_132_4 : List ab_I := [(.iconst 0, [], 0), (.istore_n 1, [], 0)]
def b_132_5 : List ab_I := [(.iload_n 1, [], 0), (.bipush 48, [], 0), (.if_icmp .ge 14, [6], 0), (.aload_n 0, [], 0), (.iload_n 1, [], 0), (.invokevirtual 194, [131, 2, 5], 0), (.iinc 1 1, [], 0), (.goto (-14), [5], 0)]
def b_132_6 : List ab_I := [(.return_, [], 0)]
def bk_132 : List (List ab_I) := [b_132_0, b_132_1, b_132_2, b_132_3, b_132_4, b_132_5, b_132_6]
-- 133: RelayRaceModel.runsTold()V
def mr_133 : ab_M := (yX5_runsTold, prog_7_method_35_code, 1, none, 0, false)
def pc_133 : List Nat := [0]
def b_133_0 : List ab_I := [(.aload_n 0, [], 0), (.invokevirtual 198, [125, 1, 5], 0), (.aload_n 0, [], 0), (.invokevirtual 201, [132, 1, 5], 0), (.return_, [], 0)]
def bk_133 : List (List ab_I) := [b_133_0]
-- 134: RelayRaceModel.atOf(III)I
def mr_134 : ab_M := (yX5_atOf, prog_7_method_36_code, 5, some .int, 3, false)
def pc_134 : List Nat := [0, 25, 40, 47]
def b_134_0 : List ab_I := [(.aload_n 0, [], 0), (.invokevirtual 204, [133, 1, 5], 0), (.iconst 4, [], 0), (.iload_n 1, [], 0), (.imul, [], 0), (.iload_n 2, [], 0), (.iadd, [], 0), (.istore 4, [], 0), (.iload_n 3, [], 0), (.ifCond .ne 13, [1], 0), (.aload_n 0, [], 0), (.getfield 58, [5, 23], 0), (.iload 4, [], 0), (.iaload, [], 0), (.goto 25, [3], 0)]
def b_134_1 : List ab_I := [(.iload_n 3, [], 0), (.iconst 1, [], 0), (.if_icmp .ne 13, [2], 0), (.aload_n 0, [], 0), (.getfield 61, [5, 24], 0), (.iload 4, [], 0), (.iaload, [], 0), (.goto 10, [3], 0)]
def b_134_2 : List ab_I := [(.aload_n 0, [], 0), (.getfield 64, [5, 25], 0), (.iload 4, [], 0), (.iaload, [], 0)]
def b_134_3 : List ab_I := [(.ireturn, [0], 0)]
def bk_134 : List (List ab_I) := [b_134_0, b_134_1, b_134_2, b_134_3]
-- 135: RelayRaceModel.at(III)I
def mr_135 : ab_M := (yX5_at, prog_7_method_37_code, 4, some .int, 3, false)
def pc_135 : List Nat := [0, 32, 34]
def b_135_0 : List ab_I := [(.iload_n 1, [], 0), (.invokestatic 149, [105, 1, 0], 0), (.ifCond .eq 28, [1], 0), (.aload_n 0, [], 0), (.iload_n 2, [], 0), (.invokevirtual 132, [118, 2, 5], 0), (.ifCond .eq 20, [1], 0), (.iload_n 3, [], 0), (.invokestatic 146, [108, 1, 0], 0), (.ifCond .eq 13, [1], 0), (.aload_n 0, [], 0), (.iload_n 1, [], 0), (.iload_n 2, [], 0), (.iload_n 3, [], 0), (.invokevirtual 207, [134, 4, 5], 0), (.goto 5, [2], 0)]
def b_135_1 : List ab_I := [(.bipush (-2), [], 0)]
def b_135_2 : List ab_I := [(.ireturn, [0], 0)]
def bk_135 : List (List ab_I) := [b_135_0, b_135_1, b_135_2]
-- 136: RelayRaceModel.homeOf(I)I
def mr_136 : ab_M := (yX5_homeOf, prog_7_method_38_code, 2, some .int, 1, false)
def pc_136 : List Nat := [0]
def b_136_0 : List ab_I := [(.aload_n 0, [], 0), (.invokevirtual 204, [133, 1, 5], 0), (.aload_n 0, [], 0), (.getfield 49, [5, 20], 0), (.iload_n 1, [], 0), (.iaload, [], 0), (.ireturn, [0], 0)]
def bk_136 : List (List ab_I) := [b_136_0]
-- 137: RelayRaceModel.home(I)I
def mr_137 : ab_M := (yX5_home, prog_7_method_39_code, 2, some .int, 1, false)
def pc_137 : List Nat := [0, 16, 18]
def b_137_0 : List ab_I := [(.aload_n 0, [], 0), (.iload_n 1, [], 0), (.invokevirtual 132, [118, 2, 5], 0), (.ifCond .eq 11, [1], 0), (.aload_n 0, [], 0), (.iload_n 1, [], 0), (.invokevirtual 210, [136, 2, 5], 0), (.goto 5, [2], 0)]
def b_137_1 : List ab_I := [(.bipush (-2), [], 0)]
def b_137_2 : List ab_I := [(.ireturn, [0], 0)]
def bk_137 : List (List ab_I) := [b_137_0, b_137_1, b_137_2]
-- 138: RelayRaceModel.lastedOf(II)I
def mr_138 : ab_M := (yX5_lastedOf, prog_7_method_40_code, 3, some .int, 2, false)
def pc_138 : List Nat := [0]
def b_138_0 : List ab_I := [(.aload_n 0, [], 0), (.invokevirtual 204, [133, 1, 5], 0), (.aload_n 0, [], 0), (.getfield 55, [5, 22], 0), (.iconst 4, [], 0), (.iload_n 1, [], 0), (.imul, [], 0), (.iload_n 2, [], 0), (.iadd, [], 0), (.iaload, [], 0), (.ireturn, [0], 0)]
def bk_138 : List (List ab_I) := [b_138_0]
-- 139: RelayRaceModel.lasted(II)I
def mr_139 : ab_M := (yX5_lasted, prog_7_method_41_code, 3, some .int, 2, false)
def pc_139 : List Nat := [0, 24, 26]
def b_139_0 : List ab_I := [(.aload_n 0, [], 0), (.iload_n 1, [], 0), (.invokevirtual 132, [118, 2, 5], 0), (.ifCond .eq 19, [1], 0), (.iload_n 2, [], 0), (.invokestatic 136, [106, 1, 0], 0), (.ifCond .eq 12, [1], 0), (.aload_n 0, [], 0), (.iload_n 1, [], 0), (.iload_n 2, [], 0), (.invokevirtual 213, [138, 3, 5], 0), (.goto 5, [2], 0)]
def b_139_1 : List ab_I := [(.bipush (-2), [], 0)]
def b_139_2 : List ab_I := [(.ireturn, [0], 0)]
def bk_139 : List (List ab_I) := [b_139_0, b_139_1, b_139_2]
-- 140: RelayRaceModel.wonNow()I
def mr_140 : ab_M := (yX5_wonNow, prog_7_method_42_code, 3, some .int, 0, false)
def pc_140 : List Nat := [0, 4, 39, 40, 47]
def b_140_0 : List ab_I := [(.iconst (-1), [], 0), (.istore_n 1, [], 0), (.iconst 0, [], 0), (.istore_n 2, [], 0)]
def b_140_1 : List ab_I := [(.iload_n 2, [], 0), (.aload_n 0, [], 0), (.getfield 119, [5, 2], 0), (.if_icmp .ge 38, [4], 0), (.aload_n 0, [], 0), (.getfield 49, [5, 20], 0), (.iload_n 2, [], 0), (.iaload, [], 0), (.iconst (-1), [], 0), (.if_icmp .eq 20, [2], 0), (.aload_n 0, [], 0), (.getfield 64, [5, 25], 0), (.sipush 188, [], 0), (.iload_n 2, [], 0), (.iadd, [], 0), (.iaload, [], 0), (.ifCond .ne 7, [2], 0), (.iload_n 2, [], 0), (.goto 4, [3], 0)]
def b_140_2 : List ab_I := [(.iload_n 1, [], 0)]
def b_140_3 : List ab_I := [(.istore_n 1, [], 0), (.iinc 2 1, [], 0), (.goto (-40), [1], 0)]
def b_140_4 : List ab_I := [(.iload_n 1, [], 0), (.ireturn, [0], 0)]
def bk_140 : List (List ab_I) := [b_140_0, b_140_1, b_140_2, b_140_3, b_140_4]
-- 141: RelayRaceModel.wonBy(I)I
def mr_141 : ab_M := (yX5_wonBy, prog_7_method_43_code, 3, some .int, 1, false)
def pc_141 : List Nat := [0, 14, 18, 24]
def b_141_0 : List ab_I := [(.aload_n 0, [], 0), (.invokevirtual 216, [140, 1, 5], 0), (.istore_n 2, [], 0), (.iload_n 2, [], 0), (.iconst (-1), [], 0), (.if_icmp .eq 7, [1], 0), (.iload_n 1, [], 0), (.ifCond .ne 7, [2], 0)]
def b_141_1 : List ab_I := [(.iload_n 2, [], 0), (.goto 9, [3], 0)]
def b_141_2 : List ab_I := [(.aload_n 0, [], 0), (.getfield 49, [5, 20], 0), (.iload_n 2, [], 0), (.iaload, [], 0)]
def b_141_3 : List ab_I := [(.ireturn, [0], 0)]
def bk_141 : List (List ab_I) := [b_141_0, b_141_1, b_141_2, b_141_3]
-- 142: RelayRaceModel.wonOf(I)I
def mr_142 : ab_M := (yX5_wonOf, prog_7_method_44_code, 2, some .int, 1, false)
def pc_142 : List Nat := [0]
def b_142_0 : List ab_I := [(.aload_n 0, [], 0), (.invokevirtual 204, [133, 1, 5], 0), (.aload_n 0, [], 0), (.iload_n 1, [], 0), (.invokevirtual 219, [141, 2, 5], 0), (.ireturn, [0], 0)]
def bk_142 : List (List ab_I) := [b_142_0]
-- 143: RelayRaceModel.won(I)I
def mr_143 : ab_M := (yX5_won, prog_7_method_45_code, 2, some .int, 1, false)
def pc_143 : List Nat := [0, 15, 17]
def b_143_0 : List ab_I := [(.iload_n 1, [], 0), (.invokestatic 139, [107, 1, 0], 0), (.ifCond .eq 11, [1], 0), (.aload_n 0, [], 0), (.iload_n 1, [], 0), (.invokevirtual 222, [142, 2, 5], 0), (.goto 5, [2], 0)]
def b_143_1 : List ab_I := [(.bipush (-2), [], 0)]
def b_143_2 : List ab_I := [(.ireturn, [0], 0)]
def bk_143 : List (List ab_I) := [b_143_0, b_143_1, b_143_2]
-- 144: RelayRaceModel.firstAt(I)I
def mr_144 : ab_M := (yX5_firstAt, prog_7_method_46_code, 4, some .int, 1, false)
def pc_144 : List Nat := [0, 4, 29, 30, 37]
def b_144_0 : List ab_I := [(.iconst (-1), [], 0), (.istore_n 2, [], 0), (.iconst 0, [], 0), (.istore_n 3, [], 0)]
def b_144_1 : List ab_I := [(.iload_n 3, [], 0), (.aload_n 0, [], 0), (.getfield 119, [5, 2], 0), (.if_icmp .ge 28, [4], 0), (.aload_n 0, [], 0), (.getfield 64, [5, 25], 0), (.iconst 4, [], 0), (.iload_n 1, [], 0), (.imul, [], 0), (.iload_n 3, [], 0), (.iadd, [], 0), (.iaload, [], 0), (.ifCond .ne 7, [2], 0), (.iload_n 3, [], 0), (.goto 4, [3], 0)]
def b_144_2 : List ab_I := [(.iload_n 2, [], 0)]
def b_144_3 : List ab_I := [(.istore_n 2, [], 0), (.iinc 3 1, [], 0), (.goto (-30), [1], 0)]
def b_144_4 : List ab_I := [(.iload_n 2, [], 0), (.ireturn, [0], 0)]
def bk_144 : List (List ab_I) := [b_144_0, b_144_1, b_144_2, b_144_3, b_144_4]
-- 145: RelayRaceModel.changesOf()I
def mr_145 : ab_M := (yX5_changesOf, prog_7_method_47_code, 3, some .int, 0, false)
def pc_145 : List Nat := [0, 8, 34, 35, 43]
def b_145_0 : List ab_I := [(.aload_n 0, [], 0), (.invokevirtual 204, [133, 1, 5], 0), (.iconst 0, [], 0), (.istore_n 1, [], 0), (.iconst 1, [], 0), (.istore_n 2, [], 0)]
def b_145_1 : List ab_I := [(.iload_n 2, [], 0), (.bipush 48, [], 0), (.if_icmp .ge 32, [4], 0), (.iload_n 1, [], 0), (.aload_n 0, [], 0), (.iload_n 2, [], 0), (.invokevirtual 225, [144, 2, 5], 0), (.aload_n 0, [], 0), (.iload_n 2, [], 0), (.iconst 1, [], 0), (.isub, [], 0), (.invokevirtual 225, [144, 2, 5], 0), (.if_icmp .eq 7, [2], 0), (.iconst 1, [], 0), (.goto 4, [3], 0)]
def b_145_2 : List ab_I := [(.iconst 0, [], 0)]
def b_145_3 : List ab_I := [(.iadd, [], 0), (.istore_n 1, [], 0), (.iinc 2 1, [], 0), (.goto (-32), [1], 0)]
def b_145_4 : List ab_I := [(.iload_n 1, [], 0), (.ireturn, [0], 0)]
def bk_145 : List (List ab_I) := [b_145_0, b_145_1, b_145_2, b_145_3, b_145_4]
-- 146: RelayRaceModel.changes()I
def mr_146 : ab_M := (yX5_changes, prog_7_method_48_code, 1, some .int, 0, false)
def pc_146 : List Nat := [0]
def b_146_0 : List ab_I := [(.aload_n 0, [], 0), (.invokevirtual 228, [145, 1, 5], 0), (.ireturn, [0], 0)]
def bk_146 : List (List ab_I) := [b_146_0]
-- 147: RelayRaceModel.leaderOf(I)I
def mr_147 : ab_M := (yX5_leaderOf, prog_7_method_49_code, 7, some .int, 1, false)
def pc_147 : List Nat := [0, 11, 26, 50, 51, 60, 71, 72, 84, 85, 92, 100, 101]
def b_147_0 : List ab_I := [(.aload_n 0, [], 0), (.invokevirtual 204, [133, 1, 5], 0), (.iconst (-1), [], 0), (.istore_n 2, [], 0), (.iconst (-1), [], 0), (.istore_n 3, [], 0), (.iconst 0, [], 0), (.istore 4, [], 0)]
def b_147_1 : List ab_I := [(.iload 4, [], 0), (.aload_n 0, [], 0), (.getfield 119, [5, 2], 0), (.if_icmp .ge 75, [10], 0), (.iconst 0, [], 0), (.istore 5, [], 0), (.iconst 0, [], 0), (.istore 6, [], 0)]
def b_147_2 : List ab_I := [(.iload 6, [], 0), (.bipush 48, [], 0), (.if_icmp .ge 30, [5], 0), (.iload 5, [], 0), (.aload_n 0, [], 0), (.iload 6, [], 0), (.invokevirtual 225, [144, 2, 5], 0), (.iload 4, [], 0), (.if_icmp .ne 7, [3], 0), (.iconst 1, [], 0), (.goto 4, [4], 0)]
def b_147_3 : List ab_I := [(.iconst 0, [], 0)]
def b_147_4 : List ab_I := [(.iadd, [], 0), (.istore 5, [], 0), (.iinc 6 1, [], 0), (.goto (-31), [2], 0)]
def b_147_5 : List ab_I := [(.iload 5, [], 0), (.iload_n 3, [], 0), (.if_icmp .le 8, [6], 0), (.iload 4, [], 0), (.goto 4, [7], 0)]
def b_147_6 : List ab_I := [(.iload_n 2, [], 0)]
def b_147_7 : List ab_I := [(.istore_n 2, [], 0), (.iload 5, [], 0), (.iload_n 3, [], 0), (.if_icmp .le 8, [8], 0), (.iload 5, [], 0), (.goto 4, [9], 0)]
def b_147_8 : List ab_I := [(.iload_n 3, [], 0)]
def b_147_9 : List ab_I := [(.istore_n 3, [], 0), (.iinc 4 1, [], 0), (.goto (-78), [1], 0)]
def b_147_10 : List ab_I := [(.iload_n 1, [], 0), (.ifCond .ne 7, [11], 0), (.iload_n 2, [], 0), (.goto 4, [12], 0)]
def b_147_11 : List ab_I := [(.iload_n 3, [], 0)]
def b_147_12 : List ab_I := [(.ireturn, [0], 0)]
def bk_147 : List (List ab_I) := [b_147_0, b_147_1, b_147_2, b_147_3, b_147_4, b_147_5, b_147_6, b_147_7, b_147_8, b_147_9, b_147_10, b_147_11, b_147_12]
-- 148: RelayRaceModel.leader(I)I
def mr_148 : ab_M := (yX5_leader, prog_7_method_50_code, 2, some .int, 1, false)
def pc_148 : List Nat := [0, 15, 17]
def b_148_0 : List ab_I := [(.iload_n 1, [], 0), (.invokestatic 139, [107, 1, 0], 0), (.ifCond .eq 11, [1], 0), (.aload_n 0, [], 0), (.iload_n 1, [], 0), (.invokevirtual 231, [147, 2, 5], 0), (.goto 5, [2], 0)]
def b_148_1 : List ab_I := [(.bipush (-2), [], 0)]
def b_148_2 : List ab_I := [(.ireturn, [0], 0)]
def bk_148 : List (List ab_I) := [b_148_0, b_148_1, b_148_2]
-- 149: RelayRaceModel.stoodOf(I)I
def mr_149 : ab_M := (yX5_stoodOf, prog_7_method_51_code, 2, some .int, 1, false)
def pc_149 : List Nat := [0]
def b_149_0 : List ab_I := [(.aload_n 0, [], 0), (.invokevirtual 204, [133, 1, 5], 0), (.aload_n 0, [], 0), (.getfield 52, [5, 21], 0), (.iload_n 1, [], 0), (.iaload, [], 0), (.ireturn, [0], 0)]
def bk_149 : List (List ab_I) := [b_149_0]
-- 150: RelayRaceModel.stood(I)I
def mr_150 : ab_M := (yX5_stood, prog_7_method_52_code, 2, some .int, 1, false)
def pc_150 : List Nat := [0, 16, 18]
def b_150_0 : List ab_I := [(.aload_n 0, [], 0), (.iload_n 1, [], 0), (.invokevirtual 132, [118, 2, 5], 0), (.ifCond .eq 11, [1], 0), (.aload_n 0, [], 0), (.iload_n 1, [], 0), (.invokevirtual 234, [149, 2, 5], 0), (.goto 5, [2], 0)]
def b_150_1 : List ab_I := [(.bipush (-2), [], 0)]
def b_150_2 : List ab_I := [(.ireturn, [0], 0)]
def bk_150 : List (List ab_I) := [b_150_0, b_150_1, b_150_2]
-- 151: RelayRaceModel.puts(II)V
def mr_151 : ab_M := (yX5_puts, prog_7_method_53_code, 4, none, 2, false)
def pc_151 : List Nat := [0]
def b_151_0 : List ab_I := [(.iconst 4, [], 0), (.iload_n 1, [], 0), (.imul, [], 0), (.istore_n 3, [], 0), (.aload_n 0, [], 0), (.getfield 37, [5, 16], 0), (.iload_n 3, [], 0), (.iload_n 2, [], 0), (.bipush 64, [], 0), (.idiv, [], 0), (.iastore, [], 0), (.aload_n 0, [], 0), (.getfield 37, [5, 16], 0), (.iload_n 3, [], 0), (.iconst 1, [], 0), (.iadd, [], 0), (.iload_n 2, [], 0), (.bipush 16, [], 0), (.idiv, [], 0), (.iconst 4, [], 0), (.irem, [], 0), (.iastore, [], 0), (.aload_n 0, [], 0), (.getfield 37, [5, 16], 0), (.iload_n 3, [], 0), (.iconst 2, [], 0), (.iadd, [], 0), (.iload_n 2, [], 0), (.iconst 4, [], 0), (.idiv, [], 0), (.iconst 4, [], 0), (.irem, [], 0), (.iastore, [], 0), (.aload_n 0, [], 0), (.getfield 37, [5, 16], 0), (.iload_n 3, [], 0), (.iconst 3, [], 0), (.iadd, [], 0), (.iload_n 2, [], 0), (.iconst 4, [], 0), (.irem, [], 0), (.iastore, [], 0), (.return_, [], 0)]
def bk_151 : List (List ab_I) := [b_151_0]
-- 152: RelayRaceModel.isRow(I)Z
def mr_152 : ab_M := (yX5_isRow, prog_7_method_54_code, 1, some .boolean, 1, true)
def pc_152 : List Nat := [0, 38, 39]
def b_152_0 : List ab_I := [(.iconst 1, [], 0), (.iload_n 0, [], 0), (.bipush 64, [], 0), (.idiv, [], 0), (.ishl, [], 0), (.iconst 1, [], 0), (.iload_n 0, [], 0), (.bipush 16, [], 0), (.idiv, [], 0), (.iconst 4, [], 0), (.irem, [], 0), (.ishl, [], 0), (.ior, [], 0), (.iconst 1, [], 0), (.iload_n 0, [], 0), (.iconst 4, [], 0), (.idiv, [], 0), (.iconst 4, [], 0), (.irem, [], 0), (.ishl, [], 0), (.ior, [], 0), (.iconst 1, [], 0), (.iload_n 0, [], 0), (.iconst 4, [], 0), (.irem, [], 0), (.ishl, [], 0), (.ior, [], 0), (.bipush 15, [], 0), (.if_icmp .ne 7, [1], 0), (.iconst 1, [], 0), (.goto 4, [2], 0)]
def b_152_1 : List ab_I := [(.iconst 0, [], 0)]
def b_152_2 : List ab_I := [(.ireturn, [1], 0)]
def bk_152 : List (List ab_I) := [b_152_0, b_152_1, b_152_2]
-- 153: RelayRaceModel.orderOf(II)I
def mr_153 : ab_M := (yX5_orderOf, prog_7_method_55_code, 7, some .int, 2, false)
def pc_153 : List Nat := [0, 12, 65, 69, 70, 82, 83, 98, 100, 102, 108, 118, 121]
def b_153_0 : List ab_I := [(.aload_n 0, [], 0), (.invokevirtual 198, [125, 1, 5], 0), (.iconst (-1), [], 0), (.istore_n 3, [], 0), (.iconst (-1), [], 0), (.istore 4, [], 0), (.iconst 0, [], 0), (.istore 5, [], 0)]
def b_153_1 : List ab_I := [(.iload 5, [], 0), (.sipush 256, [], 0), (.if_icmp .ge 91, [10], 0), (.iload 5, [], 0), (.invokestatic 237, [152, 1, 0], 0), (.ifCond .eq 77, [9], 0), (.aload_n 0, [], 0), (.iload_n 1, [], 0), (.iload 5, [], 0), (.invokevirtual 240, [151, 3, 5], 0), (.aload_n 0, [], 0), (.invokevirtual 201, [132, 1, 5], 0), (.aload_n 0, [], 0), (.getfield 49, [5, 20], 0), (.iload_n 1, [], 0), (.iaload, [], 0), (.iconst (-1), [], 0), (.if_icmp .eq 23, [3], 0), (.iload_n 3, [], 0), (.iconst (-1), [], 0), (.if_icmp .eq 14, [2], 0), (.aload_n 0, [], 0), (.getfield 49, [5, 20], 0), (.iload_n 1, [], 0), (.iaload, [], 0), (.iload 4, [], 0), (.if_icmp .ge 7, [3], 0)]
def b_153_2 : List ab_I := [(.iconst 1, [], 0), (.goto 4, [4], 0)]
def b_153_3 : List ab_I := [(.iconst 0, [], 0)]
def b_153_4 : List ab_I := [(.istore 6, [], 0), (.iload 6, [], 0), (.ifCond .eq 8, [5], 0), (.iload 5, [], 0), (.goto 4, [6], 0)]
def b_153_5 : List ab_I := [(.iload_n 3, [], 0)]
def b_153_6 : List ab_I := [(.istore_n 3, [], 0), (.iload 6, [], 0), (.ifCond .eq 12, [7], 0), (.aload_n 0, [], 0), (.getfield 49, [5, 20], 0), (.iload_n 1, [], 0), (.iaload, [], 0), (.goto 5, [8], 0)]
def b_153_7 : List ab_I := [(.iload 4, [], 0)]
def b_153_8 : List ab_I := [(.istore 4, [], 0)]
def b_153_9 : List ab_I := [(.iinc 5 1, [], 0), (.goto (-93), [1], 0)]
def b_153_10 : List ab_I := [(.iload_n 3, [], 0), (.iconst (-1), [], 0), (.if_icmp .eq 8, [11], 0), (.iload_n 2, [], 0), (.iconst 4, [], 0), (.if_icmp .ne 6, [12], 0)]
def b_153_11 : List ab_I := [(.iload 4, [], 0), (.ireturn, [0], 0)]
def b_153_12 : List ab_I := [(.aload_n 0, [], 0), (.iload_n 1, [], 0), (.iload_n 3, [], 0), (.invokevirtual 240, [151, 3, 5], 0), (.aload_n 0, [], 0), (.getfield 37, [5, 16], 0), (.iconst 4, [], 0), (.iload_n 1, [], 0), (.imul, [], 0), (.iload_n 2, [], 0), (.iadd, [], 0), (.iaload, [], 0), (.ireturn, [0], 0)]
def bk_153 : List (List ab_I) := [b_153_0, b_153_1, b_153_2, b_153_3, b_153_4, b_153_5, b_153_6, b_153_7, b_153_8, b_153_9, b_153_10, b_153_11, b_153_12]
-- 154: RelayRaceModel.order(II)I
def mr_154 : ab_M := (yX5_order, prog_7_method_56_code, 3, some .int, 2, false)
def pc_154 : List Nat := [0, 26, 28]
def b_154_0 : List ab_I := [(.aload_n 0, [], 0), (.iload_n 1, [], 0), (.invokevirtual 132, [118, 2, 5], 0), (.ifCond .eq 21, [1], 0), (.iload_n 2, [], 0), (.iconst 0, [], 0), (.iconst 4, [], 0), (.invokestatic 104, [101, 3, 0], 0), (.ifCond .eq 12, [1], 0), (.aload_n 0, [], 0), (.iload_n 1, [], 0), (.iload_n 2, [], 0), (.invokevirtual 244, [153, 3, 5], 0), (.goto 5, [2], 0)]
def b_154_1 : List ab_I := [(.bipush (-2), [], 0)]
def b_154_2 : List ab_I := [(.ireturn, [0], 0)]
def bk_154 : List (List ab_I) := [b_154_0, b_154_1, b_154_2]
-- 155: RelayRaceModel.trainOf(II)I
def mr_155 : ab_M := (yX5_trainOf, prog_7_method_57_code, 8, some .int, 2, false)
def pc_155 : List Nat := [0, 12, 53, 57, 101, 105, 106, 118, 119, 134, 136, 144, 152, 154]
def b_155_0 : List ab_I := [(.aload_n 0, [], 0), (.invokevirtual 198, [125, 1, 5], 0), (.iconst (-1), [], 0), (.istore_n 3, [], 0), (.iconst (-1), [], 0), (.istore 4, [], 0), (.iconst 0, [], 0), (.istore 5, [], 0)]
def b_155_1 : List ab_I := [(.iload 5, [], 0), (.iconst 4, [], 0), (.if_icmp .ge 129, [11], 0), (.aload_n 0, [], 0), (.getfield 16, [5, 4], 0), (.iconst 4, [], 0), (.iload_n 1, [], 0), (.imul, [], 0), (.iload 5, [], 0), (.iadd, [], 0), (.iaload, [], 0), (.istore 6, [], 0), (.aload_n 0, [], 0), (.getfield 16, [5, 4], 0), (.iconst 4, [], 0), (.iload_n 1, [], 0), (.imul, [], 0), (.iload 5, [], 0), (.iadd, [], 0), (.iload 6, [], 0), (.bipush 9, [], 0), (.if_icmp .ne 8, [2], 0), (.bipush 9, [], 0), (.goto 7, [3], 0)]
def b_155_2 : List ab_I := [(.iload 6, [], 0), (.iconst 1, [], 0), (.iadd, [], 0)]
def b_155_3 : List ab_I := [(.iastore, [], 0), (.aload_n 0, [], 0), (.invokevirtual 201, [132, 1, 5], 0), (.aload_n 0, [], 0), (.getfield 16, [5, 4], 0), (.iconst 4, [], 0), (.iload_n 1, [], 0), (.imul, [], 0), (.iload 5, [], 0), (.iadd, [], 0), (.iload 6, [], 0), (.iastore, [], 0), (.aload_n 0, [], 0), (.getfield 49, [5, 20], 0), (.iload_n 1, [], 0), (.iaload, [], 0), (.iconst (-1), [], 0), (.if_icmp .eq 23, [5], 0), (.iload_n 3, [], 0), (.iconst (-1), [], 0), (.if_icmp .eq 14, [4], 0), (.aload_n 0, [], 0), (.getfield 49, [5, 20], 0), (.iload_n 1, [], 0), (.iaload, [], 0), (.iload 4, [], 0), (.if_icmp .ge 7, [5], 0)]
def b_155_4 : List ab_I := [(.iconst 1, [], 0), (.goto 4, [6], 0)]
def b_155_5 : List ab_I := [(.iconst 0, [], 0)]
def b_155_6 : List ab_I := [(.istore 7, [], 0), (.iload 7, [], 0), (.ifCond .eq 8, [7], 0), (.iload 5, [], 0), (.goto 4, [8], 0)]
def b_155_7 : List ab_I := [(.iload_n 3, [], 0)]
def b_155_8 : List ab_I := [(.istore_n 3, [], 0), (.iload 7, [], 0), (.ifCond .eq 12, [9], 0), (.aload_n 0, [], 0), (.getfield 49, [5, 20], 0), (.iload_n 1, [], 0), (.iaload, [], 0), (.goto 5, [10], 0)]
def b_155_9 : List ab_I := [(.iload 4, [], 0)]
def b_155_10 : List ab_I := [(.istore 4, [], 0), (.iinc 5 1, [], 0), (.goto (-129), [1], 0)]
def b_155_11 : List ab_I := [(.iload_n 2, [], 0), (.ifCond .ne 7, [12], 0), (.iload_n 3, [], 0), (.goto 5, [13], 0)]
def b_155_12 : List ab_I := [(.iload 4, [], 0)]
def b_155_13 : List ab_I := [(.ireturn, [0], 0)]
def bk_155 : List (List ab_I) := [b_155_0, b_155_1, b_155_2, b_155_3, b_155_4, b_155_5, b_155_6, b_155_7, b_155_8, b_155_9, b_155_10, b_155_11, b_155_12, b_155_13]
-- 156: RelayRaceModel.train(II)I
def mr_156 : ab_M := (yX5_train, prog_7_method_58_code, 3, some .int, 2, false)
def pc_156 : List Nat := [0, 24, 26]
def b_156_0 : List ab_I := [(.aload_n 0, [], 0), (.iload_n 1, [], 0), (.invokevirtual 132, [118, 2, 5], 0), (.ifCond .eq 19, [1], 0), (.iload_n 2, [], 0), (.invokestatic 139, [107, 1, 0], 0), (.ifCond .eq 12, [1], 0), (.aload_n 0, [], 0), (.iload_n 1, [], 0), (.iload_n 2, [], 0), (.invokevirtual 247, [155, 3, 5], 0), (.goto 5, [2], 0)]
def b_156_1 : List ab_I := [(.bipush (-2), [], 0)]
def b_156_2 : List ab_I := [(.ireturn, [0], 0)]
def bk_156 : List (List ab_I) := [b_156_0, b_156_1, b_156_2]
-- 157: RelayRaceModel.fitOf(I)I
def mr_157 : ab_M := (yX5_fitOf, prog_7_method_59_code, 3, some .int, 1, false)
def pc_157 : List Nat := [0, 7, 32, 38]
def b_157_0 : List ab_I := [(.aload_n 0, [], 0), (.invokevirtual 198, [125, 1, 5], 0), (.bipush 10, [], 0), (.istore_n 2, [], 0)]
def b_157_1 : List ab_I := [(.iload_n 2, [], 0), (.bipush 60, [], 0), (.if_icmp .gt 28, [3], 0), (.aload_n 0, [], 0), (.iload_n 2, [], 0), (.putfield 164, [5, 10, 0], 0), (.aload_n 0, [], 0), (.invokevirtual 201, [132, 1, 5], 0), (.aload_n 0, [], 0), (.invokevirtual 216, [140, 1, 5], 0), (.iload_n 1, [], 0), (.if_icmp .ne 5, [2], 0), (.iload_n 2, [], 0), (.ireturn, [0], 0)]
def b_157_2 : List ab_I := [(.iinc 2 1, [], 0), (.goto (-28), [1], 0)]
def b_157_3 : List ab_I := [(.iconst (-1), [], 0), (.ireturn, [0], 0)]
def bk_157 : List (List ab_I) := [b_157_0, b_157_1, b_157_2, b_157_3]
-- 158: RelayRaceModel.fit(I)I
def mr_158 : ab_M := (yX5_fit, prog_7_method_60_code, 2, some .int, 1, false)
def pc_158 : List Nat := [0, 16, 18]
def b_158_0 : List ab_I := [(.aload_n 0, [], 0), (.iload_n 1, [], 0), (.invokevirtual 132, [118, 2, 5], 0), (.ifCond .eq 11, [1], 0), (.aload_n 0, [], 0), (.iload_n 1, [], 0), (.invokevirtual 250, [157, 2, 5], 0), (.goto 5, [2], 0)]
def b_158_1 : List ab_I := [(.bipush (-2), [], 0)]
def b_158_2 : List ab_I := [(.ireturn, [0], 0)]
def bk_158 : List (List ab_I) := [b_158_0, b_158_1, b_158_2]
-- 159: RelayRaceModel.isSpared(I)Z
def mr_159 : ab_M := (yX5_isSpared, prog_7_method_61_code, 2, some .boolean, 1, false)
def pc_159 : List Nat := [0, 20, 21]
def b_159_0 : List ab_I := [(.aload_n 0, [], 0), (.iload_n 1, [], 0), (.putfield 170, [5, 15, 0], 0), (.aload_n 0, [], 0), (.invokevirtual 201, [132, 1, 5], 0), (.aload_n 0, [], 0), (.invokevirtual 216, [140, 1, 5], 0), (.ifCond .ne 7, [1], 0), (.iconst 1, [], 0), (.goto 4, [2], 0)]
def b_159_1 : List ab_I := [(.iconst 0, [], 0)]
def b_159_2 : List ab_I := [(.ireturn, [1], 0)]
def bk_159 : List (List ab_I) := [b_159_0, b_159_1, b_159_2]
-- 160: RelayRaceModel.spareBy()I
def mr_160 : ab_M := (yX5_spareBy, prog_7_method_62_code, 3, some .int, 0, false)
def pc_160 : List Nat := [0, 14, 16, 43, 49, 51, 63, 101, 107, 113]
def b_160_0 : List ab_I := [(.aload_n 0, [], 0), (.invokevirtual 198, [125, 1, 5], 0), (.aload_n 0, [], 0), (.iconst 0, [], 0), (.invokevirtual 253, [159, 2, 5], 0), (.ifCond .eq 5, [1], 0), (.iconst 0, [], 0), (.ireturn, [0], 0)]
def b_160_1 : List ab_I := [(.iconst 0, [], 0), (.istore_n 1, [], 0)]
def b_160_2 : List ab_I := [(.iload_n 1, [], 0), (.aload_n 0, [], 0), (.getfield 152, [5, 6], 0), (.if_icmp .ge 28, [4], 0), (.aload_n 0, [], 0), (.getfield 67, [5, 26], 0), (.iconst 0, [], 0), (.iload_n 1, [], 0), (.iastore, [], 0), (.aload_n 0, [], 0), (.iconst 1, [], 0), (.iload_n 1, [], 0), (.ishl, [], 0), (.invokevirtual 253, [159, 2, 5], 0), (.ifCond .eq 5, [3], 0), (.iconst 1, [], 0), (.ireturn, [0], 0)]
def b_160_3 : List ab_I := [(.iinc 1 1, [], 0), (.goto (-30), [2], 0)]
def b_160_4 : List ab_I := [(.iconst 0, [], 0), (.istore_n 1, [], 0)]
def b_160_5 : List ab_I := [(.iload_n 1, [], 0), (.aload_n 0, [], 0), (.getfield 152, [5, 6], 0), (.if_icmp .ge 57, [9], 0), (.iload_n 1, [], 0), (.iconst 1, [], 0), (.iadd, [], 0), (.istore_n 2, [], 0)]
def b_160_6 : List ab_I := [(.iload_n 2, [], 0), (.aload_n 0, [], 0), (.getfield 152, [5, 6], 0), (.if_icmp .ge 39, [8], 0), (.aload_n 0, [], 0), (.getfield 67, [5, 26], 0), (.iconst 0, [], 0), (.iload_n 1, [], 0), (.iastore, [], 0), (.aload_n 0, [], 0), (.getfield 67, [5, 26], 0), (.iconst 1, [], 0), (.iload_n 2, [], 0), (.iastore, [], 0), (.aload_n 0, [], 0), (.iconst 1, [], 0), (.iload_n 1, [], 0), (.ishl, [], 0), (.iconst 1, [], 0), (.iload_n 2, [], 0), (.ishl, [], 0), (.ior, [], 0), (.invokevirtual 253, [159, 2, 5], 0), (.ifCond .eq 5, [7], 0), (.iconst 2, [], 0), (.ireturn, [0], 0)]
def b_160_7 : List ab_I := [(.iinc 2 1, [], 0), (.goto (-41), [6], 0)]
def b_160_8 : List ab_I := [(.iinc 1 1, [], 0), (.goto (-59), [5], 0)]
def b_160_9 : List ab_I := [(.iconst (-1), [], 0), (.ireturn, [0], 0)]
def bk_160 : List (List ab_I) := [b_160_0, b_160_1, b_160_2, b_160_3, b_160_4, b_160_5, b_160_6, b_160_7, b_160_8, b_160_9]
-- 161: RelayRaceModel.ofRow(II)I
def mr_161 : ab_M := (yX5_ofRow, prog_7_method_63_code, 3, some .int, 2, false)
def pc_161 : List Nat := [0, 9, 23, 24]
def b_161_0 : List ab_I := [(.iload_n 2, [], 0), (.iconst (-1), [], 0), (.if_icmp .ne 7, [1], 0), (.iload_n 1, [], 0), (.goto 18, [3], 0)]
def b_161_1 : List ab_I := [(.iload_n 2, [], 0), (.iload_n 1, [], 0), (.if_icmp .ge 12, [2], 0), (.aload_n 0, [], 0), (.getfield 67, [5, 26], 0), (.iload_n 2, [], 0), (.iaload, [], 0), (.goto 4, [3], 0)]
def b_161_2 : List ab_I := [(.iconst (-1), [], 0)]
def b_161_3 : List ab_I := [(.ireturn, [0], 0)]
def bk_161 : List (List ab_I) := [b_161_0, b_161_1, b_161_2, b_161_3]
-- 162: RelayRaceModel.spare(I)I
def mr_162 : ab_M := (yX5_spare, prog_7_method_64_code, 2, some .int, 1, false)
def pc_162 : List Nat := [0, 21, 23]
def b_162_0 : List ab_I := [(.iload_n 1, [], 0), (.iconst (-1), [], 0), (.iconst 1, [], 0), (.invokestatic 104, [101, 3, 0], 0), (.ifCond .eq 15, [1], 0), (.aload_n 0, [], 0), (.aload_n 0, [], 0), (.invokevirtual 256, [160, 1, 5], 0), (.iload_n 1, [], 0), (.invokevirtual 259, [161, 3, 5], 0), (.goto 5, [2], 0)]
def b_162_1 : List ab_I := [(.bipush (-2), [], 0)]
def b_162_2 : List ab_I := [(.ireturn, [0], 0)]
def bk_162 : List (List ab_I) := [b_162_0, b_162_1, b_162_2]
-- 163: RelayRaceModel.seen(III)I
def mr_163 : ab_M := (yX5_seen, prog_7_method_65_code, 4, some .int, 3, false)
def pc_163 : List Nat := [0, 21, 24, 36]
def b_163_0 : List ab_I := [(.iload_n 1, [], 0), (.invokestatic 149, [105, 1, 0], 0), (.ifCond .eq 17, [1], 0), (.iload_n 2, [], 0), (.invokestatic 136, [106, 1, 0], 0), (.ifCond .eq 10, [1], 0), (.iload_n 3, [], 0), (.invokestatic 136, [106, 1, 0], 0), (.ifCond .ne 6, [2], 0)]
def b_163_1 : List ab_I := [(.bipush (-2), [], 0), (.ireturn, [0], 0)]
def b_163_2 : List ab_I := [(.aload_n 0, [], 0), (.getfield 262, [5, 27], 0), (.bipush 8, [], 0), (.if_icmp .ne 6, [3], 0), (.bipush (-4), [], 0), (.ireturn, [0], 0)]
def b_163_3 : List ab_I := [(.aload_n 0, [], 0), (.getfield 70, [5, 28], 0), (.aload_n 0, [], 0), (.getfield 262, [5, 27], 0), (.iload_n 1, [], 0), (.iastore, [], 0), (.aload_n 0, [], 0), (.getfield 73, [5, 29], 0), (.aload_n 0, [], 0), (.getfield 262, [5, 27], 0), (.iload_n 2, [], 0), (.iastore, [], 0), (.aload_n 0, [], 0), (.getfield 76, [5, 30], 0), (.aload_n 0, [], 0), (.getfield 262, [5, 27], 0), (.iload_n 3, [], 0), (.iastore, [], 0), (.aload_n 0, [], 0), (.dup, [], 0), (.getfield 262, [5, 27], 0), (.iconst 1, [], 0), (.iadd, [], 0), (.putfield 262, [5, 27, 0], 0), (.aload_n 0, [], 0), (.getfield 262, [5, 27], 0), (.ireturn, [0], 0)]
def bk_163 : List (List ab_I) := [b_163_0, b_163_1, b_163_2, b_163_3]
-- 164: RelayRaceModel.forget()I
def mr_164 : ab_M := (yX5_forget, prog_7_method_66_code, 2, some .int, 0, false)
def pc_164 : List Nat := [0]
def b_164_0 : List ab_I := [(.aload_n 0, [], 0), (.getfield 262, [5, 27], 0), (.istore_n 1, [], 0), (.aload_n 0, [], 0), (.iconst 0, [], 0), (.putfield 262, [5, 27, 0], 0), (.iload_n 1, [], 0), (.ireturn, [0], 0)]
def bk_164 : List (List ab_I) := [b_164_0]
-- 165: RelayRaceModel.isSeen()Z
def mr_165 : ab_M := (yX5_isSeen, prog_7_method_67_code, 3, some .boolean, 0, false)
def pc_165 : List Nat := [0, 8, 66, 67, 74]
def b_165_0 : List ab_I := [(.aload_n 0, [], 0), (.invokevirtual 201, [132, 1, 5], 0), (.iconst 1, [], 0), (.istore_n 1, [], 0), (.iconst 0, [], 0), (.istore_n 2, [], 0)]
def b_165_1 : List ab_I := [(.iload_n 2, [], 0), (.aload_n 0, [], 0), (.getfield 262, [5, 27], 0), (.if_icmp .ge 61, [4], 0), (.iload_n 1, [], 0), (.ifCond .eq 57, [4], 0), (.aload_n 0, [], 0), (.getfield 73, [5, 29], 0), (.iload_n 2, [], 0), (.iaload, [], 0), (.aload_n 0, [], 0), (.getfield 119, [5, 2], 0), (.if_icmp .ge 36, [2], 0), (.aload_n 0, [], 0), (.getfield 64, [5, 25], 0), (.iconst 4, [], 0), (.aload_n 0, [], 0), (.getfield 70, [5, 28], 0), (.iload_n 2, [], 0), (.iaload, [], 0), (.imul, [], 0), (.aload_n 0, [], 0), (.getfield 73, [5, 29], 0), (.iload_n 2, [], 0), (.iaload, [], 0), (.iadd, [], 0), (.iaload, [], 0), (.aload_n 0, [], 0), (.getfield 76, [5, 30], 0), (.iload_n 2, [], 0), (.iaload, [], 0), (.if_icmp .ne 7, [2], 0), (.iconst 1, [], 0), (.goto 4, [3], 0)]
def b_165_2 : List ab_I := [(.iconst 0, [], 0)]
def b_165_3 : List ab_I := [(.istore_n 1, [], 0), (.iinc 2 1, [], 0), (.goto (-63), [1], 0)]
def b_165_4 : List ab_I := [(.iload_n 1, [], 0), (.ireturn, [1], 0)]
def bk_165 : List (List ab_I) := [b_165_0, b_165_1, b_165_2, b_165_3, b_165_4]
-- 166: RelayRaceModel.neverNow()I
def mr_166 : ab_M := (yX5_neverNow, prog_7_method_68_code, 3, some .int, 0, false)
def pc_166 : List Nat := [0, 8, 37, 38, 46]
def b_166_0 : List ab_I := [(.aload_n 0, [], 0), (.invokevirtual 198, [125, 1, 5], 0), (.iconst 0, [], 0), (.istore_n 1, [], 0), (.iconst 0, [], 0), (.istore_n 2, [], 0)]
def b_166_1 : List ab_I := [(.iload_n 2, [], 0), (.aload_n 0, [], 0), (.getfield 152, [5, 6], 0), (.if_icmp .ge 33, [4], 0), (.aload_n 0, [], 0), (.iconst 1, [], 0), (.iload_n 2, [], 0), (.ishl, [], 0), (.putfield 170, [5, 15, 0], 0), (.iload_n 1, [], 0), (.aload_n 0, [], 0), (.invokevirtual 265, [165, 1, 5], 0), (.ifCond .eq 9, [2], 0), (.iconst 1, [], 0), (.iload_n 2, [], 0), (.ishl, [], 0), (.goto 4, [3], 0)]
def b_166_2 : List ab_I := [(.iconst 0, [], 0)]
def b_166_3 : List ab_I := [(.ior, [], 0), (.istore_n 1, [], 0), (.iinc 2 1, [], 0), (.goto (-35), [1], 0)]
def b_166_4 : List ab_I := [(.iload_n 1, [], 0), (.ireturn, [0], 0)]
def bk_166 : List (List ab_I) := [b_166_0, b_166_1, b_166_2, b_166_3, b_166_4]
-- 167: RelayRaceModel.never()I
def mr_167 : ab_M := (yX5_never, prog_7_method_69_code, 1, some .int, 0, false)
def pc_167 : List Nat := [0]
def b_167_0 : List ab_I := [(.aload_n 0, [], 0), (.invokevirtual 269, [166, 1, 5], 0), (.ireturn, [0], 0)]
def bk_167 : List (List ab_I) := [b_167_0]
-- 168: RelayRaceModel.pacesBy(I)I
def mr_168 : ab_M := (yX5_pacesBy, prog_7_method_70_code, 8, some .int, 1, false)
def pc_168 : List Nat := [0, 16, 46, 47, 52, 65, 99, 120, 126]
def b_168_0 : List ab_I := [(.aload_n 0, [], 0), (.invokevirtual 198, [125, 1, 5], 0), (.aload_n 0, [], 0), (.getfield 16, [5, 4], 0), (.iload_n 1, [], 0), (.iaload, [], 0), (.istore_n 2, [], 0), (.iconst 0, [], 0), (.istore_n 3, [], 0), (.iconst 1, [], 0), (.istore 4, [], 0)]
def b_168_1 : List ab_I := [(.iload 4, [], 0), (.bipush 10, [], 0), (.if_icmp .ge 106, [8], 0), (.aload_n 0, [], 0), (.getfield 16, [5, 4], 0), (.iload_n 1, [], 0), (.iload 4, [], 0), (.iastore, [], 0), (.iload_n 3, [], 0), (.aload_n 0, [], 0), (.invokevirtual 265, [165, 1, 5], 0), (.ifCond .eq 10, [2], 0), (.iconst 1, [], 0), (.iload 4, [], 0), (.ishl, [], 0), (.goto 4, [3], 0)]
def b_168_2 : List ab_I := [(.iconst 0, [], 0)]
def b_168_3 : List ab_I := [(.ior, [], 0), (.istore_n 3, [], 0), (.iconst 0, [], 0), (.istore 5, [], 0)]
def b_168_4 : List ab_I := [(.iload 5, [], 0), (.bipush 48, [], 0), (.if_icmp .ge 64, [7], 0), (.iconst 0, [], 0), (.istore 6, [], 0), (.iconst 0, [], 0), (.istore 7, [], 0)]
def b_168_5 : List ab_I := [(.iload 7, [], 0), (.aload_n 0, [], 0), (.getfield 119, [5, 2], 0), (.if_icmp .ge 28, [6], 0), (.iconst 4, [], 0), (.iload 6, [], 0), (.imul, [], 0), (.aload_n 0, [], 0), (.getfield 64, [5, 25], 0), (.iconst 4, [], 0), (.iload 5, [], 0), (.imul, [], 0), (.iload 7, [], 0), (.iadd, [], 0), (.iaload, [], 0), (.iadd, [], 0), (.istore 6, [], 0), (.iinc 7 1, [], 0), (.goto (-31), [5], 0)]
def b_168_6 : List ab_I := [(.aload_n 0, [], 0), (.getfield 79, [5, 31], 0), (.bipush 48, [], 0), (.iload 4, [], 0), (.imul, [], 0), (.iload 5, [], 0), (.iadd, [], 0), (.iload 6, [], 0), (.iastore, [], 0), (.iinc 5 1, [], 0), (.goto (-65), [4], 0)]
def b_168_7 : List ab_I := [(.iinc 4 1, [], 0), (.goto (-107), [1], 0)]
def b_168_8 : List ab_I := [(.aload_n 0, [], 0), (.getfield 16, [5, 4], 0), (.iload_n 1, [], 0), (.iload_n 2, [], 0), (.iastore, [], 0), (.iload_n 3, [], 0), (.ireturn, [0], 0)]
def bk_168 : List (List ab_I) := [b_168_0, b_168_1, b_168_2, b_168_3, b_168_4, b_168_5, b_168_6, b_168_7, b_168_8]
-- 169: RelayRaceModel.sortsBy(I)I
def mr_169 : ab_M := (yX5_sortsBy, prog_7_method_71_code, 5, some .int, 1, false)
def pc_169 : List Nat := [0, 16, 45, 46, 54]
def b_169_0 : List ab_I := [(.aload_n 0, [], 0), (.invokevirtual 198, [125, 1, 5], 0), (.aload_n 0, [], 0), (.getfield 13, [5, 3], 0), (.iload_n 1, [], 0), (.iaload, [], 0), (.istore_n 2, [], 0), (.iconst 0, [], 0), (.istore_n 3, [], 0), (.iconst 0, [], 0), (.istore 4, [], 0)]
def b_169_1 : List ab_I := [(.iload 4, [], 0), (.iconst 3, [], 0), (.if_icmp .ge 35, [4], 0), (.aload_n 0, [], 0), (.getfield 13, [5, 3], 0), (.iload_n 1, [], 0), (.iload 4, [], 0), (.iastore, [], 0), (.iload_n 3, [], 0), (.aload_n 0, [], 0), (.invokevirtual 265, [165, 1, 5], 0), (.ifCond .eq 10, [2], 0), (.iconst 1, [], 0), (.iload 4, [], 0), (.ishl, [], 0), (.goto 4, [3], 0)]
def b_169_2 : List ab_I := [(.iconst 0, [], 0)]
def b_169_3 : List ab_I := [(.ior, [], 0), (.istore_n 3, [], 0), (.iinc 4 1, [], 0), (.goto (-35), [1], 0)]
def b_169_4 : List ab_I := [(.aload_n 0, [], 0), (.getfield 13, [5, 3], 0), (.iload_n 1, [], 0), (.iload_n 2, [], 0), (.iastore, [], 0), (.iload_n 3, [], 0), (.ireturn, [0], 0)]
def bk_169 : List (List ab_I) := [b_169_0, b_169_1, b_169_2, b_169_3, b_169_4]
-- 170: RelayRaceModel.was(III)I
def mr_170 : ab_M := (yX5_was, prog_7_method_72_code, 4, some .int, 3, false)
def pc_170 : List Nat := [0, 38, 50, 52]
def b_170_0 : List ab_I := [(.aload_n 0, [], 0), (.iload_n 1, [], 0), (.invokevirtual 132, [118, 2, 5], 0), (.ifCond .eq 45, [2], 0), (.iload_n 2, [], 0), (.invokestatic 136, [106, 1, 0], 0), (.ifCond .eq 38, [2], 0), (.iload_n 3, [], 0), (.invokestatic 139, [107, 1, 0], 0), (.ifCond .eq 31, [2], 0), (.iload_n 3, [], 0), (.ifCond .ne 15, [1], 0), (.aload_n 0, [], 0), (.iconst 4, [], 0), (.iload_n 1, [], 0), (.imul, [], 0), (.iload_n 2, [], 0), (.iadd, [], 0), (.invokevirtual 272, [168, 2, 5], 0), (.goto 17, [3], 0)]
def b_170_1 : List ab_I := [(.aload_n 0, [], 0), (.iconst 4, [], 0), (.iload_n 1, [], 0), (.imul, [], 0), (.iload_n 2, [], 0), (.iadd, [], 0), (.invokevirtual 275, [169, 2, 5], 0), (.goto 5, [3], 0)]
def b_170_2 : List ab_I := [(.bipush (-2), [], 0)]
def b_170_3 : List ab_I := [(.ireturn, [0], 0)]
def bk_170 : List (List ab_I) := [b_170_0, b_170_1, b_170_2, b_170_3]
-- 171: RelayRaceModel.askOf(I)I
def mr_171 : ab_M := (yX5_askOf, prog_7_method_73_code, 10, some .int, 1, false)
def pc_171 : List Nat := [0, 14, 27, 40, 100, 101, 110, 122, 124, 132, 144, 148, 149, 161, 162, 173, 175, 183]
def b_171_0 : List ab_I := [(.aload_n 0, [], 0), (.iload_n 1, [], 0), (.invokevirtual 272, [168, 2, 5], 0), (.istore_n 2, [], 0), (.iconst (-1), [], 0), (.istore_n 3, [], 0), (.iconst 0, [], 0), (.istore 4, [], 0), (.iconst 0, [], 0), (.istore 5, [], 0)]
def b_171_1 : List ab_I := [(.iload 5, [], 0), (.bipush 48, [], 0), (.if_icmp .ge 165, [17], 0), (.iconst 0, [], 0), (.istore 6, [], 0), (.iconst 1, [], 0), (.istore 7, [], 0)]
def b_171_2 : List ab_I := [(.iload 7, [], 0), (.bipush 10, [], 0), (.if_icmp .ge 101, [9], 0), (.iconst 0, [], 0), (.istore 8, [], 0), (.iconst 1, [], 0), (.istore 9, [], 0)]
def b_171_3 : List ab_I := [(.iload 9, [], 0), (.bipush 10, [], 0), (.if_icmp .ge 66, [6], 0), (.iload 8, [], 0), (.iload_n 2, [], 0), (.iload 7, [], 0), (.invokestatic 173, [102, 2, 0], 0), (.ifCond .eq 45, [4], 0), (.iload_n 2, [], 0), (.iload 9, [], 0), (.invokestatic 173, [102, 2, 0], 0), (.ifCond .eq 36, [4], 0), (.aload_n 0, [], 0), (.getfield 79, [5, 31], 0), (.bipush 48, [], 0), (.iload 7, [], 0), (.imul, [], 0), (.iload 5, [], 0), (.iadd, [], 0), (.iaload, [], 0), (.aload_n 0, [], 0), (.getfield 79, [5, 31], 0), (.bipush 48, [], 0), (.iload 9, [], 0), (.imul, [], 0), (.iload 5, [], 0), (.iadd, [], 0), (.iaload, [], 0), (.if_icmp .ne 7, [4], 0), (.iconst 1, [], 0), (.goto 4, [5], 0)]
def b_171_4 : List ab_I := [(.iconst 0, [], 0)]
def b_171_5 : List ab_I := [(.iadd, [], 0), (.istore 8, [], 0), (.iinc 9 1, [], 0), (.goto (-67), [3], 0)]
def b_171_6 : List ab_I := [(.iload 8, [], 0), (.iload 6, [], 0), (.if_icmp .le 8, [7], 0), (.iload 8, [], 0), (.goto 5, [8], 0)]
def b_171_7 : List ab_I := [(.iload 6, [], 0)]
def b_171_8 : List ab_I := [(.istore 6, [], 0), (.iinc 7 1, [], 0), (.goto (-102), [2], 0)]
def b_171_9 : List ab_I := [(.iload_n 3, [], 0), (.iconst (-1), [], 0), (.if_icmp .eq 10, [10], 0), (.iload 6, [], 0), (.iload 4, [], 0), (.if_icmp .ge 7, [11], 0)]
def b_171_10 : List ab_I := [(.iconst 1, [], 0), (.goto 4, [12], 0)]
def b_171_11 : List ab_I := [(.iconst 0, [], 0)]
def b_171_12 : List ab_I := [(.istore 7, [], 0), (.iload 7, [], 0), (.ifCond .eq 8, [13], 0), (.iload 5, [], 0), (.goto 4, [14], 0)]
def b_171_13 : List ab_I := [(.iload_n 3, [], 0)]
def b_171_14 : List ab_I := [(.istore_n 3, [], 0), (.iload 7, [], 0), (.ifCond .eq 8, [15], 0), (.iload 6, [], 0), (.goto 5, [16], 0)]
def b_171_15 : List ab_I := [(.iload 4, [], 0)]
def b_171_16 : List ab_I := [(.istore 4, [], 0), (.iinc 5 1, [], 0), (.goto (-166), [1], 0)]
def b_171_17 : List ab_I := [(.iload_n 3, [], 0), (.ireturn, [0], 0)]
def bk_171 : List (List ab_I) := [b_171_0, b_171_1, b_171_2, b_171_3, b_171_4, b_171_5, b_171_6, b_171_7, b_171_8, b_171_9, b_171_10, b_171_11, b_171_12, b_171_13, b_171_14, b_171_15, b_171_16, b_171_17]
-- 172: RelayRaceModel.ask(II)I
def mr_172 : ab_M := (yX5_ask, prog_7_method_74_code, 3, some .int, 2, false)
def pc_172 : List Nat := [0, 27, 29]
def b_172_0 : List ab_I := [(.aload_n 0, [], 0), (.iload_n 1, [], 0), (.invokevirtual 132, [118, 2, 5], 0), (.ifCond .eq 22, [1], 0), (.iload_n 2, [], 0), (.invokestatic 136, [106, 1, 0], 0), (.ifCond .eq 15, [1], 0), (.aload_n 0, [], 0), (.iconst 4, [], 0), (.iload_n 1, [], 0), (.imul, [], 0), (.iload_n 2, [], 0), (.iadd, [], 0), (.invokevirtual 278, [171, 2, 5], 0), (.goto 5, [2], 0)]
def b_172_1 : List ab_I := [(.bipush (-2), [], 0)]
def b_172_2 : List ab_I := [(.ireturn, [0], 0)]
def bk_172 : List (List ab_I) := [b_172_0, b_172_1, b_172_2]
-- 173: RelayRaceModel.chanceOf(III)J
def mr_173 : ab_M := (yX5_chanceOf, prog_7_method_75_code, 10, some .long, 3, false)
def pc_173 : List Nat := [0, 10, 27, 56, 58, 67, 99, 100, 103, 109]
def b_173_0 : List ab_I := [(.aload_n 0, [], 0), (.invokevirtual 198, [125, 1, 5], 0), (.lconst 0, [], 0), (.lstore 4, [], 0), (.iconst 0, [], 0), (.istore 6, [], 0)]
def b_173_1 : List ab_I := [(.iload 6, [], 0), (.iconst 1, [], 0), (.aload_n 0, [], 0), (.getfield 152, [5, 6], 0), (.ishl, [], 0), (.if_icmp .ge 91, [9], 0), (.lconst 1, [], 0), (.lstore 7, [], 0), (.iconst 0, [], 0), (.istore 9, [], 0)]
def b_173_2 : List ab_I := [(.iload 9, [], 0), (.aload_n 0, [], 0), (.getfield 152, [5, 6], 0), (.if_icmp .ge 34, [5], 0), (.lload 7, [], 0), (.iload 6, [], 0), (.iload 9, [], 0), (.invokestatic 173, [102, 2, 0], 0), (.ifCond .eq 11, [3], 0), (.bipush 16, [], 0), (.iload_n 1, [], 0), (.isub, [], 0), (.i2l, [], 0), (.goto 5, [4], 0)]
def b_173_3 : List ab_I := [(.iload_n 1, [], 0), (.i2l, [], 0)]
def b_173_4 : List ab_I := [(.lmul, [], 0), (.lstore 7, [], 0), (.iinc 9 1, [], 0), (.goto (-37), [2], 0)]
def b_173_5 : List ab_I := [(.lload 7, [], 0), (.lconst 0, [], 0), (.lcmp, [], 0), (.ifCond .le 32, [8], 0), (.aload_n 0, [], 0), (.iload 6, [], 0), (.putfield 170, [5, 15, 0], 0), (.aload_n 0, [], 0), (.invokevirtual 201, [132, 1, 5], 0), (.lload 4, [], 0), (.aload_n 0, [], 0), (.invokevirtual 216, [140, 1, 5], 0), (.iload_n 2, [], 0), (.if_icmp .ne 8, [6], 0), (.lload 7, [], 0), (.goto 4, [7], 0)]
def b_173_6 : List ab_I := [(.lconst 0, [], 0)]
def b_173_7 : List ab_I := [(.ladd, [], 0), (.lstore 4, [], 0)]
def b_173_8 : List ab_I := [(.iinc 6 1, [], 0), (.goto (-96), [1], 0)]
def b_173_9 : List ab_I := [(.lload 4, [], 0), (.lconst 1, [], 0), (.iconst 4, [], 0), (.aload_n 0, [], 0), (.getfield 152, [5, 6], 0), (.imul, [], 0), (.lshl, [], 0), (.iload_n 3, [], 0), (.invokestatic 281, [104, 3, 0], 0), (.lreturn, [], 0)]
def bk_173 : List (List ab_I) := [b_173_0, b_173_1, b_173_2, b_173_3, b_173_4, b_173_5, b_173_6, b_173_7, b_173_8, b_173_9]
-- 174: RelayRaceModel.chance(III)J
def mr_174 : ab_M := (yX5_chance, prog_7_method_76_code, 4, some .long, 3, false)
def pc_174 : List Nat := [0, 35, 40]
def b_174_0 : List ab_I := [(.iload_n 1, [], 0), (.iconst 0, [], 0), (.bipush 16, [], 0), (.invokestatic 104, [101, 3, 0], 0), (.ifCond .eq 28, [1], 0), (.aload_n 0, [], 0), (.iload_n 2, [], 0), (.invokevirtual 132, [118, 2, 5], 0), (.ifCond .eq 20, [1], 0), (.iload_n 3, [], 0), (.invokestatic 139, [107, 1, 0], 0), (.ifCond .eq 13, [1], 0), (.aload_n 0, [], 0), (.iload_n 1, [], 0), (.iload_n 2, [], 0), (.iload_n 3, [], 0), (.invokevirtual 285, [173, 4, 5], 0), (.goto 8, [2], 0)]
def b_174_1 : List ab_I := [(.bipush (-2), [], 0), (.invokestatic 289, [103, 1, 0], 0)]
def b_174_2 : List ab_I := [(.lreturn, [], 0)]
def bk_174 : List (List ab_I) := [b_174_0, b_174_1, b_174_2]
-- 175: RelayRaceModel.yearsOf(III)I
def mr_175 : ab_M := (yX5_yearsOf, prog_7_method_77_code, 6, some .int, 3, false)
def pc_175 : List Nat := [0, 15, 106]
def b_175_0 : List ab_I := [(.aload_n 0, [], 0), (.invokevirtual 198, [125, 1, 5], 0), (.iload_n 1, [], 0), (.istore 4, [], 0), (.aload_n 0, [], 0), (.iload_n 2, [], 0), (.putfield 167, [5, 11, 0], 0), (.iconst 0, [], 0), (.istore 5, [], 0)]
def b_175_1 : List ab_I := [(.iload 5, [], 0), (.iload_n 2, [], 0), (.if_icmp .ge 88, [2], 0), (.ldc_w 293, [], 1103515245), (.iload 4, [], 0), (.imul, [], 0), (.sipush 12345, [], 0), (.iadd, [], 0), (.istore 4, [], 0), (.aload_n 0, [], 0), (.getfield 28, [5, 12], 0), (.iload 5, [], 0), (.iload 4, [], 0), (.bipush 16, [], 0), (.iushr, [], 0), (.iconst 3, [], 0), (.irem, [], 0), (.iastore, [], 0), (.ldc_w 293, [], 1103515245), (.iload 4, [], 0), (.imul, [], 0), (.sipush 12345, [], 0), (.iadd, [], 0), (.istore 4, [], 0), (.aload_n 0, [], 0), (.getfield 31, [5, 13], 0), (.iload 5, [], 0), (.iload 4, [], 0), (.bipush 16, [], 0), (.iushr, [], 0), (.bipush 48, [], 0), (.irem, [], 0), (.iastore, [], 0), (.ldc_w 293, [], 1103515245), (.iload 4, [], 0), (.imul, [], 0), (.sipush 12345, [], 0), (.iadd, [], 0), (.istore 4, [], 0), (.aload_n 0, [], 0), (.getfield 34, [5, 14], 0), (.iload 5, [], 0), (.iload 4, [], 0), (.bipush 16, [], 0), (.iushr, [], 0), (.iconst 4, [], 0), (.irem, [], 0), (.iastore, [], 0), (.iinc 5 1, [], 0), (.goto (-88), [1], 0)]
def b_175_2 : List ab_I := [(.aload_n 0, [], 0), (.invokevirtual 201, [132, 1, 5], 0), (.aload_n 0, [], 0), (.iload_n 3, [], 0), (.invokevirtual 219, [141, 2, 5], 0), (.ireturn, [0], 0)]
def bk_175 : List (List ab_I) := [b_175_0, b_175_1, b_175_2]
-- 176: RelayRaceModel.years(III)I
def mr_176 : ab_M := (yX5_years, prog_7_method_78_code, 4, some .int, 3, false)
def pc_176 : List Nat := [0, 27, 29]
def b_176_0 : List ab_I := [(.iload_n 2, [], 0), (.iconst 0, [], 0), (.bipush 8, [], 0), (.invokestatic 104, [101, 3, 0], 0), (.ifCond .eq 20, [1], 0), (.iload_n 3, [], 0), (.invokestatic 139, [107, 1, 0], 0), (.ifCond .eq 13, [1], 0), (.aload_n 0, [], 0), (.iload_n 1, [], 0), (.iload_n 2, [], 0), (.iload_n 3, [], 0), (.invokevirtual 294, [175, 4, 5], 0), (.goto 5, [2], 0)]
def b_176_1 : List ab_I := [(.bipush (-2), [], 0)]
def b_176_2 : List ab_I := [(.ireturn, [0], 0)]
def bk_176 : List (List ab_I) := [b_176_0, b_176_1, b_176_2]
-- 177: RelayRaceModel.meets(I)I
def mr_177 : ab_M := (yX5_meets, prog_7_method_79_code, 2, some .int, 1, false)
def pc_177 : List Nat := [0]
def b_177_0 : List ab_I := [(.aload_n 0, [], 0), (.iload_n 1, [], 0), (.putfield 297, [5, 37, 0], 0), (.bipush (-10), [], 0), (.iload_n 1, [], 0), (.isub, [], 0), (.ireturn, [0], 0)]
def bk_177 : List (List ab_I) := [b_177_0]
-- 178: RelayRaceModel.isSheet(I)Z
def mr_178 : ab_M := (yX5_isSheet, prog_7_method_80_code, 1, some .boolean, 1, true)
def pc_178 : List Nat := [0]
def b_178_0 : List ab_I := [(.iload_n 0, [], 0), (.iconst 0, [], 0), (.iconst 3, [], 0), (.invokestatic 104, [101, 3, 0], 0), (.ireturn, [1], 0)]
def bk_178 : List (List ab_I) := [b_178_0]
-- 179: RelayRaceModel.sheet(III)I
def mr_179 : ab_M := (yX5_sheet, prog_7_method_81_code, 5, some .int, 3, false)
def pc_179 : List Nat := [0, 22, 25, 35, 59, 85]
def b_179_0 : List ab_I := [(.iload_n 1, [], 0), (.invokestatic 155, [178, 1, 0], 0), (.ifCond .eq 18, [1], 0), (.iload_n 2, [], 0), (.iconst 0, [], 0), (.iconst 2, [], 0), (.invokestatic 104, [101, 3, 0], 0), (.ifCond .eq 9, [1], 0), (.iload_n 3, [], 0), (.bipush 60, [], 0), (.if_icmp .le 6, [2], 0)]
def b_179_1 : List ab_I := [(.bipush (-2), [], 0), (.ireturn, [0], 0)]
def b_179_2 : List ab_I := [(.iload_n 3, [], 0), (.ifCond .ge 9, [3], 0), (.aload_n 0, [], 0), (.iconst 5, [], 0), (.invokevirtual 158, [177, 2, 5], 0), (.ireturn, [0], 0)]
def b_179_3 : List ab_I := [(.aload_n 0, [], 0), (.getfield 82, [5, 32], 0), (.iload_n 1, [], 0), (.iconst 1, [], 0), (.bastore, [], 0), (.aload_n 0, [], 0), (.getfield 86, [5, 33], 0), (.iload_n 1, [], 0), (.iload_n 2, [], 0), (.iastore, [], 0), (.aload_n 0, [], 0), (.getfield 89, [5, 34], 0), (.iload_n 1, [], 0), (.iload_n 3, [], 0), (.iastore, [], 0), (.iconst 0, [], 0), (.istore 4, [], 0)]
def b_179_4 : List ab_I := [(.iload 4, [], 0), (.bipush 60, [], 0), (.if_icmp .ge 22, [5], 0), (.aload_n 0, [], 0), (.getfield 92, [5, 35], 0), (.bipush 60, [], 0), (.iload_n 1, [], 0), (.imul, [], 0), (.iload 4, [], 0), (.iadd, [], 0), (.iconst 0, [], 0), (.iastore, [], 0), (.iinc 4 1, [], 0), (.goto (-23), [4], 0)]
def b_179_5 : List ab_I := [(.iload_n 3, [], 0), (.ireturn, [0], 0)]
def bk_179 : List (List ab_I) := [b_179_0, b_179_1, b_179_2, b_179_3, b_179_4, b_179_5]
-- 180: RelayRaceModel.lose(I)I
def mr_180 : ab_M := (yX5_lose, prog_7_method_82_code, 2, some .int, 1, false)
def pc_180 : List Nat := [0, 10, 25]
def b_180_0 : List ab_I := [(.iload_n 1, [], 0), (.invokestatic 155, [178, 1, 0], 0), (.ifCond .ne 6, [1], 0), (.bipush (-2), [], 0), (.ireturn, [0], 0)]
def b_180_1 : List ab_I := [(.aload_n 0, [], 0), (.getfield 82, [5, 32], 0), (.iload_n 1, [], 0), (.baload, [], 0), (.ifCond .ne 9, [2], 0), (.aload_n 0, [], 0), (.iconst 1, [], 0), (.invokevirtual 158, [177, 2, 5], 0), (.ireturn, [0], 0)]
def b_180_2 : List ab_I := [(.aload_n 0, [], 0), (.getfield 82, [5, 32], 0), (.iload_n 1, [], 0), (.iconst 0, [], 0), (.bastore, [], 0), (.aload_n 0, [], 0), (.getfield 89, [5, 34], 0), (.iload_n 1, [], 0), (.iaload, [], 0), (.ireturn, [0], 0)]
def bk_180 : List (List ab_I) := [b_180_0, b_180_1, b_180_2]
-- 181: RelayRaceModel.lacks(III)I
def mr_181 : ab_M := (yX5_lacks, prog_7_method_83_code, 4, some .int, 3, false)
def pc_181 : List Nat := [0, 13, 27, 47, 48]
def b_181_0 : List ab_I := [(.aload_n 0, [], 0), (.getfield 82, [5, 32], 0), (.iload_n 1, [], 0), (.baload, [], 0), (.ifCond .ne 7, [1], 0), (.iconst 1, [], 0), (.goto 38, [4], 0)]
def b_181_1 : List ab_I := [(.aload_n 0, [], 0), (.getfield 86, [5, 33], 0), (.iload_n 1, [], 0), (.iaload, [], 0), (.iload_n 2, [], 0), (.if_icmp .eq 7, [2], 0), (.iconst 3, [], 0), (.goto 24, [4], 0)]
def b_181_2 : List ab_I := [(.iload_n 3, [], 0), (.iconst 0, [], 0), (.aload_n 0, [], 0), (.getfield 89, [5, 34], 0), (.iload_n 1, [], 0), (.iaload, [], 0), (.iconst 1, [], 0), (.isub, [], 0), (.invokestatic 104, [101, 3, 0], 0), (.ifCond .eq 7, [3], 0), (.iconst 0, [], 0), (.goto 4, [4], 0)]
def b_181_3 : List ab_I := [(.iconst 2, [], 0)]
def b_181_4 : List ab_I := [(.ireturn, [0], 0)]
def bk_181 : List (List ab_I) := [b_181_0, b_181_1, b_181_2, b_181_3, b_181_4]
-- 182: RelayRaceModel.keep(III)V
def mr_182 : ab_M := (yX5_keep, prog_7_method_84_code, 4, none, 3, false)
def pc_182 : List Nat := [0, 24, 39, 40]
def b_182_0 : List ab_I := [(.aload_n 0, [], 0), (.getfield 92, [5, 35], 0), (.bipush 60, [], 0), (.iload_n 1, [], 0), (.imul, [], 0), (.iload_n 2, [], 0), (.iadd, [], 0), (.aload_n 0, [], 0), (.getfield 86, [5, 33], 0), (.iload_n 1, [], 0), (.iaload, [], 0), (.ifCond .ne 8, [1], 0), (.iload_n 3, [], 0), (.i2b, [], 0), (.goto 19, [3], 0)]
def b_182_1 : List ab_I := [(.aload_n 0, [], 0), (.getfield 86, [5, 33], 0), (.iload_n 1, [], 0), (.iaload, [], 0), (.iconst 1, [], 0), (.if_icmp .ne 8, [2], 0), (.iload_n 3, [], 0), (.i2s, [], 0), (.goto 4, [3], 0)]
def b_182_2 : List ab_I := [(.iload_n 3, [], 0)]
def b_182_3 : List ab_I := [(.iastore, [], 0), (.return_, [], 0)]
def bk_182 : List (List ab_I) := [b_182_0, b_182_1, b_182_2, b_182_3]
-- 183: RelayRaceModel.put(IIII)I
def mr_183 : ab_M := (yX5_put, prog_7_method_85_code, 6, some .int, 4, false)
def pc_183 : List Nat := [0, 16, 19, 40]
def b_183_0 : List ab_I := [(.iload_n 1, [], 0), (.invokestatic 155, [178, 1, 0], 0), (.ifCond .eq 12, [1], 0), (.iload_n 2, [], 0), (.iconst 0, [], 0), (.iconst 2, [], 0), (.invokestatic 104, [101, 3, 0], 0), (.ifCond .ne 6, [2], 0)]
def b_183_1 : List ab_I := [(.bipush (-2), [], 0), (.ireturn, [0], 0)]
def b_183_2 : List ab_I := [(.aload_n 0, [], 0), (.iload_n 1, [], 0), (.iload_n 2, [], 0), (.iload_n 3, [], 0), (.invokevirtual 300, [181, 4, 5], 0), (.istore 5, [], 0), (.iload 5, [], 0), (.ifCond .le 10, [3], 0), (.aload_n 0, [], 0), (.iload 5, [], 0), (.invokevirtual 158, [177, 2, 5], 0), (.ireturn, [0], 0)]
def b_183_3 : List ab_I := [(.aload_n 0, [], 0), (.iload_n 1, [], 0), (.iload_n 3, [], 0), (.iload 4, [], 0), (.invokevirtual 303, [182, 4, 5], 0), (.iconst 1, [], 0), (.ireturn, [0], 0)]
def bk_183 : List (List ab_I) := [b_183_0, b_183_1, b_183_2, b_183_3]
-- 184: RelayRaceModel.get(III)I
def mr_184 : ab_M := (yX5_get, prog_7_method_86_code, 5, some .int, 3, false)
def pc_184 : List Nat := [0, 16, 20, 44]
def b_184_0 : List ab_I := [(.iload_n 1, [], 0), (.invokestatic 155, [178, 1, 0], 0), (.ifCond .eq 12, [1], 0), (.iload_n 2, [], 0), (.iconst 0, [], 0), (.iconst 2, [], 0), (.invokestatic 104, [101, 3, 0], 0), (.ifCond .ne 7, [2], 0)]
def b_184_1 : List ab_I := [(.ldc_w 307, [], (-2147483648)), (.ireturn, [0], 0)]
def b_184_2 : List ab_I := [(.aload_n 0, [], 0), (.iload_n 1, [], 0), (.iload_n 2, [], 0), (.iload_n 3, [], 0), (.invokevirtual 300, [181, 4, 5], 0), (.istore 4, [], 0), (.iload 4, [], 0), (.ifCond .le 13, [3], 0), (.aload_n 0, [], 0), (.iload 4, [], 0), (.putfield 297, [5, 37, 0], 0), (.ldc_w 307, [], (-2147483648)), (.ireturn, [0], 0)]
def b_184_3 : List ab_I := [(.aload_n 0, [], 0), (.getfield 92, [5, 35], 0), (.bipush 60, [], 0), (.iload_n 1, [], 0), (.imul, [], 0), (.iload_n 3, [], 0), (.iadd, [], 0), (.iaload, [], 0), (.ireturn, [0], 0)]
def bk_184 : List (List ab_I) := [b_184_0, b_184_1, b_184_2, b_184_3]
-- 185: RelayRaceModel.copy(IIIII)I
def mr_185 : ab_M := (yX5_copy, prog_7_method_87_code, 7, some .int, 5, false)
def pc_185 : List Nat := [0, 14, 17, 35, 41, 62, 111, 117, 120, 154, 157, 192]
def b_185_0 : List ab_I := [(.iload_n 1, [], 0), (.invokestatic 155, [178, 1, 0], 0), (.ifCond .eq 10, [1], 0), (.iload_n 3, [], 0), (.invokestatic 155, [178, 1, 0], 0), (.ifCond .ne 6, [2], 0)]
def b_185_1 : List ab_I := [(.bipush (-2), [], 0), (.ireturn, [0], 0)]
def b_185_2 : List ab_I := [(.aload_n 0, [], 0), (.getfield 82, [5, 32], 0), (.iload_n 1, [], 0), (.baload, [], 0), (.ifCond .eq 12, [3], 0), (.aload_n 0, [], 0), (.getfield 82, [5, 32], 0), (.iload_n 3, [], 0), (.baload, [], 0), (.ifCond .ne 9, [4], 0)]
def b_185_3 : List ab_I := [(.aload_n 0, [], 0), (.iconst 1, [], 0), (.invokevirtual 158, [177, 2, 5], 0), (.ireturn, [0], 0)]
def b_185_4 : List ab_I := [(.aload_n 0, [], 0), (.getfield 86, [5, 33], 0), (.iload_n 1, [], 0), (.iaload, [], 0), (.aload_n 0, [], 0), (.getfield 86, [5, 33], 0), (.iload_n 3, [], 0), (.iaload, [], 0), (.if_icmp .eq 9, [5], 0), (.aload_n 0, [], 0), (.iconst 4, [], 0), (.invokevirtual 158, [177, 2, 5], 0), (.ireturn, [0], 0)]
def b_185_5 : List ab_I := [(.iload_n 2, [], 0), (.ifCond .lt 48, [6], 0), (.iload 4, [], 0), (.ifCond .lt 43, [6], 0), (.iload 5, [], 0), (.ifCond .lt 38, [6], 0), (.iload_n 2, [], 0), (.i2l, [], 0), (.iload 5, [], 0), (.i2l, [], 0), (.ladd, [], 0), (.aload_n 0, [], 0), (.getfield 89, [5, 34], 0), (.iload_n 1, [], 0), (.iaload, [], 0), (.i2l, [], 0), (.lcmp, [], 0), (.ifCond .gt 21, [6], 0), (.iload 4, [], 0), (.i2l, [], 0), (.iload 5, [], 0), (.i2l, [], 0), (.ladd, [], 0), (.aload_n 0, [], 0), (.getfield 89, [5, 34], 0), (.iload_n 3, [], 0), (.iaload, [], 0), (.i2l, [], 0), (.lcmp, [], 0), (.ifCond .le 9, [7], 0)]
def b_185_6 : List ab_I := [(.aload_n 0, [], 0), (.iconst 2, [], 0), (.invokevirtual 158, [177, 2, 5], 0), (.ireturn, [0], 0)]
def b_185_7 : List ab_I := [(.iconst 0, [], 0), (.istore 6, [], 0)]
def b_185_8 : List ab_I := [(.iload 6, [], 0), (.iload 5, [], 0), (.if_icmp .ge 30, [9], 0), (.aload_n 0, [], 0), (.getfield 95, [5, 36], 0), (.iload 6, [], 0), (.aload_n 0, [], 0), (.getfield 92, [5, 35], 0), (.bipush 60, [], 0), (.iload_n 1, [], 0), (.imul, [], 0), (.iload_n 2, [], 0), (.iadd, [], 0), (.iload 6, [], 0), (.iadd, [], 0), (.iaload, [], 0), (.iastore, [], 0), (.iinc 6 1, [], 0), (.goto (-31), [8], 0)]
def b_185_9 : List ab_I := [(.iconst 0, [], 0), (.istore 6, [], 0)]
def b_185_10 : List ab_I := [(.iload 6, [], 0), (.iload 5, [], 0), (.if_icmp .ge 31, [11], 0), (.aload_n 0, [], 0), (.getfield 92, [5, 35], 0), (.bipush 60, [], 0), (.iload_n 3, [], 0), (.imul, [], 0), (.iload 4, [], 0), (.iadd, [], 0), (.iload 6, [], 0), (.iadd, [], 0), (.aload_n 0, [], 0), (.getfield 95, [5, 36], 0), (.iload 6, [], 0), (.iaload, [], 0), (.iastore, [], 0), (.iinc 6 1, [], 0), (.goto (-32), [10], 0)]
def b_185_11 : List ab_I := [(.iconst 1, [], 0), (.ireturn, [0], 0)]
def bk_185 : List (List ab_I) := [b_185_0, b_185_1, b_185_2, b_185_3, b_185_4, b_185_5, b_185_6, b_185_7, b_185_8, b_185_9, b_185_10, b_185_11]
-- 186: RelayRaceModel.write(II)I
def mr_186 : ab_M := (yX5_write, prog_7_method_88_code, 4, some .int, 2, false)
def pc_186 : List Nat := [0, 15, 18, 33, 39, 77]
def b_186_0 : List ab_I := [(.aload_n 0, [], 0), (.iload_n 1, [], 0), (.invokevirtual 132, [118, 2, 5], 0), (.ifCond .eq 10, [1], 0), (.iload_n 2, [], 0), (.invokestatic 155, [178, 1, 0], 0), (.ifCond .ne 6, [2], 0)]
def b_186_1 : List ab_I := [(.bipush (-2), [], 0), (.ireturn, [0], 0)]
def b_186_2 : List ab_I := [(.aload_n 0, [], 0), (.getfield 82, [5, 32], 0), (.iload_n 2, [], 0), (.baload, [], 0), (.ifCond .ne 9, [3], 0), (.aload_n 0, [], 0), (.iconst 1, [], 0), (.invokevirtual 158, [177, 2, 5], 0), (.ireturn, [0], 0)]
def b_186_3 : List ab_I := [(.aload_n 0, [], 0), (.invokevirtual 204, [133, 1, 5], 0), (.iconst 0, [], 0), (.istore_n 3, [], 0)]
def b_186_4 : List ab_I := [(.iload_n 3, [], 0), (.aload_n 0, [], 0), (.getfield 89, [5, 34], 0), (.iload_n 2, [], 0), (.iaload, [], 0), (.if_icmp .ge 31, [5], 0), (.iload_n 3, [], 0), (.bipush 48, [], 0), (.if_icmp .ge 25, [5], 0), (.aload_n 0, [], 0), (.iload_n 2, [], 0), (.iload_n 3, [], 0), (.aload_n 0, [], 0), (.getfield 58, [5, 23], 0), (.iconst 4, [], 0), (.iload_n 3, [], 0), (.imul, [], 0), (.iload_n 1, [], 0), (.iadd, [], 0), (.iaload, [], 0), (.invokevirtual 303, [182, 4, 5], 0), (.iinc 3 1, [], 0), (.goto (-35), [4], 0)]
def b_186_5 : List ab_I := [(.iload_n 3, [], 0), (.ireturn, [0], 0)]
def bk_186 : List (List ab_I) := [b_186_0, b_186_1, b_186_2, b_186_3, b_186_4, b_186_5]
-- 187: RelayRaceModel.homesOf()I
def mr_187 : ab_M := (yX5_homesOf, prog_7_method_89_code, 3, some .int, 0, false)
def pc_187 : List Nat := [0, 8, 31, 32, 40]
def b_187_0 : List ab_I := [(.aload_n 0, [], 0), (.invokevirtual 204, [133, 1, 5], 0), (.iconst 0, [], 0), (.istore_n 1, [], 0), (.iconst 0, [], 0), (.istore_n 2, [], 0)]
def b_187_1 : List ab_I := [(.iload_n 2, [], 0), (.aload_n 0, [], 0), (.getfield 119, [5, 2], 0), (.if_icmp .ge 27, [4], 0), (.iload_n 1, [], 0), (.aload_n 0, [], 0), (.getfield 49, [5, 20], 0), (.iload_n 2, [], 0), (.iaload, [], 0), (.iconst (-1), [], 0), (.if_icmp .eq 7, [2], 0), (.iconst 1, [], 0), (.goto 4, [3], 0)]
def b_187_2 : List ab_I := [(.iconst 0, [], 0)]
def b_187_3 : List ab_I := [(.iadd, [], 0), (.istore_n 1, [], 0), (.iinc 2 1, [], 0), (.goto (-29), [1], 0)]
def b_187_4 : List ab_I := [(.iload_n 1, [], 0), (.ireturn, [0], 0)]
def bk_187 : List (List ab_I) := [b_187_0, b_187_1, b_187_2, b_187_3, b_187_4]
-- 188: RelayRaceModel.allMetres()I
def mr_188 : ab_M := (yX5_allMetres, prog_7_method_90_code, 1, some .int, 0, false)
def pc_188 : List Nat := [0]
def b_188_0 : List ab_I := [(.aload_n 0, [], 0), (.invokevirtual 204, [133, 1, 5], 0), (.aload_n 0, [], 0), (.getfield 40, [5, 17], 0), (.iconst 0, [], 0), (.iaload, [], 0), (.aload_n 0, [], 0), (.getfield 40, [5, 17], 0), (.iconst 1, [], 0), (.iaload, [], 0), (.iadd, [], 0), (.aload_n 0, [], 0), (.getfield 40, [5, 17], 0), (.iconst 2, [], 0), (.iaload, [], 0), (.iadd, [], 0), (.aload_n 0, [], 0), (.getfield 40, [5, 17], 0), (.iconst 3, [], 0), (.iaload, [], 0), (.iadd, [], 0), (.ireturn, [0], 0)]
def bk_188 : List (List ab_I) := [b_188_0]
-- 189: RelayRaceModel.teamsOf()I
def mr_189 : ab_M := (yX5_teamsOf, prog_7_method_91_code, 1, some .int, 0, false)
def pc_189 : List Nat := [0]
def b_189_0 : List ab_I := [(.aload_n 0, [], 0), (.invokevirtual 129, [116, 1, 5], 0), (.aload_n 0, [], 0), (.getfield 119, [5, 2], 0), (.ireturn, [0], 0)]
def bk_189 : List (List ab_I) := [b_189_0]
-- 190: RelayRaceModel.count(I)I
def mr_190 : ab_M := (yX5_count, prog_7_method_92_code, 2, some .int, 1, false)
def pc_190 : List Nat := [0, 52, 57, 62, 67, 72, 77, 82, 87, 92, 97]
def b_190_0 : List ab_I := [(.iload_n 1, [], 0), (.tableswitch 96 0 8 #[51, 56, 61, 66, 71, 76, 81, 86, 91], [10, 1, 2, 3, 4, 5, 6, 7, 8, 9], 0)]
def b_190_1 : List ab_I := [(.aload_n 0, [], 0), (.invokevirtual 308, [189, 1, 5], 0), (.ireturn, [0], 0)]
def b_190_2 : List ab_I := [(.aload_n 0, [], 0), (.getfield 108, [5, 0], 0), (.ireturn, [0], 0)]
def b_190_3 : List ab_I := [(.aload_n 0, [], 0), (.getfield 98, [5, 5], 0), (.ireturn, [0], 0)]
def b_190_4 : List ab_I := [(.aload_n 0, [], 0), (.getfield 152, [5, 6], 0), (.ireturn, [0], 0)]
def b_190_5 : List ab_I := [(.aload_n 0, [], 0), (.invokevirtual 311, [187, 1, 5], 0), (.ireturn, [0], 0)]
def b_190_6 : List ab_I := [(.aload_n 0, [], 0), (.invokevirtual 228, [145, 1, 5], 0), (.ireturn, [0], 0)]
def b_190_7 : List ab_I := [(.aload_n 0, [], 0), (.invokevirtual 314, [188, 1, 5], 0), (.ireturn, [0], 0)]
def b_190_8 : List ab_I := [(.aload_n 0, [], 0), (.getfield 262, [5, 27], 0), (.ireturn, [0], 0)]
def b_190_9 : List ab_I := [(.aload_n 0, [], 0), (.getfield 297, [5, 37], 0), (.ireturn, [0], 0)]
def b_190_10 : List ab_I := [(.bipush (-2), [], 0), (.ireturn, [0], 0)]
def bk_190 : List (List ab_I) := [b_190_0, b_190_1, b_190_2, b_190_3, b_190_4, b_190_5, b_190_6, b_190_7, b_190_8, b_190_9, b_190_10]
-- 191: RelayRaceModel.atDigest(JII)J
def mr_191 : ab_M := (yX5_atDigest, prog_7_method_93_code, 8, some .long, 3, false)
def pc_191 : List Nat := [0, 6, 37]
def b_191_0 : List ab_I := [(.lload_n 1, [], 0), (.lstore 5, [], 0), (.iconst 0, [], 0), (.istore 7, [], 0)]
def b_191_1 : List ab_I := [(.iload 7, [], 0), (.iconst 3, [], 0), (.if_icmp .ge 28, [2], 0), (.ldc2_w 317, [], 31), (.lload 5, [], 0), (.lmul, [], 0), (.aload_n 0, [], 0), (.iload_n 3, [], 0), (.iload 4, [], 0), (.iload 7, [], 0), (.invokevirtual 207, [134, 4, 5], 0), (.i2l, [], 0), (.ladd, [], 0), (.lstore 5, [], 0), (.iinc 7 1, [], 0), (.goto (-28), [1], 0)]
def b_191_2 : List ab_I := [(.lload 5, [], 0), (.lreturn, [], 0)]
def bk_191 : List (List ab_I) := [b_191_0, b_191_1, b_191_2]
-- 192: RelayRaceModel.legDigest(JII)J
def mr_192 : ab_M := (yX5_legDigest, prog_7_method_94_code, 8, some .long, 3, false)
def pc_192 : List Nat := [0]
def b_192_0 : List ab_I := [(.iconst 4, [], 0), (.iload_n 3, [], 0), (.imul, [], 0), (.iload 4, [], 0), (.iadd, [], 0), (.istore 5, [], 0), (.ldc2_w 317, [], 31), (.lload_n 1, [], 0), (.lmul, [], 0), (.aload_n 0, [], 0), (.iload_n 3, [], 0), (.iload 4, [], 0), (.iconst 0, [], 0), (.invokevirtual 142, [119, 4, 5], 0), (.i2l, [], 0), (.ladd, [], 0), (.lstore 6, [], 0), (.ldc2_w 317, [], 31), (.lload 6, [], 0), (.lmul, [], 0), (.aload_n 0, [], 0), (.iload_n 3, [], 0), (.iload 4, [], 0), (.iconst 1, [], 0), (.invokevirtual 142, [119, 4, 5], 0), (.i2l, [], 0), (.ladd, [], 0), (.lstore 6, [], 0), (.ldc2_w 317, [], 31), (.lload 6, [], 0), (.lmul, [], 0), (.aload_n 0, [], 0), (.iload_n 3, [], 0), (.iload 4, [], 0), (.invokevirtual 213, [138, 3, 5], 0), (.i2l, [], 0), (.ladd, [], 0), (.lstore 6, [], 0), (.ldc2_w 317, [], 31), (.lload 6, [], 0), (.lmul, [], 0), (.aload_n 0, [], 0), (.iload 5, [], 0), (.invokevirtual 272, [168, 2, 5], 0), (.i2l, [], 0), (.ladd, [], 0), (.lstore 6, [], 0), (.ldc2_w 317, [], 31), (.lload 6, [], 0), (.lmul, [], 0), (.aload_n 0, [], 0), (.iload 5, [], 0), (.invokevirtual 275, [169, 2, 5], 0), (.i2l, [], 0), (.ladd, [], 0), (.lstore 6, [], 0), (.ldc2_w 317, [], 31), (.lload 6, [], 0), (.lmul, [], 0), (.aload_n 0, [], 0), (.iload 5, [], 0), (.invokevirtual 278, [171, 2, 5], 0), (.i2l, [], 0), (.ladd, [], 0), (.lreturn, [], 0)]
def bk_192 : List (List ab_I) := [b_192_0]
-- 193: RelayRaceModel.teamDigest(JI)J
def mr_193 : ab_M := (yX5_teamDigest, prog_7_method_95_code, 7, some .long, 2, false)
def pc_193 : List Nat := [0, 60, 83, 116, 145]
def b_193_0 : List ab_I := [(.lload_n 1, [], 0), (.lstore 4, [], 0), (.aload_n 0, [], 0), (.lload 4, [], 0), (.iconst 0, [], 0), (.iload_n 3, [], 0), (.invokevirtual 319, [191, 4, 5], 0), (.lstore 4, [], 0), (.aload_n 0, [], 0), (.lload 4, [], 0), (.bipush 9, [], 0), (.iload_n 3, [], 0), (.invokevirtual 319, [191, 4, 5], 0), (.lstore 4, [], 0), (.aload_n 0, [], 0), (.lload 4, [], 0), (.bipush 18, [], 0), (.iload_n 3, [], 0), (.invokevirtual 319, [191, 4, 5], 0), (.lstore 4, [], 0), (.aload_n 0, [], 0), (.lload 4, [], 0), (.bipush 30, [], 0), (.iload_n 3, [], 0), (.invokevirtual 319, [191, 4, 5], 0), (.lstore 4, [], 0), (.aload_n 0, [], 0), (.lload 4, [], 0), (.bipush 47, [], 0), (.iload_n 3, [], 0), (.invokevirtual 319, [191, 4, 5], 0), (.lstore 4, [], 0), (.iconst 0, [], 0), (.istore 6, [], 0)]
def b_193_1 : List ab_I := [(.iload 6, [], 0), (.iconst 4, [], 0), (.if_icmp .ge 20, [2], 0), (.aload_n 0, [], 0), (.lload 4, [], 0), (.iload_n 3, [], 0), (.iload 6, [], 0), (.invokevirtual 323, [192, 4, 5], 0), (.lstore 4, [], 0), (.iinc 6 1, [], 0), (.goto (-20), [1], 0)]
def b_193_2 : List ab_I := [(.ldc2_w 317, [], 31), (.lload 4, [], 0), (.lmul, [], 0), (.aload_n 0, [], 0), (.iload_n 3, [], 0), (.invokevirtual 210, [136, 2, 5], 0), (.i2l, [], 0), (.ladd, [], 0), (.lstore 4, [], 0), (.ldc2_w 317, [], 31), (.lload 4, [], 0), (.lmul, [], 0), (.aload_n 0, [], 0), (.iload_n 3, [], 0), (.invokevirtual 234, [149, 2, 5], 0), (.i2l, [], 0), (.ladd, [], 0), (.lstore 4, [], 0), (.iconst 0, [], 0), (.istore 6, [], 0)]
def b_193_3 : List ab_I := [(.iload 6, [], 0), (.iconst 5, [], 0), (.if_icmp .ge 26, [4], 0), (.ldc2_w 317, [], 31), (.lload 4, [], 0), (.lmul, [], 0), (.aload_n 0, [], 0), (.iload_n 3, [], 0), (.iload 6, [], 0), (.invokevirtual 244, [153, 3, 5], 0), (.i2l, [], 0), (.ladd, [], 0), (.lstore 4, [], 0), (.iinc 6 1, [], 0), (.goto (-26), [3], 0)]
def b_193_4 : List ab_I := [(.ldc2_w 317, [], 31), (.lload 4, [], 0), (.lmul, [], 0), (.aload_n 0, [], 0), (.iload_n 3, [], 0), (.iconst 0, [], 0), (.invokevirtual 247, [155, 3, 5], 0), (.i2l, [], 0), (.ladd, [], 0), (.lstore 4, [], 0), (.ldc2_w 317, [], 31), (.lload 4, [], 0), (.lmul, [], 0), (.aload_n 0, [], 0), (.iload_n 3, [], 0), (.iconst 1, [], 0), (.invokevirtual 247, [155, 3, 5], 0), (.i2l, [], 0), (.ladd, [], 0), (.lstore 4, [], 0), (.ldc2_w 317, [], 31), (.lload 4, [], 0), (.lmul, [], 0), (.aload_n 0, [], 0), (.iload_n 3, [], 0), (.invokevirtual 250, [157, 2, 5], 0), (.i2l, [], 0), (.ladd, [], 0), (.lstore 4, [], 0), (.ldc2_w 317, [], 31), (.lload 4, [], 0), (.lmul, [], 0), (.aload_n 0, [], 0), (.iconst 5, [], 0), (.iload_n 3, [], 0), (.iconst 0, [], 0), (.invokevirtual 285, [173, 4, 5], 0), (.ladd, [], 0), (.lstore 4, [], 0), (.ldc2_w 317, [], 31), (.lload 4, [], 0), (.lmul, [], 0), (.aload_n 0, [], 0), (.iconst 5, [], 0), (.iload_n 3, [], 0), (.iconst 1, [], 0), (.invokevirtual 285, [173, 4, 5], 0), (.ladd, [], 0), (.lreturn, [], 0)]
def bk_193 : List (List ab_I) := [b_193_0, b_193_1, b_193_2, b_193_3, b_193_4]
-- 194: RelayRaceModel.digest()J
def mr_194 : ab_M := (yX5_digest, prog_7_method_96_code, 4, some .long, 0, false)
def pc_194 : List Nat := [0, 6, 31, 45, 66]
def b_194_0 : List ab_I := [(.ldc2_w 326, [], 17), (.lstore_n 1, [], 0), (.iconst 0, [], 0), (.istore_n 3, [], 0)]
def b_194_1 : List ab_I := [(.iload_n 3, [], 0), (.bipush 8, [], 0), (.if_icmp .ge 22, [2], 0), (.ldc2_w 317, [], 31), (.lload_n 1, [], 0), (.lmul, [], 0), (.aload_n 0, [], 0), (.iload_n 3, [], 0), (.invokevirtual 328, [190, 2, 5], 0), (.i2l, [], 0), (.ladd, [], 0), (.lstore_n 1, [], 0), (.iinc 3 1, [], 0), (.goto (-22), [1], 0)]
def b_194_2 : List ab_I := [(.ldc2_w 317, [], 31), (.lload_n 1, [], 0), (.lmul, [], 0), (.aload_n 0, [], 0), (.invokevirtual 125, [115, 1, 5], 0), (.i2l, [], 0), (.ladd, [], 0), (.lstore_n 1, [], 0), (.iconst 0, [], 0), (.istore_n 3, [], 0)]
def b_194_3 : List ab_I := [(.iload_n 3, [], 0), (.aload_n 0, [], 0), (.getfield 119, [5, 2], 0), (.if_icmp .ge 16, [4], 0), (.aload_n 0, [], 0), (.lload_n 1, [], 0), (.iload_n 3, [], 0), (.invokevirtual 331, [193, 3, 5], 0), (.lstore_n 1, [], 0), (.iinc 3 1, [], 0), (.goto (-18), [3], 0)]
def b_194_4 : List ab_I := [(.ldc2_w 317, [], 31), (.lload_n 1, [], 0), (.lmul, [], 0), (.aload_n 0, [], 0), (.iconst 0, [], 0), (.invokevirtual 222, [142, 2, 5], 0), (.i2l, [], 0), (.ladd, [], 0), (.lstore_n 1, [], 0), (.ldc2_w 317, [], 31), (.lload_n 1, [], 0), (.lmul, [], 0), (.aload_n 0, [], 0), (.iconst 1, [], 0), (.invokevirtual 222, [142, 2, 5], 0), (.i2l, [], 0), (.ladd, [], 0), (.lstore_n 1, [], 0), (.ldc2_w 317, [], 31), (.lload_n 1, [], 0), (.lmul, [], 0), (.aload_n 0, [], 0), (.iconst 0, [], 0), (.invokevirtual 231, [147, 2, 5], 0), (.i2l, [], 0), (.ladd, [], 0), (.lstore_n 1, [], 0), (.ldc2_w 317, [], 31), (.lload_n 1, [], 0), (.lmul, [], 0), (.aload_n 0, [], 0), (.iconst 1, [], 0), (.invokevirtual 231, [147, 2, 5], 0), (.i2l, [], 0), (.ladd, [], 0), (.lstore_n 1, [], 0), (.aload_n 0, [], 0), (.invokevirtual 256, [160, 1, 5], 0), (.istore_n 3, [], 0), (.ldc2_w 317, [], 31), (.lload_n 1, [], 0), (.lmul, [], 0), (.iload_n 3, [], 0), (.i2l, [], 0), (.ladd, [], 0), (.lstore_n 1, [], 0), (.ldc2_w 317, [], 31), (.lload_n 1, [], 0), (.lmul, [], 0), (.aload_n 0, [], 0), (.iload_n 3, [], 0), (.iconst 0, [], 0), (.invokevirtual 259, [161, 3, 5], 0), (.i2l, [], 0), (.ladd, [], 0), (.lstore_n 1, [], 0), (.ldc2_w 317, [], 31), (.lload_n 1, [], 0), (.lmul, [], 0), (.aload_n 0, [], 0), (.invokevirtual 269, [166, 1, 5], 0), (.i2l, [], 0), (.ladd, [], 0), (.lstore_n 1, [], 0), (.ldc2_w 317, [], 31), (.lload_n 1, [], 0), (.lmul, [], 0), (.aload_n 0, [], 0), (.bipush 7, [], 0), (.bipush 6, [], 0), (.iconst 0, [], 0), (.invokevirtual 294, [175, 4, 5], 0), (.i2l, [], 0), (.ladd, [], 0), (.lstore_n 1, [], 0), (.ldc2_w 317, [], 31), (.lload_n 1, [], 0), (.lmul, [], 0), (.aload_n 0, [], 0), (.bipush 7, [], 0), (.bipush 6, [], 0), (.iconst 1, [], 0), (.invokevirtual 294, [175, 4, 5], 0), (.i2l, [], 0), (.ladd, [], 0), (.lreturn, [], 0)]
def bk_194 : List (List ab_I) := [b_194_0, b_194_1, b_194_2, b_194_3, b_194_4]
def ab_MT : List ab_M := [mr_0, mr_1, mr_2, mr_3, mr_4, mr_5, mr_6, mr_7, mr_8, mr_9, mr_10, mr_11, mr_12, mr_13, mr_14, mr_15, mr_16, mr_17, mr_18, mr_19, mr_20, mr_21, mr_22, mr_23, mr_24, mr_25, mr_26, mr_27, mr_28, mr_29, mr_30, mr_31, mr_32, mr_33, mr_34, mr_35, mr_36, mr_37, mr_38, mr_39, mr_40, mr_41, mr_42, mr_43, mr_44, mr_45, mr_46, mr_47, mr_48, mr_49, mr_50, mr_51, mr_52, mr_53, mr_54, mr_55, mr_56, mr_57, mr_58, mr_59, mr_60, mr_61, mr_62, mr_63, mr_64, mr_65, mr_66, mr_67, mr_68, mr_69, mr_70, mr_71, mr_72, mr_73, mr_74, mr_75, mr_76, mr_77, mr_78, mr_79, mr_80, mr_81, mr_82, mr_83, mr_84, mr_85, mr_86, mr_87, mr_88, mr_89, mr_90, mr_91, mr_92, mr_93, mr_94, mr_95, mr_96, mr_97, mr_98, mr_99, mr_100, mr_101, mr_102, mr_103, mr_104, mr_105, mr_106, mr_107, mr_108, mr_109, mr_110, mr_111, mr_112, mr_113, mr_114, mr_115, mr_116, mr_117, mr_118, mr_119, mr_120, mr_121, mr_122, mr_123, mr_124, mr_125, mr_126, mr_127, mr_128, mr_129, mr_130, mr_131, mr_132, mr_133, mr_134, mr_135, mr_136, mr_137, mr_138, mr_139, mr_140, mr_141, mr_142, mr_143, mr_144, mr_145, mr_146, mr_147, mr_148, mr_149, mr_150, mr_151, mr_152, mr_153, mr_154, mr_155, mr_156, mr_157, mr_158, mr_159, mr_160, mr_161, mr_162, mr_163, mr_164, mr_165, mr_166, mr_167, mr_168, mr_169, mr_170, mr_171, mr_172, mr_173, mr_174, mr_175, mr_176, mr_177, mr_178, mr_179, mr_180, mr_181, mr_182, mr_183, mr_184, mr_185, mr_186, mr_187, mr_188, mr_189, mr_190, mr_191, mr_192, mr_193, mr_194]
def ab_BD : List (List Nat × List (List ab_I)) := [(pc_0, bk_0), (pc_1, bk_1), (pc_2, bk_2), (pc_3, bk_3), (pc_4, bk_4), (pc_5, bk_5), (pc_6, bk_6), (pc_7, bk_7), (pc_8, bk_8), (pc_9, bk_9), (pc_10, bk_10), (pc_11, bk_11), (pc_12, bk_12), (pc_13, bk_13), (pc_14, bk_14), (pc_15, bk_15), (pc_16, bk_16), (pc_17, bk_17), (pc_18, bk_18), (pc_19, bk_19), (pc_20, bk_20), (pc_21, bk_21), (pc_22, bk_22), (pc_23, bk_23), (pc_24, bk_24), (pc_25, bk_25), (pc_26, bk_26), (pc_27, bk_27), (pc_28, bk_28), (pc_29, bk_29), (pc_30, bk_30), (pc_31, bk_31), (pc_32, bk_32), (pc_33, bk_33), (pc_34, bk_34), (pc_35, bk_35), (pc_36, bk_36), (pc_37, bk_37), (pc_38, bk_38), (pc_39, bk_39), (pc_40, bk_40), (pc_41, bk_41), (pc_42, bk_42), (pc_43, bk_43), (pc_44, bk_44), (pc_45, bk_45), (pc_46, bk_46), (pc_47, bk_47), (pc_48, bk_48), (pc_49, bk_49), (pc_50, bk_50), (pc_51, bk_51), (pc_52, bk_52), (pc_53, bk_53), (pc_54, bk_54), (pc_55, bk_55), (pc_56, bk_56), (pc_57, bk_57), (pc_58, bk_58), (pc_59, bk_59), (pc_60, bk_60), (pc_61, bk_61), (pc_62, bk_62), (pc_63, bk_63), (pc_64, bk_64), (pc_65, bk_65), (pc_66, bk_66), (pc_67, bk_67), (pc_68, bk_68), (pc_69, bk_69), (pc_70, bk_70), (pc_71, bk_71), (pc_72, bk_72), (pc_73, bk_73), (pc_74, bk_74), (pc_75, bk_75), (pc_76, bk_76), (pc_77, bk_77), (pc_78, bk_78), (pc_79, bk_79), (pc_80, bk_80), (pc_81, bk_81), (pc_82, bk_82), (pc_83, bk_83), (pc_84, bk_84), (pc_85, bk_85), (pc_86, bk_86), (pc_87, bk_87), (pc_88, bk_88), (pc_89, bk_89), (pc_90, bk_90), (pc_91, bk_91), (pc_92, bk_92), (pc_93, bk_93), (pc_94, bk_94), (pc_95, bk_95), (pc_96, bk_96), (pc_97, bk_97), (pc_98, bk_98), (pc_99, bk_99), (pc_100, bk_100), (pc_101, bk_101), (pc_102, bk_102), (pc_103, bk_103), (pc_104, bk_104), (pc_105, bk_105), (pc_106, bk_106), (pc_107, bk_107), (pc_108, bk_108), (pc_109, bk_109), (pc_110, bk_110), (pc_111, bk_111), (pc_112, bk_112), (pc_113, bk_113), (pc_114, bk_114), (pc_115, bk_115), (pc_116, bk_116), (pc_117, bk_117), (pc_118, bk_118), (pc_119, bk_119), (pc_120, bk_120), (pc_121, bk_121), (pc_122, bk_122), (pc_123, bk_123), (pc_124, bk_124), (pc_125, bk_125), (pc_126, bk_126), (pc_127, bk_127), (pc_128, bk_128), (pc_129, bk_129), (pc_130, bk_130), (pc_131, bk_131), (pc_132, bk_132), (pc_133, bk_133), (pc_134, bk_134), (pc_135, bk_135), (pc_136, bk_136), (pc_137, bk_137), (pc_138, bk_138), (pc_139, bk_139), (pc_140, bk_140), (pc_141, bk_141), (pc_142, bk_142), (pc_143, bk_143), (pc_144, bk_144), (pc_145, bk_145), (pc_146, bk_146), (pc_147, bk_147), (pc_148, bk_148), (pc_149, bk_149), (pc_150, bk_150), (pc_151, bk_151), (pc_152, bk_152), (pc_153, bk_153), (pc_154, bk_154), (pc_155, bk_155), (pc_156, bk_156), (pc_157, bk_157), (pc_158, bk_158), (pc_159, bk_159), (pc_160, bk_160), (pc_161, bk_161), (pc_162, bk_162), (pc_163, bk_163), (pc_164, bk_164), (pc_165, bk_165), (pc_166, bk_166), (pc_167, bk_167), (pc_168, bk_168), (pc_169, bk_169), (pc_170, bk_170), (pc_171, bk_171), (pc_172, bk_172), (pc_173, bk_173), (pc_174, bk_174), (pc_175, bk_175), (pc_176, bk_176), (pc_177, bk_177), (pc_178, bk_178), (pc_179, bk_179), (pc_180, bk_180), (pc_181, bk_181), (pc_182, bk_182), (pc_183, bk_183), (pc_184, bk_184), (pc_185, bk_185), (pc_186, bk_186), (pc_187, bk_187), (pc_188, bk_188), (pc_189, bk_189), (pc_190, bk_190), (pc_191, bk_191), (pc_192, bk_192), (pc_193, bk_193), (pc_194, bk_194)]
def ab_mt (k : Nat) : Option ab_M := ab_MT[k]?
def ab_bd (k : Nat) : Option (List Nat × List (List ab_I)) := ab_BD[k]?
abbrev Sm (Ls : Nat) : Nat → Nat → List ab_V → ab_W → (Option ab_V → ab_W → Prop) → Prop := ab_Sm Ls ab_mt ab_bd
theorem sm_0 {Ls d : Nat} {as : List ab_V} {w : ab_W} {post : Option ab_V → ab_W → Prop} : Sm Ls (d + 1) 0 as w post ↔ (ab_il as).length ≤ 1 ∧ Ev Ls (Sm Ls d) post bk_0 0 (ab_init 1 as) [] w := Iff.rfl
theorem sm_1 {Ls d : Nat} {as : List ab_V} {w : ab_W} {post : Option ab_V → ab_W → Prop} : Sm Ls (d + 1) 1 as w post ↔ (ab_il as).length ≤ 2 ∧ Ev Ls (Sm Ls d) post bk_1 0 (ab_init 2 as) [] w := Iff.rfl
theorem sm_2 {Ls d : Nat} {as : List ab_V} {w : ab_W} {post : Option ab_V → ab_W → Prop} : Sm Ls (d + 1) 2 as w post ↔ (ab_il as).length ≤ 3 ∧ Ev Ls (Sm Ls d) post bk_2 0 (ab_init 3 as) [] w := Iff.rfl
theorem sm_3 {Ls d : Nat} {as : List ab_V} {w : ab_W} {post : Option ab_V → ab_W → Prop} : Sm Ls (d + 1) 3 as w post ↔ (ab_il as).length ≤ 5 ∧ Ev Ls (Sm Ls d) post bk_3 0 (ab_init 5 as) [] w := Iff.rfl
theorem sm_4 {Ls d : Nat} {as : List ab_V} {w : ab_W} {post : Option ab_V → ab_W → Prop} : Sm Ls (d + 1) 4 as w post ↔ (ab_il as).length ≤ 4 ∧ Ev Ls (Sm Ls d) post bk_4 0 (ab_init 4 as) [] w := Iff.rfl
theorem sm_5 {Ls d : Nat} {as : List ab_V} {w : ab_W} {post : Option ab_V → ab_W → Prop} : Sm Ls (d + 1) 5 as w post ↔ (ab_il as).length ≤ 5 ∧ Ev Ls (Sm Ls d) post bk_5 0 (ab_init 5 as) [] w := Iff.rfl
theorem sm_6 {Ls d : Nat} {as : List ab_V} {w : ab_W} {post : Option ab_V → ab_W → Prop} : Sm Ls (d + 1) 6 as w post ↔ (ab_il as).length ≤ 5 ∧ Ev Ls (Sm Ls d) post bk_6 0 (ab_init 5 as) [] w := Iff.rfl
theorem sm_7 {Ls d : Nat} {as : List ab_V} {w : ab_W} {post : Option ab_V → ab_W → Prop} : Sm Ls (d + 1) 7 as w post ↔ (ab_il as).length ≤ 2 ∧ Ev Ls (Sm Ls d) post bk_7 0 (ab_init 2 as) [] w := Iff.rfl
theorem sm_8 {Ls d : Nat} {as : List ab_V} {w : ab_W} {post : Option ab_V → ab_W → Prop} : Sm Ls (d + 1) 8 as w post ↔ (ab_il as).length ≤ 5 ∧ Ev Ls (Sm Ls d) post bk_8 0 (ab_init 5 as) [] w := Iff.rfl
theorem sm_9 {Ls d : Nat} {as : List ab_V} {w : ab_W} {post : Option ab_V → ab_W → Prop} : Sm Ls (d + 1) 9 as w post ↔ (ab_il as).length ≤ 5 ∧ Ev Ls (Sm Ls d) post bk_9 0 (ab_init 5 as) [] w := Iff.rfl
theorem sm_10 {Ls d : Nat} {as : List ab_V} {w : ab_W} {post : Option ab_V → ab_W → Prop} : Sm Ls (d + 1) 10 as w post ↔ (ab_il as).length ≤ 4 ∧ Ev Ls (Sm Ls d) post bk_10 0 (ab_init 4 as) [] w := Iff.rfl
theorem sm_11 {Ls d : Nat} {as : List ab_V} {w : ab_W} {post : Option ab_V → ab_W → Prop} : Sm Ls (d + 1) 11 as w post ↔ (ab_il as).length ≤ 2 ∧ Ev Ls (Sm Ls d) post bk_11 0 (ab_init 2 as) [] w := Iff.rfl
theorem sm_12 {Ls d : Nat} {as : List ab_V} {w : ab_W} {post : Option ab_V → ab_W → Prop} : Sm Ls (d + 1) 12 as w post ↔ (ab_il as).length ≤ 7 ∧ Ev Ls (Sm Ls d) post bk_12 0 (ab_init 7 as) [] w := Iff.rfl
theorem sm_13 {Ls d : Nat} {as : List ab_V} {w : ab_W} {post : Option ab_V → ab_W → Prop} : Sm Ls (d + 1) 13 as w post ↔ (ab_il as).length ≤ 5 ∧ Ev Ls (Sm Ls d) post bk_13 0 (ab_init 5 as) [] w := Iff.rfl
theorem sm_14 {Ls d : Nat} {as : List ab_V} {w : ab_W} {post : Option ab_V → ab_W → Prop} : Sm Ls (d + 1) 14 as w post ↔ (ab_il as).length ≤ 3 ∧ Ev Ls (Sm Ls d) post bk_14 0 (ab_init 3 as) [] w := Iff.rfl
theorem sm_15 {Ls d : Nat} {as : List ab_V} {w : ab_W} {post : Option ab_V → ab_W → Prop} : Sm Ls (d + 1) 15 as w post ↔ (ab_il as).length ≤ 2 ∧ Ev Ls (Sm Ls d) post bk_15 0 (ab_init 2 as) [] w := Iff.rfl
theorem sm_16 {Ls d : Nat} {as : List ab_V} {w : ab_W} {post : Option ab_V → ab_W → Prop} : Sm Ls (d + 1) 16 as w post ↔ (ab_il as).length ≤ 6 ∧ Ev Ls (Sm Ls d) post bk_16 0 (ab_init 6 as) [] w := Iff.rfl
theorem sm_17 {Ls d : Nat} {as : List ab_V} {w : ab_W} {post : Option ab_V → ab_W → Prop} : Sm Ls (d + 1) 17 as w post ↔ (ab_il as).length ≤ 4 ∧ Ev Ls (Sm Ls d) post bk_17 0 (ab_init 4 as) [] w := Iff.rfl
theorem sm_18 {Ls d : Nat} {as : List ab_V} {w : ab_W} {post : Option ab_V → ab_W → Prop} : Sm Ls (d + 1) 18 as w post ↔ (ab_il as).length ≤ 5 ∧ Ev Ls (Sm Ls d) post bk_18 0 (ab_init 5 as) [] w := Iff.rfl
theorem sm_19 {Ls d : Nat} {as : List ab_V} {w : ab_W} {post : Option ab_V → ab_W → Prop} : Sm Ls (d + 1) 19 as w post ↔ (ab_il as).length ≤ 6 ∧ Ev Ls (Sm Ls d) post bk_19 0 (ab_init 6 as) [] w := Iff.rfl
theorem sm_20 {Ls d : Nat} {as : List ab_V} {w : ab_W} {post : Option ab_V → ab_W → Prop} : Sm Ls (d + 1) 20 as w post ↔ (ab_il as).length ≤ 6 ∧ Ev Ls (Sm Ls d) post bk_20 0 (ab_init 6 as) [] w := Iff.rfl
theorem sm_21 {Ls d : Nat} {as : List ab_V} {w : ab_W} {post : Option ab_V → ab_W → Prop} : Sm Ls (d + 1) 21 as w post ↔ (ab_il as).length ≤ 2 ∧ Ev Ls (Sm Ls d) post bk_21 0 (ab_init 2 as) [] w := Iff.rfl
theorem sm_22 {Ls d : Nat} {as : List ab_V} {w : ab_W} {post : Option ab_V → ab_W → Prop} : Sm Ls (d + 1) 22 as w post ↔ (ab_il as).length ≤ 4 ∧ Ev Ls (Sm Ls d) post bk_22 0 (ab_init 4 as) [] w := Iff.rfl
theorem sm_23 {Ls d : Nat} {as : List ab_V} {w : ab_W} {post : Option ab_V → ab_W → Prop} : Sm Ls (d + 1) 23 as w post ↔ (ab_il as).length ≤ 3 ∧ Ev Ls (Sm Ls d) post bk_23 0 (ab_init 3 as) [] w := Iff.rfl
theorem sm_24 {Ls d : Nat} {as : List ab_V} {w : ab_W} {post : Option ab_V → ab_W → Prop} : Sm Ls (d + 1) 24 as w post ↔ (ab_il as).length ≤ 3 ∧ Ev Ls (Sm Ls d) post bk_24 0 (ab_init 3 as) [] w := Iff.rfl
theorem sm_25 {Ls d : Nat} {as : List ab_V} {w : ab_W} {post : Option ab_V → ab_W → Prop} : Sm Ls (d + 1) 25 as w post ↔ (ab_il as).length ≤ 3 ∧ Ev Ls (Sm Ls d) post bk_25 0 (ab_init 3 as) [] w := Iff.rfl
theorem sm_26 {Ls d : Nat} {as : List ab_V} {w : ab_W} {post : Option ab_V → ab_W → Prop} : Sm Ls (d + 1) 26 as w post ↔ (ab_il as).length ≤ 2 ∧ Ev Ls (Sm Ls d) post bk_26 0 (ab_init 2 as) [] w := Iff.rfl
theorem sm_27 {Ls d : Nat} {as : List ab_V} {w : ab_W} {post : Option ab_V → ab_W → Prop} : Sm Ls (d + 1) 27 as w post ↔ (ab_il as).length ≤ 2 ∧ Ev Ls (Sm Ls d) post bk_27 0 (ab_init 2 as) [] w := Iff.rfl
theorem sm_28 {Ls d : Nat} {as : List ab_V} {w : ab_W} {post : Option ab_V → ab_W → Prop} : Sm Ls (d + 1) 28 as w post ↔ (ab_il as).length ≤ 3 ∧ Ev Ls (Sm Ls d) post bk_28 0 (ab_init 3 as) [] w := Iff.rfl
theorem sm_29 {Ls d : Nat} {as : List ab_V} {w : ab_W} {post : Option ab_V → ab_W → Prop} : Sm Ls (d + 1) 29 as w post ↔ (ab_il as).length ≤ 2 ∧ Ev Ls (Sm Ls d) post bk_29 0 (ab_init 2 as) [] w := Iff.rfl
theorem sm_30 {Ls d : Nat} {as : List ab_V} {w : ab_W} {post : Option ab_V → ab_W → Prop} : Sm Ls (d + 1) 30 as w post ↔ (ab_il as).length ≤ 4 ∧ Ev Ls (Sm Ls d) post bk_30 0 (ab_init 4 as) [] w := Iff.rfl
theorem sm_31 {Ls d : Nat} {as : List ab_V} {w : ab_W} {post : Option ab_V → ab_W → Prop} : Sm Ls (d + 1) 31 as w post ↔ (ab_il as).length ≤ 2 ∧ Ev Ls (Sm Ls d) post bk_31 0 (ab_init 2 as) [] w := Iff.rfl
theorem sm_32 {Ls d : Nat} {as : List ab_V} {w : ab_W} {post : Option ab_V → ab_W → Prop} : Sm Ls (d + 1) 32 as w post ↔ (ab_il as).length ≤ 2 ∧ Ev Ls (Sm Ls d) post bk_32 0 (ab_init 2 as) [] w := Iff.rfl
theorem sm_33 {Ls d : Nat} {as : List ab_V} {w : ab_W} {post : Option ab_V → ab_W → Prop} : Sm Ls (d + 1) 33 as w post ↔ (ab_il as).length ≤ 1 ∧ Ev Ls (Sm Ls d) post bk_33 0 (ab_init 1 as) [] w := Iff.rfl
theorem sm_34 {Ls d : Nat} {as : List ab_V} {w : ab_W} {post : Option ab_V → ab_W → Prop} : Sm Ls (d + 1) 34 as w post ↔ (ab_il as).length ≤ 1 ∧ Ev Ls (Sm Ls d) post bk_34 0 (ab_init 1 as) [] w := Iff.rfl
theorem sm_35 {Ls d : Nat} {as : List ab_V} {w : ab_W} {post : Option ab_V → ab_W → Prop} : Sm Ls (d + 1) 35 as w post ↔ (ab_il as).length ≤ 5 ∧ Ev Ls (Sm Ls d) post bk_35 0 (ab_init 5 as) [] w := Iff.rfl
theorem sm_36 {Ls d : Nat} {as : List ab_V} {w : ab_W} {post : Option ab_V → ab_W → Prop} : Sm Ls (d + 1) 36 as w post ↔ (ab_il as).length ≤ 3 ∧ Ev Ls (Sm Ls d) post bk_36 0 (ab_init 3 as) [] w := Iff.rfl
theorem sm_37 {Ls d : Nat} {as : List ab_V} {w : ab_W} {post : Option ab_V → ab_W → Prop} : Sm Ls (d + 1) 37 as w post ↔ (ab_il as).length ≤ 4 ∧ Ev Ls (Sm Ls d) post bk_37 0 (ab_init 4 as) [] w := Iff.rfl
theorem sm_38 {Ls d : Nat} {as : List ab_V} {w : ab_W} {post : Option ab_V → ab_W → Prop} : Sm Ls (d + 1) 38 as w post ↔ (ab_il as).length ≤ 1 ∧ Ev Ls (Sm Ls d) post bk_38 0 (ab_init 1 as) [] w := Iff.rfl
theorem sm_39 {Ls d : Nat} {as : List ab_V} {w : ab_W} {post : Option ab_V → ab_W → Prop} : Sm Ls (d + 1) 39 as w post ↔ (ab_il as).length ≤ 6 ∧ Ev Ls (Sm Ls d) post bk_39 0 (ab_init 6 as) [] w := Iff.rfl
theorem sm_40 {Ls d : Nat} {as : List ab_V} {w : ab_W} {post : Option ab_V → ab_W → Prop} : Sm Ls (d + 1) 40 as w post ↔ (ab_il as).length ≤ 1 ∧ Ev Ls (Sm Ls d) post bk_40 0 (ab_init 1 as) [] w := Iff.rfl
theorem sm_41 {Ls d : Nat} {as : List ab_V} {w : ab_W} {post : Option ab_V → ab_W → Prop} : Sm Ls (d + 1) 41 as w post ↔ (ab_il as).length ≤ 1 ∧ Ev Ls (Sm Ls d) post bk_41 0 (ab_init 1 as) [] w := Iff.rfl
theorem sm_42 {Ls d : Nat} {as : List ab_V} {w : ab_W} {post : Option ab_V → ab_W → Prop} : Sm Ls (d + 1) 42 as w post ↔ (ab_il as).length ≤ 4 ∧ Ev Ls (Sm Ls d) post bk_42 0 (ab_init 4 as) [] w := Iff.rfl
theorem sm_43 {Ls d : Nat} {as : List ab_V} {w : ab_W} {post : Option ab_V → ab_W → Prop} : Sm Ls (d + 1) 43 as w post ↔ (ab_il as).length ≤ 2 ∧ Ev Ls (Sm Ls d) post bk_43 0 (ab_init 2 as) [] w := Iff.rfl
theorem sm_44 {Ls d : Nat} {as : List ab_V} {w : ab_W} {post : Option ab_V → ab_W → Prop} : Sm Ls (d + 1) 44 as w post ↔ (ab_il as).length ≤ 5 ∧ Ev Ls (Sm Ls d) post bk_44 0 (ab_init 5 as) [] w := Iff.rfl
theorem sm_45 {Ls d : Nat} {as : List ab_V} {w : ab_W} {post : Option ab_V → ab_W → Prop} : Sm Ls (d + 1) 45 as w post ↔ (ab_il as).length ≤ 2 ∧ Ev Ls (Sm Ls d) post bk_45 0 (ab_init 2 as) [] w := Iff.rfl
theorem sm_46 {Ls d : Nat} {as : List ab_V} {w : ab_W} {post : Option ab_V → ab_W → Prop} : Sm Ls (d + 1) 46 as w post ↔ (ab_il as).length ≤ 3 ∧ Ev Ls (Sm Ls d) post bk_46 0 (ab_init 3 as) [] w := Iff.rfl
theorem sm_47 {Ls d : Nat} {as : List ab_V} {w : ab_W} {post : Option ab_V → ab_W → Prop} : Sm Ls (d + 1) 47 as w post ↔ (ab_il as).length ≤ 3 ∧ Ev Ls (Sm Ls d) post bk_47 0 (ab_init 3 as) [] w := Iff.rfl
theorem sm_48 {Ls d : Nat} {as : List ab_V} {w : ab_W} {post : Option ab_V → ab_W → Prop} : Sm Ls (d + 1) 48 as w post ↔ (ab_il as).length ≤ 6 ∧ Ev Ls (Sm Ls d) post bk_48 0 (ab_init 6 as) [] w := Iff.rfl
theorem sm_49 {Ls d : Nat} {as : List ab_V} {w : ab_W} {post : Option ab_V → ab_W → Prop} : Sm Ls (d + 1) 49 as w post ↔ (ab_il as).length ≤ 4 ∧ Ev Ls (Sm Ls d) post bk_49 0 (ab_init 4 as) [] w := Iff.rfl
theorem sm_50 {Ls d : Nat} {as : List ab_V} {w : ab_W} {post : Option ab_V → ab_W → Prop} : Sm Ls (d + 1) 50 as w post ↔ (ab_il as).length ≤ 2 ∧ Ev Ls (Sm Ls d) post bk_50 0 (ab_init 2 as) [] w := Iff.rfl
theorem sm_51 {Ls d : Nat} {as : List ab_V} {w : ab_W} {post : Option ab_V → ab_W → Prop} : Sm Ls (d + 1) 51 as w post ↔ (ab_il as).length ≤ 3 ∧ Ev Ls (Sm Ls d) post bk_51 0 (ab_init 3 as) [] w := Iff.rfl
theorem sm_52 {Ls d : Nat} {as : List ab_V} {w : ab_W} {post : Option ab_V → ab_W → Prop} : Sm Ls (d + 1) 52 as w post ↔ (ab_il as).length ≤ 5 ∧ Ev Ls (Sm Ls d) post bk_52 0 (ab_init 5 as) [] w := Iff.rfl
theorem sm_53 {Ls d : Nat} {as : List ab_V} {w : ab_W} {post : Option ab_V → ab_W → Prop} : Sm Ls (d + 1) 53 as w post ↔ (ab_il as).length ≤ 6 ∧ Ev Ls (Sm Ls d) post bk_53 0 (ab_init 6 as) [] w := Iff.rfl
theorem sm_54 {Ls d : Nat} {as : List ab_V} {w : ab_W} {post : Option ab_V → ab_W → Prop} : Sm Ls (d + 1) 54 as w post ↔ (ab_il as).length ≤ 7 ∧ Ev Ls (Sm Ls d) post bk_54 0 (ab_init 7 as) [] w := Iff.rfl
theorem sm_55 {Ls d : Nat} {as : List ab_V} {w : ab_W} {post : Option ab_V → ab_W → Prop} : Sm Ls (d + 1) 55 as w post ↔ (ab_il as).length ≤ 2 ∧ Ev Ls (Sm Ls d) post bk_55 0 (ab_init 2 as) [] w := Iff.rfl
theorem sm_56 {Ls d : Nat} {as : List ab_V} {w : ab_W} {post : Option ab_V → ab_W → Prop} : Sm Ls (d + 1) 56 as w post ↔ (ab_il as).length ≤ 3 ∧ Ev Ls (Sm Ls d) post bk_56 0 (ab_init 3 as) [] w := Iff.rfl
theorem sm_57 {Ls d : Nat} {as : List ab_V} {w : ab_W} {post : Option ab_V → ab_W → Prop} : Sm Ls (d + 1) 57 as w post ↔ (ab_il as).length ≤ 5 ∧ Ev Ls (Sm Ls d) post bk_57 0 (ab_init 5 as) [] w := Iff.rfl
theorem sm_58 {Ls d : Nat} {as : List ab_V} {w : ab_W} {post : Option ab_V → ab_W → Prop} : Sm Ls (d + 1) 58 as w post ↔ (ab_il as).length ≤ 4 ∧ Ev Ls (Sm Ls d) post bk_58 0 (ab_init 4 as) [] w := Iff.rfl
theorem sm_59 {Ls d : Nat} {as : List ab_V} {w : ab_W} {post : Option ab_V → ab_W → Prop} : Sm Ls (d + 1) 59 as w post ↔ (ab_il as).length ≤ 1 ∧ Ev Ls (Sm Ls d) post bk_59 0 (ab_init 1 as) [] w := Iff.rfl
theorem sm_60 {Ls d : Nat} {as : List ab_V} {w : ab_W} {post : Option ab_V → ab_W → Prop} : Sm Ls (d + 1) 60 as w post ↔ (ab_il as).length ≤ 6 ∧ Ev Ls (Sm Ls d) post bk_60 0 (ab_init 6 as) [] w := Iff.rfl
theorem sm_61 {Ls d : Nat} {as : List ab_V} {w : ab_W} {post : Option ab_V → ab_W → Prop} : Sm Ls (d + 1) 61 as w post ↔ (ab_il as).length ≤ 5 ∧ Ev Ls (Sm Ls d) post bk_61 0 (ab_init 5 as) [] w := Iff.rfl
theorem sm_62 {Ls d : Nat} {as : List ab_V} {w : ab_W} {post : Option ab_V → ab_W → Prop} : Sm Ls (d + 1) 62 as w post ↔ (ab_il as).length ≤ 4 ∧ Ev Ls (Sm Ls d) post bk_62 0 (ab_init 4 as) [] w := Iff.rfl
theorem sm_63 {Ls d : Nat} {as : List ab_V} {w : ab_W} {post : Option ab_V → ab_W → Prop} : Sm Ls (d + 1) 63 as w post ↔ (ab_il as).length ≤ 4 ∧ Ev Ls (Sm Ls d) post bk_63 0 (ab_init 4 as) [] w := Iff.rfl
theorem sm_64 {Ls d : Nat} {as : List ab_V} {w : ab_W} {post : Option ab_V → ab_W → Prop} : Sm Ls (d + 1) 64 as w post ↔ (ab_il as).length ≤ 2 ∧ Ev Ls (Sm Ls d) post bk_64 0 (ab_init 2 as) [] w := Iff.rfl
theorem sm_65 {Ls d : Nat} {as : List ab_V} {w : ab_W} {post : Option ab_V → ab_W → Prop} : Sm Ls (d + 1) 65 as w post ↔ (ab_il as).length ≤ 3 ∧ Ev Ls (Sm Ls d) post bk_65 0 (ab_init 3 as) [] w := Iff.rfl
theorem sm_66 {Ls d : Nat} {as : List ab_V} {w : ab_W} {post : Option ab_V → ab_W → Prop} : Sm Ls (d + 1) 66 as w post ↔ (ab_il as).length ≤ 4 ∧ Ev Ls (Sm Ls d) post bk_66 0 (ab_init 4 as) [] w := Iff.rfl
theorem sm_67 {Ls d : Nat} {as : List ab_V} {w : ab_W} {post : Option ab_V → ab_W → Prop} : Sm Ls (d + 1) 67 as w post ↔ (ab_il as).length ≤ 5 ∧ Ev Ls (Sm Ls d) post bk_67 0 (ab_init 5 as) [] w := Iff.rfl
theorem sm_68 {Ls d : Nat} {as : List ab_V} {w : ab_W} {post : Option ab_V → ab_W → Prop} : Sm Ls (d + 1) 68 as w post ↔ (ab_il as).length ≤ 5 ∧ Ev Ls (Sm Ls d) post bk_68 0 (ab_init 5 as) [] w := Iff.rfl
theorem sm_69 {Ls d : Nat} {as : List ab_V} {w : ab_W} {post : Option ab_V → ab_W → Prop} : Sm Ls (d + 1) 69 as w post ↔ (ab_il as).length ≤ 5 ∧ Ev Ls (Sm Ls d) post bk_69 0 (ab_init 5 as) [] w := Iff.rfl
theorem sm_70 {Ls d : Nat} {as : List ab_V} {w : ab_W} {post : Option ab_V → ab_W → Prop} : Sm Ls (d + 1) 70 as w post ↔ (ab_il as).length ≤ 3 ∧ Ev Ls (Sm Ls d) post bk_70 0 (ab_init 3 as) [] w := Iff.rfl
theorem sm_71 {Ls d : Nat} {as : List ab_V} {w : ab_W} {post : Option ab_V → ab_W → Prop} : Sm Ls (d + 1) 71 as w post ↔ (ab_il as).length ≤ 4 ∧ Ev Ls (Sm Ls d) post bk_71 0 (ab_init 4 as) [] w := Iff.rfl
theorem sm_72 {Ls d : Nat} {as : List ab_V} {w : ab_W} {post : Option ab_V → ab_W → Prop} : Sm Ls (d + 1) 72 as w post ↔ (ab_il as).length ≤ 7 ∧ Ev Ls (Sm Ls d) post bk_72 0 (ab_init 7 as) [] w := Iff.rfl
theorem sm_73 {Ls d : Nat} {as : List ab_V} {w : ab_W} {post : Option ab_V → ab_W → Prop} : Sm Ls (d + 1) 73 as w post ↔ (ab_il as).length ≤ 4 ∧ Ev Ls (Sm Ls d) post bk_73 0 (ab_init 4 as) [] w := Iff.rfl
theorem sm_74 {Ls d : Nat} {as : List ab_V} {w : ab_W} {post : Option ab_V → ab_W → Prop} : Sm Ls (d + 1) 74 as w post ↔ (ab_il as).length ≤ 6 ∧ Ev Ls (Sm Ls d) post bk_74 0 (ab_init 6 as) [] w := Iff.rfl
theorem sm_75 {Ls d : Nat} {as : List ab_V} {w : ab_W} {post : Option ab_V → ab_W → Prop} : Sm Ls (d + 1) 75 as w post ↔ (ab_il as).length ≤ 4 ∧ Ev Ls (Sm Ls d) post bk_75 0 (ab_init 4 as) [] w := Iff.rfl
theorem sm_76 {Ls d : Nat} {as : List ab_V} {w : ab_W} {post : Option ab_V → ab_W → Prop} : Sm Ls (d + 1) 76 as w post ↔ (ab_il as).length ≤ 7 ∧ Ev Ls (Sm Ls d) post bk_76 0 (ab_init 7 as) [] w := Iff.rfl
theorem sm_77 {Ls d : Nat} {as : List ab_V} {w : ab_W} {post : Option ab_V → ab_W → Prop} : Sm Ls (d + 1) 77 as w post ↔ (ab_il as).length ≤ 1 ∧ Ev Ls (Sm Ls d) post bk_77 0 (ab_init 1 as) [] w := Iff.rfl
theorem sm_78 {Ls d : Nat} {as : List ab_V} {w : ab_W} {post : Option ab_V → ab_W → Prop} : Sm Ls (d + 1) 78 as w post ↔ (ab_il as).length ≤ 4 ∧ Ev Ls (Sm Ls d) post bk_78 0 (ab_init 4 as) [] w := Iff.rfl
theorem sm_79 {Ls d : Nat} {as : List ab_V} {w : ab_W} {post : Option ab_V → ab_W → Prop} : Sm Ls (d + 1) 79 as w post ↔ (ab_il as).length ≤ 2 ∧ Ev Ls (Sm Ls d) post bk_79 0 (ab_init 2 as) [] w := Iff.rfl
theorem sm_80 {Ls d : Nat} {as : List ab_V} {w : ab_W} {post : Option ab_V → ab_W → Prop} : Sm Ls (d + 1) 80 as w post ↔ (ab_il as).length ≤ 6 ∧ Ev Ls (Sm Ls d) post bk_80 0 (ab_init 6 as) [] w := Iff.rfl
theorem sm_81 {Ls d : Nat} {as : List ab_V} {w : ab_W} {post : Option ab_V → ab_W → Prop} : Sm Ls (d + 1) 81 as w post ↔ (ab_il as).length ≤ 5 ∧ Ev Ls (Sm Ls d) post bk_81 0 (ab_init 5 as) [] w := Iff.rfl
theorem sm_82 {Ls d : Nat} {as : List ab_V} {w : ab_W} {post : Option ab_V → ab_W → Prop} : Sm Ls (d + 1) 82 as w post ↔ (ab_il as).length ≤ 3 ∧ Ev Ls (Sm Ls d) post bk_82 0 (ab_init 3 as) [] w := Iff.rfl
theorem sm_83 {Ls d : Nat} {as : List ab_V} {w : ab_W} {post : Option ab_V → ab_W → Prop} : Sm Ls (d + 1) 83 as w post ↔ (ab_il as).length ≤ 8 ∧ Ev Ls (Sm Ls d) post bk_83 0 (ab_init 8 as) [] w := Iff.rfl
theorem sm_84 {Ls d : Nat} {as : List ab_V} {w : ab_W} {post : Option ab_V → ab_W → Prop} : Sm Ls (d + 1) 84 as w post ↔ (ab_il as).length ≤ 6 ∧ Ev Ls (Sm Ls d) post bk_84 0 (ab_init 6 as) [] w := Iff.rfl
theorem sm_85 {Ls d : Nat} {as : List ab_V} {w : ab_W} {post : Option ab_V → ab_W → Prop} : Sm Ls (d + 1) 85 as w post ↔ (ab_il as).length ≤ 2 ∧ Ev Ls (Sm Ls d) post bk_85 0 (ab_init 2 as) [] w := Iff.rfl
theorem sm_86 {Ls d : Nat} {as : List ab_V} {w : ab_W} {post : Option ab_V → ab_W → Prop} : Sm Ls (d + 1) 86 as w post ↔ (ab_il as).length ≤ 3 ∧ Ev Ls (Sm Ls d) post bk_86 0 (ab_init 3 as) [] w := Iff.rfl
theorem sm_87 {Ls d : Nat} {as : List ab_V} {w : ab_W} {post : Option ab_V → ab_W → Prop} : Sm Ls (d + 1) 87 as w post ↔ (ab_il as).length ≤ 3 ∧ Ev Ls (Sm Ls d) post bk_87 0 (ab_init 3 as) [] w := Iff.rfl
theorem sm_88 {Ls d : Nat} {as : List ab_V} {w : ab_W} {post : Option ab_V → ab_W → Prop} : Sm Ls (d + 1) 88 as w post ↔ (ab_il as).length ≤ 4 ∧ Ev Ls (Sm Ls d) post bk_88 0 (ab_init 4 as) [] w := Iff.rfl
theorem sm_89 {Ls d : Nat} {as : List ab_V} {w : ab_W} {post : Option ab_V → ab_W → Prop} : Sm Ls (d + 1) 89 as w post ↔ (ab_il as).length ≤ 11 ∧ Ev Ls (Sm Ls d) post bk_89 0 (ab_init 11 as) [] w := Iff.rfl
theorem sm_90 {Ls d : Nat} {as : List ab_V} {w : ab_W} {post : Option ab_V → ab_W → Prop} : Sm Ls (d + 1) 90 as w post ↔ (ab_il as).length ≤ 7 ∧ Ev Ls (Sm Ls d) post bk_90 0 (ab_init 7 as) [] w := Iff.rfl
theorem sm_91 {Ls d : Nat} {as : List ab_V} {w : ab_W} {post : Option ab_V → ab_W → Prop} : Sm Ls (d + 1) 91 as w post ↔ (ab_il as).length ≤ 7 ∧ Ev Ls (Sm Ls d) post bk_91 0 (ab_init 7 as) [] w := Iff.rfl
theorem sm_92 {Ls d : Nat} {as : List ab_V} {w : ab_W} {post : Option ab_V → ab_W → Prop} : Sm Ls (d + 1) 92 as w post ↔ (ab_il as).length ≤ 2 ∧ Ev Ls (Sm Ls d) post bk_92 0 (ab_init 2 as) [] w := Iff.rfl
theorem sm_93 {Ls d : Nat} {as : List ab_V} {w : ab_W} {post : Option ab_V → ab_W → Prop} : Sm Ls (d + 1) 93 as w post ↔ (ab_il as).length ≤ 1 ∧ Ev Ls (Sm Ls d) post bk_93 0 (ab_init 1 as) [] w := Iff.rfl
theorem sm_94 {Ls d : Nat} {as : List ab_V} {w : ab_W} {post : Option ab_V → ab_W → Prop} : Sm Ls (d + 1) 94 as w post ↔ (ab_il as).length ≤ 1 ∧ Ev Ls (Sm Ls d) post bk_94 0 (ab_init 1 as) [] w := Iff.rfl
theorem sm_95 {Ls d : Nat} {as : List ab_V} {w : ab_W} {post : Option ab_V → ab_W → Prop} : Sm Ls (d + 1) 95 as w post ↔ (ab_il as).length ≤ 1 ∧ Ev Ls (Sm Ls d) post bk_95 0 (ab_init 1 as) [] w := Iff.rfl
theorem sm_96 {Ls d : Nat} {as : List ab_V} {w : ab_W} {post : Option ab_V → ab_W → Prop} : Sm Ls (d + 1) 96 as w post ↔ (ab_il as).length ≤ 3 ∧ Ev Ls (Sm Ls d) post bk_96 0 (ab_init 3 as) [] w := Iff.rfl
theorem sm_97 {Ls d : Nat} {as : List ab_V} {w : ab_W} {post : Option ab_V → ab_W → Prop} : Sm Ls (d + 1) 97 as w post ↔ (ab_il as).length ≤ 1 ∧ Ev Ls (Sm Ls d) post bk_97 0 (ab_init 1 as) [] w := Iff.rfl
theorem sm_98 {Ls d : Nat} {as : List ab_V} {w : ab_W} {post : Option ab_V → ab_W → Prop} : Sm Ls (d + 1) 98 as w post ↔ (ab_il as).length ≤ 1 ∧ Ev Ls (Sm Ls d) post bk_98 0 (ab_init 1 as) [] w := Iff.rfl
theorem sm_99 {Ls d : Nat} {as : List ab_V} {w : ab_W} {post : Option ab_V → ab_W → Prop} : Sm Ls (d + 1) 99 as w post ↔ (ab_il as).length ≤ 1 ∧ Ev Ls (Sm Ls d) post bk_99 0 (ab_init 1 as) [] w := Iff.rfl
theorem sm_100 {Ls d : Nat} {as : List ab_V} {w : ab_W} {post : Option ab_V → ab_W → Prop} : Sm Ls (d + 1) 100 as w post ↔ (ab_il as).length ≤ 2 ∧ Ev Ls (Sm Ls d) post bk_100 0 (ab_init 2 as) [] w := Iff.rfl
theorem sm_101 {Ls d : Nat} {as : List ab_V} {w : ab_W} {post : Option ab_V → ab_W → Prop} : Sm Ls (d + 1) 101 as w post ↔ (ab_il as).length ≤ 3 ∧ Ev Ls (Sm Ls d) post bk_101 0 (ab_init 3 as) [] w := Iff.rfl
theorem sm_102 {Ls d : Nat} {as : List ab_V} {w : ab_W} {post : Option ab_V → ab_W → Prop} : Sm Ls (d + 1) 102 as w post ↔ (ab_il as).length ≤ 2 ∧ Ev Ls (Sm Ls d) post bk_102 0 (ab_init 2 as) [] w := Iff.rfl
theorem sm_103 {Ls d : Nat} {as : List ab_V} {w : ab_W} {post : Option ab_V → ab_W → Prop} : Sm Ls (d + 1) 103 as w post ↔ (ab_il as).length ≤ 1 ∧ Ev Ls (Sm Ls d) post bk_103 0 (ab_init 1 as) [] w := Iff.rfl
theorem sm_104 {Ls d : Nat} {as : List ab_V} {w : ab_W} {post : Option ab_V → ab_W → Prop} : Sm Ls (d + 1) 104 as w post ↔ (ab_il as).length ≤ 11 ∧ Ev Ls (Sm Ls d) post bk_104 0 (ab_init 11 as) [] w := Iff.rfl
theorem sm_105 {Ls d : Nat} {as : List ab_V} {w : ab_W} {post : Option ab_V → ab_W → Prop} : Sm Ls (d + 1) 105 as w post ↔ (ab_il as).length ≤ 1 ∧ Ev Ls (Sm Ls d) post bk_105 0 (ab_init 1 as) [] w := Iff.rfl
theorem sm_106 {Ls d : Nat} {as : List ab_V} {w : ab_W} {post : Option ab_V → ab_W → Prop} : Sm Ls (d + 1) 106 as w post ↔ (ab_il as).length ≤ 1 ∧ Ev Ls (Sm Ls d) post bk_106 0 (ab_init 1 as) [] w := Iff.rfl
theorem sm_107 {Ls d : Nat} {as : List ab_V} {w : ab_W} {post : Option ab_V → ab_W → Prop} : Sm Ls (d + 1) 107 as w post ↔ (ab_il as).length ≤ 1 ∧ Ev Ls (Sm Ls d) post bk_107 0 (ab_init 1 as) [] w := Iff.rfl
theorem sm_108 {Ls d : Nat} {as : List ab_V} {w : ab_W} {post : Option ab_V → ab_W → Prop} : Sm Ls (d + 1) 108 as w post ↔ (ab_il as).length ≤ 1 ∧ Ev Ls (Sm Ls d) post bk_108 0 (ab_init 1 as) [] w := Iff.rfl
theorem sm_109 {Ls d : Nat} {as : List ab_V} {w : ab_W} {post : Option ab_V → ab_W → Prop} : Sm Ls (d + 1) 109 as w post ↔ (ab_il as).length ≤ 2 ∧ Ev Ls (Sm Ls d) post bk_109 0 (ab_init 2 as) [] w := Iff.rfl
theorem sm_110 {Ls d : Nat} {as : List ab_V} {w : ab_W} {post : Option ab_V → ab_W → Prop} : Sm Ls (d + 1) 110 as w post ↔ (ab_il as).length ≤ 2 ∧ Ev Ls (Sm Ls d) post bk_110 0 (ab_init 2 as) [] w := Iff.rfl
theorem sm_111 {Ls d : Nat} {as : List ab_V} {w : ab_W} {post : Option ab_V → ab_W → Prop} : Sm Ls (d + 1) 111 as w post ↔ (ab_il as).length ≤ 1 ∧ Ev Ls (Sm Ls d) post bk_111 0 (ab_init 1 as) [] w := Iff.rfl
theorem sm_112 {Ls d : Nat} {as : List ab_V} {w : ab_W} {post : Option ab_V → ab_W → Prop} : Sm Ls (d + 1) 112 as w post ↔ (ab_il as).length ≤ 2 ∧ Ev Ls (Sm Ls d) post bk_112 0 (ab_init 2 as) [] w := Iff.rfl
theorem sm_113 {Ls d : Nat} {as : List ab_V} {w : ab_W} {post : Option ab_V → ab_W → Prop} : Sm Ls (d + 1) 113 as w post ↔ (ab_il as).length ≤ 6 ∧ Ev Ls (Sm Ls d) post bk_113 0 (ab_init 6 as) [] w := Iff.rfl
theorem sm_114 {Ls d : Nat} {as : List ab_V} {w : ab_W} {post : Option ab_V → ab_W → Prop} : Sm Ls (d + 1) 114 as w post ↔ (ab_il as).length ≤ 5 ∧ Ev Ls (Sm Ls d) post bk_114 0 (ab_init 5 as) [] w := Iff.rfl
theorem sm_115 {Ls d : Nat} {as : List ab_V} {w : ab_W} {post : Option ab_V → ab_W → Prop} : Sm Ls (d + 1) 115 as w post ↔ (ab_il as).length ≤ 4 ∧ Ev Ls (Sm Ls d) post bk_115 0 (ab_init 4 as) [] w := Iff.rfl
theorem sm_116 {Ls d : Nat} {as : List ab_V} {w : ab_W} {post : Option ab_V → ab_W → Prop} : Sm Ls (d + 1) 116 as w post ↔ (ab_il as).length ≤ 2 ∧ Ev Ls (Sm Ls d) post bk_116 0 (ab_init 2 as) [] w := Iff.rfl
theorem sm_117 {Ls d : Nat} {as : List ab_V} {w : ab_W} {post : Option ab_V → ab_W → Prop} : Sm Ls (d + 1) 117 as w post ↔ (ab_il as).length ≤ 1 ∧ Ev Ls (Sm Ls d) post bk_117 0 (ab_init 1 as) [] w := Iff.rfl
theorem sm_118 {Ls d : Nat} {as : List ab_V} {w : ab_W} {post : Option ab_V → ab_W → Prop} : Sm Ls (d + 1) 118 as w post ↔ (ab_il as).length ≤ 2 ∧ Ev Ls (Sm Ls d) post bk_118 0 (ab_init 2 as) [] w := Iff.rfl
theorem sm_119 {Ls d : Nat} {as : List ab_V} {w : ab_W} {post : Option ab_V → ab_W → Prop} : Sm Ls (d + 1) 119 as w post ↔ (ab_il as).length ≤ 4 ∧ Ev Ls (Sm Ls d) post bk_119 0 (ab_init 4 as) [] w := Iff.rfl
theorem sm_120 {Ls d : Nat} {as : List ab_V} {w : ab_W} {post : Option ab_V → ab_W → Prop} : Sm Ls (d + 1) 120 as w post ↔ (ab_il as).length ≤ 4 ∧ Ev Ls (Sm Ls d) post bk_120 0 (ab_init 4 as) [] w := Iff.rfl
theorem sm_121 {Ls d : Nat} {as : List ab_V} {w : ab_W} {post : Option ab_V → ab_W → Prop} : Sm Ls (d + 1) 121 as w post ↔ (ab_il as).length ≤ 3 ∧ Ev Ls (Sm Ls d) post bk_121 0 (ab_init 3 as) [] w := Iff.rfl
theorem sm_122 {Ls d : Nat} {as : List ab_V} {w : ab_W} {post : Option ab_V → ab_W → Prop} : Sm Ls (d + 1) 122 as w post ↔ (ab_il as).length ≤ 4 ∧ Ev Ls (Sm Ls d) post bk_122 0 (ab_init 4 as) [] w := Iff.rfl
theorem sm_123 {Ls d : Nat} {as : List ab_V} {w : ab_W} {post : Option ab_V → ab_W → Prop} : Sm Ls (d + 1) 123 as w post ↔ (ab_il as).length ≤ 1 ∧ Ev Ls (Sm Ls d) post bk_123 0 (ab_init 1 as) [] w := Iff.rfl
theorem sm_124 {Ls d : Nat} {as : List ab_V} {w : ab_W} {post : Option ab_V → ab_W → Prop} : Sm Ls (d + 1) 124 as w post ↔ (ab_il as).length ≤ 4 ∧ Ev Ls (Sm Ls d) post bk_124 0 (ab_init 4 as) [] w := Iff.rfl
theorem sm_125 {Ls d : Nat} {as : List ab_V} {w : ab_W} {post : Option ab_V → ab_W → Prop} : Sm Ls (d + 1) 125 as w post ↔ (ab_il as).length ≤ 2 ∧ Ev Ls (Sm Ls d) post bk_125 0 (ab_init 2 as) [] w := Iff.rfl
theorem sm_126 {Ls d : Nat} {as : List ab_V} {w : ab_W} {post : Option ab_V → ab_W → Prop} : Sm Ls (d + 1) 126 as w post ↔ (ab_il as).length ≤ 4 ∧ Ev Ls (Sm Ls d) post bk_126 0 (ab_init 4 as) [] w := Iff.rfl
theorem sm_127 {Ls d : Nat} {as : List ab_V} {w : ab_W} {post : Option ab_V → ab_W → Prop} : Sm Ls (d + 1) 127 as w post ↔ (ab_il as).length ≤ 7 ∧ Ev Ls (Sm Ls d) post bk_127 0 (ab_init 7 as) [] w := Iff.rfl
theorem sm_128 {Ls d : Nat} {as : List ab_V} {w : ab_W} {post : Option ab_V → ab_W → Prop} : Sm Ls (d + 1) 128 as w post ↔ (ab_il as).length ≤ 5 ∧ Ev Ls (Sm Ls d) post bk_128 0 (ab_init 5 as) [] w := Iff.rfl
theorem sm_129 {Ls d : Nat} {as : List ab_V} {w : ab_W} {post : Option ab_V → ab_W → Prop} : Sm Ls (d + 1) 129 as w post ↔ (ab_il as).length ≤ 5 ∧ Ev Ls (Sm Ls d) post bk_129 0 (ab_init 5 as) [] w := Iff.rfl
theorem sm_130 {Ls d : Nat} {as : List ab_V} {w : ab_W} {post : Option ab_V → ab_W → Prop} : Sm Ls (d + 1) 130 as w post ↔ (ab_il as).length ≤ 5 ∧ Ev Ls (Sm Ls d) post bk_130 0 (ab_init 5 as) [] w := Iff.rfl
theorem sm_131 {Ls d : Nat} {as : List ab_V} {w : ab_W} {post : Option ab_V → ab_W → Prop} : Sm Ls (d + 1) 131 as w post ↔ (ab_il as).length ≤ 6 ∧ Ev Ls (Sm Ls d) post bk_131 0 (ab_init 6 as) [] w := Iff.rfl
theorem sm_132 {Ls d : Nat} {as : List ab_V} {w : ab_W} {post : Option ab_V → ab_W → Prop} : Sm Ls (d + 1) 132 as w post ↔ (ab_il as).length ≤ 2 ∧ Ev Ls (Sm Ls d) post bk_132 0 (ab_init 2 as) [] w := Iff.rfl
theorem sm_133 {Ls d : Nat} {as : List ab_V} {w : ab_W} {post : Option ab_V → ab_W → Prop} : Sm Ls (d + 1) 133 as w post ↔ (ab_il as).length ≤ 1 ∧ Ev Ls (Sm Ls d) post bk_133 0 (ab_init 1 as) [] w := Iff.rfl
theorem sm_134 {Ls d : Nat} {as : List ab_V} {w : ab_W} {post : Option ab_V → ab_W → Prop} : Sm Ls (d + 1) 134 as w post ↔ (ab_il as).length ≤ 5 ∧ Ev Ls (Sm Ls d) post bk_134 0 (ab_init 5 as) [] w := Iff.rfl
theorem sm_135 {Ls d : Nat} {as : List ab_V} {w : ab_W} {post : Option ab_V → ab_W → Prop} : Sm Ls (d + 1) 135 as w post ↔ (ab_il as).length ≤ 4 ∧ Ev Ls (Sm Ls d) post bk_135 0 (ab_init 4 as) [] w := Iff.rfl
theorem sm_136 {Ls d : Nat} {as : List ab_V} {w : ab_W} {post : Option ab_V → ab_W → Prop} : Sm Ls (d + 1) 136 as w post ↔ (ab_il as).length ≤ 2 ∧ Ev Ls (Sm Ls d) post bk_136 0 (ab_init 2 as) [] w := Iff.rfl
theorem sm_137 {Ls d : Nat} {as : List ab_V} {w : ab_W} {post : Option ab_V → ab_W → Prop} : Sm Ls (d + 1) 137 as w post ↔ (ab_il as).length ≤ 2 ∧ Ev Ls (Sm Ls d) post bk_137 0 (ab_init 2 as) [] w := Iff.rfl
theorem sm_138 {Ls d : Nat} {as : List ab_V} {w : ab_W} {post : Option ab_V → ab_W → Prop} : Sm Ls (d + 1) 138 as w post ↔ (ab_il as).length ≤ 3 ∧ Ev Ls (Sm Ls d) post bk_138 0 (ab_init 3 as) [] w := Iff.rfl
theorem sm_139 {Ls d : Nat} {as : List ab_V} {w : ab_W} {post : Option ab_V → ab_W → Prop} : Sm Ls (d + 1) 139 as w post ↔ (ab_il as).length ≤ 3 ∧ Ev Ls (Sm Ls d) post bk_139 0 (ab_init 3 as) [] w := Iff.rfl
theorem sm_140 {Ls d : Nat} {as : List ab_V} {w : ab_W} {post : Option ab_V → ab_W → Prop} : Sm Ls (d + 1) 140 as w post ↔ (ab_il as).length ≤ 3 ∧ Ev Ls (Sm Ls d) post bk_140 0 (ab_init 3 as) [] w := Iff.rfl
theorem sm_141 {Ls d : Nat} {as : List ab_V} {w : ab_W} {post : Option ab_V → ab_W → Prop} : Sm Ls (d + 1) 141 as w post ↔ (ab_il as).length ≤ 3 ∧ Ev Ls (Sm Ls d) post bk_141 0 (ab_init 3 as) [] w := Iff.rfl
theorem sm_142 {Ls d : Nat} {as : List ab_V} {w : ab_W} {post : Option ab_V → ab_W → Prop} : Sm Ls (d + 1) 142 as w post ↔ (ab_il as).length ≤ 2 ∧ Ev Ls (Sm Ls d) post bk_142 0 (ab_init 2 as) [] w := Iff.rfl
theorem sm_143 {Ls d : Nat} {as : List ab_V} {w : ab_W} {post : Option ab_V → ab_W → Prop} : Sm Ls (d + 1) 143 as w post ↔ (ab_il as).length ≤ 2 ∧ Ev Ls (Sm Ls d) post bk_143 0 (ab_init 2 as) [] w := Iff.rfl
theorem sm_144 {Ls d : Nat} {as : List ab_V} {w : ab_W} {post : Option ab_V → ab_W → Prop} : Sm Ls (d + 1) 144 as w post ↔ (ab_il as).length ≤ 4 ∧ Ev Ls (Sm Ls d) post bk_144 0 (ab_init 4 as) [] w := Iff.rfl
theorem sm_145 {Ls d : Nat} {as : List ab_V} {w : ab_W} {post : Option ab_V → ab_W → Prop} : Sm Ls (d + 1) 145 as w post ↔ (ab_il as).length ≤ 3 ∧ Ev Ls (Sm Ls d) post bk_145 0 (ab_init 3 as) [] w := Iff.rfl
theorem sm_146 {Ls d : Nat} {as : List ab_V} {w : ab_W} {post : Option ab_V → ab_W → Prop} : Sm Ls (d + 1) 146 as w post ↔ (ab_il as).length ≤ 1 ∧ Ev Ls (Sm Ls d) post bk_146 0 (ab_init 1 as) [] w := Iff.rfl
theorem sm_147 {Ls d : Nat} {as : List ab_V} {w : ab_W} {post : Option ab_V → ab_W → Prop} : Sm Ls (d + 1) 147 as w post ↔ (ab_il as).length ≤ 7 ∧ Ev Ls (Sm Ls d) post bk_147 0 (ab_init 7 as) [] w := Iff.rfl
theorem sm_148 {Ls d : Nat} {as : List ab_V} {w : ab_W} {post : Option ab_V → ab_W → Prop} : Sm Ls (d + 1) 148 as w post ↔ (ab_il as).length ≤ 2 ∧ Ev Ls (Sm Ls d) post bk_148 0 (ab_init 2 as) [] w := Iff.rfl
theorem sm_149 {Ls d : Nat} {as : List ab_V} {w : ab_W} {post : Option ab_V → ab_W → Prop} : Sm Ls (d + 1) 149 as w post ↔ (ab_il as).length ≤ 2 ∧ Ev Ls (Sm Ls d) post bk_149 0 (ab_init 2 as) [] w := Iff.rfl
theorem sm_150 {Ls d : Nat} {as : List ab_V} {w : ab_W} {post : Option ab_V → ab_W → Prop} : Sm Ls (d + 1) 150 as w post ↔ (ab_il as).length ≤ 2 ∧ Ev Ls (Sm Ls d) post bk_150 0 (ab_init 2 as) [] w := Iff.rfl
theorem sm_151 {Ls d : Nat} {as : List ab_V} {w : ab_W} {post : Option ab_V → ab_W → Prop} : Sm Ls (d + 1) 151 as w post ↔ (ab_il as).length ≤ 4 ∧ Ev Ls (Sm Ls d) post bk_151 0 (ab_init 4 as) [] w := Iff.rfl
theorem sm_152 {Ls d : Nat} {as : List ab_V} {w : ab_W} {post : Option ab_V → ab_W → Prop} : Sm Ls (d + 1) 152 as w post ↔ (ab_il as).length ≤ 1 ∧ Ev Ls (Sm Ls d) post bk_152 0 (ab_init 1 as) [] w := Iff.rfl
theorem sm_153 {Ls d : Nat} {as : List ab_V} {w : ab_W} {post : Option ab_V → ab_W → Prop} : Sm Ls (d + 1) 153 as w post ↔ (ab_il as).length ≤ 7 ∧ Ev Ls (Sm Ls d) post bk_153 0 (ab_init 7 as) [] w := Iff.rfl
theorem sm_154 {Ls d : Nat} {as : List ab_V} {w : ab_W} {post : Option ab_V → ab_W → Prop} : Sm Ls (d + 1) 154 as w post ↔ (ab_il as).length ≤ 3 ∧ Ev Ls (Sm Ls d) post bk_154 0 (ab_init 3 as) [] w := Iff.rfl
theorem sm_155 {Ls d : Nat} {as : List ab_V} {w : ab_W} {post : Option ab_V → ab_W → Prop} : Sm Ls (d + 1) 155 as w post ↔ (ab_il as).length ≤ 8 ∧ Ev Ls (Sm Ls d) post bk_155 0 (ab_init 8 as) [] w := Iff.rfl
theorem sm_156 {Ls d : Nat} {as : List ab_V} {w : ab_W} {post : Option ab_V → ab_W → Prop} : Sm Ls (d + 1) 156 as w post ↔ (ab_il as).length ≤ 3 ∧ Ev Ls (Sm Ls d) post bk_156 0 (ab_init 3 as) [] w := Iff.rfl
theorem sm_157 {Ls d : Nat} {as : List ab_V} {w : ab_W} {post : Option ab_V → ab_W → Prop} : Sm Ls (d + 1) 157 as w post ↔ (ab_il as).length ≤ 3 ∧ Ev Ls (Sm Ls d) post bk_157 0 (ab_init 3 as) [] w := Iff.rfl
theorem sm_158 {Ls d : Nat} {as : List ab_V} {w : ab_W} {post : Option ab_V → ab_W → Prop} : Sm Ls (d + 1) 158 as w post ↔ (ab_il as).length ≤ 2 ∧ Ev Ls (Sm Ls d) post bk_158 0 (ab_init 2 as) [] w := Iff.rfl
theorem sm_159 {Ls d : Nat} {as : List ab_V} {w : ab_W} {post : Option ab_V → ab_W → Prop} : Sm Ls (d + 1) 159 as w post ↔ (ab_il as).length ≤ 2 ∧ Ev Ls (Sm Ls d) post bk_159 0 (ab_init 2 as) [] w := Iff.rfl
theorem sm_160 {Ls d : Nat} {as : List ab_V} {w : ab_W} {post : Option ab_V → ab_W → Prop} : Sm Ls (d + 1) 160 as w post ↔ (ab_il as).length ≤ 3 ∧ Ev Ls (Sm Ls d) post bk_160 0 (ab_init 3 as) [] w := Iff.rfl
theorem sm_161 {Ls d : Nat} {as : List ab_V} {w : ab_W} {post : Option ab_V → ab_W → Prop} : Sm Ls (d + 1) 161 as w post ↔ (ab_il as).length ≤ 3 ∧ Ev Ls (Sm Ls d) post bk_161 0 (ab_init 3 as) [] w := Iff.rfl
theorem sm_162 {Ls d : Nat} {as : List ab_V} {w : ab_W} {post : Option ab_V → ab_W → Prop} : Sm Ls (d + 1) 162 as w post ↔ (ab_il as).length ≤ 2 ∧ Ev Ls (Sm Ls d) post bk_162 0 (ab_init 2 as) [] w := Iff.rfl
theorem sm_163 {Ls d : Nat} {as : List ab_V} {w : ab_W} {post : Option ab_V → ab_W → Prop} : Sm Ls (d + 1) 163 as w post ↔ (ab_il as).length ≤ 4 ∧ Ev Ls (Sm Ls d) post bk_163 0 (ab_init 4 as) [] w := Iff.rfl
theorem sm_164 {Ls d : Nat} {as : List ab_V} {w : ab_W} {post : Option ab_V → ab_W → Prop} : Sm Ls (d + 1) 164 as w post ↔ (ab_il as).length ≤ 2 ∧ Ev Ls (Sm Ls d) post bk_164 0 (ab_init 2 as) [] w := Iff.rfl
theorem sm_165 {Ls d : Nat} {as : List ab_V} {w : ab_W} {post : Option ab_V → ab_W → Prop} : Sm Ls (d + 1) 165 as w post ↔ (ab_il as).length ≤ 3 ∧ Ev Ls (Sm Ls d) post bk_165 0 (ab_init 3 as) [] w := Iff.rfl
theorem sm_166 {Ls d : Nat} {as : List ab_V} {w : ab_W} {post : Option ab_V → ab_W → Prop} : Sm Ls (d + 1) 166 as w post ↔ (ab_il as).length ≤ 3 ∧ Ev Ls (Sm Ls d) post bk_166 0 (ab_init 3 as) [] w := Iff.rfl
theorem sm_167 {Ls d : Nat} {as : List ab_V} {w : ab_W} {post : Option ab_V → ab_W → Prop} : Sm Ls (d + 1) 167 as w post ↔ (ab_il as).length ≤ 1 ∧ Ev Ls (Sm Ls d) post bk_167 0 (ab_init 1 as) [] w := Iff.rfl
theorem sm_168 {Ls d : Nat} {as : List ab_V} {w : ab_W} {post : Option ab_V → ab_W → Prop} : Sm Ls (d + 1) 168 as w post ↔ (ab_il as).length ≤ 8 ∧ Ev Ls (Sm Ls d) post bk_168 0 (ab_init 8 as) [] w := Iff.rfl
theorem sm_169 {Ls d : Nat} {as : List ab_V} {w : ab_W} {post : Option ab_V → ab_W → Prop} : Sm Ls (d + 1) 169 as w post ↔ (ab_il as).length ≤ 5 ∧ Ev Ls (Sm Ls d) post bk_169 0 (ab_init 5 as) [] w := Iff.rfl
theorem sm_170 {Ls d : Nat} {as : List ab_V} {w : ab_W} {post : Option ab_V → ab_W → Prop} : Sm Ls (d + 1) 170 as w post ↔ (ab_il as).length ≤ 4 ∧ Ev Ls (Sm Ls d) post bk_170 0 (ab_init 4 as) [] w := Iff.rfl
theorem sm_171 {Ls d : Nat} {as : List ab_V} {w : ab_W} {post : Option ab_V → ab_W → Prop} : Sm Ls (d + 1) 171 as w post ↔ (ab_il as).length ≤ 10 ∧ Ev Ls (Sm Ls d) post bk_171 0 (ab_init 10 as) [] w := Iff.rfl
theorem sm_172 {Ls d : Nat} {as : List ab_V} {w : ab_W} {post : Option ab_V → ab_W → Prop} : Sm Ls (d + 1) 172 as w post ↔ (ab_il as).length ≤ 3 ∧ Ev Ls (Sm Ls d) post bk_172 0 (ab_init 3 as) [] w := Iff.rfl
theorem sm_173 {Ls d : Nat} {as : List ab_V} {w : ab_W} {post : Option ab_V → ab_W → Prop} : Sm Ls (d + 1) 173 as w post ↔ (ab_il as).length ≤ 10 ∧ Ev Ls (Sm Ls d) post bk_173 0 (ab_init 10 as) [] w := Iff.rfl
theorem sm_174 {Ls d : Nat} {as : List ab_V} {w : ab_W} {post : Option ab_V → ab_W → Prop} : Sm Ls (d + 1) 174 as w post ↔ (ab_il as).length ≤ 4 ∧ Ev Ls (Sm Ls d) post bk_174 0 (ab_init 4 as) [] w := Iff.rfl
theorem sm_175 {Ls d : Nat} {as : List ab_V} {w : ab_W} {post : Option ab_V → ab_W → Prop} : Sm Ls (d + 1) 175 as w post ↔ (ab_il as).length ≤ 6 ∧ Ev Ls (Sm Ls d) post bk_175 0 (ab_init 6 as) [] w := Iff.rfl
theorem sm_176 {Ls d : Nat} {as : List ab_V} {w : ab_W} {post : Option ab_V → ab_W → Prop} : Sm Ls (d + 1) 176 as w post ↔ (ab_il as).length ≤ 4 ∧ Ev Ls (Sm Ls d) post bk_176 0 (ab_init 4 as) [] w := Iff.rfl
theorem sm_177 {Ls d : Nat} {as : List ab_V} {w : ab_W} {post : Option ab_V → ab_W → Prop} : Sm Ls (d + 1) 177 as w post ↔ (ab_il as).length ≤ 2 ∧ Ev Ls (Sm Ls d) post bk_177 0 (ab_init 2 as) [] w := Iff.rfl
theorem sm_178 {Ls d : Nat} {as : List ab_V} {w : ab_W} {post : Option ab_V → ab_W → Prop} : Sm Ls (d + 1) 178 as w post ↔ (ab_il as).length ≤ 1 ∧ Ev Ls (Sm Ls d) post bk_178 0 (ab_init 1 as) [] w := Iff.rfl
theorem sm_179 {Ls d : Nat} {as : List ab_V} {w : ab_W} {post : Option ab_V → ab_W → Prop} : Sm Ls (d + 1) 179 as w post ↔ (ab_il as).length ≤ 5 ∧ Ev Ls (Sm Ls d) post bk_179 0 (ab_init 5 as) [] w := Iff.rfl
theorem sm_180 {Ls d : Nat} {as : List ab_V} {w : ab_W} {post : Option ab_V → ab_W → Prop} : Sm Ls (d + 1) 180 as w post ↔ (ab_il as).length ≤ 2 ∧ Ev Ls (Sm Ls d) post bk_180 0 (ab_init 2 as) [] w := Iff.rfl
theorem sm_181 {Ls d : Nat} {as : List ab_V} {w : ab_W} {post : Option ab_V → ab_W → Prop} : Sm Ls (d + 1) 181 as w post ↔ (ab_il as).length ≤ 4 ∧ Ev Ls (Sm Ls d) post bk_181 0 (ab_init 4 as) [] w := Iff.rfl
theorem sm_182 {Ls d : Nat} {as : List ab_V} {w : ab_W} {post : Option ab_V → ab_W → Prop} : Sm Ls (d + 1) 182 as w post ↔ (ab_il as).length ≤ 4 ∧ Ev Ls (Sm Ls d) post bk_182 0 (ab_init 4 as) [] w := Iff.rfl
theorem sm_183 {Ls d : Nat} {as : List ab_V} {w : ab_W} {post : Option ab_V → ab_W → Prop} : Sm Ls (d + 1) 183 as w post ↔ (ab_il as).length ≤ 6 ∧ Ev Ls (Sm Ls d) post bk_183 0 (ab_init 6 as) [] w := Iff.rfl
theorem sm_184 {Ls d : Nat} {as : List ab_V} {w : ab_W} {post : Option ab_V → ab_W → Prop} : Sm Ls (d + 1) 184 as w post ↔ (ab_il as).length ≤ 5 ∧ Ev Ls (Sm Ls d) post bk_184 0 (ab_init 5 as) [] w := Iff.rfl
theorem sm_185 {Ls d : Nat} {as : List ab_V} {w : ab_W} {post : Option ab_V → ab_W → Prop} : Sm Ls (d + 1) 185 as w post ↔ (ab_il as).length ≤ 7 ∧ Ev Ls (Sm Ls d) post bk_185 0 (ab_init 7 as) [] w := Iff.rfl
theorem sm_186 {Ls d : Nat} {as : List ab_V} {w : ab_W} {post : Option ab_V → ab_W → Prop} : Sm Ls (d + 1) 186 as w post ↔ (ab_il as).length ≤ 4 ∧ Ev Ls (Sm Ls d) post bk_186 0 (ab_init 4 as) [] w := Iff.rfl
theorem sm_187 {Ls d : Nat} {as : List ab_V} {w : ab_W} {post : Option ab_V → ab_W → Prop} : Sm Ls (d + 1) 187 as w post ↔ (ab_il as).length ≤ 3 ∧ Ev Ls (Sm Ls d) post bk_187 0 (ab_init 3 as) [] w := Iff.rfl
theorem sm_188 {Ls d : Nat} {as : List ab_V} {w : ab_W} {post : Option ab_V → ab_W → Prop} : Sm Ls (d + 1) 188 as w post ↔ (ab_il as).length ≤ 1 ∧ Ev Ls (Sm Ls d) post bk_188 0 (ab_init 1 as) [] w := Iff.rfl
theorem sm_189 {Ls d : Nat} {as : List ab_V} {w : ab_W} {post : Option ab_V → ab_W → Prop} : Sm Ls (d + 1) 189 as w post ↔ (ab_il as).length ≤ 1 ∧ Ev Ls (Sm Ls d) post bk_189 0 (ab_init 1 as) [] w := Iff.rfl
theorem sm_190 {Ls d : Nat} {as : List ab_V} {w : ab_W} {post : Option ab_V → ab_W → Prop} : Sm Ls (d + 1) 190 as w post ↔ (ab_il as).length ≤ 2 ∧ Ev Ls (Sm Ls d) post bk_190 0 (ab_init 2 as) [] w := Iff.rfl
theorem sm_191 {Ls d : Nat} {as : List ab_V} {w : ab_W} {post : Option ab_V → ab_W → Prop} : Sm Ls (d + 1) 191 as w post ↔ (ab_il as).length ≤ 8 ∧ Ev Ls (Sm Ls d) post bk_191 0 (ab_init 8 as) [] w := Iff.rfl
theorem sm_192 {Ls d : Nat} {as : List ab_V} {w : ab_W} {post : Option ab_V → ab_W → Prop} : Sm Ls (d + 1) 192 as w post ↔ (ab_il as).length ≤ 8 ∧ Ev Ls (Sm Ls d) post bk_192 0 (ab_init 8 as) [] w := Iff.rfl
theorem sm_193 {Ls d : Nat} {as : List ab_V} {w : ab_W} {post : Option ab_V → ab_W → Prop} : Sm Ls (d + 1) 193 as w post ↔ (ab_il as).length ≤ 7 ∧ Ev Ls (Sm Ls d) post bk_193 0 (ab_init 7 as) [] w := Iff.rfl
theorem sm_194 {Ls d : Nat} {as : List ab_V} {w : ab_W} {post : Option ab_V → ab_W → Prop} : Sm Ls (d + 1) 194 as w post ↔ (ab_il as).length ≤ 4 ∧ Ev Ls (Sm Ls d) post bk_194 0 (ab_init 4 as) [] w := Iff.rfl
