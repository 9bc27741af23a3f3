/-! ===== printed by wip/whole/tools: JDK members, Bits, Row, Sets ===== -/
abbrev cX0_one : ByteArray := prog_2_method_2_code
def yX0_one : MethodName := ⟨RX0, "one", "(I)J"⟩
theorem dX0_one_0 : decode cX0_one 0 = .ok (.iload_n 0, 1) := by decide +kernel
theorem dX0_one_1 : decode cX0_one 1 = .ok (.ifCond .lt 15, 3) := by decide +kernel
theorem dX0_one_4 : decode cX0_one 4 = .ok (.iload_n 0, 1) := by decide +kernel
theorem dX0_one_5 : decode cX0_one 5 = .ok (.bipush 64, 2) := by decide +kernel
theorem dX0_one_7 : decode cX0_one 7 = .ok (.if_icmp .ge 9, 3) := by decide +kernel
theorem dX0_one_10 : decode cX0_one 10 = .ok (.lconst 1, 1) := by decide +kernel
theorem dX0_one_11 : decode cX0_one 11 = .ok (.iload_n 0, 1) := by decide +kernel
theorem dX0_one_12 : decode cX0_one 12 = .ok (.lshl, 1) := by decide +kernel
theorem dX0_one_13 : decode cX0_one 13 = .ok (.goto 4, 3) := by decide +kernel
theorem dX0_one_16 : decode cX0_one 16 = .ok (.lconst 0, 1) := by decide +kernel
theorem dX0_one_17 : decode cX0_one 17 = .ok (.lreturn, 1) := by decide +kernel
abbrev cX0_below : ByteArray := prog_2_method_3_code
def yX0_below : MethodName := ⟨RX0, "below", "(I)J"⟩
theorem dX0_below_0 : decode cX0_below 0 = .ok (.iload_n 0, 1) := by decide +kernel
theorem dX0_below_1 : decode cX0_below 1 = .ok (.ifCond .gt 5, 3) := by decide +kernel
theorem dX0_below_4 : decode cX0_below 4 = .ok (.lconst 0, 1) := by decide +kernel
theorem dX0_below_5 : decode cX0_below 5 = .ok (.lreturn, 1) := by decide +kernel
theorem dX0_below_6 : decode cX0_below 6 = .ok (.iload_n 0, 1) := by decide +kernel
theorem dX0_below_7 : decode cX0_below 7 = .ok (.bipush 64, 2) := by decide +kernel
theorem dX0_below_9 : decode cX0_below 9 = .ok (.if_icmp .lt 9, 3) := by decide +kernel
theorem dX0_below_12 : decode cX0_below 12 = .ok (.ldc2_w 9, 3) := by decide +kernel
theorem dX0_below_15 : decode cX0_below 15 = .ok (.goto 8, 3) := by decide +kernel
theorem dX0_below_18 : decode cX0_below 18 = .ok (.lconst 1, 1) := by decide +kernel
theorem dX0_below_19 : decode cX0_below 19 = .ok (.iload_n 0, 1) := by decide +kernel
theorem dX0_below_20 : decode cX0_below 20 = .ok (.lshl, 1) := by decide +kernel
theorem dX0_below_21 : decode cX0_below 21 = .ok (.lconst 1, 1) := by decide +kernel
theorem dX0_below_22 : decode cX0_below 22 = .ok (.lsub, 1) := by decide +kernel
theorem dX0_below_23 : decode cX0_below 23 = .ok (.lreturn, 1) := by decide +kernel
abbrev cX0_holds : ByteArray := prog_2_method_4_code
def yX0_holds : MethodName := ⟨RX0, "holds", "(JI)Z"⟩
theorem dX0_holds_0 : decode cX0_holds 0 = .ok (.iload_n 2, 1) := by decide +kernel
theorem dX0_holds_1 : decode cX0_holds 1 = .ok (.ifCond .lt 23, 3) := by decide +kernel
theorem dX0_holds_4 : decode cX0_holds 4 = .ok (.iload_n 2, 1) := by decide +kernel
theorem dX0_holds_5 : decode cX0_holds 5 = .ok (.bipush 64, 2) := by decide +kernel
theorem dX0_holds_7 : decode cX0_holds 7 = .ok (.if_icmp .ge 17, 3) := by decide +kernel
theorem dX0_holds_10 : decode cX0_holds 10 = .ok (.lload_n 0, 1) := by decide +kernel
theorem dX0_holds_11 : decode cX0_holds 11 = .ok (.iload_n 2, 1) := by decide +kernel
theorem dX0_holds_12 : decode cX0_holds 12 = .ok (.lushr, 1) := by decide +kernel
theorem dX0_holds_13 : decode cX0_holds 13 = .ok (.lconst 1, 1) := by decide +kernel
theorem dX0_holds_14 : decode cX0_holds 14 = .ok (.land, 1) := by decide +kernel
theorem dX0_holds_15 : decode cX0_holds 15 = .ok (.lconst 0, 1) := by decide +kernel
theorem dX0_holds_16 : decode cX0_holds 16 = .ok (.lcmp, 1) := by decide +kernel
theorem dX0_holds_17 : decode cX0_holds 17 = .ok (.ifCond .eq 7, 3) := by decide +kernel
theorem dX0_holds_20 : decode cX0_holds 20 = .ok (.iconst 1, 1) := by decide +kernel
theorem dX0_holds_21 : decode cX0_holds 21 = .ok (.goto 4, 3) := by decide +kernel
theorem dX0_holds_24 : decode cX0_holds 24 = .ok (.iconst 0, 1) := by decide +kernel
theorem dX0_holds_25 : decode cX0_holds 25 = .ok (.ireturn, 1) := by decide +kernel
abbrev cJ13_bitCount_95d88 : ByteArray := prog_18_method_50_code
def yJ13_bitCount_95d88 : MethodName := ⟨RJ13, "bitCount", "(J)I"⟩
theorem dJ13_bitCount_95d88_0 : decode cJ13_bitCount_95d88 0 = .ok (.lload_n 0, 1) := by decide +kernel
theorem dJ13_bitCount_95d88_1 : decode cJ13_bitCount_95d88 1 = .ok (.lload_n 0, 1) := by decide +kernel
theorem dJ13_bitCount_95d88_2 : decode cJ13_bitCount_95d88 2 = .ok (.iconst 1, 1) := by decide +kernel
theorem dJ13_bitCount_95d88_3 : decode cJ13_bitCount_95d88 3 = .ok (.lushr, 1) := by decide +kernel
theorem dJ13_bitCount_95d88_4 : decode cJ13_bitCount_95d88 4 = .ok (.ldc2_w 314, 3) := by decide +kernel
theorem dJ13_bitCount_95d88_7 : decode cJ13_bitCount_95d88 7 = .ok (.land, 1) := by decide +kernel
theorem dJ13_bitCount_95d88_8 : decode cJ13_bitCount_95d88 8 = .ok (.lsub, 1) := by decide +kernel
theorem dJ13_bitCount_95d88_9 : decode cJ13_bitCount_95d88 9 = .ok (.lstore_n 0, 1) := by decide +kernel
theorem dJ13_bitCount_95d88_10 : decode cJ13_bitCount_95d88 10 = .ok (.lload_n 0, 1) := by decide +kernel
theorem dJ13_bitCount_95d88_11 : decode cJ13_bitCount_95d88 11 = .ok (.ldc2_w 316, 3) := by decide +kernel
theorem dJ13_bitCount_95d88_14 : decode cJ13_bitCount_95d88 14 = .ok (.land, 1) := by decide +kernel
theorem dJ13_bitCount_95d88_15 : decode cJ13_bitCount_95d88 15 = .ok (.lload_n 0, 1) := by decide +kernel
theorem dJ13_bitCount_95d88_16 : decode cJ13_bitCount_95d88 16 = .ok (.iconst 2, 1) := by decide +kernel
theorem dJ13_bitCount_95d88_17 : decode cJ13_bitCount_95d88 17 = .ok (.lushr, 1) := by decide +kernel
theorem dJ13_bitCount_95d88_18 : decode cJ13_bitCount_95d88 18 = .ok (.ldc2_w 316, 3) := by decide +kernel
theorem dJ13_bitCount_95d88_21 : decode cJ13_bitCount_95d88 21 = .ok (.land, 1) := by decide +kernel
theorem dJ13_bitCount_95d88_22 : decode cJ13_bitCount_95d88 22 = .ok (.ladd, 1) := by decide +kernel
theorem dJ13_bitCount_95d88_23 : decode cJ13_bitCount_95d88 23 = .ok (.lstore_n 0, 1) := by decide +kernel
theorem dJ13_bitCount_95d88_24 : decode cJ13_bitCount_95d88 24 = .ok (.lload_n 0, 1) := by decide +kernel
theorem dJ13_bitCount_95d88_25 : decode cJ13_bitCount_95d88 25 = .ok (.lload_n 0, 1) := by decide +kernel
theorem dJ13_bitCount_95d88_26 : decode cJ13_bitCount_95d88 26 = .ok (.iconst 4, 1) := by decide +kernel
theorem dJ13_bitCount_95d88_27 : decode cJ13_bitCount_95d88 27 = .ok (.lushr, 1) := by decide +kernel
theorem dJ13_bitCount_95d88_28 : decode cJ13_bitCount_95d88 28 = .ok (.ladd, 1) := by decide +kernel
theorem dJ13_bitCount_95d88_29 : decode cJ13_bitCount_95d88 29 = .ok (.ldc2_w 318, 3) := by decide +kernel
theorem dJ13_bitCount_95d88_32 : decode cJ13_bitCount_95d88 32 = .ok (.land, 1) := by decide +kernel
theorem dJ13_bitCount_95d88_33 : decode cJ13_bitCount_95d88 33 = .ok (.lstore_n 0, 1) := by decide +kernel
theorem dJ13_bitCount_95d88_34 : decode cJ13_bitCount_95d88 34 = .ok (.lload_n 0, 1) := by decide +kernel
theorem dJ13_bitCount_95d88_35 : decode cJ13_bitCount_95d88 35 = .ok (.lload_n 0, 1) := by decide +kernel
theorem dJ13_bitCount_95d88_36 : decode cJ13_bitCount_95d88 36 = .ok (.bipush 8, 2) := by decide +kernel
theorem dJ13_bitCount_95d88_38 : decode cJ13_bitCount_95d88 38 = .ok (.lushr, 1) := by decide +kernel
theorem dJ13_bitCount_95d88_39 : decode cJ13_bitCount_95d88 39 = .ok (.ladd, 1) := by decide +kernel
theorem dJ13_bitCount_95d88_40 : decode cJ13_bitCount_95d88 40 = .ok (.lstore_n 0, 1) := by decide +kernel
theorem dJ13_bitCount_95d88_41 : decode cJ13_bitCount_95d88 41 = .ok (.lload_n 0, 1) := by decide +kernel
theorem dJ13_bitCount_95d88_42 : decode cJ13_bitCount_95d88 42 = .ok (.lload_n 0, 1) := by decide +kernel
theorem dJ13_bitCount_95d88_43 : decode cJ13_bitCount_95d88 43 = .ok (.bipush 16, 2) := by decide +kernel
theorem dJ13_bitCount_95d88_45 : decode cJ13_bitCount_95d88 45 = .ok (.lushr, 1) := by decide +kernel
theorem dJ13_bitCount_95d88_46 : decode cJ13_bitCount_95d88 46 = .ok (.ladd, 1) := by decide +kernel
theorem dJ13_bitCount_95d88_47 : decode cJ13_bitCount_95d88 47 = .ok (.lstore_n 0, 1) := by decide +kernel
theorem dJ13_bitCount_95d88_48 : decode cJ13_bitCount_95d88 48 = .ok (.lload_n 0, 1) := by decide +kernel
theorem dJ13_bitCount_95d88_49 : decode cJ13_bitCount_95d88 49 = .ok (.lload_n 0, 1) := by decide +kernel
theorem dJ13_bitCount_95d88_50 : decode cJ13_bitCount_95d88 50 = .ok (.bipush 32, 2) := by decide +kernel
theorem dJ13_bitCount_95d88_52 : decode cJ13_bitCount_95d88 52 = .ok (.lushr, 1) := by decide +kernel
theorem dJ13_bitCount_95d88_53 : decode cJ13_bitCount_95d88 53 = .ok (.ladd, 1) := by decide +kernel
theorem dJ13_bitCount_95d88_54 : decode cJ13_bitCount_95d88 54 = .ok (.lstore_n 0, 1) := by decide +kernel
theorem dJ13_bitCount_95d88_55 : decode cJ13_bitCount_95d88 55 = .ok (.lload_n 0, 1) := by decide +kernel
theorem dJ13_bitCount_95d88_56 : decode cJ13_bitCount_95d88 56 = .ok (.l2i, 1) := by decide +kernel
theorem dJ13_bitCount_95d88_57 : decode cJ13_bitCount_95d88 57 = .ok (.bipush 127, 2) := by decide +kernel
theorem dJ13_bitCount_95d88_59 : decode cJ13_bitCount_95d88 59 = .ok (.iand, 1) := by decide +kernel
theorem dJ13_bitCount_95d88_60 : decode cJ13_bitCount_95d88 60 = .ok (.ireturn, 1) := by decide +kernel
abbrev cX0_lowest : ByteArray := prog_2_method_5_code
def yX0_lowest : MethodName := ⟨RX0, "lowest", "(J)I"⟩
theorem dX0_lowest_0 : decode cX0_lowest 0 = .ok (.lload_n 0, 1) := by decide +kernel
theorem dX0_lowest_1 : decode cX0_lowest 1 = .ok (.lconst 0, 1) := by decide +kernel
theorem dX0_lowest_2 : decode cX0_lowest 2 = .ok (.lcmp, 1) := by decide +kernel
theorem dX0_lowest_3 : decode cX0_lowest 3 = .ok (.ifCond .ne 7, 3) := by decide +kernel
theorem dX0_lowest_6 : decode cX0_lowest 6 = .ok (.iconst (-1), 1) := by decide +kernel
theorem dX0_lowest_7 : decode cX0_lowest 7 = .ok (.goto 12, 3) := by decide +kernel
theorem dX0_lowest_10 : decode cX0_lowest 10 = .ok (.lload_n 0, 1) := by decide +kernel
theorem dX0_lowest_11 : decode cX0_lowest 11 = .ok (.lload_n 0, 1) := by decide +kernel
theorem dX0_lowest_12 : decode cX0_lowest 12 = .ok (.lneg, 1) := by decide +kernel
theorem dX0_lowest_13 : decode cX0_lowest 13 = .ok (.land, 1) := by decide +kernel
theorem dX0_lowest_14 : decode cX0_lowest 14 = .ok (.lconst 1, 1) := by decide +kernel
theorem dX0_lowest_15 : decode cX0_lowest 15 = .ok (.lsub, 1) := by decide +kernel
theorem dX0_lowest_16 : decode cX0_lowest 16 = .ok (.invokestatic 11, 3) := by decide +kernel
theorem dX0_lowest_19 : decode cX0_lowest 19 = .ok (.ireturn, 1) := by decide +kernel
abbrev cX0_memberAt : ByteArray := prog_2_method_6_code
def yX0_memberAt : MethodName := ⟨RX0, "memberAt", "(JI)I"⟩
theorem dX0_memberAt_0 : decode cX0_memberAt 0 = .ok (.iload_n 2, 1) := by decide +kernel
theorem dX0_memberAt_1 : decode cX0_memberAt 1 = .ok (.ifCond .lt 11, 3) := by decide +kernel
theorem dX0_memberAt_4 : decode cX0_memberAt 4 = .ok (.iload_n 2, 1) := by decide +kernel
theorem dX0_memberAt_5 : decode cX0_memberAt 5 = .ok (.lload_n 0, 1) := by decide +kernel
theorem dX0_memberAt_6 : decode cX0_memberAt 6 = .ok (.invokestatic 11, 3) := by decide +kernel
theorem dX0_memberAt_9 : decode cX0_memberAt 9 = .ok (.if_icmp .lt 5, 3) := by decide +kernel
theorem dX0_memberAt_12 : decode cX0_memberAt 12 = .ok (.iconst (-1), 1) := by decide +kernel
theorem dX0_memberAt_13 : decode cX0_memberAt 13 = .ok (.ireturn, 1) := by decide +kernel
theorem dX0_memberAt_14 : decode cX0_memberAt 14 = .ok (.lload_n 0, 1) := by decide +kernel
theorem dX0_memberAt_15 : decode cX0_memberAt 15 = .ok (.lstore_n 3, 1) := by decide +kernel
theorem dX0_memberAt_16 : decode cX0_memberAt 16 = .ok (.iconst 0, 1) := by decide +kernel
theorem dX0_memberAt_17 : decode cX0_memberAt 17 = .ok (.istore 5, 2) := by decide +kernel
theorem dX0_memberAt_19 : decode cX0_memberAt 19 = .ok (.iload 5, 2) := by decide +kernel
theorem dX0_memberAt_21 : decode cX0_memberAt 21 = .ok (.iload_n 2, 1) := by decide +kernel
theorem dX0_memberAt_22 : decode cX0_memberAt 22 = .ok (.if_icmp .ge 15, 3) := by decide +kernel
theorem dX0_memberAt_25 : decode cX0_memberAt 25 = .ok (.lload_n 3, 1) := by decide +kernel
theorem dX0_memberAt_26 : decode cX0_memberAt 26 = .ok (.lload_n 3, 1) := by decide +kernel
theorem dX0_memberAt_27 : decode cX0_memberAt 27 = .ok (.lconst 1, 1) := by decide +kernel
theorem dX0_memberAt_28 : decode cX0_memberAt 28 = .ok (.lsub, 1) := by decide +kernel
theorem dX0_memberAt_29 : decode cX0_memberAt 29 = .ok (.land, 1) := by decide +kernel
theorem dX0_memberAt_30 : decode cX0_memberAt 30 = .ok (.lstore_n 3, 1) := by decide +kernel
theorem dX0_memberAt_31 : decode cX0_memberAt 31 = .ok (.iinc 5 1, 3) := by decide +kernel
theorem dX0_memberAt_34 : decode cX0_memberAt 34 = .ok (.goto (-15), 3) := by decide +kernel
theorem dX0_memberAt_37 : decode cX0_memberAt 37 = .ok (.lload_n 3, 1) := by decide +kernel
theorem dX0_memberAt_38 : decode cX0_memberAt 38 = .ok (.invokestatic 17, 3) := by decide +kernel
theorem dX0_memberAt_41 : decode cX0_memberAt 41 = .ok (.ireturn, 1) := by decide +kernel
abbrev cX0_agrees : ByteArray := prog_2_method_7_code
def yX0_agrees : MethodName := ⟨RX0, "agrees", "(III)Z"⟩
theorem dX0_agrees_0 : decode cX0_agrees 0 = .ok (.iload_n 1, 1) := by decide +kernel
theorem dX0_agrees_1 : decode cX0_agrees 1 = .ok (.ifCond .ne 14, 3) := by decide +kernel
theorem dX0_agrees_4 : decode cX0_agrees 4 = .ok (.iload_n 0, 1) := by decide +kernel
theorem dX0_agrees_5 : decode cX0_agrees 5 = .ok (.iload_n 2, 1) := by decide +kernel
theorem dX0_agrees_6 : decode cX0_agrees 6 = .ok (.if_icmp .ne 7, 3) := by decide +kernel
theorem dX0_agrees_9 : decode cX0_agrees 9 = .ok (.iconst 1, 1) := by decide +kernel
theorem dX0_agrees_10 : decode cX0_agrees 10 = .ok (.goto 4, 3) := by decide +kernel
theorem dX0_agrees_13 : decode cX0_agrees 13 = .ok (.iconst 0, 1) := by decide +kernel
theorem dX0_agrees_14 : decode cX0_agrees 14 = .ok (.ireturn, 1) := by decide +kernel
theorem dX0_agrees_15 : decode cX0_agrees 15 = .ok (.iload_n 1, 1) := by decide +kernel
theorem dX0_agrees_16 : decode cX0_agrees 16 = .ok (.iconst 1, 1) := by decide +kernel
theorem dX0_agrees_17 : decode cX0_agrees 17 = .ok (.if_icmp .ne 16, 3) := by decide +kernel
theorem dX0_agrees_20 : decode cX0_agrees 20 = .ok (.iload_n 0, 1) := by decide +kernel
theorem dX0_agrees_21 : decode cX0_agrees 21 = .ok (.iload_n 2, 1) := by decide +kernel
theorem dX0_agrees_22 : decode cX0_agrees 22 = .ok (.if_icmp .ge 7, 3) := by decide +kernel
theorem dX0_agrees_25 : decode cX0_agrees 25 = .ok (.iconst 1, 1) := by decide +kernel
theorem dX0_agrees_26 : decode cX0_agrees 26 = .ok (.goto 17, 3) := by decide +kernel
theorem dX0_agrees_29 : decode cX0_agrees 29 = .ok (.iconst 0, 1) := by decide +kernel
theorem dX0_agrees_30 : decode cX0_agrees 30 = .ok (.goto 13, 3) := by decide +kernel
theorem dX0_agrees_33 : decode cX0_agrees 33 = .ok (.iload_n 0, 1) := by decide +kernel
theorem dX0_agrees_34 : decode cX0_agrees 34 = .ok (.iload_n 2, 1) := by decide +kernel
theorem dX0_agrees_35 : decode cX0_agrees 35 = .ok (.if_icmp .le 7, 3) := by decide +kernel
theorem dX0_agrees_38 : decode cX0_agrees 38 = .ok (.iconst 1, 1) := by decide +kernel
theorem dX0_agrees_39 : decode cX0_agrees 39 = .ok (.goto 4, 3) := by decide +kernel
theorem dX0_agrees_42 : decode cX0_agrees 42 = .ok (.iconst 0, 1) := by decide +kernel
theorem dX0_agrees_43 : decode cX0_agrees 43 = .ok (.ireturn, 1) := by decide +kernel
abbrev cJ7_fill_53178 : ByteArray := prog_24_method_103_code
def yJ7_fill_53178 : MethodName := ⟨RJ7, "fill", "([II)V"⟩
theorem dJ7_fill_53178_0 : decode cJ7_fill_53178 0 = .ok (.iconst 0, 1) := by decide +kernel
theorem dJ7_fill_53178_1 : decode cJ7_fill_53178 1 = .ok (.istore_n 2, 1) := by decide +kernel
theorem dJ7_fill_53178_2 : decode cJ7_fill_53178 2 = .ok (.aload_n 0, 1) := by decide +kernel
theorem dJ7_fill_53178_3 : decode cJ7_fill_53178 3 = .ok (.arraylength, 1) := by decide +kernel
theorem dJ7_fill_53178_4 : decode cJ7_fill_53178 4 = .ok (.istore_n 3, 1) := by decide +kernel
theorem dJ7_fill_53178_5 : decode cJ7_fill_53178 5 = .ok (.iload_n 2, 1) := by decide +kernel
theorem dJ7_fill_53178_6 : decode cJ7_fill_53178 6 = .ok (.iload_n 3, 1) := by decide +kernel
theorem dJ7_fill_53178_7 : decode cJ7_fill_53178 7 = .ok (.if_icmp .ge 13, 3) := by decide +kernel
theorem dJ7_fill_53178_10 : decode cJ7_fill_53178 10 = .ok (.aload_n 0, 1) := by decide +kernel
theorem dJ7_fill_53178_11 : decode cJ7_fill_53178 11 = .ok (.iload_n 2, 1) := by decide +kernel
theorem dJ7_fill_53178_12 : decode cJ7_fill_53178 12 = .ok (.iload_n 1, 1) := by decide +kernel
theorem dJ7_fill_53178_13 : decode cJ7_fill_53178 13 = .ok (.iastore, 1) := by decide +kernel
theorem dJ7_fill_53178_14 : decode cJ7_fill_53178 14 = .ok (.iinc 2 1, 3) := by decide +kernel
theorem dJ7_fill_53178_17 : decode cJ7_fill_53178 17 = .ok (.goto (-12), 3) := by decide +kernel
theorem dJ7_fill_53178_20 : decode cJ7_fill_53178 20 = .ok (.return_, 1) := by decide +kernel
abbrev cX5_init : ByteArray := prog_7_method_1_code
def yX5_init : MethodName := ⟨RX5, "<init>", "(II)V"⟩
theorem dX5_init_0 : decode cX5_init 0 = .ok (.aload_n 0, 1) := by decide +kernel
theorem dX5_init_1 : decode cX5_init 1 = .ok (.invokespecial 3, 3) := by decide +kernel
theorem dX5_init_4 : decode cX5_init 4 = .ok (.aload_n 0, 1) := by decide +kernel
theorem dX5_init_5 : decode cX5_init 5 = .ok (.iload_n 1, 1) := by decide +kernel
theorem dX5_init_6 : decode cX5_init 6 = .ok (.ifCond .ge 7, 3) := by decide +kernel
theorem dX5_init_9 : decode cX5_init 9 = .ok (.iconst 0, 1) := by decide +kernel
theorem dX5_init_10 : decode cX5_init 10 = .ok (.goto 4, 3) := by decide +kernel
theorem dX5_init_13 : decode cX5_init 13 = .ok (.iload_n 1, 1) := by decide +kernel
theorem dX5_init_14 : decode cX5_init 14 = .ok (.newarray .int, 2) := by decide +kernel
theorem dX5_init_16 : decode cX5_init 16 = .ok (.putfield 9, 3) := by decide +kernel
theorem dX5_init_19 : decode cX5_init 19 = .ok (.aload_n 0, 1) := by decide +kernel
theorem dX5_init_20 : decode cX5_init 20 = .ok (.getfield 9, 3) := by decide +kernel
theorem dX5_init_23 : decode cX5_init 23 = .ok (.iload_n 2, 1) := by decide +kernel
theorem dX5_init_24 : decode cX5_init 24 = .ok (.invokestatic 15, 3) := by decide +kernel
theorem dX5_init_27 : decode cX5_init 27 = .ok (.return_, 1) := by decide +kernel
abbrev cX5_get : ByteArray := prog_7_method_2_code
def yX5_get : MethodName := ⟨RX5, "get", "(I)I"⟩
theorem dX5_get_0 : decode cX5_get 0 = .ok (.iload_n 1, 1) := by decide +kernel
theorem dX5_get_1 : decode cX5_get 1 = .ok (.ifCond .lt 21, 3) := by decide +kernel
theorem dX5_get_4 : decode cX5_get 4 = .ok (.iload_n 1, 1) := by decide +kernel
theorem dX5_get_5 : decode cX5_get 5 = .ok (.aload_n 0, 1) := by decide +kernel
theorem dX5_get_6 : decode cX5_get 6 = .ok (.getfield 9, 3) := by decide +kernel
theorem dX5_get_9 : decode cX5_get 9 = .ok (.arraylength, 1) := by decide +kernel
theorem dX5_get_10 : decode cX5_get 10 = .ok (.if_icmp .ge 12, 3) := by decide +kernel
theorem dX5_get_13 : decode cX5_get 13 = .ok (.aload_n 0, 1) := by decide +kernel
theorem dX5_get_14 : decode cX5_get 14 = .ok (.getfield 9, 3) := by decide +kernel
theorem dX5_get_17 : decode cX5_get 17 = .ok (.iload_n 1, 1) := by decide +kernel
theorem dX5_get_18 : decode cX5_get 18 = .ok (.iaload, 1) := by decide +kernel
theorem dX5_get_19 : decode cX5_get 19 = .ok (.goto 4, 3) := by decide +kernel
theorem dX5_get_22 : decode cX5_get 22 = .ok (.iconst (-1), 1) := by decide +kernel
theorem dX5_get_23 : decode cX5_get 23 = .ok (.ireturn, 1) := by decide +kernel
abbrev cX5_set : ByteArray := prog_7_method_3_code
def yX5_set : MethodName := ⟨RX5, "set", "(II)V"⟩
theorem dX5_set_0 : decode cX5_set 0 = .ok (.iload_n 1, 1) := by decide +kernel
theorem dX5_set_1 : decode cX5_set 1 = .ok (.ifCond .lt 19, 3) := by decide +kernel
theorem dX5_set_4 : decode cX5_set 4 = .ok (.iload_n 1, 1) := by decide +kernel
theorem dX5_set_5 : decode cX5_set 5 = .ok (.aload_n 0, 1) := by decide +kernel
theorem dX5_set_6 : decode cX5_set 6 = .ok (.getfield 9, 3) := by decide +kernel
theorem dX5_set_9 : decode cX5_set 9 = .ok (.arraylength, 1) := by decide +kernel
theorem dX5_set_10 : decode cX5_set 10 = .ok (.if_icmp .ge 10, 3) := by decide +kernel
theorem dX5_set_13 : decode cX5_set 13 = .ok (.aload_n 0, 1) := by decide +kernel
theorem dX5_set_14 : decode cX5_set 14 = .ok (.getfield 9, 3) := by decide +kernel
theorem dX5_set_17 : decode cX5_set 17 = .ok (.iload_n 1, 1) := by decide +kernel
theorem dX5_set_18 : decode cX5_set 18 = .ok (.iload_n 2, 1) := by decide +kernel
theorem dX5_set_19 : decode cX5_set 19 = .ok (.iastore, 1) := by decide +kernel
theorem dX5_set_20 : decode cX5_set 20 = .ok (.return_, 1) := by decide +kernel
abbrev cX7_get : ByteArray := prog_9_method_2_code
def yX7_get : MethodName := ⟨RX7, "get", "(I)J"⟩
theorem dX7_get_0 : decode cX7_get 0 = .ok (.iload_n 1, 1) := by decide +kernel
theorem dX7_get_1 : decode cX7_get 1 = .ok (.ifCond .lt 21, 3) := by decide +kernel
theorem dX7_get_4 : decode cX7_get 4 = .ok (.iload_n 1, 1) := by decide +kernel
theorem dX7_get_5 : decode cX7_get 5 = .ok (.aload_n 0, 1) := by decide +kernel
theorem dX7_get_6 : decode cX7_get 6 = .ok (.getfield 7, 3) := by decide +kernel
theorem dX7_get_9 : decode cX7_get 9 = .ok (.arraylength, 1) := by decide +kernel
theorem dX7_get_10 : decode cX7_get 10 = .ok (.if_icmp .ge 12, 3) := by decide +kernel
theorem dX7_get_13 : decode cX7_get 13 = .ok (.aload_n 0, 1) := by decide +kernel
theorem dX7_get_14 : decode cX7_get 14 = .ok (.getfield 7, 3) := by decide +kernel
theorem dX7_get_17 : decode cX7_get 17 = .ok (.iload_n 1, 1) := by decide +kernel
theorem dX7_get_18 : decode cX7_get 18 = .ok (.laload, 1) := by decide +kernel
theorem dX7_get_19 : decode cX7_get 19 = .ok (.goto 4, 3) := by decide +kernel
theorem dX7_get_22 : decode cX7_get 22 = .ok (.lconst 0, 1) := by decide +kernel
theorem dX7_get_23 : decode cX7_get 23 = .ok (.lreturn, 1) := by decide +kernel
abbrev cX7_init : ByteArray := prog_9_method_1_code
def yX7_init : MethodName := ⟨RX7, "<init>", "(I)V"⟩
theorem dX7_init_0 : decode cX7_init 0 = .ok (.aload_n 0, 1) := by decide +kernel
theorem dX7_init_1 : decode cX7_init 1 = .ok (.invokespecial 1, 3) := by decide +kernel
theorem dX7_init_4 : decode cX7_init 4 = .ok (.aload_n 0, 1) := by decide +kernel
theorem dX7_init_5 : decode cX7_init 5 = .ok (.iload_n 1, 1) := by decide +kernel
theorem dX7_init_6 : decode cX7_init 6 = .ok (.ifCond .ge 7, 3) := by decide +kernel
theorem dX7_init_9 : decode cX7_init 9 = .ok (.iconst 0, 1) := by decide +kernel
theorem dX7_init_10 : decode cX7_init 10 = .ok (.goto 4, 3) := by decide +kernel
theorem dX7_init_13 : decode cX7_init 13 = .ok (.iload_n 1, 1) := by decide +kernel
theorem dX7_init_14 : decode cX7_init 14 = .ok (.newarray .long, 2) := by decide +kernel
theorem dX7_init_16 : decode cX7_init 16 = .ok (.putfield 7, 3) := by decide +kernel
theorem dX7_init_19 : decode cX7_init 19 = .ok (.return_, 1) := by decide +kernel
abbrev cX7_set : ByteArray := prog_9_method_3_code
def yX7_set : MethodName := ⟨RX7, "set", "(IJ)V"⟩
theorem dX7_set_0 : decode cX7_set 0 = .ok (.iload_n 1, 1) := by decide +kernel
theorem dX7_set_1 : decode cX7_set 1 = .ok (.ifCond .lt 19, 3) := by decide +kernel
theorem dX7_set_4 : decode cX7_set 4 = .ok (.iload_n 1, 1) := by decide +kernel
theorem dX7_set_5 : decode cX7_set 5 = .ok (.aload_n 0, 1) := by decide +kernel
theorem dX7_set_6 : decode cX7_set 6 = .ok (.getfield 7, 3) := by decide +kernel
theorem dX7_set_9 : decode cX7_set 9 = .ok (.arraylength, 1) := by decide +kernel
theorem dX7_set_10 : decode cX7_set 10 = .ok (.if_icmp .ge 10, 3) := by decide +kernel
theorem dX7_set_13 : decode cX7_set 13 = .ok (.aload_n 0, 1) := by decide +kernel
theorem dX7_set_14 : decode cX7_set 14 = .ok (.getfield 7, 3) := by decide +kernel
theorem dX7_set_17 : decode cX7_set 17 = .ok (.iload_n 1, 1) := by decide +kernel
theorem dX7_set_18 : decode cX7_set 18 = .ok (.lload_n 2, 1) := by decide +kernel
theorem dX7_set_19 : decode cX7_set 19 = .ok (.lastore, 1) := by decide +kernel
theorem dX7_set_20 : decode cX7_set 20 = .ok (.return_, 1) := by decide +kernel
abbrev cX7_union : ByteArray := prog_9_method_6_code
def yX7_union : MethodName := ⟨RX7, "union", "(IJ)J"⟩
theorem dX7_union_0 : decode cX7_union 0 = .ok (.lconst 0, 1) := by decide +kernel
theorem dX7_union_1 : decode cX7_union 1 = .ok (.lstore 4, 2) := by decide +kernel
theorem dX7_union_3 : decode cX7_union 3 = .ok (.lload_n 2, 1) := by decide +kernel
theorem dX7_union_4 : decode cX7_union 4 = .ok (.lstore 6, 2) := by decide +kernel
theorem dX7_union_6 : decode cX7_union 6 = .ok (.lload_n 2, 1) := by decide +kernel
theorem dX7_union_7 : decode cX7_union 7 = .ok (.invokestatic 25, 3) := by decide +kernel
theorem dX7_union_10 : decode cX7_union 10 = .ok (.istore 8, 2) := by decide +kernel
theorem dX7_union_12 : decode cX7_union 12 = .ok (.iload 8, 2) := by decide +kernel
theorem dX7_union_14 : decode cX7_union 14 = .ok (.ifCond .le 58, 3) := by decide +kernel
theorem dX7_union_17 : decode cX7_union 17 = .ok (.iload_n 1, 1) := by decide +kernel
theorem dX7_union_18 : decode cX7_union 18 = .ok (.lload 6, 2) := by decide +kernel
theorem dX7_union_20 : decode cX7_union 20 = .ok (.invokestatic 31, 3) := by decide +kernel
theorem dX7_union_23 : decode cX7_union 23 = .ok (.iadd, 1) := by decide +kernel
theorem dX7_union_24 : decode cX7_union 24 = .ok (.istore 9, 2) := by decide +kernel
theorem dX7_union_26 : decode cX7_union 26 = .ok (.lload 4, 2) := by decide +kernel
theorem dX7_union_28 : decode cX7_union 28 = .ok (.iload 9, 2) := by decide +kernel
theorem dX7_union_30 : decode cX7_union 30 = .ok (.ifCond .lt 23, 3) := by decide +kernel
theorem dX7_union_33 : decode cX7_union 33 = .ok (.iload 9, 2) := by decide +kernel
theorem dX7_union_35 : decode cX7_union 35 = .ok (.aload_n 0, 1) := by decide +kernel
theorem dX7_union_36 : decode cX7_union 36 = .ok (.getfield 7, 3) := by decide +kernel
theorem dX7_union_39 : decode cX7_union 39 = .ok (.arraylength, 1) := by decide +kernel
theorem dX7_union_40 : decode cX7_union 40 = .ok (.if_icmp .ge 13, 3) := by decide +kernel
theorem dX7_union_43 : decode cX7_union 43 = .ok (.aload_n 0, 1) := by decide +kernel
theorem dX7_union_44 : decode cX7_union 44 = .ok (.getfield 7, 3) := by decide +kernel
theorem dX7_union_47 : decode cX7_union 47 = .ok (.iload 9, 2) := by decide +kernel
theorem dX7_union_49 : decode cX7_union 49 = .ok (.laload, 1) := by decide +kernel
theorem dX7_union_50 : decode cX7_union 50 = .ok (.goto 4, 3) := by decide +kernel
theorem dX7_union_53 : decode cX7_union 53 = .ok (.lconst 0, 1) := by decide +kernel
theorem dX7_union_54 : decode cX7_union 54 = .ok (.lor, 1) := by decide +kernel
theorem dX7_union_55 : decode cX7_union 55 = .ok (.lstore 4, 2) := by decide +kernel
theorem dX7_union_57 : decode cX7_union 57 = .ok (.lload 6, 2) := by decide +kernel
theorem dX7_union_59 : decode cX7_union 59 = .ok (.lload 6, 2) := by decide +kernel
theorem dX7_union_61 : decode cX7_union 61 = .ok (.lconst 1, 1) := by decide +kernel
theorem dX7_union_62 : decode cX7_union 62 = .ok (.lsub, 1) := by decide +kernel
theorem dX7_union_63 : decode cX7_union 63 = .ok (.land, 1) := by decide +kernel
theorem dX7_union_64 : decode cX7_union 64 = .ok (.lstore 6, 2) := by decide +kernel
theorem dX7_union_66 : decode cX7_union 66 = .ok (.iinc 8 (-1), 3) := by decide +kernel
theorem dX7_union_69 : decode cX7_union 69 = .ok (.goto (-57), 3) := by decide +kernel
theorem dX7_union_72 : decode cX7_union 72 = .ok (.lload 4, 2) := by decide +kernel
theorem dX7_union_74 : decode cX7_union 74 = .ok (.lreturn, 1) := by decide +kernel
abbrev cX5_setAll : ByteArray := prog_7_method_4_code
def yX5_setAll : MethodName := ⟨RX5, "setAll", "(I)V"⟩
theorem dX5_setAll_0 : decode cX5_setAll 0 = .ok (.aload_n 0, 1) := by decide +kernel
theorem dX5_setAll_1 : decode cX5_setAll 1 = .ok (.getfield 9, 3) := by decide +kernel
theorem dX5_setAll_4 : decode cX5_setAll 4 = .ok (.iload_n 1, 1) := by decide +kernel
theorem dX5_setAll_5 : decode cX5_setAll 5 = .ok (.invokestatic 15, 3) := by decide +kernel
theorem dX5_setAll_8 : decode cX5_setAll 8 = .ok (.return_, 1) := by decide +kernel
abbrev cJ7_fill_d0a16 : ByteArray := prog_24_method_101_code
def yJ7_fill_d0a16 : MethodName := ⟨RJ7, "fill", "([JJ)V"⟩
theorem dJ7_fill_d0a16_0 : decode cJ7_fill_d0a16 0 = .ok (.iconst 0, 1) := by decide +kernel
theorem dJ7_fill_d0a16_1 : decode cJ7_fill_d0a16 1 = .ok (.istore_n 3, 1) := by decide +kernel
theorem dJ7_fill_d0a16_2 : decode cJ7_fill_d0a16 2 = .ok (.aload_n 0, 1) := by decide +kernel
theorem dJ7_fill_d0a16_3 : decode cJ7_fill_d0a16 3 = .ok (.arraylength, 1) := by decide +kernel
theorem dJ7_fill_d0a16_4 : decode cJ7_fill_d0a16 4 = .ok (.istore 4, 2) := by decide +kernel
theorem dJ7_fill_d0a16_6 : decode cJ7_fill_d0a16 6 = .ok (.iload_n 3, 1) := by decide +kernel
theorem dJ7_fill_d0a16_7 : decode cJ7_fill_d0a16 7 = .ok (.iload 4, 2) := by decide +kernel
theorem dJ7_fill_d0a16_9 : decode cJ7_fill_d0a16 9 = .ok (.if_icmp .ge 13, 3) := by decide +kernel
theorem dJ7_fill_d0a16_12 : decode cJ7_fill_d0a16 12 = .ok (.aload_n 0, 1) := by decide +kernel
theorem dJ7_fill_d0a16_13 : decode cJ7_fill_d0a16 13 = .ok (.iload_n 3, 1) := by decide +kernel
theorem dJ7_fill_d0a16_14 : decode cJ7_fill_d0a16 14 = .ok (.lload_n 1, 1) := by decide +kernel
theorem dJ7_fill_d0a16_15 : decode cJ7_fill_d0a16 15 = .ok (.lastore, 1) := by decide +kernel
theorem dJ7_fill_d0a16_16 : decode cJ7_fill_d0a16 16 = .ok (.iinc 3 1, 3) := by decide +kernel
theorem dJ7_fill_d0a16_19 : decode cJ7_fill_d0a16 19 = .ok (.goto (-13), 3) := by decide +kernel
theorem dJ7_fill_d0a16_22 : decode cJ7_fill_d0a16 22 = .ok (.return_, 1) := by decide +kernel
abbrev cX7_emptyAll : ByteArray := prog_9_method_5_code
def yX7_emptyAll : MethodName := ⟨RX7, "emptyAll", "()V"⟩
theorem dX7_emptyAll_0 : decode cX7_emptyAll 0 = .ok (.aload_n 0, 1) := by decide +kernel
theorem dX7_emptyAll_1 : decode cX7_emptyAll 1 = .ok (.getfield 7, 3) := by decide +kernel
theorem dX7_emptyAll_4 : decode cX7_emptyAll 4 = .ok (.lconst 0, 1) := by decide +kernel
theorem dX7_emptyAll_5 : decode cX7_emptyAll 5 = .ok (.invokestatic 19, 3) := by decide +kernel
theorem dX7_emptyAll_8 : decode cX7_emptyAll 8 = .ok (.return_, 1) := by decide +kernel
abbrev cX7_add : ByteArray := prog_9_method_4_code
def yX7_add : MethodName := ⟨RX7, "add", "(II)V"⟩
theorem dX7_add_0 : decode cX7_add 0 = .ok (.iload_n 1, 1) := by decide +kernel
theorem dX7_add_1 : decode cX7_add 1 = .ok (.ifCond .lt 25, 3) := by decide +kernel
theorem dX7_add_4 : decode cX7_add 4 = .ok (.iload_n 1, 1) := by decide +kernel
theorem dX7_add_5 : decode cX7_add 5 = .ok (.aload_n 0, 1) := by decide +kernel
theorem dX7_add_6 : decode cX7_add 6 = .ok (.getfield 7, 3) := by decide +kernel
theorem dX7_add_9 : decode cX7_add 9 = .ok (.arraylength, 1) := by decide +kernel
theorem dX7_add_10 : decode cX7_add 10 = .ok (.if_icmp .ge 16, 3) := by decide +kernel
theorem dX7_add_13 : decode cX7_add 13 = .ok (.aload_n 0, 1) := by decide +kernel
theorem dX7_add_14 : decode cX7_add 14 = .ok (.getfield 7, 3) := by decide +kernel
theorem dX7_add_17 : decode cX7_add 17 = .ok (.iload_n 1, 1) := by decide +kernel
theorem dX7_add_18 : decode cX7_add 18 = .ok (.dup2, 1) := by decide +kernel
theorem dX7_add_19 : decode cX7_add 19 = .ok (.laload, 1) := by decide +kernel
theorem dX7_add_20 : decode cX7_add 20 = .ok (.iload_n 2, 1) := by decide +kernel
theorem dX7_add_21 : decode cX7_add 21 = .ok (.invokestatic 13, 3) := by decide +kernel
theorem dX7_add_24 : decode cX7_add 24 = .ok (.lor, 1) := by decide +kernel
theorem dX7_add_25 : decode cX7_add 25 = .ok (.lastore, 1) := by decide +kernel
theorem dX7_add_26 : decode cX7_add 26 = .ok (.return_, 1) := by decide +kernel
abbrev cX5_copy : ByteArray := prog_7_method_5_code
def yX5_copy : MethodName := ⟨RX5, "copy", "(LTreequery$Row;)V"⟩
theorem dX5_copy_0 : decode cX5_copy 0 = .ok (.aload_n 0, 1) := by decide +kernel
theorem dX5_copy_1 : decode cX5_copy 1 = .ok (.getfield 9, 3) := by decide +kernel
theorem dX5_copy_4 : decode cX5_copy 4 = .ok (.arraylength, 1) := by decide +kernel
theorem dX5_copy_5 : decode cX5_copy 5 = .ok (.aload_n 1, 1) := by decide +kernel
theorem dX5_copy_6 : decode cX5_copy 6 = .ok (.getfield 9, 3) := by decide +kernel
theorem dX5_copy_9 : decode cX5_copy 9 = .ok (.arraylength, 1) := by decide +kernel
theorem dX5_copy_10 : decode cX5_copy 10 = .ok (.invokestatic 21, 3) := by decide +kernel
theorem dX5_copy_13 : decode cX5_copy 13 = .ok (.istore_n 2, 1) := by decide +kernel
theorem dX5_copy_14 : decode cX5_copy 14 = .ok (.aload_n 1, 1) := by decide +kernel
theorem dX5_copy_15 : decode cX5_copy 15 = .ok (.getfield 9, 3) := by decide +kernel
theorem dX5_copy_18 : decode cX5_copy 18 = .ok (.iconst 0, 1) := by decide +kernel
theorem dX5_copy_19 : decode cX5_copy 19 = .ok (.aload_n 0, 1) := by decide +kernel
theorem dX5_copy_20 : decode cX5_copy 20 = .ok (.getfield 9, 3) := by decide +kernel
theorem dX5_copy_23 : decode cX5_copy 23 = .ok (.iconst 0, 1) := by decide +kernel
theorem dX5_copy_24 : decode cX5_copy 24 = .ok (.iload_n 2, 1) := by decide +kernel
theorem dX5_copy_25 : decode cX5_copy 25 = .ok (.invokestatic 27, 3) := by decide +kernel
theorem dX5_copy_28 : decode cX5_copy 28 = .ok (.return_, 1) := by decide +kernel
abbrev cX5_union : ByteArray := prog_7_method_6_code
def yX5_union : MethodName := ⟨RX5, "union", "(II)I"⟩
theorem dX5_union_0 : decode cX5_union 0 = .ok (.iconst 0, 1) := by decide +kernel
theorem dX5_union_1 : decode cX5_union 1 = .ok (.istore_n 3, 1) := by decide +kernel
theorem dX5_union_2 : decode cX5_union 2 = .ok (.iconst 0, 1) := by decide +kernel
theorem dX5_union_3 : decode cX5_union 3 = .ok (.istore 4, 2) := by decide +kernel
theorem dX5_union_5 : decode cX5_union 5 = .ok (.iload 4, 2) := by decide +kernel
theorem dX5_union_7 : decode cX5_union 7 = .ok (.bipush 8, 2) := by decide +kernel
theorem dX5_union_9 : decode cX5_union 9 = .ok (.if_icmp .ge 49, 3) := by decide +kernel
theorem dX5_union_12 : decode cX5_union 12 = .ok (.iload_n 1, 1) := by decide +kernel
theorem dX5_union_13 : decode cX5_union 13 = .ok (.iload 4, 2) := by decide +kernel
theorem dX5_union_15 : decode cX5_union 15 = .ok (.iadd, 1) := by decide +kernel
theorem dX5_union_16 : decode cX5_union 16 = .ok (.istore 5, 2) := by decide +kernel
theorem dX5_union_18 : decode cX5_union 18 = .ok (.iload_n 2, 1) := by decide +kernel
theorem dX5_union_19 : decode cX5_union 19 = .ok (.iload 4, 2) := by decide +kernel
theorem dX5_union_21 : decode cX5_union 21 = .ok (.ishr, 1) := by decide +kernel
theorem dX5_union_22 : decode cX5_union 22 = .ok (.iconst 1, 1) := by decide +kernel
theorem dX5_union_23 : decode cX5_union 23 = .ok (.iand, 1) := by decide +kernel
theorem dX5_union_24 : decode cX5_union 24 = .ok (.ifCond .eq 28, 3) := by decide +kernel
theorem dX5_union_27 : decode cX5_union 27 = .ok (.iload 5, 2) := by decide +kernel
theorem dX5_union_29 : decode cX5_union 29 = .ok (.ifCond .lt 23, 3) := by decide +kernel
theorem dX5_union_32 : decode cX5_union 32 = .ok (.iload 5, 2) := by decide +kernel
theorem dX5_union_34 : decode cX5_union 34 = .ok (.aload_n 0, 1) := by decide +kernel
theorem dX5_union_35 : decode cX5_union 35 = .ok (.getfield 9, 3) := by decide +kernel
theorem dX5_union_38 : decode cX5_union 38 = .ok (.arraylength, 1) := by decide +kernel
theorem dX5_union_39 : decode cX5_union 39 = .ok (.if_icmp .ge 13, 3) := by decide +kernel
theorem dX5_union_42 : decode cX5_union 42 = .ok (.iload_n 3, 1) := by decide +kernel
theorem dX5_union_43 : decode cX5_union 43 = .ok (.aload_n 0, 1) := by decide +kernel
theorem dX5_union_44 : decode cX5_union 44 = .ok (.getfield 9, 3) := by decide +kernel
theorem dX5_union_47 : decode cX5_union 47 = .ok (.iload 5, 2) := by decide +kernel
theorem dX5_union_49 : decode cX5_union 49 = .ok (.iaload, 1) := by decide +kernel
theorem dX5_union_50 : decode cX5_union 50 = .ok (.ior, 1) := by decide +kernel
theorem dX5_union_51 : decode cX5_union 51 = .ok (.istore_n 3, 1) := by decide +kernel
theorem dX5_union_52 : decode cX5_union 52 = .ok (.iinc 4 1, 3) := by decide +kernel
theorem dX5_union_55 : decode cX5_union 55 = .ok (.goto (-50), 3) := by decide +kernel
theorem dX5_union_58 : decode cX5_union 58 = .ok (.iload_n 3, 1) := by decide +kernel
theorem dX5_union_59 : decode cX5_union 59 = .ok (.ireturn, 1) := by decide +kernel
abbrev cX5_closure : ByteArray := prog_7_method_7_code
def yX5_closure : MethodName := ⟨RX5, "closure", "(II)I"⟩
theorem dX5_closure_0 : decode cX5_closure 0 = .ok (.aload_n 0, 1) := by decide +kernel
theorem dX5_closure_1 : decode cX5_closure 1 = .ok (.iload_n 1, 1) := by decide +kernel
theorem dX5_closure_2 : decode cX5_closure 2 = .ok (.iload_n 2, 1) := by decide +kernel
theorem dX5_closure_3 : decode cX5_closure 3 = .ok (.invokevirtual 33, 3) := by decide +kernel
theorem dX5_closure_6 : decode cX5_closure 6 = .ok (.istore_n 3, 1) := by decide +kernel
theorem dX5_closure_7 : decode cX5_closure 7 = .ok (.iconst 0, 1) := by decide +kernel
theorem dX5_closure_8 : decode cX5_closure 8 = .ok (.istore 4, 2) := by decide +kernel
theorem dX5_closure_10 : decode cX5_closure 10 = .ok (.iload 4, 2) := by decide +kernel
theorem dX5_closure_12 : decode cX5_closure 12 = .ok (.bipush 8, 2) := by decide +kernel
theorem dX5_closure_14 : decode cX5_closure 14 = .ok (.if_icmp .ge 18, 3) := by decide +kernel
theorem dX5_closure_17 : decode cX5_closure 17 = .ok (.iload_n 3, 1) := by decide +kernel
theorem dX5_closure_18 : decode cX5_closure 18 = .ok (.aload_n 0, 1) := by decide +kernel
theorem dX5_closure_19 : decode cX5_closure 19 = .ok (.iload_n 1, 1) := by decide +kernel
theorem dX5_closure_20 : decode cX5_closure 20 = .ok (.iload_n 3, 1) := by decide +kernel
theorem dX5_closure_21 : decode cX5_closure 21 = .ok (.invokevirtual 33, 3) := by decide +kernel
theorem dX5_closure_24 : decode cX5_closure 24 = .ok (.ior, 1) := by decide +kernel
theorem dX5_closure_25 : decode cX5_closure 25 = .ok (.istore_n 3, 1) := by decide +kernel
theorem dX5_closure_26 : decode cX5_closure 26 = .ok (.iinc 4 1, 3) := by decide +kernel
theorem dX5_closure_29 : decode cX5_closure 29 = .ok (.goto (-19), 3) := by decide +kernel
theorem dX5_closure_32 : decode cX5_closure 32 = .ok (.iload_n 3, 1) := by decide +kernel
theorem dX5_closure_33 : decode cX5_closure 33 = .ok (.ireturn, 1) := by decide +kernel
theorem tk_kl_0 : Int64.ofNat ((0 : Fin 2) : Nat) = (0 : Int64) := by decide +kernel
theorem tk_kb_64 : (Int8.ofInt (64)).toInt32 = (64 : Int32) := by decide +kernel
theorem tk_kl_1 : Int64.ofNat ((1 : Fin 2) : Nat) = (1 : Int64) := by decide +kernel
theorem tk_RX0_9 : Cond.constantLong RX0 9 (-1) ∈ tq_G := tq_g (i := 445) (by decide +kernel) rfl
theorem tk_ki_0 : Int32.ofInt (0) = (0 : Int32) := by decide +kernel
theorem tk_ki_1 : Int32.ofInt (1) = (1 : Int32) := by decide +kernel
theorem tk_RJ13_314 : Cond.constantLong RJ13 314 (6148914691236517205) ∈ tq_G := tq_g (i := 506) (by decide +kernel) rfl
theorem tk_RJ13_316 : Cond.constantLong RJ13 316 (3689348814741910323) ∈ tq_G := tq_g (i := 507) (by decide +kernel) rfl
theorem tk_ki_2 : Int32.ofInt (2) = (2 : Int32) := by decide +kernel
theorem tk_ki_4 : Int32.ofInt (4) = (4 : Int32) := by decide +kernel
theorem tk_RJ13_318 : Cond.constantLong RJ13 318 (1085102592571150095) ∈ tq_G := tq_g (i := 508) (by decide +kernel) rfl
theorem tk_kb_8 : (Int8.ofInt (8)).toInt32 = (8 : Int32) := by decide +kernel
theorem tk_kb_16 : (Int8.ofInt (16)).toInt32 = (16 : Int32) := by decide +kernel
theorem tk_kb_32 : (Int8.ofInt (32)).toInt32 = (32 : Int32) := by decide +kernel
theorem tk_kb_127 : (Int8.ofInt (127)).toInt32 = (127 : Int32) := by decide +kernel
theorem tk_RX0_11 : Cond.methodLink RX0 11 yJ13_bitCount_95d88 ∈ tq_G := tq_g (i := 503) (by decide +kernel) rfl
theorem tk_y_J13_bitCount_95d88 : tq_yok yJ13_bitCount_95d88 cJ13_bitCount_95d88 2 (some .int) 1 := ⟨tq_g (i := 505) (by decide +kernel) rfl, tq_g (i := 65) (by decide +kernel) rfl, ⟨by decide +kernel, by decide +kernel⟩, by decide +kernel, by decide⟩
theorem tk_s_J13_bitCount_95d88 : Cond.static yJ13_bitCount_95d88 ∈ tq_G := tq_g (i := 504) (by decide +kernel) rfl
theorem tk_ki_m1 : Int32.ofInt (-1) = (-1 : Int32) := by decide +kernel
theorem tk_RX0_17 : Cond.methodLink RX0 17 yX0_lowest ∈ tq_G := tq_g (i := 509) (by decide +kernel) rfl
theorem tk_y_X0_lowest : tq_yok yX0_lowest cX0_lowest 2 (some .int) 1 := ⟨tq_g (i := 511) (by decide +kernel) rfl, tq_g (i := 63) (by decide +kernel) rfl, ⟨by decide +kernel, by decide +kernel⟩, by decide +kernel, by decide⟩
theorem tk_s_X0_lowest : Cond.static yX0_lowest ∈ tq_G := tq_g (i := 510) (by decide +kernel) rfl
theorem tk_RX5_3 : Cond.methodLink RX5 3 Lib.objectInit ∈ tq_G := tq_g (i := 99) (by decide +kernel) rfl
theorem tk_oi : Cond.instanceMethod Lib.objectInit ∈ tq_G := tq_g (i := 80) (by decide +kernel) rfl
theorem tk_oc : Cond.code Lib.objectInit ⟨#[0xb1]⟩ 1 none ∈ tq_G := tq_g (i := 81) (by decide +kernel) rfl
theorem tk_ac_int : Cond.arrayClass .int ∈ tq_G := tq_g (i := 107) (by decide +kernel) rfl
theorem tk_RX5_9 : Cond.fieldLink RX5 9 RX5 (TX5 0).2.1 (TX5 0).2.2.1 ∈ tq_G := tq_g (i := 103) (by decide +kernel) rfl
theorem tk_RX5_15 : Cond.methodLink RX5 15 yJ7_fill_53178 ∈ tq_G := tq_g (i := 100) (by decide +kernel) rfl
theorem tk_y_J7_fill_53178 : tq_yok yJ7_fill_53178 cJ7_fill_53178 4 none 2 := ⟨tq_g (i := 102) (by decide +kernel) rfl, tq_g (i := 57) (by decide +kernel) rfl, ⟨by decide +kernel, by decide +kernel⟩, by decide +kernel, by decide⟩
theorem tk_s_J7_fill_53178 : Cond.static yJ7_fill_53178 ∈ tq_G := tq_g (i := 101) (by decide +kernel) rfl
theorem tk_RX7_7 : Cond.fieldLink RX7 7 RX7 (TX7 0).2.1 (TX7 0).2.2.1 ∈ tq_G := tq_g (i := 114) (by decide +kernel) rfl
theorem tk_RX7_1 : Cond.methodLink RX7 1 Lib.objectInit ∈ tq_G := tq_g (i := 113) (by decide +kernel) rfl
theorem tk_ac_long : Cond.arrayClass .long ∈ tq_G := tq_g (i := 118) (by decide +kernel) rfl
theorem tk_RX7_25 : Cond.methodLink RX7 25 yJ13_bitCount_95d88 ∈ tq_G := tq_g (i := 882) (by decide +kernel) rfl
theorem tk_RX7_31 : Cond.methodLink RX7 31 yX0_lowest ∈ tq_G := tq_g (i := 883) (by decide +kernel) rfl
theorem tk_RX7_19 : Cond.methodLink RX7 19 yJ7_fill_d0a16 ∈ tq_G := tq_g (i := 398) (by decide +kernel) rfl
theorem tk_y_J7_fill_d0a16 : tq_yok yJ7_fill_d0a16 cJ7_fill_d0a16 5 none 2 := ⟨tq_g (i := 400) (by decide +kernel) rfl, tq_g (i := 57) (by decide +kernel) rfl, ⟨by decide +kernel, by decide +kernel⟩, by decide +kernel, by decide⟩
theorem tk_s_J7_fill_d0a16 : Cond.static yJ7_fill_d0a16 ∈ tq_G := tq_g (i := 399) (by decide +kernel) rfl
theorem tk_RX7_13 : Cond.methodLink RX7 13 yX0_one ∈ tq_G := tq_g (i := 419) (by decide +kernel) rfl
theorem tk_y_X0_one : tq_yok yX0_one cX0_one 1 (some .long) 1 := ⟨tq_g (i := 421) (by decide +kernel) rfl, tq_g (i := 63) (by decide +kernel) rfl, ⟨by decide +kernel, by decide +kernel⟩, by decide +kernel, by decide⟩
theorem tk_s_X0_one : Cond.static yX0_one ∈ tq_G := tq_g (i := 420) (by decide +kernel) rfl
theorem tk_RX5_21 : Cond.methodLink RX5 21 Lib.Math.min.name ∈ tq_G := tq_g (i := 762) (by decide +kernel) rfl
theorem tk_RX5_27 : Cond.methodLink RX5 27 arraycopyName ∈ tq_G := tq_g (i := 765) (by decide +kernel) rfl
theorem tk_an : Cond.native arraycopyName ∈ tq_G := tq_g (i := 767) (by decide +kernel) rfl
theorem tk_as : Cond.static arraycopyName ∈ tq_G := tq_g (i := 766) (by decide +kernel) rfl
theorem tk_ai : Cond.initialized "java/lang/System" ∈ tq_G := tq_g (i := 72) (by decide +kernel) rfl
theorem tk_RX5_33 : Cond.methodLink RX5 33 yX5_union ∈ tq_G := tq_g (i := 1397) (by decide +kernel) rfl
theorem tk_y_X5_union : tq_yok yX5_union cX5_union 6 (some .int) 2 := ⟨tq_g (i := 826) (by decide +kernel) rfl, tq_g (i := 56) (by decide +kernel) rfl, ⟨by decide +kernel, by decide +kernel⟩, by decide +kernel, by decide⟩
theorem tk_v_X5_union : tq_vok yX5_union := ⟨tq_g (i := 824) (by decide +kernel) rfl, tq_g (i := 825) (by decide +kernel) rfl⟩
abbrev mX0_one : tq_M := (RX0, cX0_one, 1, (some .long), false, [], none)
def f_X0_one (a0 : Int32) (h : tq_H) : Option (Int64) :=
  tq_let (if a0 < 0 then (0 : Int64) else (if a0 ≥ (64 : Int32) then (0 : Int64) else ((1 : Int64) <<< (a0.toInt64 &&& 63)))) fun p1 =>
  some p1
set_option maxHeartbeats 4000000 in
set_option maxRecDepth 20000 in
theorem w_X0_one {l : Launch} {d : Nat} (hd9 : 0 ≤ d) {a0 : Int32} {h : tq_H} {o : Int64} {Q : tq_R → tq_H → Prop} (hf : f_X0_one a0 h = some o) (hQ : ∀ r h9, r = .inl (some (.long o)) ∧ h = h9 → Q r h9) : tq_C l yX0_one cX0_one 1 (some .long) d 0 0 [.int a0] h Q := by
  refine tq_body (y := yX0_one) false (by decide +kernel) (fun z => by cases z) (Nat.le_of_ble_eq_true rfl) ?_
  show tq_W l mX0_one d 0 0 Q 0 [(0, .int a0)] [] h
  refine tq_iload_n (M := mX0_one) (pc := 0) dX0_one_0 rfl ?_
  obtain ⟨p1, ep1, hf⟩ := tq_le hf
  have HJ1 : tq_W l mX0_one d 0 0 Q 17 [] [.long p1] h := by
    refine tq_lret (M := mX0_one) (pc := 17) dX0_one_17 rfl ?_
    cases (Option.some.inj hf)
    exact hQ _ _ ⟨rfl, rfl⟩
  refine tq_if_lt (M := mX0_one) (pc := 1) (tgt := 16) dX0_one_1 (by decide) (fun cc => ?_) (fun cc => ?_)
  · have hf := tq_ifp ep1.symm cc
    refine tq_lconst (M := mX0_one) (pc := 16) dX0_one_16 tk_kl_0 ?_
    refine tq_pick (L2 := []) [] rfl ?_
    cases hf
    exact HJ1
  · have hf := tq_ifn ep1.symm cc
    refine tq_iload_n (M := mX0_one) (pc := 4) dX0_one_4 rfl ?_
    refine tq_bipush (M := mX0_one) (pc := 5) dX0_one_5 tk_kb_64 ?_
    refine tq_icmp_ge (M := mX0_one) (pc := 7) (tgt := 16) dX0_one_7 (by decide) (fun cc => ?_) (fun cc => ?_)
    · have hf := tq_ifp hf cc
      refine tq_lconst (M := mX0_one) (pc := 16) dX0_one_16 tk_kl_0 ?_
      refine tq_pick (L2 := []) [] rfl ?_
      cases hf
      exact HJ1
    · have hf := tq_ifn hf cc
      refine tq_lconst (M := mX0_one) (pc := 10) dX0_one_10 tk_kl_1 ?_
      refine tq_iload_n (M := mX0_one) (pc := 11) dX0_one_11 rfl ?_
      refine tq_lshl (M := mX0_one) (pc := 12) dX0_one_12 ?_
      refine tq_goto (M := mX0_one) (pc := 13) (tgt := 17) dX0_one_13 (by decide) ?_
      refine tq_pick (L2 := []) [] rfl ?_
      cases hf
      exact HJ1
abbrev mX0_below : tq_M := (RX0, cX0_below, 1, (some .long), false, [], none)
def f_X0_below (a0 : Int32) (h : tq_H) : Option (Int64) :=
  if a0 > 0 then
    tq_let (if a0 < (64 : Int32) then (((1 : Int64) <<< (a0.toInt64 &&& 63)) - (1 : Int64)) else (-1 : Int64)) fun p1 =>
    some p1
  else
    some (0 : Int64)
set_option maxHeartbeats 4000000 in
set_option maxRecDepth 20000 in
theorem w_X0_below {l : Launch} {d : Nat} (hd9 : 0 ≤ d) {a0 : Int32} {h : tq_H} {o : Int64} {Q : tq_R → tq_H → Prop} (hf : f_X0_below a0 h = some o) (hQ : ∀ r h9, r = .inl (some (.long o)) ∧ h = h9 → Q r h9) : tq_C l yX0_below cX0_below 1 (some .long) d 0 0 [.int a0] h Q := by
  refine tq_body (y := yX0_below) false (by decide +kernel) (fun z => by cases z) (Nat.le_of_ble_eq_true rfl) ?_
  show tq_W l mX0_below d 0 0 Q 0 [(0, .int a0)] [] h
  refine tq_iload_n (M := mX0_below) (pc := 0) dX0_below_0 rfl ?_
  refine tq_if_gt (M := mX0_below) (pc := 1) (tgt := 6) dX0_below_1 (by decide) (fun cc => ?_) (fun cc => ?_)
  · have hf := tq_ifp hf cc
    refine tq_iload_n (M := mX0_below) (pc := 6) dX0_below_6 rfl ?_
    refine tq_bipush (M := mX0_below) (pc := 7) dX0_below_7 tk_kb_64 ?_
    obtain ⟨p1, ep1, hf⟩ := tq_le hf
    have HJ9 : tq_W l mX0_below d 0 0 Q 23 [] [.long p1] h := by
      refine tq_lret (M := mX0_below) (pc := 23) dX0_below_23 rfl ?_
      cases (Option.some.inj hf)
      exact hQ _ _ ⟨rfl, rfl⟩
    refine tq_icmp_lt (M := mX0_below) (pc := 9) (tgt := 18) dX0_below_9 (by decide) (fun cc => ?_) (fun cc => ?_)
    · have hf := tq_ifp ep1.symm cc
      refine tq_lconst (M := mX0_below) (pc := 18) dX0_below_18 tk_kl_1 ?_
      refine tq_iload_n (M := mX0_below) (pc := 19) dX0_below_19 rfl ?_
      refine tq_lshl (M := mX0_below) (pc := 20) dX0_below_20 ?_
      refine tq_lconst (M := mX0_below) (pc := 21) dX0_below_21 tk_kl_1 ?_
      refine tq_lsub (M := mX0_below) (pc := 22) dX0_below_22 ?_
      refine tq_pick (L2 := []) [] rfl ?_
      cases hf
      exact HJ9
    · have hf := tq_ifn ep1.symm cc
      refine tq_ldc2 (M := mX0_below) (pc := 12) dX0_below_12 tk_RX0_9 ?_
      refine tq_goto (M := mX0_below) (pc := 15) (tgt := 23) dX0_below_15 (by decide) ?_
      refine tq_pick (L2 := []) [] rfl ?_
      cases hf
      exact HJ9
  · have hf := tq_ifn hf cc
    refine tq_lconst (M := mX0_below) (pc := 4) dX0_below_4 tk_kl_0 ?_
    refine tq_lret (M := mX0_below) (pc := 5) dX0_below_5 rfl ?_
    cases (Option.some.inj hf)
    exact hQ _ _ ⟨rfl, rfl⟩
abbrev mX0_holds : tq_M := (RX0, cX0_holds, 3, (some .boolean), false, [], none)
def f_X0_holds (a0 : Int64) (a2 : Int32) (h : tq_H) : Option (Int32) :=
  tq_let (if a2 < 0 then (0 : Int32) else (if a2 ≥ (64 : Int32) then (0 : Int32) else if (lg_cmp (((a0).toUInt64 >>> (a2.toInt64.toUInt64 &&& Int64.toUInt64 63)).toInt64 &&& (1 : Int64)) (0 : Int64)) = 0 then (0 : Int32) else (1 : Int32))) fun p1 =>
  (tq_bz p1).bind fun z2 =>
  some z2
set_option maxHeartbeats 4000000 in
set_option maxRecDepth 20000 in
theorem w_X0_holds {l : Launch} {d : Nat} (hd9 : 0 ≤ d) {a0 : Int64} {a2 : Int32} {h : tq_H} {o : Int32} {Q : tq_R → tq_H → Prop} (hf : f_X0_holds a0 a2 h = some o) (hQ : ∀ r h9, r = .inl (some (.int o)) ∧ h = h9 → Q r h9) : tq_C l yX0_holds cX0_holds 3 (some .boolean) d 0 0 [.long a0, .int a2] h Q := by
  refine tq_body (y := yX0_holds) false (by decide +kernel) (fun z => by cases z) (Nat.le_of_ble_eq_true rfl) ?_
  show tq_W l mX0_holds d 0 0 Q 0 [(0, .long a0), (2, .int a2)] [] h
  refine tq_iload_n (M := mX0_holds) (pc := 0) dX0_holds_0 rfl ?_
  obtain ⟨p1, ep1, hf⟩ := tq_le hf
  have HJ1 : tq_W l mX0_holds d 0 0 Q 25 [] [.int p1] h := by
    obtain ⟨z2, ez2, hf⟩ := tq_be hf
    refine tq_zretB (M := mX0_holds) (pc := 25) dX0_holds_25 rfl ez2 ?_
    cases (Option.some.inj hf)
    exact hQ _ _ ⟨rfl, rfl⟩
  refine tq_if_lt (M := mX0_holds) (pc := 1) (tgt := 24) dX0_holds_1 (by decide) (fun cc => ?_) (fun cc => ?_)
  · have hf := tq_ifp ep1.symm cc
    refine tq_iconst (M := mX0_holds) (pc := 24) dX0_holds_24 tk_ki_0 ?_
    refine tq_pick (L2 := []) [] rfl ?_
    cases hf
    exact HJ1
  · have hf := tq_ifn ep1.symm cc
    refine tq_iload_n (M := mX0_holds) (pc := 4) dX0_holds_4 rfl ?_
    refine tq_bipush (M := mX0_holds) (pc := 5) dX0_holds_5 tk_kb_64 ?_
    refine tq_icmp_ge (M := mX0_holds) (pc := 7) (tgt := 24) dX0_holds_7 (by decide) (fun cc => ?_) (fun cc => ?_)
    · have hf := tq_ifp hf cc
      refine tq_iconst (M := mX0_holds) (pc := 24) dX0_holds_24 tk_ki_0 ?_
      refine tq_pick (L2 := []) [] rfl ?_
      cases hf
      exact HJ1
    · have hf := tq_ifn hf cc
      refine tq_lload_n (M := mX0_holds) (pc := 10) dX0_holds_10 rfl ?_
      refine tq_iload_n (M := mX0_holds) (pc := 11) dX0_holds_11 rfl ?_
      refine tq_lushr (M := mX0_holds) (pc := 12) dX0_holds_12 ?_
      refine tq_lconst (M := mX0_holds) (pc := 13) dX0_holds_13 tk_kl_1 ?_
      refine tq_land (M := mX0_holds) (pc := 14) dX0_holds_14 ?_
      refine tq_lconst (M := mX0_holds) (pc := 15) dX0_holds_15 tk_kl_0 ?_
      refine tq_lcmp (M := mX0_holds) (pc := 16) dX0_holds_16 ?_
      refine tq_if_eq (M := mX0_holds) (pc := 17) (tgt := 24) dX0_holds_17 (by decide) (fun cc => ?_) (fun cc => ?_)
      · have hf := tq_ifp hf cc
        refine tq_iconst (M := mX0_holds) (pc := 24) dX0_holds_24 tk_ki_0 ?_
        refine tq_pick (L2 := []) [] rfl ?_
        cases hf
        exact HJ1
      · have hf := tq_ifn hf cc
        refine tq_iconst (M := mX0_holds) (pc := 20) dX0_holds_20 tk_ki_1 ?_
        refine tq_goto (M := mX0_holds) (pc := 21) (tgt := 25) dX0_holds_21 (by decide) ?_
        refine tq_pick (L2 := []) [] rfl ?_
        cases hf
        exact HJ1
abbrev mJ13_bitCount_95d88 : tq_M := (RJ13, cJ13_bitCount_95d88, 2, (some .int), false, [], none)
def f_J13_bitCount_95d88 (a0 : Int64) (h : tq_H) : Option (Int32) :=
  tq_let ((a0 - (((a0).toUInt64 >>> ((1 : Int32).toInt64.toUInt64 &&& Int64.toUInt64 63)).toInt64 &&& (6148914691236517205 : Int64)))) fun x1 =>
  tq_let (((x1 &&& (3689348814741910323 : Int64)) + (((x1).toUInt64 >>> ((2 : Int32).toInt64.toUInt64 &&& Int64.toUInt64 63)).toInt64 &&& (3689348814741910323 : Int64)))) fun x2 =>
  tq_let (((x2 + ((x2).toUInt64 >>> ((4 : Int32).toInt64.toUInt64 &&& Int64.toUInt64 63)).toInt64) &&& (1085102592571150095 : Int64))) fun x3 =>
  tq_let ((x3 + ((x3).toUInt64 >>> ((8 : Int32).toInt64.toUInt64 &&& Int64.toUInt64 63)).toInt64)) fun x4 =>
  tq_let ((x4 + ((x4).toUInt64 >>> ((16 : Int32).toInt64.toUInt64 &&& Int64.toUInt64 63)).toInt64)) fun x5 =>
  tq_let ((x5 + ((x5).toUInt64 >>> ((32 : Int32).toInt64.toUInt64 &&& Int64.toUInt64 63)).toInt64)) fun x6 =>
  some ((x6).toInt32 &&& (127 : Int32))
set_option maxHeartbeats 4000000 in
set_option maxRecDepth 20000 in
theorem w_J13_bitCount_95d88 {l : Launch} {d : Nat} (hd9 : 0 ≤ d) {a0 : Int64} {h : tq_H} {o : Int32} {Q : tq_R → tq_H → Prop} (hf : f_J13_bitCount_95d88 a0 h = some o) (hQ : ∀ r h9, r = .inl (some (.int o)) ∧ h = h9 → Q r h9) : tq_C l yJ13_bitCount_95d88 cJ13_bitCount_95d88 2 (some .int) d 0 0 [.long a0] h Q := by
  refine tq_body (y := yJ13_bitCount_95d88) false (by decide +kernel) (fun z => by cases z) (Nat.le_of_ble_eq_true rfl) ?_
  show tq_W l mJ13_bitCount_95d88 d 0 0 Q 0 [(0, .long a0)] [] h
  refine tq_lload_n (M := mJ13_bitCount_95d88) (pc := 0) dJ13_bitCount_95d88_0 rfl ?_
  refine tq_lload_n (M := mJ13_bitCount_95d88) (pc := 1) dJ13_bitCount_95d88_1 rfl ?_
  refine tq_iconst (M := mJ13_bitCount_95d88) (pc := 2) dJ13_bitCount_95d88_2 tk_ki_1 ?_
  refine tq_lushr (M := mJ13_bitCount_95d88) (pc := 3) dJ13_bitCount_95d88_3 ?_
  refine tq_ldc2 (M := mJ13_bitCount_95d88) (pc := 4) dJ13_bitCount_95d88_4 tk_RJ13_314 ?_
  refine tq_land (M := mJ13_bitCount_95d88) (pc := 7) dJ13_bitCount_95d88_7 ?_
  refine tq_lsub (M := mJ13_bitCount_95d88) (pc := 8) dJ13_bitCount_95d88_8 ?_
  obtain ⟨x1, ex1, hf⟩ := tq_le hf
  refine tq_lstore_n (M := mJ13_bitCount_95d88) (pc := 9) rfl dJ13_bitCount_95d88_9 (L2 := [(0, .long x1)]) (by decide) (by rw [ex1]; rfl) ?_
  refine tq_lload_n (M := mJ13_bitCount_95d88) (pc := 10) dJ13_bitCount_95d88_10 rfl ?_
  refine tq_ldc2 (M := mJ13_bitCount_95d88) (pc := 11) dJ13_bitCount_95d88_11 tk_RJ13_316 ?_
  refine tq_land (M := mJ13_bitCount_95d88) (pc := 14) dJ13_bitCount_95d88_14 ?_
  refine tq_lload_n (M := mJ13_bitCount_95d88) (pc := 15) dJ13_bitCount_95d88_15 rfl ?_
  refine tq_iconst (M := mJ13_bitCount_95d88) (pc := 16) dJ13_bitCount_95d88_16 tk_ki_2 ?_
  refine tq_lushr (M := mJ13_bitCount_95d88) (pc := 17) dJ13_bitCount_95d88_17 ?_
  refine tq_ldc2 (M := mJ13_bitCount_95d88) (pc := 18) dJ13_bitCount_95d88_18 tk_RJ13_316 ?_
  refine tq_land (M := mJ13_bitCount_95d88) (pc := 21) dJ13_bitCount_95d88_21 ?_
  refine tq_ladd (M := mJ13_bitCount_95d88) (pc := 22) dJ13_bitCount_95d88_22 ?_
  obtain ⟨x2, ex2, hf⟩ := tq_le hf
  refine tq_lstore_n (M := mJ13_bitCount_95d88) (pc := 23) rfl dJ13_bitCount_95d88_23 (L2 := [(0, .long x2)]) (by decide) (by rw [ex2]; rfl) ?_
  refine tq_lload_n (M := mJ13_bitCount_95d88) (pc := 24) dJ13_bitCount_95d88_24 rfl ?_
  refine tq_lload_n (M := mJ13_bitCount_95d88) (pc := 25) dJ13_bitCount_95d88_25 rfl ?_
  refine tq_iconst (M := mJ13_bitCount_95d88) (pc := 26) dJ13_bitCount_95d88_26 tk_ki_4 ?_
  refine tq_lushr (M := mJ13_bitCount_95d88) (pc := 27) dJ13_bitCount_95d88_27 ?_
  refine tq_ladd (M := mJ13_bitCount_95d88) (pc := 28) dJ13_bitCount_95d88_28 ?_
  refine tq_ldc2 (M := mJ13_bitCount_95d88) (pc := 29) dJ13_bitCount_95d88_29 tk_RJ13_318 ?_
  refine tq_land (M := mJ13_bitCount_95d88) (pc := 32) dJ13_bitCount_95d88_32 ?_
  obtain ⟨x3, ex3, hf⟩ := tq_le hf
  refine tq_lstore_n (M := mJ13_bitCount_95d88) (pc := 33) rfl dJ13_bitCount_95d88_33 (L2 := [(0, .long x3)]) (by decide) (by rw [ex3]; rfl) ?_
  refine tq_lload_n (M := mJ13_bitCount_95d88) (pc := 34) dJ13_bitCount_95d88_34 rfl ?_
  refine tq_lload_n (M := mJ13_bitCount_95d88) (pc := 35) dJ13_bitCount_95d88_35 rfl ?_
  refine tq_bipush (M := mJ13_bitCount_95d88) (pc := 36) dJ13_bitCount_95d88_36 tk_kb_8 ?_
  refine tq_lushr (M := mJ13_bitCount_95d88) (pc := 38) dJ13_bitCount_95d88_38 ?_
  refine tq_ladd (M := mJ13_bitCount_95d88) (pc := 39) dJ13_bitCount_95d88_39 ?_
  obtain ⟨x4, ex4, hf⟩ := tq_le hf
  refine tq_lstore_n (M := mJ13_bitCount_95d88) (pc := 40) rfl dJ13_bitCount_95d88_40 (L2 := [(0, .long x4)]) (by decide) (by rw [ex4]; rfl) ?_
  refine tq_lload_n (M := mJ13_bitCount_95d88) (pc := 41) dJ13_bitCount_95d88_41 rfl ?_
  refine tq_lload_n (M := mJ13_bitCount_95d88) (pc := 42) dJ13_bitCount_95d88_42 rfl ?_
  refine tq_bipush (M := mJ13_bitCount_95d88) (pc := 43) dJ13_bitCount_95d88_43 tk_kb_16 ?_
  refine tq_lushr (M := mJ13_bitCount_95d88) (pc := 45) dJ13_bitCount_95d88_45 ?_
  refine tq_ladd (M := mJ13_bitCount_95d88) (pc := 46) dJ13_bitCount_95d88_46 ?_
  obtain ⟨x5, ex5, hf⟩ := tq_le hf
  refine tq_lstore_n (M := mJ13_bitCount_95d88) (pc := 47) rfl dJ13_bitCount_95d88_47 (L2 := [(0, .long x5)]) (by decide) (by rw [ex5]; rfl) ?_
  refine tq_lload_n (M := mJ13_bitCount_95d88) (pc := 48) dJ13_bitCount_95d88_48 rfl ?_
  refine tq_lload_n (M := mJ13_bitCount_95d88) (pc := 49) dJ13_bitCount_95d88_49 rfl ?_
  refine tq_bipush (M := mJ13_bitCount_95d88) (pc := 50) dJ13_bitCount_95d88_50 tk_kb_32 ?_
  refine tq_lushr (M := mJ13_bitCount_95d88) (pc := 52) dJ13_bitCount_95d88_52 ?_
  refine tq_ladd (M := mJ13_bitCount_95d88) (pc := 53) dJ13_bitCount_95d88_53 ?_
  obtain ⟨x6, ex6, hf⟩ := tq_le hf
  refine tq_lstore_n (M := mJ13_bitCount_95d88) (pc := 54) rfl dJ13_bitCount_95d88_54 (L2 := [(0, .long x6)]) (by decide) (by rw [ex6]; rfl) ?_
  refine tq_lload_n (M := mJ13_bitCount_95d88) (pc := 55) dJ13_bitCount_95d88_55 rfl ?_
  refine tq_l2i (M := mJ13_bitCount_95d88) (pc := 56) dJ13_bitCount_95d88_56 ?_
  refine tq_bipush (M := mJ13_bitCount_95d88) (pc := 57) dJ13_bitCount_95d88_57 tk_kb_127 ?_
  refine tq_iand (M := mJ13_bitCount_95d88) (pc := 59) dJ13_bitCount_95d88_59 ?_
  refine tq_iret (M := mJ13_bitCount_95d88) (pc := 60) dJ13_bitCount_95d88_60 rfl ?_
  cases (Option.some.inj hf)
  exact hQ _ _ ⟨rfl, rfl⟩
abbrev mX0_lowest : tq_M := (RX0, cX0_lowest, 2, (some .int), false, [], none)
def f_X0_lowest (a0 : Int64) (h : tq_H) : Option (Int32) :=
  (if (lg_cmp a0 (0 : Int64)) = 0 then
    some (-1 : Int32)
  else
    (f_J13_bitCount_95d88 ((a0 &&& (-a0)) - (1 : Int64)) h).bind fun v1 =>
    some v1).bind fun p2 =>
  some p2
set_option maxHeartbeats 4000000 in
set_option maxRecDepth 20000 in
theorem w_X0_lowest {l : Launch} {d : Nat} (hd9 : 1 ≤ d) {a0 : Int64} {h : tq_H} {o : Int32} {Q : tq_R → tq_H → Prop} (hf : f_X0_lowest a0 h = some o) (hQ : ∀ r h9, r = .inl (some (.int o)) ∧ h = h9 → Q r h9) : tq_C l yX0_lowest cX0_lowest 2 (some .int) d 0 0 [.long a0] h Q := by
  refine tq_body (y := yX0_lowest) false (by decide +kernel) (fun z => by cases z) (Nat.le_of_ble_eq_true rfl) ?_
  show tq_W l mX0_lowest d 0 0 Q 0 [(0, .long a0)] [] h
  refine tq_lload_n (M := mX0_lowest) (pc := 0) dX0_lowest_0 rfl ?_
  refine tq_lconst (M := mX0_lowest) (pc := 1) dX0_lowest_1 tk_kl_0 ?_
  refine tq_lcmp (M := mX0_lowest) (pc := 2) dX0_lowest_2 ?_
  obtain ⟨p2, ep2, hf⟩ := tq_be hf
  have HJ3 : tq_W l mX0_lowest d 0 0 Q 19 [] [.int p2] h := by
    refine tq_iret (M := mX0_lowest) (pc := 19) dX0_lowest_19 rfl ?_
    cases (Option.some.inj hf)
    exact hQ _ _ ⟨rfl, rfl⟩
  refine tq_if_ne (M := mX0_lowest) (pc := 3) (tgt := 10) dX0_lowest_3 (by decide) (fun cc => ?_) (fun cc => ?_)
  · have hf := tq_ifn ep2 cc
    refine tq_lload_n (M := mX0_lowest) (pc := 10) dX0_lowest_10 rfl ?_
    refine tq_lload_n (M := mX0_lowest) (pc := 11) dX0_lowest_11 rfl ?_
    refine tq_lneg (M := mX0_lowest) (pc := 12) dX0_lowest_12 ?_
    refine tq_land (M := mX0_lowest) (pc := 13) dX0_lowest_13 ?_
    refine tq_lconst (M := mX0_lowest) (pc := 14) dX0_lowest_14 tk_kl_1 ?_
    refine tq_lsub (M := mX0_lowest) (pc := 15) dX0_lowest_15 ?_
    obtain ⟨v1, ev1, hf⟩ := tq_be hf
    refine tq_calS (M := mX0_lowest) (pc := 16) (S := []) tk_y_J13_bitCount_95d88 tk_s_J13_bitCount_95d88 tk_RX0_11 dX0_lowest_16 [.long (((a0 &&& (-a0)) - (1 : Int64)))] rfl (Nat.le_of_ble_eq_true rfl) (d1 := d - 1) (b1 := 0) (s1 := 0) (bc' := 0) (bs' := 0) (Q1 := fun r h9 => r = .inl (some (.int v1)) ∧ h = h9) (by omega) rfl rfl (w_J13_bitCount_95d88 (by omega) ev1 (fun _ _ q => q)) (fun E h9 q => nomatch (show (Sum.inr E : tq_R) = Sum.inl _ from q.1)) (fun r9 h9 q => ?_)
    obtain ⟨q1, rfl⟩ := q
    cases (show (Sum.inl r9 : tq_R) = Sum.inl (some (.int v1)) from q1)
    refine tq_pick (L2 := []) [] rfl ?_
    cases (Option.some.inj hf)
    exact HJ3
  · have hf := tq_ifp ep2 cc
    refine tq_iconst (M := mX0_lowest) (pc := 6) dX0_lowest_6 tk_ki_m1 ?_
    refine tq_goto (M := mX0_lowest) (pc := 7) (tgt := 19) dX0_lowest_7 (by decide) ?_
    refine tq_pick (L2 := []) [] rfl ?_
    cases (Option.some.inj hf)
    exact HJ3
abbrev mX0_memberAt : tq_M := (RX0, cX0_memberAt, 6, (some .int), false, [], none)
def f_X0_memberAt_b19 (i2 : Int32) (hh : tq_H) (s : Int64 × Int32) : Option ((Int64 × Int32) ⊕ (Int64)) := match s with
  | (y3, y5) =>
    if y5 ≥ i2 then
      some (.inr y3)
    else
      tq_let ((y3 &&& (y3 - (1 : Int64)))) fun x2 =>
      tq_let (y5 + (1 : Int32)) fun x3 =>
      some (.inl (x2, x3))
def f_X0_memberAt (a0 : Int64) (a2 : Int32) (h : tq_H) : Option (Int32) :=
  if a2 < 0 then
    some (-1 : Int32)
  else
    (f_J13_bitCount_95d88 a0 h).bind fun v1 =>
    if a2 < v1 then
      (tq_loop (f_X0_memberAt_b19 a2 h) tq_N (a0, (0 : Int32))).bind fun o4 =>
      (f_X0_lowest o4 h).bind fun v5 =>
      some v5
    else
      some (-1 : Int32)
set_option maxHeartbeats 4000000 in
theorem l_X0_memberAt_19 {l : Launch} {d : Nat} {Q : tq_R → tq_H → Prop} {bc bs : Nat} (hd9 : 2 ≤ d) (i2 : Int32) (hh : tq_H) : ∀ (n : Nat) (y3 : Int64) (y5 : Int32) (o : Int64), tq_loop (f_X0_memberAt_b19 i2 hh) n (y3, y5) = some o → tq_W l mX0_memberAt d bc bs Q 37 [(3, .long o)] [] hh → tq_W l mX0_memberAt d bc bs Q 19 [(2, .int i2), (3, .long y3), (5, .int y5)] [] hh := by
  intro n
  induction n with
  | zero => intro y3 y5 o hl; cases hl
  | succ n ih =>
    intro y3 y5 o hl hk
    obtain ⟨oo, hf, ho⟩ := tq_loop_s hl
    refine tq_iload (M := mX0_memberAt) (pc := 19) dX0_memberAt_19 rfl ?_
    refine tq_iload_n (M := mX0_memberAt) (pc := 21) dX0_memberAt_21 rfl ?_
    refine tq_icmp_ge (M := mX0_memberAt) (pc := 22) (tgt := 37) dX0_memberAt_22 (by decide) (fun cc => ?_) (fun cc => ?_)
    · have hf := tq_ifp hf cc
      refine tq_pick (L2 := [(3, .long y3)]) [1] rfl ?_
      cases (Option.some.inj hf)
      cases (tq_lx ho)
      exact hk
    · have hf := tq_ifn hf cc
      refine tq_lload_n (M := mX0_memberAt) (pc := 25) dX0_memberAt_25 rfl ?_
      refine tq_lload_n (M := mX0_memberAt) (pc := 26) dX0_memberAt_26 rfl ?_
      refine tq_lconst (M := mX0_memberAt) (pc := 27) dX0_memberAt_27 tk_kl_1 ?_
      refine tq_lsub (M := mX0_memberAt) (pc := 28) dX0_memberAt_28 ?_
      refine tq_land (M := mX0_memberAt) (pc := 29) dX0_memberAt_29 ?_
      obtain ⟨x2, ex2, hf⟩ := tq_le hf
      refine tq_lstore_n (M := mX0_memberAt) (pc := 30) rfl dX0_memberAt_30 (L2 := [(3, .long x2), (2, .int i2), (5, .int y5)]) (by decide) (by rw [ex2]; rfl) ?_
      obtain ⟨x3, ex3, hf⟩ := tq_le hf
      refine tq_iinc (M := mX0_memberAt) (pc := 31) (v := x3) (L2 := [(5, .int x3), (3, .long x2), (2, .int i2)]) dX0_memberAt_31 rfl (by rw [ex3, tk_ki_1]) (by decide) rfl ?_
      refine tq_goto (M := mX0_memberAt) (pc := 34) (tgt := 19) dX0_memberAt_34 (by decide) ?_
      refine tq_pick (L2 := [(2, .int i2), (3, .long x2), (5, .int x3)]) [2, 1, 0] rfl ?_
      cases (Option.some.inj hf)
      exact ih _ _ o (tq_lc ho) hk
set_option maxHeartbeats 4000000 in
set_option maxRecDepth 20000 in
theorem w_X0_memberAt {l : Launch} {d : Nat} (hd9 : 2 ≤ d) {a0 : Int64} {a2 : Int32} {h : tq_H} {o : Int32} {Q : tq_R → tq_H → Prop} (hf : f_X0_memberAt a0 a2 h = some o) (hQ : ∀ r h9, r = .inl (some (.int o)) ∧ h = h9 → Q r h9) : tq_C l yX0_memberAt cX0_memberAt 6 (some .int) d 0 0 [.long a0, .int a2] h Q := by
  refine tq_body (y := yX0_memberAt) false (by decide +kernel) (fun z => by cases z) (Nat.le_of_ble_eq_true rfl) ?_
  show tq_W l mX0_memberAt d 0 0 Q 0 [(0, .long a0), (2, .int a2)] [] h
  refine tq_iload_n (M := mX0_memberAt) (pc := 0) dX0_memberAt_0 rfl ?_
  refine tq_if_lt (M := mX0_memberAt) (pc := 1) (tgt := 12) dX0_memberAt_1 (by decide) (fun cc => ?_) (fun cc => ?_)
  · have hf := tq_ifp hf cc
    refine tq_iconst (M := mX0_memberAt) (pc := 12) dX0_memberAt_12 tk_ki_m1 ?_
    refine tq_iret (M := mX0_memberAt) (pc := 13) dX0_memberAt_13 rfl ?_
    cases (Option.some.inj hf)
    exact hQ _ _ ⟨rfl, rfl⟩
  · have hf := tq_ifn hf cc
    refine tq_iload_n (M := mX0_memberAt) (pc := 4) dX0_memberAt_4 rfl ?_
    refine tq_lload_n (M := mX0_memberAt) (pc := 5) dX0_memberAt_5 rfl ?_
    obtain ⟨v1, ev1, hf⟩ := tq_be hf
    refine tq_calS (M := mX0_memberAt) (pc := 6) (S := [.int a2]) tk_y_J13_bitCount_95d88 tk_s_J13_bitCount_95d88 tk_RX0_11 dX0_memberAt_6 [.long a0] rfl (Nat.le_of_ble_eq_true rfl) (d1 := d - 1) (b1 := 0) (s1 := 0) (bc' := 0) (bs' := 0) (Q1 := fun r h9 => r = .inl (some (.int v1)) ∧ h = h9) (by omega) rfl rfl (w_J13_bitCount_95d88 (by omega) ev1 (fun _ _ q => q)) (fun E h9 q => nomatch (show (Sum.inr E : tq_R) = Sum.inl _ from q.1)) (fun r9 h9 q => ?_)
    obtain ⟨q1, rfl⟩ := q
    cases (show (Sum.inl r9 : tq_R) = Sum.inl (some (.int v1)) from q1)
    refine tq_icmp_lt (M := mX0_memberAt) (pc := 9) (tgt := 14) dX0_memberAt_9 (by decide) (fun cc => ?_) (fun cc => ?_)
    · have hf := tq_ifp hf cc
      refine tq_lload_n (M := mX0_memberAt) (pc := 14) dX0_memberAt_14 rfl ?_
      refine tq_lstore_n (M := mX0_memberAt) (pc := 15) rfl dX0_memberAt_15 (L2 := [(3, .long a0), (0, .long a0), (2, .int a2)]) (by decide) rfl ?_
      refine tq_iconst (M := mX0_memberAt) (pc := 16) dX0_memberAt_16 tk_ki_0 ?_
      refine tq_istore (M := mX0_memberAt) (pc := 17) dX0_memberAt_17 (L2 := [(5, .int (0 : Int32)), (3, .long a0), (0, .long a0), (2, .int a2)]) (by decide) rfl ?_
      obtain ⟨o4, eo4, hf⟩ := tq_be hf
      refine tq_pick (L2 := [(2, .int a2), (3, .long a0), (5, .int (0 : Int32))]) [3, 1, 0] rfl ?_
      refine l_X0_memberAt_19 (bc := 0) (bs := 0) (by omega) a2 h _ a0 (0 : Int32) _ eo4 ?_
      refine tq_lload_n (M := mX0_memberAt) (pc := 37) dX0_memberAt_37 rfl ?_
      obtain ⟨v5, ev5, hf⟩ := tq_be hf
      refine tq_calS (M := mX0_memberAt) (pc := 38) (S := []) tk_y_X0_lowest tk_s_X0_lowest tk_RX0_17 dX0_memberAt_38 [.long o4] rfl (Nat.le_of_ble_eq_true rfl) (d1 := d - 1) (b1 := 0) (s1 := 0) (bc' := 0) (bs' := 0) (Q1 := fun r h9 => r = .inl (some (.int v5)) ∧ h = h9) (by omega) rfl rfl (w_X0_lowest (by omega) ev5 (fun _ _ q => q)) (fun E h9 q => nomatch (show (Sum.inr E : tq_R) = Sum.inl _ from q.1)) (fun r9 h9 q => ?_)
      obtain ⟨q1, rfl⟩ := q
      cases (show (Sum.inl r9 : tq_R) = Sum.inl (some (.int v5)) from q1)
      refine tq_iret (M := mX0_memberAt) (pc := 41) dX0_memberAt_41 rfl ?_
      cases (Option.some.inj hf)
      exact hQ _ _ ⟨rfl, rfl⟩
    · have hf := tq_ifn hf cc
      refine tq_iconst (M := mX0_memberAt) (pc := 12) dX0_memberAt_12 tk_ki_m1 ?_
      refine tq_iret (M := mX0_memberAt) (pc := 13) dX0_memberAt_13 rfl ?_
      cases (Option.some.inj hf)
      exact hQ _ _ ⟨rfl, rfl⟩
abbrev mX0_agrees : tq_M := (RX0, cX0_agrees, 3, (some .boolean), false, [], none)
def f_X0_agrees (a0 : Int32) (a1 : Int32) (a2 : Int32) (h : tq_H) : Option (Int32) :=
  if a1 = 0 then
    tq_let (if a0 = a2 then (1 : Int32) else (0 : Int32)) fun p3 =>
    (tq_bz p3).bind fun z4 =>
    some z4
  else
    tq_let (if a1 = (1 : Int32) then (if a0 ≥ a2 then (0 : Int32) else (1 : Int32)) else (if a0 ≤ a2 then (0 : Int32) else (1 : Int32))) fun p1 =>
    (tq_bz p1).bind fun z2 =>
    some z2
set_option maxHeartbeats 4000000 in
set_option maxRecDepth 20000 in
theorem w_X0_agrees {l : Launch} {d : Nat} (hd9 : 0 ≤ d) {a0 : Int32} {a1 : Int32} {a2 : Int32} {h : tq_H} {o : Int32} {Q : tq_R → tq_H → Prop} (hf : f_X0_agrees a0 a1 a2 h = some o) (hQ : ∀ r h9, r = .inl (some (.int o)) ∧ h = h9 → Q r h9) : tq_C l yX0_agrees cX0_agrees 3 (some .boolean) d 0 0 [.int a0, .int a1, .int a2] h Q := by
  refine tq_body (y := yX0_agrees) false (by decide +kernel) (fun z => by cases z) (Nat.le_of_ble_eq_true rfl) ?_
  show tq_W l mX0_agrees d 0 0 Q 0 [(0, .int a0), (1, .int a1), (2, .int a2)] [] h
  refine tq_iload_n (M := mX0_agrees) (pc := 0) dX0_agrees_0 rfl ?_
  refine tq_if_ne (M := mX0_agrees) (pc := 1) (tgt := 15) dX0_agrees_1 (by decide) (fun cc => ?_) (fun cc => ?_)
  · have hf := tq_ifn hf cc
    refine tq_iload_n (M := mX0_agrees) (pc := 15) dX0_agrees_15 rfl ?_
    refine tq_iconst (M := mX0_agrees) (pc := 16) dX0_agrees_16 tk_ki_1 ?_
    obtain ⟨p1, ep1, hf⟩ := tq_le hf
    have HJ17 : tq_W l mX0_agrees d 0 0 Q 43 [] [.int p1] h := by
      obtain ⟨z2, ez2, hf⟩ := tq_be hf
      refine tq_zretB (M := mX0_agrees) (pc := 43) dX0_agrees_43 rfl ez2 ?_
      cases (Option.some.inj hf)
      exact hQ _ _ ⟨rfl, rfl⟩
    refine tq_icmp_ne (M := mX0_agrees) (pc := 17) (tgt := 33) dX0_agrees_17 (by decide) (fun cc => ?_) (fun cc => ?_)
    · have hf := tq_ifn ep1.symm cc
      refine tq_iload_n (M := mX0_agrees) (pc := 33) dX0_agrees_33 rfl ?_
      refine tq_iload_n (M := mX0_agrees) (pc := 34) dX0_agrees_34 rfl ?_
      refine tq_icmp_le (M := mX0_agrees) (pc := 35) (tgt := 42) dX0_agrees_35 (by decide) (fun cc => ?_) (fun cc => ?_)
      · have hf := tq_ifp hf cc
        refine tq_iconst (M := mX0_agrees) (pc := 42) dX0_agrees_42 tk_ki_0 ?_
        refine tq_pick (L2 := []) [] rfl ?_
        cases hf
        exact HJ17
      · have hf := tq_ifn hf cc
        refine tq_iconst (M := mX0_agrees) (pc := 38) dX0_agrees_38 tk_ki_1 ?_
        refine tq_goto (M := mX0_agrees) (pc := 39) (tgt := 43) dX0_agrees_39 (by decide) ?_
        refine tq_pick (L2 := []) [] rfl ?_
        cases hf
        exact HJ17
    · have hf := tq_ifp ep1.symm cc
      refine tq_iload_n (M := mX0_agrees) (pc := 20) dX0_agrees_20 rfl ?_
      refine tq_iload_n (M := mX0_agrees) (pc := 21) dX0_agrees_21 rfl ?_
      refine tq_icmp_ge (M := mX0_agrees) (pc := 22) (tgt := 29) dX0_agrees_22 (by decide) (fun cc => ?_) (fun cc => ?_)
      · have hf := tq_ifp hf cc
        refine tq_iconst (M := mX0_agrees) (pc := 29) dX0_agrees_29 tk_ki_0 ?_
        refine tq_goto (M := mX0_agrees) (pc := 30) (tgt := 43) dX0_agrees_30 (by decide) ?_
        refine tq_pick (L2 := []) [] rfl ?_
        cases hf
        exact HJ17
      · have hf := tq_ifn hf cc
        refine tq_iconst (M := mX0_agrees) (pc := 25) dX0_agrees_25 tk_ki_1 ?_
        refine tq_goto (M := mX0_agrees) (pc := 26) (tgt := 43) dX0_agrees_26 (by decide) ?_
        refine tq_pick (L2 := []) [] rfl ?_
        cases hf
        exact HJ17
  · have hf := tq_ifp hf cc
    refine tq_iload_n (M := mX0_agrees) (pc := 4) dX0_agrees_4 rfl ?_
    refine tq_iload_n (M := mX0_agrees) (pc := 5) dX0_agrees_5 rfl ?_
    obtain ⟨p3, ep3, hf⟩ := tq_le hf
    have HJ6 : tq_W l mX0_agrees d 0 0 Q 14 [] [.int p3] h := by
      obtain ⟨z4, ez4, hf⟩ := tq_be hf
      refine tq_zretB (M := mX0_agrees) (pc := 14) dX0_agrees_14 rfl ez4 ?_
      cases (Option.some.inj hf)
      exact hQ _ _ ⟨rfl, rfl⟩
    refine tq_icmp_ne (M := mX0_agrees) (pc := 6) (tgt := 13) dX0_agrees_6 (by decide) (fun cc => ?_) (fun cc => ?_)
    · have hf := tq_ifn ep3.symm cc
      refine tq_iconst (M := mX0_agrees) (pc := 13) dX0_agrees_13 tk_ki_0 ?_
      refine tq_pick (L2 := []) [] rfl ?_
      cases hf
      exact HJ6
    · have hf := tq_ifp ep3.symm cc
      refine tq_iconst (M := mX0_agrees) (pc := 9) dX0_agrees_9 tk_ki_1 ?_
      refine tq_goto (M := mX0_agrees) (pc := 10) (tgt := 14) dX0_agrees_10 (by decide) ?_
      refine tq_pick (L2 := []) [] rfl ?_
      cases hf
      exact HJ6
abbrev mJ7_fill_53178 : tq_M := (RJ7, cJ7_fill_53178, 4, none, false, [], none)
def f_J7_fill_53178_b5 (i0 : Nat) (i1 : Int32) (i3 : Int32) (s : Int32 × tq_H) : Option ((Int32 × tq_H) ⊕ (tq_H)) := match s with
  | (y2, hh) =>
    if y2 ≥ i3 then
      some (.inr hh)
    else
      (tq_si hh i0 y2 i1).bind fun w2 =>
      tq_let (y2 + (1 : Int32)) fun x3 =>
      some (.inl (x3, w2))
def f_J7_fill_53178 (a0 : Nat) (a1 : Int32) (h : tq_H) : Option (tq_H) :=
  (tq_an h a0).bind fun x1 =>
  (tq_loop (f_J7_fill_53178_b5 a0 a1 x1) tq_N ((0 : Int32), h)).bind fun o4 =>
  some o4
set_option maxHeartbeats 4000000 in
theorem l_J7_fill_53178_5 {l : Launch} {d : Nat} {Q : tq_R → tq_H → Prop} {bc bs : Nat} (hd9 : 0 ≤ d) (i0 : Nat) (i1 : Int32) (i3 : Int32) : ∀ (n : Nat) (y2 : Int32) (hh : tq_H) (o : tq_H), tq_loop (f_J7_fill_53178_b5 i0 i1 i3) n (y2, hh) = some o → tq_W l mJ7_fill_53178 d bc bs Q 20 [] [] o → tq_W l mJ7_fill_53178 d bc bs Q 5 [(0, .ref i0), (1, .int i1), (2, .int y2), (3, .int i3)] [] hh := by
  intro n
  induction n with
  | zero => intro y2 hh o hl; cases hl
  | succ n ih =>
    intro y2 hh o hl hk
    obtain ⟨oo, hf, ho⟩ := tq_loop_s hl
    refine tq_iload_n (M := mJ7_fill_53178) (pc := 5) dJ7_fill_53178_5 rfl ?_
    refine tq_iload_n (M := mJ7_fill_53178) (pc := 6) dJ7_fill_53178_6 rfl ?_
    refine tq_icmp_ge (M := mJ7_fill_53178) (pc := 7) (tgt := 20) dJ7_fill_53178_7 (by decide) (fun cc => ?_) (fun cc => ?_)
    · have hf := tq_ifp hf cc
      refine tq_pick (L2 := []) [] rfl ?_
      cases (Option.some.inj hf)
      cases (tq_lx ho)
      exact hk
    · have hf := tq_ifn hf cc
      refine tq_aload_n (M := mJ7_fill_53178) (pc := 10) dJ7_fill_53178_10 rfl ?_
      refine tq_iload_n (M := mJ7_fill_53178) (pc := 11) dJ7_fill_53178_11 rfl ?_
      refine tq_iload_n (M := mJ7_fill_53178) (pc := 12) dJ7_fill_53178_12 rfl ?_
      obtain ⟨w2, ew2, hf⟩ := tq_be hf
      refine tq_iastF (M := mJ7_fill_53178) (pc := 13) dJ7_fill_53178_13 ew2 ?_
      obtain ⟨x3, ex3, hf⟩ := tq_le hf
      refine tq_iinc (M := mJ7_fill_53178) (pc := 14) (v := x3) (L2 := [(2, .int x3), (0, .ref i0), (1, .int i1), (3, .int i3)]) dJ7_fill_53178_14 rfl (by rw [ex3, tk_ki_1]) (by decide) rfl ?_
      refine tq_goto (M := mJ7_fill_53178) (pc := 17) (tgt := 5) dJ7_fill_53178_17 (by decide) ?_
      refine tq_pick (L2 := [(0, .ref i0), (1, .int i1), (2, .int x3), (3, .int i3)]) [1, 2, 0, 3] rfl ?_
      cases (Option.some.inj hf)
      exact ih _ _ o (tq_lc ho) hk
set_option maxHeartbeats 4000000 in
set_option maxRecDepth 20000 in
theorem w_J7_fill_53178 {l : Launch} {d : Nat} (hd9 : 0 ≤ d) {a0 : Nat} {a1 : Int32} {h : tq_H} {o : tq_H} {Q : tq_R → tq_H → Prop} (hf : f_J7_fill_53178 a0 a1 h = some o) (hQ : ∀ r h9, r = .inl none ∧ o = h9 → Q r h9) : tq_C l yJ7_fill_53178 cJ7_fill_53178 4 none d 0 0 [.ref a0, .int a1] h Q := by
  refine tq_body (y := yJ7_fill_53178) false (by decide +kernel) (fun z => by cases z) (Nat.le_of_ble_eq_true rfl) ?_
  show tq_W l mJ7_fill_53178 d 0 0 Q 0 [(0, .ref a0), (1, .int a1)] [] h
  refine tq_iconst (M := mJ7_fill_53178) (pc := 0) dJ7_fill_53178_0 tk_ki_0 ?_
  refine tq_istore_n (M := mJ7_fill_53178) (pc := 1) rfl dJ7_fill_53178_1 (L2 := [(2, .int (0 : Int32)), (0, .ref a0), (1, .int a1)]) (by decide) rfl ?_
  refine tq_aload_n (M := mJ7_fill_53178) (pc := 2) dJ7_fill_53178_2 rfl ?_
  obtain ⟨x1, ex1, hf⟩ := tq_be hf
  refine tq_alenF (M := mJ7_fill_53178) (pc := 3) dJ7_fill_53178_3 ex1 ?_
  refine tq_istore_n (M := mJ7_fill_53178) (pc := 4) rfl dJ7_fill_53178_4 (L2 := [(3, .int x1), (2, .int (0 : Int32)), (0, .ref a0), (1, .int a1)]) (by decide) rfl ?_
  obtain ⟨o4, eo4, hf⟩ := tq_be hf
  refine tq_pick (L2 := [(0, .ref a0), (1, .int a1), (2, .int (0 : Int32)), (3, .int x1)]) [2, 3, 1, 0] rfl ?_
  refine l_J7_fill_53178_5 (bc := 0) (bs := 0) (by omega) a0 a1 x1 _ (0 : Int32) h _ eo4 ?_
  refine tq_vret (M := mJ7_fill_53178) (pc := 20) dJ7_fill_53178_20 rfl ?_
  cases (Option.some.inj hf)
  exact hQ _ _ ⟨rfl, rfl⟩
abbrev mX5_init : tq_M := (RX5, cX5_init, 3, none, true, [], none)
def f_X5_init (t : Nat) (a1 : Int32) (a2 : Int32) (h : tq_H) : Option (tq_H) :=
  tq_let (if a1 ≥ 0 then a1 else (0 : Int32)) fun p1 =>
  (tq_len p1).bind fun N9 =>
  tq_let (tq_new h (.inr (0, (N9, .inl (fun _ => 0))))) fun w2 =>
  (tq_pf w2 t 5 0 (.ref h.1)).bind fun w3 =>
  (tq_gr w3 t 5 0).bind fun k4 =>
  (f_J7_fill_53178 k4 a2 w3).bind fun v5 =>
  some v5
set_option maxHeartbeats 4000000 in
set_option maxRecDepth 20000 in
theorem w_X5_init {l : Launch} {d : Nat} (hd9 : 1 ≤ d) {t : Nat} {a1 : Int32} {a2 : Int32} {N : Nat} (hN1 : a1.toNatClampNeg = N) (hN2 : ¬ a1 < 0) (hN3 : N ≤ 10000) {h : tq_H} {o : tq_H} {Q : tq_R → tq_H → Prop} (hf : f_X5_init t a1 a2 h = some o) (hQ : ∀ r h9, r = .inl none ∧ o = h9 → Q r h9) : tq_C l yX5_init cX5_init 3 none d 1 N [.ref t, .int a1, .int a2] h Q := by
  refine tq_body (y := yX5_init) true (by decide +kernel) (fun _ => rfl) (Nat.le_of_ble_eq_true rfl) ?_
  show tq_W l mX5_init d 1 N Q 0 [(0, .ref t), (1, .int a1), (2, .int a2)] [] h
  refine tq_aload_n (M := mX5_init) (pc := 0) dX5_init_0 rfl ?_
  refine tq_objinit (M := mX5_init) (pc := 1) dX5_init_1 tk_RX5_3 tk_oi tk_oc (by omega) (Nat.le_of_ble_eq_true rfl) ?_
  refine tq_aload_n (M := mX5_init) (pc := 4) dX5_init_4 rfl ?_
  refine tq_iload_n (M := mX5_init) (pc := 5) dX5_init_5 rfl ?_
  obtain ⟨p1, ep1, hf⟩ := tq_le hf
  have HJ6 : tq_W l mX5_init d 1 N Q 14 [(0, .ref t), (2, .int a2)] [.int p1, .ref t] h := by
    obtain ⟨N9, eN, hf⟩ := tq_be hf
    obtain ⟨w2, ew2, hf⟩ := tq_le hf
    have e9 : N9 = N := by rw [← (tq_len_s eN).1, ep1, if_pos (Int32.not_lt.mp hN2), hN1]
    refine tq_newi (M := mX5_init) (pc := 14) dX5_init_14 tk_ac_int (N := N9) (tq_len_s eN).2.1 (tq_len_s eN).1 (by omega) (bc' := 0) (bs' := 0) rfl (by omega) ?_
    rw [← ew2]
    obtain ⟨w3, ew3, hf⟩ := tq_be hf
    refine tq_putv (M := mX5_init) (pc := 16) tk_c5 (by decide) dX5_init_16 tk_RX5_9 rfl (Or.inr ⟨rfl, rfl⟩) ew3 (tq_nA _ _) ?_
    refine tq_aload_n (M := mX5_init) (pc := 19) dX5_init_19 rfl ?_
    obtain ⟨k4, ek4, hf⟩ := tq_be hf
    refine tq_getR (M := mX5_init) (pc := 20) tk_c5 (by decide) dX5_init_20 tk_RX5_9 rfl ek4 ?_
    refine tq_iload_n (M := mX5_init) (pc := 23) dX5_init_23 rfl ?_
    obtain ⟨v5, ev5, hf⟩ := tq_be hf
    refine tq_calS (M := mX5_init) (pc := 24) (S := []) tk_y_J7_fill_53178 tk_s_J7_fill_53178 tk_RX5_15 dX5_init_24 [.ref k4, .int a2] rfl (Nat.le_of_ble_eq_true rfl) (d1 := d - 1) (b1 := 0) (s1 := 0) (bc' := 0) (bs' := 0) (Q1 := fun r h9 => r = .inl none ∧ v5 = h9) (by omega) rfl rfl (w_J7_fill_53178 (by omega) ev5 (fun _ _ q => q)) (fun E h9 q => nomatch (show (Sum.inr E : tq_R) = Sum.inl _ from q.1)) (fun r9 h9 q => ?_)
    obtain ⟨q1, rfl⟩ := q
    cases (show (Sum.inl r9 : tq_R) = Sum.inl (none) from q1)
    refine tq_vret (M := mX5_init) (pc := 27) dX5_init_27 rfl ?_
    cases (Option.some.inj hf)
    exact hQ _ _ ⟨rfl, rfl⟩
  refine tq_if_ge (M := mX5_init) (pc := 6) (tgt := 13) dX5_init_6 (by decide) (fun cc => ?_) (fun cc => ?_)
  · have hf := tq_ifp ep1.symm cc
    refine tq_iload_n (M := mX5_init) (pc := 13) dX5_init_13 rfl ?_
    refine tq_pick (L2 := [(0, .ref t), (2, .int a2)]) [0, 2] rfl ?_
    cases hf
    exact HJ6
  · have hf := tq_ifn ep1.symm cc
    refine tq_iconst (M := mX5_init) (pc := 9) dX5_init_9 tk_ki_0 ?_
    refine tq_goto (M := mX5_init) (pc := 10) (tgt := 14) dX5_init_10 (by decide) ?_
    refine tq_pick (L2 := [(0, .ref t), (2, .int a2)]) [0, 2] rfl ?_
    cases hf
    exact HJ6
abbrev mX5_get : tq_M := (RX5, cX5_get, 2, (some .int), false, [], none)
def f_X5_get (t : Nat) (a1 : Int32) (h : tq_H) : Option (Int32) :=
  (if a1 < 0 then
    some (-1 : Int32)
  else
    (tq_gr h t 5 0).bind fun k1 =>
    (tq_an h k1).bind fun x2 =>
    if a1 ≥ x2 then
      some (-1 : Int32)
    else
      (tq_gr h t 5 0).bind fun k3 =>
      (tq_ai h k3 a1).bind fun x4 =>
      some x4).bind fun p5 =>
  some p5
set_option maxHeartbeats 4000000 in
set_option maxRecDepth 20000 in
theorem w_X5_get {l : Launch} {d : Nat} (hd9 : 0 ≤ d) {t : Nat} {a1 : Int32} {h : tq_H} {o : Int32} {Q : tq_R → tq_H → Prop} (hf : f_X5_get t a1 h = some o) (hQ : ∀ r h9, r = .inl (some (.int o)) ∧ h = h9 → Q r h9) : tq_C l yX5_get cX5_get 2 (some .int) d 0 0 [.ref t, .int a1] h Q := by
  refine tq_body (y := yX5_get) false (by decide +kernel) (fun z => by cases z) (Nat.le_of_ble_eq_true rfl) ?_
  show tq_W l mX5_get d 0 0 Q 0 [(0, .ref t), (1, .int a1)] [] h
  refine tq_iload_n (M := mX5_get) (pc := 0) dX5_get_0 rfl ?_
  obtain ⟨p5, ep5, hf⟩ := tq_be hf
  have HJ1 : tq_W l mX5_get d 0 0 Q 23 [] [.int p5] h := by
    refine tq_iret (M := mX5_get) (pc := 23) dX5_get_23 rfl ?_
    cases (Option.some.inj hf)
    exact hQ _ _ ⟨rfl, rfl⟩
  refine tq_if_lt (M := mX5_get) (pc := 1) (tgt := 22) dX5_get_1 (by decide) (fun cc => ?_) (fun cc => ?_)
  · have hf := tq_ifp ep5 cc
    refine tq_iconst (M := mX5_get) (pc := 22) dX5_get_22 tk_ki_m1 ?_
    refine tq_pick (L2 := []) [] rfl ?_
    cases (Option.some.inj hf)
    exact HJ1
  · have hf := tq_ifn ep5 cc
    refine tq_iload_n (M := mX5_get) (pc := 4) dX5_get_4 rfl ?_
    refine tq_aload_n (M := mX5_get) (pc := 5) dX5_get_5 rfl ?_
    obtain ⟨k1, ek1, hf⟩ := tq_be hf
    refine tq_getR (M := mX5_get) (pc := 6) tk_c5 (by decide) dX5_get_6 tk_RX5_9 rfl ek1 ?_
    obtain ⟨x2, ex2, hf⟩ := tq_be hf
    refine tq_alenF (M := mX5_get) (pc := 9) dX5_get_9 ex2 ?_
    refine tq_icmp_ge (M := mX5_get) (pc := 10) (tgt := 22) dX5_get_10 (by decide) (fun cc => ?_) (fun cc => ?_)
    · have hf := tq_ifp hf cc
      refine tq_iconst (M := mX5_get) (pc := 22) dX5_get_22 tk_ki_m1 ?_
      refine tq_pick (L2 := []) [] rfl ?_
      cases (Option.some.inj hf)
      exact HJ1
    · have hf := tq_ifn hf cc
      refine tq_aload_n (M := mX5_get) (pc := 13) dX5_get_13 rfl ?_
      obtain ⟨k3, ek3, hf⟩ := tq_be hf
      refine tq_getR (M := mX5_get) (pc := 14) tk_c5 (by decide) dX5_get_14 tk_RX5_9 rfl ek3 ?_
      refine tq_iload_n (M := mX5_get) (pc := 17) dX5_get_17 rfl ?_
      obtain ⟨x4, ex4, hf⟩ := tq_be hf
      refine tq_ialdF (M := mX5_get) (pc := 18) dX5_get_18 ex4 ?_
      refine tq_goto (M := mX5_get) (pc := 19) (tgt := 23) dX5_get_19 (by decide) ?_
      refine tq_pick (L2 := []) [] rfl ?_
      cases (Option.some.inj hf)
      exact HJ1
abbrev mX5_set : tq_M := (RX5, cX5_set, 3, none, false, [], none)
def f_X5_set (t : Nat) (a1 : Int32) (a2 : Int32) (h : tq_H) : Option (tq_H) :=
  (if a1 < 0 then
    some h
  else
    (tq_gr h t 5 0).bind fun k1 =>
    (tq_an h k1).bind fun x2 =>
    if a1 ≥ x2 then
      some h
    else
      (tq_gr h t 5 0).bind fun k3 =>
      (tq_si h k3 a1 a2).bind fun w4 =>
      some w4).bind fun p5 =>
  some p5
set_option maxHeartbeats 4000000 in
set_option maxRecDepth 20000 in
theorem w_X5_set {l : Launch} {d : Nat} (hd9 : 0 ≤ d) {t : Nat} {a1 : Int32} {a2 : Int32} {h : tq_H} {o : tq_H} {Q : tq_R → tq_H → Prop} (hf : f_X5_set t a1 a2 h = some o) (hQ : ∀ r h9, r = .inl none ∧ o = h9 → Q r h9) : tq_C l yX5_set cX5_set 3 none d 0 0 [.ref t, .int a1, .int a2] h Q := by
  refine tq_body (y := yX5_set) false (by decide +kernel) (fun z => by cases z) (Nat.le_of_ble_eq_true rfl) ?_
  show tq_W l mX5_set d 0 0 Q 0 [(0, .ref t), (1, .int a1), (2, .int a2)] [] h
  refine tq_iload_n (M := mX5_set) (pc := 0) dX5_set_0 rfl ?_
  obtain ⟨p5, ep5, hf⟩ := tq_be hf
  have HJ1 : tq_W l mX5_set d 0 0 Q 20 [] [] p5 := by
    refine tq_vret (M := mX5_set) (pc := 20) dX5_set_20 rfl ?_
    cases (Option.some.inj hf)
    exact hQ _ _ ⟨rfl, rfl⟩
  refine tq_if_lt (M := mX5_set) (pc := 1) (tgt := 20) dX5_set_1 (by decide) (fun cc => ?_) (fun cc => ?_)
  · have hf := tq_ifp ep5 cc
    refine tq_pick (L2 := []) [] rfl ?_
    cases (Option.some.inj hf)
    exact HJ1
  · have hf := tq_ifn ep5 cc
    refine tq_iload_n (M := mX5_set) (pc := 4) dX5_set_4 rfl ?_
    refine tq_aload_n (M := mX5_set) (pc := 5) dX5_set_5 rfl ?_
    obtain ⟨k1, ek1, hf⟩ := tq_be hf
    refine tq_getR (M := mX5_set) (pc := 6) tk_c5 (by decide) dX5_set_6 tk_RX5_9 rfl ek1 ?_
    obtain ⟨x2, ex2, hf⟩ := tq_be hf
    refine tq_alenF (M := mX5_set) (pc := 9) dX5_set_9 ex2 ?_
    refine tq_icmp_ge (M := mX5_set) (pc := 10) (tgt := 20) dX5_set_10 (by decide) (fun cc => ?_) (fun cc => ?_)
    · have hf := tq_ifp hf cc
      refine tq_pick (L2 := []) [] rfl ?_
      cases (Option.some.inj hf)
      exact HJ1
    · have hf := tq_ifn hf cc
      refine tq_aload_n (M := mX5_set) (pc := 13) dX5_set_13 rfl ?_
      obtain ⟨k3, ek3, hf⟩ := tq_be hf
      refine tq_getR (M := mX5_set) (pc := 14) tk_c5 (by decide) dX5_set_14 tk_RX5_9 rfl ek3 ?_
      refine tq_iload_n (M := mX5_set) (pc := 17) dX5_set_17 rfl ?_
      refine tq_iload_n (M := mX5_set) (pc := 18) dX5_set_18 rfl ?_
      obtain ⟨w4, ew4, hf⟩ := tq_be hf
      refine tq_iastF (M := mX5_set) (pc := 19) dX5_set_19 ew4 ?_
      refine tq_pick (L2 := []) [] rfl ?_
      cases (Option.some.inj hf)
      exact HJ1
abbrev mX7_get : tq_M := (RX7, cX7_get, 2, (some .long), false, [], none)
def f_X7_get (t : Nat) (a1 : Int32) (h : tq_H) : Option (Int64) :=
  (if a1 < 0 then
    some (0 : Int64)
  else
    (tq_gr h t 7 0).bind fun k1 =>
    (tq_an h k1).bind fun x2 =>
    if a1 ≥ x2 then
      some (0 : Int64)
    else
      (tq_gr h t 7 0).bind fun k3 =>
      (tq_aj h k3 a1).bind fun x4 =>
      some x4).bind fun p5 =>
  some p5
set_option maxHeartbeats 4000000 in
set_option maxRecDepth 20000 in
theorem w_X7_get {l : Launch} {d : Nat} (hd9 : 0 ≤ d) {t : Nat} {a1 : Int32} {h : tq_H} {o : Int64} {Q : tq_R → tq_H → Prop} (hf : f_X7_get t a1 h = some o) (hQ : ∀ r h9, r = .inl (some (.long o)) ∧ h = h9 → Q r h9) : tq_C l yX7_get cX7_get 2 (some .long) d 0 0 [.ref t, .int a1] h Q := by
  refine tq_body (y := yX7_get) false (by decide +kernel) (fun z => by cases z) (Nat.le_of_ble_eq_true rfl) ?_
  show tq_W l mX7_get d 0 0 Q 0 [(0, .ref t), (1, .int a1)] [] h
  refine tq_iload_n (M := mX7_get) (pc := 0) dX7_get_0 rfl ?_
  obtain ⟨p5, ep5, hf⟩ := tq_be hf
  have HJ1 : tq_W l mX7_get d 0 0 Q 23 [] [.long p5] h := by
    refine tq_lret (M := mX7_get) (pc := 23) dX7_get_23 rfl ?_
    cases (Option.some.inj hf)
    exact hQ _ _ ⟨rfl, rfl⟩
  refine tq_if_lt (M := mX7_get) (pc := 1) (tgt := 22) dX7_get_1 (by decide) (fun cc => ?_) (fun cc => ?_)
  · have hf := tq_ifp ep5 cc
    refine tq_lconst (M := mX7_get) (pc := 22) dX7_get_22 tk_kl_0 ?_
    refine tq_pick (L2 := []) [] rfl ?_
    cases (Option.some.inj hf)
    exact HJ1
  · have hf := tq_ifn ep5 cc
    refine tq_iload_n (M := mX7_get) (pc := 4) dX7_get_4 rfl ?_
    refine tq_aload_n (M := mX7_get) (pc := 5) dX7_get_5 rfl ?_
    obtain ⟨k1, ek1, hf⟩ := tq_be hf
    refine tq_getR (M := mX7_get) (pc := 6) tk_c7 (by decide) dX7_get_6 tk_RX7_7 rfl ek1 ?_
    obtain ⟨x2, ex2, hf⟩ := tq_be hf
    refine tq_alenF (M := mX7_get) (pc := 9) dX7_get_9 ex2 ?_
    refine tq_icmp_ge (M := mX7_get) (pc := 10) (tgt := 22) dX7_get_10 (by decide) (fun cc => ?_) (fun cc => ?_)
    · have hf := tq_ifp hf cc
      refine tq_lconst (M := mX7_get) (pc := 22) dX7_get_22 tk_kl_0 ?_
      refine tq_pick (L2 := []) [] rfl ?_
      cases (Option.some.inj hf)
      exact HJ1
    · have hf := tq_ifn hf cc
      refine tq_aload_n (M := mX7_get) (pc := 13) dX7_get_13 rfl ?_
      obtain ⟨k3, ek3, hf⟩ := tq_be hf
      refine tq_getR (M := mX7_get) (pc := 14) tk_c7 (by decide) dX7_get_14 tk_RX7_7 rfl ek3 ?_
      refine tq_iload_n (M := mX7_get) (pc := 17) dX7_get_17 rfl ?_
      obtain ⟨x4, ex4, hf⟩ := tq_be hf
      refine tq_laldF (M := mX7_get) (pc := 18) dX7_get_18 ex4 ?_
      refine tq_goto (M := mX7_get) (pc := 19) (tgt := 23) dX7_get_19 (by decide) ?_
      refine tq_pick (L2 := []) [] rfl ?_
      cases (Option.some.inj hf)
      exact HJ1
abbrev mX7_init : tq_M := (RX7, cX7_init, 2, none, true, [], none)
def f_X7_init (t : Nat) (a1 : Int32) (h : tq_H) : Option (tq_H) :=
  tq_let (if a1 ≥ 0 then a1 else (0 : Int32)) fun p1 =>
  (tq_len p1).bind fun N9 =>
  tq_let (tq_new h (.inr (2, (N9, .inr (.inl (fun _ => 0)))))) fun w2 =>
  (tq_pf w2 t 7 0 (.ref h.1)).bind fun w3 =>
  some w3
set_option maxHeartbeats 4000000 in
set_option maxRecDepth 20000 in
theorem w_X7_init {l : Launch} {d : Nat} (hd9 : 1 ≤ d) {t : Nat} {a1 : Int32} {N : Nat} (hN1 : a1.toNatClampNeg = N) (hN2 : ¬ a1 < 0) (hN3 : N ≤ 10000) {h : tq_H} {o : tq_H} {Q : tq_R → tq_H → Prop} (hf : f_X7_init t a1 h = some o) (hQ : ∀ r h9, r = .inl none ∧ o = h9 → Q r h9) : tq_C l yX7_init cX7_init 2 none d 1 N [.ref t, .int a1] h Q := by
  refine tq_body (y := yX7_init) true (by decide +kernel) (fun _ => rfl) (Nat.le_of_ble_eq_true rfl) ?_
  show tq_W l mX7_init d 1 N Q 0 [(0, .ref t), (1, .int a1)] [] h
  refine tq_aload_n (M := mX7_init) (pc := 0) dX7_init_0 rfl ?_
  refine tq_objinit (M := mX7_init) (pc := 1) dX7_init_1 tk_RX7_1 tk_oi tk_oc (by omega) (Nat.le_of_ble_eq_true rfl) ?_
  refine tq_aload_n (M := mX7_init) (pc := 4) dX7_init_4 rfl ?_
  refine tq_iload_n (M := mX7_init) (pc := 5) dX7_init_5 rfl ?_
  obtain ⟨p1, ep1, hf⟩ := tq_le hf
  have HJ6 : tq_W l mX7_init d 1 N Q 14 [] [.int p1, .ref t] h := by
    obtain ⟨N9, eN, hf⟩ := tq_be hf
    obtain ⟨w2, ew2, hf⟩ := tq_le hf
    have e9 : N9 = N := by rw [← (tq_len_s eN).1, ep1, if_pos (Int32.not_lt.mp hN2), hN1]
    refine tq_newl (M := mX7_init) (pc := 14) dX7_init_14 tk_ac_long (N := N9) (tq_len_s eN).2.1 (tq_len_s eN).1 (by omega) (bc' := 0) (bs' := 0) rfl (by omega) ?_
    rw [← ew2]
    obtain ⟨w3, ew3, hf⟩ := tq_be hf
    refine tq_putv (M := mX7_init) (pc := 16) tk_c7 (by decide) dX7_init_16 tk_RX7_7 rfl (Or.inr ⟨rfl, rfl⟩) ew3 (tq_nA _ _) ?_
    refine tq_vret (M := mX7_init) (pc := 19) dX7_init_19 rfl ?_
    cases (Option.some.inj hf)
    exact hQ _ _ ⟨rfl, rfl⟩
  refine tq_if_ge (M := mX7_init) (pc := 6) (tgt := 13) dX7_init_6 (by decide) (fun cc => ?_) (fun cc => ?_)
  · have hf := tq_ifp ep1.symm cc
    refine tq_iload_n (M := mX7_init) (pc := 13) dX7_init_13 rfl ?_
    refine tq_pick (L2 := []) [] rfl ?_
    cases hf
    exact HJ6
  · have hf := tq_ifn ep1.symm cc
    refine tq_iconst (M := mX7_init) (pc := 9) dX7_init_9 tk_ki_0 ?_
    refine tq_goto (M := mX7_init) (pc := 10) (tgt := 14) dX7_init_10 (by decide) ?_
    refine tq_pick (L2 := []) [] rfl ?_
    cases hf
    exact HJ6
abbrev mX7_set : tq_M := (RX7, cX7_set, 4, none, false, [], none)
def f_X7_set (t : Nat) (a1 : Int32) (a2 : Int64) (h : tq_H) : Option (tq_H) :=
  (if a1 < 0 then
    some h
  else
    (tq_gr h t 7 0).bind fun k1 =>
    (tq_an h k1).bind fun x2 =>
    if a1 ≥ x2 then
      some h
    else
      (tq_gr h t 7 0).bind fun k3 =>
      (tq_sl h k3 a1 a2).bind fun w4 =>
      some w4).bind fun p5 =>
  some p5
set_option maxHeartbeats 4000000 in
set_option maxRecDepth 20000 in
theorem w_X7_set {l : Launch} {d : Nat} (hd9 : 0 ≤ d) {t : Nat} {a1 : Int32} {a2 : Int64} {h : tq_H} {o : tq_H} {Q : tq_R → tq_H → Prop} (hf : f_X7_set t a1 a2 h = some o) (hQ : ∀ r h9, r = .inl none ∧ o = h9 → Q r h9) : tq_C l yX7_set cX7_set 4 none d 0 0 [.ref t, .int a1, .long a2] h Q := by
  refine tq_body (y := yX7_set) false (by decide +kernel) (fun z => by cases z) (Nat.le_of_ble_eq_true rfl) ?_
  show tq_W l mX7_set d 0 0 Q 0 [(0, .ref t), (1, .int a1), (2, .long a2)] [] h
  refine tq_iload_n (M := mX7_set) (pc := 0) dX7_set_0 rfl ?_
  obtain ⟨p5, ep5, hf⟩ := tq_be hf
  have HJ1 : tq_W l mX7_set d 0 0 Q 20 [] [] p5 := by
    refine tq_vret (M := mX7_set) (pc := 20) dX7_set_20 rfl ?_
    cases (Option.some.inj hf)
    exact hQ _ _ ⟨rfl, rfl⟩
  refine tq_if_lt (M := mX7_set) (pc := 1) (tgt := 20) dX7_set_1 (by decide) (fun cc => ?_) (fun cc => ?_)
  · have hf := tq_ifp ep5 cc
    refine tq_pick (L2 := []) [] rfl ?_
    cases (Option.some.inj hf)
    exact HJ1
  · have hf := tq_ifn ep5 cc
    refine tq_iload_n (M := mX7_set) (pc := 4) dX7_set_4 rfl ?_
    refine tq_aload_n (M := mX7_set) (pc := 5) dX7_set_5 rfl ?_
    obtain ⟨k1, ek1, hf⟩ := tq_be hf
    refine tq_getR (M := mX7_set) (pc := 6) tk_c7 (by decide) dX7_set_6 tk_RX7_7 rfl ek1 ?_
    obtain ⟨x2, ex2, hf⟩ := tq_be hf
    refine tq_alenF (M := mX7_set) (pc := 9) dX7_set_9 ex2 ?_
    refine tq_icmp_ge (M := mX7_set) (pc := 10) (tgt := 20) dX7_set_10 (by decide) (fun cc => ?_) (fun cc => ?_)
    · have hf := tq_ifp hf cc
      refine tq_pick (L2 := []) [] rfl ?_
      cases (Option.some.inj hf)
      exact HJ1
    · have hf := tq_ifn hf cc
      refine tq_aload_n (M := mX7_set) (pc := 13) dX7_set_13 rfl ?_
      obtain ⟨k3, ek3, hf⟩ := tq_be hf
      refine tq_getR (M := mX7_set) (pc := 14) tk_c7 (by decide) dX7_set_14 tk_RX7_7 rfl ek3 ?_
      refine tq_iload_n (M := mX7_set) (pc := 17) dX7_set_17 rfl ?_
      refine tq_lload_n (M := mX7_set) (pc := 18) dX7_set_18 rfl ?_
      obtain ⟨w4, ew4, hf⟩ := tq_be hf
      refine tq_lastF (M := mX7_set) (pc := 19) dX7_set_19 ew4 ?_
      refine tq_pick (L2 := []) [] rfl ?_
      cases (Option.some.inj hf)
      exact HJ1
abbrev mX7_union : tq_M := (RX7, cX7_union, 10, (some .long), false, [], none)
def f_X7_union_b12 (i0 : Nat) (i1 : Int32) (hh : tq_H) (s : Int64 × Int64 × Int32) : Option ((Int64 × Int64 × Int32) ⊕ (Int64)) := match s with
  | (y4, y6, y8) =>
    if y8 ≤ 0 then
      some (.inr y4)
    else
      (f_X0_lowest y6 hh).bind fun v2 =>
      tq_let ((i1 + v2)) fun x3 =>
      (if x3 < 0 then
        some (0 : Int64)
      else
        (tq_gr hh i0 7 0).bind fun k4 =>
        (tq_an hh k4).bind fun x5 =>
        if x3 ≥ x5 then
          some (0 : Int64)
        else
          (tq_gr hh i0 7 0).bind fun k6 =>
          (tq_aj hh k6 x3).bind fun x7 =>
          some x7).bind fun p8 =>
      tq_let ((y4 ||| p8)) fun x9 =>
      tq_let ((y6 &&& (y6 - (1 : Int64)))) fun x10 =>
      tq_let (y8 + (-1 : Int32)) fun x11 =>
      some (.inl (x9, x10, x11))
def f_X7_union (t : Nat) (a1 : Int32) (a2 : Int64) (h : tq_H) : Option (Int64) :=
  (f_J13_bitCount_95d88 a2 h).bind fun v1 =>
  (tq_loop (f_X7_union_b12 t a1 h) tq_N ((0 : Int64), a2, v1)).bind fun o12 =>
  some o12
set_option maxHeartbeats 4000000 in
theorem l_X7_union_12 {l : Launch} {d : Nat} {Q : tq_R → tq_H → Prop} {bc bs : Nat} (hd9 : 2 ≤ d) (i0 : Nat) (i1 : Int32) (hh : tq_H) : ∀ (n : Nat) (y4 : Int64) (y6 : Int64) (y8 : Int32) (o : Int64), tq_loop (f_X7_union_b12 i0 i1 hh) n (y4, y6, y8) = some o → tq_W l mX7_union d bc bs Q 72 [(4, .long o)] [] hh → tq_W l mX7_union d bc bs Q 12 [(0, .ref i0), (1, .int i1), (4, .long y4), (6, .long y6), (8, .int y8)] [] hh := by
  intro n
  induction n with
  | zero => intro y4 y6 y8 o hl; cases hl
  | succ n ih =>
    intro y4 y6 y8 o hl hk
    obtain ⟨oo, hf, ho⟩ := tq_loop_s hl
    refine tq_iload (M := mX7_union) (pc := 12) dX7_union_12 rfl ?_
    refine tq_if_le (M := mX7_union) (pc := 14) (tgt := 72) dX7_union_14 (by decide) (fun cc => ?_) (fun cc => ?_)
    · have hf := tq_ifp hf cc
      refine tq_pick (L2 := [(4, .long y4)]) [2] rfl ?_
      cases (Option.some.inj hf)
      cases (tq_lx ho)
      exact hk
    · have hf := tq_ifn hf cc
      refine tq_iload_n (M := mX7_union) (pc := 17) dX7_union_17 rfl ?_
      refine tq_lload (M := mX7_union) (pc := 18) dX7_union_18 rfl ?_
      obtain ⟨v2, ev2, hf⟩ := tq_be hf
      refine tq_calS (M := mX7_union) (pc := 20) (S := [.int i1]) tk_y_X0_lowest tk_s_X0_lowest tk_RX7_31 dX7_union_20 [.long y6] rfl (Nat.le_of_ble_eq_true rfl) (d1 := d - 1) (b1 := 0) (s1 := 0) (bc' := bc) (bs' := bs) (Q1 := fun r h9 => r = .inl (some (.int v2)) ∧ hh = h9) (by omega) (by omega) (by omega) (w_X0_lowest (by omega) ev2 (fun _ _ q => q)) (fun E h9 q => nomatch (show (Sum.inr E : tq_R) = Sum.inl _ from q.1)) (fun r9 h9 q => ?_)
      obtain ⟨q1, rfl⟩ := q
      cases (show (Sum.inl r9 : tq_R) = Sum.inl (some (.int v2)) from q1)
      refine tq_iadd (M := mX7_union) (pc := 23) dX7_union_23 ?_
      obtain ⟨x3, ex3, hf⟩ := tq_le hf
      refine tq_istore (M := mX7_union) (pc := 24) dX7_union_24 (L2 := [(9, .int x3), (0, .ref i0), (1, .int i1), (4, .long y4), (6, .long y6), (8, .int y8)]) (by decide) (by rw [ex3]; rfl) ?_
      refine tq_lload (M := mX7_union) (pc := 26) dX7_union_26 rfl ?_
      refine tq_iload (M := mX7_union) (pc := 28) dX7_union_28 rfl ?_
      obtain ⟨p8, ep8, hf⟩ := tq_be hf
      have HJ30 : tq_W l mX7_union d bc bs Q 54 [(0, .ref i0), (1, .int i1), (6, .long y6), (8, .int y8)] [.long p8, .long y4] hh := by
        refine tq_lor (M := mX7_union) (pc := 54) dX7_union_54 ?_
        obtain ⟨x9, ex9, hf⟩ := tq_le hf
        refine tq_lstore (M := mX7_union) (pc := 55) dX7_union_55 (L2 := [(4, .long x9), (0, .ref i0), (1, .int i1), (6, .long y6), (8, .int y8)]) (by decide) (by rw [ex9]; rfl) ?_
        refine tq_lload (M := mX7_union) (pc := 57) dX7_union_57 rfl ?_
        refine tq_lload (M := mX7_union) (pc := 59) dX7_union_59 rfl ?_
        refine tq_lconst (M := mX7_union) (pc := 61) dX7_union_61 tk_kl_1 ?_
        refine tq_lsub (M := mX7_union) (pc := 62) dX7_union_62 ?_
        refine tq_land (M := mX7_union) (pc := 63) dX7_union_63 ?_
        obtain ⟨x10, ex10, hf⟩ := tq_le hf
        refine tq_lstore (M := mX7_union) (pc := 64) dX7_union_64 (L2 := [(6, .long x10), (4, .long x9), (0, .ref i0), (1, .int i1), (8, .int y8)]) (by decide) (by rw [ex10]; rfl) ?_
        obtain ⟨x11, ex11, hf⟩ := tq_le hf
        refine tq_iinc (M := mX7_union) (pc := 66) (v := x11) (L2 := [(8, .int x11), (6, .long x10), (4, .long x9), (0, .ref i0), (1, .int i1)]) dX7_union_66 rfl (by rw [ex11, tk_ki_m1]) (by decide) rfl ?_
        refine tq_goto (M := mX7_union) (pc := 69) (tgt := 12) dX7_union_69 (by decide) ?_
        refine tq_pick (L2 := [(0, .ref i0), (1, .int i1), (4, .long x9), (6, .long x10), (8, .int x11)]) [3, 4, 2, 1, 0] rfl ?_
        cases (Option.some.inj hf)
        exact ih _ _ _ o (tq_lc ho) hk
      refine tq_if_lt (M := mX7_union) (pc := 30) (tgt := 53) dX7_union_30 (by decide) (fun cc => ?_) (fun cc => ?_)
      · have hf := tq_ifp ep8 cc
        refine tq_lconst (M := mX7_union) (pc := 53) dX7_union_53 tk_kl_0 ?_
        refine tq_pick (L2 := [(0, .ref i0), (1, .int i1), (6, .long y6), (8, .int y8)]) [1, 2, 4, 5] rfl ?_
        cases (Option.some.inj hf)
        exact HJ30
      · have hf := tq_ifn ep8 cc
        refine tq_iload (M := mX7_union) (pc := 33) dX7_union_33 rfl ?_
        refine tq_aload_n (M := mX7_union) (pc := 35) dX7_union_35 rfl ?_
        obtain ⟨k4, ek4, hf⟩ := tq_be hf
        refine tq_getR (M := mX7_union) (pc := 36) tk_c7 (by decide) dX7_union_36 tk_RX7_7 rfl ek4 ?_
        obtain ⟨x5, ex5, hf⟩ := tq_be hf
        refine tq_alenF (M := mX7_union) (pc := 39) dX7_union_39 ex5 ?_
        refine tq_icmp_ge (M := mX7_union) (pc := 40) (tgt := 53) dX7_union_40 (by decide) (fun cc => ?_) (fun cc => ?_)
        · have hf := tq_ifp hf cc
          refine tq_lconst (M := mX7_union) (pc := 53) dX7_union_53 tk_kl_0 ?_
          refine tq_pick (L2 := [(0, .ref i0), (1, .int i1), (6, .long y6), (8, .int y8)]) [1, 2, 4, 5] rfl ?_
          cases (Option.some.inj hf)
          exact HJ30
        · have hf := tq_ifn hf cc
          refine tq_aload_n (M := mX7_union) (pc := 43) dX7_union_43 rfl ?_
          obtain ⟨k6, ek6, hf⟩ := tq_be hf
          refine tq_getR (M := mX7_union) (pc := 44) tk_c7 (by decide) dX7_union_44 tk_RX7_7 rfl ek6 ?_
          refine tq_iload (M := mX7_union) (pc := 47) dX7_union_47 rfl ?_
          obtain ⟨x7, ex7, hf⟩ := tq_be hf
          refine tq_laldF (M := mX7_union) (pc := 49) dX7_union_49 ex7 ?_
          refine tq_goto (M := mX7_union) (pc := 50) (tgt := 54) dX7_union_50 (by decide) ?_
          refine tq_pick (L2 := [(0, .ref i0), (1, .int i1), (6, .long y6), (8, .int y8)]) [1, 2, 4, 5] rfl ?_
          cases (Option.some.inj hf)
          exact HJ30
set_option maxHeartbeats 4000000 in
set_option maxRecDepth 20000 in
theorem w_X7_union {l : Launch} {d : Nat} (hd9 : 2 ≤ d) {t : Nat} {a1 : Int32} {a2 : Int64} {h : tq_H} {o : Int64} {Q : tq_R → tq_H → Prop} (hf : f_X7_union t a1 a2 h = some o) (hQ : ∀ r h9, r = .inl (some (.long o)) ∧ h = h9 → Q r h9) : tq_C l yX7_union cX7_union 10 (some .long) d 0 0 [.ref t, .int a1, .long a2] h Q := by
  refine tq_body (y := yX7_union) false (by decide +kernel) (fun z => by cases z) (Nat.le_of_ble_eq_true rfl) ?_
  show tq_W l mX7_union d 0 0 Q 0 [(0, .ref t), (1, .int a1), (2, .long a2)] [] h
  refine tq_lconst (M := mX7_union) (pc := 0) dX7_union_0 tk_kl_0 ?_
  refine tq_lstore (M := mX7_union) (pc := 1) dX7_union_1 (L2 := [(4, .long (0 : Int64)), (0, .ref t), (1, .int a1), (2, .long a2)]) (by decide) rfl ?_
  refine tq_lload_n (M := mX7_union) (pc := 3) dX7_union_3 rfl ?_
  refine tq_lstore (M := mX7_union) (pc := 4) dX7_union_4 (L2 := [(6, .long a2), (4, .long (0 : Int64)), (0, .ref t), (1, .int a1), (2, .long a2)]) (by decide) rfl ?_
  refine tq_lload_n (M := mX7_union) (pc := 6) dX7_union_6 rfl ?_
  obtain ⟨v1, ev1, hf⟩ := tq_be hf
  refine tq_calS (M := mX7_union) (pc := 7) (S := []) tk_y_J13_bitCount_95d88 tk_s_J13_bitCount_95d88 tk_RX7_25 dX7_union_7 [.long a2] rfl (Nat.le_of_ble_eq_true rfl) (d1 := d - 1) (b1 := 0) (s1 := 0) (bc' := 0) (bs' := 0) (Q1 := fun r h9 => r = .inl (some (.int v1)) ∧ h = h9) (by omega) rfl rfl (w_J13_bitCount_95d88 (by omega) ev1 (fun _ _ q => q)) (fun E h9 q => nomatch (show (Sum.inr E : tq_R) = Sum.inl _ from q.1)) (fun r9 h9 q => ?_)
  obtain ⟨q1, rfl⟩ := q
  cases (show (Sum.inl r9 : tq_R) = Sum.inl (some (.int v1)) from q1)
  refine tq_istore (M := mX7_union) (pc := 10) dX7_union_10 (L2 := [(8, .int v1), (6, .long a2), (4, .long (0 : Int64)), (0, .ref t), (1, .int a1), (2, .long a2)]) (by decide) rfl ?_
  obtain ⟨o12, eo12, hf⟩ := tq_be hf
  refine tq_pick (L2 := [(0, .ref t), (1, .int a1), (4, .long (0 : Int64)), (6, .long a2), (8, .int v1)]) [3, 4, 2, 1, 0] rfl ?_
  refine l_X7_union_12 (bc := 0) (bs := 0) (by omega) t a1 h _ (0 : Int64) a2 v1 _ eo12 ?_
  refine tq_lload (M := mX7_union) (pc := 72) dX7_union_72 rfl ?_
  refine tq_lret (M := mX7_union) (pc := 74) dX7_union_74 rfl ?_
  cases (Option.some.inj hf)
  exact hQ _ _ ⟨rfl, rfl⟩
abbrev mX5_setAll : tq_M := (RX5, cX5_setAll, 2, none, false, [], none)
def f_X5_setAll (t : Nat) (a1 : Int32) (h : tq_H) : Option (tq_H) :=
  (tq_gr h t 5 0).bind fun k1 =>
  (f_J7_fill_53178 k1 a1 h).bind fun v2 =>
  some v2
set_option maxHeartbeats 4000000 in
set_option maxRecDepth 20000 in
theorem w_X5_setAll {l : Launch} {d : Nat} (hd9 : 1 ≤ d) {t : Nat} {a1 : Int32} {h : tq_H} {o : tq_H} {Q : tq_R → tq_H → Prop} (hf : f_X5_setAll t a1 h = some o) (hQ : ∀ r h9, r = .inl none ∧ o = h9 → Q r h9) : tq_C l yX5_setAll cX5_setAll 2 none d 0 0 [.ref t, .int a1] h Q := by
  refine tq_body (y := yX5_setAll) false (by decide +kernel) (fun z => by cases z) (Nat.le_of_ble_eq_true rfl) ?_
  show tq_W l mX5_setAll d 0 0 Q 0 [(0, .ref t), (1, .int a1)] [] h
  refine tq_aload_n (M := mX5_setAll) (pc := 0) dX5_setAll_0 rfl ?_
  obtain ⟨k1, ek1, hf⟩ := tq_be hf
  refine tq_getR (M := mX5_setAll) (pc := 1) tk_c5 (by decide) dX5_setAll_1 tk_RX5_9 rfl ek1 ?_
  refine tq_iload_n (M := mX5_setAll) (pc := 4) dX5_setAll_4 rfl ?_
  obtain ⟨v2, ev2, hf⟩ := tq_be hf
  refine tq_calS (M := mX5_setAll) (pc := 5) (S := []) tk_y_J7_fill_53178 tk_s_J7_fill_53178 tk_RX5_15 dX5_setAll_5 [.ref k1, .int a1] rfl (Nat.le_of_ble_eq_true rfl) (d1 := d - 1) (b1 := 0) (s1 := 0) (bc' := 0) (bs' := 0) (Q1 := fun r h9 => r = .inl none ∧ v2 = h9) (by omega) rfl rfl (w_J7_fill_53178 (by omega) ev2 (fun _ _ q => q)) (fun E h9 q => nomatch (show (Sum.inr E : tq_R) = Sum.inl _ from q.1)) (fun r9 h9 q => ?_)
  obtain ⟨q1, rfl⟩ := q
  cases (show (Sum.inl r9 : tq_R) = Sum.inl (none) from q1)
  refine tq_vret (M := mX5_setAll) (pc := 8) dX5_setAll_8 rfl ?_
  cases (Option.some.inj hf)
  exact hQ _ _ ⟨rfl, rfl⟩
abbrev mJ7_fill_d0a16 : tq_M := (RJ7, cJ7_fill_d0a16, 5, none, false, [], none)
def f_J7_fill_d0a16_b6 (i0 : Nat) (i1 : Int64) (i4 : Int32) (s : Int32 × tq_H) : Option ((Int32 × tq_H) ⊕ (tq_H)) := match s with
  | (y3, hh) =>
    if y3 ≥ i4 then
      some (.inr hh)
    else
      (tq_sl hh i0 y3 i1).bind fun w2 =>
      tq_let (y3 + (1 : Int32)) fun x3 =>
      some (.inl (x3, w2))
def f_J7_fill_d0a16 (a0 : Nat) (a1 : Int64) (h : tq_H) : Option (tq_H) :=
  (tq_an h a0).bind fun x1 =>
  (tq_loop (f_J7_fill_d0a16_b6 a0 a1 x1) tq_N ((0 : Int32), h)).bind fun o4 =>
  some o4
set_option maxHeartbeats 4000000 in
theorem l_J7_fill_d0a16_6 {l : Launch} {d : Nat} {Q : tq_R → tq_H → Prop} {bc bs : Nat} (hd9 : 0 ≤ d) (i0 : Nat) (i1 : Int64) (i4 : Int32) : ∀ (n : Nat) (y3 : Int32) (hh : tq_H) (o : tq_H), tq_loop (f_J7_fill_d0a16_b6 i0 i1 i4) n (y3, hh) = some o → tq_W l mJ7_fill_d0a16 d bc bs Q 22 [] [] o → tq_W l mJ7_fill_d0a16 d bc bs Q 6 [(0, .ref i0), (1, .long i1), (3, .int y3), (4, .int i4)] [] hh := by
  intro n
  induction n with
  | zero => intro y3 hh o hl; cases hl
  | succ n ih =>
    intro y3 hh o hl hk
    obtain ⟨oo, hf, ho⟩ := tq_loop_s hl
    refine tq_iload_n (M := mJ7_fill_d0a16) (pc := 6) dJ7_fill_d0a16_6 rfl ?_
    refine tq_iload (M := mJ7_fill_d0a16) (pc := 7) dJ7_fill_d0a16_7 rfl ?_
    refine tq_icmp_ge (M := mJ7_fill_d0a16) (pc := 9) (tgt := 22) dJ7_fill_d0a16_9 (by decide) (fun cc => ?_) (fun cc => ?_)
    · have hf := tq_ifp hf cc
      refine tq_pick (L2 := []) [] rfl ?_
      cases (Option.some.inj hf)
      cases (tq_lx ho)
      exact hk
    · have hf := tq_ifn hf cc
      refine tq_aload_n (M := mJ7_fill_d0a16) (pc := 12) dJ7_fill_d0a16_12 rfl ?_
      refine tq_iload_n (M := mJ7_fill_d0a16) (pc := 13) dJ7_fill_d0a16_13 rfl ?_
      refine tq_lload_n (M := mJ7_fill_d0a16) (pc := 14) dJ7_fill_d0a16_14 rfl ?_
      obtain ⟨w2, ew2, hf⟩ := tq_be hf
      refine tq_lastF (M := mJ7_fill_d0a16) (pc := 15) dJ7_fill_d0a16_15 ew2 ?_
      obtain ⟨x3, ex3, hf⟩ := tq_le hf
      refine tq_iinc (M := mJ7_fill_d0a16) (pc := 16) (v := x3) (L2 := [(3, .int x3), (0, .ref i0), (1, .long i1), (4, .int i4)]) dJ7_fill_d0a16_16 rfl (by rw [ex3, tk_ki_1]) (by decide) rfl ?_
      refine tq_goto (M := mJ7_fill_d0a16) (pc := 19) (tgt := 6) dJ7_fill_d0a16_19 (by decide) ?_
      refine tq_pick (L2 := [(0, .ref i0), (1, .long i1), (3, .int x3), (4, .int i4)]) [1, 2, 0, 3] rfl ?_
      cases (Option.some.inj hf)
      exact ih _ _ o (tq_lc ho) hk
set_option maxHeartbeats 4000000 in
set_option maxRecDepth 20000 in
theorem w_J7_fill_d0a16 {l : Launch} {d : Nat} (hd9 : 0 ≤ d) {a0 : Nat} {a1 : Int64} {h : tq_H} {o : tq_H} {Q : tq_R → tq_H → Prop} (hf : f_J7_fill_d0a16 a0 a1 h = some o) (hQ : ∀ r h9, r = .inl none ∧ o = h9 → Q r h9) : tq_C l yJ7_fill_d0a16 cJ7_fill_d0a16 5 none d 0 0 [.ref a0, .long a1] h Q := by
  refine tq_body (y := yJ7_fill_d0a16) false (by decide +kernel) (fun z => by cases z) (Nat.le_of_ble_eq_true rfl) ?_
  show tq_W l mJ7_fill_d0a16 d 0 0 Q 0 [(0, .ref a0), (1, .long a1)] [] h
  refine tq_iconst (M := mJ7_fill_d0a16) (pc := 0) dJ7_fill_d0a16_0 tk_ki_0 ?_
  refine tq_istore_n (M := mJ7_fill_d0a16) (pc := 1) rfl dJ7_fill_d0a16_1 (L2 := [(3, .int (0 : Int32)), (0, .ref a0), (1, .long a1)]) (by decide) rfl ?_
  refine tq_aload_n (M := mJ7_fill_d0a16) (pc := 2) dJ7_fill_d0a16_2 rfl ?_
  obtain ⟨x1, ex1, hf⟩ := tq_be hf
  refine tq_alenF (M := mJ7_fill_d0a16) (pc := 3) dJ7_fill_d0a16_3 ex1 ?_
  refine tq_istore (M := mJ7_fill_d0a16) (pc := 4) dJ7_fill_d0a16_4 (L2 := [(4, .int x1), (3, .int (0 : Int32)), (0, .ref a0), (1, .long a1)]) (by decide) rfl ?_
  obtain ⟨o4, eo4, hf⟩ := tq_be hf
  refine tq_pick (L2 := [(0, .ref a0), (1, .long a1), (3, .int (0 : Int32)), (4, .int x1)]) [2, 3, 1, 0] rfl ?_
  refine l_J7_fill_d0a16_6 (bc := 0) (bs := 0) (by omega) a0 a1 x1 _ (0 : Int32) h _ eo4 ?_
  refine tq_vret (M := mJ7_fill_d0a16) (pc := 22) dJ7_fill_d0a16_22 rfl ?_
  cases (Option.some.inj hf)
  exact hQ _ _ ⟨rfl, rfl⟩
abbrev mX7_emptyAll : tq_M := (RX7, cX7_emptyAll, 1, none, false, [], none)
def f_X7_emptyAll (t : Nat) (h : tq_H) : Option (tq_H) :=
  (tq_gr h t 7 0).bind fun k1 =>
  (f_J7_fill_d0a16 k1 (0 : Int64) h).bind fun v2 =>
  some v2
set_option maxHeartbeats 4000000 in
set_option maxRecDepth 20000 in
theorem w_X7_emptyAll {l : Launch} {d : Nat} (hd9 : 1 ≤ d) {t : Nat} {h : tq_H} {o : tq_H} {Q : tq_R → tq_H → Prop} (hf : f_X7_emptyAll t h = some o) (hQ : ∀ r h9, r = .inl none ∧ o = h9 → Q r h9) : tq_C l yX7_emptyAll cX7_emptyAll 1 none d 0 0 [.ref t] h Q := by
  refine tq_body (y := yX7_emptyAll) false (by decide +kernel) (fun z => by cases z) (Nat.le_of_ble_eq_true rfl) ?_
  show tq_W l mX7_emptyAll d 0 0 Q 0 [(0, .ref t)] [] h
  refine tq_aload_n (M := mX7_emptyAll) (pc := 0) dX7_emptyAll_0 rfl ?_
  obtain ⟨k1, ek1, hf⟩ := tq_be hf
  refine tq_getR (M := mX7_emptyAll) (pc := 1) tk_c7 (by decide) dX7_emptyAll_1 tk_RX7_7 rfl ek1 ?_
  refine tq_lconst (M := mX7_emptyAll) (pc := 4) dX7_emptyAll_4 tk_kl_0 ?_
  obtain ⟨v2, ev2, hf⟩ := tq_be hf
  refine tq_calS (M := mX7_emptyAll) (pc := 5) (S := []) tk_y_J7_fill_d0a16 tk_s_J7_fill_d0a16 tk_RX7_19 dX7_emptyAll_5 [.ref k1, .long (0 : Int64)] rfl (Nat.le_of_ble_eq_true rfl) (d1 := d - 1) (b1 := 0) (s1 := 0) (bc' := 0) (bs' := 0) (Q1 := fun r h9 => r = .inl none ∧ v2 = h9) (by omega) rfl rfl (w_J7_fill_d0a16 (by omega) ev2 (fun _ _ q => q)) (fun E h9 q => nomatch (show (Sum.inr E : tq_R) = Sum.inl _ from q.1)) (fun r9 h9 q => ?_)
  obtain ⟨q1, rfl⟩ := q
  cases (show (Sum.inl r9 : tq_R) = Sum.inl (none) from q1)
  refine tq_vret (M := mX7_emptyAll) (pc := 8) dX7_emptyAll_8 rfl ?_
  cases (Option.some.inj hf)
  exact hQ _ _ ⟨rfl, rfl⟩
abbrev mX7_add : tq_M := (RX7, cX7_add, 3, none, false, [], none)
def f_X7_add (t : Nat) (a1 : Int32) (a2 : Int32) (h : tq_H) : Option (tq_H) :=
  (if a1 < 0 then
    some h
  else
    (tq_gr h t 7 0).bind fun k1 =>
    (tq_an h k1).bind fun x2 =>
    if a1 ≥ x2 then
      some h
    else
      (tq_gr h t 7 0).bind fun k3 =>
      (tq_aj h k3 a1).bind fun x4 =>
      (f_X0_one a2 h).bind fun v5 =>
      (tq_sl h k3 a1 (x4 ||| v5)).bind fun w6 =>
      some w6).bind fun p7 =>
  some p7
set_option maxHeartbeats 4000000 in
set_option maxRecDepth 20000 in
theorem w_X7_add {l : Launch} {d : Nat} (hd9 : 1 ≤ d) {t : Nat} {a1 : Int32} {a2 : Int32} {h : tq_H} {o : tq_H} {Q : tq_R → tq_H → Prop} (hf : f_X7_add t a1 a2 h = some o) (hQ : ∀ r h9, r = .inl none ∧ o = h9 → Q r h9) : tq_C l yX7_add cX7_add 3 none d 0 0 [.ref t, .int a1, .int a2] h Q := by
  refine tq_body (y := yX7_add) false (by decide +kernel) (fun z => by cases z) (Nat.le_of_ble_eq_true rfl) ?_
  show tq_W l mX7_add d 0 0 Q 0 [(0, .ref t), (1, .int a1), (2, .int a2)] [] h
  refine tq_iload_n (M := mX7_add) (pc := 0) dX7_add_0 rfl ?_
  obtain ⟨p7, ep7, hf⟩ := tq_be hf
  have HJ1 : tq_W l mX7_add d 0 0 Q 26 [] [] p7 := by
    refine tq_vret (M := mX7_add) (pc := 26) dX7_add_26 rfl ?_
    cases (Option.some.inj hf)
    exact hQ _ _ ⟨rfl, rfl⟩
  refine tq_if_lt (M := mX7_add) (pc := 1) (tgt := 26) dX7_add_1 (by decide) (fun cc => ?_) (fun cc => ?_)
  · have hf := tq_ifp ep7 cc
    refine tq_pick (L2 := []) [] rfl ?_
    cases (Option.some.inj hf)
    exact HJ1
  · have hf := tq_ifn ep7 cc
    refine tq_iload_n (M := mX7_add) (pc := 4) dX7_add_4 rfl ?_
    refine tq_aload_n (M := mX7_add) (pc := 5) dX7_add_5 rfl ?_
    obtain ⟨k1, ek1, hf⟩ := tq_be hf
    refine tq_getR (M := mX7_add) (pc := 6) tk_c7 (by decide) dX7_add_6 tk_RX7_7 rfl ek1 ?_
    obtain ⟨x2, ex2, hf⟩ := tq_be hf
    refine tq_alenF (M := mX7_add) (pc := 9) dX7_add_9 ex2 ?_
    refine tq_icmp_ge (M := mX7_add) (pc := 10) (tgt := 26) dX7_add_10 (by decide) (fun cc => ?_) (fun cc => ?_)
    · have hf := tq_ifp hf cc
      refine tq_pick (L2 := []) [] rfl ?_
      cases (Option.some.inj hf)
      exact HJ1
    · have hf := tq_ifn hf cc
      refine tq_aload_n (M := mX7_add) (pc := 13) dX7_add_13 rfl ?_
      obtain ⟨k3, ek3, hf⟩ := tq_be hf
      refine tq_getR (M := mX7_add) (pc := 14) tk_c7 (by decide) dX7_add_14 tk_RX7_7 rfl ek3 ?_
      refine tq_iload_n (M := mX7_add) (pc := 17) dX7_add_17 rfl ?_
      refine tq_dup2 (M := mX7_add) (pc := 18) dX7_add_18 rfl rfl ?_
      obtain ⟨x4, ex4, hf⟩ := tq_be hf
      refine tq_laldF (M := mX7_add) (pc := 19) dX7_add_19 ex4 ?_
      refine tq_iload_n (M := mX7_add) (pc := 20) dX7_add_20 rfl ?_
      obtain ⟨v5, ev5, hf⟩ := tq_be hf
      refine tq_calS (M := mX7_add) (pc := 21) (S := [.long x4, .int a1, .ref k3]) tk_y_X0_one tk_s_X0_one tk_RX7_13 dX7_add_21 [.int a2] rfl (Nat.le_of_ble_eq_true rfl) (d1 := d - 1) (b1 := 0) (s1 := 0) (bc' := 0) (bs' := 0) (Q1 := fun r h9 => r = .inl (some (.long v5)) ∧ h = h9) (by omega) rfl rfl (w_X0_one (by omega) ev5 (fun _ _ q => q)) (fun E h9 q => nomatch (show (Sum.inr E : tq_R) = Sum.inl _ from q.1)) (fun r9 h9 q => ?_)
      obtain ⟨q1, rfl⟩ := q
      cases (show (Sum.inl r9 : tq_R) = Sum.inl (some (.long v5)) from q1)
      refine tq_lor (M := mX7_add) (pc := 24) dX7_add_24 ?_
      obtain ⟨w6, ew6, hf⟩ := tq_be hf
      refine tq_lastF (M := mX7_add) (pc := 25) dX7_add_25 ew6 ?_
      refine tq_pick (L2 := []) [] rfl ?_
      cases (Option.some.inj hf)
      exact HJ1
abbrev mX5_copy : tq_M := (RX5, cX5_copy, 3, none, false, [], none)
def f_X5_copy (t : Nat) (a1 : Nat) (h : tq_H) : Option (tq_H) :=
  (tq_gr h t 5 0).bind fun k1 =>
  (tq_an h k1).bind fun x2 =>
  (tq_gr h a1 5 0).bind fun k3 =>
  (tq_an h k3).bind fun x4 =>
  tq_let ((if x4 < x2 then x4 else x2)) fun x5 =>
  (tq_gr h a1 5 0).bind fun k6 =>
  (tq_gr h t 5 0).bind fun k7 =>
  (tq_cp h k6 (0 : Int32) k7 (0 : Int32) x5).bind fun w8 =>
  some w8
set_option maxHeartbeats 4000000 in
set_option maxRecDepth 20000 in
theorem w_X5_copy {l : Launch} {d : Nat} (hd9 : 1 ≤ d) {t : Nat} {a1 : Nat} {h : tq_H} {o : tq_H} {Q : tq_R → tq_H → Prop} (hf : f_X5_copy t a1 h = some o) (hQ : ∀ r h9, r = .inl none ∧ o = h9 → Q r h9) : tq_C l yX5_copy cX5_copy 3 none d 0 0 [.ref t, .ref a1] h Q := by
  refine tq_body (y := yX5_copy) false (by decide +kernel) (fun z => by cases z) (Nat.le_of_ble_eq_true rfl) ?_
  show tq_W l mX5_copy d 0 0 Q 0 [(0, .ref t), (1, .ref a1)] [] h
  refine tq_aload_n (M := mX5_copy) (pc := 0) dX5_copy_0 rfl ?_
  obtain ⟨k1, ek1, hf⟩ := tq_be hf
  refine tq_getR (M := mX5_copy) (pc := 1) tk_c5 (by decide) dX5_copy_1 tk_RX5_9 rfl ek1 ?_
  obtain ⟨x2, ex2, hf⟩ := tq_be hf
  refine tq_alenF (M := mX5_copy) (pc := 4) dX5_copy_4 ex2 ?_
  refine tq_aload_n (M := mX5_copy) (pc := 5) dX5_copy_5 rfl ?_
  obtain ⟨k3, ek3, hf⟩ := tq_be hf
  refine tq_getR (M := mX5_copy) (pc := 6) tk_c5 (by decide) dX5_copy_6 tk_RX5_9 rfl ek3 ?_
  obtain ⟨x4, ex4, hf⟩ := tq_be hf
  refine tq_alenF (M := mX5_copy) (pc := 9) dX5_copy_9 ex4 ?_
  refine tq_mmin (M := mX5_copy) (pc := 10) 21 dX5_copy_10 tk_RX5_21 tk_min_s tk_math tk_min_c (by omega) (Nat.le_of_ble_eq_true rfl) ?_
  obtain ⟨x5, ex5, hf⟩ := tq_le hf
  refine tq_istore_n (M := mX5_copy) (pc := 13) rfl dX5_copy_13 (L2 := [(2, .int x5), (0, .ref t), (1, .ref a1)]) (by decide) (by rw [ex5]; rfl) ?_
  refine tq_aload_n (M := mX5_copy) (pc := 14) dX5_copy_14 rfl ?_
  obtain ⟨k6, ek6, hf⟩ := tq_be hf
  refine tq_getR (M := mX5_copy) (pc := 15) tk_c5 (by decide) dX5_copy_15 tk_RX5_9 rfl ek6 ?_
  refine tq_iconst (M := mX5_copy) (pc := 18) dX5_copy_18 tk_ki_0 ?_
  refine tq_aload_n (M := mX5_copy) (pc := 19) dX5_copy_19 rfl ?_
  obtain ⟨k7, ek7, hf⟩ := tq_be hf
  refine tq_getR (M := mX5_copy) (pc := 20) tk_c5 (by decide) dX5_copy_20 tk_RX5_9 rfl ek7 ?_
  refine tq_iconst (M := mX5_copy) (pc := 23) dX5_copy_23 tk_ki_0 ?_
  refine tq_iload_n (M := mX5_copy) (pc := 24) dX5_copy_24 rfl ?_
  obtain ⟨w8, ew8, hf⟩ := tq_be hf
  refine tq_copyF (M := mX5_copy) (pc := 25) 27 dX5_copy_25 tk_RX5_27 tk_an tk_as tk_ai ew8 (by omega) ?_
  refine tq_vret (M := mX5_copy) (pc := 28) dX5_copy_28 rfl ?_
  cases (Option.some.inj hf)
  exact hQ _ _ ⟨rfl, rfl⟩
abbrev mX5_union : tq_M := (RX5, cX5_union, 6, (some .int), false, [], none)
def f_X5_union_b5 (i0 : Nat) (i1 : Int32) (i2 : Int32) (hh : tq_H) (s : Int32 × Int32) : Option ((Int32 × Int32) ⊕ (Int32)) := match s with
  | (y3, y4) =>
    if y4 ≥ (8 : Int32) then
      some (.inr y3)
    else
      tq_let ((i1 + y4)) fun x1 =>
      (if ((i2 >>> (y4 &&& 31)) &&& (1 : Int32)) = 0 then
        some y3
      else
        if x1 < 0 then
          some y3
        else
          (tq_gr hh i0 5 0).bind fun k2 =>
          (tq_an hh k2).bind fun x3 =>
          if x1 ≥ x3 then
            some y3
          else
            (tq_gr hh i0 5 0).bind fun k4 =>
            (tq_ai hh k4 x1).bind fun x5 =>
            tq_let ((y3 ||| x5)) fun x6 =>
            some x6).bind fun p7 =>
      tq_let (y4 + (1 : Int32)) fun x8 =>
      some (.inl (p7, x8))
def f_X5_union (t : Nat) (a1 : Int32) (a2 : Int32) (h : tq_H) : Option (Int32) :=
  (tq_loop (f_X5_union_b5 t a1 a2 h) tq_N ((0 : Int32), (0 : Int32))).bind fun o9 =>
  some o9
set_option maxHeartbeats 4000000 in
theorem l_X5_union_5 {l : Launch} {d : Nat} {Q : tq_R → tq_H → Prop} {bc bs : Nat} (hd9 : 0 ≤ d) (i0 : Nat) (i1 : Int32) (i2 : Int32) (hh : tq_H) : ∀ (n : Nat) (y3 : Int32) (y4 : Int32) (o : Int32), tq_loop (f_X5_union_b5 i0 i1 i2 hh) n (y3, y4) = some o → tq_W l mX5_union d bc bs Q 58 [(3, .int o)] [] hh → tq_W l mX5_union d bc bs Q 5 [(0, .ref i0), (1, .int i1), (2, .int i2), (3, .int y3), (4, .int y4)] [] hh := by
  intro n
  induction n with
  | zero => intro y3 y4 o hl; cases hl
  | succ n ih =>
    intro y3 y4 o hl hk
    obtain ⟨oo, hf, ho⟩ := tq_loop_s hl
    refine tq_iload (M := mX5_union) (pc := 5) dX5_union_5 rfl ?_
    refine tq_bipush (M := mX5_union) (pc := 7) dX5_union_7 tk_kb_8 ?_
    refine tq_icmp_ge (M := mX5_union) (pc := 9) (tgt := 58) dX5_union_9 (by decide) (fun cc => ?_) (fun cc => ?_)
    · have hf := tq_ifp hf cc
      refine tq_pick (L2 := [(3, .int y3)]) [3] rfl ?_
      cases (Option.some.inj hf)
      cases (tq_lx ho)
      exact hk
    · have hf := tq_ifn hf cc
      refine tq_iload_n (M := mX5_union) (pc := 12) dX5_union_12 rfl ?_
      refine tq_iload (M := mX5_union) (pc := 13) dX5_union_13 rfl ?_
      refine tq_iadd (M := mX5_union) (pc := 15) dX5_union_15 ?_
      obtain ⟨x1, ex1, hf⟩ := tq_le hf
      refine tq_istore (M := mX5_union) (pc := 16) dX5_union_16 (L2 := [(5, .int x1), (0, .ref i0), (1, .int i1), (2, .int i2), (3, .int y3), (4, .int y4)]) (by decide) (by rw [ex1]; rfl) ?_
      refine tq_iload_n (M := mX5_union) (pc := 18) dX5_union_18 rfl ?_
      refine tq_iload (M := mX5_union) (pc := 19) dX5_union_19 rfl ?_
      refine tq_ishr (M := mX5_union) (pc := 21) dX5_union_21 ?_
      refine tq_iconst (M := mX5_union) (pc := 22) dX5_union_22 tk_ki_1 ?_
      refine tq_iand (M := mX5_union) (pc := 23) dX5_union_23 ?_
      obtain ⟨p7, ep7, hf⟩ := tq_be hf
      have HJ24 : tq_W l mX5_union d bc bs Q 52 [(0, .ref i0), (1, .int i1), (2, .int i2), (3, .int p7), (4, .int y4)] [] hh := by
        obtain ⟨x8, ex8, hf⟩ := tq_le hf
        refine tq_iinc (M := mX5_union) (pc := 52) (v := x8) (L2 := [(4, .int x8), (0, .ref i0), (1, .int i1), (2, .int i2), (3, .int p7)]) dX5_union_52 rfl (by rw [ex8, tk_ki_1]) (by decide) rfl ?_
        refine tq_goto (M := mX5_union) (pc := 55) (tgt := 5) dX5_union_55 (by decide) ?_
        refine tq_pick (L2 := [(0, .ref i0), (1, .int i1), (2, .int i2), (3, .int p7), (4, .int x8)]) [1, 2, 3, 4, 0] rfl ?_
        cases (Option.some.inj hf)
        exact ih _ _ o (tq_lc ho) hk
      refine tq_if_eq (M := mX5_union) (pc := 24) (tgt := 52) dX5_union_24 (by decide) (fun cc => ?_) (fun cc => ?_)
      · have hf := tq_ifp ep7 cc
        refine tq_pick (L2 := [(0, .ref i0), (1, .int i1), (2, .int i2), (3, .int y3), (4, .int y4)]) [1, 2, 3, 4, 5] rfl ?_
        cases (Option.some.inj hf)
        exact HJ24
      · have hf := tq_ifn ep7 cc
        refine tq_iload (M := mX5_union) (pc := 27) dX5_union_27 rfl ?_
        refine tq_if_lt (M := mX5_union) (pc := 29) (tgt := 52) dX5_union_29 (by decide) (fun cc => ?_) (fun cc => ?_)
        · have hf := tq_ifp hf cc
          refine tq_pick (L2 := [(0, .ref i0), (1, .int i1), (2, .int i2), (3, .int y3), (4, .int y4)]) [1, 2, 3, 4, 5] rfl ?_
          cases (Option.some.inj hf)
          exact HJ24
        · have hf := tq_ifn hf cc
          refine tq_iload (M := mX5_union) (pc := 32) dX5_union_32 rfl ?_
          refine tq_aload_n (M := mX5_union) (pc := 34) dX5_union_34 rfl ?_
          obtain ⟨k2, ek2, hf⟩ := tq_be hf
          refine tq_getR (M := mX5_union) (pc := 35) tk_c5 (by decide) dX5_union_35 tk_RX5_9 rfl ek2 ?_
          obtain ⟨x3, ex3, hf⟩ := tq_be hf
          refine tq_alenF (M := mX5_union) (pc := 38) dX5_union_38 ex3 ?_
          refine tq_icmp_ge (M := mX5_union) (pc := 39) (tgt := 52) dX5_union_39 (by decide) (fun cc => ?_) (fun cc => ?_)
          · have hf := tq_ifp hf cc
            refine tq_pick (L2 := [(0, .ref i0), (1, .int i1), (2, .int i2), (3, .int y3), (4, .int y4)]) [1, 2, 3, 4, 5] rfl ?_
            cases (Option.some.inj hf)
            exact HJ24
          · have hf := tq_ifn hf cc
            refine tq_iload_n (M := mX5_union) (pc := 42) dX5_union_42 rfl ?_
            refine tq_aload_n (M := mX5_union) (pc := 43) dX5_union_43 rfl ?_
            obtain ⟨k4, ek4, hf⟩ := tq_be hf
            refine tq_getR (M := mX5_union) (pc := 44) tk_c5 (by decide) dX5_union_44 tk_RX5_9 rfl ek4 ?_
            refine tq_iload (M := mX5_union) (pc := 47) dX5_union_47 rfl ?_
            obtain ⟨x5, ex5, hf⟩ := tq_be hf
            refine tq_ialdF (M := mX5_union) (pc := 49) dX5_union_49 ex5 ?_
            refine tq_ior (M := mX5_union) (pc := 50) dX5_union_50 ?_
            obtain ⟨x6, ex6, hf⟩ := tq_le hf
            refine tq_istore_n (M := mX5_union) (pc := 51) rfl dX5_union_51 (L2 := [(3, .int x6), (5, .int x1), (0, .ref i0), (1, .int i1), (2, .int i2), (4, .int y4)]) (by decide) (by rw [ex6]; rfl) ?_
            refine tq_pick (L2 := [(0, .ref i0), (1, .int i1), (2, .int i2), (3, .int x6), (4, .int y4)]) [2, 3, 4, 0, 5] rfl ?_
            cases (Option.some.inj hf)
            exact HJ24
set_option maxHeartbeats 4000000 in
set_option maxRecDepth 20000 in
theorem w_X5_union {l : Launch} {d : Nat} (hd9 : 0 ≤ d) {t : Nat} {a1 : Int32} {a2 : Int32} {h : tq_H} {o : Int32} {Q : tq_R → tq_H → Prop} (hf : f_X5_union t a1 a2 h = some o) (hQ : ∀ r h9, r = .inl (some (.int o)) ∧ h = h9 → Q r h9) : tq_C l yX5_union cX5_union 6 (some .int) d 0 0 [.ref t, .int a1, .int a2] h Q := by
  refine tq_body (y := yX5_union) false (by decide +kernel) (fun z => by cases z) (Nat.le_of_ble_eq_true rfl) ?_
  show tq_W l mX5_union d 0 0 Q 0 [(0, .ref t), (1, .int a1), (2, .int a2)] [] h
  refine tq_iconst (M := mX5_union) (pc := 0) dX5_union_0 tk_ki_0 ?_
  refine tq_istore_n (M := mX5_union) (pc := 1) rfl dX5_union_1 (L2 := [(3, .int (0 : Int32)), (0, .ref t), (1, .int a1), (2, .int a2)]) (by decide) rfl ?_
  refine tq_iconst (M := mX5_union) (pc := 2) dX5_union_2 tk_ki_0 ?_
  refine tq_istore (M := mX5_union) (pc := 3) dX5_union_3 (L2 := [(4, .int (0 : Int32)), (3, .int (0 : Int32)), (0, .ref t), (1, .int a1), (2, .int a2)]) (by decide) rfl ?_
  obtain ⟨o9, eo9, hf⟩ := tq_be hf
  refine tq_pick (L2 := [(0, .ref t), (1, .int a1), (2, .int a2), (3, .int (0 : Int32)), (4, .int (0 : Int32))]) [2, 3, 4, 1, 0] rfl ?_
  refine l_X5_union_5 (bc := 0) (bs := 0) (by omega) t a1 a2 h _ (0 : Int32) (0 : Int32) _ eo9 ?_
  refine tq_iload_n (M := mX5_union) (pc := 58) dX5_union_58 rfl ?_
  refine tq_iret (M := mX5_union) (pc := 59) dX5_union_59 rfl ?_
  cases (Option.some.inj hf)
  exact hQ _ _ ⟨rfl, rfl⟩
abbrev mX5_closure : tq_M := (RX5, cX5_closure, 5, (some .int), false, [], none)
def f_X5_closure_b10 (i0 : Nat) (i1 : Int32) (hh : tq_H) (s : Int32 × Int32) : Option ((Int32 × Int32) ⊕ (Int32)) := match s with
  | (y3, y4) =>
    if y4 ≥ (8 : Int32) then
      some (.inr y3)
    else
      (tq_is hh i0 5).bind fun _ =>
      (f_X5_union i0 i1 y3 hh).bind fun v3 =>
      tq_let ((y3 ||| v3)) fun x5 =>
      tq_let (y4 + (1 : Int32)) fun x6 =>
      some (.inl (x5, x6))
def f_X5_closure (t : Nat) (a1 : Int32) (a2 : Int32) (h : tq_H) : Option (Int32) :=
  (tq_is h t 5).bind fun _ =>
  (f_X5_union t a1 a2 h).bind fun v1 =>
  (tq_loop (f_X5_closure_b10 t a1 h) tq_N (v1, (0 : Int32))).bind fun o7 =>
  some o7
set_option maxHeartbeats 4000000 in
theorem l_X5_closure_10 {l : Launch} {d : Nat} {Q : tq_R → tq_H → Prop} {bc bs : Nat} (hd9 : 1 ≤ d) (i0 : Nat) (i1 : Int32) (hh : tq_H) : ∀ (n : Nat) (y3 : Int32) (y4 : Int32) (o : Int32), tq_loop (f_X5_closure_b10 i0 i1 hh) n (y3, y4) = some o → tq_W l mX5_closure d bc bs Q 32 [(3, .int o)] [] hh → tq_W l mX5_closure d bc bs Q 10 [(0, .ref i0), (1, .int i1), (3, .int y3), (4, .int y4)] [] hh := by
  intro n
  induction n with
  | zero => intro y3 y4 o hl; cases hl
  | succ n ih =>
    intro y3 y4 o hl hk
    obtain ⟨oo, hf, ho⟩ := tq_loop_s hl
    refine tq_iload (M := mX5_closure) (pc := 10) dX5_closure_10 rfl ?_
    refine tq_bipush (M := mX5_closure) (pc := 12) dX5_closure_12 tk_kb_8 ?_
    refine tq_icmp_ge (M := mX5_closure) (pc := 14) (tgt := 32) dX5_closure_14 (by decide) (fun cc => ?_) (fun cc => ?_)
    · have hf := tq_ifp hf cc
      refine tq_pick (L2 := [(3, .int y3)]) [2] rfl ?_
      cases (Option.some.inj hf)
      cases (tq_lx ho)
      exact hk
    · have hf := tq_ifn hf cc
      refine tq_iload_n (M := mX5_closure) (pc := 17) dX5_closure_17 rfl ?_
      refine tq_aload_n (M := mX5_closure) (pc := 18) dX5_closure_18 rfl ?_
      refine tq_iload_n (M := mX5_closure) (pc := 19) dX5_closure_19 rfl ?_
      refine tq_iload_n (M := mX5_closure) (pc := 20) dX5_closure_20 rfl ?_
      obtain ⟨⟨⟩, eu4, hf⟩ := tq_be hf
      obtain ⟨fsu4, eu4⟩ := tq_is_s eu4
      obtain ⟨v3, ev3, hf⟩ := tq_be hf
      refine tq_calV (M := mX5_closure) (pc := 21) (S := [.int y3]) tk_y_X5_union tk_v_X5_union tk_RX5_33 dX5_closure_21 [.int i1, .int y3] rfl (S0 := _) rfl eu4 rfl (Nat.le_of_ble_eq_true rfl) (d1 := d - 1) (b1 := 0) (s1 := 0) (bc' := bc) (bs' := bs) (Q1 := fun r h9 => r = .inl (some (.int v3)) ∧ hh = h9) (by omega) (by omega) (by omega) (w_X5_union (by omega) ev3 (fun _ _ q => q)) (fun E h9 q => nomatch (show (Sum.inr E : tq_R) = Sum.inl _ from q.1)) (fun r9 h9 q => ?_)
      obtain ⟨q1, rfl⟩ := q
      cases (show (Sum.inl r9 : tq_R) = Sum.inl (some (.int v3)) from q1)
      refine tq_ior (M := mX5_closure) (pc := 24) dX5_closure_24 ?_
      obtain ⟨x5, ex5, hf⟩ := tq_le hf
      refine tq_istore_n (M := mX5_closure) (pc := 25) rfl dX5_closure_25 (L2 := [(3, .int x5), (0, .ref i0), (1, .int i1), (4, .int y4)]) (by decide) (by rw [ex5]; rfl) ?_
      obtain ⟨x6, ex6, hf⟩ := tq_le hf
      refine tq_iinc (M := mX5_closure) (pc := 26) (v := x6) (L2 := [(4, .int x6), (3, .int x5), (0, .ref i0), (1, .int i1)]) dX5_closure_26 rfl (by rw [ex6, tk_ki_1]) (by decide) rfl ?_
      refine tq_goto (M := mX5_closure) (pc := 29) (tgt := 10) dX5_closure_29 (by decide) ?_
      refine tq_pick (L2 := [(0, .ref i0), (1, .int i1), (3, .int x5), (4, .int x6)]) [2, 3, 1, 0] rfl ?_
      cases (Option.some.inj hf)
      exact ih _ _ o (tq_lc ho) hk
set_option maxHeartbeats 4000000 in
set_option maxRecDepth 20000 in
theorem w_X5_closure {l : Launch} {d : Nat} (hd9 : 1 ≤ d) {t : Nat} {a1 : Int32} {a2 : Int32} {h : tq_H} {o : Int32} {Q : tq_R → tq_H → Prop} (hf : f_X5_closure t a1 a2 h = some o) (hQ : ∀ r h9, r = .inl (some (.int o)) ∧ h = h9 → Q r h9) : tq_C l yX5_closure cX5_closure 5 (some .int) d 0 0 [.ref t, .int a1, .int a2] h Q := by
  refine tq_body (y := yX5_closure) false (by decide +kernel) (fun z => by cases z) (Nat.le_of_ble_eq_true rfl) ?_
  show tq_W l mX5_closure d 0 0 Q 0 [(0, .ref t), (1, .int a1), (2, .int a2)] [] h
  refine tq_aload_n (M := mX5_closure) (pc := 0) dX5_closure_0 rfl ?_
  refine tq_iload_n (M := mX5_closure) (pc := 1) dX5_closure_1 rfl ?_
  refine tq_iload_n (M := mX5_closure) (pc := 2) dX5_closure_2 rfl ?_
  obtain ⟨⟨⟩, eu2, hf⟩ := tq_be hf
  obtain ⟨fsu2, eu2⟩ := tq_is_s eu2
  obtain ⟨v1, ev1, hf⟩ := tq_be hf
  refine tq_calV (M := mX5_closure) (pc := 3) (S := []) tk_y_X5_union tk_v_X5_union tk_RX5_33 dX5_closure_3 [.int a1, .int a2] rfl (S0 := _) rfl eu2 rfl (Nat.le_of_ble_eq_true rfl) (d1 := d - 1) (b1 := 0) (s1 := 0) (bc' := 0) (bs' := 0) (Q1 := fun r h9 => r = .inl (some (.int v1)) ∧ h = h9) (by omega) rfl rfl (w_X5_union (by omega) ev1 (fun _ _ q => q)) (fun E h9 q => nomatch (show (Sum.inr E : tq_R) = Sum.inl _ from q.1)) (fun r9 h9 q => ?_)
  obtain ⟨q1, rfl⟩ := q
  cases (show (Sum.inl r9 : tq_R) = Sum.inl (some (.int v1)) from q1)
  refine tq_istore_n (M := mX5_closure) (pc := 6) rfl dX5_closure_6 (L2 := [(3, .int v1), (0, .ref t), (1, .int a1), (2, .int a2)]) (by decide) rfl ?_
  refine tq_iconst (M := mX5_closure) (pc := 7) dX5_closure_7 tk_ki_0 ?_
  refine tq_istore (M := mX5_closure) (pc := 8) dX5_closure_8 (L2 := [(4, .int (0 : Int32)), (3, .int v1), (0, .ref t), (1, .int a1), (2, .int a2)]) (by decide) rfl ?_
  obtain ⟨o7, eo7, hf⟩ := tq_be hf
  refine tq_pick (L2 := [(0, .ref t), (1, .int a1), (3, .int v1), (4, .int (0 : Int32))]) [2, 3, 1, 0] rfl ?_
  refine l_X5_closure_10 (bc := 0) (bs := 0) (by omega) t a1 h _ v1 (0 : Int32) _ eo7 ?_
  refine tq_iload_n (M := mX5_closure) (pc := 32) dX5_closure_32 rfl ?_
  refine tq_iret (M := mX5_closure) (pc := 33) dX5_closure_33 rfl ?_
  cases (Option.some.inj hf)
  exact hQ _ _ ⟨rfl, rfl⟩
