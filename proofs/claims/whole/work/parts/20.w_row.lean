/-! ===== printed by wip/whole/tools: test ===== -/
abbrev cX0_one : ByteArray := prog_2_method_2_code
def yX0_one : MethodName := ⟨RX0, "one", "(I)J"⟩
theorem dX0_one_0 : decode cX0_one 0 = .ok (.iload_n 0, 1) := by decide +kernel
theorem dX0_one_1 : decode cX0_one 1 = .ok (.ifCond .lt 15, 3) := by decide +kernel
theorem dX0_one_4 : decode cX0_one 4 = .ok (.iload_n 0, 1) := by decide +kernel
theorem dX0_one_5 : decode cX0_one 5 = .ok (.bipush 64, 2) := by decide +kernel
theorem dX0_one_7 : decode cX0_one 7 = .ok (.if_icmp .ge 9, 3) := by decide +kernel
theorem dX0_one_10 : decode cX0_one 10 = .ok (.lconst 1, 1) := by decide +kernel
theorem dX0_one_11 : decode cX0_one 11 = .ok (.iload_n 0, 1) := by decide +kernel
theorem dX0_one_12 : decode cX0_one 12 = .ok (.lshl, 1) := by decide +kernel
theorem dX0_one_13 : decode cX0_one 13 = .ok (.goto 4, 3) := by decide +kernel
theorem dX0_one_16 : decode cX0_one 16 = .ok (.lconst 0, 1) := by decide +kernel
theorem dX0_one_17 : decode cX0_one 17 = .ok (.lreturn, 1) := by decide +kernel
abbrev cX0_below : ByteArray := prog_2_method_3_code
def yX0_below : MethodName := ⟨RX0, "below", "(I)J"⟩
theorem dX0_below_0 : decode cX0_below 0 = .ok (.iload_n 0, 1) := by decide +kernel
theorem dX0_below_1 : decode cX0_below 1 = .ok (.ifCond .gt 5, 3) := by decide +kernel
theorem dX0_below_4 : decode cX0_below 4 = .ok (.lconst 0, 1) := by decide +kernel
theorem dX0_below_5 : decode cX0_below 5 = .ok (.lreturn, 1) := by decide +kernel
theorem dX0_below_6 : decode cX0_below 6 = .ok (.iload_n 0, 1) := by decide +kernel
theorem dX0_below_7 : decode cX0_below 7 = .ok (.bipush 64, 2) := by decide +kernel
theorem dX0_below_9 : decode cX0_below 9 = .ok (.if_icmp .lt 9, 3) := by decide +kernel
theorem dX0_below_12 : decode cX0_below 12 = .ok (.ldc2_w 9, 3) := by decide +kernel
theorem dX0_below_15 : decode cX0_below 15 = .ok (.goto 8, 3) := by decide +kernel
theorem dX0_below_18 : decode cX0_below 18 = .ok (.lconst 1, 1) := by decide +kernel
theorem dX0_below_19 : decode cX0_below 19 = .ok (.iload_n 0, 1) := by decide +kernel
theorem dX0_below_20 : decode cX0_below 20 = .ok (.lshl, 1) := by decide +kernel
theorem dX0_below_21 : decode cX0_below 21 = .ok (.lconst 1, 1) := by decide +kernel
theorem dX0_below_22 : decode cX0_below 22 = .ok (.lsub, 1) := by decide +kernel
theorem dX0_below_23 : decode cX0_below 23 = .ok (.lreturn, 1) := by decide +kernel
abbrev cX0_holds : ByteArray := prog_2_method_4_code
def yX0_holds : MethodName := ⟨RX0, "holds", "(JI)Z"⟩
theorem dX0_holds_0 : decode cX0_holds 0 = .ok (.iload_n 2, 1) := by decide +kernel
theorem dX0_holds_1 : decode cX0_holds 1 = .ok (.ifCond .lt 23, 3) := by decide +kernel
theorem dX0_holds_4 : decode cX0_holds 4 = .ok (.iload_n 2, 1) := by decide +kernel
theorem dX0_holds_5 : decode cX0_holds 5 = .ok (.bipush 64, 2) := by decide +kernel
theorem dX0_holds_7 : decode cX0_holds 7 = .ok (.if_icmp .ge 17, 3) := by decide +kernel
theorem dX0_holds_10 : decode cX0_holds 10 = .ok (.lload_n 0, 1) := by decide +kernel
theorem dX0_holds_11 : decode cX0_holds 11 = .ok (.iload_n 2, 1) := by decide +kernel
theorem dX0_holds_12 : decode cX0_holds 12 = .ok (.lushr, 1) := by decide +kernel
theorem dX0_holds_13 : decode cX0_holds 13 = .ok (.lconst 1, 1) := by decide +kernel
theorem dX0_holds_14 : decode cX0_holds 14 = .ok (.land, 1) := by decide +kernel
theorem dX0_holds_15 : decode cX0_holds 15 = .ok (.lconst 0, 1) := by decide +kernel
theorem dX0_holds_16 : decode cX0_holds 16 = .ok (.lcmp, 1) := by decide +kernel
theorem dX0_holds_17 : decode cX0_holds 17 = .ok (.ifCond .eq 7, 3) := by decide +kernel
theorem dX0_holds_20 : decode cX0_holds 20 = .ok (.iconst 1, 1) := by decide +kernel
theorem dX0_holds_21 : decode cX0_holds 21 = .ok (.goto 4, 3) := by decide +kernel
theorem dX0_holds_24 : decode cX0_holds 24 = .ok (.iconst 0, 1) := by decide +kernel
theorem dX0_holds_25 : decode cX0_holds 25 = .ok (.ireturn, 1) := by decide +kernel
abbrev cX5_get : ByteArray := prog_7_method_2_code
def yX5_get : MethodName := ⟨RX5, "get", "(I)I"⟩
theorem dX5_get_0 : decode cX5_get 0 = .ok (.iload_n 1, 1) := by decide +kernel
theorem dX5_get_1 : decode cX5_get 1 = .ok (.ifCond .lt 21, 3) := by decide +kernel
theorem dX5_get_4 : decode cX5_get 4 = .ok (.iload_n 1, 1) := by decide +kernel
theorem dX5_get_5 : decode cX5_get 5 = .ok (.aload_n 0, 1) := by decide +kernel
theorem dX5_get_6 : decode cX5_get 6 = .ok (.getfield 9, 3) := by decide +kernel
theorem dX5_get_9 : decode cX5_get 9 = .ok (.arraylength, 1) := by decide +kernel
theorem dX5_get_10 : decode cX5_get 10 = .ok (.if_icmp .ge 12, 3) := by decide +kernel
theorem dX5_get_13 : decode cX5_get 13 = .ok (.aload_n 0, 1) := by decide +kernel
theorem dX5_get_14 : decode cX5_get 14 = .ok (.getfield 9, 3) := by decide +kernel
theorem dX5_get_17 : decode cX5_get 17 = .ok (.iload_n 1, 1) := by decide +kernel
theorem dX5_get_18 : decode cX5_get 18 = .ok (.iaload, 1) := by decide +kernel
theorem dX5_get_19 : decode cX5_get 19 = .ok (.goto 4, 3) := by decide +kernel
theorem dX5_get_22 : decode cX5_get 22 = .ok (.iconst (-1), 1) := by decide +kernel
theorem dX5_get_23 : decode cX5_get 23 = .ok (.ireturn, 1) := by decide +kernel
abbrev cX5_set : ByteArray := prog_7_method_3_code
def yX5_set : MethodName := ⟨RX5, "set", "(II)V"⟩
theorem dX5_set_0 : decode cX5_set 0 = .ok (.iload_n 1, 1) := by decide +kernel
theorem dX5_set_1 : decode cX5_set 1 = .ok (.ifCond .lt 19, 3) := by decide +kernel
theorem dX5_set_4 : decode cX5_set 4 = .ok (.iload_n 1, 1) := by decide +kernel
theorem dX5_set_5 : decode cX5_set 5 = .ok (.aload_n 0, 1) := by decide +kernel
theorem dX5_set_6 : decode cX5_set 6 = .ok (.getfield 9, 3) := by decide +kernel
theorem dX5_set_9 : decode cX5_set 9 = .ok (.arraylength, 1) := by decide +kernel
theorem dX5_set_10 : decode cX5_set 10 = .ok (.if_icmp .ge 10, 3) := by decide +kernel
theorem dX5_set_13 : decode cX5_set 13 = .ok (.aload_n 0, 1) := by decide +kernel
theorem dX5_set_14 : decode cX5_set 14 = .ok (.getfield 9, 3) := by decide +kernel
theorem dX5_set_17 : decode cX5_set 17 = .ok (.iload_n 1, 1) := by decide +kernel
theorem dX5_set_18 : decode cX5_set 18 = .ok (.iload_n 2, 1) := by decide +kernel
theorem dX5_set_19 : decode cX5_set 19 = .ok (.iastore, 1) := by decide +kernel
theorem dX5_set_20 : decode cX5_set 20 = .ok (.return_, 1) := by decide +kernel
abbrev cX7_get : ByteArray := prog_9_method_2_code
def yX7_get : MethodName := ⟨RX7, "get", "(I)J"⟩
theorem dX7_get_0 : decode cX7_get 0 = .ok (.iload_n 1, 1) := by decide +kernel
theorem dX7_get_1 : decode cX7_get 1 = .ok (.ifCond .lt 21, 3) := by decide +kernel
theorem dX7_get_4 : decode cX7_get 4 = .ok (.iload_n 1, 1) := by decide +kernel
theorem dX7_get_5 : decode cX7_get 5 = .ok (.aload_n 0, 1) := by decide +kernel
theorem dX7_get_6 : decode cX7_get 6 = .ok (.getfield 7, 3) := by decide +kernel
theorem dX7_get_9 : decode cX7_get 9 = .ok (.arraylength, 1) := by decide +kernel
theorem dX7_get_10 : decode cX7_get 10 = .ok (.if_icmp .ge 12, 3) := by decide +kernel
theorem dX7_get_13 : decode cX7_get 13 = .ok (.aload_n 0, 1) := by decide +kernel
theorem dX7_get_14 : decode cX7_get 14 = .ok (.getfield 7, 3) := by decide +kernel
theorem dX7_get_17 : decode cX7_get 17 = .ok (.iload_n 1, 1) := by decide +kernel
theorem dX7_get_18 : decode cX7_get 18 = .ok (.laload, 1) := by decide +kernel
theorem dX7_get_19 : decode cX7_get 19 = .ok (.goto 4, 3) := by decide +kernel
theorem dX7_get_22 : decode cX7_get 22 = .ok (.lconst 0, 1) := by decide +kernel
theorem dX7_get_23 : decode cX7_get 23 = .ok (.lreturn, 1) := by decide +kernel
abbrev cX7_set : ByteArray := prog_9_method_3_code
def yX7_set : MethodName := ⟨RX7, "set", "(IJ)V"⟩
theorem dX7_set_0 : decode cX7_set 0 = .ok (.iload_n 1, 1) := by decide +kernel
theorem dX7_set_1 : decode cX7_set 1 = .ok (.ifCond .lt 19, 3) := by decide +kernel
theorem dX7_set_4 : decode cX7_set 4 = .ok (.iload_n 1, 1) := by decide +kernel
theorem dX7_set_5 : decode cX7_set 5 = .ok (.aload_n 0, 1) := by decide +kernel
theorem dX7_set_6 : decode cX7_set 6 = .ok (.getfield 7, 3) := by decide +kernel
theorem dX7_set_9 : decode cX7_set 9 = .ok (.arraylength, 1) := by decide +kernel
theorem dX7_set_10 : decode cX7_set 10 = .ok (.if_icmp .ge 10, 3) := by decide +kernel
theorem dX7_set_13 : decode cX7_set 13 = .ok (.aload_n 0, 1) := by decide +kernel
theorem dX7_set_14 : decode cX7_set 14 = .ok (.getfield 7, 3) := by decide +kernel
theorem dX7_set_17 : decode cX7_set 17 = .ok (.iload_n 1, 1) := by decide +kernel
theorem dX7_set_18 : decode cX7_set 18 = .ok (.lload_n 2, 1) := by decide +kernel
theorem dX7_set_19 : decode cX7_set 19 = .ok (.lastore, 1) := by decide +kernel
theorem dX7_set_20 : decode cX7_set 20 = .ok (.return_, 1) := by decide +kernel
abbrev cX7_add : ByteArray := prog_9_method_4_code
def yX7_add : MethodName := ⟨RX7, "add", "(II)V"⟩
theorem dX7_add_0 : decode cX7_add 0 = .ok (.iload_n 1, 1) := by decide +kernel
theorem dX7_add_1 : decode cX7_add 1 = .ok (.ifCond .lt 25, 3) := by decide +kernel
theorem dX7_add_4 : decode cX7_add 4 = .ok (.iload_n 1, 1) := by decide +kernel
theorem dX7_add_5 : decode cX7_add 5 = .ok (.aload_n 0, 1) := by decide +kernel
theorem dX7_add_6 : decode cX7_add 6 = .ok (.getfield 7, 3) := by decide +kernel
theorem dX7_add_9 : decode cX7_add 9 = .ok (.arraylength, 1) := by decide +kernel
theorem dX7_add_10 : decode cX7_add 10 = .ok (.if_icmp .ge 16, 3) := by decide +kernel
theorem dX7_add_13 : decode cX7_add 13 = .ok (.aload_n 0, 1) := by decide +kernel
theorem dX7_add_14 : decode cX7_add 14 = .ok (.getfield 7, 3) := by decide +kernel
theorem dX7_add_17 : decode cX7_add 17 = .ok (.iload_n 1, 1) := by decide +kernel
theorem dX7_add_18 : decode cX7_add 18 = .ok (.dup2, 1) := by decide +kernel
theorem dX7_add_19 : decode cX7_add 19 = .ok (.laload, 1) := by decide +kernel
theorem dX7_add_20 : decode cX7_add 20 = .ok (.iload_n 2, 1) := by decide +kernel
theorem dX7_add_21 : decode cX7_add 21 = .ok (.invokestatic 13, 3) := by decide +kernel
theorem dX7_add_24 : decode cX7_add 24 = .ok (.lor, 1) := by decide +kernel
theorem dX7_add_25 : decode cX7_add 25 = .ok (.lastore, 1) := by decide +kernel
theorem dX7_add_26 : decode cX7_add 26 = .ok (.return_, 1) := by decide +kernel
abbrev cJ7_fill_53178 : ByteArray := prog_24_method_103_code
def yJ7_fill_53178 : MethodName := ⟨RJ7, "fill", "([II)V"⟩
theorem dJ7_fill_53178_0 : decode cJ7_fill_53178 0 = .ok (.iconst 0, 1) := by decide +kernel
theorem dJ7_fill_53178_1 : decode cJ7_fill_53178 1 = .ok (.istore_n 2, 1) := by decide +kernel
theorem dJ7_fill_53178_2 : decode cJ7_fill_53178 2 = .ok (.aload_n 0, 1) := by decide +kernel
theorem dJ7_fill_53178_3 : decode cJ7_fill_53178 3 = .ok (.arraylength, 1) := by decide +kernel
theorem dJ7_fill_53178_4 : decode cJ7_fill_53178 4 = .ok (.istore_n 3, 1) := by decide +kernel
theorem dJ7_fill_53178_5 : decode cJ7_fill_53178 5 = .ok (.iload_n 2, 1) := by decide +kernel
theorem dJ7_fill_53178_6 : decode cJ7_fill_53178 6 = .ok (.iload_n 3, 1) := by decide +kernel
theorem dJ7_fill_53178_7 : decode cJ7_fill_53178 7 = .ok (.if_icmp .ge 13, 3) := by decide +kernel
theorem dJ7_fill_53178_10 : decode cJ7_fill_53178 10 = .ok (.aload_n 0, 1) := by decide +kernel
theorem dJ7_fill_53178_11 : decode cJ7_fill_53178 11 = .ok (.iload_n 2, 1) := by decide +kernel
theorem dJ7_fill_53178_12 : decode cJ7_fill_53178 12 = .ok (.iload_n 1, 1) := by decide +kernel
theorem dJ7_fill_53178_13 : decode cJ7_fill_53178 13 = .ok (.iastore, 1) := by decide +kernel
theorem dJ7_fill_53178_14 : decode cJ7_fill_53178 14 = .ok (.iinc 2 1, 3) := by decide +kernel
theorem dJ7_fill_53178_17 : decode cJ7_fill_53178 17 = .ok (.goto (-12), 3) := by decide +kernel
theorem dJ7_fill_53178_20 : decode cJ7_fill_53178 20 = .ok (.return_, 1) := by decide +kernel
abbrev cJ7_fill_d0a16 : ByteArray := prog_24_method_101_code
def yJ7_fill_d0a16 : MethodName := ⟨RJ7, "fill", "([JJ)V"⟩
theorem dJ7_fill_d0a16_0 : decode cJ7_fill_d0a16 0 = .ok (.iconst 0, 1) := by decide +kernel
theorem dJ7_fill_d0a16_1 : decode cJ7_fill_d0a16 1 = .ok (.istore_n 3, 1) := by decide +kernel
theorem dJ7_fill_d0a16_2 : decode cJ7_fill_d0a16 2 = .ok (.aload_n 0, 1) := by decide +kernel
theorem dJ7_fill_d0a16_3 : decode cJ7_fill_d0a16 3 = .ok (.arraylength, 1) := by decide +kernel
theorem dJ7_fill_d0a16_4 : decode cJ7_fill_d0a16 4 = .ok (.istore 4, 2) := by decide +kernel
theorem dJ7_fill_d0a16_6 : decode cJ7_fill_d0a16 6 = .ok (.iload_n 3, 1) := by decide +kernel
theorem dJ7_fill_d0a16_7 : decode cJ7_fill_d0a16 7 = .ok (.iload 4, 2) := by decide +kernel
theorem dJ7_fill_d0a16_9 : decode cJ7_fill_d0a16 9 = .ok (.if_icmp .ge 13, 3) := by decide +kernel
theorem dJ7_fill_d0a16_12 : decode cJ7_fill_d0a16 12 = .ok (.aload_n 0, 1) := by decide +kernel
theorem dJ7_fill_d0a16_13 : decode cJ7_fill_d0a16 13 = .ok (.iload_n 3, 1) := by decide +kernel
theorem dJ7_fill_d0a16_14 : decode cJ7_fill_d0a16 14 = .ok (.lload_n 1, 1) := by decide +kernel
theorem dJ7_fill_d0a16_15 : decode cJ7_fill_d0a16 15 = .ok (.lastore, 1) := by decide +kernel
theorem dJ7_fill_d0a16_16 : decode cJ7_fill_d0a16 16 = .ok (.iinc 3 1, 3) := by decide +kernel
theorem dJ7_fill_d0a16_19 : decode cJ7_fill_d0a16 19 = .ok (.goto (-13), 3) := by decide +kernel
theorem dJ7_fill_d0a16_22 : decode cJ7_fill_d0a16 22 = .ok (.return_, 1) := by decide +kernel
abbrev cX5_setAll : ByteArray := prog_7_method_4_code
def yX5_setAll : MethodName := ⟨RX5, "setAll", "(I)V"⟩
theorem dX5_setAll_0 : decode cX5_setAll 0 = .ok (.aload_n 0, 1) := by decide +kernel
theorem dX5_setAll_1 : decode cX5_setAll 1 = .ok (.getfield 9, 3) := by decide +kernel
theorem dX5_setAll_4 : decode cX5_setAll 4 = .ok (.iload_n 1, 1) := by decide +kernel
theorem dX5_setAll_5 : decode cX5_setAll 5 = .ok (.invokestatic 15, 3) := by decide +kernel
theorem dX5_setAll_8 : decode cX5_setAll 8 = .ok (.return_, 1) := by decide +kernel
abbrev cX7_emptyAll : ByteArray := prog_9_method_5_code
def yX7_emptyAll : MethodName := ⟨RX7, "emptyAll", "()V"⟩
theorem dX7_emptyAll_0 : decode cX7_emptyAll 0 = .ok (.aload_n 0, 1) := by decide +kernel
theorem dX7_emptyAll_1 : decode cX7_emptyAll 1 = .ok (.getfield 7, 3) := by decide +kernel
theorem dX7_emptyAll_4 : decode cX7_emptyAll 4 = .ok (.lconst 0, 1) := by decide +kernel
theorem dX7_emptyAll_5 : decode cX7_emptyAll 5 = .ok (.invokestatic 19, 3) := by decide +kernel
theorem dX7_emptyAll_8 : decode cX7_emptyAll 8 = .ok (.return_, 1) := by decide +kernel
abbrev cX5_copy : ByteArray := prog_7_method_5_code
def yX5_copy : MethodName := ⟨RX5, "copy", "(LTreequery$Row;)V"⟩
theorem dX5_copy_0 : decode cX5_copy 0 = .ok (.aload_n 0, 1) := by decide +kernel
theorem dX5_copy_1 : decode cX5_copy 1 = .ok (.getfield 9, 3) := by decide +kernel
theorem dX5_copy_4 : decode cX5_copy 4 = .ok (.arraylength, 1) := by decide +kernel
theorem dX5_copy_5 : decode cX5_copy 5 = .ok (.aload_n 1, 1) := by decide +kernel
theorem dX5_copy_6 : decode cX5_copy 6 = .ok (.getfield 9, 3) := by decide +kernel
theorem dX5_copy_9 : decode cX5_copy 9 = .ok (.arraylength, 1) := by decide +kernel
theorem dX5_copy_10 : decode cX5_copy 10 = .ok (.invokestatic 21, 3) := by decide +kernel
theorem dX5_copy_13 : decode cX5_copy 13 = .ok (.istore_n 2, 1) := by decide +kernel
theorem dX5_copy_14 : decode cX5_copy 14 = .ok (.aload_n 1, 1) := by decide +kernel
theorem dX5_copy_15 : decode cX5_copy 15 = .ok (.getfield 9, 3) := by decide +kernel
theorem dX5_copy_18 : decode cX5_copy 18 = .ok (.iconst 0, 1) := by decide +kernel
theorem dX5_copy_19 : decode cX5_copy 19 = .ok (.aload_n 0, 1) := by decide +kernel
theorem dX5_copy_20 : decode cX5_copy 20 = .ok (.getfield 9, 3) := by decide +kernel
theorem dX5_copy_23 : decode cX5_copy 23 = .ok (.iconst 0, 1) := by decide +kernel
theorem dX5_copy_24 : decode cX5_copy 24 = .ok (.iload_n 2, 1) := by decide +kernel
theorem dX5_copy_25 : decode cX5_copy 25 = .ok (.invokestatic 27, 3) := by decide +kernel
theorem dX5_copy_28 : decode cX5_copy 28 = .ok (.return_, 1) := by decide +kernel
abbrev cX3_close : ByteArray := prog_5_method_4_code
def yX3_close : MethodName := ⟨RX3, "close", "()V"⟩
theorem dX3_close_0 : decode cX3_close 0 = .ok (.aload_n 0, 1) := by decide +kernel
theorem dX3_close_1 : decode cX3_close 1 = .ok (.getfield 60, 3) := by decide +kernel
theorem dX3_close_4 : decode cX3_close 4 = .ok (.iconst 1, 1) := by decide +kernel
theorem dX3_close_5 : decode cX3_close 5 = .ok (.isub, 1) := by decide +kernel
theorem dX3_close_6 : decode cX3_close 6 = .ok (.istore_n 1, 1) := by decide +kernel
theorem dX3_close_7 : decode cX3_close 7 = .ok (.iload_n 1, 1) := by decide +kernel
theorem dX3_close_8 : decode cX3_close 8 = .ok (.ifCond .lt 103, 3) := by decide +kernel
theorem dX3_close_11 : decode cX3_close 11 = .ok (.aload_n 0, 1) := by decide +kernel
theorem dX3_close_12 : decode cX3_close 12 = .ok (.getfield 23, 3) := by decide +kernel
theorem dX3_close_15 : decode cX3_close 15 = .ok (.iload_n 1, 1) := by decide +kernel
theorem dX3_close_16 : decode cX3_close 16 = .ok (.invokevirtual 88, 3) := by decide +kernel
theorem dX3_close_19 : decode cX3_close 19 = .ok (.istore_n 2, 1) := by decide +kernel
theorem dX3_close_20 : decode cX3_close 20 = .ok (.aload_n 0, 1) := by decide +kernel
theorem dX3_close_21 : decode cX3_close 21 = .ok (.getfield 26, 3) := by decide +kernel
theorem dX3_close_24 : decode cX3_close 24 = .ok (.iload_n 2, 1) := by decide +kernel
theorem dX3_close_25 : decode cX3_close 25 = .ok (.aload_n 0, 1) := by decide +kernel
theorem dX3_close_26 : decode cX3_close 26 = .ok (.getfield 26, 3) := by decide +kernel
theorem dX3_close_29 : decode cX3_close 29 = .ok (.iload_n 2, 1) := by decide +kernel
theorem dX3_close_30 : decode cX3_close 30 = .ok (.invokevirtual 88, 3) := by decide +kernel
theorem dX3_close_33 : decode cX3_close 33 = .ok (.aload_n 0, 1) := by decide +kernel
theorem dX3_close_34 : decode cX3_close 34 = .ok (.getfield 26, 3) := by decide +kernel
theorem dX3_close_37 : decode cX3_close 37 = .ok (.iload_n 1, 1) := by decide +kernel
theorem dX3_close_38 : decode cX3_close 38 = .ok (.invokevirtual 88, 3) := by decide +kernel
theorem dX3_close_41 : decode cX3_close 41 = .ok (.invokestatic 91, 3) := by decide +kernel
theorem dX3_close_44 : decode cX3_close 44 = .ok (.invokevirtual 70, 3) := by decide +kernel
theorem dX3_close_47 : decode cX3_close 47 = .ok (.aload_n 0, 1) := by decide +kernel
theorem dX3_close_48 : decode cX3_close 48 = .ok (.getfield 47, 3) := by decide +kernel
theorem dX3_close_51 : decode cX3_close 51 = .ok (.iload_n 1, 1) := by decide +kernel
theorem dX3_close_52 : decode cX3_close 52 = .ok (.aload_n 0, 1) := by decide +kernel
theorem dX3_close_53 : decode cX3_close 53 = .ok (.getfield 26, 3) := by decide +kernel
theorem dX3_close_56 : decode cX3_close 56 = .ok (.iload_n 1, 1) := by decide +kernel
theorem dX3_close_57 : decode cX3_close 57 = .ok (.invokevirtual 88, 3) := by decide +kernel
theorem dX3_close_60 : decode cX3_close 60 = .ok (.invokestatic 97, 3) := by decide +kernel
theorem dX3_close_63 : decode cX3_close 63 = .ok (.iload_n 1, 1) := by decide +kernel
theorem dX3_close_64 : decode cX3_close 64 = .ok (.iconst 1, 1) := by decide +kernel
theorem dX3_close_65 : decode cX3_close 65 = .ok (.iadd, 1) := by decide +kernel
theorem dX3_close_66 : decode cX3_close 66 = .ok (.invokestatic 97, 3) := by decide +kernel
theorem dX3_close_69 : decode cX3_close 69 = .ok (.ldc2_w 99, 3) := by decide +kernel
theorem dX3_close_72 : decode cX3_close 72 = .ok (.lxor, 1) := by decide +kernel
theorem dX3_close_73 : decode cX3_close 73 = .ok (.land, 1) := by decide +kernel
theorem dX3_close_74 : decode cX3_close 74 = .ok (.invokevirtual 85, 3) := by decide +kernel
theorem dX3_close_77 : decode cX3_close 77 = .ok (.aload_n 0, 1) := by decide +kernel
theorem dX3_close_78 : decode cX3_close 78 = .ok (.getfield 41, 3) := by decide +kernel
theorem dX3_close_81 : decode cX3_close 81 = .ok (.iload_n 1, 1) := by decide +kernel
theorem dX3_close_82 : decode cX3_close 82 = .ok (.aload_n 0, 1) := by decide +kernel
theorem dX3_close_83 : decode cX3_close 83 = .ok (.getfield 57, 3) := by decide +kernel
theorem dX3_close_86 : decode cX3_close 86 = .ok (.iload_n 1, 1) := by decide +kernel
theorem dX3_close_87 : decode cX3_close 87 = .ok (.invokestatic 101, 3) := by decide +kernel
theorem dX3_close_90 : decode cX3_close 90 = .ok (.ifCond .eq 7, 3) := by decide +kernel
theorem dX3_close_93 : decode cX3_close 93 = .ok (.lconst 0, 1) := by decide +kernel
theorem dX3_close_94 : decode cX3_close 94 = .ok (.goto 8, 3) := by decide +kernel
theorem dX3_close_97 : decode cX3_close 97 = .ok (.aload_n 0, 1) := by decide +kernel
theorem dX3_close_98 : decode cX3_close 98 = .ok (.iload_n 2, 1) := by decide +kernel
theorem dX3_close_99 : decode cX3_close 99 = .ok (.invokevirtual 105, 3) := by decide +kernel
theorem dX3_close_102 : decode cX3_close 102 = .ok (.invokevirtual 85, 3) := by decide +kernel
theorem dX3_close_105 : decode cX3_close 105 = .ok (.iinc 1 (-1), 3) := by decide +kernel
theorem dX3_close_108 : decode cX3_close 108 = .ok (.goto (-101), 3) := by decide +kernel
theorem dX3_close_111 : decode cX3_close 111 = .ok (.return_, 1) := by decide +kernel
theorem tk_kl_0 : Int64.ofNat ((0 : Fin 2) : Nat) = (0 : Int64) := by decide +kernel
theorem tk_kb_64 : (Int8.ofInt (64)).toInt32 = (64 : Int32) := by decide +kernel
theorem tk_kl_1 : Int64.ofNat ((1 : Fin 2) : Nat) = (1 : Int64) := by decide +kernel
theorem tk_RX0_9 : Cond.constantLong RX0 9 (-1) ∈ tq_G := tq_g (i := 513) (by decide +kernel) rfl
theorem tk_ki_0 : Int32.ofInt (0) = (0 : Int32) := by decide +kernel
theorem tk_ki_1 : Int32.ofInt (1) = (1 : Int32) := by decide +kernel
theorem tk_ki_m1 : Int32.ofInt (-1) = (-1 : Int32) := by decide +kernel
theorem tk_RX5_9 : Cond.fieldLink RX5 9 RX5 (TX5 0).2.1 (TX5 0).2.2.1 ∈ tq_G := tq_g (i := 171) (by decide +kernel) rfl
theorem tk_RX7_7 : Cond.fieldLink RX7 7 RX7 (TX7 0).2.1 (TX7 0).2.2.1 ∈ tq_G := tq_g (i := 182) (by decide +kernel) rfl
theorem tk_RX7_13 : Cond.methodLink RX7 13 yX0_one ∈ tq_G := tq_g (i := 487) (by decide +kernel) rfl
theorem tk_y_X0_one : tq_yok yX0_one cX0_one 1 (some .long) 1 := ⟨tq_g (i := 489) (by decide +kernel) rfl, tq_g (i := 130) (by decide +kernel) rfl, ⟨by decide +kernel, by decide +kernel⟩, by decide +kernel, by decide⟩
theorem tk_s_X0_one : Cond.static yX0_one ∈ tq_G := tq_g (i := 488) (by decide +kernel) rfl
theorem tk_RX5_15 : Cond.methodLink RX5 15 yJ7_fill_53178 ∈ tq_G := tq_g (i := 168) (by decide +kernel) rfl
theorem tk_y_J7_fill_53178 : tq_yok yJ7_fill_53178 cJ7_fill_53178 4 none 2 := ⟨tq_g (i := 170) (by decide +kernel) rfl, tq_g (i := 124) (by decide +kernel) rfl, ⟨by decide +kernel, by decide +kernel⟩, by decide +kernel, by decide⟩
theorem tk_s_J7_fill_53178 : Cond.static yJ7_fill_53178 ∈ tq_G := tq_g (i := 169) (by decide +kernel) rfl
theorem tk_RX7_19 : Cond.methodLink RX7 19 yJ7_fill_d0a16 ∈ tq_G := tq_g (i := 466) (by decide +kernel) rfl
theorem tk_y_J7_fill_d0a16 : tq_yok yJ7_fill_d0a16 cJ7_fill_d0a16 5 none 2 := ⟨tq_g (i := 468) (by decide +kernel) rfl, tq_g (i := 124) (by decide +kernel) rfl, ⟨by decide +kernel, by decide +kernel⟩, by decide +kernel, by decide⟩
theorem tk_s_J7_fill_d0a16 : Cond.static yJ7_fill_d0a16 ∈ tq_G := tq_g (i := 467) (by decide +kernel) rfl
theorem tk_RX5_21 : Cond.methodLink RX5 21 Lib.Math.min.name ∈ tq_G := tq_g (i := 980) (by decide +kernel) rfl
theorem tk_RX5_27 : Cond.methodLink RX5 27 arraycopyName ∈ tq_G := tq_g (i := 983) (by decide +kernel) rfl
theorem tk_an : Cond.native arraycopyName ∈ tq_G := tq_g (i := 985) (by decide +kernel) rfl
theorem tk_as : Cond.static arraycopyName ∈ tq_G := tq_g (i := 984) (by decide +kernel) rfl
theorem tk_ai : Cond.initialized "java/lang/System" ∈ tq_G := tq_g (i := 140) (by decide +kernel) rfl
theorem tk_RX3_60 : Cond.fieldLink RX3 60 RX3 (TX3 12).2.1 (TX3 12).2.2.1 ∈ tq_G := tq_g (i := 199) (by decide +kernel) rfl
theorem tk_RX3_23 : Cond.fieldLink RX3 23 RX3 (TX3 2).2.1 (TX3 2).2.2.1 ∈ tq_G := tq_g (i := 189) (by decide +kernel) rfl
theorem tk_RX3_88 : Cond.methodLink RX3 88 yX5_get ∈ tq_G := tq_g (i := 477) (by decide +kernel) rfl
theorem tk_RX3_26 : Cond.fieldLink RX3 26 RX3 (TX3 3).2.1 (TX3 3).2.2.1 ∈ tq_G := tq_g (i := 190) (by decide +kernel) rfl
theorem tk_RX3_91 : Cond.methodLink RX3 91 Lib.Math.max.name ∈ tq_G := tq_g (i := 507) (by decide +kernel) rfl
theorem tk_RX3_70 : Cond.methodLink RX3 70 yX5_set ∈ tq_G := tq_g (i := 482) (by decide +kernel) rfl
theorem tk_RX3_47 : Cond.fieldLink RX3 47 RX3 (TX3 8).2.1 (TX3 8).2.2.1 ∈ tq_G := tq_g (i := 195) (by decide +kernel) rfl
theorem tk_RX3_97 : Cond.methodLink RX3 97 yX0_below ∈ tq_G := tq_g (i := 510) (by decide +kernel) rfl
theorem tk_RX3_99 : Cond.constantLong RX3 99 (-1) ∈ tq_G := tq_g (i := 514) (by decide +kernel) rfl
theorem tk_RX3_85 : Cond.methodLink RX3 85 yX7_set ∈ tq_G := tq_g (i := 495) (by decide +kernel) rfl
theorem tk_RX3_41 : Cond.fieldLink RX3 41 RX3 (TX3 6).2.1 (TX3 6).2.2.1 ∈ tq_G := tq_g (i := 193) (by decide +kernel) rfl
theorem tk_RX3_57 : Cond.fieldLink RX3 57 RX3 (TX3 11).2.1 (TX3 11).2.2.1 ∈ tq_G := tq_g (i := 198) (by decide +kernel) rfl
theorem tk_RX3_101 : Cond.methodLink RX3 101 yX0_holds ∈ tq_G := tq_g (i := 515) (by decide +kernel) rfl
theorem tk_RX3_105 : Cond.methodLink RX3 105 yX3_children ∈ tq_G := tq_g (i := 518) (by decide +kernel) rfl
theorem tk_y_X3_children : tq_yok yX3_children cX3_children 2 (some .long) 1 := ⟨tq_g (i := 521) (by decide +kernel) rfl, tq_g (i := 122) (by decide +kernel) rfl, ⟨by decide +kernel, by decide +kernel⟩, by decide +kernel, by decide⟩
theorem tk_v_X3_children : tq_vok yX3_children := ⟨tq_g (i := 519) (by decide +kernel) rfl, tq_g (i := 520) (by decide +kernel) rfl⟩
theorem tk_y_X7_set : tq_yok yX7_set cX7_set 4 none 2 := ⟨tq_g (i := 498) (by decide +kernel) rfl, tq_g (i := 125) (by decide +kernel) rfl, ⟨by decide +kernel, by decide +kernel⟩, by decide +kernel, by decide⟩
theorem tk_v_X7_set : tq_vok yX7_set := ⟨tq_g (i := 496) (by decide +kernel) rfl, tq_g (i := 497) (by decide +kernel) rfl⟩
theorem tk_y_X0_holds : tq_yok yX0_holds cX0_holds 3 (some .boolean) 2 := ⟨tq_g (i := 517) (by decide +kernel) rfl, tq_g (i := 130) (by decide +kernel) rfl, ⟨by decide +kernel, by decide +kernel⟩, by decide +kernel, by decide⟩
theorem tk_s_X0_holds : Cond.static yX0_holds ∈ tq_G := tq_g (i := 516) (by decide +kernel) rfl
theorem tk_y_X0_below : tq_yok yX0_below cX0_below 1 (some .long) 1 := ⟨tq_g (i := 512) (by decide +kernel) rfl, tq_g (i := 130) (by decide +kernel) rfl, ⟨by decide +kernel, by decide +kernel⟩, by decide +kernel, by decide⟩
theorem tk_s_X0_below : Cond.static yX0_below ∈ tq_G := tq_g (i := 511) (by decide +kernel) rfl
theorem tk_y_X5_get : tq_yok yX5_get cX5_get 2 (some .int) 1 := ⟨tq_g (i := 472) (by decide +kernel) rfl, tq_g (i := 123) (by decide +kernel) rfl, ⟨by decide +kernel, by decide +kernel⟩, by decide +kernel, by decide⟩
theorem tk_v_X5_get : tq_vok yX5_get := ⟨tq_g (i := 470) (by decide +kernel) rfl, tq_g (i := 471) (by decide +kernel) rfl⟩
theorem tk_y_X5_set : tq_yok yX5_set cX5_set 3 none 2 := ⟨tq_g (i := 449) (by decide +kernel) rfl, tq_g (i := 123) (by decide +kernel) rfl, ⟨by decide +kernel, by decide +kernel⟩, by decide +kernel, by decide⟩
theorem tk_v_X5_set : tq_vok yX5_set := ⟨tq_g (i := 447) (by decide +kernel) rfl, tq_g (i := 448) (by decide +kernel) rfl⟩
abbrev mX0_one : tq_M := (RX0, cX0_one, 1, (some .long), false, [])
def f_X0_one (a0 : Int32) (h : tq_H) : Option (Int64) :=
  tq_let (if a0 < 0 then (0 : Int64) else (if a0 ≥ (64 : Int32) then (0 : Int64) else ((1 : Int64) <<< (a0.toInt64 &&& 63)))) fun p1 =>
  some p1
set_option maxHeartbeats 4000000 in
set_option maxRecDepth 20000 in
theorem w_X0_one {l : Launch} {d : Nat} (hd9 : 0 ≤ d) {a0 : Int32} {h : tq_H} {o : Int64} {Q : tq_R → tq_H → Prop} (hf : f_X0_one a0 h = some o) (hQ : ∀ r h9, r = .inl (some (.long o)) ∧ h = h9 → Q r h9) : tq_C l yX0_one cX0_one 1 (some .long) d 0 0 [.int a0] h Q := by
  refine tq_body (y := yX0_one) false (by decide +kernel) (fun z => by cases z) (Nat.le_of_ble_eq_true rfl) ?_
  show tq_W l mX0_one d 0 0 Q 0 [(0, .int a0)] [] h
  refine tq_iload_n (M := mX0_one) (pc := 0) dX0_one_0 rfl ?_
  obtain ⟨p1, ep1, hf⟩ := tq_le hf
  have HJ1 : tq_W l mX0_one d 0 0 Q 17 [] [.long p1] h := by
    refine tq_lret (M := mX0_one) (pc := 17) dX0_one_17 rfl ?_
    cases (Option.some.inj hf)
    exact hQ _ _ ⟨rfl, rfl⟩
  refine tq_if_lt (M := mX0_one) (pc := 1) (tgt := 16) dX0_one_1 (by decide) (fun cc => ?_) (fun cc => ?_)
  · have hf := tq_ifp ep1.symm cc
    refine tq_lconst (M := mX0_one) (pc := 16) dX0_one_16 tk_kl_0 ?_
    cases hf
    refine tq_pick (L2 := []) [] rfl ?_
    exact HJ1
  · have hf := tq_ifn ep1.symm cc
    refine tq_iload_n (M := mX0_one) (pc := 4) dX0_one_4 rfl ?_
    refine tq_bipush (M := mX0_one) (pc := 5) dX0_one_5 tk_kb_64 ?_
    refine tq_icmp_ge (M := mX0_one) (pc := 7) (tgt := 16) dX0_one_7 (by decide) (fun cc => ?_) (fun cc => ?_)
    · have hf := tq_ifp hf cc
      refine tq_lconst (M := mX0_one) (pc := 16) dX0_one_16 tk_kl_0 ?_
      cases hf
      refine tq_pick (L2 := []) [] rfl ?_
      exact HJ1
    · have hf := tq_ifn hf cc
      refine tq_lconst (M := mX0_one) (pc := 10) dX0_one_10 tk_kl_1 ?_
      refine tq_iload_n (M := mX0_one) (pc := 11) dX0_one_11 rfl ?_
      refine tq_lshl (M := mX0_one) (pc := 12) dX0_one_12 ?_
      refine tq_goto (M := mX0_one) (pc := 13) (tgt := 17) dX0_one_13 (by decide) ?_
      cases hf
      refine tq_pick (L2 := []) [] rfl ?_
      exact HJ1
abbrev mX0_below : tq_M := (RX0, cX0_below, 1, (some .long), false, [])
def f_X0_below (a0 : Int32) (h : tq_H) : Option (Int64) :=
  if a0 > 0 then
    tq_let (if a0 < (64 : Int32) then (((1 : Int64) <<< (a0.toInt64 &&& 63)) - (1 : Int64)) else (-1 : Int64)) fun p1 =>
    some p1
  else
    some (0 : Int64)
set_option maxHeartbeats 4000000 in
set_option maxRecDepth 20000 in
theorem w_X0_below {l : Launch} {d : Nat} (hd9 : 0 ≤ d) {a0 : Int32} {h : tq_H} {o : Int64} {Q : tq_R → tq_H → Prop} (hf : f_X0_below a0 h = some o) (hQ : ∀ r h9, r = .inl (some (.long o)) ∧ h = h9 → Q r h9) : tq_C l yX0_below cX0_below 1 (some .long) d 0 0 [.int a0] h Q := by
  refine tq_body (y := yX0_below) false (by decide +kernel) (fun z => by cases z) (Nat.le_of_ble_eq_true rfl) ?_
  show tq_W l mX0_below d 0 0 Q 0 [(0, .int a0)] [] h
  refine tq_iload_n (M := mX0_below) (pc := 0) dX0_below_0 rfl ?_
  refine tq_if_gt (M := mX0_below) (pc := 1) (tgt := 6) dX0_below_1 (by decide) (fun cc => ?_) (fun cc => ?_)
  · have hf := tq_ifp hf cc
    refine tq_iload_n (M := mX0_below) (pc := 6) dX0_below_6 rfl ?_
    refine tq_bipush (M := mX0_below) (pc := 7) dX0_below_7 tk_kb_64 ?_
    obtain ⟨p1, ep1, hf⟩ := tq_le hf
    have HJ9 : tq_W l mX0_below d 0 0 Q 23 [] [.long p1] h := by
      refine tq_lret (M := mX0_below) (pc := 23) dX0_below_23 rfl ?_
      cases (Option.some.inj hf)
      exact hQ _ _ ⟨rfl, rfl⟩
    refine tq_icmp_lt (M := mX0_below) (pc := 9) (tgt := 18) dX0_below_9 (by decide) (fun cc => ?_) (fun cc => ?_)
    · have hf := tq_ifp ep1.symm cc
      refine tq_lconst (M := mX0_below) (pc := 18) dX0_below_18 tk_kl_1 ?_
      refine tq_iload_n (M := mX0_below) (pc := 19) dX0_below_19 rfl ?_
      refine tq_lshl (M := mX0_below) (pc := 20) dX0_below_20 ?_
      refine tq_lconst (M := mX0_below) (pc := 21) dX0_below_21 tk_kl_1 ?_
      refine tq_lsub (M := mX0_below) (pc := 22) dX0_below_22 ?_
      cases hf
      refine tq_pick (L2 := []) [] rfl ?_
      exact HJ9
    · have hf := tq_ifn ep1.symm cc
      refine tq_ldc2 (M := mX0_below) (pc := 12) dX0_below_12 tk_RX0_9 ?_
      refine tq_goto (M := mX0_below) (pc := 15) (tgt := 23) dX0_below_15 (by decide) ?_
      cases hf
      refine tq_pick (L2 := []) [] rfl ?_
      exact HJ9
  · have hf := tq_ifn hf cc
    refine tq_lconst (M := mX0_below) (pc := 4) dX0_below_4 tk_kl_0 ?_
    refine tq_lret (M := mX0_below) (pc := 5) dX0_below_5 rfl ?_
    cases (Option.some.inj hf)
    exact hQ _ _ ⟨rfl, rfl⟩
abbrev mX0_holds : tq_M := (RX0, cX0_holds, 3, (some .boolean), false, [])
def f_X0_holds (a0 : Int64) (a2 : Int32) (h : tq_H) : Option (Int32) :=
  tq_let (if a2 < 0 then (0 : Int32) else (if a2 ≥ (64 : Int32) then (0 : Int32) else if (lg_cmp (((a0).toUInt64 >>> (a2.toInt64.toUInt64 &&& Int64.toUInt64 63)).toInt64 &&& (1 : Int64)) (0 : Int64)) = 0 then (0 : Int32) else (1 : Int32))) fun p1 =>
  (tq_bz p1).bind fun z2 =>
  some z2
set_option maxHeartbeats 4000000 in
set_option maxRecDepth 20000 in
theorem w_X0_holds {l : Launch} {d : Nat} (hd9 : 0 ≤ d) {a0 : Int64} {a2 : Int32} {h : tq_H} {o : Int32} {Q : tq_R → tq_H → Prop} (hf : f_X0_holds a0 a2 h = some o) (hQ : ∀ r h9, r = .inl (some (.int o)) ∧ h = h9 → Q r h9) : tq_C l yX0_holds cX0_holds 3 (some .boolean) d 0 0 [.long a0, .int a2] h Q := by
  refine tq_body (y := yX0_holds) false (by decide +kernel) (fun z => by cases z) (Nat.le_of_ble_eq_true rfl) ?_
  show tq_W l mX0_holds d 0 0 Q 0 [(0, .long a0), (2, .int a2)] [] h
  refine tq_iload_n (M := mX0_holds) (pc := 0) dX0_holds_0 rfl ?_
  obtain ⟨p1, ep1, hf⟩ := tq_le hf
  have HJ1 : tq_W l mX0_holds d 0 0 Q 25 [] [.int p1] h := by
    obtain ⟨z2, ez2, hf⟩ := tq_be hf
    refine tq_zretB (M := mX0_holds) (pc := 25) dX0_holds_25 rfl ez2 ?_
    cases (Option.some.inj hf)
    exact hQ _ _ ⟨rfl, rfl⟩
  refine tq_if_lt (M := mX0_holds) (pc := 1) (tgt := 24) dX0_holds_1 (by decide) (fun cc => ?_) (fun cc => ?_)
  · have hf := tq_ifp ep1.symm cc
    refine tq_iconst (M := mX0_holds) (pc := 24) dX0_holds_24 tk_ki_0 ?_
    cases hf
    refine tq_pick (L2 := []) [] rfl ?_
    exact HJ1
  · have hf := tq_ifn ep1.symm cc
    refine tq_iload_n (M := mX0_holds) (pc := 4) dX0_holds_4 rfl ?_
    refine tq_bipush (M := mX0_holds) (pc := 5) dX0_holds_5 tk_kb_64 ?_
    refine tq_icmp_ge (M := mX0_holds) (pc := 7) (tgt := 24) dX0_holds_7 (by decide) (fun cc => ?_) (fun cc => ?_)
    · have hf := tq_ifp hf cc
      refine tq_iconst (M := mX0_holds) (pc := 24) dX0_holds_24 tk_ki_0 ?_
      cases hf
      refine tq_pick (L2 := []) [] rfl ?_
      exact HJ1
    · have hf := tq_ifn hf cc
      refine tq_lload_n (M := mX0_holds) (pc := 10) dX0_holds_10 rfl ?_
      refine tq_iload_n (M := mX0_holds) (pc := 11) dX0_holds_11 rfl ?_
      refine tq_lushr (M := mX0_holds) (pc := 12) dX0_holds_12 ?_
      refine tq_lconst (M := mX0_holds) (pc := 13) dX0_holds_13 tk_kl_1 ?_
      refine tq_land (M := mX0_holds) (pc := 14) dX0_holds_14 ?_
      refine tq_lconst (M := mX0_holds) (pc := 15) dX0_holds_15 tk_kl_0 ?_
      refine tq_lcmp (M := mX0_holds) (pc := 16) dX0_holds_16 ?_
      refine tq_if_eq (M := mX0_holds) (pc := 17) (tgt := 24) dX0_holds_17 (by decide) (fun cc => ?_) (fun cc => ?_)
      · have hf := tq_ifp hf cc
        refine tq_iconst (M := mX0_holds) (pc := 24) dX0_holds_24 tk_ki_0 ?_
        cases hf
        refine tq_pick (L2 := []) [] rfl ?_
        exact HJ1
      · have hf := tq_ifn hf cc
        refine tq_iconst (M := mX0_holds) (pc := 20) dX0_holds_20 tk_ki_1 ?_
        refine tq_goto (M := mX0_holds) (pc := 21) (tgt := 25) dX0_holds_21 (by decide) ?_
        cases hf
        refine tq_pick (L2 := []) [] rfl ?_
        exact HJ1
abbrev mX5_get : tq_M := (RX5, cX5_get, 2, (some .int), false, [])
def f_X5_get (t : Nat) (a1 : Int32) (h : tq_H) : Option (Int32) :=
  (if a1 < 0 then
    some (-1 : Int32)
  else
    (tq_gr h t 5 0).bind fun r1 =>
    (tq_an h r1).bind fun x2 =>
    if a1 ≥ x2 then
      some (-1 : Int32)
    else
      (tq_gr h t 5 0).bind fun r3 =>
      (tq_ai h r3 a1).bind fun x4 =>
      some x4).bind fun p5 =>
  some p5
set_option maxHeartbeats 4000000 in
set_option maxRecDepth 20000 in
theorem w_X5_get {l : Launch} {d : Nat} (hd9 : 0 ≤ d) {t : Nat} {a1 : Int32} {h : tq_H} {o : Int32} {Q : tq_R → tq_H → Prop} (hf : f_X5_get t a1 h = some o) (hQ : ∀ r h9, r = .inl (some (.int o)) ∧ h = h9 → Q r h9) : tq_C l yX5_get cX5_get 2 (some .int) d 0 0 [.ref t, .int a1] h Q := by
  refine tq_body (y := yX5_get) false (by decide +kernel) (fun z => by cases z) (Nat.le_of_ble_eq_true rfl) ?_
  show tq_W l mX5_get d 0 0 Q 0 [(0, .ref t), (1, .int a1)] [] h
  refine tq_iload_n (M := mX5_get) (pc := 0) dX5_get_0 rfl ?_
  obtain ⟨p5, ep5, hf⟩ := tq_be hf
  have HJ1 : tq_W l mX5_get d 0 0 Q 23 [] [.int p5] h := by
    refine tq_iret (M := mX5_get) (pc := 23) dX5_get_23 rfl ?_
    cases (Option.some.inj hf)
    exact hQ _ _ ⟨rfl, rfl⟩
  refine tq_if_lt (M := mX5_get) (pc := 1) (tgt := 22) dX5_get_1 (by decide) (fun cc => ?_) (fun cc => ?_)
  · have hf := tq_ifp ep5 cc
    refine tq_iconst (M := mX5_get) (pc := 22) dX5_get_22 tk_ki_m1 ?_
    cases (Option.some.inj hf)
    refine tq_pick (L2 := []) [] rfl ?_
    exact HJ1
  · have hf := tq_ifn ep5 cc
    refine tq_iload_n (M := mX5_get) (pc := 4) dX5_get_4 rfl ?_
    refine tq_aload_n (M := mX5_get) (pc := 5) dX5_get_5 rfl ?_
    obtain ⟨r1, er1, hf⟩ := tq_be hf
    refine tq_getR (M := mX5_get) (pc := 6) tk_c5 (by decide) dX5_get_6 tk_RX5_9 rfl er1 ?_
    obtain ⟨x2, ex2, hf⟩ := tq_be hf
    refine tq_alenF (M := mX5_get) (pc := 9) dX5_get_9 ex2 ?_
    refine tq_icmp_ge (M := mX5_get) (pc := 10) (tgt := 22) dX5_get_10 (by decide) (fun cc => ?_) (fun cc => ?_)
    · have hf := tq_ifp hf cc
      refine tq_iconst (M := mX5_get) (pc := 22) dX5_get_22 tk_ki_m1 ?_
      cases (Option.some.inj hf)
      refine tq_pick (L2 := []) [] rfl ?_
      exact HJ1
    · have hf := tq_ifn hf cc
      refine tq_aload_n (M := mX5_get) (pc := 13) dX5_get_13 rfl ?_
      obtain ⟨r3, er3, hf⟩ := tq_be hf
      refine tq_getR (M := mX5_get) (pc := 14) tk_c5 (by decide) dX5_get_14 tk_RX5_9 rfl er3 ?_
      refine tq_iload_n (M := mX5_get) (pc := 17) dX5_get_17 rfl ?_
      obtain ⟨x4, ex4, hf⟩ := tq_be hf
      refine tq_ialdF (M := mX5_get) (pc := 18) dX5_get_18 ex4 ?_
      refine tq_goto (M := mX5_get) (pc := 19) (tgt := 23) dX5_get_19 (by decide) ?_
      cases (Option.some.inj hf)
      refine tq_pick (L2 := []) [] rfl ?_
      exact HJ1
abbrev mX5_set : tq_M := (RX5, cX5_set, 3, none, false, [])
def f_X5_set (t : Nat) (a1 : Int32) (a2 : Int32) (h : tq_H) : Option (tq_H) :=
  (if a1 < 0 then
    some h
  else
    (tq_gr h t 5 0).bind fun r1 =>
    (tq_an h r1).bind fun x2 =>
    if a1 ≥ x2 then
      some h
    else
      (tq_gr h t 5 0).bind fun r3 =>
      (tq_si h r3 a1 a2).bind fun h4 =>
      some h4).bind fun p5 =>
  some p5
set_option maxHeartbeats 4000000 in
set_option maxRecDepth 20000 in
theorem w_X5_set {l : Launch} {d : Nat} (hd9 : 0 ≤ d) {t : Nat} {a1 : Int32} {a2 : Int32} {h : tq_H} {o : tq_H} {Q : tq_R → tq_H → Prop} (hf : f_X5_set t a1 a2 h = some o) (hQ : ∀ r h9, r = .inl none ∧ o = h9 → Q r h9) : tq_C l yX5_set cX5_set 3 none d 0 0 [.ref t, .int a1, .int a2] h Q := by
  refine tq_body (y := yX5_set) false (by decide +kernel) (fun z => by cases z) (Nat.le_of_ble_eq_true rfl) ?_
  show tq_W l mX5_set d 0 0 Q 0 [(0, .ref t), (1, .int a1), (2, .int a2)] [] h
  refine tq_iload_n (M := mX5_set) (pc := 0) dX5_set_0 rfl ?_
  obtain ⟨p5, ep5, hf⟩ := tq_be hf
  have HJ1 : tq_W l mX5_set d 0 0 Q 20 [] [] p5 := by
    refine tq_vret (M := mX5_set) (pc := 20) dX5_set_20 rfl ?_
    cases (Option.some.inj hf)
    exact hQ _ _ ⟨rfl, rfl⟩
  refine tq_if_lt (M := mX5_set) (pc := 1) (tgt := 20) dX5_set_1 (by decide) (fun cc => ?_) (fun cc => ?_)
  · have hf := tq_ifp ep5 cc
    cases (Option.some.inj hf)
    refine tq_pick (L2 := []) [] rfl ?_
    exact HJ1
  · have hf := tq_ifn ep5 cc
    refine tq_iload_n (M := mX5_set) (pc := 4) dX5_set_4 rfl ?_
    refine tq_aload_n (M := mX5_set) (pc := 5) dX5_set_5 rfl ?_
    obtain ⟨r1, er1, hf⟩ := tq_be hf
    refine tq_getR (M := mX5_set) (pc := 6) tk_c5 (by decide) dX5_set_6 tk_RX5_9 rfl er1 ?_
    obtain ⟨x2, ex2, hf⟩ := tq_be hf
    refine tq_alenF (M := mX5_set) (pc := 9) dX5_set_9 ex2 ?_
    refine tq_icmp_ge (M := mX5_set) (pc := 10) (tgt := 20) dX5_set_10 (by decide) (fun cc => ?_) (fun cc => ?_)
    · have hf := tq_ifp hf cc
      cases (Option.some.inj hf)
      refine tq_pick (L2 := []) [] rfl ?_
      exact HJ1
    · have hf := tq_ifn hf cc
      refine tq_aload_n (M := mX5_set) (pc := 13) dX5_set_13 rfl ?_
      obtain ⟨r3, er3, hf⟩ := tq_be hf
      refine tq_getR (M := mX5_set) (pc := 14) tk_c5 (by decide) dX5_set_14 tk_RX5_9 rfl er3 ?_
      refine tq_iload_n (M := mX5_set) (pc := 17) dX5_set_17 rfl ?_
      refine tq_iload_n (M := mX5_set) (pc := 18) dX5_set_18 rfl ?_
      obtain ⟨h4, eh4, hf⟩ := tq_be hf
      refine tq_iastF (M := mX5_set) (pc := 19) dX5_set_19 eh4 ?_
      cases (Option.some.inj hf)
      refine tq_pick (L2 := []) [] rfl ?_
      exact HJ1
abbrev mX7_get : tq_M := (RX7, cX7_get, 2, (some .long), false, [])
def f_X7_get (t : Nat) (a1 : Int32) (h : tq_H) : Option (Int64) :=
  (if a1 < 0 then
    some (0 : Int64)
  else
    (tq_gr h t 7 0).bind fun r1 =>
    (tq_an h r1).bind fun x2 =>
    if a1 ≥ x2 then
      some (0 : Int64)
    else
      (tq_gr h t 7 0).bind fun r3 =>
      (tq_aj h r3 a1).bind fun x4 =>
      some x4).bind fun p5 =>
  some p5
set_option maxHeartbeats 4000000 in
set_option maxRecDepth 20000 in
theorem w_X7_get {l : Launch} {d : Nat} (hd9 : 0 ≤ d) {t : Nat} {a1 : Int32} {h : tq_H} {o : Int64} {Q : tq_R → tq_H → Prop} (hf : f_X7_get t a1 h = some o) (hQ : ∀ r h9, r = .inl (some (.long o)) ∧ h = h9 → Q r h9) : tq_C l yX7_get cX7_get 2 (some .long) d 0 0 [.ref t, .int a1] h Q := by
  refine tq_body (y := yX7_get) false (by decide +kernel) (fun z => by cases z) (Nat.le_of_ble_eq_true rfl) ?_
  show tq_W l mX7_get d 0 0 Q 0 [(0, .ref t), (1, .int a1)] [] h
  refine tq_iload_n (M := mX7_get) (pc := 0) dX7_get_0 rfl ?_
  obtain ⟨p5, ep5, hf⟩ := tq_be hf
  have HJ1 : tq_W l mX7_get d 0 0 Q 23 [] [.long p5] h := by
    refine tq_lret (M := mX7_get) (pc := 23) dX7_get_23 rfl ?_
    cases (Option.some.inj hf)
    exact hQ _ _ ⟨rfl, rfl⟩
  refine tq_if_lt (M := mX7_get) (pc := 1) (tgt := 22) dX7_get_1 (by decide) (fun cc => ?_) (fun cc => ?_)
  · have hf := tq_ifp ep5 cc
    refine tq_lconst (M := mX7_get) (pc := 22) dX7_get_22 tk_kl_0 ?_
    cases (Option.some.inj hf)
    refine tq_pick (L2 := []) [] rfl ?_
    exact HJ1
  · have hf := tq_ifn ep5 cc
    refine tq_iload_n (M := mX7_get) (pc := 4) dX7_get_4 rfl ?_
    refine tq_aload_n (M := mX7_get) (pc := 5) dX7_get_5 rfl ?_
    obtain ⟨r1, er1, hf⟩ := tq_be hf
    refine tq_getR (M := mX7_get) (pc := 6) tk_c7 (by decide) dX7_get_6 tk_RX7_7 rfl er1 ?_
    obtain ⟨x2, ex2, hf⟩ := tq_be hf
    refine tq_alenF (M := mX7_get) (pc := 9) dX7_get_9 ex2 ?_
    refine tq_icmp_ge (M := mX7_get) (pc := 10) (tgt := 22) dX7_get_10 (by decide) (fun cc => ?_) (fun cc => ?_)
    · have hf := tq_ifp hf cc
      refine tq_lconst (M := mX7_get) (pc := 22) dX7_get_22 tk_kl_0 ?_
      cases (Option.some.inj hf)
      refine tq_pick (L2 := []) [] rfl ?_
      exact HJ1
    · have hf := tq_ifn hf cc
      refine tq_aload_n (M := mX7_get) (pc := 13) dX7_get_13 rfl ?_
      obtain ⟨r3, er3, hf⟩ := tq_be hf
      refine tq_getR (M := mX7_get) (pc := 14) tk_c7 (by decide) dX7_get_14 tk_RX7_7 rfl er3 ?_
      refine tq_iload_n (M := mX7_get) (pc := 17) dX7_get_17 rfl ?_
      obtain ⟨x4, ex4, hf⟩ := tq_be hf
      refine tq_laldF (M := mX7_get) (pc := 18) dX7_get_18 ex4 ?_
      refine tq_goto (M := mX7_get) (pc := 19) (tgt := 23) dX7_get_19 (by decide) ?_
      cases (Option.some.inj hf)
      refine tq_pick (L2 := []) [] rfl ?_
      exact HJ1
abbrev mX7_set : tq_M := (RX7, cX7_set, 4, none, false, [])
def f_X7_set (t : Nat) (a1 : Int32) (a2 : Int64) (h : tq_H) : Option (tq_H) :=
  (if a1 < 0 then
    some h
  else
    (tq_gr h t 7 0).bind fun r1 =>
    (tq_an h r1).bind fun x2 =>
    if a1 ≥ x2 then
      some h
    else
      (tq_gr h t 7 0).bind fun r3 =>
      (tq_sl h r3 a1 a2).bind fun h4 =>
      some h4).bind fun p5 =>
  some p5
set_option maxHeartbeats 4000000 in
set_option maxRecDepth 20000 in
theorem w_X7_set {l : Launch} {d : Nat} (hd9 : 0 ≤ d) {t : Nat} {a1 : Int32} {a2 : Int64} {h : tq_H} {o : tq_H} {Q : tq_R → tq_H → Prop} (hf : f_X7_set t a1 a2 h = some o) (hQ : ∀ r h9, r = .inl none ∧ o = h9 → Q r h9) : tq_C l yX7_set cX7_set 4 none d 0 0 [.ref t, .int a1, .long a2] h Q := by
  refine tq_body (y := yX7_set) false (by decide +kernel) (fun z => by cases z) (Nat.le_of_ble_eq_true rfl) ?_
  show tq_W l mX7_set d 0 0 Q 0 [(0, .ref t), (1, .int a1), (2, .long a2)] [] h
  refine tq_iload_n (M := mX7_set) (pc := 0) dX7_set_0 rfl ?_
  obtain ⟨p5, ep5, hf⟩ := tq_be hf
  have HJ1 : tq_W l mX7_set d 0 0 Q 20 [] [] p5 := by
    refine tq_vret (M := mX7_set) (pc := 20) dX7_set_20 rfl ?_
    cases (Option.some.inj hf)
    exact hQ _ _ ⟨rfl, rfl⟩
  refine tq_if_lt (M := mX7_set) (pc := 1) (tgt := 20) dX7_set_1 (by decide) (fun cc => ?_) (fun cc => ?_)
  · have hf := tq_ifp ep5 cc
    cases (Option.some.inj hf)
    refine tq_pick (L2 := []) [] rfl ?_
    exact HJ1
  · have hf := tq_ifn ep5 cc
    refine tq_iload_n (M := mX7_set) (pc := 4) dX7_set_4 rfl ?_
    refine tq_aload_n (M := mX7_set) (pc := 5) dX7_set_5 rfl ?_
    obtain ⟨r1, er1, hf⟩ := tq_be hf
    refine tq_getR (M := mX7_set) (pc := 6) tk_c7 (by decide) dX7_set_6 tk_RX7_7 rfl er1 ?_
    obtain ⟨x2, ex2, hf⟩ := tq_be hf
    refine tq_alenF (M := mX7_set) (pc := 9) dX7_set_9 ex2 ?_
    refine tq_icmp_ge (M := mX7_set) (pc := 10) (tgt := 20) dX7_set_10 (by decide) (fun cc => ?_) (fun cc => ?_)
    · have hf := tq_ifp hf cc
      cases (Option.some.inj hf)
      refine tq_pick (L2 := []) [] rfl ?_
      exact HJ1
    · have hf := tq_ifn hf cc
      refine tq_aload_n (M := mX7_set) (pc := 13) dX7_set_13 rfl ?_
      obtain ⟨r3, er3, hf⟩ := tq_be hf
      refine tq_getR (M := mX7_set) (pc := 14) tk_c7 (by decide) dX7_set_14 tk_RX7_7 rfl er3 ?_
      refine tq_iload_n (M := mX7_set) (pc := 17) dX7_set_17 rfl ?_
      refine tq_lload_n (M := mX7_set) (pc := 18) dX7_set_18 rfl ?_
      obtain ⟨h4, eh4, hf⟩ := tq_be hf
      refine tq_lastF (M := mX7_set) (pc := 19) dX7_set_19 eh4 ?_
      cases (Option.some.inj hf)
      refine tq_pick (L2 := []) [] rfl ?_
      exact HJ1
abbrev mX7_add : tq_M := (RX7, cX7_add, 3, none, false, [])
def f_X7_add (t : Nat) (a1 : Int32) (a2 : Int32) (h : tq_H) : Option (tq_H) :=
  (if a1 < 0 then
    some h
  else
    (tq_gr h t 7 0).bind fun r1 =>
    (tq_an h r1).bind fun x2 =>
    if a1 ≥ x2 then
      some h
    else
      (tq_gr h t 7 0).bind fun r3 =>
      (tq_aj h r3 a1).bind fun x4 =>
      (f_X0_one a2 h).bind fun v5 =>
      (tq_sl h r3 a1 (x4 ||| v5)).bind fun h6 =>
      some h6).bind fun p7 =>
  some p7
set_option maxHeartbeats 4000000 in
set_option maxRecDepth 20000 in
theorem w_X7_add {l : Launch} {d : Nat} (hd9 : 1 ≤ d) {t : Nat} {a1 : Int32} {a2 : Int32} {h : tq_H} {o : tq_H} {Q : tq_R → tq_H → Prop} (hf : f_X7_add t a1 a2 h = some o) (hQ : ∀ r h9, r = .inl none ∧ o = h9 → Q r h9) : tq_C l yX7_add cX7_add 3 none d 0 0 [.ref t, .int a1, .int a2] h Q := by
  refine tq_body (y := yX7_add) false (by decide +kernel) (fun z => by cases z) (Nat.le_of_ble_eq_true rfl) ?_
  show tq_W l mX7_add d 0 0 Q 0 [(0, .ref t), (1, .int a1), (2, .int a2)] [] h
  refine tq_iload_n (M := mX7_add) (pc := 0) dX7_add_0 rfl ?_
  obtain ⟨p7, ep7, hf⟩ := tq_be hf
  have HJ1 : tq_W l mX7_add d 0 0 Q 26 [] [] p7 := by
    refine tq_vret (M := mX7_add) (pc := 26) dX7_add_26 rfl ?_
    cases (Option.some.inj hf)
    exact hQ _ _ ⟨rfl, rfl⟩
  refine tq_if_lt (M := mX7_add) (pc := 1) (tgt := 26) dX7_add_1 (by decide) (fun cc => ?_) (fun cc => ?_)
  · have hf := tq_ifp ep7 cc
    cases (Option.some.inj hf)
    refine tq_pick (L2 := []) [] rfl ?_
    exact HJ1
  · have hf := tq_ifn ep7 cc
    refine tq_iload_n (M := mX7_add) (pc := 4) dX7_add_4 rfl ?_
    refine tq_aload_n (M := mX7_add) (pc := 5) dX7_add_5 rfl ?_
    obtain ⟨r1, er1, hf⟩ := tq_be hf
    refine tq_getR (M := mX7_add) (pc := 6) tk_c7 (by decide) dX7_add_6 tk_RX7_7 rfl er1 ?_
    obtain ⟨x2, ex2, hf⟩ := tq_be hf
    refine tq_alenF (M := mX7_add) (pc := 9) dX7_add_9 ex2 ?_
    refine tq_icmp_ge (M := mX7_add) (pc := 10) (tgt := 26) dX7_add_10 (by decide) (fun cc => ?_) (fun cc => ?_)
    · have hf := tq_ifp hf cc
      cases (Option.some.inj hf)
      refine tq_pick (L2 := []) [] rfl ?_
      exact HJ1
    · have hf := tq_ifn hf cc
      refine tq_aload_n (M := mX7_add) (pc := 13) dX7_add_13 rfl ?_
      obtain ⟨r3, er3, hf⟩ := tq_be hf
      refine tq_getR (M := mX7_add) (pc := 14) tk_c7 (by decide) dX7_add_14 tk_RX7_7 rfl er3 ?_
      refine tq_iload_n (M := mX7_add) (pc := 17) dX7_add_17 rfl ?_
      refine tq_dup2 (M := mX7_add) (pc := 18) dX7_add_18 rfl rfl ?_
      obtain ⟨x4, ex4, hf⟩ := tq_be hf
      refine tq_laldF (M := mX7_add) (pc := 19) dX7_add_19 ex4 ?_
      refine tq_iload_n (M := mX7_add) (pc := 20) dX7_add_20 rfl ?_
      obtain ⟨v5, ev5, hf⟩ := tq_be hf
      refine tq_calS (M := mX7_add) (pc := 21) (S := [.long x4, .int a1, .ref r3]) tk_y_X0_one tk_s_X0_one tk_RX7_13 dX7_add_21 [.int a2] rfl (Nat.le_of_ble_eq_true rfl) (d1 := d - 1) (b1 := 0) (s1 := 0) (bc' := 0) (bs' := 0) (Q1 := fun r h9 => r = .inl (some (.long v5)) ∧ h = h9) (by omega) rfl rfl (w_X0_one (by omega) ev5 (fun _ _ q => q)) (fun E h9 q => nomatch (show (Sum.inr E : tq_R) = Sum.inl _ from q.1)) (fun r9 h9 q => ?_)
      obtain ⟨q1, rfl⟩ := q
      cases (show (Sum.inl r9 : tq_R) = Sum.inl (some (.long v5)) from q1)
      refine tq_lor (M := mX7_add) (pc := 24) dX7_add_24 ?_
      obtain ⟨h6, eh6, hf⟩ := tq_be hf
      refine tq_lastF (M := mX7_add) (pc := 25) dX7_add_25 eh6 ?_
      cases (Option.some.inj hf)
      refine tq_pick (L2 := []) [] rfl ?_
      exact HJ1
abbrev mJ7_fill_53178 : tq_M := (RJ7, cJ7_fill_53178, 4, none, false, [])
def f_J7_fill_53178_b5 (i0 : Nat) (i1 : Int32) (i3 : Int32) (s : Int32 × tq_H) : Option ((Int32 × tq_H) ⊕ (tq_H)) := match s with
  | (x2, hh) =>
    if x2 ≥ i3 then
      some (.inr hh)
    else
      (tq_si hh i0 x2 i1).bind fun h2 =>
      tq_let (x2 + (1 : Int32)) fun x3 =>
      some (.inl (x3, h2))
def f_J7_fill_53178 (a0 : Nat) (a1 : Int32) (h : tq_H) : Option (tq_H) :=
  (tq_an h a0).bind fun x1 =>
  (tq_loop (f_J7_fill_53178_b5 a0 a1 x1) tq_N ((0 : Int32), h)).bind fun o4 =>
  some o4
set_option maxHeartbeats 4000000 in
theorem l_J7_fill_53178_5 {l : Launch} {d : Nat} {Q : tq_R → tq_H → Prop} (hd9 : 0 ≤ d) (i0 : Nat) (i1 : Int32) (i3 : Int32) : ∀ (n : Nat) (x2 : Int32) (hh : tq_H) (o : tq_H), tq_loop (f_J7_fill_53178_b5 i0 i1 i3) n (x2, hh) = some o → tq_W l mJ7_fill_53178 d 0 0 Q 20 [] [] o → tq_W l mJ7_fill_53178 d 0 0 Q 5 [(0, .ref i0), (1, .int i1), (2, .int x2), (3, .int i3)] [] hh := by
  intro n
  induction n with
  | zero => intro x2 hh o hl; cases hl
  | succ n ih =>
    intro x2 hh o hl hk
    obtain ⟨oo, hf, ho⟩ := tq_loop_s hl
    refine tq_iload_n (M := mJ7_fill_53178) (pc := 5) dJ7_fill_53178_5 rfl ?_
    refine tq_iload_n (M := mJ7_fill_53178) (pc := 6) dJ7_fill_53178_6 rfl ?_
    refine tq_icmp_ge (M := mJ7_fill_53178) (pc := 7) (tgt := 20) dJ7_fill_53178_7 (by decide) (fun cc => ?_) (fun cc => ?_)
    · have hf := tq_ifp hf cc
      cases (Option.some.inj hf)
      cases (tq_lx ho)
      refine tq_pick (L2 := []) [] rfl ?_
      exact hk
    · have hf := tq_ifn hf cc
      refine tq_aload_n (M := mJ7_fill_53178) (pc := 10) dJ7_fill_53178_10 rfl ?_
      refine tq_iload_n (M := mJ7_fill_53178) (pc := 11) dJ7_fill_53178_11 rfl ?_
      refine tq_iload_n (M := mJ7_fill_53178) (pc := 12) dJ7_fill_53178_12 rfl ?_
      obtain ⟨h2, eh2, hf⟩ := tq_be hf
      refine tq_iastF (M := mJ7_fill_53178) (pc := 13) dJ7_fill_53178_13 eh2 ?_
      obtain ⟨x3, ex3, hf⟩ := tq_le hf
      refine tq_iinc (M := mJ7_fill_53178) (pc := 14) (v := x3) (L2 := [(2, .int x3), (0, .ref i0), (1, .int i1), (3, .int i3)]) dJ7_fill_53178_14 rfl (by rw [ex3, tk_ki_1]) (by decide) rfl ?_
      refine tq_goto (M := mJ7_fill_53178) (pc := 17) (tgt := 5) dJ7_fill_53178_17 (by decide) ?_
      cases (Option.some.inj hf)
      refine tq_pick (L2 := [(0, .ref i0), (1, .int i1), (2, .int x3), (3, .int i3)]) [1, 2, 0, 3] rfl ?_
      exact ih _ _ o (tq_lc ho) hk
set_option maxHeartbeats 4000000 in
set_option maxRecDepth 20000 in
theorem w_J7_fill_53178 {l : Launch} {d : Nat} (hd9 : 0 ≤ d) {a0 : Nat} {a1 : Int32} {h : tq_H} {o : tq_H} {Q : tq_R → tq_H → Prop} (hf : f_J7_fill_53178 a0 a1 h = some o) (hQ : ∀ r h9, r = .inl none ∧ o = h9 → Q r h9) : tq_C l yJ7_fill_53178 cJ7_fill_53178 4 none d 0 0 [.ref a0, .int a1] h Q := by
  refine tq_body (y := yJ7_fill_53178) false (by decide +kernel) (fun z => by cases z) (Nat.le_of_ble_eq_true rfl) ?_
  show tq_W l mJ7_fill_53178 d 0 0 Q 0 [(0, .ref a0), (1, .int a1)] [] h
  refine tq_iconst (M := mJ7_fill_53178) (pc := 0) dJ7_fill_53178_0 tk_ki_0 ?_
  refine tq_istore_n (M := mJ7_fill_53178) (pc := 1) rfl dJ7_fill_53178_1 (L2 := [(2, .int (0 : Int32)), (0, .ref a0), (1, .int a1)]) (by decide) rfl ?_
  refine tq_aload_n (M := mJ7_fill_53178) (pc := 2) dJ7_fill_53178_2 rfl ?_
  obtain ⟨x1, ex1, hf⟩ := tq_be hf
  refine tq_alenF (M := mJ7_fill_53178) (pc := 3) dJ7_fill_53178_3 ex1 ?_
  refine tq_istore_n (M := mJ7_fill_53178) (pc := 4) rfl dJ7_fill_53178_4 (L2 := [(3, .int x1), (2, .int (0 : Int32)), (0, .ref a0), (1, .int a1)]) (by decide) rfl ?_
  obtain ⟨o4, eo4, hf⟩ := tq_be hf
  refine tq_pick (L2 := [(0, .ref a0), (1, .int a1), (2, .int (0 : Int32)), (3, .int x1)]) [2, 3, 1, 0] rfl ?_
  refine l_J7_fill_53178_5 (by omega) a0 a1 x1 _ (0 : Int32) h _ eo4 ?_
  refine tq_vret (M := mJ7_fill_53178) (pc := 20) dJ7_fill_53178_20 rfl ?_
  cases (Option.some.inj hf)
  exact hQ _ _ ⟨rfl, rfl⟩
abbrev mJ7_fill_d0a16 : tq_M := (RJ7, cJ7_fill_d0a16, 5, none, false, [])
def f_J7_fill_d0a16_b6 (i0 : Nat) (i1 : Int64) (i4 : Int32) (s : Int32 × tq_H) : Option ((Int32 × tq_H) ⊕ (tq_H)) := match s with
  | (x3, hh) =>
    if x3 ≥ i4 then
      some (.inr hh)
    else
      (tq_sl hh i0 x3 i1).bind fun h2 =>
      tq_let (x3 + (1 : Int32)) fun x3 =>
      some (.inl (x3, h2))
def f_J7_fill_d0a16 (a0 : Nat) (a1 : Int64) (h : tq_H) : Option (tq_H) :=
  (tq_an h a0).bind fun x1 =>
  (tq_loop (f_J7_fill_d0a16_b6 a0 a1 x1) tq_N ((0 : Int32), h)).bind fun o4 =>
  some o4
set_option maxHeartbeats 4000000 in
theorem l_J7_fill_d0a16_6 {l : Launch} {d : Nat} {Q : tq_R → tq_H → Prop} (hd9 : 0 ≤ d) (i0 : Nat) (i1 : Int64) (i4 : Int32) : ∀ (n : Nat) (x3 : Int32) (hh : tq_H) (o : tq_H), tq_loop (f_J7_fill_d0a16_b6 i0 i1 i4) n (x3, hh) = some o → tq_W l mJ7_fill_d0a16 d 0 0 Q 22 [] [] o → tq_W l mJ7_fill_d0a16 d 0 0 Q 6 [(0, .ref i0), (1, .long i1), (3, .int x3), (4, .int i4)] [] hh := by
  intro n
  induction n with
  | zero => intro x3 hh o hl; cases hl
  | succ n ih =>
    intro x3 hh o hl hk
    obtain ⟨oo, hf, ho⟩ := tq_loop_s hl
    refine tq_iload_n (M := mJ7_fill_d0a16) (pc := 6) dJ7_fill_d0a16_6 rfl ?_
    refine tq_iload (M := mJ7_fill_d0a16) (pc := 7) dJ7_fill_d0a16_7 rfl ?_
    refine tq_icmp_ge (M := mJ7_fill_d0a16) (pc := 9) (tgt := 22) dJ7_fill_d0a16_9 (by decide) (fun cc => ?_) (fun cc => ?_)
    · have hf := tq_ifp hf cc
      cases (Option.some.inj hf)
      cases (tq_lx ho)
      refine tq_pick (L2 := []) [] rfl ?_
      exact hk
    · have hf := tq_ifn hf cc
      refine tq_aload_n (M := mJ7_fill_d0a16) (pc := 12) dJ7_fill_d0a16_12 rfl ?_
      refine tq_iload_n (M := mJ7_fill_d0a16) (pc := 13) dJ7_fill_d0a16_13 rfl ?_
      refine tq_lload_n (M := mJ7_fill_d0a16) (pc := 14) dJ7_fill_d0a16_14 rfl ?_
      obtain ⟨h2, eh2, hf⟩ := tq_be hf
      refine tq_lastF (M := mJ7_fill_d0a16) (pc := 15) dJ7_fill_d0a16_15 eh2 ?_
      obtain ⟨x3, ex3, hf⟩ := tq_le hf
      refine tq_iinc (M := mJ7_fill_d0a16) (pc := 16) (v := x3) (L2 := [(3, .int x3), (0, .ref i0), (1, .long i1), (4, .int i4)]) dJ7_fill_d0a16_16 rfl (by rw [ex3, tk_ki_1]) (by decide) rfl ?_
      refine tq_goto (M := mJ7_fill_d0a16) (pc := 19) (tgt := 6) dJ7_fill_d0a16_19 (by decide) ?_
      cases (Option.some.inj hf)
      refine tq_pick (L2 := [(0, .ref i0), (1, .long i1), (3, .int x3), (4, .int i4)]) [1, 2, 0, 3] rfl ?_
      exact ih _ _ o (tq_lc ho) hk
set_option maxHeartbeats 4000000 in
set_option maxRecDepth 20000 in
theorem w_J7_fill_d0a16 {l : Launch} {d : Nat} (hd9 : 0 ≤ d) {a0 : Nat} {a1 : Int64} {h : tq_H} {o : tq_H} {Q : tq_R → tq_H → Prop} (hf : f_J7_fill_d0a16 a0 a1 h = some o) (hQ : ∀ r h9, r = .inl none ∧ o = h9 → Q r h9) : tq_C l yJ7_fill_d0a16 cJ7_fill_d0a16 5 none d 0 0 [.ref a0, .long a1] h Q := by
  refine tq_body (y := yJ7_fill_d0a16) false (by decide +kernel) (fun z => by cases z) (Nat.le_of_ble_eq_true rfl) ?_
  show tq_W l mJ7_fill_d0a16 d 0 0 Q 0 [(0, .ref a0), (1, .long a1)] [] h
  refine tq_iconst (M := mJ7_fill_d0a16) (pc := 0) dJ7_fill_d0a16_0 tk_ki_0 ?_
  refine tq_istore_n (M := mJ7_fill_d0a16) (pc := 1) rfl dJ7_fill_d0a16_1 (L2 := [(3, .int (0 : Int32)), (0, .ref a0), (1, .long a1)]) (by decide) rfl ?_
  refine tq_aload_n (M := mJ7_fill_d0a16) (pc := 2) dJ7_fill_d0a16_2 rfl ?_
  obtain ⟨x1, ex1, hf⟩ := tq_be hf
  refine tq_alenF (M := mJ7_fill_d0a16) (pc := 3) dJ7_fill_d0a16_3 ex1 ?_
  refine tq_istore (M := mJ7_fill_d0a16) (pc := 4) dJ7_fill_d0a16_4 (L2 := [(4, .int x1), (3, .int (0 : Int32)), (0, .ref a0), (1, .long a1)]) (by decide) rfl ?_
  obtain ⟨o4, eo4, hf⟩ := tq_be hf
  refine tq_pick (L2 := [(0, .ref a0), (1, .long a1), (3, .int (0 : Int32)), (4, .int x1)]) [2, 3, 1, 0] rfl ?_
  refine l_J7_fill_d0a16_6 (by omega) a0 a1 x1 _ (0 : Int32) h _ eo4 ?_
  refine tq_vret (M := mJ7_fill_d0a16) (pc := 22) dJ7_fill_d0a16_22 rfl ?_
  cases (Option.some.inj hf)
  exact hQ _ _ ⟨rfl, rfl⟩
abbrev mX5_setAll : tq_M := (RX5, cX5_setAll, 2, none, false, [])
def f_X5_setAll (t : Nat) (a1 : Int32) (h : tq_H) : Option (tq_H) :=
  (tq_gr h t 5 0).bind fun r1 =>
  (f_J7_fill_53178 r1 a1 h).bind fun v2 =>
  some v2
set_option maxHeartbeats 4000000 in
set_option maxRecDepth 20000 in
theorem w_X5_setAll {l : Launch} {d : Nat} (hd9 : 1 ≤ d) {t : Nat} {a1 : Int32} {h : tq_H} {o : tq_H} {Q : tq_R → tq_H → Prop} (hf : f_X5_setAll t a1 h = some o) (hQ : ∀ r h9, r = .inl none ∧ o = h9 → Q r h9) : tq_C l yX5_setAll cX5_setAll 2 none d 0 0 [.ref t, .int a1] h Q := by
  refine tq_body (y := yX5_setAll) false (by decide +kernel) (fun z => by cases z) (Nat.le_of_ble_eq_true rfl) ?_
  show tq_W l mX5_setAll d 0 0 Q 0 [(0, .ref t), (1, .int a1)] [] h
  refine tq_aload_n (M := mX5_setAll) (pc := 0) dX5_setAll_0 rfl ?_
  obtain ⟨r1, er1, hf⟩ := tq_be hf
  refine tq_getR (M := mX5_setAll) (pc := 1) tk_c5 (by decide) dX5_setAll_1 tk_RX5_9 rfl er1 ?_
  refine tq_iload_n (M := mX5_setAll) (pc := 4) dX5_setAll_4 rfl ?_
  obtain ⟨v2, ev2, hf⟩ := tq_be hf
  refine tq_calS (M := mX5_setAll) (pc := 5) (S := []) tk_y_J7_fill_53178 tk_s_J7_fill_53178 tk_RX5_15 dX5_setAll_5 [.ref r1, .int a1] rfl (Nat.le_of_ble_eq_true rfl) (d1 := d - 1) (b1 := 0) (s1 := 0) (bc' := 0) (bs' := 0) (Q1 := fun r h9 => r = .inl none ∧ v2 = h9) (by omega) rfl rfl (w_J7_fill_53178 (by omega) ev2 (fun _ _ q => q)) (fun E h9 q => nomatch (show (Sum.inr E : tq_R) = Sum.inl _ from q.1)) (fun r9 h9 q => ?_)
  obtain ⟨q1, rfl⟩ := q
  cases (show (Sum.inl r9 : tq_R) = Sum.inl (none) from q1)
  refine tq_vret (M := mX5_setAll) (pc := 8) dX5_setAll_8 rfl ?_
  cases (Option.some.inj hf)
  exact hQ _ _ ⟨rfl, rfl⟩
abbrev mX7_emptyAll : tq_M := (RX7, cX7_emptyAll, 1, none, false, [])
def f_X7_emptyAll (t : Nat) (h : tq_H) : Option (tq_H) :=
  (tq_gr h t 7 0).bind fun r1 =>
  (f_J7_fill_d0a16 r1 (0 : Int64) h).bind fun v2 =>
  some v2
set_option maxHeartbeats 4000000 in
set_option maxRecDepth 20000 in
theorem w_X7_emptyAll {l : Launch} {d : Nat} (hd9 : 1 ≤ d) {t : Nat} {h : tq_H} {o : tq_H} {Q : tq_R → tq_H → Prop} (hf : f_X7_emptyAll t h = some o) (hQ : ∀ r h9, r = .inl none ∧ o = h9 → Q r h9) : tq_C l yX7_emptyAll cX7_emptyAll 1 none d 0 0 [.ref t] h Q := by
  refine tq_body (y := yX7_emptyAll) false (by decide +kernel) (fun z => by cases z) (Nat.le_of_ble_eq_true rfl) ?_
  show tq_W l mX7_emptyAll d 0 0 Q 0 [(0, .ref t)] [] h
  refine tq_aload_n (M := mX7_emptyAll) (pc := 0) dX7_emptyAll_0 rfl ?_
  obtain ⟨r1, er1, hf⟩ := tq_be hf
  refine tq_getR (M := mX7_emptyAll) (pc := 1) tk_c7 (by decide) dX7_emptyAll_1 tk_RX7_7 rfl er1 ?_
  refine tq_lconst (M := mX7_emptyAll) (pc := 4) dX7_emptyAll_4 tk_kl_0 ?_
  obtain ⟨v2, ev2, hf⟩ := tq_be hf
  refine tq_calS (M := mX7_emptyAll) (pc := 5) (S := []) tk_y_J7_fill_d0a16 tk_s_J7_fill_d0a16 tk_RX7_19 dX7_emptyAll_5 [.ref r1, .long (0 : Int64)] rfl (Nat.le_of_ble_eq_true rfl) (d1 := d - 1) (b1 := 0) (s1 := 0) (bc' := 0) (bs' := 0) (Q1 := fun r h9 => r = .inl none ∧ v2 = h9) (by omega) rfl rfl (w_J7_fill_d0a16 (by omega) ev2 (fun _ _ q => q)) (fun E h9 q => nomatch (show (Sum.inr E : tq_R) = Sum.inl _ from q.1)) (fun r9 h9 q => ?_)
  obtain ⟨q1, rfl⟩ := q
  cases (show (Sum.inl r9 : tq_R) = Sum.inl (none) from q1)
  refine tq_vret (M := mX7_emptyAll) (pc := 8) dX7_emptyAll_8 rfl ?_
  cases (Option.some.inj hf)
  exact hQ _ _ ⟨rfl, rfl⟩
abbrev mX5_copy : tq_M := (RX5, cX5_copy, 3, none, false, [])
def f_X5_copy (t : Nat) (a1 : Nat) (h : tq_H) : Option (tq_H) :=
  (tq_gr h t 5 0).bind fun r1 =>
  (tq_an h r1).bind fun x2 =>
  (tq_gr h a1 5 0).bind fun r3 =>
  (tq_an h r3).bind fun x4 =>
  tq_let ((if x4 < x2 then x4 else x2)) fun x5 =>
  (tq_gr h a1 5 0).bind fun r6 =>
  (tq_gr h t 5 0).bind fun r7 =>
  (tq_cp h r6 (0 : Int32) r7 (0 : Int32) x5).bind fun h8 =>
  some h8
set_option maxHeartbeats 4000000 in
set_option maxRecDepth 20000 in
theorem w_X5_copy {l : Launch} {d : Nat} (hd9 : 1 ≤ d) {t : Nat} {a1 : Nat} {h : tq_H} {o : tq_H} {Q : tq_R → tq_H → Prop} (hf : f_X5_copy t a1 h = some o) (hQ : ∀ r h9, r = .inl none ∧ o = h9 → Q r h9) : tq_C l yX5_copy cX5_copy 3 none d 0 0 [.ref t, .ref a1] h Q := by
  refine tq_body (y := yX5_copy) false (by decide +kernel) (fun z => by cases z) (Nat.le_of_ble_eq_true rfl) ?_
  show tq_W l mX5_copy d 0 0 Q 0 [(0, .ref t), (1, .ref a1)] [] h
  refine tq_aload_n (M := mX5_copy) (pc := 0) dX5_copy_0 rfl ?_
  obtain ⟨r1, er1, hf⟩ := tq_be hf
  refine tq_getR (M := mX5_copy) (pc := 1) tk_c5 (by decide) dX5_copy_1 tk_RX5_9 rfl er1 ?_
  obtain ⟨x2, ex2, hf⟩ := tq_be hf
  refine tq_alenF (M := mX5_copy) (pc := 4) dX5_copy_4 ex2 ?_
  refine tq_aload_n (M := mX5_copy) (pc := 5) dX5_copy_5 rfl ?_
  obtain ⟨r3, er3, hf⟩ := tq_be hf
  refine tq_getR (M := mX5_copy) (pc := 6) tk_c5 (by decide) dX5_copy_6 tk_RX5_9 rfl er3 ?_
  obtain ⟨x4, ex4, hf⟩ := tq_be hf
  refine tq_alenF (M := mX5_copy) (pc := 9) dX5_copy_9 ex4 ?_
  refine tq_mmin (M := mX5_copy) (pc := 10) 21 dX5_copy_10 tk_RX5_21 tk_min_s tk_math tk_min_c (by omega) (Nat.le_of_ble_eq_true rfl) ?_
  obtain ⟨x5, ex5, hf⟩ := tq_le hf
  refine tq_istore_n (M := mX5_copy) (pc := 13) rfl dX5_copy_13 (L2 := [(2, .int x5), (0, .ref t), (1, .ref a1)]) (by decide) (by rw [ex5]; rfl) ?_
  refine tq_aload_n (M := mX5_copy) (pc := 14) dX5_copy_14 rfl ?_
  obtain ⟨r6, er6, hf⟩ := tq_be hf
  refine tq_getR (M := mX5_copy) (pc := 15) tk_c5 (by decide) dX5_copy_15 tk_RX5_9 rfl er6 ?_
  refine tq_iconst (M := mX5_copy) (pc := 18) dX5_copy_18 tk_ki_0 ?_
  refine tq_aload_n (M := mX5_copy) (pc := 19) dX5_copy_19 rfl ?_
  obtain ⟨r7, er7, hf⟩ := tq_be hf
  refine tq_getR (M := mX5_copy) (pc := 20) tk_c5 (by decide) dX5_copy_20 tk_RX5_9 rfl er7 ?_
  refine tq_iconst (M := mX5_copy) (pc := 23) dX5_copy_23 tk_ki_0 ?_
  refine tq_iload_n (M := mX5_copy) (pc := 24) dX5_copy_24 rfl ?_
  obtain ⟨h8, eh8, hf⟩ := tq_be hf
  refine tq_copyF (M := mX5_copy) (pc := 25) 27 dX5_copy_25 tk_RX5_27 tk_an tk_as tk_ai eh8 (by omega) ?_
  refine tq_vret (M := mX5_copy) (pc := 28) dX5_copy_28 rfl ?_
  cases (Option.some.inj hf)
  exact hQ _ _ ⟨rfl, rfl⟩
abbrev mX3_close : tq_M := (RX3, cX3_close, 3, none, false, [])
def f_X3_close_b7 (i0 : Nat) (s : Int32 × tq_H) : Option ((Int32 × tq_H) ⊕ (tq_H)) := match s with
  | (x1, hh) =>
    if x1 < 0 then
      some (.inr hh)
    else
      (tq_gr hh i0 3 2).bind fun r3 =>
      (tq_is hh r3 5).bind fun _ =>
      (f_X5_get r3 x1 hh).bind fun v4 =>
      (tq_gr hh i0 3 3).bind fun r6 =>
      (tq_gr hh i0 3 3).bind fun r7 =>
      (tq_is hh r7 5).bind fun _ =>
      (f_X5_get r7 v4 hh).bind fun v8 =>
      (tq_gr hh i0 3 3).bind fun r10 =>
      (tq_is hh r10 5).bind fun _ =>
      (f_X5_get r10 x1 hh).bind fun v11 =>
      (tq_is hh r6 5).bind fun _ =>
      (f_X5_set r6 v4 (if v8 < v11 then v11 else v8) hh).bind fun v13 =>
      (tq_gr v13 i0 3 8).bind fun r15 =>
      (tq_gr v13 i0 3 3).bind fun r16 =>
      (tq_is v13 r16 5).bind fun _ =>
      (f_X5_get r16 x1 v13).bind fun v17 =>
      (f_X0_below v17 v13).bind fun v19 =>
      (f_X0_below (x1 + (1 : Int32)) v13).bind fun v20 =>
      (tq_is v13 r15 7).bind fun _ =>
      (f_X7_set r15 x1 (v19 &&& (v20 ^^^ (-1 : Int64))) v13).bind fun v21 =>
      (tq_gr v21 i0 3 6).bind fun r23 =>
      (tq_gl v21 i0 3 11).bind fun x24 =>
      (f_X0_holds x24 x1 v21).bind fun v25 =>
      (if v25 = 0 then
        (tq_is v21 i0 3).bind fun _ =>
        (f_X3_children i0 v4 v21).bind fun v26 =>
        some v26
      else
        some (0 : Int64)).bind fun p28 =>
      (tq_is v21 r23 7).bind fun _ =>
      (f_X7_set r23 x1 p28 v21).bind fun v29 =>
      tq_let (x1 + (-1 : Int32)) fun x31 =>
      some (.inl (x31, v29))
def f_X3_close (t : Nat) (h : tq_H) : Option (tq_H) :=
  (tq_gi h t 3 12).bind fun x1 =>
  tq_let ((x1 - (1 : Int32))) fun x2 =>
  (tq_loop (f_X3_close_b7 t) tq_N (x2, h)).bind fun o32 =>
  some o32
set_option maxHeartbeats 4000000 in
theorem l_X3_close_7 {l : Launch} {d : Nat} {Q : tq_R → tq_H → Prop} (hd9 : 2 ≤ d) (i0 : Nat) : ∀ (n : Nat) (x1 : Int32) (hh : tq_H) (o : tq_H), tq_loop (f_X3_close_b7 i0) n (x1, hh) = some o → tq_W l mX3_close d 0 0 Q 111 [] [] o → tq_W l mX3_close d 0 0 Q 7 [(0, .ref i0), (1, .int x1)] [] hh := by
  intro n
  induction n with
  | zero => intro x1 hh o hl; cases hl
  | succ n ih =>
    intro x1 hh o hl hk
    obtain ⟨oo, hf, ho⟩ := tq_loop_s hl
    refine tq_iload_n (M := mX3_close) (pc := 7) dX3_close_7 rfl ?_
    refine tq_if_lt (M := mX3_close) (pc := 8) (tgt := 111) dX3_close_8 (by decide) (fun cc => ?_) (fun cc => ?_)
    · have hf := tq_ifp hf cc
      cases (Option.some.inj hf)
      cases (tq_lx ho)
      refine tq_pick (L2 := []) [] rfl ?_
      exact hk
    · have hf := tq_ifn hf cc
      refine tq_aload_n (M := mX3_close) (pc := 11) dX3_close_11 rfl ?_
      obtain ⟨r3, er3, hf⟩ := tq_be hf
      refine tq_getR (M := mX3_close) (pc := 12) tk_c3 (by decide) dX3_close_12 tk_RX3_23 rfl er3 ?_
      refine tq_iload_n (M := mX3_close) (pc := 15) dX3_close_15 rfl ?_
      obtain ⟨⟨⟩, eu5, hf⟩ := tq_be hf
      obtain ⟨fsu5, eu5⟩ := tq_is_s eu5
      obtain ⟨v4, ev4, hf⟩ := tq_be hf
      refine tq_calV (M := mX3_close) (pc := 16) (S := []) tk_y_X5_get tk_v_X5_get tk_RX3_88 dX3_close_16 [.int x1] rfl (S0 := _) rfl eu5 rfl (Nat.le_of_ble_eq_true rfl) (d1 := d - 1) (b1 := 0) (s1 := 0) (bc' := 0) (bs' := 0) (Q1 := fun r h9 => r = .inl (some (.int v4)) ∧ hh = h9) (by omega) rfl rfl (w_X5_get (by omega) ev4 (fun _ _ q => q)) (fun E h9 q => nomatch (show (Sum.inr E : tq_R) = Sum.inl _ from q.1)) (fun r9 h9 q => ?_)
      obtain ⟨q1, rfl⟩ := q
      cases (show (Sum.inl r9 : tq_R) = Sum.inl (some (.int v4)) from q1)
      refine tq_istore_n (M := mX3_close) (pc := 19) rfl dX3_close_19 (L2 := [(2, .int v4), (0, .ref i0), (1, .int x1)]) (by decide) rfl ?_
      refine tq_aload_n (M := mX3_close) (pc := 20) dX3_close_20 rfl ?_
      obtain ⟨r6, er6, hf⟩ := tq_be hf
      refine tq_getR (M := mX3_close) (pc := 21) tk_c3 (by decide) dX3_close_21 tk_RX3_26 rfl er6 ?_
      refine tq_iload_n (M := mX3_close) (pc := 24) dX3_close_24 rfl ?_
      refine tq_aload_n (M := mX3_close) (pc := 25) dX3_close_25 rfl ?_
      obtain ⟨r7, er7, hf⟩ := tq_be hf
      refine tq_getR (M := mX3_close) (pc := 26) tk_c3 (by decide) dX3_close_26 tk_RX3_26 rfl er7 ?_
      refine tq_iload_n (M := mX3_close) (pc := 29) dX3_close_29 rfl ?_
      obtain ⟨⟨⟩, eu9, hf⟩ := tq_be hf
      obtain ⟨fsu9, eu9⟩ := tq_is_s eu9
      obtain ⟨v8, ev8, hf⟩ := tq_be hf
      refine tq_calV (M := mX3_close) (pc := 30) (S := [.int v4, .ref r6]) tk_y_X5_get tk_v_X5_get tk_RX3_88 dX3_close_30 [.int v4] rfl (S0 := _) rfl eu9 rfl (Nat.le_of_ble_eq_true rfl) (d1 := d - 1) (b1 := 0) (s1 := 0) (bc' := 0) (bs' := 0) (Q1 := fun r h9 => r = .inl (some (.int v8)) ∧ hh = h9) (by omega) rfl rfl (w_X5_get (by omega) ev8 (fun _ _ q => q)) (fun E h9 q => nomatch (show (Sum.inr E : tq_R) = Sum.inl _ from q.1)) (fun r9 h9 q => ?_)
      obtain ⟨q1, rfl⟩ := q
      cases (show (Sum.inl r9 : tq_R) = Sum.inl (some (.int v8)) from q1)
      refine tq_aload_n (M := mX3_close) (pc := 33) dX3_close_33 rfl ?_
      obtain ⟨r10, er10, hf⟩ := tq_be hf
      refine tq_getR (M := mX3_close) (pc := 34) tk_c3 (by decide) dX3_close_34 tk_RX3_26 rfl er10 ?_
      refine tq_iload_n (M := mX3_close) (pc := 37) dX3_close_37 rfl ?_
      obtain ⟨⟨⟩, eu12, hf⟩ := tq_be hf
      obtain ⟨fsu12, eu12⟩ := tq_is_s eu12
      obtain ⟨v11, ev11, hf⟩ := tq_be hf
      refine tq_calV (M := mX3_close) (pc := 38) (S := [.int v8, .int v4, .ref r6]) tk_y_X5_get tk_v_X5_get tk_RX3_88 dX3_close_38 [.int x1] rfl (S0 := _) rfl eu12 rfl (Nat.le_of_ble_eq_true rfl) (d1 := d - 1) (b1 := 0) (s1 := 0) (bc' := 0) (bs' := 0) (Q1 := fun r h9 => r = .inl (some (.int v11)) ∧ hh = h9) (by omega) rfl rfl (w_X5_get (by omega) ev11 (fun _ _ q => q)) (fun E h9 q => nomatch (show (Sum.inr E : tq_R) = Sum.inl _ from q.1)) (fun r9 h9 q => ?_)
      obtain ⟨q1, rfl⟩ := q
      cases (show (Sum.inl r9 : tq_R) = Sum.inl (some (.int v11)) from q1)
      refine tq_mmax (M := mX3_close) (pc := 41) 91 dX3_close_41 tk_RX3_91 tk_max_s tk_math tk_max_c (by omega) (Nat.le_of_ble_eq_true rfl) ?_
      obtain ⟨⟨⟩, eu14, hf⟩ := tq_be hf
      obtain ⟨fsu14, eu14⟩ := tq_is_s eu14
      obtain ⟨v13, ev13, hf⟩ := tq_be hf
      refine tq_calV (M := mX3_close) (pc := 44) (S := []) tk_y_X5_set tk_v_X5_set tk_RX3_70 dX3_close_44 [.int v4, .int ((if v8 < v11 then v11 else v8))] rfl (S0 := _) rfl eu14 rfl (Nat.le_of_ble_eq_true rfl) (d1 := d - 1) (b1 := 0) (s1 := 0) (bc' := 0) (bs' := 0) (Q1 := fun r h9 => r = .inl none ∧ v13 = h9) (by omega) rfl rfl (w_X5_set (by omega) ev13 (fun _ _ q => q)) (fun E h9 q => nomatch (show (Sum.inr E : tq_R) = Sum.inl _ from q.1)) (fun r9 h9 q => ?_)
      obtain ⟨q1, rfl⟩ := q
      cases (show (Sum.inl r9 : tq_R) = Sum.inl (none) from q1)
      refine tq_aload_n (M := mX3_close) (pc := 47) dX3_close_47 rfl ?_
      obtain ⟨r15, er15, hf⟩ := tq_be hf
      refine tq_getR (M := mX3_close) (pc := 48) tk_c3 (by decide) dX3_close_48 tk_RX3_47 rfl er15 ?_
      refine tq_iload_n (M := mX3_close) (pc := 51) dX3_close_51 rfl ?_
      refine tq_aload_n (M := mX3_close) (pc := 52) dX3_close_52 rfl ?_
      obtain ⟨r16, er16, hf⟩ := tq_be hf
      refine tq_getR (M := mX3_close) (pc := 53) tk_c3 (by decide) dX3_close_53 tk_RX3_26 rfl er16 ?_
      refine tq_iload_n (M := mX3_close) (pc := 56) dX3_close_56 rfl ?_
      obtain ⟨⟨⟩, eu18, hf⟩ := tq_be hf
      obtain ⟨fsu18, eu18⟩ := tq_is_s eu18
      obtain ⟨v17, ev17, hf⟩ := tq_be hf
      refine tq_calV (M := mX3_close) (pc := 57) (S := [.int x1, .ref r15]) tk_y_X5_get tk_v_X5_get tk_RX3_88 dX3_close_57 [.int x1] rfl (S0 := _) rfl eu18 rfl (Nat.le_of_ble_eq_true rfl) (d1 := d - 1) (b1 := 0) (s1 := 0) (bc' := 0) (bs' := 0) (Q1 := fun r h9 => r = .inl (some (.int v17)) ∧ v13 = h9) (by omega) rfl rfl (w_X5_get (by omega) ev17 (fun _ _ q => q)) (fun E h9 q => nomatch (show (Sum.inr E : tq_R) = Sum.inl _ from q.1)) (fun r9 h9 q => ?_)
      obtain ⟨q1, rfl⟩ := q
      cases (show (Sum.inl r9 : tq_R) = Sum.inl (some (.int v17)) from q1)
      obtain ⟨v19, ev19, hf⟩ := tq_be hf
      refine tq_calS (M := mX3_close) (pc := 60) (S := [.int x1, .ref r15]) tk_y_X0_below tk_s_X0_below tk_RX3_97 dX3_close_60 [.int v17] rfl (Nat.le_of_ble_eq_true rfl) (d1 := d - 1) (b1 := 0) (s1 := 0) (bc' := 0) (bs' := 0) (Q1 := fun r h9 => r = .inl (some (.long v19)) ∧ v13 = h9) (by omega) rfl rfl (w_X0_below (by omega) ev19 (fun _ _ q => q)) (fun E h9 q => nomatch (show (Sum.inr E : tq_R) = Sum.inl _ from q.1)) (fun r9 h9 q => ?_)
      obtain ⟨q1, rfl⟩ := q
      cases (show (Sum.inl r9 : tq_R) = Sum.inl (some (.long v19)) from q1)
      refine tq_iload_n (M := mX3_close) (pc := 63) dX3_close_63 rfl ?_
      refine tq_iconst (M := mX3_close) (pc := 64) dX3_close_64 tk_ki_1 ?_
      refine tq_iadd (M := mX3_close) (pc := 65) dX3_close_65 ?_
      obtain ⟨v20, ev20, hf⟩ := tq_be hf
      refine tq_calS (M := mX3_close) (pc := 66) (S := [.long v19, .int x1, .ref r15]) tk_y_X0_below tk_s_X0_below tk_RX3_97 dX3_close_66 [.int ((x1 + (1 : Int32)))] rfl (Nat.le_of_ble_eq_true rfl) (d1 := d - 1) (b1 := 0) (s1 := 0) (bc' := 0) (bs' := 0) (Q1 := fun r h9 => r = .inl (some (.long v20)) ∧ v13 = h9) (by omega) rfl rfl (w_X0_below (by omega) ev20 (fun _ _ q => q)) (fun E h9 q => nomatch (show (Sum.inr E : tq_R) = Sum.inl _ from q.1)) (fun r9 h9 q => ?_)
      obtain ⟨q1, rfl⟩ := q
      cases (show (Sum.inl r9 : tq_R) = Sum.inl (some (.long v20)) from q1)
      refine tq_ldc2 (M := mX3_close) (pc := 69) dX3_close_69 tk_RX3_99 ?_
      refine tq_lxor (M := mX3_close) (pc := 72) dX3_close_72 ?_
      refine tq_land (M := mX3_close) (pc := 73) dX3_close_73 ?_
      obtain ⟨⟨⟩, eu22, hf⟩ := tq_be hf
      obtain ⟨fsu22, eu22⟩ := tq_is_s eu22
      obtain ⟨v21, ev21, hf⟩ := tq_be hf
      refine tq_calV (M := mX3_close) (pc := 74) (S := []) tk_y_X7_set tk_v_X7_set tk_RX3_85 dX3_close_74 [.int x1, .long ((v19 &&& (v20 ^^^ (-1 : Int64))))] rfl (S0 := _) rfl eu22 rfl (Nat.le_of_ble_eq_true rfl) (d1 := d - 1) (b1 := 0) (s1 := 0) (bc' := 0) (bs' := 0) (Q1 := fun r h9 => r = .inl none ∧ v21 = h9) (by omega) rfl rfl (w_X7_set (by omega) ev21 (fun _ _ q => q)) (fun E h9 q => nomatch (show (Sum.inr E : tq_R) = Sum.inl _ from q.1)) (fun r9 h9 q => ?_)
      obtain ⟨q1, rfl⟩ := q
      cases (show (Sum.inl r9 : tq_R) = Sum.inl (none) from q1)
      refine tq_aload_n (M := mX3_close) (pc := 77) dX3_close_77 rfl ?_
      obtain ⟨r23, er23, hf⟩ := tq_be hf
      refine tq_getR (M := mX3_close) (pc := 78) tk_c3 (by decide) dX3_close_78 tk_RX3_41 rfl er23 ?_
      refine tq_iload_n (M := mX3_close) (pc := 81) dX3_close_81 rfl ?_
      refine tq_aload_n (M := mX3_close) (pc := 82) dX3_close_82 rfl ?_
      obtain ⟨x24, ex24, hf⟩ := tq_be hf
      refine tq_getL (M := mX3_close) (pc := 83) tk_c3 (by decide) dX3_close_83 tk_RX3_57 rfl ex24 ?_
      refine tq_iload_n (M := mX3_close) (pc := 86) dX3_close_86 rfl ?_
      obtain ⟨v25, ev25, hf⟩ := tq_be hf
      refine tq_calS (M := mX3_close) (pc := 87) (S := [.int x1, .ref r23]) tk_y_X0_holds tk_s_X0_holds tk_RX3_101 dX3_close_87 [.long x24, .int x1] rfl (Nat.le_of_ble_eq_true rfl) (d1 := d - 1) (b1 := 0) (s1 := 0) (bc' := 0) (bs' := 0) (Q1 := fun r h9 => r = .inl (some (.int v25)) ∧ v21 = h9) (by omega) rfl rfl (w_X0_holds (by omega) ev25 (fun _ _ q => q)) (fun E h9 q => nomatch (show (Sum.inr E : tq_R) = Sum.inl _ from q.1)) (fun r9 h9 q => ?_)
      obtain ⟨q1, rfl⟩ := q
      cases (show (Sum.inl r9 : tq_R) = Sum.inl (some (.int v25)) from q1)
      obtain ⟨p28, ep28, hf⟩ := tq_be hf
      have HJ90 : tq_W l mX3_close d 0 0 Q 102 [(0, .ref i0), (1, .int x1)] [.long p28, .int x1, .ref r23] v21 := by
        obtain ⟨⟨⟩, eu30, hf⟩ := tq_be hf
        obtain ⟨fsu30, eu30⟩ := tq_is_s eu30
        obtain ⟨v29, ev29, hf⟩ := tq_be hf
        refine tq_calV (M := mX3_close) (pc := 102) (S := []) tk_y_X7_set tk_v_X7_set tk_RX3_85 dX3_close_102 [.int x1, .long p28] rfl (S0 := _) rfl eu30 rfl (Nat.le_of_ble_eq_true rfl) (d1 := d - 1) (b1 := 0) (s1 := 0) (bc' := 0) (bs' := 0) (Q1 := fun r h9 => r = .inl none ∧ v29 = h9) (by omega) rfl rfl (w_X7_set (by omega) ev29 (fun _ _ q => q)) (fun E h9 q => nomatch (show (Sum.inr E : tq_R) = Sum.inl _ from q.1)) (fun r9 h9 q => ?_)
        obtain ⟨q1, rfl⟩ := q
        cases (show (Sum.inl r9 : tq_R) = Sum.inl (none) from q1)
        obtain ⟨x31, ex31, hf⟩ := tq_le hf
        refine tq_iinc (M := mX3_close) (pc := 105) (v := x31) (L2 := [(1, .int x31), (0, .ref i0)]) dX3_close_105 rfl (by rw [ex31, tk_ki_m1]) (by decide) rfl ?_
        refine tq_goto (M := mX3_close) (pc := 108) (tgt := 7) dX3_close_108 (by decide) ?_
        cases (Option.some.inj hf)
        refine tq_pick (L2 := [(0, .ref i0), (1, .int x31)]) [1, 0] rfl ?_
        exact ih _ _ o (tq_lc ho) hk
      refine tq_if_eq (M := mX3_close) (pc := 90) (tgt := 97) dX3_close_90 (by decide) (fun cc => ?_) (fun cc => ?_)
      · have hf := tq_ifp ep28 cc
        refine tq_aload_n (M := mX3_close) (pc := 97) dX3_close_97 rfl ?_
        refine tq_iload_n (M := mX3_close) (pc := 98) dX3_close_98 rfl ?_
        obtain ⟨⟨⟩, eu27, hf⟩ := tq_be hf
        obtain ⟨fsu27, eu27⟩ := tq_is_s eu27
        obtain ⟨v26, ev26, hf⟩ := tq_be hf
        refine tq_calV (M := mX3_close) (pc := 99) (S := [.int x1, .ref r23]) tk_y_X3_children tk_v_X3_children tk_RX3_105 dX3_close_99 [.int v4] rfl (S0 := _) rfl eu27 rfl (Nat.le_of_ble_eq_true rfl) (d1 := d - 1) (b1 := 0) (s1 := 0) (bc' := 0) (bs' := 0) (Q1 := fun r h9 => r = .inl (some (.long v26)) ∧ v21 = h9) (by omega) rfl rfl (w_X3_children (by omega) ev26 (fun _ _ q => q)) (fun E h9 q => nomatch (show (Sum.inr E : tq_R) = Sum.inl _ from q.1)) (fun r9 h9 q => ?_)
        obtain ⟨q1, rfl⟩ := q
        cases (show (Sum.inl r9 : tq_R) = Sum.inl (some (.long v26)) from q1)
        cases (Option.some.inj hf)
        refine tq_pick (L2 := [(0, .ref i0), (1, .int x1)]) [1, 2] rfl ?_
        exact HJ90
      · have hf := tq_ifn ep28 cc
        refine tq_lconst (M := mX3_close) (pc := 93) dX3_close_93 tk_kl_0 ?_
        refine tq_goto (M := mX3_close) (pc := 94) (tgt := 102) dX3_close_94 (by decide) ?_
        cases (Option.some.inj hf)
        refine tq_pick (L2 := [(0, .ref i0), (1, .int x1)]) [1, 2] rfl ?_
        exact HJ90
set_option maxHeartbeats 4000000 in
set_option maxRecDepth 20000 in
theorem w_X3_close {l : Launch} {d : Nat} (hd9 : 2 ≤ d) {t : Nat} {h : tq_H} {o : tq_H} {Q : tq_R → tq_H → Prop} (hf : f_X3_close t h = some o) (hQ : ∀ r h9, r = .inl none ∧ o = h9 → Q r h9) : tq_C l yX3_close cX3_close 3 none d 0 0 [.ref t] h Q := by
  refine tq_body (y := yX3_close) false (by decide +kernel) (fun z => by cases z) (Nat.le_of_ble_eq_true rfl) ?_
  show tq_W l mX3_close d 0 0 Q 0 [(0, .ref t)] [] h
  refine tq_aload_n (M := mX3_close) (pc := 0) dX3_close_0 rfl ?_
  obtain ⟨x1, ex1, hf⟩ := tq_be hf
  refine tq_getI (M := mX3_close) (pc := 1) tk_c3 (by decide) dX3_close_1 tk_RX3_60 rfl ex1 ?_
  refine tq_iconst (M := mX3_close) (pc := 4) dX3_close_4 tk_ki_1 ?_
  refine tq_isub (M := mX3_close) (pc := 5) dX3_close_5 ?_
  obtain ⟨x2, ex2, hf⟩ := tq_le hf
  refine tq_istore_n (M := mX3_close) (pc := 6) rfl dX3_close_6 (L2 := [(1, .int x2), (0, .ref t)]) (by decide) (by rw [ex2]; rfl) ?_
  obtain ⟨o32, eo32, hf⟩ := tq_be hf
  refine tq_pick (L2 := [(0, .ref t), (1, .int x2)]) [1, 0] rfl ?_
  refine l_X3_close_7 (by omega) t _ x2 h _ eo32 ?_
  refine tq_vret (M := mX3_close) (pc := 111) dX3_close_111 rfl ?_
  cases (Option.some.inj hf)
  exact hQ _ _ ⟨rfl, rfl⟩
