/-! ===== printed by wip/whole/tools: Finder, Schema, Edits ===== -/
abbrev cX1_init : ByteArray := prog_3_method_1_code
def yX1_init : MethodName := ⟨RX1, "<init>", "()V"⟩
theorem dX1_init_0 : decode cX1_init 0 = .ok (.aload_n 0, 1) := by decide +kernel
theorem dX1_init_1 : decode cX1_init 1 = .ok (.invokespecial 3, 3) := by decide +kernel
theorem dX1_init_4 : decode cX1_init 4 = .ok (.aload_n 0, 1) := by decide +kernel
theorem dX1_init_5 : decode cX1_init 5 = .ok (.new 9, 3) := by decide +kernel
theorem dX1_init_8 : decode cX1_init 8 = .ok (.dup, 1) := by decide +kernel
theorem dX1_init_9 : decode cX1_init 9 = .ok (.bipush 60, 2) := by decide +kernel
theorem dX1_init_11 : decode cX1_init 11 = .ok (.iconst (-1), 1) := by decide +kernel
theorem dX1_init_12 : decode cX1_init 12 = .ok (.invokespecial 11, 3) := by decide +kernel
theorem dX1_init_15 : decode cX1_init 15 = .ok (.putfield 14, 3) := by decide +kernel
theorem dX1_init_18 : decode cX1_init 18 = .ok (.aload_n 0, 1) := by decide +kernel
theorem dX1_init_19 : decode cX1_init 19 = .ok (.new 9, 3) := by decide +kernel
theorem dX1_init_22 : decode cX1_init 22 = .ok (.dup, 1) := by decide +kernel
theorem dX1_init_23 : decode cX1_init 23 = .ok (.bipush 60, 2) := by decide +kernel
theorem dX1_init_25 : decode cX1_init 25 = .ok (.iconst (-1), 1) := by decide +kernel
theorem dX1_init_26 : decode cX1_init 26 = .ok (.invokespecial 11, 3) := by decide +kernel
theorem dX1_init_29 : decode cX1_init 29 = .ok (.putfield 20, 3) := by decide +kernel
theorem dX1_init_32 : decode cX1_init 32 = .ok (.aload_n 0, 1) := by decide +kernel
theorem dX1_init_33 : decode cX1_init 33 = .ok (.new 9, 3) := by decide +kernel
theorem dX1_init_36 : decode cX1_init 36 = .ok (.dup, 1) := by decide +kernel
theorem dX1_init_37 : decode cX1_init 37 = .ok (.bipush 60, 2) := by decide +kernel
theorem dX1_init_39 : decode cX1_init 39 = .ok (.iconst (-1), 1) := by decide +kernel
theorem dX1_init_40 : decode cX1_init 40 = .ok (.invokespecial 11, 3) := by decide +kernel
theorem dX1_init_43 : decode cX1_init 43 = .ok (.putfield 23, 3) := by decide +kernel
theorem dX1_init_46 : decode cX1_init 46 = .ok (.aload_n 0, 1) := by decide +kernel
theorem dX1_init_47 : decode cX1_init 47 = .ok (.new 9, 3) := by decide +kernel
theorem dX1_init_50 : decode cX1_init 50 = .ok (.dup, 1) := by decide +kernel
theorem dX1_init_51 : decode cX1_init 51 = .ok (.bipush 60, 2) := by decide +kernel
theorem dX1_init_53 : decode cX1_init 53 = .ok (.iconst (-1), 1) := by decide +kernel
theorem dX1_init_54 : decode cX1_init 54 = .ok (.invokespecial 11, 3) := by decide +kernel
theorem dX1_init_57 : decode cX1_init 57 = .ok (.putfield 26, 3) := by decide +kernel
theorem dX1_init_60 : decode cX1_init 60 = .ok (.aload_n 0, 1) := by decide +kernel
theorem dX1_init_61 : decode cX1_init 61 = .ok (.new 9, 3) := by decide +kernel
theorem dX1_init_64 : decode cX1_init 64 = .ok (.dup, 1) := by decide +kernel
theorem dX1_init_65 : decode cX1_init 65 = .ok (.sipush 3721, 3) := by decide +kernel
theorem dX1_init_68 : decode cX1_init 68 = .ok (.iconst 0, 1) := by decide +kernel
theorem dX1_init_69 : decode cX1_init 69 = .ok (.invokespecial 11, 3) := by decide +kernel
theorem dX1_init_72 : decode cX1_init 72 = .ok (.putfield 29, 3) := by decide +kernel
theorem dX1_init_75 : decode cX1_init 75 = .ok (.aload_n 0, 1) := by decide +kernel
theorem dX1_init_76 : decode cX1_init 76 = .ok (.new 9, 3) := by decide +kernel
theorem dX1_init_79 : decode cX1_init 79 = .ok (.dup, 1) := by decide +kernel
theorem dX1_init_80 : decode cX1_init 80 = .ok (.sipush 3721, 3) := by decide +kernel
theorem dX1_init_83 : decode cX1_init 83 = .ok (.iconst 0, 1) := by decide +kernel
theorem dX1_init_84 : decode cX1_init 84 = .ok (.invokespecial 11, 3) := by decide +kernel
theorem dX1_init_87 : decode cX1_init 87 = .ok (.putfield 32, 3) := by decide +kernel
theorem dX1_init_90 : decode cX1_init 90 = .ok (.aload_n 0, 1) := by decide +kernel
theorem dX1_init_91 : decode cX1_init 91 = .ok (.new 9, 3) := by decide +kernel
theorem dX1_init_94 : decode cX1_init 94 = .ok (.dup, 1) := by decide +kernel
theorem dX1_init_95 : decode cX1_init 95 = .ok (.bipush 36, 2) := by decide +kernel
theorem dX1_init_97 : decode cX1_init 97 = .ok (.iconst (-1), 1) := by decide +kernel
theorem dX1_init_98 : decode cX1_init 98 = .ok (.invokespecial 11, 3) := by decide +kernel
theorem dX1_init_101 : decode cX1_init 101 = .ok (.putfield 35, 3) := by decide +kernel
theorem dX1_init_104 : decode cX1_init 104 = .ok (.return_, 1) := by decide +kernel
abbrev cX1_known : ByteArray := prog_3_method_2_code
def yX1_known : MethodName := ⟨RX1, "known", "(II)I"⟩
theorem dX1_known_0 : decode cX1_known 0 = .ok (.aload_n 0, 1) := by decide +kernel
theorem dX1_known_1 : decode cX1_known 1 = .ok (.getfield 35, 3) := by decide +kernel
theorem dX1_known_4 : decode cX1_known 4 = .ok (.iload_n 1, 1) := by decide +kernel
theorem dX1_known_5 : decode cX1_known 5 = .ok (.bipush 6, 2) := by decide +kernel
theorem dX1_known_7 : decode cX1_known 7 = .ok (.imul, 1) := by decide +kernel
theorem dX1_known_8 : decode cX1_known 8 = .ok (.iload_n 2, 1) := by decide +kernel
theorem dX1_known_9 : decode cX1_known 9 = .ok (.iadd, 1) := by decide +kernel
theorem dX1_known_10 : decode cX1_known 10 = .ok (.invokevirtual 38, 3) := by decide +kernel
theorem dX1_known_13 : decode cX1_known 13 = .ok (.ireturn, 1) := by decide +kernel
abbrev cX1_note : ByteArray := prog_3_method_3_code
def yX1_note : MethodName := ⟨RX1, "note", "(III)V"⟩
theorem dX1_note_0 : decode cX1_note 0 = .ok (.aload_n 0, 1) := by decide +kernel
theorem dX1_note_1 : decode cX1_note 1 = .ok (.getfield 35, 3) := by decide +kernel
theorem dX1_note_4 : decode cX1_note 4 = .ok (.iload_n 1, 1) := by decide +kernel
theorem dX1_note_5 : decode cX1_note 5 = .ok (.bipush 6, 2) := by decide +kernel
theorem dX1_note_7 : decode cX1_note 7 = .ok (.imul, 1) := by decide +kernel
theorem dX1_note_8 : decode cX1_note 8 = .ok (.iload_n 2, 1) := by decide +kernel
theorem dX1_note_9 : decode cX1_note 9 = .ok (.iadd, 1) := by decide +kernel
theorem dX1_note_10 : decode cX1_note 10 = .ok (.iload_n 3, 1) := by decide +kernel
theorem dX1_note_11 : decode cX1_note 11 = .ok (.invokevirtual 42, 3) := by decide +kernel
theorem dX1_note_14 : decode cX1_note 14 = .ok (.aload_n 0, 1) := by decide +kernel
theorem dX1_note_15 : decode cX1_note 15 = .ok (.getfield 35, 3) := by decide +kernel
theorem dX1_note_18 : decode cX1_note 18 = .ok (.iload_n 2, 1) := by decide +kernel
theorem dX1_note_19 : decode cX1_note 19 = .ok (.bipush 6, 2) := by decide +kernel
theorem dX1_note_21 : decode cX1_note 21 = .ok (.imul, 1) := by decide +kernel
theorem dX1_note_22 : decode cX1_note 22 = .ok (.iload_n 1, 1) := by decide +kernel
theorem dX1_note_23 : decode cX1_note 23 = .ok (.iadd, 1) := by decide +kernel
theorem dX1_note_24 : decode cX1_note 24 = .ok (.iload_n 3, 1) := by decide +kernel
theorem dX1_note_25 : decode cX1_note 25 = .ok (.invokevirtual 42, 3) := by decide +kernel
theorem dX1_note_28 : decode cX1_note 28 = .ok (.return_, 1) := by decide +kernel
abbrev cX1_line : ByteArray := prog_3_method_5_code
def yX1_line : MethodName := ⟨RX1, "line", "(LTreequery$Layout;LTreequery$Row;LTreequery$Row;)V"⟩
theorem dX1_line_0 : decode cX1_line 0 = .ok (.iconst 0, 1) := by decide +kernel
theorem dX1_line_1 : decode cX1_line 1 = .ok (.istore_n 3, 1) := by decide +kernel
theorem dX1_line_2 : decode cX1_line 2 = .ok (.iload_n 3, 1) := by decide +kernel
theorem dX1_line_3 : decode cX1_line 3 = .ok (.aload_n 0, 1) := by decide +kernel
theorem dX1_line_4 : decode cX1_line 4 = .ok (.invokevirtual 55, 3) := by decide +kernel
theorem dX1_line_7 : decode cX1_line 7 = .ok (.if_icmp .ge 49, 3) := by decide +kernel
theorem dX1_line_10 : decode cX1_line 10 = .ok (.iload_n 3, 1) := by decide +kernel
theorem dX1_line_11 : decode cX1_line 11 = .ok (.aload_n 0, 1) := by decide +kernel
theorem dX1_line_12 : decode cX1_line 12 = .ok (.iload_n 3, 1) := by decide +kernel
theorem dX1_line_13 : decode cX1_line 13 = .ok (.invokevirtual 75, 3) := by decide +kernel
theorem dX1_line_16 : decode cX1_line 16 = .ok (.isub, 1) := by decide +kernel
theorem dX1_line_17 : decode cX1_line 17 = .ok (.istore 4, 2) := by decide +kernel
theorem dX1_line_19 : decode cX1_line 19 = .ok (.iload 4, 2) := by decide +kernel
theorem dX1_line_21 : decode cX1_line 21 = .ok (.aload_n 0, 1) := by decide +kernel
theorem dX1_line_22 : decode cX1_line 22 = .ok (.iload_n 3, 1) := by decide +kernel
theorem dX1_line_23 : decode cX1_line 23 = .ok (.invokevirtual 78, 3) := by decide +kernel
theorem dX1_line_26 : decode cX1_line 26 = .ok (.iadd, 1) := by decide +kernel
theorem dX1_line_27 : decode cX1_line 27 = .ok (.iconst 1, 1) := by decide +kernel
theorem dX1_line_28 : decode cX1_line 28 = .ok (.isub, 1) := by decide +kernel
theorem dX1_line_29 : decode cX1_line 29 = .ok (.istore 5, 2) := by decide +kernel
theorem dX1_line_31 : decode cX1_line 31 = .ok (.aload_n 1, 1) := by decide +kernel
theorem dX1_line_32 : decode cX1_line 32 = .ok (.iload 5, 2) := by decide +kernel
theorem dX1_line_34 : decode cX1_line 34 = .ok (.aload_n 0, 1) := by decide +kernel
theorem dX1_line_35 : decode cX1_line 35 = .ok (.iload_n 3, 1) := by decide +kernel
theorem dX1_line_36 : decode cX1_line 36 = .ok (.invokevirtual 81, 3) := by decide +kernel
theorem dX1_line_39 : decode cX1_line 39 = .ok (.invokevirtual 42, 3) := by decide +kernel
theorem dX1_line_42 : decode cX1_line 42 = .ok (.aload_n 2, 1) := by decide +kernel
theorem dX1_line_43 : decode cX1_line 43 = .ok (.iload 5, 2) := by decide +kernel
theorem dX1_line_45 : decode cX1_line 45 = .ok (.iload 4, 2) := by decide +kernel
theorem dX1_line_47 : decode cX1_line 47 = .ok (.invokevirtual 42, 3) := by decide +kernel
theorem dX1_line_50 : decode cX1_line 50 = .ok (.iinc 3 1, 3) := by decide +kernel
theorem dX1_line_53 : decode cX1_line 53 = .ok (.goto (-51), 3) := by decide +kernel
theorem dX1_line_56 : decode cX1_line 56 = .ok (.return_, 1) := by decide +kernel
abbrev cX1_outermost : ByteArray := prog_3_method_6_code
def yX1_outermost : MethodName := ⟨RX1, "outermost", "(LTreequery$Row;I)J"⟩
theorem dX1_outermost_0 : decode cX1_outermost 0 = .ok (.lconst 0, 1) := by decide +kernel
theorem dX1_outermost_1 : decode cX1_outermost 1 = .ok (.lstore_n 2, 1) := by decide +kernel
theorem dX1_outermost_2 : decode cX1_outermost 2 = .ok (.lconst 0, 1) := by decide +kernel
theorem dX1_outermost_3 : decode cX1_outermost 3 = .ok (.lstore 4, 2) := by decide +kernel
theorem dX1_outermost_5 : decode cX1_outermost 5 = .ok (.iload_n 1, 1) := by decide +kernel
theorem dX1_outermost_6 : decode cX1_outermost 6 = .ok (.iconst 1, 1) := by decide +kernel
theorem dX1_outermost_7 : decode cX1_outermost 7 = .ok (.isub, 1) := by decide +kernel
theorem dX1_outermost_8 : decode cX1_outermost 8 = .ok (.istore 6, 2) := by decide +kernel
theorem dX1_outermost_10 : decode cX1_outermost 10 = .ok (.iload 6, 2) := by decide +kernel
theorem dX1_outermost_12 : decode cX1_outermost 12 = .ok (.ifCond .lt 45, 3) := by decide +kernel
theorem dX1_outermost_15 : decode cX1_outermost 15 = .ok (.lload 4, 2) := by decide +kernel
theorem dX1_outermost_17 : decode cX1_outermost 17 = .ok (.aload_n 0, 1) := by decide +kernel
theorem dX1_outermost_18 : decode cX1_outermost 18 = .ok (.iload 6, 2) := by decide +kernel
theorem dX1_outermost_20 : decode cX1_outermost 20 = .ok (.invokevirtual 38, 3) := by decide +kernel
theorem dX1_outermost_23 : decode cX1_outermost 23 = .ok (.invokestatic 65, 3) := by decide +kernel
theorem dX1_outermost_26 : decode cX1_outermost 26 = .ok (.ifCond .ne 11, 3) := by decide +kernel
theorem dX1_outermost_29 : decode cX1_outermost 29 = .ok (.lload_n 2, 1) := by decide +kernel
theorem dX1_outermost_30 : decode cX1_outermost 30 = .ok (.iload 6, 2) := by decide +kernel
theorem dX1_outermost_32 : decode cX1_outermost 32 = .ok (.invokestatic 84, 3) := by decide +kernel
theorem dX1_outermost_35 : decode cX1_outermost 35 = .ok (.lor, 1) := by decide +kernel
theorem dX1_outermost_36 : decode cX1_outermost 36 = .ok (.lstore_n 2, 1) := by decide +kernel
theorem dX1_outermost_37 : decode cX1_outermost 37 = .ok (.lload 4, 2) := by decide +kernel
theorem dX1_outermost_39 : decode cX1_outermost 39 = .ok (.aload_n 0, 1) := by decide +kernel
theorem dX1_outermost_40 : decode cX1_outermost 40 = .ok (.iload 6, 2) := by decide +kernel
theorem dX1_outermost_42 : decode cX1_outermost 42 = .ok (.invokevirtual 38, 3) := by decide +kernel
theorem dX1_outermost_45 : decode cX1_outermost 45 = .ok (.invokestatic 84, 3) := by decide +kernel
theorem dX1_outermost_48 : decode cX1_outermost 48 = .ok (.lor, 1) := by decide +kernel
theorem dX1_outermost_49 : decode cX1_outermost 49 = .ok (.lstore 4, 2) := by decide +kernel
theorem dX1_outermost_51 : decode cX1_outermost 51 = .ok (.iinc 6 (-1), 3) := by decide +kernel
theorem dX1_outermost_54 : decode cX1_outermost 54 = .ok (.goto (-44), 3) := by decide +kernel
theorem dX1_outermost_57 : decode cX1_outermost 57 = .ok (.lload_n 2, 1) := by decide +kernel
theorem dX1_outermost_58 : decode cX1_outermost 58 = .ok (.lreturn, 1) := by decide +kernel
abbrev cX1_compareForests : ByteArray := prog_3_method_8_code
def yX1_compareForests : MethodName := ⟨RX1, "compareForests", "(IIIII)V"⟩
theorem dX1_compareForests_0 : decode cX1_compareForests 0 = .ok (.iload_n 1, 1) := by decide +kernel
theorem dX1_compareForests_1 : decode cX1_compareForests 1 = .ok (.iload_n 2, 1) := by decide +kernel
theorem dX1_compareForests_2 : decode cX1_compareForests 2 = .ok (.isub, 1) := by decide +kernel
theorem dX1_compareForests_3 : decode cX1_compareForests 3 = .ok (.iconst 1, 1) := by decide +kernel
theorem dX1_compareForests_4 : decode cX1_compareForests 4 = .ok (.iadd, 1) := by decide +kernel
theorem dX1_compareForests_5 : decode cX1_compareForests 5 = .ok (.istore 6, 2) := by decide +kernel
theorem dX1_compareForests_7 : decode cX1_compareForests 7 = .ok (.iload_n 3, 1) := by decide +kernel
theorem dX1_compareForests_8 : decode cX1_compareForests 8 = .ok (.iload 4, 2) := by decide +kernel
theorem dX1_compareForests_10 : decode cX1_compareForests 10 = .ok (.isub, 1) := by decide +kernel
theorem dX1_compareForests_11 : decode cX1_compareForests 11 = .ok (.iconst 1, 1) := by decide +kernel
theorem dX1_compareForests_12 : decode cX1_compareForests 12 = .ok (.iadd, 1) := by decide +kernel
theorem dX1_compareForests_13 : decode cX1_compareForests 13 = .ok (.istore 7, 2) := by decide +kernel
theorem dX1_compareForests_15 : decode cX1_compareForests 15 = .ok (.aload_n 0, 1) := by decide +kernel
theorem dX1_compareForests_16 : decode cX1_compareForests 16 = .ok (.getfield 32, 3) := by decide +kernel
theorem dX1_compareForests_19 : decode cX1_compareForests 19 = .ok (.iload 6, 2) := by decide +kernel
theorem dX1_compareForests_21 : decode cX1_compareForests 21 = .ok (.iconst 1, 1) := by decide +kernel
theorem dX1_compareForests_22 : decode cX1_compareForests 22 = .ok (.isub, 1) := by decide +kernel
theorem dX1_compareForests_23 : decode cX1_compareForests 23 = .ok (.bipush 61, 2) := by decide +kernel
theorem dX1_compareForests_25 : decode cX1_compareForests 25 = .ok (.imul, 1) := by decide +kernel
theorem dX1_compareForests_26 : decode cX1_compareForests 26 = .ok (.iload 7, 2) := by decide +kernel
theorem dX1_compareForests_28 : decode cX1_compareForests 28 = .ok (.iadd, 1) := by decide +kernel
theorem dX1_compareForests_29 : decode cX1_compareForests 29 = .ok (.invokevirtual 38, 3) := by decide +kernel
theorem dX1_compareForests_32 : decode cX1_compareForests 32 = .ok (.aload_n 0, 1) := by decide +kernel
theorem dX1_compareForests_33 : decode cX1_compareForests 33 = .ok (.getfield 32, 3) := by decide +kernel
theorem dX1_compareForests_36 : decode cX1_compareForests 36 = .ok (.iload 6, 2) := by decide +kernel
theorem dX1_compareForests_38 : decode cX1_compareForests 38 = .ok (.bipush 61, 2) := by decide +kernel
theorem dX1_compareForests_40 : decode cX1_compareForests 40 = .ok (.imul, 1) := by decide +kernel
theorem dX1_compareForests_41 : decode cX1_compareForests 41 = .ok (.iload 7, 2) := by decide +kernel
theorem dX1_compareForests_43 : decode cX1_compareForests 43 = .ok (.iadd, 1) := by decide +kernel
theorem dX1_compareForests_44 : decode cX1_compareForests 44 = .ok (.iconst 1, 1) := by decide +kernel
theorem dX1_compareForests_45 : decode cX1_compareForests 45 = .ok (.isub, 1) := by decide +kernel
theorem dX1_compareForests_46 : decode cX1_compareForests 46 = .ok (.invokevirtual 38, 3) := by decide +kernel
theorem dX1_compareForests_49 : decode cX1_compareForests 49 = .ok (.invokestatic 96, 3) := by decide +kernel
theorem dX1_compareForests_52 : decode cX1_compareForests 52 = .ok (.iconst 1, 1) := by decide +kernel
theorem dX1_compareForests_53 : decode cX1_compareForests 53 = .ok (.iadd, 1) := by decide +kernel
theorem dX1_compareForests_54 : decode cX1_compareForests 54 = .ok (.istore 8, 2) := by decide +kernel
theorem dX1_compareForests_56 : decode cX1_compareForests 56 = .ok (.aload_n 0, 1) := by decide +kernel
theorem dX1_compareForests_57 : decode cX1_compareForests 57 = .ok (.getfield 20, 3) := by decide +kernel
theorem dX1_compareForests_60 : decode cX1_compareForests 60 = .ok (.iload_n 1, 1) := by decide +kernel
theorem dX1_compareForests_61 : decode cX1_compareForests 61 = .ok (.invokevirtual 38, 3) := by decide +kernel
theorem dX1_compareForests_64 : decode cX1_compareForests 64 = .ok (.iload_n 2, 1) := by decide +kernel
theorem dX1_compareForests_65 : decode cX1_compareForests 65 = .ok (.if_icmp .ne 63, 3) := by decide +kernel
theorem dX1_compareForests_68 : decode cX1_compareForests 68 = .ok (.aload_n 0, 1) := by decide +kernel
theorem dX1_compareForests_69 : decode cX1_compareForests 69 = .ok (.getfield 26, 3) := by decide +kernel
theorem dX1_compareForests_72 : decode cX1_compareForests 72 = .ok (.iload_n 3, 1) := by decide +kernel
theorem dX1_compareForests_73 : decode cX1_compareForests 73 = .ok (.invokevirtual 38, 3) := by decide +kernel
theorem dX1_compareForests_76 : decode cX1_compareForests 76 = .ok (.iload 4, 2) := by decide +kernel
theorem dX1_compareForests_78 : decode cX1_compareForests 78 = .ok (.if_icmp .ne 50, 3) := by decide +kernel
theorem dX1_compareForests_81 : decode cX1_compareForests 81 = .ok (.iload 8, 2) := by decide +kernel
theorem dX1_compareForests_83 : decode cX1_compareForests 83 = .ok (.aload_n 0, 1) := by decide +kernel
theorem dX1_compareForests_84 : decode cX1_compareForests 84 = .ok (.getfield 32, 3) := by decide +kernel
theorem dX1_compareForests_87 : decode cX1_compareForests 87 = .ok (.iload 6, 2) := by decide +kernel
theorem dX1_compareForests_89 : decode cX1_compareForests 89 = .ok (.iconst 1, 1) := by decide +kernel
theorem dX1_compareForests_90 : decode cX1_compareForests 90 = .ok (.isub, 1) := by decide +kernel
theorem dX1_compareForests_91 : decode cX1_compareForests 91 = .ok (.bipush 61, 2) := by decide +kernel
theorem dX1_compareForests_93 : decode cX1_compareForests 93 = .ok (.imul, 1) := by decide +kernel
theorem dX1_compareForests_94 : decode cX1_compareForests 94 = .ok (.iload 7, 2) := by decide +kernel
theorem dX1_compareForests_96 : decode cX1_compareForests 96 = .ok (.iadd, 1) := by decide +kernel
theorem dX1_compareForests_97 : decode cX1_compareForests 97 = .ok (.iconst 1, 1) := by decide +kernel
theorem dX1_compareForests_98 : decode cX1_compareForests 98 = .ok (.isub, 1) := by decide +kernel
theorem dX1_compareForests_99 : decode cX1_compareForests 99 = .ok (.invokevirtual 38, 3) := by decide +kernel
theorem dX1_compareForests_102 : decode cX1_compareForests 102 = .ok (.iload 5, 2) := by decide +kernel
theorem dX1_compareForests_104 : decode cX1_compareForests 104 = .ok (.iadd, 1) := by decide +kernel
theorem dX1_compareForests_105 : decode cX1_compareForests 105 = .ok (.invokestatic 96, 3) := by decide +kernel
theorem dX1_compareForests_108 : decode cX1_compareForests 108 = .ok (.istore 8, 2) := by decide +kernel
theorem dX1_compareForests_110 : decode cX1_compareForests 110 = .ok (.aload_n 0, 1) := by decide +kernel
theorem dX1_compareForests_111 : decode cX1_compareForests 111 = .ok (.getfield 29, 3) := by decide +kernel
theorem dX1_compareForests_114 : decode cX1_compareForests 114 = .ok (.iload_n 1, 1) := by decide +kernel
theorem dX1_compareForests_115 : decode cX1_compareForests 115 = .ok (.bipush 61, 2) := by decide +kernel
theorem dX1_compareForests_117 : decode cX1_compareForests 117 = .ok (.imul, 1) := by decide +kernel
theorem dX1_compareForests_118 : decode cX1_compareForests 118 = .ok (.iload_n 3, 1) := by decide +kernel
theorem dX1_compareForests_119 : decode cX1_compareForests 119 = .ok (.iadd, 1) := by decide +kernel
theorem dX1_compareForests_120 : decode cX1_compareForests 120 = .ok (.iload 8, 2) := by decide +kernel
theorem dX1_compareForests_122 : decode cX1_compareForests 122 = .ok (.invokevirtual 42, 3) := by decide +kernel
theorem dX1_compareForests_125 : decode cX1_compareForests 125 = .ok (.goto 60, 3) := by decide +kernel
theorem dX1_compareForests_128 : decode cX1_compareForests 128 = .ok (.aload_n 0, 1) := by decide +kernel
theorem dX1_compareForests_129 : decode cX1_compareForests 129 = .ok (.getfield 32, 3) := by decide +kernel
theorem dX1_compareForests_132 : decode cX1_compareForests 132 = .ok (.aload_n 0, 1) := by decide +kernel
theorem dX1_compareForests_133 : decode cX1_compareForests 133 = .ok (.getfield 20, 3) := by decide +kernel
theorem dX1_compareForests_136 : decode cX1_compareForests 136 = .ok (.iload_n 1, 1) := by decide +kernel
theorem dX1_compareForests_137 : decode cX1_compareForests 137 = .ok (.invokevirtual 38, 3) := by decide +kernel
theorem dX1_compareForests_140 : decode cX1_compareForests 140 = .ok (.iload_n 2, 1) := by decide +kernel
theorem dX1_compareForests_141 : decode cX1_compareForests 141 = .ok (.isub, 1) := by decide +kernel
theorem dX1_compareForests_142 : decode cX1_compareForests 142 = .ok (.bipush 61, 2) := by decide +kernel
theorem dX1_compareForests_144 : decode cX1_compareForests 144 = .ok (.imul, 1) := by decide +kernel
theorem dX1_compareForests_145 : decode cX1_compareForests 145 = .ok (.aload_n 0, 1) := by decide +kernel
theorem dX1_compareForests_146 : decode cX1_compareForests 146 = .ok (.getfield 26, 3) := by decide +kernel
theorem dX1_compareForests_149 : decode cX1_compareForests 149 = .ok (.iload_n 3, 1) := by decide +kernel
theorem dX1_compareForests_150 : decode cX1_compareForests 150 = .ok (.invokevirtual 38, 3) := by decide +kernel
theorem dX1_compareForests_153 : decode cX1_compareForests 153 = .ok (.iadd, 1) := by decide +kernel
theorem dX1_compareForests_154 : decode cX1_compareForests 154 = .ok (.iload 4, 2) := by decide +kernel
theorem dX1_compareForests_156 : decode cX1_compareForests 156 = .ok (.isub, 1) := by decide +kernel
theorem dX1_compareForests_157 : decode cX1_compareForests 157 = .ok (.invokevirtual 38, 3) := by decide +kernel
theorem dX1_compareForests_160 : decode cX1_compareForests 160 = .ok (.istore 9, 2) := by decide +kernel
theorem dX1_compareForests_162 : decode cX1_compareForests 162 = .ok (.iload 8, 2) := by decide +kernel
theorem dX1_compareForests_164 : decode cX1_compareForests 164 = .ok (.iload 9, 2) := by decide +kernel
theorem dX1_compareForests_166 : decode cX1_compareForests 166 = .ok (.aload_n 0, 1) := by decide +kernel
theorem dX1_compareForests_167 : decode cX1_compareForests 167 = .ok (.getfield 29, 3) := by decide +kernel
theorem dX1_compareForests_170 : decode cX1_compareForests 170 = .ok (.iload_n 1, 1) := by decide +kernel
theorem dX1_compareForests_171 : decode cX1_compareForests 171 = .ok (.bipush 61, 2) := by decide +kernel
theorem dX1_compareForests_173 : decode cX1_compareForests 173 = .ok (.imul, 1) := by decide +kernel
theorem dX1_compareForests_174 : decode cX1_compareForests 174 = .ok (.iload_n 3, 1) := by decide +kernel
theorem dX1_compareForests_175 : decode cX1_compareForests 175 = .ok (.iadd, 1) := by decide +kernel
theorem dX1_compareForests_176 : decode cX1_compareForests 176 = .ok (.invokevirtual 38, 3) := by decide +kernel
theorem dX1_compareForests_179 : decode cX1_compareForests 179 = .ok (.iadd, 1) := by decide +kernel
theorem dX1_compareForests_180 : decode cX1_compareForests 180 = .ok (.invokestatic 96, 3) := by decide +kernel
theorem dX1_compareForests_183 : decode cX1_compareForests 183 = .ok (.istore 8, 2) := by decide +kernel
theorem dX1_compareForests_185 : decode cX1_compareForests 185 = .ok (.aload_n 0, 1) := by decide +kernel
theorem dX1_compareForests_186 : decode cX1_compareForests 186 = .ok (.getfield 32, 3) := by decide +kernel
theorem dX1_compareForests_189 : decode cX1_compareForests 189 = .ok (.iload 6, 2) := by decide +kernel
theorem dX1_compareForests_191 : decode cX1_compareForests 191 = .ok (.bipush 61, 2) := by decide +kernel
theorem dX1_compareForests_193 : decode cX1_compareForests 193 = .ok (.imul, 1) := by decide +kernel
theorem dX1_compareForests_194 : decode cX1_compareForests 194 = .ok (.iload 7, 2) := by decide +kernel
theorem dX1_compareForests_196 : decode cX1_compareForests 196 = .ok (.iadd, 1) := by decide +kernel
theorem dX1_compareForests_197 : decode cX1_compareForests 197 = .ok (.iload 8, 2) := by decide +kernel
theorem dX1_compareForests_199 : decode cX1_compareForests 199 = .ok (.invokevirtual 42, 3) := by decide +kernel
theorem dX1_compareForests_202 : decode cX1_compareForests 202 = .ok (.return_, 1) := by decide +kernel
abbrev cX1_compare : ByteArray := prog_3_method_7_code
def yX1_compare : MethodName := ⟨RX1, "compare", "(LTreequery$Tree;LTreequery$Tree;II)V"⟩
theorem dX1_compare_0 : decode cX1_compare 0 = .ok (.aload_n 0, 1) := by decide +kernel
theorem dX1_compare_1 : decode cX1_compare 1 = .ok (.getfield 20, 3) := by decide +kernel
theorem dX1_compare_4 : decode cX1_compare 4 = .ok (.iload_n 3, 1) := by decide +kernel
theorem dX1_compare_5 : decode cX1_compare 5 = .ok (.invokevirtual 38, 3) := by decide +kernel
theorem dX1_compare_8 : decode cX1_compare 8 = .ok (.istore 5, 2) := by decide +kernel
theorem dX1_compare_10 : decode cX1_compare 10 = .ok (.aload_n 0, 1) := by decide +kernel
theorem dX1_compare_11 : decode cX1_compare 11 = .ok (.getfield 26, 3) := by decide +kernel
theorem dX1_compare_14 : decode cX1_compare 14 = .ok (.iload 4, 2) := by decide +kernel
theorem dX1_compare_16 : decode cX1_compare 16 = .ok (.invokevirtual 38, 3) := by decide +kernel
theorem dX1_compare_19 : decode cX1_compare 19 = .ok (.istore 6, 2) := by decide +kernel
theorem dX1_compare_21 : decode cX1_compare 21 = .ok (.iconst 0, 1) := by decide +kernel
theorem dX1_compare_22 : decode cX1_compare 22 = .ok (.istore 7, 2) := by decide +kernel
theorem dX1_compare_24 : decode cX1_compare 24 = .ok (.iload 7, 2) := by decide +kernel
theorem dX1_compare_26 : decode cX1_compare 26 = .ok (.iload_n 3, 1) := by decide +kernel
theorem dX1_compare_27 : decode cX1_compare 27 = .ok (.iload 5, 2) := by decide +kernel
theorem dX1_compare_29 : decode cX1_compare 29 = .ok (.isub, 1) := by decide +kernel
theorem dX1_compare_30 : decode cX1_compare 30 = .ok (.iconst 1, 1) := by decide +kernel
theorem dX1_compare_31 : decode cX1_compare 31 = .ok (.iadd, 1) := by decide +kernel
theorem dX1_compare_32 : decode cX1_compare 32 = .ok (.if_icmp .gt 23, 3) := by decide +kernel
theorem dX1_compare_35 : decode cX1_compare 35 = .ok (.aload_n 0, 1) := by decide +kernel
theorem dX1_compare_36 : decode cX1_compare 36 = .ok (.getfield 32, 3) := by decide +kernel
theorem dX1_compare_39 : decode cX1_compare 39 = .ok (.iload 7, 2) := by decide +kernel
theorem dX1_compare_41 : decode cX1_compare 41 = .ok (.bipush 61, 2) := by decide +kernel
theorem dX1_compare_43 : decode cX1_compare 43 = .ok (.imul, 1) := by decide +kernel
theorem dX1_compare_44 : decode cX1_compare 44 = .ok (.iload 7, 2) := by decide +kernel
theorem dX1_compare_46 : decode cX1_compare 46 = .ok (.invokevirtual 42, 3) := by decide +kernel
theorem dX1_compare_49 : decode cX1_compare 49 = .ok (.iinc 7 1, 3) := by decide +kernel
theorem dX1_compare_52 : decode cX1_compare 52 = .ok (.goto (-28), 3) := by decide +kernel
theorem dX1_compare_55 : decode cX1_compare 55 = .ok (.iconst 0, 1) := by decide +kernel
theorem dX1_compare_56 : decode cX1_compare 56 = .ok (.istore 7, 2) := by decide +kernel
theorem dX1_compare_58 : decode cX1_compare 58 = .ok (.iload 7, 2) := by decide +kernel
theorem dX1_compare_60 : decode cX1_compare 60 = .ok (.iload 4, 2) := by decide +kernel
theorem dX1_compare_62 : decode cX1_compare 62 = .ok (.iload 6, 2) := by decide +kernel
theorem dX1_compare_64 : decode cX1_compare 64 = .ok (.isub, 1) := by decide +kernel
theorem dX1_compare_65 : decode cX1_compare 65 = .ok (.iconst 1, 1) := by decide +kernel
theorem dX1_compare_66 : decode cX1_compare 66 = .ok (.iadd, 1) := by decide +kernel
theorem dX1_compare_67 : decode cX1_compare 67 = .ok (.if_icmp .gt 20, 3) := by decide +kernel
theorem dX1_compare_70 : decode cX1_compare 70 = .ok (.aload_n 0, 1) := by decide +kernel
theorem dX1_compare_71 : decode cX1_compare 71 = .ok (.getfield 32, 3) := by decide +kernel
theorem dX1_compare_74 : decode cX1_compare 74 = .ok (.iload 7, 2) := by decide +kernel
theorem dX1_compare_76 : decode cX1_compare 76 = .ok (.iload 7, 2) := by decide +kernel
theorem dX1_compare_78 : decode cX1_compare 78 = .ok (.invokevirtual 42, 3) := by decide +kernel
theorem dX1_compare_81 : decode cX1_compare 81 = .ok (.iinc 7 1, 3) := by decide +kernel
theorem dX1_compare_84 : decode cX1_compare 84 = .ok (.goto (-26), 3) := by decide +kernel
theorem dX1_compare_87 : decode cX1_compare 87 = .ok (.iload 5, 2) := by decide +kernel
theorem dX1_compare_89 : decode cX1_compare 89 = .ok (.istore 7, 2) := by decide +kernel
theorem dX1_compare_91 : decode cX1_compare 91 = .ok (.iload 7, 2) := by decide +kernel
theorem dX1_compare_93 : decode cX1_compare 93 = .ok (.iload_n 3, 1) := by decide +kernel
theorem dX1_compare_94 : decode cX1_compare 94 = .ok (.if_icmp .gt 73, 3) := by decide +kernel
theorem dX1_compare_97 : decode cX1_compare 97 = .ok (.iload 6, 2) := by decide +kernel
theorem dX1_compare_99 : decode cX1_compare 99 = .ok (.istore 8, 2) := by decide +kernel
theorem dX1_compare_101 : decode cX1_compare 101 = .ok (.iload 8, 2) := by decide +kernel
theorem dX1_compare_103 : decode cX1_compare 103 = .ok (.iload 4, 2) := by decide +kernel
theorem dX1_compare_105 : decode cX1_compare 105 = .ok (.if_icmp .gt 56, 3) := by decide +kernel
theorem dX1_compare_108 : decode cX1_compare 108 = .ok (.aload_n 1, 1) := by decide +kernel
theorem dX1_compare_109 : decode cX1_compare 109 = .ok (.aload_n 0, 1) := by decide +kernel
theorem dX1_compare_110 : decode cX1_compare 110 = .ok (.getfield 14, 3) := by decide +kernel
theorem dX1_compare_113 : decode cX1_compare 113 = .ok (.iload 7, 2) := by decide +kernel
theorem dX1_compare_115 : decode cX1_compare 115 = .ok (.invokevirtual 38, 3) := by decide +kernel
theorem dX1_compare_118 : decode cX1_compare 118 = .ok (.aload_n 2, 1) := by decide +kernel
theorem dX1_compare_119 : decode cX1_compare 119 = .ok (.aload_n 0, 1) := by decide +kernel
theorem dX1_compare_120 : decode cX1_compare 120 = .ok (.getfield 23, 3) := by decide +kernel
theorem dX1_compare_123 : decode cX1_compare 123 = .ok (.iload 8, 2) := by decide +kernel
theorem dX1_compare_125 : decode cX1_compare 125 = .ok (.invokevirtual 38, 3) := by decide +kernel
theorem dX1_compare_128 : decode cX1_compare 128 = .ok (.invokevirtual 88, 3) := by decide +kernel
theorem dX1_compare_131 : decode cX1_compare 131 = .ok (.istore 9, 2) := by decide +kernel
theorem dX1_compare_133 : decode cX1_compare 133 = .ok (.aload_n 0, 1) := by decide +kernel
theorem dX1_compare_134 : decode cX1_compare 134 = .ok (.iload 7, 2) := by decide +kernel
theorem dX1_compare_136 : decode cX1_compare 136 = .ok (.iload 5, 2) := by decide +kernel
theorem dX1_compare_138 : decode cX1_compare 138 = .ok (.iload 8, 2) := by decide +kernel
theorem dX1_compare_140 : decode cX1_compare 140 = .ok (.iload 6, 2) := by decide +kernel
theorem dX1_compare_142 : decode cX1_compare 142 = .ok (.iload 9, 2) := by decide +kernel
theorem dX1_compare_144 : decode cX1_compare 144 = .ok (.ifCond .eq 7, 3) := by decide +kernel
theorem dX1_compare_147 : decode cX1_compare 147 = .ok (.iconst 0, 1) := by decide +kernel
theorem dX1_compare_148 : decode cX1_compare 148 = .ok (.goto 4, 3) := by decide +kernel
theorem dX1_compare_151 : decode cX1_compare 151 = .ok (.iconst 1, 1) := by decide +kernel
theorem dX1_compare_152 : decode cX1_compare 152 = .ok (.invokevirtual 92, 3) := by decide +kernel
theorem dX1_compare_155 : decode cX1_compare 155 = .ok (.iinc 8 1, 3) := by decide +kernel
theorem dX1_compare_158 : decode cX1_compare 158 = .ok (.goto (-57), 3) := by decide +kernel
theorem dX1_compare_161 : decode cX1_compare 161 = .ok (.iinc 7 1, 3) := by decide +kernel
theorem dX1_compare_164 : decode cX1_compare 164 = .ok (.goto (-73), 3) := by decide +kernel
theorem dX1_compare_167 : decode cX1_compare 167 = .ok (.return_, 1) := by decide +kernel
abbrev cX1_count : ByteArray := prog_3_method_4_code
def yX1_count : MethodName := ⟨RX1, "count", "(LTreequery$Tree;LTreequery$Tree;)I"⟩
theorem dX1_count_0 : decode cX1_count 0 = .ok (.aload_n 1, 1) := by decide +kernel
theorem dX1_count_1 : decode cX1_count 1 = .ok (.getfield 45, 3) := by decide +kernel
theorem dX1_count_4 : decode cX1_count 4 = .ok (.aload_n 0, 1) := by decide +kernel
theorem dX1_count_5 : decode cX1_count 5 = .ok (.getfield 14, 3) := by decide +kernel
theorem dX1_count_8 : decode cX1_count 8 = .ok (.aload_n 0, 1) := by decide +kernel
theorem dX1_count_9 : decode cX1_count 9 = .ok (.getfield 20, 3) := by decide +kernel
theorem dX1_count_12 : decode cX1_count 12 = .ok (.invokestatic 51, 3) := by decide +kernel
theorem dX1_count_15 : decode cX1_count 15 = .ok (.aload_n 2, 1) := by decide +kernel
theorem dX1_count_16 : decode cX1_count 16 = .ok (.getfield 45, 3) := by decide +kernel
theorem dX1_count_19 : decode cX1_count 19 = .ok (.aload_n 0, 1) := by decide +kernel
theorem dX1_count_20 : decode cX1_count 20 = .ok (.getfield 23, 3) := by decide +kernel
theorem dX1_count_23 : decode cX1_count 23 = .ok (.aload_n 0, 1) := by decide +kernel
theorem dX1_count_24 : decode cX1_count 24 = .ok (.getfield 26, 3) := by decide +kernel
theorem dX1_count_27 : decode cX1_count 27 = .ok (.invokestatic 51, 3) := by decide +kernel
theorem dX1_count_30 : decode cX1_count 30 = .ok (.aload_n 1, 1) := by decide +kernel
theorem dX1_count_31 : decode cX1_count 31 = .ok (.getfield 45, 3) := by decide +kernel
theorem dX1_count_34 : decode cX1_count 34 = .ok (.invokevirtual 55, 3) := by decide +kernel
theorem dX1_count_37 : decode cX1_count 37 = .ok (.istore_n 3, 1) := by decide +kernel
theorem dX1_count_38 : decode cX1_count 38 = .ok (.aload_n 2, 1) := by decide +kernel
theorem dX1_count_39 : decode cX1_count 39 = .ok (.getfield 45, 3) := by decide +kernel
theorem dX1_count_42 : decode cX1_count 42 = .ok (.invokevirtual 55, 3) := by decide +kernel
theorem dX1_count_45 : decode cX1_count 45 = .ok (.istore 4, 2) := by decide +kernel
theorem dX1_count_47 : decode cX1_count 47 = .ok (.aload_n 0, 1) := by decide +kernel
theorem dX1_count_48 : decode cX1_count 48 = .ok (.getfield 20, 3) := by decide +kernel
theorem dX1_count_51 : decode cX1_count 51 = .ok (.iload_n 3, 1) := by decide +kernel
theorem dX1_count_52 : decode cX1_count 52 = .ok (.invokestatic 61, 3) := by decide +kernel
theorem dX1_count_55 : decode cX1_count 55 = .ok (.lstore 5, 2) := by decide +kernel
theorem dX1_count_57 : decode cX1_count 57 = .ok (.aload_n 0, 1) := by decide +kernel
theorem dX1_count_58 : decode cX1_count 58 = .ok (.getfield 26, 3) := by decide +kernel
theorem dX1_count_61 : decode cX1_count 61 = .ok (.iload 4, 2) := by decide +kernel
theorem dX1_count_63 : decode cX1_count 63 = .ok (.invokestatic 61, 3) := by decide +kernel
theorem dX1_count_66 : decode cX1_count 66 = .ok (.lstore 7, 2) := by decide +kernel
theorem dX1_count_68 : decode cX1_count 68 = .ok (.iconst 0, 1) := by decide +kernel
theorem dX1_count_69 : decode cX1_count 69 = .ok (.istore 9, 2) := by decide +kernel
theorem dX1_count_71 : decode cX1_count 71 = .ok (.iload 9, 2) := by decide +kernel
theorem dX1_count_73 : decode cX1_count 73 = .ok (.iload_n 3, 1) := by decide +kernel
theorem dX1_count_74 : decode cX1_count 74 = .ok (.if_icmp .ge 55, 3) := by decide +kernel
theorem dX1_count_77 : decode cX1_count 77 = .ok (.iconst 0, 1) := by decide +kernel
theorem dX1_count_78 : decode cX1_count 78 = .ok (.istore 10, 2) := by decide +kernel
theorem dX1_count_80 : decode cX1_count 80 = .ok (.iload 10, 2) := by decide +kernel
theorem dX1_count_82 : decode cX1_count 82 = .ok (.iload 4, 2) := by decide +kernel
theorem dX1_count_84 : decode cX1_count 84 = .ok (.if_icmp .ge 39, 3) := by decide +kernel
theorem dX1_count_87 : decode cX1_count 87 = .ok (.lload 5, 2) := by decide +kernel
theorem dX1_count_89 : decode cX1_count 89 = .ok (.iload 9, 2) := by decide +kernel
theorem dX1_count_91 : decode cX1_count 91 = .ok (.invokestatic 65, 3) := by decide +kernel
theorem dX1_count_94 : decode cX1_count 94 = .ok (.ifCond .eq 23, 3) := by decide +kernel
theorem dX1_count_97 : decode cX1_count 97 = .ok (.lload 7, 2) := by decide +kernel
theorem dX1_count_99 : decode cX1_count 99 = .ok (.iload 10, 2) := by decide +kernel
theorem dX1_count_101 : decode cX1_count 101 = .ok (.invokestatic 65, 3) := by decide +kernel
theorem dX1_count_104 : decode cX1_count 104 = .ok (.ifCond .eq 13, 3) := by decide +kernel
theorem dX1_count_107 : decode cX1_count 107 = .ok (.aload_n 0, 1) := by decide +kernel
theorem dX1_count_108 : decode cX1_count 108 = .ok (.aload_n 1, 1) := by decide +kernel
theorem dX1_count_109 : decode cX1_count 109 = .ok (.aload_n 2, 1) := by decide +kernel
theorem dX1_count_110 : decode cX1_count 110 = .ok (.iload 9, 2) := by decide +kernel
theorem dX1_count_112 : decode cX1_count 112 = .ok (.iload 10, 2) := by decide +kernel
theorem dX1_count_114 : decode cX1_count 114 = .ok (.invokevirtual 71, 3) := by decide +kernel
theorem dX1_count_117 : decode cX1_count 117 = .ok (.iinc 10 1, 3) := by decide +kernel
theorem dX1_count_120 : decode cX1_count 120 = .ok (.goto (-40), 3) := by decide +kernel
theorem dX1_count_123 : decode cX1_count 123 = .ok (.iinc 9 1, 3) := by decide +kernel
theorem dX1_count_126 : decode cX1_count 126 = .ok (.goto (-55), 3) := by decide +kernel
theorem dX1_count_129 : decode cX1_count 129 = .ok (.aload_n 0, 1) := by decide +kernel
theorem dX1_count_130 : decode cX1_count 130 = .ok (.getfield 29, 3) := by decide +kernel
theorem dX1_count_133 : decode cX1_count 133 = .ok (.iload_n 3, 1) := by decide +kernel
theorem dX1_count_134 : decode cX1_count 134 = .ok (.iconst 1, 1) := by decide +kernel
theorem dX1_count_135 : decode cX1_count 135 = .ok (.isub, 1) := by decide +kernel
theorem dX1_count_136 : decode cX1_count 136 = .ok (.bipush 61, 2) := by decide +kernel
theorem dX1_count_138 : decode cX1_count 138 = .ok (.imul, 1) := by decide +kernel
theorem dX1_count_139 : decode cX1_count 139 = .ok (.iload 4, 2) := by decide +kernel
theorem dX1_count_141 : decode cX1_count 141 = .ok (.iadd, 1) := by decide +kernel
theorem dX1_count_142 : decode cX1_count 142 = .ok (.iconst 1, 1) := by decide +kernel
theorem dX1_count_143 : decode cX1_count 143 = .ok (.isub, 1) := by decide +kernel
theorem dX1_count_144 : decode cX1_count 144 = .ok (.invokevirtual 38, 3) := by decide +kernel
theorem dX1_count_147 : decode cX1_count 147 = .ok (.ireturn, 1) := by decide +kernel
abbrev cX2_init : ByteArray := prog_4_method_1_code
def yX2_init : MethodName := ⟨RX2, "<init>", "(LTreequery$Tree;LTreequery$Paths;)V"⟩
theorem dX2_init_0 : decode cX2_init 0 = .ok (.aload_n 0, 1) := by decide +kernel
theorem dX2_init_1 : decode cX2_init 1 = .ok (.invokespecial 3, 3) := by decide +kernel
theorem dX2_init_4 : decode cX2_init 4 = .ok (.aload_n 0, 1) := by decide +kernel
theorem dX2_init_5 : decode cX2_init 5 = .ok (.new 9, 3) := by decide +kernel
theorem dX2_init_8 : decode cX2_init 8 = .ok (.dup, 1) := by decide +kernel
theorem dX2_init_9 : decode cX2_init 9 = .ok (.sipush 1200, 3) := by decide +kernel
theorem dX2_init_12 : decode cX2_init 12 = .ok (.invokespecial 11, 3) := by decide +kernel
theorem dX2_init_15 : decode cX2_init 15 = .ok (.putfield 14, 3) := by decide +kernel
theorem dX2_init_18 : decode cX2_init 18 = .ok (.aload_n 0, 1) := by decide +kernel
theorem dX2_init_19 : decode cX2_init 19 = .ok (.new 9, 3) := by decide +kernel
theorem dX2_init_22 : decode cX2_init 22 = .ok (.dup, 1) := by decide +kernel
theorem dX2_init_23 : decode cX2_init 23 = .ok (.bipush 60, 2) := by decide +kernel
theorem dX2_init_25 : decode cX2_init 25 = .ok (.invokespecial 11, 3) := by decide +kernel
theorem dX2_init_28 : decode cX2_init 28 = .ok (.putfield 20, 3) := by decide +kernel
theorem dX2_init_31 : decode cX2_init 31 = .ok (.aload_n 0, 1) := by decide +kernel
theorem dX2_init_32 : decode cX2_init 32 = .ok (.new 23, 3) := by decide +kernel
theorem dX2_init_35 : decode cX2_init 35 = .ok (.dup, 1) := by decide +kernel
theorem dX2_init_36 : decode cX2_init 36 = .ok (.bipush 60, 2) := by decide +kernel
theorem dX2_init_38 : decode cX2_init 38 = .ok (.iconst (-1), 1) := by decide +kernel
theorem dX2_init_39 : decode cX2_init 39 = .ok (.invokespecial 25, 3) := by decide +kernel
theorem dX2_init_42 : decode cX2_init 42 = .ok (.putfield 28, 3) := by decide +kernel
theorem dX2_init_45 : decode cX2_init 45 = .ok (.aload_n 0, 1) := by decide +kernel
theorem dX2_init_46 : decode cX2_init 46 = .ok (.lconst 0, 1) := by decide +kernel
theorem dX2_init_47 : decode cX2_init 47 = .ok (.putfield 32, 3) := by decide +kernel
theorem dX2_init_50 : decode cX2_init 50 = .ok (.aload_n 0, 1) := by decide +kernel
theorem dX2_init_51 : decode cX2_init 51 = .ok (.iconst 0, 1) := by decide +kernel
theorem dX2_init_52 : decode cX2_init 52 = .ok (.putfield 36, 3) := by decide +kernel
theorem dX2_init_55 : decode cX2_init 55 = .ok (.aload_n 0, 1) := by decide +kernel
theorem dX2_init_56 : decode cX2_init 56 = .ok (.aload_n 1, 1) := by decide +kernel
theorem dX2_init_57 : decode cX2_init 57 = .ok (.putfield 40, 3) := by decide +kernel
theorem dX2_init_60 : decode cX2_init 60 = .ok (.aload_n 0, 1) := by decide +kernel
theorem dX2_init_61 : decode cX2_init 61 = .ok (.aload_n 1, 1) := by decide +kernel
theorem dX2_init_62 : decode cX2_init 62 = .ok (.getfield 44, 3) := by decide +kernel
theorem dX2_init_65 : decode cX2_init 65 = .ok (.putfield 50, 3) := by decide +kernel
theorem dX2_init_68 : decode cX2_init 68 = .ok (.aload_n 0, 1) := by decide +kernel
theorem dX2_init_69 : decode cX2_init 69 = .ok (.aload_n 2, 1) := by decide +kernel
theorem dX2_init_70 : decode cX2_init 70 = .ok (.putfield 51, 3) := by decide +kernel
theorem dX2_init_73 : decode cX2_init 73 = .ok (.return_, 1) := by decide +kernel
abbrev cX2_start : ByteArray := prog_4_method_2_code
def yX2_start : MethodName := ⟨RX2, "start", "(J)V"⟩
theorem dX2_start_0 : decode cX2_start 0 = .ok (.aload_n 0, 1) := by decide +kernel
theorem dX2_start_1 : decode cX2_start 1 = .ok (.lload_n 1, 1) := by decide +kernel
theorem dX2_start_2 : decode cX2_start 2 = .ok (.putfield 32, 3) := by decide +kernel
theorem dX2_start_5 : decode cX2_start 5 = .ok (.aload_n 0, 1) := by decide +kernel
theorem dX2_start_6 : decode cX2_start 6 = .ok (.iconst 0, 1) := by decide +kernel
theorem dX2_start_7 : decode cX2_start 7 = .ok (.putfield 36, 3) := by decide +kernel
theorem dX2_start_10 : decode cX2_start 10 = .ok (.iconst 0, 1) := by decide +kernel
theorem dX2_start_11 : decode cX2_start 11 = .ok (.istore_n 3, 1) := by decide +kernel
theorem dX2_start_12 : decode cX2_start 12 = .ok (.iload_n 3, 1) := by decide +kernel
theorem dX2_start_13 : decode cX2_start 13 = .ok (.aload_n 0, 1) := by decide +kernel
theorem dX2_start_14 : decode cX2_start 14 = .ok (.getfield 50, 3) := by decide +kernel
theorem dX2_start_17 : decode cX2_start 17 = .ok (.invokevirtual 55, 3) := by decide +kernel
theorem dX2_start_20 : decode cX2_start 20 = .ok (.if_icmp .ge 29, 3) := by decide +kernel
theorem dX2_start_23 : decode cX2_start 23 = .ok (.aload_n 0, 1) := by decide +kernel
theorem dX2_start_24 : decode cX2_start 24 = .ok (.getfield 28, 3) := by decide +kernel
theorem dX2_start_27 : decode cX2_start 27 = .ok (.iload_n 3, 1) := by decide +kernel
theorem dX2_start_28 : decode cX2_start 28 = .ok (.aload_n 0, 1) := by decide +kernel
theorem dX2_start_29 : decode cX2_start 29 = .ok (.getfield 40, 3) := by decide +kernel
theorem dX2_start_32 : decode cX2_start 32 = .ok (.iload_n 3, 1) := by decide +kernel
theorem dX2_start_33 : decode cX2_start 33 = .ok (.aload_n 0, 1) := by decide +kernel
theorem dX2_start_34 : decode cX2_start 34 = .ok (.getfield 32, 3) := by decide +kernel
theorem dX2_start_37 : decode cX2_start 37 = .ok (.invokevirtual 61, 3) := by decide +kernel
theorem dX2_start_40 : decode cX2_start 40 = .ok (.invokevirtual 65, 3) := by decide +kernel
theorem dX2_start_43 : decode cX2_start 43 = .ok (.iinc 3 1, 3) := by decide +kernel
theorem dX2_start_46 : decode cX2_start 46 = .ok (.goto (-34), 3) := by decide +kernel
theorem dX2_start_49 : decode cX2_start 49 = .ok (.return_, 1) := by decide +kernel
abbrev cX2_dropFrom : ByteArray := prog_4_method_3_code
def yX2_dropFrom : MethodName := ⟨RX2, "dropFrom", "(I)V"⟩
theorem dX2_dropFrom_0 : decode cX2_dropFrom 0 = .ok (.aload_n 0, 1) := by decide +kernel
theorem dX2_dropFrom_1 : decode cX2_dropFrom 1 = .ok (.aload_n 0, 1) := by decide +kernel
theorem dX2_dropFrom_2 : decode cX2_dropFrom 2 = .ok (.getfield 36, 3) := by decide +kernel
theorem dX2_dropFrom_5 : decode cX2_dropFrom 5 = .ok (.iload_n 1, 1) := by decide +kernel
theorem dX2_dropFrom_6 : decode cX2_dropFrom 6 = .ok (.invokestatic 68, 3) := by decide +kernel
theorem dX2_dropFrom_9 : decode cX2_dropFrom 9 = .ok (.putfield 36, 3) := by decide +kernel
theorem dX2_dropFrom_12 : decode cX2_dropFrom 12 = .ok (.return_, 1) := by decide +kernel
abbrev cX2_sees : ByteArray := prog_4_method_4_code
def yX2_sees : MethodName := ⟨RX2, "sees", "(I)Z"⟩
theorem dX2_sees_0 : decode cX2_sees 0 = .ok (.aload_n 0, 1) := by decide +kernel
theorem dX2_sees_1 : decode cX2_sees 1 = .ok (.getfield 32, 3) := by decide +kernel
theorem dX2_sees_4 : decode cX2_sees 4 = .ok (.iload_n 1, 1) := by decide +kernel
theorem dX2_sees_5 : decode cX2_sees 5 = .ok (.invokestatic 74, 3) := by decide +kernel
theorem dX2_sees_8 : decode cX2_sees 8 = .ok (.ireturn, 1) := by decide +kernel
abbrev cX2_foundFrom : ByteArray := prog_4_method_5_code
def yX2_foundFrom : MethodName := ⟨RX2, "foundFrom", "(II)J"⟩
theorem dX2_foundFrom_0 : decode cX2_foundFrom 0 = .ok (.aload_n 0, 1) := by decide +kernel
theorem dX2_foundFrom_1 : decode cX2_foundFrom 1 = .ok (.getfield 14, 3) := by decide +kernel
theorem dX2_foundFrom_4 : decode cX2_foundFrom 4 = .ok (.iload_n 1, 1) := by decide +kernel
theorem dX2_foundFrom_5 : decode cX2_foundFrom 5 = .ok (.bipush 60, 2) := by decide +kernel
theorem dX2_foundFrom_7 : decode cX2_foundFrom 7 = .ok (.imul, 1) := by decide +kernel
theorem dX2_foundFrom_8 : decode cX2_foundFrom 8 = .ok (.iload_n 2, 1) := by decide +kernel
theorem dX2_foundFrom_9 : decode cX2_foundFrom 9 = .ok (.iadd, 1) := by decide +kernel
theorem dX2_foundFrom_10 : decode cX2_foundFrom 10 = .ok (.invokevirtual 80, 3) := by decide +kernel
theorem dX2_foundFrom_13 : decode cX2_foundFrom 13 = .ok (.lreturn, 1) := by decide +kernel
abbrev cX2_reachByPath : ByteArray := prog_4_method_9_code
def yX2_reachByPath : MethodName := ⟨RX2, "reachByPath", "(IJ)V"⟩
theorem dX2_reachByPath_0 : decode cX2_reachByPath 0 = .ok (.iload_n 1, 1) := by decide +kernel
theorem dX2_reachByPath_1 : decode cX2_reachByPath 1 = .ok (.bipush 60, 2) := by decide +kernel
theorem dX2_reachByPath_3 : decode cX2_reachByPath 3 = .ok (.imul, 1) := by decide +kernel
theorem dX2_reachByPath_4 : decode cX2_reachByPath 4 = .ok (.istore 4, 2) := by decide +kernel
theorem dX2_reachByPath_6 : decode cX2_reachByPath 6 = .ok (.iconst 0, 1) := by decide +kernel
theorem dX2_reachByPath_7 : decode cX2_reachByPath 7 = .ok (.istore 5, 2) := by decide +kernel
theorem dX2_reachByPath_9 : decode cX2_reachByPath 9 = .ok (.iload 5, 2) := by decide +kernel
theorem dX2_reachByPath_11 : decode cX2_reachByPath 11 = .ok (.aload_n 0, 1) := by decide +kernel
theorem dX2_reachByPath_12 : decode cX2_reachByPath 12 = .ok (.getfield 50, 3) := by decide +kernel
theorem dX2_reachByPath_15 : decode cX2_reachByPath 15 = .ok (.invokevirtual 55, 3) := by decide +kernel
theorem dX2_reachByPath_18 : decode cX2_reachByPath 18 = .ok (.if_icmp .ge 94, 3) := by decide +kernel
theorem dX2_reachByPath_21 : decode cX2_reachByPath 21 = .ok (.lconst 0, 1) := by decide +kernel
theorem dX2_reachByPath_22 : decode cX2_reachByPath 22 = .ok (.lstore 6, 2) := by decide +kernel
theorem dX2_reachByPath_24 : decode cX2_reachByPath 24 = .ok (.aload_n 0, 1) := by decide +kernel
theorem dX2_reachByPath_25 : decode cX2_reachByPath 25 = .ok (.getfield 14, 3) := by decide +kernel
theorem dX2_reachByPath_28 : decode cX2_reachByPath 28 = .ok (.iload 4, 2) := by decide +kernel
theorem dX2_reachByPath_30 : decode cX2_reachByPath 30 = .ok (.iload 5, 2) := by decide +kernel
theorem dX2_reachByPath_32 : decode cX2_reachByPath 32 = .ok (.iadd, 1) := by decide +kernel
theorem dX2_reachByPath_33 : decode cX2_reachByPath 33 = .ok (.invokevirtual 80, 3) := by decide +kernel
theorem dX2_reachByPath_36 : decode cX2_reachByPath 36 = .ok (.lstore 8, 2) := by decide +kernel
theorem dX2_reachByPath_38 : decode cX2_reachByPath 38 = .ok (.iconst 0, 1) := by decide +kernel
theorem dX2_reachByPath_39 : decode cX2_reachByPath 39 = .ok (.istore 10, 2) := by decide +kernel
theorem dX2_reachByPath_41 : decode cX2_reachByPath 41 = .ok (.iload 10, 2) := by decide +kernel
theorem dX2_reachByPath_43 : decode cX2_reachByPath 43 = .ok (.bipush 60, 2) := by decide +kernel
theorem dX2_reachByPath_45 : decode cX2_reachByPath 45 = .ok (.if_icmp .ge 43, 3) := by decide +kernel
theorem dX2_reachByPath_48 : decode cX2_reachByPath 48 = .ok (.lload 8, 2) := by decide +kernel
theorem dX2_reachByPath_50 : decode cX2_reachByPath 50 = .ok (.lconst 0, 1) := by decide +kernel
theorem dX2_reachByPath_51 : decode cX2_reachByPath 51 = .ok (.lcmp, 1) := by decide +kernel
theorem dX2_reachByPath_52 : decode cX2_reachByPath 52 = .ok (.ifCond .eq 36, 3) := by decide +kernel
theorem dX2_reachByPath_55 : decode cX2_reachByPath 55 = .ok (.lload 6, 2) := by decide +kernel
theorem dX2_reachByPath_57 : decode cX2_reachByPath 57 = .ok (.lload 8, 2) := by decide +kernel
theorem dX2_reachByPath_59 : decode cX2_reachByPath 59 = .ok (.lor, 1) := by decide +kernel
theorem dX2_reachByPath_60 : decode cX2_reachByPath 60 = .ok (.lstore 6, 2) := by decide +kernel
theorem dX2_reachByPath_62 : decode cX2_reachByPath 62 = .ok (.aload_n 0, 1) := by decide +kernel
theorem dX2_reachByPath_63 : decode cX2_reachByPath 63 = .ok (.getfield 14, 3) := by decide +kernel
theorem dX2_reachByPath_66 : decode cX2_reachByPath 66 = .ok (.iload 4, 2) := by decide +kernel
theorem dX2_reachByPath_68 : decode cX2_reachByPath 68 = .ok (.lload 8, 2) := by decide +kernel
theorem dX2_reachByPath_70 : decode cX2_reachByPath 70 = .ok (.invokevirtual 148, 3) := by decide +kernel
theorem dX2_reachByPath_73 : decode cX2_reachByPath 73 = .ok (.lload 6, 2) := by decide +kernel
theorem dX2_reachByPath_75 : decode cX2_reachByPath 75 = .ok (.ldc2_w 143, 3) := by decide +kernel
theorem dX2_reachByPath_78 : decode cX2_reachByPath 78 = .ok (.lxor, 1) := by decide +kernel
theorem dX2_reachByPath_79 : decode cX2_reachByPath 79 = .ok (.land, 1) := by decide +kernel
theorem dX2_reachByPath_80 : decode cX2_reachByPath 80 = .ok (.lstore 8, 2) := by decide +kernel
theorem dX2_reachByPath_82 : decode cX2_reachByPath 82 = .ok (.iinc 10 1, 3) := by decide +kernel
theorem dX2_reachByPath_85 : decode cX2_reachByPath 85 = .ok (.goto (-44), 3) := by decide +kernel
theorem dX2_reachByPath_88 : decode cX2_reachByPath 88 = .ok (.aload_n 0, 1) := by decide +kernel
theorem dX2_reachByPath_89 : decode cX2_reachByPath 89 = .ok (.getfield 20, 3) := by decide +kernel
theorem dX2_reachByPath_92 : decode cX2_reachByPath 92 = .ok (.iload 5, 2) := by decide +kernel
theorem dX2_reachByPath_94 : decode cX2_reachByPath 94 = .ok (.lload 6, 2) := by decide +kernel
theorem dX2_reachByPath_96 : decode cX2_reachByPath 96 = .ok (.lload_n 2, 1) := by decide +kernel
theorem dX2_reachByPath_97 : decode cX2_reachByPath 97 = .ok (.land, 1) := by decide +kernel
theorem dX2_reachByPath_98 : decode cX2_reachByPath 98 = .ok (.aload_n 0, 1) := by decide +kernel
theorem dX2_reachByPath_99 : decode cX2_reachByPath 99 = .ok (.getfield 32, 3) := by decide +kernel
theorem dX2_reachByPath_102 : decode cX2_reachByPath 102 = .ok (.land, 1) := by decide +kernel
theorem dX2_reachByPath_103 : decode cX2_reachByPath 103 = .ok (.invokevirtual 87, 3) := by decide +kernel
theorem dX2_reachByPath_106 : decode cX2_reachByPath 106 = .ok (.iinc 5 1, 3) := by decide +kernel
theorem dX2_reachByPath_109 : decode cX2_reachByPath 109 = .ok (.goto (-100), 3) := by decide +kernel
theorem dX2_reachByPath_112 : decode cX2_reachByPath 112 = .ok (.return_, 1) := by decide +kernel
abbrev cX2_reachByAxis : ByteArray := prog_4_method_8_code
def yX2_reachByAxis : MethodName := ⟨RX2, "reachByAxis", "(IJ)V"⟩
theorem dX2_reachByAxis_0 : decode cX2_reachByAxis 0 = .ok (.iconst 0, 1) := by decide +kernel
theorem dX2_reachByAxis_1 : decode cX2_reachByAxis 1 = .ok (.istore 4, 2) := by decide +kernel
theorem dX2_reachByAxis_3 : decode cX2_reachByAxis 3 = .ok (.iload 4, 2) := by decide +kernel
theorem dX2_reachByAxis_5 : decode cX2_reachByAxis 5 = .ok (.aload_n 0, 1) := by decide +kernel
theorem dX2_reachByAxis_6 : decode cX2_reachByAxis 6 = .ok (.getfield 50, 3) := by decide +kernel
theorem dX2_reachByAxis_9 : decode cX2_reachByAxis 9 = .ok (.invokevirtual 55, 3) := by decide +kernel
theorem dX2_reachByAxis_12 : decode cX2_reachByAxis 12 = .ok (.if_icmp .ge 35, 3) := by decide +kernel
theorem dX2_reachByAxis_15 : decode cX2_reachByAxis 15 = .ok (.aload_n 0, 1) := by decide +kernel
theorem dX2_reachByAxis_16 : decode cX2_reachByAxis 16 = .ok (.getfield 20, 3) := by decide +kernel
theorem dX2_reachByAxis_19 : decode cX2_reachByAxis 19 = .ok (.iload 4, 2) := by decide +kernel
theorem dX2_reachByAxis_21 : decode cX2_reachByAxis 21 = .ok (.aload_n 0, 1) := by decide +kernel
theorem dX2_reachByAxis_22 : decode cX2_reachByAxis 22 = .ok (.getfield 50, 3) := by decide +kernel
theorem dX2_reachByAxis_25 : decode cX2_reachByAxis 25 = .ok (.iload_n 1, 1) := by decide +kernel
theorem dX2_reachByAxis_26 : decode cX2_reachByAxis 26 = .ok (.iload 4, 2) := by decide +kernel
theorem dX2_reachByAxis_28 : decode cX2_reachByAxis 28 = .ok (.invokevirtual 152, 3) := by decide +kernel
theorem dX2_reachByAxis_31 : decode cX2_reachByAxis 31 = .ok (.lload_n 2, 1) := by decide +kernel
theorem dX2_reachByAxis_32 : decode cX2_reachByAxis 32 = .ok (.land, 1) := by decide +kernel
theorem dX2_reachByAxis_33 : decode cX2_reachByAxis 33 = .ok (.aload_n 0, 1) := by decide +kernel
theorem dX2_reachByAxis_34 : decode cX2_reachByAxis 34 = .ok (.getfield 32, 3) := by decide +kernel
theorem dX2_reachByAxis_37 : decode cX2_reachByAxis 37 = .ok (.land, 1) := by decide +kernel
theorem dX2_reachByAxis_38 : decode cX2_reachByAxis 38 = .ok (.invokevirtual 87, 3) := by decide +kernel
theorem dX2_reachByAxis_41 : decode cX2_reachByAxis 41 = .ok (.iinc 4 1, 3) := by decide +kernel
theorem dX2_reachByAxis_44 : decode cX2_reachByAxis 44 = .ok (.goto (-41), 3) := by decide +kernel
theorem dX2_reachByAxis_47 : decode cX2_reachByAxis 47 = .ok (.return_, 1) := by decide +kernel
abbrev cX2_goesBack : ByteArray := prog_4_method_14_code
def yX2_goesBack : MethodName := ⟨RX2, "goesBack", "(I)Z"⟩
theorem dX2_goesBack_0 : decode cX2_goesBack 0 = .ok (.iload_n 0, 1) := by decide +kernel
theorem dX2_goesBack_1 : decode cX2_goesBack 1 = .ok (.iconst 2, 1) := by decide +kernel
theorem dX2_goesBack_2 : decode cX2_goesBack 2 = .ok (.if_icmp .eq 26, 3) := by decide +kernel
theorem dX2_goesBack_5 : decode cX2_goesBack 5 = .ok (.iload_n 0, 1) := by decide +kernel
theorem dX2_goesBack_6 : decode cX2_goesBack 6 = .ok (.iconst 5, 1) := by decide +kernel
theorem dX2_goesBack_7 : decode cX2_goesBack 7 = .ok (.if_icmp .eq 21, 3) := by decide +kernel
theorem dX2_goesBack_10 : decode cX2_goesBack 10 = .ok (.iload_n 0, 1) := by decide +kernel
theorem dX2_goesBack_11 : decode cX2_goesBack 11 = .ok (.bipush 6, 2) := by decide +kernel
theorem dX2_goesBack_13 : decode cX2_goesBack 13 = .ok (.if_icmp .eq 15, 3) := by decide +kernel
theorem dX2_goesBack_16 : decode cX2_goesBack 16 = .ok (.iload_n 0, 1) := by decide +kernel
theorem dX2_goesBack_17 : decode cX2_goesBack 17 = .ok (.bipush 8, 2) := by decide +kernel
theorem dX2_goesBack_19 : decode cX2_goesBack 19 = .ok (.if_icmp .eq 9, 3) := by decide +kernel
theorem dX2_goesBack_22 : decode cX2_goesBack 22 = .ok (.iload_n 0, 1) := by decide +kernel
theorem dX2_goesBack_23 : decode cX2_goesBack 23 = .ok (.bipush 10, 2) := by decide +kernel
theorem dX2_goesBack_25 : decode cX2_goesBack 25 = .ok (.if_icmp .ne 7, 3) := by decide +kernel
theorem dX2_goesBack_28 : decode cX2_goesBack 28 = .ok (.iconst 1, 1) := by decide +kernel
theorem dX2_goesBack_29 : decode cX2_goesBack 29 = .ok (.goto 4, 3) := by decide +kernel
theorem dX2_goesBack_32 : decode cX2_goesBack 32 = .ok (.iconst 0, 1) := by decide +kernel
theorem dX2_goesBack_33 : decode cX2_goesBack 33 = .ok (.ireturn, 1) := by decide +kernel
abbrev cX2_keepPlaced : ByteArray := prog_4_method_13_code
def yX2_keepPlaced : MethodName := ⟨RX2, "keepPlaced", "(JZII)J"⟩
theorem dX2_keepPlaced_0 : decode cX2_keepPlaced 0 = .ok (.lload_n 0, 1) := by decide +kernel
theorem dX2_keepPlaced_1 : decode cX2_keepPlaced 1 = .ok (.invokestatic 159, 3) := by decide +kernel
theorem dX2_keepPlaced_4 : decode cX2_keepPlaced 4 = .ok (.istore 5, 2) := by decide +kernel
theorem dX2_keepPlaced_6 : decode cX2_keepPlaced 6 = .ok (.lconst 0, 1) := by decide +kernel
theorem dX2_keepPlaced_7 : decode cX2_keepPlaced 7 = .ok (.lstore 6, 2) := by decide +kernel
theorem dX2_keepPlaced_9 : decode cX2_keepPlaced 9 = .ok (.lload_n 0, 1) := by decide +kernel
theorem dX2_keepPlaced_10 : decode cX2_keepPlaced 10 = .ok (.lstore 8, 2) := by decide +kernel
theorem dX2_keepPlaced_12 : decode cX2_keepPlaced 12 = .ok (.iconst 1, 1) := by decide +kernel
theorem dX2_keepPlaced_13 : decode cX2_keepPlaced 13 = .ok (.istore 10, 2) := by decide +kernel
theorem dX2_keepPlaced_15 : decode cX2_keepPlaced 15 = .ok (.iload 10, 2) := by decide +kernel
theorem dX2_keepPlaced_17 : decode cX2_keepPlaced 17 = .ok (.iload 5, 2) := by decide +kernel
theorem dX2_keepPlaced_19 : decode cX2_keepPlaced 19 = .ok (.if_icmp .gt 54, 3) := by decide +kernel
theorem dX2_keepPlaced_22 : decode cX2_keepPlaced 22 = .ok (.iload_n 2, 1) := by decide +kernel
theorem dX2_keepPlaced_23 : decode cX2_keepPlaced 23 = .ok (.ifCond .eq 13, 3) := by decide +kernel
theorem dX2_keepPlaced_26 : decode cX2_keepPlaced 26 = .ok (.iload 5, 2) := by decide +kernel
theorem dX2_keepPlaced_28 : decode cX2_keepPlaced 28 = .ok (.iconst 1, 1) := by decide +kernel
theorem dX2_keepPlaced_29 : decode cX2_keepPlaced 29 = .ok (.iadd, 1) := by decide +kernel
theorem dX2_keepPlaced_30 : decode cX2_keepPlaced 30 = .ok (.iload 10, 2) := by decide +kernel
theorem dX2_keepPlaced_32 : decode cX2_keepPlaced 32 = .ok (.isub, 1) := by decide +kernel
theorem dX2_keepPlaced_33 : decode cX2_keepPlaced 33 = .ok (.goto 5, 3) := by decide +kernel
theorem dX2_keepPlaced_36 : decode cX2_keepPlaced 36 = .ok (.iload 10, 2) := by decide +kernel
theorem dX2_keepPlaced_38 : decode cX2_keepPlaced 38 = .ok (.iload_n 3, 1) := by decide +kernel
theorem dX2_keepPlaced_39 : decode cX2_keepPlaced 39 = .ok (.iload 4, 2) := by decide +kernel
theorem dX2_keepPlaced_41 : decode cX2_keepPlaced 41 = .ok (.invokestatic 177, 3) := by decide +kernel
theorem dX2_keepPlaced_44 : decode cX2_keepPlaced 44 = .ok (.ifCond .eq 14, 3) := by decide +kernel
theorem dX2_keepPlaced_47 : decode cX2_keepPlaced 47 = .ok (.lload 6, 2) := by decide +kernel
theorem dX2_keepPlaced_49 : decode cX2_keepPlaced 49 = .ok (.lload 8, 2) := by decide +kernel
theorem dX2_keepPlaced_51 : decode cX2_keepPlaced 51 = .ok (.lload 8, 2) := by decide +kernel
theorem dX2_keepPlaced_53 : decode cX2_keepPlaced 53 = .ok (.lneg, 1) := by decide +kernel
theorem dX2_keepPlaced_54 : decode cX2_keepPlaced 54 = .ok (.land, 1) := by decide +kernel
theorem dX2_keepPlaced_55 : decode cX2_keepPlaced 55 = .ok (.lor, 1) := by decide +kernel
theorem dX2_keepPlaced_56 : decode cX2_keepPlaced 56 = .ok (.lstore 6, 2) := by decide +kernel
theorem dX2_keepPlaced_58 : decode cX2_keepPlaced 58 = .ok (.lload 8, 2) := by decide +kernel
theorem dX2_keepPlaced_60 : decode cX2_keepPlaced 60 = .ok (.lload 8, 2) := by decide +kernel
theorem dX2_keepPlaced_62 : decode cX2_keepPlaced 62 = .ok (.lconst 1, 1) := by decide +kernel
theorem dX2_keepPlaced_63 : decode cX2_keepPlaced 63 = .ok (.lsub, 1) := by decide +kernel
theorem dX2_keepPlaced_64 : decode cX2_keepPlaced 64 = .ok (.land, 1) := by decide +kernel
theorem dX2_keepPlaced_65 : decode cX2_keepPlaced 65 = .ok (.lstore 8, 2) := by decide +kernel
theorem dX2_keepPlaced_67 : decode cX2_keepPlaced 67 = .ok (.iinc 10 1, 3) := by decide +kernel
theorem dX2_keepPlaced_70 : decode cX2_keepPlaced 70 = .ok (.goto (-55), 3) := by decide +kernel
theorem dX2_keepPlaced_73 : decode cX2_keepPlaced 73 = .ok (.lload 6, 2) := by decide +kernel
theorem dX2_keepPlaced_75 : decode cX2_keepPlaced 75 = .ok (.lreturn, 1) := by decide +kernel
abbrev cX2_siftByPlace : ByteArray := prog_4_method_10_code
def yX2_siftByPlace : MethodName := ⟨RX2, "siftByPlace", "(IZ)V"⟩
theorem dX2_siftByPlace_0 : decode cX2_siftByPlace 0 = .ok (.aload_n 0, 1) := by decide +kernel
theorem dX2_siftByPlace_1 : decode cX2_siftByPlace 1 = .ok (.getfield 51, 3) := by decide +kernel
theorem dX2_siftByPlace_4 : decode cX2_siftByPlace 4 = .ok (.iload_n 1, 1) := by decide +kernel
theorem dX2_siftByPlace_5 : decode cX2_siftByPlace 5 = .ok (.invokevirtual 129, 3) := by decide +kernel
theorem dX2_siftByPlace_8 : decode cX2_siftByPlace 8 = .ok (.iconst 1, 1) := by decide +kernel
theorem dX2_siftByPlace_9 : decode cX2_siftByPlace 9 = .ok (.if_icmp .ne 7, 3) := by decide +kernel
theorem dX2_siftByPlace_12 : decode cX2_siftByPlace 12 = .ok (.iconst 1, 1) := by decide +kernel
theorem dX2_siftByPlace_13 : decode cX2_siftByPlace 13 = .ok (.goto 4, 3) := by decide +kernel
theorem dX2_siftByPlace_16 : decode cX2_siftByPlace 16 = .ok (.iconst 0, 1) := by decide +kernel
theorem dX2_siftByPlace_17 : decode cX2_siftByPlace 17 = .ok (.istore_n 3, 1) := by decide +kernel
theorem dX2_siftByPlace_18 : decode cX2_siftByPlace 18 = .ok (.iconst 0, 1) := by decide +kernel
theorem dX2_siftByPlace_19 : decode cX2_siftByPlace 19 = .ok (.istore 4, 2) := by decide +kernel
theorem dX2_siftByPlace_21 : decode cX2_siftByPlace 21 = .ok (.iload 4, 2) := by decide +kernel
theorem dX2_siftByPlace_23 : decode cX2_siftByPlace 23 = .ok (.aload_n 0, 1) := by decide +kernel
theorem dX2_siftByPlace_24 : decode cX2_siftByPlace 24 = .ok (.getfield 50, 3) := by decide +kernel
theorem dX2_siftByPlace_27 : decode cX2_siftByPlace 27 = .ok (.invokevirtual 55, 3) := by decide +kernel
theorem dX2_siftByPlace_30 : decode cX2_siftByPlace 30 = .ok (.if_icmp .ge 79, 3) := by decide +kernel
theorem dX2_siftByPlace_33 : decode cX2_siftByPlace 33 = .ok (.aload_n 0, 1) := by decide +kernel
theorem dX2_siftByPlace_34 : decode cX2_siftByPlace 34 = .ok (.getfield 20, 3) := by decide +kernel
theorem dX2_siftByPlace_37 : decode cX2_siftByPlace 37 = .ok (.iload 4, 2) := by decide +kernel
theorem dX2_siftByPlace_39 : decode cX2_siftByPlace 39 = .ok (.invokevirtual 80, 3) := by decide +kernel
theorem dX2_siftByPlace_42 : decode cX2_siftByPlace 42 = .ok (.lstore 5, 2) := by decide +kernel
theorem dX2_siftByPlace_44 : decode cX2_siftByPlace 44 = .ok (.iload_n 3, 1) := by decide +kernel
theorem dX2_siftByPlace_45 : decode cX2_siftByPlace 45 = .ok (.ifCond .eq 7, 3) := by decide +kernel
theorem dX2_siftByPlace_48 : decode cX2_siftByPlace 48 = .ok (.iconst 0, 1) := by decide +kernel
theorem dX2_siftByPlace_49 : decode cX2_siftByPlace 49 = .ok (.goto 11, 3) := by decide +kernel
theorem dX2_siftByPlace_52 : decode cX2_siftByPlace 52 = .ok (.aload_n 0, 1) := by decide +kernel
theorem dX2_siftByPlace_53 : decode cX2_siftByPlace 53 = .ok (.getfield 51, 3) := by decide +kernel
theorem dX2_siftByPlace_56 : decode cX2_siftByPlace 56 = .ok (.iload_n 1, 1) := by decide +kernel
theorem dX2_siftByPlace_57 : decode cX2_siftByPlace 57 = .ok (.invokevirtual 156, 3) := by decide +kernel
theorem dX2_siftByPlace_60 : decode cX2_siftByPlace 60 = .ok (.istore 7, 2) := by decide +kernel
theorem dX2_siftByPlace_62 : decode cX2_siftByPlace 62 = .ok (.iload_n 3, 1) := by decide +kernel
theorem dX2_siftByPlace_63 : decode cX2_siftByPlace 63 = .ok (.ifCond .eq 11, 3) := by decide +kernel
theorem dX2_siftByPlace_66 : decode cX2_siftByPlace 66 = .ok (.lload 5, 2) := by decide +kernel
theorem dX2_siftByPlace_68 : decode cX2_siftByPlace 68 = .ok (.invokestatic 159, 3) := by decide +kernel
theorem dX2_siftByPlace_71 : decode cX2_siftByPlace 71 = .ok (.goto 11, 3) := by decide +kernel
theorem dX2_siftByPlace_74 : decode cX2_siftByPlace 74 = .ok (.aload_n 0, 1) := by decide +kernel
theorem dX2_siftByPlace_75 : decode cX2_siftByPlace 75 = .ok (.getfield 51, 3) := by decide +kernel
theorem dX2_siftByPlace_78 : decode cX2_siftByPlace 78 = .ok (.iload_n 1, 1) := by decide +kernel
theorem dX2_siftByPlace_79 : decode cX2_siftByPlace 79 = .ok (.invokevirtual 165, 3) := by decide +kernel
theorem dX2_siftByPlace_82 : decode cX2_siftByPlace 82 = .ok (.istore 8, 2) := by decide +kernel
theorem dX2_siftByPlace_84 : decode cX2_siftByPlace 84 = .ok (.aload_n 0, 1) := by decide +kernel
theorem dX2_siftByPlace_85 : decode cX2_siftByPlace 85 = .ok (.getfield 20, 3) := by decide +kernel
theorem dX2_siftByPlace_88 : decode cX2_siftByPlace 88 = .ok (.iload 4, 2) := by decide +kernel
theorem dX2_siftByPlace_90 : decode cX2_siftByPlace 90 = .ok (.lload 5, 2) := by decide +kernel
theorem dX2_siftByPlace_92 : decode cX2_siftByPlace 92 = .ok (.iload_n 2, 1) := by decide +kernel
theorem dX2_siftByPlace_93 : decode cX2_siftByPlace 93 = .ok (.iload 7, 2) := by decide +kernel
theorem dX2_siftByPlace_95 : decode cX2_siftByPlace 95 = .ok (.iload 8, 2) := by decide +kernel
theorem dX2_siftByPlace_97 : decode cX2_siftByPlace 97 = .ok (.invokestatic 168, 3) := by decide +kernel
theorem dX2_siftByPlace_100 : decode cX2_siftByPlace 100 = .ok (.invokevirtual 87, 3) := by decide +kernel
theorem dX2_siftByPlace_103 : decode cX2_siftByPlace 103 = .ok (.iinc 4 1, 3) := by decide +kernel
theorem dX2_siftByPlace_106 : decode cX2_siftByPlace 106 = .ok (.goto (-85), 3) := by decide +kernel
theorem dX2_siftByPlace_109 : decode cX2_siftByPlace 109 = .ok (.return_, 1) := by decide +kernel
abbrev cX2_worthy : ByteArray := prog_4_method_12_code
def yX2_worthy : MethodName := ⟨RX2, "worthy", "(I)J"⟩
theorem dX2_worthy_0 : decode cX2_worthy 0 = .ok (.lconst 0, 1) := by decide +kernel
theorem dX2_worthy_1 : decode cX2_worthy 1 = .ok (.lstore_n 2, 1) := by decide +kernel
theorem dX2_worthy_2 : decode cX2_worthy 2 = .ok (.iconst 0, 1) := by decide +kernel
theorem dX2_worthy_3 : decode cX2_worthy 3 = .ok (.istore 4, 2) := by decide +kernel
theorem dX2_worthy_5 : decode cX2_worthy 5 = .ok (.iload 4, 2) := by decide +kernel
theorem dX2_worthy_7 : decode cX2_worthy 7 = .ok (.aload_n 0, 1) := by decide +kernel
theorem dX2_worthy_8 : decode cX2_worthy 8 = .ok (.getfield 50, 3) := by decide +kernel
theorem dX2_worthy_11 : decode cX2_worthy 11 = .ok (.invokevirtual 55, 3) := by decide +kernel
theorem dX2_worthy_14 : decode cX2_worthy 14 = .ok (.if_icmp .ge 58, 3) := by decide +kernel
theorem dX2_worthy_17 : decode cX2_worthy 17 = .ok (.aload_n 0, 1) := by decide +kernel
theorem dX2_worthy_18 : decode cX2_worthy 18 = .ok (.getfield 28, 3) := by decide +kernel
theorem dX2_worthy_21 : decode cX2_worthy 21 = .ok (.iload 4, 2) := by decide +kernel
theorem dX2_worthy_23 : decode cX2_worthy 23 = .ok (.invokevirtual 175, 3) := by decide +kernel
theorem dX2_worthy_26 : decode cX2_worthy 26 = .ok (.istore 5, 2) := by decide +kernel
theorem dX2_worthy_28 : decode cX2_worthy 28 = .ok (.iload 5, 2) := by decide +kernel
theorem dX2_worthy_30 : decode cX2_worthy 30 = .ok (.iconst (-1), 1) := by decide +kernel
theorem dX2_worthy_31 : decode cX2_worthy 31 = .ok (.if_icmp .eq 35, 3) := by decide +kernel
theorem dX2_worthy_34 : decode cX2_worthy 34 = .ok (.iload 5, 2) := by decide +kernel
theorem dX2_worthy_36 : decode cX2_worthy 36 = .ok (.aload_n 0, 1) := by decide +kernel
theorem dX2_worthy_37 : decode cX2_worthy 37 = .ok (.getfield 51, 3) := by decide +kernel
theorem dX2_worthy_40 : decode cX2_worthy 40 = .ok (.iload_n 1, 1) := by decide +kernel
theorem dX2_worthy_41 : decode cX2_worthy 41 = .ok (.invokevirtual 156, 3) := by decide +kernel
theorem dX2_worthy_44 : decode cX2_worthy 44 = .ok (.aload_n 0, 1) := by decide +kernel
theorem dX2_worthy_45 : decode cX2_worthy 45 = .ok (.getfield 51, 3) := by decide +kernel
theorem dX2_worthy_48 : decode cX2_worthy 48 = .ok (.iload_n 1, 1) := by decide +kernel
theorem dX2_worthy_49 : decode cX2_worthy 49 = .ok (.invokevirtual 165, 3) := by decide +kernel
theorem dX2_worthy_52 : decode cX2_worthy 52 = .ok (.invokestatic 177, 3) := by decide +kernel
theorem dX2_worthy_55 : decode cX2_worthy 55 = .ok (.ifCond .eq 11, 3) := by decide +kernel
theorem dX2_worthy_58 : decode cX2_worthy 58 = .ok (.lload_n 2, 1) := by decide +kernel
theorem dX2_worthy_59 : decode cX2_worthy 59 = .ok (.iload 4, 2) := by decide +kernel
theorem dX2_worthy_61 : decode cX2_worthy 61 = .ok (.invokestatic 84, 3) := by decide +kernel
theorem dX2_worthy_64 : decode cX2_worthy 64 = .ok (.lor, 1) := by decide +kernel
theorem dX2_worthy_65 : decode cX2_worthy 65 = .ok (.lstore_n 2, 1) := by decide +kernel
theorem dX2_worthy_66 : decode cX2_worthy 66 = .ok (.iinc 4 1, 3) := by decide +kernel
theorem dX2_worthy_69 : decode cX2_worthy 69 = .ok (.goto (-64), 3) := by decide +kernel
theorem dX2_worthy_72 : decode cX2_worthy 72 = .ok (.lload_n 2, 1) := by decide +kernel
theorem dX2_worthy_73 : decode cX2_worthy 73 = .ok (.lreturn, 1) := by decide +kernel
abbrev cX2_siftByTruth : ByteArray := prog_4_method_11_code
def yX2_siftByTruth : MethodName := ⟨RX2, "siftByTruth", "(IJ)V"⟩
theorem dX2_siftByTruth_0 : decode cX2_siftByTruth 0 = .ok (.aload_n 0, 1) := by decide +kernel
theorem dX2_siftByTruth_1 : decode cX2_siftByTruth 1 = .ok (.getfield 51, 3) := by decide +kernel
theorem dX2_siftByTruth_4 : decode cX2_siftByTruth 4 = .ok (.iload_n 1, 1) := by decide +kernel
theorem dX2_siftByTruth_5 : decode cX2_siftByTruth 5 = .ok (.invokevirtual 129, 3) := by decide +kernel
theorem dX2_siftByTruth_8 : decode cX2_siftByTruth 8 = .ok (.iconst 3, 1) := by decide +kernel
theorem dX2_siftByTruth_9 : decode cX2_siftByTruth 9 = .ok (.if_icmp .eq 7, 3) := by decide +kernel
theorem dX2_siftByTruth_12 : decode cX2_siftByTruth 12 = .ok (.iconst 1, 1) := by decide +kernel
theorem dX2_siftByTruth_13 : decode cX2_siftByTruth 13 = .ok (.goto 4, 3) := by decide +kernel
theorem dX2_siftByTruth_16 : decode cX2_siftByTruth 16 = .ok (.iconst 0, 1) := by decide +kernel
theorem dX2_siftByTruth_17 : decode cX2_siftByTruth 17 = .ok (.istore 4, 2) := by decide +kernel
theorem dX2_siftByTruth_19 : decode cX2_siftByTruth 19 = .ok (.lconst 0, 1) := by decide +kernel
theorem dX2_siftByTruth_20 : decode cX2_siftByTruth 20 = .ok (.lstore 5, 2) := by decide +kernel
theorem dX2_siftByTruth_22 : decode cX2_siftByTruth 22 = .ok (.iconst 0, 1) := by decide +kernel
theorem dX2_siftByTruth_23 : decode cX2_siftByTruth 23 = .ok (.istore 7, 2) := by decide +kernel
theorem dX2_siftByTruth_25 : decode cX2_siftByTruth 25 = .ok (.iload 7, 2) := by decide +kernel
theorem dX2_siftByTruth_27 : decode cX2_siftByTruth 27 = .ok (.aload_n 0, 1) := by decide +kernel
theorem dX2_siftByTruth_28 : decode cX2_siftByTruth 28 = .ok (.getfield 50, 3) := by decide +kernel
theorem dX2_siftByTruth_31 : decode cX2_siftByTruth 31 = .ok (.invokevirtual 55, 3) := by decide +kernel
theorem dX2_siftByTruth_34 : decode cX2_siftByTruth 34 = .ok (.if_icmp .ge 65, 3) := by decide +kernel
theorem dX2_siftByTruth_37 : decode cX2_siftByTruth 37 = .ok (.aload_n 0, 1) := by decide +kernel
theorem dX2_siftByTruth_38 : decode cX2_siftByTruth 38 = .ok (.getfield 14, 3) := by decide +kernel
theorem dX2_siftByTruth_41 : decode cX2_siftByTruth 41 = .ok (.aload_n 0, 1) := by decide +kernel
theorem dX2_siftByTruth_42 : decode cX2_siftByTruth 42 = .ok (.getfield 51, 3) := by decide +kernel
theorem dX2_siftByTruth_45 : decode cX2_siftByTruth 45 = .ok (.iload_n 1, 1) := by decide +kernel
theorem dX2_siftByTruth_46 : decode cX2_siftByTruth 46 = .ok (.invokevirtual 172, 3) := by decide +kernel
theorem dX2_siftByTruth_49 : decode cX2_siftByTruth 49 = .ok (.bipush 60, 2) := by decide +kernel
theorem dX2_siftByTruth_51 : decode cX2_siftByTruth 51 = .ok (.imul, 1) := by decide +kernel
theorem dX2_siftByTruth_52 : decode cX2_siftByTruth 52 = .ok (.iload 7, 2) := by decide +kernel
theorem dX2_siftByTruth_54 : decode cX2_siftByTruth 54 = .ok (.iadd, 1) := by decide +kernel
theorem dX2_siftByTruth_55 : decode cX2_siftByTruth 55 = .ok (.invokevirtual 80, 3) := by decide +kernel
theorem dX2_siftByTruth_58 : decode cX2_siftByTruth 58 = .ok (.lload_n 2, 1) := by decide +kernel
theorem dX2_siftByTruth_59 : decode cX2_siftByTruth 59 = .ok (.land, 1) := by decide +kernel
theorem dX2_siftByTruth_60 : decode cX2_siftByTruth 60 = .ok (.lconst 0, 1) := by decide +kernel
theorem dX2_siftByTruth_61 : decode cX2_siftByTruth 61 = .ok (.lcmp, 1) := by decide +kernel
theorem dX2_siftByTruth_62 : decode cX2_siftByTruth 62 = .ok (.ifCond .eq 7, 3) := by decide +kernel
theorem dX2_siftByTruth_65 : decode cX2_siftByTruth 65 = .ok (.iconst 1, 1) := by decide +kernel
theorem dX2_siftByTruth_66 : decode cX2_siftByTruth 66 = .ok (.goto 4, 3) := by decide +kernel
theorem dX2_siftByTruth_69 : decode cX2_siftByTruth 69 = .ok (.iconst 0, 1) := by decide +kernel
theorem dX2_siftByTruth_70 : decode cX2_siftByTruth 70 = .ok (.istore 8, 2) := by decide +kernel
theorem dX2_siftByTruth_72 : decode cX2_siftByTruth 72 = .ok (.lload 5, 2) := by decide +kernel
theorem dX2_siftByTruth_74 : decode cX2_siftByTruth 74 = .ok (.iload 8, 2) := by decide +kernel
theorem dX2_siftByTruth_76 : decode cX2_siftByTruth 76 = .ok (.iload 4, 2) := by decide +kernel
theorem dX2_siftByTruth_78 : decode cX2_siftByTruth 78 = .ok (.if_icmp .ne 11, 3) := by decide +kernel
theorem dX2_siftByTruth_81 : decode cX2_siftByTruth 81 = .ok (.iload 7, 2) := by decide +kernel
theorem dX2_siftByTruth_83 : decode cX2_siftByTruth 83 = .ok (.invokestatic 84, 3) := by decide +kernel
theorem dX2_siftByTruth_86 : decode cX2_siftByTruth 86 = .ok (.goto 4, 3) := by decide +kernel
theorem dX2_siftByTruth_89 : decode cX2_siftByTruth 89 = .ok (.lconst 0, 1) := by decide +kernel
theorem dX2_siftByTruth_90 : decode cX2_siftByTruth 90 = .ok (.lor, 1) := by decide +kernel
theorem dX2_siftByTruth_91 : decode cX2_siftByTruth 91 = .ok (.lstore 5, 2) := by decide +kernel
theorem dX2_siftByTruth_93 : decode cX2_siftByTruth 93 = .ok (.iinc 7 1, 3) := by decide +kernel
theorem dX2_siftByTruth_96 : decode cX2_siftByTruth 96 = .ok (.goto (-71), 3) := by decide +kernel
theorem dX2_siftByTruth_99 : decode cX2_siftByTruth 99 = .ok (.iconst 0, 1) := by decide +kernel
theorem dX2_siftByTruth_100 : decode cX2_siftByTruth 100 = .ok (.istore 7, 2) := by decide +kernel
theorem dX2_siftByTruth_102 : decode cX2_siftByTruth 102 = .ok (.iload 7, 2) := by decide +kernel
theorem dX2_siftByTruth_104 : decode cX2_siftByTruth 104 = .ok (.aload_n 0, 1) := by decide +kernel
theorem dX2_siftByTruth_105 : decode cX2_siftByTruth 105 = .ok (.getfield 50, 3) := by decide +kernel
theorem dX2_siftByTruth_108 : decode cX2_siftByTruth 108 = .ok (.invokevirtual 55, 3) := by decide +kernel
theorem dX2_siftByTruth_111 : decode cX2_siftByTruth 111 = .ok (.if_icmp .ge 30, 3) := by decide +kernel
theorem dX2_siftByTruth_114 : decode cX2_siftByTruth 114 = .ok (.aload_n 0, 1) := by decide +kernel
theorem dX2_siftByTruth_115 : decode cX2_siftByTruth 115 = .ok (.getfield 20, 3) := by decide +kernel
theorem dX2_siftByTruth_118 : decode cX2_siftByTruth 118 = .ok (.iload 7, 2) := by decide +kernel
theorem dX2_siftByTruth_120 : decode cX2_siftByTruth 120 = .ok (.aload_n 0, 1) := by decide +kernel
theorem dX2_siftByTruth_121 : decode cX2_siftByTruth 121 = .ok (.getfield 20, 3) := by decide +kernel
theorem dX2_siftByTruth_124 : decode cX2_siftByTruth 124 = .ok (.iload 7, 2) := by decide +kernel
theorem dX2_siftByTruth_126 : decode cX2_siftByTruth 126 = .ok (.invokevirtual 80, 3) := by decide +kernel
theorem dX2_siftByTruth_129 : decode cX2_siftByTruth 129 = .ok (.lload 5, 2) := by decide +kernel
theorem dX2_siftByTruth_131 : decode cX2_siftByTruth 131 = .ok (.land, 1) := by decide +kernel
theorem dX2_siftByTruth_132 : decode cX2_siftByTruth 132 = .ok (.invokevirtual 87, 3) := by decide +kernel
theorem dX2_siftByTruth_135 : decode cX2_siftByTruth 135 = .ok (.iinc 7 1, 3) := by decide +kernel
theorem dX2_siftByTruth_138 : decode cX2_siftByTruth 138 = .ok (.goto (-36), 3) := by decide +kernel
theorem dX2_siftByTruth_141 : decode cX2_siftByTruth 141 = .ok (.return_, 1) := by decide +kernel
abbrev cX2_takeStep : ByteArray := prog_4_method_7_code
def yX2_takeStep : MethodName := ⟨RX2, "takeStep", "(II)V"⟩
theorem dX2_takeStep_0 : decode cX2_takeStep 0 = .ok (.aload_n 0, 1) := by decide +kernel
theorem dX2_takeStep_1 : decode cX2_takeStep 1 = .ok (.getfield 51, 3) := by decide +kernel
theorem dX2_takeStep_4 : decode cX2_takeStep 4 = .ok (.iload_n 2, 1) := by decide +kernel
theorem dX2_takeStep_5 : decode cX2_takeStep 5 = .ok (.invokevirtual 105, 3) := by decide +kernel
theorem dX2_takeStep_8 : decode cX2_takeStep 8 = .ok (.istore_n 3, 1) := by decide +kernel
theorem dX2_takeStep_9 : decode cX2_takeStep 9 = .ok (.iload_n 3, 1) := by decide +kernel
theorem dX2_takeStep_10 : decode cX2_takeStep 10 = .ok (.bipush 12, 2) := by decide +kernel
theorem dX2_takeStep_12 : decode cX2_takeStep 12 = .ok (.if_icmp .ne 33, 3) := by decide +kernel
theorem dX2_takeStep_15 : decode cX2_takeStep 15 = .ok (.aload_n 0, 1) := by decide +kernel
theorem dX2_takeStep_16 : decode cX2_takeStep 16 = .ok (.aload_n 0, 1) := by decide +kernel
theorem dX2_takeStep_17 : decode cX2_takeStep 17 = .ok (.getfield 51, 3) := by decide +kernel
theorem dX2_takeStep_20 : decode cX2_takeStep 20 = .ok (.iload_n 2, 1) := by decide +kernel
theorem dX2_takeStep_21 : decode cX2_takeStep 21 = .ok (.invokevirtual 108, 3) := by decide +kernel
theorem dX2_takeStep_24 : decode cX2_takeStep 24 = .ok (.aload_n 0, 1) := by decide +kernel
theorem dX2_takeStep_25 : decode cX2_takeStep 25 = .ok (.getfield 50, 3) := by decide +kernel
theorem dX2_takeStep_28 : decode cX2_takeStep 28 = .ok (.aload_n 0, 1) := by decide +kernel
theorem dX2_takeStep_29 : decode cX2_takeStep 29 = .ok (.getfield 51, 3) := by decide +kernel
theorem dX2_takeStep_32 : decode cX2_takeStep 32 = .ok (.iload_n 2, 1) := by decide +kernel
theorem dX2_takeStep_33 : decode cX2_takeStep 33 = .ok (.invokevirtual 111, 3) := by decide +kernel
theorem dX2_takeStep_36 : decode cX2_takeStep 36 = .ok (.invokevirtual 114, 3) := by decide +kernel
theorem dX2_takeStep_39 : decode cX2_takeStep 39 = .ok (.invokevirtual 117, 3) := by decide +kernel
theorem dX2_takeStep_42 : decode cX2_takeStep 42 = .ok (.goto 23, 3) := by decide +kernel
theorem dX2_takeStep_45 : decode cX2_takeStep 45 = .ok (.aload_n 0, 1) := by decide +kernel
theorem dX2_takeStep_46 : decode cX2_takeStep 46 = .ok (.iload_n 3, 1) := by decide +kernel
theorem dX2_takeStep_47 : decode cX2_takeStep 47 = .ok (.aload_n 0, 1) := by decide +kernel
theorem dX2_takeStep_48 : decode cX2_takeStep 48 = .ok (.getfield 50, 3) := by decide +kernel
theorem dX2_takeStep_51 : decode cX2_takeStep 51 = .ok (.aload_n 0, 1) := by decide +kernel
theorem dX2_takeStep_52 : decode cX2_takeStep 52 = .ok (.getfield 51, 3) := by decide +kernel
theorem dX2_takeStep_55 : decode cX2_takeStep 55 = .ok (.iload_n 2, 1) := by decide +kernel
theorem dX2_takeStep_56 : decode cX2_takeStep 56 = .ok (.invokevirtual 111, 3) := by decide +kernel
theorem dX2_takeStep_59 : decode cX2_takeStep 59 = .ok (.invokevirtual 114, 3) := by decide +kernel
theorem dX2_takeStep_62 : decode cX2_takeStep 62 = .ok (.invokevirtual 120, 3) := by decide +kernel
theorem dX2_takeStep_65 : decode cX2_takeStep 65 = .ok (.iconst 0, 1) := by decide +kernel
theorem dX2_takeStep_66 : decode cX2_takeStep 66 = .ok (.istore 4, 2) := by decide +kernel
theorem dX2_takeStep_68 : decode cX2_takeStep 68 = .ok (.iload 4, 2) := by decide +kernel
theorem dX2_takeStep_70 : decode cX2_takeStep 70 = .ok (.aload_n 0, 1) := by decide +kernel
theorem dX2_takeStep_71 : decode cX2_takeStep 71 = .ok (.getfield 51, 3) := by decide +kernel
theorem dX2_takeStep_74 : decode cX2_takeStep 74 = .ok (.iload_n 2, 1) := by decide +kernel
theorem dX2_takeStep_75 : decode cX2_takeStep 75 = .ok (.invokevirtual 123, 3) := by decide +kernel
theorem dX2_takeStep_78 : decode cX2_takeStep 78 = .ok (.if_icmp .ge 80, 3) := by decide +kernel
theorem dX2_takeStep_81 : decode cX2_takeStep 81 = .ok (.aload_n 0, 1) := by decide +kernel
theorem dX2_takeStep_82 : decode cX2_takeStep 82 = .ok (.getfield 51, 3) := by decide +kernel
theorem dX2_takeStep_85 : decode cX2_takeStep 85 = .ok (.iload_n 2, 1) := by decide +kernel
theorem dX2_takeStep_86 : decode cX2_takeStep 86 = .ok (.iload 4, 2) := by decide +kernel
theorem dX2_takeStep_88 : decode cX2_takeStep 88 = .ok (.invokevirtual 126, 3) := by decide +kernel
theorem dX2_takeStep_91 : decode cX2_takeStep 91 = .ok (.istore 5, 2) := by decide +kernel
theorem dX2_takeStep_93 : decode cX2_takeStep 93 = .ok (.aload_n 0, 1) := by decide +kernel
theorem dX2_takeStep_94 : decode cX2_takeStep 94 = .ok (.getfield 51, 3) := by decide +kernel
theorem dX2_takeStep_97 : decode cX2_takeStep 97 = .ok (.iload 5, 2) := by decide +kernel
theorem dX2_takeStep_99 : decode cX2_takeStep 99 = .ok (.invokevirtual 129, 3) := by decide +kernel
theorem dX2_takeStep_102 : decode cX2_takeStep 102 = .ok (.istore 6, 2) := by decide +kernel
theorem dX2_takeStep_104 : decode cX2_takeStep 104 = .ok (.iload 6, 2) := by decide +kernel
theorem dX2_takeStep_106 : decode cX2_takeStep 106 = .ok (.ifCond .eq 9, 3) := by decide +kernel
theorem dX2_takeStep_109 : decode cX2_takeStep 109 = .ok (.iload 6, 2) := by decide +kernel
theorem dX2_takeStep_111 : decode cX2_takeStep 111 = .ok (.iconst 1, 1) := by decide +kernel
theorem dX2_takeStep_112 : decode cX2_takeStep 112 = .ok (.if_icmp .ne 16, 3) := by decide +kernel
theorem dX2_takeStep_115 : decode cX2_takeStep 115 = .ok (.aload_n 0, 1) := by decide +kernel
theorem dX2_takeStep_116 : decode cX2_takeStep 116 = .ok (.iload 5, 2) := by decide +kernel
theorem dX2_takeStep_118 : decode cX2_takeStep 118 = .ok (.iload_n 3, 1) := by decide +kernel
theorem dX2_takeStep_119 : decode cX2_takeStep 119 = .ok (.invokestatic 132, 3) := by decide +kernel
theorem dX2_takeStep_122 : decode cX2_takeStep 122 = .ok (.invokevirtual 136, 3) := by decide +kernel
theorem dX2_takeStep_125 : decode cX2_takeStep 125 = .ok (.goto 27, 3) := by decide +kernel
theorem dX2_takeStep_128 : decode cX2_takeStep 128 = .ok (.aload_n 0, 1) := by decide +kernel
theorem dX2_takeStep_129 : decode cX2_takeStep 129 = .ok (.iload 5, 2) := by decide +kernel
theorem dX2_takeStep_131 : decode cX2_takeStep 131 = .ok (.iload 6, 2) := by decide +kernel
theorem dX2_takeStep_133 : decode cX2_takeStep 133 = .ok (.iconst 4, 1) := by decide +kernel
theorem dX2_takeStep_134 : decode cX2_takeStep 134 = .ok (.if_icmp .ne 12, 3) := by decide +kernel
theorem dX2_takeStep_137 : decode cX2_takeStep 137 = .ok (.aload_n 0, 1) := by decide +kernel
theorem dX2_takeStep_138 : decode cX2_takeStep 138 = .ok (.iload 5, 2) := by decide +kernel
theorem dX2_takeStep_140 : decode cX2_takeStep 140 = .ok (.invokevirtual 140, 3) := by decide +kernel
theorem dX2_takeStep_143 : decode cX2_takeStep 143 = .ok (.goto 6, 3) := by decide +kernel
theorem dX2_takeStep_146 : decode cX2_takeStep 146 = .ok (.ldc2_w 143, 3) := by decide +kernel
theorem dX2_takeStep_149 : decode cX2_takeStep 149 = .ok (.invokevirtual 145, 3) := by decide +kernel
theorem dX2_takeStep_152 : decode cX2_takeStep 152 = .ok (.iinc 4 1, 3) := by decide +kernel
theorem dX2_takeStep_155 : decode cX2_takeStep 155 = .ok (.goto (-87), 3) := by decide +kernel
theorem dX2_takeStep_158 : decode cX2_takeStep 158 = .ok (.iconst 0, 1) := by decide +kernel
theorem dX2_takeStep_159 : decode cX2_takeStep 159 = .ok (.istore 4, 2) := by decide +kernel
theorem dX2_takeStep_161 : decode cX2_takeStep 161 = .ok (.iload 4, 2) := by decide +kernel
theorem dX2_takeStep_163 : decode cX2_takeStep 163 = .ok (.aload_n 0, 1) := by decide +kernel
theorem dX2_takeStep_164 : decode cX2_takeStep 164 = .ok (.getfield 50, 3) := by decide +kernel
theorem dX2_takeStep_167 : decode cX2_takeStep 167 = .ok (.invokevirtual 55, 3) := by decide +kernel
theorem dX2_takeStep_170 : decode cX2_takeStep 170 = .ok (.if_icmp .ge 44, 3) := by decide +kernel
theorem dX2_takeStep_173 : decode cX2_takeStep 173 = .ok (.iload_n 1, 1) := by decide +kernel
theorem dX2_takeStep_174 : decode cX2_takeStep 174 = .ok (.bipush 60, 2) := by decide +kernel
theorem dX2_takeStep_176 : decode cX2_takeStep 176 = .ok (.imul, 1) := by decide +kernel
theorem dX2_takeStep_177 : decode cX2_takeStep 177 = .ok (.iload 4, 2) := by decide +kernel
theorem dX2_takeStep_179 : decode cX2_takeStep 179 = .ok (.iadd, 1) := by decide +kernel
theorem dX2_takeStep_180 : decode cX2_takeStep 180 = .ok (.istore 5, 2) := by decide +kernel
theorem dX2_takeStep_182 : decode cX2_takeStep 182 = .ok (.aload_n 0, 1) := by decide +kernel
theorem dX2_takeStep_183 : decode cX2_takeStep 183 = .ok (.getfield 14, 3) := by decide +kernel
theorem dX2_takeStep_186 : decode cX2_takeStep 186 = .ok (.iload 5, 2) := by decide +kernel
theorem dX2_takeStep_188 : decode cX2_takeStep 188 = .ok (.aload_n 0, 1) := by decide +kernel
theorem dX2_takeStep_189 : decode cX2_takeStep 189 = .ok (.getfield 20, 3) := by decide +kernel
theorem dX2_takeStep_192 : decode cX2_takeStep 192 = .ok (.iconst 0, 1) := by decide +kernel
theorem dX2_takeStep_193 : decode cX2_takeStep 193 = .ok (.aload_n 0, 1) := by decide +kernel
theorem dX2_takeStep_194 : decode cX2_takeStep 194 = .ok (.getfield 14, 3) := by decide +kernel
theorem dX2_takeStep_197 : decode cX2_takeStep 197 = .ok (.iload 5, 2) := by decide +kernel
theorem dX2_takeStep_199 : decode cX2_takeStep 199 = .ok (.invokevirtual 80, 3) := by decide +kernel
theorem dX2_takeStep_202 : decode cX2_takeStep 202 = .ok (.invokevirtual 148, 3) := by decide +kernel
theorem dX2_takeStep_205 : decode cX2_takeStep 205 = .ok (.invokevirtual 87, 3) := by decide +kernel
theorem dX2_takeStep_208 : decode cX2_takeStep 208 = .ok (.iinc 4 1, 3) := by decide +kernel
theorem dX2_takeStep_211 : decode cX2_takeStep 211 = .ok (.goto (-50), 3) := by decide +kernel
theorem dX2_takeStep_214 : decode cX2_takeStep 214 = .ok (.return_, 1) := by decide +kernel
abbrev cX2_prepare : ByteArray := prog_4_method_6_code
def yX2_prepare : MethodName := ⟨RX2, "prepare", "(I)V"⟩
theorem dX2_prepare_0 : decode cX2_prepare 0 = .ok (.aload_n 0, 1) := by decide +kernel
theorem dX2_prepare_1 : decode cX2_prepare 1 = .ok (.getfield 36, 3) := by decide +kernel
theorem dX2_prepare_4 : decode cX2_prepare 4 = .ok (.istore_n 2, 1) := by decide +kernel
theorem dX2_prepare_5 : decode cX2_prepare 5 = .ok (.iload_n 2, 1) := by decide +kernel
theorem dX2_prepare_6 : decode cX2_prepare 6 = .ok (.iload_n 1, 1) := by decide +kernel
theorem dX2_prepare_7 : decode cX2_prepare 7 = .ok (.if_icmp .gt 84, 3) := by decide +kernel
theorem dX2_prepare_10 : decode cX2_prepare 10 = .ok (.iconst 0, 1) := by decide +kernel
theorem dX2_prepare_11 : decode cX2_prepare 11 = .ok (.istore_n 3, 1) := by decide +kernel
theorem dX2_prepare_12 : decode cX2_prepare 12 = .ok (.iload_n 3, 1) := by decide +kernel
theorem dX2_prepare_13 : decode cX2_prepare 13 = .ok (.aload_n 0, 1) := by decide +kernel
theorem dX2_prepare_14 : decode cX2_prepare 14 = .ok (.getfield 50, 3) := by decide +kernel
theorem dX2_prepare_17 : decode cX2_prepare 17 = .ok (.invokevirtual 55, 3) := by decide +kernel
theorem dX2_prepare_20 : decode cX2_prepare 20 = .ok (.if_icmp .ge 31, 3) := by decide +kernel
theorem dX2_prepare_23 : decode cX2_prepare 23 = .ok (.aload_n 0, 1) := by decide +kernel
theorem dX2_prepare_24 : decode cX2_prepare 24 = .ok (.getfield 14, 3) := by decide +kernel
theorem dX2_prepare_27 : decode cX2_prepare 27 = .ok (.iload_n 2, 1) := by decide +kernel
theorem dX2_prepare_28 : decode cX2_prepare 28 = .ok (.bipush 60, 2) := by decide +kernel
theorem dX2_prepare_30 : decode cX2_prepare 30 = .ok (.imul, 1) := by decide +kernel
theorem dX2_prepare_31 : decode cX2_prepare 31 = .ok (.iload_n 3, 1) := by decide +kernel
theorem dX2_prepare_32 : decode cX2_prepare 32 = .ok (.iadd, 1) := by decide +kernel
theorem dX2_prepare_33 : decode cX2_prepare 33 = .ok (.aload_n 0, 1) := by decide +kernel
theorem dX2_prepare_34 : decode cX2_prepare 34 = .ok (.getfield 32, 3) := by decide +kernel
theorem dX2_prepare_37 : decode cX2_prepare 37 = .ok (.iload_n 3, 1) := by decide +kernel
theorem dX2_prepare_38 : decode cX2_prepare 38 = .ok (.invokestatic 84, 3) := by decide +kernel
theorem dX2_prepare_41 : decode cX2_prepare 41 = .ok (.land, 1) := by decide +kernel
theorem dX2_prepare_42 : decode cX2_prepare 42 = .ok (.invokevirtual 87, 3) := by decide +kernel
theorem dX2_prepare_45 : decode cX2_prepare 45 = .ok (.iinc 3 1, 3) := by decide +kernel
theorem dX2_prepare_48 : decode cX2_prepare 48 = .ok (.goto (-36), 3) := by decide +kernel
theorem dX2_prepare_51 : decode cX2_prepare 51 = .ok (.iconst 0, 1) := by decide +kernel
theorem dX2_prepare_52 : decode cX2_prepare 52 = .ok (.istore_n 3, 1) := by decide +kernel
theorem dX2_prepare_53 : decode cX2_prepare 53 = .ok (.iload_n 3, 1) := by decide +kernel
theorem dX2_prepare_54 : decode cX2_prepare 54 = .ok (.aload_n 0, 1) := by decide +kernel
theorem dX2_prepare_55 : decode cX2_prepare 55 = .ok (.getfield 51, 3) := by decide +kernel
theorem dX2_prepare_58 : decode cX2_prepare 58 = .ok (.iload_n 2, 1) := by decide +kernel
theorem dX2_prepare_59 : decode cX2_prepare 59 = .ok (.invokevirtual 90, 3) := by decide +kernel
theorem dX2_prepare_62 : decode cX2_prepare 62 = .ok (.if_icmp .ge 23, 3) := by decide +kernel
theorem dX2_prepare_65 : decode cX2_prepare 65 = .ok (.aload_n 0, 1) := by decide +kernel
theorem dX2_prepare_66 : decode cX2_prepare 66 = .ok (.iload_n 2, 1) := by decide +kernel
theorem dX2_prepare_67 : decode cX2_prepare 67 = .ok (.aload_n 0, 1) := by decide +kernel
theorem dX2_prepare_68 : decode cX2_prepare 68 = .ok (.getfield 51, 3) := by decide +kernel
theorem dX2_prepare_71 : decode cX2_prepare 71 = .ok (.iload_n 2, 1) := by decide +kernel
theorem dX2_prepare_72 : decode cX2_prepare 72 = .ok (.iload_n 3, 1) := by decide +kernel
theorem dX2_prepare_73 : decode cX2_prepare 73 = .ok (.invokevirtual 96, 3) := by decide +kernel
theorem dX2_prepare_76 : decode cX2_prepare 76 = .ok (.invokevirtual 99, 3) := by decide +kernel
theorem dX2_prepare_79 : decode cX2_prepare 79 = .ok (.iinc 3 1, 3) := by decide +kernel
theorem dX2_prepare_82 : decode cX2_prepare 82 = .ok (.goto (-29), 3) := by decide +kernel
theorem dX2_prepare_85 : decode cX2_prepare 85 = .ok (.iinc 2 1, 3) := by decide +kernel
theorem dX2_prepare_88 : decode cX2_prepare 88 = .ok (.goto (-83), 3) := by decide +kernel
theorem dX2_prepare_91 : decode cX2_prepare 91 = .ok (.aload_n 0, 1) := by decide +kernel
theorem dX2_prepare_92 : decode cX2_prepare 92 = .ok (.aload_n 0, 1) := by decide +kernel
theorem dX2_prepare_93 : decode cX2_prepare 93 = .ok (.getfield 36, 3) := by decide +kernel
theorem dX2_prepare_96 : decode cX2_prepare 96 = .ok (.iload_n 1, 1) := by decide +kernel
theorem dX2_prepare_97 : decode cX2_prepare 97 = .ok (.iconst 1, 1) := by decide +kernel
theorem dX2_prepare_98 : decode cX2_prepare 98 = .ok (.iadd, 1) := by decide +kernel
theorem dX2_prepare_99 : decode cX2_prepare 99 = .ok (.invokestatic 102, 3) := by decide +kernel
theorem dX2_prepare_102 : decode cX2_prepare 102 = .ok (.putfield 36, 3) := by decide +kernel
theorem dX2_prepare_105 : decode cX2_prepare 105 = .ok (.return_, 1) := by decide +kernel
abbrev cX2_countAhead : ByteArray := prog_4_method_16_code
def yX2_countAhead : MethodName := ⟨RX2, "countAhead", "(JI)I"⟩
theorem dX2_countAhead_0 : decode cX2_countAhead 0 = .ok (.iconst 0, 1) := by decide +kernel
theorem dX2_countAhead_1 : decode cX2_countAhead 1 = .ok (.istore 4, 2) := by decide +kernel
theorem dX2_countAhead_3 : decode cX2_countAhead 3 = .ok (.lload_n 1, 1) := by decide +kernel
theorem dX2_countAhead_4 : decode cX2_countAhead 4 = .ok (.lstore 5, 2) := by decide +kernel
theorem dX2_countAhead_6 : decode cX2_countAhead 6 = .ok (.lload_n 1, 1) := by decide +kernel
theorem dX2_countAhead_7 : decode cX2_countAhead 7 = .ok (.invokestatic 159, 3) := by decide +kernel
theorem dX2_countAhead_10 : decode cX2_countAhead 10 = .ok (.istore 7, 2) := by decide +kernel
theorem dX2_countAhead_12 : decode cX2_countAhead 12 = .ok (.iload 7, 2) := by decide +kernel
theorem dX2_countAhead_14 : decode cX2_countAhead 14 = .ok (.ifCond .le 71, 3) := by decide +kernel
theorem dX2_countAhead_17 : decode cX2_countAhead 17 = .ok (.lload 5, 2) := by decide +kernel
theorem dX2_countAhead_19 : decode cX2_countAhead 19 = .ok (.invokestatic 188, 3) := by decide +kernel
theorem dX2_countAhead_22 : decode cX2_countAhead 22 = .ok (.istore 8, 2) := by decide +kernel
theorem dX2_countAhead_24 : decode cX2_countAhead 24 = .ok (.aload_n 0, 1) := by decide +kernel
theorem dX2_countAhead_25 : decode cX2_countAhead 25 = .ok (.getfield 28, 3) := by decide +kernel
theorem dX2_countAhead_28 : decode cX2_countAhead 28 = .ok (.iload_n 3, 1) := by decide +kernel
theorem dX2_countAhead_29 : decode cX2_countAhead 29 = .ok (.invokevirtual 175, 3) := by decide +kernel
theorem dX2_countAhead_32 : decode cX2_countAhead 32 = .ok (.aload_n 0, 1) := by decide +kernel
theorem dX2_countAhead_33 : decode cX2_countAhead 33 = .ok (.getfield 28, 3) := by decide +kernel
theorem dX2_countAhead_36 : decode cX2_countAhead 36 = .ok (.iload 8, 2) := by decide +kernel
theorem dX2_countAhead_38 : decode cX2_countAhead 38 = .ok (.invokevirtual 175, 3) := by decide +kernel
theorem dX2_countAhead_41 : decode cX2_countAhead 41 = .ok (.isub, 1) := by decide +kernel
theorem dX2_countAhead_42 : decode cX2_countAhead 42 = .ok (.istore 9, 2) := by decide +kernel
theorem dX2_countAhead_44 : decode cX2_countAhead 44 = .ok (.iload 4, 2) := by decide +kernel
theorem dX2_countAhead_46 : decode cX2_countAhead 46 = .ok (.iload 9, 2) := by decide +kernel
theorem dX2_countAhead_48 : decode cX2_countAhead 48 = .ok (.ifCond .gt 14, 3) := by decide +kernel
theorem dX2_countAhead_51 : decode cX2_countAhead 51 = .ok (.iload 9, 2) := by decide +kernel
theorem dX2_countAhead_53 : decode cX2_countAhead 53 = .ok (.ifCond .ne 13, 3) := by decide +kernel
theorem dX2_countAhead_56 : decode cX2_countAhead 56 = .ok (.iload 8, 2) := by decide +kernel
theorem dX2_countAhead_58 : decode cX2_countAhead 58 = .ok (.iload_n 3, 1) := by decide +kernel
theorem dX2_countAhead_59 : decode cX2_countAhead 59 = .ok (.if_icmp .ge 7, 3) := by decide +kernel
theorem dX2_countAhead_62 : decode cX2_countAhead 62 = .ok (.iconst 1, 1) := by decide +kernel
theorem dX2_countAhead_63 : decode cX2_countAhead 63 = .ok (.goto 4, 3) := by decide +kernel
theorem dX2_countAhead_66 : decode cX2_countAhead 66 = .ok (.iconst 0, 1) := by decide +kernel
theorem dX2_countAhead_67 : decode cX2_countAhead 67 = .ok (.iadd, 1) := by decide +kernel
theorem dX2_countAhead_68 : decode cX2_countAhead 68 = .ok (.istore 4, 2) := by decide +kernel
theorem dX2_countAhead_70 : decode cX2_countAhead 70 = .ok (.lload 5, 2) := by decide +kernel
theorem dX2_countAhead_72 : decode cX2_countAhead 72 = .ok (.lload 5, 2) := by decide +kernel
theorem dX2_countAhead_74 : decode cX2_countAhead 74 = .ok (.lconst 1, 1) := by decide +kernel
theorem dX2_countAhead_75 : decode cX2_countAhead 75 = .ok (.lsub, 1) := by decide +kernel
theorem dX2_countAhead_76 : decode cX2_countAhead 76 = .ok (.land, 1) := by decide +kernel
theorem dX2_countAhead_77 : decode cX2_countAhead 77 = .ok (.lstore 5, 2) := by decide +kernel
theorem dX2_countAhead_79 : decode cX2_countAhead 79 = .ok (.iinc 7 (-1), 3) := by decide +kernel
theorem dX2_countAhead_82 : decode cX2_countAhead 82 = .ok (.goto (-70), 3) := by decide +kernel
theorem dX2_countAhead_85 : decode cX2_countAhead 85 = .ok (.iload 4, 2) := by decide +kernel
theorem dX2_countAhead_87 : decode cX2_countAhead 87 = .ok (.ireturn, 1) := by decide +kernel
abbrev cX2_orderedSpot : ByteArray := prog_4_method_15_code
def yX2_orderedSpot : MethodName := ⟨RX2, "orderedSpot", "(II)I"⟩
theorem dX2_orderedSpot_0 : decode cX2_orderedSpot 0 = .ok (.aload_n 0, 1) := by decide +kernel
theorem dX2_orderedSpot_1 : decode cX2_orderedSpot 1 = .ok (.iload_n 1, 1) := by decide +kernel
theorem dX2_orderedSpot_2 : decode cX2_orderedSpot 2 = .ok (.iconst 0, 1) := by decide +kernel
theorem dX2_orderedSpot_3 : decode cX2_orderedSpot 3 = .ok (.invokevirtual 181, 3) := by decide +kernel
theorem dX2_orderedSpot_6 : decode cX2_orderedSpot 6 = .ok (.lstore_n 3, 1) := by decide +kernel
theorem dX2_orderedSpot_7 : decode cX2_orderedSpot 7 = .ok (.iconst 0, 1) := by decide +kernel
theorem dX2_orderedSpot_8 : decode cX2_orderedSpot 8 = .ok (.istore 5, 2) := by decide +kernel
theorem dX2_orderedSpot_10 : decode cX2_orderedSpot 10 = .ok (.iload 5, 2) := by decide +kernel
theorem dX2_orderedSpot_12 : decode cX2_orderedSpot 12 = .ok (.aload_n 0, 1) := by decide +kernel
theorem dX2_orderedSpot_13 : decode cX2_orderedSpot 13 = .ok (.getfield 50, 3) := by decide +kernel
theorem dX2_orderedSpot_16 : decode cX2_orderedSpot 16 = .ok (.invokevirtual 55, 3) := by decide +kernel
theorem dX2_orderedSpot_19 : decode cX2_orderedSpot 19 = .ok (.if_icmp .ge 32, 3) := by decide +kernel
theorem dX2_orderedSpot_22 : decode cX2_orderedSpot 22 = .ok (.lload_n 3, 1) := by decide +kernel
theorem dX2_orderedSpot_23 : decode cX2_orderedSpot 23 = .ok (.iload 5, 2) := by decide +kernel
theorem dX2_orderedSpot_25 : decode cX2_orderedSpot 25 = .ok (.invokestatic 74, 3) := by decide +kernel
theorem dX2_orderedSpot_28 : decode cX2_orderedSpot 28 = .ok (.ifCond .eq 17, 3) := by decide +kernel
theorem dX2_orderedSpot_31 : decode cX2_orderedSpot 31 = .ok (.aload_n 0, 1) := by decide +kernel
theorem dX2_orderedSpot_32 : decode cX2_orderedSpot 32 = .ok (.lload_n 3, 1) := by decide +kernel
theorem dX2_orderedSpot_33 : decode cX2_orderedSpot 33 = .ok (.iload 5, 2) := by decide +kernel
theorem dX2_orderedSpot_35 : decode cX2_orderedSpot 35 = .ok (.invokevirtual 184, 3) := by decide +kernel
theorem dX2_orderedSpot_38 : decode cX2_orderedSpot 38 = .ok (.iload_n 2, 1) := by decide +kernel
theorem dX2_orderedSpot_39 : decode cX2_orderedSpot 39 = .ok (.if_icmp .ne 6, 3) := by decide +kernel
theorem dX2_orderedSpot_42 : decode cX2_orderedSpot 42 = .ok (.iload 5, 2) := by decide +kernel
theorem dX2_orderedSpot_44 : decode cX2_orderedSpot 44 = .ok (.ireturn, 1) := by decide +kernel
theorem dX2_orderedSpot_45 : decode cX2_orderedSpot 45 = .ok (.iinc 5 1, 3) := by decide +kernel
theorem dX2_orderedSpot_48 : decode cX2_orderedSpot 48 = .ok (.goto (-38), 3) := by decide +kernel
theorem dX2_orderedSpot_51 : decode cX2_orderedSpot 51 = .ok (.iconst (-1), 1) := by decide +kernel
theorem dX2_orderedSpot_52 : decode cX2_orderedSpot 52 = .ok (.ireturn, 1) := by decide +kernel
abbrev cX2_isFirstOfValue : ByteArray := prog_4_method_18_code
def yX2_isFirstOfValue : MethodName := ⟨RX2, "isFirstOfValue", "(JI)Z"⟩
theorem dX2_isFirstOfValue_0 : decode cX2_isFirstOfValue 0 = .ok (.iconst 0, 1) := by decide +kernel
theorem dX2_isFirstOfValue_1 : decode cX2_isFirstOfValue 1 = .ok (.istore 4, 2) := by decide +kernel
theorem dX2_isFirstOfValue_3 : decode cX2_isFirstOfValue 3 = .ok (.iload 4, 2) := by decide +kernel
theorem dX2_isFirstOfValue_5 : decode cX2_isFirstOfValue 5 = .ok (.iload_n 3, 1) := by decide +kernel
theorem dX2_isFirstOfValue_6 : decode cX2_isFirstOfValue 6 = .ok (.if_icmp .ge 40, 3) := by decide +kernel
theorem dX2_isFirstOfValue_9 : decode cX2_isFirstOfValue 9 = .ok (.lload_n 1, 1) := by decide +kernel
theorem dX2_isFirstOfValue_10 : decode cX2_isFirstOfValue 10 = .ok (.iload 4, 2) := by decide +kernel
theorem dX2_isFirstOfValue_12 : decode cX2_isFirstOfValue 12 = .ok (.invokestatic 74, 3) := by decide +kernel
theorem dX2_isFirstOfValue_15 : decode cX2_isFirstOfValue 15 = .ok (.ifCond .eq 25, 3) := by decide +kernel
theorem dX2_isFirstOfValue_18 : decode cX2_isFirstOfValue 18 = .ok (.aload_n 0, 1) := by decide +kernel
theorem dX2_isFirstOfValue_19 : decode cX2_isFirstOfValue 19 = .ok (.getfield 28, 3) := by decide +kernel
theorem dX2_isFirstOfValue_22 : decode cX2_isFirstOfValue 22 = .ok (.iload 4, 2) := by decide +kernel
theorem dX2_isFirstOfValue_24 : decode cX2_isFirstOfValue 24 = .ok (.invokevirtual 175, 3) := by decide +kernel
theorem dX2_isFirstOfValue_27 : decode cX2_isFirstOfValue 27 = .ok (.aload_n 0, 1) := by decide +kernel
theorem dX2_isFirstOfValue_28 : decode cX2_isFirstOfValue 28 = .ok (.getfield 28, 3) := by decide +kernel
theorem dX2_isFirstOfValue_31 : decode cX2_isFirstOfValue 31 = .ok (.iload_n 3, 1) := by decide +kernel
theorem dX2_isFirstOfValue_32 : decode cX2_isFirstOfValue 32 = .ok (.invokevirtual 175, 3) := by decide +kernel
theorem dX2_isFirstOfValue_35 : decode cX2_isFirstOfValue 35 = .ok (.if_icmp .ne 5, 3) := by decide +kernel
theorem dX2_isFirstOfValue_38 : decode cX2_isFirstOfValue 38 = .ok (.iconst 0, 1) := by decide +kernel
theorem dX2_isFirstOfValue_39 : decode cX2_isFirstOfValue 39 = .ok (.ireturn, 1) := by decide +kernel
theorem dX2_isFirstOfValue_40 : decode cX2_isFirstOfValue 40 = .ok (.iinc 4 1, 3) := by decide +kernel
theorem dX2_isFirstOfValue_43 : decode cX2_isFirstOfValue 43 = .ok (.goto (-40), 3) := by decide +kernel
theorem dX2_isFirstOfValue_46 : decode cX2_isFirstOfValue 46 = .ok (.iconst 1, 1) := by decide +kernel
theorem dX2_isFirstOfValue_47 : decode cX2_isFirstOfValue 47 = .ok (.ireturn, 1) := by decide +kernel
abbrev cX2_countValues : ByteArray := prog_4_method_17_code
def yX2_countValues : MethodName := ⟨RX2, "countValues", "(I)I"⟩
theorem dX2_countValues_0 : decode cX2_countValues 0 = .ok (.aload_n 0, 1) := by decide +kernel
theorem dX2_countValues_1 : decode cX2_countValues 1 = .ok (.iload_n 1, 1) := by decide +kernel
theorem dX2_countValues_2 : decode cX2_countValues 2 = .ok (.iconst 0, 1) := by decide +kernel
theorem dX2_countValues_3 : decode cX2_countValues 3 = .ok (.invokevirtual 181, 3) := by decide +kernel
theorem dX2_countValues_6 : decode cX2_countValues 6 = .ok (.lstore_n 2, 1) := by decide +kernel
theorem dX2_countValues_7 : decode cX2_countValues 7 = .ok (.iconst 0, 1) := by decide +kernel
theorem dX2_countValues_8 : decode cX2_countValues 8 = .ok (.istore 4, 2) := by decide +kernel
theorem dX2_countValues_10 : decode cX2_countValues 10 = .ok (.iconst 0, 1) := by decide +kernel
theorem dX2_countValues_11 : decode cX2_countValues 11 = .ok (.istore 5, 2) := by decide +kernel
theorem dX2_countValues_13 : decode cX2_countValues 13 = .ok (.iload 5, 2) := by decide +kernel
theorem dX2_countValues_15 : decode cX2_countValues 15 = .ok (.aload_n 0, 1) := by decide +kernel
theorem dX2_countValues_16 : decode cX2_countValues 16 = .ok (.getfield 50, 3) := by decide +kernel
theorem dX2_countValues_19 : decode cX2_countValues 19 = .ok (.invokevirtual 55, 3) := by decide +kernel
theorem dX2_countValues_22 : decode cX2_countValues 22 = .ok (.if_icmp .ge 31, 3) := by decide +kernel
theorem dX2_countValues_25 : decode cX2_countValues 25 = .ok (.lload_n 2, 1) := by decide +kernel
theorem dX2_countValues_26 : decode cX2_countValues 26 = .ok (.iload 5, 2) := by decide +kernel
theorem dX2_countValues_28 : decode cX2_countValues 28 = .ok (.invokestatic 74, 3) := by decide +kernel
theorem dX2_countValues_31 : decode cX2_countValues 31 = .ok (.ifCond .eq 16, 3) := by decide +kernel
theorem dX2_countValues_34 : decode cX2_countValues 34 = .ok (.aload_n 0, 1) := by decide +kernel
theorem dX2_countValues_35 : decode cX2_countValues 35 = .ok (.lload_n 2, 1) := by decide +kernel
theorem dX2_countValues_36 : decode cX2_countValues 36 = .ok (.iload 5, 2) := by decide +kernel
theorem dX2_countValues_38 : decode cX2_countValues 38 = .ok (.invokevirtual 191, 3) := by decide +kernel
theorem dX2_countValues_41 : decode cX2_countValues 41 = .ok (.ifCond .eq 6, 3) := by decide +kernel
theorem dX2_countValues_44 : decode cX2_countValues 44 = .ok (.iinc 4 1, 3) := by decide +kernel
theorem dX2_countValues_47 : decode cX2_countValues 47 = .ok (.iinc 5 1, 3) := by decide +kernel
theorem dX2_countValues_50 : decode cX2_countValues 50 = .ok (.goto (-37), 3) := by decide +kernel
theorem dX2_countValues_53 : decode cX2_countValues 53 = .ok (.iload 4, 2) := by decide +kernel
theorem dX2_countValues_55 : decode cX2_countValues 55 = .ok (.ireturn, 1) := by decide +kernel
abbrev cX6_init : ByteArray := prog_8_method_1_code
def yX6_init : MethodName := ⟨RX6, "<init>", "()V"⟩
theorem dX6_init_0 : decode cX6_init 0 = .ok (.aload_n 0, 1) := by decide +kernel
theorem dX6_init_1 : decode cX6_init 1 = .ok (.invokespecial 3, 3) := by decide +kernel
theorem dX6_init_4 : decode cX6_init 4 = .ok (.aload_n 0, 1) := by decide +kernel
theorem dX6_init_5 : decode cX6_init 5 = .ok (.new 9, 3) := by decide +kernel
theorem dX6_init_8 : decode cX6_init 8 = .ok (.dup, 1) := by decide +kernel
theorem dX6_init_9 : decode cX6_init 9 = .ok (.bipush 6, 2) := by decide +kernel
theorem dX6_init_11 : decode cX6_init 11 = .ok (.iconst (-1), 1) := by decide +kernel
theorem dX6_init_12 : decode cX6_init 12 = .ok (.invokespecial 11, 3) := by decide +kernel
theorem dX6_init_15 : decode cX6_init 15 = .ok (.putfield 14, 3) := by decide +kernel
theorem dX6_init_18 : decode cX6_init 18 = .ok (.aload_n 0, 1) := by decide +kernel
theorem dX6_init_19 : decode cX6_init 19 = .ok (.new 9, 3) := by decide +kernel
theorem dX6_init_22 : decode cX6_init 22 = .ok (.dup, 1) := by decide +kernel
theorem dX6_init_23 : decode cX6_init 23 = .ok (.bipush 6, 2) := by decide +kernel
theorem dX6_init_25 : decode cX6_init 25 = .ok (.iconst 1, 1) := by decide +kernel
theorem dX6_init_26 : decode cX6_init 26 = .ok (.invokespecial 11, 3) := by decide +kernel
theorem dX6_init_29 : decode cX6_init 29 = .ok (.putfield 20, 3) := by decide +kernel
theorem dX6_init_32 : decode cX6_init 32 = .ok (.aload_n 0, 1) := by decide +kernel
theorem dX6_init_33 : decode cX6_init 33 = .ok (.new 9, 3) := by decide +kernel
theorem dX6_init_36 : decode cX6_init 36 = .ok (.dup, 1) := by decide +kernel
theorem dX6_init_37 : decode cX6_init 37 = .ok (.bipush 48, 2) := by decide +kernel
theorem dX6_init_39 : decode cX6_init 39 = .ok (.iconst 0, 1) := by decide +kernel
theorem dX6_init_40 : decode cX6_init 40 = .ok (.invokespecial 11, 3) := by decide +kernel
theorem dX6_init_43 : decode cX6_init 43 = .ok (.putfield 23, 3) := by decide +kernel
theorem dX6_init_46 : decode cX6_init 46 = .ok (.aload_n 0, 1) := by decide +kernel
theorem dX6_init_47 : decode cX6_init 47 = .ok (.new 9, 3) := by decide +kernel
theorem dX6_init_50 : decode cX6_init 50 = .ok (.dup, 1) := by decide +kernel
theorem dX6_init_51 : decode cX6_init 51 = .ok (.sipush 144, 3) := by decide +kernel
theorem dX6_init_54 : decode cX6_init 54 = .ok (.iconst 0, 1) := by decide +kernel
theorem dX6_init_55 : decode cX6_init 55 = .ok (.invokespecial 11, 3) := by decide +kernel
theorem dX6_init_58 : decode cX6_init 58 = .ok (.putfield 26, 3) := by decide +kernel
theorem dX6_init_61 : decode cX6_init 61 = .ok (.aload_n 0, 1) := by decide +kernel
theorem dX6_init_62 : decode cX6_init 62 = .ok (.new 9, 3) := by decide +kernel
theorem dX6_init_65 : decode cX6_init 65 = .ok (.dup, 1) := by decide +kernel
theorem dX6_init_66 : decode cX6_init 66 = .ok (.bipush 60, 2) := by decide +kernel
theorem dX6_init_68 : decode cX6_init 68 = .ok (.iconst 0, 1) := by decide +kernel
theorem dX6_init_69 : decode cX6_init 69 = .ok (.invokespecial 11, 3) := by decide +kernel
theorem dX6_init_72 : decode cX6_init 72 = .ok (.putfield 29, 3) := by decide +kernel
theorem dX6_init_75 : decode cX6_init 75 = .ok (.aload_n 0, 1) := by decide +kernel
theorem dX6_init_76 : decode cX6_init 76 = .ok (.new 9, 3) := by decide +kernel
theorem dX6_init_79 : decode cX6_init 79 = .ok (.dup, 1) := by decide +kernel
theorem dX6_init_80 : decode cX6_init 80 = .ok (.bipush 8, 2) := by decide +kernel
theorem dX6_init_82 : decode cX6_init 82 = .ok (.iconst 0, 1) := by decide +kernel
theorem dX6_init_83 : decode cX6_init 83 = .ok (.invokespecial 11, 3) := by decide +kernel
theorem dX6_init_86 : decode cX6_init 86 = .ok (.putfield 32, 3) := by decide +kernel
theorem dX6_init_89 : decode cX6_init 89 = .ok (.aload_n 0, 1) := by decide +kernel
theorem dX6_init_90 : decode cX6_init 90 = .ok (.new 9, 3) := by decide +kernel
theorem dX6_init_93 : decode cX6_init 93 = .ok (.dup, 1) := by decide +kernel
theorem dX6_init_94 : decode cX6_init 94 = .ok (.bipush 8, 2) := by decide +kernel
theorem dX6_init_96 : decode cX6_init 96 = .ok (.iconst 0, 1) := by decide +kernel
theorem dX6_init_97 : decode cX6_init 97 = .ok (.invokespecial 11, 3) := by decide +kernel
theorem dX6_init_100 : decode cX6_init 100 = .ok (.putfield 35, 3) := by decide +kernel
theorem dX6_init_103 : decode cX6_init 103 = .ok (.aload_n 0, 1) := by decide +kernel
theorem dX6_init_104 : decode cX6_init 104 = .ok (.new 9, 3) := by decide +kernel
theorem dX6_init_107 : decode cX6_init 107 = .ok (.dup, 1) := by decide +kernel
theorem dX6_init_108 : decode cX6_init 108 = .ok (.sipush 160, 3) := by decide +kernel
theorem dX6_init_111 : decode cX6_init 111 = .ok (.iconst 0, 1) := by decide +kernel
theorem dX6_init_112 : decode cX6_init 112 = .ok (.invokespecial 11, 3) := by decide +kernel
theorem dX6_init_115 : decode cX6_init 115 = .ok (.putfield 38, 3) := by decide +kernel
theorem dX6_init_118 : decode cX6_init 118 = .ok (.aload_n 0, 1) := by decide +kernel
theorem dX6_init_119 : decode cX6_init 119 = .ok (.iconst 0, 1) := by decide +kernel
theorem dX6_init_120 : decode cX6_init 120 = .ok (.putfield 41, 3) := by decide +kernel
theorem dX6_init_123 : decode cX6_init 123 = .ok (.aload_n 0, 1) := by decide +kernel
theorem dX6_init_124 : decode cX6_init 124 = .ok (.iconst 0, 1) := by decide +kernel
theorem dX6_init_125 : decode cX6_init 125 = .ok (.putfield 45, 3) := by decide +kernel
theorem dX6_init_128 : decode cX6_init 128 = .ok (.aload_n 0, 1) := by decide +kernel
theorem dX6_init_129 : decode cX6_init 129 = .ok (.iconst 0, 1) := by decide +kernel
theorem dX6_init_130 : decode cX6_init 130 = .ok (.putfield 48, 3) := by decide +kernel
theorem dX6_init_133 : decode cX6_init 133 = .ok (.return_, 1) := by decide +kernel
abbrev cX6_isStrict : ByteArray := prog_8_method_2_code
def yX6_isStrict : MethodName := ⟨RX6, "isStrict", "()Z"⟩
theorem dX6_isStrict_0 : decode cX6_isStrict 0 = .ok (.aload_n 0, 1) := by decide +kernel
theorem dX6_isStrict_1 : decode cX6_isStrict 1 = .ok (.getfield 48, 3) := by decide +kernel
theorem dX6_isStrict_4 : decode cX6_isStrict 4 = .ok (.ireturn, 1) := by decide +kernel
abbrev cX6_markStrict : ByteArray := prog_8_method_3_code
def yX6_markStrict : MethodName := ⟨RX6, "markStrict", "(Z)Z"⟩
theorem dX6_markStrict_0 : decode cX6_markStrict 0 = .ok (.aload_n 0, 1) := by decide +kernel
theorem dX6_markStrict_1 : decode cX6_markStrict 1 = .ok (.getfield 48, 3) := by decide +kernel
theorem dX6_markStrict_4 : decode cX6_markStrict 4 = .ok (.istore_n 2, 1) := by decide +kernel
theorem dX6_markStrict_5 : decode cX6_markStrict 5 = .ok (.aload_n 0, 1) := by decide +kernel
theorem dX6_markStrict_6 : decode cX6_markStrict 6 = .ok (.iload_n 1, 1) := by decide +kernel
theorem dX6_markStrict_7 : decode cX6_markStrict 7 = .ok (.putfield 48, 3) := by decide +kernel
theorem dX6_markStrict_10 : decode cX6_markStrict 10 = .ok (.iload_n 2, 1) := by decide +kernel
theorem dX6_markStrict_11 : decode cX6_markStrict 11 = .ok (.ireturn, 1) := by decide +kernel
abbrev cX6_giveName : ByteArray := prog_8_method_4_code
def yX6_giveName : MethodName := ⟨RX6, "giveName", "(II)I"⟩
theorem dX6_giveName_0 : decode cX6_giveName 0 = .ok (.aload_n 0, 1) := by decide +kernel
theorem dX6_giveName_1 : decode cX6_giveName 1 = .ok (.getfield 14, 3) := by decide +kernel
theorem dX6_giveName_4 : decode cX6_giveName 4 = .ok (.iload_n 1, 1) := by decide +kernel
theorem dX6_giveName_5 : decode cX6_giveName 5 = .ok (.invokevirtual 52, 3) := by decide +kernel
theorem dX6_giveName_8 : decode cX6_giveName 8 = .ok (.istore_n 3, 1) := by decide +kernel
theorem dX6_giveName_9 : decode cX6_giveName 9 = .ok (.aload_n 0, 1) := by decide +kernel
theorem dX6_giveName_10 : decode cX6_giveName 10 = .ok (.getfield 14, 3) := by decide +kernel
theorem dX6_giveName_13 : decode cX6_giveName 13 = .ok (.iload_n 1, 1) := by decide +kernel
theorem dX6_giveName_14 : decode cX6_giveName 14 = .ok (.iload_n 2, 1) := by decide +kernel
theorem dX6_giveName_15 : decode cX6_giveName 15 = .ok (.invokevirtual 56, 3) := by decide +kernel
theorem dX6_giveName_18 : decode cX6_giveName 18 = .ok (.iload_n 3, 1) := by decide +kernel
theorem dX6_giveName_19 : decode cX6_giveName 19 = .ok (.ireturn, 1) := by decide +kernel
abbrev cX6_arcAt : ByteArray := prog_8_method_6_code
def yX6_arcAt : MethodName := ⟨RX6, "arcAt", "(III)I"⟩
theorem dX6_arcAt_0 : decode cX6_arcAt 0 = .ok (.iload_n 0, 1) := by decide +kernel
theorem dX6_arcAt_1 : decode cX6_arcAt 1 = .ok (.iconst 4, 1) := by decide +kernel
theorem dX6_arcAt_2 : decode cX6_arcAt 2 = .ok (.imul, 1) := by decide +kernel
theorem dX6_arcAt_3 : decode cX6_arcAt 3 = .ok (.iload_n 1, 1) := by decide +kernel
theorem dX6_arcAt_4 : decode cX6_arcAt 4 = .ok (.iadd, 1) := by decide +kernel
theorem dX6_arcAt_5 : decode cX6_arcAt 5 = .ok (.bipush 6, 2) := by decide +kernel
theorem dX6_arcAt_7 : decode cX6_arcAt 7 = .ok (.imul, 1) := by decide +kernel
theorem dX6_arcAt_8 : decode cX6_arcAt 8 = .ok (.iload_n 2, 1) := by decide +kernel
theorem dX6_arcAt_9 : decode cX6_arcAt 9 = .ok (.iadd, 1) := by decide +kernel
theorem dX6_arcAt_10 : decode cX6_arcAt 10 = .ok (.ireturn, 1) := by decide +kernel
abbrev cX6_toggleArc : ByteArray := prog_8_method_5_code
def yX6_toggleArc : MethodName := ⟨RX6, "toggleArc", "(IIII)Z"⟩
theorem dX6_toggleArc_0 : decode cX6_toggleArc 0 = .ok (.iload_n 1, 1) := by decide +kernel
theorem dX6_toggleArc_1 : decode cX6_toggleArc 1 = .ok (.iload_n 2, 1) := by decide +kernel
theorem dX6_toggleArc_2 : decode cX6_toggleArc 2 = .ok (.iload_n 3, 1) := by decide +kernel
theorem dX6_toggleArc_3 : decode cX6_toggleArc 3 = .ok (.invokestatic 59, 3) := by decide +kernel
theorem dX6_toggleArc_6 : decode cX6_toggleArc 6 = .ok (.istore 5, 2) := by decide +kernel
theorem dX6_toggleArc_8 : decode cX6_toggleArc 8 = .ok (.aload_n 0, 1) := by decide +kernel
theorem dX6_toggleArc_9 : decode cX6_toggleArc 9 = .ok (.getfield 26, 3) := by decide +kernel
theorem dX6_toggleArc_12 : decode cX6_toggleArc 12 = .ok (.iload 5, 2) := by decide +kernel
theorem dX6_toggleArc_14 : decode cX6_toggleArc 14 = .ok (.aload_n 0, 1) := by decide +kernel
theorem dX6_toggleArc_15 : decode cX6_toggleArc 15 = .ok (.getfield 26, 3) := by decide +kernel
theorem dX6_toggleArc_18 : decode cX6_toggleArc 18 = .ok (.iload 5, 2) := by decide +kernel
theorem dX6_toggleArc_20 : decode cX6_toggleArc 20 = .ok (.invokevirtual 52, 3) := by decide +kernel
theorem dX6_toggleArc_23 : decode cX6_toggleArc 23 = .ok (.iconst 1, 1) := by decide +kernel
theorem dX6_toggleArc_24 : decode cX6_toggleArc 24 = .ok (.iload 4, 2) := by decide +kernel
theorem dX6_toggleArc_26 : decode cX6_toggleArc 26 = .ok (.ishl, 1) := by decide +kernel
theorem dX6_toggleArc_27 : decode cX6_toggleArc 27 = .ok (.ixor, 1) := by decide +kernel
theorem dX6_toggleArc_28 : decode cX6_toggleArc 28 = .ok (.invokevirtual 56, 3) := by decide +kernel
theorem dX6_toggleArc_31 : decode cX6_toggleArc 31 = .ok (.aload_n 0, 1) := by decide +kernel
theorem dX6_toggleArc_32 : decode cX6_toggleArc 32 = .ok (.getfield 26, 3) := by decide +kernel
theorem dX6_toggleArc_35 : decode cX6_toggleArc 35 = .ok (.iload 5, 2) := by decide +kernel
theorem dX6_toggleArc_37 : decode cX6_toggleArc 37 = .ok (.invokevirtual 52, 3) := by decide +kernel
theorem dX6_toggleArc_40 : decode cX6_toggleArc 40 = .ok (.iload 4, 2) := by decide +kernel
theorem dX6_toggleArc_42 : decode cX6_toggleArc 42 = .ok (.ishr, 1) := by decide +kernel
theorem dX6_toggleArc_43 : decode cX6_toggleArc 43 = .ok (.iconst 1, 1) := by decide +kernel
theorem dX6_toggleArc_44 : decode cX6_toggleArc 44 = .ok (.iand, 1) := by decide +kernel
theorem dX6_toggleArc_45 : decode cX6_toggleArc 45 = .ok (.ifCond .eq 7, 3) := by decide +kernel
theorem dX6_toggleArc_48 : decode cX6_toggleArc 48 = .ok (.iconst 1, 1) := by decide +kernel
theorem dX6_toggleArc_49 : decode cX6_toggleArc 49 = .ok (.goto 4, 3) := by decide +kernel
theorem dX6_toggleArc_52 : decode cX6_toggleArc 52 = .ok (.iconst 0, 1) := by decide +kernel
theorem dX6_toggleArc_53 : decode cX6_toggleArc 53 = .ok (.ireturn, 1) := by decide +kernel
abbrev cX6_markFinal : ByteArray := prog_8_method_7_code
def yX6_markFinal : MethodName := ⟨RX6, "markFinal", "(IIZ)Z"⟩
theorem dX6_markFinal_0 : decode cX6_markFinal 0 = .ok (.aload_n 0, 1) := by decide +kernel
theorem dX6_markFinal_1 : decode cX6_markFinal 1 = .ok (.getfield 20, 3) := by decide +kernel
theorem dX6_markFinal_4 : decode cX6_markFinal 4 = .ok (.iload_n 1, 1) := by decide +kernel
theorem dX6_markFinal_5 : decode cX6_markFinal 5 = .ok (.invokevirtual 52, 3) := by decide +kernel
theorem dX6_markFinal_8 : decode cX6_markFinal 8 = .ok (.istore 4, 2) := by decide +kernel
theorem dX6_markFinal_10 : decode cX6_markFinal 10 = .ok (.aload_n 0, 1) := by decide +kernel
theorem dX6_markFinal_11 : decode cX6_markFinal 11 = .ok (.getfield 20, 3) := by decide +kernel
theorem dX6_markFinal_14 : decode cX6_markFinal 14 = .ok (.iload_n 1, 1) := by decide +kernel
theorem dX6_markFinal_15 : decode cX6_markFinal 15 = .ok (.iload_n 3, 1) := by decide +kernel
theorem dX6_markFinal_16 : decode cX6_markFinal 16 = .ok (.ifCond .eq 12, 3) := by decide +kernel
theorem dX6_markFinal_19 : decode cX6_markFinal 19 = .ok (.iload 4, 2) := by decide +kernel
theorem dX6_markFinal_21 : decode cX6_markFinal 21 = .ok (.iconst 1, 1) := by decide +kernel
theorem dX6_markFinal_22 : decode cX6_markFinal 22 = .ok (.iload_n 2, 1) := by decide +kernel
theorem dX6_markFinal_23 : decode cX6_markFinal 23 = .ok (.ishl, 1) := by decide +kernel
theorem dX6_markFinal_24 : decode cX6_markFinal 24 = .ok (.ior, 1) := by decide +kernel
theorem dX6_markFinal_25 : decode cX6_markFinal 25 = .ok (.goto 11, 3) := by decide +kernel
theorem dX6_markFinal_28 : decode cX6_markFinal 28 = .ok (.iload 4, 2) := by decide +kernel
theorem dX6_markFinal_30 : decode cX6_markFinal 30 = .ok (.iconst 1, 1) := by decide +kernel
theorem dX6_markFinal_31 : decode cX6_markFinal 31 = .ok (.iload_n 2, 1) := by decide +kernel
theorem dX6_markFinal_32 : decode cX6_markFinal 32 = .ok (.ishl, 1) := by decide +kernel
theorem dX6_markFinal_33 : decode cX6_markFinal 33 = .ok (.iconst (-1), 1) := by decide +kernel
theorem dX6_markFinal_34 : decode cX6_markFinal 34 = .ok (.ixor, 1) := by decide +kernel
theorem dX6_markFinal_35 : decode cX6_markFinal 35 = .ok (.iand, 1) := by decide +kernel
theorem dX6_markFinal_36 : decode cX6_markFinal 36 = .ok (.invokevirtual 56, 3) := by decide +kernel
theorem dX6_markFinal_39 : decode cX6_markFinal 39 = .ok (.iload 4, 2) := by decide +kernel
theorem dX6_markFinal_41 : decode cX6_markFinal 41 = .ok (.iload_n 2, 1) := by decide +kernel
theorem dX6_markFinal_42 : decode cX6_markFinal 42 = .ok (.ishr, 1) := by decide +kernel
theorem dX6_markFinal_43 : decode cX6_markFinal 43 = .ok (.iconst 1, 1) := by decide +kernel
theorem dX6_markFinal_44 : decode cX6_markFinal 44 = .ok (.iand, 1) := by decide +kernel
theorem dX6_markFinal_45 : decode cX6_markFinal 45 = .ok (.ifCond .eq 7, 3) := by decide +kernel
theorem dX6_markFinal_48 : decode cX6_markFinal 48 = .ok (.iconst 1, 1) := by decide +kernel
theorem dX6_markFinal_49 : decode cX6_markFinal 49 = .ok (.goto 4, 3) := by decide +kernel
theorem dX6_markFinal_52 : decode cX6_markFinal 52 = .ok (.iconst 0, 1) := by decide +kernel
theorem dX6_markFinal_53 : decode cX6_markFinal 53 = .ok (.ireturn, 1) := by decide +kernel
abbrev cX6_markTexts : ByteArray := prog_8_method_8_code
def yX6_markTexts : MethodName := ⟨RX6, "markTexts", "(IZ)Z"⟩
theorem dX6_markTexts_0 : decode cX6_markTexts 0 = .ok (.aload_n 0, 1) := by decide +kernel
theorem dX6_markTexts_1 : decode cX6_markTexts 1 = .ok (.getfield 41, 3) := by decide +kernel
theorem dX6_markTexts_4 : decode cX6_markTexts 4 = .ok (.istore_n 3, 1) := by decide +kernel
theorem dX6_markTexts_5 : decode cX6_markTexts 5 = .ok (.aload_n 0, 1) := by decide +kernel
theorem dX6_markTexts_6 : decode cX6_markTexts 6 = .ok (.iload_n 2, 1) := by decide +kernel
theorem dX6_markTexts_7 : decode cX6_markTexts 7 = .ok (.ifCond .eq 11, 3) := by decide +kernel
theorem dX6_markTexts_10 : decode cX6_markTexts 10 = .ok (.iload_n 3, 1) := by decide +kernel
theorem dX6_markTexts_11 : decode cX6_markTexts 11 = .ok (.iconst 1, 1) := by decide +kernel
theorem dX6_markTexts_12 : decode cX6_markTexts 12 = .ok (.iload_n 1, 1) := by decide +kernel
theorem dX6_markTexts_13 : decode cX6_markTexts 13 = .ok (.ishl, 1) := by decide +kernel
theorem dX6_markTexts_14 : decode cX6_markTexts 14 = .ok (.ior, 1) := by decide +kernel
theorem dX6_markTexts_15 : decode cX6_markTexts 15 = .ok (.goto 10, 3) := by decide +kernel
theorem dX6_markTexts_18 : decode cX6_markTexts 18 = .ok (.iload_n 3, 1) := by decide +kernel
theorem dX6_markTexts_19 : decode cX6_markTexts 19 = .ok (.iconst 1, 1) := by decide +kernel
theorem dX6_markTexts_20 : decode cX6_markTexts 20 = .ok (.iload_n 1, 1) := by decide +kernel
theorem dX6_markTexts_21 : decode cX6_markTexts 21 = .ok (.ishl, 1) := by decide +kernel
theorem dX6_markTexts_22 : decode cX6_markTexts 22 = .ok (.iconst (-1), 1) := by decide +kernel
theorem dX6_markTexts_23 : decode cX6_markTexts 23 = .ok (.ixor, 1) := by decide +kernel
theorem dX6_markTexts_24 : decode cX6_markTexts 24 = .ok (.iand, 1) := by decide +kernel
theorem dX6_markTexts_25 : decode cX6_markTexts 25 = .ok (.putfield 41, 3) := by decide +kernel
theorem dX6_markTexts_28 : decode cX6_markTexts 28 = .ok (.iload_n 3, 1) := by decide +kernel
theorem dX6_markTexts_29 : decode cX6_markTexts 29 = .ok (.iload_n 1, 1) := by decide +kernel
theorem dX6_markTexts_30 : decode cX6_markTexts 30 = .ok (.ishr, 1) := by decide +kernel
theorem dX6_markTexts_31 : decode cX6_markTexts 31 = .ok (.iconst 1, 1) := by decide +kernel
theorem dX6_markTexts_32 : decode cX6_markTexts 32 = .ok (.iand, 1) := by decide +kernel
theorem dX6_markTexts_33 : decode cX6_markTexts 33 = .ok (.ifCond .eq 7, 3) := by decide +kernel
theorem dX6_markTexts_36 : decode cX6_markTexts 36 = .ok (.iconst 1, 1) := by decide +kernel
theorem dX6_markTexts_37 : decode cX6_markTexts 37 = .ok (.goto 4, 3) := by decide +kernel
theorem dX6_markTexts_40 : decode cX6_markTexts 40 = .ok (.iconst 0, 1) := by decide +kernel
theorem dX6_markTexts_41 : decode cX6_markTexts 41 = .ok (.ireturn, 1) := by decide +kernel
abbrev cX6_giveRule : ByteArray := prog_8_method_9_code
def yX6_giveRule : MethodName := ⟨RX6, "giveRule", "(III)I"⟩
theorem dX6_giveRule_0 : decode cX6_giveRule 0 = .ok (.aload_n 0, 1) := by decide +kernel
theorem dX6_giveRule_1 : decode cX6_giveRule 1 = .ok (.getfield 23, 3) := by decide +kernel
theorem dX6_giveRule_4 : decode cX6_giveRule 4 = .ok (.iload_n 1, 1) := by decide +kernel
theorem dX6_giveRule_5 : decode cX6_giveRule 5 = .ok (.bipush 8, 2) := by decide +kernel
theorem dX6_giveRule_7 : decode cX6_giveRule 7 = .ok (.imul, 1) := by decide +kernel
theorem dX6_giveRule_8 : decode cX6_giveRule 8 = .ok (.iload_n 2, 1) := by decide +kernel
theorem dX6_giveRule_9 : decode cX6_giveRule 9 = .ok (.iadd, 1) := by decide +kernel
theorem dX6_giveRule_10 : decode cX6_giveRule 10 = .ok (.invokevirtual 52, 3) := by decide +kernel
theorem dX6_giveRule_13 : decode cX6_giveRule 13 = .ok (.istore 4, 2) := by decide +kernel
theorem dX6_giveRule_15 : decode cX6_giveRule 15 = .ok (.aload_n 0, 1) := by decide +kernel
theorem dX6_giveRule_16 : decode cX6_giveRule 16 = .ok (.getfield 23, 3) := by decide +kernel
theorem dX6_giveRule_19 : decode cX6_giveRule 19 = .ok (.iload_n 1, 1) := by decide +kernel
theorem dX6_giveRule_20 : decode cX6_giveRule 20 = .ok (.bipush 8, 2) := by decide +kernel
theorem dX6_giveRule_22 : decode cX6_giveRule 22 = .ok (.imul, 1) := by decide +kernel
theorem dX6_giveRule_23 : decode cX6_giveRule 23 = .ok (.iload_n 2, 1) := by decide +kernel
theorem dX6_giveRule_24 : decode cX6_giveRule 24 = .ok (.iadd, 1) := by decide +kernel
theorem dX6_giveRule_25 : decode cX6_giveRule 25 = .ok (.iload_n 3, 1) := by decide +kernel
theorem dX6_giveRule_26 : decode cX6_giveRule 26 = .ok (.invokevirtual 56, 3) := by decide +kernel
theorem dX6_giveRule_29 : decode cX6_giveRule 29 = .ok (.iload 4, 2) := by decide +kernel
theorem dX6_giveRule_31 : decode cX6_giveRule 31 = .ok (.ireturn, 1) := by decide +kernel
abbrev cX6_statesBehind : ByteArray := prog_8_method_14_code
def yX6_statesBehind : MethodName := ⟨RX6, "statesBehind", "(III)I"⟩
theorem dX6_statesBehind_0 : decode cX6_statesBehind 0 = .ok (.iconst 0, 1) := by decide +kernel
theorem dX6_statesBehind_1 : decode cX6_statesBehind 1 = .ok (.istore 4, 2) := by decide +kernel
theorem dX6_statesBehind_3 : decode cX6_statesBehind 3 = .ok (.iconst 0, 1) := by decide +kernel
theorem dX6_statesBehind_4 : decode cX6_statesBehind 4 = .ok (.istore 5, 2) := by decide +kernel
theorem dX6_statesBehind_6 : decode cX6_statesBehind 6 = .ok (.iload 5, 2) := by decide +kernel
theorem dX6_statesBehind_8 : decode cX6_statesBehind 8 = .ok (.iconst 4, 1) := by decide +kernel
theorem dX6_statesBehind_9 : decode cX6_statesBehind 9 = .ok (.if_icmp .ge 38, 3) := by decide +kernel
theorem dX6_statesBehind_12 : decode cX6_statesBehind 12 = .ok (.iload_n 2, 1) := by decide +kernel
theorem dX6_statesBehind_13 : decode cX6_statesBehind 13 = .ok (.iload 5, 2) := by decide +kernel
theorem dX6_statesBehind_15 : decode cX6_statesBehind 15 = .ok (.ishr, 1) := by decide +kernel
theorem dX6_statesBehind_16 : decode cX6_statesBehind 16 = .ok (.iconst 1, 1) := by decide +kernel
theorem dX6_statesBehind_17 : decode cX6_statesBehind 17 = .ok (.iand, 1) := by decide +kernel
theorem dX6_statesBehind_18 : decode cX6_statesBehind 18 = .ok (.ifCond .eq 23, 3) := by decide +kernel
theorem dX6_statesBehind_21 : decode cX6_statesBehind 21 = .ok (.iload 4, 2) := by decide +kernel
theorem dX6_statesBehind_23 : decode cX6_statesBehind 23 = .ok (.aload_n 0, 1) := by decide +kernel
theorem dX6_statesBehind_24 : decode cX6_statesBehind 24 = .ok (.getfield 26, 3) := by decide +kernel
theorem dX6_statesBehind_27 : decode cX6_statesBehind 27 = .ok (.iload_n 1, 1) := by decide +kernel
theorem dX6_statesBehind_28 : decode cX6_statesBehind 28 = .ok (.iload 5, 2) := by decide +kernel
theorem dX6_statesBehind_30 : decode cX6_statesBehind 30 = .ok (.iconst 0, 1) := by decide +kernel
theorem dX6_statesBehind_31 : decode cX6_statesBehind 31 = .ok (.invokestatic 59, 3) := by decide +kernel
theorem dX6_statesBehind_34 : decode cX6_statesBehind 34 = .ok (.iload_n 3, 1) := by decide +kernel
theorem dX6_statesBehind_35 : decode cX6_statesBehind 35 = .ok (.invokevirtual 122, 3) := by decide +kernel
theorem dX6_statesBehind_38 : decode cX6_statesBehind 38 = .ok (.ior, 1) := by decide +kernel
theorem dX6_statesBehind_39 : decode cX6_statesBehind 39 = .ok (.istore 4, 2) := by decide +kernel
theorem dX6_statesBehind_41 : decode cX6_statesBehind 41 = .ok (.iinc 5 1, 3) := by decide +kernel
theorem dX6_statesBehind_44 : decode cX6_statesBehind 44 = .ok (.goto (-38), 3) := by decide +kernel
theorem dX6_statesBehind_47 : decode cX6_statesBehind 47 = .ok (.iload 4, 2) := by decide +kernel
theorem dX6_statesBehind_49 : decode cX6_statesBehind 49 = .ok (.ireturn, 1) := by decide +kernel
abbrev cX6_isAccepted : ByteArray := prog_8_method_13_code
def yX6_isAccepted : MethodName := ⟨RX6, "isAccepted", "(JI)Z"⟩
theorem dX6_isAccepted_0 : decode cX6_isAccepted 0 = .ok (.iconst 1, 1) := by decide +kernel
theorem dX6_isAccepted_1 : decode cX6_isAccepted 1 = .ok (.istore 4, 2) := by decide +kernel
theorem dX6_isAccepted_3 : decode cX6_isAccepted 3 = .ok (.lload_n 1, 1) := by decide +kernel
theorem dX6_isAccepted_4 : decode cX6_isAccepted 4 = .ok (.lstore 5, 2) := by decide +kernel
theorem dX6_isAccepted_6 : decode cX6_isAccepted 6 = .ok (.lload_n 1, 1) := by decide +kernel
theorem dX6_isAccepted_7 : decode cX6_isAccepted 7 = .ok (.invokestatic 110, 3) := by decide +kernel
theorem dX6_isAccepted_10 : decode cX6_isAccepted 10 = .ok (.istore 7, 2) := by decide +kernel
theorem dX6_isAccepted_12 : decode cX6_isAccepted 12 = .ok (.iload 7, 2) := by decide +kernel
theorem dX6_isAccepted_14 : decode cX6_isAccepted 14 = .ok (.ifCond .le 39, 3) := by decide +kernel
theorem dX6_isAccepted_17 : decode cX6_isAccepted 17 = .ok (.aload_n 0, 1) := by decide +kernel
theorem dX6_isAccepted_18 : decode cX6_isAccepted 18 = .ok (.iload_n 3, 1) := by decide +kernel
theorem dX6_isAccepted_19 : decode cX6_isAccepted 19 = .ok (.iload 4, 2) := by decide +kernel
theorem dX6_isAccepted_21 : decode cX6_isAccepted 21 = .ok (.aload_n 0, 1) := by decide +kernel
theorem dX6_isAccepted_22 : decode cX6_isAccepted 22 = .ok (.getfield 29, 3) := by decide +kernel
theorem dX6_isAccepted_25 : decode cX6_isAccepted 25 = .ok (.lload 5, 2) := by decide +kernel
theorem dX6_isAccepted_27 : decode cX6_isAccepted 27 = .ok (.invokestatic 116, 3) := by decide +kernel
theorem dX6_isAccepted_30 : decode cX6_isAccepted 30 = .ok (.invokevirtual 52, 3) := by decide +kernel
theorem dX6_isAccepted_33 : decode cX6_isAccepted 33 = .ok (.invokevirtual 119, 3) := by decide +kernel
theorem dX6_isAccepted_36 : decode cX6_isAccepted 36 = .ok (.istore 4, 2) := by decide +kernel
theorem dX6_isAccepted_38 : decode cX6_isAccepted 38 = .ok (.lload 5, 2) := by decide +kernel
theorem dX6_isAccepted_40 : decode cX6_isAccepted 40 = .ok (.lload 5, 2) := by decide +kernel
theorem dX6_isAccepted_42 : decode cX6_isAccepted 42 = .ok (.lconst 1, 1) := by decide +kernel
theorem dX6_isAccepted_43 : decode cX6_isAccepted 43 = .ok (.lsub, 1) := by decide +kernel
theorem dX6_isAccepted_44 : decode cX6_isAccepted 44 = .ok (.land, 1) := by decide +kernel
theorem dX6_isAccepted_45 : decode cX6_isAccepted 45 = .ok (.lstore 5, 2) := by decide +kernel
theorem dX6_isAccepted_47 : decode cX6_isAccepted 47 = .ok (.iinc 7 (-1), 3) := by decide +kernel
theorem dX6_isAccepted_50 : decode cX6_isAccepted 50 = .ok (.goto (-38), 3) := by decide +kernel
theorem dX6_isAccepted_53 : decode cX6_isAccepted 53 = .ok (.iload 4, 2) := by decide +kernel
theorem dX6_isAccepted_55 : decode cX6_isAccepted 55 = .ok (.aload_n 0, 1) := by decide +kernel
theorem dX6_isAccepted_56 : decode cX6_isAccepted 56 = .ok (.getfield 20, 3) := by decide +kernel
theorem dX6_isAccepted_59 : decode cX6_isAccepted 59 = .ok (.iload_n 3, 1) := by decide +kernel
theorem dX6_isAccepted_60 : decode cX6_isAccepted 60 = .ok (.invokevirtual 52, 3) := by decide +kernel
theorem dX6_isAccepted_63 : decode cX6_isAccepted 63 = .ok (.iand, 1) := by decide +kernel
theorem dX6_isAccepted_64 : decode cX6_isAccepted 64 = .ok (.ifCond .eq 7, 3) := by decide +kernel
theorem dX6_isAccepted_67 : decode cX6_isAccepted 67 = .ok (.iconst 1, 1) := by decide +kernel
theorem dX6_isAccepted_68 : decode cX6_isAccepted 68 = .ok (.goto 4, 3) := by decide +kernel
theorem dX6_isAccepted_71 : decode cX6_isAccepted 71 = .ok (.iconst 0, 1) := by decide +kernel
theorem dX6_isAccepted_72 : decode cX6_isAccepted 72 = .ok (.ireturn, 1) := by decide +kernel
abbrev cX6_isOfType : ByteArray := prog_8_method_12_code
def yX6_isOfType : MethodName := ⟨RX6, "isOfType", "(LTreequery$Tree;II)Z"⟩
theorem dX6_isOfType_0 : decode cX6_isOfType 0 = .ok (.aload_n 1, 1) := by decide +kernel
theorem dX6_isOfType_1 : decode cX6_isOfType 1 = .ok (.getfield 67, 3) := by decide +kernel
theorem dX6_isOfType_4 : decode cX6_isOfType 4 = .ok (.astore 4, 2) := by decide +kernel
theorem dX6_isOfType_6 : decode cX6_isOfType 6 = .ok (.aload_n 0, 1) := by decide +kernel
theorem dX6_isOfType_7 : decode cX6_isOfType 7 = .ok (.getfield 14, 3) := by decide +kernel
theorem dX6_isOfType_10 : decode cX6_isOfType 10 = .ok (.iload_n 3, 1) := by decide +kernel
theorem dX6_isOfType_11 : decode cX6_isOfType 11 = .ok (.invokevirtual 52, 3) := by decide +kernel
theorem dX6_isOfType_14 : decode cX6_isOfType 14 = .ok (.aload_n 1, 1) := by decide +kernel
theorem dX6_isOfType_15 : decode cX6_isOfType 15 = .ok (.getfield 93, 3) := by decide +kernel
theorem dX6_isOfType_18 : decode cX6_isOfType 18 = .ok (.aload 4, 2) := by decide +kernel
theorem dX6_isOfType_20 : decode cX6_isOfType 20 = .ok (.iload_n 2, 1) := by decide +kernel
theorem dX6_isOfType_21 : decode cX6_isOfType 21 = .ok (.invokevirtual 94, 3) := by decide +kernel
theorem dX6_isOfType_24 : decode cX6_isOfType 24 = .ok (.invokevirtual 52, 3) := by decide +kernel
theorem dX6_isOfType_27 : decode cX6_isOfType 27 = .ok (.if_icmp .eq 5, 3) := by decide +kernel
theorem dX6_isOfType_30 : decode cX6_isOfType 30 = .ok (.iconst 0, 1) := by decide +kernel
theorem dX6_isOfType_31 : decode cX6_isOfType 31 = .ok (.ireturn, 1) := by decide +kernel
theorem dX6_isOfType_32 : decode cX6_isOfType 32 = .ok (.aload 4, 2) := by decide +kernel
theorem dX6_isOfType_34 : decode cX6_isOfType 34 = .ok (.iload_n 2, 1) := by decide +kernel
theorem dX6_isOfType_35 : decode cX6_isOfType 35 = .ok (.invokevirtual 97, 3) := by decide +kernel
theorem dX6_isOfType_38 : decode cX6_isOfType 38 = .ok (.aload 4, 2) := by decide +kernel
theorem dX6_isOfType_40 : decode cX6_isOfType 40 = .ok (.bipush 9, 2) := by decide +kernel
theorem dX6_isOfType_42 : decode cX6_isOfType 42 = .ok (.invokevirtual 101, 3) := by decide +kernel
theorem dX6_isOfType_45 : decode cX6_isOfType 45 = .ok (.land, 1) := by decide +kernel
theorem dX6_isOfType_46 : decode cX6_isOfType 46 = .ok (.lconst 0, 1) := by decide +kernel
theorem dX6_isOfType_47 : decode cX6_isOfType 47 = .ok (.lcmp, 1) := by decide +kernel
theorem dX6_isOfType_48 : decode cX6_isOfType 48 = .ok (.ifCond .eq 7, 3) := by decide +kernel
theorem dX6_isOfType_51 : decode cX6_isOfType 51 = .ok (.iconst 1, 1) := by decide +kernel
theorem dX6_isOfType_52 : decode cX6_isOfType 52 = .ok (.goto 4, 3) := by decide +kernel
theorem dX6_isOfType_55 : decode cX6_isOfType 55 = .ok (.iconst 0, 1) := by decide +kernel
theorem dX6_isOfType_56 : decode cX6_isOfType 56 = .ok (.istore 5, 2) := by decide +kernel
theorem dX6_isOfType_58 : decode cX6_isOfType 58 = .ok (.iload 5, 2) := by decide +kernel
theorem dX6_isOfType_60 : decode cX6_isOfType 60 = .ok (.ifCond .eq 16, 3) := by decide +kernel
theorem dX6_isOfType_63 : decode cX6_isOfType 63 = .ok (.aload_n 0, 1) := by decide +kernel
theorem dX6_isOfType_64 : decode cX6_isOfType 64 = .ok (.getfield 41, 3) := by decide +kernel
theorem dX6_isOfType_67 : decode cX6_isOfType 67 = .ok (.iload_n 3, 1) := by decide +kernel
theorem dX6_isOfType_68 : decode cX6_isOfType 68 = .ok (.ishr, 1) := by decide +kernel
theorem dX6_isOfType_69 : decode cX6_isOfType 69 = .ok (.iconst 1, 1) := by decide +kernel
theorem dX6_isOfType_70 : decode cX6_isOfType 70 = .ok (.iand, 1) := by decide +kernel
theorem dX6_isOfType_71 : decode cX6_isOfType 71 = .ok (.ifCond .ne 5, 3) := by decide +kernel
theorem dX6_isOfType_74 : decode cX6_isOfType 74 = .ok (.iconst 0, 1) := by decide +kernel
theorem dX6_isOfType_75 : decode cX6_isOfType 75 = .ok (.ireturn, 1) := by decide +kernel
theorem dX6_isOfType_76 : decode cX6_isOfType 76 = .ok (.iconst 0, 1) := by decide +kernel
theorem dX6_isOfType_77 : decode cX6_isOfType 77 = .ok (.istore 6, 2) := by decide +kernel
theorem dX6_isOfType_79 : decode cX6_isOfType 79 = .ok (.iload 6, 2) := by decide +kernel
theorem dX6_isOfType_81 : decode cX6_isOfType 81 = .ok (.bipush 8, 2) := by decide +kernel
theorem dX6_isOfType_83 : decode cX6_isOfType 83 = .ok (.if_icmp .ge 64, 3) := by decide +kernel
theorem dX6_isOfType_86 : decode cX6_isOfType 86 = .ok (.aload 4, 2) := by decide +kernel
theorem dX6_isOfType_88 : decode cX6_isOfType 88 = .ok (.iload_n 2, 1) := by decide +kernel
theorem dX6_isOfType_89 : decode cX6_isOfType 89 = .ok (.invokevirtual 104, 3) := by decide +kernel
theorem dX6_isOfType_92 : decode cX6_isOfType 92 = .ok (.aload 4, 2) := by decide +kernel
theorem dX6_isOfType_94 : decode cX6_isOfType 94 = .ok (.iload 6, 2) := by decide +kernel
theorem dX6_isOfType_96 : decode cX6_isOfType 96 = .ok (.invokevirtual 101, 3) := by decide +kernel
theorem dX6_isOfType_99 : decode cX6_isOfType 99 = .ok (.land, 1) := by decide +kernel
theorem dX6_isOfType_100 : decode cX6_isOfType 100 = .ok (.lconst 0, 1) := by decide +kernel
theorem dX6_isOfType_101 : decode cX6_isOfType 101 = .ok (.lcmp, 1) := by decide +kernel
theorem dX6_isOfType_102 : decode cX6_isOfType 102 = .ok (.ifCond .eq 7, 3) := by decide +kernel
theorem dX6_isOfType_105 : decode cX6_isOfType 105 = .ok (.iconst 1, 1) := by decide +kernel
theorem dX6_isOfType_106 : decode cX6_isOfType 106 = .ok (.goto 4, 3) := by decide +kernel
theorem dX6_isOfType_109 : decode cX6_isOfType 109 = .ok (.iconst 0, 1) := by decide +kernel
theorem dX6_isOfType_110 : decode cX6_isOfType 110 = .ok (.istore 7, 2) := by decide +kernel
theorem dX6_isOfType_112 : decode cX6_isOfType 112 = .ok (.aload_n 0, 1) := by decide +kernel
theorem dX6_isOfType_113 : decode cX6_isOfType 113 = .ok (.getfield 23, 3) := by decide +kernel
theorem dX6_isOfType_116 : decode cX6_isOfType 116 = .ok (.iload_n 3, 1) := by decide +kernel
theorem dX6_isOfType_117 : decode cX6_isOfType 117 = .ok (.bipush 8, 2) := by decide +kernel
theorem dX6_isOfType_119 : decode cX6_isOfType 119 = .ok (.imul, 1) := by decide +kernel
theorem dX6_isOfType_120 : decode cX6_isOfType 120 = .ok (.iload 6, 2) := by decide +kernel
theorem dX6_isOfType_122 : decode cX6_isOfType 122 = .ok (.iadd, 1) := by decide +kernel
theorem dX6_isOfType_123 : decode cX6_isOfType 123 = .ok (.invokevirtual 52, 3) := by decide +kernel
theorem dX6_isOfType_126 : decode cX6_isOfType 126 = .ok (.iload 7, 2) := by decide +kernel
theorem dX6_isOfType_128 : decode cX6_isOfType 128 = .ok (.ifCond .eq 7, 3) := by decide +kernel
theorem dX6_isOfType_131 : decode cX6_isOfType 131 = .ok (.iconst 0, 1) := by decide +kernel
theorem dX6_isOfType_132 : decode cX6_isOfType 132 = .ok (.goto 4, 3) := by decide +kernel
theorem dX6_isOfType_135 : decode cX6_isOfType 135 = .ok (.iconst 2, 1) := by decide +kernel
theorem dX6_isOfType_136 : decode cX6_isOfType 136 = .ok (.if_icmp .ne 5, 3) := by decide +kernel
theorem dX6_isOfType_139 : decode cX6_isOfType 139 = .ok (.iconst 0, 1) := by decide +kernel
theorem dX6_isOfType_140 : decode cX6_isOfType 140 = .ok (.ireturn, 1) := by decide +kernel
theorem dX6_isOfType_141 : decode cX6_isOfType 141 = .ok (.iinc 6 1, 3) := by decide +kernel
theorem dX6_isOfType_144 : decode cX6_isOfType 144 = .ok (.goto (-65), 3) := by decide +kernel
theorem dX6_isOfType_147 : decode cX6_isOfType 147 = .ok (.aload_n 0, 1) := by decide +kernel
theorem dX6_isOfType_148 : decode cX6_isOfType 148 = .ok (.aload 4, 2) := by decide +kernel
theorem dX6_isOfType_150 : decode cX6_isOfType 150 = .ok (.iload_n 2, 1) := by decide +kernel
theorem dX6_isOfType_151 : decode cX6_isOfType 151 = .ok (.invokevirtual 97, 3) := by decide +kernel
theorem dX6_isOfType_154 : decode cX6_isOfType 154 = .ok (.aload 4, 2) := by decide +kernel
theorem dX6_isOfType_156 : decode cX6_isOfType 156 = .ok (.invokevirtual 79, 3) := by decide +kernel
theorem dX6_isOfType_159 : decode cX6_isOfType 159 = .ok (.land, 1) := by decide +kernel
theorem dX6_isOfType_160 : decode cX6_isOfType 160 = .ok (.iload_n 3, 1) := by decide +kernel
theorem dX6_isOfType_161 : decode cX6_isOfType 161 = .ok (.invokevirtual 107, 3) := by decide +kernel
theorem dX6_isOfType_164 : decode cX6_isOfType 164 = .ok (.ireturn, 1) := by decide +kernel
abbrev cX6_typesOf : ByteArray := prog_8_method_11_code
def yX6_typesOf : MethodName := ⟨RX6, "typesOf", "(LTreequery$Tree;I)I"⟩
theorem dX6_typesOf_0 : decode cX6_typesOf 0 = .ok (.aload_n 1, 1) := by decide +kernel
theorem dX6_typesOf_1 : decode cX6_typesOf 1 = .ok (.getfield 67, 3) := by decide +kernel
theorem dX6_typesOf_4 : decode cX6_typesOf 4 = .ok (.invokevirtual 73, 3) := by decide +kernel
theorem dX6_typesOf_7 : decode cX6_typesOf 7 = .ok (.iconst 1, 1) := by decide +kernel
theorem dX6_typesOf_8 : decode cX6_typesOf 8 = .ok (.isub, 1) := by decide +kernel
theorem dX6_typesOf_9 : decode cX6_typesOf 9 = .ok (.istore_n 3, 1) := by decide +kernel
theorem dX6_typesOf_10 : decode cX6_typesOf 10 = .ok (.iload_n 3, 1) := by decide +kernel
theorem dX6_typesOf_11 : decode cX6_typesOf 11 = .ok (.iload_n 2, 1) := by decide +kernel
theorem dX6_typesOf_12 : decode cX6_typesOf 12 = .ok (.if_icmp .lt 76, 3) := by decide +kernel
theorem dX6_typesOf_15 : decode cX6_typesOf 15 = .ok (.iload_n 3, 1) := by decide +kernel
theorem dX6_typesOf_16 : decode cX6_typesOf 16 = .ok (.ifCond .lt 72, 3) := by decide +kernel
theorem dX6_typesOf_19 : decode cX6_typesOf 19 = .ok (.iconst 0, 1) := by decide +kernel
theorem dX6_typesOf_20 : decode cX6_typesOf 20 = .ok (.istore 4, 2) := by decide +kernel
theorem dX6_typesOf_22 : decode cX6_typesOf 22 = .ok (.iconst 0, 1) := by decide +kernel
theorem dX6_typesOf_23 : decode cX6_typesOf 23 = .ok (.istore 5, 2) := by decide +kernel
theorem dX6_typesOf_25 : decode cX6_typesOf 25 = .ok (.iload 5, 2) := by decide +kernel
theorem dX6_typesOf_27 : decode cX6_typesOf 27 = .ok (.bipush 6, 2) := by decide +kernel
theorem dX6_typesOf_29 : decode cX6_typesOf 29 = .ok (.if_icmp .ge 43, 3) := by decide +kernel
theorem dX6_typesOf_32 : decode cX6_typesOf 32 = .ok (.aload_n 1, 1) := by decide +kernel
theorem dX6_typesOf_33 : decode cX6_typesOf 33 = .ok (.getfield 67, 3) := by decide +kernel
theorem dX6_typesOf_36 : decode cX6_typesOf 36 = .ok (.invokevirtual 79, 3) := by decide +kernel
theorem dX6_typesOf_39 : decode cX6_typesOf 39 = .ok (.iload_n 3, 1) := by decide +kernel
theorem dX6_typesOf_40 : decode cX6_typesOf 40 = .ok (.invokestatic 83, 3) := by decide +kernel
theorem dX6_typesOf_43 : decode cX6_typesOf 43 = .ok (.ifCond .eq 23, 3) := by decide +kernel
theorem dX6_typesOf_46 : decode cX6_typesOf 46 = .ok (.aload_n 0, 1) := by decide +kernel
theorem dX6_typesOf_47 : decode cX6_typesOf 47 = .ok (.aload_n 1, 1) := by decide +kernel
theorem dX6_typesOf_48 : decode cX6_typesOf 48 = .ok (.iload_n 3, 1) := by decide +kernel
theorem dX6_typesOf_49 : decode cX6_typesOf 49 = .ok (.iload 5, 2) := by decide +kernel
theorem dX6_typesOf_51 : decode cX6_typesOf 51 = .ok (.invokevirtual 89, 3) := by decide +kernel
theorem dX6_typesOf_54 : decode cX6_typesOf 54 = .ok (.ifCond .eq 12, 3) := by decide +kernel
theorem dX6_typesOf_57 : decode cX6_typesOf 57 = .ok (.iload 4, 2) := by decide +kernel
theorem dX6_typesOf_59 : decode cX6_typesOf 59 = .ok (.iconst 1, 1) := by decide +kernel
theorem dX6_typesOf_60 : decode cX6_typesOf 60 = .ok (.iload 5, 2) := by decide +kernel
theorem dX6_typesOf_62 : decode cX6_typesOf 62 = .ok (.ishl, 1) := by decide +kernel
theorem dX6_typesOf_63 : decode cX6_typesOf 63 = .ok (.ior, 1) := by decide +kernel
theorem dX6_typesOf_64 : decode cX6_typesOf 64 = .ok (.istore 4, 2) := by decide +kernel
theorem dX6_typesOf_66 : decode cX6_typesOf 66 = .ok (.iinc 5 1, 3) := by decide +kernel
theorem dX6_typesOf_69 : decode cX6_typesOf 69 = .ok (.goto (-44), 3) := by decide +kernel
theorem dX6_typesOf_72 : decode cX6_typesOf 72 = .ok (.aload_n 0, 1) := by decide +kernel
theorem dX6_typesOf_73 : decode cX6_typesOf 73 = .ok (.getfield 29, 3) := by decide +kernel
theorem dX6_typesOf_76 : decode cX6_typesOf 76 = .ok (.iload_n 3, 1) := by decide +kernel
theorem dX6_typesOf_77 : decode cX6_typesOf 77 = .ok (.iload 4, 2) := by decide +kernel
theorem dX6_typesOf_79 : decode cX6_typesOf 79 = .ok (.invokevirtual 56, 3) := by decide +kernel
theorem dX6_typesOf_82 : decode cX6_typesOf 82 = .ok (.iinc 3 (-1), 3) := by decide +kernel
theorem dX6_typesOf_85 : decode cX6_typesOf 85 = .ok (.goto (-75), 3) := by decide +kernel
theorem dX6_typesOf_88 : decode cX6_typesOf 88 = .ok (.aload_n 0, 1) := by decide +kernel
theorem dX6_typesOf_89 : decode cX6_typesOf 89 = .ok (.getfield 29, 3) := by decide +kernel
theorem dX6_typesOf_92 : decode cX6_typesOf 92 = .ok (.iload_n 2, 1) := by decide +kernel
theorem dX6_typesOf_93 : decode cX6_typesOf 93 = .ok (.invokevirtual 52, 3) := by decide +kernel
theorem dX6_typesOf_96 : decode cX6_typesOf 96 = .ok (.ireturn, 1) := by decide +kernel
abbrev cX6_admits : ByteArray := prog_8_method_10_code
def yX6_admits : MethodName := ⟨RX6, "admits", "(LTreequery$Tree;)Z"⟩
theorem dX6_admits_0 : decode cX6_admits 0 = .ok (.aload_n 0, 1) := by decide +kernel
theorem dX6_admits_1 : decode cX6_admits 1 = .ok (.aload_n 1, 1) := by decide +kernel
theorem dX6_admits_2 : decode cX6_admits 2 = .ok (.iconst 0, 1) := by decide +kernel
theorem dX6_admits_3 : decode cX6_admits 3 = .ok (.invokevirtual 63, 3) := by decide +kernel
theorem dX6_admits_6 : decode cX6_admits 6 = .ok (.iconst 1, 1) := by decide +kernel
theorem dX6_admits_7 : decode cX6_admits 7 = .ok (.iand, 1) := by decide +kernel
theorem dX6_admits_8 : decode cX6_admits 8 = .ok (.ifCond .eq 7, 3) := by decide +kernel
theorem dX6_admits_11 : decode cX6_admits 11 = .ok (.iconst 1, 1) := by decide +kernel
theorem dX6_admits_12 : decode cX6_admits 12 = .ok (.goto 4, 3) := by decide +kernel
theorem dX6_admits_15 : decode cX6_admits 15 = .ok (.iconst 0, 1) := by decide +kernel
theorem dX6_admits_16 : decode cX6_admits 16 = .ok (.ireturn, 1) := by decide +kernel
abbrev cX6_possible : ByteArray := prog_8_method_17_code
def yX6_possible : MethodName := ⟨RX6, "possible", "(I)I"⟩
theorem dX6_possible_0 : decode cX6_possible 0 = .ok (.aload_n 0, 1) := by decide +kernel
theorem dX6_possible_1 : decode cX6_possible 1 = .ok (.getfield 41, 3) := by decide +kernel
theorem dX6_possible_4 : decode cX6_possible 4 = .ok (.iload_n 1, 1) := by decide +kernel
theorem dX6_possible_5 : decode cX6_possible 5 = .ok (.ishr, 1) := by decide +kernel
theorem dX6_possible_6 : decode cX6_possible 6 = .ok (.iconst 1, 1) := by decide +kernel
theorem dX6_possible_7 : decode cX6_possible 7 = .ok (.iand, 1) := by decide +kernel
theorem dX6_possible_8 : decode cX6_possible 8 = .ok (.bipush 6, 2) := by decide +kernel
theorem dX6_possible_10 : decode cX6_possible 10 = .ok (.ishl, 1) := by decide +kernel
theorem dX6_possible_11 : decode cX6_possible 11 = .ok (.istore_n 2, 1) := by decide +kernel
theorem dX6_possible_12 : decode cX6_possible 12 = .ok (.iconst 0, 1) := by decide +kernel
theorem dX6_possible_13 : decode cX6_possible 13 = .ok (.istore_n 3, 1) := by decide +kernel
theorem dX6_possible_14 : decode cX6_possible 14 = .ok (.iload_n 3, 1) := by decide +kernel
theorem dX6_possible_15 : decode cX6_possible 15 = .ok (.iconst 4, 1) := by decide +kernel
theorem dX6_possible_16 : decode cX6_possible 16 = .ok (.if_icmp .ge 53, 3) := by decide +kernel
theorem dX6_possible_19 : decode cX6_possible 19 = .ok (.iconst 0, 1) := by decide +kernel
theorem dX6_possible_20 : decode cX6_possible 20 = .ok (.istore 4, 2) := by decide +kernel
theorem dX6_possible_22 : decode cX6_possible 22 = .ok (.iload 4, 2) := by decide +kernel
theorem dX6_possible_24 : decode cX6_possible 24 = .ok (.bipush 6, 2) := by decide +kernel
theorem dX6_possible_26 : decode cX6_possible 26 = .ok (.if_icmp .ge 37, 3) := by decide +kernel
theorem dX6_possible_29 : decode cX6_possible 29 = .ok (.iload_n 2, 1) := by decide +kernel
theorem dX6_possible_30 : decode cX6_possible 30 = .ok (.aload_n 0, 1) := by decide +kernel
theorem dX6_possible_31 : decode cX6_possible 31 = .ok (.getfield 26, 3) := by decide +kernel
theorem dX6_possible_34 : decode cX6_possible 34 = .ok (.iload_n 1, 1) := by decide +kernel
theorem dX6_possible_35 : decode cX6_possible 35 = .ok (.iload_n 3, 1) := by decide +kernel
theorem dX6_possible_36 : decode cX6_possible 36 = .ok (.iload 4, 2) := by decide +kernel
theorem dX6_possible_38 : decode cX6_possible 38 = .ok (.invokestatic 59, 3) := by decide +kernel
theorem dX6_possible_41 : decode cX6_possible 41 = .ok (.invokevirtual 52, 3) := by decide +kernel
theorem dX6_possible_44 : decode cX6_possible 44 = .ok (.ifCond .eq 10, 3) := by decide +kernel
theorem dX6_possible_47 : decode cX6_possible 47 = .ok (.iconst 1, 1) := by decide +kernel
theorem dX6_possible_48 : decode cX6_possible 48 = .ok (.iload 4, 2) := by decide +kernel
theorem dX6_possible_50 : decode cX6_possible 50 = .ok (.ishl, 1) := by decide +kernel
theorem dX6_possible_51 : decode cX6_possible 51 = .ok (.goto 4, 3) := by decide +kernel
theorem dX6_possible_54 : decode cX6_possible 54 = .ok (.iconst 0, 1) := by decide +kernel
theorem dX6_possible_55 : decode cX6_possible 55 = .ok (.ior, 1) := by decide +kernel
theorem dX6_possible_56 : decode cX6_possible 56 = .ok (.istore_n 2, 1) := by decide +kernel
theorem dX6_possible_57 : decode cX6_possible 57 = .ok (.iinc 4 1, 3) := by decide +kernel
theorem dX6_possible_60 : decode cX6_possible 60 = .ok (.goto (-38), 3) := by decide +kernel
theorem dX6_possible_63 : decode cX6_possible 63 = .ok (.iinc 3 1, 3) := by decide +kernel
theorem dX6_possible_66 : decode cX6_possible 66 = .ok (.goto (-52), 3) := by decide +kernel
theorem dX6_possible_69 : decode cX6_possible 69 = .ok (.iconst 0, 1) := by decide +kernel
theorem dX6_possible_70 : decode cX6_possible 70 = .ok (.istore_n 3, 1) := by decide +kernel
theorem dX6_possible_71 : decode cX6_possible 71 = .ok (.iload_n 3, 1) := by decide +kernel
theorem dX6_possible_72 : decode cX6_possible 72 = .ok (.bipush 8, 2) := by decide +kernel
theorem dX6_possible_74 : decode cX6_possible 74 = .ok (.if_icmp .ge 35, 3) := by decide +kernel
theorem dX6_possible_77 : decode cX6_possible 77 = .ok (.iload_n 2, 1) := by decide +kernel
theorem dX6_possible_78 : decode cX6_possible 78 = .ok (.aload_n 0, 1) := by decide +kernel
theorem dX6_possible_79 : decode cX6_possible 79 = .ok (.getfield 23, 3) := by decide +kernel
theorem dX6_possible_82 : decode cX6_possible 82 = .ok (.iload_n 1, 1) := by decide +kernel
theorem dX6_possible_83 : decode cX6_possible 83 = .ok (.bipush 8, 2) := by decide +kernel
theorem dX6_possible_85 : decode cX6_possible 85 = .ok (.imul, 1) := by decide +kernel
theorem dX6_possible_86 : decode cX6_possible 86 = .ok (.iload_n 3, 1) := by decide +kernel
theorem dX6_possible_87 : decode cX6_possible 87 = .ok (.iadd, 1) := by decide +kernel
theorem dX6_possible_88 : decode cX6_possible 88 = .ok (.invokevirtual 52, 3) := by decide +kernel
theorem dX6_possible_91 : decode cX6_possible 91 = .ok (.ifCond .eq 9, 3) := by decide +kernel
theorem dX6_possible_94 : decode cX6_possible 94 = .ok (.sipush 128, 3) := by decide +kernel
theorem dX6_possible_97 : decode cX6_possible 97 = .ok (.goto 4, 3) := by decide +kernel
theorem dX6_possible_100 : decode cX6_possible 100 = .ok (.iconst 0, 1) := by decide +kernel
theorem dX6_possible_101 : decode cX6_possible 101 = .ok (.ior, 1) := by decide +kernel
theorem dX6_possible_102 : decode cX6_possible 102 = .ok (.istore_n 2, 1) := by decide +kernel
theorem dX6_possible_103 : decode cX6_possible 103 = .ok (.iinc 3 1, 3) := by decide +kernel
theorem dX6_possible_106 : decode cX6_possible 106 = .ok (.goto (-35), 3) := by decide +kernel
theorem dX6_possible_109 : decode cX6_possible 109 = .ok (.iload_n 2, 1) := by decide +kernel
theorem dX6_possible_110 : decode cX6_possible 110 = .ok (.ireturn, 1) := by decide +kernel
abbrev cX6_learn : ByteArray := prog_8_method_16_code
def yX6_learn : MethodName := ⟨RX6, "learn", "()V"⟩
theorem dX6_learn_0 : decode cX6_learn 0 = .ok (.aload_n 0, 1) := by decide +kernel
theorem dX6_learn_1 : decode cX6_learn 1 = .ok (.getfield 32, 3) := by decide +kernel
theorem dX6_learn_4 : decode cX6_learn 4 = .ok (.iconst 0, 1) := by decide +kernel
theorem dX6_learn_5 : decode cX6_learn 5 = .ok (.invokevirtual 141, 3) := by decide +kernel
theorem dX6_learn_8 : decode cX6_learn 8 = .ok (.aload_n 0, 1) := by decide +kernel
theorem dX6_learn_9 : decode cX6_learn 9 = .ok (.getfield 35, 3) := by decide +kernel
theorem dX6_learn_12 : decode cX6_learn 12 = .ok (.iconst 0, 1) := by decide +kernel
theorem dX6_learn_13 : decode cX6_learn 13 = .ok (.invokevirtual 141, 3) := by decide +kernel
theorem dX6_learn_16 : decode cX6_learn 16 = .ok (.iconst 0, 1) := by decide +kernel
theorem dX6_learn_17 : decode cX6_learn 17 = .ok (.istore_n 1, 1) := by decide +kernel
theorem dX6_learn_18 : decode cX6_learn 18 = .ok (.iload_n 1, 1) := by decide +kernel
theorem dX6_learn_19 : decode cX6_learn 19 = .ok (.bipush 6, 2) := by decide +kernel
theorem dX6_learn_21 : decode cX6_learn 21 = .ok (.if_icmp .ge 22, 3) := by decide +kernel
theorem dX6_learn_24 : decode cX6_learn 24 = .ok (.aload_n 0, 1) := by decide +kernel
theorem dX6_learn_25 : decode cX6_learn 25 = .ok (.getfield 32, 3) := by decide +kernel
theorem dX6_learn_28 : decode cX6_learn 28 = .ok (.iload_n 1, 1) := by decide +kernel
theorem dX6_learn_29 : decode cX6_learn 29 = .ok (.aload_n 0, 1) := by decide +kernel
theorem dX6_learn_30 : decode cX6_learn 30 = .ok (.iload_n 1, 1) := by decide +kernel
theorem dX6_learn_31 : decode cX6_learn 31 = .ok (.invokevirtual 145, 3) := by decide +kernel
theorem dX6_learn_34 : decode cX6_learn 34 = .ok (.invokevirtual 56, 3) := by decide +kernel
theorem dX6_learn_37 : decode cX6_learn 37 = .ok (.iinc 1 1, 3) := by decide +kernel
theorem dX6_learn_40 : decode cX6_learn 40 = .ok (.goto (-22), 3) := by decide +kernel
theorem dX6_learn_43 : decode cX6_learn 43 = .ok (.aload_n 0, 1) := by decide +kernel
theorem dX6_learn_44 : decode cX6_learn 44 = .ok (.aload_n 0, 1) := by decide +kernel
theorem dX6_learn_45 : decode cX6_learn 45 = .ok (.getfield 32, 3) := by decide +kernel
theorem dX6_learn_48 : decode cX6_learn 48 = .ok (.iconst 0, 1) := by decide +kernel
theorem dX6_learn_49 : decode cX6_learn 49 = .ok (.iconst 1, 1) := by decide +kernel
theorem dX6_learn_50 : decode cX6_learn 50 = .ok (.invokevirtual 148, 3) := by decide +kernel
theorem dX6_learn_53 : decode cX6_learn 53 = .ok (.iconst 1, 1) := by decide +kernel
theorem dX6_learn_54 : decode cX6_learn 54 = .ok (.ior, 1) := by decide +kernel
theorem dX6_learn_55 : decode cX6_learn 55 = .ok (.putfield 45, 3) := by decide +kernel
theorem dX6_learn_58 : decode cX6_learn 58 = .ok (.iconst 0, 1) := by decide +kernel
theorem dX6_learn_59 : decode cX6_learn 59 = .ok (.istore_n 1, 1) := by decide +kernel
theorem dX6_learn_60 : decode cX6_learn 60 = .ok (.iload_n 1, 1) := by decide +kernel
theorem dX6_learn_61 : decode cX6_learn 61 = .ok (.bipush 6, 2) := by decide +kernel
theorem dX6_learn_63 : decode cX6_learn 63 = .ok (.if_icmp .ge 91, 3) := by decide +kernel
theorem dX6_learn_66 : decode cX6_learn 66 = .ok (.aload_n 0, 1) := by decide +kernel
theorem dX6_learn_67 : decode cX6_learn 67 = .ok (.getfield 32, 3) := by decide +kernel
theorem dX6_learn_70 : decode cX6_learn 70 = .ok (.iload_n 1, 1) := by decide +kernel
theorem dX6_learn_71 : decode cX6_learn 71 = .ok (.invokevirtual 52, 3) := by decide +kernel
theorem dX6_learn_74 : decode cX6_learn 74 = .ok (.aload_n 0, 1) := by decide +kernel
theorem dX6_learn_75 : decode cX6_learn 75 = .ok (.getfield 45, 3) := by decide +kernel
theorem dX6_learn_78 : decode cX6_learn 78 = .ok (.iand, 1) := by decide +kernel
theorem dX6_learn_79 : decode cX6_learn 79 = .ok (.istore_n 2, 1) := by decide +kernel
theorem dX6_learn_80 : decode cX6_learn 80 = .ok (.aload_n 0, 1) := by decide +kernel
theorem dX6_learn_81 : decode cX6_learn 81 = .ok (.getfield 45, 3) := by decide +kernel
theorem dX6_learn_84 : decode cX6_learn 84 = .ok (.iload_n 1, 1) := by decide +kernel
theorem dX6_learn_85 : decode cX6_learn 85 = .ok (.ishr, 1) := by decide +kernel
theorem dX6_learn_86 : decode cX6_learn 86 = .ok (.iconst 1, 1) := by decide +kernel
theorem dX6_learn_87 : decode cX6_learn 87 = .ok (.iand, 1) := by decide +kernel
theorem dX6_learn_88 : decode cX6_learn 88 = .ok (.ifCond .eq 7, 3) := by decide +kernel
theorem dX6_learn_91 : decode cX6_learn 91 = .ok (.iconst 1, 1) := by decide +kernel
theorem dX6_learn_92 : decode cX6_learn 92 = .ok (.goto 4, 3) := by decide +kernel
theorem dX6_learn_95 : decode cX6_learn 95 = .ok (.iconst 0, 1) := by decide +kernel
theorem dX6_learn_96 : decode cX6_learn 96 = .ok (.istore_n 3, 1) := by decide +kernel
theorem dX6_learn_97 : decode cX6_learn 97 = .ok (.iconst 0, 1) := by decide +kernel
theorem dX6_learn_98 : decode cX6_learn 98 = .ok (.istore 4, 2) := by decide +kernel
theorem dX6_learn_100 : decode cX6_learn 100 = .ok (.iload 4, 2) := by decide +kernel
theorem dX6_learn_102 : decode cX6_learn 102 = .ok (.bipush 8, 2) := by decide +kernel
theorem dX6_learn_104 : decode cX6_learn 104 = .ok (.if_icmp .ge 44, 3) := by decide +kernel
theorem dX6_learn_107 : decode cX6_learn 107 = .ok (.iload_n 3, 1) := by decide +kernel
theorem dX6_learn_108 : decode cX6_learn 108 = .ok (.ifCond .eq 34, 3) := by decide +kernel
theorem dX6_learn_111 : decode cX6_learn 111 = .ok (.iload_n 2, 1) := by decide +kernel
theorem dX6_learn_112 : decode cX6_learn 112 = .ok (.iload 4, 2) := by decide +kernel
theorem dX6_learn_114 : decode cX6_learn 114 = .ok (.ishr, 1) := by decide +kernel
theorem dX6_learn_115 : decode cX6_learn 115 = .ok (.iconst 1, 1) := by decide +kernel
theorem dX6_learn_116 : decode cX6_learn 116 = .ok (.iand, 1) := by decide +kernel
theorem dX6_learn_117 : decode cX6_learn 117 = .ok (.ifCond .eq 25, 3) := by decide +kernel
theorem dX6_learn_120 : decode cX6_learn 120 = .ok (.aload_n 0, 1) := by decide +kernel
theorem dX6_learn_121 : decode cX6_learn 121 = .ok (.getfield 35, 3) := by decide +kernel
theorem dX6_learn_124 : decode cX6_learn 124 = .ok (.iload 4, 2) := by decide +kernel
theorem dX6_learn_126 : decode cX6_learn 126 = .ok (.aload_n 0, 1) := by decide +kernel
theorem dX6_learn_127 : decode cX6_learn 127 = .ok (.getfield 35, 3) := by decide +kernel
theorem dX6_learn_130 : decode cX6_learn 130 = .ok (.iload 4, 2) := by decide +kernel
theorem dX6_learn_132 : decode cX6_learn 132 = .ok (.invokevirtual 52, 3) := by decide +kernel
theorem dX6_learn_135 : decode cX6_learn 135 = .ok (.iconst 1, 1) := by decide +kernel
theorem dX6_learn_136 : decode cX6_learn 136 = .ok (.iload_n 1, 1) := by decide +kernel
theorem dX6_learn_137 : decode cX6_learn 137 = .ok (.ishl, 1) := by decide +kernel
theorem dX6_learn_138 : decode cX6_learn 138 = .ok (.ior, 1) := by decide +kernel
theorem dX6_learn_139 : decode cX6_learn 139 = .ok (.invokevirtual 56, 3) := by decide +kernel
theorem dX6_learn_142 : decode cX6_learn 142 = .ok (.iinc 4 1, 3) := by decide +kernel
theorem dX6_learn_145 : decode cX6_learn 145 = .ok (.goto (-45), 3) := by decide +kernel
theorem dX6_learn_148 : decode cX6_learn 148 = .ok (.iinc 1 1, 3) := by decide +kernel
theorem dX6_learn_151 : decode cX6_learn 151 = .ok (.goto (-91), 3) := by decide +kernel
theorem dX6_learn_154 : decode cX6_learn 154 = .ok (.return_, 1) := by decide +kernel
abbrev cX6_tellAxis : ByteArray := prog_8_method_19_code
def yX6_tellAxis : MethodName := ⟨RX6, "tellAxis", "(II)I"⟩
theorem dX6_tellAxis_0 : decode cX6_tellAxis 0 = .ok (.iload_n 1, 1) := by decide +kernel
theorem dX6_tellAxis_1 : decode cX6_tellAxis 1 = .ok (.tableswitch 171 0 10 #[59, 61, 74, 84, 97, 112, 122, 134, 134, 150, 150], 59) := by decide +kernel
theorem dX6_tellAxis_60 : decode cX6_tellAxis 60 = .ok (.iload_n 2, 1) := by decide +kernel
theorem dX6_tellAxis_61 : decode cX6_tellAxis 61 = .ok (.ireturn, 1) := by decide +kernel
theorem dX6_tellAxis_62 : decode cX6_tellAxis 62 = .ok (.aload_n 0, 1) := by decide +kernel
theorem dX6_tellAxis_63 : decode cX6_tellAxis 63 = .ok (.getfield 32, 3) := by decide +kernel
theorem dX6_tellAxis_66 : decode cX6_tellAxis 66 = .ok (.iconst 0, 1) := by decide +kernel
theorem dX6_tellAxis_67 : decode cX6_tellAxis 67 = .ok (.iload_n 2, 1) := by decide +kernel
theorem dX6_tellAxis_68 : decode cX6_tellAxis 68 = .ok (.invokevirtual 122, 3) := by decide +kernel
theorem dX6_tellAxis_71 : decode cX6_tellAxis 71 = .ok (.bipush 127, 2) := by decide +kernel
theorem dX6_tellAxis_73 : decode cX6_tellAxis 73 = .ok (.iand, 1) := by decide +kernel
theorem dX6_tellAxis_74 : decode cX6_tellAxis 74 = .ok (.ireturn, 1) := by decide +kernel
theorem dX6_tellAxis_75 : decode cX6_tellAxis 75 = .ok (.aload_n 0, 1) := by decide +kernel
theorem dX6_tellAxis_76 : decode cX6_tellAxis 76 = .ok (.getfield 35, 3) := by decide +kernel
theorem dX6_tellAxis_79 : decode cX6_tellAxis 79 = .ok (.iconst 0, 1) := by decide +kernel
theorem dX6_tellAxis_80 : decode cX6_tellAxis 80 = .ok (.iload_n 2, 1) := by decide +kernel
theorem dX6_tellAxis_81 : decode cX6_tellAxis 81 = .ok (.invokevirtual 122, 3) := by decide +kernel
theorem dX6_tellAxis_84 : decode cX6_tellAxis 84 = .ok (.ireturn, 1) := by decide +kernel
theorem dX6_tellAxis_85 : decode cX6_tellAxis 85 = .ok (.aload_n 0, 1) := by decide +kernel
theorem dX6_tellAxis_86 : decode cX6_tellAxis 86 = .ok (.getfield 32, 3) := by decide +kernel
theorem dX6_tellAxis_89 : decode cX6_tellAxis 89 = .ok (.iconst 0, 1) := by decide +kernel
theorem dX6_tellAxis_90 : decode cX6_tellAxis 90 = .ok (.iload_n 2, 1) := by decide +kernel
theorem dX6_tellAxis_91 : decode cX6_tellAxis 91 = .ok (.invokevirtual 148, 3) := by decide +kernel
theorem dX6_tellAxis_94 : decode cX6_tellAxis 94 = .ok (.bipush 127, 2) := by decide +kernel
theorem dX6_tellAxis_96 : decode cX6_tellAxis 96 = .ok (.iand, 1) := by decide +kernel
theorem dX6_tellAxis_97 : decode cX6_tellAxis 97 = .ok (.ireturn, 1) := by decide +kernel
theorem dX6_tellAxis_98 : decode cX6_tellAxis 98 = .ok (.aload_n 0, 1) := by decide +kernel
theorem dX6_tellAxis_99 : decode cX6_tellAxis 99 = .ok (.getfield 32, 3) := by decide +kernel
theorem dX6_tellAxis_102 : decode cX6_tellAxis 102 = .ok (.iconst 0, 1) := by decide +kernel
theorem dX6_tellAxis_103 : decode cX6_tellAxis 103 = .ok (.iload_n 2, 1) := by decide +kernel
theorem dX6_tellAxis_104 : decode cX6_tellAxis 104 = .ok (.invokevirtual 148, 3) := by decide +kernel
theorem dX6_tellAxis_107 : decode cX6_tellAxis 107 = .ok (.bipush 127, 2) := by decide +kernel
theorem dX6_tellAxis_109 : decode cX6_tellAxis 109 = .ok (.iand, 1) := by decide +kernel
theorem dX6_tellAxis_110 : decode cX6_tellAxis 110 = .ok (.iload_n 2, 1) := by decide +kernel
theorem dX6_tellAxis_111 : decode cX6_tellAxis 111 = .ok (.ior, 1) := by decide +kernel
theorem dX6_tellAxis_112 : decode cX6_tellAxis 112 = .ok (.ireturn, 1) := by decide +kernel
theorem dX6_tellAxis_113 : decode cX6_tellAxis 113 = .ok (.aload_n 0, 1) := by decide +kernel
theorem dX6_tellAxis_114 : decode cX6_tellAxis 114 = .ok (.getfield 35, 3) := by decide +kernel
theorem dX6_tellAxis_117 : decode cX6_tellAxis 117 = .ok (.iconst 0, 1) := by decide +kernel
theorem dX6_tellAxis_118 : decode cX6_tellAxis 118 = .ok (.iload_n 2, 1) := by decide +kernel
theorem dX6_tellAxis_119 : decode cX6_tellAxis 119 = .ok (.invokevirtual 148, 3) := by decide +kernel
theorem dX6_tellAxis_122 : decode cX6_tellAxis 122 = .ok (.ireturn, 1) := by decide +kernel
theorem dX6_tellAxis_123 : decode cX6_tellAxis 123 = .ok (.aload_n 0, 1) := by decide +kernel
theorem dX6_tellAxis_124 : decode cX6_tellAxis 124 = .ok (.getfield 35, 3) := by decide +kernel
theorem dX6_tellAxis_127 : decode cX6_tellAxis 127 = .ok (.iconst 0, 1) := by decide +kernel
theorem dX6_tellAxis_128 : decode cX6_tellAxis 128 = .ok (.iload_n 2, 1) := by decide +kernel
theorem dX6_tellAxis_129 : decode cX6_tellAxis 129 = .ok (.invokevirtual 148, 3) := by decide +kernel
theorem dX6_tellAxis_132 : decode cX6_tellAxis 132 = .ok (.iload_n 2, 1) := by decide +kernel
theorem dX6_tellAxis_133 : decode cX6_tellAxis 133 = .ok (.ior, 1) := by decide +kernel
theorem dX6_tellAxis_134 : decode cX6_tellAxis 134 = .ok (.ireturn, 1) := by decide +kernel
theorem dX6_tellAxis_135 : decode cX6_tellAxis 135 = .ok (.iload_n 2, 1) := by decide +kernel
theorem dX6_tellAxis_136 : decode cX6_tellAxis 136 = .ok (.ifCond .ne 7, 3) := by decide +kernel
theorem dX6_tellAxis_139 : decode cX6_tellAxis 139 = .ok (.iconst 0, 1) := by decide +kernel
theorem dX6_tellAxis_140 : decode cX6_tellAxis 140 = .ok (.goto 10, 3) := by decide +kernel
theorem dX6_tellAxis_143 : decode cX6_tellAxis 143 = .ok (.aload_n 0, 1) := by decide +kernel
theorem dX6_tellAxis_144 : decode cX6_tellAxis 144 = .ok (.getfield 45, 3) := by decide +kernel
theorem dX6_tellAxis_147 : decode cX6_tellAxis 147 = .ok (.bipush 127, 2) := by decide +kernel
theorem dX6_tellAxis_149 : decode cX6_tellAxis 149 = .ok (.iand, 1) := by decide +kernel
theorem dX6_tellAxis_150 : decode cX6_tellAxis 150 = .ok (.ireturn, 1) := by decide +kernel
theorem dX6_tellAxis_151 : decode cX6_tellAxis 151 = .ok (.aload_n 0, 1) := by decide +kernel
theorem dX6_tellAxis_152 : decode cX6_tellAxis 152 = .ok (.getfield 32, 3) := by decide +kernel
theorem dX6_tellAxis_155 : decode cX6_tellAxis 155 = .ok (.iconst 0, 1) := by decide +kernel
theorem dX6_tellAxis_156 : decode cX6_tellAxis 156 = .ok (.aload_n 0, 1) := by decide +kernel
theorem dX6_tellAxis_157 : decode cX6_tellAxis 157 = .ok (.getfield 35, 3) := by decide +kernel
theorem dX6_tellAxis_160 : decode cX6_tellAxis 160 = .ok (.iconst 0, 1) := by decide +kernel
theorem dX6_tellAxis_161 : decode cX6_tellAxis 161 = .ok (.iload_n 2, 1) := by decide +kernel
theorem dX6_tellAxis_162 : decode cX6_tellAxis 162 = .ok (.invokevirtual 122, 3) := by decide +kernel
theorem dX6_tellAxis_165 : decode cX6_tellAxis 165 = .ok (.invokevirtual 122, 3) := by decide +kernel
theorem dX6_tellAxis_168 : decode cX6_tellAxis 168 = .ok (.bipush 127, 2) := by decide +kernel
theorem dX6_tellAxis_170 : decode cX6_tellAxis 170 = .ok (.iand, 1) := by decide +kernel
theorem dX6_tellAxis_171 : decode cX6_tellAxis 171 = .ok (.ireturn, 1) := by decide +kernel
theorem dX6_tellAxis_172 : decode cX6_tellAxis 172 = .ok (.aload_n 0, 1) := by decide +kernel
theorem dX6_tellAxis_173 : decode cX6_tellAxis 173 = .ok (.getfield 32, 3) := by decide +kernel
theorem dX6_tellAxis_176 : decode cX6_tellAxis 176 = .ok (.iconst 0, 1) := by decide +kernel
theorem dX6_tellAxis_177 : decode cX6_tellAxis 177 = .ok (.iload_n 2, 1) := by decide +kernel
theorem dX6_tellAxis_178 : decode cX6_tellAxis 178 = .ok (.invokevirtual 122, 3) := by decide +kernel
theorem dX6_tellAxis_181 : decode cX6_tellAxis 181 = .ok (.sipush 128, 3) := by decide +kernel
theorem dX6_tellAxis_184 : decode cX6_tellAxis 184 = .ok (.iand, 1) := by decide +kernel
theorem dX6_tellAxis_185 : decode cX6_tellAxis 185 = .ok (.ireturn, 1) := by decide +kernel
abbrev cX6_tellTest : ByteArray := prog_8_method_20_code
def yX6_tellTest : MethodName := ⟨RX6, "tellTest", "(I)I"⟩
theorem dX6_tellTest_0 : decode cX6_tellTest 0 = .ok (.iload_n 1, 1) := by decide +kernel
theorem dX6_tellTest_1 : decode cX6_tellTest 1 = .ok (.bipush 8, 2) := by decide +kernel
theorem dX6_tellTest_3 : decode cX6_tellTest 3 = .ok (.if_icmp .ne 7, 3) := by decide +kernel
theorem dX6_tellTest_6 : decode cX6_tellTest 6 = .ok (.sipush 255, 3) := by decide +kernel
theorem dX6_tellTest_9 : decode cX6_tellTest 9 = .ok (.ireturn, 1) := by decide +kernel
theorem dX6_tellTest_10 : decode cX6_tellTest 10 = .ok (.iload_n 1, 1) := by decide +kernel
theorem dX6_tellTest_11 : decode cX6_tellTest 11 = .ok (.bipush 9, 2) := by decide +kernel
theorem dX6_tellTest_13 : decode cX6_tellTest 13 = .ok (.if_icmp .ne 6, 3) := by decide +kernel
theorem dX6_tellTest_16 : decode cX6_tellTest 16 = .ok (.bipush 64, 2) := by decide +kernel
theorem dX6_tellTest_18 : decode cX6_tellTest 18 = .ok (.ireturn, 1) := by decide +kernel
theorem dX6_tellTest_19 : decode cX6_tellTest 19 = .ok (.iload_n 1, 1) := by decide +kernel
theorem dX6_tellTest_20 : decode cX6_tellTest 20 = .ok (.bipush 10, 2) := by decide +kernel
theorem dX6_tellTest_22 : decode cX6_tellTest 22 = .ok (.if_icmp .lt 6, 3) := by decide +kernel
theorem dX6_tellTest_25 : decode cX6_tellTest 25 = .ok (.bipush 63, 2) := by decide +kernel
theorem dX6_tellTest_27 : decode cX6_tellTest 27 = .ok (.ireturn, 1) := by decide +kernel
theorem dX6_tellTest_28 : decode cX6_tellTest 28 = .ok (.sipush 128, 3) := by decide +kernel
theorem dX6_tellTest_31 : decode cX6_tellTest 31 = .ok (.istore_n 2, 1) := by decide +kernel
theorem dX6_tellTest_32 : decode cX6_tellTest 32 = .ok (.iconst 0, 1) := by decide +kernel
theorem dX6_tellTest_33 : decode cX6_tellTest 33 = .ok (.istore_n 3, 1) := by decide +kernel
theorem dX6_tellTest_34 : decode cX6_tellTest 34 = .ok (.iload_n 3, 1) := by decide +kernel
theorem dX6_tellTest_35 : decode cX6_tellTest 35 = .ok (.bipush 6, 2) := by decide +kernel
theorem dX6_tellTest_37 : decode cX6_tellTest 37 = .ok (.if_icmp .ge 31, 3) := by decide +kernel
theorem dX6_tellTest_40 : decode cX6_tellTest 40 = .ok (.iload_n 2, 1) := by decide +kernel
theorem dX6_tellTest_41 : decode cX6_tellTest 41 = .ok (.aload_n 0, 1) := by decide +kernel
theorem dX6_tellTest_42 : decode cX6_tellTest 42 = .ok (.getfield 14, 3) := by decide +kernel
theorem dX6_tellTest_45 : decode cX6_tellTest 45 = .ok (.iload_n 3, 1) := by decide +kernel
theorem dX6_tellTest_46 : decode cX6_tellTest 46 = .ok (.invokevirtual 52, 3) := by decide +kernel
theorem dX6_tellTest_49 : decode cX6_tellTest 49 = .ok (.iload_n 1, 1) := by decide +kernel
theorem dX6_tellTest_50 : decode cX6_tellTest 50 = .ok (.if_icmp .ne 9, 3) := by decide +kernel
theorem dX6_tellTest_53 : decode cX6_tellTest 53 = .ok (.iconst 1, 1) := by decide +kernel
theorem dX6_tellTest_54 : decode cX6_tellTest 54 = .ok (.iload_n 3, 1) := by decide +kernel
theorem dX6_tellTest_55 : decode cX6_tellTest 55 = .ok (.ishl, 1) := by decide +kernel
theorem dX6_tellTest_56 : decode cX6_tellTest 56 = .ok (.goto 4, 3) := by decide +kernel
theorem dX6_tellTest_59 : decode cX6_tellTest 59 = .ok (.iconst 0, 1) := by decide +kernel
theorem dX6_tellTest_60 : decode cX6_tellTest 60 = .ok (.ior, 1) := by decide +kernel
theorem dX6_tellTest_61 : decode cX6_tellTest 61 = .ok (.istore_n 2, 1) := by decide +kernel
theorem dX6_tellTest_62 : decode cX6_tellTest 62 = .ok (.iinc 3 1, 3) := by decide +kernel
theorem dX6_tellTest_65 : decode cX6_tellTest 65 = .ok (.goto (-31), 3) := by decide +kernel
theorem dX6_tellTest_68 : decode cX6_tellTest 68 = .ok (.iload_n 2, 1) := by decide +kernel
theorem dX6_tellTest_69 : decode cX6_tellTest 69 = .ok (.ireturn, 1) := by decide +kernel
abbrev cX6_tellStep : ByteArray := prog_8_method_18_code
def yX6_tellStep : MethodName := ⟨RX6, "tellStep", "(LTreequery$Paths;II)I"⟩
theorem dX6_tellStep_0 : decode cX6_tellStep 0 = .ok (.aload_n 1, 1) := by decide +kernel
theorem dX6_tellStep_1 : decode cX6_tellStep 1 = .ok (.iload_n 2, 1) := by decide +kernel
theorem dX6_tellStep_2 : decode cX6_tellStep 2 = .ok (.invokevirtual 151, 3) := by decide +kernel
theorem dX6_tellStep_5 : decode cX6_tellStep 5 = .ok (.istore 4, 2) := by decide +kernel
theorem dX6_tellStep_7 : decode cX6_tellStep 7 = .ok (.iload 4, 2) := by decide +kernel
theorem dX6_tellStep_9 : decode cX6_tellStep 9 = .ok (.bipush 12, 2) := by decide +kernel
theorem dX6_tellStep_11 : decode cX6_tellStep 11 = .ok (.if_icmp .ne 7, 3) := by decide +kernel
theorem dX6_tellStep_14 : decode cX6_tellStep 14 = .ok (.iconst 1, 1) := by decide +kernel
theorem dX6_tellStep_15 : decode cX6_tellStep 15 = .ok (.goto 4, 3) := by decide +kernel
theorem dX6_tellStep_18 : decode cX6_tellStep 18 = .ok (.iconst 0, 1) := by decide +kernel
theorem dX6_tellStep_19 : decode cX6_tellStep 19 = .ok (.istore 5, 2) := by decide +kernel
theorem dX6_tellStep_21 : decode cX6_tellStep 21 = .ok (.iload 5, 2) := by decide +kernel
theorem dX6_tellStep_23 : decode cX6_tellStep 23 = .ok (.ifCond .eq 22, 3) := by decide +kernel
theorem dX6_tellStep_26 : decode cX6_tellStep 26 = .ok (.aload_n 0, 1) := by decide +kernel
theorem dX6_tellStep_27 : decode cX6_tellStep 27 = .ok (.getfield 38, 3) := by decide +kernel
theorem dX6_tellStep_30 : decode cX6_tellStep 30 = .ok (.aload_n 1, 1) := by decide +kernel
theorem dX6_tellStep_31 : decode cX6_tellStep 31 = .ok (.iload_n 2, 1) := by decide +kernel
theorem dX6_tellStep_32 : decode cX6_tellStep 32 = .ok (.invokevirtual 154, 3) := by decide +kernel
theorem dX6_tellStep_35 : decode cX6_tellStep 35 = .ok (.bipush 8, 2) := by decide +kernel
theorem dX6_tellStep_37 : decode cX6_tellStep 37 = .ok (.imul, 1) := by decide +kernel
theorem dX6_tellStep_38 : decode cX6_tellStep 38 = .ok (.iload_n 3, 1) := by decide +kernel
theorem dX6_tellStep_39 : decode cX6_tellStep 39 = .ok (.invokevirtual 148, 3) := by decide +kernel
theorem dX6_tellStep_42 : decode cX6_tellStep 42 = .ok (.goto 10, 3) := by decide +kernel
theorem dX6_tellStep_45 : decode cX6_tellStep 45 = .ok (.aload_n 0, 1) := by decide +kernel
theorem dX6_tellStep_46 : decode cX6_tellStep 46 = .ok (.iload 4, 2) := by decide +kernel
theorem dX6_tellStep_48 : decode cX6_tellStep 48 = .ok (.iload_n 3, 1) := by decide +kernel
theorem dX6_tellStep_49 : decode cX6_tellStep 49 = .ok (.invokevirtual 157, 3) := by decide +kernel
theorem dX6_tellStep_52 : decode cX6_tellStep 52 = .ok (.istore 6, 2) := by decide +kernel
theorem dX6_tellStep_54 : decode cX6_tellStep 54 = .ok (.iload 6, 2) := by decide +kernel
theorem dX6_tellStep_56 : decode cX6_tellStep 56 = .ok (.aload_n 0, 1) := by decide +kernel
theorem dX6_tellStep_57 : decode cX6_tellStep 57 = .ok (.aload_n 1, 1) := by decide +kernel
theorem dX6_tellStep_58 : decode cX6_tellStep 58 = .ok (.iload_n 2, 1) := by decide +kernel
theorem dX6_tellStep_59 : decode cX6_tellStep 59 = .ok (.invokevirtual 160, 3) := by decide +kernel
theorem dX6_tellStep_62 : decode cX6_tellStep 62 = .ok (.invokevirtual 163, 3) := by decide +kernel
theorem dX6_tellStep_65 : decode cX6_tellStep 65 = .ok (.iand, 1) := by decide +kernel
theorem dX6_tellStep_66 : decode cX6_tellStep 66 = .ok (.ireturn, 1) := by decide +kernel
abbrev cX6_tell : ByteArray := prog_8_method_15_code
def yX6_tell : MethodName := ⟨RX6, "tell", "(LTreequery$Paths;I)I"⟩
theorem dX6_tell_0 : decode cX6_tell 0 = .ok (.aload_n 0, 1) := by decide +kernel
theorem dX6_tell_1 : decode cX6_tell 1 = .ok (.invokevirtual 126, 3) := by decide +kernel
theorem dX6_tell_4 : decode cX6_tell 4 = .ok (.iconst 0, 1) := by decide +kernel
theorem dX6_tell_5 : decode cX6_tell 5 = .ok (.istore_n 3, 1) := by decide +kernel
theorem dX6_tell_6 : decode cX6_tell 6 = .ok (.iload_n 3, 1) := by decide +kernel
theorem dX6_tell_7 : decode cX6_tell 7 = .ok (.iload_n 2, 1) := by decide +kernel
theorem dX6_tell_8 : decode cX6_tell 8 = .ok (.if_icmp .gt 87, 3) := by decide +kernel
theorem dX6_tell_11 : decode cX6_tell 11 = .ok (.iconst 0, 1) := by decide +kernel
theorem dX6_tell_12 : decode cX6_tell 12 = .ok (.istore 4, 2) := by decide +kernel
theorem dX6_tell_14 : decode cX6_tell 14 = .ok (.iload 4, 2) := by decide +kernel
theorem dX6_tell_16 : decode cX6_tell 16 = .ok (.bipush 8, 2) := by decide +kernel
theorem dX6_tell_18 : decode cX6_tell 18 = .ok (.if_icmp .ge 71, 3) := by decide +kernel
theorem dX6_tell_21 : decode cX6_tell 21 = .ok (.aload_n 0, 1) := by decide +kernel
theorem dX6_tell_22 : decode cX6_tell 22 = .ok (.getfield 45, 3) := by decide +kernel
theorem dX6_tell_25 : decode cX6_tell 25 = .ok (.iconst 1, 1) := by decide +kernel
theorem dX6_tell_26 : decode cX6_tell 26 = .ok (.iload 4, 2) := by decide +kernel
theorem dX6_tell_28 : decode cX6_tell 28 = .ok (.ishl, 1) := by decide +kernel
theorem dX6_tell_29 : decode cX6_tell 29 = .ok (.iand, 1) := by decide +kernel
theorem dX6_tell_30 : decode cX6_tell 30 = .ok (.istore 5, 2) := by decide +kernel
theorem dX6_tell_32 : decode cX6_tell 32 = .ok (.iconst 0, 1) := by decide +kernel
theorem dX6_tell_33 : decode cX6_tell 33 = .ok (.istore 6, 2) := by decide +kernel
theorem dX6_tell_35 : decode cX6_tell 35 = .ok (.iload 6, 2) := by decide +kernel
theorem dX6_tell_37 : decode cX6_tell 37 = .ok (.aload_n 1, 1) := by decide +kernel
theorem dX6_tell_38 : decode cX6_tell 38 = .ok (.iload_n 3, 1) := by decide +kernel
theorem dX6_tell_39 : decode cX6_tell 39 = .ok (.invokevirtual 129, 3) := by decide +kernel
theorem dX6_tell_42 : decode cX6_tell 42 = .ok (.if_icmp .ge 25, 3) := by decide +kernel
theorem dX6_tell_45 : decode cX6_tell 45 = .ok (.aload_n 0, 1) := by decide +kernel
theorem dX6_tell_46 : decode cX6_tell 46 = .ok (.aload_n 1, 1) := by decide +kernel
theorem dX6_tell_47 : decode cX6_tell 47 = .ok (.aload_n 1, 1) := by decide +kernel
theorem dX6_tell_48 : decode cX6_tell 48 = .ok (.iload_n 3, 1) := by decide +kernel
theorem dX6_tell_49 : decode cX6_tell 49 = .ok (.iload 6, 2) := by decide +kernel
theorem dX6_tell_51 : decode cX6_tell 51 = .ok (.invokevirtual 134, 3) := by decide +kernel
theorem dX6_tell_54 : decode cX6_tell 54 = .ok (.iload 5, 2) := by decide +kernel
theorem dX6_tell_56 : decode cX6_tell 56 = .ok (.invokevirtual 137, 3) := by decide +kernel
theorem dX6_tell_59 : decode cX6_tell 59 = .ok (.istore 5, 2) := by decide +kernel
theorem dX6_tell_61 : decode cX6_tell 61 = .ok (.iinc 6 1, 3) := by decide +kernel
theorem dX6_tell_64 : decode cX6_tell 64 = .ok (.goto (-29), 3) := by decide +kernel
theorem dX6_tell_67 : decode cX6_tell 67 = .ok (.aload_n 0, 1) := by decide +kernel
theorem dX6_tell_68 : decode cX6_tell 68 = .ok (.getfield 38, 3) := by decide +kernel
theorem dX6_tell_71 : decode cX6_tell 71 = .ok (.iload_n 3, 1) := by decide +kernel
theorem dX6_tell_72 : decode cX6_tell 72 = .ok (.bipush 8, 2) := by decide +kernel
theorem dX6_tell_74 : decode cX6_tell 74 = .ok (.imul, 1) := by decide +kernel
theorem dX6_tell_75 : decode cX6_tell 75 = .ok (.iload 4, 2) := by decide +kernel
theorem dX6_tell_77 : decode cX6_tell 77 = .ok (.iadd, 1) := by decide +kernel
theorem dX6_tell_78 : decode cX6_tell 78 = .ok (.iload 5, 2) := by decide +kernel
theorem dX6_tell_80 : decode cX6_tell 80 = .ok (.invokevirtual 56, 3) := by decide +kernel
theorem dX6_tell_83 : decode cX6_tell 83 = .ok (.iinc 4 1, 3) := by decide +kernel
theorem dX6_tell_86 : decode cX6_tell 86 = .ok (.goto (-72), 3) := by decide +kernel
theorem dX6_tell_89 : decode cX6_tell 89 = .ok (.iinc 3 1, 3) := by decide +kernel
theorem dX6_tell_92 : decode cX6_tell 92 = .ok (.goto (-86), 3) := by decide +kernel
theorem dX6_tell_95 : decode cX6_tell 95 = .ok (.aload_n 0, 1) := by decide +kernel
theorem dX6_tell_96 : decode cX6_tell 96 = .ok (.getfield 38, 3) := by decide +kernel
theorem dX6_tell_99 : decode cX6_tell 99 = .ok (.iload_n 2, 1) := by decide +kernel
theorem dX6_tell_100 : decode cX6_tell 100 = .ok (.bipush 8, 2) := by decide +kernel
theorem dX6_tell_102 : decode cX6_tell 102 = .ok (.imul, 1) := by decide +kernel
theorem dX6_tell_103 : decode cX6_tell 103 = .ok (.invokevirtual 52, 3) := by decide +kernel
theorem dX6_tell_106 : decode cX6_tell 106 = .ok (.ireturn, 1) := by decide +kernel
theorem tk_RX1_3 : Cond.methodLink RX1 3 Lib.objectInit ∈ tq_G := tq_g (i := 969) (by decide +kernel) rfl
theorem tk_RX1_9 : Cond.classLink RX1 9 RX5 ∈ tq_G := tq_g (i := 970) (by decide +kernel) rfl
theorem tk_RX1_11 : Cond.methodLink RX1 11 yX5_init ∈ tq_G := tq_g (i := 971) (by decide +kernel) rfl
theorem tk_RX1_14 : Cond.fieldLink RX1 14 RX1 (TX1 0).2.1 (TX1 0).2.2.1 ∈ tq_G := tq_g (i := 972) (by decide +kernel) rfl
theorem tk_RX1_20 : Cond.fieldLink RX1 20 RX1 (TX1 1).2.1 (TX1 1).2.2.1 ∈ tq_G := tq_g (i := 973) (by decide +kernel) rfl
theorem tk_RX1_23 : Cond.fieldLink RX1 23 RX1 (TX1 2).2.1 (TX1 2).2.2.1 ∈ tq_G := tq_g (i := 974) (by decide +kernel) rfl
theorem tk_RX1_26 : Cond.fieldLink RX1 26 RX1 (TX1 3).2.1 (TX1 3).2.2.1 ∈ tq_G := tq_g (i := 975) (by decide +kernel) rfl
theorem tk_ks_3721 : (Int16.ofInt (3721)).toInt32 = (3721 : Int32) := by decide +kernel
theorem tk_RX1_29 : Cond.fieldLink RX1 29 RX1 (TX1 4).2.1 (TX1 4).2.2.1 ∈ tq_G := tq_g (i := 976) (by decide +kernel) rfl
theorem tk_RX1_32 : Cond.fieldLink RX1 32 RX1 (TX1 5).2.1 (TX1 5).2.2.1 ∈ tq_G := tq_g (i := 977) (by decide +kernel) rfl
theorem tk_kb_36 : (Int8.ofInt (36)).toInt32 = (36 : Int32) := by decide +kernel
theorem tk_RX1_35 : Cond.fieldLink RX1 35 RX1 (TX1 6).2.1 (TX1 6).2.2.1 ∈ tq_G := tq_g (i := 978) (by decide +kernel) rfl
theorem tk_kb_6 : (Int8.ofInt (6)).toInt32 = (6 : Int32) := by decide +kernel
theorem tk_RX1_38 : Cond.methodLink RX1 38 yX5_get ∈ tq_G := tq_g (i := 998) (by decide +kernel) rfl
theorem tk_RX1_42 : Cond.methodLink RX1 42 yX5_set ∈ tq_G := tq_g (i := 1016) (by decide +kernel) rfl
theorem tk_RX1_55 : Cond.methodLink RX1 55 yX3_count ∈ tq_G := tq_g (i := 1006) (by decide +kernel) rfl
theorem tk_RX1_75 : Cond.methodLink RX1 75 yX3_depthAt ∈ tq_G := tq_g (i := 1007) (by decide +kernel) rfl
theorem tk_RX1_78 : Cond.methodLink RX1 78 yX3_sizeAt ∈ tq_G := tq_g (i := 1011) (by decide +kernel) rfl
theorem tk_RX1_81 : Cond.methodLink RX1 81 yX3_nodeAt ∈ tq_G := tq_g (i := 1015) (by decide +kernel) rfl
theorem tk_y_X3_sizeAt : tq_yok yX3_sizeAt cX3_sizeAt 2 (some .int) 1 := ⟨tq_g (i := 1014) (by decide +kernel) rfl, tq_g (i := 55) (by decide +kernel) rfl, ⟨by decide +kernel, by decide +kernel⟩, by decide +kernel, by decide⟩
theorem tk_v_X3_sizeAt : tq_vok yX3_sizeAt := ⟨tq_g (i := 1012) (by decide +kernel) rfl, tq_g (i := 1013) (by decide +kernel) rfl⟩
theorem tk_y_X3_depthAt : tq_yok yX3_depthAt cX3_depthAt 2 (some .int) 1 := ⟨tq_g (i := 1010) (by decide +kernel) rfl, tq_g (i := 55) (by decide +kernel) rfl, ⟨by decide +kernel, by decide +kernel⟩, by decide +kernel, by decide⟩
theorem tk_v_X3_depthAt : tq_vok yX3_depthAt := ⟨tq_g (i := 1008) (by decide +kernel) rfl, tq_g (i := 1009) (by decide +kernel) rfl⟩
theorem tk_RX1_65 : Cond.methodLink RX1 65 yX0_holds ∈ tq_G := tq_g (i := 1020) (by decide +kernel) rfl
theorem tk_RX1_84 : Cond.methodLink RX1 84 yX0_one ∈ tq_G := tq_g (i := 1021) (by decide +kernel) rfl
theorem tk_kb_61 : (Int8.ofInt (61)).toInt32 = (61 : Int32) := by decide +kernel
theorem tk_RX1_96 : Cond.methodLink RX1 96 Lib.Math.min.name ∈ tq_G := tq_g (i := 1034) (by decide +kernel) rfl
theorem tk_RX1_88 : Cond.methodLink RX1 88 yX8_looksLike ∈ tq_G := tq_g (i := 1026) (by decide +kernel) rfl
theorem tk_RX1_92 : Cond.methodLink RX1 92 yX1_compareForests ∈ tq_G := tq_g (i := 1030) (by decide +kernel) rfl
theorem tk_y_X1_compareForests : tq_yok yX1_compareForests cX1_compareForests 10 none 5 := ⟨tq_g (i := 1033) (by decide +kernel) rfl, tq_g (i := 73) (by decide +kernel) rfl, ⟨by decide +kernel, by decide +kernel⟩, by decide +kernel, by decide⟩
theorem tk_v_X1_compareForests : tq_vok yX1_compareForests := ⟨tq_g (i := 1032) (by decide +kernel) rfl, tq_g (i := 21) (by decide +kernel) rfl⟩
theorem tk_y_X8_looksLike : tq_yok yX8_looksLike cX8_looksLike 4 (some .boolean) 3 := ⟨tq_g (i := 1029) (by decide +kernel) rfl, tq_g (i := 54) (by decide +kernel) rfl, ⟨by decide +kernel, by decide +kernel⟩, by decide +kernel, by decide⟩
theorem tk_v_X8_looksLike : tq_vok yX8_looksLike := ⟨tq_g (i := 1027) (by decide +kernel) rfl, tq_g (i := 1028) (by decide +kernel) rfl⟩
theorem tk_RX1_45 : Cond.fieldLink RX1 45 RX8 (TX8 0).2.1 (TX8 0).2.2.1 ∈ tq_G := tq_g (i := 164) (by decide +kernel) rfl
theorem tk_RX1_51 : Cond.methodLink RX1 51 yX1_line ∈ tq_G := tq_g (i := 1003) (by decide +kernel) rfl
theorem tk_RX1_61 : Cond.methodLink RX1 61 yX1_outermost ∈ tq_G := tq_g (i := 1017) (by decide +kernel) rfl
theorem tk_RX1_71 : Cond.methodLink RX1 71 yX1_compare ∈ tq_G := tq_g (i := 1022) (by decide +kernel) rfl
theorem tk_y_X1_compare : tq_yok yX1_compare cX1_compare 10 none 4 := ⟨tq_g (i := 1025) (by decide +kernel) rfl, tq_g (i := 73) (by decide +kernel) rfl, ⟨by decide +kernel, by decide +kernel⟩, by decide +kernel, by decide⟩
theorem tk_v_X1_compare : tq_vok yX1_compare := ⟨tq_g (i := 1024) (by decide +kernel) rfl, tq_g (i := 20) (by decide +kernel) rfl⟩
theorem tk_y_X1_outermost : tq_yok yX1_outermost cX1_outermost 7 (some .long) 2 := ⟨tq_g (i := 1019) (by decide +kernel) rfl, tq_g (i := 73) (by decide +kernel) rfl, ⟨by decide +kernel, by decide +kernel⟩, by decide +kernel, by decide⟩
theorem tk_s_X1_outermost : Cond.static yX1_outermost ∈ tq_G := tq_g (i := 1018) (by decide +kernel) rfl
theorem tk_y_X1_line : tq_yok yX1_line cX1_line 6 none 3 := ⟨tq_g (i := 1005) (by decide +kernel) rfl, tq_g (i := 73) (by decide +kernel) rfl, ⟨by decide +kernel, by decide +kernel⟩, by decide +kernel, by decide⟩
theorem tk_s_X1_line : Cond.static yX1_line ∈ tq_G := tq_g (i := 1004) (by decide +kernel) rfl
theorem tk_RX2_3 : Cond.methodLink RX2 3 Lib.objectInit ∈ tq_G := tq_g (i := 297) (by decide +kernel) rfl
theorem tk_RX2_9 : Cond.classLink RX2 9 RX7 ∈ tq_G := tq_g (i := 298) (by decide +kernel) rfl
theorem tk_ks_1200 : (Int16.ofInt (1200)).toInt32 = (1200 : Int32) := by decide +kernel
theorem tk_RX2_11 : Cond.methodLink RX2 11 yX7_init ∈ tq_G := tq_g (i := 299) (by decide +kernel) rfl
theorem tk_RX2_14 : Cond.fieldLink RX2 14 RX2 (TX2 3).2.1 (TX2 3).2.2.1 ∈ tq_G := tq_g (i := 305) (by decide +kernel) rfl
theorem tk_RX2_20 : Cond.fieldLink RX2 20 RX2 (TX2 4).2.1 (TX2 4).2.2.1 ∈ tq_G := tq_g (i := 306) (by decide +kernel) rfl
theorem tk_RX2_23 : Cond.classLink RX2 23 RX5 ∈ tq_G := tq_g (i := 300) (by decide +kernel) rfl
theorem tk_RX2_25 : Cond.methodLink RX2 25 yX5_init ∈ tq_G := tq_g (i := 301) (by decide +kernel) rfl
theorem tk_RX2_28 : Cond.fieldLink RX2 28 RX2 (TX2 5).2.1 (TX2 5).2.2.1 ∈ tq_G := tq_g (i := 307) (by decide +kernel) rfl
theorem tk_RX2_32 : Cond.fieldLink RX2 32 RX2 (TX2 6).2.1 (TX2 6).2.2.1 ∈ tq_G := tq_g (i := 308) (by decide +kernel) rfl
theorem tk_RX2_36 : Cond.fieldLink RX2 36 RX2 (TX2 7).2.1 (TX2 7).2.2.1 ∈ tq_G := tq_g (i := 309) (by decide +kernel) rfl
theorem tk_RX2_40 : Cond.fieldLink RX2 40 RX2 (TX2 0).2.1 (TX2 0).2.2.1 ∈ tq_G := tq_g (i := 302) (by decide +kernel) rfl
theorem tk_RX2_44 : Cond.fieldLink RX2 44 RX8 (TX8 0).2.1 (TX8 0).2.2.1 ∈ tq_G := tq_g (i := 162) (by decide +kernel) rfl
theorem tk_RX2_50 : Cond.fieldLink RX2 50 RX2 (TX2 1).2.1 (TX2 1).2.2.1 ∈ tq_G := tq_g (i := 303) (by decide +kernel) rfl
theorem tk_RX2_51 : Cond.fieldLink RX2 51 RX2 (TX2 2).2.1 (TX2 2).2.2.1 ∈ tq_G := tq_g (i := 304) (by decide +kernel) rfl
theorem tk_RX2_55 : Cond.methodLink RX2 55 yX3_count ∈ tq_G := tq_g (i := 479) (by decide +kernel) rfl
theorem tk_RX2_61 : Cond.methodLink RX2 61 yX8_valueAt ∈ tq_G := tq_g (i := 480) (by decide +kernel) rfl
theorem tk_RX2_65 : Cond.methodLink RX2 65 yX5_set ∈ tq_G := tq_g (i := 512) (by decide +kernel) rfl
theorem tk_y_X8_valueAt : tq_yok yX8_valueAt cX8_valueAt 6 (some .int) 2 := ⟨tq_g (i := 483) (by decide +kernel) rfl, tq_g (i := 54) (by decide +kernel) rfl, ⟨by decide +kernel, by decide +kernel⟩, by decide +kernel, by decide⟩
theorem tk_v_X8_valueAt : tq_vok yX8_valueAt := ⟨tq_g (i := 481) (by decide +kernel) rfl, tq_g (i := 482) (by decide +kernel) rfl⟩
theorem tk_RX2_68 : Cond.methodLink RX2 68 Lib.Math.min.name ∈ tq_G := tq_g (i := 1259) (by decide +kernel) rfl
theorem tk_RX2_74 : Cond.methodLink RX2 74 yX0_holds ∈ tq_G := tq_g (i := 1216) (by decide +kernel) rfl
theorem tk_RX2_80 : Cond.methodLink RX2 80 yX7_get ∈ tq_G := tq_g (i := 877) (by decide +kernel) rfl
theorem tk_RX2_148 : Cond.methodLink RX2 148 yX7_union ∈ tq_G := tq_g (i := 878) (by decide +kernel) rfl
theorem tk_RX2_143 : Cond.constantLong RX2 143 (-1) ∈ tq_G := tq_g (i := 884) (by decide +kernel) rfl
theorem tk_y_X7_union : tq_yok yX7_union cX7_union 10 (some .long) 2 := ⟨tq_g (i := 881) (by decide +kernel) rfl, tq_g (i := 58) (by decide +kernel) rfl, ⟨by decide +kernel, by decide +kernel⟩, by decide +kernel, by decide⟩
theorem tk_v_X7_union : tq_vok yX7_union := ⟨tq_g (i := 879) (by decide +kernel) rfl, tq_g (i := 880) (by decide +kernel) rfl⟩
theorem tk_RX2_87 : Cond.methodLink RX2 87 yX7_set ∈ tq_G := tq_g (i := 846) (by decide +kernel) rfl
theorem tk_RX2_152 : Cond.methodLink RX2 152 yX3_reached ∈ tq_G := tq_g (i := 889) (by decide +kernel) rfl
theorem tk_y_X3_reached : tq_yok yX3_reached cX3_reached 3 (some .long) 2 := ⟨tq_g (i := 892) (by decide +kernel) rfl, tq_g (i := 55) (by decide +kernel) rfl, ⟨by decide +kernel, by decide +kernel⟩, by decide +kernel, by decide⟩
theorem tk_v_X3_reached : tq_vok yX3_reached := ⟨tq_g (i := 890) (by decide +kernel) rfl, tq_g (i := 891) (by decide +kernel) rfl⟩
theorem tk_RX2_159 : Cond.methodLink RX2 159 yJ13_bitCount_95d88 ∈ tq_G := tq_g (i := 916) (by decide +kernel) rfl
theorem tk_RX2_177 : Cond.methodLink RX2 177 yX0_agrees ∈ tq_G := tq_g (i := 924) (by decide +kernel) rfl
theorem tk_y_X0_agrees : tq_yok yX0_agrees cX0_agrees 3 (some .boolean) 3 := ⟨tq_g (i := 926) (by decide +kernel) rfl, tq_g (i := 63) (by decide +kernel) rfl, ⟨by decide +kernel, by decide +kernel⟩, by decide +kernel, by decide⟩
theorem tk_s_X0_agrees : Cond.static yX0_agrees ∈ tq_G := tq_g (i := 925) (by decide +kernel) rfl
theorem tk_RX2_129 : Cond.methodLink RX2 129 yX4_whatOf ∈ tq_G := tq_g (i := 901) (by decide +kernel) rfl
theorem tk_RX2_156 : Cond.methodLink RX2 156 yX4_comparisonOf ∈ tq_G := tq_g (i := 912) (by decide +kernel) rfl
theorem tk_y_X4_comparisonOf : tq_yok yX4_comparisonOf cX4_comparisonOf 2 (some .int) 1 := ⟨tq_g (i := 915) (by decide +kernel) rfl, tq_g (i := 60) (by decide +kernel) rfl, ⟨by decide +kernel, by decide +kernel⟩, by decide +kernel, by decide⟩
theorem tk_v_X4_comparisonOf : tq_vok yX4_comparisonOf := ⟨tq_g (i := 913) (by decide +kernel) rfl, tq_g (i := 914) (by decide +kernel) rfl⟩
theorem tk_RX2_165 : Cond.methodLink RX2 165 yX4_numberOf ∈ tq_G := tq_g (i := 917) (by decide +kernel) rfl
theorem tk_y_X4_numberOf : tq_yok yX4_numberOf cX4_numberOf 2 (some .int) 1 := ⟨tq_g (i := 920) (by decide +kernel) rfl, tq_g (i := 60) (by decide +kernel) rfl, ⟨by decide +kernel, by decide +kernel⟩, by decide +kernel, by decide⟩
theorem tk_v_X4_numberOf : tq_vok yX4_numberOf := ⟨tq_g (i := 918) (by decide +kernel) rfl, tq_g (i := 919) (by decide +kernel) rfl⟩
theorem tk_RX2_168 : Cond.methodLink RX2 168 yX2_keepPlaced ∈ tq_G := tq_g (i := 921) (by decide +kernel) rfl
theorem tk_y_X2_keepPlaced : tq_yok yX2_keepPlaced cX2_keepPlaced 11 (some .long) 4 := ⟨tq_g (i := 923) (by decide +kernel) rfl, tq_g (i := 61) (by decide +kernel) rfl, ⟨by decide +kernel, by decide +kernel⟩, by decide +kernel, by decide⟩
theorem tk_s_X2_keepPlaced : Cond.static yX2_keepPlaced ∈ tq_G := tq_g (i := 922) (by decide +kernel) rfl
theorem tk_y_X4_whatOf : tq_yok yX4_whatOf cX4_whatOf 2 (some .int) 1 := ⟨tq_g (i := 904) (by decide +kernel) rfl, tq_g (i := 60) (by decide +kernel) rfl, ⟨by decide +kernel, by decide +kernel⟩, by decide +kernel, by decide⟩
theorem tk_v_X4_whatOf : tq_vok yX4_whatOf := ⟨tq_g (i := 902) (by decide +kernel) rfl, tq_g (i := 903) (by decide +kernel) rfl⟩
theorem tk_RX2_175 : Cond.methodLink RX2 175 yX5_get ∈ tq_G := tq_g (i := 931) (by decide +kernel) rfl
theorem tk_RX2_84 : Cond.methodLink RX2 84 yX0_one ∈ tq_G := tq_g (i := 845) (by decide +kernel) rfl
theorem tk_RX2_172 : Cond.methodLink RX2 172 yX4_otherOf ∈ tq_G := tq_g (i := 936) (by decide +kernel) rfl
theorem tk_y_X4_otherOf : tq_yok yX4_otherOf cX4_otherOf 2 (some .int) 1 := ⟨tq_g (i := 939) (by decide +kernel) rfl, tq_g (i := 60) (by decide +kernel) rfl, ⟨by decide +kernel, by decide +kernel⟩, by decide +kernel, by decide⟩
theorem tk_v_X4_otherOf : tq_vok yX4_otherOf := ⟨tq_g (i := 937) (by decide +kernel) rfl, tq_g (i := 938) (by decide +kernel) rfl⟩
theorem tk_RX2_105 : Cond.methodLink RX2 105 yX4_axisOf ∈ tq_G := tq_g (i := 860) (by decide +kernel) rfl
theorem tk_kb_12 : (Int8.ofInt (12)).toInt32 = (12 : Int32) := by decide +kernel
theorem tk_RX2_111 : Cond.methodLink RX2 111 yX4_testOf ∈ tq_G := tq_g (i := 868) (by decide +kernel) rfl
theorem tk_RX2_114 : Cond.methodLink RX2 114 yX3_passing ∈ tq_G := tq_g (i := 872) (by decide +kernel) rfl
theorem tk_RX2_120 : Cond.methodLink RX2 120 yX2_reachByAxis ∈ tq_G := tq_g (i := 885) (by decide +kernel) rfl
theorem tk_y_X2_reachByAxis : tq_yok yX2_reachByAxis cX2_reachByAxis 5 none 2 := ⟨tq_g (i := 888) (by decide +kernel) rfl, tq_g (i := 61) (by decide +kernel) rfl, ⟨by decide +kernel, by decide +kernel⟩, by decide +kernel, by decide⟩
theorem tk_v_X2_reachByAxis : tq_vok yX2_reachByAxis := ⟨tq_g (i := 887) (by decide +kernel) rfl, tq_g (i := 15) (by decide +kernel) rfl⟩
theorem tk_y_X4_testOf : tq_yok yX4_testOf cX4_testOf 2 (some .int) 1 := ⟨tq_g (i := 871) (by decide +kernel) rfl, tq_g (i := 60) (by decide +kernel) rfl, ⟨by decide +kernel, by decide +kernel⟩, by decide +kernel, by decide⟩
theorem tk_v_X4_testOf : tq_vok yX4_testOf := ⟨tq_g (i := 869) (by decide +kernel) rfl, tq_g (i := 870) (by decide +kernel) rfl⟩
theorem tk_RX2_108 : Cond.methodLink RX2 108 yX4_repeatOf ∈ tq_G := tq_g (i := 864) (by decide +kernel) rfl
theorem tk_RX2_117 : Cond.methodLink RX2 117 yX2_reachByPath ∈ tq_G := tq_g (i := 873) (by decide +kernel) rfl
theorem tk_y_X2_reachByPath : tq_yok yX2_reachByPath cX2_reachByPath 11 none 2 := ⟨tq_g (i := 876) (by decide +kernel) rfl, tq_g (i := 61) (by decide +kernel) rfl, ⟨by decide +kernel, by decide +kernel⟩, by decide +kernel, by decide⟩
theorem tk_v_X2_reachByPath : tq_vok yX2_reachByPath := ⟨tq_g (i := 875) (by decide +kernel) rfl, tq_g (i := 14) (by decide +kernel) rfl⟩
theorem tk_y_X4_repeatOf : tq_yok yX4_repeatOf cX4_repeatOf 2 (some .int) 1 := ⟨tq_g (i := 867) (by decide +kernel) rfl, tq_g (i := 60) (by decide +kernel) rfl, ⟨by decide +kernel, by decide +kernel⟩, by decide +kernel, by decide⟩
theorem tk_v_X4_repeatOf : tq_vok yX4_repeatOf := ⟨tq_g (i := 865) (by decide +kernel) rfl, tq_g (i := 866) (by decide +kernel) rfl⟩
theorem tk_RX2_123 : Cond.methodLink RX2 123 yX4_conditionsOf ∈ tq_G := tq_g (i := 893) (by decide +kernel) rfl
theorem tk_RX2_126 : Cond.methodLink RX2 126 yX4_conditionAt ∈ tq_G := tq_g (i := 897) (by decide +kernel) rfl
theorem tk_RX2_132 : Cond.methodLink RX2 132 yX2_goesBack ∈ tq_G := tq_g (i := 905) (by decide +kernel) rfl
theorem tk_RX2_136 : Cond.methodLink RX2 136 yX2_siftByPlace ∈ tq_G := tq_g (i := 908) (by decide +kernel) rfl
theorem tk_y_X2_siftByPlace : tq_yok yX2_siftByPlace cX2_siftByPlace 9 none 2 := ⟨tq_g (i := 911) (by decide +kernel) rfl, tq_g (i := 61) (by decide +kernel) rfl, ⟨by decide +kernel, by decide +kernel⟩, by decide +kernel, by decide⟩
theorem tk_v_X2_siftByPlace : tq_vok yX2_siftByPlace := ⟨tq_g (i := 910) (by decide +kernel) rfl, tq_g (i := 16) (by decide +kernel) rfl⟩
theorem tk_y_X2_goesBack : tq_yok yX2_goesBack cX2_goesBack 1 (some .boolean) 1 := ⟨tq_g (i := 907) (by decide +kernel) rfl, tq_g (i := 61) (by decide +kernel) rfl, ⟨by decide +kernel, by decide +kernel⟩, by decide +kernel, by decide⟩
theorem tk_s_X2_goesBack : Cond.static yX2_goesBack ∈ tq_G := tq_g (i := 906) (by decide +kernel) rfl
theorem tk_RX2_140 : Cond.methodLink RX2 140 yX2_worthy ∈ tq_G := tq_g (i := 927) (by decide +kernel) rfl
theorem tk_y_X2_worthy : tq_yok yX2_worthy cX2_worthy 6 (some .long) 1 := ⟨tq_g (i := 930) (by decide +kernel) rfl, tq_g (i := 61) (by decide +kernel) rfl, ⟨by decide +kernel, by decide +kernel⟩, by decide +kernel, by decide⟩
theorem tk_v_X2_worthy : tq_vok yX2_worthy := ⟨tq_g (i := 929) (by decide +kernel) rfl, tq_g (i := 17) (by decide +kernel) rfl⟩
theorem tk_RX2_145 : Cond.methodLink RX2 145 yX2_siftByTruth ∈ tq_G := tq_g (i := 932) (by decide +kernel) rfl
theorem tk_y_X2_siftByTruth : tq_yok yX2_siftByTruth cX2_siftByTruth 9 none 2 := ⟨tq_g (i := 935) (by decide +kernel) rfl, tq_g (i := 61) (by decide +kernel) rfl, ⟨by decide +kernel, by decide +kernel⟩, by decide +kernel, by decide⟩
theorem tk_v_X2_siftByTruth : tq_vok yX2_siftByTruth := ⟨tq_g (i := 934) (by decide +kernel) rfl, tq_g (i := 18) (by decide +kernel) rfl⟩
theorem tk_y_X4_conditionsOf : tq_yok yX4_conditionsOf cX4_conditionsOf 2 (some .int) 1 := ⟨tq_g (i := 896) (by decide +kernel) rfl, tq_g (i := 60) (by decide +kernel) rfl, ⟨by decide +kernel, by decide +kernel⟩, by decide +kernel, by decide⟩
theorem tk_v_X4_conditionsOf : tq_vok yX4_conditionsOf := ⟨tq_g (i := 894) (by decide +kernel) rfl, tq_g (i := 895) (by decide +kernel) rfl⟩
theorem tk_y_X4_axisOf : tq_yok yX4_axisOf cX4_axisOf 2 (some .int) 1 := ⟨tq_g (i := 863) (by decide +kernel) rfl, tq_g (i := 60) (by decide +kernel) rfl, ⟨by decide +kernel, by decide +kernel⟩, by decide +kernel, by decide⟩
theorem tk_v_X4_axisOf : tq_vok yX4_axisOf := ⟨tq_g (i := 861) (by decide +kernel) rfl, tq_g (i := 862) (by decide +kernel) rfl⟩
theorem tk_RX2_90 : Cond.methodLink RX2 90 yX4_stepsOf ∈ tq_G := tq_g (i := 847) (by decide +kernel) rfl
theorem tk_RX2_96 : Cond.methodLink RX2 96 yX4_stepAt ∈ tq_G := tq_g (i := 852) (by decide +kernel) rfl
theorem tk_RX2_99 : Cond.methodLink RX2 99 yX2_takeStep ∈ tq_G := tq_g (i := 856) (by decide +kernel) rfl
theorem tk_y_X2_takeStep : tq_yok yX2_takeStep cX2_takeStep 7 none 2 := ⟨tq_g (i := 859) (by decide +kernel) rfl, tq_g (i := 61) (by decide +kernel) rfl, ⟨by decide +kernel, by decide +kernel⟩, by decide +kernel, by decide⟩
theorem tk_v_X2_takeStep : tq_vok yX2_takeStep := ⟨tq_g (i := 858) (by decide +kernel) rfl, tq_g (i := 13) (by decide +kernel) rfl⟩
theorem tk_y_X4_stepsOf : tq_yok yX4_stepsOf cX4_stepsOf 2 (some .int) 1 := ⟨tq_g (i := 850) (by decide +kernel) rfl, tq_g (i := 60) (by decide +kernel) rfl, ⟨by decide +kernel, by decide +kernel⟩, by decide +kernel, by decide⟩
theorem tk_v_X4_stepsOf : tq_vok yX4_stepsOf := ⟨tq_g (i := 848) (by decide +kernel) rfl, tq_g (i := 849) (by decide +kernel) rfl⟩
theorem tk_RX2_102 : Cond.methodLink RX2 102 Lib.Math.max.name ∈ tq_G := tq_g (i := 940) (by decide +kernel) rfl
theorem tk_RX2_188 : Cond.methodLink RX2 188 yX0_lowest ∈ tq_G := tq_g (i := 1356) (by decide +kernel) rfl
theorem tk_RX2_181 : Cond.methodLink RX2 181 yX2_foundFrom ∈ tq_G := tq_g (i := 1351) (by decide +kernel) rfl
theorem tk_RX2_184 : Cond.methodLink RX2 184 yX2_countAhead ∈ tq_G := tq_g (i := 1352) (by decide +kernel) rfl
theorem tk_y_X2_countAhead : tq_yok yX2_countAhead cX2_countAhead 10 (some .int) 2 := ⟨tq_g (i := 1355) (by decide +kernel) rfl, tq_g (i := 61) (by decide +kernel) rfl, ⟨by decide +kernel, by decide +kernel⟩, by decide +kernel, by decide⟩
theorem tk_v_X2_countAhead : tq_vok yX2_countAhead := ⟨tq_g (i := 1354) (by decide +kernel) rfl, tq_g (i := 31) (by decide +kernel) rfl⟩
theorem tk_y_X2_foundFrom : tq_yok yX2_foundFrom cX2_foundFrom 3 (some .long) 2 := ⟨tq_g (i := 948) (by decide +kernel) rfl, tq_g (i := 61) (by decide +kernel) rfl, ⟨by decide +kernel, by decide +kernel⟩, by decide +kernel, by decide⟩
theorem tk_v_X2_foundFrom : tq_vok yX2_foundFrom := ⟨tq_g (i := 946) (by decide +kernel) rfl, tq_g (i := 947) (by decide +kernel) rfl⟩
theorem tk_RX2_191 : Cond.methodLink RX2 191 yX2_isFirstOfValue ∈ tq_G := tq_g (i := 1369) (by decide +kernel) rfl
theorem tk_y_X2_isFirstOfValue : tq_yok yX2_isFirstOfValue cX2_isFirstOfValue 5 (some .boolean) 2 := ⟨tq_g (i := 1372) (by decide +kernel) rfl, tq_g (i := 61) (by decide +kernel) rfl, ⟨by decide +kernel, by decide +kernel⟩, by decide +kernel, by decide⟩
theorem tk_v_X2_isFirstOfValue : tq_vok yX2_isFirstOfValue := ⟨tq_g (i := 1371) (by decide +kernel) rfl, tq_g (i := 32) (by decide +kernel) rfl⟩
theorem tk_RX6_3 : Cond.methodLink RX6 3 Lib.objectInit ∈ tq_G := tq_g (i := 332) (by decide +kernel) rfl
theorem tk_RX6_9 : Cond.classLink RX6 9 RX5 ∈ tq_G := tq_g (i := 333) (by decide +kernel) rfl
theorem tk_RX6_11 : Cond.methodLink RX6 11 yX5_init ∈ tq_G := tq_g (i := 334) (by decide +kernel) rfl
theorem tk_RX6_14 : Cond.fieldLink RX6 14 RX6 (TX6 0).2.1 (TX6 0).2.2.1 ∈ tq_G := tq_g (i := 335) (by decide +kernel) rfl
theorem tk_RX6_20 : Cond.fieldLink RX6 20 RX6 (TX6 1).2.1 (TX6 1).2.2.1 ∈ tq_G := tq_g (i := 336) (by decide +kernel) rfl
theorem tk_kb_48 : (Int8.ofInt (48)).toInt32 = (48 : Int32) := by decide +kernel
theorem tk_RX6_23 : Cond.fieldLink RX6 23 RX6 (TX6 2).2.1 (TX6 2).2.2.1 ∈ tq_G := tq_g (i := 337) (by decide +kernel) rfl
theorem tk_ks_144 : (Int16.ofInt (144)).toInt32 = (144 : Int32) := by decide +kernel
theorem tk_RX6_26 : Cond.fieldLink RX6 26 RX6 (TX6 3).2.1 (TX6 3).2.2.1 ∈ tq_G := tq_g (i := 338) (by decide +kernel) rfl
theorem tk_RX6_29 : Cond.fieldLink RX6 29 RX6 (TX6 4).2.1 (TX6 4).2.2.1 ∈ tq_G := tq_g (i := 339) (by decide +kernel) rfl
theorem tk_RX6_32 : Cond.fieldLink RX6 32 RX6 (TX6 5).2.1 (TX6 5).2.2.1 ∈ tq_G := tq_g (i := 340) (by decide +kernel) rfl
theorem tk_RX6_35 : Cond.fieldLink RX6 35 RX6 (TX6 6).2.1 (TX6 6).2.2.1 ∈ tq_G := tq_g (i := 341) (by decide +kernel) rfl
theorem tk_ks_160 : (Int16.ofInt (160)).toInt32 = (160 : Int32) := by decide +kernel
theorem tk_RX6_38 : Cond.fieldLink RX6 38 RX6 (TX6 7).2.1 (TX6 7).2.2.1 ∈ tq_G := tq_g (i := 342) (by decide +kernel) rfl
theorem tk_RX6_41 : Cond.fieldLink RX6 41 RX6 (TX6 8).2.1 (TX6 8).2.2.1 ∈ tq_G := tq_g (i := 343) (by decide +kernel) rfl
theorem tk_RX6_45 : Cond.fieldLink RX6 45 RX6 (TX6 9).2.1 (TX6 9).2.2.1 ∈ tq_G := tq_g (i := 344) (by decide +kernel) rfl
theorem tk_RX6_48 : Cond.fieldLink RX6 48 RX6 (TX6 10).2.1 (TX6 10).2.2.1 ∈ tq_G := tq_g (i := 345) (by decide +kernel) rfl
theorem tk_RX6_52 : Cond.methodLink RX6 52 yX5_get ∈ tq_G := tq_g (i := 802) (by decide +kernel) rfl
theorem tk_RX6_56 : Cond.methodLink RX6 56 yX5_set ∈ tq_G := tq_g (i := 827) (by decide +kernel) rfl
theorem tk_RX6_59 : Cond.methodLink RX6 59 yX6_arcAt ∈ tq_G := tq_g (i := 820) (by decide +kernel) rfl
theorem tk_y_X6_arcAt : tq_yok yX6_arcAt cX6_arcAt 3 (some .int) 3 := ⟨tq_g (i := 822) (by decide +kernel) rfl, tq_g (i := 62) (by decide +kernel) rfl, ⟨by decide +kernel, by decide +kernel⟩, by decide +kernel, by decide⟩
theorem tk_s_X6_arcAt : Cond.static yX6_arcAt ∈ tq_G := tq_g (i := 821) (by decide +kernel) rfl
theorem tk_RX6_122 : Cond.methodLink RX6 122 yX5_union ∈ tq_G := tq_g (i := 823) (by decide +kernel) rfl
theorem tk_RX6_110 : Cond.methodLink RX6 110 yJ13_bitCount_95d88 ∈ tq_G := tq_g (i := 814) (by decide +kernel) rfl
theorem tk_RX6_116 : Cond.methodLink RX6 116 yX0_lowest ∈ tq_G := tq_g (i := 815) (by decide +kernel) rfl
theorem tk_RX6_119 : Cond.methodLink RX6 119 yX6_statesBehind ∈ tq_G := tq_g (i := 816) (by decide +kernel) rfl
theorem tk_y_X6_statesBehind : tq_yok yX6_statesBehind cX6_statesBehind 6 (some .int) 3 := ⟨tq_g (i := 819) (by decide +kernel) rfl, tq_g (i := 62) (by decide +kernel) rfl, ⟨by decide +kernel, by decide +kernel⟩, by decide +kernel, by decide⟩
theorem tk_v_X6_statesBehind : tq_vok yX6_statesBehind := ⟨tq_g (i := 818) (by decide +kernel) rfl, tq_g (i := 11) (by decide +kernel) rfl⟩
theorem tk_RX6_67 : Cond.fieldLink RX6 67 RX8 (TX8 0).2.1 (TX8 0).2.2.1 ∈ tq_G := tq_g (i := 166) (by decide +kernel) rfl
theorem tk_RX6_93 : Cond.fieldLink RX6 93 RX8 (TX8 2).2.1 (TX8 2).2.2.1 ∈ tq_G := tq_g (i := 170) (by decide +kernel) rfl
theorem tk_RX6_94 : Cond.methodLink RX6 94 yX3_nodeAt ∈ tq_G := tq_g (i := 803) (by decide +kernel) rfl
theorem tk_RX6_97 : Cond.methodLink RX6 97 yX3_children ∈ tq_G := tq_g (i := 804) (by decide +kernel) rfl
theorem tk_RX6_101 : Cond.methodLink RX6 101 yX3_passing ∈ tq_G := tq_g (i := 805) (by decide +kernel) rfl
theorem tk_RX6_104 : Cond.methodLink RX6 104 yX3_attributesOf ∈ tq_G := tq_g (i := 806) (by decide +kernel) rfl
theorem tk_RX6_79 : Cond.methodLink RX6 79 yX3_elements ∈ tq_G := tq_g (i := 796) (by decide +kernel) rfl
theorem tk_RX6_107 : Cond.methodLink RX6 107 yX6_isAccepted ∈ tq_G := tq_g (i := 810) (by decide +kernel) rfl
theorem tk_y_X6_isAccepted : tq_yok yX6_isAccepted cX6_isAccepted 8 (some .boolean) 2 := ⟨tq_g (i := 813) (by decide +kernel) rfl, tq_g (i := 62) (by decide +kernel) rfl, ⟨by decide +kernel, by decide +kernel⟩, by decide +kernel, by decide⟩
theorem tk_v_X6_isAccepted : tq_vok yX6_isAccepted := ⟨tq_g (i := 812) (by decide +kernel) rfl, tq_g (i := 10) (by decide +kernel) rfl⟩
theorem tk_RX6_73 : Cond.methodLink RX6 73 yX3_count ∈ tq_G := tq_g (i := 795) (by decide +kernel) rfl
theorem tk_RX6_83 : Cond.methodLink RX6 83 yX0_holds ∈ tq_G := tq_g (i := 797) (by decide +kernel) rfl
theorem tk_RX6_89 : Cond.methodLink RX6 89 yX6_isOfType ∈ tq_G := tq_g (i := 798) (by decide +kernel) rfl
theorem tk_y_X6_isOfType : tq_yok yX6_isOfType cX6_isOfType 8 (some .boolean) 3 := ⟨tq_g (i := 801) (by decide +kernel) rfl, tq_g (i := 62) (by decide +kernel) rfl, ⟨by decide +kernel, by decide +kernel⟩, by decide +kernel, by decide⟩
theorem tk_v_X6_isOfType : tq_vok yX6_isOfType := ⟨tq_g (i := 800) (by decide +kernel) rfl, tq_g (i := 9) (by decide +kernel) rfl⟩
theorem tk_RX6_63 : Cond.methodLink RX6 63 yX6_typesOf ∈ tq_G := tq_g (i := 791) (by decide +kernel) rfl
theorem tk_y_X6_typesOf : tq_yok yX6_typesOf cX6_typesOf 6 (some .int) 2 := ⟨tq_g (i := 794) (by decide +kernel) rfl, tq_g (i := 62) (by decide +kernel) rfl, ⟨by decide +kernel, by decide +kernel⟩, by decide +kernel, by decide⟩
theorem tk_v_X6_typesOf : tq_vok yX6_typesOf := ⟨tq_g (i := 792) (by decide +kernel) rfl, tq_g (i := 793) (by decide +kernel) rfl⟩
theorem tk_ks_128 : (Int16.ofInt (128)).toInt32 = (128 : Int32) := by decide +kernel
theorem tk_RX6_141 : Cond.methodLink RX6 141 yX5_setAll ∈ tq_G := tq_g (i := 1388) (by decide +kernel) rfl
theorem tk_RX6_145 : Cond.methodLink RX6 145 yX6_possible ∈ tq_G := tq_g (i := 1389) (by decide +kernel) rfl
theorem tk_y_X6_possible : tq_yok yX6_possible cX6_possible 5 (some .int) 1 := ⟨tq_g (i := 1392) (by decide +kernel) rfl, tq_g (i := 62) (by decide +kernel) rfl, ⟨by decide +kernel, by decide +kernel⟩, by decide +kernel, by decide⟩
theorem tk_v_X6_possible : tq_vok yX6_possible := ⟨tq_g (i := 1391) (by decide +kernel) rfl, tq_g (i := 34) (by decide +kernel) rfl⟩
theorem tk_RX6_148 : Cond.methodLink RX6 148 yX5_closure ∈ tq_G := tq_g (i := 1393) (by decide +kernel) rfl
theorem tk_y_X5_closure : tq_yok yX5_closure cX5_closure 5 (some .int) 2 := ⟨tq_g (i := 1396) (by decide +kernel) rfl, tq_g (i := 56) (by decide +kernel) rfl, ⟨by decide +kernel, by decide +kernel⟩, by decide +kernel, by decide⟩
theorem tk_v_X5_closure : tq_vok yX5_closure := ⟨tq_g (i := 1394) (by decide +kernel) rfl, tq_g (i := 1395) (by decide +kernel) rfl⟩
theorem tk_kb_63 : (Int8.ofInt (63)).toInt32 = (63 : Int32) := by decide +kernel
theorem tk_ks_255 : (Int16.ofInt (255)).toInt32 = (255 : Int32) := by decide +kernel
theorem tk_RX6_151 : Cond.methodLink RX6 151 yX4_axisOf ∈ tq_G := tq_g (i := 1404) (by decide +kernel) rfl
theorem tk_RX6_157 : Cond.methodLink RX6 157 yX6_tellAxis ∈ tq_G := tq_g (i := 1406) (by decide +kernel) rfl
theorem tk_y_X6_tellAxis : tq_yok yX6_tellAxis cX6_tellAxis 3 (some .int) 2 := ⟨tq_g (i := 1409) (by decide +kernel) rfl, tq_g (i := 62) (by decide +kernel) rfl, ⟨by decide +kernel, by decide +kernel⟩, by decide +kernel, by decide⟩
theorem tk_v_X6_tellAxis : tq_vok yX6_tellAxis := ⟨tq_g (i := 1408) (by decide +kernel) rfl, tq_g (i := 36) (by decide +kernel) rfl⟩
theorem tk_RX6_154 : Cond.methodLink RX6 154 yX4_repeatOf ∈ tq_G := tq_g (i := 1405) (by decide +kernel) rfl
theorem tk_RX6_160 : Cond.methodLink RX6 160 yX4_testOf ∈ tq_G := tq_g (i := 1410) (by decide +kernel) rfl
theorem tk_RX6_163 : Cond.methodLink RX6 163 yX6_tellTest ∈ tq_G := tq_g (i := 1411) (by decide +kernel) rfl
theorem tk_y_X6_tellTest : tq_yok yX6_tellTest cX6_tellTest 4 (some .int) 1 := ⟨tq_g (i := 1414) (by decide +kernel) rfl, tq_g (i := 62) (by decide +kernel) rfl, ⟨by decide +kernel, by decide +kernel⟩, by decide +kernel, by decide⟩
theorem tk_v_X6_tellTest : tq_vok yX6_tellTest := ⟨tq_g (i := 1413) (by decide +kernel) rfl, tq_g (i := 37) (by decide +kernel) rfl⟩
theorem tk_RX6_126 : Cond.methodLink RX6 126 yX6_learn ∈ tq_G := tq_g (i := 1384) (by decide +kernel) rfl
theorem tk_RX6_129 : Cond.methodLink RX6 129 yX4_stepsOf ∈ tq_G := tq_g (i := 1398) (by decide +kernel) rfl
theorem tk_RX6_134 : Cond.methodLink RX6 134 yX4_stepAt ∈ tq_G := tq_g (i := 1399) (by decide +kernel) rfl
theorem tk_RX6_137 : Cond.methodLink RX6 137 yX6_tellStep ∈ tq_G := tq_g (i := 1400) (by decide +kernel) rfl
theorem tk_y_X6_tellStep : tq_yok yX6_tellStep cX6_tellStep 7 (some .int) 3 := ⟨tq_g (i := 1403) (by decide +kernel) rfl, tq_g (i := 62) (by decide +kernel) rfl, ⟨by decide +kernel, by decide +kernel⟩, by decide +kernel, by decide⟩
theorem tk_v_X6_tellStep : tq_vok yX6_tellStep := ⟨tq_g (i := 1402) (by decide +kernel) rfl, tq_g (i := 35) (by decide +kernel) rfl⟩
theorem tk_y_X6_learn : tq_yok yX6_learn cX6_learn 5 none 0 := ⟨tq_g (i := 1387) (by decide +kernel) rfl, tq_g (i := 62) (by decide +kernel) rfl, ⟨by decide +kernel, by decide +kernel⟩, by decide +kernel, by decide⟩
theorem tk_v_X6_learn : tq_vok yX6_learn := ⟨tq_g (i := 1386) (by decide +kernel) rfl, tq_g (i := 33) (by decide +kernel) rfl⟩
abbrev mX1_init : tq_M := (RX1, cX1_init, 1, none, true, [], none)
def f_X1_init (t : Nat) (h : tq_H) : Option (tq_H) :=
  tq_let (tq_new h (.inl (5, [.null]))) fun w1 =>
  (f_X5_init h.1 (60 : Int32) (-1 : Int32) w1).bind fun v2 =>
  (tq_pf v2 t 1 0 (.ref h.1)).bind fun w3 =>
  tq_let (tq_new w3 (.inl (5, [.null]))) fun w4 =>
  (f_X5_init w3.1 (60 : Int32) (-1 : Int32) w4).bind fun v5 =>
  (tq_pf v5 t 1 1 (.ref w3.1)).bind fun w6 =>
  tq_let (tq_new w6 (.inl (5, [.null]))) fun w7 =>
  (f_X5_init w6.1 (60 : Int32) (-1 : Int32) w7).bind fun v8 =>
  (tq_pf v8 t 1 2 (.ref w6.1)).bind fun w9 =>
  tq_let (tq_new w9 (.inl (5, [.null]))) fun w10 =>
  (f_X5_init w9.1 (60 : Int32) (-1 : Int32) w10).bind fun v11 =>
  (tq_pf v11 t 1 3 (.ref w9.1)).bind fun w12 =>
  tq_let (tq_new w12 (.inl (5, [.null]))) fun w13 =>
  (f_X5_init w12.1 (3721 : Int32) (0 : Int32) w13).bind fun v14 =>
  (tq_pf v14 t 1 4 (.ref w12.1)).bind fun w15 =>
  tq_let (tq_new w15 (.inl (5, [.null]))) fun w16 =>
  (f_X5_init w15.1 (3721 : Int32) (0 : Int32) w16).bind fun v17 =>
  (tq_pf v17 t 1 5 (.ref w15.1)).bind fun w18 =>
  tq_let (tq_new w18 (.inl (5, [.null]))) fun w19 =>
  (f_X5_init w18.1 (36 : Int32) (-1 : Int32) w19).bind fun v20 =>
  (tq_pf v20 t 1 6 (.ref w18.1)).bind fun w21 =>
  some w21
set_option maxHeartbeats 4000000 in
set_option maxRecDepth 20000 in
theorem w_X1_init {l : Launch} {d : Nat} (hd9 : 2 ≤ d) {t : Nat} {h : tq_H} {o : tq_H} {Q : tq_R → tq_H → Prop} (hf : f_X1_init t h = some o) (hQ : ∀ r h9, r = .inl none ∧ o = h9 → Q r h9) : tq_C l yX1_init cX1_init 1 none d 14 7725 [.ref t] h Q := by
  refine tq_body (y := yX1_init) true (by decide +kernel) (fun _ => rfl) (Nat.le_of_ble_eq_true rfl) ?_
  show tq_W l mX1_init d 14 7725 Q 0 [(0, .ref t)] [] h
  refine tq_aload_n (M := mX1_init) (pc := 0) dX1_init_0 rfl ?_
  refine tq_objinit (M := mX1_init) (pc := 1) dX1_init_1 tk_RX1_3 tk_oi tk_oc (by omega) (Nat.le_of_ble_eq_true rfl) ?_
  refine tq_aload_n (M := mX1_init) (pc := 4) dX1_init_4 rfl ?_
  obtain ⟨w1, ew1, hf⟩ := tq_le hf
  refine tq_newo (M := mX1_init) (pc := 5) tk_c5 dX1_init_5 tk_RX1_9 tk_in5 tk_ini5 (fs := [.null]) (fun j hj => by rcases (show j = 0 by omega) with rfl <;> rfl) (fun _ => ⟨rfl, trivial⟩) (bc' := 13) (bs' := 7724) (by omega) (by omega) ?_
  rw [← ew1]
  refine tq_dup (M := mX1_init) (pc := 8) dX1_init_8 rfl ?_
  refine tq_bipush (M := mX1_init) (pc := 9) dX1_init_9 tk_kb_60 ?_
  refine tq_iconst (M := mX1_init) (pc := 11) dX1_init_11 tk_ki_m1 ?_
  obtain ⟨v2, ev2, hf⟩ := tq_be hf
  refine tq_calI (M := mX1_init) (pc := 12) (S := [.ref h.1, .ref t]) tk_y_X5_init tk_v_X5_init rfl (Or.inl tk_RX1_11) dX1_init_12 [.int (60 : Int32), .int (-1 : Int32)] rfl (Nat.le_of_ble_eq_true rfl) (d1 := d - 1) (b1 := 1) (s1 := 60) (bc' := 12) (bs' := 7664) (Q1 := fun r h9 => r = .inl none ∧ v2 = h9) (by omega) rfl rfl (w_X5_init (by omega) (N := 60) (by decide +kernel) (by decide +kernel) (by decide) ev2 (fun _ _ q => q)) (fun E h9 q => nomatch (show (Sum.inr E : tq_R) = Sum.inl _ from q.1)) (fun r9 h9 q => ?_)
  obtain ⟨q1, rfl⟩ := q
  cases (show (Sum.inl r9 : tq_R) = Sum.inl (none) from q1)
  obtain ⟨w3, ew3, hf⟩ := tq_be hf
  refine tq_putv (M := mX1_init) (pc := 15) tk_c1 (by decide) dX1_init_15 tk_RX1_14 rfl (Or.inr ⟨rfl, rfl⟩) ew3 (tq_nR _ _) ?_
  refine tq_aload_n (M := mX1_init) (pc := 18) dX1_init_18 rfl ?_
  obtain ⟨w4, ew4, hf⟩ := tq_le hf
  refine tq_newo (M := mX1_init) (pc := 19) tk_c5 dX1_init_19 tk_RX1_9 tk_in5 tk_ini5 (fs := [.null]) (fun j hj => by rcases (show j = 0 by omega) with rfl <;> rfl) (fun _ => ⟨rfl, trivial⟩) (bc' := 11) (bs' := 7663) (by omega) (by omega) ?_
  rw [← ew4]
  refine tq_dup (M := mX1_init) (pc := 22) dX1_init_22 rfl ?_
  refine tq_bipush (M := mX1_init) (pc := 23) dX1_init_23 tk_kb_60 ?_
  refine tq_iconst (M := mX1_init) (pc := 25) dX1_init_25 tk_ki_m1 ?_
  obtain ⟨v5, ev5, hf⟩ := tq_be hf
  refine tq_calI (M := mX1_init) (pc := 26) (S := [.ref w3.1, .ref t]) tk_y_X5_init tk_v_X5_init rfl (Or.inl tk_RX1_11) dX1_init_26 [.int (60 : Int32), .int (-1 : Int32)] rfl (Nat.le_of_ble_eq_true rfl) (d1 := d - 1) (b1 := 1) (s1 := 60) (bc' := 10) (bs' := 7603) (Q1 := fun r h9 => r = .inl none ∧ v5 = h9) (by omega) rfl rfl (w_X5_init (by omega) (N := 60) (by decide +kernel) (by decide +kernel) (by decide) ev5 (fun _ _ q => q)) (fun E h9 q => nomatch (show (Sum.inr E : tq_R) = Sum.inl _ from q.1)) (fun r9 h9 q => ?_)
  obtain ⟨q1, rfl⟩ := q
  cases (show (Sum.inl r9 : tq_R) = Sum.inl (none) from q1)
  obtain ⟨w6, ew6, hf⟩ := tq_be hf
  refine tq_putv (M := mX1_init) (pc := 29) tk_c1 (by decide) dX1_init_29 tk_RX1_20 rfl (Or.inr ⟨rfl, rfl⟩) ew6 (tq_nR _ _) ?_
  refine tq_aload_n (M := mX1_init) (pc := 32) dX1_init_32 rfl ?_
  obtain ⟨w7, ew7, hf⟩ := tq_le hf
  refine tq_newo (M := mX1_init) (pc := 33) tk_c5 dX1_init_33 tk_RX1_9 tk_in5 tk_ini5 (fs := [.null]) (fun j hj => by rcases (show j = 0 by omega) with rfl <;> rfl) (fun _ => ⟨rfl, trivial⟩) (bc' := 9) (bs' := 7602) (by omega) (by omega) ?_
  rw [← ew7]
  refine tq_dup (M := mX1_init) (pc := 36) dX1_init_36 rfl ?_
  refine tq_bipush (M := mX1_init) (pc := 37) dX1_init_37 tk_kb_60 ?_
  refine tq_iconst (M := mX1_init) (pc := 39) dX1_init_39 tk_ki_m1 ?_
  obtain ⟨v8, ev8, hf⟩ := tq_be hf
  refine tq_calI (M := mX1_init) (pc := 40) (S := [.ref w6.1, .ref t]) tk_y_X5_init tk_v_X5_init rfl (Or.inl tk_RX1_11) dX1_init_40 [.int (60 : Int32), .int (-1 : Int32)] rfl (Nat.le_of_ble_eq_true rfl) (d1 := d - 1) (b1 := 1) (s1 := 60) (bc' := 8) (bs' := 7542) (Q1 := fun r h9 => r = .inl none ∧ v8 = h9) (by omega) rfl rfl (w_X5_init (by omega) (N := 60) (by decide +kernel) (by decide +kernel) (by decide) ev8 (fun _ _ q => q)) (fun E h9 q => nomatch (show (Sum.inr E : tq_R) = Sum.inl _ from q.1)) (fun r9 h9 q => ?_)
  obtain ⟨q1, rfl⟩ := q
  cases (show (Sum.inl r9 : tq_R) = Sum.inl (none) from q1)
  obtain ⟨w9, ew9, hf⟩ := tq_be hf
  refine tq_putv (M := mX1_init) (pc := 43) tk_c1 (by decide) dX1_init_43 tk_RX1_23 rfl (Or.inr ⟨rfl, rfl⟩) ew9 (tq_nR _ _) ?_
  refine tq_aload_n (M := mX1_init) (pc := 46) dX1_init_46 rfl ?_
  obtain ⟨w10, ew10, hf⟩ := tq_le hf
  refine tq_newo (M := mX1_init) (pc := 47) tk_c5 dX1_init_47 tk_RX1_9 tk_in5 tk_ini5 (fs := [.null]) (fun j hj => by rcases (show j = 0 by omega) with rfl <;> rfl) (fun _ => ⟨rfl, trivial⟩) (bc' := 7) (bs' := 7541) (by omega) (by omega) ?_
  rw [← ew10]
  refine tq_dup (M := mX1_init) (pc := 50) dX1_init_50 rfl ?_
  refine tq_bipush (M := mX1_init) (pc := 51) dX1_init_51 tk_kb_60 ?_
  refine tq_iconst (M := mX1_init) (pc := 53) dX1_init_53 tk_ki_m1 ?_
  obtain ⟨v11, ev11, hf⟩ := tq_be hf
  refine tq_calI (M := mX1_init) (pc := 54) (S := [.ref w9.1, .ref t]) tk_y_X5_init tk_v_X5_init rfl (Or.inl tk_RX1_11) dX1_init_54 [.int (60 : Int32), .int (-1 : Int32)] rfl (Nat.le_of_ble_eq_true rfl) (d1 := d - 1) (b1 := 1) (s1 := 60) (bc' := 6) (bs' := 7481) (Q1 := fun r h9 => r = .inl none ∧ v11 = h9) (by omega) rfl rfl (w_X5_init (by omega) (N := 60) (by decide +kernel) (by decide +kernel) (by decide) ev11 (fun _ _ q => q)) (fun E h9 q => nomatch (show (Sum.inr E : tq_R) = Sum.inl _ from q.1)) (fun r9 h9 q => ?_)
  obtain ⟨q1, rfl⟩ := q
  cases (show (Sum.inl r9 : tq_R) = Sum.inl (none) from q1)
  obtain ⟨w12, ew12, hf⟩ := tq_be hf
  refine tq_putv (M := mX1_init) (pc := 57) tk_c1 (by decide) dX1_init_57 tk_RX1_26 rfl (Or.inr ⟨rfl, rfl⟩) ew12 (tq_nR _ _) ?_
  refine tq_aload_n (M := mX1_init) (pc := 60) dX1_init_60 rfl ?_
  obtain ⟨w13, ew13, hf⟩ := tq_le hf
  refine tq_newo (M := mX1_init) (pc := 61) tk_c5 dX1_init_61 tk_RX1_9 tk_in5 tk_ini5 (fs := [.null]) (fun j hj => by rcases (show j = 0 by omega) with rfl <;> rfl) (fun _ => ⟨rfl, trivial⟩) (bc' := 5) (bs' := 7480) (by omega) (by omega) ?_
  rw [← ew13]
  refine tq_dup (M := mX1_init) (pc := 64) dX1_init_64 rfl ?_
  refine tq_sipush (M := mX1_init) (pc := 65) dX1_init_65 tk_ks_3721 ?_
  refine tq_iconst (M := mX1_init) (pc := 68) dX1_init_68 tk_ki_0 ?_
  obtain ⟨v14, ev14, hf⟩ := tq_be hf
  refine tq_calI (M := mX1_init) (pc := 69) (S := [.ref w12.1, .ref t]) tk_y_X5_init tk_v_X5_init rfl (Or.inl tk_RX1_11) dX1_init_69 [.int (3721 : Int32), .int (0 : Int32)] rfl (Nat.le_of_ble_eq_true rfl) (d1 := d - 1) (b1 := 1) (s1 := 3721) (bc' := 4) (bs' := 3759) (Q1 := fun r h9 => r = .inl none ∧ v14 = h9) (by omega) rfl rfl (w_X5_init (by omega) (N := 3721) (by decide +kernel) (by decide +kernel) (by decide) ev14 (fun _ _ q => q)) (fun E h9 q => nomatch (show (Sum.inr E : tq_R) = Sum.inl _ from q.1)) (fun r9 h9 q => ?_)
  obtain ⟨q1, rfl⟩ := q
  cases (show (Sum.inl r9 : tq_R) = Sum.inl (none) from q1)
  obtain ⟨w15, ew15, hf⟩ := tq_be hf
  refine tq_putv (M := mX1_init) (pc := 72) tk_c1 (by decide) dX1_init_72 tk_RX1_29 rfl (Or.inr ⟨rfl, rfl⟩) ew15 (tq_nR _ _) ?_
  refine tq_aload_n (M := mX1_init) (pc := 75) dX1_init_75 rfl ?_
  obtain ⟨w16, ew16, hf⟩ := tq_le hf
  refine tq_newo (M := mX1_init) (pc := 76) tk_c5 dX1_init_76 tk_RX1_9 tk_in5 tk_ini5 (fs := [.null]) (fun j hj => by rcases (show j = 0 by omega) with rfl <;> rfl) (fun _ => ⟨rfl, trivial⟩) (bc' := 3) (bs' := 3758) (by omega) (by omega) ?_
  rw [← ew16]
  refine tq_dup (M := mX1_init) (pc := 79) dX1_init_79 rfl ?_
  refine tq_sipush (M := mX1_init) (pc := 80) dX1_init_80 tk_ks_3721 ?_
  refine tq_iconst (M := mX1_init) (pc := 83) dX1_init_83 tk_ki_0 ?_
  obtain ⟨v17, ev17, hf⟩ := tq_be hf
  refine tq_calI (M := mX1_init) (pc := 84) (S := [.ref w15.1, .ref t]) tk_y_X5_init tk_v_X5_init rfl (Or.inl tk_RX1_11) dX1_init_84 [.int (3721 : Int32), .int (0 : Int32)] rfl (Nat.le_of_ble_eq_true rfl) (d1 := d - 1) (b1 := 1) (s1 := 3721) (bc' := 2) (bs' := 37) (Q1 := fun r h9 => r = .inl none ∧ v17 = h9) (by omega) rfl rfl (w_X5_init (by omega) (N := 3721) (by decide +kernel) (by decide +kernel) (by decide) ev17 (fun _ _ q => q)) (fun E h9 q => nomatch (show (Sum.inr E : tq_R) = Sum.inl _ from q.1)) (fun r9 h9 q => ?_)
  obtain ⟨q1, rfl⟩ := q
  cases (show (Sum.inl r9 : tq_R) = Sum.inl (none) from q1)
  obtain ⟨w18, ew18, hf⟩ := tq_be hf
  refine tq_putv (M := mX1_init) (pc := 87) tk_c1 (by decide) dX1_init_87 tk_RX1_32 rfl (Or.inr ⟨rfl, rfl⟩) ew18 (tq_nR _ _) ?_
  refine tq_aload_n (M := mX1_init) (pc := 90) dX1_init_90 rfl ?_
  obtain ⟨w19, ew19, hf⟩ := tq_le hf
  refine tq_newo (M := mX1_init) (pc := 91) tk_c5 dX1_init_91 tk_RX1_9 tk_in5 tk_ini5 (fs := [.null]) (fun j hj => by rcases (show j = 0 by omega) with rfl <;> rfl) (fun _ => ⟨rfl, trivial⟩) (bc' := 1) (bs' := 36) (by omega) (by omega) ?_
  rw [← ew19]
  refine tq_dup (M := mX1_init) (pc := 94) dX1_init_94 rfl ?_
  refine tq_bipush (M := mX1_init) (pc := 95) dX1_init_95 tk_kb_36 ?_
  refine tq_iconst (M := mX1_init) (pc := 97) dX1_init_97 tk_ki_m1 ?_
  obtain ⟨v20, ev20, hf⟩ := tq_be hf
  refine tq_calI (M := mX1_init) (pc := 98) (S := [.ref w18.1, .ref t]) tk_y_X5_init tk_v_X5_init rfl (Or.inl tk_RX1_11) dX1_init_98 [.int (36 : Int32), .int (-1 : Int32)] rfl (Nat.le_of_ble_eq_true rfl) (d1 := d - 1) (b1 := 1) (s1 := 36) (bc' := 0) (bs' := 0) (Q1 := fun r h9 => r = .inl none ∧ v20 = h9) (by omega) rfl rfl (w_X5_init (by omega) (N := 36) (by decide +kernel) (by decide +kernel) (by decide) ev20 (fun _ _ q => q)) (fun E h9 q => nomatch (show (Sum.inr E : tq_R) = Sum.inl _ from q.1)) (fun r9 h9 q => ?_)
  obtain ⟨q1, rfl⟩ := q
  cases (show (Sum.inl r9 : tq_R) = Sum.inl (none) from q1)
  obtain ⟨w21, ew21, hf⟩ := tq_be hf
  refine tq_putv (M := mX1_init) (pc := 101) tk_c1 (by decide) dX1_init_101 tk_RX1_35 rfl (Or.inr ⟨rfl, rfl⟩) ew21 (tq_nR _ _) ?_
  refine tq_vret (M := mX1_init) (pc := 104) dX1_init_104 rfl ?_
  cases (Option.some.inj hf)
  exact hQ _ _ ⟨rfl, rfl⟩
abbrev mX1_known : tq_M := (RX1, cX1_known, 3, (some .int), false, [], none)
def f_X1_known (t : Nat) (a1 : Int32) (a2 : Int32) (h : tq_H) : Option (Int32) :=
  (tq_gr h t 1 6).bind fun k1 =>
  (tq_is h k1 5).bind fun _ =>
  (f_X5_get k1 ((a1 * (6 : Int32)) + a2) h).bind fun v2 =>
  some v2
set_option maxHeartbeats 4000000 in
set_option maxRecDepth 20000 in
theorem w_X1_known {l : Launch} {d : Nat} (hd9 : 1 ≤ d) {t : Nat} {a1 : Int32} {a2 : Int32} {h : tq_H} {o : Int32} {Q : tq_R → tq_H → Prop} (hf : f_X1_known t a1 a2 h = some o) (hQ : ∀ r h9, r = .inl (some (.int o)) ∧ h = h9 → Q r h9) : tq_C l yX1_known cX1_known 3 (some .int) d 0 0 [.ref t, .int a1, .int a2] h Q := by
  refine tq_body (y := yX1_known) false (by decide +kernel) (fun z => by cases z) (Nat.le_of_ble_eq_true rfl) ?_
  show tq_W l mX1_known d 0 0 Q 0 [(0, .ref t), (1, .int a1), (2, .int a2)] [] h
  refine tq_aload_n (M := mX1_known) (pc := 0) dX1_known_0 rfl ?_
  obtain ⟨k1, ek1, hf⟩ := tq_be hf
  refine tq_getR (M := mX1_known) (pc := 1) tk_c1 (by decide) dX1_known_1 tk_RX1_35 rfl ek1 ?_
  refine tq_iload_n (M := mX1_known) (pc := 4) dX1_known_4 rfl ?_
  refine tq_bipush (M := mX1_known) (pc := 5) dX1_known_5 tk_kb_6 ?_
  refine tq_imul (M := mX1_known) (pc := 7) dX1_known_7 ?_
  refine tq_iload_n (M := mX1_known) (pc := 8) dX1_known_8 rfl ?_
  refine tq_iadd (M := mX1_known) (pc := 9) dX1_known_9 ?_
  obtain ⟨⟨⟩, eu3, hf⟩ := tq_be hf
  obtain ⟨fsu3, eu3⟩ := tq_is_s eu3
  obtain ⟨v2, ev2, hf⟩ := tq_be hf
  refine tq_calV (M := mX1_known) (pc := 10) (S := []) tk_y_X5_get tk_v_X5_get tk_RX1_38 dX1_known_10 [.int (((a1 * (6 : Int32)) + a2))] rfl (S0 := _) rfl eu3 rfl (Nat.le_of_ble_eq_true rfl) (d1 := d - 1) (b1 := 0) (s1 := 0) (bc' := 0) (bs' := 0) (Q1 := fun r h9 => r = .inl (some (.int v2)) ∧ h = h9) (by omega) rfl rfl (w_X5_get (by omega) ev2 (fun _ _ q => q)) (fun E h9 q => nomatch (show (Sum.inr E : tq_R) = Sum.inl _ from q.1)) (fun r9 h9 q => ?_)
  obtain ⟨q1, rfl⟩ := q
  cases (show (Sum.inl r9 : tq_R) = Sum.inl (some (.int v2)) from q1)
  refine tq_iret (M := mX1_known) (pc := 13) dX1_known_13 rfl ?_
  cases (Option.some.inj hf)
  exact hQ _ _ ⟨rfl, rfl⟩
abbrev mX1_note : tq_M := (RX1, cX1_note, 4, none, false, [], none)
def f_X1_note (t : Nat) (a1 : Int32) (a2 : Int32) (a3 : Int32) (h : tq_H) : Option (tq_H) :=
  (tq_gr h t 1 6).bind fun k1 =>
  (tq_is h k1 5).bind fun _ =>
  (f_X5_set k1 ((a1 * (6 : Int32)) + a2) a3 h).bind fun v2 =>
  (tq_gr v2 t 1 6).bind fun k4 =>
  (tq_is v2 k4 5).bind fun _ =>
  (f_X5_set k4 ((a2 * (6 : Int32)) + a1) a3 v2).bind fun v5 =>
  some v5
set_option maxHeartbeats 4000000 in
set_option maxRecDepth 20000 in
theorem w_X1_note {l : Launch} {d : Nat} (hd9 : 1 ≤ d) {t : Nat} {a1 : Int32} {a2 : Int32} {a3 : Int32} {h : tq_H} {o : tq_H} {Q : tq_R → tq_H → Prop} (hf : f_X1_note t a1 a2 a3 h = some o) (hQ : ∀ r h9, r = .inl none ∧ o = h9 → Q r h9) : tq_C l yX1_note cX1_note 4 none d 0 0 [.ref t, .int a1, .int a2, .int a3] h Q := by
  refine tq_body (y := yX1_note) false (by decide +kernel) (fun z => by cases z) (Nat.le_of_ble_eq_true rfl) ?_
  show tq_W l mX1_note d 0 0 Q 0 [(0, .ref t), (1, .int a1), (2, .int a2), (3, .int a3)] [] h
  refine tq_aload_n (M := mX1_note) (pc := 0) dX1_note_0 rfl ?_
  obtain ⟨k1, ek1, hf⟩ := tq_be hf
  refine tq_getR (M := mX1_note) (pc := 1) tk_c1 (by decide) dX1_note_1 tk_RX1_35 rfl ek1 ?_
  refine tq_iload_n (M := mX1_note) (pc := 4) dX1_note_4 rfl ?_
  refine tq_bipush (M := mX1_note) (pc := 5) dX1_note_5 tk_kb_6 ?_
  refine tq_imul (M := mX1_note) (pc := 7) dX1_note_7 ?_
  refine tq_iload_n (M := mX1_note) (pc := 8) dX1_note_8 rfl ?_
  refine tq_iadd (M := mX1_note) (pc := 9) dX1_note_9 ?_
  refine tq_iload_n (M := mX1_note) (pc := 10) dX1_note_10 rfl ?_
  obtain ⟨⟨⟩, eu3, hf⟩ := tq_be hf
  obtain ⟨fsu3, eu3⟩ := tq_is_s eu3
  obtain ⟨v2, ev2, hf⟩ := tq_be hf
  refine tq_calV (M := mX1_note) (pc := 11) (S := []) tk_y_X5_set tk_v_X5_set tk_RX1_42 dX1_note_11 [.int (((a1 * (6 : Int32)) + a2)), .int a3] rfl (S0 := _) rfl eu3 rfl (Nat.le_of_ble_eq_true rfl) (d1 := d - 1) (b1 := 0) (s1 := 0) (bc' := 0) (bs' := 0) (Q1 := fun r h9 => r = .inl none ∧ v2 = h9) (by omega) rfl rfl (w_X5_set (by omega) ev2 (fun _ _ q => q)) (fun E h9 q => nomatch (show (Sum.inr E : tq_R) = Sum.inl _ from q.1)) (fun r9 h9 q => ?_)
  obtain ⟨q1, rfl⟩ := q
  cases (show (Sum.inl r9 : tq_R) = Sum.inl (none) from q1)
  refine tq_aload_n (M := mX1_note) (pc := 14) dX1_note_14 rfl ?_
  obtain ⟨k4, ek4, hf⟩ := tq_be hf
  refine tq_getR (M := mX1_note) (pc := 15) tk_c1 (by decide) dX1_note_15 tk_RX1_35 rfl ek4 ?_
  refine tq_iload_n (M := mX1_note) (pc := 18) dX1_note_18 rfl ?_
  refine tq_bipush (M := mX1_note) (pc := 19) dX1_note_19 tk_kb_6 ?_
  refine tq_imul (M := mX1_note) (pc := 21) dX1_note_21 ?_
  refine tq_iload_n (M := mX1_note) (pc := 22) dX1_note_22 rfl ?_
  refine tq_iadd (M := mX1_note) (pc := 23) dX1_note_23 ?_
  refine tq_iload_n (M := mX1_note) (pc := 24) dX1_note_24 rfl ?_
  obtain ⟨⟨⟩, eu6, hf⟩ := tq_be hf
  obtain ⟨fsu6, eu6⟩ := tq_is_s eu6
  obtain ⟨v5, ev5, hf⟩ := tq_be hf
  refine tq_calV (M := mX1_note) (pc := 25) (S := []) tk_y_X5_set tk_v_X5_set tk_RX1_42 dX1_note_25 [.int (((a2 * (6 : Int32)) + a1)), .int a3] rfl (S0 := _) rfl eu6 rfl (Nat.le_of_ble_eq_true rfl) (d1 := d - 1) (b1 := 0) (s1 := 0) (bc' := 0) (bs' := 0) (Q1 := fun r h9 => r = .inl none ∧ v5 = h9) (by omega) rfl rfl (w_X5_set (by omega) ev5 (fun _ _ q => q)) (fun E h9 q => nomatch (show (Sum.inr E : tq_R) = Sum.inl _ from q.1)) (fun r9 h9 q => ?_)
  obtain ⟨q1, rfl⟩ := q
  cases (show (Sum.inl r9 : tq_R) = Sum.inl (none) from q1)
  refine tq_vret (M := mX1_note) (pc := 28) dX1_note_28 rfl ?_
  cases (Option.some.inj hf)
  exact hQ _ _ ⟨rfl, rfl⟩
abbrev mX1_line : tq_M := (RX1, cX1_line, 6, none, false, [], none)
def f_X1_line_b2 (i0 : Nat) (i1 : Nat) (i2 : Nat) (s : Int32 × tq_H) : Option ((Int32 × tq_H) ⊕ (tq_H)) := match s with
  | (y3, hh) =>
    (tq_is hh i0 3).bind fun _ =>
    (f_X3_count i0 hh).bind fun v1 =>
    if y3 ≥ v1 then
      some (.inr hh)
    else
      (tq_is hh i0 3).bind fun _ =>
      (f_X3_depthAt i0 y3 hh).bind fun v3 =>
      tq_let ((y3 - v3)) fun x5 =>
      (tq_is hh i0 3).bind fun _ =>
      (f_X3_sizeAt i0 y3 hh).bind fun v6 =>
      tq_let (((x5 + v6) - (1 : Int32))) fun x8 =>
      (tq_is hh i0 3).bind fun _ =>
      (f_X3_nodeAt i0 y3 hh).bind fun v9 =>
      (tq_is hh i1 5).bind fun _ =>
      (f_X5_set i1 x8 v9 hh).bind fun v11 =>
      (tq_is v11 i2 5).bind fun _ =>
      (f_X5_set i2 x8 x5 v11).bind fun v13 =>
      tq_let (y3 + (1 : Int32)) fun x15 =>
      some (.inl (x15, v13))
def f_X1_line (a0 : Nat) (a1 : Nat) (a2 : Nat) (h : tq_H) : Option (tq_H) :=
  (tq_loop (f_X1_line_b2 a0 a1 a2) tq_N ((0 : Int32), h)).bind fun o16 =>
  some o16
set_option maxHeartbeats 4000000 in
theorem l_X1_line_2 {l : Launch} {d : Nat} {Q : tq_R → tq_H → Prop} {bc bs : Nat} (hd9 : 2 ≤ d) (i0 : Nat) (i1 : Nat) (i2 : Nat) : ∀ (n : Nat) (y3 : Int32) (hh : tq_H) (o : tq_H), tq_loop (f_X1_line_b2 i0 i1 i2) n (y3, hh) = some o → tq_W l mX1_line d bc bs Q 56 [] [] o → tq_W l mX1_line d bc bs Q 2 [(0, .ref i0), (1, .ref i1), (2, .ref i2), (3, .int y3)] [] hh := by
  intro n
  induction n with
  | zero => intro y3 hh o hl; cases hl
  | succ n ih =>
    intro y3 hh o hl hk
    obtain ⟨oo, hf, ho⟩ := tq_loop_s hl
    refine tq_iload_n (M := mX1_line) (pc := 2) dX1_line_2 rfl ?_
    refine tq_aload_n (M := mX1_line) (pc := 3) dX1_line_3 rfl ?_
    obtain ⟨⟨⟩, eu2, hf⟩ := tq_be hf
    obtain ⟨fsu2, eu2⟩ := tq_is_s eu2
    obtain ⟨v1, ev1, hf⟩ := tq_be hf
    refine tq_calV (M := mX1_line) (pc := 4) (S := [.int y3]) tk_y_X3_count tk_v_X3_count tk_RX1_55 dX1_line_4 [] rfl (S0 := _) rfl eu2 rfl (Nat.le_of_ble_eq_true rfl) (d1 := d - 1) (b1 := 0) (s1 := 0) (bc' := bc) (bs' := bs) (Q1 := fun r h9 => r = .inl (some (.int v1)) ∧ hh = h9) (by omega) (by omega) (by omega) (w_X3_count (by omega) ev1 (fun _ _ q => q)) (fun E h9 q => nomatch (show (Sum.inr E : tq_R) = Sum.inl _ from q.1)) (fun r9 h9 q => ?_)
    obtain ⟨q1, rfl⟩ := q
    cases (show (Sum.inl r9 : tq_R) = Sum.inl (some (.int v1)) from q1)
    refine tq_icmp_ge (M := mX1_line) (pc := 7) (tgt := 56) dX1_line_7 (by decide) (fun cc => ?_) (fun cc => ?_)
    · have hf := tq_ifp hf cc
      refine tq_pick (L2 := []) [] rfl ?_
      cases (Option.some.inj hf)
      cases (tq_lx ho)
      exact hk
    · have hf := tq_ifn hf cc
      refine tq_iload_n (M := mX1_line) (pc := 10) dX1_line_10 rfl ?_
      refine tq_aload_n (M := mX1_line) (pc := 11) dX1_line_11 rfl ?_
      refine tq_iload_n (M := mX1_line) (pc := 12) dX1_line_12 rfl ?_
      obtain ⟨⟨⟩, eu4, hf⟩ := tq_be hf
      obtain ⟨fsu4, eu4⟩ := tq_is_s eu4
      obtain ⟨v3, ev3, hf⟩ := tq_be hf
      refine tq_calV (M := mX1_line) (pc := 13) (S := [.int y3]) tk_y_X3_depthAt tk_v_X3_depthAt tk_RX1_75 dX1_line_13 [.int y3] rfl (S0 := _) rfl eu4 rfl (Nat.le_of_ble_eq_true rfl) (d1 := d - 1) (b1 := 0) (s1 := 0) (bc' := bc) (bs' := bs) (Q1 := fun r h9 => r = .inl (some (.int v3)) ∧ hh = h9) (by omega) (by omega) (by omega) (w_X3_depthAt (by omega) ev3 (fun _ _ q => q)) (fun E h9 q => nomatch (show (Sum.inr E : tq_R) = Sum.inl _ from q.1)) (fun r9 h9 q => ?_)
      obtain ⟨q1, rfl⟩ := q
      cases (show (Sum.inl r9 : tq_R) = Sum.inl (some (.int v3)) from q1)
      refine tq_isub (M := mX1_line) (pc := 16) dX1_line_16 ?_
      obtain ⟨x5, ex5, hf⟩ := tq_le hf
      refine tq_istore (M := mX1_line) (pc := 17) dX1_line_17 (L2 := [(4, .int x5), (0, .ref i0), (1, .ref i1), (2, .ref i2), (3, .int y3)]) (by decide) (by rw [ex5]; rfl) ?_
      refine tq_iload (M := mX1_line) (pc := 19) dX1_line_19 rfl ?_
      refine tq_aload_n (M := mX1_line) (pc := 21) dX1_line_21 rfl ?_
      refine tq_iload_n (M := mX1_line) (pc := 22) dX1_line_22 rfl ?_
      obtain ⟨⟨⟩, eu7, hf⟩ := tq_be hf
      obtain ⟨fsu7, eu7⟩ := tq_is_s eu7
      obtain ⟨v6, ev6, hf⟩ := tq_be hf
      refine tq_calV (M := mX1_line) (pc := 23) (S := [.int x5]) tk_y_X3_sizeAt tk_v_X3_sizeAt tk_RX1_78 dX1_line_23 [.int y3] rfl (S0 := _) rfl eu7 rfl (Nat.le_of_ble_eq_true rfl) (d1 := d - 1) (b1 := 0) (s1 := 0) (bc' := bc) (bs' := bs) (Q1 := fun r h9 => r = .inl (some (.int v6)) ∧ hh = h9) (by omega) (by omega) (by omega) (w_X3_sizeAt (by omega) ev6 (fun _ _ q => q)) (fun E h9 q => nomatch (show (Sum.inr E : tq_R) = Sum.inl _ from q.1)) (fun r9 h9 q => ?_)
      obtain ⟨q1, rfl⟩ := q
      cases (show (Sum.inl r9 : tq_R) = Sum.inl (some (.int v6)) from q1)
      refine tq_iadd (M := mX1_line) (pc := 26) dX1_line_26 ?_
      refine tq_iconst (M := mX1_line) (pc := 27) dX1_line_27 tk_ki_1 ?_
      refine tq_isub (M := mX1_line) (pc := 28) dX1_line_28 ?_
      obtain ⟨x8, ex8, hf⟩ := tq_le hf
      refine tq_istore (M := mX1_line) (pc := 29) dX1_line_29 (L2 := [(5, .int x8), (4, .int x5), (0, .ref i0), (1, .ref i1), (2, .ref i2), (3, .int y3)]) (by decide) (by rw [ex8]; rfl) ?_
      refine tq_aload_n (M := mX1_line) (pc := 31) dX1_line_31 rfl ?_
      refine tq_iload (M := mX1_line) (pc := 32) dX1_line_32 rfl ?_
      refine tq_aload_n (M := mX1_line) (pc := 34) dX1_line_34 rfl ?_
      refine tq_iload_n (M := mX1_line) (pc := 35) dX1_line_35 rfl ?_
      obtain ⟨⟨⟩, eu10, hf⟩ := tq_be hf
      obtain ⟨fsu10, eu10⟩ := tq_is_s eu10
      obtain ⟨v9, ev9, hf⟩ := tq_be hf
      refine tq_calV (M := mX1_line) (pc := 36) (S := [.int x8, .ref i1]) tk_y_X3_nodeAt tk_v_X3_nodeAt tk_RX1_81 dX1_line_36 [.int y3] rfl (S0 := _) rfl eu10 rfl (Nat.le_of_ble_eq_true rfl) (d1 := d - 1) (b1 := 0) (s1 := 0) (bc' := bc) (bs' := bs) (Q1 := fun r h9 => r = .inl (some (.int v9)) ∧ hh = h9) (by omega) (by omega) (by omega) (w_X3_nodeAt (by omega) ev9 (fun _ _ q => q)) (fun E h9 q => nomatch (show (Sum.inr E : tq_R) = Sum.inl _ from q.1)) (fun r9 h9 q => ?_)
      obtain ⟨q1, rfl⟩ := q
      cases (show (Sum.inl r9 : tq_R) = Sum.inl (some (.int v9)) from q1)
      obtain ⟨⟨⟩, eu12, hf⟩ := tq_be hf
      obtain ⟨fsu12, eu12⟩ := tq_is_s eu12
      obtain ⟨v11, ev11, hf⟩ := tq_be hf
      refine tq_calV (M := mX1_line) (pc := 39) (S := []) tk_y_X5_set tk_v_X5_set tk_RX1_42 dX1_line_39 [.int x8, .int v9] rfl (S0 := _) rfl eu12 rfl (Nat.le_of_ble_eq_true rfl) (d1 := d - 1) (b1 := 0) (s1 := 0) (bc' := bc) (bs' := bs) (Q1 := fun r h9 => r = .inl none ∧ v11 = h9) (by omega) (by omega) (by omega) (w_X5_set (by omega) ev11 (fun _ _ q => q)) (fun E h9 q => nomatch (show (Sum.inr E : tq_R) = Sum.inl _ from q.1)) (fun r9 h9 q => ?_)
      obtain ⟨q1, rfl⟩ := q
      cases (show (Sum.inl r9 : tq_R) = Sum.inl (none) from q1)
      refine tq_aload_n (M := mX1_line) (pc := 42) dX1_line_42 rfl ?_
      refine tq_iload (M := mX1_line) (pc := 43) dX1_line_43 rfl ?_
      refine tq_iload (M := mX1_line) (pc := 45) dX1_line_45 rfl ?_
      obtain ⟨⟨⟩, eu14, hf⟩ := tq_be hf
      obtain ⟨fsu14, eu14⟩ := tq_is_s eu14
      obtain ⟨v13, ev13, hf⟩ := tq_be hf
      refine tq_calV (M := mX1_line) (pc := 47) (S := []) tk_y_X5_set tk_v_X5_set tk_RX1_42 dX1_line_47 [.int x8, .int x5] rfl (S0 := _) rfl eu14 rfl (Nat.le_of_ble_eq_true rfl) (d1 := d - 1) (b1 := 0) (s1 := 0) (bc' := bc) (bs' := bs) (Q1 := fun r h9 => r = .inl none ∧ v13 = h9) (by omega) (by omega) (by omega) (w_X5_set (by omega) ev13 (fun _ _ q => q)) (fun E h9 q => nomatch (show (Sum.inr E : tq_R) = Sum.inl _ from q.1)) (fun r9 h9 q => ?_)
      obtain ⟨q1, rfl⟩ := q
      cases (show (Sum.inl r9 : tq_R) = Sum.inl (none) from q1)
      obtain ⟨x15, ex15, hf⟩ := tq_le hf
      refine tq_iinc (M := mX1_line) (pc := 50) (v := x15) (L2 := [(3, .int x15), (5, .int x8), (4, .int x5), (0, .ref i0), (1, .ref i1), (2, .ref i2)]) dX1_line_50 rfl (by rw [ex15, tk_ki_1]) (by decide) rfl ?_
      refine tq_goto (M := mX1_line) (pc := 53) (tgt := 2) dX1_line_53 (by decide) ?_
      refine tq_pick (L2 := [(0, .ref i0), (1, .ref i1), (2, .ref i2), (3, .int x15)]) [3, 4, 5, 0] rfl ?_
      cases (Option.some.inj hf)
      exact ih _ _ o (tq_lc ho) hk
set_option maxHeartbeats 4000000 in
set_option maxRecDepth 20000 in
theorem w_X1_line {l : Launch} {d : Nat} (hd9 : 2 ≤ d) {a0 : Nat} {a1 : Nat} {a2 : Nat} {h : tq_H} {o : tq_H} {Q : tq_R → tq_H → Prop} (hf : f_X1_line a0 a1 a2 h = some o) (hQ : ∀ r h9, r = .inl none ∧ o = h9 → Q r h9) : tq_C l yX1_line cX1_line 6 none d 0 0 [.ref a0, .ref a1, .ref a2] h Q := by
  refine tq_body (y := yX1_line) false (by decide +kernel) (fun z => by cases z) (Nat.le_of_ble_eq_true rfl) ?_
  show tq_W l mX1_line d 0 0 Q 0 [(0, .ref a0), (1, .ref a1), (2, .ref a2)] [] h
  refine tq_iconst (M := mX1_line) (pc := 0) dX1_line_0 tk_ki_0 ?_
  refine tq_istore_n (M := mX1_line) (pc := 1) rfl dX1_line_1 (L2 := [(3, .int (0 : Int32)), (0, .ref a0), (1, .ref a1), (2, .ref a2)]) (by decide) rfl ?_
  obtain ⟨o16, eo16, hf⟩ := tq_be hf
  refine tq_pick (L2 := [(0, .ref a0), (1, .ref a1), (2, .ref a2), (3, .int (0 : Int32))]) [1, 2, 3, 0] rfl ?_
  refine l_X1_line_2 (bc := 0) (bs := 0) (by omega) a0 a1 a2 _ (0 : Int32) h _ eo16 ?_
  refine tq_vret (M := mX1_line) (pc := 56) dX1_line_56 rfl ?_
  cases (Option.some.inj hf)
  exact hQ _ _ ⟨rfl, rfl⟩
abbrev mX1_outermost : tq_M := (RX1, cX1_outermost, 7, (some .long), false, [], none)
def f_X1_outermost_b10 (i0 : Nat) (hh : tq_H) (s : Int64 × Int64 × Int32) : Option ((Int64 × Int64 × Int32) ⊕ (Int64)) := match s with
  | (y2, y4, y6) =>
    if y6 < 0 then
      some (.inr y2)
    else
      (tq_is hh i0 5).bind fun _ =>
      (f_X5_get i0 y6 hh).bind fun v2 =>
      (f_X0_holds y4 v2 hh).bind fun v4 =>
      (if v4 = 0 then
        (f_X0_one y6 hh).bind fun v5 =>
        tq_let ((y2 ||| v5)) fun x6 =>
        some x6
      else
        some y2).bind fun p7 =>
      (tq_is hh i0 5).bind fun _ =>
      (f_X5_get i0 y6 hh).bind fun v8 =>
      (f_X0_one v8 hh).bind fun v10 =>
      tq_let ((y4 ||| v10)) fun x11 =>
      tq_let (y6 + (-1 : Int32)) fun x12 =>
      some (.inl (p7, x11, x12))
def f_X1_outermost (a0 : Nat) (a1 : Int32) (h : tq_H) : Option (Int64) :=
  tq_let ((a1 - (1 : Int32))) fun x1 =>
  (tq_loop (f_X1_outermost_b10 a0 h) tq_N ((0 : Int64), (0 : Int64), x1)).bind fun o13 =>
  some o13
set_option maxHeartbeats 4000000 in
theorem l_X1_outermost_10 {l : Launch} {d : Nat} {Q : tq_R → tq_H → Prop} {bc bs : Nat} (hd9 : 1 ≤ d) (i0 : Nat) (hh : tq_H) : ∀ (n : Nat) (y2 : Int64) (y4 : Int64) (y6 : Int32) (o : Int64), tq_loop (f_X1_outermost_b10 i0 hh) n (y2, y4, y6) = some o → tq_W l mX1_outermost d bc bs Q 57 [(2, .long o)] [] hh → tq_W l mX1_outermost d bc bs Q 10 [(0, .ref i0), (2, .long y2), (4, .long y4), (6, .int y6)] [] hh := by
  intro n
  induction n with
  | zero => intro y2 y4 y6 o hl; cases hl
  | succ n ih =>
    intro y2 y4 y6 o hl hk
    obtain ⟨oo, hf, ho⟩ := tq_loop_s hl
    refine tq_iload (M := mX1_outermost) (pc := 10) dX1_outermost_10 rfl ?_
    refine tq_if_lt (M := mX1_outermost) (pc := 12) (tgt := 57) dX1_outermost_12 (by decide) (fun cc => ?_) (fun cc => ?_)
    · have hf := tq_ifp hf cc
      refine tq_pick (L2 := [(2, .long y2)]) [1] rfl ?_
      cases (Option.some.inj hf)
      cases (tq_lx ho)
      exact hk
    · have hf := tq_ifn hf cc
      refine tq_lload (M := mX1_outermost) (pc := 15) dX1_outermost_15 rfl ?_
      refine tq_aload_n (M := mX1_outermost) (pc := 17) dX1_outermost_17 rfl ?_
      refine tq_iload (M := mX1_outermost) (pc := 18) dX1_outermost_18 rfl ?_
      obtain ⟨⟨⟩, eu3, hf⟩ := tq_be hf
      obtain ⟨fsu3, eu3⟩ := tq_is_s eu3
      obtain ⟨v2, ev2, hf⟩ := tq_be hf
      refine tq_calV (M := mX1_outermost) (pc := 20) (S := [.long y4]) tk_y_X5_get tk_v_X5_get tk_RX1_38 dX1_outermost_20 [.int y6] rfl (S0 := _) rfl eu3 rfl (Nat.le_of_ble_eq_true rfl) (d1 := d - 1) (b1 := 0) (s1 := 0) (bc' := bc) (bs' := bs) (Q1 := fun r h9 => r = .inl (some (.int v2)) ∧ hh = h9) (by omega) (by omega) (by omega) (w_X5_get (by omega) ev2 (fun _ _ q => q)) (fun E h9 q => nomatch (show (Sum.inr E : tq_R) = Sum.inl _ from q.1)) (fun r9 h9 q => ?_)
      obtain ⟨q1, rfl⟩ := q
      cases (show (Sum.inl r9 : tq_R) = Sum.inl (some (.int v2)) from q1)
      obtain ⟨v4, ev4, hf⟩ := tq_be hf
      refine tq_calS (M := mX1_outermost) (pc := 23) (S := []) tk_y_X0_holds tk_s_X0_holds tk_RX1_65 dX1_outermost_23 [.long y4, .int v2] rfl (Nat.le_of_ble_eq_true rfl) (d1 := d - 1) (b1 := 0) (s1 := 0) (bc' := bc) (bs' := bs) (Q1 := fun r h9 => r = .inl (some (.int v4)) ∧ hh = h9) (by omega) (by omega) (by omega) (w_X0_holds (by omega) ev4 (fun _ _ q => q)) (fun E h9 q => nomatch (show (Sum.inr E : tq_R) = Sum.inl _ from q.1)) (fun r9 h9 q => ?_)
      obtain ⟨q1, rfl⟩ := q
      cases (show (Sum.inl r9 : tq_R) = Sum.inl (some (.int v4)) from q1)
      obtain ⟨p7, ep7, hf⟩ := tq_be hf
      have HJ26 : tq_W l mX1_outermost d bc bs Q 37 [(0, .ref i0), (2, .long p7), (4, .long y4), (6, .int y6)] [] hh := by
        refine tq_lload (M := mX1_outermost) (pc := 37) dX1_outermost_37 rfl ?_
        refine tq_aload_n (M := mX1_outermost) (pc := 39) dX1_outermost_39 rfl ?_
        refine tq_iload (M := mX1_outermost) (pc := 40) dX1_outermost_40 rfl ?_
        obtain ⟨⟨⟩, eu9, hf⟩ := tq_be hf
        obtain ⟨fsu9, eu9⟩ := tq_is_s eu9
        obtain ⟨v8, ev8, hf⟩ := tq_be hf
        refine tq_calV (M := mX1_outermost) (pc := 42) (S := [.long y4]) tk_y_X5_get tk_v_X5_get tk_RX1_38 dX1_outermost_42 [.int y6] rfl (S0 := _) rfl eu9 rfl (Nat.le_of_ble_eq_true rfl) (d1 := d - 1) (b1 := 0) (s1 := 0) (bc' := bc) (bs' := bs) (Q1 := fun r h9 => r = .inl (some (.int v8)) ∧ hh = h9) (by omega) (by omega) (by omega) (w_X5_get (by omega) ev8 (fun _ _ q => q)) (fun E h9 q => nomatch (show (Sum.inr E : tq_R) = Sum.inl _ from q.1)) (fun r9 h9 q => ?_)
        obtain ⟨q1, rfl⟩ := q
        cases (show (Sum.inl r9 : tq_R) = Sum.inl (some (.int v8)) from q1)
        obtain ⟨v10, ev10, hf⟩ := tq_be hf
        refine tq_calS (M := mX1_outermost) (pc := 45) (S := [.long y4]) tk_y_X0_one tk_s_X0_one tk_RX1_84 dX1_outermost_45 [.int v8] rfl (Nat.le_of_ble_eq_true rfl) (d1 := d - 1) (b1 := 0) (s1 := 0) (bc' := bc) (bs' := bs) (Q1 := fun r h9 => r = .inl (some (.long v10)) ∧ hh = h9) (by omega) (by omega) (by omega) (w_X0_one (by omega) ev10 (fun _ _ q => q)) (fun E h9 q => nomatch (show (Sum.inr E : tq_R) = Sum.inl _ from q.1)) (fun r9 h9 q => ?_)
        obtain ⟨q1, rfl⟩ := q
        cases (show (Sum.inl r9 : tq_R) = Sum.inl (some (.long v10)) from q1)
        refine tq_lor (M := mX1_outermost) (pc := 48) dX1_outermost_48 ?_
        obtain ⟨x11, ex11, hf⟩ := tq_le hf
        refine tq_lstore (M := mX1_outermost) (pc := 49) dX1_outermost_49 (L2 := [(4, .long x11), (0, .ref i0), (2, .long p7), (6, .int y6)]) (by decide) (by rw [ex11]; rfl) ?_
        obtain ⟨x12, ex12, hf⟩ := tq_le hf
        refine tq_iinc (M := mX1_outermost) (pc := 51) (v := x12) (L2 := [(6, .int x12), (4, .long x11), (0, .ref i0), (2, .long p7)]) dX1_outermost_51 rfl (by rw [ex12, tk_ki_m1]) (by decide) rfl ?_
        refine tq_goto (M := mX1_outermost) (pc := 54) (tgt := 10) dX1_outermost_54 (by decide) ?_
        refine tq_pick (L2 := [(0, .ref i0), (2, .long p7), (4, .long x11), (6, .int x12)]) [2, 3, 1, 0] rfl ?_
        cases (Option.some.inj hf)
        exact ih _ _ _ o (tq_lc ho) hk
      refine tq_if_ne (M := mX1_outermost) (pc := 26) (tgt := 37) dX1_outermost_26 (by decide) (fun cc => ?_) (fun cc => ?_)
      · have hf := tq_ifn ep7 cc
        cases (Option.some.inj hf)
        exact HJ26
      · have hf := tq_ifp ep7 cc
        refine tq_lload_n (M := mX1_outermost) (pc := 29) dX1_outermost_29 rfl ?_
        refine tq_iload (M := mX1_outermost) (pc := 30) dX1_outermost_30 rfl ?_
        obtain ⟨v5, ev5, hf⟩ := tq_be hf
        refine tq_calS (M := mX1_outermost) (pc := 32) (S := [.long y2]) tk_y_X0_one tk_s_X0_one tk_RX1_84 dX1_outermost_32 [.int y6] rfl (Nat.le_of_ble_eq_true rfl) (d1 := d - 1) (b1 := 0) (s1 := 0) (bc' := bc) (bs' := bs) (Q1 := fun r h9 => r = .inl (some (.long v5)) ∧ hh = h9) (by omega) (by omega) (by omega) (w_X0_one (by omega) ev5 (fun _ _ q => q)) (fun E h9 q => nomatch (show (Sum.inr E : tq_R) = Sum.inl _ from q.1)) (fun r9 h9 q => ?_)
        obtain ⟨q1, rfl⟩ := q
        cases (show (Sum.inl r9 : tq_R) = Sum.inl (some (.long v5)) from q1)
        refine tq_lor (M := mX1_outermost) (pc := 35) dX1_outermost_35 ?_
        obtain ⟨x6, ex6, hf⟩ := tq_le hf
        refine tq_lstore_n (M := mX1_outermost) (pc := 36) rfl dX1_outermost_36 (L2 := [(2, .long x6), (0, .ref i0), (4, .long y4), (6, .int y6)]) (by decide) (by rw [ex6]; rfl) ?_
        refine tq_pick (L2 := [(0, .ref i0), (2, .long x6), (4, .long y4), (6, .int y6)]) [1, 0, 2, 3] rfl ?_
        cases (Option.some.inj hf)
        exact HJ26
set_option maxHeartbeats 4000000 in
set_option maxRecDepth 20000 in
theorem w_X1_outermost {l : Launch} {d : Nat} (hd9 : 1 ≤ d) {a0 : Nat} {a1 : Int32} {h : tq_H} {o : Int64} {Q : tq_R → tq_H → Prop} (hf : f_X1_outermost a0 a1 h = some o) (hQ : ∀ r h9, r = .inl (some (.long o)) ∧ h = h9 → Q r h9) : tq_C l yX1_outermost cX1_outermost 7 (some .long) d 0 0 [.ref a0, .int a1] h Q := by
  refine tq_body (y := yX1_outermost) false (by decide +kernel) (fun z => by cases z) (Nat.le_of_ble_eq_true rfl) ?_
  show tq_W l mX1_outermost d 0 0 Q 0 [(0, .ref a0), (1, .int a1)] [] h
  refine tq_lconst (M := mX1_outermost) (pc := 0) dX1_outermost_0 tk_kl_0 ?_
  refine tq_lstore_n (M := mX1_outermost) (pc := 1) rfl dX1_outermost_1 (L2 := [(2, .long (0 : Int64)), (0, .ref a0), (1, .int a1)]) (by decide) rfl ?_
  refine tq_lconst (M := mX1_outermost) (pc := 2) dX1_outermost_2 tk_kl_0 ?_
  refine tq_lstore (M := mX1_outermost) (pc := 3) dX1_outermost_3 (L2 := [(4, .long (0 : Int64)), (2, .long (0 : Int64)), (0, .ref a0), (1, .int a1)]) (by decide) rfl ?_
  refine tq_iload_n (M := mX1_outermost) (pc := 5) dX1_outermost_5 rfl ?_
  refine tq_iconst (M := mX1_outermost) (pc := 6) dX1_outermost_6 tk_ki_1 ?_
  refine tq_isub (M := mX1_outermost) (pc := 7) dX1_outermost_7 ?_
  obtain ⟨x1, ex1, hf⟩ := tq_le hf
  refine tq_istore (M := mX1_outermost) (pc := 8) dX1_outermost_8 (L2 := [(6, .int x1), (4, .long (0 : Int64)), (2, .long (0 : Int64)), (0, .ref a0), (1, .int a1)]) (by decide) (by rw [ex1]; rfl) ?_
  obtain ⟨o13, eo13, hf⟩ := tq_be hf
  refine tq_pick (L2 := [(0, .ref a0), (2, .long (0 : Int64)), (4, .long (0 : Int64)), (6, .int x1)]) [3, 2, 1, 0] rfl ?_
  refine l_X1_outermost_10 (bc := 0) (bs := 0) (by omega) a0 h _ (0 : Int64) (0 : Int64) x1 _ eo13 ?_
  refine tq_lload_n (M := mX1_outermost) (pc := 57) dX1_outermost_57 rfl ?_
  refine tq_lret (M := mX1_outermost) (pc := 58) dX1_outermost_58 rfl ?_
  cases (Option.some.inj hf)
  exact hQ _ _ ⟨rfl, rfl⟩
abbrev mX1_compareForests : tq_M := (RX1, cX1_compareForests, 10, none, false, [], none)
def f_X1_compareForests (t : Nat) (a1 : Int32) (a2 : Int32) (a3 : Int32) (a4 : Int32) (a5 : Int32) (h : tq_H) : Option (tq_H) :=
  tq_let (((a1 - a2) + (1 : Int32))) fun x1 =>
  tq_let (((a3 - a4) + (1 : Int32))) fun x2 =>
  (tq_gr h t 1 5).bind fun k3 =>
  (tq_is h k3 5).bind fun _ =>
  (f_X5_get k3 (((x1 - (1 : Int32)) * (61 : Int32)) + x2) h).bind fun v4 =>
  (tq_gr h t 1 5).bind fun k6 =>
  (tq_is h k6 5).bind fun _ =>
  (f_X5_get k6 (((x1 * (61 : Int32)) + x2) - (1 : Int32)) h).bind fun v7 =>
  tq_let (((if v7 < v4 then v7 else v4) + (1 : Int32))) fun x9 =>
  (tq_gr h t 1 1).bind fun k10 =>
  (tq_is h k10 5).bind fun _ =>
  (f_X5_get k10 a1 h).bind fun v11 =>
  (if v11 = a2 then
    (tq_gr h t 1 3).bind fun k26 =>
    (tq_is h k26 5).bind fun _ =>
    (f_X5_get k26 a3 h).bind fun v27 =>
    if v27 = a4 then
      (tq_gr h t 1 5).bind fun k42 =>
      (tq_is h k42 5).bind fun _ =>
      (f_X5_get k42 ((((x1 - (1 : Int32)) * (61 : Int32)) + x2) - (1 : Int32)) h).bind fun v43 =>
      tq_let ((if (v43 + a5) < x9 then (v43 + a5) else x9)) fun x45 =>
      (tq_gr h t 1 4).bind fun k46 =>
      (tq_is h k46 5).bind fun _ =>
      (f_X5_set k46 ((a1 * (61 : Int32)) + a3) x45 h).bind fun v47 =>
      some (x45, v47)
    else
      (tq_gr h t 1 5).bind fun k29 =>
      (tq_gr h t 1 1).bind fun k30 =>
      (tq_is h k30 5).bind fun _ =>
      (f_X5_get k30 a1 h).bind fun v31 =>
      (tq_gr h t 1 3).bind fun k33 =>
      (tq_is h k33 5).bind fun _ =>
      (f_X5_get k33 a3 h).bind fun v34 =>
      (tq_is h k29 5).bind fun _ =>
      (f_X5_get k29 ((((v31 - a2) * (61 : Int32)) + v34) - a4) h).bind fun v36 =>
      (tq_gr h t 1 4).bind fun k38 =>
      (tq_is h k38 5).bind fun _ =>
      (f_X5_get k38 ((a1 * (61 : Int32)) + a3) h).bind fun v39 =>
      tq_let ((if (v36 + v39) < x9 then (v36 + v39) else x9)) fun x41 =>
      some (x41, h)
  else
    (tq_gr h t 1 5).bind fun k13 =>
    (tq_gr h t 1 1).bind fun k14 =>
    (tq_is h k14 5).bind fun _ =>
    (f_X5_get k14 a1 h).bind fun v15 =>
    (tq_gr h t 1 3).bind fun k17 =>
    (tq_is h k17 5).bind fun _ =>
    (f_X5_get k17 a3 h).bind fun v18 =>
    (tq_is h k13 5).bind fun _ =>
    (f_X5_get k13 ((((v15 - a2) * (61 : Int32)) + v18) - a4) h).bind fun v20 =>
    (tq_gr h t 1 4).bind fun k22 =>
    (tq_is h k22 5).bind fun _ =>
    (f_X5_get k22 ((a1 * (61 : Int32)) + a3) h).bind fun v23 =>
    tq_let ((if (v20 + v23) < x9 then (v20 + v23) else x9)) fun x25 =>
    some (x25, h)).bind fun p49 =>
  (tq_gr p49.2 t 1 5).bind fun k50 =>
  (tq_is p49.2 k50 5).bind fun _ =>
  (f_X5_set k50 ((x1 * (61 : Int32)) + x2) p49.1 p49.2).bind fun v51 =>
  some v51
set_option maxHeartbeats 4000000 in
set_option maxRecDepth 20000 in
theorem w_X1_compareForests {l : Launch} {d : Nat} (hd9 : 1 ≤ d) {t : Nat} {a1 : Int32} {a2 : Int32} {a3 : Int32} {a4 : Int32} {a5 : Int32} {h : tq_H} {o : tq_H} {Q : tq_R → tq_H → Prop} (hf : f_X1_compareForests t a1 a2 a3 a4 a5 h = some o) (hQ : ∀ r h9, r = .inl none ∧ o = h9 → Q r h9) : tq_C l yX1_compareForests cX1_compareForests 10 none d 0 0 [.ref t, .int a1, .int a2, .int a3, .int a4, .int a5] h Q := by
  refine tq_body (y := yX1_compareForests) false (by decide +kernel) (fun z => by cases z) (Nat.le_of_ble_eq_true rfl) ?_
  show tq_W l mX1_compareForests d 0 0 Q 0 [(0, .ref t), (1, .int a1), (2, .int a2), (3, .int a3), (4, .int a4), (5, .int a5)] [] h
  refine tq_iload_n (M := mX1_compareForests) (pc := 0) dX1_compareForests_0 rfl ?_
  refine tq_iload_n (M := mX1_compareForests) (pc := 1) dX1_compareForests_1 rfl ?_
  refine tq_isub (M := mX1_compareForests) (pc := 2) dX1_compareForests_2 ?_
  refine tq_iconst (M := mX1_compareForests) (pc := 3) dX1_compareForests_3 tk_ki_1 ?_
  refine tq_iadd (M := mX1_compareForests) (pc := 4) dX1_compareForests_4 ?_
  obtain ⟨x1, ex1, hf⟩ := tq_le hf
  refine tq_istore (M := mX1_compareForests) (pc := 5) dX1_compareForests_5 (L2 := [(6, .int x1), (0, .ref t), (1, .int a1), (2, .int a2), (3, .int a3), (4, .int a4), (5, .int a5)]) (by decide) (by rw [ex1]; rfl) ?_
  refine tq_iload_n (M := mX1_compareForests) (pc := 7) dX1_compareForests_7 rfl ?_
  refine tq_iload (M := mX1_compareForests) (pc := 8) dX1_compareForests_8 rfl ?_
  refine tq_isub (M := mX1_compareForests) (pc := 10) dX1_compareForests_10 ?_
  refine tq_iconst (M := mX1_compareForests) (pc := 11) dX1_compareForests_11 tk_ki_1 ?_
  refine tq_iadd (M := mX1_compareForests) (pc := 12) dX1_compareForests_12 ?_
  obtain ⟨x2, ex2, hf⟩ := tq_le hf
  refine tq_istore (M := mX1_compareForests) (pc := 13) dX1_compareForests_13 (L2 := [(7, .int x2), (6, .int x1), (0, .ref t), (1, .int a1), (2, .int a2), (3, .int a3), (4, .int a4), (5, .int a5)]) (by decide) (by rw [ex2]; rfl) ?_
  refine tq_aload_n (M := mX1_compareForests) (pc := 15) dX1_compareForests_15 rfl ?_
  obtain ⟨k3, ek3, hf⟩ := tq_be hf
  refine tq_getR (M := mX1_compareForests) (pc := 16) tk_c1 (by decide) dX1_compareForests_16 tk_RX1_32 rfl ek3 ?_
  refine tq_iload (M := mX1_compareForests) (pc := 19) dX1_compareForests_19 rfl ?_
  refine tq_iconst (M := mX1_compareForests) (pc := 21) dX1_compareForests_21 tk_ki_1 ?_
  refine tq_isub (M := mX1_compareForests) (pc := 22) dX1_compareForests_22 ?_
  refine tq_bipush (M := mX1_compareForests) (pc := 23) dX1_compareForests_23 tk_kb_61 ?_
  refine tq_imul (M := mX1_compareForests) (pc := 25) dX1_compareForests_25 ?_
  refine tq_iload (M := mX1_compareForests) (pc := 26) dX1_compareForests_26 rfl ?_
  refine tq_iadd (M := mX1_compareForests) (pc := 28) dX1_compareForests_28 ?_
  obtain ⟨⟨⟩, eu5, hf⟩ := tq_be hf
  obtain ⟨fsu5, eu5⟩ := tq_is_s eu5
  obtain ⟨v4, ev4, hf⟩ := tq_be hf
  refine tq_calV (M := mX1_compareForests) (pc := 29) (S := []) tk_y_X5_get tk_v_X5_get tk_RX1_38 dX1_compareForests_29 [.int ((((x1 - (1 : Int32)) * (61 : Int32)) + x2))] rfl (S0 := _) rfl eu5 rfl (Nat.le_of_ble_eq_true rfl) (d1 := d - 1) (b1 := 0) (s1 := 0) (bc' := 0) (bs' := 0) (Q1 := fun r h9 => r = .inl (some (.int v4)) ∧ h = h9) (by omega) rfl rfl (w_X5_get (by omega) ev4 (fun _ _ q => q)) (fun E h9 q => nomatch (show (Sum.inr E : tq_R) = Sum.inl _ from q.1)) (fun r9 h9 q => ?_)
  obtain ⟨q1, rfl⟩ := q
  cases (show (Sum.inl r9 : tq_R) = Sum.inl (some (.int v4)) from q1)
  refine tq_aload_n (M := mX1_compareForests) (pc := 32) dX1_compareForests_32 rfl ?_
  obtain ⟨k6, ek6, hf⟩ := tq_be hf
  refine tq_getR (M := mX1_compareForests) (pc := 33) tk_c1 (by decide) dX1_compareForests_33 tk_RX1_32 rfl ek6 ?_
  refine tq_iload (M := mX1_compareForests) (pc := 36) dX1_compareForests_36 rfl ?_
  refine tq_bipush (M := mX1_compareForests) (pc := 38) dX1_compareForests_38 tk_kb_61 ?_
  refine tq_imul (M := mX1_compareForests) (pc := 40) dX1_compareForests_40 ?_
  refine tq_iload (M := mX1_compareForests) (pc := 41) dX1_compareForests_41 rfl ?_
  refine tq_iadd (M := mX1_compareForests) (pc := 43) dX1_compareForests_43 ?_
  refine tq_iconst (M := mX1_compareForests) (pc := 44) dX1_compareForests_44 tk_ki_1 ?_
  refine tq_isub (M := mX1_compareForests) (pc := 45) dX1_compareForests_45 ?_
  obtain ⟨⟨⟩, eu8, hf⟩ := tq_be hf
  obtain ⟨fsu8, eu8⟩ := tq_is_s eu8
  obtain ⟨v7, ev7, hf⟩ := tq_be hf
  refine tq_calV (M := mX1_compareForests) (pc := 46) (S := [.int v4]) tk_y_X5_get tk_v_X5_get tk_RX1_38 dX1_compareForests_46 [.int ((((x1 * (61 : Int32)) + x2) - (1 : Int32)))] rfl (S0 := _) rfl eu8 rfl (Nat.le_of_ble_eq_true rfl) (d1 := d - 1) (b1 := 0) (s1 := 0) (bc' := 0) (bs' := 0) (Q1 := fun r h9 => r = .inl (some (.int v7)) ∧ h = h9) (by omega) rfl rfl (w_X5_get (by omega) ev7 (fun _ _ q => q)) (fun E h9 q => nomatch (show (Sum.inr E : tq_R) = Sum.inl _ from q.1)) (fun r9 h9 q => ?_)
  obtain ⟨q1, rfl⟩ := q
  cases (show (Sum.inl r9 : tq_R) = Sum.inl (some (.int v7)) from q1)
  refine tq_mmin (M := mX1_compareForests) (pc := 49) 96 dX1_compareForests_49 tk_RX1_96 tk_min_s tk_math tk_min_c (by omega) (Nat.le_of_ble_eq_true rfl) ?_
  refine tq_iconst (M := mX1_compareForests) (pc := 52) dX1_compareForests_52 tk_ki_1 ?_
  refine tq_iadd (M := mX1_compareForests) (pc := 53) dX1_compareForests_53 ?_
  obtain ⟨x9, ex9, hf⟩ := tq_le hf
  refine tq_istore (M := mX1_compareForests) (pc := 54) dX1_compareForests_54 (L2 := [(8, .int x9), (7, .int x2), (6, .int x1), (0, .ref t), (1, .int a1), (2, .int a2), (3, .int a3), (4, .int a4), (5, .int a5)]) (by decide) (by rw [ex9]; rfl) ?_
  refine tq_aload_n (M := mX1_compareForests) (pc := 56) dX1_compareForests_56 rfl ?_
  obtain ⟨k10, ek10, hf⟩ := tq_be hf
  refine tq_getR (M := mX1_compareForests) (pc := 57) tk_c1 (by decide) dX1_compareForests_57 tk_RX1_20 rfl ek10 ?_
  refine tq_iload_n (M := mX1_compareForests) (pc := 60) dX1_compareForests_60 rfl ?_
  obtain ⟨⟨⟩, eu12, hf⟩ := tq_be hf
  obtain ⟨fsu12, eu12⟩ := tq_is_s eu12
  obtain ⟨v11, ev11, hf⟩ := tq_be hf
  refine tq_calV (M := mX1_compareForests) (pc := 61) (S := []) tk_y_X5_get tk_v_X5_get tk_RX1_38 dX1_compareForests_61 [.int a1] rfl (S0 := _) rfl eu12 rfl (Nat.le_of_ble_eq_true rfl) (d1 := d - 1) (b1 := 0) (s1 := 0) (bc' := 0) (bs' := 0) (Q1 := fun r h9 => r = .inl (some (.int v11)) ∧ h = h9) (by omega) rfl rfl (w_X5_get (by omega) ev11 (fun _ _ q => q)) (fun E h9 q => nomatch (show (Sum.inr E : tq_R) = Sum.inl _ from q.1)) (fun r9 h9 q => ?_)
  obtain ⟨q1, rfl⟩ := q
  cases (show (Sum.inl r9 : tq_R) = Sum.inl (some (.int v11)) from q1)
  refine tq_iload_n (M := mX1_compareForests) (pc := 64) dX1_compareForests_64 rfl ?_
  obtain ⟨p49, ep49, hf⟩ := tq_be hf
  have HJ65 : tq_W l mX1_compareForests d 0 0 Q 185 [(0, .ref t), (6, .int x1), (7, .int x2), (8, .int p49.1)] [] p49.2 := by
    refine tq_aload_n (M := mX1_compareForests) (pc := 185) dX1_compareForests_185 rfl ?_
    obtain ⟨k50, ek50, hf⟩ := tq_be hf
    refine tq_getR (M := mX1_compareForests) (pc := 186) tk_c1 (by decide) dX1_compareForests_186 tk_RX1_32 rfl ek50 ?_
    refine tq_iload (M := mX1_compareForests) (pc := 189) dX1_compareForests_189 rfl ?_
    refine tq_bipush (M := mX1_compareForests) (pc := 191) dX1_compareForests_191 tk_kb_61 ?_
    refine tq_imul (M := mX1_compareForests) (pc := 193) dX1_compareForests_193 ?_
    refine tq_iload (M := mX1_compareForests) (pc := 194) dX1_compareForests_194 rfl ?_
    refine tq_iadd (M := mX1_compareForests) (pc := 196) dX1_compareForests_196 ?_
    refine tq_iload (M := mX1_compareForests) (pc := 197) dX1_compareForests_197 rfl ?_
    obtain ⟨⟨⟩, eu52, hf⟩ := tq_be hf
    obtain ⟨fsu52, eu52⟩ := tq_is_s eu52
    obtain ⟨v51, ev51, hf⟩ := tq_be hf
    refine tq_calV (M := mX1_compareForests) (pc := 199) (S := []) tk_y_X5_set tk_v_X5_set tk_RX1_42 dX1_compareForests_199 [.int (((x1 * (61 : Int32)) + x2)), .int p49.1] rfl (S0 := _) rfl eu52 rfl (Nat.le_of_ble_eq_true rfl) (d1 := d - 1) (b1 := 0) (s1 := 0) (bc' := 0) (bs' := 0) (Q1 := fun r h9 => r = .inl none ∧ v51 = h9) (by omega) rfl rfl (w_X5_set (by omega) ev51 (fun _ _ q => q)) (fun E h9 q => nomatch (show (Sum.inr E : tq_R) = Sum.inl _ from q.1)) (fun r9 h9 q => ?_)
    obtain ⟨q1, rfl⟩ := q
    cases (show (Sum.inl r9 : tq_R) = Sum.inl (none) from q1)
    refine tq_vret (M := mX1_compareForests) (pc := 202) dX1_compareForests_202 rfl ?_
    cases (Option.some.inj hf)
    exact hQ _ _ ⟨rfl, rfl⟩
  refine tq_icmp_ne (M := mX1_compareForests) (pc := 65) (tgt := 128) dX1_compareForests_65 (by decide) (fun cc => ?_) (fun cc => ?_)
  · have hf := tq_ifn ep49 cc
    refine tq_aload_n (M := mX1_compareForests) (pc := 128) dX1_compareForests_128 rfl ?_
    obtain ⟨k13, ek13, hf⟩ := tq_be hf
    refine tq_getR (M := mX1_compareForests) (pc := 129) tk_c1 (by decide) dX1_compareForests_129 tk_RX1_32 rfl ek13 ?_
    refine tq_aload_n (M := mX1_compareForests) (pc := 132) dX1_compareForests_132 rfl ?_
    obtain ⟨k14, ek14, hf⟩ := tq_be hf
    refine tq_getR (M := mX1_compareForests) (pc := 133) tk_c1 (by decide) dX1_compareForests_133 tk_RX1_20 rfl ek14 ?_
    refine tq_iload_n (M := mX1_compareForests) (pc := 136) dX1_compareForests_136 rfl ?_
    obtain ⟨⟨⟩, eu16, hf⟩ := tq_be hf
    obtain ⟨fsu16, eu16⟩ := tq_is_s eu16
    obtain ⟨v15, ev15, hf⟩ := tq_be hf
    refine tq_calV (M := mX1_compareForests) (pc := 137) (S := [.ref k13]) tk_y_X5_get tk_v_X5_get tk_RX1_38 dX1_compareForests_137 [.int a1] rfl (S0 := _) rfl eu16 rfl (Nat.le_of_ble_eq_true rfl) (d1 := d - 1) (b1 := 0) (s1 := 0) (bc' := 0) (bs' := 0) (Q1 := fun r h9 => r = .inl (some (.int v15)) ∧ h = h9) (by omega) rfl rfl (w_X5_get (by omega) ev15 (fun _ _ q => q)) (fun E h9 q => nomatch (show (Sum.inr E : tq_R) = Sum.inl _ from q.1)) (fun r9 h9 q => ?_)
    obtain ⟨q1, rfl⟩ := q
    cases (show (Sum.inl r9 : tq_R) = Sum.inl (some (.int v15)) from q1)
    refine tq_iload_n (M := mX1_compareForests) (pc := 140) dX1_compareForests_140 rfl ?_
    refine tq_isub (M := mX1_compareForests) (pc := 141) dX1_compareForests_141 ?_
    refine tq_bipush (M := mX1_compareForests) (pc := 142) dX1_compareForests_142 tk_kb_61 ?_
    refine tq_imul (M := mX1_compareForests) (pc := 144) dX1_compareForests_144 ?_
    refine tq_aload_n (M := mX1_compareForests) (pc := 145) dX1_compareForests_145 rfl ?_
    obtain ⟨k17, ek17, hf⟩ := tq_be hf
    refine tq_getR (M := mX1_compareForests) (pc := 146) tk_c1 (by decide) dX1_compareForests_146 tk_RX1_26 rfl ek17 ?_
    refine tq_iload_n (M := mX1_compareForests) (pc := 149) dX1_compareForests_149 rfl ?_
    obtain ⟨⟨⟩, eu19, hf⟩ := tq_be hf
    obtain ⟨fsu19, eu19⟩ := tq_is_s eu19
    obtain ⟨v18, ev18, hf⟩ := tq_be hf
    refine tq_calV (M := mX1_compareForests) (pc := 150) (S := [.int (((v15 - a2) * (61 : Int32))), .ref k13]) tk_y_X5_get tk_v_X5_get tk_RX1_38 dX1_compareForests_150 [.int a3] rfl (S0 := _) rfl eu19 rfl (Nat.le_of_ble_eq_true rfl) (d1 := d - 1) (b1 := 0) (s1 := 0) (bc' := 0) (bs' := 0) (Q1 := fun r h9 => r = .inl (some (.int v18)) ∧ h = h9) (by omega) rfl rfl (w_X5_get (by omega) ev18 (fun _ _ q => q)) (fun E h9 q => nomatch (show (Sum.inr E : tq_R) = Sum.inl _ from q.1)) (fun r9 h9 q => ?_)
    obtain ⟨q1, rfl⟩ := q
    cases (show (Sum.inl r9 : tq_R) = Sum.inl (some (.int v18)) from q1)
    refine tq_iadd (M := mX1_compareForests) (pc := 153) dX1_compareForests_153 ?_
    refine tq_iload (M := mX1_compareForests) (pc := 154) dX1_compareForests_154 rfl ?_
    refine tq_isub (M := mX1_compareForests) (pc := 156) dX1_compareForests_156 ?_
    obtain ⟨⟨⟩, eu21, hf⟩ := tq_be hf
    obtain ⟨fsu21, eu21⟩ := tq_is_s eu21
    obtain ⟨v20, ev20, hf⟩ := tq_be hf
    refine tq_calV (M := mX1_compareForests) (pc := 157) (S := []) tk_y_X5_get tk_v_X5_get tk_RX1_38 dX1_compareForests_157 [.int (((((v15 - a2) * (61 : Int32)) + v18) - a4))] rfl (S0 := _) rfl eu21 rfl (Nat.le_of_ble_eq_true rfl) (d1 := d - 1) (b1 := 0) (s1 := 0) (bc' := 0) (bs' := 0) (Q1 := fun r h9 => r = .inl (some (.int v20)) ∧ h = h9) (by omega) rfl rfl (w_X5_get (by omega) ev20 (fun _ _ q => q)) (fun E h9 q => nomatch (show (Sum.inr E : tq_R) = Sum.inl _ from q.1)) (fun r9 h9 q => ?_)
    obtain ⟨q1, rfl⟩ := q
    cases (show (Sum.inl r9 : tq_R) = Sum.inl (some (.int v20)) from q1)
    refine tq_istore (M := mX1_compareForests) (pc := 160) dX1_compareForests_160 (L2 := [(9, .int v20), (8, .int x9), (7, .int x2), (6, .int x1), (0, .ref t), (1, .int a1), (2, .int a2), (3, .int a3), (4, .int a4), (5, .int a5)]) (by decide) rfl ?_
    refine tq_iload (M := mX1_compareForests) (pc := 162) dX1_compareForests_162 rfl ?_
    refine tq_iload (M := mX1_compareForests) (pc := 164) dX1_compareForests_164 rfl ?_
    refine tq_aload_n (M := mX1_compareForests) (pc := 166) dX1_compareForests_166 rfl ?_
    obtain ⟨k22, ek22, hf⟩ := tq_be hf
    refine tq_getR (M := mX1_compareForests) (pc := 167) tk_c1 (by decide) dX1_compareForests_167 tk_RX1_29 rfl ek22 ?_
    refine tq_iload_n (M := mX1_compareForests) (pc := 170) dX1_compareForests_170 rfl ?_
    refine tq_bipush (M := mX1_compareForests) (pc := 171) dX1_compareForests_171 tk_kb_61 ?_
    refine tq_imul (M := mX1_compareForests) (pc := 173) dX1_compareForests_173 ?_
    refine tq_iload_n (M := mX1_compareForests) (pc := 174) dX1_compareForests_174 rfl ?_
    refine tq_iadd (M := mX1_compareForests) (pc := 175) dX1_compareForests_175 ?_
    obtain ⟨⟨⟩, eu24, hf⟩ := tq_be hf
    obtain ⟨fsu24, eu24⟩ := tq_is_s eu24
    obtain ⟨v23, ev23, hf⟩ := tq_be hf
    refine tq_calV (M := mX1_compareForests) (pc := 176) (S := [.int v20, .int x9]) tk_y_X5_get tk_v_X5_get tk_RX1_38 dX1_compareForests_176 [.int (((a1 * (61 : Int32)) + a3))] rfl (S0 := _) rfl eu24 rfl (Nat.le_of_ble_eq_true rfl) (d1 := d - 1) (b1 := 0) (s1 := 0) (bc' := 0) (bs' := 0) (Q1 := fun r h9 => r = .inl (some (.int v23)) ∧ h = h9) (by omega) rfl rfl (w_X5_get (by omega) ev23 (fun _ _ q => q)) (fun E h9 q => nomatch (show (Sum.inr E : tq_R) = Sum.inl _ from q.1)) (fun r9 h9 q => ?_)
    obtain ⟨q1, rfl⟩ := q
    cases (show (Sum.inl r9 : tq_R) = Sum.inl (some (.int v23)) from q1)
    refine tq_iadd (M := mX1_compareForests) (pc := 179) dX1_compareForests_179 ?_
    refine tq_mmin (M := mX1_compareForests) (pc := 180) 96 dX1_compareForests_180 tk_RX1_96 tk_min_s tk_math tk_min_c (by omega) (Nat.le_of_ble_eq_true rfl) ?_
    obtain ⟨x25, ex25, hf⟩ := tq_le hf
    refine tq_istore (M := mX1_compareForests) (pc := 183) dX1_compareForests_183 (L2 := [(8, .int x25), (9, .int v20), (7, .int x2), (6, .int x1), (0, .ref t), (1, .int a1), (2, .int a2), (3, .int a3), (4, .int a4), (5, .int a5)]) (by decide) (by rw [ex25]; rfl) ?_
    refine tq_pick (L2 := [(0, .ref t), (6, .int x1), (7, .int x2), (8, .int x25)]) [4, 3, 2, 0] rfl ?_
    cases (Option.some.inj hf)
    exact HJ65
  · have hf := tq_ifp ep49 cc
    refine tq_aload_n (M := mX1_compareForests) (pc := 68) dX1_compareForests_68 rfl ?_
    obtain ⟨k26, ek26, hf⟩ := tq_be hf
    refine tq_getR (M := mX1_compareForests) (pc := 69) tk_c1 (by decide) dX1_compareForests_69 tk_RX1_26 rfl ek26 ?_
    refine tq_iload_n (M := mX1_compareForests) (pc := 72) dX1_compareForests_72 rfl ?_
    obtain ⟨⟨⟩, eu28, hf⟩ := tq_be hf
    obtain ⟨fsu28, eu28⟩ := tq_is_s eu28
    obtain ⟨v27, ev27, hf⟩ := tq_be hf
    refine tq_calV (M := mX1_compareForests) (pc := 73) (S := []) tk_y_X5_get tk_v_X5_get tk_RX1_38 dX1_compareForests_73 [.int a3] rfl (S0 := _) rfl eu28 rfl (Nat.le_of_ble_eq_true rfl) (d1 := d - 1) (b1 := 0) (s1 := 0) (bc' := 0) (bs' := 0) (Q1 := fun r h9 => r = .inl (some (.int v27)) ∧ h = h9) (by omega) rfl rfl (w_X5_get (by omega) ev27 (fun _ _ q => q)) (fun E h9 q => nomatch (show (Sum.inr E : tq_R) = Sum.inl _ from q.1)) (fun r9 h9 q => ?_)
    obtain ⟨q1, rfl⟩ := q
    cases (show (Sum.inl r9 : tq_R) = Sum.inl (some (.int v27)) from q1)
    refine tq_iload (M := mX1_compareForests) (pc := 76) dX1_compareForests_76 rfl ?_
    refine tq_icmp_ne (M := mX1_compareForests) (pc := 78) (tgt := 128) dX1_compareForests_78 (by decide) (fun cc => ?_) (fun cc => ?_)
    · have hf := tq_ifn hf cc
      refine tq_aload_n (M := mX1_compareForests) (pc := 128) dX1_compareForests_128 rfl ?_
      obtain ⟨k29, ek29, hf⟩ := tq_be hf
      refine tq_getR (M := mX1_compareForests) (pc := 129) tk_c1 (by decide) dX1_compareForests_129 tk_RX1_32 rfl ek29 ?_
      refine tq_aload_n (M := mX1_compareForests) (pc := 132) dX1_compareForests_132 rfl ?_
      obtain ⟨k30, ek30, hf⟩ := tq_be hf
      refine tq_getR (M := mX1_compareForests) (pc := 133) tk_c1 (by decide) dX1_compareForests_133 tk_RX1_20 rfl ek30 ?_
      refine tq_iload_n (M := mX1_compareForests) (pc := 136) dX1_compareForests_136 rfl ?_
      obtain ⟨⟨⟩, eu32, hf⟩ := tq_be hf
      obtain ⟨fsu32, eu32⟩ := tq_is_s eu32
      obtain ⟨v31, ev31, hf⟩ := tq_be hf
      refine tq_calV (M := mX1_compareForests) (pc := 137) (S := [.ref k29]) tk_y_X5_get tk_v_X5_get tk_RX1_38 dX1_compareForests_137 [.int a1] rfl (S0 := _) rfl eu32 rfl (Nat.le_of_ble_eq_true rfl) (d1 := d - 1) (b1 := 0) (s1 := 0) (bc' := 0) (bs' := 0) (Q1 := fun r h9 => r = .inl (some (.int v31)) ∧ h = h9) (by omega) rfl rfl (w_X5_get (by omega) ev31 (fun _ _ q => q)) (fun E h9 q => nomatch (show (Sum.inr E : tq_R) = Sum.inl _ from q.1)) (fun r9 h9 q => ?_)
      obtain ⟨q1, rfl⟩ := q
      cases (show (Sum.inl r9 : tq_R) = Sum.inl (some (.int v31)) from q1)
      refine tq_iload_n (M := mX1_compareForests) (pc := 140) dX1_compareForests_140 rfl ?_
      refine tq_isub (M := mX1_compareForests) (pc := 141) dX1_compareForests_141 ?_
      refine tq_bipush (M := mX1_compareForests) (pc := 142) dX1_compareForests_142 tk_kb_61 ?_
      refine tq_imul (M := mX1_compareForests) (pc := 144) dX1_compareForests_144 ?_
      refine tq_aload_n (M := mX1_compareForests) (pc := 145) dX1_compareForests_145 rfl ?_
      obtain ⟨k33, ek33, hf⟩ := tq_be hf
      refine tq_getR (M := mX1_compareForests) (pc := 146) tk_c1 (by decide) dX1_compareForests_146 tk_RX1_26 rfl ek33 ?_
      refine tq_iload_n (M := mX1_compareForests) (pc := 149) dX1_compareForests_149 rfl ?_
      obtain ⟨⟨⟩, eu35, hf⟩ := tq_be hf
      obtain ⟨fsu35, eu35⟩ := tq_is_s eu35
      obtain ⟨v34, ev34, hf⟩ := tq_be hf
      refine tq_calV (M := mX1_compareForests) (pc := 150) (S := [.int (((v31 - a2) * (61 : Int32))), .ref k29]) tk_y_X5_get tk_v_X5_get tk_RX1_38 dX1_compareForests_150 [.int a3] rfl (S0 := _) rfl eu35 rfl (Nat.le_of_ble_eq_true rfl) (d1 := d - 1) (b1 := 0) (s1 := 0) (bc' := 0) (bs' := 0) (Q1 := fun r h9 => r = .inl (some (.int v34)) ∧ h = h9) (by omega) rfl rfl (w_X5_get (by omega) ev34 (fun _ _ q => q)) (fun E h9 q => nomatch (show (Sum.inr E : tq_R) = Sum.inl _ from q.1)) (fun r9 h9 q => ?_)
      obtain ⟨q1, rfl⟩ := q
      cases (show (Sum.inl r9 : tq_R) = Sum.inl (some (.int v34)) from q1)
      refine tq_iadd (M := mX1_compareForests) (pc := 153) dX1_compareForests_153 ?_
      refine tq_iload (M := mX1_compareForests) (pc := 154) dX1_compareForests_154 rfl ?_
      refine tq_isub (M := mX1_compareForests) (pc := 156) dX1_compareForests_156 ?_
      obtain ⟨⟨⟩, eu37, hf⟩ := tq_be hf
      obtain ⟨fsu37, eu37⟩ := tq_is_s eu37
      obtain ⟨v36, ev36, hf⟩ := tq_be hf
      refine tq_calV (M := mX1_compareForests) (pc := 157) (S := []) tk_y_X5_get tk_v_X5_get tk_RX1_38 dX1_compareForests_157 [.int (((((v31 - a2) * (61 : Int32)) + v34) - a4))] rfl (S0 := _) rfl eu37 rfl (Nat.le_of_ble_eq_true rfl) (d1 := d - 1) (b1 := 0) (s1 := 0) (bc' := 0) (bs' := 0) (Q1 := fun r h9 => r = .inl (some (.int v36)) ∧ h = h9) (by omega) rfl rfl (w_X5_get (by omega) ev36 (fun _ _ q => q)) (fun E h9 q => nomatch (show (Sum.inr E : tq_R) = Sum.inl _ from q.1)) (fun r9 h9 q => ?_)
      obtain ⟨q1, rfl⟩ := q
      cases (show (Sum.inl r9 : tq_R) = Sum.inl (some (.int v36)) from q1)
      refine tq_istore (M := mX1_compareForests) (pc := 160) dX1_compareForests_160 (L2 := [(9, .int v36), (8, .int x9), (7, .int x2), (6, .int x1), (0, .ref t), (1, .int a1), (2, .int a2), (3, .int a3), (4, .int a4), (5, .int a5)]) (by decide) rfl ?_
      refine tq_iload (M := mX1_compareForests) (pc := 162) dX1_compareForests_162 rfl ?_
      refine tq_iload (M := mX1_compareForests) (pc := 164) dX1_compareForests_164 rfl ?_
      refine tq_aload_n (M := mX1_compareForests) (pc := 166) dX1_compareForests_166 rfl ?_
      obtain ⟨k38, ek38, hf⟩ := tq_be hf
      refine tq_getR (M := mX1_compareForests) (pc := 167) tk_c1 (by decide) dX1_compareForests_167 tk_RX1_29 rfl ek38 ?_
      refine tq_iload_n (M := mX1_compareForests) (pc := 170) dX1_compareForests_170 rfl ?_
      refine tq_bipush (M := mX1_compareForests) (pc := 171) dX1_compareForests_171 tk_kb_61 ?_
      refine tq_imul (M := mX1_compareForests) (pc := 173) dX1_compareForests_173 ?_
      refine tq_iload_n (M := mX1_compareForests) (pc := 174) dX1_compareForests_174 rfl ?_
      refine tq_iadd (M := mX1_compareForests) (pc := 175) dX1_compareForests_175 ?_
      obtain ⟨⟨⟩, eu40, hf⟩ := tq_be hf
      obtain ⟨fsu40, eu40⟩ := tq_is_s eu40
      obtain ⟨v39, ev39, hf⟩ := tq_be hf
      refine tq_calV (M := mX1_compareForests) (pc := 176) (S := [.int v36, .int x9]) tk_y_X5_get tk_v_X5_get tk_RX1_38 dX1_compareForests_176 [.int (((a1 * (61 : Int32)) + a3))] rfl (S0 := _) rfl eu40 rfl (Nat.le_of_ble_eq_true rfl) (d1 := d - 1) (b1 := 0) (s1 := 0) (bc' := 0) (bs' := 0) (Q1 := fun r h9 => r = .inl (some (.int v39)) ∧ h = h9) (by omega) rfl rfl (w_X5_get (by omega) ev39 (fun _ _ q => q)) (fun E h9 q => nomatch (show (Sum.inr E : tq_R) = Sum.inl _ from q.1)) (fun r9 h9 q => ?_)
      obtain ⟨q1, rfl⟩ := q
      cases (show (Sum.inl r9 : tq_R) = Sum.inl (some (.int v39)) from q1)
      refine tq_iadd (M := mX1_compareForests) (pc := 179) dX1_compareForests_179 ?_
      refine tq_mmin (M := mX1_compareForests) (pc := 180) 96 dX1_compareForests_180 tk_RX1_96 tk_min_s tk_math tk_min_c (by omega) (Nat.le_of_ble_eq_true rfl) ?_
      obtain ⟨x41, ex41, hf⟩ := tq_le hf
      refine tq_istore (M := mX1_compareForests) (pc := 183) dX1_compareForests_183 (L2 := [(8, .int x41), (9, .int v36), (7, .int x2), (6, .int x1), (0, .ref t), (1, .int a1), (2, .int a2), (3, .int a3), (4, .int a4), (5, .int a5)]) (by decide) (by rw [ex41]; rfl) ?_
      refine tq_pick (L2 := [(0, .ref t), (6, .int x1), (7, .int x2), (8, .int x41)]) [4, 3, 2, 0] rfl ?_
      cases (Option.some.inj hf)
      exact HJ65
    · have hf := tq_ifp hf cc
      refine tq_iload (M := mX1_compareForests) (pc := 81) dX1_compareForests_81 rfl ?_
      refine tq_aload_n (M := mX1_compareForests) (pc := 83) dX1_compareForests_83 rfl ?_
      obtain ⟨k42, ek42, hf⟩ := tq_be hf
      refine tq_getR (M := mX1_compareForests) (pc := 84) tk_c1 (by decide) dX1_compareForests_84 tk_RX1_32 rfl ek42 ?_
      refine tq_iload (M := mX1_compareForests) (pc := 87) dX1_compareForests_87 rfl ?_
      refine tq_iconst (M := mX1_compareForests) (pc := 89) dX1_compareForests_89 tk_ki_1 ?_
      refine tq_isub (M := mX1_compareForests) (pc := 90) dX1_compareForests_90 ?_
      refine tq_bipush (M := mX1_compareForests) (pc := 91) dX1_compareForests_91 tk_kb_61 ?_
      refine tq_imul (M := mX1_compareForests) (pc := 93) dX1_compareForests_93 ?_
      refine tq_iload (M := mX1_compareForests) (pc := 94) dX1_compareForests_94 rfl ?_
      refine tq_iadd (M := mX1_compareForests) (pc := 96) dX1_compareForests_96 ?_
      refine tq_iconst (M := mX1_compareForests) (pc := 97) dX1_compareForests_97 tk_ki_1 ?_
      refine tq_isub (M := mX1_compareForests) (pc := 98) dX1_compareForests_98 ?_
      obtain ⟨⟨⟩, eu44, hf⟩ := tq_be hf
      obtain ⟨fsu44, eu44⟩ := tq_is_s eu44
      obtain ⟨v43, ev43, hf⟩ := tq_be hf
      refine tq_calV (M := mX1_compareForests) (pc := 99) (S := [.int x9]) tk_y_X5_get tk_v_X5_get tk_RX1_38 dX1_compareForests_99 [.int (((((x1 - (1 : Int32)) * (61 : Int32)) + x2) - (1 : Int32)))] rfl (S0 := _) rfl eu44 rfl (Nat.le_of_ble_eq_true rfl) (d1 := d - 1) (b1 := 0) (s1 := 0) (bc' := 0) (bs' := 0) (Q1 := fun r h9 => r = .inl (some (.int v43)) ∧ h = h9) (by omega) rfl rfl (w_X5_get (by omega) ev43 (fun _ _ q => q)) (fun E h9 q => nomatch (show (Sum.inr E : tq_R) = Sum.inl _ from q.1)) (fun r9 h9 q => ?_)
      obtain ⟨q1, rfl⟩ := q
      cases (show (Sum.inl r9 : tq_R) = Sum.inl (some (.int v43)) from q1)
      refine tq_iload (M := mX1_compareForests) (pc := 102) dX1_compareForests_102 rfl ?_
      refine tq_iadd (M := mX1_compareForests) (pc := 104) dX1_compareForests_104 ?_
      refine tq_mmin (M := mX1_compareForests) (pc := 105) 96 dX1_compareForests_105 tk_RX1_96 tk_min_s tk_math tk_min_c (by omega) (Nat.le_of_ble_eq_true rfl) ?_
      obtain ⟨x45, ex45, hf⟩ := tq_le hf
      refine tq_istore (M := mX1_compareForests) (pc := 108) dX1_compareForests_108 (L2 := [(8, .int x45), (7, .int x2), (6, .int x1), (0, .ref t), (1, .int a1), (2, .int a2), (3, .int a3), (4, .int a4), (5, .int a5)]) (by decide) (by rw [ex45]; rfl) ?_
      refine tq_aload_n (M := mX1_compareForests) (pc := 110) dX1_compareForests_110 rfl ?_
      obtain ⟨k46, ek46, hf⟩ := tq_be hf
      refine tq_getR (M := mX1_compareForests) (pc := 111) tk_c1 (by decide) dX1_compareForests_111 tk_RX1_29 rfl ek46 ?_
      refine tq_iload_n (M := mX1_compareForests) (pc := 114) dX1_compareForests_114 rfl ?_
      refine tq_bipush (M := mX1_compareForests) (pc := 115) dX1_compareForests_115 tk_kb_61 ?_
      refine tq_imul (M := mX1_compareForests) (pc := 117) dX1_compareForests_117 ?_
      refine tq_iload_n (M := mX1_compareForests) (pc := 118) dX1_compareForests_118 rfl ?_
      refine tq_iadd (M := mX1_compareForests) (pc := 119) dX1_compareForests_119 ?_
      refine tq_iload (M := mX1_compareForests) (pc := 120) dX1_compareForests_120 rfl ?_
      obtain ⟨⟨⟩, eu48, hf⟩ := tq_be hf
      obtain ⟨fsu48, eu48⟩ := tq_is_s eu48
      obtain ⟨v47, ev47, hf⟩ := tq_be hf
      refine tq_calV (M := mX1_compareForests) (pc := 122) (S := []) tk_y_X5_set tk_v_X5_set tk_RX1_42 dX1_compareForests_122 [.int (((a1 * (61 : Int32)) + a3)), .int x45] rfl (S0 := _) rfl eu48 rfl (Nat.le_of_ble_eq_true rfl) (d1 := d - 1) (b1 := 0) (s1 := 0) (bc' := 0) (bs' := 0) (Q1 := fun r h9 => r = .inl none ∧ v47 = h9) (by omega) rfl rfl (w_X5_set (by omega) ev47 (fun _ _ q => q)) (fun E h9 q => nomatch (show (Sum.inr E : tq_R) = Sum.inl _ from q.1)) (fun r9 h9 q => ?_)
      obtain ⟨q1, rfl⟩ := q
      cases (show (Sum.inl r9 : tq_R) = Sum.inl (none) from q1)
      refine tq_goto (M := mX1_compareForests) (pc := 125) (tgt := 185) dX1_compareForests_125 (by decide) ?_
      refine tq_pick (L2 := [(0, .ref t), (6, .int x1), (7, .int x2), (8, .int x45)]) [3, 2, 1, 0] rfl ?_
      cases (Option.some.inj hf)
      exact HJ65
abbrev mX1_compare : tq_M := (RX1, cX1_compare, 10, none, false, [], none)
def f_X1_compare_b24 (i0 : Nat) (i1 : Nat) (i2 : Nat) (i3 : Int32) (i4 : Int32) (i5 : Int32) (i6 : Int32) (s : Int32 × tq_H) : Option ((Int32 × tq_H) ⊕ (tq_H)) := match s with
  | (y7, hh) =>
    if y7 > ((i3 - i5) + (1 : Int32)) then
      some (.inr hh)
    else
      (tq_gr hh i0 1 5).bind fun k7 =>
      (tq_is hh k7 5).bind fun _ =>
      (f_X5_set k7 (y7 * (61 : Int32)) y7 hh).bind fun v8 =>
      tq_let (y7 + (1 : Int32)) fun x10 =>
      some (.inl (x10, v8))
def f_X1_compare_b58 (i0 : Nat) (i1 : Nat) (i2 : Nat) (i3 : Int32) (i4 : Int32) (i5 : Int32) (i6 : Int32) (s : Int32 × tq_H) : Option ((Int32 × tq_H) ⊕ (tq_H)) := match s with
  | (y7, hh) =>
    if y7 > ((i4 - i6) + (1 : Int32)) then
      some (.inr hh)
    else
      (tq_gr hh i0 1 5).bind fun k12 =>
      (tq_is hh k12 5).bind fun _ =>
      (f_X5_set k12 y7 y7 hh).bind fun v13 =>
      tq_let (y7 + (1 : Int32)) fun x15 =>
      some (.inl (x15, v13))
def f_X1_compare_b101 (i0 : Nat) (i1 : Nat) (i2 : Nat) (i3 : Int32) (i4 : Int32) (i5 : Int32) (i6 : Int32) (i7 : Int32) (s : Int32 × tq_H) : Option ((Int32 × tq_H) ⊕ (tq_H)) := match s with
  | (y8, hh) =>
    if y8 > i4 then
      some (.inr hh)
    else
      (tq_gr hh i0 1 0).bind fun k17 =>
      (tq_is hh k17 5).bind fun _ =>
      (f_X5_get k17 i7 hh).bind fun v18 =>
      (tq_gr hh i0 1 2).bind fun k20 =>
      (tq_is hh k20 5).bind fun _ =>
      (f_X5_get k20 y8 hh).bind fun v21 =>
      (tq_is hh i1 8).bind fun _ =>
      (f_X8_looksLike i1 v18 i2 v21 hh).bind fun v23 =>
      tq_let (if v23 = 0 then (1 : Int32) else (0 : Int32)) fun p25 =>
      (tq_is hh i0 1).bind fun _ =>
      (f_X1_compareForests i0 i7 i5 y8 i6 p25 hh).bind fun v26 =>
      tq_let (y8 + (1 : Int32)) fun x28 =>
      some (.inl (x28, v26))
def f_X1_compare_b91 (i0 : Nat) (i1 : Nat) (i2 : Nat) (i3 : Int32) (i4 : Int32) (i5 : Int32) (i6 : Int32) (s : Int32 × tq_H) : Option ((Int32 × tq_H) ⊕ (tq_H)) := match s with
  | (y7, hh) =>
    if y7 > i3 then
      some (.inr hh)
    else
      (tq_loop (f_X1_compare_b101 i0 i1 i2 i3 i4 i5 i6 y7) tq_N (i6, hh)).bind fun o29 =>
      tq_let (y7 + (1 : Int32)) fun x30 =>
      some (.inl (x30, o29))
def f_X1_compare (t : Nat) (a1 : Nat) (a2 : Nat) (a3 : Int32) (a4 : Int32) (h : tq_H) : Option (tq_H) :=
  (tq_gr h t 1 1).bind fun k1 =>
  (tq_is h k1 5).bind fun _ =>
  (f_X5_get k1 a3 h).bind fun v2 =>
  (tq_gr h t 1 3).bind fun k4 =>
  (tq_is h k4 5).bind fun _ =>
  (f_X5_get k4 a4 h).bind fun v5 =>
  (tq_loop (f_X1_compare_b24 t a1 a2 a3 a4 v2 v5) tq_N ((0 : Int32), h)).bind fun o11 =>
  (tq_loop (f_X1_compare_b58 t a1 a2 a3 a4 v2 v5) tq_N ((0 : Int32), o11)).bind fun o16 =>
  (tq_loop (f_X1_compare_b91 t a1 a2 a3 a4 v2 v5) tq_N (v2, o16)).bind fun o31 =>
  some o31
set_option maxHeartbeats 4000000 in
theorem l_X1_compare_24 {l : Launch} {d : Nat} {Q : tq_R → tq_H → Prop} {bc bs : Nat} (hd9 : 2 ≤ d) (i0 : Nat) (i1 : Nat) (i2 : Nat) (i3 : Int32) (i4 : Int32) (i5 : Int32) (i6 : Int32) : ∀ (n : Nat) (y7 : Int32) (hh : tq_H) (o : tq_H), tq_loop (f_X1_compare_b24 i0 i1 i2 i3 i4 i5 i6) n (y7, hh) = some o → tq_W l mX1_compare d bc bs Q 55 [(0, .ref i0), (1, .ref i1), (2, .ref i2), (3, .int i3), (4, .int i4), (5, .int i5), (6, .int i6)] [] o → tq_W l mX1_compare d bc bs Q 24 [(0, .ref i0), (1, .ref i1), (2, .ref i2), (3, .int i3), (4, .int i4), (5, .int i5), (6, .int i6), (7, .int y7)] [] hh := by
  intro n
  induction n with
  | zero => intro y7 hh o hl; cases hl
  | succ n ih =>
    intro y7 hh o hl hk
    obtain ⟨oo, hf, ho⟩ := tq_loop_s hl
    refine tq_iload (M := mX1_compare) (pc := 24) dX1_compare_24 rfl ?_
    refine tq_iload_n (M := mX1_compare) (pc := 26) dX1_compare_26 rfl ?_
    refine tq_iload (M := mX1_compare) (pc := 27) dX1_compare_27 rfl ?_
    refine tq_isub (M := mX1_compare) (pc := 29) dX1_compare_29 ?_
    refine tq_iconst (M := mX1_compare) (pc := 30) dX1_compare_30 tk_ki_1 ?_
    refine tq_iadd (M := mX1_compare) (pc := 31) dX1_compare_31 ?_
    refine tq_icmp_gt (M := mX1_compare) (pc := 32) (tgt := 55) dX1_compare_32 (by decide) (fun cc => ?_) (fun cc => ?_)
    · have hf := tq_ifp hf cc
      refine tq_pick (L2 := [(0, .ref i0), (1, .ref i1), (2, .ref i2), (3, .int i3), (4, .int i4), (5, .int i5), (6, .int i6)]) [0, 1, 2, 3, 4, 5, 6] rfl ?_
      cases (Option.some.inj hf)
      cases (tq_lx ho)
      exact hk
    · have hf := tq_ifn hf cc
      refine tq_aload_n (M := mX1_compare) (pc := 35) dX1_compare_35 rfl ?_
      obtain ⟨k7, ek7, hf⟩ := tq_be hf
      refine tq_getR (M := mX1_compare) (pc := 36) tk_c1 (by decide) dX1_compare_36 tk_RX1_32 rfl ek7 ?_
      refine tq_iload (M := mX1_compare) (pc := 39) dX1_compare_39 rfl ?_
      refine tq_bipush (M := mX1_compare) (pc := 41) dX1_compare_41 tk_kb_61 ?_
      refine tq_imul (M := mX1_compare) (pc := 43) dX1_compare_43 ?_
      refine tq_iload (M := mX1_compare) (pc := 44) dX1_compare_44 rfl ?_
      obtain ⟨⟨⟩, eu9, hf⟩ := tq_be hf
      obtain ⟨fsu9, eu9⟩ := tq_is_s eu9
      obtain ⟨v8, ev8, hf⟩ := tq_be hf
      refine tq_calV (M := mX1_compare) (pc := 46) (S := []) tk_y_X5_set tk_v_X5_set tk_RX1_42 dX1_compare_46 [.int ((y7 * (61 : Int32))), .int y7] rfl (S0 := _) rfl eu9 rfl (Nat.le_of_ble_eq_true rfl) (d1 := d - 1) (b1 := 0) (s1 := 0) (bc' := bc) (bs' := bs) (Q1 := fun r h9 => r = .inl none ∧ v8 = h9) (by omega) (by omega) (by omega) (w_X5_set (by omega) ev8 (fun _ _ q => q)) (fun E h9 q => nomatch (show (Sum.inr E : tq_R) = Sum.inl _ from q.1)) (fun r9 h9 q => ?_)
      obtain ⟨q1, rfl⟩ := q
      cases (show (Sum.inl r9 : tq_R) = Sum.inl (none) from q1)
      obtain ⟨x10, ex10, hf⟩ := tq_le hf
      refine tq_iinc (M := mX1_compare) (pc := 49) (v := x10) (L2 := [(7, .int x10), (0, .ref i0), (1, .ref i1), (2, .ref i2), (3, .int i3), (4, .int i4), (5, .int i5), (6, .int i6)]) dX1_compare_49 rfl (by rw [ex10, tk_ki_1]) (by decide) rfl ?_
      refine tq_goto (M := mX1_compare) (pc := 52) (tgt := 24) dX1_compare_52 (by decide) ?_
      refine tq_pick (L2 := [(0, .ref i0), (1, .ref i1), (2, .ref i2), (3, .int i3), (4, .int i4), (5, .int i5), (6, .int i6), (7, .int x10)]) [1, 2, 3, 4, 5, 6, 7, 0] rfl ?_
      cases (Option.some.inj hf)
      exact ih _ _ o (tq_lc ho) hk
set_option maxHeartbeats 4000000 in
theorem l_X1_compare_58 {l : Launch} {d : Nat} {Q : tq_R → tq_H → Prop} {bc bs : Nat} (hd9 : 2 ≤ d) (i0 : Nat) (i1 : Nat) (i2 : Nat) (i3 : Int32) (i4 : Int32) (i5 : Int32) (i6 : Int32) : ∀ (n : Nat) (y7 : Int32) (hh : tq_H) (o : tq_H), tq_loop (f_X1_compare_b58 i0 i1 i2 i3 i4 i5 i6) n (y7, hh) = some o → tq_W l mX1_compare d bc bs Q 87 [(0, .ref i0), (1, .ref i1), (2, .ref i2), (3, .int i3), (4, .int i4), (5, .int i5), (6, .int i6)] [] o → tq_W l mX1_compare d bc bs Q 58 [(0, .ref i0), (1, .ref i1), (2, .ref i2), (3, .int i3), (4, .int i4), (5, .int i5), (6, .int i6), (7, .int y7)] [] hh := by
  intro n
  induction n with
  | zero => intro y7 hh o hl; cases hl
  | succ n ih =>
    intro y7 hh o hl hk
    obtain ⟨oo, hf, ho⟩ := tq_loop_s hl
    refine tq_iload (M := mX1_compare) (pc := 58) dX1_compare_58 rfl ?_
    refine tq_iload (M := mX1_compare) (pc := 60) dX1_compare_60 rfl ?_
    refine tq_iload (M := mX1_compare) (pc := 62) dX1_compare_62 rfl ?_
    refine tq_isub (M := mX1_compare) (pc := 64) dX1_compare_64 ?_
    refine tq_iconst (M := mX1_compare) (pc := 65) dX1_compare_65 tk_ki_1 ?_
    refine tq_iadd (M := mX1_compare) (pc := 66) dX1_compare_66 ?_
    refine tq_icmp_gt (M := mX1_compare) (pc := 67) (tgt := 87) dX1_compare_67 (by decide) (fun cc => ?_) (fun cc => ?_)
    · have hf := tq_ifp hf cc
      refine tq_pick (L2 := [(0, .ref i0), (1, .ref i1), (2, .ref i2), (3, .int i3), (4, .int i4), (5, .int i5), (6, .int i6)]) [0, 1, 2, 3, 4, 5, 6] rfl ?_
      cases (Option.some.inj hf)
      cases (tq_lx ho)
      exact hk
    · have hf := tq_ifn hf cc
      refine tq_aload_n (M := mX1_compare) (pc := 70) dX1_compare_70 rfl ?_
      obtain ⟨k12, ek12, hf⟩ := tq_be hf
      refine tq_getR (M := mX1_compare) (pc := 71) tk_c1 (by decide) dX1_compare_71 tk_RX1_32 rfl ek12 ?_
      refine tq_iload (M := mX1_compare) (pc := 74) dX1_compare_74 rfl ?_
      refine tq_iload (M := mX1_compare) (pc := 76) dX1_compare_76 rfl ?_
      obtain ⟨⟨⟩, eu14, hf⟩ := tq_be hf
      obtain ⟨fsu14, eu14⟩ := tq_is_s eu14
      obtain ⟨v13, ev13, hf⟩ := tq_be hf
      refine tq_calV (M := mX1_compare) (pc := 78) (S := []) tk_y_X5_set tk_v_X5_set tk_RX1_42 dX1_compare_78 [.int y7, .int y7] rfl (S0 := _) rfl eu14 rfl (Nat.le_of_ble_eq_true rfl) (d1 := d - 1) (b1 := 0) (s1 := 0) (bc' := bc) (bs' := bs) (Q1 := fun r h9 => r = .inl none ∧ v13 = h9) (by omega) (by omega) (by omega) (w_X5_set (by omega) ev13 (fun _ _ q => q)) (fun E h9 q => nomatch (show (Sum.inr E : tq_R) = Sum.inl _ from q.1)) (fun r9 h9 q => ?_)
      obtain ⟨q1, rfl⟩ := q
      cases (show (Sum.inl r9 : tq_R) = Sum.inl (none) from q1)
      obtain ⟨x15, ex15, hf⟩ := tq_le hf
      refine tq_iinc (M := mX1_compare) (pc := 81) (v := x15) (L2 := [(7, .int x15), (0, .ref i0), (1, .ref i1), (2, .ref i2), (3, .int i3), (4, .int i4), (5, .int i5), (6, .int i6)]) dX1_compare_81 rfl (by rw [ex15, tk_ki_1]) (by decide) rfl ?_
      refine tq_goto (M := mX1_compare) (pc := 84) (tgt := 58) dX1_compare_84 (by decide) ?_
      refine tq_pick (L2 := [(0, .ref i0), (1, .ref i1), (2, .ref i2), (3, .int i3), (4, .int i4), (5, .int i5), (6, .int i6), (7, .int x15)]) [1, 2, 3, 4, 5, 6, 7, 0] rfl ?_
      cases (Option.some.inj hf)
      exact ih _ _ o (tq_lc ho) hk
set_option maxHeartbeats 4000000 in
theorem l_X1_compare_101 {l : Launch} {d : Nat} {Q : tq_R → tq_H → Prop} {bc bs : Nat} (hd9 : 2 ≤ d) (i0 : Nat) (i1 : Nat) (i2 : Nat) (i3 : Int32) (i4 : Int32) (i5 : Int32) (i6 : Int32) (i7 : Int32) : ∀ (n : Nat) (y8 : Int32) (hh : tq_H) (o : tq_H), tq_loop (f_X1_compare_b101 i0 i1 i2 i3 i4 i5 i6 i7) n (y8, hh) = some o → tq_W l mX1_compare d bc bs Q 161 [(0, .ref i0), (1, .ref i1), (2, .ref i2), (3, .int i3), (4, .int i4), (5, .int i5), (6, .int i6), (7, .int i7)] [] o → tq_W l mX1_compare d bc bs Q 101 [(0, .ref i0), (1, .ref i1), (2, .ref i2), (3, .int i3), (4, .int i4), (5, .int i5), (6, .int i6), (7, .int i7), (8, .int y8)] [] hh := by
  intro n
  induction n with
  | zero => intro y8 hh o hl; cases hl
  | succ n ih =>
    intro y8 hh o hl hk
    obtain ⟨oo, hf, ho⟩ := tq_loop_s hl
    refine tq_iload (M := mX1_compare) (pc := 101) dX1_compare_101 rfl ?_
    refine tq_iload (M := mX1_compare) (pc := 103) dX1_compare_103 rfl ?_
    refine tq_icmp_gt (M := mX1_compare) (pc := 105) (tgt := 161) dX1_compare_105 (by decide) (fun cc => ?_) (fun cc => ?_)
    · have hf := tq_ifp hf cc
      refine tq_pick (L2 := [(0, .ref i0), (1, .ref i1), (2, .ref i2), (3, .int i3), (4, .int i4), (5, .int i5), (6, .int i6), (7, .int i7)]) [0, 1, 2, 3, 4, 5, 6, 7] rfl ?_
      cases (Option.some.inj hf)
      cases (tq_lx ho)
      exact hk
    · have hf := tq_ifn hf cc
      refine tq_aload_n (M := mX1_compare) (pc := 108) dX1_compare_108 rfl ?_
      refine tq_aload_n (M := mX1_compare) (pc := 109) dX1_compare_109 rfl ?_
      obtain ⟨k17, ek17, hf⟩ := tq_be hf
      refine tq_getR (M := mX1_compare) (pc := 110) tk_c1 (by decide) dX1_compare_110 tk_RX1_14 rfl ek17 ?_
      refine tq_iload (M := mX1_compare) (pc := 113) dX1_compare_113 rfl ?_
      obtain ⟨⟨⟩, eu19, hf⟩ := tq_be hf
      obtain ⟨fsu19, eu19⟩ := tq_is_s eu19
      obtain ⟨v18, ev18, hf⟩ := tq_be hf
      refine tq_calV (M := mX1_compare) (pc := 115) (S := [.ref i1]) tk_y_X5_get tk_v_X5_get tk_RX1_38 dX1_compare_115 [.int i7] rfl (S0 := _) rfl eu19 rfl (Nat.le_of_ble_eq_true rfl) (d1 := d - 1) (b1 := 0) (s1 := 0) (bc' := bc) (bs' := bs) (Q1 := fun r h9 => r = .inl (some (.int v18)) ∧ hh = h9) (by omega) (by omega) (by omega) (w_X5_get (by omega) ev18 (fun _ _ q => q)) (fun E h9 q => nomatch (show (Sum.inr E : tq_R) = Sum.inl _ from q.1)) (fun r9 h9 q => ?_)
      obtain ⟨q1, rfl⟩ := q
      cases (show (Sum.inl r9 : tq_R) = Sum.inl (some (.int v18)) from q1)
      refine tq_aload_n (M := mX1_compare) (pc := 118) dX1_compare_118 rfl ?_
      refine tq_aload_n (M := mX1_compare) (pc := 119) dX1_compare_119 rfl ?_
      obtain ⟨k20, ek20, hf⟩ := tq_be hf
      refine tq_getR (M := mX1_compare) (pc := 120) tk_c1 (by decide) dX1_compare_120 tk_RX1_23 rfl ek20 ?_
      refine tq_iload (M := mX1_compare) (pc := 123) dX1_compare_123 rfl ?_
      obtain ⟨⟨⟩, eu22, hf⟩ := tq_be hf
      obtain ⟨fsu22, eu22⟩ := tq_is_s eu22
      obtain ⟨v21, ev21, hf⟩ := tq_be hf
      refine tq_calV (M := mX1_compare) (pc := 125) (S := [.ref i2, .int v18, .ref i1]) tk_y_X5_get tk_v_X5_get tk_RX1_38 dX1_compare_125 [.int y8] rfl (S0 := _) rfl eu22 rfl (Nat.le_of_ble_eq_true rfl) (d1 := d - 1) (b1 := 0) (s1 := 0) (bc' := bc) (bs' := bs) (Q1 := fun r h9 => r = .inl (some (.int v21)) ∧ hh = h9) (by omega) (by omega) (by omega) (w_X5_get (by omega) ev21 (fun _ _ q => q)) (fun E h9 q => nomatch (show (Sum.inr E : tq_R) = Sum.inl _ from q.1)) (fun r9 h9 q => ?_)
      obtain ⟨q1, rfl⟩ := q
      cases (show (Sum.inl r9 : tq_R) = Sum.inl (some (.int v21)) from q1)
      obtain ⟨⟨⟩, eu24, hf⟩ := tq_be hf
      obtain ⟨fsu24, eu24⟩ := tq_is_s eu24
      obtain ⟨v23, ev23, hf⟩ := tq_be hf
      refine tq_calV (M := mX1_compare) (pc := 128) (S := []) tk_y_X8_looksLike tk_v_X8_looksLike tk_RX1_88 dX1_compare_128 [.int v18, .ref i2, .int v21] rfl (S0 := _) rfl eu24 rfl (Nat.le_of_ble_eq_true rfl) (d1 := d - 1) (b1 := 0) (s1 := 0) (bc' := bc) (bs' := bs) (Q1 := fun r h9 => r = .inl (some (.int v23)) ∧ hh = h9) (by omega) (by omega) (by omega) (w_X8_looksLike (by omega) ev23 (fun _ _ q => q)) (fun E h9 q => nomatch (show (Sum.inr E : tq_R) = Sum.inl _ from q.1)) (fun r9 h9 q => ?_)
      obtain ⟨q1, rfl⟩ := q
      cases (show (Sum.inl r9 : tq_R) = Sum.inl (some (.int v23)) from q1)
      refine tq_istore (M := mX1_compare) (pc := 131) dX1_compare_131 (L2 := [(9, .int v23), (0, .ref i0), (1, .ref i1), (2, .ref i2), (3, .int i3), (4, .int i4), (5, .int i5), (6, .int i6), (7, .int i7), (8, .int y8)]) (by decide) rfl ?_
      refine tq_aload_n (M := mX1_compare) (pc := 133) dX1_compare_133 rfl ?_
      refine tq_iload (M := mX1_compare) (pc := 134) dX1_compare_134 rfl ?_
      refine tq_iload (M := mX1_compare) (pc := 136) dX1_compare_136 rfl ?_
      refine tq_iload (M := mX1_compare) (pc := 138) dX1_compare_138 rfl ?_
      refine tq_iload (M := mX1_compare) (pc := 140) dX1_compare_140 rfl ?_
      refine tq_iload (M := mX1_compare) (pc := 142) dX1_compare_142 rfl ?_
      obtain ⟨p25, ep25, hf⟩ := tq_le hf
      have HJ144 : tq_W l mX1_compare d bc bs Q 152 [(0, .ref i0), (1, .ref i1), (2, .ref i2), (3, .int i3), (4, .int i4), (5, .int i5), (6, .int i6), (7, .int i7), (8, .int y8)] [.int p25, .int i6, .int y8, .int i5, .int i7, .ref i0] hh := by
        obtain ⟨⟨⟩, eu27, hf⟩ := tq_be hf
        obtain ⟨fsu27, eu27⟩ := tq_is_s eu27
        obtain ⟨v26, ev26, hf⟩ := tq_be hf
        refine tq_calV (M := mX1_compare) (pc := 152) (S := []) tk_y_X1_compareForests tk_v_X1_compareForests tk_RX1_92 dX1_compare_152 [.int i7, .int i5, .int y8, .int i6, .int p25] rfl (S0 := _) rfl eu27 rfl (Nat.le_of_ble_eq_true rfl) (d1 := d - 1) (b1 := 0) (s1 := 0) (bc' := bc) (bs' := bs) (Q1 := fun r h9 => r = .inl none ∧ v26 = h9) (by omega) (by omega) (by omega) (w_X1_compareForests (by omega) ev26 (fun _ _ q => q)) (fun E h9 q => nomatch (show (Sum.inr E : tq_R) = Sum.inl _ from q.1)) (fun r9 h9 q => ?_)
        obtain ⟨q1, rfl⟩ := q
        cases (show (Sum.inl r9 : tq_R) = Sum.inl (none) from q1)
        obtain ⟨x28, ex28, hf⟩ := tq_le hf
        refine tq_iinc (M := mX1_compare) (pc := 155) (v := x28) (L2 := [(8, .int x28), (0, .ref i0), (1, .ref i1), (2, .ref i2), (3, .int i3), (4, .int i4), (5, .int i5), (6, .int i6), (7, .int i7)]) dX1_compare_155 rfl (by rw [ex28, tk_ki_1]) (by decide) rfl ?_
        refine tq_goto (M := mX1_compare) (pc := 158) (tgt := 101) dX1_compare_158 (by decide) ?_
        refine tq_pick (L2 := [(0, .ref i0), (1, .ref i1), (2, .ref i2), (3, .int i3), (4, .int i4), (5, .int i5), (6, .int i6), (7, .int i7), (8, .int x28)]) [1, 2, 3, 4, 5, 6, 7, 8, 0] rfl ?_
        cases (Option.some.inj hf)
        exact ih _ _ o (tq_lc ho) hk
      refine tq_if_eq (M := mX1_compare) (pc := 144) (tgt := 151) dX1_compare_144 (by decide) (fun cc => ?_) (fun cc => ?_)
      · have hf := tq_ifp ep25.symm cc
        refine tq_iconst (M := mX1_compare) (pc := 151) dX1_compare_151 tk_ki_1 ?_
        refine tq_pick (L2 := [(0, .ref i0), (1, .ref i1), (2, .ref i2), (3, .int i3), (4, .int i4), (5, .int i5), (6, .int i6), (7, .int i7), (8, .int y8)]) [1, 2, 3, 4, 5, 6, 7, 8, 9] rfl ?_
        cases hf
        exact HJ144
      · have hf := tq_ifn ep25.symm cc
        refine tq_iconst (M := mX1_compare) (pc := 147) dX1_compare_147 tk_ki_0 ?_
        refine tq_goto (M := mX1_compare) (pc := 148) (tgt := 152) dX1_compare_148 (by decide) ?_
        refine tq_pick (L2 := [(0, .ref i0), (1, .ref i1), (2, .ref i2), (3, .int i3), (4, .int i4), (5, .int i5), (6, .int i6), (7, .int i7), (8, .int y8)]) [1, 2, 3, 4, 5, 6, 7, 8, 9] rfl ?_
        cases hf
        exact HJ144
set_option maxHeartbeats 4000000 in
theorem l_X1_compare_91 {l : Launch} {d : Nat} {Q : tq_R → tq_H → Prop} {bc bs : Nat} (hd9 : 2 ≤ d) (i0 : Nat) (i1 : Nat) (i2 : Nat) (i3 : Int32) (i4 : Int32) (i5 : Int32) (i6 : Int32) : ∀ (n : Nat) (y7 : Int32) (hh : tq_H) (o : tq_H), tq_loop (f_X1_compare_b91 i0 i1 i2 i3 i4 i5 i6) n (y7, hh) = some o → tq_W l mX1_compare d bc bs Q 167 [] [] o → tq_W l mX1_compare d bc bs Q 91 [(0, .ref i0), (1, .ref i1), (2, .ref i2), (3, .int i3), (4, .int i4), (5, .int i5), (6, .int i6), (7, .int y7)] [] hh := by
  intro n
  induction n with
  | zero => intro y7 hh o hl; cases hl
  | succ n ih =>
    intro y7 hh o hl hk
    obtain ⟨oo, hf, ho⟩ := tq_loop_s hl
    refine tq_iload (M := mX1_compare) (pc := 91) dX1_compare_91 rfl ?_
    refine tq_iload_n (M := mX1_compare) (pc := 93) dX1_compare_93 rfl ?_
    refine tq_icmp_gt (M := mX1_compare) (pc := 94) (tgt := 167) dX1_compare_94 (by decide) (fun cc => ?_) (fun cc => ?_)
    · have hf := tq_ifp hf cc
      refine tq_pick (L2 := []) [] rfl ?_
      cases (Option.some.inj hf)
      cases (tq_lx ho)
      exact hk
    · have hf := tq_ifn hf cc
      refine tq_iload (M := mX1_compare) (pc := 97) dX1_compare_97 rfl ?_
      refine tq_istore (M := mX1_compare) (pc := 99) dX1_compare_99 (L2 := [(8, .int i6), (0, .ref i0), (1, .ref i1), (2, .ref i2), (3, .int i3), (4, .int i4), (5, .int i5), (6, .int i6), (7, .int y7)]) (by decide) rfl ?_
      obtain ⟨o29, eo29, hf⟩ := tq_be hf
      refine tq_pick (L2 := [(0, .ref i0), (1, .ref i1), (2, .ref i2), (3, .int i3), (4, .int i4), (5, .int i5), (6, .int i6), (7, .int y7), (8, .int i6)]) [1, 2, 3, 4, 5, 6, 7, 8, 0] rfl ?_
      refine l_X1_compare_101 (bc := bc) (bs := bs) (by omega) i0 i1 i2 i3 i4 i5 i6 y7 _ i6 hh _ eo29 ?_
      obtain ⟨x30, ex30, hf⟩ := tq_le hf
      refine tq_iinc (M := mX1_compare) (pc := 161) (v := x30) (L2 := [(7, .int x30), (0, .ref i0), (1, .ref i1), (2, .ref i2), (3, .int i3), (4, .int i4), (5, .int i5), (6, .int i6)]) dX1_compare_161 rfl (by rw [ex30, tk_ki_1]) (by decide) rfl ?_
      refine tq_goto (M := mX1_compare) (pc := 164) (tgt := 91) dX1_compare_164 (by decide) ?_
      refine tq_pick (L2 := [(0, .ref i0), (1, .ref i1), (2, .ref i2), (3, .int i3), (4, .int i4), (5, .int i5), (6, .int i6), (7, .int x30)]) [1, 2, 3, 4, 5, 6, 7, 0] rfl ?_
      cases (Option.some.inj hf)
      exact ih _ _ o (tq_lc ho) hk
set_option maxHeartbeats 4000000 in
set_option maxRecDepth 20000 in
theorem w_X1_compare {l : Launch} {d : Nat} (hd9 : 2 ≤ d) {t : Nat} {a1 : Nat} {a2 : Nat} {a3 : Int32} {a4 : Int32} {h : tq_H} {o : tq_H} {Q : tq_R → tq_H → Prop} (hf : f_X1_compare t a1 a2 a3 a4 h = some o) (hQ : ∀ r h9, r = .inl none ∧ o = h9 → Q r h9) : tq_C l yX1_compare cX1_compare 10 none d 0 0 [.ref t, .ref a1, .ref a2, .int a3, .int a4] h Q := by
  refine tq_body (y := yX1_compare) false (by decide +kernel) (fun z => by cases z) (Nat.le_of_ble_eq_true rfl) ?_
  show tq_W l mX1_compare d 0 0 Q 0 [(0, .ref t), (1, .ref a1), (2, .ref a2), (3, .int a3), (4, .int a4)] [] h
  refine tq_aload_n (M := mX1_compare) (pc := 0) dX1_compare_0 rfl ?_
  obtain ⟨k1, ek1, hf⟩ := tq_be hf
  refine tq_getR (M := mX1_compare) (pc := 1) tk_c1 (by decide) dX1_compare_1 tk_RX1_20 rfl ek1 ?_
  refine tq_iload_n (M := mX1_compare) (pc := 4) dX1_compare_4 rfl ?_
  obtain ⟨⟨⟩, eu3, hf⟩ := tq_be hf
  obtain ⟨fsu3, eu3⟩ := tq_is_s eu3
  obtain ⟨v2, ev2, hf⟩ := tq_be hf
  refine tq_calV (M := mX1_compare) (pc := 5) (S := []) tk_y_X5_get tk_v_X5_get tk_RX1_38 dX1_compare_5 [.int a3] rfl (S0 := _) rfl eu3 rfl (Nat.le_of_ble_eq_true rfl) (d1 := d - 1) (b1 := 0) (s1 := 0) (bc' := 0) (bs' := 0) (Q1 := fun r h9 => r = .inl (some (.int v2)) ∧ h = h9) (by omega) rfl rfl (w_X5_get (by omega) ev2 (fun _ _ q => q)) (fun E h9 q => nomatch (show (Sum.inr E : tq_R) = Sum.inl _ from q.1)) (fun r9 h9 q => ?_)
  obtain ⟨q1, rfl⟩ := q
  cases (show (Sum.inl r9 : tq_R) = Sum.inl (some (.int v2)) from q1)
  refine tq_istore (M := mX1_compare) (pc := 8) dX1_compare_8 (L2 := [(5, .int v2), (0, .ref t), (1, .ref a1), (2, .ref a2), (3, .int a3), (4, .int a4)]) (by decide) rfl ?_
  refine tq_aload_n (M := mX1_compare) (pc := 10) dX1_compare_10 rfl ?_
  obtain ⟨k4, ek4, hf⟩ := tq_be hf
  refine tq_getR (M := mX1_compare) (pc := 11) tk_c1 (by decide) dX1_compare_11 tk_RX1_26 rfl ek4 ?_
  refine tq_iload (M := mX1_compare) (pc := 14) dX1_compare_14 rfl ?_
  obtain ⟨⟨⟩, eu6, hf⟩ := tq_be hf
  obtain ⟨fsu6, eu6⟩ := tq_is_s eu6
  obtain ⟨v5, ev5, hf⟩ := tq_be hf
  refine tq_calV (M := mX1_compare) (pc := 16) (S := []) tk_y_X5_get tk_v_X5_get tk_RX1_38 dX1_compare_16 [.int a4] rfl (S0 := _) rfl eu6 rfl (Nat.le_of_ble_eq_true rfl) (d1 := d - 1) (b1 := 0) (s1 := 0) (bc' := 0) (bs' := 0) (Q1 := fun r h9 => r = .inl (some (.int v5)) ∧ h = h9) (by omega) rfl rfl (w_X5_get (by omega) ev5 (fun _ _ q => q)) (fun E h9 q => nomatch (show (Sum.inr E : tq_R) = Sum.inl _ from q.1)) (fun r9 h9 q => ?_)
  obtain ⟨q1, rfl⟩ := q
  cases (show (Sum.inl r9 : tq_R) = Sum.inl (some (.int v5)) from q1)
  refine tq_istore (M := mX1_compare) (pc := 19) dX1_compare_19 (L2 := [(6, .int v5), (5, .int v2), (0, .ref t), (1, .ref a1), (2, .ref a2), (3, .int a3), (4, .int a4)]) (by decide) rfl ?_
  refine tq_iconst (M := mX1_compare) (pc := 21) dX1_compare_21 tk_ki_0 ?_
  refine tq_istore (M := mX1_compare) (pc := 22) dX1_compare_22 (L2 := [(7, .int (0 : Int32)), (6, .int v5), (5, .int v2), (0, .ref t), (1, .ref a1), (2, .ref a2), (3, .int a3), (4, .int a4)]) (by decide) rfl ?_
  obtain ⟨o11, eo11, hf⟩ := tq_be hf
  refine tq_pick (L2 := [(0, .ref t), (1, .ref a1), (2, .ref a2), (3, .int a3), (4, .int a4), (5, .int v2), (6, .int v5), (7, .int (0 : Int32))]) [3, 4, 5, 6, 7, 2, 1, 0] rfl ?_
  refine l_X1_compare_24 (bc := 0) (bs := 0) (by omega) t a1 a2 a3 a4 v2 v5 _ (0 : Int32) h _ eo11 ?_
  refine tq_iconst (M := mX1_compare) (pc := 55) dX1_compare_55 tk_ki_0 ?_
  refine tq_istore (M := mX1_compare) (pc := 56) dX1_compare_56 (L2 := [(7, .int (0 : Int32)), (0, .ref t), (1, .ref a1), (2, .ref a2), (3, .int a3), (4, .int a4), (5, .int v2), (6, .int v5)]) (by decide) rfl ?_
  obtain ⟨o16, eo16, hf⟩ := tq_be hf
  refine tq_pick (L2 := [(0, .ref t), (1, .ref a1), (2, .ref a2), (3, .int a3), (4, .int a4), (5, .int v2), (6, .int v5), (7, .int (0 : Int32))]) [1, 2, 3, 4, 5, 6, 7, 0] rfl ?_
  refine l_X1_compare_58 (bc := 0) (bs := 0) (by omega) t a1 a2 a3 a4 v2 v5 _ (0 : Int32) o11 _ eo16 ?_
  refine tq_iload (M := mX1_compare) (pc := 87) dX1_compare_87 rfl ?_
  refine tq_istore (M := mX1_compare) (pc := 89) dX1_compare_89 (L2 := [(7, .int v2), (0, .ref t), (1, .ref a1), (2, .ref a2), (3, .int a3), (4, .int a4), (5, .int v2), (6, .int v5)]) (by decide) rfl ?_
  obtain ⟨o31, eo31, hf⟩ := tq_be hf
  refine tq_pick (L2 := [(0, .ref t), (1, .ref a1), (2, .ref a2), (3, .int a3), (4, .int a4), (5, .int v2), (6, .int v5), (7, .int v2)]) [1, 2, 3, 4, 5, 6, 7, 0] rfl ?_
  refine l_X1_compare_91 (bc := 0) (bs := 0) (by omega) t a1 a2 a3 a4 v2 v5 _ v2 o16 _ eo31 ?_
  refine tq_vret (M := mX1_compare) (pc := 167) dX1_compare_167 rfl ?_
  cases (Option.some.inj hf)
  exact hQ _ _ ⟨rfl, rfl⟩
abbrev mX1_count : tq_M := (RX1, cX1_count, 11, (some .int), false, [], none)
def f_X1_count_b80 (i0 : Nat) (i1 : Nat) (i2 : Nat) (i3 : Int32) (i4 : Int32) (i5 : Int64) (i7 : Int64) (i9 : Int32) (s : Int32 × tq_H) : Option ((Int32 × tq_H) ⊕ (tq_H)) := match s with
  | (y10, hh) =>
    if y10 ≥ i4 then
      some (.inr hh)
    else
      (f_X0_holds i5 i9 hh).bind fun v19 =>
      (if v19 = 0 then
        some hh
      else
        (f_X0_holds i7 y10 hh).bind fun v20 =>
        if v20 = 0 then
          some hh
        else
          (tq_is hh i0 1).bind fun _ =>
          (f_X1_compare i0 i1 i2 i9 y10 hh).bind fun v21 =>
          some v21).bind fun p23 =>
      tq_let (y10 + (1 : Int32)) fun x24 =>
      some (.inl (x24, p23))
def f_X1_count_b71 (i0 : Nat) (i1 : Nat) (i2 : Nat) (i3 : Int32) (i4 : Int32) (i5 : Int64) (i7 : Int64) (s : Int32 × tq_H) : Option ((Int32 × tq_H) ⊕ (tq_H)) := match s with
  | (y9, hh) =>
    if y9 ≥ i3 then
      some (.inr hh)
    else
      (tq_loop (f_X1_count_b80 i0 i1 i2 i3 i4 i5 i7 y9) tq_N ((0 : Int32), hh)).bind fun o25 =>
      tq_let (y9 + (1 : Int32)) fun x26 =>
      some (.inl (x26, o25))
def f_X1_count (t : Nat) (a1 : Nat) (a2 : Nat) (h : tq_H) : Option (Int32 × tq_H) :=
  (tq_gr h a1 8 0).bind fun k1 =>
  (tq_gr h t 1 0).bind fun k2 =>
  (tq_gr h t 1 1).bind fun k3 =>
  (f_X1_line k1 k2 k3 h).bind fun v4 =>
  (tq_gr v4 a2 8 0).bind fun k5 =>
  (tq_gr v4 t 1 2).bind fun k6 =>
  (tq_gr v4 t 1 3).bind fun k7 =>
  (f_X1_line k5 k6 k7 v4).bind fun v8 =>
  (tq_gr v8 a1 8 0).bind fun k9 =>
  (tq_is v8 k9 3).bind fun _ =>
  (f_X3_count k9 v8).bind fun v10 =>
  (tq_gr v8 a2 8 0).bind fun k12 =>
  (tq_is v8 k12 3).bind fun _ =>
  (f_X3_count k12 v8).bind fun v13 =>
  (tq_gr v8 t 1 1).bind fun k15 =>
  (f_X1_outermost k15 v10 v8).bind fun v16 =>
  (tq_gr v8 t 1 3).bind fun k17 =>
  (f_X1_outermost k17 v13 v8).bind fun v18 =>
  (tq_loop (f_X1_count_b71 t a1 a2 v10 v13 v16 v18) tq_N ((0 : Int32), v8)).bind fun o27 =>
  (tq_gr o27 t 1 4).bind fun k28 =>
  (tq_is o27 k28 5).bind fun _ =>
  (f_X5_get k28 ((((v10 - (1 : Int32)) * (61 : Int32)) + v13) - (1 : Int32)) o27).bind fun v29 =>
  some (v29, o27)
set_option maxHeartbeats 4000000 in
theorem l_X1_count_80 {l : Launch} {d : Nat} {Q : tq_R → tq_H → Prop} {bc bs : Nat} (hd9 : 3 ≤ d) (i0 : Nat) (i1 : Nat) (i2 : Nat) (i3 : Int32) (i4 : Int32) (i5 : Int64) (i7 : Int64) (i9 : Int32) : ∀ (n : Nat) (y10 : Int32) (hh : tq_H) (o : tq_H), tq_loop (f_X1_count_b80 i0 i1 i2 i3 i4 i5 i7 i9) n (y10, hh) = some o → tq_W l mX1_count d bc bs Q 123 [(0, .ref i0), (1, .ref i1), (2, .ref i2), (3, .int i3), (4, .int i4), (5, .long i5), (7, .long i7), (9, .int i9)] [] o → tq_W l mX1_count d bc bs Q 80 [(0, .ref i0), (1, .ref i1), (2, .ref i2), (3, .int i3), (4, .int i4), (5, .long i5), (7, .long i7), (9, .int i9), (10, .int y10)] [] hh := by
  intro n
  induction n with
  | zero => intro y10 hh o hl; cases hl
  | succ n ih =>
    intro y10 hh o hl hk
    obtain ⟨oo, hf, ho⟩ := tq_loop_s hl
    refine tq_iload (M := mX1_count) (pc := 80) dX1_count_80 rfl ?_
    refine tq_iload (M := mX1_count) (pc := 82) dX1_count_82 rfl ?_
    refine tq_icmp_ge (M := mX1_count) (pc := 84) (tgt := 123) dX1_count_84 (by decide) (fun cc => ?_) (fun cc => ?_)
    · have hf := tq_ifp hf cc
      refine tq_pick (L2 := [(0, .ref i0), (1, .ref i1), (2, .ref i2), (3, .int i3), (4, .int i4), (5, .long i5), (7, .long i7), (9, .int i9)]) [0, 1, 2, 3, 4, 5, 6, 7] rfl ?_
      cases (Option.some.inj hf)
      cases (tq_lx ho)
      exact hk
    · have hf := tq_ifn hf cc
      refine tq_lload (M := mX1_count) (pc := 87) dX1_count_87 rfl ?_
      refine tq_iload (M := mX1_count) (pc := 89) dX1_count_89 rfl ?_
      obtain ⟨v19, ev19, hf⟩ := tq_be hf
      refine tq_calS (M := mX1_count) (pc := 91) (S := []) tk_y_X0_holds tk_s_X0_holds tk_RX1_65 dX1_count_91 [.long i5, .int i9] rfl (Nat.le_of_ble_eq_true rfl) (d1 := d - 1) (b1 := 0) (s1 := 0) (bc' := bc) (bs' := bs) (Q1 := fun r h9 => r = .inl (some (.int v19)) ∧ hh = h9) (by omega) (by omega) (by omega) (w_X0_holds (by omega) ev19 (fun _ _ q => q)) (fun E h9 q => nomatch (show (Sum.inr E : tq_R) = Sum.inl _ from q.1)) (fun r9 h9 q => ?_)
      obtain ⟨q1, rfl⟩ := q
      cases (show (Sum.inl r9 : tq_R) = Sum.inl (some (.int v19)) from q1)
      obtain ⟨p23, ep23, hf⟩ := tq_be hf
      have HJ94 : tq_W l mX1_count d bc bs Q 117 [(0, .ref i0), (1, .ref i1), (2, .ref i2), (3, .int i3), (4, .int i4), (5, .long i5), (7, .long i7), (9, .int i9), (10, .int y10)] [] p23 := by
        obtain ⟨x24, ex24, hf⟩ := tq_le hf
        refine tq_iinc (M := mX1_count) (pc := 117) (v := x24) (L2 := [(10, .int x24), (0, .ref i0), (1, .ref i1), (2, .ref i2), (3, .int i3), (4, .int i4), (5, .long i5), (7, .long i7), (9, .int i9)]) dX1_count_117 rfl (by rw [ex24, tk_ki_1]) (by decide) rfl ?_
        refine tq_goto (M := mX1_count) (pc := 120) (tgt := 80) dX1_count_120 (by decide) ?_
        refine tq_pick (L2 := [(0, .ref i0), (1, .ref i1), (2, .ref i2), (3, .int i3), (4, .int i4), (5, .long i5), (7, .long i7), (9, .int i9), (10, .int x24)]) [1, 2, 3, 4, 5, 6, 7, 8, 0] rfl ?_
        cases (Option.some.inj hf)
        exact ih _ _ o (tq_lc ho) hk
      refine tq_if_eq (M := mX1_count) (pc := 94) (tgt := 117) dX1_count_94 (by decide) (fun cc => ?_) (fun cc => ?_)
      · have hf := tq_ifp ep23 cc
        cases (Option.some.inj hf)
        exact HJ94
      · have hf := tq_ifn ep23 cc
        refine tq_lload (M := mX1_count) (pc := 97) dX1_count_97 rfl ?_
        refine tq_iload (M := mX1_count) (pc := 99) dX1_count_99 rfl ?_
        obtain ⟨v20, ev20, hf⟩ := tq_be hf
        refine tq_calS (M := mX1_count) (pc := 101) (S := []) tk_y_X0_holds tk_s_X0_holds tk_RX1_65 dX1_count_101 [.long i7, .int y10] rfl (Nat.le_of_ble_eq_true rfl) (d1 := d - 1) (b1 := 0) (s1 := 0) (bc' := bc) (bs' := bs) (Q1 := fun r h9 => r = .inl (some (.int v20)) ∧ hh = h9) (by omega) (by omega) (by omega) (w_X0_holds (by omega) ev20 (fun _ _ q => q)) (fun E h9 q => nomatch (show (Sum.inr E : tq_R) = Sum.inl _ from q.1)) (fun r9 h9 q => ?_)
        obtain ⟨q1, rfl⟩ := q
        cases (show (Sum.inl r9 : tq_R) = Sum.inl (some (.int v20)) from q1)
        refine tq_if_eq (M := mX1_count) (pc := 104) (tgt := 117) dX1_count_104 (by decide) (fun cc => ?_) (fun cc => ?_)
        · have hf := tq_ifp hf cc
          cases (Option.some.inj hf)
          exact HJ94
        · have hf := tq_ifn hf cc
          refine tq_aload_n (M := mX1_count) (pc := 107) dX1_count_107 rfl ?_
          refine tq_aload_n (M := mX1_count) (pc := 108) dX1_count_108 rfl ?_
          refine tq_aload_n (M := mX1_count) (pc := 109) dX1_count_109 rfl ?_
          refine tq_iload (M := mX1_count) (pc := 110) dX1_count_110 rfl ?_
          refine tq_iload (M := mX1_count) (pc := 112) dX1_count_112 rfl ?_
          obtain ⟨⟨⟩, eu22, hf⟩ := tq_be hf
          obtain ⟨fsu22, eu22⟩ := tq_is_s eu22
          obtain ⟨v21, ev21, hf⟩ := tq_be hf
          refine tq_calV (M := mX1_count) (pc := 114) (S := []) tk_y_X1_compare tk_v_X1_compare tk_RX1_71 dX1_count_114 [.ref i1, .ref i2, .int i9, .int y10] rfl (S0 := _) rfl eu22 rfl (Nat.le_of_ble_eq_true rfl) (d1 := d - 1) (b1 := 0) (s1 := 0) (bc' := bc) (bs' := bs) (Q1 := fun r h9 => r = .inl none ∧ v21 = h9) (by omega) (by omega) (by omega) (w_X1_compare (by omega) ev21 (fun _ _ q => q)) (fun E h9 q => nomatch (show (Sum.inr E : tq_R) = Sum.inl _ from q.1)) (fun r9 h9 q => ?_)
          obtain ⟨q1, rfl⟩ := q
          cases (show (Sum.inl r9 : tq_R) = Sum.inl (none) from q1)
          cases (Option.some.inj hf)
          exact HJ94
set_option maxHeartbeats 4000000 in
theorem l_X1_count_71 {l : Launch} {d : Nat} {Q : tq_R → tq_H → Prop} {bc bs : Nat} (hd9 : 3 ≤ d) (i0 : Nat) (i1 : Nat) (i2 : Nat) (i3 : Int32) (i4 : Int32) (i5 : Int64) (i7 : Int64) : ∀ (n : Nat) (y9 : Int32) (hh : tq_H) (o : tq_H), tq_loop (f_X1_count_b71 i0 i1 i2 i3 i4 i5 i7) n (y9, hh) = some o → tq_W l mX1_count d bc bs Q 129 [(0, .ref i0), (3, .int i3), (4, .int i4)] [] o → tq_W l mX1_count d bc bs Q 71 [(0, .ref i0), (1, .ref i1), (2, .ref i2), (3, .int i3), (4, .int i4), (5, .long i5), (7, .long i7), (9, .int y9)] [] hh := by
  intro n
  induction n with
  | zero => intro y9 hh o hl; cases hl
  | succ n ih =>
    intro y9 hh o hl hk
    obtain ⟨oo, hf, ho⟩ := tq_loop_s hl
    refine tq_iload (M := mX1_count) (pc := 71) dX1_count_71 rfl ?_
    refine tq_iload_n (M := mX1_count) (pc := 73) dX1_count_73 rfl ?_
    refine tq_icmp_ge (M := mX1_count) (pc := 74) (tgt := 129) dX1_count_74 (by decide) (fun cc => ?_) (fun cc => ?_)
    · have hf := tq_ifp hf cc
      refine tq_pick (L2 := [(0, .ref i0), (3, .int i3), (4, .int i4)]) [0, 3, 4] rfl ?_
      cases (Option.some.inj hf)
      cases (tq_lx ho)
      exact hk
    · have hf := tq_ifn hf cc
      refine tq_iconst (M := mX1_count) (pc := 77) dX1_count_77 tk_ki_0 ?_
      refine tq_istore (M := mX1_count) (pc := 78) dX1_count_78 (L2 := [(10, .int (0 : Int32)), (0, .ref i0), (1, .ref i1), (2, .ref i2), (3, .int i3), (4, .int i4), (5, .long i5), (7, .long i7), (9, .int y9)]) (by decide) rfl ?_
      obtain ⟨o25, eo25, hf⟩ := tq_be hf
      refine tq_pick (L2 := [(0, .ref i0), (1, .ref i1), (2, .ref i2), (3, .int i3), (4, .int i4), (5, .long i5), (7, .long i7), (9, .int y9), (10, .int (0 : Int32))]) [1, 2, 3, 4, 5, 6, 7, 8, 0] rfl ?_
      refine l_X1_count_80 (bc := bc) (bs := bs) (by omega) i0 i1 i2 i3 i4 i5 i7 y9 _ (0 : Int32) hh _ eo25 ?_
      obtain ⟨x26, ex26, hf⟩ := tq_le hf
      refine tq_iinc (M := mX1_count) (pc := 123) (v := x26) (L2 := [(9, .int x26), (0, .ref i0), (1, .ref i1), (2, .ref i2), (3, .int i3), (4, .int i4), (5, .long i5), (7, .long i7)]) dX1_count_123 rfl (by rw [ex26, tk_ki_1]) (by decide) rfl ?_
      refine tq_goto (M := mX1_count) (pc := 126) (tgt := 71) dX1_count_126 (by decide) ?_
      refine tq_pick (L2 := [(0, .ref i0), (1, .ref i1), (2, .ref i2), (3, .int i3), (4, .int i4), (5, .long i5), (7, .long i7), (9, .int x26)]) [1, 2, 3, 4, 5, 6, 7, 0] rfl ?_
      cases (Option.some.inj hf)
      exact ih _ _ o (tq_lc ho) hk
set_option maxHeartbeats 4000000 in
set_option maxRecDepth 20000 in
theorem w_X1_count {l : Launch} {d : Nat} (hd9 : 3 ≤ d) {t : Nat} {a1 : Nat} {a2 : Nat} {h : tq_H} {o : Int32 × tq_H} {Q : tq_R → tq_H → Prop} (hf : f_X1_count t a1 a2 h = some o) (hQ : ∀ r h9, r = .inl (some (.int o.1)) ∧ o.2 = h9 → Q r h9) : tq_C l yX1_count cX1_count 11 (some .int) d 0 0 [.ref t, .ref a1, .ref a2] h Q := by
  refine tq_body (y := yX1_count) false (by decide +kernel) (fun z => by cases z) (Nat.le_of_ble_eq_true rfl) ?_
  show tq_W l mX1_count d 0 0 Q 0 [(0, .ref t), (1, .ref a1), (2, .ref a2)] [] h
  refine tq_aload_n (M := mX1_count) (pc := 0) dX1_count_0 rfl ?_
  obtain ⟨k1, ek1, hf⟩ := tq_be hf
  refine tq_getR (M := mX1_count) (pc := 1) tk_c8 (by decide) dX1_count_1 tk_RX1_45 rfl ek1 ?_
  refine tq_aload_n (M := mX1_count) (pc := 4) dX1_count_4 rfl ?_
  obtain ⟨k2, ek2, hf⟩ := tq_be hf
  refine tq_getR (M := mX1_count) (pc := 5) tk_c1 (by decide) dX1_count_5 tk_RX1_14 rfl ek2 ?_
  refine tq_aload_n (M := mX1_count) (pc := 8) dX1_count_8 rfl ?_
  obtain ⟨k3, ek3, hf⟩ := tq_be hf
  refine tq_getR (M := mX1_count) (pc := 9) tk_c1 (by decide) dX1_count_9 tk_RX1_20 rfl ek3 ?_
  obtain ⟨v4, ev4, hf⟩ := tq_be hf
  refine tq_calS (M := mX1_count) (pc := 12) (S := []) tk_y_X1_line tk_s_X1_line tk_RX1_51 dX1_count_12 [.ref k1, .ref k2, .ref k3] rfl (Nat.le_of_ble_eq_true rfl) (d1 := d - 1) (b1 := 0) (s1 := 0) (bc' := 0) (bs' := 0) (Q1 := fun r h9 => r = .inl none ∧ v4 = h9) (by omega) rfl rfl (w_X1_line (by omega) ev4 (fun _ _ q => q)) (fun E h9 q => nomatch (show (Sum.inr E : tq_R) = Sum.inl _ from q.1)) (fun r9 h9 q => ?_)
  obtain ⟨q1, rfl⟩ := q
  cases (show (Sum.inl r9 : tq_R) = Sum.inl (none) from q1)
  refine tq_aload_n (M := mX1_count) (pc := 15) dX1_count_15 rfl ?_
  obtain ⟨k5, ek5, hf⟩ := tq_be hf
  refine tq_getR (M := mX1_count) (pc := 16) tk_c8 (by decide) dX1_count_16 tk_RX1_45 rfl ek5 ?_
  refine tq_aload_n (M := mX1_count) (pc := 19) dX1_count_19 rfl ?_
  obtain ⟨k6, ek6, hf⟩ := tq_be hf
  refine tq_getR (M := mX1_count) (pc := 20) tk_c1 (by decide) dX1_count_20 tk_RX1_23 rfl ek6 ?_
  refine tq_aload_n (M := mX1_count) (pc := 23) dX1_count_23 rfl ?_
  obtain ⟨k7, ek7, hf⟩ := tq_be hf
  refine tq_getR (M := mX1_count) (pc := 24) tk_c1 (by decide) dX1_count_24 tk_RX1_26 rfl ek7 ?_
  obtain ⟨v8, ev8, hf⟩ := tq_be hf
  refine tq_calS (M := mX1_count) (pc := 27) (S := []) tk_y_X1_line tk_s_X1_line tk_RX1_51 dX1_count_27 [.ref k5, .ref k6, .ref k7] rfl (Nat.le_of_ble_eq_true rfl) (d1 := d - 1) (b1 := 0) (s1 := 0) (bc' := 0) (bs' := 0) (Q1 := fun r h9 => r = .inl none ∧ v8 = h9) (by omega) rfl rfl (w_X1_line (by omega) ev8 (fun _ _ q => q)) (fun E h9 q => nomatch (show (Sum.inr E : tq_R) = Sum.inl _ from q.1)) (fun r9 h9 q => ?_)
  obtain ⟨q1, rfl⟩ := q
  cases (show (Sum.inl r9 : tq_R) = Sum.inl (none) from q1)
  refine tq_aload_n (M := mX1_count) (pc := 30) dX1_count_30 rfl ?_
  obtain ⟨k9, ek9, hf⟩ := tq_be hf
  refine tq_getR (M := mX1_count) (pc := 31) tk_c8 (by decide) dX1_count_31 tk_RX1_45 rfl ek9 ?_
  obtain ⟨⟨⟩, eu11, hf⟩ := tq_be hf
  obtain ⟨fsu11, eu11⟩ := tq_is_s eu11
  obtain ⟨v10, ev10, hf⟩ := tq_be hf
  refine tq_calV (M := mX1_count) (pc := 34) (S := []) tk_y_X3_count tk_v_X3_count tk_RX1_55 dX1_count_34 [] rfl (S0 := _) rfl eu11 rfl (Nat.le_of_ble_eq_true rfl) (d1 := d - 1) (b1 := 0) (s1 := 0) (bc' := 0) (bs' := 0) (Q1 := fun r h9 => r = .inl (some (.int v10)) ∧ v8 = h9) (by omega) rfl rfl (w_X3_count (by omega) ev10 (fun _ _ q => q)) (fun E h9 q => nomatch (show (Sum.inr E : tq_R) = Sum.inl _ from q.1)) (fun r9 h9 q => ?_)
  obtain ⟨q1, rfl⟩ := q
  cases (show (Sum.inl r9 : tq_R) = Sum.inl (some (.int v10)) from q1)
  refine tq_istore_n (M := mX1_count) (pc := 37) rfl dX1_count_37 (L2 := [(3, .int v10), (0, .ref t), (1, .ref a1), (2, .ref a2)]) (by decide) rfl ?_
  refine tq_aload_n (M := mX1_count) (pc := 38) dX1_count_38 rfl ?_
  obtain ⟨k12, ek12, hf⟩ := tq_be hf
  refine tq_getR (M := mX1_count) (pc := 39) tk_c8 (by decide) dX1_count_39 tk_RX1_45 rfl ek12 ?_
  obtain ⟨⟨⟩, eu14, hf⟩ := tq_be hf
  obtain ⟨fsu14, eu14⟩ := tq_is_s eu14
  obtain ⟨v13, ev13, hf⟩ := tq_be hf
  refine tq_calV (M := mX1_count) (pc := 42) (S := []) tk_y_X3_count tk_v_X3_count tk_RX1_55 dX1_count_42 [] rfl (S0 := _) rfl eu14 rfl (Nat.le_of_ble_eq_true rfl) (d1 := d - 1) (b1 := 0) (s1 := 0) (bc' := 0) (bs' := 0) (Q1 := fun r h9 => r = .inl (some (.int v13)) ∧ v8 = h9) (by omega) rfl rfl (w_X3_count (by omega) ev13 (fun _ _ q => q)) (fun E h9 q => nomatch (show (Sum.inr E : tq_R) = Sum.inl _ from q.1)) (fun r9 h9 q => ?_)
  obtain ⟨q1, rfl⟩ := q
  cases (show (Sum.inl r9 : tq_R) = Sum.inl (some (.int v13)) from q1)
  refine tq_istore (M := mX1_count) (pc := 45) dX1_count_45 (L2 := [(4, .int v13), (3, .int v10), (0, .ref t), (1, .ref a1), (2, .ref a2)]) (by decide) rfl ?_
  refine tq_aload_n (M := mX1_count) (pc := 47) dX1_count_47 rfl ?_
  obtain ⟨k15, ek15, hf⟩ := tq_be hf
  refine tq_getR (M := mX1_count) (pc := 48) tk_c1 (by decide) dX1_count_48 tk_RX1_20 rfl ek15 ?_
  refine tq_iload_n (M := mX1_count) (pc := 51) dX1_count_51 rfl ?_
  obtain ⟨v16, ev16, hf⟩ := tq_be hf
  refine tq_calS (M := mX1_count) (pc := 52) (S := []) tk_y_X1_outermost tk_s_X1_outermost tk_RX1_61 dX1_count_52 [.ref k15, .int v10] rfl (Nat.le_of_ble_eq_true rfl) (d1 := d - 1) (b1 := 0) (s1 := 0) (bc' := 0) (bs' := 0) (Q1 := fun r h9 => r = .inl (some (.long v16)) ∧ v8 = h9) (by omega) rfl rfl (w_X1_outermost (by omega) ev16 (fun _ _ q => q)) (fun E h9 q => nomatch (show (Sum.inr E : tq_R) = Sum.inl _ from q.1)) (fun r9 h9 q => ?_)
  obtain ⟨q1, rfl⟩ := q
  cases (show (Sum.inl r9 : tq_R) = Sum.inl (some (.long v16)) from q1)
  refine tq_lstore (M := mX1_count) (pc := 55) dX1_count_55 (L2 := [(5, .long v16), (4, .int v13), (3, .int v10), (0, .ref t), (1, .ref a1), (2, .ref a2)]) (by decide) rfl ?_
  refine tq_aload_n (M := mX1_count) (pc := 57) dX1_count_57 rfl ?_
  obtain ⟨k17, ek17, hf⟩ := tq_be hf
  refine tq_getR (M := mX1_count) (pc := 58) tk_c1 (by decide) dX1_count_58 tk_RX1_26 rfl ek17 ?_
  refine tq_iload (M := mX1_count) (pc := 61) dX1_count_61 rfl ?_
  obtain ⟨v18, ev18, hf⟩ := tq_be hf
  refine tq_calS (M := mX1_count) (pc := 63) (S := []) tk_y_X1_outermost tk_s_X1_outermost tk_RX1_61 dX1_count_63 [.ref k17, .int v13] rfl (Nat.le_of_ble_eq_true rfl) (d1 := d - 1) (b1 := 0) (s1 := 0) (bc' := 0) (bs' := 0) (Q1 := fun r h9 => r = .inl (some (.long v18)) ∧ v8 = h9) (by omega) rfl rfl (w_X1_outermost (by omega) ev18 (fun _ _ q => q)) (fun E h9 q => nomatch (show (Sum.inr E : tq_R) = Sum.inl _ from q.1)) (fun r9 h9 q => ?_)
  obtain ⟨q1, rfl⟩ := q
  cases (show (Sum.inl r9 : tq_R) = Sum.inl (some (.long v18)) from q1)
  refine tq_lstore (M := mX1_count) (pc := 66) dX1_count_66 (L2 := [(7, .long v18), (5, .long v16), (4, .int v13), (3, .int v10), (0, .ref t), (1, .ref a1), (2, .ref a2)]) (by decide) rfl ?_
  refine tq_iconst (M := mX1_count) (pc := 68) dX1_count_68 tk_ki_0 ?_
  refine tq_istore (M := mX1_count) (pc := 69) dX1_count_69 (L2 := [(9, .int (0 : Int32)), (7, .long v18), (5, .long v16), (4, .int v13), (3, .int v10), (0, .ref t), (1, .ref a1), (2, .ref a2)]) (by decide) rfl ?_
  obtain ⟨o27, eo27, hf⟩ := tq_be hf
  refine tq_pick (L2 := [(0, .ref t), (1, .ref a1), (2, .ref a2), (3, .int v10), (4, .int v13), (5, .long v16), (7, .long v18), (9, .int (0 : Int32))]) [5, 6, 7, 4, 3, 2, 1, 0] rfl ?_
  refine l_X1_count_71 (bc := 0) (bs := 0) (by omega) t a1 a2 v10 v13 v16 v18 _ (0 : Int32) v8 _ eo27 ?_
  refine tq_aload_n (M := mX1_count) (pc := 129) dX1_count_129 rfl ?_
  obtain ⟨k28, ek28, hf⟩ := tq_be hf
  refine tq_getR (M := mX1_count) (pc := 130) tk_c1 (by decide) dX1_count_130 tk_RX1_29 rfl ek28 ?_
  refine tq_iload_n (M := mX1_count) (pc := 133) dX1_count_133 rfl ?_
  refine tq_iconst (M := mX1_count) (pc := 134) dX1_count_134 tk_ki_1 ?_
  refine tq_isub (M := mX1_count) (pc := 135) dX1_count_135 ?_
  refine tq_bipush (M := mX1_count) (pc := 136) dX1_count_136 tk_kb_61 ?_
  refine tq_imul (M := mX1_count) (pc := 138) dX1_count_138 ?_
  refine tq_iload (M := mX1_count) (pc := 139) dX1_count_139 rfl ?_
  refine tq_iadd (M := mX1_count) (pc := 141) dX1_count_141 ?_
  refine tq_iconst (M := mX1_count) (pc := 142) dX1_count_142 tk_ki_1 ?_
  refine tq_isub (M := mX1_count) (pc := 143) dX1_count_143 ?_
  obtain ⟨⟨⟩, eu30, hf⟩ := tq_be hf
  obtain ⟨fsu30, eu30⟩ := tq_is_s eu30
  obtain ⟨v29, ev29, hf⟩ := tq_be hf
  refine tq_calV (M := mX1_count) (pc := 144) (S := []) tk_y_X5_get tk_v_X5_get tk_RX1_38 dX1_count_144 [.int (((((v10 - (1 : Int32)) * (61 : Int32)) + v13) - (1 : Int32)))] rfl (S0 := _) rfl eu30 rfl (Nat.le_of_ble_eq_true rfl) (d1 := d - 1) (b1 := 0) (s1 := 0) (bc' := 0) (bs' := 0) (Q1 := fun r h9 => r = .inl (some (.int v29)) ∧ o27 = h9) (by omega) rfl rfl (w_X5_get (by omega) ev29 (fun _ _ q => q)) (fun E h9 q => nomatch (show (Sum.inr E : tq_R) = Sum.inl _ from q.1)) (fun r9 h9 q => ?_)
  obtain ⟨q1, rfl⟩ := q
  cases (show (Sum.inl r9 : tq_R) = Sum.inl (some (.int v29)) from q1)
  refine tq_iret (M := mX1_count) (pc := 147) dX1_count_147 rfl ?_
  cases (Option.some.inj hf)
  exact hQ _ _ ⟨rfl, rfl⟩
abbrev mX2_init : tq_M := (RX2, cX2_init, 3, none, true, [], none)
def f_X2_init (t : Nat) (a1 : Nat) (a2 : Nat) (h : tq_H) : Option (tq_H) :=
  tq_let (tq_new h (.inl (7, [.null]))) fun w1 =>
  (f_X7_init h.1 (1200 : Int32) w1).bind fun v2 =>
  (tq_pf v2 t 2 3 (.ref h.1)).bind fun w3 =>
  tq_let (tq_new w3 (.inl (7, [.null]))) fun w4 =>
  (f_X7_init w3.1 (60 : Int32) w4).bind fun v5 =>
  (tq_pf v5 t 2 4 (.ref w3.1)).bind fun w6 =>
  tq_let (tq_new w6 (.inl (5, [.null]))) fun w7 =>
  (f_X5_init w6.1 (60 : Int32) (-1 : Int32) w7).bind fun v8 =>
  (tq_pf v8 t 2 5 (.ref w6.1)).bind fun w9 =>
  (tq_pf w9 t 2 6 (.long (0 : Int64))).bind fun w10 =>
  (tq_pf w10 t 2 7 (.int (0 : Int32))).bind fun w11 =>
  (tq_pf w11 t 2 0 (.ref a1)).bind fun w12 =>
  (tq_gr w12 a1 8 0).bind fun k13 =>
  (tq_pf w12 t 2 1 (.ref k13)).bind fun w14 =>
  (tq_pf w14 t 2 2 (.ref a2)).bind fun w15 =>
  some w15
set_option maxHeartbeats 4000000 in
set_option maxRecDepth 20000 in
theorem w_X2_init {l : Launch} {d : Nat} (hd9 : 2 ≤ d) {t : Nat} {a1 : Nat} {a2 : Nat} {h : tq_H} {o : tq_H} {Q : tq_R → tq_H → Prop} (hf : f_X2_init t a1 a2 h = some o) (hQ : ∀ r h9, r = .inl none ∧ o = h9 → Q r h9) : tq_C l yX2_init cX2_init 3 none d 6 1323 [.ref t, .ref a1, .ref a2] h Q := by
  refine tq_body (y := yX2_init) true (by decide +kernel) (fun _ => rfl) (Nat.le_of_ble_eq_true rfl) ?_
  show tq_W l mX2_init d 6 1323 Q 0 [(0, .ref t), (1, .ref a1), (2, .ref a2)] [] h
  refine tq_aload_n (M := mX2_init) (pc := 0) dX2_init_0 rfl ?_
  refine tq_objinit (M := mX2_init) (pc := 1) dX2_init_1 tk_RX2_3 tk_oi tk_oc (by omega) (Nat.le_of_ble_eq_true rfl) ?_
  refine tq_aload_n (M := mX2_init) (pc := 4) dX2_init_4 rfl ?_
  obtain ⟨w1, ew1, hf⟩ := tq_le hf
  refine tq_newo (M := mX2_init) (pc := 5) tk_c7 dX2_init_5 tk_RX2_9 tk_in7 tk_ini7 (fs := [.null]) (fun j hj => by rcases (show j = 0 by omega) with rfl <;> rfl) (fun _ => ⟨rfl, trivial⟩) (bc' := 5) (bs' := 1322) (by omega) (by omega) ?_
  rw [← ew1]
  refine tq_dup (M := mX2_init) (pc := 8) dX2_init_8 rfl ?_
  refine tq_sipush (M := mX2_init) (pc := 9) dX2_init_9 tk_ks_1200 ?_
  obtain ⟨v2, ev2, hf⟩ := tq_be hf
  refine tq_calI (M := mX2_init) (pc := 12) (S := [.ref h.1, .ref t]) tk_y_X7_init tk_v_X7_init rfl (Or.inl tk_RX2_11) dX2_init_12 [.int (1200 : Int32)] rfl (Nat.le_of_ble_eq_true rfl) (d1 := d - 1) (b1 := 1) (s1 := 1200) (bc' := 4) (bs' := 122) (Q1 := fun r h9 => r = .inl none ∧ v2 = h9) (by omega) rfl rfl (w_X7_init (by omega) (N := 1200) (by decide +kernel) (by decide +kernel) (by decide) ev2 (fun _ _ q => q)) (fun E h9 q => nomatch (show (Sum.inr E : tq_R) = Sum.inl _ from q.1)) (fun r9 h9 q => ?_)
  obtain ⟨q1, rfl⟩ := q
  cases (show (Sum.inl r9 : tq_R) = Sum.inl (none) from q1)
  obtain ⟨w3, ew3, hf⟩ := tq_be hf
  refine tq_putv (M := mX2_init) (pc := 15) tk_c2 (by decide) dX2_init_15 tk_RX2_14 rfl (Or.inr ⟨rfl, rfl⟩) ew3 (tq_nR _ _) ?_
  refine tq_aload_n (M := mX2_init) (pc := 18) dX2_init_18 rfl ?_
  obtain ⟨w4, ew4, hf⟩ := tq_le hf
  refine tq_newo (M := mX2_init) (pc := 19) tk_c7 dX2_init_19 tk_RX2_9 tk_in7 tk_ini7 (fs := [.null]) (fun j hj => by rcases (show j = 0 by omega) with rfl <;> rfl) (fun _ => ⟨rfl, trivial⟩) (bc' := 3) (bs' := 121) (by omega) (by omega) ?_
  rw [← ew4]
  refine tq_dup (M := mX2_init) (pc := 22) dX2_init_22 rfl ?_
  refine tq_bipush (M := mX2_init) (pc := 23) dX2_init_23 tk_kb_60 ?_
  obtain ⟨v5, ev5, hf⟩ := tq_be hf
  refine tq_calI (M := mX2_init) (pc := 25) (S := [.ref w3.1, .ref t]) tk_y_X7_init tk_v_X7_init rfl (Or.inl tk_RX2_11) dX2_init_25 [.int (60 : Int32)] rfl (Nat.le_of_ble_eq_true rfl) (d1 := d - 1) (b1 := 1) (s1 := 60) (bc' := 2) (bs' := 61) (Q1 := fun r h9 => r = .inl none ∧ v5 = h9) (by omega) rfl rfl (w_X7_init (by omega) (N := 60) (by decide +kernel) (by decide +kernel) (by decide) ev5 (fun _ _ q => q)) (fun E h9 q => nomatch (show (Sum.inr E : tq_R) = Sum.inl _ from q.1)) (fun r9 h9 q => ?_)
  obtain ⟨q1, rfl⟩ := q
  cases (show (Sum.inl r9 : tq_R) = Sum.inl (none) from q1)
  obtain ⟨w6, ew6, hf⟩ := tq_be hf
  refine tq_putv (M := mX2_init) (pc := 28) tk_c2 (by decide) dX2_init_28 tk_RX2_20 rfl (Or.inr ⟨rfl, rfl⟩) ew6 (tq_nR _ _) ?_
  refine tq_aload_n (M := mX2_init) (pc := 31) dX2_init_31 rfl ?_
  obtain ⟨w7, ew7, hf⟩ := tq_le hf
  refine tq_newo (M := mX2_init) (pc := 32) tk_c5 dX2_init_32 tk_RX2_23 tk_in5 tk_ini5 (fs := [.null]) (fun j hj => by rcases (show j = 0 by omega) with rfl <;> rfl) (fun _ => ⟨rfl, trivial⟩) (bc' := 1) (bs' := 60) (by omega) (by omega) ?_
  rw [← ew7]
  refine tq_dup (M := mX2_init) (pc := 35) dX2_init_35 rfl ?_
  refine tq_bipush (M := mX2_init) (pc := 36) dX2_init_36 tk_kb_60 ?_
  refine tq_iconst (M := mX2_init) (pc := 38) dX2_init_38 tk_ki_m1 ?_
  obtain ⟨v8, ev8, hf⟩ := tq_be hf
  refine tq_calI (M := mX2_init) (pc := 39) (S := [.ref w6.1, .ref t]) tk_y_X5_init tk_v_X5_init rfl (Or.inl tk_RX2_25) dX2_init_39 [.int (60 : Int32), .int (-1 : Int32)] rfl (Nat.le_of_ble_eq_true rfl) (d1 := d - 1) (b1 := 1) (s1 := 60) (bc' := 0) (bs' := 0) (Q1 := fun r h9 => r = .inl none ∧ v8 = h9) (by omega) rfl rfl (w_X5_init (by omega) (N := 60) (by decide +kernel) (by decide +kernel) (by decide) ev8 (fun _ _ q => q)) (fun E h9 q => nomatch (show (Sum.inr E : tq_R) = Sum.inl _ from q.1)) (fun r9 h9 q => ?_)
  obtain ⟨q1, rfl⟩ := q
  cases (show (Sum.inl r9 : tq_R) = Sum.inl (none) from q1)
  obtain ⟨w9, ew9, hf⟩ := tq_be hf
  refine tq_putv (M := mX2_init) (pc := 42) tk_c2 (by decide) dX2_init_42 tk_RX2_28 rfl (Or.inr ⟨rfl, rfl⟩) ew9 (tq_nR _ _) ?_
  refine tq_aload_n (M := mX2_init) (pc := 45) dX2_init_45 rfl ?_
  refine tq_lconst (M := mX2_init) (pc := 46) dX2_init_46 tk_kl_0 ?_
  obtain ⟨w10, ew10, hf⟩ := tq_be hf
  refine tq_putv (M := mX2_init) (pc := 47) tk_c2 (by decide) dX2_init_47 tk_RX2_32 rfl (Or.inl rfl) ew10 (tq_nL _) ?_
  refine tq_aload_n (M := mX2_init) (pc := 50) dX2_init_50 rfl ?_
  refine tq_iconst (M := mX2_init) (pc := 51) dX2_init_51 tk_ki_0 ?_
  obtain ⟨w11, ew11, hf⟩ := tq_be hf
  refine tq_putv (M := mX2_init) (pc := 52) tk_c2 (by decide) dX2_init_52 tk_RX2_36 rfl (Or.inl rfl) ew11 (tq_nI _) ?_
  refine tq_aload_n (M := mX2_init) (pc := 55) dX2_init_55 rfl ?_
  refine tq_aload_n (M := mX2_init) (pc := 56) dX2_init_56 rfl ?_
  obtain ⟨w12, ew12, hf⟩ := tq_be hf
  refine tq_putv (M := mX2_init) (pc := 57) tk_c2 (by decide) dX2_init_57 tk_RX2_40 rfl (Or.inr ⟨rfl, rfl⟩) ew12 (tq_nR _ _) ?_
  refine tq_aload_n (M := mX2_init) (pc := 60) dX2_init_60 rfl ?_
  refine tq_aload_n (M := mX2_init) (pc := 61) dX2_init_61 rfl ?_
  obtain ⟨k13, ek13, hf⟩ := tq_be hf
  refine tq_getR (M := mX2_init) (pc := 62) tk_c8 (by decide) dX2_init_62 tk_RX2_44 rfl ek13 ?_
  obtain ⟨w14, ew14, hf⟩ := tq_be hf
  refine tq_putv (M := mX2_init) (pc := 65) tk_c2 (by decide) dX2_init_65 tk_RX2_50 rfl (Or.inr ⟨rfl, rfl⟩) ew14 (tq_nR _ _) ?_
  refine tq_aload_n (M := mX2_init) (pc := 68) dX2_init_68 rfl ?_
  refine tq_aload_n (M := mX2_init) (pc := 69) dX2_init_69 rfl ?_
  obtain ⟨w15, ew15, hf⟩ := tq_be hf
  refine tq_putv (M := mX2_init) (pc := 70) tk_c2 (by decide) dX2_init_70 tk_RX2_51 rfl (Or.inr ⟨rfl, rfl⟩) ew15 (tq_nR _ _) ?_
  refine tq_vret (M := mX2_init) (pc := 73) dX2_init_73 rfl ?_
  cases (Option.some.inj hf)
  exact hQ _ _ ⟨rfl, rfl⟩
abbrev mX2_start : tq_M := (RX2, cX2_start, 4, none, false, [], none)
def f_X2_start_b12 (i0 : Nat) (s : Int32 × tq_H) : Option ((Int32 × tq_H) ⊕ (tq_H)) := match s with
  | (y3, hh) =>
    (tq_gr hh i0 2 1).bind fun k3 =>
    (tq_is hh k3 3).bind fun _ =>
    (f_X3_count k3 hh).bind fun v4 =>
    if y3 ≥ v4 then
      some (.inr hh)
    else
      (tq_gr hh i0 2 5).bind fun k6 =>
      (tq_gr hh i0 2 0).bind fun k7 =>
      (tq_gl hh i0 2 6).bind fun x8 =>
      (tq_is hh k7 8).bind fun _ =>
      (f_X8_valueAt k7 y3 x8 hh).bind fun v9 =>
      (tq_is hh k6 5).bind fun _ =>
      (f_X5_set k6 y3 v9 hh).bind fun v11 =>
      tq_let (y3 + (1 : Int32)) fun x13 =>
      some (.inl (x13, v11))
def f_X2_start (t : Nat) (a1 : Int64) (h : tq_H) : Option (tq_H) :=
  (tq_pf h t 2 6 (.long a1)).bind fun w1 =>
  (tq_pf w1 t 2 7 (.int (0 : Int32))).bind fun w2 =>
  (tq_loop (f_X2_start_b12 t) tq_N ((0 : Int32), w2)).bind fun o14 =>
  some o14
set_option maxHeartbeats 4000000 in
theorem l_X2_start_12 {l : Launch} {d : Nat} {Q : tq_R → tq_H → Prop} {bc bs : Nat} (hd9 : 5 ≤ d) (i0 : Nat) : ∀ (n : Nat) (y3 : Int32) (hh : tq_H) (o : tq_H), tq_loop (f_X2_start_b12 i0) n (y3, hh) = some o → tq_W l mX2_start d bc bs Q 49 [] [] o → tq_W l mX2_start d bc bs Q 12 [(0, .ref i0), (3, .int y3)] [] hh := by
  intro n
  induction n with
  | zero => intro y3 hh o hl; cases hl
  | succ n ih =>
    intro y3 hh o hl hk
    obtain ⟨oo, hf, ho⟩ := tq_loop_s hl
    refine tq_iload_n (M := mX2_start) (pc := 12) dX2_start_12 rfl ?_
    refine tq_aload_n (M := mX2_start) (pc := 13) dX2_start_13 rfl ?_
    obtain ⟨k3, ek3, hf⟩ := tq_be hf
    refine tq_getR (M := mX2_start) (pc := 14) tk_c2 (by decide) dX2_start_14 tk_RX2_50 rfl ek3 ?_
    obtain ⟨⟨⟩, eu5, hf⟩ := tq_be hf
    obtain ⟨fsu5, eu5⟩ := tq_is_s eu5
    obtain ⟨v4, ev4, hf⟩ := tq_be hf
    refine tq_calV (M := mX2_start) (pc := 17) (S := [.int y3]) tk_y_X3_count tk_v_X3_count tk_RX2_55 dX2_start_17 [] rfl (S0 := _) rfl eu5 rfl (Nat.le_of_ble_eq_true rfl) (d1 := d - 1) (b1 := 0) (s1 := 0) (bc' := bc) (bs' := bs) (Q1 := fun r h9 => r = .inl (some (.int v4)) ∧ hh = h9) (by omega) (by omega) (by omega) (w_X3_count (by omega) ev4 (fun _ _ q => q)) (fun E h9 q => nomatch (show (Sum.inr E : tq_R) = Sum.inl _ from q.1)) (fun r9 h9 q => ?_)
    obtain ⟨q1, rfl⟩ := q
    cases (show (Sum.inl r9 : tq_R) = Sum.inl (some (.int v4)) from q1)
    refine tq_icmp_ge (M := mX2_start) (pc := 20) (tgt := 49) dX2_start_20 (by decide) (fun cc => ?_) (fun cc => ?_)
    · have hf := tq_ifp hf cc
      refine tq_pick (L2 := []) [] rfl ?_
      cases (Option.some.inj hf)
      cases (tq_lx ho)
      exact hk
    · have hf := tq_ifn hf cc
      refine tq_aload_n (M := mX2_start) (pc := 23) dX2_start_23 rfl ?_
      obtain ⟨k6, ek6, hf⟩ := tq_be hf
      refine tq_getR (M := mX2_start) (pc := 24) tk_c2 (by decide) dX2_start_24 tk_RX2_28 rfl ek6 ?_
      refine tq_iload_n (M := mX2_start) (pc := 27) dX2_start_27 rfl ?_
      refine tq_aload_n (M := mX2_start) (pc := 28) dX2_start_28 rfl ?_
      obtain ⟨k7, ek7, hf⟩ := tq_be hf
      refine tq_getR (M := mX2_start) (pc := 29) tk_c2 (by decide) dX2_start_29 tk_RX2_40 rfl ek7 ?_
      refine tq_iload_n (M := mX2_start) (pc := 32) dX2_start_32 rfl ?_
      refine tq_aload_n (M := mX2_start) (pc := 33) dX2_start_33 rfl ?_
      obtain ⟨x8, ex8, hf⟩ := tq_be hf
      refine tq_getL (M := mX2_start) (pc := 34) tk_c2 (by decide) dX2_start_34 tk_RX2_32 rfl ex8 ?_
      obtain ⟨⟨⟩, eu10, hf⟩ := tq_be hf
      obtain ⟨fsu10, eu10⟩ := tq_is_s eu10
      obtain ⟨v9, ev9, hf⟩ := tq_be hf
      refine tq_calV (M := mX2_start) (pc := 37) (S := [.int y3, .ref k6]) tk_y_X8_valueAt tk_v_X8_valueAt tk_RX2_61 dX2_start_37 [.int y3, .long x8] rfl (S0 := _) rfl eu10 rfl (Nat.le_of_ble_eq_true rfl) (d1 := d - 1) (b1 := 0) (s1 := 0) (bc' := bc) (bs' := bs) (Q1 := fun r h9 => r = .inl (some (.int v9)) ∧ hh = h9) (by omega) (by omega) (by omega) (w_X8_valueAt (by omega) ev9 (fun _ _ q => q)) (fun E h9 q => nomatch (show (Sum.inr E : tq_R) = Sum.inl _ from q.1)) (fun r9 h9 q => ?_)
      obtain ⟨q1, rfl⟩ := q
      cases (show (Sum.inl r9 : tq_R) = Sum.inl (some (.int v9)) from q1)
      obtain ⟨⟨⟩, eu12, hf⟩ := tq_be hf
      obtain ⟨fsu12, eu12⟩ := tq_is_s eu12
      obtain ⟨v11, ev11, hf⟩ := tq_be hf
      refine tq_calV (M := mX2_start) (pc := 40) (S := []) tk_y_X5_set tk_v_X5_set tk_RX2_65 dX2_start_40 [.int y3, .int v9] rfl (S0 := _) rfl eu12 rfl (Nat.le_of_ble_eq_true rfl) (d1 := d - 1) (b1 := 0) (s1 := 0) (bc' := bc) (bs' := bs) (Q1 := fun r h9 => r = .inl none ∧ v11 = h9) (by omega) (by omega) (by omega) (w_X5_set (by omega) ev11 (fun _ _ q => q)) (fun E h9 q => nomatch (show (Sum.inr E : tq_R) = Sum.inl _ from q.1)) (fun r9 h9 q => ?_)
      obtain ⟨q1, rfl⟩ := q
      cases (show (Sum.inl r9 : tq_R) = Sum.inl (none) from q1)
      obtain ⟨x13, ex13, hf⟩ := tq_le hf
      refine tq_iinc (M := mX2_start) (pc := 43) (v := x13) (L2 := [(3, .int x13), (0, .ref i0)]) dX2_start_43 rfl (by rw [ex13, tk_ki_1]) (by decide) rfl ?_
      refine tq_goto (M := mX2_start) (pc := 46) (tgt := 12) dX2_start_46 (by decide) ?_
      refine tq_pick (L2 := [(0, .ref i0), (3, .int x13)]) [1, 0] rfl ?_
      cases (Option.some.inj hf)
      exact ih _ _ o (tq_lc ho) hk
set_option maxHeartbeats 4000000 in
set_option maxRecDepth 20000 in
theorem w_X2_start {l : Launch} {d : Nat} (hd9 : 5 ≤ d) {t : Nat} {a1 : Int64} {h : tq_H} {o : tq_H} {Q : tq_R → tq_H → Prop} (hf : f_X2_start t a1 h = some o) (hQ : ∀ r h9, r = .inl none ∧ o = h9 → Q r h9) : tq_C l yX2_start cX2_start 4 none d 0 0 [.ref t, .long a1] h Q := by
  refine tq_body (y := yX2_start) false (by decide +kernel) (fun z => by cases z) (Nat.le_of_ble_eq_true rfl) ?_
  show tq_W l mX2_start d 0 0 Q 0 [(0, .ref t), (1, .long a1)] [] h
  refine tq_aload_n (M := mX2_start) (pc := 0) dX2_start_0 rfl ?_
  refine tq_lload_n (M := mX2_start) (pc := 1) dX2_start_1 rfl ?_
  obtain ⟨w1, ew1, hf⟩ := tq_be hf
  refine tq_putv (M := mX2_start) (pc := 2) tk_c2 (by decide) dX2_start_2 tk_RX2_32 rfl (Or.inl rfl) ew1 (tq_nL _) ?_
  refine tq_aload_n (M := mX2_start) (pc := 5) dX2_start_5 rfl ?_
  refine tq_iconst (M := mX2_start) (pc := 6) dX2_start_6 tk_ki_0 ?_
  obtain ⟨w2, ew2, hf⟩ := tq_be hf
  refine tq_putv (M := mX2_start) (pc := 7) tk_c2 (by decide) dX2_start_7 tk_RX2_36 rfl (Or.inl rfl) ew2 (tq_nI _) ?_
  refine tq_iconst (M := mX2_start) (pc := 10) dX2_start_10 tk_ki_0 ?_
  refine tq_istore_n (M := mX2_start) (pc := 11) rfl dX2_start_11 (L2 := [(3, .int (0 : Int32)), (0, .ref t), (1, .long a1)]) (by decide) rfl ?_
  obtain ⟨o14, eo14, hf⟩ := tq_be hf
  refine tq_pick (L2 := [(0, .ref t), (3, .int (0 : Int32))]) [1, 0] rfl ?_
  refine l_X2_start_12 (bc := 0) (bs := 0) (by omega) t _ (0 : Int32) w2 _ eo14 ?_
  refine tq_vret (M := mX2_start) (pc := 49) dX2_start_49 rfl ?_
  cases (Option.some.inj hf)
  exact hQ _ _ ⟨rfl, rfl⟩
abbrev mX2_dropFrom : tq_M := (RX2, cX2_dropFrom, 2, none, false, [], none)
def f_X2_dropFrom (t : Nat) (a1 : Int32) (h : tq_H) : Option (tq_H) :=
  (tq_gi h t 2 7).bind fun x1 =>
  (tq_pf h t 2 7 (.int ((if a1 < x1 then a1 else x1)))).bind fun w2 =>
  some w2
set_option maxHeartbeats 4000000 in
set_option maxRecDepth 20000 in
theorem w_X2_dropFrom {l : Launch} {d : Nat} (hd9 : 1 ≤ d) {t : Nat} {a1 : Int32} {h : tq_H} {o : tq_H} {Q : tq_R → tq_H → Prop} (hf : f_X2_dropFrom t a1 h = some o) (hQ : ∀ r h9, r = .inl none ∧ o = h9 → Q r h9) : tq_C l yX2_dropFrom cX2_dropFrom 2 none d 0 0 [.ref t, .int a1] h Q := by
  refine tq_body (y := yX2_dropFrom) false (by decide +kernel) (fun z => by cases z) (Nat.le_of_ble_eq_true rfl) ?_
  show tq_W l mX2_dropFrom d 0 0 Q 0 [(0, .ref t), (1, .int a1)] [] h
  refine tq_aload_n (M := mX2_dropFrom) (pc := 0) dX2_dropFrom_0 rfl ?_
  refine tq_aload_n (M := mX2_dropFrom) (pc := 1) dX2_dropFrom_1 rfl ?_
  obtain ⟨x1, ex1, hf⟩ := tq_be hf
  refine tq_getI (M := mX2_dropFrom) (pc := 2) tk_c2 (by decide) dX2_dropFrom_2 tk_RX2_36 rfl ex1 ?_
  refine tq_iload_n (M := mX2_dropFrom) (pc := 5) dX2_dropFrom_5 rfl ?_
  refine tq_mmin (M := mX2_dropFrom) (pc := 6) 68 dX2_dropFrom_6 tk_RX2_68 tk_min_s tk_math tk_min_c (by omega) (Nat.le_of_ble_eq_true rfl) ?_
  obtain ⟨w2, ew2, hf⟩ := tq_be hf
  refine tq_putv (M := mX2_dropFrom) (pc := 9) tk_c2 (by decide) dX2_dropFrom_9 tk_RX2_36 rfl (Or.inl rfl) ew2 (tq_nI _) ?_
  refine tq_vret (M := mX2_dropFrom) (pc := 12) dX2_dropFrom_12 rfl ?_
  cases (Option.some.inj hf)
  exact hQ _ _ ⟨rfl, rfl⟩
abbrev mX2_sees : tq_M := (RX2, cX2_sees, 2, (some .boolean), false, [], none)
def f_X2_sees (t : Nat) (a1 : Int32) (h : tq_H) : Option (Int32) :=
  (tq_gl h t 2 6).bind fun x1 =>
  (f_X0_holds x1 a1 h).bind fun v2 =>
  (tq_bz v2).bind fun z3 =>
  some z3
set_option maxHeartbeats 4000000 in
set_option maxRecDepth 20000 in
theorem w_X2_sees {l : Launch} {d : Nat} (hd9 : 1 ≤ d) {t : Nat} {a1 : Int32} {h : tq_H} {o : Int32} {Q : tq_R → tq_H → Prop} (hf : f_X2_sees t a1 h = some o) (hQ : ∀ r h9, r = .inl (some (.int o)) ∧ h = h9 → Q r h9) : tq_C l yX2_sees cX2_sees 2 (some .boolean) d 0 0 [.ref t, .int a1] h Q := by
  refine tq_body (y := yX2_sees) false (by decide +kernel) (fun z => by cases z) (Nat.le_of_ble_eq_true rfl) ?_
  show tq_W l mX2_sees d 0 0 Q 0 [(0, .ref t), (1, .int a1)] [] h
  refine tq_aload_n (M := mX2_sees) (pc := 0) dX2_sees_0 rfl ?_
  obtain ⟨x1, ex1, hf⟩ := tq_be hf
  refine tq_getL (M := mX2_sees) (pc := 1) tk_c2 (by decide) dX2_sees_1 tk_RX2_32 rfl ex1 ?_
  refine tq_iload_n (M := mX2_sees) (pc := 4) dX2_sees_4 rfl ?_
  obtain ⟨v2, ev2, hf⟩ := tq_be hf
  refine tq_calS (M := mX2_sees) (pc := 5) (S := []) tk_y_X0_holds tk_s_X0_holds tk_RX2_74 dX2_sees_5 [.long x1, .int a1] rfl (Nat.le_of_ble_eq_true rfl) (d1 := d - 1) (b1 := 0) (s1 := 0) (bc' := 0) (bs' := 0) (Q1 := fun r h9 => r = .inl (some (.int v2)) ∧ h = h9) (by omega) rfl rfl (w_X0_holds (by omega) ev2 (fun _ _ q => q)) (fun E h9 q => nomatch (show (Sum.inr E : tq_R) = Sum.inl _ from q.1)) (fun r9 h9 q => ?_)
  obtain ⟨q1, rfl⟩ := q
  cases (show (Sum.inl r9 : tq_R) = Sum.inl (some (.int v2)) from q1)
  obtain ⟨z3, ez3, hf⟩ := tq_be hf
  refine tq_zretB (M := mX2_sees) (pc := 8) dX2_sees_8 rfl ez3 ?_
  cases (Option.some.inj hf)
  exact hQ _ _ ⟨rfl, rfl⟩
abbrev mX2_foundFrom : tq_M := (RX2, cX2_foundFrom, 3, (some .long), false, [], none)
def f_X2_foundFrom (t : Nat) (a1 : Int32) (a2 : Int32) (h : tq_H) : Option (Int64) :=
  (tq_gr h t 2 3).bind fun k1 =>
  (tq_is h k1 7).bind fun _ =>
  (f_X7_get k1 ((a1 * (60 : Int32)) + a2) h).bind fun v2 =>
  some v2
set_option maxHeartbeats 4000000 in
set_option maxRecDepth 20000 in
theorem w_X2_foundFrom {l : Launch} {d : Nat} (hd9 : 1 ≤ d) {t : Nat} {a1 : Int32} {a2 : Int32} {h : tq_H} {o : Int64} {Q : tq_R → tq_H → Prop} (hf : f_X2_foundFrom t a1 a2 h = some o) (hQ : ∀ r h9, r = .inl (some (.long o)) ∧ h = h9 → Q r h9) : tq_C l yX2_foundFrom cX2_foundFrom 3 (some .long) d 0 0 [.ref t, .int a1, .int a2] h Q := by
  refine tq_body (y := yX2_foundFrom) false (by decide +kernel) (fun z => by cases z) (Nat.le_of_ble_eq_true rfl) ?_
  show tq_W l mX2_foundFrom d 0 0 Q 0 [(0, .ref t), (1, .int a1), (2, .int a2)] [] h
  refine tq_aload_n (M := mX2_foundFrom) (pc := 0) dX2_foundFrom_0 rfl ?_
  obtain ⟨k1, ek1, hf⟩ := tq_be hf
  refine tq_getR (M := mX2_foundFrom) (pc := 1) tk_c2 (by decide) dX2_foundFrom_1 tk_RX2_14 rfl ek1 ?_
  refine tq_iload_n (M := mX2_foundFrom) (pc := 4) dX2_foundFrom_4 rfl ?_
  refine tq_bipush (M := mX2_foundFrom) (pc := 5) dX2_foundFrom_5 tk_kb_60 ?_
  refine tq_imul (M := mX2_foundFrom) (pc := 7) dX2_foundFrom_7 ?_
  refine tq_iload_n (M := mX2_foundFrom) (pc := 8) dX2_foundFrom_8 rfl ?_
  refine tq_iadd (M := mX2_foundFrom) (pc := 9) dX2_foundFrom_9 ?_
  obtain ⟨⟨⟩, eu3, hf⟩ := tq_be hf
  obtain ⟨fsu3, eu3⟩ := tq_is_s eu3
  obtain ⟨v2, ev2, hf⟩ := tq_be hf
  refine tq_calV (M := mX2_foundFrom) (pc := 10) (S := []) tk_y_X7_get tk_v_X7_get tk_RX2_80 dX2_foundFrom_10 [.int (((a1 * (60 : Int32)) + a2))] rfl (S0 := _) rfl eu3 rfl (Nat.le_of_ble_eq_true rfl) (d1 := d - 1) (b1 := 0) (s1 := 0) (bc' := 0) (bs' := 0) (Q1 := fun r h9 => r = .inl (some (.long v2)) ∧ h = h9) (by omega) rfl rfl (w_X7_get (by omega) ev2 (fun _ _ q => q)) (fun E h9 q => nomatch (show (Sum.inr E : tq_R) = Sum.inl _ from q.1)) (fun r9 h9 q => ?_)
  obtain ⟨q1, rfl⟩ := q
  cases (show (Sum.inl r9 : tq_R) = Sum.inl (some (.long v2)) from q1)
  refine tq_lret (M := mX2_foundFrom) (pc := 13) dX2_foundFrom_13 rfl ?_
  cases (Option.some.inj hf)
  exact hQ _ _ ⟨rfl, rfl⟩
abbrev mX2_reachByPath : tq_M := (RX2, cX2_reachByPath, 11, none, false, [], none)
def f_X2_reachByPath_b41 (i0 : Nat) (i2 : Int64) (i4 : Int32) (i5 : Int32) (hh : tq_H) (s : Int64 × Int64 × Int32) : Option ((Int64 × Int64 × Int32) ⊕ (Int64)) := match s with
  | (y6, y8, y10) =>
    if y10 ≥ (60 : Int32) then
      some (.inr y6)
    else
      if (lg_cmp y8 (0 : Int64)) = 0 then
        some (.inr y6)
      else
        tq_let ((y6 ||| y8)) fun x8 =>
        (tq_gr hh i0 2 3).bind fun k9 =>
        (tq_is hh k9 7).bind fun _ =>
        (f_X7_union k9 i4 y8 hh).bind fun v10 =>
        tq_let ((v10 &&& (x8 ^^^ (-1 : Int64)))) fun x12 =>
        tq_let (y10 + (1 : Int32)) fun x13 =>
        some (.inl (x8, x12, x13))
def f_X2_reachByPath_b9 (i0 : Nat) (i2 : Int64) (i4 : Int32) (s : Int32 × tq_H) : Option ((Int32 × tq_H) ⊕ (tq_H)) := match s with
  | (y5, hh) =>
    (tq_gr hh i0 2 1).bind fun k2 =>
    (tq_is hh k2 3).bind fun _ =>
    (f_X3_count k2 hh).bind fun v3 =>
    if y5 ≥ v3 then
      some (.inr hh)
    else
      (tq_gr hh i0 2 3).bind fun k5 =>
      (tq_is hh k5 7).bind fun _ =>
      (f_X7_get k5 (i4 + y5) hh).bind fun v6 =>
      (tq_loop (f_X2_reachByPath_b41 i0 i2 i4 y5 hh) tq_N ((0 : Int64), v6, (0 : Int32))).bind fun o14 =>
      (tq_gr hh i0 2 4).bind fun k15 =>
      (tq_gl hh i0 2 6).bind fun x16 =>
      (tq_is hh k15 7).bind fun _ =>
      (f_X7_set k15 y5 ((o14 &&& i2) &&& x16) hh).bind fun v17 =>
      tq_let (y5 + (1 : Int32)) fun x19 =>
      some (.inl (x19, v17))
def f_X2_reachByPath (t : Nat) (a1 : Int32) (a2 : Int64) (h : tq_H) : Option (tq_H) :=
  tq_let ((a1 * (60 : Int32))) fun x1 =>
  (tq_loop (f_X2_reachByPath_b9 t a2 x1) tq_N ((0 : Int32), h)).bind fun o20 =>
  some o20
set_option maxHeartbeats 4000000 in
theorem l_X2_reachByPath_41 {l : Launch} {d : Nat} {Q : tq_R → tq_H → Prop} {bc bs : Nat} (hd9 : 3 ≤ d) (i0 : Nat) (i2 : Int64) (i4 : Int32) (i5 : Int32) (hh : tq_H) : ∀ (n : Nat) (y6 : Int64) (y8 : Int64) (y10 : Int32) (o : Int64), tq_loop (f_X2_reachByPath_b41 i0 i2 i4 i5 hh) n (y6, y8, y10) = some o → tq_W l mX2_reachByPath d bc bs Q 88 [(0, .ref i0), (2, .long i2), (4, .int i4), (5, .int i5), (6, .long o)] [] hh → tq_W l mX2_reachByPath d bc bs Q 41 [(0, .ref i0), (2, .long i2), (4, .int i4), (5, .int i5), (6, .long y6), (8, .long y8), (10, .int y10)] [] hh := by
  intro n
  induction n with
  | zero => intro y6 y8 y10 o hl; cases hl
  | succ n ih =>
    intro y6 y8 y10 o hl hk
    obtain ⟨oo, hf, ho⟩ := tq_loop_s hl
    refine tq_iload (M := mX2_reachByPath) (pc := 41) dX2_reachByPath_41 rfl ?_
    refine tq_bipush (M := mX2_reachByPath) (pc := 43) dX2_reachByPath_43 tk_kb_60 ?_
    refine tq_icmp_ge (M := mX2_reachByPath) (pc := 45) (tgt := 88) dX2_reachByPath_45 (by decide) (fun cc => ?_) (fun cc => ?_)
    · have hf := tq_ifp hf cc
      refine tq_pick (L2 := [(0, .ref i0), (2, .long i2), (4, .int i4), (5, .int i5), (6, .long y6)]) [0, 1, 2, 3, 4] rfl ?_
      cases (Option.some.inj hf)
      cases (tq_lx ho)
      exact hk
    · have hf := tq_ifn hf cc
      refine tq_lload (M := mX2_reachByPath) (pc := 48) dX2_reachByPath_48 rfl ?_
      refine tq_lconst (M := mX2_reachByPath) (pc := 50) dX2_reachByPath_50 tk_kl_0 ?_
      refine tq_lcmp (M := mX2_reachByPath) (pc := 51) dX2_reachByPath_51 ?_
      refine tq_if_eq (M := mX2_reachByPath) (pc := 52) (tgt := 88) dX2_reachByPath_52 (by decide) (fun cc => ?_) (fun cc => ?_)
      · have hf := tq_ifp hf cc
        refine tq_pick (L2 := [(0, .ref i0), (2, .long i2), (4, .int i4), (5, .int i5), (6, .long y6)]) [0, 1, 2, 3, 4] rfl ?_
        cases (Option.some.inj hf)
        cases (tq_lx ho)
        exact hk
      · have hf := tq_ifn hf cc
        refine tq_lload (M := mX2_reachByPath) (pc := 55) dX2_reachByPath_55 rfl ?_
        refine tq_lload (M := mX2_reachByPath) (pc := 57) dX2_reachByPath_57 rfl ?_
        refine tq_lor (M := mX2_reachByPath) (pc := 59) dX2_reachByPath_59 ?_
        obtain ⟨x8, ex8, hf⟩ := tq_le hf
        refine tq_lstore (M := mX2_reachByPath) (pc := 60) dX2_reachByPath_60 (L2 := [(6, .long x8), (0, .ref i0), (2, .long i2), (4, .int i4), (5, .int i5), (8, .long y8), (10, .int y10)]) (by decide) (by rw [ex8]; rfl) ?_
        refine tq_aload_n (M := mX2_reachByPath) (pc := 62) dX2_reachByPath_62 rfl ?_
        obtain ⟨k9, ek9, hf⟩ := tq_be hf
        refine tq_getR (M := mX2_reachByPath) (pc := 63) tk_c2 (by decide) dX2_reachByPath_63 tk_RX2_14 rfl ek9 ?_
        refine tq_iload (M := mX2_reachByPath) (pc := 66) dX2_reachByPath_66 rfl ?_
        refine tq_lload (M := mX2_reachByPath) (pc := 68) dX2_reachByPath_68 rfl ?_
        obtain ⟨⟨⟩, eu11, hf⟩ := tq_be hf
        obtain ⟨fsu11, eu11⟩ := tq_is_s eu11
        obtain ⟨v10, ev10, hf⟩ := tq_be hf
        refine tq_calV (M := mX2_reachByPath) (pc := 70) (S := []) tk_y_X7_union tk_v_X7_union tk_RX2_148 dX2_reachByPath_70 [.int i4, .long y8] rfl (S0 := _) rfl eu11 rfl (Nat.le_of_ble_eq_true rfl) (d1 := d - 1) (b1 := 0) (s1 := 0) (bc' := bc) (bs' := bs) (Q1 := fun r h9 => r = .inl (some (.long v10)) ∧ hh = h9) (by omega) (by omega) (by omega) (w_X7_union (by omega) ev10 (fun _ _ q => q)) (fun E h9 q => nomatch (show (Sum.inr E : tq_R) = Sum.inl _ from q.1)) (fun r9 h9 q => ?_)
        obtain ⟨q1, rfl⟩ := q
        cases (show (Sum.inl r9 : tq_R) = Sum.inl (some (.long v10)) from q1)
        refine tq_lload (M := mX2_reachByPath) (pc := 73) dX2_reachByPath_73 rfl ?_
        refine tq_ldc2 (M := mX2_reachByPath) (pc := 75) dX2_reachByPath_75 tk_RX2_143 ?_
        refine tq_lxor (M := mX2_reachByPath) (pc := 78) dX2_reachByPath_78 ?_
        refine tq_land (M := mX2_reachByPath) (pc := 79) dX2_reachByPath_79 ?_
        obtain ⟨x12, ex12, hf⟩ := tq_le hf
        refine tq_lstore (M := mX2_reachByPath) (pc := 80) dX2_reachByPath_80 (L2 := [(8, .long x12), (6, .long x8), (0, .ref i0), (2, .long i2), (4, .int i4), (5, .int i5), (10, .int y10)]) (by decide) (by rw [ex12]; rfl) ?_
        obtain ⟨x13, ex13, hf⟩ := tq_le hf
        refine tq_iinc (M := mX2_reachByPath) (pc := 82) (v := x13) (L2 := [(10, .int x13), (8, .long x12), (6, .long x8), (0, .ref i0), (2, .long i2), (4, .int i4), (5, .int i5)]) dX2_reachByPath_82 rfl (by rw [ex13, tk_ki_1]) (by decide) rfl ?_
        refine tq_goto (M := mX2_reachByPath) (pc := 85) (tgt := 41) dX2_reachByPath_85 (by decide) ?_
        refine tq_pick (L2 := [(0, .ref i0), (2, .long i2), (4, .int i4), (5, .int i5), (6, .long x8), (8, .long x12), (10, .int x13)]) [3, 4, 5, 6, 2, 1, 0] rfl ?_
        cases (Option.some.inj hf)
        exact ih _ _ _ o (tq_lc ho) hk
set_option maxHeartbeats 4000000 in
theorem l_X2_reachByPath_9 {l : Launch} {d : Nat} {Q : tq_R → tq_H → Prop} {bc bs : Nat} (hd9 : 3 ≤ d) (i0 : Nat) (i2 : Int64) (i4 : Int32) : ∀ (n : Nat) (y5 : Int32) (hh : tq_H) (o : tq_H), tq_loop (f_X2_reachByPath_b9 i0 i2 i4) n (y5, hh) = some o → tq_W l mX2_reachByPath d bc bs Q 112 [] [] o → tq_W l mX2_reachByPath d bc bs Q 9 [(0, .ref i0), (2, .long i2), (4, .int i4), (5, .int y5)] [] hh := by
  intro n
  induction n with
  | zero => intro y5 hh o hl; cases hl
  | succ n ih =>
    intro y5 hh o hl hk
    obtain ⟨oo, hf, ho⟩ := tq_loop_s hl
    refine tq_iload (M := mX2_reachByPath) (pc := 9) dX2_reachByPath_9 rfl ?_
    refine tq_aload_n (M := mX2_reachByPath) (pc := 11) dX2_reachByPath_11 rfl ?_
    obtain ⟨k2, ek2, hf⟩ := tq_be hf
    refine tq_getR (M := mX2_reachByPath) (pc := 12) tk_c2 (by decide) dX2_reachByPath_12 tk_RX2_50 rfl ek2 ?_
    obtain ⟨⟨⟩, eu4, hf⟩ := tq_be hf
    obtain ⟨fsu4, eu4⟩ := tq_is_s eu4
    obtain ⟨v3, ev3, hf⟩ := tq_be hf
    refine tq_calV (M := mX2_reachByPath) (pc := 15) (S := [.int y5]) tk_y_X3_count tk_v_X3_count tk_RX2_55 dX2_reachByPath_15 [] rfl (S0 := _) rfl eu4 rfl (Nat.le_of_ble_eq_true rfl) (d1 := d - 1) (b1 := 0) (s1 := 0) (bc' := bc) (bs' := bs) (Q1 := fun r h9 => r = .inl (some (.int v3)) ∧ hh = h9) (by omega) (by omega) (by omega) (w_X3_count (by omega) ev3 (fun _ _ q => q)) (fun E h9 q => nomatch (show (Sum.inr E : tq_R) = Sum.inl _ from q.1)) (fun r9 h9 q => ?_)
    obtain ⟨q1, rfl⟩ := q
    cases (show (Sum.inl r9 : tq_R) = Sum.inl (some (.int v3)) from q1)
    refine tq_icmp_ge (M := mX2_reachByPath) (pc := 18) (tgt := 112) dX2_reachByPath_18 (by decide) (fun cc => ?_) (fun cc => ?_)
    · have hf := tq_ifp hf cc
      refine tq_pick (L2 := []) [] rfl ?_
      cases (Option.some.inj hf)
      cases (tq_lx ho)
      exact hk
    · have hf := tq_ifn hf cc
      refine tq_lconst (M := mX2_reachByPath) (pc := 21) dX2_reachByPath_21 tk_kl_0 ?_
      refine tq_lstore (M := mX2_reachByPath) (pc := 22) dX2_reachByPath_22 (L2 := [(6, .long (0 : Int64)), (0, .ref i0), (2, .long i2), (4, .int i4), (5, .int y5)]) (by decide) rfl ?_
      refine tq_aload_n (M := mX2_reachByPath) (pc := 24) dX2_reachByPath_24 rfl ?_
      obtain ⟨k5, ek5, hf⟩ := tq_be hf
      refine tq_getR (M := mX2_reachByPath) (pc := 25) tk_c2 (by decide) dX2_reachByPath_25 tk_RX2_14 rfl ek5 ?_
      refine tq_iload (M := mX2_reachByPath) (pc := 28) dX2_reachByPath_28 rfl ?_
      refine tq_iload (M := mX2_reachByPath) (pc := 30) dX2_reachByPath_30 rfl ?_
      refine tq_iadd (M := mX2_reachByPath) (pc := 32) dX2_reachByPath_32 ?_
      obtain ⟨⟨⟩, eu7, hf⟩ := tq_be hf
      obtain ⟨fsu7, eu7⟩ := tq_is_s eu7
      obtain ⟨v6, ev6, hf⟩ := tq_be hf
      refine tq_calV (M := mX2_reachByPath) (pc := 33) (S := []) tk_y_X7_get tk_v_X7_get tk_RX2_80 dX2_reachByPath_33 [.int ((i4 + y5))] rfl (S0 := _) rfl eu7 rfl (Nat.le_of_ble_eq_true rfl) (d1 := d - 1) (b1 := 0) (s1 := 0) (bc' := bc) (bs' := bs) (Q1 := fun r h9 => r = .inl (some (.long v6)) ∧ hh = h9) (by omega) (by omega) (by omega) (w_X7_get (by omega) ev6 (fun _ _ q => q)) (fun E h9 q => nomatch (show (Sum.inr E : tq_R) = Sum.inl _ from q.1)) (fun r9 h9 q => ?_)
      obtain ⟨q1, rfl⟩ := q
      cases (show (Sum.inl r9 : tq_R) = Sum.inl (some (.long v6)) from q1)
      refine tq_lstore (M := mX2_reachByPath) (pc := 36) dX2_reachByPath_36 (L2 := [(8, .long v6), (6, .long (0 : Int64)), (0, .ref i0), (2, .long i2), (4, .int i4), (5, .int y5)]) (by decide) rfl ?_
      refine tq_iconst (M := mX2_reachByPath) (pc := 38) dX2_reachByPath_38 tk_ki_0 ?_
      refine tq_istore (M := mX2_reachByPath) (pc := 39) dX2_reachByPath_39 (L2 := [(10, .int (0 : Int32)), (8, .long v6), (6, .long (0 : Int64)), (0, .ref i0), (2, .long i2), (4, .int i4), (5, .int y5)]) (by decide) rfl ?_
      obtain ⟨o14, eo14, hf⟩ := tq_be hf
      refine tq_pick (L2 := [(0, .ref i0), (2, .long i2), (4, .int i4), (5, .int y5), (6, .long (0 : Int64)), (8, .long v6), (10, .int (0 : Int32))]) [3, 4, 5, 6, 2, 1, 0] rfl ?_
      refine l_X2_reachByPath_41 (bc := bc) (bs := bs) (by omega) i0 i2 i4 y5 hh _ (0 : Int64) v6 (0 : Int32) _ eo14 ?_
      refine tq_aload_n (M := mX2_reachByPath) (pc := 88) dX2_reachByPath_88 rfl ?_
      obtain ⟨k15, ek15, hf⟩ := tq_be hf
      refine tq_getR (M := mX2_reachByPath) (pc := 89) tk_c2 (by decide) dX2_reachByPath_89 tk_RX2_20 rfl ek15 ?_
      refine tq_iload (M := mX2_reachByPath) (pc := 92) dX2_reachByPath_92 rfl ?_
      refine tq_lload (M := mX2_reachByPath) (pc := 94) dX2_reachByPath_94 rfl ?_
      refine tq_lload_n (M := mX2_reachByPath) (pc := 96) dX2_reachByPath_96 rfl ?_
      refine tq_land (M := mX2_reachByPath) (pc := 97) dX2_reachByPath_97 ?_
      refine tq_aload_n (M := mX2_reachByPath) (pc := 98) dX2_reachByPath_98 rfl ?_
      obtain ⟨x16, ex16, hf⟩ := tq_be hf
      refine tq_getL (M := mX2_reachByPath) (pc := 99) tk_c2 (by decide) dX2_reachByPath_99 tk_RX2_32 rfl ex16 ?_
      refine tq_land (M := mX2_reachByPath) (pc := 102) dX2_reachByPath_102 ?_
      obtain ⟨⟨⟩, eu18, hf⟩ := tq_be hf
      obtain ⟨fsu18, eu18⟩ := tq_is_s eu18
      obtain ⟨v17, ev17, hf⟩ := tq_be hf
      refine tq_calV (M := mX2_reachByPath) (pc := 103) (S := []) tk_y_X7_set tk_v_X7_set tk_RX2_87 dX2_reachByPath_103 [.int y5, .long (((o14 &&& i2) &&& x16))] rfl (S0 := _) rfl eu18 rfl (Nat.le_of_ble_eq_true rfl) (d1 := d - 1) (b1 := 0) (s1 := 0) (bc' := bc) (bs' := bs) (Q1 := fun r h9 => r = .inl none ∧ v17 = h9) (by omega) (by omega) (by omega) (w_X7_set (by omega) ev17 (fun _ _ q => q)) (fun E h9 q => nomatch (show (Sum.inr E : tq_R) = Sum.inl _ from q.1)) (fun r9 h9 q => ?_)
      obtain ⟨q1, rfl⟩ := q
      cases (show (Sum.inl r9 : tq_R) = Sum.inl (none) from q1)
      obtain ⟨x19, ex19, hf⟩ := tq_le hf
      refine tq_iinc (M := mX2_reachByPath) (pc := 106) (v := x19) (L2 := [(5, .int x19), (0, .ref i0), (2, .long i2), (4, .int i4), (6, .long o14)]) dX2_reachByPath_106 rfl (by rw [ex19, tk_ki_1]) (by decide) rfl ?_
      refine tq_goto (M := mX2_reachByPath) (pc := 109) (tgt := 9) dX2_reachByPath_109 (by decide) ?_
      refine tq_pick (L2 := [(0, .ref i0), (2, .long i2), (4, .int i4), (5, .int x19)]) [1, 2, 3, 0] rfl ?_
      cases (Option.some.inj hf)
      exact ih _ _ o (tq_lc ho) hk
set_option maxHeartbeats 4000000 in
set_option maxRecDepth 20000 in
theorem w_X2_reachByPath {l : Launch} {d : Nat} (hd9 : 3 ≤ d) {t : Nat} {a1 : Int32} {a2 : Int64} {h : tq_H} {o : tq_H} {Q : tq_R → tq_H → Prop} (hf : f_X2_reachByPath t a1 a2 h = some o) (hQ : ∀ r h9, r = .inl none ∧ o = h9 → Q r h9) : tq_C l yX2_reachByPath cX2_reachByPath 11 none d 0 0 [.ref t, .int a1, .long a2] h Q := by
  refine tq_body (y := yX2_reachByPath) false (by decide +kernel) (fun z => by cases z) (Nat.le_of_ble_eq_true rfl) ?_
  show tq_W l mX2_reachByPath d 0 0 Q 0 [(0, .ref t), (1, .int a1), (2, .long a2)] [] h
  refine tq_iload_n (M := mX2_reachByPath) (pc := 0) dX2_reachByPath_0 rfl ?_
  refine tq_bipush (M := mX2_reachByPath) (pc := 1) dX2_reachByPath_1 tk_kb_60 ?_
  refine tq_imul (M := mX2_reachByPath) (pc := 3) dX2_reachByPath_3 ?_
  obtain ⟨x1, ex1, hf⟩ := tq_le hf
  refine tq_istore (M := mX2_reachByPath) (pc := 4) dX2_reachByPath_4 (L2 := [(4, .int x1), (0, .ref t), (1, .int a1), (2, .long a2)]) (by decide) (by rw [ex1]; rfl) ?_
  refine tq_iconst (M := mX2_reachByPath) (pc := 6) dX2_reachByPath_6 tk_ki_0 ?_
  refine tq_istore (M := mX2_reachByPath) (pc := 7) dX2_reachByPath_7 (L2 := [(5, .int (0 : Int32)), (4, .int x1), (0, .ref t), (1, .int a1), (2, .long a2)]) (by decide) rfl ?_
  obtain ⟨o20, eo20, hf⟩ := tq_be hf
  refine tq_pick (L2 := [(0, .ref t), (2, .long a2), (4, .int x1), (5, .int (0 : Int32))]) [2, 4, 1, 0] rfl ?_
  refine l_X2_reachByPath_9 (bc := 0) (bs := 0) (by omega) t a2 x1 _ (0 : Int32) h _ eo20 ?_
  refine tq_vret (M := mX2_reachByPath) (pc := 112) dX2_reachByPath_112 rfl ?_
  cases (Option.some.inj hf)
  exact hQ _ _ ⟨rfl, rfl⟩
abbrev mX2_reachByAxis : tq_M := (RX2, cX2_reachByAxis, 5, none, false, [], none)
def f_X2_reachByAxis_b3 (i0 : Nat) (i1 : Int32) (i2 : Int64) (s : Int32 × tq_H) : Option ((Int32 × tq_H) ⊕ (tq_H)) := match s with
  | (y4, hh) =>
    (tq_gr hh i0 2 1).bind fun k1 =>
    (tq_is hh k1 3).bind fun _ =>
    (f_X3_count k1 hh).bind fun v2 =>
    if y4 ≥ v2 then
      some (.inr hh)
    else
      (tq_gr hh i0 2 4).bind fun k4 =>
      (tq_gr hh i0 2 1).bind fun k5 =>
      (tq_is hh k5 3).bind fun _ =>
      (f_X3_reached k5 i1 y4 hh).bind fun v6 =>
      (tq_gl hh i0 2 6).bind fun x8 =>
      (tq_is hh k4 7).bind fun _ =>
      (f_X7_set k4 y4 ((v6 &&& i2) &&& x8) hh).bind fun v9 =>
      tq_let (y4 + (1 : Int32)) fun x11 =>
      some (.inl (x11, v9))
def f_X2_reachByAxis (t : Nat) (a1 : Int32) (a2 : Int64) (h : tq_H) : Option (tq_H) :=
  (tq_loop (f_X2_reachByAxis_b3 t a1 a2) tq_N ((0 : Int32), h)).bind fun o12 =>
  some o12
set_option maxHeartbeats 4000000 in
theorem l_X2_reachByAxis_3 {l : Launch} {d : Nat} {Q : tq_R → tq_H → Prop} {bc bs : Nat} (hd9 : 2 ≤ d) (i0 : Nat) (i1 : Int32) (i2 : Int64) : ∀ (n : Nat) (y4 : Int32) (hh : tq_H) (o : tq_H), tq_loop (f_X2_reachByAxis_b3 i0 i1 i2) n (y4, hh) = some o → tq_W l mX2_reachByAxis d bc bs Q 47 [] [] o → tq_W l mX2_reachByAxis d bc bs Q 3 [(0, .ref i0), (1, .int i1), (2, .long i2), (4, .int y4)] [] hh := by
  intro n
  induction n with
  | zero => intro y4 hh o hl; cases hl
  | succ n ih =>
    intro y4 hh o hl hk
    obtain ⟨oo, hf, ho⟩ := tq_loop_s hl
    refine tq_iload (M := mX2_reachByAxis) (pc := 3) dX2_reachByAxis_3 rfl ?_
    refine tq_aload_n (M := mX2_reachByAxis) (pc := 5) dX2_reachByAxis_5 rfl ?_
    obtain ⟨k1, ek1, hf⟩ := tq_be hf
    refine tq_getR (M := mX2_reachByAxis) (pc := 6) tk_c2 (by decide) dX2_reachByAxis_6 tk_RX2_50 rfl ek1 ?_
    obtain ⟨⟨⟩, eu3, hf⟩ := tq_be hf
    obtain ⟨fsu3, eu3⟩ := tq_is_s eu3
    obtain ⟨v2, ev2, hf⟩ := tq_be hf
    refine tq_calV (M := mX2_reachByAxis) (pc := 9) (S := [.int y4]) tk_y_X3_count tk_v_X3_count tk_RX2_55 dX2_reachByAxis_9 [] rfl (S0 := _) rfl eu3 rfl (Nat.le_of_ble_eq_true rfl) (d1 := d - 1) (b1 := 0) (s1 := 0) (bc' := bc) (bs' := bs) (Q1 := fun r h9 => r = .inl (some (.int v2)) ∧ hh = h9) (by omega) (by omega) (by omega) (w_X3_count (by omega) ev2 (fun _ _ q => q)) (fun E h9 q => nomatch (show (Sum.inr E : tq_R) = Sum.inl _ from q.1)) (fun r9 h9 q => ?_)
    obtain ⟨q1, rfl⟩ := q
    cases (show (Sum.inl r9 : tq_R) = Sum.inl (some (.int v2)) from q1)
    refine tq_icmp_ge (M := mX2_reachByAxis) (pc := 12) (tgt := 47) dX2_reachByAxis_12 (by decide) (fun cc => ?_) (fun cc => ?_)
    · have hf := tq_ifp hf cc
      refine tq_pick (L2 := []) [] rfl ?_
      cases (Option.some.inj hf)
      cases (tq_lx ho)
      exact hk
    · have hf := tq_ifn hf cc
      refine tq_aload_n (M := mX2_reachByAxis) (pc := 15) dX2_reachByAxis_15 rfl ?_
      obtain ⟨k4, ek4, hf⟩ := tq_be hf
      refine tq_getR (M := mX2_reachByAxis) (pc := 16) tk_c2 (by decide) dX2_reachByAxis_16 tk_RX2_20 rfl ek4 ?_
      refine tq_iload (M := mX2_reachByAxis) (pc := 19) dX2_reachByAxis_19 rfl ?_
      refine tq_aload_n (M := mX2_reachByAxis) (pc := 21) dX2_reachByAxis_21 rfl ?_
      obtain ⟨k5, ek5, hf⟩ := tq_be hf
      refine tq_getR (M := mX2_reachByAxis) (pc := 22) tk_c2 (by decide) dX2_reachByAxis_22 tk_RX2_50 rfl ek5 ?_
      refine tq_iload_n (M := mX2_reachByAxis) (pc := 25) dX2_reachByAxis_25 rfl ?_
      refine tq_iload (M := mX2_reachByAxis) (pc := 26) dX2_reachByAxis_26 rfl ?_
      obtain ⟨⟨⟩, eu7, hf⟩ := tq_be hf
      obtain ⟨fsu7, eu7⟩ := tq_is_s eu7
      obtain ⟨v6, ev6, hf⟩ := tq_be hf
      refine tq_calV (M := mX2_reachByAxis) (pc := 28) (S := [.int y4, .ref k4]) tk_y_X3_reached tk_v_X3_reached tk_RX2_152 dX2_reachByAxis_28 [.int i1, .int y4] rfl (S0 := _) rfl eu7 rfl (Nat.le_of_ble_eq_true rfl) (d1 := d - 1) (b1 := 0) (s1 := 0) (bc' := bc) (bs' := bs) (Q1 := fun r h9 => r = .inl (some (.long v6)) ∧ hh = h9) (by omega) (by omega) (by omega) (w_X3_reached (by omega) ev6 (fun _ _ q => q)) (fun E h9 q => nomatch (show (Sum.inr E : tq_R) = Sum.inl _ from q.1)) (fun r9 h9 q => ?_)
      obtain ⟨q1, rfl⟩ := q
      cases (show (Sum.inl r9 : tq_R) = Sum.inl (some (.long v6)) from q1)
      refine tq_lload_n (M := mX2_reachByAxis) (pc := 31) dX2_reachByAxis_31 rfl ?_
      refine tq_land (M := mX2_reachByAxis) (pc := 32) dX2_reachByAxis_32 ?_
      refine tq_aload_n (M := mX2_reachByAxis) (pc := 33) dX2_reachByAxis_33 rfl ?_
      obtain ⟨x8, ex8, hf⟩ := tq_be hf
      refine tq_getL (M := mX2_reachByAxis) (pc := 34) tk_c2 (by decide) dX2_reachByAxis_34 tk_RX2_32 rfl ex8 ?_
      refine tq_land (M := mX2_reachByAxis) (pc := 37) dX2_reachByAxis_37 ?_
      obtain ⟨⟨⟩, eu10, hf⟩ := tq_be hf
      obtain ⟨fsu10, eu10⟩ := tq_is_s eu10
      obtain ⟨v9, ev9, hf⟩ := tq_be hf
      refine tq_calV (M := mX2_reachByAxis) (pc := 38) (S := []) tk_y_X7_set tk_v_X7_set tk_RX2_87 dX2_reachByAxis_38 [.int y4, .long (((v6 &&& i2) &&& x8))] rfl (S0 := _) rfl eu10 rfl (Nat.le_of_ble_eq_true rfl) (d1 := d - 1) (b1 := 0) (s1 := 0) (bc' := bc) (bs' := bs) (Q1 := fun r h9 => r = .inl none ∧ v9 = h9) (by omega) (by omega) (by omega) (w_X7_set (by omega) ev9 (fun _ _ q => q)) (fun E h9 q => nomatch (show (Sum.inr E : tq_R) = Sum.inl _ from q.1)) (fun r9 h9 q => ?_)
      obtain ⟨q1, rfl⟩ := q
      cases (show (Sum.inl r9 : tq_R) = Sum.inl (none) from q1)
      obtain ⟨x11, ex11, hf⟩ := tq_le hf
      refine tq_iinc (M := mX2_reachByAxis) (pc := 41) (v := x11) (L2 := [(4, .int x11), (0, .ref i0), (1, .int i1), (2, .long i2)]) dX2_reachByAxis_41 rfl (by rw [ex11, tk_ki_1]) (by decide) rfl ?_
      refine tq_goto (M := mX2_reachByAxis) (pc := 44) (tgt := 3) dX2_reachByAxis_44 (by decide) ?_
      refine tq_pick (L2 := [(0, .ref i0), (1, .int i1), (2, .long i2), (4, .int x11)]) [1, 2, 3, 0] rfl ?_
      cases (Option.some.inj hf)
      exact ih _ _ o (tq_lc ho) hk
set_option maxHeartbeats 4000000 in
set_option maxRecDepth 20000 in
theorem w_X2_reachByAxis {l : Launch} {d : Nat} (hd9 : 2 ≤ d) {t : Nat} {a1 : Int32} {a2 : Int64} {h : tq_H} {o : tq_H} {Q : tq_R → tq_H → Prop} (hf : f_X2_reachByAxis t a1 a2 h = some o) (hQ : ∀ r h9, r = .inl none ∧ o = h9 → Q r h9) : tq_C l yX2_reachByAxis cX2_reachByAxis 5 none d 0 0 [.ref t, .int a1, .long a2] h Q := by
  refine tq_body (y := yX2_reachByAxis) false (by decide +kernel) (fun z => by cases z) (Nat.le_of_ble_eq_true rfl) ?_
  show tq_W l mX2_reachByAxis d 0 0 Q 0 [(0, .ref t), (1, .int a1), (2, .long a2)] [] h
  refine tq_iconst (M := mX2_reachByAxis) (pc := 0) dX2_reachByAxis_0 tk_ki_0 ?_
  refine tq_istore (M := mX2_reachByAxis) (pc := 1) dX2_reachByAxis_1 (L2 := [(4, .int (0 : Int32)), (0, .ref t), (1, .int a1), (2, .long a2)]) (by decide) rfl ?_
  obtain ⟨o12, eo12, hf⟩ := tq_be hf
  refine tq_pick (L2 := [(0, .ref t), (1, .int a1), (2, .long a2), (4, .int (0 : Int32))]) [1, 2, 3, 0] rfl ?_
  refine l_X2_reachByAxis_3 (bc := 0) (bs := 0) (by omega) t a1 a2 _ (0 : Int32) h _ eo12 ?_
  refine tq_vret (M := mX2_reachByAxis) (pc := 47) dX2_reachByAxis_47 rfl ?_
  cases (Option.some.inj hf)
  exact hQ _ _ ⟨rfl, rfl⟩
abbrev mX2_goesBack : tq_M := (RX2, cX2_goesBack, 1, (some .boolean), false, [], none)
def f_X2_goesBack (a0 : Int32) (h : tq_H) : Option (Int32) :=
  tq_let (if a0 = (2 : Int32) then (1 : Int32) else (if a0 = (5 : Int32) then (1 : Int32) else if a0 = (6 : Int32) then (1 : Int32) else if a0 = (8 : Int32) then (1 : Int32) else if a0 = (10 : Int32) then (1 : Int32) else (0 : Int32))) fun p1 =>
  (tq_bz p1).bind fun z2 =>
  some z2
set_option maxHeartbeats 4000000 in
set_option maxRecDepth 20000 in
theorem w_X2_goesBack {l : Launch} {d : Nat} (hd9 : 0 ≤ d) {a0 : Int32} {h : tq_H} {o : Int32} {Q : tq_R → tq_H → Prop} (hf : f_X2_goesBack a0 h = some o) (hQ : ∀ r h9, r = .inl (some (.int o)) ∧ h = h9 → Q r h9) : tq_C l yX2_goesBack cX2_goesBack 1 (some .boolean) d 0 0 [.int a0] h Q := by
  refine tq_body (y := yX2_goesBack) false (by decide +kernel) (fun z => by cases z) (Nat.le_of_ble_eq_true rfl) ?_
  show tq_W l mX2_goesBack d 0 0 Q 0 [(0, .int a0)] [] h
  refine tq_iload_n (M := mX2_goesBack) (pc := 0) dX2_goesBack_0 rfl ?_
  refine tq_iconst (M := mX2_goesBack) (pc := 1) dX2_goesBack_1 tk_ki_2 ?_
  obtain ⟨p1, ep1, hf⟩ := tq_le hf
  have HJ2 : tq_W l mX2_goesBack d 0 0 Q 33 [] [.int p1] h := by
    obtain ⟨z2, ez2, hf⟩ := tq_be hf
    refine tq_zretB (M := mX2_goesBack) (pc := 33) dX2_goesBack_33 rfl ez2 ?_
    cases (Option.some.inj hf)
    exact hQ _ _ ⟨rfl, rfl⟩
  refine tq_icmp_eq (M := mX2_goesBack) (pc := 2) (tgt := 28) dX2_goesBack_2 (by decide) (fun cc => ?_) (fun cc => ?_)
  · have hf := tq_ifp ep1.symm cc
    refine tq_iconst (M := mX2_goesBack) (pc := 28) dX2_goesBack_28 tk_ki_1 ?_
    refine tq_goto (M := mX2_goesBack) (pc := 29) (tgt := 33) dX2_goesBack_29 (by decide) ?_
    refine tq_pick (L2 := []) [] rfl ?_
    cases hf
    exact HJ2
  · have hf := tq_ifn ep1.symm cc
    refine tq_iload_n (M := mX2_goesBack) (pc := 5) dX2_goesBack_5 rfl ?_
    refine tq_iconst (M := mX2_goesBack) (pc := 6) dX2_goesBack_6 tk_ki_5 ?_
    refine tq_icmp_eq (M := mX2_goesBack) (pc := 7) (tgt := 28) dX2_goesBack_7 (by decide) (fun cc => ?_) (fun cc => ?_)
    · have hf := tq_ifp hf cc
      refine tq_iconst (M := mX2_goesBack) (pc := 28) dX2_goesBack_28 tk_ki_1 ?_
      refine tq_goto (M := mX2_goesBack) (pc := 29) (tgt := 33) dX2_goesBack_29 (by decide) ?_
      refine tq_pick (L2 := []) [] rfl ?_
      cases hf
      exact HJ2
    · have hf := tq_ifn hf cc
      refine tq_iload_n (M := mX2_goesBack) (pc := 10) dX2_goesBack_10 rfl ?_
      refine tq_bipush (M := mX2_goesBack) (pc := 11) dX2_goesBack_11 tk_kb_6 ?_
      refine tq_icmp_eq (M := mX2_goesBack) (pc := 13) (tgt := 28) dX2_goesBack_13 (by decide) (fun cc => ?_) (fun cc => ?_)
      · have hf := tq_ifp hf cc
        refine tq_iconst (M := mX2_goesBack) (pc := 28) dX2_goesBack_28 tk_ki_1 ?_
        refine tq_goto (M := mX2_goesBack) (pc := 29) (tgt := 33) dX2_goesBack_29 (by decide) ?_
        refine tq_pick (L2 := []) [] rfl ?_
        cases hf
        exact HJ2
      · have hf := tq_ifn hf cc
        refine tq_iload_n (M := mX2_goesBack) (pc := 16) dX2_goesBack_16 rfl ?_
        refine tq_bipush (M := mX2_goesBack) (pc := 17) dX2_goesBack_17 tk_kb_8 ?_
        refine tq_icmp_eq (M := mX2_goesBack) (pc := 19) (tgt := 28) dX2_goesBack_19 (by decide) (fun cc => ?_) (fun cc => ?_)
        · have hf := tq_ifp hf cc
          refine tq_iconst (M := mX2_goesBack) (pc := 28) dX2_goesBack_28 tk_ki_1 ?_
          refine tq_goto (M := mX2_goesBack) (pc := 29) (tgt := 33) dX2_goesBack_29 (by decide) ?_
          refine tq_pick (L2 := []) [] rfl ?_
          cases hf
          exact HJ2
        · have hf := tq_ifn hf cc
          refine tq_iload_n (M := mX2_goesBack) (pc := 22) dX2_goesBack_22 rfl ?_
          refine tq_bipush (M := mX2_goesBack) (pc := 23) dX2_goesBack_23 tk_kb_10 ?_
          refine tq_icmp_ne (M := mX2_goesBack) (pc := 25) (tgt := 32) dX2_goesBack_25 (by decide) (fun cc => ?_) (fun cc => ?_)
          · have hf := tq_ifn hf cc
            refine tq_iconst (M := mX2_goesBack) (pc := 32) dX2_goesBack_32 tk_ki_0 ?_
            refine tq_pick (L2 := []) [] rfl ?_
            cases hf
            exact HJ2
          · have hf := tq_ifp hf cc
            refine tq_iconst (M := mX2_goesBack) (pc := 28) dX2_goesBack_28 tk_ki_1 ?_
            refine tq_goto (M := mX2_goesBack) (pc := 29) (tgt := 33) dX2_goesBack_29 (by decide) ?_
            refine tq_pick (L2 := []) [] rfl ?_
            cases hf
            exact HJ2
abbrev mX2_keepPlaced : tq_M := (RX2, cX2_keepPlaced, 11, (some .long), false, [], none)
def f_X2_keepPlaced_b15 (i2 : Int32) (i3 : Int32) (i4 : Int32) (i5 : Int32) (hh : tq_H) (s : Int64 × Int64 × Int32) : Option ((Int64 × Int64 × Int32) ⊕ (Int64)) := match s with
  | (y6, y8, y10) =>
    if y10 > i5 then
      some (.inr y6)
    else
      tq_let (if i2 = 0 then y10 else ((i5 + (1 : Int32)) - y10)) fun p2 =>
      (f_X0_agrees p2 i3 i4 hh).bind fun v3 =>
      (if v3 = 0 then
        some y6
      else
        tq_let ((y6 ||| (y8 &&& (-y8)))) fun x4 =>
        some x4).bind fun p5 =>
      tq_let ((y8 &&& (y8 - (1 : Int64)))) fun x6 =>
      tq_let (y10 + (1 : Int32)) fun x7 =>
      some (.inl (p5, x6, x7))
def f_X2_keepPlaced (a0 : Int64) (a2 : Int32) (a3 : Int32) (a4 : Int32) (h : tq_H) : Option (Int64) :=
  (f_J13_bitCount_95d88 a0 h).bind fun v1 =>
  (tq_loop (f_X2_keepPlaced_b15 a2 a3 a4 v1 h) tq_N ((0 : Int64), a0, (1 : Int32))).bind fun o8 =>
  some o8
set_option maxHeartbeats 4000000 in
theorem l_X2_keepPlaced_15 {l : Launch} {d : Nat} {Q : tq_R → tq_H → Prop} {bc bs : Nat} (hd9 : 1 ≤ d) (i2 : Int32) (i3 : Int32) (i4 : Int32) (i5 : Int32) (hh : tq_H) : ∀ (n : Nat) (y6 : Int64) (y8 : Int64) (y10 : Int32) (o : Int64), tq_loop (f_X2_keepPlaced_b15 i2 i3 i4 i5 hh) n (y6, y8, y10) = some o → tq_W l mX2_keepPlaced d bc bs Q 73 [(6, .long o)] [] hh → tq_W l mX2_keepPlaced d bc bs Q 15 [(2, .int i2), (3, .int i3), (4, .int i4), (5, .int i5), (6, .long y6), (8, .long y8), (10, .int y10)] [] hh := by
  intro n
  induction n with
  | zero => intro y6 y8 y10 o hl; cases hl
  | succ n ih =>
    intro y6 y8 y10 o hl hk
    obtain ⟨oo, hf, ho⟩ := tq_loop_s hl
    refine tq_iload (M := mX2_keepPlaced) (pc := 15) dX2_keepPlaced_15 rfl ?_
    refine tq_iload (M := mX2_keepPlaced) (pc := 17) dX2_keepPlaced_17 rfl ?_
    refine tq_icmp_gt (M := mX2_keepPlaced) (pc := 19) (tgt := 73) dX2_keepPlaced_19 (by decide) (fun cc => ?_) (fun cc => ?_)
    · have hf := tq_ifp hf cc
      refine tq_pick (L2 := [(6, .long y6)]) [4] rfl ?_
      cases (Option.some.inj hf)
      cases (tq_lx ho)
      exact hk
    · have hf := tq_ifn hf cc
      refine tq_iload_n (M := mX2_keepPlaced) (pc := 22) dX2_keepPlaced_22 rfl ?_
      obtain ⟨p2, ep2, hf⟩ := tq_le hf
      have HJ23 : tq_W l mX2_keepPlaced d bc bs Q 38 [(2, .int i2), (3, .int i3), (4, .int i4), (5, .int i5), (6, .long y6), (8, .long y8), (10, .int y10)] [.int p2] hh := by
        refine tq_iload_n (M := mX2_keepPlaced) (pc := 38) dX2_keepPlaced_38 rfl ?_
        refine tq_iload (M := mX2_keepPlaced) (pc := 39) dX2_keepPlaced_39 rfl ?_
        obtain ⟨v3, ev3, hf⟩ := tq_be hf
        refine tq_calS (M := mX2_keepPlaced) (pc := 41) (S := []) tk_y_X0_agrees tk_s_X0_agrees tk_RX2_177 dX2_keepPlaced_41 [.int p2, .int i3, .int i4] rfl (Nat.le_of_ble_eq_true rfl) (d1 := d - 1) (b1 := 0) (s1 := 0) (bc' := bc) (bs' := bs) (Q1 := fun r h9 => r = .inl (some (.int v3)) ∧ hh = h9) (by omega) (by omega) (by omega) (w_X0_agrees (by omega) ev3 (fun _ _ q => q)) (fun E h9 q => nomatch (show (Sum.inr E : tq_R) = Sum.inl _ from q.1)) (fun r9 h9 q => ?_)
        obtain ⟨q1, rfl⟩ := q
        cases (show (Sum.inl r9 : tq_R) = Sum.inl (some (.int v3)) from q1)
        obtain ⟨p5, ep5, hf⟩ := tq_be hf
        have HJ44 : tq_W l mX2_keepPlaced d bc bs Q 58 [(2, .int i2), (3, .int i3), (4, .int i4), (5, .int i5), (6, .long p5), (8, .long y8), (10, .int y10)] [] hh := by
          refine tq_lload (M := mX2_keepPlaced) (pc := 58) dX2_keepPlaced_58 rfl ?_
          refine tq_lload (M := mX2_keepPlaced) (pc := 60) dX2_keepPlaced_60 rfl ?_
          refine tq_lconst (M := mX2_keepPlaced) (pc := 62) dX2_keepPlaced_62 tk_kl_1 ?_
          refine tq_lsub (M := mX2_keepPlaced) (pc := 63) dX2_keepPlaced_63 ?_
          refine tq_land (M := mX2_keepPlaced) (pc := 64) dX2_keepPlaced_64 ?_
          obtain ⟨x6, ex6, hf⟩ := tq_le hf
          refine tq_lstore (M := mX2_keepPlaced) (pc := 65) dX2_keepPlaced_65 (L2 := [(8, .long x6), (2, .int i2), (3, .int i3), (4, .int i4), (5, .int i5), (6, .long p5), (10, .int y10)]) (by decide) (by rw [ex6]; rfl) ?_
          obtain ⟨x7, ex7, hf⟩ := tq_le hf
          refine tq_iinc (M := mX2_keepPlaced) (pc := 67) (v := x7) (L2 := [(10, .int x7), (8, .long x6), (2, .int i2), (3, .int i3), (4, .int i4), (5, .int i5), (6, .long p5)]) dX2_keepPlaced_67 rfl (by rw [ex7, tk_ki_1]) (by decide) rfl ?_
          refine tq_goto (M := mX2_keepPlaced) (pc := 70) (tgt := 15) dX2_keepPlaced_70 (by decide) ?_
          refine tq_pick (L2 := [(2, .int i2), (3, .int i3), (4, .int i4), (5, .int i5), (6, .long p5), (8, .long x6), (10, .int x7)]) [2, 3, 4, 5, 6, 1, 0] rfl ?_
          cases (Option.some.inj hf)
          exact ih _ _ _ o (tq_lc ho) hk
        refine tq_if_eq (M := mX2_keepPlaced) (pc := 44) (tgt := 58) dX2_keepPlaced_44 (by decide) (fun cc => ?_) (fun cc => ?_)
        · have hf := tq_ifp ep5 cc
          cases (Option.some.inj hf)
          exact HJ44
        · have hf := tq_ifn ep5 cc
          refine tq_lload (M := mX2_keepPlaced) (pc := 47) dX2_keepPlaced_47 rfl ?_
          refine tq_lload (M := mX2_keepPlaced) (pc := 49) dX2_keepPlaced_49 rfl ?_
          refine tq_lload (M := mX2_keepPlaced) (pc := 51) dX2_keepPlaced_51 rfl ?_
          refine tq_lneg (M := mX2_keepPlaced) (pc := 53) dX2_keepPlaced_53 ?_
          refine tq_land (M := mX2_keepPlaced) (pc := 54) dX2_keepPlaced_54 ?_
          refine tq_lor (M := mX2_keepPlaced) (pc := 55) dX2_keepPlaced_55 ?_
          obtain ⟨x4, ex4, hf⟩ := tq_le hf
          refine tq_lstore (M := mX2_keepPlaced) (pc := 56) dX2_keepPlaced_56 (L2 := [(6, .long x4), (2, .int i2), (3, .int i3), (4, .int i4), (5, .int i5), (8, .long y8), (10, .int y10)]) (by decide) (by rw [ex4]; rfl) ?_
          refine tq_pick (L2 := [(2, .int i2), (3, .int i3), (4, .int i4), (5, .int i5), (6, .long x4), (8, .long y8), (10, .int y10)]) [1, 2, 3, 4, 0, 5, 6] rfl ?_
          cases (Option.some.inj hf)
          exact HJ44
      refine tq_if_eq (M := mX2_keepPlaced) (pc := 23) (tgt := 36) dX2_keepPlaced_23 (by decide) (fun cc => ?_) (fun cc => ?_)
      · have hf := tq_ifp ep2.symm cc
        refine tq_iload (M := mX2_keepPlaced) (pc := 36) dX2_keepPlaced_36 rfl ?_
        cases hf
        exact HJ23
      · have hf := tq_ifn ep2.symm cc
        refine tq_iload (M := mX2_keepPlaced) (pc := 26) dX2_keepPlaced_26 rfl ?_
        refine tq_iconst (M := mX2_keepPlaced) (pc := 28) dX2_keepPlaced_28 tk_ki_1 ?_
        refine tq_iadd (M := mX2_keepPlaced) (pc := 29) dX2_keepPlaced_29 ?_
        refine tq_iload (M := mX2_keepPlaced) (pc := 30) dX2_keepPlaced_30 rfl ?_
        refine tq_isub (M := mX2_keepPlaced) (pc := 32) dX2_keepPlaced_32 ?_
        refine tq_goto (M := mX2_keepPlaced) (pc := 33) (tgt := 38) dX2_keepPlaced_33 (by decide) ?_
        cases hf
        exact HJ23
set_option maxHeartbeats 4000000 in
set_option maxRecDepth 20000 in
theorem w_X2_keepPlaced {l : Launch} {d : Nat} (hd9 : 1 ≤ d) {a0 : Int64} {a2 : Int32} {a3 : Int32} {a4 : Int32} {h : tq_H} {o : Int64} {Q : tq_R → tq_H → Prop} (hf : f_X2_keepPlaced a0 a2 a3 a4 h = some o) (hQ : ∀ r h9, r = .inl (some (.long o)) ∧ h = h9 → Q r h9) : tq_C l yX2_keepPlaced cX2_keepPlaced 11 (some .long) d 0 0 [.long a0, .int a2, .int a3, .int a4] h Q := by
  refine tq_body (y := yX2_keepPlaced) false (by decide +kernel) (fun z => by cases z) (Nat.le_of_ble_eq_true rfl) ?_
  show tq_W l mX2_keepPlaced d 0 0 Q 0 [(0, .long a0), (2, .int a2), (3, .int a3), (4, .int a4)] [] h
  refine tq_lload_n (M := mX2_keepPlaced) (pc := 0) dX2_keepPlaced_0 rfl ?_
  obtain ⟨v1, ev1, hf⟩ := tq_be hf
  refine tq_calS (M := mX2_keepPlaced) (pc := 1) (S := []) tk_y_J13_bitCount_95d88 tk_s_J13_bitCount_95d88 tk_RX2_159 dX2_keepPlaced_1 [.long a0] rfl (Nat.le_of_ble_eq_true rfl) (d1 := d - 1) (b1 := 0) (s1 := 0) (bc' := 0) (bs' := 0) (Q1 := fun r h9 => r = .inl (some (.int v1)) ∧ h = h9) (by omega) rfl rfl (w_J13_bitCount_95d88 (by omega) ev1 (fun _ _ q => q)) (fun E h9 q => nomatch (show (Sum.inr E : tq_R) = Sum.inl _ from q.1)) (fun r9 h9 q => ?_)
  obtain ⟨q1, rfl⟩ := q
  cases (show (Sum.inl r9 : tq_R) = Sum.inl (some (.int v1)) from q1)
  refine tq_istore (M := mX2_keepPlaced) (pc := 4) dX2_keepPlaced_4 (L2 := [(5, .int v1), (0, .long a0), (2, .int a2), (3, .int a3), (4, .int a4)]) (by decide) rfl ?_
  refine tq_lconst (M := mX2_keepPlaced) (pc := 6) dX2_keepPlaced_6 tk_kl_0 ?_
  refine tq_lstore (M := mX2_keepPlaced) (pc := 7) dX2_keepPlaced_7 (L2 := [(6, .long (0 : Int64)), (5, .int v1), (0, .long a0), (2, .int a2), (3, .int a3), (4, .int a4)]) (by decide) rfl ?_
  refine tq_lload_n (M := mX2_keepPlaced) (pc := 9) dX2_keepPlaced_9 rfl ?_
  refine tq_lstore (M := mX2_keepPlaced) (pc := 10) dX2_keepPlaced_10 (L2 := [(8, .long a0), (6, .long (0 : Int64)), (5, .int v1), (0, .long a0), (2, .int a2), (3, .int a3), (4, .int a4)]) (by decide) rfl ?_
  refine tq_iconst (M := mX2_keepPlaced) (pc := 12) dX2_keepPlaced_12 tk_ki_1 ?_
  refine tq_istore (M := mX2_keepPlaced) (pc := 13) dX2_keepPlaced_13 (L2 := [(10, .int (1 : Int32)), (8, .long a0), (6, .long (0 : Int64)), (5, .int v1), (0, .long a0), (2, .int a2), (3, .int a3), (4, .int a4)]) (by decide) rfl ?_
  obtain ⟨o8, eo8, hf⟩ := tq_be hf
  refine tq_pick (L2 := [(2, .int a2), (3, .int a3), (4, .int a4), (5, .int v1), (6, .long (0 : Int64)), (8, .long a0), (10, .int (1 : Int32))]) [5, 6, 7, 3, 2, 1, 0] rfl ?_
  refine l_X2_keepPlaced_15 (bc := 0) (bs := 0) (by omega) a2 a3 a4 v1 h _ (0 : Int64) a0 (1 : Int32) _ eo8 ?_
  refine tq_lload (M := mX2_keepPlaced) (pc := 73) dX2_keepPlaced_73 rfl ?_
  refine tq_lret (M := mX2_keepPlaced) (pc := 75) dX2_keepPlaced_75 rfl ?_
  cases (Option.some.inj hf)
  exact hQ _ _ ⟨rfl, rfl⟩
abbrev mX2_siftByPlace : tq_M := (RX2, cX2_siftByPlace, 9, none, false, [], none)
def f_X2_siftByPlace_b21 (i0 : Nat) (i1 : Int32) (i2 : Int32) (i3 : Int32) (s : Int32 × tq_H) : Option ((Int32 × tq_H) ⊕ (tq_H)) := match s with
  | (y4, hh) =>
    (tq_gr hh i0 2 1).bind fun k5 =>
    (tq_is hh k5 3).bind fun _ =>
    (f_X3_count k5 hh).bind fun v6 =>
    if y4 ≥ v6 then
      some (.inr hh)
    else
      (tq_gr hh i0 2 4).bind fun k8 =>
      (tq_is hh k8 7).bind fun _ =>
      (f_X7_get k8 y4 hh).bind fun v9 =>
      (if i3 = 0 then
        (tq_gr hh i0 2 2).bind fun k11 =>
        (tq_is hh k11 4).bind fun _ =>
        (f_X4_comparisonOf k11 i1 hh).bind fun v12 =>
        some v12
      else
        some (0 : Int32)).bind fun p14 =>
      (if i3 = 0 then
        (tq_gr hh i0 2 2).bind fun k15 =>
        (tq_is hh k15 4).bind fun _ =>
        (f_X4_numberOf k15 i1 hh).bind fun v16 =>
        some v16
      else
        (f_J13_bitCount_95d88 v9 hh).bind fun v18 =>
        some v18).bind fun p19 =>
      (tq_gr hh i0 2 4).bind fun k20 =>
      (f_X2_keepPlaced v9 i2 p14 p19 hh).bind fun v21 =>
      (tq_is hh k20 7).bind fun _ =>
      (f_X7_set k20 y4 v21 hh).bind fun v22 =>
      tq_let (y4 + (1 : Int32)) fun x24 =>
      some (.inl (x24, v22))
def f_X2_siftByPlace (t : Nat) (a1 : Int32) (a2 : Int32) (h : tq_H) : Option (tq_H) :=
  (tq_gr h t 2 2).bind fun k1 =>
  (tq_is h k1 4).bind fun _ =>
  (f_X4_whatOf k1 a1 h).bind fun v2 =>
  tq_let (if v2 = (1 : Int32) then (1 : Int32) else (0 : Int32)) fun p4 =>
  (tq_loop (f_X2_siftByPlace_b21 t a1 a2 p4) tq_N ((0 : Int32), h)).bind fun o25 =>
  some o25
set_option maxHeartbeats 4000000 in
theorem l_X2_siftByPlace_21 {l : Launch} {d : Nat} {Q : tq_R → tq_H → Prop} {bc bs : Nat} (hd9 : 2 ≤ d) (i0 : Nat) (i1 : Int32) (i2 : Int32) (i3 : Int32) : ∀ (n : Nat) (y4 : Int32) (hh : tq_H) (o : tq_H), tq_loop (f_X2_siftByPlace_b21 i0 i1 i2 i3) n (y4, hh) = some o → tq_W l mX2_siftByPlace d bc bs Q 109 [] [] o → tq_W l mX2_siftByPlace d bc bs Q 21 [(0, .ref i0), (1, .int i1), (2, .int i2), (3, .int i3), (4, .int y4)] [] hh := by
  intro n
  induction n with
  | zero => intro y4 hh o hl; cases hl
  | succ n ih =>
    intro y4 hh o hl hk
    obtain ⟨oo, hf, ho⟩ := tq_loop_s hl
    refine tq_iload (M := mX2_siftByPlace) (pc := 21) dX2_siftByPlace_21 rfl ?_
    refine tq_aload_n (M := mX2_siftByPlace) (pc := 23) dX2_siftByPlace_23 rfl ?_
    obtain ⟨k5, ek5, hf⟩ := tq_be hf
    refine tq_getR (M := mX2_siftByPlace) (pc := 24) tk_c2 (by decide) dX2_siftByPlace_24 tk_RX2_50 rfl ek5 ?_
    obtain ⟨⟨⟩, eu7, hf⟩ := tq_be hf
    obtain ⟨fsu7, eu7⟩ := tq_is_s eu7
    obtain ⟨v6, ev6, hf⟩ := tq_be hf
    refine tq_calV (M := mX2_siftByPlace) (pc := 27) (S := [.int y4]) tk_y_X3_count tk_v_X3_count tk_RX2_55 dX2_siftByPlace_27 [] rfl (S0 := _) rfl eu7 rfl (Nat.le_of_ble_eq_true rfl) (d1 := d - 1) (b1 := 0) (s1 := 0) (bc' := bc) (bs' := bs) (Q1 := fun r h9 => r = .inl (some (.int v6)) ∧ hh = h9) (by omega) (by omega) (by omega) (w_X3_count (by omega) ev6 (fun _ _ q => q)) (fun E h9 q => nomatch (show (Sum.inr E : tq_R) = Sum.inl _ from q.1)) (fun r9 h9 q => ?_)
    obtain ⟨q1, rfl⟩ := q
    cases (show (Sum.inl r9 : tq_R) = Sum.inl (some (.int v6)) from q1)
    refine tq_icmp_ge (M := mX2_siftByPlace) (pc := 30) (tgt := 109) dX2_siftByPlace_30 (by decide) (fun cc => ?_) (fun cc => ?_)
    · have hf := tq_ifp hf cc
      refine tq_pick (L2 := []) [] rfl ?_
      cases (Option.some.inj hf)
      cases (tq_lx ho)
      exact hk
    · have hf := tq_ifn hf cc
      refine tq_aload_n (M := mX2_siftByPlace) (pc := 33) dX2_siftByPlace_33 rfl ?_
      obtain ⟨k8, ek8, hf⟩ := tq_be hf
      refine tq_getR (M := mX2_siftByPlace) (pc := 34) tk_c2 (by decide) dX2_siftByPlace_34 tk_RX2_20 rfl ek8 ?_
      refine tq_iload (M := mX2_siftByPlace) (pc := 37) dX2_siftByPlace_37 rfl ?_
      obtain ⟨⟨⟩, eu10, hf⟩ := tq_be hf
      obtain ⟨fsu10, eu10⟩ := tq_is_s eu10
      obtain ⟨v9, ev9, hf⟩ := tq_be hf
      refine tq_calV (M := mX2_siftByPlace) (pc := 39) (S := []) tk_y_X7_get tk_v_X7_get tk_RX2_80 dX2_siftByPlace_39 [.int y4] rfl (S0 := _) rfl eu10 rfl (Nat.le_of_ble_eq_true rfl) (d1 := d - 1) (b1 := 0) (s1 := 0) (bc' := bc) (bs' := bs) (Q1 := fun r h9 => r = .inl (some (.long v9)) ∧ hh = h9) (by omega) (by omega) (by omega) (w_X7_get (by omega) ev9 (fun _ _ q => q)) (fun E h9 q => nomatch (show (Sum.inr E : tq_R) = Sum.inl _ from q.1)) (fun r9 h9 q => ?_)
      obtain ⟨q1, rfl⟩ := q
      cases (show (Sum.inl r9 : tq_R) = Sum.inl (some (.long v9)) from q1)
      refine tq_lstore (M := mX2_siftByPlace) (pc := 42) dX2_siftByPlace_42 (L2 := [(5, .long v9), (0, .ref i0), (1, .int i1), (2, .int i2), (3, .int i3), (4, .int y4)]) (by decide) rfl ?_
      refine tq_iload_n (M := mX2_siftByPlace) (pc := 44) dX2_siftByPlace_44 rfl ?_
      obtain ⟨p14, ep14, hf⟩ := tq_be hf
      have HJ45 : tq_W l mX2_siftByPlace d bc bs Q 60 [(0, .ref i0), (1, .int i1), (2, .int i2), (3, .int i3), (4, .int y4), (5, .long v9)] [.int p14] hh := by
        refine tq_istore (M := mX2_siftByPlace) (pc := 60) dX2_siftByPlace_60 (L2 := [(7, .int p14), (0, .ref i0), (1, .int i1), (2, .int i2), (3, .int i3), (4, .int y4), (5, .long v9)]) (by decide) rfl ?_
        refine tq_iload_n (M := mX2_siftByPlace) (pc := 62) dX2_siftByPlace_62 rfl ?_
        obtain ⟨p19, ep19, hf⟩ := tq_be hf
        have HJ63 : tq_W l mX2_siftByPlace d bc bs Q 82 [(0, .ref i0), (1, .int i1), (2, .int i2), (3, .int i3), (4, .int y4), (5, .long v9), (7, .int p14)] [.int p19] hh := by
          refine tq_istore (M := mX2_siftByPlace) (pc := 82) dX2_siftByPlace_82 (L2 := [(8, .int p19), (0, .ref i0), (1, .int i1), (2, .int i2), (3, .int i3), (4, .int y4), (5, .long v9), (7, .int p14)]) (by decide) rfl ?_
          refine tq_aload_n (M := mX2_siftByPlace) (pc := 84) dX2_siftByPlace_84 rfl ?_
          obtain ⟨k20, ek20, hf⟩ := tq_be hf
          refine tq_getR (M := mX2_siftByPlace) (pc := 85) tk_c2 (by decide) dX2_siftByPlace_85 tk_RX2_20 rfl ek20 ?_
          refine tq_iload (M := mX2_siftByPlace) (pc := 88) dX2_siftByPlace_88 rfl ?_
          refine tq_lload (M := mX2_siftByPlace) (pc := 90) dX2_siftByPlace_90 rfl ?_
          refine tq_iload_n (M := mX2_siftByPlace) (pc := 92) dX2_siftByPlace_92 rfl ?_
          refine tq_iload (M := mX2_siftByPlace) (pc := 93) dX2_siftByPlace_93 rfl ?_
          refine tq_iload (M := mX2_siftByPlace) (pc := 95) dX2_siftByPlace_95 rfl ?_
          obtain ⟨v21, ev21, hf⟩ := tq_be hf
          refine tq_calS (M := mX2_siftByPlace) (pc := 97) (S := [.int y4, .ref k20]) tk_y_X2_keepPlaced tk_s_X2_keepPlaced tk_RX2_168 dX2_siftByPlace_97 [.long v9, .int i2, .int p14, .int p19] rfl (Nat.le_of_ble_eq_true rfl) (d1 := d - 1) (b1 := 0) (s1 := 0) (bc' := bc) (bs' := bs) (Q1 := fun r h9 => r = .inl (some (.long v21)) ∧ hh = h9) (by omega) (by omega) (by omega) (w_X2_keepPlaced (by omega) ev21 (fun _ _ q => q)) (fun E h9 q => nomatch (show (Sum.inr E : tq_R) = Sum.inl _ from q.1)) (fun r9 h9 q => ?_)
          obtain ⟨q1, rfl⟩ := q
          cases (show (Sum.inl r9 : tq_R) = Sum.inl (some (.long v21)) from q1)
          obtain ⟨⟨⟩, eu23, hf⟩ := tq_be hf
          obtain ⟨fsu23, eu23⟩ := tq_is_s eu23
          obtain ⟨v22, ev22, hf⟩ := tq_be hf
          refine tq_calV (M := mX2_siftByPlace) (pc := 100) (S := []) tk_y_X7_set tk_v_X7_set tk_RX2_87 dX2_siftByPlace_100 [.int y4, .long v21] rfl (S0 := _) rfl eu23 rfl (Nat.le_of_ble_eq_true rfl) (d1 := d - 1) (b1 := 0) (s1 := 0) (bc' := bc) (bs' := bs) (Q1 := fun r h9 => r = .inl none ∧ v22 = h9) (by omega) (by omega) (by omega) (w_X7_set (by omega) ev22 (fun _ _ q => q)) (fun E h9 q => nomatch (show (Sum.inr E : tq_R) = Sum.inl _ from q.1)) (fun r9 h9 q => ?_)
          obtain ⟨q1, rfl⟩ := q
          cases (show (Sum.inl r9 : tq_R) = Sum.inl (none) from q1)
          obtain ⟨x24, ex24, hf⟩ := tq_le hf
          refine tq_iinc (M := mX2_siftByPlace) (pc := 103) (v := x24) (L2 := [(4, .int x24), (8, .int p19), (0, .ref i0), (1, .int i1), (2, .int i2), (3, .int i3), (5, .long v9), (7, .int p14)]) dX2_siftByPlace_103 rfl (by rw [ex24, tk_ki_1]) (by decide) rfl ?_
          refine tq_goto (M := mX2_siftByPlace) (pc := 106) (tgt := 21) dX2_siftByPlace_106 (by decide) ?_
          refine tq_pick (L2 := [(0, .ref i0), (1, .int i1), (2, .int i2), (3, .int i3), (4, .int x24)]) [2, 3, 4, 5, 0] rfl ?_
          cases (Option.some.inj hf)
          exact ih _ _ o (tq_lc ho) hk
        refine tq_if_eq (M := mX2_siftByPlace) (pc := 63) (tgt := 74) dX2_siftByPlace_63 (by decide) (fun cc => ?_) (fun cc => ?_)
        · have hf := tq_ifp ep19 cc
          refine tq_aload_n (M := mX2_siftByPlace) (pc := 74) dX2_siftByPlace_74 rfl ?_
          obtain ⟨k15, ek15, hf⟩ := tq_be hf
          refine tq_getR (M := mX2_siftByPlace) (pc := 75) tk_c2 (by decide) dX2_siftByPlace_75 tk_RX2_51 rfl ek15 ?_
          refine tq_iload_n (M := mX2_siftByPlace) (pc := 78) dX2_siftByPlace_78 rfl ?_
          obtain ⟨⟨⟩, eu17, hf⟩ := tq_be hf
          obtain ⟨fsu17, eu17⟩ := tq_is_s eu17
          obtain ⟨v16, ev16, hf⟩ := tq_be hf
          refine tq_calV (M := mX2_siftByPlace) (pc := 79) (S := []) tk_y_X4_numberOf tk_v_X4_numberOf tk_RX2_165 dX2_siftByPlace_79 [.int i1] rfl (S0 := _) rfl eu17 rfl (Nat.le_of_ble_eq_true rfl) (d1 := d - 1) (b1 := 0) (s1 := 0) (bc' := bc) (bs' := bs) (Q1 := fun r h9 => r = .inl (some (.int v16)) ∧ hh = h9) (by omega) (by omega) (by omega) (w_X4_numberOf (by omega) ev16 (fun _ _ q => q)) (fun E h9 q => nomatch (show (Sum.inr E : tq_R) = Sum.inl _ from q.1)) (fun r9 h9 q => ?_)
          obtain ⟨q1, rfl⟩ := q
          cases (show (Sum.inl r9 : tq_R) = Sum.inl (some (.int v16)) from q1)
          refine tq_pick (L2 := [(0, .ref i0), (1, .int i1), (2, .int i2), (3, .int i3), (4, .int y4), (5, .long v9), (7, .int p14)]) [1, 2, 3, 4, 5, 6, 0] rfl ?_
          cases (Option.some.inj hf)
          exact HJ63
        · have hf := tq_ifn ep19 cc
          refine tq_lload (M := mX2_siftByPlace) (pc := 66) dX2_siftByPlace_66 rfl ?_
          obtain ⟨v18, ev18, hf⟩ := tq_be hf
          refine tq_calS (M := mX2_siftByPlace) (pc := 68) (S := []) tk_y_J13_bitCount_95d88 tk_s_J13_bitCount_95d88 tk_RX2_159 dX2_siftByPlace_68 [.long v9] rfl (Nat.le_of_ble_eq_true rfl) (d1 := d - 1) (b1 := 0) (s1 := 0) (bc' := bc) (bs' := bs) (Q1 := fun r h9 => r = .inl (some (.int v18)) ∧ hh = h9) (by omega) (by omega) (by omega) (w_J13_bitCount_95d88 (by omega) ev18 (fun _ _ q => q)) (fun E h9 q => nomatch (show (Sum.inr E : tq_R) = Sum.inl _ from q.1)) (fun r9 h9 q => ?_)
          obtain ⟨q1, rfl⟩ := q
          cases (show (Sum.inl r9 : tq_R) = Sum.inl (some (.int v18)) from q1)
          refine tq_goto (M := mX2_siftByPlace) (pc := 71) (tgt := 82) dX2_siftByPlace_71 (by decide) ?_
          refine tq_pick (L2 := [(0, .ref i0), (1, .int i1), (2, .int i2), (3, .int i3), (4, .int y4), (5, .long v9), (7, .int p14)]) [1, 2, 3, 4, 5, 6, 0] rfl ?_
          cases (Option.some.inj hf)
          exact HJ63
      refine tq_if_eq (M := mX2_siftByPlace) (pc := 45) (tgt := 52) dX2_siftByPlace_45 (by decide) (fun cc => ?_) (fun cc => ?_)
      · have hf := tq_ifp ep14 cc
        refine tq_aload_n (M := mX2_siftByPlace) (pc := 52) dX2_siftByPlace_52 rfl ?_
        obtain ⟨k11, ek11, hf⟩ := tq_be hf
        refine tq_getR (M := mX2_siftByPlace) (pc := 53) tk_c2 (by decide) dX2_siftByPlace_53 tk_RX2_51 rfl ek11 ?_
        refine tq_iload_n (M := mX2_siftByPlace) (pc := 56) dX2_siftByPlace_56 rfl ?_
        obtain ⟨⟨⟩, eu13, hf⟩ := tq_be hf
        obtain ⟨fsu13, eu13⟩ := tq_is_s eu13
        obtain ⟨v12, ev12, hf⟩ := tq_be hf
        refine tq_calV (M := mX2_siftByPlace) (pc := 57) (S := []) tk_y_X4_comparisonOf tk_v_X4_comparisonOf tk_RX2_156 dX2_siftByPlace_57 [.int i1] rfl (S0 := _) rfl eu13 rfl (Nat.le_of_ble_eq_true rfl) (d1 := d - 1) (b1 := 0) (s1 := 0) (bc' := bc) (bs' := bs) (Q1 := fun r h9 => r = .inl (some (.int v12)) ∧ hh = h9) (by omega) (by omega) (by omega) (w_X4_comparisonOf (by omega) ev12 (fun _ _ q => q)) (fun E h9 q => nomatch (show (Sum.inr E : tq_R) = Sum.inl _ from q.1)) (fun r9 h9 q => ?_)
        obtain ⟨q1, rfl⟩ := q
        cases (show (Sum.inl r9 : tq_R) = Sum.inl (some (.int v12)) from q1)
        refine tq_pick (L2 := [(0, .ref i0), (1, .int i1), (2, .int i2), (3, .int i3), (4, .int y4), (5, .long v9)]) [1, 2, 3, 4, 5, 0] rfl ?_
        cases (Option.some.inj hf)
        exact HJ45
      · have hf := tq_ifn ep14 cc
        refine tq_iconst (M := mX2_siftByPlace) (pc := 48) dX2_siftByPlace_48 tk_ki_0 ?_
        refine tq_goto (M := mX2_siftByPlace) (pc := 49) (tgt := 60) dX2_siftByPlace_49 (by decide) ?_
        refine tq_pick (L2 := [(0, .ref i0), (1, .int i1), (2, .int i2), (3, .int i3), (4, .int y4), (5, .long v9)]) [1, 2, 3, 4, 5, 0] rfl ?_
        cases (Option.some.inj hf)
        exact HJ45
set_option maxHeartbeats 4000000 in
set_option maxRecDepth 20000 in
theorem w_X2_siftByPlace {l : Launch} {d : Nat} (hd9 : 2 ≤ d) {t : Nat} {a1 : Int32} {a2 : Int32} {h : tq_H} {o : tq_H} {Q : tq_R → tq_H → Prop} (hf : f_X2_siftByPlace t a1 a2 h = some o) (hQ : ∀ r h9, r = .inl none ∧ o = h9 → Q r h9) : tq_C l yX2_siftByPlace cX2_siftByPlace 9 none d 0 0 [.ref t, .int a1, .int a2] h Q := by
  refine tq_body (y := yX2_siftByPlace) false (by decide +kernel) (fun z => by cases z) (Nat.le_of_ble_eq_true rfl) ?_
  show tq_W l mX2_siftByPlace d 0 0 Q 0 [(0, .ref t), (1, .int a1), (2, .int a2)] [] h
  refine tq_aload_n (M := mX2_siftByPlace) (pc := 0) dX2_siftByPlace_0 rfl ?_
  obtain ⟨k1, ek1, hf⟩ := tq_be hf
  refine tq_getR (M := mX2_siftByPlace) (pc := 1) tk_c2 (by decide) dX2_siftByPlace_1 tk_RX2_51 rfl ek1 ?_
  refine tq_iload_n (M := mX2_siftByPlace) (pc := 4) dX2_siftByPlace_4 rfl ?_
  obtain ⟨⟨⟩, eu3, hf⟩ := tq_be hf
  obtain ⟨fsu3, eu3⟩ := tq_is_s eu3
  obtain ⟨v2, ev2, hf⟩ := tq_be hf
  refine tq_calV (M := mX2_siftByPlace) (pc := 5) (S := []) tk_y_X4_whatOf tk_v_X4_whatOf tk_RX2_129 dX2_siftByPlace_5 [.int a1] rfl (S0 := _) rfl eu3 rfl (Nat.le_of_ble_eq_true rfl) (d1 := d - 1) (b1 := 0) (s1 := 0) (bc' := 0) (bs' := 0) (Q1 := fun r h9 => r = .inl (some (.int v2)) ∧ h = h9) (by omega) rfl rfl (w_X4_whatOf (by omega) ev2 (fun _ _ q => q)) (fun E h9 q => nomatch (show (Sum.inr E : tq_R) = Sum.inl _ from q.1)) (fun r9 h9 q => ?_)
  obtain ⟨q1, rfl⟩ := q
  cases (show (Sum.inl r9 : tq_R) = Sum.inl (some (.int v2)) from q1)
  refine tq_iconst (M := mX2_siftByPlace) (pc := 8) dX2_siftByPlace_8 tk_ki_1 ?_
  obtain ⟨p4, ep4, hf⟩ := tq_le hf
  have HJ9 : tq_W l mX2_siftByPlace d 0 0 Q 17 [(0, .ref t), (1, .int a1), (2, .int a2)] [.int p4] h := by
    refine tq_istore_n (M := mX2_siftByPlace) (pc := 17) rfl dX2_siftByPlace_17 (L2 := [(3, .int p4), (0, .ref t), (1, .int a1), (2, .int a2)]) (by decide) rfl ?_
    refine tq_iconst (M := mX2_siftByPlace) (pc := 18) dX2_siftByPlace_18 tk_ki_0 ?_
    refine tq_istore (M := mX2_siftByPlace) (pc := 19) dX2_siftByPlace_19 (L2 := [(4, .int (0 : Int32)), (3, .int p4), (0, .ref t), (1, .int a1), (2, .int a2)]) (by decide) rfl ?_
    obtain ⟨o25, eo25, hf⟩ := tq_be hf
    refine tq_pick (L2 := [(0, .ref t), (1, .int a1), (2, .int a2), (3, .int p4), (4, .int (0 : Int32))]) [2, 3, 4, 1, 0] rfl ?_
    refine l_X2_siftByPlace_21 (bc := 0) (bs := 0) (by omega) t a1 a2 p4 _ (0 : Int32) h _ eo25 ?_
    refine tq_vret (M := mX2_siftByPlace) (pc := 109) dX2_siftByPlace_109 rfl ?_
    cases (Option.some.inj hf)
    exact hQ _ _ ⟨rfl, rfl⟩
  refine tq_icmp_ne (M := mX2_siftByPlace) (pc := 9) (tgt := 16) dX2_siftByPlace_9 (by decide) (fun cc => ?_) (fun cc => ?_)
  · have hf := tq_ifn ep4.symm cc
    refine tq_iconst (M := mX2_siftByPlace) (pc := 16) dX2_siftByPlace_16 tk_ki_0 ?_
    cases hf
    exact HJ9
  · have hf := tq_ifp ep4.symm cc
    refine tq_iconst (M := mX2_siftByPlace) (pc := 12) dX2_siftByPlace_12 tk_ki_1 ?_
    refine tq_goto (M := mX2_siftByPlace) (pc := 13) (tgt := 17) dX2_siftByPlace_13 (by decide) ?_
    cases hf
    exact HJ9
abbrev mX2_worthy : tq_M := (RX2, cX2_worthy, 6, (some .long), false, [], none)
def f_X2_worthy_b5 (i0 : Nat) (i1 : Int32) (hh : tq_H) (s : Int64 × Int32) : Option ((Int64 × Int32) ⊕ (Int64)) := match s with
  | (y2, y4) =>
    (tq_gr hh i0 2 1).bind fun k1 =>
    (tq_is hh k1 3).bind fun _ =>
    (f_X3_count k1 hh).bind fun v2 =>
    if y4 ≥ v2 then
      some (.inr y2)
    else
      (tq_gr hh i0 2 5).bind fun k4 =>
      (tq_is hh k4 5).bind fun _ =>
      (f_X5_get k4 y4 hh).bind fun v5 =>
      (if v5 = (-1 : Int32) then
        some y2
      else
        (tq_gr hh i0 2 2).bind fun k7 =>
        (tq_is hh k7 4).bind fun _ =>
        (f_X4_comparisonOf k7 i1 hh).bind fun v8 =>
        (tq_gr hh i0 2 2).bind fun k10 =>
        (tq_is hh k10 4).bind fun _ =>
        (f_X4_numberOf k10 i1 hh).bind fun v11 =>
        (f_X0_agrees v5 v8 v11 hh).bind fun v13 =>
        if v13 = 0 then
          some y2
        else
          (f_X0_one y4 hh).bind fun v14 =>
          tq_let ((y2 ||| v14)) fun x15 =>
          some x15).bind fun p16 =>
      tq_let (y4 + (1 : Int32)) fun x17 =>
      some (.inl (p16, x17))
def f_X2_worthy (t : Nat) (a1 : Int32) (h : tq_H) : Option (Int64) :=
  (tq_loop (f_X2_worthy_b5 t a1 h) tq_N ((0 : Int64), (0 : Int32))).bind fun o18 =>
  some o18
set_option maxHeartbeats 4000000 in
theorem l_X2_worthy_5 {l : Launch} {d : Nat} {Q : tq_R → tq_H → Prop} {bc bs : Nat} (hd9 : 2 ≤ d) (i0 : Nat) (i1 : Int32) (hh : tq_H) : ∀ (n : Nat) (y2 : Int64) (y4 : Int32) (o : Int64), tq_loop (f_X2_worthy_b5 i0 i1 hh) n (y2, y4) = some o → tq_W l mX2_worthy d bc bs Q 72 [(2, .long o)] [] hh → tq_W l mX2_worthy d bc bs Q 5 [(0, .ref i0), (1, .int i1), (2, .long y2), (4, .int y4)] [] hh := by
  intro n
  induction n with
  | zero => intro y2 y4 o hl; cases hl
  | succ n ih =>
    intro y2 y4 o hl hk
    obtain ⟨oo, hf, ho⟩ := tq_loop_s hl
    refine tq_iload (M := mX2_worthy) (pc := 5) dX2_worthy_5 rfl ?_
    refine tq_aload_n (M := mX2_worthy) (pc := 7) dX2_worthy_7 rfl ?_
    obtain ⟨k1, ek1, hf⟩ := tq_be hf
    refine tq_getR (M := mX2_worthy) (pc := 8) tk_c2 (by decide) dX2_worthy_8 tk_RX2_50 rfl ek1 ?_
    obtain ⟨⟨⟩, eu3, hf⟩ := tq_be hf
    obtain ⟨fsu3, eu3⟩ := tq_is_s eu3
    obtain ⟨v2, ev2, hf⟩ := tq_be hf
    refine tq_calV (M := mX2_worthy) (pc := 11) (S := [.int y4]) tk_y_X3_count tk_v_X3_count tk_RX2_55 dX2_worthy_11 [] rfl (S0 := _) rfl eu3 rfl (Nat.le_of_ble_eq_true rfl) (d1 := d - 1) (b1 := 0) (s1 := 0) (bc' := bc) (bs' := bs) (Q1 := fun r h9 => r = .inl (some (.int v2)) ∧ hh = h9) (by omega) (by omega) (by omega) (w_X3_count (by omega) ev2 (fun _ _ q => q)) (fun E h9 q => nomatch (show (Sum.inr E : tq_R) = Sum.inl _ from q.1)) (fun r9 h9 q => ?_)
    obtain ⟨q1, rfl⟩ := q
    cases (show (Sum.inl r9 : tq_R) = Sum.inl (some (.int v2)) from q1)
    refine tq_icmp_ge (M := mX2_worthy) (pc := 14) (tgt := 72) dX2_worthy_14 (by decide) (fun cc => ?_) (fun cc => ?_)
    · have hf := tq_ifp hf cc
      refine tq_pick (L2 := [(2, .long y2)]) [2] rfl ?_
      cases (Option.some.inj hf)
      cases (tq_lx ho)
      exact hk
    · have hf := tq_ifn hf cc
      refine tq_aload_n (M := mX2_worthy) (pc := 17) dX2_worthy_17 rfl ?_
      obtain ⟨k4, ek4, hf⟩ := tq_be hf
      refine tq_getR (M := mX2_worthy) (pc := 18) tk_c2 (by decide) dX2_worthy_18 tk_RX2_28 rfl ek4 ?_
      refine tq_iload (M := mX2_worthy) (pc := 21) dX2_worthy_21 rfl ?_
      obtain ⟨⟨⟩, eu6, hf⟩ := tq_be hf
      obtain ⟨fsu6, eu6⟩ := tq_is_s eu6
      obtain ⟨v5, ev5, hf⟩ := tq_be hf
      refine tq_calV (M := mX2_worthy) (pc := 23) (S := []) tk_y_X5_get tk_v_X5_get tk_RX2_175 dX2_worthy_23 [.int y4] rfl (S0 := _) rfl eu6 rfl (Nat.le_of_ble_eq_true rfl) (d1 := d - 1) (b1 := 0) (s1 := 0) (bc' := bc) (bs' := bs) (Q1 := fun r h9 => r = .inl (some (.int v5)) ∧ hh = h9) (by omega) (by omega) (by omega) (w_X5_get (by omega) ev5 (fun _ _ q => q)) (fun E h9 q => nomatch (show (Sum.inr E : tq_R) = Sum.inl _ from q.1)) (fun r9 h9 q => ?_)
      obtain ⟨q1, rfl⟩ := q
      cases (show (Sum.inl r9 : tq_R) = Sum.inl (some (.int v5)) from q1)
      refine tq_istore (M := mX2_worthy) (pc := 26) dX2_worthy_26 (L2 := [(5, .int v5), (0, .ref i0), (1, .int i1), (2, .long y2), (4, .int y4)]) (by decide) rfl ?_
      refine tq_iload (M := mX2_worthy) (pc := 28) dX2_worthy_28 rfl ?_
      refine tq_iconst (M := mX2_worthy) (pc := 30) dX2_worthy_30 tk_ki_m1 ?_
      obtain ⟨p16, ep16, hf⟩ := tq_be hf
      have HJ31 : tq_W l mX2_worthy d bc bs Q 66 [(0, .ref i0), (1, .int i1), (2, .long p16), (4, .int y4)] [] hh := by
        obtain ⟨x17, ex17, hf⟩ := tq_le hf
        refine tq_iinc (M := mX2_worthy) (pc := 66) (v := x17) (L2 := [(4, .int x17), (0, .ref i0), (1, .int i1), (2, .long p16)]) dX2_worthy_66 rfl (by rw [ex17, tk_ki_1]) (by decide) rfl ?_
        refine tq_goto (M := mX2_worthy) (pc := 69) (tgt := 5) dX2_worthy_69 (by decide) ?_
        refine tq_pick (L2 := [(0, .ref i0), (1, .int i1), (2, .long p16), (4, .int x17)]) [1, 2, 3, 0] rfl ?_
        cases (Option.some.inj hf)
        exact ih _ _ o (tq_lc ho) hk
      refine tq_icmp_eq (M := mX2_worthy) (pc := 31) (tgt := 66) dX2_worthy_31 (by decide) (fun cc => ?_) (fun cc => ?_)
      · have hf := tq_ifp ep16 cc
        refine tq_pick (L2 := [(0, .ref i0), (1, .int i1), (2, .long y2), (4, .int y4)]) [1, 2, 3, 4] rfl ?_
        cases (Option.some.inj hf)
        exact HJ31
      · have hf := tq_ifn ep16 cc
        refine tq_iload (M := mX2_worthy) (pc := 34) dX2_worthy_34 rfl ?_
        refine tq_aload_n (M := mX2_worthy) (pc := 36) dX2_worthy_36 rfl ?_
        obtain ⟨k7, ek7, hf⟩ := tq_be hf
        refine tq_getR (M := mX2_worthy) (pc := 37) tk_c2 (by decide) dX2_worthy_37 tk_RX2_51 rfl ek7 ?_
        refine tq_iload_n (M := mX2_worthy) (pc := 40) dX2_worthy_40 rfl ?_
        obtain ⟨⟨⟩, eu9, hf⟩ := tq_be hf
        obtain ⟨fsu9, eu9⟩ := tq_is_s eu9
        obtain ⟨v8, ev8, hf⟩ := tq_be hf
        refine tq_calV (M := mX2_worthy) (pc := 41) (S := [.int v5]) tk_y_X4_comparisonOf tk_v_X4_comparisonOf tk_RX2_156 dX2_worthy_41 [.int i1] rfl (S0 := _) rfl eu9 rfl (Nat.le_of_ble_eq_true rfl) (d1 := d - 1) (b1 := 0) (s1 := 0) (bc' := bc) (bs' := bs) (Q1 := fun r h9 => r = .inl (some (.int v8)) ∧ hh = h9) (by omega) (by omega) (by omega) (w_X4_comparisonOf (by omega) ev8 (fun _ _ q => q)) (fun E h9 q => nomatch (show (Sum.inr E : tq_R) = Sum.inl _ from q.1)) (fun r9 h9 q => ?_)
        obtain ⟨q1, rfl⟩ := q
        cases (show (Sum.inl r9 : tq_R) = Sum.inl (some (.int v8)) from q1)
        refine tq_aload_n (M := mX2_worthy) (pc := 44) dX2_worthy_44 rfl ?_
        obtain ⟨k10, ek10, hf⟩ := tq_be hf
        refine tq_getR (M := mX2_worthy) (pc := 45) tk_c2 (by decide) dX2_worthy_45 tk_RX2_51 rfl ek10 ?_
        refine tq_iload_n (M := mX2_worthy) (pc := 48) dX2_worthy_48 rfl ?_
        obtain ⟨⟨⟩, eu12, hf⟩ := tq_be hf
        obtain ⟨fsu12, eu12⟩ := tq_is_s eu12
        obtain ⟨v11, ev11, hf⟩ := tq_be hf
        refine tq_calV (M := mX2_worthy) (pc := 49) (S := [.int v8, .int v5]) tk_y_X4_numberOf tk_v_X4_numberOf tk_RX2_165 dX2_worthy_49 [.int i1] rfl (S0 := _) rfl eu12 rfl (Nat.le_of_ble_eq_true rfl) (d1 := d - 1) (b1 := 0) (s1 := 0) (bc' := bc) (bs' := bs) (Q1 := fun r h9 => r = .inl (some (.int v11)) ∧ hh = h9) (by omega) (by omega) (by omega) (w_X4_numberOf (by omega) ev11 (fun _ _ q => q)) (fun E h9 q => nomatch (show (Sum.inr E : tq_R) = Sum.inl _ from q.1)) (fun r9 h9 q => ?_)
        obtain ⟨q1, rfl⟩ := q
        cases (show (Sum.inl r9 : tq_R) = Sum.inl (some (.int v11)) from q1)
        obtain ⟨v13, ev13, hf⟩ := tq_be hf
        refine tq_calS (M := mX2_worthy) (pc := 52) (S := []) tk_y_X0_agrees tk_s_X0_agrees tk_RX2_177 dX2_worthy_52 [.int v5, .int v8, .int v11] rfl (Nat.le_of_ble_eq_true rfl) (d1 := d - 1) (b1 := 0) (s1 := 0) (bc' := bc) (bs' := bs) (Q1 := fun r h9 => r = .inl (some (.int v13)) ∧ hh = h9) (by omega) (by omega) (by omega) (w_X0_agrees (by omega) ev13 (fun _ _ q => q)) (fun E h9 q => nomatch (show (Sum.inr E : tq_R) = Sum.inl _ from q.1)) (fun r9 h9 q => ?_)
        obtain ⟨q1, rfl⟩ := q
        cases (show (Sum.inl r9 : tq_R) = Sum.inl (some (.int v13)) from q1)
        refine tq_if_eq (M := mX2_worthy) (pc := 55) (tgt := 66) dX2_worthy_55 (by decide) (fun cc => ?_) (fun cc => ?_)
        · have hf := tq_ifp hf cc
          refine tq_pick (L2 := [(0, .ref i0), (1, .int i1), (2, .long y2), (4, .int y4)]) [1, 2, 3, 4] rfl ?_
          cases (Option.some.inj hf)
          exact HJ31
        · have hf := tq_ifn hf cc
          refine tq_lload_n (M := mX2_worthy) (pc := 58) dX2_worthy_58 rfl ?_
          refine tq_iload (M := mX2_worthy) (pc := 59) dX2_worthy_59 rfl ?_
          obtain ⟨v14, ev14, hf⟩ := tq_be hf
          refine tq_calS (M := mX2_worthy) (pc := 61) (S := [.long y2]) tk_y_X0_one tk_s_X0_one tk_RX2_84 dX2_worthy_61 [.int y4] rfl (Nat.le_of_ble_eq_true rfl) (d1 := d - 1) (b1 := 0) (s1 := 0) (bc' := bc) (bs' := bs) (Q1 := fun r h9 => r = .inl (some (.long v14)) ∧ hh = h9) (by omega) (by omega) (by omega) (w_X0_one (by omega) ev14 (fun _ _ q => q)) (fun E h9 q => nomatch (show (Sum.inr E : tq_R) = Sum.inl _ from q.1)) (fun r9 h9 q => ?_)
          obtain ⟨q1, rfl⟩ := q
          cases (show (Sum.inl r9 : tq_R) = Sum.inl (some (.long v14)) from q1)
          refine tq_lor (M := mX2_worthy) (pc := 64) dX2_worthy_64 ?_
          obtain ⟨x15, ex15, hf⟩ := tq_le hf
          refine tq_lstore_n (M := mX2_worthy) (pc := 65) rfl dX2_worthy_65 (L2 := [(2, .long x15), (5, .int v5), (0, .ref i0), (1, .int i1), (4, .int y4)]) (by decide) (by rw [ex15]; rfl) ?_
          refine tq_pick (L2 := [(0, .ref i0), (1, .int i1), (2, .long x15), (4, .int y4)]) [2, 3, 0, 4] rfl ?_
          cases (Option.some.inj hf)
          exact HJ31
set_option maxHeartbeats 4000000 in
set_option maxRecDepth 20000 in
theorem w_X2_worthy {l : Launch} {d : Nat} (hd9 : 2 ≤ d) {t : Nat} {a1 : Int32} {h : tq_H} {o : Int64} {Q : tq_R → tq_H → Prop} (hf : f_X2_worthy t a1 h = some o) (hQ : ∀ r h9, r = .inl (some (.long o)) ∧ h = h9 → Q r h9) : tq_C l yX2_worthy cX2_worthy 6 (some .long) d 0 0 [.ref t, .int a1] h Q := by
  refine tq_body (y := yX2_worthy) false (by decide +kernel) (fun z => by cases z) (Nat.le_of_ble_eq_true rfl) ?_
  show tq_W l mX2_worthy d 0 0 Q 0 [(0, .ref t), (1, .int a1)] [] h
  refine tq_lconst (M := mX2_worthy) (pc := 0) dX2_worthy_0 tk_kl_0 ?_
  refine tq_lstore_n (M := mX2_worthy) (pc := 1) rfl dX2_worthy_1 (L2 := [(2, .long (0 : Int64)), (0, .ref t), (1, .int a1)]) (by decide) rfl ?_
  refine tq_iconst (M := mX2_worthy) (pc := 2) dX2_worthy_2 tk_ki_0 ?_
  refine tq_istore (M := mX2_worthy) (pc := 3) dX2_worthy_3 (L2 := [(4, .int (0 : Int32)), (2, .long (0 : Int64)), (0, .ref t), (1, .int a1)]) (by decide) rfl ?_
  obtain ⟨o18, eo18, hf⟩ := tq_be hf
  refine tq_pick (L2 := [(0, .ref t), (1, .int a1), (2, .long (0 : Int64)), (4, .int (0 : Int32))]) [2, 3, 1, 0] rfl ?_
  refine l_X2_worthy_5 (bc := 0) (bs := 0) (by omega) t a1 h _ (0 : Int64) (0 : Int32) _ eo18 ?_
  refine tq_lload_n (M := mX2_worthy) (pc := 72) dX2_worthy_72 rfl ?_
  refine tq_lret (M := mX2_worthy) (pc := 73) dX2_worthy_73 rfl ?_
  cases (Option.some.inj hf)
  exact hQ _ _ ⟨rfl, rfl⟩
abbrev mX2_siftByTruth : tq_M := (RX2, cX2_siftByTruth, 9, none, false, [], none)
def f_X2_siftByTruth_b25 (i0 : Nat) (i1 : Int32) (i2 : Int64) (i4 : Int32) (hh : tq_H) (s : Int64 × Int32) : Option ((Int64 × Int32) ⊕ (Int64)) := match s with
  | (y5, y7) =>
    (tq_gr hh i0 2 1).bind fun k5 =>
    (tq_is hh k5 3).bind fun _ =>
    (f_X3_count k5 hh).bind fun v6 =>
    if y7 ≥ v6 then
      some (.inr y5)
    else
      (tq_gr hh i0 2 3).bind fun k8 =>
      (tq_gr hh i0 2 2).bind fun k9 =>
      (tq_is hh k9 4).bind fun _ =>
      (f_X4_otherOf k9 i1 hh).bind fun v10 =>
      (tq_is hh k8 7).bind fun _ =>
      (f_X7_get k8 ((v10 * (60 : Int32)) + y7) hh).bind fun v12 =>
      tq_let (if (lg_cmp (v12 &&& i2) (0 : Int64)) = 0 then (0 : Int32) else (1 : Int32)) fun p14 =>
      (if p14 = i4 then
        (f_X0_one y7 hh).bind fun v15 =>
        some v15
      else
        some (0 : Int64)).bind fun p16 =>
      tq_let ((y5 ||| p16)) fun x17 =>
      tq_let (y7 + (1 : Int32)) fun x18 =>
      some (.inl (x17, x18))
def f_X2_siftByTruth_b102 (i0 : Nat) (i5 : Int64) (s : Int32 × tq_H) : Option ((Int32 × tq_H) ⊕ (tq_H)) := match s with
  | (y7, hh) =>
    (tq_gr hh i0 2 1).bind fun k20 =>
    (tq_is hh k20 3).bind fun _ =>
    (f_X3_count k20 hh).bind fun v21 =>
    if y7 ≥ v21 then
      some (.inr hh)
    else
      (tq_gr hh i0 2 4).bind fun k23 =>
      (tq_gr hh i0 2 4).bind fun k24 =>
      (tq_is hh k24 7).bind fun _ =>
      (f_X7_get k24 y7 hh).bind fun v25 =>
      (tq_is hh k23 7).bind fun _ =>
      (f_X7_set k23 y7 (v25 &&& i5) hh).bind fun v27 =>
      tq_let (y7 + (1 : Int32)) fun x29 =>
      some (.inl (x29, v27))
def f_X2_siftByTruth (t : Nat) (a1 : Int32) (a2 : Int64) (h : tq_H) : Option (tq_H) :=
  (tq_gr h t 2 2).bind fun k1 =>
  (tq_is h k1 4).bind fun _ =>
  (f_X4_whatOf k1 a1 h).bind fun v2 =>
  tq_let (if v2 = (3 : Int32) then (0 : Int32) else (1 : Int32)) fun p4 =>
  (tq_loop (f_X2_siftByTruth_b25 t a1 a2 p4 h) tq_N ((0 : Int64), (0 : Int32))).bind fun o19 =>
  (tq_loop (f_X2_siftByTruth_b102 t o19) tq_N ((0 : Int32), h)).bind fun o30 =>
  some o30
set_option maxHeartbeats 4000000 in
theorem l_X2_siftByTruth_25 {l : Launch} {d : Nat} {Q : tq_R → tq_H → Prop} {bc bs : Nat} (hd9 : 2 ≤ d) (i0 : Nat) (i1 : Int32) (i2 : Int64) (i4 : Int32) (hh : tq_H) : ∀ (n : Nat) (y5 : Int64) (y7 : Int32) (o : Int64), tq_loop (f_X2_siftByTruth_b25 i0 i1 i2 i4 hh) n (y5, y7) = some o → tq_W l mX2_siftByTruth d bc bs Q 99 [(0, .ref i0), (5, .long o)] [] hh → tq_W l mX2_siftByTruth d bc bs Q 25 [(0, .ref i0), (1, .int i1), (2, .long i2), (4, .int i4), (5, .long y5), (7, .int y7)] [] hh := by
  intro n
  induction n with
  | zero => intro y5 y7 o hl; cases hl
  | succ n ih =>
    intro y5 y7 o hl hk
    obtain ⟨oo, hf, ho⟩ := tq_loop_s hl
    refine tq_iload (M := mX2_siftByTruth) (pc := 25) dX2_siftByTruth_25 rfl ?_
    refine tq_aload_n (M := mX2_siftByTruth) (pc := 27) dX2_siftByTruth_27 rfl ?_
    obtain ⟨k5, ek5, hf⟩ := tq_be hf
    refine tq_getR (M := mX2_siftByTruth) (pc := 28) tk_c2 (by decide) dX2_siftByTruth_28 tk_RX2_50 rfl ek5 ?_
    obtain ⟨⟨⟩, eu7, hf⟩ := tq_be hf
    obtain ⟨fsu7, eu7⟩ := tq_is_s eu7
    obtain ⟨v6, ev6, hf⟩ := tq_be hf
    refine tq_calV (M := mX2_siftByTruth) (pc := 31) (S := [.int y7]) tk_y_X3_count tk_v_X3_count tk_RX2_55 dX2_siftByTruth_31 [] rfl (S0 := _) rfl eu7 rfl (Nat.le_of_ble_eq_true rfl) (d1 := d - 1) (b1 := 0) (s1 := 0) (bc' := bc) (bs' := bs) (Q1 := fun r h9 => r = .inl (some (.int v6)) ∧ hh = h9) (by omega) (by omega) (by omega) (w_X3_count (by omega) ev6 (fun _ _ q => q)) (fun E h9 q => nomatch (show (Sum.inr E : tq_R) = Sum.inl _ from q.1)) (fun r9 h9 q => ?_)
    obtain ⟨q1, rfl⟩ := q
    cases (show (Sum.inl r9 : tq_R) = Sum.inl (some (.int v6)) from q1)
    refine tq_icmp_ge (M := mX2_siftByTruth) (pc := 34) (tgt := 99) dX2_siftByTruth_34 (by decide) (fun cc => ?_) (fun cc => ?_)
    · have hf := tq_ifp hf cc
      refine tq_pick (L2 := [(0, .ref i0), (5, .long y5)]) [0, 4] rfl ?_
      cases (Option.some.inj hf)
      cases (tq_lx ho)
      exact hk
    · have hf := tq_ifn hf cc
      refine tq_aload_n (M := mX2_siftByTruth) (pc := 37) dX2_siftByTruth_37 rfl ?_
      obtain ⟨k8, ek8, hf⟩ := tq_be hf
      refine tq_getR (M := mX2_siftByTruth) (pc := 38) tk_c2 (by decide) dX2_siftByTruth_38 tk_RX2_14 rfl ek8 ?_
      refine tq_aload_n (M := mX2_siftByTruth) (pc := 41) dX2_siftByTruth_41 rfl ?_
      obtain ⟨k9, ek9, hf⟩ := tq_be hf
      refine tq_getR (M := mX2_siftByTruth) (pc := 42) tk_c2 (by decide) dX2_siftByTruth_42 tk_RX2_51 rfl ek9 ?_
      refine tq_iload_n (M := mX2_siftByTruth) (pc := 45) dX2_siftByTruth_45 rfl ?_
      obtain ⟨⟨⟩, eu11, hf⟩ := tq_be hf
      obtain ⟨fsu11, eu11⟩ := tq_is_s eu11
      obtain ⟨v10, ev10, hf⟩ := tq_be hf
      refine tq_calV (M := mX2_siftByTruth) (pc := 46) (S := [.ref k8]) tk_y_X4_otherOf tk_v_X4_otherOf tk_RX2_172 dX2_siftByTruth_46 [.int i1] rfl (S0 := _) rfl eu11 rfl (Nat.le_of_ble_eq_true rfl) (d1 := d - 1) (b1 := 0) (s1 := 0) (bc' := bc) (bs' := bs) (Q1 := fun r h9 => r = .inl (some (.int v10)) ∧ hh = h9) (by omega) (by omega) (by omega) (w_X4_otherOf (by omega) ev10 (fun _ _ q => q)) (fun E h9 q => nomatch (show (Sum.inr E : tq_R) = Sum.inl _ from q.1)) (fun r9 h9 q => ?_)
      obtain ⟨q1, rfl⟩ := q
      cases (show (Sum.inl r9 : tq_R) = Sum.inl (some (.int v10)) from q1)
      refine tq_bipush (M := mX2_siftByTruth) (pc := 49) dX2_siftByTruth_49 tk_kb_60 ?_
      refine tq_imul (M := mX2_siftByTruth) (pc := 51) dX2_siftByTruth_51 ?_
      refine tq_iload (M := mX2_siftByTruth) (pc := 52) dX2_siftByTruth_52 rfl ?_
      refine tq_iadd (M := mX2_siftByTruth) (pc := 54) dX2_siftByTruth_54 ?_
      obtain ⟨⟨⟩, eu13, hf⟩ := tq_be hf
      obtain ⟨fsu13, eu13⟩ := tq_is_s eu13
      obtain ⟨v12, ev12, hf⟩ := tq_be hf
      refine tq_calV (M := mX2_siftByTruth) (pc := 55) (S := []) tk_y_X7_get tk_v_X7_get tk_RX2_80 dX2_siftByTruth_55 [.int (((v10 * (60 : Int32)) + y7))] rfl (S0 := _) rfl eu13 rfl (Nat.le_of_ble_eq_true rfl) (d1 := d - 1) (b1 := 0) (s1 := 0) (bc' := bc) (bs' := bs) (Q1 := fun r h9 => r = .inl (some (.long v12)) ∧ hh = h9) (by omega) (by omega) (by omega) (w_X7_get (by omega) ev12 (fun _ _ q => q)) (fun E h9 q => nomatch (show (Sum.inr E : tq_R) = Sum.inl _ from q.1)) (fun r9 h9 q => ?_)
      obtain ⟨q1, rfl⟩ := q
      cases (show (Sum.inl r9 : tq_R) = Sum.inl (some (.long v12)) from q1)
      refine tq_lload_n (M := mX2_siftByTruth) (pc := 58) dX2_siftByTruth_58 rfl ?_
      refine tq_land (M := mX2_siftByTruth) (pc := 59) dX2_siftByTruth_59 ?_
      refine tq_lconst (M := mX2_siftByTruth) (pc := 60) dX2_siftByTruth_60 tk_kl_0 ?_
      refine tq_lcmp (M := mX2_siftByTruth) (pc := 61) dX2_siftByTruth_61 ?_
      obtain ⟨p14, ep14, hf⟩ := tq_le hf
      have HJ62 : tq_W l mX2_siftByTruth d bc bs Q 70 [(0, .ref i0), (1, .int i1), (2, .long i2), (4, .int i4), (5, .long y5), (7, .int y7)] [.int p14] hh := by
        refine tq_istore (M := mX2_siftByTruth) (pc := 70) dX2_siftByTruth_70 (L2 := [(8, .int p14), (0, .ref i0), (1, .int i1), (2, .long i2), (4, .int i4), (5, .long y5), (7, .int y7)]) (by decide) rfl ?_
        refine tq_lload (M := mX2_siftByTruth) (pc := 72) dX2_siftByTruth_72 rfl ?_
        refine tq_iload (M := mX2_siftByTruth) (pc := 74) dX2_siftByTruth_74 rfl ?_
        refine tq_iload (M := mX2_siftByTruth) (pc := 76) dX2_siftByTruth_76 rfl ?_
        obtain ⟨p16, ep16, hf⟩ := tq_be hf
        have HJ78 : tq_W l mX2_siftByTruth d bc bs Q 90 [(0, .ref i0), (1, .int i1), (2, .long i2), (4, .int i4), (7, .int y7)] [.long p16, .long y5] hh := by
          refine tq_lor (M := mX2_siftByTruth) (pc := 90) dX2_siftByTruth_90 ?_
          obtain ⟨x17, ex17, hf⟩ := tq_le hf
          refine tq_lstore (M := mX2_siftByTruth) (pc := 91) dX2_siftByTruth_91 (L2 := [(5, .long x17), (0, .ref i0), (1, .int i1), (2, .long i2), (4, .int i4), (7, .int y7)]) (by decide) (by rw [ex17]; rfl) ?_
          obtain ⟨x18, ex18, hf⟩ := tq_le hf
          refine tq_iinc (M := mX2_siftByTruth) (pc := 93) (v := x18) (L2 := [(7, .int x18), (5, .long x17), (0, .ref i0), (1, .int i1), (2, .long i2), (4, .int i4)]) dX2_siftByTruth_93 rfl (by rw [ex18, tk_ki_1]) (by decide) rfl ?_
          refine tq_goto (M := mX2_siftByTruth) (pc := 96) (tgt := 25) dX2_siftByTruth_96 (by decide) ?_
          refine tq_pick (L2 := [(0, .ref i0), (1, .int i1), (2, .long i2), (4, .int i4), (5, .long x17), (7, .int x18)]) [2, 3, 4, 5, 1, 0] rfl ?_
          cases (Option.some.inj hf)
          exact ih _ _ o (tq_lc ho) hk
        refine tq_icmp_ne (M := mX2_siftByTruth) (pc := 78) (tgt := 89) dX2_siftByTruth_78 (by decide) (fun cc => ?_) (fun cc => ?_)
        · have hf := tq_ifn ep16 cc
          refine tq_lconst (M := mX2_siftByTruth) (pc := 89) dX2_siftByTruth_89 tk_kl_0 ?_
          refine tq_pick (L2 := [(0, .ref i0), (1, .int i1), (2, .long i2), (4, .int i4), (7, .int y7)]) [1, 2, 3, 4, 6] rfl ?_
          cases (Option.some.inj hf)
          exact HJ78
        · have hf := tq_ifp ep16 cc
          refine tq_iload (M := mX2_siftByTruth) (pc := 81) dX2_siftByTruth_81 rfl ?_
          obtain ⟨v15, ev15, hf⟩ := tq_be hf
          refine tq_calS (M := mX2_siftByTruth) (pc := 83) (S := [.long y5]) tk_y_X0_one tk_s_X0_one tk_RX2_84 dX2_siftByTruth_83 [.int y7] rfl (Nat.le_of_ble_eq_true rfl) (d1 := d - 1) (b1 := 0) (s1 := 0) (bc' := bc) (bs' := bs) (Q1 := fun r h9 => r = .inl (some (.long v15)) ∧ hh = h9) (by omega) (by omega) (by omega) (w_X0_one (by omega) ev15 (fun _ _ q => q)) (fun E h9 q => nomatch (show (Sum.inr E : tq_R) = Sum.inl _ from q.1)) (fun r9 h9 q => ?_)
          obtain ⟨q1, rfl⟩ := q
          cases (show (Sum.inl r9 : tq_R) = Sum.inl (some (.long v15)) from q1)
          refine tq_goto (M := mX2_siftByTruth) (pc := 86) (tgt := 90) dX2_siftByTruth_86 (by decide) ?_
          refine tq_pick (L2 := [(0, .ref i0), (1, .int i1), (2, .long i2), (4, .int i4), (7, .int y7)]) [1, 2, 3, 4, 6] rfl ?_
          cases (Option.some.inj hf)
          exact HJ78
      refine tq_if_eq (M := mX2_siftByTruth) (pc := 62) (tgt := 69) dX2_siftByTruth_62 (by decide) (fun cc => ?_) (fun cc => ?_)
      · have hf := tq_ifp ep14.symm cc
        refine tq_iconst (M := mX2_siftByTruth) (pc := 69) dX2_siftByTruth_69 tk_ki_0 ?_
        cases hf
        exact HJ62
      · have hf := tq_ifn ep14.symm cc
        refine tq_iconst (M := mX2_siftByTruth) (pc := 65) dX2_siftByTruth_65 tk_ki_1 ?_
        refine tq_goto (M := mX2_siftByTruth) (pc := 66) (tgt := 70) dX2_siftByTruth_66 (by decide) ?_
        cases hf
        exact HJ62
set_option maxHeartbeats 4000000 in
theorem l_X2_siftByTruth_102 {l : Launch} {d : Nat} {Q : tq_R → tq_H → Prop} {bc bs : Nat} (hd9 : 2 ≤ d) (i0 : Nat) (i5 : Int64) : ∀ (n : Nat) (y7 : Int32) (hh : tq_H) (o : tq_H), tq_loop (f_X2_siftByTruth_b102 i0 i5) n (y7, hh) = some o → tq_W l mX2_siftByTruth d bc bs Q 141 [] [] o → tq_W l mX2_siftByTruth d bc bs Q 102 [(0, .ref i0), (5, .long i5), (7, .int y7)] [] hh := by
  intro n
  induction n with
  | zero => intro y7 hh o hl; cases hl
  | succ n ih =>
    intro y7 hh o hl hk
    obtain ⟨oo, hf, ho⟩ := tq_loop_s hl
    refine tq_iload (M := mX2_siftByTruth) (pc := 102) dX2_siftByTruth_102 rfl ?_
    refine tq_aload_n (M := mX2_siftByTruth) (pc := 104) dX2_siftByTruth_104 rfl ?_
    obtain ⟨k20, ek20, hf⟩ := tq_be hf
    refine tq_getR (M := mX2_siftByTruth) (pc := 105) tk_c2 (by decide) dX2_siftByTruth_105 tk_RX2_50 rfl ek20 ?_
    obtain ⟨⟨⟩, eu22, hf⟩ := tq_be hf
    obtain ⟨fsu22, eu22⟩ := tq_is_s eu22
    obtain ⟨v21, ev21, hf⟩ := tq_be hf
    refine tq_calV (M := mX2_siftByTruth) (pc := 108) (S := [.int y7]) tk_y_X3_count tk_v_X3_count tk_RX2_55 dX2_siftByTruth_108 [] rfl (S0 := _) rfl eu22 rfl (Nat.le_of_ble_eq_true rfl) (d1 := d - 1) (b1 := 0) (s1 := 0) (bc' := bc) (bs' := bs) (Q1 := fun r h9 => r = .inl (some (.int v21)) ∧ hh = h9) (by omega) (by omega) (by omega) (w_X3_count (by omega) ev21 (fun _ _ q => q)) (fun E h9 q => nomatch (show (Sum.inr E : tq_R) = Sum.inl _ from q.1)) (fun r9 h9 q => ?_)
    obtain ⟨q1, rfl⟩ := q
    cases (show (Sum.inl r9 : tq_R) = Sum.inl (some (.int v21)) from q1)
    refine tq_icmp_ge (M := mX2_siftByTruth) (pc := 111) (tgt := 141) dX2_siftByTruth_111 (by decide) (fun cc => ?_) (fun cc => ?_)
    · have hf := tq_ifp hf cc
      refine tq_pick (L2 := []) [] rfl ?_
      cases (Option.some.inj hf)
      cases (tq_lx ho)
      exact hk
    · have hf := tq_ifn hf cc
      refine tq_aload_n (M := mX2_siftByTruth) (pc := 114) dX2_siftByTruth_114 rfl ?_
      obtain ⟨k23, ek23, hf⟩ := tq_be hf
      refine tq_getR (M := mX2_siftByTruth) (pc := 115) tk_c2 (by decide) dX2_siftByTruth_115 tk_RX2_20 rfl ek23 ?_
      refine tq_iload (M := mX2_siftByTruth) (pc := 118) dX2_siftByTruth_118 rfl ?_
      refine tq_aload_n (M := mX2_siftByTruth) (pc := 120) dX2_siftByTruth_120 rfl ?_
      obtain ⟨k24, ek24, hf⟩ := tq_be hf
      refine tq_getR (M := mX2_siftByTruth) (pc := 121) tk_c2 (by decide) dX2_siftByTruth_121 tk_RX2_20 rfl ek24 ?_
      refine tq_iload (M := mX2_siftByTruth) (pc := 124) dX2_siftByTruth_124 rfl ?_
      obtain ⟨⟨⟩, eu26, hf⟩ := tq_be hf
      obtain ⟨fsu26, eu26⟩ := tq_is_s eu26
      obtain ⟨v25, ev25, hf⟩ := tq_be hf
      refine tq_calV (M := mX2_siftByTruth) (pc := 126) (S := [.int y7, .ref k23]) tk_y_X7_get tk_v_X7_get tk_RX2_80 dX2_siftByTruth_126 [.int y7] rfl (S0 := _) rfl eu26 rfl (Nat.le_of_ble_eq_true rfl) (d1 := d - 1) (b1 := 0) (s1 := 0) (bc' := bc) (bs' := bs) (Q1 := fun r h9 => r = .inl (some (.long v25)) ∧ hh = h9) (by omega) (by omega) (by omega) (w_X7_get (by omega) ev25 (fun _ _ q => q)) (fun E h9 q => nomatch (show (Sum.inr E : tq_R) = Sum.inl _ from q.1)) (fun r9 h9 q => ?_)
      obtain ⟨q1, rfl⟩ := q
      cases (show (Sum.inl r9 : tq_R) = Sum.inl (some (.long v25)) from q1)
      refine tq_lload (M := mX2_siftByTruth) (pc := 129) dX2_siftByTruth_129 rfl ?_
      refine tq_land (M := mX2_siftByTruth) (pc := 131) dX2_siftByTruth_131 ?_
      obtain ⟨⟨⟩, eu28, hf⟩ := tq_be hf
      obtain ⟨fsu28, eu28⟩ := tq_is_s eu28
      obtain ⟨v27, ev27, hf⟩ := tq_be hf
      refine tq_calV (M := mX2_siftByTruth) (pc := 132) (S := []) tk_y_X7_set tk_v_X7_set tk_RX2_87 dX2_siftByTruth_132 [.int y7, .long ((v25 &&& i5))] rfl (S0 := _) rfl eu28 rfl (Nat.le_of_ble_eq_true rfl) (d1 := d - 1) (b1 := 0) (s1 := 0) (bc' := bc) (bs' := bs) (Q1 := fun r h9 => r = .inl none ∧ v27 = h9) (by omega) (by omega) (by omega) (w_X7_set (by omega) ev27 (fun _ _ q => q)) (fun E h9 q => nomatch (show (Sum.inr E : tq_R) = Sum.inl _ from q.1)) (fun r9 h9 q => ?_)
      obtain ⟨q1, rfl⟩ := q
      cases (show (Sum.inl r9 : tq_R) = Sum.inl (none) from q1)
      obtain ⟨x29, ex29, hf⟩ := tq_le hf
      refine tq_iinc (M := mX2_siftByTruth) (pc := 135) (v := x29) (L2 := [(7, .int x29), (0, .ref i0), (5, .long i5)]) dX2_siftByTruth_135 rfl (by rw [ex29, tk_ki_1]) (by decide) rfl ?_
      refine tq_goto (M := mX2_siftByTruth) (pc := 138) (tgt := 102) dX2_siftByTruth_138 (by decide) ?_
      refine tq_pick (L2 := [(0, .ref i0), (5, .long i5), (7, .int x29)]) [1, 2, 0] rfl ?_
      cases (Option.some.inj hf)
      exact ih _ _ o (tq_lc ho) hk
set_option maxHeartbeats 4000000 in
set_option maxRecDepth 20000 in
theorem w_X2_siftByTruth {l : Launch} {d : Nat} (hd9 : 2 ≤ d) {t : Nat} {a1 : Int32} {a2 : Int64} {h : tq_H} {o : tq_H} {Q : tq_R → tq_H → Prop} (hf : f_X2_siftByTruth t a1 a2 h = some o) (hQ : ∀ r h9, r = .inl none ∧ o = h9 → Q r h9) : tq_C l yX2_siftByTruth cX2_siftByTruth 9 none d 0 0 [.ref t, .int a1, .long a2] h Q := by
  refine tq_body (y := yX2_siftByTruth) false (by decide +kernel) (fun z => by cases z) (Nat.le_of_ble_eq_true rfl) ?_
  show tq_W l mX2_siftByTruth d 0 0 Q 0 [(0, .ref t), (1, .int a1), (2, .long a2)] [] h
  refine tq_aload_n (M := mX2_siftByTruth) (pc := 0) dX2_siftByTruth_0 rfl ?_
  obtain ⟨k1, ek1, hf⟩ := tq_be hf
  refine tq_getR (M := mX2_siftByTruth) (pc := 1) tk_c2 (by decide) dX2_siftByTruth_1 tk_RX2_51 rfl ek1 ?_
  refine tq_iload_n (M := mX2_siftByTruth) (pc := 4) dX2_siftByTruth_4 rfl ?_
  obtain ⟨⟨⟩, eu3, hf⟩ := tq_be hf
  obtain ⟨fsu3, eu3⟩ := tq_is_s eu3
  obtain ⟨v2, ev2, hf⟩ := tq_be hf
  refine tq_calV (M := mX2_siftByTruth) (pc := 5) (S := []) tk_y_X4_whatOf tk_v_X4_whatOf tk_RX2_129 dX2_siftByTruth_5 [.int a1] rfl (S0 := _) rfl eu3 rfl (Nat.le_of_ble_eq_true rfl) (d1 := d - 1) (b1 := 0) (s1 := 0) (bc' := 0) (bs' := 0) (Q1 := fun r h9 => r = .inl (some (.int v2)) ∧ h = h9) (by omega) rfl rfl (w_X4_whatOf (by omega) ev2 (fun _ _ q => q)) (fun E h9 q => nomatch (show (Sum.inr E : tq_R) = Sum.inl _ from q.1)) (fun r9 h9 q => ?_)
  obtain ⟨q1, rfl⟩ := q
  cases (show (Sum.inl r9 : tq_R) = Sum.inl (some (.int v2)) from q1)
  refine tq_iconst (M := mX2_siftByTruth) (pc := 8) dX2_siftByTruth_8 tk_ki_3 ?_
  obtain ⟨p4, ep4, hf⟩ := tq_le hf
  have HJ9 : tq_W l mX2_siftByTruth d 0 0 Q 17 [(0, .ref t), (1, .int a1), (2, .long a2)] [.int p4] h := by
    refine tq_istore (M := mX2_siftByTruth) (pc := 17) dX2_siftByTruth_17 (L2 := [(4, .int p4), (0, .ref t), (1, .int a1), (2, .long a2)]) (by decide) rfl ?_
    refine tq_lconst (M := mX2_siftByTruth) (pc := 19) dX2_siftByTruth_19 tk_kl_0 ?_
    refine tq_lstore (M := mX2_siftByTruth) (pc := 20) dX2_siftByTruth_20 (L2 := [(5, .long (0 : Int64)), (4, .int p4), (0, .ref t), (1, .int a1), (2, .long a2)]) (by decide) rfl ?_
    refine tq_iconst (M := mX2_siftByTruth) (pc := 22) dX2_siftByTruth_22 tk_ki_0 ?_
    refine tq_istore (M := mX2_siftByTruth) (pc := 23) dX2_siftByTruth_23 (L2 := [(7, .int (0 : Int32)), (5, .long (0 : Int64)), (4, .int p4), (0, .ref t), (1, .int a1), (2, .long a2)]) (by decide) rfl ?_
    obtain ⟨o19, eo19, hf⟩ := tq_be hf
    refine tq_pick (L2 := [(0, .ref t), (1, .int a1), (2, .long a2), (4, .int p4), (5, .long (0 : Int64)), (7, .int (0 : Int32))]) [3, 4, 5, 2, 1, 0] rfl ?_
    refine l_X2_siftByTruth_25 (bc := 0) (bs := 0) (by omega) t a1 a2 p4 h _ (0 : Int64) (0 : Int32) _ eo19 ?_
    refine tq_iconst (M := mX2_siftByTruth) (pc := 99) dX2_siftByTruth_99 tk_ki_0 ?_
    refine tq_istore (M := mX2_siftByTruth) (pc := 100) dX2_siftByTruth_100 (L2 := [(7, .int (0 : Int32)), (0, .ref t), (5, .long o19)]) (by decide) rfl ?_
    obtain ⟨o30, eo30, hf⟩ := tq_be hf
    refine tq_pick (L2 := [(0, .ref t), (5, .long o19), (7, .int (0 : Int32))]) [1, 2, 0] rfl ?_
    refine l_X2_siftByTruth_102 (bc := 0) (bs := 0) (by omega) t o19 _ (0 : Int32) h _ eo30 ?_
    refine tq_vret (M := mX2_siftByTruth) (pc := 141) dX2_siftByTruth_141 rfl ?_
    cases (Option.some.inj hf)
    exact hQ _ _ ⟨rfl, rfl⟩
  refine tq_icmp_eq (M := mX2_siftByTruth) (pc := 9) (tgt := 16) dX2_siftByTruth_9 (by decide) (fun cc => ?_) (fun cc => ?_)
  · have hf := tq_ifp ep4.symm cc
    refine tq_iconst (M := mX2_siftByTruth) (pc := 16) dX2_siftByTruth_16 tk_ki_0 ?_
    cases hf
    exact HJ9
  · have hf := tq_ifn ep4.symm cc
    refine tq_iconst (M := mX2_siftByTruth) (pc := 12) dX2_siftByTruth_12 tk_ki_1 ?_
    refine tq_goto (M := mX2_siftByTruth) (pc := 13) (tgt := 17) dX2_siftByTruth_13 (by decide) ?_
    cases hf
    exact HJ9
abbrev mX2_takeStep : tq_M := (RX2, cX2_takeStep, 7, none, false, [], none)
def f_X2_takeStep_b68 (i0 : Nat) (i1 : Int32) (i2 : Int32) (i3 : Int32) (s : Int32 × tq_H) : Option ((Int32 × tq_H) ⊕ (tq_H)) := match s with
  | (y4, hh) =>
    (tq_gr hh i0 2 2).bind fun k24 =>
    (tq_is hh k24 4).bind fun _ =>
    (f_X4_conditionsOf k24 i2 hh).bind fun v25 =>
    if y4 ≥ v25 then
      some (.inr hh)
    else
      (tq_gr hh i0 2 2).bind fun k27 =>
      (tq_is hh k27 4).bind fun _ =>
      (f_X4_conditionAt k27 i2 y4 hh).bind fun v28 =>
      (tq_gr hh i0 2 2).bind fun k30 =>
      (tq_is hh k30 4).bind fun _ =>
      (f_X4_whatOf k30 v28 hh).bind fun v31 =>
      (if v31 = 0 then
        (f_X2_goesBack i3 hh).bind fun v33 =>
        (tq_is hh i0 2).bind fun _ =>
        (f_X2_siftByPlace i0 v28 v33 hh).bind fun v34 =>
        some v34
      else
        if v31 = (1 : Int32) then
          (f_X2_goesBack i3 hh).bind fun v41 =>
          (tq_is hh i0 2).bind fun _ =>
          (f_X2_siftByPlace i0 v28 v41 hh).bind fun v42 =>
          some v42
        else
          (if v31 = (4 : Int32) then
            (tq_is hh i0 2).bind fun _ =>
            (f_X2_worthy i0 v28 hh).bind fun v36 =>
            some v36
          else
            some (-1 : Int64)).bind fun p38 =>
          (tq_is hh i0 2).bind fun _ =>
          (f_X2_siftByTruth i0 v28 p38 hh).bind fun v39 =>
          some v39).bind fun p44 =>
      tq_let (y4 + (1 : Int32)) fun x45 =>
      some (.inl (x45, p44))
def f_X2_takeStep_b161 (i0 : Nat) (i1 : Int32) (s : Int32 × tq_H) : Option ((Int32 × tq_H) ⊕ (tq_H)) := match s with
  | (y4, hh) =>
    (tq_gr hh i0 2 1).bind fun k47 =>
    (tq_is hh k47 3).bind fun _ =>
    (f_X3_count k47 hh).bind fun v48 =>
    if y4 ≥ v48 then
      some (.inr hh)
    else
      tq_let (((i1 * (60 : Int32)) + y4)) fun x50 =>
      (tq_gr hh i0 2 3).bind fun k51 =>
      (tq_gr hh i0 2 4).bind fun k52 =>
      (tq_gr hh i0 2 3).bind fun k53 =>
      (tq_is hh k53 7).bind fun _ =>
      (f_X7_get k53 x50 hh).bind fun v54 =>
      (tq_is hh k52 7).bind fun _ =>
      (f_X7_union k52 (0 : Int32) v54 hh).bind fun v56 =>
      (tq_is hh k51 7).bind fun _ =>
      (f_X7_set k51 x50 v56 hh).bind fun v58 =>
      tq_let (y4 + (1 : Int32)) fun x60 =>
      some (.inl (x60, v58))
def f_X2_takeStep (t : Nat) (a1 : Int32) (a2 : Int32) (h : tq_H) : Option (tq_H) :=
  (tq_gr h t 2 2).bind fun k1 =>
  (tq_is h k1 4).bind fun _ =>
  (f_X4_axisOf k1 a2 h).bind fun v2 =>
  (if v2 = (12 : Int32) then
    (tq_gr h t 2 2).bind fun k12 =>
    (tq_is h k12 4).bind fun _ =>
    (f_X4_repeatOf k12 a2 h).bind fun v13 =>
    (tq_gr h t 2 1).bind fun k15 =>
    (tq_gr h t 2 2).bind fun k16 =>
    (tq_is h k16 4).bind fun _ =>
    (f_X4_testOf k16 a2 h).bind fun v17 =>
    (tq_is h k15 3).bind fun _ =>
    (f_X3_passing k15 v17 h).bind fun v19 =>
    (tq_is h t 2).bind fun _ =>
    (f_X2_reachByPath t v13 v19 h).bind fun v21 =>
    some v21
  else
    (tq_gr h t 2 1).bind fun k4 =>
    (tq_gr h t 2 2).bind fun k5 =>
    (tq_is h k5 4).bind fun _ =>
    (f_X4_testOf k5 a2 h).bind fun v6 =>
    (tq_is h k4 3).bind fun _ =>
    (f_X3_passing k4 v6 h).bind fun v8 =>
    (tq_is h t 2).bind fun _ =>
    (f_X2_reachByAxis t v2 v8 h).bind fun v10 =>
    some v10).bind fun p23 =>
  (tq_loop (f_X2_takeStep_b68 t a1 a2 v2) tq_N ((0 : Int32), p23)).bind fun o46 =>
  (tq_loop (f_X2_takeStep_b161 t a1) tq_N ((0 : Int32), o46)).bind fun o61 =>
  some o61
set_option maxHeartbeats 4000000 in
theorem l_X2_takeStep_68 {l : Launch} {d : Nat} {Q : tq_R → tq_H → Prop} {bc bs : Nat} (hd9 : 4 ≤ d) (i0 : Nat) (i1 : Int32) (i2 : Int32) (i3 : Int32) : ∀ (n : Nat) (y4 : Int32) (hh : tq_H) (o : tq_H), tq_loop (f_X2_takeStep_b68 i0 i1 i2 i3) n (y4, hh) = some o → tq_W l mX2_takeStep d bc bs Q 158 [(0, .ref i0), (1, .int i1)] [] o → tq_W l mX2_takeStep d bc bs Q 68 [(0, .ref i0), (1, .int i1), (2, .int i2), (3, .int i3), (4, .int y4)] [] hh := by
  intro n
  induction n with
  | zero => intro y4 hh o hl; cases hl
  | succ n ih =>
    intro y4 hh o hl hk
    obtain ⟨oo, hf, ho⟩ := tq_loop_s hl
    refine tq_iload (M := mX2_takeStep) (pc := 68) dX2_takeStep_68 rfl ?_
    refine tq_aload_n (M := mX2_takeStep) (pc := 70) dX2_takeStep_70 rfl ?_
    obtain ⟨k24, ek24, hf⟩ := tq_be hf
    refine tq_getR (M := mX2_takeStep) (pc := 71) tk_c2 (by decide) dX2_takeStep_71 tk_RX2_51 rfl ek24 ?_
    refine tq_iload_n (M := mX2_takeStep) (pc := 74) dX2_takeStep_74 rfl ?_
    obtain ⟨⟨⟩, eu26, hf⟩ := tq_be hf
    obtain ⟨fsu26, eu26⟩ := tq_is_s eu26
    obtain ⟨v25, ev25, hf⟩ := tq_be hf
    refine tq_calV (M := mX2_takeStep) (pc := 75) (S := [.int y4]) tk_y_X4_conditionsOf tk_v_X4_conditionsOf tk_RX2_123 dX2_takeStep_75 [.int i2] rfl (S0 := _) rfl eu26 rfl (Nat.le_of_ble_eq_true rfl) (d1 := d - 1) (b1 := 0) (s1 := 0) (bc' := bc) (bs' := bs) (Q1 := fun r h9 => r = .inl (some (.int v25)) ∧ hh = h9) (by omega) (by omega) (by omega) (w_X4_conditionsOf (by omega) ev25 (fun _ _ q => q)) (fun E h9 q => nomatch (show (Sum.inr E : tq_R) = Sum.inl _ from q.1)) (fun r9 h9 q => ?_)
    obtain ⟨q1, rfl⟩ := q
    cases (show (Sum.inl r9 : tq_R) = Sum.inl (some (.int v25)) from q1)
    refine tq_icmp_ge (M := mX2_takeStep) (pc := 78) (tgt := 158) dX2_takeStep_78 (by decide) (fun cc => ?_) (fun cc => ?_)
    · have hf := tq_ifp hf cc
      refine tq_pick (L2 := [(0, .ref i0), (1, .int i1)]) [0, 1] rfl ?_
      cases (Option.some.inj hf)
      cases (tq_lx ho)
      exact hk
    · have hf := tq_ifn hf cc
      refine tq_aload_n (M := mX2_takeStep) (pc := 81) dX2_takeStep_81 rfl ?_
      obtain ⟨k27, ek27, hf⟩ := tq_be hf
      refine tq_getR (M := mX2_takeStep) (pc := 82) tk_c2 (by decide) dX2_takeStep_82 tk_RX2_51 rfl ek27 ?_
      refine tq_iload_n (M := mX2_takeStep) (pc := 85) dX2_takeStep_85 rfl ?_
      refine tq_iload (M := mX2_takeStep) (pc := 86) dX2_takeStep_86 rfl ?_
      obtain ⟨⟨⟩, eu29, hf⟩ := tq_be hf
      obtain ⟨fsu29, eu29⟩ := tq_is_s eu29
      obtain ⟨v28, ev28, hf⟩ := tq_be hf
      refine tq_calV (M := mX2_takeStep) (pc := 88) (S := []) tk_y_X4_conditionAt tk_v_X4_conditionAt tk_RX2_126 dX2_takeStep_88 [.int i2, .int y4] rfl (S0 := _) rfl eu29 rfl (Nat.le_of_ble_eq_true rfl) (d1 := d - 1) (b1 := 0) (s1 := 0) (bc' := bc) (bs' := bs) (Q1 := fun r h9 => r = .inl (some (.int v28)) ∧ hh = h9) (by omega) (by omega) (by omega) (w_X4_conditionAt (by omega) ev28 (fun _ _ q => q)) (fun E h9 q => nomatch (show (Sum.inr E : tq_R) = Sum.inl _ from q.1)) (fun r9 h9 q => ?_)
      obtain ⟨q1, rfl⟩ := q
      cases (show (Sum.inl r9 : tq_R) = Sum.inl (some (.int v28)) from q1)
      refine tq_istore (M := mX2_takeStep) (pc := 91) dX2_takeStep_91 (L2 := [(5, .int v28), (0, .ref i0), (1, .int i1), (2, .int i2), (3, .int i3), (4, .int y4)]) (by decide) rfl ?_
      refine tq_aload_n (M := mX2_takeStep) (pc := 93) dX2_takeStep_93 rfl ?_
      obtain ⟨k30, ek30, hf⟩ := tq_be hf
      refine tq_getR (M := mX2_takeStep) (pc := 94) tk_c2 (by decide) dX2_takeStep_94 tk_RX2_51 rfl ek30 ?_
      refine tq_iload (M := mX2_takeStep) (pc := 97) dX2_takeStep_97 rfl ?_
      obtain ⟨⟨⟩, eu32, hf⟩ := tq_be hf
      obtain ⟨fsu32, eu32⟩ := tq_is_s eu32
      obtain ⟨v31, ev31, hf⟩ := tq_be hf
      refine tq_calV (M := mX2_takeStep) (pc := 99) (S := []) tk_y_X4_whatOf tk_v_X4_whatOf tk_RX2_129 dX2_takeStep_99 [.int v28] rfl (S0 := _) rfl eu32 rfl (Nat.le_of_ble_eq_true rfl) (d1 := d - 1) (b1 := 0) (s1 := 0) (bc' := bc) (bs' := bs) (Q1 := fun r h9 => r = .inl (some (.int v31)) ∧ hh = h9) (by omega) (by omega) (by omega) (w_X4_whatOf (by omega) ev31 (fun _ _ q => q)) (fun E h9 q => nomatch (show (Sum.inr E : tq_R) = Sum.inl _ from q.1)) (fun r9 h9 q => ?_)
      obtain ⟨q1, rfl⟩ := q
      cases (show (Sum.inl r9 : tq_R) = Sum.inl (some (.int v31)) from q1)
      refine tq_istore (M := mX2_takeStep) (pc := 102) dX2_takeStep_102 (L2 := [(6, .int v31), (5, .int v28), (0, .ref i0), (1, .int i1), (2, .int i2), (3, .int i3), (4, .int y4)]) (by decide) rfl ?_
      refine tq_iload (M := mX2_takeStep) (pc := 104) dX2_takeStep_104 rfl ?_
      obtain ⟨p44, ep44, hf⟩ := tq_be hf
      have HJ106 : tq_W l mX2_takeStep d bc bs Q 152 [(0, .ref i0), (1, .int i1), (2, .int i2), (3, .int i3), (4, .int y4)] [] p44 := by
        obtain ⟨x45, ex45, hf⟩ := tq_le hf
        refine tq_iinc (M := mX2_takeStep) (pc := 152) (v := x45) (L2 := [(4, .int x45), (0, .ref i0), (1, .int i1), (2, .int i2), (3, .int i3)]) dX2_takeStep_152 rfl (by rw [ex45, tk_ki_1]) (by decide) rfl ?_
        refine tq_goto (M := mX2_takeStep) (pc := 155) (tgt := 68) dX2_takeStep_155 (by decide) ?_
        refine tq_pick (L2 := [(0, .ref i0), (1, .int i1), (2, .int i2), (3, .int i3), (4, .int x45)]) [1, 2, 3, 4, 0] rfl ?_
        cases (Option.some.inj hf)
        exact ih _ _ o (tq_lc ho) hk
      refine tq_if_eq (M := mX2_takeStep) (pc := 106) (tgt := 115) dX2_takeStep_106 (by decide) (fun cc => ?_) (fun cc => ?_)
      · have hf := tq_ifp ep44 cc
        refine tq_aload_n (M := mX2_takeStep) (pc := 115) dX2_takeStep_115 rfl ?_
        refine tq_iload (M := mX2_takeStep) (pc := 116) dX2_takeStep_116 rfl ?_
        refine tq_iload_n (M := mX2_takeStep) (pc := 118) dX2_takeStep_118 rfl ?_
        obtain ⟨v33, ev33, hf⟩ := tq_be hf
        refine tq_calS (M := mX2_takeStep) (pc := 119) (S := [.int v28, .ref i0]) tk_y_X2_goesBack tk_s_X2_goesBack tk_RX2_132 dX2_takeStep_119 [.int i3] rfl (Nat.le_of_ble_eq_true rfl) (d1 := d - 1) (b1 := 0) (s1 := 0) (bc' := bc) (bs' := bs) (Q1 := fun r h9 => r = .inl (some (.int v33)) ∧ hh = h9) (by omega) (by omega) (by omega) (w_X2_goesBack (by omega) ev33 (fun _ _ q => q)) (fun E h9 q => nomatch (show (Sum.inr E : tq_R) = Sum.inl _ from q.1)) (fun r9 h9 q => ?_)
        obtain ⟨q1, rfl⟩ := q
        cases (show (Sum.inl r9 : tq_R) = Sum.inl (some (.int v33)) from q1)
        obtain ⟨⟨⟩, eu35, hf⟩ := tq_be hf
        obtain ⟨fsu35, eu35⟩ := tq_is_s eu35
        obtain ⟨v34, ev34, hf⟩ := tq_be hf
        refine tq_calV (M := mX2_takeStep) (pc := 122) (S := []) tk_y_X2_siftByPlace tk_v_X2_siftByPlace tk_RX2_136 dX2_takeStep_122 [.int v28, .int v33] rfl (S0 := _) rfl eu35 rfl (Nat.le_of_ble_eq_true rfl) (d1 := d - 1) (b1 := 0) (s1 := 0) (bc' := bc) (bs' := bs) (Q1 := fun r h9 => r = .inl none ∧ v34 = h9) (by omega) (by omega) (by omega) (w_X2_siftByPlace (by omega) ev34 (fun _ _ q => q)) (fun E h9 q => nomatch (show (Sum.inr E : tq_R) = Sum.inl _ from q.1)) (fun r9 h9 q => ?_)
        obtain ⟨q1, rfl⟩ := q
        cases (show (Sum.inl r9 : tq_R) = Sum.inl (none) from q1)
        refine tq_goto (M := mX2_takeStep) (pc := 125) (tgt := 152) dX2_takeStep_125 (by decide) ?_
        refine tq_pick (L2 := [(0, .ref i0), (1, .int i1), (2, .int i2), (3, .int i3), (4, .int y4)]) [2, 3, 4, 5, 6] rfl ?_
        cases (Option.some.inj hf)
        exact HJ106
      · have hf := tq_ifn ep44 cc
        refine tq_iload (M := mX2_takeStep) (pc := 109) dX2_takeStep_109 rfl ?_
        refine tq_iconst (M := mX2_takeStep) (pc := 111) dX2_takeStep_111 tk_ki_1 ?_
        refine tq_icmp_ne (M := mX2_takeStep) (pc := 112) (tgt := 128) dX2_takeStep_112 (by decide) (fun cc => ?_) (fun cc => ?_)
        · have hf := tq_ifn hf cc
          refine tq_aload_n (M := mX2_takeStep) (pc := 128) dX2_takeStep_128 rfl ?_
          refine tq_iload (M := mX2_takeStep) (pc := 129) dX2_takeStep_129 rfl ?_
          refine tq_iload (M := mX2_takeStep) (pc := 131) dX2_takeStep_131 rfl ?_
          refine tq_iconst (M := mX2_takeStep) (pc := 133) dX2_takeStep_133 tk_ki_4 ?_
          obtain ⟨p38, ep38, hf⟩ := tq_be hf
          have HJ134 : tq_W l mX2_takeStep d bc bs Q 149 [(0, .ref i0), (1, .int i1), (2, .int i2), (3, .int i3), (4, .int y4)] [.long p38, .int v28, .ref i0] hh := by
            obtain ⟨⟨⟩, eu40, hf⟩ := tq_be hf
            obtain ⟨fsu40, eu40⟩ := tq_is_s eu40
            obtain ⟨v39, ev39, hf⟩ := tq_be hf
            refine tq_calV (M := mX2_takeStep) (pc := 149) (S := []) tk_y_X2_siftByTruth tk_v_X2_siftByTruth tk_RX2_145 dX2_takeStep_149 [.int v28, .long p38] rfl (S0 := _) rfl eu40 rfl (Nat.le_of_ble_eq_true rfl) (d1 := d - 1) (b1 := 0) (s1 := 0) (bc' := bc) (bs' := bs) (Q1 := fun r h9 => r = .inl none ∧ v39 = h9) (by omega) (by omega) (by omega) (w_X2_siftByTruth (by omega) ev39 (fun _ _ q => q)) (fun E h9 q => nomatch (show (Sum.inr E : tq_R) = Sum.inl _ from q.1)) (fun r9 h9 q => ?_)
            obtain ⟨q1, rfl⟩ := q
            cases (show (Sum.inl r9 : tq_R) = Sum.inl (none) from q1)
            cases (Option.some.inj hf)
            exact HJ106
          refine tq_icmp_ne (M := mX2_takeStep) (pc := 134) (tgt := 146) dX2_takeStep_134 (by decide) (fun cc => ?_) (fun cc => ?_)
          · have hf := tq_ifn ep38 cc
            refine tq_ldc2 (M := mX2_takeStep) (pc := 146) dX2_takeStep_146 tk_RX2_143 ?_
            refine tq_pick (L2 := [(0, .ref i0), (1, .int i1), (2, .int i2), (3, .int i3), (4, .int y4)]) [2, 3, 4, 5, 6] rfl ?_
            cases (Option.some.inj hf)
            exact HJ134
          · have hf := tq_ifp ep38 cc
            refine tq_aload_n (M := mX2_takeStep) (pc := 137) dX2_takeStep_137 rfl ?_
            refine tq_iload (M := mX2_takeStep) (pc := 138) dX2_takeStep_138 rfl ?_
            obtain ⟨⟨⟩, eu37, hf⟩ := tq_be hf
            obtain ⟨fsu37, eu37⟩ := tq_is_s eu37
            obtain ⟨v36, ev36, hf⟩ := tq_be hf
            refine tq_calV (M := mX2_takeStep) (pc := 140) (S := [.int v28, .ref i0]) tk_y_X2_worthy tk_v_X2_worthy tk_RX2_140 dX2_takeStep_140 [.int v28] rfl (S0 := _) rfl eu37 rfl (Nat.le_of_ble_eq_true rfl) (d1 := d - 1) (b1 := 0) (s1 := 0) (bc' := bc) (bs' := bs) (Q1 := fun r h9 => r = .inl (some (.long v36)) ∧ hh = h9) (by omega) (by omega) (by omega) (w_X2_worthy (by omega) ev36 (fun _ _ q => q)) (fun E h9 q => nomatch (show (Sum.inr E : tq_R) = Sum.inl _ from q.1)) (fun r9 h9 q => ?_)
            obtain ⟨q1, rfl⟩ := q
            cases (show (Sum.inl r9 : tq_R) = Sum.inl (some (.long v36)) from q1)
            refine tq_goto (M := mX2_takeStep) (pc := 143) (tgt := 149) dX2_takeStep_143 (by decide) ?_
            refine tq_pick (L2 := [(0, .ref i0), (1, .int i1), (2, .int i2), (3, .int i3), (4, .int y4)]) [2, 3, 4, 5, 6] rfl ?_
            cases (Option.some.inj hf)
            exact HJ134
        · have hf := tq_ifp hf cc
          refine tq_aload_n (M := mX2_takeStep) (pc := 115) dX2_takeStep_115 rfl ?_
          refine tq_iload (M := mX2_takeStep) (pc := 116) dX2_takeStep_116 rfl ?_
          refine tq_iload_n (M := mX2_takeStep) (pc := 118) dX2_takeStep_118 rfl ?_
          obtain ⟨v41, ev41, hf⟩ := tq_be hf
          refine tq_calS (M := mX2_takeStep) (pc := 119) (S := [.int v28, .ref i0]) tk_y_X2_goesBack tk_s_X2_goesBack tk_RX2_132 dX2_takeStep_119 [.int i3] rfl (Nat.le_of_ble_eq_true rfl) (d1 := d - 1) (b1 := 0) (s1 := 0) (bc' := bc) (bs' := bs) (Q1 := fun r h9 => r = .inl (some (.int v41)) ∧ hh = h9) (by omega) (by omega) (by omega) (w_X2_goesBack (by omega) ev41 (fun _ _ q => q)) (fun E h9 q => nomatch (show (Sum.inr E : tq_R) = Sum.inl _ from q.1)) (fun r9 h9 q => ?_)
          obtain ⟨q1, rfl⟩ := q
          cases (show (Sum.inl r9 : tq_R) = Sum.inl (some (.int v41)) from q1)
          obtain ⟨⟨⟩, eu43, hf⟩ := tq_be hf
          obtain ⟨fsu43, eu43⟩ := tq_is_s eu43
          obtain ⟨v42, ev42, hf⟩ := tq_be hf
          refine tq_calV (M := mX2_takeStep) (pc := 122) (S := []) tk_y_X2_siftByPlace tk_v_X2_siftByPlace tk_RX2_136 dX2_takeStep_122 [.int v28, .int v41] rfl (S0 := _) rfl eu43 rfl (Nat.le_of_ble_eq_true rfl) (d1 := d - 1) (b1 := 0) (s1 := 0) (bc' := bc) (bs' := bs) (Q1 := fun r h9 => r = .inl none ∧ v42 = h9) (by omega) (by omega) (by omega) (w_X2_siftByPlace (by omega) ev42 (fun _ _ q => q)) (fun E h9 q => nomatch (show (Sum.inr E : tq_R) = Sum.inl _ from q.1)) (fun r9 h9 q => ?_)
          obtain ⟨q1, rfl⟩ := q
          cases (show (Sum.inl r9 : tq_R) = Sum.inl (none) from q1)
          refine tq_goto (M := mX2_takeStep) (pc := 125) (tgt := 152) dX2_takeStep_125 (by decide) ?_
          refine tq_pick (L2 := [(0, .ref i0), (1, .int i1), (2, .int i2), (3, .int i3), (4, .int y4)]) [2, 3, 4, 5, 6] rfl ?_
          cases (Option.some.inj hf)
          exact HJ106
set_option maxHeartbeats 4000000 in
theorem l_X2_takeStep_161 {l : Launch} {d : Nat} {Q : tq_R → tq_H → Prop} {bc bs : Nat} (hd9 : 4 ≤ d) (i0 : Nat) (i1 : Int32) : ∀ (n : Nat) (y4 : Int32) (hh : tq_H) (o : tq_H), tq_loop (f_X2_takeStep_b161 i0 i1) n (y4, hh) = some o → tq_W l mX2_takeStep d bc bs Q 214 [] [] o → tq_W l mX2_takeStep d bc bs Q 161 [(0, .ref i0), (1, .int i1), (4, .int y4)] [] hh := by
  intro n
  induction n with
  | zero => intro y4 hh o hl; cases hl
  | succ n ih =>
    intro y4 hh o hl hk
    obtain ⟨oo, hf, ho⟩ := tq_loop_s hl
    refine tq_iload (M := mX2_takeStep) (pc := 161) dX2_takeStep_161 rfl ?_
    refine tq_aload_n (M := mX2_takeStep) (pc := 163) dX2_takeStep_163 rfl ?_
    obtain ⟨k47, ek47, hf⟩ := tq_be hf
    refine tq_getR (M := mX2_takeStep) (pc := 164) tk_c2 (by decide) dX2_takeStep_164 tk_RX2_50 rfl ek47 ?_
    obtain ⟨⟨⟩, eu49, hf⟩ := tq_be hf
    obtain ⟨fsu49, eu49⟩ := tq_is_s eu49
    obtain ⟨v48, ev48, hf⟩ := tq_be hf
    refine tq_calV (M := mX2_takeStep) (pc := 167) (S := [.int y4]) tk_y_X3_count tk_v_X3_count tk_RX2_55 dX2_takeStep_167 [] rfl (S0 := _) rfl eu49 rfl (Nat.le_of_ble_eq_true rfl) (d1 := d - 1) (b1 := 0) (s1 := 0) (bc' := bc) (bs' := bs) (Q1 := fun r h9 => r = .inl (some (.int v48)) ∧ hh = h9) (by omega) (by omega) (by omega) (w_X3_count (by omega) ev48 (fun _ _ q => q)) (fun E h9 q => nomatch (show (Sum.inr E : tq_R) = Sum.inl _ from q.1)) (fun r9 h9 q => ?_)
    obtain ⟨q1, rfl⟩ := q
    cases (show (Sum.inl r9 : tq_R) = Sum.inl (some (.int v48)) from q1)
    refine tq_icmp_ge (M := mX2_takeStep) (pc := 170) (tgt := 214) dX2_takeStep_170 (by decide) (fun cc => ?_) (fun cc => ?_)
    · have hf := tq_ifp hf cc
      refine tq_pick (L2 := []) [] rfl ?_
      cases (Option.some.inj hf)
      cases (tq_lx ho)
      exact hk
    · have hf := tq_ifn hf cc
      refine tq_iload_n (M := mX2_takeStep) (pc := 173) dX2_takeStep_173 rfl ?_
      refine tq_bipush (M := mX2_takeStep) (pc := 174) dX2_takeStep_174 tk_kb_60 ?_
      refine tq_imul (M := mX2_takeStep) (pc := 176) dX2_takeStep_176 ?_
      refine tq_iload (M := mX2_takeStep) (pc := 177) dX2_takeStep_177 rfl ?_
      refine tq_iadd (M := mX2_takeStep) (pc := 179) dX2_takeStep_179 ?_
      obtain ⟨x50, ex50, hf⟩ := tq_le hf
      refine tq_istore (M := mX2_takeStep) (pc := 180) dX2_takeStep_180 (L2 := [(5, .int x50), (0, .ref i0), (1, .int i1), (4, .int y4)]) (by decide) (by rw [ex50]; rfl) ?_
      refine tq_aload_n (M := mX2_takeStep) (pc := 182) dX2_takeStep_182 rfl ?_
      obtain ⟨k51, ek51, hf⟩ := tq_be hf
      refine tq_getR (M := mX2_takeStep) (pc := 183) tk_c2 (by decide) dX2_takeStep_183 tk_RX2_14 rfl ek51 ?_
      refine tq_iload (M := mX2_takeStep) (pc := 186) dX2_takeStep_186 rfl ?_
      refine tq_aload_n (M := mX2_takeStep) (pc := 188) dX2_takeStep_188 rfl ?_
      obtain ⟨k52, ek52, hf⟩ := tq_be hf
      refine tq_getR (M := mX2_takeStep) (pc := 189) tk_c2 (by decide) dX2_takeStep_189 tk_RX2_20 rfl ek52 ?_
      refine tq_iconst (M := mX2_takeStep) (pc := 192) dX2_takeStep_192 tk_ki_0 ?_
      refine tq_aload_n (M := mX2_takeStep) (pc := 193) dX2_takeStep_193 rfl ?_
      obtain ⟨k53, ek53, hf⟩ := tq_be hf
      refine tq_getR (M := mX2_takeStep) (pc := 194) tk_c2 (by decide) dX2_takeStep_194 tk_RX2_14 rfl ek53 ?_
      refine tq_iload (M := mX2_takeStep) (pc := 197) dX2_takeStep_197 rfl ?_
      obtain ⟨⟨⟩, eu55, hf⟩ := tq_be hf
      obtain ⟨fsu55, eu55⟩ := tq_is_s eu55
      obtain ⟨v54, ev54, hf⟩ := tq_be hf
      refine tq_calV (M := mX2_takeStep) (pc := 199) (S := [.int (0 : Int32), .ref k52, .int x50, .ref k51]) tk_y_X7_get tk_v_X7_get tk_RX2_80 dX2_takeStep_199 [.int x50] rfl (S0 := _) rfl eu55 rfl (Nat.le_of_ble_eq_true rfl) (d1 := d - 1) (b1 := 0) (s1 := 0) (bc' := bc) (bs' := bs) (Q1 := fun r h9 => r = .inl (some (.long v54)) ∧ hh = h9) (by omega) (by omega) (by omega) (w_X7_get (by omega) ev54 (fun _ _ q => q)) (fun E h9 q => nomatch (show (Sum.inr E : tq_R) = Sum.inl _ from q.1)) (fun r9 h9 q => ?_)
      obtain ⟨q1, rfl⟩ := q
      cases (show (Sum.inl r9 : tq_R) = Sum.inl (some (.long v54)) from q1)
      obtain ⟨⟨⟩, eu57, hf⟩ := tq_be hf
      obtain ⟨fsu57, eu57⟩ := tq_is_s eu57
      obtain ⟨v56, ev56, hf⟩ := tq_be hf
      refine tq_calV (M := mX2_takeStep) (pc := 202) (S := [.int x50, .ref k51]) tk_y_X7_union tk_v_X7_union tk_RX2_148 dX2_takeStep_202 [.int (0 : Int32), .long v54] rfl (S0 := _) rfl eu57 rfl (Nat.le_of_ble_eq_true rfl) (d1 := d - 1) (b1 := 0) (s1 := 0) (bc' := bc) (bs' := bs) (Q1 := fun r h9 => r = .inl (some (.long v56)) ∧ hh = h9) (by omega) (by omega) (by omega) (w_X7_union (by omega) ev56 (fun _ _ q => q)) (fun E h9 q => nomatch (show (Sum.inr E : tq_R) = Sum.inl _ from q.1)) (fun r9 h9 q => ?_)
      obtain ⟨q1, rfl⟩ := q
      cases (show (Sum.inl r9 : tq_R) = Sum.inl (some (.long v56)) from q1)
      obtain ⟨⟨⟩, eu59, hf⟩ := tq_be hf
      obtain ⟨fsu59, eu59⟩ := tq_is_s eu59
      obtain ⟨v58, ev58, hf⟩ := tq_be hf
      refine tq_calV (M := mX2_takeStep) (pc := 205) (S := []) tk_y_X7_set tk_v_X7_set tk_RX2_87 dX2_takeStep_205 [.int x50, .long v56] rfl (S0 := _) rfl eu59 rfl (Nat.le_of_ble_eq_true rfl) (d1 := d - 1) (b1 := 0) (s1 := 0) (bc' := bc) (bs' := bs) (Q1 := fun r h9 => r = .inl none ∧ v58 = h9) (by omega) (by omega) (by omega) (w_X7_set (by omega) ev58 (fun _ _ q => q)) (fun E h9 q => nomatch (show (Sum.inr E : tq_R) = Sum.inl _ from q.1)) (fun r9 h9 q => ?_)
      obtain ⟨q1, rfl⟩ := q
      cases (show (Sum.inl r9 : tq_R) = Sum.inl (none) from q1)
      obtain ⟨x60, ex60, hf⟩ := tq_le hf
      refine tq_iinc (M := mX2_takeStep) (pc := 208) (v := x60) (L2 := [(4, .int x60), (5, .int x50), (0, .ref i0), (1, .int i1)]) dX2_takeStep_208 rfl (by rw [ex60, tk_ki_1]) (by decide) rfl ?_
      refine tq_goto (M := mX2_takeStep) (pc := 211) (tgt := 161) dX2_takeStep_211 (by decide) ?_
      refine tq_pick (L2 := [(0, .ref i0), (1, .int i1), (4, .int x60)]) [2, 3, 0] rfl ?_
      cases (Option.some.inj hf)
      exact ih _ _ o (tq_lc ho) hk
set_option maxHeartbeats 4000000 in
set_option maxRecDepth 20000 in
theorem w_X2_takeStep {l : Launch} {d : Nat} (hd9 : 4 ≤ d) {t : Nat} {a1 : Int32} {a2 : Int32} {h : tq_H} {o : tq_H} {Q : tq_R → tq_H → Prop} (hf : f_X2_takeStep t a1 a2 h = some o) (hQ : ∀ r h9, r = .inl none ∧ o = h9 → Q r h9) : tq_C l yX2_takeStep cX2_takeStep 7 none d 0 0 [.ref t, .int a1, .int a2] h Q := by
  refine tq_body (y := yX2_takeStep) false (by decide +kernel) (fun z => by cases z) (Nat.le_of_ble_eq_true rfl) ?_
  show tq_W l mX2_takeStep d 0 0 Q 0 [(0, .ref t), (1, .int a1), (2, .int a2)] [] h
  refine tq_aload_n (M := mX2_takeStep) (pc := 0) dX2_takeStep_0 rfl ?_
  obtain ⟨k1, ek1, hf⟩ := tq_be hf
  refine tq_getR (M := mX2_takeStep) (pc := 1) tk_c2 (by decide) dX2_takeStep_1 tk_RX2_51 rfl ek1 ?_
  refine tq_iload_n (M := mX2_takeStep) (pc := 4) dX2_takeStep_4 rfl ?_
  obtain ⟨⟨⟩, eu3, hf⟩ := tq_be hf
  obtain ⟨fsu3, eu3⟩ := tq_is_s eu3
  obtain ⟨v2, ev2, hf⟩ := tq_be hf
  refine tq_calV (M := mX2_takeStep) (pc := 5) (S := []) tk_y_X4_axisOf tk_v_X4_axisOf tk_RX2_105 dX2_takeStep_5 [.int a2] rfl (S0 := _) rfl eu3 rfl (Nat.le_of_ble_eq_true rfl) (d1 := d - 1) (b1 := 0) (s1 := 0) (bc' := 0) (bs' := 0) (Q1 := fun r h9 => r = .inl (some (.int v2)) ∧ h = h9) (by omega) rfl rfl (w_X4_axisOf (by omega) ev2 (fun _ _ q => q)) (fun E h9 q => nomatch (show (Sum.inr E : tq_R) = Sum.inl _ from q.1)) (fun r9 h9 q => ?_)
  obtain ⟨q1, rfl⟩ := q
  cases (show (Sum.inl r9 : tq_R) = Sum.inl (some (.int v2)) from q1)
  refine tq_istore_n (M := mX2_takeStep) (pc := 8) rfl dX2_takeStep_8 (L2 := [(3, .int v2), (0, .ref t), (1, .int a1), (2, .int a2)]) (by decide) rfl ?_
  refine tq_iload_n (M := mX2_takeStep) (pc := 9) dX2_takeStep_9 rfl ?_
  refine tq_bipush (M := mX2_takeStep) (pc := 10) dX2_takeStep_10 tk_kb_12 ?_
  obtain ⟨p23, ep23, hf⟩ := tq_be hf
  have HJ12 : tq_W l mX2_takeStep d 0 0 Q 65 [(0, .ref t), (1, .int a1), (2, .int a2), (3, .int v2)] [] p23 := by
    refine tq_iconst (M := mX2_takeStep) (pc := 65) dX2_takeStep_65 tk_ki_0 ?_
    refine tq_istore (M := mX2_takeStep) (pc := 66) dX2_takeStep_66 (L2 := [(4, .int (0 : Int32)), (0, .ref t), (1, .int a1), (2, .int a2), (3, .int v2)]) (by decide) rfl ?_
    obtain ⟨o46, eo46, hf⟩ := tq_be hf
    refine tq_pick (L2 := [(0, .ref t), (1, .int a1), (2, .int a2), (3, .int v2), (4, .int (0 : Int32))]) [1, 2, 3, 4, 0] rfl ?_
    refine l_X2_takeStep_68 (bc := 0) (bs := 0) (by omega) t a1 a2 v2 _ (0 : Int32) p23 _ eo46 ?_
    refine tq_iconst (M := mX2_takeStep) (pc := 158) dX2_takeStep_158 tk_ki_0 ?_
    refine tq_istore (M := mX2_takeStep) (pc := 159) dX2_takeStep_159 (L2 := [(4, .int (0 : Int32)), (0, .ref t), (1, .int a1)]) (by decide) rfl ?_
    obtain ⟨o61, eo61, hf⟩ := tq_be hf
    refine tq_pick (L2 := [(0, .ref t), (1, .int a1), (4, .int (0 : Int32))]) [1, 2, 0] rfl ?_
    refine l_X2_takeStep_161 (bc := 0) (bs := 0) (by omega) t a1 _ (0 : Int32) o46 _ eo61 ?_
    refine tq_vret (M := mX2_takeStep) (pc := 214) dX2_takeStep_214 rfl ?_
    cases (Option.some.inj hf)
    exact hQ _ _ ⟨rfl, rfl⟩
  refine tq_icmp_ne (M := mX2_takeStep) (pc := 12) (tgt := 45) dX2_takeStep_12 (by decide) (fun cc => ?_) (fun cc => ?_)
  · have hf := tq_ifn ep23 cc
    refine tq_aload_n (M := mX2_takeStep) (pc := 45) dX2_takeStep_45 rfl ?_
    refine tq_iload_n (M := mX2_takeStep) (pc := 46) dX2_takeStep_46 rfl ?_
    refine tq_aload_n (M := mX2_takeStep) (pc := 47) dX2_takeStep_47 rfl ?_
    obtain ⟨k4, ek4, hf⟩ := tq_be hf
    refine tq_getR (M := mX2_takeStep) (pc := 48) tk_c2 (by decide) dX2_takeStep_48 tk_RX2_50 rfl ek4 ?_
    refine tq_aload_n (M := mX2_takeStep) (pc := 51) dX2_takeStep_51 rfl ?_
    obtain ⟨k5, ek5, hf⟩ := tq_be hf
    refine tq_getR (M := mX2_takeStep) (pc := 52) tk_c2 (by decide) dX2_takeStep_52 tk_RX2_51 rfl ek5 ?_
    refine tq_iload_n (M := mX2_takeStep) (pc := 55) dX2_takeStep_55 rfl ?_
    obtain ⟨⟨⟩, eu7, hf⟩ := tq_be hf
    obtain ⟨fsu7, eu7⟩ := tq_is_s eu7
    obtain ⟨v6, ev6, hf⟩ := tq_be hf
    refine tq_calV (M := mX2_takeStep) (pc := 56) (S := [.ref k4, .int v2, .ref t]) tk_y_X4_testOf tk_v_X4_testOf tk_RX2_111 dX2_takeStep_56 [.int a2] rfl (S0 := _) rfl eu7 rfl (Nat.le_of_ble_eq_true rfl) (d1 := d - 1) (b1 := 0) (s1 := 0) (bc' := 0) (bs' := 0) (Q1 := fun r h9 => r = .inl (some (.int v6)) ∧ h = h9) (by omega) rfl rfl (w_X4_testOf (by omega) ev6 (fun _ _ q => q)) (fun E h9 q => nomatch (show (Sum.inr E : tq_R) = Sum.inl _ from q.1)) (fun r9 h9 q => ?_)
    obtain ⟨q1, rfl⟩ := q
    cases (show (Sum.inl r9 : tq_R) = Sum.inl (some (.int v6)) from q1)
    obtain ⟨⟨⟩, eu9, hf⟩ := tq_be hf
    obtain ⟨fsu9, eu9⟩ := tq_is_s eu9
    obtain ⟨v8, ev8, hf⟩ := tq_be hf
    refine tq_calV (M := mX2_takeStep) (pc := 59) (S := [.int v2, .ref t]) tk_y_X3_passing tk_v_X3_passing tk_RX2_114 dX2_takeStep_59 [.int v6] rfl (S0 := _) rfl eu9 rfl (Nat.le_of_ble_eq_true rfl) (d1 := d - 1) (b1 := 0) (s1 := 0) (bc' := 0) (bs' := 0) (Q1 := fun r h9 => r = .inl (some (.long v8)) ∧ h = h9) (by omega) rfl rfl (w_X3_passing (by omega) ev8 (fun _ _ q => q)) (fun E h9 q => nomatch (show (Sum.inr E : tq_R) = Sum.inl _ from q.1)) (fun r9 h9 q => ?_)
    obtain ⟨q1, rfl⟩ := q
    cases (show (Sum.inl r9 : tq_R) = Sum.inl (some (.long v8)) from q1)
    obtain ⟨⟨⟩, eu11, hf⟩ := tq_be hf
    obtain ⟨fsu11, eu11⟩ := tq_is_s eu11
    obtain ⟨v10, ev10, hf⟩ := tq_be hf
    refine tq_calV (M := mX2_takeStep) (pc := 62) (S := []) tk_y_X2_reachByAxis tk_v_X2_reachByAxis tk_RX2_120 dX2_takeStep_62 [.int v2, .long v8] rfl (S0 := _) rfl eu11 rfl (Nat.le_of_ble_eq_true rfl) (d1 := d - 1) (b1 := 0) (s1 := 0) (bc' := 0) (bs' := 0) (Q1 := fun r h9 => r = .inl none ∧ v10 = h9) (by omega) rfl rfl (w_X2_reachByAxis (by omega) ev10 (fun _ _ q => q)) (fun E h9 q => nomatch (show (Sum.inr E : tq_R) = Sum.inl _ from q.1)) (fun r9 h9 q => ?_)
    obtain ⟨q1, rfl⟩ := q
    cases (show (Sum.inl r9 : tq_R) = Sum.inl (none) from q1)
    refine tq_pick (L2 := [(0, .ref t), (1, .int a1), (2, .int a2), (3, .int v2)]) [1, 2, 3, 0] rfl ?_
    cases (Option.some.inj hf)
    exact HJ12
  · have hf := tq_ifp ep23 cc
    refine tq_aload_n (M := mX2_takeStep) (pc := 15) dX2_takeStep_15 rfl ?_
    refine tq_aload_n (M := mX2_takeStep) (pc := 16) dX2_takeStep_16 rfl ?_
    obtain ⟨k12, ek12, hf⟩ := tq_be hf
    refine tq_getR (M := mX2_takeStep) (pc := 17) tk_c2 (by decide) dX2_takeStep_17 tk_RX2_51 rfl ek12 ?_
    refine tq_iload_n (M := mX2_takeStep) (pc := 20) dX2_takeStep_20 rfl ?_
    obtain ⟨⟨⟩, eu14, hf⟩ := tq_be hf
    obtain ⟨fsu14, eu14⟩ := tq_is_s eu14
    obtain ⟨v13, ev13, hf⟩ := tq_be hf
    refine tq_calV (M := mX2_takeStep) (pc := 21) (S := [.ref t]) tk_y_X4_repeatOf tk_v_X4_repeatOf tk_RX2_108 dX2_takeStep_21 [.int a2] rfl (S0 := _) rfl eu14 rfl (Nat.le_of_ble_eq_true rfl) (d1 := d - 1) (b1 := 0) (s1 := 0) (bc' := 0) (bs' := 0) (Q1 := fun r h9 => r = .inl (some (.int v13)) ∧ h = h9) (by omega) rfl rfl (w_X4_repeatOf (by omega) ev13 (fun _ _ q => q)) (fun E h9 q => nomatch (show (Sum.inr E : tq_R) = Sum.inl _ from q.1)) (fun r9 h9 q => ?_)
    obtain ⟨q1, rfl⟩ := q
    cases (show (Sum.inl r9 : tq_R) = Sum.inl (some (.int v13)) from q1)
    refine tq_aload_n (M := mX2_takeStep) (pc := 24) dX2_takeStep_24 rfl ?_
    obtain ⟨k15, ek15, hf⟩ := tq_be hf
    refine tq_getR (M := mX2_takeStep) (pc := 25) tk_c2 (by decide) dX2_takeStep_25 tk_RX2_50 rfl ek15 ?_
    refine tq_aload_n (M := mX2_takeStep) (pc := 28) dX2_takeStep_28 rfl ?_
    obtain ⟨k16, ek16, hf⟩ := tq_be hf
    refine tq_getR (M := mX2_takeStep) (pc := 29) tk_c2 (by decide) dX2_takeStep_29 tk_RX2_51 rfl ek16 ?_
    refine tq_iload_n (M := mX2_takeStep) (pc := 32) dX2_takeStep_32 rfl ?_
    obtain ⟨⟨⟩, eu18, hf⟩ := tq_be hf
    obtain ⟨fsu18, eu18⟩ := tq_is_s eu18
    obtain ⟨v17, ev17, hf⟩ := tq_be hf
    refine tq_calV (M := mX2_takeStep) (pc := 33) (S := [.ref k15, .int v13, .ref t]) tk_y_X4_testOf tk_v_X4_testOf tk_RX2_111 dX2_takeStep_33 [.int a2] rfl (S0 := _) rfl eu18 rfl (Nat.le_of_ble_eq_true rfl) (d1 := d - 1) (b1 := 0) (s1 := 0) (bc' := 0) (bs' := 0) (Q1 := fun r h9 => r = .inl (some (.int v17)) ∧ h = h9) (by omega) rfl rfl (w_X4_testOf (by omega) ev17 (fun _ _ q => q)) (fun E h9 q => nomatch (show (Sum.inr E : tq_R) = Sum.inl _ from q.1)) (fun r9 h9 q => ?_)
    obtain ⟨q1, rfl⟩ := q
    cases (show (Sum.inl r9 : tq_R) = Sum.inl (some (.int v17)) from q1)
    obtain ⟨⟨⟩, eu20, hf⟩ := tq_be hf
    obtain ⟨fsu20, eu20⟩ := tq_is_s eu20
    obtain ⟨v19, ev19, hf⟩ := tq_be hf
    refine tq_calV (M := mX2_takeStep) (pc := 36) (S := [.int v13, .ref t]) tk_y_X3_passing tk_v_X3_passing tk_RX2_114 dX2_takeStep_36 [.int v17] rfl (S0 := _) rfl eu20 rfl (Nat.le_of_ble_eq_true rfl) (d1 := d - 1) (b1 := 0) (s1 := 0) (bc' := 0) (bs' := 0) (Q1 := fun r h9 => r = .inl (some (.long v19)) ∧ h = h9) (by omega) rfl rfl (w_X3_passing (by omega) ev19 (fun _ _ q => q)) (fun E h9 q => nomatch (show (Sum.inr E : tq_R) = Sum.inl _ from q.1)) (fun r9 h9 q => ?_)
    obtain ⟨q1, rfl⟩ := q
    cases (show (Sum.inl r9 : tq_R) = Sum.inl (some (.long v19)) from q1)
    obtain ⟨⟨⟩, eu22, hf⟩ := tq_be hf
    obtain ⟨fsu22, eu22⟩ := tq_is_s eu22
    obtain ⟨v21, ev21, hf⟩ := tq_be hf
    refine tq_calV (M := mX2_takeStep) (pc := 39) (S := []) tk_y_X2_reachByPath tk_v_X2_reachByPath tk_RX2_117 dX2_takeStep_39 [.int v13, .long v19] rfl (S0 := _) rfl eu22 rfl (Nat.le_of_ble_eq_true rfl) (d1 := d - 1) (b1 := 0) (s1 := 0) (bc' := 0) (bs' := 0) (Q1 := fun r h9 => r = .inl none ∧ v21 = h9) (by omega) rfl rfl (w_X2_reachByPath (by omega) ev21 (fun _ _ q => q)) (fun E h9 q => nomatch (show (Sum.inr E : tq_R) = Sum.inl _ from q.1)) (fun r9 h9 q => ?_)
    obtain ⟨q1, rfl⟩ := q
    cases (show (Sum.inl r9 : tq_R) = Sum.inl (none) from q1)
    refine tq_goto (M := mX2_takeStep) (pc := 42) (tgt := 65) dX2_takeStep_42 (by decide) ?_
    refine tq_pick (L2 := [(0, .ref t), (1, .int a1), (2, .int a2), (3, .int v2)]) [1, 2, 3, 0] rfl ?_
    cases (Option.some.inj hf)
    exact HJ12
abbrev mX2_prepare : tq_M := (RX2, cX2_prepare, 4, none, false, [], none)
def f_X2_prepare_b12 (i0 : Nat) (i1 : Int32) (i2 : Int32) (s : Int32 × tq_H) : Option ((Int32 × tq_H) ⊕ (tq_H)) := match s with
  | (y3, hh) =>
    (tq_gr hh i0 2 1).bind fun k2 =>
    (tq_is hh k2 3).bind fun _ =>
    (f_X3_count k2 hh).bind fun v3 =>
    if y3 ≥ v3 then
      some (.inr hh)
    else
      (tq_gr hh i0 2 3).bind fun k5 =>
      (tq_gl hh i0 2 6).bind fun x6 =>
      (f_X0_one y3 hh).bind fun v7 =>
      (tq_is hh k5 7).bind fun _ =>
      (f_X7_set k5 ((i2 * (60 : Int32)) + y3) (x6 &&& v7) hh).bind fun v8 =>
      tq_let (y3 + (1 : Int32)) fun x10 =>
      some (.inl (x10, v8))
def f_X2_prepare_b53 (i0 : Nat) (i1 : Int32) (i2 : Int32) (s : Int32 × tq_H) : Option ((Int32 × tq_H) ⊕ (tq_H)) := match s with
  | (y3, hh) =>
    (tq_gr hh i0 2 2).bind fun k12 =>
    (tq_is hh k12 4).bind fun _ =>
    (f_X4_stepsOf k12 i2 hh).bind fun v13 =>
    if y3 ≥ v13 then
      some (.inr hh)
    else
      (tq_gr hh i0 2 2).bind fun k15 =>
      (tq_is hh k15 4).bind fun _ =>
      (f_X4_stepAt k15 i2 y3 hh).bind fun v16 =>
      (tq_is hh i0 2).bind fun _ =>
      (f_X2_takeStep i0 i2 v16 hh).bind fun v18 =>
      tq_let (y3 + (1 : Int32)) fun x20 =>
      some (.inl (x20, v18))
def f_X2_prepare_b5 (i0 : Nat) (i1 : Int32) (s : Int32 × tq_H) : Option ((Int32 × tq_H) ⊕ (tq_H)) := match s with
  | (y2, hh) =>
    if y2 > i1 then
      some (.inr hh)
    else
      (tq_loop (f_X2_prepare_b12 i0 i1 y2) tq_N ((0 : Int32), hh)).bind fun o11 =>
      (tq_loop (f_X2_prepare_b53 i0 i1 y2) tq_N ((0 : Int32), o11)).bind fun o21 =>
      tq_let (y2 + (1 : Int32)) fun x22 =>
      some (.inl (x22, o21))
def f_X2_prepare (t : Nat) (a1 : Int32) (h : tq_H) : Option (tq_H) :=
  (tq_gi h t 2 7).bind fun x1 =>
  (tq_loop (f_X2_prepare_b5 t a1) tq_N (x1, h)).bind fun o23 =>
  (tq_gi o23 t 2 7).bind fun x24 =>
  (tq_pf o23 t 2 7 (.int ((if x24 < (a1 + (1 : Int32)) then (a1 + (1 : Int32)) else x24)))).bind fun w25 =>
  some w25
set_option maxHeartbeats 4000000 in
theorem l_X2_prepare_12 {l : Launch} {d : Nat} {Q : tq_R → tq_H → Prop} {bc bs : Nat} (hd9 : 5 ≤ d) (i0 : Nat) (i1 : Int32) (i2 : Int32) : ∀ (n : Nat) (y3 : Int32) (hh : tq_H) (o : tq_H), tq_loop (f_X2_prepare_b12 i0 i1 i2) n (y3, hh) = some o → tq_W l mX2_prepare d bc bs Q 51 [(0, .ref i0), (1, .int i1), (2, .int i2)] [] o → tq_W l mX2_prepare d bc bs Q 12 [(0, .ref i0), (1, .int i1), (2, .int i2), (3, .int y3)] [] hh := by
  intro n
  induction n with
  | zero => intro y3 hh o hl; cases hl
  | succ n ih =>
    intro y3 hh o hl hk
    obtain ⟨oo, hf, ho⟩ := tq_loop_s hl
    refine tq_iload_n (M := mX2_prepare) (pc := 12) dX2_prepare_12 rfl ?_
    refine tq_aload_n (M := mX2_prepare) (pc := 13) dX2_prepare_13 rfl ?_
    obtain ⟨k2, ek2, hf⟩ := tq_be hf
    refine tq_getR (M := mX2_prepare) (pc := 14) tk_c2 (by decide) dX2_prepare_14 tk_RX2_50 rfl ek2 ?_
    obtain ⟨⟨⟩, eu4, hf⟩ := tq_be hf
    obtain ⟨fsu4, eu4⟩ := tq_is_s eu4
    obtain ⟨v3, ev3, hf⟩ := tq_be hf
    refine tq_calV (M := mX2_prepare) (pc := 17) (S := [.int y3]) tk_y_X3_count tk_v_X3_count tk_RX2_55 dX2_prepare_17 [] rfl (S0 := _) rfl eu4 rfl (Nat.le_of_ble_eq_true rfl) (d1 := d - 1) (b1 := 0) (s1 := 0) (bc' := bc) (bs' := bs) (Q1 := fun r h9 => r = .inl (some (.int v3)) ∧ hh = h9) (by omega) (by omega) (by omega) (w_X3_count (by omega) ev3 (fun _ _ q => q)) (fun E h9 q => nomatch (show (Sum.inr E : tq_R) = Sum.inl _ from q.1)) (fun r9 h9 q => ?_)
    obtain ⟨q1, rfl⟩ := q
    cases (show (Sum.inl r9 : tq_R) = Sum.inl (some (.int v3)) from q1)
    refine tq_icmp_ge (M := mX2_prepare) (pc := 20) (tgt := 51) dX2_prepare_20 (by decide) (fun cc => ?_) (fun cc => ?_)
    · have hf := tq_ifp hf cc
      refine tq_pick (L2 := [(0, .ref i0), (1, .int i1), (2, .int i2)]) [0, 1, 2] rfl ?_
      cases (Option.some.inj hf)
      cases (tq_lx ho)
      exact hk
    · have hf := tq_ifn hf cc
      refine tq_aload_n (M := mX2_prepare) (pc := 23) dX2_prepare_23 rfl ?_
      obtain ⟨k5, ek5, hf⟩ := tq_be hf
      refine tq_getR (M := mX2_prepare) (pc := 24) tk_c2 (by decide) dX2_prepare_24 tk_RX2_14 rfl ek5 ?_
      refine tq_iload_n (M := mX2_prepare) (pc := 27) dX2_prepare_27 rfl ?_
      refine tq_bipush (M := mX2_prepare) (pc := 28) dX2_prepare_28 tk_kb_60 ?_
      refine tq_imul (M := mX2_prepare) (pc := 30) dX2_prepare_30 ?_
      refine tq_iload_n (M := mX2_prepare) (pc := 31) dX2_prepare_31 rfl ?_
      refine tq_iadd (M := mX2_prepare) (pc := 32) dX2_prepare_32 ?_
      refine tq_aload_n (M := mX2_prepare) (pc := 33) dX2_prepare_33 rfl ?_
      obtain ⟨x6, ex6, hf⟩ := tq_be hf
      refine tq_getL (M := mX2_prepare) (pc := 34) tk_c2 (by decide) dX2_prepare_34 tk_RX2_32 rfl ex6 ?_
      refine tq_iload_n (M := mX2_prepare) (pc := 37) dX2_prepare_37 rfl ?_
      obtain ⟨v7, ev7, hf⟩ := tq_be hf
      refine tq_calS (M := mX2_prepare) (pc := 38) (S := [.long x6, .int (((i2 * (60 : Int32)) + y3)), .ref k5]) tk_y_X0_one tk_s_X0_one tk_RX2_84 dX2_prepare_38 [.int y3] rfl (Nat.le_of_ble_eq_true rfl) (d1 := d - 1) (b1 := 0) (s1 := 0) (bc' := bc) (bs' := bs) (Q1 := fun r h9 => r = .inl (some (.long v7)) ∧ hh = h9) (by omega) (by omega) (by omega) (w_X0_one (by omega) ev7 (fun _ _ q => q)) (fun E h9 q => nomatch (show (Sum.inr E : tq_R) = Sum.inl _ from q.1)) (fun r9 h9 q => ?_)
      obtain ⟨q1, rfl⟩ := q
      cases (show (Sum.inl r9 : tq_R) = Sum.inl (some (.long v7)) from q1)
      refine tq_land (M := mX2_prepare) (pc := 41) dX2_prepare_41 ?_
      obtain ⟨⟨⟩, eu9, hf⟩ := tq_be hf
      obtain ⟨fsu9, eu9⟩ := tq_is_s eu9
      obtain ⟨v8, ev8, hf⟩ := tq_be hf
      refine tq_calV (M := mX2_prepare) (pc := 42) (S := []) tk_y_X7_set tk_v_X7_set tk_RX2_87 dX2_prepare_42 [.int (((i2 * (60 : Int32)) + y3)), .long ((x6 &&& v7))] rfl (S0 := _) rfl eu9 rfl (Nat.le_of_ble_eq_true rfl) (d1 := d - 1) (b1 := 0) (s1 := 0) (bc' := bc) (bs' := bs) (Q1 := fun r h9 => r = .inl none ∧ v8 = h9) (by omega) (by omega) (by omega) (w_X7_set (by omega) ev8 (fun _ _ q => q)) (fun E h9 q => nomatch (show (Sum.inr E : tq_R) = Sum.inl _ from q.1)) (fun r9 h9 q => ?_)
      obtain ⟨q1, rfl⟩ := q
      cases (show (Sum.inl r9 : tq_R) = Sum.inl (none) from q1)
      obtain ⟨x10, ex10, hf⟩ := tq_le hf
      refine tq_iinc (M := mX2_prepare) (pc := 45) (v := x10) (L2 := [(3, .int x10), (0, .ref i0), (1, .int i1), (2, .int i2)]) dX2_prepare_45 rfl (by rw [ex10, tk_ki_1]) (by decide) rfl ?_
      refine tq_goto (M := mX2_prepare) (pc := 48) (tgt := 12) dX2_prepare_48 (by decide) ?_
      refine tq_pick (L2 := [(0, .ref i0), (1, .int i1), (2, .int i2), (3, .int x10)]) [1, 2, 3, 0] rfl ?_
      cases (Option.some.inj hf)
      exact ih _ _ o (tq_lc ho) hk
set_option maxHeartbeats 4000000 in
theorem l_X2_prepare_53 {l : Launch} {d : Nat} {Q : tq_R → tq_H → Prop} {bc bs : Nat} (hd9 : 5 ≤ d) (i0 : Nat) (i1 : Int32) (i2 : Int32) : ∀ (n : Nat) (y3 : Int32) (hh : tq_H) (o : tq_H), tq_loop (f_X2_prepare_b53 i0 i1 i2) n (y3, hh) = some o → tq_W l mX2_prepare d bc bs Q 85 [(0, .ref i0), (1, .int i1), (2, .int i2)] [] o → tq_W l mX2_prepare d bc bs Q 53 [(0, .ref i0), (1, .int i1), (2, .int i2), (3, .int y3)] [] hh := by
  intro n
  induction n with
  | zero => intro y3 hh o hl; cases hl
  | succ n ih =>
    intro y3 hh o hl hk
    obtain ⟨oo, hf, ho⟩ := tq_loop_s hl
    refine tq_iload_n (M := mX2_prepare) (pc := 53) dX2_prepare_53 rfl ?_
    refine tq_aload_n (M := mX2_prepare) (pc := 54) dX2_prepare_54 rfl ?_
    obtain ⟨k12, ek12, hf⟩ := tq_be hf
    refine tq_getR (M := mX2_prepare) (pc := 55) tk_c2 (by decide) dX2_prepare_55 tk_RX2_51 rfl ek12 ?_
    refine tq_iload_n (M := mX2_prepare) (pc := 58) dX2_prepare_58 rfl ?_
    obtain ⟨⟨⟩, eu14, hf⟩ := tq_be hf
    obtain ⟨fsu14, eu14⟩ := tq_is_s eu14
    obtain ⟨v13, ev13, hf⟩ := tq_be hf
    refine tq_calV (M := mX2_prepare) (pc := 59) (S := [.int y3]) tk_y_X4_stepsOf tk_v_X4_stepsOf tk_RX2_90 dX2_prepare_59 [.int i2] rfl (S0 := _) rfl eu14 rfl (Nat.le_of_ble_eq_true rfl) (d1 := d - 1) (b1 := 0) (s1 := 0) (bc' := bc) (bs' := bs) (Q1 := fun r h9 => r = .inl (some (.int v13)) ∧ hh = h9) (by omega) (by omega) (by omega) (w_X4_stepsOf (by omega) ev13 (fun _ _ q => q)) (fun E h9 q => nomatch (show (Sum.inr E : tq_R) = Sum.inl _ from q.1)) (fun r9 h9 q => ?_)
    obtain ⟨q1, rfl⟩ := q
    cases (show (Sum.inl r9 : tq_R) = Sum.inl (some (.int v13)) from q1)
    refine tq_icmp_ge (M := mX2_prepare) (pc := 62) (tgt := 85) dX2_prepare_62 (by decide) (fun cc => ?_) (fun cc => ?_)
    · have hf := tq_ifp hf cc
      refine tq_pick (L2 := [(0, .ref i0), (1, .int i1), (2, .int i2)]) [0, 1, 2] rfl ?_
      cases (Option.some.inj hf)
      cases (tq_lx ho)
      exact hk
    · have hf := tq_ifn hf cc
      refine tq_aload_n (M := mX2_prepare) (pc := 65) dX2_prepare_65 rfl ?_
      refine tq_iload_n (M := mX2_prepare) (pc := 66) dX2_prepare_66 rfl ?_
      refine tq_aload_n (M := mX2_prepare) (pc := 67) dX2_prepare_67 rfl ?_
      obtain ⟨k15, ek15, hf⟩ := tq_be hf
      refine tq_getR (M := mX2_prepare) (pc := 68) tk_c2 (by decide) dX2_prepare_68 tk_RX2_51 rfl ek15 ?_
      refine tq_iload_n (M := mX2_prepare) (pc := 71) dX2_prepare_71 rfl ?_
      refine tq_iload_n (M := mX2_prepare) (pc := 72) dX2_prepare_72 rfl ?_
      obtain ⟨⟨⟩, eu17, hf⟩ := tq_be hf
      obtain ⟨fsu17, eu17⟩ := tq_is_s eu17
      obtain ⟨v16, ev16, hf⟩ := tq_be hf
      refine tq_calV (M := mX2_prepare) (pc := 73) (S := [.int i2, .ref i0]) tk_y_X4_stepAt tk_v_X4_stepAt tk_RX2_96 dX2_prepare_73 [.int i2, .int y3] rfl (S0 := _) rfl eu17 rfl (Nat.le_of_ble_eq_true rfl) (d1 := d - 1) (b1 := 0) (s1 := 0) (bc' := bc) (bs' := bs) (Q1 := fun r h9 => r = .inl (some (.int v16)) ∧ hh = h9) (by omega) (by omega) (by omega) (w_X4_stepAt (by omega) ev16 (fun _ _ q => q)) (fun E h9 q => nomatch (show (Sum.inr E : tq_R) = Sum.inl _ from q.1)) (fun r9 h9 q => ?_)
      obtain ⟨q1, rfl⟩ := q
      cases (show (Sum.inl r9 : tq_R) = Sum.inl (some (.int v16)) from q1)
      obtain ⟨⟨⟩, eu19, hf⟩ := tq_be hf
      obtain ⟨fsu19, eu19⟩ := tq_is_s eu19
      obtain ⟨v18, ev18, hf⟩ := tq_be hf
      refine tq_calV (M := mX2_prepare) (pc := 76) (S := []) tk_y_X2_takeStep tk_v_X2_takeStep tk_RX2_99 dX2_prepare_76 [.int i2, .int v16] rfl (S0 := _) rfl eu19 rfl (Nat.le_of_ble_eq_true rfl) (d1 := d - 1) (b1 := 0) (s1 := 0) (bc' := bc) (bs' := bs) (Q1 := fun r h9 => r = .inl none ∧ v18 = h9) (by omega) (by omega) (by omega) (w_X2_takeStep (by omega) ev18 (fun _ _ q => q)) (fun E h9 q => nomatch (show (Sum.inr E : tq_R) = Sum.inl _ from q.1)) (fun r9 h9 q => ?_)
      obtain ⟨q1, rfl⟩ := q
      cases (show (Sum.inl r9 : tq_R) = Sum.inl (none) from q1)
      obtain ⟨x20, ex20, hf⟩ := tq_le hf
      refine tq_iinc (M := mX2_prepare) (pc := 79) (v := x20) (L2 := [(3, .int x20), (0, .ref i0), (1, .int i1), (2, .int i2)]) dX2_prepare_79 rfl (by rw [ex20, tk_ki_1]) (by decide) rfl ?_
      refine tq_goto (M := mX2_prepare) (pc := 82) (tgt := 53) dX2_prepare_82 (by decide) ?_
      refine tq_pick (L2 := [(0, .ref i0), (1, .int i1), (2, .int i2), (3, .int x20)]) [1, 2, 3, 0] rfl ?_
      cases (Option.some.inj hf)
      exact ih _ _ o (tq_lc ho) hk
set_option maxHeartbeats 4000000 in
theorem l_X2_prepare_5 {l : Launch} {d : Nat} {Q : tq_R → tq_H → Prop} {bc bs : Nat} (hd9 : 5 ≤ d) (i0 : Nat) (i1 : Int32) : ∀ (n : Nat) (y2 : Int32) (hh : tq_H) (o : tq_H), tq_loop (f_X2_prepare_b5 i0 i1) n (y2, hh) = some o → tq_W l mX2_prepare d bc bs Q 91 [(0, .ref i0), (1, .int i1)] [] o → tq_W l mX2_prepare d bc bs Q 5 [(0, .ref i0), (1, .int i1), (2, .int y2)] [] hh := by
  intro n
  induction n with
  | zero => intro y2 hh o hl; cases hl
  | succ n ih =>
    intro y2 hh o hl hk
    obtain ⟨oo, hf, ho⟩ := tq_loop_s hl
    refine tq_iload_n (M := mX2_prepare) (pc := 5) dX2_prepare_5 rfl ?_
    refine tq_iload_n (M := mX2_prepare) (pc := 6) dX2_prepare_6 rfl ?_
    refine tq_icmp_gt (M := mX2_prepare) (pc := 7) (tgt := 91) dX2_prepare_7 (by decide) (fun cc => ?_) (fun cc => ?_)
    · have hf := tq_ifp hf cc
      refine tq_pick (L2 := [(0, .ref i0), (1, .int i1)]) [0, 1] rfl ?_
      cases (Option.some.inj hf)
      cases (tq_lx ho)
      exact hk
    · have hf := tq_ifn hf cc
      refine tq_iconst (M := mX2_prepare) (pc := 10) dX2_prepare_10 tk_ki_0 ?_
      refine tq_istore_n (M := mX2_prepare) (pc := 11) rfl dX2_prepare_11 (L2 := [(3, .int (0 : Int32)), (0, .ref i0), (1, .int i1), (2, .int y2)]) (by decide) rfl ?_
      obtain ⟨o11, eo11, hf⟩ := tq_be hf
      refine tq_pick (L2 := [(0, .ref i0), (1, .int i1), (2, .int y2), (3, .int (0 : Int32))]) [1, 2, 3, 0] rfl ?_
      refine l_X2_prepare_12 (bc := bc) (bs := bs) (by omega) i0 i1 y2 _ (0 : Int32) hh _ eo11 ?_
      refine tq_iconst (M := mX2_prepare) (pc := 51) dX2_prepare_51 tk_ki_0 ?_
      refine tq_istore_n (M := mX2_prepare) (pc := 52) rfl dX2_prepare_52 (L2 := [(3, .int (0 : Int32)), (0, .ref i0), (1, .int i1), (2, .int y2)]) (by decide) rfl ?_
      obtain ⟨o21, eo21, hf⟩ := tq_be hf
      refine tq_pick (L2 := [(0, .ref i0), (1, .int i1), (2, .int y2), (3, .int (0 : Int32))]) [1, 2, 3, 0] rfl ?_
      refine l_X2_prepare_53 (bc := bc) (bs := bs) (by omega) i0 i1 y2 _ (0 : Int32) o11 _ eo21 ?_
      obtain ⟨x22, ex22, hf⟩ := tq_le hf
      refine tq_iinc (M := mX2_prepare) (pc := 85) (v := x22) (L2 := [(2, .int x22), (0, .ref i0), (1, .int i1)]) dX2_prepare_85 rfl (by rw [ex22, tk_ki_1]) (by decide) rfl ?_
      refine tq_goto (M := mX2_prepare) (pc := 88) (tgt := 5) dX2_prepare_88 (by decide) ?_
      refine tq_pick (L2 := [(0, .ref i0), (1, .int i1), (2, .int x22)]) [1, 2, 0] rfl ?_
      cases (Option.some.inj hf)
      exact ih _ _ o (tq_lc ho) hk
set_option maxHeartbeats 4000000 in
set_option maxRecDepth 20000 in
theorem w_X2_prepare {l : Launch} {d : Nat} (hd9 : 5 ≤ d) {t : Nat} {a1 : Int32} {h : tq_H} {o : tq_H} {Q : tq_R → tq_H → Prop} (hf : f_X2_prepare t a1 h = some o) (hQ : ∀ r h9, r = .inl none ∧ o = h9 → Q r h9) : tq_C l yX2_prepare cX2_prepare 4 none d 0 0 [.ref t, .int a1] h Q := by
  refine tq_body (y := yX2_prepare) false (by decide +kernel) (fun z => by cases z) (Nat.le_of_ble_eq_true rfl) ?_
  show tq_W l mX2_prepare d 0 0 Q 0 [(0, .ref t), (1, .int a1)] [] h
  refine tq_aload_n (M := mX2_prepare) (pc := 0) dX2_prepare_0 rfl ?_
  obtain ⟨x1, ex1, hf⟩ := tq_be hf
  refine tq_getI (M := mX2_prepare) (pc := 1) tk_c2 (by decide) dX2_prepare_1 tk_RX2_36 rfl ex1 ?_
  refine tq_istore_n (M := mX2_prepare) (pc := 4) rfl dX2_prepare_4 (L2 := [(2, .int x1), (0, .ref t), (1, .int a1)]) (by decide) rfl ?_
  obtain ⟨o23, eo23, hf⟩ := tq_be hf
  refine tq_pick (L2 := [(0, .ref t), (1, .int a1), (2, .int x1)]) [1, 2, 0] rfl ?_
  refine l_X2_prepare_5 (bc := 0) (bs := 0) (by omega) t a1 _ x1 h _ eo23 ?_
  refine tq_aload_n (M := mX2_prepare) (pc := 91) dX2_prepare_91 rfl ?_
  refine tq_aload_n (M := mX2_prepare) (pc := 92) dX2_prepare_92 rfl ?_
  obtain ⟨x24, ex24, hf⟩ := tq_be hf
  refine tq_getI (M := mX2_prepare) (pc := 93) tk_c2 (by decide) dX2_prepare_93 tk_RX2_36 rfl ex24 ?_
  refine tq_iload_n (M := mX2_prepare) (pc := 96) dX2_prepare_96 rfl ?_
  refine tq_iconst (M := mX2_prepare) (pc := 97) dX2_prepare_97 tk_ki_1 ?_
  refine tq_iadd (M := mX2_prepare) (pc := 98) dX2_prepare_98 ?_
  refine tq_mmax (M := mX2_prepare) (pc := 99) 102 dX2_prepare_99 tk_RX2_102 tk_max_s tk_math tk_max_c (by omega) (Nat.le_of_ble_eq_true rfl) ?_
  obtain ⟨w25, ew25, hf⟩ := tq_be hf
  refine tq_putv (M := mX2_prepare) (pc := 102) tk_c2 (by decide) dX2_prepare_102 tk_RX2_36 rfl (Or.inl rfl) ew25 (tq_nI _) ?_
  refine tq_vret (M := mX2_prepare) (pc := 105) dX2_prepare_105 rfl ?_
  cases (Option.some.inj hf)
  exact hQ _ _ ⟨rfl, rfl⟩
abbrev mX2_countAhead : tq_M := (RX2, cX2_countAhead, 10, (some .int), false, [], none)
def f_X2_countAhead_b12 (i0 : Nat) (i3 : Int32) (hh : tq_H) (s : Int32 × Int64 × Int32) : Option ((Int32 × Int64 × Int32) ⊕ (Int32)) := match s with
  | (y4, y5, y7) =>
    if y7 ≤ 0 then
      some (.inr y4)
    else
      (f_X0_lowest y5 hh).bind fun v2 =>
      (tq_gr hh i0 2 5).bind fun k3 =>
      (tq_is hh k3 5).bind fun _ =>
      (f_X5_get k3 i3 hh).bind fun v4 =>
      (tq_gr hh i0 2 5).bind fun k6 =>
      (tq_is hh k6 5).bind fun _ =>
      (f_X5_get k6 v2 hh).bind fun v7 =>
      tq_let ((v4 - v7)) fun x9 =>
      tq_let (if x9 > 0 then (1 : Int32) else (if x9 = 0 then if v2 ≥ i3 then (0 : Int32) else (1 : Int32) else (0 : Int32))) fun p10 =>
      tq_let ((y4 + p10)) fun x11 =>
      tq_let ((y5 &&& (y5 - (1 : Int64)))) fun x12 =>
      tq_let (y7 + (-1 : Int32)) fun x13 =>
      some (.inl (x11, x12, x13))
def f_X2_countAhead (t : Nat) (a1 : Int64) (a3 : Int32) (h : tq_H) : Option (Int32) :=
  (f_J13_bitCount_95d88 a1 h).bind fun v1 =>
  (tq_loop (f_X2_countAhead_b12 t a3 h) tq_N ((0 : Int32), a1, v1)).bind fun o14 =>
  some o14
set_option maxHeartbeats 4000000 in
theorem l_X2_countAhead_12 {l : Launch} {d : Nat} {Q : tq_R → tq_H → Prop} {bc bs : Nat} (hd9 : 2 ≤ d) (i0 : Nat) (i3 : Int32) (hh : tq_H) : ∀ (n : Nat) (y4 : Int32) (y5 : Int64) (y7 : Int32) (o : Int32), tq_loop (f_X2_countAhead_b12 i0 i3 hh) n (y4, y5, y7) = some o → tq_W l mX2_countAhead d bc bs Q 85 [(4, .int o)] [] hh → tq_W l mX2_countAhead d bc bs Q 12 [(0, .ref i0), (3, .int i3), (4, .int y4), (5, .long y5), (7, .int y7)] [] hh := by
  intro n
  induction n with
  | zero => intro y4 y5 y7 o hl; cases hl
  | succ n ih =>
    intro y4 y5 y7 o hl hk
    obtain ⟨oo, hf, ho⟩ := tq_loop_s hl
    refine tq_iload (M := mX2_countAhead) (pc := 12) dX2_countAhead_12 rfl ?_
    refine tq_if_le (M := mX2_countAhead) (pc := 14) (tgt := 85) dX2_countAhead_14 (by decide) (fun cc => ?_) (fun cc => ?_)
    · have hf := tq_ifp hf cc
      refine tq_pick (L2 := [(4, .int y4)]) [2] rfl ?_
      cases (Option.some.inj hf)
      cases (tq_lx ho)
      exact hk
    · have hf := tq_ifn hf cc
      refine tq_lload (M := mX2_countAhead) (pc := 17) dX2_countAhead_17 rfl ?_
      obtain ⟨v2, ev2, hf⟩ := tq_be hf
      refine tq_calS (M := mX2_countAhead) (pc := 19) (S := []) tk_y_X0_lowest tk_s_X0_lowest tk_RX2_188 dX2_countAhead_19 [.long y5] rfl (Nat.le_of_ble_eq_true rfl) (d1 := d - 1) (b1 := 0) (s1 := 0) (bc' := bc) (bs' := bs) (Q1 := fun r h9 => r = .inl (some (.int v2)) ∧ hh = h9) (by omega) (by omega) (by omega) (w_X0_lowest (by omega) ev2 (fun _ _ q => q)) (fun E h9 q => nomatch (show (Sum.inr E : tq_R) = Sum.inl _ from q.1)) (fun r9 h9 q => ?_)
      obtain ⟨q1, rfl⟩ := q
      cases (show (Sum.inl r9 : tq_R) = Sum.inl (some (.int v2)) from q1)
      refine tq_istore (M := mX2_countAhead) (pc := 22) dX2_countAhead_22 (L2 := [(8, .int v2), (0, .ref i0), (3, .int i3), (4, .int y4), (5, .long y5), (7, .int y7)]) (by decide) rfl ?_
      refine tq_aload_n (M := mX2_countAhead) (pc := 24) dX2_countAhead_24 rfl ?_
      obtain ⟨k3, ek3, hf⟩ := tq_be hf
      refine tq_getR (M := mX2_countAhead) (pc := 25) tk_c2 (by decide) dX2_countAhead_25 tk_RX2_28 rfl ek3 ?_
      refine tq_iload_n (M := mX2_countAhead) (pc := 28) dX2_countAhead_28 rfl ?_
      obtain ⟨⟨⟩, eu5, hf⟩ := tq_be hf
      obtain ⟨fsu5, eu5⟩ := tq_is_s eu5
      obtain ⟨v4, ev4, hf⟩ := tq_be hf
      refine tq_calV (M := mX2_countAhead) (pc := 29) (S := []) tk_y_X5_get tk_v_X5_get tk_RX2_175 dX2_countAhead_29 [.int i3] rfl (S0 := _) rfl eu5 rfl (Nat.le_of_ble_eq_true rfl) (d1 := d - 1) (b1 := 0) (s1 := 0) (bc' := bc) (bs' := bs) (Q1 := fun r h9 => r = .inl (some (.int v4)) ∧ hh = h9) (by omega) (by omega) (by omega) (w_X5_get (by omega) ev4 (fun _ _ q => q)) (fun E h9 q => nomatch (show (Sum.inr E : tq_R) = Sum.inl _ from q.1)) (fun r9 h9 q => ?_)
      obtain ⟨q1, rfl⟩ := q
      cases (show (Sum.inl r9 : tq_R) = Sum.inl (some (.int v4)) from q1)
      refine tq_aload_n (M := mX2_countAhead) (pc := 32) dX2_countAhead_32 rfl ?_
      obtain ⟨k6, ek6, hf⟩ := tq_be hf
      refine tq_getR (M := mX2_countAhead) (pc := 33) tk_c2 (by decide) dX2_countAhead_33 tk_RX2_28 rfl ek6 ?_
      refine tq_iload (M := mX2_countAhead) (pc := 36) dX2_countAhead_36 rfl ?_
      obtain ⟨⟨⟩, eu8, hf⟩ := tq_be hf
      obtain ⟨fsu8, eu8⟩ := tq_is_s eu8
      obtain ⟨v7, ev7, hf⟩ := tq_be hf
      refine tq_calV (M := mX2_countAhead) (pc := 38) (S := [.int v4]) tk_y_X5_get tk_v_X5_get tk_RX2_175 dX2_countAhead_38 [.int v2] rfl (S0 := _) rfl eu8 rfl (Nat.le_of_ble_eq_true rfl) (d1 := d - 1) (b1 := 0) (s1 := 0) (bc' := bc) (bs' := bs) (Q1 := fun r h9 => r = .inl (some (.int v7)) ∧ hh = h9) (by omega) (by omega) (by omega) (w_X5_get (by omega) ev7 (fun _ _ q => q)) (fun E h9 q => nomatch (show (Sum.inr E : tq_R) = Sum.inl _ from q.1)) (fun r9 h9 q => ?_)
      obtain ⟨q1, rfl⟩ := q
      cases (show (Sum.inl r9 : tq_R) = Sum.inl (some (.int v7)) from q1)
      refine tq_isub (M := mX2_countAhead) (pc := 41) dX2_countAhead_41 ?_
      obtain ⟨x9, ex9, hf⟩ := tq_le hf
      refine tq_istore (M := mX2_countAhead) (pc := 42) dX2_countAhead_42 (L2 := [(9, .int x9), (8, .int v2), (0, .ref i0), (3, .int i3), (4, .int y4), (5, .long y5), (7, .int y7)]) (by decide) (by rw [ex9]; rfl) ?_
      refine tq_iload (M := mX2_countAhead) (pc := 44) dX2_countAhead_44 rfl ?_
      refine tq_iload (M := mX2_countAhead) (pc := 46) dX2_countAhead_46 rfl ?_
      obtain ⟨p10, ep10, hf⟩ := tq_le hf
      have HJ48 : tq_W l mX2_countAhead d bc bs Q 67 [(0, .ref i0), (3, .int i3), (5, .long y5), (7, .int y7)] [.int p10, .int y4] hh := by
        refine tq_iadd (M := mX2_countAhead) (pc := 67) dX2_countAhead_67 ?_
        obtain ⟨x11, ex11, hf⟩ := tq_le hf
        refine tq_istore (M := mX2_countAhead) (pc := 68) dX2_countAhead_68 (L2 := [(4, .int x11), (0, .ref i0), (3, .int i3), (5, .long y5), (7, .int y7)]) (by decide) (by rw [ex11]; rfl) ?_
        refine tq_lload (M := mX2_countAhead) (pc := 70) dX2_countAhead_70 rfl ?_
        refine tq_lload (M := mX2_countAhead) (pc := 72) dX2_countAhead_72 rfl ?_
        refine tq_lconst (M := mX2_countAhead) (pc := 74) dX2_countAhead_74 tk_kl_1 ?_
        refine tq_lsub (M := mX2_countAhead) (pc := 75) dX2_countAhead_75 ?_
        refine tq_land (M := mX2_countAhead) (pc := 76) dX2_countAhead_76 ?_
        obtain ⟨x12, ex12, hf⟩ := tq_le hf
        refine tq_lstore (M := mX2_countAhead) (pc := 77) dX2_countAhead_77 (L2 := [(5, .long x12), (4, .int x11), (0, .ref i0), (3, .int i3), (7, .int y7)]) (by decide) (by rw [ex12]; rfl) ?_
        obtain ⟨x13, ex13, hf⟩ := tq_le hf
        refine tq_iinc (M := mX2_countAhead) (pc := 79) (v := x13) (L2 := [(7, .int x13), (5, .long x12), (4, .int x11), (0, .ref i0), (3, .int i3)]) dX2_countAhead_79 rfl (by rw [ex13, tk_ki_m1]) (by decide) rfl ?_
        refine tq_goto (M := mX2_countAhead) (pc := 82) (tgt := 12) dX2_countAhead_82 (by decide) ?_
        refine tq_pick (L2 := [(0, .ref i0), (3, .int i3), (4, .int x11), (5, .long x12), (7, .int x13)]) [3, 4, 2, 1, 0] rfl ?_
        cases (Option.some.inj hf)
        exact ih _ _ _ o (tq_lc ho) hk
      refine tq_if_gt (M := mX2_countAhead) (pc := 48) (tgt := 62) dX2_countAhead_48 (by decide) (fun cc => ?_) (fun cc => ?_)
      · have hf := tq_ifp ep10.symm cc
        refine tq_iconst (M := mX2_countAhead) (pc := 62) dX2_countAhead_62 tk_ki_1 ?_
        refine tq_goto (M := mX2_countAhead) (pc := 63) (tgt := 67) dX2_countAhead_63 (by decide) ?_
        refine tq_pick (L2 := [(0, .ref i0), (3, .int i3), (5, .long y5), (7, .int y7)]) [2, 3, 5, 6] rfl ?_
        cases hf
        exact HJ48
      · have hf := tq_ifn ep10.symm cc
        refine tq_iload (M := mX2_countAhead) (pc := 51) dX2_countAhead_51 rfl ?_
        refine tq_if_ne (M := mX2_countAhead) (pc := 53) (tgt := 66) dX2_countAhead_53 (by decide) (fun cc => ?_) (fun cc => ?_)
        · have hf := tq_ifn hf cc
          refine tq_iconst (M := mX2_countAhead) (pc := 66) dX2_countAhead_66 tk_ki_0 ?_
          refine tq_pick (L2 := [(0, .ref i0), (3, .int i3), (5, .long y5), (7, .int y7)]) [2, 3, 5, 6] rfl ?_
          cases hf
          exact HJ48
        · have hf := tq_ifp hf cc
          refine tq_iload (M := mX2_countAhead) (pc := 56) dX2_countAhead_56 rfl ?_
          refine tq_iload_n (M := mX2_countAhead) (pc := 58) dX2_countAhead_58 rfl ?_
          refine tq_icmp_ge (M := mX2_countAhead) (pc := 59) (tgt := 66) dX2_countAhead_59 (by decide) (fun cc => ?_) (fun cc => ?_)
          · have hf := tq_ifp hf cc
            refine tq_iconst (M := mX2_countAhead) (pc := 66) dX2_countAhead_66 tk_ki_0 ?_
            refine tq_pick (L2 := [(0, .ref i0), (3, .int i3), (5, .long y5), (7, .int y7)]) [2, 3, 5, 6] rfl ?_
            cases hf
            exact HJ48
          · have hf := tq_ifn hf cc
            refine tq_iconst (M := mX2_countAhead) (pc := 62) dX2_countAhead_62 tk_ki_1 ?_
            refine tq_goto (M := mX2_countAhead) (pc := 63) (tgt := 67) dX2_countAhead_63 (by decide) ?_
            refine tq_pick (L2 := [(0, .ref i0), (3, .int i3), (5, .long y5), (7, .int y7)]) [2, 3, 5, 6] rfl ?_
            cases hf
            exact HJ48
set_option maxHeartbeats 4000000 in
set_option maxRecDepth 20000 in
theorem w_X2_countAhead {l : Launch} {d : Nat} (hd9 : 2 ≤ d) {t : Nat} {a1 : Int64} {a3 : Int32} {h : tq_H} {o : Int32} {Q : tq_R → tq_H → Prop} (hf : f_X2_countAhead t a1 a3 h = some o) (hQ : ∀ r h9, r = .inl (some (.int o)) ∧ h = h9 → Q r h9) : tq_C l yX2_countAhead cX2_countAhead 10 (some .int) d 0 0 [.ref t, .long a1, .int a3] h Q := by
  refine tq_body (y := yX2_countAhead) false (by decide +kernel) (fun z => by cases z) (Nat.le_of_ble_eq_true rfl) ?_
  show tq_W l mX2_countAhead d 0 0 Q 0 [(0, .ref t), (1, .long a1), (3, .int a3)] [] h
  refine tq_iconst (M := mX2_countAhead) (pc := 0) dX2_countAhead_0 tk_ki_0 ?_
  refine tq_istore (M := mX2_countAhead) (pc := 1) dX2_countAhead_1 (L2 := [(4, .int (0 : Int32)), (0, .ref t), (1, .long a1), (3, .int a3)]) (by decide) rfl ?_
  refine tq_lload_n (M := mX2_countAhead) (pc := 3) dX2_countAhead_3 rfl ?_
  refine tq_lstore (M := mX2_countAhead) (pc := 4) dX2_countAhead_4 (L2 := [(5, .long a1), (4, .int (0 : Int32)), (0, .ref t), (1, .long a1), (3, .int a3)]) (by decide) rfl ?_
  refine tq_lload_n (M := mX2_countAhead) (pc := 6) dX2_countAhead_6 rfl ?_
  obtain ⟨v1, ev1, hf⟩ := tq_be hf
  refine tq_calS (M := mX2_countAhead) (pc := 7) (S := []) tk_y_J13_bitCount_95d88 tk_s_J13_bitCount_95d88 tk_RX2_159 dX2_countAhead_7 [.long a1] rfl (Nat.le_of_ble_eq_true rfl) (d1 := d - 1) (b1 := 0) (s1 := 0) (bc' := 0) (bs' := 0) (Q1 := fun r h9 => r = .inl (some (.int v1)) ∧ h = h9) (by omega) rfl rfl (w_J13_bitCount_95d88 (by omega) ev1 (fun _ _ q => q)) (fun E h9 q => nomatch (show (Sum.inr E : tq_R) = Sum.inl _ from q.1)) (fun r9 h9 q => ?_)
  obtain ⟨q1, rfl⟩ := q
  cases (show (Sum.inl r9 : tq_R) = Sum.inl (some (.int v1)) from q1)
  refine tq_istore (M := mX2_countAhead) (pc := 10) dX2_countAhead_10 (L2 := [(7, .int v1), (5, .long a1), (4, .int (0 : Int32)), (0, .ref t), (1, .long a1), (3, .int a3)]) (by decide) rfl ?_
  obtain ⟨o14, eo14, hf⟩ := tq_be hf
  refine tq_pick (L2 := [(0, .ref t), (3, .int a3), (4, .int (0 : Int32)), (5, .long a1), (7, .int v1)]) [3, 5, 2, 1, 0] rfl ?_
  refine l_X2_countAhead_12 (bc := 0) (bs := 0) (by omega) t a3 h _ (0 : Int32) a1 v1 _ eo14 ?_
  refine tq_iload (M := mX2_countAhead) (pc := 85) dX2_countAhead_85 rfl ?_
  refine tq_iret (M := mX2_countAhead) (pc := 87) dX2_countAhead_87 rfl ?_
  cases (Option.some.inj hf)
  exact hQ _ _ ⟨rfl, rfl⟩
abbrev mX2_orderedSpot : tq_M := (RX2, cX2_orderedSpot, 6, (some .int), false, [], none)
def f_X2_orderedSpot_b10 (i0 : Nat) (i2 : Int32) (i3 : Int64) (hh : tq_H) (s : Int32) : Option ((Int32) ⊕ ((Unit) ⊕ (Int32))) := match s with
  | y5 =>
    (tq_gr hh i0 2 1).bind fun k3 =>
    (tq_is hh k3 3).bind fun _ =>
    (f_X3_count k3 hh).bind fun v4 =>
    if y5 ≥ v4 then
      some (.inr (.inl ()))
    else
      (f_X0_holds i3 y5 hh).bind fun v6 =>
      if v6 = 0 then
        tq_let (y5 + (1 : Int32)) fun x7 =>
        some (.inl x7)
      else
        (tq_is hh i0 2).bind fun _ =>
        (f_X2_countAhead i0 i3 y5 hh).bind fun v8 =>
        if v8 = i2 then
          some (.inr (.inr y5))
        else
          tq_let (y5 + (1 : Int32)) fun x10 =>
          some (.inl x10)
def f_X2_orderedSpot (t : Nat) (a1 : Int32) (a2 : Int32) (h : tq_H) : Option (Int32) :=
  (tq_is h t 2).bind fun _ =>
  (f_X2_foundFrom t a1 (0 : Int32) h).bind fun v1 =>
  (tq_loop (f_X2_orderedSpot_b10 t a2 v1 h) tq_N (0 : Int32)).bind fun o11 => match o11 with
  | .inl o11 =>
    some (-1 : Int32)
  | .inr e9 =>
    some e9
set_option maxHeartbeats 4000000 in
theorem l_X2_orderedSpot_10 {l : Launch} {d : Nat} {Q : tq_R → tq_H → Prop} {bc bs : Nat} (hd9 : 3 ≤ d) (i0 : Nat) (i2 : Int32) (i3 : Int64) (hh : tq_H) : ∀ (n : Nat) (y5 : Int32) (o : (Unit) ⊕ (Int32)), tq_loop (f_X2_orderedSpot_b10 i0 i2 i3 hh) n y5 = some o → (match o with
    | .inl e9 => tq_W l mX2_orderedSpot d bc bs Q 51 [] [] hh
    | .inr e9 => (∀ r h9, r = .inl (some (.int e9)) ∧ hh = h9 → Q r h9)) → tq_W l mX2_orderedSpot d bc bs Q 10 [(0, .ref i0), (2, .int i2), (3, .long i3), (5, .int y5)] [] hh := by
  intro n
  induction n with
  | zero => intro y5 o hl; cases hl
  | succ n ih =>
    intro y5 o hl hk
    obtain ⟨oo, hf, ho⟩ := tq_loop_s hl
    refine tq_iload (M := mX2_orderedSpot) (pc := 10) dX2_orderedSpot_10 rfl ?_
    refine tq_aload_n (M := mX2_orderedSpot) (pc := 12) dX2_orderedSpot_12 rfl ?_
    obtain ⟨k3, ek3, hf⟩ := tq_be hf
    refine tq_getR (M := mX2_orderedSpot) (pc := 13) tk_c2 (by decide) dX2_orderedSpot_13 tk_RX2_50 rfl ek3 ?_
    obtain ⟨⟨⟩, eu5, hf⟩ := tq_be hf
    obtain ⟨fsu5, eu5⟩ := tq_is_s eu5
    obtain ⟨v4, ev4, hf⟩ := tq_be hf
    refine tq_calV (M := mX2_orderedSpot) (pc := 16) (S := [.int y5]) tk_y_X3_count tk_v_X3_count tk_RX2_55 dX2_orderedSpot_16 [] rfl (S0 := _) rfl eu5 rfl (Nat.le_of_ble_eq_true rfl) (d1 := d - 1) (b1 := 0) (s1 := 0) (bc' := bc) (bs' := bs) (Q1 := fun r h9 => r = .inl (some (.int v4)) ∧ hh = h9) (by omega) (by omega) (by omega) (w_X3_count (by omega) ev4 (fun _ _ q => q)) (fun E h9 q => nomatch (show (Sum.inr E : tq_R) = Sum.inl _ from q.1)) (fun r9 h9 q => ?_)
    obtain ⟨q1, rfl⟩ := q
    cases (show (Sum.inl r9 : tq_R) = Sum.inl (some (.int v4)) from q1)
    refine tq_icmp_ge (M := mX2_orderedSpot) (pc := 19) (tgt := 51) dX2_orderedSpot_19 (by decide) (fun cc => ?_) (fun cc => ?_)
    · have hf := tq_ifp hf cc
      refine tq_pick (L2 := []) [] rfl ?_
      cases (Option.some.inj hf)
      cases (tq_lx ho)
      exact hk
    · have hf := tq_ifn hf cc
      refine tq_lload_n (M := mX2_orderedSpot) (pc := 22) dX2_orderedSpot_22 rfl ?_
      refine tq_iload (M := mX2_orderedSpot) (pc := 23) dX2_orderedSpot_23 rfl ?_
      obtain ⟨v6, ev6, hf⟩ := tq_be hf
      refine tq_calS (M := mX2_orderedSpot) (pc := 25) (S := []) tk_y_X0_holds tk_s_X0_holds tk_RX2_74 dX2_orderedSpot_25 [.long i3, .int y5] rfl (Nat.le_of_ble_eq_true rfl) (d1 := d - 1) (b1 := 0) (s1 := 0) (bc' := bc) (bs' := bs) (Q1 := fun r h9 => r = .inl (some (.int v6)) ∧ hh = h9) (by omega) (by omega) (by omega) (w_X0_holds (by omega) ev6 (fun _ _ q => q)) (fun E h9 q => nomatch (show (Sum.inr E : tq_R) = Sum.inl _ from q.1)) (fun r9 h9 q => ?_)
      obtain ⟨q1, rfl⟩ := q
      cases (show (Sum.inl r9 : tq_R) = Sum.inl (some (.int v6)) from q1)
      refine tq_if_eq (M := mX2_orderedSpot) (pc := 28) (tgt := 45) dX2_orderedSpot_28 (by decide) (fun cc => ?_) (fun cc => ?_)
      · have hf := tq_ifp hf cc
        obtain ⟨x7, ex7, hf⟩ := tq_le hf
        refine tq_iinc (M := mX2_orderedSpot) (pc := 45) (v := x7) (L2 := [(5, .int x7), (0, .ref i0), (2, .int i2), (3, .long i3)]) dX2_orderedSpot_45 rfl (by rw [ex7, tk_ki_1]) (by decide) rfl ?_
        refine tq_goto (M := mX2_orderedSpot) (pc := 48) (tgt := 10) dX2_orderedSpot_48 (by decide) ?_
        refine tq_pick (L2 := [(0, .ref i0), (2, .int i2), (3, .long i3), (5, .int x7)]) [1, 2, 3, 0] rfl ?_
        cases (Option.some.inj hf)
        exact ih _ o (tq_lc ho) hk
      · have hf := tq_ifn hf cc
        refine tq_aload_n (M := mX2_orderedSpot) (pc := 31) dX2_orderedSpot_31 rfl ?_
        refine tq_lload_n (M := mX2_orderedSpot) (pc := 32) dX2_orderedSpot_32 rfl ?_
        refine tq_iload (M := mX2_orderedSpot) (pc := 33) dX2_orderedSpot_33 rfl ?_
        obtain ⟨⟨⟩, eu9, hf⟩ := tq_be hf
        obtain ⟨fsu9, eu9⟩ := tq_is_s eu9
        obtain ⟨v8, ev8, hf⟩ := tq_be hf
        refine tq_calV (M := mX2_orderedSpot) (pc := 35) (S := []) tk_y_X2_countAhead tk_v_X2_countAhead tk_RX2_184 dX2_orderedSpot_35 [.long i3, .int y5] rfl (S0 := _) rfl eu9 rfl (Nat.le_of_ble_eq_true rfl) (d1 := d - 1) (b1 := 0) (s1 := 0) (bc' := bc) (bs' := bs) (Q1 := fun r h9 => r = .inl (some (.int v8)) ∧ hh = h9) (by omega) (by omega) (by omega) (w_X2_countAhead (by omega) ev8 (fun _ _ q => q)) (fun E h9 q => nomatch (show (Sum.inr E : tq_R) = Sum.inl _ from q.1)) (fun r9 h9 q => ?_)
        obtain ⟨q1, rfl⟩ := q
        cases (show (Sum.inl r9 : tq_R) = Sum.inl (some (.int v8)) from q1)
        refine tq_iload_n (M := mX2_orderedSpot) (pc := 38) dX2_orderedSpot_38 rfl ?_
        refine tq_icmp_ne (M := mX2_orderedSpot) (pc := 39) (tgt := 45) dX2_orderedSpot_39 (by decide) (fun cc => ?_) (fun cc => ?_)
        · have hf := tq_ifn hf cc
          obtain ⟨x10, ex10, hf⟩ := tq_le hf
          refine tq_iinc (M := mX2_orderedSpot) (pc := 45) (v := x10) (L2 := [(5, .int x10), (0, .ref i0), (2, .int i2), (3, .long i3)]) dX2_orderedSpot_45 rfl (by rw [ex10, tk_ki_1]) (by decide) rfl ?_
          refine tq_goto (M := mX2_orderedSpot) (pc := 48) (tgt := 10) dX2_orderedSpot_48 (by decide) ?_
          refine tq_pick (L2 := [(0, .ref i0), (2, .int i2), (3, .long i3), (5, .int x10)]) [1, 2, 3, 0] rfl ?_
          cases (Option.some.inj hf)
          exact ih _ o (tq_lc ho) hk
        · have hf := tq_ifp hf cc
          refine tq_iload (M := mX2_orderedSpot) (pc := 42) dX2_orderedSpot_42 rfl ?_
          refine tq_iret (M := mX2_orderedSpot) (pc := 44) dX2_orderedSpot_44 rfl ?_
          cases (Option.some.inj hf)
          cases (tq_lx ho)
          exact hk _ _ ⟨rfl, rfl⟩
set_option maxHeartbeats 4000000 in
set_option maxRecDepth 20000 in
theorem w_X2_orderedSpot {l : Launch} {d : Nat} (hd9 : 3 ≤ d) {t : Nat} {a1 : Int32} {a2 : Int32} {h : tq_H} {o : Int32} {Q : tq_R → tq_H → Prop} (hf : f_X2_orderedSpot t a1 a2 h = some o) (hQ : ∀ r h9, r = .inl (some (.int o)) ∧ h = h9 → Q r h9) : tq_C l yX2_orderedSpot cX2_orderedSpot 6 (some .int) d 0 0 [.ref t, .int a1, .int a2] h Q := by
  refine tq_body (y := yX2_orderedSpot) false (by decide +kernel) (fun z => by cases z) (Nat.le_of_ble_eq_true rfl) ?_
  show tq_W l mX2_orderedSpot d 0 0 Q 0 [(0, .ref t), (1, .int a1), (2, .int a2)] [] h
  refine tq_aload_n (M := mX2_orderedSpot) (pc := 0) dX2_orderedSpot_0 rfl ?_
  refine tq_iload_n (M := mX2_orderedSpot) (pc := 1) dX2_orderedSpot_1 rfl ?_
  refine tq_iconst (M := mX2_orderedSpot) (pc := 2) dX2_orderedSpot_2 tk_ki_0 ?_
  obtain ⟨⟨⟩, eu2, hf⟩ := tq_be hf
  obtain ⟨fsu2, eu2⟩ := tq_is_s eu2
  obtain ⟨v1, ev1, hf⟩ := tq_be hf
  refine tq_calV (M := mX2_orderedSpot) (pc := 3) (S := []) tk_y_X2_foundFrom tk_v_X2_foundFrom tk_RX2_181 dX2_orderedSpot_3 [.int a1, .int (0 : Int32)] rfl (S0 := _) rfl eu2 rfl (Nat.le_of_ble_eq_true rfl) (d1 := d - 1) (b1 := 0) (s1 := 0) (bc' := 0) (bs' := 0) (Q1 := fun r h9 => r = .inl (some (.long v1)) ∧ h = h9) (by omega) rfl rfl (w_X2_foundFrom (by omega) ev1 (fun _ _ q => q)) (fun E h9 q => nomatch (show (Sum.inr E : tq_R) = Sum.inl _ from q.1)) (fun r9 h9 q => ?_)
  obtain ⟨q1, rfl⟩ := q
  cases (show (Sum.inl r9 : tq_R) = Sum.inl (some (.long v1)) from q1)
  refine tq_lstore_n (M := mX2_orderedSpot) (pc := 6) rfl dX2_orderedSpot_6 (L2 := [(3, .long v1), (0, .ref t), (1, .int a1), (2, .int a2)]) (by decide) rfl ?_
  refine tq_iconst (M := mX2_orderedSpot) (pc := 7) dX2_orderedSpot_7 tk_ki_0 ?_
  refine tq_istore (M := mX2_orderedSpot) (pc := 8) dX2_orderedSpot_8 (L2 := [(5, .int (0 : Int32)), (3, .long v1), (0, .ref t), (1, .int a1), (2, .int a2)]) (by decide) rfl ?_
  obtain ⟨o11, eo11, hf⟩ := tq_be hf
  refine tq_pick (L2 := [(0, .ref t), (2, .int a2), (3, .long v1), (5, .int (0 : Int32))]) [2, 4, 1, 0] rfl ?_
  refine l_X2_orderedSpot_10 (bc := 0) (bs := 0) (by omega) t a2 v1 h _ (0 : Int32) _ eo11 ?_
  cases o11 with
  | inl o11 =>
    refine tq_iconst (M := mX2_orderedSpot) (pc := 51) dX2_orderedSpot_51 tk_ki_m1 ?_
    refine tq_iret (M := mX2_orderedSpot) (pc := 52) dX2_orderedSpot_52 rfl ?_
    cases (Option.some.inj hf)
    exact hQ _ _ ⟨rfl, rfl⟩
  | inr e9 =>
    cases (Option.some.inj hf)
    exact hQ
abbrev mX2_isFirstOfValue : tq_M := (RX2, cX2_isFirstOfValue, 5, (some .boolean), false, [], none)
def f_X2_isFirstOfValue_b3 (i0 : Nat) (i1 : Int64) (i3 : Int32) (hh : tq_H) (s : Int32) : Option ((Int32) ⊕ ((Unit) ⊕ (Int32))) := match s with
  | y4 =>
    if y4 ≥ i3 then
      some (.inr (.inl ()))
    else
      (f_X0_holds i1 y4 hh).bind fun v1 =>
      if v1 = 0 then
        tq_let (y4 + (1 : Int32)) fun x2 =>
        some (.inl x2)
      else
        (tq_gr hh i0 2 5).bind fun k3 =>
        (tq_is hh k3 5).bind fun _ =>
        (f_X5_get k3 y4 hh).bind fun v4 =>
        (tq_gr hh i0 2 5).bind fun k6 =>
        (tq_is hh k6 5).bind fun _ =>
        (f_X5_get k6 i3 hh).bind fun v7 =>
        if v4 = v7 then
          some (.inr (.inr (0 : Int32)))
        else
          tq_let (y4 + (1 : Int32)) fun x9 =>
          some (.inl x9)
def f_X2_isFirstOfValue (t : Nat) (a1 : Int64) (a3 : Int32) (h : tq_H) : Option (Int32) :=
  (tq_loop (f_X2_isFirstOfValue_b3 t a1 a3 h) tq_N (0 : Int32)).bind fun o10 => match o10 with
  | .inl o10 =>
    some (1 : Int32)
  | .inr e9 =>
    some e9
set_option maxHeartbeats 4000000 in
theorem l_X2_isFirstOfValue_3 {l : Launch} {d : Nat} {Q : tq_R → tq_H → Prop} {bc bs : Nat} (hd9 : 1 ≤ d) (i0 : Nat) (i1 : Int64) (i3 : Int32) (hh : tq_H) : ∀ (n : Nat) (y4 : Int32) (o : (Unit) ⊕ (Int32)), tq_loop (f_X2_isFirstOfValue_b3 i0 i1 i3 hh) n y4 = some o → (match o with
    | .inl e9 => tq_W l mX2_isFirstOfValue d bc bs Q 46 [] [] hh
    | .inr e9 => (∀ r h9, r = .inl (some (.int e9)) ∧ hh = h9 → Q r h9)) → tq_W l mX2_isFirstOfValue d bc bs Q 3 [(0, .ref i0), (1, .long i1), (3, .int i3), (4, .int y4)] [] hh := by
  intro n
  induction n with
  | zero => intro y4 o hl; cases hl
  | succ n ih =>
    intro y4 o hl hk
    obtain ⟨oo, hf, ho⟩ := tq_loop_s hl
    refine tq_iload (M := mX2_isFirstOfValue) (pc := 3) dX2_isFirstOfValue_3 rfl ?_
    refine tq_iload_n (M := mX2_isFirstOfValue) (pc := 5) dX2_isFirstOfValue_5 rfl ?_
    refine tq_icmp_ge (M := mX2_isFirstOfValue) (pc := 6) (tgt := 46) dX2_isFirstOfValue_6 (by decide) (fun cc => ?_) (fun cc => ?_)
    · have hf := tq_ifp hf cc
      refine tq_pick (L2 := []) [] rfl ?_
      cases (Option.some.inj hf)
      cases (tq_lx ho)
      exact hk
    · have hf := tq_ifn hf cc
      refine tq_lload_n (M := mX2_isFirstOfValue) (pc := 9) dX2_isFirstOfValue_9 rfl ?_
      refine tq_iload (M := mX2_isFirstOfValue) (pc := 10) dX2_isFirstOfValue_10 rfl ?_
      obtain ⟨v1, ev1, hf⟩ := tq_be hf
      refine tq_calS (M := mX2_isFirstOfValue) (pc := 12) (S := []) tk_y_X0_holds tk_s_X0_holds tk_RX2_74 dX2_isFirstOfValue_12 [.long i1, .int y4] rfl (Nat.le_of_ble_eq_true rfl) (d1 := d - 1) (b1 := 0) (s1 := 0) (bc' := bc) (bs' := bs) (Q1 := fun r h9 => r = .inl (some (.int v1)) ∧ hh = h9) (by omega) (by omega) (by omega) (w_X0_holds (by omega) ev1 (fun _ _ q => q)) (fun E h9 q => nomatch (show (Sum.inr E : tq_R) = Sum.inl _ from q.1)) (fun r9 h9 q => ?_)
      obtain ⟨q1, rfl⟩ := q
      cases (show (Sum.inl r9 : tq_R) = Sum.inl (some (.int v1)) from q1)
      refine tq_if_eq (M := mX2_isFirstOfValue) (pc := 15) (tgt := 40) dX2_isFirstOfValue_15 (by decide) (fun cc => ?_) (fun cc => ?_)
      · have hf := tq_ifp hf cc
        obtain ⟨x2, ex2, hf⟩ := tq_le hf
        refine tq_iinc (M := mX2_isFirstOfValue) (pc := 40) (v := x2) (L2 := [(4, .int x2), (0, .ref i0), (1, .long i1), (3, .int i3)]) dX2_isFirstOfValue_40 rfl (by rw [ex2, tk_ki_1]) (by decide) rfl ?_
        refine tq_goto (M := mX2_isFirstOfValue) (pc := 43) (tgt := 3) dX2_isFirstOfValue_43 (by decide) ?_
        refine tq_pick (L2 := [(0, .ref i0), (1, .long i1), (3, .int i3), (4, .int x2)]) [1, 2, 3, 0] rfl ?_
        cases (Option.some.inj hf)
        exact ih _ o (tq_lc ho) hk
      · have hf := tq_ifn hf cc
        refine tq_aload_n (M := mX2_isFirstOfValue) (pc := 18) dX2_isFirstOfValue_18 rfl ?_
        obtain ⟨k3, ek3, hf⟩ := tq_be hf
        refine tq_getR (M := mX2_isFirstOfValue) (pc := 19) tk_c2 (by decide) dX2_isFirstOfValue_19 tk_RX2_28 rfl ek3 ?_
        refine tq_iload (M := mX2_isFirstOfValue) (pc := 22) dX2_isFirstOfValue_22 rfl ?_
        obtain ⟨⟨⟩, eu5, hf⟩ := tq_be hf
        obtain ⟨fsu5, eu5⟩ := tq_is_s eu5
        obtain ⟨v4, ev4, hf⟩ := tq_be hf
        refine tq_calV (M := mX2_isFirstOfValue) (pc := 24) (S := []) tk_y_X5_get tk_v_X5_get tk_RX2_175 dX2_isFirstOfValue_24 [.int y4] rfl (S0 := _) rfl eu5 rfl (Nat.le_of_ble_eq_true rfl) (d1 := d - 1) (b1 := 0) (s1 := 0) (bc' := bc) (bs' := bs) (Q1 := fun r h9 => r = .inl (some (.int v4)) ∧ hh = h9) (by omega) (by omega) (by omega) (w_X5_get (by omega) ev4 (fun _ _ q => q)) (fun E h9 q => nomatch (show (Sum.inr E : tq_R) = Sum.inl _ from q.1)) (fun r9 h9 q => ?_)
        obtain ⟨q1, rfl⟩ := q
        cases (show (Sum.inl r9 : tq_R) = Sum.inl (some (.int v4)) from q1)
        refine tq_aload_n (M := mX2_isFirstOfValue) (pc := 27) dX2_isFirstOfValue_27 rfl ?_
        obtain ⟨k6, ek6, hf⟩ := tq_be hf
        refine tq_getR (M := mX2_isFirstOfValue) (pc := 28) tk_c2 (by decide) dX2_isFirstOfValue_28 tk_RX2_28 rfl ek6 ?_
        refine tq_iload_n (M := mX2_isFirstOfValue) (pc := 31) dX2_isFirstOfValue_31 rfl ?_
        obtain ⟨⟨⟩, eu8, hf⟩ := tq_be hf
        obtain ⟨fsu8, eu8⟩ := tq_is_s eu8
        obtain ⟨v7, ev7, hf⟩ := tq_be hf
        refine tq_calV (M := mX2_isFirstOfValue) (pc := 32) (S := [.int v4]) tk_y_X5_get tk_v_X5_get tk_RX2_175 dX2_isFirstOfValue_32 [.int i3] rfl (S0 := _) rfl eu8 rfl (Nat.le_of_ble_eq_true rfl) (d1 := d - 1) (b1 := 0) (s1 := 0) (bc' := bc) (bs' := bs) (Q1 := fun r h9 => r = .inl (some (.int v7)) ∧ hh = h9) (by omega) (by omega) (by omega) (w_X5_get (by omega) ev7 (fun _ _ q => q)) (fun E h9 q => nomatch (show (Sum.inr E : tq_R) = Sum.inl _ from q.1)) (fun r9 h9 q => ?_)
        obtain ⟨q1, rfl⟩ := q
        cases (show (Sum.inl r9 : tq_R) = Sum.inl (some (.int v7)) from q1)
        refine tq_icmp_ne (M := mX2_isFirstOfValue) (pc := 35) (tgt := 40) dX2_isFirstOfValue_35 (by decide) (fun cc => ?_) (fun cc => ?_)
        · have hf := tq_ifn hf cc
          obtain ⟨x9, ex9, hf⟩ := tq_le hf
          refine tq_iinc (M := mX2_isFirstOfValue) (pc := 40) (v := x9) (L2 := [(4, .int x9), (0, .ref i0), (1, .long i1), (3, .int i3)]) dX2_isFirstOfValue_40 rfl (by rw [ex9, tk_ki_1]) (by decide) rfl ?_
          refine tq_goto (M := mX2_isFirstOfValue) (pc := 43) (tgt := 3) dX2_isFirstOfValue_43 (by decide) ?_
          refine tq_pick (L2 := [(0, .ref i0), (1, .long i1), (3, .int i3), (4, .int x9)]) [1, 2, 3, 0] rfl ?_
          cases (Option.some.inj hf)
          exact ih _ o (tq_lc ho) hk
        · have hf := tq_ifp hf cc
          refine tq_iconst (M := mX2_isFirstOfValue) (pc := 38) dX2_isFirstOfValue_38 tk_ki_0 ?_
          refine tq_zret (M := mX2_isFirstOfValue) (pc := 39) dX2_isFirstOfValue_39 rfl (Or.inl rfl) ?_
          cases (Option.some.inj hf)
          cases (tq_lx ho)
          exact hk _ _ ⟨rfl, rfl⟩
set_option maxHeartbeats 4000000 in
set_option maxRecDepth 20000 in
theorem w_X2_isFirstOfValue {l : Launch} {d : Nat} (hd9 : 1 ≤ d) {t : Nat} {a1 : Int64} {a3 : Int32} {h : tq_H} {o : Int32} {Q : tq_R → tq_H → Prop} (hf : f_X2_isFirstOfValue t a1 a3 h = some o) (hQ : ∀ r h9, r = .inl (some (.int o)) ∧ h = h9 → Q r h9) : tq_C l yX2_isFirstOfValue cX2_isFirstOfValue 5 (some .boolean) d 0 0 [.ref t, .long a1, .int a3] h Q := by
  refine tq_body (y := yX2_isFirstOfValue) false (by decide +kernel) (fun z => by cases z) (Nat.le_of_ble_eq_true rfl) ?_
  show tq_W l mX2_isFirstOfValue d 0 0 Q 0 [(0, .ref t), (1, .long a1), (3, .int a3)] [] h
  refine tq_iconst (M := mX2_isFirstOfValue) (pc := 0) dX2_isFirstOfValue_0 tk_ki_0 ?_
  refine tq_istore (M := mX2_isFirstOfValue) (pc := 1) dX2_isFirstOfValue_1 (L2 := [(4, .int (0 : Int32)), (0, .ref t), (1, .long a1), (3, .int a3)]) (by decide) rfl ?_
  obtain ⟨o10, eo10, hf⟩ := tq_be hf
  refine tq_pick (L2 := [(0, .ref t), (1, .long a1), (3, .int a3), (4, .int (0 : Int32))]) [1, 2, 3, 0] rfl ?_
  refine l_X2_isFirstOfValue_3 (bc := 0) (bs := 0) (by omega) t a1 a3 h _ (0 : Int32) _ eo10 ?_
  cases o10 with
  | inl o10 =>
    refine tq_iconst (M := mX2_isFirstOfValue) (pc := 46) dX2_isFirstOfValue_46 tk_ki_1 ?_
    refine tq_zret (M := mX2_isFirstOfValue) (pc := 47) dX2_isFirstOfValue_47 rfl (Or.inr rfl) ?_
    cases (Option.some.inj hf)
    exact hQ _ _ ⟨rfl, rfl⟩
  | inr e9 =>
    cases (Option.some.inj hf)
    exact hQ
abbrev mX2_countValues : tq_M := (RX2, cX2_countValues, 6, (some .int), false, [], none)
def f_X2_countValues_b13 (i0 : Nat) (i2 : Int64) (hh : tq_H) (s : Int32 × Int32) : Option ((Int32 × Int32) ⊕ (Int32)) := match s with
  | (y4, y5) =>
    (tq_gr hh i0 2 1).bind fun k3 =>
    (tq_is hh k3 3).bind fun _ =>
    (f_X3_count k3 hh).bind fun v4 =>
    if y5 ≥ v4 then
      some (.inr y4)
    else
      (f_X0_holds i2 y5 hh).bind fun v6 =>
      (if v6 = 0 then
        some y4
      else
        (tq_is hh i0 2).bind fun _ =>
        (f_X2_isFirstOfValue i0 i2 y5 hh).bind fun v7 =>
        if v7 = 0 then
          some y4
        else
          tq_let (y4 + (1 : Int32)) fun x9 =>
          some x9).bind fun p10 =>
      tq_let (y5 + (1 : Int32)) fun x11 =>
      some (.inl (p10, x11))
def f_X2_countValues (t : Nat) (a1 : Int32) (h : tq_H) : Option (Int32) :=
  (tq_is h t 2).bind fun _ =>
  (f_X2_foundFrom t a1 (0 : Int32) h).bind fun v1 =>
  (tq_loop (f_X2_countValues_b13 t v1 h) tq_N ((0 : Int32), (0 : Int32))).bind fun o12 =>
  some o12
set_option maxHeartbeats 4000000 in
theorem l_X2_countValues_13 {l : Launch} {d : Nat} {Q : tq_R → tq_H → Prop} {bc bs : Nat} (hd9 : 2 ≤ d) (i0 : Nat) (i2 : Int64) (hh : tq_H) : ∀ (n : Nat) (y4 : Int32) (y5 : Int32) (o : Int32), tq_loop (f_X2_countValues_b13 i0 i2 hh) n (y4, y5) = some o → tq_W l mX2_countValues d bc bs Q 53 [(4, .int o)] [] hh → tq_W l mX2_countValues d bc bs Q 13 [(0, .ref i0), (2, .long i2), (4, .int y4), (5, .int y5)] [] hh := by
  intro n
  induction n with
  | zero => intro y4 y5 o hl; cases hl
  | succ n ih =>
    intro y4 y5 o hl hk
    obtain ⟨oo, hf, ho⟩ := tq_loop_s hl
    refine tq_iload (M := mX2_countValues) (pc := 13) dX2_countValues_13 rfl ?_
    refine tq_aload_n (M := mX2_countValues) (pc := 15) dX2_countValues_15 rfl ?_
    obtain ⟨k3, ek3, hf⟩ := tq_be hf
    refine tq_getR (M := mX2_countValues) (pc := 16) tk_c2 (by decide) dX2_countValues_16 tk_RX2_50 rfl ek3 ?_
    obtain ⟨⟨⟩, eu5, hf⟩ := tq_be hf
    obtain ⟨fsu5, eu5⟩ := tq_is_s eu5
    obtain ⟨v4, ev4, hf⟩ := tq_be hf
    refine tq_calV (M := mX2_countValues) (pc := 19) (S := [.int y5]) tk_y_X3_count tk_v_X3_count tk_RX2_55 dX2_countValues_19 [] rfl (S0 := _) rfl eu5 rfl (Nat.le_of_ble_eq_true rfl) (d1 := d - 1) (b1 := 0) (s1 := 0) (bc' := bc) (bs' := bs) (Q1 := fun r h9 => r = .inl (some (.int v4)) ∧ hh = h9) (by omega) (by omega) (by omega) (w_X3_count (by omega) ev4 (fun _ _ q => q)) (fun E h9 q => nomatch (show (Sum.inr E : tq_R) = Sum.inl _ from q.1)) (fun r9 h9 q => ?_)
    obtain ⟨q1, rfl⟩ := q
    cases (show (Sum.inl r9 : tq_R) = Sum.inl (some (.int v4)) from q1)
    refine tq_icmp_ge (M := mX2_countValues) (pc := 22) (tgt := 53) dX2_countValues_22 (by decide) (fun cc => ?_) (fun cc => ?_)
    · have hf := tq_ifp hf cc
      refine tq_pick (L2 := [(4, .int y4)]) [2] rfl ?_
      cases (Option.some.inj hf)
      cases (tq_lx ho)
      exact hk
    · have hf := tq_ifn hf cc
      refine tq_lload_n (M := mX2_countValues) (pc := 25) dX2_countValues_25 rfl ?_
      refine tq_iload (M := mX2_countValues) (pc := 26) dX2_countValues_26 rfl ?_
      obtain ⟨v6, ev6, hf⟩ := tq_be hf
      refine tq_calS (M := mX2_countValues) (pc := 28) (S := []) tk_y_X0_holds tk_s_X0_holds tk_RX2_74 dX2_countValues_28 [.long i2, .int y5] rfl (Nat.le_of_ble_eq_true rfl) (d1 := d - 1) (b1 := 0) (s1 := 0) (bc' := bc) (bs' := bs) (Q1 := fun r h9 => r = .inl (some (.int v6)) ∧ hh = h9) (by omega) (by omega) (by omega) (w_X0_holds (by omega) ev6 (fun _ _ q => q)) (fun E h9 q => nomatch (show (Sum.inr E : tq_R) = Sum.inl _ from q.1)) (fun r9 h9 q => ?_)
      obtain ⟨q1, rfl⟩ := q
      cases (show (Sum.inl r9 : tq_R) = Sum.inl (some (.int v6)) from q1)
      obtain ⟨p10, ep10, hf⟩ := tq_be hf
      have HJ31 : tq_W l mX2_countValues d bc bs Q 47 [(0, .ref i0), (2, .long i2), (4, .int p10), (5, .int y5)] [] hh := by
        obtain ⟨x11, ex11, hf⟩ := tq_le hf
        refine tq_iinc (M := mX2_countValues) (pc := 47) (v := x11) (L2 := [(5, .int x11), (0, .ref i0), (2, .long i2), (4, .int p10)]) dX2_countValues_47 rfl (by rw [ex11, tk_ki_1]) (by decide) rfl ?_
        refine tq_goto (M := mX2_countValues) (pc := 50) (tgt := 13) dX2_countValues_50 (by decide) ?_
        refine tq_pick (L2 := [(0, .ref i0), (2, .long i2), (4, .int p10), (5, .int x11)]) [1, 2, 3, 0] rfl ?_
        cases (Option.some.inj hf)
        exact ih _ _ o (tq_lc ho) hk
      refine tq_if_eq (M := mX2_countValues) (pc := 31) (tgt := 47) dX2_countValues_31 (by decide) (fun cc => ?_) (fun cc => ?_)
      · have hf := tq_ifp ep10 cc
        cases (Option.some.inj hf)
        exact HJ31
      · have hf := tq_ifn ep10 cc
        refine tq_aload_n (M := mX2_countValues) (pc := 34) dX2_countValues_34 rfl ?_
        refine tq_lload_n (M := mX2_countValues) (pc := 35) dX2_countValues_35 rfl ?_
        refine tq_iload (M := mX2_countValues) (pc := 36) dX2_countValues_36 rfl ?_
        obtain ⟨⟨⟩, eu8, hf⟩ := tq_be hf
        obtain ⟨fsu8, eu8⟩ := tq_is_s eu8
        obtain ⟨v7, ev7, hf⟩ := tq_be hf
        refine tq_calV (M := mX2_countValues) (pc := 38) (S := []) tk_y_X2_isFirstOfValue tk_v_X2_isFirstOfValue tk_RX2_191 dX2_countValues_38 [.long i2, .int y5] rfl (S0 := _) rfl eu8 rfl (Nat.le_of_ble_eq_true rfl) (d1 := d - 1) (b1 := 0) (s1 := 0) (bc' := bc) (bs' := bs) (Q1 := fun r h9 => r = .inl (some (.int v7)) ∧ hh = h9) (by omega) (by omega) (by omega) (w_X2_isFirstOfValue (by omega) ev7 (fun _ _ q => q)) (fun E h9 q => nomatch (show (Sum.inr E : tq_R) = Sum.inl _ from q.1)) (fun r9 h9 q => ?_)
        obtain ⟨q1, rfl⟩ := q
        cases (show (Sum.inl r9 : tq_R) = Sum.inl (some (.int v7)) from q1)
        refine tq_if_eq (M := mX2_countValues) (pc := 41) (tgt := 47) dX2_countValues_41 (by decide) (fun cc => ?_) (fun cc => ?_)
        · have hf := tq_ifp hf cc
          cases (Option.some.inj hf)
          exact HJ31
        · have hf := tq_ifn hf cc
          obtain ⟨x9, ex9, hf⟩ := tq_le hf
          refine tq_iinc (M := mX2_countValues) (pc := 44) (v := x9) (L2 := [(4, .int x9), (0, .ref i0), (2, .long i2), (5, .int y5)]) dX2_countValues_44 rfl (by rw [ex9, tk_ki_1]) (by decide) rfl ?_
          refine tq_pick (L2 := [(0, .ref i0), (2, .long i2), (4, .int x9), (5, .int y5)]) [1, 2, 0, 3] rfl ?_
          cases (Option.some.inj hf)
          exact HJ31
set_option maxHeartbeats 4000000 in
set_option maxRecDepth 20000 in
theorem w_X2_countValues {l : Launch} {d : Nat} (hd9 : 2 ≤ d) {t : Nat} {a1 : Int32} {h : tq_H} {o : Int32} {Q : tq_R → tq_H → Prop} (hf : f_X2_countValues t a1 h = some o) (hQ : ∀ r h9, r = .inl (some (.int o)) ∧ h = h9 → Q r h9) : tq_C l yX2_countValues cX2_countValues 6 (some .int) d 0 0 [.ref t, .int a1] h Q := by
  refine tq_body (y := yX2_countValues) false (by decide +kernel) (fun z => by cases z) (Nat.le_of_ble_eq_true rfl) ?_
  show tq_W l mX2_countValues d 0 0 Q 0 [(0, .ref t), (1, .int a1)] [] h
  refine tq_aload_n (M := mX2_countValues) (pc := 0) dX2_countValues_0 rfl ?_
  refine tq_iload_n (M := mX2_countValues) (pc := 1) dX2_countValues_1 rfl ?_
  refine tq_iconst (M := mX2_countValues) (pc := 2) dX2_countValues_2 tk_ki_0 ?_
  obtain ⟨⟨⟩, eu2, hf⟩ := tq_be hf
  obtain ⟨fsu2, eu2⟩ := tq_is_s eu2
  obtain ⟨v1, ev1, hf⟩ := tq_be hf
  refine tq_calV (M := mX2_countValues) (pc := 3) (S := []) tk_y_X2_foundFrom tk_v_X2_foundFrom tk_RX2_181 dX2_countValues_3 [.int a1, .int (0 : Int32)] rfl (S0 := _) rfl eu2 rfl (Nat.le_of_ble_eq_true rfl) (d1 := d - 1) (b1 := 0) (s1 := 0) (bc' := 0) (bs' := 0) (Q1 := fun r h9 => r = .inl (some (.long v1)) ∧ h = h9) (by omega) rfl rfl (w_X2_foundFrom (by omega) ev1 (fun _ _ q => q)) (fun E h9 q => nomatch (show (Sum.inr E : tq_R) = Sum.inl _ from q.1)) (fun r9 h9 q => ?_)
  obtain ⟨q1, rfl⟩ := q
  cases (show (Sum.inl r9 : tq_R) = Sum.inl (some (.long v1)) from q1)
  refine tq_lstore_n (M := mX2_countValues) (pc := 6) rfl dX2_countValues_6 (L2 := [(2, .long v1), (0, .ref t), (1, .int a1)]) (by decide) rfl ?_
  refine tq_iconst (M := mX2_countValues) (pc := 7) dX2_countValues_7 tk_ki_0 ?_
  refine tq_istore (M := mX2_countValues) (pc := 8) dX2_countValues_8 (L2 := [(4, .int (0 : Int32)), (2, .long v1), (0, .ref t), (1, .int a1)]) (by decide) rfl ?_
  refine tq_iconst (M := mX2_countValues) (pc := 10) dX2_countValues_10 tk_ki_0 ?_
  refine tq_istore (M := mX2_countValues) (pc := 11) dX2_countValues_11 (L2 := [(5, .int (0 : Int32)), (4, .int (0 : Int32)), (2, .long v1), (0, .ref t), (1, .int a1)]) (by decide) rfl ?_
  obtain ⟨o12, eo12, hf⟩ := tq_be hf
  refine tq_pick (L2 := [(0, .ref t), (2, .long v1), (4, .int (0 : Int32)), (5, .int (0 : Int32))]) [3, 2, 1, 0] rfl ?_
  refine l_X2_countValues_13 (bc := 0) (bs := 0) (by omega) t v1 h _ (0 : Int32) (0 : Int32) _ eo12 ?_
  refine tq_iload (M := mX2_countValues) (pc := 53) dX2_countValues_53 rfl ?_
  refine tq_iret (M := mX2_countValues) (pc := 55) dX2_countValues_55 rfl ?_
  cases (Option.some.inj hf)
  exact hQ _ _ ⟨rfl, rfl⟩
abbrev mX6_init : tq_M := (RX6, cX6_init, 1, none, true, [], none)
def f_X6_init (t : Nat) (h : tq_H) : Option (tq_H) :=
  tq_let (tq_new h (.inl (5, [.null]))) fun w1 =>
  (f_X5_init h.1 (6 : Int32) (-1 : Int32) w1).bind fun v2 =>
  (tq_pf v2 t 6 0 (.ref h.1)).bind fun w3 =>
  tq_let (tq_new w3 (.inl (5, [.null]))) fun w4 =>
  (f_X5_init w3.1 (6 : Int32) (1 : Int32) w4).bind fun v5 =>
  (tq_pf v5 t 6 1 (.ref w3.1)).bind fun w6 =>
  tq_let (tq_new w6 (.inl (5, [.null]))) fun w7 =>
  (f_X5_init w6.1 (48 : Int32) (0 : Int32) w7).bind fun v8 =>
  (tq_pf v8 t 6 2 (.ref w6.1)).bind fun w9 =>
  tq_let (tq_new w9 (.inl (5, [.null]))) fun w10 =>
  (f_X5_init w9.1 (144 : Int32) (0 : Int32) w10).bind fun v11 =>
  (tq_pf v11 t 6 3 (.ref w9.1)).bind fun w12 =>
  tq_let (tq_new w12 (.inl (5, [.null]))) fun w13 =>
  (f_X5_init w12.1 (60 : Int32) (0 : Int32) w13).bind fun v14 =>
  (tq_pf v14 t 6 4 (.ref w12.1)).bind fun w15 =>
  tq_let (tq_new w15 (.inl (5, [.null]))) fun w16 =>
  (f_X5_init w15.1 (8 : Int32) (0 : Int32) w16).bind fun v17 =>
  (tq_pf v17 t 6 5 (.ref w15.1)).bind fun w18 =>
  tq_let (tq_new w18 (.inl (5, [.null]))) fun w19 =>
  (f_X5_init w18.1 (8 : Int32) (0 : Int32) w19).bind fun v20 =>
  (tq_pf v20 t 6 6 (.ref w18.1)).bind fun w21 =>
  tq_let (tq_new w21 (.inl (5, [.null]))) fun w22 =>
  (f_X5_init w21.1 (160 : Int32) (0 : Int32) w22).bind fun v23 =>
  (tq_pf v23 t 6 7 (.ref w21.1)).bind fun w24 =>
  (tq_pf w24 t 6 8 (.int (0 : Int32))).bind fun w25 =>
  (tq_pf w25 t 6 9 (.int (0 : Int32))).bind fun w26 =>
  (tq_pf w26 t 6 10 (.int (0 : Int32))).bind fun w27 =>
  some w27
set_option maxHeartbeats 4000000 in
set_option maxRecDepth 20000 in
theorem w_X6_init {l : Launch} {d : Nat} (hd9 : 2 ≤ d) {t : Nat} {h : tq_H} {o : tq_H} {Q : tq_R → tq_H → Prop} (hf : f_X6_init t h = some o) (hQ : ∀ r h9, r = .inl none ∧ o = h9 → Q r h9) : tq_C l yX6_init cX6_init 1 none d 16 448 [.ref t] h Q := by
  refine tq_body (y := yX6_init) true (by decide +kernel) (fun _ => rfl) (Nat.le_of_ble_eq_true rfl) ?_
  show tq_W l mX6_init d 16 448 Q 0 [(0, .ref t)] [] h
  refine tq_aload_n (M := mX6_init) (pc := 0) dX6_init_0 rfl ?_
  refine tq_objinit (M := mX6_init) (pc := 1) dX6_init_1 tk_RX6_3 tk_oi tk_oc (by omega) (Nat.le_of_ble_eq_true rfl) ?_
  refine tq_aload_n (M := mX6_init) (pc := 4) dX6_init_4 rfl ?_
  obtain ⟨w1, ew1, hf⟩ := tq_le hf
  refine tq_newo (M := mX6_init) (pc := 5) tk_c5 dX6_init_5 tk_RX6_9 tk_in5 tk_ini5 (fs := [.null]) (fun j hj => by rcases (show j = 0 by omega) with rfl <;> rfl) (fun _ => ⟨rfl, trivial⟩) (bc' := 15) (bs' := 447) (by omega) (by omega) ?_
  rw [← ew1]
  refine tq_dup (M := mX6_init) (pc := 8) dX6_init_8 rfl ?_
  refine tq_bipush (M := mX6_init) (pc := 9) dX6_init_9 tk_kb_6 ?_
  refine tq_iconst (M := mX6_init) (pc := 11) dX6_init_11 tk_ki_m1 ?_
  obtain ⟨v2, ev2, hf⟩ := tq_be hf
  refine tq_calI (M := mX6_init) (pc := 12) (S := [.ref h.1, .ref t]) tk_y_X5_init tk_v_X5_init rfl (Or.inl tk_RX6_11) dX6_init_12 [.int (6 : Int32), .int (-1 : Int32)] rfl (Nat.le_of_ble_eq_true rfl) (d1 := d - 1) (b1 := 1) (s1 := 6) (bc' := 14) (bs' := 441) (Q1 := fun r h9 => r = .inl none ∧ v2 = h9) (by omega) rfl rfl (w_X5_init (by omega) (N := 6) (by decide +kernel) (by decide +kernel) (by decide) ev2 (fun _ _ q => q)) (fun E h9 q => nomatch (show (Sum.inr E : tq_R) = Sum.inl _ from q.1)) (fun r9 h9 q => ?_)
  obtain ⟨q1, rfl⟩ := q
  cases (show (Sum.inl r9 : tq_R) = Sum.inl (none) from q1)
  obtain ⟨w3, ew3, hf⟩ := tq_be hf
  refine tq_putv (M := mX6_init) (pc := 15) tk_c6 (by decide) dX6_init_15 tk_RX6_14 rfl (Or.inr ⟨rfl, rfl⟩) ew3 (tq_nR _ _) ?_
  refine tq_aload_n (M := mX6_init) (pc := 18) dX6_init_18 rfl ?_
  obtain ⟨w4, ew4, hf⟩ := tq_le hf
  refine tq_newo (M := mX6_init) (pc := 19) tk_c5 dX6_init_19 tk_RX6_9 tk_in5 tk_ini5 (fs := [.null]) (fun j hj => by rcases (show j = 0 by omega) with rfl <;> rfl) (fun _ => ⟨rfl, trivial⟩) (bc' := 13) (bs' := 440) (by omega) (by omega) ?_
  rw [← ew4]
  refine tq_dup (M := mX6_init) (pc := 22) dX6_init_22 rfl ?_
  refine tq_bipush (M := mX6_init) (pc := 23) dX6_init_23 tk_kb_6 ?_
  refine tq_iconst (M := mX6_init) (pc := 25) dX6_init_25 tk_ki_1 ?_
  obtain ⟨v5, ev5, hf⟩ := tq_be hf
  refine tq_calI (M := mX6_init) (pc := 26) (S := [.ref w3.1, .ref t]) tk_y_X5_init tk_v_X5_init rfl (Or.inl tk_RX6_11) dX6_init_26 [.int (6 : Int32), .int (1 : Int32)] rfl (Nat.le_of_ble_eq_true rfl) (d1 := d - 1) (b1 := 1) (s1 := 6) (bc' := 12) (bs' := 434) (Q1 := fun r h9 => r = .inl none ∧ v5 = h9) (by omega) rfl rfl (w_X5_init (by omega) (N := 6) (by decide +kernel) (by decide +kernel) (by decide) ev5 (fun _ _ q => q)) (fun E h9 q => nomatch (show (Sum.inr E : tq_R) = Sum.inl _ from q.1)) (fun r9 h9 q => ?_)
  obtain ⟨q1, rfl⟩ := q
  cases (show (Sum.inl r9 : tq_R) = Sum.inl (none) from q1)
  obtain ⟨w6, ew6, hf⟩ := tq_be hf
  refine tq_putv (M := mX6_init) (pc := 29) tk_c6 (by decide) dX6_init_29 tk_RX6_20 rfl (Or.inr ⟨rfl, rfl⟩) ew6 (tq_nR _ _) ?_
  refine tq_aload_n (M := mX6_init) (pc := 32) dX6_init_32 rfl ?_
  obtain ⟨w7, ew7, hf⟩ := tq_le hf
  refine tq_newo (M := mX6_init) (pc := 33) tk_c5 dX6_init_33 tk_RX6_9 tk_in5 tk_ini5 (fs := [.null]) (fun j hj => by rcases (show j = 0 by omega) with rfl <;> rfl) (fun _ => ⟨rfl, trivial⟩) (bc' := 11) (bs' := 433) (by omega) (by omega) ?_
  rw [← ew7]
  refine tq_dup (M := mX6_init) (pc := 36) dX6_init_36 rfl ?_
  refine tq_bipush (M := mX6_init) (pc := 37) dX6_init_37 tk_kb_48 ?_
  refine tq_iconst (M := mX6_init) (pc := 39) dX6_init_39 tk_ki_0 ?_
  obtain ⟨v8, ev8, hf⟩ := tq_be hf
  refine tq_calI (M := mX6_init) (pc := 40) (S := [.ref w6.1, .ref t]) tk_y_X5_init tk_v_X5_init rfl (Or.inl tk_RX6_11) dX6_init_40 [.int (48 : Int32), .int (0 : Int32)] rfl (Nat.le_of_ble_eq_true rfl) (d1 := d - 1) (b1 := 1) (s1 := 48) (bc' := 10) (bs' := 385) (Q1 := fun r h9 => r = .inl none ∧ v8 = h9) (by omega) rfl rfl (w_X5_init (by omega) (N := 48) (by decide +kernel) (by decide +kernel) (by decide) ev8 (fun _ _ q => q)) (fun E h9 q => nomatch (show (Sum.inr E : tq_R) = Sum.inl _ from q.1)) (fun r9 h9 q => ?_)
  obtain ⟨q1, rfl⟩ := q
  cases (show (Sum.inl r9 : tq_R) = Sum.inl (none) from q1)
  obtain ⟨w9, ew9, hf⟩ := tq_be hf
  refine tq_putv (M := mX6_init) (pc := 43) tk_c6 (by decide) dX6_init_43 tk_RX6_23 rfl (Or.inr ⟨rfl, rfl⟩) ew9 (tq_nR _ _) ?_
  refine tq_aload_n (M := mX6_init) (pc := 46) dX6_init_46 rfl ?_
  obtain ⟨w10, ew10, hf⟩ := tq_le hf
  refine tq_newo (M := mX6_init) (pc := 47) tk_c5 dX6_init_47 tk_RX6_9 tk_in5 tk_ini5 (fs := [.null]) (fun j hj => by rcases (show j = 0 by omega) with rfl <;> rfl) (fun _ => ⟨rfl, trivial⟩) (bc' := 9) (bs' := 384) (by omega) (by omega) ?_
  rw [← ew10]
  refine tq_dup (M := mX6_init) (pc := 50) dX6_init_50 rfl ?_
  refine tq_sipush (M := mX6_init) (pc := 51) dX6_init_51 tk_ks_144 ?_
  refine tq_iconst (M := mX6_init) (pc := 54) dX6_init_54 tk_ki_0 ?_
  obtain ⟨v11, ev11, hf⟩ := tq_be hf
  refine tq_calI (M := mX6_init) (pc := 55) (S := [.ref w9.1, .ref t]) tk_y_X5_init tk_v_X5_init rfl (Or.inl tk_RX6_11) dX6_init_55 [.int (144 : Int32), .int (0 : Int32)] rfl (Nat.le_of_ble_eq_true rfl) (d1 := d - 1) (b1 := 1) (s1 := 144) (bc' := 8) (bs' := 240) (Q1 := fun r h9 => r = .inl none ∧ v11 = h9) (by omega) rfl rfl (w_X5_init (by omega) (N := 144) (by decide +kernel) (by decide +kernel) (by decide) ev11 (fun _ _ q => q)) (fun E h9 q => nomatch (show (Sum.inr E : tq_R) = Sum.inl _ from q.1)) (fun r9 h9 q => ?_)
  obtain ⟨q1, rfl⟩ := q
  cases (show (Sum.inl r9 : tq_R) = Sum.inl (none) from q1)
  obtain ⟨w12, ew12, hf⟩ := tq_be hf
  refine tq_putv (M := mX6_init) (pc := 58) tk_c6 (by decide) dX6_init_58 tk_RX6_26 rfl (Or.inr ⟨rfl, rfl⟩) ew12 (tq_nR _ _) ?_
  refine tq_aload_n (M := mX6_init) (pc := 61) dX6_init_61 rfl ?_
  obtain ⟨w13, ew13, hf⟩ := tq_le hf
  refine tq_newo (M := mX6_init) (pc := 62) tk_c5 dX6_init_62 tk_RX6_9 tk_in5 tk_ini5 (fs := [.null]) (fun j hj => by rcases (show j = 0 by omega) with rfl <;> rfl) (fun _ => ⟨rfl, trivial⟩) (bc' := 7) (bs' := 239) (by omega) (by omega) ?_
  rw [← ew13]
  refine tq_dup (M := mX6_init) (pc := 65) dX6_init_65 rfl ?_
  refine tq_bipush (M := mX6_init) (pc := 66) dX6_init_66 tk_kb_60 ?_
  refine tq_iconst (M := mX6_init) (pc := 68) dX6_init_68 tk_ki_0 ?_
  obtain ⟨v14, ev14, hf⟩ := tq_be hf
  refine tq_calI (M := mX6_init) (pc := 69) (S := [.ref w12.1, .ref t]) tk_y_X5_init tk_v_X5_init rfl (Or.inl tk_RX6_11) dX6_init_69 [.int (60 : Int32), .int (0 : Int32)] rfl (Nat.le_of_ble_eq_true rfl) (d1 := d - 1) (b1 := 1) (s1 := 60) (bc' := 6) (bs' := 179) (Q1 := fun r h9 => r = .inl none ∧ v14 = h9) (by omega) rfl rfl (w_X5_init (by omega) (N := 60) (by decide +kernel) (by decide +kernel) (by decide) ev14 (fun _ _ q => q)) (fun E h9 q => nomatch (show (Sum.inr E : tq_R) = Sum.inl _ from q.1)) (fun r9 h9 q => ?_)
  obtain ⟨q1, rfl⟩ := q
  cases (show (Sum.inl r9 : tq_R) = Sum.inl (none) from q1)
  obtain ⟨w15, ew15, hf⟩ := tq_be hf
  refine tq_putv (M := mX6_init) (pc := 72) tk_c6 (by decide) dX6_init_72 tk_RX6_29 rfl (Or.inr ⟨rfl, rfl⟩) ew15 (tq_nR _ _) ?_
  refine tq_aload_n (M := mX6_init) (pc := 75) dX6_init_75 rfl ?_
  obtain ⟨w16, ew16, hf⟩ := tq_le hf
  refine tq_newo (M := mX6_init) (pc := 76) tk_c5 dX6_init_76 tk_RX6_9 tk_in5 tk_ini5 (fs := [.null]) (fun j hj => by rcases (show j = 0 by omega) with rfl <;> rfl) (fun _ => ⟨rfl, trivial⟩) (bc' := 5) (bs' := 178) (by omega) (by omega) ?_
  rw [← ew16]
  refine tq_dup (M := mX6_init) (pc := 79) dX6_init_79 rfl ?_
  refine tq_bipush (M := mX6_init) (pc := 80) dX6_init_80 tk_kb_8 ?_
  refine tq_iconst (M := mX6_init) (pc := 82) dX6_init_82 tk_ki_0 ?_
  obtain ⟨v17, ev17, hf⟩ := tq_be hf
  refine tq_calI (M := mX6_init) (pc := 83) (S := [.ref w15.1, .ref t]) tk_y_X5_init tk_v_X5_init rfl (Or.inl tk_RX6_11) dX6_init_83 [.int (8 : Int32), .int (0 : Int32)] rfl (Nat.le_of_ble_eq_true rfl) (d1 := d - 1) (b1 := 1) (s1 := 8) (bc' := 4) (bs' := 170) (Q1 := fun r h9 => r = .inl none ∧ v17 = h9) (by omega) rfl rfl (w_X5_init (by omega) (N := 8) (by decide +kernel) (by decide +kernel) (by decide) ev17 (fun _ _ q => q)) (fun E h9 q => nomatch (show (Sum.inr E : tq_R) = Sum.inl _ from q.1)) (fun r9 h9 q => ?_)
  obtain ⟨q1, rfl⟩ := q
  cases (show (Sum.inl r9 : tq_R) = Sum.inl (none) from q1)
  obtain ⟨w18, ew18, hf⟩ := tq_be hf
  refine tq_putv (M := mX6_init) (pc := 86) tk_c6 (by decide) dX6_init_86 tk_RX6_32 rfl (Or.inr ⟨rfl, rfl⟩) ew18 (tq_nR _ _) ?_
  refine tq_aload_n (M := mX6_init) (pc := 89) dX6_init_89 rfl ?_
  obtain ⟨w19, ew19, hf⟩ := tq_le hf
  refine tq_newo (M := mX6_init) (pc := 90) tk_c5 dX6_init_90 tk_RX6_9 tk_in5 tk_ini5 (fs := [.null]) (fun j hj => by rcases (show j = 0 by omega) with rfl <;> rfl) (fun _ => ⟨rfl, trivial⟩) (bc' := 3) (bs' := 169) (by omega) (by omega) ?_
  rw [← ew19]
  refine tq_dup (M := mX6_init) (pc := 93) dX6_init_93 rfl ?_
  refine tq_bipush (M := mX6_init) (pc := 94) dX6_init_94 tk_kb_8 ?_
  refine tq_iconst (M := mX6_init) (pc := 96) dX6_init_96 tk_ki_0 ?_
  obtain ⟨v20, ev20, hf⟩ := tq_be hf
  refine tq_calI (M := mX6_init) (pc := 97) (S := [.ref w18.1, .ref t]) tk_y_X5_init tk_v_X5_init rfl (Or.inl tk_RX6_11) dX6_init_97 [.int (8 : Int32), .int (0 : Int32)] rfl (Nat.le_of_ble_eq_true rfl) (d1 := d - 1) (b1 := 1) (s1 := 8) (bc' := 2) (bs' := 161) (Q1 := fun r h9 => r = .inl none ∧ v20 = h9) (by omega) rfl rfl (w_X5_init (by omega) (N := 8) (by decide +kernel) (by decide +kernel) (by decide) ev20 (fun _ _ q => q)) (fun E h9 q => nomatch (show (Sum.inr E : tq_R) = Sum.inl _ from q.1)) (fun r9 h9 q => ?_)
  obtain ⟨q1, rfl⟩ := q
  cases (show (Sum.inl r9 : tq_R) = Sum.inl (none) from q1)
  obtain ⟨w21, ew21, hf⟩ := tq_be hf
  refine tq_putv (M := mX6_init) (pc := 100) tk_c6 (by decide) dX6_init_100 tk_RX6_35 rfl (Or.inr ⟨rfl, rfl⟩) ew21 (tq_nR _ _) ?_
  refine tq_aload_n (M := mX6_init) (pc := 103) dX6_init_103 rfl ?_
  obtain ⟨w22, ew22, hf⟩ := tq_le hf
  refine tq_newo (M := mX6_init) (pc := 104) tk_c5 dX6_init_104 tk_RX6_9 tk_in5 tk_ini5 (fs := [.null]) (fun j hj => by rcases (show j = 0 by omega) with rfl <;> rfl) (fun _ => ⟨rfl, trivial⟩) (bc' := 1) (bs' := 160) (by omega) (by omega) ?_
  rw [← ew22]
  refine tq_dup (M := mX6_init) (pc := 107) dX6_init_107 rfl ?_
  refine tq_sipush (M := mX6_init) (pc := 108) dX6_init_108 tk_ks_160 ?_
  refine tq_iconst (M := mX6_init) (pc := 111) dX6_init_111 tk_ki_0 ?_
  obtain ⟨v23, ev23, hf⟩ := tq_be hf
  refine tq_calI (M := mX6_init) (pc := 112) (S := [.ref w21.1, .ref t]) tk_y_X5_init tk_v_X5_init rfl (Or.inl tk_RX6_11) dX6_init_112 [.int (160 : Int32), .int (0 : Int32)] rfl (Nat.le_of_ble_eq_true rfl) (d1 := d - 1) (b1 := 1) (s1 := 160) (bc' := 0) (bs' := 0) (Q1 := fun r h9 => r = .inl none ∧ v23 = h9) (by omega) rfl rfl (w_X5_init (by omega) (N := 160) (by decide +kernel) (by decide +kernel) (by decide) ev23 (fun _ _ q => q)) (fun E h9 q => nomatch (show (Sum.inr E : tq_R) = Sum.inl _ from q.1)) (fun r9 h9 q => ?_)
  obtain ⟨q1, rfl⟩ := q
  cases (show (Sum.inl r9 : tq_R) = Sum.inl (none) from q1)
  obtain ⟨w24, ew24, hf⟩ := tq_be hf
  refine tq_putv (M := mX6_init) (pc := 115) tk_c6 (by decide) dX6_init_115 tk_RX6_38 rfl (Or.inr ⟨rfl, rfl⟩) ew24 (tq_nR _ _) ?_
  refine tq_aload_n (M := mX6_init) (pc := 118) dX6_init_118 rfl ?_
  refine tq_iconst (M := mX6_init) (pc := 119) dX6_init_119 tk_ki_0 ?_
  obtain ⟨w25, ew25, hf⟩ := tq_be hf
  refine tq_putv (M := mX6_init) (pc := 120) tk_c6 (by decide) dX6_init_120 tk_RX6_41 rfl (Or.inl rfl) ew25 (tq_nI _) ?_
  refine tq_aload_n (M := mX6_init) (pc := 123) dX6_init_123 rfl ?_
  refine tq_iconst (M := mX6_init) (pc := 124) dX6_init_124 tk_ki_0 ?_
  obtain ⟨w26, ew26, hf⟩ := tq_be hf
  refine tq_putv (M := mX6_init) (pc := 125) tk_c6 (by decide) dX6_init_125 tk_RX6_45 rfl (Or.inl rfl) ew26 (tq_nI _) ?_
  refine tq_aload_n (M := mX6_init) (pc := 128) dX6_init_128 rfl ?_
  refine tq_iconst (M := mX6_init) (pc := 129) dX6_init_129 tk_ki_0 ?_
  obtain ⟨w27, ew27, hf⟩ := tq_be hf
  refine tq_putv (M := mX6_init) (pc := 130) tk_c6 (by decide) dX6_init_130 tk_RX6_48 rfl (Or.inl rfl) ew27 (tq_n01 (Or.inl rfl)) ?_
  refine tq_vret (M := mX6_init) (pc := 133) dX6_init_133 rfl ?_
  cases (Option.some.inj hf)
  exact hQ _ _ ⟨rfl, rfl⟩
abbrev mX6_isStrict : tq_M := (RX6, cX6_isStrict, 1, (some .boolean), false, [], none)
def f_X6_isStrict (t : Nat) (h : tq_H) : Option (Int32) :=
  (tq_gi h t 6 10).bind fun x1 =>
  (tq_bz x1).bind fun z2 =>
  some z2
set_option maxHeartbeats 4000000 in
set_option maxRecDepth 20000 in
theorem w_X6_isStrict {l : Launch} {d : Nat} (hd9 : 0 ≤ d) {t : Nat} {h : tq_H} {o : Int32} {Q : tq_R → tq_H → Prop} (hf : f_X6_isStrict t h = some o) (hQ : ∀ r h9, r = .inl (some (.int o)) ∧ h = h9 → Q r h9) : tq_C l yX6_isStrict cX6_isStrict 1 (some .boolean) d 0 0 [.ref t] h Q := by
  refine tq_body (y := yX6_isStrict) false (by decide +kernel) (fun z => by cases z) (Nat.le_of_ble_eq_true rfl) ?_
  show tq_W l mX6_isStrict d 0 0 Q 0 [(0, .ref t)] [] h
  refine tq_aload_n (M := mX6_isStrict) (pc := 0) dX6_isStrict_0 rfl ?_
  obtain ⟨x1, ex1, hf⟩ := tq_be hf
  refine tq_getI (M := mX6_isStrict) (pc := 1) tk_c6 (by decide) dX6_isStrict_1 tk_RX6_48 rfl ex1 ?_
  obtain ⟨z2, ez2, hf⟩ := tq_be hf
  refine tq_zretB (M := mX6_isStrict) (pc := 4) dX6_isStrict_4 rfl ez2 ?_
  cases (Option.some.inj hf)
  exact hQ _ _ ⟨rfl, rfl⟩
abbrev mX6_markStrict : tq_M := (RX6, cX6_markStrict, 3, (some .boolean), false, [], none)
def f_X6_markStrict (t : Nat) (a1 : Int32) (h : tq_H) : Option (Int32 × tq_H) :=
  (tq_gi h t 6 10).bind fun x1 =>
  (tq_bz a1).bind fun z3 =>
  (tq_pf h t 6 10 (.int z3)).bind fun w2 =>
  (tq_bz x1).bind fun z4 =>
  some (z4, w2)
set_option maxHeartbeats 4000000 in
set_option maxRecDepth 20000 in
theorem w_X6_markStrict {l : Launch} {d : Nat} (hd9 : 0 ≤ d) {t : Nat} {a1 : Int32} {h : tq_H} {o : Int32 × tq_H} {Q : tq_R → tq_H → Prop} (hf : f_X6_markStrict t a1 h = some o) (hQ : ∀ r h9, r = .inl (some (.int o.1)) ∧ o.2 = h9 → Q r h9) : tq_C l yX6_markStrict cX6_markStrict 3 (some .boolean) d 0 0 [.ref t, .int a1] h Q := by
  refine tq_body (y := yX6_markStrict) false (by decide +kernel) (fun z => by cases z) (Nat.le_of_ble_eq_true rfl) ?_
  show tq_W l mX6_markStrict d 0 0 Q 0 [(0, .ref t), (1, .int a1)] [] h
  refine tq_aload_n (M := mX6_markStrict) (pc := 0) dX6_markStrict_0 rfl ?_
  obtain ⟨x1, ex1, hf⟩ := tq_be hf
  refine tq_getI (M := mX6_markStrict) (pc := 1) tk_c6 (by decide) dX6_markStrict_1 tk_RX6_48 rfl ex1 ?_
  refine tq_istore_n (M := mX6_markStrict) (pc := 4) rfl dX6_markStrict_4 (L2 := [(2, .int x1), (0, .ref t), (1, .int a1)]) (by decide) rfl ?_
  refine tq_aload_n (M := mX6_markStrict) (pc := 5) dX6_markStrict_5 rfl ?_
  refine tq_iload_n (M := mX6_markStrict) (pc := 6) dX6_markStrict_6 rfl ?_
  obtain ⟨z3, ez3, hf⟩ := tq_be hf
  obtain ⟨w2, ew2, hf⟩ := tq_be hf
  refine tq_putB (M := mX6_markStrict) (pc := 7) tk_c6 (by decide) rfl dX6_markStrict_7 tk_RX6_48 rfl (Or.inl rfl) ez3 ew2 ?_
  refine tq_iload_n (M := mX6_markStrict) (pc := 10) dX6_markStrict_10 rfl ?_
  obtain ⟨z4, ez4, hf⟩ := tq_be hf
  refine tq_zretB (M := mX6_markStrict) (pc := 11) dX6_markStrict_11 rfl ez4 ?_
  cases (Option.some.inj hf)
  exact hQ _ _ ⟨rfl, rfl⟩
abbrev mX6_giveName : tq_M := (RX6, cX6_giveName, 4, (some .int), false, [], none)
def f_X6_giveName (t : Nat) (a1 : Int32) (a2 : Int32) (h : tq_H) : Option (Int32 × tq_H) :=
  (tq_gr h t 6 0).bind fun k1 =>
  (tq_is h k1 5).bind fun _ =>
  (f_X5_get k1 a1 h).bind fun v2 =>
  (tq_gr h t 6 0).bind fun k4 =>
  (tq_is h k4 5).bind fun _ =>
  (f_X5_set k4 a1 a2 h).bind fun v5 =>
  some (v2, v5)
set_option maxHeartbeats 4000000 in
set_option maxRecDepth 20000 in
theorem w_X6_giveName {l : Launch} {d : Nat} (hd9 : 1 ≤ d) {t : Nat} {a1 : Int32} {a2 : Int32} {h : tq_H} {o : Int32 × tq_H} {Q : tq_R → tq_H → Prop} (hf : f_X6_giveName t a1 a2 h = some o) (hQ : ∀ r h9, r = .inl (some (.int o.1)) ∧ o.2 = h9 → Q r h9) : tq_C l yX6_giveName cX6_giveName 4 (some .int) d 0 0 [.ref t, .int a1, .int a2] h Q := by
  refine tq_body (y := yX6_giveName) false (by decide +kernel) (fun z => by cases z) (Nat.le_of_ble_eq_true rfl) ?_
  show tq_W l mX6_giveName d 0 0 Q 0 [(0, .ref t), (1, .int a1), (2, .int a2)] [] h
  refine tq_aload_n (M := mX6_giveName) (pc := 0) dX6_giveName_0 rfl ?_
  obtain ⟨k1, ek1, hf⟩ := tq_be hf
  refine tq_getR (M := mX6_giveName) (pc := 1) tk_c6 (by decide) dX6_giveName_1 tk_RX6_14 rfl ek1 ?_
  refine tq_iload_n (M := mX6_giveName) (pc := 4) dX6_giveName_4 rfl ?_
  obtain ⟨⟨⟩, eu3, hf⟩ := tq_be hf
  obtain ⟨fsu3, eu3⟩ := tq_is_s eu3
  obtain ⟨v2, ev2, hf⟩ := tq_be hf
  refine tq_calV (M := mX6_giveName) (pc := 5) (S := []) tk_y_X5_get tk_v_X5_get tk_RX6_52 dX6_giveName_5 [.int a1] rfl (S0 := _) rfl eu3 rfl (Nat.le_of_ble_eq_true rfl) (d1 := d - 1) (b1 := 0) (s1 := 0) (bc' := 0) (bs' := 0) (Q1 := fun r h9 => r = .inl (some (.int v2)) ∧ h = h9) (by omega) rfl rfl (w_X5_get (by omega) ev2 (fun _ _ q => q)) (fun E h9 q => nomatch (show (Sum.inr E : tq_R) = Sum.inl _ from q.1)) (fun r9 h9 q => ?_)
  obtain ⟨q1, rfl⟩ := q
  cases (show (Sum.inl r9 : tq_R) = Sum.inl (some (.int v2)) from q1)
  refine tq_istore_n (M := mX6_giveName) (pc := 8) rfl dX6_giveName_8 (L2 := [(3, .int v2), (0, .ref t), (1, .int a1), (2, .int a2)]) (by decide) rfl ?_
  refine tq_aload_n (M := mX6_giveName) (pc := 9) dX6_giveName_9 rfl ?_
  obtain ⟨k4, ek4, hf⟩ := tq_be hf
  refine tq_getR (M := mX6_giveName) (pc := 10) tk_c6 (by decide) dX6_giveName_10 tk_RX6_14 rfl ek4 ?_
  refine tq_iload_n (M := mX6_giveName) (pc := 13) dX6_giveName_13 rfl ?_
  refine tq_iload_n (M := mX6_giveName) (pc := 14) dX6_giveName_14 rfl ?_
  obtain ⟨⟨⟩, eu6, hf⟩ := tq_be hf
  obtain ⟨fsu6, eu6⟩ := tq_is_s eu6
  obtain ⟨v5, ev5, hf⟩ := tq_be hf
  refine tq_calV (M := mX6_giveName) (pc := 15) (S := []) tk_y_X5_set tk_v_X5_set tk_RX6_56 dX6_giveName_15 [.int a1, .int a2] rfl (S0 := _) rfl eu6 rfl (Nat.le_of_ble_eq_true rfl) (d1 := d - 1) (b1 := 0) (s1 := 0) (bc' := 0) (bs' := 0) (Q1 := fun r h9 => r = .inl none ∧ v5 = h9) (by omega) rfl rfl (w_X5_set (by omega) ev5 (fun _ _ q => q)) (fun E h9 q => nomatch (show (Sum.inr E : tq_R) = Sum.inl _ from q.1)) (fun r9 h9 q => ?_)
  obtain ⟨q1, rfl⟩ := q
  cases (show (Sum.inl r9 : tq_R) = Sum.inl (none) from q1)
  refine tq_iload_n (M := mX6_giveName) (pc := 18) dX6_giveName_18 rfl ?_
  refine tq_iret (M := mX6_giveName) (pc := 19) dX6_giveName_19 rfl ?_
  cases (Option.some.inj hf)
  exact hQ _ _ ⟨rfl, rfl⟩
abbrev mX6_arcAt : tq_M := (RX6, cX6_arcAt, 3, (some .int), false, [], none)
def f_X6_arcAt (a0 : Int32) (a1 : Int32) (a2 : Int32) (h : tq_H) : Option (Int32) :=
  some ((((a0 * (4 : Int32)) + a1) * (6 : Int32)) + a2)
set_option maxHeartbeats 4000000 in
set_option maxRecDepth 20000 in
theorem w_X6_arcAt {l : Launch} {d : Nat} (hd9 : 0 ≤ d) {a0 : Int32} {a1 : Int32} {a2 : Int32} {h : tq_H} {o : Int32} {Q : tq_R → tq_H → Prop} (hf : f_X6_arcAt a0 a1 a2 h = some o) (hQ : ∀ r h9, r = .inl (some (.int o)) ∧ h = h9 → Q r h9) : tq_C l yX6_arcAt cX6_arcAt 3 (some .int) d 0 0 [.int a0, .int a1, .int a2] h Q := by
  refine tq_body (y := yX6_arcAt) false (by decide +kernel) (fun z => by cases z) (Nat.le_of_ble_eq_true rfl) ?_
  show tq_W l mX6_arcAt d 0 0 Q 0 [(0, .int a0), (1, .int a1), (2, .int a2)] [] h
  refine tq_iload_n (M := mX6_arcAt) (pc := 0) dX6_arcAt_0 rfl ?_
  refine tq_iconst (M := mX6_arcAt) (pc := 1) dX6_arcAt_1 tk_ki_4 ?_
  refine tq_imul (M := mX6_arcAt) (pc := 2) dX6_arcAt_2 ?_
  refine tq_iload_n (M := mX6_arcAt) (pc := 3) dX6_arcAt_3 rfl ?_
  refine tq_iadd (M := mX6_arcAt) (pc := 4) dX6_arcAt_4 ?_
  refine tq_bipush (M := mX6_arcAt) (pc := 5) dX6_arcAt_5 tk_kb_6 ?_
  refine tq_imul (M := mX6_arcAt) (pc := 7) dX6_arcAt_7 ?_
  refine tq_iload_n (M := mX6_arcAt) (pc := 8) dX6_arcAt_8 rfl ?_
  refine tq_iadd (M := mX6_arcAt) (pc := 9) dX6_arcAt_9 ?_
  refine tq_iret (M := mX6_arcAt) (pc := 10) dX6_arcAt_10 rfl ?_
  cases (Option.some.inj hf)
  exact hQ _ _ ⟨rfl, rfl⟩
abbrev mX6_toggleArc : tq_M := (RX6, cX6_toggleArc, 6, (some .boolean), false, [], none)
def f_X6_toggleArc (t : Nat) (a1 : Int32) (a2 : Int32) (a3 : Int32) (a4 : Int32) (h : tq_H) : Option (Int32 × tq_H) :=
  (f_X6_arcAt a1 a2 a3 h).bind fun v1 =>
  (tq_gr h t 6 3).bind fun k2 =>
  (tq_gr h t 6 3).bind fun k3 =>
  (tq_is h k3 5).bind fun _ =>
  (f_X5_get k3 v1 h).bind fun v4 =>
  (tq_is h k2 5).bind fun _ =>
  (f_X5_set k2 v1 (v4 ^^^ ((1 : Int32) <<< (a4 &&& 31))) h).bind fun v6 =>
  (tq_gr v6 t 6 3).bind fun k8 =>
  (tq_is v6 k8 5).bind fun _ =>
  (f_X5_get k8 v1 v6).bind fun v9 =>
  tq_let (if ((v9 >>> (a4 &&& 31)) &&& (1 : Int32)) = 0 then (0 : Int32) else (1 : Int32)) fun p11 =>
  (tq_bz p11).bind fun z12 =>
  some (z12, v6)
set_option maxHeartbeats 4000000 in
set_option maxRecDepth 20000 in
theorem w_X6_toggleArc {l : Launch} {d : Nat} (hd9 : 1 ≤ d) {t : Nat} {a1 : Int32} {a2 : Int32} {a3 : Int32} {a4 : Int32} {h : tq_H} {o : Int32 × tq_H} {Q : tq_R → tq_H → Prop} (hf : f_X6_toggleArc t a1 a2 a3 a4 h = some o) (hQ : ∀ r h9, r = .inl (some (.int o.1)) ∧ o.2 = h9 → Q r h9) : tq_C l yX6_toggleArc cX6_toggleArc 6 (some .boolean) d 0 0 [.ref t, .int a1, .int a2, .int a3, .int a4] h Q := by
  refine tq_body (y := yX6_toggleArc) false (by decide +kernel) (fun z => by cases z) (Nat.le_of_ble_eq_true rfl) ?_
  show tq_W l mX6_toggleArc d 0 0 Q 0 [(0, .ref t), (1, .int a1), (2, .int a2), (3, .int a3), (4, .int a4)] [] h
  refine tq_iload_n (M := mX6_toggleArc) (pc := 0) dX6_toggleArc_0 rfl ?_
  refine tq_iload_n (M := mX6_toggleArc) (pc := 1) dX6_toggleArc_1 rfl ?_
  refine tq_iload_n (M := mX6_toggleArc) (pc := 2) dX6_toggleArc_2 rfl ?_
  obtain ⟨v1, ev1, hf⟩ := tq_be hf
  refine tq_calS (M := mX6_toggleArc) (pc := 3) (S := []) tk_y_X6_arcAt tk_s_X6_arcAt tk_RX6_59 dX6_toggleArc_3 [.int a1, .int a2, .int a3] rfl (Nat.le_of_ble_eq_true rfl) (d1 := d - 1) (b1 := 0) (s1 := 0) (bc' := 0) (bs' := 0) (Q1 := fun r h9 => r = .inl (some (.int v1)) ∧ h = h9) (by omega) rfl rfl (w_X6_arcAt (by omega) ev1 (fun _ _ q => q)) (fun E h9 q => nomatch (show (Sum.inr E : tq_R) = Sum.inl _ from q.1)) (fun r9 h9 q => ?_)
  obtain ⟨q1, rfl⟩ := q
  cases (show (Sum.inl r9 : tq_R) = Sum.inl (some (.int v1)) from q1)
  refine tq_istore (M := mX6_toggleArc) (pc := 6) dX6_toggleArc_6 (L2 := [(5, .int v1), (0, .ref t), (1, .int a1), (2, .int a2), (3, .int a3), (4, .int a4)]) (by decide) rfl ?_
  refine tq_aload_n (M := mX6_toggleArc) (pc := 8) dX6_toggleArc_8 rfl ?_
  obtain ⟨k2, ek2, hf⟩ := tq_be hf
  refine tq_getR (M := mX6_toggleArc) (pc := 9) tk_c6 (by decide) dX6_toggleArc_9 tk_RX6_26 rfl ek2 ?_
  refine tq_iload (M := mX6_toggleArc) (pc := 12) dX6_toggleArc_12 rfl ?_
  refine tq_aload_n (M := mX6_toggleArc) (pc := 14) dX6_toggleArc_14 rfl ?_
  obtain ⟨k3, ek3, hf⟩ := tq_be hf
  refine tq_getR (M := mX6_toggleArc) (pc := 15) tk_c6 (by decide) dX6_toggleArc_15 tk_RX6_26 rfl ek3 ?_
  refine tq_iload (M := mX6_toggleArc) (pc := 18) dX6_toggleArc_18 rfl ?_
  obtain ⟨⟨⟩, eu5, hf⟩ := tq_be hf
  obtain ⟨fsu5, eu5⟩ := tq_is_s eu5
  obtain ⟨v4, ev4, hf⟩ := tq_be hf
  refine tq_calV (M := mX6_toggleArc) (pc := 20) (S := [.int v1, .ref k2]) tk_y_X5_get tk_v_X5_get tk_RX6_52 dX6_toggleArc_20 [.int v1] rfl (S0 := _) rfl eu5 rfl (Nat.le_of_ble_eq_true rfl) (d1 := d - 1) (b1 := 0) (s1 := 0) (bc' := 0) (bs' := 0) (Q1 := fun r h9 => r = .inl (some (.int v4)) ∧ h = h9) (by omega) rfl rfl (w_X5_get (by omega) ev4 (fun _ _ q => q)) (fun E h9 q => nomatch (show (Sum.inr E : tq_R) = Sum.inl _ from q.1)) (fun r9 h9 q => ?_)
  obtain ⟨q1, rfl⟩ := q
  cases (show (Sum.inl r9 : tq_R) = Sum.inl (some (.int v4)) from q1)
  refine tq_iconst (M := mX6_toggleArc) (pc := 23) dX6_toggleArc_23 tk_ki_1 ?_
  refine tq_iload (M := mX6_toggleArc) (pc := 24) dX6_toggleArc_24 rfl ?_
  refine tq_ishl (M := mX6_toggleArc) (pc := 26) dX6_toggleArc_26 ?_
  refine tq_ixor (M := mX6_toggleArc) (pc := 27) dX6_toggleArc_27 ?_
  obtain ⟨⟨⟩, eu7, hf⟩ := tq_be hf
  obtain ⟨fsu7, eu7⟩ := tq_is_s eu7
  obtain ⟨v6, ev6, hf⟩ := tq_be hf
  refine tq_calV (M := mX6_toggleArc) (pc := 28) (S := []) tk_y_X5_set tk_v_X5_set tk_RX6_56 dX6_toggleArc_28 [.int v1, .int ((v4 ^^^ ((1 : Int32) <<< (a4 &&& 31))))] rfl (S0 := _) rfl eu7 rfl (Nat.le_of_ble_eq_true rfl) (d1 := d - 1) (b1 := 0) (s1 := 0) (bc' := 0) (bs' := 0) (Q1 := fun r h9 => r = .inl none ∧ v6 = h9) (by omega) rfl rfl (w_X5_set (by omega) ev6 (fun _ _ q => q)) (fun E h9 q => nomatch (show (Sum.inr E : tq_R) = Sum.inl _ from q.1)) (fun r9 h9 q => ?_)
  obtain ⟨q1, rfl⟩ := q
  cases (show (Sum.inl r9 : tq_R) = Sum.inl (none) from q1)
  refine tq_aload_n (M := mX6_toggleArc) (pc := 31) dX6_toggleArc_31 rfl ?_
  obtain ⟨k8, ek8, hf⟩ := tq_be hf
  refine tq_getR (M := mX6_toggleArc) (pc := 32) tk_c6 (by decide) dX6_toggleArc_32 tk_RX6_26 rfl ek8 ?_
  refine tq_iload (M := mX6_toggleArc) (pc := 35) dX6_toggleArc_35 rfl ?_
  obtain ⟨⟨⟩, eu10, hf⟩ := tq_be hf
  obtain ⟨fsu10, eu10⟩ := tq_is_s eu10
  obtain ⟨v9, ev9, hf⟩ := tq_be hf
  refine tq_calV (M := mX6_toggleArc) (pc := 37) (S := []) tk_y_X5_get tk_v_X5_get tk_RX6_52 dX6_toggleArc_37 [.int v1] rfl (S0 := _) rfl eu10 rfl (Nat.le_of_ble_eq_true rfl) (d1 := d - 1) (b1 := 0) (s1 := 0) (bc' := 0) (bs' := 0) (Q1 := fun r h9 => r = .inl (some (.int v9)) ∧ v6 = h9) (by omega) rfl rfl (w_X5_get (by omega) ev9 (fun _ _ q => q)) (fun E h9 q => nomatch (show (Sum.inr E : tq_R) = Sum.inl _ from q.1)) (fun r9 h9 q => ?_)
  obtain ⟨q1, rfl⟩ := q
  cases (show (Sum.inl r9 : tq_R) = Sum.inl (some (.int v9)) from q1)
  refine tq_iload (M := mX6_toggleArc) (pc := 40) dX6_toggleArc_40 rfl ?_
  refine tq_ishr (M := mX6_toggleArc) (pc := 42) dX6_toggleArc_42 ?_
  refine tq_iconst (M := mX6_toggleArc) (pc := 43) dX6_toggleArc_43 tk_ki_1 ?_
  refine tq_iand (M := mX6_toggleArc) (pc := 44) dX6_toggleArc_44 ?_
  obtain ⟨p11, ep11, hf⟩ := tq_le hf
  have HJ45 : tq_W l mX6_toggleArc d 0 0 Q 53 [] [.int p11] v6 := by
    obtain ⟨z12, ez12, hf⟩ := tq_be hf
    refine tq_zretB (M := mX6_toggleArc) (pc := 53) dX6_toggleArc_53 rfl ez12 ?_
    cases (Option.some.inj hf)
    exact hQ _ _ ⟨rfl, rfl⟩
  refine tq_if_eq (M := mX6_toggleArc) (pc := 45) (tgt := 52) dX6_toggleArc_45 (by decide) (fun cc => ?_) (fun cc => ?_)
  · have hf := tq_ifp ep11.symm cc
    refine tq_iconst (M := mX6_toggleArc) (pc := 52) dX6_toggleArc_52 tk_ki_0 ?_
    refine tq_pick (L2 := []) [] rfl ?_
    cases hf
    exact HJ45
  · have hf := tq_ifn ep11.symm cc
    refine tq_iconst (M := mX6_toggleArc) (pc := 48) dX6_toggleArc_48 tk_ki_1 ?_
    refine tq_goto (M := mX6_toggleArc) (pc := 49) (tgt := 53) dX6_toggleArc_49 (by decide) ?_
    refine tq_pick (L2 := []) [] rfl ?_
    cases hf
    exact HJ45
abbrev mX6_markFinal : tq_M := (RX6, cX6_markFinal, 5, (some .boolean), false, [], none)
def f_X6_markFinal (t : Nat) (a1 : Int32) (a2 : Int32) (a3 : Int32) (h : tq_H) : Option (Int32 × tq_H) :=
  (tq_gr h t 6 1).bind fun k1 =>
  (tq_is h k1 5).bind fun _ =>
  (f_X5_get k1 a1 h).bind fun v2 =>
  (tq_gr h t 6 1).bind fun k4 =>
  tq_let (if a3 = 0 then (v2 &&& (((1 : Int32) <<< (a2 &&& 31)) ^^^ (-1 : Int32))) else (v2 ||| ((1 : Int32) <<< (a2 &&& 31)))) fun p5 =>
  (tq_is h k4 5).bind fun _ =>
  (f_X5_set k4 a1 p5 h).bind fun v6 =>
  tq_let (if ((v2 >>> (a2 &&& 31)) &&& (1 : Int32)) = 0 then (0 : Int32) else (1 : Int32)) fun p8 =>
  (tq_bz p8).bind fun z9 =>
  some (z9, v6)
set_option maxHeartbeats 4000000 in
set_option maxRecDepth 20000 in
theorem w_X6_markFinal {l : Launch} {d : Nat} (hd9 : 1 ≤ d) {t : Nat} {a1 : Int32} {a2 : Int32} {a3 : Int32} {h : tq_H} {o : Int32 × tq_H} {Q : tq_R → tq_H → Prop} (hf : f_X6_markFinal t a1 a2 a3 h = some o) (hQ : ∀ r h9, r = .inl (some (.int o.1)) ∧ o.2 = h9 → Q r h9) : tq_C l yX6_markFinal cX6_markFinal 5 (some .boolean) d 0 0 [.ref t, .int a1, .int a2, .int a3] h Q := by
  refine tq_body (y := yX6_markFinal) false (by decide +kernel) (fun z => by cases z) (Nat.le_of_ble_eq_true rfl) ?_
  show tq_W l mX6_markFinal d 0 0 Q 0 [(0, .ref t), (1, .int a1), (2, .int a2), (3, .int a3)] [] h
  refine tq_aload_n (M := mX6_markFinal) (pc := 0) dX6_markFinal_0 rfl ?_
  obtain ⟨k1, ek1, hf⟩ := tq_be hf
  refine tq_getR (M := mX6_markFinal) (pc := 1) tk_c6 (by decide) dX6_markFinal_1 tk_RX6_20 rfl ek1 ?_
  refine tq_iload_n (M := mX6_markFinal) (pc := 4) dX6_markFinal_4 rfl ?_
  obtain ⟨⟨⟩, eu3, hf⟩ := tq_be hf
  obtain ⟨fsu3, eu3⟩ := tq_is_s eu3
  obtain ⟨v2, ev2, hf⟩ := tq_be hf
  refine tq_calV (M := mX6_markFinal) (pc := 5) (S := []) tk_y_X5_get tk_v_X5_get tk_RX6_52 dX6_markFinal_5 [.int a1] rfl (S0 := _) rfl eu3 rfl (Nat.le_of_ble_eq_true rfl) (d1 := d - 1) (b1 := 0) (s1 := 0) (bc' := 0) (bs' := 0) (Q1 := fun r h9 => r = .inl (some (.int v2)) ∧ h = h9) (by omega) rfl rfl (w_X5_get (by omega) ev2 (fun _ _ q => q)) (fun E h9 q => nomatch (show (Sum.inr E : tq_R) = Sum.inl _ from q.1)) (fun r9 h9 q => ?_)
  obtain ⟨q1, rfl⟩ := q
  cases (show (Sum.inl r9 : tq_R) = Sum.inl (some (.int v2)) from q1)
  refine tq_istore (M := mX6_markFinal) (pc := 8) dX6_markFinal_8 (L2 := [(4, .int v2), (0, .ref t), (1, .int a1), (2, .int a2), (3, .int a3)]) (by decide) rfl ?_
  refine tq_aload_n (M := mX6_markFinal) (pc := 10) dX6_markFinal_10 rfl ?_
  obtain ⟨k4, ek4, hf⟩ := tq_be hf
  refine tq_getR (M := mX6_markFinal) (pc := 11) tk_c6 (by decide) dX6_markFinal_11 tk_RX6_20 rfl ek4 ?_
  refine tq_iload_n (M := mX6_markFinal) (pc := 14) dX6_markFinal_14 rfl ?_
  refine tq_iload_n (M := mX6_markFinal) (pc := 15) dX6_markFinal_15 rfl ?_
  obtain ⟨p5, ep5, hf⟩ := tq_le hf
  have HJ16 : tq_W l mX6_markFinal d 0 0 Q 36 [(2, .int a2), (4, .int v2)] [.int p5, .int a1, .ref k4] h := by
    obtain ⟨⟨⟩, eu7, hf⟩ := tq_be hf
    obtain ⟨fsu7, eu7⟩ := tq_is_s eu7
    obtain ⟨v6, ev6, hf⟩ := tq_be hf
    refine tq_calV (M := mX6_markFinal) (pc := 36) (S := []) tk_y_X5_set tk_v_X5_set tk_RX6_56 dX6_markFinal_36 [.int a1, .int p5] rfl (S0 := _) rfl eu7 rfl (Nat.le_of_ble_eq_true rfl) (d1 := d - 1) (b1 := 0) (s1 := 0) (bc' := 0) (bs' := 0) (Q1 := fun r h9 => r = .inl none ∧ v6 = h9) (by omega) rfl rfl (w_X5_set (by omega) ev6 (fun _ _ q => q)) (fun E h9 q => nomatch (show (Sum.inr E : tq_R) = Sum.inl _ from q.1)) (fun r9 h9 q => ?_)
    obtain ⟨q1, rfl⟩ := q
    cases (show (Sum.inl r9 : tq_R) = Sum.inl (none) from q1)
    refine tq_iload (M := mX6_markFinal) (pc := 39) dX6_markFinal_39 rfl ?_
    refine tq_iload_n (M := mX6_markFinal) (pc := 41) dX6_markFinal_41 rfl ?_
    refine tq_ishr (M := mX6_markFinal) (pc := 42) dX6_markFinal_42 ?_
    refine tq_iconst (M := mX6_markFinal) (pc := 43) dX6_markFinal_43 tk_ki_1 ?_
    refine tq_iand (M := mX6_markFinal) (pc := 44) dX6_markFinal_44 ?_
    obtain ⟨p8, ep8, hf⟩ := tq_le hf
    have HJ45 : tq_W l mX6_markFinal d 0 0 Q 53 [] [.int p8] v6 := by
      obtain ⟨z9, ez9, hf⟩ := tq_be hf
      refine tq_zretB (M := mX6_markFinal) (pc := 53) dX6_markFinal_53 rfl ez9 ?_
      cases (Option.some.inj hf)
      exact hQ _ _ ⟨rfl, rfl⟩
    refine tq_if_eq (M := mX6_markFinal) (pc := 45) (tgt := 52) dX6_markFinal_45 (by decide) (fun cc => ?_) (fun cc => ?_)
    · have hf := tq_ifp ep8.symm cc
      refine tq_iconst (M := mX6_markFinal) (pc := 52) dX6_markFinal_52 tk_ki_0 ?_
      refine tq_pick (L2 := []) [] rfl ?_
      cases hf
      exact HJ45
    · have hf := tq_ifn ep8.symm cc
      refine tq_iconst (M := mX6_markFinal) (pc := 48) dX6_markFinal_48 tk_ki_1 ?_
      refine tq_goto (M := mX6_markFinal) (pc := 49) (tgt := 53) dX6_markFinal_49 (by decide) ?_
      refine tq_pick (L2 := []) [] rfl ?_
      cases hf
      exact HJ45
  refine tq_if_eq (M := mX6_markFinal) (pc := 16) (tgt := 28) dX6_markFinal_16 (by decide) (fun cc => ?_) (fun cc => ?_)
  · have hf := tq_ifp ep5.symm cc
    refine tq_iload (M := mX6_markFinal) (pc := 28) dX6_markFinal_28 rfl ?_
    refine tq_iconst (M := mX6_markFinal) (pc := 30) dX6_markFinal_30 tk_ki_1 ?_
    refine tq_iload_n (M := mX6_markFinal) (pc := 31) dX6_markFinal_31 rfl ?_
    refine tq_ishl (M := mX6_markFinal) (pc := 32) dX6_markFinal_32 ?_
    refine tq_iconst (M := mX6_markFinal) (pc := 33) dX6_markFinal_33 tk_ki_m1 ?_
    refine tq_ixor (M := mX6_markFinal) (pc := 34) dX6_markFinal_34 ?_
    refine tq_iand (M := mX6_markFinal) (pc := 35) dX6_markFinal_35 ?_
    refine tq_pick (L2 := [(2, .int a2), (4, .int v2)]) [3, 0] rfl ?_
    cases hf
    exact HJ16
  · have hf := tq_ifn ep5.symm cc
    refine tq_iload (M := mX6_markFinal) (pc := 19) dX6_markFinal_19 rfl ?_
    refine tq_iconst (M := mX6_markFinal) (pc := 21) dX6_markFinal_21 tk_ki_1 ?_
    refine tq_iload_n (M := mX6_markFinal) (pc := 22) dX6_markFinal_22 rfl ?_
    refine tq_ishl (M := mX6_markFinal) (pc := 23) dX6_markFinal_23 ?_
    refine tq_ior (M := mX6_markFinal) (pc := 24) dX6_markFinal_24 ?_
    refine tq_goto (M := mX6_markFinal) (pc := 25) (tgt := 36) dX6_markFinal_25 (by decide) ?_
    refine tq_pick (L2 := [(2, .int a2), (4, .int v2)]) [3, 0] rfl ?_
    cases hf
    exact HJ16
abbrev mX6_markTexts : tq_M := (RX6, cX6_markTexts, 4, (some .boolean), false, [], none)
def f_X6_markTexts (t : Nat) (a1 : Int32) (a2 : Int32) (h : tq_H) : Option (Int32 × tq_H) :=
  (tq_gi h t 6 8).bind fun x1 =>
  tq_let (if a2 = 0 then (x1 &&& (((1 : Int32) <<< (a1 &&& 31)) ^^^ (-1 : Int32))) else (x1 ||| ((1 : Int32) <<< (a1 &&& 31)))) fun p2 =>
  (tq_pf h t 6 8 (.int p2)).bind fun w3 =>
  tq_let (if ((x1 >>> (a1 &&& 31)) &&& (1 : Int32)) = 0 then (0 : Int32) else (1 : Int32)) fun p4 =>
  (tq_bz p4).bind fun z5 =>
  some (z5, w3)
set_option maxHeartbeats 4000000 in
set_option maxRecDepth 20000 in
theorem w_X6_markTexts {l : Launch} {d : Nat} (hd9 : 0 ≤ d) {t : Nat} {a1 : Int32} {a2 : Int32} {h : tq_H} {o : Int32 × tq_H} {Q : tq_R → tq_H → Prop} (hf : f_X6_markTexts t a1 a2 h = some o) (hQ : ∀ r h9, r = .inl (some (.int o.1)) ∧ o.2 = h9 → Q r h9) : tq_C l yX6_markTexts cX6_markTexts 4 (some .boolean) d 0 0 [.ref t, .int a1, .int a2] h Q := by
  refine tq_body (y := yX6_markTexts) false (by decide +kernel) (fun z => by cases z) (Nat.le_of_ble_eq_true rfl) ?_
  show tq_W l mX6_markTexts d 0 0 Q 0 [(0, .ref t), (1, .int a1), (2, .int a2)] [] h
  refine tq_aload_n (M := mX6_markTexts) (pc := 0) dX6_markTexts_0 rfl ?_
  obtain ⟨x1, ex1, hf⟩ := tq_be hf
  refine tq_getI (M := mX6_markTexts) (pc := 1) tk_c6 (by decide) dX6_markTexts_1 tk_RX6_41 rfl ex1 ?_
  refine tq_istore_n (M := mX6_markTexts) (pc := 4) rfl dX6_markTexts_4 (L2 := [(3, .int x1), (0, .ref t), (1, .int a1), (2, .int a2)]) (by decide) rfl ?_
  refine tq_aload_n (M := mX6_markTexts) (pc := 5) dX6_markTexts_5 rfl ?_
  refine tq_iload_n (M := mX6_markTexts) (pc := 6) dX6_markTexts_6 rfl ?_
  obtain ⟨p2, ep2, hf⟩ := tq_le hf
  have HJ7 : tq_W l mX6_markTexts d 0 0 Q 25 [(1, .int a1), (3, .int x1)] [.int p2, .ref t] h := by
    obtain ⟨w3, ew3, hf⟩ := tq_be hf
    refine tq_putv (M := mX6_markTexts) (pc := 25) tk_c6 (by decide) dX6_markTexts_25 tk_RX6_41 rfl (Or.inl rfl) ew3 (tq_nI _) ?_
    refine tq_iload_n (M := mX6_markTexts) (pc := 28) dX6_markTexts_28 rfl ?_
    refine tq_iload_n (M := mX6_markTexts) (pc := 29) dX6_markTexts_29 rfl ?_
    refine tq_ishr (M := mX6_markTexts) (pc := 30) dX6_markTexts_30 ?_
    refine tq_iconst (M := mX6_markTexts) (pc := 31) dX6_markTexts_31 tk_ki_1 ?_
    refine tq_iand (M := mX6_markTexts) (pc := 32) dX6_markTexts_32 ?_
    obtain ⟨p4, ep4, hf⟩ := tq_le hf
    have HJ33 : tq_W l mX6_markTexts d 0 0 Q 41 [] [.int p4] w3 := by
      obtain ⟨z5, ez5, hf⟩ := tq_be hf
      refine tq_zretB (M := mX6_markTexts) (pc := 41) dX6_markTexts_41 rfl ez5 ?_
      cases (Option.some.inj hf)
      exact hQ _ _ ⟨rfl, rfl⟩
    refine tq_if_eq (M := mX6_markTexts) (pc := 33) (tgt := 40) dX6_markTexts_33 (by decide) (fun cc => ?_) (fun cc => ?_)
    · have hf := tq_ifp ep4.symm cc
      refine tq_iconst (M := mX6_markTexts) (pc := 40) dX6_markTexts_40 tk_ki_0 ?_
      refine tq_pick (L2 := []) [] rfl ?_
      cases hf
      exact HJ33
    · have hf := tq_ifn ep4.symm cc
      refine tq_iconst (M := mX6_markTexts) (pc := 36) dX6_markTexts_36 tk_ki_1 ?_
      refine tq_goto (M := mX6_markTexts) (pc := 37) (tgt := 41) dX6_markTexts_37 (by decide) ?_
      refine tq_pick (L2 := []) [] rfl ?_
      cases hf
      exact HJ33
  refine tq_if_eq (M := mX6_markTexts) (pc := 7) (tgt := 18) dX6_markTexts_7 (by decide) (fun cc => ?_) (fun cc => ?_)
  · have hf := tq_ifp ep2.symm cc
    refine tq_iload_n (M := mX6_markTexts) (pc := 18) dX6_markTexts_18 rfl ?_
    refine tq_iconst (M := mX6_markTexts) (pc := 19) dX6_markTexts_19 tk_ki_1 ?_
    refine tq_iload_n (M := mX6_markTexts) (pc := 20) dX6_markTexts_20 rfl ?_
    refine tq_ishl (M := mX6_markTexts) (pc := 21) dX6_markTexts_21 ?_
    refine tq_iconst (M := mX6_markTexts) (pc := 22) dX6_markTexts_22 tk_ki_m1 ?_
    refine tq_ixor (M := mX6_markTexts) (pc := 23) dX6_markTexts_23 ?_
    refine tq_iand (M := mX6_markTexts) (pc := 24) dX6_markTexts_24 ?_
    refine tq_pick (L2 := [(1, .int a1), (3, .int x1)]) [2, 0] rfl ?_
    cases hf
    exact HJ7
  · have hf := tq_ifn ep2.symm cc
    refine tq_iload_n (M := mX6_markTexts) (pc := 10) dX6_markTexts_10 rfl ?_
    refine tq_iconst (M := mX6_markTexts) (pc := 11) dX6_markTexts_11 tk_ki_1 ?_
    refine tq_iload_n (M := mX6_markTexts) (pc := 12) dX6_markTexts_12 rfl ?_
    refine tq_ishl (M := mX6_markTexts) (pc := 13) dX6_markTexts_13 ?_
    refine tq_ior (M := mX6_markTexts) (pc := 14) dX6_markTexts_14 ?_
    refine tq_goto (M := mX6_markTexts) (pc := 15) (tgt := 25) dX6_markTexts_15 (by decide) ?_
    refine tq_pick (L2 := [(1, .int a1), (3, .int x1)]) [2, 0] rfl ?_
    cases hf
    exact HJ7
abbrev mX6_giveRule : tq_M := (RX6, cX6_giveRule, 5, (some .int), false, [], none)
def f_X6_giveRule (t : Nat) (a1 : Int32) (a2 : Int32) (a3 : Int32) (h : tq_H) : Option (Int32 × tq_H) :=
  (tq_gr h t 6 2).bind fun k1 =>
  (tq_is h k1 5).bind fun _ =>
  (f_X5_get k1 ((a1 * (8 : Int32)) + a2) h).bind fun v2 =>
  (tq_gr h t 6 2).bind fun k4 =>
  (tq_is h k4 5).bind fun _ =>
  (f_X5_set k4 ((a1 * (8 : Int32)) + a2) a3 h).bind fun v5 =>
  some (v2, v5)
set_option maxHeartbeats 4000000 in
set_option maxRecDepth 20000 in
theorem w_X6_giveRule {l : Launch} {d : Nat} (hd9 : 1 ≤ d) {t : Nat} {a1 : Int32} {a2 : Int32} {a3 : Int32} {h : tq_H} {o : Int32 × tq_H} {Q : tq_R → tq_H → Prop} (hf : f_X6_giveRule t a1 a2 a3 h = some o) (hQ : ∀ r h9, r = .inl (some (.int o.1)) ∧ o.2 = h9 → Q r h9) : tq_C l yX6_giveRule cX6_giveRule 5 (some .int) d 0 0 [.ref t, .int a1, .int a2, .int a3] h Q := by
  refine tq_body (y := yX6_giveRule) false (by decide +kernel) (fun z => by cases z) (Nat.le_of_ble_eq_true rfl) ?_
  show tq_W l mX6_giveRule d 0 0 Q 0 [(0, .ref t), (1, .int a1), (2, .int a2), (3, .int a3)] [] h
  refine tq_aload_n (M := mX6_giveRule) (pc := 0) dX6_giveRule_0 rfl ?_
  obtain ⟨k1, ek1, hf⟩ := tq_be hf
  refine tq_getR (M := mX6_giveRule) (pc := 1) tk_c6 (by decide) dX6_giveRule_1 tk_RX6_23 rfl ek1 ?_
  refine tq_iload_n (M := mX6_giveRule) (pc := 4) dX6_giveRule_4 rfl ?_
  refine tq_bipush (M := mX6_giveRule) (pc := 5) dX6_giveRule_5 tk_kb_8 ?_
  refine tq_imul (M := mX6_giveRule) (pc := 7) dX6_giveRule_7 ?_
  refine tq_iload_n (M := mX6_giveRule) (pc := 8) dX6_giveRule_8 rfl ?_
  refine tq_iadd (M := mX6_giveRule) (pc := 9) dX6_giveRule_9 ?_
  obtain ⟨⟨⟩, eu3, hf⟩ := tq_be hf
  obtain ⟨fsu3, eu3⟩ := tq_is_s eu3
  obtain ⟨v2, ev2, hf⟩ := tq_be hf
  refine tq_calV (M := mX6_giveRule) (pc := 10) (S := []) tk_y_X5_get tk_v_X5_get tk_RX6_52 dX6_giveRule_10 [.int (((a1 * (8 : Int32)) + a2))] rfl (S0 := _) rfl eu3 rfl (Nat.le_of_ble_eq_true rfl) (d1 := d - 1) (b1 := 0) (s1 := 0) (bc' := 0) (bs' := 0) (Q1 := fun r h9 => r = .inl (some (.int v2)) ∧ h = h9) (by omega) rfl rfl (w_X5_get (by omega) ev2 (fun _ _ q => q)) (fun E h9 q => nomatch (show (Sum.inr E : tq_R) = Sum.inl _ from q.1)) (fun r9 h9 q => ?_)
  obtain ⟨q1, rfl⟩ := q
  cases (show (Sum.inl r9 : tq_R) = Sum.inl (some (.int v2)) from q1)
  refine tq_istore (M := mX6_giveRule) (pc := 13) dX6_giveRule_13 (L2 := [(4, .int v2), (0, .ref t), (1, .int a1), (2, .int a2), (3, .int a3)]) (by decide) rfl ?_
  refine tq_aload_n (M := mX6_giveRule) (pc := 15) dX6_giveRule_15 rfl ?_
  obtain ⟨k4, ek4, hf⟩ := tq_be hf
  refine tq_getR (M := mX6_giveRule) (pc := 16) tk_c6 (by decide) dX6_giveRule_16 tk_RX6_23 rfl ek4 ?_
  refine tq_iload_n (M := mX6_giveRule) (pc := 19) dX6_giveRule_19 rfl ?_
  refine tq_bipush (M := mX6_giveRule) (pc := 20) dX6_giveRule_20 tk_kb_8 ?_
  refine tq_imul (M := mX6_giveRule) (pc := 22) dX6_giveRule_22 ?_
  refine tq_iload_n (M := mX6_giveRule) (pc := 23) dX6_giveRule_23 rfl ?_
  refine tq_iadd (M := mX6_giveRule) (pc := 24) dX6_giveRule_24 ?_
  refine tq_iload_n (M := mX6_giveRule) (pc := 25) dX6_giveRule_25 rfl ?_
  obtain ⟨⟨⟩, eu6, hf⟩ := tq_be hf
  obtain ⟨fsu6, eu6⟩ := tq_is_s eu6
  obtain ⟨v5, ev5, hf⟩ := tq_be hf
  refine tq_calV (M := mX6_giveRule) (pc := 26) (S := []) tk_y_X5_set tk_v_X5_set tk_RX6_56 dX6_giveRule_26 [.int (((a1 * (8 : Int32)) + a2)), .int a3] rfl (S0 := _) rfl eu6 rfl (Nat.le_of_ble_eq_true rfl) (d1 := d - 1) (b1 := 0) (s1 := 0) (bc' := 0) (bs' := 0) (Q1 := fun r h9 => r = .inl none ∧ v5 = h9) (by omega) rfl rfl (w_X5_set (by omega) ev5 (fun _ _ q => q)) (fun E h9 q => nomatch (show (Sum.inr E : tq_R) = Sum.inl _ from q.1)) (fun r9 h9 q => ?_)
  obtain ⟨q1, rfl⟩ := q
  cases (show (Sum.inl r9 : tq_R) = Sum.inl (none) from q1)
  refine tq_iload (M := mX6_giveRule) (pc := 29) dX6_giveRule_29 rfl ?_
  refine tq_iret (M := mX6_giveRule) (pc := 31) dX6_giveRule_31 rfl ?_
  cases (Option.some.inj hf)
  exact hQ _ _ ⟨rfl, rfl⟩
abbrev mX6_statesBehind : tq_M := (RX6, cX6_statesBehind, 6, (some .int), false, [], none)
def f_X6_statesBehind_b6 (i0 : Nat) (i1 : Int32) (i2 : Int32) (i3 : Int32) (hh : tq_H) (s : Int32 × Int32) : Option ((Int32 × Int32) ⊕ (Int32)) := match s with
  | (y4, y5) =>
    if y5 ≥ (4 : Int32) then
      some (.inr y4)
    else
      (if ((i2 >>> (y5 &&& 31)) &&& (1 : Int32)) = 0 then
        some y4
      else
        (tq_gr hh i0 6 3).bind fun k1 =>
        (f_X6_arcAt i1 y5 (0 : Int32) hh).bind fun v2 =>
        (tq_is hh k1 5).bind fun _ =>
        (f_X5_union k1 v2 i3 hh).bind fun v3 =>
        tq_let ((y4 ||| v3)) fun x5 =>
        some x5).bind fun p6 =>
      tq_let (y5 + (1 : Int32)) fun x7 =>
      some (.inl (p6, x7))
def f_X6_statesBehind (t : Nat) (a1 : Int32) (a2 : Int32) (a3 : Int32) (h : tq_H) : Option (Int32) :=
  (tq_loop (f_X6_statesBehind_b6 t a1 a2 a3 h) tq_N ((0 : Int32), (0 : Int32))).bind fun o8 =>
  some o8
set_option maxHeartbeats 4000000 in
theorem l_X6_statesBehind_6 {l : Launch} {d : Nat} {Q : tq_R → tq_H → Prop} {bc bs : Nat} (hd9 : 1 ≤ d) (i0 : Nat) (i1 : Int32) (i2 : Int32) (i3 : Int32) (hh : tq_H) : ∀ (n : Nat) (y4 : Int32) (y5 : Int32) (o : Int32), tq_loop (f_X6_statesBehind_b6 i0 i1 i2 i3 hh) n (y4, y5) = some o → tq_W l mX6_statesBehind d bc bs Q 47 [(4, .int o)] [] hh → tq_W l mX6_statesBehind d bc bs Q 6 [(0, .ref i0), (1, .int i1), (2, .int i2), (3, .int i3), (4, .int y4), (5, .int y5)] [] hh := by
  intro n
  induction n with
  | zero => intro y4 y5 o hl; cases hl
  | succ n ih =>
    intro y4 y5 o hl hk
    obtain ⟨oo, hf, ho⟩ := tq_loop_s hl
    refine tq_iload (M := mX6_statesBehind) (pc := 6) dX6_statesBehind_6 rfl ?_
    refine tq_iconst (M := mX6_statesBehind) (pc := 8) dX6_statesBehind_8 tk_ki_4 ?_
    refine tq_icmp_ge (M := mX6_statesBehind) (pc := 9) (tgt := 47) dX6_statesBehind_9 (by decide) (fun cc => ?_) (fun cc => ?_)
    · have hf := tq_ifp hf cc
      refine tq_pick (L2 := [(4, .int y4)]) [4] rfl ?_
      cases (Option.some.inj hf)
      cases (tq_lx ho)
      exact hk
    · have hf := tq_ifn hf cc
      refine tq_iload_n (M := mX6_statesBehind) (pc := 12) dX6_statesBehind_12 rfl ?_
      refine tq_iload (M := mX6_statesBehind) (pc := 13) dX6_statesBehind_13 rfl ?_
      refine tq_ishr (M := mX6_statesBehind) (pc := 15) dX6_statesBehind_15 ?_
      refine tq_iconst (M := mX6_statesBehind) (pc := 16) dX6_statesBehind_16 tk_ki_1 ?_
      refine tq_iand (M := mX6_statesBehind) (pc := 17) dX6_statesBehind_17 ?_
      obtain ⟨p6, ep6, hf⟩ := tq_be hf
      have HJ18 : tq_W l mX6_statesBehind d bc bs Q 41 [(0, .ref i0), (1, .int i1), (2, .int i2), (3, .int i3), (4, .int p6), (5, .int y5)] [] hh := by
        obtain ⟨x7, ex7, hf⟩ := tq_le hf
        refine tq_iinc (M := mX6_statesBehind) (pc := 41) (v := x7) (L2 := [(5, .int x7), (0, .ref i0), (1, .int i1), (2, .int i2), (3, .int i3), (4, .int p6)]) dX6_statesBehind_41 rfl (by rw [ex7, tk_ki_1]) (by decide) rfl ?_
        refine tq_goto (M := mX6_statesBehind) (pc := 44) (tgt := 6) dX6_statesBehind_44 (by decide) ?_
        refine tq_pick (L2 := [(0, .ref i0), (1, .int i1), (2, .int i2), (3, .int i3), (4, .int p6), (5, .int x7)]) [1, 2, 3, 4, 5, 0] rfl ?_
        cases (Option.some.inj hf)
        exact ih _ _ o (tq_lc ho) hk
      refine tq_if_eq (M := mX6_statesBehind) (pc := 18) (tgt := 41) dX6_statesBehind_18 (by decide) (fun cc => ?_) (fun cc => ?_)
      · have hf := tq_ifp ep6 cc
        cases (Option.some.inj hf)
        exact HJ18
      · have hf := tq_ifn ep6 cc
        refine tq_iload (M := mX6_statesBehind) (pc := 21) dX6_statesBehind_21 rfl ?_
        refine tq_aload_n (M := mX6_statesBehind) (pc := 23) dX6_statesBehind_23 rfl ?_
        obtain ⟨k1, ek1, hf⟩ := tq_be hf
        refine tq_getR (M := mX6_statesBehind) (pc := 24) tk_c6 (by decide) dX6_statesBehind_24 tk_RX6_26 rfl ek1 ?_
        refine tq_iload_n (M := mX6_statesBehind) (pc := 27) dX6_statesBehind_27 rfl ?_
        refine tq_iload (M := mX6_statesBehind) (pc := 28) dX6_statesBehind_28 rfl ?_
        refine tq_iconst (M := mX6_statesBehind) (pc := 30) dX6_statesBehind_30 tk_ki_0 ?_
        obtain ⟨v2, ev2, hf⟩ := tq_be hf
        refine tq_calS (M := mX6_statesBehind) (pc := 31) (S := [.ref k1, .int y4]) tk_y_X6_arcAt tk_s_X6_arcAt tk_RX6_59 dX6_statesBehind_31 [.int i1, .int y5, .int (0 : Int32)] rfl (Nat.le_of_ble_eq_true rfl) (d1 := d - 1) (b1 := 0) (s1 := 0) (bc' := bc) (bs' := bs) (Q1 := fun r h9 => r = .inl (some (.int v2)) ∧ hh = h9) (by omega) (by omega) (by omega) (w_X6_arcAt (by omega) ev2 (fun _ _ q => q)) (fun E h9 q => nomatch (show (Sum.inr E : tq_R) = Sum.inl _ from q.1)) (fun r9 h9 q => ?_)
        obtain ⟨q1, rfl⟩ := q
        cases (show (Sum.inl r9 : tq_R) = Sum.inl (some (.int v2)) from q1)
        refine tq_iload_n (M := mX6_statesBehind) (pc := 34) dX6_statesBehind_34 rfl ?_
        obtain ⟨⟨⟩, eu4, hf⟩ := tq_be hf
        obtain ⟨fsu4, eu4⟩ := tq_is_s eu4
        obtain ⟨v3, ev3, hf⟩ := tq_be hf
        refine tq_calV (M := mX6_statesBehind) (pc := 35) (S := [.int y4]) tk_y_X5_union tk_v_X5_union tk_RX6_122 dX6_statesBehind_35 [.int v2, .int i3] rfl (S0 := _) rfl eu4 rfl (Nat.le_of_ble_eq_true rfl) (d1 := d - 1) (b1 := 0) (s1 := 0) (bc' := bc) (bs' := bs) (Q1 := fun r h9 => r = .inl (some (.int v3)) ∧ hh = h9) (by omega) (by omega) (by omega) (w_X5_union (by omega) ev3 (fun _ _ q => q)) (fun E h9 q => nomatch (show (Sum.inr E : tq_R) = Sum.inl _ from q.1)) (fun r9 h9 q => ?_)
        obtain ⟨q1, rfl⟩ := q
        cases (show (Sum.inl r9 : tq_R) = Sum.inl (some (.int v3)) from q1)
        refine tq_ior (M := mX6_statesBehind) (pc := 38) dX6_statesBehind_38 ?_
        obtain ⟨x5, ex5, hf⟩ := tq_le hf
        refine tq_istore (M := mX6_statesBehind) (pc := 39) dX6_statesBehind_39 (L2 := [(4, .int x5), (0, .ref i0), (1, .int i1), (2, .int i2), (3, .int i3), (5, .int y5)]) (by decide) (by rw [ex5]; rfl) ?_
        refine tq_pick (L2 := [(0, .ref i0), (1, .int i1), (2, .int i2), (3, .int i3), (4, .int x5), (5, .int y5)]) [1, 2, 3, 4, 0, 5] rfl ?_
        cases (Option.some.inj hf)
        exact HJ18
set_option maxHeartbeats 4000000 in
set_option maxRecDepth 20000 in
theorem w_X6_statesBehind {l : Launch} {d : Nat} (hd9 : 1 ≤ d) {t : Nat} {a1 : Int32} {a2 : Int32} {a3 : Int32} {h : tq_H} {o : Int32} {Q : tq_R → tq_H → Prop} (hf : f_X6_statesBehind t a1 a2 a3 h = some o) (hQ : ∀ r h9, r = .inl (some (.int o)) ∧ h = h9 → Q r h9) : tq_C l yX6_statesBehind cX6_statesBehind 6 (some .int) d 0 0 [.ref t, .int a1, .int a2, .int a3] h Q := by
  refine tq_body (y := yX6_statesBehind) false (by decide +kernel) (fun z => by cases z) (Nat.le_of_ble_eq_true rfl) ?_
  show tq_W l mX6_statesBehind d 0 0 Q 0 [(0, .ref t), (1, .int a1), (2, .int a2), (3, .int a3)] [] h
  refine tq_iconst (M := mX6_statesBehind) (pc := 0) dX6_statesBehind_0 tk_ki_0 ?_
  refine tq_istore (M := mX6_statesBehind) (pc := 1) dX6_statesBehind_1 (L2 := [(4, .int (0 : Int32)), (0, .ref t), (1, .int a1), (2, .int a2), (3, .int a3)]) (by decide) rfl ?_
  refine tq_iconst (M := mX6_statesBehind) (pc := 3) dX6_statesBehind_3 tk_ki_0 ?_
  refine tq_istore (M := mX6_statesBehind) (pc := 4) dX6_statesBehind_4 (L2 := [(5, .int (0 : Int32)), (4, .int (0 : Int32)), (0, .ref t), (1, .int a1), (2, .int a2), (3, .int a3)]) (by decide) rfl ?_
  obtain ⟨o8, eo8, hf⟩ := tq_be hf
  refine tq_pick (L2 := [(0, .ref t), (1, .int a1), (2, .int a2), (3, .int a3), (4, .int (0 : Int32)), (5, .int (0 : Int32))]) [2, 3, 4, 5, 1, 0] rfl ?_
  refine l_X6_statesBehind_6 (bc := 0) (bs := 0) (by omega) t a1 a2 a3 h _ (0 : Int32) (0 : Int32) _ eo8 ?_
  refine tq_iload (M := mX6_statesBehind) (pc := 47) dX6_statesBehind_47 rfl ?_
  refine tq_iret (M := mX6_statesBehind) (pc := 49) dX6_statesBehind_49 rfl ?_
  cases (Option.some.inj hf)
  exact hQ _ _ ⟨rfl, rfl⟩
abbrev mX6_isAccepted : tq_M := (RX6, cX6_isAccepted, 8, (some .boolean), false, [], none)
def f_X6_isAccepted_b12 (i0 : Nat) (i3 : Int32) (hh : tq_H) (s : Int32 × Int64 × Int32) : Option ((Int32 × Int64 × Int32) ⊕ (Int32)) := match s with
  | (y4, y5, y7) =>
    if y7 ≤ 0 then
      some (.inr y4)
    else
      (tq_gr hh i0 6 4).bind fun k2 =>
      (f_X0_lowest y5 hh).bind fun v3 =>
      (tq_is hh k2 5).bind fun _ =>
      (f_X5_get k2 v3 hh).bind fun v4 =>
      (tq_is hh i0 6).bind fun _ =>
      (f_X6_statesBehind i0 i3 y4 v4 hh).bind fun v6 =>
      tq_let ((y5 &&& (y5 - (1 : Int64)))) fun x8 =>
      tq_let (y7 + (-1 : Int32)) fun x9 =>
      some (.inl (v6, x8, x9))
def f_X6_isAccepted (t : Nat) (a1 : Int64) (a3 : Int32) (h : tq_H) : Option (Int32) :=
  (f_J13_bitCount_95d88 a1 h).bind fun v1 =>
  (tq_loop (f_X6_isAccepted_b12 t a3 h) tq_N ((1 : Int32), a1, v1)).bind fun o10 =>
  (tq_gr h t 6 1).bind fun k11 =>
  (tq_is h k11 5).bind fun _ =>
  (f_X5_get k11 a3 h).bind fun v12 =>
  tq_let (if (o10 &&& v12) = 0 then (0 : Int32) else (1 : Int32)) fun p14 =>
  (tq_bz p14).bind fun z15 =>
  some z15
set_option maxHeartbeats 4000000 in
theorem l_X6_isAccepted_12 {l : Launch} {d : Nat} {Q : tq_R → tq_H → Prop} {bc bs : Nat} (hd9 : 2 ≤ d) (i0 : Nat) (i3 : Int32) (hh : tq_H) : ∀ (n : Nat) (y4 : Int32) (y5 : Int64) (y7 : Int32) (o : Int32), tq_loop (f_X6_isAccepted_b12 i0 i3 hh) n (y4, y5, y7) = some o → tq_W l mX6_isAccepted d bc bs Q 53 [(0, .ref i0), (3, .int i3), (4, .int o)] [] hh → tq_W l mX6_isAccepted d bc bs Q 12 [(0, .ref i0), (3, .int i3), (4, .int y4), (5, .long y5), (7, .int y7)] [] hh := by
  intro n
  induction n with
  | zero => intro y4 y5 y7 o hl; cases hl
  | succ n ih =>
    intro y4 y5 y7 o hl hk
    obtain ⟨oo, hf, ho⟩ := tq_loop_s hl
    refine tq_iload (M := mX6_isAccepted) (pc := 12) dX6_isAccepted_12 rfl ?_
    refine tq_if_le (M := mX6_isAccepted) (pc := 14) (tgt := 53) dX6_isAccepted_14 (by decide) (fun cc => ?_) (fun cc => ?_)
    · have hf := tq_ifp hf cc
      refine tq_pick (L2 := [(0, .ref i0), (3, .int i3), (4, .int y4)]) [0, 1, 2] rfl ?_
      cases (Option.some.inj hf)
      cases (tq_lx ho)
      exact hk
    · have hf := tq_ifn hf cc
      refine tq_aload_n (M := mX6_isAccepted) (pc := 17) dX6_isAccepted_17 rfl ?_
      refine tq_iload_n (M := mX6_isAccepted) (pc := 18) dX6_isAccepted_18 rfl ?_
      refine tq_iload (M := mX6_isAccepted) (pc := 19) dX6_isAccepted_19 rfl ?_
      refine tq_aload_n (M := mX6_isAccepted) (pc := 21) dX6_isAccepted_21 rfl ?_
      obtain ⟨k2, ek2, hf⟩ := tq_be hf
      refine tq_getR (M := mX6_isAccepted) (pc := 22) tk_c6 (by decide) dX6_isAccepted_22 tk_RX6_29 rfl ek2 ?_
      refine tq_lload (M := mX6_isAccepted) (pc := 25) dX6_isAccepted_25 rfl ?_
      obtain ⟨v3, ev3, hf⟩ := tq_be hf
      refine tq_calS (M := mX6_isAccepted) (pc := 27) (S := [.ref k2, .int y4, .int i3, .ref i0]) tk_y_X0_lowest tk_s_X0_lowest tk_RX6_116 dX6_isAccepted_27 [.long y5] rfl (Nat.le_of_ble_eq_true rfl) (d1 := d - 1) (b1 := 0) (s1 := 0) (bc' := bc) (bs' := bs) (Q1 := fun r h9 => r = .inl (some (.int v3)) ∧ hh = h9) (by omega) (by omega) (by omega) (w_X0_lowest (by omega) ev3 (fun _ _ q => q)) (fun E h9 q => nomatch (show (Sum.inr E : tq_R) = Sum.inl _ from q.1)) (fun r9 h9 q => ?_)
      obtain ⟨q1, rfl⟩ := q
      cases (show (Sum.inl r9 : tq_R) = Sum.inl (some (.int v3)) from q1)
      obtain ⟨⟨⟩, eu5, hf⟩ := tq_be hf
      obtain ⟨fsu5, eu5⟩ := tq_is_s eu5
      obtain ⟨v4, ev4, hf⟩ := tq_be hf
      refine tq_calV (M := mX6_isAccepted) (pc := 30) (S := [.int y4, .int i3, .ref i0]) tk_y_X5_get tk_v_X5_get tk_RX6_52 dX6_isAccepted_30 [.int v3] rfl (S0 := _) rfl eu5 rfl (Nat.le_of_ble_eq_true rfl) (d1 := d - 1) (b1 := 0) (s1 := 0) (bc' := bc) (bs' := bs) (Q1 := fun r h9 => r = .inl (some (.int v4)) ∧ hh = h9) (by omega) (by omega) (by omega) (w_X5_get (by omega) ev4 (fun _ _ q => q)) (fun E h9 q => nomatch (show (Sum.inr E : tq_R) = Sum.inl _ from q.1)) (fun r9 h9 q => ?_)
      obtain ⟨q1, rfl⟩ := q
      cases (show (Sum.inl r9 : tq_R) = Sum.inl (some (.int v4)) from q1)
      obtain ⟨⟨⟩, eu7, hf⟩ := tq_be hf
      obtain ⟨fsu7, eu7⟩ := tq_is_s eu7
      obtain ⟨v6, ev6, hf⟩ := tq_be hf
      refine tq_calV (M := mX6_isAccepted) (pc := 33) (S := []) tk_y_X6_statesBehind tk_v_X6_statesBehind tk_RX6_119 dX6_isAccepted_33 [.int i3, .int y4, .int v4] rfl (S0 := _) rfl eu7 rfl (Nat.le_of_ble_eq_true rfl) (d1 := d - 1) (b1 := 0) (s1 := 0) (bc' := bc) (bs' := bs) (Q1 := fun r h9 => r = .inl (some (.int v6)) ∧ hh = h9) (by omega) (by omega) (by omega) (w_X6_statesBehind (by omega) ev6 (fun _ _ q => q)) (fun E h9 q => nomatch (show (Sum.inr E : tq_R) = Sum.inl _ from q.1)) (fun r9 h9 q => ?_)
      obtain ⟨q1, rfl⟩ := q
      cases (show (Sum.inl r9 : tq_R) = Sum.inl (some (.int v6)) from q1)
      refine tq_istore (M := mX6_isAccepted) (pc := 36) dX6_isAccepted_36 (L2 := [(4, .int v6), (0, .ref i0), (3, .int i3), (5, .long y5), (7, .int y7)]) (by decide) rfl ?_
      refine tq_lload (M := mX6_isAccepted) (pc := 38) dX6_isAccepted_38 rfl ?_
      refine tq_lload (M := mX6_isAccepted) (pc := 40) dX6_isAccepted_40 rfl ?_
      refine tq_lconst (M := mX6_isAccepted) (pc := 42) dX6_isAccepted_42 tk_kl_1 ?_
      refine tq_lsub (M := mX6_isAccepted) (pc := 43) dX6_isAccepted_43 ?_
      refine tq_land (M := mX6_isAccepted) (pc := 44) dX6_isAccepted_44 ?_
      obtain ⟨x8, ex8, hf⟩ := tq_le hf
      refine tq_lstore (M := mX6_isAccepted) (pc := 45) dX6_isAccepted_45 (L2 := [(5, .long x8), (4, .int v6), (0, .ref i0), (3, .int i3), (7, .int y7)]) (by decide) (by rw [ex8]; rfl) ?_
      obtain ⟨x9, ex9, hf⟩ := tq_le hf
      refine tq_iinc (M := mX6_isAccepted) (pc := 47) (v := x9) (L2 := [(7, .int x9), (5, .long x8), (4, .int v6), (0, .ref i0), (3, .int i3)]) dX6_isAccepted_47 rfl (by rw [ex9, tk_ki_m1]) (by decide) rfl ?_
      refine tq_goto (M := mX6_isAccepted) (pc := 50) (tgt := 12) dX6_isAccepted_50 (by decide) ?_
      refine tq_pick (L2 := [(0, .ref i0), (3, .int i3), (4, .int v6), (5, .long x8), (7, .int x9)]) [3, 4, 2, 1, 0] rfl ?_
      cases (Option.some.inj hf)
      exact ih _ _ _ o (tq_lc ho) hk
set_option maxHeartbeats 4000000 in
set_option maxRecDepth 20000 in
theorem w_X6_isAccepted {l : Launch} {d : Nat} (hd9 : 2 ≤ d) {t : Nat} {a1 : Int64} {a3 : Int32} {h : tq_H} {o : Int32} {Q : tq_R → tq_H → Prop} (hf : f_X6_isAccepted t a1 a3 h = some o) (hQ : ∀ r h9, r = .inl (some (.int o)) ∧ h = h9 → Q r h9) : tq_C l yX6_isAccepted cX6_isAccepted 8 (some .boolean) d 0 0 [.ref t, .long a1, .int a3] h Q := by
  refine tq_body (y := yX6_isAccepted) false (by decide +kernel) (fun z => by cases z) (Nat.le_of_ble_eq_true rfl) ?_
  show tq_W l mX6_isAccepted d 0 0 Q 0 [(0, .ref t), (1, .long a1), (3, .int a3)] [] h
  refine tq_iconst (M := mX6_isAccepted) (pc := 0) dX6_isAccepted_0 tk_ki_1 ?_
  refine tq_istore (M := mX6_isAccepted) (pc := 1) dX6_isAccepted_1 (L2 := [(4, .int (1 : Int32)), (0, .ref t), (1, .long a1), (3, .int a3)]) (by decide) rfl ?_
  refine tq_lload_n (M := mX6_isAccepted) (pc := 3) dX6_isAccepted_3 rfl ?_
  refine tq_lstore (M := mX6_isAccepted) (pc := 4) dX6_isAccepted_4 (L2 := [(5, .long a1), (4, .int (1 : Int32)), (0, .ref t), (1, .long a1), (3, .int a3)]) (by decide) rfl ?_
  refine tq_lload_n (M := mX6_isAccepted) (pc := 6) dX6_isAccepted_6 rfl ?_
  obtain ⟨v1, ev1, hf⟩ := tq_be hf
  refine tq_calS (M := mX6_isAccepted) (pc := 7) (S := []) tk_y_J13_bitCount_95d88 tk_s_J13_bitCount_95d88 tk_RX6_110 dX6_isAccepted_7 [.long a1] rfl (Nat.le_of_ble_eq_true rfl) (d1 := d - 1) (b1 := 0) (s1 := 0) (bc' := 0) (bs' := 0) (Q1 := fun r h9 => r = .inl (some (.int v1)) ∧ h = h9) (by omega) rfl rfl (w_J13_bitCount_95d88 (by omega) ev1 (fun _ _ q => q)) (fun E h9 q => nomatch (show (Sum.inr E : tq_R) = Sum.inl _ from q.1)) (fun r9 h9 q => ?_)
  obtain ⟨q1, rfl⟩ := q
  cases (show (Sum.inl r9 : tq_R) = Sum.inl (some (.int v1)) from q1)
  refine tq_istore (M := mX6_isAccepted) (pc := 10) dX6_isAccepted_10 (L2 := [(7, .int v1), (5, .long a1), (4, .int (1 : Int32)), (0, .ref t), (1, .long a1), (3, .int a3)]) (by decide) rfl ?_
  obtain ⟨o10, eo10, hf⟩ := tq_be hf
  refine tq_pick (L2 := [(0, .ref t), (3, .int a3), (4, .int (1 : Int32)), (5, .long a1), (7, .int v1)]) [3, 5, 2, 1, 0] rfl ?_
  refine l_X6_isAccepted_12 (bc := 0) (bs := 0) (by omega) t a3 h _ (1 : Int32) a1 v1 _ eo10 ?_
  refine tq_iload (M := mX6_isAccepted) (pc := 53) dX6_isAccepted_53 rfl ?_
  refine tq_aload_n (M := mX6_isAccepted) (pc := 55) dX6_isAccepted_55 rfl ?_
  obtain ⟨k11, ek11, hf⟩ := tq_be hf
  refine tq_getR (M := mX6_isAccepted) (pc := 56) tk_c6 (by decide) dX6_isAccepted_56 tk_RX6_20 rfl ek11 ?_
  refine tq_iload_n (M := mX6_isAccepted) (pc := 59) dX6_isAccepted_59 rfl ?_
  obtain ⟨⟨⟩, eu13, hf⟩ := tq_be hf
  obtain ⟨fsu13, eu13⟩ := tq_is_s eu13
  obtain ⟨v12, ev12, hf⟩ := tq_be hf
  refine tq_calV (M := mX6_isAccepted) (pc := 60) (S := [.int o10]) tk_y_X5_get tk_v_X5_get tk_RX6_52 dX6_isAccepted_60 [.int a3] rfl (S0 := _) rfl eu13 rfl (Nat.le_of_ble_eq_true rfl) (d1 := d - 1) (b1 := 0) (s1 := 0) (bc' := 0) (bs' := 0) (Q1 := fun r h9 => r = .inl (some (.int v12)) ∧ h = h9) (by omega) rfl rfl (w_X5_get (by omega) ev12 (fun _ _ q => q)) (fun E h9 q => nomatch (show (Sum.inr E : tq_R) = Sum.inl _ from q.1)) (fun r9 h9 q => ?_)
  obtain ⟨q1, rfl⟩ := q
  cases (show (Sum.inl r9 : tq_R) = Sum.inl (some (.int v12)) from q1)
  refine tq_iand (M := mX6_isAccepted) (pc := 63) dX6_isAccepted_63 ?_
  obtain ⟨p14, ep14, hf⟩ := tq_le hf
  have HJ64 : tq_W l mX6_isAccepted d 0 0 Q 72 [] [.int p14] h := by
    obtain ⟨z15, ez15, hf⟩ := tq_be hf
    refine tq_zretB (M := mX6_isAccepted) (pc := 72) dX6_isAccepted_72 rfl ez15 ?_
    cases (Option.some.inj hf)
    exact hQ _ _ ⟨rfl, rfl⟩
  refine tq_if_eq (M := mX6_isAccepted) (pc := 64) (tgt := 71) dX6_isAccepted_64 (by decide) (fun cc => ?_) (fun cc => ?_)
  · have hf := tq_ifp ep14.symm cc
    refine tq_iconst (M := mX6_isAccepted) (pc := 71) dX6_isAccepted_71 tk_ki_0 ?_
    refine tq_pick (L2 := []) [] rfl ?_
    cases hf
    exact HJ64
  · have hf := tq_ifn ep14.symm cc
    refine tq_iconst (M := mX6_isAccepted) (pc := 67) dX6_isAccepted_67 tk_ki_1 ?_
    refine tq_goto (M := mX6_isAccepted) (pc := 68) (tgt := 72) dX6_isAccepted_68 (by decide) ?_
    refine tq_pick (L2 := []) [] rfl ?_
    cases hf
    exact HJ64
abbrev mX6_isOfType : tq_M := (RX6, cX6_isOfType, 8, (some .boolean), false, [], none)
def f_X6_isOfType_b79 (i0 : Nat) (i2 : Int32) (i3 : Int32) (i4 : Nat) (hh : tq_H) (s : Int32) : Option ((Int32) ⊕ ((Unit) ⊕ (Int32))) := match s with
  | y6 =>
    if y6 ≥ (8 : Int32) then
      some (.inr (.inl ()))
    else
      (tq_is hh i4 3).bind fun _ =>
      (f_X3_attributesOf i4 i2 hh).bind fun v15 =>
      (tq_is hh i4 3).bind fun _ =>
      (f_X3_passing i4 y6 hh).bind fun v17 =>
      tq_let (if (lg_cmp (v15 &&& v17) (0 : Int64)) = 0 then (0 : Int32) else (1 : Int32)) fun p19 =>
      (tq_gr hh i0 6 2).bind fun k20 =>
      (tq_is hh k20 5).bind fun _ =>
      (f_X5_get k20 ((i3 * (8 : Int32)) + y6) hh).bind fun v21 =>
      tq_let (if p19 = 0 then (2 : Int32) else (0 : Int32)) fun p23 =>
      if v21 = p23 then
        some (.inr (.inr (0 : Int32)))
      else
        tq_let (y6 + (1 : Int32)) fun x24 =>
        some (.inl x24)
def f_X6_isOfType_b79_2 (i0 : Nat) (i2 : Int32) (i3 : Int32) (i4 : Nat) (hh : tq_H) (s : Int32) : Option ((Int32) ⊕ ((Unit) ⊕ (Int32))) := match s with
  | y6 =>
    if y6 ≥ (8 : Int32) then
      some (.inr (.inl ()))
    else
      (tq_is hh i4 3).bind fun _ =>
      (f_X3_attributesOf i4 i2 hh).bind fun v34 =>
      (tq_is hh i4 3).bind fun _ =>
      (f_X3_passing i4 y6 hh).bind fun v36 =>
      tq_let (if (lg_cmp (v34 &&& v36) (0 : Int64)) = 0 then (0 : Int32) else (1 : Int32)) fun p38 =>
      (tq_gr hh i0 6 2).bind fun k39 =>
      (tq_is hh k39 5).bind fun _ =>
      (f_X5_get k39 ((i3 * (8 : Int32)) + y6) hh).bind fun v40 =>
      tq_let (if p38 = 0 then (2 : Int32) else (0 : Int32)) fun p42 =>
      if v40 = p42 then
        some (.inr (.inr (0 : Int32)))
      else
        tq_let (y6 + (1 : Int32)) fun x43 =>
        some (.inl x43)
def f_X6_isOfType (t : Nat) (a1 : Nat) (a2 : Int32) (a3 : Int32) (h : tq_H) : Option (Int32) :=
  (tq_gr h a1 8 0).bind fun k1 =>
  (tq_gr h t 6 0).bind fun k2 =>
  (tq_is h k2 5).bind fun _ =>
  (f_X5_get k2 a3 h).bind fun v3 =>
  (tq_gr h a1 8 2).bind fun k5 =>
  (tq_is h k1 3).bind fun _ =>
  (f_X3_nodeAt k1 a2 h).bind fun v6 =>
  (tq_is h k5 5).bind fun _ =>
  (f_X5_get k5 v6 h).bind fun v8 =>
  if v3 = v8 then
    (tq_is h k1 3).bind fun _ =>
    (f_X3_children k1 a2 h).bind fun v10 =>
    (tq_is h k1 3).bind fun _ =>
    (f_X3_passing k1 (9 : Int32) h).bind fun v12 =>
    tq_let (if (lg_cmp (v10 &&& v12) (0 : Int64)) = 0 then (0 : Int32) else (1 : Int32)) fun p14 =>
    if p14 = 0 then
      (tq_loop (f_X6_isOfType_b79 t a2 a3 k1 h) tq_N (0 : Int32)).bind fun o25 => match o25 with
      | .inl o25 =>
        (tq_is h k1 3).bind fun _ =>
        (f_X3_children k1 a2 h).bind fun v26 =>
        (tq_is h k1 3).bind fun _ =>
        (f_X3_elements k1 h).bind fun v28 =>
        (tq_is h t 6).bind fun _ =>
        (f_X6_isAccepted t (v26 &&& v28) a3 h).bind fun v30 =>
        (tq_bz v30).bind fun z32 =>
        some z32
      | .inr e9 =>
        some e9
    else
      (tq_gi h t 6 8).bind fun x33 =>
      if ((x33 >>> (a3 &&& 31)) &&& (1 : Int32)) = 0 then
        some (0 : Int32)
      else
        (tq_loop (f_X6_isOfType_b79_2 t a2 a3 k1 h) tq_N (0 : Int32)).bind fun o44 => match o44 with
        | .inl o44 =>
          (tq_is h k1 3).bind fun _ =>
          (f_X3_children k1 a2 h).bind fun v45 =>
          (tq_is h k1 3).bind fun _ =>
          (f_X3_elements k1 h).bind fun v47 =>
          (tq_is h t 6).bind fun _ =>
          (f_X6_isAccepted t (v45 &&& v47) a3 h).bind fun v49 =>
          (tq_bz v49).bind fun z51 =>
          some z51
        | .inr e9 =>
          some e9
  else
    some (0 : Int32)
set_option maxHeartbeats 4000000 in
theorem l_X6_isOfType_79 {l : Launch} {d : Nat} {Q : tq_R → tq_H → Prop} {bc bs : Nat} (hd9 : 3 ≤ d) (i0 : Nat) (i2 : Int32) (i3 : Int32) (i4 : Nat) (hh : tq_H) : ∀ (n : Nat) (y6 : Int32) (o : (Unit) ⊕ (Int32)), tq_loop (f_X6_isOfType_b79 i0 i2 i3 i4 hh) n y6 = some o → (match o with
    | .inl e9 => tq_W l mX6_isOfType d bc bs Q 147 [(0, .ref i0), (2, .int i2), (3, .int i3), (4, .ref i4)] [] hh
    | .inr e9 => (∀ r h9, r = .inl (some (.int e9)) ∧ hh = h9 → Q r h9)) → tq_W l mX6_isOfType d bc bs Q 79 [(0, .ref i0), (2, .int i2), (3, .int i3), (4, .ref i4), (6, .int y6)] [] hh := by
  intro n
  induction n with
  | zero => intro y6 o hl; cases hl
  | succ n ih =>
    intro y6 o hl hk
    obtain ⟨oo, hf, ho⟩ := tq_loop_s hl
    refine tq_iload (M := mX6_isOfType) (pc := 79) dX6_isOfType_79 rfl ?_
    refine tq_bipush (M := mX6_isOfType) (pc := 81) dX6_isOfType_81 tk_kb_8 ?_
    refine tq_icmp_ge (M := mX6_isOfType) (pc := 83) (tgt := 147) dX6_isOfType_83 (by decide) (fun cc => ?_) (fun cc => ?_)
    · have hf := tq_ifp hf cc
      refine tq_pick (L2 := [(0, .ref i0), (2, .int i2), (3, .int i3), (4, .ref i4)]) [0, 1, 2, 3] rfl ?_
      cases (Option.some.inj hf)
      cases (tq_lx ho)
      exact hk
    · have hf := tq_ifn hf cc
      refine tq_aload (M := mX6_isOfType) (pc := 86) dX6_isOfType_86 rfl ?_
      refine tq_iload_n (M := mX6_isOfType) (pc := 88) dX6_isOfType_88 rfl ?_
      obtain ⟨⟨⟩, eu16, hf⟩ := tq_be hf
      obtain ⟨fsu16, eu16⟩ := tq_is_s eu16
      obtain ⟨v15, ev15, hf⟩ := tq_be hf
      refine tq_calV (M := mX6_isOfType) (pc := 89) (S := []) tk_y_X3_attributesOf tk_v_X3_attributesOf tk_RX6_104 dX6_isOfType_89 [.int i2] rfl (S0 := _) rfl eu16 rfl (Nat.le_of_ble_eq_true rfl) (d1 := d - 1) (b1 := 0) (s1 := 0) (bc' := bc) (bs' := bs) (Q1 := fun r h9 => r = .inl (some (.long v15)) ∧ hh = h9) (by omega) (by omega) (by omega) (w_X3_attributesOf (by omega) ev15 (fun _ _ q => q)) (fun E h9 q => nomatch (show (Sum.inr E : tq_R) = Sum.inl _ from q.1)) (fun r9 h9 q => ?_)
      obtain ⟨q1, rfl⟩ := q
      cases (show (Sum.inl r9 : tq_R) = Sum.inl (some (.long v15)) from q1)
      refine tq_aload (M := mX6_isOfType) (pc := 92) dX6_isOfType_92 rfl ?_
      refine tq_iload (M := mX6_isOfType) (pc := 94) dX6_isOfType_94 rfl ?_
      obtain ⟨⟨⟩, eu18, hf⟩ := tq_be hf
      obtain ⟨fsu18, eu18⟩ := tq_is_s eu18
      obtain ⟨v17, ev17, hf⟩ := tq_be hf
      refine tq_calV (M := mX6_isOfType) (pc := 96) (S := [.long v15]) tk_y_X3_passing tk_v_X3_passing tk_RX6_101 dX6_isOfType_96 [.int y6] rfl (S0 := _) rfl eu18 rfl (Nat.le_of_ble_eq_true rfl) (d1 := d - 1) (b1 := 0) (s1 := 0) (bc' := bc) (bs' := bs) (Q1 := fun r h9 => r = .inl (some (.long v17)) ∧ hh = h9) (by omega) (by omega) (by omega) (w_X3_passing (by omega) ev17 (fun _ _ q => q)) (fun E h9 q => nomatch (show (Sum.inr E : tq_R) = Sum.inl _ from q.1)) (fun r9 h9 q => ?_)
      obtain ⟨q1, rfl⟩ := q
      cases (show (Sum.inl r9 : tq_R) = Sum.inl (some (.long v17)) from q1)
      refine tq_land (M := mX6_isOfType) (pc := 99) dX6_isOfType_99 ?_
      refine tq_lconst (M := mX6_isOfType) (pc := 100) dX6_isOfType_100 tk_kl_0 ?_
      refine tq_lcmp (M := mX6_isOfType) (pc := 101) dX6_isOfType_101 ?_
      obtain ⟨p19, ep19, hf⟩ := tq_le hf
      have HJ102 : tq_W l mX6_isOfType d bc bs Q 110 [(0, .ref i0), (2, .int i2), (3, .int i3), (4, .ref i4), (6, .int y6)] [.int p19] hh := by
        refine tq_istore (M := mX6_isOfType) (pc := 110) dX6_isOfType_110 (L2 := [(7, .int p19), (0, .ref i0), (2, .int i2), (3, .int i3), (4, .ref i4), (6, .int y6)]) (by decide) rfl ?_
        refine tq_aload_n (M := mX6_isOfType) (pc := 112) dX6_isOfType_112 rfl ?_
        obtain ⟨k20, ek20, hf⟩ := tq_be hf
        refine tq_getR (M := mX6_isOfType) (pc := 113) tk_c6 (by decide) dX6_isOfType_113 tk_RX6_23 rfl ek20 ?_
        refine tq_iload_n (M := mX6_isOfType) (pc := 116) dX6_isOfType_116 rfl ?_
        refine tq_bipush (M := mX6_isOfType) (pc := 117) dX6_isOfType_117 tk_kb_8 ?_
        refine tq_imul (M := mX6_isOfType) (pc := 119) dX6_isOfType_119 ?_
        refine tq_iload (M := mX6_isOfType) (pc := 120) dX6_isOfType_120 rfl ?_
        refine tq_iadd (M := mX6_isOfType) (pc := 122) dX6_isOfType_122 ?_
        obtain ⟨⟨⟩, eu22, hf⟩ := tq_be hf
        obtain ⟨fsu22, eu22⟩ := tq_is_s eu22
        obtain ⟨v21, ev21, hf⟩ := tq_be hf
        refine tq_calV (M := mX6_isOfType) (pc := 123) (S := []) tk_y_X5_get tk_v_X5_get tk_RX6_52 dX6_isOfType_123 [.int (((i3 * (8 : Int32)) + y6))] rfl (S0 := _) rfl eu22 rfl (Nat.le_of_ble_eq_true rfl) (d1 := d - 1) (b1 := 0) (s1 := 0) (bc' := bc) (bs' := bs) (Q1 := fun r h9 => r = .inl (some (.int v21)) ∧ hh = h9) (by omega) (by omega) (by omega) (w_X5_get (by omega) ev21 (fun _ _ q => q)) (fun E h9 q => nomatch (show (Sum.inr E : tq_R) = Sum.inl _ from q.1)) (fun r9 h9 q => ?_)
        obtain ⟨q1, rfl⟩ := q
        cases (show (Sum.inl r9 : tq_R) = Sum.inl (some (.int v21)) from q1)
        refine tq_iload (M := mX6_isOfType) (pc := 126) dX6_isOfType_126 rfl ?_
        obtain ⟨p23, ep23, hf⟩ := tq_le hf
        have HJ128 : tq_W l mX6_isOfType d bc bs Q 136 [(0, .ref i0), (2, .int i2), (3, .int i3), (4, .ref i4), (6, .int y6)] [.int p23, .int v21] hh := by
          refine tq_icmp_ne (M := mX6_isOfType) (pc := 136) (tgt := 141) dX6_isOfType_136 (by decide) (fun cc => ?_) (fun cc => ?_)
          · have hf := tq_ifn hf cc
            obtain ⟨x24, ex24, hf⟩ := tq_le hf
            refine tq_iinc (M := mX6_isOfType) (pc := 141) (v := x24) (L2 := [(6, .int x24), (0, .ref i0), (2, .int i2), (3, .int i3), (4, .ref i4)]) dX6_isOfType_141 rfl (by rw [ex24, tk_ki_1]) (by decide) rfl ?_
            refine tq_goto (M := mX6_isOfType) (pc := 144) (tgt := 79) dX6_isOfType_144 (by decide) ?_
            refine tq_pick (L2 := [(0, .ref i0), (2, .int i2), (3, .int i3), (4, .ref i4), (6, .int x24)]) [1, 2, 3, 4, 0] rfl ?_
            cases (Option.some.inj hf)
            exact ih _ o (tq_lc ho) hk
          · have hf := tq_ifp hf cc
            refine tq_iconst (M := mX6_isOfType) (pc := 139) dX6_isOfType_139 tk_ki_0 ?_
            refine tq_zret (M := mX6_isOfType) (pc := 140) dX6_isOfType_140 rfl (Or.inl rfl) ?_
            cases (Option.some.inj hf)
            cases (tq_lx ho)
            exact hk _ _ ⟨rfl, rfl⟩
        refine tq_if_eq (M := mX6_isOfType) (pc := 128) (tgt := 135) dX6_isOfType_128 (by decide) (fun cc => ?_) (fun cc => ?_)
        · have hf := tq_ifp ep23.symm cc
          refine tq_iconst (M := mX6_isOfType) (pc := 135) dX6_isOfType_135 tk_ki_2 ?_
          refine tq_pick (L2 := [(0, .ref i0), (2, .int i2), (3, .int i3), (4, .ref i4), (6, .int y6)]) [1, 2, 3, 4, 5] rfl ?_
          cases hf
          exact HJ128
        · have hf := tq_ifn ep23.symm cc
          refine tq_iconst (M := mX6_isOfType) (pc := 131) dX6_isOfType_131 tk_ki_0 ?_
          refine tq_goto (M := mX6_isOfType) (pc := 132) (tgt := 136) dX6_isOfType_132 (by decide) ?_
          refine tq_pick (L2 := [(0, .ref i0), (2, .int i2), (3, .int i3), (4, .ref i4), (6, .int y6)]) [1, 2, 3, 4, 5] rfl ?_
          cases hf
          exact HJ128
      refine tq_if_eq (M := mX6_isOfType) (pc := 102) (tgt := 109) dX6_isOfType_102 (by decide) (fun cc => ?_) (fun cc => ?_)
      · have hf := tq_ifp ep19.symm cc
        refine tq_iconst (M := mX6_isOfType) (pc := 109) dX6_isOfType_109 tk_ki_0 ?_
        cases hf
        exact HJ102
      · have hf := tq_ifn ep19.symm cc
        refine tq_iconst (M := mX6_isOfType) (pc := 105) dX6_isOfType_105 tk_ki_1 ?_
        refine tq_goto (M := mX6_isOfType) (pc := 106) (tgt := 110) dX6_isOfType_106 (by decide) ?_
        cases hf
        exact HJ102
set_option maxHeartbeats 4000000 in
theorem l_X6_isOfType_79_2 {l : Launch} {d : Nat} {Q : tq_R → tq_H → Prop} {bc bs : Nat} (hd9 : 3 ≤ d) (i0 : Nat) (i2 : Int32) (i3 : Int32) (i4 : Nat) (hh : tq_H) : ∀ (n : Nat) (y6 : Int32) (o : (Unit) ⊕ (Int32)), tq_loop (f_X6_isOfType_b79_2 i0 i2 i3 i4 hh) n y6 = some o → (match o with
    | .inl e9 => tq_W l mX6_isOfType d bc bs Q 147 [(0, .ref i0), (2, .int i2), (3, .int i3), (4, .ref i4)] [] hh
    | .inr e9 => (∀ r h9, r = .inl (some (.int e9)) ∧ hh = h9 → Q r h9)) → tq_W l mX6_isOfType d bc bs Q 79 [(0, .ref i0), (2, .int i2), (3, .int i3), (4, .ref i4), (6, .int y6)] [] hh := by
  intro n
  induction n with
  | zero => intro y6 o hl; cases hl
  | succ n ih =>
    intro y6 o hl hk
    obtain ⟨oo, hf, ho⟩ := tq_loop_s hl
    refine tq_iload (M := mX6_isOfType) (pc := 79) dX6_isOfType_79 rfl ?_
    refine tq_bipush (M := mX6_isOfType) (pc := 81) dX6_isOfType_81 tk_kb_8 ?_
    refine tq_icmp_ge (M := mX6_isOfType) (pc := 83) (tgt := 147) dX6_isOfType_83 (by decide) (fun cc => ?_) (fun cc => ?_)
    · have hf := tq_ifp hf cc
      refine tq_pick (L2 := [(0, .ref i0), (2, .int i2), (3, .int i3), (4, .ref i4)]) [0, 1, 2, 3] rfl ?_
      cases (Option.some.inj hf)
      cases (tq_lx ho)
      exact hk
    · have hf := tq_ifn hf cc
      refine tq_aload (M := mX6_isOfType) (pc := 86) dX6_isOfType_86 rfl ?_
      refine tq_iload_n (M := mX6_isOfType) (pc := 88) dX6_isOfType_88 rfl ?_
      obtain ⟨⟨⟩, eu35, hf⟩ := tq_be hf
      obtain ⟨fsu35, eu35⟩ := tq_is_s eu35
      obtain ⟨v34, ev34, hf⟩ := tq_be hf
      refine tq_calV (M := mX6_isOfType) (pc := 89) (S := []) tk_y_X3_attributesOf tk_v_X3_attributesOf tk_RX6_104 dX6_isOfType_89 [.int i2] rfl (S0 := _) rfl eu35 rfl (Nat.le_of_ble_eq_true rfl) (d1 := d - 1) (b1 := 0) (s1 := 0) (bc' := bc) (bs' := bs) (Q1 := fun r h9 => r = .inl (some (.long v34)) ∧ hh = h9) (by omega) (by omega) (by omega) (w_X3_attributesOf (by omega) ev34 (fun _ _ q => q)) (fun E h9 q => nomatch (show (Sum.inr E : tq_R) = Sum.inl _ from q.1)) (fun r9 h9 q => ?_)
      obtain ⟨q1, rfl⟩ := q
      cases (show (Sum.inl r9 : tq_R) = Sum.inl (some (.long v34)) from q1)
      refine tq_aload (M := mX6_isOfType) (pc := 92) dX6_isOfType_92 rfl ?_
      refine tq_iload (M := mX6_isOfType) (pc := 94) dX6_isOfType_94 rfl ?_
      obtain ⟨⟨⟩, eu37, hf⟩ := tq_be hf
      obtain ⟨fsu37, eu37⟩ := tq_is_s eu37
      obtain ⟨v36, ev36, hf⟩ := tq_be hf
      refine tq_calV (M := mX6_isOfType) (pc := 96) (S := [.long v34]) tk_y_X3_passing tk_v_X3_passing tk_RX6_101 dX6_isOfType_96 [.int y6] rfl (S0 := _) rfl eu37 rfl (Nat.le_of_ble_eq_true rfl) (d1 := d - 1) (b1 := 0) (s1 := 0) (bc' := bc) (bs' := bs) (Q1 := fun r h9 => r = .inl (some (.long v36)) ∧ hh = h9) (by omega) (by omega) (by omega) (w_X3_passing (by omega) ev36 (fun _ _ q => q)) (fun E h9 q => nomatch (show (Sum.inr E : tq_R) = Sum.inl _ from q.1)) (fun r9 h9 q => ?_)
      obtain ⟨q1, rfl⟩ := q
      cases (show (Sum.inl r9 : tq_R) = Sum.inl (some (.long v36)) from q1)
      refine tq_land (M := mX6_isOfType) (pc := 99) dX6_isOfType_99 ?_
      refine tq_lconst (M := mX6_isOfType) (pc := 100) dX6_isOfType_100 tk_kl_0 ?_
      refine tq_lcmp (M := mX6_isOfType) (pc := 101) dX6_isOfType_101 ?_
      obtain ⟨p38, ep38, hf⟩ := tq_le hf
      have HJ102 : tq_W l mX6_isOfType d bc bs Q 110 [(0, .ref i0), (2, .int i2), (3, .int i3), (4, .ref i4), (6, .int y6)] [.int p38] hh := by
        refine tq_istore (M := mX6_isOfType) (pc := 110) dX6_isOfType_110 (L2 := [(7, .int p38), (0, .ref i0), (2, .int i2), (3, .int i3), (4, .ref i4), (6, .int y6)]) (by decide) rfl ?_
        refine tq_aload_n (M := mX6_isOfType) (pc := 112) dX6_isOfType_112 rfl ?_
        obtain ⟨k39, ek39, hf⟩ := tq_be hf
        refine tq_getR (M := mX6_isOfType) (pc := 113) tk_c6 (by decide) dX6_isOfType_113 tk_RX6_23 rfl ek39 ?_
        refine tq_iload_n (M := mX6_isOfType) (pc := 116) dX6_isOfType_116 rfl ?_
        refine tq_bipush (M := mX6_isOfType) (pc := 117) dX6_isOfType_117 tk_kb_8 ?_
        refine tq_imul (M := mX6_isOfType) (pc := 119) dX6_isOfType_119 ?_
        refine tq_iload (M := mX6_isOfType) (pc := 120) dX6_isOfType_120 rfl ?_
        refine tq_iadd (M := mX6_isOfType) (pc := 122) dX6_isOfType_122 ?_
        obtain ⟨⟨⟩, eu41, hf⟩ := tq_be hf
        obtain ⟨fsu41, eu41⟩ := tq_is_s eu41
        obtain ⟨v40, ev40, hf⟩ := tq_be hf
        refine tq_calV (M := mX6_isOfType) (pc := 123) (S := []) tk_y_X5_get tk_v_X5_get tk_RX6_52 dX6_isOfType_123 [.int (((i3 * (8 : Int32)) + y6))] rfl (S0 := _) rfl eu41 rfl (Nat.le_of_ble_eq_true rfl) (d1 := d - 1) (b1 := 0) (s1 := 0) (bc' := bc) (bs' := bs) (Q1 := fun r h9 => r = .inl (some (.int v40)) ∧ hh = h9) (by omega) (by omega) (by omega) (w_X5_get (by omega) ev40 (fun _ _ q => q)) (fun E h9 q => nomatch (show (Sum.inr E : tq_R) = Sum.inl _ from q.1)) (fun r9 h9 q => ?_)
        obtain ⟨q1, rfl⟩ := q
        cases (show (Sum.inl r9 : tq_R) = Sum.inl (some (.int v40)) from q1)
        refine tq_iload (M := mX6_isOfType) (pc := 126) dX6_isOfType_126 rfl ?_
        obtain ⟨p42, ep42, hf⟩ := tq_le hf
        have HJ128 : tq_W l mX6_isOfType d bc bs Q 136 [(0, .ref i0), (2, .int i2), (3, .int i3), (4, .ref i4), (6, .int y6)] [.int p42, .int v40] hh := by
          refine tq_icmp_ne (M := mX6_isOfType) (pc := 136) (tgt := 141) dX6_isOfType_136 (by decide) (fun cc => ?_) (fun cc => ?_)
          · have hf := tq_ifn hf cc
            obtain ⟨x43, ex43, hf⟩ := tq_le hf
            refine tq_iinc (M := mX6_isOfType) (pc := 141) (v := x43) (L2 := [(6, .int x43), (0, .ref i0), (2, .int i2), (3, .int i3), (4, .ref i4)]) dX6_isOfType_141 rfl (by rw [ex43, tk_ki_1]) (by decide) rfl ?_
            refine tq_goto (M := mX6_isOfType) (pc := 144) (tgt := 79) dX6_isOfType_144 (by decide) ?_
            refine tq_pick (L2 := [(0, .ref i0), (2, .int i2), (3, .int i3), (4, .ref i4), (6, .int x43)]) [1, 2, 3, 4, 0] rfl ?_
            cases (Option.some.inj hf)
            exact ih _ o (tq_lc ho) hk
          · have hf := tq_ifp hf cc
            refine tq_iconst (M := mX6_isOfType) (pc := 139) dX6_isOfType_139 tk_ki_0 ?_
            refine tq_zret (M := mX6_isOfType) (pc := 140) dX6_isOfType_140 rfl (Or.inl rfl) ?_
            cases (Option.some.inj hf)
            cases (tq_lx ho)
            exact hk _ _ ⟨rfl, rfl⟩
        refine tq_if_eq (M := mX6_isOfType) (pc := 128) (tgt := 135) dX6_isOfType_128 (by decide) (fun cc => ?_) (fun cc => ?_)
        · have hf := tq_ifp ep42.symm cc
          refine tq_iconst (M := mX6_isOfType) (pc := 135) dX6_isOfType_135 tk_ki_2 ?_
          refine tq_pick (L2 := [(0, .ref i0), (2, .int i2), (3, .int i3), (4, .ref i4), (6, .int y6)]) [1, 2, 3, 4, 5] rfl ?_
          cases hf
          exact HJ128
        · have hf := tq_ifn ep42.symm cc
          refine tq_iconst (M := mX6_isOfType) (pc := 131) dX6_isOfType_131 tk_ki_0 ?_
          refine tq_goto (M := mX6_isOfType) (pc := 132) (tgt := 136) dX6_isOfType_132 (by decide) ?_
          refine tq_pick (L2 := [(0, .ref i0), (2, .int i2), (3, .int i3), (4, .ref i4), (6, .int y6)]) [1, 2, 3, 4, 5] rfl ?_
          cases hf
          exact HJ128
      refine tq_if_eq (M := mX6_isOfType) (pc := 102) (tgt := 109) dX6_isOfType_102 (by decide) (fun cc => ?_) (fun cc => ?_)
      · have hf := tq_ifp ep38.symm cc
        refine tq_iconst (M := mX6_isOfType) (pc := 109) dX6_isOfType_109 tk_ki_0 ?_
        cases hf
        exact HJ102
      · have hf := tq_ifn ep38.symm cc
        refine tq_iconst (M := mX6_isOfType) (pc := 105) dX6_isOfType_105 tk_ki_1 ?_
        refine tq_goto (M := mX6_isOfType) (pc := 106) (tgt := 110) dX6_isOfType_106 (by decide) ?_
        cases hf
        exact HJ102
set_option maxHeartbeats 4000000 in
set_option maxRecDepth 20000 in
theorem w_X6_isOfType {l : Launch} {d : Nat} (hd9 : 3 ≤ d) {t : Nat} {a1 : Nat} {a2 : Int32} {a3 : Int32} {h : tq_H} {o : Int32} {Q : tq_R → tq_H → Prop} (hf : f_X6_isOfType t a1 a2 a3 h = some o) (hQ : ∀ r h9, r = .inl (some (.int o)) ∧ h = h9 → Q r h9) : tq_C l yX6_isOfType cX6_isOfType 8 (some .boolean) d 0 0 [.ref t, .ref a1, .int a2, .int a3] h Q := by
  refine tq_body (y := yX6_isOfType) false (by decide +kernel) (fun z => by cases z) (Nat.le_of_ble_eq_true rfl) ?_
  show tq_W l mX6_isOfType d 0 0 Q 0 [(0, .ref t), (1, .ref a1), (2, .int a2), (3, .int a3)] [] h
  refine tq_aload_n (M := mX6_isOfType) (pc := 0) dX6_isOfType_0 rfl ?_
  obtain ⟨k1, ek1, hf⟩ := tq_be hf
  refine tq_getR (M := mX6_isOfType) (pc := 1) tk_c8 (by decide) dX6_isOfType_1 tk_RX6_67 rfl ek1 ?_
  refine tq_astore (M := mX6_isOfType) (pc := 4) dX6_isOfType_4 (L2 := [(4, .ref k1), (0, .ref t), (1, .ref a1), (2, .int a2), (3, .int a3)]) (by decide) rfl ?_
  refine tq_aload_n (M := mX6_isOfType) (pc := 6) dX6_isOfType_6 rfl ?_
  obtain ⟨k2, ek2, hf⟩ := tq_be hf
  refine tq_getR (M := mX6_isOfType) (pc := 7) tk_c6 (by decide) dX6_isOfType_7 tk_RX6_14 rfl ek2 ?_
  refine tq_iload_n (M := mX6_isOfType) (pc := 10) dX6_isOfType_10 rfl ?_
  obtain ⟨⟨⟩, eu4, hf⟩ := tq_be hf
  obtain ⟨fsu4, eu4⟩ := tq_is_s eu4
  obtain ⟨v3, ev3, hf⟩ := tq_be hf
  refine tq_calV (M := mX6_isOfType) (pc := 11) (S := []) tk_y_X5_get tk_v_X5_get tk_RX6_52 dX6_isOfType_11 [.int a3] rfl (S0 := _) rfl eu4 rfl (Nat.le_of_ble_eq_true rfl) (d1 := d - 1) (b1 := 0) (s1 := 0) (bc' := 0) (bs' := 0) (Q1 := fun r h9 => r = .inl (some (.int v3)) ∧ h = h9) (by omega) rfl rfl (w_X5_get (by omega) ev3 (fun _ _ q => q)) (fun E h9 q => nomatch (show (Sum.inr E : tq_R) = Sum.inl _ from q.1)) (fun r9 h9 q => ?_)
  obtain ⟨q1, rfl⟩ := q
  cases (show (Sum.inl r9 : tq_R) = Sum.inl (some (.int v3)) from q1)
  refine tq_aload_n (M := mX6_isOfType) (pc := 14) dX6_isOfType_14 rfl ?_
  obtain ⟨k5, ek5, hf⟩ := tq_be hf
  refine tq_getR (M := mX6_isOfType) (pc := 15) tk_c8 (by decide) dX6_isOfType_15 tk_RX6_93 rfl ek5 ?_
  refine tq_aload (M := mX6_isOfType) (pc := 18) dX6_isOfType_18 rfl ?_
  refine tq_iload_n (M := mX6_isOfType) (pc := 20) dX6_isOfType_20 rfl ?_
  obtain ⟨⟨⟩, eu7, hf⟩ := tq_be hf
  obtain ⟨fsu7, eu7⟩ := tq_is_s eu7
  obtain ⟨v6, ev6, hf⟩ := tq_be hf
  refine tq_calV (M := mX6_isOfType) (pc := 21) (S := [.ref k5, .int v3]) tk_y_X3_nodeAt tk_v_X3_nodeAt tk_RX6_94 dX6_isOfType_21 [.int a2] rfl (S0 := _) rfl eu7 rfl (Nat.le_of_ble_eq_true rfl) (d1 := d - 1) (b1 := 0) (s1 := 0) (bc' := 0) (bs' := 0) (Q1 := fun r h9 => r = .inl (some (.int v6)) ∧ h = h9) (by omega) rfl rfl (w_X3_nodeAt (by omega) ev6 (fun _ _ q => q)) (fun E h9 q => nomatch (show (Sum.inr E : tq_R) = Sum.inl _ from q.1)) (fun r9 h9 q => ?_)
  obtain ⟨q1, rfl⟩ := q
  cases (show (Sum.inl r9 : tq_R) = Sum.inl (some (.int v6)) from q1)
  obtain ⟨⟨⟩, eu9, hf⟩ := tq_be hf
  obtain ⟨fsu9, eu9⟩ := tq_is_s eu9
  obtain ⟨v8, ev8, hf⟩ := tq_be hf
  refine tq_calV (M := mX6_isOfType) (pc := 24) (S := [.int v3]) tk_y_X5_get tk_v_X5_get tk_RX6_52 dX6_isOfType_24 [.int v6] rfl (S0 := _) rfl eu9 rfl (Nat.le_of_ble_eq_true rfl) (d1 := d - 1) (b1 := 0) (s1 := 0) (bc' := 0) (bs' := 0) (Q1 := fun r h9 => r = .inl (some (.int v8)) ∧ h = h9) (by omega) rfl rfl (w_X5_get (by omega) ev8 (fun _ _ q => q)) (fun E h9 q => nomatch (show (Sum.inr E : tq_R) = Sum.inl _ from q.1)) (fun r9 h9 q => ?_)
  obtain ⟨q1, rfl⟩ := q
  cases (show (Sum.inl r9 : tq_R) = Sum.inl (some (.int v8)) from q1)
  refine tq_icmp_eq (M := mX6_isOfType) (pc := 27) (tgt := 32) dX6_isOfType_27 (by decide) (fun cc => ?_) (fun cc => ?_)
  · have hf := tq_ifp hf cc
    refine tq_aload (M := mX6_isOfType) (pc := 32) dX6_isOfType_32 rfl ?_
    refine tq_iload_n (M := mX6_isOfType) (pc := 34) dX6_isOfType_34 rfl ?_
    obtain ⟨⟨⟩, eu11, hf⟩ := tq_be hf
    obtain ⟨fsu11, eu11⟩ := tq_is_s eu11
    obtain ⟨v10, ev10, hf⟩ := tq_be hf
    refine tq_calV (M := mX6_isOfType) (pc := 35) (S := []) tk_y_X3_children tk_v_X3_children tk_RX6_97 dX6_isOfType_35 [.int a2] rfl (S0 := _) rfl eu11 rfl (Nat.le_of_ble_eq_true rfl) (d1 := d - 1) (b1 := 0) (s1 := 0) (bc' := 0) (bs' := 0) (Q1 := fun r h9 => r = .inl (some (.long v10)) ∧ h = h9) (by omega) rfl rfl (w_X3_children (by omega) ev10 (fun _ _ q => q)) (fun E h9 q => nomatch (show (Sum.inr E : tq_R) = Sum.inl _ from q.1)) (fun r9 h9 q => ?_)
    obtain ⟨q1, rfl⟩ := q
    cases (show (Sum.inl r9 : tq_R) = Sum.inl (some (.long v10)) from q1)
    refine tq_aload (M := mX6_isOfType) (pc := 38) dX6_isOfType_38 rfl ?_
    refine tq_bipush (M := mX6_isOfType) (pc := 40) dX6_isOfType_40 tk_kb_9 ?_
    obtain ⟨⟨⟩, eu13, hf⟩ := tq_be hf
    obtain ⟨fsu13, eu13⟩ := tq_is_s eu13
    obtain ⟨v12, ev12, hf⟩ := tq_be hf
    refine tq_calV (M := mX6_isOfType) (pc := 42) (S := [.long v10]) tk_y_X3_passing tk_v_X3_passing tk_RX6_101 dX6_isOfType_42 [.int (9 : Int32)] rfl (S0 := _) rfl eu13 rfl (Nat.le_of_ble_eq_true rfl) (d1 := d - 1) (b1 := 0) (s1 := 0) (bc' := 0) (bs' := 0) (Q1 := fun r h9 => r = .inl (some (.long v12)) ∧ h = h9) (by omega) rfl rfl (w_X3_passing (by omega) ev12 (fun _ _ q => q)) (fun E h9 q => nomatch (show (Sum.inr E : tq_R) = Sum.inl _ from q.1)) (fun r9 h9 q => ?_)
    obtain ⟨q1, rfl⟩ := q
    cases (show (Sum.inl r9 : tq_R) = Sum.inl (some (.long v12)) from q1)
    refine tq_land (M := mX6_isOfType) (pc := 45) dX6_isOfType_45 ?_
    refine tq_lconst (M := mX6_isOfType) (pc := 46) dX6_isOfType_46 tk_kl_0 ?_
    refine tq_lcmp (M := mX6_isOfType) (pc := 47) dX6_isOfType_47 ?_
    obtain ⟨p14, ep14, hf⟩ := tq_le hf
    have HJ48 : tq_W l mX6_isOfType d 0 0 Q 56 [(0, .ref t), (2, .int a2), (3, .int a3), (4, .ref k1)] [.int p14] h := by
      refine tq_istore (M := mX6_isOfType) (pc := 56) dX6_isOfType_56 (L2 := [(5, .int p14), (0, .ref t), (2, .int a2), (3, .int a3), (4, .ref k1)]) (by decide) rfl ?_
      refine tq_iload (M := mX6_isOfType) (pc := 58) dX6_isOfType_58 rfl ?_
      refine tq_if_eq (M := mX6_isOfType) (pc := 60) (tgt := 76) dX6_isOfType_60 (by decide) (fun cc => ?_) (fun cc => ?_)
      · have hf := tq_ifp hf cc
        refine tq_iconst (M := mX6_isOfType) (pc := 76) dX6_isOfType_76 tk_ki_0 ?_
        refine tq_istore (M := mX6_isOfType) (pc := 77) dX6_isOfType_77 (L2 := [(6, .int (0 : Int32)), (5, .int p14), (0, .ref t), (2, .int a2), (3, .int a3), (4, .ref k1)]) (by decide) rfl ?_
        obtain ⟨o25, eo25, hf⟩ := tq_be hf
        refine tq_pick (L2 := [(0, .ref t), (2, .int a2), (3, .int a3), (4, .ref k1), (6, .int (0 : Int32))]) [2, 3, 4, 5, 0] rfl ?_
        refine l_X6_isOfType_79 (bc := 0) (bs := 0) (by omega) t a2 a3 k1 h _ (0 : Int32) _ eo25 ?_
        cases o25 with
        | inl o25 =>
          refine tq_aload_n (M := mX6_isOfType) (pc := 147) dX6_isOfType_147 rfl ?_
          refine tq_aload (M := mX6_isOfType) (pc := 148) dX6_isOfType_148 rfl ?_
          refine tq_iload_n (M := mX6_isOfType) (pc := 150) dX6_isOfType_150 rfl ?_
          obtain ⟨⟨⟩, eu27, hf⟩ := tq_be hf
          obtain ⟨fsu27, eu27⟩ := tq_is_s eu27
          obtain ⟨v26, ev26, hf⟩ := tq_be hf
          refine tq_calV (M := mX6_isOfType) (pc := 151) (S := [.ref t]) tk_y_X3_children tk_v_X3_children tk_RX6_97 dX6_isOfType_151 [.int a2] rfl (S0 := _) rfl eu27 rfl (Nat.le_of_ble_eq_true rfl) (d1 := d - 1) (b1 := 0) (s1 := 0) (bc' := 0) (bs' := 0) (Q1 := fun r h9 => r = .inl (some (.long v26)) ∧ h = h9) (by omega) rfl rfl (w_X3_children (by omega) ev26 (fun _ _ q => q)) (fun E h9 q => nomatch (show (Sum.inr E : tq_R) = Sum.inl _ from q.1)) (fun r9 h9 q => ?_)
          obtain ⟨q1, rfl⟩ := q
          cases (show (Sum.inl r9 : tq_R) = Sum.inl (some (.long v26)) from q1)
          refine tq_aload (M := mX6_isOfType) (pc := 154) dX6_isOfType_154 rfl ?_
          obtain ⟨⟨⟩, eu29, hf⟩ := tq_be hf
          obtain ⟨fsu29, eu29⟩ := tq_is_s eu29
          obtain ⟨v28, ev28, hf⟩ := tq_be hf
          refine tq_calV (M := mX6_isOfType) (pc := 156) (S := [.long v26, .ref t]) tk_y_X3_elements tk_v_X3_elements tk_RX6_79 dX6_isOfType_156 [] rfl (S0 := _) rfl eu29 rfl (Nat.le_of_ble_eq_true rfl) (d1 := d - 1) (b1 := 0) (s1 := 0) (bc' := 0) (bs' := 0) (Q1 := fun r h9 => r = .inl (some (.long v28)) ∧ h = h9) (by omega) rfl rfl (w_X3_elements (by omega) ev28 (fun _ _ q => q)) (fun E h9 q => nomatch (show (Sum.inr E : tq_R) = Sum.inl _ from q.1)) (fun r9 h9 q => ?_)
          obtain ⟨q1, rfl⟩ := q
          cases (show (Sum.inl r9 : tq_R) = Sum.inl (some (.long v28)) from q1)
          refine tq_land (M := mX6_isOfType) (pc := 159) dX6_isOfType_159 ?_
          refine tq_iload_n (M := mX6_isOfType) (pc := 160) dX6_isOfType_160 rfl ?_
          obtain ⟨⟨⟩, eu31, hf⟩ := tq_be hf
          obtain ⟨fsu31, eu31⟩ := tq_is_s eu31
          obtain ⟨v30, ev30, hf⟩ := tq_be hf
          refine tq_calV (M := mX6_isOfType) (pc := 161) (S := []) tk_y_X6_isAccepted tk_v_X6_isAccepted tk_RX6_107 dX6_isOfType_161 [.long ((v26 &&& v28)), .int a3] rfl (S0 := _) rfl eu31 rfl (Nat.le_of_ble_eq_true rfl) (d1 := d - 1) (b1 := 0) (s1 := 0) (bc' := 0) (bs' := 0) (Q1 := fun r h9 => r = .inl (some (.int v30)) ∧ h = h9) (by omega) rfl rfl (w_X6_isAccepted (by omega) ev30 (fun _ _ q => q)) (fun E h9 q => nomatch (show (Sum.inr E : tq_R) = Sum.inl _ from q.1)) (fun r9 h9 q => ?_)
          obtain ⟨q1, rfl⟩ := q
          cases (show (Sum.inl r9 : tq_R) = Sum.inl (some (.int v30)) from q1)
          obtain ⟨z32, ez32, hf⟩ := tq_be hf
          refine tq_zretB (M := mX6_isOfType) (pc := 164) dX6_isOfType_164 rfl ez32 ?_
          cases (Option.some.inj hf)
          exact hQ _ _ ⟨rfl, rfl⟩
        | inr e9 =>
          cases (Option.some.inj hf)
          exact hQ
      · have hf := tq_ifn hf cc
        refine tq_aload_n (M := mX6_isOfType) (pc := 63) dX6_isOfType_63 rfl ?_
        obtain ⟨x33, ex33, hf⟩ := tq_be hf
        refine tq_getI (M := mX6_isOfType) (pc := 64) tk_c6 (by decide) dX6_isOfType_64 tk_RX6_41 rfl ex33 ?_
        refine tq_iload_n (M := mX6_isOfType) (pc := 67) dX6_isOfType_67 rfl ?_
        refine tq_ishr (M := mX6_isOfType) (pc := 68) dX6_isOfType_68 ?_
        refine tq_iconst (M := mX6_isOfType) (pc := 69) dX6_isOfType_69 tk_ki_1 ?_
        refine tq_iand (M := mX6_isOfType) (pc := 70) dX6_isOfType_70 ?_
        refine tq_if_ne (M := mX6_isOfType) (pc := 71) (tgt := 76) dX6_isOfType_71 (by decide) (fun cc => ?_) (fun cc => ?_)
        · have hf := tq_ifn hf cc
          refine tq_iconst (M := mX6_isOfType) (pc := 76) dX6_isOfType_76 tk_ki_0 ?_
          refine tq_istore (M := mX6_isOfType) (pc := 77) dX6_isOfType_77 (L2 := [(6, .int (0 : Int32)), (5, .int p14), (0, .ref t), (2, .int a2), (3, .int a3), (4, .ref k1)]) (by decide) rfl ?_
          obtain ⟨o44, eo44, hf⟩ := tq_be hf
          refine tq_pick (L2 := [(0, .ref t), (2, .int a2), (3, .int a3), (4, .ref k1), (6, .int (0 : Int32))]) [2, 3, 4, 5, 0] rfl ?_
          refine l_X6_isOfType_79_2 (bc := 0) (bs := 0) (by omega) t a2 a3 k1 h _ (0 : Int32) _ eo44 ?_
          cases o44 with
          | inl o44 =>
            refine tq_aload_n (M := mX6_isOfType) (pc := 147) dX6_isOfType_147 rfl ?_
            refine tq_aload (M := mX6_isOfType) (pc := 148) dX6_isOfType_148 rfl ?_
            refine tq_iload_n (M := mX6_isOfType) (pc := 150) dX6_isOfType_150 rfl ?_
            obtain ⟨⟨⟩, eu46, hf⟩ := tq_be hf
            obtain ⟨fsu46, eu46⟩ := tq_is_s eu46
            obtain ⟨v45, ev45, hf⟩ := tq_be hf
            refine tq_calV (M := mX6_isOfType) (pc := 151) (S := [.ref t]) tk_y_X3_children tk_v_X3_children tk_RX6_97 dX6_isOfType_151 [.int a2] rfl (S0 := _) rfl eu46 rfl (Nat.le_of_ble_eq_true rfl) (d1 := d - 1) (b1 := 0) (s1 := 0) (bc' := 0) (bs' := 0) (Q1 := fun r h9 => r = .inl (some (.long v45)) ∧ h = h9) (by omega) rfl rfl (w_X3_children (by omega) ev45 (fun _ _ q => q)) (fun E h9 q => nomatch (show (Sum.inr E : tq_R) = Sum.inl _ from q.1)) (fun r9 h9 q => ?_)
            obtain ⟨q1, rfl⟩ := q
            cases (show (Sum.inl r9 : tq_R) = Sum.inl (some (.long v45)) from q1)
            refine tq_aload (M := mX6_isOfType) (pc := 154) dX6_isOfType_154 rfl ?_
            obtain ⟨⟨⟩, eu48, hf⟩ := tq_be hf
            obtain ⟨fsu48, eu48⟩ := tq_is_s eu48
            obtain ⟨v47, ev47, hf⟩ := tq_be hf
            refine tq_calV (M := mX6_isOfType) (pc := 156) (S := [.long v45, .ref t]) tk_y_X3_elements tk_v_X3_elements tk_RX6_79 dX6_isOfType_156 [] rfl (S0 := _) rfl eu48 rfl (Nat.le_of_ble_eq_true rfl) (d1 := d - 1) (b1 := 0) (s1 := 0) (bc' := 0) (bs' := 0) (Q1 := fun r h9 => r = .inl (some (.long v47)) ∧ h = h9) (by omega) rfl rfl (w_X3_elements (by omega) ev47 (fun _ _ q => q)) (fun E h9 q => nomatch (show (Sum.inr E : tq_R) = Sum.inl _ from q.1)) (fun r9 h9 q => ?_)
            obtain ⟨q1, rfl⟩ := q
            cases (show (Sum.inl r9 : tq_R) = Sum.inl (some (.long v47)) from q1)
            refine tq_land (M := mX6_isOfType) (pc := 159) dX6_isOfType_159 ?_
            refine tq_iload_n (M := mX6_isOfType) (pc := 160) dX6_isOfType_160 rfl ?_
            obtain ⟨⟨⟩, eu50, hf⟩ := tq_be hf
            obtain ⟨fsu50, eu50⟩ := tq_is_s eu50
            obtain ⟨v49, ev49, hf⟩ := tq_be hf
            refine tq_calV (M := mX6_isOfType) (pc := 161) (S := []) tk_y_X6_isAccepted tk_v_X6_isAccepted tk_RX6_107 dX6_isOfType_161 [.long ((v45 &&& v47)), .int a3] rfl (S0 := _) rfl eu50 rfl (Nat.le_of_ble_eq_true rfl) (d1 := d - 1) (b1 := 0) (s1 := 0) (bc' := 0) (bs' := 0) (Q1 := fun r h9 => r = .inl (some (.int v49)) ∧ h = h9) (by omega) rfl rfl (w_X6_isAccepted (by omega) ev49 (fun _ _ q => q)) (fun E h9 q => nomatch (show (Sum.inr E : tq_R) = Sum.inl _ from q.1)) (fun r9 h9 q => ?_)
            obtain ⟨q1, rfl⟩ := q
            cases (show (Sum.inl r9 : tq_R) = Sum.inl (some (.int v49)) from q1)
            obtain ⟨z51, ez51, hf⟩ := tq_be hf
            refine tq_zretB (M := mX6_isOfType) (pc := 164) dX6_isOfType_164 rfl ez51 ?_
            cases (Option.some.inj hf)
            exact hQ _ _ ⟨rfl, rfl⟩
          | inr e9 =>
            cases (Option.some.inj hf)
            exact hQ
        · have hf := tq_ifp hf cc
          refine tq_iconst (M := mX6_isOfType) (pc := 74) dX6_isOfType_74 tk_ki_0 ?_
          refine tq_zret (M := mX6_isOfType) (pc := 75) dX6_isOfType_75 rfl (Or.inl rfl) ?_
          cases (Option.some.inj hf)
          exact hQ _ _ ⟨rfl, rfl⟩
    refine tq_if_eq (M := mX6_isOfType) (pc := 48) (tgt := 55) dX6_isOfType_48 (by decide) (fun cc => ?_) (fun cc => ?_)
    · have hf := tq_ifp ep14.symm cc
      refine tq_iconst (M := mX6_isOfType) (pc := 55) dX6_isOfType_55 tk_ki_0 ?_
      refine tq_pick (L2 := [(0, .ref t), (2, .int a2), (3, .int a3), (4, .ref k1)]) [1, 3, 4, 0] rfl ?_
      cases hf
      exact HJ48
    · have hf := tq_ifn ep14.symm cc
      refine tq_iconst (M := mX6_isOfType) (pc := 51) dX6_isOfType_51 tk_ki_1 ?_
      refine tq_goto (M := mX6_isOfType) (pc := 52) (tgt := 56) dX6_isOfType_52 (by decide) ?_
      refine tq_pick (L2 := [(0, .ref t), (2, .int a2), (3, .int a3), (4, .ref k1)]) [1, 3, 4, 0] rfl ?_
      cases hf
      exact HJ48
  · have hf := tq_ifn hf cc
    refine tq_iconst (M := mX6_isOfType) (pc := 30) dX6_isOfType_30 tk_ki_0 ?_
    refine tq_zret (M := mX6_isOfType) (pc := 31) dX6_isOfType_31 rfl (Or.inl rfl) ?_
    cases (Option.some.inj hf)
    exact hQ _ _ ⟨rfl, rfl⟩
abbrev mX6_typesOf : tq_M := (RX6, cX6_typesOf, 6, (some .int), false, [], none)
def f_X6_typesOf_b25 (i0 : Nat) (i1 : Nat) (i2 : Int32) (i3 : Int32) (hh : tq_H) (s : Int32 × Int32) : Option ((Int32 × Int32) ⊕ (Int32)) := match s with
  | (y4, y5) =>
    if y5 ≥ (6 : Int32) then
      some (.inr y4)
    else
      (tq_gr hh i1 8 0).bind fun k5 =>
      (tq_is hh k5 3).bind fun _ =>
      (f_X3_elements k5 hh).bind fun v6 =>
      (f_X0_holds v6 i3 hh).bind fun v8 =>
      (if v8 = 0 then
        some y4
      else
        (tq_is hh i0 6).bind fun _ =>
        (f_X6_isOfType i0 i1 i3 y5 hh).bind fun v9 =>
        if v9 = 0 then
          some y4
        else
          tq_let ((y4 ||| ((1 : Int32) <<< (y5 &&& 31)))) fun x11 =>
          some x11).bind fun p12 =>
      tq_let (y5 + (1 : Int32)) fun x13 =>
      some (.inl (p12, x13))
def f_X6_typesOf_b10 (i0 : Nat) (i1 : Nat) (i2 : Int32) (s : Int32 × tq_H) : Option ((Int32 × tq_H) ⊕ (tq_H)) := match s with
  | (y3, hh) =>
    if y3 < i2 then
      some (.inr hh)
    else
      if y3 < 0 then
        some (.inr hh)
      else
        (tq_loop (f_X6_typesOf_b25 i0 i1 i2 y3 hh) tq_N ((0 : Int32), (0 : Int32))).bind fun o14 =>
        (tq_gr hh i0 6 4).bind fun k15 =>
        (tq_is hh k15 5).bind fun _ =>
        (f_X5_set k15 y3 o14 hh).bind fun v16 =>
        tq_let (y3 + (-1 : Int32)) fun x18 =>
        some (.inl (x18, v16))
def f_X6_typesOf (t : Nat) (a1 : Nat) (a2 : Int32) (h : tq_H) : Option (Int32 × tq_H) :=
  (tq_gr h a1 8 0).bind fun k1 =>
  (tq_is h k1 3).bind fun _ =>
  (f_X3_count k1 h).bind fun v2 =>
  tq_let ((v2 - (1 : Int32))) fun x4 =>
  (tq_loop (f_X6_typesOf_b10 t a1 a2) tq_N (x4, h)).bind fun o19 =>
  (tq_gr o19 t 6 4).bind fun k20 =>
  (tq_is o19 k20 5).bind fun _ =>
  (f_X5_get k20 a2 o19).bind fun v21 =>
  some (v21, o19)
set_option maxHeartbeats 4000000 in
theorem l_X6_typesOf_25 {l : Launch} {d : Nat} {Q : tq_R → tq_H → Prop} {bc bs : Nat} (hd9 : 4 ≤ d) (i0 : Nat) (i1 : Nat) (i2 : Int32) (i3 : Int32) (hh : tq_H) : ∀ (n : Nat) (y4 : Int32) (y5 : Int32) (o : Int32), tq_loop (f_X6_typesOf_b25 i0 i1 i2 i3 hh) n (y4, y5) = some o → tq_W l mX6_typesOf d bc bs Q 72 [(0, .ref i0), (1, .ref i1), (2, .int i2), (3, .int i3), (4, .int o)] [] hh → tq_W l mX6_typesOf d bc bs Q 25 [(0, .ref i0), (1, .ref i1), (2, .int i2), (3, .int i3), (4, .int y4), (5, .int y5)] [] hh := by
  intro n
  induction n with
  | zero => intro y4 y5 o hl; cases hl
  | succ n ih =>
    intro y4 y5 o hl hk
    obtain ⟨oo, hf, ho⟩ := tq_loop_s hl
    refine tq_iload (M := mX6_typesOf) (pc := 25) dX6_typesOf_25 rfl ?_
    refine tq_bipush (M := mX6_typesOf) (pc := 27) dX6_typesOf_27 tk_kb_6 ?_
    refine tq_icmp_ge (M := mX6_typesOf) (pc := 29) (tgt := 72) dX6_typesOf_29 (by decide) (fun cc => ?_) (fun cc => ?_)
    · have hf := tq_ifp hf cc
      refine tq_pick (L2 := [(0, .ref i0), (1, .ref i1), (2, .int i2), (3, .int i3), (4, .int y4)]) [0, 1, 2, 3, 4] rfl ?_
      cases (Option.some.inj hf)
      cases (tq_lx ho)
      exact hk
    · have hf := tq_ifn hf cc
      refine tq_aload_n (M := mX6_typesOf) (pc := 32) dX6_typesOf_32 rfl ?_
      obtain ⟨k5, ek5, hf⟩ := tq_be hf
      refine tq_getR (M := mX6_typesOf) (pc := 33) tk_c8 (by decide) dX6_typesOf_33 tk_RX6_67 rfl ek5 ?_
      obtain ⟨⟨⟩, eu7, hf⟩ := tq_be hf
      obtain ⟨fsu7, eu7⟩ := tq_is_s eu7
      obtain ⟨v6, ev6, hf⟩ := tq_be hf
      refine tq_calV (M := mX6_typesOf) (pc := 36) (S := []) tk_y_X3_elements tk_v_X3_elements tk_RX6_79 dX6_typesOf_36 [] rfl (S0 := _) rfl eu7 rfl (Nat.le_of_ble_eq_true rfl) (d1 := d - 1) (b1 := 0) (s1 := 0) (bc' := bc) (bs' := bs) (Q1 := fun r h9 => r = .inl (some (.long v6)) ∧ hh = h9) (by omega) (by omega) (by omega) (w_X3_elements (by omega) ev6 (fun _ _ q => q)) (fun E h9 q => nomatch (show (Sum.inr E : tq_R) = Sum.inl _ from q.1)) (fun r9 h9 q => ?_)
      obtain ⟨q1, rfl⟩ := q
      cases (show (Sum.inl r9 : tq_R) = Sum.inl (some (.long v6)) from q1)
      refine tq_iload_n (M := mX6_typesOf) (pc := 39) dX6_typesOf_39 rfl ?_
      obtain ⟨v8, ev8, hf⟩ := tq_be hf
      refine tq_calS (M := mX6_typesOf) (pc := 40) (S := []) tk_y_X0_holds tk_s_X0_holds tk_RX6_83 dX6_typesOf_40 [.long v6, .int i3] rfl (Nat.le_of_ble_eq_true rfl) (d1 := d - 1) (b1 := 0) (s1 := 0) (bc' := bc) (bs' := bs) (Q1 := fun r h9 => r = .inl (some (.int v8)) ∧ hh = h9) (by omega) (by omega) (by omega) (w_X0_holds (by omega) ev8 (fun _ _ q => q)) (fun E h9 q => nomatch (show (Sum.inr E : tq_R) = Sum.inl _ from q.1)) (fun r9 h9 q => ?_)
      obtain ⟨q1, rfl⟩ := q
      cases (show (Sum.inl r9 : tq_R) = Sum.inl (some (.int v8)) from q1)
      obtain ⟨p12, ep12, hf⟩ := tq_be hf
      have HJ43 : tq_W l mX6_typesOf d bc bs Q 66 [(0, .ref i0), (1, .ref i1), (2, .int i2), (3, .int i3), (4, .int p12), (5, .int y5)] [] hh := by
        obtain ⟨x13, ex13, hf⟩ := tq_le hf
        refine tq_iinc (M := mX6_typesOf) (pc := 66) (v := x13) (L2 := [(5, .int x13), (0, .ref i0), (1, .ref i1), (2, .int i2), (3, .int i3), (4, .int p12)]) dX6_typesOf_66 rfl (by rw [ex13, tk_ki_1]) (by decide) rfl ?_
        refine tq_goto (M := mX6_typesOf) (pc := 69) (tgt := 25) dX6_typesOf_69 (by decide) ?_
        refine tq_pick (L2 := [(0, .ref i0), (1, .ref i1), (2, .int i2), (3, .int i3), (4, .int p12), (5, .int x13)]) [1, 2, 3, 4, 5, 0] rfl ?_
        cases (Option.some.inj hf)
        exact ih _ _ o (tq_lc ho) hk
      refine tq_if_eq (M := mX6_typesOf) (pc := 43) (tgt := 66) dX6_typesOf_43 (by decide) (fun cc => ?_) (fun cc => ?_)
      · have hf := tq_ifp ep12 cc
        cases (Option.some.inj hf)
        exact HJ43
      · have hf := tq_ifn ep12 cc
        refine tq_aload_n (M := mX6_typesOf) (pc := 46) dX6_typesOf_46 rfl ?_
        refine tq_aload_n (M := mX6_typesOf) (pc := 47) dX6_typesOf_47 rfl ?_
        refine tq_iload_n (M := mX6_typesOf) (pc := 48) dX6_typesOf_48 rfl ?_
        refine tq_iload (M := mX6_typesOf) (pc := 49) dX6_typesOf_49 rfl ?_
        obtain ⟨⟨⟩, eu10, hf⟩ := tq_be hf
        obtain ⟨fsu10, eu10⟩ := tq_is_s eu10
        obtain ⟨v9, ev9, hf⟩ := tq_be hf
        refine tq_calV (M := mX6_typesOf) (pc := 51) (S := []) tk_y_X6_isOfType tk_v_X6_isOfType tk_RX6_89 dX6_typesOf_51 [.ref i1, .int i3, .int y5] rfl (S0 := _) rfl eu10 rfl (Nat.le_of_ble_eq_true rfl) (d1 := d - 1) (b1 := 0) (s1 := 0) (bc' := bc) (bs' := bs) (Q1 := fun r h9 => r = .inl (some (.int v9)) ∧ hh = h9) (by omega) (by omega) (by omega) (w_X6_isOfType (by omega) ev9 (fun _ _ q => q)) (fun E h9 q => nomatch (show (Sum.inr E : tq_R) = Sum.inl _ from q.1)) (fun r9 h9 q => ?_)
        obtain ⟨q1, rfl⟩ := q
        cases (show (Sum.inl r9 : tq_R) = Sum.inl (some (.int v9)) from q1)
        refine tq_if_eq (M := mX6_typesOf) (pc := 54) (tgt := 66) dX6_typesOf_54 (by decide) (fun cc => ?_) (fun cc => ?_)
        · have hf := tq_ifp hf cc
          cases (Option.some.inj hf)
          exact HJ43
        · have hf := tq_ifn hf cc
          refine tq_iload (M := mX6_typesOf) (pc := 57) dX6_typesOf_57 rfl ?_
          refine tq_iconst (M := mX6_typesOf) (pc := 59) dX6_typesOf_59 tk_ki_1 ?_
          refine tq_iload (M := mX6_typesOf) (pc := 60) dX6_typesOf_60 rfl ?_
          refine tq_ishl (M := mX6_typesOf) (pc := 62) dX6_typesOf_62 ?_
          refine tq_ior (M := mX6_typesOf) (pc := 63) dX6_typesOf_63 ?_
          obtain ⟨x11, ex11, hf⟩ := tq_le hf
          refine tq_istore (M := mX6_typesOf) (pc := 64) dX6_typesOf_64 (L2 := [(4, .int x11), (0, .ref i0), (1, .ref i1), (2, .int i2), (3, .int i3), (5, .int y5)]) (by decide) (by rw [ex11]; rfl) ?_
          refine tq_pick (L2 := [(0, .ref i0), (1, .ref i1), (2, .int i2), (3, .int i3), (4, .int x11), (5, .int y5)]) [1, 2, 3, 4, 0, 5] rfl ?_
          cases (Option.some.inj hf)
          exact HJ43
set_option maxHeartbeats 4000000 in
theorem l_X6_typesOf_10 {l : Launch} {d : Nat} {Q : tq_R → tq_H → Prop} {bc bs : Nat} (hd9 : 4 ≤ d) (i0 : Nat) (i1 : Nat) (i2 : Int32) : ∀ (n : Nat) (y3 : Int32) (hh : tq_H) (o : tq_H), tq_loop (f_X6_typesOf_b10 i0 i1 i2) n (y3, hh) = some o → tq_W l mX6_typesOf d bc bs Q 88 [(0, .ref i0), (2, .int i2)] [] o → tq_W l mX6_typesOf d bc bs Q 10 [(0, .ref i0), (1, .ref i1), (2, .int i2), (3, .int y3)] [] hh := by
  intro n
  induction n with
  | zero => intro y3 hh o hl; cases hl
  | succ n ih =>
    intro y3 hh o hl hk
    obtain ⟨oo, hf, ho⟩ := tq_loop_s hl
    refine tq_iload_n (M := mX6_typesOf) (pc := 10) dX6_typesOf_10 rfl ?_
    refine tq_iload_n (M := mX6_typesOf) (pc := 11) dX6_typesOf_11 rfl ?_
    refine tq_icmp_lt (M := mX6_typesOf) (pc := 12) (tgt := 88) dX6_typesOf_12 (by decide) (fun cc => ?_) (fun cc => ?_)
    · have hf := tq_ifp hf cc
      refine tq_pick (L2 := [(0, .ref i0), (2, .int i2)]) [0, 2] rfl ?_
      cases (Option.some.inj hf)
      cases (tq_lx ho)
      exact hk
    · have hf := tq_ifn hf cc
      refine tq_iload_n (M := mX6_typesOf) (pc := 15) dX6_typesOf_15 rfl ?_
      refine tq_if_lt (M := mX6_typesOf) (pc := 16) (tgt := 88) dX6_typesOf_16 (by decide) (fun cc => ?_) (fun cc => ?_)
      · have hf := tq_ifp hf cc
        refine tq_pick (L2 := [(0, .ref i0), (2, .int i2)]) [0, 2] rfl ?_
        cases (Option.some.inj hf)
        cases (tq_lx ho)
        exact hk
      · have hf := tq_ifn hf cc
        refine tq_iconst (M := mX6_typesOf) (pc := 19) dX6_typesOf_19 tk_ki_0 ?_
        refine tq_istore (M := mX6_typesOf) (pc := 20) dX6_typesOf_20 (L2 := [(4, .int (0 : Int32)), (0, .ref i0), (1, .ref i1), (2, .int i2), (3, .int y3)]) (by decide) rfl ?_
        refine tq_iconst (M := mX6_typesOf) (pc := 22) dX6_typesOf_22 tk_ki_0 ?_
        refine tq_istore (M := mX6_typesOf) (pc := 23) dX6_typesOf_23 (L2 := [(5, .int (0 : Int32)), (4, .int (0 : Int32)), (0, .ref i0), (1, .ref i1), (2, .int i2), (3, .int y3)]) (by decide) rfl ?_
        obtain ⟨o14, eo14, hf⟩ := tq_be hf
        refine tq_pick (L2 := [(0, .ref i0), (1, .ref i1), (2, .int i2), (3, .int y3), (4, .int (0 : Int32)), (5, .int (0 : Int32))]) [2, 3, 4, 5, 1, 0] rfl ?_
        refine l_X6_typesOf_25 (bc := bc) (bs := bs) (by omega) i0 i1 i2 y3 hh _ (0 : Int32) (0 : Int32) _ eo14 ?_
        refine tq_aload_n (M := mX6_typesOf) (pc := 72) dX6_typesOf_72 rfl ?_
        obtain ⟨k15, ek15, hf⟩ := tq_be hf
        refine tq_getR (M := mX6_typesOf) (pc := 73) tk_c6 (by decide) dX6_typesOf_73 tk_RX6_29 rfl ek15 ?_
        refine tq_iload_n (M := mX6_typesOf) (pc := 76) dX6_typesOf_76 rfl ?_
        refine tq_iload (M := mX6_typesOf) (pc := 77) dX6_typesOf_77 rfl ?_
        obtain ⟨⟨⟩, eu17, hf⟩ := tq_be hf
        obtain ⟨fsu17, eu17⟩ := tq_is_s eu17
        obtain ⟨v16, ev16, hf⟩ := tq_be hf
        refine tq_calV (M := mX6_typesOf) (pc := 79) (S := []) tk_y_X5_set tk_v_X5_set tk_RX6_56 dX6_typesOf_79 [.int y3, .int o14] rfl (S0 := _) rfl eu17 rfl (Nat.le_of_ble_eq_true rfl) (d1 := d - 1) (b1 := 0) (s1 := 0) (bc' := bc) (bs' := bs) (Q1 := fun r h9 => r = .inl none ∧ v16 = h9) (by omega) (by omega) (by omega) (w_X5_set (by omega) ev16 (fun _ _ q => q)) (fun E h9 q => nomatch (show (Sum.inr E : tq_R) = Sum.inl _ from q.1)) (fun r9 h9 q => ?_)
        obtain ⟨q1, rfl⟩ := q
        cases (show (Sum.inl r9 : tq_R) = Sum.inl (none) from q1)
        obtain ⟨x18, ex18, hf⟩ := tq_le hf
        refine tq_iinc (M := mX6_typesOf) (pc := 82) (v := x18) (L2 := [(3, .int x18), (0, .ref i0), (1, .ref i1), (2, .int i2), (4, .int o14)]) dX6_typesOf_82 rfl (by rw [ex18, tk_ki_m1]) (by decide) rfl ?_
        refine tq_goto (M := mX6_typesOf) (pc := 85) (tgt := 10) dX6_typesOf_85 (by decide) ?_
        refine tq_pick (L2 := [(0, .ref i0), (1, .ref i1), (2, .int i2), (3, .int x18)]) [1, 2, 3, 0] rfl ?_
        cases (Option.some.inj hf)
        exact ih _ _ o (tq_lc ho) hk
set_option maxHeartbeats 4000000 in
set_option maxRecDepth 20000 in
theorem w_X6_typesOf {l : Launch} {d : Nat} (hd9 : 4 ≤ d) {t : Nat} {a1 : Nat} {a2 : Int32} {h : tq_H} {o : Int32 × tq_H} {Q : tq_R → tq_H → Prop} (hf : f_X6_typesOf t a1 a2 h = some o) (hQ : ∀ r h9, r = .inl (some (.int o.1)) ∧ o.2 = h9 → Q r h9) : tq_C l yX6_typesOf cX6_typesOf 6 (some .int) d 0 0 [.ref t, .ref a1, .int a2] h Q := by
  refine tq_body (y := yX6_typesOf) false (by decide +kernel) (fun z => by cases z) (Nat.le_of_ble_eq_true rfl) ?_
  show tq_W l mX6_typesOf d 0 0 Q 0 [(0, .ref t), (1, .ref a1), (2, .int a2)] [] h
  refine tq_aload_n (M := mX6_typesOf) (pc := 0) dX6_typesOf_0 rfl ?_
  obtain ⟨k1, ek1, hf⟩ := tq_be hf
  refine tq_getR (M := mX6_typesOf) (pc := 1) tk_c8 (by decide) dX6_typesOf_1 tk_RX6_67 rfl ek1 ?_
  obtain ⟨⟨⟩, eu3, hf⟩ := tq_be hf
  obtain ⟨fsu3, eu3⟩ := tq_is_s eu3
  obtain ⟨v2, ev2, hf⟩ := tq_be hf
  refine tq_calV (M := mX6_typesOf) (pc := 4) (S := []) tk_y_X3_count tk_v_X3_count tk_RX6_73 dX6_typesOf_4 [] rfl (S0 := _) rfl eu3 rfl (Nat.le_of_ble_eq_true rfl) (d1 := d - 1) (b1 := 0) (s1 := 0) (bc' := 0) (bs' := 0) (Q1 := fun r h9 => r = .inl (some (.int v2)) ∧ h = h9) (by omega) rfl rfl (w_X3_count (by omega) ev2 (fun _ _ q => q)) (fun E h9 q => nomatch (show (Sum.inr E : tq_R) = Sum.inl _ from q.1)) (fun r9 h9 q => ?_)
  obtain ⟨q1, rfl⟩ := q
  cases (show (Sum.inl r9 : tq_R) = Sum.inl (some (.int v2)) from q1)
  refine tq_iconst (M := mX6_typesOf) (pc := 7) dX6_typesOf_7 tk_ki_1 ?_
  refine tq_isub (M := mX6_typesOf) (pc := 8) dX6_typesOf_8 ?_
  obtain ⟨x4, ex4, hf⟩ := tq_le hf
  refine tq_istore_n (M := mX6_typesOf) (pc := 9) rfl dX6_typesOf_9 (L2 := [(3, .int x4), (0, .ref t), (1, .ref a1), (2, .int a2)]) (by decide) (by rw [ex4]; rfl) ?_
  obtain ⟨o19, eo19, hf⟩ := tq_be hf
  refine tq_pick (L2 := [(0, .ref t), (1, .ref a1), (2, .int a2), (3, .int x4)]) [1, 2, 3, 0] rfl ?_
  refine l_X6_typesOf_10 (bc := 0) (bs := 0) (by omega) t a1 a2 _ x4 h _ eo19 ?_
  refine tq_aload_n (M := mX6_typesOf) (pc := 88) dX6_typesOf_88 rfl ?_
  obtain ⟨k20, ek20, hf⟩ := tq_be hf
  refine tq_getR (M := mX6_typesOf) (pc := 89) tk_c6 (by decide) dX6_typesOf_89 tk_RX6_29 rfl ek20 ?_
  refine tq_iload_n (M := mX6_typesOf) (pc := 92) dX6_typesOf_92 rfl ?_
  obtain ⟨⟨⟩, eu22, hf⟩ := tq_be hf
  obtain ⟨fsu22, eu22⟩ := tq_is_s eu22
  obtain ⟨v21, ev21, hf⟩ := tq_be hf
  refine tq_calV (M := mX6_typesOf) (pc := 93) (S := []) tk_y_X5_get tk_v_X5_get tk_RX6_52 dX6_typesOf_93 [.int a2] rfl (S0 := _) rfl eu22 rfl (Nat.le_of_ble_eq_true rfl) (d1 := d - 1) (b1 := 0) (s1 := 0) (bc' := 0) (bs' := 0) (Q1 := fun r h9 => r = .inl (some (.int v21)) ∧ o19 = h9) (by omega) rfl rfl (w_X5_get (by omega) ev21 (fun _ _ q => q)) (fun E h9 q => nomatch (show (Sum.inr E : tq_R) = Sum.inl _ from q.1)) (fun r9 h9 q => ?_)
  obtain ⟨q1, rfl⟩ := q
  cases (show (Sum.inl r9 : tq_R) = Sum.inl (some (.int v21)) from q1)
  refine tq_iret (M := mX6_typesOf) (pc := 96) dX6_typesOf_96 rfl ?_
  cases (Option.some.inj hf)
  exact hQ _ _ ⟨rfl, rfl⟩
abbrev mX6_admits : tq_M := (RX6, cX6_admits, 2, (some .boolean), false, [], none)
def f_X6_admits (t : Nat) (a1 : Nat) (h : tq_H) : Option (Int32 × tq_H) :=
  (tq_is h t 6).bind fun _ =>
  (f_X6_typesOf t a1 (0 : Int32) h).bind fun v1 =>
  tq_let (if (v1.1 &&& (1 : Int32)) = 0 then (0 : Int32) else (1 : Int32)) fun p3 =>
  (tq_bz p3).bind fun z4 =>
  some (z4, v1.2)
set_option maxHeartbeats 4000000 in
set_option maxRecDepth 20000 in
theorem w_X6_admits {l : Launch} {d : Nat} (hd9 : 5 ≤ d) {t : Nat} {a1 : Nat} {h : tq_H} {o : Int32 × tq_H} {Q : tq_R → tq_H → Prop} (hf : f_X6_admits t a1 h = some o) (hQ : ∀ r h9, r = .inl (some (.int o.1)) ∧ o.2 = h9 → Q r h9) : tq_C l yX6_admits cX6_admits 2 (some .boolean) d 0 0 [.ref t, .ref a1] h Q := by
  refine tq_body (y := yX6_admits) false (by decide +kernel) (fun z => by cases z) (Nat.le_of_ble_eq_true rfl) ?_
  show tq_W l mX6_admits d 0 0 Q 0 [(0, .ref t), (1, .ref a1)] [] h
  refine tq_aload_n (M := mX6_admits) (pc := 0) dX6_admits_0 rfl ?_
  refine tq_aload_n (M := mX6_admits) (pc := 1) dX6_admits_1 rfl ?_
  refine tq_iconst (M := mX6_admits) (pc := 2) dX6_admits_2 tk_ki_0 ?_
  obtain ⟨⟨⟩, eu2, hf⟩ := tq_be hf
  obtain ⟨fsu2, eu2⟩ := tq_is_s eu2
  obtain ⟨v1, ev1, hf⟩ := tq_be hf
  refine tq_calV (M := mX6_admits) (pc := 3) (S := []) tk_y_X6_typesOf tk_v_X6_typesOf tk_RX6_63 dX6_admits_3 [.ref a1, .int (0 : Int32)] rfl (S0 := _) rfl eu2 rfl (Nat.le_of_ble_eq_true rfl) (d1 := d - 1) (b1 := 0) (s1 := 0) (bc' := 0) (bs' := 0) (Q1 := fun r h9 => r = .inl (some (.int v1.1)) ∧ v1.2 = h9) (by omega) rfl rfl (w_X6_typesOf (by omega) ev1 (fun _ _ q => q)) (fun E h9 q => nomatch (show (Sum.inr E : tq_R) = Sum.inl _ from q.1)) (fun r9 h9 q => ?_)
  obtain ⟨q1, rfl⟩ := q
  cases (show (Sum.inl r9 : tq_R) = Sum.inl (some (.int v1.1)) from q1)
  refine tq_iconst (M := mX6_admits) (pc := 6) dX6_admits_6 tk_ki_1 ?_
  refine tq_iand (M := mX6_admits) (pc := 7) dX6_admits_7 ?_
  obtain ⟨p3, ep3, hf⟩ := tq_le hf
  have HJ8 : tq_W l mX6_admits d 0 0 Q 16 [] [.int p3] v1.2 := by
    obtain ⟨z4, ez4, hf⟩ := tq_be hf
    refine tq_zretB (M := mX6_admits) (pc := 16) dX6_admits_16 rfl ez4 ?_
    cases (Option.some.inj hf)
    exact hQ _ _ ⟨rfl, rfl⟩
  refine tq_if_eq (M := mX6_admits) (pc := 8) (tgt := 15) dX6_admits_8 (by decide) (fun cc => ?_) (fun cc => ?_)
  · have hf := tq_ifp ep3.symm cc
    refine tq_iconst (M := mX6_admits) (pc := 15) dX6_admits_15 tk_ki_0 ?_
    refine tq_pick (L2 := []) [] rfl ?_
    cases hf
    exact HJ8
  · have hf := tq_ifn ep3.symm cc
    refine tq_iconst (M := mX6_admits) (pc := 11) dX6_admits_11 tk_ki_1 ?_
    refine tq_goto (M := mX6_admits) (pc := 12) (tgt := 16) dX6_admits_12 (by decide) ?_
    refine tq_pick (L2 := []) [] rfl ?_
    cases hf
    exact HJ8
abbrev mX6_possible : tq_M := (RX6, cX6_possible, 5, (some .int), false, [], none)
def f_X6_possible_b22 (i0 : Nat) (i1 : Int32) (i3 : Int32) (hh : tq_H) (s : Int32 × Int32) : Option ((Int32 × Int32) ⊕ (Int32)) := match s with
  | (y2, y4) =>
    if y4 ≥ (6 : Int32) then
      some (.inr y2)
    else
      (tq_gr hh i0 6 3).bind fun k3 =>
      (f_X6_arcAt i1 i3 y4 hh).bind fun v4 =>
      (tq_is hh k3 5).bind fun _ =>
      (f_X5_get k3 v4 hh).bind fun v5 =>
      tq_let (if v5 = 0 then (0 : Int32) else ((1 : Int32) <<< (y4 &&& 31))) fun p7 =>
      tq_let ((y2 ||| p7)) fun x8 =>
      tq_let (y4 + (1 : Int32)) fun x9 =>
      some (.inl (x8, x9))
def f_X6_possible_b14 (i0 : Nat) (i1 : Int32) (hh : tq_H) (s : Int32 × Int32) : Option ((Int32 × Int32) ⊕ (Int32)) := match s with
  | (y2, y3) =>
    if y3 ≥ (4 : Int32) then
      some (.inr y2)
    else
      (tq_loop (f_X6_possible_b22 i0 i1 y3 hh) tq_N (y2, (0 : Int32))).bind fun o10 =>
      tq_let (y3 + (1 : Int32)) fun x11 =>
      some (.inl (o10, x11))
def f_X6_possible_b71 (i0 : Nat) (i1 : Int32) (hh : tq_H) (s : Int32 × Int32) : Option ((Int32 × Int32) ⊕ (Int32)) := match s with
  | (y2, y3) =>
    if y3 ≥ (8 : Int32) then
      some (.inr y2)
    else
      (tq_gr hh i0 6 2).bind fun k13 =>
      (tq_is hh k13 5).bind fun _ =>
      (f_X5_get k13 ((i1 * (8 : Int32)) + y3) hh).bind fun v14 =>
      tq_let (if v14 = 0 then (0 : Int32) else (128 : Int32)) fun p16 =>
      tq_let ((y2 ||| p16)) fun x17 =>
      tq_let (y3 + (1 : Int32)) fun x18 =>
      some (.inl (x17, x18))
def f_X6_possible (t : Nat) (a1 : Int32) (h : tq_H) : Option (Int32) :=
  (tq_gi h t 6 8).bind fun x1 =>
  tq_let ((((x1 >>> (a1 &&& 31)) &&& (1 : Int32)) <<< ((6 : Int32) &&& 31))) fun x2 =>
  (tq_loop (f_X6_possible_b14 t a1 h) tq_N (x2, (0 : Int32))).bind fun o12 =>
  (tq_loop (f_X6_possible_b71 t a1 h) tq_N (o12, (0 : Int32))).bind fun o19 =>
  some o19
set_option maxHeartbeats 4000000 in
theorem l_X6_possible_22 {l : Launch} {d : Nat} {Q : tq_R → tq_H → Prop} {bc bs : Nat} (hd9 : 1 ≤ d) (i0 : Nat) (i1 : Int32) (i3 : Int32) (hh : tq_H) : ∀ (n : Nat) (y2 : Int32) (y4 : Int32) (o : Int32), tq_loop (f_X6_possible_b22 i0 i1 i3 hh) n (y2, y4) = some o → tq_W l mX6_possible d bc bs Q 63 [(0, .ref i0), (1, .int i1), (2, .int o), (3, .int i3)] [] hh → tq_W l mX6_possible d bc bs Q 22 [(0, .ref i0), (1, .int i1), (2, .int y2), (3, .int i3), (4, .int y4)] [] hh := by
  intro n
  induction n with
  | zero => intro y2 y4 o hl; cases hl
  | succ n ih =>
    intro y2 y4 o hl hk
    obtain ⟨oo, hf, ho⟩ := tq_loop_s hl
    refine tq_iload (M := mX6_possible) (pc := 22) dX6_possible_22 rfl ?_
    refine tq_bipush (M := mX6_possible) (pc := 24) dX6_possible_24 tk_kb_6 ?_
    refine tq_icmp_ge (M := mX6_possible) (pc := 26) (tgt := 63) dX6_possible_26 (by decide) (fun cc => ?_) (fun cc => ?_)
    · have hf := tq_ifp hf cc
      refine tq_pick (L2 := [(0, .ref i0), (1, .int i1), (2, .int y2), (3, .int i3)]) [0, 1, 2, 3] rfl ?_
      cases (Option.some.inj hf)
      cases (tq_lx ho)
      exact hk
    · have hf := tq_ifn hf cc
      refine tq_iload_n (M := mX6_possible) (pc := 29) dX6_possible_29 rfl ?_
      refine tq_aload_n (M := mX6_possible) (pc := 30) dX6_possible_30 rfl ?_
      obtain ⟨k3, ek3, hf⟩ := tq_be hf
      refine tq_getR (M := mX6_possible) (pc := 31) tk_c6 (by decide) dX6_possible_31 tk_RX6_26 rfl ek3 ?_
      refine tq_iload_n (M := mX6_possible) (pc := 34) dX6_possible_34 rfl ?_
      refine tq_iload_n (M := mX6_possible) (pc := 35) dX6_possible_35 rfl ?_
      refine tq_iload (M := mX6_possible) (pc := 36) dX6_possible_36 rfl ?_
      obtain ⟨v4, ev4, hf⟩ := tq_be hf
      refine tq_calS (M := mX6_possible) (pc := 38) (S := [.ref k3, .int y2]) tk_y_X6_arcAt tk_s_X6_arcAt tk_RX6_59 dX6_possible_38 [.int i1, .int i3, .int y4] rfl (Nat.le_of_ble_eq_true rfl) (d1 := d - 1) (b1 := 0) (s1 := 0) (bc' := bc) (bs' := bs) (Q1 := fun r h9 => r = .inl (some (.int v4)) ∧ hh = h9) (by omega) (by omega) (by omega) (w_X6_arcAt (by omega) ev4 (fun _ _ q => q)) (fun E h9 q => nomatch (show (Sum.inr E : tq_R) = Sum.inl _ from q.1)) (fun r9 h9 q => ?_)
      obtain ⟨q1, rfl⟩ := q
      cases (show (Sum.inl r9 : tq_R) = Sum.inl (some (.int v4)) from q1)
      obtain ⟨⟨⟩, eu6, hf⟩ := tq_be hf
      obtain ⟨fsu6, eu6⟩ := tq_is_s eu6
      obtain ⟨v5, ev5, hf⟩ := tq_be hf
      refine tq_calV (M := mX6_possible) (pc := 41) (S := [.int y2]) tk_y_X5_get tk_v_X5_get tk_RX6_52 dX6_possible_41 [.int v4] rfl (S0 := _) rfl eu6 rfl (Nat.le_of_ble_eq_true rfl) (d1 := d - 1) (b1 := 0) (s1 := 0) (bc' := bc) (bs' := bs) (Q1 := fun r h9 => r = .inl (some (.int v5)) ∧ hh = h9) (by omega) (by omega) (by omega) (w_X5_get (by omega) ev5 (fun _ _ q => q)) (fun E h9 q => nomatch (show (Sum.inr E : tq_R) = Sum.inl _ from q.1)) (fun r9 h9 q => ?_)
      obtain ⟨q1, rfl⟩ := q
      cases (show (Sum.inl r9 : tq_R) = Sum.inl (some (.int v5)) from q1)
      obtain ⟨p7, ep7, hf⟩ := tq_le hf
      have HJ44 : tq_W l mX6_possible d bc bs Q 55 [(0, .ref i0), (1, .int i1), (3, .int i3), (4, .int y4)] [.int p7, .int y2] hh := by
        refine tq_ior (M := mX6_possible) (pc := 55) dX6_possible_55 ?_
        obtain ⟨x8, ex8, hf⟩ := tq_le hf
        refine tq_istore_n (M := mX6_possible) (pc := 56) rfl dX6_possible_56 (L2 := [(2, .int x8), (0, .ref i0), (1, .int i1), (3, .int i3), (4, .int y4)]) (by decide) (by rw [ex8]; rfl) ?_
        obtain ⟨x9, ex9, hf⟩ := tq_le hf
        refine tq_iinc (M := mX6_possible) (pc := 57) (v := x9) (L2 := [(4, .int x9), (2, .int x8), (0, .ref i0), (1, .int i1), (3, .int i3)]) dX6_possible_57 rfl (by rw [ex9, tk_ki_1]) (by decide) rfl ?_
        refine tq_goto (M := mX6_possible) (pc := 60) (tgt := 22) dX6_possible_60 (by decide) ?_
        refine tq_pick (L2 := [(0, .ref i0), (1, .int i1), (2, .int x8), (3, .int i3), (4, .int x9)]) [2, 3, 1, 4, 0] rfl ?_
        cases (Option.some.inj hf)
        exact ih _ _ o (tq_lc ho) hk
      refine tq_if_eq (M := mX6_possible) (pc := 44) (tgt := 54) dX6_possible_44 (by decide) (fun cc => ?_) (fun cc => ?_)
      · have hf := tq_ifp ep7.symm cc
        refine tq_iconst (M := mX6_possible) (pc := 54) dX6_possible_54 tk_ki_0 ?_
        refine tq_pick (L2 := [(0, .ref i0), (1, .int i1), (3, .int i3), (4, .int y4)]) [0, 1, 3, 4] rfl ?_
        cases hf
        exact HJ44
      · have hf := tq_ifn ep7.symm cc
        refine tq_iconst (M := mX6_possible) (pc := 47) dX6_possible_47 tk_ki_1 ?_
        refine tq_iload (M := mX6_possible) (pc := 48) dX6_possible_48 rfl ?_
        refine tq_ishl (M := mX6_possible) (pc := 50) dX6_possible_50 ?_
        refine tq_goto (M := mX6_possible) (pc := 51) (tgt := 55) dX6_possible_51 (by decide) ?_
        refine tq_pick (L2 := [(0, .ref i0), (1, .int i1), (3, .int i3), (4, .int y4)]) [0, 1, 3, 4] rfl ?_
        cases hf
        exact HJ44
set_option maxHeartbeats 4000000 in
theorem l_X6_possible_14 {l : Launch} {d : Nat} {Q : tq_R → tq_H → Prop} {bc bs : Nat} (hd9 : 1 ≤ d) (i0 : Nat) (i1 : Int32) (hh : tq_H) : ∀ (n : Nat) (y2 : Int32) (y3 : Int32) (o : Int32), tq_loop (f_X6_possible_b14 i0 i1 hh) n (y2, y3) = some o → tq_W l mX6_possible d bc bs Q 69 [(0, .ref i0), (1, .int i1), (2, .int o)] [] hh → tq_W l mX6_possible d bc bs Q 14 [(0, .ref i0), (1, .int i1), (2, .int y2), (3, .int y3)] [] hh := by
  intro n
  induction n with
  | zero => intro y2 y3 o hl; cases hl
  | succ n ih =>
    intro y2 y3 o hl hk
    obtain ⟨oo, hf, ho⟩ := tq_loop_s hl
    refine tq_iload_n (M := mX6_possible) (pc := 14) dX6_possible_14 rfl ?_
    refine tq_iconst (M := mX6_possible) (pc := 15) dX6_possible_15 tk_ki_4 ?_
    refine tq_icmp_ge (M := mX6_possible) (pc := 16) (tgt := 69) dX6_possible_16 (by decide) (fun cc => ?_) (fun cc => ?_)
    · have hf := tq_ifp hf cc
      refine tq_pick (L2 := [(0, .ref i0), (1, .int i1), (2, .int y2)]) [0, 1, 2] rfl ?_
      cases (Option.some.inj hf)
      cases (tq_lx ho)
      exact hk
    · have hf := tq_ifn hf cc
      refine tq_iconst (M := mX6_possible) (pc := 19) dX6_possible_19 tk_ki_0 ?_
      refine tq_istore (M := mX6_possible) (pc := 20) dX6_possible_20 (L2 := [(4, .int (0 : Int32)), (0, .ref i0), (1, .int i1), (2, .int y2), (3, .int y3)]) (by decide) rfl ?_
      obtain ⟨o10, eo10, hf⟩ := tq_be hf
      refine tq_pick (L2 := [(0, .ref i0), (1, .int i1), (2, .int y2), (3, .int y3), (4, .int (0 : Int32))]) [1, 2, 3, 4, 0] rfl ?_
      refine l_X6_possible_22 (bc := bc) (bs := bs) (by omega) i0 i1 y3 hh _ y2 (0 : Int32) _ eo10 ?_
      obtain ⟨x11, ex11, hf⟩ := tq_le hf
      refine tq_iinc (M := mX6_possible) (pc := 63) (v := x11) (L2 := [(3, .int x11), (0, .ref i0), (1, .int i1), (2, .int o10)]) dX6_possible_63 rfl (by rw [ex11, tk_ki_1]) (by decide) rfl ?_
      refine tq_goto (M := mX6_possible) (pc := 66) (tgt := 14) dX6_possible_66 (by decide) ?_
      refine tq_pick (L2 := [(0, .ref i0), (1, .int i1), (2, .int o10), (3, .int x11)]) [1, 2, 3, 0] rfl ?_
      cases (Option.some.inj hf)
      exact ih _ _ o (tq_lc ho) hk
set_option maxHeartbeats 4000000 in
theorem l_X6_possible_71 {l : Launch} {d : Nat} {Q : tq_R → tq_H → Prop} {bc bs : Nat} (hd9 : 1 ≤ d) (i0 : Nat) (i1 : Int32) (hh : tq_H) : ∀ (n : Nat) (y2 : Int32) (y3 : Int32) (o : Int32), tq_loop (f_X6_possible_b71 i0 i1 hh) n (y2, y3) = some o → tq_W l mX6_possible d bc bs Q 109 [(2, .int o)] [] hh → tq_W l mX6_possible d bc bs Q 71 [(0, .ref i0), (1, .int i1), (2, .int y2), (3, .int y3)] [] hh := by
  intro n
  induction n with
  | zero => intro y2 y3 o hl; cases hl
  | succ n ih =>
    intro y2 y3 o hl hk
    obtain ⟨oo, hf, ho⟩ := tq_loop_s hl
    refine tq_iload_n (M := mX6_possible) (pc := 71) dX6_possible_71 rfl ?_
    refine tq_bipush (M := mX6_possible) (pc := 72) dX6_possible_72 tk_kb_8 ?_
    refine tq_icmp_ge (M := mX6_possible) (pc := 74) (tgt := 109) dX6_possible_74 (by decide) (fun cc => ?_) (fun cc => ?_)
    · have hf := tq_ifp hf cc
      refine tq_pick (L2 := [(2, .int y2)]) [2] rfl ?_
      cases (Option.some.inj hf)
      cases (tq_lx ho)
      exact hk
    · have hf := tq_ifn hf cc
      refine tq_iload_n (M := mX6_possible) (pc := 77) dX6_possible_77 rfl ?_
      refine tq_aload_n (M := mX6_possible) (pc := 78) dX6_possible_78 rfl ?_
      obtain ⟨k13, ek13, hf⟩ := tq_be hf
      refine tq_getR (M := mX6_possible) (pc := 79) tk_c6 (by decide) dX6_possible_79 tk_RX6_23 rfl ek13 ?_
      refine tq_iload_n (M := mX6_possible) (pc := 82) dX6_possible_82 rfl ?_
      refine tq_bipush (M := mX6_possible) (pc := 83) dX6_possible_83 tk_kb_8 ?_
      refine tq_imul (M := mX6_possible) (pc := 85) dX6_possible_85 ?_
      refine tq_iload_n (M := mX6_possible) (pc := 86) dX6_possible_86 rfl ?_
      refine tq_iadd (M := mX6_possible) (pc := 87) dX6_possible_87 ?_
      obtain ⟨⟨⟩, eu15, hf⟩ := tq_be hf
      obtain ⟨fsu15, eu15⟩ := tq_is_s eu15
      obtain ⟨v14, ev14, hf⟩ := tq_be hf
      refine tq_calV (M := mX6_possible) (pc := 88) (S := [.int y2]) tk_y_X5_get tk_v_X5_get tk_RX6_52 dX6_possible_88 [.int (((i1 * (8 : Int32)) + y3))] rfl (S0 := _) rfl eu15 rfl (Nat.le_of_ble_eq_true rfl) (d1 := d - 1) (b1 := 0) (s1 := 0) (bc' := bc) (bs' := bs) (Q1 := fun r h9 => r = .inl (some (.int v14)) ∧ hh = h9) (by omega) (by omega) (by omega) (w_X5_get (by omega) ev14 (fun _ _ q => q)) (fun E h9 q => nomatch (show (Sum.inr E : tq_R) = Sum.inl _ from q.1)) (fun r9 h9 q => ?_)
      obtain ⟨q1, rfl⟩ := q
      cases (show (Sum.inl r9 : tq_R) = Sum.inl (some (.int v14)) from q1)
      obtain ⟨p16, ep16, hf⟩ := tq_le hf
      have HJ91 : tq_W l mX6_possible d bc bs Q 101 [(0, .ref i0), (1, .int i1), (3, .int y3)] [.int p16, .int y2] hh := by
        refine tq_ior (M := mX6_possible) (pc := 101) dX6_possible_101 ?_
        obtain ⟨x17, ex17, hf⟩ := tq_le hf
        refine tq_istore_n (M := mX6_possible) (pc := 102) rfl dX6_possible_102 (L2 := [(2, .int x17), (0, .ref i0), (1, .int i1), (3, .int y3)]) (by decide) (by rw [ex17]; rfl) ?_
        obtain ⟨x18, ex18, hf⟩ := tq_le hf
        refine tq_iinc (M := mX6_possible) (pc := 103) (v := x18) (L2 := [(3, .int x18), (2, .int x17), (0, .ref i0), (1, .int i1)]) dX6_possible_103 rfl (by rw [ex18, tk_ki_1]) (by decide) rfl ?_
        refine tq_goto (M := mX6_possible) (pc := 106) (tgt := 71) dX6_possible_106 (by decide) ?_
        refine tq_pick (L2 := [(0, .ref i0), (1, .int i1), (2, .int x17), (3, .int x18)]) [2, 3, 1, 0] rfl ?_
        cases (Option.some.inj hf)
        exact ih _ _ o (tq_lc ho) hk
      refine tq_if_eq (M := mX6_possible) (pc := 91) (tgt := 100) dX6_possible_91 (by decide) (fun cc => ?_) (fun cc => ?_)
      · have hf := tq_ifp ep16.symm cc
        refine tq_iconst (M := mX6_possible) (pc := 100) dX6_possible_100 tk_ki_0 ?_
        refine tq_pick (L2 := [(0, .ref i0), (1, .int i1), (3, .int y3)]) [0, 1, 3] rfl ?_
        cases hf
        exact HJ91
      · have hf := tq_ifn ep16.symm cc
        refine tq_sipush (M := mX6_possible) (pc := 94) dX6_possible_94 tk_ks_128 ?_
        refine tq_goto (M := mX6_possible) (pc := 97) (tgt := 101) dX6_possible_97 (by decide) ?_
        refine tq_pick (L2 := [(0, .ref i0), (1, .int i1), (3, .int y3)]) [0, 1, 3] rfl ?_
        cases hf
        exact HJ91
set_option maxHeartbeats 4000000 in
set_option maxRecDepth 20000 in
theorem w_X6_possible {l : Launch} {d : Nat} (hd9 : 1 ≤ d) {t : Nat} {a1 : Int32} {h : tq_H} {o : Int32} {Q : tq_R → tq_H → Prop} (hf : f_X6_possible t a1 h = some o) (hQ : ∀ r h9, r = .inl (some (.int o)) ∧ h = h9 → Q r h9) : tq_C l yX6_possible cX6_possible 5 (some .int) d 0 0 [.ref t, .int a1] h Q := by
  refine tq_body (y := yX6_possible) false (by decide +kernel) (fun z => by cases z) (Nat.le_of_ble_eq_true rfl) ?_
  show tq_W l mX6_possible d 0 0 Q 0 [(0, .ref t), (1, .int a1)] [] h
  refine tq_aload_n (M := mX6_possible) (pc := 0) dX6_possible_0 rfl ?_
  obtain ⟨x1, ex1, hf⟩ := tq_be hf
  refine tq_getI (M := mX6_possible) (pc := 1) tk_c6 (by decide) dX6_possible_1 tk_RX6_41 rfl ex1 ?_
  refine tq_iload_n (M := mX6_possible) (pc := 4) dX6_possible_4 rfl ?_
  refine tq_ishr (M := mX6_possible) (pc := 5) dX6_possible_5 ?_
  refine tq_iconst (M := mX6_possible) (pc := 6) dX6_possible_6 tk_ki_1 ?_
  refine tq_iand (M := mX6_possible) (pc := 7) dX6_possible_7 ?_
  refine tq_bipush (M := mX6_possible) (pc := 8) dX6_possible_8 tk_kb_6 ?_
  refine tq_ishl (M := mX6_possible) (pc := 10) dX6_possible_10 ?_
  obtain ⟨x2, ex2, hf⟩ := tq_le hf
  refine tq_istore_n (M := mX6_possible) (pc := 11) rfl dX6_possible_11 (L2 := [(2, .int x2), (0, .ref t), (1, .int a1)]) (by decide) (by rw [ex2]; rfl) ?_
  refine tq_iconst (M := mX6_possible) (pc := 12) dX6_possible_12 tk_ki_0 ?_
  refine tq_istore_n (M := mX6_possible) (pc := 13) rfl dX6_possible_13 (L2 := [(3, .int (0 : Int32)), (2, .int x2), (0, .ref t), (1, .int a1)]) (by decide) rfl ?_
  obtain ⟨o12, eo12, hf⟩ := tq_be hf
  refine tq_pick (L2 := [(0, .ref t), (1, .int a1), (2, .int x2), (3, .int (0 : Int32))]) [2, 3, 1, 0] rfl ?_
  refine l_X6_possible_14 (bc := 0) (bs := 0) (by omega) t a1 h _ x2 (0 : Int32) _ eo12 ?_
  refine tq_iconst (M := mX6_possible) (pc := 69) dX6_possible_69 tk_ki_0 ?_
  refine tq_istore_n (M := mX6_possible) (pc := 70) rfl dX6_possible_70 (L2 := [(3, .int (0 : Int32)), (0, .ref t), (1, .int a1), (2, .int o12)]) (by decide) rfl ?_
  obtain ⟨o19, eo19, hf⟩ := tq_be hf
  refine tq_pick (L2 := [(0, .ref t), (1, .int a1), (2, .int o12), (3, .int (0 : Int32))]) [1, 2, 3, 0] rfl ?_
  refine l_X6_possible_71 (bc := 0) (bs := 0) (by omega) t a1 h _ o12 (0 : Int32) _ eo19 ?_
  refine tq_iload_n (M := mX6_possible) (pc := 109) dX6_possible_109 rfl ?_
  refine tq_iret (M := mX6_possible) (pc := 110) dX6_possible_110 rfl ?_
  cases (Option.some.inj hf)
  exact hQ _ _ ⟨rfl, rfl⟩
abbrev mX6_learn : tq_M := (RX6, cX6_learn, 5, none, false, [], none)
def f_X6_learn_b18 (i0 : Nat) (s : Int32 × tq_H) : Option ((Int32 × tq_H) ⊕ (tq_H)) := match s with
  | (y1, hh) =>
    if y1 ≥ (6 : Int32) then
      some (.inr hh)
    else
      (tq_gr hh i0 6 5).bind fun k7 =>
      (tq_is hh i0 6).bind fun _ =>
      (f_X6_possible i0 y1 hh).bind fun v8 =>
      (tq_is hh k7 5).bind fun _ =>
      (f_X5_set k7 y1 v8 hh).bind fun v10 =>
      tq_let (y1 + (1 : Int32)) fun x12 =>
      some (.inl (x12, v10))
def f_X6_learn_b100 (i0 : Nat) (i1 : Int32) (i2 : Int32) (i3 : Int32) (s : Int32 × tq_H) : Option ((Int32 × tq_H) ⊕ (tq_H)) := match s with
  | (y4, hh) =>
    if y4 ≥ (8 : Int32) then
      some (.inr hh)
    else
      (if i3 = 0 then
        some hh
      else
        if ((i2 >>> (y4 &&& 31)) &&& (1 : Int32)) = 0 then
          some hh
        else
          (tq_gr hh i0 6 6).bind fun k25 =>
          (tq_gr hh i0 6 6).bind fun k26 =>
          (tq_is hh k26 5).bind fun _ =>
          (f_X5_get k26 y4 hh).bind fun v27 =>
          (tq_is hh k25 5).bind fun _ =>
          (f_X5_set k25 y4 (v27 ||| ((1 : Int32) <<< (i1 &&& 31))) hh).bind fun v29 =>
          some v29).bind fun p31 =>
      tq_let (y4 + (1 : Int32)) fun x32 =>
      some (.inl (x32, p31))
def f_X6_learn_b60 (i0 : Nat) (s : Int32 × tq_H) : Option ((Int32 × tq_H) ⊕ (tq_H)) := match s with
  | (y1, hh) =>
    if y1 ≥ (6 : Int32) then
      some (.inr hh)
    else
      (tq_gr hh i0 6 5).bind fun k18 =>
      (tq_is hh k18 5).bind fun _ =>
      (f_X5_get k18 y1 hh).bind fun v19 =>
      (tq_gi hh i0 6 9).bind fun x21 =>
      tq_let ((v19 &&& x21)) fun x22 =>
      (tq_gi hh i0 6 9).bind fun x23 =>
      tq_let (if ((x23 >>> (y1 &&& 31)) &&& (1 : Int32)) = 0 then (0 : Int32) else (1 : Int32)) fun p24 =>
      (tq_loop (f_X6_learn_b100 i0 y1 x22 p24) tq_N ((0 : Int32), hh)).bind fun o33 =>
      tq_let (y1 + (1 : Int32)) fun x34 =>
      some (.inl (x34, o33))
def f_X6_learn (t : Nat) (h : tq_H) : Option (tq_H) :=
  (tq_gr h t 6 5).bind fun k1 =>
  (tq_is h k1 5).bind fun _ =>
  (f_X5_setAll k1 (0 : Int32) h).bind fun v2 =>
  (tq_gr v2 t 6 6).bind fun k4 =>
  (tq_is v2 k4 5).bind fun _ =>
  (f_X5_setAll k4 (0 : Int32) v2).bind fun v5 =>
  (tq_loop (f_X6_learn_b18 t) tq_N ((0 : Int32), v5)).bind fun o13 =>
  (tq_gr o13 t 6 5).bind fun k14 =>
  (tq_is o13 k14 5).bind fun _ =>
  (f_X5_closure k14 (0 : Int32) (1 : Int32) o13).bind fun v15 =>
  (tq_pf o13 t 6 9 (.int ((v15 ||| (1 : Int32))))).bind fun w17 =>
  (tq_loop (f_X6_learn_b60 t) tq_N ((0 : Int32), w17)).bind fun o35 =>
  some o35
set_option maxHeartbeats 4000000 in
theorem l_X6_learn_18 {l : Launch} {d : Nat} {Q : tq_R → tq_H → Prop} {bc bs : Nat} (hd9 : 2 ≤ d) (i0 : Nat) : ∀ (n : Nat) (y1 : Int32) (hh : tq_H) (o : tq_H), tq_loop (f_X6_learn_b18 i0) n (y1, hh) = some o → tq_W l mX6_learn d bc bs Q 43 [(0, .ref i0)] [] o → tq_W l mX6_learn d bc bs Q 18 [(0, .ref i0), (1, .int y1)] [] hh := by
  intro n
  induction n with
  | zero => intro y1 hh o hl; cases hl
  | succ n ih =>
    intro y1 hh o hl hk
    obtain ⟨oo, hf, ho⟩ := tq_loop_s hl
    refine tq_iload_n (M := mX6_learn) (pc := 18) dX6_learn_18 rfl ?_
    refine tq_bipush (M := mX6_learn) (pc := 19) dX6_learn_19 tk_kb_6 ?_
    refine tq_icmp_ge (M := mX6_learn) (pc := 21) (tgt := 43) dX6_learn_21 (by decide) (fun cc => ?_) (fun cc => ?_)
    · have hf := tq_ifp hf cc
      refine tq_pick (L2 := [(0, .ref i0)]) [0] rfl ?_
      cases (Option.some.inj hf)
      cases (tq_lx ho)
      exact hk
    · have hf := tq_ifn hf cc
      refine tq_aload_n (M := mX6_learn) (pc := 24) dX6_learn_24 rfl ?_
      obtain ⟨k7, ek7, hf⟩ := tq_be hf
      refine tq_getR (M := mX6_learn) (pc := 25) tk_c6 (by decide) dX6_learn_25 tk_RX6_32 rfl ek7 ?_
      refine tq_iload_n (M := mX6_learn) (pc := 28) dX6_learn_28 rfl ?_
      refine tq_aload_n (M := mX6_learn) (pc := 29) dX6_learn_29 rfl ?_
      refine tq_iload_n (M := mX6_learn) (pc := 30) dX6_learn_30 rfl ?_
      obtain ⟨⟨⟩, eu9, hf⟩ := tq_be hf
      obtain ⟨fsu9, eu9⟩ := tq_is_s eu9
      obtain ⟨v8, ev8, hf⟩ := tq_be hf
      refine tq_calV (M := mX6_learn) (pc := 31) (S := [.int y1, .ref k7]) tk_y_X6_possible tk_v_X6_possible tk_RX6_145 dX6_learn_31 [.int y1] rfl (S0 := _) rfl eu9 rfl (Nat.le_of_ble_eq_true rfl) (d1 := d - 1) (b1 := 0) (s1 := 0) (bc' := bc) (bs' := bs) (Q1 := fun r h9 => r = .inl (some (.int v8)) ∧ hh = h9) (by omega) (by omega) (by omega) (w_X6_possible (by omega) ev8 (fun _ _ q => q)) (fun E h9 q => nomatch (show (Sum.inr E : tq_R) = Sum.inl _ from q.1)) (fun r9 h9 q => ?_)
      obtain ⟨q1, rfl⟩ := q
      cases (show (Sum.inl r9 : tq_R) = Sum.inl (some (.int v8)) from q1)
      obtain ⟨⟨⟩, eu11, hf⟩ := tq_be hf
      obtain ⟨fsu11, eu11⟩ := tq_is_s eu11
      obtain ⟨v10, ev10, hf⟩ := tq_be hf
      refine tq_calV (M := mX6_learn) (pc := 34) (S := []) tk_y_X5_set tk_v_X5_set tk_RX6_56 dX6_learn_34 [.int y1, .int v8] rfl (S0 := _) rfl eu11 rfl (Nat.le_of_ble_eq_true rfl) (d1 := d - 1) (b1 := 0) (s1 := 0) (bc' := bc) (bs' := bs) (Q1 := fun r h9 => r = .inl none ∧ v10 = h9) (by omega) (by omega) (by omega) (w_X5_set (by omega) ev10 (fun _ _ q => q)) (fun E h9 q => nomatch (show (Sum.inr E : tq_R) = Sum.inl _ from q.1)) (fun r9 h9 q => ?_)
      obtain ⟨q1, rfl⟩ := q
      cases (show (Sum.inl r9 : tq_R) = Sum.inl (none) from q1)
      obtain ⟨x12, ex12, hf⟩ := tq_le hf
      refine tq_iinc (M := mX6_learn) (pc := 37) (v := x12) (L2 := [(1, .int x12), (0, .ref i0)]) dX6_learn_37 rfl (by rw [ex12, tk_ki_1]) (by decide) rfl ?_
      refine tq_goto (M := mX6_learn) (pc := 40) (tgt := 18) dX6_learn_40 (by decide) ?_
      refine tq_pick (L2 := [(0, .ref i0), (1, .int x12)]) [1, 0] rfl ?_
      cases (Option.some.inj hf)
      exact ih _ _ o (tq_lc ho) hk
set_option maxHeartbeats 4000000 in
theorem l_X6_learn_100 {l : Launch} {d : Nat} {Q : tq_R → tq_H → Prop} {bc bs : Nat} (hd9 : 2 ≤ d) (i0 : Nat) (i1 : Int32) (i2 : Int32) (i3 : Int32) : ∀ (n : Nat) (y4 : Int32) (hh : tq_H) (o : tq_H), tq_loop (f_X6_learn_b100 i0 i1 i2 i3) n (y4, hh) = some o → tq_W l mX6_learn d bc bs Q 148 [(0, .ref i0), (1, .int i1)] [] o → tq_W l mX6_learn d bc bs Q 100 [(0, .ref i0), (1, .int i1), (2, .int i2), (3, .int i3), (4, .int y4)] [] hh := by
  intro n
  induction n with
  | zero => intro y4 hh o hl; cases hl
  | succ n ih =>
    intro y4 hh o hl hk
    obtain ⟨oo, hf, ho⟩ := tq_loop_s hl
    refine tq_iload (M := mX6_learn) (pc := 100) dX6_learn_100 rfl ?_
    refine tq_bipush (M := mX6_learn) (pc := 102) dX6_learn_102 tk_kb_8 ?_
    refine tq_icmp_ge (M := mX6_learn) (pc := 104) (tgt := 148) dX6_learn_104 (by decide) (fun cc => ?_) (fun cc => ?_)
    · have hf := tq_ifp hf cc
      refine tq_pick (L2 := [(0, .ref i0), (1, .int i1)]) [0, 1] rfl ?_
      cases (Option.some.inj hf)
      cases (tq_lx ho)
      exact hk
    · have hf := tq_ifn hf cc
      refine tq_iload_n (M := mX6_learn) (pc := 107) dX6_learn_107 rfl ?_
      obtain ⟨p31, ep31, hf⟩ := tq_be hf
      have HJ108 : tq_W l mX6_learn d bc bs Q 142 [(0, .ref i0), (1, .int i1), (2, .int i2), (3, .int i3), (4, .int y4)] [] p31 := by
        obtain ⟨x32, ex32, hf⟩ := tq_le hf
        refine tq_iinc (M := mX6_learn) (pc := 142) (v := x32) (L2 := [(4, .int x32), (0, .ref i0), (1, .int i1), (2, .int i2), (3, .int i3)]) dX6_learn_142 rfl (by rw [ex32, tk_ki_1]) (by decide) rfl ?_
        refine tq_goto (M := mX6_learn) (pc := 145) (tgt := 100) dX6_learn_145 (by decide) ?_
        refine tq_pick (L2 := [(0, .ref i0), (1, .int i1), (2, .int i2), (3, .int i3), (4, .int x32)]) [1, 2, 3, 4, 0] rfl ?_
        cases (Option.some.inj hf)
        exact ih _ _ o (tq_lc ho) hk
      refine tq_if_eq (M := mX6_learn) (pc := 108) (tgt := 142) dX6_learn_108 (by decide) (fun cc => ?_) (fun cc => ?_)
      · have hf := tq_ifp ep31 cc
        cases (Option.some.inj hf)
        exact HJ108
      · have hf := tq_ifn ep31 cc
        refine tq_iload_n (M := mX6_learn) (pc := 111) dX6_learn_111 rfl ?_
        refine tq_iload (M := mX6_learn) (pc := 112) dX6_learn_112 rfl ?_
        refine tq_ishr (M := mX6_learn) (pc := 114) dX6_learn_114 ?_
        refine tq_iconst (M := mX6_learn) (pc := 115) dX6_learn_115 tk_ki_1 ?_
        refine tq_iand (M := mX6_learn) (pc := 116) dX6_learn_116 ?_
        refine tq_if_eq (M := mX6_learn) (pc := 117) (tgt := 142) dX6_learn_117 (by decide) (fun cc => ?_) (fun cc => ?_)
        · have hf := tq_ifp hf cc
          cases (Option.some.inj hf)
          exact HJ108
        · have hf := tq_ifn hf cc
          refine tq_aload_n (M := mX6_learn) (pc := 120) dX6_learn_120 rfl ?_
          obtain ⟨k25, ek25, hf⟩ := tq_be hf
          refine tq_getR (M := mX6_learn) (pc := 121) tk_c6 (by decide) dX6_learn_121 tk_RX6_35 rfl ek25 ?_
          refine tq_iload (M := mX6_learn) (pc := 124) dX6_learn_124 rfl ?_
          refine tq_aload_n (M := mX6_learn) (pc := 126) dX6_learn_126 rfl ?_
          obtain ⟨k26, ek26, hf⟩ := tq_be hf
          refine tq_getR (M := mX6_learn) (pc := 127) tk_c6 (by decide) dX6_learn_127 tk_RX6_35 rfl ek26 ?_
          refine tq_iload (M := mX6_learn) (pc := 130) dX6_learn_130 rfl ?_
          obtain ⟨⟨⟩, eu28, hf⟩ := tq_be hf
          obtain ⟨fsu28, eu28⟩ := tq_is_s eu28
          obtain ⟨v27, ev27, hf⟩ := tq_be hf
          refine tq_calV (M := mX6_learn) (pc := 132) (S := [.int y4, .ref k25]) tk_y_X5_get tk_v_X5_get tk_RX6_52 dX6_learn_132 [.int y4] rfl (S0 := _) rfl eu28 rfl (Nat.le_of_ble_eq_true rfl) (d1 := d - 1) (b1 := 0) (s1 := 0) (bc' := bc) (bs' := bs) (Q1 := fun r h9 => r = .inl (some (.int v27)) ∧ hh = h9) (by omega) (by omega) (by omega) (w_X5_get (by omega) ev27 (fun _ _ q => q)) (fun E h9 q => nomatch (show (Sum.inr E : tq_R) = Sum.inl _ from q.1)) (fun r9 h9 q => ?_)
          obtain ⟨q1, rfl⟩ := q
          cases (show (Sum.inl r9 : tq_R) = Sum.inl (some (.int v27)) from q1)
          refine tq_iconst (M := mX6_learn) (pc := 135) dX6_learn_135 tk_ki_1 ?_
          refine tq_iload_n (M := mX6_learn) (pc := 136) dX6_learn_136 rfl ?_
          refine tq_ishl (M := mX6_learn) (pc := 137) dX6_learn_137 ?_
          refine tq_ior (M := mX6_learn) (pc := 138) dX6_learn_138 ?_
          obtain ⟨⟨⟩, eu30, hf⟩ := tq_be hf
          obtain ⟨fsu30, eu30⟩ := tq_is_s eu30
          obtain ⟨v29, ev29, hf⟩ := tq_be hf
          refine tq_calV (M := mX6_learn) (pc := 139) (S := []) tk_y_X5_set tk_v_X5_set tk_RX6_56 dX6_learn_139 [.int y4, .int ((v27 ||| ((1 : Int32) <<< (i1 &&& 31))))] rfl (S0 := _) rfl eu30 rfl (Nat.le_of_ble_eq_true rfl) (d1 := d - 1) (b1 := 0) (s1 := 0) (bc' := bc) (bs' := bs) (Q1 := fun r h9 => r = .inl none ∧ v29 = h9) (by omega) (by omega) (by omega) (w_X5_set (by omega) ev29 (fun _ _ q => q)) (fun E h9 q => nomatch (show (Sum.inr E : tq_R) = Sum.inl _ from q.1)) (fun r9 h9 q => ?_)
          obtain ⟨q1, rfl⟩ := q
          cases (show (Sum.inl r9 : tq_R) = Sum.inl (none) from q1)
          cases (Option.some.inj hf)
          exact HJ108
set_option maxHeartbeats 4000000 in
theorem l_X6_learn_60 {l : Launch} {d : Nat} {Q : tq_R → tq_H → Prop} {bc bs : Nat} (hd9 : 2 ≤ d) (i0 : Nat) : ∀ (n : Nat) (y1 : Int32) (hh : tq_H) (o : tq_H), tq_loop (f_X6_learn_b60 i0) n (y1, hh) = some o → tq_W l mX6_learn d bc bs Q 154 [] [] o → tq_W l mX6_learn d bc bs Q 60 [(0, .ref i0), (1, .int y1)] [] hh := by
  intro n
  induction n with
  | zero => intro y1 hh o hl; cases hl
  | succ n ih =>
    intro y1 hh o hl hk
    obtain ⟨oo, hf, ho⟩ := tq_loop_s hl
    refine tq_iload_n (M := mX6_learn) (pc := 60) dX6_learn_60 rfl ?_
    refine tq_bipush (M := mX6_learn) (pc := 61) dX6_learn_61 tk_kb_6 ?_
    refine tq_icmp_ge (M := mX6_learn) (pc := 63) (tgt := 154) dX6_learn_63 (by decide) (fun cc => ?_) (fun cc => ?_)
    · have hf := tq_ifp hf cc
      refine tq_pick (L2 := []) [] rfl ?_
      cases (Option.some.inj hf)
      cases (tq_lx ho)
      exact hk
    · have hf := tq_ifn hf cc
      refine tq_aload_n (M := mX6_learn) (pc := 66) dX6_learn_66 rfl ?_
      obtain ⟨k18, ek18, hf⟩ := tq_be hf
      refine tq_getR (M := mX6_learn) (pc := 67) tk_c6 (by decide) dX6_learn_67 tk_RX6_32 rfl ek18 ?_
      refine tq_iload_n (M := mX6_learn) (pc := 70) dX6_learn_70 rfl ?_
      obtain ⟨⟨⟩, eu20, hf⟩ := tq_be hf
      obtain ⟨fsu20, eu20⟩ := tq_is_s eu20
      obtain ⟨v19, ev19, hf⟩ := tq_be hf
      refine tq_calV (M := mX6_learn) (pc := 71) (S := []) tk_y_X5_get tk_v_X5_get tk_RX6_52 dX6_learn_71 [.int y1] rfl (S0 := _) rfl eu20 rfl (Nat.le_of_ble_eq_true rfl) (d1 := d - 1) (b1 := 0) (s1 := 0) (bc' := bc) (bs' := bs) (Q1 := fun r h9 => r = .inl (some (.int v19)) ∧ hh = h9) (by omega) (by omega) (by omega) (w_X5_get (by omega) ev19 (fun _ _ q => q)) (fun E h9 q => nomatch (show (Sum.inr E : tq_R) = Sum.inl _ from q.1)) (fun r9 h9 q => ?_)
      obtain ⟨q1, rfl⟩ := q
      cases (show (Sum.inl r9 : tq_R) = Sum.inl (some (.int v19)) from q1)
      refine tq_aload_n (M := mX6_learn) (pc := 74) dX6_learn_74 rfl ?_
      obtain ⟨x21, ex21, hf⟩ := tq_be hf
      refine tq_getI (M := mX6_learn) (pc := 75) tk_c6 (by decide) dX6_learn_75 tk_RX6_45 rfl ex21 ?_
      refine tq_iand (M := mX6_learn) (pc := 78) dX6_learn_78 ?_
      obtain ⟨x22, ex22, hf⟩ := tq_le hf
      refine tq_istore_n (M := mX6_learn) (pc := 79) rfl dX6_learn_79 (L2 := [(2, .int x22), (0, .ref i0), (1, .int y1)]) (by decide) (by rw [ex22]; rfl) ?_
      refine tq_aload_n (M := mX6_learn) (pc := 80) dX6_learn_80 rfl ?_
      obtain ⟨x23, ex23, hf⟩ := tq_be hf
      refine tq_getI (M := mX6_learn) (pc := 81) tk_c6 (by decide) dX6_learn_81 tk_RX6_45 rfl ex23 ?_
      refine tq_iload_n (M := mX6_learn) (pc := 84) dX6_learn_84 rfl ?_
      refine tq_ishr (M := mX6_learn) (pc := 85) dX6_learn_85 ?_
      refine tq_iconst (M := mX6_learn) (pc := 86) dX6_learn_86 tk_ki_1 ?_
      refine tq_iand (M := mX6_learn) (pc := 87) dX6_learn_87 ?_
      obtain ⟨p24, ep24, hf⟩ := tq_le hf
      have HJ88 : tq_W l mX6_learn d bc bs Q 96 [(0, .ref i0), (1, .int y1), (2, .int x22)] [.int p24] hh := by
        refine tq_istore_n (M := mX6_learn) (pc := 96) rfl dX6_learn_96 (L2 := [(3, .int p24), (0, .ref i0), (1, .int y1), (2, .int x22)]) (by decide) rfl ?_
        refine tq_iconst (M := mX6_learn) (pc := 97) dX6_learn_97 tk_ki_0 ?_
        refine tq_istore (M := mX6_learn) (pc := 98) dX6_learn_98 (L2 := [(4, .int (0 : Int32)), (3, .int p24), (0, .ref i0), (1, .int y1), (2, .int x22)]) (by decide) rfl ?_
        obtain ⟨o33, eo33, hf⟩ := tq_be hf
        refine tq_pick (L2 := [(0, .ref i0), (1, .int y1), (2, .int x22), (3, .int p24), (4, .int (0 : Int32))]) [2, 3, 4, 1, 0] rfl ?_
        refine l_X6_learn_100 (bc := bc) (bs := bs) (by omega) i0 y1 x22 p24 _ (0 : Int32) hh _ eo33 ?_
        obtain ⟨x34, ex34, hf⟩ := tq_le hf
        refine tq_iinc (M := mX6_learn) (pc := 148) (v := x34) (L2 := [(1, .int x34), (0, .ref i0)]) dX6_learn_148 rfl (by rw [ex34, tk_ki_1]) (by decide) rfl ?_
        refine tq_goto (M := mX6_learn) (pc := 151) (tgt := 60) dX6_learn_151 (by decide) ?_
        refine tq_pick (L2 := [(0, .ref i0), (1, .int x34)]) [1, 0] rfl ?_
        cases (Option.some.inj hf)
        exact ih _ _ o (tq_lc ho) hk
      refine tq_if_eq (M := mX6_learn) (pc := 88) (tgt := 95) dX6_learn_88 (by decide) (fun cc => ?_) (fun cc => ?_)
      · have hf := tq_ifp ep24.symm cc
        refine tq_iconst (M := mX6_learn) (pc := 95) dX6_learn_95 tk_ki_0 ?_
        refine tq_pick (L2 := [(0, .ref i0), (1, .int y1), (2, .int x22)]) [1, 2, 0] rfl ?_
        cases hf
        exact HJ88
      · have hf := tq_ifn ep24.symm cc
        refine tq_iconst (M := mX6_learn) (pc := 91) dX6_learn_91 tk_ki_1 ?_
        refine tq_goto (M := mX6_learn) (pc := 92) (tgt := 96) dX6_learn_92 (by decide) ?_
        refine tq_pick (L2 := [(0, .ref i0), (1, .int y1), (2, .int x22)]) [1, 2, 0] rfl ?_
        cases hf
        exact HJ88
set_option maxHeartbeats 4000000 in
set_option maxRecDepth 20000 in
theorem w_X6_learn {l : Launch} {d : Nat} (hd9 : 2 ≤ d) {t : Nat} {h : tq_H} {o : tq_H} {Q : tq_R → tq_H → Prop} (hf : f_X6_learn t h = some o) (hQ : ∀ r h9, r = .inl none ∧ o = h9 → Q r h9) : tq_C l yX6_learn cX6_learn 5 none d 0 0 [.ref t] h Q := by
  refine tq_body (y := yX6_learn) false (by decide +kernel) (fun z => by cases z) (Nat.le_of_ble_eq_true rfl) ?_
  show tq_W l mX6_learn d 0 0 Q 0 [(0, .ref t)] [] h
  refine tq_aload_n (M := mX6_learn) (pc := 0) dX6_learn_0 rfl ?_
  obtain ⟨k1, ek1, hf⟩ := tq_be hf
  refine tq_getR (M := mX6_learn) (pc := 1) tk_c6 (by decide) dX6_learn_1 tk_RX6_32 rfl ek1 ?_
  refine tq_iconst (M := mX6_learn) (pc := 4) dX6_learn_4 tk_ki_0 ?_
  obtain ⟨⟨⟩, eu3, hf⟩ := tq_be hf
  obtain ⟨fsu3, eu3⟩ := tq_is_s eu3
  obtain ⟨v2, ev2, hf⟩ := tq_be hf
  refine tq_calV (M := mX6_learn) (pc := 5) (S := []) tk_y_X5_setAll tk_v_X5_setAll tk_RX6_141 dX6_learn_5 [.int (0 : Int32)] rfl (S0 := _) rfl eu3 rfl (Nat.le_of_ble_eq_true rfl) (d1 := d - 1) (b1 := 0) (s1 := 0) (bc' := 0) (bs' := 0) (Q1 := fun r h9 => r = .inl none ∧ v2 = h9) (by omega) rfl rfl (w_X5_setAll (by omega) ev2 (fun _ _ q => q)) (fun E h9 q => nomatch (show (Sum.inr E : tq_R) = Sum.inl _ from q.1)) (fun r9 h9 q => ?_)
  obtain ⟨q1, rfl⟩ := q
  cases (show (Sum.inl r9 : tq_R) = Sum.inl (none) from q1)
  refine tq_aload_n (M := mX6_learn) (pc := 8) dX6_learn_8 rfl ?_
  obtain ⟨k4, ek4, hf⟩ := tq_be hf
  refine tq_getR (M := mX6_learn) (pc := 9) tk_c6 (by decide) dX6_learn_9 tk_RX6_35 rfl ek4 ?_
  refine tq_iconst (M := mX6_learn) (pc := 12) dX6_learn_12 tk_ki_0 ?_
  obtain ⟨⟨⟩, eu6, hf⟩ := tq_be hf
  obtain ⟨fsu6, eu6⟩ := tq_is_s eu6
  obtain ⟨v5, ev5, hf⟩ := tq_be hf
  refine tq_calV (M := mX6_learn) (pc := 13) (S := []) tk_y_X5_setAll tk_v_X5_setAll tk_RX6_141 dX6_learn_13 [.int (0 : Int32)] rfl (S0 := _) rfl eu6 rfl (Nat.le_of_ble_eq_true rfl) (d1 := d - 1) (b1 := 0) (s1 := 0) (bc' := 0) (bs' := 0) (Q1 := fun r h9 => r = .inl none ∧ v5 = h9) (by omega) rfl rfl (w_X5_setAll (by omega) ev5 (fun _ _ q => q)) (fun E h9 q => nomatch (show (Sum.inr E : tq_R) = Sum.inl _ from q.1)) (fun r9 h9 q => ?_)
  obtain ⟨q1, rfl⟩ := q
  cases (show (Sum.inl r9 : tq_R) = Sum.inl (none) from q1)
  refine tq_iconst (M := mX6_learn) (pc := 16) dX6_learn_16 tk_ki_0 ?_
  refine tq_istore_n (M := mX6_learn) (pc := 17) rfl dX6_learn_17 (L2 := [(1, .int (0 : Int32)), (0, .ref t)]) (by decide) rfl ?_
  obtain ⟨o13, eo13, hf⟩ := tq_be hf
  refine tq_pick (L2 := [(0, .ref t), (1, .int (0 : Int32))]) [1, 0] rfl ?_
  refine l_X6_learn_18 (bc := 0) (bs := 0) (by omega) t _ (0 : Int32) v5 _ eo13 ?_
  refine tq_aload_n (M := mX6_learn) (pc := 43) dX6_learn_43 rfl ?_
  refine tq_aload_n (M := mX6_learn) (pc := 44) dX6_learn_44 rfl ?_
  obtain ⟨k14, ek14, hf⟩ := tq_be hf
  refine tq_getR (M := mX6_learn) (pc := 45) tk_c6 (by decide) dX6_learn_45 tk_RX6_32 rfl ek14 ?_
  refine tq_iconst (M := mX6_learn) (pc := 48) dX6_learn_48 tk_ki_0 ?_
  refine tq_iconst (M := mX6_learn) (pc := 49) dX6_learn_49 tk_ki_1 ?_
  obtain ⟨⟨⟩, eu16, hf⟩ := tq_be hf
  obtain ⟨fsu16, eu16⟩ := tq_is_s eu16
  obtain ⟨v15, ev15, hf⟩ := tq_be hf
  refine tq_calV (M := mX6_learn) (pc := 50) (S := [.ref t]) tk_y_X5_closure tk_v_X5_closure tk_RX6_148 dX6_learn_50 [.int (0 : Int32), .int (1 : Int32)] rfl (S0 := _) rfl eu16 rfl (Nat.le_of_ble_eq_true rfl) (d1 := d - 1) (b1 := 0) (s1 := 0) (bc' := 0) (bs' := 0) (Q1 := fun r h9 => r = .inl (some (.int v15)) ∧ o13 = h9) (by omega) rfl rfl (w_X5_closure (by omega) ev15 (fun _ _ q => q)) (fun E h9 q => nomatch (show (Sum.inr E : tq_R) = Sum.inl _ from q.1)) (fun r9 h9 q => ?_)
  obtain ⟨q1, rfl⟩ := q
  cases (show (Sum.inl r9 : tq_R) = Sum.inl (some (.int v15)) from q1)
  refine tq_iconst (M := mX6_learn) (pc := 53) dX6_learn_53 tk_ki_1 ?_
  refine tq_ior (M := mX6_learn) (pc := 54) dX6_learn_54 ?_
  obtain ⟨w17, ew17, hf⟩ := tq_be hf
  refine tq_putv (M := mX6_learn) (pc := 55) tk_c6 (by decide) dX6_learn_55 tk_RX6_45 rfl (Or.inl rfl) ew17 (tq_nI _) ?_
  refine tq_iconst (M := mX6_learn) (pc := 58) dX6_learn_58 tk_ki_0 ?_
  refine tq_istore_n (M := mX6_learn) (pc := 59) rfl dX6_learn_59 (L2 := [(1, .int (0 : Int32)), (0, .ref t)]) (by decide) rfl ?_
  obtain ⟨o35, eo35, hf⟩ := tq_be hf
  refine tq_pick (L2 := [(0, .ref t), (1, .int (0 : Int32))]) [1, 0] rfl ?_
  refine l_X6_learn_60 (bc := 0) (bs := 0) (by omega) t _ (0 : Int32) w17 _ eo35 ?_
  refine tq_vret (M := mX6_learn) (pc := 154) dX6_learn_154 rfl ?_
  cases (Option.some.inj hf)
  exact hQ _ _ ⟨rfl, rfl⟩
abbrev mX6_tellAxis : tq_M := (RX6, cX6_tellAxis, 3, (some .int), false, [], none)
def f_X6_tellAxis (t : Nat) (a1 : Int32) (a2 : Int32) (h : tq_H) : Option (Int32) :=
  if a1 = (0 : Int32) then
    some a2
  else
  if a1 = (1 : Int32) then
    (tq_gr h t 6 5).bind fun k1 =>
    (tq_is h k1 5).bind fun _ =>
    (f_X5_union k1 (0 : Int32) a2 h).bind fun v2 =>
    some (v2 &&& (127 : Int32))
  else
  if a1 = (2 : Int32) then
    (tq_gr h t 6 6).bind fun k4 =>
    (tq_is h k4 5).bind fun _ =>
    (f_X5_union k4 (0 : Int32) a2 h).bind fun v5 =>
    some v5
  else
  if a1 = (3 : Int32) then
    (tq_gr h t 6 5).bind fun k7 =>
    (tq_is h k7 5).bind fun _ =>
    (f_X5_closure k7 (0 : Int32) a2 h).bind fun v8 =>
    some (v8 &&& (127 : Int32))
  else
  if a1 = (4 : Int32) then
    (tq_gr h t 6 5).bind fun k10 =>
    (tq_is h k10 5).bind fun _ =>
    (f_X5_closure k10 (0 : Int32) a2 h).bind fun v11 =>
    some ((v11 &&& (127 : Int32)) ||| a2)
  else
  if a1 = (5 : Int32) then
    (tq_gr h t 6 6).bind fun k13 =>
    (tq_is h k13 5).bind fun _ =>
    (f_X5_closure k13 (0 : Int32) a2 h).bind fun v14 =>
    some v14
  else
  if a1 = (6 : Int32) then
    (tq_gr h t 6 6).bind fun k16 =>
    (tq_is h k16 5).bind fun _ =>
    (f_X5_closure k16 (0 : Int32) a2 h).bind fun v17 =>
    some (v17 ||| a2)
  else
  if a1 = (7 : Int32) then
    (if a2 = 0 then
      some (0 : Int32)
    else
      (tq_gi h t 6 9).bind fun x19 =>
      some (x19 &&& (127 : Int32))).bind fun p20 =>
    some p20
  else
  if a1 = (8 : Int32) then
    (if a2 = 0 then
      some (0 : Int32)
    else
      (tq_gi h t 6 9).bind fun x21 =>
      some (x21 &&& (127 : Int32))).bind fun p22 =>
    some p22
  else
  if a1 = (9 : Int32) then
    (tq_gr h t 6 5).bind fun k23 =>
    (tq_gr h t 6 6).bind fun k24 =>
    (tq_is h k24 5).bind fun _ =>
    (f_X5_union k24 (0 : Int32) a2 h).bind fun v25 =>
    (tq_is h k23 5).bind fun _ =>
    (f_X5_union k23 (0 : Int32) v25 h).bind fun v27 =>
    some (v27 &&& (127 : Int32))
  else
  if a1 = (10 : Int32) then
    (tq_gr h t 6 5).bind fun k29 =>
    (tq_gr h t 6 6).bind fun k30 =>
    (tq_is h k30 5).bind fun _ =>
    (f_X5_union k30 (0 : Int32) a2 h).bind fun v31 =>
    (tq_is h k29 5).bind fun _ =>
    (f_X5_union k29 (0 : Int32) v31 h).bind fun v33 =>
    some (v33 &&& (127 : Int32))
  else
    (tq_gr h t 6 5).bind fun k35 =>
    (tq_is h k35 5).bind fun _ =>
    (f_X5_union k35 (0 : Int32) a2 h).bind fun v36 =>
    some (v36 &&& (128 : Int32))
set_option maxHeartbeats 4000000 in
set_option maxRecDepth 20000 in
theorem w_X6_tellAxis {l : Launch} {d : Nat} (hd9 : 2 ≤ d) {t : Nat} {a1 : Int32} {a2 : Int32} {h : tq_H} {o : Int32} {Q : tq_R → tq_H → Prop} (hf : f_X6_tellAxis t a1 a2 h = some o) (hQ : ∀ r h9, r = .inl (some (.int o)) ∧ h = h9 → Q r h9) : tq_C l yX6_tellAxis cX6_tellAxis 3 (some .int) d 0 0 [.ref t, .int a1, .int a2] h Q := by
  refine tq_body (y := yX6_tellAxis) false (by decide +kernel) (fun z => by cases z) (Nat.le_of_ble_eq_true rfl) ?_
  show tq_W l mX6_tellAxis d 0 0 Q 0 [(0, .ref t), (1, .int a1), (2, .int a2)] [] h
  refine tq_iload_n (M := mX6_tellAxis) (pc := 0) dX6_tellAxis_0 rfl ?_
  by_cases c0 : a1 = (0 : Int32)
  · have hf := tq_ifp hf c0
    refine tq_tabX (M := mX6_tellAxis) (pc := 1) (tgt := 60) (0 : Int32) c0 dX6_tellAxis_1 (by decide +kernel) (by decide +kernel) (off := 59) (by decide +kernel) (by decide) ?_
    refine tq_iload_n (M := mX6_tellAxis) (pc := 60) dX6_tellAxis_60 rfl ?_
    refine tq_iret (M := mX6_tellAxis) (pc := 61) dX6_tellAxis_61 rfl ?_
    cases (Option.some.inj hf)
    exact hQ _ _ ⟨rfl, rfl⟩
  have hf := tq_ifn hf c0
  by_cases c1 : a1 = (1 : Int32)
  · have hf := tq_ifp hf c1
    refine tq_tabX (M := mX6_tellAxis) (pc := 1) (tgt := 62) (1 : Int32) c1 dX6_tellAxis_1 (by decide +kernel) (by decide +kernel) (off := 61) (by decide +kernel) (by decide) ?_
    refine tq_aload_n (M := mX6_tellAxis) (pc := 62) dX6_tellAxis_62 rfl ?_
    obtain ⟨k1, ek1, hf⟩ := tq_be hf
    refine tq_getR (M := mX6_tellAxis) (pc := 63) tk_c6 (by decide) dX6_tellAxis_63 tk_RX6_32 rfl ek1 ?_
    refine tq_iconst (M := mX6_tellAxis) (pc := 66) dX6_tellAxis_66 tk_ki_0 ?_
    refine tq_iload_n (M := mX6_tellAxis) (pc := 67) dX6_tellAxis_67 rfl ?_
    obtain ⟨⟨⟩, eu3, hf⟩ := tq_be hf
    obtain ⟨fsu3, eu3⟩ := tq_is_s eu3
    obtain ⟨v2, ev2, hf⟩ := tq_be hf
    refine tq_calV (M := mX6_tellAxis) (pc := 68) (S := []) tk_y_X5_union tk_v_X5_union tk_RX6_122 dX6_tellAxis_68 [.int (0 : Int32), .int a2] rfl (S0 := _) rfl eu3 rfl (Nat.le_of_ble_eq_true rfl) (d1 := d - 1) (b1 := 0) (s1 := 0) (bc' := 0) (bs' := 0) (Q1 := fun r h9 => r = .inl (some (.int v2)) ∧ h = h9) (by omega) rfl rfl (w_X5_union (by omega) ev2 (fun _ _ q => q)) (fun E h9 q => nomatch (show (Sum.inr E : tq_R) = Sum.inl _ from q.1)) (fun r9 h9 q => ?_)
    obtain ⟨q1, rfl⟩ := q
    cases (show (Sum.inl r9 : tq_R) = Sum.inl (some (.int v2)) from q1)
    refine tq_bipush (M := mX6_tellAxis) (pc := 71) dX6_tellAxis_71 tk_kb_127 ?_
    refine tq_iand (M := mX6_tellAxis) (pc := 73) dX6_tellAxis_73 ?_
    refine tq_iret (M := mX6_tellAxis) (pc := 74) dX6_tellAxis_74 rfl ?_
    cases (Option.some.inj hf)
    exact hQ _ _ ⟨rfl, rfl⟩
  have hf := tq_ifn hf c1
  by_cases c2 : a1 = (2 : Int32)
  · have hf := tq_ifp hf c2
    refine tq_tabX (M := mX6_tellAxis) (pc := 1) (tgt := 75) (2 : Int32) c2 dX6_tellAxis_1 (by decide +kernel) (by decide +kernel) (off := 74) (by decide +kernel) (by decide) ?_
    refine tq_aload_n (M := mX6_tellAxis) (pc := 75) dX6_tellAxis_75 rfl ?_
    obtain ⟨k4, ek4, hf⟩ := tq_be hf
    refine tq_getR (M := mX6_tellAxis) (pc := 76) tk_c6 (by decide) dX6_tellAxis_76 tk_RX6_35 rfl ek4 ?_
    refine tq_iconst (M := mX6_tellAxis) (pc := 79) dX6_tellAxis_79 tk_ki_0 ?_
    refine tq_iload_n (M := mX6_tellAxis) (pc := 80) dX6_tellAxis_80 rfl ?_
    obtain ⟨⟨⟩, eu6, hf⟩ := tq_be hf
    obtain ⟨fsu6, eu6⟩ := tq_is_s eu6
    obtain ⟨v5, ev5, hf⟩ := tq_be hf
    refine tq_calV (M := mX6_tellAxis) (pc := 81) (S := []) tk_y_X5_union tk_v_X5_union tk_RX6_122 dX6_tellAxis_81 [.int (0 : Int32), .int a2] rfl (S0 := _) rfl eu6 rfl (Nat.le_of_ble_eq_true rfl) (d1 := d - 1) (b1 := 0) (s1 := 0) (bc' := 0) (bs' := 0) (Q1 := fun r h9 => r = .inl (some (.int v5)) ∧ h = h9) (by omega) rfl rfl (w_X5_union (by omega) ev5 (fun _ _ q => q)) (fun E h9 q => nomatch (show (Sum.inr E : tq_R) = Sum.inl _ from q.1)) (fun r9 h9 q => ?_)
    obtain ⟨q1, rfl⟩ := q
    cases (show (Sum.inl r9 : tq_R) = Sum.inl (some (.int v5)) from q1)
    refine tq_iret (M := mX6_tellAxis) (pc := 84) dX6_tellAxis_84 rfl ?_
    cases (Option.some.inj hf)
    exact hQ _ _ ⟨rfl, rfl⟩
  have hf := tq_ifn hf c2
  by_cases c3 : a1 = (3 : Int32)
  · have hf := tq_ifp hf c3
    refine tq_tabX (M := mX6_tellAxis) (pc := 1) (tgt := 85) (3 : Int32) c3 dX6_tellAxis_1 (by decide +kernel) (by decide +kernel) (off := 84) (by decide +kernel) (by decide) ?_
    refine tq_aload_n (M := mX6_tellAxis) (pc := 85) dX6_tellAxis_85 rfl ?_
    obtain ⟨k7, ek7, hf⟩ := tq_be hf
    refine tq_getR (M := mX6_tellAxis) (pc := 86) tk_c6 (by decide) dX6_tellAxis_86 tk_RX6_32 rfl ek7 ?_
    refine tq_iconst (M := mX6_tellAxis) (pc := 89) dX6_tellAxis_89 tk_ki_0 ?_
    refine tq_iload_n (M := mX6_tellAxis) (pc := 90) dX6_tellAxis_90 rfl ?_
    obtain ⟨⟨⟩, eu9, hf⟩ := tq_be hf
    obtain ⟨fsu9, eu9⟩ := tq_is_s eu9
    obtain ⟨v8, ev8, hf⟩ := tq_be hf
    refine tq_calV (M := mX6_tellAxis) (pc := 91) (S := []) tk_y_X5_closure tk_v_X5_closure tk_RX6_148 dX6_tellAxis_91 [.int (0 : Int32), .int a2] rfl (S0 := _) rfl eu9 rfl (Nat.le_of_ble_eq_true rfl) (d1 := d - 1) (b1 := 0) (s1 := 0) (bc' := 0) (bs' := 0) (Q1 := fun r h9 => r = .inl (some (.int v8)) ∧ h = h9) (by omega) rfl rfl (w_X5_closure (by omega) ev8 (fun _ _ q => q)) (fun E h9 q => nomatch (show (Sum.inr E : tq_R) = Sum.inl _ from q.1)) (fun r9 h9 q => ?_)
    obtain ⟨q1, rfl⟩ := q
    cases (show (Sum.inl r9 : tq_R) = Sum.inl (some (.int v8)) from q1)
    refine tq_bipush (M := mX6_tellAxis) (pc := 94) dX6_tellAxis_94 tk_kb_127 ?_
    refine tq_iand (M := mX6_tellAxis) (pc := 96) dX6_tellAxis_96 ?_
    refine tq_iret (M := mX6_tellAxis) (pc := 97) dX6_tellAxis_97 rfl ?_
    cases (Option.some.inj hf)
    exact hQ _ _ ⟨rfl, rfl⟩
  have hf := tq_ifn hf c3
  by_cases c4 : a1 = (4 : Int32)
  · have hf := tq_ifp hf c4
    refine tq_tabX (M := mX6_tellAxis) (pc := 1) (tgt := 98) (4 : Int32) c4 dX6_tellAxis_1 (by decide +kernel) (by decide +kernel) (off := 97) (by decide +kernel) (by decide) ?_
    refine tq_aload_n (M := mX6_tellAxis) (pc := 98) dX6_tellAxis_98 rfl ?_
    obtain ⟨k10, ek10, hf⟩ := tq_be hf
    refine tq_getR (M := mX6_tellAxis) (pc := 99) tk_c6 (by decide) dX6_tellAxis_99 tk_RX6_32 rfl ek10 ?_
    refine tq_iconst (M := mX6_tellAxis) (pc := 102) dX6_tellAxis_102 tk_ki_0 ?_
    refine tq_iload_n (M := mX6_tellAxis) (pc := 103) dX6_tellAxis_103 rfl ?_
    obtain ⟨⟨⟩, eu12, hf⟩ := tq_be hf
    obtain ⟨fsu12, eu12⟩ := tq_is_s eu12
    obtain ⟨v11, ev11, hf⟩ := tq_be hf
    refine tq_calV (M := mX6_tellAxis) (pc := 104) (S := []) tk_y_X5_closure tk_v_X5_closure tk_RX6_148 dX6_tellAxis_104 [.int (0 : Int32), .int a2] rfl (S0 := _) rfl eu12 rfl (Nat.le_of_ble_eq_true rfl) (d1 := d - 1) (b1 := 0) (s1 := 0) (bc' := 0) (bs' := 0) (Q1 := fun r h9 => r = .inl (some (.int v11)) ∧ h = h9) (by omega) rfl rfl (w_X5_closure (by omega) ev11 (fun _ _ q => q)) (fun E h9 q => nomatch (show (Sum.inr E : tq_R) = Sum.inl _ from q.1)) (fun r9 h9 q => ?_)
    obtain ⟨q1, rfl⟩ := q
    cases (show (Sum.inl r9 : tq_R) = Sum.inl (some (.int v11)) from q1)
    refine tq_bipush (M := mX6_tellAxis) (pc := 107) dX6_tellAxis_107 tk_kb_127 ?_
    refine tq_iand (M := mX6_tellAxis) (pc := 109) dX6_tellAxis_109 ?_
    refine tq_iload_n (M := mX6_tellAxis) (pc := 110) dX6_tellAxis_110 rfl ?_
    refine tq_ior (M := mX6_tellAxis) (pc := 111) dX6_tellAxis_111 ?_
    refine tq_iret (M := mX6_tellAxis) (pc := 112) dX6_tellAxis_112 rfl ?_
    cases (Option.some.inj hf)
    exact hQ _ _ ⟨rfl, rfl⟩
  have hf := tq_ifn hf c4
  by_cases c5 : a1 = (5 : Int32)
  · have hf := tq_ifp hf c5
    refine tq_tabX (M := mX6_tellAxis) (pc := 1) (tgt := 113) (5 : Int32) c5 dX6_tellAxis_1 (by decide +kernel) (by decide +kernel) (off := 112) (by decide +kernel) (by decide) ?_
    refine tq_aload_n (M := mX6_tellAxis) (pc := 113) dX6_tellAxis_113 rfl ?_
    obtain ⟨k13, ek13, hf⟩ := tq_be hf
    refine tq_getR (M := mX6_tellAxis) (pc := 114) tk_c6 (by decide) dX6_tellAxis_114 tk_RX6_35 rfl ek13 ?_
    refine tq_iconst (M := mX6_tellAxis) (pc := 117) dX6_tellAxis_117 tk_ki_0 ?_
    refine tq_iload_n (M := mX6_tellAxis) (pc := 118) dX6_tellAxis_118 rfl ?_
    obtain ⟨⟨⟩, eu15, hf⟩ := tq_be hf
    obtain ⟨fsu15, eu15⟩ := tq_is_s eu15
    obtain ⟨v14, ev14, hf⟩ := tq_be hf
    refine tq_calV (M := mX6_tellAxis) (pc := 119) (S := []) tk_y_X5_closure tk_v_X5_closure tk_RX6_148 dX6_tellAxis_119 [.int (0 : Int32), .int a2] rfl (S0 := _) rfl eu15 rfl (Nat.le_of_ble_eq_true rfl) (d1 := d - 1) (b1 := 0) (s1 := 0) (bc' := 0) (bs' := 0) (Q1 := fun r h9 => r = .inl (some (.int v14)) ∧ h = h9) (by omega) rfl rfl (w_X5_closure (by omega) ev14 (fun _ _ q => q)) (fun E h9 q => nomatch (show (Sum.inr E : tq_R) = Sum.inl _ from q.1)) (fun r9 h9 q => ?_)
    obtain ⟨q1, rfl⟩ := q
    cases (show (Sum.inl r9 : tq_R) = Sum.inl (some (.int v14)) from q1)
    refine tq_iret (M := mX6_tellAxis) (pc := 122) dX6_tellAxis_122 rfl ?_
    cases (Option.some.inj hf)
    exact hQ _ _ ⟨rfl, rfl⟩
  have hf := tq_ifn hf c5
  by_cases c6 : a1 = (6 : Int32)
  · have hf := tq_ifp hf c6
    refine tq_tabX (M := mX6_tellAxis) (pc := 1) (tgt := 123) (6 : Int32) c6 dX6_tellAxis_1 (by decide +kernel) (by decide +kernel) (off := 122) (by decide +kernel) (by decide) ?_
    refine tq_aload_n (M := mX6_tellAxis) (pc := 123) dX6_tellAxis_123 rfl ?_
    obtain ⟨k16, ek16, hf⟩ := tq_be hf
    refine tq_getR (M := mX6_tellAxis) (pc := 124) tk_c6 (by decide) dX6_tellAxis_124 tk_RX6_35 rfl ek16 ?_
    refine tq_iconst (M := mX6_tellAxis) (pc := 127) dX6_tellAxis_127 tk_ki_0 ?_
    refine tq_iload_n (M := mX6_tellAxis) (pc := 128) dX6_tellAxis_128 rfl ?_
    obtain ⟨⟨⟩, eu18, hf⟩ := tq_be hf
    obtain ⟨fsu18, eu18⟩ := tq_is_s eu18
    obtain ⟨v17, ev17, hf⟩ := tq_be hf
    refine tq_calV (M := mX6_tellAxis) (pc := 129) (S := []) tk_y_X5_closure tk_v_X5_closure tk_RX6_148 dX6_tellAxis_129 [.int (0 : Int32), .int a2] rfl (S0 := _) rfl eu18 rfl (Nat.le_of_ble_eq_true rfl) (d1 := d - 1) (b1 := 0) (s1 := 0) (bc' := 0) (bs' := 0) (Q1 := fun r h9 => r = .inl (some (.int v17)) ∧ h = h9) (by omega) rfl rfl (w_X5_closure (by omega) ev17 (fun _ _ q => q)) (fun E h9 q => nomatch (show (Sum.inr E : tq_R) = Sum.inl _ from q.1)) (fun r9 h9 q => ?_)
    obtain ⟨q1, rfl⟩ := q
    cases (show (Sum.inl r9 : tq_R) = Sum.inl (some (.int v17)) from q1)
    refine tq_iload_n (M := mX6_tellAxis) (pc := 132) dX6_tellAxis_132 rfl ?_
    refine tq_ior (M := mX6_tellAxis) (pc := 133) dX6_tellAxis_133 ?_
    refine tq_iret (M := mX6_tellAxis) (pc := 134) dX6_tellAxis_134 rfl ?_
    cases (Option.some.inj hf)
    exact hQ _ _ ⟨rfl, rfl⟩
  have hf := tq_ifn hf c6
  by_cases c7 : a1 = (7 : Int32)
  · have hf := tq_ifp hf c7
    refine tq_tabX (M := mX6_tellAxis) (pc := 1) (tgt := 135) (7 : Int32) c7 dX6_tellAxis_1 (by decide +kernel) (by decide +kernel) (off := 134) (by decide +kernel) (by decide) ?_
    refine tq_iload_n (M := mX6_tellAxis) (pc := 135) dX6_tellAxis_135 rfl ?_
    obtain ⟨p20, ep20, hf⟩ := tq_be hf
    have HJ136 : tq_W l mX6_tellAxis d 0 0 Q 150 [] [.int p20] h := by
      refine tq_iret (M := mX6_tellAxis) (pc := 150) dX6_tellAxis_150 rfl ?_
      cases (Option.some.inj hf)
      exact hQ _ _ ⟨rfl, rfl⟩
    refine tq_if_ne (M := mX6_tellAxis) (pc := 136) (tgt := 143) dX6_tellAxis_136 (by decide) (fun cc => ?_) (fun cc => ?_)
    · have hf := tq_ifn ep20 cc
      refine tq_aload_n (M := mX6_tellAxis) (pc := 143) dX6_tellAxis_143 rfl ?_
      obtain ⟨x19, ex19, hf⟩ := tq_be hf
      refine tq_getI (M := mX6_tellAxis) (pc := 144) tk_c6 (by decide) dX6_tellAxis_144 tk_RX6_45 rfl ex19 ?_
      refine tq_bipush (M := mX6_tellAxis) (pc := 147) dX6_tellAxis_147 tk_kb_127 ?_
      refine tq_iand (M := mX6_tellAxis) (pc := 149) dX6_tellAxis_149 ?_
      refine tq_pick (L2 := []) [] rfl ?_
      cases (Option.some.inj hf)
      exact HJ136
    · have hf := tq_ifp ep20 cc
      refine tq_iconst (M := mX6_tellAxis) (pc := 139) dX6_tellAxis_139 tk_ki_0 ?_
      refine tq_goto (M := mX6_tellAxis) (pc := 140) (tgt := 150) dX6_tellAxis_140 (by decide) ?_
      refine tq_pick (L2 := []) [] rfl ?_
      cases (Option.some.inj hf)
      exact HJ136
  have hf := tq_ifn hf c7
  by_cases c8 : a1 = (8 : Int32)
  · have hf := tq_ifp hf c8
    refine tq_tabX (M := mX6_tellAxis) (pc := 1) (tgt := 135) (8 : Int32) c8 dX6_tellAxis_1 (by decide +kernel) (by decide +kernel) (off := 134) (by decide +kernel) (by decide) ?_
    refine tq_iload_n (M := mX6_tellAxis) (pc := 135) dX6_tellAxis_135 rfl ?_
    obtain ⟨p22, ep22, hf⟩ := tq_be hf
    have HJ136 : tq_W l mX6_tellAxis d 0 0 Q 150 [] [.int p22] h := by
      refine tq_iret (M := mX6_tellAxis) (pc := 150) dX6_tellAxis_150 rfl ?_
      cases (Option.some.inj hf)
      exact hQ _ _ ⟨rfl, rfl⟩
    refine tq_if_ne (M := mX6_tellAxis) (pc := 136) (tgt := 143) dX6_tellAxis_136 (by decide) (fun cc => ?_) (fun cc => ?_)
    · have hf := tq_ifn ep22 cc
      refine tq_aload_n (M := mX6_tellAxis) (pc := 143) dX6_tellAxis_143 rfl ?_
      obtain ⟨x21, ex21, hf⟩ := tq_be hf
      refine tq_getI (M := mX6_tellAxis) (pc := 144) tk_c6 (by decide) dX6_tellAxis_144 tk_RX6_45 rfl ex21 ?_
      refine tq_bipush (M := mX6_tellAxis) (pc := 147) dX6_tellAxis_147 tk_kb_127 ?_
      refine tq_iand (M := mX6_tellAxis) (pc := 149) dX6_tellAxis_149 ?_
      refine tq_pick (L2 := []) [] rfl ?_
      cases (Option.some.inj hf)
      exact HJ136
    · have hf := tq_ifp ep22 cc
      refine tq_iconst (M := mX6_tellAxis) (pc := 139) dX6_tellAxis_139 tk_ki_0 ?_
      refine tq_goto (M := mX6_tellAxis) (pc := 140) (tgt := 150) dX6_tellAxis_140 (by decide) ?_
      refine tq_pick (L2 := []) [] rfl ?_
      cases (Option.some.inj hf)
      exact HJ136
  have hf := tq_ifn hf c8
  by_cases c9 : a1 = (9 : Int32)
  · have hf := tq_ifp hf c9
    refine tq_tabX (M := mX6_tellAxis) (pc := 1) (tgt := 151) (9 : Int32) c9 dX6_tellAxis_1 (by decide +kernel) (by decide +kernel) (off := 150) (by decide +kernel) (by decide) ?_
    refine tq_aload_n (M := mX6_tellAxis) (pc := 151) dX6_tellAxis_151 rfl ?_
    obtain ⟨k23, ek23, hf⟩ := tq_be hf
    refine tq_getR (M := mX6_tellAxis) (pc := 152) tk_c6 (by decide) dX6_tellAxis_152 tk_RX6_32 rfl ek23 ?_
    refine tq_iconst (M := mX6_tellAxis) (pc := 155) dX6_tellAxis_155 tk_ki_0 ?_
    refine tq_aload_n (M := mX6_tellAxis) (pc := 156) dX6_tellAxis_156 rfl ?_
    obtain ⟨k24, ek24, hf⟩ := tq_be hf
    refine tq_getR (M := mX6_tellAxis) (pc := 157) tk_c6 (by decide) dX6_tellAxis_157 tk_RX6_35 rfl ek24 ?_
    refine tq_iconst (M := mX6_tellAxis) (pc := 160) dX6_tellAxis_160 tk_ki_0 ?_
    refine tq_iload_n (M := mX6_tellAxis) (pc := 161) dX6_tellAxis_161 rfl ?_
    obtain ⟨⟨⟩, eu26, hf⟩ := tq_be hf
    obtain ⟨fsu26, eu26⟩ := tq_is_s eu26
    obtain ⟨v25, ev25, hf⟩ := tq_be hf
    refine tq_calV (M := mX6_tellAxis) (pc := 162) (S := [.int (0 : Int32), .ref k23]) tk_y_X5_union tk_v_X5_union tk_RX6_122 dX6_tellAxis_162 [.int (0 : Int32), .int a2] rfl (S0 := _) rfl eu26 rfl (Nat.le_of_ble_eq_true rfl) (d1 := d - 1) (b1 := 0) (s1 := 0) (bc' := 0) (bs' := 0) (Q1 := fun r h9 => r = .inl (some (.int v25)) ∧ h = h9) (by omega) rfl rfl (w_X5_union (by omega) ev25 (fun _ _ q => q)) (fun E h9 q => nomatch (show (Sum.inr E : tq_R) = Sum.inl _ from q.1)) (fun r9 h9 q => ?_)
    obtain ⟨q1, rfl⟩ := q
    cases (show (Sum.inl r9 : tq_R) = Sum.inl (some (.int v25)) from q1)
    obtain ⟨⟨⟩, eu28, hf⟩ := tq_be hf
    obtain ⟨fsu28, eu28⟩ := tq_is_s eu28
    obtain ⟨v27, ev27, hf⟩ := tq_be hf
    refine tq_calV (M := mX6_tellAxis) (pc := 165) (S := []) tk_y_X5_union tk_v_X5_union tk_RX6_122 dX6_tellAxis_165 [.int (0 : Int32), .int v25] rfl (S0 := _) rfl eu28 rfl (Nat.le_of_ble_eq_true rfl) (d1 := d - 1) (b1 := 0) (s1 := 0) (bc' := 0) (bs' := 0) (Q1 := fun r h9 => r = .inl (some (.int v27)) ∧ h = h9) (by omega) rfl rfl (w_X5_union (by omega) ev27 (fun _ _ q => q)) (fun E h9 q => nomatch (show (Sum.inr E : tq_R) = Sum.inl _ from q.1)) (fun r9 h9 q => ?_)
    obtain ⟨q1, rfl⟩ := q
    cases (show (Sum.inl r9 : tq_R) = Sum.inl (some (.int v27)) from q1)
    refine tq_bipush (M := mX6_tellAxis) (pc := 168) dX6_tellAxis_168 tk_kb_127 ?_
    refine tq_iand (M := mX6_tellAxis) (pc := 170) dX6_tellAxis_170 ?_
    refine tq_iret (M := mX6_tellAxis) (pc := 171) dX6_tellAxis_171 rfl ?_
    cases (Option.some.inj hf)
    exact hQ _ _ ⟨rfl, rfl⟩
  have hf := tq_ifn hf c9
  by_cases c10 : a1 = (10 : Int32)
  · have hf := tq_ifp hf c10
    refine tq_tabX (M := mX6_tellAxis) (pc := 1) (tgt := 151) (10 : Int32) c10 dX6_tellAxis_1 (by decide +kernel) (by decide +kernel) (off := 150) (by decide +kernel) (by decide) ?_
    refine tq_aload_n (M := mX6_tellAxis) (pc := 151) dX6_tellAxis_151 rfl ?_
    obtain ⟨k29, ek29, hf⟩ := tq_be hf
    refine tq_getR (M := mX6_tellAxis) (pc := 152) tk_c6 (by decide) dX6_tellAxis_152 tk_RX6_32 rfl ek29 ?_
    refine tq_iconst (M := mX6_tellAxis) (pc := 155) dX6_tellAxis_155 tk_ki_0 ?_
    refine tq_aload_n (M := mX6_tellAxis) (pc := 156) dX6_tellAxis_156 rfl ?_
    obtain ⟨k30, ek30, hf⟩ := tq_be hf
    refine tq_getR (M := mX6_tellAxis) (pc := 157) tk_c6 (by decide) dX6_tellAxis_157 tk_RX6_35 rfl ek30 ?_
    refine tq_iconst (M := mX6_tellAxis) (pc := 160) dX6_tellAxis_160 tk_ki_0 ?_
    refine tq_iload_n (M := mX6_tellAxis) (pc := 161) dX6_tellAxis_161 rfl ?_
    obtain ⟨⟨⟩, eu32, hf⟩ := tq_be hf
    obtain ⟨fsu32, eu32⟩ := tq_is_s eu32
    obtain ⟨v31, ev31, hf⟩ := tq_be hf
    refine tq_calV (M := mX6_tellAxis) (pc := 162) (S := [.int (0 : Int32), .ref k29]) tk_y_X5_union tk_v_X5_union tk_RX6_122 dX6_tellAxis_162 [.int (0 : Int32), .int a2] rfl (S0 := _) rfl eu32 rfl (Nat.le_of_ble_eq_true rfl) (d1 := d - 1) (b1 := 0) (s1 := 0) (bc' := 0) (bs' := 0) (Q1 := fun r h9 => r = .inl (some (.int v31)) ∧ h = h9) (by omega) rfl rfl (w_X5_union (by omega) ev31 (fun _ _ q => q)) (fun E h9 q => nomatch (show (Sum.inr E : tq_R) = Sum.inl _ from q.1)) (fun r9 h9 q => ?_)
    obtain ⟨q1, rfl⟩ := q
    cases (show (Sum.inl r9 : tq_R) = Sum.inl (some (.int v31)) from q1)
    obtain ⟨⟨⟩, eu34, hf⟩ := tq_be hf
    obtain ⟨fsu34, eu34⟩ := tq_is_s eu34
    obtain ⟨v33, ev33, hf⟩ := tq_be hf
    refine tq_calV (M := mX6_tellAxis) (pc := 165) (S := []) tk_y_X5_union tk_v_X5_union tk_RX6_122 dX6_tellAxis_165 [.int (0 : Int32), .int v31] rfl (S0 := _) rfl eu34 rfl (Nat.le_of_ble_eq_true rfl) (d1 := d - 1) (b1 := 0) (s1 := 0) (bc' := 0) (bs' := 0) (Q1 := fun r h9 => r = .inl (some (.int v33)) ∧ h = h9) (by omega) rfl rfl (w_X5_union (by omega) ev33 (fun _ _ q => q)) (fun E h9 q => nomatch (show (Sum.inr E : tq_R) = Sum.inl _ from q.1)) (fun r9 h9 q => ?_)
    obtain ⟨q1, rfl⟩ := q
    cases (show (Sum.inl r9 : tq_R) = Sum.inl (some (.int v33)) from q1)
    refine tq_bipush (M := mX6_tellAxis) (pc := 168) dX6_tellAxis_168 tk_kb_127 ?_
    refine tq_iand (M := mX6_tellAxis) (pc := 170) dX6_tellAxis_170 ?_
    refine tq_iret (M := mX6_tellAxis) (pc := 171) dX6_tellAxis_171 rfl ?_
    cases (Option.some.inj hf)
    exact hQ _ _ ⟨rfl, rfl⟩
  have hf := tq_ifn hf c10
  have hD := tq_far (c := a1) (n := 11) (by decide) (fun j hj => by match j, hj with
    | 0, _ => exact c0
    | 1, _ => exact c1
    | 2, _ => exact c2
    | 3, _ => exact c3
    | 4, _ => exact c4
    | 5, _ => exact c5
    | 6, _ => exact c6
    | 7, _ => exact c7
    | 8, _ => exact c8
    | 9, _ => exact c9
    | 10, _ => exact c10
    | j + 11, hj => exact absurd hj (by omega))
  refine tq_tabD (M := mX6_tellAxis) (pc := 1) (tgt := 172) dX6_tellAxis_1 (by exact hD) (by decide) ?_
  refine tq_aload_n (M := mX6_tellAxis) (pc := 172) dX6_tellAxis_172 rfl ?_
  obtain ⟨k35, ek35, hf⟩ := tq_be hf
  refine tq_getR (M := mX6_tellAxis) (pc := 173) tk_c6 (by decide) dX6_tellAxis_173 tk_RX6_32 rfl ek35 ?_
  refine tq_iconst (M := mX6_tellAxis) (pc := 176) dX6_tellAxis_176 tk_ki_0 ?_
  refine tq_iload_n (M := mX6_tellAxis) (pc := 177) dX6_tellAxis_177 rfl ?_
  obtain ⟨⟨⟩, eu37, hf⟩ := tq_be hf
  obtain ⟨fsu37, eu37⟩ := tq_is_s eu37
  obtain ⟨v36, ev36, hf⟩ := tq_be hf
  refine tq_calV (M := mX6_tellAxis) (pc := 178) (S := []) tk_y_X5_union tk_v_X5_union tk_RX6_122 dX6_tellAxis_178 [.int (0 : Int32), .int a2] rfl (S0 := _) rfl eu37 rfl (Nat.le_of_ble_eq_true rfl) (d1 := d - 1) (b1 := 0) (s1 := 0) (bc' := 0) (bs' := 0) (Q1 := fun r h9 => r = .inl (some (.int v36)) ∧ h = h9) (by omega) rfl rfl (w_X5_union (by omega) ev36 (fun _ _ q => q)) (fun E h9 q => nomatch (show (Sum.inr E : tq_R) = Sum.inl _ from q.1)) (fun r9 h9 q => ?_)
  obtain ⟨q1, rfl⟩ := q
  cases (show (Sum.inl r9 : tq_R) = Sum.inl (some (.int v36)) from q1)
  refine tq_sipush (M := mX6_tellAxis) (pc := 181) dX6_tellAxis_181 tk_ks_128 ?_
  refine tq_iand (M := mX6_tellAxis) (pc := 184) dX6_tellAxis_184 ?_
  refine tq_iret (M := mX6_tellAxis) (pc := 185) dX6_tellAxis_185 rfl ?_
  cases (Option.some.inj hf)
  exact hQ _ _ ⟨rfl, rfl⟩
abbrev mX6_tellTest : tq_M := (RX6, cX6_tellTest, 4, (some .int), false, [], none)
def f_X6_tellTest_b34 (i0 : Nat) (i1 : Int32) (hh : tq_H) (s : Int32 × Int32) : Option ((Int32 × Int32) ⊕ (Int32)) := match s with
  | (y2, y3) =>
    if y3 ≥ (6 : Int32) then
      some (.inr y2)
    else
      (tq_gr hh i0 6 0).bind fun k1 =>
      (tq_is hh k1 5).bind fun _ =>
      (f_X5_get k1 y3 hh).bind fun v2 =>
      tq_let (if v2 = i1 then ((1 : Int32) <<< (y3 &&& 31)) else (0 : Int32)) fun p4 =>
      tq_let ((y2 ||| p4)) fun x5 =>
      tq_let (y3 + (1 : Int32)) fun x6 =>
      some (.inl (x5, x6))
def f_X6_tellTest (t : Nat) (a1 : Int32) (h : tq_H) : Option (Int32) :=
  if a1 = (8 : Int32) then
    some (255 : Int32)
  else
    if a1 = (9 : Int32) then
      some (64 : Int32)
    else
      if a1 < (10 : Int32) then
        (tq_loop (f_X6_tellTest_b34 t a1 h) tq_N ((128 : Int32), (0 : Int32))).bind fun o7 =>
        some o7
      else
        some (63 : Int32)
set_option maxHeartbeats 4000000 in
theorem l_X6_tellTest_34 {l : Launch} {d : Nat} {Q : tq_R → tq_H → Prop} {bc bs : Nat} (hd9 : 1 ≤ d) (i0 : Nat) (i1 : Int32) (hh : tq_H) : ∀ (n : Nat) (y2 : Int32) (y3 : Int32) (o : Int32), tq_loop (f_X6_tellTest_b34 i0 i1 hh) n (y2, y3) = some o → tq_W l mX6_tellTest d bc bs Q 68 [(2, .int o)] [] hh → tq_W l mX6_tellTest d bc bs Q 34 [(0, .ref i0), (1, .int i1), (2, .int y2), (3, .int y3)] [] hh := by
  intro n
  induction n with
  | zero => intro y2 y3 o hl; cases hl
  | succ n ih =>
    intro y2 y3 o hl hk
    obtain ⟨oo, hf, ho⟩ := tq_loop_s hl
    refine tq_iload_n (M := mX6_tellTest) (pc := 34) dX6_tellTest_34 rfl ?_
    refine tq_bipush (M := mX6_tellTest) (pc := 35) dX6_tellTest_35 tk_kb_6 ?_
    refine tq_icmp_ge (M := mX6_tellTest) (pc := 37) (tgt := 68) dX6_tellTest_37 (by decide) (fun cc => ?_) (fun cc => ?_)
    · have hf := tq_ifp hf cc
      refine tq_pick (L2 := [(2, .int y2)]) [2] rfl ?_
      cases (Option.some.inj hf)
      cases (tq_lx ho)
      exact hk
    · have hf := tq_ifn hf cc
      refine tq_iload_n (M := mX6_tellTest) (pc := 40) dX6_tellTest_40 rfl ?_
      refine tq_aload_n (M := mX6_tellTest) (pc := 41) dX6_tellTest_41 rfl ?_
      obtain ⟨k1, ek1, hf⟩ := tq_be hf
      refine tq_getR (M := mX6_tellTest) (pc := 42) tk_c6 (by decide) dX6_tellTest_42 tk_RX6_14 rfl ek1 ?_
      refine tq_iload_n (M := mX6_tellTest) (pc := 45) dX6_tellTest_45 rfl ?_
      obtain ⟨⟨⟩, eu3, hf⟩ := tq_be hf
      obtain ⟨fsu3, eu3⟩ := tq_is_s eu3
      obtain ⟨v2, ev2, hf⟩ := tq_be hf
      refine tq_calV (M := mX6_tellTest) (pc := 46) (S := [.int y2]) tk_y_X5_get tk_v_X5_get tk_RX6_52 dX6_tellTest_46 [.int y3] rfl (S0 := _) rfl eu3 rfl (Nat.le_of_ble_eq_true rfl) (d1 := d - 1) (b1 := 0) (s1 := 0) (bc' := bc) (bs' := bs) (Q1 := fun r h9 => r = .inl (some (.int v2)) ∧ hh = h9) (by omega) (by omega) (by omega) (w_X5_get (by omega) ev2 (fun _ _ q => q)) (fun E h9 q => nomatch (show (Sum.inr E : tq_R) = Sum.inl _ from q.1)) (fun r9 h9 q => ?_)
      obtain ⟨q1, rfl⟩ := q
      cases (show (Sum.inl r9 : tq_R) = Sum.inl (some (.int v2)) from q1)
      refine tq_iload_n (M := mX6_tellTest) (pc := 49) dX6_tellTest_49 rfl ?_
      obtain ⟨p4, ep4, hf⟩ := tq_le hf
      have HJ50 : tq_W l mX6_tellTest d bc bs Q 60 [(0, .ref i0), (1, .int i1), (3, .int y3)] [.int p4, .int y2] hh := by
        refine tq_ior (M := mX6_tellTest) (pc := 60) dX6_tellTest_60 ?_
        obtain ⟨x5, ex5, hf⟩ := tq_le hf
        refine tq_istore_n (M := mX6_tellTest) (pc := 61) rfl dX6_tellTest_61 (L2 := [(2, .int x5), (0, .ref i0), (1, .int i1), (3, .int y3)]) (by decide) (by rw [ex5]; rfl) ?_
        obtain ⟨x6, ex6, hf⟩ := tq_le hf
        refine tq_iinc (M := mX6_tellTest) (pc := 62) (v := x6) (L2 := [(3, .int x6), (2, .int x5), (0, .ref i0), (1, .int i1)]) dX6_tellTest_62 rfl (by rw [ex6, tk_ki_1]) (by decide) rfl ?_
        refine tq_goto (M := mX6_tellTest) (pc := 65) (tgt := 34) dX6_tellTest_65 (by decide) ?_
        refine tq_pick (L2 := [(0, .ref i0), (1, .int i1), (2, .int x5), (3, .int x6)]) [2, 3, 1, 0] rfl ?_
        cases (Option.some.inj hf)
        exact ih _ _ o (tq_lc ho) hk
      refine tq_icmp_ne (M := mX6_tellTest) (pc := 50) (tgt := 59) dX6_tellTest_50 (by decide) (fun cc => ?_) (fun cc => ?_)
      · have hf := tq_ifn ep4.symm cc
        refine tq_iconst (M := mX6_tellTest) (pc := 59) dX6_tellTest_59 tk_ki_0 ?_
        refine tq_pick (L2 := [(0, .ref i0), (1, .int i1), (3, .int y3)]) [0, 1, 3] rfl ?_
        cases hf
        exact HJ50
      · have hf := tq_ifp ep4.symm cc
        refine tq_iconst (M := mX6_tellTest) (pc := 53) dX6_tellTest_53 tk_ki_1 ?_
        refine tq_iload_n (M := mX6_tellTest) (pc := 54) dX6_tellTest_54 rfl ?_
        refine tq_ishl (M := mX6_tellTest) (pc := 55) dX6_tellTest_55 ?_
        refine tq_goto (M := mX6_tellTest) (pc := 56) (tgt := 60) dX6_tellTest_56 (by decide) ?_
        refine tq_pick (L2 := [(0, .ref i0), (1, .int i1), (3, .int y3)]) [0, 1, 3] rfl ?_
        cases hf
        exact HJ50
set_option maxHeartbeats 4000000 in
set_option maxRecDepth 20000 in
theorem w_X6_tellTest {l : Launch} {d : Nat} (hd9 : 1 ≤ d) {t : Nat} {a1 : Int32} {h : tq_H} {o : Int32} {Q : tq_R → tq_H → Prop} (hf : f_X6_tellTest t a1 h = some o) (hQ : ∀ r h9, r = .inl (some (.int o)) ∧ h = h9 → Q r h9) : tq_C l yX6_tellTest cX6_tellTest 4 (some .int) d 0 0 [.ref t, .int a1] h Q := by
  refine tq_body (y := yX6_tellTest) false (by decide +kernel) (fun z => by cases z) (Nat.le_of_ble_eq_true rfl) ?_
  show tq_W l mX6_tellTest d 0 0 Q 0 [(0, .ref t), (1, .int a1)] [] h
  refine tq_iload_n (M := mX6_tellTest) (pc := 0) dX6_tellTest_0 rfl ?_
  refine tq_bipush (M := mX6_tellTest) (pc := 1) dX6_tellTest_1 tk_kb_8 ?_
  refine tq_icmp_ne (M := mX6_tellTest) (pc := 3) (tgt := 10) dX6_tellTest_3 (by decide) (fun cc => ?_) (fun cc => ?_)
  · have hf := tq_ifn hf cc
    refine tq_iload_n (M := mX6_tellTest) (pc := 10) dX6_tellTest_10 rfl ?_
    refine tq_bipush (M := mX6_tellTest) (pc := 11) dX6_tellTest_11 tk_kb_9 ?_
    refine tq_icmp_ne (M := mX6_tellTest) (pc := 13) (tgt := 19) dX6_tellTest_13 (by decide) (fun cc => ?_) (fun cc => ?_)
    · have hf := tq_ifn hf cc
      refine tq_iload_n (M := mX6_tellTest) (pc := 19) dX6_tellTest_19 rfl ?_
      refine tq_bipush (M := mX6_tellTest) (pc := 20) dX6_tellTest_20 tk_kb_10 ?_
      refine tq_icmp_lt (M := mX6_tellTest) (pc := 22) (tgt := 28) dX6_tellTest_22 (by decide) (fun cc => ?_) (fun cc => ?_)
      · have hf := tq_ifp hf cc
        refine tq_sipush (M := mX6_tellTest) (pc := 28) dX6_tellTest_28 tk_ks_128 ?_
        refine tq_istore_n (M := mX6_tellTest) (pc := 31) rfl dX6_tellTest_31 (L2 := [(2, .int (128 : Int32)), (0, .ref t), (1, .int a1)]) (by decide) rfl ?_
        refine tq_iconst (M := mX6_tellTest) (pc := 32) dX6_tellTest_32 tk_ki_0 ?_
        refine tq_istore_n (M := mX6_tellTest) (pc := 33) rfl dX6_tellTest_33 (L2 := [(3, .int (0 : Int32)), (2, .int (128 : Int32)), (0, .ref t), (1, .int a1)]) (by decide) rfl ?_
        obtain ⟨o7, eo7, hf⟩ := tq_be hf
        refine tq_pick (L2 := [(0, .ref t), (1, .int a1), (2, .int (128 : Int32)), (3, .int (0 : Int32))]) [2, 3, 1, 0] rfl ?_
        refine l_X6_tellTest_34 (bc := 0) (bs := 0) (by omega) t a1 h _ (128 : Int32) (0 : Int32) _ eo7 ?_
        refine tq_iload_n (M := mX6_tellTest) (pc := 68) dX6_tellTest_68 rfl ?_
        refine tq_iret (M := mX6_tellTest) (pc := 69) dX6_tellTest_69 rfl ?_
        cases (Option.some.inj hf)
        exact hQ _ _ ⟨rfl, rfl⟩
      · have hf := tq_ifn hf cc
        refine tq_bipush (M := mX6_tellTest) (pc := 25) dX6_tellTest_25 tk_kb_63 ?_
        refine tq_iret (M := mX6_tellTest) (pc := 27) dX6_tellTest_27 rfl ?_
        cases (Option.some.inj hf)
        exact hQ _ _ ⟨rfl, rfl⟩
    · have hf := tq_ifp hf cc
      refine tq_bipush (M := mX6_tellTest) (pc := 16) dX6_tellTest_16 tk_kb_64 ?_
      refine tq_iret (M := mX6_tellTest) (pc := 18) dX6_tellTest_18 rfl ?_
      cases (Option.some.inj hf)
      exact hQ _ _ ⟨rfl, rfl⟩
  · have hf := tq_ifp hf cc
    refine tq_sipush (M := mX6_tellTest) (pc := 6) dX6_tellTest_6 tk_ks_255 ?_
    refine tq_iret (M := mX6_tellTest) (pc := 9) dX6_tellTest_9 rfl ?_
    cases (Option.some.inj hf)
    exact hQ _ _ ⟨rfl, rfl⟩
abbrev mX6_tellStep : tq_M := (RX6, cX6_tellStep, 7, (some .int), false, [], none)
def f_X6_tellStep (t : Nat) (a1 : Nat) (a2 : Int32) (a3 : Int32) (h : tq_H) : Option (Int32) :=
  (tq_is h a1 4).bind fun _ =>
  (f_X4_axisOf a1 a2 h).bind fun v1 =>
  tq_let (if v1 = (12 : Int32) then (1 : Int32) else (0 : Int32)) fun p3 =>
  (if p3 = 0 then
    (tq_is h t 6).bind fun _ =>
    (f_X6_tellAxis t v1 a3 h).bind fun v4 =>
    some v4
  else
    (tq_gr h t 6 7).bind fun k6 =>
    (tq_is h a1 4).bind fun _ =>
    (f_X4_repeatOf a1 a2 h).bind fun v7 =>
    (tq_is h k6 5).bind fun _ =>
    (f_X5_closure k6 (v7 * (8 : Int32)) a3 h).bind fun v9 =>
    some v9).bind fun p11 =>
  (tq_is h a1 4).bind fun _ =>
  (f_X4_testOf a1 a2 h).bind fun v12 =>
  (tq_is h t 6).bind fun _ =>
  (f_X6_tellTest t v12 h).bind fun v14 =>
  some (p11 &&& v14)
set_option maxHeartbeats 4000000 in
set_option maxRecDepth 20000 in
theorem w_X6_tellStep {l : Launch} {d : Nat} (hd9 : 3 ≤ d) {t : Nat} {a1 : Nat} {a2 : Int32} {a3 : Int32} {h : tq_H} {o : Int32} {Q : tq_R → tq_H → Prop} (hf : f_X6_tellStep t a1 a2 a3 h = some o) (hQ : ∀ r h9, r = .inl (some (.int o)) ∧ h = h9 → Q r h9) : tq_C l yX6_tellStep cX6_tellStep 7 (some .int) d 0 0 [.ref t, .ref a1, .int a2, .int a3] h Q := by
  refine tq_body (y := yX6_tellStep) false (by decide +kernel) (fun z => by cases z) (Nat.le_of_ble_eq_true rfl) ?_
  show tq_W l mX6_tellStep d 0 0 Q 0 [(0, .ref t), (1, .ref a1), (2, .int a2), (3, .int a3)] [] h
  refine tq_aload_n (M := mX6_tellStep) (pc := 0) dX6_tellStep_0 rfl ?_
  refine tq_iload_n (M := mX6_tellStep) (pc := 1) dX6_tellStep_1 rfl ?_
  obtain ⟨⟨⟩, eu2, hf⟩ := tq_be hf
  obtain ⟨fsu2, eu2⟩ := tq_is_s eu2
  obtain ⟨v1, ev1, hf⟩ := tq_be hf
  refine tq_calV (M := mX6_tellStep) (pc := 2) (S := []) tk_y_X4_axisOf tk_v_X4_axisOf tk_RX6_151 dX6_tellStep_2 [.int a2] rfl (S0 := _) rfl eu2 rfl (Nat.le_of_ble_eq_true rfl) (d1 := d - 1) (b1 := 0) (s1 := 0) (bc' := 0) (bs' := 0) (Q1 := fun r h9 => r = .inl (some (.int v1)) ∧ h = h9) (by omega) rfl rfl (w_X4_axisOf (by omega) ev1 (fun _ _ q => q)) (fun E h9 q => nomatch (show (Sum.inr E : tq_R) = Sum.inl _ from q.1)) (fun r9 h9 q => ?_)
  obtain ⟨q1, rfl⟩ := q
  cases (show (Sum.inl r9 : tq_R) = Sum.inl (some (.int v1)) from q1)
  refine tq_istore (M := mX6_tellStep) (pc := 5) dX6_tellStep_5 (L2 := [(4, .int v1), (0, .ref t), (1, .ref a1), (2, .int a2), (3, .int a3)]) (by decide) rfl ?_
  refine tq_iload (M := mX6_tellStep) (pc := 7) dX6_tellStep_7 rfl ?_
  refine tq_bipush (M := mX6_tellStep) (pc := 9) dX6_tellStep_9 tk_kb_12 ?_
  obtain ⟨p3, ep3, hf⟩ := tq_le hf
  have HJ11 : tq_W l mX6_tellStep d 0 0 Q 19 [(0, .ref t), (1, .ref a1), (2, .int a2), (3, .int a3), (4, .int v1)] [.int p3] h := by
    refine tq_istore (M := mX6_tellStep) (pc := 19) dX6_tellStep_19 (L2 := [(5, .int p3), (0, .ref t), (1, .ref a1), (2, .int a2), (3, .int a3), (4, .int v1)]) (by decide) rfl ?_
    refine tq_iload (M := mX6_tellStep) (pc := 21) dX6_tellStep_21 rfl ?_
    obtain ⟨p11, ep11, hf⟩ := tq_be hf
    have HJ23 : tq_W l mX6_tellStep d 0 0 Q 52 [(0, .ref t), (1, .ref a1), (2, .int a2)] [.int p11] h := by
      refine tq_istore (M := mX6_tellStep) (pc := 52) dX6_tellStep_52 (L2 := [(6, .int p11), (0, .ref t), (1, .ref a1), (2, .int a2)]) (by decide) rfl ?_
      refine tq_iload (M := mX6_tellStep) (pc := 54) dX6_tellStep_54 rfl ?_
      refine tq_aload_n (M := mX6_tellStep) (pc := 56) dX6_tellStep_56 rfl ?_
      refine tq_aload_n (M := mX6_tellStep) (pc := 57) dX6_tellStep_57 rfl ?_
      refine tq_iload_n (M := mX6_tellStep) (pc := 58) dX6_tellStep_58 rfl ?_
      obtain ⟨⟨⟩, eu13, hf⟩ := tq_be hf
      obtain ⟨fsu13, eu13⟩ := tq_is_s eu13
      obtain ⟨v12, ev12, hf⟩ := tq_be hf
      refine tq_calV (M := mX6_tellStep) (pc := 59) (S := [.ref t, .int p11]) tk_y_X4_testOf tk_v_X4_testOf tk_RX6_160 dX6_tellStep_59 [.int a2] rfl (S0 := _) rfl eu13 rfl (Nat.le_of_ble_eq_true rfl) (d1 := d - 1) (b1 := 0) (s1 := 0) (bc' := 0) (bs' := 0) (Q1 := fun r h9 => r = .inl (some (.int v12)) ∧ h = h9) (by omega) rfl rfl (w_X4_testOf (by omega) ev12 (fun _ _ q => q)) (fun E h9 q => nomatch (show (Sum.inr E : tq_R) = Sum.inl _ from q.1)) (fun r9 h9 q => ?_)
      obtain ⟨q1, rfl⟩ := q
      cases (show (Sum.inl r9 : tq_R) = Sum.inl (some (.int v12)) from q1)
      obtain ⟨⟨⟩, eu15, hf⟩ := tq_be hf
      obtain ⟨fsu15, eu15⟩ := tq_is_s eu15
      obtain ⟨v14, ev14, hf⟩ := tq_be hf
      refine tq_calV (M := mX6_tellStep) (pc := 62) (S := [.int p11]) tk_y_X6_tellTest tk_v_X6_tellTest tk_RX6_163 dX6_tellStep_62 [.int v12] rfl (S0 := _) rfl eu15 rfl (Nat.le_of_ble_eq_true rfl) (d1 := d - 1) (b1 := 0) (s1 := 0) (bc' := 0) (bs' := 0) (Q1 := fun r h9 => r = .inl (some (.int v14)) ∧ h = h9) (by omega) rfl rfl (w_X6_tellTest (by omega) ev14 (fun _ _ q => q)) (fun E h9 q => nomatch (show (Sum.inr E : tq_R) = Sum.inl _ from q.1)) (fun r9 h9 q => ?_)
      obtain ⟨q1, rfl⟩ := q
      cases (show (Sum.inl r9 : tq_R) = Sum.inl (some (.int v14)) from q1)
      refine tq_iand (M := mX6_tellStep) (pc := 65) dX6_tellStep_65 ?_
      refine tq_iret (M := mX6_tellStep) (pc := 66) dX6_tellStep_66 rfl ?_
      cases (Option.some.inj hf)
      exact hQ _ _ ⟨rfl, rfl⟩
    refine tq_if_eq (M := mX6_tellStep) (pc := 23) (tgt := 45) dX6_tellStep_23 (by decide) (fun cc => ?_) (fun cc => ?_)
    · have hf := tq_ifp ep11 cc
      refine tq_aload_n (M := mX6_tellStep) (pc := 45) dX6_tellStep_45 rfl ?_
      refine tq_iload (M := mX6_tellStep) (pc := 46) dX6_tellStep_46 rfl ?_
      refine tq_iload_n (M := mX6_tellStep) (pc := 48) dX6_tellStep_48 rfl ?_
      obtain ⟨⟨⟩, eu5, hf⟩ := tq_be hf
      obtain ⟨fsu5, eu5⟩ := tq_is_s eu5
      obtain ⟨v4, ev4, hf⟩ := tq_be hf
      refine tq_calV (M := mX6_tellStep) (pc := 49) (S := []) tk_y_X6_tellAxis tk_v_X6_tellAxis tk_RX6_157 dX6_tellStep_49 [.int v1, .int a3] rfl (S0 := _) rfl eu5 rfl (Nat.le_of_ble_eq_true rfl) (d1 := d - 1) (b1 := 0) (s1 := 0) (bc' := 0) (bs' := 0) (Q1 := fun r h9 => r = .inl (some (.int v4)) ∧ h = h9) (by omega) rfl rfl (w_X6_tellAxis (by omega) ev4 (fun _ _ q => q)) (fun E h9 q => nomatch (show (Sum.inr E : tq_R) = Sum.inl _ from q.1)) (fun r9 h9 q => ?_)
      obtain ⟨q1, rfl⟩ := q
      cases (show (Sum.inl r9 : tq_R) = Sum.inl (some (.int v4)) from q1)
      refine tq_pick (L2 := [(0, .ref t), (1, .ref a1), (2, .int a2)]) [1, 2, 3] rfl ?_
      cases (Option.some.inj hf)
      exact HJ23
    · have hf := tq_ifn ep11 cc
      refine tq_aload_n (M := mX6_tellStep) (pc := 26) dX6_tellStep_26 rfl ?_
      obtain ⟨k6, ek6, hf⟩ := tq_be hf
      refine tq_getR (M := mX6_tellStep) (pc := 27) tk_c6 (by decide) dX6_tellStep_27 tk_RX6_38 rfl ek6 ?_
      refine tq_aload_n (M := mX6_tellStep) (pc := 30) dX6_tellStep_30 rfl ?_
      refine tq_iload_n (M := mX6_tellStep) (pc := 31) dX6_tellStep_31 rfl ?_
      obtain ⟨⟨⟩, eu8, hf⟩ := tq_be hf
      obtain ⟨fsu8, eu8⟩ := tq_is_s eu8
      obtain ⟨v7, ev7, hf⟩ := tq_be hf
      refine tq_calV (M := mX6_tellStep) (pc := 32) (S := [.ref k6]) tk_y_X4_repeatOf tk_v_X4_repeatOf tk_RX6_154 dX6_tellStep_32 [.int a2] rfl (S0 := _) rfl eu8 rfl (Nat.le_of_ble_eq_true rfl) (d1 := d - 1) (b1 := 0) (s1 := 0) (bc' := 0) (bs' := 0) (Q1 := fun r h9 => r = .inl (some (.int v7)) ∧ h = h9) (by omega) rfl rfl (w_X4_repeatOf (by omega) ev7 (fun _ _ q => q)) (fun E h9 q => nomatch (show (Sum.inr E : tq_R) = Sum.inl _ from q.1)) (fun r9 h9 q => ?_)
      obtain ⟨q1, rfl⟩ := q
      cases (show (Sum.inl r9 : tq_R) = Sum.inl (some (.int v7)) from q1)
      refine tq_bipush (M := mX6_tellStep) (pc := 35) dX6_tellStep_35 tk_kb_8 ?_
      refine tq_imul (M := mX6_tellStep) (pc := 37) dX6_tellStep_37 ?_
      refine tq_iload_n (M := mX6_tellStep) (pc := 38) dX6_tellStep_38 rfl ?_
      obtain ⟨⟨⟩, eu10, hf⟩ := tq_be hf
      obtain ⟨fsu10, eu10⟩ := tq_is_s eu10
      obtain ⟨v9, ev9, hf⟩ := tq_be hf
      refine tq_calV (M := mX6_tellStep) (pc := 39) (S := []) tk_y_X5_closure tk_v_X5_closure tk_RX6_148 dX6_tellStep_39 [.int ((v7 * (8 : Int32))), .int a3] rfl (S0 := _) rfl eu10 rfl (Nat.le_of_ble_eq_true rfl) (d1 := d - 1) (b1 := 0) (s1 := 0) (bc' := 0) (bs' := 0) (Q1 := fun r h9 => r = .inl (some (.int v9)) ∧ h = h9) (by omega) rfl rfl (w_X5_closure (by omega) ev9 (fun _ _ q => q)) (fun E h9 q => nomatch (show (Sum.inr E : tq_R) = Sum.inl _ from q.1)) (fun r9 h9 q => ?_)
      obtain ⟨q1, rfl⟩ := q
      cases (show (Sum.inl r9 : tq_R) = Sum.inl (some (.int v9)) from q1)
      refine tq_goto (M := mX6_tellStep) (pc := 42) (tgt := 52) dX6_tellStep_42 (by decide) ?_
      refine tq_pick (L2 := [(0, .ref t), (1, .ref a1), (2, .int a2)]) [1, 2, 3] rfl ?_
      cases (Option.some.inj hf)
      exact HJ23
  refine tq_icmp_ne (M := mX6_tellStep) (pc := 11) (tgt := 18) dX6_tellStep_11 (by decide) (fun cc => ?_) (fun cc => ?_)
  · have hf := tq_ifn ep3.symm cc
    refine tq_iconst (M := mX6_tellStep) (pc := 18) dX6_tellStep_18 tk_ki_0 ?_
    refine tq_pick (L2 := [(0, .ref t), (1, .ref a1), (2, .int a2), (3, .int a3), (4, .int v1)]) [1, 2, 3, 4, 0] rfl ?_
    cases hf
    exact HJ11
  · have hf := tq_ifp ep3.symm cc
    refine tq_iconst (M := mX6_tellStep) (pc := 14) dX6_tellStep_14 tk_ki_1 ?_
    refine tq_goto (M := mX6_tellStep) (pc := 15) (tgt := 19) dX6_tellStep_15 (by decide) ?_
    refine tq_pick (L2 := [(0, .ref t), (1, .ref a1), (2, .int a2), (3, .int a3), (4, .int v1)]) [1, 2, 3, 4, 0] rfl ?_
    cases hf
    exact HJ11
abbrev mX6_tell : tq_M := (RX6, cX6_tell, 7, (some .int), false, [], none)
def f_X6_tell_b35 (i0 : Nat) (i1 : Nat) (i2 : Int32) (i3 : Int32) (i4 : Int32) (hh : tq_H) (s : Int32 × Int32) : Option ((Int32 × Int32) ⊕ (Int32)) := match s with
  | (y5, y6) =>
    (tq_is hh i1 4).bind fun _ =>
    (f_X4_stepsOf i1 i3 hh).bind fun v5 =>
    if y6 ≥ v5 then
      some (.inr y5)
    else
      (tq_is hh i1 4).bind fun _ =>
      (f_X4_stepAt i1 i3 y6 hh).bind fun v7 =>
      (tq_is hh i0 6).bind fun _ =>
      (f_X6_tellStep i0 i1 v7 y5 hh).bind fun v9 =>
      tq_let (y6 + (1 : Int32)) fun x11 =>
      some (.inl (v9, x11))
def f_X6_tell_b14 (i0 : Nat) (i1 : Nat) (i2 : Int32) (i3 : Int32) (s : Int32 × tq_H) : Option ((Int32 × tq_H) ⊕ (tq_H)) := match s with
  | (y4, hh) =>
    if y4 ≥ (8 : Int32) then
      some (.inr hh)
    else
      (tq_gi hh i0 6 9).bind fun x3 =>
      tq_let ((x3 &&& ((1 : Int32) <<< (y4 &&& 31)))) fun x4 =>
      (tq_loop (f_X6_tell_b35 i0 i1 i2 i3 y4 hh) tq_N (x4, (0 : Int32))).bind fun o12 =>
      (tq_gr hh i0 6 7).bind fun k13 =>
      (tq_is hh k13 5).bind fun _ =>
      (f_X5_set k13 ((i3 * (8 : Int32)) + y4) o12 hh).bind fun v14 =>
      tq_let (y4 + (1 : Int32)) fun x16 =>
      some (.inl (x16, v14))
def f_X6_tell_b6 (i0 : Nat) (i1 : Nat) (i2 : Int32) (s : Int32 × tq_H) : Option ((Int32 × tq_H) ⊕ (tq_H)) := match s with
  | (y3, hh) =>
    if y3 > i2 then
      some (.inr hh)
    else
      (tq_loop (f_X6_tell_b14 i0 i1 i2 y3) tq_N ((0 : Int32), hh)).bind fun o17 =>
      tq_let (y3 + (1 : Int32)) fun x18 =>
      some (.inl (x18, o17))
def f_X6_tell (t : Nat) (a1 : Nat) (a2 : Int32) (h : tq_H) : Option (Int32 × tq_H) :=
  (tq_is h t 6).bind fun _ =>
  (f_X6_learn t h).bind fun v1 =>
  (tq_loop (f_X6_tell_b6 t a1 a2) tq_N ((0 : Int32), v1)).bind fun o19 =>
  (tq_gr o19 t 6 7).bind fun k20 =>
  (tq_is o19 k20 5).bind fun _ =>
  (f_X5_get k20 (a2 * (8 : Int32)) o19).bind fun v21 =>
  some (v21, o19)
set_option maxHeartbeats 4000000 in
theorem l_X6_tell_35 {l : Launch} {d : Nat} {Q : tq_R → tq_H → Prop} {bc bs : Nat} (hd9 : 4 ≤ d) (i0 : Nat) (i1 : Nat) (i2 : Int32) (i3 : Int32) (i4 : Int32) (hh : tq_H) : ∀ (n : Nat) (y5 : Int32) (y6 : Int32) (o : Int32), tq_loop (f_X6_tell_b35 i0 i1 i2 i3 i4 hh) n (y5, y6) = some o → tq_W l mX6_tell d bc bs Q 67 [(0, .ref i0), (1, .ref i1), (2, .int i2), (3, .int i3), (4, .int i4), (5, .int o)] [] hh → tq_W l mX6_tell d bc bs Q 35 [(0, .ref i0), (1, .ref i1), (2, .int i2), (3, .int i3), (4, .int i4), (5, .int y5), (6, .int y6)] [] hh := by
  intro n
  induction n with
  | zero => intro y5 y6 o hl; cases hl
  | succ n ih =>
    intro y5 y6 o hl hk
    obtain ⟨oo, hf, ho⟩ := tq_loop_s hl
    refine tq_iload (M := mX6_tell) (pc := 35) dX6_tell_35 rfl ?_
    refine tq_aload_n (M := mX6_tell) (pc := 37) dX6_tell_37 rfl ?_
    refine tq_iload_n (M := mX6_tell) (pc := 38) dX6_tell_38 rfl ?_
    obtain ⟨⟨⟩, eu6, hf⟩ := tq_be hf
    obtain ⟨fsu6, eu6⟩ := tq_is_s eu6
    obtain ⟨v5, ev5, hf⟩ := tq_be hf
    refine tq_calV (M := mX6_tell) (pc := 39) (S := [.int y6]) tk_y_X4_stepsOf tk_v_X4_stepsOf tk_RX6_129 dX6_tell_39 [.int i3] rfl (S0 := _) rfl eu6 rfl (Nat.le_of_ble_eq_true rfl) (d1 := d - 1) (b1 := 0) (s1 := 0) (bc' := bc) (bs' := bs) (Q1 := fun r h9 => r = .inl (some (.int v5)) ∧ hh = h9) (by omega) (by omega) (by omega) (w_X4_stepsOf (by omega) ev5 (fun _ _ q => q)) (fun E h9 q => nomatch (show (Sum.inr E : tq_R) = Sum.inl _ from q.1)) (fun r9 h9 q => ?_)
    obtain ⟨q1, rfl⟩ := q
    cases (show (Sum.inl r9 : tq_R) = Sum.inl (some (.int v5)) from q1)
    refine tq_icmp_ge (M := mX6_tell) (pc := 42) (tgt := 67) dX6_tell_42 (by decide) (fun cc => ?_) (fun cc => ?_)
    · have hf := tq_ifp hf cc
      refine tq_pick (L2 := [(0, .ref i0), (1, .ref i1), (2, .int i2), (3, .int i3), (4, .int i4), (5, .int y5)]) [0, 1, 2, 3, 4, 5] rfl ?_
      cases (Option.some.inj hf)
      cases (tq_lx ho)
      exact hk
    · have hf := tq_ifn hf cc
      refine tq_aload_n (M := mX6_tell) (pc := 45) dX6_tell_45 rfl ?_
      refine tq_aload_n (M := mX6_tell) (pc := 46) dX6_tell_46 rfl ?_
      refine tq_aload_n (M := mX6_tell) (pc := 47) dX6_tell_47 rfl ?_
      refine tq_iload_n (M := mX6_tell) (pc := 48) dX6_tell_48 rfl ?_
      refine tq_iload (M := mX6_tell) (pc := 49) dX6_tell_49 rfl ?_
      obtain ⟨⟨⟩, eu8, hf⟩ := tq_be hf
      obtain ⟨fsu8, eu8⟩ := tq_is_s eu8
      obtain ⟨v7, ev7, hf⟩ := tq_be hf
      refine tq_calV (M := mX6_tell) (pc := 51) (S := [.ref i1, .ref i0]) tk_y_X4_stepAt tk_v_X4_stepAt tk_RX6_134 dX6_tell_51 [.int i3, .int y6] rfl (S0 := _) rfl eu8 rfl (Nat.le_of_ble_eq_true rfl) (d1 := d - 1) (b1 := 0) (s1 := 0) (bc' := bc) (bs' := bs) (Q1 := fun r h9 => r = .inl (some (.int v7)) ∧ hh = h9) (by omega) (by omega) (by omega) (w_X4_stepAt (by omega) ev7 (fun _ _ q => q)) (fun E h9 q => nomatch (show (Sum.inr E : tq_R) = Sum.inl _ from q.1)) (fun r9 h9 q => ?_)
      obtain ⟨q1, rfl⟩ := q
      cases (show (Sum.inl r9 : tq_R) = Sum.inl (some (.int v7)) from q1)
      refine tq_iload (M := mX6_tell) (pc := 54) dX6_tell_54 rfl ?_
      obtain ⟨⟨⟩, eu10, hf⟩ := tq_be hf
      obtain ⟨fsu10, eu10⟩ := tq_is_s eu10
      obtain ⟨v9, ev9, hf⟩ := tq_be hf
      refine tq_calV (M := mX6_tell) (pc := 56) (S := []) tk_y_X6_tellStep tk_v_X6_tellStep tk_RX6_137 dX6_tell_56 [.ref i1, .int v7, .int y5] rfl (S0 := _) rfl eu10 rfl (Nat.le_of_ble_eq_true rfl) (d1 := d - 1) (b1 := 0) (s1 := 0) (bc' := bc) (bs' := bs) (Q1 := fun r h9 => r = .inl (some (.int v9)) ∧ hh = h9) (by omega) (by omega) (by omega) (w_X6_tellStep (by omega) ev9 (fun _ _ q => q)) (fun E h9 q => nomatch (show (Sum.inr E : tq_R) = Sum.inl _ from q.1)) (fun r9 h9 q => ?_)
      obtain ⟨q1, rfl⟩ := q
      cases (show (Sum.inl r9 : tq_R) = Sum.inl (some (.int v9)) from q1)
      refine tq_istore (M := mX6_tell) (pc := 59) dX6_tell_59 (L2 := [(5, .int v9), (0, .ref i0), (1, .ref i1), (2, .int i2), (3, .int i3), (4, .int i4), (6, .int y6)]) (by decide) rfl ?_
      obtain ⟨x11, ex11, hf⟩ := tq_le hf
      refine tq_iinc (M := mX6_tell) (pc := 61) (v := x11) (L2 := [(6, .int x11), (5, .int v9), (0, .ref i0), (1, .ref i1), (2, .int i2), (3, .int i3), (4, .int i4)]) dX6_tell_61 rfl (by rw [ex11, tk_ki_1]) (by decide) rfl ?_
      refine tq_goto (M := mX6_tell) (pc := 64) (tgt := 35) dX6_tell_64 (by decide) ?_
      refine tq_pick (L2 := [(0, .ref i0), (1, .ref i1), (2, .int i2), (3, .int i3), (4, .int i4), (5, .int v9), (6, .int x11)]) [2, 3, 4, 5, 6, 1, 0] rfl ?_
      cases (Option.some.inj hf)
      exact ih _ _ o (tq_lc ho) hk
set_option maxHeartbeats 4000000 in
theorem l_X6_tell_14 {l : Launch} {d : Nat} {Q : tq_R → tq_H → Prop} {bc bs : Nat} (hd9 : 4 ≤ d) (i0 : Nat) (i1 : Nat) (i2 : Int32) (i3 : Int32) : ∀ (n : Nat) (y4 : Int32) (hh : tq_H) (o : tq_H), tq_loop (f_X6_tell_b14 i0 i1 i2 i3) n (y4, hh) = some o → tq_W l mX6_tell d bc bs Q 89 [(0, .ref i0), (1, .ref i1), (2, .int i2), (3, .int i3)] [] o → tq_W l mX6_tell d bc bs Q 14 [(0, .ref i0), (1, .ref i1), (2, .int i2), (3, .int i3), (4, .int y4)] [] hh := by
  intro n
  induction n with
  | zero => intro y4 hh o hl; cases hl
  | succ n ih =>
    intro y4 hh o hl hk
    obtain ⟨oo, hf, ho⟩ := tq_loop_s hl
    refine tq_iload (M := mX6_tell) (pc := 14) dX6_tell_14 rfl ?_
    refine tq_bipush (M := mX6_tell) (pc := 16) dX6_tell_16 tk_kb_8 ?_
    refine tq_icmp_ge (M := mX6_tell) (pc := 18) (tgt := 89) dX6_tell_18 (by decide) (fun cc => ?_) (fun cc => ?_)
    · have hf := tq_ifp hf cc
      refine tq_pick (L2 := [(0, .ref i0), (1, .ref i1), (2, .int i2), (3, .int i3)]) [0, 1, 2, 3] rfl ?_
      cases (Option.some.inj hf)
      cases (tq_lx ho)
      exact hk
    · have hf := tq_ifn hf cc
      refine tq_aload_n (M := mX6_tell) (pc := 21) dX6_tell_21 rfl ?_
      obtain ⟨x3, ex3, hf⟩ := tq_be hf
      refine tq_getI (M := mX6_tell) (pc := 22) tk_c6 (by decide) dX6_tell_22 tk_RX6_45 rfl ex3 ?_
      refine tq_iconst (M := mX6_tell) (pc := 25) dX6_tell_25 tk_ki_1 ?_
      refine tq_iload (M := mX6_tell) (pc := 26) dX6_tell_26 rfl ?_
      refine tq_ishl (M := mX6_tell) (pc := 28) dX6_tell_28 ?_
      refine tq_iand (M := mX6_tell) (pc := 29) dX6_tell_29 ?_
      obtain ⟨x4, ex4, hf⟩ := tq_le hf
      refine tq_istore (M := mX6_tell) (pc := 30) dX6_tell_30 (L2 := [(5, .int x4), (0, .ref i0), (1, .ref i1), (2, .int i2), (3, .int i3), (4, .int y4)]) (by decide) (by rw [ex4]; rfl) ?_
      refine tq_iconst (M := mX6_tell) (pc := 32) dX6_tell_32 tk_ki_0 ?_
      refine tq_istore (M := mX6_tell) (pc := 33) dX6_tell_33 (L2 := [(6, .int (0 : Int32)), (5, .int x4), (0, .ref i0), (1, .ref i1), (2, .int i2), (3, .int i3), (4, .int y4)]) (by decide) rfl ?_
      obtain ⟨o12, eo12, hf⟩ := tq_be hf
      refine tq_pick (L2 := [(0, .ref i0), (1, .ref i1), (2, .int i2), (3, .int i3), (4, .int y4), (5, .int x4), (6, .int (0 : Int32))]) [2, 3, 4, 5, 6, 1, 0] rfl ?_
      refine l_X6_tell_35 (bc := bc) (bs := bs) (by omega) i0 i1 i2 i3 y4 hh _ x4 (0 : Int32) _ eo12 ?_
      refine tq_aload_n (M := mX6_tell) (pc := 67) dX6_tell_67 rfl ?_
      obtain ⟨k13, ek13, hf⟩ := tq_be hf
      refine tq_getR (M := mX6_tell) (pc := 68) tk_c6 (by decide) dX6_tell_68 tk_RX6_38 rfl ek13 ?_
      refine tq_iload_n (M := mX6_tell) (pc := 71) dX6_tell_71 rfl ?_
      refine tq_bipush (M := mX6_tell) (pc := 72) dX6_tell_72 tk_kb_8 ?_
      refine tq_imul (M := mX6_tell) (pc := 74) dX6_tell_74 ?_
      refine tq_iload (M := mX6_tell) (pc := 75) dX6_tell_75 rfl ?_
      refine tq_iadd (M := mX6_tell) (pc := 77) dX6_tell_77 ?_
      refine tq_iload (M := mX6_tell) (pc := 78) dX6_tell_78 rfl ?_
      obtain ⟨⟨⟩, eu15, hf⟩ := tq_be hf
      obtain ⟨fsu15, eu15⟩ := tq_is_s eu15
      obtain ⟨v14, ev14, hf⟩ := tq_be hf
      refine tq_calV (M := mX6_tell) (pc := 80) (S := []) tk_y_X5_set tk_v_X5_set tk_RX6_56 dX6_tell_80 [.int (((i3 * (8 : Int32)) + y4)), .int o12] rfl (S0 := _) rfl eu15 rfl (Nat.le_of_ble_eq_true rfl) (d1 := d - 1) (b1 := 0) (s1 := 0) (bc' := bc) (bs' := bs) (Q1 := fun r h9 => r = .inl none ∧ v14 = h9) (by omega) (by omega) (by omega) (w_X5_set (by omega) ev14 (fun _ _ q => q)) (fun E h9 q => nomatch (show (Sum.inr E : tq_R) = Sum.inl _ from q.1)) (fun r9 h9 q => ?_)
      obtain ⟨q1, rfl⟩ := q
      cases (show (Sum.inl r9 : tq_R) = Sum.inl (none) from q1)
      obtain ⟨x16, ex16, hf⟩ := tq_le hf
      refine tq_iinc (M := mX6_tell) (pc := 83) (v := x16) (L2 := [(4, .int x16), (0, .ref i0), (1, .ref i1), (2, .int i2), (3, .int i3), (5, .int o12)]) dX6_tell_83 rfl (by rw [ex16, tk_ki_1]) (by decide) rfl ?_
      refine tq_goto (M := mX6_tell) (pc := 86) (tgt := 14) dX6_tell_86 (by decide) ?_
      refine tq_pick (L2 := [(0, .ref i0), (1, .ref i1), (2, .int i2), (3, .int i3), (4, .int x16)]) [1, 2, 3, 4, 0] rfl ?_
      cases (Option.some.inj hf)
      exact ih _ _ o (tq_lc ho) hk
set_option maxHeartbeats 4000000 in
theorem l_X6_tell_6 {l : Launch} {d : Nat} {Q : tq_R → tq_H → Prop} {bc bs : Nat} (hd9 : 4 ≤ d) (i0 : Nat) (i1 : Nat) (i2 : Int32) : ∀ (n : Nat) (y3 : Int32) (hh : tq_H) (o : tq_H), tq_loop (f_X6_tell_b6 i0 i1 i2) n (y3, hh) = some o → tq_W l mX6_tell d bc bs Q 95 [(0, .ref i0), (2, .int i2)] [] o → tq_W l mX6_tell d bc bs Q 6 [(0, .ref i0), (1, .ref i1), (2, .int i2), (3, .int y3)] [] hh := by
  intro n
  induction n with
  | zero => intro y3 hh o hl; cases hl
  | succ n ih =>
    intro y3 hh o hl hk
    obtain ⟨oo, hf, ho⟩ := tq_loop_s hl
    refine tq_iload_n (M := mX6_tell) (pc := 6) dX6_tell_6 rfl ?_
    refine tq_iload_n (M := mX6_tell) (pc := 7) dX6_tell_7 rfl ?_
    refine tq_icmp_gt (M := mX6_tell) (pc := 8) (tgt := 95) dX6_tell_8 (by decide) (fun cc => ?_) (fun cc => ?_)
    · have hf := tq_ifp hf cc
      refine tq_pick (L2 := [(0, .ref i0), (2, .int i2)]) [0, 2] rfl ?_
      cases (Option.some.inj hf)
      cases (tq_lx ho)
      exact hk
    · have hf := tq_ifn hf cc
      refine tq_iconst (M := mX6_tell) (pc := 11) dX6_tell_11 tk_ki_0 ?_
      refine tq_istore (M := mX6_tell) (pc := 12) dX6_tell_12 (L2 := [(4, .int (0 : Int32)), (0, .ref i0), (1, .ref i1), (2, .int i2), (3, .int y3)]) (by decide) rfl ?_
      obtain ⟨o17, eo17, hf⟩ := tq_be hf
      refine tq_pick (L2 := [(0, .ref i0), (1, .ref i1), (2, .int i2), (3, .int y3), (4, .int (0 : Int32))]) [1, 2, 3, 4, 0] rfl ?_
      refine l_X6_tell_14 (bc := bc) (bs := bs) (by omega) i0 i1 i2 y3 _ (0 : Int32) hh _ eo17 ?_
      obtain ⟨x18, ex18, hf⟩ := tq_le hf
      refine tq_iinc (M := mX6_tell) (pc := 89) (v := x18) (L2 := [(3, .int x18), (0, .ref i0), (1, .ref i1), (2, .int i2)]) dX6_tell_89 rfl (by rw [ex18, tk_ki_1]) (by decide) rfl ?_
      refine tq_goto (M := mX6_tell) (pc := 92) (tgt := 6) dX6_tell_92 (by decide) ?_
      refine tq_pick (L2 := [(0, .ref i0), (1, .ref i1), (2, .int i2), (3, .int x18)]) [1, 2, 3, 0] rfl ?_
      cases (Option.some.inj hf)
      exact ih _ _ o (tq_lc ho) hk
set_option maxHeartbeats 4000000 in
set_option maxRecDepth 20000 in
theorem w_X6_tell {l : Launch} {d : Nat} (hd9 : 4 ≤ d) {t : Nat} {a1 : Nat} {a2 : Int32} {h : tq_H} {o : Int32 × tq_H} {Q : tq_R → tq_H → Prop} (hf : f_X6_tell t a1 a2 h = some o) (hQ : ∀ r h9, r = .inl (some (.int o.1)) ∧ o.2 = h9 → Q r h9) : tq_C l yX6_tell cX6_tell 7 (some .int) d 0 0 [.ref t, .ref a1, .int a2] h Q := by
  refine tq_body (y := yX6_tell) false (by decide +kernel) (fun z => by cases z) (Nat.le_of_ble_eq_true rfl) ?_
  show tq_W l mX6_tell d 0 0 Q 0 [(0, .ref t), (1, .ref a1), (2, .int a2)] [] h
  refine tq_aload_n (M := mX6_tell) (pc := 0) dX6_tell_0 rfl ?_
  obtain ⟨⟨⟩, eu2, hf⟩ := tq_be hf
  obtain ⟨fsu2, eu2⟩ := tq_is_s eu2
  obtain ⟨v1, ev1, hf⟩ := tq_be hf
  refine tq_calV (M := mX6_tell) (pc := 1) (S := []) tk_y_X6_learn tk_v_X6_learn tk_RX6_126 dX6_tell_1 [] rfl (S0 := _) rfl eu2 rfl (Nat.le_of_ble_eq_true rfl) (d1 := d - 1) (b1 := 0) (s1 := 0) (bc' := 0) (bs' := 0) (Q1 := fun r h9 => r = .inl none ∧ v1 = h9) (by omega) rfl rfl (w_X6_learn (by omega) ev1 (fun _ _ q => q)) (fun E h9 q => nomatch (show (Sum.inr E : tq_R) = Sum.inl _ from q.1)) (fun r9 h9 q => ?_)
  obtain ⟨q1, rfl⟩ := q
  cases (show (Sum.inl r9 : tq_R) = Sum.inl (none) from q1)
  refine tq_iconst (M := mX6_tell) (pc := 4) dX6_tell_4 tk_ki_0 ?_
  refine tq_istore_n (M := mX6_tell) (pc := 5) rfl dX6_tell_5 (L2 := [(3, .int (0 : Int32)), (0, .ref t), (1, .ref a1), (2, .int a2)]) (by decide) rfl ?_
  obtain ⟨o19, eo19, hf⟩ := tq_be hf
  refine tq_pick (L2 := [(0, .ref t), (1, .ref a1), (2, .int a2), (3, .int (0 : Int32))]) [1, 2, 3, 0] rfl ?_
  refine l_X6_tell_6 (bc := 0) (bs := 0) (by omega) t a1 a2 _ (0 : Int32) v1 _ eo19 ?_
  refine tq_aload_n (M := mX6_tell) (pc := 95) dX6_tell_95 rfl ?_
  obtain ⟨k20, ek20, hf⟩ := tq_be hf
  refine tq_getR (M := mX6_tell) (pc := 96) tk_c6 (by decide) dX6_tell_96 tk_RX6_38 rfl ek20 ?_
  refine tq_iload_n (M := mX6_tell) (pc := 99) dX6_tell_99 rfl ?_
  refine tq_bipush (M := mX6_tell) (pc := 100) dX6_tell_100 tk_kb_8 ?_
  refine tq_imul (M := mX6_tell) (pc := 102) dX6_tell_102 ?_
  obtain ⟨⟨⟩, eu22, hf⟩ := tq_be hf
  obtain ⟨fsu22, eu22⟩ := tq_is_s eu22
  obtain ⟨v21, ev21, hf⟩ := tq_be hf
  refine tq_calV (M := mX6_tell) (pc := 103) (S := []) tk_y_X5_get tk_v_X5_get tk_RX6_52 dX6_tell_103 [.int ((a2 * (8 : Int32)))] rfl (S0 := _) rfl eu22 rfl (Nat.le_of_ble_eq_true rfl) (d1 := d - 1) (b1 := 0) (s1 := 0) (bc' := 0) (bs' := 0) (Q1 := fun r h9 => r = .inl (some (.int v21)) ∧ o19 = h9) (by omega) rfl rfl (w_X5_get (by omega) ev21 (fun _ _ q => q)) (fun E h9 q => nomatch (show (Sum.inr E : tq_R) = Sum.inl _ from q.1)) (fun r9 h9 q => ?_)
  obtain ⟨q1, rfl⟩ := q
  cases (show (Sum.inl r9 : tq_R) = Sum.inl (some (.int v21)) from q1)
  refine tq_iret (M := mX6_tell) (pc := 106) dX6_tell_106 rfl ?_
  cases (Option.some.inj hf)
  exact hQ _ _ ⟨rfl, rfl⟩
