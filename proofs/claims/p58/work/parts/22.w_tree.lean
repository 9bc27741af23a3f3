/-! ===== printed by wip/whole/tools: Tree, Updates ===== -/
abbrev cX8_looksLike : ByteArray := prog_10_method_22_code
def yX8_looksLike : MethodName := ⟨RX8, "looksLike", "(ILTreequery$Tree;I)Z"⟩
theorem dX8_looksLike_0 : decode cX8_looksLike 0 = .ok (.aload_n 0, 1) := by decide +kernel
theorem dX8_looksLike_1 : decode cX8_looksLike 1 = .ok (.getfield 23, 3) := by decide +kernel
theorem dX8_looksLike_4 : decode cX8_looksLike 4 = .ok (.iload_n 1, 1) := by decide +kernel
theorem dX8_looksLike_5 : decode cX8_looksLike 5 = .ok (.invokevirtual 58, 3) := by decide +kernel
theorem dX8_looksLike_8 : decode cX8_looksLike 8 = .ok (.aload_n 2, 1) := by decide +kernel
theorem dX8_looksLike_9 : decode cX8_looksLike 9 = .ok (.getfield 23, 3) := by decide +kernel
theorem dX8_looksLike_12 : decode cX8_looksLike 12 = .ok (.iload_n 3, 1) := by decide +kernel
theorem dX8_looksLike_13 : decode cX8_looksLike 13 = .ok (.invokevirtual 58, 3) := by decide +kernel
theorem dX8_looksLike_16 : decode cX8_looksLike 16 = .ok (.if_icmp .ne 64, 3) := by decide +kernel
theorem dX8_looksLike_19 : decode cX8_looksLike 19 = .ok (.aload_n 0, 1) := by decide +kernel
theorem dX8_looksLike_20 : decode cX8_looksLike 20 = .ok (.getfield 27, 3) := by decide +kernel
theorem dX8_looksLike_23 : decode cX8_looksLike 23 = .ok (.iload_n 1, 1) := by decide +kernel
theorem dX8_looksLike_24 : decode cX8_looksLike 24 = .ok (.invokevirtual 58, 3) := by decide +kernel
theorem dX8_looksLike_27 : decode cX8_looksLike 27 = .ok (.aload_n 2, 1) := by decide +kernel
theorem dX8_looksLike_28 : decode cX8_looksLike 28 = .ok (.getfield 27, 3) := by decide +kernel
theorem dX8_looksLike_31 : decode cX8_looksLike 31 = .ok (.iload_n 3, 1) := by decide +kernel
theorem dX8_looksLike_32 : decode cX8_looksLike 32 = .ok (.invokevirtual 58, 3) := by decide +kernel
theorem dX8_looksLike_35 : decode cX8_looksLike 35 = .ok (.if_icmp .ne 45, 3) := by decide +kernel
theorem dX8_looksLike_38 : decode cX8_looksLike 38 = .ok (.aload_n 0, 1) := by decide +kernel
theorem dX8_looksLike_39 : decode cX8_looksLike 39 = .ok (.getfield 30, 3) := by decide +kernel
theorem dX8_looksLike_42 : decode cX8_looksLike 42 = .ok (.iload_n 1, 1) := by decide +kernel
theorem dX8_looksLike_43 : decode cX8_looksLike 43 = .ok (.invokevirtual 58, 3) := by decide +kernel
theorem dX8_looksLike_46 : decode cX8_looksLike 46 = .ok (.aload_n 2, 1) := by decide +kernel
theorem dX8_looksLike_47 : decode cX8_looksLike 47 = .ok (.getfield 30, 3) := by decide +kernel
theorem dX8_looksLike_50 : decode cX8_looksLike 50 = .ok (.iload_n 3, 1) := by decide +kernel
theorem dX8_looksLike_51 : decode cX8_looksLike 51 = .ok (.invokevirtual 58, 3) := by decide +kernel
theorem dX8_looksLike_54 : decode cX8_looksLike 54 = .ok (.if_icmp .ne 26, 3) := by decide +kernel
theorem dX8_looksLike_57 : decode cX8_looksLike 57 = .ok (.aload_n 0, 1) := by decide +kernel
theorem dX8_looksLike_58 : decode cX8_looksLike 58 = .ok (.getfield 33, 3) := by decide +kernel
theorem dX8_looksLike_61 : decode cX8_looksLike 61 = .ok (.iload_n 1, 1) := by decide +kernel
theorem dX8_looksLike_62 : decode cX8_looksLike 62 = .ok (.invokevirtual 58, 3) := by decide +kernel
theorem dX8_looksLike_65 : decode cX8_looksLike 65 = .ok (.aload_n 2, 1) := by decide +kernel
theorem dX8_looksLike_66 : decode cX8_looksLike 66 = .ok (.getfield 33, 3) := by decide +kernel
theorem dX8_looksLike_69 : decode cX8_looksLike 69 = .ok (.iload_n 3, 1) := by decide +kernel
theorem dX8_looksLike_70 : decode cX8_looksLike 70 = .ok (.invokevirtual 58, 3) := by decide +kernel
theorem dX8_looksLike_73 : decode cX8_looksLike 73 = .ok (.if_icmp .ne 7, 3) := by decide +kernel
theorem dX8_looksLike_76 : decode cX8_looksLike 76 = .ok (.iconst 1, 1) := by decide +kernel
theorem dX8_looksLike_77 : decode cX8_looksLike 77 = .ok (.goto 4, 3) := by decide +kernel
theorem dX8_looksLike_80 : decode cX8_looksLike 80 = .ok (.iconst 0, 1) := by decide +kernel
theorem dX8_looksLike_81 : decode cX8_looksLike 81 = .ok (.ireturn, 1) := by decide +kernel
abbrev cX8_valueAt : ByteArray := prog_10_method_12_code
def yX8_valueAt : MethodName := ⟨RX8, "valueAt", "(IJ)I"⟩
theorem dX8_valueAt_0 : decode cX8_valueAt 0 = .ok (.aload_n 0, 1) := by decide +kernel
theorem dX8_valueAt_1 : decode cX8_valueAt 1 = .ok (.getfield 12, 3) := by decide +kernel
theorem dX8_valueAt_4 : decode cX8_valueAt 4 = .ok (.invokevirtual 110, 3) := by decide +kernel
theorem dX8_valueAt_7 : decode cX8_valueAt 7 = .ok (.iload_n 1, 1) := by decide +kernel
theorem dX8_valueAt_8 : decode cX8_valueAt 8 = .ok (.invokestatic 114, 3) := by decide +kernel
theorem dX8_valueAt_11 : decode cX8_valueAt 11 = .ok (.ifCond .ne 19, 3) := by decide +kernel
theorem dX8_valueAt_14 : decode cX8_valueAt 14 = .ok (.aload_n 0, 1) := by decide +kernel
theorem dX8_valueAt_15 : decode cX8_valueAt 15 = .ok (.getfield 30, 3) := by decide +kernel
theorem dX8_valueAt_18 : decode cX8_valueAt 18 = .ok (.aload_n 0, 1) := by decide +kernel
theorem dX8_valueAt_19 : decode cX8_valueAt 19 = .ok (.getfield 12, 3) := by decide +kernel
theorem dX8_valueAt_22 : decode cX8_valueAt 22 = .ok (.iload_n 1, 1) := by decide +kernel
theorem dX8_valueAt_23 : decode cX8_valueAt 23 = .ok (.invokevirtual 120, 3) := by decide +kernel
theorem dX8_valueAt_26 : decode cX8_valueAt 26 = .ok (.invokevirtual 58, 3) := by decide +kernel
theorem dX8_valueAt_29 : decode cX8_valueAt 29 = .ok (.ireturn, 1) := by decide +kernel
theorem dX8_valueAt_30 : decode cX8_valueAt 30 = .ok (.aload_n 0, 1) := by decide +kernel
theorem dX8_valueAt_31 : decode cX8_valueAt 31 = .ok (.getfield 12, 3) := by decide +kernel
theorem dX8_valueAt_34 : decode cX8_valueAt 34 = .ok (.iload_n 1, 1) := by decide +kernel
theorem dX8_valueAt_35 : decode cX8_valueAt 35 = .ok (.invokevirtual 123, 3) := by decide +kernel
theorem dX8_valueAt_38 : decode cX8_valueAt 38 = .ok (.aload_n 0, 1) := by decide +kernel
theorem dX8_valueAt_39 : decode cX8_valueAt 39 = .ok (.getfield 12, 3) := by decide +kernel
theorem dX8_valueAt_42 : decode cX8_valueAt 42 = .ok (.bipush 9, 2) := by decide +kernel
theorem dX8_valueAt_44 : decode cX8_valueAt 44 = .ok (.invokevirtual 101, 3) := by decide +kernel
theorem dX8_valueAt_47 : decode cX8_valueAt 47 = .ok (.land, 1) := by decide +kernel
theorem dX8_valueAt_48 : decode cX8_valueAt 48 = .ok (.lload_n 2, 1) := by decide +kernel
theorem dX8_valueAt_49 : decode cX8_valueAt 49 = .ok (.land, 1) := by decide +kernel
theorem dX8_valueAt_50 : decode cX8_valueAt 50 = .ok (.lstore 4, 2) := by decide +kernel
theorem dX8_valueAt_52 : decode cX8_valueAt 52 = .ok (.aload_n 0, 1) := by decide +kernel
theorem dX8_valueAt_53 : decode cX8_valueAt 53 = .ok (.getfield 30, 3) := by decide +kernel
theorem dX8_valueAt_56 : decode cX8_valueAt 56 = .ok (.aload_n 0, 1) := by decide +kernel
theorem dX8_valueAt_57 : decode cX8_valueAt 57 = .ok (.getfield 12, 3) := by decide +kernel
theorem dX8_valueAt_60 : decode cX8_valueAt 60 = .ok (.lload 4, 2) := by decide +kernel
theorem dX8_valueAt_62 : decode cX8_valueAt 62 = .ok (.iconst 0, 1) := by decide +kernel
theorem dX8_valueAt_63 : decode cX8_valueAt 63 = .ok (.invokevirtual 126, 3) := by decide +kernel
theorem dX8_valueAt_66 : decode cX8_valueAt 66 = .ok (.invokevirtual 58, 3) := by decide +kernel
theorem dX8_valueAt_69 : decode cX8_valueAt 69 = .ok (.ireturn, 1) := by decide +kernel
abbrev cX8_init : ByteArray := prog_10_method_1_code
def yX8_init : MethodName := ⟨RX8, "<init>", "()V"⟩
theorem dX8_init_0 : decode cX8_init 0 = .ok (.aload_n 0, 1) := by decide +kernel
theorem dX8_init_1 : decode cX8_init 1 = .ok (.invokespecial 3, 3) := by decide +kernel
theorem dX8_init_4 : decode cX8_init 4 = .ok (.aload_n 0, 1) := by decide +kernel
theorem dX8_init_5 : decode cX8_init 5 = .ok (.new 9, 3) := by decide +kernel
theorem dX8_init_8 : decode cX8_init 8 = .ok (.dup, 1) := by decide +kernel
theorem dX8_init_9 : decode cX8_init 9 = .ok (.invokespecial 11, 3) := by decide +kernel
theorem dX8_init_12 : decode cX8_init 12 = .ok (.putfield 12, 3) := by decide +kernel
theorem dX8_init_15 : decode cX8_init 15 = .ok (.aload_n 0, 1) := by decide +kernel
theorem dX8_init_16 : decode cX8_init 16 = .ok (.new 18, 3) := by decide +kernel
theorem dX8_init_19 : decode cX8_init 19 = .ok (.dup, 1) := by decide +kernel
theorem dX8_init_20 : decode cX8_init 20 = .ok (.bipush 60, 2) := by decide +kernel
theorem dX8_init_22 : decode cX8_init 22 = .ok (.iconst (-1), 1) := by decide +kernel
theorem dX8_init_23 : decode cX8_init 23 = .ok (.invokespecial 20, 3) := by decide +kernel
theorem dX8_init_26 : decode cX8_init 26 = .ok (.putfield 23, 3) := by decide +kernel
theorem dX8_init_29 : decode cX8_init 29 = .ok (.aload_n 0, 1) := by decide +kernel
theorem dX8_init_30 : decode cX8_init 30 = .ok (.new 18, 3) := by decide +kernel
theorem dX8_init_33 : decode cX8_init 33 = .ok (.dup, 1) := by decide +kernel
theorem dX8_init_34 : decode cX8_init 34 = .ok (.bipush 60, 2) := by decide +kernel
theorem dX8_init_36 : decode cX8_init 36 = .ok (.iconst (-1), 1) := by decide +kernel
theorem dX8_init_37 : decode cX8_init 37 = .ok (.invokespecial 20, 3) := by decide +kernel
theorem dX8_init_40 : decode cX8_init 40 = .ok (.putfield 27, 3) := by decide +kernel
theorem dX8_init_43 : decode cX8_init 43 = .ok (.aload_n 0, 1) := by decide +kernel
theorem dX8_init_44 : decode cX8_init 44 = .ok (.new 18, 3) := by decide +kernel
theorem dX8_init_47 : decode cX8_init 47 = .ok (.dup, 1) := by decide +kernel
theorem dX8_init_48 : decode cX8_init 48 = .ok (.bipush 60, 2) := by decide +kernel
theorem dX8_init_50 : decode cX8_init 50 = .ok (.iconst (-1), 1) := by decide +kernel
theorem dX8_init_51 : decode cX8_init 51 = .ok (.invokespecial 20, 3) := by decide +kernel
theorem dX8_init_54 : decode cX8_init 54 = .ok (.putfield 30, 3) := by decide +kernel
theorem dX8_init_57 : decode cX8_init 57 = .ok (.aload_n 0, 1) := by decide +kernel
theorem dX8_init_58 : decode cX8_init 58 = .ok (.new 18, 3) := by decide +kernel
theorem dX8_init_61 : decode cX8_init 61 = .ok (.dup, 1) := by decide +kernel
theorem dX8_init_62 : decode cX8_init 62 = .ok (.bipush 60, 2) := by decide +kernel
theorem dX8_init_64 : decode cX8_init 64 = .ok (.iconst (-1), 1) := by decide +kernel
theorem dX8_init_65 : decode cX8_init 65 = .ok (.invokespecial 20, 3) := by decide +kernel
theorem dX8_init_68 : decode cX8_init 68 = .ok (.putfield 33, 3) := by decide +kernel
theorem dX8_init_71 : decode cX8_init 71 = .ok (.aload_n 0, 1) := by decide +kernel
theorem dX8_init_72 : decode cX8_init 72 = .ok (.new 18, 3) := by decide +kernel
theorem dX8_init_75 : decode cX8_init 75 = .ok (.dup, 1) := by decide +kernel
theorem dX8_init_76 : decode cX8_init 76 = .ok (.bipush 60, 2) := by decide +kernel
theorem dX8_init_78 : decode cX8_init 78 = .ok (.iconst (-1), 1) := by decide +kernel
theorem dX8_init_79 : decode cX8_init 79 = .ok (.invokespecial 20, 3) := by decide +kernel
theorem dX8_init_82 : decode cX8_init 82 = .ok (.putfield 36, 3) := by decide +kernel
theorem dX8_init_85 : decode cX8_init 85 = .ok (.aload_n 0, 1) := by decide +kernel
theorem dX8_init_86 : decode cX8_init 86 = .ok (.new 18, 3) := by decide +kernel
theorem dX8_init_89 : decode cX8_init 89 = .ok (.dup, 1) := by decide +kernel
theorem dX8_init_90 : decode cX8_init 90 = .ok (.bipush 60, 2) := by decide +kernel
theorem dX8_init_92 : decode cX8_init 92 = .ok (.iconst (-1), 1) := by decide +kernel
theorem dX8_init_93 : decode cX8_init 93 = .ok (.invokespecial 20, 3) := by decide +kernel
theorem dX8_init_96 : decode cX8_init 96 = .ok (.putfield 39, 3) := by decide +kernel
theorem dX8_init_99 : decode cX8_init 99 = .ok (.aload_n 0, 1) := by decide +kernel
theorem dX8_init_100 : decode cX8_init 100 = .ok (.new 18, 3) := by decide +kernel
theorem dX8_init_103 : decode cX8_init 103 = .ok (.dup, 1) := by decide +kernel
theorem dX8_init_104 : decode cX8_init 104 = .ok (.bipush 60, 2) := by decide +kernel
theorem dX8_init_106 : decode cX8_init 106 = .ok (.iconst (-1), 1) := by decide +kernel
theorem dX8_init_107 : decode cX8_init 107 = .ok (.invokespecial 20, 3) := by decide +kernel
theorem dX8_init_110 : decode cX8_init 110 = .ok (.putfield 42, 3) := by decide +kernel
theorem dX8_init_113 : decode cX8_init 113 = .ok (.aload_n 0, 1) := by decide +kernel
theorem dX8_init_114 : decode cX8_init 114 = .ok (.new 18, 3) := by decide +kernel
theorem dX8_init_117 : decode cX8_init 117 = .ok (.dup, 1) := by decide +kernel
theorem dX8_init_118 : decode cX8_init 118 = .ok (.bipush 60, 2) := by decide +kernel
theorem dX8_init_120 : decode cX8_init 120 = .ok (.iconst (-1), 1) := by decide +kernel
theorem dX8_init_121 : decode cX8_init 121 = .ok (.invokespecial 20, 3) := by decide +kernel
theorem dX8_init_124 : decode cX8_init 124 = .ok (.putfield 45, 3) := by decide +kernel
theorem dX8_init_127 : decode cX8_init 127 = .ok (.aload_n 0, 1) := by decide +kernel
theorem dX8_init_128 : decode cX8_init 128 = .ok (.new 18, 3) := by decide +kernel
theorem dX8_init_131 : decode cX8_init 131 = .ok (.dup, 1) := by decide +kernel
theorem dX8_init_132 : decode cX8_init 132 = .ok (.bipush 60, 2) := by decide +kernel
theorem dX8_init_134 : decode cX8_init 134 = .ok (.iconst (-1), 1) := by decide +kernel
theorem dX8_init_135 : decode cX8_init 135 = .ok (.invokespecial 20, 3) := by decide +kernel
theorem dX8_init_138 : decode cX8_init 138 = .ok (.putfield 48, 3) := by decide +kernel
theorem dX8_init_141 : decode cX8_init 141 = .ok (.aload_n 0, 1) := by decide +kernel
theorem dX8_init_142 : decode cX8_init 142 = .ok (.iconst 0, 1) := by decide +kernel
theorem dX8_init_143 : decode cX8_init 143 = .ok (.putfield 51, 3) := by decide +kernel
theorem dX8_init_146 : decode cX8_init 146 = .ok (.return_, 1) := by decide +kernel
abbrev cX8_madeCount : ByteArray := prog_10_method_2_code
def yX8_madeCount : MethodName := ⟨RX8, "madeCount", "()I"⟩
theorem dX8_madeCount_0 : decode cX8_madeCount 0 = .ok (.aload_n 0, 1) := by decide +kernel
theorem dX8_madeCount_1 : decode cX8_madeCount 1 = .ok (.getfield 51, 3) := by decide +kernel
theorem dX8_madeCount_4 : decode cX8_madeCount 4 = .ok (.ireturn, 1) := by decide +kernel
abbrev cX8_keepMade : ByteArray := prog_10_method_3_code
def yX8_keepMade : MethodName := ⟨RX8, "keepMade", "(I)V"⟩
theorem dX8_keepMade_0 : decode cX8_keepMade 0 = .ok (.aload_n 0, 1) := by decide +kernel
theorem dX8_keepMade_1 : decode cX8_keepMade 1 = .ok (.iload_n 1, 1) := by decide +kernel
theorem dX8_keepMade_2 : decode cX8_keepMade 2 = .ok (.putfield 51, 3) := by decide +kernel
theorem dX8_keepMade_5 : decode cX8_keepMade 5 = .ok (.return_, 1) := by decide +kernel
abbrev cX8_make : ByteArray := prog_10_method_4_code
def yX8_make : MethodName := ⟨RX8, "make", "(III)I"⟩
theorem dX8_make_0 : decode cX8_make 0 = .ok (.aload_n 0, 1) := by decide +kernel
theorem dX8_make_1 : decode cX8_make 1 = .ok (.getfield 51, 3) := by decide +kernel
theorem dX8_make_4 : decode cX8_make 4 = .ok (.istore 4, 2) := by decide +kernel
theorem dX8_make_6 : decode cX8_make 6 = .ok (.aload_n 0, 1) := by decide +kernel
theorem dX8_make_7 : decode cX8_make 7 = .ok (.dup, 1) := by decide +kernel
theorem dX8_make_8 : decode cX8_make 8 = .ok (.getfield 51, 3) := by decide +kernel
theorem dX8_make_11 : decode cX8_make 11 = .ok (.iconst 1, 1) := by decide +kernel
theorem dX8_make_12 : decode cX8_make 12 = .ok (.iadd, 1) := by decide +kernel
theorem dX8_make_13 : decode cX8_make 13 = .ok (.putfield 51, 3) := by decide +kernel
theorem dX8_make_16 : decode cX8_make 16 = .ok (.aload_n 0, 1) := by decide +kernel
theorem dX8_make_17 : decode cX8_make 17 = .ok (.getfield 23, 3) := by decide +kernel
theorem dX8_make_20 : decode cX8_make 20 = .ok (.iload 4, 2) := by decide +kernel
theorem dX8_make_22 : decode cX8_make 22 = .ok (.iload_n 1, 1) := by decide +kernel
theorem dX8_make_23 : decode cX8_make 23 = .ok (.invokevirtual 55, 3) := by decide +kernel
theorem dX8_make_26 : decode cX8_make 26 = .ok (.aload_n 0, 1) := by decide +kernel
theorem dX8_make_27 : decode cX8_make 27 = .ok (.getfield 27, 3) := by decide +kernel
theorem dX8_make_30 : decode cX8_make 30 = .ok (.iload 4, 2) := by decide +kernel
theorem dX8_make_32 : decode cX8_make 32 = .ok (.iload_n 2, 1) := by decide +kernel
theorem dX8_make_33 : decode cX8_make 33 = .ok (.invokevirtual 55, 3) := by decide +kernel
theorem dX8_make_36 : decode cX8_make 36 = .ok (.aload_n 0, 1) := by decide +kernel
theorem dX8_make_37 : decode cX8_make 37 = .ok (.getfield 30, 3) := by decide +kernel
theorem dX8_make_40 : decode cX8_make 40 = .ok (.iload 4, 2) := by decide +kernel
theorem dX8_make_42 : decode cX8_make 42 = .ok (.iload_n 3, 1) := by decide +kernel
theorem dX8_make_43 : decode cX8_make 43 = .ok (.invokevirtual 55, 3) := by decide +kernel
theorem dX8_make_46 : decode cX8_make 46 = .ok (.aload_n 0, 1) := by decide +kernel
theorem dX8_make_47 : decode cX8_make 47 = .ok (.getfield 33, 3) := by decide +kernel
theorem dX8_make_50 : decode cX8_make 50 = .ok (.iload 4, 2) := by decide +kernel
theorem dX8_make_52 : decode cX8_make 52 = .ok (.iconst (-1), 1) := by decide +kernel
theorem dX8_make_53 : decode cX8_make 53 = .ok (.invokevirtual 55, 3) := by decide +kernel
theorem dX8_make_56 : decode cX8_make 56 = .ok (.aload_n 0, 1) := by decide +kernel
theorem dX8_make_57 : decode cX8_make 57 = .ok (.getfield 39, 3) := by decide +kernel
theorem dX8_make_60 : decode cX8_make 60 = .ok (.iload 4, 2) := by decide +kernel
theorem dX8_make_62 : decode cX8_make 62 = .ok (.iconst (-1), 1) := by decide +kernel
theorem dX8_make_63 : decode cX8_make 63 = .ok (.invokevirtual 55, 3) := by decide +kernel
theorem dX8_make_66 : decode cX8_make 66 = .ok (.iload 4, 2) := by decide +kernel
theorem dX8_make_68 : decode cX8_make 68 = .ok (.ireturn, 1) := by decide +kernel
abbrev cX8_append : ByteArray := prog_10_method_5_code
def yX8_append : MethodName := ⟨RX8, "append", "(II)V"⟩
theorem dX8_append_0 : decode cX8_append 0 = .ok (.aload_n 0, 1) := by decide +kernel
theorem dX8_append_1 : decode cX8_append 1 = .ok (.getfield 36, 3) := by decide +kernel
theorem dX8_append_4 : decode cX8_append 4 = .ok (.iload_n 2, 1) := by decide +kernel
theorem dX8_append_5 : decode cX8_append 5 = .ok (.iload_n 1, 1) := by decide +kernel
theorem dX8_append_6 : decode cX8_append 6 = .ok (.invokevirtual 55, 3) := by decide +kernel
theorem dX8_append_9 : decode cX8_append 9 = .ok (.aload_n 0, 1) := by decide +kernel
theorem dX8_append_10 : decode cX8_append 10 = .ok (.getfield 48, 3) := by decide +kernel
theorem dX8_append_13 : decode cX8_append 13 = .ok (.iload_n 1, 1) := by decide +kernel
theorem dX8_append_14 : decode cX8_append 14 = .ok (.invokevirtual 58, 3) := by decide +kernel
theorem dX8_append_17 : decode cX8_append 17 = .ok (.istore_n 3, 1) := by decide +kernel
theorem dX8_append_18 : decode cX8_append 18 = .ok (.iload_n 3, 1) := by decide +kernel
theorem dX8_append_19 : decode cX8_append 19 = .ok (.iconst (-1), 1) := by decide +kernel
theorem dX8_append_20 : decode cX8_append 20 = .ok (.if_icmp .ne 15, 3) := by decide +kernel
theorem dX8_append_23 : decode cX8_append 23 = .ok (.aload_n 0, 1) := by decide +kernel
theorem dX8_append_24 : decode cX8_append 24 = .ok (.getfield 42, 3) := by decide +kernel
theorem dX8_append_27 : decode cX8_append 27 = .ok (.iload_n 1, 1) := by decide +kernel
theorem dX8_append_28 : decode cX8_append 28 = .ok (.iload_n 2, 1) := by decide +kernel
theorem dX8_append_29 : decode cX8_append 29 = .ok (.invokevirtual 55, 3) := by decide +kernel
theorem dX8_append_32 : decode cX8_append 32 = .ok (.goto 12, 3) := by decide +kernel
theorem dX8_append_35 : decode cX8_append 35 = .ok (.aload_n 0, 1) := by decide +kernel
theorem dX8_append_36 : decode cX8_append 36 = .ok (.getfield 45, 3) := by decide +kernel
theorem dX8_append_39 : decode cX8_append 39 = .ok (.iload_n 3, 1) := by decide +kernel
theorem dX8_append_40 : decode cX8_append 40 = .ok (.iload_n 2, 1) := by decide +kernel
theorem dX8_append_41 : decode cX8_append 41 = .ok (.invokevirtual 55, 3) := by decide +kernel
theorem dX8_append_44 : decode cX8_append 44 = .ok (.aload_n 0, 1) := by decide +kernel
theorem dX8_append_45 : decode cX8_append 45 = .ok (.getfield 48, 3) := by decide +kernel
theorem dX8_append_48 : decode cX8_append 48 = .ok (.iload_n 1, 1) := by decide +kernel
theorem dX8_append_49 : decode cX8_append 49 = .ok (.iload_n 2, 1) := by decide +kernel
theorem dX8_append_50 : decode cX8_append 50 = .ok (.invokevirtual 55, 3) := by decide +kernel
theorem dX8_append_53 : decode cX8_append 53 = .ok (.return_, 1) := by decide +kernel
abbrev cX8_copyLoose : ByteArray := prog_10_method_6_code
def yX8_copyLoose : MethodName := ⟨RX8, "copyLoose", "(LTreequery$Tree;)V"⟩
theorem dX8_copyLoose_0 : decode cX8_copyLoose 0 = .ok (.aload_n 0, 1) := by decide +kernel
theorem dX8_copyLoose_1 : decode cX8_copyLoose 1 = .ok (.aload_n 1, 1) := by decide +kernel
theorem dX8_copyLoose_2 : decode cX8_copyLoose 2 = .ok (.getfield 51, 3) := by decide +kernel
theorem dX8_copyLoose_5 : decode cX8_copyLoose 5 = .ok (.putfield 51, 3) := by decide +kernel
theorem dX8_copyLoose_8 : decode cX8_copyLoose 8 = .ok (.aload_n 0, 1) := by decide +kernel
theorem dX8_copyLoose_9 : decode cX8_copyLoose 9 = .ok (.getfield 23, 3) := by decide +kernel
theorem dX8_copyLoose_12 : decode cX8_copyLoose 12 = .ok (.aload_n 1, 1) := by decide +kernel
theorem dX8_copyLoose_13 : decode cX8_copyLoose 13 = .ok (.getfield 23, 3) := by decide +kernel
theorem dX8_copyLoose_16 : decode cX8_copyLoose 16 = .ok (.invokevirtual 62, 3) := by decide +kernel
theorem dX8_copyLoose_19 : decode cX8_copyLoose 19 = .ok (.aload_n 0, 1) := by decide +kernel
theorem dX8_copyLoose_20 : decode cX8_copyLoose 20 = .ok (.getfield 27, 3) := by decide +kernel
theorem dX8_copyLoose_23 : decode cX8_copyLoose 23 = .ok (.aload_n 1, 1) := by decide +kernel
theorem dX8_copyLoose_24 : decode cX8_copyLoose 24 = .ok (.getfield 27, 3) := by decide +kernel
theorem dX8_copyLoose_27 : decode cX8_copyLoose 27 = .ok (.invokevirtual 62, 3) := by decide +kernel
theorem dX8_copyLoose_30 : decode cX8_copyLoose 30 = .ok (.aload_n 0, 1) := by decide +kernel
theorem dX8_copyLoose_31 : decode cX8_copyLoose 31 = .ok (.getfield 30, 3) := by decide +kernel
theorem dX8_copyLoose_34 : decode cX8_copyLoose 34 = .ok (.aload_n 1, 1) := by decide +kernel
theorem dX8_copyLoose_35 : decode cX8_copyLoose 35 = .ok (.getfield 30, 3) := by decide +kernel
theorem dX8_copyLoose_38 : decode cX8_copyLoose 38 = .ok (.invokevirtual 62, 3) := by decide +kernel
theorem dX8_copyLoose_41 : decode cX8_copyLoose 41 = .ok (.aload_n 0, 1) := by decide +kernel
theorem dX8_copyLoose_42 : decode cX8_copyLoose 42 = .ok (.getfield 33, 3) := by decide +kernel
theorem dX8_copyLoose_45 : decode cX8_copyLoose 45 = .ok (.aload_n 1, 1) := by decide +kernel
theorem dX8_copyLoose_46 : decode cX8_copyLoose 46 = .ok (.getfield 33, 3) := by decide +kernel
theorem dX8_copyLoose_49 : decode cX8_copyLoose 49 = .ok (.invokevirtual 62, 3) := by decide +kernel
theorem dX8_copyLoose_52 : decode cX8_copyLoose 52 = .ok (.aload_n 0, 1) := by decide +kernel
theorem dX8_copyLoose_53 : decode cX8_copyLoose 53 = .ok (.getfield 39, 3) := by decide +kernel
theorem dX8_copyLoose_56 : decode cX8_copyLoose 56 = .ok (.aload_n 1, 1) := by decide +kernel
theorem dX8_copyLoose_57 : decode cX8_copyLoose 57 = .ok (.getfield 39, 3) := by decide +kernel
theorem dX8_copyLoose_60 : decode cX8_copyLoose 60 = .ok (.invokevirtual 62, 3) := by decide +kernel
theorem dX8_copyLoose_63 : decode cX8_copyLoose 63 = .ok (.aload_n 0, 1) := by decide +kernel
theorem dX8_copyLoose_64 : decode cX8_copyLoose 64 = .ok (.getfield 36, 3) := by decide +kernel
theorem dX8_copyLoose_67 : decode cX8_copyLoose 67 = .ok (.iconst (-1), 1) := by decide +kernel
theorem dX8_copyLoose_68 : decode cX8_copyLoose 68 = .ok (.invokevirtual 66, 3) := by decide +kernel
theorem dX8_copyLoose_71 : decode cX8_copyLoose 71 = .ok (.aload_n 0, 1) := by decide +kernel
theorem dX8_copyLoose_72 : decode cX8_copyLoose 72 = .ok (.getfield 42, 3) := by decide +kernel
theorem dX8_copyLoose_75 : decode cX8_copyLoose 75 = .ok (.iconst (-1), 1) := by decide +kernel
theorem dX8_copyLoose_76 : decode cX8_copyLoose 76 = .ok (.invokevirtual 66, 3) := by decide +kernel
theorem dX8_copyLoose_79 : decode cX8_copyLoose 79 = .ok (.aload_n 0, 1) := by decide +kernel
theorem dX8_copyLoose_80 : decode cX8_copyLoose 80 = .ok (.getfield 45, 3) := by decide +kernel
theorem dX8_copyLoose_83 : decode cX8_copyLoose 83 = .ok (.iconst (-1), 1) := by decide +kernel
theorem dX8_copyLoose_84 : decode cX8_copyLoose 84 = .ok (.invokevirtual 66, 3) := by decide +kernel
theorem dX8_copyLoose_87 : decode cX8_copyLoose 87 = .ok (.aload_n 0, 1) := by decide +kernel
theorem dX8_copyLoose_88 : decode cX8_copyLoose 88 = .ok (.getfield 48, 3) := by decide +kernel
theorem dX8_copyLoose_91 : decode cX8_copyLoose 91 = .ok (.iconst (-1), 1) := by decide +kernel
theorem dX8_copyLoose_92 : decode cX8_copyLoose 92 = .ok (.invokevirtual 66, 3) := by decide +kernel
theorem dX8_copyLoose_95 : decode cX8_copyLoose 95 = .ok (.return_, 1) := by decide +kernel
abbrev cX8_following : ByteArray := prog_10_method_9_code
def yX8_following : MethodName := ⟨RX8, "following", "(I)I"⟩
theorem dX8_following_0 : decode cX8_following 0 = .ok (.aload_n 0, 1) := by decide +kernel
theorem dX8_following_1 : decode cX8_following 1 = .ok (.getfield 42, 3) := by decide +kernel
theorem dX8_following_4 : decode cX8_following 4 = .ok (.iload_n 1, 1) := by decide +kernel
theorem dX8_following_5 : decode cX8_following 5 = .ok (.invokevirtual 58, 3) := by decide +kernel
theorem dX8_following_8 : decode cX8_following 8 = .ok (.iconst (-1), 1) := by decide +kernel
theorem dX8_following_9 : decode cX8_following 9 = .ok (.if_icmp .eq 12, 3) := by decide +kernel
theorem dX8_following_12 : decode cX8_following 12 = .ok (.aload_n 0, 1) := by decide +kernel
theorem dX8_following_13 : decode cX8_following 13 = .ok (.getfield 42, 3) := by decide +kernel
theorem dX8_following_16 : decode cX8_following 16 = .ok (.iload_n 1, 1) := by decide +kernel
theorem dX8_following_17 : decode cX8_following 17 = .ok (.invokevirtual 58, 3) := by decide +kernel
theorem dX8_following_20 : decode cX8_following 20 = .ok (.ireturn, 1) := by decide +kernel
theorem dX8_following_21 : decode cX8_following 21 = .ok (.iload_n 1, 1) := by decide +kernel
theorem dX8_following_22 : decode cX8_following 22 = .ok (.istore_n 2, 1) := by decide +kernel
theorem dX8_following_23 : decode cX8_following 23 = .ok (.iconst 0, 1) := by decide +kernel
theorem dX8_following_24 : decode cX8_following 24 = .ok (.istore_n 3, 1) := by decide +kernel
theorem dX8_following_25 : decode cX8_following 25 = .ok (.iload_n 3, 1) := by decide +kernel
theorem dX8_following_26 : decode cX8_following 26 = .ok (.bipush 60, 2) := by decide +kernel
theorem dX8_following_28 : decode cX8_following 28 = .ok (.if_icmp .ge 44, 3) := by decide +kernel
theorem dX8_following_31 : decode cX8_following 31 = .ok (.iload_n 2, 1) := by decide +kernel
theorem dX8_following_32 : decode cX8_following 32 = .ok (.iconst (-1), 1) := by decide +kernel
theorem dX8_following_33 : decode cX8_following 33 = .ok (.if_icmp .eq 39, 3) := by decide +kernel
theorem dX8_following_36 : decode cX8_following 36 = .ok (.aload_n 0, 1) := by decide +kernel
theorem dX8_following_37 : decode cX8_following 37 = .ok (.getfield 45, 3) := by decide +kernel
theorem dX8_following_40 : decode cX8_following 40 = .ok (.iload_n 2, 1) := by decide +kernel
theorem dX8_following_41 : decode cX8_following 41 = .ok (.invokevirtual 58, 3) := by decide +kernel
theorem dX8_following_44 : decode cX8_following 44 = .ok (.iconst (-1), 1) := by decide +kernel
theorem dX8_following_45 : decode cX8_following 45 = .ok (.if_icmp .eq 12, 3) := by decide +kernel
theorem dX8_following_48 : decode cX8_following 48 = .ok (.aload_n 0, 1) := by decide +kernel
theorem dX8_following_49 : decode cX8_following 49 = .ok (.getfield 45, 3) := by decide +kernel
theorem dX8_following_52 : decode cX8_following 52 = .ok (.iload_n 2, 1) := by decide +kernel
theorem dX8_following_53 : decode cX8_following 53 = .ok (.invokevirtual 58, 3) := by decide +kernel
theorem dX8_following_56 : decode cX8_following 56 = .ok (.ireturn, 1) := by decide +kernel
theorem dX8_following_57 : decode cX8_following 57 = .ok (.aload_n 0, 1) := by decide +kernel
theorem dX8_following_58 : decode cX8_following 58 = .ok (.getfield 36, 3) := by decide +kernel
theorem dX8_following_61 : decode cX8_following 61 = .ok (.iload_n 2, 1) := by decide +kernel
theorem dX8_following_62 : decode cX8_following 62 = .ok (.invokevirtual 58, 3) := by decide +kernel
theorem dX8_following_65 : decode cX8_following 65 = .ok (.istore_n 2, 1) := by decide +kernel
theorem dX8_following_66 : decode cX8_following 66 = .ok (.iinc 3 1, 3) := by decide +kernel
theorem dX8_following_69 : decode cX8_following 69 = .ok (.goto (-44), 3) := by decide +kernel
theorem dX8_following_72 : decode cX8_following 72 = .ok (.iconst (-1), 1) := by decide +kernel
theorem dX8_following_73 : decode cX8_following 73 = .ok (.ireturn, 1) := by decide +kernel
abbrev cX8_layOut : ByteArray := prog_10_method_8_code
def yX8_layOut : MethodName := ⟨RX8, "layOut", "()V"⟩
theorem dX8_layOut_0 : decode cX8_layOut 0 = .ok (.aload_n 0, 1) := by decide +kernel
theorem dX8_layOut_1 : decode cX8_layOut 1 = .ok (.getfield 12, 3) := by decide +kernel
theorem dX8_layOut_4 : decode cX8_layOut 4 = .ok (.invokevirtual 77, 3) := by decide +kernel
theorem dX8_layOut_7 : decode cX8_layOut 7 = .ok (.iconst 0, 1) := by decide +kernel
theorem dX8_layOut_8 : decode cX8_layOut 8 = .ok (.istore_n 1, 1) := by decide +kernel
theorem dX8_layOut_9 : decode cX8_layOut 9 = .ok (.iconst 0, 1) := by decide +kernel
theorem dX8_layOut_10 : decode cX8_layOut 10 = .ok (.istore_n 2, 1) := by decide +kernel
theorem dX8_layOut_11 : decode cX8_layOut 11 = .ok (.iload_n 2, 1) := by decide +kernel
theorem dX8_layOut_12 : decode cX8_layOut 12 = .ok (.bipush 60, 2) := by decide +kernel
theorem dX8_layOut_14 : decode cX8_layOut 14 = .ok (.if_icmp .ge 69, 3) := by decide +kernel
theorem dX8_layOut_17 : decode cX8_layOut 17 = .ok (.iload_n 1, 1) := by decide +kernel
theorem dX8_layOut_18 : decode cX8_layOut 18 = .ok (.iconst (-1), 1) := by decide +kernel
theorem dX8_layOut_19 : decode cX8_layOut 19 = .ok (.if_icmp .eq 64, 3) := by decide +kernel
theorem dX8_layOut_22 : decode cX8_layOut 22 = .ok (.aload_n 0, 1) := by decide +kernel
theorem dX8_layOut_23 : decode cX8_layOut 23 = .ok (.getfield 12, 3) := by decide +kernel
theorem dX8_layOut_26 : decode cX8_layOut 26 = .ok (.aload_n 0, 1) := by decide +kernel
theorem dX8_layOut_27 : decode cX8_layOut 27 = .ok (.getfield 36, 3) := by decide +kernel
theorem dX8_layOut_30 : decode cX8_layOut 30 = .ok (.iload_n 1, 1) := by decide +kernel
theorem dX8_layOut_31 : decode cX8_layOut 31 = .ok (.invokevirtual 58, 3) := by decide +kernel
theorem dX8_layOut_34 : decode cX8_layOut 34 = .ok (.invokevirtual 80, 3) := by decide +kernel
theorem dX8_layOut_37 : decode cX8_layOut 37 = .ok (.istore_n 3, 1) := by decide +kernel
theorem dX8_layOut_38 : decode cX8_layOut 38 = .ok (.aload_n 0, 1) := by decide +kernel
theorem dX8_layOut_39 : decode cX8_layOut 39 = .ok (.getfield 12, 3) := by decide +kernel
theorem dX8_layOut_42 : decode cX8_layOut 42 = .ok (.iload_n 1, 1) := by decide +kernel
theorem dX8_layOut_43 : decode cX8_layOut 43 = .ok (.iload_n 3, 1) := by decide +kernel
theorem dX8_layOut_44 : decode cX8_layOut 44 = .ok (.aload_n 0, 1) := by decide +kernel
theorem dX8_layOut_45 : decode cX8_layOut 45 = .ok (.getfield 23, 3) := by decide +kernel
theorem dX8_layOut_48 : decode cX8_layOut 48 = .ok (.iload_n 1, 1) := by decide +kernel
theorem dX8_layOut_49 : decode cX8_layOut 49 = .ok (.invokevirtual 58, 3) := by decide +kernel
theorem dX8_layOut_52 : decode cX8_layOut 52 = .ok (.aload_n 0, 1) := by decide +kernel
theorem dX8_layOut_53 : decode cX8_layOut 53 = .ok (.getfield 27, 3) := by decide +kernel
theorem dX8_layOut_56 : decode cX8_layOut 56 = .ok (.iload_n 1, 1) := by decide +kernel
theorem dX8_layOut_57 : decode cX8_layOut 57 = .ok (.invokevirtual 58, 3) := by decide +kernel
theorem dX8_layOut_60 : decode cX8_layOut 60 = .ok (.aload_n 0, 1) := by decide +kernel
theorem dX8_layOut_61 : decode cX8_layOut 61 = .ok (.getfield 33, 3) := by decide +kernel
theorem dX8_layOut_64 : decode cX8_layOut 64 = .ok (.iload_n 1, 1) := by decide +kernel
theorem dX8_layOut_65 : decode cX8_layOut 65 = .ok (.invokevirtual 58, 3) := by decide +kernel
theorem dX8_layOut_68 : decode cX8_layOut 68 = .ok (.invokevirtual 83, 3) := by decide +kernel
theorem dX8_layOut_71 : decode cX8_layOut 71 = .ok (.aload_n 0, 1) := by decide +kernel
theorem dX8_layOut_72 : decode cX8_layOut 72 = .ok (.iload_n 1, 1) := by decide +kernel
theorem dX8_layOut_73 : decode cX8_layOut 73 = .ok (.invokevirtual 87, 3) := by decide +kernel
theorem dX8_layOut_76 : decode cX8_layOut 76 = .ok (.istore_n 1, 1) := by decide +kernel
theorem dX8_layOut_77 : decode cX8_layOut 77 = .ok (.iinc 2 1, 3) := by decide +kernel
theorem dX8_layOut_80 : decode cX8_layOut 80 = .ok (.goto (-69), 3) := by decide +kernel
theorem dX8_layOut_83 : decode cX8_layOut 83 = .ok (.aload_n 0, 1) := by decide +kernel
theorem dX8_layOut_84 : decode cX8_layOut 84 = .ok (.getfield 12, 3) := by decide +kernel
theorem dX8_layOut_87 : decode cX8_layOut 87 = .ok (.invokevirtual 90, 3) := by decide +kernel
theorem dX8_layOut_90 : decode cX8_layOut 90 = .ok (.return_, 1) := by decide +kernel
abbrev cX8_copy : ByteArray := prog_10_method_7_code
def yX8_copy : MethodName := ⟨RX8, "copy", "(LTreequery$Tree;)V"⟩
theorem dX8_copy_0 : decode cX8_copy 0 = .ok (.aload_n 0, 1) := by decide +kernel
theorem dX8_copy_1 : decode cX8_copy 1 = .ok (.aload_n 1, 1) := by decide +kernel
theorem dX8_copy_2 : decode cX8_copy 2 = .ok (.invokevirtual 70, 3) := by decide +kernel
theorem dX8_copy_5 : decode cX8_copy 5 = .ok (.aload_n 0, 1) := by decide +kernel
theorem dX8_copy_6 : decode cX8_copy 6 = .ok (.getfield 36, 3) := by decide +kernel
theorem dX8_copy_9 : decode cX8_copy 9 = .ok (.aload_n 1, 1) := by decide +kernel
theorem dX8_copy_10 : decode cX8_copy 10 = .ok (.getfield 36, 3) := by decide +kernel
theorem dX8_copy_13 : decode cX8_copy 13 = .ok (.invokevirtual 62, 3) := by decide +kernel
theorem dX8_copy_16 : decode cX8_copy 16 = .ok (.aload_n 0, 1) := by decide +kernel
theorem dX8_copy_17 : decode cX8_copy 17 = .ok (.getfield 42, 3) := by decide +kernel
theorem dX8_copy_20 : decode cX8_copy 20 = .ok (.aload_n 1, 1) := by decide +kernel
theorem dX8_copy_21 : decode cX8_copy 21 = .ok (.getfield 42, 3) := by decide +kernel
theorem dX8_copy_24 : decode cX8_copy 24 = .ok (.invokevirtual 62, 3) := by decide +kernel
theorem dX8_copy_27 : decode cX8_copy 27 = .ok (.aload_n 0, 1) := by decide +kernel
theorem dX8_copy_28 : decode cX8_copy 28 = .ok (.getfield 45, 3) := by decide +kernel
theorem dX8_copy_31 : decode cX8_copy 31 = .ok (.aload_n 1, 1) := by decide +kernel
theorem dX8_copy_32 : decode cX8_copy 32 = .ok (.getfield 45, 3) := by decide +kernel
theorem dX8_copy_35 : decode cX8_copy 35 = .ok (.invokevirtual 62, 3) := by decide +kernel
theorem dX8_copy_38 : decode cX8_copy 38 = .ok (.aload_n 0, 1) := by decide +kernel
theorem dX8_copy_39 : decode cX8_copy 39 = .ok (.getfield 48, 3) := by decide +kernel
theorem dX8_copy_42 : decode cX8_copy 42 = .ok (.aload_n 1, 1) := by decide +kernel
theorem dX8_copy_43 : decode cX8_copy 43 = .ok (.getfield 48, 3) := by decide +kernel
theorem dX8_copy_46 : decode cX8_copy 46 = .ok (.invokevirtual 62, 3) := by decide +kernel
theorem dX8_copy_49 : decode cX8_copy 49 = .ok (.aload_n 0, 1) := by decide +kernel
theorem dX8_copy_50 : decode cX8_copy 50 = .ok (.invokevirtual 74, 3) := by decide +kernel
theorem dX8_copy_53 : decode cX8_copy 53 = .ok (.return_, 1) := by decide +kernel
abbrev cX8_isTangled : ByteArray := prog_10_method_10_code
def yX8_isTangled : MethodName := ⟨RX8, "isTangled", "()Z"⟩
theorem dX8_isTangled_0 : decode cX8_isTangled 0 = .ok (.iconst 0, 1) := by decide +kernel
theorem dX8_isTangled_1 : decode cX8_isTangled 1 = .ok (.istore_n 1, 1) := by decide +kernel
theorem dX8_isTangled_2 : decode cX8_isTangled 2 = .ok (.iload_n 1, 1) := by decide +kernel
theorem dX8_isTangled_3 : decode cX8_isTangled 3 = .ok (.aload_n 0, 1) := by decide +kernel
theorem dX8_isTangled_4 : decode cX8_isTangled 4 = .ok (.getfield 51, 3) := by decide +kernel
theorem dX8_isTangled_7 : decode cX8_isTangled 7 = .ok (.if_icmp .ge 46, 3) := by decide +kernel
theorem dX8_isTangled_10 : decode cX8_isTangled 10 = .ok (.iload_n 1, 1) := by decide +kernel
theorem dX8_isTangled_11 : decode cX8_isTangled 11 = .ok (.istore_n 2, 1) := by decide +kernel
theorem dX8_isTangled_12 : decode cX8_isTangled 12 = .ok (.iconst 0, 1) := by decide +kernel
theorem dX8_isTangled_13 : decode cX8_isTangled 13 = .ok (.istore_n 3, 1) := by decide +kernel
theorem dX8_isTangled_14 : decode cX8_isTangled 14 = .ok (.iload_n 3, 1) := by decide +kernel
theorem dX8_isTangled_15 : decode cX8_isTangled 15 = .ok (.bipush 60, 2) := by decide +kernel
theorem dX8_isTangled_17 : decode cX8_isTangled 17 = .ok (.if_icmp .gt 23, 3) := by decide +kernel
theorem dX8_isTangled_20 : decode cX8_isTangled 20 = .ok (.iload_n 2, 1) := by decide +kernel
theorem dX8_isTangled_21 : decode cX8_isTangled 21 = .ok (.iconst (-1), 1) := by decide +kernel
theorem dX8_isTangled_22 : decode cX8_isTangled 22 = .ok (.if_icmp .eq 18, 3) := by decide +kernel
theorem dX8_isTangled_25 : decode cX8_isTangled 25 = .ok (.aload_n 0, 1) := by decide +kernel
theorem dX8_isTangled_26 : decode cX8_isTangled 26 = .ok (.getfield 36, 3) := by decide +kernel
theorem dX8_isTangled_29 : decode cX8_isTangled 29 = .ok (.iload_n 2, 1) := by decide +kernel
theorem dX8_isTangled_30 : decode cX8_isTangled 30 = .ok (.invokevirtual 58, 3) := by decide +kernel
theorem dX8_isTangled_33 : decode cX8_isTangled 33 = .ok (.istore_n 2, 1) := by decide +kernel
theorem dX8_isTangled_34 : decode cX8_isTangled 34 = .ok (.iinc 3 1, 3) := by decide +kernel
theorem dX8_isTangled_37 : decode cX8_isTangled 37 = .ok (.goto (-23), 3) := by decide +kernel
theorem dX8_isTangled_40 : decode cX8_isTangled 40 = .ok (.iload_n 2, 1) := by decide +kernel
theorem dX8_isTangled_41 : decode cX8_isTangled 41 = .ok (.iconst (-1), 1) := by decide +kernel
theorem dX8_isTangled_42 : decode cX8_isTangled 42 = .ok (.if_icmp .eq 5, 3) := by decide +kernel
theorem dX8_isTangled_45 : decode cX8_isTangled 45 = .ok (.iconst 1, 1) := by decide +kernel
theorem dX8_isTangled_46 : decode cX8_isTangled 46 = .ok (.ireturn, 1) := by decide +kernel
theorem dX8_isTangled_47 : decode cX8_isTangled 47 = .ok (.iinc 1 1, 3) := by decide +kernel
theorem dX8_isTangled_50 : decode cX8_isTangled 50 = .ok (.goto (-48), 3) := by decide +kernel
theorem dX8_isTangled_53 : decode cX8_isTangled 53 = .ok (.iconst 0, 1) := by decide +kernel
theorem dX8_isTangled_54 : decode cX8_isTangled 54 = .ok (.ireturn, 1) := by decide +kernel
abbrev cX8_hasTwins : ByteArray := prog_10_method_11_code
def yX8_hasTwins : MethodName := ⟨RX8, "hasTwins", "()Z"⟩
theorem dX8_hasTwins_0 : decode cX8_hasTwins 0 = .ok (.iconst 0, 1) := by decide +kernel
theorem dX8_hasTwins_1 : decode cX8_hasTwins 1 = .ok (.istore_n 1, 1) := by decide +kernel
theorem dX8_hasTwins_2 : decode cX8_hasTwins 2 = .ok (.iload_n 1, 1) := by decide +kernel
theorem dX8_hasTwins_3 : decode cX8_hasTwins 3 = .ok (.aload_n 0, 1) := by decide +kernel
theorem dX8_hasTwins_4 : decode cX8_hasTwins 4 = .ok (.getfield 12, 3) := by decide +kernel
theorem dX8_hasTwins_7 : decode cX8_hasTwins 7 = .ok (.invokevirtual 93, 3) := by decide +kernel
theorem dX8_hasTwins_10 : decode cX8_hasTwins 10 = .ok (.if_icmp .ge 60, 3) := by decide +kernel
theorem dX8_hasTwins_13 : decode cX8_hasTwins 13 = .ok (.aload_n 0, 1) := by decide +kernel
theorem dX8_hasTwins_14 : decode cX8_hasTwins 14 = .ok (.getfield 12, 3) := by decide +kernel
theorem dX8_hasTwins_17 : decode cX8_hasTwins 17 = .ok (.iload_n 1, 1) := by decide +kernel
theorem dX8_hasTwins_18 : decode cX8_hasTwins 18 = .ok (.invokevirtual 97, 3) := by decide +kernel
theorem dX8_hasTwins_21 : decode cX8_hasTwins 21 = .ok (.lstore_n 2, 1) := by decide +kernel
theorem dX8_hasTwins_22 : decode cX8_hasTwins 22 = .ok (.iconst 0, 1) := by decide +kernel
theorem dX8_hasTwins_23 : decode cX8_hasTwins 23 = .ok (.istore 4, 2) := by decide +kernel
theorem dX8_hasTwins_25 : decode cX8_hasTwins 25 = .ok (.iload 4, 2) := by decide +kernel
theorem dX8_hasTwins_27 : decode cX8_hasTwins 27 = .ok (.bipush 8, 2) := by decide +kernel
theorem dX8_hasTwins_29 : decode cX8_hasTwins 29 = .ok (.if_icmp .ge 35, 3) := by decide +kernel
theorem dX8_hasTwins_32 : decode cX8_hasTwins 32 = .ok (.lload_n 2, 1) := by decide +kernel
theorem dX8_hasTwins_33 : decode cX8_hasTwins 33 = .ok (.lconst 0, 1) := by decide +kernel
theorem dX8_hasTwins_34 : decode cX8_hasTwins 34 = .ok (.lcmp, 1) := by decide +kernel
theorem dX8_hasTwins_35 : decode cX8_hasTwins 35 = .ok (.ifCond .eq 29, 3) := by decide +kernel
theorem dX8_hasTwins_38 : decode cX8_hasTwins 38 = .ok (.lload_n 2, 1) := by decide +kernel
theorem dX8_hasTwins_39 : decode cX8_hasTwins 39 = .ok (.aload_n 0, 1) := by decide +kernel
theorem dX8_hasTwins_40 : decode cX8_hasTwins 40 = .ok (.getfield 12, 3) := by decide +kernel
theorem dX8_hasTwins_43 : decode cX8_hasTwins 43 = .ok (.iload 4, 2) := by decide +kernel
theorem dX8_hasTwins_45 : decode cX8_hasTwins 45 = .ok (.invokevirtual 101, 3) := by decide +kernel
theorem dX8_hasTwins_48 : decode cX8_hasTwins 48 = .ok (.land, 1) := by decide +kernel
theorem dX8_hasTwins_49 : decode cX8_hasTwins 49 = .ok (.invokestatic 104, 3) := by decide +kernel
theorem dX8_hasTwins_52 : decode cX8_hasTwins 52 = .ok (.iconst 1, 1) := by decide +kernel
theorem dX8_hasTwins_53 : decode cX8_hasTwins 53 = .ok (.if_icmp .le 5, 3) := by decide +kernel
theorem dX8_hasTwins_56 : decode cX8_hasTwins 56 = .ok (.iconst 1, 1) := by decide +kernel
theorem dX8_hasTwins_57 : decode cX8_hasTwins 57 = .ok (.ireturn, 1) := by decide +kernel
theorem dX8_hasTwins_58 : decode cX8_hasTwins 58 = .ok (.iinc 4 1, 3) := by decide +kernel
theorem dX8_hasTwins_61 : decode cX8_hasTwins 61 = .ok (.goto (-36), 3) := by decide +kernel
theorem dX8_hasTwins_64 : decode cX8_hasTwins 64 = .ok (.iinc 1 1, 3) := by decide +kernel
theorem dX8_hasTwins_67 : decode cX8_hasTwins 67 = .ok (.goto (-65), 3) := by decide +kernel
theorem dX8_hasTwins_70 : decode cX8_hasTwins 70 = .ok (.iconst 0, 1) := by decide +kernel
theorem dX8_hasTwins_71 : decode cX8_hasTwins 71 = .ok (.ireturn, 1) := by decide +kernel
abbrev cX8_numberAnew : ByteArray := prog_10_method_13_code
def yX8_numberAnew : MethodName := ⟨RX8, "numberAnew", "()V"⟩
theorem dX8_numberAnew_0 : decode cX8_numberAnew 0 = .ok (.iconst 0, 1) := by decide +kernel
theorem dX8_numberAnew_1 : decode cX8_numberAnew 1 = .ok (.istore_n 1, 1) := by decide +kernel
theorem dX8_numberAnew_2 : decode cX8_numberAnew 2 = .ok (.iconst 0, 1) := by decide +kernel
theorem dX8_numberAnew_3 : decode cX8_numberAnew 3 = .ok (.istore_n 2, 1) := by decide +kernel
theorem dX8_numberAnew_4 : decode cX8_numberAnew 4 = .ok (.iload_n 2, 1) := by decide +kernel
theorem dX8_numberAnew_5 : decode cX8_numberAnew 5 = .ok (.aload_n 0, 1) := by decide +kernel
theorem dX8_numberAnew_6 : decode cX8_numberAnew 6 = .ok (.getfield 12, 3) := by decide +kernel
theorem dX8_numberAnew_9 : decode cX8_numberAnew 9 = .ok (.invokevirtual 93, 3) := by decide +kernel
theorem dX8_numberAnew_12 : decode cX8_numberAnew 12 = .ok (.if_icmp .ge 42, 3) := by decide +kernel
theorem dX8_numberAnew_15 : decode cX8_numberAnew 15 = .ok (.aload_n 0, 1) := by decide +kernel
theorem dX8_numberAnew_16 : decode cX8_numberAnew 16 = .ok (.getfield 12, 3) := by decide +kernel
theorem dX8_numberAnew_19 : decode cX8_numberAnew 19 = .ok (.invokevirtual 130, 3) := by decide +kernel
theorem dX8_numberAnew_22 : decode cX8_numberAnew 22 = .ok (.iload_n 2, 1) := by decide +kernel
theorem dX8_numberAnew_23 : decode cX8_numberAnew 23 = .ok (.invokestatic 114, 3) := by decide +kernel
theorem dX8_numberAnew_26 : decode cX8_numberAnew 26 = .ok (.ifCond .eq 22, 3) := by decide +kernel
theorem dX8_numberAnew_29 : decode cX8_numberAnew 29 = .ok (.iinc 1 16, 3) := by decide +kernel
theorem dX8_numberAnew_32 : decode cX8_numberAnew 32 = .ok (.aload_n 0, 1) := by decide +kernel
theorem dX8_numberAnew_33 : decode cX8_numberAnew 33 = .ok (.getfield 39, 3) := by decide +kernel
theorem dX8_numberAnew_36 : decode cX8_numberAnew 36 = .ok (.aload_n 0, 1) := by decide +kernel
theorem dX8_numberAnew_37 : decode cX8_numberAnew 37 = .ok (.getfield 12, 3) := by decide +kernel
theorem dX8_numberAnew_40 : decode cX8_numberAnew 40 = .ok (.iload_n 2, 1) := by decide +kernel
theorem dX8_numberAnew_41 : decode cX8_numberAnew 41 = .ok (.invokevirtual 120, 3) := by decide +kernel
theorem dX8_numberAnew_44 : decode cX8_numberAnew 44 = .ok (.iload_n 1, 1) := by decide +kernel
theorem dX8_numberAnew_45 : decode cX8_numberAnew 45 = .ok (.invokevirtual 55, 3) := by decide +kernel
theorem dX8_numberAnew_48 : decode cX8_numberAnew 48 = .ok (.iinc 2 1, 3) := by decide +kernel
theorem dX8_numberAnew_51 : decode cX8_numberAnew 51 = .ok (.goto (-47), 3) := by decide +kernel
theorem dX8_numberAnew_54 : decode cX8_numberAnew 54 = .ok (.return_, 1) := by decide +kernel
abbrev cX8_numberRow : ByteArray := prog_10_method_15_code
def yX8_numberRow : MethodName := ⟨RX8, "numberRow", "(JII)Z"⟩
theorem dX8_numberRow_0 : decode cX8_numberRow 0 = .ok (.lload_n 1, 1) := by decide +kernel
theorem dX8_numberRow_1 : decode cX8_numberRow 1 = .ok (.invokestatic 104, 3) := by decide +kernel
theorem dX8_numberRow_4 : decode cX8_numberRow 4 = .ok (.istore 5, 2) := by decide +kernel
theorem dX8_numberRow_6 : decode cX8_numberRow 6 = .ok (.iload 5, 2) := by decide +kernel
theorem dX8_numberRow_8 : decode cX8_numberRow 8 = .ok (.iconst 1, 1) := by decide +kernel
theorem dX8_numberRow_9 : decode cX8_numberRow 9 = .ok (.if_icmp .ge 5, 3) := by decide +kernel
theorem dX8_numberRow_12 : decode cX8_numberRow 12 = .ok (.iconst 1, 1) := by decide +kernel
theorem dX8_numberRow_13 : decode cX8_numberRow 13 = .ok (.ireturn, 1) := by decide +kernel
theorem dX8_numberRow_14 : decode cX8_numberRow 14 = .ok (.aload_n 0, 1) := by decide +kernel
theorem dX8_numberRow_15 : decode cX8_numberRow 15 = .ok (.getfield 39, 3) := by decide +kernel
theorem dX8_numberRow_18 : decode cX8_numberRow 18 = .ok (.aload_n 0, 1) := by decide +kernel
theorem dX8_numberRow_19 : decode cX8_numberRow 19 = .ok (.getfield 12, 3) := by decide +kernel
theorem dX8_numberRow_22 : decode cX8_numberRow 22 = .ok (.iload_n 3, 1) := by decide +kernel
theorem dX8_numberRow_23 : decode cX8_numberRow 23 = .ok (.invokevirtual 120, 3) := by decide +kernel
theorem dX8_numberRow_26 : decode cX8_numberRow 26 = .ok (.invokevirtual 58, 3) := by decide +kernel
theorem dX8_numberRow_29 : decode cX8_numberRow 29 = .ok (.istore 6, 2) := by decide +kernel
theorem dX8_numberRow_31 : decode cX8_numberRow 31 = .ok (.aload_n 0, 1) := by decide +kernel
theorem dX8_numberRow_32 : decode cX8_numberRow 32 = .ok (.getfield 39, 3) := by decide +kernel
theorem dX8_numberRow_35 : decode cX8_numberRow 35 = .ok (.aload_n 0, 1) := by decide +kernel
theorem dX8_numberRow_36 : decode cX8_numberRow 36 = .ok (.getfield 12, 3) := by decide +kernel
theorem dX8_numberRow_39 : decode cX8_numberRow 39 = .ok (.iload 4, 2) := by decide +kernel
theorem dX8_numberRow_41 : decode cX8_numberRow 41 = .ok (.invokevirtual 120, 3) := by decide +kernel
theorem dX8_numberRow_44 : decode cX8_numberRow 44 = .ok (.invokevirtual 58, 3) := by decide +kernel
theorem dX8_numberRow_47 : decode cX8_numberRow 47 = .ok (.iload 6, 2) := by decide +kernel
theorem dX8_numberRow_49 : decode cX8_numberRow 49 = .ok (.isub, 1) := by decide +kernel
theorem dX8_numberRow_50 : decode cX8_numberRow 50 = .ok (.istore 7, 2) := by decide +kernel
theorem dX8_numberRow_52 : decode cX8_numberRow 52 = .ok (.iload 4, 2) := by decide +kernel
theorem dX8_numberRow_54 : decode cX8_numberRow 54 = .ok (.iconst (-1), 1) := by decide +kernel
theorem dX8_numberRow_55 : decode cX8_numberRow 55 = .ok (.if_icmp .eq 12, 3) := by decide +kernel
theorem dX8_numberRow_58 : decode cX8_numberRow 58 = .ok (.iload 7, 2) := by decide +kernel
theorem dX8_numberRow_60 : decode cX8_numberRow 60 = .ok (.iload 5, 2) := by decide +kernel
theorem dX8_numberRow_62 : decode cX8_numberRow 62 = .ok (.if_icmp .gt 5, 3) := by decide +kernel
theorem dX8_numberRow_65 : decode cX8_numberRow 65 = .ok (.iconst 0, 1) := by decide +kernel
theorem dX8_numberRow_66 : decode cX8_numberRow 66 = .ok (.ireturn, 1) := by decide +kernel
theorem dX8_numberRow_67 : decode cX8_numberRow 67 = .ok (.iconst 1, 1) := by decide +kernel
theorem dX8_numberRow_68 : decode cX8_numberRow 68 = .ok (.istore 8, 2) := by decide +kernel
theorem dX8_numberRow_70 : decode cX8_numberRow 70 = .ok (.iload 8, 2) := by decide +kernel
theorem dX8_numberRow_72 : decode cX8_numberRow 72 = .ok (.iload 5, 2) := by decide +kernel
theorem dX8_numberRow_74 : decode cX8_numberRow 74 = .ok (.if_icmp .gt 63, 3) := by decide +kernel
theorem dX8_numberRow_77 : decode cX8_numberRow 77 = .ok (.aload_n 0, 1) := by decide +kernel
theorem dX8_numberRow_78 : decode cX8_numberRow 78 = .ok (.getfield 12, 3) := by decide +kernel
theorem dX8_numberRow_81 : decode cX8_numberRow 81 = .ok (.lload_n 1, 1) := by decide +kernel
theorem dX8_numberRow_82 : decode cX8_numberRow 82 = .ok (.iload 8, 2) := by decide +kernel
theorem dX8_numberRow_84 : decode cX8_numberRow 84 = .ok (.iconst 1, 1) := by decide +kernel
theorem dX8_numberRow_85 : decode cX8_numberRow 85 = .ok (.isub, 1) := by decide +kernel
theorem dX8_numberRow_86 : decode cX8_numberRow 86 = .ok (.invokevirtual 126, 3) := by decide +kernel
theorem dX8_numberRow_89 : decode cX8_numberRow 89 = .ok (.istore 9, 2) := by decide +kernel
theorem dX8_numberRow_91 : decode cX8_numberRow 91 = .ok (.iload 4, 2) := by decide +kernel
theorem dX8_numberRow_93 : decode cX8_numberRow 93 = .ok (.iconst (-1), 1) := by decide +kernel
theorem dX8_numberRow_94 : decode cX8_numberRow 94 = .ok (.if_icmp .ne 11, 3) := by decide +kernel
theorem dX8_numberRow_97 : decode cX8_numberRow 97 = .ok (.bipush 16, 2) := by decide +kernel
theorem dX8_numberRow_99 : decode cX8_numberRow 99 = .ok (.iload 8, 2) := by decide +kernel
theorem dX8_numberRow_101 : decode cX8_numberRow 101 = .ok (.imul, 1) := by decide +kernel
theorem dX8_numberRow_102 : decode cX8_numberRow 102 = .ok (.goto 13, 3) := by decide +kernel
theorem dX8_numberRow_105 : decode cX8_numberRow 105 = .ok (.iload 8, 2) := by decide +kernel
theorem dX8_numberRow_107 : decode cX8_numberRow 107 = .ok (.iload 7, 2) := by decide +kernel
theorem dX8_numberRow_109 : decode cX8_numberRow 109 = .ok (.imul, 1) := by decide +kernel
theorem dX8_numberRow_110 : decode cX8_numberRow 110 = .ok (.iload 5, 2) := by decide +kernel
theorem dX8_numberRow_112 : decode cX8_numberRow 112 = .ok (.iconst 1, 1) := by decide +kernel
theorem dX8_numberRow_113 : decode cX8_numberRow 113 = .ok (.iadd, 1) := by decide +kernel
theorem dX8_numberRow_114 : decode cX8_numberRow 114 = .ok (.idiv, 1) := by decide +kernel
theorem dX8_numberRow_115 : decode cX8_numberRow 115 = .ok (.istore 10, 2) := by decide +kernel
theorem dX8_numberRow_117 : decode cX8_numberRow 117 = .ok (.aload_n 0, 1) := by decide +kernel
theorem dX8_numberRow_118 : decode cX8_numberRow 118 = .ok (.getfield 39, 3) := by decide +kernel
theorem dX8_numberRow_121 : decode cX8_numberRow 121 = .ok (.iload 9, 2) := by decide +kernel
theorem dX8_numberRow_123 : decode cX8_numberRow 123 = .ok (.iload 6, 2) := by decide +kernel
theorem dX8_numberRow_125 : decode cX8_numberRow 125 = .ok (.iload 10, 2) := by decide +kernel
theorem dX8_numberRow_127 : decode cX8_numberRow 127 = .ok (.iadd, 1) := by decide +kernel
theorem dX8_numberRow_128 : decode cX8_numberRow 128 = .ok (.invokevirtual 55, 3) := by decide +kernel
theorem dX8_numberRow_131 : decode cX8_numberRow 131 = .ok (.iinc 8 1, 3) := by decide +kernel
theorem dX8_numberRow_134 : decode cX8_numberRow 134 = .ok (.goto (-64), 3) := by decide +kernel
theorem dX8_numberRow_137 : decode cX8_numberRow 137 = .ok (.iconst 1, 1) := by decide +kernel
theorem dX8_numberRow_138 : decode cX8_numberRow 138 = .ok (.ireturn, 1) := by decide +kernel
abbrev cX8_numberFresh : ByteArray := prog_10_method_14_code
def yX8_numberFresh : MethodName := ⟨RX8, "numberFresh", "(J)Z"⟩
theorem dX8_numberFresh_0 : decode cX8_numberFresh 0 = .ok (.aload_n 0, 1) := by decide +kernel
theorem dX8_numberFresh_1 : decode cX8_numberFresh 1 = .ok (.getfield 12, 3) := by decide +kernel
theorem dX8_numberFresh_4 : decode cX8_numberFresh 4 = .ok (.aload_n 0, 1) := by decide +kernel
theorem dX8_numberFresh_5 : decode cX8_numberFresh 5 = .ok (.getfield 12, 3) := by decide +kernel
theorem dX8_numberFresh_8 : decode cX8_numberFresh 8 = .ok (.lload_n 1, 1) := by decide +kernel
theorem dX8_numberFresh_9 : decode cX8_numberFresh 9 = .ok (.invokevirtual 133, 3) := by decide +kernel
theorem dX8_numberFresh_12 : decode cX8_numberFresh 12 = .ok (.invokevirtual 137, 3) := by decide +kernel
theorem dX8_numberFresh_15 : decode cX8_numberFresh 15 = .ok (.aload_n 0, 1) := by decide +kernel
theorem dX8_numberFresh_16 : decode cX8_numberFresh 16 = .ok (.getfield 12, 3) := by decide +kernel
theorem dX8_numberFresh_19 : decode cX8_numberFresh 19 = .ok (.invokevirtual 130, 3) := by decide +kernel
theorem dX8_numberFresh_22 : decode cX8_numberFresh 22 = .ok (.land, 1) := by decide +kernel
theorem dX8_numberFresh_23 : decode cX8_numberFresh 23 = .ok (.lstore_n 3, 1) := by decide +kernel
theorem dX8_numberFresh_24 : decode cX8_numberFresh 24 = .ok (.iconst 0, 1) := by decide +kernel
theorem dX8_numberFresh_25 : decode cX8_numberFresh 25 = .ok (.istore 5, 2) := by decide +kernel
theorem dX8_numberFresh_27 : decode cX8_numberFresh 27 = .ok (.iconst 0, 1) := by decide +kernel
theorem dX8_numberFresh_28 : decode cX8_numberFresh 28 = .ok (.istore 6, 2) := by decide +kernel
theorem dX8_numberFresh_30 : decode cX8_numberFresh 30 = .ok (.iload 6, 2) := by decide +kernel
theorem dX8_numberFresh_32 : decode cX8_numberFresh 32 = .ok (.aload_n 0, 1) := by decide +kernel
theorem dX8_numberFresh_33 : decode cX8_numberFresh 33 = .ok (.getfield 12, 3) := by decide +kernel
theorem dX8_numberFresh_36 : decode cX8_numberFresh 36 = .ok (.invokevirtual 93, 3) := by decide +kernel
theorem dX8_numberFresh_39 : decode cX8_numberFresh 39 = .ok (.if_icmp .ge 64, 3) := by decide +kernel
theorem dX8_numberFresh_42 : decode cX8_numberFresh 42 = .ok (.aload_n 0, 1) := by decide +kernel
theorem dX8_numberFresh_43 : decode cX8_numberFresh 43 = .ok (.getfield 12, 3) := by decide +kernel
theorem dX8_numberFresh_46 : decode cX8_numberFresh 46 = .ok (.invokevirtual 130, 3) := by decide +kernel
theorem dX8_numberFresh_49 : decode cX8_numberFresh 49 = .ok (.lload_n 3, 1) := by decide +kernel
theorem dX8_numberFresh_50 : decode cX8_numberFresh 50 = .ok (.ldc2_w 140, 3) := by decide +kernel
theorem dX8_numberFresh_53 : decode cX8_numberFresh 53 = .ok (.lxor, 1) := by decide +kernel
theorem dX8_numberFresh_54 : decode cX8_numberFresh 54 = .ok (.land, 1) := by decide +kernel
theorem dX8_numberFresh_55 : decode cX8_numberFresh 55 = .ok (.iload 6, 2) := by decide +kernel
theorem dX8_numberFresh_57 : decode cX8_numberFresh 57 = .ok (.invokestatic 114, 3) := by decide +kernel
theorem dX8_numberFresh_60 : decode cX8_numberFresh 60 = .ok (.ifCond .eq 37, 3) := by decide +kernel
theorem dX8_numberFresh_63 : decode cX8_numberFresh 63 = .ok (.aload_n 0, 1) := by decide +kernel
theorem dX8_numberFresh_64 : decode cX8_numberFresh 64 = .ok (.lload_n 3, 1) := by decide +kernel
theorem dX8_numberFresh_65 : decode cX8_numberFresh 65 = .ok (.iload 6, 2) := by decide +kernel
theorem dX8_numberFresh_67 : decode cX8_numberFresh 67 = .ok (.invokestatic 142, 3) := by decide +kernel
theorem dX8_numberFresh_70 : decode cX8_numberFresh 70 = .ok (.land, 1) := by decide +kernel
theorem dX8_numberFresh_71 : decode cX8_numberFresh 71 = .ok (.iload 5, 2) := by decide +kernel
theorem dX8_numberFresh_73 : decode cX8_numberFresh 73 = .ok (.invokestatic 142, 3) := by decide +kernel
theorem dX8_numberFresh_76 : decode cX8_numberFresh 76 = .ok (.ldc2_w 140, 3) := by decide +kernel
theorem dX8_numberFresh_79 : decode cX8_numberFresh 79 = .ok (.lxor, 1) := by decide +kernel
theorem dX8_numberFresh_80 : decode cX8_numberFresh 80 = .ok (.land, 1) := by decide +kernel
theorem dX8_numberFresh_81 : decode cX8_numberFresh 81 = .ok (.iload 5, 2) := by decide +kernel
theorem dX8_numberFresh_83 : decode cX8_numberFresh 83 = .ok (.iload 6, 2) := by decide +kernel
theorem dX8_numberFresh_85 : decode cX8_numberFresh 85 = .ok (.invokevirtual 143, 3) := by decide +kernel
theorem dX8_numberFresh_88 : decode cX8_numberFresh 88 = .ok (.ifCond .ne 5, 3) := by decide +kernel
theorem dX8_numberFresh_91 : decode cX8_numberFresh 91 = .ok (.iconst 0, 1) := by decide +kernel
theorem dX8_numberFresh_92 : decode cX8_numberFresh 92 = .ok (.ireturn, 1) := by decide +kernel
theorem dX8_numberFresh_93 : decode cX8_numberFresh 93 = .ok (.iload 6, 2) := by decide +kernel
theorem dX8_numberFresh_95 : decode cX8_numberFresh 95 = .ok (.istore 5, 2) := by decide +kernel
theorem dX8_numberFresh_97 : decode cX8_numberFresh 97 = .ok (.iinc 6 1, 3) := by decide +kernel
theorem dX8_numberFresh_100 : decode cX8_numberFresh 100 = .ok (.goto (-70), 3) := by decide +kernel
theorem dX8_numberFresh_103 : decode cX8_numberFresh 103 = .ok (.aload_n 0, 1) := by decide +kernel
theorem dX8_numberFresh_104 : decode cX8_numberFresh 104 = .ok (.lload_n 3, 1) := by decide +kernel
theorem dX8_numberFresh_105 : decode cX8_numberFresh 105 = .ok (.iload 5, 2) := by decide +kernel
theorem dX8_numberFresh_107 : decode cX8_numberFresh 107 = .ok (.invokestatic 142, 3) := by decide +kernel
theorem dX8_numberFresh_110 : decode cX8_numberFresh 110 = .ok (.ldc2_w 140, 3) := by decide +kernel
theorem dX8_numberFresh_113 : decode cX8_numberFresh 113 = .ok (.lxor, 1) := by decide +kernel
theorem dX8_numberFresh_114 : decode cX8_numberFresh 114 = .ok (.land, 1) := by decide +kernel
theorem dX8_numberFresh_115 : decode cX8_numberFresh 115 = .ok (.iload 5, 2) := by decide +kernel
theorem dX8_numberFresh_117 : decode cX8_numberFresh 117 = .ok (.iconst (-1), 1) := by decide +kernel
theorem dX8_numberFresh_118 : decode cX8_numberFresh 118 = .ok (.invokevirtual 143, 3) := by decide +kernel
theorem dX8_numberFresh_121 : decode cX8_numberFresh 121 = .ok (.ireturn, 1) := by decide +kernel
abbrev cX8_textsWorth : ByteArray := prog_10_method_16_code
def yX8_textsWorth : MethodName := ⟨RX8, "textsWorth", "(I)J"⟩
theorem dX8_textsWorth_0 : decode cX8_textsWorth 0 = .ok (.lconst 0, 1) := by decide +kernel
theorem dX8_textsWorth_1 : decode cX8_textsWorth 1 = .ok (.lstore_n 2, 1) := by decide +kernel
theorem dX8_textsWorth_2 : decode cX8_textsWorth 2 = .ok (.iconst 0, 1) := by decide +kernel
theorem dX8_textsWorth_3 : decode cX8_textsWorth 3 = .ok (.istore 4, 2) := by decide +kernel
theorem dX8_textsWorth_5 : decode cX8_textsWorth 5 = .ok (.iload 4, 2) := by decide +kernel
theorem dX8_textsWorth_7 : decode cX8_textsWorth 7 = .ok (.aload_n 0, 1) := by decide +kernel
theorem dX8_textsWorth_8 : decode cX8_textsWorth 8 = .ok (.getfield 12, 3) := by decide +kernel
theorem dX8_textsWorth_11 : decode cX8_textsWorth 11 = .ok (.invokevirtual 93, 3) := by decide +kernel
theorem dX8_textsWorth_14 : decode cX8_textsWorth 14 = .ok (.if_icmp .ge 54, 3) := by decide +kernel
theorem dX8_textsWorth_17 : decode cX8_textsWorth 17 = .ok (.aload_n 0, 1) := by decide +kernel
theorem dX8_textsWorth_18 : decode cX8_textsWorth 18 = .ok (.getfield 12, 3) := by decide +kernel
theorem dX8_textsWorth_21 : decode cX8_textsWorth 21 = .ok (.bipush 9, 2) := by decide +kernel
theorem dX8_textsWorth_23 : decode cX8_textsWorth 23 = .ok (.invokevirtual 101, 3) := by decide +kernel
theorem dX8_textsWorth_26 : decode cX8_textsWorth 26 = .ok (.iload 4, 2) := by decide +kernel
theorem dX8_textsWorth_28 : decode cX8_textsWorth 28 = .ok (.invokestatic 114, 3) := by decide +kernel
theorem dX8_textsWorth_31 : decode cX8_textsWorth 31 = .ok (.ifCond .eq 31, 3) := by decide +kernel
theorem dX8_textsWorth_34 : decode cX8_textsWorth 34 = .ok (.aload_n 0, 1) := by decide +kernel
theorem dX8_textsWorth_35 : decode cX8_textsWorth 35 = .ok (.getfield 30, 3) := by decide +kernel
theorem dX8_textsWorth_38 : decode cX8_textsWorth 38 = .ok (.aload_n 0, 1) := by decide +kernel
theorem dX8_textsWorth_39 : decode cX8_textsWorth 39 = .ok (.getfield 12, 3) := by decide +kernel
theorem dX8_textsWorth_42 : decode cX8_textsWorth 42 = .ok (.iload 4, 2) := by decide +kernel
theorem dX8_textsWorth_44 : decode cX8_textsWorth 44 = .ok (.invokevirtual 120, 3) := by decide +kernel
theorem dX8_textsWorth_47 : decode cX8_textsWorth 47 = .ok (.invokevirtual 58, 3) := by decide +kernel
theorem dX8_textsWorth_50 : decode cX8_textsWorth 50 = .ok (.iload_n 1, 1) := by decide +kernel
theorem dX8_textsWorth_51 : decode cX8_textsWorth 51 = .ok (.if_icmp .ne 11, 3) := by decide +kernel
theorem dX8_textsWorth_54 : decode cX8_textsWorth 54 = .ok (.lload_n 2, 1) := by decide +kernel
theorem dX8_textsWorth_55 : decode cX8_textsWorth 55 = .ok (.iload 4, 2) := by decide +kernel
theorem dX8_textsWorth_57 : decode cX8_textsWorth 57 = .ok (.invokestatic 147, 3) := by decide +kernel
theorem dX8_textsWorth_60 : decode cX8_textsWorth 60 = .ok (.lor, 1) := by decide +kernel
theorem dX8_textsWorth_61 : decode cX8_textsWorth 61 = .ok (.lstore_n 2, 1) := by decide +kernel
theorem dX8_textsWorth_62 : decode cX8_textsWorth 62 = .ok (.iinc 4 1, 3) := by decide +kernel
theorem dX8_textsWorth_65 : decode cX8_textsWorth 65 = .ok (.goto (-60), 3) := by decide +kernel
theorem dX8_textsWorth_68 : decode cX8_textsWorth 68 = .ok (.lload_n 2, 1) := by decide +kernel
theorem dX8_textsWorth_69 : decode cX8_textsWorth 69 = .ok (.lreturn, 1) := by decide +kernel
abbrev cX8_isRanked : ByteArray := prog_10_method_18_code
def yX8_isRanked : MethodName := ⟨RX8, "isRanked", "(JI)Z"⟩
theorem dX8_isRanked_0 : decode cX8_isRanked 0 = .ok (.aload_n 0, 1) := by decide +kernel
theorem dX8_isRanked_1 : decode cX8_isRanked 1 = .ok (.getfield 12, 3) := by decide +kernel
theorem dX8_isRanked_4 : decode cX8_isRanked 4 = .ok (.invokevirtual 110, 3) := by decide +kernel
theorem dX8_isRanked_7 : decode cX8_isRanked 7 = .ok (.iload_n 3, 1) := by decide +kernel
theorem dX8_isRanked_8 : decode cX8_isRanked 8 = .ok (.invokestatic 114, 3) := by decide +kernel
theorem dX8_isRanked_11 : decode cX8_isRanked 11 = .ok (.ifCond .eq 22, 3) := by decide +kernel
theorem dX8_isRanked_14 : decode cX8_isRanked 14 = .ok (.aload_n 0, 1) := by decide +kernel
theorem dX8_isRanked_15 : decode cX8_isRanked 15 = .ok (.getfield 12, 3) := by decide +kernel
theorem dX8_isRanked_18 : decode cX8_isRanked 18 = .ok (.iload_n 3, 1) := by decide +kernel
theorem dX8_isRanked_19 : decode cX8_isRanked 19 = .ok (.invokevirtual 123, 3) := by decide +kernel
theorem dX8_isRanked_22 : decode cX8_isRanked 22 = .ok (.lload_n 1, 1) := by decide +kernel
theorem dX8_isRanked_23 : decode cX8_isRanked 23 = .ok (.land, 1) := by decide +kernel
theorem dX8_isRanked_24 : decode cX8_isRanked 24 = .ok (.lconst 0, 1) := by decide +kernel
theorem dX8_isRanked_25 : decode cX8_isRanked 25 = .ok (.lcmp, 1) := by decide +kernel
theorem dX8_isRanked_26 : decode cX8_isRanked 26 = .ok (.ifCond .eq 7, 3) := by decide +kernel
theorem dX8_isRanked_29 : decode cX8_isRanked 29 = .ok (.iconst 1, 1) := by decide +kernel
theorem dX8_isRanked_30 : decode cX8_isRanked 30 = .ok (.goto 4, 3) := by decide +kernel
theorem dX8_isRanked_33 : decode cX8_isRanked 33 = .ok (.iconst 0, 1) := by decide +kernel
theorem dX8_isRanked_34 : decode cX8_isRanked 34 = .ok (.ireturn, 1) := by decide +kernel
abbrev cX8_lead : ByteArray := prog_10_method_20_code
def yX8_lead : MethodName := ⟨RX8, "lead", "(JII)I"⟩
theorem dX8_lead_0 : decode cX8_lead 0 = .ok (.aload_n 0, 1) := by decide +kernel
theorem dX8_lead_1 : decode cX8_lead 1 = .ok (.getfield 12, 3) := by decide +kernel
theorem dX8_lead_4 : decode cX8_lead 4 = .ok (.bipush 9, 2) := by decide +kernel
theorem dX8_lead_6 : decode cX8_lead 6 = .ok (.invokevirtual 101, 3) := by decide +kernel
theorem dX8_lead_9 : decode cX8_lead 9 = .ok (.lstore 5, 2) := by decide +kernel
theorem dX8_lead_11 : decode cX8_lead 11 = .ok (.aload_n 0, 1) := by decide +kernel
theorem dX8_lead_12 : decode cX8_lead 12 = .ok (.getfield 12, 3) := by decide +kernel
theorem dX8_lead_15 : decode cX8_lead 15 = .ok (.iload_n 3, 1) := by decide +kernel
theorem dX8_lead_16 : decode cX8_lead 16 = .ok (.invokevirtual 123, 3) := by decide +kernel
theorem dX8_lead_19 : decode cX8_lead 19 = .ok (.lstore 7, 2) := by decide +kernel
theorem dX8_lead_21 : decode cX8_lead 21 = .ok (.aload_n 0, 1) := by decide +kernel
theorem dX8_lead_22 : decode cX8_lead 22 = .ok (.getfield 12, 3) := by decide +kernel
theorem dX8_lead_25 : decode cX8_lead 25 = .ok (.iload 4, 2) := by decide +kernel
theorem dX8_lead_27 : decode cX8_lead 27 = .ok (.invokevirtual 123, 3) := by decide +kernel
theorem dX8_lead_30 : decode cX8_lead 30 = .ok (.lstore 9, 2) := by decide +kernel
theorem dX8_lead_32 : decode cX8_lead 32 = .ok (.lload 7, 2) := by decide +kernel
theorem dX8_lead_34 : decode cX8_lead 34 = .ok (.lload_n 1, 1) := by decide +kernel
theorem dX8_lead_35 : decode cX8_lead 35 = .ok (.land, 1) := by decide +kernel
theorem dX8_lead_36 : decode cX8_lead 36 = .ok (.invokestatic 104, 3) := by decide +kernel
theorem dX8_lead_39 : decode cX8_lead 39 = .ok (.lload 9, 2) := by decide +kernel
theorem dX8_lead_41 : decode cX8_lead 41 = .ok (.lload 5, 2) := by decide +kernel
theorem dX8_lead_43 : decode cX8_lead 43 = .ok (.land, 1) := by decide +kernel
theorem dX8_lead_44 : decode cX8_lead 44 = .ok (.invokestatic 104, 3) := by decide +kernel
theorem dX8_lead_47 : decode cX8_lead 47 = .ok (.imul, 1) := by decide +kernel
theorem dX8_lead_48 : decode cX8_lead 48 = .ok (.lload 9, 2) := by decide +kernel
theorem dX8_lead_50 : decode cX8_lead 50 = .ok (.lload_n 1, 1) := by decide +kernel
theorem dX8_lead_51 : decode cX8_lead 51 = .ok (.land, 1) := by decide +kernel
theorem dX8_lead_52 : decode cX8_lead 52 = .ok (.invokestatic 104, 3) := by decide +kernel
theorem dX8_lead_55 : decode cX8_lead 55 = .ok (.lload 7, 2) := by decide +kernel
theorem dX8_lead_57 : decode cX8_lead 57 = .ok (.lload 5, 2) := by decide +kernel
theorem dX8_lead_59 : decode cX8_lead 59 = .ok (.land, 1) := by decide +kernel
theorem dX8_lead_60 : decode cX8_lead 60 = .ok (.invokestatic 104, 3) := by decide +kernel
theorem dX8_lead_63 : decode cX8_lead 63 = .ok (.imul, 1) := by decide +kernel
theorem dX8_lead_64 : decode cX8_lead 64 = .ok (.isub, 1) := by decide +kernel
theorem dX8_lead_65 : decode cX8_lead 65 = .ok (.ireturn, 1) := by decide +kernel
abbrev cX8_countAhead : ByteArray := prog_10_method_19_code
def yX8_countAhead : MethodName := ⟨RX8, "countAhead", "(JI)I"⟩
theorem dX8_countAhead_0 : decode cX8_countAhead 0 = .ok (.iconst 0, 1) := by decide +kernel
theorem dX8_countAhead_1 : decode cX8_countAhead 1 = .ok (.istore 4, 2) := by decide +kernel
theorem dX8_countAhead_3 : decode cX8_countAhead 3 = .ok (.iconst 0, 1) := by decide +kernel
theorem dX8_countAhead_4 : decode cX8_countAhead 4 = .ok (.istore 5, 2) := by decide +kernel
theorem dX8_countAhead_6 : decode cX8_countAhead 6 = .ok (.iload 5, 2) := by decide +kernel
theorem dX8_countAhead_8 : decode cX8_countAhead 8 = .ok (.aload_n 0, 1) := by decide +kernel
theorem dX8_countAhead_9 : decode cX8_countAhead 9 = .ok (.getfield 12, 3) := by decide +kernel
theorem dX8_countAhead_12 : decode cX8_countAhead 12 = .ok (.invokevirtual 93, 3) := by decide +kernel
theorem dX8_countAhead_15 : decode cX8_countAhead 15 = .ok (.if_icmp .ge 55, 3) := by decide +kernel
theorem dX8_countAhead_18 : decode cX8_countAhead 18 = .ok (.aload_n 0, 1) := by decide +kernel
theorem dX8_countAhead_19 : decode cX8_countAhead 19 = .ok (.lload_n 1, 1) := by decide +kernel
theorem dX8_countAhead_20 : decode cX8_countAhead 20 = .ok (.iload 5, 2) := by decide +kernel
theorem dX8_countAhead_22 : decode cX8_countAhead 22 = .ok (.invokevirtual 150, 3) := by decide +kernel
theorem dX8_countAhead_25 : decode cX8_countAhead 25 = .ok (.ifCond .eq 39, 3) := by decide +kernel
theorem dX8_countAhead_28 : decode cX8_countAhead 28 = .ok (.aload_n 0, 1) := by decide +kernel
theorem dX8_countAhead_29 : decode cX8_countAhead 29 = .ok (.lload_n 1, 1) := by decide +kernel
theorem dX8_countAhead_30 : decode cX8_countAhead 30 = .ok (.iload 5, 2) := by decide +kernel
theorem dX8_countAhead_32 : decode cX8_countAhead 32 = .ok (.iload_n 3, 1) := by decide +kernel
theorem dX8_countAhead_33 : decode cX8_countAhead 33 = .ok (.invokevirtual 156, 3) := by decide +kernel
theorem dX8_countAhead_36 : decode cX8_countAhead 36 = .ok (.istore 6, 2) := by decide +kernel
theorem dX8_countAhead_38 : decode cX8_countAhead 38 = .ok (.iload 4, 2) := by decide +kernel
theorem dX8_countAhead_40 : decode cX8_countAhead 40 = .ok (.iload 6, 2) := by decide +kernel
theorem dX8_countAhead_42 : decode cX8_countAhead 42 = .ok (.ifCond .gt 14, 3) := by decide +kernel
theorem dX8_countAhead_45 : decode cX8_countAhead 45 = .ok (.iload 6, 2) := by decide +kernel
theorem dX8_countAhead_47 : decode cX8_countAhead 47 = .ok (.ifCond .ne 13, 3) := by decide +kernel
theorem dX8_countAhead_50 : decode cX8_countAhead 50 = .ok (.iload 5, 2) := by decide +kernel
theorem dX8_countAhead_52 : decode cX8_countAhead 52 = .ok (.iload_n 3, 1) := by decide +kernel
theorem dX8_countAhead_53 : decode cX8_countAhead 53 = .ok (.if_icmp .ge 7, 3) := by decide +kernel
theorem dX8_countAhead_56 : decode cX8_countAhead 56 = .ok (.iconst 1, 1) := by decide +kernel
theorem dX8_countAhead_57 : decode cX8_countAhead 57 = .ok (.goto 4, 3) := by decide +kernel
theorem dX8_countAhead_60 : decode cX8_countAhead 60 = .ok (.iconst 0, 1) := by decide +kernel
theorem dX8_countAhead_61 : decode cX8_countAhead 61 = .ok (.iadd, 1) := by decide +kernel
theorem dX8_countAhead_62 : decode cX8_countAhead 62 = .ok (.istore 4, 2) := by decide +kernel
theorem dX8_countAhead_64 : decode cX8_countAhead 64 = .ok (.iinc 5 1, 3) := by decide +kernel
theorem dX8_countAhead_67 : decode cX8_countAhead 67 = .ok (.goto (-61), 3) := by decide +kernel
theorem dX8_countAhead_70 : decode cX8_countAhead 70 = .ok (.iload 4, 2) := by decide +kernel
theorem dX8_countAhead_72 : decode cX8_countAhead 72 = .ok (.ireturn, 1) := by decide +kernel
abbrev cX8_rankedSpot : ByteArray := prog_10_method_17_code
def yX8_rankedSpot : MethodName := ⟨RX8, "rankedSpot", "(JI)I"⟩
theorem dX8_rankedSpot_0 : decode cX8_rankedSpot 0 = .ok (.iconst 0, 1) := by decide +kernel
theorem dX8_rankedSpot_1 : decode cX8_rankedSpot 1 = .ok (.istore 4, 2) := by decide +kernel
theorem dX8_rankedSpot_3 : decode cX8_rankedSpot 3 = .ok (.iload 4, 2) := by decide +kernel
theorem dX8_rankedSpot_5 : decode cX8_rankedSpot 5 = .ok (.aload_n 0, 1) := by decide +kernel
theorem dX8_rankedSpot_6 : decode cX8_rankedSpot 6 = .ok (.getfield 12, 3) := by decide +kernel
theorem dX8_rankedSpot_9 : decode cX8_rankedSpot 9 = .ok (.invokevirtual 93, 3) := by decide +kernel
theorem dX8_rankedSpot_12 : decode cX8_rankedSpot 12 = .ok (.if_icmp .ge 33, 3) := by decide +kernel
theorem dX8_rankedSpot_15 : decode cX8_rankedSpot 15 = .ok (.aload_n 0, 1) := by decide +kernel
theorem dX8_rankedSpot_16 : decode cX8_rankedSpot 16 = .ok (.lload_n 1, 1) := by decide +kernel
theorem dX8_rankedSpot_17 : decode cX8_rankedSpot 17 = .ok (.iload 4, 2) := by decide +kernel
theorem dX8_rankedSpot_19 : decode cX8_rankedSpot 19 = .ok (.invokevirtual 150, 3) := by decide +kernel
theorem dX8_rankedSpot_22 : decode cX8_rankedSpot 22 = .ok (.ifCond .eq 17, 3) := by decide +kernel
theorem dX8_rankedSpot_25 : decode cX8_rankedSpot 25 = .ok (.aload_n 0, 1) := by decide +kernel
theorem dX8_rankedSpot_26 : decode cX8_rankedSpot 26 = .ok (.lload_n 1, 1) := by decide +kernel
theorem dX8_rankedSpot_27 : decode cX8_rankedSpot 27 = .ok (.iload 4, 2) := by decide +kernel
theorem dX8_rankedSpot_29 : decode cX8_rankedSpot 29 = .ok (.invokevirtual 153, 3) := by decide +kernel
theorem dX8_rankedSpot_32 : decode cX8_rankedSpot 32 = .ok (.iload_n 3, 1) := by decide +kernel
theorem dX8_rankedSpot_33 : decode cX8_rankedSpot 33 = .ok (.if_icmp .ne 6, 3) := by decide +kernel
theorem dX8_rankedSpot_36 : decode cX8_rankedSpot 36 = .ok (.iload 4, 2) := by decide +kernel
theorem dX8_rankedSpot_38 : decode cX8_rankedSpot 38 = .ok (.ireturn, 1) := by decide +kernel
theorem dX8_rankedSpot_39 : decode cX8_rankedSpot 39 = .ok (.iinc 4 1, 3) := by decide +kernel
theorem dX8_rankedSpot_42 : decode cX8_rankedSpot 42 = .ok (.goto (-39), 3) := by decide +kernel
theorem dX8_rankedSpot_45 : decode cX8_rankedSpot 45 = .ok (.iconst (-1), 1) := by decide +kernel
theorem dX8_rankedSpot_46 : decode cX8_rankedSpot 46 = .ok (.ireturn, 1) := by decide +kernel
abbrev cX8_differs : ByteArray := prog_10_method_21_code
def yX8_differs : MethodName := ⟨RX8, "differs", "(LTreequery$Tree;I)Z"⟩
theorem dX8_differs_0 : decode cX8_differs 0 = .ok (.aload_n 0, 1) := by decide +kernel
theorem dX8_differs_1 : decode cX8_differs 1 = .ok (.getfield 12, 3) := by decide +kernel
theorem dX8_differs_4 : decode cX8_differs 4 = .ok (.iload_n 2, 1) := by decide +kernel
theorem dX8_differs_5 : decode cX8_differs 5 = .ok (.invokevirtual 160, 3) := by decide +kernel
theorem dX8_differs_8 : decode cX8_differs 8 = .ok (.aload_n 1, 1) := by decide +kernel
theorem dX8_differs_9 : decode cX8_differs 9 = .ok (.getfield 12, 3) := by decide +kernel
theorem dX8_differs_12 : decode cX8_differs 12 = .ok (.iload_n 2, 1) := by decide +kernel
theorem dX8_differs_13 : decode cX8_differs 13 = .ok (.invokevirtual 160, 3) := by decide +kernel
theorem dX8_differs_16 : decode cX8_differs 16 = .ok (.if_icmp .eq 5, 3) := by decide +kernel
theorem dX8_differs_19 : decode cX8_differs 19 = .ok (.iconst 1, 1) := by decide +kernel
theorem dX8_differs_20 : decode cX8_differs 20 = .ok (.ireturn, 1) := by decide +kernel
theorem dX8_differs_21 : decode cX8_differs 21 = .ok (.aload_n 0, 1) := by decide +kernel
theorem dX8_differs_22 : decode cX8_differs 22 = .ok (.getfield 12, 3) := by decide +kernel
theorem dX8_differs_25 : decode cX8_differs 25 = .ok (.iload_n 2, 1) := by decide +kernel
theorem dX8_differs_26 : decode cX8_differs 26 = .ok (.invokevirtual 160, 3) := by decide +kernel
theorem dX8_differs_29 : decode cX8_differs 29 = .ok (.ifCond .ne 5, 3) := by decide +kernel
theorem dX8_differs_32 : decode cX8_differs 32 = .ok (.iconst 0, 1) := by decide +kernel
theorem dX8_differs_33 : decode cX8_differs 33 = .ok (.ireturn, 1) := by decide +kernel
theorem dX8_differs_34 : decode cX8_differs 34 = .ok (.aload_n 0, 1) := by decide +kernel
theorem dX8_differs_35 : decode cX8_differs 35 = .ok (.getfield 36, 3) := by decide +kernel
theorem dX8_differs_38 : decode cX8_differs 38 = .ok (.iload_n 2, 1) := by decide +kernel
theorem dX8_differs_39 : decode cX8_differs 39 = .ok (.invokevirtual 58, 3) := by decide +kernel
theorem dX8_differs_42 : decode cX8_differs 42 = .ok (.aload_n 1, 1) := by decide +kernel
theorem dX8_differs_43 : decode cX8_differs 43 = .ok (.getfield 36, 3) := by decide +kernel
theorem dX8_differs_46 : decode cX8_differs 46 = .ok (.iload_n 2, 1) := by decide +kernel
theorem dX8_differs_47 : decode cX8_differs 47 = .ok (.invokevirtual 58, 3) := by decide +kernel
theorem dX8_differs_50 : decode cX8_differs 50 = .ok (.if_icmp .ne 60, 3) := by decide +kernel
theorem dX8_differs_53 : decode cX8_differs 53 = .ok (.aload_n 0, 1) := by decide +kernel
theorem dX8_differs_54 : decode cX8_differs 54 = .ok (.getfield 27, 3) := by decide +kernel
theorem dX8_differs_57 : decode cX8_differs 57 = .ok (.iload_n 2, 1) := by decide +kernel
theorem dX8_differs_58 : decode cX8_differs 58 = .ok (.invokevirtual 58, 3) := by decide +kernel
theorem dX8_differs_61 : decode cX8_differs 61 = .ok (.aload_n 1, 1) := by decide +kernel
theorem dX8_differs_62 : decode cX8_differs 62 = .ok (.getfield 27, 3) := by decide +kernel
theorem dX8_differs_65 : decode cX8_differs 65 = .ok (.iload_n 2, 1) := by decide +kernel
theorem dX8_differs_66 : decode cX8_differs 66 = .ok (.invokevirtual 58, 3) := by decide +kernel
theorem dX8_differs_69 : decode cX8_differs 69 = .ok (.if_icmp .ne 41, 3) := by decide +kernel
theorem dX8_differs_72 : decode cX8_differs 72 = .ok (.aload_n 0, 1) := by decide +kernel
theorem dX8_differs_73 : decode cX8_differs 73 = .ok (.getfield 30, 3) := by decide +kernel
theorem dX8_differs_76 : decode cX8_differs 76 = .ok (.iload_n 2, 1) := by decide +kernel
theorem dX8_differs_77 : decode cX8_differs 77 = .ok (.invokevirtual 58, 3) := by decide +kernel
theorem dX8_differs_80 : decode cX8_differs 80 = .ok (.aload_n 1, 1) := by decide +kernel
theorem dX8_differs_81 : decode cX8_differs 81 = .ok (.getfield 30, 3) := by decide +kernel
theorem dX8_differs_84 : decode cX8_differs 84 = .ok (.iload_n 2, 1) := by decide +kernel
theorem dX8_differs_85 : decode cX8_differs 85 = .ok (.invokevirtual 58, 3) := by decide +kernel
theorem dX8_differs_88 : decode cX8_differs 88 = .ok (.if_icmp .ne 22, 3) := by decide +kernel
theorem dX8_differs_91 : decode cX8_differs 91 = .ok (.aload_n 0, 1) := by decide +kernel
theorem dX8_differs_92 : decode cX8_differs 92 = .ok (.getfield 33, 3) := by decide +kernel
theorem dX8_differs_95 : decode cX8_differs 95 = .ok (.iload_n 2, 1) := by decide +kernel
theorem dX8_differs_96 : decode cX8_differs 96 = .ok (.invokevirtual 58, 3) := by decide +kernel
theorem dX8_differs_99 : decode cX8_differs 99 = .ok (.aload_n 1, 1) := by decide +kernel
theorem dX8_differs_100 : decode cX8_differs 100 = .ok (.getfield 33, 3) := by decide +kernel
theorem dX8_differs_103 : decode cX8_differs 103 = .ok (.iload_n 2, 1) := by decide +kernel
theorem dX8_differs_104 : decode cX8_differs 104 = .ok (.invokevirtual 58, 3) := by decide +kernel
theorem dX8_differs_107 : decode cX8_differs 107 = .ok (.if_icmp .eq 7, 3) := by decide +kernel
theorem dX8_differs_110 : decode cX8_differs 110 = .ok (.iconst 1, 1) := by decide +kernel
theorem dX8_differs_111 : decode cX8_differs 111 = .ok (.goto 4, 3) := by decide +kernel
theorem dX8_differs_114 : decode cX8_differs 114 = .ok (.iconst 0, 1) := by decide +kernel
theorem dX8_differs_115 : decode cX8_differs 115 = .ok (.ireturn, 1) := by decide +kernel
abbrev cX9_init : ByteArray := prog_11_method_1_code
def yX9_init : MethodName := ⟨RX9, "<init>", "()V"⟩
theorem dX9_init_0 : decode cX9_init 0 = .ok (.aload_n 0, 1) := by decide +kernel
theorem dX9_init_1 : decode cX9_init 1 = .ok (.invokespecial 3, 3) := by decide +kernel
theorem dX9_init_4 : decode cX9_init 4 = .ok (.aload_n 0, 1) := by decide +kernel
theorem dX9_init_5 : decode cX9_init 5 = .ok (.new 9, 3) := by decide +kernel
theorem dX9_init_8 : decode cX9_init 8 = .ok (.dup, 1) := by decide +kernel
theorem dX9_init_9 : decode cX9_init 9 = .ok (.bipush 20, 2) := by decide +kernel
theorem dX9_init_11 : decode cX9_init 11 = .ok (.iconst (-1), 1) := by decide +kernel
theorem dX9_init_12 : decode cX9_init 12 = .ok (.invokespecial 11, 3) := by decide +kernel
theorem dX9_init_15 : decode cX9_init 15 = .ok (.putfield 14, 3) := by decide +kernel
theorem dX9_init_18 : decode cX9_init 18 = .ok (.aload_n 0, 1) := by decide +kernel
theorem dX9_init_19 : decode cX9_init 19 = .ok (.new 9, 3) := by decide +kernel
theorem dX9_init_22 : decode cX9_init 22 = .ok (.dup, 1) := by decide +kernel
theorem dX9_init_23 : decode cX9_init 23 = .ok (.bipush 20, 2) := by decide +kernel
theorem dX9_init_25 : decode cX9_init 25 = .ok (.iconst (-1), 1) := by decide +kernel
theorem dX9_init_26 : decode cX9_init 26 = .ok (.invokespecial 11, 3) := by decide +kernel
theorem dX9_init_29 : decode cX9_init 29 = .ok (.putfield 20, 3) := by decide +kernel
theorem dX9_init_32 : decode cX9_init 32 = .ok (.aload_n 0, 1) := by decide +kernel
theorem dX9_init_33 : decode cX9_init 33 = .ok (.new 9, 3) := by decide +kernel
theorem dX9_init_36 : decode cX9_init 36 = .ok (.dup, 1) := by decide +kernel
theorem dX9_init_37 : decode cX9_init 37 = .ok (.bipush 20, 2) := by decide +kernel
theorem dX9_init_39 : decode cX9_init 39 = .ok (.iconst (-1), 1) := by decide +kernel
theorem dX9_init_40 : decode cX9_init 40 = .ok (.invokespecial 11, 3) := by decide +kernel
theorem dX9_init_43 : decode cX9_init 43 = .ok (.putfield 23, 3) := by decide +kernel
theorem dX9_init_46 : decode cX9_init 46 = .ok (.aload_n 0, 1) := by decide +kernel
theorem dX9_init_47 : decode cX9_init 47 = .ok (.new 9, 3) := by decide +kernel
theorem dX9_init_50 : decode cX9_init 50 = .ok (.dup, 1) := by decide +kernel
theorem dX9_init_51 : decode cX9_init 51 = .ok (.bipush 20, 2) := by decide +kernel
theorem dX9_init_53 : decode cX9_init 53 = .ok (.iconst (-1), 1) := by decide +kernel
theorem dX9_init_54 : decode cX9_init 54 = .ok (.invokespecial 11, 3) := by decide +kernel
theorem dX9_init_57 : decode cX9_init 57 = .ok (.putfield 26, 3) := by decide +kernel
theorem dX9_init_60 : decode cX9_init 60 = .ok (.aload_n 0, 1) := by decide +kernel
theorem dX9_init_61 : decode cX9_init 61 = .ok (.new 9, 3) := by decide +kernel
theorem dX9_init_64 : decode cX9_init 64 = .ok (.dup, 1) := by decide +kernel
theorem dX9_init_65 : decode cX9_init 65 = .ok (.bipush 20, 2) := by decide +kernel
theorem dX9_init_67 : decode cX9_init 67 = .ok (.iconst (-1), 1) := by decide +kernel
theorem dX9_init_68 : decode cX9_init 68 = .ok (.invokespecial 11, 3) := by decide +kernel
theorem dX9_init_71 : decode cX9_init 71 = .ok (.putfield 29, 3) := by decide +kernel
theorem dX9_init_74 : decode cX9_init 74 = .ok (.aload_n 0, 1) := by decide +kernel
theorem dX9_init_75 : decode cX9_init 75 = .ok (.new 9, 3) := by decide +kernel
theorem dX9_init_78 : decode cX9_init 78 = .ok (.dup, 1) := by decide +kernel
theorem dX9_init_79 : decode cX9_init 79 = .ok (.bipush 20, 2) := by decide +kernel
theorem dX9_init_81 : decode cX9_init 81 = .ok (.iconst (-1), 1) := by decide +kernel
theorem dX9_init_82 : decode cX9_init 82 = .ok (.invokespecial 11, 3) := by decide +kernel
theorem dX9_init_85 : decode cX9_init 85 = .ok (.putfield 32, 3) := by decide +kernel
theorem dX9_init_88 : decode cX9_init 88 = .ok (.aload_n 0, 1) := by decide +kernel
theorem dX9_init_89 : decode cX9_init 89 = .ok (.new 9, 3) := by decide +kernel
theorem dX9_init_92 : decode cX9_init 92 = .ok (.dup, 1) := by decide +kernel
theorem dX9_init_93 : decode cX9_init 93 = .ok (.bipush 20, 2) := by decide +kernel
theorem dX9_init_95 : decode cX9_init 95 = .ok (.iconst (-1), 1) := by decide +kernel
theorem dX9_init_96 : decode cX9_init 96 = .ok (.invokespecial 11, 3) := by decide +kernel
theorem dX9_init_99 : decode cX9_init 99 = .ok (.putfield 35, 3) := by decide +kernel
theorem dX9_init_102 : decode cX9_init 102 = .ok (.aload_n 0, 1) := by decide +kernel
theorem dX9_init_103 : decode cX9_init 103 = .ok (.new 9, 3) := by decide +kernel
theorem dX9_init_106 : decode cX9_init 106 = .ok (.dup, 1) := by decide +kernel
theorem dX9_init_107 : decode cX9_init 107 = .ok (.bipush 20, 2) := by decide +kernel
theorem dX9_init_109 : decode cX9_init 109 = .ok (.iconst (-1), 1) := by decide +kernel
theorem dX9_init_110 : decode cX9_init 110 = .ok (.invokespecial 11, 3) := by decide +kernel
theorem dX9_init_113 : decode cX9_init 113 = .ok (.putfield 38, 3) := by decide +kernel
theorem dX9_init_116 : decode cX9_init 116 = .ok (.aload_n 0, 1) := by decide +kernel
theorem dX9_init_117 : decode cX9_init 117 = .ok (.lconst 0, 1) := by decide +kernel
theorem dX9_init_118 : decode cX9_init 118 = .ok (.putfield 41, 3) := by decide +kernel
theorem dX9_init_121 : decode cX9_init 121 = .ok (.aload_n 0, 1) := by decide +kernel
theorem dX9_init_122 : decode cX9_init 122 = .ok (.lconst 0, 1) := by decide +kernel
theorem dX9_init_123 : decode cX9_init 123 = .ok (.putfield 45, 3) := by decide +kernel
theorem dX9_init_126 : decode cX9_init 126 = .ok (.aload_n 0, 1) := by decide +kernel
theorem dX9_init_127 : decode cX9_init 127 = .ok (.lconst 0, 1) := by decide +kernel
theorem dX9_init_128 : decode cX9_init 128 = .ok (.putfield 48, 3) := by decide +kernel
theorem dX9_init_131 : decode cX9_init 131 = .ok (.aload_n 0, 1) := by decide +kernel
theorem dX9_init_132 : decode cX9_init 132 = .ok (.iconst 0, 1) := by decide +kernel
theorem dX9_init_133 : decode cX9_init 133 = .ok (.putfield 51, 3) := by decide +kernel
theorem dX9_init_136 : decode cX9_init 136 = .ok (.return_, 1) := by decide +kernel
abbrev cX9_count : ByteArray := prog_11_method_2_code
def yX9_count : MethodName := ⟨RX9, "count", "()I"⟩
theorem dX9_count_0 : decode cX9_count 0 = .ok (.aload_n 0, 1) := by decide +kernel
theorem dX9_count_1 : decode cX9_count 1 = .ok (.getfield 51, 3) := by decide +kernel
theorem dX9_count_4 : decode cX9_count 4 = .ok (.ireturn, 1) := by decide +kernel
abbrev cX9_fresh : ByteArray := prog_11_method_3_code
def yX9_fresh : MethodName := ⟨RX9, "fresh", "()J"⟩
theorem dX9_fresh_0 : decode cX9_fresh 0 = .ok (.aload_n 0, 1) := by decide +kernel
theorem dX9_fresh_1 : decode cX9_fresh 1 = .ok (.getfield 41, 3) := by decide +kernel
theorem dX9_fresh_4 : decode cX9_fresh 4 = .ok (.lreturn, 1) := by decide +kernel
abbrev cX9_empty : ByteArray := prog_11_method_4_code
def yX9_empty : MethodName := ⟨RX9, "empty", "()I"⟩
theorem dX9_empty_0 : decode cX9_empty 0 = .ok (.aload_n 0, 1) := by decide +kernel
theorem dX9_empty_1 : decode cX9_empty 1 = .ok (.getfield 51, 3) := by decide +kernel
theorem dX9_empty_4 : decode cX9_empty 4 = .ok (.istore_n 1, 1) := by decide +kernel
theorem dX9_empty_5 : decode cX9_empty 5 = .ok (.aload_n 0, 1) := by decide +kernel
theorem dX9_empty_6 : decode cX9_empty 6 = .ok (.iconst 0, 1) := by decide +kernel
theorem dX9_empty_7 : decode cX9_empty 7 = .ok (.putfield 51, 3) := by decide +kernel
theorem dX9_empty_10 : decode cX9_empty 10 = .ok (.iload_n 1, 1) := by decide +kernel
theorem dX9_empty_11 : decode cX9_empty 11 = .ok (.ireturn, 1) := by decide +kernel
abbrev cX9_add : ByteArray := prog_11_method_8_code
def yX9_add : MethodName := ⟨RX9, "add", "(IIII)I"⟩
theorem dX9_add_0 : decode cX9_add 0 = .ok (.aload_n 0, 1) := by decide +kernel
theorem dX9_add_1 : decode cX9_add 1 = .ok (.getfield 14, 3) := by decide +kernel
theorem dX9_add_4 : decode cX9_add 4 = .ok (.aload_n 0, 1) := by decide +kernel
theorem dX9_add_5 : decode cX9_add 5 = .ok (.getfield 51, 3) := by decide +kernel
theorem dX9_add_8 : decode cX9_add 8 = .ok (.iload_n 1, 1) := by decide +kernel
theorem dX9_add_9 : decode cX9_add 9 = .ok (.invokevirtual 55, 3) := by decide +kernel
theorem dX9_add_12 : decode cX9_add 12 = .ok (.aload_n 0, 1) := by decide +kernel
theorem dX9_add_13 : decode cX9_add 13 = .ok (.getfield 20, 3) := by decide +kernel
theorem dX9_add_16 : decode cX9_add 16 = .ok (.aload_n 0, 1) := by decide +kernel
theorem dX9_add_17 : decode cX9_add 17 = .ok (.getfield 51, 3) := by decide +kernel
theorem dX9_add_20 : decode cX9_add 20 = .ok (.iload_n 2, 1) := by decide +kernel
theorem dX9_add_21 : decode cX9_add 21 = .ok (.invokevirtual 55, 3) := by decide +kernel
theorem dX9_add_24 : decode cX9_add 24 = .ok (.aload_n 0, 1) := by decide +kernel
theorem dX9_add_25 : decode cX9_add 25 = .ok (.getfield 23, 3) := by decide +kernel
theorem dX9_add_28 : decode cX9_add 28 = .ok (.aload_n 0, 1) := by decide +kernel
theorem dX9_add_29 : decode cX9_add 29 = .ok (.getfield 51, 3) := by decide +kernel
theorem dX9_add_32 : decode cX9_add 32 = .ok (.iload_n 3, 1) := by decide +kernel
theorem dX9_add_33 : decode cX9_add 33 = .ok (.invokevirtual 55, 3) := by decide +kernel
theorem dX9_add_36 : decode cX9_add 36 = .ok (.aload_n 0, 1) := by decide +kernel
theorem dX9_add_37 : decode cX9_add 37 = .ok (.getfield 26, 3) := by decide +kernel
theorem dX9_add_40 : decode cX9_add 40 = .ok (.aload_n 0, 1) := by decide +kernel
theorem dX9_add_41 : decode cX9_add 41 = .ok (.getfield 51, 3) := by decide +kernel
theorem dX9_add_44 : decode cX9_add 44 = .ok (.iload 4, 2) := by decide +kernel
theorem dX9_add_46 : decode cX9_add 46 = .ok (.invokevirtual 55, 3) := by decide +kernel
theorem dX9_add_49 : decode cX9_add 49 = .ok (.aload_n 0, 1) := by decide +kernel
theorem dX9_add_50 : decode cX9_add 50 = .ok (.dup, 1) := by decide +kernel
theorem dX9_add_51 : decode cX9_add 51 = .ok (.getfield 51, 3) := by decide +kernel
theorem dX9_add_54 : decode cX9_add 54 = .ok (.iconst 1, 1) := by decide +kernel
theorem dX9_add_55 : decode cX9_add 55 = .ok (.iadd, 1) := by decide +kernel
theorem dX9_add_56 : decode cX9_add 56 = .ok (.putfield 51, 3) := by decide +kernel
theorem dX9_add_59 : decode cX9_add 59 = .ok (.aload_n 0, 1) := by decide +kernel
theorem dX9_add_60 : decode cX9_add 60 = .ok (.getfield 51, 3) := by decide +kernel
theorem dX9_add_63 : decode cX9_add 63 = .ok (.ireturn, 1) := by decide +kernel
abbrev cX9_addInsert : ByteArray := prog_11_method_5_code
def yX9_addInsert : MethodName := ⟨RX9, "addInsert", "(IIIII)I"⟩
theorem dX9_addInsert_0 : decode cX9_addInsert 0 = .ok (.aload_n 0, 1) := by decide +kernel
theorem dX9_addInsert_1 : decode cX9_addInsert 1 = .ok (.getfield 29, 3) := by decide +kernel
theorem dX9_addInsert_4 : decode cX9_addInsert 4 = .ok (.aload_n 0, 1) := by decide +kernel
theorem dX9_addInsert_5 : decode cX9_addInsert 5 = .ok (.getfield 51, 3) := by decide +kernel
theorem dX9_addInsert_8 : decode cX9_addInsert 8 = .ok (.iload_n 1, 1) := by decide +kernel
theorem dX9_addInsert_9 : decode cX9_addInsert 9 = .ok (.invokevirtual 55, 3) := by decide +kernel
theorem dX9_addInsert_12 : decode cX9_addInsert 12 = .ok (.aload_n 0, 1) := by decide +kernel
theorem dX9_addInsert_13 : decode cX9_addInsert 13 = .ok (.getfield 32, 3) := by decide +kernel
theorem dX9_addInsert_16 : decode cX9_addInsert 16 = .ok (.aload_n 0, 1) := by decide +kernel
theorem dX9_addInsert_17 : decode cX9_addInsert 17 = .ok (.getfield 51, 3) := by decide +kernel
theorem dX9_addInsert_20 : decode cX9_addInsert 20 = .ok (.iload 4, 2) := by decide +kernel
theorem dX9_addInsert_22 : decode cX9_addInsert 22 = .ok (.invokevirtual 55, 3) := by decide +kernel
theorem dX9_addInsert_25 : decode cX9_addInsert 25 = .ok (.aload_n 0, 1) := by decide +kernel
theorem dX9_addInsert_26 : decode cX9_addInsert 26 = .ok (.getfield 35, 3) := by decide +kernel
theorem dX9_addInsert_29 : decode cX9_addInsert 29 = .ok (.aload_n 0, 1) := by decide +kernel
theorem dX9_addInsert_30 : decode cX9_addInsert 30 = .ok (.getfield 51, 3) := by decide +kernel
theorem dX9_addInsert_33 : decode cX9_addInsert 33 = .ok (.iload 5, 2) := by decide +kernel
theorem dX9_addInsert_35 : decode cX9_addInsert 35 = .ok (.invokevirtual 55, 3) := by decide +kernel
theorem dX9_addInsert_38 : decode cX9_addInsert 38 = .ok (.aload_n 0, 1) := by decide +kernel
theorem dX9_addInsert_39 : decode cX9_addInsert 39 = .ok (.iconst 0, 1) := by decide +kernel
theorem dX9_addInsert_40 : decode cX9_addInsert 40 = .ok (.iconst (-1), 1) := by decide +kernel
theorem dX9_addInsert_41 : decode cX9_addInsert 41 = .ok (.iload_n 2, 1) := by decide +kernel
theorem dX9_addInsert_42 : decode cX9_addInsert 42 = .ok (.iload_n 3, 1) := by decide +kernel
theorem dX9_addInsert_43 : decode cX9_addInsert 43 = .ok (.invokevirtual 58, 3) := by decide +kernel
theorem dX9_addInsert_46 : decode cX9_addInsert 46 = .ok (.ireturn, 1) := by decide +kernel
abbrev cX9_addMove : ByteArray := prog_11_method_6_code
def yX9_addMove : MethodName := ⟨RX9, "addMove", "(III)I"⟩
theorem dX9_addMove_0 : decode cX9_addMove 0 = .ok (.aload_n 0, 1) := by decide +kernel
theorem dX9_addMove_1 : decode cX9_addMove 1 = .ok (.iconst 4, 1) := by decide +kernel
theorem dX9_addMove_2 : decode cX9_addMove 2 = .ok (.iload_n 1, 1) := by decide +kernel
theorem dX9_addMove_3 : decode cX9_addMove 3 = .ok (.iload_n 2, 1) := by decide +kernel
theorem dX9_addMove_4 : decode cX9_addMove 4 = .ok (.iload_n 3, 1) := by decide +kernel
theorem dX9_addMove_5 : decode cX9_addMove 5 = .ok (.invokevirtual 58, 3) := by decide +kernel
theorem dX9_addMove_8 : decode cX9_addMove 8 = .ok (.ireturn, 1) := by decide +kernel
abbrev cX9_addChange : ByteArray := prog_11_method_7_code
def yX9_addChange : MethodName := ⟨RX9, "addChange", "(III)I"⟩
theorem dX9_addChange_0 : decode cX9_addChange 0 = .ok (.aload_n 0, 1) := by decide +kernel
theorem dX9_addChange_1 : decode cX9_addChange 1 = .ok (.getfield 35, 3) := by decide +kernel
theorem dX9_addChange_4 : decode cX9_addChange 4 = .ok (.aload_n 0, 1) := by decide +kernel
theorem dX9_addChange_5 : decode cX9_addChange 5 = .ok (.getfield 51, 3) := by decide +kernel
theorem dX9_addChange_8 : decode cX9_addChange 8 = .ok (.iload_n 3, 1) := by decide +kernel
theorem dX9_addChange_9 : decode cX9_addChange 9 = .ok (.invokevirtual 55, 3) := by decide +kernel
theorem dX9_addChange_12 : decode cX9_addChange 12 = .ok (.aload_n 0, 1) := by decide +kernel
theorem dX9_addChange_13 : decode cX9_addChange 13 = .ok (.iload_n 1, 1) := by decide +kernel
theorem dX9_addChange_14 : decode cX9_addChange 14 = .ok (.iload_n 2, 1) := by decide +kernel
theorem dX9_addChange_15 : decode cX9_addChange 15 = .ok (.iconst (-1), 1) := by decide +kernel
theorem dX9_addChange_16 : decode cX9_addChange 16 = .ok (.iconst (-1), 1) := by decide +kernel
theorem dX9_addChange_17 : decode cX9_addChange 17 = .ok (.invokevirtual 58, 3) := by decide +kernel
theorem dX9_addChange_20 : decode cX9_addChange 20 = .ok (.ireturn, 1) := by decide +kernel
abbrev cX9_isStale : ByteArray := prog_11_method_10_code
def yX9_isStale : MethodName := ⟨RX9, "isStale", "(LTreequery$Tree;I)Z"⟩
theorem dX9_isStale_0 : decode cX9_isStale 0 = .ok (.aload_n 0, 1) := by decide +kernel
theorem dX9_isStale_1 : decode cX9_isStale 1 = .ok (.getfield 20, 3) := by decide +kernel
theorem dX9_isStale_4 : decode cX9_isStale 4 = .ok (.iload_n 2, 1) := by decide +kernel
theorem dX9_isStale_5 : decode cX9_isStale 5 = .ok (.invokevirtual 70, 3) := by decide +kernel
theorem dX9_isStale_8 : decode cX9_isStale 8 = .ok (.istore_n 3, 1) := by decide +kernel
theorem dX9_isStale_9 : decode cX9_isStale 9 = .ok (.aload_n 0, 1) := by decide +kernel
theorem dX9_isStale_10 : decode cX9_isStale 10 = .ok (.getfield 23, 3) := by decide +kernel
theorem dX9_isStale_13 : decode cX9_isStale 13 = .ok (.iload_n 2, 1) := by decide +kernel
theorem dX9_isStale_14 : decode cX9_isStale 14 = .ok (.invokevirtual 70, 3) := by decide +kernel
theorem dX9_isStale_17 : decode cX9_isStale 17 = .ok (.istore 4, 2) := by decide +kernel
theorem dX9_isStale_19 : decode cX9_isStale 19 = .ok (.iload_n 3, 1) := by decide +kernel
theorem dX9_isStale_20 : decode cX9_isStale 20 = .ok (.iconst (-1), 1) := by decide +kernel
theorem dX9_isStale_21 : decode cX9_isStale 21 = .ok (.if_icmp .eq 16, 3) := by decide +kernel
theorem dX9_isStale_24 : decode cX9_isStale 24 = .ok (.aload_n 1, 1) := by decide +kernel
theorem dX9_isStale_25 : decode cX9_isStale 25 = .ok (.getfield 80, 3) := by decide +kernel
theorem dX9_isStale_28 : decode cX9_isStale 28 = .ok (.iload_n 3, 1) := by decide +kernel
theorem dX9_isStale_29 : decode cX9_isStale 29 = .ok (.invokevirtual 84, 3) := by decide +kernel
theorem dX9_isStale_32 : decode cX9_isStale 32 = .ok (.ifCond .ne 5, 3) := by decide +kernel
theorem dX9_isStale_35 : decode cX9_isStale 35 = .ok (.iconst 1, 1) := by decide +kernel
theorem dX9_isStale_36 : decode cX9_isStale 36 = .ok (.ireturn, 1) := by decide +kernel
theorem dX9_isStale_37 : decode cX9_isStale 37 = .ok (.iload 4, 2) := by decide +kernel
theorem dX9_isStale_39 : decode cX9_isStale 39 = .ok (.iconst (-1), 1) := by decide +kernel
theorem dX9_isStale_40 : decode cX9_isStale 40 = .ok (.if_icmp .ne 5, 3) := by decide +kernel
theorem dX9_isStale_43 : decode cX9_isStale 43 = .ok (.iconst 0, 1) := by decide +kernel
theorem dX9_isStale_44 : decode cX9_isStale 44 = .ok (.ireturn, 1) := by decide +kernel
theorem dX9_isStale_45 : decode cX9_isStale 45 = .ok (.aload_n 1, 1) := by decide +kernel
theorem dX9_isStale_46 : decode cX9_isStale 46 = .ok (.getfield 80, 3) := by decide +kernel
theorem dX9_isStale_49 : decode cX9_isStale 49 = .ok (.iload 4, 2) := by decide +kernel
theorem dX9_isStale_51 : decode cX9_isStale 51 = .ok (.invokevirtual 84, 3) := by decide +kernel
theorem dX9_isStale_54 : decode cX9_isStale 54 = .ok (.ifCond .eq 23, 3) := by decide +kernel
theorem dX9_isStale_57 : decode cX9_isStale 57 = .ok (.aload_n 0, 1) := by decide +kernel
theorem dX9_isStale_58 : decode cX9_isStale 58 = .ok (.getfield 26, 3) := by decide +kernel
theorem dX9_isStale_61 : decode cX9_isStale 61 = .ok (.iload_n 2, 1) := by decide +kernel
theorem dX9_isStale_62 : decode cX9_isStale 62 = .ok (.invokevirtual 70, 3) := by decide +kernel
theorem dX9_isStale_65 : decode cX9_isStale 65 = .ok (.aload_n 1, 1) := by decide +kernel
theorem dX9_isStale_66 : decode cX9_isStale 66 = .ok (.getfield 80, 3) := by decide +kernel
theorem dX9_isStale_69 : decode cX9_isStale 69 = .ok (.iload 4, 2) := by decide +kernel
theorem dX9_isStale_71 : decode cX9_isStale 71 = .ok (.invokevirtual 89, 3) := by decide +kernel
theorem dX9_isStale_74 : decode cX9_isStale 74 = .ok (.if_icmp .le 7, 3) := by decide +kernel
theorem dX9_isStale_77 : decode cX9_isStale 77 = .ok (.iconst 1, 1) := by decide +kernel
theorem dX9_isStale_78 : decode cX9_isStale 78 = .ok (.goto 4, 3) := by decide +kernel
theorem dX9_isStale_81 : decode cX9_isStale 81 = .ok (.iconst 0, 1) := by decide +kernel
theorem dX9_isStale_82 : decode cX9_isStale 82 = .ok (.ireturn, 1) := by decide +kernel
abbrev cX9_doClash : ByteArray := prog_11_method_12_code
def yX9_doClash : MethodName := ⟨RX9, "doClash", "(II)Z"⟩
theorem dX9_doClash_0 : decode cX9_doClash 0 = .ok (.iload_n 0, 1) := by decide +kernel
theorem dX9_doClash_1 : decode cX9_doClash 1 = .ok (.iload_n 1, 1) := by decide +kernel
theorem dX9_doClash_2 : decode cX9_doClash 2 = .ok (.if_icmp .ne 14, 3) := by decide +kernel
theorem dX9_doClash_5 : decode cX9_doClash 5 = .ok (.iload_n 0, 1) := by decide +kernel
theorem dX9_doClash_6 : decode cX9_doClash 6 = .ok (.iconst 1, 1) := by decide +kernel
theorem dX9_doClash_7 : decode cX9_doClash 7 = .ok (.if_icmp .eq 7, 3) := by decide +kernel
theorem dX9_doClash_10 : decode cX9_doClash 10 = .ok (.iconst 1, 1) := by decide +kernel
theorem dX9_doClash_11 : decode cX9_doClash 11 = .ok (.goto 4, 3) := by decide +kernel
theorem dX9_doClash_14 : decode cX9_doClash 14 = .ok (.iconst 0, 1) := by decide +kernel
theorem dX9_doClash_15 : decode cX9_doClash 15 = .ok (.ireturn, 1) := by decide +kernel
theorem dX9_doClash_16 : decode cX9_doClash 16 = .ok (.iload_n 0, 1) := by decide +kernel
theorem dX9_doClash_17 : decode cX9_doClash 17 = .ok (.iconst 4, 1) := by decide +kernel
theorem dX9_doClash_18 : decode cX9_doClash 18 = .ok (.if_icmp .ne 8, 3) := by decide +kernel
theorem dX9_doClash_21 : decode cX9_doClash 21 = .ok (.iload_n 1, 1) := by decide +kernel
theorem dX9_doClash_22 : decode cX9_doClash 22 = .ok (.iconst 1, 1) := by decide +kernel
theorem dX9_doClash_23 : decode cX9_doClash 23 = .ok (.if_icmp .eq 13, 3) := by decide +kernel
theorem dX9_doClash_26 : decode cX9_doClash 26 = .ok (.iload_n 0, 1) := by decide +kernel
theorem dX9_doClash_27 : decode cX9_doClash 27 = .ok (.iconst 1, 1) := by decide +kernel
theorem dX9_doClash_28 : decode cX9_doClash 28 = .ok (.if_icmp .ne 12, 3) := by decide +kernel
theorem dX9_doClash_31 : decode cX9_doClash 31 = .ok (.iload_n 1, 1) := by decide +kernel
theorem dX9_doClash_32 : decode cX9_doClash 32 = .ok (.iconst 4, 1) := by decide +kernel
theorem dX9_doClash_33 : decode cX9_doClash 33 = .ok (.if_icmp .ne 7, 3) := by decide +kernel
theorem dX9_doClash_36 : decode cX9_doClash 36 = .ok (.iconst 1, 1) := by decide +kernel
theorem dX9_doClash_37 : decode cX9_doClash 37 = .ok (.goto 4, 3) := by decide +kernel
theorem dX9_doClash_40 : decode cX9_doClash 40 = .ok (.iconst 0, 1) := by decide +kernel
theorem dX9_doClash_41 : decode cX9_doClash 41 = .ok (.ireturn, 1) := by decide +kernel
abbrev cX9_hasClash : ByteArray := prog_11_method_11_code
def yX9_hasClash : MethodName := ⟨RX9, "hasClash", "(I)Z"⟩
theorem dX9_hasClash_0 : decode cX9_hasClash 0 = .ok (.iconst 0, 1) := by decide +kernel
theorem dX9_hasClash_1 : decode cX9_hasClash 1 = .ok (.istore_n 2, 1) := by decide +kernel
theorem dX9_hasClash_2 : decode cX9_hasClash 2 = .ok (.iload_n 2, 1) := by decide +kernel
theorem dX9_hasClash_3 : decode cX9_hasClash 3 = .ok (.iload_n 1, 1) := by decide +kernel
theorem dX9_hasClash_4 : decode cX9_hasClash 4 = .ok (.if_icmp .ge 64, 3) := by decide +kernel
theorem dX9_hasClash_7 : decode cX9_hasClash 7 = .ok (.aload_n 0, 1) := by decide +kernel
theorem dX9_hasClash_8 : decode cX9_hasClash 8 = .ok (.getfield 20, 3) := by decide +kernel
theorem dX9_hasClash_11 : decode cX9_hasClash 11 = .ok (.iload_n 1, 1) := by decide +kernel
theorem dX9_hasClash_12 : decode cX9_hasClash 12 = .ok (.invokevirtual 70, 3) := by decide +kernel
theorem dX9_hasClash_15 : decode cX9_hasClash 15 = .ok (.iconst (-1), 1) := by decide +kernel
theorem dX9_hasClash_16 : decode cX9_hasClash 16 = .ok (.if_icmp .eq 46, 3) := by decide +kernel
theorem dX9_hasClash_19 : decode cX9_hasClash 19 = .ok (.aload_n 0, 1) := by decide +kernel
theorem dX9_hasClash_20 : decode cX9_hasClash 20 = .ok (.getfield 20, 3) := by decide +kernel
theorem dX9_hasClash_23 : decode cX9_hasClash 23 = .ok (.iload_n 1, 1) := by decide +kernel
theorem dX9_hasClash_24 : decode cX9_hasClash 24 = .ok (.invokevirtual 70, 3) := by decide +kernel
theorem dX9_hasClash_27 : decode cX9_hasClash 27 = .ok (.aload_n 0, 1) := by decide +kernel
theorem dX9_hasClash_28 : decode cX9_hasClash 28 = .ok (.getfield 20, 3) := by decide +kernel
theorem dX9_hasClash_31 : decode cX9_hasClash 31 = .ok (.iload_n 2, 1) := by decide +kernel
theorem dX9_hasClash_32 : decode cX9_hasClash 32 = .ok (.invokevirtual 70, 3) := by decide +kernel
theorem dX9_hasClash_35 : decode cX9_hasClash 35 = .ok (.if_icmp .ne 27, 3) := by decide +kernel
theorem dX9_hasClash_38 : decode cX9_hasClash 38 = .ok (.aload_n 0, 1) := by decide +kernel
theorem dX9_hasClash_39 : decode cX9_hasClash 39 = .ok (.getfield 14, 3) := by decide +kernel
theorem dX9_hasClash_42 : decode cX9_hasClash 42 = .ok (.iload_n 1, 1) := by decide +kernel
theorem dX9_hasClash_43 : decode cX9_hasClash 43 = .ok (.invokevirtual 70, 3) := by decide +kernel
theorem dX9_hasClash_46 : decode cX9_hasClash 46 = .ok (.aload_n 0, 1) := by decide +kernel
theorem dX9_hasClash_47 : decode cX9_hasClash 47 = .ok (.getfield 14, 3) := by decide +kernel
theorem dX9_hasClash_50 : decode cX9_hasClash 50 = .ok (.iload_n 2, 1) := by decide +kernel
theorem dX9_hasClash_51 : decode cX9_hasClash 51 = .ok (.invokevirtual 70, 3) := by decide +kernel
theorem dX9_hasClash_54 : decode cX9_hasClash 54 = .ok (.invokestatic 92, 3) := by decide +kernel
theorem dX9_hasClash_57 : decode cX9_hasClash 57 = .ok (.ifCond .eq 5, 3) := by decide +kernel
theorem dX9_hasClash_60 : decode cX9_hasClash 60 = .ok (.iconst 1, 1) := by decide +kernel
theorem dX9_hasClash_61 : decode cX9_hasClash 61 = .ok (.ireturn, 1) := by decide +kernel
theorem dX9_hasClash_62 : decode cX9_hasClash 62 = .ok (.iinc 2 1, 3) := by decide +kernel
theorem dX9_hasClash_65 : decode cX9_hasClash 65 = .ok (.goto (-63), 3) := by decide +kernel
theorem dX9_hasClash_68 : decode cX9_hasClash 68 = .ok (.iconst 0, 1) := by decide +kernel
theorem dX9_hasClash_69 : decode cX9_hasClash 69 = .ok (.ireturn, 1) := by decide +kernel
abbrev cX9_canBeDone : ByteArray := prog_11_method_9_code
def yX9_canBeDone : MethodName := ⟨RX9, "canBeDone", "(LTreequery$Tree;)Z"⟩
theorem dX9_canBeDone_0 : decode cX9_canBeDone 0 = .ok (.iconst 0, 1) := by decide +kernel
theorem dX9_canBeDone_1 : decode cX9_canBeDone 1 = .ok (.istore_n 2, 1) := by decide +kernel
theorem dX9_canBeDone_2 : decode cX9_canBeDone 2 = .ok (.iconst 0, 1) := by decide +kernel
theorem dX9_canBeDone_3 : decode cX9_canBeDone 3 = .ok (.istore_n 3, 1) := by decide +kernel
theorem dX9_canBeDone_4 : decode cX9_canBeDone 4 = .ok (.iload_n 3, 1) := by decide +kernel
theorem dX9_canBeDone_5 : decode cX9_canBeDone 5 = .ok (.aload_n 0, 1) := by decide +kernel
theorem dX9_canBeDone_6 : decode cX9_canBeDone 6 = .ok (.getfield 51, 3) := by decide +kernel
theorem dX9_canBeDone_9 : decode cX9_canBeDone 9 = .ok (.if_icmp .ge 47, 3) := by decide +kernel
theorem dX9_canBeDone_12 : decode cX9_canBeDone 12 = .ok (.aload_n 0, 1) := by decide +kernel
theorem dX9_canBeDone_13 : decode cX9_canBeDone 13 = .ok (.aload_n 1, 1) := by decide +kernel
theorem dX9_canBeDone_14 : decode cX9_canBeDone 14 = .ok (.iload_n 3, 1) := by decide +kernel
theorem dX9_canBeDone_15 : decode cX9_canBeDone 15 = .ok (.invokevirtual 62, 3) := by decide +kernel
theorem dX9_canBeDone_18 : decode cX9_canBeDone 18 = .ok (.ifCond .ne 11, 3) := by decide +kernel
theorem dX9_canBeDone_21 : decode cX9_canBeDone 21 = .ok (.aload_n 0, 1) := by decide +kernel
theorem dX9_canBeDone_22 : decode cX9_canBeDone 22 = .ok (.iload_n 3, 1) := by decide +kernel
theorem dX9_canBeDone_23 : decode cX9_canBeDone 23 = .ok (.invokevirtual 66, 3) := by decide +kernel
theorem dX9_canBeDone_26 : decode cX9_canBeDone 26 = .ok (.ifCond .eq 5, 3) := by decide +kernel
theorem dX9_canBeDone_29 : decode cX9_canBeDone 29 = .ok (.iconst 0, 1) := by decide +kernel
theorem dX9_canBeDone_30 : decode cX9_canBeDone 30 = .ok (.ireturn, 1) := by decide +kernel
theorem dX9_canBeDone_31 : decode cX9_canBeDone 31 = .ok (.iload_n 2, 1) := by decide +kernel
theorem dX9_canBeDone_32 : decode cX9_canBeDone 32 = .ok (.aload_n 0, 1) := by decide +kernel
theorem dX9_canBeDone_33 : decode cX9_canBeDone 33 = .ok (.getfield 14, 3) := by decide +kernel
theorem dX9_canBeDone_36 : decode cX9_canBeDone 36 = .ok (.iload_n 3, 1) := by decide +kernel
theorem dX9_canBeDone_37 : decode cX9_canBeDone 37 = .ok (.invokevirtual 70, 3) := by decide +kernel
theorem dX9_canBeDone_40 : decode cX9_canBeDone 40 = .ok (.ifCond .ne 7, 3) := by decide +kernel
theorem dX9_canBeDone_43 : decode cX9_canBeDone 43 = .ok (.iconst 1, 1) := by decide +kernel
theorem dX9_canBeDone_44 : decode cX9_canBeDone 44 = .ok (.goto 4, 3) := by decide +kernel
theorem dX9_canBeDone_47 : decode cX9_canBeDone 47 = .ok (.iconst 0, 1) := by decide +kernel
theorem dX9_canBeDone_48 : decode cX9_canBeDone 48 = .ok (.iadd, 1) := by decide +kernel
theorem dX9_canBeDone_49 : decode cX9_canBeDone 49 = .ok (.istore_n 2, 1) := by decide +kernel
theorem dX9_canBeDone_50 : decode cX9_canBeDone 50 = .ok (.iinc 3 1, 3) := by decide +kernel
theorem dX9_canBeDone_53 : decode cX9_canBeDone 53 = .ok (.goto (-49), 3) := by decide +kernel
theorem dX9_canBeDone_56 : decode cX9_canBeDone 56 = .ok (.aload_n 1, 1) := by decide +kernel
theorem dX9_canBeDone_57 : decode cX9_canBeDone 57 = .ok (.invokevirtual 74, 3) := by decide +kernel
theorem dX9_canBeDone_60 : decode cX9_canBeDone 60 = .ok (.iload_n 2, 1) := by decide +kernel
theorem dX9_canBeDone_61 : decode cX9_canBeDone 61 = .ok (.iadd, 1) := by decide +kernel
theorem dX9_canBeDone_62 : decode cX9_canBeDone 62 = .ok (.bipush 60, 2) := by decide +kernel
theorem dX9_canBeDone_64 : decode cX9_canBeDone 64 = .ok (.if_icmp .gt 7, 3) := by decide +kernel
theorem dX9_canBeDone_67 : decode cX9_canBeDone 67 = .ok (.iconst 1, 1) := by decide +kernel
theorem dX9_canBeDone_68 : decode cX9_canBeDone 68 = .ok (.goto 4, 3) := by decide +kernel
theorem dX9_canBeDone_71 : decode cX9_canBeDone 71 = .ok (.iconst 0, 1) := by decide +kernel
theorem dX9_canBeDone_72 : decode cX9_canBeDone 72 = .ok (.ireturn, 1) := by decide +kernel
abbrev cX9_change : ByteArray := prog_11_method_14_code
def yX9_change : MethodName := ⟨RX9, "change", "(LTreequery$Tree;I)V"⟩
theorem dX9_change_0 : decode cX9_change 0 = .ok (.aload_n 0, 1) := by decide +kernel
theorem dX9_change_1 : decode cX9_change 1 = .ok (.getfield 20, 3) := by decide +kernel
theorem dX9_change_4 : decode cX9_change 4 = .ok (.iload_n 2, 1) := by decide +kernel
theorem dX9_change_5 : decode cX9_change 5 = .ok (.invokevirtual 70, 3) := by decide +kernel
theorem dX9_change_8 : decode cX9_change 8 = .ok (.istore_n 3, 1) := by decide +kernel
theorem dX9_change_9 : decode cX9_change 9 = .ok (.aload_n 0, 1) := by decide +kernel
theorem dX9_change_10 : decode cX9_change 10 = .ok (.dup, 1) := by decide +kernel
theorem dX9_change_11 : decode cX9_change 11 = .ok (.getfield 48, 3) := by decide +kernel
theorem dX9_change_14 : decode cX9_change 14 = .ok (.aload_n 0, 1) := by decide +kernel
theorem dX9_change_15 : decode cX9_change 15 = .ok (.getfield 23, 3) := by decide +kernel
theorem dX9_change_18 : decode cX9_change 18 = .ok (.iload_n 2, 1) := by decide +kernel
theorem dX9_change_19 : decode cX9_change 19 = .ok (.invokevirtual 70, 3) := by decide +kernel
theorem dX9_change_22 : decode cX9_change 22 = .ok (.invokestatic 125, 3) := by decide +kernel
theorem dX9_change_25 : decode cX9_change 25 = .ok (.lor, 1) := by decide +kernel
theorem dX9_change_26 : decode cX9_change 26 = .ok (.putfield 48, 3) := by decide +kernel
theorem dX9_change_29 : decode cX9_change 29 = .ok (.aload_n 0, 1) := by decide +kernel
theorem dX9_change_30 : decode cX9_change 30 = .ok (.getfield 14, 3) := by decide +kernel
theorem dX9_change_33 : decode cX9_change 33 = .ok (.iload_n 2, 1) := by decide +kernel
theorem dX9_change_34 : decode cX9_change 34 = .ok (.invokevirtual 70, 3) := by decide +kernel
theorem dX9_change_37 : decode cX9_change 37 = .ok (.tableswitch 184 0 4 #[35, 130, 146, 165, 92], 35) := by decide +kernel
theorem dX9_change_72 : decode cX9_change 72 = .ok (.aload_n 1, 1) := by decide +kernel
theorem dX9_change_73 : decode cX9_change 73 = .ok (.aload_n 0, 1) := by decide +kernel
theorem dX9_change_74 : decode cX9_change 74 = .ok (.getfield 29, 3) := by decide +kernel
theorem dX9_change_77 : decode cX9_change 77 = .ok (.iload_n 2, 1) := by decide +kernel
theorem dX9_change_78 : decode cX9_change 78 = .ok (.invokevirtual 70, 3) := by decide +kernel
theorem dX9_change_81 : decode cX9_change 81 = .ok (.aload_n 0, 1) := by decide +kernel
theorem dX9_change_82 : decode cX9_change 82 = .ok (.getfield 32, 3) := by decide +kernel
theorem dX9_change_85 : decode cX9_change 85 = .ok (.iload_n 2, 1) := by decide +kernel
theorem dX9_change_86 : decode cX9_change 86 = .ok (.invokevirtual 70, 3) := by decide +kernel
theorem dX9_change_89 : decode cX9_change 89 = .ok (.aload_n 0, 1) := by decide +kernel
theorem dX9_change_90 : decode cX9_change 90 = .ok (.getfield 35, 3) := by decide +kernel
theorem dX9_change_93 : decode cX9_change 93 = .ok (.iload_n 2, 1) := by decide +kernel
theorem dX9_change_94 : decode cX9_change 94 = .ok (.invokevirtual 70, 3) := by decide +kernel
theorem dX9_change_97 : decode cX9_change 97 = .ok (.invokevirtual 129, 3) := by decide +kernel
theorem dX9_change_100 : decode cX9_change 100 = .ok (.istore 4, 2) := by decide +kernel
theorem dX9_change_102 : decode cX9_change 102 = .ok (.aload_n 0, 1) := by decide +kernel
theorem dX9_change_103 : decode cX9_change 103 = .ok (.getfield 38, 3) := by decide +kernel
theorem dX9_change_106 : decode cX9_change 106 = .ok (.iload_n 2, 1) := by decide +kernel
theorem dX9_change_107 : decode cX9_change 107 = .ok (.iload 4, 2) := by decide +kernel
theorem dX9_change_109 : decode cX9_change 109 = .ok (.invokevirtual 55, 3) := by decide +kernel
theorem dX9_change_112 : decode cX9_change 112 = .ok (.aload_n 0, 1) := by decide +kernel
theorem dX9_change_113 : decode cX9_change 113 = .ok (.dup, 1) := by decide +kernel
theorem dX9_change_114 : decode cX9_change 114 = .ok (.getfield 41, 3) := by decide +kernel
theorem dX9_change_117 : decode cX9_change 117 = .ok (.iload 4, 2) := by decide +kernel
theorem dX9_change_119 : decode cX9_change 119 = .ok (.invokestatic 125, 3) := by decide +kernel
theorem dX9_change_122 : decode cX9_change 122 = .ok (.lor, 1) := by decide +kernel
theorem dX9_change_123 : decode cX9_change 123 = .ok (.putfield 41, 3) := by decide +kernel
theorem dX9_change_126 : decode cX9_change 126 = .ok (.goto 111, 3) := by decide +kernel
theorem dX9_change_129 : decode cX9_change 129 = .ok (.aload_n 0, 1) := by decide +kernel
theorem dX9_change_130 : decode cX9_change 130 = .ok (.getfield 38, 3) := by decide +kernel
theorem dX9_change_133 : decode cX9_change 133 = .ok (.iload_n 2, 1) := by decide +kernel
theorem dX9_change_134 : decode cX9_change 134 = .ok (.iload_n 3, 1) := by decide +kernel
theorem dX9_change_135 : decode cX9_change 135 = .ok (.invokevirtual 55, 3) := by decide +kernel
theorem dX9_change_138 : decode cX9_change 138 = .ok (.aload_n 0, 1) := by decide +kernel
theorem dX9_change_139 : decode cX9_change 139 = .ok (.dup, 1) := by decide +kernel
theorem dX9_change_140 : decode cX9_change 140 = .ok (.getfield 41, 3) := by decide +kernel
theorem dX9_change_143 : decode cX9_change 143 = .ok (.iload_n 3, 1) := by decide +kernel
theorem dX9_change_144 : decode cX9_change 144 = .ok (.invokestatic 125, 3) := by decide +kernel
theorem dX9_change_147 : decode cX9_change 147 = .ok (.lor, 1) := by decide +kernel
theorem dX9_change_148 : decode cX9_change 148 = .ok (.putfield 41, 3) := by decide +kernel
theorem dX9_change_151 : decode cX9_change 151 = .ok (.aload_n 0, 1) := by decide +kernel
theorem dX9_change_152 : decode cX9_change 152 = .ok (.dup, 1) := by decide +kernel
theorem dX9_change_153 : decode cX9_change 153 = .ok (.getfield 45, 3) := by decide +kernel
theorem dX9_change_156 : decode cX9_change 156 = .ok (.iload_n 3, 1) := by decide +kernel
theorem dX9_change_157 : decode cX9_change 157 = .ok (.invokestatic 125, 3) := by decide +kernel
theorem dX9_change_160 : decode cX9_change 160 = .ok (.lor, 1) := by decide +kernel
theorem dX9_change_161 : decode cX9_change 161 = .ok (.putfield 45, 3) := by decide +kernel
theorem dX9_change_164 : decode cX9_change 164 = .ok (.goto 73, 3) := by decide +kernel
theorem dX9_change_167 : decode cX9_change 167 = .ok (.aload_n 0, 1) := by decide +kernel
theorem dX9_change_168 : decode cX9_change 168 = .ok (.dup, 1) := by decide +kernel
theorem dX9_change_169 : decode cX9_change 169 = .ok (.getfield 45, 3) := by decide +kernel
theorem dX9_change_172 : decode cX9_change 172 = .ok (.iload_n 3, 1) := by decide +kernel
theorem dX9_change_173 : decode cX9_change 173 = .ok (.invokestatic 125, 3) := by decide +kernel
theorem dX9_change_176 : decode cX9_change 176 = .ok (.lor, 1) := by decide +kernel
theorem dX9_change_177 : decode cX9_change 177 = .ok (.putfield 45, 3) := by decide +kernel
theorem dX9_change_180 : decode cX9_change 180 = .ok (.goto 57, 3) := by decide +kernel
theorem dX9_change_183 : decode cX9_change 183 = .ok (.aload_n 1, 1) := by decide +kernel
theorem dX9_change_184 : decode cX9_change 184 = .ok (.getfield 133, 3) := by decide +kernel
theorem dX9_change_187 : decode cX9_change 187 = .ok (.iload_n 3, 1) := by decide +kernel
theorem dX9_change_188 : decode cX9_change 188 = .ok (.aload_n 0, 1) := by decide +kernel
theorem dX9_change_189 : decode cX9_change 189 = .ok (.getfield 35, 3) := by decide +kernel
theorem dX9_change_192 : decode cX9_change 192 = .ok (.iload_n 2, 1) := by decide +kernel
theorem dX9_change_193 : decode cX9_change 193 = .ok (.invokevirtual 70, 3) := by decide +kernel
theorem dX9_change_196 : decode cX9_change 196 = .ok (.invokevirtual 55, 3) := by decide +kernel
theorem dX9_change_199 : decode cX9_change 199 = .ok (.goto 38, 3) := by decide +kernel
theorem dX9_change_202 : decode cX9_change 202 = .ok (.aload_n 1, 1) := by decide +kernel
theorem dX9_change_203 : decode cX9_change 203 = .ok (.getfield 134, 3) := by decide +kernel
theorem dX9_change_206 : decode cX9_change 206 = .ok (.iload_n 3, 1) := by decide +kernel
theorem dX9_change_207 : decode cX9_change 207 = .ok (.aload_n 0, 1) := by decide +kernel
theorem dX9_change_208 : decode cX9_change 208 = .ok (.getfield 35, 3) := by decide +kernel
theorem dX9_change_211 : decode cX9_change 211 = .ok (.iload_n 2, 1) := by decide +kernel
theorem dX9_change_212 : decode cX9_change 212 = .ok (.invokevirtual 70, 3) := by decide +kernel
theorem dX9_change_215 : decode cX9_change 215 = .ok (.invokevirtual 55, 3) := by decide +kernel
theorem dX9_change_218 : decode cX9_change 218 = .ok (.goto 19, 3) := by decide +kernel
theorem dX9_change_221 : decode cX9_change 221 = .ok (.aload_n 1, 1) := by decide +kernel
theorem dX9_change_222 : decode cX9_change 222 = .ok (.getfield 135, 3) := by decide +kernel
theorem dX9_change_225 : decode cX9_change 225 = .ok (.iload_n 3, 1) := by decide +kernel
theorem dX9_change_226 : decode cX9_change 226 = .ok (.aload_n 0, 1) := by decide +kernel
theorem dX9_change_227 : decode cX9_change 227 = .ok (.getfield 35, 3) := by decide +kernel
theorem dX9_change_230 : decode cX9_change 230 = .ok (.iload_n 2, 1) := by decide +kernel
theorem dX9_change_231 : decode cX9_change 231 = .ok (.invokevirtual 70, 3) := by decide +kernel
theorem dX9_change_234 : decode cX9_change 234 = .ok (.invokevirtual 55, 3) := by decide +kernel
theorem dX9_change_237 : decode cX9_change 237 = .ok (.return_, 1) := by decide +kernel
abbrev cX9_isInto : ByteArray := prog_11_method_17_code
def yX9_isInto : MethodName := ⟨RX9, "isInto", "(III)Z"⟩
theorem dX9_isInto_0 : decode cX9_isInto 0 = .ok (.aload_n 0, 1) := by decide +kernel
theorem dX9_isInto_1 : decode cX9_isInto 1 = .ok (.getfield 23, 3) := by decide +kernel
theorem dX9_isInto_4 : decode cX9_isInto 4 = .ok (.iload_n 1, 1) := by decide +kernel
theorem dX9_isInto_5 : decode cX9_isInto 5 = .ok (.invokevirtual 70, 3) := by decide +kernel
theorem dX9_isInto_8 : decode cX9_isInto 8 = .ok (.iload_n 2, 1) := by decide +kernel
theorem dX9_isInto_9 : decode cX9_isInto 9 = .ok (.if_icmp .ne 19, 3) := by decide +kernel
theorem dX9_isInto_12 : decode cX9_isInto 12 = .ok (.aload_n 0, 1) := by decide +kernel
theorem dX9_isInto_13 : decode cX9_isInto 13 = .ok (.getfield 26, 3) := by decide +kernel
theorem dX9_isInto_16 : decode cX9_isInto 16 = .ok (.iload_n 1, 1) := by decide +kernel
theorem dX9_isInto_17 : decode cX9_isInto 17 = .ok (.invokevirtual 70, 3) := by decide +kernel
theorem dX9_isInto_20 : decode cX9_isInto 20 = .ok (.iload_n 3, 1) := by decide +kernel
theorem dX9_isInto_21 : decode cX9_isInto 21 = .ok (.if_icmp .ne 7, 3) := by decide +kernel
theorem dX9_isInto_24 : decode cX9_isInto 24 = .ok (.iconst 1, 1) := by decide +kernel
theorem dX9_isInto_25 : decode cX9_isInto 25 = .ok (.goto 4, 3) := by decide +kernel
theorem dX9_isInto_28 : decode cX9_isInto 28 = .ok (.iconst 0, 1) := by decide +kernel
theorem dX9_isInto_29 : decode cX9_isInto 29 = .ok (.ireturn, 1) := by decide +kernel
abbrev cX9_linkAttributes : ByteArray := prog_11_method_15_code
def yX9_linkAttributes : MethodName := ⟨RX9, "linkAttributes", "(LTreequery$Tree;LTreequery$Tree;I)V"⟩
theorem dX9_linkAttributes_0 : decode cX9_linkAttributes 0 = .ok (.aload_n 1, 1) := by decide +kernel
theorem dX9_linkAttributes_1 : decode cX9_linkAttributes 1 = .ok (.getfield 80, 3) := by decide +kernel
theorem dX9_linkAttributes_4 : decode cX9_linkAttributes 4 = .ok (.iload_n 3, 1) := by decide +kernel
theorem dX9_linkAttributes_5 : decode cX9_linkAttributes 5 = .ok (.invokevirtual 138, 3) := by decide +kernel
theorem dX9_linkAttributes_8 : decode cX9_linkAttributes 8 = .ok (.istore 4, 2) := by decide +kernel
theorem dX9_linkAttributes_10 : decode cX9_linkAttributes 10 = .ok (.aload_n 1, 1) := by decide +kernel
theorem dX9_linkAttributes_11 : decode cX9_linkAttributes 11 = .ok (.getfield 80, 3) := by decide +kernel
theorem dX9_linkAttributes_14 : decode cX9_linkAttributes 14 = .ok (.iload_n 3, 1) := by decide +kernel
theorem dX9_linkAttributes_15 : decode cX9_linkAttributes 15 = .ok (.invokevirtual 141, 3) := by decide +kernel
theorem dX9_linkAttributes_18 : decode cX9_linkAttributes 18 = .ok (.lstore 5, 2) := by decide +kernel
theorem dX9_linkAttributes_20 : decode cX9_linkAttributes 20 = .ok (.lload 5, 2) := by decide +kernel
theorem dX9_linkAttributes_22 : decode cX9_linkAttributes 22 = .ok (.invokestatic 144, 3) := by decide +kernel
theorem dX9_linkAttributes_25 : decode cX9_linkAttributes 25 = .ok (.istore 7, 2) := by decide +kernel
theorem dX9_linkAttributes_27 : decode cX9_linkAttributes 27 = .ok (.aload_n 0, 1) := by decide +kernel
theorem dX9_linkAttributes_28 : decode cX9_linkAttributes 28 = .ok (.getfield 48, 3) := by decide +kernel
theorem dX9_linkAttributes_31 : decode cX9_linkAttributes 31 = .ok (.iload 4, 2) := by decide +kernel
theorem dX9_linkAttributes_33 : decode cX9_linkAttributes 33 = .ok (.invokestatic 110, 3) := by decide +kernel
theorem dX9_linkAttributes_36 : decode cX9_linkAttributes 36 = .ok (.ifCond .eq 10, 3) := by decide +kernel
theorem dX9_linkAttributes_39 : decode cX9_linkAttributes 39 = .ok (.aload_n 0, 1) := by decide +kernel
theorem dX9_linkAttributes_40 : decode cX9_linkAttributes 40 = .ok (.getfield 51, 3) := by decide +kernel
theorem dX9_linkAttributes_43 : decode cX9_linkAttributes 43 = .ok (.goto 4, 3) := by decide +kernel
theorem dX9_linkAttributes_46 : decode cX9_linkAttributes 46 = .ok (.iconst 0, 1) := by decide +kernel
theorem dX9_linkAttributes_47 : decode cX9_linkAttributes 47 = .ok (.istore 8, 2) := by decide +kernel
theorem dX9_linkAttributes_49 : decode cX9_linkAttributes 49 = .ok (.iconst 0, 1) := by decide +kernel
theorem dX9_linkAttributes_50 : decode cX9_linkAttributes 50 = .ok (.istore 9, 2) := by decide +kernel
theorem dX9_linkAttributes_52 : decode cX9_linkAttributes 52 = .ok (.iload 9, 2) := by decide +kernel
theorem dX9_linkAttributes_54 : decode cX9_linkAttributes 54 = .ok (.bipush 8, 2) := by decide +kernel
theorem dX9_linkAttributes_56 : decode cX9_linkAttributes 56 = .ok (.if_icmp .ge 137, 3) := by decide +kernel
theorem dX9_linkAttributes_59 : decode cX9_linkAttributes 59 = .ok (.iload 7, 2) := by decide +kernel
theorem dX9_linkAttributes_61 : decode cX9_linkAttributes 61 = .ok (.iload 8, 2) := by decide +kernel
theorem dX9_linkAttributes_63 : decode cX9_linkAttributes 63 = .ok (.iadd, 1) := by decide +kernel
theorem dX9_linkAttributes_64 : decode cX9_linkAttributes 64 = .ok (.ifCond .le 129, 3) := by decide +kernel
theorem dX9_linkAttributes_67 : decode cX9_linkAttributes 67 = .ok (.iconst 0, 1) := by decide +kernel
theorem dX9_linkAttributes_68 : decode cX9_linkAttributes 68 = .ok (.istore 10, 2) := by decide +kernel
theorem dX9_linkAttributes_70 : decode cX9_linkAttributes 70 = .ok (.iload 10, 2) := by decide +kernel
theorem dX9_linkAttributes_72 : decode cX9_linkAttributes 72 = .ok (.iload 7, 2) := by decide +kernel
theorem dX9_linkAttributes_74 : decode cX9_linkAttributes 74 = .ok (.if_icmp .ge 56, 3) := by decide +kernel
theorem dX9_linkAttributes_77 : decode cX9_linkAttributes 77 = .ok (.aload_n 1, 1) := by decide +kernel
theorem dX9_linkAttributes_78 : decode cX9_linkAttributes 78 = .ok (.getfield 80, 3) := by decide +kernel
theorem dX9_linkAttributes_81 : decode cX9_linkAttributes 81 = .ok (.lload 5, 2) := by decide +kernel
theorem dX9_linkAttributes_83 : decode cX9_linkAttributes 83 = .ok (.iload 10, 2) := by decide +kernel
theorem dX9_linkAttributes_85 : decode cX9_linkAttributes 85 = .ok (.invokevirtual 150, 3) := by decide +kernel
theorem dX9_linkAttributes_88 : decode cX9_linkAttributes 88 = .ok (.istore 11, 2) := by decide +kernel
theorem dX9_linkAttributes_90 : decode cX9_linkAttributes 90 = .ok (.aload_n 2, 1) := by decide +kernel
theorem dX9_linkAttributes_91 : decode cX9_linkAttributes 91 = .ok (.getfield 133, 3) := by decide +kernel
theorem dX9_linkAttributes_94 : decode cX9_linkAttributes 94 = .ok (.iload 11, 2) := by decide +kernel
theorem dX9_linkAttributes_96 : decode cX9_linkAttributes 96 = .ok (.invokevirtual 70, 3) := by decide +kernel
theorem dX9_linkAttributes_99 : decode cX9_linkAttributes 99 = .ok (.iload 9, 2) := by decide +kernel
theorem dX9_linkAttributes_101 : decode cX9_linkAttributes 101 = .ok (.if_icmp .ne 23, 3) := by decide +kernel
theorem dX9_linkAttributes_104 : decode cX9_linkAttributes 104 = .ok (.aload_n 0, 1) := by decide +kernel
theorem dX9_linkAttributes_105 : decode cX9_linkAttributes 105 = .ok (.getfield 45, 3) := by decide +kernel
theorem dX9_linkAttributes_108 : decode cX9_linkAttributes 108 = .ok (.iload 11, 2) := by decide +kernel
theorem dX9_linkAttributes_110 : decode cX9_linkAttributes 110 = .ok (.invokestatic 110, 3) := by decide +kernel
theorem dX9_linkAttributes_113 : decode cX9_linkAttributes 113 = .ok (.ifCond .ne 11, 3) := by decide +kernel
theorem dX9_linkAttributes_116 : decode cX9_linkAttributes 116 = .ok (.aload_n 2, 1) := by decide +kernel
theorem dX9_linkAttributes_117 : decode cX9_linkAttributes 117 = .ok (.iload 4, 2) := by decide +kernel
theorem dX9_linkAttributes_119 : decode cX9_linkAttributes 119 = .ok (.iload 11, 2) := by decide +kernel
theorem dX9_linkAttributes_121 : decode cX9_linkAttributes 121 = .ok (.invokevirtual 154, 3) := by decide +kernel
theorem dX9_linkAttributes_124 : decode cX9_linkAttributes 124 = .ok (.iinc 10 1, 3) := by decide +kernel
theorem dX9_linkAttributes_127 : decode cX9_linkAttributes 127 = .ok (.goto (-57), 3) := by decide +kernel
theorem dX9_linkAttributes_130 : decode cX9_linkAttributes 130 = .ok (.iconst 0, 1) := by decide +kernel
theorem dX9_linkAttributes_131 : decode cX9_linkAttributes 131 = .ok (.istore 10, 2) := by decide +kernel
theorem dX9_linkAttributes_133 : decode cX9_linkAttributes 133 = .ok (.iload 10, 2) := by decide +kernel
theorem dX9_linkAttributes_135 : decode cX9_linkAttributes 135 = .ok (.iload 8, 2) := by decide +kernel
theorem dX9_linkAttributes_137 : decode cX9_linkAttributes 137 = .ok (.if_icmp .ge 50, 3) := by decide +kernel
theorem dX9_linkAttributes_140 : decode cX9_linkAttributes 140 = .ok (.aload_n 0, 1) := by decide +kernel
theorem dX9_linkAttributes_141 : decode cX9_linkAttributes 141 = .ok (.iload 10, 2) := by decide +kernel
theorem dX9_linkAttributes_143 : decode cX9_linkAttributes 143 = .ok (.iload 4, 2) := by decide +kernel
theorem dX9_linkAttributes_145 : decode cX9_linkAttributes 145 = .ok (.iconst (-1), 1) := by decide +kernel
theorem dX9_linkAttributes_146 : decode cX9_linkAttributes 146 = .ok (.invokevirtual 157, 3) := by decide +kernel
theorem dX9_linkAttributes_149 : decode cX9_linkAttributes 149 = .ok (.ifCond .eq 32, 3) := by decide +kernel
theorem dX9_linkAttributes_152 : decode cX9_linkAttributes 152 = .ok (.aload_n 0, 1) := by decide +kernel
theorem dX9_linkAttributes_153 : decode cX9_linkAttributes 153 = .ok (.getfield 32, 3) := by decide +kernel
theorem dX9_linkAttributes_156 : decode cX9_linkAttributes 156 = .ok (.iload 10, 2) := by decide +kernel
theorem dX9_linkAttributes_158 : decode cX9_linkAttributes 158 = .ok (.invokevirtual 70, 3) := by decide +kernel
theorem dX9_linkAttributes_161 : decode cX9_linkAttributes 161 = .ok (.iload 9, 2) := by decide +kernel
theorem dX9_linkAttributes_163 : decode cX9_linkAttributes 163 = .ok (.if_icmp .ne 18, 3) := by decide +kernel
theorem dX9_linkAttributes_166 : decode cX9_linkAttributes 166 = .ok (.aload_n 2, 1) := by decide +kernel
theorem dX9_linkAttributes_167 : decode cX9_linkAttributes 167 = .ok (.iload 4, 2) := by decide +kernel
theorem dX9_linkAttributes_169 : decode cX9_linkAttributes 169 = .ok (.aload_n 0, 1) := by decide +kernel
theorem dX9_linkAttributes_170 : decode cX9_linkAttributes 170 = .ok (.getfield 38, 3) := by decide +kernel
theorem dX9_linkAttributes_173 : decode cX9_linkAttributes 173 = .ok (.iload 10, 2) := by decide +kernel
theorem dX9_linkAttributes_175 : decode cX9_linkAttributes 175 = .ok (.invokevirtual 70, 3) := by decide +kernel
theorem dX9_linkAttributes_178 : decode cX9_linkAttributes 178 = .ok (.invokevirtual 154, 3) := by decide +kernel
theorem dX9_linkAttributes_181 : decode cX9_linkAttributes 181 = .ok (.iinc 10 1, 3) := by decide +kernel
theorem dX9_linkAttributes_184 : decode cX9_linkAttributes 184 = .ok (.goto (-51), 3) := by decide +kernel
theorem dX9_linkAttributes_187 : decode cX9_linkAttributes 187 = .ok (.iinc 9 1, 3) := by decide +kernel
theorem dX9_linkAttributes_190 : decode cX9_linkAttributes 190 = .ok (.goto (-138), 3) := by decide +kernel
theorem dX9_linkAttributes_193 : decode cX9_linkAttributes 193 = .ok (.return_, 1) := by decide +kernel
abbrev cX9_linkChildren : ByteArray := prog_11_method_16_code
def yX9_linkChildren : MethodName := ⟨RX9, "linkChildren", "(LTreequery$Tree;LTreequery$Tree;I)V"⟩
theorem dX9_linkChildren_0 : decode cX9_linkChildren 0 = .ok (.aload_n 1, 1) := by decide +kernel
theorem dX9_linkChildren_1 : decode cX9_linkChildren 1 = .ok (.getfield 80, 3) := by decide +kernel
theorem dX9_linkChildren_4 : decode cX9_linkChildren 4 = .ok (.iload_n 3, 1) := by decide +kernel
theorem dX9_linkChildren_5 : decode cX9_linkChildren 5 = .ok (.invokevirtual 138, 3) := by decide +kernel
theorem dX9_linkChildren_8 : decode cX9_linkChildren 8 = .ok (.istore 4, 2) := by decide +kernel
theorem dX9_linkChildren_10 : decode cX9_linkChildren 10 = .ok (.aload_n 1, 1) := by decide +kernel
theorem dX9_linkChildren_11 : decode cX9_linkChildren 11 = .ok (.getfield 80, 3) := by decide +kernel
theorem dX9_linkChildren_14 : decode cX9_linkChildren 14 = .ok (.iload_n 3, 1) := by decide +kernel
theorem dX9_linkChildren_15 : decode cX9_linkChildren 15 = .ok (.invokevirtual 161, 3) := by decide +kernel
theorem dX9_linkChildren_18 : decode cX9_linkChildren 18 = .ok (.lstore 5, 2) := by decide +kernel
theorem dX9_linkChildren_20 : decode cX9_linkChildren 20 = .ok (.lload 5, 2) := by decide +kernel
theorem dX9_linkChildren_22 : decode cX9_linkChildren 22 = .ok (.invokestatic 144, 3) := by decide +kernel
theorem dX9_linkChildren_25 : decode cX9_linkChildren 25 = .ok (.istore 7, 2) := by decide +kernel
theorem dX9_linkChildren_27 : decode cX9_linkChildren 27 = .ok (.aload_n 0, 1) := by decide +kernel
theorem dX9_linkChildren_28 : decode cX9_linkChildren 28 = .ok (.getfield 48, 3) := by decide +kernel
theorem dX9_linkChildren_31 : decode cX9_linkChildren 31 = .ok (.iload 4, 2) := by decide +kernel
theorem dX9_linkChildren_33 : decode cX9_linkChildren 33 = .ok (.invokestatic 110, 3) := by decide +kernel
theorem dX9_linkChildren_36 : decode cX9_linkChildren 36 = .ok (.ifCond .eq 10, 3) := by decide +kernel
theorem dX9_linkChildren_39 : decode cX9_linkChildren 39 = .ok (.aload_n 0, 1) := by decide +kernel
theorem dX9_linkChildren_40 : decode cX9_linkChildren 40 = .ok (.getfield 51, 3) := by decide +kernel
theorem dX9_linkChildren_43 : decode cX9_linkChildren 43 = .ok (.goto 4, 3) := by decide +kernel
theorem dX9_linkChildren_46 : decode cX9_linkChildren 46 = .ok (.iconst 0, 1) := by decide +kernel
theorem dX9_linkChildren_47 : decode cX9_linkChildren 47 = .ok (.istore 8, 2) := by decide +kernel
theorem dX9_linkChildren_49 : decode cX9_linkChildren 49 = .ok (.iconst 0, 1) := by decide +kernel
theorem dX9_linkChildren_50 : decode cX9_linkChildren 50 = .ok (.istore 9, 2) := by decide +kernel
theorem dX9_linkChildren_52 : decode cX9_linkChildren 52 = .ok (.iload 9, 2) := by decide +kernel
theorem dX9_linkChildren_54 : decode cX9_linkChildren 54 = .ok (.iload 7, 2) := by decide +kernel
theorem dX9_linkChildren_56 : decode cX9_linkChildren 56 = .ok (.if_icmp .gt 92, 3) := by decide +kernel
theorem dX9_linkChildren_59 : decode cX9_linkChildren 59 = .ok (.iconst 0, 1) := by decide +kernel
theorem dX9_linkChildren_60 : decode cX9_linkChildren 60 = .ok (.istore 10, 2) := by decide +kernel
theorem dX9_linkChildren_62 : decode cX9_linkChildren 62 = .ok (.iload 10, 2) := by decide +kernel
theorem dX9_linkChildren_64 : decode cX9_linkChildren 64 = .ok (.iload 8, 2) := by decide +kernel
theorem dX9_linkChildren_66 : decode cX9_linkChildren 66 = .ok (.if_icmp .ge 37, 3) := by decide +kernel
theorem dX9_linkChildren_69 : decode cX9_linkChildren 69 = .ok (.aload_n 0, 1) := by decide +kernel
theorem dX9_linkChildren_70 : decode cX9_linkChildren 70 = .ok (.iload 10, 2) := by decide +kernel
theorem dX9_linkChildren_72 : decode cX9_linkChildren 72 = .ok (.iload 4, 2) := by decide +kernel
theorem dX9_linkChildren_74 : decode cX9_linkChildren 74 = .ok (.iload 9, 2) := by decide +kernel
theorem dX9_linkChildren_76 : decode cX9_linkChildren 76 = .ok (.invokevirtual 157, 3) := by decide +kernel
theorem dX9_linkChildren_79 : decode cX9_linkChildren 79 = .ok (.ifCond .eq 18, 3) := by decide +kernel
theorem dX9_linkChildren_82 : decode cX9_linkChildren 82 = .ok (.aload_n 2, 1) := by decide +kernel
theorem dX9_linkChildren_83 : decode cX9_linkChildren 83 = .ok (.iload 4, 2) := by decide +kernel
theorem dX9_linkChildren_85 : decode cX9_linkChildren 85 = .ok (.aload_n 0, 1) := by decide +kernel
theorem dX9_linkChildren_86 : decode cX9_linkChildren 86 = .ok (.getfield 38, 3) := by decide +kernel
theorem dX9_linkChildren_89 : decode cX9_linkChildren 89 = .ok (.iload 10, 2) := by decide +kernel
theorem dX9_linkChildren_91 : decode cX9_linkChildren 91 = .ok (.invokevirtual 70, 3) := by decide +kernel
theorem dX9_linkChildren_94 : decode cX9_linkChildren 94 = .ok (.invokevirtual 154, 3) := by decide +kernel
theorem dX9_linkChildren_97 : decode cX9_linkChildren 97 = .ok (.iinc 10 1, 3) := by decide +kernel
theorem dX9_linkChildren_100 : decode cX9_linkChildren 100 = .ok (.goto (-38), 3) := by decide +kernel
theorem dX9_linkChildren_103 : decode cX9_linkChildren 103 = .ok (.aload_n 1, 1) := by decide +kernel
theorem dX9_linkChildren_104 : decode cX9_linkChildren 104 = .ok (.getfield 80, 3) := by decide +kernel
theorem dX9_linkChildren_107 : decode cX9_linkChildren 107 = .ok (.lload 5, 2) := by decide +kernel
theorem dX9_linkChildren_109 : decode cX9_linkChildren 109 = .ok (.iload 9, 2) := by decide +kernel
theorem dX9_linkChildren_111 : decode cX9_linkChildren 111 = .ok (.invokevirtual 150, 3) := by decide +kernel
theorem dX9_linkChildren_114 : decode cX9_linkChildren 114 = .ok (.istore 10, 2) := by decide +kernel
theorem dX9_linkChildren_116 : decode cX9_linkChildren 116 = .ok (.iload 10, 2) := by decide +kernel
theorem dX9_linkChildren_118 : decode cX9_linkChildren 118 = .ok (.iconst (-1), 1) := by decide +kernel
theorem dX9_linkChildren_119 : decode cX9_linkChildren 119 = .ok (.if_icmp .eq 23, 3) := by decide +kernel
theorem dX9_linkChildren_122 : decode cX9_linkChildren 122 = .ok (.aload_n 0, 1) := by decide +kernel
theorem dX9_linkChildren_123 : decode cX9_linkChildren 123 = .ok (.getfield 45, 3) := by decide +kernel
theorem dX9_linkChildren_126 : decode cX9_linkChildren 126 = .ok (.iload 10, 2) := by decide +kernel
theorem dX9_linkChildren_128 : decode cX9_linkChildren 128 = .ok (.invokestatic 110, 3) := by decide +kernel
theorem dX9_linkChildren_131 : decode cX9_linkChildren 131 = .ok (.ifCond .ne 11, 3) := by decide +kernel
theorem dX9_linkChildren_134 : decode cX9_linkChildren 134 = .ok (.aload_n 2, 1) := by decide +kernel
theorem dX9_linkChildren_135 : decode cX9_linkChildren 135 = .ok (.iload 4, 2) := by decide +kernel
theorem dX9_linkChildren_137 : decode cX9_linkChildren 137 = .ok (.iload 10, 2) := by decide +kernel
theorem dX9_linkChildren_139 : decode cX9_linkChildren 139 = .ok (.invokevirtual 154, 3) := by decide +kernel
theorem dX9_linkChildren_142 : decode cX9_linkChildren 142 = .ok (.iinc 9 1, 3) := by decide +kernel
theorem dX9_linkChildren_145 : decode cX9_linkChildren 145 = .ok (.goto (-93), 3) := by decide +kernel
theorem dX9_linkChildren_148 : decode cX9_linkChildren 148 = .ok (.return_, 1) := by decide +kernel
abbrev cX9_build : ByteArray := prog_11_method_13_code
def yX9_build : MethodName := ⟨RX9, "build", "(LTreequery$Tree;LTreequery$Tree;)V"⟩
theorem dX9_build_0 : decode cX9_build 0 = .ok (.aload_n 2, 1) := by decide +kernel
theorem dX9_build_1 : decode cX9_build 1 = .ok (.aload_n 1, 1) := by decide +kernel
theorem dX9_build_2 : decode cX9_build 2 = .ok (.invokevirtual 96, 3) := by decide +kernel
theorem dX9_build_5 : decode cX9_build 5 = .ok (.aload_n 0, 1) := by decide +kernel
theorem dX9_build_6 : decode cX9_build 6 = .ok (.lconst 0, 1) := by decide +kernel
theorem dX9_build_7 : decode cX9_build 7 = .ok (.putfield 41, 3) := by decide +kernel
theorem dX9_build_10 : decode cX9_build 10 = .ok (.aload_n 0, 1) := by decide +kernel
theorem dX9_build_11 : decode cX9_build 11 = .ok (.lconst 0, 1) := by decide +kernel
theorem dX9_build_12 : decode cX9_build 12 = .ok (.putfield 45, 3) := by decide +kernel
theorem dX9_build_15 : decode cX9_build 15 = .ok (.aload_n 0, 1) := by decide +kernel
theorem dX9_build_16 : decode cX9_build 16 = .ok (.lconst 0, 1) := by decide +kernel
theorem dX9_build_17 : decode cX9_build 17 = .ok (.putfield 48, 3) := by decide +kernel
theorem dX9_build_20 : decode cX9_build 20 = .ok (.iconst 0, 1) := by decide +kernel
theorem dX9_build_21 : decode cX9_build 21 = .ok (.istore_n 3, 1) := by decide +kernel
theorem dX9_build_22 : decode cX9_build 22 = .ok (.iload_n 3, 1) := by decide +kernel
theorem dX9_build_23 : decode cX9_build 23 = .ok (.aload_n 0, 1) := by decide +kernel
theorem dX9_build_24 : decode cX9_build 24 = .ok (.getfield 51, 3) := by decide +kernel
theorem dX9_build_27 : decode cX9_build 27 = .ok (.if_icmp .ge 15, 3) := by decide +kernel
theorem dX9_build_30 : decode cX9_build 30 = .ok (.aload_n 0, 1) := by decide +kernel
theorem dX9_build_31 : decode cX9_build 31 = .ok (.aload_n 2, 1) := by decide +kernel
theorem dX9_build_32 : decode cX9_build 32 = .ok (.iload_n 3, 1) := by decide +kernel
theorem dX9_build_33 : decode cX9_build 33 = .ok (.invokevirtual 100, 3) := by decide +kernel
theorem dX9_build_36 : decode cX9_build 36 = .ok (.iinc 3 1, 3) := by decide +kernel
theorem dX9_build_39 : decode cX9_build 39 = .ok (.goto (-17), 3) := by decide +kernel
theorem dX9_build_42 : decode cX9_build 42 = .ok (.iconst 0, 1) := by decide +kernel
theorem dX9_build_43 : decode cX9_build 43 = .ok (.istore_n 3, 1) := by decide +kernel
theorem dX9_build_44 : decode cX9_build 44 = .ok (.iload_n 3, 1) := by decide +kernel
theorem dX9_build_45 : decode cX9_build 45 = .ok (.aload_n 1, 1) := by decide +kernel
theorem dX9_build_46 : decode cX9_build 46 = .ok (.getfield 80, 3) := by decide +kernel
theorem dX9_build_49 : decode cX9_build 49 = .ok (.invokevirtual 104, 3) := by decide +kernel
theorem dX9_build_52 : decode cX9_build 52 = .ok (.if_icmp .ge 37, 3) := by decide +kernel
theorem dX9_build_55 : decode cX9_build 55 = .ok (.aload_n 1, 1) := by decide +kernel
theorem dX9_build_56 : decode cX9_build 56 = .ok (.getfield 80, 3) := by decide +kernel
theorem dX9_build_59 : decode cX9_build 59 = .ok (.invokevirtual 106, 3) := by decide +kernel
theorem dX9_build_62 : decode cX9_build 62 = .ok (.iload_n 3, 1) := by decide +kernel
theorem dX9_build_63 : decode cX9_build 63 = .ok (.invokestatic 110, 3) := by decide +kernel
theorem dX9_build_66 : decode cX9_build 66 = .ok (.ifCond .eq 17, 3) := by decide +kernel
theorem dX9_build_69 : decode cX9_build 69 = .ok (.aload_n 0, 1) := by decide +kernel
theorem dX9_build_70 : decode cX9_build 70 = .ok (.aload_n 1, 1) := by decide +kernel
theorem dX9_build_71 : decode cX9_build 71 = .ok (.aload_n 2, 1) := by decide +kernel
theorem dX9_build_72 : decode cX9_build 72 = .ok (.iload_n 3, 1) := by decide +kernel
theorem dX9_build_73 : decode cX9_build 73 = .ok (.invokevirtual 115, 3) := by decide +kernel
theorem dX9_build_76 : decode cX9_build 76 = .ok (.aload_n 0, 1) := by decide +kernel
theorem dX9_build_77 : decode cX9_build 77 = .ok (.aload_n 1, 1) := by decide +kernel
theorem dX9_build_78 : decode cX9_build 78 = .ok (.aload_n 2, 1) := by decide +kernel
theorem dX9_build_79 : decode cX9_build 79 = .ok (.iload_n 3, 1) := by decide +kernel
theorem dX9_build_80 : decode cX9_build 80 = .ok (.invokevirtual 119, 3) := by decide +kernel
theorem dX9_build_83 : decode cX9_build 83 = .ok (.iinc 3 1, 3) := by decide +kernel
theorem dX9_build_86 : decode cX9_build 86 = .ok (.goto (-42), 3) := by decide +kernel
theorem dX9_build_89 : decode cX9_build 89 = .ok (.aload_n 2, 1) := by decide +kernel
theorem dX9_build_90 : decode cX9_build 90 = .ok (.invokevirtual 122, 3) := by decide +kernel
theorem dX9_build_93 : decode cX9_build 93 = .ok (.return_, 1) := by decide +kernel
theorem tk_RX8_23 : Cond.fieldLink RX8 23 RX8 (TX8 1).2.1 (TX8 1).2.2.1 ∈ tq_G := tq_g (i := 167) (by decide +kernel) rfl
theorem tk_RX8_58 : Cond.methodLink RX8 58 yX5_get ∈ tq_G := tq_g (i := 401) (by decide +kernel) rfl
theorem tk_RX8_27 : Cond.fieldLink RX8 27 RX8 (TX8 2).2.1 (TX8 2).2.2.1 ∈ tq_G := tq_g (i := 169) (by decide +kernel) rfl
theorem tk_RX8_30 : Cond.fieldLink RX8 30 RX8 (TX8 3).2.1 (TX8 3).2.2.1 ∈ tq_G := tq_g (i := 173) (by decide +kernel) rfl
theorem tk_RX8_33 : Cond.fieldLink RX8 33 RX8 (TX8 4).2.1 (TX8 4).2.2.1 ∈ tq_G := tq_g (i := 175) (by decide +kernel) rfl
theorem tk_RX8_12 : Cond.fieldLink RX8 12 RX8 (TX8 0).2.1 (TX8 0).2.2.1 ∈ tq_G := tq_g (i := 161) (by decide +kernel) rfl
theorem tk_RX8_110 : Cond.methodLink RX8 110 yX3_elements ∈ tq_G := tq_g (i := 484) (by decide +kernel) rfl
theorem tk_RX8_114 : Cond.methodLink RX8 114 yX0_holds ∈ tq_G := tq_g (i := 466) (by decide +kernel) rfl
theorem tk_RX8_123 : Cond.methodLink RX8 123 yX3_below ∈ tq_G := tq_g (i := 488) (by decide +kernel) rfl
theorem tk_RX8_101 : Cond.methodLink RX8 101 yX3_passing ∈ tq_G := tq_g (i := 492) (by decide +kernel) rfl
theorem tk_RX8_126 : Cond.methodLink RX8 126 yX3_nodeOfSet ∈ tq_G := tq_g (i := 496) (by decide +kernel) rfl
theorem tk_y_X3_nodeOfSet : tq_yok yX3_nodeOfSet cX3_nodeOfSet 4 (some .int) 2 := ⟨tq_g (i := 499) (by decide +kernel) rfl, tq_g (i := 55) (by decide +kernel) rfl, ⟨by decide +kernel, by decide +kernel⟩, by decide +kernel, by decide⟩
theorem tk_v_X3_nodeOfSet : tq_vok yX3_nodeOfSet := ⟨tq_g (i := 497) (by decide +kernel) rfl, tq_g (i := 498) (by decide +kernel) rfl⟩
theorem tk_y_X3_passing : tq_yok yX3_passing cX3_passing 2 (some .long) 1 := ⟨tq_g (i := 495) (by decide +kernel) rfl, tq_g (i := 55) (by decide +kernel) rfl, ⟨by decide +kernel, by decide +kernel⟩, by decide +kernel, by decide⟩
theorem tk_v_X3_passing : tq_vok yX3_passing := ⟨tq_g (i := 493) (by decide +kernel) rfl, tq_g (i := 494) (by decide +kernel) rfl⟩
theorem tk_y_X3_below : tq_yok yX3_below cX3_below 2 (some .long) 1 := ⟨tq_g (i := 491) (by decide +kernel) rfl, tq_g (i := 55) (by decide +kernel) rfl, ⟨by decide +kernel, by decide +kernel⟩, by decide +kernel, by decide⟩
theorem tk_v_X3_below : tq_vok yX3_below := ⟨tq_g (i := 489) (by decide +kernel) rfl, tq_g (i := 490) (by decide +kernel) rfl⟩
theorem tk_RX8_120 : Cond.methodLink RX8 120 yX3_nodeAt ∈ tq_G := tq_g (i := 467) (by decide +kernel) rfl
theorem tk_y_X3_nodeAt : tq_yok yX3_nodeAt cX3_nodeAt 2 (some .int) 1 := ⟨tq_g (i := 470) (by decide +kernel) rfl, tq_g (i := 55) (by decide +kernel) rfl, ⟨by decide +kernel, by decide +kernel⟩, by decide +kernel, by decide⟩
theorem tk_v_X3_nodeAt : tq_vok yX3_nodeAt := ⟨tq_g (i := 468) (by decide +kernel) rfl, tq_g (i := 469) (by decide +kernel) rfl⟩
theorem tk_y_X3_elements : tq_yok yX3_elements cX3_elements 1 (some .long) 0 := ⟨tq_g (i := 487) (by decide +kernel) rfl, tq_g (i := 55) (by decide +kernel) rfl, ⟨by decide +kernel, by decide +kernel⟩, by decide +kernel, by decide⟩
theorem tk_v_X3_elements : tq_vok yX3_elements := ⟨tq_g (i := 485) (by decide +kernel) rfl, tq_g (i := 486) (by decide +kernel) rfl⟩
theorem tk_RX8_3 : Cond.methodLink RX8 3 Lib.objectInit ∈ tq_G := tq_g (i := 87) (by decide +kernel) rfl
theorem tk_RX8_9 : Cond.classLink RX8 9 RX3 ∈ tq_G := tq_g (i := 88) (by decide +kernel) rfl
theorem tk_in3 : Cond.instantiable RX3 13 ∈ tq_G := tq_g (i := 89) (by decide +kernel) rfl
theorem tk_ini3 : Cond.initialized RX3 ∈ tq_G := tq_g (i := 55) (by decide +kernel) rfl
theorem tk_RX8_11 : Cond.methodLinkNest RX8 11 yX3_init "Treequery" ∈ tq_B := List.mem_filter.mpr ⟨List.mem_of_getElem? (i := 90) (by decide +kernel), rfl⟩
theorem tk_RX8_18 : Cond.classLink RX8 18 RX5 ∈ tq_G := tq_g (i := 159) (by decide +kernel) rfl
theorem tk_RX8_20 : Cond.methodLink RX8 20 yX5_init ∈ tq_G := tq_g (i := 160) (by decide +kernel) rfl
theorem tk_RX8_36 : Cond.fieldLink RX8 36 RX8 (TX8 5).2.1 (TX8 5).2.2.1 ∈ tq_G := tq_g (i := 177) (by decide +kernel) rfl
theorem tk_RX8_39 : Cond.fieldLink RX8 39 RX8 (TX8 6).2.1 (TX8 6).2.2.1 ∈ tq_G := tq_g (i := 179) (by decide +kernel) rfl
theorem tk_RX8_42 : Cond.fieldLink RX8 42 RX8 (TX8 7).2.1 (TX8 7).2.2.1 ∈ tq_G := tq_g (i := 181) (by decide +kernel) rfl
theorem tk_RX8_45 : Cond.fieldLink RX8 45 RX8 (TX8 8).2.1 (TX8 8).2.2.1 ∈ tq_G := tq_g (i := 182) (by decide +kernel) rfl
theorem tk_RX8_48 : Cond.fieldLink RX8 48 RX8 (TX8 9).2.1 (TX8 9).2.2.1 ∈ tq_G := tq_g (i := 183) (by decide +kernel) rfl
theorem tk_RX8_51 : Cond.fieldLink RX8 51 RX8 (TX8 10).2.1 (TX8 10).2.2.1 ∈ tq_G := tq_g (i := 184) (by decide +kernel) rfl
theorem tk_y_X3_init : tq_yok yX3_init cX3_init 1 none 0 := ⟨tq_g (i := 92) (by decide +kernel) rfl, tq_g (i := 55) (by decide +kernel) rfl, ⟨by decide +kernel, by decide +kernel⟩, by decide +kernel, by decide⟩
theorem tk_v_X3_init : Cond.instanceMethod yX3_init ∈ tq_G := tq_g (i := 91) (by decide +kernel) rfl
theorem tk_RX8_55 : Cond.methodLink RX8 55 yX5_set ∈ tq_G := tq_g (i := 378) (by decide +kernel) rfl
theorem tk_RX8_62 : Cond.methodLink RX8 62 yX5_copy ∈ tq_G := tq_g (i := 758) (by decide +kernel) rfl
theorem tk_RX8_66 : Cond.methodLink RX8 66 yX5_setAll ∈ tq_G := tq_g (i := 768) (by decide +kernel) rfl
theorem tk_y_X5_copy : tq_yok yX5_copy cX5_copy 3 none 1 := ⟨tq_g (i := 761) (by decide +kernel) rfl, tq_g (i := 56) (by decide +kernel) rfl, ⟨by decide +kernel, by decide +kernel⟩, by decide +kernel, by decide⟩
theorem tk_v_X5_copy : tq_vok yX5_copy := ⟨tq_g (i := 759) (by decide +kernel) rfl, tq_g (i := 760) (by decide +kernel) rfl⟩
theorem tk_RX8_77 : Cond.methodLink RX8 77 yX3_clear ∈ tq_G := tq_g (i := 386) (by decide +kernel) rfl
theorem tk_RX8_80 : Cond.methodLink RX8 80 yX3_spotOf ∈ tq_G := tq_g (i := 405) (by decide +kernel) rfl
theorem tk_RX8_83 : Cond.methodLink RX8 83 yX3_add ∈ tq_G := tq_g (i := 410) (by decide +kernel) rfl
theorem tk_RX8_87 : Cond.methodLink RX8 87 yX8_following ∈ tq_G := tq_g (i := 431) (by decide +kernel) rfl
theorem tk_y_X8_following : tq_yok yX8_following cX8_following 4 (some .int) 1 := ⟨tq_g (i := 434) (by decide +kernel) rfl, tq_g (i := 54) (by decide +kernel) rfl, ⟨by decide +kernel, by decide +kernel⟩, by decide +kernel, by decide⟩
theorem tk_v_X8_following : tq_vok yX8_following := ⟨tq_g (i := 433) (by decide +kernel) rfl, tq_g (i := 0) (by decide +kernel) rfl⟩
theorem tk_y_X3_add : tq_yok yX3_add cX3_add 8 none 5 := ⟨tq_g (i := 413) (by decide +kernel) rfl, tq_g (i := 55) (by decide +kernel) rfl, ⟨by decide +kernel, by decide +kernel⟩, by decide +kernel, by decide⟩
theorem tk_v_X3_add : tq_vok yX3_add := ⟨tq_g (i := 411) (by decide +kernel) rfl, tq_g (i := 412) (by decide +kernel) rfl⟩
theorem tk_y_X3_spotOf : tq_yok yX3_spotOf cX3_spotOf 2 (some .int) 1 := ⟨tq_g (i := 408) (by decide +kernel) rfl, tq_g (i := 55) (by decide +kernel) rfl, ⟨by decide +kernel, by decide +kernel⟩, by decide +kernel, by decide⟩
theorem tk_v_X3_spotOf : tq_vok yX3_spotOf := ⟨tq_g (i := 406) (by decide +kernel) rfl, tq_g (i := 407) (by decide +kernel) rfl⟩
theorem tk_RX8_90 : Cond.methodLink RX8 90 yX3_close ∈ tq_G := tq_g (i := 435) (by decide +kernel) rfl
theorem tk_y_X3_close : tq_yok yX3_close cX3_close 3 none 0 := ⟨tq_g (i := 438) (by decide +kernel) rfl, tq_g (i := 55) (by decide +kernel) rfl, ⟨by decide +kernel, by decide +kernel⟩, by decide +kernel, by decide⟩
theorem tk_v_X3_close : tq_vok yX3_close := ⟨tq_g (i := 436) (by decide +kernel) rfl, tq_g (i := 437) (by decide +kernel) rfl⟩
theorem tk_y_X3_clear : tq_yok yX3_clear cX3_clear 1 none 0 := ⟨tq_g (i := 389) (by decide +kernel) rfl, tq_g (i := 55) (by decide +kernel) rfl, ⟨by decide +kernel, by decide +kernel⟩, by decide +kernel, by decide⟩
theorem tk_v_X3_clear : tq_vok yX3_clear := ⟨tq_g (i := 387) (by decide +kernel) rfl, tq_g (i := 388) (by decide +kernel) rfl⟩
theorem tk_RX8_70 : Cond.methodLink RX8 70 yX8_copyLoose ∈ tq_G := tq_g (i := 754) (by decide +kernel) rfl
theorem tk_RX8_74 : Cond.methodLink RX8 74 yX8_layOut ∈ tq_G := tq_g (i := 769) (by decide +kernel) rfl
theorem tk_y_X8_layOut : tq_yok yX8_layOut cX8_layOut 4 none 0 := ⟨tq_g (i := 385) (by decide +kernel) rfl, tq_g (i := 54) (by decide +kernel) rfl, ⟨by decide +kernel, by decide +kernel⟩, by decide +kernel, by decide⟩
theorem tk_v_X8_layOut : tq_vok yX8_layOut := ⟨tq_g (i := 383) (by decide +kernel) rfl, tq_g (i := 384) (by decide +kernel) rfl⟩
theorem tk_y_X8_copyLoose : tq_yok yX8_copyLoose cX8_copyLoose 2 none 1 := ⟨tq_g (i := 757) (by decide +kernel) rfl, tq_g (i := 54) (by decide +kernel) rfl, ⟨by decide +kernel, by decide +kernel⟩, by decide +kernel, by decide⟩
theorem tk_v_X8_copyLoose : tq_vok yX8_copyLoose := ⟨tq_g (i := 755) (by decide +kernel) rfl, tq_g (i := 756) (by decide +kernel) rfl⟩
theorem tk_RX8_93 : Cond.methodLink RX8 93 yX3_count ∈ tq_G := tq_g (i := 458) (by decide +kernel) rfl
theorem tk_RX8_97 : Cond.methodLink RX8 97 yX3_attributesOf ∈ tq_G := tq_g (i := 1649) (by decide +kernel) rfl
theorem tk_RX8_104 : Cond.methodLink RX8 104 yJ13_bitCount_95d88 ∈ tq_G := tq_g (i := 1574) (by decide +kernel) rfl
theorem tk_y_X3_attributesOf : tq_yok yX3_attributesOf cX3_attributesOf 2 (some .long) 1 := ⟨tq_g (i := 809) (by decide +kernel) rfl, tq_g (i := 55) (by decide +kernel) rfl, ⟨by decide +kernel, by decide +kernel⟩, by decide +kernel, by decide⟩
theorem tk_v_X3_attributesOf : tq_vok yX3_attributesOf := ⟨tq_g (i := 807) (by decide +kernel) rfl, tq_g (i := 808) (by decide +kernel) rfl⟩
theorem tk_y_X3_count : tq_yok yX3_count cX3_count 1 (some .int) 0 := ⟨tq_g (i := 461) (by decide +kernel) rfl, tq_g (i := 55) (by decide +kernel) rfl, ⟨by decide +kernel, by decide +kernel⟩, by decide +kernel, by decide⟩
theorem tk_v_X3_count : tq_vok yX3_count := ⟨tq_g (i := 459) (by decide +kernel) rfl, tq_g (i := 460) (by decide +kernel) rfl⟩
theorem tk_RX8_130 : Cond.methodLink RX8 130 yX3_solids ∈ tq_G := tq_g (i := 462) (by decide +kernel) rfl
theorem tk_ki_16 : Int32.ofInt (16) = (16 : Int32) := by decide +kernel
theorem tk_y_X3_solids : tq_yok yX3_solids cX3_solids 1 (some .long) 0 := ⟨tq_g (i := 465) (by decide +kernel) rfl, tq_g (i := 55) (by decide +kernel) rfl, ⟨by decide +kernel, by decide +kernel⟩, by decide +kernel, by decide⟩
theorem tk_v_X3_solids : tq_vok yX3_solids := ⟨tq_g (i := 463) (by decide +kernel) rfl, tq_g (i := 464) (by decide +kernel) rfl⟩
theorem tk_RX8_133 : Cond.methodLink RX8 133 yX3_spotsOf ∈ tq_G := tq_g (i := 1660) (by decide +kernel) rfl
theorem tk_RX8_137 : Cond.methodLink RX8 137 yX3_spread ∈ tq_G := tq_g (i := 1664) (by decide +kernel) rfl
theorem tk_RX8_140 : Cond.constantLong RX8 140 (-1) ∈ tq_G := tq_g (i := 1665) (by decide +kernel) rfl
theorem tk_RX8_142 : Cond.methodLink RX8 142 yX0_below ∈ tq_G := tq_g (i := 1666) (by decide +kernel) rfl
theorem tk_RX8_143 : Cond.methodLink RX8 143 yX8_numberRow ∈ tq_G := tq_g (i := 1667) (by decide +kernel) rfl
theorem tk_y_X8_numberRow : tq_yok yX8_numberRow cX8_numberRow 11 (some .boolean) 3 := ⟨tq_g (i := 1670) (by decide +kernel) rfl, tq_g (i := 54) (by decide +kernel) rfl, ⟨by decide +kernel, by decide +kernel⟩, by decide +kernel, by decide⟩
theorem tk_v_X8_numberRow : tq_vok yX8_numberRow := ⟨tq_g (i := 1669) (by decide +kernel) rfl, tq_g (i := 51) (by decide +kernel) rfl⟩
theorem tk_y_X3_spread : tq_yok yX3_spread cX3_spread 6 (some .long) 1 := ⟨tq_g (i := 1211) (by decide +kernel) rfl, tq_g (i := 55) (by decide +kernel) rfl, ⟨by decide +kernel, by decide +kernel⟩, by decide +kernel, by decide⟩
theorem tk_v_X3_spread : tq_vok yX3_spread := ⟨tq_g (i := 1209) (by decide +kernel) rfl, tq_g (i := 1210) (by decide +kernel) rfl⟩
theorem tk_y_X3_spotsOf : tq_yok yX3_spotsOf cX3_spotsOf 6 (some .long) 1 := ⟨tq_g (i := 1663) (by decide +kernel) rfl, tq_g (i := 55) (by decide +kernel) rfl, ⟨by decide +kernel, by decide +kernel⟩, by decide +kernel, by decide⟩
theorem tk_v_X3_spotsOf : tq_vok yX3_spotsOf := ⟨tq_g (i := 1661) (by decide +kernel) rfl, tq_g (i := 1662) (by decide +kernel) rfl⟩
theorem tk_RX8_147 : Cond.methodLink RX8 147 yX0_one ∈ tq_G := tq_g (i := 1557) (by decide +kernel) rfl
theorem tk_RX8_150 : Cond.methodLink RX8 150 yX8_isRanked ∈ tq_G := tq_g (i := 1562) (by decide +kernel) rfl
theorem tk_RX8_156 : Cond.methodLink RX8 156 yX8_lead ∈ tq_G := tq_g (i := 1570) (by decide +kernel) rfl
theorem tk_y_X8_lead : tq_yok yX8_lead cX8_lead 11 (some .int) 3 := ⟨tq_g (i := 1573) (by decide +kernel) rfl, tq_g (i := 54) (by decide +kernel) rfl, ⟨by decide +kernel, by decide +kernel⟩, by decide +kernel, by decide⟩
theorem tk_v_X8_lead : tq_vok yX8_lead := ⟨tq_g (i := 1572) (by decide +kernel) rfl, tq_g (i := 44) (by decide +kernel) rfl⟩
theorem tk_y_X8_isRanked : tq_yok yX8_isRanked cX8_isRanked 4 (some .boolean) 2 := ⟨tq_g (i := 1565) (by decide +kernel) rfl, tq_g (i := 54) (by decide +kernel) rfl, ⟨by decide +kernel, by decide +kernel⟩, by decide +kernel, by decide⟩
theorem tk_v_X8_isRanked : tq_vok yX8_isRanked := ⟨tq_g (i := 1564) (by decide +kernel) rfl, tq_g (i := 42) (by decide +kernel) rfl⟩
theorem tk_RX8_153 : Cond.methodLink RX8 153 yX8_countAhead ∈ tq_G := tq_g (i := 1566) (by decide +kernel) rfl
theorem tk_y_X8_countAhead : tq_yok yX8_countAhead cX8_countAhead 7 (some .int) 2 := ⟨tq_g (i := 1569) (by decide +kernel) rfl, tq_g (i := 54) (by decide +kernel) rfl, ⟨by decide +kernel, by decide +kernel⟩, by decide +kernel, by decide⟩
theorem tk_v_X8_countAhead : tq_vok yX8_countAhead := ⟨tq_g (i := 1568) (by decide +kernel) rfl, tq_g (i := 43) (by decide +kernel) rfl⟩
theorem tk_RX8_160 : Cond.methodLink RX8 160 yX3_holds ∈ tq_G := tq_g (i := 1050) (by decide +kernel) rfl
theorem tk_y_X3_holds : tq_yok yX3_holds cX3_holds 2 (some .boolean) 1 := ⟨tq_g (i := 605) (by decide +kernel) rfl, tq_g (i := 55) (by decide +kernel) rfl, ⟨by decide +kernel, by decide +kernel⟩, by decide +kernel, by decide⟩
theorem tk_v_X3_holds : tq_vok yX3_holds := ⟨tq_g (i := 603) (by decide +kernel) rfl, tq_g (i := 604) (by decide +kernel) rfl⟩
theorem tk_RX9_3 : Cond.methodLink RX9 3 Lib.objectInit ∈ tq_G := tq_g (i := 213) (by decide +kernel) rfl
theorem tk_RX9_9 : Cond.classLink RX9 9 RX5 ∈ tq_G := tq_g (i := 214) (by decide +kernel) rfl
theorem tk_RX9_11 : Cond.methodLink RX9 11 yX5_init ∈ tq_G := tq_g (i := 215) (by decide +kernel) rfl
theorem tk_RX9_14 : Cond.fieldLink RX9 14 RX9 (TX9 0).2.1 (TX9 0).2.2.1 ∈ tq_G := tq_g (i := 216) (by decide +kernel) rfl
theorem tk_RX9_20 : Cond.fieldLink RX9 20 RX9 (TX9 1).2.1 (TX9 1).2.2.1 ∈ tq_G := tq_g (i := 217) (by decide +kernel) rfl
theorem tk_RX9_23 : Cond.fieldLink RX9 23 RX9 (TX9 2).2.1 (TX9 2).2.2.1 ∈ tq_G := tq_g (i := 218) (by decide +kernel) rfl
theorem tk_RX9_26 : Cond.fieldLink RX9 26 RX9 (TX9 3).2.1 (TX9 3).2.2.1 ∈ tq_G := tq_g (i := 219) (by decide +kernel) rfl
theorem tk_RX9_29 : Cond.fieldLink RX9 29 RX9 (TX9 4).2.1 (TX9 4).2.2.1 ∈ tq_G := tq_g (i := 220) (by decide +kernel) rfl
theorem tk_RX9_32 : Cond.fieldLink RX9 32 RX9 (TX9 5).2.1 (TX9 5).2.2.1 ∈ tq_G := tq_g (i := 221) (by decide +kernel) rfl
theorem tk_RX9_35 : Cond.fieldLink RX9 35 RX9 (TX9 6).2.1 (TX9 6).2.2.1 ∈ tq_G := tq_g (i := 222) (by decide +kernel) rfl
theorem tk_RX9_38 : Cond.fieldLink RX9 38 RX9 (TX9 7).2.1 (TX9 7).2.2.1 ∈ tq_G := tq_g (i := 223) (by decide +kernel) rfl
theorem tk_RX9_41 : Cond.fieldLink RX9 41 RX9 (TX9 8).2.1 (TX9 8).2.2.1 ∈ tq_G := tq_g (i := 224) (by decide +kernel) rfl
theorem tk_RX9_45 : Cond.fieldLink RX9 45 RX9 (TX9 9).2.1 (TX9 9).2.2.1 ∈ tq_G := tq_g (i := 225) (by decide +kernel) rfl
theorem tk_RX9_48 : Cond.fieldLink RX9 48 RX9 (TX9 10).2.1 (TX9 10).2.2.1 ∈ tq_G := tq_g (i := 226) (by decide +kernel) rfl
theorem tk_RX9_51 : Cond.fieldLink RX9 51 RX9 (TX9 11).2.1 (TX9 11).2.2.1 ∈ tq_G := tq_g (i := 227) (by decide +kernel) rfl
theorem tk_RX9_55 : Cond.methodLink RX9 55 yX5_set ∈ tq_G := tq_g (i := 734) (by decide +kernel) rfl
theorem tk_RX9_58 : Cond.methodLink RX9 58 yX9_add ∈ tq_G := tq_g (i := 735) (by decide +kernel) rfl
theorem tk_y_X9_add : tq_yok yX9_add cX9_add 5 (some .int) 4 := ⟨tq_g (i := 738) (by decide +kernel) rfl, tq_g (i := 59) (by decide +kernel) rfl, ⟨by decide +kernel, by decide +kernel⟩, by decide +kernel, by decide⟩
theorem tk_v_X9_add : tq_vok yX9_add := ⟨tq_g (i := 737) (by decide +kernel) rfl, tq_g (i := 7) (by decide +kernel) rfl⟩
theorem tk_RX9_70 : Cond.methodLink RX9 70 yX5_get ∈ tq_G := tq_g (i := 1593) (by decide +kernel) rfl
theorem tk_RX9_80 : Cond.fieldLink RX9 80 RX8 (TX8 0).2.1 (TX8 0).2.2.1 ∈ tq_G := tq_g (i := 165) (by decide +kernel) rfl
theorem tk_RX9_84 : Cond.methodLink RX9 84 yX3_holds ∈ tq_G := tq_g (i := 1594) (by decide +kernel) rfl
theorem tk_RX9_89 : Cond.methodLink RX9 89 yX3_childCount ∈ tq_G := tq_g (i := 1595) (by decide +kernel) rfl
theorem tk_y_X3_childCount : tq_yok yX3_childCount cX3_childCount 2 (some .int) 1 := ⟨tq_g (i := 677) (by decide +kernel) rfl, tq_g (i := 55) (by decide +kernel) rfl, ⟨by decide +kernel, by decide +kernel⟩, by decide +kernel, by decide⟩
theorem tk_v_X3_childCount : tq_vok yX3_childCount := ⟨tq_g (i := 675) (by decide +kernel) rfl, tq_g (i := 676) (by decide +kernel) rfl⟩
theorem tk_RX9_92 : Cond.methodLink RX9 92 yX9_doClash ∈ tq_G := tq_g (i := 1600) (by decide +kernel) rfl
theorem tk_y_X9_doClash : tq_yok yX9_doClash cX9_doClash 2 (some .boolean) 2 := ⟨tq_g (i := 1602) (by decide +kernel) rfl, tq_g (i := 59) (by decide +kernel) rfl, ⟨by decide +kernel, by decide +kernel⟩, by decide +kernel, by decide⟩
theorem tk_s_X9_doClash : Cond.static yX9_doClash ∈ tq_G := tq_g (i := 1601) (by decide +kernel) rfl
theorem tk_RX9_62 : Cond.methodLink RX9 62 yX9_isStale ∈ tq_G := tq_g (i := 1589) (by decide +kernel) rfl
theorem tk_RX9_66 : Cond.methodLink RX9 66 yX9_hasClash ∈ tq_G := tq_g (i := 1596) (by decide +kernel) rfl
theorem tk_y_X9_hasClash : tq_yok yX9_hasClash cX9_hasClash 3 (some .boolean) 1 := ⟨tq_g (i := 1599) (by decide +kernel) rfl, tq_g (i := 59) (by decide +kernel) rfl, ⟨by decide +kernel, by decide +kernel⟩, by decide +kernel, by decide⟩
theorem tk_v_X9_hasClash : tq_vok yX9_hasClash := ⟨tq_g (i := 1598) (by decide +kernel) rfl, tq_g (i := 46) (by decide +kernel) rfl⟩
theorem tk_y_X9_isStale : tq_yok yX9_isStale cX9_isStale 5 (some .boolean) 2 := ⟨tq_g (i := 1592) (by decide +kernel) rfl, tq_g (i := 59) (by decide +kernel) rfl, ⟨by decide +kernel, by decide +kernel⟩, by decide +kernel, by decide⟩
theorem tk_v_X9_isStale : tq_vok yX9_isStale := ⟨tq_g (i := 1591) (by decide +kernel) rfl, tq_g (i := 45) (by decide +kernel) rfl⟩
theorem tk_RX9_74 : Cond.methodLink RX9 74 yX8_madeCount ∈ tq_G := tq_g (i := 1603) (by decide +kernel) rfl
theorem tk_y_X8_madeCount : tq_yok yX8_madeCount cX8_madeCount 1 (some .int) 0 := ⟨tq_g (i := 832) (by decide +kernel) rfl, tq_g (i := 54) (by decide +kernel) rfl, ⟨by decide +kernel, by decide +kernel⟩, by decide +kernel, by decide⟩
theorem tk_v_X8_madeCount : tq_vok yX8_madeCount := ⟨tq_g (i := 830) (by decide +kernel) rfl, tq_g (i := 831) (by decide +kernel) rfl⟩
theorem tk_RX9_125 : Cond.methodLink RX9 125 yX0_one ∈ tq_G := tq_g (i := 1614) (by decide +kernel) rfl
theorem tk_RX9_129 : Cond.methodLink RX9 129 yX8_make ∈ tq_G := tq_g (i := 1615) (by decide +kernel) rfl
theorem tk_y_X8_make : tq_yok yX8_make cX8_make 5 (some .int) 3 := ⟨tq_g (i := 377) (by decide +kernel) rfl, tq_g (i := 54) (by decide +kernel) rfl, ⟨by decide +kernel, by decide +kernel⟩, by decide +kernel, by decide⟩
theorem tk_v_X8_make : tq_vok yX8_make := ⟨tq_g (i := 375) (by decide +kernel) rfl, tq_g (i := 376) (by decide +kernel) rfl⟩
theorem tk_RX9_133 : Cond.fieldLink RX9 133 RX8 (TX8 2).2.1 (TX8 2).2.2.1 ∈ tq_G := tq_g (i := 171) (by decide +kernel) rfl
theorem tk_RX9_134 : Cond.fieldLink RX9 134 RX8 (TX8 3).2.1 (TX8 3).2.2.1 ∈ tq_G := tq_g (i := 174) (by decide +kernel) rfl
theorem tk_RX9_135 : Cond.fieldLink RX9 135 RX8 (TX8 4).2.1 (TX8 4).2.2.1 ∈ tq_G := tq_g (i := 176) (by decide +kernel) rfl
theorem tk_RX9_138 : Cond.methodLink RX9 138 yX3_nodeAt ∈ tq_G := tq_g (i := 1623) (by decide +kernel) rfl
theorem tk_RX9_141 : Cond.methodLink RX9 141 yX3_attributesOf ∈ tq_G := tq_g (i := 1624) (by decide +kernel) rfl
theorem tk_RX9_144 : Cond.methodLink RX9 144 yJ13_bitCount_95d88 ∈ tq_G := tq_g (i := 1625) (by decide +kernel) rfl
theorem tk_RX9_110 : Cond.methodLink RX9 110 yX0_holds ∈ tq_G := tq_g (i := 1618) (by decide +kernel) rfl
theorem tk_RX9_150 : Cond.methodLink RX9 150 yX3_nodeOfSet ∈ tq_G := tq_g (i := 1626) (by decide +kernel) rfl
theorem tk_RX9_154 : Cond.methodLink RX9 154 yX8_append ∈ tq_G := tq_g (i := 1627) (by decide +kernel) rfl
theorem tk_y_X8_append : tq_yok yX8_append cX8_append 4 none 2 := ⟨tq_g (i := 1630) (by decide +kernel) rfl, tq_g (i := 54) (by decide +kernel) rfl, ⟨by decide +kernel, by decide +kernel⟩, by decide +kernel, by decide⟩
theorem tk_v_X8_append : tq_vok yX8_append := ⟨tq_g (i := 1628) (by decide +kernel) rfl, tq_g (i := 1629) (by decide +kernel) rfl⟩
theorem tk_RX9_157 : Cond.methodLink RX9 157 yX9_isInto ∈ tq_G := tq_g (i := 1631) (by decide +kernel) rfl
theorem tk_y_X9_isInto : tq_yok yX9_isInto cX9_isInto 4 (some .boolean) 3 := ⟨tq_g (i := 1634) (by decide +kernel) rfl, tq_g (i := 59) (by decide +kernel) rfl, ⟨by decide +kernel, by decide +kernel⟩, by decide +kernel, by decide⟩
theorem tk_v_X9_isInto : tq_vok yX9_isInto := ⟨tq_g (i := 1633) (by decide +kernel) rfl, tq_g (i := 49) (by decide +kernel) rfl⟩
theorem tk_RX9_161 : Cond.methodLink RX9 161 yX3_children ∈ tq_G := tq_g (i := 1639) (by decide +kernel) rfl
theorem tk_RX9_96 : Cond.methodLink RX9 96 yX8_copyLoose ∈ tq_G := tq_g (i := 1609) (by decide +kernel) rfl
theorem tk_RX9_100 : Cond.methodLink RX9 100 yX9_change ∈ tq_G := tq_g (i := 1610) (by decide +kernel) rfl
theorem tk_y_X9_change : tq_yok yX9_change cX9_change 5 none 2 := ⟨tq_g (i := 1613) (by decide +kernel) rfl, tq_g (i := 59) (by decide +kernel) rfl, ⟨by decide +kernel, by decide +kernel⟩, by decide +kernel, by decide⟩
theorem tk_v_X9_change : tq_vok yX9_change := ⟨tq_g (i := 1612) (by decide +kernel) rfl, tq_g (i := 47) (by decide +kernel) rfl⟩
theorem tk_RX9_104 : Cond.methodLink RX9 104 yX3_count ∈ tq_G := tq_g (i := 1616) (by decide +kernel) rfl
theorem tk_RX9_106 : Cond.methodLink RX9 106 yX3_elements ∈ tq_G := tq_g (i := 1617) (by decide +kernel) rfl
theorem tk_RX9_115 : Cond.methodLink RX9 115 yX9_linkAttributes ∈ tq_G := tq_g (i := 1619) (by decide +kernel) rfl
theorem tk_RX9_119 : Cond.methodLink RX9 119 yX9_linkChildren ∈ tq_G := tq_g (i := 1635) (by decide +kernel) rfl
theorem tk_y_X9_linkChildren : tq_yok yX9_linkChildren cX9_linkChildren 11 none 3 := ⟨tq_g (i := 1638) (by decide +kernel) rfl, tq_g (i := 59) (by decide +kernel) rfl, ⟨by decide +kernel, by decide +kernel⟩, by decide +kernel, by decide⟩
theorem tk_v_X9_linkChildren : tq_vok yX9_linkChildren := ⟨tq_g (i := 1637) (by decide +kernel) rfl, tq_g (i := 50) (by decide +kernel) rfl⟩
theorem tk_y_X9_linkAttributes : tq_yok yX9_linkAttributes cX9_linkAttributes 12 none 3 := ⟨tq_g (i := 1622) (by decide +kernel) rfl, tq_g (i := 59) (by decide +kernel) rfl, ⟨by decide +kernel, by decide +kernel⟩, by decide +kernel, by decide⟩
theorem tk_v_X9_linkAttributes : tq_vok yX9_linkAttributes := ⟨tq_g (i := 1621) (by decide +kernel) rfl, tq_g (i := 48) (by decide +kernel) rfl⟩
theorem tk_RX9_122 : Cond.methodLink RX9 122 yX8_layOut ∈ tq_G := tq_g (i := 1640) (by decide +kernel) rfl
abbrev mX8_looksLike : tq_M := (RX8, cX8_looksLike, 4, (some .boolean), false, [], none)
def f_X8_looksLike (t : Nat) (a1 : Int32) (a2 : Nat) (a3 : Int32) (h : tq_H) : Option (Int32) :=
  (tq_gr h t 8 1).bind fun k1 =>
  (tq_is h k1 5).bind fun _ =>
  (f_X5_get k1 a1 h).bind fun v2 =>
  (tq_gr h a2 8 1).bind fun k4 =>
  (tq_is h k4 5).bind fun _ =>
  (f_X5_get k4 a3 h).bind fun v5 =>
  (if v2 = v5 then
    (tq_gr h t 8 2).bind fun k7 =>
    (tq_is h k7 5).bind fun _ =>
    (f_X5_get k7 a1 h).bind fun v8 =>
    (tq_gr h a2 8 2).bind fun k10 =>
    (tq_is h k10 5).bind fun _ =>
    (f_X5_get k10 a3 h).bind fun v11 =>
    if v8 = v11 then
      (tq_gr h t 8 3).bind fun k13 =>
      (tq_is h k13 5).bind fun _ =>
      (f_X5_get k13 a1 h).bind fun v14 =>
      (tq_gr h a2 8 3).bind fun k16 =>
      (tq_is h k16 5).bind fun _ =>
      (f_X5_get k16 a3 h).bind fun v17 =>
      if v14 = v17 then
        (tq_gr h t 8 4).bind fun k19 =>
        (tq_is h k19 5).bind fun _ =>
        (f_X5_get k19 a1 h).bind fun v20 =>
        (tq_gr h a2 8 4).bind fun k22 =>
        (tq_is h k22 5).bind fun _ =>
        (f_X5_get k22 a3 h).bind fun v23 =>
        if v20 = v23 then
          some (1 : Int32)
        else
          some (0 : Int32)
      else
        some (0 : Int32)
    else
      some (0 : Int32)
  else
    some (0 : Int32)).bind fun p25 =>
  (tq_bz p25).bind fun z26 =>
  some z26
set_option maxHeartbeats 4000000 in
set_option maxRecDepth 20000 in
theorem w_X8_looksLike {l : Launch} {d : Nat} (hd9 : 1 ≤ d) {t : Nat} {a1 : Int32} {a2 : Nat} {a3 : Int32} {h : tq_H} {o : Int32} {Q : tq_R → tq_H → Prop} (hf : f_X8_looksLike t a1 a2 a3 h = some o) (hQ : ∀ r h9, r = .inl (some (.int o)) ∧ h = h9 → Q r h9) : tq_C l yX8_looksLike cX8_looksLike 4 (some .boolean) d 0 0 [.ref t, .int a1, .ref a2, .int a3] h Q := by
  refine tq_body (y := yX8_looksLike) false (by decide +kernel) (fun z => by cases z) (Nat.le_of_ble_eq_true rfl) ?_
  show tq_W l mX8_looksLike d 0 0 Q 0 [(0, .ref t), (1, .int a1), (2, .ref a2), (3, .int a3)] [] h
  refine tq_aload_n (M := mX8_looksLike) (pc := 0) dX8_looksLike_0 rfl ?_
  obtain ⟨k1, ek1, hf⟩ := tq_be hf
  refine tq_getR (M := mX8_looksLike) (pc := 1) tk_c8 (by decide) dX8_looksLike_1 tk_RX8_23 rfl ek1 ?_
  refine tq_iload_n (M := mX8_looksLike) (pc := 4) dX8_looksLike_4 rfl ?_
  obtain ⟨⟨⟩, eu3, hf⟩ := tq_be hf
  obtain ⟨fsu3, eu3⟩ := tq_is_s eu3
  obtain ⟨v2, ev2, hf⟩ := tq_be hf
  refine tq_calV (M := mX8_looksLike) (pc := 5) (S := []) tk_y_X5_get tk_v_X5_get tk_RX8_58 dX8_looksLike_5 [.int a1] rfl (S0 := _) rfl eu3 rfl (Nat.le_of_ble_eq_true rfl) (d1 := d - 1) (b1 := 0) (s1 := 0) (bc' := 0) (bs' := 0) (Q1 := fun r h9 => r = .inl (some (.int v2)) ∧ h = h9) (by omega) rfl rfl (w_X5_get (by omega) ev2 (fun _ _ q => q)) (fun E h9 q => nomatch (show (Sum.inr E : tq_R) = Sum.inl _ from q.1)) (fun r9 h9 q => ?_)
  obtain ⟨q1, rfl⟩ := q
  cases (show (Sum.inl r9 : tq_R) = Sum.inl (some (.int v2)) from q1)
  refine tq_aload_n (M := mX8_looksLike) (pc := 8) dX8_looksLike_8 rfl ?_
  obtain ⟨k4, ek4, hf⟩ := tq_be hf
  refine tq_getR (M := mX8_looksLike) (pc := 9) tk_c8 (by decide) dX8_looksLike_9 tk_RX8_23 rfl ek4 ?_
  refine tq_iload_n (M := mX8_looksLike) (pc := 12) dX8_looksLike_12 rfl ?_
  obtain ⟨⟨⟩, eu6, hf⟩ := tq_be hf
  obtain ⟨fsu6, eu6⟩ := tq_is_s eu6
  obtain ⟨v5, ev5, hf⟩ := tq_be hf
  refine tq_calV (M := mX8_looksLike) (pc := 13) (S := [.int v2]) tk_y_X5_get tk_v_X5_get tk_RX8_58 dX8_looksLike_13 [.int a3] rfl (S0 := _) rfl eu6 rfl (Nat.le_of_ble_eq_true rfl) (d1 := d - 1) (b1 := 0) (s1 := 0) (bc' := 0) (bs' := 0) (Q1 := fun r h9 => r = .inl (some (.int v5)) ∧ h = h9) (by omega) rfl rfl (w_X5_get (by omega) ev5 (fun _ _ q => q)) (fun E h9 q => nomatch (show (Sum.inr E : tq_R) = Sum.inl _ from q.1)) (fun r9 h9 q => ?_)
  obtain ⟨q1, rfl⟩ := q
  cases (show (Sum.inl r9 : tq_R) = Sum.inl (some (.int v5)) from q1)
  obtain ⟨p25, ep25, hf⟩ := tq_be hf
  have HJ16 : tq_W l mX8_looksLike d 0 0 Q 81 [] [.int p25] h := by
    obtain ⟨z26, ez26, hf⟩ := tq_be hf
    refine tq_zretB (M := mX8_looksLike) (pc := 81) dX8_looksLike_81 rfl ez26 ?_
    cases (Option.some.inj hf)
    exact hQ _ _ ⟨rfl, rfl⟩
  refine tq_icmp_ne (M := mX8_looksLike) (pc := 16) (tgt := 80) dX8_looksLike_16 (by decide) (fun cc => ?_) (fun cc => ?_)
  · have hf := tq_ifn ep25 cc
    refine tq_iconst (M := mX8_looksLike) (pc := 80) dX8_looksLike_80 tk_ki_0 ?_
    refine tq_pick (L2 := []) [] rfl ?_
    cases (Option.some.inj hf)
    exact HJ16
  · have hf := tq_ifp ep25 cc
    refine tq_aload_n (M := mX8_looksLike) (pc := 19) dX8_looksLike_19 rfl ?_
    obtain ⟨k7, ek7, hf⟩ := tq_be hf
    refine tq_getR (M := mX8_looksLike) (pc := 20) tk_c8 (by decide) dX8_looksLike_20 tk_RX8_27 rfl ek7 ?_
    refine tq_iload_n (M := mX8_looksLike) (pc := 23) dX8_looksLike_23 rfl ?_
    obtain ⟨⟨⟩, eu9, hf⟩ := tq_be hf
    obtain ⟨fsu9, eu9⟩ := tq_is_s eu9
    obtain ⟨v8, ev8, hf⟩ := tq_be hf
    refine tq_calV (M := mX8_looksLike) (pc := 24) (S := []) tk_y_X5_get tk_v_X5_get tk_RX8_58 dX8_looksLike_24 [.int a1] rfl (S0 := _) rfl eu9 rfl (Nat.le_of_ble_eq_true rfl) (d1 := d - 1) (b1 := 0) (s1 := 0) (bc' := 0) (bs' := 0) (Q1 := fun r h9 => r = .inl (some (.int v8)) ∧ h = h9) (by omega) rfl rfl (w_X5_get (by omega) ev8 (fun _ _ q => q)) (fun E h9 q => nomatch (show (Sum.inr E : tq_R) = Sum.inl _ from q.1)) (fun r9 h9 q => ?_)
    obtain ⟨q1, rfl⟩ := q
    cases (show (Sum.inl r9 : tq_R) = Sum.inl (some (.int v8)) from q1)
    refine tq_aload_n (M := mX8_looksLike) (pc := 27) dX8_looksLike_27 rfl ?_
    obtain ⟨k10, ek10, hf⟩ := tq_be hf
    refine tq_getR (M := mX8_looksLike) (pc := 28) tk_c8 (by decide) dX8_looksLike_28 tk_RX8_27 rfl ek10 ?_
    refine tq_iload_n (M := mX8_looksLike) (pc := 31) dX8_looksLike_31 rfl ?_
    obtain ⟨⟨⟩, eu12, hf⟩ := tq_be hf
    obtain ⟨fsu12, eu12⟩ := tq_is_s eu12
    obtain ⟨v11, ev11, hf⟩ := tq_be hf
    refine tq_calV (M := mX8_looksLike) (pc := 32) (S := [.int v8]) tk_y_X5_get tk_v_X5_get tk_RX8_58 dX8_looksLike_32 [.int a3] rfl (S0 := _) rfl eu12 rfl (Nat.le_of_ble_eq_true rfl) (d1 := d - 1) (b1 := 0) (s1 := 0) (bc' := 0) (bs' := 0) (Q1 := fun r h9 => r = .inl (some (.int v11)) ∧ h = h9) (by omega) rfl rfl (w_X5_get (by omega) ev11 (fun _ _ q => q)) (fun E h9 q => nomatch (show (Sum.inr E : tq_R) = Sum.inl _ from q.1)) (fun r9 h9 q => ?_)
    obtain ⟨q1, rfl⟩ := q
    cases (show (Sum.inl r9 : tq_R) = Sum.inl (some (.int v11)) from q1)
    refine tq_icmp_ne (M := mX8_looksLike) (pc := 35) (tgt := 80) dX8_looksLike_35 (by decide) (fun cc => ?_) (fun cc => ?_)
    · have hf := tq_ifn hf cc
      refine tq_iconst (M := mX8_looksLike) (pc := 80) dX8_looksLike_80 tk_ki_0 ?_
      refine tq_pick (L2 := []) [] rfl ?_
      cases (Option.some.inj hf)
      exact HJ16
    · have hf := tq_ifp hf cc
      refine tq_aload_n (M := mX8_looksLike) (pc := 38) dX8_looksLike_38 rfl ?_
      obtain ⟨k13, ek13, hf⟩ := tq_be hf
      refine tq_getR (M := mX8_looksLike) (pc := 39) tk_c8 (by decide) dX8_looksLike_39 tk_RX8_30 rfl ek13 ?_
      refine tq_iload_n (M := mX8_looksLike) (pc := 42) dX8_looksLike_42 rfl ?_
      obtain ⟨⟨⟩, eu15, hf⟩ := tq_be hf
      obtain ⟨fsu15, eu15⟩ := tq_is_s eu15
      obtain ⟨v14, ev14, hf⟩ := tq_be hf
      refine tq_calV (M := mX8_looksLike) (pc := 43) (S := []) tk_y_X5_get tk_v_X5_get tk_RX8_58 dX8_looksLike_43 [.int a1] rfl (S0 := _) rfl eu15 rfl (Nat.le_of_ble_eq_true rfl) (d1 := d - 1) (b1 := 0) (s1 := 0) (bc' := 0) (bs' := 0) (Q1 := fun r h9 => r = .inl (some (.int v14)) ∧ h = h9) (by omega) rfl rfl (w_X5_get (by omega) ev14 (fun _ _ q => q)) (fun E h9 q => nomatch (show (Sum.inr E : tq_R) = Sum.inl _ from q.1)) (fun r9 h9 q => ?_)
      obtain ⟨q1, rfl⟩ := q
      cases (show (Sum.inl r9 : tq_R) = Sum.inl (some (.int v14)) from q1)
      refine tq_aload_n (M := mX8_looksLike) (pc := 46) dX8_looksLike_46 rfl ?_
      obtain ⟨k16, ek16, hf⟩ := tq_be hf
      refine tq_getR (M := mX8_looksLike) (pc := 47) tk_c8 (by decide) dX8_looksLike_47 tk_RX8_30 rfl ek16 ?_
      refine tq_iload_n (M := mX8_looksLike) (pc := 50) dX8_looksLike_50 rfl ?_
      obtain ⟨⟨⟩, eu18, hf⟩ := tq_be hf
      obtain ⟨fsu18, eu18⟩ := tq_is_s eu18
      obtain ⟨v17, ev17, hf⟩ := tq_be hf
      refine tq_calV (M := mX8_looksLike) (pc := 51) (S := [.int v14]) tk_y_X5_get tk_v_X5_get tk_RX8_58 dX8_looksLike_51 [.int a3] rfl (S0 := _) rfl eu18 rfl (Nat.le_of_ble_eq_true rfl) (d1 := d - 1) (b1 := 0) (s1 := 0) (bc' := 0) (bs' := 0) (Q1 := fun r h9 => r = .inl (some (.int v17)) ∧ h = h9) (by omega) rfl rfl (w_X5_get (by omega) ev17 (fun _ _ q => q)) (fun E h9 q => nomatch (show (Sum.inr E : tq_R) = Sum.inl _ from q.1)) (fun r9 h9 q => ?_)
      obtain ⟨q1, rfl⟩ := q
      cases (show (Sum.inl r9 : tq_R) = Sum.inl (some (.int v17)) from q1)
      refine tq_icmp_ne (M := mX8_looksLike) (pc := 54) (tgt := 80) dX8_looksLike_54 (by decide) (fun cc => ?_) (fun cc => ?_)
      · have hf := tq_ifn hf cc
        refine tq_iconst (M := mX8_looksLike) (pc := 80) dX8_looksLike_80 tk_ki_0 ?_
        refine tq_pick (L2 := []) [] rfl ?_
        cases (Option.some.inj hf)
        exact HJ16
      · have hf := tq_ifp hf cc
        refine tq_aload_n (M := mX8_looksLike) (pc := 57) dX8_looksLike_57 rfl ?_
        obtain ⟨k19, ek19, hf⟩ := tq_be hf
        refine tq_getR (M := mX8_looksLike) (pc := 58) tk_c8 (by decide) dX8_looksLike_58 tk_RX8_33 rfl ek19 ?_
        refine tq_iload_n (M := mX8_looksLike) (pc := 61) dX8_looksLike_61 rfl ?_
        obtain ⟨⟨⟩, eu21, hf⟩ := tq_be hf
        obtain ⟨fsu21, eu21⟩ := tq_is_s eu21
        obtain ⟨v20, ev20, hf⟩ := tq_be hf
        refine tq_calV (M := mX8_looksLike) (pc := 62) (S := []) tk_y_X5_get tk_v_X5_get tk_RX8_58 dX8_looksLike_62 [.int a1] rfl (S0 := _) rfl eu21 rfl (Nat.le_of_ble_eq_true rfl) (d1 := d - 1) (b1 := 0) (s1 := 0) (bc' := 0) (bs' := 0) (Q1 := fun r h9 => r = .inl (some (.int v20)) ∧ h = h9) (by omega) rfl rfl (w_X5_get (by omega) ev20 (fun _ _ q => q)) (fun E h9 q => nomatch (show (Sum.inr E : tq_R) = Sum.inl _ from q.1)) (fun r9 h9 q => ?_)
        obtain ⟨q1, rfl⟩ := q
        cases (show (Sum.inl r9 : tq_R) = Sum.inl (some (.int v20)) from q1)
        refine tq_aload_n (M := mX8_looksLike) (pc := 65) dX8_looksLike_65 rfl ?_
        obtain ⟨k22, ek22, hf⟩ := tq_be hf
        refine tq_getR (M := mX8_looksLike) (pc := 66) tk_c8 (by decide) dX8_looksLike_66 tk_RX8_33 rfl ek22 ?_
        refine tq_iload_n (M := mX8_looksLike) (pc := 69) dX8_looksLike_69 rfl ?_
        obtain ⟨⟨⟩, eu24, hf⟩ := tq_be hf
        obtain ⟨fsu24, eu24⟩ := tq_is_s eu24
        obtain ⟨v23, ev23, hf⟩ := tq_be hf
        refine tq_calV (M := mX8_looksLike) (pc := 70) (S := [.int v20]) tk_y_X5_get tk_v_X5_get tk_RX8_58 dX8_looksLike_70 [.int a3] rfl (S0 := _) rfl eu24 rfl (Nat.le_of_ble_eq_true rfl) (d1 := d - 1) (b1 := 0) (s1 := 0) (bc' := 0) (bs' := 0) (Q1 := fun r h9 => r = .inl (some (.int v23)) ∧ h = h9) (by omega) rfl rfl (w_X5_get (by omega) ev23 (fun _ _ q => q)) (fun E h9 q => nomatch (show (Sum.inr E : tq_R) = Sum.inl _ from q.1)) (fun r9 h9 q => ?_)
        obtain ⟨q1, rfl⟩ := q
        cases (show (Sum.inl r9 : tq_R) = Sum.inl (some (.int v23)) from q1)
        refine tq_icmp_ne (M := mX8_looksLike) (pc := 73) (tgt := 80) dX8_looksLike_73 (by decide) (fun cc => ?_) (fun cc => ?_)
        · have hf := tq_ifn hf cc
          refine tq_iconst (M := mX8_looksLike) (pc := 80) dX8_looksLike_80 tk_ki_0 ?_
          refine tq_pick (L2 := []) [] rfl ?_
          cases (Option.some.inj hf)
          exact HJ16
        · have hf := tq_ifp hf cc
          refine tq_iconst (M := mX8_looksLike) (pc := 76) dX8_looksLike_76 tk_ki_1 ?_
          refine tq_goto (M := mX8_looksLike) (pc := 77) (tgt := 81) dX8_looksLike_77 (by decide) ?_
          refine tq_pick (L2 := []) [] rfl ?_
          cases (Option.some.inj hf)
          exact HJ16
abbrev mX8_valueAt : tq_M := (RX8, cX8_valueAt, 6, (some .int), false, [], none)
def f_X8_valueAt (t : Nat) (a1 : Int32) (a2 : Int64) (h : tq_H) : Option (Int32) :=
  (tq_gr h t 8 0).bind fun k1 =>
  (tq_is h k1 3).bind fun _ =>
  (f_X3_elements k1 h).bind fun v2 =>
  (f_X0_holds v2 a1 h).bind fun v4 =>
  if v4 = 0 then
    (tq_gr h t 8 3).bind fun k18 =>
    (tq_gr h t 8 0).bind fun k19 =>
    (tq_is h k19 3).bind fun _ =>
    (f_X3_nodeAt k19 a1 h).bind fun v20 =>
    (tq_is h k18 5).bind fun _ =>
    (f_X5_get k18 v20 h).bind fun v22 =>
    some v22
  else
    (tq_gr h t 8 0).bind fun k5 =>
    (tq_is h k5 3).bind fun _ =>
    (f_X3_below k5 a1 h).bind fun v6 =>
    (tq_gr h t 8 0).bind fun k8 =>
    (tq_is h k8 3).bind fun _ =>
    (f_X3_passing k8 (9 : Int32) h).bind fun v9 =>
    tq_let (((v6 &&& v9) &&& a2)) fun x11 =>
    (tq_gr h t 8 3).bind fun k12 =>
    (tq_gr h t 8 0).bind fun k13 =>
    (tq_is h k13 3).bind fun _ =>
    (f_X3_nodeOfSet k13 x11 (0 : Int32) h).bind fun v14 =>
    (tq_is h k12 5).bind fun _ =>
    (f_X5_get k12 v14 h).bind fun v16 =>
    some v16
set_option maxHeartbeats 4000000 in
set_option maxRecDepth 20000 in
theorem w_X8_valueAt {l : Launch} {d : Nat} (hd9 : 4 ≤ d) {t : Nat} {a1 : Int32} {a2 : Int64} {h : tq_H} {o : Int32} {Q : tq_R → tq_H → Prop} (hf : f_X8_valueAt t a1 a2 h = some o) (hQ : ∀ r h9, r = .inl (some (.int o)) ∧ h = h9 → Q r h9) : tq_C l yX8_valueAt cX8_valueAt 6 (some .int) d 0 0 [.ref t, .int a1, .long a2] h Q := by
  refine tq_body (y := yX8_valueAt) false (by decide +kernel) (fun z => by cases z) (Nat.le_of_ble_eq_true rfl) ?_
  show tq_W l mX8_valueAt d 0 0 Q 0 [(0, .ref t), (1, .int a1), (2, .long a2)] [] h
  refine tq_aload_n (M := mX8_valueAt) (pc := 0) dX8_valueAt_0 rfl ?_
  obtain ⟨k1, ek1, hf⟩ := tq_be hf
  refine tq_getR (M := mX8_valueAt) (pc := 1) tk_c8 (by decide) dX8_valueAt_1 tk_RX8_12 rfl ek1 ?_
  obtain ⟨⟨⟩, eu3, hf⟩ := tq_be hf
  obtain ⟨fsu3, eu3⟩ := tq_is_s eu3
  obtain ⟨v2, ev2, hf⟩ := tq_be hf
  refine tq_calV (M := mX8_valueAt) (pc := 4) (S := []) tk_y_X3_elements tk_v_X3_elements tk_RX8_110 dX8_valueAt_4 [] rfl (S0 := _) rfl eu3 rfl (Nat.le_of_ble_eq_true rfl) (d1 := d - 1) (b1 := 0) (s1 := 0) (bc' := 0) (bs' := 0) (Q1 := fun r h9 => r = .inl (some (.long v2)) ∧ h = h9) (by omega) rfl rfl (w_X3_elements (by omega) ev2 (fun _ _ q => q)) (fun E h9 q => nomatch (show (Sum.inr E : tq_R) = Sum.inl _ from q.1)) (fun r9 h9 q => ?_)
  obtain ⟨q1, rfl⟩ := q
  cases (show (Sum.inl r9 : tq_R) = Sum.inl (some (.long v2)) from q1)
  refine tq_iload_n (M := mX8_valueAt) (pc := 7) dX8_valueAt_7 rfl ?_
  obtain ⟨v4, ev4, hf⟩ := tq_be hf
  refine tq_calS (M := mX8_valueAt) (pc := 8) (S := []) tk_y_X0_holds tk_s_X0_holds tk_RX8_114 dX8_valueAt_8 [.long v2, .int a1] rfl (Nat.le_of_ble_eq_true rfl) (d1 := d - 1) (b1 := 0) (s1 := 0) (bc' := 0) (bs' := 0) (Q1 := fun r h9 => r = .inl (some (.int v4)) ∧ h = h9) (by omega) rfl rfl (w_X0_holds (by omega) ev4 (fun _ _ q => q)) (fun E h9 q => nomatch (show (Sum.inr E : tq_R) = Sum.inl _ from q.1)) (fun r9 h9 q => ?_)
  obtain ⟨q1, rfl⟩ := q
  cases (show (Sum.inl r9 : tq_R) = Sum.inl (some (.int v4)) from q1)
  refine tq_if_ne (M := mX8_valueAt) (pc := 11) (tgt := 30) dX8_valueAt_11 (by decide) (fun cc => ?_) (fun cc => ?_)
  · have hf := tq_ifn hf cc
    refine tq_aload_n (M := mX8_valueAt) (pc := 30) dX8_valueAt_30 rfl ?_
    obtain ⟨k5, ek5, hf⟩ := tq_be hf
    refine tq_getR (M := mX8_valueAt) (pc := 31) tk_c8 (by decide) dX8_valueAt_31 tk_RX8_12 rfl ek5 ?_
    refine tq_iload_n (M := mX8_valueAt) (pc := 34) dX8_valueAt_34 rfl ?_
    obtain ⟨⟨⟩, eu7, hf⟩ := tq_be hf
    obtain ⟨fsu7, eu7⟩ := tq_is_s eu7
    obtain ⟨v6, ev6, hf⟩ := tq_be hf
    refine tq_calV (M := mX8_valueAt) (pc := 35) (S := []) tk_y_X3_below tk_v_X3_below tk_RX8_123 dX8_valueAt_35 [.int a1] rfl (S0 := _) rfl eu7 rfl (Nat.le_of_ble_eq_true rfl) (d1 := d - 1) (b1 := 0) (s1 := 0) (bc' := 0) (bs' := 0) (Q1 := fun r h9 => r = .inl (some (.long v6)) ∧ h = h9) (by omega) rfl rfl (w_X3_below (by omega) ev6 (fun _ _ q => q)) (fun E h9 q => nomatch (show (Sum.inr E : tq_R) = Sum.inl _ from q.1)) (fun r9 h9 q => ?_)
    obtain ⟨q1, rfl⟩ := q
    cases (show (Sum.inl r9 : tq_R) = Sum.inl (some (.long v6)) from q1)
    refine tq_aload_n (M := mX8_valueAt) (pc := 38) dX8_valueAt_38 rfl ?_
    obtain ⟨k8, ek8, hf⟩ := tq_be hf
    refine tq_getR (M := mX8_valueAt) (pc := 39) tk_c8 (by decide) dX8_valueAt_39 tk_RX8_12 rfl ek8 ?_
    refine tq_bipush (M := mX8_valueAt) (pc := 42) dX8_valueAt_42 tk_kb_9 ?_
    obtain ⟨⟨⟩, eu10, hf⟩ := tq_be hf
    obtain ⟨fsu10, eu10⟩ := tq_is_s eu10
    obtain ⟨v9, ev9, hf⟩ := tq_be hf
    refine tq_calV (M := mX8_valueAt) (pc := 44) (S := [.long v6]) tk_y_X3_passing tk_v_X3_passing tk_RX8_101 dX8_valueAt_44 [.int (9 : Int32)] rfl (S0 := _) rfl eu10 rfl (Nat.le_of_ble_eq_true rfl) (d1 := d - 1) (b1 := 0) (s1 := 0) (bc' := 0) (bs' := 0) (Q1 := fun r h9 => r = .inl (some (.long v9)) ∧ h = h9) (by omega) rfl rfl (w_X3_passing (by omega) ev9 (fun _ _ q => q)) (fun E h9 q => nomatch (show (Sum.inr E : tq_R) = Sum.inl _ from q.1)) (fun r9 h9 q => ?_)
    obtain ⟨q1, rfl⟩ := q
    cases (show (Sum.inl r9 : tq_R) = Sum.inl (some (.long v9)) from q1)
    refine tq_land (M := mX8_valueAt) (pc := 47) dX8_valueAt_47 ?_
    refine tq_lload_n (M := mX8_valueAt) (pc := 48) dX8_valueAt_48 rfl ?_
    refine tq_land (M := mX8_valueAt) (pc := 49) dX8_valueAt_49 ?_
    obtain ⟨x11, ex11, hf⟩ := tq_le hf
    refine tq_lstore (M := mX8_valueAt) (pc := 50) dX8_valueAt_50 (L2 := [(4, .long x11), (0, .ref t), (1, .int a1), (2, .long a2)]) (by decide) (by rw [ex11]; rfl) ?_
    refine tq_aload_n (M := mX8_valueAt) (pc := 52) dX8_valueAt_52 rfl ?_
    obtain ⟨k12, ek12, hf⟩ := tq_be hf
    refine tq_getR (M := mX8_valueAt) (pc := 53) tk_c8 (by decide) dX8_valueAt_53 tk_RX8_30 rfl ek12 ?_
    refine tq_aload_n (M := mX8_valueAt) (pc := 56) dX8_valueAt_56 rfl ?_
    obtain ⟨k13, ek13, hf⟩ := tq_be hf
    refine tq_getR (M := mX8_valueAt) (pc := 57) tk_c8 (by decide) dX8_valueAt_57 tk_RX8_12 rfl ek13 ?_
    refine tq_lload (M := mX8_valueAt) (pc := 60) dX8_valueAt_60 rfl ?_
    refine tq_iconst (M := mX8_valueAt) (pc := 62) dX8_valueAt_62 tk_ki_0 ?_
    obtain ⟨⟨⟩, eu15, hf⟩ := tq_be hf
    obtain ⟨fsu15, eu15⟩ := tq_is_s eu15
    obtain ⟨v14, ev14, hf⟩ := tq_be hf
    refine tq_calV (M := mX8_valueAt) (pc := 63) (S := [.ref k12]) tk_y_X3_nodeOfSet tk_v_X3_nodeOfSet tk_RX8_126 dX8_valueAt_63 [.long x11, .int (0 : Int32)] rfl (S0 := _) rfl eu15 rfl (Nat.le_of_ble_eq_true rfl) (d1 := d - 1) (b1 := 0) (s1 := 0) (bc' := 0) (bs' := 0) (Q1 := fun r h9 => r = .inl (some (.int v14)) ∧ h = h9) (by omega) rfl rfl (w_X3_nodeOfSet (by omega) ev14 (fun _ _ q => q)) (fun E h9 q => nomatch (show (Sum.inr E : tq_R) = Sum.inl _ from q.1)) (fun r9 h9 q => ?_)
    obtain ⟨q1, rfl⟩ := q
    cases (show (Sum.inl r9 : tq_R) = Sum.inl (some (.int v14)) from q1)
    obtain ⟨⟨⟩, eu17, hf⟩ := tq_be hf
    obtain ⟨fsu17, eu17⟩ := tq_is_s eu17
    obtain ⟨v16, ev16, hf⟩ := tq_be hf
    refine tq_calV (M := mX8_valueAt) (pc := 66) (S := []) tk_y_X5_get tk_v_X5_get tk_RX8_58 dX8_valueAt_66 [.int v14] rfl (S0 := _) rfl eu17 rfl (Nat.le_of_ble_eq_true rfl) (d1 := d - 1) (b1 := 0) (s1 := 0) (bc' := 0) (bs' := 0) (Q1 := fun r h9 => r = .inl (some (.int v16)) ∧ h = h9) (by omega) rfl rfl (w_X5_get (by omega) ev16 (fun _ _ q => q)) (fun E h9 q => nomatch (show (Sum.inr E : tq_R) = Sum.inl _ from q.1)) (fun r9 h9 q => ?_)
    obtain ⟨q1, rfl⟩ := q
    cases (show (Sum.inl r9 : tq_R) = Sum.inl (some (.int v16)) from q1)
    refine tq_iret (M := mX8_valueAt) (pc := 69) dX8_valueAt_69 rfl ?_
    cases (Option.some.inj hf)
    exact hQ _ _ ⟨rfl, rfl⟩
  · have hf := tq_ifp hf cc
    refine tq_aload_n (M := mX8_valueAt) (pc := 14) dX8_valueAt_14 rfl ?_
    obtain ⟨k18, ek18, hf⟩ := tq_be hf
    refine tq_getR (M := mX8_valueAt) (pc := 15) tk_c8 (by decide) dX8_valueAt_15 tk_RX8_30 rfl ek18 ?_
    refine tq_aload_n (M := mX8_valueAt) (pc := 18) dX8_valueAt_18 rfl ?_
    obtain ⟨k19, ek19, hf⟩ := tq_be hf
    refine tq_getR (M := mX8_valueAt) (pc := 19) tk_c8 (by decide) dX8_valueAt_19 tk_RX8_12 rfl ek19 ?_
    refine tq_iload_n (M := mX8_valueAt) (pc := 22) dX8_valueAt_22 rfl ?_
    obtain ⟨⟨⟩, eu21, hf⟩ := tq_be hf
    obtain ⟨fsu21, eu21⟩ := tq_is_s eu21
    obtain ⟨v20, ev20, hf⟩ := tq_be hf
    refine tq_calV (M := mX8_valueAt) (pc := 23) (S := [.ref k18]) tk_y_X3_nodeAt tk_v_X3_nodeAt tk_RX8_120 dX8_valueAt_23 [.int a1] rfl (S0 := _) rfl eu21 rfl (Nat.le_of_ble_eq_true rfl) (d1 := d - 1) (b1 := 0) (s1 := 0) (bc' := 0) (bs' := 0) (Q1 := fun r h9 => r = .inl (some (.int v20)) ∧ h = h9) (by omega) rfl rfl (w_X3_nodeAt (by omega) ev20 (fun _ _ q => q)) (fun E h9 q => nomatch (show (Sum.inr E : tq_R) = Sum.inl _ from q.1)) (fun r9 h9 q => ?_)
    obtain ⟨q1, rfl⟩ := q
    cases (show (Sum.inl r9 : tq_R) = Sum.inl (some (.int v20)) from q1)
    obtain ⟨⟨⟩, eu23, hf⟩ := tq_be hf
    obtain ⟨fsu23, eu23⟩ := tq_is_s eu23
    obtain ⟨v22, ev22, hf⟩ := tq_be hf
    refine tq_calV (M := mX8_valueAt) (pc := 26) (S := []) tk_y_X5_get tk_v_X5_get tk_RX8_58 dX8_valueAt_26 [.int v20] rfl (S0 := _) rfl eu23 rfl (Nat.le_of_ble_eq_true rfl) (d1 := d - 1) (b1 := 0) (s1 := 0) (bc' := 0) (bs' := 0) (Q1 := fun r h9 => r = .inl (some (.int v22)) ∧ h = h9) (by omega) rfl rfl (w_X5_get (by omega) ev22 (fun _ _ q => q)) (fun E h9 q => nomatch (show (Sum.inr E : tq_R) = Sum.inl _ from q.1)) (fun r9 h9 q => ?_)
    obtain ⟨q1, rfl⟩ := q
    cases (show (Sum.inl r9 : tq_R) = Sum.inl (some (.int v22)) from q1)
    refine tq_iret (M := mX8_valueAt) (pc := 29) dX8_valueAt_29 rfl ?_
    cases (Option.some.inj hf)
    exact hQ _ _ ⟨rfl, rfl⟩
abbrev mX8_init : tq_M := (RX8, cX8_init, 1, none, true, [], none)
def f_X8_init (t : Nat) (h : tq_H) : Option (tq_H) :=
  tq_let (tq_new h (.inl (3, [.null, .null, .null, .null, .null, .null, .null, .null, .null, .null, .long 0, .long 0, .int 0]))) fun w1 =>
  (f_X3_init h.1 w1).bind fun v2 =>
  (tq_pf v2 t 8 0 (.ref h.1)).bind fun w3 =>
  tq_let (tq_new w3 (.inl (5, [.null]))) fun w4 =>
  (f_X5_init w3.1 (60 : Int32) (-1 : Int32) w4).bind fun v5 =>
  (tq_pf v5 t 8 1 (.ref w3.1)).bind fun w6 =>
  tq_let (tq_new w6 (.inl (5, [.null]))) fun w7 =>
  (f_X5_init w6.1 (60 : Int32) (-1 : Int32) w7).bind fun v8 =>
  (tq_pf v8 t 8 2 (.ref w6.1)).bind fun w9 =>
  tq_let (tq_new w9 (.inl (5, [.null]))) fun w10 =>
  (f_X5_init w9.1 (60 : Int32) (-1 : Int32) w10).bind fun v11 =>
  (tq_pf v11 t 8 3 (.ref w9.1)).bind fun w12 =>
  tq_let (tq_new w12 (.inl (5, [.null]))) fun w13 =>
  (f_X5_init w12.1 (60 : Int32) (-1 : Int32) w13).bind fun v14 =>
  (tq_pf v14 t 8 4 (.ref w12.1)).bind fun w15 =>
  tq_let (tq_new w15 (.inl (5, [.null]))) fun w16 =>
  (f_X5_init w15.1 (60 : Int32) (-1 : Int32) w16).bind fun v17 =>
  (tq_pf v17 t 8 5 (.ref w15.1)).bind fun w18 =>
  tq_let (tq_new w18 (.inl (5, [.null]))) fun w19 =>
  (f_X5_init w18.1 (60 : Int32) (-1 : Int32) w19).bind fun v20 =>
  (tq_pf v20 t 8 6 (.ref w18.1)).bind fun w21 =>
  tq_let (tq_new w21 (.inl (5, [.null]))) fun w22 =>
  (f_X5_init w21.1 (60 : Int32) (-1 : Int32) w22).bind fun v23 =>
  (tq_pf v23 t 8 7 (.ref w21.1)).bind fun w24 =>
  tq_let (tq_new w24 (.inl (5, [.null]))) fun w25 =>
  (f_X5_init w24.1 (60 : Int32) (-1 : Int32) w25).bind fun v26 =>
  (tq_pf v26 t 8 8 (.ref w24.1)).bind fun w27 =>
  tq_let (tq_new w27 (.inl (5, [.null]))) fun w28 =>
  (f_X5_init w27.1 (60 : Int32) (-1 : Int32) w28).bind fun v29 =>
  (tq_pf v29 t 8 9 (.ref w27.1)).bind fun w30 =>
  (tq_pf w30 t 8 10 (.int (0 : Int32))).bind fun w31 =>
  some w31
set_option maxHeartbeats 4000000 in
set_option maxRecDepth 20000 in
theorem w_X8_init {l : Launch} {d : Nat} (hd9 : 3 ≤ d) {t : Nat} {h : tq_H} {o : tq_H} {Q : tq_R → tq_H → Prop} (hf : f_X8_init t h = some o) (hQ : ∀ r h9, r = .inl none ∧ o = h9 → Q r h9) : tq_C l yX8_init cX8_init 1 none d 39 1126 [.ref t] h Q := by
  refine tq_body (y := yX8_init) true (by decide +kernel) (fun _ => rfl) (Nat.le_of_ble_eq_true rfl) ?_
  show tq_W l mX8_init d 39 1126 Q 0 [(0, .ref t)] [] h
  refine tq_aload_n (M := mX8_init) (pc := 0) dX8_init_0 rfl ?_
  refine tq_objinit (M := mX8_init) (pc := 1) dX8_init_1 tk_RX8_3 tk_oi tk_oc (by omega) (Nat.le_of_ble_eq_true rfl) ?_
  refine tq_aload_n (M := mX8_init) (pc := 4) dX8_init_4 rfl ?_
  obtain ⟨w1, ew1, hf⟩ := tq_le hf
  refine tq_newo (M := mX8_init) (pc := 5) tk_c3 dX8_init_5 tk_RX8_9 tk_in3 tk_ini3 (fs := [.null, .null, .null, .null, .null, .null, .null, .null, .null, .null, .long 0, .long 0, .int 0]) (fun j hj => by rcases (show j = 0 ∨ j = 1 ∨ j = 2 ∨ j = 3 ∨ j = 4 ∨ j = 5 ∨ j = 6 ∨ j = 7 ∨ j = 8 ∨ j = 9 ∨ j = 10 ∨ j = 11 ∨ j = 12 by omega) with rfl | rfl | rfl | rfl | rfl | rfl | rfl | rfl | rfl | rfl | rfl | rfl | rfl <;> rfl) (fun _ => ⟨rfl, rfl, rfl, rfl, rfl, rfl, rfl, rfl, rfl, rfl, rfl, rfl, rfl, trivial⟩) (bc' := 38) (bs' := 1113) (by omega) (by omega) ?_
  rw [← ew1]
  refine tq_dup (M := mX8_init) (pc := 8) dX8_init_8 rfl ?_
  obtain ⟨v2, ev2, hf⟩ := tq_be hf
  refine tq_calI (M := mX8_init) (pc := 9) (S := [.ref h.1, .ref t]) tk_y_X3_init tk_v_X3_init rfl (Or.inr ⟨_, tk_RX8_11⟩) dX8_init_9 [] rfl (Nat.le_of_ble_eq_true rfl) (d1 := d - 1) (b1 := 20) (s1 := 564) (bc' := 18) (bs' := 549) (Q1 := fun r h9 => r = .inl none ∧ v2 = h9) (by omega) rfl rfl (w_X3_init (by omega) ev2 (fun _ _ q => q)) (fun E h9 q => nomatch (show (Sum.inr E : tq_R) = Sum.inl _ from q.1)) (fun r9 h9 q => ?_)
  obtain ⟨q1, rfl⟩ := q
  cases (show (Sum.inl r9 : tq_R) = Sum.inl (none) from q1)
  obtain ⟨w3, ew3, hf⟩ := tq_be hf
  refine tq_putv (M := mX8_init) (pc := 12) tk_c8 (by decide) dX8_init_12 tk_RX8_12 rfl (Or.inr ⟨rfl, rfl⟩) ew3 (tq_nR _ _) ?_
  refine tq_aload_n (M := mX8_init) (pc := 15) dX8_init_15 rfl ?_
  obtain ⟨w4, ew4, hf⟩ := tq_le hf
  refine tq_newo (M := mX8_init) (pc := 16) tk_c5 dX8_init_16 tk_RX8_18 tk_in5 tk_ini5 (fs := [.null]) (fun j hj => by rcases (show j = 0 by omega) with rfl <;> rfl) (fun _ => ⟨rfl, trivial⟩) (bc' := 17) (bs' := 548) (by omega) (by omega) ?_
  rw [← ew4]
  refine tq_dup (M := mX8_init) (pc := 19) dX8_init_19 rfl ?_
  refine tq_bipush (M := mX8_init) (pc := 20) dX8_init_20 tk_kb_60 ?_
  refine tq_iconst (M := mX8_init) (pc := 22) dX8_init_22 tk_ki_m1 ?_
  obtain ⟨v5, ev5, hf⟩ := tq_be hf
  refine tq_calI (M := mX8_init) (pc := 23) (S := [.ref w3.1, .ref t]) tk_y_X5_init tk_v_X5_init rfl (Or.inl tk_RX8_20) dX8_init_23 [.int (60 : Int32), .int (-1 : Int32)] rfl (Nat.le_of_ble_eq_true rfl) (d1 := d - 1) (b1 := 1) (s1 := 60) (bc' := 16) (bs' := 488) (Q1 := fun r h9 => r = .inl none ∧ v5 = h9) (by omega) rfl rfl (w_X5_init (by omega) (N := 60) (by decide +kernel) (by decide +kernel) (by decide) ev5 (fun _ _ q => q)) (fun E h9 q => nomatch (show (Sum.inr E : tq_R) = Sum.inl _ from q.1)) (fun r9 h9 q => ?_)
  obtain ⟨q1, rfl⟩ := q
  cases (show (Sum.inl r9 : tq_R) = Sum.inl (none) from q1)
  obtain ⟨w6, ew6, hf⟩ := tq_be hf
  refine tq_putv (M := mX8_init) (pc := 26) tk_c8 (by decide) dX8_init_26 tk_RX8_23 rfl (Or.inr ⟨rfl, rfl⟩) ew6 (tq_nR _ _) ?_
  refine tq_aload_n (M := mX8_init) (pc := 29) dX8_init_29 rfl ?_
  obtain ⟨w7, ew7, hf⟩ := tq_le hf
  refine tq_newo (M := mX8_init) (pc := 30) tk_c5 dX8_init_30 tk_RX8_18 tk_in5 tk_ini5 (fs := [.null]) (fun j hj => by rcases (show j = 0 by omega) with rfl <;> rfl) (fun _ => ⟨rfl, trivial⟩) (bc' := 15) (bs' := 487) (by omega) (by omega) ?_
  rw [← ew7]
  refine tq_dup (M := mX8_init) (pc := 33) dX8_init_33 rfl ?_
  refine tq_bipush (M := mX8_init) (pc := 34) dX8_init_34 tk_kb_60 ?_
  refine tq_iconst (M := mX8_init) (pc := 36) dX8_init_36 tk_ki_m1 ?_
  obtain ⟨v8, ev8, hf⟩ := tq_be hf
  refine tq_calI (M := mX8_init) (pc := 37) (S := [.ref w6.1, .ref t]) tk_y_X5_init tk_v_X5_init rfl (Or.inl tk_RX8_20) dX8_init_37 [.int (60 : Int32), .int (-1 : Int32)] rfl (Nat.le_of_ble_eq_true rfl) (d1 := d - 1) (b1 := 1) (s1 := 60) (bc' := 14) (bs' := 427) (Q1 := fun r h9 => r = .inl none ∧ v8 = h9) (by omega) rfl rfl (w_X5_init (by omega) (N := 60) (by decide +kernel) (by decide +kernel) (by decide) ev8 (fun _ _ q => q)) (fun E h9 q => nomatch (show (Sum.inr E : tq_R) = Sum.inl _ from q.1)) (fun r9 h9 q => ?_)
  obtain ⟨q1, rfl⟩ := q
  cases (show (Sum.inl r9 : tq_R) = Sum.inl (none) from q1)
  obtain ⟨w9, ew9, hf⟩ := tq_be hf
  refine tq_putv (M := mX8_init) (pc := 40) tk_c8 (by decide) dX8_init_40 tk_RX8_27 rfl (Or.inr ⟨rfl, rfl⟩) ew9 (tq_nR _ _) ?_
  refine tq_aload_n (M := mX8_init) (pc := 43) dX8_init_43 rfl ?_
  obtain ⟨w10, ew10, hf⟩ := tq_le hf
  refine tq_newo (M := mX8_init) (pc := 44) tk_c5 dX8_init_44 tk_RX8_18 tk_in5 tk_ini5 (fs := [.null]) (fun j hj => by rcases (show j = 0 by omega) with rfl <;> rfl) (fun _ => ⟨rfl, trivial⟩) (bc' := 13) (bs' := 426) (by omega) (by omega) ?_
  rw [← ew10]
  refine tq_dup (M := mX8_init) (pc := 47) dX8_init_47 rfl ?_
  refine tq_bipush (M := mX8_init) (pc := 48) dX8_init_48 tk_kb_60 ?_
  refine tq_iconst (M := mX8_init) (pc := 50) dX8_init_50 tk_ki_m1 ?_
  obtain ⟨v11, ev11, hf⟩ := tq_be hf
  refine tq_calI (M := mX8_init) (pc := 51) (S := [.ref w9.1, .ref t]) tk_y_X5_init tk_v_X5_init rfl (Or.inl tk_RX8_20) dX8_init_51 [.int (60 : Int32), .int (-1 : Int32)] rfl (Nat.le_of_ble_eq_true rfl) (d1 := d - 1) (b1 := 1) (s1 := 60) (bc' := 12) (bs' := 366) (Q1 := fun r h9 => r = .inl none ∧ v11 = h9) (by omega) rfl rfl (w_X5_init (by omega) (N := 60) (by decide +kernel) (by decide +kernel) (by decide) ev11 (fun _ _ q => q)) (fun E h9 q => nomatch (show (Sum.inr E : tq_R) = Sum.inl _ from q.1)) (fun r9 h9 q => ?_)
  obtain ⟨q1, rfl⟩ := q
  cases (show (Sum.inl r9 : tq_R) = Sum.inl (none) from q1)
  obtain ⟨w12, ew12, hf⟩ := tq_be hf
  refine tq_putv (M := mX8_init) (pc := 54) tk_c8 (by decide) dX8_init_54 tk_RX8_30 rfl (Or.inr ⟨rfl, rfl⟩) ew12 (tq_nR _ _) ?_
  refine tq_aload_n (M := mX8_init) (pc := 57) dX8_init_57 rfl ?_
  obtain ⟨w13, ew13, hf⟩ := tq_le hf
  refine tq_newo (M := mX8_init) (pc := 58) tk_c5 dX8_init_58 tk_RX8_18 tk_in5 tk_ini5 (fs := [.null]) (fun j hj => by rcases (show j = 0 by omega) with rfl <;> rfl) (fun _ => ⟨rfl, trivial⟩) (bc' := 11) (bs' := 365) (by omega) (by omega) ?_
  rw [← ew13]
  refine tq_dup (M := mX8_init) (pc := 61) dX8_init_61 rfl ?_
  refine tq_bipush (M := mX8_init) (pc := 62) dX8_init_62 tk_kb_60 ?_
  refine tq_iconst (M := mX8_init) (pc := 64) dX8_init_64 tk_ki_m1 ?_
  obtain ⟨v14, ev14, hf⟩ := tq_be hf
  refine tq_calI (M := mX8_init) (pc := 65) (S := [.ref w12.1, .ref t]) tk_y_X5_init tk_v_X5_init rfl (Or.inl tk_RX8_20) dX8_init_65 [.int (60 : Int32), .int (-1 : Int32)] rfl (Nat.le_of_ble_eq_true rfl) (d1 := d - 1) (b1 := 1) (s1 := 60) (bc' := 10) (bs' := 305) (Q1 := fun r h9 => r = .inl none ∧ v14 = h9) (by omega) rfl rfl (w_X5_init (by omega) (N := 60) (by decide +kernel) (by decide +kernel) (by decide) ev14 (fun _ _ q => q)) (fun E h9 q => nomatch (show (Sum.inr E : tq_R) = Sum.inl _ from q.1)) (fun r9 h9 q => ?_)
  obtain ⟨q1, rfl⟩ := q
  cases (show (Sum.inl r9 : tq_R) = Sum.inl (none) from q1)
  obtain ⟨w15, ew15, hf⟩ := tq_be hf
  refine tq_putv (M := mX8_init) (pc := 68) tk_c8 (by decide) dX8_init_68 tk_RX8_33 rfl (Or.inr ⟨rfl, rfl⟩) ew15 (tq_nR _ _) ?_
  refine tq_aload_n (M := mX8_init) (pc := 71) dX8_init_71 rfl ?_
  obtain ⟨w16, ew16, hf⟩ := tq_le hf
  refine tq_newo (M := mX8_init) (pc := 72) tk_c5 dX8_init_72 tk_RX8_18 tk_in5 tk_ini5 (fs := [.null]) (fun j hj => by rcases (show j = 0 by omega) with rfl <;> rfl) (fun _ => ⟨rfl, trivial⟩) (bc' := 9) (bs' := 304) (by omega) (by omega) ?_
  rw [← ew16]
  refine tq_dup (M := mX8_init) (pc := 75) dX8_init_75 rfl ?_
  refine tq_bipush (M := mX8_init) (pc := 76) dX8_init_76 tk_kb_60 ?_
  refine tq_iconst (M := mX8_init) (pc := 78) dX8_init_78 tk_ki_m1 ?_
  obtain ⟨v17, ev17, hf⟩ := tq_be hf
  refine tq_calI (M := mX8_init) (pc := 79) (S := [.ref w15.1, .ref t]) tk_y_X5_init tk_v_X5_init rfl (Or.inl tk_RX8_20) dX8_init_79 [.int (60 : Int32), .int (-1 : Int32)] rfl (Nat.le_of_ble_eq_true rfl) (d1 := d - 1) (b1 := 1) (s1 := 60) (bc' := 8) (bs' := 244) (Q1 := fun r h9 => r = .inl none ∧ v17 = h9) (by omega) rfl rfl (w_X5_init (by omega) (N := 60) (by decide +kernel) (by decide +kernel) (by decide) ev17 (fun _ _ q => q)) (fun E h9 q => nomatch (show (Sum.inr E : tq_R) = Sum.inl _ from q.1)) (fun r9 h9 q => ?_)
  obtain ⟨q1, rfl⟩ := q
  cases (show (Sum.inl r9 : tq_R) = Sum.inl (none) from q1)
  obtain ⟨w18, ew18, hf⟩ := tq_be hf
  refine tq_putv (M := mX8_init) (pc := 82) tk_c8 (by decide) dX8_init_82 tk_RX8_36 rfl (Or.inr ⟨rfl, rfl⟩) ew18 (tq_nR _ _) ?_
  refine tq_aload_n (M := mX8_init) (pc := 85) dX8_init_85 rfl ?_
  obtain ⟨w19, ew19, hf⟩ := tq_le hf
  refine tq_newo (M := mX8_init) (pc := 86) tk_c5 dX8_init_86 tk_RX8_18 tk_in5 tk_ini5 (fs := [.null]) (fun j hj => by rcases (show j = 0 by omega) with rfl <;> rfl) (fun _ => ⟨rfl, trivial⟩) (bc' := 7) (bs' := 243) (by omega) (by omega) ?_
  rw [← ew19]
  refine tq_dup (M := mX8_init) (pc := 89) dX8_init_89 rfl ?_
  refine tq_bipush (M := mX8_init) (pc := 90) dX8_init_90 tk_kb_60 ?_
  refine tq_iconst (M := mX8_init) (pc := 92) dX8_init_92 tk_ki_m1 ?_
  obtain ⟨v20, ev20, hf⟩ := tq_be hf
  refine tq_calI (M := mX8_init) (pc := 93) (S := [.ref w18.1, .ref t]) tk_y_X5_init tk_v_X5_init rfl (Or.inl tk_RX8_20) dX8_init_93 [.int (60 : Int32), .int (-1 : Int32)] rfl (Nat.le_of_ble_eq_true rfl) (d1 := d - 1) (b1 := 1) (s1 := 60) (bc' := 6) (bs' := 183) (Q1 := fun r h9 => r = .inl none ∧ v20 = h9) (by omega) rfl rfl (w_X5_init (by omega) (N := 60) (by decide +kernel) (by decide +kernel) (by decide) ev20 (fun _ _ q => q)) (fun E h9 q => nomatch (show (Sum.inr E : tq_R) = Sum.inl _ from q.1)) (fun r9 h9 q => ?_)
  obtain ⟨q1, rfl⟩ := q
  cases (show (Sum.inl r9 : tq_R) = Sum.inl (none) from q1)
  obtain ⟨w21, ew21, hf⟩ := tq_be hf
  refine tq_putv (M := mX8_init) (pc := 96) tk_c8 (by decide) dX8_init_96 tk_RX8_39 rfl (Or.inr ⟨rfl, rfl⟩) ew21 (tq_nR _ _) ?_
  refine tq_aload_n (M := mX8_init) (pc := 99) dX8_init_99 rfl ?_
  obtain ⟨w22, ew22, hf⟩ := tq_le hf
  refine tq_newo (M := mX8_init) (pc := 100) tk_c5 dX8_init_100 tk_RX8_18 tk_in5 tk_ini5 (fs := [.null]) (fun j hj => by rcases (show j = 0 by omega) with rfl <;> rfl) (fun _ => ⟨rfl, trivial⟩) (bc' := 5) (bs' := 182) (by omega) (by omega) ?_
  rw [← ew22]
  refine tq_dup (M := mX8_init) (pc := 103) dX8_init_103 rfl ?_
  refine tq_bipush (M := mX8_init) (pc := 104) dX8_init_104 tk_kb_60 ?_
  refine tq_iconst (M := mX8_init) (pc := 106) dX8_init_106 tk_ki_m1 ?_
  obtain ⟨v23, ev23, hf⟩ := tq_be hf
  refine tq_calI (M := mX8_init) (pc := 107) (S := [.ref w21.1, .ref t]) tk_y_X5_init tk_v_X5_init rfl (Or.inl tk_RX8_20) dX8_init_107 [.int (60 : Int32), .int (-1 : Int32)] rfl (Nat.le_of_ble_eq_true rfl) (d1 := d - 1) (b1 := 1) (s1 := 60) (bc' := 4) (bs' := 122) (Q1 := fun r h9 => r = .inl none ∧ v23 = h9) (by omega) rfl rfl (w_X5_init (by omega) (N := 60) (by decide +kernel) (by decide +kernel) (by decide) ev23 (fun _ _ q => q)) (fun E h9 q => nomatch (show (Sum.inr E : tq_R) = Sum.inl _ from q.1)) (fun r9 h9 q => ?_)
  obtain ⟨q1, rfl⟩ := q
  cases (show (Sum.inl r9 : tq_R) = Sum.inl (none) from q1)
  obtain ⟨w24, ew24, hf⟩ := tq_be hf
  refine tq_putv (M := mX8_init) (pc := 110) tk_c8 (by decide) dX8_init_110 tk_RX8_42 rfl (Or.inr ⟨rfl, rfl⟩) ew24 (tq_nR _ _) ?_
  refine tq_aload_n (M := mX8_init) (pc := 113) dX8_init_113 rfl ?_
  obtain ⟨w25, ew25, hf⟩ := tq_le hf
  refine tq_newo (M := mX8_init) (pc := 114) tk_c5 dX8_init_114 tk_RX8_18 tk_in5 tk_ini5 (fs := [.null]) (fun j hj => by rcases (show j = 0 by omega) with rfl <;> rfl) (fun _ => ⟨rfl, trivial⟩) (bc' := 3) (bs' := 121) (by omega) (by omega) ?_
  rw [← ew25]
  refine tq_dup (M := mX8_init) (pc := 117) dX8_init_117 rfl ?_
  refine tq_bipush (M := mX8_init) (pc := 118) dX8_init_118 tk_kb_60 ?_
  refine tq_iconst (M := mX8_init) (pc := 120) dX8_init_120 tk_ki_m1 ?_
  obtain ⟨v26, ev26, hf⟩ := tq_be hf
  refine tq_calI (M := mX8_init) (pc := 121) (S := [.ref w24.1, .ref t]) tk_y_X5_init tk_v_X5_init rfl (Or.inl tk_RX8_20) dX8_init_121 [.int (60 : Int32), .int (-1 : Int32)] rfl (Nat.le_of_ble_eq_true rfl) (d1 := d - 1) (b1 := 1) (s1 := 60) (bc' := 2) (bs' := 61) (Q1 := fun r h9 => r = .inl none ∧ v26 = h9) (by omega) rfl rfl (w_X5_init (by omega) (N := 60) (by decide +kernel) (by decide +kernel) (by decide) ev26 (fun _ _ q => q)) (fun E h9 q => nomatch (show (Sum.inr E : tq_R) = Sum.inl _ from q.1)) (fun r9 h9 q => ?_)
  obtain ⟨q1, rfl⟩ := q
  cases (show (Sum.inl r9 : tq_R) = Sum.inl (none) from q1)
  obtain ⟨w27, ew27, hf⟩ := tq_be hf
  refine tq_putv (M := mX8_init) (pc := 124) tk_c8 (by decide) dX8_init_124 tk_RX8_45 rfl (Or.inr ⟨rfl, rfl⟩) ew27 (tq_nR _ _) ?_
  refine tq_aload_n (M := mX8_init) (pc := 127) dX8_init_127 rfl ?_
  obtain ⟨w28, ew28, hf⟩ := tq_le hf
  refine tq_newo (M := mX8_init) (pc := 128) tk_c5 dX8_init_128 tk_RX8_18 tk_in5 tk_ini5 (fs := [.null]) (fun j hj => by rcases (show j = 0 by omega) with rfl <;> rfl) (fun _ => ⟨rfl, trivial⟩) (bc' := 1) (bs' := 60) (by omega) (by omega) ?_
  rw [← ew28]
  refine tq_dup (M := mX8_init) (pc := 131) dX8_init_131 rfl ?_
  refine tq_bipush (M := mX8_init) (pc := 132) dX8_init_132 tk_kb_60 ?_
  refine tq_iconst (M := mX8_init) (pc := 134) dX8_init_134 tk_ki_m1 ?_
  obtain ⟨v29, ev29, hf⟩ := tq_be hf
  refine tq_calI (M := mX8_init) (pc := 135) (S := [.ref w27.1, .ref t]) tk_y_X5_init tk_v_X5_init rfl (Or.inl tk_RX8_20) dX8_init_135 [.int (60 : Int32), .int (-1 : Int32)] rfl (Nat.le_of_ble_eq_true rfl) (d1 := d - 1) (b1 := 1) (s1 := 60) (bc' := 0) (bs' := 0) (Q1 := fun r h9 => r = .inl none ∧ v29 = h9) (by omega) rfl rfl (w_X5_init (by omega) (N := 60) (by decide +kernel) (by decide +kernel) (by decide) ev29 (fun _ _ q => q)) (fun E h9 q => nomatch (show (Sum.inr E : tq_R) = Sum.inl _ from q.1)) (fun r9 h9 q => ?_)
  obtain ⟨q1, rfl⟩ := q
  cases (show (Sum.inl r9 : tq_R) = Sum.inl (none) from q1)
  obtain ⟨w30, ew30, hf⟩ := tq_be hf
  refine tq_putv (M := mX8_init) (pc := 138) tk_c8 (by decide) dX8_init_138 tk_RX8_48 rfl (Or.inr ⟨rfl, rfl⟩) ew30 (tq_nR _ _) ?_
  refine tq_aload_n (M := mX8_init) (pc := 141) dX8_init_141 rfl ?_
  refine tq_iconst (M := mX8_init) (pc := 142) dX8_init_142 tk_ki_0 ?_
  obtain ⟨w31, ew31, hf⟩ := tq_be hf
  refine tq_putv (M := mX8_init) (pc := 143) tk_c8 (by decide) dX8_init_143 tk_RX8_51 rfl (Or.inl rfl) ew31 (tq_nI _) ?_
  refine tq_vret (M := mX8_init) (pc := 146) dX8_init_146 rfl ?_
  cases (Option.some.inj hf)
  exact hQ _ _ ⟨rfl, rfl⟩
abbrev mX8_madeCount : tq_M := (RX8, cX8_madeCount, 1, (some .int), false, [], none)
def f_X8_madeCount (t : Nat) (h : tq_H) : Option (Int32) :=
  (tq_gi h t 8 10).bind fun x1 =>
  some x1
set_option maxHeartbeats 4000000 in
set_option maxRecDepth 20000 in
theorem w_X8_madeCount {l : Launch} {d : Nat} (hd9 : 0 ≤ d) {t : Nat} {h : tq_H} {o : Int32} {Q : tq_R → tq_H → Prop} (hf : f_X8_madeCount t h = some o) (hQ : ∀ r h9, r = .inl (some (.int o)) ∧ h = h9 → Q r h9) : tq_C l yX8_madeCount cX8_madeCount 1 (some .int) d 0 0 [.ref t] h Q := by
  refine tq_body (y := yX8_madeCount) false (by decide +kernel) (fun z => by cases z) (Nat.le_of_ble_eq_true rfl) ?_
  show tq_W l mX8_madeCount d 0 0 Q 0 [(0, .ref t)] [] h
  refine tq_aload_n (M := mX8_madeCount) (pc := 0) dX8_madeCount_0 rfl ?_
  obtain ⟨x1, ex1, hf⟩ := tq_be hf
  refine tq_getI (M := mX8_madeCount) (pc := 1) tk_c8 (by decide) dX8_madeCount_1 tk_RX8_51 rfl ex1 ?_
  refine tq_iret (M := mX8_madeCount) (pc := 4) dX8_madeCount_4 rfl ?_
  cases (Option.some.inj hf)
  exact hQ _ _ ⟨rfl, rfl⟩
abbrev mX8_keepMade : tq_M := (RX8, cX8_keepMade, 2, none, false, [], none)
def f_X8_keepMade (t : Nat) (a1 : Int32) (h : tq_H) : Option (tq_H) :=
  (tq_pf h t 8 10 (.int a1)).bind fun w1 =>
  some w1
set_option maxHeartbeats 4000000 in
set_option maxRecDepth 20000 in
theorem w_X8_keepMade {l : Launch} {d : Nat} (hd9 : 0 ≤ d) {t : Nat} {a1 : Int32} {h : tq_H} {o : tq_H} {Q : tq_R → tq_H → Prop} (hf : f_X8_keepMade t a1 h = some o) (hQ : ∀ r h9, r = .inl none ∧ o = h9 → Q r h9) : tq_C l yX8_keepMade cX8_keepMade 2 none d 0 0 [.ref t, .int a1] h Q := by
  refine tq_body (y := yX8_keepMade) false (by decide +kernel) (fun z => by cases z) (Nat.le_of_ble_eq_true rfl) ?_
  show tq_W l mX8_keepMade d 0 0 Q 0 [(0, .ref t), (1, .int a1)] [] h
  refine tq_aload_n (M := mX8_keepMade) (pc := 0) dX8_keepMade_0 rfl ?_
  refine tq_iload_n (M := mX8_keepMade) (pc := 1) dX8_keepMade_1 rfl ?_
  obtain ⟨w1, ew1, hf⟩ := tq_be hf
  refine tq_putv (M := mX8_keepMade) (pc := 2) tk_c8 (by decide) dX8_keepMade_2 tk_RX8_51 rfl (Or.inl rfl) ew1 (tq_nI _) ?_
  refine tq_vret (M := mX8_keepMade) (pc := 5) dX8_keepMade_5 rfl ?_
  cases (Option.some.inj hf)
  exact hQ _ _ ⟨rfl, rfl⟩
abbrev mX8_make : tq_M := (RX8, cX8_make, 5, (some .int), false, [], none)
def f_X8_make (t : Nat) (a1 : Int32) (a2 : Int32) (a3 : Int32) (h : tq_H) : Option (Int32 × tq_H) :=
  (tq_gi h t 8 10).bind fun x1 =>
  (tq_gi h t 8 10).bind fun x2 =>
  (tq_pf h t 8 10 (.int ((x2 + (1 : Int32))))).bind fun w3 =>
  (tq_gr w3 t 8 1).bind fun k4 =>
  (tq_is w3 k4 5).bind fun _ =>
  (f_X5_set k4 x1 a1 w3).bind fun v5 =>
  (tq_gr v5 t 8 2).bind fun k7 =>
  (tq_is v5 k7 5).bind fun _ =>
  (f_X5_set k7 x1 a2 v5).bind fun v8 =>
  (tq_gr v8 t 8 3).bind fun k10 =>
  (tq_is v8 k10 5).bind fun _ =>
  (f_X5_set k10 x1 a3 v8).bind fun v11 =>
  (tq_gr v11 t 8 4).bind fun k13 =>
  (tq_is v11 k13 5).bind fun _ =>
  (f_X5_set k13 x1 (-1 : Int32) v11).bind fun v14 =>
  (tq_gr v14 t 8 6).bind fun k16 =>
  (tq_is v14 k16 5).bind fun _ =>
  (f_X5_set k16 x1 (-1 : Int32) v14).bind fun v17 =>
  some (x1, v17)
set_option maxHeartbeats 4000000 in
set_option maxRecDepth 20000 in
theorem w_X8_make {l : Launch} {d : Nat} (hd9 : 1 ≤ d) {t : Nat} {a1 : Int32} {a2 : Int32} {a3 : Int32} {h : tq_H} {o : Int32 × tq_H} {Q : tq_R → tq_H → Prop} (hf : f_X8_make t a1 a2 a3 h = some o) (hQ : ∀ r h9, r = .inl (some (.int o.1)) ∧ o.2 = h9 → Q r h9) : tq_C l yX8_make cX8_make 5 (some .int) d 0 0 [.ref t, .int a1, .int a2, .int a3] h Q := by
  refine tq_body (y := yX8_make) false (by decide +kernel) (fun z => by cases z) (Nat.le_of_ble_eq_true rfl) ?_
  show tq_W l mX8_make d 0 0 Q 0 [(0, .ref t), (1, .int a1), (2, .int a2), (3, .int a3)] [] h
  refine tq_aload_n (M := mX8_make) (pc := 0) dX8_make_0 rfl ?_
  obtain ⟨x1, ex1, hf⟩ := tq_be hf
  refine tq_getI (M := mX8_make) (pc := 1) tk_c8 (by decide) dX8_make_1 tk_RX8_51 rfl ex1 ?_
  refine tq_istore (M := mX8_make) (pc := 4) dX8_make_4 (L2 := [(4, .int x1), (0, .ref t), (1, .int a1), (2, .int a2), (3, .int a3)]) (by decide) rfl ?_
  refine tq_aload_n (M := mX8_make) (pc := 6) dX8_make_6 rfl ?_
  refine tq_dup (M := mX8_make) (pc := 7) dX8_make_7 rfl ?_
  obtain ⟨x2, ex2, hf⟩ := tq_be hf
  refine tq_getI (M := mX8_make) (pc := 8) tk_c8 (by decide) dX8_make_8 tk_RX8_51 rfl ex2 ?_
  refine tq_iconst (M := mX8_make) (pc := 11) dX8_make_11 tk_ki_1 ?_
  refine tq_iadd (M := mX8_make) (pc := 12) dX8_make_12 ?_
  obtain ⟨w3, ew3, hf⟩ := tq_be hf
  refine tq_putv (M := mX8_make) (pc := 13) tk_c8 (by decide) dX8_make_13 tk_RX8_51 rfl (Or.inl rfl) ew3 (tq_nI _) ?_
  refine tq_aload_n (M := mX8_make) (pc := 16) dX8_make_16 rfl ?_
  obtain ⟨k4, ek4, hf⟩ := tq_be hf
  refine tq_getR (M := mX8_make) (pc := 17) tk_c8 (by decide) dX8_make_17 tk_RX8_23 rfl ek4 ?_
  refine tq_iload (M := mX8_make) (pc := 20) dX8_make_20 rfl ?_
  refine tq_iload_n (M := mX8_make) (pc := 22) dX8_make_22 rfl ?_
  obtain ⟨⟨⟩, eu6, hf⟩ := tq_be hf
  obtain ⟨fsu6, eu6⟩ := tq_is_s eu6
  obtain ⟨v5, ev5, hf⟩ := tq_be hf
  refine tq_calV (M := mX8_make) (pc := 23) (S := []) tk_y_X5_set tk_v_X5_set tk_RX8_55 dX8_make_23 [.int x1, .int a1] rfl (S0 := _) rfl eu6 rfl (Nat.le_of_ble_eq_true rfl) (d1 := d - 1) (b1 := 0) (s1 := 0) (bc' := 0) (bs' := 0) (Q1 := fun r h9 => r = .inl none ∧ v5 = h9) (by omega) rfl rfl (w_X5_set (by omega) ev5 (fun _ _ q => q)) (fun E h9 q => nomatch (show (Sum.inr E : tq_R) = Sum.inl _ from q.1)) (fun r9 h9 q => ?_)
  obtain ⟨q1, rfl⟩ := q
  cases (show (Sum.inl r9 : tq_R) = Sum.inl (none) from q1)
  refine tq_aload_n (M := mX8_make) (pc := 26) dX8_make_26 rfl ?_
  obtain ⟨k7, ek7, hf⟩ := tq_be hf
  refine tq_getR (M := mX8_make) (pc := 27) tk_c8 (by decide) dX8_make_27 tk_RX8_27 rfl ek7 ?_
  refine tq_iload (M := mX8_make) (pc := 30) dX8_make_30 rfl ?_
  refine tq_iload_n (M := mX8_make) (pc := 32) dX8_make_32 rfl ?_
  obtain ⟨⟨⟩, eu9, hf⟩ := tq_be hf
  obtain ⟨fsu9, eu9⟩ := tq_is_s eu9
  obtain ⟨v8, ev8, hf⟩ := tq_be hf
  refine tq_calV (M := mX8_make) (pc := 33) (S := []) tk_y_X5_set tk_v_X5_set tk_RX8_55 dX8_make_33 [.int x1, .int a2] rfl (S0 := _) rfl eu9 rfl (Nat.le_of_ble_eq_true rfl) (d1 := d - 1) (b1 := 0) (s1 := 0) (bc' := 0) (bs' := 0) (Q1 := fun r h9 => r = .inl none ∧ v8 = h9) (by omega) rfl rfl (w_X5_set (by omega) ev8 (fun _ _ q => q)) (fun E h9 q => nomatch (show (Sum.inr E : tq_R) = Sum.inl _ from q.1)) (fun r9 h9 q => ?_)
  obtain ⟨q1, rfl⟩ := q
  cases (show (Sum.inl r9 : tq_R) = Sum.inl (none) from q1)
  refine tq_aload_n (M := mX8_make) (pc := 36) dX8_make_36 rfl ?_
  obtain ⟨k10, ek10, hf⟩ := tq_be hf
  refine tq_getR (M := mX8_make) (pc := 37) tk_c8 (by decide) dX8_make_37 tk_RX8_30 rfl ek10 ?_
  refine tq_iload (M := mX8_make) (pc := 40) dX8_make_40 rfl ?_
  refine tq_iload_n (M := mX8_make) (pc := 42) dX8_make_42 rfl ?_
  obtain ⟨⟨⟩, eu12, hf⟩ := tq_be hf
  obtain ⟨fsu12, eu12⟩ := tq_is_s eu12
  obtain ⟨v11, ev11, hf⟩ := tq_be hf
  refine tq_calV (M := mX8_make) (pc := 43) (S := []) tk_y_X5_set tk_v_X5_set tk_RX8_55 dX8_make_43 [.int x1, .int a3] rfl (S0 := _) rfl eu12 rfl (Nat.le_of_ble_eq_true rfl) (d1 := d - 1) (b1 := 0) (s1 := 0) (bc' := 0) (bs' := 0) (Q1 := fun r h9 => r = .inl none ∧ v11 = h9) (by omega) rfl rfl (w_X5_set (by omega) ev11 (fun _ _ q => q)) (fun E h9 q => nomatch (show (Sum.inr E : tq_R) = Sum.inl _ from q.1)) (fun r9 h9 q => ?_)
  obtain ⟨q1, rfl⟩ := q
  cases (show (Sum.inl r9 : tq_R) = Sum.inl (none) from q1)
  refine tq_aload_n (M := mX8_make) (pc := 46) dX8_make_46 rfl ?_
  obtain ⟨k13, ek13, hf⟩ := tq_be hf
  refine tq_getR (M := mX8_make) (pc := 47) tk_c8 (by decide) dX8_make_47 tk_RX8_33 rfl ek13 ?_
  refine tq_iload (M := mX8_make) (pc := 50) dX8_make_50 rfl ?_
  refine tq_iconst (M := mX8_make) (pc := 52) dX8_make_52 tk_ki_m1 ?_
  obtain ⟨⟨⟩, eu15, hf⟩ := tq_be hf
  obtain ⟨fsu15, eu15⟩ := tq_is_s eu15
  obtain ⟨v14, ev14, hf⟩ := tq_be hf
  refine tq_calV (M := mX8_make) (pc := 53) (S := []) tk_y_X5_set tk_v_X5_set tk_RX8_55 dX8_make_53 [.int x1, .int (-1 : Int32)] rfl (S0 := _) rfl eu15 rfl (Nat.le_of_ble_eq_true rfl) (d1 := d - 1) (b1 := 0) (s1 := 0) (bc' := 0) (bs' := 0) (Q1 := fun r h9 => r = .inl none ∧ v14 = h9) (by omega) rfl rfl (w_X5_set (by omega) ev14 (fun _ _ q => q)) (fun E h9 q => nomatch (show (Sum.inr E : tq_R) = Sum.inl _ from q.1)) (fun r9 h9 q => ?_)
  obtain ⟨q1, rfl⟩ := q
  cases (show (Sum.inl r9 : tq_R) = Sum.inl (none) from q1)
  refine tq_aload_n (M := mX8_make) (pc := 56) dX8_make_56 rfl ?_
  obtain ⟨k16, ek16, hf⟩ := tq_be hf
  refine tq_getR (M := mX8_make) (pc := 57) tk_c8 (by decide) dX8_make_57 tk_RX8_39 rfl ek16 ?_
  refine tq_iload (M := mX8_make) (pc := 60) dX8_make_60 rfl ?_
  refine tq_iconst (M := mX8_make) (pc := 62) dX8_make_62 tk_ki_m1 ?_
  obtain ⟨⟨⟩, eu18, hf⟩ := tq_be hf
  obtain ⟨fsu18, eu18⟩ := tq_is_s eu18
  obtain ⟨v17, ev17, hf⟩ := tq_be hf
  refine tq_calV (M := mX8_make) (pc := 63) (S := []) tk_y_X5_set tk_v_X5_set tk_RX8_55 dX8_make_63 [.int x1, .int (-1 : Int32)] rfl (S0 := _) rfl eu18 rfl (Nat.le_of_ble_eq_true rfl) (d1 := d - 1) (b1 := 0) (s1 := 0) (bc' := 0) (bs' := 0) (Q1 := fun r h9 => r = .inl none ∧ v17 = h9) (by omega) rfl rfl (w_X5_set (by omega) ev17 (fun _ _ q => q)) (fun E h9 q => nomatch (show (Sum.inr E : tq_R) = Sum.inl _ from q.1)) (fun r9 h9 q => ?_)
  obtain ⟨q1, rfl⟩ := q
  cases (show (Sum.inl r9 : tq_R) = Sum.inl (none) from q1)
  refine tq_iload (M := mX8_make) (pc := 66) dX8_make_66 rfl ?_
  refine tq_iret (M := mX8_make) (pc := 68) dX8_make_68 rfl ?_
  cases (Option.some.inj hf)
  exact hQ _ _ ⟨rfl, rfl⟩
abbrev mX8_append : tq_M := (RX8, cX8_append, 4, none, false, [], none)
def f_X8_append (t : Nat) (a1 : Int32) (a2 : Int32) (h : tq_H) : Option (tq_H) :=
  (tq_gr h t 8 5).bind fun k1 =>
  (tq_is h k1 5).bind fun _ =>
  (f_X5_set k1 a2 a1 h).bind fun v2 =>
  (tq_gr v2 t 8 9).bind fun k4 =>
  (tq_is v2 k4 5).bind fun _ =>
  (f_X5_get k4 a1 v2).bind fun v5 =>
  (if v5 = (-1 : Int32) then
    (tq_gr v2 t 8 7).bind fun k10 =>
    (tq_is v2 k10 5).bind fun _ =>
    (f_X5_set k10 a1 a2 v2).bind fun v11 =>
    some v11
  else
    (tq_gr v2 t 8 8).bind fun k7 =>
    (tq_is v2 k7 5).bind fun _ =>
    (f_X5_set k7 v5 a2 v2).bind fun v8 =>
    some v8).bind fun p13 =>
  (tq_gr p13 t 8 9).bind fun k14 =>
  (tq_is p13 k14 5).bind fun _ =>
  (f_X5_set k14 a1 a2 p13).bind fun v15 =>
  some v15
set_option maxHeartbeats 4000000 in
set_option maxRecDepth 20000 in
theorem w_X8_append {l : Launch} {d : Nat} (hd9 : 1 ≤ d) {t : Nat} {a1 : Int32} {a2 : Int32} {h : tq_H} {o : tq_H} {Q : tq_R → tq_H → Prop} (hf : f_X8_append t a1 a2 h = some o) (hQ : ∀ r h9, r = .inl none ∧ o = h9 → Q r h9) : tq_C l yX8_append cX8_append 4 none d 0 0 [.ref t, .int a1, .int a2] h Q := by
  refine tq_body (y := yX8_append) false (by decide +kernel) (fun z => by cases z) (Nat.le_of_ble_eq_true rfl) ?_
  show tq_W l mX8_append d 0 0 Q 0 [(0, .ref t), (1, .int a1), (2, .int a2)] [] h
  refine tq_aload_n (M := mX8_append) (pc := 0) dX8_append_0 rfl ?_
  obtain ⟨k1, ek1, hf⟩ := tq_be hf
  refine tq_getR (M := mX8_append) (pc := 1) tk_c8 (by decide) dX8_append_1 tk_RX8_36 rfl ek1 ?_
  refine tq_iload_n (M := mX8_append) (pc := 4) dX8_append_4 rfl ?_
  refine tq_iload_n (M := mX8_append) (pc := 5) dX8_append_5 rfl ?_
  obtain ⟨⟨⟩, eu3, hf⟩ := tq_be hf
  obtain ⟨fsu3, eu3⟩ := tq_is_s eu3
  obtain ⟨v2, ev2, hf⟩ := tq_be hf
  refine tq_calV (M := mX8_append) (pc := 6) (S := []) tk_y_X5_set tk_v_X5_set tk_RX8_55 dX8_append_6 [.int a2, .int a1] rfl (S0 := _) rfl eu3 rfl (Nat.le_of_ble_eq_true rfl) (d1 := d - 1) (b1 := 0) (s1 := 0) (bc' := 0) (bs' := 0) (Q1 := fun r h9 => r = .inl none ∧ v2 = h9) (by omega) rfl rfl (w_X5_set (by omega) ev2 (fun _ _ q => q)) (fun E h9 q => nomatch (show (Sum.inr E : tq_R) = Sum.inl _ from q.1)) (fun r9 h9 q => ?_)
  obtain ⟨q1, rfl⟩ := q
  cases (show (Sum.inl r9 : tq_R) = Sum.inl (none) from q1)
  refine tq_aload_n (M := mX8_append) (pc := 9) dX8_append_9 rfl ?_
  obtain ⟨k4, ek4, hf⟩ := tq_be hf
  refine tq_getR (M := mX8_append) (pc := 10) tk_c8 (by decide) dX8_append_10 tk_RX8_48 rfl ek4 ?_
  refine tq_iload_n (M := mX8_append) (pc := 13) dX8_append_13 rfl ?_
  obtain ⟨⟨⟩, eu6, hf⟩ := tq_be hf
  obtain ⟨fsu6, eu6⟩ := tq_is_s eu6
  obtain ⟨v5, ev5, hf⟩ := tq_be hf
  refine tq_calV (M := mX8_append) (pc := 14) (S := []) tk_y_X5_get tk_v_X5_get tk_RX8_58 dX8_append_14 [.int a1] rfl (S0 := _) rfl eu6 rfl (Nat.le_of_ble_eq_true rfl) (d1 := d - 1) (b1 := 0) (s1 := 0) (bc' := 0) (bs' := 0) (Q1 := fun r h9 => r = .inl (some (.int v5)) ∧ v2 = h9) (by omega) rfl rfl (w_X5_get (by omega) ev5 (fun _ _ q => q)) (fun E h9 q => nomatch (show (Sum.inr E : tq_R) = Sum.inl _ from q.1)) (fun r9 h9 q => ?_)
  obtain ⟨q1, rfl⟩ := q
  cases (show (Sum.inl r9 : tq_R) = Sum.inl (some (.int v5)) from q1)
  refine tq_istore_n (M := mX8_append) (pc := 17) rfl dX8_append_17 (L2 := [(3, .int v5), (0, .ref t), (1, .int a1), (2, .int a2)]) (by decide) rfl ?_
  refine tq_iload_n (M := mX8_append) (pc := 18) dX8_append_18 rfl ?_
  refine tq_iconst (M := mX8_append) (pc := 19) dX8_append_19 tk_ki_m1 ?_
  obtain ⟨p13, ep13, hf⟩ := tq_be hf
  have HJ20 : tq_W l mX8_append d 0 0 Q 44 [(0, .ref t), (1, .int a1), (2, .int a2)] [] p13 := by
    refine tq_aload_n (M := mX8_append) (pc := 44) dX8_append_44 rfl ?_
    obtain ⟨k14, ek14, hf⟩ := tq_be hf
    refine tq_getR (M := mX8_append) (pc := 45) tk_c8 (by decide) dX8_append_45 tk_RX8_48 rfl ek14 ?_
    refine tq_iload_n (M := mX8_append) (pc := 48) dX8_append_48 rfl ?_
    refine tq_iload_n (M := mX8_append) (pc := 49) dX8_append_49 rfl ?_
    obtain ⟨⟨⟩, eu16, hf⟩ := tq_be hf
    obtain ⟨fsu16, eu16⟩ := tq_is_s eu16
    obtain ⟨v15, ev15, hf⟩ := tq_be hf
    refine tq_calV (M := mX8_append) (pc := 50) (S := []) tk_y_X5_set tk_v_X5_set tk_RX8_55 dX8_append_50 [.int a1, .int a2] rfl (S0 := _) rfl eu16 rfl (Nat.le_of_ble_eq_true rfl) (d1 := d - 1) (b1 := 0) (s1 := 0) (bc' := 0) (bs' := 0) (Q1 := fun r h9 => r = .inl none ∧ v15 = h9) (by omega) rfl rfl (w_X5_set (by omega) ev15 (fun _ _ q => q)) (fun E h9 q => nomatch (show (Sum.inr E : tq_R) = Sum.inl _ from q.1)) (fun r9 h9 q => ?_)
    obtain ⟨q1, rfl⟩ := q
    cases (show (Sum.inl r9 : tq_R) = Sum.inl (none) from q1)
    refine tq_vret (M := mX8_append) (pc := 53) dX8_append_53 rfl ?_
    cases (Option.some.inj hf)
    exact hQ _ _ ⟨rfl, rfl⟩
  refine tq_icmp_ne (M := mX8_append) (pc := 20) (tgt := 35) dX8_append_20 (by decide) (fun cc => ?_) (fun cc => ?_)
  · have hf := tq_ifn ep13 cc
    refine tq_aload_n (M := mX8_append) (pc := 35) dX8_append_35 rfl ?_
    obtain ⟨k7, ek7, hf⟩ := tq_be hf
    refine tq_getR (M := mX8_append) (pc := 36) tk_c8 (by decide) dX8_append_36 tk_RX8_45 rfl ek7 ?_
    refine tq_iload_n (M := mX8_append) (pc := 39) dX8_append_39 rfl ?_
    refine tq_iload_n (M := mX8_append) (pc := 40) dX8_append_40 rfl ?_
    obtain ⟨⟨⟩, eu9, hf⟩ := tq_be hf
    obtain ⟨fsu9, eu9⟩ := tq_is_s eu9
    obtain ⟨v8, ev8, hf⟩ := tq_be hf
    refine tq_calV (M := mX8_append) (pc := 41) (S := []) tk_y_X5_set tk_v_X5_set tk_RX8_55 dX8_append_41 [.int v5, .int a2] rfl (S0 := _) rfl eu9 rfl (Nat.le_of_ble_eq_true rfl) (d1 := d - 1) (b1 := 0) (s1 := 0) (bc' := 0) (bs' := 0) (Q1 := fun r h9 => r = .inl none ∧ v8 = h9) (by omega) rfl rfl (w_X5_set (by omega) ev8 (fun _ _ q => q)) (fun E h9 q => nomatch (show (Sum.inr E : tq_R) = Sum.inl _ from q.1)) (fun r9 h9 q => ?_)
    obtain ⟨q1, rfl⟩ := q
    cases (show (Sum.inl r9 : tq_R) = Sum.inl (none) from q1)
    refine tq_pick (L2 := [(0, .ref t), (1, .int a1), (2, .int a2)]) [1, 2, 3] rfl ?_
    cases (Option.some.inj hf)
    exact HJ20
  · have hf := tq_ifp ep13 cc
    refine tq_aload_n (M := mX8_append) (pc := 23) dX8_append_23 rfl ?_
    obtain ⟨k10, ek10, hf⟩ := tq_be hf
    refine tq_getR (M := mX8_append) (pc := 24) tk_c8 (by decide) dX8_append_24 tk_RX8_42 rfl ek10 ?_
    refine tq_iload_n (M := mX8_append) (pc := 27) dX8_append_27 rfl ?_
    refine tq_iload_n (M := mX8_append) (pc := 28) dX8_append_28 rfl ?_
    obtain ⟨⟨⟩, eu12, hf⟩ := tq_be hf
    obtain ⟨fsu12, eu12⟩ := tq_is_s eu12
    obtain ⟨v11, ev11, hf⟩ := tq_be hf
    refine tq_calV (M := mX8_append) (pc := 29) (S := []) tk_y_X5_set tk_v_X5_set tk_RX8_55 dX8_append_29 [.int a1, .int a2] rfl (S0 := _) rfl eu12 rfl (Nat.le_of_ble_eq_true rfl) (d1 := d - 1) (b1 := 0) (s1 := 0) (bc' := 0) (bs' := 0) (Q1 := fun r h9 => r = .inl none ∧ v11 = h9) (by omega) rfl rfl (w_X5_set (by omega) ev11 (fun _ _ q => q)) (fun E h9 q => nomatch (show (Sum.inr E : tq_R) = Sum.inl _ from q.1)) (fun r9 h9 q => ?_)
    obtain ⟨q1, rfl⟩ := q
    cases (show (Sum.inl r9 : tq_R) = Sum.inl (none) from q1)
    refine tq_goto (M := mX8_append) (pc := 32) (tgt := 44) dX8_append_32 (by decide) ?_
    refine tq_pick (L2 := [(0, .ref t), (1, .int a1), (2, .int a2)]) [1, 2, 3] rfl ?_
    cases (Option.some.inj hf)
    exact HJ20
abbrev mX8_copyLoose : tq_M := (RX8, cX8_copyLoose, 2, none, false, [], none)
def f_X8_copyLoose (t : Nat) (a1 : Nat) (h : tq_H) : Option (tq_H) :=
  (tq_gi h a1 8 10).bind fun x1 =>
  (tq_pf h t 8 10 (.int x1)).bind fun w2 =>
  (tq_gr w2 t 8 1).bind fun k3 =>
  (tq_gr w2 a1 8 1).bind fun k4 =>
  (tq_is w2 k3 5).bind fun _ =>
  (f_X5_copy k3 k4 w2).bind fun v5 =>
  (tq_gr v5 t 8 2).bind fun k7 =>
  (tq_gr v5 a1 8 2).bind fun k8 =>
  (tq_is v5 k7 5).bind fun _ =>
  (f_X5_copy k7 k8 v5).bind fun v9 =>
  (tq_gr v9 t 8 3).bind fun k11 =>
  (tq_gr v9 a1 8 3).bind fun k12 =>
  (tq_is v9 k11 5).bind fun _ =>
  (f_X5_copy k11 k12 v9).bind fun v13 =>
  (tq_gr v13 t 8 4).bind fun k15 =>
  (tq_gr v13 a1 8 4).bind fun k16 =>
  (tq_is v13 k15 5).bind fun _ =>
  (f_X5_copy k15 k16 v13).bind fun v17 =>
  (tq_gr v17 t 8 6).bind fun k19 =>
  (tq_gr v17 a1 8 6).bind fun k20 =>
  (tq_is v17 k19 5).bind fun _ =>
  (f_X5_copy k19 k20 v17).bind fun v21 =>
  (tq_gr v21 t 8 5).bind fun k23 =>
  (tq_is v21 k23 5).bind fun _ =>
  (f_X5_setAll k23 (-1 : Int32) v21).bind fun v24 =>
  (tq_gr v24 t 8 7).bind fun k26 =>
  (tq_is v24 k26 5).bind fun _ =>
  (f_X5_setAll k26 (-1 : Int32) v24).bind fun v27 =>
  (tq_gr v27 t 8 8).bind fun k29 =>
  (tq_is v27 k29 5).bind fun _ =>
  (f_X5_setAll k29 (-1 : Int32) v27).bind fun v30 =>
  (tq_gr v30 t 8 9).bind fun k32 =>
  (tq_is v30 k32 5).bind fun _ =>
  (f_X5_setAll k32 (-1 : Int32) v30).bind fun v33 =>
  some v33
set_option maxHeartbeats 4000000 in
set_option maxRecDepth 20000 in
theorem w_X8_copyLoose {l : Launch} {d : Nat} (hd9 : 2 ≤ d) {t : Nat} {a1 : Nat} {h : tq_H} {o : tq_H} {Q : tq_R → tq_H → Prop} (hf : f_X8_copyLoose t a1 h = some o) (hQ : ∀ r h9, r = .inl none ∧ o = h9 → Q r h9) : tq_C l yX8_copyLoose cX8_copyLoose 2 none d 0 0 [.ref t, .ref a1] h Q := by
  refine tq_body (y := yX8_copyLoose) false (by decide +kernel) (fun z => by cases z) (Nat.le_of_ble_eq_true rfl) ?_
  show tq_W l mX8_copyLoose d 0 0 Q 0 [(0, .ref t), (1, .ref a1)] [] h
  refine tq_aload_n (M := mX8_copyLoose) (pc := 0) dX8_copyLoose_0 rfl ?_
  refine tq_aload_n (M := mX8_copyLoose) (pc := 1) dX8_copyLoose_1 rfl ?_
  obtain ⟨x1, ex1, hf⟩ := tq_be hf
  refine tq_getI (M := mX8_copyLoose) (pc := 2) tk_c8 (by decide) dX8_copyLoose_2 tk_RX8_51 rfl ex1 ?_
  obtain ⟨w2, ew2, hf⟩ := tq_be hf
  refine tq_putv (M := mX8_copyLoose) (pc := 5) tk_c8 (by decide) dX8_copyLoose_5 tk_RX8_51 rfl (Or.inl rfl) ew2 (tq_nI _) ?_
  refine tq_aload_n (M := mX8_copyLoose) (pc := 8) dX8_copyLoose_8 rfl ?_
  obtain ⟨k3, ek3, hf⟩ := tq_be hf
  refine tq_getR (M := mX8_copyLoose) (pc := 9) tk_c8 (by decide) dX8_copyLoose_9 tk_RX8_23 rfl ek3 ?_
  refine tq_aload_n (M := mX8_copyLoose) (pc := 12) dX8_copyLoose_12 rfl ?_
  obtain ⟨k4, ek4, hf⟩ := tq_be hf
  refine tq_getR (M := mX8_copyLoose) (pc := 13) tk_c8 (by decide) dX8_copyLoose_13 tk_RX8_23 rfl ek4 ?_
  obtain ⟨⟨⟩, eu6, hf⟩ := tq_be hf
  obtain ⟨fsu6, eu6⟩ := tq_is_s eu6
  obtain ⟨v5, ev5, hf⟩ := tq_be hf
  refine tq_calV (M := mX8_copyLoose) (pc := 16) (S := []) tk_y_X5_copy tk_v_X5_copy tk_RX8_62 dX8_copyLoose_16 [.ref k4] rfl (S0 := _) rfl eu6 rfl (Nat.le_of_ble_eq_true rfl) (d1 := d - 1) (b1 := 0) (s1 := 0) (bc' := 0) (bs' := 0) (Q1 := fun r h9 => r = .inl none ∧ v5 = h9) (by omega) rfl rfl (w_X5_copy (by omega) ev5 (fun _ _ q => q)) (fun E h9 q => nomatch (show (Sum.inr E : tq_R) = Sum.inl _ from q.1)) (fun r9 h9 q => ?_)
  obtain ⟨q1, rfl⟩ := q
  cases (show (Sum.inl r9 : tq_R) = Sum.inl (none) from q1)
  refine tq_aload_n (M := mX8_copyLoose) (pc := 19) dX8_copyLoose_19 rfl ?_
  obtain ⟨k7, ek7, hf⟩ := tq_be hf
  refine tq_getR (M := mX8_copyLoose) (pc := 20) tk_c8 (by decide) dX8_copyLoose_20 tk_RX8_27 rfl ek7 ?_
  refine tq_aload_n (M := mX8_copyLoose) (pc := 23) dX8_copyLoose_23 rfl ?_
  obtain ⟨k8, ek8, hf⟩ := tq_be hf
  refine tq_getR (M := mX8_copyLoose) (pc := 24) tk_c8 (by decide) dX8_copyLoose_24 tk_RX8_27 rfl ek8 ?_
  obtain ⟨⟨⟩, eu10, hf⟩ := tq_be hf
  obtain ⟨fsu10, eu10⟩ := tq_is_s eu10
  obtain ⟨v9, ev9, hf⟩ := tq_be hf
  refine tq_calV (M := mX8_copyLoose) (pc := 27) (S := []) tk_y_X5_copy tk_v_X5_copy tk_RX8_62 dX8_copyLoose_27 [.ref k8] rfl (S0 := _) rfl eu10 rfl (Nat.le_of_ble_eq_true rfl) (d1 := d - 1) (b1 := 0) (s1 := 0) (bc' := 0) (bs' := 0) (Q1 := fun r h9 => r = .inl none ∧ v9 = h9) (by omega) rfl rfl (w_X5_copy (by omega) ev9 (fun _ _ q => q)) (fun E h9 q => nomatch (show (Sum.inr E : tq_R) = Sum.inl _ from q.1)) (fun r9 h9 q => ?_)
  obtain ⟨q1, rfl⟩ := q
  cases (show (Sum.inl r9 : tq_R) = Sum.inl (none) from q1)
  refine tq_aload_n (M := mX8_copyLoose) (pc := 30) dX8_copyLoose_30 rfl ?_
  obtain ⟨k11, ek11, hf⟩ := tq_be hf
  refine tq_getR (M := mX8_copyLoose) (pc := 31) tk_c8 (by decide) dX8_copyLoose_31 tk_RX8_30 rfl ek11 ?_
  refine tq_aload_n (M := mX8_copyLoose) (pc := 34) dX8_copyLoose_34 rfl ?_
  obtain ⟨k12, ek12, hf⟩ := tq_be hf
  refine tq_getR (M := mX8_copyLoose) (pc := 35) tk_c8 (by decide) dX8_copyLoose_35 tk_RX8_30 rfl ek12 ?_
  obtain ⟨⟨⟩, eu14, hf⟩ := tq_be hf
  obtain ⟨fsu14, eu14⟩ := tq_is_s eu14
  obtain ⟨v13, ev13, hf⟩ := tq_be hf
  refine tq_calV (M := mX8_copyLoose) (pc := 38) (S := []) tk_y_X5_copy tk_v_X5_copy tk_RX8_62 dX8_copyLoose_38 [.ref k12] rfl (S0 := _) rfl eu14 rfl (Nat.le_of_ble_eq_true rfl) (d1 := d - 1) (b1 := 0) (s1 := 0) (bc' := 0) (bs' := 0) (Q1 := fun r h9 => r = .inl none ∧ v13 = h9) (by omega) rfl rfl (w_X5_copy (by omega) ev13 (fun _ _ q => q)) (fun E h9 q => nomatch (show (Sum.inr E : tq_R) = Sum.inl _ from q.1)) (fun r9 h9 q => ?_)
  obtain ⟨q1, rfl⟩ := q
  cases (show (Sum.inl r9 : tq_R) = Sum.inl (none) from q1)
  refine tq_aload_n (M := mX8_copyLoose) (pc := 41) dX8_copyLoose_41 rfl ?_
  obtain ⟨k15, ek15, hf⟩ := tq_be hf
  refine tq_getR (M := mX8_copyLoose) (pc := 42) tk_c8 (by decide) dX8_copyLoose_42 tk_RX8_33 rfl ek15 ?_
  refine tq_aload_n (M := mX8_copyLoose) (pc := 45) dX8_copyLoose_45 rfl ?_
  obtain ⟨k16, ek16, hf⟩ := tq_be hf
  refine tq_getR (M := mX8_copyLoose) (pc := 46) tk_c8 (by decide) dX8_copyLoose_46 tk_RX8_33 rfl ek16 ?_
  obtain ⟨⟨⟩, eu18, hf⟩ := tq_be hf
  obtain ⟨fsu18, eu18⟩ := tq_is_s eu18
  obtain ⟨v17, ev17, hf⟩ := tq_be hf
  refine tq_calV (M := mX8_copyLoose) (pc := 49) (S := []) tk_y_X5_copy tk_v_X5_copy tk_RX8_62 dX8_copyLoose_49 [.ref k16] rfl (S0 := _) rfl eu18 rfl (Nat.le_of_ble_eq_true rfl) (d1 := d - 1) (b1 := 0) (s1 := 0) (bc' := 0) (bs' := 0) (Q1 := fun r h9 => r = .inl none ∧ v17 = h9) (by omega) rfl rfl (w_X5_copy (by omega) ev17 (fun _ _ q => q)) (fun E h9 q => nomatch (show (Sum.inr E : tq_R) = Sum.inl _ from q.1)) (fun r9 h9 q => ?_)
  obtain ⟨q1, rfl⟩ := q
  cases (show (Sum.inl r9 : tq_R) = Sum.inl (none) from q1)
  refine tq_aload_n (M := mX8_copyLoose) (pc := 52) dX8_copyLoose_52 rfl ?_
  obtain ⟨k19, ek19, hf⟩ := tq_be hf
  refine tq_getR (M := mX8_copyLoose) (pc := 53) tk_c8 (by decide) dX8_copyLoose_53 tk_RX8_39 rfl ek19 ?_
  refine tq_aload_n (M := mX8_copyLoose) (pc := 56) dX8_copyLoose_56 rfl ?_
  obtain ⟨k20, ek20, hf⟩ := tq_be hf
  refine tq_getR (M := mX8_copyLoose) (pc := 57) tk_c8 (by decide) dX8_copyLoose_57 tk_RX8_39 rfl ek20 ?_
  obtain ⟨⟨⟩, eu22, hf⟩ := tq_be hf
  obtain ⟨fsu22, eu22⟩ := tq_is_s eu22
  obtain ⟨v21, ev21, hf⟩ := tq_be hf
  refine tq_calV (M := mX8_copyLoose) (pc := 60) (S := []) tk_y_X5_copy tk_v_X5_copy tk_RX8_62 dX8_copyLoose_60 [.ref k20] rfl (S0 := _) rfl eu22 rfl (Nat.le_of_ble_eq_true rfl) (d1 := d - 1) (b1 := 0) (s1 := 0) (bc' := 0) (bs' := 0) (Q1 := fun r h9 => r = .inl none ∧ v21 = h9) (by omega) rfl rfl (w_X5_copy (by omega) ev21 (fun _ _ q => q)) (fun E h9 q => nomatch (show (Sum.inr E : tq_R) = Sum.inl _ from q.1)) (fun r9 h9 q => ?_)
  obtain ⟨q1, rfl⟩ := q
  cases (show (Sum.inl r9 : tq_R) = Sum.inl (none) from q1)
  refine tq_aload_n (M := mX8_copyLoose) (pc := 63) dX8_copyLoose_63 rfl ?_
  obtain ⟨k23, ek23, hf⟩ := tq_be hf
  refine tq_getR (M := mX8_copyLoose) (pc := 64) tk_c8 (by decide) dX8_copyLoose_64 tk_RX8_36 rfl ek23 ?_
  refine tq_iconst (M := mX8_copyLoose) (pc := 67) dX8_copyLoose_67 tk_ki_m1 ?_
  obtain ⟨⟨⟩, eu25, hf⟩ := tq_be hf
  obtain ⟨fsu25, eu25⟩ := tq_is_s eu25
  obtain ⟨v24, ev24, hf⟩ := tq_be hf
  refine tq_calV (M := mX8_copyLoose) (pc := 68) (S := []) tk_y_X5_setAll tk_v_X5_setAll tk_RX8_66 dX8_copyLoose_68 [.int (-1 : Int32)] rfl (S0 := _) rfl eu25 rfl (Nat.le_of_ble_eq_true rfl) (d1 := d - 1) (b1 := 0) (s1 := 0) (bc' := 0) (bs' := 0) (Q1 := fun r h9 => r = .inl none ∧ v24 = h9) (by omega) rfl rfl (w_X5_setAll (by omega) ev24 (fun _ _ q => q)) (fun E h9 q => nomatch (show (Sum.inr E : tq_R) = Sum.inl _ from q.1)) (fun r9 h9 q => ?_)
  obtain ⟨q1, rfl⟩ := q
  cases (show (Sum.inl r9 : tq_R) = Sum.inl (none) from q1)
  refine tq_aload_n (M := mX8_copyLoose) (pc := 71) dX8_copyLoose_71 rfl ?_
  obtain ⟨k26, ek26, hf⟩ := tq_be hf
  refine tq_getR (M := mX8_copyLoose) (pc := 72) tk_c8 (by decide) dX8_copyLoose_72 tk_RX8_42 rfl ek26 ?_
  refine tq_iconst (M := mX8_copyLoose) (pc := 75) dX8_copyLoose_75 tk_ki_m1 ?_
  obtain ⟨⟨⟩, eu28, hf⟩ := tq_be hf
  obtain ⟨fsu28, eu28⟩ := tq_is_s eu28
  obtain ⟨v27, ev27, hf⟩ := tq_be hf
  refine tq_calV (M := mX8_copyLoose) (pc := 76) (S := []) tk_y_X5_setAll tk_v_X5_setAll tk_RX8_66 dX8_copyLoose_76 [.int (-1 : Int32)] rfl (S0 := _) rfl eu28 rfl (Nat.le_of_ble_eq_true rfl) (d1 := d - 1) (b1 := 0) (s1 := 0) (bc' := 0) (bs' := 0) (Q1 := fun r h9 => r = .inl none ∧ v27 = h9) (by omega) rfl rfl (w_X5_setAll (by omega) ev27 (fun _ _ q => q)) (fun E h9 q => nomatch (show (Sum.inr E : tq_R) = Sum.inl _ from q.1)) (fun r9 h9 q => ?_)
  obtain ⟨q1, rfl⟩ := q
  cases (show (Sum.inl r9 : tq_R) = Sum.inl (none) from q1)
  refine tq_aload_n (M := mX8_copyLoose) (pc := 79) dX8_copyLoose_79 rfl ?_
  obtain ⟨k29, ek29, hf⟩ := tq_be hf
  refine tq_getR (M := mX8_copyLoose) (pc := 80) tk_c8 (by decide) dX8_copyLoose_80 tk_RX8_45 rfl ek29 ?_
  refine tq_iconst (M := mX8_copyLoose) (pc := 83) dX8_copyLoose_83 tk_ki_m1 ?_
  obtain ⟨⟨⟩, eu31, hf⟩ := tq_be hf
  obtain ⟨fsu31, eu31⟩ := tq_is_s eu31
  obtain ⟨v30, ev30, hf⟩ := tq_be hf
  refine tq_calV (M := mX8_copyLoose) (pc := 84) (S := []) tk_y_X5_setAll tk_v_X5_setAll tk_RX8_66 dX8_copyLoose_84 [.int (-1 : Int32)] rfl (S0 := _) rfl eu31 rfl (Nat.le_of_ble_eq_true rfl) (d1 := d - 1) (b1 := 0) (s1 := 0) (bc' := 0) (bs' := 0) (Q1 := fun r h9 => r = .inl none ∧ v30 = h9) (by omega) rfl rfl (w_X5_setAll (by omega) ev30 (fun _ _ q => q)) (fun E h9 q => nomatch (show (Sum.inr E : tq_R) = Sum.inl _ from q.1)) (fun r9 h9 q => ?_)
  obtain ⟨q1, rfl⟩ := q
  cases (show (Sum.inl r9 : tq_R) = Sum.inl (none) from q1)
  refine tq_aload_n (M := mX8_copyLoose) (pc := 87) dX8_copyLoose_87 rfl ?_
  obtain ⟨k32, ek32, hf⟩ := tq_be hf
  refine tq_getR (M := mX8_copyLoose) (pc := 88) tk_c8 (by decide) dX8_copyLoose_88 tk_RX8_48 rfl ek32 ?_
  refine tq_iconst (M := mX8_copyLoose) (pc := 91) dX8_copyLoose_91 tk_ki_m1 ?_
  obtain ⟨⟨⟩, eu34, hf⟩ := tq_be hf
  obtain ⟨fsu34, eu34⟩ := tq_is_s eu34
  obtain ⟨v33, ev33, hf⟩ := tq_be hf
  refine tq_calV (M := mX8_copyLoose) (pc := 92) (S := []) tk_y_X5_setAll tk_v_X5_setAll tk_RX8_66 dX8_copyLoose_92 [.int (-1 : Int32)] rfl (S0 := _) rfl eu34 rfl (Nat.le_of_ble_eq_true rfl) (d1 := d - 1) (b1 := 0) (s1 := 0) (bc' := 0) (bs' := 0) (Q1 := fun r h9 => r = .inl none ∧ v33 = h9) (by omega) rfl rfl (w_X5_setAll (by omega) ev33 (fun _ _ q => q)) (fun E h9 q => nomatch (show (Sum.inr E : tq_R) = Sum.inl _ from q.1)) (fun r9 h9 q => ?_)
  obtain ⟨q1, rfl⟩ := q
  cases (show (Sum.inl r9 : tq_R) = Sum.inl (none) from q1)
  refine tq_vret (M := mX8_copyLoose) (pc := 95) dX8_copyLoose_95 rfl ?_
  cases (Option.some.inj hf)
  exact hQ _ _ ⟨rfl, rfl⟩
abbrev mX8_following : tq_M := (RX8, cX8_following, 4, (some .int), false, [], none)
def f_X8_following_b25 (i0 : Nat) (hh : tq_H) (s : Int32 × Int32) : Option ((Int32 × Int32) ⊕ ((Unit) ⊕ (Int32))) := match s with
  | (y2, y3) =>
    if y3 ≥ (60 : Int32) then
      some (.inr (.inl ()))
    else
      if y2 = (-1 : Int32) then
        some (.inr (.inl ()))
      else
        (tq_gr hh i0 8 8).bind fun k4 =>
        (tq_is hh k4 5).bind fun _ =>
        (f_X5_get k4 y2 hh).bind fun v5 =>
        if v5 = (-1 : Int32) then
          (tq_gr hh i0 8 5).bind fun k7 =>
          (tq_is hh k7 5).bind fun _ =>
          (f_X5_get k7 y2 hh).bind fun v8 =>
          tq_let (y3 + (1 : Int32)) fun x10 =>
          some (.inl (v8, x10))
        else
          (tq_gr hh i0 8 8).bind fun k11 =>
          (tq_is hh k11 5).bind fun _ =>
          (f_X5_get k11 y2 hh).bind fun v12 =>
          some (.inr (.inr v12))
def f_X8_following (t : Nat) (a1 : Int32) (h : tq_H) : Option (Int32) :=
  (tq_gr h t 8 7).bind fun k1 =>
  (tq_is h k1 5).bind fun _ =>
  (f_X5_get k1 a1 h).bind fun v2 =>
  if v2 = (-1 : Int32) then
    (tq_loop (f_X8_following_b25 t h) tq_N (a1, (0 : Int32))).bind fun o14 => match o14 with
    | .inl o14 =>
      some (-1 : Int32)
    | .inr e9 =>
      some e9
  else
    (tq_gr h t 8 7).bind fun k15 =>
    (tq_is h k15 5).bind fun _ =>
    (f_X5_get k15 a1 h).bind fun v16 =>
    some v16
set_option maxHeartbeats 4000000 in
theorem l_X8_following_25 {l : Launch} {d : Nat} {Q : tq_R → tq_H → Prop} {bc bs : Nat} (hd9 : 1 ≤ d) (i0 : Nat) (hh : tq_H) : ∀ (n : Nat) (y2 : Int32) (y3 : Int32) (o : (Unit) ⊕ (Int32)), tq_loop (f_X8_following_b25 i0 hh) n (y2, y3) = some o → (match o with
    | .inl e9 => tq_W l mX8_following d bc bs Q 72 [] [] hh
    | .inr e9 => (∀ r h9, r = .inl (some (.int e9)) ∧ hh = h9 → Q r h9)) → tq_W l mX8_following d bc bs Q 25 [(0, .ref i0), (2, .int y2), (3, .int y3)] [] hh := by
  intro n
  induction n with
  | zero => intro y2 y3 o hl; cases hl
  | succ n ih =>
    intro y2 y3 o hl hk
    obtain ⟨oo, hf, ho⟩ := tq_loop_s hl
    refine tq_iload_n (M := mX8_following) (pc := 25) dX8_following_25 rfl ?_
    refine tq_bipush (M := mX8_following) (pc := 26) dX8_following_26 tk_kb_60 ?_
    refine tq_icmp_ge (M := mX8_following) (pc := 28) (tgt := 72) dX8_following_28 (by decide) (fun cc => ?_) (fun cc => ?_)
    · have hf := tq_ifp hf cc
      refine tq_pick (L2 := []) [] rfl ?_
      cases (Option.some.inj hf)
      cases (tq_lx ho)
      exact hk
    · have hf := tq_ifn hf cc
      refine tq_iload_n (M := mX8_following) (pc := 31) dX8_following_31 rfl ?_
      refine tq_iconst (M := mX8_following) (pc := 32) dX8_following_32 tk_ki_m1 ?_
      refine tq_icmp_eq (M := mX8_following) (pc := 33) (tgt := 72) dX8_following_33 (by decide) (fun cc => ?_) (fun cc => ?_)
      · have hf := tq_ifp hf cc
        refine tq_pick (L2 := []) [] rfl ?_
        cases (Option.some.inj hf)
        cases (tq_lx ho)
        exact hk
      · have hf := tq_ifn hf cc
        refine tq_aload_n (M := mX8_following) (pc := 36) dX8_following_36 rfl ?_
        obtain ⟨k4, ek4, hf⟩ := tq_be hf
        refine tq_getR (M := mX8_following) (pc := 37) tk_c8 (by decide) dX8_following_37 tk_RX8_45 rfl ek4 ?_
        refine tq_iload_n (M := mX8_following) (pc := 40) dX8_following_40 rfl ?_
        obtain ⟨⟨⟩, eu6, hf⟩ := tq_be hf
        obtain ⟨fsu6, eu6⟩ := tq_is_s eu6
        obtain ⟨v5, ev5, hf⟩ := tq_be hf
        refine tq_calV (M := mX8_following) (pc := 41) (S := []) tk_y_X5_get tk_v_X5_get tk_RX8_58 dX8_following_41 [.int y2] rfl (S0 := _) rfl eu6 rfl (Nat.le_of_ble_eq_true rfl) (d1 := d - 1) (b1 := 0) (s1 := 0) (bc' := bc) (bs' := bs) (Q1 := fun r h9 => r = .inl (some (.int v5)) ∧ hh = h9) (by omega) (by omega) (by omega) (w_X5_get (by omega) ev5 (fun _ _ q => q)) (fun E h9 q => nomatch (show (Sum.inr E : tq_R) = Sum.inl _ from q.1)) (fun r9 h9 q => ?_)
        obtain ⟨q1, rfl⟩ := q
        cases (show (Sum.inl r9 : tq_R) = Sum.inl (some (.int v5)) from q1)
        refine tq_iconst (M := mX8_following) (pc := 44) dX8_following_44 tk_ki_m1 ?_
        refine tq_icmp_eq (M := mX8_following) (pc := 45) (tgt := 57) dX8_following_45 (by decide) (fun cc => ?_) (fun cc => ?_)
        · have hf := tq_ifp hf cc
          refine tq_aload_n (M := mX8_following) (pc := 57) dX8_following_57 rfl ?_
          obtain ⟨k7, ek7, hf⟩ := tq_be hf
          refine tq_getR (M := mX8_following) (pc := 58) tk_c8 (by decide) dX8_following_58 tk_RX8_36 rfl ek7 ?_
          refine tq_iload_n (M := mX8_following) (pc := 61) dX8_following_61 rfl ?_
          obtain ⟨⟨⟩, eu9, hf⟩ := tq_be hf
          obtain ⟨fsu9, eu9⟩ := tq_is_s eu9
          obtain ⟨v8, ev8, hf⟩ := tq_be hf
          refine tq_calV (M := mX8_following) (pc := 62) (S := []) tk_y_X5_get tk_v_X5_get tk_RX8_58 dX8_following_62 [.int y2] rfl (S0 := _) rfl eu9 rfl (Nat.le_of_ble_eq_true rfl) (d1 := d - 1) (b1 := 0) (s1 := 0) (bc' := bc) (bs' := bs) (Q1 := fun r h9 => r = .inl (some (.int v8)) ∧ hh = h9) (by omega) (by omega) (by omega) (w_X5_get (by omega) ev8 (fun _ _ q => q)) (fun E h9 q => nomatch (show (Sum.inr E : tq_R) = Sum.inl _ from q.1)) (fun r9 h9 q => ?_)
          obtain ⟨q1, rfl⟩ := q
          cases (show (Sum.inl r9 : tq_R) = Sum.inl (some (.int v8)) from q1)
          refine tq_istore_n (M := mX8_following) (pc := 65) rfl dX8_following_65 (L2 := [(2, .int v8), (0, .ref i0), (3, .int y3)]) (by decide) rfl ?_
          obtain ⟨x10, ex10, hf⟩ := tq_le hf
          refine tq_iinc (M := mX8_following) (pc := 66) (v := x10) (L2 := [(3, .int x10), (2, .int v8), (0, .ref i0)]) dX8_following_66 rfl (by rw [ex10, tk_ki_1]) (by decide) rfl ?_
          refine tq_goto (M := mX8_following) (pc := 69) (tgt := 25) dX8_following_69 (by decide) ?_
          refine tq_pick (L2 := [(0, .ref i0), (2, .int v8), (3, .int x10)]) [2, 1, 0] rfl ?_
          cases (Option.some.inj hf)
          exact ih _ _ o (tq_lc ho) hk
        · have hf := tq_ifn hf cc
          refine tq_aload_n (M := mX8_following) (pc := 48) dX8_following_48 rfl ?_
          obtain ⟨k11, ek11, hf⟩ := tq_be hf
          refine tq_getR (M := mX8_following) (pc := 49) tk_c8 (by decide) dX8_following_49 tk_RX8_45 rfl ek11 ?_
          refine tq_iload_n (M := mX8_following) (pc := 52) dX8_following_52 rfl ?_
          obtain ⟨⟨⟩, eu13, hf⟩ := tq_be hf
          obtain ⟨fsu13, eu13⟩ := tq_is_s eu13
          obtain ⟨v12, ev12, hf⟩ := tq_be hf
          refine tq_calV (M := mX8_following) (pc := 53) (S := []) tk_y_X5_get tk_v_X5_get tk_RX8_58 dX8_following_53 [.int y2] rfl (S0 := _) rfl eu13 rfl (Nat.le_of_ble_eq_true rfl) (d1 := d - 1) (b1 := 0) (s1 := 0) (bc' := bc) (bs' := bs) (Q1 := fun r h9 => r = .inl (some (.int v12)) ∧ hh = h9) (by omega) (by omega) (by omega) (w_X5_get (by omega) ev12 (fun _ _ q => q)) (fun E h9 q => nomatch (show (Sum.inr E : tq_R) = Sum.inl _ from q.1)) (fun r9 h9 q => ?_)
          obtain ⟨q1, rfl⟩ := q
          cases (show (Sum.inl r9 : tq_R) = Sum.inl (some (.int v12)) from q1)
          refine tq_iret (M := mX8_following) (pc := 56) dX8_following_56 rfl ?_
          cases (Option.some.inj hf)
          cases (tq_lx ho)
          exact hk _ _ ⟨rfl, rfl⟩
set_option maxHeartbeats 4000000 in
set_option maxRecDepth 20000 in
theorem w_X8_following {l : Launch} {d : Nat} (hd9 : 1 ≤ d) {t : Nat} {a1 : Int32} {h : tq_H} {o : Int32} {Q : tq_R → tq_H → Prop} (hf : f_X8_following t a1 h = some o) (hQ : ∀ r h9, r = .inl (some (.int o)) ∧ h = h9 → Q r h9) : tq_C l yX8_following cX8_following 4 (some .int) d 0 0 [.ref t, .int a1] h Q := by
  refine tq_body (y := yX8_following) false (by decide +kernel) (fun z => by cases z) (Nat.le_of_ble_eq_true rfl) ?_
  show tq_W l mX8_following d 0 0 Q 0 [(0, .ref t), (1, .int a1)] [] h
  refine tq_aload_n (M := mX8_following) (pc := 0) dX8_following_0 rfl ?_
  obtain ⟨k1, ek1, hf⟩ := tq_be hf
  refine tq_getR (M := mX8_following) (pc := 1) tk_c8 (by decide) dX8_following_1 tk_RX8_42 rfl ek1 ?_
  refine tq_iload_n (M := mX8_following) (pc := 4) dX8_following_4 rfl ?_
  obtain ⟨⟨⟩, eu3, hf⟩ := tq_be hf
  obtain ⟨fsu3, eu3⟩ := tq_is_s eu3
  obtain ⟨v2, ev2, hf⟩ := tq_be hf
  refine tq_calV (M := mX8_following) (pc := 5) (S := []) tk_y_X5_get tk_v_X5_get tk_RX8_58 dX8_following_5 [.int a1] rfl (S0 := _) rfl eu3 rfl (Nat.le_of_ble_eq_true rfl) (d1 := d - 1) (b1 := 0) (s1 := 0) (bc' := 0) (bs' := 0) (Q1 := fun r h9 => r = .inl (some (.int v2)) ∧ h = h9) (by omega) rfl rfl (w_X5_get (by omega) ev2 (fun _ _ q => q)) (fun E h9 q => nomatch (show (Sum.inr E : tq_R) = Sum.inl _ from q.1)) (fun r9 h9 q => ?_)
  obtain ⟨q1, rfl⟩ := q
  cases (show (Sum.inl r9 : tq_R) = Sum.inl (some (.int v2)) from q1)
  refine tq_iconst (M := mX8_following) (pc := 8) dX8_following_8 tk_ki_m1 ?_
  refine tq_icmp_eq (M := mX8_following) (pc := 9) (tgt := 21) dX8_following_9 (by decide) (fun cc => ?_) (fun cc => ?_)
  · have hf := tq_ifp hf cc
    refine tq_iload_n (M := mX8_following) (pc := 21) dX8_following_21 rfl ?_
    refine tq_istore_n (M := mX8_following) (pc := 22) rfl dX8_following_22 (L2 := [(2, .int a1), (0, .ref t), (1, .int a1)]) (by decide) rfl ?_
    refine tq_iconst (M := mX8_following) (pc := 23) dX8_following_23 tk_ki_0 ?_
    refine tq_istore_n (M := mX8_following) (pc := 24) rfl dX8_following_24 (L2 := [(3, .int (0 : Int32)), (2, .int a1), (0, .ref t), (1, .int a1)]) (by decide) rfl ?_
    obtain ⟨o14, eo14, hf⟩ := tq_be hf
    refine tq_pick (L2 := [(0, .ref t), (2, .int a1), (3, .int (0 : Int32))]) [2, 1, 0] rfl ?_
    refine l_X8_following_25 (bc := 0) (bs := 0) (by omega) t h _ a1 (0 : Int32) _ eo14 ?_
    cases o14 with
    | inl o14 =>
      refine tq_iconst (M := mX8_following) (pc := 72) dX8_following_72 tk_ki_m1 ?_
      refine tq_iret (M := mX8_following) (pc := 73) dX8_following_73 rfl ?_
      cases (Option.some.inj hf)
      exact hQ _ _ ⟨rfl, rfl⟩
    | inr e9 =>
      cases (Option.some.inj hf)
      exact hQ
  · have hf := tq_ifn hf cc
    refine tq_aload_n (M := mX8_following) (pc := 12) dX8_following_12 rfl ?_
    obtain ⟨k15, ek15, hf⟩ := tq_be hf
    refine tq_getR (M := mX8_following) (pc := 13) tk_c8 (by decide) dX8_following_13 tk_RX8_42 rfl ek15 ?_
    refine tq_iload_n (M := mX8_following) (pc := 16) dX8_following_16 rfl ?_
    obtain ⟨⟨⟩, eu17, hf⟩ := tq_be hf
    obtain ⟨fsu17, eu17⟩ := tq_is_s eu17
    obtain ⟨v16, ev16, hf⟩ := tq_be hf
    refine tq_calV (M := mX8_following) (pc := 17) (S := []) tk_y_X5_get tk_v_X5_get tk_RX8_58 dX8_following_17 [.int a1] rfl (S0 := _) rfl eu17 rfl (Nat.le_of_ble_eq_true rfl) (d1 := d - 1) (b1 := 0) (s1 := 0) (bc' := 0) (bs' := 0) (Q1 := fun r h9 => r = .inl (some (.int v16)) ∧ h = h9) (by omega) rfl rfl (w_X5_get (by omega) ev16 (fun _ _ q => q)) (fun E h9 q => nomatch (show (Sum.inr E : tq_R) = Sum.inl _ from q.1)) (fun r9 h9 q => ?_)
    obtain ⟨q1, rfl⟩ := q
    cases (show (Sum.inl r9 : tq_R) = Sum.inl (some (.int v16)) from q1)
    refine tq_iret (M := mX8_following) (pc := 20) dX8_following_20 rfl ?_
    cases (Option.some.inj hf)
    exact hQ _ _ ⟨rfl, rfl⟩
abbrev mX8_layOut : tq_M := (RX8, cX8_layOut, 4, none, false, [], none)
def f_X8_layOut_b11 (i0 : Nat) (s : Int32 × Int32 × tq_H) : Option ((Int32 × Int32 × tq_H) ⊕ (tq_H)) := match s with
  | (y1, y2, hh) =>
    if y2 ≥ (60 : Int32) then
      some (.inr hh)
    else
      if y1 = (-1 : Int32) then
        some (.inr hh)
      else
        (tq_gr hh i0 8 0).bind fun k4 =>
        (tq_gr hh i0 8 5).bind fun k5 =>
        (tq_is hh k5 5).bind fun _ =>
        (f_X5_get k5 y1 hh).bind fun v6 =>
        (tq_is hh k4 3).bind fun _ =>
        (f_X3_spotOf k4 v6 hh).bind fun v8 =>
        (tq_gr hh i0 8 0).bind fun k10 =>
        (tq_gr hh i0 8 1).bind fun k11 =>
        (tq_is hh k11 5).bind fun _ =>
        (f_X5_get k11 y1 hh).bind fun v12 =>
        (tq_gr hh i0 8 2).bind fun k14 =>
        (tq_is hh k14 5).bind fun _ =>
        (f_X5_get k14 y1 hh).bind fun v15 =>
        (tq_gr hh i0 8 4).bind fun k17 =>
        (tq_is hh k17 5).bind fun _ =>
        (f_X5_get k17 y1 hh).bind fun v18 =>
        (tq_is hh k10 3).bind fun _ =>
        (f_X3_add k10 y1 v8 v12 v15 v18 hh).bind fun v20 =>
        (tq_is v20 i0 8).bind fun _ =>
        (f_X8_following i0 y1 v20).bind fun v22 =>
        tq_let (y2 + (1 : Int32)) fun x24 =>
        some (.inl (v22, x24, v20))
def f_X8_layOut (t : Nat) (h : tq_H) : Option (tq_H) :=
  (tq_gr h t 8 0).bind fun k1 =>
  (tq_is h k1 3).bind fun _ =>
  (f_X3_clear k1 h).bind fun v2 =>
  (tq_loop (f_X8_layOut_b11 t) tq_N ((0 : Int32), (0 : Int32), v2)).bind fun o25 =>
  (tq_gr o25 t 8 0).bind fun k26 =>
  (tq_is o25 k26 3).bind fun _ =>
  (f_X3_close k26 o25).bind fun v27 =>
  some v27
set_option maxHeartbeats 4000000 in
theorem l_X8_layOut_11 {l : Launch} {d : Nat} {Q : tq_R → tq_H → Prop} {bc bs : Nat} (hd9 : 3 ≤ d) (i0 : Nat) : ∀ (n : Nat) (y1 : Int32) (y2 : Int32) (hh : tq_H) (o : tq_H), tq_loop (f_X8_layOut_b11 i0) n (y1, y2, hh) = some o → tq_W l mX8_layOut d bc bs Q 83 [(0, .ref i0)] [] o → tq_W l mX8_layOut d bc bs Q 11 [(0, .ref i0), (1, .int y1), (2, .int y2)] [] hh := by
  intro n
  induction n with
  | zero => intro y1 y2 hh o hl; cases hl
  | succ n ih =>
    intro y1 y2 hh o hl hk
    obtain ⟨oo, hf, ho⟩ := tq_loop_s hl
    refine tq_iload_n (M := mX8_layOut) (pc := 11) dX8_layOut_11 rfl ?_
    refine tq_bipush (M := mX8_layOut) (pc := 12) dX8_layOut_12 tk_kb_60 ?_
    refine tq_icmp_ge (M := mX8_layOut) (pc := 14) (tgt := 83) dX8_layOut_14 (by decide) (fun cc => ?_) (fun cc => ?_)
    · have hf := tq_ifp hf cc
      refine tq_pick (L2 := [(0, .ref i0)]) [0] rfl ?_
      cases (Option.some.inj hf)
      cases (tq_lx ho)
      exact hk
    · have hf := tq_ifn hf cc
      refine tq_iload_n (M := mX8_layOut) (pc := 17) dX8_layOut_17 rfl ?_
      refine tq_iconst (M := mX8_layOut) (pc := 18) dX8_layOut_18 tk_ki_m1 ?_
      refine tq_icmp_eq (M := mX8_layOut) (pc := 19) (tgt := 83) dX8_layOut_19 (by decide) (fun cc => ?_) (fun cc => ?_)
      · have hf := tq_ifp hf cc
        refine tq_pick (L2 := [(0, .ref i0)]) [0] rfl ?_
        cases (Option.some.inj hf)
        cases (tq_lx ho)
        exact hk
      · have hf := tq_ifn hf cc
        refine tq_aload_n (M := mX8_layOut) (pc := 22) dX8_layOut_22 rfl ?_
        obtain ⟨k4, ek4, hf⟩ := tq_be hf
        refine tq_getR (M := mX8_layOut) (pc := 23) tk_c8 (by decide) dX8_layOut_23 tk_RX8_12 rfl ek4 ?_
        refine tq_aload_n (M := mX8_layOut) (pc := 26) dX8_layOut_26 rfl ?_
        obtain ⟨k5, ek5, hf⟩ := tq_be hf
        refine tq_getR (M := mX8_layOut) (pc := 27) tk_c8 (by decide) dX8_layOut_27 tk_RX8_36 rfl ek5 ?_
        refine tq_iload_n (M := mX8_layOut) (pc := 30) dX8_layOut_30 rfl ?_
        obtain ⟨⟨⟩, eu7, hf⟩ := tq_be hf
        obtain ⟨fsu7, eu7⟩ := tq_is_s eu7
        obtain ⟨v6, ev6, hf⟩ := tq_be hf
        refine tq_calV (M := mX8_layOut) (pc := 31) (S := [.ref k4]) tk_y_X5_get tk_v_X5_get tk_RX8_58 dX8_layOut_31 [.int y1] rfl (S0 := _) rfl eu7 rfl (Nat.le_of_ble_eq_true rfl) (d1 := d - 1) (b1 := 0) (s1 := 0) (bc' := bc) (bs' := bs) (Q1 := fun r h9 => r = .inl (some (.int v6)) ∧ hh = h9) (by omega) (by omega) (by omega) (w_X5_get (by omega) ev6 (fun _ _ q => q)) (fun E h9 q => nomatch (show (Sum.inr E : tq_R) = Sum.inl _ from q.1)) (fun r9 h9 q => ?_)
        obtain ⟨q1, rfl⟩ := q
        cases (show (Sum.inl r9 : tq_R) = Sum.inl (some (.int v6)) from q1)
        obtain ⟨⟨⟩, eu9, hf⟩ := tq_be hf
        obtain ⟨fsu9, eu9⟩ := tq_is_s eu9
        obtain ⟨v8, ev8, hf⟩ := tq_be hf
        refine tq_calV (M := mX8_layOut) (pc := 34) (S := []) tk_y_X3_spotOf tk_v_X3_spotOf tk_RX8_80 dX8_layOut_34 [.int v6] rfl (S0 := _) rfl eu9 rfl (Nat.le_of_ble_eq_true rfl) (d1 := d - 1) (b1 := 0) (s1 := 0) (bc' := bc) (bs' := bs) (Q1 := fun r h9 => r = .inl (some (.int v8)) ∧ hh = h9) (by omega) (by omega) (by omega) (w_X3_spotOf (by omega) ev8 (fun _ _ q => q)) (fun E h9 q => nomatch (show (Sum.inr E : tq_R) = Sum.inl _ from q.1)) (fun r9 h9 q => ?_)
        obtain ⟨q1, rfl⟩ := q
        cases (show (Sum.inl r9 : tq_R) = Sum.inl (some (.int v8)) from q1)
        refine tq_istore_n (M := mX8_layOut) (pc := 37) rfl dX8_layOut_37 (L2 := [(3, .int v8), (0, .ref i0), (1, .int y1), (2, .int y2)]) (by decide) rfl ?_
        refine tq_aload_n (M := mX8_layOut) (pc := 38) dX8_layOut_38 rfl ?_
        obtain ⟨k10, ek10, hf⟩ := tq_be hf
        refine tq_getR (M := mX8_layOut) (pc := 39) tk_c8 (by decide) dX8_layOut_39 tk_RX8_12 rfl ek10 ?_
        refine tq_iload_n (M := mX8_layOut) (pc := 42) dX8_layOut_42 rfl ?_
        refine tq_iload_n (M := mX8_layOut) (pc := 43) dX8_layOut_43 rfl ?_
        refine tq_aload_n (M := mX8_layOut) (pc := 44) dX8_layOut_44 rfl ?_
        obtain ⟨k11, ek11, hf⟩ := tq_be hf
        refine tq_getR (M := mX8_layOut) (pc := 45) tk_c8 (by decide) dX8_layOut_45 tk_RX8_23 rfl ek11 ?_
        refine tq_iload_n (M := mX8_layOut) (pc := 48) dX8_layOut_48 rfl ?_
        obtain ⟨⟨⟩, eu13, hf⟩ := tq_be hf
        obtain ⟨fsu13, eu13⟩ := tq_is_s eu13
        obtain ⟨v12, ev12, hf⟩ := tq_be hf
        refine tq_calV (M := mX8_layOut) (pc := 49) (S := [.int v8, .int y1, .ref k10]) tk_y_X5_get tk_v_X5_get tk_RX8_58 dX8_layOut_49 [.int y1] rfl (S0 := _) rfl eu13 rfl (Nat.le_of_ble_eq_true rfl) (d1 := d - 1) (b1 := 0) (s1 := 0) (bc' := bc) (bs' := bs) (Q1 := fun r h9 => r = .inl (some (.int v12)) ∧ hh = h9) (by omega) (by omega) (by omega) (w_X5_get (by omega) ev12 (fun _ _ q => q)) (fun E h9 q => nomatch (show (Sum.inr E : tq_R) = Sum.inl _ from q.1)) (fun r9 h9 q => ?_)
        obtain ⟨q1, rfl⟩ := q
        cases (show (Sum.inl r9 : tq_R) = Sum.inl (some (.int v12)) from q1)
        refine tq_aload_n (M := mX8_layOut) (pc := 52) dX8_layOut_52 rfl ?_
        obtain ⟨k14, ek14, hf⟩ := tq_be hf
        refine tq_getR (M := mX8_layOut) (pc := 53) tk_c8 (by decide) dX8_layOut_53 tk_RX8_27 rfl ek14 ?_
        refine tq_iload_n (M := mX8_layOut) (pc := 56) dX8_layOut_56 rfl ?_
        obtain ⟨⟨⟩, eu16, hf⟩ := tq_be hf
        obtain ⟨fsu16, eu16⟩ := tq_is_s eu16
        obtain ⟨v15, ev15, hf⟩ := tq_be hf
        refine tq_calV (M := mX8_layOut) (pc := 57) (S := [.int v12, .int v8, .int y1, .ref k10]) tk_y_X5_get tk_v_X5_get tk_RX8_58 dX8_layOut_57 [.int y1] rfl (S0 := _) rfl eu16 rfl (Nat.le_of_ble_eq_true rfl) (d1 := d - 1) (b1 := 0) (s1 := 0) (bc' := bc) (bs' := bs) (Q1 := fun r h9 => r = .inl (some (.int v15)) ∧ hh = h9) (by omega) (by omega) (by omega) (w_X5_get (by omega) ev15 (fun _ _ q => q)) (fun E h9 q => nomatch (show (Sum.inr E : tq_R) = Sum.inl _ from q.1)) (fun r9 h9 q => ?_)
        obtain ⟨q1, rfl⟩ := q
        cases (show (Sum.inl r9 : tq_R) = Sum.inl (some (.int v15)) from q1)
        refine tq_aload_n (M := mX8_layOut) (pc := 60) dX8_layOut_60 rfl ?_
        obtain ⟨k17, ek17, hf⟩ := tq_be hf
        refine tq_getR (M := mX8_layOut) (pc := 61) tk_c8 (by decide) dX8_layOut_61 tk_RX8_33 rfl ek17 ?_
        refine tq_iload_n (M := mX8_layOut) (pc := 64) dX8_layOut_64 rfl ?_
        obtain ⟨⟨⟩, eu19, hf⟩ := tq_be hf
        obtain ⟨fsu19, eu19⟩ := tq_is_s eu19
        obtain ⟨v18, ev18, hf⟩ := tq_be hf
        refine tq_calV (M := mX8_layOut) (pc := 65) (S := [.int v15, .int v12, .int v8, .int y1, .ref k10]) tk_y_X5_get tk_v_X5_get tk_RX8_58 dX8_layOut_65 [.int y1] rfl (S0 := _) rfl eu19 rfl (Nat.le_of_ble_eq_true rfl) (d1 := d - 1) (b1 := 0) (s1 := 0) (bc' := bc) (bs' := bs) (Q1 := fun r h9 => r = .inl (some (.int v18)) ∧ hh = h9) (by omega) (by omega) (by omega) (w_X5_get (by omega) ev18 (fun _ _ q => q)) (fun E h9 q => nomatch (show (Sum.inr E : tq_R) = Sum.inl _ from q.1)) (fun r9 h9 q => ?_)
        obtain ⟨q1, rfl⟩ := q
        cases (show (Sum.inl r9 : tq_R) = Sum.inl (some (.int v18)) from q1)
        obtain ⟨⟨⟩, eu21, hf⟩ := tq_be hf
        obtain ⟨fsu21, eu21⟩ := tq_is_s eu21
        obtain ⟨v20, ev20, hf⟩ := tq_be hf
        refine tq_calV (M := mX8_layOut) (pc := 68) (S := []) tk_y_X3_add tk_v_X3_add tk_RX8_83 dX8_layOut_68 [.int y1, .int v8, .int v12, .int v15, .int v18] rfl (S0 := _) rfl eu21 rfl (Nat.le_of_ble_eq_true rfl) (d1 := d - 1) (b1 := 0) (s1 := 0) (bc' := bc) (bs' := bs) (Q1 := fun r h9 => r = .inl none ∧ v20 = h9) (by omega) (by omega) (by omega) (w_X3_add (by omega) ev20 (fun _ _ q => q)) (fun E h9 q => nomatch (show (Sum.inr E : tq_R) = Sum.inl _ from q.1)) (fun r9 h9 q => ?_)
        obtain ⟨q1, rfl⟩ := q
        cases (show (Sum.inl r9 : tq_R) = Sum.inl (none) from q1)
        refine tq_aload_n (M := mX8_layOut) (pc := 71) dX8_layOut_71 rfl ?_
        refine tq_iload_n (M := mX8_layOut) (pc := 72) dX8_layOut_72 rfl ?_
        obtain ⟨⟨⟩, eu23, hf⟩ := tq_be hf
        obtain ⟨fsu23, eu23⟩ := tq_is_s eu23
        obtain ⟨v22, ev22, hf⟩ := tq_be hf
        refine tq_calV (M := mX8_layOut) (pc := 73) (S := []) tk_y_X8_following tk_v_X8_following tk_RX8_87 dX8_layOut_73 [.int y1] rfl (S0 := _) rfl eu23 rfl (Nat.le_of_ble_eq_true rfl) (d1 := d - 1) (b1 := 0) (s1 := 0) (bc' := bc) (bs' := bs) (Q1 := fun r h9 => r = .inl (some (.int v22)) ∧ v20 = h9) (by omega) (by omega) (by omega) (w_X8_following (by omega) ev22 (fun _ _ q => q)) (fun E h9 q => nomatch (show (Sum.inr E : tq_R) = Sum.inl _ from q.1)) (fun r9 h9 q => ?_)
        obtain ⟨q1, rfl⟩ := q
        cases (show (Sum.inl r9 : tq_R) = Sum.inl (some (.int v22)) from q1)
        refine tq_istore_n (M := mX8_layOut) (pc := 76) rfl dX8_layOut_76 (L2 := [(1, .int v22), (3, .int v8), (0, .ref i0), (2, .int y2)]) (by decide) rfl ?_
        obtain ⟨x24, ex24, hf⟩ := tq_le hf
        refine tq_iinc (M := mX8_layOut) (pc := 77) (v := x24) (L2 := [(2, .int x24), (1, .int v22), (3, .int v8), (0, .ref i0)]) dX8_layOut_77 rfl (by rw [ex24, tk_ki_1]) (by decide) rfl ?_
        refine tq_goto (M := mX8_layOut) (pc := 80) (tgt := 11) dX8_layOut_80 (by decide) ?_
        refine tq_pick (L2 := [(0, .ref i0), (1, .int v22), (2, .int x24)]) [3, 1, 0] rfl ?_
        cases (Option.some.inj hf)
        exact ih _ _ _ o (tq_lc ho) hk
set_option maxHeartbeats 4000000 in
set_option maxRecDepth 20000 in
theorem w_X8_layOut {l : Launch} {d : Nat} (hd9 : 3 ≤ d) {t : Nat} {h : tq_H} {o : tq_H} {Q : tq_R → tq_H → Prop} (hf : f_X8_layOut t h = some o) (hQ : ∀ r h9, r = .inl none ∧ o = h9 → Q r h9) : tq_C l yX8_layOut cX8_layOut 4 none d 0 0 [.ref t] h Q := by
  refine tq_body (y := yX8_layOut) false (by decide +kernel) (fun z => by cases z) (Nat.le_of_ble_eq_true rfl) ?_
  show tq_W l mX8_layOut d 0 0 Q 0 [(0, .ref t)] [] h
  refine tq_aload_n (M := mX8_layOut) (pc := 0) dX8_layOut_0 rfl ?_
  obtain ⟨k1, ek1, hf⟩ := tq_be hf
  refine tq_getR (M := mX8_layOut) (pc := 1) tk_c8 (by decide) dX8_layOut_1 tk_RX8_12 rfl ek1 ?_
  obtain ⟨⟨⟩, eu3, hf⟩ := tq_be hf
  obtain ⟨fsu3, eu3⟩ := tq_is_s eu3
  obtain ⟨v2, ev2, hf⟩ := tq_be hf
  refine tq_calV (M := mX8_layOut) (pc := 4) (S := []) tk_y_X3_clear tk_v_X3_clear tk_RX8_77 dX8_layOut_4 [] rfl (S0 := _) rfl eu3 rfl (Nat.le_of_ble_eq_true rfl) (d1 := d - 1) (b1 := 0) (s1 := 0) (bc' := 0) (bs' := 0) (Q1 := fun r h9 => r = .inl none ∧ v2 = h9) (by omega) rfl rfl (w_X3_clear (by omega) ev2 (fun _ _ q => q)) (fun E h9 q => nomatch (show (Sum.inr E : tq_R) = Sum.inl _ from q.1)) (fun r9 h9 q => ?_)
  obtain ⟨q1, rfl⟩ := q
  cases (show (Sum.inl r9 : tq_R) = Sum.inl (none) from q1)
  refine tq_iconst (M := mX8_layOut) (pc := 7) dX8_layOut_7 tk_ki_0 ?_
  refine tq_istore_n (M := mX8_layOut) (pc := 8) rfl dX8_layOut_8 (L2 := [(1, .int (0 : Int32)), (0, .ref t)]) (by decide) rfl ?_
  refine tq_iconst (M := mX8_layOut) (pc := 9) dX8_layOut_9 tk_ki_0 ?_
  refine tq_istore_n (M := mX8_layOut) (pc := 10) rfl dX8_layOut_10 (L2 := [(2, .int (0 : Int32)), (1, .int (0 : Int32)), (0, .ref t)]) (by decide) rfl ?_
  obtain ⟨o25, eo25, hf⟩ := tq_be hf
  refine tq_pick (L2 := [(0, .ref t), (1, .int (0 : Int32)), (2, .int (0 : Int32))]) [2, 1, 0] rfl ?_
  refine l_X8_layOut_11 (bc := 0) (bs := 0) (by omega) t _ (0 : Int32) (0 : Int32) v2 _ eo25 ?_
  refine tq_aload_n (M := mX8_layOut) (pc := 83) dX8_layOut_83 rfl ?_
  obtain ⟨k26, ek26, hf⟩ := tq_be hf
  refine tq_getR (M := mX8_layOut) (pc := 84) tk_c8 (by decide) dX8_layOut_84 tk_RX8_12 rfl ek26 ?_
  obtain ⟨⟨⟩, eu28, hf⟩ := tq_be hf
  obtain ⟨fsu28, eu28⟩ := tq_is_s eu28
  obtain ⟨v27, ev27, hf⟩ := tq_be hf
  refine tq_calV (M := mX8_layOut) (pc := 87) (S := []) tk_y_X3_close tk_v_X3_close tk_RX8_90 dX8_layOut_87 [] rfl (S0 := _) rfl eu28 rfl (Nat.le_of_ble_eq_true rfl) (d1 := d - 1) (b1 := 0) (s1 := 0) (bc' := 0) (bs' := 0) (Q1 := fun r h9 => r = .inl none ∧ v27 = h9) (by omega) rfl rfl (w_X3_close (by omega) ev27 (fun _ _ q => q)) (fun E h9 q => nomatch (show (Sum.inr E : tq_R) = Sum.inl _ from q.1)) (fun r9 h9 q => ?_)
  obtain ⟨q1, rfl⟩ := q
  cases (show (Sum.inl r9 : tq_R) = Sum.inl (none) from q1)
  refine tq_vret (M := mX8_layOut) (pc := 90) dX8_layOut_90 rfl ?_
  cases (Option.some.inj hf)
  exact hQ _ _ ⟨rfl, rfl⟩
abbrev mX8_copy : tq_M := (RX8, cX8_copy, 2, none, false, [], none)
def f_X8_copy (t : Nat) (a1 : Nat) (h : tq_H) : Option (tq_H) :=
  (tq_is h t 8).bind fun _ =>
  (f_X8_copyLoose t a1 h).bind fun v1 =>
  (tq_gr v1 t 8 5).bind fun k3 =>
  (tq_gr v1 a1 8 5).bind fun k4 =>
  (tq_is v1 k3 5).bind fun _ =>
  (f_X5_copy k3 k4 v1).bind fun v5 =>
  (tq_gr v5 t 8 7).bind fun k7 =>
  (tq_gr v5 a1 8 7).bind fun k8 =>
  (tq_is v5 k7 5).bind fun _ =>
  (f_X5_copy k7 k8 v5).bind fun v9 =>
  (tq_gr v9 t 8 8).bind fun k11 =>
  (tq_gr v9 a1 8 8).bind fun k12 =>
  (tq_is v9 k11 5).bind fun _ =>
  (f_X5_copy k11 k12 v9).bind fun v13 =>
  (tq_gr v13 t 8 9).bind fun k15 =>
  (tq_gr v13 a1 8 9).bind fun k16 =>
  (tq_is v13 k15 5).bind fun _ =>
  (f_X5_copy k15 k16 v13).bind fun v17 =>
  (tq_is v17 t 8).bind fun _ =>
  (f_X8_layOut t v17).bind fun v19 =>
  some v19
set_option maxHeartbeats 4000000 in
set_option maxRecDepth 20000 in
theorem w_X8_copy {l : Launch} {d : Nat} (hd9 : 4 ≤ d) {t : Nat} {a1 : Nat} {h : tq_H} {o : tq_H} {Q : tq_R → tq_H → Prop} (hf : f_X8_copy t a1 h = some o) (hQ : ∀ r h9, r = .inl none ∧ o = h9 → Q r h9) : tq_C l yX8_copy cX8_copy 2 none d 0 0 [.ref t, .ref a1] h Q := by
  refine tq_body (y := yX8_copy) false (by decide +kernel) (fun z => by cases z) (Nat.le_of_ble_eq_true rfl) ?_
  show tq_W l mX8_copy d 0 0 Q 0 [(0, .ref t), (1, .ref a1)] [] h
  refine tq_aload_n (M := mX8_copy) (pc := 0) dX8_copy_0 rfl ?_
  refine tq_aload_n (M := mX8_copy) (pc := 1) dX8_copy_1 rfl ?_
  obtain ⟨⟨⟩, eu2, hf⟩ := tq_be hf
  obtain ⟨fsu2, eu2⟩ := tq_is_s eu2
  obtain ⟨v1, ev1, hf⟩ := tq_be hf
  refine tq_calV (M := mX8_copy) (pc := 2) (S := []) tk_y_X8_copyLoose tk_v_X8_copyLoose tk_RX8_70 dX8_copy_2 [.ref a1] rfl (S0 := _) rfl eu2 rfl (Nat.le_of_ble_eq_true rfl) (d1 := d - 1) (b1 := 0) (s1 := 0) (bc' := 0) (bs' := 0) (Q1 := fun r h9 => r = .inl none ∧ v1 = h9) (by omega) rfl rfl (w_X8_copyLoose (by omega) ev1 (fun _ _ q => q)) (fun E h9 q => nomatch (show (Sum.inr E : tq_R) = Sum.inl _ from q.1)) (fun r9 h9 q => ?_)
  obtain ⟨q1, rfl⟩ := q
  cases (show (Sum.inl r9 : tq_R) = Sum.inl (none) from q1)
  refine tq_aload_n (M := mX8_copy) (pc := 5) dX8_copy_5 rfl ?_
  obtain ⟨k3, ek3, hf⟩ := tq_be hf
  refine tq_getR (M := mX8_copy) (pc := 6) tk_c8 (by decide) dX8_copy_6 tk_RX8_36 rfl ek3 ?_
  refine tq_aload_n (M := mX8_copy) (pc := 9) dX8_copy_9 rfl ?_
  obtain ⟨k4, ek4, hf⟩ := tq_be hf
  refine tq_getR (M := mX8_copy) (pc := 10) tk_c8 (by decide) dX8_copy_10 tk_RX8_36 rfl ek4 ?_
  obtain ⟨⟨⟩, eu6, hf⟩ := tq_be hf
  obtain ⟨fsu6, eu6⟩ := tq_is_s eu6
  obtain ⟨v5, ev5, hf⟩ := tq_be hf
  refine tq_calV (M := mX8_copy) (pc := 13) (S := []) tk_y_X5_copy tk_v_X5_copy tk_RX8_62 dX8_copy_13 [.ref k4] rfl (S0 := _) rfl eu6 rfl (Nat.le_of_ble_eq_true rfl) (d1 := d - 1) (b1 := 0) (s1 := 0) (bc' := 0) (bs' := 0) (Q1 := fun r h9 => r = .inl none ∧ v5 = h9) (by omega) rfl rfl (w_X5_copy (by omega) ev5 (fun _ _ q => q)) (fun E h9 q => nomatch (show (Sum.inr E : tq_R) = Sum.inl _ from q.1)) (fun r9 h9 q => ?_)
  obtain ⟨q1, rfl⟩ := q
  cases (show (Sum.inl r9 : tq_R) = Sum.inl (none) from q1)
  refine tq_aload_n (M := mX8_copy) (pc := 16) dX8_copy_16 rfl ?_
  obtain ⟨k7, ek7, hf⟩ := tq_be hf
  refine tq_getR (M := mX8_copy) (pc := 17) tk_c8 (by decide) dX8_copy_17 tk_RX8_42 rfl ek7 ?_
  refine tq_aload_n (M := mX8_copy) (pc := 20) dX8_copy_20 rfl ?_
  obtain ⟨k8, ek8, hf⟩ := tq_be hf
  refine tq_getR (M := mX8_copy) (pc := 21) tk_c8 (by decide) dX8_copy_21 tk_RX8_42 rfl ek8 ?_
  obtain ⟨⟨⟩, eu10, hf⟩ := tq_be hf
  obtain ⟨fsu10, eu10⟩ := tq_is_s eu10
  obtain ⟨v9, ev9, hf⟩ := tq_be hf
  refine tq_calV (M := mX8_copy) (pc := 24) (S := []) tk_y_X5_copy tk_v_X5_copy tk_RX8_62 dX8_copy_24 [.ref k8] rfl (S0 := _) rfl eu10 rfl (Nat.le_of_ble_eq_true rfl) (d1 := d - 1) (b1 := 0) (s1 := 0) (bc' := 0) (bs' := 0) (Q1 := fun r h9 => r = .inl none ∧ v9 = h9) (by omega) rfl rfl (w_X5_copy (by omega) ev9 (fun _ _ q => q)) (fun E h9 q => nomatch (show (Sum.inr E : tq_R) = Sum.inl _ from q.1)) (fun r9 h9 q => ?_)
  obtain ⟨q1, rfl⟩ := q
  cases (show (Sum.inl r9 : tq_R) = Sum.inl (none) from q1)
  refine tq_aload_n (M := mX8_copy) (pc := 27) dX8_copy_27 rfl ?_
  obtain ⟨k11, ek11, hf⟩ := tq_be hf
  refine tq_getR (M := mX8_copy) (pc := 28) tk_c8 (by decide) dX8_copy_28 tk_RX8_45 rfl ek11 ?_
  refine tq_aload_n (M := mX8_copy) (pc := 31) dX8_copy_31 rfl ?_
  obtain ⟨k12, ek12, hf⟩ := tq_be hf
  refine tq_getR (M := mX8_copy) (pc := 32) tk_c8 (by decide) dX8_copy_32 tk_RX8_45 rfl ek12 ?_
  obtain ⟨⟨⟩, eu14, hf⟩ := tq_be hf
  obtain ⟨fsu14, eu14⟩ := tq_is_s eu14
  obtain ⟨v13, ev13, hf⟩ := tq_be hf
  refine tq_calV (M := mX8_copy) (pc := 35) (S := []) tk_y_X5_copy tk_v_X5_copy tk_RX8_62 dX8_copy_35 [.ref k12] rfl (S0 := _) rfl eu14 rfl (Nat.le_of_ble_eq_true rfl) (d1 := d - 1) (b1 := 0) (s1 := 0) (bc' := 0) (bs' := 0) (Q1 := fun r h9 => r = .inl none ∧ v13 = h9) (by omega) rfl rfl (w_X5_copy (by omega) ev13 (fun _ _ q => q)) (fun E h9 q => nomatch (show (Sum.inr E : tq_R) = Sum.inl _ from q.1)) (fun r9 h9 q => ?_)
  obtain ⟨q1, rfl⟩ := q
  cases (show (Sum.inl r9 : tq_R) = Sum.inl (none) from q1)
  refine tq_aload_n (M := mX8_copy) (pc := 38) dX8_copy_38 rfl ?_
  obtain ⟨k15, ek15, hf⟩ := tq_be hf
  refine tq_getR (M := mX8_copy) (pc := 39) tk_c8 (by decide) dX8_copy_39 tk_RX8_48 rfl ek15 ?_
  refine tq_aload_n (M := mX8_copy) (pc := 42) dX8_copy_42 rfl ?_
  obtain ⟨k16, ek16, hf⟩ := tq_be hf
  refine tq_getR (M := mX8_copy) (pc := 43) tk_c8 (by decide) dX8_copy_43 tk_RX8_48 rfl ek16 ?_
  obtain ⟨⟨⟩, eu18, hf⟩ := tq_be hf
  obtain ⟨fsu18, eu18⟩ := tq_is_s eu18
  obtain ⟨v17, ev17, hf⟩ := tq_be hf
  refine tq_calV (M := mX8_copy) (pc := 46) (S := []) tk_y_X5_copy tk_v_X5_copy tk_RX8_62 dX8_copy_46 [.ref k16] rfl (S0 := _) rfl eu18 rfl (Nat.le_of_ble_eq_true rfl) (d1 := d - 1) (b1 := 0) (s1 := 0) (bc' := 0) (bs' := 0) (Q1 := fun r h9 => r = .inl none ∧ v17 = h9) (by omega) rfl rfl (w_X5_copy (by omega) ev17 (fun _ _ q => q)) (fun E h9 q => nomatch (show (Sum.inr E : tq_R) = Sum.inl _ from q.1)) (fun r9 h9 q => ?_)
  obtain ⟨q1, rfl⟩ := q
  cases (show (Sum.inl r9 : tq_R) = Sum.inl (none) from q1)
  refine tq_aload_n (M := mX8_copy) (pc := 49) dX8_copy_49 rfl ?_
  obtain ⟨⟨⟩, eu20, hf⟩ := tq_be hf
  obtain ⟨fsu20, eu20⟩ := tq_is_s eu20
  obtain ⟨v19, ev19, hf⟩ := tq_be hf
  refine tq_calV (M := mX8_copy) (pc := 50) (S := []) tk_y_X8_layOut tk_v_X8_layOut tk_RX8_74 dX8_copy_50 [] rfl (S0 := _) rfl eu20 rfl (Nat.le_of_ble_eq_true rfl) (d1 := d - 1) (b1 := 0) (s1 := 0) (bc' := 0) (bs' := 0) (Q1 := fun r h9 => r = .inl none ∧ v19 = h9) (by omega) rfl rfl (w_X8_layOut (by omega) ev19 (fun _ _ q => q)) (fun E h9 q => nomatch (show (Sum.inr E : tq_R) = Sum.inl _ from q.1)) (fun r9 h9 q => ?_)
  obtain ⟨q1, rfl⟩ := q
  cases (show (Sum.inl r9 : tq_R) = Sum.inl (none) from q1)
  refine tq_vret (M := mX8_copy) (pc := 53) dX8_copy_53 rfl ?_
  cases (Option.some.inj hf)
  exact hQ _ _ ⟨rfl, rfl⟩
abbrev mX8_isTangled : tq_M := (RX8, cX8_isTangled, 4, (some .boolean), false, [], none)
def f_X8_isTangled_b14 (i0 : Nat) (i1 : Int32) (hh : tq_H) (s : Int32 × Int32) : Option ((Int32 × Int32) ⊕ (Int32)) := match s with
  | (y2, y3) =>
    if y3 > (60 : Int32) then
      some (.inr y2)
    else
      if y2 = (-1 : Int32) then
        some (.inr y2)
      else
        (tq_gr hh i0 8 5).bind fun k2 =>
        (tq_is hh k2 5).bind fun _ =>
        (f_X5_get k2 y2 hh).bind fun v3 =>
        tq_let (y3 + (1 : Int32)) fun x5 =>
        some (.inl (v3, x5))
def f_X8_isTangled_b2 (i0 : Nat) (hh : tq_H) (s : Int32) : Option ((Int32) ⊕ ((Unit) ⊕ (Int32))) := match s with
  | y1 =>
    (tq_gi hh i0 8 10).bind fun x1 =>
    if y1 ≥ x1 then
      some (.inr (.inl ()))
    else
      (tq_loop (f_X8_isTangled_b14 i0 y1 hh) tq_N (y1, (0 : Int32))).bind fun o6 =>
      if o6 = (-1 : Int32) then
        tq_let (y1 + (1 : Int32)) fun x7 =>
        some (.inl x7)
      else
        some (.inr (.inr (1 : Int32)))
def f_X8_isTangled (t : Nat) (h : tq_H) : Option (Int32) :=
  (tq_loop (f_X8_isTangled_b2 t h) tq_N (0 : Int32)).bind fun o8 => match o8 with
  | .inl o8 =>
    some (0 : Int32)
  | .inr e9 =>
    some e9
set_option maxHeartbeats 4000000 in
theorem l_X8_isTangled_14 {l : Launch} {d : Nat} {Q : tq_R → tq_H → Prop} {bc bs : Nat} (hd9 : 1 ≤ d) (i0 : Nat) (i1 : Int32) (hh : tq_H) : ∀ (n : Nat) (y2 : Int32) (y3 : Int32) (o : Int32), tq_loop (f_X8_isTangled_b14 i0 i1 hh) n (y2, y3) = some o → tq_W l mX8_isTangled d bc bs Q 40 [(0, .ref i0), (1, .int i1), (2, .int o)] [] hh → tq_W l mX8_isTangled d bc bs Q 14 [(0, .ref i0), (1, .int i1), (2, .int y2), (3, .int y3)] [] hh := by
  intro n
  induction n with
  | zero => intro y2 y3 o hl; cases hl
  | succ n ih =>
    intro y2 y3 o hl hk
    obtain ⟨oo, hf, ho⟩ := tq_loop_s hl
    refine tq_iload_n (M := mX8_isTangled) (pc := 14) dX8_isTangled_14 rfl ?_
    refine tq_bipush (M := mX8_isTangled) (pc := 15) dX8_isTangled_15 tk_kb_60 ?_
    refine tq_icmp_gt (M := mX8_isTangled) (pc := 17) (tgt := 40) dX8_isTangled_17 (by decide) (fun cc => ?_) (fun cc => ?_)
    · have hf := tq_ifp hf cc
      refine tq_pick (L2 := [(0, .ref i0), (1, .int i1), (2, .int y2)]) [0, 1, 2] rfl ?_
      cases (Option.some.inj hf)
      cases (tq_lx ho)
      exact hk
    · have hf := tq_ifn hf cc
      refine tq_iload_n (M := mX8_isTangled) (pc := 20) dX8_isTangled_20 rfl ?_
      refine tq_iconst (M := mX8_isTangled) (pc := 21) dX8_isTangled_21 tk_ki_m1 ?_
      refine tq_icmp_eq (M := mX8_isTangled) (pc := 22) (tgt := 40) dX8_isTangled_22 (by decide) (fun cc => ?_) (fun cc => ?_)
      · have hf := tq_ifp hf cc
        refine tq_pick (L2 := [(0, .ref i0), (1, .int i1), (2, .int y2)]) [0, 1, 2] rfl ?_
        cases (Option.some.inj hf)
        cases (tq_lx ho)
        exact hk
      · have hf := tq_ifn hf cc
        refine tq_aload_n (M := mX8_isTangled) (pc := 25) dX8_isTangled_25 rfl ?_
        obtain ⟨k2, ek2, hf⟩ := tq_be hf
        refine tq_getR (M := mX8_isTangled) (pc := 26) tk_c8 (by decide) dX8_isTangled_26 tk_RX8_36 rfl ek2 ?_
        refine tq_iload_n (M := mX8_isTangled) (pc := 29) dX8_isTangled_29 rfl ?_
        obtain ⟨⟨⟩, eu4, hf⟩ := tq_be hf
        obtain ⟨fsu4, eu4⟩ := tq_is_s eu4
        obtain ⟨v3, ev3, hf⟩ := tq_be hf
        refine tq_calV (M := mX8_isTangled) (pc := 30) (S := []) tk_y_X5_get tk_v_X5_get tk_RX8_58 dX8_isTangled_30 [.int y2] rfl (S0 := _) rfl eu4 rfl (Nat.le_of_ble_eq_true rfl) (d1 := d - 1) (b1 := 0) (s1 := 0) (bc' := bc) (bs' := bs) (Q1 := fun r h9 => r = .inl (some (.int v3)) ∧ hh = h9) (by omega) (by omega) (by omega) (w_X5_get (by omega) ev3 (fun _ _ q => q)) (fun E h9 q => nomatch (show (Sum.inr E : tq_R) = Sum.inl _ from q.1)) (fun r9 h9 q => ?_)
        obtain ⟨q1, rfl⟩ := q
        cases (show (Sum.inl r9 : tq_R) = Sum.inl (some (.int v3)) from q1)
        refine tq_istore_n (M := mX8_isTangled) (pc := 33) rfl dX8_isTangled_33 (L2 := [(2, .int v3), (0, .ref i0), (1, .int i1), (3, .int y3)]) (by decide) rfl ?_
        obtain ⟨x5, ex5, hf⟩ := tq_le hf
        refine tq_iinc (M := mX8_isTangled) (pc := 34) (v := x5) (L2 := [(3, .int x5), (2, .int v3), (0, .ref i0), (1, .int i1)]) dX8_isTangled_34 rfl (by rw [ex5, tk_ki_1]) (by decide) rfl ?_
        refine tq_goto (M := mX8_isTangled) (pc := 37) (tgt := 14) dX8_isTangled_37 (by decide) ?_
        refine tq_pick (L2 := [(0, .ref i0), (1, .int i1), (2, .int v3), (3, .int x5)]) [2, 3, 1, 0] rfl ?_
        cases (Option.some.inj hf)
        exact ih _ _ o (tq_lc ho) hk
set_option maxHeartbeats 4000000 in
theorem l_X8_isTangled_2 {l : Launch} {d : Nat} {Q : tq_R → tq_H → Prop} {bc bs : Nat} (hd9 : 1 ≤ d) (i0 : Nat) (hh : tq_H) : ∀ (n : Nat) (y1 : Int32) (o : (Unit) ⊕ (Int32)), tq_loop (f_X8_isTangled_b2 i0 hh) n y1 = some o → (match o with
    | .inl e9 => tq_W l mX8_isTangled d bc bs Q 53 [] [] hh
    | .inr e9 => (∀ r h9, r = .inl (some (.int e9)) ∧ hh = h9 → Q r h9)) → tq_W l mX8_isTangled d bc bs Q 2 [(0, .ref i0), (1, .int y1)] [] hh := by
  intro n
  induction n with
  | zero => intro y1 o hl; cases hl
  | succ n ih =>
    intro y1 o hl hk
    obtain ⟨oo, hf, ho⟩ := tq_loop_s hl
    refine tq_iload_n (M := mX8_isTangled) (pc := 2) dX8_isTangled_2 rfl ?_
    refine tq_aload_n (M := mX8_isTangled) (pc := 3) dX8_isTangled_3 rfl ?_
    obtain ⟨x1, ex1, hf⟩ := tq_be hf
    refine tq_getI (M := mX8_isTangled) (pc := 4) tk_c8 (by decide) dX8_isTangled_4 tk_RX8_51 rfl ex1 ?_
    refine tq_icmp_ge (M := mX8_isTangled) (pc := 7) (tgt := 53) dX8_isTangled_7 (by decide) (fun cc => ?_) (fun cc => ?_)
    · have hf := tq_ifp hf cc
      refine tq_pick (L2 := []) [] rfl ?_
      cases (Option.some.inj hf)
      cases (tq_lx ho)
      exact hk
    · have hf := tq_ifn hf cc
      refine tq_iload_n (M := mX8_isTangled) (pc := 10) dX8_isTangled_10 rfl ?_
      refine tq_istore_n (M := mX8_isTangled) (pc := 11) rfl dX8_isTangled_11 (L2 := [(2, .int y1), (0, .ref i0), (1, .int y1)]) (by decide) rfl ?_
      refine tq_iconst (M := mX8_isTangled) (pc := 12) dX8_isTangled_12 tk_ki_0 ?_
      refine tq_istore_n (M := mX8_isTangled) (pc := 13) rfl dX8_isTangled_13 (L2 := [(3, .int (0 : Int32)), (2, .int y1), (0, .ref i0), (1, .int y1)]) (by decide) rfl ?_
      obtain ⟨o6, eo6, hf⟩ := tq_be hf
      refine tq_pick (L2 := [(0, .ref i0), (1, .int y1), (2, .int y1), (3, .int (0 : Int32))]) [2, 3, 1, 0] rfl ?_
      refine l_X8_isTangled_14 (bc := bc) (bs := bs) (by omega) i0 y1 hh _ y1 (0 : Int32) _ eo6 ?_
      refine tq_iload_n (M := mX8_isTangled) (pc := 40) dX8_isTangled_40 rfl ?_
      refine tq_iconst (M := mX8_isTangled) (pc := 41) dX8_isTangled_41 tk_ki_m1 ?_
      refine tq_icmp_eq (M := mX8_isTangled) (pc := 42) (tgt := 47) dX8_isTangled_42 (by decide) (fun cc => ?_) (fun cc => ?_)
      · have hf := tq_ifp hf cc
        obtain ⟨x7, ex7, hf⟩ := tq_le hf
        refine tq_iinc (M := mX8_isTangled) (pc := 47) (v := x7) (L2 := [(1, .int x7), (0, .ref i0), (2, .int o6)]) dX8_isTangled_47 rfl (by rw [ex7, tk_ki_1]) (by decide) rfl ?_
        refine tq_goto (M := mX8_isTangled) (pc := 50) (tgt := 2) dX8_isTangled_50 (by decide) ?_
        refine tq_pick (L2 := [(0, .ref i0), (1, .int x7)]) [1, 0] rfl ?_
        cases (Option.some.inj hf)
        exact ih _ o (tq_lc ho) hk
      · have hf := tq_ifn hf cc
        refine tq_iconst (M := mX8_isTangled) (pc := 45) dX8_isTangled_45 tk_ki_1 ?_
        refine tq_zret (M := mX8_isTangled) (pc := 46) dX8_isTangled_46 rfl (Or.inr rfl) ?_
        cases (Option.some.inj hf)
        cases (tq_lx ho)
        exact hk _ _ ⟨rfl, rfl⟩
set_option maxHeartbeats 4000000 in
set_option maxRecDepth 20000 in
theorem w_X8_isTangled {l : Launch} {d : Nat} (hd9 : 1 ≤ d) {t : Nat} {h : tq_H} {o : Int32} {Q : tq_R → tq_H → Prop} (hf : f_X8_isTangled t h = some o) (hQ : ∀ r h9, r = .inl (some (.int o)) ∧ h = h9 → Q r h9) : tq_C l yX8_isTangled cX8_isTangled 4 (some .boolean) d 0 0 [.ref t] h Q := by
  refine tq_body (y := yX8_isTangled) false (by decide +kernel) (fun z => by cases z) (Nat.le_of_ble_eq_true rfl) ?_
  show tq_W l mX8_isTangled d 0 0 Q 0 [(0, .ref t)] [] h
  refine tq_iconst (M := mX8_isTangled) (pc := 0) dX8_isTangled_0 tk_ki_0 ?_
  refine tq_istore_n (M := mX8_isTangled) (pc := 1) rfl dX8_isTangled_1 (L2 := [(1, .int (0 : Int32)), (0, .ref t)]) (by decide) rfl ?_
  obtain ⟨o8, eo8, hf⟩ := tq_be hf
  refine tq_pick (L2 := [(0, .ref t), (1, .int (0 : Int32))]) [1, 0] rfl ?_
  refine l_X8_isTangled_2 (bc := 0) (bs := 0) (by omega) t h _ (0 : Int32) _ eo8 ?_
  cases o8 with
  | inl o8 =>
    refine tq_iconst (M := mX8_isTangled) (pc := 53) dX8_isTangled_53 tk_ki_0 ?_
    refine tq_zret (M := mX8_isTangled) (pc := 54) dX8_isTangled_54 rfl (Or.inl rfl) ?_
    cases (Option.some.inj hf)
    exact hQ _ _ ⟨rfl, rfl⟩
  | inr e9 =>
    cases (Option.some.inj hf)
    exact hQ
abbrev mX8_hasTwins : tq_M := (RX8, cX8_hasTwins, 5, (some .boolean), false, [], none)
def f_X8_hasTwins_b25 (i0 : Nat) (i1 : Int32) (i2 : Int64) (hh : tq_H) (s : Int32) : Option ((Int32) ⊕ ((Unit) ⊕ (Int32))) := match s with
  | y4 =>
    if y4 ≥ (8 : Int32) then
      some (.inr (.inl ()))
    else
      if (lg_cmp i2 (0 : Int64)) = 0 then
        some (.inr (.inl ()))
      else
        (tq_gr hh i0 8 0).bind fun k7 =>
        (tq_is hh k7 3).bind fun _ =>
        (f_X3_passing k7 y4 hh).bind fun v8 =>
        (f_J13_bitCount_95d88 (i2 &&& v8) hh).bind fun v10 =>
        if v10 ≤ (1 : Int32) then
          tq_let (y4 + (1 : Int32)) fun x11 =>
          some (.inl x11)
        else
          some (.inr (.inr (1 : Int32)))
def f_X8_hasTwins_b2 (i0 : Nat) (hh : tq_H) (s : Int32) : Option ((Int32) ⊕ ((Unit) ⊕ (Int32))) := match s with
  | y1 =>
    (tq_gr hh i0 8 0).bind fun k1 =>
    (tq_is hh k1 3).bind fun _ =>
    (f_X3_count k1 hh).bind fun v2 =>
    if y1 ≥ v2 then
      some (.inr (.inl ()))
    else
      (tq_gr hh i0 8 0).bind fun k4 =>
      (tq_is hh k4 3).bind fun _ =>
      (f_X3_attributesOf k4 y1 hh).bind fun v5 =>
      (tq_loop (f_X8_hasTwins_b25 i0 y1 v5 hh) tq_N (0 : Int32)).bind fun o12 => match o12 with
      | .inl o12 =>
        tq_let (y1 + (1 : Int32)) fun x13 =>
        some (.inl x13)
      | .inr e9 =>
        some (.inr (.inr e9))
def f_X8_hasTwins (t : Nat) (h : tq_H) : Option (Int32) :=
  (tq_loop (f_X8_hasTwins_b2 t h) tq_N (0 : Int32)).bind fun o14 => match o14 with
  | .inl o14 =>
    some (0 : Int32)
  | .inr e9 =>
    some e9
set_option maxHeartbeats 4000000 in
theorem l_X8_hasTwins_25 {l : Launch} {d : Nat} {Q : tq_R → tq_H → Prop} {bc bs : Nat} (hd9 : 2 ≤ d) (i0 : Nat) (i1 : Int32) (i2 : Int64) (hh : tq_H) : ∀ (n : Nat) (y4 : Int32) (o : (Unit) ⊕ (Int32)), tq_loop (f_X8_hasTwins_b25 i0 i1 i2 hh) n y4 = some o → (match o with
    | .inl e9 => tq_W l mX8_hasTwins d bc bs Q 64 [(0, .ref i0), (1, .int i1)] [] hh
    | .inr e9 => (∀ r h9, r = .inl (some (.int e9)) ∧ hh = h9 → Q r h9)) → tq_W l mX8_hasTwins d bc bs Q 25 [(0, .ref i0), (1, .int i1), (2, .long i2), (4, .int y4)] [] hh := by
  intro n
  induction n with
  | zero => intro y4 o hl; cases hl
  | succ n ih =>
    intro y4 o hl hk
    obtain ⟨oo, hf, ho⟩ := tq_loop_s hl
    refine tq_iload (M := mX8_hasTwins) (pc := 25) dX8_hasTwins_25 rfl ?_
    refine tq_bipush (M := mX8_hasTwins) (pc := 27) dX8_hasTwins_27 tk_kb_8 ?_
    refine tq_icmp_ge (M := mX8_hasTwins) (pc := 29) (tgt := 64) dX8_hasTwins_29 (by decide) (fun cc => ?_) (fun cc => ?_)
    · have hf := tq_ifp hf cc
      refine tq_pick (L2 := [(0, .ref i0), (1, .int i1)]) [0, 1] rfl ?_
      cases (Option.some.inj hf)
      cases (tq_lx ho)
      exact hk
    · have hf := tq_ifn hf cc
      refine tq_lload_n (M := mX8_hasTwins) (pc := 32) dX8_hasTwins_32 rfl ?_
      refine tq_lconst (M := mX8_hasTwins) (pc := 33) dX8_hasTwins_33 tk_kl_0 ?_
      refine tq_lcmp (M := mX8_hasTwins) (pc := 34) dX8_hasTwins_34 ?_
      refine tq_if_eq (M := mX8_hasTwins) (pc := 35) (tgt := 64) dX8_hasTwins_35 (by decide) (fun cc => ?_) (fun cc => ?_)
      · have hf := tq_ifp hf cc
        refine tq_pick (L2 := [(0, .ref i0), (1, .int i1)]) [0, 1] rfl ?_
        cases (Option.some.inj hf)
        cases (tq_lx ho)
        exact hk
      · have hf := tq_ifn hf cc
        refine tq_lload_n (M := mX8_hasTwins) (pc := 38) dX8_hasTwins_38 rfl ?_
        refine tq_aload_n (M := mX8_hasTwins) (pc := 39) dX8_hasTwins_39 rfl ?_
        obtain ⟨k7, ek7, hf⟩ := tq_be hf
        refine tq_getR (M := mX8_hasTwins) (pc := 40) tk_c8 (by decide) dX8_hasTwins_40 tk_RX8_12 rfl ek7 ?_
        refine tq_iload (M := mX8_hasTwins) (pc := 43) dX8_hasTwins_43 rfl ?_
        obtain ⟨⟨⟩, eu9, hf⟩ := tq_be hf
        obtain ⟨fsu9, eu9⟩ := tq_is_s eu9
        obtain ⟨v8, ev8, hf⟩ := tq_be hf
        refine tq_calV (M := mX8_hasTwins) (pc := 45) (S := [.long i2]) tk_y_X3_passing tk_v_X3_passing tk_RX8_101 dX8_hasTwins_45 [.int y4] rfl (S0 := _) rfl eu9 rfl (Nat.le_of_ble_eq_true rfl) (d1 := d - 1) (b1 := 0) (s1 := 0) (bc' := bc) (bs' := bs) (Q1 := fun r h9 => r = .inl (some (.long v8)) ∧ hh = h9) (by omega) (by omega) (by omega) (w_X3_passing (by omega) ev8 (fun _ _ q => q)) (fun E h9 q => nomatch (show (Sum.inr E : tq_R) = Sum.inl _ from q.1)) (fun r9 h9 q => ?_)
        obtain ⟨q1, rfl⟩ := q
        cases (show (Sum.inl r9 : tq_R) = Sum.inl (some (.long v8)) from q1)
        refine tq_land (M := mX8_hasTwins) (pc := 48) dX8_hasTwins_48 ?_
        obtain ⟨v10, ev10, hf⟩ := tq_be hf
        refine tq_calS (M := mX8_hasTwins) (pc := 49) (S := []) tk_y_J13_bitCount_95d88 tk_s_J13_bitCount_95d88 tk_RX8_104 dX8_hasTwins_49 [.long ((i2 &&& v8))] rfl (Nat.le_of_ble_eq_true rfl) (d1 := d - 1) (b1 := 0) (s1 := 0) (bc' := bc) (bs' := bs) (Q1 := fun r h9 => r = .inl (some (.int v10)) ∧ hh = h9) (by omega) (by omega) (by omega) (w_J13_bitCount_95d88 (by omega) ev10 (fun _ _ q => q)) (fun E h9 q => nomatch (show (Sum.inr E : tq_R) = Sum.inl _ from q.1)) (fun r9 h9 q => ?_)
        obtain ⟨q1, rfl⟩ := q
        cases (show (Sum.inl r9 : tq_R) = Sum.inl (some (.int v10)) from q1)
        refine tq_iconst (M := mX8_hasTwins) (pc := 52) dX8_hasTwins_52 tk_ki_1 ?_
        refine tq_icmp_le (M := mX8_hasTwins) (pc := 53) (tgt := 58) dX8_hasTwins_53 (by decide) (fun cc => ?_) (fun cc => ?_)
        · have hf := tq_ifp hf cc
          obtain ⟨x11, ex11, hf⟩ := tq_le hf
          refine tq_iinc (M := mX8_hasTwins) (pc := 58) (v := x11) (L2 := [(4, .int x11), (0, .ref i0), (1, .int i1), (2, .long i2)]) dX8_hasTwins_58 rfl (by rw [ex11, tk_ki_1]) (by decide) rfl ?_
          refine tq_goto (M := mX8_hasTwins) (pc := 61) (tgt := 25) dX8_hasTwins_61 (by decide) ?_
          refine tq_pick (L2 := [(0, .ref i0), (1, .int i1), (2, .long i2), (4, .int x11)]) [1, 2, 3, 0] rfl ?_
          cases (Option.some.inj hf)
          exact ih _ o (tq_lc ho) hk
        · have hf := tq_ifn hf cc
          refine tq_iconst (M := mX8_hasTwins) (pc := 56) dX8_hasTwins_56 tk_ki_1 ?_
          refine tq_zret (M := mX8_hasTwins) (pc := 57) dX8_hasTwins_57 rfl (Or.inr rfl) ?_
          cases (Option.some.inj hf)
          cases (tq_lx ho)
          exact hk _ _ ⟨rfl, rfl⟩
set_option maxHeartbeats 4000000 in
theorem l_X8_hasTwins_2 {l : Launch} {d : Nat} {Q : tq_R → tq_H → Prop} {bc bs : Nat} (hd9 : 2 ≤ d) (i0 : Nat) (hh : tq_H) : ∀ (n : Nat) (y1 : Int32) (o : (Unit) ⊕ (Int32)), tq_loop (f_X8_hasTwins_b2 i0 hh) n y1 = some o → (match o with
    | .inl e9 => tq_W l mX8_hasTwins d bc bs Q 70 [] [] hh
    | .inr e9 => (∀ r h9, r = .inl (some (.int e9)) ∧ hh = h9 → Q r h9)) → tq_W l mX8_hasTwins d bc bs Q 2 [(0, .ref i0), (1, .int y1)] [] hh := by
  intro n
  induction n with
  | zero => intro y1 o hl; cases hl
  | succ n ih =>
    intro y1 o hl hk
    obtain ⟨oo, hf, ho⟩ := tq_loop_s hl
    refine tq_iload_n (M := mX8_hasTwins) (pc := 2) dX8_hasTwins_2 rfl ?_
    refine tq_aload_n (M := mX8_hasTwins) (pc := 3) dX8_hasTwins_3 rfl ?_
    obtain ⟨k1, ek1, hf⟩ := tq_be hf
    refine tq_getR (M := mX8_hasTwins) (pc := 4) tk_c8 (by decide) dX8_hasTwins_4 tk_RX8_12 rfl ek1 ?_
    obtain ⟨⟨⟩, eu3, hf⟩ := tq_be hf
    obtain ⟨fsu3, eu3⟩ := tq_is_s eu3
    obtain ⟨v2, ev2, hf⟩ := tq_be hf
    refine tq_calV (M := mX8_hasTwins) (pc := 7) (S := [.int y1]) tk_y_X3_count tk_v_X3_count tk_RX8_93 dX8_hasTwins_7 [] rfl (S0 := _) rfl eu3 rfl (Nat.le_of_ble_eq_true rfl) (d1 := d - 1) (b1 := 0) (s1 := 0) (bc' := bc) (bs' := bs) (Q1 := fun r h9 => r = .inl (some (.int v2)) ∧ hh = h9) (by omega) (by omega) (by omega) (w_X3_count (by omega) ev2 (fun _ _ q => q)) (fun E h9 q => nomatch (show (Sum.inr E : tq_R) = Sum.inl _ from q.1)) (fun r9 h9 q => ?_)
    obtain ⟨q1, rfl⟩ := q
    cases (show (Sum.inl r9 : tq_R) = Sum.inl (some (.int v2)) from q1)
    refine tq_icmp_ge (M := mX8_hasTwins) (pc := 10) (tgt := 70) dX8_hasTwins_10 (by decide) (fun cc => ?_) (fun cc => ?_)
    · have hf := tq_ifp hf cc
      refine tq_pick (L2 := []) [] rfl ?_
      cases (Option.some.inj hf)
      cases (tq_lx ho)
      exact hk
    · have hf := tq_ifn hf cc
      refine tq_aload_n (M := mX8_hasTwins) (pc := 13) dX8_hasTwins_13 rfl ?_
      obtain ⟨k4, ek4, hf⟩ := tq_be hf
      refine tq_getR (M := mX8_hasTwins) (pc := 14) tk_c8 (by decide) dX8_hasTwins_14 tk_RX8_12 rfl ek4 ?_
      refine tq_iload_n (M := mX8_hasTwins) (pc := 17) dX8_hasTwins_17 rfl ?_
      obtain ⟨⟨⟩, eu6, hf⟩ := tq_be hf
      obtain ⟨fsu6, eu6⟩ := tq_is_s eu6
      obtain ⟨v5, ev5, hf⟩ := tq_be hf
      refine tq_calV (M := mX8_hasTwins) (pc := 18) (S := []) tk_y_X3_attributesOf tk_v_X3_attributesOf tk_RX8_97 dX8_hasTwins_18 [.int y1] rfl (S0 := _) rfl eu6 rfl (Nat.le_of_ble_eq_true rfl) (d1 := d - 1) (b1 := 0) (s1 := 0) (bc' := bc) (bs' := bs) (Q1 := fun r h9 => r = .inl (some (.long v5)) ∧ hh = h9) (by omega) (by omega) (by omega) (w_X3_attributesOf (by omega) ev5 (fun _ _ q => q)) (fun E h9 q => nomatch (show (Sum.inr E : tq_R) = Sum.inl _ from q.1)) (fun r9 h9 q => ?_)
      obtain ⟨q1, rfl⟩ := q
      cases (show (Sum.inl r9 : tq_R) = Sum.inl (some (.long v5)) from q1)
      refine tq_lstore_n (M := mX8_hasTwins) (pc := 21) rfl dX8_hasTwins_21 (L2 := [(2, .long v5), (0, .ref i0), (1, .int y1)]) (by decide) rfl ?_
      refine tq_iconst (M := mX8_hasTwins) (pc := 22) dX8_hasTwins_22 tk_ki_0 ?_
      refine tq_istore (M := mX8_hasTwins) (pc := 23) dX8_hasTwins_23 (L2 := [(4, .int (0 : Int32)), (2, .long v5), (0, .ref i0), (1, .int y1)]) (by decide) rfl ?_
      obtain ⟨o12, eo12, hf⟩ := tq_be hf
      refine tq_pick (L2 := [(0, .ref i0), (1, .int y1), (2, .long v5), (4, .int (0 : Int32))]) [2, 3, 1, 0] rfl ?_
      refine l_X8_hasTwins_25 (bc := bc) (bs := bs) (by omega) i0 y1 v5 hh _ (0 : Int32) _ eo12 ?_
      cases o12 with
      | inl o12 =>
        obtain ⟨x13, ex13, hf⟩ := tq_le hf
        refine tq_iinc (M := mX8_hasTwins) (pc := 64) (v := x13) (L2 := [(1, .int x13), (0, .ref i0)]) dX8_hasTwins_64 rfl (by rw [ex13, tk_ki_1]) (by decide) rfl ?_
        refine tq_goto (M := mX8_hasTwins) (pc := 67) (tgt := 2) dX8_hasTwins_67 (by decide) ?_
        refine tq_pick (L2 := [(0, .ref i0), (1, .int x13)]) [1, 0] rfl ?_
        cases (Option.some.inj hf)
        exact ih _ o (tq_lc ho) hk
      | inr e9 =>
        cases (Option.some.inj hf)
        cases (tq_lx ho)
        exact hk
set_option maxHeartbeats 4000000 in
set_option maxRecDepth 20000 in
theorem w_X8_hasTwins {l : Launch} {d : Nat} (hd9 : 2 ≤ d) {t : Nat} {h : tq_H} {o : Int32} {Q : tq_R → tq_H → Prop} (hf : f_X8_hasTwins t h = some o) (hQ : ∀ r h9, r = .inl (some (.int o)) ∧ h = h9 → Q r h9) : tq_C l yX8_hasTwins cX8_hasTwins 5 (some .boolean) d 0 0 [.ref t] h Q := by
  refine tq_body (y := yX8_hasTwins) false (by decide +kernel) (fun z => by cases z) (Nat.le_of_ble_eq_true rfl) ?_
  show tq_W l mX8_hasTwins d 0 0 Q 0 [(0, .ref t)] [] h
  refine tq_iconst (M := mX8_hasTwins) (pc := 0) dX8_hasTwins_0 tk_ki_0 ?_
  refine tq_istore_n (M := mX8_hasTwins) (pc := 1) rfl dX8_hasTwins_1 (L2 := [(1, .int (0 : Int32)), (0, .ref t)]) (by decide) rfl ?_
  obtain ⟨o14, eo14, hf⟩ := tq_be hf
  refine tq_pick (L2 := [(0, .ref t), (1, .int (0 : Int32))]) [1, 0] rfl ?_
  refine l_X8_hasTwins_2 (bc := 0) (bs := 0) (by omega) t h _ (0 : Int32) _ eo14 ?_
  cases o14 with
  | inl o14 =>
    refine tq_iconst (M := mX8_hasTwins) (pc := 70) dX8_hasTwins_70 tk_ki_0 ?_
    refine tq_zret (M := mX8_hasTwins) (pc := 71) dX8_hasTwins_71 rfl (Or.inl rfl) ?_
    cases (Option.some.inj hf)
    exact hQ _ _ ⟨rfl, rfl⟩
  | inr e9 =>
    cases (Option.some.inj hf)
    exact hQ
abbrev mX8_numberAnew : tq_M := (RX8, cX8_numberAnew, 3, none, false, [], none)
def f_X8_numberAnew_b4 (i0 : Nat) (s : Int32 × Int32 × tq_H) : Option ((Int32 × Int32 × tq_H) ⊕ (tq_H)) := match s with
  | (y1, y2, hh) =>
    (tq_gr hh i0 8 0).bind fun k1 =>
    (tq_is hh k1 3).bind fun _ =>
    (f_X3_count k1 hh).bind fun v2 =>
    if y2 ≥ v2 then
      some (.inr hh)
    else
      (tq_gr hh i0 8 0).bind fun k4 =>
      (tq_is hh k4 3).bind fun _ =>
      (f_X3_solids k4 hh).bind fun v5 =>
      (f_X0_holds v5 y2 hh).bind fun v7 =>
      (if v7 = 0 then
        some (y1, hh)
      else
        tq_let (y1 + (16 : Int32)) fun x8 =>
        (tq_gr hh i0 8 6).bind fun k9 =>
        (tq_gr hh i0 8 0).bind fun k10 =>
        (tq_is hh k10 3).bind fun _ =>
        (f_X3_nodeAt k10 y2 hh).bind fun v11 =>
        (tq_is hh k9 5).bind fun _ =>
        (f_X5_set k9 v11 x8 hh).bind fun v13 =>
        some (x8, v13)).bind fun p15 =>
      tq_let (y2 + (1 : Int32)) fun x16 =>
      some (.inl (p15.1, x16, p15.2))
def f_X8_numberAnew (t : Nat) (h : tq_H) : Option (tq_H) :=
  (tq_loop (f_X8_numberAnew_b4 t) tq_N ((0 : Int32), (0 : Int32), h)).bind fun o17 =>
  some o17
set_option maxHeartbeats 4000000 in
theorem l_X8_numberAnew_4 {l : Launch} {d : Nat} {Q : tq_R → tq_H → Prop} {bc bs : Nat} (hd9 : 2 ≤ d) (i0 : Nat) : ∀ (n : Nat) (y1 : Int32) (y2 : Int32) (hh : tq_H) (o : tq_H), tq_loop (f_X8_numberAnew_b4 i0) n (y1, y2, hh) = some o → tq_W l mX8_numberAnew d bc bs Q 54 [] [] o → tq_W l mX8_numberAnew d bc bs Q 4 [(0, .ref i0), (1, .int y1), (2, .int y2)] [] hh := by
  intro n
  induction n with
  | zero => intro y1 y2 hh o hl; cases hl
  | succ n ih =>
    intro y1 y2 hh o hl hk
    obtain ⟨oo, hf, ho⟩ := tq_loop_s hl
    refine tq_iload_n (M := mX8_numberAnew) (pc := 4) dX8_numberAnew_4 rfl ?_
    refine tq_aload_n (M := mX8_numberAnew) (pc := 5) dX8_numberAnew_5 rfl ?_
    obtain ⟨k1, ek1, hf⟩ := tq_be hf
    refine tq_getR (M := mX8_numberAnew) (pc := 6) tk_c8 (by decide) dX8_numberAnew_6 tk_RX8_12 rfl ek1 ?_
    obtain ⟨⟨⟩, eu3, hf⟩ := tq_be hf
    obtain ⟨fsu3, eu3⟩ := tq_is_s eu3
    obtain ⟨v2, ev2, hf⟩ := tq_be hf
    refine tq_calV (M := mX8_numberAnew) (pc := 9) (S := [.int y2]) tk_y_X3_count tk_v_X3_count tk_RX8_93 dX8_numberAnew_9 [] rfl (S0 := _) rfl eu3 rfl (Nat.le_of_ble_eq_true rfl) (d1 := d - 1) (b1 := 0) (s1 := 0) (bc' := bc) (bs' := bs) (Q1 := fun r h9 => r = .inl (some (.int v2)) ∧ hh = h9) (by omega) (by omega) (by omega) (w_X3_count (by omega) ev2 (fun _ _ q => q)) (fun E h9 q => nomatch (show (Sum.inr E : tq_R) = Sum.inl _ from q.1)) (fun r9 h9 q => ?_)
    obtain ⟨q1, rfl⟩ := q
    cases (show (Sum.inl r9 : tq_R) = Sum.inl (some (.int v2)) from q1)
    refine tq_icmp_ge (M := mX8_numberAnew) (pc := 12) (tgt := 54) dX8_numberAnew_12 (by decide) (fun cc => ?_) (fun cc => ?_)
    · have hf := tq_ifp hf cc
      refine tq_pick (L2 := []) [] rfl ?_
      cases (Option.some.inj hf)
      cases (tq_lx ho)
      exact hk
    · have hf := tq_ifn hf cc
      refine tq_aload_n (M := mX8_numberAnew) (pc := 15) dX8_numberAnew_15 rfl ?_
      obtain ⟨k4, ek4, hf⟩ := tq_be hf
      refine tq_getR (M := mX8_numberAnew) (pc := 16) tk_c8 (by decide) dX8_numberAnew_16 tk_RX8_12 rfl ek4 ?_
      obtain ⟨⟨⟩, eu6, hf⟩ := tq_be hf
      obtain ⟨fsu6, eu6⟩ := tq_is_s eu6
      obtain ⟨v5, ev5, hf⟩ := tq_be hf
      refine tq_calV (M := mX8_numberAnew) (pc := 19) (S := []) tk_y_X3_solids tk_v_X3_solids tk_RX8_130 dX8_numberAnew_19 [] rfl (S0 := _) rfl eu6 rfl (Nat.le_of_ble_eq_true rfl) (d1 := d - 1) (b1 := 0) (s1 := 0) (bc' := bc) (bs' := bs) (Q1 := fun r h9 => r = .inl (some (.long v5)) ∧ hh = h9) (by omega) (by omega) (by omega) (w_X3_solids (by omega) ev5 (fun _ _ q => q)) (fun E h9 q => nomatch (show (Sum.inr E : tq_R) = Sum.inl _ from q.1)) (fun r9 h9 q => ?_)
      obtain ⟨q1, rfl⟩ := q
      cases (show (Sum.inl r9 : tq_R) = Sum.inl (some (.long v5)) from q1)
      refine tq_iload_n (M := mX8_numberAnew) (pc := 22) dX8_numberAnew_22 rfl ?_
      obtain ⟨v7, ev7, hf⟩ := tq_be hf
      refine tq_calS (M := mX8_numberAnew) (pc := 23) (S := []) tk_y_X0_holds tk_s_X0_holds tk_RX8_114 dX8_numberAnew_23 [.long v5, .int y2] rfl (Nat.le_of_ble_eq_true rfl) (d1 := d - 1) (b1 := 0) (s1 := 0) (bc' := bc) (bs' := bs) (Q1 := fun r h9 => r = .inl (some (.int v7)) ∧ hh = h9) (by omega) (by omega) (by omega) (w_X0_holds (by omega) ev7 (fun _ _ q => q)) (fun E h9 q => nomatch (show (Sum.inr E : tq_R) = Sum.inl _ from q.1)) (fun r9 h9 q => ?_)
      obtain ⟨q1, rfl⟩ := q
      cases (show (Sum.inl r9 : tq_R) = Sum.inl (some (.int v7)) from q1)
      obtain ⟨p15, ep15, hf⟩ := tq_be hf
      have HJ26 : tq_W l mX8_numberAnew d bc bs Q 48 [(0, .ref i0), (1, .int p15.1), (2, .int y2)] [] p15.2 := by
        obtain ⟨x16, ex16, hf⟩ := tq_le hf
        refine tq_iinc (M := mX8_numberAnew) (pc := 48) (v := x16) (L2 := [(2, .int x16), (0, .ref i0), (1, .int p15.1)]) dX8_numberAnew_48 rfl (by rw [ex16, tk_ki_1]) (by decide) rfl ?_
        refine tq_goto (M := mX8_numberAnew) (pc := 51) (tgt := 4) dX8_numberAnew_51 (by decide) ?_
        refine tq_pick (L2 := [(0, .ref i0), (1, .int p15.1), (2, .int x16)]) [1, 2, 0] rfl ?_
        cases (Option.some.inj hf)
        exact ih _ _ _ o (tq_lc ho) hk
      refine tq_if_eq (M := mX8_numberAnew) (pc := 26) (tgt := 48) dX8_numberAnew_26 (by decide) (fun cc => ?_) (fun cc => ?_)
      · have hf := tq_ifp ep15 cc
        cases (Option.some.inj hf)
        exact HJ26
      · have hf := tq_ifn ep15 cc
        obtain ⟨x8, ex8, hf⟩ := tq_le hf
        refine tq_iinc (M := mX8_numberAnew) (pc := 29) (v := x8) (L2 := [(1, .int x8), (0, .ref i0), (2, .int y2)]) dX8_numberAnew_29 rfl (by rw [ex8, tk_ki_16]) (by decide) rfl ?_
        refine tq_aload_n (M := mX8_numberAnew) (pc := 32) dX8_numberAnew_32 rfl ?_
        obtain ⟨k9, ek9, hf⟩ := tq_be hf
        refine tq_getR (M := mX8_numberAnew) (pc := 33) tk_c8 (by decide) dX8_numberAnew_33 tk_RX8_39 rfl ek9 ?_
        refine tq_aload_n (M := mX8_numberAnew) (pc := 36) dX8_numberAnew_36 rfl ?_
        obtain ⟨k10, ek10, hf⟩ := tq_be hf
        refine tq_getR (M := mX8_numberAnew) (pc := 37) tk_c8 (by decide) dX8_numberAnew_37 tk_RX8_12 rfl ek10 ?_
        refine tq_iload_n (M := mX8_numberAnew) (pc := 40) dX8_numberAnew_40 rfl ?_
        obtain ⟨⟨⟩, eu12, hf⟩ := tq_be hf
        obtain ⟨fsu12, eu12⟩ := tq_is_s eu12
        obtain ⟨v11, ev11, hf⟩ := tq_be hf
        refine tq_calV (M := mX8_numberAnew) (pc := 41) (S := [.ref k9]) tk_y_X3_nodeAt tk_v_X3_nodeAt tk_RX8_120 dX8_numberAnew_41 [.int y2] rfl (S0 := _) rfl eu12 rfl (Nat.le_of_ble_eq_true rfl) (d1 := d - 1) (b1 := 0) (s1 := 0) (bc' := bc) (bs' := bs) (Q1 := fun r h9 => r = .inl (some (.int v11)) ∧ hh = h9) (by omega) (by omega) (by omega) (w_X3_nodeAt (by omega) ev11 (fun _ _ q => q)) (fun E h9 q => nomatch (show (Sum.inr E : tq_R) = Sum.inl _ from q.1)) (fun r9 h9 q => ?_)
        obtain ⟨q1, rfl⟩ := q
        cases (show (Sum.inl r9 : tq_R) = Sum.inl (some (.int v11)) from q1)
        refine tq_iload_n (M := mX8_numberAnew) (pc := 44) dX8_numberAnew_44 rfl ?_
        obtain ⟨⟨⟩, eu14, hf⟩ := tq_be hf
        obtain ⟨fsu14, eu14⟩ := tq_is_s eu14
        obtain ⟨v13, ev13, hf⟩ := tq_be hf
        refine tq_calV (M := mX8_numberAnew) (pc := 45) (S := []) tk_y_X5_set tk_v_X5_set tk_RX8_55 dX8_numberAnew_45 [.int v11, .int x8] rfl (S0 := _) rfl eu14 rfl (Nat.le_of_ble_eq_true rfl) (d1 := d - 1) (b1 := 0) (s1 := 0) (bc' := bc) (bs' := bs) (Q1 := fun r h9 => r = .inl none ∧ v13 = h9) (by omega) (by omega) (by omega) (w_X5_set (by omega) ev13 (fun _ _ q => q)) (fun E h9 q => nomatch (show (Sum.inr E : tq_R) = Sum.inl _ from q.1)) (fun r9 h9 q => ?_)
        obtain ⟨q1, rfl⟩ := q
        cases (show (Sum.inl r9 : tq_R) = Sum.inl (none) from q1)
        refine tq_pick (L2 := [(0, .ref i0), (1, .int x8), (2, .int y2)]) [1, 0, 2] rfl ?_
        cases (Option.some.inj hf)
        exact HJ26
set_option maxHeartbeats 4000000 in
set_option maxRecDepth 20000 in
theorem w_X8_numberAnew {l : Launch} {d : Nat} (hd9 : 2 ≤ d) {t : Nat} {h : tq_H} {o : tq_H} {Q : tq_R → tq_H → Prop} (hf : f_X8_numberAnew t h = some o) (hQ : ∀ r h9, r = .inl none ∧ o = h9 → Q r h9) : tq_C l yX8_numberAnew cX8_numberAnew 3 none d 0 0 [.ref t] h Q := by
  refine tq_body (y := yX8_numberAnew) false (by decide +kernel) (fun z => by cases z) (Nat.le_of_ble_eq_true rfl) ?_
  show tq_W l mX8_numberAnew d 0 0 Q 0 [(0, .ref t)] [] h
  refine tq_iconst (M := mX8_numberAnew) (pc := 0) dX8_numberAnew_0 tk_ki_0 ?_
  refine tq_istore_n (M := mX8_numberAnew) (pc := 1) rfl dX8_numberAnew_1 (L2 := [(1, .int (0 : Int32)), (0, .ref t)]) (by decide) rfl ?_
  refine tq_iconst (M := mX8_numberAnew) (pc := 2) dX8_numberAnew_2 tk_ki_0 ?_
  refine tq_istore_n (M := mX8_numberAnew) (pc := 3) rfl dX8_numberAnew_3 (L2 := [(2, .int (0 : Int32)), (1, .int (0 : Int32)), (0, .ref t)]) (by decide) rfl ?_
  obtain ⟨o17, eo17, hf⟩ := tq_be hf
  refine tq_pick (L2 := [(0, .ref t), (1, .int (0 : Int32)), (2, .int (0 : Int32))]) [2, 1, 0] rfl ?_
  refine l_X8_numberAnew_4 (bc := 0) (bs := 0) (by omega) t _ (0 : Int32) (0 : Int32) h _ eo17 ?_
  refine tq_vret (M := mX8_numberAnew) (pc := 54) dX8_numberAnew_54 rfl ?_
  cases (Option.some.inj hf)
  exact hQ _ _ ⟨rfl, rfl⟩
abbrev mX8_numberRow : tq_M := (RX8, cX8_numberRow, 11, (some .boolean), false, [], none)
def f_X8_numberRow_b70 (i0 : Nat) (i1 : Int64) (i4 : Int32) (i5 : Int32) (i6 : Int32) (i7 : Int32) (s : Int32 × tq_H) : Option ((Int32 × tq_H) ⊕ (tq_H)) := match s with
  | (y8, hh) =>
    if y8 > i5 then
      some (.inr hh)
    else
      (tq_gr hh i0 8 0).bind fun k15 =>
      (tq_is hh k15 3).bind fun _ =>
      (f_X3_nodeOfSet k15 i1 (y8 - (1 : Int32)) hh).bind fun v16 =>
      (if i4 = (-1 : Int32) then
        some ((16 : Int32) * y8)
      else
        (tq_nz (i5 + (1 : Int32))).bind fun _ =>
        some ((y8 * i7) / (i5 + (1 : Int32)))).bind fun p19 =>
      (tq_gr hh i0 8 6).bind fun k20 =>
      (tq_is hh k20 5).bind fun _ =>
      (f_X5_set k20 v16 (i6 + p19) hh).bind fun v21 =>
      tq_let (y8 + (1 : Int32)) fun x23 =>
      some (.inl (x23, v21))
def f_X8_numberRow_b70_2 (i0 : Nat) (i1 : Int64) (i4 : Int32) (i5 : Int32) (i6 : Int32) (i7 : Int32) (s : Int32 × tq_H) : Option ((Int32 × tq_H) ⊕ (tq_H)) := match s with
  | (y8, hh) =>
    if y8 > i5 then
      some (.inr hh)
    else
      (tq_gr hh i0 8 0).bind fun k25 =>
      (tq_is hh k25 3).bind fun _ =>
      (f_X3_nodeOfSet k25 i1 (y8 - (1 : Int32)) hh).bind fun v26 =>
      (if i4 = (-1 : Int32) then
        some ((16 : Int32) * y8)
      else
        (tq_nz (i5 + (1 : Int32))).bind fun _ =>
        some ((y8 * i7) / (i5 + (1 : Int32)))).bind fun p29 =>
      (tq_gr hh i0 8 6).bind fun k30 =>
      (tq_is hh k30 5).bind fun _ =>
      (f_X5_set k30 v26 (i6 + p29) hh).bind fun v31 =>
      tq_let (y8 + (1 : Int32)) fun x33 =>
      some (.inl (x33, v31))
def f_X8_numberRow (t : Nat) (a1 : Int64) (a3 : Int32) (a4 : Int32) (h : tq_H) : Option (Int32 × tq_H) :=
  (f_J13_bitCount_95d88 a1 h).bind fun v1 =>
  if v1 ≥ (1 : Int32) then
    (tq_gr h t 8 6).bind fun k2 =>
    (tq_gr h t 8 0).bind fun k3 =>
    (tq_is h k3 3).bind fun _ =>
    (f_X3_nodeAt k3 a3 h).bind fun v4 =>
    (tq_is h k2 5).bind fun _ =>
    (f_X5_get k2 v4 h).bind fun v6 =>
    (tq_gr h t 8 6).bind fun k8 =>
    (tq_gr h t 8 0).bind fun k9 =>
    (tq_is h k9 3).bind fun _ =>
    (f_X3_nodeAt k9 a4 h).bind fun v10 =>
    (tq_is h k8 5).bind fun _ =>
    (f_X5_get k8 v10 h).bind fun v12 =>
    tq_let ((v12 - v6)) fun x14 =>
    if a4 = (-1 : Int32) then
      (tq_loop (f_X8_numberRow_b70 t a1 a4 v1 v6 x14) tq_N ((1 : Int32), h)).bind fun o24 =>
      some ((1 : Int32), o24)
    else
      if x14 > v1 then
        (tq_loop (f_X8_numberRow_b70_2 t a1 a4 v1 v6 x14) tq_N ((1 : Int32), h)).bind fun o34 =>
        some ((1 : Int32), o34)
      else
        some ((0 : Int32), h)
  else
    some ((1 : Int32), h)
set_option maxHeartbeats 4000000 in
theorem l_X8_numberRow_70 {l : Launch} {d : Nat} {Q : tq_R → tq_H → Prop} {bc bs : Nat} (hd9 : 4 ≤ d) (i0 : Nat) (i1 : Int64) (i4 : Int32) (i5 : Int32) (i6 : Int32) (i7 : Int32) : ∀ (n : Nat) (y8 : Int32) (hh : tq_H) (o : tq_H), tq_loop (f_X8_numberRow_b70 i0 i1 i4 i5 i6 i7) n (y8, hh) = some o → tq_W l mX8_numberRow d bc bs Q 137 [] [] o → tq_W l mX8_numberRow d bc bs Q 70 [(0, .ref i0), (1, .long i1), (4, .int i4), (5, .int i5), (6, .int i6), (7, .int i7), (8, .int y8)] [] hh := by
  intro n
  induction n with
  | zero => intro y8 hh o hl; cases hl
  | succ n ih =>
    intro y8 hh o hl hk
    obtain ⟨oo, hf, ho⟩ := tq_loop_s hl
    refine tq_iload (M := mX8_numberRow) (pc := 70) dX8_numberRow_70 rfl ?_
    refine tq_iload (M := mX8_numberRow) (pc := 72) dX8_numberRow_72 rfl ?_
    refine tq_icmp_gt (M := mX8_numberRow) (pc := 74) (tgt := 137) dX8_numberRow_74 (by decide) (fun cc => ?_) (fun cc => ?_)
    · have hf := tq_ifp hf cc
      refine tq_pick (L2 := []) [] rfl ?_
      cases (Option.some.inj hf)
      cases (tq_lx ho)
      exact hk
    · have hf := tq_ifn hf cc
      refine tq_aload_n (M := mX8_numberRow) (pc := 77) dX8_numberRow_77 rfl ?_
      obtain ⟨k15, ek15, hf⟩ := tq_be hf
      refine tq_getR (M := mX8_numberRow) (pc := 78) tk_c8 (by decide) dX8_numberRow_78 tk_RX8_12 rfl ek15 ?_
      refine tq_lload_n (M := mX8_numberRow) (pc := 81) dX8_numberRow_81 rfl ?_
      refine tq_iload (M := mX8_numberRow) (pc := 82) dX8_numberRow_82 rfl ?_
      refine tq_iconst (M := mX8_numberRow) (pc := 84) dX8_numberRow_84 tk_ki_1 ?_
      refine tq_isub (M := mX8_numberRow) (pc := 85) dX8_numberRow_85 ?_
      obtain ⟨⟨⟩, eu17, hf⟩ := tq_be hf
      obtain ⟨fsu17, eu17⟩ := tq_is_s eu17
      obtain ⟨v16, ev16, hf⟩ := tq_be hf
      refine tq_calV (M := mX8_numberRow) (pc := 86) (S := []) tk_y_X3_nodeOfSet tk_v_X3_nodeOfSet tk_RX8_126 dX8_numberRow_86 [.long i1, .int ((y8 - (1 : Int32)))] rfl (S0 := _) rfl eu17 rfl (Nat.le_of_ble_eq_true rfl) (d1 := d - 1) (b1 := 0) (s1 := 0) (bc' := bc) (bs' := bs) (Q1 := fun r h9 => r = .inl (some (.int v16)) ∧ hh = h9) (by omega) (by omega) (by omega) (w_X3_nodeOfSet (by omega) ev16 (fun _ _ q => q)) (fun E h9 q => nomatch (show (Sum.inr E : tq_R) = Sum.inl _ from q.1)) (fun r9 h9 q => ?_)
      obtain ⟨q1, rfl⟩ := q
      cases (show (Sum.inl r9 : tq_R) = Sum.inl (some (.int v16)) from q1)
      refine tq_istore (M := mX8_numberRow) (pc := 89) dX8_numberRow_89 (L2 := [(9, .int v16), (0, .ref i0), (1, .long i1), (4, .int i4), (5, .int i5), (6, .int i6), (7, .int i7), (8, .int y8)]) (by decide) rfl ?_
      refine tq_iload (M := mX8_numberRow) (pc := 91) dX8_numberRow_91 rfl ?_
      refine tq_iconst (M := mX8_numberRow) (pc := 93) dX8_numberRow_93 tk_ki_m1 ?_
      obtain ⟨p19, ep19, hf⟩ := tq_be hf
      have HJ94 : tq_W l mX8_numberRow d bc bs Q 115 [(0, .ref i0), (1, .long i1), (4, .int i4), (5, .int i5), (6, .int i6), (7, .int i7), (8, .int y8), (9, .int v16)] [.int p19] hh := by
        refine tq_istore (M := mX8_numberRow) (pc := 115) dX8_numberRow_115 (L2 := [(10, .int p19), (0, .ref i0), (1, .long i1), (4, .int i4), (5, .int i5), (6, .int i6), (7, .int i7), (8, .int y8), (9, .int v16)]) (by decide) rfl ?_
        refine tq_aload_n (M := mX8_numberRow) (pc := 117) dX8_numberRow_117 rfl ?_
        obtain ⟨k20, ek20, hf⟩ := tq_be hf
        refine tq_getR (M := mX8_numberRow) (pc := 118) tk_c8 (by decide) dX8_numberRow_118 tk_RX8_39 rfl ek20 ?_
        refine tq_iload (M := mX8_numberRow) (pc := 121) dX8_numberRow_121 rfl ?_
        refine tq_iload (M := mX8_numberRow) (pc := 123) dX8_numberRow_123 rfl ?_
        refine tq_iload (M := mX8_numberRow) (pc := 125) dX8_numberRow_125 rfl ?_
        refine tq_iadd (M := mX8_numberRow) (pc := 127) dX8_numberRow_127 ?_
        obtain ⟨⟨⟩, eu22, hf⟩ := tq_be hf
        obtain ⟨fsu22, eu22⟩ := tq_is_s eu22
        obtain ⟨v21, ev21, hf⟩ := tq_be hf
        refine tq_calV (M := mX8_numberRow) (pc := 128) (S := []) tk_y_X5_set tk_v_X5_set tk_RX8_55 dX8_numberRow_128 [.int v16, .int ((i6 + p19))] rfl (S0 := _) rfl eu22 rfl (Nat.le_of_ble_eq_true rfl) (d1 := d - 1) (b1 := 0) (s1 := 0) (bc' := bc) (bs' := bs) (Q1 := fun r h9 => r = .inl none ∧ v21 = h9) (by omega) (by omega) (by omega) (w_X5_set (by omega) ev21 (fun _ _ q => q)) (fun E h9 q => nomatch (show (Sum.inr E : tq_R) = Sum.inl _ from q.1)) (fun r9 h9 q => ?_)
        obtain ⟨q1, rfl⟩ := q
        cases (show (Sum.inl r9 : tq_R) = Sum.inl (none) from q1)
        obtain ⟨x23, ex23, hf⟩ := tq_le hf
        refine tq_iinc (M := mX8_numberRow) (pc := 131) (v := x23) (L2 := [(8, .int x23), (10, .int p19), (0, .ref i0), (1, .long i1), (4, .int i4), (5, .int i5), (6, .int i6), (7, .int i7), (9, .int v16)]) dX8_numberRow_131 rfl (by rw [ex23, tk_ki_1]) (by decide) rfl ?_
        refine tq_goto (M := mX8_numberRow) (pc := 134) (tgt := 70) dX8_numberRow_134 (by decide) ?_
        refine tq_pick (L2 := [(0, .ref i0), (1, .long i1), (4, .int i4), (5, .int i5), (6, .int i6), (7, .int i7), (8, .int x23)]) [2, 3, 4, 5, 6, 7, 0] rfl ?_
        cases (Option.some.inj hf)
        exact ih _ _ o (tq_lc ho) hk
      refine tq_icmp_ne (M := mX8_numberRow) (pc := 94) (tgt := 105) dX8_numberRow_94 (by decide) (fun cc => ?_) (fun cc => ?_)
      · have hf := tq_ifn ep19 cc
        refine tq_iload (M := mX8_numberRow) (pc := 105) dX8_numberRow_105 rfl ?_
        refine tq_iload (M := mX8_numberRow) (pc := 107) dX8_numberRow_107 rfl ?_
        refine tq_imul (M := mX8_numberRow) (pc := 109) dX8_numberRow_109 ?_
        refine tq_iload (M := mX8_numberRow) (pc := 110) dX8_numberRow_110 rfl ?_
        refine tq_iconst (M := mX8_numberRow) (pc := 112) dX8_numberRow_112 tk_ki_1 ?_
        refine tq_iadd (M := mX8_numberRow) (pc := 113) dX8_numberRow_113 ?_
        obtain ⟨u18, eu18, hf⟩ := tq_be hf
        refine tq_idiv (M := mX8_numberRow) (pc := 114) dX8_numberRow_114 (tq_nz_s eu18) ?_
        refine tq_pick (L2 := [(0, .ref i0), (1, .long i1), (4, .int i4), (5, .int i5), (6, .int i6), (7, .int i7), (8, .int y8), (9, .int v16)]) [1, 2, 3, 4, 5, 6, 7, 0] rfl ?_
        cases (Option.some.inj hf)
        exact HJ94
      · have hf := tq_ifp ep19 cc
        refine tq_bipush (M := mX8_numberRow) (pc := 97) dX8_numberRow_97 tk_kb_16 ?_
        refine tq_iload (M := mX8_numberRow) (pc := 99) dX8_numberRow_99 rfl ?_
        refine tq_imul (M := mX8_numberRow) (pc := 101) dX8_numberRow_101 ?_
        refine tq_goto (M := mX8_numberRow) (pc := 102) (tgt := 115) dX8_numberRow_102 (by decide) ?_
        refine tq_pick (L2 := [(0, .ref i0), (1, .long i1), (4, .int i4), (5, .int i5), (6, .int i6), (7, .int i7), (8, .int y8), (9, .int v16)]) [1, 2, 3, 4, 5, 6, 7, 0] rfl ?_
        cases (Option.some.inj hf)
        exact HJ94
set_option maxHeartbeats 4000000 in
theorem l_X8_numberRow_70_2 {l : Launch} {d : Nat} {Q : tq_R → tq_H → Prop} {bc bs : Nat} (hd9 : 4 ≤ d) (i0 : Nat) (i1 : Int64) (i4 : Int32) (i5 : Int32) (i6 : Int32) (i7 : Int32) : ∀ (n : Nat) (y8 : Int32) (hh : tq_H) (o : tq_H), tq_loop (f_X8_numberRow_b70_2 i0 i1 i4 i5 i6 i7) n (y8, hh) = some o → tq_W l mX8_numberRow d bc bs Q 137 [] [] o → tq_W l mX8_numberRow d bc bs Q 70 [(0, .ref i0), (1, .long i1), (4, .int i4), (5, .int i5), (6, .int i6), (7, .int i7), (8, .int y8)] [] hh := by
  intro n
  induction n with
  | zero => intro y8 hh o hl; cases hl
  | succ n ih =>
    intro y8 hh o hl hk
    obtain ⟨oo, hf, ho⟩ := tq_loop_s hl
    refine tq_iload (M := mX8_numberRow) (pc := 70) dX8_numberRow_70 rfl ?_
    refine tq_iload (M := mX8_numberRow) (pc := 72) dX8_numberRow_72 rfl ?_
    refine tq_icmp_gt (M := mX8_numberRow) (pc := 74) (tgt := 137) dX8_numberRow_74 (by decide) (fun cc => ?_) (fun cc => ?_)
    · have hf := tq_ifp hf cc
      refine tq_pick (L2 := []) [] rfl ?_
      cases (Option.some.inj hf)
      cases (tq_lx ho)
      exact hk
    · have hf := tq_ifn hf cc
      refine tq_aload_n (M := mX8_numberRow) (pc := 77) dX8_numberRow_77 rfl ?_
      obtain ⟨k25, ek25, hf⟩ := tq_be hf
      refine tq_getR (M := mX8_numberRow) (pc := 78) tk_c8 (by decide) dX8_numberRow_78 tk_RX8_12 rfl ek25 ?_
      refine tq_lload_n (M := mX8_numberRow) (pc := 81) dX8_numberRow_81 rfl ?_
      refine tq_iload (M := mX8_numberRow) (pc := 82) dX8_numberRow_82 rfl ?_
      refine tq_iconst (M := mX8_numberRow) (pc := 84) dX8_numberRow_84 tk_ki_1 ?_
      refine tq_isub (M := mX8_numberRow) (pc := 85) dX8_numberRow_85 ?_
      obtain ⟨⟨⟩, eu27, hf⟩ := tq_be hf
      obtain ⟨fsu27, eu27⟩ := tq_is_s eu27
      obtain ⟨v26, ev26, hf⟩ := tq_be hf
      refine tq_calV (M := mX8_numberRow) (pc := 86) (S := []) tk_y_X3_nodeOfSet tk_v_X3_nodeOfSet tk_RX8_126 dX8_numberRow_86 [.long i1, .int ((y8 - (1 : Int32)))] rfl (S0 := _) rfl eu27 rfl (Nat.le_of_ble_eq_true rfl) (d1 := d - 1) (b1 := 0) (s1 := 0) (bc' := bc) (bs' := bs) (Q1 := fun r h9 => r = .inl (some (.int v26)) ∧ hh = h9) (by omega) (by omega) (by omega) (w_X3_nodeOfSet (by omega) ev26 (fun _ _ q => q)) (fun E h9 q => nomatch (show (Sum.inr E : tq_R) = Sum.inl _ from q.1)) (fun r9 h9 q => ?_)
      obtain ⟨q1, rfl⟩ := q
      cases (show (Sum.inl r9 : tq_R) = Sum.inl (some (.int v26)) from q1)
      refine tq_istore (M := mX8_numberRow) (pc := 89) dX8_numberRow_89 (L2 := [(9, .int v26), (0, .ref i0), (1, .long i1), (4, .int i4), (5, .int i5), (6, .int i6), (7, .int i7), (8, .int y8)]) (by decide) rfl ?_
      refine tq_iload (M := mX8_numberRow) (pc := 91) dX8_numberRow_91 rfl ?_
      refine tq_iconst (M := mX8_numberRow) (pc := 93) dX8_numberRow_93 tk_ki_m1 ?_
      obtain ⟨p29, ep29, hf⟩ := tq_be hf
      have HJ94 : tq_W l mX8_numberRow d bc bs Q 115 [(0, .ref i0), (1, .long i1), (4, .int i4), (5, .int i5), (6, .int i6), (7, .int i7), (8, .int y8), (9, .int v26)] [.int p29] hh := by
        refine tq_istore (M := mX8_numberRow) (pc := 115) dX8_numberRow_115 (L2 := [(10, .int p29), (0, .ref i0), (1, .long i1), (4, .int i4), (5, .int i5), (6, .int i6), (7, .int i7), (8, .int y8), (9, .int v26)]) (by decide) rfl ?_
        refine tq_aload_n (M := mX8_numberRow) (pc := 117) dX8_numberRow_117 rfl ?_
        obtain ⟨k30, ek30, hf⟩ := tq_be hf
        refine tq_getR (M := mX8_numberRow) (pc := 118) tk_c8 (by decide) dX8_numberRow_118 tk_RX8_39 rfl ek30 ?_
        refine tq_iload (M := mX8_numberRow) (pc := 121) dX8_numberRow_121 rfl ?_
        refine tq_iload (M := mX8_numberRow) (pc := 123) dX8_numberRow_123 rfl ?_
        refine tq_iload (M := mX8_numberRow) (pc := 125) dX8_numberRow_125 rfl ?_
        refine tq_iadd (M := mX8_numberRow) (pc := 127) dX8_numberRow_127 ?_
        obtain ⟨⟨⟩, eu32, hf⟩ := tq_be hf
        obtain ⟨fsu32, eu32⟩ := tq_is_s eu32
        obtain ⟨v31, ev31, hf⟩ := tq_be hf
        refine tq_calV (M := mX8_numberRow) (pc := 128) (S := []) tk_y_X5_set tk_v_X5_set tk_RX8_55 dX8_numberRow_128 [.int v26, .int ((i6 + p29))] rfl (S0 := _) rfl eu32 rfl (Nat.le_of_ble_eq_true rfl) (d1 := d - 1) (b1 := 0) (s1 := 0) (bc' := bc) (bs' := bs) (Q1 := fun r h9 => r = .inl none ∧ v31 = h9) (by omega) (by omega) (by omega) (w_X5_set (by omega) ev31 (fun _ _ q => q)) (fun E h9 q => nomatch (show (Sum.inr E : tq_R) = Sum.inl _ from q.1)) (fun r9 h9 q => ?_)
        obtain ⟨q1, rfl⟩ := q
        cases (show (Sum.inl r9 : tq_R) = Sum.inl (none) from q1)
        obtain ⟨x33, ex33, hf⟩ := tq_le hf
        refine tq_iinc (M := mX8_numberRow) (pc := 131) (v := x33) (L2 := [(8, .int x33), (10, .int p29), (0, .ref i0), (1, .long i1), (4, .int i4), (5, .int i5), (6, .int i6), (7, .int i7), (9, .int v26)]) dX8_numberRow_131 rfl (by rw [ex33, tk_ki_1]) (by decide) rfl ?_
        refine tq_goto (M := mX8_numberRow) (pc := 134) (tgt := 70) dX8_numberRow_134 (by decide) ?_
        refine tq_pick (L2 := [(0, .ref i0), (1, .long i1), (4, .int i4), (5, .int i5), (6, .int i6), (7, .int i7), (8, .int x33)]) [2, 3, 4, 5, 6, 7, 0] rfl ?_
        cases (Option.some.inj hf)
        exact ih _ _ o (tq_lc ho) hk
      refine tq_icmp_ne (M := mX8_numberRow) (pc := 94) (tgt := 105) dX8_numberRow_94 (by decide) (fun cc => ?_) (fun cc => ?_)
      · have hf := tq_ifn ep29 cc
        refine tq_iload (M := mX8_numberRow) (pc := 105) dX8_numberRow_105 rfl ?_
        refine tq_iload (M := mX8_numberRow) (pc := 107) dX8_numberRow_107 rfl ?_
        refine tq_imul (M := mX8_numberRow) (pc := 109) dX8_numberRow_109 ?_
        refine tq_iload (M := mX8_numberRow) (pc := 110) dX8_numberRow_110 rfl ?_
        refine tq_iconst (M := mX8_numberRow) (pc := 112) dX8_numberRow_112 tk_ki_1 ?_
        refine tq_iadd (M := mX8_numberRow) (pc := 113) dX8_numberRow_113 ?_
        obtain ⟨u28, eu28, hf⟩ := tq_be hf
        refine tq_idiv (M := mX8_numberRow) (pc := 114) dX8_numberRow_114 (tq_nz_s eu28) ?_
        refine tq_pick (L2 := [(0, .ref i0), (1, .long i1), (4, .int i4), (5, .int i5), (6, .int i6), (7, .int i7), (8, .int y8), (9, .int v26)]) [1, 2, 3, 4, 5, 6, 7, 0] rfl ?_
        cases (Option.some.inj hf)
        exact HJ94
      · have hf := tq_ifp ep29 cc
        refine tq_bipush (M := mX8_numberRow) (pc := 97) dX8_numberRow_97 tk_kb_16 ?_
        refine tq_iload (M := mX8_numberRow) (pc := 99) dX8_numberRow_99 rfl ?_
        refine tq_imul (M := mX8_numberRow) (pc := 101) dX8_numberRow_101 ?_
        refine tq_goto (M := mX8_numberRow) (pc := 102) (tgt := 115) dX8_numberRow_102 (by decide) ?_
        refine tq_pick (L2 := [(0, .ref i0), (1, .long i1), (4, .int i4), (5, .int i5), (6, .int i6), (7, .int i7), (8, .int y8), (9, .int v26)]) [1, 2, 3, 4, 5, 6, 7, 0] rfl ?_
        cases (Option.some.inj hf)
        exact HJ94
set_option maxHeartbeats 4000000 in
set_option maxRecDepth 20000 in
theorem w_X8_numberRow {l : Launch} {d : Nat} (hd9 : 4 ≤ d) {t : Nat} {a1 : Int64} {a3 : Int32} {a4 : Int32} {h : tq_H} {o : Int32 × tq_H} {Q : tq_R → tq_H → Prop} (hf : f_X8_numberRow t a1 a3 a4 h = some o) (hQ : ∀ r h9, r = .inl (some (.int o.1)) ∧ o.2 = h9 → Q r h9) : tq_C l yX8_numberRow cX8_numberRow 11 (some .boolean) d 0 0 [.ref t, .long a1, .int a3, .int a4] h Q := by
  refine tq_body (y := yX8_numberRow) false (by decide +kernel) (fun z => by cases z) (Nat.le_of_ble_eq_true rfl) ?_
  show tq_W l mX8_numberRow d 0 0 Q 0 [(0, .ref t), (1, .long a1), (3, .int a3), (4, .int a4)] [] h
  refine tq_lload_n (M := mX8_numberRow) (pc := 0) dX8_numberRow_0 rfl ?_
  obtain ⟨v1, ev1, hf⟩ := tq_be hf
  refine tq_calS (M := mX8_numberRow) (pc := 1) (S := []) tk_y_J13_bitCount_95d88 tk_s_J13_bitCount_95d88 tk_RX8_104 dX8_numberRow_1 [.long a1] rfl (Nat.le_of_ble_eq_true rfl) (d1 := d - 1) (b1 := 0) (s1 := 0) (bc' := 0) (bs' := 0) (Q1 := fun r h9 => r = .inl (some (.int v1)) ∧ h = h9) (by omega) rfl rfl (w_J13_bitCount_95d88 (by omega) ev1 (fun _ _ q => q)) (fun E h9 q => nomatch (show (Sum.inr E : tq_R) = Sum.inl _ from q.1)) (fun r9 h9 q => ?_)
  obtain ⟨q1, rfl⟩ := q
  cases (show (Sum.inl r9 : tq_R) = Sum.inl (some (.int v1)) from q1)
  refine tq_istore (M := mX8_numberRow) (pc := 4) dX8_numberRow_4 (L2 := [(5, .int v1), (0, .ref t), (1, .long a1), (3, .int a3), (4, .int a4)]) (by decide) rfl ?_
  refine tq_iload (M := mX8_numberRow) (pc := 6) dX8_numberRow_6 rfl ?_
  refine tq_iconst (M := mX8_numberRow) (pc := 8) dX8_numberRow_8 tk_ki_1 ?_
  refine tq_icmp_ge (M := mX8_numberRow) (pc := 9) (tgt := 14) dX8_numberRow_9 (by decide) (fun cc => ?_) (fun cc => ?_)
  · have hf := tq_ifp hf cc
    refine tq_aload_n (M := mX8_numberRow) (pc := 14) dX8_numberRow_14 rfl ?_
    obtain ⟨k2, ek2, hf⟩ := tq_be hf
    refine tq_getR (M := mX8_numberRow) (pc := 15) tk_c8 (by decide) dX8_numberRow_15 tk_RX8_39 rfl ek2 ?_
    refine tq_aload_n (M := mX8_numberRow) (pc := 18) dX8_numberRow_18 rfl ?_
    obtain ⟨k3, ek3, hf⟩ := tq_be hf
    refine tq_getR (M := mX8_numberRow) (pc := 19) tk_c8 (by decide) dX8_numberRow_19 tk_RX8_12 rfl ek3 ?_
    refine tq_iload_n (M := mX8_numberRow) (pc := 22) dX8_numberRow_22 rfl ?_
    obtain ⟨⟨⟩, eu5, hf⟩ := tq_be hf
    obtain ⟨fsu5, eu5⟩ := tq_is_s eu5
    obtain ⟨v4, ev4, hf⟩ := tq_be hf
    refine tq_calV (M := mX8_numberRow) (pc := 23) (S := [.ref k2]) tk_y_X3_nodeAt tk_v_X3_nodeAt tk_RX8_120 dX8_numberRow_23 [.int a3] rfl (S0 := _) rfl eu5 rfl (Nat.le_of_ble_eq_true rfl) (d1 := d - 1) (b1 := 0) (s1 := 0) (bc' := 0) (bs' := 0) (Q1 := fun r h9 => r = .inl (some (.int v4)) ∧ h = h9) (by omega) rfl rfl (w_X3_nodeAt (by omega) ev4 (fun _ _ q => q)) (fun E h9 q => nomatch (show (Sum.inr E : tq_R) = Sum.inl _ from q.1)) (fun r9 h9 q => ?_)
    obtain ⟨q1, rfl⟩ := q
    cases (show (Sum.inl r9 : tq_R) = Sum.inl (some (.int v4)) from q1)
    obtain ⟨⟨⟩, eu7, hf⟩ := tq_be hf
    obtain ⟨fsu7, eu7⟩ := tq_is_s eu7
    obtain ⟨v6, ev6, hf⟩ := tq_be hf
    refine tq_calV (M := mX8_numberRow) (pc := 26) (S := []) tk_y_X5_get tk_v_X5_get tk_RX8_58 dX8_numberRow_26 [.int v4] rfl (S0 := _) rfl eu7 rfl (Nat.le_of_ble_eq_true rfl) (d1 := d - 1) (b1 := 0) (s1 := 0) (bc' := 0) (bs' := 0) (Q1 := fun r h9 => r = .inl (some (.int v6)) ∧ h = h9) (by omega) rfl rfl (w_X5_get (by omega) ev6 (fun _ _ q => q)) (fun E h9 q => nomatch (show (Sum.inr E : tq_R) = Sum.inl _ from q.1)) (fun r9 h9 q => ?_)
    obtain ⟨q1, rfl⟩ := q
    cases (show (Sum.inl r9 : tq_R) = Sum.inl (some (.int v6)) from q1)
    refine tq_istore (M := mX8_numberRow) (pc := 29) dX8_numberRow_29 (L2 := [(6, .int v6), (5, .int v1), (0, .ref t), (1, .long a1), (3, .int a3), (4, .int a4)]) (by decide) rfl ?_
    refine tq_aload_n (M := mX8_numberRow) (pc := 31) dX8_numberRow_31 rfl ?_
    obtain ⟨k8, ek8, hf⟩ := tq_be hf
    refine tq_getR (M := mX8_numberRow) (pc := 32) tk_c8 (by decide) dX8_numberRow_32 tk_RX8_39 rfl ek8 ?_
    refine tq_aload_n (M := mX8_numberRow) (pc := 35) dX8_numberRow_35 rfl ?_
    obtain ⟨k9, ek9, hf⟩ := tq_be hf
    refine tq_getR (M := mX8_numberRow) (pc := 36) tk_c8 (by decide) dX8_numberRow_36 tk_RX8_12 rfl ek9 ?_
    refine tq_iload (M := mX8_numberRow) (pc := 39) dX8_numberRow_39 rfl ?_
    obtain ⟨⟨⟩, eu11, hf⟩ := tq_be hf
    obtain ⟨fsu11, eu11⟩ := tq_is_s eu11
    obtain ⟨v10, ev10, hf⟩ := tq_be hf
    refine tq_calV (M := mX8_numberRow) (pc := 41) (S := [.ref k8]) tk_y_X3_nodeAt tk_v_X3_nodeAt tk_RX8_120 dX8_numberRow_41 [.int a4] rfl (S0 := _) rfl eu11 rfl (Nat.le_of_ble_eq_true rfl) (d1 := d - 1) (b1 := 0) (s1 := 0) (bc' := 0) (bs' := 0) (Q1 := fun r h9 => r = .inl (some (.int v10)) ∧ h = h9) (by omega) rfl rfl (w_X3_nodeAt (by omega) ev10 (fun _ _ q => q)) (fun E h9 q => nomatch (show (Sum.inr E : tq_R) = Sum.inl _ from q.1)) (fun r9 h9 q => ?_)
    obtain ⟨q1, rfl⟩ := q
    cases (show (Sum.inl r9 : tq_R) = Sum.inl (some (.int v10)) from q1)
    obtain ⟨⟨⟩, eu13, hf⟩ := tq_be hf
    obtain ⟨fsu13, eu13⟩ := tq_is_s eu13
    obtain ⟨v12, ev12, hf⟩ := tq_be hf
    refine tq_calV (M := mX8_numberRow) (pc := 44) (S := []) tk_y_X5_get tk_v_X5_get tk_RX8_58 dX8_numberRow_44 [.int v10] rfl (S0 := _) rfl eu13 rfl (Nat.le_of_ble_eq_true rfl) (d1 := d - 1) (b1 := 0) (s1 := 0) (bc' := 0) (bs' := 0) (Q1 := fun r h9 => r = .inl (some (.int v12)) ∧ h = h9) (by omega) rfl rfl (w_X5_get (by omega) ev12 (fun _ _ q => q)) (fun E h9 q => nomatch (show (Sum.inr E : tq_R) = Sum.inl _ from q.1)) (fun r9 h9 q => ?_)
    obtain ⟨q1, rfl⟩ := q
    cases (show (Sum.inl r9 : tq_R) = Sum.inl (some (.int v12)) from q1)
    refine tq_iload (M := mX8_numberRow) (pc := 47) dX8_numberRow_47 rfl ?_
    refine tq_isub (M := mX8_numberRow) (pc := 49) dX8_numberRow_49 ?_
    obtain ⟨x14, ex14, hf⟩ := tq_le hf
    refine tq_istore (M := mX8_numberRow) (pc := 50) dX8_numberRow_50 (L2 := [(7, .int x14), (6, .int v6), (5, .int v1), (0, .ref t), (1, .long a1), (3, .int a3), (4, .int a4)]) (by decide) (by rw [ex14]; rfl) ?_
    refine tq_iload (M := mX8_numberRow) (pc := 52) dX8_numberRow_52 rfl ?_
    refine tq_iconst (M := mX8_numberRow) (pc := 54) dX8_numberRow_54 tk_ki_m1 ?_
    refine tq_icmp_eq (M := mX8_numberRow) (pc := 55) (tgt := 67) dX8_numberRow_55 (by decide) (fun cc => ?_) (fun cc => ?_)
    · have hf := tq_ifp hf cc
      refine tq_iconst (M := mX8_numberRow) (pc := 67) dX8_numberRow_67 tk_ki_1 ?_
      refine tq_istore (M := mX8_numberRow) (pc := 68) dX8_numberRow_68 (L2 := [(8, .int (1 : Int32)), (7, .int x14), (6, .int v6), (5, .int v1), (0, .ref t), (1, .long a1), (3, .int a3), (4, .int a4)]) (by decide) rfl ?_
      obtain ⟨o24, eo24, hf⟩ := tq_be hf
      refine tq_pick (L2 := [(0, .ref t), (1, .long a1), (4, .int a4), (5, .int v1), (6, .int v6), (7, .int x14), (8, .int (1 : Int32))]) [4, 5, 7, 3, 2, 1, 0] rfl ?_
      refine l_X8_numberRow_70 (bc := 0) (bs := 0) (by omega) t a1 a4 v1 v6 x14 _ (1 : Int32) h _ eo24 ?_
      refine tq_iconst (M := mX8_numberRow) (pc := 137) dX8_numberRow_137 tk_ki_1 ?_
      refine tq_zret (M := mX8_numberRow) (pc := 138) dX8_numberRow_138 rfl (Or.inr rfl) ?_
      cases (Option.some.inj hf)
      exact hQ _ _ ⟨rfl, rfl⟩
    · have hf := tq_ifn hf cc
      refine tq_iload (M := mX8_numberRow) (pc := 58) dX8_numberRow_58 rfl ?_
      refine tq_iload (M := mX8_numberRow) (pc := 60) dX8_numberRow_60 rfl ?_
      refine tq_icmp_gt (M := mX8_numberRow) (pc := 62) (tgt := 67) dX8_numberRow_62 (by decide) (fun cc => ?_) (fun cc => ?_)
      · have hf := tq_ifp hf cc
        refine tq_iconst (M := mX8_numberRow) (pc := 67) dX8_numberRow_67 tk_ki_1 ?_
        refine tq_istore (M := mX8_numberRow) (pc := 68) dX8_numberRow_68 (L2 := [(8, .int (1 : Int32)), (7, .int x14), (6, .int v6), (5, .int v1), (0, .ref t), (1, .long a1), (3, .int a3), (4, .int a4)]) (by decide) rfl ?_
        obtain ⟨o34, eo34, hf⟩ := tq_be hf
        refine tq_pick (L2 := [(0, .ref t), (1, .long a1), (4, .int a4), (5, .int v1), (6, .int v6), (7, .int x14), (8, .int (1 : Int32))]) [4, 5, 7, 3, 2, 1, 0] rfl ?_
        refine l_X8_numberRow_70_2 (bc := 0) (bs := 0) (by omega) t a1 a4 v1 v6 x14 _ (1 : Int32) h _ eo34 ?_
        refine tq_iconst (M := mX8_numberRow) (pc := 137) dX8_numberRow_137 tk_ki_1 ?_
        refine tq_zret (M := mX8_numberRow) (pc := 138) dX8_numberRow_138 rfl (Or.inr rfl) ?_
        cases (Option.some.inj hf)
        exact hQ _ _ ⟨rfl, rfl⟩
      · have hf := tq_ifn hf cc
        refine tq_iconst (M := mX8_numberRow) (pc := 65) dX8_numberRow_65 tk_ki_0 ?_
        refine tq_zret (M := mX8_numberRow) (pc := 66) dX8_numberRow_66 rfl (Or.inl rfl) ?_
        cases (Option.some.inj hf)
        exact hQ _ _ ⟨rfl, rfl⟩
  · have hf := tq_ifn hf cc
    refine tq_iconst (M := mX8_numberRow) (pc := 12) dX8_numberRow_12 tk_ki_1 ?_
    refine tq_zret (M := mX8_numberRow) (pc := 13) dX8_numberRow_13 rfl (Or.inr rfl) ?_
    cases (Option.some.inj hf)
    exact hQ _ _ ⟨rfl, rfl⟩
abbrev mX8_numberFresh : tq_M := (RX8, cX8_numberFresh, 7, (some .boolean), false, [], none)
def f_X8_numberFresh_b30 (i0 : Nat) (i3 : Int64) (s : Int32 × Int32 × tq_H) : Option ((Int32 × Int32 × tq_H) ⊕ ((Int32 × tq_H) ⊕ (Int32 × tq_H))) := match s with
  | (y5, y6, hh) =>
    (tq_gr hh i0 8 0).bind fun k11 =>
    (tq_is hh k11 3).bind fun _ =>
    (f_X3_count k11 hh).bind fun v12 =>
    if y6 ≥ v12 then
      some (.inr (.inl (y5, hh)))
    else
      (tq_gr hh i0 8 0).bind fun k14 =>
      (tq_is hh k14 3).bind fun _ =>
      (f_X3_solids k14 hh).bind fun v15 =>
      (f_X0_holds (v15 &&& (i3 ^^^ (-1 : Int64))) y6 hh).bind fun v17 =>
      if v17 = 0 then
        tq_let (y6 + (1 : Int32)) fun x18 =>
        some (.inl (y5, x18, hh))
      else
        (f_X0_below y6 hh).bind fun v19 =>
        (f_X0_below y5 hh).bind fun v20 =>
        (tq_is hh i0 8).bind fun _ =>
        (f_X8_numberRow i0 ((i3 &&& v19) &&& (v20 ^^^ (-1 : Int64))) y5 y6 hh).bind fun v21 =>
        if v21.1 = 0 then
          some (.inr (.inr ((0 : Int32), v21.2)))
        else
          tq_let (y6 + (1 : Int32)) fun x23 =>
          some (.inl (y6, x23, v21.2))
def f_X8_numberFresh (t : Nat) (a1 : Int64) (h : tq_H) : Option (Int32 × tq_H) :=
  (tq_gr h t 8 0).bind fun k1 =>
  (tq_gr h t 8 0).bind fun k2 =>
  (tq_is h k2 3).bind fun _ =>
  (f_X3_spotsOf k2 a1 h).bind fun v3 =>
  (tq_is h k1 3).bind fun _ =>
  (f_X3_spread k1 v3 h).bind fun v5 =>
  (tq_gr h t 8 0).bind fun k7 =>
  (tq_is h k7 3).bind fun _ =>
  (f_X3_solids k7 h).bind fun v8 =>
  tq_let ((v5 &&& v8)) fun x10 =>
  (tq_loop (f_X8_numberFresh_b30 t x10) tq_N ((0 : Int32), (0 : Int32), h)).bind fun o24 => match o24 with
  | .inl o24 =>
    (f_X0_below o24.1 o24.2).bind fun v25 =>
    (tq_is o24.2 t 8).bind fun _ =>
    (f_X8_numberRow t (x10 &&& (v25 ^^^ (-1 : Int64))) o24.1 (-1 : Int32) o24.2).bind fun v26 =>
    (tq_bz v26.1).bind fun z28 =>
    some (z28, v26.2)
  | .inr e9 =>
    some e9
set_option maxHeartbeats 4000000 in
theorem l_X8_numberFresh_30 {l : Launch} {d : Nat} {Q : tq_R → tq_H → Prop} {bc bs : Nat} (hd9 : 5 ≤ d) (i0 : Nat) (i3 : Int64) : ∀ (n : Nat) (y5 : Int32) (y6 : Int32) (hh : tq_H) (o : (Int32 × tq_H) ⊕ (Int32 × tq_H)), tq_loop (f_X8_numberFresh_b30 i0 i3) n (y5, y6, hh) = some o → (match o with
    | .inl e9 => tq_W l mX8_numberFresh d bc bs Q 103 [(0, .ref i0), (3, .long i3), (5, .int e9.1)] [] e9.2
    | .inr e9 => (∀ r h9, r = .inl (some (.int e9.1)) ∧ e9.2 = h9 → Q r h9)) → tq_W l mX8_numberFresh d bc bs Q 30 [(0, .ref i0), (3, .long i3), (5, .int y5), (6, .int y6)] [] hh := by
  intro n
  induction n with
  | zero => intro y5 y6 hh o hl; cases hl
  | succ n ih =>
    intro y5 y6 hh o hl hk
    obtain ⟨oo, hf, ho⟩ := tq_loop_s hl
    refine tq_iload (M := mX8_numberFresh) (pc := 30) dX8_numberFresh_30 rfl ?_
    refine tq_aload_n (M := mX8_numberFresh) (pc := 32) dX8_numberFresh_32 rfl ?_
    obtain ⟨k11, ek11, hf⟩ := tq_be hf
    refine tq_getR (M := mX8_numberFresh) (pc := 33) tk_c8 (by decide) dX8_numberFresh_33 tk_RX8_12 rfl ek11 ?_
    obtain ⟨⟨⟩, eu13, hf⟩ := tq_be hf
    obtain ⟨fsu13, eu13⟩ := tq_is_s eu13
    obtain ⟨v12, ev12, hf⟩ := tq_be hf
    refine tq_calV (M := mX8_numberFresh) (pc := 36) (S := [.int y6]) tk_y_X3_count tk_v_X3_count tk_RX8_93 dX8_numberFresh_36 [] rfl (S0 := _) rfl eu13 rfl (Nat.le_of_ble_eq_true rfl) (d1 := d - 1) (b1 := 0) (s1 := 0) (bc' := bc) (bs' := bs) (Q1 := fun r h9 => r = .inl (some (.int v12)) ∧ hh = h9) (by omega) (by omega) (by omega) (w_X3_count (by omega) ev12 (fun _ _ q => q)) (fun E h9 q => nomatch (show (Sum.inr E : tq_R) = Sum.inl _ from q.1)) (fun r9 h9 q => ?_)
    obtain ⟨q1, rfl⟩ := q
    cases (show (Sum.inl r9 : tq_R) = Sum.inl (some (.int v12)) from q1)
    refine tq_icmp_ge (M := mX8_numberFresh) (pc := 39) (tgt := 103) dX8_numberFresh_39 (by decide) (fun cc => ?_) (fun cc => ?_)
    · have hf := tq_ifp hf cc
      refine tq_pick (L2 := [(0, .ref i0), (3, .long i3), (5, .int y5)]) [0, 1, 2] rfl ?_
      cases (Option.some.inj hf)
      cases (tq_lx ho)
      exact hk
    · have hf := tq_ifn hf cc
      refine tq_aload_n (M := mX8_numberFresh) (pc := 42) dX8_numberFresh_42 rfl ?_
      obtain ⟨k14, ek14, hf⟩ := tq_be hf
      refine tq_getR (M := mX8_numberFresh) (pc := 43) tk_c8 (by decide) dX8_numberFresh_43 tk_RX8_12 rfl ek14 ?_
      obtain ⟨⟨⟩, eu16, hf⟩ := tq_be hf
      obtain ⟨fsu16, eu16⟩ := tq_is_s eu16
      obtain ⟨v15, ev15, hf⟩ := tq_be hf
      refine tq_calV (M := mX8_numberFresh) (pc := 46) (S := []) tk_y_X3_solids tk_v_X3_solids tk_RX8_130 dX8_numberFresh_46 [] rfl (S0 := _) rfl eu16 rfl (Nat.le_of_ble_eq_true rfl) (d1 := d - 1) (b1 := 0) (s1 := 0) (bc' := bc) (bs' := bs) (Q1 := fun r h9 => r = .inl (some (.long v15)) ∧ hh = h9) (by omega) (by omega) (by omega) (w_X3_solids (by omega) ev15 (fun _ _ q => q)) (fun E h9 q => nomatch (show (Sum.inr E : tq_R) = Sum.inl _ from q.1)) (fun r9 h9 q => ?_)
      obtain ⟨q1, rfl⟩ := q
      cases (show (Sum.inl r9 : tq_R) = Sum.inl (some (.long v15)) from q1)
      refine tq_lload_n (M := mX8_numberFresh) (pc := 49) dX8_numberFresh_49 rfl ?_
      refine tq_ldc2 (M := mX8_numberFresh) (pc := 50) dX8_numberFresh_50 tk_RX8_140 ?_
      refine tq_lxor (M := mX8_numberFresh) (pc := 53) dX8_numberFresh_53 ?_
      refine tq_land (M := mX8_numberFresh) (pc := 54) dX8_numberFresh_54 ?_
      refine tq_iload (M := mX8_numberFresh) (pc := 55) dX8_numberFresh_55 rfl ?_
      obtain ⟨v17, ev17, hf⟩ := tq_be hf
      refine tq_calS (M := mX8_numberFresh) (pc := 57) (S := []) tk_y_X0_holds tk_s_X0_holds tk_RX8_114 dX8_numberFresh_57 [.long ((v15 &&& (i3 ^^^ (-1 : Int64)))), .int y6] rfl (Nat.le_of_ble_eq_true rfl) (d1 := d - 1) (b1 := 0) (s1 := 0) (bc' := bc) (bs' := bs) (Q1 := fun r h9 => r = .inl (some (.int v17)) ∧ hh = h9) (by omega) (by omega) (by omega) (w_X0_holds (by omega) ev17 (fun _ _ q => q)) (fun E h9 q => nomatch (show (Sum.inr E : tq_R) = Sum.inl _ from q.1)) (fun r9 h9 q => ?_)
      obtain ⟨q1, rfl⟩ := q
      cases (show (Sum.inl r9 : tq_R) = Sum.inl (some (.int v17)) from q1)
      refine tq_if_eq (M := mX8_numberFresh) (pc := 60) (tgt := 97) dX8_numberFresh_60 (by decide) (fun cc => ?_) (fun cc => ?_)
      · have hf := tq_ifp hf cc
        obtain ⟨x18, ex18, hf⟩ := tq_le hf
        refine tq_iinc (M := mX8_numberFresh) (pc := 97) (v := x18) (L2 := [(6, .int x18), (0, .ref i0), (3, .long i3), (5, .int y5)]) dX8_numberFresh_97 rfl (by rw [ex18, tk_ki_1]) (by decide) rfl ?_
        refine tq_goto (M := mX8_numberFresh) (pc := 100) (tgt := 30) dX8_numberFresh_100 (by decide) ?_
        refine tq_pick (L2 := [(0, .ref i0), (3, .long i3), (5, .int y5), (6, .int x18)]) [1, 2, 3, 0] rfl ?_
        cases (Option.some.inj hf)
        exact ih _ _ _ o (tq_lc ho) hk
      · have hf := tq_ifn hf cc
        refine tq_aload_n (M := mX8_numberFresh) (pc := 63) dX8_numberFresh_63 rfl ?_
        refine tq_lload_n (M := mX8_numberFresh) (pc := 64) dX8_numberFresh_64 rfl ?_
        refine tq_iload (M := mX8_numberFresh) (pc := 65) dX8_numberFresh_65 rfl ?_
        obtain ⟨v19, ev19, hf⟩ := tq_be hf
        refine tq_calS (M := mX8_numberFresh) (pc := 67) (S := [.long i3, .ref i0]) tk_y_X0_below tk_s_X0_below tk_RX8_142 dX8_numberFresh_67 [.int y6] rfl (Nat.le_of_ble_eq_true rfl) (d1 := d - 1) (b1 := 0) (s1 := 0) (bc' := bc) (bs' := bs) (Q1 := fun r h9 => r = .inl (some (.long v19)) ∧ hh = h9) (by omega) (by omega) (by omega) (w_X0_below (by omega) ev19 (fun _ _ q => q)) (fun E h9 q => nomatch (show (Sum.inr E : tq_R) = Sum.inl _ from q.1)) (fun r9 h9 q => ?_)
        obtain ⟨q1, rfl⟩ := q
        cases (show (Sum.inl r9 : tq_R) = Sum.inl (some (.long v19)) from q1)
        refine tq_land (M := mX8_numberFresh) (pc := 70) dX8_numberFresh_70 ?_
        refine tq_iload (M := mX8_numberFresh) (pc := 71) dX8_numberFresh_71 rfl ?_
        obtain ⟨v20, ev20, hf⟩ := tq_be hf
        refine tq_calS (M := mX8_numberFresh) (pc := 73) (S := [.long ((i3 &&& v19)), .ref i0]) tk_y_X0_below tk_s_X0_below tk_RX8_142 dX8_numberFresh_73 [.int y5] rfl (Nat.le_of_ble_eq_true rfl) (d1 := d - 1) (b1 := 0) (s1 := 0) (bc' := bc) (bs' := bs) (Q1 := fun r h9 => r = .inl (some (.long v20)) ∧ hh = h9) (by omega) (by omega) (by omega) (w_X0_below (by omega) ev20 (fun _ _ q => q)) (fun E h9 q => nomatch (show (Sum.inr E : tq_R) = Sum.inl _ from q.1)) (fun r9 h9 q => ?_)
        obtain ⟨q1, rfl⟩ := q
        cases (show (Sum.inl r9 : tq_R) = Sum.inl (some (.long v20)) from q1)
        refine tq_ldc2 (M := mX8_numberFresh) (pc := 76) dX8_numberFresh_76 tk_RX8_140 ?_
        refine tq_lxor (M := mX8_numberFresh) (pc := 79) dX8_numberFresh_79 ?_
        refine tq_land (M := mX8_numberFresh) (pc := 80) dX8_numberFresh_80 ?_
        refine tq_iload (M := mX8_numberFresh) (pc := 81) dX8_numberFresh_81 rfl ?_
        refine tq_iload (M := mX8_numberFresh) (pc := 83) dX8_numberFresh_83 rfl ?_
        obtain ⟨⟨⟩, eu22, hf⟩ := tq_be hf
        obtain ⟨fsu22, eu22⟩ := tq_is_s eu22
        obtain ⟨v21, ev21, hf⟩ := tq_be hf
        refine tq_calV (M := mX8_numberFresh) (pc := 85) (S := []) tk_y_X8_numberRow tk_v_X8_numberRow tk_RX8_143 dX8_numberFresh_85 [.long (((i3 &&& v19) &&& (v20 ^^^ (-1 : Int64)))), .int y5, .int y6] rfl (S0 := _) rfl eu22 rfl (Nat.le_of_ble_eq_true rfl) (d1 := d - 1) (b1 := 0) (s1 := 0) (bc' := bc) (bs' := bs) (Q1 := fun r h9 => r = .inl (some (.int v21.1)) ∧ v21.2 = h9) (by omega) (by omega) (by omega) (w_X8_numberRow (by omega) ev21 (fun _ _ q => q)) (fun E h9 q => nomatch (show (Sum.inr E : tq_R) = Sum.inl _ from q.1)) (fun r9 h9 q => ?_)
        obtain ⟨q1, rfl⟩ := q
        cases (show (Sum.inl r9 : tq_R) = Sum.inl (some (.int v21.1)) from q1)
        refine tq_if_ne (M := mX8_numberFresh) (pc := 88) (tgt := 93) dX8_numberFresh_88 (by decide) (fun cc => ?_) (fun cc => ?_)
        · have hf := tq_ifn hf cc
          refine tq_iload (M := mX8_numberFresh) (pc := 93) dX8_numberFresh_93 rfl ?_
          refine tq_istore (M := mX8_numberFresh) (pc := 95) dX8_numberFresh_95 (L2 := [(5, .int y6), (0, .ref i0), (3, .long i3), (6, .int y6)]) (by decide) rfl ?_
          obtain ⟨x23, ex23, hf⟩ := tq_le hf
          refine tq_iinc (M := mX8_numberFresh) (pc := 97) (v := x23) (L2 := [(6, .int x23), (5, .int y6), (0, .ref i0), (3, .long i3)]) dX8_numberFresh_97 rfl (by rw [ex23, tk_ki_1]) (by decide) rfl ?_
          refine tq_goto (M := mX8_numberFresh) (pc := 100) (tgt := 30) dX8_numberFresh_100 (by decide) ?_
          refine tq_pick (L2 := [(0, .ref i0), (3, .long i3), (5, .int y6), (6, .int x23)]) [2, 3, 1, 0] rfl ?_
          cases (Option.some.inj hf)
          exact ih _ _ _ o (tq_lc ho) hk
        · have hf := tq_ifp hf cc
          refine tq_iconst (M := mX8_numberFresh) (pc := 91) dX8_numberFresh_91 tk_ki_0 ?_
          refine tq_zret (M := mX8_numberFresh) (pc := 92) dX8_numberFresh_92 rfl (Or.inl rfl) ?_
          cases (Option.some.inj hf)
          cases (tq_lx ho)
          exact hk _ _ ⟨rfl, rfl⟩
set_option maxHeartbeats 4000000 in
set_option maxRecDepth 20000 in
theorem w_X8_numberFresh {l : Launch} {d : Nat} (hd9 : 5 ≤ d) {t : Nat} {a1 : Int64} {h : tq_H} {o : Int32 × tq_H} {Q : tq_R → tq_H → Prop} (hf : f_X8_numberFresh t a1 h = some o) (hQ : ∀ r h9, r = .inl (some (.int o.1)) ∧ o.2 = h9 → Q r h9) : tq_C l yX8_numberFresh cX8_numberFresh 7 (some .boolean) d 0 0 [.ref t, .long a1] h Q := by
  refine tq_body (y := yX8_numberFresh) false (by decide +kernel) (fun z => by cases z) (Nat.le_of_ble_eq_true rfl) ?_
  show tq_W l mX8_numberFresh d 0 0 Q 0 [(0, .ref t), (1, .long a1)] [] h
  refine tq_aload_n (M := mX8_numberFresh) (pc := 0) dX8_numberFresh_0 rfl ?_
  obtain ⟨k1, ek1, hf⟩ := tq_be hf
  refine tq_getR (M := mX8_numberFresh) (pc := 1) tk_c8 (by decide) dX8_numberFresh_1 tk_RX8_12 rfl ek1 ?_
  refine tq_aload_n (M := mX8_numberFresh) (pc := 4) dX8_numberFresh_4 rfl ?_
  obtain ⟨k2, ek2, hf⟩ := tq_be hf
  refine tq_getR (M := mX8_numberFresh) (pc := 5) tk_c8 (by decide) dX8_numberFresh_5 tk_RX8_12 rfl ek2 ?_
  refine tq_lload_n (M := mX8_numberFresh) (pc := 8) dX8_numberFresh_8 rfl ?_
  obtain ⟨⟨⟩, eu4, hf⟩ := tq_be hf
  obtain ⟨fsu4, eu4⟩ := tq_is_s eu4
  obtain ⟨v3, ev3, hf⟩ := tq_be hf
  refine tq_calV (M := mX8_numberFresh) (pc := 9) (S := [.ref k1]) tk_y_X3_spotsOf tk_v_X3_spotsOf tk_RX8_133 dX8_numberFresh_9 [.long a1] rfl (S0 := _) rfl eu4 rfl (Nat.le_of_ble_eq_true rfl) (d1 := d - 1) (b1 := 0) (s1 := 0) (bc' := 0) (bs' := 0) (Q1 := fun r h9 => r = .inl (some (.long v3)) ∧ h = h9) (by omega) rfl rfl (w_X3_spotsOf (by omega) ev3 (fun _ _ q => q)) (fun E h9 q => nomatch (show (Sum.inr E : tq_R) = Sum.inl _ from q.1)) (fun r9 h9 q => ?_)
  obtain ⟨q1, rfl⟩ := q
  cases (show (Sum.inl r9 : tq_R) = Sum.inl (some (.long v3)) from q1)
  obtain ⟨⟨⟩, eu6, hf⟩ := tq_be hf
  obtain ⟨fsu6, eu6⟩ := tq_is_s eu6
  obtain ⟨v5, ev5, hf⟩ := tq_be hf
  refine tq_calV (M := mX8_numberFresh) (pc := 12) (S := []) tk_y_X3_spread tk_v_X3_spread tk_RX8_137 dX8_numberFresh_12 [.long v3] rfl (S0 := _) rfl eu6 rfl (Nat.le_of_ble_eq_true rfl) (d1 := d - 1) (b1 := 0) (s1 := 0) (bc' := 0) (bs' := 0) (Q1 := fun r h9 => r = .inl (some (.long v5)) ∧ h = h9) (by omega) rfl rfl (w_X3_spread (by omega) ev5 (fun _ _ q => q)) (fun E h9 q => nomatch (show (Sum.inr E : tq_R) = Sum.inl _ from q.1)) (fun r9 h9 q => ?_)
  obtain ⟨q1, rfl⟩ := q
  cases (show (Sum.inl r9 : tq_R) = Sum.inl (some (.long v5)) from q1)
  refine tq_aload_n (M := mX8_numberFresh) (pc := 15) dX8_numberFresh_15 rfl ?_
  obtain ⟨k7, ek7, hf⟩ := tq_be hf
  refine tq_getR (M := mX8_numberFresh) (pc := 16) tk_c8 (by decide) dX8_numberFresh_16 tk_RX8_12 rfl ek7 ?_
  obtain ⟨⟨⟩, eu9, hf⟩ := tq_be hf
  obtain ⟨fsu9, eu9⟩ := tq_is_s eu9
  obtain ⟨v8, ev8, hf⟩ := tq_be hf
  refine tq_calV (M := mX8_numberFresh) (pc := 19) (S := [.long v5]) tk_y_X3_solids tk_v_X3_solids tk_RX8_130 dX8_numberFresh_19 [] rfl (S0 := _) rfl eu9 rfl (Nat.le_of_ble_eq_true rfl) (d1 := d - 1) (b1 := 0) (s1 := 0) (bc' := 0) (bs' := 0) (Q1 := fun r h9 => r = .inl (some (.long v8)) ∧ h = h9) (by omega) rfl rfl (w_X3_solids (by omega) ev8 (fun _ _ q => q)) (fun E h9 q => nomatch (show (Sum.inr E : tq_R) = Sum.inl _ from q.1)) (fun r9 h9 q => ?_)
  obtain ⟨q1, rfl⟩ := q
  cases (show (Sum.inl r9 : tq_R) = Sum.inl (some (.long v8)) from q1)
  refine tq_land (M := mX8_numberFresh) (pc := 22) dX8_numberFresh_22 ?_
  obtain ⟨x10, ex10, hf⟩ := tq_le hf
  refine tq_lstore_n (M := mX8_numberFresh) (pc := 23) rfl dX8_numberFresh_23 (L2 := [(3, .long x10), (0, .ref t), (1, .long a1)]) (by decide) (by rw [ex10]; rfl) ?_
  refine tq_iconst (M := mX8_numberFresh) (pc := 24) dX8_numberFresh_24 tk_ki_0 ?_
  refine tq_istore (M := mX8_numberFresh) (pc := 25) dX8_numberFresh_25 (L2 := [(5, .int (0 : Int32)), (3, .long x10), (0, .ref t), (1, .long a1)]) (by decide) rfl ?_
  refine tq_iconst (M := mX8_numberFresh) (pc := 27) dX8_numberFresh_27 tk_ki_0 ?_
  refine tq_istore (M := mX8_numberFresh) (pc := 28) dX8_numberFresh_28 (L2 := [(6, .int (0 : Int32)), (5, .int (0 : Int32)), (3, .long x10), (0, .ref t), (1, .long a1)]) (by decide) rfl ?_
  obtain ⟨o24, eo24, hf⟩ := tq_be hf
  refine tq_pick (L2 := [(0, .ref t), (3, .long x10), (5, .int (0 : Int32)), (6, .int (0 : Int32))]) [3, 2, 1, 0] rfl ?_
  refine l_X8_numberFresh_30 (bc := 0) (bs := 0) (by omega) t x10 _ (0 : Int32) (0 : Int32) h _ eo24 ?_
  cases o24 with
  | inl o24 =>
    refine tq_aload_n (M := mX8_numberFresh) (pc := 103) dX8_numberFresh_103 rfl ?_
    refine tq_lload_n (M := mX8_numberFresh) (pc := 104) dX8_numberFresh_104 rfl ?_
    refine tq_iload (M := mX8_numberFresh) (pc := 105) dX8_numberFresh_105 rfl ?_
    obtain ⟨v25, ev25, hf⟩ := tq_be hf
    refine tq_calS (M := mX8_numberFresh) (pc := 107) (S := [.long x10, .ref t]) tk_y_X0_below tk_s_X0_below tk_RX8_142 dX8_numberFresh_107 [.int o24.1] rfl (Nat.le_of_ble_eq_true rfl) (d1 := d - 1) (b1 := 0) (s1 := 0) (bc' := 0) (bs' := 0) (Q1 := fun r h9 => r = .inl (some (.long v25)) ∧ o24.2 = h9) (by omega) rfl rfl (w_X0_below (by omega) ev25 (fun _ _ q => q)) (fun E h9 q => nomatch (show (Sum.inr E : tq_R) = Sum.inl _ from q.1)) (fun r9 h9 q => ?_)
    obtain ⟨q1, rfl⟩ := q
    cases (show (Sum.inl r9 : tq_R) = Sum.inl (some (.long v25)) from q1)
    refine tq_ldc2 (M := mX8_numberFresh) (pc := 110) dX8_numberFresh_110 tk_RX8_140 ?_
    refine tq_lxor (M := mX8_numberFresh) (pc := 113) dX8_numberFresh_113 ?_
    refine tq_land (M := mX8_numberFresh) (pc := 114) dX8_numberFresh_114 ?_
    refine tq_iload (M := mX8_numberFresh) (pc := 115) dX8_numberFresh_115 rfl ?_
    refine tq_iconst (M := mX8_numberFresh) (pc := 117) dX8_numberFresh_117 tk_ki_m1 ?_
    obtain ⟨⟨⟩, eu27, hf⟩ := tq_be hf
    obtain ⟨fsu27, eu27⟩ := tq_is_s eu27
    obtain ⟨v26, ev26, hf⟩ := tq_be hf
    refine tq_calV (M := mX8_numberFresh) (pc := 118) (S := []) tk_y_X8_numberRow tk_v_X8_numberRow tk_RX8_143 dX8_numberFresh_118 [.long ((x10 &&& (v25 ^^^ (-1 : Int64)))), .int o24.1, .int (-1 : Int32)] rfl (S0 := _) rfl eu27 rfl (Nat.le_of_ble_eq_true rfl) (d1 := d - 1) (b1 := 0) (s1 := 0) (bc' := 0) (bs' := 0) (Q1 := fun r h9 => r = .inl (some (.int v26.1)) ∧ v26.2 = h9) (by omega) rfl rfl (w_X8_numberRow (by omega) ev26 (fun _ _ q => q)) (fun E h9 q => nomatch (show (Sum.inr E : tq_R) = Sum.inl _ from q.1)) (fun r9 h9 q => ?_)
    obtain ⟨q1, rfl⟩ := q
    cases (show (Sum.inl r9 : tq_R) = Sum.inl (some (.int v26.1)) from q1)
    obtain ⟨z28, ez28, hf⟩ := tq_be hf
    refine tq_zretB (M := mX8_numberFresh) (pc := 121) dX8_numberFresh_121 rfl ez28 ?_
    cases (Option.some.inj hf)
    exact hQ _ _ ⟨rfl, rfl⟩
  | inr e9 =>
    cases (Option.some.inj hf)
    exact hQ
abbrev mX8_textsWorth : tq_M := (RX8, cX8_textsWorth, 5, (some .long), false, [], none)
def f_X8_textsWorth_b5 (i0 : Nat) (i1 : Int32) (hh : tq_H) (s : Int64 × Int32) : Option ((Int64 × Int32) ⊕ (Int64)) := match s with
  | (y2, y4) =>
    (tq_gr hh i0 8 0).bind fun k1 =>
    (tq_is hh k1 3).bind fun _ =>
    (f_X3_count k1 hh).bind fun v2 =>
    if y4 ≥ v2 then
      some (.inr y2)
    else
      (tq_gr hh i0 8 0).bind fun k4 =>
      (tq_is hh k4 3).bind fun _ =>
      (f_X3_passing k4 (9 : Int32) hh).bind fun v5 =>
      (f_X0_holds v5 y4 hh).bind fun v7 =>
      (if v7 = 0 then
        some y2
      else
        (tq_gr hh i0 8 3).bind fun k8 =>
        (tq_gr hh i0 8 0).bind fun k9 =>
        (tq_is hh k9 3).bind fun _ =>
        (f_X3_nodeAt k9 y4 hh).bind fun v10 =>
        (tq_is hh k8 5).bind fun _ =>
        (f_X5_get k8 v10 hh).bind fun v12 =>
        if v12 = i1 then
          (f_X0_one y4 hh).bind fun v14 =>
          tq_let ((y2 ||| v14)) fun x15 =>
          some x15
        else
          some y2).bind fun p16 =>
      tq_let (y4 + (1 : Int32)) fun x17 =>
      some (.inl (p16, x17))
def f_X8_textsWorth (t : Nat) (a1 : Int32) (h : tq_H) : Option (Int64) :=
  (tq_loop (f_X8_textsWorth_b5 t a1 h) tq_N ((0 : Int64), (0 : Int32))).bind fun o18 =>
  some o18
set_option maxHeartbeats 4000000 in
theorem l_X8_textsWorth_5 {l : Launch} {d : Nat} {Q : tq_R → tq_H → Prop} {bc bs : Nat} (hd9 : 2 ≤ d) (i0 : Nat) (i1 : Int32) (hh : tq_H) : ∀ (n : Nat) (y2 : Int64) (y4 : Int32) (o : Int64), tq_loop (f_X8_textsWorth_b5 i0 i1 hh) n (y2, y4) = some o → tq_W l mX8_textsWorth d bc bs Q 68 [(2, .long o)] [] hh → tq_W l mX8_textsWorth d bc bs Q 5 [(0, .ref i0), (1, .int i1), (2, .long y2), (4, .int y4)] [] hh := by
  intro n
  induction n with
  | zero => intro y2 y4 o hl; cases hl
  | succ n ih =>
    intro y2 y4 o hl hk
    obtain ⟨oo, hf, ho⟩ := tq_loop_s hl
    refine tq_iload (M := mX8_textsWorth) (pc := 5) dX8_textsWorth_5 rfl ?_
    refine tq_aload_n (M := mX8_textsWorth) (pc := 7) dX8_textsWorth_7 rfl ?_
    obtain ⟨k1, ek1, hf⟩ := tq_be hf
    refine tq_getR (M := mX8_textsWorth) (pc := 8) tk_c8 (by decide) dX8_textsWorth_8 tk_RX8_12 rfl ek1 ?_
    obtain ⟨⟨⟩, eu3, hf⟩ := tq_be hf
    obtain ⟨fsu3, eu3⟩ := tq_is_s eu3
    obtain ⟨v2, ev2, hf⟩ := tq_be hf
    refine tq_calV (M := mX8_textsWorth) (pc := 11) (S := [.int y4]) tk_y_X3_count tk_v_X3_count tk_RX8_93 dX8_textsWorth_11 [] rfl (S0 := _) rfl eu3 rfl (Nat.le_of_ble_eq_true rfl) (d1 := d - 1) (b1 := 0) (s1 := 0) (bc' := bc) (bs' := bs) (Q1 := fun r h9 => r = .inl (some (.int v2)) ∧ hh = h9) (by omega) (by omega) (by omega) (w_X3_count (by omega) ev2 (fun _ _ q => q)) (fun E h9 q => nomatch (show (Sum.inr E : tq_R) = Sum.inl _ from q.1)) (fun r9 h9 q => ?_)
    obtain ⟨q1, rfl⟩ := q
    cases (show (Sum.inl r9 : tq_R) = Sum.inl (some (.int v2)) from q1)
    refine tq_icmp_ge (M := mX8_textsWorth) (pc := 14) (tgt := 68) dX8_textsWorth_14 (by decide) (fun cc => ?_) (fun cc => ?_)
    · have hf := tq_ifp hf cc
      refine tq_pick (L2 := [(2, .long y2)]) [2] rfl ?_
      cases (Option.some.inj hf)
      cases (tq_lx ho)
      exact hk
    · have hf := tq_ifn hf cc
      refine tq_aload_n (M := mX8_textsWorth) (pc := 17) dX8_textsWorth_17 rfl ?_
      obtain ⟨k4, ek4, hf⟩ := tq_be hf
      refine tq_getR (M := mX8_textsWorth) (pc := 18) tk_c8 (by decide) dX8_textsWorth_18 tk_RX8_12 rfl ek4 ?_
      refine tq_bipush (M := mX8_textsWorth) (pc := 21) dX8_textsWorth_21 tk_kb_9 ?_
      obtain ⟨⟨⟩, eu6, hf⟩ := tq_be hf
      obtain ⟨fsu6, eu6⟩ := tq_is_s eu6
      obtain ⟨v5, ev5, hf⟩ := tq_be hf
      refine tq_calV (M := mX8_textsWorth) (pc := 23) (S := []) tk_y_X3_passing tk_v_X3_passing tk_RX8_101 dX8_textsWorth_23 [.int (9 : Int32)] rfl (S0 := _) rfl eu6 rfl (Nat.le_of_ble_eq_true rfl) (d1 := d - 1) (b1 := 0) (s1 := 0) (bc' := bc) (bs' := bs) (Q1 := fun r h9 => r = .inl (some (.long v5)) ∧ hh = h9) (by omega) (by omega) (by omega) (w_X3_passing (by omega) ev5 (fun _ _ q => q)) (fun E h9 q => nomatch (show (Sum.inr E : tq_R) = Sum.inl _ from q.1)) (fun r9 h9 q => ?_)
      obtain ⟨q1, rfl⟩ := q
      cases (show (Sum.inl r9 : tq_R) = Sum.inl (some (.long v5)) from q1)
      refine tq_iload (M := mX8_textsWorth) (pc := 26) dX8_textsWorth_26 rfl ?_
      obtain ⟨v7, ev7, hf⟩ := tq_be hf
      refine tq_calS (M := mX8_textsWorth) (pc := 28) (S := []) tk_y_X0_holds tk_s_X0_holds tk_RX8_114 dX8_textsWorth_28 [.long v5, .int y4] rfl (Nat.le_of_ble_eq_true rfl) (d1 := d - 1) (b1 := 0) (s1 := 0) (bc' := bc) (bs' := bs) (Q1 := fun r h9 => r = .inl (some (.int v7)) ∧ hh = h9) (by omega) (by omega) (by omega) (w_X0_holds (by omega) ev7 (fun _ _ q => q)) (fun E h9 q => nomatch (show (Sum.inr E : tq_R) = Sum.inl _ from q.1)) (fun r9 h9 q => ?_)
      obtain ⟨q1, rfl⟩ := q
      cases (show (Sum.inl r9 : tq_R) = Sum.inl (some (.int v7)) from q1)
      obtain ⟨p16, ep16, hf⟩ := tq_be hf
      have HJ31 : tq_W l mX8_textsWorth d bc bs Q 62 [(0, .ref i0), (1, .int i1), (2, .long p16), (4, .int y4)] [] hh := by
        obtain ⟨x17, ex17, hf⟩ := tq_le hf
        refine tq_iinc (M := mX8_textsWorth) (pc := 62) (v := x17) (L2 := [(4, .int x17), (0, .ref i0), (1, .int i1), (2, .long p16)]) dX8_textsWorth_62 rfl (by rw [ex17, tk_ki_1]) (by decide) rfl ?_
        refine tq_goto (M := mX8_textsWorth) (pc := 65) (tgt := 5) dX8_textsWorth_65 (by decide) ?_
        refine tq_pick (L2 := [(0, .ref i0), (1, .int i1), (2, .long p16), (4, .int x17)]) [1, 2, 3, 0] rfl ?_
        cases (Option.some.inj hf)
        exact ih _ _ o (tq_lc ho) hk
      refine tq_if_eq (M := mX8_textsWorth) (pc := 31) (tgt := 62) dX8_textsWorth_31 (by decide) (fun cc => ?_) (fun cc => ?_)
      · have hf := tq_ifp ep16 cc
        cases (Option.some.inj hf)
        exact HJ31
      · have hf := tq_ifn ep16 cc
        refine tq_aload_n (M := mX8_textsWorth) (pc := 34) dX8_textsWorth_34 rfl ?_
        obtain ⟨k8, ek8, hf⟩ := tq_be hf
        refine tq_getR (M := mX8_textsWorth) (pc := 35) tk_c8 (by decide) dX8_textsWorth_35 tk_RX8_30 rfl ek8 ?_
        refine tq_aload_n (M := mX8_textsWorth) (pc := 38) dX8_textsWorth_38 rfl ?_
        obtain ⟨k9, ek9, hf⟩ := tq_be hf
        refine tq_getR (M := mX8_textsWorth) (pc := 39) tk_c8 (by decide) dX8_textsWorth_39 tk_RX8_12 rfl ek9 ?_
        refine tq_iload (M := mX8_textsWorth) (pc := 42) dX8_textsWorth_42 rfl ?_
        obtain ⟨⟨⟩, eu11, hf⟩ := tq_be hf
        obtain ⟨fsu11, eu11⟩ := tq_is_s eu11
        obtain ⟨v10, ev10, hf⟩ := tq_be hf
        refine tq_calV (M := mX8_textsWorth) (pc := 44) (S := [.ref k8]) tk_y_X3_nodeAt tk_v_X3_nodeAt tk_RX8_120 dX8_textsWorth_44 [.int y4] rfl (S0 := _) rfl eu11 rfl (Nat.le_of_ble_eq_true rfl) (d1 := d - 1) (b1 := 0) (s1 := 0) (bc' := bc) (bs' := bs) (Q1 := fun r h9 => r = .inl (some (.int v10)) ∧ hh = h9) (by omega) (by omega) (by omega) (w_X3_nodeAt (by omega) ev10 (fun _ _ q => q)) (fun E h9 q => nomatch (show (Sum.inr E : tq_R) = Sum.inl _ from q.1)) (fun r9 h9 q => ?_)
        obtain ⟨q1, rfl⟩ := q
        cases (show (Sum.inl r9 : tq_R) = Sum.inl (some (.int v10)) from q1)
        obtain ⟨⟨⟩, eu13, hf⟩ := tq_be hf
        obtain ⟨fsu13, eu13⟩ := tq_is_s eu13
        obtain ⟨v12, ev12, hf⟩ := tq_be hf
        refine tq_calV (M := mX8_textsWorth) (pc := 47) (S := []) tk_y_X5_get tk_v_X5_get tk_RX8_58 dX8_textsWorth_47 [.int v10] rfl (S0 := _) rfl eu13 rfl (Nat.le_of_ble_eq_true rfl) (d1 := d - 1) (b1 := 0) (s1 := 0) (bc' := bc) (bs' := bs) (Q1 := fun r h9 => r = .inl (some (.int v12)) ∧ hh = h9) (by omega) (by omega) (by omega) (w_X5_get (by omega) ev12 (fun _ _ q => q)) (fun E h9 q => nomatch (show (Sum.inr E : tq_R) = Sum.inl _ from q.1)) (fun r9 h9 q => ?_)
        obtain ⟨q1, rfl⟩ := q
        cases (show (Sum.inl r9 : tq_R) = Sum.inl (some (.int v12)) from q1)
        refine tq_iload_n (M := mX8_textsWorth) (pc := 50) dX8_textsWorth_50 rfl ?_
        refine tq_icmp_ne (M := mX8_textsWorth) (pc := 51) (tgt := 62) dX8_textsWorth_51 (by decide) (fun cc => ?_) (fun cc => ?_)
        · have hf := tq_ifn hf cc
          cases (Option.some.inj hf)
          exact HJ31
        · have hf := tq_ifp hf cc
          refine tq_lload_n (M := mX8_textsWorth) (pc := 54) dX8_textsWorth_54 rfl ?_
          refine tq_iload (M := mX8_textsWorth) (pc := 55) dX8_textsWorth_55 rfl ?_
          obtain ⟨v14, ev14, hf⟩ := tq_be hf
          refine tq_calS (M := mX8_textsWorth) (pc := 57) (S := [.long y2]) tk_y_X0_one tk_s_X0_one tk_RX8_147 dX8_textsWorth_57 [.int y4] rfl (Nat.le_of_ble_eq_true rfl) (d1 := d - 1) (b1 := 0) (s1 := 0) (bc' := bc) (bs' := bs) (Q1 := fun r h9 => r = .inl (some (.long v14)) ∧ hh = h9) (by omega) (by omega) (by omega) (w_X0_one (by omega) ev14 (fun _ _ q => q)) (fun E h9 q => nomatch (show (Sum.inr E : tq_R) = Sum.inl _ from q.1)) (fun r9 h9 q => ?_)
          obtain ⟨q1, rfl⟩ := q
          cases (show (Sum.inl r9 : tq_R) = Sum.inl (some (.long v14)) from q1)
          refine tq_lor (M := mX8_textsWorth) (pc := 60) dX8_textsWorth_60 ?_
          obtain ⟨x15, ex15, hf⟩ := tq_le hf
          refine tq_lstore_n (M := mX8_textsWorth) (pc := 61) rfl dX8_textsWorth_61 (L2 := [(2, .long x15), (0, .ref i0), (1, .int i1), (4, .int y4)]) (by decide) (by rw [ex15]; rfl) ?_
          refine tq_pick (L2 := [(0, .ref i0), (1, .int i1), (2, .long x15), (4, .int y4)]) [1, 2, 0, 3] rfl ?_
          cases (Option.some.inj hf)
          exact HJ31
set_option maxHeartbeats 4000000 in
set_option maxRecDepth 20000 in
theorem w_X8_textsWorth {l : Launch} {d : Nat} (hd9 : 2 ≤ d) {t : Nat} {a1 : Int32} {h : tq_H} {o : Int64} {Q : tq_R → tq_H → Prop} (hf : f_X8_textsWorth t a1 h = some o) (hQ : ∀ r h9, r = .inl (some (.long o)) ∧ h = h9 → Q r h9) : tq_C l yX8_textsWorth cX8_textsWorth 5 (some .long) d 0 0 [.ref t, .int a1] h Q := by
  refine tq_body (y := yX8_textsWorth) false (by decide +kernel) (fun z => by cases z) (Nat.le_of_ble_eq_true rfl) ?_
  show tq_W l mX8_textsWorth d 0 0 Q 0 [(0, .ref t), (1, .int a1)] [] h
  refine tq_lconst (M := mX8_textsWorth) (pc := 0) dX8_textsWorth_0 tk_kl_0 ?_
  refine tq_lstore_n (M := mX8_textsWorth) (pc := 1) rfl dX8_textsWorth_1 (L2 := [(2, .long (0 : Int64)), (0, .ref t), (1, .int a1)]) (by decide) rfl ?_
  refine tq_iconst (M := mX8_textsWorth) (pc := 2) dX8_textsWorth_2 tk_ki_0 ?_
  refine tq_istore (M := mX8_textsWorth) (pc := 3) dX8_textsWorth_3 (L2 := [(4, .int (0 : Int32)), (2, .long (0 : Int64)), (0, .ref t), (1, .int a1)]) (by decide) rfl ?_
  obtain ⟨o18, eo18, hf⟩ := tq_be hf
  refine tq_pick (L2 := [(0, .ref t), (1, .int a1), (2, .long (0 : Int64)), (4, .int (0 : Int32))]) [2, 3, 1, 0] rfl ?_
  refine l_X8_textsWorth_5 (bc := 0) (bs := 0) (by omega) t a1 h _ (0 : Int64) (0 : Int32) _ eo18 ?_
  refine tq_lload_n (M := mX8_textsWorth) (pc := 68) dX8_textsWorth_68 rfl ?_
  refine tq_lret (M := mX8_textsWorth) (pc := 69) dX8_textsWorth_69 rfl ?_
  cases (Option.some.inj hf)
  exact hQ _ _ ⟨rfl, rfl⟩
abbrev mX8_isRanked : tq_M := (RX8, cX8_isRanked, 4, (some .boolean), false, [], none)
def f_X8_isRanked (t : Nat) (a1 : Int64) (a3 : Int32) (h : tq_H) : Option (Int32) :=
  (tq_gr h t 8 0).bind fun k1 =>
  (tq_is h k1 3).bind fun _ =>
  (f_X3_elements k1 h).bind fun v2 =>
  (f_X0_holds v2 a3 h).bind fun v4 =>
  (if v4 = 0 then
    some (0 : Int32)
  else
    (tq_gr h t 8 0).bind fun k5 =>
    (tq_is h k5 3).bind fun _ =>
    (f_X3_below k5 a3 h).bind fun v6 =>
    if (lg_cmp (v6 &&& a1) (0 : Int64)) = 0 then
      some (0 : Int32)
    else
      some (1 : Int32)).bind fun p8 =>
  (tq_bz p8).bind fun z9 =>
  some z9
set_option maxHeartbeats 4000000 in
set_option maxRecDepth 20000 in
theorem w_X8_isRanked {l : Launch} {d : Nat} (hd9 : 2 ≤ d) {t : Nat} {a1 : Int64} {a3 : Int32} {h : tq_H} {o : Int32} {Q : tq_R → tq_H → Prop} (hf : f_X8_isRanked t a1 a3 h = some o) (hQ : ∀ r h9, r = .inl (some (.int o)) ∧ h = h9 → Q r h9) : tq_C l yX8_isRanked cX8_isRanked 4 (some .boolean) d 0 0 [.ref t, .long a1, .int a3] h Q := by
  refine tq_body (y := yX8_isRanked) false (by decide +kernel) (fun z => by cases z) (Nat.le_of_ble_eq_true rfl) ?_
  show tq_W l mX8_isRanked d 0 0 Q 0 [(0, .ref t), (1, .long a1), (3, .int a3)] [] h
  refine tq_aload_n (M := mX8_isRanked) (pc := 0) dX8_isRanked_0 rfl ?_
  obtain ⟨k1, ek1, hf⟩ := tq_be hf
  refine tq_getR (M := mX8_isRanked) (pc := 1) tk_c8 (by decide) dX8_isRanked_1 tk_RX8_12 rfl ek1 ?_
  obtain ⟨⟨⟩, eu3, hf⟩ := tq_be hf
  obtain ⟨fsu3, eu3⟩ := tq_is_s eu3
  obtain ⟨v2, ev2, hf⟩ := tq_be hf
  refine tq_calV (M := mX8_isRanked) (pc := 4) (S := []) tk_y_X3_elements tk_v_X3_elements tk_RX8_110 dX8_isRanked_4 [] rfl (S0 := _) rfl eu3 rfl (Nat.le_of_ble_eq_true rfl) (d1 := d - 1) (b1 := 0) (s1 := 0) (bc' := 0) (bs' := 0) (Q1 := fun r h9 => r = .inl (some (.long v2)) ∧ h = h9) (by omega) rfl rfl (w_X3_elements (by omega) ev2 (fun _ _ q => q)) (fun E h9 q => nomatch (show (Sum.inr E : tq_R) = Sum.inl _ from q.1)) (fun r9 h9 q => ?_)
  obtain ⟨q1, rfl⟩ := q
  cases (show (Sum.inl r9 : tq_R) = Sum.inl (some (.long v2)) from q1)
  refine tq_iload_n (M := mX8_isRanked) (pc := 7) dX8_isRanked_7 rfl ?_
  obtain ⟨v4, ev4, hf⟩ := tq_be hf
  refine tq_calS (M := mX8_isRanked) (pc := 8) (S := []) tk_y_X0_holds tk_s_X0_holds tk_RX8_114 dX8_isRanked_8 [.long v2, .int a3] rfl (Nat.le_of_ble_eq_true rfl) (d1 := d - 1) (b1 := 0) (s1 := 0) (bc' := 0) (bs' := 0) (Q1 := fun r h9 => r = .inl (some (.int v4)) ∧ h = h9) (by omega) rfl rfl (w_X0_holds (by omega) ev4 (fun _ _ q => q)) (fun E h9 q => nomatch (show (Sum.inr E : tq_R) = Sum.inl _ from q.1)) (fun r9 h9 q => ?_)
  obtain ⟨q1, rfl⟩ := q
  cases (show (Sum.inl r9 : tq_R) = Sum.inl (some (.int v4)) from q1)
  obtain ⟨p8, ep8, hf⟩ := tq_be hf
  have HJ11 : tq_W l mX8_isRanked d 0 0 Q 34 [] [.int p8] h := by
    obtain ⟨z9, ez9, hf⟩ := tq_be hf
    refine tq_zretB (M := mX8_isRanked) (pc := 34) dX8_isRanked_34 rfl ez9 ?_
    cases (Option.some.inj hf)
    exact hQ _ _ ⟨rfl, rfl⟩
  refine tq_if_eq (M := mX8_isRanked) (pc := 11) (tgt := 33) dX8_isRanked_11 (by decide) (fun cc => ?_) (fun cc => ?_)
  · have hf := tq_ifp ep8 cc
    refine tq_iconst (M := mX8_isRanked) (pc := 33) dX8_isRanked_33 tk_ki_0 ?_
    refine tq_pick (L2 := []) [] rfl ?_
    cases (Option.some.inj hf)
    exact HJ11
  · have hf := tq_ifn ep8 cc
    refine tq_aload_n (M := mX8_isRanked) (pc := 14) dX8_isRanked_14 rfl ?_
    obtain ⟨k5, ek5, hf⟩ := tq_be hf
    refine tq_getR (M := mX8_isRanked) (pc := 15) tk_c8 (by decide) dX8_isRanked_15 tk_RX8_12 rfl ek5 ?_
    refine tq_iload_n (M := mX8_isRanked) (pc := 18) dX8_isRanked_18 rfl ?_
    obtain ⟨⟨⟩, eu7, hf⟩ := tq_be hf
    obtain ⟨fsu7, eu7⟩ := tq_is_s eu7
    obtain ⟨v6, ev6, hf⟩ := tq_be hf
    refine tq_calV (M := mX8_isRanked) (pc := 19) (S := []) tk_y_X3_below tk_v_X3_below tk_RX8_123 dX8_isRanked_19 [.int a3] rfl (S0 := _) rfl eu7 rfl (Nat.le_of_ble_eq_true rfl) (d1 := d - 1) (b1 := 0) (s1 := 0) (bc' := 0) (bs' := 0) (Q1 := fun r h9 => r = .inl (some (.long v6)) ∧ h = h9) (by omega) rfl rfl (w_X3_below (by omega) ev6 (fun _ _ q => q)) (fun E h9 q => nomatch (show (Sum.inr E : tq_R) = Sum.inl _ from q.1)) (fun r9 h9 q => ?_)
    obtain ⟨q1, rfl⟩ := q
    cases (show (Sum.inl r9 : tq_R) = Sum.inl (some (.long v6)) from q1)
    refine tq_lload_n (M := mX8_isRanked) (pc := 22) dX8_isRanked_22 rfl ?_
    refine tq_land (M := mX8_isRanked) (pc := 23) dX8_isRanked_23 ?_
    refine tq_lconst (M := mX8_isRanked) (pc := 24) dX8_isRanked_24 tk_kl_0 ?_
    refine tq_lcmp (M := mX8_isRanked) (pc := 25) dX8_isRanked_25 ?_
    refine tq_if_eq (M := mX8_isRanked) (pc := 26) (tgt := 33) dX8_isRanked_26 (by decide) (fun cc => ?_) (fun cc => ?_)
    · have hf := tq_ifp hf cc
      refine tq_iconst (M := mX8_isRanked) (pc := 33) dX8_isRanked_33 tk_ki_0 ?_
      refine tq_pick (L2 := []) [] rfl ?_
      cases (Option.some.inj hf)
      exact HJ11
    · have hf := tq_ifn hf cc
      refine tq_iconst (M := mX8_isRanked) (pc := 29) dX8_isRanked_29 tk_ki_1 ?_
      refine tq_goto (M := mX8_isRanked) (pc := 30) (tgt := 34) dX8_isRanked_30 (by decide) ?_
      refine tq_pick (L2 := []) [] rfl ?_
      cases (Option.some.inj hf)
      exact HJ11
abbrev mX8_lead : tq_M := (RX8, cX8_lead, 11, (some .int), false, [], none)
def f_X8_lead (t : Nat) (a1 : Int64) (a3 : Int32) (a4 : Int32) (h : tq_H) : Option (Int32) :=
  (tq_gr h t 8 0).bind fun k1 =>
  (tq_is h k1 3).bind fun _ =>
  (f_X3_passing k1 (9 : Int32) h).bind fun v2 =>
  (tq_gr h t 8 0).bind fun k4 =>
  (tq_is h k4 3).bind fun _ =>
  (f_X3_below k4 a3 h).bind fun v5 =>
  (tq_gr h t 8 0).bind fun k7 =>
  (tq_is h k7 3).bind fun _ =>
  (f_X3_below k7 a4 h).bind fun v8 =>
  (f_J13_bitCount_95d88 (v5 &&& a1) h).bind fun v10 =>
  (f_J13_bitCount_95d88 (v8 &&& v2) h).bind fun v11 =>
  (f_J13_bitCount_95d88 (v8 &&& a1) h).bind fun v12 =>
  (f_J13_bitCount_95d88 (v5 &&& v2) h).bind fun v13 =>
  some ((v10 * v11) - (v12 * v13))
set_option maxHeartbeats 4000000 in
set_option maxRecDepth 20000 in
theorem w_X8_lead {l : Launch} {d : Nat} (hd9 : 2 ≤ d) {t : Nat} {a1 : Int64} {a3 : Int32} {a4 : Int32} {h : tq_H} {o : Int32} {Q : tq_R → tq_H → Prop} (hf : f_X8_lead t a1 a3 a4 h = some o) (hQ : ∀ r h9, r = .inl (some (.int o)) ∧ h = h9 → Q r h9) : tq_C l yX8_lead cX8_lead 11 (some .int) d 0 0 [.ref t, .long a1, .int a3, .int a4] h Q := by
  refine tq_body (y := yX8_lead) false (by decide +kernel) (fun z => by cases z) (Nat.le_of_ble_eq_true rfl) ?_
  show tq_W l mX8_lead d 0 0 Q 0 [(0, .ref t), (1, .long a1), (3, .int a3), (4, .int a4)] [] h
  refine tq_aload_n (M := mX8_lead) (pc := 0) dX8_lead_0 rfl ?_
  obtain ⟨k1, ek1, hf⟩ := tq_be hf
  refine tq_getR (M := mX8_lead) (pc := 1) tk_c8 (by decide) dX8_lead_1 tk_RX8_12 rfl ek1 ?_
  refine tq_bipush (M := mX8_lead) (pc := 4) dX8_lead_4 tk_kb_9 ?_
  obtain ⟨⟨⟩, eu3, hf⟩ := tq_be hf
  obtain ⟨fsu3, eu3⟩ := tq_is_s eu3
  obtain ⟨v2, ev2, hf⟩ := tq_be hf
  refine tq_calV (M := mX8_lead) (pc := 6) (S := []) tk_y_X3_passing tk_v_X3_passing tk_RX8_101 dX8_lead_6 [.int (9 : Int32)] rfl (S0 := _) rfl eu3 rfl (Nat.le_of_ble_eq_true rfl) (d1 := d - 1) (b1 := 0) (s1 := 0) (bc' := 0) (bs' := 0) (Q1 := fun r h9 => r = .inl (some (.long v2)) ∧ h = h9) (by omega) rfl rfl (w_X3_passing (by omega) ev2 (fun _ _ q => q)) (fun E h9 q => nomatch (show (Sum.inr E : tq_R) = Sum.inl _ from q.1)) (fun r9 h9 q => ?_)
  obtain ⟨q1, rfl⟩ := q
  cases (show (Sum.inl r9 : tq_R) = Sum.inl (some (.long v2)) from q1)
  refine tq_lstore (M := mX8_lead) (pc := 9) dX8_lead_9 (L2 := [(5, .long v2), (0, .ref t), (1, .long a1), (3, .int a3), (4, .int a4)]) (by decide) rfl ?_
  refine tq_aload_n (M := mX8_lead) (pc := 11) dX8_lead_11 rfl ?_
  obtain ⟨k4, ek4, hf⟩ := tq_be hf
  refine tq_getR (M := mX8_lead) (pc := 12) tk_c8 (by decide) dX8_lead_12 tk_RX8_12 rfl ek4 ?_
  refine tq_iload_n (M := mX8_lead) (pc := 15) dX8_lead_15 rfl ?_
  obtain ⟨⟨⟩, eu6, hf⟩ := tq_be hf
  obtain ⟨fsu6, eu6⟩ := tq_is_s eu6
  obtain ⟨v5, ev5, hf⟩ := tq_be hf
  refine tq_calV (M := mX8_lead) (pc := 16) (S := []) tk_y_X3_below tk_v_X3_below tk_RX8_123 dX8_lead_16 [.int a3] rfl (S0 := _) rfl eu6 rfl (Nat.le_of_ble_eq_true rfl) (d1 := d - 1) (b1 := 0) (s1 := 0) (bc' := 0) (bs' := 0) (Q1 := fun r h9 => r = .inl (some (.long v5)) ∧ h = h9) (by omega) rfl rfl (w_X3_below (by omega) ev5 (fun _ _ q => q)) (fun E h9 q => nomatch (show (Sum.inr E : tq_R) = Sum.inl _ from q.1)) (fun r9 h9 q => ?_)
  obtain ⟨q1, rfl⟩ := q
  cases (show (Sum.inl r9 : tq_R) = Sum.inl (some (.long v5)) from q1)
  refine tq_lstore (M := mX8_lead) (pc := 19) dX8_lead_19 (L2 := [(7, .long v5), (5, .long v2), (0, .ref t), (1, .long a1), (3, .int a3), (4, .int a4)]) (by decide) rfl ?_
  refine tq_aload_n (M := mX8_lead) (pc := 21) dX8_lead_21 rfl ?_
  obtain ⟨k7, ek7, hf⟩ := tq_be hf
  refine tq_getR (M := mX8_lead) (pc := 22) tk_c8 (by decide) dX8_lead_22 tk_RX8_12 rfl ek7 ?_
  refine tq_iload (M := mX8_lead) (pc := 25) dX8_lead_25 rfl ?_
  obtain ⟨⟨⟩, eu9, hf⟩ := tq_be hf
  obtain ⟨fsu9, eu9⟩ := tq_is_s eu9
  obtain ⟨v8, ev8, hf⟩ := tq_be hf
  refine tq_calV (M := mX8_lead) (pc := 27) (S := []) tk_y_X3_below tk_v_X3_below tk_RX8_123 dX8_lead_27 [.int a4] rfl (S0 := _) rfl eu9 rfl (Nat.le_of_ble_eq_true rfl) (d1 := d - 1) (b1 := 0) (s1 := 0) (bc' := 0) (bs' := 0) (Q1 := fun r h9 => r = .inl (some (.long v8)) ∧ h = h9) (by omega) rfl rfl (w_X3_below (by omega) ev8 (fun _ _ q => q)) (fun E h9 q => nomatch (show (Sum.inr E : tq_R) = Sum.inl _ from q.1)) (fun r9 h9 q => ?_)
  obtain ⟨q1, rfl⟩ := q
  cases (show (Sum.inl r9 : tq_R) = Sum.inl (some (.long v8)) from q1)
  refine tq_lstore (M := mX8_lead) (pc := 30) dX8_lead_30 (L2 := [(9, .long v8), (7, .long v5), (5, .long v2), (0, .ref t), (1, .long a1), (3, .int a3), (4, .int a4)]) (by decide) rfl ?_
  refine tq_lload (M := mX8_lead) (pc := 32) dX8_lead_32 rfl ?_
  refine tq_lload_n (M := mX8_lead) (pc := 34) dX8_lead_34 rfl ?_
  refine tq_land (M := mX8_lead) (pc := 35) dX8_lead_35 ?_
  obtain ⟨v10, ev10, hf⟩ := tq_be hf
  refine tq_calS (M := mX8_lead) (pc := 36) (S := []) tk_y_J13_bitCount_95d88 tk_s_J13_bitCount_95d88 tk_RX8_104 dX8_lead_36 [.long ((v5 &&& a1))] rfl (Nat.le_of_ble_eq_true rfl) (d1 := d - 1) (b1 := 0) (s1 := 0) (bc' := 0) (bs' := 0) (Q1 := fun r h9 => r = .inl (some (.int v10)) ∧ h = h9) (by omega) rfl rfl (w_J13_bitCount_95d88 (by omega) ev10 (fun _ _ q => q)) (fun E h9 q => nomatch (show (Sum.inr E : tq_R) = Sum.inl _ from q.1)) (fun r9 h9 q => ?_)
  obtain ⟨q1, rfl⟩ := q
  cases (show (Sum.inl r9 : tq_R) = Sum.inl (some (.int v10)) from q1)
  refine tq_lload (M := mX8_lead) (pc := 39) dX8_lead_39 rfl ?_
  refine tq_lload (M := mX8_lead) (pc := 41) dX8_lead_41 rfl ?_
  refine tq_land (M := mX8_lead) (pc := 43) dX8_lead_43 ?_
  obtain ⟨v11, ev11, hf⟩ := tq_be hf
  refine tq_calS (M := mX8_lead) (pc := 44) (S := [.int v10]) tk_y_J13_bitCount_95d88 tk_s_J13_bitCount_95d88 tk_RX8_104 dX8_lead_44 [.long ((v8 &&& v2))] rfl (Nat.le_of_ble_eq_true rfl) (d1 := d - 1) (b1 := 0) (s1 := 0) (bc' := 0) (bs' := 0) (Q1 := fun r h9 => r = .inl (some (.int v11)) ∧ h = h9) (by omega) rfl rfl (w_J13_bitCount_95d88 (by omega) ev11 (fun _ _ q => q)) (fun E h9 q => nomatch (show (Sum.inr E : tq_R) = Sum.inl _ from q.1)) (fun r9 h9 q => ?_)
  obtain ⟨q1, rfl⟩ := q
  cases (show (Sum.inl r9 : tq_R) = Sum.inl (some (.int v11)) from q1)
  refine tq_imul (M := mX8_lead) (pc := 47) dX8_lead_47 ?_
  refine tq_lload (M := mX8_lead) (pc := 48) dX8_lead_48 rfl ?_
  refine tq_lload_n (M := mX8_lead) (pc := 50) dX8_lead_50 rfl ?_
  refine tq_land (M := mX8_lead) (pc := 51) dX8_lead_51 ?_
  obtain ⟨v12, ev12, hf⟩ := tq_be hf
  refine tq_calS (M := mX8_lead) (pc := 52) (S := [.int ((v10 * v11))]) tk_y_J13_bitCount_95d88 tk_s_J13_bitCount_95d88 tk_RX8_104 dX8_lead_52 [.long ((v8 &&& a1))] rfl (Nat.le_of_ble_eq_true rfl) (d1 := d - 1) (b1 := 0) (s1 := 0) (bc' := 0) (bs' := 0) (Q1 := fun r h9 => r = .inl (some (.int v12)) ∧ h = h9) (by omega) rfl rfl (w_J13_bitCount_95d88 (by omega) ev12 (fun _ _ q => q)) (fun E h9 q => nomatch (show (Sum.inr E : tq_R) = Sum.inl _ from q.1)) (fun r9 h9 q => ?_)
  obtain ⟨q1, rfl⟩ := q
  cases (show (Sum.inl r9 : tq_R) = Sum.inl (some (.int v12)) from q1)
  refine tq_lload (M := mX8_lead) (pc := 55) dX8_lead_55 rfl ?_
  refine tq_lload (M := mX8_lead) (pc := 57) dX8_lead_57 rfl ?_
  refine tq_land (M := mX8_lead) (pc := 59) dX8_lead_59 ?_
  obtain ⟨v13, ev13, hf⟩ := tq_be hf
  refine tq_calS (M := mX8_lead) (pc := 60) (S := [.int v12, .int ((v10 * v11))]) tk_y_J13_bitCount_95d88 tk_s_J13_bitCount_95d88 tk_RX8_104 dX8_lead_60 [.long ((v5 &&& v2))] rfl (Nat.le_of_ble_eq_true rfl) (d1 := d - 1) (b1 := 0) (s1 := 0) (bc' := 0) (bs' := 0) (Q1 := fun r h9 => r = .inl (some (.int v13)) ∧ h = h9) (by omega) rfl rfl (w_J13_bitCount_95d88 (by omega) ev13 (fun _ _ q => q)) (fun E h9 q => nomatch (show (Sum.inr E : tq_R) = Sum.inl _ from q.1)) (fun r9 h9 q => ?_)
  obtain ⟨q1, rfl⟩ := q
  cases (show (Sum.inl r9 : tq_R) = Sum.inl (some (.int v13)) from q1)
  refine tq_imul (M := mX8_lead) (pc := 63) dX8_lead_63 ?_
  refine tq_isub (M := mX8_lead) (pc := 64) dX8_lead_64 ?_
  refine tq_iret (M := mX8_lead) (pc := 65) dX8_lead_65 rfl ?_
  cases (Option.some.inj hf)
  exact hQ _ _ ⟨rfl, rfl⟩
abbrev mX8_countAhead : tq_M := (RX8, cX8_countAhead, 7, (some .int), false, [], none)
def f_X8_countAhead_b6 (i0 : Nat) (i1 : Int64) (i3 : Int32) (hh : tq_H) (s : Int32 × Int32) : Option ((Int32 × Int32) ⊕ (Int32)) := match s with
  | (y4, y5) =>
    (tq_gr hh i0 8 0).bind fun k1 =>
    (tq_is hh k1 3).bind fun _ =>
    (f_X3_count k1 hh).bind fun v2 =>
    if y5 ≥ v2 then
      some (.inr y4)
    else
      (tq_is hh i0 8).bind fun _ =>
      (f_X8_isRanked i0 i1 y5 hh).bind fun v4 =>
      (if v4 = 0 then
        some y4
      else
        (tq_is hh i0 8).bind fun _ =>
        (f_X8_lead i0 i1 y5 i3 hh).bind fun v6 =>
        tq_let (if v6 > 0 then (1 : Int32) else (if v6 = 0 then if y5 ≥ i3 then (0 : Int32) else (1 : Int32) else (0 : Int32))) fun p8 =>
        tq_let ((y4 + p8)) fun x9 =>
        some x9).bind fun p10 =>
      tq_let (y5 + (1 : Int32)) fun x11 =>
      some (.inl (p10, x11))
def f_X8_countAhead (t : Nat) (a1 : Int64) (a3 : Int32) (h : tq_H) : Option (Int32) :=
  (tq_loop (f_X8_countAhead_b6 t a1 a3 h) tq_N ((0 : Int32), (0 : Int32))).bind fun o12 =>
  some o12
set_option maxHeartbeats 4000000 in
theorem l_X8_countAhead_6 {l : Launch} {d : Nat} {Q : tq_R → tq_H → Prop} {bc bs : Nat} (hd9 : 3 ≤ d) (i0 : Nat) (i1 : Int64) (i3 : Int32) (hh : tq_H) : ∀ (n : Nat) (y4 : Int32) (y5 : Int32) (o : Int32), tq_loop (f_X8_countAhead_b6 i0 i1 i3 hh) n (y4, y5) = some o → tq_W l mX8_countAhead d bc bs Q 70 [(4, .int o)] [] hh → tq_W l mX8_countAhead d bc bs Q 6 [(0, .ref i0), (1, .long i1), (3, .int i3), (4, .int y4), (5, .int y5)] [] hh := by
  intro n
  induction n with
  | zero => intro y4 y5 o hl; cases hl
  | succ n ih =>
    intro y4 y5 o hl hk
    obtain ⟨oo, hf, ho⟩ := tq_loop_s hl
    refine tq_iload (M := mX8_countAhead) (pc := 6) dX8_countAhead_6 rfl ?_
    refine tq_aload_n (M := mX8_countAhead) (pc := 8) dX8_countAhead_8 rfl ?_
    obtain ⟨k1, ek1, hf⟩ := tq_be hf
    refine tq_getR (M := mX8_countAhead) (pc := 9) tk_c8 (by decide) dX8_countAhead_9 tk_RX8_12 rfl ek1 ?_
    obtain ⟨⟨⟩, eu3, hf⟩ := tq_be hf
    obtain ⟨fsu3, eu3⟩ := tq_is_s eu3
    obtain ⟨v2, ev2, hf⟩ := tq_be hf
    refine tq_calV (M := mX8_countAhead) (pc := 12) (S := [.int y5]) tk_y_X3_count tk_v_X3_count tk_RX8_93 dX8_countAhead_12 [] rfl (S0 := _) rfl eu3 rfl (Nat.le_of_ble_eq_true rfl) (d1 := d - 1) (b1 := 0) (s1 := 0) (bc' := bc) (bs' := bs) (Q1 := fun r h9 => r = .inl (some (.int v2)) ∧ hh = h9) (by omega) (by omega) (by omega) (w_X3_count (by omega) ev2 (fun _ _ q => q)) (fun E h9 q => nomatch (show (Sum.inr E : tq_R) = Sum.inl _ from q.1)) (fun r9 h9 q => ?_)
    obtain ⟨q1, rfl⟩ := q
    cases (show (Sum.inl r9 : tq_R) = Sum.inl (some (.int v2)) from q1)
    refine tq_icmp_ge (M := mX8_countAhead) (pc := 15) (tgt := 70) dX8_countAhead_15 (by decide) (fun cc => ?_) (fun cc => ?_)
    · have hf := tq_ifp hf cc
      refine tq_pick (L2 := [(4, .int y4)]) [3] rfl ?_
      cases (Option.some.inj hf)
      cases (tq_lx ho)
      exact hk
    · have hf := tq_ifn hf cc
      refine tq_aload_n (M := mX8_countAhead) (pc := 18) dX8_countAhead_18 rfl ?_
      refine tq_lload_n (M := mX8_countAhead) (pc := 19) dX8_countAhead_19 rfl ?_
      refine tq_iload (M := mX8_countAhead) (pc := 20) dX8_countAhead_20 rfl ?_
      obtain ⟨⟨⟩, eu5, hf⟩ := tq_be hf
      obtain ⟨fsu5, eu5⟩ := tq_is_s eu5
      obtain ⟨v4, ev4, hf⟩ := tq_be hf
      refine tq_calV (M := mX8_countAhead) (pc := 22) (S := []) tk_y_X8_isRanked tk_v_X8_isRanked tk_RX8_150 dX8_countAhead_22 [.long i1, .int y5] rfl (S0 := _) rfl eu5 rfl (Nat.le_of_ble_eq_true rfl) (d1 := d - 1) (b1 := 0) (s1 := 0) (bc' := bc) (bs' := bs) (Q1 := fun r h9 => r = .inl (some (.int v4)) ∧ hh = h9) (by omega) (by omega) (by omega) (w_X8_isRanked (by omega) ev4 (fun _ _ q => q)) (fun E h9 q => nomatch (show (Sum.inr E : tq_R) = Sum.inl _ from q.1)) (fun r9 h9 q => ?_)
      obtain ⟨q1, rfl⟩ := q
      cases (show (Sum.inl r9 : tq_R) = Sum.inl (some (.int v4)) from q1)
      obtain ⟨p10, ep10, hf⟩ := tq_be hf
      have HJ25 : tq_W l mX8_countAhead d bc bs Q 64 [(0, .ref i0), (1, .long i1), (3, .int i3), (4, .int p10), (5, .int y5)] [] hh := by
        obtain ⟨x11, ex11, hf⟩ := tq_le hf
        refine tq_iinc (M := mX8_countAhead) (pc := 64) (v := x11) (L2 := [(5, .int x11), (0, .ref i0), (1, .long i1), (3, .int i3), (4, .int p10)]) dX8_countAhead_64 rfl (by rw [ex11, tk_ki_1]) (by decide) rfl ?_
        refine tq_goto (M := mX8_countAhead) (pc := 67) (tgt := 6) dX8_countAhead_67 (by decide) ?_
        refine tq_pick (L2 := [(0, .ref i0), (1, .long i1), (3, .int i3), (4, .int p10), (5, .int x11)]) [1, 2, 3, 4, 0] rfl ?_
        cases (Option.some.inj hf)
        exact ih _ _ o (tq_lc ho) hk
      refine tq_if_eq (M := mX8_countAhead) (pc := 25) (tgt := 64) dX8_countAhead_25 (by decide) (fun cc => ?_) (fun cc => ?_)
      · have hf := tq_ifp ep10 cc
        cases (Option.some.inj hf)
        exact HJ25
      · have hf := tq_ifn ep10 cc
        refine tq_aload_n (M := mX8_countAhead) (pc := 28) dX8_countAhead_28 rfl ?_
        refine tq_lload_n (M := mX8_countAhead) (pc := 29) dX8_countAhead_29 rfl ?_
        refine tq_iload (M := mX8_countAhead) (pc := 30) dX8_countAhead_30 rfl ?_
        refine tq_iload_n (M := mX8_countAhead) (pc := 32) dX8_countAhead_32 rfl ?_
        obtain ⟨⟨⟩, eu7, hf⟩ := tq_be hf
        obtain ⟨fsu7, eu7⟩ := tq_is_s eu7
        obtain ⟨v6, ev6, hf⟩ := tq_be hf
        refine tq_calV (M := mX8_countAhead) (pc := 33) (S := []) tk_y_X8_lead tk_v_X8_lead tk_RX8_156 dX8_countAhead_33 [.long i1, .int y5, .int i3] rfl (S0 := _) rfl eu7 rfl (Nat.le_of_ble_eq_true rfl) (d1 := d - 1) (b1 := 0) (s1 := 0) (bc' := bc) (bs' := bs) (Q1 := fun r h9 => r = .inl (some (.int v6)) ∧ hh = h9) (by omega) (by omega) (by omega) (w_X8_lead (by omega) ev6 (fun _ _ q => q)) (fun E h9 q => nomatch (show (Sum.inr E : tq_R) = Sum.inl _ from q.1)) (fun r9 h9 q => ?_)
        obtain ⟨q1, rfl⟩ := q
        cases (show (Sum.inl r9 : tq_R) = Sum.inl (some (.int v6)) from q1)
        refine tq_istore (M := mX8_countAhead) (pc := 36) dX8_countAhead_36 (L2 := [(6, .int v6), (0, .ref i0), (1, .long i1), (3, .int i3), (4, .int y4), (5, .int y5)]) (by decide) rfl ?_
        refine tq_iload (M := mX8_countAhead) (pc := 38) dX8_countAhead_38 rfl ?_
        refine tq_iload (M := mX8_countAhead) (pc := 40) dX8_countAhead_40 rfl ?_
        obtain ⟨p8, ep8, hf⟩ := tq_le hf
        have HJ42 : tq_W l mX8_countAhead d bc bs Q 61 [(0, .ref i0), (1, .long i1), (3, .int i3), (5, .int y5)] [.int p8, .int y4] hh := by
          refine tq_iadd (M := mX8_countAhead) (pc := 61) dX8_countAhead_61 ?_
          obtain ⟨x9, ex9, hf⟩ := tq_le hf
          refine tq_istore (M := mX8_countAhead) (pc := 62) dX8_countAhead_62 (L2 := [(4, .int x9), (0, .ref i0), (1, .long i1), (3, .int i3), (5, .int y5)]) (by decide) (by rw [ex9]; rfl) ?_
          refine tq_pick (L2 := [(0, .ref i0), (1, .long i1), (3, .int i3), (4, .int x9), (5, .int y5)]) [1, 2, 3, 0, 4] rfl ?_
          cases (Option.some.inj hf)
          exact HJ25
        refine tq_if_gt (M := mX8_countAhead) (pc := 42) (tgt := 56) dX8_countAhead_42 (by decide) (fun cc => ?_) (fun cc => ?_)
        · have hf := tq_ifp ep8.symm cc
          refine tq_iconst (M := mX8_countAhead) (pc := 56) dX8_countAhead_56 tk_ki_1 ?_
          refine tq_goto (M := mX8_countAhead) (pc := 57) (tgt := 61) dX8_countAhead_57 (by decide) ?_
          refine tq_pick (L2 := [(0, .ref i0), (1, .long i1), (3, .int i3), (5, .int y5)]) [1, 2, 3, 5] rfl ?_
          cases hf
          exact HJ42
        · have hf := tq_ifn ep8.symm cc
          refine tq_iload (M := mX8_countAhead) (pc := 45) dX8_countAhead_45 rfl ?_
          refine tq_if_ne (M := mX8_countAhead) (pc := 47) (tgt := 60) dX8_countAhead_47 (by decide) (fun cc => ?_) (fun cc => ?_)
          · have hf := tq_ifn hf cc
            refine tq_iconst (M := mX8_countAhead) (pc := 60) dX8_countAhead_60 tk_ki_0 ?_
            refine tq_pick (L2 := [(0, .ref i0), (1, .long i1), (3, .int i3), (5, .int y5)]) [1, 2, 3, 5] rfl ?_
            cases hf
            exact HJ42
          · have hf := tq_ifp hf cc
            refine tq_iload (M := mX8_countAhead) (pc := 50) dX8_countAhead_50 rfl ?_
            refine tq_iload_n (M := mX8_countAhead) (pc := 52) dX8_countAhead_52 rfl ?_
            refine tq_icmp_ge (M := mX8_countAhead) (pc := 53) (tgt := 60) dX8_countAhead_53 (by decide) (fun cc => ?_) (fun cc => ?_)
            · have hf := tq_ifp hf cc
              refine tq_iconst (M := mX8_countAhead) (pc := 60) dX8_countAhead_60 tk_ki_0 ?_
              refine tq_pick (L2 := [(0, .ref i0), (1, .long i1), (3, .int i3), (5, .int y5)]) [1, 2, 3, 5] rfl ?_
              cases hf
              exact HJ42
            · have hf := tq_ifn hf cc
              refine tq_iconst (M := mX8_countAhead) (pc := 56) dX8_countAhead_56 tk_ki_1 ?_
              refine tq_goto (M := mX8_countAhead) (pc := 57) (tgt := 61) dX8_countAhead_57 (by decide) ?_
              refine tq_pick (L2 := [(0, .ref i0), (1, .long i1), (3, .int i3), (5, .int y5)]) [1, 2, 3, 5] rfl ?_
              cases hf
              exact HJ42
set_option maxHeartbeats 4000000 in
set_option maxRecDepth 20000 in
theorem w_X8_countAhead {l : Launch} {d : Nat} (hd9 : 3 ≤ d) {t : Nat} {a1 : Int64} {a3 : Int32} {h : tq_H} {o : Int32} {Q : tq_R → tq_H → Prop} (hf : f_X8_countAhead t a1 a3 h = some o) (hQ : ∀ r h9, r = .inl (some (.int o)) ∧ h = h9 → Q r h9) : tq_C l yX8_countAhead cX8_countAhead 7 (some .int) d 0 0 [.ref t, .long a1, .int a3] h Q := by
  refine tq_body (y := yX8_countAhead) false (by decide +kernel) (fun z => by cases z) (Nat.le_of_ble_eq_true rfl) ?_
  show tq_W l mX8_countAhead d 0 0 Q 0 [(0, .ref t), (1, .long a1), (3, .int a3)] [] h
  refine tq_iconst (M := mX8_countAhead) (pc := 0) dX8_countAhead_0 tk_ki_0 ?_
  refine tq_istore (M := mX8_countAhead) (pc := 1) dX8_countAhead_1 (L2 := [(4, .int (0 : Int32)), (0, .ref t), (1, .long a1), (3, .int a3)]) (by decide) rfl ?_
  refine tq_iconst (M := mX8_countAhead) (pc := 3) dX8_countAhead_3 tk_ki_0 ?_
  refine tq_istore (M := mX8_countAhead) (pc := 4) dX8_countAhead_4 (L2 := [(5, .int (0 : Int32)), (4, .int (0 : Int32)), (0, .ref t), (1, .long a1), (3, .int a3)]) (by decide) rfl ?_
  obtain ⟨o12, eo12, hf⟩ := tq_be hf
  refine tq_pick (L2 := [(0, .ref t), (1, .long a1), (3, .int a3), (4, .int (0 : Int32)), (5, .int (0 : Int32))]) [2, 3, 4, 1, 0] rfl ?_
  refine l_X8_countAhead_6 (bc := 0) (bs := 0) (by omega) t a1 a3 h _ (0 : Int32) (0 : Int32) _ eo12 ?_
  refine tq_iload (M := mX8_countAhead) (pc := 70) dX8_countAhead_70 rfl ?_
  refine tq_iret (M := mX8_countAhead) (pc := 72) dX8_countAhead_72 rfl ?_
  cases (Option.some.inj hf)
  exact hQ _ _ ⟨rfl, rfl⟩
abbrev mX8_rankedSpot : tq_M := (RX8, cX8_rankedSpot, 5, (some .int), false, [], none)
def f_X8_rankedSpot_b3 (i0 : Nat) (i1 : Int64) (i3 : Int32) (hh : tq_H) (s : Int32) : Option ((Int32) ⊕ ((Unit) ⊕ (Int32))) := match s with
  | y4 =>
    (tq_gr hh i0 8 0).bind fun k1 =>
    (tq_is hh k1 3).bind fun _ =>
    (f_X3_count k1 hh).bind fun v2 =>
    if y4 ≥ v2 then
      some (.inr (.inl ()))
    else
      (tq_is hh i0 8).bind fun _ =>
      (f_X8_isRanked i0 i1 y4 hh).bind fun v4 =>
      if v4 = 0 then
        tq_let (y4 + (1 : Int32)) fun x6 =>
        some (.inl x6)
      else
        (tq_is hh i0 8).bind fun _ =>
        (f_X8_countAhead i0 i1 y4 hh).bind fun v7 =>
        if v7 = i3 then
          some (.inr (.inr y4))
        else
          tq_let (y4 + (1 : Int32)) fun x9 =>
          some (.inl x9)
def f_X8_rankedSpot (t : Nat) (a1 : Int64) (a3 : Int32) (h : tq_H) : Option (Int32) :=
  (tq_loop (f_X8_rankedSpot_b3 t a1 a3 h) tq_N (0 : Int32)).bind fun o10 => match o10 with
  | .inl o10 =>
    some (-1 : Int32)
  | .inr e9 =>
    some e9
set_option maxHeartbeats 4000000 in
theorem l_X8_rankedSpot_3 {l : Launch} {d : Nat} {Q : tq_R → tq_H → Prop} {bc bs : Nat} (hd9 : 4 ≤ d) (i0 : Nat) (i1 : Int64) (i3 : Int32) (hh : tq_H) : ∀ (n : Nat) (y4 : Int32) (o : (Unit) ⊕ (Int32)), tq_loop (f_X8_rankedSpot_b3 i0 i1 i3 hh) n y4 = some o → (match o with
    | .inl e9 => tq_W l mX8_rankedSpot d bc bs Q 45 [] [] hh
    | .inr e9 => (∀ r h9, r = .inl (some (.int e9)) ∧ hh = h9 → Q r h9)) → tq_W l mX8_rankedSpot d bc bs Q 3 [(0, .ref i0), (1, .long i1), (3, .int i3), (4, .int y4)] [] hh := by
  intro n
  induction n with
  | zero => intro y4 o hl; cases hl
  | succ n ih =>
    intro y4 o hl hk
    obtain ⟨oo, hf, ho⟩ := tq_loop_s hl
    refine tq_iload (M := mX8_rankedSpot) (pc := 3) dX8_rankedSpot_3 rfl ?_
    refine tq_aload_n (M := mX8_rankedSpot) (pc := 5) dX8_rankedSpot_5 rfl ?_
    obtain ⟨k1, ek1, hf⟩ := tq_be hf
    refine tq_getR (M := mX8_rankedSpot) (pc := 6) tk_c8 (by decide) dX8_rankedSpot_6 tk_RX8_12 rfl ek1 ?_
    obtain ⟨⟨⟩, eu3, hf⟩ := tq_be hf
    obtain ⟨fsu3, eu3⟩ := tq_is_s eu3
    obtain ⟨v2, ev2, hf⟩ := tq_be hf
    refine tq_calV (M := mX8_rankedSpot) (pc := 9) (S := [.int y4]) tk_y_X3_count tk_v_X3_count tk_RX8_93 dX8_rankedSpot_9 [] rfl (S0 := _) rfl eu3 rfl (Nat.le_of_ble_eq_true rfl) (d1 := d - 1) (b1 := 0) (s1 := 0) (bc' := bc) (bs' := bs) (Q1 := fun r h9 => r = .inl (some (.int v2)) ∧ hh = h9) (by omega) (by omega) (by omega) (w_X3_count (by omega) ev2 (fun _ _ q => q)) (fun E h9 q => nomatch (show (Sum.inr E : tq_R) = Sum.inl _ from q.1)) (fun r9 h9 q => ?_)
    obtain ⟨q1, rfl⟩ := q
    cases (show (Sum.inl r9 : tq_R) = Sum.inl (some (.int v2)) from q1)
    refine tq_icmp_ge (M := mX8_rankedSpot) (pc := 12) (tgt := 45) dX8_rankedSpot_12 (by decide) (fun cc => ?_) (fun cc => ?_)
    · have hf := tq_ifp hf cc
      refine tq_pick (L2 := []) [] rfl ?_
      cases (Option.some.inj hf)
      cases (tq_lx ho)
      exact hk
    · have hf := tq_ifn hf cc
      refine tq_aload_n (M := mX8_rankedSpot) (pc := 15) dX8_rankedSpot_15 rfl ?_
      refine tq_lload_n (M := mX8_rankedSpot) (pc := 16) dX8_rankedSpot_16 rfl ?_
      refine tq_iload (M := mX8_rankedSpot) (pc := 17) dX8_rankedSpot_17 rfl ?_
      obtain ⟨⟨⟩, eu5, hf⟩ := tq_be hf
      obtain ⟨fsu5, eu5⟩ := tq_is_s eu5
      obtain ⟨v4, ev4, hf⟩ := tq_be hf
      refine tq_calV (M := mX8_rankedSpot) (pc := 19) (S := []) tk_y_X8_isRanked tk_v_X8_isRanked tk_RX8_150 dX8_rankedSpot_19 [.long i1, .int y4] rfl (S0 := _) rfl eu5 rfl (Nat.le_of_ble_eq_true rfl) (d1 := d - 1) (b1 := 0) (s1 := 0) (bc' := bc) (bs' := bs) (Q1 := fun r h9 => r = .inl (some (.int v4)) ∧ hh = h9) (by omega) (by omega) (by omega) (w_X8_isRanked (by omega) ev4 (fun _ _ q => q)) (fun E h9 q => nomatch (show (Sum.inr E : tq_R) = Sum.inl _ from q.1)) (fun r9 h9 q => ?_)
      obtain ⟨q1, rfl⟩ := q
      cases (show (Sum.inl r9 : tq_R) = Sum.inl (some (.int v4)) from q1)
      refine tq_if_eq (M := mX8_rankedSpot) (pc := 22) (tgt := 39) dX8_rankedSpot_22 (by decide) (fun cc => ?_) (fun cc => ?_)
      · have hf := tq_ifp hf cc
        obtain ⟨x6, ex6, hf⟩ := tq_le hf
        refine tq_iinc (M := mX8_rankedSpot) (pc := 39) (v := x6) (L2 := [(4, .int x6), (0, .ref i0), (1, .long i1), (3, .int i3)]) dX8_rankedSpot_39 rfl (by rw [ex6, tk_ki_1]) (by decide) rfl ?_
        refine tq_goto (M := mX8_rankedSpot) (pc := 42) (tgt := 3) dX8_rankedSpot_42 (by decide) ?_
        refine tq_pick (L2 := [(0, .ref i0), (1, .long i1), (3, .int i3), (4, .int x6)]) [1, 2, 3, 0] rfl ?_
        cases (Option.some.inj hf)
        exact ih _ o (tq_lc ho) hk
      · have hf := tq_ifn hf cc
        refine tq_aload_n (M := mX8_rankedSpot) (pc := 25) dX8_rankedSpot_25 rfl ?_
        refine tq_lload_n (M := mX8_rankedSpot) (pc := 26) dX8_rankedSpot_26 rfl ?_
        refine tq_iload (M := mX8_rankedSpot) (pc := 27) dX8_rankedSpot_27 rfl ?_
        obtain ⟨⟨⟩, eu8, hf⟩ := tq_be hf
        obtain ⟨fsu8, eu8⟩ := tq_is_s eu8
        obtain ⟨v7, ev7, hf⟩ := tq_be hf
        refine tq_calV (M := mX8_rankedSpot) (pc := 29) (S := []) tk_y_X8_countAhead tk_v_X8_countAhead tk_RX8_153 dX8_rankedSpot_29 [.long i1, .int y4] rfl (S0 := _) rfl eu8 rfl (Nat.le_of_ble_eq_true rfl) (d1 := d - 1) (b1 := 0) (s1 := 0) (bc' := bc) (bs' := bs) (Q1 := fun r h9 => r = .inl (some (.int v7)) ∧ hh = h9) (by omega) (by omega) (by omega) (w_X8_countAhead (by omega) ev7 (fun _ _ q => q)) (fun E h9 q => nomatch (show (Sum.inr E : tq_R) = Sum.inl _ from q.1)) (fun r9 h9 q => ?_)
        obtain ⟨q1, rfl⟩ := q
        cases (show (Sum.inl r9 : tq_R) = Sum.inl (some (.int v7)) from q1)
        refine tq_iload_n (M := mX8_rankedSpot) (pc := 32) dX8_rankedSpot_32 rfl ?_
        refine tq_icmp_ne (M := mX8_rankedSpot) (pc := 33) (tgt := 39) dX8_rankedSpot_33 (by decide) (fun cc => ?_) (fun cc => ?_)
        · have hf := tq_ifn hf cc
          obtain ⟨x9, ex9, hf⟩ := tq_le hf
          refine tq_iinc (M := mX8_rankedSpot) (pc := 39) (v := x9) (L2 := [(4, .int x9), (0, .ref i0), (1, .long i1), (3, .int i3)]) dX8_rankedSpot_39 rfl (by rw [ex9, tk_ki_1]) (by decide) rfl ?_
          refine tq_goto (M := mX8_rankedSpot) (pc := 42) (tgt := 3) dX8_rankedSpot_42 (by decide) ?_
          refine tq_pick (L2 := [(0, .ref i0), (1, .long i1), (3, .int i3), (4, .int x9)]) [1, 2, 3, 0] rfl ?_
          cases (Option.some.inj hf)
          exact ih _ o (tq_lc ho) hk
        · have hf := tq_ifp hf cc
          refine tq_iload (M := mX8_rankedSpot) (pc := 36) dX8_rankedSpot_36 rfl ?_
          refine tq_iret (M := mX8_rankedSpot) (pc := 38) dX8_rankedSpot_38 rfl ?_
          cases (Option.some.inj hf)
          cases (tq_lx ho)
          exact hk _ _ ⟨rfl, rfl⟩
set_option maxHeartbeats 4000000 in
set_option maxRecDepth 20000 in
theorem w_X8_rankedSpot {l : Launch} {d : Nat} (hd9 : 4 ≤ d) {t : Nat} {a1 : Int64} {a3 : Int32} {h : tq_H} {o : Int32} {Q : tq_R → tq_H → Prop} (hf : f_X8_rankedSpot t a1 a3 h = some o) (hQ : ∀ r h9, r = .inl (some (.int o)) ∧ h = h9 → Q r h9) : tq_C l yX8_rankedSpot cX8_rankedSpot 5 (some .int) d 0 0 [.ref t, .long a1, .int a3] h Q := by
  refine tq_body (y := yX8_rankedSpot) false (by decide +kernel) (fun z => by cases z) (Nat.le_of_ble_eq_true rfl) ?_
  show tq_W l mX8_rankedSpot d 0 0 Q 0 [(0, .ref t), (1, .long a1), (3, .int a3)] [] h
  refine tq_iconst (M := mX8_rankedSpot) (pc := 0) dX8_rankedSpot_0 tk_ki_0 ?_
  refine tq_istore (M := mX8_rankedSpot) (pc := 1) dX8_rankedSpot_1 (L2 := [(4, .int (0 : Int32)), (0, .ref t), (1, .long a1), (3, .int a3)]) (by decide) rfl ?_
  obtain ⟨o10, eo10, hf⟩ := tq_be hf
  refine tq_pick (L2 := [(0, .ref t), (1, .long a1), (3, .int a3), (4, .int (0 : Int32))]) [1, 2, 3, 0] rfl ?_
  refine l_X8_rankedSpot_3 (bc := 0) (bs := 0) (by omega) t a1 a3 h _ (0 : Int32) _ eo10 ?_
  cases o10 with
  | inl o10 =>
    refine tq_iconst (M := mX8_rankedSpot) (pc := 45) dX8_rankedSpot_45 tk_ki_m1 ?_
    refine tq_iret (M := mX8_rankedSpot) (pc := 46) dX8_rankedSpot_46 rfl ?_
    cases (Option.some.inj hf)
    exact hQ _ _ ⟨rfl, rfl⟩
  | inr e9 =>
    cases (Option.some.inj hf)
    exact hQ
abbrev mX8_differs : tq_M := (RX8, cX8_differs, 3, (some .boolean), false, [], none)
def f_X8_differs (t : Nat) (a1 : Nat) (a2 : Int32) (h : tq_H) : Option (Int32) :=
  (tq_gr h t 8 0).bind fun k1 =>
  (tq_is h k1 3).bind fun _ =>
  (f_X3_holds k1 a2 h).bind fun v2 =>
  (tq_gr h a1 8 0).bind fun k4 =>
  (tq_is h k4 3).bind fun _ =>
  (f_X3_holds k4 a2 h).bind fun v5 =>
  if v2 = v5 then
    (tq_gr h t 8 0).bind fun k7 =>
    (tq_is h k7 3).bind fun _ =>
    (f_X3_holds k7 a2 h).bind fun v8 =>
    if v8 = 0 then
      some (0 : Int32)
    else
      (tq_gr h t 8 5).bind fun k10 =>
      (tq_is h k10 5).bind fun _ =>
      (f_X5_get k10 a2 h).bind fun v11 =>
      (tq_gr h a1 8 5).bind fun k13 =>
      (tq_is h k13 5).bind fun _ =>
      (f_X5_get k13 a2 h).bind fun v14 =>
      (if v11 = v14 then
        (tq_gr h t 8 2).bind fun k16 =>
        (tq_is h k16 5).bind fun _ =>
        (f_X5_get k16 a2 h).bind fun v17 =>
        (tq_gr h a1 8 2).bind fun k19 =>
        (tq_is h k19 5).bind fun _ =>
        (f_X5_get k19 a2 h).bind fun v20 =>
        if v17 = v20 then
          (tq_gr h t 8 3).bind fun k22 =>
          (tq_is h k22 5).bind fun _ =>
          (f_X5_get k22 a2 h).bind fun v23 =>
          (tq_gr h a1 8 3).bind fun k25 =>
          (tq_is h k25 5).bind fun _ =>
          (f_X5_get k25 a2 h).bind fun v26 =>
          if v23 = v26 then
            (tq_gr h t 8 4).bind fun k28 =>
            (tq_is h k28 5).bind fun _ =>
            (f_X5_get k28 a2 h).bind fun v29 =>
            (tq_gr h a1 8 4).bind fun k31 =>
            (tq_is h k31 5).bind fun _ =>
            (f_X5_get k31 a2 h).bind fun v32 =>
            if v29 = v32 then
              some (0 : Int32)
            else
              some (1 : Int32)
          else
            some (1 : Int32)
        else
          some (1 : Int32)
      else
        some (1 : Int32)).bind fun p34 =>
      (tq_bz p34).bind fun z35 =>
      some z35
  else
    some (1 : Int32)
set_option maxHeartbeats 4000000 in
set_option maxRecDepth 20000 in
theorem w_X8_differs {l : Launch} {d : Nat} (hd9 : 2 ≤ d) {t : Nat} {a1 : Nat} {a2 : Int32} {h : tq_H} {o : Int32} {Q : tq_R → tq_H → Prop} (hf : f_X8_differs t a1 a2 h = some o) (hQ : ∀ r h9, r = .inl (some (.int o)) ∧ h = h9 → Q r h9) : tq_C l yX8_differs cX8_differs 3 (some .boolean) d 0 0 [.ref t, .ref a1, .int a2] h Q := by
  refine tq_body (y := yX8_differs) false (by decide +kernel) (fun z => by cases z) (Nat.le_of_ble_eq_true rfl) ?_
  show tq_W l mX8_differs d 0 0 Q 0 [(0, .ref t), (1, .ref a1), (2, .int a2)] [] h
  refine tq_aload_n (M := mX8_differs) (pc := 0) dX8_differs_0 rfl ?_
  obtain ⟨k1, ek1, hf⟩ := tq_be hf
  refine tq_getR (M := mX8_differs) (pc := 1) tk_c8 (by decide) dX8_differs_1 tk_RX8_12 rfl ek1 ?_
  refine tq_iload_n (M := mX8_differs) (pc := 4) dX8_differs_4 rfl ?_
  obtain ⟨⟨⟩, eu3, hf⟩ := tq_be hf
  obtain ⟨fsu3, eu3⟩ := tq_is_s eu3
  obtain ⟨v2, ev2, hf⟩ := tq_be hf
  refine tq_calV (M := mX8_differs) (pc := 5) (S := []) tk_y_X3_holds tk_v_X3_holds tk_RX8_160 dX8_differs_5 [.int a2] rfl (S0 := _) rfl eu3 rfl (Nat.le_of_ble_eq_true rfl) (d1 := d - 1) (b1 := 0) (s1 := 0) (bc' := 0) (bs' := 0) (Q1 := fun r h9 => r = .inl (some (.int v2)) ∧ h = h9) (by omega) rfl rfl (w_X3_holds (by omega) ev2 (fun _ _ q => q)) (fun E h9 q => nomatch (show (Sum.inr E : tq_R) = Sum.inl _ from q.1)) (fun r9 h9 q => ?_)
  obtain ⟨q1, rfl⟩ := q
  cases (show (Sum.inl r9 : tq_R) = Sum.inl (some (.int v2)) from q1)
  refine tq_aload_n (M := mX8_differs) (pc := 8) dX8_differs_8 rfl ?_
  obtain ⟨k4, ek4, hf⟩ := tq_be hf
  refine tq_getR (M := mX8_differs) (pc := 9) tk_c8 (by decide) dX8_differs_9 tk_RX8_12 rfl ek4 ?_
  refine tq_iload_n (M := mX8_differs) (pc := 12) dX8_differs_12 rfl ?_
  obtain ⟨⟨⟩, eu6, hf⟩ := tq_be hf
  obtain ⟨fsu6, eu6⟩ := tq_is_s eu6
  obtain ⟨v5, ev5, hf⟩ := tq_be hf
  refine tq_calV (M := mX8_differs) (pc := 13) (S := [.int v2]) tk_y_X3_holds tk_v_X3_holds tk_RX8_160 dX8_differs_13 [.int a2] rfl (S0 := _) rfl eu6 rfl (Nat.le_of_ble_eq_true rfl) (d1 := d - 1) (b1 := 0) (s1 := 0) (bc' := 0) (bs' := 0) (Q1 := fun r h9 => r = .inl (some (.int v5)) ∧ h = h9) (by omega) rfl rfl (w_X3_holds (by omega) ev5 (fun _ _ q => q)) (fun E h9 q => nomatch (show (Sum.inr E : tq_R) = Sum.inl _ from q.1)) (fun r9 h9 q => ?_)
  obtain ⟨q1, rfl⟩ := q
  cases (show (Sum.inl r9 : tq_R) = Sum.inl (some (.int v5)) from q1)
  refine tq_icmp_eq (M := mX8_differs) (pc := 16) (tgt := 21) dX8_differs_16 (by decide) (fun cc => ?_) (fun cc => ?_)
  · have hf := tq_ifp hf cc
    refine tq_aload_n (M := mX8_differs) (pc := 21) dX8_differs_21 rfl ?_
    obtain ⟨k7, ek7, hf⟩ := tq_be hf
    refine tq_getR (M := mX8_differs) (pc := 22) tk_c8 (by decide) dX8_differs_22 tk_RX8_12 rfl ek7 ?_
    refine tq_iload_n (M := mX8_differs) (pc := 25) dX8_differs_25 rfl ?_
    obtain ⟨⟨⟩, eu9, hf⟩ := tq_be hf
    obtain ⟨fsu9, eu9⟩ := tq_is_s eu9
    obtain ⟨v8, ev8, hf⟩ := tq_be hf
    refine tq_calV (M := mX8_differs) (pc := 26) (S := []) tk_y_X3_holds tk_v_X3_holds tk_RX8_160 dX8_differs_26 [.int a2] rfl (S0 := _) rfl eu9 rfl (Nat.le_of_ble_eq_true rfl) (d1 := d - 1) (b1 := 0) (s1 := 0) (bc' := 0) (bs' := 0) (Q1 := fun r h9 => r = .inl (some (.int v8)) ∧ h = h9) (by omega) rfl rfl (w_X3_holds (by omega) ev8 (fun _ _ q => q)) (fun E h9 q => nomatch (show (Sum.inr E : tq_R) = Sum.inl _ from q.1)) (fun r9 h9 q => ?_)
    obtain ⟨q1, rfl⟩ := q
    cases (show (Sum.inl r9 : tq_R) = Sum.inl (some (.int v8)) from q1)
    refine tq_if_ne (M := mX8_differs) (pc := 29) (tgt := 34) dX8_differs_29 (by decide) (fun cc => ?_) (fun cc => ?_)
    · have hf := tq_ifn hf cc
      refine tq_aload_n (M := mX8_differs) (pc := 34) dX8_differs_34 rfl ?_
      obtain ⟨k10, ek10, hf⟩ := tq_be hf
      refine tq_getR (M := mX8_differs) (pc := 35) tk_c8 (by decide) dX8_differs_35 tk_RX8_36 rfl ek10 ?_
      refine tq_iload_n (M := mX8_differs) (pc := 38) dX8_differs_38 rfl ?_
      obtain ⟨⟨⟩, eu12, hf⟩ := tq_be hf
      obtain ⟨fsu12, eu12⟩ := tq_is_s eu12
      obtain ⟨v11, ev11, hf⟩ := tq_be hf
      refine tq_calV (M := mX8_differs) (pc := 39) (S := []) tk_y_X5_get tk_v_X5_get tk_RX8_58 dX8_differs_39 [.int a2] rfl (S0 := _) rfl eu12 rfl (Nat.le_of_ble_eq_true rfl) (d1 := d - 1) (b1 := 0) (s1 := 0) (bc' := 0) (bs' := 0) (Q1 := fun r h9 => r = .inl (some (.int v11)) ∧ h = h9) (by omega) rfl rfl (w_X5_get (by omega) ev11 (fun _ _ q => q)) (fun E h9 q => nomatch (show (Sum.inr E : tq_R) = Sum.inl _ from q.1)) (fun r9 h9 q => ?_)
      obtain ⟨q1, rfl⟩ := q
      cases (show (Sum.inl r9 : tq_R) = Sum.inl (some (.int v11)) from q1)
      refine tq_aload_n (M := mX8_differs) (pc := 42) dX8_differs_42 rfl ?_
      obtain ⟨k13, ek13, hf⟩ := tq_be hf
      refine tq_getR (M := mX8_differs) (pc := 43) tk_c8 (by decide) dX8_differs_43 tk_RX8_36 rfl ek13 ?_
      refine tq_iload_n (M := mX8_differs) (pc := 46) dX8_differs_46 rfl ?_
      obtain ⟨⟨⟩, eu15, hf⟩ := tq_be hf
      obtain ⟨fsu15, eu15⟩ := tq_is_s eu15
      obtain ⟨v14, ev14, hf⟩ := tq_be hf
      refine tq_calV (M := mX8_differs) (pc := 47) (S := [.int v11]) tk_y_X5_get tk_v_X5_get tk_RX8_58 dX8_differs_47 [.int a2] rfl (S0 := _) rfl eu15 rfl (Nat.le_of_ble_eq_true rfl) (d1 := d - 1) (b1 := 0) (s1 := 0) (bc' := 0) (bs' := 0) (Q1 := fun r h9 => r = .inl (some (.int v14)) ∧ h = h9) (by omega) rfl rfl (w_X5_get (by omega) ev14 (fun _ _ q => q)) (fun E h9 q => nomatch (show (Sum.inr E : tq_R) = Sum.inl _ from q.1)) (fun r9 h9 q => ?_)
      obtain ⟨q1, rfl⟩ := q
      cases (show (Sum.inl r9 : tq_R) = Sum.inl (some (.int v14)) from q1)
      obtain ⟨p34, ep34, hf⟩ := tq_be hf
      have HJ50 : tq_W l mX8_differs d 0 0 Q 115 [] [.int p34] h := by
        obtain ⟨z35, ez35, hf⟩ := tq_be hf
        refine tq_zretB (M := mX8_differs) (pc := 115) dX8_differs_115 rfl ez35 ?_
        cases (Option.some.inj hf)
        exact hQ _ _ ⟨rfl, rfl⟩
      refine tq_icmp_ne (M := mX8_differs) (pc := 50) (tgt := 110) dX8_differs_50 (by decide) (fun cc => ?_) (fun cc => ?_)
      · have hf := tq_ifn ep34 cc
        refine tq_iconst (M := mX8_differs) (pc := 110) dX8_differs_110 tk_ki_1 ?_
        refine tq_goto (M := mX8_differs) (pc := 111) (tgt := 115) dX8_differs_111 (by decide) ?_
        refine tq_pick (L2 := []) [] rfl ?_
        cases (Option.some.inj hf)
        exact HJ50
      · have hf := tq_ifp ep34 cc
        refine tq_aload_n (M := mX8_differs) (pc := 53) dX8_differs_53 rfl ?_
        obtain ⟨k16, ek16, hf⟩ := tq_be hf
        refine tq_getR (M := mX8_differs) (pc := 54) tk_c8 (by decide) dX8_differs_54 tk_RX8_27 rfl ek16 ?_
        refine tq_iload_n (M := mX8_differs) (pc := 57) dX8_differs_57 rfl ?_
        obtain ⟨⟨⟩, eu18, hf⟩ := tq_be hf
        obtain ⟨fsu18, eu18⟩ := tq_is_s eu18
        obtain ⟨v17, ev17, hf⟩ := tq_be hf
        refine tq_calV (M := mX8_differs) (pc := 58) (S := []) tk_y_X5_get tk_v_X5_get tk_RX8_58 dX8_differs_58 [.int a2] rfl (S0 := _) rfl eu18 rfl (Nat.le_of_ble_eq_true rfl) (d1 := d - 1) (b1 := 0) (s1 := 0) (bc' := 0) (bs' := 0) (Q1 := fun r h9 => r = .inl (some (.int v17)) ∧ h = h9) (by omega) rfl rfl (w_X5_get (by omega) ev17 (fun _ _ q => q)) (fun E h9 q => nomatch (show (Sum.inr E : tq_R) = Sum.inl _ from q.1)) (fun r9 h9 q => ?_)
        obtain ⟨q1, rfl⟩ := q
        cases (show (Sum.inl r9 : tq_R) = Sum.inl (some (.int v17)) from q1)
        refine tq_aload_n (M := mX8_differs) (pc := 61) dX8_differs_61 rfl ?_
        obtain ⟨k19, ek19, hf⟩ := tq_be hf
        refine tq_getR (M := mX8_differs) (pc := 62) tk_c8 (by decide) dX8_differs_62 tk_RX8_27 rfl ek19 ?_
        refine tq_iload_n (M := mX8_differs) (pc := 65) dX8_differs_65 rfl ?_
        obtain ⟨⟨⟩, eu21, hf⟩ := tq_be hf
        obtain ⟨fsu21, eu21⟩ := tq_is_s eu21
        obtain ⟨v20, ev20, hf⟩ := tq_be hf
        refine tq_calV (M := mX8_differs) (pc := 66) (S := [.int v17]) tk_y_X5_get tk_v_X5_get tk_RX8_58 dX8_differs_66 [.int a2] rfl (S0 := _) rfl eu21 rfl (Nat.le_of_ble_eq_true rfl) (d1 := d - 1) (b1 := 0) (s1 := 0) (bc' := 0) (bs' := 0) (Q1 := fun r h9 => r = .inl (some (.int v20)) ∧ h = h9) (by omega) rfl rfl (w_X5_get (by omega) ev20 (fun _ _ q => q)) (fun E h9 q => nomatch (show (Sum.inr E : tq_R) = Sum.inl _ from q.1)) (fun r9 h9 q => ?_)
        obtain ⟨q1, rfl⟩ := q
        cases (show (Sum.inl r9 : tq_R) = Sum.inl (some (.int v20)) from q1)
        refine tq_icmp_ne (M := mX8_differs) (pc := 69) (tgt := 110) dX8_differs_69 (by decide) (fun cc => ?_) (fun cc => ?_)
        · have hf := tq_ifn hf cc
          refine tq_iconst (M := mX8_differs) (pc := 110) dX8_differs_110 tk_ki_1 ?_
          refine tq_goto (M := mX8_differs) (pc := 111) (tgt := 115) dX8_differs_111 (by decide) ?_
          refine tq_pick (L2 := []) [] rfl ?_
          cases (Option.some.inj hf)
          exact HJ50
        · have hf := tq_ifp hf cc
          refine tq_aload_n (M := mX8_differs) (pc := 72) dX8_differs_72 rfl ?_
          obtain ⟨k22, ek22, hf⟩ := tq_be hf
          refine tq_getR (M := mX8_differs) (pc := 73) tk_c8 (by decide) dX8_differs_73 tk_RX8_30 rfl ek22 ?_
          refine tq_iload_n (M := mX8_differs) (pc := 76) dX8_differs_76 rfl ?_
          obtain ⟨⟨⟩, eu24, hf⟩ := tq_be hf
          obtain ⟨fsu24, eu24⟩ := tq_is_s eu24
          obtain ⟨v23, ev23, hf⟩ := tq_be hf
          refine tq_calV (M := mX8_differs) (pc := 77) (S := []) tk_y_X5_get tk_v_X5_get tk_RX8_58 dX8_differs_77 [.int a2] rfl (S0 := _) rfl eu24 rfl (Nat.le_of_ble_eq_true rfl) (d1 := d - 1) (b1 := 0) (s1 := 0) (bc' := 0) (bs' := 0) (Q1 := fun r h9 => r = .inl (some (.int v23)) ∧ h = h9) (by omega) rfl rfl (w_X5_get (by omega) ev23 (fun _ _ q => q)) (fun E h9 q => nomatch (show (Sum.inr E : tq_R) = Sum.inl _ from q.1)) (fun r9 h9 q => ?_)
          obtain ⟨q1, rfl⟩ := q
          cases (show (Sum.inl r9 : tq_R) = Sum.inl (some (.int v23)) from q1)
          refine tq_aload_n (M := mX8_differs) (pc := 80) dX8_differs_80 rfl ?_
          obtain ⟨k25, ek25, hf⟩ := tq_be hf
          refine tq_getR (M := mX8_differs) (pc := 81) tk_c8 (by decide) dX8_differs_81 tk_RX8_30 rfl ek25 ?_
          refine tq_iload_n (M := mX8_differs) (pc := 84) dX8_differs_84 rfl ?_
          obtain ⟨⟨⟩, eu27, hf⟩ := tq_be hf
          obtain ⟨fsu27, eu27⟩ := tq_is_s eu27
          obtain ⟨v26, ev26, hf⟩ := tq_be hf
          refine tq_calV (M := mX8_differs) (pc := 85) (S := [.int v23]) tk_y_X5_get tk_v_X5_get tk_RX8_58 dX8_differs_85 [.int a2] rfl (S0 := _) rfl eu27 rfl (Nat.le_of_ble_eq_true rfl) (d1 := d - 1) (b1 := 0) (s1 := 0) (bc' := 0) (bs' := 0) (Q1 := fun r h9 => r = .inl (some (.int v26)) ∧ h = h9) (by omega) rfl rfl (w_X5_get (by omega) ev26 (fun _ _ q => q)) (fun E h9 q => nomatch (show (Sum.inr E : tq_R) = Sum.inl _ from q.1)) (fun r9 h9 q => ?_)
          obtain ⟨q1, rfl⟩ := q
          cases (show (Sum.inl r9 : tq_R) = Sum.inl (some (.int v26)) from q1)
          refine tq_icmp_ne (M := mX8_differs) (pc := 88) (tgt := 110) dX8_differs_88 (by decide) (fun cc => ?_) (fun cc => ?_)
          · have hf := tq_ifn hf cc
            refine tq_iconst (M := mX8_differs) (pc := 110) dX8_differs_110 tk_ki_1 ?_
            refine tq_goto (M := mX8_differs) (pc := 111) (tgt := 115) dX8_differs_111 (by decide) ?_
            refine tq_pick (L2 := []) [] rfl ?_
            cases (Option.some.inj hf)
            exact HJ50
          · have hf := tq_ifp hf cc
            refine tq_aload_n (M := mX8_differs) (pc := 91) dX8_differs_91 rfl ?_
            obtain ⟨k28, ek28, hf⟩ := tq_be hf
            refine tq_getR (M := mX8_differs) (pc := 92) tk_c8 (by decide) dX8_differs_92 tk_RX8_33 rfl ek28 ?_
            refine tq_iload_n (M := mX8_differs) (pc := 95) dX8_differs_95 rfl ?_
            obtain ⟨⟨⟩, eu30, hf⟩ := tq_be hf
            obtain ⟨fsu30, eu30⟩ := tq_is_s eu30
            obtain ⟨v29, ev29, hf⟩ := tq_be hf
            refine tq_calV (M := mX8_differs) (pc := 96) (S := []) tk_y_X5_get tk_v_X5_get tk_RX8_58 dX8_differs_96 [.int a2] rfl (S0 := _) rfl eu30 rfl (Nat.le_of_ble_eq_true rfl) (d1 := d - 1) (b1 := 0) (s1 := 0) (bc' := 0) (bs' := 0) (Q1 := fun r h9 => r = .inl (some (.int v29)) ∧ h = h9) (by omega) rfl rfl (w_X5_get (by omega) ev29 (fun _ _ q => q)) (fun E h9 q => nomatch (show (Sum.inr E : tq_R) = Sum.inl _ from q.1)) (fun r9 h9 q => ?_)
            obtain ⟨q1, rfl⟩ := q
            cases (show (Sum.inl r9 : tq_R) = Sum.inl (some (.int v29)) from q1)
            refine tq_aload_n (M := mX8_differs) (pc := 99) dX8_differs_99 rfl ?_
            obtain ⟨k31, ek31, hf⟩ := tq_be hf
            refine tq_getR (M := mX8_differs) (pc := 100) tk_c8 (by decide) dX8_differs_100 tk_RX8_33 rfl ek31 ?_
            refine tq_iload_n (M := mX8_differs) (pc := 103) dX8_differs_103 rfl ?_
            obtain ⟨⟨⟩, eu33, hf⟩ := tq_be hf
            obtain ⟨fsu33, eu33⟩ := tq_is_s eu33
            obtain ⟨v32, ev32, hf⟩ := tq_be hf
            refine tq_calV (M := mX8_differs) (pc := 104) (S := [.int v29]) tk_y_X5_get tk_v_X5_get tk_RX8_58 dX8_differs_104 [.int a2] rfl (S0 := _) rfl eu33 rfl (Nat.le_of_ble_eq_true rfl) (d1 := d - 1) (b1 := 0) (s1 := 0) (bc' := 0) (bs' := 0) (Q1 := fun r h9 => r = .inl (some (.int v32)) ∧ h = h9) (by omega) rfl rfl (w_X5_get (by omega) ev32 (fun _ _ q => q)) (fun E h9 q => nomatch (show (Sum.inr E : tq_R) = Sum.inl _ from q.1)) (fun r9 h9 q => ?_)
            obtain ⟨q1, rfl⟩ := q
            cases (show (Sum.inl r9 : tq_R) = Sum.inl (some (.int v32)) from q1)
            refine tq_icmp_eq (M := mX8_differs) (pc := 107) (tgt := 114) dX8_differs_107 (by decide) (fun cc => ?_) (fun cc => ?_)
            · have hf := tq_ifp hf cc
              refine tq_iconst (M := mX8_differs) (pc := 114) dX8_differs_114 tk_ki_0 ?_
              refine tq_pick (L2 := []) [] rfl ?_
              cases (Option.some.inj hf)
              exact HJ50
            · have hf := tq_ifn hf cc
              refine tq_iconst (M := mX8_differs) (pc := 110) dX8_differs_110 tk_ki_1 ?_
              refine tq_goto (M := mX8_differs) (pc := 111) (tgt := 115) dX8_differs_111 (by decide) ?_
              refine tq_pick (L2 := []) [] rfl ?_
              cases (Option.some.inj hf)
              exact HJ50
    · have hf := tq_ifp hf cc
      refine tq_iconst (M := mX8_differs) (pc := 32) dX8_differs_32 tk_ki_0 ?_
      refine tq_zret (M := mX8_differs) (pc := 33) dX8_differs_33 rfl (Or.inl rfl) ?_
      cases (Option.some.inj hf)
      exact hQ _ _ ⟨rfl, rfl⟩
  · have hf := tq_ifn hf cc
    refine tq_iconst (M := mX8_differs) (pc := 19) dX8_differs_19 tk_ki_1 ?_
    refine tq_zret (M := mX8_differs) (pc := 20) dX8_differs_20 rfl (Or.inr rfl) ?_
    cases (Option.some.inj hf)
    exact hQ _ _ ⟨rfl, rfl⟩
abbrev mX9_init : tq_M := (RX9, cX9_init, 1, none, true, [], none)
def f_X9_init (t : Nat) (h : tq_H) : Option (tq_H) :=
  tq_let (tq_new h (.inl (5, [.null]))) fun w1 =>
  (f_X5_init h.1 (20 : Int32) (-1 : Int32) w1).bind fun v2 =>
  (tq_pf v2 t 9 0 (.ref h.1)).bind fun w3 =>
  tq_let (tq_new w3 (.inl (5, [.null]))) fun w4 =>
  (f_X5_init w3.1 (20 : Int32) (-1 : Int32) w4).bind fun v5 =>
  (tq_pf v5 t 9 1 (.ref w3.1)).bind fun w6 =>
  tq_let (tq_new w6 (.inl (5, [.null]))) fun w7 =>
  (f_X5_init w6.1 (20 : Int32) (-1 : Int32) w7).bind fun v8 =>
  (tq_pf v8 t 9 2 (.ref w6.1)).bind fun w9 =>
  tq_let (tq_new w9 (.inl (5, [.null]))) fun w10 =>
  (f_X5_init w9.1 (20 : Int32) (-1 : Int32) w10).bind fun v11 =>
  (tq_pf v11 t 9 3 (.ref w9.1)).bind fun w12 =>
  tq_let (tq_new w12 (.inl (5, [.null]))) fun w13 =>
  (f_X5_init w12.1 (20 : Int32) (-1 : Int32) w13).bind fun v14 =>
  (tq_pf v14 t 9 4 (.ref w12.1)).bind fun w15 =>
  tq_let (tq_new w15 (.inl (5, [.null]))) fun w16 =>
  (f_X5_init w15.1 (20 : Int32) (-1 : Int32) w16).bind fun v17 =>
  (tq_pf v17 t 9 5 (.ref w15.1)).bind fun w18 =>
  tq_let (tq_new w18 (.inl (5, [.null]))) fun w19 =>
  (f_X5_init w18.1 (20 : Int32) (-1 : Int32) w19).bind fun v20 =>
  (tq_pf v20 t 9 6 (.ref w18.1)).bind fun w21 =>
  tq_let (tq_new w21 (.inl (5, [.null]))) fun w22 =>
  (f_X5_init w21.1 (20 : Int32) (-1 : Int32) w22).bind fun v23 =>
  (tq_pf v23 t 9 7 (.ref w21.1)).bind fun w24 =>
  (tq_pf w24 t 9 8 (.long (0 : Int64))).bind fun w25 =>
  (tq_pf w25 t 9 9 (.long (0 : Int64))).bind fun w26 =>
  (tq_pf w26 t 9 10 (.long (0 : Int64))).bind fun w27 =>
  (tq_pf w27 t 9 11 (.int (0 : Int32))).bind fun w28 =>
  some w28
set_option maxHeartbeats 4000000 in
set_option maxRecDepth 20000 in
theorem w_X9_init {l : Launch} {d : Nat} (hd9 : 2 ≤ d) {t : Nat} {h : tq_H} {o : tq_H} {Q : tq_R → tq_H → Prop} (hf : f_X9_init t h = some o) (hQ : ∀ r h9, r = .inl none ∧ o = h9 → Q r h9) : tq_C l yX9_init cX9_init 1 none d 16 168 [.ref t] h Q := by
  refine tq_body (y := yX9_init) true (by decide +kernel) (fun _ => rfl) (Nat.le_of_ble_eq_true rfl) ?_
  show tq_W l mX9_init d 16 168 Q 0 [(0, .ref t)] [] h
  refine tq_aload_n (M := mX9_init) (pc := 0) dX9_init_0 rfl ?_
  refine tq_objinit (M := mX9_init) (pc := 1) dX9_init_1 tk_RX9_3 tk_oi tk_oc (by omega) (Nat.le_of_ble_eq_true rfl) ?_
  refine tq_aload_n (M := mX9_init) (pc := 4) dX9_init_4 rfl ?_
  obtain ⟨w1, ew1, hf⟩ := tq_le hf
  refine tq_newo (M := mX9_init) (pc := 5) tk_c5 dX9_init_5 tk_RX9_9 tk_in5 tk_ini5 (fs := [.null]) (fun j hj => by rcases (show j = 0 by omega) with rfl <;> rfl) (fun _ => ⟨rfl, trivial⟩) (bc' := 15) (bs' := 167) (by omega) (by omega) ?_
  rw [← ew1]
  refine tq_dup (M := mX9_init) (pc := 8) dX9_init_8 rfl ?_
  refine tq_bipush (M := mX9_init) (pc := 9) dX9_init_9 tk_kb_20 ?_
  refine tq_iconst (M := mX9_init) (pc := 11) dX9_init_11 tk_ki_m1 ?_
  obtain ⟨v2, ev2, hf⟩ := tq_be hf
  refine tq_calI (M := mX9_init) (pc := 12) (S := [.ref h.1, .ref t]) tk_y_X5_init tk_v_X5_init rfl (Or.inl tk_RX9_11) dX9_init_12 [.int (20 : Int32), .int (-1 : Int32)] rfl (Nat.le_of_ble_eq_true rfl) (d1 := d - 1) (b1 := 1) (s1 := 20) (bc' := 14) (bs' := 147) (Q1 := fun r h9 => r = .inl none ∧ v2 = h9) (by omega) rfl rfl (w_X5_init (by omega) (N := 20) (by decide +kernel) (by decide +kernel) (by decide) ev2 (fun _ _ q => q)) (fun E h9 q => nomatch (show (Sum.inr E : tq_R) = Sum.inl _ from q.1)) (fun r9 h9 q => ?_)
  obtain ⟨q1, rfl⟩ := q
  cases (show (Sum.inl r9 : tq_R) = Sum.inl (none) from q1)
  obtain ⟨w3, ew3, hf⟩ := tq_be hf
  refine tq_putv (M := mX9_init) (pc := 15) tk_c9 (by decide) dX9_init_15 tk_RX9_14 rfl (Or.inr ⟨rfl, rfl⟩) ew3 (tq_nR _ _) ?_
  refine tq_aload_n (M := mX9_init) (pc := 18) dX9_init_18 rfl ?_
  obtain ⟨w4, ew4, hf⟩ := tq_le hf
  refine tq_newo (M := mX9_init) (pc := 19) tk_c5 dX9_init_19 tk_RX9_9 tk_in5 tk_ini5 (fs := [.null]) (fun j hj => by rcases (show j = 0 by omega) with rfl <;> rfl) (fun _ => ⟨rfl, trivial⟩) (bc' := 13) (bs' := 146) (by omega) (by omega) ?_
  rw [← ew4]
  refine tq_dup (M := mX9_init) (pc := 22) dX9_init_22 rfl ?_
  refine tq_bipush (M := mX9_init) (pc := 23) dX9_init_23 tk_kb_20 ?_
  refine tq_iconst (M := mX9_init) (pc := 25) dX9_init_25 tk_ki_m1 ?_
  obtain ⟨v5, ev5, hf⟩ := tq_be hf
  refine tq_calI (M := mX9_init) (pc := 26) (S := [.ref w3.1, .ref t]) tk_y_X5_init tk_v_X5_init rfl (Or.inl tk_RX9_11) dX9_init_26 [.int (20 : Int32), .int (-1 : Int32)] rfl (Nat.le_of_ble_eq_true rfl) (d1 := d - 1) (b1 := 1) (s1 := 20) (bc' := 12) (bs' := 126) (Q1 := fun r h9 => r = .inl none ∧ v5 = h9) (by omega) rfl rfl (w_X5_init (by omega) (N := 20) (by decide +kernel) (by decide +kernel) (by decide) ev5 (fun _ _ q => q)) (fun E h9 q => nomatch (show (Sum.inr E : tq_R) = Sum.inl _ from q.1)) (fun r9 h9 q => ?_)
  obtain ⟨q1, rfl⟩ := q
  cases (show (Sum.inl r9 : tq_R) = Sum.inl (none) from q1)
  obtain ⟨w6, ew6, hf⟩ := tq_be hf
  refine tq_putv (M := mX9_init) (pc := 29) tk_c9 (by decide) dX9_init_29 tk_RX9_20 rfl (Or.inr ⟨rfl, rfl⟩) ew6 (tq_nR _ _) ?_
  refine tq_aload_n (M := mX9_init) (pc := 32) dX9_init_32 rfl ?_
  obtain ⟨w7, ew7, hf⟩ := tq_le hf
  refine tq_newo (M := mX9_init) (pc := 33) tk_c5 dX9_init_33 tk_RX9_9 tk_in5 tk_ini5 (fs := [.null]) (fun j hj => by rcases (show j = 0 by omega) with rfl <;> rfl) (fun _ => ⟨rfl, trivial⟩) (bc' := 11) (bs' := 125) (by omega) (by omega) ?_
  rw [← ew7]
  refine tq_dup (M := mX9_init) (pc := 36) dX9_init_36 rfl ?_
  refine tq_bipush (M := mX9_init) (pc := 37) dX9_init_37 tk_kb_20 ?_
  refine tq_iconst (M := mX9_init) (pc := 39) dX9_init_39 tk_ki_m1 ?_
  obtain ⟨v8, ev8, hf⟩ := tq_be hf
  refine tq_calI (M := mX9_init) (pc := 40) (S := [.ref w6.1, .ref t]) tk_y_X5_init tk_v_X5_init rfl (Or.inl tk_RX9_11) dX9_init_40 [.int (20 : Int32), .int (-1 : Int32)] rfl (Nat.le_of_ble_eq_true rfl) (d1 := d - 1) (b1 := 1) (s1 := 20) (bc' := 10) (bs' := 105) (Q1 := fun r h9 => r = .inl none ∧ v8 = h9) (by omega) rfl rfl (w_X5_init (by omega) (N := 20) (by decide +kernel) (by decide +kernel) (by decide) ev8 (fun _ _ q => q)) (fun E h9 q => nomatch (show (Sum.inr E : tq_R) = Sum.inl _ from q.1)) (fun r9 h9 q => ?_)
  obtain ⟨q1, rfl⟩ := q
  cases (show (Sum.inl r9 : tq_R) = Sum.inl (none) from q1)
  obtain ⟨w9, ew9, hf⟩ := tq_be hf
  refine tq_putv (M := mX9_init) (pc := 43) tk_c9 (by decide) dX9_init_43 tk_RX9_23 rfl (Or.inr ⟨rfl, rfl⟩) ew9 (tq_nR _ _) ?_
  refine tq_aload_n (M := mX9_init) (pc := 46) dX9_init_46 rfl ?_
  obtain ⟨w10, ew10, hf⟩ := tq_le hf
  refine tq_newo (M := mX9_init) (pc := 47) tk_c5 dX9_init_47 tk_RX9_9 tk_in5 tk_ini5 (fs := [.null]) (fun j hj => by rcases (show j = 0 by omega) with rfl <;> rfl) (fun _ => ⟨rfl, trivial⟩) (bc' := 9) (bs' := 104) (by omega) (by omega) ?_
  rw [← ew10]
  refine tq_dup (M := mX9_init) (pc := 50) dX9_init_50 rfl ?_
  refine tq_bipush (M := mX9_init) (pc := 51) dX9_init_51 tk_kb_20 ?_
  refine tq_iconst (M := mX9_init) (pc := 53) dX9_init_53 tk_ki_m1 ?_
  obtain ⟨v11, ev11, hf⟩ := tq_be hf
  refine tq_calI (M := mX9_init) (pc := 54) (S := [.ref w9.1, .ref t]) tk_y_X5_init tk_v_X5_init rfl (Or.inl tk_RX9_11) dX9_init_54 [.int (20 : Int32), .int (-1 : Int32)] rfl (Nat.le_of_ble_eq_true rfl) (d1 := d - 1) (b1 := 1) (s1 := 20) (bc' := 8) (bs' := 84) (Q1 := fun r h9 => r = .inl none ∧ v11 = h9) (by omega) rfl rfl (w_X5_init (by omega) (N := 20) (by decide +kernel) (by decide +kernel) (by decide) ev11 (fun _ _ q => q)) (fun E h9 q => nomatch (show (Sum.inr E : tq_R) = Sum.inl _ from q.1)) (fun r9 h9 q => ?_)
  obtain ⟨q1, rfl⟩ := q
  cases (show (Sum.inl r9 : tq_R) = Sum.inl (none) from q1)
  obtain ⟨w12, ew12, hf⟩ := tq_be hf
  refine tq_putv (M := mX9_init) (pc := 57) tk_c9 (by decide) dX9_init_57 tk_RX9_26 rfl (Or.inr ⟨rfl, rfl⟩) ew12 (tq_nR _ _) ?_
  refine tq_aload_n (M := mX9_init) (pc := 60) dX9_init_60 rfl ?_
  obtain ⟨w13, ew13, hf⟩ := tq_le hf
  refine tq_newo (M := mX9_init) (pc := 61) tk_c5 dX9_init_61 tk_RX9_9 tk_in5 tk_ini5 (fs := [.null]) (fun j hj => by rcases (show j = 0 by omega) with rfl <;> rfl) (fun _ => ⟨rfl, trivial⟩) (bc' := 7) (bs' := 83) (by omega) (by omega) ?_
  rw [← ew13]
  refine tq_dup (M := mX9_init) (pc := 64) dX9_init_64 rfl ?_
  refine tq_bipush (M := mX9_init) (pc := 65) dX9_init_65 tk_kb_20 ?_
  refine tq_iconst (M := mX9_init) (pc := 67) dX9_init_67 tk_ki_m1 ?_
  obtain ⟨v14, ev14, hf⟩ := tq_be hf
  refine tq_calI (M := mX9_init) (pc := 68) (S := [.ref w12.1, .ref t]) tk_y_X5_init tk_v_X5_init rfl (Or.inl tk_RX9_11) dX9_init_68 [.int (20 : Int32), .int (-1 : Int32)] rfl (Nat.le_of_ble_eq_true rfl) (d1 := d - 1) (b1 := 1) (s1 := 20) (bc' := 6) (bs' := 63) (Q1 := fun r h9 => r = .inl none ∧ v14 = h9) (by omega) rfl rfl (w_X5_init (by omega) (N := 20) (by decide +kernel) (by decide +kernel) (by decide) ev14 (fun _ _ q => q)) (fun E h9 q => nomatch (show (Sum.inr E : tq_R) = Sum.inl _ from q.1)) (fun r9 h9 q => ?_)
  obtain ⟨q1, rfl⟩ := q
  cases (show (Sum.inl r9 : tq_R) = Sum.inl (none) from q1)
  obtain ⟨w15, ew15, hf⟩ := tq_be hf
  refine tq_putv (M := mX9_init) (pc := 71) tk_c9 (by decide) dX9_init_71 tk_RX9_29 rfl (Or.inr ⟨rfl, rfl⟩) ew15 (tq_nR _ _) ?_
  refine tq_aload_n (M := mX9_init) (pc := 74) dX9_init_74 rfl ?_
  obtain ⟨w16, ew16, hf⟩ := tq_le hf
  refine tq_newo (M := mX9_init) (pc := 75) tk_c5 dX9_init_75 tk_RX9_9 tk_in5 tk_ini5 (fs := [.null]) (fun j hj => by rcases (show j = 0 by omega) with rfl <;> rfl) (fun _ => ⟨rfl, trivial⟩) (bc' := 5) (bs' := 62) (by omega) (by omega) ?_
  rw [← ew16]
  refine tq_dup (M := mX9_init) (pc := 78) dX9_init_78 rfl ?_
  refine tq_bipush (M := mX9_init) (pc := 79) dX9_init_79 tk_kb_20 ?_
  refine tq_iconst (M := mX9_init) (pc := 81) dX9_init_81 tk_ki_m1 ?_
  obtain ⟨v17, ev17, hf⟩ := tq_be hf
  refine tq_calI (M := mX9_init) (pc := 82) (S := [.ref w15.1, .ref t]) tk_y_X5_init tk_v_X5_init rfl (Or.inl tk_RX9_11) dX9_init_82 [.int (20 : Int32), .int (-1 : Int32)] rfl (Nat.le_of_ble_eq_true rfl) (d1 := d - 1) (b1 := 1) (s1 := 20) (bc' := 4) (bs' := 42) (Q1 := fun r h9 => r = .inl none ∧ v17 = h9) (by omega) rfl rfl (w_X5_init (by omega) (N := 20) (by decide +kernel) (by decide +kernel) (by decide) ev17 (fun _ _ q => q)) (fun E h9 q => nomatch (show (Sum.inr E : tq_R) = Sum.inl _ from q.1)) (fun r9 h9 q => ?_)
  obtain ⟨q1, rfl⟩ := q
  cases (show (Sum.inl r9 : tq_R) = Sum.inl (none) from q1)
  obtain ⟨w18, ew18, hf⟩ := tq_be hf
  refine tq_putv (M := mX9_init) (pc := 85) tk_c9 (by decide) dX9_init_85 tk_RX9_32 rfl (Or.inr ⟨rfl, rfl⟩) ew18 (tq_nR _ _) ?_
  refine tq_aload_n (M := mX9_init) (pc := 88) dX9_init_88 rfl ?_
  obtain ⟨w19, ew19, hf⟩ := tq_le hf
  refine tq_newo (M := mX9_init) (pc := 89) tk_c5 dX9_init_89 tk_RX9_9 tk_in5 tk_ini5 (fs := [.null]) (fun j hj => by rcases (show j = 0 by omega) with rfl <;> rfl) (fun _ => ⟨rfl, trivial⟩) (bc' := 3) (bs' := 41) (by omega) (by omega) ?_
  rw [← ew19]
  refine tq_dup (M := mX9_init) (pc := 92) dX9_init_92 rfl ?_
  refine tq_bipush (M := mX9_init) (pc := 93) dX9_init_93 tk_kb_20 ?_
  refine tq_iconst (M := mX9_init) (pc := 95) dX9_init_95 tk_ki_m1 ?_
  obtain ⟨v20, ev20, hf⟩ := tq_be hf
  refine tq_calI (M := mX9_init) (pc := 96) (S := [.ref w18.1, .ref t]) tk_y_X5_init tk_v_X5_init rfl (Or.inl tk_RX9_11) dX9_init_96 [.int (20 : Int32), .int (-1 : Int32)] rfl (Nat.le_of_ble_eq_true rfl) (d1 := d - 1) (b1 := 1) (s1 := 20) (bc' := 2) (bs' := 21) (Q1 := fun r h9 => r = .inl none ∧ v20 = h9) (by omega) rfl rfl (w_X5_init (by omega) (N := 20) (by decide +kernel) (by decide +kernel) (by decide) ev20 (fun _ _ q => q)) (fun E h9 q => nomatch (show (Sum.inr E : tq_R) = Sum.inl _ from q.1)) (fun r9 h9 q => ?_)
  obtain ⟨q1, rfl⟩ := q
  cases (show (Sum.inl r9 : tq_R) = Sum.inl (none) from q1)
  obtain ⟨w21, ew21, hf⟩ := tq_be hf
  refine tq_putv (M := mX9_init) (pc := 99) tk_c9 (by decide) dX9_init_99 tk_RX9_35 rfl (Or.inr ⟨rfl, rfl⟩) ew21 (tq_nR _ _) ?_
  refine tq_aload_n (M := mX9_init) (pc := 102) dX9_init_102 rfl ?_
  obtain ⟨w22, ew22, hf⟩ := tq_le hf
  refine tq_newo (M := mX9_init) (pc := 103) tk_c5 dX9_init_103 tk_RX9_9 tk_in5 tk_ini5 (fs := [.null]) (fun j hj => by rcases (show j = 0 by omega) with rfl <;> rfl) (fun _ => ⟨rfl, trivial⟩) (bc' := 1) (bs' := 20) (by omega) (by omega) ?_
  rw [← ew22]
  refine tq_dup (M := mX9_init) (pc := 106) dX9_init_106 rfl ?_
  refine tq_bipush (M := mX9_init) (pc := 107) dX9_init_107 tk_kb_20 ?_
  refine tq_iconst (M := mX9_init) (pc := 109) dX9_init_109 tk_ki_m1 ?_
  obtain ⟨v23, ev23, hf⟩ := tq_be hf
  refine tq_calI (M := mX9_init) (pc := 110) (S := [.ref w21.1, .ref t]) tk_y_X5_init tk_v_X5_init rfl (Or.inl tk_RX9_11) dX9_init_110 [.int (20 : Int32), .int (-1 : Int32)] rfl (Nat.le_of_ble_eq_true rfl) (d1 := d - 1) (b1 := 1) (s1 := 20) (bc' := 0) (bs' := 0) (Q1 := fun r h9 => r = .inl none ∧ v23 = h9) (by omega) rfl rfl (w_X5_init (by omega) (N := 20) (by decide +kernel) (by decide +kernel) (by decide) ev23 (fun _ _ q => q)) (fun E h9 q => nomatch (show (Sum.inr E : tq_R) = Sum.inl _ from q.1)) (fun r9 h9 q => ?_)
  obtain ⟨q1, rfl⟩ := q
  cases (show (Sum.inl r9 : tq_R) = Sum.inl (none) from q1)
  obtain ⟨w24, ew24, hf⟩ := tq_be hf
  refine tq_putv (M := mX9_init) (pc := 113) tk_c9 (by decide) dX9_init_113 tk_RX9_38 rfl (Or.inr ⟨rfl, rfl⟩) ew24 (tq_nR _ _) ?_
  refine tq_aload_n (M := mX9_init) (pc := 116) dX9_init_116 rfl ?_
  refine tq_lconst (M := mX9_init) (pc := 117) dX9_init_117 tk_kl_0 ?_
  obtain ⟨w25, ew25, hf⟩ := tq_be hf
  refine tq_putv (M := mX9_init) (pc := 118) tk_c9 (by decide) dX9_init_118 tk_RX9_41 rfl (Or.inl rfl) ew25 (tq_nL _) ?_
  refine tq_aload_n (M := mX9_init) (pc := 121) dX9_init_121 rfl ?_
  refine tq_lconst (M := mX9_init) (pc := 122) dX9_init_122 tk_kl_0 ?_
  obtain ⟨w26, ew26, hf⟩ := tq_be hf
  refine tq_putv (M := mX9_init) (pc := 123) tk_c9 (by decide) dX9_init_123 tk_RX9_45 rfl (Or.inl rfl) ew26 (tq_nL _) ?_
  refine tq_aload_n (M := mX9_init) (pc := 126) dX9_init_126 rfl ?_
  refine tq_lconst (M := mX9_init) (pc := 127) dX9_init_127 tk_kl_0 ?_
  obtain ⟨w27, ew27, hf⟩ := tq_be hf
  refine tq_putv (M := mX9_init) (pc := 128) tk_c9 (by decide) dX9_init_128 tk_RX9_48 rfl (Or.inl rfl) ew27 (tq_nL _) ?_
  refine tq_aload_n (M := mX9_init) (pc := 131) dX9_init_131 rfl ?_
  refine tq_iconst (M := mX9_init) (pc := 132) dX9_init_132 tk_ki_0 ?_
  obtain ⟨w28, ew28, hf⟩ := tq_be hf
  refine tq_putv (M := mX9_init) (pc := 133) tk_c9 (by decide) dX9_init_133 tk_RX9_51 rfl (Or.inl rfl) ew28 (tq_nI _) ?_
  refine tq_vret (M := mX9_init) (pc := 136) dX9_init_136 rfl ?_
  cases (Option.some.inj hf)
  exact hQ _ _ ⟨rfl, rfl⟩
abbrev mX9_count : tq_M := (RX9, cX9_count, 1, (some .int), false, [], none)
def f_X9_count (t : Nat) (h : tq_H) : Option (Int32) :=
  (tq_gi h t 9 11).bind fun x1 =>
  some x1
set_option maxHeartbeats 4000000 in
set_option maxRecDepth 20000 in
theorem w_X9_count {l : Launch} {d : Nat} (hd9 : 0 ≤ d) {t : Nat} {h : tq_H} {o : Int32} {Q : tq_R → tq_H → Prop} (hf : f_X9_count t h = some o) (hQ : ∀ r h9, r = .inl (some (.int o)) ∧ h = h9 → Q r h9) : tq_C l yX9_count cX9_count 1 (some .int) d 0 0 [.ref t] h Q := by
  refine tq_body (y := yX9_count) false (by decide +kernel) (fun z => by cases z) (Nat.le_of_ble_eq_true rfl) ?_
  show tq_W l mX9_count d 0 0 Q 0 [(0, .ref t)] [] h
  refine tq_aload_n (M := mX9_count) (pc := 0) dX9_count_0 rfl ?_
  obtain ⟨x1, ex1, hf⟩ := tq_be hf
  refine tq_getI (M := mX9_count) (pc := 1) tk_c9 (by decide) dX9_count_1 tk_RX9_51 rfl ex1 ?_
  refine tq_iret (M := mX9_count) (pc := 4) dX9_count_4 rfl ?_
  cases (Option.some.inj hf)
  exact hQ _ _ ⟨rfl, rfl⟩
abbrev mX9_fresh : tq_M := (RX9, cX9_fresh, 1, (some .long), false, [], none)
def f_X9_fresh (t : Nat) (h : tq_H) : Option (Int64) :=
  (tq_gl h t 9 8).bind fun x1 =>
  some x1
set_option maxHeartbeats 4000000 in
set_option maxRecDepth 20000 in
theorem w_X9_fresh {l : Launch} {d : Nat} (hd9 : 0 ≤ d) {t : Nat} {h : tq_H} {o : Int64} {Q : tq_R → tq_H → Prop} (hf : f_X9_fresh t h = some o) (hQ : ∀ r h9, r = .inl (some (.long o)) ∧ h = h9 → Q r h9) : tq_C l yX9_fresh cX9_fresh 1 (some .long) d 0 0 [.ref t] h Q := by
  refine tq_body (y := yX9_fresh) false (by decide +kernel) (fun z => by cases z) (Nat.le_of_ble_eq_true rfl) ?_
  show tq_W l mX9_fresh d 0 0 Q 0 [(0, .ref t)] [] h
  refine tq_aload_n (M := mX9_fresh) (pc := 0) dX9_fresh_0 rfl ?_
  obtain ⟨x1, ex1, hf⟩ := tq_be hf
  refine tq_getL (M := mX9_fresh) (pc := 1) tk_c9 (by decide) dX9_fresh_1 tk_RX9_41 rfl ex1 ?_
  refine tq_lret (M := mX9_fresh) (pc := 4) dX9_fresh_4 rfl ?_
  cases (Option.some.inj hf)
  exact hQ _ _ ⟨rfl, rfl⟩
abbrev mX9_empty : tq_M := (RX9, cX9_empty, 2, (some .int), false, [], none)
def f_X9_empty (t : Nat) (h : tq_H) : Option (Int32 × tq_H) :=
  (tq_gi h t 9 11).bind fun x1 =>
  (tq_pf h t 9 11 (.int (0 : Int32))).bind fun w2 =>
  some (x1, w2)
set_option maxHeartbeats 4000000 in
set_option maxRecDepth 20000 in
theorem w_X9_empty {l : Launch} {d : Nat} (hd9 : 0 ≤ d) {t : Nat} {h : tq_H} {o : Int32 × tq_H} {Q : tq_R → tq_H → Prop} (hf : f_X9_empty t h = some o) (hQ : ∀ r h9, r = .inl (some (.int o.1)) ∧ o.2 = h9 → Q r h9) : tq_C l yX9_empty cX9_empty 2 (some .int) d 0 0 [.ref t] h Q := by
  refine tq_body (y := yX9_empty) false (by decide +kernel) (fun z => by cases z) (Nat.le_of_ble_eq_true rfl) ?_
  show tq_W l mX9_empty d 0 0 Q 0 [(0, .ref t)] [] h
  refine tq_aload_n (M := mX9_empty) (pc := 0) dX9_empty_0 rfl ?_
  obtain ⟨x1, ex1, hf⟩ := tq_be hf
  refine tq_getI (M := mX9_empty) (pc := 1) tk_c9 (by decide) dX9_empty_1 tk_RX9_51 rfl ex1 ?_
  refine tq_istore_n (M := mX9_empty) (pc := 4) rfl dX9_empty_4 (L2 := [(1, .int x1), (0, .ref t)]) (by decide) rfl ?_
  refine tq_aload_n (M := mX9_empty) (pc := 5) dX9_empty_5 rfl ?_
  refine tq_iconst (M := mX9_empty) (pc := 6) dX9_empty_6 tk_ki_0 ?_
  obtain ⟨w2, ew2, hf⟩ := tq_be hf
  refine tq_putv (M := mX9_empty) (pc := 7) tk_c9 (by decide) dX9_empty_7 tk_RX9_51 rfl (Or.inl rfl) ew2 (tq_nI _) ?_
  refine tq_iload_n (M := mX9_empty) (pc := 10) dX9_empty_10 rfl ?_
  refine tq_iret (M := mX9_empty) (pc := 11) dX9_empty_11 rfl ?_
  cases (Option.some.inj hf)
  exact hQ _ _ ⟨rfl, rfl⟩
abbrev mX9_add : tq_M := (RX9, cX9_add, 5, (some .int), false, [], none)
def f_X9_add (t : Nat) (a1 : Int32) (a2 : Int32) (a3 : Int32) (a4 : Int32) (h : tq_H) : Option (Int32 × tq_H) :=
  (tq_gr h t 9 0).bind fun k1 =>
  (tq_gi h t 9 11).bind fun x2 =>
  (tq_is h k1 5).bind fun _ =>
  (f_X5_set k1 x2 a1 h).bind fun v3 =>
  (tq_gr v3 t 9 1).bind fun k5 =>
  (tq_gi v3 t 9 11).bind fun x6 =>
  (tq_is v3 k5 5).bind fun _ =>
  (f_X5_set k5 x6 a2 v3).bind fun v7 =>
  (tq_gr v7 t 9 2).bind fun k9 =>
  (tq_gi v7 t 9 11).bind fun x10 =>
  (tq_is v7 k9 5).bind fun _ =>
  (f_X5_set k9 x10 a3 v7).bind fun v11 =>
  (tq_gr v11 t 9 3).bind fun k13 =>
  (tq_gi v11 t 9 11).bind fun x14 =>
  (tq_is v11 k13 5).bind fun _ =>
  (f_X5_set k13 x14 a4 v11).bind fun v15 =>
  (tq_gi v15 t 9 11).bind fun x17 =>
  (tq_pf v15 t 9 11 (.int ((x17 + (1 : Int32))))).bind fun w18 =>
  (tq_gi w18 t 9 11).bind fun x19 =>
  some (x19, w18)
set_option maxHeartbeats 4000000 in
set_option maxRecDepth 20000 in
theorem w_X9_add {l : Launch} {d : Nat} (hd9 : 1 ≤ d) {t : Nat} {a1 : Int32} {a2 : Int32} {a3 : Int32} {a4 : Int32} {h : tq_H} {o : Int32 × tq_H} {Q : tq_R → tq_H → Prop} (hf : f_X9_add t a1 a2 a3 a4 h = some o) (hQ : ∀ r h9, r = .inl (some (.int o.1)) ∧ o.2 = h9 → Q r h9) : tq_C l yX9_add cX9_add 5 (some .int) d 0 0 [.ref t, .int a1, .int a2, .int a3, .int a4] h Q := by
  refine tq_body (y := yX9_add) false (by decide +kernel) (fun z => by cases z) (Nat.le_of_ble_eq_true rfl) ?_
  show tq_W l mX9_add d 0 0 Q 0 [(0, .ref t), (1, .int a1), (2, .int a2), (3, .int a3), (4, .int a4)] [] h
  refine tq_aload_n (M := mX9_add) (pc := 0) dX9_add_0 rfl ?_
  obtain ⟨k1, ek1, hf⟩ := tq_be hf
  refine tq_getR (M := mX9_add) (pc := 1) tk_c9 (by decide) dX9_add_1 tk_RX9_14 rfl ek1 ?_
  refine tq_aload_n (M := mX9_add) (pc := 4) dX9_add_4 rfl ?_
  obtain ⟨x2, ex2, hf⟩ := tq_be hf
  refine tq_getI (M := mX9_add) (pc := 5) tk_c9 (by decide) dX9_add_5 tk_RX9_51 rfl ex2 ?_
  refine tq_iload_n (M := mX9_add) (pc := 8) dX9_add_8 rfl ?_
  obtain ⟨⟨⟩, eu4, hf⟩ := tq_be hf
  obtain ⟨fsu4, eu4⟩ := tq_is_s eu4
  obtain ⟨v3, ev3, hf⟩ := tq_be hf
  refine tq_calV (M := mX9_add) (pc := 9) (S := []) tk_y_X5_set tk_v_X5_set tk_RX9_55 dX9_add_9 [.int x2, .int a1] rfl (S0 := _) rfl eu4 rfl (Nat.le_of_ble_eq_true rfl) (d1 := d - 1) (b1 := 0) (s1 := 0) (bc' := 0) (bs' := 0) (Q1 := fun r h9 => r = .inl none ∧ v3 = h9) (by omega) rfl rfl (w_X5_set (by omega) ev3 (fun _ _ q => q)) (fun E h9 q => nomatch (show (Sum.inr E : tq_R) = Sum.inl _ from q.1)) (fun r9 h9 q => ?_)
  obtain ⟨q1, rfl⟩ := q
  cases (show (Sum.inl r9 : tq_R) = Sum.inl (none) from q1)
  refine tq_aload_n (M := mX9_add) (pc := 12) dX9_add_12 rfl ?_
  obtain ⟨k5, ek5, hf⟩ := tq_be hf
  refine tq_getR (M := mX9_add) (pc := 13) tk_c9 (by decide) dX9_add_13 tk_RX9_20 rfl ek5 ?_
  refine tq_aload_n (M := mX9_add) (pc := 16) dX9_add_16 rfl ?_
  obtain ⟨x6, ex6, hf⟩ := tq_be hf
  refine tq_getI (M := mX9_add) (pc := 17) tk_c9 (by decide) dX9_add_17 tk_RX9_51 rfl ex6 ?_
  refine tq_iload_n (M := mX9_add) (pc := 20) dX9_add_20 rfl ?_
  obtain ⟨⟨⟩, eu8, hf⟩ := tq_be hf
  obtain ⟨fsu8, eu8⟩ := tq_is_s eu8
  obtain ⟨v7, ev7, hf⟩ := tq_be hf
  refine tq_calV (M := mX9_add) (pc := 21) (S := []) tk_y_X5_set tk_v_X5_set tk_RX9_55 dX9_add_21 [.int x6, .int a2] rfl (S0 := _) rfl eu8 rfl (Nat.le_of_ble_eq_true rfl) (d1 := d - 1) (b1 := 0) (s1 := 0) (bc' := 0) (bs' := 0) (Q1 := fun r h9 => r = .inl none ∧ v7 = h9) (by omega) rfl rfl (w_X5_set (by omega) ev7 (fun _ _ q => q)) (fun E h9 q => nomatch (show (Sum.inr E : tq_R) = Sum.inl _ from q.1)) (fun r9 h9 q => ?_)
  obtain ⟨q1, rfl⟩ := q
  cases (show (Sum.inl r9 : tq_R) = Sum.inl (none) from q1)
  refine tq_aload_n (M := mX9_add) (pc := 24) dX9_add_24 rfl ?_
  obtain ⟨k9, ek9, hf⟩ := tq_be hf
  refine tq_getR (M := mX9_add) (pc := 25) tk_c9 (by decide) dX9_add_25 tk_RX9_23 rfl ek9 ?_
  refine tq_aload_n (M := mX9_add) (pc := 28) dX9_add_28 rfl ?_
  obtain ⟨x10, ex10, hf⟩ := tq_be hf
  refine tq_getI (M := mX9_add) (pc := 29) tk_c9 (by decide) dX9_add_29 tk_RX9_51 rfl ex10 ?_
  refine tq_iload_n (M := mX9_add) (pc := 32) dX9_add_32 rfl ?_
  obtain ⟨⟨⟩, eu12, hf⟩ := tq_be hf
  obtain ⟨fsu12, eu12⟩ := tq_is_s eu12
  obtain ⟨v11, ev11, hf⟩ := tq_be hf
  refine tq_calV (M := mX9_add) (pc := 33) (S := []) tk_y_X5_set tk_v_X5_set tk_RX9_55 dX9_add_33 [.int x10, .int a3] rfl (S0 := _) rfl eu12 rfl (Nat.le_of_ble_eq_true rfl) (d1 := d - 1) (b1 := 0) (s1 := 0) (bc' := 0) (bs' := 0) (Q1 := fun r h9 => r = .inl none ∧ v11 = h9) (by omega) rfl rfl (w_X5_set (by omega) ev11 (fun _ _ q => q)) (fun E h9 q => nomatch (show (Sum.inr E : tq_R) = Sum.inl _ from q.1)) (fun r9 h9 q => ?_)
  obtain ⟨q1, rfl⟩ := q
  cases (show (Sum.inl r9 : tq_R) = Sum.inl (none) from q1)
  refine tq_aload_n (M := mX9_add) (pc := 36) dX9_add_36 rfl ?_
  obtain ⟨k13, ek13, hf⟩ := tq_be hf
  refine tq_getR (M := mX9_add) (pc := 37) tk_c9 (by decide) dX9_add_37 tk_RX9_26 rfl ek13 ?_
  refine tq_aload_n (M := mX9_add) (pc := 40) dX9_add_40 rfl ?_
  obtain ⟨x14, ex14, hf⟩ := tq_be hf
  refine tq_getI (M := mX9_add) (pc := 41) tk_c9 (by decide) dX9_add_41 tk_RX9_51 rfl ex14 ?_
  refine tq_iload (M := mX9_add) (pc := 44) dX9_add_44 rfl ?_
  obtain ⟨⟨⟩, eu16, hf⟩ := tq_be hf
  obtain ⟨fsu16, eu16⟩ := tq_is_s eu16
  obtain ⟨v15, ev15, hf⟩ := tq_be hf
  refine tq_calV (M := mX9_add) (pc := 46) (S := []) tk_y_X5_set tk_v_X5_set tk_RX9_55 dX9_add_46 [.int x14, .int a4] rfl (S0 := _) rfl eu16 rfl (Nat.le_of_ble_eq_true rfl) (d1 := d - 1) (b1 := 0) (s1 := 0) (bc' := 0) (bs' := 0) (Q1 := fun r h9 => r = .inl none ∧ v15 = h9) (by omega) rfl rfl (w_X5_set (by omega) ev15 (fun _ _ q => q)) (fun E h9 q => nomatch (show (Sum.inr E : tq_R) = Sum.inl _ from q.1)) (fun r9 h9 q => ?_)
  obtain ⟨q1, rfl⟩ := q
  cases (show (Sum.inl r9 : tq_R) = Sum.inl (none) from q1)
  refine tq_aload_n (M := mX9_add) (pc := 49) dX9_add_49 rfl ?_
  refine tq_dup (M := mX9_add) (pc := 50) dX9_add_50 rfl ?_
  obtain ⟨x17, ex17, hf⟩ := tq_be hf
  refine tq_getI (M := mX9_add) (pc := 51) tk_c9 (by decide) dX9_add_51 tk_RX9_51 rfl ex17 ?_
  refine tq_iconst (M := mX9_add) (pc := 54) dX9_add_54 tk_ki_1 ?_
  refine tq_iadd (M := mX9_add) (pc := 55) dX9_add_55 ?_
  obtain ⟨w18, ew18, hf⟩ := tq_be hf
  refine tq_putv (M := mX9_add) (pc := 56) tk_c9 (by decide) dX9_add_56 tk_RX9_51 rfl (Or.inl rfl) ew18 (tq_nI _) ?_
  refine tq_aload_n (M := mX9_add) (pc := 59) dX9_add_59 rfl ?_
  obtain ⟨x19, ex19, hf⟩ := tq_be hf
  refine tq_getI (M := mX9_add) (pc := 60) tk_c9 (by decide) dX9_add_60 tk_RX9_51 rfl ex19 ?_
  refine tq_iret (M := mX9_add) (pc := 63) dX9_add_63 rfl ?_
  cases (Option.some.inj hf)
  exact hQ _ _ ⟨rfl, rfl⟩
abbrev mX9_addInsert : tq_M := (RX9, cX9_addInsert, 6, (some .int), false, [], none)
def f_X9_addInsert (t : Nat) (a1 : Int32) (a2 : Int32) (a3 : Int32) (a4 : Int32) (a5 : Int32) (h : tq_H) : Option (Int32 × tq_H) :=
  (tq_gr h t 9 4).bind fun k1 =>
  (tq_gi h t 9 11).bind fun x2 =>
  (tq_is h k1 5).bind fun _ =>
  (f_X5_set k1 x2 a1 h).bind fun v3 =>
  (tq_gr v3 t 9 5).bind fun k5 =>
  (tq_gi v3 t 9 11).bind fun x6 =>
  (tq_is v3 k5 5).bind fun _ =>
  (f_X5_set k5 x6 a4 v3).bind fun v7 =>
  (tq_gr v7 t 9 6).bind fun k9 =>
  (tq_gi v7 t 9 11).bind fun x10 =>
  (tq_is v7 k9 5).bind fun _ =>
  (f_X5_set k9 x10 a5 v7).bind fun v11 =>
  (tq_is v11 t 9).bind fun _ =>
  (f_X9_add t (0 : Int32) (-1 : Int32) a2 a3 v11).bind fun v13 =>
  some (v13.1, v13.2)
set_option maxHeartbeats 4000000 in
set_option maxRecDepth 20000 in
theorem w_X9_addInsert {l : Launch} {d : Nat} (hd9 : 2 ≤ d) {t : Nat} {a1 : Int32} {a2 : Int32} {a3 : Int32} {a4 : Int32} {a5 : Int32} {h : tq_H} {o : Int32 × tq_H} {Q : tq_R → tq_H → Prop} (hf : f_X9_addInsert t a1 a2 a3 a4 a5 h = some o) (hQ : ∀ r h9, r = .inl (some (.int o.1)) ∧ o.2 = h9 → Q r h9) : tq_C l yX9_addInsert cX9_addInsert 6 (some .int) d 0 0 [.ref t, .int a1, .int a2, .int a3, .int a4, .int a5] h Q := by
  refine tq_body (y := yX9_addInsert) false (by decide +kernel) (fun z => by cases z) (Nat.le_of_ble_eq_true rfl) ?_
  show tq_W l mX9_addInsert d 0 0 Q 0 [(0, .ref t), (1, .int a1), (2, .int a2), (3, .int a3), (4, .int a4), (5, .int a5)] [] h
  refine tq_aload_n (M := mX9_addInsert) (pc := 0) dX9_addInsert_0 rfl ?_
  obtain ⟨k1, ek1, hf⟩ := tq_be hf
  refine tq_getR (M := mX9_addInsert) (pc := 1) tk_c9 (by decide) dX9_addInsert_1 tk_RX9_29 rfl ek1 ?_
  refine tq_aload_n (M := mX9_addInsert) (pc := 4) dX9_addInsert_4 rfl ?_
  obtain ⟨x2, ex2, hf⟩ := tq_be hf
  refine tq_getI (M := mX9_addInsert) (pc := 5) tk_c9 (by decide) dX9_addInsert_5 tk_RX9_51 rfl ex2 ?_
  refine tq_iload_n (M := mX9_addInsert) (pc := 8) dX9_addInsert_8 rfl ?_
  obtain ⟨⟨⟩, eu4, hf⟩ := tq_be hf
  obtain ⟨fsu4, eu4⟩ := tq_is_s eu4
  obtain ⟨v3, ev3, hf⟩ := tq_be hf
  refine tq_calV (M := mX9_addInsert) (pc := 9) (S := []) tk_y_X5_set tk_v_X5_set tk_RX9_55 dX9_addInsert_9 [.int x2, .int a1] rfl (S0 := _) rfl eu4 rfl (Nat.le_of_ble_eq_true rfl) (d1 := d - 1) (b1 := 0) (s1 := 0) (bc' := 0) (bs' := 0) (Q1 := fun r h9 => r = .inl none ∧ v3 = h9) (by omega) rfl rfl (w_X5_set (by omega) ev3 (fun _ _ q => q)) (fun E h9 q => nomatch (show (Sum.inr E : tq_R) = Sum.inl _ from q.1)) (fun r9 h9 q => ?_)
  obtain ⟨q1, rfl⟩ := q
  cases (show (Sum.inl r9 : tq_R) = Sum.inl (none) from q1)
  refine tq_aload_n (M := mX9_addInsert) (pc := 12) dX9_addInsert_12 rfl ?_
  obtain ⟨k5, ek5, hf⟩ := tq_be hf
  refine tq_getR (M := mX9_addInsert) (pc := 13) tk_c9 (by decide) dX9_addInsert_13 tk_RX9_32 rfl ek5 ?_
  refine tq_aload_n (M := mX9_addInsert) (pc := 16) dX9_addInsert_16 rfl ?_
  obtain ⟨x6, ex6, hf⟩ := tq_be hf
  refine tq_getI (M := mX9_addInsert) (pc := 17) tk_c9 (by decide) dX9_addInsert_17 tk_RX9_51 rfl ex6 ?_
  refine tq_iload (M := mX9_addInsert) (pc := 20) dX9_addInsert_20 rfl ?_
  obtain ⟨⟨⟩, eu8, hf⟩ := tq_be hf
  obtain ⟨fsu8, eu8⟩ := tq_is_s eu8
  obtain ⟨v7, ev7, hf⟩ := tq_be hf
  refine tq_calV (M := mX9_addInsert) (pc := 22) (S := []) tk_y_X5_set tk_v_X5_set tk_RX9_55 dX9_addInsert_22 [.int x6, .int a4] rfl (S0 := _) rfl eu8 rfl (Nat.le_of_ble_eq_true rfl) (d1 := d - 1) (b1 := 0) (s1 := 0) (bc' := 0) (bs' := 0) (Q1 := fun r h9 => r = .inl none ∧ v7 = h9) (by omega) rfl rfl (w_X5_set (by omega) ev7 (fun _ _ q => q)) (fun E h9 q => nomatch (show (Sum.inr E : tq_R) = Sum.inl _ from q.1)) (fun r9 h9 q => ?_)
  obtain ⟨q1, rfl⟩ := q
  cases (show (Sum.inl r9 : tq_R) = Sum.inl (none) from q1)
  refine tq_aload_n (M := mX9_addInsert) (pc := 25) dX9_addInsert_25 rfl ?_
  obtain ⟨k9, ek9, hf⟩ := tq_be hf
  refine tq_getR (M := mX9_addInsert) (pc := 26) tk_c9 (by decide) dX9_addInsert_26 tk_RX9_35 rfl ek9 ?_
  refine tq_aload_n (M := mX9_addInsert) (pc := 29) dX9_addInsert_29 rfl ?_
  obtain ⟨x10, ex10, hf⟩ := tq_be hf
  refine tq_getI (M := mX9_addInsert) (pc := 30) tk_c9 (by decide) dX9_addInsert_30 tk_RX9_51 rfl ex10 ?_
  refine tq_iload (M := mX9_addInsert) (pc := 33) dX9_addInsert_33 rfl ?_
  obtain ⟨⟨⟩, eu12, hf⟩ := tq_be hf
  obtain ⟨fsu12, eu12⟩ := tq_is_s eu12
  obtain ⟨v11, ev11, hf⟩ := tq_be hf
  refine tq_calV (M := mX9_addInsert) (pc := 35) (S := []) tk_y_X5_set tk_v_X5_set tk_RX9_55 dX9_addInsert_35 [.int x10, .int a5] rfl (S0 := _) rfl eu12 rfl (Nat.le_of_ble_eq_true rfl) (d1 := d - 1) (b1 := 0) (s1 := 0) (bc' := 0) (bs' := 0) (Q1 := fun r h9 => r = .inl none ∧ v11 = h9) (by omega) rfl rfl (w_X5_set (by omega) ev11 (fun _ _ q => q)) (fun E h9 q => nomatch (show (Sum.inr E : tq_R) = Sum.inl _ from q.1)) (fun r9 h9 q => ?_)
  obtain ⟨q1, rfl⟩ := q
  cases (show (Sum.inl r9 : tq_R) = Sum.inl (none) from q1)
  refine tq_aload_n (M := mX9_addInsert) (pc := 38) dX9_addInsert_38 rfl ?_
  refine tq_iconst (M := mX9_addInsert) (pc := 39) dX9_addInsert_39 tk_ki_0 ?_
  refine tq_iconst (M := mX9_addInsert) (pc := 40) dX9_addInsert_40 tk_ki_m1 ?_
  refine tq_iload_n (M := mX9_addInsert) (pc := 41) dX9_addInsert_41 rfl ?_
  refine tq_iload_n (M := mX9_addInsert) (pc := 42) dX9_addInsert_42 rfl ?_
  obtain ⟨⟨⟩, eu14, hf⟩ := tq_be hf
  obtain ⟨fsu14, eu14⟩ := tq_is_s eu14
  obtain ⟨v13, ev13, hf⟩ := tq_be hf
  refine tq_calV (M := mX9_addInsert) (pc := 43) (S := []) tk_y_X9_add tk_v_X9_add tk_RX9_58 dX9_addInsert_43 [.int (0 : Int32), .int (-1 : Int32), .int a2, .int a3] rfl (S0 := _) rfl eu14 rfl (Nat.le_of_ble_eq_true rfl) (d1 := d - 1) (b1 := 0) (s1 := 0) (bc' := 0) (bs' := 0) (Q1 := fun r h9 => r = .inl (some (.int v13.1)) ∧ v13.2 = h9) (by omega) rfl rfl (w_X9_add (by omega) ev13 (fun _ _ q => q)) (fun E h9 q => nomatch (show (Sum.inr E : tq_R) = Sum.inl _ from q.1)) (fun r9 h9 q => ?_)
  obtain ⟨q1, rfl⟩ := q
  cases (show (Sum.inl r9 : tq_R) = Sum.inl (some (.int v13.1)) from q1)
  refine tq_iret (M := mX9_addInsert) (pc := 46) dX9_addInsert_46 rfl ?_
  cases (Option.some.inj hf)
  exact hQ _ _ ⟨rfl, rfl⟩
abbrev mX9_addMove : tq_M := (RX9, cX9_addMove, 4, (some .int), false, [], none)
def f_X9_addMove (t : Nat) (a1 : Int32) (a2 : Int32) (a3 : Int32) (h : tq_H) : Option (Int32 × tq_H) :=
  (tq_is h t 9).bind fun _ =>
  (f_X9_add t (4 : Int32) a1 a2 a3 h).bind fun v1 =>
  some (v1.1, v1.2)
set_option maxHeartbeats 4000000 in
set_option maxRecDepth 20000 in
theorem w_X9_addMove {l : Launch} {d : Nat} (hd9 : 2 ≤ d) {t : Nat} {a1 : Int32} {a2 : Int32} {a3 : Int32} {h : tq_H} {o : Int32 × tq_H} {Q : tq_R → tq_H → Prop} (hf : f_X9_addMove t a1 a2 a3 h = some o) (hQ : ∀ r h9, r = .inl (some (.int o.1)) ∧ o.2 = h9 → Q r h9) : tq_C l yX9_addMove cX9_addMove 4 (some .int) d 0 0 [.ref t, .int a1, .int a2, .int a3] h Q := by
  refine tq_body (y := yX9_addMove) false (by decide +kernel) (fun z => by cases z) (Nat.le_of_ble_eq_true rfl) ?_
  show tq_W l mX9_addMove d 0 0 Q 0 [(0, .ref t), (1, .int a1), (2, .int a2), (3, .int a3)] [] h
  refine tq_aload_n (M := mX9_addMove) (pc := 0) dX9_addMove_0 rfl ?_
  refine tq_iconst (M := mX9_addMove) (pc := 1) dX9_addMove_1 tk_ki_4 ?_
  refine tq_iload_n (M := mX9_addMove) (pc := 2) dX9_addMove_2 rfl ?_
  refine tq_iload_n (M := mX9_addMove) (pc := 3) dX9_addMove_3 rfl ?_
  refine tq_iload_n (M := mX9_addMove) (pc := 4) dX9_addMove_4 rfl ?_
  obtain ⟨⟨⟩, eu2, hf⟩ := tq_be hf
  obtain ⟨fsu2, eu2⟩ := tq_is_s eu2
  obtain ⟨v1, ev1, hf⟩ := tq_be hf
  refine tq_calV (M := mX9_addMove) (pc := 5) (S := []) tk_y_X9_add tk_v_X9_add tk_RX9_58 dX9_addMove_5 [.int (4 : Int32), .int a1, .int a2, .int a3] rfl (S0 := _) rfl eu2 rfl (Nat.le_of_ble_eq_true rfl) (d1 := d - 1) (b1 := 0) (s1 := 0) (bc' := 0) (bs' := 0) (Q1 := fun r h9 => r = .inl (some (.int v1.1)) ∧ v1.2 = h9) (by omega) rfl rfl (w_X9_add (by omega) ev1 (fun _ _ q => q)) (fun E h9 q => nomatch (show (Sum.inr E : tq_R) = Sum.inl _ from q.1)) (fun r9 h9 q => ?_)
  obtain ⟨q1, rfl⟩ := q
  cases (show (Sum.inl r9 : tq_R) = Sum.inl (some (.int v1.1)) from q1)
  refine tq_iret (M := mX9_addMove) (pc := 8) dX9_addMove_8 rfl ?_
  cases (Option.some.inj hf)
  exact hQ _ _ ⟨rfl, rfl⟩
abbrev mX9_addChange : tq_M := (RX9, cX9_addChange, 4, (some .int), false, [], none)
def f_X9_addChange (t : Nat) (a1 : Int32) (a2 : Int32) (a3 : Int32) (h : tq_H) : Option (Int32 × tq_H) :=
  (tq_gr h t 9 6).bind fun k1 =>
  (tq_gi h t 9 11).bind fun x2 =>
  (tq_is h k1 5).bind fun _ =>
  (f_X5_set k1 x2 a3 h).bind fun v3 =>
  (tq_is v3 t 9).bind fun _ =>
  (f_X9_add t a1 a2 (-1 : Int32) (-1 : Int32) v3).bind fun v5 =>
  some (v5.1, v5.2)
set_option maxHeartbeats 4000000 in
set_option maxRecDepth 20000 in
theorem w_X9_addChange {l : Launch} {d : Nat} (hd9 : 2 ≤ d) {t : Nat} {a1 : Int32} {a2 : Int32} {a3 : Int32} {h : tq_H} {o : Int32 × tq_H} {Q : tq_R → tq_H → Prop} (hf : f_X9_addChange t a1 a2 a3 h = some o) (hQ : ∀ r h9, r = .inl (some (.int o.1)) ∧ o.2 = h9 → Q r h9) : tq_C l yX9_addChange cX9_addChange 4 (some .int) d 0 0 [.ref t, .int a1, .int a2, .int a3] h Q := by
  refine tq_body (y := yX9_addChange) false (by decide +kernel) (fun z => by cases z) (Nat.le_of_ble_eq_true rfl) ?_
  show tq_W l mX9_addChange d 0 0 Q 0 [(0, .ref t), (1, .int a1), (2, .int a2), (3, .int a3)] [] h
  refine tq_aload_n (M := mX9_addChange) (pc := 0) dX9_addChange_0 rfl ?_
  obtain ⟨k1, ek1, hf⟩ := tq_be hf
  refine tq_getR (M := mX9_addChange) (pc := 1) tk_c9 (by decide) dX9_addChange_1 tk_RX9_35 rfl ek1 ?_
  refine tq_aload_n (M := mX9_addChange) (pc := 4) dX9_addChange_4 rfl ?_
  obtain ⟨x2, ex2, hf⟩ := tq_be hf
  refine tq_getI (M := mX9_addChange) (pc := 5) tk_c9 (by decide) dX9_addChange_5 tk_RX9_51 rfl ex2 ?_
  refine tq_iload_n (M := mX9_addChange) (pc := 8) dX9_addChange_8 rfl ?_
  obtain ⟨⟨⟩, eu4, hf⟩ := tq_be hf
  obtain ⟨fsu4, eu4⟩ := tq_is_s eu4
  obtain ⟨v3, ev3, hf⟩ := tq_be hf
  refine tq_calV (M := mX9_addChange) (pc := 9) (S := []) tk_y_X5_set tk_v_X5_set tk_RX9_55 dX9_addChange_9 [.int x2, .int a3] rfl (S0 := _) rfl eu4 rfl (Nat.le_of_ble_eq_true rfl) (d1 := d - 1) (b1 := 0) (s1 := 0) (bc' := 0) (bs' := 0) (Q1 := fun r h9 => r = .inl none ∧ v3 = h9) (by omega) rfl rfl (w_X5_set (by omega) ev3 (fun _ _ q => q)) (fun E h9 q => nomatch (show (Sum.inr E : tq_R) = Sum.inl _ from q.1)) (fun r9 h9 q => ?_)
  obtain ⟨q1, rfl⟩ := q
  cases (show (Sum.inl r9 : tq_R) = Sum.inl (none) from q1)
  refine tq_aload_n (M := mX9_addChange) (pc := 12) dX9_addChange_12 rfl ?_
  refine tq_iload_n (M := mX9_addChange) (pc := 13) dX9_addChange_13 rfl ?_
  refine tq_iload_n (M := mX9_addChange) (pc := 14) dX9_addChange_14 rfl ?_
  refine tq_iconst (M := mX9_addChange) (pc := 15) dX9_addChange_15 tk_ki_m1 ?_
  refine tq_iconst (M := mX9_addChange) (pc := 16) dX9_addChange_16 tk_ki_m1 ?_
  obtain ⟨⟨⟩, eu6, hf⟩ := tq_be hf
  obtain ⟨fsu6, eu6⟩ := tq_is_s eu6
  obtain ⟨v5, ev5, hf⟩ := tq_be hf
  refine tq_calV (M := mX9_addChange) (pc := 17) (S := []) tk_y_X9_add tk_v_X9_add tk_RX9_58 dX9_addChange_17 [.int a1, .int a2, .int (-1 : Int32), .int (-1 : Int32)] rfl (S0 := _) rfl eu6 rfl (Nat.le_of_ble_eq_true rfl) (d1 := d - 1) (b1 := 0) (s1 := 0) (bc' := 0) (bs' := 0) (Q1 := fun r h9 => r = .inl (some (.int v5.1)) ∧ v5.2 = h9) (by omega) rfl rfl (w_X9_add (by omega) ev5 (fun _ _ q => q)) (fun E h9 q => nomatch (show (Sum.inr E : tq_R) = Sum.inl _ from q.1)) (fun r9 h9 q => ?_)
  obtain ⟨q1, rfl⟩ := q
  cases (show (Sum.inl r9 : tq_R) = Sum.inl (some (.int v5.1)) from q1)
  refine tq_iret (M := mX9_addChange) (pc := 20) dX9_addChange_20 rfl ?_
  cases (Option.some.inj hf)
  exact hQ _ _ ⟨rfl, rfl⟩
abbrev mX9_isStale : tq_M := (RX9, cX9_isStale, 5, (some .boolean), false, [], none)
def f_X9_isStale (t : Nat) (a1 : Nat) (a2 : Int32) (h : tq_H) : Option (Int32) :=
  (tq_gr h t 9 1).bind fun k1 =>
  (tq_is h k1 5).bind fun _ =>
  (f_X5_get k1 a2 h).bind fun v2 =>
  (tq_gr h t 9 2).bind fun k4 =>
  (tq_is h k4 5).bind fun _ =>
  (f_X5_get k4 a2 h).bind fun v5 =>
  if v2 = (-1 : Int32) then
    if v5 = (-1 : Int32) then
      some (0 : Int32)
    else
      (tq_gr h a1 8 0).bind fun k7 =>
      (tq_is h k7 3).bind fun _ =>
      (f_X3_holds k7 v5 h).bind fun v8 =>
      (if v8 = 0 then
        some (1 : Int32)
      else
        (tq_gr h t 9 3).bind fun k10 =>
        (tq_is h k10 5).bind fun _ =>
        (f_X5_get k10 a2 h).bind fun v11 =>
        (tq_gr h a1 8 0).bind fun k13 =>
        (tq_is h k13 3).bind fun _ =>
        (f_X3_childCount k13 v5 h).bind fun v14 =>
        if v11 ≤ v14 then
          some (0 : Int32)
        else
          some (1 : Int32)).bind fun p16 =>
      (tq_bz p16).bind fun z17 =>
      some z17
  else
    (tq_gr h a1 8 0).bind fun k18 =>
    (tq_is h k18 3).bind fun _ =>
    (f_X3_holds k18 v2 h).bind fun v19 =>
    if v19 = 0 then
      some (1 : Int32)
    else
      if v5 = (-1 : Int32) then
        some (0 : Int32)
      else
        (tq_gr h a1 8 0).bind fun k21 =>
        (tq_is h k21 3).bind fun _ =>
        (f_X3_holds k21 v5 h).bind fun v22 =>
        (if v22 = 0 then
          some (1 : Int32)
        else
          (tq_gr h t 9 3).bind fun k24 =>
          (tq_is h k24 5).bind fun _ =>
          (f_X5_get k24 a2 h).bind fun v25 =>
          (tq_gr h a1 8 0).bind fun k27 =>
          (tq_is h k27 3).bind fun _ =>
          (f_X3_childCount k27 v5 h).bind fun v28 =>
          if v25 ≤ v28 then
            some (0 : Int32)
          else
            some (1 : Int32)).bind fun p30 =>
        (tq_bz p30).bind fun z31 =>
        some z31
set_option maxHeartbeats 4000000 in
set_option maxRecDepth 20000 in
theorem w_X9_isStale {l : Launch} {d : Nat} (hd9 : 3 ≤ d) {t : Nat} {a1 : Nat} {a2 : Int32} {h : tq_H} {o : Int32} {Q : tq_R → tq_H → Prop} (hf : f_X9_isStale t a1 a2 h = some o) (hQ : ∀ r h9, r = .inl (some (.int o)) ∧ h = h9 → Q r h9) : tq_C l yX9_isStale cX9_isStale 5 (some .boolean) d 0 0 [.ref t, .ref a1, .int a2] h Q := by
  refine tq_body (y := yX9_isStale) false (by decide +kernel) (fun z => by cases z) (Nat.le_of_ble_eq_true rfl) ?_
  show tq_W l mX9_isStale d 0 0 Q 0 [(0, .ref t), (1, .ref a1), (2, .int a2)] [] h
  refine tq_aload_n (M := mX9_isStale) (pc := 0) dX9_isStale_0 rfl ?_
  obtain ⟨k1, ek1, hf⟩ := tq_be hf
  refine tq_getR (M := mX9_isStale) (pc := 1) tk_c9 (by decide) dX9_isStale_1 tk_RX9_20 rfl ek1 ?_
  refine tq_iload_n (M := mX9_isStale) (pc := 4) dX9_isStale_4 rfl ?_
  obtain ⟨⟨⟩, eu3, hf⟩ := tq_be hf
  obtain ⟨fsu3, eu3⟩ := tq_is_s eu3
  obtain ⟨v2, ev2, hf⟩ := tq_be hf
  refine tq_calV (M := mX9_isStale) (pc := 5) (S := []) tk_y_X5_get tk_v_X5_get tk_RX9_70 dX9_isStale_5 [.int a2] rfl (S0 := _) rfl eu3 rfl (Nat.le_of_ble_eq_true rfl) (d1 := d - 1) (b1 := 0) (s1 := 0) (bc' := 0) (bs' := 0) (Q1 := fun r h9 => r = .inl (some (.int v2)) ∧ h = h9) (by omega) rfl rfl (w_X5_get (by omega) ev2 (fun _ _ q => q)) (fun E h9 q => nomatch (show (Sum.inr E : tq_R) = Sum.inl _ from q.1)) (fun r9 h9 q => ?_)
  obtain ⟨q1, rfl⟩ := q
  cases (show (Sum.inl r9 : tq_R) = Sum.inl (some (.int v2)) from q1)
  refine tq_istore_n (M := mX9_isStale) (pc := 8) rfl dX9_isStale_8 (L2 := [(3, .int v2), (0, .ref t), (1, .ref a1), (2, .int a2)]) (by decide) rfl ?_
  refine tq_aload_n (M := mX9_isStale) (pc := 9) dX9_isStale_9 rfl ?_
  obtain ⟨k4, ek4, hf⟩ := tq_be hf
  refine tq_getR (M := mX9_isStale) (pc := 10) tk_c9 (by decide) dX9_isStale_10 tk_RX9_23 rfl ek4 ?_
  refine tq_iload_n (M := mX9_isStale) (pc := 13) dX9_isStale_13 rfl ?_
  obtain ⟨⟨⟩, eu6, hf⟩ := tq_be hf
  obtain ⟨fsu6, eu6⟩ := tq_is_s eu6
  obtain ⟨v5, ev5, hf⟩ := tq_be hf
  refine tq_calV (M := mX9_isStale) (pc := 14) (S := []) tk_y_X5_get tk_v_X5_get tk_RX9_70 dX9_isStale_14 [.int a2] rfl (S0 := _) rfl eu6 rfl (Nat.le_of_ble_eq_true rfl) (d1 := d - 1) (b1 := 0) (s1 := 0) (bc' := 0) (bs' := 0) (Q1 := fun r h9 => r = .inl (some (.int v5)) ∧ h = h9) (by omega) rfl rfl (w_X5_get (by omega) ev5 (fun _ _ q => q)) (fun E h9 q => nomatch (show (Sum.inr E : tq_R) = Sum.inl _ from q.1)) (fun r9 h9 q => ?_)
  obtain ⟨q1, rfl⟩ := q
  cases (show (Sum.inl r9 : tq_R) = Sum.inl (some (.int v5)) from q1)
  refine tq_istore (M := mX9_isStale) (pc := 17) dX9_isStale_17 (L2 := [(4, .int v5), (3, .int v2), (0, .ref t), (1, .ref a1), (2, .int a2)]) (by decide) rfl ?_
  refine tq_iload_n (M := mX9_isStale) (pc := 19) dX9_isStale_19 rfl ?_
  refine tq_iconst (M := mX9_isStale) (pc := 20) dX9_isStale_20 tk_ki_m1 ?_
  refine tq_icmp_eq (M := mX9_isStale) (pc := 21) (tgt := 37) dX9_isStale_21 (by decide) (fun cc => ?_) (fun cc => ?_)
  · have hf := tq_ifp hf cc
    refine tq_iload (M := mX9_isStale) (pc := 37) dX9_isStale_37 rfl ?_
    refine tq_iconst (M := mX9_isStale) (pc := 39) dX9_isStale_39 tk_ki_m1 ?_
    refine tq_icmp_ne (M := mX9_isStale) (pc := 40) (tgt := 45) dX9_isStale_40 (by decide) (fun cc => ?_) (fun cc => ?_)
    · have hf := tq_ifn hf cc
      refine tq_aload_n (M := mX9_isStale) (pc := 45) dX9_isStale_45 rfl ?_
      obtain ⟨k7, ek7, hf⟩ := tq_be hf
      refine tq_getR (M := mX9_isStale) (pc := 46) tk_c8 (by decide) dX9_isStale_46 tk_RX9_80 rfl ek7 ?_
      refine tq_iload (M := mX9_isStale) (pc := 49) dX9_isStale_49 rfl ?_
      obtain ⟨⟨⟩, eu9, hf⟩ := tq_be hf
      obtain ⟨fsu9, eu9⟩ := tq_is_s eu9
      obtain ⟨v8, ev8, hf⟩ := tq_be hf
      refine tq_calV (M := mX9_isStale) (pc := 51) (S := []) tk_y_X3_holds tk_v_X3_holds tk_RX9_84 dX9_isStale_51 [.int v5] rfl (S0 := _) rfl eu9 rfl (Nat.le_of_ble_eq_true rfl) (d1 := d - 1) (b1 := 0) (s1 := 0) (bc' := 0) (bs' := 0) (Q1 := fun r h9 => r = .inl (some (.int v8)) ∧ h = h9) (by omega) rfl rfl (w_X3_holds (by omega) ev8 (fun _ _ q => q)) (fun E h9 q => nomatch (show (Sum.inr E : tq_R) = Sum.inl _ from q.1)) (fun r9 h9 q => ?_)
      obtain ⟨q1, rfl⟩ := q
      cases (show (Sum.inl r9 : tq_R) = Sum.inl (some (.int v8)) from q1)
      obtain ⟨p16, ep16, hf⟩ := tq_be hf
      have HJ54 : tq_W l mX9_isStale d 0 0 Q 82 [] [.int p16] h := by
        obtain ⟨z17, ez17, hf⟩ := tq_be hf
        refine tq_zretB (M := mX9_isStale) (pc := 82) dX9_isStale_82 rfl ez17 ?_
        cases (Option.some.inj hf)
        exact hQ _ _ ⟨rfl, rfl⟩
      refine tq_if_eq (M := mX9_isStale) (pc := 54) (tgt := 77) dX9_isStale_54 (by decide) (fun cc => ?_) (fun cc => ?_)
      · have hf := tq_ifp ep16 cc
        refine tq_iconst (M := mX9_isStale) (pc := 77) dX9_isStale_77 tk_ki_1 ?_
        refine tq_goto (M := mX9_isStale) (pc := 78) (tgt := 82) dX9_isStale_78 (by decide) ?_
        refine tq_pick (L2 := []) [] rfl ?_
        cases (Option.some.inj hf)
        exact HJ54
      · have hf := tq_ifn ep16 cc
        refine tq_aload_n (M := mX9_isStale) (pc := 57) dX9_isStale_57 rfl ?_
        obtain ⟨k10, ek10, hf⟩ := tq_be hf
        refine tq_getR (M := mX9_isStale) (pc := 58) tk_c9 (by decide) dX9_isStale_58 tk_RX9_26 rfl ek10 ?_
        refine tq_iload_n (M := mX9_isStale) (pc := 61) dX9_isStale_61 rfl ?_
        obtain ⟨⟨⟩, eu12, hf⟩ := tq_be hf
        obtain ⟨fsu12, eu12⟩ := tq_is_s eu12
        obtain ⟨v11, ev11, hf⟩ := tq_be hf
        refine tq_calV (M := mX9_isStale) (pc := 62) (S := []) tk_y_X5_get tk_v_X5_get tk_RX9_70 dX9_isStale_62 [.int a2] rfl (S0 := _) rfl eu12 rfl (Nat.le_of_ble_eq_true rfl) (d1 := d - 1) (b1 := 0) (s1 := 0) (bc' := 0) (bs' := 0) (Q1 := fun r h9 => r = .inl (some (.int v11)) ∧ h = h9) (by omega) rfl rfl (w_X5_get (by omega) ev11 (fun _ _ q => q)) (fun E h9 q => nomatch (show (Sum.inr E : tq_R) = Sum.inl _ from q.1)) (fun r9 h9 q => ?_)
        obtain ⟨q1, rfl⟩ := q
        cases (show (Sum.inl r9 : tq_R) = Sum.inl (some (.int v11)) from q1)
        refine tq_aload_n (M := mX9_isStale) (pc := 65) dX9_isStale_65 rfl ?_
        obtain ⟨k13, ek13, hf⟩ := tq_be hf
        refine tq_getR (M := mX9_isStale) (pc := 66) tk_c8 (by decide) dX9_isStale_66 tk_RX9_80 rfl ek13 ?_
        refine tq_iload (M := mX9_isStale) (pc := 69) dX9_isStale_69 rfl ?_
        obtain ⟨⟨⟩, eu15, hf⟩ := tq_be hf
        obtain ⟨fsu15, eu15⟩ := tq_is_s eu15
        obtain ⟨v14, ev14, hf⟩ := tq_be hf
        refine tq_calV (M := mX9_isStale) (pc := 71) (S := [.int v11]) tk_y_X3_childCount tk_v_X3_childCount tk_RX9_89 dX9_isStale_71 [.int v5] rfl (S0 := _) rfl eu15 rfl (Nat.le_of_ble_eq_true rfl) (d1 := d - 1) (b1 := 0) (s1 := 0) (bc' := 0) (bs' := 0) (Q1 := fun r h9 => r = .inl (some (.int v14)) ∧ h = h9) (by omega) rfl rfl (w_X3_childCount (by omega) ev14 (fun _ _ q => q)) (fun E h9 q => nomatch (show (Sum.inr E : tq_R) = Sum.inl _ from q.1)) (fun r9 h9 q => ?_)
        obtain ⟨q1, rfl⟩ := q
        cases (show (Sum.inl r9 : tq_R) = Sum.inl (some (.int v14)) from q1)
        refine tq_icmp_le (M := mX9_isStale) (pc := 74) (tgt := 81) dX9_isStale_74 (by decide) (fun cc => ?_) (fun cc => ?_)
        · have hf := tq_ifp hf cc
          refine tq_iconst (M := mX9_isStale) (pc := 81) dX9_isStale_81 tk_ki_0 ?_
          refine tq_pick (L2 := []) [] rfl ?_
          cases (Option.some.inj hf)
          exact HJ54
        · have hf := tq_ifn hf cc
          refine tq_iconst (M := mX9_isStale) (pc := 77) dX9_isStale_77 tk_ki_1 ?_
          refine tq_goto (M := mX9_isStale) (pc := 78) (tgt := 82) dX9_isStale_78 (by decide) ?_
          refine tq_pick (L2 := []) [] rfl ?_
          cases (Option.some.inj hf)
          exact HJ54
    · have hf := tq_ifp hf cc
      refine tq_iconst (M := mX9_isStale) (pc := 43) dX9_isStale_43 tk_ki_0 ?_
      refine tq_zret (M := mX9_isStale) (pc := 44) dX9_isStale_44 rfl (Or.inl rfl) ?_
      cases (Option.some.inj hf)
      exact hQ _ _ ⟨rfl, rfl⟩
  · have hf := tq_ifn hf cc
    refine tq_aload_n (M := mX9_isStale) (pc := 24) dX9_isStale_24 rfl ?_
    obtain ⟨k18, ek18, hf⟩ := tq_be hf
    refine tq_getR (M := mX9_isStale) (pc := 25) tk_c8 (by decide) dX9_isStale_25 tk_RX9_80 rfl ek18 ?_
    refine tq_iload_n (M := mX9_isStale) (pc := 28) dX9_isStale_28 rfl ?_
    obtain ⟨⟨⟩, eu20, hf⟩ := tq_be hf
    obtain ⟨fsu20, eu20⟩ := tq_is_s eu20
    obtain ⟨v19, ev19, hf⟩ := tq_be hf
    refine tq_calV (M := mX9_isStale) (pc := 29) (S := []) tk_y_X3_holds tk_v_X3_holds tk_RX9_84 dX9_isStale_29 [.int v2] rfl (S0 := _) rfl eu20 rfl (Nat.le_of_ble_eq_true rfl) (d1 := d - 1) (b1 := 0) (s1 := 0) (bc' := 0) (bs' := 0) (Q1 := fun r h9 => r = .inl (some (.int v19)) ∧ h = h9) (by omega) rfl rfl (w_X3_holds (by omega) ev19 (fun _ _ q => q)) (fun E h9 q => nomatch (show (Sum.inr E : tq_R) = Sum.inl _ from q.1)) (fun r9 h9 q => ?_)
    obtain ⟨q1, rfl⟩ := q
    cases (show (Sum.inl r9 : tq_R) = Sum.inl (some (.int v19)) from q1)
    refine tq_if_ne (M := mX9_isStale) (pc := 32) (tgt := 37) dX9_isStale_32 (by decide) (fun cc => ?_) (fun cc => ?_)
    · have hf := tq_ifn hf cc
      refine tq_iload (M := mX9_isStale) (pc := 37) dX9_isStale_37 rfl ?_
      refine tq_iconst (M := mX9_isStale) (pc := 39) dX9_isStale_39 tk_ki_m1 ?_
      refine tq_icmp_ne (M := mX9_isStale) (pc := 40) (tgt := 45) dX9_isStale_40 (by decide) (fun cc => ?_) (fun cc => ?_)
      · have hf := tq_ifn hf cc
        refine tq_aload_n (M := mX9_isStale) (pc := 45) dX9_isStale_45 rfl ?_
        obtain ⟨k21, ek21, hf⟩ := tq_be hf
        refine tq_getR (M := mX9_isStale) (pc := 46) tk_c8 (by decide) dX9_isStale_46 tk_RX9_80 rfl ek21 ?_
        refine tq_iload (M := mX9_isStale) (pc := 49) dX9_isStale_49 rfl ?_
        obtain ⟨⟨⟩, eu23, hf⟩ := tq_be hf
        obtain ⟨fsu23, eu23⟩ := tq_is_s eu23
        obtain ⟨v22, ev22, hf⟩ := tq_be hf
        refine tq_calV (M := mX9_isStale) (pc := 51) (S := []) tk_y_X3_holds tk_v_X3_holds tk_RX9_84 dX9_isStale_51 [.int v5] rfl (S0 := _) rfl eu23 rfl (Nat.le_of_ble_eq_true rfl) (d1 := d - 1) (b1 := 0) (s1 := 0) (bc' := 0) (bs' := 0) (Q1 := fun r h9 => r = .inl (some (.int v22)) ∧ h = h9) (by omega) rfl rfl (w_X3_holds (by omega) ev22 (fun _ _ q => q)) (fun E h9 q => nomatch (show (Sum.inr E : tq_R) = Sum.inl _ from q.1)) (fun r9 h9 q => ?_)
        obtain ⟨q1, rfl⟩ := q
        cases (show (Sum.inl r9 : tq_R) = Sum.inl (some (.int v22)) from q1)
        obtain ⟨p30, ep30, hf⟩ := tq_be hf
        have HJ54 : tq_W l mX9_isStale d 0 0 Q 82 [] [.int p30] h := by
          obtain ⟨z31, ez31, hf⟩ := tq_be hf
          refine tq_zretB (M := mX9_isStale) (pc := 82) dX9_isStale_82 rfl ez31 ?_
          cases (Option.some.inj hf)
          exact hQ _ _ ⟨rfl, rfl⟩
        refine tq_if_eq (M := mX9_isStale) (pc := 54) (tgt := 77) dX9_isStale_54 (by decide) (fun cc => ?_) (fun cc => ?_)
        · have hf := tq_ifp ep30 cc
          refine tq_iconst (M := mX9_isStale) (pc := 77) dX9_isStale_77 tk_ki_1 ?_
          refine tq_goto (M := mX9_isStale) (pc := 78) (tgt := 82) dX9_isStale_78 (by decide) ?_
          refine tq_pick (L2 := []) [] rfl ?_
          cases (Option.some.inj hf)
          exact HJ54
        · have hf := tq_ifn ep30 cc
          refine tq_aload_n (M := mX9_isStale) (pc := 57) dX9_isStale_57 rfl ?_
          obtain ⟨k24, ek24, hf⟩ := tq_be hf
          refine tq_getR (M := mX9_isStale) (pc := 58) tk_c9 (by decide) dX9_isStale_58 tk_RX9_26 rfl ek24 ?_
          refine tq_iload_n (M := mX9_isStale) (pc := 61) dX9_isStale_61 rfl ?_
          obtain ⟨⟨⟩, eu26, hf⟩ := tq_be hf
          obtain ⟨fsu26, eu26⟩ := tq_is_s eu26
          obtain ⟨v25, ev25, hf⟩ := tq_be hf
          refine tq_calV (M := mX9_isStale) (pc := 62) (S := []) tk_y_X5_get tk_v_X5_get tk_RX9_70 dX9_isStale_62 [.int a2] rfl (S0 := _) rfl eu26 rfl (Nat.le_of_ble_eq_true rfl) (d1 := d - 1) (b1 := 0) (s1 := 0) (bc' := 0) (bs' := 0) (Q1 := fun r h9 => r = .inl (some (.int v25)) ∧ h = h9) (by omega) rfl rfl (w_X5_get (by omega) ev25 (fun _ _ q => q)) (fun E h9 q => nomatch (show (Sum.inr E : tq_R) = Sum.inl _ from q.1)) (fun r9 h9 q => ?_)
          obtain ⟨q1, rfl⟩ := q
          cases (show (Sum.inl r9 : tq_R) = Sum.inl (some (.int v25)) from q1)
          refine tq_aload_n (M := mX9_isStale) (pc := 65) dX9_isStale_65 rfl ?_
          obtain ⟨k27, ek27, hf⟩ := tq_be hf
          refine tq_getR (M := mX9_isStale) (pc := 66) tk_c8 (by decide) dX9_isStale_66 tk_RX9_80 rfl ek27 ?_
          refine tq_iload (M := mX9_isStale) (pc := 69) dX9_isStale_69 rfl ?_
          obtain ⟨⟨⟩, eu29, hf⟩ := tq_be hf
          obtain ⟨fsu29, eu29⟩ := tq_is_s eu29
          obtain ⟨v28, ev28, hf⟩ := tq_be hf
          refine tq_calV (M := mX9_isStale) (pc := 71) (S := [.int v25]) tk_y_X3_childCount tk_v_X3_childCount tk_RX9_89 dX9_isStale_71 [.int v5] rfl (S0 := _) rfl eu29 rfl (Nat.le_of_ble_eq_true rfl) (d1 := d - 1) (b1 := 0) (s1 := 0) (bc' := 0) (bs' := 0) (Q1 := fun r h9 => r = .inl (some (.int v28)) ∧ h = h9) (by omega) rfl rfl (w_X3_childCount (by omega) ev28 (fun _ _ q => q)) (fun E h9 q => nomatch (show (Sum.inr E : tq_R) = Sum.inl _ from q.1)) (fun r9 h9 q => ?_)
          obtain ⟨q1, rfl⟩ := q
          cases (show (Sum.inl r9 : tq_R) = Sum.inl (some (.int v28)) from q1)
          refine tq_icmp_le (M := mX9_isStale) (pc := 74) (tgt := 81) dX9_isStale_74 (by decide) (fun cc => ?_) (fun cc => ?_)
          · have hf := tq_ifp hf cc
            refine tq_iconst (M := mX9_isStale) (pc := 81) dX9_isStale_81 tk_ki_0 ?_
            refine tq_pick (L2 := []) [] rfl ?_
            cases (Option.some.inj hf)
            exact HJ54
          · have hf := tq_ifn hf cc
            refine tq_iconst (M := mX9_isStale) (pc := 77) dX9_isStale_77 tk_ki_1 ?_
            refine tq_goto (M := mX9_isStale) (pc := 78) (tgt := 82) dX9_isStale_78 (by decide) ?_
            refine tq_pick (L2 := []) [] rfl ?_
            cases (Option.some.inj hf)
            exact HJ54
      · have hf := tq_ifp hf cc
        refine tq_iconst (M := mX9_isStale) (pc := 43) dX9_isStale_43 tk_ki_0 ?_
        refine tq_zret (M := mX9_isStale) (pc := 44) dX9_isStale_44 rfl (Or.inl rfl) ?_
        cases (Option.some.inj hf)
        exact hQ _ _ ⟨rfl, rfl⟩
    · have hf := tq_ifp hf cc
      refine tq_iconst (M := mX9_isStale) (pc := 35) dX9_isStale_35 tk_ki_1 ?_
      refine tq_zret (M := mX9_isStale) (pc := 36) dX9_isStale_36 rfl (Or.inr rfl) ?_
      cases (Option.some.inj hf)
      exact hQ _ _ ⟨rfl, rfl⟩
abbrev mX9_doClash : tq_M := (RX9, cX9_doClash, 2, (some .boolean), false, [], none)
def f_X9_doClash (a0 : Int32) (a1 : Int32) (h : tq_H) : Option (Int32) :=
  if a0 = a1 then
    tq_let (if a0 = (1 : Int32) then (0 : Int32) else (1 : Int32)) fun p3 =>
    (tq_bz p3).bind fun z4 =>
    some z4
  else
    tq_let (if a0 = (4 : Int32) then (if a1 = (1 : Int32) then (1 : Int32) else if a0 = (1 : Int32) then if a1 = (4 : Int32) then (1 : Int32) else (0 : Int32) else (0 : Int32)) else (if a0 = (1 : Int32) then if a1 = (4 : Int32) then (1 : Int32) else (0 : Int32) else (0 : Int32))) fun p1 =>
    (tq_bz p1).bind fun z2 =>
    some z2
set_option maxHeartbeats 4000000 in
set_option maxRecDepth 20000 in
theorem w_X9_doClash {l : Launch} {d : Nat} (hd9 : 0 ≤ d) {a0 : Int32} {a1 : Int32} {h : tq_H} {o : Int32} {Q : tq_R → tq_H → Prop} (hf : f_X9_doClash a0 a1 h = some o) (hQ : ∀ r h9, r = .inl (some (.int o)) ∧ h = h9 → Q r h9) : tq_C l yX9_doClash cX9_doClash 2 (some .boolean) d 0 0 [.int a0, .int a1] h Q := by
  refine tq_body (y := yX9_doClash) false (by decide +kernel) (fun z => by cases z) (Nat.le_of_ble_eq_true rfl) ?_
  show tq_W l mX9_doClash d 0 0 Q 0 [(0, .int a0), (1, .int a1)] [] h
  refine tq_iload_n (M := mX9_doClash) (pc := 0) dX9_doClash_0 rfl ?_
  refine tq_iload_n (M := mX9_doClash) (pc := 1) dX9_doClash_1 rfl ?_
  refine tq_icmp_ne (M := mX9_doClash) (pc := 2) (tgt := 16) dX9_doClash_2 (by decide) (fun cc => ?_) (fun cc => ?_)
  · have hf := tq_ifn hf cc
    refine tq_iload_n (M := mX9_doClash) (pc := 16) dX9_doClash_16 rfl ?_
    refine tq_iconst (M := mX9_doClash) (pc := 17) dX9_doClash_17 tk_ki_4 ?_
    obtain ⟨p1, ep1, hf⟩ := tq_le hf
    have HJ18 : tq_W l mX9_doClash d 0 0 Q 41 [] [.int p1] h := by
      obtain ⟨z2, ez2, hf⟩ := tq_be hf
      refine tq_zretB (M := mX9_doClash) (pc := 41) dX9_doClash_41 rfl ez2 ?_
      cases (Option.some.inj hf)
      exact hQ _ _ ⟨rfl, rfl⟩
    refine tq_icmp_ne (M := mX9_doClash) (pc := 18) (tgt := 26) dX9_doClash_18 (by decide) (fun cc => ?_) (fun cc => ?_)
    · have hf := tq_ifn ep1.symm cc
      refine tq_iload_n (M := mX9_doClash) (pc := 26) dX9_doClash_26 rfl ?_
      refine tq_iconst (M := mX9_doClash) (pc := 27) dX9_doClash_27 tk_ki_1 ?_
      refine tq_icmp_ne (M := mX9_doClash) (pc := 28) (tgt := 40) dX9_doClash_28 (by decide) (fun cc => ?_) (fun cc => ?_)
      · have hf := tq_ifn hf cc
        refine tq_iconst (M := mX9_doClash) (pc := 40) dX9_doClash_40 tk_ki_0 ?_
        refine tq_pick (L2 := []) [] rfl ?_
        cases hf
        exact HJ18
      · have hf := tq_ifp hf cc
        refine tq_iload_n (M := mX9_doClash) (pc := 31) dX9_doClash_31 rfl ?_
        refine tq_iconst (M := mX9_doClash) (pc := 32) dX9_doClash_32 tk_ki_4 ?_
        refine tq_icmp_ne (M := mX9_doClash) (pc := 33) (tgt := 40) dX9_doClash_33 (by decide) (fun cc => ?_) (fun cc => ?_)
        · have hf := tq_ifn hf cc
          refine tq_iconst (M := mX9_doClash) (pc := 40) dX9_doClash_40 tk_ki_0 ?_
          refine tq_pick (L2 := []) [] rfl ?_
          cases hf
          exact HJ18
        · have hf := tq_ifp hf cc
          refine tq_iconst (M := mX9_doClash) (pc := 36) dX9_doClash_36 tk_ki_1 ?_
          refine tq_goto (M := mX9_doClash) (pc := 37) (tgt := 41) dX9_doClash_37 (by decide) ?_
          refine tq_pick (L2 := []) [] rfl ?_
          cases hf
          exact HJ18
    · have hf := tq_ifp ep1.symm cc
      refine tq_iload_n (M := mX9_doClash) (pc := 21) dX9_doClash_21 rfl ?_
      refine tq_iconst (M := mX9_doClash) (pc := 22) dX9_doClash_22 tk_ki_1 ?_
      refine tq_icmp_eq (M := mX9_doClash) (pc := 23) (tgt := 36) dX9_doClash_23 (by decide) (fun cc => ?_) (fun cc => ?_)
      · have hf := tq_ifp hf cc
        refine tq_iconst (M := mX9_doClash) (pc := 36) dX9_doClash_36 tk_ki_1 ?_
        refine tq_goto (M := mX9_doClash) (pc := 37) (tgt := 41) dX9_doClash_37 (by decide) ?_
        refine tq_pick (L2 := []) [] rfl ?_
        cases hf
        exact HJ18
      · have hf := tq_ifn hf cc
        refine tq_iload_n (M := mX9_doClash) (pc := 26) dX9_doClash_26 rfl ?_
        refine tq_iconst (M := mX9_doClash) (pc := 27) dX9_doClash_27 tk_ki_1 ?_
        refine tq_icmp_ne (M := mX9_doClash) (pc := 28) (tgt := 40) dX9_doClash_28 (by decide) (fun cc => ?_) (fun cc => ?_)
        · have hf := tq_ifn hf cc
          refine tq_iconst (M := mX9_doClash) (pc := 40) dX9_doClash_40 tk_ki_0 ?_
          refine tq_pick (L2 := []) [] rfl ?_
          cases hf
          exact HJ18
        · have hf := tq_ifp hf cc
          refine tq_iload_n (M := mX9_doClash) (pc := 31) dX9_doClash_31 rfl ?_
          refine tq_iconst (M := mX9_doClash) (pc := 32) dX9_doClash_32 tk_ki_4 ?_
          refine tq_icmp_ne (M := mX9_doClash) (pc := 33) (tgt := 40) dX9_doClash_33 (by decide) (fun cc => ?_) (fun cc => ?_)
          · have hf := tq_ifn hf cc
            refine tq_iconst (M := mX9_doClash) (pc := 40) dX9_doClash_40 tk_ki_0 ?_
            refine tq_pick (L2 := []) [] rfl ?_
            cases hf
            exact HJ18
          · have hf := tq_ifp hf cc
            refine tq_iconst (M := mX9_doClash) (pc := 36) dX9_doClash_36 tk_ki_1 ?_
            refine tq_goto (M := mX9_doClash) (pc := 37) (tgt := 41) dX9_doClash_37 (by decide) ?_
            refine tq_pick (L2 := []) [] rfl ?_
            cases hf
            exact HJ18
  · have hf := tq_ifp hf cc
    refine tq_iload_n (M := mX9_doClash) (pc := 5) dX9_doClash_5 rfl ?_
    refine tq_iconst (M := mX9_doClash) (pc := 6) dX9_doClash_6 tk_ki_1 ?_
    obtain ⟨p3, ep3, hf⟩ := tq_le hf
    have HJ7 : tq_W l mX9_doClash d 0 0 Q 15 [] [.int p3] h := by
      obtain ⟨z4, ez4, hf⟩ := tq_be hf
      refine tq_zretB (M := mX9_doClash) (pc := 15) dX9_doClash_15 rfl ez4 ?_
      cases (Option.some.inj hf)
      exact hQ _ _ ⟨rfl, rfl⟩
    refine tq_icmp_eq (M := mX9_doClash) (pc := 7) (tgt := 14) dX9_doClash_7 (by decide) (fun cc => ?_) (fun cc => ?_)
    · have hf := tq_ifp ep3.symm cc
      refine tq_iconst (M := mX9_doClash) (pc := 14) dX9_doClash_14 tk_ki_0 ?_
      refine tq_pick (L2 := []) [] rfl ?_
      cases hf
      exact HJ7
    · have hf := tq_ifn ep3.symm cc
      refine tq_iconst (M := mX9_doClash) (pc := 10) dX9_doClash_10 tk_ki_1 ?_
      refine tq_goto (M := mX9_doClash) (pc := 11) (tgt := 15) dX9_doClash_11 (by decide) ?_
      refine tq_pick (L2 := []) [] rfl ?_
      cases hf
      exact HJ7
abbrev mX9_hasClash : tq_M := (RX9, cX9_hasClash, 3, (some .boolean), false, [], none)
def f_X9_hasClash_b2 (i0 : Nat) (i1 : Int32) (hh : tq_H) (s : Int32) : Option ((Int32) ⊕ ((Unit) ⊕ (Int32))) := match s with
  | y2 =>
    if y2 ≥ i1 then
      some (.inr (.inl ()))
    else
      (tq_gr hh i0 9 1).bind fun k1 =>
      (tq_is hh k1 5).bind fun _ =>
      (f_X5_get k1 i1 hh).bind fun v2 =>
      if v2 = (-1 : Int32) then
        tq_let (y2 + (1 : Int32)) fun x4 =>
        some (.inl x4)
      else
        (tq_gr hh i0 9 1).bind fun k5 =>
        (tq_is hh k5 5).bind fun _ =>
        (f_X5_get k5 i1 hh).bind fun v6 =>
        (tq_gr hh i0 9 1).bind fun k8 =>
        (tq_is hh k8 5).bind fun _ =>
        (f_X5_get k8 y2 hh).bind fun v9 =>
        if v6 = v9 then
          (tq_gr hh i0 9 0).bind fun k12 =>
          (tq_is hh k12 5).bind fun _ =>
          (f_X5_get k12 i1 hh).bind fun v13 =>
          (tq_gr hh i0 9 0).bind fun k15 =>
          (tq_is hh k15 5).bind fun _ =>
          (f_X5_get k15 y2 hh).bind fun v16 =>
          (f_X9_doClash v13 v16 hh).bind fun v18 =>
          if v18 = 0 then
            tq_let (y2 + (1 : Int32)) fun x19 =>
            some (.inl x19)
          else
            some (.inr (.inr (1 : Int32)))
        else
          tq_let (y2 + (1 : Int32)) fun x11 =>
          some (.inl x11)
def f_X9_hasClash (t : Nat) (a1 : Int32) (h : tq_H) : Option (Int32) :=
  (tq_loop (f_X9_hasClash_b2 t a1 h) tq_N (0 : Int32)).bind fun o20 => match o20 with
  | .inl o20 =>
    some (0 : Int32)
  | .inr e9 =>
    some e9
set_option maxHeartbeats 4000000 in
theorem l_X9_hasClash_2 {l : Launch} {d : Nat} {Q : tq_R → tq_H → Prop} {bc bs : Nat} (hd9 : 1 ≤ d) (i0 : Nat) (i1 : Int32) (hh : tq_H) : ∀ (n : Nat) (y2 : Int32) (o : (Unit) ⊕ (Int32)), tq_loop (f_X9_hasClash_b2 i0 i1 hh) n y2 = some o → (match o with
    | .inl e9 => tq_W l mX9_hasClash d bc bs Q 68 [] [] hh
    | .inr e9 => (∀ r h9, r = .inl (some (.int e9)) ∧ hh = h9 → Q r h9)) → tq_W l mX9_hasClash d bc bs Q 2 [(0, .ref i0), (1, .int i1), (2, .int y2)] [] hh := by
  intro n
  induction n with
  | zero => intro y2 o hl; cases hl
  | succ n ih =>
    intro y2 o hl hk
    obtain ⟨oo, hf, ho⟩ := tq_loop_s hl
    refine tq_iload_n (M := mX9_hasClash) (pc := 2) dX9_hasClash_2 rfl ?_
    refine tq_iload_n (M := mX9_hasClash) (pc := 3) dX9_hasClash_3 rfl ?_
    refine tq_icmp_ge (M := mX9_hasClash) (pc := 4) (tgt := 68) dX9_hasClash_4 (by decide) (fun cc => ?_) (fun cc => ?_)
    · have hf := tq_ifp hf cc
      refine tq_pick (L2 := []) [] rfl ?_
      cases (Option.some.inj hf)
      cases (tq_lx ho)
      exact hk
    · have hf := tq_ifn hf cc
      refine tq_aload_n (M := mX9_hasClash) (pc := 7) dX9_hasClash_7 rfl ?_
      obtain ⟨k1, ek1, hf⟩ := tq_be hf
      refine tq_getR (M := mX9_hasClash) (pc := 8) tk_c9 (by decide) dX9_hasClash_8 tk_RX9_20 rfl ek1 ?_
      refine tq_iload_n (M := mX9_hasClash) (pc := 11) dX9_hasClash_11 rfl ?_
      obtain ⟨⟨⟩, eu3, hf⟩ := tq_be hf
      obtain ⟨fsu3, eu3⟩ := tq_is_s eu3
      obtain ⟨v2, ev2, hf⟩ := tq_be hf
      refine tq_calV (M := mX9_hasClash) (pc := 12) (S := []) tk_y_X5_get tk_v_X5_get tk_RX9_70 dX9_hasClash_12 [.int i1] rfl (S0 := _) rfl eu3 rfl (Nat.le_of_ble_eq_true rfl) (d1 := d - 1) (b1 := 0) (s1 := 0) (bc' := bc) (bs' := bs) (Q1 := fun r h9 => r = .inl (some (.int v2)) ∧ hh = h9) (by omega) (by omega) (by omega) (w_X5_get (by omega) ev2 (fun _ _ q => q)) (fun E h9 q => nomatch (show (Sum.inr E : tq_R) = Sum.inl _ from q.1)) (fun r9 h9 q => ?_)
      obtain ⟨q1, rfl⟩ := q
      cases (show (Sum.inl r9 : tq_R) = Sum.inl (some (.int v2)) from q1)
      refine tq_iconst (M := mX9_hasClash) (pc := 15) dX9_hasClash_15 tk_ki_m1 ?_
      refine tq_icmp_eq (M := mX9_hasClash) (pc := 16) (tgt := 62) dX9_hasClash_16 (by decide) (fun cc => ?_) (fun cc => ?_)
      · have hf := tq_ifp hf cc
        obtain ⟨x4, ex4, hf⟩ := tq_le hf
        refine tq_iinc (M := mX9_hasClash) (pc := 62) (v := x4) (L2 := [(2, .int x4), (0, .ref i0), (1, .int i1)]) dX9_hasClash_62 rfl (by rw [ex4, tk_ki_1]) (by decide) rfl ?_
        refine tq_goto (M := mX9_hasClash) (pc := 65) (tgt := 2) dX9_hasClash_65 (by decide) ?_
        refine tq_pick (L2 := [(0, .ref i0), (1, .int i1), (2, .int x4)]) [1, 2, 0] rfl ?_
        cases (Option.some.inj hf)
        exact ih _ o (tq_lc ho) hk
      · have hf := tq_ifn hf cc
        refine tq_aload_n (M := mX9_hasClash) (pc := 19) dX9_hasClash_19 rfl ?_
        obtain ⟨k5, ek5, hf⟩ := tq_be hf
        refine tq_getR (M := mX9_hasClash) (pc := 20) tk_c9 (by decide) dX9_hasClash_20 tk_RX9_20 rfl ek5 ?_
        refine tq_iload_n (M := mX9_hasClash) (pc := 23) dX9_hasClash_23 rfl ?_
        obtain ⟨⟨⟩, eu7, hf⟩ := tq_be hf
        obtain ⟨fsu7, eu7⟩ := tq_is_s eu7
        obtain ⟨v6, ev6, hf⟩ := tq_be hf
        refine tq_calV (M := mX9_hasClash) (pc := 24) (S := []) tk_y_X5_get tk_v_X5_get tk_RX9_70 dX9_hasClash_24 [.int i1] rfl (S0 := _) rfl eu7 rfl (Nat.le_of_ble_eq_true rfl) (d1 := d - 1) (b1 := 0) (s1 := 0) (bc' := bc) (bs' := bs) (Q1 := fun r h9 => r = .inl (some (.int v6)) ∧ hh = h9) (by omega) (by omega) (by omega) (w_X5_get (by omega) ev6 (fun _ _ q => q)) (fun E h9 q => nomatch (show (Sum.inr E : tq_R) = Sum.inl _ from q.1)) (fun r9 h9 q => ?_)
        obtain ⟨q1, rfl⟩ := q
        cases (show (Sum.inl r9 : tq_R) = Sum.inl (some (.int v6)) from q1)
        refine tq_aload_n (M := mX9_hasClash) (pc := 27) dX9_hasClash_27 rfl ?_
        obtain ⟨k8, ek8, hf⟩ := tq_be hf
        refine tq_getR (M := mX9_hasClash) (pc := 28) tk_c9 (by decide) dX9_hasClash_28 tk_RX9_20 rfl ek8 ?_
        refine tq_iload_n (M := mX9_hasClash) (pc := 31) dX9_hasClash_31 rfl ?_
        obtain ⟨⟨⟩, eu10, hf⟩ := tq_be hf
        obtain ⟨fsu10, eu10⟩ := tq_is_s eu10
        obtain ⟨v9, ev9, hf⟩ := tq_be hf
        refine tq_calV (M := mX9_hasClash) (pc := 32) (S := [.int v6]) tk_y_X5_get tk_v_X5_get tk_RX9_70 dX9_hasClash_32 [.int y2] rfl (S0 := _) rfl eu10 rfl (Nat.le_of_ble_eq_true rfl) (d1 := d - 1) (b1 := 0) (s1 := 0) (bc' := bc) (bs' := bs) (Q1 := fun r h9 => r = .inl (some (.int v9)) ∧ hh = h9) (by omega) (by omega) (by omega) (w_X5_get (by omega) ev9 (fun _ _ q => q)) (fun E h9 q => nomatch (show (Sum.inr E : tq_R) = Sum.inl _ from q.1)) (fun r9 h9 q => ?_)
        obtain ⟨q1, rfl⟩ := q
        cases (show (Sum.inl r9 : tq_R) = Sum.inl (some (.int v9)) from q1)
        refine tq_icmp_ne (M := mX9_hasClash) (pc := 35) (tgt := 62) dX9_hasClash_35 (by decide) (fun cc => ?_) (fun cc => ?_)
        · have hf := tq_ifn hf cc
          obtain ⟨x11, ex11, hf⟩ := tq_le hf
          refine tq_iinc (M := mX9_hasClash) (pc := 62) (v := x11) (L2 := [(2, .int x11), (0, .ref i0), (1, .int i1)]) dX9_hasClash_62 rfl (by rw [ex11, tk_ki_1]) (by decide) rfl ?_
          refine tq_goto (M := mX9_hasClash) (pc := 65) (tgt := 2) dX9_hasClash_65 (by decide) ?_
          refine tq_pick (L2 := [(0, .ref i0), (1, .int i1), (2, .int x11)]) [1, 2, 0] rfl ?_
          cases (Option.some.inj hf)
          exact ih _ o (tq_lc ho) hk
        · have hf := tq_ifp hf cc
          refine tq_aload_n (M := mX9_hasClash) (pc := 38) dX9_hasClash_38 rfl ?_
          obtain ⟨k12, ek12, hf⟩ := tq_be hf
          refine tq_getR (M := mX9_hasClash) (pc := 39) tk_c9 (by decide) dX9_hasClash_39 tk_RX9_14 rfl ek12 ?_
          refine tq_iload_n (M := mX9_hasClash) (pc := 42) dX9_hasClash_42 rfl ?_
          obtain ⟨⟨⟩, eu14, hf⟩ := tq_be hf
          obtain ⟨fsu14, eu14⟩ := tq_is_s eu14
          obtain ⟨v13, ev13, hf⟩ := tq_be hf
          refine tq_calV (M := mX9_hasClash) (pc := 43) (S := []) tk_y_X5_get tk_v_X5_get tk_RX9_70 dX9_hasClash_43 [.int i1] rfl (S0 := _) rfl eu14 rfl (Nat.le_of_ble_eq_true rfl) (d1 := d - 1) (b1 := 0) (s1 := 0) (bc' := bc) (bs' := bs) (Q1 := fun r h9 => r = .inl (some (.int v13)) ∧ hh = h9) (by omega) (by omega) (by omega) (w_X5_get (by omega) ev13 (fun _ _ q => q)) (fun E h9 q => nomatch (show (Sum.inr E : tq_R) = Sum.inl _ from q.1)) (fun r9 h9 q => ?_)
          obtain ⟨q1, rfl⟩ := q
          cases (show (Sum.inl r9 : tq_R) = Sum.inl (some (.int v13)) from q1)
          refine tq_aload_n (M := mX9_hasClash) (pc := 46) dX9_hasClash_46 rfl ?_
          obtain ⟨k15, ek15, hf⟩ := tq_be hf
          refine tq_getR (M := mX9_hasClash) (pc := 47) tk_c9 (by decide) dX9_hasClash_47 tk_RX9_14 rfl ek15 ?_
          refine tq_iload_n (M := mX9_hasClash) (pc := 50) dX9_hasClash_50 rfl ?_
          obtain ⟨⟨⟩, eu17, hf⟩ := tq_be hf
          obtain ⟨fsu17, eu17⟩ := tq_is_s eu17
          obtain ⟨v16, ev16, hf⟩ := tq_be hf
          refine tq_calV (M := mX9_hasClash) (pc := 51) (S := [.int v13]) tk_y_X5_get tk_v_X5_get tk_RX9_70 dX9_hasClash_51 [.int y2] rfl (S0 := _) rfl eu17 rfl (Nat.le_of_ble_eq_true rfl) (d1 := d - 1) (b1 := 0) (s1 := 0) (bc' := bc) (bs' := bs) (Q1 := fun r h9 => r = .inl (some (.int v16)) ∧ hh = h9) (by omega) (by omega) (by omega) (w_X5_get (by omega) ev16 (fun _ _ q => q)) (fun E h9 q => nomatch (show (Sum.inr E : tq_R) = Sum.inl _ from q.1)) (fun r9 h9 q => ?_)
          obtain ⟨q1, rfl⟩ := q
          cases (show (Sum.inl r9 : tq_R) = Sum.inl (some (.int v16)) from q1)
          obtain ⟨v18, ev18, hf⟩ := tq_be hf
          refine tq_calS (M := mX9_hasClash) (pc := 54) (S := []) tk_y_X9_doClash tk_s_X9_doClash tk_RX9_92 dX9_hasClash_54 [.int v13, .int v16] rfl (Nat.le_of_ble_eq_true rfl) (d1 := d - 1) (b1 := 0) (s1 := 0) (bc' := bc) (bs' := bs) (Q1 := fun r h9 => r = .inl (some (.int v18)) ∧ hh = h9) (by omega) (by omega) (by omega) (w_X9_doClash (by omega) ev18 (fun _ _ q => q)) (fun E h9 q => nomatch (show (Sum.inr E : tq_R) = Sum.inl _ from q.1)) (fun r9 h9 q => ?_)
          obtain ⟨q1, rfl⟩ := q
          cases (show (Sum.inl r9 : tq_R) = Sum.inl (some (.int v18)) from q1)
          refine tq_if_eq (M := mX9_hasClash) (pc := 57) (tgt := 62) dX9_hasClash_57 (by decide) (fun cc => ?_) (fun cc => ?_)
          · have hf := tq_ifp hf cc
            obtain ⟨x19, ex19, hf⟩ := tq_le hf
            refine tq_iinc (M := mX9_hasClash) (pc := 62) (v := x19) (L2 := [(2, .int x19), (0, .ref i0), (1, .int i1)]) dX9_hasClash_62 rfl (by rw [ex19, tk_ki_1]) (by decide) rfl ?_
            refine tq_goto (M := mX9_hasClash) (pc := 65) (tgt := 2) dX9_hasClash_65 (by decide) ?_
            refine tq_pick (L2 := [(0, .ref i0), (1, .int i1), (2, .int x19)]) [1, 2, 0] rfl ?_
            cases (Option.some.inj hf)
            exact ih _ o (tq_lc ho) hk
          · have hf := tq_ifn hf cc
            refine tq_iconst (M := mX9_hasClash) (pc := 60) dX9_hasClash_60 tk_ki_1 ?_
            refine tq_zret (M := mX9_hasClash) (pc := 61) dX9_hasClash_61 rfl (Or.inr rfl) ?_
            cases (Option.some.inj hf)
            cases (tq_lx ho)
            exact hk _ _ ⟨rfl, rfl⟩
set_option maxHeartbeats 4000000 in
set_option maxRecDepth 20000 in
theorem w_X9_hasClash {l : Launch} {d : Nat} (hd9 : 1 ≤ d) {t : Nat} {a1 : Int32} {h : tq_H} {o : Int32} {Q : tq_R → tq_H → Prop} (hf : f_X9_hasClash t a1 h = some o) (hQ : ∀ r h9, r = .inl (some (.int o)) ∧ h = h9 → Q r h9) : tq_C l yX9_hasClash cX9_hasClash 3 (some .boolean) d 0 0 [.ref t, .int a1] h Q := by
  refine tq_body (y := yX9_hasClash) false (by decide +kernel) (fun z => by cases z) (Nat.le_of_ble_eq_true rfl) ?_
  show tq_W l mX9_hasClash d 0 0 Q 0 [(0, .ref t), (1, .int a1)] [] h
  refine tq_iconst (M := mX9_hasClash) (pc := 0) dX9_hasClash_0 tk_ki_0 ?_
  refine tq_istore_n (M := mX9_hasClash) (pc := 1) rfl dX9_hasClash_1 (L2 := [(2, .int (0 : Int32)), (0, .ref t), (1, .int a1)]) (by decide) rfl ?_
  obtain ⟨o20, eo20, hf⟩ := tq_be hf
  refine tq_pick (L2 := [(0, .ref t), (1, .int a1), (2, .int (0 : Int32))]) [1, 2, 0] rfl ?_
  refine l_X9_hasClash_2 (bc := 0) (bs := 0) (by omega) t a1 h _ (0 : Int32) _ eo20 ?_
  cases o20 with
  | inl o20 =>
    refine tq_iconst (M := mX9_hasClash) (pc := 68) dX9_hasClash_68 tk_ki_0 ?_
    refine tq_zret (M := mX9_hasClash) (pc := 69) dX9_hasClash_69 rfl (Or.inl rfl) ?_
    cases (Option.some.inj hf)
    exact hQ _ _ ⟨rfl, rfl⟩
  | inr e9 =>
    cases (Option.some.inj hf)
    exact hQ
abbrev mX9_canBeDone : tq_M := (RX9, cX9_canBeDone, 4, (some .boolean), false, [], none)
def f_X9_canBeDone_b4 (i0 : Nat) (i1 : Nat) (hh : tq_H) (s : Int32 × Int32) : Option ((Int32 × Int32) ⊕ ((Int32) ⊕ (Int32))) := match s with
  | (y2, y3) =>
    (tq_gi hh i0 9 11).bind fun x1 =>
    if y3 ≥ x1 then
      some (.inr (.inl y2))
    else
      (tq_is hh i0 9).bind fun _ =>
      (f_X9_isStale i0 i1 y3 hh).bind fun v2 =>
      if v2 = 0 then
        (tq_is hh i0 9).bind fun _ =>
        (f_X9_hasClash i0 y3 hh).bind fun v4 =>
        if v4 = 0 then
          (tq_gr hh i0 9 0).bind fun k6 =>
          (tq_is hh k6 5).bind fun _ =>
          (f_X5_get k6 y3 hh).bind fun v7 =>
          tq_let (if v7 = 0 then (1 : Int32) else (0 : Int32)) fun p9 =>
          tq_let ((y2 + p9)) fun x10 =>
          tq_let (y3 + (1 : Int32)) fun x11 =>
          some (.inl (x10, x11))
        else
          some (.inr (.inr (0 : Int32)))
      else
        some (.inr (.inr (0 : Int32)))
def f_X9_canBeDone (t : Nat) (a1 : Nat) (h : tq_H) : Option (Int32) :=
  (tq_loop (f_X9_canBeDone_b4 t a1 h) tq_N ((0 : Int32), (0 : Int32))).bind fun o12 => match o12 with
  | .inl o12 =>
    (tq_is h a1 8).bind fun _ =>
    (f_X8_madeCount a1 h).bind fun v13 =>
    tq_let (if (v13 + o12) > (60 : Int32) then (0 : Int32) else (1 : Int32)) fun p15 =>
    (tq_bz p15).bind fun z16 =>
    some z16
  | .inr e9 =>
    some e9
set_option maxHeartbeats 4000000 in
theorem l_X9_canBeDone_4 {l : Launch} {d : Nat} {Q : tq_R → tq_H → Prop} {bc bs : Nat} (hd9 : 4 ≤ d) (i0 : Nat) (i1 : Nat) (hh : tq_H) : ∀ (n : Nat) (y2 : Int32) (y3 : Int32) (o : (Int32) ⊕ (Int32)), tq_loop (f_X9_canBeDone_b4 i0 i1 hh) n (y2, y3) = some o → (match o with
    | .inl e9 => tq_W l mX9_canBeDone d bc bs Q 56 [(1, .ref i1), (2, .int e9)] [] hh
    | .inr e9 => (∀ r h9, r = .inl (some (.int e9)) ∧ hh = h9 → Q r h9)) → tq_W l mX9_canBeDone d bc bs Q 4 [(0, .ref i0), (1, .ref i1), (2, .int y2), (3, .int y3)] [] hh := by
  intro n
  induction n with
  | zero => intro y2 y3 o hl; cases hl
  | succ n ih =>
    intro y2 y3 o hl hk
    obtain ⟨oo, hf, ho⟩ := tq_loop_s hl
    refine tq_iload_n (M := mX9_canBeDone) (pc := 4) dX9_canBeDone_4 rfl ?_
    refine tq_aload_n (M := mX9_canBeDone) (pc := 5) dX9_canBeDone_5 rfl ?_
    obtain ⟨x1, ex1, hf⟩ := tq_be hf
    refine tq_getI (M := mX9_canBeDone) (pc := 6) tk_c9 (by decide) dX9_canBeDone_6 tk_RX9_51 rfl ex1 ?_
    refine tq_icmp_ge (M := mX9_canBeDone) (pc := 9) (tgt := 56) dX9_canBeDone_9 (by decide) (fun cc => ?_) (fun cc => ?_)
    · have hf := tq_ifp hf cc
      refine tq_pick (L2 := [(1, .ref i1), (2, .int y2)]) [1, 2] rfl ?_
      cases (Option.some.inj hf)
      cases (tq_lx ho)
      exact hk
    · have hf := tq_ifn hf cc
      refine tq_aload_n (M := mX9_canBeDone) (pc := 12) dX9_canBeDone_12 rfl ?_
      refine tq_aload_n (M := mX9_canBeDone) (pc := 13) dX9_canBeDone_13 rfl ?_
      refine tq_iload_n (M := mX9_canBeDone) (pc := 14) dX9_canBeDone_14 rfl ?_
      obtain ⟨⟨⟩, eu3, hf⟩ := tq_be hf
      obtain ⟨fsu3, eu3⟩ := tq_is_s eu3
      obtain ⟨v2, ev2, hf⟩ := tq_be hf
      refine tq_calV (M := mX9_canBeDone) (pc := 15) (S := []) tk_y_X9_isStale tk_v_X9_isStale tk_RX9_62 dX9_canBeDone_15 [.ref i1, .int y3] rfl (S0 := _) rfl eu3 rfl (Nat.le_of_ble_eq_true rfl) (d1 := d - 1) (b1 := 0) (s1 := 0) (bc' := bc) (bs' := bs) (Q1 := fun r h9 => r = .inl (some (.int v2)) ∧ hh = h9) (by omega) (by omega) (by omega) (w_X9_isStale (by omega) ev2 (fun _ _ q => q)) (fun E h9 q => nomatch (show (Sum.inr E : tq_R) = Sum.inl _ from q.1)) (fun r9 h9 q => ?_)
      obtain ⟨q1, rfl⟩ := q
      cases (show (Sum.inl r9 : tq_R) = Sum.inl (some (.int v2)) from q1)
      refine tq_if_ne (M := mX9_canBeDone) (pc := 18) (tgt := 29) dX9_canBeDone_18 (by decide) (fun cc => ?_) (fun cc => ?_)
      · have hf := tq_ifn hf cc
        refine tq_iconst (M := mX9_canBeDone) (pc := 29) dX9_canBeDone_29 tk_ki_0 ?_
        refine tq_zret (M := mX9_canBeDone) (pc := 30) dX9_canBeDone_30 rfl (Or.inl rfl) ?_
        cases (Option.some.inj hf)
        cases (tq_lx ho)
        exact hk _ _ ⟨rfl, rfl⟩
      · have hf := tq_ifp hf cc
        refine tq_aload_n (M := mX9_canBeDone) (pc := 21) dX9_canBeDone_21 rfl ?_
        refine tq_iload_n (M := mX9_canBeDone) (pc := 22) dX9_canBeDone_22 rfl ?_
        obtain ⟨⟨⟩, eu5, hf⟩ := tq_be hf
        obtain ⟨fsu5, eu5⟩ := tq_is_s eu5
        obtain ⟨v4, ev4, hf⟩ := tq_be hf
        refine tq_calV (M := mX9_canBeDone) (pc := 23) (S := []) tk_y_X9_hasClash tk_v_X9_hasClash tk_RX9_66 dX9_canBeDone_23 [.int y3] rfl (S0 := _) rfl eu5 rfl (Nat.le_of_ble_eq_true rfl) (d1 := d - 1) (b1 := 0) (s1 := 0) (bc' := bc) (bs' := bs) (Q1 := fun r h9 => r = .inl (some (.int v4)) ∧ hh = h9) (by omega) (by omega) (by omega) (w_X9_hasClash (by omega) ev4 (fun _ _ q => q)) (fun E h9 q => nomatch (show (Sum.inr E : tq_R) = Sum.inl _ from q.1)) (fun r9 h9 q => ?_)
        obtain ⟨q1, rfl⟩ := q
        cases (show (Sum.inl r9 : tq_R) = Sum.inl (some (.int v4)) from q1)
        refine tq_if_eq (M := mX9_canBeDone) (pc := 26) (tgt := 31) dX9_canBeDone_26 (by decide) (fun cc => ?_) (fun cc => ?_)
        · have hf := tq_ifp hf cc
          refine tq_iload_n (M := mX9_canBeDone) (pc := 31) dX9_canBeDone_31 rfl ?_
          refine tq_aload_n (M := mX9_canBeDone) (pc := 32) dX9_canBeDone_32 rfl ?_
          obtain ⟨k6, ek6, hf⟩ := tq_be hf
          refine tq_getR (M := mX9_canBeDone) (pc := 33) tk_c9 (by decide) dX9_canBeDone_33 tk_RX9_14 rfl ek6 ?_
          refine tq_iload_n (M := mX9_canBeDone) (pc := 36) dX9_canBeDone_36 rfl ?_
          obtain ⟨⟨⟩, eu8, hf⟩ := tq_be hf
          obtain ⟨fsu8, eu8⟩ := tq_is_s eu8
          obtain ⟨v7, ev7, hf⟩ := tq_be hf
          refine tq_calV (M := mX9_canBeDone) (pc := 37) (S := [.int y2]) tk_y_X5_get tk_v_X5_get tk_RX9_70 dX9_canBeDone_37 [.int y3] rfl (S0 := _) rfl eu8 rfl (Nat.le_of_ble_eq_true rfl) (d1 := d - 1) (b1 := 0) (s1 := 0) (bc' := bc) (bs' := bs) (Q1 := fun r h9 => r = .inl (some (.int v7)) ∧ hh = h9) (by omega) (by omega) (by omega) (w_X5_get (by omega) ev7 (fun _ _ q => q)) (fun E h9 q => nomatch (show (Sum.inr E : tq_R) = Sum.inl _ from q.1)) (fun r9 h9 q => ?_)
          obtain ⟨q1, rfl⟩ := q
          cases (show (Sum.inl r9 : tq_R) = Sum.inl (some (.int v7)) from q1)
          obtain ⟨p9, ep9, hf⟩ := tq_le hf
          have HJ40 : tq_W l mX9_canBeDone d bc bs Q 48 [(0, .ref i0), (1, .ref i1), (3, .int y3)] [.int p9, .int y2] hh := by
            refine tq_iadd (M := mX9_canBeDone) (pc := 48) dX9_canBeDone_48 ?_
            obtain ⟨x10, ex10, hf⟩ := tq_le hf
            refine tq_istore_n (M := mX9_canBeDone) (pc := 49) rfl dX9_canBeDone_49 (L2 := [(2, .int x10), (0, .ref i0), (1, .ref i1), (3, .int y3)]) (by decide) (by rw [ex10]; rfl) ?_
            obtain ⟨x11, ex11, hf⟩ := tq_le hf
            refine tq_iinc (M := mX9_canBeDone) (pc := 50) (v := x11) (L2 := [(3, .int x11), (2, .int x10), (0, .ref i0), (1, .ref i1)]) dX9_canBeDone_50 rfl (by rw [ex11, tk_ki_1]) (by decide) rfl ?_
            refine tq_goto (M := mX9_canBeDone) (pc := 53) (tgt := 4) dX9_canBeDone_53 (by decide) ?_
            refine tq_pick (L2 := [(0, .ref i0), (1, .ref i1), (2, .int x10), (3, .int x11)]) [2, 3, 1, 0] rfl ?_
            cases (Option.some.inj hf)
            exact ih _ _ o (tq_lc ho) hk
          refine tq_if_ne (M := mX9_canBeDone) (pc := 40) (tgt := 47) dX9_canBeDone_40 (by decide) (fun cc => ?_) (fun cc => ?_)
          · have hf := tq_ifn ep9.symm cc
            refine tq_iconst (M := mX9_canBeDone) (pc := 47) dX9_canBeDone_47 tk_ki_0 ?_
            refine tq_pick (L2 := [(0, .ref i0), (1, .ref i1), (3, .int y3)]) [0, 1, 3] rfl ?_
            cases hf
            exact HJ40
          · have hf := tq_ifp ep9.symm cc
            refine tq_iconst (M := mX9_canBeDone) (pc := 43) dX9_canBeDone_43 tk_ki_1 ?_
            refine tq_goto (M := mX9_canBeDone) (pc := 44) (tgt := 48) dX9_canBeDone_44 (by decide) ?_
            refine tq_pick (L2 := [(0, .ref i0), (1, .ref i1), (3, .int y3)]) [0, 1, 3] rfl ?_
            cases hf
            exact HJ40
        · have hf := tq_ifn hf cc
          refine tq_iconst (M := mX9_canBeDone) (pc := 29) dX9_canBeDone_29 tk_ki_0 ?_
          refine tq_zret (M := mX9_canBeDone) (pc := 30) dX9_canBeDone_30 rfl (Or.inl rfl) ?_
          cases (Option.some.inj hf)
          cases (tq_lx ho)
          exact hk _ _ ⟨rfl, rfl⟩
set_option maxHeartbeats 4000000 in
set_option maxRecDepth 20000 in
theorem w_X9_canBeDone {l : Launch} {d : Nat} (hd9 : 4 ≤ d) {t : Nat} {a1 : Nat} {h : tq_H} {o : Int32} {Q : tq_R → tq_H → Prop} (hf : f_X9_canBeDone t a1 h = some o) (hQ : ∀ r h9, r = .inl (some (.int o)) ∧ h = h9 → Q r h9) : tq_C l yX9_canBeDone cX9_canBeDone 4 (some .boolean) d 0 0 [.ref t, .ref a1] h Q := by
  refine tq_body (y := yX9_canBeDone) false (by decide +kernel) (fun z => by cases z) (Nat.le_of_ble_eq_true rfl) ?_
  show tq_W l mX9_canBeDone d 0 0 Q 0 [(0, .ref t), (1, .ref a1)] [] h
  refine tq_iconst (M := mX9_canBeDone) (pc := 0) dX9_canBeDone_0 tk_ki_0 ?_
  refine tq_istore_n (M := mX9_canBeDone) (pc := 1) rfl dX9_canBeDone_1 (L2 := [(2, .int (0 : Int32)), (0, .ref t), (1, .ref a1)]) (by decide) rfl ?_
  refine tq_iconst (M := mX9_canBeDone) (pc := 2) dX9_canBeDone_2 tk_ki_0 ?_
  refine tq_istore_n (M := mX9_canBeDone) (pc := 3) rfl dX9_canBeDone_3 (L2 := [(3, .int (0 : Int32)), (2, .int (0 : Int32)), (0, .ref t), (1, .ref a1)]) (by decide) rfl ?_
  obtain ⟨o12, eo12, hf⟩ := tq_be hf
  refine tq_pick (L2 := [(0, .ref t), (1, .ref a1), (2, .int (0 : Int32)), (3, .int (0 : Int32))]) [2, 3, 1, 0] rfl ?_
  refine l_X9_canBeDone_4 (bc := 0) (bs := 0) (by omega) t a1 h _ (0 : Int32) (0 : Int32) _ eo12 ?_
  cases o12 with
  | inl o12 =>
    refine tq_aload_n (M := mX9_canBeDone) (pc := 56) dX9_canBeDone_56 rfl ?_
    obtain ⟨⟨⟩, eu14, hf⟩ := tq_be hf
    obtain ⟨fsu14, eu14⟩ := tq_is_s eu14
    obtain ⟨v13, ev13, hf⟩ := tq_be hf
    refine tq_calV (M := mX9_canBeDone) (pc := 57) (S := []) tk_y_X8_madeCount tk_v_X8_madeCount tk_RX9_74 dX9_canBeDone_57 [] rfl (S0 := _) rfl eu14 rfl (Nat.le_of_ble_eq_true rfl) (d1 := d - 1) (b1 := 0) (s1 := 0) (bc' := 0) (bs' := 0) (Q1 := fun r h9 => r = .inl (some (.int v13)) ∧ h = h9) (by omega) rfl rfl (w_X8_madeCount (by omega) ev13 (fun _ _ q => q)) (fun E h9 q => nomatch (show (Sum.inr E : tq_R) = Sum.inl _ from q.1)) (fun r9 h9 q => ?_)
    obtain ⟨q1, rfl⟩ := q
    cases (show (Sum.inl r9 : tq_R) = Sum.inl (some (.int v13)) from q1)
    refine tq_iload_n (M := mX9_canBeDone) (pc := 60) dX9_canBeDone_60 rfl ?_
    refine tq_iadd (M := mX9_canBeDone) (pc := 61) dX9_canBeDone_61 ?_
    refine tq_bipush (M := mX9_canBeDone) (pc := 62) dX9_canBeDone_62 tk_kb_60 ?_
    obtain ⟨p15, ep15, hf⟩ := tq_le hf
    have HJ64 : tq_W l mX9_canBeDone d 0 0 Q 72 [] [.int p15] h := by
      obtain ⟨z16, ez16, hf⟩ := tq_be hf
      refine tq_zretB (M := mX9_canBeDone) (pc := 72) dX9_canBeDone_72 rfl ez16 ?_
      cases (Option.some.inj hf)
      exact hQ _ _ ⟨rfl, rfl⟩
    refine tq_icmp_gt (M := mX9_canBeDone) (pc := 64) (tgt := 71) dX9_canBeDone_64 (by decide) (fun cc => ?_) (fun cc => ?_)
    · have hf := tq_ifp ep15.symm cc
      refine tq_iconst (M := mX9_canBeDone) (pc := 71) dX9_canBeDone_71 tk_ki_0 ?_
      refine tq_pick (L2 := []) [] rfl ?_
      cases hf
      exact HJ64
    · have hf := tq_ifn ep15.symm cc
      refine tq_iconst (M := mX9_canBeDone) (pc := 67) dX9_canBeDone_67 tk_ki_1 ?_
      refine tq_goto (M := mX9_canBeDone) (pc := 68) (tgt := 72) dX9_canBeDone_68 (by decide) ?_
      refine tq_pick (L2 := []) [] rfl ?_
      cases hf
      exact HJ64
  | inr e9 =>
    cases (Option.some.inj hf)
    exact hQ
abbrev mX9_change : tq_M := (RX9, cX9_change, 5, none, false, [], none)
def f_X9_change (t : Nat) (a1 : Nat) (a2 : Int32) (h : tq_H) : Option (tq_H) :=
  (tq_gr h t 9 1).bind fun k1 =>
  (tq_is h k1 5).bind fun _ =>
  (f_X5_get k1 a2 h).bind fun v2 =>
  (tq_gl h t 9 10).bind fun x4 =>
  (tq_gr h t 9 2).bind fun k5 =>
  (tq_is h k5 5).bind fun _ =>
  (f_X5_get k5 a2 h).bind fun v6 =>
  (f_X0_one v6 h).bind fun v8 =>
  (tq_pf h t 9 10 (.long ((x4 ||| v8)))).bind fun w9 =>
  (tq_gr w9 t 9 0).bind fun k10 =>
  (tq_is w9 k10 5).bind fun _ =>
  (f_X5_get k10 a2 w9).bind fun v11 =>
  (if v11 = (0 : Int32) then
    (tq_gr w9 t 9 4).bind fun k13 =>
    (tq_is w9 k13 5).bind fun _ =>
    (f_X5_get k13 a2 w9).bind fun v14 =>
    (tq_gr w9 t 9 5).bind fun k16 =>
    (tq_is w9 k16 5).bind fun _ =>
    (f_X5_get k16 a2 w9).bind fun v17 =>
    (tq_gr w9 t 9 6).bind fun k19 =>
    (tq_is w9 k19 5).bind fun _ =>
    (f_X5_get k19 a2 w9).bind fun v20 =>
    (tq_is w9 a1 8).bind fun _ =>
    (f_X8_make a1 v14 v17 v20 w9).bind fun v22 =>
    (tq_gr v22.2 t 9 7).bind fun k24 =>
    (tq_is v22.2 k24 5).bind fun _ =>
    (f_X5_set k24 a2 v22.1 v22.2).bind fun v25 =>
    (tq_gl v25 t 9 8).bind fun x27 =>
    (f_X0_one v22.1 v25).bind fun v28 =>
    (tq_pf v25 t 9 8 (.long ((x27 ||| v28)))).bind fun w29 =>
    some w29
  else
  if v11 = (1 : Int32) then
    (tq_gl w9 t 9 9).bind fun x30 =>
    (f_X0_one v2 w9).bind fun v31 =>
    (tq_pf w9 t 9 9 (.long ((x30 ||| v31)))).bind fun w32 =>
    some w32
  else
  if v11 = (2 : Int32) then
    (tq_gr w9 a1 8 2).bind fun k33 =>
    (tq_gr w9 t 9 6).bind fun k34 =>
    (tq_is w9 k34 5).bind fun _ =>
    (f_X5_get k34 a2 w9).bind fun v35 =>
    (tq_is w9 k33 5).bind fun _ =>
    (f_X5_set k33 v2 v35 w9).bind fun v37 =>
    some v37
  else
  if v11 = (3 : Int32) then
    (tq_gr w9 a1 8 3).bind fun k39 =>
    (tq_gr w9 t 9 6).bind fun k40 =>
    (tq_is w9 k40 5).bind fun _ =>
    (f_X5_get k40 a2 w9).bind fun v41 =>
    (tq_is w9 k39 5).bind fun _ =>
    (f_X5_set k39 v2 v41 w9).bind fun v43 =>
    some v43
  else
  if v11 = (4 : Int32) then
    (tq_gr w9 t 9 7).bind fun k45 =>
    (tq_is w9 k45 5).bind fun _ =>
    (f_X5_set k45 a2 v2 w9).bind fun v46 =>
    (tq_gl v46 t 9 8).bind fun x48 =>
    (f_X0_one v2 v46).bind fun v49 =>
    (tq_pf v46 t 9 8 (.long ((x48 ||| v49)))).bind fun w50 =>
    (tq_gl w50 t 9 9).bind fun x51 =>
    (f_X0_one v2 w50).bind fun v52 =>
    (tq_pf w50 t 9 9 (.long ((x51 ||| v52)))).bind fun w53 =>
    some w53
  else
    (tq_gr w9 a1 8 4).bind fun k54 =>
    (tq_gr w9 t 9 6).bind fun k55 =>
    (tq_is w9 k55 5).bind fun _ =>
    (f_X5_get k55 a2 w9).bind fun v56 =>
    (tq_is w9 k54 5).bind fun _ =>
    (f_X5_set k54 v2 v56 w9).bind fun v58 =>
    some v58).bind fun p60 =>
  some p60
set_option maxHeartbeats 4000000 in
set_option maxRecDepth 20000 in
theorem w_X9_change {l : Launch} {d : Nat} (hd9 : 2 ≤ d) {t : Nat} {a1 : Nat} {a2 : Int32} {h : tq_H} {o : tq_H} {Q : tq_R → tq_H → Prop} (hf : f_X9_change t a1 a2 h = some o) (hQ : ∀ r h9, r = .inl none ∧ o = h9 → Q r h9) : tq_C l yX9_change cX9_change 5 none d 0 0 [.ref t, .ref a1, .int a2] h Q := by
  refine tq_body (y := yX9_change) false (by decide +kernel) (fun z => by cases z) (Nat.le_of_ble_eq_true rfl) ?_
  show tq_W l mX9_change d 0 0 Q 0 [(0, .ref t), (1, .ref a1), (2, .int a2)] [] h
  refine tq_aload_n (M := mX9_change) (pc := 0) dX9_change_0 rfl ?_
  obtain ⟨k1, ek1, hf⟩ := tq_be hf
  refine tq_getR (M := mX9_change) (pc := 1) tk_c9 (by decide) dX9_change_1 tk_RX9_20 rfl ek1 ?_
  refine tq_iload_n (M := mX9_change) (pc := 4) dX9_change_4 rfl ?_
  obtain ⟨⟨⟩, eu3, hf⟩ := tq_be hf
  obtain ⟨fsu3, eu3⟩ := tq_is_s eu3
  obtain ⟨v2, ev2, hf⟩ := tq_be hf
  refine tq_calV (M := mX9_change) (pc := 5) (S := []) tk_y_X5_get tk_v_X5_get tk_RX9_70 dX9_change_5 [.int a2] rfl (S0 := _) rfl eu3 rfl (Nat.le_of_ble_eq_true rfl) (d1 := d - 1) (b1 := 0) (s1 := 0) (bc' := 0) (bs' := 0) (Q1 := fun r h9 => r = .inl (some (.int v2)) ∧ h = h9) (by omega) rfl rfl (w_X5_get (by omega) ev2 (fun _ _ q => q)) (fun E h9 q => nomatch (show (Sum.inr E : tq_R) = Sum.inl _ from q.1)) (fun r9 h9 q => ?_)
  obtain ⟨q1, rfl⟩ := q
  cases (show (Sum.inl r9 : tq_R) = Sum.inl (some (.int v2)) from q1)
  refine tq_istore_n (M := mX9_change) (pc := 8) rfl dX9_change_8 (L2 := [(3, .int v2), (0, .ref t), (1, .ref a1), (2, .int a2)]) (by decide) rfl ?_
  refine tq_aload_n (M := mX9_change) (pc := 9) dX9_change_9 rfl ?_
  refine tq_dup (M := mX9_change) (pc := 10) dX9_change_10 rfl ?_
  obtain ⟨x4, ex4, hf⟩ := tq_be hf
  refine tq_getL (M := mX9_change) (pc := 11) tk_c9 (by decide) dX9_change_11 tk_RX9_48 rfl ex4 ?_
  refine tq_aload_n (M := mX9_change) (pc := 14) dX9_change_14 rfl ?_
  obtain ⟨k5, ek5, hf⟩ := tq_be hf
  refine tq_getR (M := mX9_change) (pc := 15) tk_c9 (by decide) dX9_change_15 tk_RX9_23 rfl ek5 ?_
  refine tq_iload_n (M := mX9_change) (pc := 18) dX9_change_18 rfl ?_
  obtain ⟨⟨⟩, eu7, hf⟩ := tq_be hf
  obtain ⟨fsu7, eu7⟩ := tq_is_s eu7
  obtain ⟨v6, ev6, hf⟩ := tq_be hf
  refine tq_calV (M := mX9_change) (pc := 19) (S := [.long x4, .ref t]) tk_y_X5_get tk_v_X5_get tk_RX9_70 dX9_change_19 [.int a2] rfl (S0 := _) rfl eu7 rfl (Nat.le_of_ble_eq_true rfl) (d1 := d - 1) (b1 := 0) (s1 := 0) (bc' := 0) (bs' := 0) (Q1 := fun r h9 => r = .inl (some (.int v6)) ∧ h = h9) (by omega) rfl rfl (w_X5_get (by omega) ev6 (fun _ _ q => q)) (fun E h9 q => nomatch (show (Sum.inr E : tq_R) = Sum.inl _ from q.1)) (fun r9 h9 q => ?_)
  obtain ⟨q1, rfl⟩ := q
  cases (show (Sum.inl r9 : tq_R) = Sum.inl (some (.int v6)) from q1)
  obtain ⟨v8, ev8, hf⟩ := tq_be hf
  refine tq_calS (M := mX9_change) (pc := 22) (S := [.long x4, .ref t]) tk_y_X0_one tk_s_X0_one tk_RX9_125 dX9_change_22 [.int v6] rfl (Nat.le_of_ble_eq_true rfl) (d1 := d - 1) (b1 := 0) (s1 := 0) (bc' := 0) (bs' := 0) (Q1 := fun r h9 => r = .inl (some (.long v8)) ∧ h = h9) (by omega) rfl rfl (w_X0_one (by omega) ev8 (fun _ _ q => q)) (fun E h9 q => nomatch (show (Sum.inr E : tq_R) = Sum.inl _ from q.1)) (fun r9 h9 q => ?_)
  obtain ⟨q1, rfl⟩ := q
  cases (show (Sum.inl r9 : tq_R) = Sum.inl (some (.long v8)) from q1)
  refine tq_lor (M := mX9_change) (pc := 25) dX9_change_25 ?_
  obtain ⟨w9, ew9, hf⟩ := tq_be hf
  refine tq_putv (M := mX9_change) (pc := 26) tk_c9 (by decide) dX9_change_26 tk_RX9_48 rfl (Or.inl rfl) ew9 (tq_nL _) ?_
  refine tq_aload_n (M := mX9_change) (pc := 29) dX9_change_29 rfl ?_
  obtain ⟨k10, ek10, hf⟩ := tq_be hf
  refine tq_getR (M := mX9_change) (pc := 30) tk_c9 (by decide) dX9_change_30 tk_RX9_14 rfl ek10 ?_
  refine tq_iload_n (M := mX9_change) (pc := 33) dX9_change_33 rfl ?_
  obtain ⟨⟨⟩, eu12, hf⟩ := tq_be hf
  obtain ⟨fsu12, eu12⟩ := tq_is_s eu12
  obtain ⟨v11, ev11, hf⟩ := tq_be hf
  refine tq_calV (M := mX9_change) (pc := 34) (S := []) tk_y_X5_get tk_v_X5_get tk_RX9_70 dX9_change_34 [.int a2] rfl (S0 := _) rfl eu12 rfl (Nat.le_of_ble_eq_true rfl) (d1 := d - 1) (b1 := 0) (s1 := 0) (bc' := 0) (bs' := 0) (Q1 := fun r h9 => r = .inl (some (.int v11)) ∧ w9 = h9) (by omega) rfl rfl (w_X5_get (by omega) ev11 (fun _ _ q => q)) (fun E h9 q => nomatch (show (Sum.inr E : tq_R) = Sum.inl _ from q.1)) (fun r9 h9 q => ?_)
  obtain ⟨q1, rfl⟩ := q
  cases (show (Sum.inl r9 : tq_R) = Sum.inl (some (.int v11)) from q1)
  obtain ⟨p60, ep60, hf⟩ := tq_be hf
  have HJ37 : tq_W l mX9_change d 0 0 Q 237 [] [] p60 := by
    refine tq_vret (M := mX9_change) (pc := 237) dX9_change_237 rfl ?_
    cases (Option.some.inj hf)
    exact hQ _ _ ⟨rfl, rfl⟩
  have hf := ep60
  by_cases c0 : v11 = (0 : Int32)
  · have hf := tq_ifp hf c0
    refine tq_tabX (M := mX9_change) (pc := 37) (tgt := 72) (0 : Int32) c0 dX9_change_37 (by decide +kernel) (by decide +kernel) (off := 35) (by decide +kernel) (by decide) ?_
    refine tq_aload_n (M := mX9_change) (pc := 72) dX9_change_72 rfl ?_
    refine tq_aload_n (M := mX9_change) (pc := 73) dX9_change_73 rfl ?_
    obtain ⟨k13, ek13, hf⟩ := tq_be hf
    refine tq_getR (M := mX9_change) (pc := 74) tk_c9 (by decide) dX9_change_74 tk_RX9_29 rfl ek13 ?_
    refine tq_iload_n (M := mX9_change) (pc := 77) dX9_change_77 rfl ?_
    obtain ⟨⟨⟩, eu15, hf⟩ := tq_be hf
    obtain ⟨fsu15, eu15⟩ := tq_is_s eu15
    obtain ⟨v14, ev14, hf⟩ := tq_be hf
    refine tq_calV (M := mX9_change) (pc := 78) (S := [.ref a1]) tk_y_X5_get tk_v_X5_get tk_RX9_70 dX9_change_78 [.int a2] rfl (S0 := _) rfl eu15 rfl (Nat.le_of_ble_eq_true rfl) (d1 := d - 1) (b1 := 0) (s1 := 0) (bc' := 0) (bs' := 0) (Q1 := fun r h9 => r = .inl (some (.int v14)) ∧ w9 = h9) (by omega) rfl rfl (w_X5_get (by omega) ev14 (fun _ _ q => q)) (fun E h9 q => nomatch (show (Sum.inr E : tq_R) = Sum.inl _ from q.1)) (fun r9 h9 q => ?_)
    obtain ⟨q1, rfl⟩ := q
    cases (show (Sum.inl r9 : tq_R) = Sum.inl (some (.int v14)) from q1)
    refine tq_aload_n (M := mX9_change) (pc := 81) dX9_change_81 rfl ?_
    obtain ⟨k16, ek16, hf⟩ := tq_be hf
    refine tq_getR (M := mX9_change) (pc := 82) tk_c9 (by decide) dX9_change_82 tk_RX9_32 rfl ek16 ?_
    refine tq_iload_n (M := mX9_change) (pc := 85) dX9_change_85 rfl ?_
    obtain ⟨⟨⟩, eu18, hf⟩ := tq_be hf
    obtain ⟨fsu18, eu18⟩ := tq_is_s eu18
    obtain ⟨v17, ev17, hf⟩ := tq_be hf
    refine tq_calV (M := mX9_change) (pc := 86) (S := [.int v14, .ref a1]) tk_y_X5_get tk_v_X5_get tk_RX9_70 dX9_change_86 [.int a2] rfl (S0 := _) rfl eu18 rfl (Nat.le_of_ble_eq_true rfl) (d1 := d - 1) (b1 := 0) (s1 := 0) (bc' := 0) (bs' := 0) (Q1 := fun r h9 => r = .inl (some (.int v17)) ∧ w9 = h9) (by omega) rfl rfl (w_X5_get (by omega) ev17 (fun _ _ q => q)) (fun E h9 q => nomatch (show (Sum.inr E : tq_R) = Sum.inl _ from q.1)) (fun r9 h9 q => ?_)
    obtain ⟨q1, rfl⟩ := q
    cases (show (Sum.inl r9 : tq_R) = Sum.inl (some (.int v17)) from q1)
    refine tq_aload_n (M := mX9_change) (pc := 89) dX9_change_89 rfl ?_
    obtain ⟨k19, ek19, hf⟩ := tq_be hf
    refine tq_getR (M := mX9_change) (pc := 90) tk_c9 (by decide) dX9_change_90 tk_RX9_35 rfl ek19 ?_
    refine tq_iload_n (M := mX9_change) (pc := 93) dX9_change_93 rfl ?_
    obtain ⟨⟨⟩, eu21, hf⟩ := tq_be hf
    obtain ⟨fsu21, eu21⟩ := tq_is_s eu21
    obtain ⟨v20, ev20, hf⟩ := tq_be hf
    refine tq_calV (M := mX9_change) (pc := 94) (S := [.int v17, .int v14, .ref a1]) tk_y_X5_get tk_v_X5_get tk_RX9_70 dX9_change_94 [.int a2] rfl (S0 := _) rfl eu21 rfl (Nat.le_of_ble_eq_true rfl) (d1 := d - 1) (b1 := 0) (s1 := 0) (bc' := 0) (bs' := 0) (Q1 := fun r h9 => r = .inl (some (.int v20)) ∧ w9 = h9) (by omega) rfl rfl (w_X5_get (by omega) ev20 (fun _ _ q => q)) (fun E h9 q => nomatch (show (Sum.inr E : tq_R) = Sum.inl _ from q.1)) (fun r9 h9 q => ?_)
    obtain ⟨q1, rfl⟩ := q
    cases (show (Sum.inl r9 : tq_R) = Sum.inl (some (.int v20)) from q1)
    obtain ⟨⟨⟩, eu23, hf⟩ := tq_be hf
    obtain ⟨fsu23, eu23⟩ := tq_is_s eu23
    obtain ⟨v22, ev22, hf⟩ := tq_be hf
    refine tq_calV (M := mX9_change) (pc := 97) (S := []) tk_y_X8_make tk_v_X8_make tk_RX9_129 dX9_change_97 [.int v14, .int v17, .int v20] rfl (S0 := _) rfl eu23 rfl (Nat.le_of_ble_eq_true rfl) (d1 := d - 1) (b1 := 0) (s1 := 0) (bc' := 0) (bs' := 0) (Q1 := fun r h9 => r = .inl (some (.int v22.1)) ∧ v22.2 = h9) (by omega) rfl rfl (w_X8_make (by omega) ev22 (fun _ _ q => q)) (fun E h9 q => nomatch (show (Sum.inr E : tq_R) = Sum.inl _ from q.1)) (fun r9 h9 q => ?_)
    obtain ⟨q1, rfl⟩ := q
    cases (show (Sum.inl r9 : tq_R) = Sum.inl (some (.int v22.1)) from q1)
    refine tq_istore (M := mX9_change) (pc := 100) dX9_change_100 (L2 := [(4, .int v22.1), (3, .int v2), (0, .ref t), (1, .ref a1), (2, .int a2)]) (by decide) rfl ?_
    refine tq_aload_n (M := mX9_change) (pc := 102) dX9_change_102 rfl ?_
    obtain ⟨k24, ek24, hf⟩ := tq_be hf
    refine tq_getR (M := mX9_change) (pc := 103) tk_c9 (by decide) dX9_change_103 tk_RX9_38 rfl ek24 ?_
    refine tq_iload_n (M := mX9_change) (pc := 106) dX9_change_106 rfl ?_
    refine tq_iload (M := mX9_change) (pc := 107) dX9_change_107 rfl ?_
    obtain ⟨⟨⟩, eu26, hf⟩ := tq_be hf
    obtain ⟨fsu26, eu26⟩ := tq_is_s eu26
    obtain ⟨v25, ev25, hf⟩ := tq_be hf
    refine tq_calV (M := mX9_change) (pc := 109) (S := []) tk_y_X5_set tk_v_X5_set tk_RX9_55 dX9_change_109 [.int a2, .int v22.1] rfl (S0 := _) rfl eu26 rfl (Nat.le_of_ble_eq_true rfl) (d1 := d - 1) (b1 := 0) (s1 := 0) (bc' := 0) (bs' := 0) (Q1 := fun r h9 => r = .inl none ∧ v25 = h9) (by omega) rfl rfl (w_X5_set (by omega) ev25 (fun _ _ q => q)) (fun E h9 q => nomatch (show (Sum.inr E : tq_R) = Sum.inl _ from q.1)) (fun r9 h9 q => ?_)
    obtain ⟨q1, rfl⟩ := q
    cases (show (Sum.inl r9 : tq_R) = Sum.inl (none) from q1)
    refine tq_aload_n (M := mX9_change) (pc := 112) dX9_change_112 rfl ?_
    refine tq_dup (M := mX9_change) (pc := 113) dX9_change_113 rfl ?_
    obtain ⟨x27, ex27, hf⟩ := tq_be hf
    refine tq_getL (M := mX9_change) (pc := 114) tk_c9 (by decide) dX9_change_114 tk_RX9_41 rfl ex27 ?_
    refine tq_iload (M := mX9_change) (pc := 117) dX9_change_117 rfl ?_
    obtain ⟨v28, ev28, hf⟩ := tq_be hf
    refine tq_calS (M := mX9_change) (pc := 119) (S := [.long x27, .ref t]) tk_y_X0_one tk_s_X0_one tk_RX9_125 dX9_change_119 [.int v22.1] rfl (Nat.le_of_ble_eq_true rfl) (d1 := d - 1) (b1 := 0) (s1 := 0) (bc' := 0) (bs' := 0) (Q1 := fun r h9 => r = .inl (some (.long v28)) ∧ v25 = h9) (by omega) rfl rfl (w_X0_one (by omega) ev28 (fun _ _ q => q)) (fun E h9 q => nomatch (show (Sum.inr E : tq_R) = Sum.inl _ from q.1)) (fun r9 h9 q => ?_)
    obtain ⟨q1, rfl⟩ := q
    cases (show (Sum.inl r9 : tq_R) = Sum.inl (some (.long v28)) from q1)
    refine tq_lor (M := mX9_change) (pc := 122) dX9_change_122 ?_
    obtain ⟨w29, ew29, hf⟩ := tq_be hf
    refine tq_putv (M := mX9_change) (pc := 123) tk_c9 (by decide) dX9_change_123 tk_RX9_41 rfl (Or.inl rfl) ew29 (tq_nL _) ?_
    refine tq_goto (M := mX9_change) (pc := 126) (tgt := 237) dX9_change_126 (by decide) ?_
    refine tq_pick (L2 := []) [] rfl ?_
    cases (Option.some.inj hf)
    exact HJ37
  have hf := tq_ifn hf c0
  by_cases c1 : v11 = (1 : Int32)
  · have hf := tq_ifp hf c1
    refine tq_tabX (M := mX9_change) (pc := 37) (tgt := 167) (1 : Int32) c1 dX9_change_37 (by decide +kernel) (by decide +kernel) (off := 130) (by decide +kernel) (by decide) ?_
    refine tq_aload_n (M := mX9_change) (pc := 167) dX9_change_167 rfl ?_
    refine tq_dup (M := mX9_change) (pc := 168) dX9_change_168 rfl ?_
    obtain ⟨x30, ex30, hf⟩ := tq_be hf
    refine tq_getL (M := mX9_change) (pc := 169) tk_c9 (by decide) dX9_change_169 tk_RX9_45 rfl ex30 ?_
    refine tq_iload_n (M := mX9_change) (pc := 172) dX9_change_172 rfl ?_
    obtain ⟨v31, ev31, hf⟩ := tq_be hf
    refine tq_calS (M := mX9_change) (pc := 173) (S := [.long x30, .ref t]) tk_y_X0_one tk_s_X0_one tk_RX9_125 dX9_change_173 [.int v2] rfl (Nat.le_of_ble_eq_true rfl) (d1 := d - 1) (b1 := 0) (s1 := 0) (bc' := 0) (bs' := 0) (Q1 := fun r h9 => r = .inl (some (.long v31)) ∧ w9 = h9) (by omega) rfl rfl (w_X0_one (by omega) ev31 (fun _ _ q => q)) (fun E h9 q => nomatch (show (Sum.inr E : tq_R) = Sum.inl _ from q.1)) (fun r9 h9 q => ?_)
    obtain ⟨q1, rfl⟩ := q
    cases (show (Sum.inl r9 : tq_R) = Sum.inl (some (.long v31)) from q1)
    refine tq_lor (M := mX9_change) (pc := 176) dX9_change_176 ?_
    obtain ⟨w32, ew32, hf⟩ := tq_be hf
    refine tq_putv (M := mX9_change) (pc := 177) tk_c9 (by decide) dX9_change_177 tk_RX9_45 rfl (Or.inl rfl) ew32 (tq_nL _) ?_
    refine tq_goto (M := mX9_change) (pc := 180) (tgt := 237) dX9_change_180 (by decide) ?_
    refine tq_pick (L2 := []) [] rfl ?_
    cases (Option.some.inj hf)
    exact HJ37
  have hf := tq_ifn hf c1
  by_cases c2 : v11 = (2 : Int32)
  · have hf := tq_ifp hf c2
    refine tq_tabX (M := mX9_change) (pc := 37) (tgt := 183) (2 : Int32) c2 dX9_change_37 (by decide +kernel) (by decide +kernel) (off := 146) (by decide +kernel) (by decide) ?_
    refine tq_aload_n (M := mX9_change) (pc := 183) dX9_change_183 rfl ?_
    obtain ⟨k33, ek33, hf⟩ := tq_be hf
    refine tq_getR (M := mX9_change) (pc := 184) tk_c8 (by decide) dX9_change_184 tk_RX9_133 rfl ek33 ?_
    refine tq_iload_n (M := mX9_change) (pc := 187) dX9_change_187 rfl ?_
    refine tq_aload_n (M := mX9_change) (pc := 188) dX9_change_188 rfl ?_
    obtain ⟨k34, ek34, hf⟩ := tq_be hf
    refine tq_getR (M := mX9_change) (pc := 189) tk_c9 (by decide) dX9_change_189 tk_RX9_35 rfl ek34 ?_
    refine tq_iload_n (M := mX9_change) (pc := 192) dX9_change_192 rfl ?_
    obtain ⟨⟨⟩, eu36, hf⟩ := tq_be hf
    obtain ⟨fsu36, eu36⟩ := tq_is_s eu36
    obtain ⟨v35, ev35, hf⟩ := tq_be hf
    refine tq_calV (M := mX9_change) (pc := 193) (S := [.int v2, .ref k33]) tk_y_X5_get tk_v_X5_get tk_RX9_70 dX9_change_193 [.int a2] rfl (S0 := _) rfl eu36 rfl (Nat.le_of_ble_eq_true rfl) (d1 := d - 1) (b1 := 0) (s1 := 0) (bc' := 0) (bs' := 0) (Q1 := fun r h9 => r = .inl (some (.int v35)) ∧ w9 = h9) (by omega) rfl rfl (w_X5_get (by omega) ev35 (fun _ _ q => q)) (fun E h9 q => nomatch (show (Sum.inr E : tq_R) = Sum.inl _ from q.1)) (fun r9 h9 q => ?_)
    obtain ⟨q1, rfl⟩ := q
    cases (show (Sum.inl r9 : tq_R) = Sum.inl (some (.int v35)) from q1)
    obtain ⟨⟨⟩, eu38, hf⟩ := tq_be hf
    obtain ⟨fsu38, eu38⟩ := tq_is_s eu38
    obtain ⟨v37, ev37, hf⟩ := tq_be hf
    refine tq_calV (M := mX9_change) (pc := 196) (S := []) tk_y_X5_set tk_v_X5_set tk_RX9_55 dX9_change_196 [.int v2, .int v35] rfl (S0 := _) rfl eu38 rfl (Nat.le_of_ble_eq_true rfl) (d1 := d - 1) (b1 := 0) (s1 := 0) (bc' := 0) (bs' := 0) (Q1 := fun r h9 => r = .inl none ∧ v37 = h9) (by omega) rfl rfl (w_X5_set (by omega) ev37 (fun _ _ q => q)) (fun E h9 q => nomatch (show (Sum.inr E : tq_R) = Sum.inl _ from q.1)) (fun r9 h9 q => ?_)
    obtain ⟨q1, rfl⟩ := q
    cases (show (Sum.inl r9 : tq_R) = Sum.inl (none) from q1)
    refine tq_goto (M := mX9_change) (pc := 199) (tgt := 237) dX9_change_199 (by decide) ?_
    refine tq_pick (L2 := []) [] rfl ?_
    cases (Option.some.inj hf)
    exact HJ37
  have hf := tq_ifn hf c2
  by_cases c3 : v11 = (3 : Int32)
  · have hf := tq_ifp hf c3
    refine tq_tabX (M := mX9_change) (pc := 37) (tgt := 202) (3 : Int32) c3 dX9_change_37 (by decide +kernel) (by decide +kernel) (off := 165) (by decide +kernel) (by decide) ?_
    refine tq_aload_n (M := mX9_change) (pc := 202) dX9_change_202 rfl ?_
    obtain ⟨k39, ek39, hf⟩ := tq_be hf
    refine tq_getR (M := mX9_change) (pc := 203) tk_c8 (by decide) dX9_change_203 tk_RX9_134 rfl ek39 ?_
    refine tq_iload_n (M := mX9_change) (pc := 206) dX9_change_206 rfl ?_
    refine tq_aload_n (M := mX9_change) (pc := 207) dX9_change_207 rfl ?_
    obtain ⟨k40, ek40, hf⟩ := tq_be hf
    refine tq_getR (M := mX9_change) (pc := 208) tk_c9 (by decide) dX9_change_208 tk_RX9_35 rfl ek40 ?_
    refine tq_iload_n (M := mX9_change) (pc := 211) dX9_change_211 rfl ?_
    obtain ⟨⟨⟩, eu42, hf⟩ := tq_be hf
    obtain ⟨fsu42, eu42⟩ := tq_is_s eu42
    obtain ⟨v41, ev41, hf⟩ := tq_be hf
    refine tq_calV (M := mX9_change) (pc := 212) (S := [.int v2, .ref k39]) tk_y_X5_get tk_v_X5_get tk_RX9_70 dX9_change_212 [.int a2] rfl (S0 := _) rfl eu42 rfl (Nat.le_of_ble_eq_true rfl) (d1 := d - 1) (b1 := 0) (s1 := 0) (bc' := 0) (bs' := 0) (Q1 := fun r h9 => r = .inl (some (.int v41)) ∧ w9 = h9) (by omega) rfl rfl (w_X5_get (by omega) ev41 (fun _ _ q => q)) (fun E h9 q => nomatch (show (Sum.inr E : tq_R) = Sum.inl _ from q.1)) (fun r9 h9 q => ?_)
    obtain ⟨q1, rfl⟩ := q
    cases (show (Sum.inl r9 : tq_R) = Sum.inl (some (.int v41)) from q1)
    obtain ⟨⟨⟩, eu44, hf⟩ := tq_be hf
    obtain ⟨fsu44, eu44⟩ := tq_is_s eu44
    obtain ⟨v43, ev43, hf⟩ := tq_be hf
    refine tq_calV (M := mX9_change) (pc := 215) (S := []) tk_y_X5_set tk_v_X5_set tk_RX9_55 dX9_change_215 [.int v2, .int v41] rfl (S0 := _) rfl eu44 rfl (Nat.le_of_ble_eq_true rfl) (d1 := d - 1) (b1 := 0) (s1 := 0) (bc' := 0) (bs' := 0) (Q1 := fun r h9 => r = .inl none ∧ v43 = h9) (by omega) rfl rfl (w_X5_set (by omega) ev43 (fun _ _ q => q)) (fun E h9 q => nomatch (show (Sum.inr E : tq_R) = Sum.inl _ from q.1)) (fun r9 h9 q => ?_)
    obtain ⟨q1, rfl⟩ := q
    cases (show (Sum.inl r9 : tq_R) = Sum.inl (none) from q1)
    refine tq_goto (M := mX9_change) (pc := 218) (tgt := 237) dX9_change_218 (by decide) ?_
    refine tq_pick (L2 := []) [] rfl ?_
    cases (Option.some.inj hf)
    exact HJ37
  have hf := tq_ifn hf c3
  by_cases c4 : v11 = (4 : Int32)
  · have hf := tq_ifp hf c4
    refine tq_tabX (M := mX9_change) (pc := 37) (tgt := 129) (4 : Int32) c4 dX9_change_37 (by decide +kernel) (by decide +kernel) (off := 92) (by decide +kernel) (by decide) ?_
    refine tq_aload_n (M := mX9_change) (pc := 129) dX9_change_129 rfl ?_
    obtain ⟨k45, ek45, hf⟩ := tq_be hf
    refine tq_getR (M := mX9_change) (pc := 130) tk_c9 (by decide) dX9_change_130 tk_RX9_38 rfl ek45 ?_
    refine tq_iload_n (M := mX9_change) (pc := 133) dX9_change_133 rfl ?_
    refine tq_iload_n (M := mX9_change) (pc := 134) dX9_change_134 rfl ?_
    obtain ⟨⟨⟩, eu47, hf⟩ := tq_be hf
    obtain ⟨fsu47, eu47⟩ := tq_is_s eu47
    obtain ⟨v46, ev46, hf⟩ := tq_be hf
    refine tq_calV (M := mX9_change) (pc := 135) (S := []) tk_y_X5_set tk_v_X5_set tk_RX9_55 dX9_change_135 [.int a2, .int v2] rfl (S0 := _) rfl eu47 rfl (Nat.le_of_ble_eq_true rfl) (d1 := d - 1) (b1 := 0) (s1 := 0) (bc' := 0) (bs' := 0) (Q1 := fun r h9 => r = .inl none ∧ v46 = h9) (by omega) rfl rfl (w_X5_set (by omega) ev46 (fun _ _ q => q)) (fun E h9 q => nomatch (show (Sum.inr E : tq_R) = Sum.inl _ from q.1)) (fun r9 h9 q => ?_)
    obtain ⟨q1, rfl⟩ := q
    cases (show (Sum.inl r9 : tq_R) = Sum.inl (none) from q1)
    refine tq_aload_n (M := mX9_change) (pc := 138) dX9_change_138 rfl ?_
    refine tq_dup (M := mX9_change) (pc := 139) dX9_change_139 rfl ?_
    obtain ⟨x48, ex48, hf⟩ := tq_be hf
    refine tq_getL (M := mX9_change) (pc := 140) tk_c9 (by decide) dX9_change_140 tk_RX9_41 rfl ex48 ?_
    refine tq_iload_n (M := mX9_change) (pc := 143) dX9_change_143 rfl ?_
    obtain ⟨v49, ev49, hf⟩ := tq_be hf
    refine tq_calS (M := mX9_change) (pc := 144) (S := [.long x48, .ref t]) tk_y_X0_one tk_s_X0_one tk_RX9_125 dX9_change_144 [.int v2] rfl (Nat.le_of_ble_eq_true rfl) (d1 := d - 1) (b1 := 0) (s1 := 0) (bc' := 0) (bs' := 0) (Q1 := fun r h9 => r = .inl (some (.long v49)) ∧ v46 = h9) (by omega) rfl rfl (w_X0_one (by omega) ev49 (fun _ _ q => q)) (fun E h9 q => nomatch (show (Sum.inr E : tq_R) = Sum.inl _ from q.1)) (fun r9 h9 q => ?_)
    obtain ⟨q1, rfl⟩ := q
    cases (show (Sum.inl r9 : tq_R) = Sum.inl (some (.long v49)) from q1)
    refine tq_lor (M := mX9_change) (pc := 147) dX9_change_147 ?_
    obtain ⟨w50, ew50, hf⟩ := tq_be hf
    refine tq_putv (M := mX9_change) (pc := 148) tk_c9 (by decide) dX9_change_148 tk_RX9_41 rfl (Or.inl rfl) ew50 (tq_nL _) ?_
    refine tq_aload_n (M := mX9_change) (pc := 151) dX9_change_151 rfl ?_
    refine tq_dup (M := mX9_change) (pc := 152) dX9_change_152 rfl ?_
    obtain ⟨x51, ex51, hf⟩ := tq_be hf
    refine tq_getL (M := mX9_change) (pc := 153) tk_c9 (by decide) dX9_change_153 tk_RX9_45 rfl ex51 ?_
    refine tq_iload_n (M := mX9_change) (pc := 156) dX9_change_156 rfl ?_
    obtain ⟨v52, ev52, hf⟩ := tq_be hf
    refine tq_calS (M := mX9_change) (pc := 157) (S := [.long x51, .ref t]) tk_y_X0_one tk_s_X0_one tk_RX9_125 dX9_change_157 [.int v2] rfl (Nat.le_of_ble_eq_true rfl) (d1 := d - 1) (b1 := 0) (s1 := 0) (bc' := 0) (bs' := 0) (Q1 := fun r h9 => r = .inl (some (.long v52)) ∧ w50 = h9) (by omega) rfl rfl (w_X0_one (by omega) ev52 (fun _ _ q => q)) (fun E h9 q => nomatch (show (Sum.inr E : tq_R) = Sum.inl _ from q.1)) (fun r9 h9 q => ?_)
    obtain ⟨q1, rfl⟩ := q
    cases (show (Sum.inl r9 : tq_R) = Sum.inl (some (.long v52)) from q1)
    refine tq_lor (M := mX9_change) (pc := 160) dX9_change_160 ?_
    obtain ⟨w53, ew53, hf⟩ := tq_be hf
    refine tq_putv (M := mX9_change) (pc := 161) tk_c9 (by decide) dX9_change_161 tk_RX9_45 rfl (Or.inl rfl) ew53 (tq_nL _) ?_
    refine tq_goto (M := mX9_change) (pc := 164) (tgt := 237) dX9_change_164 (by decide) ?_
    refine tq_pick (L2 := []) [] rfl ?_
    cases (Option.some.inj hf)
    exact HJ37
  have hf := tq_ifn hf c4
  have hD := tq_far (c := v11) (n := 5) (by decide) (fun j hj => by match j, hj with
    | 0, _ => exact c0
    | 1, _ => exact c1
    | 2, _ => exact c2
    | 3, _ => exact c3
    | 4, _ => exact c4
    | j + 5, hj => exact absurd hj (by omega))
  refine tq_tabD (M := mX9_change) (pc := 37) (tgt := 221) dX9_change_37 (by exact hD) (by decide) ?_
  refine tq_aload_n (M := mX9_change) (pc := 221) dX9_change_221 rfl ?_
  obtain ⟨k54, ek54, hf⟩ := tq_be hf
  refine tq_getR (M := mX9_change) (pc := 222) tk_c8 (by decide) dX9_change_222 tk_RX9_135 rfl ek54 ?_
  refine tq_iload_n (M := mX9_change) (pc := 225) dX9_change_225 rfl ?_
  refine tq_aload_n (M := mX9_change) (pc := 226) dX9_change_226 rfl ?_
  obtain ⟨k55, ek55, hf⟩ := tq_be hf
  refine tq_getR (M := mX9_change) (pc := 227) tk_c9 (by decide) dX9_change_227 tk_RX9_35 rfl ek55 ?_
  refine tq_iload_n (M := mX9_change) (pc := 230) dX9_change_230 rfl ?_
  obtain ⟨⟨⟩, eu57, hf⟩ := tq_be hf
  obtain ⟨fsu57, eu57⟩ := tq_is_s eu57
  obtain ⟨v56, ev56, hf⟩ := tq_be hf
  refine tq_calV (M := mX9_change) (pc := 231) (S := [.int v2, .ref k54]) tk_y_X5_get tk_v_X5_get tk_RX9_70 dX9_change_231 [.int a2] rfl (S0 := _) rfl eu57 rfl (Nat.le_of_ble_eq_true rfl) (d1 := d - 1) (b1 := 0) (s1 := 0) (bc' := 0) (bs' := 0) (Q1 := fun r h9 => r = .inl (some (.int v56)) ∧ w9 = h9) (by omega) rfl rfl (w_X5_get (by omega) ev56 (fun _ _ q => q)) (fun E h9 q => nomatch (show (Sum.inr E : tq_R) = Sum.inl _ from q.1)) (fun r9 h9 q => ?_)
  obtain ⟨q1, rfl⟩ := q
  cases (show (Sum.inl r9 : tq_R) = Sum.inl (some (.int v56)) from q1)
  obtain ⟨⟨⟩, eu59, hf⟩ := tq_be hf
  obtain ⟨fsu59, eu59⟩ := tq_is_s eu59
  obtain ⟨v58, ev58, hf⟩ := tq_be hf
  refine tq_calV (M := mX9_change) (pc := 234) (S := []) tk_y_X5_set tk_v_X5_set tk_RX9_55 dX9_change_234 [.int v2, .int v56] rfl (S0 := _) rfl eu59 rfl (Nat.le_of_ble_eq_true rfl) (d1 := d - 1) (b1 := 0) (s1 := 0) (bc' := 0) (bs' := 0) (Q1 := fun r h9 => r = .inl none ∧ v58 = h9) (by omega) rfl rfl (w_X5_set (by omega) ev58 (fun _ _ q => q)) (fun E h9 q => nomatch (show (Sum.inr E : tq_R) = Sum.inl _ from q.1)) (fun r9 h9 q => ?_)
  obtain ⟨q1, rfl⟩ := q
  cases (show (Sum.inl r9 : tq_R) = Sum.inl (none) from q1)
  refine tq_pick (L2 := []) [] rfl ?_
  cases (Option.some.inj hf)
  exact HJ37
abbrev mX9_isInto : tq_M := (RX9, cX9_isInto, 4, (some .boolean), false, [], none)
def f_X9_isInto (t : Nat) (a1 : Int32) (a2 : Int32) (a3 : Int32) (h : tq_H) : Option (Int32) :=
  (tq_gr h t 9 2).bind fun k1 =>
  (tq_is h k1 5).bind fun _ =>
  (f_X5_get k1 a1 h).bind fun v2 =>
  (if v2 = a2 then
    (tq_gr h t 9 3).bind fun k4 =>
    (tq_is h k4 5).bind fun _ =>
    (f_X5_get k4 a1 h).bind fun v5 =>
    if v5 = a3 then
      some (1 : Int32)
    else
      some (0 : Int32)
  else
    some (0 : Int32)).bind fun p7 =>
  (tq_bz p7).bind fun z8 =>
  some z8
set_option maxHeartbeats 4000000 in
set_option maxRecDepth 20000 in
theorem w_X9_isInto {l : Launch} {d : Nat} (hd9 : 1 ≤ d) {t : Nat} {a1 : Int32} {a2 : Int32} {a3 : Int32} {h : tq_H} {o : Int32} {Q : tq_R → tq_H → Prop} (hf : f_X9_isInto t a1 a2 a3 h = some o) (hQ : ∀ r h9, r = .inl (some (.int o)) ∧ h = h9 → Q r h9) : tq_C l yX9_isInto cX9_isInto 4 (some .boolean) d 0 0 [.ref t, .int a1, .int a2, .int a3] h Q := by
  refine tq_body (y := yX9_isInto) false (by decide +kernel) (fun z => by cases z) (Nat.le_of_ble_eq_true rfl) ?_
  show tq_W l mX9_isInto d 0 0 Q 0 [(0, .ref t), (1, .int a1), (2, .int a2), (3, .int a3)] [] h
  refine tq_aload_n (M := mX9_isInto) (pc := 0) dX9_isInto_0 rfl ?_
  obtain ⟨k1, ek1, hf⟩ := tq_be hf
  refine tq_getR (M := mX9_isInto) (pc := 1) tk_c9 (by decide) dX9_isInto_1 tk_RX9_23 rfl ek1 ?_
  refine tq_iload_n (M := mX9_isInto) (pc := 4) dX9_isInto_4 rfl ?_
  obtain ⟨⟨⟩, eu3, hf⟩ := tq_be hf
  obtain ⟨fsu3, eu3⟩ := tq_is_s eu3
  obtain ⟨v2, ev2, hf⟩ := tq_be hf
  refine tq_calV (M := mX9_isInto) (pc := 5) (S := []) tk_y_X5_get tk_v_X5_get tk_RX9_70 dX9_isInto_5 [.int a1] rfl (S0 := _) rfl eu3 rfl (Nat.le_of_ble_eq_true rfl) (d1 := d - 1) (b1 := 0) (s1 := 0) (bc' := 0) (bs' := 0) (Q1 := fun r h9 => r = .inl (some (.int v2)) ∧ h = h9) (by omega) rfl rfl (w_X5_get (by omega) ev2 (fun _ _ q => q)) (fun E h9 q => nomatch (show (Sum.inr E : tq_R) = Sum.inl _ from q.1)) (fun r9 h9 q => ?_)
  obtain ⟨q1, rfl⟩ := q
  cases (show (Sum.inl r9 : tq_R) = Sum.inl (some (.int v2)) from q1)
  refine tq_iload_n (M := mX9_isInto) (pc := 8) dX9_isInto_8 rfl ?_
  obtain ⟨p7, ep7, hf⟩ := tq_be hf
  have HJ9 : tq_W l mX9_isInto d 0 0 Q 29 [] [.int p7] h := by
    obtain ⟨z8, ez8, hf⟩ := tq_be hf
    refine tq_zretB (M := mX9_isInto) (pc := 29) dX9_isInto_29 rfl ez8 ?_
    cases (Option.some.inj hf)
    exact hQ _ _ ⟨rfl, rfl⟩
  refine tq_icmp_ne (M := mX9_isInto) (pc := 9) (tgt := 28) dX9_isInto_9 (by decide) (fun cc => ?_) (fun cc => ?_)
  · have hf := tq_ifn ep7 cc
    refine tq_iconst (M := mX9_isInto) (pc := 28) dX9_isInto_28 tk_ki_0 ?_
    refine tq_pick (L2 := []) [] rfl ?_
    cases (Option.some.inj hf)
    exact HJ9
  · have hf := tq_ifp ep7 cc
    refine tq_aload_n (M := mX9_isInto) (pc := 12) dX9_isInto_12 rfl ?_
    obtain ⟨k4, ek4, hf⟩ := tq_be hf
    refine tq_getR (M := mX9_isInto) (pc := 13) tk_c9 (by decide) dX9_isInto_13 tk_RX9_26 rfl ek4 ?_
    refine tq_iload_n (M := mX9_isInto) (pc := 16) dX9_isInto_16 rfl ?_
    obtain ⟨⟨⟩, eu6, hf⟩ := tq_be hf
    obtain ⟨fsu6, eu6⟩ := tq_is_s eu6
    obtain ⟨v5, ev5, hf⟩ := tq_be hf
    refine tq_calV (M := mX9_isInto) (pc := 17) (S := []) tk_y_X5_get tk_v_X5_get tk_RX9_70 dX9_isInto_17 [.int a1] rfl (S0 := _) rfl eu6 rfl (Nat.le_of_ble_eq_true rfl) (d1 := d - 1) (b1 := 0) (s1 := 0) (bc' := 0) (bs' := 0) (Q1 := fun r h9 => r = .inl (some (.int v5)) ∧ h = h9) (by omega) rfl rfl (w_X5_get (by omega) ev5 (fun _ _ q => q)) (fun E h9 q => nomatch (show (Sum.inr E : tq_R) = Sum.inl _ from q.1)) (fun r9 h9 q => ?_)
    obtain ⟨q1, rfl⟩ := q
    cases (show (Sum.inl r9 : tq_R) = Sum.inl (some (.int v5)) from q1)
    refine tq_iload_n (M := mX9_isInto) (pc := 20) dX9_isInto_20 rfl ?_
    refine tq_icmp_ne (M := mX9_isInto) (pc := 21) (tgt := 28) dX9_isInto_21 (by decide) (fun cc => ?_) (fun cc => ?_)
    · have hf := tq_ifn hf cc
      refine tq_iconst (M := mX9_isInto) (pc := 28) dX9_isInto_28 tk_ki_0 ?_
      refine tq_pick (L2 := []) [] rfl ?_
      cases (Option.some.inj hf)
      exact HJ9
    · have hf := tq_ifp hf cc
      refine tq_iconst (M := mX9_isInto) (pc := 24) dX9_isInto_24 tk_ki_1 ?_
      refine tq_goto (M := mX9_isInto) (pc := 25) (tgt := 29) dX9_isInto_25 (by decide) ?_
      refine tq_pick (L2 := []) [] rfl ?_
      cases (Option.some.inj hf)
      exact HJ9
abbrev mX9_linkAttributes : tq_M := (RX9, cX9_linkAttributes, 12, none, false, [], none)
def f_X9_linkAttributes_b70 (i0 : Nat) (i1 : Nat) (i2 : Nat) (i4 : Int32) (i5 : Int64) (i7 : Int32) (i8 : Int32) (i9 : Int32) (s : Int32 × tq_H) : Option ((Int32 × tq_H) ⊕ (tq_H)) := match s with
  | (y10, hh) =>
    if y10 ≥ i7 then
      some (.inr hh)
    else
      (tq_gr hh i1 8 0).bind fun k12 =>
      (tq_is hh k12 3).bind fun _ =>
      (f_X3_nodeOfSet k12 i5 y10 hh).bind fun v13 =>
      (tq_gr hh i2 8 2).bind fun k15 =>
      (tq_is hh k15 5).bind fun _ =>
      (f_X5_get k15 v13 hh).bind fun v16 =>
      (if v16 = i9 then
        (tq_gl hh i0 9 9).bind fun x18 =>
        (f_X0_holds x18 v13 hh).bind fun v19 =>
        if v19 = 0 then
          (tq_is hh i2 8).bind fun _ =>
          (f_X8_append i2 i4 v13 hh).bind fun v20 =>
          some v20
        else
          some hh
      else
        some hh).bind fun p22 =>
      tq_let (y10 + (1 : Int32)) fun x23 =>
      some (.inl (x23, p22))
def f_X9_linkAttributes_b133 (i0 : Nat) (i1 : Nat) (i2 : Nat) (i4 : Int32) (i5 : Int64) (i7 : Int32) (i8 : Int32) (i9 : Int32) (s : Int32 × tq_H) : Option ((Int32 × tq_H) ⊕ (tq_H)) := match s with
  | (y10, hh) =>
    if y10 ≥ i8 then
      some (.inr hh)
    else
      (tq_is hh i0 9).bind fun _ =>
      (f_X9_isInto i0 y10 i4 (-1 : Int32) hh).bind fun v25 =>
      (if v25 = 0 then
        some hh
      else
        (tq_gr hh i0 9 5).bind fun k27 =>
        (tq_is hh k27 5).bind fun _ =>
        (f_X5_get k27 y10 hh).bind fun v28 =>
        if v28 = i9 then
          (tq_gr hh i0 9 7).bind fun k30 =>
          (tq_is hh k30 5).bind fun _ =>
          (f_X5_get k30 y10 hh).bind fun v31 =>
          (tq_is hh i2 8).bind fun _ =>
          (f_X8_append i2 i4 v31 hh).bind fun v33 =>
          some v33
        else
          some hh).bind fun p35 =>
      tq_let (y10 + (1 : Int32)) fun x36 =>
      some (.inl (x36, p35))
def f_X9_linkAttributes_b52 (i0 : Nat) (i1 : Nat) (i2 : Nat) (i4 : Int32) (i5 : Int64) (i7 : Int32) (i8 : Int32) (s : Int32 × tq_H) : Option ((Int32 × tq_H) ⊕ (tq_H)) := match s with
  | (y9, hh) =>
    if y9 ≥ (8 : Int32) then
      some (.inr hh)
    else
      if (i7 + i8) ≤ 0 then
        some (.inr hh)
      else
        (tq_loop (f_X9_linkAttributes_b70 i0 i1 i2 i4 i5 i7 i8 y9) tq_N ((0 : Int32), hh)).bind fun o24 =>
        (tq_loop (f_X9_linkAttributes_b133 i0 i1 i2 i4 i5 i7 i8 y9) tq_N ((0 : Int32), o24)).bind fun o37 =>
        tq_let (y9 + (1 : Int32)) fun x38 =>
        some (.inl (x38, o37))
def f_X9_linkAttributes (t : Nat) (a1 : Nat) (a2 : Nat) (a3 : Int32) (h : tq_H) : Option (tq_H) :=
  (tq_gr h a1 8 0).bind fun k1 =>
  (tq_is h k1 3).bind fun _ =>
  (f_X3_nodeAt k1 a3 h).bind fun v2 =>
  (tq_gr h a1 8 0).bind fun k4 =>
  (tq_is h k4 3).bind fun _ =>
  (f_X3_attributesOf k4 a3 h).bind fun v5 =>
  (f_J13_bitCount_95d88 v5 h).bind fun v7 =>
  (tq_gl h t 9 10).bind fun x8 =>
  (f_X0_holds x8 v2 h).bind fun v9 =>
  (if v9 = 0 then
    some (0 : Int32)
  else
    (tq_gi h t 9 11).bind fun x10 =>
    some x10).bind fun p11 =>
  (tq_loop (f_X9_linkAttributes_b52 t a1 a2 v2 v5 v7 p11) tq_N ((0 : Int32), h)).bind fun o39 =>
  some o39
set_option maxHeartbeats 4000000 in
theorem l_X9_linkAttributes_70 {l : Launch} {d : Nat} {Q : tq_R → tq_H → Prop} {bc bs : Nat} (hd9 : 4 ≤ d) (i0 : Nat) (i1 : Nat) (i2 : Nat) (i4 : Int32) (i5 : Int64) (i7 : Int32) (i8 : Int32) (i9 : Int32) : ∀ (n : Nat) (y10 : Int32) (hh : tq_H) (o : tq_H), tq_loop (f_X9_linkAttributes_b70 i0 i1 i2 i4 i5 i7 i8 i9) n (y10, hh) = some o → tq_W l mX9_linkAttributes d bc bs Q 130 [(0, .ref i0), (1, .ref i1), (2, .ref i2), (4, .int i4), (5, .long i5), (7, .int i7), (8, .int i8), (9, .int i9)] [] o → tq_W l mX9_linkAttributes d bc bs Q 70 [(0, .ref i0), (1, .ref i1), (2, .ref i2), (4, .int i4), (5, .long i5), (7, .int i7), (8, .int i8), (9, .int i9), (10, .int y10)] [] hh := by
  intro n
  induction n with
  | zero => intro y10 hh o hl; cases hl
  | succ n ih =>
    intro y10 hh o hl hk
    obtain ⟨oo, hf, ho⟩ := tq_loop_s hl
    refine tq_iload (M := mX9_linkAttributes) (pc := 70) dX9_linkAttributes_70 rfl ?_
    refine tq_iload (M := mX9_linkAttributes) (pc := 72) dX9_linkAttributes_72 rfl ?_
    refine tq_icmp_ge (M := mX9_linkAttributes) (pc := 74) (tgt := 130) dX9_linkAttributes_74 (by decide) (fun cc => ?_) (fun cc => ?_)
    · have hf := tq_ifp hf cc
      refine tq_pick (L2 := [(0, .ref i0), (1, .ref i1), (2, .ref i2), (4, .int i4), (5, .long i5), (7, .int i7), (8, .int i8), (9, .int i9)]) [0, 1, 2, 3, 4, 5, 6, 7] rfl ?_
      cases (Option.some.inj hf)
      cases (tq_lx ho)
      exact hk
    · have hf := tq_ifn hf cc
      refine tq_aload_n (M := mX9_linkAttributes) (pc := 77) dX9_linkAttributes_77 rfl ?_
      obtain ⟨k12, ek12, hf⟩ := tq_be hf
      refine tq_getR (M := mX9_linkAttributes) (pc := 78) tk_c8 (by decide) dX9_linkAttributes_78 tk_RX9_80 rfl ek12 ?_
      refine tq_lload (M := mX9_linkAttributes) (pc := 81) dX9_linkAttributes_81 rfl ?_
      refine tq_iload (M := mX9_linkAttributes) (pc := 83) dX9_linkAttributes_83 rfl ?_
      obtain ⟨⟨⟩, eu14, hf⟩ := tq_be hf
      obtain ⟨fsu14, eu14⟩ := tq_is_s eu14
      obtain ⟨v13, ev13, hf⟩ := tq_be hf
      refine tq_calV (M := mX9_linkAttributes) (pc := 85) (S := []) tk_y_X3_nodeOfSet tk_v_X3_nodeOfSet tk_RX9_150 dX9_linkAttributes_85 [.long i5, .int y10] rfl (S0 := _) rfl eu14 rfl (Nat.le_of_ble_eq_true rfl) (d1 := d - 1) (b1 := 0) (s1 := 0) (bc' := bc) (bs' := bs) (Q1 := fun r h9 => r = .inl (some (.int v13)) ∧ hh = h9) (by omega) (by omega) (by omega) (w_X3_nodeOfSet (by omega) ev13 (fun _ _ q => q)) (fun E h9 q => nomatch (show (Sum.inr E : tq_R) = Sum.inl _ from q.1)) (fun r9 h9 q => ?_)
      obtain ⟨q1, rfl⟩ := q
      cases (show (Sum.inl r9 : tq_R) = Sum.inl (some (.int v13)) from q1)
      refine tq_istore (M := mX9_linkAttributes) (pc := 88) dX9_linkAttributes_88 (L2 := [(11, .int v13), (0, .ref i0), (1, .ref i1), (2, .ref i2), (4, .int i4), (5, .long i5), (7, .int i7), (8, .int i8), (9, .int i9), (10, .int y10)]) (by decide) rfl ?_
      refine tq_aload_n (M := mX9_linkAttributes) (pc := 90) dX9_linkAttributes_90 rfl ?_
      obtain ⟨k15, ek15, hf⟩ := tq_be hf
      refine tq_getR (M := mX9_linkAttributes) (pc := 91) tk_c8 (by decide) dX9_linkAttributes_91 tk_RX9_133 rfl ek15 ?_
      refine tq_iload (M := mX9_linkAttributes) (pc := 94) dX9_linkAttributes_94 rfl ?_
      obtain ⟨⟨⟩, eu17, hf⟩ := tq_be hf
      obtain ⟨fsu17, eu17⟩ := tq_is_s eu17
      obtain ⟨v16, ev16, hf⟩ := tq_be hf
      refine tq_calV (M := mX9_linkAttributes) (pc := 96) (S := []) tk_y_X5_get tk_v_X5_get tk_RX9_70 dX9_linkAttributes_96 [.int v13] rfl (S0 := _) rfl eu17 rfl (Nat.le_of_ble_eq_true rfl) (d1 := d - 1) (b1 := 0) (s1 := 0) (bc' := bc) (bs' := bs) (Q1 := fun r h9 => r = .inl (some (.int v16)) ∧ hh = h9) (by omega) (by omega) (by omega) (w_X5_get (by omega) ev16 (fun _ _ q => q)) (fun E h9 q => nomatch (show (Sum.inr E : tq_R) = Sum.inl _ from q.1)) (fun r9 h9 q => ?_)
      obtain ⟨q1, rfl⟩ := q
      cases (show (Sum.inl r9 : tq_R) = Sum.inl (some (.int v16)) from q1)
      refine tq_iload (M := mX9_linkAttributes) (pc := 99) dX9_linkAttributes_99 rfl ?_
      obtain ⟨p22, ep22, hf⟩ := tq_be hf
      have HJ101 : tq_W l mX9_linkAttributes d bc bs Q 124 [(0, .ref i0), (1, .ref i1), (2, .ref i2), (4, .int i4), (5, .long i5), (7, .int i7), (8, .int i8), (9, .int i9), (10, .int y10)] [] p22 := by
        obtain ⟨x23, ex23, hf⟩ := tq_le hf
        refine tq_iinc (M := mX9_linkAttributes) (pc := 124) (v := x23) (L2 := [(10, .int x23), (0, .ref i0), (1, .ref i1), (2, .ref i2), (4, .int i4), (5, .long i5), (7, .int i7), (8, .int i8), (9, .int i9)]) dX9_linkAttributes_124 rfl (by rw [ex23, tk_ki_1]) (by decide) rfl ?_
        refine tq_goto (M := mX9_linkAttributes) (pc := 127) (tgt := 70) dX9_linkAttributes_127 (by decide) ?_
        refine tq_pick (L2 := [(0, .ref i0), (1, .ref i1), (2, .ref i2), (4, .int i4), (5, .long i5), (7, .int i7), (8, .int i8), (9, .int i9), (10, .int x23)]) [1, 2, 3, 4, 5, 6, 7, 8, 0] rfl ?_
        cases (Option.some.inj hf)
        exact ih _ _ o (tq_lc ho) hk
      refine tq_icmp_ne (M := mX9_linkAttributes) (pc := 101) (tgt := 124) dX9_linkAttributes_101 (by decide) (fun cc => ?_) (fun cc => ?_)
      · have hf := tq_ifn ep22 cc
        refine tq_pick (L2 := [(0, .ref i0), (1, .ref i1), (2, .ref i2), (4, .int i4), (5, .long i5), (7, .int i7), (8, .int i8), (9, .int i9), (10, .int y10)]) [1, 2, 3, 4, 5, 6, 7, 8, 9] rfl ?_
        cases (Option.some.inj hf)
        exact HJ101
      · have hf := tq_ifp ep22 cc
        refine tq_aload_n (M := mX9_linkAttributes) (pc := 104) dX9_linkAttributes_104 rfl ?_
        obtain ⟨x18, ex18, hf⟩ := tq_be hf
        refine tq_getL (M := mX9_linkAttributes) (pc := 105) tk_c9 (by decide) dX9_linkAttributes_105 tk_RX9_45 rfl ex18 ?_
        refine tq_iload (M := mX9_linkAttributes) (pc := 108) dX9_linkAttributes_108 rfl ?_
        obtain ⟨v19, ev19, hf⟩ := tq_be hf
        refine tq_calS (M := mX9_linkAttributes) (pc := 110) (S := []) tk_y_X0_holds tk_s_X0_holds tk_RX9_110 dX9_linkAttributes_110 [.long x18, .int v13] rfl (Nat.le_of_ble_eq_true rfl) (d1 := d - 1) (b1 := 0) (s1 := 0) (bc' := bc) (bs' := bs) (Q1 := fun r h9 => r = .inl (some (.int v19)) ∧ hh = h9) (by omega) (by omega) (by omega) (w_X0_holds (by omega) ev19 (fun _ _ q => q)) (fun E h9 q => nomatch (show (Sum.inr E : tq_R) = Sum.inl _ from q.1)) (fun r9 h9 q => ?_)
        obtain ⟨q1, rfl⟩ := q
        cases (show (Sum.inl r9 : tq_R) = Sum.inl (some (.int v19)) from q1)
        refine tq_if_ne (M := mX9_linkAttributes) (pc := 113) (tgt := 124) dX9_linkAttributes_113 (by decide) (fun cc => ?_) (fun cc => ?_)
        · have hf := tq_ifn hf cc
          refine tq_pick (L2 := [(0, .ref i0), (1, .ref i1), (2, .ref i2), (4, .int i4), (5, .long i5), (7, .int i7), (8, .int i8), (9, .int i9), (10, .int y10)]) [1, 2, 3, 4, 5, 6, 7, 8, 9] rfl ?_
          cases (Option.some.inj hf)
          exact HJ101
        · have hf := tq_ifp hf cc
          refine tq_aload_n (M := mX9_linkAttributes) (pc := 116) dX9_linkAttributes_116 rfl ?_
          refine tq_iload (M := mX9_linkAttributes) (pc := 117) dX9_linkAttributes_117 rfl ?_
          refine tq_iload (M := mX9_linkAttributes) (pc := 119) dX9_linkAttributes_119 rfl ?_
          obtain ⟨⟨⟩, eu21, hf⟩ := tq_be hf
          obtain ⟨fsu21, eu21⟩ := tq_is_s eu21
          obtain ⟨v20, ev20, hf⟩ := tq_be hf
          refine tq_calV (M := mX9_linkAttributes) (pc := 121) (S := []) tk_y_X8_append tk_v_X8_append tk_RX9_154 dX9_linkAttributes_121 [.int i4, .int v13] rfl (S0 := _) rfl eu21 rfl (Nat.le_of_ble_eq_true rfl) (d1 := d - 1) (b1 := 0) (s1 := 0) (bc' := bc) (bs' := bs) (Q1 := fun r h9 => r = .inl none ∧ v20 = h9) (by omega) (by omega) (by omega) (w_X8_append (by omega) ev20 (fun _ _ q => q)) (fun E h9 q => nomatch (show (Sum.inr E : tq_R) = Sum.inl _ from q.1)) (fun r9 h9 q => ?_)
          obtain ⟨q1, rfl⟩ := q
          cases (show (Sum.inl r9 : tq_R) = Sum.inl (none) from q1)
          refine tq_pick (L2 := [(0, .ref i0), (1, .ref i1), (2, .ref i2), (4, .int i4), (5, .long i5), (7, .int i7), (8, .int i8), (9, .int i9), (10, .int y10)]) [1, 2, 3, 4, 5, 6, 7, 8, 9] rfl ?_
          cases (Option.some.inj hf)
          exact HJ101
set_option maxHeartbeats 4000000 in
theorem l_X9_linkAttributes_133 {l : Launch} {d : Nat} {Q : tq_R → tq_H → Prop} {bc bs : Nat} (hd9 : 4 ≤ d) (i0 : Nat) (i1 : Nat) (i2 : Nat) (i4 : Int32) (i5 : Int64) (i7 : Int32) (i8 : Int32) (i9 : Int32) : ∀ (n : Nat) (y10 : Int32) (hh : tq_H) (o : tq_H), tq_loop (f_X9_linkAttributes_b133 i0 i1 i2 i4 i5 i7 i8 i9) n (y10, hh) = some o → tq_W l mX9_linkAttributes d bc bs Q 187 [(0, .ref i0), (1, .ref i1), (2, .ref i2), (4, .int i4), (5, .long i5), (7, .int i7), (8, .int i8), (9, .int i9)] [] o → tq_W l mX9_linkAttributes d bc bs Q 133 [(0, .ref i0), (1, .ref i1), (2, .ref i2), (4, .int i4), (5, .long i5), (7, .int i7), (8, .int i8), (9, .int i9), (10, .int y10)] [] hh := by
  intro n
  induction n with
  | zero => intro y10 hh o hl; cases hl
  | succ n ih =>
    intro y10 hh o hl hk
    obtain ⟨oo, hf, ho⟩ := tq_loop_s hl
    refine tq_iload (M := mX9_linkAttributes) (pc := 133) dX9_linkAttributes_133 rfl ?_
    refine tq_iload (M := mX9_linkAttributes) (pc := 135) dX9_linkAttributes_135 rfl ?_
    refine tq_icmp_ge (M := mX9_linkAttributes) (pc := 137) (tgt := 187) dX9_linkAttributes_137 (by decide) (fun cc => ?_) (fun cc => ?_)
    · have hf := tq_ifp hf cc
      refine tq_pick (L2 := [(0, .ref i0), (1, .ref i1), (2, .ref i2), (4, .int i4), (5, .long i5), (7, .int i7), (8, .int i8), (9, .int i9)]) [0, 1, 2, 3, 4, 5, 6, 7] rfl ?_
      cases (Option.some.inj hf)
      cases (tq_lx ho)
      exact hk
    · have hf := tq_ifn hf cc
      refine tq_aload_n (M := mX9_linkAttributes) (pc := 140) dX9_linkAttributes_140 rfl ?_
      refine tq_iload (M := mX9_linkAttributes) (pc := 141) dX9_linkAttributes_141 rfl ?_
      refine tq_iload (M := mX9_linkAttributes) (pc := 143) dX9_linkAttributes_143 rfl ?_
      refine tq_iconst (M := mX9_linkAttributes) (pc := 145) dX9_linkAttributes_145 tk_ki_m1 ?_
      obtain ⟨⟨⟩, eu26, hf⟩ := tq_be hf
      obtain ⟨fsu26, eu26⟩ := tq_is_s eu26
      obtain ⟨v25, ev25, hf⟩ := tq_be hf
      refine tq_calV (M := mX9_linkAttributes) (pc := 146) (S := []) tk_y_X9_isInto tk_v_X9_isInto tk_RX9_157 dX9_linkAttributes_146 [.int y10, .int i4, .int (-1 : Int32)] rfl (S0 := _) rfl eu26 rfl (Nat.le_of_ble_eq_true rfl) (d1 := d - 1) (b1 := 0) (s1 := 0) (bc' := bc) (bs' := bs) (Q1 := fun r h9 => r = .inl (some (.int v25)) ∧ hh = h9) (by omega) (by omega) (by omega) (w_X9_isInto (by omega) ev25 (fun _ _ q => q)) (fun E h9 q => nomatch (show (Sum.inr E : tq_R) = Sum.inl _ from q.1)) (fun r9 h9 q => ?_)
      obtain ⟨q1, rfl⟩ := q
      cases (show (Sum.inl r9 : tq_R) = Sum.inl (some (.int v25)) from q1)
      obtain ⟨p35, ep35, hf⟩ := tq_be hf
      have HJ149 : tq_W l mX9_linkAttributes d bc bs Q 181 [(0, .ref i0), (1, .ref i1), (2, .ref i2), (4, .int i4), (5, .long i5), (7, .int i7), (8, .int i8), (9, .int i9), (10, .int y10)] [] p35 := by
        obtain ⟨x36, ex36, hf⟩ := tq_le hf
        refine tq_iinc (M := mX9_linkAttributes) (pc := 181) (v := x36) (L2 := [(10, .int x36), (0, .ref i0), (1, .ref i1), (2, .ref i2), (4, .int i4), (5, .long i5), (7, .int i7), (8, .int i8), (9, .int i9)]) dX9_linkAttributes_181 rfl (by rw [ex36, tk_ki_1]) (by decide) rfl ?_
        refine tq_goto (M := mX9_linkAttributes) (pc := 184) (tgt := 133) dX9_linkAttributes_184 (by decide) ?_
        refine tq_pick (L2 := [(0, .ref i0), (1, .ref i1), (2, .ref i2), (4, .int i4), (5, .long i5), (7, .int i7), (8, .int i8), (9, .int i9), (10, .int x36)]) [1, 2, 3, 4, 5, 6, 7, 8, 0] rfl ?_
        cases (Option.some.inj hf)
        exact ih _ _ o (tq_lc ho) hk
      refine tq_if_eq (M := mX9_linkAttributes) (pc := 149) (tgt := 181) dX9_linkAttributes_149 (by decide) (fun cc => ?_) (fun cc => ?_)
      · have hf := tq_ifp ep35 cc
        cases (Option.some.inj hf)
        exact HJ149
      · have hf := tq_ifn ep35 cc
        refine tq_aload_n (M := mX9_linkAttributes) (pc := 152) dX9_linkAttributes_152 rfl ?_
        obtain ⟨k27, ek27, hf⟩ := tq_be hf
        refine tq_getR (M := mX9_linkAttributes) (pc := 153) tk_c9 (by decide) dX9_linkAttributes_153 tk_RX9_32 rfl ek27 ?_
        refine tq_iload (M := mX9_linkAttributes) (pc := 156) dX9_linkAttributes_156 rfl ?_
        obtain ⟨⟨⟩, eu29, hf⟩ := tq_be hf
        obtain ⟨fsu29, eu29⟩ := tq_is_s eu29
        obtain ⟨v28, ev28, hf⟩ := tq_be hf
        refine tq_calV (M := mX9_linkAttributes) (pc := 158) (S := []) tk_y_X5_get tk_v_X5_get tk_RX9_70 dX9_linkAttributes_158 [.int y10] rfl (S0 := _) rfl eu29 rfl (Nat.le_of_ble_eq_true rfl) (d1 := d - 1) (b1 := 0) (s1 := 0) (bc' := bc) (bs' := bs) (Q1 := fun r h9 => r = .inl (some (.int v28)) ∧ hh = h9) (by omega) (by omega) (by omega) (w_X5_get (by omega) ev28 (fun _ _ q => q)) (fun E h9 q => nomatch (show (Sum.inr E : tq_R) = Sum.inl _ from q.1)) (fun r9 h9 q => ?_)
        obtain ⟨q1, rfl⟩ := q
        cases (show (Sum.inl r9 : tq_R) = Sum.inl (some (.int v28)) from q1)
        refine tq_iload (M := mX9_linkAttributes) (pc := 161) dX9_linkAttributes_161 rfl ?_
        refine tq_icmp_ne (M := mX9_linkAttributes) (pc := 163) (tgt := 181) dX9_linkAttributes_163 (by decide) (fun cc => ?_) (fun cc => ?_)
        · have hf := tq_ifn hf cc
          cases (Option.some.inj hf)
          exact HJ149
        · have hf := tq_ifp hf cc
          refine tq_aload_n (M := mX9_linkAttributes) (pc := 166) dX9_linkAttributes_166 rfl ?_
          refine tq_iload (M := mX9_linkAttributes) (pc := 167) dX9_linkAttributes_167 rfl ?_
          refine tq_aload_n (M := mX9_linkAttributes) (pc := 169) dX9_linkAttributes_169 rfl ?_
          obtain ⟨k30, ek30, hf⟩ := tq_be hf
          refine tq_getR (M := mX9_linkAttributes) (pc := 170) tk_c9 (by decide) dX9_linkAttributes_170 tk_RX9_38 rfl ek30 ?_
          refine tq_iload (M := mX9_linkAttributes) (pc := 173) dX9_linkAttributes_173 rfl ?_
          obtain ⟨⟨⟩, eu32, hf⟩ := tq_be hf
          obtain ⟨fsu32, eu32⟩ := tq_is_s eu32
          obtain ⟨v31, ev31, hf⟩ := tq_be hf
          refine tq_calV (M := mX9_linkAttributes) (pc := 175) (S := [.int i4, .ref i2]) tk_y_X5_get tk_v_X5_get tk_RX9_70 dX9_linkAttributes_175 [.int y10] rfl (S0 := _) rfl eu32 rfl (Nat.le_of_ble_eq_true rfl) (d1 := d - 1) (b1 := 0) (s1 := 0) (bc' := bc) (bs' := bs) (Q1 := fun r h9 => r = .inl (some (.int v31)) ∧ hh = h9) (by omega) (by omega) (by omega) (w_X5_get (by omega) ev31 (fun _ _ q => q)) (fun E h9 q => nomatch (show (Sum.inr E : tq_R) = Sum.inl _ from q.1)) (fun r9 h9 q => ?_)
          obtain ⟨q1, rfl⟩ := q
          cases (show (Sum.inl r9 : tq_R) = Sum.inl (some (.int v31)) from q1)
          obtain ⟨⟨⟩, eu34, hf⟩ := tq_be hf
          obtain ⟨fsu34, eu34⟩ := tq_is_s eu34
          obtain ⟨v33, ev33, hf⟩ := tq_be hf
          refine tq_calV (M := mX9_linkAttributes) (pc := 178) (S := []) tk_y_X8_append tk_v_X8_append tk_RX9_154 dX9_linkAttributes_178 [.int i4, .int v31] rfl (S0 := _) rfl eu34 rfl (Nat.le_of_ble_eq_true rfl) (d1 := d - 1) (b1 := 0) (s1 := 0) (bc' := bc) (bs' := bs) (Q1 := fun r h9 => r = .inl none ∧ v33 = h9) (by omega) (by omega) (by omega) (w_X8_append (by omega) ev33 (fun _ _ q => q)) (fun E h9 q => nomatch (show (Sum.inr E : tq_R) = Sum.inl _ from q.1)) (fun r9 h9 q => ?_)
          obtain ⟨q1, rfl⟩ := q
          cases (show (Sum.inl r9 : tq_R) = Sum.inl (none) from q1)
          cases (Option.some.inj hf)
          exact HJ149
set_option maxHeartbeats 4000000 in
theorem l_X9_linkAttributes_52 {l : Launch} {d : Nat} {Q : tq_R → tq_H → Prop} {bc bs : Nat} (hd9 : 4 ≤ d) (i0 : Nat) (i1 : Nat) (i2 : Nat) (i4 : Int32) (i5 : Int64) (i7 : Int32) (i8 : Int32) : ∀ (n : Nat) (y9 : Int32) (hh : tq_H) (o : tq_H), tq_loop (f_X9_linkAttributes_b52 i0 i1 i2 i4 i5 i7 i8) n (y9, hh) = some o → tq_W l mX9_linkAttributes d bc bs Q 193 [] [] o → tq_W l mX9_linkAttributes d bc bs Q 52 [(0, .ref i0), (1, .ref i1), (2, .ref i2), (4, .int i4), (5, .long i5), (7, .int i7), (8, .int i8), (9, .int y9)] [] hh := by
  intro n
  induction n with
  | zero => intro y9 hh o hl; cases hl
  | succ n ih =>
    intro y9 hh o hl hk
    obtain ⟨oo, hf, ho⟩ := tq_loop_s hl
    refine tq_iload (M := mX9_linkAttributes) (pc := 52) dX9_linkAttributes_52 rfl ?_
    refine tq_bipush (M := mX9_linkAttributes) (pc := 54) dX9_linkAttributes_54 tk_kb_8 ?_
    refine tq_icmp_ge (M := mX9_linkAttributes) (pc := 56) (tgt := 193) dX9_linkAttributes_56 (by decide) (fun cc => ?_) (fun cc => ?_)
    · have hf := tq_ifp hf cc
      refine tq_pick (L2 := []) [] rfl ?_
      cases (Option.some.inj hf)
      cases (tq_lx ho)
      exact hk
    · have hf := tq_ifn hf cc
      refine tq_iload (M := mX9_linkAttributes) (pc := 59) dX9_linkAttributes_59 rfl ?_
      refine tq_iload (M := mX9_linkAttributes) (pc := 61) dX9_linkAttributes_61 rfl ?_
      refine tq_iadd (M := mX9_linkAttributes) (pc := 63) dX9_linkAttributes_63 ?_
      refine tq_if_le (M := mX9_linkAttributes) (pc := 64) (tgt := 193) dX9_linkAttributes_64 (by decide) (fun cc => ?_) (fun cc => ?_)
      · have hf := tq_ifp hf cc
        refine tq_pick (L2 := []) [] rfl ?_
        cases (Option.some.inj hf)
        cases (tq_lx ho)
        exact hk
      · have hf := tq_ifn hf cc
        refine tq_iconst (M := mX9_linkAttributes) (pc := 67) dX9_linkAttributes_67 tk_ki_0 ?_
        refine tq_istore (M := mX9_linkAttributes) (pc := 68) dX9_linkAttributes_68 (L2 := [(10, .int (0 : Int32)), (0, .ref i0), (1, .ref i1), (2, .ref i2), (4, .int i4), (5, .long i5), (7, .int i7), (8, .int i8), (9, .int y9)]) (by decide) rfl ?_
        obtain ⟨o24, eo24, hf⟩ := tq_be hf
        refine tq_pick (L2 := [(0, .ref i0), (1, .ref i1), (2, .ref i2), (4, .int i4), (5, .long i5), (7, .int i7), (8, .int i8), (9, .int y9), (10, .int (0 : Int32))]) [1, 2, 3, 4, 5, 6, 7, 8, 0] rfl ?_
        refine l_X9_linkAttributes_70 (bc := bc) (bs := bs) (by omega) i0 i1 i2 i4 i5 i7 i8 y9 _ (0 : Int32) hh _ eo24 ?_
        refine tq_iconst (M := mX9_linkAttributes) (pc := 130) dX9_linkAttributes_130 tk_ki_0 ?_
        refine tq_istore (M := mX9_linkAttributes) (pc := 131) dX9_linkAttributes_131 (L2 := [(10, .int (0 : Int32)), (0, .ref i0), (1, .ref i1), (2, .ref i2), (4, .int i4), (5, .long i5), (7, .int i7), (8, .int i8), (9, .int y9)]) (by decide) rfl ?_
        obtain ⟨o37, eo37, hf⟩ := tq_be hf
        refine tq_pick (L2 := [(0, .ref i0), (1, .ref i1), (2, .ref i2), (4, .int i4), (5, .long i5), (7, .int i7), (8, .int i8), (9, .int y9), (10, .int (0 : Int32))]) [1, 2, 3, 4, 5, 6, 7, 8, 0] rfl ?_
        refine l_X9_linkAttributes_133 (bc := bc) (bs := bs) (by omega) i0 i1 i2 i4 i5 i7 i8 y9 _ (0 : Int32) o24 _ eo37 ?_
        obtain ⟨x38, ex38, hf⟩ := tq_le hf
        refine tq_iinc (M := mX9_linkAttributes) (pc := 187) (v := x38) (L2 := [(9, .int x38), (0, .ref i0), (1, .ref i1), (2, .ref i2), (4, .int i4), (5, .long i5), (7, .int i7), (8, .int i8)]) dX9_linkAttributes_187 rfl (by rw [ex38, tk_ki_1]) (by decide) rfl ?_
        refine tq_goto (M := mX9_linkAttributes) (pc := 190) (tgt := 52) dX9_linkAttributes_190 (by decide) ?_
        refine tq_pick (L2 := [(0, .ref i0), (1, .ref i1), (2, .ref i2), (4, .int i4), (5, .long i5), (7, .int i7), (8, .int i8), (9, .int x38)]) [1, 2, 3, 4, 5, 6, 7, 0] rfl ?_
        cases (Option.some.inj hf)
        exact ih _ _ o (tq_lc ho) hk
set_option maxHeartbeats 4000000 in
set_option maxRecDepth 20000 in
theorem w_X9_linkAttributes {l : Launch} {d : Nat} (hd9 : 4 ≤ d) {t : Nat} {a1 : Nat} {a2 : Nat} {a3 : Int32} {h : tq_H} {o : tq_H} {Q : tq_R → tq_H → Prop} (hf : f_X9_linkAttributes t a1 a2 a3 h = some o) (hQ : ∀ r h9, r = .inl none ∧ o = h9 → Q r h9) : tq_C l yX9_linkAttributes cX9_linkAttributes 12 none d 0 0 [.ref t, .ref a1, .ref a2, .int a3] h Q := by
  refine tq_body (y := yX9_linkAttributes) false (by decide +kernel) (fun z => by cases z) (Nat.le_of_ble_eq_true rfl) ?_
  show tq_W l mX9_linkAttributes d 0 0 Q 0 [(0, .ref t), (1, .ref a1), (2, .ref a2), (3, .int a3)] [] h
  refine tq_aload_n (M := mX9_linkAttributes) (pc := 0) dX9_linkAttributes_0 rfl ?_
  obtain ⟨k1, ek1, hf⟩ := tq_be hf
  refine tq_getR (M := mX9_linkAttributes) (pc := 1) tk_c8 (by decide) dX9_linkAttributes_1 tk_RX9_80 rfl ek1 ?_
  refine tq_iload_n (M := mX9_linkAttributes) (pc := 4) dX9_linkAttributes_4 rfl ?_
  obtain ⟨⟨⟩, eu3, hf⟩ := tq_be hf
  obtain ⟨fsu3, eu3⟩ := tq_is_s eu3
  obtain ⟨v2, ev2, hf⟩ := tq_be hf
  refine tq_calV (M := mX9_linkAttributes) (pc := 5) (S := []) tk_y_X3_nodeAt tk_v_X3_nodeAt tk_RX9_138 dX9_linkAttributes_5 [.int a3] rfl (S0 := _) rfl eu3 rfl (Nat.le_of_ble_eq_true rfl) (d1 := d - 1) (b1 := 0) (s1 := 0) (bc' := 0) (bs' := 0) (Q1 := fun r h9 => r = .inl (some (.int v2)) ∧ h = h9) (by omega) rfl rfl (w_X3_nodeAt (by omega) ev2 (fun _ _ q => q)) (fun E h9 q => nomatch (show (Sum.inr E : tq_R) = Sum.inl _ from q.1)) (fun r9 h9 q => ?_)
  obtain ⟨q1, rfl⟩ := q
  cases (show (Sum.inl r9 : tq_R) = Sum.inl (some (.int v2)) from q1)
  refine tq_istore (M := mX9_linkAttributes) (pc := 8) dX9_linkAttributes_8 (L2 := [(4, .int v2), (0, .ref t), (1, .ref a1), (2, .ref a2), (3, .int a3)]) (by decide) rfl ?_
  refine tq_aload_n (M := mX9_linkAttributes) (pc := 10) dX9_linkAttributes_10 rfl ?_
  obtain ⟨k4, ek4, hf⟩ := tq_be hf
  refine tq_getR (M := mX9_linkAttributes) (pc := 11) tk_c8 (by decide) dX9_linkAttributes_11 tk_RX9_80 rfl ek4 ?_
  refine tq_iload_n (M := mX9_linkAttributes) (pc := 14) dX9_linkAttributes_14 rfl ?_
  obtain ⟨⟨⟩, eu6, hf⟩ := tq_be hf
  obtain ⟨fsu6, eu6⟩ := tq_is_s eu6
  obtain ⟨v5, ev5, hf⟩ := tq_be hf
  refine tq_calV (M := mX9_linkAttributes) (pc := 15) (S := []) tk_y_X3_attributesOf tk_v_X3_attributesOf tk_RX9_141 dX9_linkAttributes_15 [.int a3] rfl (S0 := _) rfl eu6 rfl (Nat.le_of_ble_eq_true rfl) (d1 := d - 1) (b1 := 0) (s1 := 0) (bc' := 0) (bs' := 0) (Q1 := fun r h9 => r = .inl (some (.long v5)) ∧ h = h9) (by omega) rfl rfl (w_X3_attributesOf (by omega) ev5 (fun _ _ q => q)) (fun E h9 q => nomatch (show (Sum.inr E : tq_R) = Sum.inl _ from q.1)) (fun r9 h9 q => ?_)
  obtain ⟨q1, rfl⟩ := q
  cases (show (Sum.inl r9 : tq_R) = Sum.inl (some (.long v5)) from q1)
  refine tq_lstore (M := mX9_linkAttributes) (pc := 18) dX9_linkAttributes_18 (L2 := [(5, .long v5), (4, .int v2), (0, .ref t), (1, .ref a1), (2, .ref a2), (3, .int a3)]) (by decide) rfl ?_
  refine tq_lload (M := mX9_linkAttributes) (pc := 20) dX9_linkAttributes_20 rfl ?_
  obtain ⟨v7, ev7, hf⟩ := tq_be hf
  refine tq_calS (M := mX9_linkAttributes) (pc := 22) (S := []) tk_y_J13_bitCount_95d88 tk_s_J13_bitCount_95d88 tk_RX9_144 dX9_linkAttributes_22 [.long v5] rfl (Nat.le_of_ble_eq_true rfl) (d1 := d - 1) (b1 := 0) (s1 := 0) (bc' := 0) (bs' := 0) (Q1 := fun r h9 => r = .inl (some (.int v7)) ∧ h = h9) (by omega) rfl rfl (w_J13_bitCount_95d88 (by omega) ev7 (fun _ _ q => q)) (fun E h9 q => nomatch (show (Sum.inr E : tq_R) = Sum.inl _ from q.1)) (fun r9 h9 q => ?_)
  obtain ⟨q1, rfl⟩ := q
  cases (show (Sum.inl r9 : tq_R) = Sum.inl (some (.int v7)) from q1)
  refine tq_istore (M := mX9_linkAttributes) (pc := 25) dX9_linkAttributes_25 (L2 := [(7, .int v7), (5, .long v5), (4, .int v2), (0, .ref t), (1, .ref a1), (2, .ref a2), (3, .int a3)]) (by decide) rfl ?_
  refine tq_aload_n (M := mX9_linkAttributes) (pc := 27) dX9_linkAttributes_27 rfl ?_
  obtain ⟨x8, ex8, hf⟩ := tq_be hf
  refine tq_getL (M := mX9_linkAttributes) (pc := 28) tk_c9 (by decide) dX9_linkAttributes_28 tk_RX9_48 rfl ex8 ?_
  refine tq_iload (M := mX9_linkAttributes) (pc := 31) dX9_linkAttributes_31 rfl ?_
  obtain ⟨v9, ev9, hf⟩ := tq_be hf
  refine tq_calS (M := mX9_linkAttributes) (pc := 33) (S := []) tk_y_X0_holds tk_s_X0_holds tk_RX9_110 dX9_linkAttributes_33 [.long x8, .int v2] rfl (Nat.le_of_ble_eq_true rfl) (d1 := d - 1) (b1 := 0) (s1 := 0) (bc' := 0) (bs' := 0) (Q1 := fun r h9 => r = .inl (some (.int v9)) ∧ h = h9) (by omega) rfl rfl (w_X0_holds (by omega) ev9 (fun _ _ q => q)) (fun E h9 q => nomatch (show (Sum.inr E : tq_R) = Sum.inl _ from q.1)) (fun r9 h9 q => ?_)
  obtain ⟨q1, rfl⟩ := q
  cases (show (Sum.inl r9 : tq_R) = Sum.inl (some (.int v9)) from q1)
  obtain ⟨p11, ep11, hf⟩ := tq_be hf
  have HJ36 : tq_W l mX9_linkAttributes d 0 0 Q 47 [(0, .ref t), (1, .ref a1), (2, .ref a2), (4, .int v2), (5, .long v5), (7, .int v7)] [.int p11] h := by
    refine tq_istore (M := mX9_linkAttributes) (pc := 47) dX9_linkAttributes_47 (L2 := [(8, .int p11), (0, .ref t), (1, .ref a1), (2, .ref a2), (4, .int v2), (5, .long v5), (7, .int v7)]) (by decide) rfl ?_
    refine tq_iconst (M := mX9_linkAttributes) (pc := 49) dX9_linkAttributes_49 tk_ki_0 ?_
    refine tq_istore (M := mX9_linkAttributes) (pc := 50) dX9_linkAttributes_50 (L2 := [(9, .int (0 : Int32)), (8, .int p11), (0, .ref t), (1, .ref a1), (2, .ref a2), (4, .int v2), (5, .long v5), (7, .int v7)]) (by decide) rfl ?_
    obtain ⟨o39, eo39, hf⟩ := tq_be hf
    refine tq_pick (L2 := [(0, .ref t), (1, .ref a1), (2, .ref a2), (4, .int v2), (5, .long v5), (7, .int v7), (8, .int p11), (9, .int (0 : Int32))]) [2, 3, 4, 5, 6, 7, 1, 0] rfl ?_
    refine l_X9_linkAttributes_52 (bc := 0) (bs := 0) (by omega) t a1 a2 v2 v5 v7 p11 _ (0 : Int32) h _ eo39 ?_
    refine tq_vret (M := mX9_linkAttributes) (pc := 193) dX9_linkAttributes_193 rfl ?_
    cases (Option.some.inj hf)
    exact hQ _ _ ⟨rfl, rfl⟩
  refine tq_if_eq (M := mX9_linkAttributes) (pc := 36) (tgt := 46) dX9_linkAttributes_36 (by decide) (fun cc => ?_) (fun cc => ?_)
  · have hf := tq_ifp ep11 cc
    refine tq_iconst (M := mX9_linkAttributes) (pc := 46) dX9_linkAttributes_46 tk_ki_0 ?_
    refine tq_pick (L2 := [(0, .ref t), (1, .ref a1), (2, .ref a2), (4, .int v2), (5, .long v5), (7, .int v7)]) [3, 4, 5, 2, 1, 0] rfl ?_
    cases (Option.some.inj hf)
    exact HJ36
  · have hf := tq_ifn ep11 cc
    refine tq_aload_n (M := mX9_linkAttributes) (pc := 39) dX9_linkAttributes_39 rfl ?_
    obtain ⟨x10, ex10, hf⟩ := tq_be hf
    refine tq_getI (M := mX9_linkAttributes) (pc := 40) tk_c9 (by decide) dX9_linkAttributes_40 tk_RX9_51 rfl ex10 ?_
    refine tq_goto (M := mX9_linkAttributes) (pc := 43) (tgt := 47) dX9_linkAttributes_43 (by decide) ?_
    refine tq_pick (L2 := [(0, .ref t), (1, .ref a1), (2, .ref a2), (4, .int v2), (5, .long v5), (7, .int v7)]) [3, 4, 5, 2, 1, 0] rfl ?_
    cases (Option.some.inj hf)
    exact HJ36
abbrev mX9_linkChildren : tq_M := (RX9, cX9_linkChildren, 11, none, false, [], none)
def f_X9_linkChildren_b62 (i0 : Nat) (i1 : Nat) (i2 : Nat) (i4 : Int32) (i5 : Int64) (i7 : Int32) (i8 : Int32) (i9 : Int32) (s : Int32 × tq_H) : Option ((Int32 × tq_H) ⊕ (tq_H)) := match s with
  | (y10, hh) =>
    if y10 ≥ i8 then
      some (.inr hh)
    else
      (tq_is hh i0 9).bind fun _ =>
      (f_X9_isInto i0 y10 i4 i9 hh).bind fun v12 =>
      (if v12 = 0 then
        some hh
      else
        (tq_gr hh i0 9 7).bind fun k14 =>
        (tq_is hh k14 5).bind fun _ =>
        (f_X5_get k14 y10 hh).bind fun v15 =>
        (tq_is hh i2 8).bind fun _ =>
        (f_X8_append i2 i4 v15 hh).bind fun v17 =>
        some v17).bind fun p19 =>
      tq_let (y10 + (1 : Int32)) fun x20 =>
      some (.inl (x20, p19))
def f_X9_linkChildren_b52 (i0 : Nat) (i1 : Nat) (i2 : Nat) (i4 : Int32) (i5 : Int64) (i7 : Int32) (i8 : Int32) (s : Int32 × tq_H) : Option ((Int32 × tq_H) ⊕ (tq_H)) := match s with
  | (y9, hh) =>
    if y9 > i7 then
      some (.inr hh)
    else
      (tq_loop (f_X9_linkChildren_b62 i0 i1 i2 i4 i5 i7 i8 y9) tq_N ((0 : Int32), hh)).bind fun o21 =>
      (tq_gr o21 i1 8 0).bind fun k22 =>
      (tq_is o21 k22 3).bind fun _ =>
      (f_X3_nodeOfSet k22 i5 y9 o21).bind fun v23 =>
      (if v23 = (-1 : Int32) then
        some o21
      else
        (tq_gl o21 i0 9 9).bind fun x25 =>
        (f_X0_holds x25 v23 o21).bind fun v26 =>
        if v26 = 0 then
          (tq_is o21 i2 8).bind fun _ =>
          (f_X8_append i2 i4 v23 o21).bind fun v27 =>
          some v27
        else
          some o21).bind fun p29 =>
      tq_let (y9 + (1 : Int32)) fun x30 =>
      some (.inl (x30, p29))
def f_X9_linkChildren (t : Nat) (a1 : Nat) (a2 : Nat) (a3 : Int32) (h : tq_H) : Option (tq_H) :=
  (tq_gr h a1 8 0).bind fun k1 =>
  (tq_is h k1 3).bind fun _ =>
  (f_X3_nodeAt k1 a3 h).bind fun v2 =>
  (tq_gr h a1 8 0).bind fun k4 =>
  (tq_is h k4 3).bind fun _ =>
  (f_X3_children k4 a3 h).bind fun v5 =>
  (f_J13_bitCount_95d88 v5 h).bind fun v7 =>
  (tq_gl h t 9 10).bind fun x8 =>
  (f_X0_holds x8 v2 h).bind fun v9 =>
  (if v9 = 0 then
    some (0 : Int32)
  else
    (tq_gi h t 9 11).bind fun x10 =>
    some x10).bind fun p11 =>
  (tq_loop (f_X9_linkChildren_b52 t a1 a2 v2 v5 v7 p11) tq_N ((0 : Int32), h)).bind fun o31 =>
  some o31
set_option maxHeartbeats 4000000 in
theorem l_X9_linkChildren_62 {l : Launch} {d : Nat} {Q : tq_R → tq_H → Prop} {bc bs : Nat} (hd9 : 4 ≤ d) (i0 : Nat) (i1 : Nat) (i2 : Nat) (i4 : Int32) (i5 : Int64) (i7 : Int32) (i8 : Int32) (i9 : Int32) : ∀ (n : Nat) (y10 : Int32) (hh : tq_H) (o : tq_H), tq_loop (f_X9_linkChildren_b62 i0 i1 i2 i4 i5 i7 i8 i9) n (y10, hh) = some o → tq_W l mX9_linkChildren d bc bs Q 103 [(0, .ref i0), (1, .ref i1), (2, .ref i2), (4, .int i4), (5, .long i5), (7, .int i7), (8, .int i8), (9, .int i9)] [] o → tq_W l mX9_linkChildren d bc bs Q 62 [(0, .ref i0), (1, .ref i1), (2, .ref i2), (4, .int i4), (5, .long i5), (7, .int i7), (8, .int i8), (9, .int i9), (10, .int y10)] [] hh := by
  intro n
  induction n with
  | zero => intro y10 hh o hl; cases hl
  | succ n ih =>
    intro y10 hh o hl hk
    obtain ⟨oo, hf, ho⟩ := tq_loop_s hl
    refine tq_iload (M := mX9_linkChildren) (pc := 62) dX9_linkChildren_62 rfl ?_
    refine tq_iload (M := mX9_linkChildren) (pc := 64) dX9_linkChildren_64 rfl ?_
    refine tq_icmp_ge (M := mX9_linkChildren) (pc := 66) (tgt := 103) dX9_linkChildren_66 (by decide) (fun cc => ?_) (fun cc => ?_)
    · have hf := tq_ifp hf cc
      refine tq_pick (L2 := [(0, .ref i0), (1, .ref i1), (2, .ref i2), (4, .int i4), (5, .long i5), (7, .int i7), (8, .int i8), (9, .int i9)]) [0, 1, 2, 3, 4, 5, 6, 7] rfl ?_
      cases (Option.some.inj hf)
      cases (tq_lx ho)
      exact hk
    · have hf := tq_ifn hf cc
      refine tq_aload_n (M := mX9_linkChildren) (pc := 69) dX9_linkChildren_69 rfl ?_
      refine tq_iload (M := mX9_linkChildren) (pc := 70) dX9_linkChildren_70 rfl ?_
      refine tq_iload (M := mX9_linkChildren) (pc := 72) dX9_linkChildren_72 rfl ?_
      refine tq_iload (M := mX9_linkChildren) (pc := 74) dX9_linkChildren_74 rfl ?_
      obtain ⟨⟨⟩, eu13, hf⟩ := tq_be hf
      obtain ⟨fsu13, eu13⟩ := tq_is_s eu13
      obtain ⟨v12, ev12, hf⟩ := tq_be hf
      refine tq_calV (M := mX9_linkChildren) (pc := 76) (S := []) tk_y_X9_isInto tk_v_X9_isInto tk_RX9_157 dX9_linkChildren_76 [.int y10, .int i4, .int i9] rfl (S0 := _) rfl eu13 rfl (Nat.le_of_ble_eq_true rfl) (d1 := d - 1) (b1 := 0) (s1 := 0) (bc' := bc) (bs' := bs) (Q1 := fun r h9 => r = .inl (some (.int v12)) ∧ hh = h9) (by omega) (by omega) (by omega) (w_X9_isInto (by omega) ev12 (fun _ _ q => q)) (fun E h9 q => nomatch (show (Sum.inr E : tq_R) = Sum.inl _ from q.1)) (fun r9 h9 q => ?_)
      obtain ⟨q1, rfl⟩ := q
      cases (show (Sum.inl r9 : tq_R) = Sum.inl (some (.int v12)) from q1)
      obtain ⟨p19, ep19, hf⟩ := tq_be hf
      have HJ79 : tq_W l mX9_linkChildren d bc bs Q 97 [(0, .ref i0), (1, .ref i1), (2, .ref i2), (4, .int i4), (5, .long i5), (7, .int i7), (8, .int i8), (9, .int i9), (10, .int y10)] [] p19 := by
        obtain ⟨x20, ex20, hf⟩ := tq_le hf
        refine tq_iinc (M := mX9_linkChildren) (pc := 97) (v := x20) (L2 := [(10, .int x20), (0, .ref i0), (1, .ref i1), (2, .ref i2), (4, .int i4), (5, .long i5), (7, .int i7), (8, .int i8), (9, .int i9)]) dX9_linkChildren_97 rfl (by rw [ex20, tk_ki_1]) (by decide) rfl ?_
        refine tq_goto (M := mX9_linkChildren) (pc := 100) (tgt := 62) dX9_linkChildren_100 (by decide) ?_
        refine tq_pick (L2 := [(0, .ref i0), (1, .ref i1), (2, .ref i2), (4, .int i4), (5, .long i5), (7, .int i7), (8, .int i8), (9, .int i9), (10, .int x20)]) [1, 2, 3, 4, 5, 6, 7, 8, 0] rfl ?_
        cases (Option.some.inj hf)
        exact ih _ _ o (tq_lc ho) hk
      refine tq_if_eq (M := mX9_linkChildren) (pc := 79) (tgt := 97) dX9_linkChildren_79 (by decide) (fun cc => ?_) (fun cc => ?_)
      · have hf := tq_ifp ep19 cc
        cases (Option.some.inj hf)
        exact HJ79
      · have hf := tq_ifn ep19 cc
        refine tq_aload_n (M := mX9_linkChildren) (pc := 82) dX9_linkChildren_82 rfl ?_
        refine tq_iload (M := mX9_linkChildren) (pc := 83) dX9_linkChildren_83 rfl ?_
        refine tq_aload_n (M := mX9_linkChildren) (pc := 85) dX9_linkChildren_85 rfl ?_
        obtain ⟨k14, ek14, hf⟩ := tq_be hf
        refine tq_getR (M := mX9_linkChildren) (pc := 86) tk_c9 (by decide) dX9_linkChildren_86 tk_RX9_38 rfl ek14 ?_
        refine tq_iload (M := mX9_linkChildren) (pc := 89) dX9_linkChildren_89 rfl ?_
        obtain ⟨⟨⟩, eu16, hf⟩ := tq_be hf
        obtain ⟨fsu16, eu16⟩ := tq_is_s eu16
        obtain ⟨v15, ev15, hf⟩ := tq_be hf
        refine tq_calV (M := mX9_linkChildren) (pc := 91) (S := [.int i4, .ref i2]) tk_y_X5_get tk_v_X5_get tk_RX9_70 dX9_linkChildren_91 [.int y10] rfl (S0 := _) rfl eu16 rfl (Nat.le_of_ble_eq_true rfl) (d1 := d - 1) (b1 := 0) (s1 := 0) (bc' := bc) (bs' := bs) (Q1 := fun r h9 => r = .inl (some (.int v15)) ∧ hh = h9) (by omega) (by omega) (by omega) (w_X5_get (by omega) ev15 (fun _ _ q => q)) (fun E h9 q => nomatch (show (Sum.inr E : tq_R) = Sum.inl _ from q.1)) (fun r9 h9 q => ?_)
        obtain ⟨q1, rfl⟩ := q
        cases (show (Sum.inl r9 : tq_R) = Sum.inl (some (.int v15)) from q1)
        obtain ⟨⟨⟩, eu18, hf⟩ := tq_be hf
        obtain ⟨fsu18, eu18⟩ := tq_is_s eu18
        obtain ⟨v17, ev17, hf⟩ := tq_be hf
        refine tq_calV (M := mX9_linkChildren) (pc := 94) (S := []) tk_y_X8_append tk_v_X8_append tk_RX9_154 dX9_linkChildren_94 [.int i4, .int v15] rfl (S0 := _) rfl eu18 rfl (Nat.le_of_ble_eq_true rfl) (d1 := d - 1) (b1 := 0) (s1 := 0) (bc' := bc) (bs' := bs) (Q1 := fun r h9 => r = .inl none ∧ v17 = h9) (by omega) (by omega) (by omega) (w_X8_append (by omega) ev17 (fun _ _ q => q)) (fun E h9 q => nomatch (show (Sum.inr E : tq_R) = Sum.inl _ from q.1)) (fun r9 h9 q => ?_)
        obtain ⟨q1, rfl⟩ := q
        cases (show (Sum.inl r9 : tq_R) = Sum.inl (none) from q1)
        cases (Option.some.inj hf)
        exact HJ79
set_option maxHeartbeats 4000000 in
theorem l_X9_linkChildren_52 {l : Launch} {d : Nat} {Q : tq_R → tq_H → Prop} {bc bs : Nat} (hd9 : 4 ≤ d) (i0 : Nat) (i1 : Nat) (i2 : Nat) (i4 : Int32) (i5 : Int64) (i7 : Int32) (i8 : Int32) : ∀ (n : Nat) (y9 : Int32) (hh : tq_H) (o : tq_H), tq_loop (f_X9_linkChildren_b52 i0 i1 i2 i4 i5 i7 i8) n (y9, hh) = some o → tq_W l mX9_linkChildren d bc bs Q 148 [] [] o → tq_W l mX9_linkChildren d bc bs Q 52 [(0, .ref i0), (1, .ref i1), (2, .ref i2), (4, .int i4), (5, .long i5), (7, .int i7), (8, .int i8), (9, .int y9)] [] hh := by
  intro n
  induction n with
  | zero => intro y9 hh o hl; cases hl
  | succ n ih =>
    intro y9 hh o hl hk
    obtain ⟨oo, hf, ho⟩ := tq_loop_s hl
    refine tq_iload (M := mX9_linkChildren) (pc := 52) dX9_linkChildren_52 rfl ?_
    refine tq_iload (M := mX9_linkChildren) (pc := 54) dX9_linkChildren_54 rfl ?_
    refine tq_icmp_gt (M := mX9_linkChildren) (pc := 56) (tgt := 148) dX9_linkChildren_56 (by decide) (fun cc => ?_) (fun cc => ?_)
    · have hf := tq_ifp hf cc
      refine tq_pick (L2 := []) [] rfl ?_
      cases (Option.some.inj hf)
      cases (tq_lx ho)
      exact hk
    · have hf := tq_ifn hf cc
      refine tq_iconst (M := mX9_linkChildren) (pc := 59) dX9_linkChildren_59 tk_ki_0 ?_
      refine tq_istore (M := mX9_linkChildren) (pc := 60) dX9_linkChildren_60 (L2 := [(10, .int (0 : Int32)), (0, .ref i0), (1, .ref i1), (2, .ref i2), (4, .int i4), (5, .long i5), (7, .int i7), (8, .int i8), (9, .int y9)]) (by decide) rfl ?_
      obtain ⟨o21, eo21, hf⟩ := tq_be hf
      refine tq_pick (L2 := [(0, .ref i0), (1, .ref i1), (2, .ref i2), (4, .int i4), (5, .long i5), (7, .int i7), (8, .int i8), (9, .int y9), (10, .int (0 : Int32))]) [1, 2, 3, 4, 5, 6, 7, 8, 0] rfl ?_
      refine l_X9_linkChildren_62 (bc := bc) (bs := bs) (by omega) i0 i1 i2 i4 i5 i7 i8 y9 _ (0 : Int32) hh _ eo21 ?_
      refine tq_aload_n (M := mX9_linkChildren) (pc := 103) dX9_linkChildren_103 rfl ?_
      obtain ⟨k22, ek22, hf⟩ := tq_be hf
      refine tq_getR (M := mX9_linkChildren) (pc := 104) tk_c8 (by decide) dX9_linkChildren_104 tk_RX9_80 rfl ek22 ?_
      refine tq_lload (M := mX9_linkChildren) (pc := 107) dX9_linkChildren_107 rfl ?_
      refine tq_iload (M := mX9_linkChildren) (pc := 109) dX9_linkChildren_109 rfl ?_
      obtain ⟨⟨⟩, eu24, hf⟩ := tq_be hf
      obtain ⟨fsu24, eu24⟩ := tq_is_s eu24
      obtain ⟨v23, ev23, hf⟩ := tq_be hf
      refine tq_calV (M := mX9_linkChildren) (pc := 111) (S := []) tk_y_X3_nodeOfSet tk_v_X3_nodeOfSet tk_RX9_150 dX9_linkChildren_111 [.long i5, .int y9] rfl (S0 := _) rfl eu24 rfl (Nat.le_of_ble_eq_true rfl) (d1 := d - 1) (b1 := 0) (s1 := 0) (bc' := bc) (bs' := bs) (Q1 := fun r h9 => r = .inl (some (.int v23)) ∧ o21 = h9) (by omega) (by omega) (by omega) (w_X3_nodeOfSet (by omega) ev23 (fun _ _ q => q)) (fun E h9 q => nomatch (show (Sum.inr E : tq_R) = Sum.inl _ from q.1)) (fun r9 h9 q => ?_)
      obtain ⟨q1, rfl⟩ := q
      cases (show (Sum.inl r9 : tq_R) = Sum.inl (some (.int v23)) from q1)
      refine tq_istore (M := mX9_linkChildren) (pc := 114) dX9_linkChildren_114 (L2 := [(10, .int v23), (0, .ref i0), (1, .ref i1), (2, .ref i2), (4, .int i4), (5, .long i5), (7, .int i7), (8, .int i8), (9, .int y9)]) (by decide) rfl ?_
      refine tq_iload (M := mX9_linkChildren) (pc := 116) dX9_linkChildren_116 rfl ?_
      refine tq_iconst (M := mX9_linkChildren) (pc := 118) dX9_linkChildren_118 tk_ki_m1 ?_
      obtain ⟨p29, ep29, hf⟩ := tq_be hf
      have HJ119 : tq_W l mX9_linkChildren d bc bs Q 142 [(0, .ref i0), (1, .ref i1), (2, .ref i2), (4, .int i4), (5, .long i5), (7, .int i7), (8, .int i8), (9, .int y9)] [] p29 := by
        obtain ⟨x30, ex30, hf⟩ := tq_le hf
        refine tq_iinc (M := mX9_linkChildren) (pc := 142) (v := x30) (L2 := [(9, .int x30), (0, .ref i0), (1, .ref i1), (2, .ref i2), (4, .int i4), (5, .long i5), (7, .int i7), (8, .int i8)]) dX9_linkChildren_142 rfl (by rw [ex30, tk_ki_1]) (by decide) rfl ?_
        refine tq_goto (M := mX9_linkChildren) (pc := 145) (tgt := 52) dX9_linkChildren_145 (by decide) ?_
        refine tq_pick (L2 := [(0, .ref i0), (1, .ref i1), (2, .ref i2), (4, .int i4), (5, .long i5), (7, .int i7), (8, .int i8), (9, .int x30)]) [1, 2, 3, 4, 5, 6, 7, 0] rfl ?_
        cases (Option.some.inj hf)
        exact ih _ _ o (tq_lc ho) hk
      refine tq_icmp_eq (M := mX9_linkChildren) (pc := 119) (tgt := 142) dX9_linkChildren_119 (by decide) (fun cc => ?_) (fun cc => ?_)
      · have hf := tq_ifp ep29 cc
        refine tq_pick (L2 := [(0, .ref i0), (1, .ref i1), (2, .ref i2), (4, .int i4), (5, .long i5), (7, .int i7), (8, .int i8), (9, .int y9)]) [1, 2, 3, 4, 5, 6, 7, 8] rfl ?_
        cases (Option.some.inj hf)
        exact HJ119
      · have hf := tq_ifn ep29 cc
        refine tq_aload_n (M := mX9_linkChildren) (pc := 122) dX9_linkChildren_122 rfl ?_
        obtain ⟨x25, ex25, hf⟩ := tq_be hf
        refine tq_getL (M := mX9_linkChildren) (pc := 123) tk_c9 (by decide) dX9_linkChildren_123 tk_RX9_45 rfl ex25 ?_
        refine tq_iload (M := mX9_linkChildren) (pc := 126) dX9_linkChildren_126 rfl ?_
        obtain ⟨v26, ev26, hf⟩ := tq_be hf
        refine tq_calS (M := mX9_linkChildren) (pc := 128) (S := []) tk_y_X0_holds tk_s_X0_holds tk_RX9_110 dX9_linkChildren_128 [.long x25, .int v23] rfl (Nat.le_of_ble_eq_true rfl) (d1 := d - 1) (b1 := 0) (s1 := 0) (bc' := bc) (bs' := bs) (Q1 := fun r h9 => r = .inl (some (.int v26)) ∧ o21 = h9) (by omega) (by omega) (by omega) (w_X0_holds (by omega) ev26 (fun _ _ q => q)) (fun E h9 q => nomatch (show (Sum.inr E : tq_R) = Sum.inl _ from q.1)) (fun r9 h9 q => ?_)
        obtain ⟨q1, rfl⟩ := q
        cases (show (Sum.inl r9 : tq_R) = Sum.inl (some (.int v26)) from q1)
        refine tq_if_ne (M := mX9_linkChildren) (pc := 131) (tgt := 142) dX9_linkChildren_131 (by decide) (fun cc => ?_) (fun cc => ?_)
        · have hf := tq_ifn hf cc
          refine tq_pick (L2 := [(0, .ref i0), (1, .ref i1), (2, .ref i2), (4, .int i4), (5, .long i5), (7, .int i7), (8, .int i8), (9, .int y9)]) [1, 2, 3, 4, 5, 6, 7, 8] rfl ?_
          cases (Option.some.inj hf)
          exact HJ119
        · have hf := tq_ifp hf cc
          refine tq_aload_n (M := mX9_linkChildren) (pc := 134) dX9_linkChildren_134 rfl ?_
          refine tq_iload (M := mX9_linkChildren) (pc := 135) dX9_linkChildren_135 rfl ?_
          refine tq_iload (M := mX9_linkChildren) (pc := 137) dX9_linkChildren_137 rfl ?_
          obtain ⟨⟨⟩, eu28, hf⟩ := tq_be hf
          obtain ⟨fsu28, eu28⟩ := tq_is_s eu28
          obtain ⟨v27, ev27, hf⟩ := tq_be hf
          refine tq_calV (M := mX9_linkChildren) (pc := 139) (S := []) tk_y_X8_append tk_v_X8_append tk_RX9_154 dX9_linkChildren_139 [.int i4, .int v23] rfl (S0 := _) rfl eu28 rfl (Nat.le_of_ble_eq_true rfl) (d1 := d - 1) (b1 := 0) (s1 := 0) (bc' := bc) (bs' := bs) (Q1 := fun r h9 => r = .inl none ∧ v27 = h9) (by omega) (by omega) (by omega) (w_X8_append (by omega) ev27 (fun _ _ q => q)) (fun E h9 q => nomatch (show (Sum.inr E : tq_R) = Sum.inl _ from q.1)) (fun r9 h9 q => ?_)
          obtain ⟨q1, rfl⟩ := q
          cases (show (Sum.inl r9 : tq_R) = Sum.inl (none) from q1)
          refine tq_pick (L2 := [(0, .ref i0), (1, .ref i1), (2, .ref i2), (4, .int i4), (5, .long i5), (7, .int i7), (8, .int i8), (9, .int y9)]) [1, 2, 3, 4, 5, 6, 7, 8] rfl ?_
          cases (Option.some.inj hf)
          exact HJ119
set_option maxHeartbeats 4000000 in
set_option maxRecDepth 20000 in
theorem w_X9_linkChildren {l : Launch} {d : Nat} (hd9 : 4 ≤ d) {t : Nat} {a1 : Nat} {a2 : Nat} {a3 : Int32} {h : tq_H} {o : tq_H} {Q : tq_R → tq_H → Prop} (hf : f_X9_linkChildren t a1 a2 a3 h = some o) (hQ : ∀ r h9, r = .inl none ∧ o = h9 → Q r h9) : tq_C l yX9_linkChildren cX9_linkChildren 11 none d 0 0 [.ref t, .ref a1, .ref a2, .int a3] h Q := by
  refine tq_body (y := yX9_linkChildren) false (by decide +kernel) (fun z => by cases z) (Nat.le_of_ble_eq_true rfl) ?_
  show tq_W l mX9_linkChildren d 0 0 Q 0 [(0, .ref t), (1, .ref a1), (2, .ref a2), (3, .int a3)] [] h
  refine tq_aload_n (M := mX9_linkChildren) (pc := 0) dX9_linkChildren_0 rfl ?_
  obtain ⟨k1, ek1, hf⟩ := tq_be hf
  refine tq_getR (M := mX9_linkChildren) (pc := 1) tk_c8 (by decide) dX9_linkChildren_1 tk_RX9_80 rfl ek1 ?_
  refine tq_iload_n (M := mX9_linkChildren) (pc := 4) dX9_linkChildren_4 rfl ?_
  obtain ⟨⟨⟩, eu3, hf⟩ := tq_be hf
  obtain ⟨fsu3, eu3⟩ := tq_is_s eu3
  obtain ⟨v2, ev2, hf⟩ := tq_be hf
  refine tq_calV (M := mX9_linkChildren) (pc := 5) (S := []) tk_y_X3_nodeAt tk_v_X3_nodeAt tk_RX9_138 dX9_linkChildren_5 [.int a3] rfl (S0 := _) rfl eu3 rfl (Nat.le_of_ble_eq_true rfl) (d1 := d - 1) (b1 := 0) (s1 := 0) (bc' := 0) (bs' := 0) (Q1 := fun r h9 => r = .inl (some (.int v2)) ∧ h = h9) (by omega) rfl rfl (w_X3_nodeAt (by omega) ev2 (fun _ _ q => q)) (fun E h9 q => nomatch (show (Sum.inr E : tq_R) = Sum.inl _ from q.1)) (fun r9 h9 q => ?_)
  obtain ⟨q1, rfl⟩ := q
  cases (show (Sum.inl r9 : tq_R) = Sum.inl (some (.int v2)) from q1)
  refine tq_istore (M := mX9_linkChildren) (pc := 8) dX9_linkChildren_8 (L2 := [(4, .int v2), (0, .ref t), (1, .ref a1), (2, .ref a2), (3, .int a3)]) (by decide) rfl ?_
  refine tq_aload_n (M := mX9_linkChildren) (pc := 10) dX9_linkChildren_10 rfl ?_
  obtain ⟨k4, ek4, hf⟩ := tq_be hf
  refine tq_getR (M := mX9_linkChildren) (pc := 11) tk_c8 (by decide) dX9_linkChildren_11 tk_RX9_80 rfl ek4 ?_
  refine tq_iload_n (M := mX9_linkChildren) (pc := 14) dX9_linkChildren_14 rfl ?_
  obtain ⟨⟨⟩, eu6, hf⟩ := tq_be hf
  obtain ⟨fsu6, eu6⟩ := tq_is_s eu6
  obtain ⟨v5, ev5, hf⟩ := tq_be hf
  refine tq_calV (M := mX9_linkChildren) (pc := 15) (S := []) tk_y_X3_children tk_v_X3_children tk_RX9_161 dX9_linkChildren_15 [.int a3] rfl (S0 := _) rfl eu6 rfl (Nat.le_of_ble_eq_true rfl) (d1 := d - 1) (b1 := 0) (s1 := 0) (bc' := 0) (bs' := 0) (Q1 := fun r h9 => r = .inl (some (.long v5)) ∧ h = h9) (by omega) rfl rfl (w_X3_children (by omega) ev5 (fun _ _ q => q)) (fun E h9 q => nomatch (show (Sum.inr E : tq_R) = Sum.inl _ from q.1)) (fun r9 h9 q => ?_)
  obtain ⟨q1, rfl⟩ := q
  cases (show (Sum.inl r9 : tq_R) = Sum.inl (some (.long v5)) from q1)
  refine tq_lstore (M := mX9_linkChildren) (pc := 18) dX9_linkChildren_18 (L2 := [(5, .long v5), (4, .int v2), (0, .ref t), (1, .ref a1), (2, .ref a2), (3, .int a3)]) (by decide) rfl ?_
  refine tq_lload (M := mX9_linkChildren) (pc := 20) dX9_linkChildren_20 rfl ?_
  obtain ⟨v7, ev7, hf⟩ := tq_be hf
  refine tq_calS (M := mX9_linkChildren) (pc := 22) (S := []) tk_y_J13_bitCount_95d88 tk_s_J13_bitCount_95d88 tk_RX9_144 dX9_linkChildren_22 [.long v5] rfl (Nat.le_of_ble_eq_true rfl) (d1 := d - 1) (b1 := 0) (s1 := 0) (bc' := 0) (bs' := 0) (Q1 := fun r h9 => r = .inl (some (.int v7)) ∧ h = h9) (by omega) rfl rfl (w_J13_bitCount_95d88 (by omega) ev7 (fun _ _ q => q)) (fun E h9 q => nomatch (show (Sum.inr E : tq_R) = Sum.inl _ from q.1)) (fun r9 h9 q => ?_)
  obtain ⟨q1, rfl⟩ := q
  cases (show (Sum.inl r9 : tq_R) = Sum.inl (some (.int v7)) from q1)
  refine tq_istore (M := mX9_linkChildren) (pc := 25) dX9_linkChildren_25 (L2 := [(7, .int v7), (5, .long v5), (4, .int v2), (0, .ref t), (1, .ref a1), (2, .ref a2), (3, .int a3)]) (by decide) rfl ?_
  refine tq_aload_n (M := mX9_linkChildren) (pc := 27) dX9_linkChildren_27 rfl ?_
  obtain ⟨x8, ex8, hf⟩ := tq_be hf
  refine tq_getL (M := mX9_linkChildren) (pc := 28) tk_c9 (by decide) dX9_linkChildren_28 tk_RX9_48 rfl ex8 ?_
  refine tq_iload (M := mX9_linkChildren) (pc := 31) dX9_linkChildren_31 rfl ?_
  obtain ⟨v9, ev9, hf⟩ := tq_be hf
  refine tq_calS (M := mX9_linkChildren) (pc := 33) (S := []) tk_y_X0_holds tk_s_X0_holds tk_RX9_110 dX9_linkChildren_33 [.long x8, .int v2] rfl (Nat.le_of_ble_eq_true rfl) (d1 := d - 1) (b1 := 0) (s1 := 0) (bc' := 0) (bs' := 0) (Q1 := fun r h9 => r = .inl (some (.int v9)) ∧ h = h9) (by omega) rfl rfl (w_X0_holds (by omega) ev9 (fun _ _ q => q)) (fun E h9 q => nomatch (show (Sum.inr E : tq_R) = Sum.inl _ from q.1)) (fun r9 h9 q => ?_)
  obtain ⟨q1, rfl⟩ := q
  cases (show (Sum.inl r9 : tq_R) = Sum.inl (some (.int v9)) from q1)
  obtain ⟨p11, ep11, hf⟩ := tq_be hf
  have HJ36 : tq_W l mX9_linkChildren d 0 0 Q 47 [(0, .ref t), (1, .ref a1), (2, .ref a2), (4, .int v2), (5, .long v5), (7, .int v7)] [.int p11] h := by
    refine tq_istore (M := mX9_linkChildren) (pc := 47) dX9_linkChildren_47 (L2 := [(8, .int p11), (0, .ref t), (1, .ref a1), (2, .ref a2), (4, .int v2), (5, .long v5), (7, .int v7)]) (by decide) rfl ?_
    refine tq_iconst (M := mX9_linkChildren) (pc := 49) dX9_linkChildren_49 tk_ki_0 ?_
    refine tq_istore (M := mX9_linkChildren) (pc := 50) dX9_linkChildren_50 (L2 := [(9, .int (0 : Int32)), (8, .int p11), (0, .ref t), (1, .ref a1), (2, .ref a2), (4, .int v2), (5, .long v5), (7, .int v7)]) (by decide) rfl ?_
    obtain ⟨o31, eo31, hf⟩ := tq_be hf
    refine tq_pick (L2 := [(0, .ref t), (1, .ref a1), (2, .ref a2), (4, .int v2), (5, .long v5), (7, .int v7), (8, .int p11), (9, .int (0 : Int32))]) [2, 3, 4, 5, 6, 7, 1, 0] rfl ?_
    refine l_X9_linkChildren_52 (bc := 0) (bs := 0) (by omega) t a1 a2 v2 v5 v7 p11 _ (0 : Int32) h _ eo31 ?_
    refine tq_vret (M := mX9_linkChildren) (pc := 148) dX9_linkChildren_148 rfl ?_
    cases (Option.some.inj hf)
    exact hQ _ _ ⟨rfl, rfl⟩
  refine tq_if_eq (M := mX9_linkChildren) (pc := 36) (tgt := 46) dX9_linkChildren_36 (by decide) (fun cc => ?_) (fun cc => ?_)
  · have hf := tq_ifp ep11 cc
    refine tq_iconst (M := mX9_linkChildren) (pc := 46) dX9_linkChildren_46 tk_ki_0 ?_
    refine tq_pick (L2 := [(0, .ref t), (1, .ref a1), (2, .ref a2), (4, .int v2), (5, .long v5), (7, .int v7)]) [3, 4, 5, 2, 1, 0] rfl ?_
    cases (Option.some.inj hf)
    exact HJ36
  · have hf := tq_ifn ep11 cc
    refine tq_aload_n (M := mX9_linkChildren) (pc := 39) dX9_linkChildren_39 rfl ?_
    obtain ⟨x10, ex10, hf⟩ := tq_be hf
    refine tq_getI (M := mX9_linkChildren) (pc := 40) tk_c9 (by decide) dX9_linkChildren_40 tk_RX9_51 rfl ex10 ?_
    refine tq_goto (M := mX9_linkChildren) (pc := 43) (tgt := 47) dX9_linkChildren_43 (by decide) ?_
    refine tq_pick (L2 := [(0, .ref t), (1, .ref a1), (2, .ref a2), (4, .int v2), (5, .long v5), (7, .int v7)]) [3, 4, 5, 2, 1, 0] rfl ?_
    cases (Option.some.inj hf)
    exact HJ36
abbrev mX9_build : tq_M := (RX9, cX9_build, 4, none, false, [], none)
def f_X9_build_b22 (i0 : Nat) (i1 : Nat) (i2 : Nat) (s : Int32 × tq_H) : Option ((Int32 × tq_H) ⊕ (tq_H)) := match s with
  | (y3, hh) =>
    (tq_gi hh i0 9 11).bind fun x6 =>
    if y3 ≥ x6 then
      some (.inr hh)
    else
      (tq_is hh i0 9).bind fun _ =>
      (f_X9_change i0 i2 y3 hh).bind fun v7 =>
      tq_let (y3 + (1 : Int32)) fun x9 =>
      some (.inl (x9, v7))
def f_X9_build_b44 (i0 : Nat) (i1 : Nat) (i2 : Nat) (s : Int32 × tq_H) : Option ((Int32 × tq_H) ⊕ (tq_H)) := match s with
  | (y3, hh) =>
    (tq_gr hh i1 8 0).bind fun k11 =>
    (tq_is hh k11 3).bind fun _ =>
    (f_X3_count k11 hh).bind fun v12 =>
    if y3 ≥ v12 then
      some (.inr hh)
    else
      (tq_gr hh i1 8 0).bind fun k14 =>
      (tq_is hh k14 3).bind fun _ =>
      (f_X3_elements k14 hh).bind fun v15 =>
      (f_X0_holds v15 y3 hh).bind fun v17 =>
      (if v17 = 0 then
        some hh
      else
        (tq_is hh i0 9).bind fun _ =>
        (f_X9_linkAttributes i0 i1 i2 y3 hh).bind fun v18 =>
        (tq_is v18 i0 9).bind fun _ =>
        (f_X9_linkChildren i0 i1 i2 y3 v18).bind fun v20 =>
        some v20).bind fun p22 =>
      tq_let (y3 + (1 : Int32)) fun x23 =>
      some (.inl (x23, p22))
def f_X9_build (t : Nat) (a1 : Nat) (a2 : Nat) (h : tq_H) : Option (tq_H) :=
  (tq_is h a2 8).bind fun _ =>
  (f_X8_copyLoose a2 a1 h).bind fun v1 =>
  (tq_pf v1 t 9 8 (.long (0 : Int64))).bind fun w3 =>
  (tq_pf w3 t 9 9 (.long (0 : Int64))).bind fun w4 =>
  (tq_pf w4 t 9 10 (.long (0 : Int64))).bind fun w5 =>
  (tq_loop (f_X9_build_b22 t a1 a2) tq_N ((0 : Int32), w5)).bind fun o10 =>
  (tq_loop (f_X9_build_b44 t a1 a2) tq_N ((0 : Int32), o10)).bind fun o24 =>
  (tq_is o24 a2 8).bind fun _ =>
  (f_X8_layOut a2 o24).bind fun v25 =>
  some v25
set_option maxHeartbeats 4000000 in
theorem l_X9_build_22 {l : Launch} {d : Nat} {Q : tq_R → tq_H → Prop} {bc bs : Nat} (hd9 : 5 ≤ d) (i0 : Nat) (i1 : Nat) (i2 : Nat) : ∀ (n : Nat) (y3 : Int32) (hh : tq_H) (o : tq_H), tq_loop (f_X9_build_b22 i0 i1 i2) n (y3, hh) = some o → tq_W l mX9_build d bc bs Q 42 [(0, .ref i0), (1, .ref i1), (2, .ref i2)] [] o → tq_W l mX9_build d bc bs Q 22 [(0, .ref i0), (1, .ref i1), (2, .ref i2), (3, .int y3)] [] hh := by
  intro n
  induction n with
  | zero => intro y3 hh o hl; cases hl
  | succ n ih =>
    intro y3 hh o hl hk
    obtain ⟨oo, hf, ho⟩ := tq_loop_s hl
    refine tq_iload_n (M := mX9_build) (pc := 22) dX9_build_22 rfl ?_
    refine tq_aload_n (M := mX9_build) (pc := 23) dX9_build_23 rfl ?_
    obtain ⟨x6, ex6, hf⟩ := tq_be hf
    refine tq_getI (M := mX9_build) (pc := 24) tk_c9 (by decide) dX9_build_24 tk_RX9_51 rfl ex6 ?_
    refine tq_icmp_ge (M := mX9_build) (pc := 27) (tgt := 42) dX9_build_27 (by decide) (fun cc => ?_) (fun cc => ?_)
    · have hf := tq_ifp hf cc
      refine tq_pick (L2 := [(0, .ref i0), (1, .ref i1), (2, .ref i2)]) [0, 1, 2] rfl ?_
      cases (Option.some.inj hf)
      cases (tq_lx ho)
      exact hk
    · have hf := tq_ifn hf cc
      refine tq_aload_n (M := mX9_build) (pc := 30) dX9_build_30 rfl ?_
      refine tq_aload_n (M := mX9_build) (pc := 31) dX9_build_31 rfl ?_
      refine tq_iload_n (M := mX9_build) (pc := 32) dX9_build_32 rfl ?_
      obtain ⟨⟨⟩, eu8, hf⟩ := tq_be hf
      obtain ⟨fsu8, eu8⟩ := tq_is_s eu8
      obtain ⟨v7, ev7, hf⟩ := tq_be hf
      refine tq_calV (M := mX9_build) (pc := 33) (S := []) tk_y_X9_change tk_v_X9_change tk_RX9_100 dX9_build_33 [.ref i2, .int y3] rfl (S0 := _) rfl eu8 rfl (Nat.le_of_ble_eq_true rfl) (d1 := d - 1) (b1 := 0) (s1 := 0) (bc' := bc) (bs' := bs) (Q1 := fun r h9 => r = .inl none ∧ v7 = h9) (by omega) (by omega) (by omega) (w_X9_change (by omega) ev7 (fun _ _ q => q)) (fun E h9 q => nomatch (show (Sum.inr E : tq_R) = Sum.inl _ from q.1)) (fun r9 h9 q => ?_)
      obtain ⟨q1, rfl⟩ := q
      cases (show (Sum.inl r9 : tq_R) = Sum.inl (none) from q1)
      obtain ⟨x9, ex9, hf⟩ := tq_le hf
      refine tq_iinc (M := mX9_build) (pc := 36) (v := x9) (L2 := [(3, .int x9), (0, .ref i0), (1, .ref i1), (2, .ref i2)]) dX9_build_36 rfl (by rw [ex9, tk_ki_1]) (by decide) rfl ?_
      refine tq_goto (M := mX9_build) (pc := 39) (tgt := 22) dX9_build_39 (by decide) ?_
      refine tq_pick (L2 := [(0, .ref i0), (1, .ref i1), (2, .ref i2), (3, .int x9)]) [1, 2, 3, 0] rfl ?_
      cases (Option.some.inj hf)
      exact ih _ _ o (tq_lc ho) hk
set_option maxHeartbeats 4000000 in
theorem l_X9_build_44 {l : Launch} {d : Nat} {Q : tq_R → tq_H → Prop} {bc bs : Nat} (hd9 : 5 ≤ d) (i0 : Nat) (i1 : Nat) (i2 : Nat) : ∀ (n : Nat) (y3 : Int32) (hh : tq_H) (o : tq_H), tq_loop (f_X9_build_b44 i0 i1 i2) n (y3, hh) = some o → tq_W l mX9_build d bc bs Q 89 [(2, .ref i2)] [] o → tq_W l mX9_build d bc bs Q 44 [(0, .ref i0), (1, .ref i1), (2, .ref i2), (3, .int y3)] [] hh := by
  intro n
  induction n with
  | zero => intro y3 hh o hl; cases hl
  | succ n ih =>
    intro y3 hh o hl hk
    obtain ⟨oo, hf, ho⟩ := tq_loop_s hl
    refine tq_iload_n (M := mX9_build) (pc := 44) dX9_build_44 rfl ?_
    refine tq_aload_n (M := mX9_build) (pc := 45) dX9_build_45 rfl ?_
    obtain ⟨k11, ek11, hf⟩ := tq_be hf
    refine tq_getR (M := mX9_build) (pc := 46) tk_c8 (by decide) dX9_build_46 tk_RX9_80 rfl ek11 ?_
    obtain ⟨⟨⟩, eu13, hf⟩ := tq_be hf
    obtain ⟨fsu13, eu13⟩ := tq_is_s eu13
    obtain ⟨v12, ev12, hf⟩ := tq_be hf
    refine tq_calV (M := mX9_build) (pc := 49) (S := [.int y3]) tk_y_X3_count tk_v_X3_count tk_RX9_104 dX9_build_49 [] rfl (S0 := _) rfl eu13 rfl (Nat.le_of_ble_eq_true rfl) (d1 := d - 1) (b1 := 0) (s1 := 0) (bc' := bc) (bs' := bs) (Q1 := fun r h9 => r = .inl (some (.int v12)) ∧ hh = h9) (by omega) (by omega) (by omega) (w_X3_count (by omega) ev12 (fun _ _ q => q)) (fun E h9 q => nomatch (show (Sum.inr E : tq_R) = Sum.inl _ from q.1)) (fun r9 h9 q => ?_)
    obtain ⟨q1, rfl⟩ := q
    cases (show (Sum.inl r9 : tq_R) = Sum.inl (some (.int v12)) from q1)
    refine tq_icmp_ge (M := mX9_build) (pc := 52) (tgt := 89) dX9_build_52 (by decide) (fun cc => ?_) (fun cc => ?_)
    · have hf := tq_ifp hf cc
      refine tq_pick (L2 := [(2, .ref i2)]) [2] rfl ?_
      cases (Option.some.inj hf)
      cases (tq_lx ho)
      exact hk
    · have hf := tq_ifn hf cc
      refine tq_aload_n (M := mX9_build) (pc := 55) dX9_build_55 rfl ?_
      obtain ⟨k14, ek14, hf⟩ := tq_be hf
      refine tq_getR (M := mX9_build) (pc := 56) tk_c8 (by decide) dX9_build_56 tk_RX9_80 rfl ek14 ?_
      obtain ⟨⟨⟩, eu16, hf⟩ := tq_be hf
      obtain ⟨fsu16, eu16⟩ := tq_is_s eu16
      obtain ⟨v15, ev15, hf⟩ := tq_be hf
      refine tq_calV (M := mX9_build) (pc := 59) (S := []) tk_y_X3_elements tk_v_X3_elements tk_RX9_106 dX9_build_59 [] rfl (S0 := _) rfl eu16 rfl (Nat.le_of_ble_eq_true rfl) (d1 := d - 1) (b1 := 0) (s1 := 0) (bc' := bc) (bs' := bs) (Q1 := fun r h9 => r = .inl (some (.long v15)) ∧ hh = h9) (by omega) (by omega) (by omega) (w_X3_elements (by omega) ev15 (fun _ _ q => q)) (fun E h9 q => nomatch (show (Sum.inr E : tq_R) = Sum.inl _ from q.1)) (fun r9 h9 q => ?_)
      obtain ⟨q1, rfl⟩ := q
      cases (show (Sum.inl r9 : tq_R) = Sum.inl (some (.long v15)) from q1)
      refine tq_iload_n (M := mX9_build) (pc := 62) dX9_build_62 rfl ?_
      obtain ⟨v17, ev17, hf⟩ := tq_be hf
      refine tq_calS (M := mX9_build) (pc := 63) (S := []) tk_y_X0_holds tk_s_X0_holds tk_RX9_110 dX9_build_63 [.long v15, .int y3] rfl (Nat.le_of_ble_eq_true rfl) (d1 := d - 1) (b1 := 0) (s1 := 0) (bc' := bc) (bs' := bs) (Q1 := fun r h9 => r = .inl (some (.int v17)) ∧ hh = h9) (by omega) (by omega) (by omega) (w_X0_holds (by omega) ev17 (fun _ _ q => q)) (fun E h9 q => nomatch (show (Sum.inr E : tq_R) = Sum.inl _ from q.1)) (fun r9 h9 q => ?_)
      obtain ⟨q1, rfl⟩ := q
      cases (show (Sum.inl r9 : tq_R) = Sum.inl (some (.int v17)) from q1)
      obtain ⟨p22, ep22, hf⟩ := tq_be hf
      have HJ66 : tq_W l mX9_build d bc bs Q 83 [(0, .ref i0), (1, .ref i1), (2, .ref i2), (3, .int y3)] [] p22 := by
        obtain ⟨x23, ex23, hf⟩ := tq_le hf
        refine tq_iinc (M := mX9_build) (pc := 83) (v := x23) (L2 := [(3, .int x23), (0, .ref i0), (1, .ref i1), (2, .ref i2)]) dX9_build_83 rfl (by rw [ex23, tk_ki_1]) (by decide) rfl ?_
        refine tq_goto (M := mX9_build) (pc := 86) (tgt := 44) dX9_build_86 (by decide) ?_
        refine tq_pick (L2 := [(0, .ref i0), (1, .ref i1), (2, .ref i2), (3, .int x23)]) [1, 2, 3, 0] rfl ?_
        cases (Option.some.inj hf)
        exact ih _ _ o (tq_lc ho) hk
      refine tq_if_eq (M := mX9_build) (pc := 66) (tgt := 83) dX9_build_66 (by decide) (fun cc => ?_) (fun cc => ?_)
      · have hf := tq_ifp ep22 cc
        cases (Option.some.inj hf)
        exact HJ66
      · have hf := tq_ifn ep22 cc
        refine tq_aload_n (M := mX9_build) (pc := 69) dX9_build_69 rfl ?_
        refine tq_aload_n (M := mX9_build) (pc := 70) dX9_build_70 rfl ?_
        refine tq_aload_n (M := mX9_build) (pc := 71) dX9_build_71 rfl ?_
        refine tq_iload_n (M := mX9_build) (pc := 72) dX9_build_72 rfl ?_
        obtain ⟨⟨⟩, eu19, hf⟩ := tq_be hf
        obtain ⟨fsu19, eu19⟩ := tq_is_s eu19
        obtain ⟨v18, ev18, hf⟩ := tq_be hf
        refine tq_calV (M := mX9_build) (pc := 73) (S := []) tk_y_X9_linkAttributes tk_v_X9_linkAttributes tk_RX9_115 dX9_build_73 [.ref i1, .ref i2, .int y3] rfl (S0 := _) rfl eu19 rfl (Nat.le_of_ble_eq_true rfl) (d1 := d - 1) (b1 := 0) (s1 := 0) (bc' := bc) (bs' := bs) (Q1 := fun r h9 => r = .inl none ∧ v18 = h9) (by omega) (by omega) (by omega) (w_X9_linkAttributes (by omega) ev18 (fun _ _ q => q)) (fun E h9 q => nomatch (show (Sum.inr E : tq_R) = Sum.inl _ from q.1)) (fun r9 h9 q => ?_)
        obtain ⟨q1, rfl⟩ := q
        cases (show (Sum.inl r9 : tq_R) = Sum.inl (none) from q1)
        refine tq_aload_n (M := mX9_build) (pc := 76) dX9_build_76 rfl ?_
        refine tq_aload_n (M := mX9_build) (pc := 77) dX9_build_77 rfl ?_
        refine tq_aload_n (M := mX9_build) (pc := 78) dX9_build_78 rfl ?_
        refine tq_iload_n (M := mX9_build) (pc := 79) dX9_build_79 rfl ?_
        obtain ⟨⟨⟩, eu21, hf⟩ := tq_be hf
        obtain ⟨fsu21, eu21⟩ := tq_is_s eu21
        obtain ⟨v20, ev20, hf⟩ := tq_be hf
        refine tq_calV (M := mX9_build) (pc := 80) (S := []) tk_y_X9_linkChildren tk_v_X9_linkChildren tk_RX9_119 dX9_build_80 [.ref i1, .ref i2, .int y3] rfl (S0 := _) rfl eu21 rfl (Nat.le_of_ble_eq_true rfl) (d1 := d - 1) (b1 := 0) (s1 := 0) (bc' := bc) (bs' := bs) (Q1 := fun r h9 => r = .inl none ∧ v20 = h9) (by omega) (by omega) (by omega) (w_X9_linkChildren (by omega) ev20 (fun _ _ q => q)) (fun E h9 q => nomatch (show (Sum.inr E : tq_R) = Sum.inl _ from q.1)) (fun r9 h9 q => ?_)
        obtain ⟨q1, rfl⟩ := q
        cases (show (Sum.inl r9 : tq_R) = Sum.inl (none) from q1)
        cases (Option.some.inj hf)
        exact HJ66
set_option maxHeartbeats 4000000 in
set_option maxRecDepth 20000 in
theorem w_X9_build {l : Launch} {d : Nat} (hd9 : 5 ≤ d) {t : Nat} {a1 : Nat} {a2 : Nat} {h : tq_H} {o : tq_H} {Q : tq_R → tq_H → Prop} (hf : f_X9_build t a1 a2 h = some o) (hQ : ∀ r h9, r = .inl none ∧ o = h9 → Q r h9) : tq_C l yX9_build cX9_build 4 none d 0 0 [.ref t, .ref a1, .ref a2] h Q := by
  refine tq_body (y := yX9_build) false (by decide +kernel) (fun z => by cases z) (Nat.le_of_ble_eq_true rfl) ?_
  show tq_W l mX9_build d 0 0 Q 0 [(0, .ref t), (1, .ref a1), (2, .ref a2)] [] h
  refine tq_aload_n (M := mX9_build) (pc := 0) dX9_build_0 rfl ?_
  refine tq_aload_n (M := mX9_build) (pc := 1) dX9_build_1 rfl ?_
  obtain ⟨⟨⟩, eu2, hf⟩ := tq_be hf
  obtain ⟨fsu2, eu2⟩ := tq_is_s eu2
  obtain ⟨v1, ev1, hf⟩ := tq_be hf
  refine tq_calV (M := mX9_build) (pc := 2) (S := []) tk_y_X8_copyLoose tk_v_X8_copyLoose tk_RX9_96 dX9_build_2 [.ref a1] rfl (S0 := _) rfl eu2 rfl (Nat.le_of_ble_eq_true rfl) (d1 := d - 1) (b1 := 0) (s1 := 0) (bc' := 0) (bs' := 0) (Q1 := fun r h9 => r = .inl none ∧ v1 = h9) (by omega) rfl rfl (w_X8_copyLoose (by omega) ev1 (fun _ _ q => q)) (fun E h9 q => nomatch (show (Sum.inr E : tq_R) = Sum.inl _ from q.1)) (fun r9 h9 q => ?_)
  obtain ⟨q1, rfl⟩ := q
  cases (show (Sum.inl r9 : tq_R) = Sum.inl (none) from q1)
  refine tq_aload_n (M := mX9_build) (pc := 5) dX9_build_5 rfl ?_
  refine tq_lconst (M := mX9_build) (pc := 6) dX9_build_6 tk_kl_0 ?_
  obtain ⟨w3, ew3, hf⟩ := tq_be hf
  refine tq_putv (M := mX9_build) (pc := 7) tk_c9 (by decide) dX9_build_7 tk_RX9_41 rfl (Or.inl rfl) ew3 (tq_nL _) ?_
  refine tq_aload_n (M := mX9_build) (pc := 10) dX9_build_10 rfl ?_
  refine tq_lconst (M := mX9_build) (pc := 11) dX9_build_11 tk_kl_0 ?_
  obtain ⟨w4, ew4, hf⟩ := tq_be hf
  refine tq_putv (M := mX9_build) (pc := 12) tk_c9 (by decide) dX9_build_12 tk_RX9_45 rfl (Or.inl rfl) ew4 (tq_nL _) ?_
  refine tq_aload_n (M := mX9_build) (pc := 15) dX9_build_15 rfl ?_
  refine tq_lconst (M := mX9_build) (pc := 16) dX9_build_16 tk_kl_0 ?_
  obtain ⟨w5, ew5, hf⟩ := tq_be hf
  refine tq_putv (M := mX9_build) (pc := 17) tk_c9 (by decide) dX9_build_17 tk_RX9_48 rfl (Or.inl rfl) ew5 (tq_nL _) ?_
  refine tq_iconst (M := mX9_build) (pc := 20) dX9_build_20 tk_ki_0 ?_
  refine tq_istore_n (M := mX9_build) (pc := 21) rfl dX9_build_21 (L2 := [(3, .int (0 : Int32)), (0, .ref t), (1, .ref a1), (2, .ref a2)]) (by decide) rfl ?_
  obtain ⟨o10, eo10, hf⟩ := tq_be hf
  refine tq_pick (L2 := [(0, .ref t), (1, .ref a1), (2, .ref a2), (3, .int (0 : Int32))]) [1, 2, 3, 0] rfl ?_
  refine l_X9_build_22 (bc := 0) (bs := 0) (by omega) t a1 a2 _ (0 : Int32) w5 _ eo10 ?_
  refine tq_iconst (M := mX9_build) (pc := 42) dX9_build_42 tk_ki_0 ?_
  refine tq_istore_n (M := mX9_build) (pc := 43) rfl dX9_build_43 (L2 := [(3, .int (0 : Int32)), (0, .ref t), (1, .ref a1), (2, .ref a2)]) (by decide) rfl ?_
  obtain ⟨o24, eo24, hf⟩ := tq_be hf
  refine tq_pick (L2 := [(0, .ref t), (1, .ref a1), (2, .ref a2), (3, .int (0 : Int32))]) [1, 2, 3, 0] rfl ?_
  refine l_X9_build_44 (bc := 0) (bs := 0) (by omega) t a1 a2 _ (0 : Int32) o10 _ eo24 ?_
  refine tq_aload_n (M := mX9_build) (pc := 89) dX9_build_89 rfl ?_
  obtain ⟨⟨⟩, eu26, hf⟩ := tq_be hf
  obtain ⟨fsu26, eu26⟩ := tq_is_s eu26
  obtain ⟨v25, ev25, hf⟩ := tq_be hf
  refine tq_calV (M := mX9_build) (pc := 90) (S := []) tk_y_X8_layOut tk_v_X8_layOut tk_RX9_122 dX9_build_90 [] rfl (S0 := _) rfl eu26 rfl (Nat.le_of_ble_eq_true rfl) (d1 := d - 1) (b1 := 0) (s1 := 0) (bc' := 0) (bs' := 0) (Q1 := fun r h9 => r = .inl none ∧ v25 = h9) (by omega) rfl rfl (w_X8_layOut (by omega) ev25 (fun _ _ q => q)) (fun E h9 q => nomatch (show (Sum.inr E : tq_R) = Sum.inl _ from q.1)) (fun r9 h9 q => ?_)
  obtain ⟨q1, rfl⟩ := q
  cases (show (Sum.inl r9 : tq_R) = Sum.inl (none) from q1)
  refine tq_vret (M := mX9_build) (pc := 93) dX9_build_93 rfl ?_
  cases (Option.some.inj hf)
  exact hQ _ _ ⟨rfl, rfl⟩
