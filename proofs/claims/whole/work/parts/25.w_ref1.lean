/-! ===== printed by wip/whole/tools: TreequeryModel 1 ===== -/
abbrev cX11_attributeOf : ByteArray := prog_13_method_9_code
def yX11_attributeOf : MethodName := ⟨RX11, "attributeOf", "(II)I"⟩
theorem dX11_attributeOf_0 : decode cX11_attributeOf 0 = .ok (.iconst (-1), 1) := by decide +kernel
theorem dX11_attributeOf_1 : decode cX11_attributeOf 1 = .ok (.istore_n 3, 1) := by decide +kernel
theorem dX11_attributeOf_2 : decode cX11_attributeOf 2 = .ok (.iconst 0, 1) := by decide +kernel
theorem dX11_attributeOf_3 : decode cX11_attributeOf 3 = .ok (.istore 4, 2) := by decide +kernel
theorem dX11_attributeOf_5 : decode cX11_attributeOf 5 = .ok (.iload 4, 2) := by decide +kernel
theorem dX11_attributeOf_7 : decode cX11_attributeOf 7 = .ok (.aload_n 0, 1) := by decide +kernel
theorem dX11_attributeOf_8 : decode cX11_attributeOf 8 = .ok (.getfield 159, 3) := by decide +kernel
theorem dX11_attributeOf_11 : decode cX11_attributeOf 11 = .ok (.if_icmp .ge 59, 3) := by decide +kernel
theorem dX11_attributeOf_14 : decode cX11_attributeOf 14 = .ok (.aload_n 0, 1) := by decide +kernel
theorem dX11_attributeOf_15 : decode cX11_attributeOf 15 = .ok (.getfield 31, 3) := by decide +kernel
theorem dX11_attributeOf_18 : decode cX11_attributeOf 18 = .ok (.iload 4, 2) := by decide +kernel
theorem dX11_attributeOf_20 : decode cX11_attributeOf 20 = .ok (.baload, 1) := by decide +kernel
theorem dX11_attributeOf_21 : decode cX11_attributeOf 21 = .ok (.ifCond .eq 41, 3) := by decide +kernel
theorem dX11_attributeOf_24 : decode cX11_attributeOf 24 = .ok (.aload_n 0, 1) := by decide +kernel
theorem dX11_attributeOf_25 : decode cX11_attributeOf 25 = .ok (.getfield 22, 3) := by decide +kernel
theorem dX11_attributeOf_28 : decode cX11_attributeOf 28 = .ok (.iload 4, 2) := by decide +kernel
theorem dX11_attributeOf_30 : decode cX11_attributeOf 30 = .ok (.iaload, 1) := by decide +kernel
theorem dX11_attributeOf_31 : decode cX11_attributeOf 31 = .ok (.iload_n 1, 1) := by decide +kernel
theorem dX11_attributeOf_32 : decode cX11_attributeOf 32 = .ok (.if_icmp .ne 30, 3) := by decide +kernel
theorem dX11_attributeOf_35 : decode cX11_attributeOf 35 = .ok (.aload_n 0, 1) := by decide +kernel
theorem dX11_attributeOf_36 : decode cX11_attributeOf 36 = .ok (.getfield 7, 3) := by decide +kernel
theorem dX11_attributeOf_39 : decode cX11_attributeOf 39 = .ok (.iload 4, 2) := by decide +kernel
theorem dX11_attributeOf_41 : decode cX11_attributeOf 41 = .ok (.iaload, 1) := by decide +kernel
theorem dX11_attributeOf_42 : decode cX11_attributeOf 42 = .ok (.iconst 2, 1) := by decide +kernel
theorem dX11_attributeOf_43 : decode cX11_attributeOf 43 = .ok (.if_icmp .ne 19, 3) := by decide +kernel
theorem dX11_attributeOf_46 : decode cX11_attributeOf 46 = .ok (.aload_n 0, 1) := by decide +kernel
theorem dX11_attributeOf_47 : decode cX11_attributeOf 47 = .ok (.getfield 13, 3) := by decide +kernel
theorem dX11_attributeOf_50 : decode cX11_attributeOf 50 = .ok (.iload 4, 2) := by decide +kernel
theorem dX11_attributeOf_52 : decode cX11_attributeOf 52 = .ok (.iaload, 1) := by decide +kernel
theorem dX11_attributeOf_53 : decode cX11_attributeOf 53 = .ok (.iload_n 2, 1) := by decide +kernel
theorem dX11_attributeOf_54 : decode cX11_attributeOf 54 = .ok (.if_icmp .ne 8, 3) := by decide +kernel
theorem dX11_attributeOf_57 : decode cX11_attributeOf 57 = .ok (.iload 4, 2) := by decide +kernel
theorem dX11_attributeOf_59 : decode cX11_attributeOf 59 = .ok (.goto 4, 3) := by decide +kernel
theorem dX11_attributeOf_62 : decode cX11_attributeOf 62 = .ok (.iload_n 3, 1) := by decide +kernel
theorem dX11_attributeOf_63 : decode cX11_attributeOf 63 = .ok (.istore_n 3, 1) := by decide +kernel
theorem dX11_attributeOf_64 : decode cX11_attributeOf 64 = .ok (.iinc 4 1, 3) := by decide +kernel
theorem dX11_attributeOf_67 : decode cX11_attributeOf 67 = .ok (.goto (-62), 3) := by decide +kernel
theorem dX11_attributeOf_70 : decode cX11_attributeOf 70 = .ok (.iload_n 3, 1) := by decide +kernel
theorem dX11_attributeOf_71 : decode cX11_attributeOf 71 = .ok (.ireturn, 1) := by decide +kernel
abbrev cX11_childCount : ByteArray := prog_13_method_7_code
def yX11_childCount : MethodName := ⟨RX11, "childCount", "(I)I"⟩
theorem dX11_childCount_0 : decode cX11_childCount 0 = .ok (.iconst 0, 1) := by decide +kernel
theorem dX11_childCount_1 : decode cX11_childCount 1 = .ok (.istore_n 2, 1) := by decide +kernel
theorem dX11_childCount_2 : decode cX11_childCount 2 = .ok (.iconst 0, 1) := by decide +kernel
theorem dX11_childCount_3 : decode cX11_childCount 3 = .ok (.istore_n 3, 1) := by decide +kernel
theorem dX11_childCount_4 : decode cX11_childCount 4 = .ok (.iload_n 3, 1) := by decide +kernel
theorem dX11_childCount_5 : decode cX11_childCount 5 = .ok (.aload_n 0, 1) := by decide +kernel
theorem dX11_childCount_6 : decode cX11_childCount 6 = .ok (.getfield 159, 3) := by decide +kernel
theorem dX11_childCount_9 : decode cX11_childCount 9 = .ok (.if_icmp .ge 46, 3) := by decide +kernel
theorem dX11_childCount_12 : decode cX11_childCount 12 = .ok (.iload_n 2, 1) := by decide +kernel
theorem dX11_childCount_13 : decode cX11_childCount 13 = .ok (.aload_n 0, 1) := by decide +kernel
theorem dX11_childCount_14 : decode cX11_childCount 14 = .ok (.getfield 31, 3) := by decide +kernel
theorem dX11_childCount_17 : decode cX11_childCount 17 = .ok (.iload_n 3, 1) := by decide +kernel
theorem dX11_childCount_18 : decode cX11_childCount 18 = .ok (.baload, 1) := by decide +kernel
theorem dX11_childCount_19 : decode cX11_childCount 19 = .ok (.ifCond .eq 27, 3) := by decide +kernel
theorem dX11_childCount_22 : decode cX11_childCount 22 = .ok (.aload_n 0, 1) := by decide +kernel
theorem dX11_childCount_23 : decode cX11_childCount 23 = .ok (.getfield 22, 3) := by decide +kernel
theorem dX11_childCount_26 : decode cX11_childCount 26 = .ok (.iload_n 3, 1) := by decide +kernel
theorem dX11_childCount_27 : decode cX11_childCount 27 = .ok (.iaload, 1) := by decide +kernel
theorem dX11_childCount_28 : decode cX11_childCount 28 = .ok (.iload_n 1, 1) := by decide +kernel
theorem dX11_childCount_29 : decode cX11_childCount 29 = .ok (.if_icmp .ne 17, 3) := by decide +kernel
theorem dX11_childCount_32 : decode cX11_childCount 32 = .ok (.aload_n 0, 1) := by decide +kernel
theorem dX11_childCount_33 : decode cX11_childCount 33 = .ok (.getfield 7, 3) := by decide +kernel
theorem dX11_childCount_36 : decode cX11_childCount 36 = .ok (.iload_n 3, 1) := by decide +kernel
theorem dX11_childCount_37 : decode cX11_childCount 37 = .ok (.iaload, 1) := by decide +kernel
theorem dX11_childCount_38 : decode cX11_childCount 38 = .ok (.iconst 2, 1) := by decide +kernel
theorem dX11_childCount_39 : decode cX11_childCount 39 = .ok (.if_icmp .eq 7, 3) := by decide +kernel
theorem dX11_childCount_42 : decode cX11_childCount 42 = .ok (.iconst 1, 1) := by decide +kernel
theorem dX11_childCount_43 : decode cX11_childCount 43 = .ok (.goto 4, 3) := by decide +kernel
theorem dX11_childCount_46 : decode cX11_childCount 46 = .ok (.iconst 0, 1) := by decide +kernel
theorem dX11_childCount_47 : decode cX11_childCount 47 = .ok (.iadd, 1) := by decide +kernel
theorem dX11_childCount_48 : decode cX11_childCount 48 = .ok (.istore_n 2, 1) := by decide +kernel
theorem dX11_childCount_49 : decode cX11_childCount 49 = .ok (.iinc 3 1, 3) := by decide +kernel
theorem dX11_childCount_52 : decode cX11_childCount 52 = .ok (.goto (-48), 3) := by decide +kernel
theorem dX11_childCount_55 : decode cX11_childCount 55 = .ok (.iload_n 2, 1) := by decide +kernel
theorem dX11_childCount_56 : decode cX11_childCount 56 = .ok (.ireturn, 1) := by decide +kernel
abbrev cX11_childAt : ByteArray := prog_13_method_8_code
def yX11_childAt : MethodName := ⟨RX11, "childAt", "(II)I"⟩
theorem dX11_childAt_0 : decode cX11_childAt 0 = .ok (.iconst (-1), 1) := by decide +kernel
theorem dX11_childAt_1 : decode cX11_childAt 1 = .ok (.istore_n 3, 1) := by decide +kernel
theorem dX11_childAt_2 : decode cX11_childAt 2 = .ok (.iconst 0, 1) := by decide +kernel
theorem dX11_childAt_3 : decode cX11_childAt 3 = .ok (.istore 4, 2) := by decide +kernel
theorem dX11_childAt_5 : decode cX11_childAt 5 = .ok (.iload 4, 2) := by decide +kernel
theorem dX11_childAt_7 : decode cX11_childAt 7 = .ok (.aload_n 0, 1) := by decide +kernel
theorem dX11_childAt_8 : decode cX11_childAt 8 = .ok (.getfield 159, 3) := by decide +kernel
theorem dX11_childAt_11 : decode cX11_childAt 11 = .ok (.if_icmp .ge 59, 3) := by decide +kernel
theorem dX11_childAt_14 : decode cX11_childAt 14 = .ok (.aload_n 0, 1) := by decide +kernel
theorem dX11_childAt_15 : decode cX11_childAt 15 = .ok (.getfield 31, 3) := by decide +kernel
theorem dX11_childAt_18 : decode cX11_childAt 18 = .ok (.iload 4, 2) := by decide +kernel
theorem dX11_childAt_20 : decode cX11_childAt 20 = .ok (.baload, 1) := by decide +kernel
theorem dX11_childAt_21 : decode cX11_childAt 21 = .ok (.ifCond .eq 41, 3) := by decide +kernel
theorem dX11_childAt_24 : decode cX11_childAt 24 = .ok (.aload_n 0, 1) := by decide +kernel
theorem dX11_childAt_25 : decode cX11_childAt 25 = .ok (.getfield 22, 3) := by decide +kernel
theorem dX11_childAt_28 : decode cX11_childAt 28 = .ok (.iload 4, 2) := by decide +kernel
theorem dX11_childAt_30 : decode cX11_childAt 30 = .ok (.iaload, 1) := by decide +kernel
theorem dX11_childAt_31 : decode cX11_childAt 31 = .ok (.iload_n 1, 1) := by decide +kernel
theorem dX11_childAt_32 : decode cX11_childAt 32 = .ok (.if_icmp .ne 30, 3) := by decide +kernel
theorem dX11_childAt_35 : decode cX11_childAt 35 = .ok (.aload_n 0, 1) := by decide +kernel
theorem dX11_childAt_36 : decode cX11_childAt 36 = .ok (.getfield 7, 3) := by decide +kernel
theorem dX11_childAt_39 : decode cX11_childAt 39 = .ok (.iload 4, 2) := by decide +kernel
theorem dX11_childAt_41 : decode cX11_childAt 41 = .ok (.iaload, 1) := by decide +kernel
theorem dX11_childAt_42 : decode cX11_childAt 42 = .ok (.iconst 2, 1) := by decide +kernel
theorem dX11_childAt_43 : decode cX11_childAt 43 = .ok (.if_icmp .eq 19, 3) := by decide +kernel
theorem dX11_childAt_46 : decode cX11_childAt 46 = .ok (.aload_n 0, 1) := by decide +kernel
theorem dX11_childAt_47 : decode cX11_childAt 47 = .ok (.getfield 25, 3) := by decide +kernel
theorem dX11_childAt_50 : decode cX11_childAt 50 = .ok (.iload 4, 2) := by decide +kernel
theorem dX11_childAt_52 : decode cX11_childAt 52 = .ok (.iaload, 1) := by decide +kernel
theorem dX11_childAt_53 : decode cX11_childAt 53 = .ok (.iload_n 2, 1) := by decide +kernel
theorem dX11_childAt_54 : decode cX11_childAt 54 = .ok (.if_icmp .ne 8, 3) := by decide +kernel
theorem dX11_childAt_57 : decode cX11_childAt 57 = .ok (.iload 4, 2) := by decide +kernel
theorem dX11_childAt_59 : decode cX11_childAt 59 = .ok (.goto 4, 3) := by decide +kernel
theorem dX11_childAt_62 : decode cX11_childAt 62 = .ok (.iload_n 3, 1) := by decide +kernel
theorem dX11_childAt_63 : decode cX11_childAt 63 = .ok (.istore_n 3, 1) := by decide +kernel
theorem dX11_childAt_64 : decode cX11_childAt 64 = .ok (.iinc 4 1, 3) := by decide +kernel
theorem dX11_childAt_67 : decode cX11_childAt 67 = .ok (.goto (-62), 3) := by decide +kernel
theorem dX11_childAt_70 : decode cX11_childAt 70 = .ok (.iload_n 3, 1) := by decide +kernel
theorem dX11_childAt_71 : decode cX11_childAt 71 = .ok (.ireturn, 1) := by decide +kernel
abbrev cX11_arrange : ByteArray := prog_13_method_10_code
def yX11_arrange : MethodName := ⟨RX11, "arrange", "()V"⟩
theorem dX11_arrange_0 : decode cX11_arrange 0 = .ok (.aload_n 0, 1) := by decide +kernel
theorem dX11_arrange_1 : decode cX11_arrange 1 = .ok (.iconst 0, 1) := by decide +kernel
theorem dX11_arrange_2 : decode cX11_arrange 2 = .ok (.putfield 173, 3) := by decide +kernel
theorem dX11_arrange_5 : decode cX11_arrange 5 = .ok (.iconst 1, 1) := by decide +kernel
theorem dX11_arrange_6 : decode cX11_arrange 6 = .ok (.istore_n 1, 1) := by decide +kernel
theorem dX11_arrange_7 : decode cX11_arrange 7 = .ok (.aload_n 0, 1) := by decide +kernel
theorem dX11_arrange_8 : decode cX11_arrange 8 = .ok (.getfield 41, 3) := by decide +kernel
theorem dX11_arrange_11 : decode cX11_arrange 11 = .ok (.iconst 0, 1) := by decide +kernel
theorem dX11_arrange_12 : decode cX11_arrange 12 = .ok (.iconst 0, 1) := by decide +kernel
theorem dX11_arrange_13 : decode cX11_arrange 13 = .ok (.iastore, 1) := by decide +kernel
theorem dX11_arrange_14 : decode cX11_arrange 14 = .ok (.iconst 0, 1) := by decide +kernel
theorem dX11_arrange_15 : decode cX11_arrange 15 = .ok (.istore_n 2, 1) := by decide +kernel
theorem dX11_arrange_16 : decode cX11_arrange 16 = .ok (.iload_n 2, 1) := by decide +kernel
theorem dX11_arrange_17 : decode cX11_arrange 17 = .ok (.bipush 60, 2) := by decide +kernel
theorem dX11_arrange_19 : decode cX11_arrange 19 = .ok (.if_icmp .ge 16, 3) := by decide +kernel
theorem dX11_arrange_22 : decode cX11_arrange 22 = .ok (.aload_n 0, 1) := by decide +kernel
theorem dX11_arrange_23 : decode cX11_arrange 23 = .ok (.getfield 38, 3) := by decide +kernel
theorem dX11_arrange_26 : decode cX11_arrange 26 = .ok (.iload_n 2, 1) := by decide +kernel
theorem dX11_arrange_27 : decode cX11_arrange 27 = .ok (.iconst (-1), 1) := by decide +kernel
theorem dX11_arrange_28 : decode cX11_arrange 28 = .ok (.iastore, 1) := by decide +kernel
theorem dX11_arrange_29 : decode cX11_arrange 29 = .ok (.iinc 2 1, 3) := by decide +kernel
theorem dX11_arrange_32 : decode cX11_arrange 32 = .ok (.goto (-16), 3) := by decide +kernel
theorem dX11_arrange_35 : decode cX11_arrange 35 = .ok (.iload_n 1, 1) := by decide +kernel
theorem dX11_arrange_36 : decode cX11_arrange 36 = .ok (.ifCond .le 139, 3) := by decide +kernel
theorem dX11_arrange_39 : decode cX11_arrange 39 = .ok (.iinc 1 (-1), 3) := by decide +kernel
theorem dX11_arrange_42 : decode cX11_arrange 42 = .ok (.aload_n 0, 1) := by decide +kernel
theorem dX11_arrange_43 : decode cX11_arrange 43 = .ok (.getfield 41, 3) := by decide +kernel
theorem dX11_arrange_46 : decode cX11_arrange 46 = .ok (.iload_n 1, 1) := by decide +kernel
theorem dX11_arrange_47 : decode cX11_arrange 47 = .ok (.iaload, 1) := by decide +kernel
theorem dX11_arrange_48 : decode cX11_arrange 48 = .ok (.istore_n 2, 1) := by decide +kernel
theorem dX11_arrange_49 : decode cX11_arrange 49 = .ok (.aload_n 0, 1) := by decide +kernel
theorem dX11_arrange_50 : decode cX11_arrange 50 = .ok (.getfield 35, 3) := by decide +kernel
theorem dX11_arrange_53 : decode cX11_arrange 53 = .ok (.aload_n 0, 1) := by decide +kernel
theorem dX11_arrange_54 : decode cX11_arrange 54 = .ok (.getfield 173, 3) := by decide +kernel
theorem dX11_arrange_57 : decode cX11_arrange 57 = .ok (.iload_n 2, 1) := by decide +kernel
theorem dX11_arrange_58 : decode cX11_arrange 58 = .ok (.iastore, 1) := by decide +kernel
theorem dX11_arrange_59 : decode cX11_arrange 59 = .ok (.aload_n 0, 1) := by decide +kernel
theorem dX11_arrange_60 : decode cX11_arrange 60 = .ok (.getfield 38, 3) := by decide +kernel
theorem dX11_arrange_63 : decode cX11_arrange 63 = .ok (.iload_n 2, 1) := by decide +kernel
theorem dX11_arrange_64 : decode cX11_arrange 64 = .ok (.aload_n 0, 1) := by decide +kernel
theorem dX11_arrange_65 : decode cX11_arrange 65 = .ok (.getfield 173, 3) := by decide +kernel
theorem dX11_arrange_68 : decode cX11_arrange 68 = .ok (.iastore, 1) := by decide +kernel
theorem dX11_arrange_69 : decode cX11_arrange 69 = .ok (.aload_n 0, 1) := by decide +kernel
theorem dX11_arrange_70 : decode cX11_arrange 70 = .ok (.dup, 1) := by decide +kernel
theorem dX11_arrange_71 : decode cX11_arrange 71 = .ok (.getfield 173, 3) := by decide +kernel
theorem dX11_arrange_74 : decode cX11_arrange 74 = .ok (.iconst 1, 1) := by decide +kernel
theorem dX11_arrange_75 : decode cX11_arrange 75 = .ok (.iadd, 1) := by decide +kernel
theorem dX11_arrange_76 : decode cX11_arrange 76 = .ok (.putfield 173, 3) := by decide +kernel
theorem dX11_arrange_79 : decode cX11_arrange 79 = .ok (.iconst 0, 1) := by decide +kernel
theorem dX11_arrange_80 : decode cX11_arrange 80 = .ok (.istore_n 3, 1) := by decide +kernel
theorem dX11_arrange_81 : decode cX11_arrange 81 = .ok (.iload_n 3, 1) := by decide +kernel
theorem dX11_arrange_82 : decode cX11_arrange 82 = .ok (.bipush 8, 2) := by decide +kernel
theorem dX11_arrange_84 : decode cX11_arrange 84 = .ok (.if_icmp .ge 55, 3) := by decide +kernel
theorem dX11_arrange_87 : decode cX11_arrange 87 = .ok (.aload_n 0, 1) := by decide +kernel
theorem dX11_arrange_88 : decode cX11_arrange 88 = .ok (.iload_n 2, 1) := by decide +kernel
theorem dX11_arrange_89 : decode cX11_arrange 89 = .ok (.iload_n 3, 1) := by decide +kernel
theorem dX11_arrange_90 : decode cX11_arrange 90 = .ok (.invokevirtual 176, 3) := by decide +kernel
theorem dX11_arrange_93 : decode cX11_arrange 93 = .ok (.istore 4, 2) := by decide +kernel
theorem dX11_arrange_95 : decode cX11_arrange 95 = .ok (.iload 4, 2) := by decide +kernel
theorem dX11_arrange_97 : decode cX11_arrange 97 = .ok (.iconst (-1), 1) := by decide +kernel
theorem dX11_arrange_98 : decode cX11_arrange 98 = .ok (.if_icmp .eq 35, 3) := by decide +kernel
theorem dX11_arrange_101 : decode cX11_arrange 101 = .ok (.aload_n 0, 1) := by decide +kernel
theorem dX11_arrange_102 : decode cX11_arrange 102 = .ok (.getfield 35, 3) := by decide +kernel
theorem dX11_arrange_105 : decode cX11_arrange 105 = .ok (.aload_n 0, 1) := by decide +kernel
theorem dX11_arrange_106 : decode cX11_arrange 106 = .ok (.getfield 173, 3) := by decide +kernel
theorem dX11_arrange_109 : decode cX11_arrange 109 = .ok (.iload 4, 2) := by decide +kernel
theorem dX11_arrange_111 : decode cX11_arrange 111 = .ok (.iastore, 1) := by decide +kernel
theorem dX11_arrange_112 : decode cX11_arrange 112 = .ok (.aload_n 0, 1) := by decide +kernel
theorem dX11_arrange_113 : decode cX11_arrange 113 = .ok (.getfield 38, 3) := by decide +kernel
theorem dX11_arrange_116 : decode cX11_arrange 116 = .ok (.iload 4, 2) := by decide +kernel
theorem dX11_arrange_118 : decode cX11_arrange 118 = .ok (.aload_n 0, 1) := by decide +kernel
theorem dX11_arrange_119 : decode cX11_arrange 119 = .ok (.getfield 173, 3) := by decide +kernel
theorem dX11_arrange_122 : decode cX11_arrange 122 = .ok (.iastore, 1) := by decide +kernel
theorem dX11_arrange_123 : decode cX11_arrange 123 = .ok (.aload_n 0, 1) := by decide +kernel
theorem dX11_arrange_124 : decode cX11_arrange 124 = .ok (.dup, 1) := by decide +kernel
theorem dX11_arrange_125 : decode cX11_arrange 125 = .ok (.getfield 173, 3) := by decide +kernel
theorem dX11_arrange_128 : decode cX11_arrange 128 = .ok (.iconst 1, 1) := by decide +kernel
theorem dX11_arrange_129 : decode cX11_arrange 129 = .ok (.iadd, 1) := by decide +kernel
theorem dX11_arrange_130 : decode cX11_arrange 130 = .ok (.putfield 173, 3) := by decide +kernel
theorem dX11_arrange_133 : decode cX11_arrange 133 = .ok (.iinc 3 1, 3) := by decide +kernel
theorem dX11_arrange_136 : decode cX11_arrange 136 = .ok (.goto (-55), 3) := by decide +kernel
theorem dX11_arrange_139 : decode cX11_arrange 139 = .ok (.aload_n 0, 1) := by decide +kernel
theorem dX11_arrange_140 : decode cX11_arrange 140 = .ok (.iload_n 2, 1) := by decide +kernel
theorem dX11_arrange_141 : decode cX11_arrange 141 = .ok (.invokevirtual 180, 3) := by decide +kernel
theorem dX11_arrange_144 : decode cX11_arrange 144 = .ok (.iconst 1, 1) := by decide +kernel
theorem dX11_arrange_145 : decode cX11_arrange 145 = .ok (.isub, 1) := by decide +kernel
theorem dX11_arrange_146 : decode cX11_arrange 146 = .ok (.istore_n 3, 1) := by decide +kernel
theorem dX11_arrange_147 : decode cX11_arrange 147 = .ok (.iload_n 3, 1) := by decide +kernel
theorem dX11_arrange_148 : decode cX11_arrange 148 = .ok (.ifCond .lt 24, 3) := by decide +kernel
theorem dX11_arrange_151 : decode cX11_arrange 151 = .ok (.aload_n 0, 1) := by decide +kernel
theorem dX11_arrange_152 : decode cX11_arrange 152 = .ok (.getfield 41, 3) := by decide +kernel
theorem dX11_arrange_155 : decode cX11_arrange 155 = .ok (.iload_n 1, 1) := by decide +kernel
theorem dX11_arrange_156 : decode cX11_arrange 156 = .ok (.aload_n 0, 1) := by decide +kernel
theorem dX11_arrange_157 : decode cX11_arrange 157 = .ok (.iload_n 2, 1) := by decide +kernel
theorem dX11_arrange_158 : decode cX11_arrange 158 = .ok (.iload_n 3, 1) := by decide +kernel
theorem dX11_arrange_159 : decode cX11_arrange 159 = .ok (.invokevirtual 184, 3) := by decide +kernel
theorem dX11_arrange_162 : decode cX11_arrange 162 = .ok (.iastore, 1) := by decide +kernel
theorem dX11_arrange_163 : decode cX11_arrange 163 = .ok (.iinc 1 1, 3) := by decide +kernel
theorem dX11_arrange_166 : decode cX11_arrange 166 = .ok (.iinc 3 (-1), 3) := by decide +kernel
theorem dX11_arrange_169 : decode cX11_arrange 169 = .ok (.goto (-22), 3) := by decide +kernel
theorem dX11_arrange_172 : decode cX11_arrange 172 = .ok (.goto (-137), 3) := by decide +kernel
theorem dX11_arrange_175 : decode cX11_arrange 175 = .ok (.return_, 1) := by decide +kernel
abbrev cX11_init : ByteArray := prog_13_method_1_code
def yX11_init : MethodName := ⟨RX11, "<init>", "()V"⟩
theorem dX11_init_0 : decode cX11_init 0 = .ok (.aload_n 0, 1) := by decide +kernel
theorem dX11_init_1 : decode cX11_init 1 = .ok (.invokespecial 1, 3) := by decide +kernel
theorem dX11_init_4 : decode cX11_init 4 = .ok (.aload_n 0, 1) := by decide +kernel
theorem dX11_init_5 : decode cX11_init 5 = .ok (.bipush 60, 2) := by decide +kernel
theorem dX11_init_7 : decode cX11_init 7 = .ok (.newarray .int, 2) := by decide +kernel
theorem dX11_init_9 : decode cX11_init 9 = .ok (.putfield 7, 3) := by decide +kernel
theorem dX11_init_12 : decode cX11_init 12 = .ok (.aload_n 0, 1) := by decide +kernel
theorem dX11_init_13 : decode cX11_init 13 = .ok (.bipush 60, 2) := by decide +kernel
theorem dX11_init_15 : decode cX11_init 15 = .ok (.newarray .int, 2) := by decide +kernel
theorem dX11_init_17 : decode cX11_init 17 = .ok (.putfield 13, 3) := by decide +kernel
theorem dX11_init_20 : decode cX11_init 20 = .ok (.aload_n 0, 1) := by decide +kernel
theorem dX11_init_21 : decode cX11_init 21 = .ok (.bipush 60, 2) := by decide +kernel
theorem dX11_init_23 : decode cX11_init 23 = .ok (.newarray .int, 2) := by decide +kernel
theorem dX11_init_25 : decode cX11_init 25 = .ok (.putfield 16, 3) := by decide +kernel
theorem dX11_init_28 : decode cX11_init 28 = .ok (.aload_n 0, 1) := by decide +kernel
theorem dX11_init_29 : decode cX11_init 29 = .ok (.bipush 60, 2) := by decide +kernel
theorem dX11_init_31 : decode cX11_init 31 = .ok (.newarray .int, 2) := by decide +kernel
theorem dX11_init_33 : decode cX11_init 33 = .ok (.putfield 19, 3) := by decide +kernel
theorem dX11_init_36 : decode cX11_init 36 = .ok (.aload_n 0, 1) := by decide +kernel
theorem dX11_init_37 : decode cX11_init 37 = .ok (.bipush 60, 2) := by decide +kernel
theorem dX11_init_39 : decode cX11_init 39 = .ok (.newarray .int, 2) := by decide +kernel
theorem dX11_init_41 : decode cX11_init 41 = .ok (.putfield 22, 3) := by decide +kernel
theorem dX11_init_44 : decode cX11_init 44 = .ok (.aload_n 0, 1) := by decide +kernel
theorem dX11_init_45 : decode cX11_init 45 = .ok (.bipush 60, 2) := by decide +kernel
theorem dX11_init_47 : decode cX11_init 47 = .ok (.newarray .int, 2) := by decide +kernel
theorem dX11_init_49 : decode cX11_init 49 = .ok (.putfield 25, 3) := by decide +kernel
theorem dX11_init_52 : decode cX11_init 52 = .ok (.aload_n 0, 1) := by decide +kernel
theorem dX11_init_53 : decode cX11_init 53 = .ok (.bipush 60, 2) := by decide +kernel
theorem dX11_init_55 : decode cX11_init 55 = .ok (.newarray .int, 2) := by decide +kernel
theorem dX11_init_57 : decode cX11_init 57 = .ok (.putfield 28, 3) := by decide +kernel
theorem dX11_init_60 : decode cX11_init 60 = .ok (.aload_n 0, 1) := by decide +kernel
theorem dX11_init_61 : decode cX11_init 61 = .ok (.bipush 60, 2) := by decide +kernel
theorem dX11_init_63 : decode cX11_init 63 = .ok (.newarray .boolean, 2) := by decide +kernel
theorem dX11_init_65 : decode cX11_init 65 = .ok (.putfield 31, 3) := by decide +kernel
theorem dX11_init_68 : decode cX11_init 68 = .ok (.aload_n 0, 1) := by decide +kernel
theorem dX11_init_69 : decode cX11_init 69 = .ok (.bipush 60, 2) := by decide +kernel
theorem dX11_init_71 : decode cX11_init 71 = .ok (.newarray .int, 2) := by decide +kernel
theorem dX11_init_73 : decode cX11_init 73 = .ok (.putfield 35, 3) := by decide +kernel
theorem dX11_init_76 : decode cX11_init 76 = .ok (.aload_n 0, 1) := by decide +kernel
theorem dX11_init_77 : decode cX11_init 77 = .ok (.bipush 60, 2) := by decide +kernel
theorem dX11_init_79 : decode cX11_init 79 = .ok (.newarray .int, 2) := by decide +kernel
theorem dX11_init_81 : decode cX11_init 81 = .ok (.putfield 38, 3) := by decide +kernel
theorem dX11_init_84 : decode cX11_init 84 = .ok (.aload_n 0, 1) := by decide +kernel
theorem dX11_init_85 : decode cX11_init 85 = .ok (.bipush 64, 2) := by decide +kernel
theorem dX11_init_87 : decode cX11_init 87 = .ok (.newarray .int, 2) := by decide +kernel
theorem dX11_init_89 : decode cX11_init 89 = .ok (.putfield 41, 3) := by decide +kernel
theorem dX11_init_92 : decode cX11_init 92 = .ok (.aload_n 0, 1) := by decide +kernel
theorem dX11_init_93 : decode cX11_init 93 = .ok (.sipush 140, 3) := by decide +kernel
theorem dX11_init_96 : decode cX11_init 96 = .ok (.newarray .int, 2) := by decide +kernel
theorem dX11_init_98 : decode cX11_init 98 = .ok (.putfield 44, 3) := by decide +kernel
theorem dX11_init_101 : decode cX11_init 101 = .ok (.aload_n 0, 1) := by decide +kernel
theorem dX11_init_102 : decode cX11_init 102 = .ok (.bipush 60, 2) := by decide +kernel
theorem dX11_init_104 : decode cX11_init 104 = .ok (.newarray .int, 2) := by decide +kernel
theorem dX11_init_106 : decode cX11_init 106 = .ok (.putfield 47, 3) := by decide +kernel
theorem dX11_init_109 : decode cX11_init 109 = .ok (.aload_n 0, 1) := by decide +kernel
theorem dX11_init_110 : decode cX11_init 110 = .ok (.bipush 60, 2) := by decide +kernel
theorem dX11_init_112 : decode cX11_init 112 = .ok (.newarray .int, 2) := by decide +kernel
theorem dX11_init_114 : decode cX11_init 114 = .ok (.putfield 50, 3) := by decide +kernel
theorem dX11_init_117 : decode cX11_init 117 = .ok (.aload_n 0, 1) := by decide +kernel
theorem dX11_init_118 : decode cX11_init 118 = .ok (.bipush 60, 2) := by decide +kernel
theorem dX11_init_120 : decode cX11_init 120 = .ok (.newarray .int, 2) := by decide +kernel
theorem dX11_init_122 : decode cX11_init 122 = .ok (.putfield 53, 3) := by decide +kernel
theorem dX11_init_125 : decode cX11_init 125 = .ok (.aload_n 0, 1) := by decide +kernel
theorem dX11_init_126 : decode cX11_init 126 = .ok (.bipush 60, 2) := by decide +kernel
theorem dX11_init_128 : decode cX11_init 128 = .ok (.newarray .int, 2) := by decide +kernel
theorem dX11_init_130 : decode cX11_init 130 = .ok (.putfield 56, 3) := by decide +kernel
theorem dX11_init_133 : decode cX11_init 133 = .ok (.aload_n 0, 1) := by decide +kernel
theorem dX11_init_134 : decode cX11_init 134 = .ok (.bipush 60, 2) := by decide +kernel
theorem dX11_init_136 : decode cX11_init 136 = .ok (.newarray .int, 2) := by decide +kernel
theorem dX11_init_138 : decode cX11_init 138 = .ok (.putfield 59, 3) := by decide +kernel
theorem dX11_init_141 : decode cX11_init 141 = .ok (.aload_n 0, 1) := by decide +kernel
theorem dX11_init_142 : decode cX11_init 142 = .ok (.bipush 60, 2) := by decide +kernel
theorem dX11_init_144 : decode cX11_init 144 = .ok (.newarray .boolean, 2) := by decide +kernel
theorem dX11_init_146 : decode cX11_init 146 = .ok (.putfield 62, 3) := by decide +kernel
theorem dX11_init_149 : decode cX11_init 149 = .ok (.aload_n 0, 1) := by decide +kernel
theorem dX11_init_150 : decode cX11_init 150 = .ok (.bipush 60, 2) := by decide +kernel
theorem dX11_init_152 : decode cX11_init 152 = .ok (.newarray .boolean, 2) := by decide +kernel
theorem dX11_init_154 : decode cX11_init 154 = .ok (.putfield 65, 3) := by decide +kernel
theorem dX11_init_157 : decode cX11_init 157 = .ok (.aload_n 0, 1) := by decide +kernel
theorem dX11_init_158 : decode cX11_init 158 = .ok (.bipush 20, 2) := by decide +kernel
theorem dX11_init_160 : decode cX11_init 160 = .ok (.newarray .int, 2) := by decide +kernel
theorem dX11_init_162 : decode cX11_init 162 = .ok (.putfield 68, 3) := by decide +kernel
theorem dX11_init_165 : decode cX11_init 165 = .ok (.aload_n 0, 1) := by decide +kernel
theorem dX11_init_166 : decode cX11_init 166 = .ok (.sipush 300, 3) := by decide +kernel
theorem dX11_init_169 : decode cX11_init 169 = .ok (.newarray .int, 2) := by decide +kernel
theorem dX11_init_171 : decode cX11_init 171 = .ok (.putfield 71, 3) := by decide +kernel
theorem dX11_init_174 : decode cX11_init 174 = .ok (.aload_n 0, 1) := by decide +kernel
theorem dX11_init_175 : decode cX11_init 175 = .ok (.bipush 100, 2) := by decide +kernel
theorem dX11_init_177 : decode cX11_init 177 = .ok (.newarray .int, 2) := by decide +kernel
theorem dX11_init_179 : decode cX11_init 179 = .ok (.putfield 74, 3) := by decide +kernel
theorem dX11_init_182 : decode cX11_init 182 = .ok (.aload_n 0, 1) := by decide +kernel
theorem dX11_init_183 : decode cX11_init 183 = .ok (.sipush 800, 3) := by decide +kernel
theorem dX11_init_186 : decode cX11_init 186 = .ok (.newarray .int, 2) := by decide +kernel
theorem dX11_init_188 : decode cX11_init 188 = .ok (.putfield 77, 3) := by decide +kernel
theorem dX11_init_191 : decode cX11_init 191 = .ok (.aload_n 0, 1) := by decide +kernel
theorem dX11_init_192 : decode cX11_init 192 = .ok (.sipush 1200, 3) := by decide +kernel
theorem dX11_init_195 : decode cX11_init 195 = .ok (.newarray .long, 2) := by decide +kernel
theorem dX11_init_197 : decode cX11_init 197 = .ok (.putfield 80, 3) := by decide +kernel
theorem dX11_init_200 : decode cX11_init 200 = .ok (.aload_n 0, 1) := by decide +kernel
theorem dX11_init_201 : decode cX11_init 201 = .ok (.sipush 300, 3) := by decide +kernel
theorem dX11_init_204 : decode cX11_init 204 = .ok (.newarray .long, 2) := by decide +kernel
theorem dX11_init_206 : decode cX11_init 206 = .ok (.putfield 84, 3) := by decide +kernel
theorem dX11_init_209 : decode cX11_init 209 = .ok (.aload_n 0, 1) := by decide +kernel
theorem dX11_init_210 : decode cX11_init 210 = .ok (.iconst 3, 1) := by decide +kernel
theorem dX11_init_211 : decode cX11_init 211 = .ok (.newarray .int, 2) := by decide +kernel
theorem dX11_init_213 : decode cX11_init 213 = .ok (.putfield 87, 3) := by decide +kernel
theorem dX11_init_216 : decode cX11_init 216 = .ok (.aload_n 0, 1) := by decide +kernel
theorem dX11_init_217 : decode cX11_init 217 = .ok (.bipush 60, 2) := by decide +kernel
theorem dX11_init_219 : decode cX11_init 219 = .ok (.newarray .int, 2) := by decide +kernel
theorem dX11_init_221 : decode cX11_init 221 = .ok (.putfield 90, 3) := by decide +kernel
theorem dX11_init_224 : decode cX11_init 224 = .ok (.aload_n 0, 1) := by decide +kernel
theorem dX11_init_225 : decode cX11_init 225 = .ok (.bipush 6, 2) := by decide +kernel
theorem dX11_init_227 : decode cX11_init 227 = .ok (.newarray .int, 2) := by decide +kernel
theorem dX11_init_229 : decode cX11_init 229 = .ok (.putfield 93, 3) := by decide +kernel
theorem dX11_init_232 : decode cX11_init 232 = .ok (.aload_n 0, 1) := by decide +kernel
theorem dX11_init_233 : decode cX11_init 233 = .ok (.bipush 6, 2) := by decide +kernel
theorem dX11_init_235 : decode cX11_init 235 = .ok (.newarray .boolean, 2) := by decide +kernel
theorem dX11_init_237 : decode cX11_init 237 = .ok (.putfield 96, 3) := by decide +kernel
theorem dX11_init_240 : decode cX11_init 240 = .ok (.aload_n 0, 1) := by decide +kernel
theorem dX11_init_241 : decode cX11_init 241 = .ok (.bipush 48, 2) := by decide +kernel
theorem dX11_init_243 : decode cX11_init 243 = .ok (.newarray .int, 2) := by decide +kernel
theorem dX11_init_245 : decode cX11_init 245 = .ok (.putfield 99, 3) := by decide +kernel
theorem dX11_init_248 : decode cX11_init 248 = .ok (.aload_n 0, 1) := by decide +kernel
theorem dX11_init_249 : decode cX11_init 249 = .ok (.bipush 6, 2) := by decide +kernel
theorem dX11_init_251 : decode cX11_init 251 = .ok (.newarray .int, 2) := by decide +kernel
theorem dX11_init_253 : decode cX11_init 253 = .ok (.putfield 102, 3) := by decide +kernel
theorem dX11_init_256 : decode cX11_init 256 = .ok (.aload_n 0, 1) := by decide +kernel
theorem dX11_init_257 : decode cX11_init 257 = .ok (.sipush 144, 3) := by decide +kernel
theorem dX11_init_260 : decode cX11_init 260 = .ok (.newarray .int, 2) := by decide +kernel
theorem dX11_init_262 : decode cX11_init 262 = .ok (.putfield 105, 3) := by decide +kernel
theorem dX11_init_265 : decode cX11_init 265 = .ok (.aload_n 0, 1) := by decide +kernel
theorem dX11_init_266 : decode cX11_init 266 = .ok (.bipush 60, 2) := by decide +kernel
theorem dX11_init_268 : decode cX11_init 268 = .ok (.newarray .int, 2) := by decide +kernel
theorem dX11_init_270 : decode cX11_init 270 = .ok (.putfield 108, 3) := by decide +kernel
theorem dX11_init_273 : decode cX11_init 273 = .ok (.aload_n 0, 1) := by decide +kernel
theorem dX11_init_274 : decode cX11_init 274 = .ok (.sipush 5120, 3) := by decide +kernel
theorem dX11_init_277 : decode cX11_init 277 = .ok (.newarray .int, 2) := by decide +kernel
theorem dX11_init_279 : decode cX11_init 279 = .ok (.putfield 111, 3) := by decide +kernel
theorem dX11_init_282 : decode cX11_init 282 = .ok (.aload_n 0, 1) := by decide +kernel
theorem dX11_init_283 : decode cX11_init 283 = .ok (.bipush 8, 2) := by decide +kernel
theorem dX11_init_285 : decode cX11_init 285 = .ok (.newarray .boolean, 2) := by decide +kernel
theorem dX11_init_287 : decode cX11_init 287 = .ok (.putfield 114, 3) := by decide +kernel
theorem dX11_init_290 : decode cX11_init 290 = .ok (.aload_n 0, 1) := by decide +kernel
theorem dX11_init_291 : decode cX11_init 291 = .ok (.iconst 5, 1) := by decide +kernel
theorem dX11_init_292 : decode cX11_init 292 = .ok (.newarray .int, 2) := by decide +kernel
theorem dX11_init_294 : decode cX11_init 294 = .ok (.putfield 117, 3) := by decide +kernel
theorem dX11_init_297 : decode cX11_init 297 = .ok (.aload_n 0, 1) := by decide +kernel
theorem dX11_init_298 : decode cX11_init 298 = .ok (.iconst 5, 1) := by decide +kernel
theorem dX11_init_299 : decode cX11_init 299 = .ok (.newarray .int, 2) := by decide +kernel
theorem dX11_init_301 : decode cX11_init 301 = .ok (.putfield 120, 3) := by decide +kernel
theorem dX11_init_304 : decode cX11_init 304 = .ok (.aload_n 0, 1) := by decide +kernel
theorem dX11_init_305 : decode cX11_init 305 = .ok (.iconst 5, 1) := by decide +kernel
theorem dX11_init_306 : decode cX11_init 306 = .ok (.newarray .long, 2) := by decide +kernel
theorem dX11_init_308 : decode cX11_init 308 = .ok (.putfield 123, 3) := by decide +kernel
theorem dX11_init_311 : decode cX11_init 311 = .ok (.aload_n 0, 1) := by decide +kernel
theorem dX11_init_312 : decode cX11_init 312 = .ok (.sipush 360, 3) := by decide +kernel
theorem dX11_init_315 : decode cX11_init 315 = .ok (.newarray .boolean, 2) := by decide +kernel
theorem dX11_init_317 : decode cX11_init 317 = .ok (.putfield 126, 3) := by decide +kernel
theorem dX11_init_320 : decode cX11_init 320 = .ok (.aload_n 0, 1) := by decide +kernel
theorem dX11_init_321 : decode cX11_init 321 = .ok (.sipush 360, 3) := by decide +kernel
theorem dX11_init_324 : decode cX11_init 324 = .ok (.newarray .int, 2) := by decide +kernel
theorem dX11_init_326 : decode cX11_init 326 = .ok (.putfield 129, 3) := by decide +kernel
theorem dX11_init_329 : decode cX11_init 329 = .ok (.aload_n 0, 1) := by decide +kernel
theorem dX11_init_330 : decode cX11_init 330 = .ok (.sipush 360, 3) := by decide +kernel
theorem dX11_init_333 : decode cX11_init 333 = .ok (.newarray .int, 2) := by decide +kernel
theorem dX11_init_335 : decode cX11_init 335 = .ok (.putfield 132, 3) := by decide +kernel
theorem dX11_init_338 : decode cX11_init 338 = .ok (.aload_n 0, 1) := by decide +kernel
theorem dX11_init_339 : decode cX11_init 339 = .ok (.sipush 360, 3) := by decide +kernel
theorem dX11_init_342 : decode cX11_init 342 = .ok (.newarray .int, 2) := by decide +kernel
theorem dX11_init_344 : decode cX11_init 344 = .ok (.putfield 135, 3) := by decide +kernel
theorem dX11_init_347 : decode cX11_init 347 = .ok (.aload_n 0, 1) := by decide +kernel
theorem dX11_init_348 : decode cX11_init 348 = .ok (.sipush 360, 3) := by decide +kernel
theorem dX11_init_351 : decode cX11_init 351 = .ok (.newarray .int, 2) := by decide +kernel
theorem dX11_init_353 : decode cX11_init 353 = .ok (.putfield 138, 3) := by decide +kernel
theorem dX11_init_356 : decode cX11_init 356 = .ok (.aload_n 0, 1) := by decide +kernel
theorem dX11_init_357 : decode cX11_init 357 = .ok (.sipush 360, 3) := by decide +kernel
theorem dX11_init_360 : decode cX11_init 360 = .ok (.newarray .int, 2) := by decide +kernel
theorem dX11_init_362 : decode cX11_init 362 = .ok (.putfield 141, 3) := by decide +kernel
theorem dX11_init_365 : decode cX11_init 365 = .ok (.aload_n 0, 1) := by decide +kernel
theorem dX11_init_366 : decode cX11_init 366 = .ok (.iconst 2, 1) := by decide +kernel
theorem dX11_init_367 : decode cX11_init 367 = .ok (.newarray .int, 2) := by decide +kernel
theorem dX11_init_369 : decode cX11_init 369 = .ok (.putfield 144, 3) := by decide +kernel
theorem dX11_init_372 : decode cX11_init 372 = .ok (.aload_n 0, 1) := by decide +kernel
theorem dX11_init_373 : decode cX11_init 373 = .ok (.bipush 122, 2) := by decide +kernel
theorem dX11_init_375 : decode cX11_init 375 = .ok (.newarray .int, 2) := by decide +kernel
theorem dX11_init_377 : decode cX11_init 377 = .ok (.putfield 147, 3) := by decide +kernel
theorem dX11_init_380 : decode cX11_init 380 = .ok (.aload_n 0, 1) := by decide +kernel
theorem dX11_init_381 : decode cX11_init 381 = .ok (.bipush 122, 2) := by decide +kernel
theorem dX11_init_383 : decode cX11_init 383 = .ok (.newarray .int, 2) := by decide +kernel
theorem dX11_init_385 : decode cX11_init 385 = .ok (.putfield 150, 3) := by decide +kernel
theorem dX11_init_388 : decode cX11_init 388 = .ok (.aload_n 0, 1) := by decide +kernel
theorem dX11_init_389 : decode cX11_init 389 = .ok (.sipush 3721, 3) := by decide +kernel
theorem dX11_init_392 : decode cX11_init 392 = .ok (.newarray .int, 2) := by decide +kernel
theorem dX11_init_394 : decode cX11_init 394 = .ok (.putfield 153, 3) := by decide +kernel
theorem dX11_init_397 : decode cX11_init 397 = .ok (.aload_n 0, 1) := by decide +kernel
theorem dX11_init_398 : decode cX11_init 398 = .ok (.sipush 3721, 3) := by decide +kernel
theorem dX11_init_401 : decode cX11_init 401 = .ok (.newarray .int, 2) := by decide +kernel
theorem dX11_init_403 : decode cX11_init 403 = .ok (.putfield 156, 3) := by decide +kernel
theorem dX11_init_406 : decode cX11_init 406 = .ok (.aload_n 0, 1) := by decide +kernel
theorem dX11_init_407 : decode cX11_init 407 = .ok (.iconst 1, 1) := by decide +kernel
theorem dX11_init_408 : decode cX11_init 408 = .ok (.putfield 159, 3) := by decide +kernel
theorem dX11_init_411 : decode cX11_init 411 = .ok (.aload_n 0, 1) := by decide +kernel
theorem dX11_init_412 : decode cX11_init 412 = .ok (.getfield 31, 3) := by decide +kernel
theorem dX11_init_415 : decode cX11_init 415 = .ok (.iconst 0, 1) := by decide +kernel
theorem dX11_init_416 : decode cX11_init 416 = .ok (.iconst 1, 1) := by decide +kernel
theorem dX11_init_417 : decode cX11_init 417 = .ok (.bastore, 1) := by decide +kernel
theorem dX11_init_418 : decode cX11_init 418 = .ok (.aload_n 0, 1) := by decide +kernel
theorem dX11_init_419 : decode cX11_init 419 = .ok (.getfield 7, 3) := by decide +kernel
theorem dX11_init_422 : decode cX11_init 422 = .ok (.iconst 0, 1) := by decide +kernel
theorem dX11_init_423 : decode cX11_init 423 = .ok (.iconst 0, 1) := by decide +kernel
theorem dX11_init_424 : decode cX11_init 424 = .ok (.iastore, 1) := by decide +kernel
theorem dX11_init_425 : decode cX11_init 425 = .ok (.aload_n 0, 1) := by decide +kernel
theorem dX11_init_426 : decode cX11_init 426 = .ok (.getfield 16, 3) := by decide +kernel
theorem dX11_init_429 : decode cX11_init 429 = .ok (.iconst 0, 1) := by decide +kernel
theorem dX11_init_430 : decode cX11_init 430 = .ok (.iconst (-1), 1) := by decide +kernel
theorem dX11_init_431 : decode cX11_init 431 = .ok (.iastore, 1) := by decide +kernel
theorem dX11_init_432 : decode cX11_init 432 = .ok (.aload_n 0, 1) := by decide +kernel
theorem dX11_init_433 : decode cX11_init 433 = .ok (.getfield 19, 3) := by decide +kernel
theorem dX11_init_436 : decode cX11_init 436 = .ok (.iconst 0, 1) := by decide +kernel
theorem dX11_init_437 : decode cX11_init 437 = .ok (.iconst (-1), 1) := by decide +kernel
theorem dX11_init_438 : decode cX11_init 438 = .ok (.iastore, 1) := by decide +kernel
theorem dX11_init_439 : decode cX11_init 439 = .ok (.aload_n 0, 1) := by decide +kernel
theorem dX11_init_440 : decode cX11_init 440 = .ok (.getfield 22, 3) := by decide +kernel
theorem dX11_init_443 : decode cX11_init 443 = .ok (.iconst 0, 1) := by decide +kernel
theorem dX11_init_444 : decode cX11_init 444 = .ok (.iconst (-1), 1) := by decide +kernel
theorem dX11_init_445 : decode cX11_init 445 = .ok (.iastore, 1) := by decide +kernel
theorem dX11_init_446 : decode cX11_init 446 = .ok (.aload_n 0, 1) := by decide +kernel
theorem dX11_init_447 : decode cX11_init 447 = .ok (.getfield 28, 3) := by decide +kernel
theorem dX11_init_450 : decode cX11_init 450 = .ok (.iconst 0, 1) := by decide +kernel
theorem dX11_init_451 : decode cX11_init 451 = .ok (.bipush 16, 2) := by decide +kernel
theorem dX11_init_453 : decode cX11_init 453 = .ok (.iastore, 1) := by decide +kernel
theorem dX11_init_454 : decode cX11_init 454 = .ok (.iconst 0, 1) := by decide +kernel
theorem dX11_init_455 : decode cX11_init 455 = .ok (.istore_n 1, 1) := by decide +kernel
theorem dX11_init_456 : decode cX11_init 456 = .ok (.iload_n 1, 1) := by decide +kernel
theorem dX11_init_457 : decode cX11_init 457 = .ok (.bipush 6, 2) := by decide +kernel
theorem dX11_init_459 : decode cX11_init 459 = .ok (.if_icmp .ge 23, 3) := by decide +kernel
theorem dX11_init_462 : decode cX11_init 462 = .ok (.aload_n 0, 1) := by decide +kernel
theorem dX11_init_463 : decode cX11_init 463 = .ok (.getfield 93, 3) := by decide +kernel
theorem dX11_init_466 : decode cX11_init 466 = .ok (.iload_n 1, 1) := by decide +kernel
theorem dX11_init_467 : decode cX11_init 467 = .ok (.iconst (-1), 1) := by decide +kernel
theorem dX11_init_468 : decode cX11_init 468 = .ok (.iastore, 1) := by decide +kernel
theorem dX11_init_469 : decode cX11_init 469 = .ok (.aload_n 0, 1) := by decide +kernel
theorem dX11_init_470 : decode cX11_init 470 = .ok (.getfield 102, 3) := by decide +kernel
theorem dX11_init_473 : decode cX11_init 473 = .ok (.iload_n 1, 1) := by decide +kernel
theorem dX11_init_474 : decode cX11_init 474 = .ok (.iconst 1, 1) := by decide +kernel
theorem dX11_init_475 : decode cX11_init 475 = .ok (.iastore, 1) := by decide +kernel
theorem dX11_init_476 : decode cX11_init 476 = .ok (.iinc 1 1, 3) := by decide +kernel
theorem dX11_init_479 : decode cX11_init 479 = .ok (.goto (-23), 3) := by decide +kernel
theorem dX11_init_482 : decode cX11_init 482 = .ok (.aload_n 0, 1) := by decide +kernel
theorem dX11_init_483 : decode cX11_init 483 = .ok (.invokevirtual 163, 3) := by decide +kernel
theorem dX11_init_486 : decode cX11_init 486 = .ok (.return_, 1) := by decide +kernel
abbrev cX11_thrown : ByteArray := prog_13_method_2_code
def yX11_thrown : MethodName := ⟨RX11, "thrown", "()I"⟩
theorem dX11_thrown_0 : decode cX11_thrown 0 = .ok (.aload_n 0, 1) := by decide +kernel
theorem dX11_thrown_1 : decode cX11_thrown 1 = .ok (.getfield 166, 3) := by decide +kernel
theorem dX11_thrown_4 : decode cX11_thrown 4 = .ok (.ireturn, 1) := by decide +kernel
abbrev cX11_refused : ByteArray := prog_13_method_3_code
def yX11_refused : MethodName := ⟨RX11, "refused", "(I)Z"⟩
theorem dX11_refused_0 : decode cX11_refused 0 = .ok (.aload_n 0, 1) := by decide +kernel
theorem dX11_refused_1 : decode cX11_refused 1 = .ok (.iload_n 1, 1) := by decide +kernel
theorem dX11_refused_2 : decode cX11_refused 2 = .ok (.putfield 166, 3) := by decide +kernel
theorem dX11_refused_5 : decode cX11_refused 5 = .ok (.iload_n 1, 1) := by decide +kernel
theorem dX11_refused_6 : decode cX11_refused 6 = .ok (.ifCond .eq 7, 3) := by decide +kernel
theorem dX11_refused_9 : decode cX11_refused 9 = .ok (.iconst 1, 1) := by decide +kernel
theorem dX11_refused_10 : decode cX11_refused 10 = .ok (.goto 4, 3) := by decide +kernel
theorem dX11_refused_13 : decode cX11_refused 13 = .ok (.iconst 0, 1) := by decide +kernel
theorem dX11_refused_14 : decode cX11_refused 14 = .ok (.ireturn, 1) := by decide +kernel
abbrev cX11_fine : ByteArray := prog_13_method_4_code
def yX11_fine : MethodName := ⟨RX11, "fine", "(I)I"⟩
theorem dX11_fine_0 : decode cX11_fine 0 = .ok (.aload_n 0, 1) := by decide +kernel
theorem dX11_fine_1 : decode cX11_fine 1 = .ok (.iconst 0, 1) := by decide +kernel
theorem dX11_fine_2 : decode cX11_fine 2 = .ok (.putfield 166, 3) := by decide +kernel
theorem dX11_fine_5 : decode cX11_fine 5 = .ok (.iload_n 1, 1) := by decide +kernel
theorem dX11_fine_6 : decode cX11_fine 6 = .ok (.ireturn, 1) := by decide +kernel
abbrev cX11_in : ByteArray := prog_13_method_5_code
def yX11_in : MethodName := ⟨RX11, "in", "(III)Z"⟩
theorem dX11_in_0 : decode cX11_in 0 = .ok (.iload_n 0, 1) := by decide +kernel
theorem dX11_in_1 : decode cX11_in 1 = .ok (.iload_n 1, 1) := by decide +kernel
theorem dX11_in_2 : decode cX11_in 2 = .ok (.if_icmp .lt 12, 3) := by decide +kernel
theorem dX11_in_5 : decode cX11_in 5 = .ok (.iload_n 0, 1) := by decide +kernel
theorem dX11_in_6 : decode cX11_in 6 = .ok (.iload_n 2, 1) := by decide +kernel
theorem dX11_in_7 : decode cX11_in 7 = .ok (.if_icmp .gt 7, 3) := by decide +kernel
theorem dX11_in_10 : decode cX11_in 10 = .ok (.iconst 1, 1) := by decide +kernel
theorem dX11_in_11 : decode cX11_in 11 = .ok (.goto 4, 3) := by decide +kernel
theorem dX11_in_14 : decode cX11_in 14 = .ok (.iconst 0, 1) := by decide +kernel
theorem dX11_in_15 : decode cX11_in 15 = .ok (.ireturn, 1) := by decide +kernel
abbrev cX11_isNode : ByteArray := prog_13_method_6_code
def yX11_isNode : MethodName := ⟨RX11, "isNode", "(I)Z"⟩
theorem dX11_isNode_0 : decode cX11_isNode 0 = .ok (.iload_n 1, 1) := by decide +kernel
theorem dX11_isNode_1 : decode cX11_isNode 1 = .ok (.iconst 0, 1) := by decide +kernel
theorem dX11_isNode_2 : decode cX11_isNode 2 = .ok (.aload_n 0, 1) := by decide +kernel
theorem dX11_isNode_3 : decode cX11_isNode 3 = .ok (.getfield 159, 3) := by decide +kernel
theorem dX11_isNode_6 : decode cX11_isNode 6 = .ok (.iconst 1, 1) := by decide +kernel
theorem dX11_isNode_7 : decode cX11_isNode 7 = .ok (.isub, 1) := by decide +kernel
theorem dX11_isNode_8 : decode cX11_isNode 8 = .ok (.invokestatic 169, 3) := by decide +kernel
theorem dX11_isNode_11 : decode cX11_isNode 11 = .ok (.ifCond .eq 16, 3) := by decide +kernel
theorem dX11_isNode_14 : decode cX11_isNode 14 = .ok (.aload_n 0, 1) := by decide +kernel
theorem dX11_isNode_15 : decode cX11_isNode 15 = .ok (.getfield 31, 3) := by decide +kernel
theorem dX11_isNode_18 : decode cX11_isNode 18 = .ok (.iload_n 1, 1) := by decide +kernel
theorem dX11_isNode_19 : decode cX11_isNode 19 = .ok (.baload, 1) := by decide +kernel
theorem dX11_isNode_20 : decode cX11_isNode 20 = .ok (.ifCond .eq 7, 3) := by decide +kernel
theorem dX11_isNode_23 : decode cX11_isNode 23 = .ok (.iconst 1, 1) := by decide +kernel
theorem dX11_isNode_24 : decode cX11_isNode 24 = .ok (.goto 4, 3) := by decide +kernel
theorem dX11_isNode_27 : decode cX11_isNode 27 = .ok (.iconst 0, 1) := by decide +kernel
theorem dX11_isNode_28 : decode cX11_isNode 28 = .ok (.ireturn, 1) := by decide +kernel
abbrev cX11_isBelow : ByteArray := prog_13_method_11_code
def yX11_isBelow : MethodName := ⟨RX11, "isBelow", "(II)Z"⟩
theorem dX11_isBelow_0 : decode cX11_isBelow 0 = .ok (.aload_n 0, 1) := by decide +kernel
theorem dX11_isBelow_1 : decode cX11_isBelow 1 = .ok (.getfield 22, 3) := by decide +kernel
theorem dX11_isBelow_4 : decode cX11_isBelow 4 = .ok (.iload_n 1, 1) := by decide +kernel
theorem dX11_isBelow_5 : decode cX11_isBelow 5 = .ok (.iaload, 1) := by decide +kernel
theorem dX11_isBelow_6 : decode cX11_isBelow 6 = .ok (.istore_n 3, 1) := by decide +kernel
theorem dX11_isBelow_7 : decode cX11_isBelow 7 = .ok (.iload_n 3, 1) := by decide +kernel
theorem dX11_isBelow_8 : decode cX11_isBelow 8 = .ok (.iconst (-1), 1) := by decide +kernel
theorem dX11_isBelow_9 : decode cX11_isBelow 9 = .ok (.if_icmp .eq 18, 3) := by decide +kernel
theorem dX11_isBelow_12 : decode cX11_isBelow 12 = .ok (.iload_n 3, 1) := by decide +kernel
theorem dX11_isBelow_13 : decode cX11_isBelow 13 = .ok (.iload_n 2, 1) := by decide +kernel
theorem dX11_isBelow_14 : decode cX11_isBelow 14 = .ok (.if_icmp .eq 13, 3) := by decide +kernel
theorem dX11_isBelow_17 : decode cX11_isBelow 17 = .ok (.aload_n 0, 1) := by decide +kernel
theorem dX11_isBelow_18 : decode cX11_isBelow 18 = .ok (.getfield 22, 3) := by decide +kernel
theorem dX11_isBelow_21 : decode cX11_isBelow 21 = .ok (.iload_n 3, 1) := by decide +kernel
theorem dX11_isBelow_22 : decode cX11_isBelow 22 = .ok (.iaload, 1) := by decide +kernel
theorem dX11_isBelow_23 : decode cX11_isBelow 23 = .ok (.istore_n 3, 1) := by decide +kernel
theorem dX11_isBelow_24 : decode cX11_isBelow 24 = .ok (.goto (-17), 3) := by decide +kernel
theorem dX11_isBelow_27 : decode cX11_isBelow 27 = .ok (.iload_n 3, 1) := by decide +kernel
theorem dX11_isBelow_28 : decode cX11_isBelow 28 = .ok (.iconst (-1), 1) := by decide +kernel
theorem dX11_isBelow_29 : decode cX11_isBelow 29 = .ok (.if_icmp .eq 7, 3) := by decide +kernel
theorem dX11_isBelow_32 : decode cX11_isBelow 32 = .ok (.iconst 1, 1) := by decide +kernel
theorem dX11_isBelow_33 : decode cX11_isBelow 33 = .ok (.goto 4, 3) := by decide +kernel
theorem dX11_isBelow_36 : decode cX11_isBelow 36 = .ok (.iconst 0, 1) := by decide +kernel
theorem dX11_isBelow_37 : decode cX11_isBelow 37 = .ok (.ireturn, 1) := by decide +kernel
abbrev cX11_spaceOf : ByteArray := prog_13_method_12_code
def yX11_spaceOf : MethodName := ⟨RX11, "spaceOf", "(I)I"⟩
theorem dX11_spaceOf_0 : decode cX11_spaceOf 0 = .ok (.iload_n 1, 1) := by decide +kernel
theorem dX11_spaceOf_1 : decode cX11_spaceOf 1 = .ok (.istore_n 2, 1) := by decide +kernel
theorem dX11_spaceOf_2 : decode cX11_spaceOf 2 = .ok (.iload_n 2, 1) := by decide +kernel
theorem dX11_spaceOf_3 : decode cX11_spaceOf 3 = .ok (.iconst (-1), 1) := by decide +kernel
theorem dX11_spaceOf_4 : decode cX11_spaceOf 4 = .ok (.if_icmp .eq 23, 3) := by decide +kernel
theorem dX11_spaceOf_7 : decode cX11_spaceOf 7 = .ok (.aload_n 0, 1) := by decide +kernel
theorem dX11_spaceOf_8 : decode cX11_spaceOf 8 = .ok (.getfield 19, 3) := by decide +kernel
theorem dX11_spaceOf_11 : decode cX11_spaceOf 11 = .ok (.iload_n 2, 1) := by decide +kernel
theorem dX11_spaceOf_12 : decode cX11_spaceOf 12 = .ok (.iaload, 1) := by decide +kernel
theorem dX11_spaceOf_13 : decode cX11_spaceOf 13 = .ok (.iconst (-1), 1) := by decide +kernel
theorem dX11_spaceOf_14 : decode cX11_spaceOf 14 = .ok (.if_icmp .ne 13, 3) := by decide +kernel
theorem dX11_spaceOf_17 : decode cX11_spaceOf 17 = .ok (.aload_n 0, 1) := by decide +kernel
theorem dX11_spaceOf_18 : decode cX11_spaceOf 18 = .ok (.getfield 22, 3) := by decide +kernel
theorem dX11_spaceOf_21 : decode cX11_spaceOf 21 = .ok (.iload_n 2, 1) := by decide +kernel
theorem dX11_spaceOf_22 : decode cX11_spaceOf 22 = .ok (.iaload, 1) := by decide +kernel
theorem dX11_spaceOf_23 : decode cX11_spaceOf 23 = .ok (.istore_n 2, 1) := by decide +kernel
theorem dX11_spaceOf_24 : decode cX11_spaceOf 24 = .ok (.goto (-22), 3) := by decide +kernel
theorem dX11_spaceOf_27 : decode cX11_spaceOf 27 = .ok (.iload_n 2, 1) := by decide +kernel
theorem dX11_spaceOf_28 : decode cX11_spaceOf 28 = .ok (.iconst (-1), 1) := by decide +kernel
theorem dX11_spaceOf_29 : decode cX11_spaceOf 29 = .ok (.if_icmp .ne 7, 3) := by decide +kernel
theorem dX11_spaceOf_32 : decode cX11_spaceOf 32 = .ok (.iconst 0, 1) := by decide +kernel
theorem dX11_spaceOf_33 : decode cX11_spaceOf 33 = .ok (.goto 9, 3) := by decide +kernel
theorem dX11_spaceOf_36 : decode cX11_spaceOf 36 = .ok (.aload_n 0, 1) := by decide +kernel
theorem dX11_spaceOf_37 : decode cX11_spaceOf 37 = .ok (.getfield 19, 3) := by decide +kernel
theorem dX11_spaceOf_40 : decode cX11_spaceOf 40 = .ok (.iload_n 2, 1) := by decide +kernel
theorem dX11_spaceOf_41 : decode cX11_spaceOf 41 = .ok (.iaload, 1) := by decide +kernel
theorem dX11_spaceOf_42 : decode cX11_spaceOf 42 = .ok (.ireturn, 1) := by decide +kernel
abbrev cX11_valueOf : ByteArray := prog_13_method_13_code
def yX11_valueOf : MethodName := ⟨RX11, "valueOf", "(IJ)I"⟩
theorem dX11_valueOf_0 : decode cX11_valueOf 0 = .ok (.aload_n 0, 1) := by decide +kernel
theorem dX11_valueOf_1 : decode cX11_valueOf 1 = .ok (.getfield 7, 3) := by decide +kernel
theorem dX11_valueOf_4 : decode cX11_valueOf 4 = .ok (.iload_n 1, 1) := by decide +kernel
theorem dX11_valueOf_5 : decode cX11_valueOf 5 = .ok (.iaload, 1) := by decide +kernel
theorem dX11_valueOf_6 : decode cX11_valueOf 6 = .ok (.ifCond .eq 10, 3) := by decide +kernel
theorem dX11_valueOf_9 : decode cX11_valueOf 9 = .ok (.aload_n 0, 1) := by decide +kernel
theorem dX11_valueOf_10 : decode cX11_valueOf 10 = .ok (.getfield 16, 3) := by decide +kernel
theorem dX11_valueOf_13 : decode cX11_valueOf 13 = .ok (.iload_n 1, 1) := by decide +kernel
theorem dX11_valueOf_14 : decode cX11_valueOf 14 = .ok (.iaload, 1) := by decide +kernel
theorem dX11_valueOf_15 : decode cX11_valueOf 15 = .ok (.ireturn, 1) := by decide +kernel
theorem dX11_valueOf_16 : decode cX11_valueOf 16 = .ok (.iconst (-1), 1) := by decide +kernel
theorem dX11_valueOf_17 : decode cX11_valueOf 17 = .ok (.istore 4, 2) := by decide +kernel
theorem dX11_valueOf_19 : decode cX11_valueOf 19 = .ok (.aload_n 0, 1) := by decide +kernel
theorem dX11_valueOf_20 : decode cX11_valueOf 20 = .ok (.getfield 173, 3) := by decide +kernel
theorem dX11_valueOf_23 : decode cX11_valueOf 23 = .ok (.iconst 1, 1) := by decide +kernel
theorem dX11_valueOf_24 : decode cX11_valueOf 24 = .ok (.isub, 1) := by decide +kernel
theorem dX11_valueOf_25 : decode cX11_valueOf 25 = .ok (.istore 5, 2) := by decide +kernel
theorem dX11_valueOf_27 : decode cX11_valueOf 27 = .ok (.iload 5, 2) := by decide +kernel
theorem dX11_valueOf_29 : decode cX11_valueOf 29 = .ok (.ifCond .lt 64, 3) := by decide +kernel
theorem dX11_valueOf_32 : decode cX11_valueOf 32 = .ok (.aload_n 0, 1) := by decide +kernel
theorem dX11_valueOf_33 : decode cX11_valueOf 33 = .ok (.getfield 35, 3) := by decide +kernel
theorem dX11_valueOf_36 : decode cX11_valueOf 36 = .ok (.iload 5, 2) := by decide +kernel
theorem dX11_valueOf_38 : decode cX11_valueOf 38 = .ok (.iaload, 1) := by decide +kernel
theorem dX11_valueOf_39 : decode cX11_valueOf 39 = .ok (.istore 6, 2) := by decide +kernel
theorem dX11_valueOf_41 : decode cX11_valueOf 41 = .ok (.aload_n 0, 1) := by decide +kernel
theorem dX11_valueOf_42 : decode cX11_valueOf 42 = .ok (.getfield 7, 3) := by decide +kernel
theorem dX11_valueOf_45 : decode cX11_valueOf 45 = .ok (.iload 6, 2) := by decide +kernel
theorem dX11_valueOf_47 : decode cX11_valueOf 47 = .ok (.iaload, 1) := by decide +kernel
theorem dX11_valueOf_48 : decode cX11_valueOf 48 = .ok (.iconst 1, 1) := by decide +kernel
theorem dX11_valueOf_49 : decode cX11_valueOf 49 = .ok (.if_icmp .ne 34, 3) := by decide +kernel
theorem dX11_valueOf_52 : decode cX11_valueOf 52 = .ok (.lload_n 2, 1) := by decide +kernel
theorem dX11_valueOf_53 : decode cX11_valueOf 53 = .ok (.iload 6, 2) := by decide +kernel
theorem dX11_valueOf_55 : decode cX11_valueOf 55 = .ok (.lshr, 1) := by decide +kernel
theorem dX11_valueOf_56 : decode cX11_valueOf 56 = .ok (.lconst 1, 1) := by decide +kernel
theorem dX11_valueOf_57 : decode cX11_valueOf 57 = .ok (.land, 1) := by decide +kernel
theorem dX11_valueOf_58 : decode cX11_valueOf 58 = .ok (.lconst 1, 1) := by decide +kernel
theorem dX11_valueOf_59 : decode cX11_valueOf 59 = .ok (.lcmp, 1) := by decide +kernel
theorem dX11_valueOf_60 : decode cX11_valueOf 60 = .ok (.ifCond .ne 23, 3) := by decide +kernel
theorem dX11_valueOf_63 : decode cX11_valueOf 63 = .ok (.aload_n 0, 1) := by decide +kernel
theorem dX11_valueOf_64 : decode cX11_valueOf 64 = .ok (.iload 6, 2) := by decide +kernel
theorem dX11_valueOf_66 : decode cX11_valueOf 66 = .ok (.iload_n 1, 1) := by decide +kernel
theorem dX11_valueOf_67 : decode cX11_valueOf 67 = .ok (.invokevirtual 187, 3) := by decide +kernel
theorem dX11_valueOf_70 : decode cX11_valueOf 70 = .ok (.ifCond .eq 13, 3) := by decide +kernel
theorem dX11_valueOf_73 : decode cX11_valueOf 73 = .ok (.aload_n 0, 1) := by decide +kernel
theorem dX11_valueOf_74 : decode cX11_valueOf 74 = .ok (.getfield 16, 3) := by decide +kernel
theorem dX11_valueOf_77 : decode cX11_valueOf 77 = .ok (.iload 6, 2) := by decide +kernel
theorem dX11_valueOf_79 : decode cX11_valueOf 79 = .ok (.iaload, 1) := by decide +kernel
theorem dX11_valueOf_80 : decode cX11_valueOf 80 = .ok (.goto 5, 3) := by decide +kernel
theorem dX11_valueOf_83 : decode cX11_valueOf 83 = .ok (.iload 4, 2) := by decide +kernel
theorem dX11_valueOf_85 : decode cX11_valueOf 85 = .ok (.istore 4, 2) := by decide +kernel
theorem dX11_valueOf_87 : decode cX11_valueOf 87 = .ok (.iinc 5 (-1), 3) := by decide +kernel
theorem dX11_valueOf_90 : decode cX11_valueOf 90 = .ok (.goto (-63), 3) := by decide +kernel
theorem dX11_valueOf_93 : decode cX11_valueOf 93 = .ok (.iload 4, 2) := by decide +kernel
theorem dX11_valueOf_95 : decode cX11_valueOf 95 = .ok (.ireturn, 1) := by decide +kernel
abbrev cX11_all : ByteArray := prog_13_method_14_code
def yX11_all : MethodName := ⟨RX11, "all", "()J"⟩
theorem dX11_all_0 : decode cX11_all 0 = .ok (.lconst 0, 1) := by decide +kernel
theorem dX11_all_1 : decode cX11_all 1 = .ok (.lstore_n 1, 1) := by decide +kernel
theorem dX11_all_2 : decode cX11_all 2 = .ok (.iconst 0, 1) := by decide +kernel
theorem dX11_all_3 : decode cX11_all 3 = .ok (.istore_n 3, 1) := by decide +kernel
theorem dX11_all_4 : decode cX11_all 4 = .ok (.iload_n 3, 1) := by decide +kernel
theorem dX11_all_5 : decode cX11_all 5 = .ok (.aload_n 0, 1) := by decide +kernel
theorem dX11_all_6 : decode cX11_all 6 = .ok (.getfield 173, 3) := by decide +kernel
theorem dX11_all_9 : decode cX11_all 9 = .ok (.if_icmp .ge 20, 3) := by decide +kernel
theorem dX11_all_12 : decode cX11_all 12 = .ok (.lload_n 1, 1) := by decide +kernel
theorem dX11_all_13 : decode cX11_all 13 = .ok (.lconst 1, 1) := by decide +kernel
theorem dX11_all_14 : decode cX11_all 14 = .ok (.aload_n 0, 1) := by decide +kernel
theorem dX11_all_15 : decode cX11_all 15 = .ok (.getfield 35, 3) := by decide +kernel
theorem dX11_all_18 : decode cX11_all 18 = .ok (.iload_n 3, 1) := by decide +kernel
theorem dX11_all_19 : decode cX11_all 19 = .ok (.iaload, 1) := by decide +kernel
theorem dX11_all_20 : decode cX11_all 20 = .ok (.lshl, 1) := by decide +kernel
theorem dX11_all_21 : decode cX11_all 21 = .ok (.lor, 1) := by decide +kernel
theorem dX11_all_22 : decode cX11_all 22 = .ok (.lstore_n 1, 1) := by decide +kernel
theorem dX11_all_23 : decode cX11_all 23 = .ok (.iinc 3 1, 3) := by decide +kernel
theorem dX11_all_26 : decode cX11_all 26 = .ok (.goto (-22), 3) := by decide +kernel
theorem dX11_all_29 : decode cX11_all 29 = .ok (.lload_n 1, 1) := by decide +kernel
theorem dX11_all_30 : decode cX11_all 30 = .ok (.lreturn, 1) := by decide +kernel
abbrev cX11_collect : ByteArray := prog_13_method_15_code
def yX11_collect : MethodName := ⟨RX11, "collect", "(IIIIIII)I"⟩
theorem dX11_collect_0 : decode cX11_collect 0 = .ok (.bipush 7, 2) := by decide +kernel
theorem dX11_collect_2 : decode cX11_collect 2 = .ok (.aload_n 0, 1) := by decide +kernel
theorem dX11_collect_3 : decode cX11_collect 3 = .ok (.getfield 191, 3) := by decide +kernel
theorem dX11_collect_6 : decode cX11_collect 6 = .ok (.imul, 1) := by decide +kernel
theorem dX11_collect_7 : decode cX11_collect 7 = .ok (.istore 8, 2) := by decide +kernel
theorem dX11_collect_9 : decode cX11_collect 9 = .ok (.aload_n 0, 1) := by decide +kernel
theorem dX11_collect_10 : decode cX11_collect 10 = .ok (.getfield 44, 3) := by decide +kernel
theorem dX11_collect_13 : decode cX11_collect 13 = .ok (.iload 8, 2) := by decide +kernel
theorem dX11_collect_15 : decode cX11_collect 15 = .ok (.iload_n 1, 1) := by decide +kernel
theorem dX11_collect_16 : decode cX11_collect 16 = .ok (.iastore, 1) := by decide +kernel
theorem dX11_collect_17 : decode cX11_collect 17 = .ok (.aload_n 0, 1) := by decide +kernel
theorem dX11_collect_18 : decode cX11_collect 18 = .ok (.getfield 44, 3) := by decide +kernel
theorem dX11_collect_21 : decode cX11_collect 21 = .ok (.iload 8, 2) := by decide +kernel
theorem dX11_collect_23 : decode cX11_collect 23 = .ok (.iconst 1, 1) := by decide +kernel
theorem dX11_collect_24 : decode cX11_collect 24 = .ok (.iadd, 1) := by decide +kernel
theorem dX11_collect_25 : decode cX11_collect 25 = .ok (.iload_n 2, 1) := by decide +kernel
theorem dX11_collect_26 : decode cX11_collect 26 = .ok (.iastore, 1) := by decide +kernel
theorem dX11_collect_27 : decode cX11_collect 27 = .ok (.aload_n 0, 1) := by decide +kernel
theorem dX11_collect_28 : decode cX11_collect 28 = .ok (.getfield 44, 3) := by decide +kernel
theorem dX11_collect_31 : decode cX11_collect 31 = .ok (.iload 8, 2) := by decide +kernel
theorem dX11_collect_33 : decode cX11_collect 33 = .ok (.iconst 2, 1) := by decide +kernel
theorem dX11_collect_34 : decode cX11_collect 34 = .ok (.iadd, 1) := by decide +kernel
theorem dX11_collect_35 : decode cX11_collect 35 = .ok (.iload_n 3, 1) := by decide +kernel
theorem dX11_collect_36 : decode cX11_collect 36 = .ok (.iastore, 1) := by decide +kernel
theorem dX11_collect_37 : decode cX11_collect 37 = .ok (.aload_n 0, 1) := by decide +kernel
theorem dX11_collect_38 : decode cX11_collect 38 = .ok (.getfield 44, 3) := by decide +kernel
theorem dX11_collect_41 : decode cX11_collect 41 = .ok (.iload 8, 2) := by decide +kernel
theorem dX11_collect_43 : decode cX11_collect 43 = .ok (.iconst 3, 1) := by decide +kernel
theorem dX11_collect_44 : decode cX11_collect 44 = .ok (.iadd, 1) := by decide +kernel
theorem dX11_collect_45 : decode cX11_collect 45 = .ok (.iload 4, 2) := by decide +kernel
theorem dX11_collect_47 : decode cX11_collect 47 = .ok (.iastore, 1) := by decide +kernel
theorem dX11_collect_48 : decode cX11_collect 48 = .ok (.aload_n 0, 1) := by decide +kernel
theorem dX11_collect_49 : decode cX11_collect 49 = .ok (.getfield 44, 3) := by decide +kernel
theorem dX11_collect_52 : decode cX11_collect 52 = .ok (.iload 8, 2) := by decide +kernel
theorem dX11_collect_54 : decode cX11_collect 54 = .ok (.iconst 4, 1) := by decide +kernel
theorem dX11_collect_55 : decode cX11_collect 55 = .ok (.iadd, 1) := by decide +kernel
theorem dX11_collect_56 : decode cX11_collect 56 = .ok (.iload 5, 2) := by decide +kernel
theorem dX11_collect_58 : decode cX11_collect 58 = .ok (.iastore, 1) := by decide +kernel
theorem dX11_collect_59 : decode cX11_collect 59 = .ok (.aload_n 0, 1) := by decide +kernel
theorem dX11_collect_60 : decode cX11_collect 60 = .ok (.getfield 44, 3) := by decide +kernel
theorem dX11_collect_63 : decode cX11_collect 63 = .ok (.iload 8, 2) := by decide +kernel
theorem dX11_collect_65 : decode cX11_collect 65 = .ok (.iconst 5, 1) := by decide +kernel
theorem dX11_collect_66 : decode cX11_collect 66 = .ok (.iadd, 1) := by decide +kernel
theorem dX11_collect_67 : decode cX11_collect 67 = .ok (.iload 6, 2) := by decide +kernel
theorem dX11_collect_69 : decode cX11_collect 69 = .ok (.iastore, 1) := by decide +kernel
theorem dX11_collect_70 : decode cX11_collect 70 = .ok (.aload_n 0, 1) := by decide +kernel
theorem dX11_collect_71 : decode cX11_collect 71 = .ok (.getfield 44, 3) := by decide +kernel
theorem dX11_collect_74 : decode cX11_collect 74 = .ok (.iload 8, 2) := by decide +kernel
theorem dX11_collect_76 : decode cX11_collect 76 = .ok (.bipush 6, 2) := by decide +kernel
theorem dX11_collect_78 : decode cX11_collect 78 = .ok (.iadd, 1) := by decide +kernel
theorem dX11_collect_79 : decode cX11_collect 79 = .ok (.iload 7, 2) := by decide +kernel
theorem dX11_collect_81 : decode cX11_collect 81 = .ok (.iastore, 1) := by decide +kernel
theorem dX11_collect_82 : decode cX11_collect 82 = .ok (.aload_n 0, 1) := by decide +kernel
theorem dX11_collect_83 : decode cX11_collect 83 = .ok (.dup, 1) := by decide +kernel
theorem dX11_collect_84 : decode cX11_collect 84 = .ok (.getfield 191, 3) := by decide +kernel
theorem dX11_collect_87 : decode cX11_collect 87 = .ok (.iconst 1, 1) := by decide +kernel
theorem dX11_collect_88 : decode cX11_collect 88 = .ok (.iadd, 1) := by decide +kernel
theorem dX11_collect_89 : decode cX11_collect 89 = .ok (.putfield 191, 3) := by decide +kernel
theorem dX11_collect_92 : decode cX11_collect 92 = .ok (.aload_n 0, 1) := by decide +kernel
theorem dX11_collect_93 : decode cX11_collect 93 = .ok (.getfield 191, 3) := by decide +kernel
theorem dX11_collect_96 : decode cX11_collect 96 = .ok (.ireturn, 1) := by decide +kernel
abbrev cX11_isSpot : ByteArray := prog_13_method_16_code
def yX11_isSpot : MethodName := ⟨RX11, "isSpot", "(II)Z"⟩
theorem dX11_isSpot_0 : decode cX11_isSpot 0 = .ok (.aload_n 0, 1) := by decide +kernel
theorem dX11_isSpot_1 : decode cX11_isSpot 1 = .ok (.iload_n 1, 1) := by decide +kernel
theorem dX11_isSpot_2 : decode cX11_isSpot 2 = .ok (.invokevirtual 194, 3) := by decide +kernel
theorem dX11_isSpot_5 : decode cX11_isSpot 5 = .ok (.ifCond .eq 33, 3) := by decide +kernel
theorem dX11_isSpot_8 : decode cX11_isSpot 8 = .ok (.iload_n 2, 1) := by decide +kernel
theorem dX11_isSpot_9 : decode cX11_isSpot 9 = .ok (.iconst 0, 1) := by decide +kernel
theorem dX11_isSpot_10 : decode cX11_isSpot 10 = .ok (.aload_n 0, 1) := by decide +kernel
theorem dX11_isSpot_11 : decode cX11_isSpot 11 = .ok (.getfield 7, 3) := by decide +kernel
theorem dX11_isSpot_14 : decode cX11_isSpot 14 = .ok (.iload_n 1, 1) := by decide +kernel
theorem dX11_isSpot_15 : decode cX11_isSpot 15 = .ok (.iaload, 1) := by decide +kernel
theorem dX11_isSpot_16 : decode cX11_isSpot 16 = .ok (.ifCond .ne 11, 3) := by decide +kernel
theorem dX11_isSpot_19 : decode cX11_isSpot 19 = .ok (.aload_n 0, 1) := by decide +kernel
theorem dX11_isSpot_20 : decode cX11_isSpot 20 = .ok (.iload_n 1, 1) := by decide +kernel
theorem dX11_isSpot_21 : decode cX11_isSpot 21 = .ok (.invokevirtual 180, 3) := by decide +kernel
theorem dX11_isSpot_24 : decode cX11_isSpot 24 = .ok (.goto 4, 3) := by decide +kernel
theorem dX11_isSpot_27 : decode cX11_isSpot 27 = .ok (.iconst 0, 1) := by decide +kernel
theorem dX11_isSpot_28 : decode cX11_isSpot 28 = .ok (.invokestatic 169, 3) := by decide +kernel
theorem dX11_isSpot_31 : decode cX11_isSpot 31 = .ok (.ifCond .eq 7, 3) := by decide +kernel
theorem dX11_isSpot_34 : decode cX11_isSpot 34 = .ok (.iconst 1, 1) := by decide +kernel
theorem dX11_isSpot_35 : decode cX11_isSpot 35 = .ok (.goto 4, 3) := by decide +kernel
theorem dX11_isSpot_38 : decode cX11_isSpot 38 = .ok (.iconst 0, 1) := by decide +kernel
theorem dX11_isSpot_39 : decode cX11_isSpot 39 = .ok (.ireturn, 1) := by decide +kernel
abbrev cX11_takes : ByteArray := prog_13_method_17_code
def yX11_takes : MethodName := ⟨RX11, "takes", "(I)Z"⟩
theorem dX11_takes_0 : decode cX11_takes 0 = .ok (.aload_n 0, 1) := by decide +kernel
theorem dX11_takes_1 : decode cX11_takes 1 = .ok (.getfield 7, 3) := by decide +kernel
theorem dX11_takes_4 : decode cX11_takes 4 = .ok (.iload_n 1, 1) := by decide +kernel
theorem dX11_takes_5 : decode cX11_takes 5 = .ok (.iaload, 1) := by decide +kernel
theorem dX11_takes_6 : decode cX11_takes 6 = .ok (.ifCond .ne 16, 3) := by decide +kernel
theorem dX11_takes_9 : decode cX11_takes 9 = .ok (.aload_n 0, 1) := by decide +kernel
theorem dX11_takes_10 : decode cX11_takes 10 = .ok (.getfield 191, 3) := by decide +kernel
theorem dX11_takes_13 : decode cX11_takes 13 = .ok (.bipush 20, 2) := by decide +kernel
theorem dX11_takes_15 : decode cX11_takes 15 = .ok (.if_icmp .ge 7, 3) := by decide +kernel
theorem dX11_takes_18 : decode cX11_takes 18 = .ok (.iconst 1, 1) := by decide +kernel
theorem dX11_takes_19 : decode cX11_takes 19 = .ok (.goto 4, 3) := by decide +kernel
theorem dX11_takes_22 : decode cX11_takes 22 = .ok (.iconst 0, 1) := by decide +kernel
theorem dX11_takes_23 : decode cX11_takes 23 = .ok (.ireturn, 1) := by decide +kernel
abbrev cX11_insertElement : ByteArray := prog_13_method_18_code
def yX11_insertElement : MethodName := ⟨RX11, "insertElement", "(III)I"⟩
theorem dX11_insertElement_0 : decode cX11_insertElement 0 = .ok (.aload_n 0, 1) := by decide +kernel
theorem dX11_insertElement_1 : decode cX11_insertElement 1 = .ok (.aload_n 0, 1) := by decide +kernel
theorem dX11_insertElement_2 : decode cX11_insertElement 2 = .ok (.iload_n 1, 1) := by decide +kernel
theorem dX11_insertElement_3 : decode cX11_insertElement 3 = .ok (.iload_n 2, 1) := by decide +kernel
theorem dX11_insertElement_4 : decode cX11_insertElement 4 = .ok (.invokevirtual 198, 3) := by decide +kernel
theorem dX11_insertElement_7 : decode cX11_insertElement 7 = .ok (.ifCond .ne 7, 3) := by decide +kernel
theorem dX11_insertElement_10 : decode cX11_insertElement 10 = .ok (.iconst 1, 1) := by decide +kernel
theorem dX11_insertElement_11 : decode cX11_insertElement 11 = .ok (.goto 30, 3) := by decide +kernel
theorem dX11_insertElement_14 : decode cX11_insertElement 14 = .ok (.iload_n 3, 1) := by decide +kernel
theorem dX11_insertElement_15 : decode cX11_insertElement 15 = .ok (.iconst 0, 1) := by decide +kernel
theorem dX11_insertElement_16 : decode cX11_insertElement 16 = .ok (.bipush 7, 2) := by decide +kernel
theorem dX11_insertElement_18 : decode cX11_insertElement 18 = .ok (.invokestatic 169, 3) := by decide +kernel
theorem dX11_insertElement_21 : decode cX11_insertElement 21 = .ok (.ifCond .ne 7, 3) := by decide +kernel
theorem dX11_insertElement_24 : decode cX11_insertElement 24 = .ok (.iconst 2, 1) := by decide +kernel
theorem dX11_insertElement_25 : decode cX11_insertElement 25 = .ok (.goto 16, 3) := by decide +kernel
theorem dX11_insertElement_28 : decode cX11_insertElement 28 = .ok (.aload_n 0, 1) := by decide +kernel
theorem dX11_insertElement_29 : decode cX11_insertElement 29 = .ok (.iload_n 1, 1) := by decide +kernel
theorem dX11_insertElement_30 : decode cX11_insertElement 30 = .ok (.invokevirtual 201, 3) := by decide +kernel
theorem dX11_insertElement_33 : decode cX11_insertElement 33 = .ok (.ifCond .eq 7, 3) := by decide +kernel
theorem dX11_insertElement_36 : decode cX11_insertElement 36 = .ok (.iconst 0, 1) := by decide +kernel
theorem dX11_insertElement_37 : decode cX11_insertElement 37 = .ok (.goto 4, 3) := by decide +kernel
theorem dX11_insertElement_40 : decode cX11_insertElement 40 = .ok (.iconst 3, 1) := by decide +kernel
theorem dX11_insertElement_41 : decode cX11_insertElement 41 = .ok (.invokevirtual 204, 3) := by decide +kernel
theorem dX11_insertElement_44 : decode cX11_insertElement 44 = .ok (.ifCond .eq 5, 3) := by decide +kernel
theorem dX11_insertElement_47 : decode cX11_insertElement 47 = .ok (.iconst 0, 1) := by decide +kernel
theorem dX11_insertElement_48 : decode cX11_insertElement 48 = .ok (.ireturn, 1) := by decide +kernel
theorem dX11_insertElement_49 : decode cX11_insertElement 49 = .ok (.aload_n 0, 1) := by decide +kernel
theorem dX11_insertElement_50 : decode cX11_insertElement 50 = .ok (.iconst 0, 1) := by decide +kernel
theorem dX11_insertElement_51 : decode cX11_insertElement 51 = .ok (.iconst (-1), 1) := by decide +kernel
theorem dX11_insertElement_52 : decode cX11_insertElement 52 = .ok (.iload_n 1, 1) := by decide +kernel
theorem dX11_insertElement_53 : decode cX11_insertElement 53 = .ok (.iload_n 2, 1) := by decide +kernel
theorem dX11_insertElement_54 : decode cX11_insertElement 54 = .ok (.iconst 0, 1) := by decide +kernel
theorem dX11_insertElement_55 : decode cX11_insertElement 55 = .ok (.iload_n 3, 1) := by decide +kernel
theorem dX11_insertElement_56 : decode cX11_insertElement 56 = .ok (.iconst (-1), 1) := by decide +kernel
theorem dX11_insertElement_57 : decode cX11_insertElement 57 = .ok (.invokevirtual 207, 3) := by decide +kernel
theorem dX11_insertElement_60 : decode cX11_insertElement 60 = .ok (.ireturn, 1) := by decide +kernel
abbrev cX11_insertText : ByteArray := prog_13_method_19_code
def yX11_insertText : MethodName := ⟨RX11, "insertText", "(III)I"⟩
theorem dX11_insertText_0 : decode cX11_insertText 0 = .ok (.aload_n 0, 1) := by decide +kernel
theorem dX11_insertText_1 : decode cX11_insertText 1 = .ok (.aload_n 0, 1) := by decide +kernel
theorem dX11_insertText_2 : decode cX11_insertText 2 = .ok (.iload_n 1, 1) := by decide +kernel
theorem dX11_insertText_3 : decode cX11_insertText 3 = .ok (.iload_n 2, 1) := by decide +kernel
theorem dX11_insertText_4 : decode cX11_insertText 4 = .ok (.invokevirtual 198, 3) := by decide +kernel
theorem dX11_insertText_7 : decode cX11_insertText 7 = .ok (.ifCond .ne 7, 3) := by decide +kernel
theorem dX11_insertText_10 : decode cX11_insertText 10 = .ok (.iconst 1, 1) := by decide +kernel
theorem dX11_insertText_11 : decode cX11_insertText 11 = .ok (.goto 31, 3) := by decide +kernel
theorem dX11_insertText_14 : decode cX11_insertText 14 = .ok (.iload_n 3, 1) := by decide +kernel
theorem dX11_insertText_15 : decode cX11_insertText 15 = .ok (.iconst 0, 1) := by decide +kernel
theorem dX11_insertText_16 : decode cX11_insertText 16 = .ok (.sipush 999, 3) := by decide +kernel
theorem dX11_insertText_19 : decode cX11_insertText 19 = .ok (.invokestatic 169, 3) := by decide +kernel
theorem dX11_insertText_22 : decode cX11_insertText 22 = .ok (.ifCond .ne 7, 3) := by decide +kernel
theorem dX11_insertText_25 : decode cX11_insertText 25 = .ok (.iconst 2, 1) := by decide +kernel
theorem dX11_insertText_26 : decode cX11_insertText 26 = .ok (.goto 16, 3) := by decide +kernel
theorem dX11_insertText_29 : decode cX11_insertText 29 = .ok (.aload_n 0, 1) := by decide +kernel
theorem dX11_insertText_30 : decode cX11_insertText 30 = .ok (.iload_n 1, 1) := by decide +kernel
theorem dX11_insertText_31 : decode cX11_insertText 31 = .ok (.invokevirtual 201, 3) := by decide +kernel
theorem dX11_insertText_34 : decode cX11_insertText 34 = .ok (.ifCond .eq 7, 3) := by decide +kernel
theorem dX11_insertText_37 : decode cX11_insertText 37 = .ok (.iconst 0, 1) := by decide +kernel
theorem dX11_insertText_38 : decode cX11_insertText 38 = .ok (.goto 4, 3) := by decide +kernel
theorem dX11_insertText_41 : decode cX11_insertText 41 = .ok (.iconst 3, 1) := by decide +kernel
theorem dX11_insertText_42 : decode cX11_insertText 42 = .ok (.invokevirtual 204, 3) := by decide +kernel
theorem dX11_insertText_45 : decode cX11_insertText 45 = .ok (.ifCond .eq 5, 3) := by decide +kernel
theorem dX11_insertText_48 : decode cX11_insertText 48 = .ok (.iconst 0, 1) := by decide +kernel
theorem dX11_insertText_49 : decode cX11_insertText 49 = .ok (.ireturn, 1) := by decide +kernel
theorem dX11_insertText_50 : decode cX11_insertText 50 = .ok (.aload_n 0, 1) := by decide +kernel
theorem dX11_insertText_51 : decode cX11_insertText 51 = .ok (.iconst 0, 1) := by decide +kernel
theorem dX11_insertText_52 : decode cX11_insertText 52 = .ok (.iconst (-1), 1) := by decide +kernel
theorem dX11_insertText_53 : decode cX11_insertText 53 = .ok (.iload_n 1, 1) := by decide +kernel
theorem dX11_insertText_54 : decode cX11_insertText 54 = .ok (.iload_n 2, 1) := by decide +kernel
theorem dX11_insertText_55 : decode cX11_insertText 55 = .ok (.iconst 1, 1) := by decide +kernel
theorem dX11_insertText_56 : decode cX11_insertText 56 = .ok (.iconst (-1), 1) := by decide +kernel
theorem dX11_insertText_57 : decode cX11_insertText 57 = .ok (.iload_n 3, 1) := by decide +kernel
theorem dX11_insertText_58 : decode cX11_insertText 58 = .ok (.invokevirtual 207, 3) := by decide +kernel
theorem dX11_insertText_61 : decode cX11_insertText 61 = .ok (.ireturn, 1) := by decide +kernel
abbrev cX11_insertAttribute : ByteArray := prog_13_method_20_code
def yX11_insertAttribute : MethodName := ⟨RX11, "insertAttribute", "(III)I"⟩
theorem dX11_insertAttribute_0 : decode cX11_insertAttribute 0 = .ok (.iload_n 2, 1) := by decide +kernel
theorem dX11_insertAttribute_1 : decode cX11_insertAttribute 1 = .ok (.iconst 0, 1) := by decide +kernel
theorem dX11_insertAttribute_2 : decode cX11_insertAttribute 2 = .ok (.bipush 7, 2) := by decide +kernel
theorem dX11_insertAttribute_4 : decode cX11_insertAttribute 4 = .ok (.invokestatic 169, 3) := by decide +kernel
theorem dX11_insertAttribute_7 : decode cX11_insertAttribute 7 = .ok (.ifCond .eq 18, 3) := by decide +kernel
theorem dX11_insertAttribute_10 : decode cX11_insertAttribute 10 = .ok (.iload_n 3, 1) := by decide +kernel
theorem dX11_insertAttribute_11 : decode cX11_insertAttribute 11 = .ok (.iconst 0, 1) := by decide +kernel
theorem dX11_insertAttribute_12 : decode cX11_insertAttribute 12 = .ok (.sipush 999, 3) := by decide +kernel
theorem dX11_insertAttribute_15 : decode cX11_insertAttribute 15 = .ok (.invokestatic 169, 3) := by decide +kernel
theorem dX11_insertAttribute_18 : decode cX11_insertAttribute 18 = .ok (.ifCond .eq 7, 3) := by decide +kernel
theorem dX11_insertAttribute_21 : decode cX11_insertAttribute 21 = .ok (.iconst 1, 1) := by decide +kernel
theorem dX11_insertAttribute_22 : decode cX11_insertAttribute 22 = .ok (.goto 4, 3) := by decide +kernel
theorem dX11_insertAttribute_25 : decode cX11_insertAttribute 25 = .ok (.iconst 0, 1) := by decide +kernel
theorem dX11_insertAttribute_26 : decode cX11_insertAttribute 26 = .ok (.istore 4, 2) := by decide +kernel
theorem dX11_insertAttribute_28 : decode cX11_insertAttribute 28 = .ok (.aload_n 0, 1) := by decide +kernel
theorem dX11_insertAttribute_29 : decode cX11_insertAttribute 29 = .ok (.aload_n 0, 1) := by decide +kernel
theorem dX11_insertAttribute_30 : decode cX11_insertAttribute 30 = .ok (.iload_n 1, 1) := by decide +kernel
theorem dX11_insertAttribute_31 : decode cX11_insertAttribute 31 = .ok (.invokevirtual 194, 3) := by decide +kernel
theorem dX11_insertAttribute_34 : decode cX11_insertAttribute 34 = .ok (.ifCond .ne 7, 3) := by decide +kernel
theorem dX11_insertAttribute_37 : decode cX11_insertAttribute 37 = .ok (.iconst 1, 1) := by decide +kernel
theorem dX11_insertAttribute_38 : decode cX11_insertAttribute 38 = .ok (.goto 25, 3) := by decide +kernel
theorem dX11_insertAttribute_41 : decode cX11_insertAttribute 41 = .ok (.iload 4, 2) := by decide +kernel
theorem dX11_insertAttribute_43 : decode cX11_insertAttribute 43 = .ok (.ifCond .ne 7, 3) := by decide +kernel
theorem dX11_insertAttribute_46 : decode cX11_insertAttribute 46 = .ok (.iconst 2, 1) := by decide +kernel
theorem dX11_insertAttribute_47 : decode cX11_insertAttribute 47 = .ok (.goto 16, 3) := by decide +kernel
theorem dX11_insertAttribute_50 : decode cX11_insertAttribute 50 = .ok (.aload_n 0, 1) := by decide +kernel
theorem dX11_insertAttribute_51 : decode cX11_insertAttribute 51 = .ok (.iload_n 1, 1) := by decide +kernel
theorem dX11_insertAttribute_52 : decode cX11_insertAttribute 52 = .ok (.invokevirtual 201, 3) := by decide +kernel
theorem dX11_insertAttribute_55 : decode cX11_insertAttribute 55 = .ok (.ifCond .eq 7, 3) := by decide +kernel
theorem dX11_insertAttribute_58 : decode cX11_insertAttribute 58 = .ok (.iconst 0, 1) := by decide +kernel
theorem dX11_insertAttribute_59 : decode cX11_insertAttribute 59 = .ok (.goto 4, 3) := by decide +kernel
theorem dX11_insertAttribute_62 : decode cX11_insertAttribute 62 = .ok (.iconst 3, 1) := by decide +kernel
theorem dX11_insertAttribute_63 : decode cX11_insertAttribute 63 = .ok (.invokevirtual 204, 3) := by decide +kernel
theorem dX11_insertAttribute_66 : decode cX11_insertAttribute 66 = .ok (.ifCond .eq 5, 3) := by decide +kernel
theorem dX11_insertAttribute_69 : decode cX11_insertAttribute 69 = .ok (.iconst 0, 1) := by decide +kernel
theorem dX11_insertAttribute_70 : decode cX11_insertAttribute 70 = .ok (.ireturn, 1) := by decide +kernel
theorem dX11_insertAttribute_71 : decode cX11_insertAttribute 71 = .ok (.aload_n 0, 1) := by decide +kernel
theorem dX11_insertAttribute_72 : decode cX11_insertAttribute 72 = .ok (.iconst 0, 1) := by decide +kernel
theorem dX11_insertAttribute_73 : decode cX11_insertAttribute 73 = .ok (.iconst (-1), 1) := by decide +kernel
theorem dX11_insertAttribute_74 : decode cX11_insertAttribute 74 = .ok (.iload_n 1, 1) := by decide +kernel
theorem dX11_insertAttribute_75 : decode cX11_insertAttribute 75 = .ok (.iconst 0, 1) := by decide +kernel
theorem dX11_insertAttribute_76 : decode cX11_insertAttribute 76 = .ok (.iconst 2, 1) := by decide +kernel
theorem dX11_insertAttribute_77 : decode cX11_insertAttribute 77 = .ok (.iload_n 2, 1) := by decide +kernel
theorem dX11_insertAttribute_78 : decode cX11_insertAttribute 78 = .ok (.iload_n 3, 1) := by decide +kernel
theorem dX11_insertAttribute_79 : decode cX11_insertAttribute 79 = .ok (.invokevirtual 207, 3) := by decide +kernel
theorem dX11_insertAttribute_82 : decode cX11_insertAttribute 82 = .ok (.ireturn, 1) := by decide +kernel
abbrev cX11_remove : ByteArray := prog_13_method_21_code
def yX11_remove : MethodName := ⟨RX11, "remove", "(I)I"⟩
theorem dX11_remove_0 : decode cX11_remove 0 = .ok (.aload_n 0, 1) := by decide +kernel
theorem dX11_remove_1 : decode cX11_remove 1 = .ok (.aload_n 0, 1) := by decide +kernel
theorem dX11_remove_2 : decode cX11_remove 2 = .ok (.iload_n 1, 1) := by decide +kernel
theorem dX11_remove_3 : decode cX11_remove 3 = .ok (.invokevirtual 194, 3) := by decide +kernel
theorem dX11_remove_6 : decode cX11_remove 6 = .ok (.ifCond .ne 7, 3) := by decide +kernel
theorem dX11_remove_9 : decode cX11_remove 9 = .ok (.iconst 1, 1) := by decide +kernel
theorem dX11_remove_10 : decode cX11_remove 10 = .ok (.goto 21, 3) := by decide +kernel
theorem dX11_remove_13 : decode cX11_remove 13 = .ok (.iload_n 1, 1) := by decide +kernel
theorem dX11_remove_14 : decode cX11_remove 14 = .ok (.ifCond .eq 12, 3) := by decide +kernel
theorem dX11_remove_17 : decode cX11_remove 17 = .ok (.aload_n 0, 1) := by decide +kernel
theorem dX11_remove_18 : decode cX11_remove 18 = .ok (.getfield 191, 3) := by decide +kernel
theorem dX11_remove_21 : decode cX11_remove 21 = .ok (.bipush 20, 2) := by decide +kernel
theorem dX11_remove_23 : decode cX11_remove 23 = .ok (.if_icmp .ne 7, 3) := by decide +kernel
theorem dX11_remove_26 : decode cX11_remove 26 = .ok (.iconst 2, 1) := by decide +kernel
theorem dX11_remove_27 : decode cX11_remove 27 = .ok (.goto 4, 3) := by decide +kernel
theorem dX11_remove_30 : decode cX11_remove 30 = .ok (.iconst 0, 1) := by decide +kernel
theorem dX11_remove_31 : decode cX11_remove 31 = .ok (.invokevirtual 204, 3) := by decide +kernel
theorem dX11_remove_34 : decode cX11_remove 34 = .ok (.ifCond .eq 5, 3) := by decide +kernel
theorem dX11_remove_37 : decode cX11_remove 37 = .ok (.iconst 0, 1) := by decide +kernel
theorem dX11_remove_38 : decode cX11_remove 38 = .ok (.ireturn, 1) := by decide +kernel
theorem dX11_remove_39 : decode cX11_remove 39 = .ok (.aload_n 0, 1) := by decide +kernel
theorem dX11_remove_40 : decode cX11_remove 40 = .ok (.iconst 1, 1) := by decide +kernel
theorem dX11_remove_41 : decode cX11_remove 41 = .ok (.iload_n 1, 1) := by decide +kernel
theorem dX11_remove_42 : decode cX11_remove 42 = .ok (.iconst (-1), 1) := by decide +kernel
theorem dX11_remove_43 : decode cX11_remove 43 = .ok (.iconst 0, 1) := by decide +kernel
theorem dX11_remove_44 : decode cX11_remove 44 = .ok (.iconst 0, 1) := by decide +kernel
theorem dX11_remove_45 : decode cX11_remove 45 = .ok (.iconst 0, 1) := by decide +kernel
theorem dX11_remove_46 : decode cX11_remove 46 = .ok (.iconst 0, 1) := by decide +kernel
theorem dX11_remove_47 : decode cX11_remove 47 = .ok (.invokevirtual 207, 3) := by decide +kernel
theorem dX11_remove_50 : decode cX11_remove 50 = .ok (.ireturn, 1) := by decide +kernel
abbrev cX11_rename : ByteArray := prog_13_method_22_code
def yX11_rename : MethodName := ⟨RX11, "rename", "(II)I"⟩
theorem dX11_rename_0 : decode cX11_rename 0 = .ok (.aload_n 0, 1) := by decide +kernel
theorem dX11_rename_1 : decode cX11_rename 1 = .ok (.aload_n 0, 1) := by decide +kernel
theorem dX11_rename_2 : decode cX11_rename 2 = .ok (.iload_n 1, 1) := by decide +kernel
theorem dX11_rename_3 : decode cX11_rename 3 = .ok (.invokevirtual 194, 3) := by decide +kernel
theorem dX11_rename_6 : decode cX11_rename 6 = .ok (.ifCond .ne 7, 3) := by decide +kernel
theorem dX11_rename_9 : decode cX11_rename 9 = .ok (.iconst 1, 1) := by decide +kernel
theorem dX11_rename_10 : decode cX11_rename 10 = .ok (.goto 41, 3) := by decide +kernel
theorem dX11_rename_13 : decode cX11_rename 13 = .ok (.iload_n 2, 1) := by decide +kernel
theorem dX11_rename_14 : decode cX11_rename 14 = .ok (.iconst 0, 1) := by decide +kernel
theorem dX11_rename_15 : decode cX11_rename 15 = .ok (.bipush 7, 2) := by decide +kernel
theorem dX11_rename_17 : decode cX11_rename 17 = .ok (.invokestatic 169, 3) := by decide +kernel
theorem dX11_rename_20 : decode cX11_rename 20 = .ok (.ifCond .ne 7, 3) := by decide +kernel
theorem dX11_rename_23 : decode cX11_rename 23 = .ok (.iconst 2, 1) := by decide +kernel
theorem dX11_rename_24 : decode cX11_rename 24 = .ok (.goto 27, 3) := by decide +kernel
theorem dX11_rename_27 : decode cX11_rename 27 = .ok (.aload_n 0, 1) := by decide +kernel
theorem dX11_rename_28 : decode cX11_rename 28 = .ok (.getfield 7, 3) := by decide +kernel
theorem dX11_rename_31 : decode cX11_rename 31 = .ok (.iload_n 1, 1) := by decide +kernel
theorem dX11_rename_32 : decode cX11_rename 32 = .ok (.iaload, 1) := by decide +kernel
theorem dX11_rename_33 : decode cX11_rename 33 = .ok (.iconst 1, 1) := by decide +kernel
theorem dX11_rename_34 : decode cX11_rename 34 = .ok (.if_icmp .eq 12, 3) := by decide +kernel
theorem dX11_rename_37 : decode cX11_rename 37 = .ok (.aload_n 0, 1) := by decide +kernel
theorem dX11_rename_38 : decode cX11_rename 38 = .ok (.getfield 191, 3) := by decide +kernel
theorem dX11_rename_41 : decode cX11_rename 41 = .ok (.bipush 20, 2) := by decide +kernel
theorem dX11_rename_43 : decode cX11_rename 43 = .ok (.if_icmp .ne 7, 3) := by decide +kernel
theorem dX11_rename_46 : decode cX11_rename 46 = .ok (.iconst 3, 1) := by decide +kernel
theorem dX11_rename_47 : decode cX11_rename 47 = .ok (.goto 4, 3) := by decide +kernel
theorem dX11_rename_50 : decode cX11_rename 50 = .ok (.iconst 0, 1) := by decide +kernel
theorem dX11_rename_51 : decode cX11_rename 51 = .ok (.invokevirtual 204, 3) := by decide +kernel
theorem dX11_rename_54 : decode cX11_rename 54 = .ok (.ifCond .eq 5, 3) := by decide +kernel
theorem dX11_rename_57 : decode cX11_rename 57 = .ok (.iconst 0, 1) := by decide +kernel
theorem dX11_rename_58 : decode cX11_rename 58 = .ok (.ireturn, 1) := by decide +kernel
theorem dX11_rename_59 : decode cX11_rename 59 = .ok (.aload_n 0, 1) := by decide +kernel
theorem dX11_rename_60 : decode cX11_rename 60 = .ok (.iconst 2, 1) := by decide +kernel
theorem dX11_rename_61 : decode cX11_rename 61 = .ok (.iload_n 1, 1) := by decide +kernel
theorem dX11_rename_62 : decode cX11_rename 62 = .ok (.iconst (-1), 1) := by decide +kernel
theorem dX11_rename_63 : decode cX11_rename 63 = .ok (.iconst 0, 1) := by decide +kernel
theorem dX11_rename_64 : decode cX11_rename 64 = .ok (.iconst 0, 1) := by decide +kernel
theorem dX11_rename_65 : decode cX11_rename 65 = .ok (.iload_n 2, 1) := by decide +kernel
theorem dX11_rename_66 : decode cX11_rename 66 = .ok (.iconst 0, 1) := by decide +kernel
theorem dX11_rename_67 : decode cX11_rename 67 = .ok (.invokevirtual 207, 3) := by decide +kernel
theorem dX11_rename_70 : decode cX11_rename 70 = .ok (.ireturn, 1) := by decide +kernel
abbrev cX11_setValue : ByteArray := prog_13_method_23_code
def yX11_setValue : MethodName := ⟨RX11, "setValue", "(II)I"⟩
theorem dX11_setValue_0 : decode cX11_setValue 0 = .ok (.aload_n 0, 1) := by decide +kernel
theorem dX11_setValue_1 : decode cX11_setValue 1 = .ok (.aload_n 0, 1) := by decide +kernel
theorem dX11_setValue_2 : decode cX11_setValue 2 = .ok (.iload_n 1, 1) := by decide +kernel
theorem dX11_setValue_3 : decode cX11_setValue 3 = .ok (.invokevirtual 194, 3) := by decide +kernel
theorem dX11_setValue_6 : decode cX11_setValue 6 = .ok (.ifCond .ne 7, 3) := by decide +kernel
theorem dX11_setValue_9 : decode cX11_setValue 9 = .ok (.iconst 1, 1) := by decide +kernel
theorem dX11_setValue_10 : decode cX11_setValue 10 = .ok (.goto 41, 3) := by decide +kernel
theorem dX11_setValue_13 : decode cX11_setValue 13 = .ok (.iload_n 2, 1) := by decide +kernel
theorem dX11_setValue_14 : decode cX11_setValue 14 = .ok (.iconst 0, 1) := by decide +kernel
theorem dX11_setValue_15 : decode cX11_setValue 15 = .ok (.sipush 999, 3) := by decide +kernel
theorem dX11_setValue_18 : decode cX11_setValue 18 = .ok (.invokestatic 169, 3) := by decide +kernel
theorem dX11_setValue_21 : decode cX11_setValue 21 = .ok (.ifCond .ne 7, 3) := by decide +kernel
theorem dX11_setValue_24 : decode cX11_setValue 24 = .ok (.iconst 2, 1) := by decide +kernel
theorem dX11_setValue_25 : decode cX11_setValue 25 = .ok (.goto 26, 3) := by decide +kernel
theorem dX11_setValue_28 : decode cX11_setValue 28 = .ok (.aload_n 0, 1) := by decide +kernel
theorem dX11_setValue_29 : decode cX11_setValue 29 = .ok (.getfield 7, 3) := by decide +kernel
theorem dX11_setValue_32 : decode cX11_setValue 32 = .ok (.iload_n 1, 1) := by decide +kernel
theorem dX11_setValue_33 : decode cX11_setValue 33 = .ok (.iaload, 1) := by decide +kernel
theorem dX11_setValue_34 : decode cX11_setValue 34 = .ok (.ifCond .eq 12, 3) := by decide +kernel
theorem dX11_setValue_37 : decode cX11_setValue 37 = .ok (.aload_n 0, 1) := by decide +kernel
theorem dX11_setValue_38 : decode cX11_setValue 38 = .ok (.getfield 191, 3) := by decide +kernel
theorem dX11_setValue_41 : decode cX11_setValue 41 = .ok (.bipush 20, 2) := by decide +kernel
theorem dX11_setValue_43 : decode cX11_setValue 43 = .ok (.if_icmp .ne 7, 3) := by decide +kernel
theorem dX11_setValue_46 : decode cX11_setValue 46 = .ok (.iconst 3, 1) := by decide +kernel
theorem dX11_setValue_47 : decode cX11_setValue 47 = .ok (.goto 4, 3) := by decide +kernel
theorem dX11_setValue_50 : decode cX11_setValue 50 = .ok (.iconst 0, 1) := by decide +kernel
theorem dX11_setValue_51 : decode cX11_setValue 51 = .ok (.invokevirtual 204, 3) := by decide +kernel
theorem dX11_setValue_54 : decode cX11_setValue 54 = .ok (.ifCond .eq 5, 3) := by decide +kernel
theorem dX11_setValue_57 : decode cX11_setValue 57 = .ok (.iconst 0, 1) := by decide +kernel
theorem dX11_setValue_58 : decode cX11_setValue 58 = .ok (.ireturn, 1) := by decide +kernel
theorem dX11_setValue_59 : decode cX11_setValue 59 = .ok (.aload_n 0, 1) := by decide +kernel
theorem dX11_setValue_60 : decode cX11_setValue 60 = .ok (.iconst 3, 1) := by decide +kernel
theorem dX11_setValue_61 : decode cX11_setValue 61 = .ok (.iload_n 1, 1) := by decide +kernel
theorem dX11_setValue_62 : decode cX11_setValue 62 = .ok (.iconst (-1), 1) := by decide +kernel
theorem dX11_setValue_63 : decode cX11_setValue 63 = .ok (.iconst 0, 1) := by decide +kernel
theorem dX11_setValue_64 : decode cX11_setValue 64 = .ok (.iconst 0, 1) := by decide +kernel
theorem dX11_setValue_65 : decode cX11_setValue 65 = .ok (.iconst 0, 1) := by decide +kernel
theorem dX11_setValue_66 : decode cX11_setValue 66 = .ok (.iload_n 2, 1) := by decide +kernel
theorem dX11_setValue_67 : decode cX11_setValue 67 = .ok (.invokevirtual 207, 3) := by decide +kernel
theorem dX11_setValue_70 : decode cX11_setValue 70 = .ok (.ireturn, 1) := by decide +kernel
abbrev cX11_move : ByteArray := prog_13_method_24_code
def yX11_move : MethodName := ⟨RX11, "move", "(III)I"⟩
theorem dX11_move_0 : decode cX11_move 0 = .ok (.aload_n 0, 1) := by decide +kernel
theorem dX11_move_1 : decode cX11_move 1 = .ok (.iload_n 1, 1) := by decide +kernel
theorem dX11_move_2 : decode cX11_move 2 = .ok (.invokevirtual 194, 3) := by decide +kernel
theorem dX11_move_5 : decode cX11_move 5 = .ok (.ifCond .eq 16, 3) := by decide +kernel
theorem dX11_move_8 : decode cX11_move 8 = .ok (.aload_n 0, 1) := by decide +kernel
theorem dX11_move_9 : decode cX11_move 9 = .ok (.iload_n 2, 1) := by decide +kernel
theorem dX11_move_10 : decode cX11_move 10 = .ok (.iload_n 3, 1) := by decide +kernel
theorem dX11_move_11 : decode cX11_move 11 = .ok (.invokevirtual 198, 3) := by decide +kernel
theorem dX11_move_14 : decode cX11_move 14 = .ok (.ifCond .eq 7, 3) := by decide +kernel
theorem dX11_move_17 : decode cX11_move 17 = .ok (.iconst 1, 1) := by decide +kernel
theorem dX11_move_18 : decode cX11_move 18 = .ok (.goto 4, 3) := by decide +kernel
theorem dX11_move_21 : decode cX11_move 21 = .ok (.iconst 0, 1) := by decide +kernel
theorem dX11_move_22 : decode cX11_move 22 = .ok (.istore 4, 2) := by decide +kernel
theorem dX11_move_24 : decode cX11_move 24 = .ok (.aload_n 0, 1) := by decide +kernel
theorem dX11_move_25 : decode cX11_move 25 = .ok (.iload 4, 2) := by decide +kernel
theorem dX11_move_27 : decode cX11_move 27 = .ok (.ifCond .ne 7, 3) := by decide +kernel
theorem dX11_move_30 : decode cX11_move 30 = .ok (.iconst 1, 1) := by decide +kernel
theorem dX11_move_31 : decode cX11_move 31 = .ok (.goto 30, 3) := by decide +kernel
theorem dX11_move_34 : decode cX11_move 34 = .ok (.iload_n 1, 1) := by decide +kernel
theorem dX11_move_35 : decode cX11_move 35 = .ok (.ifCond .eq 21, 3) := by decide +kernel
theorem dX11_move_38 : decode cX11_move 38 = .ok (.aload_n 0, 1) := by decide +kernel
theorem dX11_move_39 : decode cX11_move 39 = .ok (.getfield 7, 3) := by decide +kernel
theorem dX11_move_42 : decode cX11_move 42 = .ok (.iload_n 1, 1) := by decide +kernel
theorem dX11_move_43 : decode cX11_move 43 = .ok (.iaload, 1) := by decide +kernel
theorem dX11_move_44 : decode cX11_move 44 = .ok (.iconst 2, 1) := by decide +kernel
theorem dX11_move_45 : decode cX11_move 45 = .ok (.if_icmp .eq 11, 3) := by decide +kernel
theorem dX11_move_48 : decode cX11_move 48 = .ok (.aload_n 0, 1) := by decide +kernel
theorem dX11_move_49 : decode cX11_move 49 = .ok (.iload_n 2, 1) := by decide +kernel
theorem dX11_move_50 : decode cX11_move 50 = .ok (.invokevirtual 201, 3) := by decide +kernel
theorem dX11_move_53 : decode cX11_move 53 = .ok (.ifCond .ne 7, 3) := by decide +kernel
theorem dX11_move_56 : decode cX11_move 56 = .ok (.iconst 2, 1) := by decide +kernel
theorem dX11_move_57 : decode cX11_move 57 = .ok (.goto 4, 3) := by decide +kernel
theorem dX11_move_60 : decode cX11_move 60 = .ok (.iconst 0, 1) := by decide +kernel
theorem dX11_move_61 : decode cX11_move 61 = .ok (.invokevirtual 204, 3) := by decide +kernel
theorem dX11_move_64 : decode cX11_move 64 = .ok (.ifCond .eq 5, 3) := by decide +kernel
theorem dX11_move_67 : decode cX11_move 67 = .ok (.iconst 0, 1) := by decide +kernel
theorem dX11_move_68 : decode cX11_move 68 = .ok (.ireturn, 1) := by decide +kernel
theorem dX11_move_69 : decode cX11_move 69 = .ok (.aload_n 0, 1) := by decide +kernel
theorem dX11_move_70 : decode cX11_move 70 = .ok (.iconst 4, 1) := by decide +kernel
theorem dX11_move_71 : decode cX11_move 71 = .ok (.iload_n 1, 1) := by decide +kernel
theorem dX11_move_72 : decode cX11_move 72 = .ok (.iload_n 2, 1) := by decide +kernel
theorem dX11_move_73 : decode cX11_move 73 = .ok (.iload_n 3, 1) := by decide +kernel
theorem dX11_move_74 : decode cX11_move 74 = .ok (.iconst 0, 1) := by decide +kernel
theorem dX11_move_75 : decode cX11_move 75 = .ok (.iconst 0, 1) := by decide +kernel
theorem dX11_move_76 : decode cX11_move 76 = .ok (.iconst 0, 1) := by decide +kernel
theorem dX11_move_77 : decode cX11_move 77 = .ok (.invokevirtual 207, 3) := by decide +kernel
theorem dX11_move_80 : decode cX11_move 80 = .ok (.ireturn, 1) := by decide +kernel
abbrev cX11_declare : ByteArray := prog_13_method_25_code
def yX11_declare : MethodName := ⟨RX11, "declare", "(II)I"⟩
theorem dX11_declare_0 : decode cX11_declare 0 = .ok (.aload_n 0, 1) := by decide +kernel
theorem dX11_declare_1 : decode cX11_declare 1 = .ok (.aload_n 0, 1) := by decide +kernel
theorem dX11_declare_2 : decode cX11_declare 2 = .ok (.iload_n 1, 1) := by decide +kernel
theorem dX11_declare_3 : decode cX11_declare 3 = .ok (.invokevirtual 194, 3) := by decide +kernel
theorem dX11_declare_6 : decode cX11_declare 6 = .ok (.ifCond .ne 7, 3) := by decide +kernel
theorem dX11_declare_9 : decode cX11_declare 9 = .ok (.iconst 1, 1) := by decide +kernel
theorem dX11_declare_10 : decode cX11_declare 10 = .ok (.goto 39, 3) := by decide +kernel
theorem dX11_declare_13 : decode cX11_declare 13 = .ok (.iload_n 2, 1) := by decide +kernel
theorem dX11_declare_14 : decode cX11_declare 14 = .ok (.iconst (-1), 1) := by decide +kernel
theorem dX11_declare_15 : decode cX11_declare 15 = .ok (.iconst 3, 1) := by decide +kernel
theorem dX11_declare_16 : decode cX11_declare 16 = .ok (.invokestatic 169, 3) := by decide +kernel
theorem dX11_declare_19 : decode cX11_declare 19 = .ok (.ifCond .ne 7, 3) := by decide +kernel
theorem dX11_declare_22 : decode cX11_declare 22 = .ok (.iconst 2, 1) := by decide +kernel
theorem dX11_declare_23 : decode cX11_declare 23 = .ok (.goto 26, 3) := by decide +kernel
theorem dX11_declare_26 : decode cX11_declare 26 = .ok (.aload_n 0, 1) := by decide +kernel
theorem dX11_declare_27 : decode cX11_declare 27 = .ok (.getfield 7, 3) := by decide +kernel
theorem dX11_declare_30 : decode cX11_declare 30 = .ok (.iload_n 1, 1) := by decide +kernel
theorem dX11_declare_31 : decode cX11_declare 31 = .ok (.iaload, 1) := by decide +kernel
theorem dX11_declare_32 : decode cX11_declare 32 = .ok (.ifCond .ne 12, 3) := by decide +kernel
theorem dX11_declare_35 : decode cX11_declare 35 = .ok (.aload_n 0, 1) := by decide +kernel
theorem dX11_declare_36 : decode cX11_declare 36 = .ok (.getfield 191, 3) := by decide +kernel
theorem dX11_declare_39 : decode cX11_declare 39 = .ok (.bipush 20, 2) := by decide +kernel
theorem dX11_declare_41 : decode cX11_declare 41 = .ok (.if_icmp .ne 7, 3) := by decide +kernel
theorem dX11_declare_44 : decode cX11_declare 44 = .ok (.iconst 3, 1) := by decide +kernel
theorem dX11_declare_45 : decode cX11_declare 45 = .ok (.goto 4, 3) := by decide +kernel
theorem dX11_declare_48 : decode cX11_declare 48 = .ok (.iconst 0, 1) := by decide +kernel
theorem dX11_declare_49 : decode cX11_declare 49 = .ok (.invokevirtual 204, 3) := by decide +kernel
theorem dX11_declare_52 : decode cX11_declare 52 = .ok (.ifCond .eq 5, 3) := by decide +kernel
theorem dX11_declare_55 : decode cX11_declare 55 = .ok (.iconst 0, 1) := by decide +kernel
theorem dX11_declare_56 : decode cX11_declare 56 = .ok (.ireturn, 1) := by decide +kernel
theorem dX11_declare_57 : decode cX11_declare 57 = .ok (.aload_n 0, 1) := by decide +kernel
theorem dX11_declare_58 : decode cX11_declare 58 = .ok (.iconst 5, 1) := by decide +kernel
theorem dX11_declare_59 : decode cX11_declare 59 = .ok (.iload_n 1, 1) := by decide +kernel
theorem dX11_declare_60 : decode cX11_declare 60 = .ok (.iconst (-1), 1) := by decide +kernel
theorem dX11_declare_61 : decode cX11_declare 61 = .ok (.iconst 0, 1) := by decide +kernel
theorem dX11_declare_62 : decode cX11_declare 62 = .ok (.iconst 0, 1) := by decide +kernel
theorem dX11_declare_63 : decode cX11_declare 63 = .ok (.iconst 0, 1) := by decide +kernel
theorem dX11_declare_64 : decode cX11_declare 64 = .ok (.iload_n 2, 1) := by decide +kernel
theorem dX11_declare_65 : decode cX11_declare 65 = .ok (.invokevirtual 207, 3) := by decide +kernel
theorem dX11_declare_68 : decode cX11_declare 68 = .ok (.ireturn, 1) := by decide +kernel
abbrev cX11_isAtOdds : ByteArray := prog_13_method_26_code
def yX11_isAtOdds : MethodName := ⟨RX11, "isAtOdds", "()Z"⟩
theorem dX11_isAtOdds_0 : decode cX11_isAtOdds 0 = .ok (.iconst 0, 1) := by decide +kernel
theorem dX11_isAtOdds_1 : decode cX11_isAtOdds 1 = .ok (.istore_n 1, 1) := by decide +kernel
theorem dX11_isAtOdds_2 : decode cX11_isAtOdds 2 = .ok (.iconst 0, 1) := by decide +kernel
theorem dX11_isAtOdds_3 : decode cX11_isAtOdds 3 = .ok (.istore_n 2, 1) := by decide +kernel
theorem dX11_isAtOdds_4 : decode cX11_isAtOdds 4 = .ok (.iload_n 2, 1) := by decide +kernel
theorem dX11_isAtOdds_5 : decode cX11_isAtOdds 5 = .ok (.aload_n 0, 1) := by decide +kernel
theorem dX11_isAtOdds_6 : decode cX11_isAtOdds 6 = .ok (.getfield 191, 3) := by decide +kernel
theorem dX11_isAtOdds_9 : decode cX11_isAtOdds 9 = .ok (.if_icmp .ge 157, 3) := by decide +kernel
theorem dX11_isAtOdds_12 : decode cX11_isAtOdds 12 = .ok (.iconst 0, 1) := by decide +kernel
theorem dX11_isAtOdds_13 : decode cX11_isAtOdds 13 = .ok (.istore_n 3, 1) := by decide +kernel
theorem dX11_isAtOdds_14 : decode cX11_isAtOdds 14 = .ok (.iload_n 3, 1) := by decide +kernel
theorem dX11_isAtOdds_15 : decode cX11_isAtOdds 15 = .ok (.aload_n 0, 1) := by decide +kernel
theorem dX11_isAtOdds_16 : decode cX11_isAtOdds 16 = .ok (.getfield 191, 3) := by decide +kernel
theorem dX11_isAtOdds_19 : decode cX11_isAtOdds 19 = .ok (.if_icmp .ge 141, 3) := by decide +kernel
theorem dX11_isAtOdds_22 : decode cX11_isAtOdds 22 = .ok (.iload_n 2, 1) := by decide +kernel
theorem dX11_isAtOdds_23 : decode cX11_isAtOdds 23 = .ok (.iload_n 3, 1) := by decide +kernel
theorem dX11_isAtOdds_24 : decode cX11_isAtOdds 24 = .ok (.if_icmp .eq 47, 3) := by decide +kernel
theorem dX11_isAtOdds_27 : decode cX11_isAtOdds 27 = .ok (.aload_n 0, 1) := by decide +kernel
theorem dX11_isAtOdds_28 : decode cX11_isAtOdds 28 = .ok (.getfield 44, 3) := by decide +kernel
theorem dX11_isAtOdds_31 : decode cX11_isAtOdds 31 = .ok (.bipush 7, 2) := by decide +kernel
theorem dX11_isAtOdds_33 : decode cX11_isAtOdds 33 = .ok (.iload_n 2, 1) := by decide +kernel
theorem dX11_isAtOdds_34 : decode cX11_isAtOdds 34 = .ok (.imul, 1) := by decide +kernel
theorem dX11_isAtOdds_35 : decode cX11_isAtOdds 35 = .ok (.iconst 1, 1) := by decide +kernel
theorem dX11_isAtOdds_36 : decode cX11_isAtOdds 36 = .ok (.iadd, 1) := by decide +kernel
theorem dX11_isAtOdds_37 : decode cX11_isAtOdds 37 = .ok (.iaload, 1) := by decide +kernel
theorem dX11_isAtOdds_38 : decode cX11_isAtOdds 38 = .ok (.aload_n 0, 1) := by decide +kernel
theorem dX11_isAtOdds_39 : decode cX11_isAtOdds 39 = .ok (.getfield 44, 3) := by decide +kernel
theorem dX11_isAtOdds_42 : decode cX11_isAtOdds 42 = .ok (.bipush 7, 2) := by decide +kernel
theorem dX11_isAtOdds_44 : decode cX11_isAtOdds 44 = .ok (.iload_n 3, 1) := by decide +kernel
theorem dX11_isAtOdds_45 : decode cX11_isAtOdds 45 = .ok (.imul, 1) := by decide +kernel
theorem dX11_isAtOdds_46 : decode cX11_isAtOdds 46 = .ok (.iconst 1, 1) := by decide +kernel
theorem dX11_isAtOdds_47 : decode cX11_isAtOdds 47 = .ok (.iadd, 1) := by decide +kernel
theorem dX11_isAtOdds_48 : decode cX11_isAtOdds 48 = .ok (.iaload, 1) := by decide +kernel
theorem dX11_isAtOdds_49 : decode cX11_isAtOdds 49 = .ok (.if_icmp .ne 22, 3) := by decide +kernel
theorem dX11_isAtOdds_52 : decode cX11_isAtOdds 52 = .ok (.aload_n 0, 1) := by decide +kernel
theorem dX11_isAtOdds_53 : decode cX11_isAtOdds 53 = .ok (.getfield 44, 3) := by decide +kernel
theorem dX11_isAtOdds_56 : decode cX11_isAtOdds 56 = .ok (.bipush 7, 2) := by decide +kernel
theorem dX11_isAtOdds_58 : decode cX11_isAtOdds 58 = .ok (.iload_n 2, 1) := by decide +kernel
theorem dX11_isAtOdds_59 : decode cX11_isAtOdds 59 = .ok (.imul, 1) := by decide +kernel
theorem dX11_isAtOdds_60 : decode cX11_isAtOdds 60 = .ok (.iconst 1, 1) := by decide +kernel
theorem dX11_isAtOdds_61 : decode cX11_isAtOdds 61 = .ok (.iadd, 1) := by decide +kernel
theorem dX11_isAtOdds_62 : decode cX11_isAtOdds 62 = .ok (.iaload, 1) := by decide +kernel
theorem dX11_isAtOdds_63 : decode cX11_isAtOdds 63 = .ok (.iconst (-1), 1) := by decide +kernel
theorem dX11_isAtOdds_64 : decode cX11_isAtOdds 64 = .ok (.if_icmp .eq 7, 3) := by decide +kernel
theorem dX11_isAtOdds_67 : decode cX11_isAtOdds 67 = .ok (.iconst 1, 1) := by decide +kernel
theorem dX11_isAtOdds_68 : decode cX11_isAtOdds 68 = .ok (.goto 4, 3) := by decide +kernel
theorem dX11_isAtOdds_71 : decode cX11_isAtOdds 71 = .ok (.iconst 0, 1) := by decide +kernel
theorem dX11_isAtOdds_72 : decode cX11_isAtOdds 72 = .ok (.istore 4, 2) := by decide +kernel
theorem dX11_isAtOdds_74 : decode cX11_isAtOdds 74 = .ok (.iload_n 1, 1) := by decide +kernel
theorem dX11_isAtOdds_75 : decode cX11_isAtOdds 75 = .ok (.ifCond .ne 73, 3) := by decide +kernel
theorem dX11_isAtOdds_78 : decode cX11_isAtOdds 78 = .ok (.iload 4, 2) := by decide +kernel
theorem dX11_isAtOdds_80 : decode cX11_isAtOdds 80 = .ok (.ifCond .eq 37, 3) := by decide +kernel
theorem dX11_isAtOdds_83 : decode cX11_isAtOdds 83 = .ok (.aload_n 0, 1) := by decide +kernel
theorem dX11_isAtOdds_84 : decode cX11_isAtOdds 84 = .ok (.getfield 44, 3) := by decide +kernel
theorem dX11_isAtOdds_87 : decode cX11_isAtOdds 87 = .ok (.bipush 7, 2) := by decide +kernel
theorem dX11_isAtOdds_89 : decode cX11_isAtOdds 89 = .ok (.iload_n 2, 1) := by decide +kernel
theorem dX11_isAtOdds_90 : decode cX11_isAtOdds 90 = .ok (.imul, 1) := by decide +kernel
theorem dX11_isAtOdds_91 : decode cX11_isAtOdds 91 = .ok (.iaload, 1) := by decide +kernel
theorem dX11_isAtOdds_92 : decode cX11_isAtOdds 92 = .ok (.iconst 2, 1) := by decide +kernel
theorem dX11_isAtOdds_93 : decode cX11_isAtOdds 93 = .ok (.if_icmp .lt 24, 3) := by decide +kernel
theorem dX11_isAtOdds_96 : decode cX11_isAtOdds 96 = .ok (.aload_n 0, 1) := by decide +kernel
theorem dX11_isAtOdds_97 : decode cX11_isAtOdds 97 = .ok (.getfield 44, 3) := by decide +kernel
theorem dX11_isAtOdds_100 : decode cX11_isAtOdds 100 = .ok (.bipush 7, 2) := by decide +kernel
theorem dX11_isAtOdds_102 : decode cX11_isAtOdds 102 = .ok (.iload_n 2, 1) := by decide +kernel
theorem dX11_isAtOdds_103 : decode cX11_isAtOdds 103 = .ok (.imul, 1) := by decide +kernel
theorem dX11_isAtOdds_104 : decode cX11_isAtOdds 104 = .ok (.iaload, 1) := by decide +kernel
theorem dX11_isAtOdds_105 : decode cX11_isAtOdds 105 = .ok (.aload_n 0, 1) := by decide +kernel
theorem dX11_isAtOdds_106 : decode cX11_isAtOdds 106 = .ok (.getfield 44, 3) := by decide +kernel
theorem dX11_isAtOdds_109 : decode cX11_isAtOdds 109 = .ok (.bipush 7, 2) := by decide +kernel
theorem dX11_isAtOdds_111 : decode cX11_isAtOdds 111 = .ok (.iload_n 3, 1) := by decide +kernel
theorem dX11_isAtOdds_112 : decode cX11_isAtOdds 112 = .ok (.imul, 1) := by decide +kernel
theorem dX11_isAtOdds_113 : decode cX11_isAtOdds 113 = .ok (.iaload, 1) := by decide +kernel
theorem dX11_isAtOdds_114 : decode cX11_isAtOdds 114 = .ok (.if_icmp .eq 34, 3) := by decide +kernel
theorem dX11_isAtOdds_117 : decode cX11_isAtOdds 117 = .ok (.iload 4, 2) := by decide +kernel
theorem dX11_isAtOdds_119 : decode cX11_isAtOdds 119 = .ok (.ifCond .eq 33, 3) := by decide +kernel
theorem dX11_isAtOdds_122 : decode cX11_isAtOdds 122 = .ok (.aload_n 0, 1) := by decide +kernel
theorem dX11_isAtOdds_123 : decode cX11_isAtOdds 123 = .ok (.getfield 44, 3) := by decide +kernel
theorem dX11_isAtOdds_126 : decode cX11_isAtOdds 126 = .ok (.bipush 7, 2) := by decide +kernel
theorem dX11_isAtOdds_128 : decode cX11_isAtOdds 128 = .ok (.iload_n 2, 1) := by decide +kernel
theorem dX11_isAtOdds_129 : decode cX11_isAtOdds 129 = .ok (.imul, 1) := by decide +kernel
theorem dX11_isAtOdds_130 : decode cX11_isAtOdds 130 = .ok (.iaload, 1) := by decide +kernel
theorem dX11_isAtOdds_131 : decode cX11_isAtOdds 131 = .ok (.iconst 4, 1) := by decide +kernel
theorem dX11_isAtOdds_132 : decode cX11_isAtOdds 132 = .ok (.if_icmp .ne 20, 3) := by decide +kernel
theorem dX11_isAtOdds_135 : decode cX11_isAtOdds 135 = .ok (.aload_n 0, 1) := by decide +kernel
theorem dX11_isAtOdds_136 : decode cX11_isAtOdds 136 = .ok (.getfield 44, 3) := by decide +kernel
theorem dX11_isAtOdds_139 : decode cX11_isAtOdds 139 = .ok (.bipush 7, 2) := by decide +kernel
theorem dX11_isAtOdds_141 : decode cX11_isAtOdds 141 = .ok (.iload_n 3, 1) := by decide +kernel
theorem dX11_isAtOdds_142 : decode cX11_isAtOdds 142 = .ok (.imul, 1) := by decide +kernel
theorem dX11_isAtOdds_143 : decode cX11_isAtOdds 143 = .ok (.iaload, 1) := by decide +kernel
theorem dX11_isAtOdds_144 : decode cX11_isAtOdds 144 = .ok (.iconst 1, 1) := by decide +kernel
theorem dX11_isAtOdds_145 : decode cX11_isAtOdds 145 = .ok (.if_icmp .ne 7, 3) := by decide +kernel
theorem dX11_isAtOdds_148 : decode cX11_isAtOdds 148 = .ok (.iconst 1, 1) := by decide +kernel
theorem dX11_isAtOdds_149 : decode cX11_isAtOdds 149 = .ok (.goto 4, 3) := by decide +kernel
theorem dX11_isAtOdds_152 : decode cX11_isAtOdds 152 = .ok (.iconst 0, 1) := by decide +kernel
theorem dX11_isAtOdds_153 : decode cX11_isAtOdds 153 = .ok (.istore_n 1, 1) := by decide +kernel
theorem dX11_isAtOdds_154 : decode cX11_isAtOdds 154 = .ok (.iinc 3 1, 3) := by decide +kernel
theorem dX11_isAtOdds_157 : decode cX11_isAtOdds 157 = .ok (.goto (-143), 3) := by decide +kernel
theorem dX11_isAtOdds_160 : decode cX11_isAtOdds 160 = .ok (.iinc 2 1, 3) := by decide +kernel
theorem dX11_isAtOdds_163 : decode cX11_isAtOdds 163 = .ok (.goto (-159), 3) := by decide +kernel
theorem dX11_isAtOdds_166 : decode cX11_isAtOdds 166 = .ok (.iload_n 1, 1) := by decide +kernel
theorem dX11_isAtOdds_167 : decode cX11_isAtOdds 167 = .ok (.ireturn, 1) := by decide +kernel
abbrev cX11_isListed : ByteArray := prog_13_method_27_code
def yX11_isListed : MethodName := ⟨RX11, "isListed", "(II)Z"⟩
theorem dX11_isListed_0 : decode cX11_isListed 0 = .ok (.iconst 0, 1) := by decide +kernel
theorem dX11_isListed_1 : decode cX11_isListed 1 = .ok (.istore_n 3, 1) := by decide +kernel
theorem dX11_isListed_2 : decode cX11_isListed 2 = .ok (.iconst 0, 1) := by decide +kernel
theorem dX11_isListed_3 : decode cX11_isListed 3 = .ok (.istore 4, 2) := by decide +kernel
theorem dX11_isListed_5 : decode cX11_isListed 5 = .ok (.iload 4, 2) := by decide +kernel
theorem dX11_isListed_7 : decode cX11_isListed 7 = .ok (.aload_n 0, 1) := by decide +kernel
theorem dX11_isListed_8 : decode cX11_isListed 8 = .ok (.getfield 191, 3) := by decide +kernel
theorem dX11_isListed_11 : decode cX11_isListed 11 = .ok (.if_icmp .ge 49, 3) := by decide +kernel
theorem dX11_isListed_14 : decode cX11_isListed 14 = .ok (.iload_n 3, 1) := by decide +kernel
theorem dX11_isListed_15 : decode cX11_isListed 15 = .ok (.ifCond .ne 33, 3) := by decide +kernel
theorem dX11_isListed_18 : decode cX11_isListed 18 = .ok (.aload_n 0, 1) := by decide +kernel
theorem dX11_isListed_19 : decode cX11_isListed 19 = .ok (.getfield 44, 3) := by decide +kernel
theorem dX11_isListed_22 : decode cX11_isListed 22 = .ok (.bipush 7, 2) := by decide +kernel
theorem dX11_isListed_24 : decode cX11_isListed 24 = .ok (.iload 4, 2) := by decide +kernel
theorem dX11_isListed_26 : decode cX11_isListed 26 = .ok (.imul, 1) := by decide +kernel
theorem dX11_isListed_27 : decode cX11_isListed 27 = .ok (.iaload, 1) := by decide +kernel
theorem dX11_isListed_28 : decode cX11_isListed 28 = .ok (.iload_n 2, 1) := by decide +kernel
theorem dX11_isListed_29 : decode cX11_isListed 29 = .ok (.if_icmp .ne 23, 3) := by decide +kernel
theorem dX11_isListed_32 : decode cX11_isListed 32 = .ok (.aload_n 0, 1) := by decide +kernel
theorem dX11_isListed_33 : decode cX11_isListed 33 = .ok (.getfield 44, 3) := by decide +kernel
theorem dX11_isListed_36 : decode cX11_isListed 36 = .ok (.bipush 7, 2) := by decide +kernel
theorem dX11_isListed_38 : decode cX11_isListed 38 = .ok (.iload 4, 2) := by decide +kernel
theorem dX11_isListed_40 : decode cX11_isListed 40 = .ok (.imul, 1) := by decide +kernel
theorem dX11_isListed_41 : decode cX11_isListed 41 = .ok (.iconst 1, 1) := by decide +kernel
theorem dX11_isListed_42 : decode cX11_isListed 42 = .ok (.iadd, 1) := by decide +kernel
theorem dX11_isListed_43 : decode cX11_isListed 43 = .ok (.iaload, 1) := by decide +kernel
theorem dX11_isListed_44 : decode cX11_isListed 44 = .ok (.iload_n 1, 1) := by decide +kernel
theorem dX11_isListed_45 : decode cX11_isListed 45 = .ok (.if_icmp .ne 7, 3) := by decide +kernel
theorem dX11_isListed_48 : decode cX11_isListed 48 = .ok (.iconst 1, 1) := by decide +kernel
theorem dX11_isListed_49 : decode cX11_isListed 49 = .ok (.goto 4, 3) := by decide +kernel
theorem dX11_isListed_52 : decode cX11_isListed 52 = .ok (.iconst 0, 1) := by decide +kernel
theorem dX11_isListed_53 : decode cX11_isListed 53 = .ok (.istore_n 3, 1) := by decide +kernel
theorem dX11_isListed_54 : decode cX11_isListed 54 = .ok (.iinc 4 1, 3) := by decide +kernel
theorem dX11_isListed_57 : decode cX11_isListed 57 = .ok (.goto (-52), 3) := by decide +kernel
theorem dX11_isListed_60 : decode cX11_isListed 60 = .ok (.iload_n 3, 1) := by decide +kernel
theorem dX11_isListed_61 : decode cX11_isListed 61 = .ok (.ireturn, 1) := by decide +kernel
abbrev cX11_remember : ByteArray := prog_13_method_28_code
def yX11_remember : MethodName := ⟨RX11, "remember", "()V"⟩
theorem dX11_remember_0 : decode cX11_remember 0 = .ok (.iconst 0, 1) := by decide +kernel
theorem dX11_remember_1 : decode cX11_remember 1 = .ok (.istore_n 1, 1) := by decide +kernel
theorem dX11_remember_2 : decode cX11_remember 2 = .ok (.iload_n 1, 1) := by decide +kernel
theorem dX11_remember_3 : decode cX11_remember 3 = .ok (.bipush 60, 2) := by decide +kernel
theorem dX11_remember_5 : decode cX11_remember 5 = .ok (.if_icmp .ge 81, 3) := by decide +kernel
theorem dX11_remember_8 : decode cX11_remember 8 = .ok (.aload_n 0, 1) := by decide +kernel
theorem dX11_remember_9 : decode cX11_remember 9 = .ok (.getfield 47, 3) := by decide +kernel
theorem dX11_remember_12 : decode cX11_remember 12 = .ok (.iload_n 1, 1) := by decide +kernel
theorem dX11_remember_13 : decode cX11_remember 13 = .ok (.aload_n 0, 1) := by decide +kernel
theorem dX11_remember_14 : decode cX11_remember 14 = .ok (.getfield 13, 3) := by decide +kernel
theorem dX11_remember_17 : decode cX11_remember 17 = .ok (.iload_n 1, 1) := by decide +kernel
theorem dX11_remember_18 : decode cX11_remember 18 = .ok (.iaload, 1) := by decide +kernel
theorem dX11_remember_19 : decode cX11_remember 19 = .ok (.iastore, 1) := by decide +kernel
theorem dX11_remember_20 : decode cX11_remember 20 = .ok (.aload_n 0, 1) := by decide +kernel
theorem dX11_remember_21 : decode cX11_remember 21 = .ok (.getfield 50, 3) := by decide +kernel
theorem dX11_remember_24 : decode cX11_remember 24 = .ok (.iload_n 1, 1) := by decide +kernel
theorem dX11_remember_25 : decode cX11_remember 25 = .ok (.aload_n 0, 1) := by decide +kernel
theorem dX11_remember_26 : decode cX11_remember 26 = .ok (.getfield 16, 3) := by decide +kernel
theorem dX11_remember_29 : decode cX11_remember 29 = .ok (.iload_n 1, 1) := by decide +kernel
theorem dX11_remember_30 : decode cX11_remember 30 = .ok (.iaload, 1) := by decide +kernel
theorem dX11_remember_31 : decode cX11_remember 31 = .ok (.iastore, 1) := by decide +kernel
theorem dX11_remember_32 : decode cX11_remember 32 = .ok (.aload_n 0, 1) := by decide +kernel
theorem dX11_remember_33 : decode cX11_remember 33 = .ok (.getfield 53, 3) := by decide +kernel
theorem dX11_remember_36 : decode cX11_remember 36 = .ok (.iload_n 1, 1) := by decide +kernel
theorem dX11_remember_37 : decode cX11_remember 37 = .ok (.aload_n 0, 1) := by decide +kernel
theorem dX11_remember_38 : decode cX11_remember 38 = .ok (.getfield 19, 3) := by decide +kernel
theorem dX11_remember_41 : decode cX11_remember 41 = .ok (.iload_n 1, 1) := by decide +kernel
theorem dX11_remember_42 : decode cX11_remember 42 = .ok (.iaload, 1) := by decide +kernel
theorem dX11_remember_43 : decode cX11_remember 43 = .ok (.iastore, 1) := by decide +kernel
theorem dX11_remember_44 : decode cX11_remember 44 = .ok (.aload_n 0, 1) := by decide +kernel
theorem dX11_remember_45 : decode cX11_remember 45 = .ok (.getfield 56, 3) := by decide +kernel
theorem dX11_remember_48 : decode cX11_remember 48 = .ok (.iload_n 1, 1) := by decide +kernel
theorem dX11_remember_49 : decode cX11_remember 49 = .ok (.aload_n 0, 1) := by decide +kernel
theorem dX11_remember_50 : decode cX11_remember 50 = .ok (.getfield 22, 3) := by decide +kernel
theorem dX11_remember_53 : decode cX11_remember 53 = .ok (.iload_n 1, 1) := by decide +kernel
theorem dX11_remember_54 : decode cX11_remember 54 = .ok (.iaload, 1) := by decide +kernel
theorem dX11_remember_55 : decode cX11_remember 55 = .ok (.iastore, 1) := by decide +kernel
theorem dX11_remember_56 : decode cX11_remember 56 = .ok (.aload_n 0, 1) := by decide +kernel
theorem dX11_remember_57 : decode cX11_remember 57 = .ok (.getfield 59, 3) := by decide +kernel
theorem dX11_remember_60 : decode cX11_remember 60 = .ok (.iload_n 1, 1) := by decide +kernel
theorem dX11_remember_61 : decode cX11_remember 61 = .ok (.aload_n 0, 1) := by decide +kernel
theorem dX11_remember_62 : decode cX11_remember 62 = .ok (.getfield 25, 3) := by decide +kernel
theorem dX11_remember_65 : decode cX11_remember 65 = .ok (.iload_n 1, 1) := by decide +kernel
theorem dX11_remember_66 : decode cX11_remember 66 = .ok (.iaload, 1) := by decide +kernel
theorem dX11_remember_67 : decode cX11_remember 67 = .ok (.iastore, 1) := by decide +kernel
theorem dX11_remember_68 : decode cX11_remember 68 = .ok (.aload_n 0, 1) := by decide +kernel
theorem dX11_remember_69 : decode cX11_remember 69 = .ok (.getfield 62, 3) := by decide +kernel
theorem dX11_remember_72 : decode cX11_remember 72 = .ok (.iload_n 1, 1) := by decide +kernel
theorem dX11_remember_73 : decode cX11_remember 73 = .ok (.aload_n 0, 1) := by decide +kernel
theorem dX11_remember_74 : decode cX11_remember 74 = .ok (.getfield 31, 3) := by decide +kernel
theorem dX11_remember_77 : decode cX11_remember 77 = .ok (.iload_n 1, 1) := by decide +kernel
theorem dX11_remember_78 : decode cX11_remember 78 = .ok (.baload, 1) := by decide +kernel
theorem dX11_remember_79 : decode cX11_remember 79 = .ok (.bastore, 1) := by decide +kernel
theorem dX11_remember_80 : decode cX11_remember 80 = .ok (.iinc 1 1, 3) := by decide +kernel
theorem dX11_remember_83 : decode cX11_remember 83 = .ok (.goto (-81), 3) := by decide +kernel
theorem dX11_remember_86 : decode cX11_remember 86 = .ok (.return_, 1) := by decide +kernel
abbrev cX11_comeBack : ByteArray := prog_13_method_29_code
def yX11_comeBack : MethodName := ⟨RX11, "comeBack", "()V"⟩
theorem dX11_comeBack_0 : decode cX11_comeBack 0 = .ok (.iconst 0, 1) := by decide +kernel
theorem dX11_comeBack_1 : decode cX11_comeBack 1 = .ok (.istore_n 1, 1) := by decide +kernel
theorem dX11_comeBack_2 : decode cX11_comeBack 2 = .ok (.iload_n 1, 1) := by decide +kernel
theorem dX11_comeBack_3 : decode cX11_comeBack 3 = .ok (.bipush 60, 2) := by decide +kernel
theorem dX11_comeBack_5 : decode cX11_comeBack 5 = .ok (.if_icmp .ge 81, 3) := by decide +kernel
theorem dX11_comeBack_8 : decode cX11_comeBack 8 = .ok (.aload_n 0, 1) := by decide +kernel
theorem dX11_comeBack_9 : decode cX11_comeBack 9 = .ok (.getfield 13, 3) := by decide +kernel
theorem dX11_comeBack_12 : decode cX11_comeBack 12 = .ok (.iload_n 1, 1) := by decide +kernel
theorem dX11_comeBack_13 : decode cX11_comeBack 13 = .ok (.aload_n 0, 1) := by decide +kernel
theorem dX11_comeBack_14 : decode cX11_comeBack 14 = .ok (.getfield 47, 3) := by decide +kernel
theorem dX11_comeBack_17 : decode cX11_comeBack 17 = .ok (.iload_n 1, 1) := by decide +kernel
theorem dX11_comeBack_18 : decode cX11_comeBack 18 = .ok (.iaload, 1) := by decide +kernel
theorem dX11_comeBack_19 : decode cX11_comeBack 19 = .ok (.iastore, 1) := by decide +kernel
theorem dX11_comeBack_20 : decode cX11_comeBack 20 = .ok (.aload_n 0, 1) := by decide +kernel
theorem dX11_comeBack_21 : decode cX11_comeBack 21 = .ok (.getfield 16, 3) := by decide +kernel
theorem dX11_comeBack_24 : decode cX11_comeBack 24 = .ok (.iload_n 1, 1) := by decide +kernel
theorem dX11_comeBack_25 : decode cX11_comeBack 25 = .ok (.aload_n 0, 1) := by decide +kernel
theorem dX11_comeBack_26 : decode cX11_comeBack 26 = .ok (.getfield 50, 3) := by decide +kernel
theorem dX11_comeBack_29 : decode cX11_comeBack 29 = .ok (.iload_n 1, 1) := by decide +kernel
theorem dX11_comeBack_30 : decode cX11_comeBack 30 = .ok (.iaload, 1) := by decide +kernel
theorem dX11_comeBack_31 : decode cX11_comeBack 31 = .ok (.iastore, 1) := by decide +kernel
theorem dX11_comeBack_32 : decode cX11_comeBack 32 = .ok (.aload_n 0, 1) := by decide +kernel
theorem dX11_comeBack_33 : decode cX11_comeBack 33 = .ok (.getfield 19, 3) := by decide +kernel
theorem dX11_comeBack_36 : decode cX11_comeBack 36 = .ok (.iload_n 1, 1) := by decide +kernel
theorem dX11_comeBack_37 : decode cX11_comeBack 37 = .ok (.aload_n 0, 1) := by decide +kernel
theorem dX11_comeBack_38 : decode cX11_comeBack 38 = .ok (.getfield 53, 3) := by decide +kernel
theorem dX11_comeBack_41 : decode cX11_comeBack 41 = .ok (.iload_n 1, 1) := by decide +kernel
theorem dX11_comeBack_42 : decode cX11_comeBack 42 = .ok (.iaload, 1) := by decide +kernel
theorem dX11_comeBack_43 : decode cX11_comeBack 43 = .ok (.iastore, 1) := by decide +kernel
theorem dX11_comeBack_44 : decode cX11_comeBack 44 = .ok (.aload_n 0, 1) := by decide +kernel
theorem dX11_comeBack_45 : decode cX11_comeBack 45 = .ok (.getfield 22, 3) := by decide +kernel
theorem dX11_comeBack_48 : decode cX11_comeBack 48 = .ok (.iload_n 1, 1) := by decide +kernel
theorem dX11_comeBack_49 : decode cX11_comeBack 49 = .ok (.aload_n 0, 1) := by decide +kernel
theorem dX11_comeBack_50 : decode cX11_comeBack 50 = .ok (.getfield 56, 3) := by decide +kernel
theorem dX11_comeBack_53 : decode cX11_comeBack 53 = .ok (.iload_n 1, 1) := by decide +kernel
theorem dX11_comeBack_54 : decode cX11_comeBack 54 = .ok (.iaload, 1) := by decide +kernel
theorem dX11_comeBack_55 : decode cX11_comeBack 55 = .ok (.iastore, 1) := by decide +kernel
theorem dX11_comeBack_56 : decode cX11_comeBack 56 = .ok (.aload_n 0, 1) := by decide +kernel
theorem dX11_comeBack_57 : decode cX11_comeBack 57 = .ok (.getfield 25, 3) := by decide +kernel
theorem dX11_comeBack_60 : decode cX11_comeBack 60 = .ok (.iload_n 1, 1) := by decide +kernel
theorem dX11_comeBack_61 : decode cX11_comeBack 61 = .ok (.aload_n 0, 1) := by decide +kernel
theorem dX11_comeBack_62 : decode cX11_comeBack 62 = .ok (.getfield 59, 3) := by decide +kernel
theorem dX11_comeBack_65 : decode cX11_comeBack 65 = .ok (.iload_n 1, 1) := by decide +kernel
theorem dX11_comeBack_66 : decode cX11_comeBack 66 = .ok (.iaload, 1) := by decide +kernel
theorem dX11_comeBack_67 : decode cX11_comeBack 67 = .ok (.iastore, 1) := by decide +kernel
theorem dX11_comeBack_68 : decode cX11_comeBack 68 = .ok (.aload_n 0, 1) := by decide +kernel
theorem dX11_comeBack_69 : decode cX11_comeBack 69 = .ok (.getfield 31, 3) := by decide +kernel
theorem dX11_comeBack_72 : decode cX11_comeBack 72 = .ok (.iload_n 1, 1) := by decide +kernel
theorem dX11_comeBack_73 : decode cX11_comeBack 73 = .ok (.aload_n 0, 1) := by decide +kernel
theorem dX11_comeBack_74 : decode cX11_comeBack 74 = .ok (.getfield 62, 3) := by decide +kernel
theorem dX11_comeBack_77 : decode cX11_comeBack 77 = .ok (.iload_n 1, 1) := by decide +kernel
theorem dX11_comeBack_78 : decode cX11_comeBack 78 = .ok (.baload, 1) := by decide +kernel
theorem dX11_comeBack_79 : decode cX11_comeBack 79 = .ok (.bastore, 1) := by decide +kernel
theorem dX11_comeBack_80 : decode cX11_comeBack 80 = .ok (.iinc 1 1, 3) := by decide +kernel
theorem dX11_comeBack_83 : decode cX11_comeBack 83 = .ok (.goto (-81), 3) := by decide +kernel
theorem dX11_comeBack_86 : decode cX11_comeBack 86 = .ok (.return_, 1) := by decide +kernel
abbrev cX11_nodeOf : ByteArray := prog_13_method_30_code
def yX11_nodeOf : MethodName := ⟨RX11, "nodeOf", "(I)I"⟩
theorem dX11_nodeOf_0 : decode cX11_nodeOf 0 = .ok (.aload_n 0, 1) := by decide +kernel
theorem dX11_nodeOf_1 : decode cX11_nodeOf 1 = .ok (.getfield 159, 3) := by decide +kernel
theorem dX11_nodeOf_4 : decode cX11_nodeOf 4 = .ok (.istore_n 2, 1) := by decide +kernel
theorem dX11_nodeOf_5 : decode cX11_nodeOf 5 = .ok (.iconst 0, 1) := by decide +kernel
theorem dX11_nodeOf_6 : decode cX11_nodeOf 6 = .ok (.istore_n 3, 1) := by decide +kernel
theorem dX11_nodeOf_7 : decode cX11_nodeOf 7 = .ok (.iload_n 3, 1) := by decide +kernel
theorem dX11_nodeOf_8 : decode cX11_nodeOf 8 = .ok (.iload_n 1, 1) := by decide +kernel
theorem dX11_nodeOf_9 : decode cX11_nodeOf 9 = .ok (.if_icmp .ge 29, 3) := by decide +kernel
theorem dX11_nodeOf_12 : decode cX11_nodeOf 12 = .ok (.iload_n 2, 1) := by decide +kernel
theorem dX11_nodeOf_13 : decode cX11_nodeOf 13 = .ok (.aload_n 0, 1) := by decide +kernel
theorem dX11_nodeOf_14 : decode cX11_nodeOf 14 = .ok (.getfield 44, 3) := by decide +kernel
theorem dX11_nodeOf_17 : decode cX11_nodeOf 17 = .ok (.bipush 7, 2) := by decide +kernel
theorem dX11_nodeOf_19 : decode cX11_nodeOf 19 = .ok (.iload_n 3, 1) := by decide +kernel
theorem dX11_nodeOf_20 : decode cX11_nodeOf 20 = .ok (.imul, 1) := by decide +kernel
theorem dX11_nodeOf_21 : decode cX11_nodeOf 21 = .ok (.iaload, 1) := by decide +kernel
theorem dX11_nodeOf_22 : decode cX11_nodeOf 22 = .ok (.ifCond .ne 7, 3) := by decide +kernel
theorem dX11_nodeOf_25 : decode cX11_nodeOf 25 = .ok (.iconst 1, 1) := by decide +kernel
theorem dX11_nodeOf_26 : decode cX11_nodeOf 26 = .ok (.goto 4, 3) := by decide +kernel
theorem dX11_nodeOf_29 : decode cX11_nodeOf 29 = .ok (.iconst 0, 1) := by decide +kernel
theorem dX11_nodeOf_30 : decode cX11_nodeOf 30 = .ok (.iadd, 1) := by decide +kernel
theorem dX11_nodeOf_31 : decode cX11_nodeOf 31 = .ok (.istore_n 2, 1) := by decide +kernel
theorem dX11_nodeOf_32 : decode cX11_nodeOf 32 = .ok (.iinc 3 1, 3) := by decide +kernel
theorem dX11_nodeOf_35 : decode cX11_nodeOf 35 = .ok (.goto (-28), 3) := by decide +kernel
theorem dX11_nodeOf_38 : decode cX11_nodeOf 38 = .ok (.aload_n 0, 1) := by decide +kernel
theorem dX11_nodeOf_39 : decode cX11_nodeOf 39 = .ok (.getfield 44, 3) := by decide +kernel
theorem dX11_nodeOf_42 : decode cX11_nodeOf 42 = .ok (.bipush 7, 2) := by decide +kernel
theorem dX11_nodeOf_44 : decode cX11_nodeOf 44 = .ok (.iload_n 1, 1) := by decide +kernel
theorem dX11_nodeOf_45 : decode cX11_nodeOf 45 = .ok (.imul, 1) := by decide +kernel
theorem dX11_nodeOf_46 : decode cX11_nodeOf 46 = .ok (.iaload, 1) := by decide +kernel
theorem dX11_nodeOf_47 : decode cX11_nodeOf 47 = .ok (.ifCond .ne 7, 3) := by decide +kernel
theorem dX11_nodeOf_50 : decode cX11_nodeOf 50 = .ok (.iload_n 2, 1) := by decide +kernel
theorem dX11_nodeOf_51 : decode cX11_nodeOf 51 = .ok (.goto 14, 3) := by decide +kernel
theorem dX11_nodeOf_54 : decode cX11_nodeOf 54 = .ok (.aload_n 0, 1) := by decide +kernel
theorem dX11_nodeOf_55 : decode cX11_nodeOf 55 = .ok (.getfield 44, 3) := by decide +kernel
theorem dX11_nodeOf_58 : decode cX11_nodeOf 58 = .ok (.bipush 7, 2) := by decide +kernel
theorem dX11_nodeOf_60 : decode cX11_nodeOf 60 = .ok (.iload_n 1, 1) := by decide +kernel
theorem dX11_nodeOf_61 : decode cX11_nodeOf 61 = .ok (.imul, 1) := by decide +kernel
theorem dX11_nodeOf_62 : decode cX11_nodeOf 62 = .ok (.iconst 1, 1) := by decide +kernel
theorem dX11_nodeOf_63 : decode cX11_nodeOf 63 = .ok (.iadd, 1) := by decide +kernel
theorem dX11_nodeOf_64 : decode cX11_nodeOf 64 = .ok (.iaload, 1) := by decide +kernel
theorem dX11_nodeOf_65 : decode cX11_nodeOf 65 = .ok (.ireturn, 1) := by decide +kernel
abbrev cX11_layChildren : ByteArray := prog_13_method_31_code
def yX11_layChildren : MethodName := ⟨RX11, "layChildren", "(II)V"⟩
theorem dX11_layChildren_0 : decode cX11_layChildren 0 = .ok (.iconst 0, 1) := by decide +kernel
theorem dX11_layChildren_1 : decode cX11_layChildren 1 = .ok (.istore_n 3, 1) := by decide +kernel
theorem dX11_layChildren_2 : decode cX11_layChildren 2 = .ok (.iconst 0, 1) := by decide +kernel
theorem dX11_layChildren_3 : decode cX11_layChildren 3 = .ok (.istore 4, 2) := by decide +kernel
theorem dX11_layChildren_5 : decode cX11_layChildren 5 = .ok (.iload 4, 2) := by decide +kernel
theorem dX11_layChildren_7 : decode cX11_layChildren 7 = .ok (.iload_n 2, 1) := by decide +kernel
theorem dX11_layChildren_8 : decode cX11_layChildren 8 = .ok (.if_icmp .gt 247, 3) := by decide +kernel
theorem dX11_layChildren_11 : decode cX11_layChildren 11 = .ok (.iconst 0, 1) := by decide +kernel
theorem dX11_layChildren_12 : decode cX11_layChildren 12 = .ok (.istore 5, 2) := by decide +kernel
theorem dX11_layChildren_14 : decode cX11_layChildren 14 = .ok (.iload 5, 2) := by decide +kernel
theorem dX11_layChildren_16 : decode cX11_layChildren 16 = .ok (.aload_n 0, 1) := by decide +kernel
theorem dX11_layChildren_17 : decode cX11_layChildren 17 = .ok (.getfield 191, 3) := by decide +kernel
theorem dX11_layChildren_20 : decode cX11_layChildren 20 = .ok (.if_icmp .ge 124, 3) := by decide +kernel
theorem dX11_layChildren_23 : decode cX11_layChildren 23 = .ok (.aload_n 0, 1) := by decide +kernel
theorem dX11_layChildren_24 : decode cX11_layChildren 24 = .ok (.getfield 44, 3) := by decide +kernel
theorem dX11_layChildren_27 : decode cX11_layChildren 27 = .ok (.bipush 7, 2) := by decide +kernel
theorem dX11_layChildren_29 : decode cX11_layChildren 29 = .ok (.iload 5, 2) := by decide +kernel
theorem dX11_layChildren_31 : decode cX11_layChildren 31 = .ok (.imul, 1) := by decide +kernel
theorem dX11_layChildren_32 : decode cX11_layChildren 32 = .ok (.iaload, 1) := by decide +kernel
theorem dX11_layChildren_33 : decode cX11_layChildren 33 = .ok (.iconst 4, 1) := by decide +kernel
theorem dX11_layChildren_34 : decode cX11_layChildren 34 = .ok (.if_icmp .eq 32, 3) := by decide +kernel
theorem dX11_layChildren_37 : decode cX11_layChildren 37 = .ok (.aload_n 0, 1) := by decide +kernel
theorem dX11_layChildren_38 : decode cX11_layChildren 38 = .ok (.getfield 44, 3) := by decide +kernel
theorem dX11_layChildren_41 : decode cX11_layChildren 41 = .ok (.bipush 7, 2) := by decide +kernel
theorem dX11_layChildren_43 : decode cX11_layChildren 43 = .ok (.iload 5, 2) := by decide +kernel
theorem dX11_layChildren_45 : decode cX11_layChildren 45 = .ok (.imul, 1) := by decide +kernel
theorem dX11_layChildren_46 : decode cX11_layChildren 46 = .ok (.iaload, 1) := by decide +kernel
theorem dX11_layChildren_47 : decode cX11_layChildren 47 = .ok (.ifCond .ne 23, 3) := by decide +kernel
theorem dX11_layChildren_50 : decode cX11_layChildren 50 = .ok (.aload_n 0, 1) := by decide +kernel
theorem dX11_layChildren_51 : decode cX11_layChildren 51 = .ok (.getfield 44, 3) := by decide +kernel
theorem dX11_layChildren_54 : decode cX11_layChildren 54 = .ok (.bipush 7, 2) := by decide +kernel
theorem dX11_layChildren_56 : decode cX11_layChildren 56 = .ok (.iload 5, 2) := by decide +kernel
theorem dX11_layChildren_58 : decode cX11_layChildren 58 = .ok (.imul, 1) := by decide +kernel
theorem dX11_layChildren_59 : decode cX11_layChildren 59 = .ok (.iconst 4, 1) := by decide +kernel
theorem dX11_layChildren_60 : decode cX11_layChildren 60 = .ok (.iadd, 1) := by decide +kernel
theorem dX11_layChildren_61 : decode cX11_layChildren 61 = .ok (.iaload, 1) := by decide +kernel
theorem dX11_layChildren_62 : decode cX11_layChildren 62 = .ok (.iconst 2, 1) := by decide +kernel
theorem dX11_layChildren_63 : decode cX11_layChildren 63 = .ok (.if_icmp .eq 7, 3) := by decide +kernel
theorem dX11_layChildren_66 : decode cX11_layChildren 66 = .ok (.iconst 1, 1) := by decide +kernel
theorem dX11_layChildren_67 : decode cX11_layChildren 67 = .ok (.goto 4, 3) := by decide +kernel
theorem dX11_layChildren_70 : decode cX11_layChildren 70 = .ok (.iconst 0, 1) := by decide +kernel
theorem dX11_layChildren_71 : decode cX11_layChildren 71 = .ok (.istore 6, 2) := by decide +kernel
theorem dX11_layChildren_73 : decode cX11_layChildren 73 = .ok (.iload 6, 2) := by decide +kernel
theorem dX11_layChildren_75 : decode cX11_layChildren 75 = .ok (.ifCond .eq 63, 3) := by decide +kernel
theorem dX11_layChildren_78 : decode cX11_layChildren 78 = .ok (.aload_n 0, 1) := by decide +kernel
theorem dX11_layChildren_79 : decode cX11_layChildren 79 = .ok (.getfield 44, 3) := by decide +kernel
theorem dX11_layChildren_82 : decode cX11_layChildren 82 = .ok (.bipush 7, 2) := by decide +kernel
theorem dX11_layChildren_84 : decode cX11_layChildren 84 = .ok (.iload 5, 2) := by decide +kernel
theorem dX11_layChildren_86 : decode cX11_layChildren 86 = .ok (.imul, 1) := by decide +kernel
theorem dX11_layChildren_87 : decode cX11_layChildren 87 = .ok (.iconst 2, 1) := by decide +kernel
theorem dX11_layChildren_88 : decode cX11_layChildren 88 = .ok (.iadd, 1) := by decide +kernel
theorem dX11_layChildren_89 : decode cX11_layChildren 89 = .ok (.iaload, 1) := by decide +kernel
theorem dX11_layChildren_90 : decode cX11_layChildren 90 = .ok (.iload_n 1, 1) := by decide +kernel
theorem dX11_layChildren_91 : decode cX11_layChildren 91 = .ok (.if_icmp .ne 47, 3) := by decide +kernel
theorem dX11_layChildren_94 : decode cX11_layChildren 94 = .ok (.aload_n 0, 1) := by decide +kernel
theorem dX11_layChildren_95 : decode cX11_layChildren 95 = .ok (.getfield 44, 3) := by decide +kernel
theorem dX11_layChildren_98 : decode cX11_layChildren 98 = .ok (.bipush 7, 2) := by decide +kernel
theorem dX11_layChildren_100 : decode cX11_layChildren 100 = .ok (.iload 5, 2) := by decide +kernel
theorem dX11_layChildren_102 : decode cX11_layChildren 102 = .ok (.imul, 1) := by decide +kernel
theorem dX11_layChildren_103 : decode cX11_layChildren 103 = .ok (.iconst 3, 1) := by decide +kernel
theorem dX11_layChildren_104 : decode cX11_layChildren 104 = .ok (.iadd, 1) := by decide +kernel
theorem dX11_layChildren_105 : decode cX11_layChildren 105 = .ok (.iaload, 1) := by decide +kernel
theorem dX11_layChildren_106 : decode cX11_layChildren 106 = .ok (.iload 4, 2) := by decide +kernel
theorem dX11_layChildren_108 : decode cX11_layChildren 108 = .ok (.if_icmp .ne 30, 3) := by decide +kernel
theorem dX11_layChildren_111 : decode cX11_layChildren 111 = .ok (.aload_n 0, 1) := by decide +kernel
theorem dX11_layChildren_112 : decode cX11_layChildren 112 = .ok (.iload 5, 2) := by decide +kernel
theorem dX11_layChildren_114 : decode cX11_layChildren 114 = .ok (.invokevirtual 211, 3) := by decide +kernel
theorem dX11_layChildren_117 : decode cX11_layChildren 117 = .ok (.istore 7, 2) := by decide +kernel
theorem dX11_layChildren_119 : decode cX11_layChildren 119 = .ok (.aload_n 0, 1) := by decide +kernel
theorem dX11_layChildren_120 : decode cX11_layChildren 120 = .ok (.getfield 22, 3) := by decide +kernel
theorem dX11_layChildren_123 : decode cX11_layChildren 123 = .ok (.iload 7, 2) := by decide +kernel
theorem dX11_layChildren_125 : decode cX11_layChildren 125 = .ok (.iload_n 1, 1) := by decide +kernel
theorem dX11_layChildren_126 : decode cX11_layChildren 126 = .ok (.iastore, 1) := by decide +kernel
theorem dX11_layChildren_127 : decode cX11_layChildren 127 = .ok (.aload_n 0, 1) := by decide +kernel
theorem dX11_layChildren_128 : decode cX11_layChildren 128 = .ok (.getfield 25, 3) := by decide +kernel
theorem dX11_layChildren_131 : decode cX11_layChildren 131 = .ok (.iload 7, 2) := by decide +kernel
theorem dX11_layChildren_133 : decode cX11_layChildren 133 = .ok (.iload_n 3, 1) := by decide +kernel
theorem dX11_layChildren_134 : decode cX11_layChildren 134 = .ok (.iastore, 1) := by decide +kernel
theorem dX11_layChildren_135 : decode cX11_layChildren 135 = .ok (.iinc 3 1, 3) := by decide +kernel
theorem dX11_layChildren_138 : decode cX11_layChildren 138 = .ok (.iinc 5 1, 3) := by decide +kernel
theorem dX11_layChildren_141 : decode cX11_layChildren 141 = .ok (.goto (-127), 3) := by decide +kernel
theorem dX11_layChildren_144 : decode cX11_layChildren 144 = .ok (.iconst 0, 1) := by decide +kernel
theorem dX11_layChildren_145 : decode cX11_layChildren 145 = .ok (.istore 5, 2) := by decide +kernel
theorem dX11_layChildren_147 : decode cX11_layChildren 147 = .ok (.iload 5, 2) := by decide +kernel
theorem dX11_layChildren_149 : decode cX11_layChildren 149 = .ok (.aload_n 0, 1) := by decide +kernel
theorem dX11_layChildren_150 : decode cX11_layChildren 150 = .ok (.getfield 159, 3) := by decide +kernel
theorem dX11_layChildren_153 : decode cX11_layChildren 153 = .ok (.if_icmp .ge 96, 3) := by decide +kernel
theorem dX11_layChildren_156 : decode cX11_layChildren 156 = .ok (.aload_n 0, 1) := by decide +kernel
theorem dX11_layChildren_157 : decode cX11_layChildren 157 = .ok (.getfield 62, 3) := by decide +kernel
theorem dX11_layChildren_160 : decode cX11_layChildren 160 = .ok (.iload 5, 2) := by decide +kernel
theorem dX11_layChildren_162 : decode cX11_layChildren 162 = .ok (.baload, 1) := by decide +kernel
theorem dX11_layChildren_163 : decode cX11_layChildren 163 = .ok (.ifCond .eq 41, 3) := by decide +kernel
theorem dX11_layChildren_166 : decode cX11_layChildren 166 = .ok (.aload_n 0, 1) := by decide +kernel
theorem dX11_layChildren_167 : decode cX11_layChildren 167 = .ok (.getfield 56, 3) := by decide +kernel
theorem dX11_layChildren_170 : decode cX11_layChildren 170 = .ok (.iload 5, 2) := by decide +kernel
theorem dX11_layChildren_172 : decode cX11_layChildren 172 = .ok (.iaload, 1) := by decide +kernel
theorem dX11_layChildren_173 : decode cX11_layChildren 173 = .ok (.iload_n 1, 1) := by decide +kernel
theorem dX11_layChildren_174 : decode cX11_layChildren 174 = .ok (.if_icmp .ne 30, 3) := by decide +kernel
theorem dX11_layChildren_177 : decode cX11_layChildren 177 = .ok (.aload_n 0, 1) := by decide +kernel
theorem dX11_layChildren_178 : decode cX11_layChildren 178 = .ok (.getfield 59, 3) := by decide +kernel
theorem dX11_layChildren_181 : decode cX11_layChildren 181 = .ok (.iload 5, 2) := by decide +kernel
theorem dX11_layChildren_183 : decode cX11_layChildren 183 = .ok (.iaload, 1) := by decide +kernel
theorem dX11_layChildren_184 : decode cX11_layChildren 184 = .ok (.iload 4, 2) := by decide +kernel
theorem dX11_layChildren_186 : decode cX11_layChildren 186 = .ok (.if_icmp .ne 18, 3) := by decide +kernel
theorem dX11_layChildren_189 : decode cX11_layChildren 189 = .ok (.aload_n 0, 1) := by decide +kernel
theorem dX11_layChildren_190 : decode cX11_layChildren 190 = .ok (.getfield 7, 3) := by decide +kernel
theorem dX11_layChildren_193 : decode cX11_layChildren 193 = .ok (.iload 5, 2) := by decide +kernel
theorem dX11_layChildren_195 : decode cX11_layChildren 195 = .ok (.iaload, 1) := by decide +kernel
theorem dX11_layChildren_196 : decode cX11_layChildren 196 = .ok (.iconst 2, 1) := by decide +kernel
theorem dX11_layChildren_197 : decode cX11_layChildren 197 = .ok (.if_icmp .eq 7, 3) := by decide +kernel
theorem dX11_layChildren_200 : decode cX11_layChildren 200 = .ok (.iconst 1, 1) := by decide +kernel
theorem dX11_layChildren_201 : decode cX11_layChildren 201 = .ok (.goto 4, 3) := by decide +kernel
theorem dX11_layChildren_204 : decode cX11_layChildren 204 = .ok (.iconst 0, 1) := by decide +kernel
theorem dX11_layChildren_205 : decode cX11_layChildren 205 = .ok (.istore 6, 2) := by decide +kernel
theorem dX11_layChildren_207 : decode cX11_layChildren 207 = .ok (.iload 6, 2) := by decide +kernel
theorem dX11_layChildren_209 : decode cX11_layChildren 209 = .ok (.ifCond .eq 34, 3) := by decide +kernel
theorem dX11_layChildren_212 : decode cX11_layChildren 212 = .ok (.aload_n 0, 1) := by decide +kernel
theorem dX11_layChildren_213 : decode cX11_layChildren 213 = .ok (.iload 5, 2) := by decide +kernel
theorem dX11_layChildren_215 : decode cX11_layChildren 215 = .ok (.iconst 1, 1) := by decide +kernel
theorem dX11_layChildren_216 : decode cX11_layChildren 216 = .ok (.invokevirtual 214, 3) := by decide +kernel
theorem dX11_layChildren_219 : decode cX11_layChildren 219 = .ok (.ifCond .ne 24, 3) := by decide +kernel
theorem dX11_layChildren_222 : decode cX11_layChildren 222 = .ok (.aload_n 0, 1) := by decide +kernel
theorem dX11_layChildren_223 : decode cX11_layChildren 223 = .ok (.iload 5, 2) := by decide +kernel
theorem dX11_layChildren_225 : decode cX11_layChildren 225 = .ok (.iconst 4, 1) := by decide +kernel
theorem dX11_layChildren_226 : decode cX11_layChildren 226 = .ok (.invokevirtual 214, 3) := by decide +kernel
theorem dX11_layChildren_229 : decode cX11_layChildren 229 = .ok (.ifCond .ne 14, 3) := by decide +kernel
theorem dX11_layChildren_232 : decode cX11_layChildren 232 = .ok (.aload_n 0, 1) := by decide +kernel
theorem dX11_layChildren_233 : decode cX11_layChildren 233 = .ok (.getfield 25, 3) := by decide +kernel
theorem dX11_layChildren_236 : decode cX11_layChildren 236 = .ok (.iload 5, 2) := by decide +kernel
theorem dX11_layChildren_238 : decode cX11_layChildren 238 = .ok (.iload_n 3, 1) := by decide +kernel
theorem dX11_layChildren_239 : decode cX11_layChildren 239 = .ok (.iastore, 1) := by decide +kernel
theorem dX11_layChildren_240 : decode cX11_layChildren 240 = .ok (.iinc 3 1, 3) := by decide +kernel
theorem dX11_layChildren_243 : decode cX11_layChildren 243 = .ok (.iinc 5 1, 3) := by decide +kernel
theorem dX11_layChildren_246 : decode cX11_layChildren 246 = .ok (.goto (-99), 3) := by decide +kernel
theorem dX11_layChildren_249 : decode cX11_layChildren 249 = .ok (.iinc 4 1, 3) := by decide +kernel
theorem dX11_layChildren_252 : decode cX11_layChildren 252 = .ok (.goto (-247), 3) := by decide +kernel
theorem dX11_layChildren_255 : decode cX11_layChildren 255 = .ok (.return_, 1) := by decide +kernel
abbrev cX11_hangs : ByteArray := prog_13_method_32_code
def yX11_hangs : MethodName := ⟨RX11, "hangs", "(I)Z"⟩
theorem dX11_hangs_0 : decode cX11_hangs 0 = .ok (.iload_n 1, 1) := by decide +kernel
theorem dX11_hangs_1 : decode cX11_hangs 1 = .ok (.istore_n 2, 1) := by decide +kernel
theorem dX11_hangs_2 : decode cX11_hangs 2 = .ok (.iconst 0, 1) := by decide +kernel
theorem dX11_hangs_3 : decode cX11_hangs 3 = .ok (.istore_n 3, 1) := by decide +kernel
theorem dX11_hangs_4 : decode cX11_hangs 4 = .ok (.iload_n 3, 1) := by decide +kernel
theorem dX11_hangs_5 : decode cX11_hangs 5 = .ok (.bipush 60, 2) := by decide +kernel
theorem dX11_hangs_7 : decode cX11_hangs 7 = .ok (.if_icmp .gt 20, 3) := by decide +kernel
theorem dX11_hangs_10 : decode cX11_hangs 10 = .ok (.iload_n 2, 1) := by decide +kernel
theorem dX11_hangs_11 : decode cX11_hangs 11 = .ok (.ifCond .le 16, 3) := by decide +kernel
theorem dX11_hangs_14 : decode cX11_hangs 14 = .ok (.aload_n 0, 1) := by decide +kernel
theorem dX11_hangs_15 : decode cX11_hangs 15 = .ok (.getfield 22, 3) := by decide +kernel
theorem dX11_hangs_18 : decode cX11_hangs 18 = .ok (.iload_n 2, 1) := by decide +kernel
theorem dX11_hangs_19 : decode cX11_hangs 19 = .ok (.iaload, 1) := by decide +kernel
theorem dX11_hangs_20 : decode cX11_hangs 20 = .ok (.istore_n 2, 1) := by decide +kernel
theorem dX11_hangs_21 : decode cX11_hangs 21 = .ok (.iinc 3 1, 3) := by decide +kernel
theorem dX11_hangs_24 : decode cX11_hangs 24 = .ok (.goto (-20), 3) := by decide +kernel
theorem dX11_hangs_27 : decode cX11_hangs 27 = .ok (.iload_n 2, 1) := by decide +kernel
theorem dX11_hangs_28 : decode cX11_hangs 28 = .ok (.ifCond .ne 7, 3) := by decide +kernel
theorem dX11_hangs_31 : decode cX11_hangs 31 = .ok (.iconst 1, 1) := by decide +kernel
theorem dX11_hangs_32 : decode cX11_hangs 32 = .ok (.goto 4, 3) := by decide +kernel
theorem dX11_hangs_35 : decode cX11_hangs 35 = .ok (.iconst 0, 1) := by decide +kernel
theorem dX11_hangs_36 : decode cX11_hangs 36 = .ok (.ireturn, 1) := by decide +kernel
abbrev cX11_goesRound : ByteArray := prog_13_method_33_code
def yX11_goesRound : MethodName := ⟨RX11, "goesRound", "(I)Z"⟩
theorem dX11_goesRound_0 : decode cX11_goesRound 0 = .ok (.aload_n 0, 1) := by decide +kernel
theorem dX11_goesRound_1 : decode cX11_goesRound 1 = .ok (.getfield 22, 3) := by decide +kernel
theorem dX11_goesRound_4 : decode cX11_goesRound 4 = .ok (.iload_n 1, 1) := by decide +kernel
theorem dX11_goesRound_5 : decode cX11_goesRound 5 = .ok (.iaload, 1) := by decide +kernel
theorem dX11_goesRound_6 : decode cX11_goesRound 6 = .ok (.istore_n 2, 1) := by decide +kernel
theorem dX11_goesRound_7 : decode cX11_goesRound 7 = .ok (.iconst 0, 1) := by decide +kernel
theorem dX11_goesRound_8 : decode cX11_goesRound 8 = .ok (.istore_n 3, 1) := by decide +kernel
theorem dX11_goesRound_9 : decode cX11_goesRound 9 = .ok (.iload_n 3, 1) := by decide +kernel
theorem dX11_goesRound_10 : decode cX11_goesRound 10 = .ok (.bipush 60, 2) := by decide +kernel
theorem dX11_goesRound_12 : decode cX11_goesRound 12 = .ok (.if_icmp .ge 26, 3) := by decide +kernel
theorem dX11_goesRound_15 : decode cX11_goesRound 15 = .ok (.iload_n 2, 1) := by decide +kernel
theorem dX11_goesRound_16 : decode cX11_goesRound 16 = .ok (.iconst (-1), 1) := by decide +kernel
theorem dX11_goesRound_17 : decode cX11_goesRound 17 = .ok (.if_icmp .eq 21, 3) := by decide +kernel
theorem dX11_goesRound_20 : decode cX11_goesRound 20 = .ok (.iload_n 2, 1) := by decide +kernel
theorem dX11_goesRound_21 : decode cX11_goesRound 21 = .ok (.iload_n 1, 1) := by decide +kernel
theorem dX11_goesRound_22 : decode cX11_goesRound 22 = .ok (.if_icmp .eq 16, 3) := by decide +kernel
theorem dX11_goesRound_25 : decode cX11_goesRound 25 = .ok (.aload_n 0, 1) := by decide +kernel
theorem dX11_goesRound_26 : decode cX11_goesRound 26 = .ok (.getfield 22, 3) := by decide +kernel
theorem dX11_goesRound_29 : decode cX11_goesRound 29 = .ok (.iload_n 2, 1) := by decide +kernel
theorem dX11_goesRound_30 : decode cX11_goesRound 30 = .ok (.iaload, 1) := by decide +kernel
theorem dX11_goesRound_31 : decode cX11_goesRound 31 = .ok (.istore_n 2, 1) := by decide +kernel
theorem dX11_goesRound_32 : decode cX11_goesRound 32 = .ok (.iinc 3 1, 3) := by decide +kernel
theorem dX11_goesRound_35 : decode cX11_goesRound 35 = .ok (.goto (-26), 3) := by decide +kernel
theorem dX11_goesRound_38 : decode cX11_goesRound 38 = .ok (.iload_n 2, 1) := by decide +kernel
theorem dX11_goesRound_39 : decode cX11_goesRound 39 = .ok (.iload_n 1, 1) := by decide +kernel
theorem dX11_goesRound_40 : decode cX11_goesRound 40 = .ok (.if_icmp .ne 7, 3) := by decide +kernel
theorem dX11_goesRound_43 : decode cX11_goesRound 43 = .ok (.iconst 1, 1) := by decide +kernel
theorem dX11_goesRound_44 : decode cX11_goesRound 44 = .ok (.goto 4, 3) := by decide +kernel
theorem dX11_goesRound_47 : decode cX11_goesRound 47 = .ok (.iconst 0, 1) := by decide +kernel
theorem dX11_goesRound_48 : decode cX11_goesRound 48 = .ok (.ireturn, 1) := by decide +kernel
abbrev cX11_hasTwice : ByteArray := prog_13_method_34_code
def yX11_hasTwice : MethodName := ⟨RX11, "hasTwice", "()Z"⟩
theorem dX11_hasTwice_0 : decode cX11_hasTwice 0 = .ok (.iconst 0, 1) := by decide +kernel
theorem dX11_hasTwice_1 : decode cX11_hasTwice 1 = .ok (.istore_n 1, 1) := by decide +kernel
theorem dX11_hasTwice_2 : decode cX11_hasTwice 2 = .ok (.iconst 0, 1) := by decide +kernel
theorem dX11_hasTwice_3 : decode cX11_hasTwice 3 = .ok (.istore_n 2, 1) := by decide +kernel
theorem dX11_hasTwice_4 : decode cX11_hasTwice 4 = .ok (.iload_n 2, 1) := by decide +kernel
theorem dX11_hasTwice_5 : decode cX11_hasTwice 5 = .ok (.aload_n 0, 1) := by decide +kernel
theorem dX11_hasTwice_6 : decode cX11_hasTwice 6 = .ok (.getfield 159, 3) := by decide +kernel
theorem dX11_hasTwice_9 : decode cX11_hasTwice 9 = .ok (.if_icmp .ge 112, 3) := by decide +kernel
theorem dX11_hasTwice_12 : decode cX11_hasTwice 12 = .ok (.iconst 0, 1) := by decide +kernel
theorem dX11_hasTwice_13 : decode cX11_hasTwice 13 = .ok (.istore_n 3, 1) := by decide +kernel
theorem dX11_hasTwice_14 : decode cX11_hasTwice 14 = .ok (.iload_n 3, 1) := by decide +kernel
theorem dX11_hasTwice_15 : decode cX11_hasTwice 15 = .ok (.iload_n 2, 1) := by decide +kernel
theorem dX11_hasTwice_16 : decode cX11_hasTwice 16 = .ok (.if_icmp .ge 99, 3) := by decide +kernel
theorem dX11_hasTwice_19 : decode cX11_hasTwice 19 = .ok (.aload_n 0, 1) := by decide +kernel
theorem dX11_hasTwice_20 : decode cX11_hasTwice 20 = .ok (.getfield 31, 3) := by decide +kernel
theorem dX11_hasTwice_23 : decode cX11_hasTwice 23 = .ok (.iload_n 2, 1) := by decide +kernel
theorem dX11_hasTwice_24 : decode cX11_hasTwice 24 = .ok (.baload, 1) := by decide +kernel
theorem dX11_hasTwice_25 : decode cX11_hasTwice 25 = .ok (.ifCond .eq 36, 3) := by decide +kernel
theorem dX11_hasTwice_28 : decode cX11_hasTwice 28 = .ok (.aload_n 0, 1) := by decide +kernel
theorem dX11_hasTwice_29 : decode cX11_hasTwice 29 = .ok (.getfield 31, 3) := by decide +kernel
theorem dX11_hasTwice_32 : decode cX11_hasTwice 32 = .ok (.iload_n 3, 1) := by decide +kernel
theorem dX11_hasTwice_33 : decode cX11_hasTwice 33 = .ok (.baload, 1) := by decide +kernel
theorem dX11_hasTwice_34 : decode cX11_hasTwice 34 = .ok (.ifCond .eq 27, 3) := by decide +kernel
theorem dX11_hasTwice_37 : decode cX11_hasTwice 37 = .ok (.aload_n 0, 1) := by decide +kernel
theorem dX11_hasTwice_38 : decode cX11_hasTwice 38 = .ok (.getfield 7, 3) := by decide +kernel
theorem dX11_hasTwice_41 : decode cX11_hasTwice 41 = .ok (.iload_n 2, 1) := by decide +kernel
theorem dX11_hasTwice_42 : decode cX11_hasTwice 42 = .ok (.iaload, 1) := by decide +kernel
theorem dX11_hasTwice_43 : decode cX11_hasTwice 43 = .ok (.iconst 2, 1) := by decide +kernel
theorem dX11_hasTwice_44 : decode cX11_hasTwice 44 = .ok (.if_icmp .ne 17, 3) := by decide +kernel
theorem dX11_hasTwice_47 : decode cX11_hasTwice 47 = .ok (.aload_n 0, 1) := by decide +kernel
theorem dX11_hasTwice_48 : decode cX11_hasTwice 48 = .ok (.getfield 7, 3) := by decide +kernel
theorem dX11_hasTwice_51 : decode cX11_hasTwice 51 = .ok (.iload_n 3, 1) := by decide +kernel
theorem dX11_hasTwice_52 : decode cX11_hasTwice 52 = .ok (.iaload, 1) := by decide +kernel
theorem dX11_hasTwice_53 : decode cX11_hasTwice 53 = .ok (.iconst 2, 1) := by decide +kernel
theorem dX11_hasTwice_54 : decode cX11_hasTwice 54 = .ok (.if_icmp .ne 7, 3) := by decide +kernel
theorem dX11_hasTwice_57 : decode cX11_hasTwice 57 = .ok (.iconst 1, 1) := by decide +kernel
theorem dX11_hasTwice_58 : decode cX11_hasTwice 58 = .ok (.goto 4, 3) := by decide +kernel
theorem dX11_hasTwice_61 : decode cX11_hasTwice 61 = .ok (.iconst 0, 1) := by decide +kernel
theorem dX11_hasTwice_62 : decode cX11_hasTwice 62 = .ok (.istore 4, 2) := by decide +kernel
theorem dX11_hasTwice_64 : decode cX11_hasTwice 64 = .ok (.iload_n 1, 1) := by decide +kernel
theorem dX11_hasTwice_65 : decode cX11_hasTwice 65 = .ok (.ifCond .ne 38, 3) := by decide +kernel
theorem dX11_hasTwice_68 : decode cX11_hasTwice 68 = .ok (.iload 4, 2) := by decide +kernel
theorem dX11_hasTwice_70 : decode cX11_hasTwice 70 = .ok (.ifCond .eq 37, 3) := by decide +kernel
theorem dX11_hasTwice_73 : decode cX11_hasTwice 73 = .ok (.aload_n 0, 1) := by decide +kernel
theorem dX11_hasTwice_74 : decode cX11_hasTwice 74 = .ok (.getfield 22, 3) := by decide +kernel
theorem dX11_hasTwice_77 : decode cX11_hasTwice 77 = .ok (.iload_n 2, 1) := by decide +kernel
theorem dX11_hasTwice_78 : decode cX11_hasTwice 78 = .ok (.iaload, 1) := by decide +kernel
theorem dX11_hasTwice_79 : decode cX11_hasTwice 79 = .ok (.aload_n 0, 1) := by decide +kernel
theorem dX11_hasTwice_80 : decode cX11_hasTwice 80 = .ok (.getfield 22, 3) := by decide +kernel
theorem dX11_hasTwice_83 : decode cX11_hasTwice 83 = .ok (.iload_n 3, 1) := by decide +kernel
theorem dX11_hasTwice_84 : decode cX11_hasTwice 84 = .ok (.iaload, 1) := by decide +kernel
theorem dX11_hasTwice_85 : decode cX11_hasTwice 85 = .ok (.if_icmp .ne 22, 3) := by decide +kernel
theorem dX11_hasTwice_88 : decode cX11_hasTwice 88 = .ok (.aload_n 0, 1) := by decide +kernel
theorem dX11_hasTwice_89 : decode cX11_hasTwice 89 = .ok (.getfield 13, 3) := by decide +kernel
theorem dX11_hasTwice_92 : decode cX11_hasTwice 92 = .ok (.iload_n 2, 1) := by decide +kernel
theorem dX11_hasTwice_93 : decode cX11_hasTwice 93 = .ok (.iaload, 1) := by decide +kernel
theorem dX11_hasTwice_94 : decode cX11_hasTwice 94 = .ok (.aload_n 0, 1) := by decide +kernel
theorem dX11_hasTwice_95 : decode cX11_hasTwice 95 = .ok (.getfield 13, 3) := by decide +kernel
theorem dX11_hasTwice_98 : decode cX11_hasTwice 98 = .ok (.iload_n 3, 1) := by decide +kernel
theorem dX11_hasTwice_99 : decode cX11_hasTwice 99 = .ok (.iaload, 1) := by decide +kernel
theorem dX11_hasTwice_100 : decode cX11_hasTwice 100 = .ok (.if_icmp .ne 7, 3) := by decide +kernel
theorem dX11_hasTwice_103 : decode cX11_hasTwice 103 = .ok (.iconst 1, 1) := by decide +kernel
theorem dX11_hasTwice_104 : decode cX11_hasTwice 104 = .ok (.goto 4, 3) := by decide +kernel
theorem dX11_hasTwice_107 : decode cX11_hasTwice 107 = .ok (.iconst 0, 1) := by decide +kernel
theorem dX11_hasTwice_108 : decode cX11_hasTwice 108 = .ok (.istore_n 1, 1) := by decide +kernel
theorem dX11_hasTwice_109 : decode cX11_hasTwice 109 = .ok (.iinc 3 1, 3) := by decide +kernel
theorem dX11_hasTwice_112 : decode cX11_hasTwice 112 = .ok (.goto (-98), 3) := by decide +kernel
theorem dX11_hasTwice_115 : decode cX11_hasTwice 115 = .ok (.iinc 2 1, 3) := by decide +kernel
theorem dX11_hasTwice_118 : decode cX11_hasTwice 118 = .ok (.goto (-114), 3) := by decide +kernel
theorem dX11_hasTwice_121 : decode cX11_hasTwice 121 = .ok (.iload_n 1, 1) := by decide +kernel
theorem dX11_hasTwice_122 : decode cX11_hasTwice 122 = .ok (.ireturn, 1) := by decide +kernel
abbrev cX11_madeBehind : ByteArray := prog_13_method_36_code
def yX11_madeBehind : MethodName := ⟨RX11, "madeBehind", "()I"⟩
theorem dX11_madeBehind_0 : decode cX11_madeBehind 0 = .ok (.aload_n 0, 1) := by decide +kernel
theorem dX11_madeBehind_1 : decode cX11_madeBehind 1 = .ok (.getfield 159, 3) := by decide +kernel
theorem dX11_madeBehind_4 : decode cX11_madeBehind 4 = .ok (.istore_n 1, 1) := by decide +kernel
theorem dX11_madeBehind_5 : decode cX11_madeBehind 5 = .ok (.iconst 0, 1) := by decide +kernel
theorem dX11_madeBehind_6 : decode cX11_madeBehind 6 = .ok (.istore_n 2, 1) := by decide +kernel
theorem dX11_madeBehind_7 : decode cX11_madeBehind 7 = .ok (.iload_n 2, 1) := by decide +kernel
theorem dX11_madeBehind_8 : decode cX11_madeBehind 8 = .ok (.aload_n 0, 1) := by decide +kernel
theorem dX11_madeBehind_9 : decode cX11_madeBehind 9 = .ok (.getfield 191, 3) := by decide +kernel
theorem dX11_madeBehind_12 : decode cX11_madeBehind 12 = .ok (.if_icmp .ge 29, 3) := by decide +kernel
theorem dX11_madeBehind_15 : decode cX11_madeBehind 15 = .ok (.iload_n 1, 1) := by decide +kernel
theorem dX11_madeBehind_16 : decode cX11_madeBehind 16 = .ok (.aload_n 0, 1) := by decide +kernel
theorem dX11_madeBehind_17 : decode cX11_madeBehind 17 = .ok (.getfield 44, 3) := by decide +kernel
theorem dX11_madeBehind_20 : decode cX11_madeBehind 20 = .ok (.bipush 7, 2) := by decide +kernel
theorem dX11_madeBehind_22 : decode cX11_madeBehind 22 = .ok (.iload_n 2, 1) := by decide +kernel
theorem dX11_madeBehind_23 : decode cX11_madeBehind 23 = .ok (.imul, 1) := by decide +kernel
theorem dX11_madeBehind_24 : decode cX11_madeBehind 24 = .ok (.iaload, 1) := by decide +kernel
theorem dX11_madeBehind_25 : decode cX11_madeBehind 25 = .ok (.ifCond .ne 7, 3) := by decide +kernel
theorem dX11_madeBehind_28 : decode cX11_madeBehind 28 = .ok (.iconst 1, 1) := by decide +kernel
theorem dX11_madeBehind_29 : decode cX11_madeBehind 29 = .ok (.goto 4, 3) := by decide +kernel
theorem dX11_madeBehind_32 : decode cX11_madeBehind 32 = .ok (.iconst 0, 1) := by decide +kernel
theorem dX11_madeBehind_33 : decode cX11_madeBehind 33 = .ok (.iadd, 1) := by decide +kernel
theorem dX11_madeBehind_34 : decode cX11_madeBehind 34 = .ok (.istore_n 1, 1) := by decide +kernel
theorem dX11_madeBehind_35 : decode cX11_madeBehind 35 = .ok (.iinc 2 1, 3) := by decide +kernel
theorem dX11_madeBehind_38 : decode cX11_madeBehind 38 = .ok (.goto (-31), 3) := by decide +kernel
theorem dX11_madeBehind_41 : decode cX11_madeBehind 41 = .ok (.iload_n 1, 1) := by decide +kernel
theorem dX11_madeBehind_42 : decode cX11_madeBehind 42 = .ok (.ireturn, 1) := by decide +kernel
abbrev cX11_countBack : ByteArray := prog_13_method_38_code
def yX11_countBack : MethodName := ⟨RX11, "countBack", "(I)I"⟩
theorem dX11_countBack_0 : decode cX11_countBack 0 = .ok (.iconst 0, 1) := by decide +kernel
theorem dX11_countBack_1 : decode cX11_countBack 1 = .ok (.istore_n 2, 1) := by decide +kernel
theorem dX11_countBack_2 : decode cX11_countBack 2 = .ok (.iconst 0, 1) := by decide +kernel
theorem dX11_countBack_3 : decode cX11_countBack 3 = .ok (.istore_n 3, 1) := by decide +kernel
theorem dX11_countBack_4 : decode cX11_countBack 4 = .ok (.iload_n 3, 1) := by decide +kernel
theorem dX11_countBack_5 : decode cX11_countBack 5 = .ok (.bipush 60, 2) := by decide +kernel
theorem dX11_countBack_7 : decode cX11_countBack 7 = .ok (.if_icmp .ge 46, 3) := by decide +kernel
theorem dX11_countBack_10 : decode cX11_countBack 10 = .ok (.iload_n 2, 1) := by decide +kernel
theorem dX11_countBack_11 : decode cX11_countBack 11 = .ok (.aload_n 0, 1) := by decide +kernel
theorem dX11_countBack_12 : decode cX11_countBack 12 = .ok (.getfield 62, 3) := by decide +kernel
theorem dX11_countBack_15 : decode cX11_countBack 15 = .ok (.iload_n 3, 1) := by decide +kernel
theorem dX11_countBack_16 : decode cX11_countBack 16 = .ok (.baload, 1) := by decide +kernel
theorem dX11_countBack_17 : decode cX11_countBack 17 = .ok (.ifCond .eq 27, 3) := by decide +kernel
theorem dX11_countBack_20 : decode cX11_countBack 20 = .ok (.aload_n 0, 1) := by decide +kernel
theorem dX11_countBack_21 : decode cX11_countBack 21 = .ok (.getfield 56, 3) := by decide +kernel
theorem dX11_countBack_24 : decode cX11_countBack 24 = .ok (.iload_n 3, 1) := by decide +kernel
theorem dX11_countBack_25 : decode cX11_countBack 25 = .ok (.iaload, 1) := by decide +kernel
theorem dX11_countBack_26 : decode cX11_countBack 26 = .ok (.iload_n 1, 1) := by decide +kernel
theorem dX11_countBack_27 : decode cX11_countBack 27 = .ok (.if_icmp .ne 17, 3) := by decide +kernel
theorem dX11_countBack_30 : decode cX11_countBack 30 = .ok (.aload_n 0, 1) := by decide +kernel
theorem dX11_countBack_31 : decode cX11_countBack 31 = .ok (.getfield 7, 3) := by decide +kernel
theorem dX11_countBack_34 : decode cX11_countBack 34 = .ok (.iload_n 3, 1) := by decide +kernel
theorem dX11_countBack_35 : decode cX11_countBack 35 = .ok (.iaload, 1) := by decide +kernel
theorem dX11_countBack_36 : decode cX11_countBack 36 = .ok (.iconst 2, 1) := by decide +kernel
theorem dX11_countBack_37 : decode cX11_countBack 37 = .ok (.if_icmp .eq 7, 3) := by decide +kernel
theorem dX11_countBack_40 : decode cX11_countBack 40 = .ok (.iconst 1, 1) := by decide +kernel
theorem dX11_countBack_41 : decode cX11_countBack 41 = .ok (.goto 4, 3) := by decide +kernel
theorem dX11_countBack_44 : decode cX11_countBack 44 = .ok (.iconst 0, 1) := by decide +kernel
theorem dX11_countBack_45 : decode cX11_countBack 45 = .ok (.iadd, 1) := by decide +kernel
theorem dX11_countBack_46 : decode cX11_countBack 46 = .ok (.istore_n 2, 1) := by decide +kernel
theorem dX11_countBack_47 : decode cX11_countBack 47 = .ok (.iinc 3 1, 3) := by decide +kernel
theorem dX11_countBack_50 : decode cX11_countBack 50 = .ok (.goto (-46), 3) := by decide +kernel
theorem dX11_countBack_53 : decode cX11_countBack 53 = .ok (.iload_n 2, 1) := by decide +kernel
theorem dX11_countBack_54 : decode cX11_countBack 54 = .ok (.ireturn, 1) := by decide +kernel
abbrev cX11_perform : ByteArray := prog_13_method_37_code
def yX11_perform : MethodName := ⟨RX11, "perform", "()V"⟩
theorem dX11_perform_0 : decode cX11_perform 0 = .ok (.aload_n 0, 1) := by decide +kernel
theorem dX11_perform_1 : decode cX11_perform 1 = .ok (.getfield 159, 3) := by decide +kernel
theorem dX11_perform_4 : decode cX11_perform 4 = .ok (.istore_n 1, 1) := by decide +kernel
theorem dX11_perform_5 : decode cX11_perform 5 = .ok (.iconst 0, 1) := by decide +kernel
theorem dX11_perform_6 : decode cX11_perform 6 = .ok (.istore_n 2, 1) := by decide +kernel
theorem dX11_perform_7 : decode cX11_perform 7 = .ok (.iload_n 2, 1) := by decide +kernel
theorem dX11_perform_8 : decode cX11_perform 8 = .ok (.aload_n 0, 1) := by decide +kernel
theorem dX11_perform_9 : decode cX11_perform 9 = .ok (.getfield 191, 3) := by decide +kernel
theorem dX11_perform_12 : decode cX11_perform 12 = .ok (.if_icmp .ge 246, 3) := by decide +kernel
theorem dX11_perform_15 : decode cX11_perform 15 = .ok (.bipush 7, 2) := by decide +kernel
theorem dX11_perform_17 : decode cX11_perform 17 = .ok (.iload_n 2, 1) := by decide +kernel
theorem dX11_perform_18 : decode cX11_perform 18 = .ok (.imul, 1) := by decide +kernel
theorem dX11_perform_19 : decode cX11_perform 19 = .ok (.istore_n 3, 1) := by decide +kernel
theorem dX11_perform_20 : decode cX11_perform 20 = .ok (.aload_n 0, 1) := by decide +kernel
theorem dX11_perform_21 : decode cX11_perform 21 = .ok (.getfield 44, 3) := by decide +kernel
theorem dX11_perform_24 : decode cX11_perform 24 = .ok (.iload_n 3, 1) := by decide +kernel
theorem dX11_perform_25 : decode cX11_perform 25 = .ok (.iaload, 1) := by decide +kernel
theorem dX11_perform_26 : decode cX11_perform 26 = .ok (.ifCond .ne 125, 3) := by decide +kernel
theorem dX11_perform_29 : decode cX11_perform 29 = .ok (.aload_n 0, 1) := by decide +kernel
theorem dX11_perform_30 : decode cX11_perform 30 = .ok (.getfield 7, 3) := by decide +kernel
theorem dX11_perform_33 : decode cX11_perform 33 = .ok (.aload_n 0, 1) := by decide +kernel
theorem dX11_perform_34 : decode cX11_perform 34 = .ok (.getfield 159, 3) := by decide +kernel
theorem dX11_perform_37 : decode cX11_perform 37 = .ok (.aload_n 0, 1) := by decide +kernel
theorem dX11_perform_38 : decode cX11_perform 38 = .ok (.getfield 44, 3) := by decide +kernel
theorem dX11_perform_41 : decode cX11_perform 41 = .ok (.iload_n 3, 1) := by decide +kernel
theorem dX11_perform_42 : decode cX11_perform 42 = .ok (.iconst 4, 1) := by decide +kernel
theorem dX11_perform_43 : decode cX11_perform 43 = .ok (.iadd, 1) := by decide +kernel
theorem dX11_perform_44 : decode cX11_perform 44 = .ok (.iaload, 1) := by decide +kernel
theorem dX11_perform_45 : decode cX11_perform 45 = .ok (.iastore, 1) := by decide +kernel
theorem dX11_perform_46 : decode cX11_perform 46 = .ok (.aload_n 0, 1) := by decide +kernel
theorem dX11_perform_47 : decode cX11_perform 47 = .ok (.getfield 13, 3) := by decide +kernel
theorem dX11_perform_50 : decode cX11_perform 50 = .ok (.aload_n 0, 1) := by decide +kernel
theorem dX11_perform_51 : decode cX11_perform 51 = .ok (.getfield 159, 3) := by decide +kernel
theorem dX11_perform_54 : decode cX11_perform 54 = .ok (.aload_n 0, 1) := by decide +kernel
theorem dX11_perform_55 : decode cX11_perform 55 = .ok (.getfield 44, 3) := by decide +kernel
theorem dX11_perform_58 : decode cX11_perform 58 = .ok (.iload_n 3, 1) := by decide +kernel
theorem dX11_perform_59 : decode cX11_perform 59 = .ok (.iconst 5, 1) := by decide +kernel
theorem dX11_perform_60 : decode cX11_perform 60 = .ok (.iadd, 1) := by decide +kernel
theorem dX11_perform_61 : decode cX11_perform 61 = .ok (.iaload, 1) := by decide +kernel
theorem dX11_perform_62 : decode cX11_perform 62 = .ok (.iastore, 1) := by decide +kernel
theorem dX11_perform_63 : decode cX11_perform 63 = .ok (.aload_n 0, 1) := by decide +kernel
theorem dX11_perform_64 : decode cX11_perform 64 = .ok (.getfield 16, 3) := by decide +kernel
theorem dX11_perform_67 : decode cX11_perform 67 = .ok (.aload_n 0, 1) := by decide +kernel
theorem dX11_perform_68 : decode cX11_perform 68 = .ok (.getfield 159, 3) := by decide +kernel
theorem dX11_perform_71 : decode cX11_perform 71 = .ok (.aload_n 0, 1) := by decide +kernel
theorem dX11_perform_72 : decode cX11_perform 72 = .ok (.getfield 44, 3) := by decide +kernel
theorem dX11_perform_75 : decode cX11_perform 75 = .ok (.iload_n 3, 1) := by decide +kernel
theorem dX11_perform_76 : decode cX11_perform 76 = .ok (.bipush 6, 2) := by decide +kernel
theorem dX11_perform_78 : decode cX11_perform 78 = .ok (.iadd, 1) := by decide +kernel
theorem dX11_perform_79 : decode cX11_perform 79 = .ok (.iaload, 1) := by decide +kernel
theorem dX11_perform_80 : decode cX11_perform 80 = .ok (.iastore, 1) := by decide +kernel
theorem dX11_perform_81 : decode cX11_perform 81 = .ok (.aload_n 0, 1) := by decide +kernel
theorem dX11_perform_82 : decode cX11_perform 82 = .ok (.getfield 19, 3) := by decide +kernel
theorem dX11_perform_85 : decode cX11_perform 85 = .ok (.aload_n 0, 1) := by decide +kernel
theorem dX11_perform_86 : decode cX11_perform 86 = .ok (.getfield 159, 3) := by decide +kernel
theorem dX11_perform_89 : decode cX11_perform 89 = .ok (.iconst (-1), 1) := by decide +kernel
theorem dX11_perform_90 : decode cX11_perform 90 = .ok (.iastore, 1) := by decide +kernel
theorem dX11_perform_91 : decode cX11_perform 91 = .ok (.aload_n 0, 1) := by decide +kernel
theorem dX11_perform_92 : decode cX11_perform 92 = .ok (.getfield 22, 3) := by decide +kernel
theorem dX11_perform_95 : decode cX11_perform 95 = .ok (.aload_n 0, 1) := by decide +kernel
theorem dX11_perform_96 : decode cX11_perform 96 = .ok (.getfield 159, 3) := by decide +kernel
theorem dX11_perform_99 : decode cX11_perform 99 = .ok (.aload_n 0, 1) := by decide +kernel
theorem dX11_perform_100 : decode cX11_perform 100 = .ok (.getfield 44, 3) := by decide +kernel
theorem dX11_perform_103 : decode cX11_perform 103 = .ok (.iload_n 3, 1) := by decide +kernel
theorem dX11_perform_104 : decode cX11_perform 104 = .ok (.iconst 2, 1) := by decide +kernel
theorem dX11_perform_105 : decode cX11_perform 105 = .ok (.iadd, 1) := by decide +kernel
theorem dX11_perform_106 : decode cX11_perform 106 = .ok (.iaload, 1) := by decide +kernel
theorem dX11_perform_107 : decode cX11_perform 107 = .ok (.iastore, 1) := by decide +kernel
theorem dX11_perform_108 : decode cX11_perform 108 = .ok (.aload_n 0, 1) := by decide +kernel
theorem dX11_perform_109 : decode cX11_perform 109 = .ok (.getfield 25, 3) := by decide +kernel
theorem dX11_perform_112 : decode cX11_perform 112 = .ok (.aload_n 0, 1) := by decide +kernel
theorem dX11_perform_113 : decode cX11_perform 113 = .ok (.getfield 159, 3) := by decide +kernel
theorem dX11_perform_116 : decode cX11_perform 116 = .ok (.iconst 0, 1) := by decide +kernel
theorem dX11_perform_117 : decode cX11_perform 117 = .ok (.iastore, 1) := by decide +kernel
theorem dX11_perform_118 : decode cX11_perform 118 = .ok (.aload_n 0, 1) := by decide +kernel
theorem dX11_perform_119 : decode cX11_perform 119 = .ok (.getfield 31, 3) := by decide +kernel
theorem dX11_perform_122 : decode cX11_perform 122 = .ok (.aload_n 0, 1) := by decide +kernel
theorem dX11_perform_123 : decode cX11_perform 123 = .ok (.getfield 159, 3) := by decide +kernel
theorem dX11_perform_126 : decode cX11_perform 126 = .ok (.iconst 0, 1) := by decide +kernel
theorem dX11_perform_127 : decode cX11_perform 127 = .ok (.bastore, 1) := by decide +kernel
theorem dX11_perform_128 : decode cX11_perform 128 = .ok (.aload_n 0, 1) := by decide +kernel
theorem dX11_perform_129 : decode cX11_perform 129 = .ok (.getfield 62, 3) := by decide +kernel
theorem dX11_perform_132 : decode cX11_perform 132 = .ok (.aload_n 0, 1) := by decide +kernel
theorem dX11_perform_133 : decode cX11_perform 133 = .ok (.getfield 159, 3) := by decide +kernel
theorem dX11_perform_136 : decode cX11_perform 136 = .ok (.iconst 0, 1) := by decide +kernel
theorem dX11_perform_137 : decode cX11_perform 137 = .ok (.bastore, 1) := by decide +kernel
theorem dX11_perform_138 : decode cX11_perform 138 = .ok (.aload_n 0, 1) := by decide +kernel
theorem dX11_perform_139 : decode cX11_perform 139 = .ok (.dup, 1) := by decide +kernel
theorem dX11_perform_140 : decode cX11_perform 140 = .ok (.getfield 159, 3) := by decide +kernel
theorem dX11_perform_143 : decode cX11_perform 143 = .ok (.iconst 1, 1) := by decide +kernel
theorem dX11_perform_144 : decode cX11_perform 144 = .ok (.iadd, 1) := by decide +kernel
theorem dX11_perform_145 : decode cX11_perform 145 = .ok (.putfield 159, 3) := by decide +kernel
theorem dX11_perform_148 : decode cX11_perform 148 = .ok (.goto 104, 3) := by decide +kernel
theorem dX11_perform_151 : decode cX11_perform 151 = .ok (.aload_n 0, 1) := by decide +kernel
theorem dX11_perform_152 : decode cX11_perform 152 = .ok (.getfield 44, 3) := by decide +kernel
theorem dX11_perform_155 : decode cX11_perform 155 = .ok (.iload_n 3, 1) := by decide +kernel
theorem dX11_perform_156 : decode cX11_perform 156 = .ok (.iaload, 1) := by decide +kernel
theorem dX11_perform_157 : decode cX11_perform 157 = .ok (.iconst 2, 1) := by decide +kernel
theorem dX11_perform_158 : decode cX11_perform 158 = .ok (.if_icmp .ne 27, 3) := by decide +kernel
theorem dX11_perform_161 : decode cX11_perform 161 = .ok (.aload_n 0, 1) := by decide +kernel
theorem dX11_perform_162 : decode cX11_perform 162 = .ok (.getfield 13, 3) := by decide +kernel
theorem dX11_perform_165 : decode cX11_perform 165 = .ok (.aload_n 0, 1) := by decide +kernel
theorem dX11_perform_166 : decode cX11_perform 166 = .ok (.getfield 44, 3) := by decide +kernel
theorem dX11_perform_169 : decode cX11_perform 169 = .ok (.iload_n 3, 1) := by decide +kernel
theorem dX11_perform_170 : decode cX11_perform 170 = .ok (.iconst 1, 1) := by decide +kernel
theorem dX11_perform_171 : decode cX11_perform 171 = .ok (.iadd, 1) := by decide +kernel
theorem dX11_perform_172 : decode cX11_perform 172 = .ok (.iaload, 1) := by decide +kernel
theorem dX11_perform_173 : decode cX11_perform 173 = .ok (.aload_n 0, 1) := by decide +kernel
theorem dX11_perform_174 : decode cX11_perform 174 = .ok (.getfield 44, 3) := by decide +kernel
theorem dX11_perform_177 : decode cX11_perform 177 = .ok (.iload_n 3, 1) := by decide +kernel
theorem dX11_perform_178 : decode cX11_perform 178 = .ok (.iconst 5, 1) := by decide +kernel
theorem dX11_perform_179 : decode cX11_perform 179 = .ok (.iadd, 1) := by decide +kernel
theorem dX11_perform_180 : decode cX11_perform 180 = .ok (.iaload, 1) := by decide +kernel
theorem dX11_perform_181 : decode cX11_perform 181 = .ok (.iastore, 1) := by decide +kernel
theorem dX11_perform_182 : decode cX11_perform 182 = .ok (.goto 70, 3) := by decide +kernel
theorem dX11_perform_185 : decode cX11_perform 185 = .ok (.aload_n 0, 1) := by decide +kernel
theorem dX11_perform_186 : decode cX11_perform 186 = .ok (.getfield 44, 3) := by decide +kernel
theorem dX11_perform_189 : decode cX11_perform 189 = .ok (.iload_n 3, 1) := by decide +kernel
theorem dX11_perform_190 : decode cX11_perform 190 = .ok (.iaload, 1) := by decide +kernel
theorem dX11_perform_191 : decode cX11_perform 191 = .ok (.iconst 3, 1) := by decide +kernel
theorem dX11_perform_192 : decode cX11_perform 192 = .ok (.if_icmp .ne 28, 3) := by decide +kernel
theorem dX11_perform_195 : decode cX11_perform 195 = .ok (.aload_n 0, 1) := by decide +kernel
theorem dX11_perform_196 : decode cX11_perform 196 = .ok (.getfield 16, 3) := by decide +kernel
theorem dX11_perform_199 : decode cX11_perform 199 = .ok (.aload_n 0, 1) := by decide +kernel
theorem dX11_perform_200 : decode cX11_perform 200 = .ok (.getfield 44, 3) := by decide +kernel
theorem dX11_perform_203 : decode cX11_perform 203 = .ok (.iload_n 3, 1) := by decide +kernel
theorem dX11_perform_204 : decode cX11_perform 204 = .ok (.iconst 1, 1) := by decide +kernel
theorem dX11_perform_205 : decode cX11_perform 205 = .ok (.iadd, 1) := by decide +kernel
theorem dX11_perform_206 : decode cX11_perform 206 = .ok (.iaload, 1) := by decide +kernel
theorem dX11_perform_207 : decode cX11_perform 207 = .ok (.aload_n 0, 1) := by decide +kernel
theorem dX11_perform_208 : decode cX11_perform 208 = .ok (.getfield 44, 3) := by decide +kernel
theorem dX11_perform_211 : decode cX11_perform 211 = .ok (.iload_n 3, 1) := by decide +kernel
theorem dX11_perform_212 : decode cX11_perform 212 = .ok (.bipush 6, 2) := by decide +kernel
theorem dX11_perform_214 : decode cX11_perform 214 = .ok (.iadd, 1) := by decide +kernel
theorem dX11_perform_215 : decode cX11_perform 215 = .ok (.iaload, 1) := by decide +kernel
theorem dX11_perform_216 : decode cX11_perform 216 = .ok (.iastore, 1) := by decide +kernel
theorem dX11_perform_217 : decode cX11_perform 217 = .ok (.goto 35, 3) := by decide +kernel
theorem dX11_perform_220 : decode cX11_perform 220 = .ok (.aload_n 0, 1) := by decide +kernel
theorem dX11_perform_221 : decode cX11_perform 221 = .ok (.getfield 44, 3) := by decide +kernel
theorem dX11_perform_224 : decode cX11_perform 224 = .ok (.iload_n 3, 1) := by decide +kernel
theorem dX11_perform_225 : decode cX11_perform 225 = .ok (.iaload, 1) := by decide +kernel
theorem dX11_perform_226 : decode cX11_perform 226 = .ok (.iconst 5, 1) := by decide +kernel
theorem dX11_perform_227 : decode cX11_perform 227 = .ok (.if_icmp .ne 25, 3) := by decide +kernel
theorem dX11_perform_230 : decode cX11_perform 230 = .ok (.aload_n 0, 1) := by decide +kernel
theorem dX11_perform_231 : decode cX11_perform 231 = .ok (.getfield 19, 3) := by decide +kernel
theorem dX11_perform_234 : decode cX11_perform 234 = .ok (.aload_n 0, 1) := by decide +kernel
theorem dX11_perform_235 : decode cX11_perform 235 = .ok (.getfield 44, 3) := by decide +kernel
theorem dX11_perform_238 : decode cX11_perform 238 = .ok (.iload_n 3, 1) := by decide +kernel
theorem dX11_perform_239 : decode cX11_perform 239 = .ok (.iconst 1, 1) := by decide +kernel
theorem dX11_perform_240 : decode cX11_perform 240 = .ok (.iadd, 1) := by decide +kernel
theorem dX11_perform_241 : decode cX11_perform 241 = .ok (.iaload, 1) := by decide +kernel
theorem dX11_perform_242 : decode cX11_perform 242 = .ok (.aload_n 0, 1) := by decide +kernel
theorem dX11_perform_243 : decode cX11_perform 243 = .ok (.getfield 44, 3) := by decide +kernel
theorem dX11_perform_246 : decode cX11_perform 246 = .ok (.iload_n 3, 1) := by decide +kernel
theorem dX11_perform_247 : decode cX11_perform 247 = .ok (.bipush 6, 2) := by decide +kernel
theorem dX11_perform_249 : decode cX11_perform 249 = .ok (.iadd, 1) := by decide +kernel
theorem dX11_perform_250 : decode cX11_perform 250 = .ok (.iaload, 1) := by decide +kernel
theorem dX11_perform_251 : decode cX11_perform 251 = .ok (.iastore, 1) := by decide +kernel
theorem dX11_perform_252 : decode cX11_perform 252 = .ok (.iinc 2 1, 3) := by decide +kernel
theorem dX11_perform_255 : decode cX11_perform 255 = .ok (.goto (-248), 3) := by decide +kernel
theorem dX11_perform_258 : decode cX11_perform 258 = .ok (.aload_n 0, 1) := by decide +kernel
theorem dX11_perform_259 : decode cX11_perform 259 = .ok (.getfield 159, 3) := by decide +kernel
theorem dX11_perform_262 : decode cX11_perform 262 = .ok (.istore_n 2, 1) := by decide +kernel
theorem dX11_perform_263 : decode cX11_perform 263 = .ok (.aload_n 0, 1) := by decide +kernel
theorem dX11_perform_264 : decode cX11_perform 264 = .ok (.iload_n 1, 1) := by decide +kernel
theorem dX11_perform_265 : decode cX11_perform 265 = .ok (.putfield 159, 3) := by decide +kernel
theorem dX11_perform_268 : decode cX11_perform 268 = .ok (.iconst 0, 1) := by decide +kernel
theorem dX11_perform_269 : decode cX11_perform 269 = .ok (.istore_n 3, 1) := by decide +kernel
theorem dX11_perform_270 : decode cX11_perform 270 = .ok (.iload_n 3, 1) := by decide +kernel
theorem dX11_perform_271 : decode cX11_perform 271 = .ok (.iload_n 1, 1) := by decide +kernel
theorem dX11_perform_272 : decode cX11_perform 272 = .ok (.if_icmp .ge 37, 3) := by decide +kernel
theorem dX11_perform_275 : decode cX11_perform 275 = .ok (.aload_n 0, 1) := by decide +kernel
theorem dX11_perform_276 : decode cX11_perform 276 = .ok (.getfield 62, 3) := by decide +kernel
theorem dX11_perform_279 : decode cX11_perform 279 = .ok (.iload_n 3, 1) := by decide +kernel
theorem dX11_perform_280 : decode cX11_perform 280 = .ok (.baload, 1) := by decide +kernel
theorem dX11_perform_281 : decode cX11_perform 281 = .ok (.ifCond .eq 22, 3) := by decide +kernel
theorem dX11_perform_284 : decode cX11_perform 284 = .ok (.aload_n 0, 1) := by decide +kernel
theorem dX11_perform_285 : decode cX11_perform 285 = .ok (.getfield 7, 3) := by decide +kernel
theorem dX11_perform_288 : decode cX11_perform 288 = .ok (.iload_n 3, 1) := by decide +kernel
theorem dX11_perform_289 : decode cX11_perform 289 = .ok (.iaload, 1) := by decide +kernel
theorem dX11_perform_290 : decode cX11_perform 290 = .ok (.ifCond .ne 13, 3) := by decide +kernel
theorem dX11_perform_293 : decode cX11_perform 293 = .ok (.aload_n 0, 1) := by decide +kernel
theorem dX11_perform_294 : decode cX11_perform 294 = .ok (.iload_n 3, 1) := by decide +kernel
theorem dX11_perform_295 : decode cX11_perform 295 = .ok (.aload_n 0, 1) := by decide +kernel
theorem dX11_perform_296 : decode cX11_perform 296 = .ok (.iload_n 3, 1) := by decide +kernel
theorem dX11_perform_297 : decode cX11_perform 297 = .ok (.invokevirtual 264, 3) := by decide +kernel
theorem dX11_perform_300 : decode cX11_perform 300 = .ok (.invokevirtual 267, 3) := by decide +kernel
theorem dX11_perform_303 : decode cX11_perform 303 = .ok (.iinc 3 1, 3) := by decide +kernel
theorem dX11_perform_306 : decode cX11_perform 306 = .ok (.goto (-36), 3) := by decide +kernel
theorem dX11_perform_309 : decode cX11_perform 309 = .ok (.aload_n 0, 1) := by decide +kernel
theorem dX11_perform_310 : decode cX11_perform 310 = .ok (.iload_n 2, 1) := by decide +kernel
theorem dX11_perform_311 : decode cX11_perform 311 = .ok (.putfield 159, 3) := by decide +kernel
theorem dX11_perform_314 : decode cX11_perform 314 = .ok (.iconst 0, 1) := by decide +kernel
theorem dX11_perform_315 : decode cX11_perform 315 = .ok (.istore_n 3, 1) := by decide +kernel
theorem dX11_perform_316 : decode cX11_perform 316 = .ok (.iload_n 3, 1) := by decide +kernel
theorem dX11_perform_317 : decode cX11_perform 317 = .ok (.aload_n 0, 1) := by decide +kernel
theorem dX11_perform_318 : decode cX11_perform 318 = .ok (.getfield 191, 3) := by decide +kernel
theorem dX11_perform_321 : decode cX11_perform 321 = .ok (.if_icmp .ge 56, 3) := by decide +kernel
theorem dX11_perform_324 : decode cX11_perform 324 = .ok (.aload_n 0, 1) := by decide +kernel
theorem dX11_perform_325 : decode cX11_perform 325 = .ok (.getfield 44, 3) := by decide +kernel
theorem dX11_perform_328 : decode cX11_perform 328 = .ok (.bipush 7, 2) := by decide +kernel
theorem dX11_perform_330 : decode cX11_perform 330 = .ok (.iload_n 3, 1) := by decide +kernel
theorem dX11_perform_331 : decode cX11_perform 331 = .ok (.imul, 1) := by decide +kernel
theorem dX11_perform_332 : decode cX11_perform 332 = .ok (.iaload, 1) := by decide +kernel
theorem dX11_perform_333 : decode cX11_perform 333 = .ok (.iconst 1, 1) := by decide +kernel
theorem dX11_perform_334 : decode cX11_perform 334 = .ok (.if_icmp .ne 37, 3) := by decide +kernel
theorem dX11_perform_337 : decode cX11_perform 337 = .ok (.aload_n 0, 1) := by decide +kernel
theorem dX11_perform_338 : decode cX11_perform 338 = .ok (.getfield 31, 3) := by decide +kernel
theorem dX11_perform_341 : decode cX11_perform 341 = .ok (.aload_n 0, 1) := by decide +kernel
theorem dX11_perform_342 : decode cX11_perform 342 = .ok (.getfield 44, 3) := by decide +kernel
theorem dX11_perform_345 : decode cX11_perform 345 = .ok (.bipush 7, 2) := by decide +kernel
theorem dX11_perform_347 : decode cX11_perform 347 = .ok (.iload_n 3, 1) := by decide +kernel
theorem dX11_perform_348 : decode cX11_perform 348 = .ok (.imul, 1) := by decide +kernel
theorem dX11_perform_349 : decode cX11_perform 349 = .ok (.iconst 1, 1) := by decide +kernel
theorem dX11_perform_350 : decode cX11_perform 350 = .ok (.iadd, 1) := by decide +kernel
theorem dX11_perform_351 : decode cX11_perform 351 = .ok (.iaload, 1) := by decide +kernel
theorem dX11_perform_352 : decode cX11_perform 352 = .ok (.iconst 0, 1) := by decide +kernel
theorem dX11_perform_353 : decode cX11_perform 353 = .ok (.bastore, 1) := by decide +kernel
theorem dX11_perform_354 : decode cX11_perform 354 = .ok (.aload_n 0, 1) := by decide +kernel
theorem dX11_perform_355 : decode cX11_perform 355 = .ok (.getfield 22, 3) := by decide +kernel
theorem dX11_perform_358 : decode cX11_perform 358 = .ok (.aload_n 0, 1) := by decide +kernel
theorem dX11_perform_359 : decode cX11_perform 359 = .ok (.getfield 44, 3) := by decide +kernel
theorem dX11_perform_362 : decode cX11_perform 362 = .ok (.bipush 7, 2) := by decide +kernel
theorem dX11_perform_364 : decode cX11_perform 364 = .ok (.iload_n 3, 1) := by decide +kernel
theorem dX11_perform_365 : decode cX11_perform 365 = .ok (.imul, 1) := by decide +kernel
theorem dX11_perform_366 : decode cX11_perform 366 = .ok (.iconst 1, 1) := by decide +kernel
theorem dX11_perform_367 : decode cX11_perform 367 = .ok (.iadd, 1) := by decide +kernel
theorem dX11_perform_368 : decode cX11_perform 368 = .ok (.iaload, 1) := by decide +kernel
theorem dX11_perform_369 : decode cX11_perform 369 = .ok (.iconst (-1), 1) := by decide +kernel
theorem dX11_perform_370 : decode cX11_perform 370 = .ok (.iastore, 1) := by decide +kernel
theorem dX11_perform_371 : decode cX11_perform 371 = .ok (.iinc 3 1, 3) := by decide +kernel
theorem dX11_perform_374 : decode cX11_perform 374 = .ok (.goto (-58), 3) := by decide +kernel
theorem dX11_perform_377 : decode cX11_perform 377 = .ok (.return_, 1) := by decide +kernel
abbrev cX11_isSound : ByteArray := prog_13_method_39_code
def yX11_isSound : MethodName := ⟨RX11, "isSound", "(I)Z"⟩
theorem dX11_isSound_0 : decode cX11_isSound 0 = .ok (.iconst 1, 1) := by decide +kernel
theorem dX11_isSound_1 : decode cX11_isSound 1 = .ok (.istore_n 2, 1) := by decide +kernel
theorem dX11_isSound_2 : decode cX11_isSound 2 = .ok (.iconst 0, 1) := by decide +kernel
theorem dX11_isSound_3 : decode cX11_isSound 3 = .ok (.istore_n 3, 1) := by decide +kernel
theorem dX11_isSound_4 : decode cX11_isSound 4 = .ok (.iload_n 3, 1) := by decide +kernel
theorem dX11_isSound_5 : decode cX11_isSound 5 = .ok (.iload_n 1, 1) := by decide +kernel
theorem dX11_isSound_6 : decode cX11_isSound 6 = .ok (.if_icmp .ge 36, 3) := by decide +kernel
theorem dX11_isSound_9 : decode cX11_isSound 9 = .ok (.iload_n 2, 1) := by decide +kernel
theorem dX11_isSound_10 : decode cX11_isSound 10 = .ok (.ifCond .eq 24, 3) := by decide +kernel
theorem dX11_isSound_13 : decode cX11_isSound 13 = .ok (.aload_n 0, 1) := by decide +kernel
theorem dX11_isSound_14 : decode cX11_isSound 14 = .ok (.getfield 62, 3) := by decide +kernel
theorem dX11_isSound_17 : decode cX11_isSound 17 = .ok (.iload_n 3, 1) := by decide +kernel
theorem dX11_isSound_18 : decode cX11_isSound 18 = .ok (.baload, 1) := by decide +kernel
theorem dX11_isSound_19 : decode cX11_isSound 19 = .ok (.ifCond .eq 11, 3) := by decide +kernel
theorem dX11_isSound_22 : decode cX11_isSound 22 = .ok (.aload_n 0, 1) := by decide +kernel
theorem dX11_isSound_23 : decode cX11_isSound 23 = .ok (.iload_n 3, 1) := by decide +kernel
theorem dX11_isSound_24 : decode cX11_isSound 24 = .ok (.invokevirtual 271, 3) := by decide +kernel
theorem dX11_isSound_27 : decode cX11_isSound 27 = .ok (.ifCond .ne 7, 3) := by decide +kernel
theorem dX11_isSound_30 : decode cX11_isSound 30 = .ok (.iconst 1, 1) := by decide +kernel
theorem dX11_isSound_31 : decode cX11_isSound 31 = .ok (.goto 4, 3) := by decide +kernel
theorem dX11_isSound_34 : decode cX11_isSound 34 = .ok (.iconst 0, 1) := by decide +kernel
theorem dX11_isSound_35 : decode cX11_isSound 35 = .ok (.istore_n 2, 1) := by decide +kernel
theorem dX11_isSound_36 : decode cX11_isSound 36 = .ok (.iinc 3 1, 3) := by decide +kernel
theorem dX11_isSound_39 : decode cX11_isSound 39 = .ok (.goto (-35), 3) := by decide +kernel
theorem dX11_isSound_42 : decode cX11_isSound 42 = .ok (.iload_n 2, 1) := by decide +kernel
theorem dX11_isSound_43 : decode cX11_isSound 43 = .ok (.ireturn, 1) := by decide +kernel
abbrev cX11_isOf : ByteArray := prog_13_method_94_code
def yX11_isOf : MethodName := ⟨RX11, "isOf", "(II)Z"⟩
theorem dX11_isOf_0 : decode cX11_isOf 0 = .ok (.aload_n 0, 1) := by decide +kernel
theorem dX11_isOf_1 : decode cX11_isOf 1 = .ok (.getfield 93, 3) := by decide +kernel
theorem dX11_isOf_4 : decode cX11_isOf 4 = .ok (.iload_n 2, 1) := by decide +kernel
theorem dX11_isOf_5 : decode cX11_isOf 5 = .ok (.iaload, 1) := by decide +kernel
theorem dX11_isOf_6 : decode cX11_isOf 6 = .ok (.aload_n 0, 1) := by decide +kernel
theorem dX11_isOf_7 : decode cX11_isOf 7 = .ok (.getfield 13, 3) := by decide +kernel
theorem dX11_isOf_10 : decode cX11_isOf 10 = .ok (.iload_n 1, 1) := by decide +kernel
theorem dX11_isOf_11 : decode cX11_isOf 11 = .ok (.iaload, 1) := by decide +kernel
theorem dX11_isOf_12 : decode cX11_isOf 12 = .ok (.if_icmp .ne 7, 3) := by decide +kernel
theorem dX11_isOf_15 : decode cX11_isOf 15 = .ok (.iconst 1, 1) := by decide +kernel
theorem dX11_isOf_16 : decode cX11_isOf 16 = .ok (.goto 4, 3) := by decide +kernel
theorem dX11_isOf_19 : decode cX11_isOf 19 = .ok (.iconst 0, 1) := by decide +kernel
theorem dX11_isOf_20 : decode cX11_isOf 20 = .ok (.istore_n 3, 1) := by decide +kernel
theorem dX11_isOf_21 : decode cX11_isOf 21 = .ok (.iconst 0, 1) := by decide +kernel
theorem dX11_isOf_22 : decode cX11_isOf 22 = .ok (.istore 4, 2) := by decide +kernel
theorem dX11_isOf_24 : decode cX11_isOf 24 = .ok (.iload 4, 2) := by decide +kernel
theorem dX11_isOf_26 : decode cX11_isOf 26 = .ok (.bipush 8, 2) := by decide +kernel
theorem dX11_isOf_28 : decode cX11_isOf 28 = .ok (.if_icmp .ge 70, 3) := by decide +kernel
theorem dX11_isOf_31 : decode cX11_isOf 31 = .ok (.aload_n 0, 1) := by decide +kernel
theorem dX11_isOf_32 : decode cX11_isOf 32 = .ok (.iload_n 1, 1) := by decide +kernel
theorem dX11_isOf_33 : decode cX11_isOf 33 = .ok (.iload 4, 2) := by decide +kernel
theorem dX11_isOf_35 : decode cX11_isOf 35 = .ok (.invokevirtual 176, 3) := by decide +kernel
theorem dX11_isOf_38 : decode cX11_isOf 38 = .ok (.iconst (-1), 1) := by decide +kernel
theorem dX11_isOf_39 : decode cX11_isOf 39 = .ok (.if_icmp .eq 7, 3) := by decide +kernel
theorem dX11_isOf_42 : decode cX11_isOf 42 = .ok (.iconst 1, 1) := by decide +kernel
theorem dX11_isOf_43 : decode cX11_isOf 43 = .ok (.goto 4, 3) := by decide +kernel
theorem dX11_isOf_46 : decode cX11_isOf 46 = .ok (.iconst 0, 1) := by decide +kernel
theorem dX11_isOf_47 : decode cX11_isOf 47 = .ok (.istore 5, 2) := by decide +kernel
theorem dX11_isOf_49 : decode cX11_isOf 49 = .ok (.aload_n 0, 1) := by decide +kernel
theorem dX11_isOf_50 : decode cX11_isOf 50 = .ok (.getfield 99, 3) := by decide +kernel
theorem dX11_isOf_53 : decode cX11_isOf 53 = .ok (.bipush 8, 2) := by decide +kernel
theorem dX11_isOf_55 : decode cX11_isOf 55 = .ok (.iload_n 2, 1) := by decide +kernel
theorem dX11_isOf_56 : decode cX11_isOf 56 = .ok (.imul, 1) := by decide +kernel
theorem dX11_isOf_57 : decode cX11_isOf 57 = .ok (.iload 4, 2) := by decide +kernel
theorem dX11_isOf_59 : decode cX11_isOf 59 = .ok (.iadd, 1) := by decide +kernel
theorem dX11_isOf_60 : decode cX11_isOf 60 = .ok (.iaload, 1) := by decide +kernel
theorem dX11_isOf_61 : decode cX11_isOf 61 = .ok (.istore 6, 2) := by decide +kernel
theorem dX11_isOf_63 : decode cX11_isOf 63 = .ok (.iload_n 3, 1) := by decide +kernel
theorem dX11_isOf_64 : decode cX11_isOf 64 = .ok (.ifCond .eq 26, 3) := by decide +kernel
theorem dX11_isOf_67 : decode cX11_isOf 67 = .ok (.iload 5, 2) := by decide +kernel
theorem dX11_isOf_69 : decode cX11_isOf 69 = .ok (.ifCond .eq 11, 3) := by decide +kernel
theorem dX11_isOf_72 : decode cX11_isOf 72 = .ok (.iload 6, 2) := by decide +kernel
theorem dX11_isOf_74 : decode cX11_isOf 74 = .ok (.ifCond .eq 16, 3) := by decide +kernel
theorem dX11_isOf_77 : decode cX11_isOf 77 = .ok (.goto 9, 3) := by decide +kernel
theorem dX11_isOf_80 : decode cX11_isOf 80 = .ok (.iload 6, 2) := by decide +kernel
theorem dX11_isOf_82 : decode cX11_isOf 82 = .ok (.iconst 2, 1) := by decide +kernel
theorem dX11_isOf_83 : decode cX11_isOf 83 = .ok (.if_icmp .eq 7, 3) := by decide +kernel
theorem dX11_isOf_86 : decode cX11_isOf 86 = .ok (.iconst 1, 1) := by decide +kernel
theorem dX11_isOf_87 : decode cX11_isOf 87 = .ok (.goto 4, 3) := by decide +kernel
theorem dX11_isOf_90 : decode cX11_isOf 90 = .ok (.iconst 0, 1) := by decide +kernel
theorem dX11_isOf_91 : decode cX11_isOf 91 = .ok (.istore_n 3, 1) := by decide +kernel
theorem dX11_isOf_92 : decode cX11_isOf 92 = .ok (.iinc 4 1, 3) := by decide +kernel
theorem dX11_isOf_95 : decode cX11_isOf 95 = .ok (.goto (-71), 3) := by decide +kernel
theorem dX11_isOf_98 : decode cX11_isOf 98 = .ok (.iconst 1, 1) := by decide +kernel
theorem dX11_isOf_99 : decode cX11_isOf 99 = .ok (.istore 4, 2) := by decide +kernel
theorem dX11_isOf_101 : decode cX11_isOf 101 = .ok (.aload_n 0, 1) := by decide +kernel
theorem dX11_isOf_102 : decode cX11_isOf 102 = .ok (.iload_n 1, 1) := by decide +kernel
theorem dX11_isOf_103 : decode cX11_isOf 103 = .ok (.invokevirtual 180, 3) := by decide +kernel
theorem dX11_isOf_106 : decode cX11_isOf 106 = .ok (.istore 5, 2) := by decide +kernel
theorem dX11_isOf_108 : decode cX11_isOf 108 = .ok (.iconst 0, 1) := by decide +kernel
theorem dX11_isOf_109 : decode cX11_isOf 109 = .ok (.istore 6, 2) := by decide +kernel
theorem dX11_isOf_111 : decode cX11_isOf 111 = .ok (.iload 6, 2) := by decide +kernel
theorem dX11_isOf_113 : decode cX11_isOf 113 = .ok (.iload 5, 2) := by decide +kernel
theorem dX11_isOf_115 : decode cX11_isOf 115 = .ok (.if_icmp .ge 132, 3) := by decide +kernel
theorem dX11_isOf_118 : decode cX11_isOf 118 = .ok (.iload_n 3, 1) := by decide +kernel
theorem dX11_isOf_119 : decode cX11_isOf 119 = .ok (.ifCond .eq 128, 3) := by decide +kernel
theorem dX11_isOf_122 : decode cX11_isOf 122 = .ok (.aload_n 0, 1) := by decide +kernel
theorem dX11_isOf_123 : decode cX11_isOf 123 = .ok (.iload_n 1, 1) := by decide +kernel
theorem dX11_isOf_124 : decode cX11_isOf 124 = .ok (.iload 6, 2) := by decide +kernel
theorem dX11_isOf_126 : decode cX11_isOf 126 = .ok (.invokevirtual 184, 3) := by decide +kernel
theorem dX11_isOf_129 : decode cX11_isOf 129 = .ok (.istore 7, 2) := by decide +kernel
theorem dX11_isOf_131 : decode cX11_isOf 131 = .ok (.aload_n 0, 1) := by decide +kernel
theorem dX11_isOf_132 : decode cX11_isOf 132 = .ok (.getfield 7, 3) := by decide +kernel
theorem dX11_isOf_135 : decode cX11_isOf 135 = .ok (.iload 7, 2) := by decide +kernel
theorem dX11_isOf_137 : decode cX11_isOf 137 = .ok (.iaload, 1) := by decide +kernel
theorem dX11_isOf_138 : decode cX11_isOf 138 = .ok (.iconst 1, 1) := by decide +kernel
theorem dX11_isOf_139 : decode cX11_isOf 139 = .ok (.if_icmp .ne 13, 3) := by decide +kernel
theorem dX11_isOf_142 : decode cX11_isOf 142 = .ok (.aload_n 0, 1) := by decide +kernel
theorem dX11_isOf_143 : decode cX11_isOf 143 = .ok (.getfield 96, 3) := by decide +kernel
theorem dX11_isOf_146 : decode cX11_isOf 146 = .ok (.iload_n 2, 1) := by decide +kernel
theorem dX11_isOf_147 : decode cX11_isOf 147 = .ok (.baload, 1) := by decide +kernel
theorem dX11_isOf_148 : decode cX11_isOf 148 = .ok (.istore_n 3, 1) := by decide +kernel
theorem dX11_isOf_149 : decode cX11_isOf 149 = .ok (.goto 92, 3) := by decide +kernel
theorem dX11_isOf_152 : decode cX11_isOf 152 = .ok (.iconst 0, 1) := by decide +kernel
theorem dX11_isOf_153 : decode cX11_isOf 153 = .ok (.istore 8, 2) := by decide +kernel
theorem dX11_isOf_155 : decode cX11_isOf 155 = .ok (.iconst 0, 1) := by decide +kernel
theorem dX11_isOf_156 : decode cX11_isOf 156 = .ok (.istore 9, 2) := by decide +kernel
theorem dX11_isOf_158 : decode cX11_isOf 158 = .ok (.iload 9, 2) := by decide +kernel
theorem dX11_isOf_160 : decode cX11_isOf 160 = .ok (.bipush 24, 2) := by decide +kernel
theorem dX11_isOf_162 : decode cX11_isOf 162 = .ok (.if_icmp .ge 75, 3) := by decide +kernel
theorem dX11_isOf_165 : decode cX11_isOf 165 = .ok (.iload 4, 2) := by decide +kernel
theorem dX11_isOf_167 : decode cX11_isOf 167 = .ok (.iload 9, 2) := by decide +kernel
theorem dX11_isOf_169 : decode cX11_isOf 169 = .ok (.bipush 6, 2) := by decide +kernel
theorem dX11_isOf_171 : decode cX11_isOf 171 = .ok (.idiv, 1) := by decide +kernel
theorem dX11_isOf_172 : decode cX11_isOf 172 = .ok (.ishr, 1) := by decide +kernel
theorem dX11_isOf_173 : decode cX11_isOf 173 = .ok (.iconst 1, 1) := by decide +kernel
theorem dX11_isOf_174 : decode cX11_isOf 174 = .ok (.iand, 1) := by decide +kernel
theorem dX11_isOf_175 : decode cX11_isOf 175 = .ok (.iconst 1, 1) := by decide +kernel
theorem dX11_isOf_176 : decode cX11_isOf 176 = .ok (.if_icmp .ne 26, 3) := by decide +kernel
theorem dX11_isOf_179 : decode cX11_isOf 179 = .ok (.aload_n 0, 1) := by decide +kernel
theorem dX11_isOf_180 : decode cX11_isOf 180 = .ok (.getfield 108, 3) := by decide +kernel
theorem dX11_isOf_183 : decode cX11_isOf 183 = .ok (.iload 7, 2) := by decide +kernel
theorem dX11_isOf_185 : decode cX11_isOf 185 = .ok (.iaload, 1) := by decide +kernel
theorem dX11_isOf_186 : decode cX11_isOf 186 = .ok (.iload 9, 2) := by decide +kernel
theorem dX11_isOf_188 : decode cX11_isOf 188 = .ok (.bipush 6, 2) := by decide +kernel
theorem dX11_isOf_190 : decode cX11_isOf 190 = .ok (.irem, 1) := by decide +kernel
theorem dX11_isOf_191 : decode cX11_isOf 191 = .ok (.ishr, 1) := by decide +kernel
theorem dX11_isOf_192 : decode cX11_isOf 192 = .ok (.iconst 1, 1) := by decide +kernel
theorem dX11_isOf_193 : decode cX11_isOf 193 = .ok (.iand, 1) := by decide +kernel
theorem dX11_isOf_194 : decode cX11_isOf 194 = .ok (.iconst 1, 1) := by decide +kernel
theorem dX11_isOf_195 : decode cX11_isOf 195 = .ok (.if_icmp .ne 7, 3) := by decide +kernel
theorem dX11_isOf_198 : decode cX11_isOf 198 = .ok (.iconst 1, 1) := by decide +kernel
theorem dX11_isOf_199 : decode cX11_isOf 199 = .ok (.goto 4, 3) := by decide +kernel
theorem dX11_isOf_202 : decode cX11_isOf 202 = .ok (.iconst 0, 1) := by decide +kernel
theorem dX11_isOf_203 : decode cX11_isOf 203 = .ok (.istore 10, 2) := by decide +kernel
theorem dX11_isOf_205 : decode cX11_isOf 205 = .ok (.iload 8, 2) := by decide +kernel
theorem dX11_isOf_207 : decode cX11_isOf 207 = .ok (.iload 10, 2) := by decide +kernel
theorem dX11_isOf_209 : decode cX11_isOf 209 = .ok (.ifCond .eq 18, 3) := by decide +kernel
theorem dX11_isOf_212 : decode cX11_isOf 212 = .ok (.aload_n 0, 1) := by decide +kernel
theorem dX11_isOf_213 : decode cX11_isOf 213 = .ok (.getfield 105, 3) := by decide +kernel
theorem dX11_isOf_216 : decode cX11_isOf 216 = .ok (.bipush 24, 2) := by decide +kernel
theorem dX11_isOf_218 : decode cX11_isOf 218 = .ok (.iload_n 2, 1) := by decide +kernel
theorem dX11_isOf_219 : decode cX11_isOf 219 = .ok (.imul, 1) := by decide +kernel
theorem dX11_isOf_220 : decode cX11_isOf 220 = .ok (.iload 9, 2) := by decide +kernel
theorem dX11_isOf_222 : decode cX11_isOf 222 = .ok (.iadd, 1) := by decide +kernel
theorem dX11_isOf_223 : decode cX11_isOf 223 = .ok (.iaload, 1) := by decide +kernel
theorem dX11_isOf_224 : decode cX11_isOf 224 = .ok (.goto 4, 3) := by decide +kernel
theorem dX11_isOf_227 : decode cX11_isOf 227 = .ok (.iconst 0, 1) := by decide +kernel
theorem dX11_isOf_228 : decode cX11_isOf 228 = .ok (.ior, 1) := by decide +kernel
theorem dX11_isOf_229 : decode cX11_isOf 229 = .ok (.istore 8, 2) := by decide +kernel
theorem dX11_isOf_231 : decode cX11_isOf 231 = .ok (.iinc 9 1, 3) := by decide +kernel
theorem dX11_isOf_234 : decode cX11_isOf 234 = .ok (.goto (-76), 3) := by decide +kernel
theorem dX11_isOf_237 : decode cX11_isOf 237 = .ok (.iload 8, 2) := by decide +kernel
theorem dX11_isOf_239 : decode cX11_isOf 239 = .ok (.istore 4, 2) := by decide +kernel
theorem dX11_isOf_241 : decode cX11_isOf 241 = .ok (.iinc 6 1, 3) := by decide +kernel
theorem dX11_isOf_244 : decode cX11_isOf 244 = .ok (.goto (-133), 3) := by decide +kernel
theorem dX11_isOf_247 : decode cX11_isOf 247 = .ok (.iload_n 3, 1) := by decide +kernel
theorem dX11_isOf_248 : decode cX11_isOf 248 = .ok (.ifCond .eq 19, 3) := by decide +kernel
theorem dX11_isOf_251 : decode cX11_isOf 251 = .ok (.iload 4, 2) := by decide +kernel
theorem dX11_isOf_253 : decode cX11_isOf 253 = .ok (.aload_n 0, 1) := by decide +kernel
theorem dX11_isOf_254 : decode cX11_isOf 254 = .ok (.getfield 102, 3) := by decide +kernel
theorem dX11_isOf_257 : decode cX11_isOf 257 = .ok (.iload_n 2, 1) := by decide +kernel
theorem dX11_isOf_258 : decode cX11_isOf 258 = .ok (.iaload, 1) := by decide +kernel
theorem dX11_isOf_259 : decode cX11_isOf 259 = .ok (.iand, 1) := by decide +kernel
theorem dX11_isOf_260 : decode cX11_isOf 260 = .ok (.ifCond .eq 7, 3) := by decide +kernel
theorem dX11_isOf_263 : decode cX11_isOf 263 = .ok (.iconst 1, 1) := by decide +kernel
theorem dX11_isOf_264 : decode cX11_isOf 264 = .ok (.goto 4, 3) := by decide +kernel
theorem dX11_isOf_267 : decode cX11_isOf 267 = .ok (.iconst 0, 1) := by decide +kernel
theorem dX11_isOf_268 : decode cX11_isOf 268 = .ok (.ireturn, 1) := by decide +kernel
abbrev cX11_findTypes : ByteArray := prog_13_method_95_code
def yX11_findTypes : MethodName := ⟨RX11, "findTypes", "()V"⟩
theorem dX11_findTypes_0 : decode cX11_findTypes 0 = .ok (.aload_n 0, 1) := by decide +kernel
theorem dX11_findTypes_1 : decode cX11_findTypes 1 = .ok (.getfield 173, 3) := by decide +kernel
theorem dX11_findTypes_4 : decode cX11_findTypes 4 = .ok (.iconst 1, 1) := by decide +kernel
theorem dX11_findTypes_5 : decode cX11_findTypes 5 = .ok (.isub, 1) := by decide +kernel
theorem dX11_findTypes_6 : decode cX11_findTypes 6 = .ok (.istore_n 1, 1) := by decide +kernel
theorem dX11_findTypes_7 : decode cX11_findTypes 7 = .ok (.iload_n 1, 1) := by decide +kernel
theorem dX11_findTypes_8 : decode cX11_findTypes 8 = .ok (.ifCond .lt 71, 3) := by decide +kernel
theorem dX11_findTypes_11 : decode cX11_findTypes 11 = .ok (.aload_n 0, 1) := by decide +kernel
theorem dX11_findTypes_12 : decode cX11_findTypes 12 = .ok (.getfield 35, 3) := by decide +kernel
theorem dX11_findTypes_15 : decode cX11_findTypes 15 = .ok (.iload_n 1, 1) := by decide +kernel
theorem dX11_findTypes_16 : decode cX11_findTypes 16 = .ok (.iaload, 1) := by decide +kernel
theorem dX11_findTypes_17 : decode cX11_findTypes 17 = .ok (.istore_n 2, 1) := by decide +kernel
theorem dX11_findTypes_18 : decode cX11_findTypes 18 = .ok (.aload_n 0, 1) := by decide +kernel
theorem dX11_findTypes_19 : decode cX11_findTypes 19 = .ok (.getfield 108, 3) := by decide +kernel
theorem dX11_findTypes_22 : decode cX11_findTypes 22 = .ok (.iload_n 2, 1) := by decide +kernel
theorem dX11_findTypes_23 : decode cX11_findTypes 23 = .ok (.iconst 0, 1) := by decide +kernel
theorem dX11_findTypes_24 : decode cX11_findTypes 24 = .ok (.iastore, 1) := by decide +kernel
theorem dX11_findTypes_25 : decode cX11_findTypes 25 = .ok (.iconst 0, 1) := by decide +kernel
theorem dX11_findTypes_26 : decode cX11_findTypes 26 = .ok (.istore_n 3, 1) := by decide +kernel
theorem dX11_findTypes_27 : decode cX11_findTypes 27 = .ok (.iload_n 3, 1) := by decide +kernel
theorem dX11_findTypes_28 : decode cX11_findTypes 28 = .ok (.bipush 6, 2) := by decide +kernel
theorem dX11_findTypes_30 : decode cX11_findTypes 30 = .ok (.if_icmp .ge 43, 3) := by decide +kernel
theorem dX11_findTypes_33 : decode cX11_findTypes 33 = .ok (.aload_n 0, 1) := by decide +kernel
theorem dX11_findTypes_34 : decode cX11_findTypes 34 = .ok (.getfield 7, 3) := by decide +kernel
theorem dX11_findTypes_37 : decode cX11_findTypes 37 = .ok (.iload_n 2, 1) := by decide +kernel
theorem dX11_findTypes_38 : decode cX11_findTypes 38 = .ok (.iaload, 1) := by decide +kernel
theorem dX11_findTypes_39 : decode cX11_findTypes 39 = .ok (.ifCond .ne 34, 3) := by decide +kernel
theorem dX11_findTypes_42 : decode cX11_findTypes 42 = .ok (.aload_n 0, 1) := by decide +kernel
theorem dX11_findTypes_43 : decode cX11_findTypes 43 = .ok (.getfield 108, 3) := by decide +kernel
theorem dX11_findTypes_46 : decode cX11_findTypes 46 = .ok (.iload_n 2, 1) := by decide +kernel
theorem dX11_findTypes_47 : decode cX11_findTypes 47 = .ok (.dup2, 1) := by decide +kernel
theorem dX11_findTypes_48 : decode cX11_findTypes 48 = .ok (.iaload, 1) := by decide +kernel
theorem dX11_findTypes_49 : decode cX11_findTypes 49 = .ok (.aload_n 0, 1) := by decide +kernel
theorem dX11_findTypes_50 : decode cX11_findTypes 50 = .ok (.iload_n 2, 1) := by decide +kernel
theorem dX11_findTypes_51 : decode cX11_findTypes 51 = .ok (.iload_n 3, 1) := by decide +kernel
theorem dX11_findTypes_52 : decode cX11_findTypes 52 = .ok (.invokevirtual 382, 3) := by decide +kernel
theorem dX11_findTypes_55 : decode cX11_findTypes 55 = .ok (.ifCond .eq 9, 3) := by decide +kernel
theorem dX11_findTypes_58 : decode cX11_findTypes 58 = .ok (.iconst 1, 1) := by decide +kernel
theorem dX11_findTypes_59 : decode cX11_findTypes 59 = .ok (.iload_n 3, 1) := by decide +kernel
theorem dX11_findTypes_60 : decode cX11_findTypes 60 = .ok (.ishl, 1) := by decide +kernel
theorem dX11_findTypes_61 : decode cX11_findTypes 61 = .ok (.goto 4, 3) := by decide +kernel
theorem dX11_findTypes_64 : decode cX11_findTypes 64 = .ok (.iconst 0, 1) := by decide +kernel
theorem dX11_findTypes_65 : decode cX11_findTypes 65 = .ok (.ior, 1) := by decide +kernel
theorem dX11_findTypes_66 : decode cX11_findTypes 66 = .ok (.iastore, 1) := by decide +kernel
theorem dX11_findTypes_67 : decode cX11_findTypes 67 = .ok (.iinc 3 1, 3) := by decide +kernel
theorem dX11_findTypes_70 : decode cX11_findTypes 70 = .ok (.goto (-43), 3) := by decide +kernel
theorem dX11_findTypes_73 : decode cX11_findTypes 73 = .ok (.iinc 1 (-1), 3) := by decide +kernel
theorem dX11_findTypes_76 : decode cX11_findTypes 76 = .ok (.goto (-69), 3) := by decide +kernel
theorem dX11_findTypes_79 : decode cX11_findTypes 79 = .ok (.return_, 1) := by decide +kernel
abbrev cX11_isRight : ByteArray := prog_13_method_96_code
def yX11_isRight : MethodName := ⟨RX11, "isRight", "()Z"⟩
theorem dX11_isRight_0 : decode cX11_isRight 0 = .ok (.aload_n 0, 1) := by decide +kernel
theorem dX11_isRight_1 : decode cX11_isRight 1 = .ok (.invokevirtual 385, 3) := by decide +kernel
theorem dX11_isRight_4 : decode cX11_isRight 4 = .ok (.aload_n 0, 1) := by decide +kernel
theorem dX11_isRight_5 : decode cX11_isRight 5 = .ok (.getfield 108, 3) := by decide +kernel
theorem dX11_isRight_8 : decode cX11_isRight 8 = .ok (.iconst 0, 1) := by decide +kernel
theorem dX11_isRight_9 : decode cX11_isRight 9 = .ok (.iaload, 1) := by decide +kernel
theorem dX11_isRight_10 : decode cX11_isRight 10 = .ok (.iconst 1, 1) := by decide +kernel
theorem dX11_isRight_11 : decode cX11_isRight 11 = .ok (.iand, 1) := by decide +kernel
theorem dX11_isRight_12 : decode cX11_isRight 12 = .ok (.iconst 1, 1) := by decide +kernel
theorem dX11_isRight_13 : decode cX11_isRight 13 = .ok (.if_icmp .ne 7, 3) := by decide +kernel
theorem dX11_isRight_16 : decode cX11_isRight 16 = .ok (.iconst 1, 1) := by decide +kernel
theorem dX11_isRight_17 : decode cX11_isRight 17 = .ok (.goto 4, 3) := by decide +kernel
theorem dX11_isRight_20 : decode cX11_isRight 20 = .ok (.iconst 0, 1) := by decide +kernel
theorem dX11_isRight_21 : decode cX11_isRight 21 = .ok (.ireturn, 1) := by decide +kernel
abbrev cX11_markNew : ByteArray := prog_13_method_40_code
def yX11_markNew : MethodName := ⟨RX11, "markNew", "(IJ)V"⟩
theorem dX11_markNew_0 : decode cX11_markNew 0 = .ok (.iconst 0, 1) := by decide +kernel
theorem dX11_markNew_1 : decode cX11_markNew 1 = .ok (.istore 4, 2) := by decide +kernel
theorem dX11_markNew_3 : decode cX11_markNew 3 = .ok (.iload 4, 2) := by decide +kernel
theorem dX11_markNew_5 : decode cX11_markNew 5 = .ok (.aload_n 0, 1) := by decide +kernel
theorem dX11_markNew_6 : decode cX11_markNew 6 = .ok (.getfield 159, 3) := by decide +kernel
theorem dX11_markNew_9 : decode cX11_markNew 9 = .ok (.if_icmp .ge 100, 3) := by decide +kernel
theorem dX11_markNew_12 : decode cX11_markNew 12 = .ok (.aload_n 0, 1) := by decide +kernel
theorem dX11_markNew_13 : decode cX11_markNew 13 = .ok (.getfield 31, 3) := by decide +kernel
theorem dX11_markNew_16 : decode cX11_markNew 16 = .ok (.iload 4, 2) := by decide +kernel
theorem dX11_markNew_18 : decode cX11_markNew 18 = .ok (.baload, 1) := by decide +kernel
theorem dX11_markNew_19 : decode cX11_markNew 19 = .ok (.ifCond .eq 18, 3) := by decide +kernel
theorem dX11_markNew_22 : decode cX11_markNew 22 = .ok (.lload_n 2, 1) := by decide +kernel
theorem dX11_markNew_23 : decode cX11_markNew 23 = .ok (.iload 4, 2) := by decide +kernel
theorem dX11_markNew_25 : decode cX11_markNew 25 = .ok (.lshr, 1) := by decide +kernel
theorem dX11_markNew_26 : decode cX11_markNew 26 = .ok (.lconst 1, 1) := by decide +kernel
theorem dX11_markNew_27 : decode cX11_markNew 27 = .ok (.land, 1) := by decide +kernel
theorem dX11_markNew_28 : decode cX11_markNew 28 = .ok (.lconst 0, 1) := by decide +kernel
theorem dX11_markNew_29 : decode cX11_markNew 29 = .ok (.lcmp, 1) := by decide +kernel
theorem dX11_markNew_30 : decode cX11_markNew 30 = .ok (.ifCond .ne 7, 3) := by decide +kernel
theorem dX11_markNew_33 : decode cX11_markNew 33 = .ok (.iconst 1, 1) := by decide +kernel
theorem dX11_markNew_34 : decode cX11_markNew 34 = .ok (.goto 4, 3) := by decide +kernel
theorem dX11_markNew_37 : decode cX11_markNew 37 = .ok (.iconst 0, 1) := by decide +kernel
theorem dX11_markNew_38 : decode cX11_markNew 38 = .ok (.istore 5, 2) := by decide +kernel
theorem dX11_markNew_40 : decode cX11_markNew 40 = .ok (.iload 4, 2) := by decide +kernel
theorem dX11_markNew_42 : decode cX11_markNew 42 = .ok (.istore 6, 2) := by decide +kernel
theorem dX11_markNew_44 : decode cX11_markNew 44 = .ok (.iload 6, 2) := by decide +kernel
theorem dX11_markNew_46 : decode cX11_markNew 46 = .ok (.iconst (-1), 1) := by decide +kernel
theorem dX11_markNew_47 : decode cX11_markNew 47 = .ok (.if_icmp .eq 47, 3) := by decide +kernel
theorem dX11_markNew_50 : decode cX11_markNew 50 = .ok (.aload_n 0, 1) := by decide +kernel
theorem dX11_markNew_51 : decode cX11_markNew 51 = .ok (.getfield 31, 3) := by decide +kernel
theorem dX11_markNew_54 : decode cX11_markNew 54 = .ok (.iload 4, 2) := by decide +kernel
theorem dX11_markNew_56 : decode cX11_markNew 56 = .ok (.baload, 1) := by decide +kernel
theorem dX11_markNew_57 : decode cX11_markNew 57 = .ok (.ifCond .eq 37, 3) := by decide +kernel
theorem dX11_markNew_60 : decode cX11_markNew 60 = .ok (.iload 5, 2) := by decide +kernel
theorem dX11_markNew_62 : decode cX11_markNew 62 = .ok (.ifCond .ne 13, 3) := by decide +kernel
theorem dX11_markNew_65 : decode cX11_markNew 65 = .ok (.aload_n 0, 1) := by decide +kernel
theorem dX11_markNew_66 : decode cX11_markNew 66 = .ok (.iload 6, 2) := by decide +kernel
theorem dX11_markNew_68 : decode cX11_markNew 68 = .ok (.iconst 4, 1) := by decide +kernel
theorem dX11_markNew_69 : decode cX11_markNew 69 = .ok (.invokevirtual 214, 3) := by decide +kernel
theorem dX11_markNew_72 : decode cX11_markNew 72 = .ok (.ifCond .eq 7, 3) := by decide +kernel
theorem dX11_markNew_75 : decode cX11_markNew 75 = .ok (.iconst 1, 1) := by decide +kernel
theorem dX11_markNew_76 : decode cX11_markNew 76 = .ok (.goto 4, 3) := by decide +kernel
theorem dX11_markNew_79 : decode cX11_markNew 79 = .ok (.iconst 0, 1) := by decide +kernel
theorem dX11_markNew_80 : decode cX11_markNew 80 = .ok (.istore 5, 2) := by decide +kernel
theorem dX11_markNew_82 : decode cX11_markNew 82 = .ok (.aload_n 0, 1) := by decide +kernel
theorem dX11_markNew_83 : decode cX11_markNew 83 = .ok (.getfield 22, 3) := by decide +kernel
theorem dX11_markNew_86 : decode cX11_markNew 86 = .ok (.iload 6, 2) := by decide +kernel
theorem dX11_markNew_88 : decode cX11_markNew 88 = .ok (.iaload, 1) := by decide +kernel
theorem dX11_markNew_89 : decode cX11_markNew 89 = .ok (.istore 6, 2) := by decide +kernel
theorem dX11_markNew_91 : decode cX11_markNew 91 = .ok (.goto (-47), 3) := by decide +kernel
theorem dX11_markNew_94 : decode cX11_markNew 94 = .ok (.aload_n 0, 1) := by decide +kernel
theorem dX11_markNew_95 : decode cX11_markNew 95 = .ok (.getfield 65, 3) := by decide +kernel
theorem dX11_markNew_98 : decode cX11_markNew 98 = .ok (.iload 4, 2) := by decide +kernel
theorem dX11_markNew_100 : decode cX11_markNew 100 = .ok (.iload 5, 2) := by decide +kernel
theorem dX11_markNew_102 : decode cX11_markNew 102 = .ok (.bastore, 1) := by decide +kernel
theorem dX11_markNew_103 : decode cX11_markNew 103 = .ok (.iinc 4 1, 3) := by decide +kernel
theorem dX11_markNew_106 : decode cX11_markNew 106 = .ok (.goto (-103), 3) := by decide +kernel
theorem dX11_markNew_109 : decode cX11_markNew 109 = .ok (.return_, 1) := by decide +kernel
abbrev cX11_numberRow : ByteArray := prog_13_method_43_code
def yX11_numberRow : MethodName := ⟨RX11, "numberRow", "(I)I"⟩
theorem dX11_numberRow_0 : decode cX11_numberRow 0 = .ok (.iconst 0, 1) := by decide +kernel
theorem dX11_numberRow_1 : decode cX11_numberRow 1 = .ok (.istore_n 2, 1) := by decide +kernel
theorem dX11_numberRow_2 : decode cX11_numberRow 2 = .ok (.iconst 0, 1) := by decide +kernel
theorem dX11_numberRow_3 : decode cX11_numberRow 3 = .ok (.istore_n 3, 1) := by decide +kernel
theorem dX11_numberRow_4 : decode cX11_numberRow 4 = .ok (.iload_n 3, 1) := by decide +kernel
theorem dX11_numberRow_5 : decode cX11_numberRow 5 = .ok (.iload_n 1, 1) := by decide +kernel
theorem dX11_numberRow_6 : decode cX11_numberRow 6 = .ok (.if_icmp .ge 40, 3) := by decide +kernel
theorem dX11_numberRow_9 : decode cX11_numberRow 9 = .ok (.aload_n 0, 1) := by decide +kernel
theorem dX11_numberRow_10 : decode cX11_numberRow 10 = .ok (.getfield 7, 3) := by decide +kernel
theorem dX11_numberRow_13 : decode cX11_numberRow 13 = .ok (.aload_n 0, 1) := by decide +kernel
theorem dX11_numberRow_14 : decode cX11_numberRow 14 = .ok (.getfield 35, 3) := by decide +kernel
theorem dX11_numberRow_17 : decode cX11_numberRow 17 = .ok (.iload_n 3, 1) := by decide +kernel
theorem dX11_numberRow_18 : decode cX11_numberRow 18 = .ok (.iaload, 1) := by decide +kernel
theorem dX11_numberRow_19 : decode cX11_numberRow 19 = .ok (.iaload, 1) := by decide +kernel
theorem dX11_numberRow_20 : decode cX11_numberRow 20 = .ok (.iconst 2, 1) := by decide +kernel
theorem dX11_numberRow_21 : decode cX11_numberRow 21 = .ok (.if_icmp .eq 17, 3) := by decide +kernel
theorem dX11_numberRow_24 : decode cX11_numberRow 24 = .ok (.aload_n 0, 1) := by decide +kernel
theorem dX11_numberRow_25 : decode cX11_numberRow 25 = .ok (.getfield 28, 3) := by decide +kernel
theorem dX11_numberRow_28 : decode cX11_numberRow 28 = .ok (.aload_n 0, 1) := by decide +kernel
theorem dX11_numberRow_29 : decode cX11_numberRow 29 = .ok (.getfield 35, 3) := by decide +kernel
theorem dX11_numberRow_32 : decode cX11_numberRow 32 = .ok (.iload_n 3, 1) := by decide +kernel
theorem dX11_numberRow_33 : decode cX11_numberRow 33 = .ok (.iaload, 1) := by decide +kernel
theorem dX11_numberRow_34 : decode cX11_numberRow 34 = .ok (.iaload, 1) := by decide +kernel
theorem dX11_numberRow_35 : decode cX11_numberRow 35 = .ok (.goto 4, 3) := by decide +kernel
theorem dX11_numberRow_38 : decode cX11_numberRow 38 = .ok (.iload_n 2, 1) := by decide +kernel
theorem dX11_numberRow_39 : decode cX11_numberRow 39 = .ok (.istore_n 2, 1) := by decide +kernel
theorem dX11_numberRow_40 : decode cX11_numberRow 40 = .ok (.iinc 3 1, 3) := by decide +kernel
theorem dX11_numberRow_43 : decode cX11_numberRow 43 = .ok (.goto (-39), 3) := by decide +kernel
theorem dX11_numberRow_46 : decode cX11_numberRow 46 = .ok (.iconst 0, 1) := by decide +kernel
theorem dX11_numberRow_47 : decode cX11_numberRow 47 = .ok (.istore_n 3, 1) := by decide +kernel
theorem dX11_numberRow_48 : decode cX11_numberRow 48 = .ok (.iload_n 1, 1) := by decide +kernel
theorem dX11_numberRow_49 : decode cX11_numberRow 49 = .ok (.istore 4, 2) := by decide +kernel
theorem dX11_numberRow_51 : decode cX11_numberRow 51 = .ok (.iload 4, 2) := by decide +kernel
theorem dX11_numberRow_53 : decode cX11_numberRow 53 = .ok (.aload_n 0, 1) := by decide +kernel
theorem dX11_numberRow_54 : decode cX11_numberRow 54 = .ok (.getfield 173, 3) := by decide +kernel
theorem dX11_numberRow_57 : decode cX11_numberRow 57 = .ok (.if_icmp .ge 64, 3) := by decide +kernel
theorem dX11_numberRow_60 : decode cX11_numberRow 60 = .ok (.aload_n 0, 1) := by decide +kernel
theorem dX11_numberRow_61 : decode cX11_numberRow 61 = .ok (.getfield 7, 3) := by decide +kernel
theorem dX11_numberRow_64 : decode cX11_numberRow 64 = .ok (.aload_n 0, 1) := by decide +kernel
theorem dX11_numberRow_65 : decode cX11_numberRow 65 = .ok (.getfield 35, 3) := by decide +kernel
theorem dX11_numberRow_68 : decode cX11_numberRow 68 = .ok (.iload 4, 2) := by decide +kernel
theorem dX11_numberRow_70 : decode cX11_numberRow 70 = .ok (.iaload, 1) := by decide +kernel
theorem dX11_numberRow_71 : decode cX11_numberRow 71 = .ok (.iaload, 1) := by decide +kernel
theorem dX11_numberRow_72 : decode cX11_numberRow 72 = .ok (.iconst 2, 1) := by decide +kernel
theorem dX11_numberRow_73 : decode cX11_numberRow 73 = .ok (.if_icmp .eq 18, 3) := by decide +kernel
theorem dX11_numberRow_76 : decode cX11_numberRow 76 = .ok (.aload_n 0, 1) := by decide +kernel
theorem dX11_numberRow_77 : decode cX11_numberRow 77 = .ok (.getfield 65, 3) := by decide +kernel
theorem dX11_numberRow_80 : decode cX11_numberRow 80 = .ok (.aload_n 0, 1) := by decide +kernel
theorem dX11_numberRow_81 : decode cX11_numberRow 81 = .ok (.getfield 35, 3) := by decide +kernel
theorem dX11_numberRow_84 : decode cX11_numberRow 84 = .ok (.iload 4, 2) := by decide +kernel
theorem dX11_numberRow_86 : decode cX11_numberRow 86 = .ok (.iaload, 1) := by decide +kernel
theorem dX11_numberRow_87 : decode cX11_numberRow 87 = .ok (.baload, 1) := by decide +kernel
theorem dX11_numberRow_88 : decode cX11_numberRow 88 = .ok (.ifCond .eq 33, 3) := by decide +kernel
theorem dX11_numberRow_91 : decode cX11_numberRow 91 = .ok (.iload_n 3, 1) := by decide +kernel
theorem dX11_numberRow_92 : decode cX11_numberRow 92 = .ok (.aload_n 0, 1) := by decide +kernel
theorem dX11_numberRow_93 : decode cX11_numberRow 93 = .ok (.getfield 7, 3) := by decide +kernel
theorem dX11_numberRow_96 : decode cX11_numberRow 96 = .ok (.aload_n 0, 1) := by decide +kernel
theorem dX11_numberRow_97 : decode cX11_numberRow 97 = .ok (.getfield 35, 3) := by decide +kernel
theorem dX11_numberRow_100 : decode cX11_numberRow 100 = .ok (.iload 4, 2) := by decide +kernel
theorem dX11_numberRow_102 : decode cX11_numberRow 102 = .ok (.iaload, 1) := by decide +kernel
theorem dX11_numberRow_103 : decode cX11_numberRow 103 = .ok (.iaload, 1) := by decide +kernel
theorem dX11_numberRow_104 : decode cX11_numberRow 104 = .ok (.iconst 2, 1) := by decide +kernel
theorem dX11_numberRow_105 : decode cX11_numberRow 105 = .ok (.if_icmp .eq 7, 3) := by decide +kernel
theorem dX11_numberRow_108 : decode cX11_numberRow 108 = .ok (.iconst 1, 1) := by decide +kernel
theorem dX11_numberRow_109 : decode cX11_numberRow 109 = .ok (.goto 4, 3) := by decide +kernel
theorem dX11_numberRow_112 : decode cX11_numberRow 112 = .ok (.iconst 0, 1) := by decide +kernel
theorem dX11_numberRow_113 : decode cX11_numberRow 113 = .ok (.iadd, 1) := by decide +kernel
theorem dX11_numberRow_114 : decode cX11_numberRow 114 = .ok (.istore_n 3, 1) := by decide +kernel
theorem dX11_numberRow_115 : decode cX11_numberRow 115 = .ok (.iinc 4 1, 3) := by decide +kernel
theorem dX11_numberRow_118 : decode cX11_numberRow 118 = .ok (.goto (-67), 3) := by decide +kernel
theorem dX11_numberRow_121 : decode cX11_numberRow 121 = .ok (.iload 4, 2) := by decide +kernel
theorem dX11_numberRow_123 : decode cX11_numberRow 123 = .ok (.aload_n 0, 1) := by decide +kernel
theorem dX11_numberRow_124 : decode cX11_numberRow 124 = .ok (.getfield 173, 3) := by decide +kernel
theorem dX11_numberRow_127 : decode cX11_numberRow 127 = .ok (.if_icmp .ge 20, 3) := by decide +kernel
theorem dX11_numberRow_130 : decode cX11_numberRow 130 = .ok (.aload_n 0, 1) := by decide +kernel
theorem dX11_numberRow_131 : decode cX11_numberRow 131 = .ok (.getfield 28, 3) := by decide +kernel
theorem dX11_numberRow_134 : decode cX11_numberRow 134 = .ok (.aload_n 0, 1) := by decide +kernel
theorem dX11_numberRow_135 : decode cX11_numberRow 135 = .ok (.getfield 35, 3) := by decide +kernel
theorem dX11_numberRow_138 : decode cX11_numberRow 138 = .ok (.iload 4, 2) := by decide +kernel
theorem dX11_numberRow_140 : decode cX11_numberRow 140 = .ok (.iaload, 1) := by decide +kernel
theorem dX11_numberRow_141 : decode cX11_numberRow 141 = .ok (.iaload, 1) := by decide +kernel
theorem dX11_numberRow_142 : decode cX11_numberRow 142 = .ok (.iload_n 2, 1) := by decide +kernel
theorem dX11_numberRow_143 : decode cX11_numberRow 143 = .ok (.isub, 1) := by decide +kernel
theorem dX11_numberRow_144 : decode cX11_numberRow 144 = .ok (.goto 4, 3) := by decide +kernel
theorem dX11_numberRow_147 : decode cX11_numberRow 147 = .ok (.iconst 0, 1) := by decide +kernel
theorem dX11_numberRow_148 : decode cX11_numberRow 148 = .ok (.istore 5, 2) := by decide +kernel
theorem dX11_numberRow_150 : decode cX11_numberRow 150 = .ok (.iconst 0, 1) := by decide +kernel
theorem dX11_numberRow_151 : decode cX11_numberRow 151 = .ok (.istore 6, 2) := by decide +kernel
theorem dX11_numberRow_153 : decode cX11_numberRow 153 = .ok (.iload_n 1, 1) := by decide +kernel
theorem dX11_numberRow_154 : decode cX11_numberRow 154 = .ok (.istore 7, 2) := by decide +kernel
theorem dX11_numberRow_156 : decode cX11_numberRow 156 = .ok (.iload 7, 2) := by decide +kernel
theorem dX11_numberRow_158 : decode cX11_numberRow 158 = .ok (.iload 4, 2) := by decide +kernel
theorem dX11_numberRow_160 : decode cX11_numberRow 160 = .ok (.if_icmp .ge 70, 3) := by decide +kernel
theorem dX11_numberRow_163 : decode cX11_numberRow 163 = .ok (.aload_n 0, 1) := by decide +kernel
theorem dX11_numberRow_164 : decode cX11_numberRow 164 = .ok (.getfield 7, 3) := by decide +kernel
theorem dX11_numberRow_167 : decode cX11_numberRow 167 = .ok (.aload_n 0, 1) := by decide +kernel
theorem dX11_numberRow_168 : decode cX11_numberRow 168 = .ok (.getfield 35, 3) := by decide +kernel
theorem dX11_numberRow_171 : decode cX11_numberRow 171 = .ok (.iload 7, 2) := by decide +kernel
theorem dX11_numberRow_173 : decode cX11_numberRow 173 = .ok (.iaload, 1) := by decide +kernel
theorem dX11_numberRow_174 : decode cX11_numberRow 174 = .ok (.iaload, 1) := by decide +kernel
theorem dX11_numberRow_175 : decode cX11_numberRow 175 = .ok (.iconst 2, 1) := by decide +kernel
theorem dX11_numberRow_176 : decode cX11_numberRow 176 = .ok (.if_icmp .eq 48, 3) := by decide +kernel
theorem dX11_numberRow_179 : decode cX11_numberRow 179 = .ok (.iinc 6 1, 3) := by decide +kernel
theorem dX11_numberRow_182 : decode cX11_numberRow 182 = .ok (.aload_n 0, 1) := by decide +kernel
theorem dX11_numberRow_183 : decode cX11_numberRow 183 = .ok (.getfield 28, 3) := by decide +kernel
theorem dX11_numberRow_186 : decode cX11_numberRow 186 = .ok (.aload_n 0, 1) := by decide +kernel
theorem dX11_numberRow_187 : decode cX11_numberRow 187 = .ok (.getfield 35, 3) := by decide +kernel
theorem dX11_numberRow_190 : decode cX11_numberRow 190 = .ok (.iload 7, 2) := by decide +kernel
theorem dX11_numberRow_192 : decode cX11_numberRow 192 = .ok (.iaload, 1) := by decide +kernel
theorem dX11_numberRow_193 : decode cX11_numberRow 193 = .ok (.iload 4, 2) := by decide +kernel
theorem dX11_numberRow_195 : decode cX11_numberRow 195 = .ok (.aload_n 0, 1) := by decide +kernel
theorem dX11_numberRow_196 : decode cX11_numberRow 196 = .ok (.getfield 173, 3) := by decide +kernel
theorem dX11_numberRow_199 : decode cX11_numberRow 199 = .ok (.if_icmp .ge 17, 3) := by decide +kernel
theorem dX11_numberRow_202 : decode cX11_numberRow 202 = .ok (.iload_n 2, 1) := by decide +kernel
theorem dX11_numberRow_203 : decode cX11_numberRow 203 = .ok (.iload 6, 2) := by decide +kernel
theorem dX11_numberRow_205 : decode cX11_numberRow 205 = .ok (.iload 5, 2) := by decide +kernel
theorem dX11_numberRow_207 : decode cX11_numberRow 207 = .ok (.imul, 1) := by decide +kernel
theorem dX11_numberRow_208 : decode cX11_numberRow 208 = .ok (.iload_n 3, 1) := by decide +kernel
theorem dX11_numberRow_209 : decode cX11_numberRow 209 = .ok (.iconst 1, 1) := by decide +kernel
theorem dX11_numberRow_210 : decode cX11_numberRow 210 = .ok (.iadd, 1) := by decide +kernel
theorem dX11_numberRow_211 : decode cX11_numberRow 211 = .ok (.idiv, 1) := by decide +kernel
theorem dX11_numberRow_212 : decode cX11_numberRow 212 = .ok (.iadd, 1) := by decide +kernel
theorem dX11_numberRow_213 : decode cX11_numberRow 213 = .ok (.goto 10, 3) := by decide +kernel
theorem dX11_numberRow_216 : decode cX11_numberRow 216 = .ok (.iload_n 2, 1) := by decide +kernel
theorem dX11_numberRow_217 : decode cX11_numberRow 217 = .ok (.bipush 16, 2) := by decide +kernel
theorem dX11_numberRow_219 : decode cX11_numberRow 219 = .ok (.iload 6, 2) := by decide +kernel
theorem dX11_numberRow_221 : decode cX11_numberRow 221 = .ok (.imul, 1) := by decide +kernel
theorem dX11_numberRow_222 : decode cX11_numberRow 222 = .ok (.iadd, 1) := by decide +kernel
theorem dX11_numberRow_223 : decode cX11_numberRow 223 = .ok (.iastore, 1) := by decide +kernel
theorem dX11_numberRow_224 : decode cX11_numberRow 224 = .ok (.iinc 7 1, 3) := by decide +kernel
theorem dX11_numberRow_227 : decode cX11_numberRow 227 = .ok (.goto (-71), 3) := by decide +kernel
theorem dX11_numberRow_230 : decode cX11_numberRow 230 = .ok (.iload 4, 2) := by decide +kernel
theorem dX11_numberRow_232 : decode cX11_numberRow 232 = .ok (.aload_n 0, 1) := by decide +kernel
theorem dX11_numberRow_233 : decode cX11_numberRow 233 = .ok (.getfield 173, 3) := by decide +kernel
theorem dX11_numberRow_236 : decode cX11_numberRow 236 = .ok (.if_icmp .ge 15, 3) := by decide +kernel
theorem dX11_numberRow_239 : decode cX11_numberRow 239 = .ok (.iload 5, 2) := by decide +kernel
theorem dX11_numberRow_241 : decode cX11_numberRow 241 = .ok (.iload_n 3, 1) := by decide +kernel
theorem dX11_numberRow_242 : decode cX11_numberRow 242 = .ok (.if_icmp .gt 9, 3) := by decide +kernel
theorem dX11_numberRow_245 : decode cX11_numberRow 245 = .ok (.iload 4, 2) := by decide +kernel
theorem dX11_numberRow_247 : decode cX11_numberRow 247 = .ok (.ineg, 1) := by decide +kernel
theorem dX11_numberRow_248 : decode cX11_numberRow 248 = .ok (.goto 5, 3) := by decide +kernel
theorem dX11_numberRow_251 : decode cX11_numberRow 251 = .ok (.iload 4, 2) := by decide +kernel
theorem dX11_numberRow_253 : decode cX11_numberRow 253 = .ok (.ireturn, 1) := by decide +kernel
abbrev cX11_numberAll : ByteArray := prog_13_method_42_code
def yX11_numberAll : MethodName := ⟨RX11, "numberAll", "()V"⟩
theorem dX11_numberAll_0 : decode cX11_numberAll 0 = .ok (.iconst 0, 1) := by decide +kernel
theorem dX11_numberAll_1 : decode cX11_numberAll 1 = .ok (.istore_n 1, 1) := by decide +kernel
theorem dX11_numberAll_2 : decode cX11_numberAll 2 = .ok (.iconst 0, 1) := by decide +kernel
theorem dX11_numberAll_3 : decode cX11_numberAll 3 = .ok (.istore_n 2, 1) := by decide +kernel
theorem dX11_numberAll_4 : decode cX11_numberAll 4 = .ok (.iload_n 2, 1) := by decide +kernel
theorem dX11_numberAll_5 : decode cX11_numberAll 5 = .ok (.aload_n 0, 1) := by decide +kernel
theorem dX11_numberAll_6 : decode cX11_numberAll 6 = .ok (.getfield 173, 3) := by decide +kernel
theorem dX11_numberAll_9 : decode cX11_numberAll 9 = .ok (.if_icmp .ge 39, 3) := by decide +kernel
theorem dX11_numberAll_12 : decode cX11_numberAll 12 = .ok (.aload_n 0, 1) := by decide +kernel
theorem dX11_numberAll_13 : decode cX11_numberAll 13 = .ok (.getfield 7, 3) := by decide +kernel
theorem dX11_numberAll_16 : decode cX11_numberAll 16 = .ok (.aload_n 0, 1) := by decide +kernel
theorem dX11_numberAll_17 : decode cX11_numberAll 17 = .ok (.getfield 35, 3) := by decide +kernel
theorem dX11_numberAll_20 : decode cX11_numberAll 20 = .ok (.iload_n 2, 1) := by decide +kernel
theorem dX11_numberAll_21 : decode cX11_numberAll 21 = .ok (.iaload, 1) := by decide +kernel
theorem dX11_numberAll_22 : decode cX11_numberAll 22 = .ok (.iaload, 1) := by decide +kernel
theorem dX11_numberAll_23 : decode cX11_numberAll 23 = .ok (.iconst 2, 1) := by decide +kernel
theorem dX11_numberAll_24 : decode cX11_numberAll 24 = .ok (.if_icmp .eq 18, 3) := by decide +kernel
theorem dX11_numberAll_27 : decode cX11_numberAll 27 = .ok (.iinc 1 16, 3) := by decide +kernel
theorem dX11_numberAll_30 : decode cX11_numberAll 30 = .ok (.aload_n 0, 1) := by decide +kernel
theorem dX11_numberAll_31 : decode cX11_numberAll 31 = .ok (.getfield 28, 3) := by decide +kernel
theorem dX11_numberAll_34 : decode cX11_numberAll 34 = .ok (.aload_n 0, 1) := by decide +kernel
theorem dX11_numberAll_35 : decode cX11_numberAll 35 = .ok (.getfield 35, 3) := by decide +kernel
theorem dX11_numberAll_38 : decode cX11_numberAll 38 = .ok (.iload_n 2, 1) := by decide +kernel
theorem dX11_numberAll_39 : decode cX11_numberAll 39 = .ok (.iaload, 1) := by decide +kernel
theorem dX11_numberAll_40 : decode cX11_numberAll 40 = .ok (.iload_n 1, 1) := by decide +kernel
theorem dX11_numberAll_41 : decode cX11_numberAll 41 = .ok (.iastore, 1) := by decide +kernel
theorem dX11_numberAll_42 : decode cX11_numberAll 42 = .ok (.iinc 2 1, 3) := by decide +kernel
theorem dX11_numberAll_45 : decode cX11_numberAll 45 = .ok (.goto (-41), 3) := by decide +kernel
theorem dX11_numberAll_48 : decode cX11_numberAll 48 = .ok (.return_, 1) := by decide +kernel
abbrev cX11_number : ByteArray := prog_13_method_41_code
def yX11_number : MethodName := ⟨RX11, "number", "()V"⟩
theorem dX11_number_0 : decode cX11_number 0 = .ok (.iconst 0, 1) := by decide +kernel
theorem dX11_number_1 : decode cX11_number 1 = .ok (.istore_n 1, 1) := by decide +kernel
theorem dX11_number_2 : decode cX11_number 2 = .ok (.iconst 0, 1) := by decide +kernel
theorem dX11_number_3 : decode cX11_number 3 = .ok (.istore_n 2, 1) := by decide +kernel
theorem dX11_number_4 : decode cX11_number 4 = .ok (.iload_n 2, 1) := by decide +kernel
theorem dX11_number_5 : decode cX11_number 5 = .ok (.aload_n 0, 1) := by decide +kernel
theorem dX11_number_6 : decode cX11_number 6 = .ok (.getfield 173, 3) := by decide +kernel
theorem dX11_number_9 : decode cX11_number 9 = .ok (.if_icmp .ge 72, 3) := by decide +kernel
theorem dX11_number_12 : decode cX11_number 12 = .ok (.aload_n 0, 1) := by decide +kernel
theorem dX11_number_13 : decode cX11_number 13 = .ok (.getfield 7, 3) := by decide +kernel
theorem dX11_number_16 : decode cX11_number 16 = .ok (.aload_n 0, 1) := by decide +kernel
theorem dX11_number_17 : decode cX11_number 17 = .ok (.getfield 35, 3) := by decide +kernel
theorem dX11_number_20 : decode cX11_number 20 = .ok (.iload_n 2, 1) := by decide +kernel
theorem dX11_number_21 : decode cX11_number 21 = .ok (.iaload, 1) := by decide +kernel
theorem dX11_number_22 : decode cX11_number 22 = .ok (.iaload, 1) := by decide +kernel
theorem dX11_number_23 : decode cX11_number 23 = .ok (.iconst 2, 1) := by decide +kernel
theorem dX11_number_24 : decode cX11_number 24 = .ok (.if_icmp .eq 51, 3) := by decide +kernel
theorem dX11_number_27 : decode cX11_number 27 = .ok (.aload_n 0, 1) := by decide +kernel
theorem dX11_number_28 : decode cX11_number 28 = .ok (.getfield 65, 3) := by decide +kernel
theorem dX11_number_31 : decode cX11_number 31 = .ok (.aload_n 0, 1) := by decide +kernel
theorem dX11_number_32 : decode cX11_number 32 = .ok (.getfield 35, 3) := by decide +kernel
theorem dX11_number_35 : decode cX11_number 35 = .ok (.iload_n 2, 1) := by decide +kernel
theorem dX11_number_36 : decode cX11_number 36 = .ok (.iaload, 1) := by decide +kernel
theorem dX11_number_37 : decode cX11_number 37 = .ok (.baload, 1) := by decide +kernel
theorem dX11_number_38 : decode cX11_number 38 = .ok (.ifCond .eq 37, 3) := by decide +kernel
theorem dX11_number_41 : decode cX11_number 41 = .ok (.aload_n 0, 1) := by decide +kernel
theorem dX11_number_42 : decode cX11_number 42 = .ok (.iload_n 2, 1) := by decide +kernel
theorem dX11_number_43 : decode cX11_number 43 = .ok (.invokevirtual 274, 3) := by decide +kernel
theorem dX11_number_46 : decode cX11_number 46 = .ok (.istore_n 2, 1) := by decide +kernel
theorem dX11_number_47 : decode cX11_number 47 = .ok (.iload_n 1, 1) := by decide +kernel
theorem dX11_number_48 : decode cX11_number 48 = .ok (.ifCond .ne 7, 3) := by decide +kernel
theorem dX11_number_51 : decode cX11_number 51 = .ok (.iload_n 2, 1) := by decide +kernel
theorem dX11_number_52 : decode cX11_number 52 = .ok (.ifCond .ge 7, 3) := by decide +kernel
theorem dX11_number_55 : decode cX11_number 55 = .ok (.iconst 1, 1) := by decide +kernel
theorem dX11_number_56 : decode cX11_number 56 = .ok (.goto 4, 3) := by decide +kernel
theorem dX11_number_59 : decode cX11_number 59 = .ok (.iconst 0, 1) := by decide +kernel
theorem dX11_number_60 : decode cX11_number 60 = .ok (.istore_n 1, 1) := by decide +kernel
theorem dX11_number_61 : decode cX11_number 61 = .ok (.iload_n 2, 1) := by decide +kernel
theorem dX11_number_62 : decode cX11_number 62 = .ok (.ifCond .ge 8, 3) := by decide +kernel
theorem dX11_number_65 : decode cX11_number 65 = .ok (.iload_n 2, 1) := by decide +kernel
theorem dX11_number_66 : decode cX11_number 66 = .ok (.ineg, 1) := by decide +kernel
theorem dX11_number_67 : decode cX11_number 67 = .ok (.goto 4, 3) := by decide +kernel
theorem dX11_number_70 : decode cX11_number 70 = .ok (.iload_n 2, 1) := by decide +kernel
theorem dX11_number_71 : decode cX11_number 71 = .ok (.istore_n 2, 1) := by decide +kernel
theorem dX11_number_72 : decode cX11_number 72 = .ok (.goto (-68), 3) := by decide +kernel
theorem dX11_number_75 : decode cX11_number 75 = .ok (.iinc 2 1, 3) := by decide +kernel
theorem dX11_number_78 : decode cX11_number 78 = .ok (.goto (-74), 3) := by decide +kernel
theorem dX11_number_81 : decode cX11_number 81 = .ok (.iload_n 1, 1) := by decide +kernel
theorem dX11_number_82 : decode cX11_number 82 = .ok (.ifCond .eq 17, 3) := by decide +kernel
theorem dX11_number_85 : decode cX11_number 85 = .ok (.aload_n 0, 1) := by decide +kernel
theorem dX11_number_86 : decode cX11_number 86 = .ok (.invokevirtual 277, 3) := by decide +kernel
theorem dX11_number_89 : decode cX11_number 89 = .ok (.aload_n 0, 1) := by decide +kernel
theorem dX11_number_90 : decode cX11_number 90 = .ok (.dup, 1) := by decide +kernel
theorem dX11_number_91 : decode cX11_number 91 = .ok (.getfield 280, 3) := by decide +kernel
theorem dX11_number_94 : decode cX11_number 94 = .ok (.iconst 1, 1) := by decide +kernel
theorem dX11_number_95 : decode cX11_number 95 = .ok (.iadd, 1) := by decide +kernel
theorem dX11_number_96 : decode cX11_number 96 = .ok (.putfield 280, 3) := by decide +kernel
theorem dX11_number_99 : decode cX11_number 99 = .ok (.return_, 1) := by decide +kernel
theorem tk_RX11_159 : Cond.fieldLink RX11 159 RX11 (TX11 1).2.1 (TX11 1).2.2.1 ∈ tq_G := tq_g (i := 1788) (by decide +kernel) rfl
theorem tk_RX11_31 : Cond.fieldLink RX11 31 RX11 (TX11 9).2.1 (TX11 9).2.2.1 ∈ tq_G := tq_g (i := 1796) (by decide +kernel) rfl
theorem tk_RX11_22 : Cond.fieldLink RX11 22 RX11 (TX11 6).2.1 (TX11 6).2.2.1 ∈ tq_G := tq_g (i := 1793) (by decide +kernel) rfl
theorem tk_RX11_7 : Cond.fieldLink RX11 7 RX11 (TX11 2).2.1 (TX11 2).2.2.1 ∈ tq_G := tq_g (i := 1789) (by decide +kernel) rfl
theorem tk_RX11_13 : Cond.fieldLink RX11 13 RX11 (TX11 3).2.1 (TX11 3).2.2.1 ∈ tq_G := tq_g (i := 1790) (by decide +kernel) rfl
theorem tk_RX11_25 : Cond.fieldLink RX11 25 RX11 (TX11 7).2.1 (TX11 7).2.2.1 ∈ tq_G := tq_g (i := 1794) (by decide +kernel) rfl
theorem tk_RX11_173 : Cond.fieldLink RX11 173 RX11 (TX11 11).2.1 (TX11 11).2.2.1 ∈ tq_G := tq_g (i := 1798) (by decide +kernel) rfl
theorem tk_RX11_41 : Cond.fieldLink RX11 41 RX11 (TX11 14).2.1 (TX11 14).2.2.1 ∈ tq_G := tq_g (i := 1801) (by decide +kernel) rfl
theorem tk_RX11_38 : Cond.fieldLink RX11 38 RX11 (TX11 13).2.1 (TX11 13).2.2.1 ∈ tq_G := tq_g (i := 1800) (by decide +kernel) rfl
theorem tk_RX11_35 : Cond.fieldLink RX11 35 RX11 (TX11 12).2.1 (TX11 12).2.2.1 ∈ tq_G := tq_g (i := 1799) (by decide +kernel) rfl
theorem tk_RX11_176 : Cond.methodLink RX11 176 yX11_attributeOf ∈ tq_G := tq_g (i := 1775) (by decide +kernel) rfl
theorem tk_y_X11_attributeOf : tq_yok yX11_attributeOf cX11_attributeOf 5 (some .int) 2 := ⟨tq_g (i := 1778) (by decide +kernel) rfl, tq_g (i := 133) (by decide +kernel) rfl, ⟨by decide +kernel, by decide +kernel⟩, by decide +kernel, by decide⟩
theorem tk_v_X11_attributeOf : tq_vok yX11_attributeOf := ⟨tq_g (i := 1777) (by decide +kernel) rfl, tq_g (i := 53) (by decide +kernel) rfl⟩
theorem tk_RX11_180 : Cond.methodLink RX11 180 yX11_childCount ∈ tq_G := tq_g (i := 1779) (by decide +kernel) rfl
theorem tk_RX11_184 : Cond.methodLink RX11 184 yX11_childAt ∈ tq_G := tq_g (i := 1783) (by decide +kernel) rfl
theorem tk_y_X11_childAt : tq_yok yX11_childAt cX11_childAt 5 (some .int) 2 := ⟨tq_g (i := 1786) (by decide +kernel) rfl, tq_g (i := 133) (by decide +kernel) rfl, ⟨by decide +kernel, by decide +kernel⟩, by decide +kernel, by decide⟩
theorem tk_v_X11_childAt : tq_vok yX11_childAt := ⟨tq_g (i := 1785) (by decide +kernel) rfl, tq_g (i := 55) (by decide +kernel) rfl⟩
theorem tk_y_X11_childCount : tq_yok yX11_childCount cX11_childCount 4 (some .int) 1 := ⟨tq_g (i := 1782) (by decide +kernel) rfl, tq_g (i := 133) (by decide +kernel) rfl, ⟨by decide +kernel, by decide +kernel⟩, by decide +kernel, by decide⟩
theorem tk_v_X11_childCount : tq_vok yX11_childCount := ⟨tq_g (i := 1781) (by decide +kernel) rfl, tq_g (i := 54) (by decide +kernel) rfl⟩
theorem tk_RX11_1 : Cond.methodLink RX11 1 Lib.objectInit ∈ tq_G := tq_g (i := 1770) (by decide +kernel) rfl
theorem tk_RX11_16 : Cond.fieldLink RX11 16 RX11 (TX11 4).2.1 (TX11 4).2.2.1 ∈ tq_G := tq_g (i := 1791) (by decide +kernel) rfl
theorem tk_RX11_19 : Cond.fieldLink RX11 19 RX11 (TX11 5).2.1 (TX11 5).2.2.1 ∈ tq_G := tq_g (i := 1792) (by decide +kernel) rfl
theorem tk_RX11_28 : Cond.fieldLink RX11 28 RX11 (TX11 8).2.1 (TX11 8).2.2.1 ∈ tq_G := tq_g (i := 1795) (by decide +kernel) rfl
theorem tk_ac_boolean : Cond.arrayClass .boolean ∈ tq_G := tq_g (i := 1971) (by decide +kernel) rfl
theorem tk_ks_140 : (Int16.ofInt (140)).toInt32 = (140 : Int32) := by decide +kernel
theorem tk_RX11_44 : Cond.fieldLink RX11 44 RX11 (TX11 16).2.1 (TX11 16).2.2.1 ∈ tq_G := tq_g (i := 1803) (by decide +kernel) rfl
theorem tk_RX11_47 : Cond.fieldLink RX11 47 RX11 (TX11 17).2.1 (TX11 17).2.2.1 ∈ tq_G := tq_g (i := 1804) (by decide +kernel) rfl
theorem tk_RX11_50 : Cond.fieldLink RX11 50 RX11 (TX11 18).2.1 (TX11 18).2.2.1 ∈ tq_G := tq_g (i := 1805) (by decide +kernel) rfl
theorem tk_RX11_53 : Cond.fieldLink RX11 53 RX11 (TX11 19).2.1 (TX11 19).2.2.1 ∈ tq_G := tq_g (i := 1806) (by decide +kernel) rfl
theorem tk_RX11_56 : Cond.fieldLink RX11 56 RX11 (TX11 20).2.1 (TX11 20).2.2.1 ∈ tq_G := tq_g (i := 1807) (by decide +kernel) rfl
theorem tk_RX11_59 : Cond.fieldLink RX11 59 RX11 (TX11 21).2.1 (TX11 21).2.2.1 ∈ tq_G := tq_g (i := 1808) (by decide +kernel) rfl
theorem tk_RX11_62 : Cond.fieldLink RX11 62 RX11 (TX11 22).2.1 (TX11 22).2.2.1 ∈ tq_G := tq_g (i := 1809) (by decide +kernel) rfl
theorem tk_RX11_65 : Cond.fieldLink RX11 65 RX11 (TX11 23).2.1 (TX11 23).2.2.1 ∈ tq_G := tq_g (i := 1810) (by decide +kernel) rfl
theorem tk_RX11_68 : Cond.fieldLink RX11 68 RX11 (TX11 25).2.1 (TX11 25).2.2.1 ∈ tq_G := tq_g (i := 1812) (by decide +kernel) rfl
theorem tk_ks_300 : (Int16.ofInt (300)).toInt32 = (300 : Int32) := by decide +kernel
theorem tk_RX11_71 : Cond.fieldLink RX11 71 RX11 (TX11 26).2.1 (TX11 26).2.2.1 ∈ tq_G := tq_g (i := 1813) (by decide +kernel) rfl
theorem tk_RX11_74 : Cond.fieldLink RX11 74 RX11 (TX11 27).2.1 (TX11 27).2.2.1 ∈ tq_G := tq_g (i := 1814) (by decide +kernel) rfl
theorem tk_ks_800 : (Int16.ofInt (800)).toInt32 = (800 : Int32) := by decide +kernel
theorem tk_RX11_77 : Cond.fieldLink RX11 77 RX11 (TX11 28).2.1 (TX11 28).2.2.1 ∈ tq_G := tq_g (i := 1815) (by decide +kernel) rfl
theorem tk_RX11_80 : Cond.fieldLink RX11 80 RX11 (TX11 29).2.1 (TX11 29).2.2.1 ∈ tq_G := tq_g (i := 1816) (by decide +kernel) rfl
theorem tk_RX11_84 : Cond.fieldLink RX11 84 RX11 (TX11 30).2.1 (TX11 30).2.2.1 ∈ tq_G := tq_g (i := 1817) (by decide +kernel) rfl
theorem tk_RX11_87 : Cond.fieldLink RX11 87 RX11 (TX11 34).2.1 (TX11 34).2.2.1 ∈ tq_G := tq_g (i := 1821) (by decide +kernel) rfl
theorem tk_RX11_90 : Cond.fieldLink RX11 90 RX11 (TX11 35).2.1 (TX11 35).2.2.1 ∈ tq_G := tq_g (i := 1822) (by decide +kernel) rfl
theorem tk_RX11_93 : Cond.fieldLink RX11 93 RX11 (TX11 36).2.1 (TX11 36).2.2.1 ∈ tq_G := tq_g (i := 1823) (by decide +kernel) rfl
theorem tk_RX11_96 : Cond.fieldLink RX11 96 RX11 (TX11 37).2.1 (TX11 37).2.2.1 ∈ tq_G := tq_g (i := 1824) (by decide +kernel) rfl
theorem tk_RX11_99 : Cond.fieldLink RX11 99 RX11 (TX11 38).2.1 (TX11 38).2.2.1 ∈ tq_G := tq_g (i := 1825) (by decide +kernel) rfl
theorem tk_RX11_102 : Cond.fieldLink RX11 102 RX11 (TX11 39).2.1 (TX11 39).2.2.1 ∈ tq_G := tq_g (i := 1826) (by decide +kernel) rfl
theorem tk_RX11_105 : Cond.fieldLink RX11 105 RX11 (TX11 40).2.1 (TX11 40).2.2.1 ∈ tq_G := tq_g (i := 1827) (by decide +kernel) rfl
theorem tk_RX11_108 : Cond.fieldLink RX11 108 RX11 (TX11 41).2.1 (TX11 41).2.2.1 ∈ tq_G := tq_g (i := 1828) (by decide +kernel) rfl
theorem tk_ks_5120 : (Int16.ofInt (5120)).toInt32 = (5120 : Int32) := by decide +kernel
theorem tk_RX11_111 : Cond.fieldLink RX11 111 RX11 (TX11 43).2.1 (TX11 43).2.2.1 ∈ tq_G := tq_g (i := 1830) (by decide +kernel) rfl
theorem tk_RX11_114 : Cond.fieldLink RX11 114 RX11 (TX11 44).2.1 (TX11 44).2.2.1 ∈ tq_G := tq_g (i := 1831) (by decide +kernel) rfl
theorem tk_RX11_117 : Cond.fieldLink RX11 117 RX11 (TX11 46).2.1 (TX11 46).2.2.1 ∈ tq_G := tq_g (i := 1833) (by decide +kernel) rfl
theorem tk_RX11_120 : Cond.fieldLink RX11 120 RX11 (TX11 47).2.1 (TX11 47).2.2.1 ∈ tq_G := tq_g (i := 1834) (by decide +kernel) rfl
theorem tk_RX11_123 : Cond.fieldLink RX11 123 RX11 (TX11 48).2.1 (TX11 48).2.2.1 ∈ tq_G := tq_g (i := 1835) (by decide +kernel) rfl
theorem tk_ks_360 : (Int16.ofInt (360)).toInt32 = (360 : Int32) := by decide +kernel
theorem tk_RX11_126 : Cond.fieldLink RX11 126 RX11 (TX11 50).2.1 (TX11 50).2.2.1 ∈ tq_G := tq_g (i := 1837) (by decide +kernel) rfl
theorem tk_RX11_129 : Cond.fieldLink RX11 129 RX11 (TX11 51).2.1 (TX11 51).2.2.1 ∈ tq_G := tq_g (i := 1838) (by decide +kernel) rfl
theorem tk_RX11_132 : Cond.fieldLink RX11 132 RX11 (TX11 52).2.1 (TX11 52).2.2.1 ∈ tq_G := tq_g (i := 1839) (by decide +kernel) rfl
theorem tk_RX11_135 : Cond.fieldLink RX11 135 RX11 (TX11 53).2.1 (TX11 53).2.2.1 ∈ tq_G := tq_g (i := 1840) (by decide +kernel) rfl
theorem tk_RX11_138 : Cond.fieldLink RX11 138 RX11 (TX11 54).2.1 (TX11 54).2.2.1 ∈ tq_G := tq_g (i := 1841) (by decide +kernel) rfl
theorem tk_RX11_141 : Cond.fieldLink RX11 141 RX11 (TX11 55).2.1 (TX11 55).2.2.1 ∈ tq_G := tq_g (i := 1842) (by decide +kernel) rfl
theorem tk_RX11_144 : Cond.fieldLink RX11 144 RX11 (TX11 56).2.1 (TX11 56).2.2.1 ∈ tq_G := tq_g (i := 1843) (by decide +kernel) rfl
theorem tk_kb_122 : (Int8.ofInt (122)).toInt32 = (122 : Int32) := by decide +kernel
theorem tk_RX11_147 : Cond.fieldLink RX11 147 RX11 (TX11 57).2.1 (TX11 57).2.2.1 ∈ tq_G := tq_g (i := 1844) (by decide +kernel) rfl
theorem tk_RX11_150 : Cond.fieldLink RX11 150 RX11 (TX11 58).2.1 (TX11 58).2.2.1 ∈ tq_G := tq_g (i := 1845) (by decide +kernel) rfl
theorem tk_RX11_153 : Cond.fieldLink RX11 153 RX11 (TX11 59).2.1 (TX11 59).2.2.1 ∈ tq_G := tq_g (i := 1846) (by decide +kernel) rfl
theorem tk_RX11_156 : Cond.fieldLink RX11 156 RX11 (TX11 60).2.1 (TX11 60).2.2.1 ∈ tq_G := tq_g (i := 1847) (by decide +kernel) rfl
theorem tk_RX11_163 : Cond.methodLink RX11 163 yX11_arrange ∈ tq_G := tq_g (i := 1771) (by decide +kernel) rfl
theorem tk_y_X11_arrange : tq_yok yX11_arrange cX11_arrange 5 none 0 := ⟨tq_g (i := 1774) (by decide +kernel) rfl, tq_g (i := 133) (by decide +kernel) rfl, ⟨by decide +kernel, by decide +kernel⟩, by decide +kernel, by decide⟩
theorem tk_v_X11_arrange : tq_vok yX11_arrange := ⟨tq_g (i := 1773) (by decide +kernel) rfl, tq_g (i := 52) (by decide +kernel) rfl⟩
theorem tk_RX11_166 : Cond.fieldLink RX11 166 RX11 (TX11 0).2.1 (TX11 0).2.2.1 ∈ tq_G := tq_g (i := 1787) (by decide +kernel) rfl
theorem tk_RX11_169 : Cond.methodLink RX11 169 yX11_in ∈ tq_G := tq_g (i := 1988) (by decide +kernel) rfl
theorem tk_y_X11_in : tq_yok yX11_in cX11_in 3 (some .boolean) 3 := ⟨tq_g (i := 1990) (by decide +kernel) rfl, tq_g (i := 133) (by decide +kernel) rfl, ⟨by decide +kernel, by decide +kernel⟩, by decide +kernel, by decide⟩
theorem tk_s_X11_in : Cond.static yX11_in ∈ tq_G := tq_g (i := 1989) (by decide +kernel) rfl
theorem tk_RX11_187 : Cond.methodLink RX11 187 yX11_isBelow ∈ tq_G := tq_g (i := 2135) (by decide +kernel) rfl
theorem tk_y_X11_isBelow : tq_yok yX11_isBelow cX11_isBelow 4 (some .boolean) 2 := ⟨tq_g (i := 2138) (by decide +kernel) rfl, tq_g (i := 133) (by decide +kernel) rfl, ⟨by decide +kernel, by decide +kernel⟩, by decide +kernel, by decide⟩
theorem tk_v_X11_isBelow : tq_vok yX11_isBelow := ⟨tq_g (i := 2137) (by decide +kernel) rfl, tq_g (i := 86) (by decide +kernel) rfl⟩
theorem tk_RX11_191 : Cond.fieldLink RX11 191 RX11 (TX11 15).2.1 (TX11 15).2.2.1 ∈ tq_G := tq_g (i := 1802) (by decide +kernel) rfl
theorem tk_RX11_194 : Cond.methodLink RX11 194 yX11_isNode ∈ tq_G := tq_g (i := 1984) (by decide +kernel) rfl
theorem tk_y_X11_isNode : tq_yok yX11_isNode cX11_isNode 2 (some .boolean) 1 := ⟨tq_g (i := 1987) (by decide +kernel) rfl, tq_g (i := 133) (by decide +kernel) rfl, ⟨by decide +kernel, by decide +kernel⟩, by decide +kernel, by decide⟩
theorem tk_v_X11_isNode : tq_vok yX11_isNode := ⟨tq_g (i := 1986) (by decide +kernel) rfl, tq_g (i := 57) (by decide +kernel) rfl⟩
theorem tk_RX11_198 : Cond.methodLink RX11 198 yX11_isSpot ∈ tq_G := tq_g (i := 1980) (by decide +kernel) rfl
theorem tk_RX11_201 : Cond.methodLink RX11 201 yX11_takes ∈ tq_G := tq_g (i := 1991) (by decide +kernel) rfl
theorem tk_y_X11_takes : tq_yok yX11_takes cX11_takes 2 (some .boolean) 1 := ⟨tq_g (i := 1994) (by decide +kernel) rfl, tq_g (i := 133) (by decide +kernel) rfl, ⟨by decide +kernel, by decide +kernel⟩, by decide +kernel, by decide⟩
theorem tk_v_X11_takes : tq_vok yX11_takes := ⟨tq_g (i := 1993) (by decide +kernel) rfl, tq_g (i := 58) (by decide +kernel) rfl⟩
theorem tk_RX11_204 : Cond.methodLink RX11 204 yX11_refused ∈ tq_G := tq_g (i := 1995) (by decide +kernel) rfl
theorem tk_RX11_207 : Cond.methodLink RX11 207 yX11_collect ∈ tq_G := tq_g (i := 1999) (by decide +kernel) rfl
theorem tk_y_X11_collect : tq_yok yX11_collect cX11_collect 9 (some .int) 7 := ⟨tq_g (i := 2002) (by decide +kernel) rfl, tq_g (i := 133) (by decide +kernel) rfl, ⟨by decide +kernel, by decide +kernel⟩, by decide +kernel, by decide⟩
theorem tk_v_X11_collect : tq_vok yX11_collect := ⟨tq_g (i := 2001) (by decide +kernel) rfl, tq_g (i := 60) (by decide +kernel) rfl⟩
theorem tk_y_X11_refused : tq_yok yX11_refused cX11_refused 2 (some .boolean) 1 := ⟨tq_g (i := 1998) (by decide +kernel) rfl, tq_g (i := 133) (by decide +kernel) rfl, ⟨by decide +kernel, by decide +kernel⟩, by decide +kernel, by decide⟩
theorem tk_v_X11_refused : tq_vok yX11_refused := ⟨tq_g (i := 1997) (by decide +kernel) rfl, tq_g (i := 59) (by decide +kernel) rfl⟩
theorem tk_y_X11_isSpot : tq_yok yX11_isSpot cX11_isSpot 3 (some .boolean) 2 := ⟨tq_g (i := 1983) (by decide +kernel) rfl, tq_g (i := 133) (by decide +kernel) rfl, ⟨by decide +kernel, by decide +kernel⟩, by decide +kernel, by decide⟩
theorem tk_v_X11_isSpot : tq_vok yX11_isSpot := ⟨tq_g (i := 1982) (by decide +kernel) rfl, tq_g (i := 56) (by decide +kernel) rfl⟩
theorem tk_RX11_211 : Cond.methodLink RX11 211 yX11_nodeOf ∈ tq_G := tq_g (i := 2063) (by decide +kernel) rfl
theorem tk_y_X11_nodeOf : tq_yok yX11_nodeOf cX11_nodeOf 4 (some .int) 1 := ⟨tq_g (i := 2066) (by decide +kernel) rfl, tq_g (i := 133) (by decide +kernel) rfl, ⟨by decide +kernel, by decide +kernel⟩, by decide +kernel, by decide⟩
theorem tk_v_X11_nodeOf : tq_vok yX11_nodeOf := ⟨tq_g (i := 2065) (by decide +kernel) rfl, tq_g (i := 68) (by decide +kernel) rfl⟩
theorem tk_RX11_214 : Cond.methodLink RX11 214 yX11_isListed ∈ tq_G := tq_g (i := 2067) (by decide +kernel) rfl
theorem tk_y_X11_isListed : tq_yok yX11_isListed cX11_isListed 5 (some .boolean) 2 := ⟨tq_g (i := 2070) (by decide +kernel) rfl, tq_g (i := 133) (by decide +kernel) rfl, ⟨by decide +kernel, by decide +kernel⟩, by decide +kernel, by decide⟩
theorem tk_v_X11_isListed : tq_vok yX11_isListed := ⟨tq_g (i := 2069) (by decide +kernel) rfl, tq_g (i := 69) (by decide +kernel) rfl⟩
theorem tk_RX11_264 : Cond.methodLink RX11 264 yX11_countBack ∈ tq_G := tq_g (i := 2055) (by decide +kernel) rfl
theorem tk_RX11_267 : Cond.methodLink RX11 267 yX11_layChildren ∈ tq_G := tq_g (i := 2059) (by decide +kernel) rfl
theorem tk_y_X11_layChildren : tq_yok yX11_layChildren cX11_layChildren 8 none 2 := ⟨tq_g (i := 2062) (by decide +kernel) rfl, tq_g (i := 133) (by decide +kernel) rfl, ⟨by decide +kernel, by decide +kernel⟩, by decide +kernel, by decide⟩
theorem tk_v_X11_layChildren : tq_vok yX11_layChildren := ⟨tq_g (i := 2061) (by decide +kernel) rfl, tq_g (i := 67) (by decide +kernel) rfl⟩
theorem tk_y_X11_countBack : tq_yok yX11_countBack cX11_countBack 4 (some .int) 1 := ⟨tq_g (i := 2058) (by decide +kernel) rfl, tq_g (i := 133) (by decide +kernel) rfl, ⟨by decide +kernel, by decide +kernel⟩, by decide +kernel, by decide⟩
theorem tk_v_X11_countBack : tq_vok yX11_countBack := ⟨tq_g (i := 2057) (by decide +kernel) rfl, tq_g (i := 66) (by decide +kernel) rfl⟩
theorem tk_RX11_271 : Cond.methodLink RX11 271 yX11_goesRound ∈ tq_G := tq_g (i := 2075) (by decide +kernel) rfl
theorem tk_y_X11_goesRound : tq_yok yX11_goesRound cX11_goesRound 4 (some .boolean) 1 := ⟨tq_g (i := 2078) (by decide +kernel) rfl, tq_g (i := 133) (by decide +kernel) rfl, ⟨by decide +kernel, by decide +kernel⟩, by decide +kernel, by decide⟩
theorem tk_v_X11_goesRound : tq_vok yX11_goesRound := ⟨tq_g (i := 2077) (by decide +kernel) rfl, tq_g (i := 71) (by decide +kernel) rfl⟩
theorem tk_kb_24 : (Int8.ofInt (24)).toInt32 = (24 : Int32) := by decide +kernel
theorem tk_RX11_382 : Cond.methodLink RX11 382 yX11_isOf ∈ tq_G := tq_g (i := 2095) (by decide +kernel) rfl
theorem tk_y_X11_isOf : tq_yok yX11_isOf cX11_isOf 11 (some .boolean) 2 := ⟨tq_g (i := 2098) (by decide +kernel) rfl, tq_g (i := 133) (by decide +kernel) rfl, ⟨by decide +kernel, by decide +kernel⟩, by decide +kernel, by decide⟩
theorem tk_v_X11_isOf : tq_vok yX11_isOf := ⟨tq_g (i := 2097) (by decide +kernel) rfl, tq_g (i := 76) (by decide +kernel) rfl⟩
theorem tk_RX11_385 : Cond.methodLink RX11 385 yX11_findTypes ∈ tq_G := tq_g (i := 2091) (by decide +kernel) rfl
theorem tk_y_X11_findTypes : tq_yok yX11_findTypes cX11_findTypes 4 none 0 := ⟨tq_g (i := 2094) (by decide +kernel) rfl, tq_g (i := 133) (by decide +kernel) rfl, ⟨by decide +kernel, by decide +kernel⟩, by decide +kernel, by decide⟩
theorem tk_v_X11_findTypes : tq_vok yX11_findTypes := ⟨tq_g (i := 2093) (by decide +kernel) rfl, tq_g (i := 75) (by decide +kernel) rfl⟩
theorem tk_RX11_274 : Cond.methodLink RX11 274 yX11_numberRow ∈ tq_G := tq_g (i := 2111) (by decide +kernel) rfl
theorem tk_y_X11_numberRow : tq_yok yX11_numberRow cX11_numberRow 8 (some .int) 1 := ⟨tq_g (i := 2114) (by decide +kernel) rfl, tq_g (i := 133) (by decide +kernel) rfl, ⟨by decide +kernel, by decide +kernel⟩, by decide +kernel, by decide⟩
theorem tk_v_X11_numberRow : tq_vok yX11_numberRow := ⟨tq_g (i := 2113) (by decide +kernel) rfl, tq_g (i := 80) (by decide +kernel) rfl⟩
theorem tk_RX11_277 : Cond.methodLink RX11 277 yX11_numberAll ∈ tq_G := tq_g (i := 2115) (by decide +kernel) rfl
theorem tk_RX11_280 : Cond.fieldLink RX11 280 RX11 (TX11 10).2.1 (TX11 10).2.2.1 ∈ tq_G := tq_g (i := 1797) (by decide +kernel) rfl
theorem tk_y_X11_numberAll : tq_yok yX11_numberAll cX11_numberAll 3 none 0 := ⟨tq_g (i := 2118) (by decide +kernel) rfl, tq_g (i := 133) (by decide +kernel) rfl, ⟨by decide +kernel, by decide +kernel⟩, by decide +kernel, by decide⟩
theorem tk_v_X11_numberAll : tq_vok yX11_numberAll := ⟨tq_g (i := 2117) (by decide +kernel) rfl, tq_g (i := 81) (by decide +kernel) rfl⟩
abbrev mX11_attributeOf : tq_M := (RX11, cX11_attributeOf, 5, (some .int), false, [], none)
def f_X11_attributeOf_b5 (i0 : Nat) (i1 : Int32) (i2 : Int32) (hh : tq_H) (s : Int32 × Int32) : Option ((Int32 × Int32) ⊕ (Int32)) := match s with
  | (y3, y4) =>
    (tq_gi hh i0 11 1).bind fun x1 =>
    if y4 ≥ x1 then
      some (.inr y3)
    else
      (tq_gr hh i0 11 9).bind fun k2 =>
      (tq_az hh k2 y4).bind fun x3 =>
      (if x3 = 0 then
        some y3
      else
        (tq_gr hh i0 11 6).bind fun k4 =>
        (tq_ai hh k4 y4).bind fun x5 =>
        if x5 = i1 then
          (tq_gr hh i0 11 2).bind fun k6 =>
          (tq_ai hh k6 y4).bind fun x7 =>
          if x7 = (2 : Int32) then
            (tq_gr hh i0 11 3).bind fun k8 =>
            (tq_ai hh k8 y4).bind fun x9 =>
            if x9 = i2 then
              some y4
            else
              some y3
          else
            some y3
        else
          some y3).bind fun p10 =>
      tq_let (y4 + (1 : Int32)) fun x11 =>
      some (.inl (p10, x11))
def f_X11_attributeOf (t : Nat) (a1 : Int32) (a2 : Int32) (h : tq_H) : Option (Int32) :=
  (tq_loop (f_X11_attributeOf_b5 t a1 a2 h) tq_N ((-1 : Int32), (0 : Int32))).bind fun o12 =>
  some o12
set_option maxHeartbeats 4000000 in
theorem l_X11_attributeOf_5 {l : Launch} {d : Nat} {Q : tq_R → tq_H → Prop} (hd9 : 0 ≤ d) (i0 : Nat) (i1 : Int32) (i2 : Int32) (hh : tq_H) : ∀ (n : Nat) (y3 : Int32) (y4 : Int32) (o : Int32), tq_loop (f_X11_attributeOf_b5 i0 i1 i2 hh) n (y3, y4) = some o → tq_W l mX11_attributeOf d 0 0 Q 70 [(3, .int o)] [] hh → tq_W l mX11_attributeOf d 0 0 Q 5 [(0, .ref i0), (1, .int i1), (2, .int i2), (3, .int y3), (4, .int y4)] [] hh := by
  intro n
  induction n with
  | zero => intro y3 y4 o hl; cases hl
  | succ n ih =>
    intro y3 y4 o hl hk
    obtain ⟨oo, hf, ho⟩ := tq_loop_s hl
    refine tq_iload (M := mX11_attributeOf) (pc := 5) dX11_attributeOf_5 rfl ?_
    refine tq_aload_n (M := mX11_attributeOf) (pc := 7) dX11_attributeOf_7 rfl ?_
    obtain ⟨x1, ex1, hf⟩ := tq_be hf
    refine tq_getI (M := mX11_attributeOf) (pc := 8) tk_c11 (by decide) dX11_attributeOf_8 tk_RX11_159 rfl ex1 ?_
    refine tq_icmp_ge (M := mX11_attributeOf) (pc := 11) (tgt := 70) dX11_attributeOf_11 (by decide) (fun cc => ?_) (fun cc => ?_)
    · have hf := tq_ifp hf cc
      refine tq_pick (L2 := [(3, .int y3)]) [3] rfl ?_
      cases (Option.some.inj hf)
      cases (tq_lx ho)
      exact hk
    · have hf := tq_ifn hf cc
      refine tq_aload_n (M := mX11_attributeOf) (pc := 14) dX11_attributeOf_14 rfl ?_
      obtain ⟨k2, ek2, hf⟩ := tq_be hf
      refine tq_getR (M := mX11_attributeOf) (pc := 15) tk_c11 (by decide) dX11_attributeOf_15 tk_RX11_31 rfl ek2 ?_
      refine tq_iload (M := mX11_attributeOf) (pc := 18) dX11_attributeOf_18 rfl ?_
      obtain ⟨x3, ex3, hf⟩ := tq_be hf
      refine tq_zaldF (M := mX11_attributeOf) (pc := 20) dX11_attributeOf_20 ex3 ?_
      obtain ⟨p10, ep10, hf⟩ := tq_be hf
      have HJ21 : tq_W l mX11_attributeOf d 0 0 Q 63 [(0, .ref i0), (1, .int i1), (2, .int i2), (4, .int y4)] [.int p10] hh := by
        refine tq_istore_n (M := mX11_attributeOf) (pc := 63) rfl dX11_attributeOf_63 (L2 := [(3, .int p10), (0, .ref i0), (1, .int i1), (2, .int i2), (4, .int y4)]) (by decide) rfl ?_
        obtain ⟨x11, ex11, hf⟩ := tq_le hf
        refine tq_iinc (M := mX11_attributeOf) (pc := 64) (v := x11) (L2 := [(4, .int x11), (3, .int p10), (0, .ref i0), (1, .int i1), (2, .int i2)]) dX11_attributeOf_64 rfl (by rw [ex11, tk_ki_1]) (by decide) rfl ?_
        refine tq_goto (M := mX11_attributeOf) (pc := 67) (tgt := 5) dX11_attributeOf_67 (by decide) ?_
        refine tq_pick (L2 := [(0, .ref i0), (1, .int i1), (2, .int i2), (3, .int p10), (4, .int x11)]) [2, 3, 4, 1, 0] rfl ?_
        cases (Option.some.inj hf)
        exact ih _ _ o (tq_lc ho) hk
      refine tq_if_eq (M := mX11_attributeOf) (pc := 21) (tgt := 62) dX11_attributeOf_21 (by decide) (fun cc => ?_) (fun cc => ?_)
      · have hf := tq_ifp ep10 cc
        refine tq_iload_n (M := mX11_attributeOf) (pc := 62) dX11_attributeOf_62 rfl ?_
        refine tq_pick (L2 := [(0, .ref i0), (1, .int i1), (2, .int i2), (4, .int y4)]) [0, 1, 2, 4] rfl ?_
        cases (Option.some.inj hf)
        exact HJ21
      · have hf := tq_ifn ep10 cc
        refine tq_aload_n (M := mX11_attributeOf) (pc := 24) dX11_attributeOf_24 rfl ?_
        obtain ⟨k4, ek4, hf⟩ := tq_be hf
        refine tq_getR (M := mX11_attributeOf) (pc := 25) tk_c11 (by decide) dX11_attributeOf_25 tk_RX11_22 rfl ek4 ?_
        refine tq_iload (M := mX11_attributeOf) (pc := 28) dX11_attributeOf_28 rfl ?_
        obtain ⟨x5, ex5, hf⟩ := tq_be hf
        refine tq_ialdF (M := mX11_attributeOf) (pc := 30) dX11_attributeOf_30 ex5 ?_
        refine tq_iload_n (M := mX11_attributeOf) (pc := 31) dX11_attributeOf_31 rfl ?_
        refine tq_icmp_ne (M := mX11_attributeOf) (pc := 32) (tgt := 62) dX11_attributeOf_32 (by decide) (fun cc => ?_) (fun cc => ?_)
        · have hf := tq_ifn hf cc
          refine tq_iload_n (M := mX11_attributeOf) (pc := 62) dX11_attributeOf_62 rfl ?_
          refine tq_pick (L2 := [(0, .ref i0), (1, .int i1), (2, .int i2), (4, .int y4)]) [0, 1, 2, 4] rfl ?_
          cases (Option.some.inj hf)
          exact HJ21
        · have hf := tq_ifp hf cc
          refine tq_aload_n (M := mX11_attributeOf) (pc := 35) dX11_attributeOf_35 rfl ?_
          obtain ⟨k6, ek6, hf⟩ := tq_be hf
          refine tq_getR (M := mX11_attributeOf) (pc := 36) tk_c11 (by decide) dX11_attributeOf_36 tk_RX11_7 rfl ek6 ?_
          refine tq_iload (M := mX11_attributeOf) (pc := 39) dX11_attributeOf_39 rfl ?_
          obtain ⟨x7, ex7, hf⟩ := tq_be hf
          refine tq_ialdF (M := mX11_attributeOf) (pc := 41) dX11_attributeOf_41 ex7 ?_
          refine tq_iconst (M := mX11_attributeOf) (pc := 42) dX11_attributeOf_42 tk_ki_2 ?_
          refine tq_icmp_ne (M := mX11_attributeOf) (pc := 43) (tgt := 62) dX11_attributeOf_43 (by decide) (fun cc => ?_) (fun cc => ?_)
          · have hf := tq_ifn hf cc
            refine tq_iload_n (M := mX11_attributeOf) (pc := 62) dX11_attributeOf_62 rfl ?_
            refine tq_pick (L2 := [(0, .ref i0), (1, .int i1), (2, .int i2), (4, .int y4)]) [0, 1, 2, 4] rfl ?_
            cases (Option.some.inj hf)
            exact HJ21
          · have hf := tq_ifp hf cc
            refine tq_aload_n (M := mX11_attributeOf) (pc := 46) dX11_attributeOf_46 rfl ?_
            obtain ⟨k8, ek8, hf⟩ := tq_be hf
            refine tq_getR (M := mX11_attributeOf) (pc := 47) tk_c11 (by decide) dX11_attributeOf_47 tk_RX11_13 rfl ek8 ?_
            refine tq_iload (M := mX11_attributeOf) (pc := 50) dX11_attributeOf_50 rfl ?_
            obtain ⟨x9, ex9, hf⟩ := tq_be hf
            refine tq_ialdF (M := mX11_attributeOf) (pc := 52) dX11_attributeOf_52 ex9 ?_
            refine tq_iload_n (M := mX11_attributeOf) (pc := 53) dX11_attributeOf_53 rfl ?_
            refine tq_icmp_ne (M := mX11_attributeOf) (pc := 54) (tgt := 62) dX11_attributeOf_54 (by decide) (fun cc => ?_) (fun cc => ?_)
            · have hf := tq_ifn hf cc
              refine tq_iload_n (M := mX11_attributeOf) (pc := 62) dX11_attributeOf_62 rfl ?_
              refine tq_pick (L2 := [(0, .ref i0), (1, .int i1), (2, .int i2), (4, .int y4)]) [0, 1, 2, 4] rfl ?_
              cases (Option.some.inj hf)
              exact HJ21
            · have hf := tq_ifp hf cc
              refine tq_iload (M := mX11_attributeOf) (pc := 57) dX11_attributeOf_57 rfl ?_
              refine tq_goto (M := mX11_attributeOf) (pc := 59) (tgt := 63) dX11_attributeOf_59 (by decide) ?_
              refine tq_pick (L2 := [(0, .ref i0), (1, .int i1), (2, .int i2), (4, .int y4)]) [0, 1, 2, 4] rfl ?_
              cases (Option.some.inj hf)
              exact HJ21
set_option maxHeartbeats 4000000 in
set_option maxRecDepth 20000 in
theorem w_X11_attributeOf {l : Launch} {d : Nat} (hd9 : 0 ≤ d) {t : Nat} {a1 : Int32} {a2 : Int32} {h : tq_H} {o : Int32} {Q : tq_R → tq_H → Prop} (hf : f_X11_attributeOf t a1 a2 h = some o) (hQ : ∀ r h9, r = .inl (some (.int o)) ∧ h = h9 → Q r h9) : tq_C l yX11_attributeOf cX11_attributeOf 5 (some .int) d 0 0 [.ref t, .int a1, .int a2] h Q := by
  refine tq_body (y := yX11_attributeOf) false (by decide +kernel) (fun z => by cases z) (Nat.le_of_ble_eq_true rfl) ?_
  show tq_W l mX11_attributeOf d 0 0 Q 0 [(0, .ref t), (1, .int a1), (2, .int a2)] [] h
  refine tq_iconst (M := mX11_attributeOf) (pc := 0) dX11_attributeOf_0 tk_ki_m1 ?_
  refine tq_istore_n (M := mX11_attributeOf) (pc := 1) rfl dX11_attributeOf_1 (L2 := [(3, .int (-1 : Int32)), (0, .ref t), (1, .int a1), (2, .int a2)]) (by decide) rfl ?_
  refine tq_iconst (M := mX11_attributeOf) (pc := 2) dX11_attributeOf_2 tk_ki_0 ?_
  refine tq_istore (M := mX11_attributeOf) (pc := 3) dX11_attributeOf_3 (L2 := [(4, .int (0 : Int32)), (3, .int (-1 : Int32)), (0, .ref t), (1, .int a1), (2, .int a2)]) (by decide) rfl ?_
  obtain ⟨o12, eo12, hf⟩ := tq_be hf
  refine tq_pick (L2 := [(0, .ref t), (1, .int a1), (2, .int a2), (3, .int (-1 : Int32)), (4, .int (0 : Int32))]) [2, 3, 4, 1, 0] rfl ?_
  refine l_X11_attributeOf_5 (by omega) t a1 a2 h _ (-1 : Int32) (0 : Int32) _ eo12 ?_
  refine tq_iload_n (M := mX11_attributeOf) (pc := 70) dX11_attributeOf_70 rfl ?_
  refine tq_iret (M := mX11_attributeOf) (pc := 71) dX11_attributeOf_71 rfl ?_
  cases (Option.some.inj hf)
  exact hQ _ _ ⟨rfl, rfl⟩
abbrev mX11_childCount : tq_M := (RX11, cX11_childCount, 4, (some .int), false, [], none)
def f_X11_childCount_b4 (i0 : Nat) (i1 : Int32) (hh : tq_H) (s : Int32 × Int32) : Option ((Int32 × Int32) ⊕ (Int32)) := match s with
  | (y2, y3) =>
    (tq_gi hh i0 11 1).bind fun x1 =>
    if y3 ≥ x1 then
      some (.inr y2)
    else
      (tq_gr hh i0 11 9).bind fun k2 =>
      (tq_az hh k2 y3).bind fun x3 =>
      (if x3 = 0 then
        some (0 : Int32)
      else
        (tq_gr hh i0 11 6).bind fun k4 =>
        (tq_ai hh k4 y3).bind fun x5 =>
        if x5 = i1 then
          (tq_gr hh i0 11 2).bind fun k6 =>
          (tq_ai hh k6 y3).bind fun x7 =>
          if x7 = (2 : Int32) then
            some (0 : Int32)
          else
            some (1 : Int32)
        else
          some (0 : Int32)).bind fun p8 =>
      tq_let ((y2 + p8)) fun x9 =>
      tq_let (y3 + (1 : Int32)) fun x10 =>
      some (.inl (x9, x10))
def f_X11_childCount (t : Nat) (a1 : Int32) (h : tq_H) : Option (Int32) :=
  (tq_loop (f_X11_childCount_b4 t a1 h) tq_N ((0 : Int32), (0 : Int32))).bind fun o11 =>
  some o11
set_option maxHeartbeats 4000000 in
theorem l_X11_childCount_4 {l : Launch} {d : Nat} {Q : tq_R → tq_H → Prop} (hd9 : 0 ≤ d) (i0 : Nat) (i1 : Int32) (hh : tq_H) : ∀ (n : Nat) (y2 : Int32) (y3 : Int32) (o : Int32), tq_loop (f_X11_childCount_b4 i0 i1 hh) n (y2, y3) = some o → tq_W l mX11_childCount d 0 0 Q 55 [(2, .int o)] [] hh → tq_W l mX11_childCount d 0 0 Q 4 [(0, .ref i0), (1, .int i1), (2, .int y2), (3, .int y3)] [] hh := by
  intro n
  induction n with
  | zero => intro y2 y3 o hl; cases hl
  | succ n ih =>
    intro y2 y3 o hl hk
    obtain ⟨oo, hf, ho⟩ := tq_loop_s hl
    refine tq_iload_n (M := mX11_childCount) (pc := 4) dX11_childCount_4 rfl ?_
    refine tq_aload_n (M := mX11_childCount) (pc := 5) dX11_childCount_5 rfl ?_
    obtain ⟨x1, ex1, hf⟩ := tq_be hf
    refine tq_getI (M := mX11_childCount) (pc := 6) tk_c11 (by decide) dX11_childCount_6 tk_RX11_159 rfl ex1 ?_
    refine tq_icmp_ge (M := mX11_childCount) (pc := 9) (tgt := 55) dX11_childCount_9 (by decide) (fun cc => ?_) (fun cc => ?_)
    · have hf := tq_ifp hf cc
      refine tq_pick (L2 := [(2, .int y2)]) [2] rfl ?_
      cases (Option.some.inj hf)
      cases (tq_lx ho)
      exact hk
    · have hf := tq_ifn hf cc
      refine tq_iload_n (M := mX11_childCount) (pc := 12) dX11_childCount_12 rfl ?_
      refine tq_aload_n (M := mX11_childCount) (pc := 13) dX11_childCount_13 rfl ?_
      obtain ⟨k2, ek2, hf⟩ := tq_be hf
      refine tq_getR (M := mX11_childCount) (pc := 14) tk_c11 (by decide) dX11_childCount_14 tk_RX11_31 rfl ek2 ?_
      refine tq_iload_n (M := mX11_childCount) (pc := 17) dX11_childCount_17 rfl ?_
      obtain ⟨x3, ex3, hf⟩ := tq_be hf
      refine tq_zaldF (M := mX11_childCount) (pc := 18) dX11_childCount_18 ex3 ?_
      obtain ⟨p8, ep8, hf⟩ := tq_be hf
      have HJ19 : tq_W l mX11_childCount d 0 0 Q 47 [(0, .ref i0), (1, .int i1), (3, .int y3)] [.int p8, .int y2] hh := by
        refine tq_iadd (M := mX11_childCount) (pc := 47) dX11_childCount_47 ?_
        obtain ⟨x9, ex9, hf⟩ := tq_le hf
        refine tq_istore_n (M := mX11_childCount) (pc := 48) rfl dX11_childCount_48 (L2 := [(2, .int x9), (0, .ref i0), (1, .int i1), (3, .int y3)]) (by decide) (by rw [ex9]; rfl) ?_
        obtain ⟨x10, ex10, hf⟩ := tq_le hf
        refine tq_iinc (M := mX11_childCount) (pc := 49) (v := x10) (L2 := [(3, .int x10), (2, .int x9), (0, .ref i0), (1, .int i1)]) dX11_childCount_49 rfl (by rw [ex10, tk_ki_1]) (by decide) rfl ?_
        refine tq_goto (M := mX11_childCount) (pc := 52) (tgt := 4) dX11_childCount_52 (by decide) ?_
        refine tq_pick (L2 := [(0, .ref i0), (1, .int i1), (2, .int x9), (3, .int x10)]) [2, 3, 1, 0] rfl ?_
        cases (Option.some.inj hf)
        exact ih _ _ o (tq_lc ho) hk
      refine tq_if_eq (M := mX11_childCount) (pc := 19) (tgt := 46) dX11_childCount_19 (by decide) (fun cc => ?_) (fun cc => ?_)
      · have hf := tq_ifp ep8 cc
        refine tq_iconst (M := mX11_childCount) (pc := 46) dX11_childCount_46 tk_ki_0 ?_
        refine tq_pick (L2 := [(0, .ref i0), (1, .int i1), (3, .int y3)]) [0, 1, 3] rfl ?_
        cases (Option.some.inj hf)
        exact HJ19
      · have hf := tq_ifn ep8 cc
        refine tq_aload_n (M := mX11_childCount) (pc := 22) dX11_childCount_22 rfl ?_
        obtain ⟨k4, ek4, hf⟩ := tq_be hf
        refine tq_getR (M := mX11_childCount) (pc := 23) tk_c11 (by decide) dX11_childCount_23 tk_RX11_22 rfl ek4 ?_
        refine tq_iload_n (M := mX11_childCount) (pc := 26) dX11_childCount_26 rfl ?_
        obtain ⟨x5, ex5, hf⟩ := tq_be hf
        refine tq_ialdF (M := mX11_childCount) (pc := 27) dX11_childCount_27 ex5 ?_
        refine tq_iload_n (M := mX11_childCount) (pc := 28) dX11_childCount_28 rfl ?_
        refine tq_icmp_ne (M := mX11_childCount) (pc := 29) (tgt := 46) dX11_childCount_29 (by decide) (fun cc => ?_) (fun cc => ?_)
        · have hf := tq_ifn hf cc
          refine tq_iconst (M := mX11_childCount) (pc := 46) dX11_childCount_46 tk_ki_0 ?_
          refine tq_pick (L2 := [(0, .ref i0), (1, .int i1), (3, .int y3)]) [0, 1, 3] rfl ?_
          cases (Option.some.inj hf)
          exact HJ19
        · have hf := tq_ifp hf cc
          refine tq_aload_n (M := mX11_childCount) (pc := 32) dX11_childCount_32 rfl ?_
          obtain ⟨k6, ek6, hf⟩ := tq_be hf
          refine tq_getR (M := mX11_childCount) (pc := 33) tk_c11 (by decide) dX11_childCount_33 tk_RX11_7 rfl ek6 ?_
          refine tq_iload_n (M := mX11_childCount) (pc := 36) dX11_childCount_36 rfl ?_
          obtain ⟨x7, ex7, hf⟩ := tq_be hf
          refine tq_ialdF (M := mX11_childCount) (pc := 37) dX11_childCount_37 ex7 ?_
          refine tq_iconst (M := mX11_childCount) (pc := 38) dX11_childCount_38 tk_ki_2 ?_
          refine tq_icmp_eq (M := mX11_childCount) (pc := 39) (tgt := 46) dX11_childCount_39 (by decide) (fun cc => ?_) (fun cc => ?_)
          · have hf := tq_ifp hf cc
            refine tq_iconst (M := mX11_childCount) (pc := 46) dX11_childCount_46 tk_ki_0 ?_
            refine tq_pick (L2 := [(0, .ref i0), (1, .int i1), (3, .int y3)]) [0, 1, 3] rfl ?_
            cases (Option.some.inj hf)
            exact HJ19
          · have hf := tq_ifn hf cc
            refine tq_iconst (M := mX11_childCount) (pc := 42) dX11_childCount_42 tk_ki_1 ?_
            refine tq_goto (M := mX11_childCount) (pc := 43) (tgt := 47) dX11_childCount_43 (by decide) ?_
            refine tq_pick (L2 := [(0, .ref i0), (1, .int i1), (3, .int y3)]) [0, 1, 3] rfl ?_
            cases (Option.some.inj hf)
            exact HJ19
set_option maxHeartbeats 4000000 in
set_option maxRecDepth 20000 in
theorem w_X11_childCount {l : Launch} {d : Nat} (hd9 : 0 ≤ d) {t : Nat} {a1 : Int32} {h : tq_H} {o : Int32} {Q : tq_R → tq_H → Prop} (hf : f_X11_childCount t a1 h = some o) (hQ : ∀ r h9, r = .inl (some (.int o)) ∧ h = h9 → Q r h9) : tq_C l yX11_childCount cX11_childCount 4 (some .int) d 0 0 [.ref t, .int a1] h Q := by
  refine tq_body (y := yX11_childCount) false (by decide +kernel) (fun z => by cases z) (Nat.le_of_ble_eq_true rfl) ?_
  show tq_W l mX11_childCount d 0 0 Q 0 [(0, .ref t), (1, .int a1)] [] h
  refine tq_iconst (M := mX11_childCount) (pc := 0) dX11_childCount_0 tk_ki_0 ?_
  refine tq_istore_n (M := mX11_childCount) (pc := 1) rfl dX11_childCount_1 (L2 := [(2, .int (0 : Int32)), (0, .ref t), (1, .int a1)]) (by decide) rfl ?_
  refine tq_iconst (M := mX11_childCount) (pc := 2) dX11_childCount_2 tk_ki_0 ?_
  refine tq_istore_n (M := mX11_childCount) (pc := 3) rfl dX11_childCount_3 (L2 := [(3, .int (0 : Int32)), (2, .int (0 : Int32)), (0, .ref t), (1, .int a1)]) (by decide) rfl ?_
  obtain ⟨o11, eo11, hf⟩ := tq_be hf
  refine tq_pick (L2 := [(0, .ref t), (1, .int a1), (2, .int (0 : Int32)), (3, .int (0 : Int32))]) [2, 3, 1, 0] rfl ?_
  refine l_X11_childCount_4 (by omega) t a1 h _ (0 : Int32) (0 : Int32) _ eo11 ?_
  refine tq_iload_n (M := mX11_childCount) (pc := 55) dX11_childCount_55 rfl ?_
  refine tq_iret (M := mX11_childCount) (pc := 56) dX11_childCount_56 rfl ?_
  cases (Option.some.inj hf)
  exact hQ _ _ ⟨rfl, rfl⟩
abbrev mX11_childAt : tq_M := (RX11, cX11_childAt, 5, (some .int), false, [], none)
def f_X11_childAt_b5 (i0 : Nat) (i1 : Int32) (i2 : Int32) (hh : tq_H) (s : Int32 × Int32) : Option ((Int32 × Int32) ⊕ (Int32)) := match s with
  | (y3, y4) =>
    (tq_gi hh i0 11 1).bind fun x1 =>
    if y4 ≥ x1 then
      some (.inr y3)
    else
      (tq_gr hh i0 11 9).bind fun k2 =>
      (tq_az hh k2 y4).bind fun x3 =>
      (if x3 = 0 then
        some y3
      else
        (tq_gr hh i0 11 6).bind fun k4 =>
        (tq_ai hh k4 y4).bind fun x5 =>
        if x5 = i1 then
          (tq_gr hh i0 11 2).bind fun k6 =>
          (tq_ai hh k6 y4).bind fun x7 =>
          if x7 = (2 : Int32) then
            some y3
          else
            (tq_gr hh i0 11 7).bind fun k8 =>
            (tq_ai hh k8 y4).bind fun x9 =>
            if x9 = i2 then
              some y4
            else
              some y3
        else
          some y3).bind fun p10 =>
      tq_let (y4 + (1 : Int32)) fun x11 =>
      some (.inl (p10, x11))
def f_X11_childAt (t : Nat) (a1 : Int32) (a2 : Int32) (h : tq_H) : Option (Int32) :=
  (tq_loop (f_X11_childAt_b5 t a1 a2 h) tq_N ((-1 : Int32), (0 : Int32))).bind fun o12 =>
  some o12
set_option maxHeartbeats 4000000 in
theorem l_X11_childAt_5 {l : Launch} {d : Nat} {Q : tq_R → tq_H → Prop} (hd9 : 0 ≤ d) (i0 : Nat) (i1 : Int32) (i2 : Int32) (hh : tq_H) : ∀ (n : Nat) (y3 : Int32) (y4 : Int32) (o : Int32), tq_loop (f_X11_childAt_b5 i0 i1 i2 hh) n (y3, y4) = some o → tq_W l mX11_childAt d 0 0 Q 70 [(3, .int o)] [] hh → tq_W l mX11_childAt d 0 0 Q 5 [(0, .ref i0), (1, .int i1), (2, .int i2), (3, .int y3), (4, .int y4)] [] hh := by
  intro n
  induction n with
  | zero => intro y3 y4 o hl; cases hl
  | succ n ih =>
    intro y3 y4 o hl hk
    obtain ⟨oo, hf, ho⟩ := tq_loop_s hl
    refine tq_iload (M := mX11_childAt) (pc := 5) dX11_childAt_5 rfl ?_
    refine tq_aload_n (M := mX11_childAt) (pc := 7) dX11_childAt_7 rfl ?_
    obtain ⟨x1, ex1, hf⟩ := tq_be hf
    refine tq_getI (M := mX11_childAt) (pc := 8) tk_c11 (by decide) dX11_childAt_8 tk_RX11_159 rfl ex1 ?_
    refine tq_icmp_ge (M := mX11_childAt) (pc := 11) (tgt := 70) dX11_childAt_11 (by decide) (fun cc => ?_) (fun cc => ?_)
    · have hf := tq_ifp hf cc
      refine tq_pick (L2 := [(3, .int y3)]) [3] rfl ?_
      cases (Option.some.inj hf)
      cases (tq_lx ho)
      exact hk
    · have hf := tq_ifn hf cc
      refine tq_aload_n (M := mX11_childAt) (pc := 14) dX11_childAt_14 rfl ?_
      obtain ⟨k2, ek2, hf⟩ := tq_be hf
      refine tq_getR (M := mX11_childAt) (pc := 15) tk_c11 (by decide) dX11_childAt_15 tk_RX11_31 rfl ek2 ?_
      refine tq_iload (M := mX11_childAt) (pc := 18) dX11_childAt_18 rfl ?_
      obtain ⟨x3, ex3, hf⟩ := tq_be hf
      refine tq_zaldF (M := mX11_childAt) (pc := 20) dX11_childAt_20 ex3 ?_
      obtain ⟨p10, ep10, hf⟩ := tq_be hf
      have HJ21 : tq_W l mX11_childAt d 0 0 Q 63 [(0, .ref i0), (1, .int i1), (2, .int i2), (4, .int y4)] [.int p10] hh := by
        refine tq_istore_n (M := mX11_childAt) (pc := 63) rfl dX11_childAt_63 (L2 := [(3, .int p10), (0, .ref i0), (1, .int i1), (2, .int i2), (4, .int y4)]) (by decide) rfl ?_
        obtain ⟨x11, ex11, hf⟩ := tq_le hf
        refine tq_iinc (M := mX11_childAt) (pc := 64) (v := x11) (L2 := [(4, .int x11), (3, .int p10), (0, .ref i0), (1, .int i1), (2, .int i2)]) dX11_childAt_64 rfl (by rw [ex11, tk_ki_1]) (by decide) rfl ?_
        refine tq_goto (M := mX11_childAt) (pc := 67) (tgt := 5) dX11_childAt_67 (by decide) ?_
        refine tq_pick (L2 := [(0, .ref i0), (1, .int i1), (2, .int i2), (3, .int p10), (4, .int x11)]) [2, 3, 4, 1, 0] rfl ?_
        cases (Option.some.inj hf)
        exact ih _ _ o (tq_lc ho) hk
      refine tq_if_eq (M := mX11_childAt) (pc := 21) (tgt := 62) dX11_childAt_21 (by decide) (fun cc => ?_) (fun cc => ?_)
      · have hf := tq_ifp ep10 cc
        refine tq_iload_n (M := mX11_childAt) (pc := 62) dX11_childAt_62 rfl ?_
        refine tq_pick (L2 := [(0, .ref i0), (1, .int i1), (2, .int i2), (4, .int y4)]) [0, 1, 2, 4] rfl ?_
        cases (Option.some.inj hf)
        exact HJ21
      · have hf := tq_ifn ep10 cc
        refine tq_aload_n (M := mX11_childAt) (pc := 24) dX11_childAt_24 rfl ?_
        obtain ⟨k4, ek4, hf⟩ := tq_be hf
        refine tq_getR (M := mX11_childAt) (pc := 25) tk_c11 (by decide) dX11_childAt_25 tk_RX11_22 rfl ek4 ?_
        refine tq_iload (M := mX11_childAt) (pc := 28) dX11_childAt_28 rfl ?_
        obtain ⟨x5, ex5, hf⟩ := tq_be hf
        refine tq_ialdF (M := mX11_childAt) (pc := 30) dX11_childAt_30 ex5 ?_
        refine tq_iload_n (M := mX11_childAt) (pc := 31) dX11_childAt_31 rfl ?_
        refine tq_icmp_ne (M := mX11_childAt) (pc := 32) (tgt := 62) dX11_childAt_32 (by decide) (fun cc => ?_) (fun cc => ?_)
        · have hf := tq_ifn hf cc
          refine tq_iload_n (M := mX11_childAt) (pc := 62) dX11_childAt_62 rfl ?_
          refine tq_pick (L2 := [(0, .ref i0), (1, .int i1), (2, .int i2), (4, .int y4)]) [0, 1, 2, 4] rfl ?_
          cases (Option.some.inj hf)
          exact HJ21
        · have hf := tq_ifp hf cc
          refine tq_aload_n (M := mX11_childAt) (pc := 35) dX11_childAt_35 rfl ?_
          obtain ⟨k6, ek6, hf⟩ := tq_be hf
          refine tq_getR (M := mX11_childAt) (pc := 36) tk_c11 (by decide) dX11_childAt_36 tk_RX11_7 rfl ek6 ?_
          refine tq_iload (M := mX11_childAt) (pc := 39) dX11_childAt_39 rfl ?_
          obtain ⟨x7, ex7, hf⟩ := tq_be hf
          refine tq_ialdF (M := mX11_childAt) (pc := 41) dX11_childAt_41 ex7 ?_
          refine tq_iconst (M := mX11_childAt) (pc := 42) dX11_childAt_42 tk_ki_2 ?_
          refine tq_icmp_eq (M := mX11_childAt) (pc := 43) (tgt := 62) dX11_childAt_43 (by decide) (fun cc => ?_) (fun cc => ?_)
          · have hf := tq_ifp hf cc
            refine tq_iload_n (M := mX11_childAt) (pc := 62) dX11_childAt_62 rfl ?_
            refine tq_pick (L2 := [(0, .ref i0), (1, .int i1), (2, .int i2), (4, .int y4)]) [0, 1, 2, 4] rfl ?_
            cases (Option.some.inj hf)
            exact HJ21
          · have hf := tq_ifn hf cc
            refine tq_aload_n (M := mX11_childAt) (pc := 46) dX11_childAt_46 rfl ?_
            obtain ⟨k8, ek8, hf⟩ := tq_be hf
            refine tq_getR (M := mX11_childAt) (pc := 47) tk_c11 (by decide) dX11_childAt_47 tk_RX11_25 rfl ek8 ?_
            refine tq_iload (M := mX11_childAt) (pc := 50) dX11_childAt_50 rfl ?_
            obtain ⟨x9, ex9, hf⟩ := tq_be hf
            refine tq_ialdF (M := mX11_childAt) (pc := 52) dX11_childAt_52 ex9 ?_
            refine tq_iload_n (M := mX11_childAt) (pc := 53) dX11_childAt_53 rfl ?_
            refine tq_icmp_ne (M := mX11_childAt) (pc := 54) (tgt := 62) dX11_childAt_54 (by decide) (fun cc => ?_) (fun cc => ?_)
            · have hf := tq_ifn hf cc
              refine tq_iload_n (M := mX11_childAt) (pc := 62) dX11_childAt_62 rfl ?_
              refine tq_pick (L2 := [(0, .ref i0), (1, .int i1), (2, .int i2), (4, .int y4)]) [0, 1, 2, 4] rfl ?_
              cases (Option.some.inj hf)
              exact HJ21
            · have hf := tq_ifp hf cc
              refine tq_iload (M := mX11_childAt) (pc := 57) dX11_childAt_57 rfl ?_
              refine tq_goto (M := mX11_childAt) (pc := 59) (tgt := 63) dX11_childAt_59 (by decide) ?_
              refine tq_pick (L2 := [(0, .ref i0), (1, .int i1), (2, .int i2), (4, .int y4)]) [0, 1, 2, 4] rfl ?_
              cases (Option.some.inj hf)
              exact HJ21
set_option maxHeartbeats 4000000 in
set_option maxRecDepth 20000 in
theorem w_X11_childAt {l : Launch} {d : Nat} (hd9 : 0 ≤ d) {t : Nat} {a1 : Int32} {a2 : Int32} {h : tq_H} {o : Int32} {Q : tq_R → tq_H → Prop} (hf : f_X11_childAt t a1 a2 h = some o) (hQ : ∀ r h9, r = .inl (some (.int o)) ∧ h = h9 → Q r h9) : tq_C l yX11_childAt cX11_childAt 5 (some .int) d 0 0 [.ref t, .int a1, .int a2] h Q := by
  refine tq_body (y := yX11_childAt) false (by decide +kernel) (fun z => by cases z) (Nat.le_of_ble_eq_true rfl) ?_
  show tq_W l mX11_childAt d 0 0 Q 0 [(0, .ref t), (1, .int a1), (2, .int a2)] [] h
  refine tq_iconst (M := mX11_childAt) (pc := 0) dX11_childAt_0 tk_ki_m1 ?_
  refine tq_istore_n (M := mX11_childAt) (pc := 1) rfl dX11_childAt_1 (L2 := [(3, .int (-1 : Int32)), (0, .ref t), (1, .int a1), (2, .int a2)]) (by decide) rfl ?_
  refine tq_iconst (M := mX11_childAt) (pc := 2) dX11_childAt_2 tk_ki_0 ?_
  refine tq_istore (M := mX11_childAt) (pc := 3) dX11_childAt_3 (L2 := [(4, .int (0 : Int32)), (3, .int (-1 : Int32)), (0, .ref t), (1, .int a1), (2, .int a2)]) (by decide) rfl ?_
  obtain ⟨o12, eo12, hf⟩ := tq_be hf
  refine tq_pick (L2 := [(0, .ref t), (1, .int a1), (2, .int a2), (3, .int (-1 : Int32)), (4, .int (0 : Int32))]) [2, 3, 4, 1, 0] rfl ?_
  refine l_X11_childAt_5 (by omega) t a1 a2 h _ (-1 : Int32) (0 : Int32) _ eo12 ?_
  refine tq_iload_n (M := mX11_childAt) (pc := 70) dX11_childAt_70 rfl ?_
  refine tq_iret (M := mX11_childAt) (pc := 71) dX11_childAt_71 rfl ?_
  cases (Option.some.inj hf)
  exact hQ _ _ ⟨rfl, rfl⟩
abbrev mX11_arrange : tq_M := (RX11, cX11_arrange, 5, none, false, [], none)
def f_X11_arrange_b16 (i0 : Nat) (i1 : Int32) (s : Int32 × tq_H) : Option ((Int32 × tq_H) ⊕ (tq_H)) := match s with
  | (y2, hh) =>
    if y2 ≥ (60 : Int32) then
      some (.inr hh)
    else
      (tq_gr hh i0 11 13).bind fun k4 =>
      (tq_si hh k4 y2 (-1 : Int32)).bind fun w5 =>
      tq_let (y2 + (1 : Int32)) fun x6 =>
      some (.inl (x6, w5))
def f_X11_arrange_b81 (i0 : Nat) (i1 : Int32) (i2 : Int32) (s : Int32 × tq_H) : Option ((Int32 × tq_H) ⊕ (tq_H)) := match s with
  | (y3, hh) =>
    if y3 ≥ (8 : Int32) then
      some (.inr hh)
    else
      (tq_is hh i0 11).bind fun _ =>
      (f_X11_attributeOf i0 i2 y3 hh).bind fun v19 =>
      (if v19 = (-1 : Int32) then
        some hh
      else
        (tq_gr hh i0 11 12).bind fun k21 =>
        (tq_gi hh i0 11 11).bind fun x22 =>
        (tq_si hh k21 x22 v19).bind fun w23 =>
        (tq_gr w23 i0 11 13).bind fun k24 =>
        (tq_gi w23 i0 11 11).bind fun x25 =>
        (tq_si w23 k24 v19 x25).bind fun w26 =>
        (tq_gi w26 i0 11 11).bind fun x27 =>
        (tq_pf w26 i0 11 11 (.int ((x27 + (1 : Int32))))).bind fun w28 =>
        some w28).bind fun p29 =>
      tq_let (y3 + (1 : Int32)) fun x30 =>
      some (.inl (x30, p29))
def f_X11_arrange_b147 (i0 : Nat) (i2 : Int32) (s : Int32 × Int32 × tq_H) : Option ((Int32 × Int32 × tq_H) ⊕ (Int32 × tq_H)) := match s with
  | (y1, y3, hh) =>
    if y3 < 0 then
      some (.inr (y1, hh))
    else
      (tq_gr hh i0 11 14).bind fun k35 =>
      (tq_is hh i0 11).bind fun _ =>
      (f_X11_childAt i0 i2 y3 hh).bind fun v36 =>
      (tq_si hh k35 y1 v36).bind fun w38 =>
      tq_let (y1 + (1 : Int32)) fun x39 =>
      tq_let (y3 + (-1 : Int32)) fun x40 =>
      some (.inl (x39, x40, w38))
def f_X11_arrange_b35 (i0 : Nat) (s : Int32 × tq_H) : Option ((Int32 × tq_H) ⊕ (tq_H)) := match s with
  | (y1, hh) =>
    if y1 ≤ 0 then
      some (.inr hh)
    else
      tq_let (y1 + (-1 : Int32)) fun x8 =>
      (tq_gr hh i0 11 14).bind fun k9 =>
      (tq_ai hh k9 x8).bind fun x10 =>
      (tq_gr hh i0 11 12).bind fun k11 =>
      (tq_gi hh i0 11 11).bind fun x12 =>
      (tq_si hh k11 x12 x10).bind fun w13 =>
      (tq_gr w13 i0 11 13).bind fun k14 =>
      (tq_gi w13 i0 11 11).bind fun x15 =>
      (tq_si w13 k14 x10 x15).bind fun w16 =>
      (tq_gi w16 i0 11 11).bind fun x17 =>
      (tq_pf w16 i0 11 11 (.int ((x17 + (1 : Int32))))).bind fun w18 =>
      (tq_loop (f_X11_arrange_b81 i0 x8 x10) tq_N ((0 : Int32), w18)).bind fun o31 =>
      (tq_is o31 i0 11).bind fun _ =>
      (f_X11_childCount i0 x10 o31).bind fun v32 =>
      tq_let ((v32 - (1 : Int32))) fun x34 =>
      (tq_loop (f_X11_arrange_b147 i0 x10) tq_N (x8, x34, o31)).bind fun o41 =>
      some (.inl (o41.1, o41.2))
def f_X11_arrange (t : Nat) (h : tq_H) : Option (tq_H) :=
  (tq_pf h t 11 11 (.int (0 : Int32))).bind fun w1 =>
  (tq_gr w1 t 11 14).bind fun k2 =>
  (tq_si w1 k2 (0 : Int32) (0 : Int32)).bind fun w3 =>
  (tq_loop (f_X11_arrange_b16 t (1 : Int32)) tq_N ((0 : Int32), w3)).bind fun o7 =>
  (tq_loop (f_X11_arrange_b35 t) tq_N ((1 : Int32), o7)).bind fun o42 =>
  some o42
set_option maxHeartbeats 4000000 in
theorem l_X11_arrange_16 {l : Launch} {d : Nat} {Q : tq_R → tq_H → Prop} (hd9 : 1 ≤ d) (i0 : Nat) (i1 : Int32) : ∀ (n : Nat) (y2 : Int32) (hh : tq_H) (o : tq_H), tq_loop (f_X11_arrange_b16 i0 i1) n (y2, hh) = some o → tq_W l mX11_arrange d 0 0 Q 35 [(0, .ref i0), (1, .int i1)] [] o → tq_W l mX11_arrange d 0 0 Q 16 [(0, .ref i0), (1, .int i1), (2, .int y2)] [] hh := by
  intro n
  induction n with
  | zero => intro y2 hh o hl; cases hl
  | succ n ih =>
    intro y2 hh o hl hk
    obtain ⟨oo, hf, ho⟩ := tq_loop_s hl
    refine tq_iload_n (M := mX11_arrange) (pc := 16) dX11_arrange_16 rfl ?_
    refine tq_bipush (M := mX11_arrange) (pc := 17) dX11_arrange_17 tk_kb_60 ?_
    refine tq_icmp_ge (M := mX11_arrange) (pc := 19) (tgt := 35) dX11_arrange_19 (by decide) (fun cc => ?_) (fun cc => ?_)
    · have hf := tq_ifp hf cc
      refine tq_pick (L2 := [(0, .ref i0), (1, .int i1)]) [0, 1] rfl ?_
      cases (Option.some.inj hf)
      cases (tq_lx ho)
      exact hk
    · have hf := tq_ifn hf cc
      refine tq_aload_n (M := mX11_arrange) (pc := 22) dX11_arrange_22 rfl ?_
      obtain ⟨k4, ek4, hf⟩ := tq_be hf
      refine tq_getR (M := mX11_arrange) (pc := 23) tk_c11 (by decide) dX11_arrange_23 tk_RX11_38 rfl ek4 ?_
      refine tq_iload_n (M := mX11_arrange) (pc := 26) dX11_arrange_26 rfl ?_
      refine tq_iconst (M := mX11_arrange) (pc := 27) dX11_arrange_27 tk_ki_m1 ?_
      obtain ⟨w5, ew5, hf⟩ := tq_be hf
      refine tq_iastF (M := mX11_arrange) (pc := 28) dX11_arrange_28 ew5 ?_
      obtain ⟨x6, ex6, hf⟩ := tq_le hf
      refine tq_iinc (M := mX11_arrange) (pc := 29) (v := x6) (L2 := [(2, .int x6), (0, .ref i0), (1, .int i1)]) dX11_arrange_29 rfl (by rw [ex6, tk_ki_1]) (by decide) rfl ?_
      refine tq_goto (M := mX11_arrange) (pc := 32) (tgt := 16) dX11_arrange_32 (by decide) ?_
      refine tq_pick (L2 := [(0, .ref i0), (1, .int i1), (2, .int x6)]) [1, 2, 0] rfl ?_
      cases (Option.some.inj hf)
      exact ih _ _ o (tq_lc ho) hk
set_option maxHeartbeats 4000000 in
theorem l_X11_arrange_81 {l : Launch} {d : Nat} {Q : tq_R → tq_H → Prop} (hd9 : 1 ≤ d) (i0 : Nat) (i1 : Int32) (i2 : Int32) : ∀ (n : Nat) (y3 : Int32) (hh : tq_H) (o : tq_H), tq_loop (f_X11_arrange_b81 i0 i1 i2) n (y3, hh) = some o → tq_W l mX11_arrange d 0 0 Q 139 [(0, .ref i0), (1, .int i1), (2, .int i2)] [] o → tq_W l mX11_arrange d 0 0 Q 81 [(0, .ref i0), (1, .int i1), (2, .int i2), (3, .int y3)] [] hh := by
  intro n
  induction n with
  | zero => intro y3 hh o hl; cases hl
  | succ n ih =>
    intro y3 hh o hl hk
    obtain ⟨oo, hf, ho⟩ := tq_loop_s hl
    refine tq_iload_n (M := mX11_arrange) (pc := 81) dX11_arrange_81 rfl ?_
    refine tq_bipush (M := mX11_arrange) (pc := 82) dX11_arrange_82 tk_kb_8 ?_
    refine tq_icmp_ge (M := mX11_arrange) (pc := 84) (tgt := 139) dX11_arrange_84 (by decide) (fun cc => ?_) (fun cc => ?_)
    · have hf := tq_ifp hf cc
      refine tq_pick (L2 := [(0, .ref i0), (1, .int i1), (2, .int i2)]) [0, 1, 2] rfl ?_
      cases (Option.some.inj hf)
      cases (tq_lx ho)
      exact hk
    · have hf := tq_ifn hf cc
      refine tq_aload_n (M := mX11_arrange) (pc := 87) dX11_arrange_87 rfl ?_
      refine tq_iload_n (M := mX11_arrange) (pc := 88) dX11_arrange_88 rfl ?_
      refine tq_iload_n (M := mX11_arrange) (pc := 89) dX11_arrange_89 rfl ?_
      obtain ⟨⟨⟩, eu20, hf⟩ := tq_be hf
      obtain ⟨fsu20, eu20⟩ := tq_is_s eu20
      obtain ⟨v19, ev19, hf⟩ := tq_be hf
      refine tq_calV (M := mX11_arrange) (pc := 90) (S := []) tk_y_X11_attributeOf tk_v_X11_attributeOf tk_RX11_176 dX11_arrange_90 [.int i2, .int y3] rfl (S0 := _) rfl eu20 rfl (Nat.le_of_ble_eq_true rfl) (d1 := d - 1) (b1 := 0) (s1 := 0) (bc' := 0) (bs' := 0) (Q1 := fun r h9 => r = .inl (some (.int v19)) ∧ hh = h9) (by omega) rfl rfl (w_X11_attributeOf (by omega) ev19 (fun _ _ q => q)) (fun E h9 q => nomatch (show (Sum.inr E : tq_R) = Sum.inl _ from q.1)) (fun r9 h9 q => ?_)
      obtain ⟨q1, rfl⟩ := q
      cases (show (Sum.inl r9 : tq_R) = Sum.inl (some (.int v19)) from q1)
      refine tq_istore (M := mX11_arrange) (pc := 93) dX11_arrange_93 (L2 := [(4, .int v19), (0, .ref i0), (1, .int i1), (2, .int i2), (3, .int y3)]) (by decide) rfl ?_
      refine tq_iload (M := mX11_arrange) (pc := 95) dX11_arrange_95 rfl ?_
      refine tq_iconst (M := mX11_arrange) (pc := 97) dX11_arrange_97 tk_ki_m1 ?_
      obtain ⟨p29, ep29, hf⟩ := tq_be hf
      have HJ98 : tq_W l mX11_arrange d 0 0 Q 133 [(0, .ref i0), (1, .int i1), (2, .int i2), (3, .int y3)] [] p29 := by
        obtain ⟨x30, ex30, hf⟩ := tq_le hf
        refine tq_iinc (M := mX11_arrange) (pc := 133) (v := x30) (L2 := [(3, .int x30), (0, .ref i0), (1, .int i1), (2, .int i2)]) dX11_arrange_133 rfl (by rw [ex30, tk_ki_1]) (by decide) rfl ?_
        refine tq_goto (M := mX11_arrange) (pc := 136) (tgt := 81) dX11_arrange_136 (by decide) ?_
        refine tq_pick (L2 := [(0, .ref i0), (1, .int i1), (2, .int i2), (3, .int x30)]) [1, 2, 3, 0] rfl ?_
        cases (Option.some.inj hf)
        exact ih _ _ o (tq_lc ho) hk
      refine tq_icmp_eq (M := mX11_arrange) (pc := 98) (tgt := 133) dX11_arrange_98 (by decide) (fun cc => ?_) (fun cc => ?_)
      · have hf := tq_ifp ep29 cc
        refine tq_pick (L2 := [(0, .ref i0), (1, .int i1), (2, .int i2), (3, .int y3)]) [1, 2, 3, 4] rfl ?_
        cases (Option.some.inj hf)
        exact HJ98
      · have hf := tq_ifn ep29 cc
        refine tq_aload_n (M := mX11_arrange) (pc := 101) dX11_arrange_101 rfl ?_
        obtain ⟨k21, ek21, hf⟩ := tq_be hf
        refine tq_getR (M := mX11_arrange) (pc := 102) tk_c11 (by decide) dX11_arrange_102 tk_RX11_35 rfl ek21 ?_
        refine tq_aload_n (M := mX11_arrange) (pc := 105) dX11_arrange_105 rfl ?_
        obtain ⟨x22, ex22, hf⟩ := tq_be hf
        refine tq_getI (M := mX11_arrange) (pc := 106) tk_c11 (by decide) dX11_arrange_106 tk_RX11_173 rfl ex22 ?_
        refine tq_iload (M := mX11_arrange) (pc := 109) dX11_arrange_109 rfl ?_
        obtain ⟨w23, ew23, hf⟩ := tq_be hf
        refine tq_iastF (M := mX11_arrange) (pc := 111) dX11_arrange_111 ew23 ?_
        refine tq_aload_n (M := mX11_arrange) (pc := 112) dX11_arrange_112 rfl ?_
        obtain ⟨k24, ek24, hf⟩ := tq_be hf
        refine tq_getR (M := mX11_arrange) (pc := 113) tk_c11 (by decide) dX11_arrange_113 tk_RX11_38 rfl ek24 ?_
        refine tq_iload (M := mX11_arrange) (pc := 116) dX11_arrange_116 rfl ?_
        refine tq_aload_n (M := mX11_arrange) (pc := 118) dX11_arrange_118 rfl ?_
        obtain ⟨x25, ex25, hf⟩ := tq_be hf
        refine tq_getI (M := mX11_arrange) (pc := 119) tk_c11 (by decide) dX11_arrange_119 tk_RX11_173 rfl ex25 ?_
        obtain ⟨w26, ew26, hf⟩ := tq_be hf
        refine tq_iastF (M := mX11_arrange) (pc := 122) dX11_arrange_122 ew26 ?_
        refine tq_aload_n (M := mX11_arrange) (pc := 123) dX11_arrange_123 rfl ?_
        refine tq_dup (M := mX11_arrange) (pc := 124) dX11_arrange_124 rfl ?_
        obtain ⟨x27, ex27, hf⟩ := tq_be hf
        refine tq_getI (M := mX11_arrange) (pc := 125) tk_c11 (by decide) dX11_arrange_125 tk_RX11_173 rfl ex27 ?_
        refine tq_iconst (M := mX11_arrange) (pc := 128) dX11_arrange_128 tk_ki_1 ?_
        refine tq_iadd (M := mX11_arrange) (pc := 129) dX11_arrange_129 ?_
        obtain ⟨w28, ew28, hf⟩ := tq_be hf
        refine tq_putv (M := mX11_arrange) (pc := 130) tk_c11 (by decide) dX11_arrange_130 tk_RX11_173 rfl (Or.inl rfl) ew28 (tq_nI _) ?_
        refine tq_pick (L2 := [(0, .ref i0), (1, .int i1), (2, .int i2), (3, .int y3)]) [1, 2, 3, 4] rfl ?_
        cases (Option.some.inj hf)
        exact HJ98
set_option maxHeartbeats 4000000 in
theorem l_X11_arrange_147 {l : Launch} {d : Nat} {Q : tq_R → tq_H → Prop} (hd9 : 1 ≤ d) (i0 : Nat) (i2 : Int32) : ∀ (n : Nat) (y1 : Int32) (y3 : Int32) (hh : tq_H) (o : Int32 × tq_H), tq_loop (f_X11_arrange_b147 i0 i2) n (y1, y3, hh) = some o → tq_W l mX11_arrange d 0 0 Q 172 [(0, .ref i0), (1, .int o.1)] [] o.2 → tq_W l mX11_arrange d 0 0 Q 147 [(0, .ref i0), (1, .int y1), (2, .int i2), (3, .int y3)] [] hh := by
  intro n
  induction n with
  | zero => intro y1 y3 hh o hl; cases hl
  | succ n ih =>
    intro y1 y3 hh o hl hk
    obtain ⟨oo, hf, ho⟩ := tq_loop_s hl
    refine tq_iload_n (M := mX11_arrange) (pc := 147) dX11_arrange_147 rfl ?_
    refine tq_if_lt (M := mX11_arrange) (pc := 148) (tgt := 172) dX11_arrange_148 (by decide) (fun cc => ?_) (fun cc => ?_)
    · have hf := tq_ifp hf cc
      refine tq_pick (L2 := [(0, .ref i0), (1, .int y1)]) [0, 1] rfl ?_
      cases (Option.some.inj hf)
      cases (tq_lx ho)
      exact hk
    · have hf := tq_ifn hf cc
      refine tq_aload_n (M := mX11_arrange) (pc := 151) dX11_arrange_151 rfl ?_
      obtain ⟨k35, ek35, hf⟩ := tq_be hf
      refine tq_getR (M := mX11_arrange) (pc := 152) tk_c11 (by decide) dX11_arrange_152 tk_RX11_41 rfl ek35 ?_
      refine tq_iload_n (M := mX11_arrange) (pc := 155) dX11_arrange_155 rfl ?_
      refine tq_aload_n (M := mX11_arrange) (pc := 156) dX11_arrange_156 rfl ?_
      refine tq_iload_n (M := mX11_arrange) (pc := 157) dX11_arrange_157 rfl ?_
      refine tq_iload_n (M := mX11_arrange) (pc := 158) dX11_arrange_158 rfl ?_
      obtain ⟨⟨⟩, eu37, hf⟩ := tq_be hf
      obtain ⟨fsu37, eu37⟩ := tq_is_s eu37
      obtain ⟨v36, ev36, hf⟩ := tq_be hf
      refine tq_calV (M := mX11_arrange) (pc := 159) (S := [.int y1, .ref k35]) tk_y_X11_childAt tk_v_X11_childAt tk_RX11_184 dX11_arrange_159 [.int i2, .int y3] rfl (S0 := _) rfl eu37 rfl (Nat.le_of_ble_eq_true rfl) (d1 := d - 1) (b1 := 0) (s1 := 0) (bc' := 0) (bs' := 0) (Q1 := fun r h9 => r = .inl (some (.int v36)) ∧ hh = h9) (by omega) rfl rfl (w_X11_childAt (by omega) ev36 (fun _ _ q => q)) (fun E h9 q => nomatch (show (Sum.inr E : tq_R) = Sum.inl _ from q.1)) (fun r9 h9 q => ?_)
      obtain ⟨q1, rfl⟩ := q
      cases (show (Sum.inl r9 : tq_R) = Sum.inl (some (.int v36)) from q1)
      obtain ⟨w38, ew38, hf⟩ := tq_be hf
      refine tq_iastF (M := mX11_arrange) (pc := 162) dX11_arrange_162 ew38 ?_
      obtain ⟨x39, ex39, hf⟩ := tq_le hf
      refine tq_iinc (M := mX11_arrange) (pc := 163) (v := x39) (L2 := [(1, .int x39), (0, .ref i0), (2, .int i2), (3, .int y3)]) dX11_arrange_163 rfl (by rw [ex39, tk_ki_1]) (by decide) rfl ?_
      obtain ⟨x40, ex40, hf⟩ := tq_le hf
      refine tq_iinc (M := mX11_arrange) (pc := 166) (v := x40) (L2 := [(3, .int x40), (1, .int x39), (0, .ref i0), (2, .int i2)]) dX11_arrange_166 rfl (by rw [ex40, tk_ki_m1]) (by decide) rfl ?_
      refine tq_goto (M := mX11_arrange) (pc := 169) (tgt := 147) dX11_arrange_169 (by decide) ?_
      refine tq_pick (L2 := [(0, .ref i0), (1, .int x39), (2, .int i2), (3, .int x40)]) [2, 1, 3, 0] rfl ?_
      cases (Option.some.inj hf)
      exact ih _ _ _ o (tq_lc ho) hk
set_option maxHeartbeats 4000000 in
theorem l_X11_arrange_35 {l : Launch} {d : Nat} {Q : tq_R → tq_H → Prop} (hd9 : 1 ≤ d) (i0 : Nat) : ∀ (n : Nat) (y1 : Int32) (hh : tq_H) (o : tq_H), tq_loop (f_X11_arrange_b35 i0) n (y1, hh) = some o → tq_W l mX11_arrange d 0 0 Q 175 [] [] o → tq_W l mX11_arrange d 0 0 Q 35 [(0, .ref i0), (1, .int y1)] [] hh := by
  intro n
  induction n with
  | zero => intro y1 hh o hl; cases hl
  | succ n ih =>
    intro y1 hh o hl hk
    obtain ⟨oo, hf, ho⟩ := tq_loop_s hl
    refine tq_iload_n (M := mX11_arrange) (pc := 35) dX11_arrange_35 rfl ?_
    refine tq_if_le (M := mX11_arrange) (pc := 36) (tgt := 175) dX11_arrange_36 (by decide) (fun cc => ?_) (fun cc => ?_)
    · have hf := tq_ifp hf cc
      refine tq_pick (L2 := []) [] rfl ?_
      cases (Option.some.inj hf)
      cases (tq_lx ho)
      exact hk
    · have hf := tq_ifn hf cc
      obtain ⟨x8, ex8, hf⟩ := tq_le hf
      refine tq_iinc (M := mX11_arrange) (pc := 39) (v := x8) (L2 := [(1, .int x8), (0, .ref i0)]) dX11_arrange_39 rfl (by rw [ex8, tk_ki_m1]) (by decide) rfl ?_
      refine tq_aload_n (M := mX11_arrange) (pc := 42) dX11_arrange_42 rfl ?_
      obtain ⟨k9, ek9, hf⟩ := tq_be hf
      refine tq_getR (M := mX11_arrange) (pc := 43) tk_c11 (by decide) dX11_arrange_43 tk_RX11_41 rfl ek9 ?_
      refine tq_iload_n (M := mX11_arrange) (pc := 46) dX11_arrange_46 rfl ?_
      obtain ⟨x10, ex10, hf⟩ := tq_be hf
      refine tq_ialdF (M := mX11_arrange) (pc := 47) dX11_arrange_47 ex10 ?_
      refine tq_istore_n (M := mX11_arrange) (pc := 48) rfl dX11_arrange_48 (L2 := [(2, .int x10), (1, .int x8), (0, .ref i0)]) (by decide) rfl ?_
      refine tq_aload_n (M := mX11_arrange) (pc := 49) dX11_arrange_49 rfl ?_
      obtain ⟨k11, ek11, hf⟩ := tq_be hf
      refine tq_getR (M := mX11_arrange) (pc := 50) tk_c11 (by decide) dX11_arrange_50 tk_RX11_35 rfl ek11 ?_
      refine tq_aload_n (M := mX11_arrange) (pc := 53) dX11_arrange_53 rfl ?_
      obtain ⟨x12, ex12, hf⟩ := tq_be hf
      refine tq_getI (M := mX11_arrange) (pc := 54) tk_c11 (by decide) dX11_arrange_54 tk_RX11_173 rfl ex12 ?_
      refine tq_iload_n (M := mX11_arrange) (pc := 57) dX11_arrange_57 rfl ?_
      obtain ⟨w13, ew13, hf⟩ := tq_be hf
      refine tq_iastF (M := mX11_arrange) (pc := 58) dX11_arrange_58 ew13 ?_
      refine tq_aload_n (M := mX11_arrange) (pc := 59) dX11_arrange_59 rfl ?_
      obtain ⟨k14, ek14, hf⟩ := tq_be hf
      refine tq_getR (M := mX11_arrange) (pc := 60) tk_c11 (by decide) dX11_arrange_60 tk_RX11_38 rfl ek14 ?_
      refine tq_iload_n (M := mX11_arrange) (pc := 63) dX11_arrange_63 rfl ?_
      refine tq_aload_n (M := mX11_arrange) (pc := 64) dX11_arrange_64 rfl ?_
      obtain ⟨x15, ex15, hf⟩ := tq_be hf
      refine tq_getI (M := mX11_arrange) (pc := 65) tk_c11 (by decide) dX11_arrange_65 tk_RX11_173 rfl ex15 ?_
      obtain ⟨w16, ew16, hf⟩ := tq_be hf
      refine tq_iastF (M := mX11_arrange) (pc := 68) dX11_arrange_68 ew16 ?_
      refine tq_aload_n (M := mX11_arrange) (pc := 69) dX11_arrange_69 rfl ?_
      refine tq_dup (M := mX11_arrange) (pc := 70) dX11_arrange_70 rfl ?_
      obtain ⟨x17, ex17, hf⟩ := tq_be hf
      refine tq_getI (M := mX11_arrange) (pc := 71) tk_c11 (by decide) dX11_arrange_71 tk_RX11_173 rfl ex17 ?_
      refine tq_iconst (M := mX11_arrange) (pc := 74) dX11_arrange_74 tk_ki_1 ?_
      refine tq_iadd (M := mX11_arrange) (pc := 75) dX11_arrange_75 ?_
      obtain ⟨w18, ew18, hf⟩ := tq_be hf
      refine tq_putv (M := mX11_arrange) (pc := 76) tk_c11 (by decide) dX11_arrange_76 tk_RX11_173 rfl (Or.inl rfl) ew18 (tq_nI _) ?_
      refine tq_iconst (M := mX11_arrange) (pc := 79) dX11_arrange_79 tk_ki_0 ?_
      refine tq_istore_n (M := mX11_arrange) (pc := 80) rfl dX11_arrange_80 (L2 := [(3, .int (0 : Int32)), (2, .int x10), (1, .int x8), (0, .ref i0)]) (by decide) rfl ?_
      obtain ⟨o31, eo31, hf⟩ := tq_be hf
      refine tq_pick (L2 := [(0, .ref i0), (1, .int x8), (2, .int x10), (3, .int (0 : Int32))]) [3, 2, 1, 0] rfl ?_
      refine l_X11_arrange_81 (by omega) i0 x8 x10 _ (0 : Int32) w18 _ eo31 ?_
      refine tq_aload_n (M := mX11_arrange) (pc := 139) dX11_arrange_139 rfl ?_
      refine tq_iload_n (M := mX11_arrange) (pc := 140) dX11_arrange_140 rfl ?_
      obtain ⟨⟨⟩, eu33, hf⟩ := tq_be hf
      obtain ⟨fsu33, eu33⟩ := tq_is_s eu33
      obtain ⟨v32, ev32, hf⟩ := tq_be hf
      refine tq_calV (M := mX11_arrange) (pc := 141) (S := []) tk_y_X11_childCount tk_v_X11_childCount tk_RX11_180 dX11_arrange_141 [.int x10] rfl (S0 := _) rfl eu33 rfl (Nat.le_of_ble_eq_true rfl) (d1 := d - 1) (b1 := 0) (s1 := 0) (bc' := 0) (bs' := 0) (Q1 := fun r h9 => r = .inl (some (.int v32)) ∧ o31 = h9) (by omega) rfl rfl (w_X11_childCount (by omega) ev32 (fun _ _ q => q)) (fun E h9 q => nomatch (show (Sum.inr E : tq_R) = Sum.inl _ from q.1)) (fun r9 h9 q => ?_)
      obtain ⟨q1, rfl⟩ := q
      cases (show (Sum.inl r9 : tq_R) = Sum.inl (some (.int v32)) from q1)
      refine tq_iconst (M := mX11_arrange) (pc := 144) dX11_arrange_144 tk_ki_1 ?_
      refine tq_isub (M := mX11_arrange) (pc := 145) dX11_arrange_145 ?_
      obtain ⟨x34, ex34, hf⟩ := tq_le hf
      refine tq_istore_n (M := mX11_arrange) (pc := 146) rfl dX11_arrange_146 (L2 := [(3, .int x34), (0, .ref i0), (1, .int x8), (2, .int x10)]) (by decide) (by rw [ex34]; rfl) ?_
      obtain ⟨o41, eo41, hf⟩ := tq_be hf
      refine tq_pick (L2 := [(0, .ref i0), (1, .int x8), (2, .int x10), (3, .int x34)]) [1, 2, 3, 0] rfl ?_
      refine l_X11_arrange_147 (by omega) i0 x10 _ x8 x34 o31 _ eo41 ?_
      refine tq_goto (M := mX11_arrange) (pc := 172) (tgt := 35) dX11_arrange_172 (by decide) ?_
      cases (Option.some.inj hf)
      exact ih _ _ o (tq_lc ho) hk
set_option maxHeartbeats 4000000 in
set_option maxRecDepth 20000 in
theorem w_X11_arrange {l : Launch} {d : Nat} (hd9 : 1 ≤ d) {t : Nat} {h : tq_H} {o : tq_H} {Q : tq_R → tq_H → Prop} (hf : f_X11_arrange t h = some o) (hQ : ∀ r h9, r = .inl none ∧ o = h9 → Q r h9) : tq_C l yX11_arrange cX11_arrange 5 none d 0 0 [.ref t] h Q := by
  refine tq_body (y := yX11_arrange) false (by decide +kernel) (fun z => by cases z) (Nat.le_of_ble_eq_true rfl) ?_
  show tq_W l mX11_arrange d 0 0 Q 0 [(0, .ref t)] [] h
  refine tq_aload_n (M := mX11_arrange) (pc := 0) dX11_arrange_0 rfl ?_
  refine tq_iconst (M := mX11_arrange) (pc := 1) dX11_arrange_1 tk_ki_0 ?_
  obtain ⟨w1, ew1, hf⟩ := tq_be hf
  refine tq_putv (M := mX11_arrange) (pc := 2) tk_c11 (by decide) dX11_arrange_2 tk_RX11_173 rfl (Or.inl rfl) ew1 (tq_nI _) ?_
  refine tq_iconst (M := mX11_arrange) (pc := 5) dX11_arrange_5 tk_ki_1 ?_
  refine tq_istore_n (M := mX11_arrange) (pc := 6) rfl dX11_arrange_6 (L2 := [(1, .int (1 : Int32)), (0, .ref t)]) (by decide) rfl ?_
  refine tq_aload_n (M := mX11_arrange) (pc := 7) dX11_arrange_7 rfl ?_
  obtain ⟨k2, ek2, hf⟩ := tq_be hf
  refine tq_getR (M := mX11_arrange) (pc := 8) tk_c11 (by decide) dX11_arrange_8 tk_RX11_41 rfl ek2 ?_
  refine tq_iconst (M := mX11_arrange) (pc := 11) dX11_arrange_11 tk_ki_0 ?_
  refine tq_iconst (M := mX11_arrange) (pc := 12) dX11_arrange_12 tk_ki_0 ?_
  obtain ⟨w3, ew3, hf⟩ := tq_be hf
  refine tq_iastF (M := mX11_arrange) (pc := 13) dX11_arrange_13 ew3 ?_
  refine tq_iconst (M := mX11_arrange) (pc := 14) dX11_arrange_14 tk_ki_0 ?_
  refine tq_istore_n (M := mX11_arrange) (pc := 15) rfl dX11_arrange_15 (L2 := [(2, .int (0 : Int32)), (1, .int (1 : Int32)), (0, .ref t)]) (by decide) rfl ?_
  obtain ⟨o7, eo7, hf⟩ := tq_be hf
  refine tq_pick (L2 := [(0, .ref t), (1, .int (1 : Int32)), (2, .int (0 : Int32))]) [2, 1, 0] rfl ?_
  refine l_X11_arrange_16 (by omega) t (1 : Int32) _ (0 : Int32) w3 _ eo7 ?_
  obtain ⟨o42, eo42, hf⟩ := tq_be hf
  refine l_X11_arrange_35 (by omega) t _ (1 : Int32) o7 _ eo42 ?_
  refine tq_vret (M := mX11_arrange) (pc := 175) dX11_arrange_175 rfl ?_
  cases (Option.some.inj hf)
  exact hQ _ _ ⟨rfl, rfl⟩
abbrev mX11_init : tq_M := (RX11, cX11_init, 2, none, true, [], none)
def f_X11_init_b456 (i0 : Nat) (s : Int32 × tq_H) : Option ((Int32 × tq_H) ⊕ (tq_H)) := match s with
  | (y1, hh) =>
    if y1 ≥ (6 : Int32) then
      some (.inr hh)
    else
      (tq_gr hh i0 11 36).bind fun k112 =>
      (tq_si hh k112 y1 (-1 : Int32)).bind fun w113 =>
      (tq_gr w113 i0 11 39).bind fun k114 =>
      (tq_si w113 k114 y1 (1 : Int32)).bind fun w115 =>
      tq_let (y1 + (1 : Int32)) fun x116 =>
      some (.inl (x116, w115))
def f_X11_init (t : Nat) (h : tq_H) : Option (tq_H) :=
  tq_let (tq_new h (.inr (0, (60, .inl (fun _ => 0))))) fun w1 =>
  (tq_pf w1 t 11 2 (.ref h.1)).bind fun w2 =>
  tq_let (tq_new w2 (.inr (0, (60, .inl (fun _ => 0))))) fun w3 =>
  (tq_pf w3 t 11 3 (.ref w2.1)).bind fun w4 =>
  tq_let (tq_new w4 (.inr (0, (60, .inl (fun _ => 0))))) fun w5 =>
  (tq_pf w5 t 11 4 (.ref w4.1)).bind fun w6 =>
  tq_let (tq_new w6 (.inr (0, (60, .inl (fun _ => 0))))) fun w7 =>
  (tq_pf w7 t 11 5 (.ref w6.1)).bind fun w8 =>
  tq_let (tq_new w8 (.inr (0, (60, .inl (fun _ => 0))))) fun w9 =>
  (tq_pf w9 t 11 6 (.ref w8.1)).bind fun w10 =>
  tq_let (tq_new w10 (.inr (0, (60, .inl (fun _ => 0))))) fun w11 =>
  (tq_pf w11 t 11 7 (.ref w10.1)).bind fun w12 =>
  tq_let (tq_new w12 (.inr (0, (60, .inl (fun _ => 0))))) fun w13 =>
  (tq_pf w13 t 11 8 (.ref w12.1)).bind fun w14 =>
  tq_let (tq_new w14 (.inr (1, (60, .inl (fun _ => 0))))) fun w15 =>
  (tq_pf w15 t 11 9 (.ref w14.1)).bind fun w16 =>
  tq_let (tq_new w16 (.inr (0, (60, .inl (fun _ => 0))))) fun w17 =>
  (tq_pf w17 t 11 12 (.ref w16.1)).bind fun w18 =>
  tq_let (tq_new w18 (.inr (0, (60, .inl (fun _ => 0))))) fun w19 =>
  (tq_pf w19 t 11 13 (.ref w18.1)).bind fun w20 =>
  tq_let (tq_new w20 (.inr (0, (64, .inl (fun _ => 0))))) fun w21 =>
  (tq_pf w21 t 11 14 (.ref w20.1)).bind fun w22 =>
  tq_let (tq_new w22 (.inr (0, (140, .inl (fun _ => 0))))) fun w23 =>
  (tq_pf w23 t 11 16 (.ref w22.1)).bind fun w24 =>
  tq_let (tq_new w24 (.inr (0, (60, .inl (fun _ => 0))))) fun w25 =>
  (tq_pf w25 t 11 17 (.ref w24.1)).bind fun w26 =>
  tq_let (tq_new w26 (.inr (0, (60, .inl (fun _ => 0))))) fun w27 =>
  (tq_pf w27 t 11 18 (.ref w26.1)).bind fun w28 =>
  tq_let (tq_new w28 (.inr (0, (60, .inl (fun _ => 0))))) fun w29 =>
  (tq_pf w29 t 11 19 (.ref w28.1)).bind fun w30 =>
  tq_let (tq_new w30 (.inr (0, (60, .inl (fun _ => 0))))) fun w31 =>
  (tq_pf w31 t 11 20 (.ref w30.1)).bind fun w32 =>
  tq_let (tq_new w32 (.inr (0, (60, .inl (fun _ => 0))))) fun w33 =>
  (tq_pf w33 t 11 21 (.ref w32.1)).bind fun w34 =>
  tq_let (tq_new w34 (.inr (1, (60, .inl (fun _ => 0))))) fun w35 =>
  (tq_pf w35 t 11 22 (.ref w34.1)).bind fun w36 =>
  tq_let (tq_new w36 (.inr (1, (60, .inl (fun _ => 0))))) fun w37 =>
  (tq_pf w37 t 11 23 (.ref w36.1)).bind fun w38 =>
  tq_let (tq_new w38 (.inr (0, (20, .inl (fun _ => 0))))) fun w39 =>
  (tq_pf w39 t 11 25 (.ref w38.1)).bind fun w40 =>
  tq_let (tq_new w40 (.inr (0, (300, .inl (fun _ => 0))))) fun w41 =>
  (tq_pf w41 t 11 26 (.ref w40.1)).bind fun w42 =>
  tq_let (tq_new w42 (.inr (0, (100, .inl (fun _ => 0))))) fun w43 =>
  (tq_pf w43 t 11 27 (.ref w42.1)).bind fun w44 =>
  tq_let (tq_new w44 (.inr (0, (800, .inl (fun _ => 0))))) fun w45 =>
  (tq_pf w45 t 11 28 (.ref w44.1)).bind fun w46 =>
  tq_let (tq_new w46 (.inr (2, (1200, .inr (.inl (fun _ => 0)))))) fun w47 =>
  (tq_pf w47 t 11 29 (.ref w46.1)).bind fun w48 =>
  tq_let (tq_new w48 (.inr (2, (300, .inr (.inl (fun _ => 0)))))) fun w49 =>
  (tq_pf w49 t 11 30 (.ref w48.1)).bind fun w50 =>
  tq_let (tq_new w50 (.inr (0, (3, .inl (fun _ => 0))))) fun w51 =>
  (tq_pf w51 t 11 34 (.ref w50.1)).bind fun w52 =>
  tq_let (tq_new w52 (.inr (0, (60, .inl (fun _ => 0))))) fun w53 =>
  (tq_pf w53 t 11 35 (.ref w52.1)).bind fun w54 =>
  tq_let (tq_new w54 (.inr (0, (6, .inl (fun _ => 0))))) fun w55 =>
  (tq_pf w55 t 11 36 (.ref w54.1)).bind fun w56 =>
  tq_let (tq_new w56 (.inr (1, (6, .inl (fun _ => 0))))) fun w57 =>
  (tq_pf w57 t 11 37 (.ref w56.1)).bind fun w58 =>
  tq_let (tq_new w58 (.inr (0, (48, .inl (fun _ => 0))))) fun w59 =>
  (tq_pf w59 t 11 38 (.ref w58.1)).bind fun w60 =>
  tq_let (tq_new w60 (.inr (0, (6, .inl (fun _ => 0))))) fun w61 =>
  (tq_pf w61 t 11 39 (.ref w60.1)).bind fun w62 =>
  tq_let (tq_new w62 (.inr (0, (144, .inl (fun _ => 0))))) fun w63 =>
  (tq_pf w63 t 11 40 (.ref w62.1)).bind fun w64 =>
  tq_let (tq_new w64 (.inr (0, (60, .inl (fun _ => 0))))) fun w65 =>
  (tq_pf w65 t 11 41 (.ref w64.1)).bind fun w66 =>
  tq_let (tq_new w66 (.inr (0, (5120, .inl (fun _ => 0))))) fun w67 =>
  (tq_pf w67 t 11 43 (.ref w66.1)).bind fun w68 =>
  tq_let (tq_new w68 (.inr (1, (8, .inl (fun _ => 0))))) fun w69 =>
  (tq_pf w69 t 11 44 (.ref w68.1)).bind fun w70 =>
  tq_let (tq_new w70 (.inr (0, (5, .inl (fun _ => 0))))) fun w71 =>
  (tq_pf w71 t 11 46 (.ref w70.1)).bind fun w72 =>
  tq_let (tq_new w72 (.inr (0, (5, .inl (fun _ => 0))))) fun w73 =>
  (tq_pf w73 t 11 47 (.ref w72.1)).bind fun w74 =>
  tq_let (tq_new w74 (.inr (2, (5, .inr (.inl (fun _ => 0)))))) fun w75 =>
  (tq_pf w75 t 11 48 (.ref w74.1)).bind fun w76 =>
  tq_let (tq_new w76 (.inr (1, (360, .inl (fun _ => 0))))) fun w77 =>
  (tq_pf w77 t 11 50 (.ref w76.1)).bind fun w78 =>
  tq_let (tq_new w78 (.inr (0, (360, .inl (fun _ => 0))))) fun w79 =>
  (tq_pf w79 t 11 51 (.ref w78.1)).bind fun w80 =>
  tq_let (tq_new w80 (.inr (0, (360, .inl (fun _ => 0))))) fun w81 =>
  (tq_pf w81 t 11 52 (.ref w80.1)).bind fun w82 =>
  tq_let (tq_new w82 (.inr (0, (360, .inl (fun _ => 0))))) fun w83 =>
  (tq_pf w83 t 11 53 (.ref w82.1)).bind fun w84 =>
  tq_let (tq_new w84 (.inr (0, (360, .inl (fun _ => 0))))) fun w85 =>
  (tq_pf w85 t 11 54 (.ref w84.1)).bind fun w86 =>
  tq_let (tq_new w86 (.inr (0, (360, .inl (fun _ => 0))))) fun w87 =>
  (tq_pf w87 t 11 55 (.ref w86.1)).bind fun w88 =>
  tq_let (tq_new w88 (.inr (0, (2, .inl (fun _ => 0))))) fun w89 =>
  (tq_pf w89 t 11 56 (.ref w88.1)).bind fun w90 =>
  tq_let (tq_new w90 (.inr (0, (122, .inl (fun _ => 0))))) fun w91 =>
  (tq_pf w91 t 11 57 (.ref w90.1)).bind fun w92 =>
  tq_let (tq_new w92 (.inr (0, (122, .inl (fun _ => 0))))) fun w93 =>
  (tq_pf w93 t 11 58 (.ref w92.1)).bind fun w94 =>
  tq_let (tq_new w94 (.inr (0, (3721, .inl (fun _ => 0))))) fun w95 =>
  (tq_pf w95 t 11 59 (.ref w94.1)).bind fun w96 =>
  tq_let (tq_new w96 (.inr (0, (3721, .inl (fun _ => 0))))) fun w97 =>
  (tq_pf w97 t 11 60 (.ref w96.1)).bind fun w98 =>
  (tq_pf w98 t 11 1 (.int (1 : Int32))).bind fun w99 =>
  (tq_gr w99 t 11 9).bind fun k100 =>
  (tq_sz w99 k100 (0 : Int32) (1 : Int32)).bind fun w101 =>
  (tq_gr w101 t 11 2).bind fun k102 =>
  (tq_si w101 k102 (0 : Int32) (0 : Int32)).bind fun w103 =>
  (tq_gr w103 t 11 4).bind fun k104 =>
  (tq_si w103 k104 (0 : Int32) (-1 : Int32)).bind fun w105 =>
  (tq_gr w105 t 11 5).bind fun k106 =>
  (tq_si w105 k106 (0 : Int32) (-1 : Int32)).bind fun w107 =>
  (tq_gr w107 t 11 6).bind fun k108 =>
  (tq_si w107 k108 (0 : Int32) (-1 : Int32)).bind fun w109 =>
  (tq_gr w109 t 11 8).bind fun k110 =>
  (tq_si w109 k110 (0 : Int32) (16 : Int32)).bind fun w111 =>
  (tq_loop (f_X11_init_b456 t) tq_N ((0 : Int32), w111)).bind fun o117 =>
  (tq_is o117 t 11).bind fun _ =>
  (f_X11_arrange t o117).bind fun v118 =>
  some v118
set_option maxHeartbeats 4000000 in
theorem l_X11_init_456 {l : Launch} {d : Nat} {Q : tq_R → tq_H → Prop} (hd9 : 2 ≤ d) (i0 : Nat) : ∀ (n : Nat) (y1 : Int32) (hh : tq_H) (o : tq_H), tq_loop (f_X11_init_b456 i0) n (y1, hh) = some o → tq_W l mX11_init d 0 0 Q 482 [(0, .ref i0)] [] o → tq_W l mX11_init d 0 0 Q 456 [(0, .ref i0), (1, .int y1)] [] hh := by
  intro n
  induction n with
  | zero => intro y1 hh o hl; cases hl
  | succ n ih =>
    intro y1 hh o hl hk
    obtain ⟨oo, hf, ho⟩ := tq_loop_s hl
    refine tq_iload_n (M := mX11_init) (pc := 456) dX11_init_456 rfl ?_
    refine tq_bipush (M := mX11_init) (pc := 457) dX11_init_457 tk_kb_6 ?_
    refine tq_icmp_ge (M := mX11_init) (pc := 459) (tgt := 482) dX11_init_459 (by decide) (fun cc => ?_) (fun cc => ?_)
    · have hf := tq_ifp hf cc
      refine tq_pick (L2 := [(0, .ref i0)]) [0] rfl ?_
      cases (Option.some.inj hf)
      cases (tq_lx ho)
      exact hk
    · have hf := tq_ifn hf cc
      refine tq_aload_n (M := mX11_init) (pc := 462) dX11_init_462 rfl ?_
      obtain ⟨k112, ek112, hf⟩ := tq_be hf
      refine tq_getR (M := mX11_init) (pc := 463) tk_c11 (by decide) dX11_init_463 tk_RX11_93 rfl ek112 ?_
      refine tq_iload_n (M := mX11_init) (pc := 466) dX11_init_466 rfl ?_
      refine tq_iconst (M := mX11_init) (pc := 467) dX11_init_467 tk_ki_m1 ?_
      obtain ⟨w113, ew113, hf⟩ := tq_be hf
      refine tq_iastF (M := mX11_init) (pc := 468) dX11_init_468 ew113 ?_
      refine tq_aload_n (M := mX11_init) (pc := 469) dX11_init_469 rfl ?_
      obtain ⟨k114, ek114, hf⟩ := tq_be hf
      refine tq_getR (M := mX11_init) (pc := 470) tk_c11 (by decide) dX11_init_470 tk_RX11_102 rfl ek114 ?_
      refine tq_iload_n (M := mX11_init) (pc := 473) dX11_init_473 rfl ?_
      refine tq_iconst (M := mX11_init) (pc := 474) dX11_init_474 tk_ki_1 ?_
      obtain ⟨w115, ew115, hf⟩ := tq_be hf
      refine tq_iastF (M := mX11_init) (pc := 475) dX11_init_475 ew115 ?_
      obtain ⟨x116, ex116, hf⟩ := tq_le hf
      refine tq_iinc (M := mX11_init) (pc := 476) (v := x116) (L2 := [(1, .int x116), (0, .ref i0)]) dX11_init_476 rfl (by rw [ex116, tk_ki_1]) (by decide) rfl ?_
      refine tq_goto (M := mX11_init) (pc := 479) (tgt := 456) dX11_init_479 (by decide) ?_
      refine tq_pick (L2 := [(0, .ref i0), (1, .int x116)]) [1, 0] rfl ?_
      cases (Option.some.inj hf)
      exact ih _ _ o (tq_lc ho) hk
set_option maxHeartbeats 4000000 in
set_option maxRecDepth 20000 in
theorem w_X11_init {l : Launch} {d : Nat} (hd9 : 2 ≤ d) {t : Nat} {h : tq_H} {o : tq_H} {Q : tq_R → tq_H → Prop} (hf : f_X11_init t h = some o) (hQ : ∀ r h9, r = .inl none ∧ o = h9 → Q r h9) : tq_C l yX11_init cX11_init 2 none d 49 19268 [.ref t] h Q := by
  refine tq_body (y := yX11_init) true (by decide +kernel) (fun _ => rfl) (Nat.le_of_ble_eq_true rfl) ?_
  show tq_W l mX11_init d 49 19268 Q 0 [(0, .ref t)] [] h
  refine tq_aload_n (M := mX11_init) (pc := 0) dX11_init_0 rfl ?_
  refine tq_objinit (M := mX11_init) (pc := 1) dX11_init_1 tk_RX11_1 tk_oi tk_oc (by omega) (Nat.le_of_ble_eq_true rfl) ?_
  refine tq_aload_n (M := mX11_init) (pc := 4) dX11_init_4 rfl ?_
  refine tq_bipush (M := mX11_init) (pc := 5) dX11_init_5 tk_kb_60 ?_
  obtain ⟨w1, ew1, hf⟩ := tq_le hf
  refine tq_newi (M := mX11_init) (pc := 7) dX11_init_7 tk_ac_int (N := 60) (by decide +kernel) (by decide +kernel) (by decide) (bc' := 48) (bs' := 19208) rfl rfl ?_
  rw [← ew1]
  obtain ⟨w2, ew2, hf⟩ := tq_be hf
  refine tq_putv (M := mX11_init) (pc := 9) tk_c11 (by decide) dX11_init_9 tk_RX11_7 rfl (Or.inr ⟨rfl, rfl⟩) ew2 (tq_nA _ _) ?_
  refine tq_aload_n (M := mX11_init) (pc := 12) dX11_init_12 rfl ?_
  refine tq_bipush (M := mX11_init) (pc := 13) dX11_init_13 tk_kb_60 ?_
  obtain ⟨w3, ew3, hf⟩ := tq_le hf
  refine tq_newi (M := mX11_init) (pc := 15) dX11_init_15 tk_ac_int (N := 60) (by decide +kernel) (by decide +kernel) (by decide) (bc' := 47) (bs' := 19148) rfl rfl ?_
  rw [← ew3]
  obtain ⟨w4, ew4, hf⟩ := tq_be hf
  refine tq_putv (M := mX11_init) (pc := 17) tk_c11 (by decide) dX11_init_17 tk_RX11_13 rfl (Or.inr ⟨rfl, rfl⟩) ew4 (tq_nA _ _) ?_
  refine tq_aload_n (M := mX11_init) (pc := 20) dX11_init_20 rfl ?_
  refine tq_bipush (M := mX11_init) (pc := 21) dX11_init_21 tk_kb_60 ?_
  obtain ⟨w5, ew5, hf⟩ := tq_le hf
  refine tq_newi (M := mX11_init) (pc := 23) dX11_init_23 tk_ac_int (N := 60) (by decide +kernel) (by decide +kernel) (by decide) (bc' := 46) (bs' := 19088) rfl rfl ?_
  rw [← ew5]
  obtain ⟨w6, ew6, hf⟩ := tq_be hf
  refine tq_putv (M := mX11_init) (pc := 25) tk_c11 (by decide) dX11_init_25 tk_RX11_16 rfl (Or.inr ⟨rfl, rfl⟩) ew6 (tq_nA _ _) ?_
  refine tq_aload_n (M := mX11_init) (pc := 28) dX11_init_28 rfl ?_
  refine tq_bipush (M := mX11_init) (pc := 29) dX11_init_29 tk_kb_60 ?_
  obtain ⟨w7, ew7, hf⟩ := tq_le hf
  refine tq_newi (M := mX11_init) (pc := 31) dX11_init_31 tk_ac_int (N := 60) (by decide +kernel) (by decide +kernel) (by decide) (bc' := 45) (bs' := 19028) rfl rfl ?_
  rw [← ew7]
  obtain ⟨w8, ew8, hf⟩ := tq_be hf
  refine tq_putv (M := mX11_init) (pc := 33) tk_c11 (by decide) dX11_init_33 tk_RX11_19 rfl (Or.inr ⟨rfl, rfl⟩) ew8 (tq_nA _ _) ?_
  refine tq_aload_n (M := mX11_init) (pc := 36) dX11_init_36 rfl ?_
  refine tq_bipush (M := mX11_init) (pc := 37) dX11_init_37 tk_kb_60 ?_
  obtain ⟨w9, ew9, hf⟩ := tq_le hf
  refine tq_newi (M := mX11_init) (pc := 39) dX11_init_39 tk_ac_int (N := 60) (by decide +kernel) (by decide +kernel) (by decide) (bc' := 44) (bs' := 18968) rfl rfl ?_
  rw [← ew9]
  obtain ⟨w10, ew10, hf⟩ := tq_be hf
  refine tq_putv (M := mX11_init) (pc := 41) tk_c11 (by decide) dX11_init_41 tk_RX11_22 rfl (Or.inr ⟨rfl, rfl⟩) ew10 (tq_nA _ _) ?_
  refine tq_aload_n (M := mX11_init) (pc := 44) dX11_init_44 rfl ?_
  refine tq_bipush (M := mX11_init) (pc := 45) dX11_init_45 tk_kb_60 ?_
  obtain ⟨w11, ew11, hf⟩ := tq_le hf
  refine tq_newi (M := mX11_init) (pc := 47) dX11_init_47 tk_ac_int (N := 60) (by decide +kernel) (by decide +kernel) (by decide) (bc' := 43) (bs' := 18908) rfl rfl ?_
  rw [← ew11]
  obtain ⟨w12, ew12, hf⟩ := tq_be hf
  refine tq_putv (M := mX11_init) (pc := 49) tk_c11 (by decide) dX11_init_49 tk_RX11_25 rfl (Or.inr ⟨rfl, rfl⟩) ew12 (tq_nA _ _) ?_
  refine tq_aload_n (M := mX11_init) (pc := 52) dX11_init_52 rfl ?_
  refine tq_bipush (M := mX11_init) (pc := 53) dX11_init_53 tk_kb_60 ?_
  obtain ⟨w13, ew13, hf⟩ := tq_le hf
  refine tq_newi (M := mX11_init) (pc := 55) dX11_init_55 tk_ac_int (N := 60) (by decide +kernel) (by decide +kernel) (by decide) (bc' := 42) (bs' := 18848) rfl rfl ?_
  rw [← ew13]
  obtain ⟨w14, ew14, hf⟩ := tq_be hf
  refine tq_putv (M := mX11_init) (pc := 57) tk_c11 (by decide) dX11_init_57 tk_RX11_28 rfl (Or.inr ⟨rfl, rfl⟩) ew14 (tq_nA _ _) ?_
  refine tq_aload_n (M := mX11_init) (pc := 60) dX11_init_60 rfl ?_
  refine tq_bipush (M := mX11_init) (pc := 61) dX11_init_61 tk_kb_60 ?_
  obtain ⟨w15, ew15, hf⟩ := tq_le hf
  refine tq_newz (M := mX11_init) (pc := 63) dX11_init_63 tk_ac_boolean (N := 60) (by decide +kernel) (by decide +kernel) (by decide) (bc' := 41) (bs' := 18788) rfl rfl ?_
  rw [← ew15]
  obtain ⟨w16, ew16, hf⟩ := tq_be hf
  refine tq_putv (M := mX11_init) (pc := 65) tk_c11 (by decide) dX11_init_65 tk_RX11_31 rfl (Or.inr ⟨rfl, rfl⟩) ew16 (tq_nA _ _) ?_
  refine tq_aload_n (M := mX11_init) (pc := 68) dX11_init_68 rfl ?_
  refine tq_bipush (M := mX11_init) (pc := 69) dX11_init_69 tk_kb_60 ?_
  obtain ⟨w17, ew17, hf⟩ := tq_le hf
  refine tq_newi (M := mX11_init) (pc := 71) dX11_init_71 tk_ac_int (N := 60) (by decide +kernel) (by decide +kernel) (by decide) (bc' := 40) (bs' := 18728) rfl rfl ?_
  rw [← ew17]
  obtain ⟨w18, ew18, hf⟩ := tq_be hf
  refine tq_putv (M := mX11_init) (pc := 73) tk_c11 (by decide) dX11_init_73 tk_RX11_35 rfl (Or.inr ⟨rfl, rfl⟩) ew18 (tq_nA _ _) ?_
  refine tq_aload_n (M := mX11_init) (pc := 76) dX11_init_76 rfl ?_
  refine tq_bipush (M := mX11_init) (pc := 77) dX11_init_77 tk_kb_60 ?_
  obtain ⟨w19, ew19, hf⟩ := tq_le hf
  refine tq_newi (M := mX11_init) (pc := 79) dX11_init_79 tk_ac_int (N := 60) (by decide +kernel) (by decide +kernel) (by decide) (bc' := 39) (bs' := 18668) rfl rfl ?_
  rw [← ew19]
  obtain ⟨w20, ew20, hf⟩ := tq_be hf
  refine tq_putv (M := mX11_init) (pc := 81) tk_c11 (by decide) dX11_init_81 tk_RX11_38 rfl (Or.inr ⟨rfl, rfl⟩) ew20 (tq_nA _ _) ?_
  refine tq_aload_n (M := mX11_init) (pc := 84) dX11_init_84 rfl ?_
  refine tq_bipush (M := mX11_init) (pc := 85) dX11_init_85 tk_kb_64 ?_
  obtain ⟨w21, ew21, hf⟩ := tq_le hf
  refine tq_newi (M := mX11_init) (pc := 87) dX11_init_87 tk_ac_int (N := 64) (by decide +kernel) (by decide +kernel) (by decide) (bc' := 38) (bs' := 18604) rfl rfl ?_
  rw [← ew21]
  obtain ⟨w22, ew22, hf⟩ := tq_be hf
  refine tq_putv (M := mX11_init) (pc := 89) tk_c11 (by decide) dX11_init_89 tk_RX11_41 rfl (Or.inr ⟨rfl, rfl⟩) ew22 (tq_nA _ _) ?_
  refine tq_aload_n (M := mX11_init) (pc := 92) dX11_init_92 rfl ?_
  refine tq_sipush (M := mX11_init) (pc := 93) dX11_init_93 tk_ks_140 ?_
  obtain ⟨w23, ew23, hf⟩ := tq_le hf
  refine tq_newi (M := mX11_init) (pc := 96) dX11_init_96 tk_ac_int (N := 140) (by decide +kernel) (by decide +kernel) (by decide) (bc' := 37) (bs' := 18464) rfl rfl ?_
  rw [← ew23]
  obtain ⟨w24, ew24, hf⟩ := tq_be hf
  refine tq_putv (M := mX11_init) (pc := 98) tk_c11 (by decide) dX11_init_98 tk_RX11_44 rfl (Or.inr ⟨rfl, rfl⟩) ew24 (tq_nA _ _) ?_
  refine tq_aload_n (M := mX11_init) (pc := 101) dX11_init_101 rfl ?_
  refine tq_bipush (M := mX11_init) (pc := 102) dX11_init_102 tk_kb_60 ?_
  obtain ⟨w25, ew25, hf⟩ := tq_le hf
  refine tq_newi (M := mX11_init) (pc := 104) dX11_init_104 tk_ac_int (N := 60) (by decide +kernel) (by decide +kernel) (by decide) (bc' := 36) (bs' := 18404) rfl rfl ?_
  rw [← ew25]
  obtain ⟨w26, ew26, hf⟩ := tq_be hf
  refine tq_putv (M := mX11_init) (pc := 106) tk_c11 (by decide) dX11_init_106 tk_RX11_47 rfl (Or.inr ⟨rfl, rfl⟩) ew26 (tq_nA _ _) ?_
  refine tq_aload_n (M := mX11_init) (pc := 109) dX11_init_109 rfl ?_
  refine tq_bipush (M := mX11_init) (pc := 110) dX11_init_110 tk_kb_60 ?_
  obtain ⟨w27, ew27, hf⟩ := tq_le hf
  refine tq_newi (M := mX11_init) (pc := 112) dX11_init_112 tk_ac_int (N := 60) (by decide +kernel) (by decide +kernel) (by decide) (bc' := 35) (bs' := 18344) rfl rfl ?_
  rw [← ew27]
  obtain ⟨w28, ew28, hf⟩ := tq_be hf
  refine tq_putv (M := mX11_init) (pc := 114) tk_c11 (by decide) dX11_init_114 tk_RX11_50 rfl (Or.inr ⟨rfl, rfl⟩) ew28 (tq_nA _ _) ?_
  refine tq_aload_n (M := mX11_init) (pc := 117) dX11_init_117 rfl ?_
  refine tq_bipush (M := mX11_init) (pc := 118) dX11_init_118 tk_kb_60 ?_
  obtain ⟨w29, ew29, hf⟩ := tq_le hf
  refine tq_newi (M := mX11_init) (pc := 120) dX11_init_120 tk_ac_int (N := 60) (by decide +kernel) (by decide +kernel) (by decide) (bc' := 34) (bs' := 18284) rfl rfl ?_
  rw [← ew29]
  obtain ⟨w30, ew30, hf⟩ := tq_be hf
  refine tq_putv (M := mX11_init) (pc := 122) tk_c11 (by decide) dX11_init_122 tk_RX11_53 rfl (Or.inr ⟨rfl, rfl⟩) ew30 (tq_nA _ _) ?_
  refine tq_aload_n (M := mX11_init) (pc := 125) dX11_init_125 rfl ?_
  refine tq_bipush (M := mX11_init) (pc := 126) dX11_init_126 tk_kb_60 ?_
  obtain ⟨w31, ew31, hf⟩ := tq_le hf
  refine tq_newi (M := mX11_init) (pc := 128) dX11_init_128 tk_ac_int (N := 60) (by decide +kernel) (by decide +kernel) (by decide) (bc' := 33) (bs' := 18224) rfl rfl ?_
  rw [← ew31]
  obtain ⟨w32, ew32, hf⟩ := tq_be hf
  refine tq_putv (M := mX11_init) (pc := 130) tk_c11 (by decide) dX11_init_130 tk_RX11_56 rfl (Or.inr ⟨rfl, rfl⟩) ew32 (tq_nA _ _) ?_
  refine tq_aload_n (M := mX11_init) (pc := 133) dX11_init_133 rfl ?_
  refine tq_bipush (M := mX11_init) (pc := 134) dX11_init_134 tk_kb_60 ?_
  obtain ⟨w33, ew33, hf⟩ := tq_le hf
  refine tq_newi (M := mX11_init) (pc := 136) dX11_init_136 tk_ac_int (N := 60) (by decide +kernel) (by decide +kernel) (by decide) (bc' := 32) (bs' := 18164) rfl rfl ?_
  rw [← ew33]
  obtain ⟨w34, ew34, hf⟩ := tq_be hf
  refine tq_putv (M := mX11_init) (pc := 138) tk_c11 (by decide) dX11_init_138 tk_RX11_59 rfl (Or.inr ⟨rfl, rfl⟩) ew34 (tq_nA _ _) ?_
  refine tq_aload_n (M := mX11_init) (pc := 141) dX11_init_141 rfl ?_
  refine tq_bipush (M := mX11_init) (pc := 142) dX11_init_142 tk_kb_60 ?_
  obtain ⟨w35, ew35, hf⟩ := tq_le hf
  refine tq_newz (M := mX11_init) (pc := 144) dX11_init_144 tk_ac_boolean (N := 60) (by decide +kernel) (by decide +kernel) (by decide) (bc' := 31) (bs' := 18104) rfl rfl ?_
  rw [← ew35]
  obtain ⟨w36, ew36, hf⟩ := tq_be hf
  refine tq_putv (M := mX11_init) (pc := 146) tk_c11 (by decide) dX11_init_146 tk_RX11_62 rfl (Or.inr ⟨rfl, rfl⟩) ew36 (tq_nA _ _) ?_
  refine tq_aload_n (M := mX11_init) (pc := 149) dX11_init_149 rfl ?_
  refine tq_bipush (M := mX11_init) (pc := 150) dX11_init_150 tk_kb_60 ?_
  obtain ⟨w37, ew37, hf⟩ := tq_le hf
  refine tq_newz (M := mX11_init) (pc := 152) dX11_init_152 tk_ac_boolean (N := 60) (by decide +kernel) (by decide +kernel) (by decide) (bc' := 30) (bs' := 18044) rfl rfl ?_
  rw [← ew37]
  obtain ⟨w38, ew38, hf⟩ := tq_be hf
  refine tq_putv (M := mX11_init) (pc := 154) tk_c11 (by decide) dX11_init_154 tk_RX11_65 rfl (Or.inr ⟨rfl, rfl⟩) ew38 (tq_nA _ _) ?_
  refine tq_aload_n (M := mX11_init) (pc := 157) dX11_init_157 rfl ?_
  refine tq_bipush (M := mX11_init) (pc := 158) dX11_init_158 tk_kb_20 ?_
  obtain ⟨w39, ew39, hf⟩ := tq_le hf
  refine tq_newi (M := mX11_init) (pc := 160) dX11_init_160 tk_ac_int (N := 20) (by decide +kernel) (by decide +kernel) (by decide) (bc' := 29) (bs' := 18024) rfl rfl ?_
  rw [← ew39]
  obtain ⟨w40, ew40, hf⟩ := tq_be hf
  refine tq_putv (M := mX11_init) (pc := 162) tk_c11 (by decide) dX11_init_162 tk_RX11_68 rfl (Or.inr ⟨rfl, rfl⟩) ew40 (tq_nA _ _) ?_
  refine tq_aload_n (M := mX11_init) (pc := 165) dX11_init_165 rfl ?_
  refine tq_sipush (M := mX11_init) (pc := 166) dX11_init_166 tk_ks_300 ?_
  obtain ⟨w41, ew41, hf⟩ := tq_le hf
  refine tq_newi (M := mX11_init) (pc := 169) dX11_init_169 tk_ac_int (N := 300) (by decide +kernel) (by decide +kernel) (by decide) (bc' := 28) (bs' := 17724) rfl rfl ?_
  rw [← ew41]
  obtain ⟨w42, ew42, hf⟩ := tq_be hf
  refine tq_putv (M := mX11_init) (pc := 171) tk_c11 (by decide) dX11_init_171 tk_RX11_71 rfl (Or.inr ⟨rfl, rfl⟩) ew42 (tq_nA _ _) ?_
  refine tq_aload_n (M := mX11_init) (pc := 174) dX11_init_174 rfl ?_
  refine tq_bipush (M := mX11_init) (pc := 175) dX11_init_175 tk_kb_100 ?_
  obtain ⟨w43, ew43, hf⟩ := tq_le hf
  refine tq_newi (M := mX11_init) (pc := 177) dX11_init_177 tk_ac_int (N := 100) (by decide +kernel) (by decide +kernel) (by decide) (bc' := 27) (bs' := 17624) rfl rfl ?_
  rw [← ew43]
  obtain ⟨w44, ew44, hf⟩ := tq_be hf
  refine tq_putv (M := mX11_init) (pc := 179) tk_c11 (by decide) dX11_init_179 tk_RX11_74 rfl (Or.inr ⟨rfl, rfl⟩) ew44 (tq_nA _ _) ?_
  refine tq_aload_n (M := mX11_init) (pc := 182) dX11_init_182 rfl ?_
  refine tq_sipush (M := mX11_init) (pc := 183) dX11_init_183 tk_ks_800 ?_
  obtain ⟨w45, ew45, hf⟩ := tq_le hf
  refine tq_newi (M := mX11_init) (pc := 186) dX11_init_186 tk_ac_int (N := 800) (by decide +kernel) (by decide +kernel) (by decide) (bc' := 26) (bs' := 16824) rfl rfl ?_
  rw [← ew45]
  obtain ⟨w46, ew46, hf⟩ := tq_be hf
  refine tq_putv (M := mX11_init) (pc := 188) tk_c11 (by decide) dX11_init_188 tk_RX11_77 rfl (Or.inr ⟨rfl, rfl⟩) ew46 (tq_nA _ _) ?_
  refine tq_aload_n (M := mX11_init) (pc := 191) dX11_init_191 rfl ?_
  refine tq_sipush (M := mX11_init) (pc := 192) dX11_init_192 tk_ks_1200 ?_
  obtain ⟨w47, ew47, hf⟩ := tq_le hf
  refine tq_newl (M := mX11_init) (pc := 195) dX11_init_195 tk_ac_long (N := 1200) (by decide +kernel) (by decide +kernel) (by decide) (bc' := 25) (bs' := 15624) rfl rfl ?_
  rw [← ew47]
  obtain ⟨w48, ew48, hf⟩ := tq_be hf
  refine tq_putv (M := mX11_init) (pc := 197) tk_c11 (by decide) dX11_init_197 tk_RX11_80 rfl (Or.inr ⟨rfl, rfl⟩) ew48 (tq_nA _ _) ?_
  refine tq_aload_n (M := mX11_init) (pc := 200) dX11_init_200 rfl ?_
  refine tq_sipush (M := mX11_init) (pc := 201) dX11_init_201 tk_ks_300 ?_
  obtain ⟨w49, ew49, hf⟩ := tq_le hf
  refine tq_newl (M := mX11_init) (pc := 204) dX11_init_204 tk_ac_long (N := 300) (by decide +kernel) (by decide +kernel) (by decide) (bc' := 24) (bs' := 15324) rfl rfl ?_
  rw [← ew49]
  obtain ⟨w50, ew50, hf⟩ := tq_be hf
  refine tq_putv (M := mX11_init) (pc := 206) tk_c11 (by decide) dX11_init_206 tk_RX11_84 rfl (Or.inr ⟨rfl, rfl⟩) ew50 (tq_nA _ _) ?_
  refine tq_aload_n (M := mX11_init) (pc := 209) dX11_init_209 rfl ?_
  refine tq_iconst (M := mX11_init) (pc := 210) dX11_init_210 tk_ki_3 ?_
  obtain ⟨w51, ew51, hf⟩ := tq_le hf
  refine tq_newi (M := mX11_init) (pc := 211) dX11_init_211 tk_ac_int (N := 3) (by decide +kernel) (by decide +kernel) (by decide) (bc' := 23) (bs' := 15321) rfl rfl ?_
  rw [← ew51]
  obtain ⟨w52, ew52, hf⟩ := tq_be hf
  refine tq_putv (M := mX11_init) (pc := 213) tk_c11 (by decide) dX11_init_213 tk_RX11_87 rfl (Or.inr ⟨rfl, rfl⟩) ew52 (tq_nA _ _) ?_
  refine tq_aload_n (M := mX11_init) (pc := 216) dX11_init_216 rfl ?_
  refine tq_bipush (M := mX11_init) (pc := 217) dX11_init_217 tk_kb_60 ?_
  obtain ⟨w53, ew53, hf⟩ := tq_le hf
  refine tq_newi (M := mX11_init) (pc := 219) dX11_init_219 tk_ac_int (N := 60) (by decide +kernel) (by decide +kernel) (by decide) (bc' := 22) (bs' := 15261) rfl rfl ?_
  rw [← ew53]
  obtain ⟨w54, ew54, hf⟩ := tq_be hf
  refine tq_putv (M := mX11_init) (pc := 221) tk_c11 (by decide) dX11_init_221 tk_RX11_90 rfl (Or.inr ⟨rfl, rfl⟩) ew54 (tq_nA _ _) ?_
  refine tq_aload_n (M := mX11_init) (pc := 224) dX11_init_224 rfl ?_
  refine tq_bipush (M := mX11_init) (pc := 225) dX11_init_225 tk_kb_6 ?_
  obtain ⟨w55, ew55, hf⟩ := tq_le hf
  refine tq_newi (M := mX11_init) (pc := 227) dX11_init_227 tk_ac_int (N := 6) (by decide +kernel) (by decide +kernel) (by decide) (bc' := 21) (bs' := 15255) rfl rfl ?_
  rw [← ew55]
  obtain ⟨w56, ew56, hf⟩ := tq_be hf
  refine tq_putv (M := mX11_init) (pc := 229) tk_c11 (by decide) dX11_init_229 tk_RX11_93 rfl (Or.inr ⟨rfl, rfl⟩) ew56 (tq_nA _ _) ?_
  refine tq_aload_n (M := mX11_init) (pc := 232) dX11_init_232 rfl ?_
  refine tq_bipush (M := mX11_init) (pc := 233) dX11_init_233 tk_kb_6 ?_
  obtain ⟨w57, ew57, hf⟩ := tq_le hf
  refine tq_newz (M := mX11_init) (pc := 235) dX11_init_235 tk_ac_boolean (N := 6) (by decide +kernel) (by decide +kernel) (by decide) (bc' := 20) (bs' := 15249) rfl rfl ?_
  rw [← ew57]
  obtain ⟨w58, ew58, hf⟩ := tq_be hf
  refine tq_putv (M := mX11_init) (pc := 237) tk_c11 (by decide) dX11_init_237 tk_RX11_96 rfl (Or.inr ⟨rfl, rfl⟩) ew58 (tq_nA _ _) ?_
  refine tq_aload_n (M := mX11_init) (pc := 240) dX11_init_240 rfl ?_
  refine tq_bipush (M := mX11_init) (pc := 241) dX11_init_241 tk_kb_48 ?_
  obtain ⟨w59, ew59, hf⟩ := tq_le hf
  refine tq_newi (M := mX11_init) (pc := 243) dX11_init_243 tk_ac_int (N := 48) (by decide +kernel) (by decide +kernel) (by decide) (bc' := 19) (bs' := 15201) rfl rfl ?_
  rw [← ew59]
  obtain ⟨w60, ew60, hf⟩ := tq_be hf
  refine tq_putv (M := mX11_init) (pc := 245) tk_c11 (by decide) dX11_init_245 tk_RX11_99 rfl (Or.inr ⟨rfl, rfl⟩) ew60 (tq_nA _ _) ?_
  refine tq_aload_n (M := mX11_init) (pc := 248) dX11_init_248 rfl ?_
  refine tq_bipush (M := mX11_init) (pc := 249) dX11_init_249 tk_kb_6 ?_
  obtain ⟨w61, ew61, hf⟩ := tq_le hf
  refine tq_newi (M := mX11_init) (pc := 251) dX11_init_251 tk_ac_int (N := 6) (by decide +kernel) (by decide +kernel) (by decide) (bc' := 18) (bs' := 15195) rfl rfl ?_
  rw [← ew61]
  obtain ⟨w62, ew62, hf⟩ := tq_be hf
  refine tq_putv (M := mX11_init) (pc := 253) tk_c11 (by decide) dX11_init_253 tk_RX11_102 rfl (Or.inr ⟨rfl, rfl⟩) ew62 (tq_nA _ _) ?_
  refine tq_aload_n (M := mX11_init) (pc := 256) dX11_init_256 rfl ?_
  refine tq_sipush (M := mX11_init) (pc := 257) dX11_init_257 tk_ks_144 ?_
  obtain ⟨w63, ew63, hf⟩ := tq_le hf
  refine tq_newi (M := mX11_init) (pc := 260) dX11_init_260 tk_ac_int (N := 144) (by decide +kernel) (by decide +kernel) (by decide) (bc' := 17) (bs' := 15051) rfl rfl ?_
  rw [← ew63]
  obtain ⟨w64, ew64, hf⟩ := tq_be hf
  refine tq_putv (M := mX11_init) (pc := 262) tk_c11 (by decide) dX11_init_262 tk_RX11_105 rfl (Or.inr ⟨rfl, rfl⟩) ew64 (tq_nA _ _) ?_
  refine tq_aload_n (M := mX11_init) (pc := 265) dX11_init_265 rfl ?_
  refine tq_bipush (M := mX11_init) (pc := 266) dX11_init_266 tk_kb_60 ?_
  obtain ⟨w65, ew65, hf⟩ := tq_le hf
  refine tq_newi (M := mX11_init) (pc := 268) dX11_init_268 tk_ac_int (N := 60) (by decide +kernel) (by decide +kernel) (by decide) (bc' := 16) (bs' := 14991) rfl rfl ?_
  rw [← ew65]
  obtain ⟨w66, ew66, hf⟩ := tq_be hf
  refine tq_putv (M := mX11_init) (pc := 270) tk_c11 (by decide) dX11_init_270 tk_RX11_108 rfl (Or.inr ⟨rfl, rfl⟩) ew66 (tq_nA _ _) ?_
  refine tq_aload_n (M := mX11_init) (pc := 273) dX11_init_273 rfl ?_
  refine tq_sipush (M := mX11_init) (pc := 274) dX11_init_274 tk_ks_5120 ?_
  obtain ⟨w67, ew67, hf⟩ := tq_le hf
  refine tq_newi (M := mX11_init) (pc := 277) dX11_init_277 tk_ac_int (N := 5120) (by decide +kernel) (by decide +kernel) (by decide) (bc' := 15) (bs' := 9871) rfl rfl ?_
  rw [← ew67]
  obtain ⟨w68, ew68, hf⟩ := tq_be hf
  refine tq_putv (M := mX11_init) (pc := 279) tk_c11 (by decide) dX11_init_279 tk_RX11_111 rfl (Or.inr ⟨rfl, rfl⟩) ew68 (tq_nA _ _) ?_
  refine tq_aload_n (M := mX11_init) (pc := 282) dX11_init_282 rfl ?_
  refine tq_bipush (M := mX11_init) (pc := 283) dX11_init_283 tk_kb_8 ?_
  obtain ⟨w69, ew69, hf⟩ := tq_le hf
  refine tq_newz (M := mX11_init) (pc := 285) dX11_init_285 tk_ac_boolean (N := 8) (by decide +kernel) (by decide +kernel) (by decide) (bc' := 14) (bs' := 9863) rfl rfl ?_
  rw [← ew69]
  obtain ⟨w70, ew70, hf⟩ := tq_be hf
  refine tq_putv (M := mX11_init) (pc := 287) tk_c11 (by decide) dX11_init_287 tk_RX11_114 rfl (Or.inr ⟨rfl, rfl⟩) ew70 (tq_nA _ _) ?_
  refine tq_aload_n (M := mX11_init) (pc := 290) dX11_init_290 rfl ?_
  refine tq_iconst (M := mX11_init) (pc := 291) dX11_init_291 tk_ki_5 ?_
  obtain ⟨w71, ew71, hf⟩ := tq_le hf
  refine tq_newi (M := mX11_init) (pc := 292) dX11_init_292 tk_ac_int (N := 5) (by decide +kernel) (by decide +kernel) (by decide) (bc' := 13) (bs' := 9858) rfl rfl ?_
  rw [← ew71]
  obtain ⟨w72, ew72, hf⟩ := tq_be hf
  refine tq_putv (M := mX11_init) (pc := 294) tk_c11 (by decide) dX11_init_294 tk_RX11_117 rfl (Or.inr ⟨rfl, rfl⟩) ew72 (tq_nA _ _) ?_
  refine tq_aload_n (M := mX11_init) (pc := 297) dX11_init_297 rfl ?_
  refine tq_iconst (M := mX11_init) (pc := 298) dX11_init_298 tk_ki_5 ?_
  obtain ⟨w73, ew73, hf⟩ := tq_le hf
  refine tq_newi (M := mX11_init) (pc := 299) dX11_init_299 tk_ac_int (N := 5) (by decide +kernel) (by decide +kernel) (by decide) (bc' := 12) (bs' := 9853) rfl rfl ?_
  rw [← ew73]
  obtain ⟨w74, ew74, hf⟩ := tq_be hf
  refine tq_putv (M := mX11_init) (pc := 301) tk_c11 (by decide) dX11_init_301 tk_RX11_120 rfl (Or.inr ⟨rfl, rfl⟩) ew74 (tq_nA _ _) ?_
  refine tq_aload_n (M := mX11_init) (pc := 304) dX11_init_304 rfl ?_
  refine tq_iconst (M := mX11_init) (pc := 305) dX11_init_305 tk_ki_5 ?_
  obtain ⟨w75, ew75, hf⟩ := tq_le hf
  refine tq_newl (M := mX11_init) (pc := 306) dX11_init_306 tk_ac_long (N := 5) (by decide +kernel) (by decide +kernel) (by decide) (bc' := 11) (bs' := 9848) rfl rfl ?_
  rw [← ew75]
  obtain ⟨w76, ew76, hf⟩ := tq_be hf
  refine tq_putv (M := mX11_init) (pc := 308) tk_c11 (by decide) dX11_init_308 tk_RX11_123 rfl (Or.inr ⟨rfl, rfl⟩) ew76 (tq_nA _ _) ?_
  refine tq_aload_n (M := mX11_init) (pc := 311) dX11_init_311 rfl ?_
  refine tq_sipush (M := mX11_init) (pc := 312) dX11_init_312 tk_ks_360 ?_
  obtain ⟨w77, ew77, hf⟩ := tq_le hf
  refine tq_newz (M := mX11_init) (pc := 315) dX11_init_315 tk_ac_boolean (N := 360) (by decide +kernel) (by decide +kernel) (by decide) (bc' := 10) (bs' := 9488) rfl rfl ?_
  rw [← ew77]
  obtain ⟨w78, ew78, hf⟩ := tq_be hf
  refine tq_putv (M := mX11_init) (pc := 317) tk_c11 (by decide) dX11_init_317 tk_RX11_126 rfl (Or.inr ⟨rfl, rfl⟩) ew78 (tq_nA _ _) ?_
  refine tq_aload_n (M := mX11_init) (pc := 320) dX11_init_320 rfl ?_
  refine tq_sipush (M := mX11_init) (pc := 321) dX11_init_321 tk_ks_360 ?_
  obtain ⟨w79, ew79, hf⟩ := tq_le hf
  refine tq_newi (M := mX11_init) (pc := 324) dX11_init_324 tk_ac_int (N := 360) (by decide +kernel) (by decide +kernel) (by decide) (bc' := 9) (bs' := 9128) rfl rfl ?_
  rw [← ew79]
  obtain ⟨w80, ew80, hf⟩ := tq_be hf
  refine tq_putv (M := mX11_init) (pc := 326) tk_c11 (by decide) dX11_init_326 tk_RX11_129 rfl (Or.inr ⟨rfl, rfl⟩) ew80 (tq_nA _ _) ?_
  refine tq_aload_n (M := mX11_init) (pc := 329) dX11_init_329 rfl ?_
  refine tq_sipush (M := mX11_init) (pc := 330) dX11_init_330 tk_ks_360 ?_
  obtain ⟨w81, ew81, hf⟩ := tq_le hf
  refine tq_newi (M := mX11_init) (pc := 333) dX11_init_333 tk_ac_int (N := 360) (by decide +kernel) (by decide +kernel) (by decide) (bc' := 8) (bs' := 8768) rfl rfl ?_
  rw [← ew81]
  obtain ⟨w82, ew82, hf⟩ := tq_be hf
  refine tq_putv (M := mX11_init) (pc := 335) tk_c11 (by decide) dX11_init_335 tk_RX11_132 rfl (Or.inr ⟨rfl, rfl⟩) ew82 (tq_nA _ _) ?_
  refine tq_aload_n (M := mX11_init) (pc := 338) dX11_init_338 rfl ?_
  refine tq_sipush (M := mX11_init) (pc := 339) dX11_init_339 tk_ks_360 ?_
  obtain ⟨w83, ew83, hf⟩ := tq_le hf
  refine tq_newi (M := mX11_init) (pc := 342) dX11_init_342 tk_ac_int (N := 360) (by decide +kernel) (by decide +kernel) (by decide) (bc' := 7) (bs' := 8408) rfl rfl ?_
  rw [← ew83]
  obtain ⟨w84, ew84, hf⟩ := tq_be hf
  refine tq_putv (M := mX11_init) (pc := 344) tk_c11 (by decide) dX11_init_344 tk_RX11_135 rfl (Or.inr ⟨rfl, rfl⟩) ew84 (tq_nA _ _) ?_
  refine tq_aload_n (M := mX11_init) (pc := 347) dX11_init_347 rfl ?_
  refine tq_sipush (M := mX11_init) (pc := 348) dX11_init_348 tk_ks_360 ?_
  obtain ⟨w85, ew85, hf⟩ := tq_le hf
  refine tq_newi (M := mX11_init) (pc := 351) dX11_init_351 tk_ac_int (N := 360) (by decide +kernel) (by decide +kernel) (by decide) (bc' := 6) (bs' := 8048) rfl rfl ?_
  rw [← ew85]
  obtain ⟨w86, ew86, hf⟩ := tq_be hf
  refine tq_putv (M := mX11_init) (pc := 353) tk_c11 (by decide) dX11_init_353 tk_RX11_138 rfl (Or.inr ⟨rfl, rfl⟩) ew86 (tq_nA _ _) ?_
  refine tq_aload_n (M := mX11_init) (pc := 356) dX11_init_356 rfl ?_
  refine tq_sipush (M := mX11_init) (pc := 357) dX11_init_357 tk_ks_360 ?_
  obtain ⟨w87, ew87, hf⟩ := tq_le hf
  refine tq_newi (M := mX11_init) (pc := 360) dX11_init_360 tk_ac_int (N := 360) (by decide +kernel) (by decide +kernel) (by decide) (bc' := 5) (bs' := 7688) rfl rfl ?_
  rw [← ew87]
  obtain ⟨w88, ew88, hf⟩ := tq_be hf
  refine tq_putv (M := mX11_init) (pc := 362) tk_c11 (by decide) dX11_init_362 tk_RX11_141 rfl (Or.inr ⟨rfl, rfl⟩) ew88 (tq_nA _ _) ?_
  refine tq_aload_n (M := mX11_init) (pc := 365) dX11_init_365 rfl ?_
  refine tq_iconst (M := mX11_init) (pc := 366) dX11_init_366 tk_ki_2 ?_
  obtain ⟨w89, ew89, hf⟩ := tq_le hf
  refine tq_newi (M := mX11_init) (pc := 367) dX11_init_367 tk_ac_int (N := 2) (by decide +kernel) (by decide +kernel) (by decide) (bc' := 4) (bs' := 7686) rfl rfl ?_
  rw [← ew89]
  obtain ⟨w90, ew90, hf⟩ := tq_be hf
  refine tq_putv (M := mX11_init) (pc := 369) tk_c11 (by decide) dX11_init_369 tk_RX11_144 rfl (Or.inr ⟨rfl, rfl⟩) ew90 (tq_nA _ _) ?_
  refine tq_aload_n (M := mX11_init) (pc := 372) dX11_init_372 rfl ?_
  refine tq_bipush (M := mX11_init) (pc := 373) dX11_init_373 tk_kb_122 ?_
  obtain ⟨w91, ew91, hf⟩ := tq_le hf
  refine tq_newi (M := mX11_init) (pc := 375) dX11_init_375 tk_ac_int (N := 122) (by decide +kernel) (by decide +kernel) (by decide) (bc' := 3) (bs' := 7564) rfl rfl ?_
  rw [← ew91]
  obtain ⟨w92, ew92, hf⟩ := tq_be hf
  refine tq_putv (M := mX11_init) (pc := 377) tk_c11 (by decide) dX11_init_377 tk_RX11_147 rfl (Or.inr ⟨rfl, rfl⟩) ew92 (tq_nA _ _) ?_
  refine tq_aload_n (M := mX11_init) (pc := 380) dX11_init_380 rfl ?_
  refine tq_bipush (M := mX11_init) (pc := 381) dX11_init_381 tk_kb_122 ?_
  obtain ⟨w93, ew93, hf⟩ := tq_le hf
  refine tq_newi (M := mX11_init) (pc := 383) dX11_init_383 tk_ac_int (N := 122) (by decide +kernel) (by decide +kernel) (by decide) (bc' := 2) (bs' := 7442) rfl rfl ?_
  rw [← ew93]
  obtain ⟨w94, ew94, hf⟩ := tq_be hf
  refine tq_putv (M := mX11_init) (pc := 385) tk_c11 (by decide) dX11_init_385 tk_RX11_150 rfl (Or.inr ⟨rfl, rfl⟩) ew94 (tq_nA _ _) ?_
  refine tq_aload_n (M := mX11_init) (pc := 388) dX11_init_388 rfl ?_
  refine tq_sipush (M := mX11_init) (pc := 389) dX11_init_389 tk_ks_3721 ?_
  obtain ⟨w95, ew95, hf⟩ := tq_le hf
  refine tq_newi (M := mX11_init) (pc := 392) dX11_init_392 tk_ac_int (N := 3721) (by decide +kernel) (by decide +kernel) (by decide) (bc' := 1) (bs' := 3721) rfl rfl ?_
  rw [← ew95]
  obtain ⟨w96, ew96, hf⟩ := tq_be hf
  refine tq_putv (M := mX11_init) (pc := 394) tk_c11 (by decide) dX11_init_394 tk_RX11_153 rfl (Or.inr ⟨rfl, rfl⟩) ew96 (tq_nA _ _) ?_
  refine tq_aload_n (M := mX11_init) (pc := 397) dX11_init_397 rfl ?_
  refine tq_sipush (M := mX11_init) (pc := 398) dX11_init_398 tk_ks_3721 ?_
  obtain ⟨w97, ew97, hf⟩ := tq_le hf
  refine tq_newi (M := mX11_init) (pc := 401) dX11_init_401 tk_ac_int (N := 3721) (by decide +kernel) (by decide +kernel) (by decide) (bc' := 0) (bs' := 0) rfl rfl ?_
  rw [← ew97]
  obtain ⟨w98, ew98, hf⟩ := tq_be hf
  refine tq_putv (M := mX11_init) (pc := 403) tk_c11 (by decide) dX11_init_403 tk_RX11_156 rfl (Or.inr ⟨rfl, rfl⟩) ew98 (tq_nA _ _) ?_
  refine tq_aload_n (M := mX11_init) (pc := 406) dX11_init_406 rfl ?_
  refine tq_iconst (M := mX11_init) (pc := 407) dX11_init_407 tk_ki_1 ?_
  obtain ⟨w99, ew99, hf⟩ := tq_be hf
  refine tq_putv (M := mX11_init) (pc := 408) tk_c11 (by decide) dX11_init_408 tk_RX11_159 rfl (Or.inl rfl) ew99 (tq_nI _) ?_
  refine tq_aload_n (M := mX11_init) (pc := 411) dX11_init_411 rfl ?_
  obtain ⟨k100, ek100, hf⟩ := tq_be hf
  refine tq_getR (M := mX11_init) (pc := 412) tk_c11 (by decide) dX11_init_412 tk_RX11_31 rfl ek100 ?_
  refine tq_iconst (M := mX11_init) (pc := 415) dX11_init_415 tk_ki_0 ?_
  refine tq_iconst (M := mX11_init) (pc := 416) dX11_init_416 tk_ki_1 ?_
  obtain ⟨w101, ew101, hf⟩ := tq_be hf
  refine tq_zastF (M := mX11_init) (pc := 417) dX11_init_417 ew101 ?_
  refine tq_aload_n (M := mX11_init) (pc := 418) dX11_init_418 rfl ?_
  obtain ⟨k102, ek102, hf⟩ := tq_be hf
  refine tq_getR (M := mX11_init) (pc := 419) tk_c11 (by decide) dX11_init_419 tk_RX11_7 rfl ek102 ?_
  refine tq_iconst (M := mX11_init) (pc := 422) dX11_init_422 tk_ki_0 ?_
  refine tq_iconst (M := mX11_init) (pc := 423) dX11_init_423 tk_ki_0 ?_
  obtain ⟨w103, ew103, hf⟩ := tq_be hf
  refine tq_iastF (M := mX11_init) (pc := 424) dX11_init_424 ew103 ?_
  refine tq_aload_n (M := mX11_init) (pc := 425) dX11_init_425 rfl ?_
  obtain ⟨k104, ek104, hf⟩ := tq_be hf
  refine tq_getR (M := mX11_init) (pc := 426) tk_c11 (by decide) dX11_init_426 tk_RX11_16 rfl ek104 ?_
  refine tq_iconst (M := mX11_init) (pc := 429) dX11_init_429 tk_ki_0 ?_
  refine tq_iconst (M := mX11_init) (pc := 430) dX11_init_430 tk_ki_m1 ?_
  obtain ⟨w105, ew105, hf⟩ := tq_be hf
  refine tq_iastF (M := mX11_init) (pc := 431) dX11_init_431 ew105 ?_
  refine tq_aload_n (M := mX11_init) (pc := 432) dX11_init_432 rfl ?_
  obtain ⟨k106, ek106, hf⟩ := tq_be hf
  refine tq_getR (M := mX11_init) (pc := 433) tk_c11 (by decide) dX11_init_433 tk_RX11_19 rfl ek106 ?_
  refine tq_iconst (M := mX11_init) (pc := 436) dX11_init_436 tk_ki_0 ?_
  refine tq_iconst (M := mX11_init) (pc := 437) dX11_init_437 tk_ki_m1 ?_
  obtain ⟨w107, ew107, hf⟩ := tq_be hf
  refine tq_iastF (M := mX11_init) (pc := 438) dX11_init_438 ew107 ?_
  refine tq_aload_n (M := mX11_init) (pc := 439) dX11_init_439 rfl ?_
  obtain ⟨k108, ek108, hf⟩ := tq_be hf
  refine tq_getR (M := mX11_init) (pc := 440) tk_c11 (by decide) dX11_init_440 tk_RX11_22 rfl ek108 ?_
  refine tq_iconst (M := mX11_init) (pc := 443) dX11_init_443 tk_ki_0 ?_
  refine tq_iconst (M := mX11_init) (pc := 444) dX11_init_444 tk_ki_m1 ?_
  obtain ⟨w109, ew109, hf⟩ := tq_be hf
  refine tq_iastF (M := mX11_init) (pc := 445) dX11_init_445 ew109 ?_
  refine tq_aload_n (M := mX11_init) (pc := 446) dX11_init_446 rfl ?_
  obtain ⟨k110, ek110, hf⟩ := tq_be hf
  refine tq_getR (M := mX11_init) (pc := 447) tk_c11 (by decide) dX11_init_447 tk_RX11_28 rfl ek110 ?_
  refine tq_iconst (M := mX11_init) (pc := 450) dX11_init_450 tk_ki_0 ?_
  refine tq_bipush (M := mX11_init) (pc := 451) dX11_init_451 tk_kb_16 ?_
  obtain ⟨w111, ew111, hf⟩ := tq_be hf
  refine tq_iastF (M := mX11_init) (pc := 453) dX11_init_453 ew111 ?_
  refine tq_iconst (M := mX11_init) (pc := 454) dX11_init_454 tk_ki_0 ?_
  refine tq_istore_n (M := mX11_init) (pc := 455) rfl dX11_init_455 (L2 := [(1, .int (0 : Int32)), (0, .ref t)]) (by decide) rfl ?_
  obtain ⟨o117, eo117, hf⟩ := tq_be hf
  refine tq_pick (L2 := [(0, .ref t), (1, .int (0 : Int32))]) [1, 0] rfl ?_
  refine l_X11_init_456 (by omega) t _ (0 : Int32) w111 _ eo117 ?_
  refine tq_aload_n (M := mX11_init) (pc := 482) dX11_init_482 rfl ?_
  obtain ⟨⟨⟩, eu119, hf⟩ := tq_be hf
  obtain ⟨fsu119, eu119⟩ := tq_is_s eu119
  obtain ⟨v118, ev118, hf⟩ := tq_be hf
  refine tq_calV (M := mX11_init) (pc := 483) (S := []) tk_y_X11_arrange tk_v_X11_arrange tk_RX11_163 dX11_init_483 [] rfl (S0 := _) rfl eu119 rfl (Nat.le_of_ble_eq_true rfl) (d1 := d - 1) (b1 := 0) (s1 := 0) (bc' := 0) (bs' := 0) (Q1 := fun r h9 => r = .inl none ∧ v118 = h9) (by omega) rfl rfl (w_X11_arrange (by omega) ev118 (fun _ _ q => q)) (fun E h9 q => nomatch (show (Sum.inr E : tq_R) = Sum.inl _ from q.1)) (fun r9 h9 q => ?_)
  obtain ⟨q1, rfl⟩ := q
  cases (show (Sum.inl r9 : tq_R) = Sum.inl (none) from q1)
  refine tq_vret (M := mX11_init) (pc := 486) dX11_init_486 rfl ?_
  cases (Option.some.inj hf)
  exact hQ _ _ ⟨rfl, rfl⟩
abbrev mX11_thrown : tq_M := (RX11, cX11_thrown, 1, (some .int), false, [], none)
def f_X11_thrown (t : Nat) (h : tq_H) : Option (Int32) :=
  (tq_gi h t 11 0).bind fun x1 =>
  some x1
set_option maxHeartbeats 4000000 in
set_option maxRecDepth 20000 in
theorem w_X11_thrown {l : Launch} {d : Nat} (hd9 : 0 ≤ d) {t : Nat} {h : tq_H} {o : Int32} {Q : tq_R → tq_H → Prop} (hf : f_X11_thrown t h = some o) (hQ : ∀ r h9, r = .inl (some (.int o)) ∧ h = h9 → Q r h9) : tq_C l yX11_thrown cX11_thrown 1 (some .int) d 0 0 [.ref t] h Q := by
  refine tq_body (y := yX11_thrown) false (by decide +kernel) (fun z => by cases z) (Nat.le_of_ble_eq_true rfl) ?_
  show tq_W l mX11_thrown d 0 0 Q 0 [(0, .ref t)] [] h
  refine tq_aload_n (M := mX11_thrown) (pc := 0) dX11_thrown_0 rfl ?_
  obtain ⟨x1, ex1, hf⟩ := tq_be hf
  refine tq_getI (M := mX11_thrown) (pc := 1) tk_c11 (by decide) dX11_thrown_1 tk_RX11_166 rfl ex1 ?_
  refine tq_iret (M := mX11_thrown) (pc := 4) dX11_thrown_4 rfl ?_
  cases (Option.some.inj hf)
  exact hQ _ _ ⟨rfl, rfl⟩
abbrev mX11_refused : tq_M := (RX11, cX11_refused, 2, (some .boolean), false, [], none)
def f_X11_refused (t : Nat) (a1 : Int32) (h : tq_H) : Option (Int32 × tq_H) :=
  (tq_pf h t 11 0 (.int a1)).bind fun w1 =>
  tq_let (if a1 = 0 then (0 : Int32) else (1 : Int32)) fun p2 =>
  (tq_bz p2).bind fun z3 =>
  some (z3, w1)
set_option maxHeartbeats 4000000 in
set_option maxRecDepth 20000 in
theorem w_X11_refused {l : Launch} {d : Nat} (hd9 : 0 ≤ d) {t : Nat} {a1 : Int32} {h : tq_H} {o : Int32 × tq_H} {Q : tq_R → tq_H → Prop} (hf : f_X11_refused t a1 h = some o) (hQ : ∀ r h9, r = .inl (some (.int o.1)) ∧ o.2 = h9 → Q r h9) : tq_C l yX11_refused cX11_refused 2 (some .boolean) d 0 0 [.ref t, .int a1] h Q := by
  refine tq_body (y := yX11_refused) false (by decide +kernel) (fun z => by cases z) (Nat.le_of_ble_eq_true rfl) ?_
  show tq_W l mX11_refused d 0 0 Q 0 [(0, .ref t), (1, .int a1)] [] h
  refine tq_aload_n (M := mX11_refused) (pc := 0) dX11_refused_0 rfl ?_
  refine tq_iload_n (M := mX11_refused) (pc := 1) dX11_refused_1 rfl ?_
  obtain ⟨w1, ew1, hf⟩ := tq_be hf
  refine tq_putv (M := mX11_refused) (pc := 2) tk_c11 (by decide) dX11_refused_2 tk_RX11_166 rfl (Or.inl rfl) ew1 (tq_nI _) ?_
  refine tq_iload_n (M := mX11_refused) (pc := 5) dX11_refused_5 rfl ?_
  obtain ⟨p2, ep2, hf⟩ := tq_le hf
  have HJ6 : tq_W l mX11_refused d 0 0 Q 14 [] [.int p2] w1 := by
    obtain ⟨z3, ez3, hf⟩ := tq_be hf
    refine tq_zretB (M := mX11_refused) (pc := 14) dX11_refused_14 rfl ez3 ?_
    cases (Option.some.inj hf)
    exact hQ _ _ ⟨rfl, rfl⟩
  refine tq_if_eq (M := mX11_refused) (pc := 6) (tgt := 13) dX11_refused_6 (by decide) (fun cc => ?_) (fun cc => ?_)
  · have hf := tq_ifp ep2.symm cc
    refine tq_iconst (M := mX11_refused) (pc := 13) dX11_refused_13 tk_ki_0 ?_
    refine tq_pick (L2 := []) [] rfl ?_
    cases hf
    exact HJ6
  · have hf := tq_ifn ep2.symm cc
    refine tq_iconst (M := mX11_refused) (pc := 9) dX11_refused_9 tk_ki_1 ?_
    refine tq_goto (M := mX11_refused) (pc := 10) (tgt := 14) dX11_refused_10 (by decide) ?_
    refine tq_pick (L2 := []) [] rfl ?_
    cases hf
    exact HJ6
abbrev mX11_fine : tq_M := (RX11, cX11_fine, 2, (some .int), false, [], none)
def f_X11_fine (t : Nat) (a1 : Int32) (h : tq_H) : Option (Int32 × tq_H) :=
  (tq_pf h t 11 0 (.int (0 : Int32))).bind fun w1 =>
  some (a1, w1)
set_option maxHeartbeats 4000000 in
set_option maxRecDepth 20000 in
theorem w_X11_fine {l : Launch} {d : Nat} (hd9 : 0 ≤ d) {t : Nat} {a1 : Int32} {h : tq_H} {o : Int32 × tq_H} {Q : tq_R → tq_H → Prop} (hf : f_X11_fine t a1 h = some o) (hQ : ∀ r h9, r = .inl (some (.int o.1)) ∧ o.2 = h9 → Q r h9) : tq_C l yX11_fine cX11_fine 2 (some .int) d 0 0 [.ref t, .int a1] h Q := by
  refine tq_body (y := yX11_fine) false (by decide +kernel) (fun z => by cases z) (Nat.le_of_ble_eq_true rfl) ?_
  show tq_W l mX11_fine d 0 0 Q 0 [(0, .ref t), (1, .int a1)] [] h
  refine tq_aload_n (M := mX11_fine) (pc := 0) dX11_fine_0 rfl ?_
  refine tq_iconst (M := mX11_fine) (pc := 1) dX11_fine_1 tk_ki_0 ?_
  obtain ⟨w1, ew1, hf⟩ := tq_be hf
  refine tq_putv (M := mX11_fine) (pc := 2) tk_c11 (by decide) dX11_fine_2 tk_RX11_166 rfl (Or.inl rfl) ew1 (tq_nI _) ?_
  refine tq_iload_n (M := mX11_fine) (pc := 5) dX11_fine_5 rfl ?_
  refine tq_iret (M := mX11_fine) (pc := 6) dX11_fine_6 rfl ?_
  cases (Option.some.inj hf)
  exact hQ _ _ ⟨rfl, rfl⟩
abbrev mX11_in : tq_M := (RX11, cX11_in, 3, (some .boolean), false, [], none)
def f_X11_in (a0 : Int32) (a1 : Int32) (a2 : Int32) (h : tq_H) : Option (Int32) :=
  tq_let (if a0 < a1 then (0 : Int32) else (if a0 > a2 then (0 : Int32) else (1 : Int32))) fun p1 =>
  (tq_bz p1).bind fun z2 =>
  some z2
set_option maxHeartbeats 4000000 in
set_option maxRecDepth 20000 in
theorem w_X11_in {l : Launch} {d : Nat} (hd9 : 0 ≤ d) {a0 : Int32} {a1 : Int32} {a2 : Int32} {h : tq_H} {o : Int32} {Q : tq_R → tq_H → Prop} (hf : f_X11_in a0 a1 a2 h = some o) (hQ : ∀ r h9, r = .inl (some (.int o)) ∧ h = h9 → Q r h9) : tq_C l yX11_in cX11_in 3 (some .boolean) d 0 0 [.int a0, .int a1, .int a2] h Q := by
  refine tq_body (y := yX11_in) false (by decide +kernel) (fun z => by cases z) (Nat.le_of_ble_eq_true rfl) ?_
  show tq_W l mX11_in d 0 0 Q 0 [(0, .int a0), (1, .int a1), (2, .int a2)] [] h
  refine tq_iload_n (M := mX11_in) (pc := 0) dX11_in_0 rfl ?_
  refine tq_iload_n (M := mX11_in) (pc := 1) dX11_in_1 rfl ?_
  obtain ⟨p1, ep1, hf⟩ := tq_le hf
  have HJ2 : tq_W l mX11_in d 0 0 Q 15 [] [.int p1] h := by
    obtain ⟨z2, ez2, hf⟩ := tq_be hf
    refine tq_zretB (M := mX11_in) (pc := 15) dX11_in_15 rfl ez2 ?_
    cases (Option.some.inj hf)
    exact hQ _ _ ⟨rfl, rfl⟩
  refine tq_icmp_lt (M := mX11_in) (pc := 2) (tgt := 14) dX11_in_2 (by decide) (fun cc => ?_) (fun cc => ?_)
  · have hf := tq_ifp ep1.symm cc
    refine tq_iconst (M := mX11_in) (pc := 14) dX11_in_14 tk_ki_0 ?_
    refine tq_pick (L2 := []) [] rfl ?_
    cases hf
    exact HJ2
  · have hf := tq_ifn ep1.symm cc
    refine tq_iload_n (M := mX11_in) (pc := 5) dX11_in_5 rfl ?_
    refine tq_iload_n (M := mX11_in) (pc := 6) dX11_in_6 rfl ?_
    refine tq_icmp_gt (M := mX11_in) (pc := 7) (tgt := 14) dX11_in_7 (by decide) (fun cc => ?_) (fun cc => ?_)
    · have hf := tq_ifp hf cc
      refine tq_iconst (M := mX11_in) (pc := 14) dX11_in_14 tk_ki_0 ?_
      refine tq_pick (L2 := []) [] rfl ?_
      cases hf
      exact HJ2
    · have hf := tq_ifn hf cc
      refine tq_iconst (M := mX11_in) (pc := 10) dX11_in_10 tk_ki_1 ?_
      refine tq_goto (M := mX11_in) (pc := 11) (tgt := 15) dX11_in_11 (by decide) ?_
      refine tq_pick (L2 := []) [] rfl ?_
      cases hf
      exact HJ2
abbrev mX11_isNode : tq_M := (RX11, cX11_isNode, 2, (some .boolean), false, [], none)
def f_X11_isNode (t : Nat) (a1 : Int32) (h : tq_H) : Option (Int32) :=
  (tq_gi h t 11 1).bind fun x1 =>
  (f_X11_in a1 (0 : Int32) (x1 - (1 : Int32)) h).bind fun v2 =>
  (if v2 = 0 then
    some (0 : Int32)
  else
    (tq_gr h t 11 9).bind fun k3 =>
    (tq_az h k3 a1).bind fun x4 =>
    if x4 = 0 then
      some (0 : Int32)
    else
      some (1 : Int32)).bind fun p5 =>
  (tq_bz p5).bind fun z6 =>
  some z6
set_option maxHeartbeats 4000000 in
set_option maxRecDepth 20000 in
theorem w_X11_isNode {l : Launch} {d : Nat} (hd9 : 1 ≤ d) {t : Nat} {a1 : Int32} {h : tq_H} {o : Int32} {Q : tq_R → tq_H → Prop} (hf : f_X11_isNode t a1 h = some o) (hQ : ∀ r h9, r = .inl (some (.int o)) ∧ h = h9 → Q r h9) : tq_C l yX11_isNode cX11_isNode 2 (some .boolean) d 0 0 [.ref t, .int a1] h Q := by
  refine tq_body (y := yX11_isNode) false (by decide +kernel) (fun z => by cases z) (Nat.le_of_ble_eq_true rfl) ?_
  show tq_W l mX11_isNode d 0 0 Q 0 [(0, .ref t), (1, .int a1)] [] h
  refine tq_iload_n (M := mX11_isNode) (pc := 0) dX11_isNode_0 rfl ?_
  refine tq_iconst (M := mX11_isNode) (pc := 1) dX11_isNode_1 tk_ki_0 ?_
  refine tq_aload_n (M := mX11_isNode) (pc := 2) dX11_isNode_2 rfl ?_
  obtain ⟨x1, ex1, hf⟩ := tq_be hf
  refine tq_getI (M := mX11_isNode) (pc := 3) tk_c11 (by decide) dX11_isNode_3 tk_RX11_159 rfl ex1 ?_
  refine tq_iconst (M := mX11_isNode) (pc := 6) dX11_isNode_6 tk_ki_1 ?_
  refine tq_isub (M := mX11_isNode) (pc := 7) dX11_isNode_7 ?_
  obtain ⟨v2, ev2, hf⟩ := tq_be hf
  refine tq_calS (M := mX11_isNode) (pc := 8) (S := []) tk_y_X11_in tk_s_X11_in tk_RX11_169 dX11_isNode_8 [.int a1, .int (0 : Int32), .int ((x1 - (1 : Int32)))] rfl (Nat.le_of_ble_eq_true rfl) (d1 := d - 1) (b1 := 0) (s1 := 0) (bc' := 0) (bs' := 0) (Q1 := fun r h9 => r = .inl (some (.int v2)) ∧ h = h9) (by omega) rfl rfl (w_X11_in (by omega) ev2 (fun _ _ q => q)) (fun E h9 q => nomatch (show (Sum.inr E : tq_R) = Sum.inl _ from q.1)) (fun r9 h9 q => ?_)
  obtain ⟨q1, rfl⟩ := q
  cases (show (Sum.inl r9 : tq_R) = Sum.inl (some (.int v2)) from q1)
  obtain ⟨p5, ep5, hf⟩ := tq_be hf
  have HJ11 : tq_W l mX11_isNode d 0 0 Q 28 [] [.int p5] h := by
    obtain ⟨z6, ez6, hf⟩ := tq_be hf
    refine tq_zretB (M := mX11_isNode) (pc := 28) dX11_isNode_28 rfl ez6 ?_
    cases (Option.some.inj hf)
    exact hQ _ _ ⟨rfl, rfl⟩
  refine tq_if_eq (M := mX11_isNode) (pc := 11) (tgt := 27) dX11_isNode_11 (by decide) (fun cc => ?_) (fun cc => ?_)
  · have hf := tq_ifp ep5 cc
    refine tq_iconst (M := mX11_isNode) (pc := 27) dX11_isNode_27 tk_ki_0 ?_
    refine tq_pick (L2 := []) [] rfl ?_
    cases (Option.some.inj hf)
    exact HJ11
  · have hf := tq_ifn ep5 cc
    refine tq_aload_n (M := mX11_isNode) (pc := 14) dX11_isNode_14 rfl ?_
    obtain ⟨k3, ek3, hf⟩ := tq_be hf
    refine tq_getR (M := mX11_isNode) (pc := 15) tk_c11 (by decide) dX11_isNode_15 tk_RX11_31 rfl ek3 ?_
    refine tq_iload_n (M := mX11_isNode) (pc := 18) dX11_isNode_18 rfl ?_
    obtain ⟨x4, ex4, hf⟩ := tq_be hf
    refine tq_zaldF (M := mX11_isNode) (pc := 19) dX11_isNode_19 ex4 ?_
    refine tq_if_eq (M := mX11_isNode) (pc := 20) (tgt := 27) dX11_isNode_20 (by decide) (fun cc => ?_) (fun cc => ?_)
    · have hf := tq_ifp hf cc
      refine tq_iconst (M := mX11_isNode) (pc := 27) dX11_isNode_27 tk_ki_0 ?_
      refine tq_pick (L2 := []) [] rfl ?_
      cases (Option.some.inj hf)
      exact HJ11
    · have hf := tq_ifn hf cc
      refine tq_iconst (M := mX11_isNode) (pc := 23) dX11_isNode_23 tk_ki_1 ?_
      refine tq_goto (M := mX11_isNode) (pc := 24) (tgt := 28) dX11_isNode_24 (by decide) ?_
      refine tq_pick (L2 := []) [] rfl ?_
      cases (Option.some.inj hf)
      exact HJ11
abbrev mX11_isBelow : tq_M := (RX11, cX11_isBelow, 4, (some .boolean), false, [], none)
def f_X11_isBelow_b7 (i0 : Nat) (i2 : Int32) (hh : tq_H) (s : Int32) : Option ((Int32) ⊕ (Int32)) := match s with
  | y3 =>
    if y3 = (-1 : Int32) then
      some (.inr y3)
    else
      if y3 = i2 then
        some (.inr y3)
      else
        (tq_gr hh i0 11 6).bind fun k3 =>
        (tq_ai hh k3 y3).bind fun x4 =>
        some (.inl x4)
def f_X11_isBelow (t : Nat) (a1 : Int32) (a2 : Int32) (h : tq_H) : Option (Int32) :=
  (tq_gr h t 11 6).bind fun k1 =>
  (tq_ai h k1 a1).bind fun x2 =>
  (tq_loop (f_X11_isBelow_b7 t a2 h) tq_N x2).bind fun o5 =>
  tq_let (if o5 = (-1 : Int32) then (0 : Int32) else (1 : Int32)) fun p6 =>
  (tq_bz p6).bind fun z7 =>
  some z7
set_option maxHeartbeats 4000000 in
theorem l_X11_isBelow_7 {l : Launch} {d : Nat} {Q : tq_R → tq_H → Prop} (hd9 : 0 ≤ d) (i0 : Nat) (i2 : Int32) (hh : tq_H) : ∀ (n : Nat) (y3 : Int32) (o : Int32), tq_loop (f_X11_isBelow_b7 i0 i2 hh) n y3 = some o → tq_W l mX11_isBelow d 0 0 Q 27 [(3, .int o)] [] hh → tq_W l mX11_isBelow d 0 0 Q 7 [(0, .ref i0), (2, .int i2), (3, .int y3)] [] hh := by
  intro n
  induction n with
  | zero => intro y3 o hl; cases hl
  | succ n ih =>
    intro y3 o hl hk
    obtain ⟨oo, hf, ho⟩ := tq_loop_s hl
    refine tq_iload_n (M := mX11_isBelow) (pc := 7) dX11_isBelow_7 rfl ?_
    refine tq_iconst (M := mX11_isBelow) (pc := 8) dX11_isBelow_8 tk_ki_m1 ?_
    refine tq_icmp_eq (M := mX11_isBelow) (pc := 9) (tgt := 27) dX11_isBelow_9 (by decide) (fun cc => ?_) (fun cc => ?_)
    · have hf := tq_ifp hf cc
      refine tq_pick (L2 := [(3, .int y3)]) [2] rfl ?_
      cases (Option.some.inj hf)
      cases (tq_lx ho)
      exact hk
    · have hf := tq_ifn hf cc
      refine tq_iload_n (M := mX11_isBelow) (pc := 12) dX11_isBelow_12 rfl ?_
      refine tq_iload_n (M := mX11_isBelow) (pc := 13) dX11_isBelow_13 rfl ?_
      refine tq_icmp_eq (M := mX11_isBelow) (pc := 14) (tgt := 27) dX11_isBelow_14 (by decide) (fun cc => ?_) (fun cc => ?_)
      · have hf := tq_ifp hf cc
        refine tq_pick (L2 := [(3, .int y3)]) [2] rfl ?_
        cases (Option.some.inj hf)
        cases (tq_lx ho)
        exact hk
      · have hf := tq_ifn hf cc
        refine tq_aload_n (M := mX11_isBelow) (pc := 17) dX11_isBelow_17 rfl ?_
        obtain ⟨k3, ek3, hf⟩ := tq_be hf
        refine tq_getR (M := mX11_isBelow) (pc := 18) tk_c11 (by decide) dX11_isBelow_18 tk_RX11_22 rfl ek3 ?_
        refine tq_iload_n (M := mX11_isBelow) (pc := 21) dX11_isBelow_21 rfl ?_
        obtain ⟨x4, ex4, hf⟩ := tq_be hf
        refine tq_ialdF (M := mX11_isBelow) (pc := 22) dX11_isBelow_22 ex4 ?_
        refine tq_istore_n (M := mX11_isBelow) (pc := 23) rfl dX11_isBelow_23 (L2 := [(3, .int x4), (0, .ref i0), (2, .int i2)]) (by decide) rfl ?_
        refine tq_goto (M := mX11_isBelow) (pc := 24) (tgt := 7) dX11_isBelow_24 (by decide) ?_
        refine tq_pick (L2 := [(0, .ref i0), (2, .int i2), (3, .int x4)]) [1, 2, 0] rfl ?_
        cases (Option.some.inj hf)
        exact ih _ o (tq_lc ho) hk
set_option maxHeartbeats 4000000 in
set_option maxRecDepth 20000 in
theorem w_X11_isBelow {l : Launch} {d : Nat} (hd9 : 0 ≤ d) {t : Nat} {a1 : Int32} {a2 : Int32} {h : tq_H} {o : Int32} {Q : tq_R → tq_H → Prop} (hf : f_X11_isBelow t a1 a2 h = some o) (hQ : ∀ r h9, r = .inl (some (.int o)) ∧ h = h9 → Q r h9) : tq_C l yX11_isBelow cX11_isBelow 4 (some .boolean) d 0 0 [.ref t, .int a1, .int a2] h Q := by
  refine tq_body (y := yX11_isBelow) false (by decide +kernel) (fun z => by cases z) (Nat.le_of_ble_eq_true rfl) ?_
  show tq_W l mX11_isBelow d 0 0 Q 0 [(0, .ref t), (1, .int a1), (2, .int a2)] [] h
  refine tq_aload_n (M := mX11_isBelow) (pc := 0) dX11_isBelow_0 rfl ?_
  obtain ⟨k1, ek1, hf⟩ := tq_be hf
  refine tq_getR (M := mX11_isBelow) (pc := 1) tk_c11 (by decide) dX11_isBelow_1 tk_RX11_22 rfl ek1 ?_
  refine tq_iload_n (M := mX11_isBelow) (pc := 4) dX11_isBelow_4 rfl ?_
  obtain ⟨x2, ex2, hf⟩ := tq_be hf
  refine tq_ialdF (M := mX11_isBelow) (pc := 5) dX11_isBelow_5 ex2 ?_
  refine tq_istore_n (M := mX11_isBelow) (pc := 6) rfl dX11_isBelow_6 (L2 := [(3, .int x2), (0, .ref t), (1, .int a1), (2, .int a2)]) (by decide) rfl ?_
  obtain ⟨o5, eo5, hf⟩ := tq_be hf
  refine tq_pick (L2 := [(0, .ref t), (2, .int a2), (3, .int x2)]) [1, 3, 0] rfl ?_
  refine l_X11_isBelow_7 (by omega) t a2 h _ x2 _ eo5 ?_
  refine tq_iload_n (M := mX11_isBelow) (pc := 27) dX11_isBelow_27 rfl ?_
  refine tq_iconst (M := mX11_isBelow) (pc := 28) dX11_isBelow_28 tk_ki_m1 ?_
  obtain ⟨p6, ep6, hf⟩ := tq_le hf
  have HJ29 : tq_W l mX11_isBelow d 0 0 Q 37 [] [.int p6] h := by
    obtain ⟨z7, ez7, hf⟩ := tq_be hf
    refine tq_zretB (M := mX11_isBelow) (pc := 37) dX11_isBelow_37 rfl ez7 ?_
    cases (Option.some.inj hf)
    exact hQ _ _ ⟨rfl, rfl⟩
  refine tq_icmp_eq (M := mX11_isBelow) (pc := 29) (tgt := 36) dX11_isBelow_29 (by decide) (fun cc => ?_) (fun cc => ?_)
  · have hf := tq_ifp ep6.symm cc
    refine tq_iconst (M := mX11_isBelow) (pc := 36) dX11_isBelow_36 tk_ki_0 ?_
    refine tq_pick (L2 := []) [] rfl ?_
    cases hf
    exact HJ29
  · have hf := tq_ifn ep6.symm cc
    refine tq_iconst (M := mX11_isBelow) (pc := 32) dX11_isBelow_32 tk_ki_1 ?_
    refine tq_goto (M := mX11_isBelow) (pc := 33) (tgt := 37) dX11_isBelow_33 (by decide) ?_
    refine tq_pick (L2 := []) [] rfl ?_
    cases hf
    exact HJ29
abbrev mX11_spaceOf : tq_M := (RX11, cX11_spaceOf, 3, (some .int), false, [], none)
def f_X11_spaceOf_b2 (i0 : Nat) (hh : tq_H) (s : Int32) : Option ((Int32) ⊕ (Int32)) := match s with
  | y2 =>
    if y2 = (-1 : Int32) then
      some (.inr y2)
    else
      (tq_gr hh i0 11 5).bind fun k1 =>
      (tq_ai hh k1 y2).bind fun x2 =>
      if x2 = (-1 : Int32) then
        (tq_gr hh i0 11 6).bind fun k3 =>
        (tq_ai hh k3 y2).bind fun x4 =>
        some (.inl x4)
      else
        some (.inr y2)
def f_X11_spaceOf (t : Nat) (a1 : Int32) (h : tq_H) : Option (Int32) :=
  (tq_loop (f_X11_spaceOf_b2 t h) tq_N a1).bind fun o5 =>
  (if o5 = (-1 : Int32) then
    some (0 : Int32)
  else
    (tq_gr h t 11 5).bind fun k6 =>
    (tq_ai h k6 o5).bind fun x7 =>
    some x7).bind fun p8 =>
  some p8
set_option maxHeartbeats 4000000 in
theorem l_X11_spaceOf_2 {l : Launch} {d : Nat} {Q : tq_R → tq_H → Prop} (hd9 : 0 ≤ d) (i0 : Nat) (hh : tq_H) : ∀ (n : Nat) (y2 : Int32) (o : Int32), tq_loop (f_X11_spaceOf_b2 i0 hh) n y2 = some o → tq_W l mX11_spaceOf d 0 0 Q 27 [(0, .ref i0), (2, .int o)] [] hh → tq_W l mX11_spaceOf d 0 0 Q 2 [(0, .ref i0), (2, .int y2)] [] hh := by
  intro n
  induction n with
  | zero => intro y2 o hl; cases hl
  | succ n ih =>
    intro y2 o hl hk
    obtain ⟨oo, hf, ho⟩ := tq_loop_s hl
    refine tq_iload_n (M := mX11_spaceOf) (pc := 2) dX11_spaceOf_2 rfl ?_
    refine tq_iconst (M := mX11_spaceOf) (pc := 3) dX11_spaceOf_3 tk_ki_m1 ?_
    refine tq_icmp_eq (M := mX11_spaceOf) (pc := 4) (tgt := 27) dX11_spaceOf_4 (by decide) (fun cc => ?_) (fun cc => ?_)
    · have hf := tq_ifp hf cc
      cases (Option.some.inj hf)
      cases (tq_lx ho)
      exact hk
    · have hf := tq_ifn hf cc
      refine tq_aload_n (M := mX11_spaceOf) (pc := 7) dX11_spaceOf_7 rfl ?_
      obtain ⟨k1, ek1, hf⟩ := tq_be hf
      refine tq_getR (M := mX11_spaceOf) (pc := 8) tk_c11 (by decide) dX11_spaceOf_8 tk_RX11_19 rfl ek1 ?_
      refine tq_iload_n (M := mX11_spaceOf) (pc := 11) dX11_spaceOf_11 rfl ?_
      obtain ⟨x2, ex2, hf⟩ := tq_be hf
      refine tq_ialdF (M := mX11_spaceOf) (pc := 12) dX11_spaceOf_12 ex2 ?_
      refine tq_iconst (M := mX11_spaceOf) (pc := 13) dX11_spaceOf_13 tk_ki_m1 ?_
      refine tq_icmp_ne (M := mX11_spaceOf) (pc := 14) (tgt := 27) dX11_spaceOf_14 (by decide) (fun cc => ?_) (fun cc => ?_)
      · have hf := tq_ifn hf cc
        cases (Option.some.inj hf)
        cases (tq_lx ho)
        exact hk
      · have hf := tq_ifp hf cc
        refine tq_aload_n (M := mX11_spaceOf) (pc := 17) dX11_spaceOf_17 rfl ?_
        obtain ⟨k3, ek3, hf⟩ := tq_be hf
        refine tq_getR (M := mX11_spaceOf) (pc := 18) tk_c11 (by decide) dX11_spaceOf_18 tk_RX11_22 rfl ek3 ?_
        refine tq_iload_n (M := mX11_spaceOf) (pc := 21) dX11_spaceOf_21 rfl ?_
        obtain ⟨x4, ex4, hf⟩ := tq_be hf
        refine tq_ialdF (M := mX11_spaceOf) (pc := 22) dX11_spaceOf_22 ex4 ?_
        refine tq_istore_n (M := mX11_spaceOf) (pc := 23) rfl dX11_spaceOf_23 (L2 := [(2, .int x4), (0, .ref i0)]) (by decide) rfl ?_
        refine tq_goto (M := mX11_spaceOf) (pc := 24) (tgt := 2) dX11_spaceOf_24 (by decide) ?_
        refine tq_pick (L2 := [(0, .ref i0), (2, .int x4)]) [1, 0] rfl ?_
        cases (Option.some.inj hf)
        exact ih _ o (tq_lc ho) hk
set_option maxHeartbeats 4000000 in
set_option maxRecDepth 20000 in
theorem w_X11_spaceOf {l : Launch} {d : Nat} (hd9 : 0 ≤ d) {t : Nat} {a1 : Int32} {h : tq_H} {o : Int32} {Q : tq_R → tq_H → Prop} (hf : f_X11_spaceOf t a1 h = some o) (hQ : ∀ r h9, r = .inl (some (.int o)) ∧ h = h9 → Q r h9) : tq_C l yX11_spaceOf cX11_spaceOf 3 (some .int) d 0 0 [.ref t, .int a1] h Q := by
  refine tq_body (y := yX11_spaceOf) false (by decide +kernel) (fun z => by cases z) (Nat.le_of_ble_eq_true rfl) ?_
  show tq_W l mX11_spaceOf d 0 0 Q 0 [(0, .ref t), (1, .int a1)] [] h
  refine tq_iload_n (M := mX11_spaceOf) (pc := 0) dX11_spaceOf_0 rfl ?_
  refine tq_istore_n (M := mX11_spaceOf) (pc := 1) rfl dX11_spaceOf_1 (L2 := [(2, .int a1), (0, .ref t), (1, .int a1)]) (by decide) rfl ?_
  obtain ⟨o5, eo5, hf⟩ := tq_be hf
  refine tq_pick (L2 := [(0, .ref t), (2, .int a1)]) [1, 0] rfl ?_
  refine l_X11_spaceOf_2 (by omega) t h _ a1 _ eo5 ?_
  refine tq_iload_n (M := mX11_spaceOf) (pc := 27) dX11_spaceOf_27 rfl ?_
  refine tq_iconst (M := mX11_spaceOf) (pc := 28) dX11_spaceOf_28 tk_ki_m1 ?_
  obtain ⟨p8, ep8, hf⟩ := tq_be hf
  have HJ29 : tq_W l mX11_spaceOf d 0 0 Q 42 [] [.int p8] h := by
    refine tq_iret (M := mX11_spaceOf) (pc := 42) dX11_spaceOf_42 rfl ?_
    cases (Option.some.inj hf)
    exact hQ _ _ ⟨rfl, rfl⟩
  refine tq_icmp_ne (M := mX11_spaceOf) (pc := 29) (tgt := 36) dX11_spaceOf_29 (by decide) (fun cc => ?_) (fun cc => ?_)
  · have hf := tq_ifn ep8 cc
    refine tq_aload_n (M := mX11_spaceOf) (pc := 36) dX11_spaceOf_36 rfl ?_
    obtain ⟨k6, ek6, hf⟩ := tq_be hf
    refine tq_getR (M := mX11_spaceOf) (pc := 37) tk_c11 (by decide) dX11_spaceOf_37 tk_RX11_19 rfl ek6 ?_
    refine tq_iload_n (M := mX11_spaceOf) (pc := 40) dX11_spaceOf_40 rfl ?_
    obtain ⟨x7, ex7, hf⟩ := tq_be hf
    refine tq_ialdF (M := mX11_spaceOf) (pc := 41) dX11_spaceOf_41 ex7 ?_
    refine tq_pick (L2 := []) [] rfl ?_
    cases (Option.some.inj hf)
    exact HJ29
  · have hf := tq_ifp ep8 cc
    refine tq_iconst (M := mX11_spaceOf) (pc := 32) dX11_spaceOf_32 tk_ki_0 ?_
    refine tq_goto (M := mX11_spaceOf) (pc := 33) (tgt := 42) dX11_spaceOf_33 (by decide) ?_
    refine tq_pick (L2 := []) [] rfl ?_
    cases (Option.some.inj hf)
    exact HJ29
abbrev mX11_valueOf : tq_M := (RX11, cX11_valueOf, 7, (some .int), false, [], none)
def f_X11_valueOf_b27 (i0 : Nat) (i1 : Int32) (i2 : Int64) (hh : tq_H) (s : Int32 × Int32) : Option ((Int32 × Int32) ⊕ (Int32)) := match s with
  | (y4, y5) =>
    if y5 < 0 then
      some (.inr y4)
    else
      (tq_gr hh i0 11 12).bind fun k5 =>
      (tq_ai hh k5 y5).bind fun x6 =>
      (tq_gr hh i0 11 2).bind fun k7 =>
      (tq_ai hh k7 x6).bind fun x8 =>
      (if x8 = (1 : Int32) then
        if (lg_cmp ((i2 >>> (x6.toInt64 &&& 63)) &&& (1 : Int64)) (1 : Int64)) = 0 then
          (tq_is hh i0 11).bind fun _ =>
          (f_X11_isBelow i0 x6 i1 hh).bind fun v9 =>
          if v9 = 0 then
            some y4
          else
            (tq_gr hh i0 11 4).bind fun k11 =>
            (tq_ai hh k11 x6).bind fun x12 =>
            some x12
        else
          some y4
      else
        some y4).bind fun p13 =>
      tq_let (y5 + (-1 : Int32)) fun x14 =>
      some (.inl (p13, x14))
def f_X11_valueOf (t : Nat) (a1 : Int32) (a2 : Int64) (h : tq_H) : Option (Int32) :=
  (tq_gr h t 11 2).bind fun k1 =>
  (tq_ai h k1 a1).bind fun x2 =>
  if x2 = 0 then
    (tq_gi h t 11 11).bind fun x3 =>
    tq_let ((x3 - (1 : Int32))) fun x4 =>
    (tq_loop (f_X11_valueOf_b27 t a1 a2 h) tq_N ((-1 : Int32), x4)).bind fun o15 =>
    some o15
  else
    (tq_gr h t 11 4).bind fun k16 =>
    (tq_ai h k16 a1).bind fun x17 =>
    some x17
set_option maxHeartbeats 4000000 in
theorem l_X11_valueOf_27 {l : Launch} {d : Nat} {Q : tq_R → tq_H → Prop} (hd9 : 1 ≤ d) (i0 : Nat) (i1 : Int32) (i2 : Int64) (hh : tq_H) : ∀ (n : Nat) (y4 : Int32) (y5 : Int32) (o : Int32), tq_loop (f_X11_valueOf_b27 i0 i1 i2 hh) n (y4, y5) = some o → tq_W l mX11_valueOf d 0 0 Q 93 [(4, .int o)] [] hh → tq_W l mX11_valueOf d 0 0 Q 27 [(0, .ref i0), (1, .int i1), (2, .long i2), (4, .int y4), (5, .int y5)] [] hh := by
  intro n
  induction n with
  | zero => intro y4 y5 o hl; cases hl
  | succ n ih =>
    intro y4 y5 o hl hk
    obtain ⟨oo, hf, ho⟩ := tq_loop_s hl
    refine tq_iload (M := mX11_valueOf) (pc := 27) dX11_valueOf_27 rfl ?_
    refine tq_if_lt (M := mX11_valueOf) (pc := 29) (tgt := 93) dX11_valueOf_29 (by decide) (fun cc => ?_) (fun cc => ?_)
    · have hf := tq_ifp hf cc
      refine tq_pick (L2 := [(4, .int y4)]) [3] rfl ?_
      cases (Option.some.inj hf)
      cases (tq_lx ho)
      exact hk
    · have hf := tq_ifn hf cc
      refine tq_aload_n (M := mX11_valueOf) (pc := 32) dX11_valueOf_32 rfl ?_
      obtain ⟨k5, ek5, hf⟩ := tq_be hf
      refine tq_getR (M := mX11_valueOf) (pc := 33) tk_c11 (by decide) dX11_valueOf_33 tk_RX11_35 rfl ek5 ?_
      refine tq_iload (M := mX11_valueOf) (pc := 36) dX11_valueOf_36 rfl ?_
      obtain ⟨x6, ex6, hf⟩ := tq_be hf
      refine tq_ialdF (M := mX11_valueOf) (pc := 38) dX11_valueOf_38 ex6 ?_
      refine tq_istore (M := mX11_valueOf) (pc := 39) dX11_valueOf_39 (L2 := [(6, .int x6), (0, .ref i0), (1, .int i1), (2, .long i2), (4, .int y4), (5, .int y5)]) (by decide) rfl ?_
      refine tq_aload_n (M := mX11_valueOf) (pc := 41) dX11_valueOf_41 rfl ?_
      obtain ⟨k7, ek7, hf⟩ := tq_be hf
      refine tq_getR (M := mX11_valueOf) (pc := 42) tk_c11 (by decide) dX11_valueOf_42 tk_RX11_7 rfl ek7 ?_
      refine tq_iload (M := mX11_valueOf) (pc := 45) dX11_valueOf_45 rfl ?_
      obtain ⟨x8, ex8, hf⟩ := tq_be hf
      refine tq_ialdF (M := mX11_valueOf) (pc := 47) dX11_valueOf_47 ex8 ?_
      refine tq_iconst (M := mX11_valueOf) (pc := 48) dX11_valueOf_48 tk_ki_1 ?_
      obtain ⟨p13, ep13, hf⟩ := tq_be hf
      have HJ49 : tq_W l mX11_valueOf d 0 0 Q 85 [(0, .ref i0), (1, .int i1), (2, .long i2), (5, .int y5)] [.int p13] hh := by
        refine tq_istore (M := mX11_valueOf) (pc := 85) dX11_valueOf_85 (L2 := [(4, .int p13), (0, .ref i0), (1, .int i1), (2, .long i2), (5, .int y5)]) (by decide) rfl ?_
        obtain ⟨x14, ex14, hf⟩ := tq_le hf
        refine tq_iinc (M := mX11_valueOf) (pc := 87) (v := x14) (L2 := [(5, .int x14), (4, .int p13), (0, .ref i0), (1, .int i1), (2, .long i2)]) dX11_valueOf_87 rfl (by rw [ex14, tk_ki_m1]) (by decide) rfl ?_
        refine tq_goto (M := mX11_valueOf) (pc := 90) (tgt := 27) dX11_valueOf_90 (by decide) ?_
        refine tq_pick (L2 := [(0, .ref i0), (1, .int i1), (2, .long i2), (4, .int p13), (5, .int x14)]) [2, 3, 4, 1, 0] rfl ?_
        cases (Option.some.inj hf)
        exact ih _ _ o (tq_lc ho) hk
      refine tq_icmp_ne (M := mX11_valueOf) (pc := 49) (tgt := 83) dX11_valueOf_49 (by decide) (fun cc => ?_) (fun cc => ?_)
      · have hf := tq_ifn ep13 cc
        refine tq_iload (M := mX11_valueOf) (pc := 83) dX11_valueOf_83 rfl ?_
        refine tq_pick (L2 := [(0, .ref i0), (1, .int i1), (2, .long i2), (5, .int y5)]) [1, 2, 3, 5] rfl ?_
        cases (Option.some.inj hf)
        exact HJ49
      · have hf := tq_ifp ep13 cc
        refine tq_lload_n (M := mX11_valueOf) (pc := 52) dX11_valueOf_52 rfl ?_
        refine tq_iload (M := mX11_valueOf) (pc := 53) dX11_valueOf_53 rfl ?_
        refine tq_lshr (M := mX11_valueOf) (pc := 55) dX11_valueOf_55 ?_
        refine tq_lconst (M := mX11_valueOf) (pc := 56) dX11_valueOf_56 tk_kl_1 ?_
        refine tq_land (M := mX11_valueOf) (pc := 57) dX11_valueOf_57 ?_
        refine tq_lconst (M := mX11_valueOf) (pc := 58) dX11_valueOf_58 tk_kl_1 ?_
        refine tq_lcmp (M := mX11_valueOf) (pc := 59) dX11_valueOf_59 ?_
        refine tq_if_ne (M := mX11_valueOf) (pc := 60) (tgt := 83) dX11_valueOf_60 (by decide) (fun cc => ?_) (fun cc => ?_)
        · have hf := tq_ifn hf cc
          refine tq_iload (M := mX11_valueOf) (pc := 83) dX11_valueOf_83 rfl ?_
          refine tq_pick (L2 := [(0, .ref i0), (1, .int i1), (2, .long i2), (5, .int y5)]) [1, 2, 3, 5] rfl ?_
          cases (Option.some.inj hf)
          exact HJ49
        · have hf := tq_ifp hf cc
          refine tq_aload_n (M := mX11_valueOf) (pc := 63) dX11_valueOf_63 rfl ?_
          refine tq_iload (M := mX11_valueOf) (pc := 64) dX11_valueOf_64 rfl ?_
          refine tq_iload_n (M := mX11_valueOf) (pc := 66) dX11_valueOf_66 rfl ?_
          obtain ⟨⟨⟩, eu10, hf⟩ := tq_be hf
          obtain ⟨fsu10, eu10⟩ := tq_is_s eu10
          obtain ⟨v9, ev9, hf⟩ := tq_be hf
          refine tq_calV (M := mX11_valueOf) (pc := 67) (S := []) tk_y_X11_isBelow tk_v_X11_isBelow tk_RX11_187 dX11_valueOf_67 [.int x6, .int i1] rfl (S0 := _) rfl eu10 rfl (Nat.le_of_ble_eq_true rfl) (d1 := d - 1) (b1 := 0) (s1 := 0) (bc' := 0) (bs' := 0) (Q1 := fun r h9 => r = .inl (some (.int v9)) ∧ hh = h9) (by omega) rfl rfl (w_X11_isBelow (by omega) ev9 (fun _ _ q => q)) (fun E h9 q => nomatch (show (Sum.inr E : tq_R) = Sum.inl _ from q.1)) (fun r9 h9 q => ?_)
          obtain ⟨q1, rfl⟩ := q
          cases (show (Sum.inl r9 : tq_R) = Sum.inl (some (.int v9)) from q1)
          refine tq_if_eq (M := mX11_valueOf) (pc := 70) (tgt := 83) dX11_valueOf_70 (by decide) (fun cc => ?_) (fun cc => ?_)
          · have hf := tq_ifp hf cc
            refine tq_iload (M := mX11_valueOf) (pc := 83) dX11_valueOf_83 rfl ?_
            refine tq_pick (L2 := [(0, .ref i0), (1, .int i1), (2, .long i2), (5, .int y5)]) [1, 2, 3, 5] rfl ?_
            cases (Option.some.inj hf)
            exact HJ49
          · have hf := tq_ifn hf cc
            refine tq_aload_n (M := mX11_valueOf) (pc := 73) dX11_valueOf_73 rfl ?_
            obtain ⟨k11, ek11, hf⟩ := tq_be hf
            refine tq_getR (M := mX11_valueOf) (pc := 74) tk_c11 (by decide) dX11_valueOf_74 tk_RX11_16 rfl ek11 ?_
            refine tq_iload (M := mX11_valueOf) (pc := 77) dX11_valueOf_77 rfl ?_
            obtain ⟨x12, ex12, hf⟩ := tq_be hf
            refine tq_ialdF (M := mX11_valueOf) (pc := 79) dX11_valueOf_79 ex12 ?_
            refine tq_goto (M := mX11_valueOf) (pc := 80) (tgt := 85) dX11_valueOf_80 (by decide) ?_
            refine tq_pick (L2 := [(0, .ref i0), (1, .int i1), (2, .long i2), (5, .int y5)]) [1, 2, 3, 5] rfl ?_
            cases (Option.some.inj hf)
            exact HJ49
set_option maxHeartbeats 4000000 in
set_option maxRecDepth 20000 in
theorem w_X11_valueOf {l : Launch} {d : Nat} (hd9 : 1 ≤ d) {t : Nat} {a1 : Int32} {a2 : Int64} {h : tq_H} {o : Int32} {Q : tq_R → tq_H → Prop} (hf : f_X11_valueOf t a1 a2 h = some o) (hQ : ∀ r h9, r = .inl (some (.int o)) ∧ h = h9 → Q r h9) : tq_C l yX11_valueOf cX11_valueOf 7 (some .int) d 0 0 [.ref t, .int a1, .long a2] h Q := by
  refine tq_body (y := yX11_valueOf) false (by decide +kernel) (fun z => by cases z) (Nat.le_of_ble_eq_true rfl) ?_
  show tq_W l mX11_valueOf d 0 0 Q 0 [(0, .ref t), (1, .int a1), (2, .long a2)] [] h
  refine tq_aload_n (M := mX11_valueOf) (pc := 0) dX11_valueOf_0 rfl ?_
  obtain ⟨k1, ek1, hf⟩ := tq_be hf
  refine tq_getR (M := mX11_valueOf) (pc := 1) tk_c11 (by decide) dX11_valueOf_1 tk_RX11_7 rfl ek1 ?_
  refine tq_iload_n (M := mX11_valueOf) (pc := 4) dX11_valueOf_4 rfl ?_
  obtain ⟨x2, ex2, hf⟩ := tq_be hf
  refine tq_ialdF (M := mX11_valueOf) (pc := 5) dX11_valueOf_5 ex2 ?_
  refine tq_if_eq (M := mX11_valueOf) (pc := 6) (tgt := 16) dX11_valueOf_6 (by decide) (fun cc => ?_) (fun cc => ?_)
  · have hf := tq_ifp hf cc
    refine tq_iconst (M := mX11_valueOf) (pc := 16) dX11_valueOf_16 tk_ki_m1 ?_
    refine tq_istore (M := mX11_valueOf) (pc := 17) dX11_valueOf_17 (L2 := [(4, .int (-1 : Int32)), (0, .ref t), (1, .int a1), (2, .long a2)]) (by decide) rfl ?_
    refine tq_aload_n (M := mX11_valueOf) (pc := 19) dX11_valueOf_19 rfl ?_
    obtain ⟨x3, ex3, hf⟩ := tq_be hf
    refine tq_getI (M := mX11_valueOf) (pc := 20) tk_c11 (by decide) dX11_valueOf_20 tk_RX11_173 rfl ex3 ?_
    refine tq_iconst (M := mX11_valueOf) (pc := 23) dX11_valueOf_23 tk_ki_1 ?_
    refine tq_isub (M := mX11_valueOf) (pc := 24) dX11_valueOf_24 ?_
    obtain ⟨x4, ex4, hf⟩ := tq_le hf
    refine tq_istore (M := mX11_valueOf) (pc := 25) dX11_valueOf_25 (L2 := [(5, .int x4), (4, .int (-1 : Int32)), (0, .ref t), (1, .int a1), (2, .long a2)]) (by decide) (by rw [ex4]; rfl) ?_
    obtain ⟨o15, eo15, hf⟩ := tq_be hf
    refine tq_pick (L2 := [(0, .ref t), (1, .int a1), (2, .long a2), (4, .int (-1 : Int32)), (5, .int x4)]) [2, 3, 4, 1, 0] rfl ?_
    refine l_X11_valueOf_27 (by omega) t a1 a2 h _ (-1 : Int32) x4 _ eo15 ?_
    refine tq_iload (M := mX11_valueOf) (pc := 93) dX11_valueOf_93 rfl ?_
    refine tq_iret (M := mX11_valueOf) (pc := 95) dX11_valueOf_95 rfl ?_
    cases (Option.some.inj hf)
    exact hQ _ _ ⟨rfl, rfl⟩
  · have hf := tq_ifn hf cc
    refine tq_aload_n (M := mX11_valueOf) (pc := 9) dX11_valueOf_9 rfl ?_
    obtain ⟨k16, ek16, hf⟩ := tq_be hf
    refine tq_getR (M := mX11_valueOf) (pc := 10) tk_c11 (by decide) dX11_valueOf_10 tk_RX11_16 rfl ek16 ?_
    refine tq_iload_n (M := mX11_valueOf) (pc := 13) dX11_valueOf_13 rfl ?_
    obtain ⟨x17, ex17, hf⟩ := tq_be hf
    refine tq_ialdF (M := mX11_valueOf) (pc := 14) dX11_valueOf_14 ex17 ?_
    refine tq_iret (M := mX11_valueOf) (pc := 15) dX11_valueOf_15 rfl ?_
    cases (Option.some.inj hf)
    exact hQ _ _ ⟨rfl, rfl⟩
abbrev mX11_all : tq_M := (RX11, cX11_all, 4, (some .long), false, [], none)
def f_X11_all_b4 (i0 : Nat) (hh : tq_H) (s : Int64 × Int32) : Option ((Int64 × Int32) ⊕ (Int64)) := match s with
  | (y1, y3) =>
    (tq_gi hh i0 11 11).bind fun x1 =>
    if y3 ≥ x1 then
      some (.inr y1)
    else
      (tq_gr hh i0 11 12).bind fun k2 =>
      (tq_ai hh k2 y3).bind fun x3 =>
      tq_let ((y1 ||| ((1 : Int64) <<< (x3.toInt64 &&& 63)))) fun x4 =>
      tq_let (y3 + (1 : Int32)) fun x5 =>
      some (.inl (x4, x5))
def f_X11_all (t : Nat) (h : tq_H) : Option (Int64) :=
  (tq_loop (f_X11_all_b4 t h) tq_N ((0 : Int64), (0 : Int32))).bind fun o6 =>
  some o6
set_option maxHeartbeats 4000000 in
theorem l_X11_all_4 {l : Launch} {d : Nat} {Q : tq_R → tq_H → Prop} (hd9 : 0 ≤ d) (i0 : Nat) (hh : tq_H) : ∀ (n : Nat) (y1 : Int64) (y3 : Int32) (o : Int64), tq_loop (f_X11_all_b4 i0 hh) n (y1, y3) = some o → tq_W l mX11_all d 0 0 Q 29 [(1, .long o)] [] hh → tq_W l mX11_all d 0 0 Q 4 [(0, .ref i0), (1, .long y1), (3, .int y3)] [] hh := by
  intro n
  induction n with
  | zero => intro y1 y3 o hl; cases hl
  | succ n ih =>
    intro y1 y3 o hl hk
    obtain ⟨oo, hf, ho⟩ := tq_loop_s hl
    refine tq_iload_n (M := mX11_all) (pc := 4) dX11_all_4 rfl ?_
    refine tq_aload_n (M := mX11_all) (pc := 5) dX11_all_5 rfl ?_
    obtain ⟨x1, ex1, hf⟩ := tq_be hf
    refine tq_getI (M := mX11_all) (pc := 6) tk_c11 (by decide) dX11_all_6 tk_RX11_173 rfl ex1 ?_
    refine tq_icmp_ge (M := mX11_all) (pc := 9) (tgt := 29) dX11_all_9 (by decide) (fun cc => ?_) (fun cc => ?_)
    · have hf := tq_ifp hf cc
      refine tq_pick (L2 := [(1, .long y1)]) [1] rfl ?_
      cases (Option.some.inj hf)
      cases (tq_lx ho)
      exact hk
    · have hf := tq_ifn hf cc
      refine tq_lload_n (M := mX11_all) (pc := 12) dX11_all_12 rfl ?_
      refine tq_lconst (M := mX11_all) (pc := 13) dX11_all_13 tk_kl_1 ?_
      refine tq_aload_n (M := mX11_all) (pc := 14) dX11_all_14 rfl ?_
      obtain ⟨k2, ek2, hf⟩ := tq_be hf
      refine tq_getR (M := mX11_all) (pc := 15) tk_c11 (by decide) dX11_all_15 tk_RX11_35 rfl ek2 ?_
      refine tq_iload_n (M := mX11_all) (pc := 18) dX11_all_18 rfl ?_
      obtain ⟨x3, ex3, hf⟩ := tq_be hf
      refine tq_ialdF (M := mX11_all) (pc := 19) dX11_all_19 ex3 ?_
      refine tq_lshl (M := mX11_all) (pc := 20) dX11_all_20 ?_
      refine tq_lor (M := mX11_all) (pc := 21) dX11_all_21 ?_
      obtain ⟨x4, ex4, hf⟩ := tq_le hf
      refine tq_lstore_n (M := mX11_all) (pc := 22) rfl dX11_all_22 (L2 := [(1, .long x4), (0, .ref i0), (3, .int y3)]) (by decide) (by rw [ex4]; rfl) ?_
      obtain ⟨x5, ex5, hf⟩ := tq_le hf
      refine tq_iinc (M := mX11_all) (pc := 23) (v := x5) (L2 := [(3, .int x5), (1, .long x4), (0, .ref i0)]) dX11_all_23 rfl (by rw [ex5, tk_ki_1]) (by decide) rfl ?_
      refine tq_goto (M := mX11_all) (pc := 26) (tgt := 4) dX11_all_26 (by decide) ?_
      refine tq_pick (L2 := [(0, .ref i0), (1, .long x4), (3, .int x5)]) [2, 1, 0] rfl ?_
      cases (Option.some.inj hf)
      exact ih _ _ o (tq_lc ho) hk
set_option maxHeartbeats 4000000 in
set_option maxRecDepth 20000 in
theorem w_X11_all {l : Launch} {d : Nat} (hd9 : 0 ≤ d) {t : Nat} {h : tq_H} {o : Int64} {Q : tq_R → tq_H → Prop} (hf : f_X11_all t h = some o) (hQ : ∀ r h9, r = .inl (some (.long o)) ∧ h = h9 → Q r h9) : tq_C l yX11_all cX11_all 4 (some .long) d 0 0 [.ref t] h Q := by
  refine tq_body (y := yX11_all) false (by decide +kernel) (fun z => by cases z) (Nat.le_of_ble_eq_true rfl) ?_
  show tq_W l mX11_all d 0 0 Q 0 [(0, .ref t)] [] h
  refine tq_lconst (M := mX11_all) (pc := 0) dX11_all_0 tk_kl_0 ?_
  refine tq_lstore_n (M := mX11_all) (pc := 1) rfl dX11_all_1 (L2 := [(1, .long (0 : Int64)), (0, .ref t)]) (by decide) rfl ?_
  refine tq_iconst (M := mX11_all) (pc := 2) dX11_all_2 tk_ki_0 ?_
  refine tq_istore_n (M := mX11_all) (pc := 3) rfl dX11_all_3 (L2 := [(3, .int (0 : Int32)), (1, .long (0 : Int64)), (0, .ref t)]) (by decide) rfl ?_
  obtain ⟨o6, eo6, hf⟩ := tq_be hf
  refine tq_pick (L2 := [(0, .ref t), (1, .long (0 : Int64)), (3, .int (0 : Int32))]) [2, 1, 0] rfl ?_
  refine l_X11_all_4 (by omega) t h _ (0 : Int64) (0 : Int32) _ eo6 ?_
  refine tq_lload_n (M := mX11_all) (pc := 29) dX11_all_29 rfl ?_
  refine tq_lret (M := mX11_all) (pc := 30) dX11_all_30 rfl ?_
  cases (Option.some.inj hf)
  exact hQ _ _ ⟨rfl, rfl⟩
abbrev mX11_collect : tq_M := (RX11, cX11_collect, 9, (some .int), false, [], none)
def f_X11_collect (t : Nat) (a1 : Int32) (a2 : Int32) (a3 : Int32) (a4 : Int32) (a5 : Int32) (a6 : Int32) (a7 : Int32) (h : tq_H) : Option (Int32 × tq_H) :=
  (tq_gi h t 11 15).bind fun x1 =>
  tq_let (((7 : Int32) * x1)) fun x2 =>
  (tq_gr h t 11 16).bind fun k3 =>
  (tq_si h k3 x2 a1).bind fun w4 =>
  (tq_gr w4 t 11 16).bind fun k5 =>
  (tq_si w4 k5 (x2 + (1 : Int32)) a2).bind fun w6 =>
  (tq_gr w6 t 11 16).bind fun k7 =>
  (tq_si w6 k7 (x2 + (2 : Int32)) a3).bind fun w8 =>
  (tq_gr w8 t 11 16).bind fun k9 =>
  (tq_si w8 k9 (x2 + (3 : Int32)) a4).bind fun w10 =>
  (tq_gr w10 t 11 16).bind fun k11 =>
  (tq_si w10 k11 (x2 + (4 : Int32)) a5).bind fun w12 =>
  (tq_gr w12 t 11 16).bind fun k13 =>
  (tq_si w12 k13 (x2 + (5 : Int32)) a6).bind fun w14 =>
  (tq_gr w14 t 11 16).bind fun k15 =>
  (tq_si w14 k15 (x2 + (6 : Int32)) a7).bind fun w16 =>
  (tq_gi w16 t 11 15).bind fun x17 =>
  (tq_pf w16 t 11 15 (.int ((x17 + (1 : Int32))))).bind fun w18 =>
  (tq_gi w18 t 11 15).bind fun x19 =>
  some (x19, w18)
set_option maxHeartbeats 4000000 in
set_option maxRecDepth 20000 in
theorem w_X11_collect {l : Launch} {d : Nat} (hd9 : 0 ≤ d) {t : Nat} {a1 : Int32} {a2 : Int32} {a3 : Int32} {a4 : Int32} {a5 : Int32} {a6 : Int32} {a7 : Int32} {h : tq_H} {o : Int32 × tq_H} {Q : tq_R → tq_H → Prop} (hf : f_X11_collect t a1 a2 a3 a4 a5 a6 a7 h = some o) (hQ : ∀ r h9, r = .inl (some (.int o.1)) ∧ o.2 = h9 → Q r h9) : tq_C l yX11_collect cX11_collect 9 (some .int) d 0 0 [.ref t, .int a1, .int a2, .int a3, .int a4, .int a5, .int a6, .int a7] h Q := by
  refine tq_body (y := yX11_collect) false (by decide +kernel) (fun z => by cases z) (Nat.le_of_ble_eq_true rfl) ?_
  show tq_W l mX11_collect d 0 0 Q 0 [(0, .ref t), (1, .int a1), (2, .int a2), (3, .int a3), (4, .int a4), (5, .int a5), (6, .int a6), (7, .int a7)] [] h
  refine tq_bipush (M := mX11_collect) (pc := 0) dX11_collect_0 tk_kb_7 ?_
  refine tq_aload_n (M := mX11_collect) (pc := 2) dX11_collect_2 rfl ?_
  obtain ⟨x1, ex1, hf⟩ := tq_be hf
  refine tq_getI (M := mX11_collect) (pc := 3) tk_c11 (by decide) dX11_collect_3 tk_RX11_191 rfl ex1 ?_
  refine tq_imul (M := mX11_collect) (pc := 6) dX11_collect_6 ?_
  obtain ⟨x2, ex2, hf⟩ := tq_le hf
  refine tq_istore (M := mX11_collect) (pc := 7) dX11_collect_7 (L2 := [(8, .int x2), (0, .ref t), (1, .int a1), (2, .int a2), (3, .int a3), (4, .int a4), (5, .int a5), (6, .int a6), (7, .int a7)]) (by decide) (by rw [ex2]; rfl) ?_
  refine tq_aload_n (M := mX11_collect) (pc := 9) dX11_collect_9 rfl ?_
  obtain ⟨k3, ek3, hf⟩ := tq_be hf
  refine tq_getR (M := mX11_collect) (pc := 10) tk_c11 (by decide) dX11_collect_10 tk_RX11_44 rfl ek3 ?_
  refine tq_iload (M := mX11_collect) (pc := 13) dX11_collect_13 rfl ?_
  refine tq_iload_n (M := mX11_collect) (pc := 15) dX11_collect_15 rfl ?_
  obtain ⟨w4, ew4, hf⟩ := tq_be hf
  refine tq_iastF (M := mX11_collect) (pc := 16) dX11_collect_16 ew4 ?_
  refine tq_aload_n (M := mX11_collect) (pc := 17) dX11_collect_17 rfl ?_
  obtain ⟨k5, ek5, hf⟩ := tq_be hf
  refine tq_getR (M := mX11_collect) (pc := 18) tk_c11 (by decide) dX11_collect_18 tk_RX11_44 rfl ek5 ?_
  refine tq_iload (M := mX11_collect) (pc := 21) dX11_collect_21 rfl ?_
  refine tq_iconst (M := mX11_collect) (pc := 23) dX11_collect_23 tk_ki_1 ?_
  refine tq_iadd (M := mX11_collect) (pc := 24) dX11_collect_24 ?_
  refine tq_iload_n (M := mX11_collect) (pc := 25) dX11_collect_25 rfl ?_
  obtain ⟨w6, ew6, hf⟩ := tq_be hf
  refine tq_iastF (M := mX11_collect) (pc := 26) dX11_collect_26 ew6 ?_
  refine tq_aload_n (M := mX11_collect) (pc := 27) dX11_collect_27 rfl ?_
  obtain ⟨k7, ek7, hf⟩ := tq_be hf
  refine tq_getR (M := mX11_collect) (pc := 28) tk_c11 (by decide) dX11_collect_28 tk_RX11_44 rfl ek7 ?_
  refine tq_iload (M := mX11_collect) (pc := 31) dX11_collect_31 rfl ?_
  refine tq_iconst (M := mX11_collect) (pc := 33) dX11_collect_33 tk_ki_2 ?_
  refine tq_iadd (M := mX11_collect) (pc := 34) dX11_collect_34 ?_
  refine tq_iload_n (M := mX11_collect) (pc := 35) dX11_collect_35 rfl ?_
  obtain ⟨w8, ew8, hf⟩ := tq_be hf
  refine tq_iastF (M := mX11_collect) (pc := 36) dX11_collect_36 ew8 ?_
  refine tq_aload_n (M := mX11_collect) (pc := 37) dX11_collect_37 rfl ?_
  obtain ⟨k9, ek9, hf⟩ := tq_be hf
  refine tq_getR (M := mX11_collect) (pc := 38) tk_c11 (by decide) dX11_collect_38 tk_RX11_44 rfl ek9 ?_
  refine tq_iload (M := mX11_collect) (pc := 41) dX11_collect_41 rfl ?_
  refine tq_iconst (M := mX11_collect) (pc := 43) dX11_collect_43 tk_ki_3 ?_
  refine tq_iadd (M := mX11_collect) (pc := 44) dX11_collect_44 ?_
  refine tq_iload (M := mX11_collect) (pc := 45) dX11_collect_45 rfl ?_
  obtain ⟨w10, ew10, hf⟩ := tq_be hf
  refine tq_iastF (M := mX11_collect) (pc := 47) dX11_collect_47 ew10 ?_
  refine tq_aload_n (M := mX11_collect) (pc := 48) dX11_collect_48 rfl ?_
  obtain ⟨k11, ek11, hf⟩ := tq_be hf
  refine tq_getR (M := mX11_collect) (pc := 49) tk_c11 (by decide) dX11_collect_49 tk_RX11_44 rfl ek11 ?_
  refine tq_iload (M := mX11_collect) (pc := 52) dX11_collect_52 rfl ?_
  refine tq_iconst (M := mX11_collect) (pc := 54) dX11_collect_54 tk_ki_4 ?_
  refine tq_iadd (M := mX11_collect) (pc := 55) dX11_collect_55 ?_
  refine tq_iload (M := mX11_collect) (pc := 56) dX11_collect_56 rfl ?_
  obtain ⟨w12, ew12, hf⟩ := tq_be hf
  refine tq_iastF (M := mX11_collect) (pc := 58) dX11_collect_58 ew12 ?_
  refine tq_aload_n (M := mX11_collect) (pc := 59) dX11_collect_59 rfl ?_
  obtain ⟨k13, ek13, hf⟩ := tq_be hf
  refine tq_getR (M := mX11_collect) (pc := 60) tk_c11 (by decide) dX11_collect_60 tk_RX11_44 rfl ek13 ?_
  refine tq_iload (M := mX11_collect) (pc := 63) dX11_collect_63 rfl ?_
  refine tq_iconst (M := mX11_collect) (pc := 65) dX11_collect_65 tk_ki_5 ?_
  refine tq_iadd (M := mX11_collect) (pc := 66) dX11_collect_66 ?_
  refine tq_iload (M := mX11_collect) (pc := 67) dX11_collect_67 rfl ?_
  obtain ⟨w14, ew14, hf⟩ := tq_be hf
  refine tq_iastF (M := mX11_collect) (pc := 69) dX11_collect_69 ew14 ?_
  refine tq_aload_n (M := mX11_collect) (pc := 70) dX11_collect_70 rfl ?_
  obtain ⟨k15, ek15, hf⟩ := tq_be hf
  refine tq_getR (M := mX11_collect) (pc := 71) tk_c11 (by decide) dX11_collect_71 tk_RX11_44 rfl ek15 ?_
  refine tq_iload (M := mX11_collect) (pc := 74) dX11_collect_74 rfl ?_
  refine tq_bipush (M := mX11_collect) (pc := 76) dX11_collect_76 tk_kb_6 ?_
  refine tq_iadd (M := mX11_collect) (pc := 78) dX11_collect_78 ?_
  refine tq_iload (M := mX11_collect) (pc := 79) dX11_collect_79 rfl ?_
  obtain ⟨w16, ew16, hf⟩ := tq_be hf
  refine tq_iastF (M := mX11_collect) (pc := 81) dX11_collect_81 ew16 ?_
  refine tq_aload_n (M := mX11_collect) (pc := 82) dX11_collect_82 rfl ?_
  refine tq_dup (M := mX11_collect) (pc := 83) dX11_collect_83 rfl ?_
  obtain ⟨x17, ex17, hf⟩ := tq_be hf
  refine tq_getI (M := mX11_collect) (pc := 84) tk_c11 (by decide) dX11_collect_84 tk_RX11_191 rfl ex17 ?_
  refine tq_iconst (M := mX11_collect) (pc := 87) dX11_collect_87 tk_ki_1 ?_
  refine tq_iadd (M := mX11_collect) (pc := 88) dX11_collect_88 ?_
  obtain ⟨w18, ew18, hf⟩ := tq_be hf
  refine tq_putv (M := mX11_collect) (pc := 89) tk_c11 (by decide) dX11_collect_89 tk_RX11_191 rfl (Or.inl rfl) ew18 (tq_nI _) ?_
  refine tq_aload_n (M := mX11_collect) (pc := 92) dX11_collect_92 rfl ?_
  obtain ⟨x19, ex19, hf⟩ := tq_be hf
  refine tq_getI (M := mX11_collect) (pc := 93) tk_c11 (by decide) dX11_collect_93 tk_RX11_191 rfl ex19 ?_
  refine tq_iret (M := mX11_collect) (pc := 96) dX11_collect_96 rfl ?_
  cases (Option.some.inj hf)
  exact hQ _ _ ⟨rfl, rfl⟩
abbrev mX11_isSpot : tq_M := (RX11, cX11_isSpot, 3, (some .boolean), false, [], none)
def f_X11_isSpot (t : Nat) (a1 : Int32) (a2 : Int32) (h : tq_H) : Option (Int32) :=
  (tq_is h t 11).bind fun _ =>
  (f_X11_isNode t a1 h).bind fun v1 =>
  (if v1 = 0 then
    some (0 : Int32)
  else
    (tq_gr h t 11 2).bind fun k3 =>
    (tq_ai h k3 a1).bind fun x4 =>
    (if x4 = 0 then
      (tq_is h t 11).bind fun _ =>
      (f_X11_childCount t a1 h).bind fun v5 =>
      some v5
    else
      some (0 : Int32)).bind fun p7 =>
    (f_X11_in a2 (0 : Int32) p7 h).bind fun v8 =>
    if v8 = 0 then
      some (0 : Int32)
    else
      some (1 : Int32)).bind fun p9 =>
  (tq_bz p9).bind fun z10 =>
  some z10
set_option maxHeartbeats 4000000 in
set_option maxRecDepth 20000 in
theorem w_X11_isSpot {l : Launch} {d : Nat} (hd9 : 2 ≤ d) {t : Nat} {a1 : Int32} {a2 : Int32} {h : tq_H} {o : Int32} {Q : tq_R → tq_H → Prop} (hf : f_X11_isSpot t a1 a2 h = some o) (hQ : ∀ r h9, r = .inl (some (.int o)) ∧ h = h9 → Q r h9) : tq_C l yX11_isSpot cX11_isSpot 3 (some .boolean) d 0 0 [.ref t, .int a1, .int a2] h Q := by
  refine tq_body (y := yX11_isSpot) false (by decide +kernel) (fun z => by cases z) (Nat.le_of_ble_eq_true rfl) ?_
  show tq_W l mX11_isSpot d 0 0 Q 0 [(0, .ref t), (1, .int a1), (2, .int a2)] [] h
  refine tq_aload_n (M := mX11_isSpot) (pc := 0) dX11_isSpot_0 rfl ?_
  refine tq_iload_n (M := mX11_isSpot) (pc := 1) dX11_isSpot_1 rfl ?_
  obtain ⟨⟨⟩, eu2, hf⟩ := tq_be hf
  obtain ⟨fsu2, eu2⟩ := tq_is_s eu2
  obtain ⟨v1, ev1, hf⟩ := tq_be hf
  refine tq_calV (M := mX11_isSpot) (pc := 2) (S := []) tk_y_X11_isNode tk_v_X11_isNode tk_RX11_194 dX11_isSpot_2 [.int a1] rfl (S0 := _) rfl eu2 rfl (Nat.le_of_ble_eq_true rfl) (d1 := d - 1) (b1 := 0) (s1 := 0) (bc' := 0) (bs' := 0) (Q1 := fun r h9 => r = .inl (some (.int v1)) ∧ h = h9) (by omega) rfl rfl (w_X11_isNode (by omega) ev1 (fun _ _ q => q)) (fun E h9 q => nomatch (show (Sum.inr E : tq_R) = Sum.inl _ from q.1)) (fun r9 h9 q => ?_)
  obtain ⟨q1, rfl⟩ := q
  cases (show (Sum.inl r9 : tq_R) = Sum.inl (some (.int v1)) from q1)
  obtain ⟨p9, ep9, hf⟩ := tq_be hf
  have HJ5 : tq_W l mX11_isSpot d 0 0 Q 39 [] [.int p9] h := by
    obtain ⟨z10, ez10, hf⟩ := tq_be hf
    refine tq_zretB (M := mX11_isSpot) (pc := 39) dX11_isSpot_39 rfl ez10 ?_
    cases (Option.some.inj hf)
    exact hQ _ _ ⟨rfl, rfl⟩
  refine tq_if_eq (M := mX11_isSpot) (pc := 5) (tgt := 38) dX11_isSpot_5 (by decide) (fun cc => ?_) (fun cc => ?_)
  · have hf := tq_ifp ep9 cc
    refine tq_iconst (M := mX11_isSpot) (pc := 38) dX11_isSpot_38 tk_ki_0 ?_
    refine tq_pick (L2 := []) [] rfl ?_
    cases (Option.some.inj hf)
    exact HJ5
  · have hf := tq_ifn ep9 cc
    refine tq_iload_n (M := mX11_isSpot) (pc := 8) dX11_isSpot_8 rfl ?_
    refine tq_iconst (M := mX11_isSpot) (pc := 9) dX11_isSpot_9 tk_ki_0 ?_
    refine tq_aload_n (M := mX11_isSpot) (pc := 10) dX11_isSpot_10 rfl ?_
    obtain ⟨k3, ek3, hf⟩ := tq_be hf
    refine tq_getR (M := mX11_isSpot) (pc := 11) tk_c11 (by decide) dX11_isSpot_11 tk_RX11_7 rfl ek3 ?_
    refine tq_iload_n (M := mX11_isSpot) (pc := 14) dX11_isSpot_14 rfl ?_
    obtain ⟨x4, ex4, hf⟩ := tq_be hf
    refine tq_ialdF (M := mX11_isSpot) (pc := 15) dX11_isSpot_15 ex4 ?_
    obtain ⟨p7, ep7, hf⟩ := tq_be hf
    have HJ16 : tq_W l mX11_isSpot d 0 0 Q 28 [] [.int p7, .int (0 : Int32), .int a2] h := by
      obtain ⟨v8, ev8, hf⟩ := tq_be hf
      refine tq_calS (M := mX11_isSpot) (pc := 28) (S := []) tk_y_X11_in tk_s_X11_in tk_RX11_169 dX11_isSpot_28 [.int a2, .int (0 : Int32), .int p7] rfl (Nat.le_of_ble_eq_true rfl) (d1 := d - 1) (b1 := 0) (s1 := 0) (bc' := 0) (bs' := 0) (Q1 := fun r h9 => r = .inl (some (.int v8)) ∧ h = h9) (by omega) rfl rfl (w_X11_in (by omega) ev8 (fun _ _ q => q)) (fun E h9 q => nomatch (show (Sum.inr E : tq_R) = Sum.inl _ from q.1)) (fun r9 h9 q => ?_)
      obtain ⟨q1, rfl⟩ := q
      cases (show (Sum.inl r9 : tq_R) = Sum.inl (some (.int v8)) from q1)
      refine tq_if_eq (M := mX11_isSpot) (pc := 31) (tgt := 38) dX11_isSpot_31 (by decide) (fun cc => ?_) (fun cc => ?_)
      · have hf := tq_ifp hf cc
        refine tq_iconst (M := mX11_isSpot) (pc := 38) dX11_isSpot_38 tk_ki_0 ?_
        cases (Option.some.inj hf)
        exact HJ5
      · have hf := tq_ifn hf cc
        refine tq_iconst (M := mX11_isSpot) (pc := 34) dX11_isSpot_34 tk_ki_1 ?_
        refine tq_goto (M := mX11_isSpot) (pc := 35) (tgt := 39) dX11_isSpot_35 (by decide) ?_
        cases (Option.some.inj hf)
        exact HJ5
    refine tq_if_ne (M := mX11_isSpot) (pc := 16) (tgt := 27) dX11_isSpot_16 (by decide) (fun cc => ?_) (fun cc => ?_)
    · have hf := tq_ifn ep7 cc
      refine tq_iconst (M := mX11_isSpot) (pc := 27) dX11_isSpot_27 tk_ki_0 ?_
      refine tq_pick (L2 := []) [] rfl ?_
      cases (Option.some.inj hf)
      exact HJ16
    · have hf := tq_ifp ep7 cc
      refine tq_aload_n (M := mX11_isSpot) (pc := 19) dX11_isSpot_19 rfl ?_
      refine tq_iload_n (M := mX11_isSpot) (pc := 20) dX11_isSpot_20 rfl ?_
      obtain ⟨⟨⟩, eu6, hf⟩ := tq_be hf
      obtain ⟨fsu6, eu6⟩ := tq_is_s eu6
      obtain ⟨v5, ev5, hf⟩ := tq_be hf
      refine tq_calV (M := mX11_isSpot) (pc := 21) (S := [.int (0 : Int32), .int a2]) tk_y_X11_childCount tk_v_X11_childCount tk_RX11_180 dX11_isSpot_21 [.int a1] rfl (S0 := _) rfl eu6 rfl (Nat.le_of_ble_eq_true rfl) (d1 := d - 1) (b1 := 0) (s1 := 0) (bc' := 0) (bs' := 0) (Q1 := fun r h9 => r = .inl (some (.int v5)) ∧ h = h9) (by omega) rfl rfl (w_X11_childCount (by omega) ev5 (fun _ _ q => q)) (fun E h9 q => nomatch (show (Sum.inr E : tq_R) = Sum.inl _ from q.1)) (fun r9 h9 q => ?_)
      obtain ⟨q1, rfl⟩ := q
      cases (show (Sum.inl r9 : tq_R) = Sum.inl (some (.int v5)) from q1)
      refine tq_goto (M := mX11_isSpot) (pc := 24) (tgt := 28) dX11_isSpot_24 (by decide) ?_
      refine tq_pick (L2 := []) [] rfl ?_
      cases (Option.some.inj hf)
      exact HJ16
abbrev mX11_takes : tq_M := (RX11, cX11_takes, 2, (some .boolean), false, [], none)
def f_X11_takes (t : Nat) (a1 : Int32) (h : tq_H) : Option (Int32) :=
  (tq_gr h t 11 2).bind fun k1 =>
  (tq_ai h k1 a1).bind fun x2 =>
  (if x2 = 0 then
    (tq_gi h t 11 15).bind fun x3 =>
    if x3 ≥ (20 : Int32) then
      some (0 : Int32)
    else
      some (1 : Int32)
  else
    some (0 : Int32)).bind fun p4 =>
  (tq_bz p4).bind fun z5 =>
  some z5
set_option maxHeartbeats 4000000 in
set_option maxRecDepth 20000 in
theorem w_X11_takes {l : Launch} {d : Nat} (hd9 : 0 ≤ d) {t : Nat} {a1 : Int32} {h : tq_H} {o : Int32} {Q : tq_R → tq_H → Prop} (hf : f_X11_takes t a1 h = some o) (hQ : ∀ r h9, r = .inl (some (.int o)) ∧ h = h9 → Q r h9) : tq_C l yX11_takes cX11_takes 2 (some .boolean) d 0 0 [.ref t, .int a1] h Q := by
  refine tq_body (y := yX11_takes) false (by decide +kernel) (fun z => by cases z) (Nat.le_of_ble_eq_true rfl) ?_
  show tq_W l mX11_takes d 0 0 Q 0 [(0, .ref t), (1, .int a1)] [] h
  refine tq_aload_n (M := mX11_takes) (pc := 0) dX11_takes_0 rfl ?_
  obtain ⟨k1, ek1, hf⟩ := tq_be hf
  refine tq_getR (M := mX11_takes) (pc := 1) tk_c11 (by decide) dX11_takes_1 tk_RX11_7 rfl ek1 ?_
  refine tq_iload_n (M := mX11_takes) (pc := 4) dX11_takes_4 rfl ?_
  obtain ⟨x2, ex2, hf⟩ := tq_be hf
  refine tq_ialdF (M := mX11_takes) (pc := 5) dX11_takes_5 ex2 ?_
  obtain ⟨p4, ep4, hf⟩ := tq_be hf
  have HJ6 : tq_W l mX11_takes d 0 0 Q 23 [] [.int p4] h := by
    obtain ⟨z5, ez5, hf⟩ := tq_be hf
    refine tq_zretB (M := mX11_takes) (pc := 23) dX11_takes_23 rfl ez5 ?_
    cases (Option.some.inj hf)
    exact hQ _ _ ⟨rfl, rfl⟩
  refine tq_if_ne (M := mX11_takes) (pc := 6) (tgt := 22) dX11_takes_6 (by decide) (fun cc => ?_) (fun cc => ?_)
  · have hf := tq_ifn ep4 cc
    refine tq_iconst (M := mX11_takes) (pc := 22) dX11_takes_22 tk_ki_0 ?_
    refine tq_pick (L2 := []) [] rfl ?_
    cases (Option.some.inj hf)
    exact HJ6
  · have hf := tq_ifp ep4 cc
    refine tq_aload_n (M := mX11_takes) (pc := 9) dX11_takes_9 rfl ?_
    obtain ⟨x3, ex3, hf⟩ := tq_be hf
    refine tq_getI (M := mX11_takes) (pc := 10) tk_c11 (by decide) dX11_takes_10 tk_RX11_191 rfl ex3 ?_
    refine tq_bipush (M := mX11_takes) (pc := 13) dX11_takes_13 tk_kb_20 ?_
    refine tq_icmp_ge (M := mX11_takes) (pc := 15) (tgt := 22) dX11_takes_15 (by decide) (fun cc => ?_) (fun cc => ?_)
    · have hf := tq_ifp hf cc
      refine tq_iconst (M := mX11_takes) (pc := 22) dX11_takes_22 tk_ki_0 ?_
      refine tq_pick (L2 := []) [] rfl ?_
      cases (Option.some.inj hf)
      exact HJ6
    · have hf := tq_ifn hf cc
      refine tq_iconst (M := mX11_takes) (pc := 18) dX11_takes_18 tk_ki_1 ?_
      refine tq_goto (M := mX11_takes) (pc := 19) (tgt := 23) dX11_takes_19 (by decide) ?_
      refine tq_pick (L2 := []) [] rfl ?_
      cases (Option.some.inj hf)
      exact HJ6
abbrev mX11_insertElement : tq_M := (RX11, cX11_insertElement, 4, (some .int), false, [], none)
def f_X11_insertElement (t : Nat) (a1 : Int32) (a2 : Int32) (a3 : Int32) (h : tq_H) : Option (Int32 × tq_H) :=
  (tq_is h t 11).bind fun _ =>
  (f_X11_isSpot t a1 a2 h).bind fun v1 =>
  (if v1 = 0 then
    some (1 : Int32)
  else
    (f_X11_in a3 (0 : Int32) (7 : Int32) h).bind fun v3 =>
    if v3 = 0 then
      some (2 : Int32)
    else
      (tq_is h t 11).bind fun _ =>
      (f_X11_takes t a1 h).bind fun v4 =>
      if v4 = 0 then
        some (3 : Int32)
      else
        some (0 : Int32)).bind fun p6 =>
  (tq_is h t 11).bind fun _ =>
  (f_X11_refused t p6 h).bind fun v7 =>
  if v7.1 = 0 then
    (tq_is v7.2 t 11).bind fun _ =>
    (f_X11_collect t (0 : Int32) (-1 : Int32) a1 a2 (0 : Int32) a3 (-1 : Int32) v7.2).bind fun v9 =>
    some (v9.1, v9.2)
  else
    some ((0 : Int32), v7.2)
set_option maxHeartbeats 4000000 in
set_option maxRecDepth 20000 in
theorem w_X11_insertElement {l : Launch} {d : Nat} (hd9 : 3 ≤ d) {t : Nat} {a1 : Int32} {a2 : Int32} {a3 : Int32} {h : tq_H} {o : Int32 × tq_H} {Q : tq_R → tq_H → Prop} (hf : f_X11_insertElement t a1 a2 a3 h = some o) (hQ : ∀ r h9, r = .inl (some (.int o.1)) ∧ o.2 = h9 → Q r h9) : tq_C l yX11_insertElement cX11_insertElement 4 (some .int) d 0 0 [.ref t, .int a1, .int a2, .int a3] h Q := by
  refine tq_body (y := yX11_insertElement) false (by decide +kernel) (fun z => by cases z) (Nat.le_of_ble_eq_true rfl) ?_
  show tq_W l mX11_insertElement d 0 0 Q 0 [(0, .ref t), (1, .int a1), (2, .int a2), (3, .int a3)] [] h
  refine tq_aload_n (M := mX11_insertElement) (pc := 0) dX11_insertElement_0 rfl ?_
  refine tq_aload_n (M := mX11_insertElement) (pc := 1) dX11_insertElement_1 rfl ?_
  refine tq_iload_n (M := mX11_insertElement) (pc := 2) dX11_insertElement_2 rfl ?_
  refine tq_iload_n (M := mX11_insertElement) (pc := 3) dX11_insertElement_3 rfl ?_
  obtain ⟨⟨⟩, eu2, hf⟩ := tq_be hf
  obtain ⟨fsu2, eu2⟩ := tq_is_s eu2
  obtain ⟨v1, ev1, hf⟩ := tq_be hf
  refine tq_calV (M := mX11_insertElement) (pc := 4) (S := [.ref t]) tk_y_X11_isSpot tk_v_X11_isSpot tk_RX11_198 dX11_insertElement_4 [.int a1, .int a2] rfl (S0 := _) rfl eu2 rfl (Nat.le_of_ble_eq_true rfl) (d1 := d - 1) (b1 := 0) (s1 := 0) (bc' := 0) (bs' := 0) (Q1 := fun r h9 => r = .inl (some (.int v1)) ∧ h = h9) (by omega) rfl rfl (w_X11_isSpot (by omega) ev1 (fun _ _ q => q)) (fun E h9 q => nomatch (show (Sum.inr E : tq_R) = Sum.inl _ from q.1)) (fun r9 h9 q => ?_)
  obtain ⟨q1, rfl⟩ := q
  cases (show (Sum.inl r9 : tq_R) = Sum.inl (some (.int v1)) from q1)
  obtain ⟨p6, ep6, hf⟩ := tq_be hf
  have HJ7 : tq_W l mX11_insertElement d 0 0 Q 41 [(0, .ref t), (1, .int a1), (2, .int a2), (3, .int a3)] [.int p6, .ref t] h := by
    obtain ⟨⟨⟩, eu8, hf⟩ := tq_be hf
    obtain ⟨fsu8, eu8⟩ := tq_is_s eu8
    obtain ⟨v7, ev7, hf⟩ := tq_be hf
    refine tq_calV (M := mX11_insertElement) (pc := 41) (S := []) tk_y_X11_refused tk_v_X11_refused tk_RX11_204 dX11_insertElement_41 [.int p6] rfl (S0 := _) rfl eu8 rfl (Nat.le_of_ble_eq_true rfl) (d1 := d - 1) (b1 := 0) (s1 := 0) (bc' := 0) (bs' := 0) (Q1 := fun r h9 => r = .inl (some (.int v7.1)) ∧ v7.2 = h9) (by omega) rfl rfl (w_X11_refused (by omega) ev7 (fun _ _ q => q)) (fun E h9 q => nomatch (show (Sum.inr E : tq_R) = Sum.inl _ from q.1)) (fun r9 h9 q => ?_)
    obtain ⟨q1, rfl⟩ := q
    cases (show (Sum.inl r9 : tq_R) = Sum.inl (some (.int v7.1)) from q1)
    refine tq_if_eq (M := mX11_insertElement) (pc := 44) (tgt := 49) dX11_insertElement_44 (by decide) (fun cc => ?_) (fun cc => ?_)
    · have hf := tq_ifp hf cc
      refine tq_aload_n (M := mX11_insertElement) (pc := 49) dX11_insertElement_49 rfl ?_
      refine tq_iconst (M := mX11_insertElement) (pc := 50) dX11_insertElement_50 tk_ki_0 ?_
      refine tq_iconst (M := mX11_insertElement) (pc := 51) dX11_insertElement_51 tk_ki_m1 ?_
      refine tq_iload_n (M := mX11_insertElement) (pc := 52) dX11_insertElement_52 rfl ?_
      refine tq_iload_n (M := mX11_insertElement) (pc := 53) dX11_insertElement_53 rfl ?_
      refine tq_iconst (M := mX11_insertElement) (pc := 54) dX11_insertElement_54 tk_ki_0 ?_
      refine tq_iload_n (M := mX11_insertElement) (pc := 55) dX11_insertElement_55 rfl ?_
      refine tq_iconst (M := mX11_insertElement) (pc := 56) dX11_insertElement_56 tk_ki_m1 ?_
      obtain ⟨⟨⟩, eu10, hf⟩ := tq_be hf
      obtain ⟨fsu10, eu10⟩ := tq_is_s eu10
      obtain ⟨v9, ev9, hf⟩ := tq_be hf
      refine tq_calV (M := mX11_insertElement) (pc := 57) (S := []) tk_y_X11_collect tk_v_X11_collect tk_RX11_207 dX11_insertElement_57 [.int (0 : Int32), .int (-1 : Int32), .int a1, .int a2, .int (0 : Int32), .int a3, .int (-1 : Int32)] rfl (S0 := _) rfl eu10 rfl (Nat.le_of_ble_eq_true rfl) (d1 := d - 1) (b1 := 0) (s1 := 0) (bc' := 0) (bs' := 0) (Q1 := fun r h9 => r = .inl (some (.int v9.1)) ∧ v9.2 = h9) (by omega) rfl rfl (w_X11_collect (by omega) ev9 (fun _ _ q => q)) (fun E h9 q => nomatch (show (Sum.inr E : tq_R) = Sum.inl _ from q.1)) (fun r9 h9 q => ?_)
      obtain ⟨q1, rfl⟩ := q
      cases (show (Sum.inl r9 : tq_R) = Sum.inl (some (.int v9.1)) from q1)
      refine tq_iret (M := mX11_insertElement) (pc := 60) dX11_insertElement_60 rfl ?_
      cases (Option.some.inj hf)
      exact hQ _ _ ⟨rfl, rfl⟩
    · have hf := tq_ifn hf cc
      refine tq_iconst (M := mX11_insertElement) (pc := 47) dX11_insertElement_47 tk_ki_0 ?_
      refine tq_iret (M := mX11_insertElement) (pc := 48) dX11_insertElement_48 rfl ?_
      cases (Option.some.inj hf)
      exact hQ _ _ ⟨rfl, rfl⟩
  refine tq_if_ne (M := mX11_insertElement) (pc := 7) (tgt := 14) dX11_insertElement_7 (by decide) (fun cc => ?_) (fun cc => ?_)
  · have hf := tq_ifn ep6 cc
    refine tq_iload_n (M := mX11_insertElement) (pc := 14) dX11_insertElement_14 rfl ?_
    refine tq_iconst (M := mX11_insertElement) (pc := 15) dX11_insertElement_15 tk_ki_0 ?_
    refine tq_bipush (M := mX11_insertElement) (pc := 16) dX11_insertElement_16 tk_kb_7 ?_
    obtain ⟨v3, ev3, hf⟩ := tq_be hf
    refine tq_calS (M := mX11_insertElement) (pc := 18) (S := [.ref t]) tk_y_X11_in tk_s_X11_in tk_RX11_169 dX11_insertElement_18 [.int a3, .int (0 : Int32), .int (7 : Int32)] rfl (Nat.le_of_ble_eq_true rfl) (d1 := d - 1) (b1 := 0) (s1 := 0) (bc' := 0) (bs' := 0) (Q1 := fun r h9 => r = .inl (some (.int v3)) ∧ h = h9) (by omega) rfl rfl (w_X11_in (by omega) ev3 (fun _ _ q => q)) (fun E h9 q => nomatch (show (Sum.inr E : tq_R) = Sum.inl _ from q.1)) (fun r9 h9 q => ?_)
    obtain ⟨q1, rfl⟩ := q
    cases (show (Sum.inl r9 : tq_R) = Sum.inl (some (.int v3)) from q1)
    refine tq_if_ne (M := mX11_insertElement) (pc := 21) (tgt := 28) dX11_insertElement_21 (by decide) (fun cc => ?_) (fun cc => ?_)
    · have hf := tq_ifn hf cc
      refine tq_aload_n (M := mX11_insertElement) (pc := 28) dX11_insertElement_28 rfl ?_
      refine tq_iload_n (M := mX11_insertElement) (pc := 29) dX11_insertElement_29 rfl ?_
      obtain ⟨⟨⟩, eu5, hf⟩ := tq_be hf
      obtain ⟨fsu5, eu5⟩ := tq_is_s eu5
      obtain ⟨v4, ev4, hf⟩ := tq_be hf
      refine tq_calV (M := mX11_insertElement) (pc := 30) (S := [.ref t]) tk_y_X11_takes tk_v_X11_takes tk_RX11_201 dX11_insertElement_30 [.int a1] rfl (S0 := _) rfl eu5 rfl (Nat.le_of_ble_eq_true rfl) (d1 := d - 1) (b1 := 0) (s1 := 0) (bc' := 0) (bs' := 0) (Q1 := fun r h9 => r = .inl (some (.int v4)) ∧ h = h9) (by omega) rfl rfl (w_X11_takes (by omega) ev4 (fun _ _ q => q)) (fun E h9 q => nomatch (show (Sum.inr E : tq_R) = Sum.inl _ from q.1)) (fun r9 h9 q => ?_)
      obtain ⟨q1, rfl⟩ := q
      cases (show (Sum.inl r9 : tq_R) = Sum.inl (some (.int v4)) from q1)
      refine tq_if_eq (M := mX11_insertElement) (pc := 33) (tgt := 40) dX11_insertElement_33 (by decide) (fun cc => ?_) (fun cc => ?_)
      · have hf := tq_ifp hf cc
        refine tq_iconst (M := mX11_insertElement) (pc := 40) dX11_insertElement_40 tk_ki_3 ?_
        cases (Option.some.inj hf)
        exact HJ7
      · have hf := tq_ifn hf cc
        refine tq_iconst (M := mX11_insertElement) (pc := 36) dX11_insertElement_36 tk_ki_0 ?_
        refine tq_goto (M := mX11_insertElement) (pc := 37) (tgt := 41) dX11_insertElement_37 (by decide) ?_
        cases (Option.some.inj hf)
        exact HJ7
    · have hf := tq_ifp hf cc
      refine tq_iconst (M := mX11_insertElement) (pc := 24) dX11_insertElement_24 tk_ki_2 ?_
      refine tq_goto (M := mX11_insertElement) (pc := 25) (tgt := 41) dX11_insertElement_25 (by decide) ?_
      cases (Option.some.inj hf)
      exact HJ7
  · have hf := tq_ifp ep6 cc
    refine tq_iconst (M := mX11_insertElement) (pc := 10) dX11_insertElement_10 tk_ki_1 ?_
    refine tq_goto (M := mX11_insertElement) (pc := 11) (tgt := 41) dX11_insertElement_11 (by decide) ?_
    cases (Option.some.inj hf)
    exact HJ7
abbrev mX11_insertText : tq_M := (RX11, cX11_insertText, 4, (some .int), false, [], none)
def f_X11_insertText (t : Nat) (a1 : Int32) (a2 : Int32) (a3 : Int32) (h : tq_H) : Option (Int32 × tq_H) :=
  (tq_is h t 11).bind fun _ =>
  (f_X11_isSpot t a1 a2 h).bind fun v1 =>
  (if v1 = 0 then
    some (1 : Int32)
  else
    (f_X11_in a3 (0 : Int32) (999 : Int32) h).bind fun v3 =>
    if v3 = 0 then
      some (2 : Int32)
    else
      (tq_is h t 11).bind fun _ =>
      (f_X11_takes t a1 h).bind fun v4 =>
      if v4 = 0 then
        some (3 : Int32)
      else
        some (0 : Int32)).bind fun p6 =>
  (tq_is h t 11).bind fun _ =>
  (f_X11_refused t p6 h).bind fun v7 =>
  if v7.1 = 0 then
    (tq_is v7.2 t 11).bind fun _ =>
    (f_X11_collect t (0 : Int32) (-1 : Int32) a1 a2 (1 : Int32) (-1 : Int32) a3 v7.2).bind fun v9 =>
    some (v9.1, v9.2)
  else
    some ((0 : Int32), v7.2)
set_option maxHeartbeats 4000000 in
set_option maxRecDepth 20000 in
theorem w_X11_insertText {l : Launch} {d : Nat} (hd9 : 3 ≤ d) {t : Nat} {a1 : Int32} {a2 : Int32} {a3 : Int32} {h : tq_H} {o : Int32 × tq_H} {Q : tq_R → tq_H → Prop} (hf : f_X11_insertText t a1 a2 a3 h = some o) (hQ : ∀ r h9, r = .inl (some (.int o.1)) ∧ o.2 = h9 → Q r h9) : tq_C l yX11_insertText cX11_insertText 4 (some .int) d 0 0 [.ref t, .int a1, .int a2, .int a3] h Q := by
  refine tq_body (y := yX11_insertText) false (by decide +kernel) (fun z => by cases z) (Nat.le_of_ble_eq_true rfl) ?_
  show tq_W l mX11_insertText d 0 0 Q 0 [(0, .ref t), (1, .int a1), (2, .int a2), (3, .int a3)] [] h
  refine tq_aload_n (M := mX11_insertText) (pc := 0) dX11_insertText_0 rfl ?_
  refine tq_aload_n (M := mX11_insertText) (pc := 1) dX11_insertText_1 rfl ?_
  refine tq_iload_n (M := mX11_insertText) (pc := 2) dX11_insertText_2 rfl ?_
  refine tq_iload_n (M := mX11_insertText) (pc := 3) dX11_insertText_3 rfl ?_
  obtain ⟨⟨⟩, eu2, hf⟩ := tq_be hf
  obtain ⟨fsu2, eu2⟩ := tq_is_s eu2
  obtain ⟨v1, ev1, hf⟩ := tq_be hf
  refine tq_calV (M := mX11_insertText) (pc := 4) (S := [.ref t]) tk_y_X11_isSpot tk_v_X11_isSpot tk_RX11_198 dX11_insertText_4 [.int a1, .int a2] rfl (S0 := _) rfl eu2 rfl (Nat.le_of_ble_eq_true rfl) (d1 := d - 1) (b1 := 0) (s1 := 0) (bc' := 0) (bs' := 0) (Q1 := fun r h9 => r = .inl (some (.int v1)) ∧ h = h9) (by omega) rfl rfl (w_X11_isSpot (by omega) ev1 (fun _ _ q => q)) (fun E h9 q => nomatch (show (Sum.inr E : tq_R) = Sum.inl _ from q.1)) (fun r9 h9 q => ?_)
  obtain ⟨q1, rfl⟩ := q
  cases (show (Sum.inl r9 : tq_R) = Sum.inl (some (.int v1)) from q1)
  obtain ⟨p6, ep6, hf⟩ := tq_be hf
  have HJ7 : tq_W l mX11_insertText d 0 0 Q 42 [(0, .ref t), (1, .int a1), (2, .int a2), (3, .int a3)] [.int p6, .ref t] h := by
    obtain ⟨⟨⟩, eu8, hf⟩ := tq_be hf
    obtain ⟨fsu8, eu8⟩ := tq_is_s eu8
    obtain ⟨v7, ev7, hf⟩ := tq_be hf
    refine tq_calV (M := mX11_insertText) (pc := 42) (S := []) tk_y_X11_refused tk_v_X11_refused tk_RX11_204 dX11_insertText_42 [.int p6] rfl (S0 := _) rfl eu8 rfl (Nat.le_of_ble_eq_true rfl) (d1 := d - 1) (b1 := 0) (s1 := 0) (bc' := 0) (bs' := 0) (Q1 := fun r h9 => r = .inl (some (.int v7.1)) ∧ v7.2 = h9) (by omega) rfl rfl (w_X11_refused (by omega) ev7 (fun _ _ q => q)) (fun E h9 q => nomatch (show (Sum.inr E : tq_R) = Sum.inl _ from q.1)) (fun r9 h9 q => ?_)
    obtain ⟨q1, rfl⟩ := q
    cases (show (Sum.inl r9 : tq_R) = Sum.inl (some (.int v7.1)) from q1)
    refine tq_if_eq (M := mX11_insertText) (pc := 45) (tgt := 50) dX11_insertText_45 (by decide) (fun cc => ?_) (fun cc => ?_)
    · have hf := tq_ifp hf cc
      refine tq_aload_n (M := mX11_insertText) (pc := 50) dX11_insertText_50 rfl ?_
      refine tq_iconst (M := mX11_insertText) (pc := 51) dX11_insertText_51 tk_ki_0 ?_
      refine tq_iconst (M := mX11_insertText) (pc := 52) dX11_insertText_52 tk_ki_m1 ?_
      refine tq_iload_n (M := mX11_insertText) (pc := 53) dX11_insertText_53 rfl ?_
      refine tq_iload_n (M := mX11_insertText) (pc := 54) dX11_insertText_54 rfl ?_
      refine tq_iconst (M := mX11_insertText) (pc := 55) dX11_insertText_55 tk_ki_1 ?_
      refine tq_iconst (M := mX11_insertText) (pc := 56) dX11_insertText_56 tk_ki_m1 ?_
      refine tq_iload_n (M := mX11_insertText) (pc := 57) dX11_insertText_57 rfl ?_
      obtain ⟨⟨⟩, eu10, hf⟩ := tq_be hf
      obtain ⟨fsu10, eu10⟩ := tq_is_s eu10
      obtain ⟨v9, ev9, hf⟩ := tq_be hf
      refine tq_calV (M := mX11_insertText) (pc := 58) (S := []) tk_y_X11_collect tk_v_X11_collect tk_RX11_207 dX11_insertText_58 [.int (0 : Int32), .int (-1 : Int32), .int a1, .int a2, .int (1 : Int32), .int (-1 : Int32), .int a3] rfl (S0 := _) rfl eu10 rfl (Nat.le_of_ble_eq_true rfl) (d1 := d - 1) (b1 := 0) (s1 := 0) (bc' := 0) (bs' := 0) (Q1 := fun r h9 => r = .inl (some (.int v9.1)) ∧ v9.2 = h9) (by omega) rfl rfl (w_X11_collect (by omega) ev9 (fun _ _ q => q)) (fun E h9 q => nomatch (show (Sum.inr E : tq_R) = Sum.inl _ from q.1)) (fun r9 h9 q => ?_)
      obtain ⟨q1, rfl⟩ := q
      cases (show (Sum.inl r9 : tq_R) = Sum.inl (some (.int v9.1)) from q1)
      refine tq_iret (M := mX11_insertText) (pc := 61) dX11_insertText_61 rfl ?_
      cases (Option.some.inj hf)
      exact hQ _ _ ⟨rfl, rfl⟩
    · have hf := tq_ifn hf cc
      refine tq_iconst (M := mX11_insertText) (pc := 48) dX11_insertText_48 tk_ki_0 ?_
      refine tq_iret (M := mX11_insertText) (pc := 49) dX11_insertText_49 rfl ?_
      cases (Option.some.inj hf)
      exact hQ _ _ ⟨rfl, rfl⟩
  refine tq_if_ne (M := mX11_insertText) (pc := 7) (tgt := 14) dX11_insertText_7 (by decide) (fun cc => ?_) (fun cc => ?_)
  · have hf := tq_ifn ep6 cc
    refine tq_iload_n (M := mX11_insertText) (pc := 14) dX11_insertText_14 rfl ?_
    refine tq_iconst (M := mX11_insertText) (pc := 15) dX11_insertText_15 tk_ki_0 ?_
    refine tq_sipush (M := mX11_insertText) (pc := 16) dX11_insertText_16 tk_ks_999 ?_
    obtain ⟨v3, ev3, hf⟩ := tq_be hf
    refine tq_calS (M := mX11_insertText) (pc := 19) (S := [.ref t]) tk_y_X11_in tk_s_X11_in tk_RX11_169 dX11_insertText_19 [.int a3, .int (0 : Int32), .int (999 : Int32)] rfl (Nat.le_of_ble_eq_true rfl) (d1 := d - 1) (b1 := 0) (s1 := 0) (bc' := 0) (bs' := 0) (Q1 := fun r h9 => r = .inl (some (.int v3)) ∧ h = h9) (by omega) rfl rfl (w_X11_in (by omega) ev3 (fun _ _ q => q)) (fun E h9 q => nomatch (show (Sum.inr E : tq_R) = Sum.inl _ from q.1)) (fun r9 h9 q => ?_)
    obtain ⟨q1, rfl⟩ := q
    cases (show (Sum.inl r9 : tq_R) = Sum.inl (some (.int v3)) from q1)
    refine tq_if_ne (M := mX11_insertText) (pc := 22) (tgt := 29) dX11_insertText_22 (by decide) (fun cc => ?_) (fun cc => ?_)
    · have hf := tq_ifn hf cc
      refine tq_aload_n (M := mX11_insertText) (pc := 29) dX11_insertText_29 rfl ?_
      refine tq_iload_n (M := mX11_insertText) (pc := 30) dX11_insertText_30 rfl ?_
      obtain ⟨⟨⟩, eu5, hf⟩ := tq_be hf
      obtain ⟨fsu5, eu5⟩ := tq_is_s eu5
      obtain ⟨v4, ev4, hf⟩ := tq_be hf
      refine tq_calV (M := mX11_insertText) (pc := 31) (S := [.ref t]) tk_y_X11_takes tk_v_X11_takes tk_RX11_201 dX11_insertText_31 [.int a1] rfl (S0 := _) rfl eu5 rfl (Nat.le_of_ble_eq_true rfl) (d1 := d - 1) (b1 := 0) (s1 := 0) (bc' := 0) (bs' := 0) (Q1 := fun r h9 => r = .inl (some (.int v4)) ∧ h = h9) (by omega) rfl rfl (w_X11_takes (by omega) ev4 (fun _ _ q => q)) (fun E h9 q => nomatch (show (Sum.inr E : tq_R) = Sum.inl _ from q.1)) (fun r9 h9 q => ?_)
      obtain ⟨q1, rfl⟩ := q
      cases (show (Sum.inl r9 : tq_R) = Sum.inl (some (.int v4)) from q1)
      refine tq_if_eq (M := mX11_insertText) (pc := 34) (tgt := 41) dX11_insertText_34 (by decide) (fun cc => ?_) (fun cc => ?_)
      · have hf := tq_ifp hf cc
        refine tq_iconst (M := mX11_insertText) (pc := 41) dX11_insertText_41 tk_ki_3 ?_
        cases (Option.some.inj hf)
        exact HJ7
      · have hf := tq_ifn hf cc
        refine tq_iconst (M := mX11_insertText) (pc := 37) dX11_insertText_37 tk_ki_0 ?_
        refine tq_goto (M := mX11_insertText) (pc := 38) (tgt := 42) dX11_insertText_38 (by decide) ?_
        cases (Option.some.inj hf)
        exact HJ7
    · have hf := tq_ifp hf cc
      refine tq_iconst (M := mX11_insertText) (pc := 25) dX11_insertText_25 tk_ki_2 ?_
      refine tq_goto (M := mX11_insertText) (pc := 26) (tgt := 42) dX11_insertText_26 (by decide) ?_
      cases (Option.some.inj hf)
      exact HJ7
  · have hf := tq_ifp ep6 cc
    refine tq_iconst (M := mX11_insertText) (pc := 10) dX11_insertText_10 tk_ki_1 ?_
    refine tq_goto (M := mX11_insertText) (pc := 11) (tgt := 42) dX11_insertText_11 (by decide) ?_
    cases (Option.some.inj hf)
    exact HJ7
abbrev mX11_insertAttribute : tq_M := (RX11, cX11_insertAttribute, 5, (some .int), false, [], none)
def f_X11_insertAttribute (t : Nat) (a1 : Int32) (a2 : Int32) (a3 : Int32) (h : tq_H) : Option (Int32 × tq_H) :=
  (f_X11_in a2 (0 : Int32) (7 : Int32) h).bind fun v1 =>
  (if v1 = 0 then
    some (0 : Int32)
  else
    (f_X11_in a3 (0 : Int32) (999 : Int32) h).bind fun v2 =>
    if v2 = 0 then
      some (0 : Int32)
    else
      some (1 : Int32)).bind fun p3 =>
  (tq_is h t 11).bind fun _ =>
  (f_X11_isNode t a1 h).bind fun v4 =>
  (if v4 = 0 then
    some (1 : Int32)
  else
    if p3 = 0 then
      some (2 : Int32)
    else
      (tq_is h t 11).bind fun _ =>
      (f_X11_takes t a1 h).bind fun v6 =>
      if v6 = 0 then
        some (3 : Int32)
      else
        some (0 : Int32)).bind fun p8 =>
  (tq_is h t 11).bind fun _ =>
  (f_X11_refused t p8 h).bind fun v9 =>
  if v9.1 = 0 then
    (tq_is v9.2 t 11).bind fun _ =>
    (f_X11_collect t (0 : Int32) (-1 : Int32) a1 (0 : Int32) (2 : Int32) a2 a3 v9.2).bind fun v11 =>
    some (v11.1, v11.2)
  else
    some ((0 : Int32), v9.2)
set_option maxHeartbeats 4000000 in
set_option maxRecDepth 20000 in
theorem w_X11_insertAttribute {l : Launch} {d : Nat} (hd9 : 2 ≤ d) {t : Nat} {a1 : Int32} {a2 : Int32} {a3 : Int32} {h : tq_H} {o : Int32 × tq_H} {Q : tq_R → tq_H → Prop} (hf : f_X11_insertAttribute t a1 a2 a3 h = some o) (hQ : ∀ r h9, r = .inl (some (.int o.1)) ∧ o.2 = h9 → Q r h9) : tq_C l yX11_insertAttribute cX11_insertAttribute 5 (some .int) d 0 0 [.ref t, .int a1, .int a2, .int a3] h Q := by
  refine tq_body (y := yX11_insertAttribute) false (by decide +kernel) (fun z => by cases z) (Nat.le_of_ble_eq_true rfl) ?_
  show tq_W l mX11_insertAttribute d 0 0 Q 0 [(0, .ref t), (1, .int a1), (2, .int a2), (3, .int a3)] [] h
  refine tq_iload_n (M := mX11_insertAttribute) (pc := 0) dX11_insertAttribute_0 rfl ?_
  refine tq_iconst (M := mX11_insertAttribute) (pc := 1) dX11_insertAttribute_1 tk_ki_0 ?_
  refine tq_bipush (M := mX11_insertAttribute) (pc := 2) dX11_insertAttribute_2 tk_kb_7 ?_
  obtain ⟨v1, ev1, hf⟩ := tq_be hf
  refine tq_calS (M := mX11_insertAttribute) (pc := 4) (S := []) tk_y_X11_in tk_s_X11_in tk_RX11_169 dX11_insertAttribute_4 [.int a2, .int (0 : Int32), .int (7 : Int32)] rfl (Nat.le_of_ble_eq_true rfl) (d1 := d - 1) (b1 := 0) (s1 := 0) (bc' := 0) (bs' := 0) (Q1 := fun r h9 => r = .inl (some (.int v1)) ∧ h = h9) (by omega) rfl rfl (w_X11_in (by omega) ev1 (fun _ _ q => q)) (fun E h9 q => nomatch (show (Sum.inr E : tq_R) = Sum.inl _ from q.1)) (fun r9 h9 q => ?_)
  obtain ⟨q1, rfl⟩ := q
  cases (show (Sum.inl r9 : tq_R) = Sum.inl (some (.int v1)) from q1)
  obtain ⟨p3, ep3, hf⟩ := tq_be hf
  have HJ7 : tq_W l mX11_insertAttribute d 0 0 Q 26 [(0, .ref t), (1, .int a1), (2, .int a2), (3, .int a3)] [.int p3] h := by
    refine tq_istore (M := mX11_insertAttribute) (pc := 26) dX11_insertAttribute_26 (L2 := [(4, .int p3), (0, .ref t), (1, .int a1), (2, .int a2), (3, .int a3)]) (by decide) rfl ?_
    refine tq_aload_n (M := mX11_insertAttribute) (pc := 28) dX11_insertAttribute_28 rfl ?_
    refine tq_aload_n (M := mX11_insertAttribute) (pc := 29) dX11_insertAttribute_29 rfl ?_
    refine tq_iload_n (M := mX11_insertAttribute) (pc := 30) dX11_insertAttribute_30 rfl ?_
    obtain ⟨⟨⟩, eu5, hf⟩ := tq_be hf
    obtain ⟨fsu5, eu5⟩ := tq_is_s eu5
    obtain ⟨v4, ev4, hf⟩ := tq_be hf
    refine tq_calV (M := mX11_insertAttribute) (pc := 31) (S := [.ref t]) tk_y_X11_isNode tk_v_X11_isNode tk_RX11_194 dX11_insertAttribute_31 [.int a1] rfl (S0 := _) rfl eu5 rfl (Nat.le_of_ble_eq_true rfl) (d1 := d - 1) (b1 := 0) (s1 := 0) (bc' := 0) (bs' := 0) (Q1 := fun r h9 => r = .inl (some (.int v4)) ∧ h = h9) (by omega) rfl rfl (w_X11_isNode (by omega) ev4 (fun _ _ q => q)) (fun E h9 q => nomatch (show (Sum.inr E : tq_R) = Sum.inl _ from q.1)) (fun r9 h9 q => ?_)
    obtain ⟨q1, rfl⟩ := q
    cases (show (Sum.inl r9 : tq_R) = Sum.inl (some (.int v4)) from q1)
    obtain ⟨p8, ep8, hf⟩ := tq_be hf
    have HJ34 : tq_W l mX11_insertAttribute d 0 0 Q 63 [(0, .ref t), (1, .int a1), (2, .int a2), (3, .int a3)] [.int p8, .ref t] h := by
      obtain ⟨⟨⟩, eu10, hf⟩ := tq_be hf
      obtain ⟨fsu10, eu10⟩ := tq_is_s eu10
      obtain ⟨v9, ev9, hf⟩ := tq_be hf
      refine tq_calV (M := mX11_insertAttribute) (pc := 63) (S := []) tk_y_X11_refused tk_v_X11_refused tk_RX11_204 dX11_insertAttribute_63 [.int p8] rfl (S0 := _) rfl eu10 rfl (Nat.le_of_ble_eq_true rfl) (d1 := d - 1) (b1 := 0) (s1 := 0) (bc' := 0) (bs' := 0) (Q1 := fun r h9 => r = .inl (some (.int v9.1)) ∧ v9.2 = h9) (by omega) rfl rfl (w_X11_refused (by omega) ev9 (fun _ _ q => q)) (fun E h9 q => nomatch (show (Sum.inr E : tq_R) = Sum.inl _ from q.1)) (fun r9 h9 q => ?_)
      obtain ⟨q1, rfl⟩ := q
      cases (show (Sum.inl r9 : tq_R) = Sum.inl (some (.int v9.1)) from q1)
      refine tq_if_eq (M := mX11_insertAttribute) (pc := 66) (tgt := 71) dX11_insertAttribute_66 (by decide) (fun cc => ?_) (fun cc => ?_)
      · have hf := tq_ifp hf cc
        refine tq_aload_n (M := mX11_insertAttribute) (pc := 71) dX11_insertAttribute_71 rfl ?_
        refine tq_iconst (M := mX11_insertAttribute) (pc := 72) dX11_insertAttribute_72 tk_ki_0 ?_
        refine tq_iconst (M := mX11_insertAttribute) (pc := 73) dX11_insertAttribute_73 tk_ki_m1 ?_
        refine tq_iload_n (M := mX11_insertAttribute) (pc := 74) dX11_insertAttribute_74 rfl ?_
        refine tq_iconst (M := mX11_insertAttribute) (pc := 75) dX11_insertAttribute_75 tk_ki_0 ?_
        refine tq_iconst (M := mX11_insertAttribute) (pc := 76) dX11_insertAttribute_76 tk_ki_2 ?_
        refine tq_iload_n (M := mX11_insertAttribute) (pc := 77) dX11_insertAttribute_77 rfl ?_
        refine tq_iload_n (M := mX11_insertAttribute) (pc := 78) dX11_insertAttribute_78 rfl ?_
        obtain ⟨⟨⟩, eu12, hf⟩ := tq_be hf
        obtain ⟨fsu12, eu12⟩ := tq_is_s eu12
        obtain ⟨v11, ev11, hf⟩ := tq_be hf
        refine tq_calV (M := mX11_insertAttribute) (pc := 79) (S := []) tk_y_X11_collect tk_v_X11_collect tk_RX11_207 dX11_insertAttribute_79 [.int (0 : Int32), .int (-1 : Int32), .int a1, .int (0 : Int32), .int (2 : Int32), .int a2, .int a3] rfl (S0 := _) rfl eu12 rfl (Nat.le_of_ble_eq_true rfl) (d1 := d - 1) (b1 := 0) (s1 := 0) (bc' := 0) (bs' := 0) (Q1 := fun r h9 => r = .inl (some (.int v11.1)) ∧ v11.2 = h9) (by omega) rfl rfl (w_X11_collect (by omega) ev11 (fun _ _ q => q)) (fun E h9 q => nomatch (show (Sum.inr E : tq_R) = Sum.inl _ from q.1)) (fun r9 h9 q => ?_)
        obtain ⟨q1, rfl⟩ := q
        cases (show (Sum.inl r9 : tq_R) = Sum.inl (some (.int v11.1)) from q1)
        refine tq_iret (M := mX11_insertAttribute) (pc := 82) dX11_insertAttribute_82 rfl ?_
        cases (Option.some.inj hf)
        exact hQ _ _ ⟨rfl, rfl⟩
      · have hf := tq_ifn hf cc
        refine tq_iconst (M := mX11_insertAttribute) (pc := 69) dX11_insertAttribute_69 tk_ki_0 ?_
        refine tq_iret (M := mX11_insertAttribute) (pc := 70) dX11_insertAttribute_70 rfl ?_
        cases (Option.some.inj hf)
        exact hQ _ _ ⟨rfl, rfl⟩
    refine tq_if_ne (M := mX11_insertAttribute) (pc := 34) (tgt := 41) dX11_insertAttribute_34 (by decide) (fun cc => ?_) (fun cc => ?_)
    · have hf := tq_ifn ep8 cc
      refine tq_iload (M := mX11_insertAttribute) (pc := 41) dX11_insertAttribute_41 rfl ?_
      refine tq_if_ne (M := mX11_insertAttribute) (pc := 43) (tgt := 50) dX11_insertAttribute_43 (by decide) (fun cc => ?_) (fun cc => ?_)
      · have hf := tq_ifn hf cc
        refine tq_aload_n (M := mX11_insertAttribute) (pc := 50) dX11_insertAttribute_50 rfl ?_
        refine tq_iload_n (M := mX11_insertAttribute) (pc := 51) dX11_insertAttribute_51 rfl ?_
        obtain ⟨⟨⟩, eu7, hf⟩ := tq_be hf
        obtain ⟨fsu7, eu7⟩ := tq_is_s eu7
        obtain ⟨v6, ev6, hf⟩ := tq_be hf
        refine tq_calV (M := mX11_insertAttribute) (pc := 52) (S := [.ref t]) tk_y_X11_takes tk_v_X11_takes tk_RX11_201 dX11_insertAttribute_52 [.int a1] rfl (S0 := _) rfl eu7 rfl (Nat.le_of_ble_eq_true rfl) (d1 := d - 1) (b1 := 0) (s1 := 0) (bc' := 0) (bs' := 0) (Q1 := fun r h9 => r = .inl (some (.int v6)) ∧ h = h9) (by omega) rfl rfl (w_X11_takes (by omega) ev6 (fun _ _ q => q)) (fun E h9 q => nomatch (show (Sum.inr E : tq_R) = Sum.inl _ from q.1)) (fun r9 h9 q => ?_)
        obtain ⟨q1, rfl⟩ := q
        cases (show (Sum.inl r9 : tq_R) = Sum.inl (some (.int v6)) from q1)
        refine tq_if_eq (M := mX11_insertAttribute) (pc := 55) (tgt := 62) dX11_insertAttribute_55 (by decide) (fun cc => ?_) (fun cc => ?_)
        · have hf := tq_ifp hf cc
          refine tq_iconst (M := mX11_insertAttribute) (pc := 62) dX11_insertAttribute_62 tk_ki_3 ?_
          refine tq_pick (L2 := [(0, .ref t), (1, .int a1), (2, .int a2), (3, .int a3)]) [1, 2, 3, 4] rfl ?_
          cases (Option.some.inj hf)
          exact HJ34
        · have hf := tq_ifn hf cc
          refine tq_iconst (M := mX11_insertAttribute) (pc := 58) dX11_insertAttribute_58 tk_ki_0 ?_
          refine tq_goto (M := mX11_insertAttribute) (pc := 59) (tgt := 63) dX11_insertAttribute_59 (by decide) ?_
          refine tq_pick (L2 := [(0, .ref t), (1, .int a1), (2, .int a2), (3, .int a3)]) [1, 2, 3, 4] rfl ?_
          cases (Option.some.inj hf)
          exact HJ34
      · have hf := tq_ifp hf cc
        refine tq_iconst (M := mX11_insertAttribute) (pc := 46) dX11_insertAttribute_46 tk_ki_2 ?_
        refine tq_goto (M := mX11_insertAttribute) (pc := 47) (tgt := 63) dX11_insertAttribute_47 (by decide) ?_
        refine tq_pick (L2 := [(0, .ref t), (1, .int a1), (2, .int a2), (3, .int a3)]) [1, 2, 3, 4] rfl ?_
        cases (Option.some.inj hf)
        exact HJ34
    · have hf := tq_ifp ep8 cc
      refine tq_iconst (M := mX11_insertAttribute) (pc := 37) dX11_insertAttribute_37 tk_ki_1 ?_
      refine tq_goto (M := mX11_insertAttribute) (pc := 38) (tgt := 63) dX11_insertAttribute_38 (by decide) ?_
      refine tq_pick (L2 := [(0, .ref t), (1, .int a1), (2, .int a2), (3, .int a3)]) [1, 2, 3, 4] rfl ?_
      cases (Option.some.inj hf)
      exact HJ34
  refine tq_if_eq (M := mX11_insertAttribute) (pc := 7) (tgt := 25) dX11_insertAttribute_7 (by decide) (fun cc => ?_) (fun cc => ?_)
  · have hf := tq_ifp ep3 cc
    refine tq_iconst (M := mX11_insertAttribute) (pc := 25) dX11_insertAttribute_25 tk_ki_0 ?_
    cases (Option.some.inj hf)
    exact HJ7
  · have hf := tq_ifn ep3 cc
    refine tq_iload_n (M := mX11_insertAttribute) (pc := 10) dX11_insertAttribute_10 rfl ?_
    refine tq_iconst (M := mX11_insertAttribute) (pc := 11) dX11_insertAttribute_11 tk_ki_0 ?_
    refine tq_sipush (M := mX11_insertAttribute) (pc := 12) dX11_insertAttribute_12 tk_ks_999 ?_
    obtain ⟨v2, ev2, hf⟩ := tq_be hf
    refine tq_calS (M := mX11_insertAttribute) (pc := 15) (S := []) tk_y_X11_in tk_s_X11_in tk_RX11_169 dX11_insertAttribute_15 [.int a3, .int (0 : Int32), .int (999 : Int32)] rfl (Nat.le_of_ble_eq_true rfl) (d1 := d - 1) (b1 := 0) (s1 := 0) (bc' := 0) (bs' := 0) (Q1 := fun r h9 => r = .inl (some (.int v2)) ∧ h = h9) (by omega) rfl rfl (w_X11_in (by omega) ev2 (fun _ _ q => q)) (fun E h9 q => nomatch (show (Sum.inr E : tq_R) = Sum.inl _ from q.1)) (fun r9 h9 q => ?_)
    obtain ⟨q1, rfl⟩ := q
    cases (show (Sum.inl r9 : tq_R) = Sum.inl (some (.int v2)) from q1)
    refine tq_if_eq (M := mX11_insertAttribute) (pc := 18) (tgt := 25) dX11_insertAttribute_18 (by decide) (fun cc => ?_) (fun cc => ?_)
    · have hf := tq_ifp hf cc
      refine tq_iconst (M := mX11_insertAttribute) (pc := 25) dX11_insertAttribute_25 tk_ki_0 ?_
      cases (Option.some.inj hf)
      exact HJ7
    · have hf := tq_ifn hf cc
      refine tq_iconst (M := mX11_insertAttribute) (pc := 21) dX11_insertAttribute_21 tk_ki_1 ?_
      refine tq_goto (M := mX11_insertAttribute) (pc := 22) (tgt := 26) dX11_insertAttribute_22 (by decide) ?_
      cases (Option.some.inj hf)
      exact HJ7
abbrev mX11_remove : tq_M := (RX11, cX11_remove, 2, (some .int), false, [], none)
def f_X11_remove (t : Nat) (a1 : Int32) (h : tq_H) : Option (Int32 × tq_H) :=
  (tq_is h t 11).bind fun _ =>
  (f_X11_isNode t a1 h).bind fun v1 =>
  (if v1 = 0 then
    some (1 : Int32)
  else
    if a1 = 0 then
      some (2 : Int32)
    else
      (tq_gi h t 11 15).bind fun x3 =>
      if x3 = (20 : Int32) then
        some (2 : Int32)
      else
        some (0 : Int32)).bind fun p4 =>
  (tq_is h t 11).bind fun _ =>
  (f_X11_refused t p4 h).bind fun v5 =>
  if v5.1 = 0 then
    (tq_is v5.2 t 11).bind fun _ =>
    (f_X11_collect t (1 : Int32) a1 (-1 : Int32) (0 : Int32) (0 : Int32) (0 : Int32) (0 : Int32) v5.2).bind fun v7 =>
    some (v7.1, v7.2)
  else
    some ((0 : Int32), v5.2)
set_option maxHeartbeats 4000000 in
set_option maxRecDepth 20000 in
theorem w_X11_remove {l : Launch} {d : Nat} (hd9 : 2 ≤ d) {t : Nat} {a1 : Int32} {h : tq_H} {o : Int32 × tq_H} {Q : tq_R → tq_H → Prop} (hf : f_X11_remove t a1 h = some o) (hQ : ∀ r h9, r = .inl (some (.int o.1)) ∧ o.2 = h9 → Q r h9) : tq_C l yX11_remove cX11_remove 2 (some .int) d 0 0 [.ref t, .int a1] h Q := by
  refine tq_body (y := yX11_remove) false (by decide +kernel) (fun z => by cases z) (Nat.le_of_ble_eq_true rfl) ?_
  show tq_W l mX11_remove d 0 0 Q 0 [(0, .ref t), (1, .int a1)] [] h
  refine tq_aload_n (M := mX11_remove) (pc := 0) dX11_remove_0 rfl ?_
  refine tq_aload_n (M := mX11_remove) (pc := 1) dX11_remove_1 rfl ?_
  refine tq_iload_n (M := mX11_remove) (pc := 2) dX11_remove_2 rfl ?_
  obtain ⟨⟨⟩, eu2, hf⟩ := tq_be hf
  obtain ⟨fsu2, eu2⟩ := tq_is_s eu2
  obtain ⟨v1, ev1, hf⟩ := tq_be hf
  refine tq_calV (M := mX11_remove) (pc := 3) (S := [.ref t]) tk_y_X11_isNode tk_v_X11_isNode tk_RX11_194 dX11_remove_3 [.int a1] rfl (S0 := _) rfl eu2 rfl (Nat.le_of_ble_eq_true rfl) (d1 := d - 1) (b1 := 0) (s1 := 0) (bc' := 0) (bs' := 0) (Q1 := fun r h9 => r = .inl (some (.int v1)) ∧ h = h9) (by omega) rfl rfl (w_X11_isNode (by omega) ev1 (fun _ _ q => q)) (fun E h9 q => nomatch (show (Sum.inr E : tq_R) = Sum.inl _ from q.1)) (fun r9 h9 q => ?_)
  obtain ⟨q1, rfl⟩ := q
  cases (show (Sum.inl r9 : tq_R) = Sum.inl (some (.int v1)) from q1)
  obtain ⟨p4, ep4, hf⟩ := tq_be hf
  have HJ6 : tq_W l mX11_remove d 0 0 Q 31 [(0, .ref t), (1, .int a1)] [.int p4, .ref t] h := by
    obtain ⟨⟨⟩, eu6, hf⟩ := tq_be hf
    obtain ⟨fsu6, eu6⟩ := tq_is_s eu6
    obtain ⟨v5, ev5, hf⟩ := tq_be hf
    refine tq_calV (M := mX11_remove) (pc := 31) (S := []) tk_y_X11_refused tk_v_X11_refused tk_RX11_204 dX11_remove_31 [.int p4] rfl (S0 := _) rfl eu6 rfl (Nat.le_of_ble_eq_true rfl) (d1 := d - 1) (b1 := 0) (s1 := 0) (bc' := 0) (bs' := 0) (Q1 := fun r h9 => r = .inl (some (.int v5.1)) ∧ v5.2 = h9) (by omega) rfl rfl (w_X11_refused (by omega) ev5 (fun _ _ q => q)) (fun E h9 q => nomatch (show (Sum.inr E : tq_R) = Sum.inl _ from q.1)) (fun r9 h9 q => ?_)
    obtain ⟨q1, rfl⟩ := q
    cases (show (Sum.inl r9 : tq_R) = Sum.inl (some (.int v5.1)) from q1)
    refine tq_if_eq (M := mX11_remove) (pc := 34) (tgt := 39) dX11_remove_34 (by decide) (fun cc => ?_) (fun cc => ?_)
    · have hf := tq_ifp hf cc
      refine tq_aload_n (M := mX11_remove) (pc := 39) dX11_remove_39 rfl ?_
      refine tq_iconst (M := mX11_remove) (pc := 40) dX11_remove_40 tk_ki_1 ?_
      refine tq_iload_n (M := mX11_remove) (pc := 41) dX11_remove_41 rfl ?_
      refine tq_iconst (M := mX11_remove) (pc := 42) dX11_remove_42 tk_ki_m1 ?_
      refine tq_iconst (M := mX11_remove) (pc := 43) dX11_remove_43 tk_ki_0 ?_
      refine tq_iconst (M := mX11_remove) (pc := 44) dX11_remove_44 tk_ki_0 ?_
      refine tq_iconst (M := mX11_remove) (pc := 45) dX11_remove_45 tk_ki_0 ?_
      refine tq_iconst (M := mX11_remove) (pc := 46) dX11_remove_46 tk_ki_0 ?_
      obtain ⟨⟨⟩, eu8, hf⟩ := tq_be hf
      obtain ⟨fsu8, eu8⟩ := tq_is_s eu8
      obtain ⟨v7, ev7, hf⟩ := tq_be hf
      refine tq_calV (M := mX11_remove) (pc := 47) (S := []) tk_y_X11_collect tk_v_X11_collect tk_RX11_207 dX11_remove_47 [.int (1 : Int32), .int a1, .int (-1 : Int32), .int (0 : Int32), .int (0 : Int32), .int (0 : Int32), .int (0 : Int32)] rfl (S0 := _) rfl eu8 rfl (Nat.le_of_ble_eq_true rfl) (d1 := d - 1) (b1 := 0) (s1 := 0) (bc' := 0) (bs' := 0) (Q1 := fun r h9 => r = .inl (some (.int v7.1)) ∧ v7.2 = h9) (by omega) rfl rfl (w_X11_collect (by omega) ev7 (fun _ _ q => q)) (fun E h9 q => nomatch (show (Sum.inr E : tq_R) = Sum.inl _ from q.1)) (fun r9 h9 q => ?_)
      obtain ⟨q1, rfl⟩ := q
      cases (show (Sum.inl r9 : tq_R) = Sum.inl (some (.int v7.1)) from q1)
      refine tq_iret (M := mX11_remove) (pc := 50) dX11_remove_50 rfl ?_
      cases (Option.some.inj hf)
      exact hQ _ _ ⟨rfl, rfl⟩
    · have hf := tq_ifn hf cc
      refine tq_iconst (M := mX11_remove) (pc := 37) dX11_remove_37 tk_ki_0 ?_
      refine tq_iret (M := mX11_remove) (pc := 38) dX11_remove_38 rfl ?_
      cases (Option.some.inj hf)
      exact hQ _ _ ⟨rfl, rfl⟩
  refine tq_if_ne (M := mX11_remove) (pc := 6) (tgt := 13) dX11_remove_6 (by decide) (fun cc => ?_) (fun cc => ?_)
  · have hf := tq_ifn ep4 cc
    refine tq_iload_n (M := mX11_remove) (pc := 13) dX11_remove_13 rfl ?_
    refine tq_if_eq (M := mX11_remove) (pc := 14) (tgt := 26) dX11_remove_14 (by decide) (fun cc => ?_) (fun cc => ?_)
    · have hf := tq_ifp hf cc
      refine tq_iconst (M := mX11_remove) (pc := 26) dX11_remove_26 tk_ki_2 ?_
      refine tq_goto (M := mX11_remove) (pc := 27) (tgt := 31) dX11_remove_27 (by decide) ?_
      cases (Option.some.inj hf)
      exact HJ6
    · have hf := tq_ifn hf cc
      refine tq_aload_n (M := mX11_remove) (pc := 17) dX11_remove_17 rfl ?_
      obtain ⟨x3, ex3, hf⟩ := tq_be hf
      refine tq_getI (M := mX11_remove) (pc := 18) tk_c11 (by decide) dX11_remove_18 tk_RX11_191 rfl ex3 ?_
      refine tq_bipush (M := mX11_remove) (pc := 21) dX11_remove_21 tk_kb_20 ?_
      refine tq_icmp_ne (M := mX11_remove) (pc := 23) (tgt := 30) dX11_remove_23 (by decide) (fun cc => ?_) (fun cc => ?_)
      · have hf := tq_ifn hf cc
        refine tq_iconst (M := mX11_remove) (pc := 30) dX11_remove_30 tk_ki_0 ?_
        cases (Option.some.inj hf)
        exact HJ6
      · have hf := tq_ifp hf cc
        refine tq_iconst (M := mX11_remove) (pc := 26) dX11_remove_26 tk_ki_2 ?_
        refine tq_goto (M := mX11_remove) (pc := 27) (tgt := 31) dX11_remove_27 (by decide) ?_
        cases (Option.some.inj hf)
        exact HJ6
  · have hf := tq_ifp ep4 cc
    refine tq_iconst (M := mX11_remove) (pc := 9) dX11_remove_9 tk_ki_1 ?_
    refine tq_goto (M := mX11_remove) (pc := 10) (tgt := 31) dX11_remove_10 (by decide) ?_
    cases (Option.some.inj hf)
    exact HJ6
abbrev mX11_rename : tq_M := (RX11, cX11_rename, 3, (some .int), false, [], none)
def f_X11_rename (t : Nat) (a1 : Int32) (a2 : Int32) (h : tq_H) : Option (Int32 × tq_H) :=
  (tq_is h t 11).bind fun _ =>
  (f_X11_isNode t a1 h).bind fun v1 =>
  (if v1 = 0 then
    some (1 : Int32)
  else
    (f_X11_in a2 (0 : Int32) (7 : Int32) h).bind fun v3 =>
    if v3 = 0 then
      some (2 : Int32)
    else
      (tq_gr h t 11 2).bind fun k4 =>
      (tq_ai h k4 a1).bind fun x5 =>
      if x5 = (1 : Int32) then
        some (3 : Int32)
      else
        (tq_gi h t 11 15).bind fun x6 =>
        if x6 = (20 : Int32) then
          some (3 : Int32)
        else
          some (0 : Int32)).bind fun p7 =>
  (tq_is h t 11).bind fun _ =>
  (f_X11_refused t p7 h).bind fun v8 =>
  if v8.1 = 0 then
    (tq_is v8.2 t 11).bind fun _ =>
    (f_X11_collect t (2 : Int32) a1 (-1 : Int32) (0 : Int32) (0 : Int32) a2 (0 : Int32) v8.2).bind fun v10 =>
    some (v10.1, v10.2)
  else
    some ((0 : Int32), v8.2)
set_option maxHeartbeats 4000000 in
set_option maxRecDepth 20000 in
theorem w_X11_rename {l : Launch} {d : Nat} (hd9 : 2 ≤ d) {t : Nat} {a1 : Int32} {a2 : Int32} {h : tq_H} {o : Int32 × tq_H} {Q : tq_R → tq_H → Prop} (hf : f_X11_rename t a1 a2 h = some o) (hQ : ∀ r h9, r = .inl (some (.int o.1)) ∧ o.2 = h9 → Q r h9) : tq_C l yX11_rename cX11_rename 3 (some .int) d 0 0 [.ref t, .int a1, .int a2] h Q := by
  refine tq_body (y := yX11_rename) false (by decide +kernel) (fun z => by cases z) (Nat.le_of_ble_eq_true rfl) ?_
  show tq_W l mX11_rename d 0 0 Q 0 [(0, .ref t), (1, .int a1), (2, .int a2)] [] h
  refine tq_aload_n (M := mX11_rename) (pc := 0) dX11_rename_0 rfl ?_
  refine tq_aload_n (M := mX11_rename) (pc := 1) dX11_rename_1 rfl ?_
  refine tq_iload_n (M := mX11_rename) (pc := 2) dX11_rename_2 rfl ?_
  obtain ⟨⟨⟩, eu2, hf⟩ := tq_be hf
  obtain ⟨fsu2, eu2⟩ := tq_is_s eu2
  obtain ⟨v1, ev1, hf⟩ := tq_be hf
  refine tq_calV (M := mX11_rename) (pc := 3) (S := [.ref t]) tk_y_X11_isNode tk_v_X11_isNode tk_RX11_194 dX11_rename_3 [.int a1] rfl (S0 := _) rfl eu2 rfl (Nat.le_of_ble_eq_true rfl) (d1 := d - 1) (b1 := 0) (s1 := 0) (bc' := 0) (bs' := 0) (Q1 := fun r h9 => r = .inl (some (.int v1)) ∧ h = h9) (by omega) rfl rfl (w_X11_isNode (by omega) ev1 (fun _ _ q => q)) (fun E h9 q => nomatch (show (Sum.inr E : tq_R) = Sum.inl _ from q.1)) (fun r9 h9 q => ?_)
  obtain ⟨q1, rfl⟩ := q
  cases (show (Sum.inl r9 : tq_R) = Sum.inl (some (.int v1)) from q1)
  obtain ⟨p7, ep7, hf⟩ := tq_be hf
  have HJ6 : tq_W l mX11_rename d 0 0 Q 51 [(0, .ref t), (1, .int a1), (2, .int a2)] [.int p7, .ref t] h := by
    obtain ⟨⟨⟩, eu9, hf⟩ := tq_be hf
    obtain ⟨fsu9, eu9⟩ := tq_is_s eu9
    obtain ⟨v8, ev8, hf⟩ := tq_be hf
    refine tq_calV (M := mX11_rename) (pc := 51) (S := []) tk_y_X11_refused tk_v_X11_refused tk_RX11_204 dX11_rename_51 [.int p7] rfl (S0 := _) rfl eu9 rfl (Nat.le_of_ble_eq_true rfl) (d1 := d - 1) (b1 := 0) (s1 := 0) (bc' := 0) (bs' := 0) (Q1 := fun r h9 => r = .inl (some (.int v8.1)) ∧ v8.2 = h9) (by omega) rfl rfl (w_X11_refused (by omega) ev8 (fun _ _ q => q)) (fun E h9 q => nomatch (show (Sum.inr E : tq_R) = Sum.inl _ from q.1)) (fun r9 h9 q => ?_)
    obtain ⟨q1, rfl⟩ := q
    cases (show (Sum.inl r9 : tq_R) = Sum.inl (some (.int v8.1)) from q1)
    refine tq_if_eq (M := mX11_rename) (pc := 54) (tgt := 59) dX11_rename_54 (by decide) (fun cc => ?_) (fun cc => ?_)
    · have hf := tq_ifp hf cc
      refine tq_aload_n (M := mX11_rename) (pc := 59) dX11_rename_59 rfl ?_
      refine tq_iconst (M := mX11_rename) (pc := 60) dX11_rename_60 tk_ki_2 ?_
      refine tq_iload_n (M := mX11_rename) (pc := 61) dX11_rename_61 rfl ?_
      refine tq_iconst (M := mX11_rename) (pc := 62) dX11_rename_62 tk_ki_m1 ?_
      refine tq_iconst (M := mX11_rename) (pc := 63) dX11_rename_63 tk_ki_0 ?_
      refine tq_iconst (M := mX11_rename) (pc := 64) dX11_rename_64 tk_ki_0 ?_
      refine tq_iload_n (M := mX11_rename) (pc := 65) dX11_rename_65 rfl ?_
      refine tq_iconst (M := mX11_rename) (pc := 66) dX11_rename_66 tk_ki_0 ?_
      obtain ⟨⟨⟩, eu11, hf⟩ := tq_be hf
      obtain ⟨fsu11, eu11⟩ := tq_is_s eu11
      obtain ⟨v10, ev10, hf⟩ := tq_be hf
      refine tq_calV (M := mX11_rename) (pc := 67) (S := []) tk_y_X11_collect tk_v_X11_collect tk_RX11_207 dX11_rename_67 [.int (2 : Int32), .int a1, .int (-1 : Int32), .int (0 : Int32), .int (0 : Int32), .int a2, .int (0 : Int32)] rfl (S0 := _) rfl eu11 rfl (Nat.le_of_ble_eq_true rfl) (d1 := d - 1) (b1 := 0) (s1 := 0) (bc' := 0) (bs' := 0) (Q1 := fun r h9 => r = .inl (some (.int v10.1)) ∧ v10.2 = h9) (by omega) rfl rfl (w_X11_collect (by omega) ev10 (fun _ _ q => q)) (fun E h9 q => nomatch (show (Sum.inr E : tq_R) = Sum.inl _ from q.1)) (fun r9 h9 q => ?_)
      obtain ⟨q1, rfl⟩ := q
      cases (show (Sum.inl r9 : tq_R) = Sum.inl (some (.int v10.1)) from q1)
      refine tq_iret (M := mX11_rename) (pc := 70) dX11_rename_70 rfl ?_
      cases (Option.some.inj hf)
      exact hQ _ _ ⟨rfl, rfl⟩
    · have hf := tq_ifn hf cc
      refine tq_iconst (M := mX11_rename) (pc := 57) dX11_rename_57 tk_ki_0 ?_
      refine tq_iret (M := mX11_rename) (pc := 58) dX11_rename_58 rfl ?_
      cases (Option.some.inj hf)
      exact hQ _ _ ⟨rfl, rfl⟩
  refine tq_if_ne (M := mX11_rename) (pc := 6) (tgt := 13) dX11_rename_6 (by decide) (fun cc => ?_) (fun cc => ?_)
  · have hf := tq_ifn ep7 cc
    refine tq_iload_n (M := mX11_rename) (pc := 13) dX11_rename_13 rfl ?_
    refine tq_iconst (M := mX11_rename) (pc := 14) dX11_rename_14 tk_ki_0 ?_
    refine tq_bipush (M := mX11_rename) (pc := 15) dX11_rename_15 tk_kb_7 ?_
    obtain ⟨v3, ev3, hf⟩ := tq_be hf
    refine tq_calS (M := mX11_rename) (pc := 17) (S := [.ref t]) tk_y_X11_in tk_s_X11_in tk_RX11_169 dX11_rename_17 [.int a2, .int (0 : Int32), .int (7 : Int32)] rfl (Nat.le_of_ble_eq_true rfl) (d1 := d - 1) (b1 := 0) (s1 := 0) (bc' := 0) (bs' := 0) (Q1 := fun r h9 => r = .inl (some (.int v3)) ∧ h = h9) (by omega) rfl rfl (w_X11_in (by omega) ev3 (fun _ _ q => q)) (fun E h9 q => nomatch (show (Sum.inr E : tq_R) = Sum.inl _ from q.1)) (fun r9 h9 q => ?_)
    obtain ⟨q1, rfl⟩ := q
    cases (show (Sum.inl r9 : tq_R) = Sum.inl (some (.int v3)) from q1)
    refine tq_if_ne (M := mX11_rename) (pc := 20) (tgt := 27) dX11_rename_20 (by decide) (fun cc => ?_) (fun cc => ?_)
    · have hf := tq_ifn hf cc
      refine tq_aload_n (M := mX11_rename) (pc := 27) dX11_rename_27 rfl ?_
      obtain ⟨k4, ek4, hf⟩ := tq_be hf
      refine tq_getR (M := mX11_rename) (pc := 28) tk_c11 (by decide) dX11_rename_28 tk_RX11_7 rfl ek4 ?_
      refine tq_iload_n (M := mX11_rename) (pc := 31) dX11_rename_31 rfl ?_
      obtain ⟨x5, ex5, hf⟩ := tq_be hf
      refine tq_ialdF (M := mX11_rename) (pc := 32) dX11_rename_32 ex5 ?_
      refine tq_iconst (M := mX11_rename) (pc := 33) dX11_rename_33 tk_ki_1 ?_
      refine tq_icmp_eq (M := mX11_rename) (pc := 34) (tgt := 46) dX11_rename_34 (by decide) (fun cc => ?_) (fun cc => ?_)
      · have hf := tq_ifp hf cc
        refine tq_iconst (M := mX11_rename) (pc := 46) dX11_rename_46 tk_ki_3 ?_
        refine tq_goto (M := mX11_rename) (pc := 47) (tgt := 51) dX11_rename_47 (by decide) ?_
        cases (Option.some.inj hf)
        exact HJ6
      · have hf := tq_ifn hf cc
        refine tq_aload_n (M := mX11_rename) (pc := 37) dX11_rename_37 rfl ?_
        obtain ⟨x6, ex6, hf⟩ := tq_be hf
        refine tq_getI (M := mX11_rename) (pc := 38) tk_c11 (by decide) dX11_rename_38 tk_RX11_191 rfl ex6 ?_
        refine tq_bipush (M := mX11_rename) (pc := 41) dX11_rename_41 tk_kb_20 ?_
        refine tq_icmp_ne (M := mX11_rename) (pc := 43) (tgt := 50) dX11_rename_43 (by decide) (fun cc => ?_) (fun cc => ?_)
        · have hf := tq_ifn hf cc
          refine tq_iconst (M := mX11_rename) (pc := 50) dX11_rename_50 tk_ki_0 ?_
          cases (Option.some.inj hf)
          exact HJ6
        · have hf := tq_ifp hf cc
          refine tq_iconst (M := mX11_rename) (pc := 46) dX11_rename_46 tk_ki_3 ?_
          refine tq_goto (M := mX11_rename) (pc := 47) (tgt := 51) dX11_rename_47 (by decide) ?_
          cases (Option.some.inj hf)
          exact HJ6
    · have hf := tq_ifp hf cc
      refine tq_iconst (M := mX11_rename) (pc := 23) dX11_rename_23 tk_ki_2 ?_
      refine tq_goto (M := mX11_rename) (pc := 24) (tgt := 51) dX11_rename_24 (by decide) ?_
      cases (Option.some.inj hf)
      exact HJ6
  · have hf := tq_ifp ep7 cc
    refine tq_iconst (M := mX11_rename) (pc := 9) dX11_rename_9 tk_ki_1 ?_
    refine tq_goto (M := mX11_rename) (pc := 10) (tgt := 51) dX11_rename_10 (by decide) ?_
    cases (Option.some.inj hf)
    exact HJ6
abbrev mX11_setValue : tq_M := (RX11, cX11_setValue, 3, (some .int), false, [], none)
def f_X11_setValue (t : Nat) (a1 : Int32) (a2 : Int32) (h : tq_H) : Option (Int32 × tq_H) :=
  (tq_is h t 11).bind fun _ =>
  (f_X11_isNode t a1 h).bind fun v1 =>
  (if v1 = 0 then
    some (1 : Int32)
  else
    (f_X11_in a2 (0 : Int32) (999 : Int32) h).bind fun v3 =>
    if v3 = 0 then
      some (2 : Int32)
    else
      (tq_gr h t 11 2).bind fun k4 =>
      (tq_ai h k4 a1).bind fun x5 =>
      if x5 = 0 then
        some (3 : Int32)
      else
        (tq_gi h t 11 15).bind fun x6 =>
        if x6 = (20 : Int32) then
          some (3 : Int32)
        else
          some (0 : Int32)).bind fun p7 =>
  (tq_is h t 11).bind fun _ =>
  (f_X11_refused t p7 h).bind fun v8 =>
  if v8.1 = 0 then
    (tq_is v8.2 t 11).bind fun _ =>
    (f_X11_collect t (3 : Int32) a1 (-1 : Int32) (0 : Int32) (0 : Int32) (0 : Int32) a2 v8.2).bind fun v10 =>
    some (v10.1, v10.2)
  else
    some ((0 : Int32), v8.2)
set_option maxHeartbeats 4000000 in
set_option maxRecDepth 20000 in
theorem w_X11_setValue {l : Launch} {d : Nat} (hd9 : 2 ≤ d) {t : Nat} {a1 : Int32} {a2 : Int32} {h : tq_H} {o : Int32 × tq_H} {Q : tq_R → tq_H → Prop} (hf : f_X11_setValue t a1 a2 h = some o) (hQ : ∀ r h9, r = .inl (some (.int o.1)) ∧ o.2 = h9 → Q r h9) : tq_C l yX11_setValue cX11_setValue 3 (some .int) d 0 0 [.ref t, .int a1, .int a2] h Q := by
  refine tq_body (y := yX11_setValue) false (by decide +kernel) (fun z => by cases z) (Nat.le_of_ble_eq_true rfl) ?_
  show tq_W l mX11_setValue d 0 0 Q 0 [(0, .ref t), (1, .int a1), (2, .int a2)] [] h
  refine tq_aload_n (M := mX11_setValue) (pc := 0) dX11_setValue_0 rfl ?_
  refine tq_aload_n (M := mX11_setValue) (pc := 1) dX11_setValue_1 rfl ?_
  refine tq_iload_n (M := mX11_setValue) (pc := 2) dX11_setValue_2 rfl ?_
  obtain ⟨⟨⟩, eu2, hf⟩ := tq_be hf
  obtain ⟨fsu2, eu2⟩ := tq_is_s eu2
  obtain ⟨v1, ev1, hf⟩ := tq_be hf
  refine tq_calV (M := mX11_setValue) (pc := 3) (S := [.ref t]) tk_y_X11_isNode tk_v_X11_isNode tk_RX11_194 dX11_setValue_3 [.int a1] rfl (S0 := _) rfl eu2 rfl (Nat.le_of_ble_eq_true rfl) (d1 := d - 1) (b1 := 0) (s1 := 0) (bc' := 0) (bs' := 0) (Q1 := fun r h9 => r = .inl (some (.int v1)) ∧ h = h9) (by omega) rfl rfl (w_X11_isNode (by omega) ev1 (fun _ _ q => q)) (fun E h9 q => nomatch (show (Sum.inr E : tq_R) = Sum.inl _ from q.1)) (fun r9 h9 q => ?_)
  obtain ⟨q1, rfl⟩ := q
  cases (show (Sum.inl r9 : tq_R) = Sum.inl (some (.int v1)) from q1)
  obtain ⟨p7, ep7, hf⟩ := tq_be hf
  have HJ6 : tq_W l mX11_setValue d 0 0 Q 51 [(0, .ref t), (1, .int a1), (2, .int a2)] [.int p7, .ref t] h := by
    obtain ⟨⟨⟩, eu9, hf⟩ := tq_be hf
    obtain ⟨fsu9, eu9⟩ := tq_is_s eu9
    obtain ⟨v8, ev8, hf⟩ := tq_be hf
    refine tq_calV (M := mX11_setValue) (pc := 51) (S := []) tk_y_X11_refused tk_v_X11_refused tk_RX11_204 dX11_setValue_51 [.int p7] rfl (S0 := _) rfl eu9 rfl (Nat.le_of_ble_eq_true rfl) (d1 := d - 1) (b1 := 0) (s1 := 0) (bc' := 0) (bs' := 0) (Q1 := fun r h9 => r = .inl (some (.int v8.1)) ∧ v8.2 = h9) (by omega) rfl rfl (w_X11_refused (by omega) ev8 (fun _ _ q => q)) (fun E h9 q => nomatch (show (Sum.inr E : tq_R) = Sum.inl _ from q.1)) (fun r9 h9 q => ?_)
    obtain ⟨q1, rfl⟩ := q
    cases (show (Sum.inl r9 : tq_R) = Sum.inl (some (.int v8.1)) from q1)
    refine tq_if_eq (M := mX11_setValue) (pc := 54) (tgt := 59) dX11_setValue_54 (by decide) (fun cc => ?_) (fun cc => ?_)
    · have hf := tq_ifp hf cc
      refine tq_aload_n (M := mX11_setValue) (pc := 59) dX11_setValue_59 rfl ?_
      refine tq_iconst (M := mX11_setValue) (pc := 60) dX11_setValue_60 tk_ki_3 ?_
      refine tq_iload_n (M := mX11_setValue) (pc := 61) dX11_setValue_61 rfl ?_
      refine tq_iconst (M := mX11_setValue) (pc := 62) dX11_setValue_62 tk_ki_m1 ?_
      refine tq_iconst (M := mX11_setValue) (pc := 63) dX11_setValue_63 tk_ki_0 ?_
      refine tq_iconst (M := mX11_setValue) (pc := 64) dX11_setValue_64 tk_ki_0 ?_
      refine tq_iconst (M := mX11_setValue) (pc := 65) dX11_setValue_65 tk_ki_0 ?_
      refine tq_iload_n (M := mX11_setValue) (pc := 66) dX11_setValue_66 rfl ?_
      obtain ⟨⟨⟩, eu11, hf⟩ := tq_be hf
      obtain ⟨fsu11, eu11⟩ := tq_is_s eu11
      obtain ⟨v10, ev10, hf⟩ := tq_be hf
      refine tq_calV (M := mX11_setValue) (pc := 67) (S := []) tk_y_X11_collect tk_v_X11_collect tk_RX11_207 dX11_setValue_67 [.int (3 : Int32), .int a1, .int (-1 : Int32), .int (0 : Int32), .int (0 : Int32), .int (0 : Int32), .int a2] rfl (S0 := _) rfl eu11 rfl (Nat.le_of_ble_eq_true rfl) (d1 := d - 1) (b1 := 0) (s1 := 0) (bc' := 0) (bs' := 0) (Q1 := fun r h9 => r = .inl (some (.int v10.1)) ∧ v10.2 = h9) (by omega) rfl rfl (w_X11_collect (by omega) ev10 (fun _ _ q => q)) (fun E h9 q => nomatch (show (Sum.inr E : tq_R) = Sum.inl _ from q.1)) (fun r9 h9 q => ?_)
      obtain ⟨q1, rfl⟩ := q
      cases (show (Sum.inl r9 : tq_R) = Sum.inl (some (.int v10.1)) from q1)
      refine tq_iret (M := mX11_setValue) (pc := 70) dX11_setValue_70 rfl ?_
      cases (Option.some.inj hf)
      exact hQ _ _ ⟨rfl, rfl⟩
    · have hf := tq_ifn hf cc
      refine tq_iconst (M := mX11_setValue) (pc := 57) dX11_setValue_57 tk_ki_0 ?_
      refine tq_iret (M := mX11_setValue) (pc := 58) dX11_setValue_58 rfl ?_
      cases (Option.some.inj hf)
      exact hQ _ _ ⟨rfl, rfl⟩
  refine tq_if_ne (M := mX11_setValue) (pc := 6) (tgt := 13) dX11_setValue_6 (by decide) (fun cc => ?_) (fun cc => ?_)
  · have hf := tq_ifn ep7 cc
    refine tq_iload_n (M := mX11_setValue) (pc := 13) dX11_setValue_13 rfl ?_
    refine tq_iconst (M := mX11_setValue) (pc := 14) dX11_setValue_14 tk_ki_0 ?_
    refine tq_sipush (M := mX11_setValue) (pc := 15) dX11_setValue_15 tk_ks_999 ?_
    obtain ⟨v3, ev3, hf⟩ := tq_be hf
    refine tq_calS (M := mX11_setValue) (pc := 18) (S := [.ref t]) tk_y_X11_in tk_s_X11_in tk_RX11_169 dX11_setValue_18 [.int a2, .int (0 : Int32), .int (999 : Int32)] rfl (Nat.le_of_ble_eq_true rfl) (d1 := d - 1) (b1 := 0) (s1 := 0) (bc' := 0) (bs' := 0) (Q1 := fun r h9 => r = .inl (some (.int v3)) ∧ h = h9) (by omega) rfl rfl (w_X11_in (by omega) ev3 (fun _ _ q => q)) (fun E h9 q => nomatch (show (Sum.inr E : tq_R) = Sum.inl _ from q.1)) (fun r9 h9 q => ?_)
    obtain ⟨q1, rfl⟩ := q
    cases (show (Sum.inl r9 : tq_R) = Sum.inl (some (.int v3)) from q1)
    refine tq_if_ne (M := mX11_setValue) (pc := 21) (tgt := 28) dX11_setValue_21 (by decide) (fun cc => ?_) (fun cc => ?_)
    · have hf := tq_ifn hf cc
      refine tq_aload_n (M := mX11_setValue) (pc := 28) dX11_setValue_28 rfl ?_
      obtain ⟨k4, ek4, hf⟩ := tq_be hf
      refine tq_getR (M := mX11_setValue) (pc := 29) tk_c11 (by decide) dX11_setValue_29 tk_RX11_7 rfl ek4 ?_
      refine tq_iload_n (M := mX11_setValue) (pc := 32) dX11_setValue_32 rfl ?_
      obtain ⟨x5, ex5, hf⟩ := tq_be hf
      refine tq_ialdF (M := mX11_setValue) (pc := 33) dX11_setValue_33 ex5 ?_
      refine tq_if_eq (M := mX11_setValue) (pc := 34) (tgt := 46) dX11_setValue_34 (by decide) (fun cc => ?_) (fun cc => ?_)
      · have hf := tq_ifp hf cc
        refine tq_iconst (M := mX11_setValue) (pc := 46) dX11_setValue_46 tk_ki_3 ?_
        refine tq_goto (M := mX11_setValue) (pc := 47) (tgt := 51) dX11_setValue_47 (by decide) ?_
        cases (Option.some.inj hf)
        exact HJ6
      · have hf := tq_ifn hf cc
        refine tq_aload_n (M := mX11_setValue) (pc := 37) dX11_setValue_37 rfl ?_
        obtain ⟨x6, ex6, hf⟩ := tq_be hf
        refine tq_getI (M := mX11_setValue) (pc := 38) tk_c11 (by decide) dX11_setValue_38 tk_RX11_191 rfl ex6 ?_
        refine tq_bipush (M := mX11_setValue) (pc := 41) dX11_setValue_41 tk_kb_20 ?_
        refine tq_icmp_ne (M := mX11_setValue) (pc := 43) (tgt := 50) dX11_setValue_43 (by decide) (fun cc => ?_) (fun cc => ?_)
        · have hf := tq_ifn hf cc
          refine tq_iconst (M := mX11_setValue) (pc := 50) dX11_setValue_50 tk_ki_0 ?_
          cases (Option.some.inj hf)
          exact HJ6
        · have hf := tq_ifp hf cc
          refine tq_iconst (M := mX11_setValue) (pc := 46) dX11_setValue_46 tk_ki_3 ?_
          refine tq_goto (M := mX11_setValue) (pc := 47) (tgt := 51) dX11_setValue_47 (by decide) ?_
          cases (Option.some.inj hf)
          exact HJ6
    · have hf := tq_ifp hf cc
      refine tq_iconst (M := mX11_setValue) (pc := 24) dX11_setValue_24 tk_ki_2 ?_
      refine tq_goto (M := mX11_setValue) (pc := 25) (tgt := 51) dX11_setValue_25 (by decide) ?_
      cases (Option.some.inj hf)
      exact HJ6
  · have hf := tq_ifp ep7 cc
    refine tq_iconst (M := mX11_setValue) (pc := 9) dX11_setValue_9 tk_ki_1 ?_
    refine tq_goto (M := mX11_setValue) (pc := 10) (tgt := 51) dX11_setValue_10 (by decide) ?_
    cases (Option.some.inj hf)
    exact HJ6
abbrev mX11_move : tq_M := (RX11, cX11_move, 5, (some .int), false, [], none)
def f_X11_move (t : Nat) (a1 : Int32) (a2 : Int32) (a3 : Int32) (h : tq_H) : Option (Int32 × tq_H) :=
  (tq_is h t 11).bind fun _ =>
  (f_X11_isNode t a1 h).bind fun v1 =>
  (if v1 = 0 then
    some (0 : Int32)
  else
    (tq_is h t 11).bind fun _ =>
    (f_X11_isSpot t a2 a3 h).bind fun v3 =>
    if v3 = 0 then
      some (0 : Int32)
    else
      some (1 : Int32)).bind fun p5 =>
  (if p5 = 0 then
    some (1 : Int32)
  else
    if a1 = 0 then
      some (2 : Int32)
    else
      (tq_gr h t 11 2).bind fun k6 =>
      (tq_ai h k6 a1).bind fun x7 =>
      if x7 = (2 : Int32) then
        some (2 : Int32)
      else
        (tq_is h t 11).bind fun _ =>
        (f_X11_takes t a2 h).bind fun v8 =>
        if v8 = 0 then
          some (2 : Int32)
        else
          some (0 : Int32)).bind fun p10 =>
  (tq_is h t 11).bind fun _ =>
  (f_X11_refused t p10 h).bind fun v11 =>
  if v11.1 = 0 then
    (tq_is v11.2 t 11).bind fun _ =>
    (f_X11_collect t (4 : Int32) a1 a2 a3 (0 : Int32) (0 : Int32) (0 : Int32) v11.2).bind fun v13 =>
    some (v13.1, v13.2)
  else
    some ((0 : Int32), v11.2)
set_option maxHeartbeats 4000000 in
set_option maxRecDepth 20000 in
theorem w_X11_move {l : Launch} {d : Nat} (hd9 : 3 ≤ d) {t : Nat} {a1 : Int32} {a2 : Int32} {a3 : Int32} {h : tq_H} {o : Int32 × tq_H} {Q : tq_R → tq_H → Prop} (hf : f_X11_move t a1 a2 a3 h = some o) (hQ : ∀ r h9, r = .inl (some (.int o.1)) ∧ o.2 = h9 → Q r h9) : tq_C l yX11_move cX11_move 5 (some .int) d 0 0 [.ref t, .int a1, .int a2, .int a3] h Q := by
  refine tq_body (y := yX11_move) false (by decide +kernel) (fun z => by cases z) (Nat.le_of_ble_eq_true rfl) ?_
  show tq_W l mX11_move d 0 0 Q 0 [(0, .ref t), (1, .int a1), (2, .int a2), (3, .int a3)] [] h
  refine tq_aload_n (M := mX11_move) (pc := 0) dX11_move_0 rfl ?_
  refine tq_iload_n (M := mX11_move) (pc := 1) dX11_move_1 rfl ?_
  obtain ⟨⟨⟩, eu2, hf⟩ := tq_be hf
  obtain ⟨fsu2, eu2⟩ := tq_is_s eu2
  obtain ⟨v1, ev1, hf⟩ := tq_be hf
  refine tq_calV (M := mX11_move) (pc := 2) (S := []) tk_y_X11_isNode tk_v_X11_isNode tk_RX11_194 dX11_move_2 [.int a1] rfl (S0 := _) rfl eu2 rfl (Nat.le_of_ble_eq_true rfl) (d1 := d - 1) (b1 := 0) (s1 := 0) (bc' := 0) (bs' := 0) (Q1 := fun r h9 => r = .inl (some (.int v1)) ∧ h = h9) (by omega) rfl rfl (w_X11_isNode (by omega) ev1 (fun _ _ q => q)) (fun E h9 q => nomatch (show (Sum.inr E : tq_R) = Sum.inl _ from q.1)) (fun r9 h9 q => ?_)
  obtain ⟨q1, rfl⟩ := q
  cases (show (Sum.inl r9 : tq_R) = Sum.inl (some (.int v1)) from q1)
  obtain ⟨p5, ep5, hf⟩ := tq_be hf
  have HJ5 : tq_W l mX11_move d 0 0 Q 22 [(0, .ref t), (1, .int a1), (2, .int a2), (3, .int a3)] [.int p5] h := by
    refine tq_istore (M := mX11_move) (pc := 22) dX11_move_22 (L2 := [(4, .int p5), (0, .ref t), (1, .int a1), (2, .int a2), (3, .int a3)]) (by decide) rfl ?_
    refine tq_aload_n (M := mX11_move) (pc := 24) dX11_move_24 rfl ?_
    refine tq_iload (M := mX11_move) (pc := 25) dX11_move_25 rfl ?_
    obtain ⟨p10, ep10, hf⟩ := tq_be hf
    have HJ27 : tq_W l mX11_move d 0 0 Q 61 [(0, .ref t), (1, .int a1), (2, .int a2), (3, .int a3)] [.int p10, .ref t] h := by
      obtain ⟨⟨⟩, eu12, hf⟩ := tq_be hf
      obtain ⟨fsu12, eu12⟩ := tq_is_s eu12
      obtain ⟨v11, ev11, hf⟩ := tq_be hf
      refine tq_calV (M := mX11_move) (pc := 61) (S := []) tk_y_X11_refused tk_v_X11_refused tk_RX11_204 dX11_move_61 [.int p10] rfl (S0 := _) rfl eu12 rfl (Nat.le_of_ble_eq_true rfl) (d1 := d - 1) (b1 := 0) (s1 := 0) (bc' := 0) (bs' := 0) (Q1 := fun r h9 => r = .inl (some (.int v11.1)) ∧ v11.2 = h9) (by omega) rfl rfl (w_X11_refused (by omega) ev11 (fun _ _ q => q)) (fun E h9 q => nomatch (show (Sum.inr E : tq_R) = Sum.inl _ from q.1)) (fun r9 h9 q => ?_)
      obtain ⟨q1, rfl⟩ := q
      cases (show (Sum.inl r9 : tq_R) = Sum.inl (some (.int v11.1)) from q1)
      refine tq_if_eq (M := mX11_move) (pc := 64) (tgt := 69) dX11_move_64 (by decide) (fun cc => ?_) (fun cc => ?_)
      · have hf := tq_ifp hf cc
        refine tq_aload_n (M := mX11_move) (pc := 69) dX11_move_69 rfl ?_
        refine tq_iconst (M := mX11_move) (pc := 70) dX11_move_70 tk_ki_4 ?_
        refine tq_iload_n (M := mX11_move) (pc := 71) dX11_move_71 rfl ?_
        refine tq_iload_n (M := mX11_move) (pc := 72) dX11_move_72 rfl ?_
        refine tq_iload_n (M := mX11_move) (pc := 73) dX11_move_73 rfl ?_
        refine tq_iconst (M := mX11_move) (pc := 74) dX11_move_74 tk_ki_0 ?_
        refine tq_iconst (M := mX11_move) (pc := 75) dX11_move_75 tk_ki_0 ?_
        refine tq_iconst (M := mX11_move) (pc := 76) dX11_move_76 tk_ki_0 ?_
        obtain ⟨⟨⟩, eu14, hf⟩ := tq_be hf
        obtain ⟨fsu14, eu14⟩ := tq_is_s eu14
        obtain ⟨v13, ev13, hf⟩ := tq_be hf
        refine tq_calV (M := mX11_move) (pc := 77) (S := []) tk_y_X11_collect tk_v_X11_collect tk_RX11_207 dX11_move_77 [.int (4 : Int32), .int a1, .int a2, .int a3, .int (0 : Int32), .int (0 : Int32), .int (0 : Int32)] rfl (S0 := _) rfl eu14 rfl (Nat.le_of_ble_eq_true rfl) (d1 := d - 1) (b1 := 0) (s1 := 0) (bc' := 0) (bs' := 0) (Q1 := fun r h9 => r = .inl (some (.int v13.1)) ∧ v13.2 = h9) (by omega) rfl rfl (w_X11_collect (by omega) ev13 (fun _ _ q => q)) (fun E h9 q => nomatch (show (Sum.inr E : tq_R) = Sum.inl _ from q.1)) (fun r9 h9 q => ?_)
        obtain ⟨q1, rfl⟩ := q
        cases (show (Sum.inl r9 : tq_R) = Sum.inl (some (.int v13.1)) from q1)
        refine tq_iret (M := mX11_move) (pc := 80) dX11_move_80 rfl ?_
        cases (Option.some.inj hf)
        exact hQ _ _ ⟨rfl, rfl⟩
      · have hf := tq_ifn hf cc
        refine tq_iconst (M := mX11_move) (pc := 67) dX11_move_67 tk_ki_0 ?_
        refine tq_iret (M := mX11_move) (pc := 68) dX11_move_68 rfl ?_
        cases (Option.some.inj hf)
        exact hQ _ _ ⟨rfl, rfl⟩
    refine tq_if_ne (M := mX11_move) (pc := 27) (tgt := 34) dX11_move_27 (by decide) (fun cc => ?_) (fun cc => ?_)
    · have hf := tq_ifn ep10 cc
      refine tq_iload_n (M := mX11_move) (pc := 34) dX11_move_34 rfl ?_
      refine tq_if_eq (M := mX11_move) (pc := 35) (tgt := 56) dX11_move_35 (by decide) (fun cc => ?_) (fun cc => ?_)
      · have hf := tq_ifp hf cc
        refine tq_iconst (M := mX11_move) (pc := 56) dX11_move_56 tk_ki_2 ?_
        refine tq_goto (M := mX11_move) (pc := 57) (tgt := 61) dX11_move_57 (by decide) ?_
        refine tq_pick (L2 := [(0, .ref t), (1, .int a1), (2, .int a2), (3, .int a3)]) [1, 2, 3, 4] rfl ?_
        cases (Option.some.inj hf)
        exact HJ27
      · have hf := tq_ifn hf cc
        refine tq_aload_n (M := mX11_move) (pc := 38) dX11_move_38 rfl ?_
        obtain ⟨k6, ek6, hf⟩ := tq_be hf
        refine tq_getR (M := mX11_move) (pc := 39) tk_c11 (by decide) dX11_move_39 tk_RX11_7 rfl ek6 ?_
        refine tq_iload_n (M := mX11_move) (pc := 42) dX11_move_42 rfl ?_
        obtain ⟨x7, ex7, hf⟩ := tq_be hf
        refine tq_ialdF (M := mX11_move) (pc := 43) dX11_move_43 ex7 ?_
        refine tq_iconst (M := mX11_move) (pc := 44) dX11_move_44 tk_ki_2 ?_
        refine tq_icmp_eq (M := mX11_move) (pc := 45) (tgt := 56) dX11_move_45 (by decide) (fun cc => ?_) (fun cc => ?_)
        · have hf := tq_ifp hf cc
          refine tq_iconst (M := mX11_move) (pc := 56) dX11_move_56 tk_ki_2 ?_
          refine tq_goto (M := mX11_move) (pc := 57) (tgt := 61) dX11_move_57 (by decide) ?_
          refine tq_pick (L2 := [(0, .ref t), (1, .int a1), (2, .int a2), (3, .int a3)]) [1, 2, 3, 4] rfl ?_
          cases (Option.some.inj hf)
          exact HJ27
        · have hf := tq_ifn hf cc
          refine tq_aload_n (M := mX11_move) (pc := 48) dX11_move_48 rfl ?_
          refine tq_iload_n (M := mX11_move) (pc := 49) dX11_move_49 rfl ?_
          obtain ⟨⟨⟩, eu9, hf⟩ := tq_be hf
          obtain ⟨fsu9, eu9⟩ := tq_is_s eu9
          obtain ⟨v8, ev8, hf⟩ := tq_be hf
          refine tq_calV (M := mX11_move) (pc := 50) (S := [.ref t]) tk_y_X11_takes tk_v_X11_takes tk_RX11_201 dX11_move_50 [.int a2] rfl (S0 := _) rfl eu9 rfl (Nat.le_of_ble_eq_true rfl) (d1 := d - 1) (b1 := 0) (s1 := 0) (bc' := 0) (bs' := 0) (Q1 := fun r h9 => r = .inl (some (.int v8)) ∧ h = h9) (by omega) rfl rfl (w_X11_takes (by omega) ev8 (fun _ _ q => q)) (fun E h9 q => nomatch (show (Sum.inr E : tq_R) = Sum.inl _ from q.1)) (fun r9 h9 q => ?_)
          obtain ⟨q1, rfl⟩ := q
          cases (show (Sum.inl r9 : tq_R) = Sum.inl (some (.int v8)) from q1)
          refine tq_if_ne (M := mX11_move) (pc := 53) (tgt := 60) dX11_move_53 (by decide) (fun cc => ?_) (fun cc => ?_)
          · have hf := tq_ifn hf cc
            refine tq_iconst (M := mX11_move) (pc := 60) dX11_move_60 tk_ki_0 ?_
            refine tq_pick (L2 := [(0, .ref t), (1, .int a1), (2, .int a2), (3, .int a3)]) [1, 2, 3, 4] rfl ?_
            cases (Option.some.inj hf)
            exact HJ27
          · have hf := tq_ifp hf cc
            refine tq_iconst (M := mX11_move) (pc := 56) dX11_move_56 tk_ki_2 ?_
            refine tq_goto (M := mX11_move) (pc := 57) (tgt := 61) dX11_move_57 (by decide) ?_
            refine tq_pick (L2 := [(0, .ref t), (1, .int a1), (2, .int a2), (3, .int a3)]) [1, 2, 3, 4] rfl ?_
            cases (Option.some.inj hf)
            exact HJ27
    · have hf := tq_ifp ep10 cc
      refine tq_iconst (M := mX11_move) (pc := 30) dX11_move_30 tk_ki_1 ?_
      refine tq_goto (M := mX11_move) (pc := 31) (tgt := 61) dX11_move_31 (by decide) ?_
      refine tq_pick (L2 := [(0, .ref t), (1, .int a1), (2, .int a2), (3, .int a3)]) [1, 2, 3, 4] rfl ?_
      cases (Option.some.inj hf)
      exact HJ27
  refine tq_if_eq (M := mX11_move) (pc := 5) (tgt := 21) dX11_move_5 (by decide) (fun cc => ?_) (fun cc => ?_)
  · have hf := tq_ifp ep5 cc
    refine tq_iconst (M := mX11_move) (pc := 21) dX11_move_21 tk_ki_0 ?_
    cases (Option.some.inj hf)
    exact HJ5
  · have hf := tq_ifn ep5 cc
    refine tq_aload_n (M := mX11_move) (pc := 8) dX11_move_8 rfl ?_
    refine tq_iload_n (M := mX11_move) (pc := 9) dX11_move_9 rfl ?_
    refine tq_iload_n (M := mX11_move) (pc := 10) dX11_move_10 rfl ?_
    obtain ⟨⟨⟩, eu4, hf⟩ := tq_be hf
    obtain ⟨fsu4, eu4⟩ := tq_is_s eu4
    obtain ⟨v3, ev3, hf⟩ := tq_be hf
    refine tq_calV (M := mX11_move) (pc := 11) (S := []) tk_y_X11_isSpot tk_v_X11_isSpot tk_RX11_198 dX11_move_11 [.int a2, .int a3] rfl (S0 := _) rfl eu4 rfl (Nat.le_of_ble_eq_true rfl) (d1 := d - 1) (b1 := 0) (s1 := 0) (bc' := 0) (bs' := 0) (Q1 := fun r h9 => r = .inl (some (.int v3)) ∧ h = h9) (by omega) rfl rfl (w_X11_isSpot (by omega) ev3 (fun _ _ q => q)) (fun E h9 q => nomatch (show (Sum.inr E : tq_R) = Sum.inl _ from q.1)) (fun r9 h9 q => ?_)
    obtain ⟨q1, rfl⟩ := q
    cases (show (Sum.inl r9 : tq_R) = Sum.inl (some (.int v3)) from q1)
    refine tq_if_eq (M := mX11_move) (pc := 14) (tgt := 21) dX11_move_14 (by decide) (fun cc => ?_) (fun cc => ?_)
    · have hf := tq_ifp hf cc
      refine tq_iconst (M := mX11_move) (pc := 21) dX11_move_21 tk_ki_0 ?_
      cases (Option.some.inj hf)
      exact HJ5
    · have hf := tq_ifn hf cc
      refine tq_iconst (M := mX11_move) (pc := 17) dX11_move_17 tk_ki_1 ?_
      refine tq_goto (M := mX11_move) (pc := 18) (tgt := 22) dX11_move_18 (by decide) ?_
      cases (Option.some.inj hf)
      exact HJ5
abbrev mX11_declare : tq_M := (RX11, cX11_declare, 3, (some .int), false, [], none)
def f_X11_declare (t : Nat) (a1 : Int32) (a2 : Int32) (h : tq_H) : Option (Int32 × tq_H) :=
  (tq_is h t 11).bind fun _ =>
  (f_X11_isNode t a1 h).bind fun v1 =>
  (if v1 = 0 then
    some (1 : Int32)
  else
    (f_X11_in a2 (-1 : Int32) (3 : Int32) h).bind fun v3 =>
    if v3 = 0 then
      some (2 : Int32)
    else
      (tq_gr h t 11 2).bind fun k4 =>
      (tq_ai h k4 a1).bind fun x5 =>
      if x5 = 0 then
        (tq_gi h t 11 15).bind fun x6 =>
        if x6 = (20 : Int32) then
          some (3 : Int32)
        else
          some (0 : Int32)
      else
        some (3 : Int32)).bind fun p7 =>
  (tq_is h t 11).bind fun _ =>
  (f_X11_refused t p7 h).bind fun v8 =>
  if v8.1 = 0 then
    (tq_is v8.2 t 11).bind fun _ =>
    (f_X11_collect t (5 : Int32) a1 (-1 : Int32) (0 : Int32) (0 : Int32) (0 : Int32) a2 v8.2).bind fun v10 =>
    some (v10.1, v10.2)
  else
    some ((0 : Int32), v8.2)
set_option maxHeartbeats 4000000 in
set_option maxRecDepth 20000 in
theorem w_X11_declare {l : Launch} {d : Nat} (hd9 : 2 ≤ d) {t : Nat} {a1 : Int32} {a2 : Int32} {h : tq_H} {o : Int32 × tq_H} {Q : tq_R → tq_H → Prop} (hf : f_X11_declare t a1 a2 h = some o) (hQ : ∀ r h9, r = .inl (some (.int o.1)) ∧ o.2 = h9 → Q r h9) : tq_C l yX11_declare cX11_declare 3 (some .int) d 0 0 [.ref t, .int a1, .int a2] h Q := by
  refine tq_body (y := yX11_declare) false (by decide +kernel) (fun z => by cases z) (Nat.le_of_ble_eq_true rfl) ?_
  show tq_W l mX11_declare d 0 0 Q 0 [(0, .ref t), (1, .int a1), (2, .int a2)] [] h
  refine tq_aload_n (M := mX11_declare) (pc := 0) dX11_declare_0 rfl ?_
  refine tq_aload_n (M := mX11_declare) (pc := 1) dX11_declare_1 rfl ?_
  refine tq_iload_n (M := mX11_declare) (pc := 2) dX11_declare_2 rfl ?_
  obtain ⟨⟨⟩, eu2, hf⟩ := tq_be hf
  obtain ⟨fsu2, eu2⟩ := tq_is_s eu2
  obtain ⟨v1, ev1, hf⟩ := tq_be hf
  refine tq_calV (M := mX11_declare) (pc := 3) (S := [.ref t]) tk_y_X11_isNode tk_v_X11_isNode tk_RX11_194 dX11_declare_3 [.int a1] rfl (S0 := _) rfl eu2 rfl (Nat.le_of_ble_eq_true rfl) (d1 := d - 1) (b1 := 0) (s1 := 0) (bc' := 0) (bs' := 0) (Q1 := fun r h9 => r = .inl (some (.int v1)) ∧ h = h9) (by omega) rfl rfl (w_X11_isNode (by omega) ev1 (fun _ _ q => q)) (fun E h9 q => nomatch (show (Sum.inr E : tq_R) = Sum.inl _ from q.1)) (fun r9 h9 q => ?_)
  obtain ⟨q1, rfl⟩ := q
  cases (show (Sum.inl r9 : tq_R) = Sum.inl (some (.int v1)) from q1)
  obtain ⟨p7, ep7, hf⟩ := tq_be hf
  have HJ6 : tq_W l mX11_declare d 0 0 Q 49 [(0, .ref t), (1, .int a1), (2, .int a2)] [.int p7, .ref t] h := by
    obtain ⟨⟨⟩, eu9, hf⟩ := tq_be hf
    obtain ⟨fsu9, eu9⟩ := tq_is_s eu9
    obtain ⟨v8, ev8, hf⟩ := tq_be hf
    refine tq_calV (M := mX11_declare) (pc := 49) (S := []) tk_y_X11_refused tk_v_X11_refused tk_RX11_204 dX11_declare_49 [.int p7] rfl (S0 := _) rfl eu9 rfl (Nat.le_of_ble_eq_true rfl) (d1 := d - 1) (b1 := 0) (s1 := 0) (bc' := 0) (bs' := 0) (Q1 := fun r h9 => r = .inl (some (.int v8.1)) ∧ v8.2 = h9) (by omega) rfl rfl (w_X11_refused (by omega) ev8 (fun _ _ q => q)) (fun E h9 q => nomatch (show (Sum.inr E : tq_R) = Sum.inl _ from q.1)) (fun r9 h9 q => ?_)
    obtain ⟨q1, rfl⟩ := q
    cases (show (Sum.inl r9 : tq_R) = Sum.inl (some (.int v8.1)) from q1)
    refine tq_if_eq (M := mX11_declare) (pc := 52) (tgt := 57) dX11_declare_52 (by decide) (fun cc => ?_) (fun cc => ?_)
    · have hf := tq_ifp hf cc
      refine tq_aload_n (M := mX11_declare) (pc := 57) dX11_declare_57 rfl ?_
      refine tq_iconst (M := mX11_declare) (pc := 58) dX11_declare_58 tk_ki_5 ?_
      refine tq_iload_n (M := mX11_declare) (pc := 59) dX11_declare_59 rfl ?_
      refine tq_iconst (M := mX11_declare) (pc := 60) dX11_declare_60 tk_ki_m1 ?_
      refine tq_iconst (M := mX11_declare) (pc := 61) dX11_declare_61 tk_ki_0 ?_
      refine tq_iconst (M := mX11_declare) (pc := 62) dX11_declare_62 tk_ki_0 ?_
      refine tq_iconst (M := mX11_declare) (pc := 63) dX11_declare_63 tk_ki_0 ?_
      refine tq_iload_n (M := mX11_declare) (pc := 64) dX11_declare_64 rfl ?_
      obtain ⟨⟨⟩, eu11, hf⟩ := tq_be hf
      obtain ⟨fsu11, eu11⟩ := tq_is_s eu11
      obtain ⟨v10, ev10, hf⟩ := tq_be hf
      refine tq_calV (M := mX11_declare) (pc := 65) (S := []) tk_y_X11_collect tk_v_X11_collect tk_RX11_207 dX11_declare_65 [.int (5 : Int32), .int a1, .int (-1 : Int32), .int (0 : Int32), .int (0 : Int32), .int (0 : Int32), .int a2] rfl (S0 := _) rfl eu11 rfl (Nat.le_of_ble_eq_true rfl) (d1 := d - 1) (b1 := 0) (s1 := 0) (bc' := 0) (bs' := 0) (Q1 := fun r h9 => r = .inl (some (.int v10.1)) ∧ v10.2 = h9) (by omega) rfl rfl (w_X11_collect (by omega) ev10 (fun _ _ q => q)) (fun E h9 q => nomatch (show (Sum.inr E : tq_R) = Sum.inl _ from q.1)) (fun r9 h9 q => ?_)
      obtain ⟨q1, rfl⟩ := q
      cases (show (Sum.inl r9 : tq_R) = Sum.inl (some (.int v10.1)) from q1)
      refine tq_iret (M := mX11_declare) (pc := 68) dX11_declare_68 rfl ?_
      cases (Option.some.inj hf)
      exact hQ _ _ ⟨rfl, rfl⟩
    · have hf := tq_ifn hf cc
      refine tq_iconst (M := mX11_declare) (pc := 55) dX11_declare_55 tk_ki_0 ?_
      refine tq_iret (M := mX11_declare) (pc := 56) dX11_declare_56 rfl ?_
      cases (Option.some.inj hf)
      exact hQ _ _ ⟨rfl, rfl⟩
  refine tq_if_ne (M := mX11_declare) (pc := 6) (tgt := 13) dX11_declare_6 (by decide) (fun cc => ?_) (fun cc => ?_)
  · have hf := tq_ifn ep7 cc
    refine tq_iload_n (M := mX11_declare) (pc := 13) dX11_declare_13 rfl ?_
    refine tq_iconst (M := mX11_declare) (pc := 14) dX11_declare_14 tk_ki_m1 ?_
    refine tq_iconst (M := mX11_declare) (pc := 15) dX11_declare_15 tk_ki_3 ?_
    obtain ⟨v3, ev3, hf⟩ := tq_be hf
    refine tq_calS (M := mX11_declare) (pc := 16) (S := [.ref t]) tk_y_X11_in tk_s_X11_in tk_RX11_169 dX11_declare_16 [.int a2, .int (-1 : Int32), .int (3 : Int32)] rfl (Nat.le_of_ble_eq_true rfl) (d1 := d - 1) (b1 := 0) (s1 := 0) (bc' := 0) (bs' := 0) (Q1 := fun r h9 => r = .inl (some (.int v3)) ∧ h = h9) (by omega) rfl rfl (w_X11_in (by omega) ev3 (fun _ _ q => q)) (fun E h9 q => nomatch (show (Sum.inr E : tq_R) = Sum.inl _ from q.1)) (fun r9 h9 q => ?_)
    obtain ⟨q1, rfl⟩ := q
    cases (show (Sum.inl r9 : tq_R) = Sum.inl (some (.int v3)) from q1)
    refine tq_if_ne (M := mX11_declare) (pc := 19) (tgt := 26) dX11_declare_19 (by decide) (fun cc => ?_) (fun cc => ?_)
    · have hf := tq_ifn hf cc
      refine tq_aload_n (M := mX11_declare) (pc := 26) dX11_declare_26 rfl ?_
      obtain ⟨k4, ek4, hf⟩ := tq_be hf
      refine tq_getR (M := mX11_declare) (pc := 27) tk_c11 (by decide) dX11_declare_27 tk_RX11_7 rfl ek4 ?_
      refine tq_iload_n (M := mX11_declare) (pc := 30) dX11_declare_30 rfl ?_
      obtain ⟨x5, ex5, hf⟩ := tq_be hf
      refine tq_ialdF (M := mX11_declare) (pc := 31) dX11_declare_31 ex5 ?_
      refine tq_if_ne (M := mX11_declare) (pc := 32) (tgt := 44) dX11_declare_32 (by decide) (fun cc => ?_) (fun cc => ?_)
      · have hf := tq_ifn hf cc
        refine tq_iconst (M := mX11_declare) (pc := 44) dX11_declare_44 tk_ki_3 ?_
        refine tq_goto (M := mX11_declare) (pc := 45) (tgt := 49) dX11_declare_45 (by decide) ?_
        cases (Option.some.inj hf)
        exact HJ6
      · have hf := tq_ifp hf cc
        refine tq_aload_n (M := mX11_declare) (pc := 35) dX11_declare_35 rfl ?_
        obtain ⟨x6, ex6, hf⟩ := tq_be hf
        refine tq_getI (M := mX11_declare) (pc := 36) tk_c11 (by decide) dX11_declare_36 tk_RX11_191 rfl ex6 ?_
        refine tq_bipush (M := mX11_declare) (pc := 39) dX11_declare_39 tk_kb_20 ?_
        refine tq_icmp_ne (M := mX11_declare) (pc := 41) (tgt := 48) dX11_declare_41 (by decide) (fun cc => ?_) (fun cc => ?_)
        · have hf := tq_ifn hf cc
          refine tq_iconst (M := mX11_declare) (pc := 48) dX11_declare_48 tk_ki_0 ?_
          cases (Option.some.inj hf)
          exact HJ6
        · have hf := tq_ifp hf cc
          refine tq_iconst (M := mX11_declare) (pc := 44) dX11_declare_44 tk_ki_3 ?_
          refine tq_goto (M := mX11_declare) (pc := 45) (tgt := 49) dX11_declare_45 (by decide) ?_
          cases (Option.some.inj hf)
          exact HJ6
    · have hf := tq_ifp hf cc
      refine tq_iconst (M := mX11_declare) (pc := 22) dX11_declare_22 tk_ki_2 ?_
      refine tq_goto (M := mX11_declare) (pc := 23) (tgt := 49) dX11_declare_23 (by decide) ?_
      cases (Option.some.inj hf)
      exact HJ6
  · have hf := tq_ifp ep7 cc
    refine tq_iconst (M := mX11_declare) (pc := 9) dX11_declare_9 tk_ki_1 ?_
    refine tq_goto (M := mX11_declare) (pc := 10) (tgt := 49) dX11_declare_10 (by decide) ?_
    cases (Option.some.inj hf)
    exact HJ6
abbrev mX11_isAtOdds : tq_M := (RX11, cX11_isAtOdds, 5, (some .boolean), false, [], none)
def f_X11_isAtOdds_b14 (i0 : Nat) (i2 : Int32) (hh : tq_H) (s : Int32 × Int32) : Option ((Int32 × Int32) ⊕ (Int32)) := match s with
  | (y1, y3) =>
    (tq_gi hh i0 11 15).bind fun x2 =>
    if y3 ≥ x2 then
      some (.inr y1)
    else
      (if i2 = y3 then
        some (0 : Int32)
      else
        (tq_gr hh i0 11 16).bind fun k3 =>
        (tq_ai hh k3 (((7 : Int32) * i2) + (1 : Int32))).bind fun x4 =>
        (tq_gr hh i0 11 16).bind fun k5 =>
        (tq_ai hh k5 (((7 : Int32) * y3) + (1 : Int32))).bind fun x6 =>
        if x4 = x6 then
          (tq_gr hh i0 11 16).bind fun k7 =>
          (tq_ai hh k7 (((7 : Int32) * i2) + (1 : Int32))).bind fun x8 =>
          if x8 = (-1 : Int32) then
            some (0 : Int32)
          else
            some (1 : Int32)
        else
          some (0 : Int32)).bind fun p9 =>
      (if y1 = 0 then
        if p9 = 0 then
          if p9 = 0 then
            some (0 : Int32)
          else
            (tq_gr hh i0 11 16).bind fun k10 =>
            (tq_ai hh k10 ((7 : Int32) * i2)).bind fun x11 =>
            if x11 = (4 : Int32) then
              (tq_gr hh i0 11 16).bind fun k12 =>
              (tq_ai hh k12 ((7 : Int32) * y3)).bind fun x13 =>
              if x13 = (1 : Int32) then
                some (1 : Int32)
              else
                some (0 : Int32)
            else
              some (0 : Int32)
        else
          (tq_gr hh i0 11 16).bind fun k14 =>
          (tq_ai hh k14 ((7 : Int32) * i2)).bind fun x15 =>
          if x15 < (2 : Int32) then
            if p9 = 0 then
              some (0 : Int32)
            else
              (tq_gr hh i0 11 16).bind fun k16 =>
              (tq_ai hh k16 ((7 : Int32) * i2)).bind fun x17 =>
              if x17 = (4 : Int32) then
                (tq_gr hh i0 11 16).bind fun k18 =>
                (tq_ai hh k18 ((7 : Int32) * y3)).bind fun x19 =>
                if x19 = (1 : Int32) then
                  some (1 : Int32)
                else
                  some (0 : Int32)
              else
                some (0 : Int32)
          else
            (tq_gr hh i0 11 16).bind fun k20 =>
            (tq_ai hh k20 ((7 : Int32) * i2)).bind fun x21 =>
            (tq_gr hh i0 11 16).bind fun k22 =>
            (tq_ai hh k22 ((7 : Int32) * y3)).bind fun x23 =>
            if x21 = x23 then
              some (1 : Int32)
            else
              if p9 = 0 then
                some (0 : Int32)
              else
                (tq_gr hh i0 11 16).bind fun k24 =>
                (tq_ai hh k24 ((7 : Int32) * i2)).bind fun x25 =>
                if x25 = (4 : Int32) then
                  (tq_gr hh i0 11 16).bind fun k26 =>
                  (tq_ai hh k26 ((7 : Int32) * y3)).bind fun x27 =>
                  if x27 = (1 : Int32) then
                    some (1 : Int32)
                  else
                    some (0 : Int32)
                else
                  some (0 : Int32)
      else
        some (1 : Int32)).bind fun p28 =>
      tq_let (y3 + (1 : Int32)) fun x29 =>
      some (.inl (p28, x29))
def f_X11_isAtOdds_b4 (i0 : Nat) (hh : tq_H) (s : Int32 × Int32) : Option ((Int32 × Int32) ⊕ (Int32)) := match s with
  | (y1, y2) =>
    (tq_gi hh i0 11 15).bind fun x1 =>
    if y2 ≥ x1 then
      some (.inr y1)
    else
      (tq_loop (f_X11_isAtOdds_b14 i0 y2 hh) tq_N (y1, (0 : Int32))).bind fun o30 =>
      tq_let (y2 + (1 : Int32)) fun x31 =>
      some (.inl (o30, x31))
def f_X11_isAtOdds (t : Nat) (h : tq_H) : Option (Int32) :=
  (tq_loop (f_X11_isAtOdds_b4 t h) tq_N ((0 : Int32), (0 : Int32))).bind fun o32 =>
  (tq_bz o32).bind fun z33 =>
  some z33
set_option maxHeartbeats 4000000 in
theorem l_X11_isAtOdds_14 {l : Launch} {d : Nat} {Q : tq_R → tq_H → Prop} (hd9 : 0 ≤ d) (i0 : Nat) (i2 : Int32) (hh : tq_H) : ∀ (n : Nat) (y1 : Int32) (y3 : Int32) (o : Int32), tq_loop (f_X11_isAtOdds_b14 i0 i2 hh) n (y1, y3) = some o → tq_W l mX11_isAtOdds d 0 0 Q 160 [(0, .ref i0), (1, .int o), (2, .int i2)] [] hh → tq_W l mX11_isAtOdds d 0 0 Q 14 [(0, .ref i0), (1, .int y1), (2, .int i2), (3, .int y3)] [] hh := by
  intro n
  induction n with
  | zero => intro y1 y3 o hl; cases hl
  | succ n ih =>
    intro y1 y3 o hl hk
    obtain ⟨oo, hf, ho⟩ := tq_loop_s hl
    refine tq_iload_n (M := mX11_isAtOdds) (pc := 14) dX11_isAtOdds_14 rfl ?_
    refine tq_aload_n (M := mX11_isAtOdds) (pc := 15) dX11_isAtOdds_15 rfl ?_
    obtain ⟨x2, ex2, hf⟩ := tq_be hf
    refine tq_getI (M := mX11_isAtOdds) (pc := 16) tk_c11 (by decide) dX11_isAtOdds_16 tk_RX11_191 rfl ex2 ?_
    refine tq_icmp_ge (M := mX11_isAtOdds) (pc := 19) (tgt := 160) dX11_isAtOdds_19 (by decide) (fun cc => ?_) (fun cc => ?_)
    · have hf := tq_ifp hf cc
      refine tq_pick (L2 := [(0, .ref i0), (1, .int y1), (2, .int i2)]) [0, 1, 2] rfl ?_
      cases (Option.some.inj hf)
      cases (tq_lx ho)
      exact hk
    · have hf := tq_ifn hf cc
      refine tq_iload_n (M := mX11_isAtOdds) (pc := 22) dX11_isAtOdds_22 rfl ?_
      refine tq_iload_n (M := mX11_isAtOdds) (pc := 23) dX11_isAtOdds_23 rfl ?_
      obtain ⟨p9, ep9, hf⟩ := tq_be hf
      have HJ24 : tq_W l mX11_isAtOdds d 0 0 Q 72 [(0, .ref i0), (1, .int y1), (2, .int i2), (3, .int y3)] [.int p9] hh := by
        refine tq_istore (M := mX11_isAtOdds) (pc := 72) dX11_isAtOdds_72 (L2 := [(4, .int p9), (0, .ref i0), (1, .int y1), (2, .int i2), (3, .int y3)]) (by decide) rfl ?_
        refine tq_iload_n (M := mX11_isAtOdds) (pc := 74) dX11_isAtOdds_74 rfl ?_
        obtain ⟨p28, ep28, hf⟩ := tq_be hf
        have HJ75 : tq_W l mX11_isAtOdds d 0 0 Q 153 [(0, .ref i0), (2, .int i2), (3, .int y3)] [.int p28] hh := by
          refine tq_istore_n (M := mX11_isAtOdds) (pc := 153) rfl dX11_isAtOdds_153 (L2 := [(1, .int p28), (0, .ref i0), (2, .int i2), (3, .int y3)]) (by decide) rfl ?_
          obtain ⟨x29, ex29, hf⟩ := tq_le hf
          refine tq_iinc (M := mX11_isAtOdds) (pc := 154) (v := x29) (L2 := [(3, .int x29), (1, .int p28), (0, .ref i0), (2, .int i2)]) dX11_isAtOdds_154 rfl (by rw [ex29, tk_ki_1]) (by decide) rfl ?_
          refine tq_goto (M := mX11_isAtOdds) (pc := 157) (tgt := 14) dX11_isAtOdds_157 (by decide) ?_
          refine tq_pick (L2 := [(0, .ref i0), (1, .int p28), (2, .int i2), (3, .int x29)]) [2, 1, 3, 0] rfl ?_
          cases (Option.some.inj hf)
          exact ih _ _ o (tq_lc ho) hk
        refine tq_if_ne (M := mX11_isAtOdds) (pc := 75) (tgt := 148) dX11_isAtOdds_75 (by decide) (fun cc => ?_) (fun cc => ?_)
        · have hf := tq_ifn ep28 cc
          refine tq_iconst (M := mX11_isAtOdds) (pc := 148) dX11_isAtOdds_148 tk_ki_1 ?_
          refine tq_goto (M := mX11_isAtOdds) (pc := 149) (tgt := 153) dX11_isAtOdds_149 (by decide) ?_
          refine tq_pick (L2 := [(0, .ref i0), (2, .int i2), (3, .int y3)]) [1, 3, 4] rfl ?_
          cases (Option.some.inj hf)
          exact HJ75
        · have hf := tq_ifp ep28 cc
          refine tq_iload (M := mX11_isAtOdds) (pc := 78) dX11_isAtOdds_78 rfl ?_
          refine tq_if_eq (M := mX11_isAtOdds) (pc := 80) (tgt := 117) dX11_isAtOdds_80 (by decide) (fun cc => ?_) (fun cc => ?_)
          · have hf := tq_ifp hf cc
            refine tq_iload (M := mX11_isAtOdds) (pc := 117) dX11_isAtOdds_117 rfl ?_
            refine tq_if_eq (M := mX11_isAtOdds) (pc := 119) (tgt := 152) dX11_isAtOdds_119 (by decide) (fun cc => ?_) (fun cc => ?_)
            · have hf := tq_ifp hf cc
              refine tq_iconst (M := mX11_isAtOdds) (pc := 152) dX11_isAtOdds_152 tk_ki_0 ?_
              refine tq_pick (L2 := [(0, .ref i0), (2, .int i2), (3, .int y3)]) [1, 3, 4] rfl ?_
              cases (Option.some.inj hf)
              exact HJ75
            · have hf := tq_ifn hf cc
              refine tq_aload_n (M := mX11_isAtOdds) (pc := 122) dX11_isAtOdds_122 rfl ?_
              obtain ⟨k10, ek10, hf⟩ := tq_be hf
              refine tq_getR (M := mX11_isAtOdds) (pc := 123) tk_c11 (by decide) dX11_isAtOdds_123 tk_RX11_44 rfl ek10 ?_
              refine tq_bipush (M := mX11_isAtOdds) (pc := 126) dX11_isAtOdds_126 tk_kb_7 ?_
              refine tq_iload_n (M := mX11_isAtOdds) (pc := 128) dX11_isAtOdds_128 rfl ?_
              refine tq_imul (M := mX11_isAtOdds) (pc := 129) dX11_isAtOdds_129 ?_
              obtain ⟨x11, ex11, hf⟩ := tq_be hf
              refine tq_ialdF (M := mX11_isAtOdds) (pc := 130) dX11_isAtOdds_130 ex11 ?_
              refine tq_iconst (M := mX11_isAtOdds) (pc := 131) dX11_isAtOdds_131 tk_ki_4 ?_
              refine tq_icmp_ne (M := mX11_isAtOdds) (pc := 132) (tgt := 152) dX11_isAtOdds_132 (by decide) (fun cc => ?_) (fun cc => ?_)
              · have hf := tq_ifn hf cc
                refine tq_iconst (M := mX11_isAtOdds) (pc := 152) dX11_isAtOdds_152 tk_ki_0 ?_
                refine tq_pick (L2 := [(0, .ref i0), (2, .int i2), (3, .int y3)]) [1, 3, 4] rfl ?_
                cases (Option.some.inj hf)
                exact HJ75
              · have hf := tq_ifp hf cc
                refine tq_aload_n (M := mX11_isAtOdds) (pc := 135) dX11_isAtOdds_135 rfl ?_
                obtain ⟨k12, ek12, hf⟩ := tq_be hf
                refine tq_getR (M := mX11_isAtOdds) (pc := 136) tk_c11 (by decide) dX11_isAtOdds_136 tk_RX11_44 rfl ek12 ?_
                refine tq_bipush (M := mX11_isAtOdds) (pc := 139) dX11_isAtOdds_139 tk_kb_7 ?_
                refine tq_iload_n (M := mX11_isAtOdds) (pc := 141) dX11_isAtOdds_141 rfl ?_
                refine tq_imul (M := mX11_isAtOdds) (pc := 142) dX11_isAtOdds_142 ?_
                obtain ⟨x13, ex13, hf⟩ := tq_be hf
                refine tq_ialdF (M := mX11_isAtOdds) (pc := 143) dX11_isAtOdds_143 ex13 ?_
                refine tq_iconst (M := mX11_isAtOdds) (pc := 144) dX11_isAtOdds_144 tk_ki_1 ?_
                refine tq_icmp_ne (M := mX11_isAtOdds) (pc := 145) (tgt := 152) dX11_isAtOdds_145 (by decide) (fun cc => ?_) (fun cc => ?_)
                · have hf := tq_ifn hf cc
                  refine tq_iconst (M := mX11_isAtOdds) (pc := 152) dX11_isAtOdds_152 tk_ki_0 ?_
                  refine tq_pick (L2 := [(0, .ref i0), (2, .int i2), (3, .int y3)]) [1, 3, 4] rfl ?_
                  cases (Option.some.inj hf)
                  exact HJ75
                · have hf := tq_ifp hf cc
                  refine tq_iconst (M := mX11_isAtOdds) (pc := 148) dX11_isAtOdds_148 tk_ki_1 ?_
                  refine tq_goto (M := mX11_isAtOdds) (pc := 149) (tgt := 153) dX11_isAtOdds_149 (by decide) ?_
                  refine tq_pick (L2 := [(0, .ref i0), (2, .int i2), (3, .int y3)]) [1, 3, 4] rfl ?_
                  cases (Option.some.inj hf)
                  exact HJ75
          · have hf := tq_ifn hf cc
            refine tq_aload_n (M := mX11_isAtOdds) (pc := 83) dX11_isAtOdds_83 rfl ?_
            obtain ⟨k14, ek14, hf⟩ := tq_be hf
            refine tq_getR (M := mX11_isAtOdds) (pc := 84) tk_c11 (by decide) dX11_isAtOdds_84 tk_RX11_44 rfl ek14 ?_
            refine tq_bipush (M := mX11_isAtOdds) (pc := 87) dX11_isAtOdds_87 tk_kb_7 ?_
            refine tq_iload_n (M := mX11_isAtOdds) (pc := 89) dX11_isAtOdds_89 rfl ?_
            refine tq_imul (M := mX11_isAtOdds) (pc := 90) dX11_isAtOdds_90 ?_
            obtain ⟨x15, ex15, hf⟩ := tq_be hf
            refine tq_ialdF (M := mX11_isAtOdds) (pc := 91) dX11_isAtOdds_91 ex15 ?_
            refine tq_iconst (M := mX11_isAtOdds) (pc := 92) dX11_isAtOdds_92 tk_ki_2 ?_
            refine tq_icmp_lt (M := mX11_isAtOdds) (pc := 93) (tgt := 117) dX11_isAtOdds_93 (by decide) (fun cc => ?_) (fun cc => ?_)
            · have hf := tq_ifp hf cc
              refine tq_iload (M := mX11_isAtOdds) (pc := 117) dX11_isAtOdds_117 rfl ?_
              refine tq_if_eq (M := mX11_isAtOdds) (pc := 119) (tgt := 152) dX11_isAtOdds_119 (by decide) (fun cc => ?_) (fun cc => ?_)
              · have hf := tq_ifp hf cc
                refine tq_iconst (M := mX11_isAtOdds) (pc := 152) dX11_isAtOdds_152 tk_ki_0 ?_
                refine tq_pick (L2 := [(0, .ref i0), (2, .int i2), (3, .int y3)]) [1, 3, 4] rfl ?_
                cases (Option.some.inj hf)
                exact HJ75
              · have hf := tq_ifn hf cc
                refine tq_aload_n (M := mX11_isAtOdds) (pc := 122) dX11_isAtOdds_122 rfl ?_
                obtain ⟨k16, ek16, hf⟩ := tq_be hf
                refine tq_getR (M := mX11_isAtOdds) (pc := 123) tk_c11 (by decide) dX11_isAtOdds_123 tk_RX11_44 rfl ek16 ?_
                refine tq_bipush (M := mX11_isAtOdds) (pc := 126) dX11_isAtOdds_126 tk_kb_7 ?_
                refine tq_iload_n (M := mX11_isAtOdds) (pc := 128) dX11_isAtOdds_128 rfl ?_
                refine tq_imul (M := mX11_isAtOdds) (pc := 129) dX11_isAtOdds_129 ?_
                obtain ⟨x17, ex17, hf⟩ := tq_be hf
                refine tq_ialdF (M := mX11_isAtOdds) (pc := 130) dX11_isAtOdds_130 ex17 ?_
                refine tq_iconst (M := mX11_isAtOdds) (pc := 131) dX11_isAtOdds_131 tk_ki_4 ?_
                refine tq_icmp_ne (M := mX11_isAtOdds) (pc := 132) (tgt := 152) dX11_isAtOdds_132 (by decide) (fun cc => ?_) (fun cc => ?_)
                · have hf := tq_ifn hf cc
                  refine tq_iconst (M := mX11_isAtOdds) (pc := 152) dX11_isAtOdds_152 tk_ki_0 ?_
                  refine tq_pick (L2 := [(0, .ref i0), (2, .int i2), (3, .int y3)]) [1, 3, 4] rfl ?_
                  cases (Option.some.inj hf)
                  exact HJ75
                · have hf := tq_ifp hf cc
                  refine tq_aload_n (M := mX11_isAtOdds) (pc := 135) dX11_isAtOdds_135 rfl ?_
                  obtain ⟨k18, ek18, hf⟩ := tq_be hf
                  refine tq_getR (M := mX11_isAtOdds) (pc := 136) tk_c11 (by decide) dX11_isAtOdds_136 tk_RX11_44 rfl ek18 ?_
                  refine tq_bipush (M := mX11_isAtOdds) (pc := 139) dX11_isAtOdds_139 tk_kb_7 ?_
                  refine tq_iload_n (M := mX11_isAtOdds) (pc := 141) dX11_isAtOdds_141 rfl ?_
                  refine tq_imul (M := mX11_isAtOdds) (pc := 142) dX11_isAtOdds_142 ?_
                  obtain ⟨x19, ex19, hf⟩ := tq_be hf
                  refine tq_ialdF (M := mX11_isAtOdds) (pc := 143) dX11_isAtOdds_143 ex19 ?_
                  refine tq_iconst (M := mX11_isAtOdds) (pc := 144) dX11_isAtOdds_144 tk_ki_1 ?_
                  refine tq_icmp_ne (M := mX11_isAtOdds) (pc := 145) (tgt := 152) dX11_isAtOdds_145 (by decide) (fun cc => ?_) (fun cc => ?_)
                  · have hf := tq_ifn hf cc
                    refine tq_iconst (M := mX11_isAtOdds) (pc := 152) dX11_isAtOdds_152 tk_ki_0 ?_
                    refine tq_pick (L2 := [(0, .ref i0), (2, .int i2), (3, .int y3)]) [1, 3, 4] rfl ?_
                    cases (Option.some.inj hf)
                    exact HJ75
                  · have hf := tq_ifp hf cc
                    refine tq_iconst (M := mX11_isAtOdds) (pc := 148) dX11_isAtOdds_148 tk_ki_1 ?_
                    refine tq_goto (M := mX11_isAtOdds) (pc := 149) (tgt := 153) dX11_isAtOdds_149 (by decide) ?_
                    refine tq_pick (L2 := [(0, .ref i0), (2, .int i2), (3, .int y3)]) [1, 3, 4] rfl ?_
                    cases (Option.some.inj hf)
                    exact HJ75
            · have hf := tq_ifn hf cc
              refine tq_aload_n (M := mX11_isAtOdds) (pc := 96) dX11_isAtOdds_96 rfl ?_
              obtain ⟨k20, ek20, hf⟩ := tq_be hf
              refine tq_getR (M := mX11_isAtOdds) (pc := 97) tk_c11 (by decide) dX11_isAtOdds_97 tk_RX11_44 rfl ek20 ?_
              refine tq_bipush (M := mX11_isAtOdds) (pc := 100) dX11_isAtOdds_100 tk_kb_7 ?_
              refine tq_iload_n (M := mX11_isAtOdds) (pc := 102) dX11_isAtOdds_102 rfl ?_
              refine tq_imul (M := mX11_isAtOdds) (pc := 103) dX11_isAtOdds_103 ?_
              obtain ⟨x21, ex21, hf⟩ := tq_be hf
              refine tq_ialdF (M := mX11_isAtOdds) (pc := 104) dX11_isAtOdds_104 ex21 ?_
              refine tq_aload_n (M := mX11_isAtOdds) (pc := 105) dX11_isAtOdds_105 rfl ?_
              obtain ⟨k22, ek22, hf⟩ := tq_be hf
              refine tq_getR (M := mX11_isAtOdds) (pc := 106) tk_c11 (by decide) dX11_isAtOdds_106 tk_RX11_44 rfl ek22 ?_
              refine tq_bipush (M := mX11_isAtOdds) (pc := 109) dX11_isAtOdds_109 tk_kb_7 ?_
              refine tq_iload_n (M := mX11_isAtOdds) (pc := 111) dX11_isAtOdds_111 rfl ?_
              refine tq_imul (M := mX11_isAtOdds) (pc := 112) dX11_isAtOdds_112 ?_
              obtain ⟨x23, ex23, hf⟩ := tq_be hf
              refine tq_ialdF (M := mX11_isAtOdds) (pc := 113) dX11_isAtOdds_113 ex23 ?_
              refine tq_icmp_eq (M := mX11_isAtOdds) (pc := 114) (tgt := 148) dX11_isAtOdds_114 (by decide) (fun cc => ?_) (fun cc => ?_)
              · have hf := tq_ifp hf cc
                refine tq_iconst (M := mX11_isAtOdds) (pc := 148) dX11_isAtOdds_148 tk_ki_1 ?_
                refine tq_goto (M := mX11_isAtOdds) (pc := 149) (tgt := 153) dX11_isAtOdds_149 (by decide) ?_
                refine tq_pick (L2 := [(0, .ref i0), (2, .int i2), (3, .int y3)]) [1, 3, 4] rfl ?_
                cases (Option.some.inj hf)
                exact HJ75
              · have hf := tq_ifn hf cc
                refine tq_iload (M := mX11_isAtOdds) (pc := 117) dX11_isAtOdds_117 rfl ?_
                refine tq_if_eq (M := mX11_isAtOdds) (pc := 119) (tgt := 152) dX11_isAtOdds_119 (by decide) (fun cc => ?_) (fun cc => ?_)
                · have hf := tq_ifp hf cc
                  refine tq_iconst (M := mX11_isAtOdds) (pc := 152) dX11_isAtOdds_152 tk_ki_0 ?_
                  refine tq_pick (L2 := [(0, .ref i0), (2, .int i2), (3, .int y3)]) [1, 3, 4] rfl ?_
                  cases (Option.some.inj hf)
                  exact HJ75
                · have hf := tq_ifn hf cc
                  refine tq_aload_n (M := mX11_isAtOdds) (pc := 122) dX11_isAtOdds_122 rfl ?_
                  obtain ⟨k24, ek24, hf⟩ := tq_be hf
                  refine tq_getR (M := mX11_isAtOdds) (pc := 123) tk_c11 (by decide) dX11_isAtOdds_123 tk_RX11_44 rfl ek24 ?_
                  refine tq_bipush (M := mX11_isAtOdds) (pc := 126) dX11_isAtOdds_126 tk_kb_7 ?_
                  refine tq_iload_n (M := mX11_isAtOdds) (pc := 128) dX11_isAtOdds_128 rfl ?_
                  refine tq_imul (M := mX11_isAtOdds) (pc := 129) dX11_isAtOdds_129 ?_
                  obtain ⟨x25, ex25, hf⟩ := tq_be hf
                  refine tq_ialdF (M := mX11_isAtOdds) (pc := 130) dX11_isAtOdds_130 ex25 ?_
                  refine tq_iconst (M := mX11_isAtOdds) (pc := 131) dX11_isAtOdds_131 tk_ki_4 ?_
                  refine tq_icmp_ne (M := mX11_isAtOdds) (pc := 132) (tgt := 152) dX11_isAtOdds_132 (by decide) (fun cc => ?_) (fun cc => ?_)
                  · have hf := tq_ifn hf cc
                    refine tq_iconst (M := mX11_isAtOdds) (pc := 152) dX11_isAtOdds_152 tk_ki_0 ?_
                    refine tq_pick (L2 := [(0, .ref i0), (2, .int i2), (3, .int y3)]) [1, 3, 4] rfl ?_
                    cases (Option.some.inj hf)
                    exact HJ75
                  · have hf := tq_ifp hf cc
                    refine tq_aload_n (M := mX11_isAtOdds) (pc := 135) dX11_isAtOdds_135 rfl ?_
                    obtain ⟨k26, ek26, hf⟩ := tq_be hf
                    refine tq_getR (M := mX11_isAtOdds) (pc := 136) tk_c11 (by decide) dX11_isAtOdds_136 tk_RX11_44 rfl ek26 ?_
                    refine tq_bipush (M := mX11_isAtOdds) (pc := 139) dX11_isAtOdds_139 tk_kb_7 ?_
                    refine tq_iload_n (M := mX11_isAtOdds) (pc := 141) dX11_isAtOdds_141 rfl ?_
                    refine tq_imul (M := mX11_isAtOdds) (pc := 142) dX11_isAtOdds_142 ?_
                    obtain ⟨x27, ex27, hf⟩ := tq_be hf
                    refine tq_ialdF (M := mX11_isAtOdds) (pc := 143) dX11_isAtOdds_143 ex27 ?_
                    refine tq_iconst (M := mX11_isAtOdds) (pc := 144) dX11_isAtOdds_144 tk_ki_1 ?_
                    refine tq_icmp_ne (M := mX11_isAtOdds) (pc := 145) (tgt := 152) dX11_isAtOdds_145 (by decide) (fun cc => ?_) (fun cc => ?_)
                    · have hf := tq_ifn hf cc
                      refine tq_iconst (M := mX11_isAtOdds) (pc := 152) dX11_isAtOdds_152 tk_ki_0 ?_
                      refine tq_pick (L2 := [(0, .ref i0), (2, .int i2), (3, .int y3)]) [1, 3, 4] rfl ?_
                      cases (Option.some.inj hf)
                      exact HJ75
                    · have hf := tq_ifp hf cc
                      refine tq_iconst (M := mX11_isAtOdds) (pc := 148) dX11_isAtOdds_148 tk_ki_1 ?_
                      refine tq_goto (M := mX11_isAtOdds) (pc := 149) (tgt := 153) dX11_isAtOdds_149 (by decide) ?_
                      refine tq_pick (L2 := [(0, .ref i0), (2, .int i2), (3, .int y3)]) [1, 3, 4] rfl ?_
                      cases (Option.some.inj hf)
                      exact HJ75
      refine tq_icmp_eq (M := mX11_isAtOdds) (pc := 24) (tgt := 71) dX11_isAtOdds_24 (by decide) (fun cc => ?_) (fun cc => ?_)
      · have hf := tq_ifp ep9 cc
        refine tq_iconst (M := mX11_isAtOdds) (pc := 71) dX11_isAtOdds_71 tk_ki_0 ?_
        cases (Option.some.inj hf)
        exact HJ24
      · have hf := tq_ifn ep9 cc
        refine tq_aload_n (M := mX11_isAtOdds) (pc := 27) dX11_isAtOdds_27 rfl ?_
        obtain ⟨k3, ek3, hf⟩ := tq_be hf
        refine tq_getR (M := mX11_isAtOdds) (pc := 28) tk_c11 (by decide) dX11_isAtOdds_28 tk_RX11_44 rfl ek3 ?_
        refine tq_bipush (M := mX11_isAtOdds) (pc := 31) dX11_isAtOdds_31 tk_kb_7 ?_
        refine tq_iload_n (M := mX11_isAtOdds) (pc := 33) dX11_isAtOdds_33 rfl ?_
        refine tq_imul (M := mX11_isAtOdds) (pc := 34) dX11_isAtOdds_34 ?_
        refine tq_iconst (M := mX11_isAtOdds) (pc := 35) dX11_isAtOdds_35 tk_ki_1 ?_
        refine tq_iadd (M := mX11_isAtOdds) (pc := 36) dX11_isAtOdds_36 ?_
        obtain ⟨x4, ex4, hf⟩ := tq_be hf
        refine tq_ialdF (M := mX11_isAtOdds) (pc := 37) dX11_isAtOdds_37 ex4 ?_
        refine tq_aload_n (M := mX11_isAtOdds) (pc := 38) dX11_isAtOdds_38 rfl ?_
        obtain ⟨k5, ek5, hf⟩ := tq_be hf
        refine tq_getR (M := mX11_isAtOdds) (pc := 39) tk_c11 (by decide) dX11_isAtOdds_39 tk_RX11_44 rfl ek5 ?_
        refine tq_bipush (M := mX11_isAtOdds) (pc := 42) dX11_isAtOdds_42 tk_kb_7 ?_
        refine tq_iload_n (M := mX11_isAtOdds) (pc := 44) dX11_isAtOdds_44 rfl ?_
        refine tq_imul (M := mX11_isAtOdds) (pc := 45) dX11_isAtOdds_45 ?_
        refine tq_iconst (M := mX11_isAtOdds) (pc := 46) dX11_isAtOdds_46 tk_ki_1 ?_
        refine tq_iadd (M := mX11_isAtOdds) (pc := 47) dX11_isAtOdds_47 ?_
        obtain ⟨x6, ex6, hf⟩ := tq_be hf
        refine tq_ialdF (M := mX11_isAtOdds) (pc := 48) dX11_isAtOdds_48 ex6 ?_
        refine tq_icmp_ne (M := mX11_isAtOdds) (pc := 49) (tgt := 71) dX11_isAtOdds_49 (by decide) (fun cc => ?_) (fun cc => ?_)
        · have hf := tq_ifn hf cc
          refine tq_iconst (M := mX11_isAtOdds) (pc := 71) dX11_isAtOdds_71 tk_ki_0 ?_
          cases (Option.some.inj hf)
          exact HJ24
        · have hf := tq_ifp hf cc
          refine tq_aload_n (M := mX11_isAtOdds) (pc := 52) dX11_isAtOdds_52 rfl ?_
          obtain ⟨k7, ek7, hf⟩ := tq_be hf
          refine tq_getR (M := mX11_isAtOdds) (pc := 53) tk_c11 (by decide) dX11_isAtOdds_53 tk_RX11_44 rfl ek7 ?_
          refine tq_bipush (M := mX11_isAtOdds) (pc := 56) dX11_isAtOdds_56 tk_kb_7 ?_
          refine tq_iload_n (M := mX11_isAtOdds) (pc := 58) dX11_isAtOdds_58 rfl ?_
          refine tq_imul (M := mX11_isAtOdds) (pc := 59) dX11_isAtOdds_59 ?_
          refine tq_iconst (M := mX11_isAtOdds) (pc := 60) dX11_isAtOdds_60 tk_ki_1 ?_
          refine tq_iadd (M := mX11_isAtOdds) (pc := 61) dX11_isAtOdds_61 ?_
          obtain ⟨x8, ex8, hf⟩ := tq_be hf
          refine tq_ialdF (M := mX11_isAtOdds) (pc := 62) dX11_isAtOdds_62 ex8 ?_
          refine tq_iconst (M := mX11_isAtOdds) (pc := 63) dX11_isAtOdds_63 tk_ki_m1 ?_
          refine tq_icmp_eq (M := mX11_isAtOdds) (pc := 64) (tgt := 71) dX11_isAtOdds_64 (by decide) (fun cc => ?_) (fun cc => ?_)
          · have hf := tq_ifp hf cc
            refine tq_iconst (M := mX11_isAtOdds) (pc := 71) dX11_isAtOdds_71 tk_ki_0 ?_
            cases (Option.some.inj hf)
            exact HJ24
          · have hf := tq_ifn hf cc
            refine tq_iconst (M := mX11_isAtOdds) (pc := 67) dX11_isAtOdds_67 tk_ki_1 ?_
            refine tq_goto (M := mX11_isAtOdds) (pc := 68) (tgt := 72) dX11_isAtOdds_68 (by decide) ?_
            cases (Option.some.inj hf)
            exact HJ24
set_option maxHeartbeats 4000000 in
theorem l_X11_isAtOdds_4 {l : Launch} {d : Nat} {Q : tq_R → tq_H → Prop} (hd9 : 0 ≤ d) (i0 : Nat) (hh : tq_H) : ∀ (n : Nat) (y1 : Int32) (y2 : Int32) (o : Int32), tq_loop (f_X11_isAtOdds_b4 i0 hh) n (y1, y2) = some o → tq_W l mX11_isAtOdds d 0 0 Q 166 [(1, .int o)] [] hh → tq_W l mX11_isAtOdds d 0 0 Q 4 [(0, .ref i0), (1, .int y1), (2, .int y2)] [] hh := by
  intro n
  induction n with
  | zero => intro y1 y2 o hl; cases hl
  | succ n ih =>
    intro y1 y2 o hl hk
    obtain ⟨oo, hf, ho⟩ := tq_loop_s hl
    refine tq_iload_n (M := mX11_isAtOdds) (pc := 4) dX11_isAtOdds_4 rfl ?_
    refine tq_aload_n (M := mX11_isAtOdds) (pc := 5) dX11_isAtOdds_5 rfl ?_
    obtain ⟨x1, ex1, hf⟩ := tq_be hf
    refine tq_getI (M := mX11_isAtOdds) (pc := 6) tk_c11 (by decide) dX11_isAtOdds_6 tk_RX11_191 rfl ex1 ?_
    refine tq_icmp_ge (M := mX11_isAtOdds) (pc := 9) (tgt := 166) dX11_isAtOdds_9 (by decide) (fun cc => ?_) (fun cc => ?_)
    · have hf := tq_ifp hf cc
      refine tq_pick (L2 := [(1, .int y1)]) [1] rfl ?_
      cases (Option.some.inj hf)
      cases (tq_lx ho)
      exact hk
    · have hf := tq_ifn hf cc
      refine tq_iconst (M := mX11_isAtOdds) (pc := 12) dX11_isAtOdds_12 tk_ki_0 ?_
      refine tq_istore_n (M := mX11_isAtOdds) (pc := 13) rfl dX11_isAtOdds_13 (L2 := [(3, .int (0 : Int32)), (0, .ref i0), (1, .int y1), (2, .int y2)]) (by decide) rfl ?_
      obtain ⟨o30, eo30, hf⟩ := tq_be hf
      refine tq_pick (L2 := [(0, .ref i0), (1, .int y1), (2, .int y2), (3, .int (0 : Int32))]) [1, 2, 3, 0] rfl ?_
      refine l_X11_isAtOdds_14 (by omega) i0 y2 hh _ y1 (0 : Int32) _ eo30 ?_
      obtain ⟨x31, ex31, hf⟩ := tq_le hf
      refine tq_iinc (M := mX11_isAtOdds) (pc := 160) (v := x31) (L2 := [(2, .int x31), (0, .ref i0), (1, .int o30)]) dX11_isAtOdds_160 rfl (by rw [ex31, tk_ki_1]) (by decide) rfl ?_
      refine tq_goto (M := mX11_isAtOdds) (pc := 163) (tgt := 4) dX11_isAtOdds_163 (by decide) ?_
      refine tq_pick (L2 := [(0, .ref i0), (1, .int o30), (2, .int x31)]) [1, 2, 0] rfl ?_
      cases (Option.some.inj hf)
      exact ih _ _ o (tq_lc ho) hk
set_option maxHeartbeats 4000000 in
set_option maxRecDepth 20000 in
theorem w_X11_isAtOdds {l : Launch} {d : Nat} (hd9 : 0 ≤ d) {t : Nat} {h : tq_H} {o : Int32} {Q : tq_R → tq_H → Prop} (hf : f_X11_isAtOdds t h = some o) (hQ : ∀ r h9, r = .inl (some (.int o)) ∧ h = h9 → Q r h9) : tq_C l yX11_isAtOdds cX11_isAtOdds 5 (some .boolean) d 0 0 [.ref t] h Q := by
  refine tq_body (y := yX11_isAtOdds) false (by decide +kernel) (fun z => by cases z) (Nat.le_of_ble_eq_true rfl) ?_
  show tq_W l mX11_isAtOdds d 0 0 Q 0 [(0, .ref t)] [] h
  refine tq_iconst (M := mX11_isAtOdds) (pc := 0) dX11_isAtOdds_0 tk_ki_0 ?_
  refine tq_istore_n (M := mX11_isAtOdds) (pc := 1) rfl dX11_isAtOdds_1 (L2 := [(1, .int (0 : Int32)), (0, .ref t)]) (by decide) rfl ?_
  refine tq_iconst (M := mX11_isAtOdds) (pc := 2) dX11_isAtOdds_2 tk_ki_0 ?_
  refine tq_istore_n (M := mX11_isAtOdds) (pc := 3) rfl dX11_isAtOdds_3 (L2 := [(2, .int (0 : Int32)), (1, .int (0 : Int32)), (0, .ref t)]) (by decide) rfl ?_
  obtain ⟨o32, eo32, hf⟩ := tq_be hf
  refine tq_pick (L2 := [(0, .ref t), (1, .int (0 : Int32)), (2, .int (0 : Int32))]) [2, 1, 0] rfl ?_
  refine l_X11_isAtOdds_4 (by omega) t h _ (0 : Int32) (0 : Int32) _ eo32 ?_
  refine tq_iload_n (M := mX11_isAtOdds) (pc := 166) dX11_isAtOdds_166 rfl ?_
  obtain ⟨z33, ez33, hf⟩ := tq_be hf
  refine tq_zretB (M := mX11_isAtOdds) (pc := 167) dX11_isAtOdds_167 rfl ez33 ?_
  cases (Option.some.inj hf)
  exact hQ _ _ ⟨rfl, rfl⟩
abbrev mX11_isListed : tq_M := (RX11, cX11_isListed, 5, (some .boolean), false, [], none)
def f_X11_isListed_b5 (i0 : Nat) (i1 : Int32) (i2 : Int32) (hh : tq_H) (s : Int32 × Int32) : Option ((Int32 × Int32) ⊕ (Int32)) := match s with
  | (y3, y4) =>
    (tq_gi hh i0 11 15).bind fun x1 =>
    if y4 ≥ x1 then
      some (.inr y3)
    else
      (if y3 = 0 then
        (tq_gr hh i0 11 16).bind fun k2 =>
        (tq_ai hh k2 ((7 : Int32) * y4)).bind fun x3 =>
        if x3 = i2 then
          (tq_gr hh i0 11 16).bind fun k4 =>
          (tq_ai hh k4 (((7 : Int32) * y4) + (1 : Int32))).bind fun x5 =>
          if x5 = i1 then
            some (1 : Int32)
          else
            some (0 : Int32)
        else
          some (0 : Int32)
      else
        some (1 : Int32)).bind fun p6 =>
      tq_let (y4 + (1 : Int32)) fun x7 =>
      some (.inl (p6, x7))
def f_X11_isListed (t : Nat) (a1 : Int32) (a2 : Int32) (h : tq_H) : Option (Int32) :=
  (tq_loop (f_X11_isListed_b5 t a1 a2 h) tq_N ((0 : Int32), (0 : Int32))).bind fun o8 =>
  (tq_bz o8).bind fun z9 =>
  some z9
set_option maxHeartbeats 4000000 in
theorem l_X11_isListed_5 {l : Launch} {d : Nat} {Q : tq_R → tq_H → Prop} (hd9 : 0 ≤ d) (i0 : Nat) (i1 : Int32) (i2 : Int32) (hh : tq_H) : ∀ (n : Nat) (y3 : Int32) (y4 : Int32) (o : Int32), tq_loop (f_X11_isListed_b5 i0 i1 i2 hh) n (y3, y4) = some o → tq_W l mX11_isListed d 0 0 Q 60 [(3, .int o)] [] hh → tq_W l mX11_isListed d 0 0 Q 5 [(0, .ref i0), (1, .int i1), (2, .int i2), (3, .int y3), (4, .int y4)] [] hh := by
  intro n
  induction n with
  | zero => intro y3 y4 o hl; cases hl
  | succ n ih =>
    intro y3 y4 o hl hk
    obtain ⟨oo, hf, ho⟩ := tq_loop_s hl
    refine tq_iload (M := mX11_isListed) (pc := 5) dX11_isListed_5 rfl ?_
    refine tq_aload_n (M := mX11_isListed) (pc := 7) dX11_isListed_7 rfl ?_
    obtain ⟨x1, ex1, hf⟩ := tq_be hf
    refine tq_getI (M := mX11_isListed) (pc := 8) tk_c11 (by decide) dX11_isListed_8 tk_RX11_191 rfl ex1 ?_
    refine tq_icmp_ge (M := mX11_isListed) (pc := 11) (tgt := 60) dX11_isListed_11 (by decide) (fun cc => ?_) (fun cc => ?_)
    · have hf := tq_ifp hf cc
      refine tq_pick (L2 := [(3, .int y3)]) [3] rfl ?_
      cases (Option.some.inj hf)
      cases (tq_lx ho)
      exact hk
    · have hf := tq_ifn hf cc
      refine tq_iload_n (M := mX11_isListed) (pc := 14) dX11_isListed_14 rfl ?_
      obtain ⟨p6, ep6, hf⟩ := tq_be hf
      have HJ15 : tq_W l mX11_isListed d 0 0 Q 53 [(0, .ref i0), (1, .int i1), (2, .int i2), (4, .int y4)] [.int p6] hh := by
        refine tq_istore_n (M := mX11_isListed) (pc := 53) rfl dX11_isListed_53 (L2 := [(3, .int p6), (0, .ref i0), (1, .int i1), (2, .int i2), (4, .int y4)]) (by decide) rfl ?_
        obtain ⟨x7, ex7, hf⟩ := tq_le hf
        refine tq_iinc (M := mX11_isListed) (pc := 54) (v := x7) (L2 := [(4, .int x7), (3, .int p6), (0, .ref i0), (1, .int i1), (2, .int i2)]) dX11_isListed_54 rfl (by rw [ex7, tk_ki_1]) (by decide) rfl ?_
        refine tq_goto (M := mX11_isListed) (pc := 57) (tgt := 5) dX11_isListed_57 (by decide) ?_
        refine tq_pick (L2 := [(0, .ref i0), (1, .int i1), (2, .int i2), (3, .int p6), (4, .int x7)]) [2, 3, 4, 1, 0] rfl ?_
        cases (Option.some.inj hf)
        exact ih _ _ o (tq_lc ho) hk
      refine tq_if_ne (M := mX11_isListed) (pc := 15) (tgt := 48) dX11_isListed_15 (by decide) (fun cc => ?_) (fun cc => ?_)
      · have hf := tq_ifn ep6 cc
        refine tq_iconst (M := mX11_isListed) (pc := 48) dX11_isListed_48 tk_ki_1 ?_
        refine tq_goto (M := mX11_isListed) (pc := 49) (tgt := 53) dX11_isListed_49 (by decide) ?_
        refine tq_pick (L2 := [(0, .ref i0), (1, .int i1), (2, .int i2), (4, .int y4)]) [0, 1, 2, 4] rfl ?_
        cases (Option.some.inj hf)
        exact HJ15
      · have hf := tq_ifp ep6 cc
        refine tq_aload_n (M := mX11_isListed) (pc := 18) dX11_isListed_18 rfl ?_
        obtain ⟨k2, ek2, hf⟩ := tq_be hf
        refine tq_getR (M := mX11_isListed) (pc := 19) tk_c11 (by decide) dX11_isListed_19 tk_RX11_44 rfl ek2 ?_
        refine tq_bipush (M := mX11_isListed) (pc := 22) dX11_isListed_22 tk_kb_7 ?_
        refine tq_iload (M := mX11_isListed) (pc := 24) dX11_isListed_24 rfl ?_
        refine tq_imul (M := mX11_isListed) (pc := 26) dX11_isListed_26 ?_
        obtain ⟨x3, ex3, hf⟩ := tq_be hf
        refine tq_ialdF (M := mX11_isListed) (pc := 27) dX11_isListed_27 ex3 ?_
        refine tq_iload_n (M := mX11_isListed) (pc := 28) dX11_isListed_28 rfl ?_
        refine tq_icmp_ne (M := mX11_isListed) (pc := 29) (tgt := 52) dX11_isListed_29 (by decide) (fun cc => ?_) (fun cc => ?_)
        · have hf := tq_ifn hf cc
          refine tq_iconst (M := mX11_isListed) (pc := 52) dX11_isListed_52 tk_ki_0 ?_
          refine tq_pick (L2 := [(0, .ref i0), (1, .int i1), (2, .int i2), (4, .int y4)]) [0, 1, 2, 4] rfl ?_
          cases (Option.some.inj hf)
          exact HJ15
        · have hf := tq_ifp hf cc
          refine tq_aload_n (M := mX11_isListed) (pc := 32) dX11_isListed_32 rfl ?_
          obtain ⟨k4, ek4, hf⟩ := tq_be hf
          refine tq_getR (M := mX11_isListed) (pc := 33) tk_c11 (by decide) dX11_isListed_33 tk_RX11_44 rfl ek4 ?_
          refine tq_bipush (M := mX11_isListed) (pc := 36) dX11_isListed_36 tk_kb_7 ?_
          refine tq_iload (M := mX11_isListed) (pc := 38) dX11_isListed_38 rfl ?_
          refine tq_imul (M := mX11_isListed) (pc := 40) dX11_isListed_40 ?_
          refine tq_iconst (M := mX11_isListed) (pc := 41) dX11_isListed_41 tk_ki_1 ?_
          refine tq_iadd (M := mX11_isListed) (pc := 42) dX11_isListed_42 ?_
          obtain ⟨x5, ex5, hf⟩ := tq_be hf
          refine tq_ialdF (M := mX11_isListed) (pc := 43) dX11_isListed_43 ex5 ?_
          refine tq_iload_n (M := mX11_isListed) (pc := 44) dX11_isListed_44 rfl ?_
          refine tq_icmp_ne (M := mX11_isListed) (pc := 45) (tgt := 52) dX11_isListed_45 (by decide) (fun cc => ?_) (fun cc => ?_)
          · have hf := tq_ifn hf cc
            refine tq_iconst (M := mX11_isListed) (pc := 52) dX11_isListed_52 tk_ki_0 ?_
            refine tq_pick (L2 := [(0, .ref i0), (1, .int i1), (2, .int i2), (4, .int y4)]) [0, 1, 2, 4] rfl ?_
            cases (Option.some.inj hf)
            exact HJ15
          · have hf := tq_ifp hf cc
            refine tq_iconst (M := mX11_isListed) (pc := 48) dX11_isListed_48 tk_ki_1 ?_
            refine tq_goto (M := mX11_isListed) (pc := 49) (tgt := 53) dX11_isListed_49 (by decide) ?_
            refine tq_pick (L2 := [(0, .ref i0), (1, .int i1), (2, .int i2), (4, .int y4)]) [0, 1, 2, 4] rfl ?_
            cases (Option.some.inj hf)
            exact HJ15
set_option maxHeartbeats 4000000 in
set_option maxRecDepth 20000 in
theorem w_X11_isListed {l : Launch} {d : Nat} (hd9 : 0 ≤ d) {t : Nat} {a1 : Int32} {a2 : Int32} {h : tq_H} {o : Int32} {Q : tq_R → tq_H → Prop} (hf : f_X11_isListed t a1 a2 h = some o) (hQ : ∀ r h9, r = .inl (some (.int o)) ∧ h = h9 → Q r h9) : tq_C l yX11_isListed cX11_isListed 5 (some .boolean) d 0 0 [.ref t, .int a1, .int a2] h Q := by
  refine tq_body (y := yX11_isListed) false (by decide +kernel) (fun z => by cases z) (Nat.le_of_ble_eq_true rfl) ?_
  show tq_W l mX11_isListed d 0 0 Q 0 [(0, .ref t), (1, .int a1), (2, .int a2)] [] h
  refine tq_iconst (M := mX11_isListed) (pc := 0) dX11_isListed_0 tk_ki_0 ?_
  refine tq_istore_n (M := mX11_isListed) (pc := 1) rfl dX11_isListed_1 (L2 := [(3, .int (0 : Int32)), (0, .ref t), (1, .int a1), (2, .int a2)]) (by decide) rfl ?_
  refine tq_iconst (M := mX11_isListed) (pc := 2) dX11_isListed_2 tk_ki_0 ?_
  refine tq_istore (M := mX11_isListed) (pc := 3) dX11_isListed_3 (L2 := [(4, .int (0 : Int32)), (3, .int (0 : Int32)), (0, .ref t), (1, .int a1), (2, .int a2)]) (by decide) rfl ?_
  obtain ⟨o8, eo8, hf⟩ := tq_be hf
  refine tq_pick (L2 := [(0, .ref t), (1, .int a1), (2, .int a2), (3, .int (0 : Int32)), (4, .int (0 : Int32))]) [2, 3, 4, 1, 0] rfl ?_
  refine l_X11_isListed_5 (by omega) t a1 a2 h _ (0 : Int32) (0 : Int32) _ eo8 ?_
  refine tq_iload_n (M := mX11_isListed) (pc := 60) dX11_isListed_60 rfl ?_
  obtain ⟨z9, ez9, hf⟩ := tq_be hf
  refine tq_zretB (M := mX11_isListed) (pc := 61) dX11_isListed_61 rfl ez9 ?_
  cases (Option.some.inj hf)
  exact hQ _ _ ⟨rfl, rfl⟩
abbrev mX11_remember : tq_M := (RX11, cX11_remember, 2, none, false, [], none)
def f_X11_remember_b2 (i0 : Nat) (s : Int32 × tq_H) : Option ((Int32 × tq_H) ⊕ (tq_H)) := match s with
  | (y1, hh) =>
    if y1 ≥ (60 : Int32) then
      some (.inr hh)
    else
      (tq_gr hh i0 11 17).bind fun k1 =>
      (tq_gr hh i0 11 3).bind fun k2 =>
      (tq_ai hh k2 y1).bind fun x3 =>
      (tq_si hh k1 y1 x3).bind fun w4 =>
      (tq_gr w4 i0 11 18).bind fun k5 =>
      (tq_gr w4 i0 11 4).bind fun k6 =>
      (tq_ai w4 k6 y1).bind fun x7 =>
      (tq_si w4 k5 y1 x7).bind fun w8 =>
      (tq_gr w8 i0 11 19).bind fun k9 =>
      (tq_gr w8 i0 11 5).bind fun k10 =>
      (tq_ai w8 k10 y1).bind fun x11 =>
      (tq_si w8 k9 y1 x11).bind fun w12 =>
      (tq_gr w12 i0 11 20).bind fun k13 =>
      (tq_gr w12 i0 11 6).bind fun k14 =>
      (tq_ai w12 k14 y1).bind fun x15 =>
      (tq_si w12 k13 y1 x15).bind fun w16 =>
      (tq_gr w16 i0 11 21).bind fun k17 =>
      (tq_gr w16 i0 11 7).bind fun k18 =>
      (tq_ai w16 k18 y1).bind fun x19 =>
      (tq_si w16 k17 y1 x19).bind fun w20 =>
      (tq_gr w20 i0 11 22).bind fun k21 =>
      (tq_gr w20 i0 11 9).bind fun k22 =>
      (tq_az w20 k22 y1).bind fun x23 =>
      (tq_sz w20 k21 y1 x23).bind fun w24 =>
      tq_let (y1 + (1 : Int32)) fun x25 =>
      some (.inl (x25, w24))
def f_X11_remember (t : Nat) (h : tq_H) : Option (tq_H) :=
  (tq_loop (f_X11_remember_b2 t) tq_N ((0 : Int32), h)).bind fun o26 =>
  some o26
set_option maxHeartbeats 4000000 in
theorem l_X11_remember_2 {l : Launch} {d : Nat} {Q : tq_R → tq_H → Prop} (hd9 : 0 ≤ d) (i0 : Nat) : ∀ (n : Nat) (y1 : Int32) (hh : tq_H) (o : tq_H), tq_loop (f_X11_remember_b2 i0) n (y1, hh) = some o → tq_W l mX11_remember d 0 0 Q 86 [] [] o → tq_W l mX11_remember d 0 0 Q 2 [(0, .ref i0), (1, .int y1)] [] hh := by
  intro n
  induction n with
  | zero => intro y1 hh o hl; cases hl
  | succ n ih =>
    intro y1 hh o hl hk
    obtain ⟨oo, hf, ho⟩ := tq_loop_s hl
    refine tq_iload_n (M := mX11_remember) (pc := 2) dX11_remember_2 rfl ?_
    refine tq_bipush (M := mX11_remember) (pc := 3) dX11_remember_3 tk_kb_60 ?_
    refine tq_icmp_ge (M := mX11_remember) (pc := 5) (tgt := 86) dX11_remember_5 (by decide) (fun cc => ?_) (fun cc => ?_)
    · have hf := tq_ifp hf cc
      refine tq_pick (L2 := []) [] rfl ?_
      cases (Option.some.inj hf)
      cases (tq_lx ho)
      exact hk
    · have hf := tq_ifn hf cc
      refine tq_aload_n (M := mX11_remember) (pc := 8) dX11_remember_8 rfl ?_
      obtain ⟨k1, ek1, hf⟩ := tq_be hf
      refine tq_getR (M := mX11_remember) (pc := 9) tk_c11 (by decide) dX11_remember_9 tk_RX11_47 rfl ek1 ?_
      refine tq_iload_n (M := mX11_remember) (pc := 12) dX11_remember_12 rfl ?_
      refine tq_aload_n (M := mX11_remember) (pc := 13) dX11_remember_13 rfl ?_
      obtain ⟨k2, ek2, hf⟩ := tq_be hf
      refine tq_getR (M := mX11_remember) (pc := 14) tk_c11 (by decide) dX11_remember_14 tk_RX11_13 rfl ek2 ?_
      refine tq_iload_n (M := mX11_remember) (pc := 17) dX11_remember_17 rfl ?_
      obtain ⟨x3, ex3, hf⟩ := tq_be hf
      refine tq_ialdF (M := mX11_remember) (pc := 18) dX11_remember_18 ex3 ?_
      obtain ⟨w4, ew4, hf⟩ := tq_be hf
      refine tq_iastF (M := mX11_remember) (pc := 19) dX11_remember_19 ew4 ?_
      refine tq_aload_n (M := mX11_remember) (pc := 20) dX11_remember_20 rfl ?_
      obtain ⟨k5, ek5, hf⟩ := tq_be hf
      refine tq_getR (M := mX11_remember) (pc := 21) tk_c11 (by decide) dX11_remember_21 tk_RX11_50 rfl ek5 ?_
      refine tq_iload_n (M := mX11_remember) (pc := 24) dX11_remember_24 rfl ?_
      refine tq_aload_n (M := mX11_remember) (pc := 25) dX11_remember_25 rfl ?_
      obtain ⟨k6, ek6, hf⟩ := tq_be hf
      refine tq_getR (M := mX11_remember) (pc := 26) tk_c11 (by decide) dX11_remember_26 tk_RX11_16 rfl ek6 ?_
      refine tq_iload_n (M := mX11_remember) (pc := 29) dX11_remember_29 rfl ?_
      obtain ⟨x7, ex7, hf⟩ := tq_be hf
      refine tq_ialdF (M := mX11_remember) (pc := 30) dX11_remember_30 ex7 ?_
      obtain ⟨w8, ew8, hf⟩ := tq_be hf
      refine tq_iastF (M := mX11_remember) (pc := 31) dX11_remember_31 ew8 ?_
      refine tq_aload_n (M := mX11_remember) (pc := 32) dX11_remember_32 rfl ?_
      obtain ⟨k9, ek9, hf⟩ := tq_be hf
      refine tq_getR (M := mX11_remember) (pc := 33) tk_c11 (by decide) dX11_remember_33 tk_RX11_53 rfl ek9 ?_
      refine tq_iload_n (M := mX11_remember) (pc := 36) dX11_remember_36 rfl ?_
      refine tq_aload_n (M := mX11_remember) (pc := 37) dX11_remember_37 rfl ?_
      obtain ⟨k10, ek10, hf⟩ := tq_be hf
      refine tq_getR (M := mX11_remember) (pc := 38) tk_c11 (by decide) dX11_remember_38 tk_RX11_19 rfl ek10 ?_
      refine tq_iload_n (M := mX11_remember) (pc := 41) dX11_remember_41 rfl ?_
      obtain ⟨x11, ex11, hf⟩ := tq_be hf
      refine tq_ialdF (M := mX11_remember) (pc := 42) dX11_remember_42 ex11 ?_
      obtain ⟨w12, ew12, hf⟩ := tq_be hf
      refine tq_iastF (M := mX11_remember) (pc := 43) dX11_remember_43 ew12 ?_
      refine tq_aload_n (M := mX11_remember) (pc := 44) dX11_remember_44 rfl ?_
      obtain ⟨k13, ek13, hf⟩ := tq_be hf
      refine tq_getR (M := mX11_remember) (pc := 45) tk_c11 (by decide) dX11_remember_45 tk_RX11_56 rfl ek13 ?_
      refine tq_iload_n (M := mX11_remember) (pc := 48) dX11_remember_48 rfl ?_
      refine tq_aload_n (M := mX11_remember) (pc := 49) dX11_remember_49 rfl ?_
      obtain ⟨k14, ek14, hf⟩ := tq_be hf
      refine tq_getR (M := mX11_remember) (pc := 50) tk_c11 (by decide) dX11_remember_50 tk_RX11_22 rfl ek14 ?_
      refine tq_iload_n (M := mX11_remember) (pc := 53) dX11_remember_53 rfl ?_
      obtain ⟨x15, ex15, hf⟩ := tq_be hf
      refine tq_ialdF (M := mX11_remember) (pc := 54) dX11_remember_54 ex15 ?_
      obtain ⟨w16, ew16, hf⟩ := tq_be hf
      refine tq_iastF (M := mX11_remember) (pc := 55) dX11_remember_55 ew16 ?_
      refine tq_aload_n (M := mX11_remember) (pc := 56) dX11_remember_56 rfl ?_
      obtain ⟨k17, ek17, hf⟩ := tq_be hf
      refine tq_getR (M := mX11_remember) (pc := 57) tk_c11 (by decide) dX11_remember_57 tk_RX11_59 rfl ek17 ?_
      refine tq_iload_n (M := mX11_remember) (pc := 60) dX11_remember_60 rfl ?_
      refine tq_aload_n (M := mX11_remember) (pc := 61) dX11_remember_61 rfl ?_
      obtain ⟨k18, ek18, hf⟩ := tq_be hf
      refine tq_getR (M := mX11_remember) (pc := 62) tk_c11 (by decide) dX11_remember_62 tk_RX11_25 rfl ek18 ?_
      refine tq_iload_n (M := mX11_remember) (pc := 65) dX11_remember_65 rfl ?_
      obtain ⟨x19, ex19, hf⟩ := tq_be hf
      refine tq_ialdF (M := mX11_remember) (pc := 66) dX11_remember_66 ex19 ?_
      obtain ⟨w20, ew20, hf⟩ := tq_be hf
      refine tq_iastF (M := mX11_remember) (pc := 67) dX11_remember_67 ew20 ?_
      refine tq_aload_n (M := mX11_remember) (pc := 68) dX11_remember_68 rfl ?_
      obtain ⟨k21, ek21, hf⟩ := tq_be hf
      refine tq_getR (M := mX11_remember) (pc := 69) tk_c11 (by decide) dX11_remember_69 tk_RX11_62 rfl ek21 ?_
      refine tq_iload_n (M := mX11_remember) (pc := 72) dX11_remember_72 rfl ?_
      refine tq_aload_n (M := mX11_remember) (pc := 73) dX11_remember_73 rfl ?_
      obtain ⟨k22, ek22, hf⟩ := tq_be hf
      refine tq_getR (M := mX11_remember) (pc := 74) tk_c11 (by decide) dX11_remember_74 tk_RX11_31 rfl ek22 ?_
      refine tq_iload_n (M := mX11_remember) (pc := 77) dX11_remember_77 rfl ?_
      obtain ⟨x23, ex23, hf⟩ := tq_be hf
      refine tq_zaldF (M := mX11_remember) (pc := 78) dX11_remember_78 ex23 ?_
      obtain ⟨w24, ew24, hf⟩ := tq_be hf
      refine tq_zastF (M := mX11_remember) (pc := 79) dX11_remember_79 ew24 ?_
      obtain ⟨x25, ex25, hf⟩ := tq_le hf
      refine tq_iinc (M := mX11_remember) (pc := 80) (v := x25) (L2 := [(1, .int x25), (0, .ref i0)]) dX11_remember_80 rfl (by rw [ex25, tk_ki_1]) (by decide) rfl ?_
      refine tq_goto (M := mX11_remember) (pc := 83) (tgt := 2) dX11_remember_83 (by decide) ?_
      refine tq_pick (L2 := [(0, .ref i0), (1, .int x25)]) [1, 0] rfl ?_
      cases (Option.some.inj hf)
      exact ih _ _ o (tq_lc ho) hk
set_option maxHeartbeats 4000000 in
set_option maxRecDepth 20000 in
theorem w_X11_remember {l : Launch} {d : Nat} (hd9 : 0 ≤ d) {t : Nat} {h : tq_H} {o : tq_H} {Q : tq_R → tq_H → Prop} (hf : f_X11_remember t h = some o) (hQ : ∀ r h9, r = .inl none ∧ o = h9 → Q r h9) : tq_C l yX11_remember cX11_remember 2 none d 0 0 [.ref t] h Q := by
  refine tq_body (y := yX11_remember) false (by decide +kernel) (fun z => by cases z) (Nat.le_of_ble_eq_true rfl) ?_
  show tq_W l mX11_remember d 0 0 Q 0 [(0, .ref t)] [] h
  refine tq_iconst (M := mX11_remember) (pc := 0) dX11_remember_0 tk_ki_0 ?_
  refine tq_istore_n (M := mX11_remember) (pc := 1) rfl dX11_remember_1 (L2 := [(1, .int (0 : Int32)), (0, .ref t)]) (by decide) rfl ?_
  obtain ⟨o26, eo26, hf⟩ := tq_be hf
  refine tq_pick (L2 := [(0, .ref t), (1, .int (0 : Int32))]) [1, 0] rfl ?_
  refine l_X11_remember_2 (by omega) t _ (0 : Int32) h _ eo26 ?_
  refine tq_vret (M := mX11_remember) (pc := 86) dX11_remember_86 rfl ?_
  cases (Option.some.inj hf)
  exact hQ _ _ ⟨rfl, rfl⟩
abbrev mX11_comeBack : tq_M := (RX11, cX11_comeBack, 2, none, false, [], none)
def f_X11_comeBack_b2 (i0 : Nat) (s : Int32 × tq_H) : Option ((Int32 × tq_H) ⊕ (tq_H)) := match s with
  | (y1, hh) =>
    if y1 ≥ (60 : Int32) then
      some (.inr hh)
    else
      (tq_gr hh i0 11 3).bind fun k1 =>
      (tq_gr hh i0 11 17).bind fun k2 =>
      (tq_ai hh k2 y1).bind fun x3 =>
      (tq_si hh k1 y1 x3).bind fun w4 =>
      (tq_gr w4 i0 11 4).bind fun k5 =>
      (tq_gr w4 i0 11 18).bind fun k6 =>
      (tq_ai w4 k6 y1).bind fun x7 =>
      (tq_si w4 k5 y1 x7).bind fun w8 =>
      (tq_gr w8 i0 11 5).bind fun k9 =>
      (tq_gr w8 i0 11 19).bind fun k10 =>
      (tq_ai w8 k10 y1).bind fun x11 =>
      (tq_si w8 k9 y1 x11).bind fun w12 =>
      (tq_gr w12 i0 11 6).bind fun k13 =>
      (tq_gr w12 i0 11 20).bind fun k14 =>
      (tq_ai w12 k14 y1).bind fun x15 =>
      (tq_si w12 k13 y1 x15).bind fun w16 =>
      (tq_gr w16 i0 11 7).bind fun k17 =>
      (tq_gr w16 i0 11 21).bind fun k18 =>
      (tq_ai w16 k18 y1).bind fun x19 =>
      (tq_si w16 k17 y1 x19).bind fun w20 =>
      (tq_gr w20 i0 11 9).bind fun k21 =>
      (tq_gr w20 i0 11 22).bind fun k22 =>
      (tq_az w20 k22 y1).bind fun x23 =>
      (tq_sz w20 k21 y1 x23).bind fun w24 =>
      tq_let (y1 + (1 : Int32)) fun x25 =>
      some (.inl (x25, w24))
def f_X11_comeBack (t : Nat) (h : tq_H) : Option (tq_H) :=
  (tq_loop (f_X11_comeBack_b2 t) tq_N ((0 : Int32), h)).bind fun o26 =>
  some o26
set_option maxHeartbeats 4000000 in
theorem l_X11_comeBack_2 {l : Launch} {d : Nat} {Q : tq_R → tq_H → Prop} (hd9 : 0 ≤ d) (i0 : Nat) : ∀ (n : Nat) (y1 : Int32) (hh : tq_H) (o : tq_H), tq_loop (f_X11_comeBack_b2 i0) n (y1, hh) = some o → tq_W l mX11_comeBack d 0 0 Q 86 [] [] o → tq_W l mX11_comeBack d 0 0 Q 2 [(0, .ref i0), (1, .int y1)] [] hh := by
  intro n
  induction n with
  | zero => intro y1 hh o hl; cases hl
  | succ n ih =>
    intro y1 hh o hl hk
    obtain ⟨oo, hf, ho⟩ := tq_loop_s hl
    refine tq_iload_n (M := mX11_comeBack) (pc := 2) dX11_comeBack_2 rfl ?_
    refine tq_bipush (M := mX11_comeBack) (pc := 3) dX11_comeBack_3 tk_kb_60 ?_
    refine tq_icmp_ge (M := mX11_comeBack) (pc := 5) (tgt := 86) dX11_comeBack_5 (by decide) (fun cc => ?_) (fun cc => ?_)
    · have hf := tq_ifp hf cc
      refine tq_pick (L2 := []) [] rfl ?_
      cases (Option.some.inj hf)
      cases (tq_lx ho)
      exact hk
    · have hf := tq_ifn hf cc
      refine tq_aload_n (M := mX11_comeBack) (pc := 8) dX11_comeBack_8 rfl ?_
      obtain ⟨k1, ek1, hf⟩ := tq_be hf
      refine tq_getR (M := mX11_comeBack) (pc := 9) tk_c11 (by decide) dX11_comeBack_9 tk_RX11_13 rfl ek1 ?_
      refine tq_iload_n (M := mX11_comeBack) (pc := 12) dX11_comeBack_12 rfl ?_
      refine tq_aload_n (M := mX11_comeBack) (pc := 13) dX11_comeBack_13 rfl ?_
      obtain ⟨k2, ek2, hf⟩ := tq_be hf
      refine tq_getR (M := mX11_comeBack) (pc := 14) tk_c11 (by decide) dX11_comeBack_14 tk_RX11_47 rfl ek2 ?_
      refine tq_iload_n (M := mX11_comeBack) (pc := 17) dX11_comeBack_17 rfl ?_
      obtain ⟨x3, ex3, hf⟩ := tq_be hf
      refine tq_ialdF (M := mX11_comeBack) (pc := 18) dX11_comeBack_18 ex3 ?_
      obtain ⟨w4, ew4, hf⟩ := tq_be hf
      refine tq_iastF (M := mX11_comeBack) (pc := 19) dX11_comeBack_19 ew4 ?_
      refine tq_aload_n (M := mX11_comeBack) (pc := 20) dX11_comeBack_20 rfl ?_
      obtain ⟨k5, ek5, hf⟩ := tq_be hf
      refine tq_getR (M := mX11_comeBack) (pc := 21) tk_c11 (by decide) dX11_comeBack_21 tk_RX11_16 rfl ek5 ?_
      refine tq_iload_n (M := mX11_comeBack) (pc := 24) dX11_comeBack_24 rfl ?_
      refine tq_aload_n (M := mX11_comeBack) (pc := 25) dX11_comeBack_25 rfl ?_
      obtain ⟨k6, ek6, hf⟩ := tq_be hf
      refine tq_getR (M := mX11_comeBack) (pc := 26) tk_c11 (by decide) dX11_comeBack_26 tk_RX11_50 rfl ek6 ?_
      refine tq_iload_n (M := mX11_comeBack) (pc := 29) dX11_comeBack_29 rfl ?_
      obtain ⟨x7, ex7, hf⟩ := tq_be hf
      refine tq_ialdF (M := mX11_comeBack) (pc := 30) dX11_comeBack_30 ex7 ?_
      obtain ⟨w8, ew8, hf⟩ := tq_be hf
      refine tq_iastF (M := mX11_comeBack) (pc := 31) dX11_comeBack_31 ew8 ?_
      refine tq_aload_n (M := mX11_comeBack) (pc := 32) dX11_comeBack_32 rfl ?_
      obtain ⟨k9, ek9, hf⟩ := tq_be hf
      refine tq_getR (M := mX11_comeBack) (pc := 33) tk_c11 (by decide) dX11_comeBack_33 tk_RX11_19 rfl ek9 ?_
      refine tq_iload_n (M := mX11_comeBack) (pc := 36) dX11_comeBack_36 rfl ?_
      refine tq_aload_n (M := mX11_comeBack) (pc := 37) dX11_comeBack_37 rfl ?_
      obtain ⟨k10, ek10, hf⟩ := tq_be hf
      refine tq_getR (M := mX11_comeBack) (pc := 38) tk_c11 (by decide) dX11_comeBack_38 tk_RX11_53 rfl ek10 ?_
      refine tq_iload_n (M := mX11_comeBack) (pc := 41) dX11_comeBack_41 rfl ?_
      obtain ⟨x11, ex11, hf⟩ := tq_be hf
      refine tq_ialdF (M := mX11_comeBack) (pc := 42) dX11_comeBack_42 ex11 ?_
      obtain ⟨w12, ew12, hf⟩ := tq_be hf
      refine tq_iastF (M := mX11_comeBack) (pc := 43) dX11_comeBack_43 ew12 ?_
      refine tq_aload_n (M := mX11_comeBack) (pc := 44) dX11_comeBack_44 rfl ?_
      obtain ⟨k13, ek13, hf⟩ := tq_be hf
      refine tq_getR (M := mX11_comeBack) (pc := 45) tk_c11 (by decide) dX11_comeBack_45 tk_RX11_22 rfl ek13 ?_
      refine tq_iload_n (M := mX11_comeBack) (pc := 48) dX11_comeBack_48 rfl ?_
      refine tq_aload_n (M := mX11_comeBack) (pc := 49) dX11_comeBack_49 rfl ?_
      obtain ⟨k14, ek14, hf⟩ := tq_be hf
      refine tq_getR (M := mX11_comeBack) (pc := 50) tk_c11 (by decide) dX11_comeBack_50 tk_RX11_56 rfl ek14 ?_
      refine tq_iload_n (M := mX11_comeBack) (pc := 53) dX11_comeBack_53 rfl ?_
      obtain ⟨x15, ex15, hf⟩ := tq_be hf
      refine tq_ialdF (M := mX11_comeBack) (pc := 54) dX11_comeBack_54 ex15 ?_
      obtain ⟨w16, ew16, hf⟩ := tq_be hf
      refine tq_iastF (M := mX11_comeBack) (pc := 55) dX11_comeBack_55 ew16 ?_
      refine tq_aload_n (M := mX11_comeBack) (pc := 56) dX11_comeBack_56 rfl ?_
      obtain ⟨k17, ek17, hf⟩ := tq_be hf
      refine tq_getR (M := mX11_comeBack) (pc := 57) tk_c11 (by decide) dX11_comeBack_57 tk_RX11_25 rfl ek17 ?_
      refine tq_iload_n (M := mX11_comeBack) (pc := 60) dX11_comeBack_60 rfl ?_
      refine tq_aload_n (M := mX11_comeBack) (pc := 61) dX11_comeBack_61 rfl ?_
      obtain ⟨k18, ek18, hf⟩ := tq_be hf
      refine tq_getR (M := mX11_comeBack) (pc := 62) tk_c11 (by decide) dX11_comeBack_62 tk_RX11_59 rfl ek18 ?_
      refine tq_iload_n (M := mX11_comeBack) (pc := 65) dX11_comeBack_65 rfl ?_
      obtain ⟨x19, ex19, hf⟩ := tq_be hf
      refine tq_ialdF (M := mX11_comeBack) (pc := 66) dX11_comeBack_66 ex19 ?_
      obtain ⟨w20, ew20, hf⟩ := tq_be hf
      refine tq_iastF (M := mX11_comeBack) (pc := 67) dX11_comeBack_67 ew20 ?_
      refine tq_aload_n (M := mX11_comeBack) (pc := 68) dX11_comeBack_68 rfl ?_
      obtain ⟨k21, ek21, hf⟩ := tq_be hf
      refine tq_getR (M := mX11_comeBack) (pc := 69) tk_c11 (by decide) dX11_comeBack_69 tk_RX11_31 rfl ek21 ?_
      refine tq_iload_n (M := mX11_comeBack) (pc := 72) dX11_comeBack_72 rfl ?_
      refine tq_aload_n (M := mX11_comeBack) (pc := 73) dX11_comeBack_73 rfl ?_
      obtain ⟨k22, ek22, hf⟩ := tq_be hf
      refine tq_getR (M := mX11_comeBack) (pc := 74) tk_c11 (by decide) dX11_comeBack_74 tk_RX11_62 rfl ek22 ?_
      refine tq_iload_n (M := mX11_comeBack) (pc := 77) dX11_comeBack_77 rfl ?_
      obtain ⟨x23, ex23, hf⟩ := tq_be hf
      refine tq_zaldF (M := mX11_comeBack) (pc := 78) dX11_comeBack_78 ex23 ?_
      obtain ⟨w24, ew24, hf⟩ := tq_be hf
      refine tq_zastF (M := mX11_comeBack) (pc := 79) dX11_comeBack_79 ew24 ?_
      obtain ⟨x25, ex25, hf⟩ := tq_le hf
      refine tq_iinc (M := mX11_comeBack) (pc := 80) (v := x25) (L2 := [(1, .int x25), (0, .ref i0)]) dX11_comeBack_80 rfl (by rw [ex25, tk_ki_1]) (by decide) rfl ?_
      refine tq_goto (M := mX11_comeBack) (pc := 83) (tgt := 2) dX11_comeBack_83 (by decide) ?_
      refine tq_pick (L2 := [(0, .ref i0), (1, .int x25)]) [1, 0] rfl ?_
      cases (Option.some.inj hf)
      exact ih _ _ o (tq_lc ho) hk
set_option maxHeartbeats 4000000 in
set_option maxRecDepth 20000 in
theorem w_X11_comeBack {l : Launch} {d : Nat} (hd9 : 0 ≤ d) {t : Nat} {h : tq_H} {o : tq_H} {Q : tq_R → tq_H → Prop} (hf : f_X11_comeBack t h = some o) (hQ : ∀ r h9, r = .inl none ∧ o = h9 → Q r h9) : tq_C l yX11_comeBack cX11_comeBack 2 none d 0 0 [.ref t] h Q := by
  refine tq_body (y := yX11_comeBack) false (by decide +kernel) (fun z => by cases z) (Nat.le_of_ble_eq_true rfl) ?_
  show tq_W l mX11_comeBack d 0 0 Q 0 [(0, .ref t)] [] h
  refine tq_iconst (M := mX11_comeBack) (pc := 0) dX11_comeBack_0 tk_ki_0 ?_
  refine tq_istore_n (M := mX11_comeBack) (pc := 1) rfl dX11_comeBack_1 (L2 := [(1, .int (0 : Int32)), (0, .ref t)]) (by decide) rfl ?_
  obtain ⟨o26, eo26, hf⟩ := tq_be hf
  refine tq_pick (L2 := [(0, .ref t), (1, .int (0 : Int32))]) [1, 0] rfl ?_
  refine l_X11_comeBack_2 (by omega) t _ (0 : Int32) h _ eo26 ?_
  refine tq_vret (M := mX11_comeBack) (pc := 86) dX11_comeBack_86 rfl ?_
  cases (Option.some.inj hf)
  exact hQ _ _ ⟨rfl, rfl⟩
abbrev mX11_nodeOf : tq_M := (RX11, cX11_nodeOf, 4, (some .int), false, [], none)
def f_X11_nodeOf_b7 (i0 : Nat) (i1 : Int32) (hh : tq_H) (s : Int32 × Int32) : Option ((Int32 × Int32) ⊕ (Int32)) := match s with
  | (y2, y3) =>
    if y3 ≥ i1 then
      some (.inr y2)
    else
      (tq_gr hh i0 11 16).bind fun k2 =>
      (tq_ai hh k2 ((7 : Int32) * y3)).bind fun x3 =>
      tq_let (if x3 = 0 then (1 : Int32) else (0 : Int32)) fun p4 =>
      tq_let ((y2 + p4)) fun x5 =>
      tq_let (y3 + (1 : Int32)) fun x6 =>
      some (.inl (x5, x6))
def f_X11_nodeOf (t : Nat) (a1 : Int32) (h : tq_H) : Option (Int32) :=
  (tq_gi h t 11 1).bind fun x1 =>
  (tq_loop (f_X11_nodeOf_b7 t a1 h) tq_N (x1, (0 : Int32))).bind fun o7 =>
  (tq_gr h t 11 16).bind fun k8 =>
  (tq_ai h k8 ((7 : Int32) * a1)).bind fun x9 =>
  (if x9 = 0 then
    some o7
  else
    (tq_gr h t 11 16).bind fun k10 =>
    (tq_ai h k10 (((7 : Int32) * a1) + (1 : Int32))).bind fun x11 =>
    some x11).bind fun p12 =>
  some p12
set_option maxHeartbeats 4000000 in
theorem l_X11_nodeOf_7 {l : Launch} {d : Nat} {Q : tq_R → tq_H → Prop} (hd9 : 0 ≤ d) (i0 : Nat) (i1 : Int32) (hh : tq_H) : ∀ (n : Nat) (y2 : Int32) (y3 : Int32) (o : Int32), tq_loop (f_X11_nodeOf_b7 i0 i1 hh) n (y2, y3) = some o → tq_W l mX11_nodeOf d 0 0 Q 38 [(0, .ref i0), (1, .int i1), (2, .int o)] [] hh → tq_W l mX11_nodeOf d 0 0 Q 7 [(0, .ref i0), (1, .int i1), (2, .int y2), (3, .int y3)] [] hh := by
  intro n
  induction n with
  | zero => intro y2 y3 o hl; cases hl
  | succ n ih =>
    intro y2 y3 o hl hk
    obtain ⟨oo, hf, ho⟩ := tq_loop_s hl
    refine tq_iload_n (M := mX11_nodeOf) (pc := 7) dX11_nodeOf_7 rfl ?_
    refine tq_iload_n (M := mX11_nodeOf) (pc := 8) dX11_nodeOf_8 rfl ?_
    refine tq_icmp_ge (M := mX11_nodeOf) (pc := 9) (tgt := 38) dX11_nodeOf_9 (by decide) (fun cc => ?_) (fun cc => ?_)
    · have hf := tq_ifp hf cc
      refine tq_pick (L2 := [(0, .ref i0), (1, .int i1), (2, .int y2)]) [0, 1, 2] rfl ?_
      cases (Option.some.inj hf)
      cases (tq_lx ho)
      exact hk
    · have hf := tq_ifn hf cc
      refine tq_iload_n (M := mX11_nodeOf) (pc := 12) dX11_nodeOf_12 rfl ?_
      refine tq_aload_n (M := mX11_nodeOf) (pc := 13) dX11_nodeOf_13 rfl ?_
      obtain ⟨k2, ek2, hf⟩ := tq_be hf
      refine tq_getR (M := mX11_nodeOf) (pc := 14) tk_c11 (by decide) dX11_nodeOf_14 tk_RX11_44 rfl ek2 ?_
      refine tq_bipush (M := mX11_nodeOf) (pc := 17) dX11_nodeOf_17 tk_kb_7 ?_
      refine tq_iload_n (M := mX11_nodeOf) (pc := 19) dX11_nodeOf_19 rfl ?_
      refine tq_imul (M := mX11_nodeOf) (pc := 20) dX11_nodeOf_20 ?_
      obtain ⟨x3, ex3, hf⟩ := tq_be hf
      refine tq_ialdF (M := mX11_nodeOf) (pc := 21) dX11_nodeOf_21 ex3 ?_
      obtain ⟨p4, ep4, hf⟩ := tq_le hf
      have HJ22 : tq_W l mX11_nodeOf d 0 0 Q 30 [(0, .ref i0), (1, .int i1), (3, .int y3)] [.int p4, .int y2] hh := by
        refine tq_iadd (M := mX11_nodeOf) (pc := 30) dX11_nodeOf_30 ?_
        obtain ⟨x5, ex5, hf⟩ := tq_le hf
        refine tq_istore_n (M := mX11_nodeOf) (pc := 31) rfl dX11_nodeOf_31 (L2 := [(2, .int x5), (0, .ref i0), (1, .int i1), (3, .int y3)]) (by decide) (by rw [ex5]; rfl) ?_
        obtain ⟨x6, ex6, hf⟩ := tq_le hf
        refine tq_iinc (M := mX11_nodeOf) (pc := 32) (v := x6) (L2 := [(3, .int x6), (2, .int x5), (0, .ref i0), (1, .int i1)]) dX11_nodeOf_32 rfl (by rw [ex6, tk_ki_1]) (by decide) rfl ?_
        refine tq_goto (M := mX11_nodeOf) (pc := 35) (tgt := 7) dX11_nodeOf_35 (by decide) ?_
        refine tq_pick (L2 := [(0, .ref i0), (1, .int i1), (2, .int x5), (3, .int x6)]) [2, 3, 1, 0] rfl ?_
        cases (Option.some.inj hf)
        exact ih _ _ o (tq_lc ho) hk
      refine tq_if_ne (M := mX11_nodeOf) (pc := 22) (tgt := 29) dX11_nodeOf_22 (by decide) (fun cc => ?_) (fun cc => ?_)
      · have hf := tq_ifn ep4.symm cc
        refine tq_iconst (M := mX11_nodeOf) (pc := 29) dX11_nodeOf_29 tk_ki_0 ?_
        refine tq_pick (L2 := [(0, .ref i0), (1, .int i1), (3, .int y3)]) [0, 1, 3] rfl ?_
        cases hf
        exact HJ22
      · have hf := tq_ifp ep4.symm cc
        refine tq_iconst (M := mX11_nodeOf) (pc := 25) dX11_nodeOf_25 tk_ki_1 ?_
        refine tq_goto (M := mX11_nodeOf) (pc := 26) (tgt := 30) dX11_nodeOf_26 (by decide) ?_
        refine tq_pick (L2 := [(0, .ref i0), (1, .int i1), (3, .int y3)]) [0, 1, 3] rfl ?_
        cases hf
        exact HJ22
set_option maxHeartbeats 4000000 in
set_option maxRecDepth 20000 in
theorem w_X11_nodeOf {l : Launch} {d : Nat} (hd9 : 0 ≤ d) {t : Nat} {a1 : Int32} {h : tq_H} {o : Int32} {Q : tq_R → tq_H → Prop} (hf : f_X11_nodeOf t a1 h = some o) (hQ : ∀ r h9, r = .inl (some (.int o)) ∧ h = h9 → Q r h9) : tq_C l yX11_nodeOf cX11_nodeOf 4 (some .int) d 0 0 [.ref t, .int a1] h Q := by
  refine tq_body (y := yX11_nodeOf) false (by decide +kernel) (fun z => by cases z) (Nat.le_of_ble_eq_true rfl) ?_
  show tq_W l mX11_nodeOf d 0 0 Q 0 [(0, .ref t), (1, .int a1)] [] h
  refine tq_aload_n (M := mX11_nodeOf) (pc := 0) dX11_nodeOf_0 rfl ?_
  obtain ⟨x1, ex1, hf⟩ := tq_be hf
  refine tq_getI (M := mX11_nodeOf) (pc := 1) tk_c11 (by decide) dX11_nodeOf_1 tk_RX11_159 rfl ex1 ?_
  refine tq_istore_n (M := mX11_nodeOf) (pc := 4) rfl dX11_nodeOf_4 (L2 := [(2, .int x1), (0, .ref t), (1, .int a1)]) (by decide) rfl ?_
  refine tq_iconst (M := mX11_nodeOf) (pc := 5) dX11_nodeOf_5 tk_ki_0 ?_
  refine tq_istore_n (M := mX11_nodeOf) (pc := 6) rfl dX11_nodeOf_6 (L2 := [(3, .int (0 : Int32)), (2, .int x1), (0, .ref t), (1, .int a1)]) (by decide) rfl ?_
  obtain ⟨o7, eo7, hf⟩ := tq_be hf
  refine tq_pick (L2 := [(0, .ref t), (1, .int a1), (2, .int x1), (3, .int (0 : Int32))]) [2, 3, 1, 0] rfl ?_
  refine l_X11_nodeOf_7 (by omega) t a1 h _ x1 (0 : Int32) _ eo7 ?_
  refine tq_aload_n (M := mX11_nodeOf) (pc := 38) dX11_nodeOf_38 rfl ?_
  obtain ⟨k8, ek8, hf⟩ := tq_be hf
  refine tq_getR (M := mX11_nodeOf) (pc := 39) tk_c11 (by decide) dX11_nodeOf_39 tk_RX11_44 rfl ek8 ?_
  refine tq_bipush (M := mX11_nodeOf) (pc := 42) dX11_nodeOf_42 tk_kb_7 ?_
  refine tq_iload_n (M := mX11_nodeOf) (pc := 44) dX11_nodeOf_44 rfl ?_
  refine tq_imul (M := mX11_nodeOf) (pc := 45) dX11_nodeOf_45 ?_
  obtain ⟨x9, ex9, hf⟩ := tq_be hf
  refine tq_ialdF (M := mX11_nodeOf) (pc := 46) dX11_nodeOf_46 ex9 ?_
  obtain ⟨p12, ep12, hf⟩ := tq_be hf
  have HJ47 : tq_W l mX11_nodeOf d 0 0 Q 65 [] [.int p12] h := by
    refine tq_iret (M := mX11_nodeOf) (pc := 65) dX11_nodeOf_65 rfl ?_
    cases (Option.some.inj hf)
    exact hQ _ _ ⟨rfl, rfl⟩
  refine tq_if_ne (M := mX11_nodeOf) (pc := 47) (tgt := 54) dX11_nodeOf_47 (by decide) (fun cc => ?_) (fun cc => ?_)
  · have hf := tq_ifn ep12 cc
    refine tq_aload_n (M := mX11_nodeOf) (pc := 54) dX11_nodeOf_54 rfl ?_
    obtain ⟨k10, ek10, hf⟩ := tq_be hf
    refine tq_getR (M := mX11_nodeOf) (pc := 55) tk_c11 (by decide) dX11_nodeOf_55 tk_RX11_44 rfl ek10 ?_
    refine tq_bipush (M := mX11_nodeOf) (pc := 58) dX11_nodeOf_58 tk_kb_7 ?_
    refine tq_iload_n (M := mX11_nodeOf) (pc := 60) dX11_nodeOf_60 rfl ?_
    refine tq_imul (M := mX11_nodeOf) (pc := 61) dX11_nodeOf_61 ?_
    refine tq_iconst (M := mX11_nodeOf) (pc := 62) dX11_nodeOf_62 tk_ki_1 ?_
    refine tq_iadd (M := mX11_nodeOf) (pc := 63) dX11_nodeOf_63 ?_
    obtain ⟨x11, ex11, hf⟩ := tq_be hf
    refine tq_ialdF (M := mX11_nodeOf) (pc := 64) dX11_nodeOf_64 ex11 ?_
    refine tq_pick (L2 := []) [] rfl ?_
    cases (Option.some.inj hf)
    exact HJ47
  · have hf := tq_ifp ep12 cc
    refine tq_iload_n (M := mX11_nodeOf) (pc := 50) dX11_nodeOf_50 rfl ?_
    refine tq_goto (M := mX11_nodeOf) (pc := 51) (tgt := 65) dX11_nodeOf_51 (by decide) ?_
    refine tq_pick (L2 := []) [] rfl ?_
    cases (Option.some.inj hf)
    exact HJ47
abbrev mX11_layChildren : tq_M := (RX11, cX11_layChildren, 8, none, false, [], none)
def f_X11_layChildren_b14 (i0 : Nat) (i1 : Int32) (i2 : Int32) (i4 : Int32) (s : Int32 × Int32 × tq_H) : Option ((Int32 × Int32 × tq_H) ⊕ (Int32 × tq_H)) := match s with
  | (y3, y5, hh) =>
    (tq_gi hh i0 11 15).bind fun x1 =>
    if y5 ≥ x1 then
      some (.inr (y3, hh))
    else
      (tq_gr hh i0 11 16).bind fun k2 =>
      (tq_ai hh k2 ((7 : Int32) * y5)).bind fun x3 =>
      (if x3 = (4 : Int32) then
        some (1 : Int32)
      else
        (tq_gr hh i0 11 16).bind fun k4 =>
        (tq_ai hh k4 ((7 : Int32) * y5)).bind fun x5 =>
        if x5 = 0 then
          (tq_gr hh i0 11 16).bind fun k6 =>
          (tq_ai hh k6 (((7 : Int32) * y5) + (4 : Int32))).bind fun x7 =>
          if x7 = (2 : Int32) then
            some (0 : Int32)
          else
            some (1 : Int32)
        else
          some (0 : Int32)).bind fun p8 =>
      (if p8 = 0 then
        some (y3, hh)
      else
        (tq_gr hh i0 11 16).bind fun k9 =>
        (tq_ai hh k9 (((7 : Int32) * y5) + (2 : Int32))).bind fun x10 =>
        if x10 = i1 then
          (tq_gr hh i0 11 16).bind fun k11 =>
          (tq_ai hh k11 (((7 : Int32) * y5) + (3 : Int32))).bind fun x12 =>
          if x12 = i4 then
            (tq_is hh i0 11).bind fun _ =>
            (f_X11_nodeOf i0 y5 hh).bind fun v13 =>
            (tq_gr hh i0 11 6).bind fun k15 =>
            (tq_si hh k15 v13 i1).bind fun w16 =>
            (tq_gr w16 i0 11 7).bind fun k17 =>
            (tq_si w16 k17 v13 y3).bind fun w18 =>
            tq_let (y3 + (1 : Int32)) fun x19 =>
            some (x19, w18)
          else
            some (y3, hh)
        else
          some (y3, hh)).bind fun p20 =>
      tq_let (y5 + (1 : Int32)) fun x21 =>
      some (.inl (p20.1, x21, p20.2))
def f_X11_layChildren_b147 (i0 : Nat) (i1 : Int32) (i2 : Int32) (i4 : Int32) (s : Int32 × Int32 × tq_H) : Option ((Int32 × Int32 × tq_H) ⊕ (Int32 × tq_H)) := match s with
  | (y3, y5, hh) =>
    (tq_gi hh i0 11 1).bind fun x23 =>
    if y5 ≥ x23 then
      some (.inr (y3, hh))
    else
      (tq_gr hh i0 11 22).bind fun k24 =>
      (tq_az hh k24 y5).bind fun x25 =>
      (if x25 = 0 then
        some (0 : Int32)
      else
        (tq_gr hh i0 11 20).bind fun k26 =>
        (tq_ai hh k26 y5).bind fun x27 =>
        if x27 = i1 then
          (tq_gr hh i0 11 21).bind fun k28 =>
          (tq_ai hh k28 y5).bind fun x29 =>
          if x29 = i4 then
            (tq_gr hh i0 11 2).bind fun k30 =>
            (tq_ai hh k30 y5).bind fun x31 =>
            if x31 = (2 : Int32) then
              some (0 : Int32)
            else
              some (1 : Int32)
          else
            some (0 : Int32)
        else
          some (0 : Int32)).bind fun p32 =>
      (if p32 = 0 then
        some (y3, hh)
      else
        (tq_is hh i0 11).bind fun _ =>
        (f_X11_isListed i0 y5 (1 : Int32) hh).bind fun v33 =>
        if v33 = 0 then
          (tq_is hh i0 11).bind fun _ =>
          (f_X11_isListed i0 y5 (4 : Int32) hh).bind fun v35 =>
          if v35 = 0 then
            (tq_gr hh i0 11 7).bind fun k37 =>
            (tq_si hh k37 y5 y3).bind fun w38 =>
            tq_let (y3 + (1 : Int32)) fun x39 =>
            some (x39, w38)
          else
            some (y3, hh)
        else
          some (y3, hh)).bind fun p40 =>
      tq_let (y5 + (1 : Int32)) fun x41 =>
      some (.inl (p40.1, x41, p40.2))
def f_X11_layChildren_b5 (i0 : Nat) (i1 : Int32) (i2 : Int32) (s : Int32 × Int32 × tq_H) : Option ((Int32 × Int32 × tq_H) ⊕ (tq_H)) := match s with
  | (y3, y4, hh) =>
    if y4 > i2 then
      some (.inr hh)
    else
      (tq_loop (f_X11_layChildren_b14 i0 i1 i2 y4) tq_N (y3, (0 : Int32), hh)).bind fun o22 =>
      (tq_loop (f_X11_layChildren_b147 i0 i1 i2 y4) tq_N (o22.1, (0 : Int32), o22.2)).bind fun o42 =>
      tq_let (y4 + (1 : Int32)) fun x43 =>
      some (.inl (o42.1, x43, o42.2))
def f_X11_layChildren (t : Nat) (a1 : Int32) (a2 : Int32) (h : tq_H) : Option (tq_H) :=
  (tq_loop (f_X11_layChildren_b5 t a1 a2) tq_N ((0 : Int32), (0 : Int32), h)).bind fun o44 =>
  some o44
set_option maxHeartbeats 4000000 in
theorem l_X11_layChildren_14 {l : Launch} {d : Nat} {Q : tq_R → tq_H → Prop} (hd9 : 1 ≤ d) (i0 : Nat) (i1 : Int32) (i2 : Int32) (i4 : Int32) : ∀ (n : Nat) (y3 : Int32) (y5 : Int32) (hh : tq_H) (o : Int32 × tq_H), tq_loop (f_X11_layChildren_b14 i0 i1 i2 i4) n (y3, y5, hh) = some o → tq_W l mX11_layChildren d 0 0 Q 144 [(0, .ref i0), (1, .int i1), (2, .int i2), (3, .int o.1), (4, .int i4)] [] o.2 → tq_W l mX11_layChildren d 0 0 Q 14 [(0, .ref i0), (1, .int i1), (2, .int i2), (3, .int y3), (4, .int i4), (5, .int y5)] [] hh := by
  intro n
  induction n with
  | zero => intro y3 y5 hh o hl; cases hl
  | succ n ih =>
    intro y3 y5 hh o hl hk
    obtain ⟨oo, hf, ho⟩ := tq_loop_s hl
    refine tq_iload (M := mX11_layChildren) (pc := 14) dX11_layChildren_14 rfl ?_
    refine tq_aload_n (M := mX11_layChildren) (pc := 16) dX11_layChildren_16 rfl ?_
    obtain ⟨x1, ex1, hf⟩ := tq_be hf
    refine tq_getI (M := mX11_layChildren) (pc := 17) tk_c11 (by decide) dX11_layChildren_17 tk_RX11_191 rfl ex1 ?_
    refine tq_icmp_ge (M := mX11_layChildren) (pc := 20) (tgt := 144) dX11_layChildren_20 (by decide) (fun cc => ?_) (fun cc => ?_)
    · have hf := tq_ifp hf cc
      refine tq_pick (L2 := [(0, .ref i0), (1, .int i1), (2, .int i2), (3, .int y3), (4, .int i4)]) [0, 1, 2, 3, 4] rfl ?_
      cases (Option.some.inj hf)
      cases (tq_lx ho)
      exact hk
    · have hf := tq_ifn hf cc
      refine tq_aload_n (M := mX11_layChildren) (pc := 23) dX11_layChildren_23 rfl ?_
      obtain ⟨k2, ek2, hf⟩ := tq_be hf
      refine tq_getR (M := mX11_layChildren) (pc := 24) tk_c11 (by decide) dX11_layChildren_24 tk_RX11_44 rfl ek2 ?_
      refine tq_bipush (M := mX11_layChildren) (pc := 27) dX11_layChildren_27 tk_kb_7 ?_
      refine tq_iload (M := mX11_layChildren) (pc := 29) dX11_layChildren_29 rfl ?_
      refine tq_imul (M := mX11_layChildren) (pc := 31) dX11_layChildren_31 ?_
      obtain ⟨x3, ex3, hf⟩ := tq_be hf
      refine tq_ialdF (M := mX11_layChildren) (pc := 32) dX11_layChildren_32 ex3 ?_
      refine tq_iconst (M := mX11_layChildren) (pc := 33) dX11_layChildren_33 tk_ki_4 ?_
      obtain ⟨p8, ep8, hf⟩ := tq_be hf
      have HJ34 : tq_W l mX11_layChildren d 0 0 Q 71 [(0, .ref i0), (1, .int i1), (2, .int i2), (3, .int y3), (4, .int i4), (5, .int y5)] [.int p8] hh := by
        refine tq_istore (M := mX11_layChildren) (pc := 71) dX11_layChildren_71 (L2 := [(6, .int p8), (0, .ref i0), (1, .int i1), (2, .int i2), (3, .int y3), (4, .int i4), (5, .int y5)]) (by decide) rfl ?_
        refine tq_iload (M := mX11_layChildren) (pc := 73) dX11_layChildren_73 rfl ?_
        obtain ⟨p20, ep20, hf⟩ := tq_be hf
        have HJ75 : tq_W l mX11_layChildren d 0 0 Q 138 [(0, .ref i0), (1, .int i1), (2, .int i2), (3, .int p20.1), (4, .int i4), (5, .int y5)] [] p20.2 := by
          obtain ⟨x21, ex21, hf⟩ := tq_le hf
          refine tq_iinc (M := mX11_layChildren) (pc := 138) (v := x21) (L2 := [(5, .int x21), (0, .ref i0), (1, .int i1), (2, .int i2), (3, .int p20.1), (4, .int i4)]) dX11_layChildren_138 rfl (by rw [ex21, tk_ki_1]) (by decide) rfl ?_
          refine tq_goto (M := mX11_layChildren) (pc := 141) (tgt := 14) dX11_layChildren_141 (by decide) ?_
          refine tq_pick (L2 := [(0, .ref i0), (1, .int i1), (2, .int i2), (3, .int p20.1), (4, .int i4), (5, .int x21)]) [1, 2, 3, 4, 5, 0] rfl ?_
          cases (Option.some.inj hf)
          exact ih _ _ _ o (tq_lc ho) hk
        refine tq_if_eq (M := mX11_layChildren) (pc := 75) (tgt := 138) dX11_layChildren_75 (by decide) (fun cc => ?_) (fun cc => ?_)
        · have hf := tq_ifp ep20 cc
          refine tq_pick (L2 := [(0, .ref i0), (1, .int i1), (2, .int i2), (3, .int y3), (4, .int i4), (5, .int y5)]) [1, 2, 3, 4, 5, 6] rfl ?_
          cases (Option.some.inj hf)
          exact HJ75
        · have hf := tq_ifn ep20 cc
          refine tq_aload_n (M := mX11_layChildren) (pc := 78) dX11_layChildren_78 rfl ?_
          obtain ⟨k9, ek9, hf⟩ := tq_be hf
          refine tq_getR (M := mX11_layChildren) (pc := 79) tk_c11 (by decide) dX11_layChildren_79 tk_RX11_44 rfl ek9 ?_
          refine tq_bipush (M := mX11_layChildren) (pc := 82) dX11_layChildren_82 tk_kb_7 ?_
          refine tq_iload (M := mX11_layChildren) (pc := 84) dX11_layChildren_84 rfl ?_
          refine tq_imul (M := mX11_layChildren) (pc := 86) dX11_layChildren_86 ?_
          refine tq_iconst (M := mX11_layChildren) (pc := 87) dX11_layChildren_87 tk_ki_2 ?_
          refine tq_iadd (M := mX11_layChildren) (pc := 88) dX11_layChildren_88 ?_
          obtain ⟨x10, ex10, hf⟩ := tq_be hf
          refine tq_ialdF (M := mX11_layChildren) (pc := 89) dX11_layChildren_89 ex10 ?_
          refine tq_iload_n (M := mX11_layChildren) (pc := 90) dX11_layChildren_90 rfl ?_
          refine tq_icmp_ne (M := mX11_layChildren) (pc := 91) (tgt := 138) dX11_layChildren_91 (by decide) (fun cc => ?_) (fun cc => ?_)
          · have hf := tq_ifn hf cc
            refine tq_pick (L2 := [(0, .ref i0), (1, .int i1), (2, .int i2), (3, .int y3), (4, .int i4), (5, .int y5)]) [1, 2, 3, 4, 5, 6] rfl ?_
            cases (Option.some.inj hf)
            exact HJ75
          · have hf := tq_ifp hf cc
            refine tq_aload_n (M := mX11_layChildren) (pc := 94) dX11_layChildren_94 rfl ?_
            obtain ⟨k11, ek11, hf⟩ := tq_be hf
            refine tq_getR (M := mX11_layChildren) (pc := 95) tk_c11 (by decide) dX11_layChildren_95 tk_RX11_44 rfl ek11 ?_
            refine tq_bipush (M := mX11_layChildren) (pc := 98) dX11_layChildren_98 tk_kb_7 ?_
            refine tq_iload (M := mX11_layChildren) (pc := 100) dX11_layChildren_100 rfl ?_
            refine tq_imul (M := mX11_layChildren) (pc := 102) dX11_layChildren_102 ?_
            refine tq_iconst (M := mX11_layChildren) (pc := 103) dX11_layChildren_103 tk_ki_3 ?_
            refine tq_iadd (M := mX11_layChildren) (pc := 104) dX11_layChildren_104 ?_
            obtain ⟨x12, ex12, hf⟩ := tq_be hf
            refine tq_ialdF (M := mX11_layChildren) (pc := 105) dX11_layChildren_105 ex12 ?_
            refine tq_iload (M := mX11_layChildren) (pc := 106) dX11_layChildren_106 rfl ?_
            refine tq_icmp_ne (M := mX11_layChildren) (pc := 108) (tgt := 138) dX11_layChildren_108 (by decide) (fun cc => ?_) (fun cc => ?_)
            · have hf := tq_ifn hf cc
              refine tq_pick (L2 := [(0, .ref i0), (1, .int i1), (2, .int i2), (3, .int y3), (4, .int i4), (5, .int y5)]) [1, 2, 3, 4, 5, 6] rfl ?_
              cases (Option.some.inj hf)
              exact HJ75
            · have hf := tq_ifp hf cc
              refine tq_aload_n (M := mX11_layChildren) (pc := 111) dX11_layChildren_111 rfl ?_
              refine tq_iload (M := mX11_layChildren) (pc := 112) dX11_layChildren_112 rfl ?_
              obtain ⟨⟨⟩, eu14, hf⟩ := tq_be hf
              obtain ⟨fsu14, eu14⟩ := tq_is_s eu14
              obtain ⟨v13, ev13, hf⟩ := tq_be hf
              refine tq_calV (M := mX11_layChildren) (pc := 114) (S := []) tk_y_X11_nodeOf tk_v_X11_nodeOf tk_RX11_211 dX11_layChildren_114 [.int y5] rfl (S0 := _) rfl eu14 rfl (Nat.le_of_ble_eq_true rfl) (d1 := d - 1) (b1 := 0) (s1 := 0) (bc' := 0) (bs' := 0) (Q1 := fun r h9 => r = .inl (some (.int v13)) ∧ hh = h9) (by omega) rfl rfl (w_X11_nodeOf (by omega) ev13 (fun _ _ q => q)) (fun E h9 q => nomatch (show (Sum.inr E : tq_R) = Sum.inl _ from q.1)) (fun r9 h9 q => ?_)
              obtain ⟨q1, rfl⟩ := q
              cases (show (Sum.inl r9 : tq_R) = Sum.inl (some (.int v13)) from q1)
              refine tq_istore (M := mX11_layChildren) (pc := 117) dX11_layChildren_117 (L2 := [(7, .int v13), (6, .int p8), (0, .ref i0), (1, .int i1), (2, .int i2), (3, .int y3), (4, .int i4), (5, .int y5)]) (by decide) rfl ?_
              refine tq_aload_n (M := mX11_layChildren) (pc := 119) dX11_layChildren_119 rfl ?_
              obtain ⟨k15, ek15, hf⟩ := tq_be hf
              refine tq_getR (M := mX11_layChildren) (pc := 120) tk_c11 (by decide) dX11_layChildren_120 tk_RX11_22 rfl ek15 ?_
              refine tq_iload (M := mX11_layChildren) (pc := 123) dX11_layChildren_123 rfl ?_
              refine tq_iload_n (M := mX11_layChildren) (pc := 125) dX11_layChildren_125 rfl ?_
              obtain ⟨w16, ew16, hf⟩ := tq_be hf
              refine tq_iastF (M := mX11_layChildren) (pc := 126) dX11_layChildren_126 ew16 ?_
              refine tq_aload_n (M := mX11_layChildren) (pc := 127) dX11_layChildren_127 rfl ?_
              obtain ⟨k17, ek17, hf⟩ := tq_be hf
              refine tq_getR (M := mX11_layChildren) (pc := 128) tk_c11 (by decide) dX11_layChildren_128 tk_RX11_25 rfl ek17 ?_
              refine tq_iload (M := mX11_layChildren) (pc := 131) dX11_layChildren_131 rfl ?_
              refine tq_iload_n (M := mX11_layChildren) (pc := 133) dX11_layChildren_133 rfl ?_
              obtain ⟨w18, ew18, hf⟩ := tq_be hf
              refine tq_iastF (M := mX11_layChildren) (pc := 134) dX11_layChildren_134 ew18 ?_
              obtain ⟨x19, ex19, hf⟩ := tq_le hf
              refine tq_iinc (M := mX11_layChildren) (pc := 135) (v := x19) (L2 := [(3, .int x19), (7, .int v13), (6, .int p8), (0, .ref i0), (1, .int i1), (2, .int i2), (4, .int i4), (5, .int y5)]) dX11_layChildren_135 rfl (by rw [ex19, tk_ki_1]) (by decide) rfl ?_
              refine tq_pick (L2 := [(0, .ref i0), (1, .int i1), (2, .int i2), (3, .int x19), (4, .int i4), (5, .int y5)]) [3, 4, 5, 0, 6, 7] rfl ?_
              cases (Option.some.inj hf)
              exact HJ75
      refine tq_icmp_eq (M := mX11_layChildren) (pc := 34) (tgt := 66) dX11_layChildren_34 (by decide) (fun cc => ?_) (fun cc => ?_)
      · have hf := tq_ifp ep8 cc
        refine tq_iconst (M := mX11_layChildren) (pc := 66) dX11_layChildren_66 tk_ki_1 ?_
        refine tq_goto (M := mX11_layChildren) (pc := 67) (tgt := 71) dX11_layChildren_67 (by decide) ?_
        cases (Option.some.inj hf)
        exact HJ34
      · have hf := tq_ifn ep8 cc
        refine tq_aload_n (M := mX11_layChildren) (pc := 37) dX11_layChildren_37 rfl ?_
        obtain ⟨k4, ek4, hf⟩ := tq_be hf
        refine tq_getR (M := mX11_layChildren) (pc := 38) tk_c11 (by decide) dX11_layChildren_38 tk_RX11_44 rfl ek4 ?_
        refine tq_bipush (M := mX11_layChildren) (pc := 41) dX11_layChildren_41 tk_kb_7 ?_
        refine tq_iload (M := mX11_layChildren) (pc := 43) dX11_layChildren_43 rfl ?_
        refine tq_imul (M := mX11_layChildren) (pc := 45) dX11_layChildren_45 ?_
        obtain ⟨x5, ex5, hf⟩ := tq_be hf
        refine tq_ialdF (M := mX11_layChildren) (pc := 46) dX11_layChildren_46 ex5 ?_
        refine tq_if_ne (M := mX11_layChildren) (pc := 47) (tgt := 70) dX11_layChildren_47 (by decide) (fun cc => ?_) (fun cc => ?_)
        · have hf := tq_ifn hf cc
          refine tq_iconst (M := mX11_layChildren) (pc := 70) dX11_layChildren_70 tk_ki_0 ?_
          cases (Option.some.inj hf)
          exact HJ34
        · have hf := tq_ifp hf cc
          refine tq_aload_n (M := mX11_layChildren) (pc := 50) dX11_layChildren_50 rfl ?_
          obtain ⟨k6, ek6, hf⟩ := tq_be hf
          refine tq_getR (M := mX11_layChildren) (pc := 51) tk_c11 (by decide) dX11_layChildren_51 tk_RX11_44 rfl ek6 ?_
          refine tq_bipush (M := mX11_layChildren) (pc := 54) dX11_layChildren_54 tk_kb_7 ?_
          refine tq_iload (M := mX11_layChildren) (pc := 56) dX11_layChildren_56 rfl ?_
          refine tq_imul (M := mX11_layChildren) (pc := 58) dX11_layChildren_58 ?_
          refine tq_iconst (M := mX11_layChildren) (pc := 59) dX11_layChildren_59 tk_ki_4 ?_
          refine tq_iadd (M := mX11_layChildren) (pc := 60) dX11_layChildren_60 ?_
          obtain ⟨x7, ex7, hf⟩ := tq_be hf
          refine tq_ialdF (M := mX11_layChildren) (pc := 61) dX11_layChildren_61 ex7 ?_
          refine tq_iconst (M := mX11_layChildren) (pc := 62) dX11_layChildren_62 tk_ki_2 ?_
          refine tq_icmp_eq (M := mX11_layChildren) (pc := 63) (tgt := 70) dX11_layChildren_63 (by decide) (fun cc => ?_) (fun cc => ?_)
          · have hf := tq_ifp hf cc
            refine tq_iconst (M := mX11_layChildren) (pc := 70) dX11_layChildren_70 tk_ki_0 ?_
            cases (Option.some.inj hf)
            exact HJ34
          · have hf := tq_ifn hf cc
            refine tq_iconst (M := mX11_layChildren) (pc := 66) dX11_layChildren_66 tk_ki_1 ?_
            refine tq_goto (M := mX11_layChildren) (pc := 67) (tgt := 71) dX11_layChildren_67 (by decide) ?_
            cases (Option.some.inj hf)
            exact HJ34
set_option maxHeartbeats 4000000 in
theorem l_X11_layChildren_147 {l : Launch} {d : Nat} {Q : tq_R → tq_H → Prop} (hd9 : 1 ≤ d) (i0 : Nat) (i1 : Int32) (i2 : Int32) (i4 : Int32) : ∀ (n : Nat) (y3 : Int32) (y5 : Int32) (hh : tq_H) (o : Int32 × tq_H), tq_loop (f_X11_layChildren_b147 i0 i1 i2 i4) n (y3, y5, hh) = some o → tq_W l mX11_layChildren d 0 0 Q 249 [(0, .ref i0), (1, .int i1), (2, .int i2), (3, .int o.1), (4, .int i4)] [] o.2 → tq_W l mX11_layChildren d 0 0 Q 147 [(0, .ref i0), (1, .int i1), (2, .int i2), (3, .int y3), (4, .int i4), (5, .int y5)] [] hh := by
  intro n
  induction n with
  | zero => intro y3 y5 hh o hl; cases hl
  | succ n ih =>
    intro y3 y5 hh o hl hk
    obtain ⟨oo, hf, ho⟩ := tq_loop_s hl
    refine tq_iload (M := mX11_layChildren) (pc := 147) dX11_layChildren_147 rfl ?_
    refine tq_aload_n (M := mX11_layChildren) (pc := 149) dX11_layChildren_149 rfl ?_
    obtain ⟨x23, ex23, hf⟩ := tq_be hf
    refine tq_getI (M := mX11_layChildren) (pc := 150) tk_c11 (by decide) dX11_layChildren_150 tk_RX11_159 rfl ex23 ?_
    refine tq_icmp_ge (M := mX11_layChildren) (pc := 153) (tgt := 249) dX11_layChildren_153 (by decide) (fun cc => ?_) (fun cc => ?_)
    · have hf := tq_ifp hf cc
      refine tq_pick (L2 := [(0, .ref i0), (1, .int i1), (2, .int i2), (3, .int y3), (4, .int i4)]) [0, 1, 2, 3, 4] rfl ?_
      cases (Option.some.inj hf)
      cases (tq_lx ho)
      exact hk
    · have hf := tq_ifn hf cc
      refine tq_aload_n (M := mX11_layChildren) (pc := 156) dX11_layChildren_156 rfl ?_
      obtain ⟨k24, ek24, hf⟩ := tq_be hf
      refine tq_getR (M := mX11_layChildren) (pc := 157) tk_c11 (by decide) dX11_layChildren_157 tk_RX11_62 rfl ek24 ?_
      refine tq_iload (M := mX11_layChildren) (pc := 160) dX11_layChildren_160 rfl ?_
      obtain ⟨x25, ex25, hf⟩ := tq_be hf
      refine tq_zaldF (M := mX11_layChildren) (pc := 162) dX11_layChildren_162 ex25 ?_
      obtain ⟨p32, ep32, hf⟩ := tq_be hf
      have HJ163 : tq_W l mX11_layChildren d 0 0 Q 205 [(0, .ref i0), (1, .int i1), (2, .int i2), (3, .int y3), (4, .int i4), (5, .int y5)] [.int p32] hh := by
        refine tq_istore (M := mX11_layChildren) (pc := 205) dX11_layChildren_205 (L2 := [(6, .int p32), (0, .ref i0), (1, .int i1), (2, .int i2), (3, .int y3), (4, .int i4), (5, .int y5)]) (by decide) rfl ?_
        refine tq_iload (M := mX11_layChildren) (pc := 207) dX11_layChildren_207 rfl ?_
        obtain ⟨p40, ep40, hf⟩ := tq_be hf
        have HJ209 : tq_W l mX11_layChildren d 0 0 Q 243 [(0, .ref i0), (1, .int i1), (2, .int i2), (3, .int p40.1), (4, .int i4), (5, .int y5)] [] p40.2 := by
          obtain ⟨x41, ex41, hf⟩ := tq_le hf
          refine tq_iinc (M := mX11_layChildren) (pc := 243) (v := x41) (L2 := [(5, .int x41), (0, .ref i0), (1, .int i1), (2, .int i2), (3, .int p40.1), (4, .int i4)]) dX11_layChildren_243 rfl (by rw [ex41, tk_ki_1]) (by decide) rfl ?_
          refine tq_goto (M := mX11_layChildren) (pc := 246) (tgt := 147) dX11_layChildren_246 (by decide) ?_
          refine tq_pick (L2 := [(0, .ref i0), (1, .int i1), (2, .int i2), (3, .int p40.1), (4, .int i4), (5, .int x41)]) [1, 2, 3, 4, 5, 0] rfl ?_
          cases (Option.some.inj hf)
          exact ih _ _ _ o (tq_lc ho) hk
        refine tq_if_eq (M := mX11_layChildren) (pc := 209) (tgt := 243) dX11_layChildren_209 (by decide) (fun cc => ?_) (fun cc => ?_)
        · have hf := tq_ifp ep40 cc
          refine tq_pick (L2 := [(0, .ref i0), (1, .int i1), (2, .int i2), (3, .int y3), (4, .int i4), (5, .int y5)]) [1, 2, 3, 4, 5, 6] rfl ?_
          cases (Option.some.inj hf)
          exact HJ209
        · have hf := tq_ifn ep40 cc
          refine tq_aload_n (M := mX11_layChildren) (pc := 212) dX11_layChildren_212 rfl ?_
          refine tq_iload (M := mX11_layChildren) (pc := 213) dX11_layChildren_213 rfl ?_
          refine tq_iconst (M := mX11_layChildren) (pc := 215) dX11_layChildren_215 tk_ki_1 ?_
          obtain ⟨⟨⟩, eu34, hf⟩ := tq_be hf
          obtain ⟨fsu34, eu34⟩ := tq_is_s eu34
          obtain ⟨v33, ev33, hf⟩ := tq_be hf
          refine tq_calV (M := mX11_layChildren) (pc := 216) (S := []) tk_y_X11_isListed tk_v_X11_isListed tk_RX11_214 dX11_layChildren_216 [.int y5, .int (1 : Int32)] rfl (S0 := _) rfl eu34 rfl (Nat.le_of_ble_eq_true rfl) (d1 := d - 1) (b1 := 0) (s1 := 0) (bc' := 0) (bs' := 0) (Q1 := fun r h9 => r = .inl (some (.int v33)) ∧ hh = h9) (by omega) rfl rfl (w_X11_isListed (by omega) ev33 (fun _ _ q => q)) (fun E h9 q => nomatch (show (Sum.inr E : tq_R) = Sum.inl _ from q.1)) (fun r9 h9 q => ?_)
          obtain ⟨q1, rfl⟩ := q
          cases (show (Sum.inl r9 : tq_R) = Sum.inl (some (.int v33)) from q1)
          refine tq_if_ne (M := mX11_layChildren) (pc := 219) (tgt := 243) dX11_layChildren_219 (by decide) (fun cc => ?_) (fun cc => ?_)
          · have hf := tq_ifn hf cc
            refine tq_pick (L2 := [(0, .ref i0), (1, .int i1), (2, .int i2), (3, .int y3), (4, .int i4), (5, .int y5)]) [1, 2, 3, 4, 5, 6] rfl ?_
            cases (Option.some.inj hf)
            exact HJ209
          · have hf := tq_ifp hf cc
            refine tq_aload_n (M := mX11_layChildren) (pc := 222) dX11_layChildren_222 rfl ?_
            refine tq_iload (M := mX11_layChildren) (pc := 223) dX11_layChildren_223 rfl ?_
            refine tq_iconst (M := mX11_layChildren) (pc := 225) dX11_layChildren_225 tk_ki_4 ?_
            obtain ⟨⟨⟩, eu36, hf⟩ := tq_be hf
            obtain ⟨fsu36, eu36⟩ := tq_is_s eu36
            obtain ⟨v35, ev35, hf⟩ := tq_be hf
            refine tq_calV (M := mX11_layChildren) (pc := 226) (S := []) tk_y_X11_isListed tk_v_X11_isListed tk_RX11_214 dX11_layChildren_226 [.int y5, .int (4 : Int32)] rfl (S0 := _) rfl eu36 rfl (Nat.le_of_ble_eq_true rfl) (d1 := d - 1) (b1 := 0) (s1 := 0) (bc' := 0) (bs' := 0) (Q1 := fun r h9 => r = .inl (some (.int v35)) ∧ hh = h9) (by omega) rfl rfl (w_X11_isListed (by omega) ev35 (fun _ _ q => q)) (fun E h9 q => nomatch (show (Sum.inr E : tq_R) = Sum.inl _ from q.1)) (fun r9 h9 q => ?_)
            obtain ⟨q1, rfl⟩ := q
            cases (show (Sum.inl r9 : tq_R) = Sum.inl (some (.int v35)) from q1)
            refine tq_if_ne (M := mX11_layChildren) (pc := 229) (tgt := 243) dX11_layChildren_229 (by decide) (fun cc => ?_) (fun cc => ?_)
            · have hf := tq_ifn hf cc
              refine tq_pick (L2 := [(0, .ref i0), (1, .int i1), (2, .int i2), (3, .int y3), (4, .int i4), (5, .int y5)]) [1, 2, 3, 4, 5, 6] rfl ?_
              cases (Option.some.inj hf)
              exact HJ209
            · have hf := tq_ifp hf cc
              refine tq_aload_n (M := mX11_layChildren) (pc := 232) dX11_layChildren_232 rfl ?_
              obtain ⟨k37, ek37, hf⟩ := tq_be hf
              refine tq_getR (M := mX11_layChildren) (pc := 233) tk_c11 (by decide) dX11_layChildren_233 tk_RX11_25 rfl ek37 ?_
              refine tq_iload (M := mX11_layChildren) (pc := 236) dX11_layChildren_236 rfl ?_
              refine tq_iload_n (M := mX11_layChildren) (pc := 238) dX11_layChildren_238 rfl ?_
              obtain ⟨w38, ew38, hf⟩ := tq_be hf
              refine tq_iastF (M := mX11_layChildren) (pc := 239) dX11_layChildren_239 ew38 ?_
              obtain ⟨x39, ex39, hf⟩ := tq_le hf
              refine tq_iinc (M := mX11_layChildren) (pc := 240) (v := x39) (L2 := [(3, .int x39), (6, .int p32), (0, .ref i0), (1, .int i1), (2, .int i2), (4, .int i4), (5, .int y5)]) dX11_layChildren_240 rfl (by rw [ex39, tk_ki_1]) (by decide) rfl ?_
              refine tq_pick (L2 := [(0, .ref i0), (1, .int i1), (2, .int i2), (3, .int x39), (4, .int i4), (5, .int y5)]) [2, 3, 4, 0, 5, 6] rfl ?_
              cases (Option.some.inj hf)
              exact HJ209
      refine tq_if_eq (M := mX11_layChildren) (pc := 163) (tgt := 204) dX11_layChildren_163 (by decide) (fun cc => ?_) (fun cc => ?_)
      · have hf := tq_ifp ep32 cc
        refine tq_iconst (M := mX11_layChildren) (pc := 204) dX11_layChildren_204 tk_ki_0 ?_
        cases (Option.some.inj hf)
        exact HJ163
      · have hf := tq_ifn ep32 cc
        refine tq_aload_n (M := mX11_layChildren) (pc := 166) dX11_layChildren_166 rfl ?_
        obtain ⟨k26, ek26, hf⟩ := tq_be hf
        refine tq_getR (M := mX11_layChildren) (pc := 167) tk_c11 (by decide) dX11_layChildren_167 tk_RX11_56 rfl ek26 ?_
        refine tq_iload (M := mX11_layChildren) (pc := 170) dX11_layChildren_170 rfl ?_
        obtain ⟨x27, ex27, hf⟩ := tq_be hf
        refine tq_ialdF (M := mX11_layChildren) (pc := 172) dX11_layChildren_172 ex27 ?_
        refine tq_iload_n (M := mX11_layChildren) (pc := 173) dX11_layChildren_173 rfl ?_
        refine tq_icmp_ne (M := mX11_layChildren) (pc := 174) (tgt := 204) dX11_layChildren_174 (by decide) (fun cc => ?_) (fun cc => ?_)
        · have hf := tq_ifn hf cc
          refine tq_iconst (M := mX11_layChildren) (pc := 204) dX11_layChildren_204 tk_ki_0 ?_
          cases (Option.some.inj hf)
          exact HJ163
        · have hf := tq_ifp hf cc
          refine tq_aload_n (M := mX11_layChildren) (pc := 177) dX11_layChildren_177 rfl ?_
          obtain ⟨k28, ek28, hf⟩ := tq_be hf
          refine tq_getR (M := mX11_layChildren) (pc := 178) tk_c11 (by decide) dX11_layChildren_178 tk_RX11_59 rfl ek28 ?_
          refine tq_iload (M := mX11_layChildren) (pc := 181) dX11_layChildren_181 rfl ?_
          obtain ⟨x29, ex29, hf⟩ := tq_be hf
          refine tq_ialdF (M := mX11_layChildren) (pc := 183) dX11_layChildren_183 ex29 ?_
          refine tq_iload (M := mX11_layChildren) (pc := 184) dX11_layChildren_184 rfl ?_
          refine tq_icmp_ne (M := mX11_layChildren) (pc := 186) (tgt := 204) dX11_layChildren_186 (by decide) (fun cc => ?_) (fun cc => ?_)
          · have hf := tq_ifn hf cc
            refine tq_iconst (M := mX11_layChildren) (pc := 204) dX11_layChildren_204 tk_ki_0 ?_
            cases (Option.some.inj hf)
            exact HJ163
          · have hf := tq_ifp hf cc
            refine tq_aload_n (M := mX11_layChildren) (pc := 189) dX11_layChildren_189 rfl ?_
            obtain ⟨k30, ek30, hf⟩ := tq_be hf
            refine tq_getR (M := mX11_layChildren) (pc := 190) tk_c11 (by decide) dX11_layChildren_190 tk_RX11_7 rfl ek30 ?_
            refine tq_iload (M := mX11_layChildren) (pc := 193) dX11_layChildren_193 rfl ?_
            obtain ⟨x31, ex31, hf⟩ := tq_be hf
            refine tq_ialdF (M := mX11_layChildren) (pc := 195) dX11_layChildren_195 ex31 ?_
            refine tq_iconst (M := mX11_layChildren) (pc := 196) dX11_layChildren_196 tk_ki_2 ?_
            refine tq_icmp_eq (M := mX11_layChildren) (pc := 197) (tgt := 204) dX11_layChildren_197 (by decide) (fun cc => ?_) (fun cc => ?_)
            · have hf := tq_ifp hf cc
              refine tq_iconst (M := mX11_layChildren) (pc := 204) dX11_layChildren_204 tk_ki_0 ?_
              cases (Option.some.inj hf)
              exact HJ163
            · have hf := tq_ifn hf cc
              refine tq_iconst (M := mX11_layChildren) (pc := 200) dX11_layChildren_200 tk_ki_1 ?_
              refine tq_goto (M := mX11_layChildren) (pc := 201) (tgt := 205) dX11_layChildren_201 (by decide) ?_
              cases (Option.some.inj hf)
              exact HJ163
set_option maxHeartbeats 4000000 in
theorem l_X11_layChildren_5 {l : Launch} {d : Nat} {Q : tq_R → tq_H → Prop} (hd9 : 1 ≤ d) (i0 : Nat) (i1 : Int32) (i2 : Int32) : ∀ (n : Nat) (y3 : Int32) (y4 : Int32) (hh : tq_H) (o : tq_H), tq_loop (f_X11_layChildren_b5 i0 i1 i2) n (y3, y4, hh) = some o → tq_W l mX11_layChildren d 0 0 Q 255 [] [] o → tq_W l mX11_layChildren d 0 0 Q 5 [(0, .ref i0), (1, .int i1), (2, .int i2), (3, .int y3), (4, .int y4)] [] hh := by
  intro n
  induction n with
  | zero => intro y3 y4 hh o hl; cases hl
  | succ n ih =>
    intro y3 y4 hh o hl hk
    obtain ⟨oo, hf, ho⟩ := tq_loop_s hl
    refine tq_iload (M := mX11_layChildren) (pc := 5) dX11_layChildren_5 rfl ?_
    refine tq_iload_n (M := mX11_layChildren) (pc := 7) dX11_layChildren_7 rfl ?_
    refine tq_icmp_gt (M := mX11_layChildren) (pc := 8) (tgt := 255) dX11_layChildren_8 (by decide) (fun cc => ?_) (fun cc => ?_)
    · have hf := tq_ifp hf cc
      refine tq_pick (L2 := []) [] rfl ?_
      cases (Option.some.inj hf)
      cases (tq_lx ho)
      exact hk
    · have hf := tq_ifn hf cc
      refine tq_iconst (M := mX11_layChildren) (pc := 11) dX11_layChildren_11 tk_ki_0 ?_
      refine tq_istore (M := mX11_layChildren) (pc := 12) dX11_layChildren_12 (L2 := [(5, .int (0 : Int32)), (0, .ref i0), (1, .int i1), (2, .int i2), (3, .int y3), (4, .int y4)]) (by decide) rfl ?_
      obtain ⟨o22, eo22, hf⟩ := tq_be hf
      refine tq_pick (L2 := [(0, .ref i0), (1, .int i1), (2, .int i2), (3, .int y3), (4, .int y4), (5, .int (0 : Int32))]) [1, 2, 3, 4, 5, 0] rfl ?_
      refine l_X11_layChildren_14 (by omega) i0 i1 i2 y4 _ y3 (0 : Int32) hh _ eo22 ?_
      refine tq_iconst (M := mX11_layChildren) (pc := 144) dX11_layChildren_144 tk_ki_0 ?_
      refine tq_istore (M := mX11_layChildren) (pc := 145) dX11_layChildren_145 (L2 := [(5, .int (0 : Int32)), (0, .ref i0), (1, .int i1), (2, .int i2), (3, .int o22.1), (4, .int y4)]) (by decide) rfl ?_
      obtain ⟨o42, eo42, hf⟩ := tq_be hf
      refine tq_pick (L2 := [(0, .ref i0), (1, .int i1), (2, .int i2), (3, .int o22.1), (4, .int y4), (5, .int (0 : Int32))]) [1, 2, 3, 4, 5, 0] rfl ?_
      refine l_X11_layChildren_147 (by omega) i0 i1 i2 y4 _ o22.1 (0 : Int32) o22.2 _ eo42 ?_
      obtain ⟨x43, ex43, hf⟩ := tq_le hf
      refine tq_iinc (M := mX11_layChildren) (pc := 249) (v := x43) (L2 := [(4, .int x43), (0, .ref i0), (1, .int i1), (2, .int i2), (3, .int o42.1)]) dX11_layChildren_249 rfl (by rw [ex43, tk_ki_1]) (by decide) rfl ?_
      refine tq_goto (M := mX11_layChildren) (pc := 252) (tgt := 5) dX11_layChildren_252 (by decide) ?_
      refine tq_pick (L2 := [(0, .ref i0), (1, .int i1), (2, .int i2), (3, .int o42.1), (4, .int x43)]) [1, 2, 3, 4, 0] rfl ?_
      cases (Option.some.inj hf)
      exact ih _ _ _ o (tq_lc ho) hk
set_option maxHeartbeats 4000000 in
set_option maxRecDepth 20000 in
theorem w_X11_layChildren {l : Launch} {d : Nat} (hd9 : 1 ≤ d) {t : Nat} {a1 : Int32} {a2 : Int32} {h : tq_H} {o : tq_H} {Q : tq_R → tq_H → Prop} (hf : f_X11_layChildren t a1 a2 h = some o) (hQ : ∀ r h9, r = .inl none ∧ o = h9 → Q r h9) : tq_C l yX11_layChildren cX11_layChildren 8 none d 0 0 [.ref t, .int a1, .int a2] h Q := by
  refine tq_body (y := yX11_layChildren) false (by decide +kernel) (fun z => by cases z) (Nat.le_of_ble_eq_true rfl) ?_
  show tq_W l mX11_layChildren d 0 0 Q 0 [(0, .ref t), (1, .int a1), (2, .int a2)] [] h
  refine tq_iconst (M := mX11_layChildren) (pc := 0) dX11_layChildren_0 tk_ki_0 ?_
  refine tq_istore_n (M := mX11_layChildren) (pc := 1) rfl dX11_layChildren_1 (L2 := [(3, .int (0 : Int32)), (0, .ref t), (1, .int a1), (2, .int a2)]) (by decide) rfl ?_
  refine tq_iconst (M := mX11_layChildren) (pc := 2) dX11_layChildren_2 tk_ki_0 ?_
  refine tq_istore (M := mX11_layChildren) (pc := 3) dX11_layChildren_3 (L2 := [(4, .int (0 : Int32)), (3, .int (0 : Int32)), (0, .ref t), (1, .int a1), (2, .int a2)]) (by decide) rfl ?_
  obtain ⟨o44, eo44, hf⟩ := tq_be hf
  refine tq_pick (L2 := [(0, .ref t), (1, .int a1), (2, .int a2), (3, .int (0 : Int32)), (4, .int (0 : Int32))]) [2, 3, 4, 1, 0] rfl ?_
  refine l_X11_layChildren_5 (by omega) t a1 a2 _ (0 : Int32) (0 : Int32) h _ eo44 ?_
  refine tq_vret (M := mX11_layChildren) (pc := 255) dX11_layChildren_255 rfl ?_
  cases (Option.some.inj hf)
  exact hQ _ _ ⟨rfl, rfl⟩
abbrev mX11_hangs : tq_M := (RX11, cX11_hangs, 4, (some .boolean), false, [], none)
def f_X11_hangs_b4 (i0 : Nat) (hh : tq_H) (s : Int32 × Int32) : Option ((Int32 × Int32) ⊕ (Int32)) := match s with
  | (y2, y3) =>
    if y3 > (60 : Int32) then
      some (.inr y2)
    else
      if y2 ≤ 0 then
        some (.inr y2)
      else
        (tq_gr hh i0 11 6).bind fun k1 =>
        (tq_ai hh k1 y2).bind fun x2 =>
        tq_let (y3 + (1 : Int32)) fun x3 =>
        some (.inl (x2, x3))
def f_X11_hangs (t : Nat) (a1 : Int32) (h : tq_H) : Option (Int32) :=
  (tq_loop (f_X11_hangs_b4 t h) tq_N (a1, (0 : Int32))).bind fun o4 =>
  tq_let (if o4 = 0 then (1 : Int32) else (0 : Int32)) fun p5 =>
  (tq_bz p5).bind fun z6 =>
  some z6
set_option maxHeartbeats 4000000 in
theorem l_X11_hangs_4 {l : Launch} {d : Nat} {Q : tq_R → tq_H → Prop} (hd9 : 0 ≤ d) (i0 : Nat) (hh : tq_H) : ∀ (n : Nat) (y2 : Int32) (y3 : Int32) (o : Int32), tq_loop (f_X11_hangs_b4 i0 hh) n (y2, y3) = some o → tq_W l mX11_hangs d 0 0 Q 27 [(2, .int o)] [] hh → tq_W l mX11_hangs d 0 0 Q 4 [(0, .ref i0), (2, .int y2), (3, .int y3)] [] hh := by
  intro n
  induction n with
  | zero => intro y2 y3 o hl; cases hl
  | succ n ih =>
    intro y2 y3 o hl hk
    obtain ⟨oo, hf, ho⟩ := tq_loop_s hl
    refine tq_iload_n (M := mX11_hangs) (pc := 4) dX11_hangs_4 rfl ?_
    refine tq_bipush (M := mX11_hangs) (pc := 5) dX11_hangs_5 tk_kb_60 ?_
    refine tq_icmp_gt (M := mX11_hangs) (pc := 7) (tgt := 27) dX11_hangs_7 (by decide) (fun cc => ?_) (fun cc => ?_)
    · have hf := tq_ifp hf cc
      refine tq_pick (L2 := [(2, .int y2)]) [1] rfl ?_
      cases (Option.some.inj hf)
      cases (tq_lx ho)
      exact hk
    · have hf := tq_ifn hf cc
      refine tq_iload_n (M := mX11_hangs) (pc := 10) dX11_hangs_10 rfl ?_
      refine tq_if_le (M := mX11_hangs) (pc := 11) (tgt := 27) dX11_hangs_11 (by decide) (fun cc => ?_) (fun cc => ?_)
      · have hf := tq_ifp hf cc
        refine tq_pick (L2 := [(2, .int y2)]) [1] rfl ?_
        cases (Option.some.inj hf)
        cases (tq_lx ho)
        exact hk
      · have hf := tq_ifn hf cc
        refine tq_aload_n (M := mX11_hangs) (pc := 14) dX11_hangs_14 rfl ?_
        obtain ⟨k1, ek1, hf⟩ := tq_be hf
        refine tq_getR (M := mX11_hangs) (pc := 15) tk_c11 (by decide) dX11_hangs_15 tk_RX11_22 rfl ek1 ?_
        refine tq_iload_n (M := mX11_hangs) (pc := 18) dX11_hangs_18 rfl ?_
        obtain ⟨x2, ex2, hf⟩ := tq_be hf
        refine tq_ialdF (M := mX11_hangs) (pc := 19) dX11_hangs_19 ex2 ?_
        refine tq_istore_n (M := mX11_hangs) (pc := 20) rfl dX11_hangs_20 (L2 := [(2, .int x2), (0, .ref i0), (3, .int y3)]) (by decide) rfl ?_
        obtain ⟨x3, ex3, hf⟩ := tq_le hf
        refine tq_iinc (M := mX11_hangs) (pc := 21) (v := x3) (L2 := [(3, .int x3), (2, .int x2), (0, .ref i0)]) dX11_hangs_21 rfl (by rw [ex3, tk_ki_1]) (by decide) rfl ?_
        refine tq_goto (M := mX11_hangs) (pc := 24) (tgt := 4) dX11_hangs_24 (by decide) ?_
        refine tq_pick (L2 := [(0, .ref i0), (2, .int x2), (3, .int x3)]) [2, 1, 0] rfl ?_
        cases (Option.some.inj hf)
        exact ih _ _ o (tq_lc ho) hk
set_option maxHeartbeats 4000000 in
set_option maxRecDepth 20000 in
theorem w_X11_hangs {l : Launch} {d : Nat} (hd9 : 0 ≤ d) {t : Nat} {a1 : Int32} {h : tq_H} {o : Int32} {Q : tq_R → tq_H → Prop} (hf : f_X11_hangs t a1 h = some o) (hQ : ∀ r h9, r = .inl (some (.int o)) ∧ h = h9 → Q r h9) : tq_C l yX11_hangs cX11_hangs 4 (some .boolean) d 0 0 [.ref t, .int a1] h Q := by
  refine tq_body (y := yX11_hangs) false (by decide +kernel) (fun z => by cases z) (Nat.le_of_ble_eq_true rfl) ?_
  show tq_W l mX11_hangs d 0 0 Q 0 [(0, .ref t), (1, .int a1)] [] h
  refine tq_iload_n (M := mX11_hangs) (pc := 0) dX11_hangs_0 rfl ?_
  refine tq_istore_n (M := mX11_hangs) (pc := 1) rfl dX11_hangs_1 (L2 := [(2, .int a1), (0, .ref t), (1, .int a1)]) (by decide) rfl ?_
  refine tq_iconst (M := mX11_hangs) (pc := 2) dX11_hangs_2 tk_ki_0 ?_
  refine tq_istore_n (M := mX11_hangs) (pc := 3) rfl dX11_hangs_3 (L2 := [(3, .int (0 : Int32)), (2, .int a1), (0, .ref t), (1, .int a1)]) (by decide) rfl ?_
  obtain ⟨o4, eo4, hf⟩ := tq_be hf
  refine tq_pick (L2 := [(0, .ref t), (2, .int a1), (3, .int (0 : Int32))]) [2, 1, 0] rfl ?_
  refine l_X11_hangs_4 (by omega) t h _ a1 (0 : Int32) _ eo4 ?_
  refine tq_iload_n (M := mX11_hangs) (pc := 27) dX11_hangs_27 rfl ?_
  obtain ⟨p5, ep5, hf⟩ := tq_le hf
  have HJ28 : tq_W l mX11_hangs d 0 0 Q 36 [] [.int p5] h := by
    obtain ⟨z6, ez6, hf⟩ := tq_be hf
    refine tq_zretB (M := mX11_hangs) (pc := 36) dX11_hangs_36 rfl ez6 ?_
    cases (Option.some.inj hf)
    exact hQ _ _ ⟨rfl, rfl⟩
  refine tq_if_ne (M := mX11_hangs) (pc := 28) (tgt := 35) dX11_hangs_28 (by decide) (fun cc => ?_) (fun cc => ?_)
  · have hf := tq_ifn ep5.symm cc
    refine tq_iconst (M := mX11_hangs) (pc := 35) dX11_hangs_35 tk_ki_0 ?_
    refine tq_pick (L2 := []) [] rfl ?_
    cases hf
    exact HJ28
  · have hf := tq_ifp ep5.symm cc
    refine tq_iconst (M := mX11_hangs) (pc := 31) dX11_hangs_31 tk_ki_1 ?_
    refine tq_goto (M := mX11_hangs) (pc := 32) (tgt := 36) dX11_hangs_32 (by decide) ?_
    refine tq_pick (L2 := []) [] rfl ?_
    cases hf
    exact HJ28
abbrev mX11_goesRound : tq_M := (RX11, cX11_goesRound, 4, (some .boolean), false, [], none)
def f_X11_goesRound_b9 (i0 : Nat) (i1 : Int32) (hh : tq_H) (s : Int32 × Int32) : Option ((Int32 × Int32) ⊕ (Int32)) := match s with
  | (y2, y3) =>
    if y3 ≥ (60 : Int32) then
      some (.inr y2)
    else
      if y2 = (-1 : Int32) then
        some (.inr y2)
      else
        if y2 = i1 then
          some (.inr y2)
        else
          (tq_gr hh i0 11 6).bind fun k3 =>
          (tq_ai hh k3 y2).bind fun x4 =>
          tq_let (y3 + (1 : Int32)) fun x5 =>
          some (.inl (x4, x5))
def f_X11_goesRound (t : Nat) (a1 : Int32) (h : tq_H) : Option (Int32) :=
  (tq_gr h t 11 6).bind fun k1 =>
  (tq_ai h k1 a1).bind fun x2 =>
  (tq_loop (f_X11_goesRound_b9 t a1 h) tq_N (x2, (0 : Int32))).bind fun o6 =>
  tq_let (if o6 = a1 then (1 : Int32) else (0 : Int32)) fun p7 =>
  (tq_bz p7).bind fun z8 =>
  some z8
set_option maxHeartbeats 4000000 in
theorem l_X11_goesRound_9 {l : Launch} {d : Nat} {Q : tq_R → tq_H → Prop} (hd9 : 0 ≤ d) (i0 : Nat) (i1 : Int32) (hh : tq_H) : ∀ (n : Nat) (y2 : Int32) (y3 : Int32) (o : Int32), tq_loop (f_X11_goesRound_b9 i0 i1 hh) n (y2, y3) = some o → tq_W l mX11_goesRound d 0 0 Q 38 [(1, .int i1), (2, .int o)] [] hh → tq_W l mX11_goesRound d 0 0 Q 9 [(0, .ref i0), (1, .int i1), (2, .int y2), (3, .int y3)] [] hh := by
  intro n
  induction n with
  | zero => intro y2 y3 o hl; cases hl
  | succ n ih =>
    intro y2 y3 o hl hk
    obtain ⟨oo, hf, ho⟩ := tq_loop_s hl
    refine tq_iload_n (M := mX11_goesRound) (pc := 9) dX11_goesRound_9 rfl ?_
    refine tq_bipush (M := mX11_goesRound) (pc := 10) dX11_goesRound_10 tk_kb_60 ?_
    refine tq_icmp_ge (M := mX11_goesRound) (pc := 12) (tgt := 38) dX11_goesRound_12 (by decide) (fun cc => ?_) (fun cc => ?_)
    · have hf := tq_ifp hf cc
      refine tq_pick (L2 := [(1, .int i1), (2, .int y2)]) [1, 2] rfl ?_
      cases (Option.some.inj hf)
      cases (tq_lx ho)
      exact hk
    · have hf := tq_ifn hf cc
      refine tq_iload_n (M := mX11_goesRound) (pc := 15) dX11_goesRound_15 rfl ?_
      refine tq_iconst (M := mX11_goesRound) (pc := 16) dX11_goesRound_16 tk_ki_m1 ?_
      refine tq_icmp_eq (M := mX11_goesRound) (pc := 17) (tgt := 38) dX11_goesRound_17 (by decide) (fun cc => ?_) (fun cc => ?_)
      · have hf := tq_ifp hf cc
        refine tq_pick (L2 := [(1, .int i1), (2, .int y2)]) [1, 2] rfl ?_
        cases (Option.some.inj hf)
        cases (tq_lx ho)
        exact hk
      · have hf := tq_ifn hf cc
        refine tq_iload_n (M := mX11_goesRound) (pc := 20) dX11_goesRound_20 rfl ?_
        refine tq_iload_n (M := mX11_goesRound) (pc := 21) dX11_goesRound_21 rfl ?_
        refine tq_icmp_eq (M := mX11_goesRound) (pc := 22) (tgt := 38) dX11_goesRound_22 (by decide) (fun cc => ?_) (fun cc => ?_)
        · have hf := tq_ifp hf cc
          refine tq_pick (L2 := [(1, .int i1), (2, .int y2)]) [1, 2] rfl ?_
          cases (Option.some.inj hf)
          cases (tq_lx ho)
          exact hk
        · have hf := tq_ifn hf cc
          refine tq_aload_n (M := mX11_goesRound) (pc := 25) dX11_goesRound_25 rfl ?_
          obtain ⟨k3, ek3, hf⟩ := tq_be hf
          refine tq_getR (M := mX11_goesRound) (pc := 26) tk_c11 (by decide) dX11_goesRound_26 tk_RX11_22 rfl ek3 ?_
          refine tq_iload_n (M := mX11_goesRound) (pc := 29) dX11_goesRound_29 rfl ?_
          obtain ⟨x4, ex4, hf⟩ := tq_be hf
          refine tq_ialdF (M := mX11_goesRound) (pc := 30) dX11_goesRound_30 ex4 ?_
          refine tq_istore_n (M := mX11_goesRound) (pc := 31) rfl dX11_goesRound_31 (L2 := [(2, .int x4), (0, .ref i0), (1, .int i1), (3, .int y3)]) (by decide) rfl ?_
          obtain ⟨x5, ex5, hf⟩ := tq_le hf
          refine tq_iinc (M := mX11_goesRound) (pc := 32) (v := x5) (L2 := [(3, .int x5), (2, .int x4), (0, .ref i0), (1, .int i1)]) dX11_goesRound_32 rfl (by rw [ex5, tk_ki_1]) (by decide) rfl ?_
          refine tq_goto (M := mX11_goesRound) (pc := 35) (tgt := 9) dX11_goesRound_35 (by decide) ?_
          refine tq_pick (L2 := [(0, .ref i0), (1, .int i1), (2, .int x4), (3, .int x5)]) [2, 3, 1, 0] rfl ?_
          cases (Option.some.inj hf)
          exact ih _ _ o (tq_lc ho) hk
set_option maxHeartbeats 4000000 in
set_option maxRecDepth 20000 in
theorem w_X11_goesRound {l : Launch} {d : Nat} (hd9 : 0 ≤ d) {t : Nat} {a1 : Int32} {h : tq_H} {o : Int32} {Q : tq_R → tq_H → Prop} (hf : f_X11_goesRound t a1 h = some o) (hQ : ∀ r h9, r = .inl (some (.int o)) ∧ h = h9 → Q r h9) : tq_C l yX11_goesRound cX11_goesRound 4 (some .boolean) d 0 0 [.ref t, .int a1] h Q := by
  refine tq_body (y := yX11_goesRound) false (by decide +kernel) (fun z => by cases z) (Nat.le_of_ble_eq_true rfl) ?_
  show tq_W l mX11_goesRound d 0 0 Q 0 [(0, .ref t), (1, .int a1)] [] h
  refine tq_aload_n (M := mX11_goesRound) (pc := 0) dX11_goesRound_0 rfl ?_
  obtain ⟨k1, ek1, hf⟩ := tq_be hf
  refine tq_getR (M := mX11_goesRound) (pc := 1) tk_c11 (by decide) dX11_goesRound_1 tk_RX11_22 rfl ek1 ?_
  refine tq_iload_n (M := mX11_goesRound) (pc := 4) dX11_goesRound_4 rfl ?_
  obtain ⟨x2, ex2, hf⟩ := tq_be hf
  refine tq_ialdF (M := mX11_goesRound) (pc := 5) dX11_goesRound_5 ex2 ?_
  refine tq_istore_n (M := mX11_goesRound) (pc := 6) rfl dX11_goesRound_6 (L2 := [(2, .int x2), (0, .ref t), (1, .int a1)]) (by decide) rfl ?_
  refine tq_iconst (M := mX11_goesRound) (pc := 7) dX11_goesRound_7 tk_ki_0 ?_
  refine tq_istore_n (M := mX11_goesRound) (pc := 8) rfl dX11_goesRound_8 (L2 := [(3, .int (0 : Int32)), (2, .int x2), (0, .ref t), (1, .int a1)]) (by decide) rfl ?_
  obtain ⟨o6, eo6, hf⟩ := tq_be hf
  refine tq_pick (L2 := [(0, .ref t), (1, .int a1), (2, .int x2), (3, .int (0 : Int32))]) [2, 3, 1, 0] rfl ?_
  refine l_X11_goesRound_9 (by omega) t a1 h _ x2 (0 : Int32) _ eo6 ?_
  refine tq_iload_n (M := mX11_goesRound) (pc := 38) dX11_goesRound_38 rfl ?_
  refine tq_iload_n (M := mX11_goesRound) (pc := 39) dX11_goesRound_39 rfl ?_
  obtain ⟨p7, ep7, hf⟩ := tq_le hf
  have HJ40 : tq_W l mX11_goesRound d 0 0 Q 48 [] [.int p7] h := by
    obtain ⟨z8, ez8, hf⟩ := tq_be hf
    refine tq_zretB (M := mX11_goesRound) (pc := 48) dX11_goesRound_48 rfl ez8 ?_
    cases (Option.some.inj hf)
    exact hQ _ _ ⟨rfl, rfl⟩
  refine tq_icmp_ne (M := mX11_goesRound) (pc := 40) (tgt := 47) dX11_goesRound_40 (by decide) (fun cc => ?_) (fun cc => ?_)
  · have hf := tq_ifn ep7.symm cc
    refine tq_iconst (M := mX11_goesRound) (pc := 47) dX11_goesRound_47 tk_ki_0 ?_
    refine tq_pick (L2 := []) [] rfl ?_
    cases hf
    exact HJ40
  · have hf := tq_ifp ep7.symm cc
    refine tq_iconst (M := mX11_goesRound) (pc := 43) dX11_goesRound_43 tk_ki_1 ?_
    refine tq_goto (M := mX11_goesRound) (pc := 44) (tgt := 48) dX11_goesRound_44 (by decide) ?_
    refine tq_pick (L2 := []) [] rfl ?_
    cases hf
    exact HJ40
abbrev mX11_hasTwice : tq_M := (RX11, cX11_hasTwice, 5, (some .boolean), false, [], none)
def f_X11_hasTwice_b14 (i0 : Nat) (i2 : Int32) (hh : tq_H) (s : Int32 × Int32) : Option ((Int32 × Int32) ⊕ (Int32)) := match s with
  | (y1, y3) =>
    if y3 ≥ i2 then
      some (.inr y1)
    else
      (tq_gr hh i0 11 9).bind fun k2 =>
      (tq_az hh k2 i2).bind fun x3 =>
      (if x3 = 0 then
        some (0 : Int32)
      else
        (tq_gr hh i0 11 9).bind fun k4 =>
        (tq_az hh k4 y3).bind fun x5 =>
        if x5 = 0 then
          some (0 : Int32)
        else
          (tq_gr hh i0 11 2).bind fun k6 =>
          (tq_ai hh k6 i2).bind fun x7 =>
          if x7 = (2 : Int32) then
            (tq_gr hh i0 11 2).bind fun k8 =>
            (tq_ai hh k8 y3).bind fun x9 =>
            if x9 = (2 : Int32) then
              some (1 : Int32)
            else
              some (0 : Int32)
          else
            some (0 : Int32)).bind fun p10 =>
      (if y1 = 0 then
        if p10 = 0 then
          some (0 : Int32)
        else
          (tq_gr hh i0 11 6).bind fun k11 =>
          (tq_ai hh k11 i2).bind fun x12 =>
          (tq_gr hh i0 11 6).bind fun k13 =>
          (tq_ai hh k13 y3).bind fun x14 =>
          if x12 = x14 then
            (tq_gr hh i0 11 3).bind fun k15 =>
            (tq_ai hh k15 i2).bind fun x16 =>
            (tq_gr hh i0 11 3).bind fun k17 =>
            (tq_ai hh k17 y3).bind fun x18 =>
            if x16 = x18 then
              some (1 : Int32)
            else
              some (0 : Int32)
          else
            some (0 : Int32)
      else
        some (1 : Int32)).bind fun p19 =>
      tq_let (y3 + (1 : Int32)) fun x20 =>
      some (.inl (p19, x20))
def f_X11_hasTwice_b4 (i0 : Nat) (hh : tq_H) (s : Int32 × Int32) : Option ((Int32 × Int32) ⊕ (Int32)) := match s with
  | (y1, y2) =>
    (tq_gi hh i0 11 1).bind fun x1 =>
    if y2 ≥ x1 then
      some (.inr y1)
    else
      (tq_loop (f_X11_hasTwice_b14 i0 y2 hh) tq_N (y1, (0 : Int32))).bind fun o21 =>
      tq_let (y2 + (1 : Int32)) fun x22 =>
      some (.inl (o21, x22))
def f_X11_hasTwice (t : Nat) (h : tq_H) : Option (Int32) :=
  (tq_loop (f_X11_hasTwice_b4 t h) tq_N ((0 : Int32), (0 : Int32))).bind fun o23 =>
  (tq_bz o23).bind fun z24 =>
  some z24
set_option maxHeartbeats 4000000 in
theorem l_X11_hasTwice_14 {l : Launch} {d : Nat} {Q : tq_R → tq_H → Prop} (hd9 : 0 ≤ d) (i0 : Nat) (i2 : Int32) (hh : tq_H) : ∀ (n : Nat) (y1 : Int32) (y3 : Int32) (o : Int32), tq_loop (f_X11_hasTwice_b14 i0 i2 hh) n (y1, y3) = some o → tq_W l mX11_hasTwice d 0 0 Q 115 [(0, .ref i0), (1, .int o), (2, .int i2)] [] hh → tq_W l mX11_hasTwice d 0 0 Q 14 [(0, .ref i0), (1, .int y1), (2, .int i2), (3, .int y3)] [] hh := by
  intro n
  induction n with
  | zero => intro y1 y3 o hl; cases hl
  | succ n ih =>
    intro y1 y3 o hl hk
    obtain ⟨oo, hf, ho⟩ := tq_loop_s hl
    refine tq_iload_n (M := mX11_hasTwice) (pc := 14) dX11_hasTwice_14 rfl ?_
    refine tq_iload_n (M := mX11_hasTwice) (pc := 15) dX11_hasTwice_15 rfl ?_
    refine tq_icmp_ge (M := mX11_hasTwice) (pc := 16) (tgt := 115) dX11_hasTwice_16 (by decide) (fun cc => ?_) (fun cc => ?_)
    · have hf := tq_ifp hf cc
      refine tq_pick (L2 := [(0, .ref i0), (1, .int y1), (2, .int i2)]) [0, 1, 2] rfl ?_
      cases (Option.some.inj hf)
      cases (tq_lx ho)
      exact hk
    · have hf := tq_ifn hf cc
      refine tq_aload_n (M := mX11_hasTwice) (pc := 19) dX11_hasTwice_19 rfl ?_
      obtain ⟨k2, ek2, hf⟩ := tq_be hf
      refine tq_getR (M := mX11_hasTwice) (pc := 20) tk_c11 (by decide) dX11_hasTwice_20 tk_RX11_31 rfl ek2 ?_
      refine tq_iload_n (M := mX11_hasTwice) (pc := 23) dX11_hasTwice_23 rfl ?_
      obtain ⟨x3, ex3, hf⟩ := tq_be hf
      refine tq_zaldF (M := mX11_hasTwice) (pc := 24) dX11_hasTwice_24 ex3 ?_
      obtain ⟨p10, ep10, hf⟩ := tq_be hf
      have HJ25 : tq_W l mX11_hasTwice d 0 0 Q 62 [(0, .ref i0), (1, .int y1), (2, .int i2), (3, .int y3)] [.int p10] hh := by
        refine tq_istore (M := mX11_hasTwice) (pc := 62) dX11_hasTwice_62 (L2 := [(4, .int p10), (0, .ref i0), (1, .int y1), (2, .int i2), (3, .int y3)]) (by decide) rfl ?_
        refine tq_iload_n (M := mX11_hasTwice) (pc := 64) dX11_hasTwice_64 rfl ?_
        obtain ⟨p19, ep19, hf⟩ := tq_be hf
        have HJ65 : tq_W l mX11_hasTwice d 0 0 Q 108 [(0, .ref i0), (2, .int i2), (3, .int y3)] [.int p19] hh := by
          refine tq_istore_n (M := mX11_hasTwice) (pc := 108) rfl dX11_hasTwice_108 (L2 := [(1, .int p19), (0, .ref i0), (2, .int i2), (3, .int y3)]) (by decide) rfl ?_
          obtain ⟨x20, ex20, hf⟩ := tq_le hf
          refine tq_iinc (M := mX11_hasTwice) (pc := 109) (v := x20) (L2 := [(3, .int x20), (1, .int p19), (0, .ref i0), (2, .int i2)]) dX11_hasTwice_109 rfl (by rw [ex20, tk_ki_1]) (by decide) rfl ?_
          refine tq_goto (M := mX11_hasTwice) (pc := 112) (tgt := 14) dX11_hasTwice_112 (by decide) ?_
          refine tq_pick (L2 := [(0, .ref i0), (1, .int p19), (2, .int i2), (3, .int x20)]) [2, 1, 3, 0] rfl ?_
          cases (Option.some.inj hf)
          exact ih _ _ o (tq_lc ho) hk
        refine tq_if_ne (M := mX11_hasTwice) (pc := 65) (tgt := 103) dX11_hasTwice_65 (by decide) (fun cc => ?_) (fun cc => ?_)
        · have hf := tq_ifn ep19 cc
          refine tq_iconst (M := mX11_hasTwice) (pc := 103) dX11_hasTwice_103 tk_ki_1 ?_
          refine tq_goto (M := mX11_hasTwice) (pc := 104) (tgt := 108) dX11_hasTwice_104 (by decide) ?_
          refine tq_pick (L2 := [(0, .ref i0), (2, .int i2), (3, .int y3)]) [1, 3, 4] rfl ?_
          cases (Option.some.inj hf)
          exact HJ65
        · have hf := tq_ifp ep19 cc
          refine tq_iload (M := mX11_hasTwice) (pc := 68) dX11_hasTwice_68 rfl ?_
          refine tq_if_eq (M := mX11_hasTwice) (pc := 70) (tgt := 107) dX11_hasTwice_70 (by decide) (fun cc => ?_) (fun cc => ?_)
          · have hf := tq_ifp hf cc
            refine tq_iconst (M := mX11_hasTwice) (pc := 107) dX11_hasTwice_107 tk_ki_0 ?_
            refine tq_pick (L2 := [(0, .ref i0), (2, .int i2), (3, .int y3)]) [1, 3, 4] rfl ?_
            cases (Option.some.inj hf)
            exact HJ65
          · have hf := tq_ifn hf cc
            refine tq_aload_n (M := mX11_hasTwice) (pc := 73) dX11_hasTwice_73 rfl ?_
            obtain ⟨k11, ek11, hf⟩ := tq_be hf
            refine tq_getR (M := mX11_hasTwice) (pc := 74) tk_c11 (by decide) dX11_hasTwice_74 tk_RX11_22 rfl ek11 ?_
            refine tq_iload_n (M := mX11_hasTwice) (pc := 77) dX11_hasTwice_77 rfl ?_
            obtain ⟨x12, ex12, hf⟩ := tq_be hf
            refine tq_ialdF (M := mX11_hasTwice) (pc := 78) dX11_hasTwice_78 ex12 ?_
            refine tq_aload_n (M := mX11_hasTwice) (pc := 79) dX11_hasTwice_79 rfl ?_
            obtain ⟨k13, ek13, hf⟩ := tq_be hf
            refine tq_getR (M := mX11_hasTwice) (pc := 80) tk_c11 (by decide) dX11_hasTwice_80 tk_RX11_22 rfl ek13 ?_
            refine tq_iload_n (M := mX11_hasTwice) (pc := 83) dX11_hasTwice_83 rfl ?_
            obtain ⟨x14, ex14, hf⟩ := tq_be hf
            refine tq_ialdF (M := mX11_hasTwice) (pc := 84) dX11_hasTwice_84 ex14 ?_
            refine tq_icmp_ne (M := mX11_hasTwice) (pc := 85) (tgt := 107) dX11_hasTwice_85 (by decide) (fun cc => ?_) (fun cc => ?_)
            · have hf := tq_ifn hf cc
              refine tq_iconst (M := mX11_hasTwice) (pc := 107) dX11_hasTwice_107 tk_ki_0 ?_
              refine tq_pick (L2 := [(0, .ref i0), (2, .int i2), (3, .int y3)]) [1, 3, 4] rfl ?_
              cases (Option.some.inj hf)
              exact HJ65
            · have hf := tq_ifp hf cc
              refine tq_aload_n (M := mX11_hasTwice) (pc := 88) dX11_hasTwice_88 rfl ?_
              obtain ⟨k15, ek15, hf⟩ := tq_be hf
              refine tq_getR (M := mX11_hasTwice) (pc := 89) tk_c11 (by decide) dX11_hasTwice_89 tk_RX11_13 rfl ek15 ?_
              refine tq_iload_n (M := mX11_hasTwice) (pc := 92) dX11_hasTwice_92 rfl ?_
              obtain ⟨x16, ex16, hf⟩ := tq_be hf
              refine tq_ialdF (M := mX11_hasTwice) (pc := 93) dX11_hasTwice_93 ex16 ?_
              refine tq_aload_n (M := mX11_hasTwice) (pc := 94) dX11_hasTwice_94 rfl ?_
              obtain ⟨k17, ek17, hf⟩ := tq_be hf
              refine tq_getR (M := mX11_hasTwice) (pc := 95) tk_c11 (by decide) dX11_hasTwice_95 tk_RX11_13 rfl ek17 ?_
              refine tq_iload_n (M := mX11_hasTwice) (pc := 98) dX11_hasTwice_98 rfl ?_
              obtain ⟨x18, ex18, hf⟩ := tq_be hf
              refine tq_ialdF (M := mX11_hasTwice) (pc := 99) dX11_hasTwice_99 ex18 ?_
              refine tq_icmp_ne (M := mX11_hasTwice) (pc := 100) (tgt := 107) dX11_hasTwice_100 (by decide) (fun cc => ?_) (fun cc => ?_)
              · have hf := tq_ifn hf cc
                refine tq_iconst (M := mX11_hasTwice) (pc := 107) dX11_hasTwice_107 tk_ki_0 ?_
                refine tq_pick (L2 := [(0, .ref i0), (2, .int i2), (3, .int y3)]) [1, 3, 4] rfl ?_
                cases (Option.some.inj hf)
                exact HJ65
              · have hf := tq_ifp hf cc
                refine tq_iconst (M := mX11_hasTwice) (pc := 103) dX11_hasTwice_103 tk_ki_1 ?_
                refine tq_goto (M := mX11_hasTwice) (pc := 104) (tgt := 108) dX11_hasTwice_104 (by decide) ?_
                refine tq_pick (L2 := [(0, .ref i0), (2, .int i2), (3, .int y3)]) [1, 3, 4] rfl ?_
                cases (Option.some.inj hf)
                exact HJ65
      refine tq_if_eq (M := mX11_hasTwice) (pc := 25) (tgt := 61) dX11_hasTwice_25 (by decide) (fun cc => ?_) (fun cc => ?_)
      · have hf := tq_ifp ep10 cc
        refine tq_iconst (M := mX11_hasTwice) (pc := 61) dX11_hasTwice_61 tk_ki_0 ?_
        cases (Option.some.inj hf)
        exact HJ25
      · have hf := tq_ifn ep10 cc
        refine tq_aload_n (M := mX11_hasTwice) (pc := 28) dX11_hasTwice_28 rfl ?_
        obtain ⟨k4, ek4, hf⟩ := tq_be hf
        refine tq_getR (M := mX11_hasTwice) (pc := 29) tk_c11 (by decide) dX11_hasTwice_29 tk_RX11_31 rfl ek4 ?_
        refine tq_iload_n (M := mX11_hasTwice) (pc := 32) dX11_hasTwice_32 rfl ?_
        obtain ⟨x5, ex5, hf⟩ := tq_be hf
        refine tq_zaldF (M := mX11_hasTwice) (pc := 33) dX11_hasTwice_33 ex5 ?_
        refine tq_if_eq (M := mX11_hasTwice) (pc := 34) (tgt := 61) dX11_hasTwice_34 (by decide) (fun cc => ?_) (fun cc => ?_)
        · have hf := tq_ifp hf cc
          refine tq_iconst (M := mX11_hasTwice) (pc := 61) dX11_hasTwice_61 tk_ki_0 ?_
          cases (Option.some.inj hf)
          exact HJ25
        · have hf := tq_ifn hf cc
          refine tq_aload_n (M := mX11_hasTwice) (pc := 37) dX11_hasTwice_37 rfl ?_
          obtain ⟨k6, ek6, hf⟩ := tq_be hf
          refine tq_getR (M := mX11_hasTwice) (pc := 38) tk_c11 (by decide) dX11_hasTwice_38 tk_RX11_7 rfl ek6 ?_
          refine tq_iload_n (M := mX11_hasTwice) (pc := 41) dX11_hasTwice_41 rfl ?_
          obtain ⟨x7, ex7, hf⟩ := tq_be hf
          refine tq_ialdF (M := mX11_hasTwice) (pc := 42) dX11_hasTwice_42 ex7 ?_
          refine tq_iconst (M := mX11_hasTwice) (pc := 43) dX11_hasTwice_43 tk_ki_2 ?_
          refine tq_icmp_ne (M := mX11_hasTwice) (pc := 44) (tgt := 61) dX11_hasTwice_44 (by decide) (fun cc => ?_) (fun cc => ?_)
          · have hf := tq_ifn hf cc
            refine tq_iconst (M := mX11_hasTwice) (pc := 61) dX11_hasTwice_61 tk_ki_0 ?_
            cases (Option.some.inj hf)
            exact HJ25
          · have hf := tq_ifp hf cc
            refine tq_aload_n (M := mX11_hasTwice) (pc := 47) dX11_hasTwice_47 rfl ?_
            obtain ⟨k8, ek8, hf⟩ := tq_be hf
            refine tq_getR (M := mX11_hasTwice) (pc := 48) tk_c11 (by decide) dX11_hasTwice_48 tk_RX11_7 rfl ek8 ?_
            refine tq_iload_n (M := mX11_hasTwice) (pc := 51) dX11_hasTwice_51 rfl ?_
            obtain ⟨x9, ex9, hf⟩ := tq_be hf
            refine tq_ialdF (M := mX11_hasTwice) (pc := 52) dX11_hasTwice_52 ex9 ?_
            refine tq_iconst (M := mX11_hasTwice) (pc := 53) dX11_hasTwice_53 tk_ki_2 ?_
            refine tq_icmp_ne (M := mX11_hasTwice) (pc := 54) (tgt := 61) dX11_hasTwice_54 (by decide) (fun cc => ?_) (fun cc => ?_)
            · have hf := tq_ifn hf cc
              refine tq_iconst (M := mX11_hasTwice) (pc := 61) dX11_hasTwice_61 tk_ki_0 ?_
              cases (Option.some.inj hf)
              exact HJ25
            · have hf := tq_ifp hf cc
              refine tq_iconst (M := mX11_hasTwice) (pc := 57) dX11_hasTwice_57 tk_ki_1 ?_
              refine tq_goto (M := mX11_hasTwice) (pc := 58) (tgt := 62) dX11_hasTwice_58 (by decide) ?_
              cases (Option.some.inj hf)
              exact HJ25
set_option maxHeartbeats 4000000 in
theorem l_X11_hasTwice_4 {l : Launch} {d : Nat} {Q : tq_R → tq_H → Prop} (hd9 : 0 ≤ d) (i0 : Nat) (hh : tq_H) : ∀ (n : Nat) (y1 : Int32) (y2 : Int32) (o : Int32), tq_loop (f_X11_hasTwice_b4 i0 hh) n (y1, y2) = some o → tq_W l mX11_hasTwice d 0 0 Q 121 [(1, .int o)] [] hh → tq_W l mX11_hasTwice d 0 0 Q 4 [(0, .ref i0), (1, .int y1), (2, .int y2)] [] hh := by
  intro n
  induction n with
  | zero => intro y1 y2 o hl; cases hl
  | succ n ih =>
    intro y1 y2 o hl hk
    obtain ⟨oo, hf, ho⟩ := tq_loop_s hl
    refine tq_iload_n (M := mX11_hasTwice) (pc := 4) dX11_hasTwice_4 rfl ?_
    refine tq_aload_n (M := mX11_hasTwice) (pc := 5) dX11_hasTwice_5 rfl ?_
    obtain ⟨x1, ex1, hf⟩ := tq_be hf
    refine tq_getI (M := mX11_hasTwice) (pc := 6) tk_c11 (by decide) dX11_hasTwice_6 tk_RX11_159 rfl ex1 ?_
    refine tq_icmp_ge (M := mX11_hasTwice) (pc := 9) (tgt := 121) dX11_hasTwice_9 (by decide) (fun cc => ?_) (fun cc => ?_)
    · have hf := tq_ifp hf cc
      refine tq_pick (L2 := [(1, .int y1)]) [1] rfl ?_
      cases (Option.some.inj hf)
      cases (tq_lx ho)
      exact hk
    · have hf := tq_ifn hf cc
      refine tq_iconst (M := mX11_hasTwice) (pc := 12) dX11_hasTwice_12 tk_ki_0 ?_
      refine tq_istore_n (M := mX11_hasTwice) (pc := 13) rfl dX11_hasTwice_13 (L2 := [(3, .int (0 : Int32)), (0, .ref i0), (1, .int y1), (2, .int y2)]) (by decide) rfl ?_
      obtain ⟨o21, eo21, hf⟩ := tq_be hf
      refine tq_pick (L2 := [(0, .ref i0), (1, .int y1), (2, .int y2), (3, .int (0 : Int32))]) [1, 2, 3, 0] rfl ?_
      refine l_X11_hasTwice_14 (by omega) i0 y2 hh _ y1 (0 : Int32) _ eo21 ?_
      obtain ⟨x22, ex22, hf⟩ := tq_le hf
      refine tq_iinc (M := mX11_hasTwice) (pc := 115) (v := x22) (L2 := [(2, .int x22), (0, .ref i0), (1, .int o21)]) dX11_hasTwice_115 rfl (by rw [ex22, tk_ki_1]) (by decide) rfl ?_
      refine tq_goto (M := mX11_hasTwice) (pc := 118) (tgt := 4) dX11_hasTwice_118 (by decide) ?_
      refine tq_pick (L2 := [(0, .ref i0), (1, .int o21), (2, .int x22)]) [1, 2, 0] rfl ?_
      cases (Option.some.inj hf)
      exact ih _ _ o (tq_lc ho) hk
set_option maxHeartbeats 4000000 in
set_option maxRecDepth 20000 in
theorem w_X11_hasTwice {l : Launch} {d : Nat} (hd9 : 0 ≤ d) {t : Nat} {h : tq_H} {o : Int32} {Q : tq_R → tq_H → Prop} (hf : f_X11_hasTwice t h = some o) (hQ : ∀ r h9, r = .inl (some (.int o)) ∧ h = h9 → Q r h9) : tq_C l yX11_hasTwice cX11_hasTwice 5 (some .boolean) d 0 0 [.ref t] h Q := by
  refine tq_body (y := yX11_hasTwice) false (by decide +kernel) (fun z => by cases z) (Nat.le_of_ble_eq_true rfl) ?_
  show tq_W l mX11_hasTwice d 0 0 Q 0 [(0, .ref t)] [] h
  refine tq_iconst (M := mX11_hasTwice) (pc := 0) dX11_hasTwice_0 tk_ki_0 ?_
  refine tq_istore_n (M := mX11_hasTwice) (pc := 1) rfl dX11_hasTwice_1 (L2 := [(1, .int (0 : Int32)), (0, .ref t)]) (by decide) rfl ?_
  refine tq_iconst (M := mX11_hasTwice) (pc := 2) dX11_hasTwice_2 tk_ki_0 ?_
  refine tq_istore_n (M := mX11_hasTwice) (pc := 3) rfl dX11_hasTwice_3 (L2 := [(2, .int (0 : Int32)), (1, .int (0 : Int32)), (0, .ref t)]) (by decide) rfl ?_
  obtain ⟨o23, eo23, hf⟩ := tq_be hf
  refine tq_pick (L2 := [(0, .ref t), (1, .int (0 : Int32)), (2, .int (0 : Int32))]) [2, 1, 0] rfl ?_
  refine l_X11_hasTwice_4 (by omega) t h _ (0 : Int32) (0 : Int32) _ eo23 ?_
  refine tq_iload_n (M := mX11_hasTwice) (pc := 121) dX11_hasTwice_121 rfl ?_
  obtain ⟨z24, ez24, hf⟩ := tq_be hf
  refine tq_zretB (M := mX11_hasTwice) (pc := 122) dX11_hasTwice_122 rfl ez24 ?_
  cases (Option.some.inj hf)
  exact hQ _ _ ⟨rfl, rfl⟩
abbrev mX11_madeBehind : tq_M := (RX11, cX11_madeBehind, 3, (some .int), false, [], none)
def f_X11_madeBehind_b7 (i0 : Nat) (hh : tq_H) (s : Int32 × Int32) : Option ((Int32 × Int32) ⊕ (Int32)) := match s with
  | (y1, y2) =>
    (tq_gi hh i0 11 15).bind fun x2 =>
    if y2 ≥ x2 then
      some (.inr y1)
    else
      (tq_gr hh i0 11 16).bind fun k3 =>
      (tq_ai hh k3 ((7 : Int32) * y2)).bind fun x4 =>
      tq_let (if x4 = 0 then (1 : Int32) else (0 : Int32)) fun p5 =>
      tq_let ((y1 + p5)) fun x6 =>
      tq_let (y2 + (1 : Int32)) fun x7 =>
      some (.inl (x6, x7))
def f_X11_madeBehind (t : Nat) (h : tq_H) : Option (Int32) :=
  (tq_gi h t 11 1).bind fun x1 =>
  (tq_loop (f_X11_madeBehind_b7 t h) tq_N (x1, (0 : Int32))).bind fun o8 =>
  some o8
set_option maxHeartbeats 4000000 in
theorem l_X11_madeBehind_7 {l : Launch} {d : Nat} {Q : tq_R → tq_H → Prop} (hd9 : 0 ≤ d) (i0 : Nat) (hh : tq_H) : ∀ (n : Nat) (y1 : Int32) (y2 : Int32) (o : Int32), tq_loop (f_X11_madeBehind_b7 i0 hh) n (y1, y2) = some o → tq_W l mX11_madeBehind d 0 0 Q 41 [(1, .int o)] [] hh → tq_W l mX11_madeBehind d 0 0 Q 7 [(0, .ref i0), (1, .int y1), (2, .int y2)] [] hh := by
  intro n
  induction n with
  | zero => intro y1 y2 o hl; cases hl
  | succ n ih =>
    intro y1 y2 o hl hk
    obtain ⟨oo, hf, ho⟩ := tq_loop_s hl
    refine tq_iload_n (M := mX11_madeBehind) (pc := 7) dX11_madeBehind_7 rfl ?_
    refine tq_aload_n (M := mX11_madeBehind) (pc := 8) dX11_madeBehind_8 rfl ?_
    obtain ⟨x2, ex2, hf⟩ := tq_be hf
    refine tq_getI (M := mX11_madeBehind) (pc := 9) tk_c11 (by decide) dX11_madeBehind_9 tk_RX11_191 rfl ex2 ?_
    refine tq_icmp_ge (M := mX11_madeBehind) (pc := 12) (tgt := 41) dX11_madeBehind_12 (by decide) (fun cc => ?_) (fun cc => ?_)
    · have hf := tq_ifp hf cc
      refine tq_pick (L2 := [(1, .int y1)]) [1] rfl ?_
      cases (Option.some.inj hf)
      cases (tq_lx ho)
      exact hk
    · have hf := tq_ifn hf cc
      refine tq_iload_n (M := mX11_madeBehind) (pc := 15) dX11_madeBehind_15 rfl ?_
      refine tq_aload_n (M := mX11_madeBehind) (pc := 16) dX11_madeBehind_16 rfl ?_
      obtain ⟨k3, ek3, hf⟩ := tq_be hf
      refine tq_getR (M := mX11_madeBehind) (pc := 17) tk_c11 (by decide) dX11_madeBehind_17 tk_RX11_44 rfl ek3 ?_
      refine tq_bipush (M := mX11_madeBehind) (pc := 20) dX11_madeBehind_20 tk_kb_7 ?_
      refine tq_iload_n (M := mX11_madeBehind) (pc := 22) dX11_madeBehind_22 rfl ?_
      refine tq_imul (M := mX11_madeBehind) (pc := 23) dX11_madeBehind_23 ?_
      obtain ⟨x4, ex4, hf⟩ := tq_be hf
      refine tq_ialdF (M := mX11_madeBehind) (pc := 24) dX11_madeBehind_24 ex4 ?_
      obtain ⟨p5, ep5, hf⟩ := tq_le hf
      have HJ25 : tq_W l mX11_madeBehind d 0 0 Q 33 [(0, .ref i0), (2, .int y2)] [.int p5, .int y1] hh := by
        refine tq_iadd (M := mX11_madeBehind) (pc := 33) dX11_madeBehind_33 ?_
        obtain ⟨x6, ex6, hf⟩ := tq_le hf
        refine tq_istore_n (M := mX11_madeBehind) (pc := 34) rfl dX11_madeBehind_34 (L2 := [(1, .int x6), (0, .ref i0), (2, .int y2)]) (by decide) (by rw [ex6]; rfl) ?_
        obtain ⟨x7, ex7, hf⟩ := tq_le hf
        refine tq_iinc (M := mX11_madeBehind) (pc := 35) (v := x7) (L2 := [(2, .int x7), (1, .int x6), (0, .ref i0)]) dX11_madeBehind_35 rfl (by rw [ex7, tk_ki_1]) (by decide) rfl ?_
        refine tq_goto (M := mX11_madeBehind) (pc := 38) (tgt := 7) dX11_madeBehind_38 (by decide) ?_
        refine tq_pick (L2 := [(0, .ref i0), (1, .int x6), (2, .int x7)]) [2, 1, 0] rfl ?_
        cases (Option.some.inj hf)
        exact ih _ _ o (tq_lc ho) hk
      refine tq_if_ne (M := mX11_madeBehind) (pc := 25) (tgt := 32) dX11_madeBehind_25 (by decide) (fun cc => ?_) (fun cc => ?_)
      · have hf := tq_ifn ep5.symm cc
        refine tq_iconst (M := mX11_madeBehind) (pc := 32) dX11_madeBehind_32 tk_ki_0 ?_
        refine tq_pick (L2 := [(0, .ref i0), (2, .int y2)]) [0, 2] rfl ?_
        cases hf
        exact HJ25
      · have hf := tq_ifp ep5.symm cc
        refine tq_iconst (M := mX11_madeBehind) (pc := 28) dX11_madeBehind_28 tk_ki_1 ?_
        refine tq_goto (M := mX11_madeBehind) (pc := 29) (tgt := 33) dX11_madeBehind_29 (by decide) ?_
        refine tq_pick (L2 := [(0, .ref i0), (2, .int y2)]) [0, 2] rfl ?_
        cases hf
        exact HJ25
set_option maxHeartbeats 4000000 in
set_option maxRecDepth 20000 in
theorem w_X11_madeBehind {l : Launch} {d : Nat} (hd9 : 0 ≤ d) {t : Nat} {h : tq_H} {o : Int32} {Q : tq_R → tq_H → Prop} (hf : f_X11_madeBehind t h = some o) (hQ : ∀ r h9, r = .inl (some (.int o)) ∧ h = h9 → Q r h9) : tq_C l yX11_madeBehind cX11_madeBehind 3 (some .int) d 0 0 [.ref t] h Q := by
  refine tq_body (y := yX11_madeBehind) false (by decide +kernel) (fun z => by cases z) (Nat.le_of_ble_eq_true rfl) ?_
  show tq_W l mX11_madeBehind d 0 0 Q 0 [(0, .ref t)] [] h
  refine tq_aload_n (M := mX11_madeBehind) (pc := 0) dX11_madeBehind_0 rfl ?_
  obtain ⟨x1, ex1, hf⟩ := tq_be hf
  refine tq_getI (M := mX11_madeBehind) (pc := 1) tk_c11 (by decide) dX11_madeBehind_1 tk_RX11_159 rfl ex1 ?_
  refine tq_istore_n (M := mX11_madeBehind) (pc := 4) rfl dX11_madeBehind_4 (L2 := [(1, .int x1), (0, .ref t)]) (by decide) rfl ?_
  refine tq_iconst (M := mX11_madeBehind) (pc := 5) dX11_madeBehind_5 tk_ki_0 ?_
  refine tq_istore_n (M := mX11_madeBehind) (pc := 6) rfl dX11_madeBehind_6 (L2 := [(2, .int (0 : Int32)), (1, .int x1), (0, .ref t)]) (by decide) rfl ?_
  obtain ⟨o8, eo8, hf⟩ := tq_be hf
  refine tq_pick (L2 := [(0, .ref t), (1, .int x1), (2, .int (0 : Int32))]) [2, 1, 0] rfl ?_
  refine l_X11_madeBehind_7 (by omega) t h _ x1 (0 : Int32) _ eo8 ?_
  refine tq_iload_n (M := mX11_madeBehind) (pc := 41) dX11_madeBehind_41 rfl ?_
  refine tq_iret (M := mX11_madeBehind) (pc := 42) dX11_madeBehind_42 rfl ?_
  cases (Option.some.inj hf)
  exact hQ _ _ ⟨rfl, rfl⟩
abbrev mX11_countBack : tq_M := (RX11, cX11_countBack, 4, (some .int), false, [], none)
def f_X11_countBack_b4 (i0 : Nat) (i1 : Int32) (hh : tq_H) (s : Int32 × Int32) : Option ((Int32 × Int32) ⊕ (Int32)) := match s with
  | (y2, y3) =>
    if y3 ≥ (60 : Int32) then
      some (.inr y2)
    else
      (tq_gr hh i0 11 22).bind fun k1 =>
      (tq_az hh k1 y3).bind fun x2 =>
      (if x2 = 0 then
        some (0 : Int32)
      else
        (tq_gr hh i0 11 20).bind fun k3 =>
        (tq_ai hh k3 y3).bind fun x4 =>
        if x4 = i1 then
          (tq_gr hh i0 11 2).bind fun k5 =>
          (tq_ai hh k5 y3).bind fun x6 =>
          if x6 = (2 : Int32) then
            some (0 : Int32)
          else
            some (1 : Int32)
        else
          some (0 : Int32)).bind fun p7 =>
      tq_let ((y2 + p7)) fun x8 =>
      tq_let (y3 + (1 : Int32)) fun x9 =>
      some (.inl (x8, x9))
def f_X11_countBack (t : Nat) (a1 : Int32) (h : tq_H) : Option (Int32) :=
  (tq_loop (f_X11_countBack_b4 t a1 h) tq_N ((0 : Int32), (0 : Int32))).bind fun o10 =>
  some o10
set_option maxHeartbeats 4000000 in
theorem l_X11_countBack_4 {l : Launch} {d : Nat} {Q : tq_R → tq_H → Prop} (hd9 : 0 ≤ d) (i0 : Nat) (i1 : Int32) (hh : tq_H) : ∀ (n : Nat) (y2 : Int32) (y3 : Int32) (o : Int32), tq_loop (f_X11_countBack_b4 i0 i1 hh) n (y2, y3) = some o → tq_W l mX11_countBack d 0 0 Q 53 [(2, .int o)] [] hh → tq_W l mX11_countBack d 0 0 Q 4 [(0, .ref i0), (1, .int i1), (2, .int y2), (3, .int y3)] [] hh := by
  intro n
  induction n with
  | zero => intro y2 y3 o hl; cases hl
  | succ n ih =>
    intro y2 y3 o hl hk
    obtain ⟨oo, hf, ho⟩ := tq_loop_s hl
    refine tq_iload_n (M := mX11_countBack) (pc := 4) dX11_countBack_4 rfl ?_
    refine tq_bipush (M := mX11_countBack) (pc := 5) dX11_countBack_5 tk_kb_60 ?_
    refine tq_icmp_ge (M := mX11_countBack) (pc := 7) (tgt := 53) dX11_countBack_7 (by decide) (fun cc => ?_) (fun cc => ?_)
    · have hf := tq_ifp hf cc
      refine tq_pick (L2 := [(2, .int y2)]) [2] rfl ?_
      cases (Option.some.inj hf)
      cases (tq_lx ho)
      exact hk
    · have hf := tq_ifn hf cc
      refine tq_iload_n (M := mX11_countBack) (pc := 10) dX11_countBack_10 rfl ?_
      refine tq_aload_n (M := mX11_countBack) (pc := 11) dX11_countBack_11 rfl ?_
      obtain ⟨k1, ek1, hf⟩ := tq_be hf
      refine tq_getR (M := mX11_countBack) (pc := 12) tk_c11 (by decide) dX11_countBack_12 tk_RX11_62 rfl ek1 ?_
      refine tq_iload_n (M := mX11_countBack) (pc := 15) dX11_countBack_15 rfl ?_
      obtain ⟨x2, ex2, hf⟩ := tq_be hf
      refine tq_zaldF (M := mX11_countBack) (pc := 16) dX11_countBack_16 ex2 ?_
      obtain ⟨p7, ep7, hf⟩ := tq_be hf
      have HJ17 : tq_W l mX11_countBack d 0 0 Q 45 [(0, .ref i0), (1, .int i1), (3, .int y3)] [.int p7, .int y2] hh := by
        refine tq_iadd (M := mX11_countBack) (pc := 45) dX11_countBack_45 ?_
        obtain ⟨x8, ex8, hf⟩ := tq_le hf
        refine tq_istore_n (M := mX11_countBack) (pc := 46) rfl dX11_countBack_46 (L2 := [(2, .int x8), (0, .ref i0), (1, .int i1), (3, .int y3)]) (by decide) (by rw [ex8]; rfl) ?_
        obtain ⟨x9, ex9, hf⟩ := tq_le hf
        refine tq_iinc (M := mX11_countBack) (pc := 47) (v := x9) (L2 := [(3, .int x9), (2, .int x8), (0, .ref i0), (1, .int i1)]) dX11_countBack_47 rfl (by rw [ex9, tk_ki_1]) (by decide) rfl ?_
        refine tq_goto (M := mX11_countBack) (pc := 50) (tgt := 4) dX11_countBack_50 (by decide) ?_
        refine tq_pick (L2 := [(0, .ref i0), (1, .int i1), (2, .int x8), (3, .int x9)]) [2, 3, 1, 0] rfl ?_
        cases (Option.some.inj hf)
        exact ih _ _ o (tq_lc ho) hk
      refine tq_if_eq (M := mX11_countBack) (pc := 17) (tgt := 44) dX11_countBack_17 (by decide) (fun cc => ?_) (fun cc => ?_)
      · have hf := tq_ifp ep7 cc
        refine tq_iconst (M := mX11_countBack) (pc := 44) dX11_countBack_44 tk_ki_0 ?_
        refine tq_pick (L2 := [(0, .ref i0), (1, .int i1), (3, .int y3)]) [0, 1, 3] rfl ?_
        cases (Option.some.inj hf)
        exact HJ17
      · have hf := tq_ifn ep7 cc
        refine tq_aload_n (M := mX11_countBack) (pc := 20) dX11_countBack_20 rfl ?_
        obtain ⟨k3, ek3, hf⟩ := tq_be hf
        refine tq_getR (M := mX11_countBack) (pc := 21) tk_c11 (by decide) dX11_countBack_21 tk_RX11_56 rfl ek3 ?_
        refine tq_iload_n (M := mX11_countBack) (pc := 24) dX11_countBack_24 rfl ?_
        obtain ⟨x4, ex4, hf⟩ := tq_be hf
        refine tq_ialdF (M := mX11_countBack) (pc := 25) dX11_countBack_25 ex4 ?_
        refine tq_iload_n (M := mX11_countBack) (pc := 26) dX11_countBack_26 rfl ?_
        refine tq_icmp_ne (M := mX11_countBack) (pc := 27) (tgt := 44) dX11_countBack_27 (by decide) (fun cc => ?_) (fun cc => ?_)
        · have hf := tq_ifn hf cc
          refine tq_iconst (M := mX11_countBack) (pc := 44) dX11_countBack_44 tk_ki_0 ?_
          refine tq_pick (L2 := [(0, .ref i0), (1, .int i1), (3, .int y3)]) [0, 1, 3] rfl ?_
          cases (Option.some.inj hf)
          exact HJ17
        · have hf := tq_ifp hf cc
          refine tq_aload_n (M := mX11_countBack) (pc := 30) dX11_countBack_30 rfl ?_
          obtain ⟨k5, ek5, hf⟩ := tq_be hf
          refine tq_getR (M := mX11_countBack) (pc := 31) tk_c11 (by decide) dX11_countBack_31 tk_RX11_7 rfl ek5 ?_
          refine tq_iload_n (M := mX11_countBack) (pc := 34) dX11_countBack_34 rfl ?_
          obtain ⟨x6, ex6, hf⟩ := tq_be hf
          refine tq_ialdF (M := mX11_countBack) (pc := 35) dX11_countBack_35 ex6 ?_
          refine tq_iconst (M := mX11_countBack) (pc := 36) dX11_countBack_36 tk_ki_2 ?_
          refine tq_icmp_eq (M := mX11_countBack) (pc := 37) (tgt := 44) dX11_countBack_37 (by decide) (fun cc => ?_) (fun cc => ?_)
          · have hf := tq_ifp hf cc
            refine tq_iconst (M := mX11_countBack) (pc := 44) dX11_countBack_44 tk_ki_0 ?_
            refine tq_pick (L2 := [(0, .ref i0), (1, .int i1), (3, .int y3)]) [0, 1, 3] rfl ?_
            cases (Option.some.inj hf)
            exact HJ17
          · have hf := tq_ifn hf cc
            refine tq_iconst (M := mX11_countBack) (pc := 40) dX11_countBack_40 tk_ki_1 ?_
            refine tq_goto (M := mX11_countBack) (pc := 41) (tgt := 45) dX11_countBack_41 (by decide) ?_
            refine tq_pick (L2 := [(0, .ref i0), (1, .int i1), (3, .int y3)]) [0, 1, 3] rfl ?_
            cases (Option.some.inj hf)
            exact HJ17
set_option maxHeartbeats 4000000 in
set_option maxRecDepth 20000 in
theorem w_X11_countBack {l : Launch} {d : Nat} (hd9 : 0 ≤ d) {t : Nat} {a1 : Int32} {h : tq_H} {o : Int32} {Q : tq_R → tq_H → Prop} (hf : f_X11_countBack t a1 h = some o) (hQ : ∀ r h9, r = .inl (some (.int o)) ∧ h = h9 → Q r h9) : tq_C l yX11_countBack cX11_countBack 4 (some .int) d 0 0 [.ref t, .int a1] h Q := by
  refine tq_body (y := yX11_countBack) false (by decide +kernel) (fun z => by cases z) (Nat.le_of_ble_eq_true rfl) ?_
  show tq_W l mX11_countBack d 0 0 Q 0 [(0, .ref t), (1, .int a1)] [] h
  refine tq_iconst (M := mX11_countBack) (pc := 0) dX11_countBack_0 tk_ki_0 ?_
  refine tq_istore_n (M := mX11_countBack) (pc := 1) rfl dX11_countBack_1 (L2 := [(2, .int (0 : Int32)), (0, .ref t), (1, .int a1)]) (by decide) rfl ?_
  refine tq_iconst (M := mX11_countBack) (pc := 2) dX11_countBack_2 tk_ki_0 ?_
  refine tq_istore_n (M := mX11_countBack) (pc := 3) rfl dX11_countBack_3 (L2 := [(3, .int (0 : Int32)), (2, .int (0 : Int32)), (0, .ref t), (1, .int a1)]) (by decide) rfl ?_
  obtain ⟨o10, eo10, hf⟩ := tq_be hf
  refine tq_pick (L2 := [(0, .ref t), (1, .int a1), (2, .int (0 : Int32)), (3, .int (0 : Int32))]) [2, 3, 1, 0] rfl ?_
  refine l_X11_countBack_4 (by omega) t a1 h _ (0 : Int32) (0 : Int32) _ eo10 ?_
  refine tq_iload_n (M := mX11_countBack) (pc := 53) dX11_countBack_53 rfl ?_
  refine tq_iret (M := mX11_countBack) (pc := 54) dX11_countBack_54 rfl ?_
  cases (Option.some.inj hf)
  exact hQ _ _ ⟨rfl, rfl⟩
abbrev mX11_perform : tq_M := (RX11, cX11_perform, 4, none, false, [], none)
def f_X11_perform_b7 (i0 : Nat) (i1 : Int32) (s : Int32 × tq_H) : Option ((Int32 × tq_H) ⊕ (tq_H)) := match s with
  | (y2, hh) =>
    (tq_gi hh i0 11 15).bind fun x2 =>
    if y2 ≥ x2 then
      some (.inr hh)
    else
      tq_let (((7 : Int32) * y2)) fun x3 =>
      (tq_gr hh i0 11 16).bind fun k4 =>
      (tq_ai hh k4 x3).bind fun x5 =>
      (if x5 = 0 then
        (tq_gr hh i0 11 2).bind fun k30 =>
        (tq_gi hh i0 11 1).bind fun x31 =>
        (tq_gr hh i0 11 16).bind fun k32 =>
        (tq_ai hh k32 (x3 + (4 : Int32))).bind fun x33 =>
        (tq_si hh k30 x31 x33).bind fun w34 =>
        (tq_gr w34 i0 11 3).bind fun k35 =>
        (tq_gi w34 i0 11 1).bind fun x36 =>
        (tq_gr w34 i0 11 16).bind fun k37 =>
        (tq_ai w34 k37 (x3 + (5 : Int32))).bind fun x38 =>
        (tq_si w34 k35 x36 x38).bind fun w39 =>
        (tq_gr w39 i0 11 4).bind fun k40 =>
        (tq_gi w39 i0 11 1).bind fun x41 =>
        (tq_gr w39 i0 11 16).bind fun k42 =>
        (tq_ai w39 k42 (x3 + (6 : Int32))).bind fun x43 =>
        (tq_si w39 k40 x41 x43).bind fun w44 =>
        (tq_gr w44 i0 11 5).bind fun k45 =>
        (tq_gi w44 i0 11 1).bind fun x46 =>
        (tq_si w44 k45 x46 (-1 : Int32)).bind fun w47 =>
        (tq_gr w47 i0 11 6).bind fun k48 =>
        (tq_gi w47 i0 11 1).bind fun x49 =>
        (tq_gr w47 i0 11 16).bind fun k50 =>
        (tq_ai w47 k50 (x3 + (2 : Int32))).bind fun x51 =>
        (tq_si w47 k48 x49 x51).bind fun w52 =>
        (tq_gr w52 i0 11 7).bind fun k53 =>
        (tq_gi w52 i0 11 1).bind fun x54 =>
        (tq_si w52 k53 x54 (0 : Int32)).bind fun w55 =>
        (tq_gr w55 i0 11 9).bind fun k56 =>
        (tq_gi w55 i0 11 1).bind fun x57 =>
        (tq_sz w55 k56 x57 (0 : Int32)).bind fun w58 =>
        (tq_gr w58 i0 11 22).bind fun k59 =>
        (tq_gi w58 i0 11 1).bind fun x60 =>
        (tq_sz w58 k59 x60 (0 : Int32)).bind fun w61 =>
        (tq_gi w61 i0 11 1).bind fun x62 =>
        (tq_pf w61 i0 11 1 (.int ((x62 + (1 : Int32))))).bind fun w63 =>
        some w63
      else
        (tq_gr hh i0 11 16).bind fun k6 =>
        (tq_ai hh k6 x3).bind fun x7 =>
        if x7 = (2 : Int32) then
          (tq_gr hh i0 11 3).bind fun k24 =>
          (tq_gr hh i0 11 16).bind fun k25 =>
          (tq_ai hh k25 (x3 + (1 : Int32))).bind fun x26 =>
          (tq_gr hh i0 11 16).bind fun k27 =>
          (tq_ai hh k27 (x3 + (5 : Int32))).bind fun x28 =>
          (tq_si hh k24 x26 x28).bind fun w29 =>
          some w29
        else
          (tq_gr hh i0 11 16).bind fun k8 =>
          (tq_ai hh k8 x3).bind fun x9 =>
          if x9 = (3 : Int32) then
            (tq_gr hh i0 11 4).bind fun k18 =>
            (tq_gr hh i0 11 16).bind fun k19 =>
            (tq_ai hh k19 (x3 + (1 : Int32))).bind fun x20 =>
            (tq_gr hh i0 11 16).bind fun k21 =>
            (tq_ai hh k21 (x3 + (6 : Int32))).bind fun x22 =>
            (tq_si hh k18 x20 x22).bind fun w23 =>
            some w23
          else
            (tq_gr hh i0 11 16).bind fun k10 =>
            (tq_ai hh k10 x3).bind fun x11 =>
            if x11 = (5 : Int32) then
              (tq_gr hh i0 11 5).bind fun k12 =>
              (tq_gr hh i0 11 16).bind fun k13 =>
              (tq_ai hh k13 (x3 + (1 : Int32))).bind fun x14 =>
              (tq_gr hh i0 11 16).bind fun k15 =>
              (tq_ai hh k15 (x3 + (6 : Int32))).bind fun x16 =>
              (tq_si hh k12 x14 x16).bind fun w17 =>
              some w17
            else
              some hh).bind fun p64 =>
      tq_let (y2 + (1 : Int32)) fun x65 =>
      some (.inl (x65, p64))
def f_X11_perform_b270 (i0 : Nat) (i1 : Int32) (i2 : Int32) (s : Int32 × tq_H) : Option ((Int32 × tq_H) ⊕ (tq_H)) := match s with
  | (y3, hh) =>
    if y3 ≥ i1 then
      some (.inr hh)
    else
      (tq_gr hh i0 11 22).bind fun k69 =>
      (tq_az hh k69 y3).bind fun x70 =>
      (if x70 = 0 then
        some hh
      else
        (tq_gr hh i0 11 2).bind fun k71 =>
        (tq_ai hh k71 y3).bind fun x72 =>
        if x72 = 0 then
          (tq_is hh i0 11).bind fun _ =>
          (f_X11_countBack i0 y3 hh).bind fun v73 =>
          (tq_is hh i0 11).bind fun _ =>
          (f_X11_layChildren i0 y3 v73 hh).bind fun v75 =>
          some v75
        else
          some hh).bind fun p77 =>
      tq_let (y3 + (1 : Int32)) fun x78 =>
      some (.inl (x78, p77))
def f_X11_perform_b316 (i0 : Nat) (s : Int32 × tq_H) : Option ((Int32 × tq_H) ⊕ (tq_H)) := match s with
  | (y3, hh) =>
    (tq_gi hh i0 11 15).bind fun x81 =>
    if y3 ≥ x81 then
      some (.inr hh)
    else
      (tq_gr hh i0 11 16).bind fun k82 =>
      (tq_ai hh k82 ((7 : Int32) * y3)).bind fun x83 =>
      (if x83 = (1 : Int32) then
        (tq_gr hh i0 11 9).bind fun k84 =>
        (tq_gr hh i0 11 16).bind fun k85 =>
        (tq_ai hh k85 (((7 : Int32) * y3) + (1 : Int32))).bind fun x86 =>
        (tq_sz hh k84 x86 (0 : Int32)).bind fun w87 =>
        (tq_gr w87 i0 11 6).bind fun k88 =>
        (tq_gr w87 i0 11 16).bind fun k89 =>
        (tq_ai w87 k89 (((7 : Int32) * y3) + (1 : Int32))).bind fun x90 =>
        (tq_si w87 k88 x90 (-1 : Int32)).bind fun w91 =>
        some w91
      else
        some hh).bind fun p92 =>
      tq_let (y3 + (1 : Int32)) fun x93 =>
      some (.inl (x93, p92))
def f_X11_perform (t : Nat) (h : tq_H) : Option (tq_H) :=
  (tq_gi h t 11 1).bind fun x1 =>
  (tq_loop (f_X11_perform_b7 t x1) tq_N ((0 : Int32), h)).bind fun o66 =>
  (tq_gi o66 t 11 1).bind fun x67 =>
  (tq_pf o66 t 11 1 (.int x1)).bind fun w68 =>
  (tq_loop (f_X11_perform_b270 t x1 x67) tq_N ((0 : Int32), w68)).bind fun o79 =>
  (tq_pf o79 t 11 1 (.int x67)).bind fun w80 =>
  (tq_loop (f_X11_perform_b316 t) tq_N ((0 : Int32), w80)).bind fun o94 =>
  some o94
set_option maxHeartbeats 4000000 in
theorem l_X11_perform_7 {l : Launch} {d : Nat} {Q : tq_R → tq_H → Prop} (hd9 : 2 ≤ d) (i0 : Nat) (i1 : Int32) : ∀ (n : Nat) (y2 : Int32) (hh : tq_H) (o : tq_H), tq_loop (f_X11_perform_b7 i0 i1) n (y2, hh) = some o → tq_W l mX11_perform d 0 0 Q 258 [(0, .ref i0), (1, .int i1)] [] o → tq_W l mX11_perform d 0 0 Q 7 [(0, .ref i0), (1, .int i1), (2, .int y2)] [] hh := by
  intro n
  induction n with
  | zero => intro y2 hh o hl; cases hl
  | succ n ih =>
    intro y2 hh o hl hk
    obtain ⟨oo, hf, ho⟩ := tq_loop_s hl
    refine tq_iload_n (M := mX11_perform) (pc := 7) dX11_perform_7 rfl ?_
    refine tq_aload_n (M := mX11_perform) (pc := 8) dX11_perform_8 rfl ?_
    obtain ⟨x2, ex2, hf⟩ := tq_be hf
    refine tq_getI (M := mX11_perform) (pc := 9) tk_c11 (by decide) dX11_perform_9 tk_RX11_191 rfl ex2 ?_
    refine tq_icmp_ge (M := mX11_perform) (pc := 12) (tgt := 258) dX11_perform_12 (by decide) (fun cc => ?_) (fun cc => ?_)
    · have hf := tq_ifp hf cc
      refine tq_pick (L2 := [(0, .ref i0), (1, .int i1)]) [0, 1] rfl ?_
      cases (Option.some.inj hf)
      cases (tq_lx ho)
      exact hk
    · have hf := tq_ifn hf cc
      refine tq_bipush (M := mX11_perform) (pc := 15) dX11_perform_15 tk_kb_7 ?_
      refine tq_iload_n (M := mX11_perform) (pc := 17) dX11_perform_17 rfl ?_
      refine tq_imul (M := mX11_perform) (pc := 18) dX11_perform_18 ?_
      obtain ⟨x3, ex3, hf⟩ := tq_le hf
      refine tq_istore_n (M := mX11_perform) (pc := 19) rfl dX11_perform_19 (L2 := [(3, .int x3), (0, .ref i0), (1, .int i1), (2, .int y2)]) (by decide) (by rw [ex3]; rfl) ?_
      refine tq_aload_n (M := mX11_perform) (pc := 20) dX11_perform_20 rfl ?_
      obtain ⟨k4, ek4, hf⟩ := tq_be hf
      refine tq_getR (M := mX11_perform) (pc := 21) tk_c11 (by decide) dX11_perform_21 tk_RX11_44 rfl ek4 ?_
      refine tq_iload_n (M := mX11_perform) (pc := 24) dX11_perform_24 rfl ?_
      obtain ⟨x5, ex5, hf⟩ := tq_be hf
      refine tq_ialdF (M := mX11_perform) (pc := 25) dX11_perform_25 ex5 ?_
      obtain ⟨p64, ep64, hf⟩ := tq_be hf
      have HJ26 : tq_W l mX11_perform d 0 0 Q 252 [(0, .ref i0), (1, .int i1), (2, .int y2)] [] p64 := by
        obtain ⟨x65, ex65, hf⟩ := tq_le hf
        refine tq_iinc (M := mX11_perform) (pc := 252) (v := x65) (L2 := [(2, .int x65), (0, .ref i0), (1, .int i1)]) dX11_perform_252 rfl (by rw [ex65, tk_ki_1]) (by decide) rfl ?_
        refine tq_goto (M := mX11_perform) (pc := 255) (tgt := 7) dX11_perform_255 (by decide) ?_
        refine tq_pick (L2 := [(0, .ref i0), (1, .int i1), (2, .int x65)]) [1, 2, 0] rfl ?_
        cases (Option.some.inj hf)
        exact ih _ _ o (tq_lc ho) hk
      refine tq_if_ne (M := mX11_perform) (pc := 26) (tgt := 151) dX11_perform_26 (by decide) (fun cc => ?_) (fun cc => ?_)
      · have hf := tq_ifn ep64 cc
        refine tq_aload_n (M := mX11_perform) (pc := 151) dX11_perform_151 rfl ?_
        obtain ⟨k6, ek6, hf⟩ := tq_be hf
        refine tq_getR (M := mX11_perform) (pc := 152) tk_c11 (by decide) dX11_perform_152 tk_RX11_44 rfl ek6 ?_
        refine tq_iload_n (M := mX11_perform) (pc := 155) dX11_perform_155 rfl ?_
        obtain ⟨x7, ex7, hf⟩ := tq_be hf
        refine tq_ialdF (M := mX11_perform) (pc := 156) dX11_perform_156 ex7 ?_
        refine tq_iconst (M := mX11_perform) (pc := 157) dX11_perform_157 tk_ki_2 ?_
        refine tq_icmp_ne (M := mX11_perform) (pc := 158) (tgt := 185) dX11_perform_158 (by decide) (fun cc => ?_) (fun cc => ?_)
        · have hf := tq_ifn hf cc
          refine tq_aload_n (M := mX11_perform) (pc := 185) dX11_perform_185 rfl ?_
          obtain ⟨k8, ek8, hf⟩ := tq_be hf
          refine tq_getR (M := mX11_perform) (pc := 186) tk_c11 (by decide) dX11_perform_186 tk_RX11_44 rfl ek8 ?_
          refine tq_iload_n (M := mX11_perform) (pc := 189) dX11_perform_189 rfl ?_
          obtain ⟨x9, ex9, hf⟩ := tq_be hf
          refine tq_ialdF (M := mX11_perform) (pc := 190) dX11_perform_190 ex9 ?_
          refine tq_iconst (M := mX11_perform) (pc := 191) dX11_perform_191 tk_ki_3 ?_
          refine tq_icmp_ne (M := mX11_perform) (pc := 192) (tgt := 220) dX11_perform_192 (by decide) (fun cc => ?_) (fun cc => ?_)
          · have hf := tq_ifn hf cc
            refine tq_aload_n (M := mX11_perform) (pc := 220) dX11_perform_220 rfl ?_
            obtain ⟨k10, ek10, hf⟩ := tq_be hf
            refine tq_getR (M := mX11_perform) (pc := 221) tk_c11 (by decide) dX11_perform_221 tk_RX11_44 rfl ek10 ?_
            refine tq_iload_n (M := mX11_perform) (pc := 224) dX11_perform_224 rfl ?_
            obtain ⟨x11, ex11, hf⟩ := tq_be hf
            refine tq_ialdF (M := mX11_perform) (pc := 225) dX11_perform_225 ex11 ?_
            refine tq_iconst (M := mX11_perform) (pc := 226) dX11_perform_226 tk_ki_5 ?_
            refine tq_icmp_ne (M := mX11_perform) (pc := 227) (tgt := 252) dX11_perform_227 (by decide) (fun cc => ?_) (fun cc => ?_)
            · have hf := tq_ifn hf cc
              refine tq_pick (L2 := [(0, .ref i0), (1, .int i1), (2, .int y2)]) [1, 2, 3] rfl ?_
              cases (Option.some.inj hf)
              exact HJ26
            · have hf := tq_ifp hf cc
              refine tq_aload_n (M := mX11_perform) (pc := 230) dX11_perform_230 rfl ?_
              obtain ⟨k12, ek12, hf⟩ := tq_be hf
              refine tq_getR (M := mX11_perform) (pc := 231) tk_c11 (by decide) dX11_perform_231 tk_RX11_19 rfl ek12 ?_
              refine tq_aload_n (M := mX11_perform) (pc := 234) dX11_perform_234 rfl ?_
              obtain ⟨k13, ek13, hf⟩ := tq_be hf
              refine tq_getR (M := mX11_perform) (pc := 235) tk_c11 (by decide) dX11_perform_235 tk_RX11_44 rfl ek13 ?_
              refine tq_iload_n (M := mX11_perform) (pc := 238) dX11_perform_238 rfl ?_
              refine tq_iconst (M := mX11_perform) (pc := 239) dX11_perform_239 tk_ki_1 ?_
              refine tq_iadd (M := mX11_perform) (pc := 240) dX11_perform_240 ?_
              obtain ⟨x14, ex14, hf⟩ := tq_be hf
              refine tq_ialdF (M := mX11_perform) (pc := 241) dX11_perform_241 ex14 ?_
              refine tq_aload_n (M := mX11_perform) (pc := 242) dX11_perform_242 rfl ?_
              obtain ⟨k15, ek15, hf⟩ := tq_be hf
              refine tq_getR (M := mX11_perform) (pc := 243) tk_c11 (by decide) dX11_perform_243 tk_RX11_44 rfl ek15 ?_
              refine tq_iload_n (M := mX11_perform) (pc := 246) dX11_perform_246 rfl ?_
              refine tq_bipush (M := mX11_perform) (pc := 247) dX11_perform_247 tk_kb_6 ?_
              refine tq_iadd (M := mX11_perform) (pc := 249) dX11_perform_249 ?_
              obtain ⟨x16, ex16, hf⟩ := tq_be hf
              refine tq_ialdF (M := mX11_perform) (pc := 250) dX11_perform_250 ex16 ?_
              obtain ⟨w17, ew17, hf⟩ := tq_be hf
              refine tq_iastF (M := mX11_perform) (pc := 251) dX11_perform_251 ew17 ?_
              refine tq_pick (L2 := [(0, .ref i0), (1, .int i1), (2, .int y2)]) [1, 2, 3] rfl ?_
              cases (Option.some.inj hf)
              exact HJ26
          · have hf := tq_ifp hf cc
            refine tq_aload_n (M := mX11_perform) (pc := 195) dX11_perform_195 rfl ?_
            obtain ⟨k18, ek18, hf⟩ := tq_be hf
            refine tq_getR (M := mX11_perform) (pc := 196) tk_c11 (by decide) dX11_perform_196 tk_RX11_16 rfl ek18 ?_
            refine tq_aload_n (M := mX11_perform) (pc := 199) dX11_perform_199 rfl ?_
            obtain ⟨k19, ek19, hf⟩ := tq_be hf
            refine tq_getR (M := mX11_perform) (pc := 200) tk_c11 (by decide) dX11_perform_200 tk_RX11_44 rfl ek19 ?_
            refine tq_iload_n (M := mX11_perform) (pc := 203) dX11_perform_203 rfl ?_
            refine tq_iconst (M := mX11_perform) (pc := 204) dX11_perform_204 tk_ki_1 ?_
            refine tq_iadd (M := mX11_perform) (pc := 205) dX11_perform_205 ?_
            obtain ⟨x20, ex20, hf⟩ := tq_be hf
            refine tq_ialdF (M := mX11_perform) (pc := 206) dX11_perform_206 ex20 ?_
            refine tq_aload_n (M := mX11_perform) (pc := 207) dX11_perform_207 rfl ?_
            obtain ⟨k21, ek21, hf⟩ := tq_be hf
            refine tq_getR (M := mX11_perform) (pc := 208) tk_c11 (by decide) dX11_perform_208 tk_RX11_44 rfl ek21 ?_
            refine tq_iload_n (M := mX11_perform) (pc := 211) dX11_perform_211 rfl ?_
            refine tq_bipush (M := mX11_perform) (pc := 212) dX11_perform_212 tk_kb_6 ?_
            refine tq_iadd (M := mX11_perform) (pc := 214) dX11_perform_214 ?_
            obtain ⟨x22, ex22, hf⟩ := tq_be hf
            refine tq_ialdF (M := mX11_perform) (pc := 215) dX11_perform_215 ex22 ?_
            obtain ⟨w23, ew23, hf⟩ := tq_be hf
            refine tq_iastF (M := mX11_perform) (pc := 216) dX11_perform_216 ew23 ?_
            refine tq_goto (M := mX11_perform) (pc := 217) (tgt := 252) dX11_perform_217 (by decide) ?_
            refine tq_pick (L2 := [(0, .ref i0), (1, .int i1), (2, .int y2)]) [1, 2, 3] rfl ?_
            cases (Option.some.inj hf)
            exact HJ26
        · have hf := tq_ifp hf cc
          refine tq_aload_n (M := mX11_perform) (pc := 161) dX11_perform_161 rfl ?_
          obtain ⟨k24, ek24, hf⟩ := tq_be hf
          refine tq_getR (M := mX11_perform) (pc := 162) tk_c11 (by decide) dX11_perform_162 tk_RX11_13 rfl ek24 ?_
          refine tq_aload_n (M := mX11_perform) (pc := 165) dX11_perform_165 rfl ?_
          obtain ⟨k25, ek25, hf⟩ := tq_be hf
          refine tq_getR (M := mX11_perform) (pc := 166) tk_c11 (by decide) dX11_perform_166 tk_RX11_44 rfl ek25 ?_
          refine tq_iload_n (M := mX11_perform) (pc := 169) dX11_perform_169 rfl ?_
          refine tq_iconst (M := mX11_perform) (pc := 170) dX11_perform_170 tk_ki_1 ?_
          refine tq_iadd (M := mX11_perform) (pc := 171) dX11_perform_171 ?_
          obtain ⟨x26, ex26, hf⟩ := tq_be hf
          refine tq_ialdF (M := mX11_perform) (pc := 172) dX11_perform_172 ex26 ?_
          refine tq_aload_n (M := mX11_perform) (pc := 173) dX11_perform_173 rfl ?_
          obtain ⟨k27, ek27, hf⟩ := tq_be hf
          refine tq_getR (M := mX11_perform) (pc := 174) tk_c11 (by decide) dX11_perform_174 tk_RX11_44 rfl ek27 ?_
          refine tq_iload_n (M := mX11_perform) (pc := 177) dX11_perform_177 rfl ?_
          refine tq_iconst (M := mX11_perform) (pc := 178) dX11_perform_178 tk_ki_5 ?_
          refine tq_iadd (M := mX11_perform) (pc := 179) dX11_perform_179 ?_
          obtain ⟨x28, ex28, hf⟩ := tq_be hf
          refine tq_ialdF (M := mX11_perform) (pc := 180) dX11_perform_180 ex28 ?_
          obtain ⟨w29, ew29, hf⟩ := tq_be hf
          refine tq_iastF (M := mX11_perform) (pc := 181) dX11_perform_181 ew29 ?_
          refine tq_goto (M := mX11_perform) (pc := 182) (tgt := 252) dX11_perform_182 (by decide) ?_
          refine tq_pick (L2 := [(0, .ref i0), (1, .int i1), (2, .int y2)]) [1, 2, 3] rfl ?_
          cases (Option.some.inj hf)
          exact HJ26
      · have hf := tq_ifp ep64 cc
        refine tq_aload_n (M := mX11_perform) (pc := 29) dX11_perform_29 rfl ?_
        obtain ⟨k30, ek30, hf⟩ := tq_be hf
        refine tq_getR (M := mX11_perform) (pc := 30) tk_c11 (by decide) dX11_perform_30 tk_RX11_7 rfl ek30 ?_
        refine tq_aload_n (M := mX11_perform) (pc := 33) dX11_perform_33 rfl ?_
        obtain ⟨x31, ex31, hf⟩ := tq_be hf
        refine tq_getI (M := mX11_perform) (pc := 34) tk_c11 (by decide) dX11_perform_34 tk_RX11_159 rfl ex31 ?_
        refine tq_aload_n (M := mX11_perform) (pc := 37) dX11_perform_37 rfl ?_
        obtain ⟨k32, ek32, hf⟩ := tq_be hf
        refine tq_getR (M := mX11_perform) (pc := 38) tk_c11 (by decide) dX11_perform_38 tk_RX11_44 rfl ek32 ?_
        refine tq_iload_n (M := mX11_perform) (pc := 41) dX11_perform_41 rfl ?_
        refine tq_iconst (M := mX11_perform) (pc := 42) dX11_perform_42 tk_ki_4 ?_
        refine tq_iadd (M := mX11_perform) (pc := 43) dX11_perform_43 ?_
        obtain ⟨x33, ex33, hf⟩ := tq_be hf
        refine tq_ialdF (M := mX11_perform) (pc := 44) dX11_perform_44 ex33 ?_
        obtain ⟨w34, ew34, hf⟩ := tq_be hf
        refine tq_iastF (M := mX11_perform) (pc := 45) dX11_perform_45 ew34 ?_
        refine tq_aload_n (M := mX11_perform) (pc := 46) dX11_perform_46 rfl ?_
        obtain ⟨k35, ek35, hf⟩ := tq_be hf
        refine tq_getR (M := mX11_perform) (pc := 47) tk_c11 (by decide) dX11_perform_47 tk_RX11_13 rfl ek35 ?_
        refine tq_aload_n (M := mX11_perform) (pc := 50) dX11_perform_50 rfl ?_
        obtain ⟨x36, ex36, hf⟩ := tq_be hf
        refine tq_getI (M := mX11_perform) (pc := 51) tk_c11 (by decide) dX11_perform_51 tk_RX11_159 rfl ex36 ?_
        refine tq_aload_n (M := mX11_perform) (pc := 54) dX11_perform_54 rfl ?_
        obtain ⟨k37, ek37, hf⟩ := tq_be hf
        refine tq_getR (M := mX11_perform) (pc := 55) tk_c11 (by decide) dX11_perform_55 tk_RX11_44 rfl ek37 ?_
        refine tq_iload_n (M := mX11_perform) (pc := 58) dX11_perform_58 rfl ?_
        refine tq_iconst (M := mX11_perform) (pc := 59) dX11_perform_59 tk_ki_5 ?_
        refine tq_iadd (M := mX11_perform) (pc := 60) dX11_perform_60 ?_
        obtain ⟨x38, ex38, hf⟩ := tq_be hf
        refine tq_ialdF (M := mX11_perform) (pc := 61) dX11_perform_61 ex38 ?_
        obtain ⟨w39, ew39, hf⟩ := tq_be hf
        refine tq_iastF (M := mX11_perform) (pc := 62) dX11_perform_62 ew39 ?_
        refine tq_aload_n (M := mX11_perform) (pc := 63) dX11_perform_63 rfl ?_
        obtain ⟨k40, ek40, hf⟩ := tq_be hf
        refine tq_getR (M := mX11_perform) (pc := 64) tk_c11 (by decide) dX11_perform_64 tk_RX11_16 rfl ek40 ?_
        refine tq_aload_n (M := mX11_perform) (pc := 67) dX11_perform_67 rfl ?_
        obtain ⟨x41, ex41, hf⟩ := tq_be hf
        refine tq_getI (M := mX11_perform) (pc := 68) tk_c11 (by decide) dX11_perform_68 tk_RX11_159 rfl ex41 ?_
        refine tq_aload_n (M := mX11_perform) (pc := 71) dX11_perform_71 rfl ?_
        obtain ⟨k42, ek42, hf⟩ := tq_be hf
        refine tq_getR (M := mX11_perform) (pc := 72) tk_c11 (by decide) dX11_perform_72 tk_RX11_44 rfl ek42 ?_
        refine tq_iload_n (M := mX11_perform) (pc := 75) dX11_perform_75 rfl ?_
        refine tq_bipush (M := mX11_perform) (pc := 76) dX11_perform_76 tk_kb_6 ?_
        refine tq_iadd (M := mX11_perform) (pc := 78) dX11_perform_78 ?_
        obtain ⟨x43, ex43, hf⟩ := tq_be hf
        refine tq_ialdF (M := mX11_perform) (pc := 79) dX11_perform_79 ex43 ?_
        obtain ⟨w44, ew44, hf⟩ := tq_be hf
        refine tq_iastF (M := mX11_perform) (pc := 80) dX11_perform_80 ew44 ?_
        refine tq_aload_n (M := mX11_perform) (pc := 81) dX11_perform_81 rfl ?_
        obtain ⟨k45, ek45, hf⟩ := tq_be hf
        refine tq_getR (M := mX11_perform) (pc := 82) tk_c11 (by decide) dX11_perform_82 tk_RX11_19 rfl ek45 ?_
        refine tq_aload_n (M := mX11_perform) (pc := 85) dX11_perform_85 rfl ?_
        obtain ⟨x46, ex46, hf⟩ := tq_be hf
        refine tq_getI (M := mX11_perform) (pc := 86) tk_c11 (by decide) dX11_perform_86 tk_RX11_159 rfl ex46 ?_
        refine tq_iconst (M := mX11_perform) (pc := 89) dX11_perform_89 tk_ki_m1 ?_
        obtain ⟨w47, ew47, hf⟩ := tq_be hf
        refine tq_iastF (M := mX11_perform) (pc := 90) dX11_perform_90 ew47 ?_
        refine tq_aload_n (M := mX11_perform) (pc := 91) dX11_perform_91 rfl ?_
        obtain ⟨k48, ek48, hf⟩ := tq_be hf
        refine tq_getR (M := mX11_perform) (pc := 92) tk_c11 (by decide) dX11_perform_92 tk_RX11_22 rfl ek48 ?_
        refine tq_aload_n (M := mX11_perform) (pc := 95) dX11_perform_95 rfl ?_
        obtain ⟨x49, ex49, hf⟩ := tq_be hf
        refine tq_getI (M := mX11_perform) (pc := 96) tk_c11 (by decide) dX11_perform_96 tk_RX11_159 rfl ex49 ?_
        refine tq_aload_n (M := mX11_perform) (pc := 99) dX11_perform_99 rfl ?_
        obtain ⟨k50, ek50, hf⟩ := tq_be hf
        refine tq_getR (M := mX11_perform) (pc := 100) tk_c11 (by decide) dX11_perform_100 tk_RX11_44 rfl ek50 ?_
        refine tq_iload_n (M := mX11_perform) (pc := 103) dX11_perform_103 rfl ?_
        refine tq_iconst (M := mX11_perform) (pc := 104) dX11_perform_104 tk_ki_2 ?_
        refine tq_iadd (M := mX11_perform) (pc := 105) dX11_perform_105 ?_
        obtain ⟨x51, ex51, hf⟩ := tq_be hf
        refine tq_ialdF (M := mX11_perform) (pc := 106) dX11_perform_106 ex51 ?_
        obtain ⟨w52, ew52, hf⟩ := tq_be hf
        refine tq_iastF (M := mX11_perform) (pc := 107) dX11_perform_107 ew52 ?_
        refine tq_aload_n (M := mX11_perform) (pc := 108) dX11_perform_108 rfl ?_
        obtain ⟨k53, ek53, hf⟩ := tq_be hf
        refine tq_getR (M := mX11_perform) (pc := 109) tk_c11 (by decide) dX11_perform_109 tk_RX11_25 rfl ek53 ?_
        refine tq_aload_n (M := mX11_perform) (pc := 112) dX11_perform_112 rfl ?_
        obtain ⟨x54, ex54, hf⟩ := tq_be hf
        refine tq_getI (M := mX11_perform) (pc := 113) tk_c11 (by decide) dX11_perform_113 tk_RX11_159 rfl ex54 ?_
        refine tq_iconst (M := mX11_perform) (pc := 116) dX11_perform_116 tk_ki_0 ?_
        obtain ⟨w55, ew55, hf⟩ := tq_be hf
        refine tq_iastF (M := mX11_perform) (pc := 117) dX11_perform_117 ew55 ?_
        refine tq_aload_n (M := mX11_perform) (pc := 118) dX11_perform_118 rfl ?_
        obtain ⟨k56, ek56, hf⟩ := tq_be hf
        refine tq_getR (M := mX11_perform) (pc := 119) tk_c11 (by decide) dX11_perform_119 tk_RX11_31 rfl ek56 ?_
        refine tq_aload_n (M := mX11_perform) (pc := 122) dX11_perform_122 rfl ?_
        obtain ⟨x57, ex57, hf⟩ := tq_be hf
        refine tq_getI (M := mX11_perform) (pc := 123) tk_c11 (by decide) dX11_perform_123 tk_RX11_159 rfl ex57 ?_
        refine tq_iconst (M := mX11_perform) (pc := 126) dX11_perform_126 tk_ki_0 ?_
        obtain ⟨w58, ew58, hf⟩ := tq_be hf
        refine tq_zastF (M := mX11_perform) (pc := 127) dX11_perform_127 ew58 ?_
        refine tq_aload_n (M := mX11_perform) (pc := 128) dX11_perform_128 rfl ?_
        obtain ⟨k59, ek59, hf⟩ := tq_be hf
        refine tq_getR (M := mX11_perform) (pc := 129) tk_c11 (by decide) dX11_perform_129 tk_RX11_62 rfl ek59 ?_
        refine tq_aload_n (M := mX11_perform) (pc := 132) dX11_perform_132 rfl ?_
        obtain ⟨x60, ex60, hf⟩ := tq_be hf
        refine tq_getI (M := mX11_perform) (pc := 133) tk_c11 (by decide) dX11_perform_133 tk_RX11_159 rfl ex60 ?_
        refine tq_iconst (M := mX11_perform) (pc := 136) dX11_perform_136 tk_ki_0 ?_
        obtain ⟨w61, ew61, hf⟩ := tq_be hf
        refine tq_zastF (M := mX11_perform) (pc := 137) dX11_perform_137 ew61 ?_
        refine tq_aload_n (M := mX11_perform) (pc := 138) dX11_perform_138 rfl ?_
        refine tq_dup (M := mX11_perform) (pc := 139) dX11_perform_139 rfl ?_
        obtain ⟨x62, ex62, hf⟩ := tq_be hf
        refine tq_getI (M := mX11_perform) (pc := 140) tk_c11 (by decide) dX11_perform_140 tk_RX11_159 rfl ex62 ?_
        refine tq_iconst (M := mX11_perform) (pc := 143) dX11_perform_143 tk_ki_1 ?_
        refine tq_iadd (M := mX11_perform) (pc := 144) dX11_perform_144 ?_
        obtain ⟨w63, ew63, hf⟩ := tq_be hf
        refine tq_putv (M := mX11_perform) (pc := 145) tk_c11 (by decide) dX11_perform_145 tk_RX11_159 rfl (Or.inl rfl) ew63 (tq_nI _) ?_
        refine tq_goto (M := mX11_perform) (pc := 148) (tgt := 252) dX11_perform_148 (by decide) ?_
        refine tq_pick (L2 := [(0, .ref i0), (1, .int i1), (2, .int y2)]) [1, 2, 3] rfl ?_
        cases (Option.some.inj hf)
        exact HJ26
set_option maxHeartbeats 4000000 in
theorem l_X11_perform_270 {l : Launch} {d : Nat} {Q : tq_R → tq_H → Prop} (hd9 : 2 ≤ d) (i0 : Nat) (i1 : Int32) (i2 : Int32) : ∀ (n : Nat) (y3 : Int32) (hh : tq_H) (o : tq_H), tq_loop (f_X11_perform_b270 i0 i1 i2) n (y3, hh) = some o → tq_W l mX11_perform d 0 0 Q 309 [(0, .ref i0), (2, .int i2)] [] o → tq_W l mX11_perform d 0 0 Q 270 [(0, .ref i0), (1, .int i1), (2, .int i2), (3, .int y3)] [] hh := by
  intro n
  induction n with
  | zero => intro y3 hh o hl; cases hl
  | succ n ih =>
    intro y3 hh o hl hk
    obtain ⟨oo, hf, ho⟩ := tq_loop_s hl
    refine tq_iload_n (M := mX11_perform) (pc := 270) dX11_perform_270 rfl ?_
    refine tq_iload_n (M := mX11_perform) (pc := 271) dX11_perform_271 rfl ?_
    refine tq_icmp_ge (M := mX11_perform) (pc := 272) (tgt := 309) dX11_perform_272 (by decide) (fun cc => ?_) (fun cc => ?_)
    · have hf := tq_ifp hf cc
      refine tq_pick (L2 := [(0, .ref i0), (2, .int i2)]) [0, 2] rfl ?_
      cases (Option.some.inj hf)
      cases (tq_lx ho)
      exact hk
    · have hf := tq_ifn hf cc
      refine tq_aload_n (M := mX11_perform) (pc := 275) dX11_perform_275 rfl ?_
      obtain ⟨k69, ek69, hf⟩ := tq_be hf
      refine tq_getR (M := mX11_perform) (pc := 276) tk_c11 (by decide) dX11_perform_276 tk_RX11_62 rfl ek69 ?_
      refine tq_iload_n (M := mX11_perform) (pc := 279) dX11_perform_279 rfl ?_
      obtain ⟨x70, ex70, hf⟩ := tq_be hf
      refine tq_zaldF (M := mX11_perform) (pc := 280) dX11_perform_280 ex70 ?_
      obtain ⟨p77, ep77, hf⟩ := tq_be hf
      have HJ281 : tq_W l mX11_perform d 0 0 Q 303 [(0, .ref i0), (1, .int i1), (2, .int i2), (3, .int y3)] [] p77 := by
        obtain ⟨x78, ex78, hf⟩ := tq_le hf
        refine tq_iinc (M := mX11_perform) (pc := 303) (v := x78) (L2 := [(3, .int x78), (0, .ref i0), (1, .int i1), (2, .int i2)]) dX11_perform_303 rfl (by rw [ex78, tk_ki_1]) (by decide) rfl ?_
        refine tq_goto (M := mX11_perform) (pc := 306) (tgt := 270) dX11_perform_306 (by decide) ?_
        refine tq_pick (L2 := [(0, .ref i0), (1, .int i1), (2, .int i2), (3, .int x78)]) [1, 2, 3, 0] rfl ?_
        cases (Option.some.inj hf)
        exact ih _ _ o (tq_lc ho) hk
      refine tq_if_eq (M := mX11_perform) (pc := 281) (tgt := 303) dX11_perform_281 (by decide) (fun cc => ?_) (fun cc => ?_)
      · have hf := tq_ifp ep77 cc
        cases (Option.some.inj hf)
        exact HJ281
      · have hf := tq_ifn ep77 cc
        refine tq_aload_n (M := mX11_perform) (pc := 284) dX11_perform_284 rfl ?_
        obtain ⟨k71, ek71, hf⟩ := tq_be hf
        refine tq_getR (M := mX11_perform) (pc := 285) tk_c11 (by decide) dX11_perform_285 tk_RX11_7 rfl ek71 ?_
        refine tq_iload_n (M := mX11_perform) (pc := 288) dX11_perform_288 rfl ?_
        obtain ⟨x72, ex72, hf⟩ := tq_be hf
        refine tq_ialdF (M := mX11_perform) (pc := 289) dX11_perform_289 ex72 ?_
        refine tq_if_ne (M := mX11_perform) (pc := 290) (tgt := 303) dX11_perform_290 (by decide) (fun cc => ?_) (fun cc => ?_)
        · have hf := tq_ifn hf cc
          cases (Option.some.inj hf)
          exact HJ281
        · have hf := tq_ifp hf cc
          refine tq_aload_n (M := mX11_perform) (pc := 293) dX11_perform_293 rfl ?_
          refine tq_iload_n (M := mX11_perform) (pc := 294) dX11_perform_294 rfl ?_
          refine tq_aload_n (M := mX11_perform) (pc := 295) dX11_perform_295 rfl ?_
          refine tq_iload_n (M := mX11_perform) (pc := 296) dX11_perform_296 rfl ?_
          obtain ⟨⟨⟩, eu74, hf⟩ := tq_be hf
          obtain ⟨fsu74, eu74⟩ := tq_is_s eu74
          obtain ⟨v73, ev73, hf⟩ := tq_be hf
          refine tq_calV (M := mX11_perform) (pc := 297) (S := [.int y3, .ref i0]) tk_y_X11_countBack tk_v_X11_countBack tk_RX11_264 dX11_perform_297 [.int y3] rfl (S0 := _) rfl eu74 rfl (Nat.le_of_ble_eq_true rfl) (d1 := d - 1) (b1 := 0) (s1 := 0) (bc' := 0) (bs' := 0) (Q1 := fun r h9 => r = .inl (some (.int v73)) ∧ hh = h9) (by omega) rfl rfl (w_X11_countBack (by omega) ev73 (fun _ _ q => q)) (fun E h9 q => nomatch (show (Sum.inr E : tq_R) = Sum.inl _ from q.1)) (fun r9 h9 q => ?_)
          obtain ⟨q1, rfl⟩ := q
          cases (show (Sum.inl r9 : tq_R) = Sum.inl (some (.int v73)) from q1)
          obtain ⟨⟨⟩, eu76, hf⟩ := tq_be hf
          obtain ⟨fsu76, eu76⟩ := tq_is_s eu76
          obtain ⟨v75, ev75, hf⟩ := tq_be hf
          refine tq_calV (M := mX11_perform) (pc := 300) (S := []) tk_y_X11_layChildren tk_v_X11_layChildren tk_RX11_267 dX11_perform_300 [.int y3, .int v73] rfl (S0 := _) rfl eu76 rfl (Nat.le_of_ble_eq_true rfl) (d1 := d - 1) (b1 := 0) (s1 := 0) (bc' := 0) (bs' := 0) (Q1 := fun r h9 => r = .inl none ∧ v75 = h9) (by omega) rfl rfl (w_X11_layChildren (by omega) ev75 (fun _ _ q => q)) (fun E h9 q => nomatch (show (Sum.inr E : tq_R) = Sum.inl _ from q.1)) (fun r9 h9 q => ?_)
          obtain ⟨q1, rfl⟩ := q
          cases (show (Sum.inl r9 : tq_R) = Sum.inl (none) from q1)
          cases (Option.some.inj hf)
          exact HJ281
set_option maxHeartbeats 4000000 in
theorem l_X11_perform_316 {l : Launch} {d : Nat} {Q : tq_R → tq_H → Prop} (hd9 : 2 ≤ d) (i0 : Nat) : ∀ (n : Nat) (y3 : Int32) (hh : tq_H) (o : tq_H), tq_loop (f_X11_perform_b316 i0) n (y3, hh) = some o → tq_W l mX11_perform d 0 0 Q 377 [] [] o → tq_W l mX11_perform d 0 0 Q 316 [(0, .ref i0), (3, .int y3)] [] hh := by
  intro n
  induction n with
  | zero => intro y3 hh o hl; cases hl
  | succ n ih =>
    intro y3 hh o hl hk
    obtain ⟨oo, hf, ho⟩ := tq_loop_s hl
    refine tq_iload_n (M := mX11_perform) (pc := 316) dX11_perform_316 rfl ?_
    refine tq_aload_n (M := mX11_perform) (pc := 317) dX11_perform_317 rfl ?_
    obtain ⟨x81, ex81, hf⟩ := tq_be hf
    refine tq_getI (M := mX11_perform) (pc := 318) tk_c11 (by decide) dX11_perform_318 tk_RX11_191 rfl ex81 ?_
    refine tq_icmp_ge (M := mX11_perform) (pc := 321) (tgt := 377) dX11_perform_321 (by decide) (fun cc => ?_) (fun cc => ?_)
    · have hf := tq_ifp hf cc
      refine tq_pick (L2 := []) [] rfl ?_
      cases (Option.some.inj hf)
      cases (tq_lx ho)
      exact hk
    · have hf := tq_ifn hf cc
      refine tq_aload_n (M := mX11_perform) (pc := 324) dX11_perform_324 rfl ?_
      obtain ⟨k82, ek82, hf⟩ := tq_be hf
      refine tq_getR (M := mX11_perform) (pc := 325) tk_c11 (by decide) dX11_perform_325 tk_RX11_44 rfl ek82 ?_
      refine tq_bipush (M := mX11_perform) (pc := 328) dX11_perform_328 tk_kb_7 ?_
      refine tq_iload_n (M := mX11_perform) (pc := 330) dX11_perform_330 rfl ?_
      refine tq_imul (M := mX11_perform) (pc := 331) dX11_perform_331 ?_
      obtain ⟨x83, ex83, hf⟩ := tq_be hf
      refine tq_ialdF (M := mX11_perform) (pc := 332) dX11_perform_332 ex83 ?_
      refine tq_iconst (M := mX11_perform) (pc := 333) dX11_perform_333 tk_ki_1 ?_
      obtain ⟨p92, ep92, hf⟩ := tq_be hf
      have HJ334 : tq_W l mX11_perform d 0 0 Q 371 [(0, .ref i0), (3, .int y3)] [] p92 := by
        obtain ⟨x93, ex93, hf⟩ := tq_le hf
        refine tq_iinc (M := mX11_perform) (pc := 371) (v := x93) (L2 := [(3, .int x93), (0, .ref i0)]) dX11_perform_371 rfl (by rw [ex93, tk_ki_1]) (by decide) rfl ?_
        refine tq_goto (M := mX11_perform) (pc := 374) (tgt := 316) dX11_perform_374 (by decide) ?_
        refine tq_pick (L2 := [(0, .ref i0), (3, .int x93)]) [1, 0] rfl ?_
        cases (Option.some.inj hf)
        exact ih _ _ o (tq_lc ho) hk
      refine tq_icmp_ne (M := mX11_perform) (pc := 334) (tgt := 371) dX11_perform_334 (by decide) (fun cc => ?_) (fun cc => ?_)
      · have hf := tq_ifn ep92 cc
        cases (Option.some.inj hf)
        exact HJ334
      · have hf := tq_ifp ep92 cc
        refine tq_aload_n (M := mX11_perform) (pc := 337) dX11_perform_337 rfl ?_
        obtain ⟨k84, ek84, hf⟩ := tq_be hf
        refine tq_getR (M := mX11_perform) (pc := 338) tk_c11 (by decide) dX11_perform_338 tk_RX11_31 rfl ek84 ?_
        refine tq_aload_n (M := mX11_perform) (pc := 341) dX11_perform_341 rfl ?_
        obtain ⟨k85, ek85, hf⟩ := tq_be hf
        refine tq_getR (M := mX11_perform) (pc := 342) tk_c11 (by decide) dX11_perform_342 tk_RX11_44 rfl ek85 ?_
        refine tq_bipush (M := mX11_perform) (pc := 345) dX11_perform_345 tk_kb_7 ?_
        refine tq_iload_n (M := mX11_perform) (pc := 347) dX11_perform_347 rfl ?_
        refine tq_imul (M := mX11_perform) (pc := 348) dX11_perform_348 ?_
        refine tq_iconst (M := mX11_perform) (pc := 349) dX11_perform_349 tk_ki_1 ?_
        refine tq_iadd (M := mX11_perform) (pc := 350) dX11_perform_350 ?_
        obtain ⟨x86, ex86, hf⟩ := tq_be hf
        refine tq_ialdF (M := mX11_perform) (pc := 351) dX11_perform_351 ex86 ?_
        refine tq_iconst (M := mX11_perform) (pc := 352) dX11_perform_352 tk_ki_0 ?_
        obtain ⟨w87, ew87, hf⟩ := tq_be hf
        refine tq_zastF (M := mX11_perform) (pc := 353) dX11_perform_353 ew87 ?_
        refine tq_aload_n (M := mX11_perform) (pc := 354) dX11_perform_354 rfl ?_
        obtain ⟨k88, ek88, hf⟩ := tq_be hf
        refine tq_getR (M := mX11_perform) (pc := 355) tk_c11 (by decide) dX11_perform_355 tk_RX11_22 rfl ek88 ?_
        refine tq_aload_n (M := mX11_perform) (pc := 358) dX11_perform_358 rfl ?_
        obtain ⟨k89, ek89, hf⟩ := tq_be hf
        refine tq_getR (M := mX11_perform) (pc := 359) tk_c11 (by decide) dX11_perform_359 tk_RX11_44 rfl ek89 ?_
        refine tq_bipush (M := mX11_perform) (pc := 362) dX11_perform_362 tk_kb_7 ?_
        refine tq_iload_n (M := mX11_perform) (pc := 364) dX11_perform_364 rfl ?_
        refine tq_imul (M := mX11_perform) (pc := 365) dX11_perform_365 ?_
        refine tq_iconst (M := mX11_perform) (pc := 366) dX11_perform_366 tk_ki_1 ?_
        refine tq_iadd (M := mX11_perform) (pc := 367) dX11_perform_367 ?_
        obtain ⟨x90, ex90, hf⟩ := tq_be hf
        refine tq_ialdF (M := mX11_perform) (pc := 368) dX11_perform_368 ex90 ?_
        refine tq_iconst (M := mX11_perform) (pc := 369) dX11_perform_369 tk_ki_m1 ?_
        obtain ⟨w91, ew91, hf⟩ := tq_be hf
        refine tq_iastF (M := mX11_perform) (pc := 370) dX11_perform_370 ew91 ?_
        cases (Option.some.inj hf)
        exact HJ334
set_option maxHeartbeats 4000000 in
set_option maxRecDepth 20000 in
theorem w_X11_perform {l : Launch} {d : Nat} (hd9 : 2 ≤ d) {t : Nat} {h : tq_H} {o : tq_H} {Q : tq_R → tq_H → Prop} (hf : f_X11_perform t h = some o) (hQ : ∀ r h9, r = .inl none ∧ o = h9 → Q r h9) : tq_C l yX11_perform cX11_perform 4 none d 0 0 [.ref t] h Q := by
  refine tq_body (y := yX11_perform) false (by decide +kernel) (fun z => by cases z) (Nat.le_of_ble_eq_true rfl) ?_
  show tq_W l mX11_perform d 0 0 Q 0 [(0, .ref t)] [] h
  refine tq_aload_n (M := mX11_perform) (pc := 0) dX11_perform_0 rfl ?_
  obtain ⟨x1, ex1, hf⟩ := tq_be hf
  refine tq_getI (M := mX11_perform) (pc := 1) tk_c11 (by decide) dX11_perform_1 tk_RX11_159 rfl ex1 ?_
  refine tq_istore_n (M := mX11_perform) (pc := 4) rfl dX11_perform_4 (L2 := [(1, .int x1), (0, .ref t)]) (by decide) rfl ?_
  refine tq_iconst (M := mX11_perform) (pc := 5) dX11_perform_5 tk_ki_0 ?_
  refine tq_istore_n (M := mX11_perform) (pc := 6) rfl dX11_perform_6 (L2 := [(2, .int (0 : Int32)), (1, .int x1), (0, .ref t)]) (by decide) rfl ?_
  obtain ⟨o66, eo66, hf⟩ := tq_be hf
  refine tq_pick (L2 := [(0, .ref t), (1, .int x1), (2, .int (0 : Int32))]) [2, 1, 0] rfl ?_
  refine l_X11_perform_7 (by omega) t x1 _ (0 : Int32) h _ eo66 ?_
  refine tq_aload_n (M := mX11_perform) (pc := 258) dX11_perform_258 rfl ?_
  obtain ⟨x67, ex67, hf⟩ := tq_be hf
  refine tq_getI (M := mX11_perform) (pc := 259) tk_c11 (by decide) dX11_perform_259 tk_RX11_159 rfl ex67 ?_
  refine tq_istore_n (M := mX11_perform) (pc := 262) rfl dX11_perform_262 (L2 := [(2, .int x67), (0, .ref t), (1, .int x1)]) (by decide) rfl ?_
  refine tq_aload_n (M := mX11_perform) (pc := 263) dX11_perform_263 rfl ?_
  refine tq_iload_n (M := mX11_perform) (pc := 264) dX11_perform_264 rfl ?_
  obtain ⟨w68, ew68, hf⟩ := tq_be hf
  refine tq_putv (M := mX11_perform) (pc := 265) tk_c11 (by decide) dX11_perform_265 tk_RX11_159 rfl (Or.inl rfl) ew68 (tq_nI _) ?_
  refine tq_iconst (M := mX11_perform) (pc := 268) dX11_perform_268 tk_ki_0 ?_
  refine tq_istore_n (M := mX11_perform) (pc := 269) rfl dX11_perform_269 (L2 := [(3, .int (0 : Int32)), (2, .int x67), (0, .ref t), (1, .int x1)]) (by decide) rfl ?_
  obtain ⟨o79, eo79, hf⟩ := tq_be hf
  refine tq_pick (L2 := [(0, .ref t), (1, .int x1), (2, .int x67), (3, .int (0 : Int32))]) [2, 3, 1, 0] rfl ?_
  refine l_X11_perform_270 (by omega) t x1 x67 _ (0 : Int32) w68 _ eo79 ?_
  refine tq_aload_n (M := mX11_perform) (pc := 309) dX11_perform_309 rfl ?_
  refine tq_iload_n (M := mX11_perform) (pc := 310) dX11_perform_310 rfl ?_
  obtain ⟨w80, ew80, hf⟩ := tq_be hf
  refine tq_putv (M := mX11_perform) (pc := 311) tk_c11 (by decide) dX11_perform_311 tk_RX11_159 rfl (Or.inl rfl) ew80 (tq_nI _) ?_
  refine tq_iconst (M := mX11_perform) (pc := 314) dX11_perform_314 tk_ki_0 ?_
  refine tq_istore_n (M := mX11_perform) (pc := 315) rfl dX11_perform_315 (L2 := [(3, .int (0 : Int32)), (0, .ref t), (2, .int x67)]) (by decide) rfl ?_
  obtain ⟨o94, eo94, hf⟩ := tq_be hf
  refine tq_pick (L2 := [(0, .ref t), (3, .int (0 : Int32))]) [1, 0] rfl ?_
  refine l_X11_perform_316 (by omega) t _ (0 : Int32) w80 _ eo94 ?_
  refine tq_vret (M := mX11_perform) (pc := 377) dX11_perform_377 rfl ?_
  cases (Option.some.inj hf)
  exact hQ _ _ ⟨rfl, rfl⟩
abbrev mX11_isSound : tq_M := (RX11, cX11_isSound, 4, (some .boolean), false, [], none)
def f_X11_isSound_b4 (i0 : Nat) (i1 : Int32) (hh : tq_H) (s : Int32 × Int32) : Option ((Int32 × Int32) ⊕ (Int32)) := match s with
  | (y2, y3) =>
    if y3 ≥ i1 then
      some (.inr y2)
    else
      (if y2 = 0 then
        some (0 : Int32)
      else
        (tq_gr hh i0 11 22).bind fun k1 =>
        (tq_az hh k1 y3).bind fun x2 =>
        if x2 = 0 then
          some (1 : Int32)
        else
          (tq_is hh i0 11).bind fun _ =>
          (f_X11_goesRound i0 y3 hh).bind fun v3 =>
          if v3 = 0 then
            some (1 : Int32)
          else
            some (0 : Int32)).bind fun p5 =>
      tq_let (y3 + (1 : Int32)) fun x6 =>
      some (.inl (p5, x6))
def f_X11_isSound (t : Nat) (a1 : Int32) (h : tq_H) : Option (Int32) :=
  (tq_loop (f_X11_isSound_b4 t a1 h) tq_N ((1 : Int32), (0 : Int32))).bind fun o7 =>
  (tq_bz o7).bind fun z8 =>
  some z8
set_option maxHeartbeats 4000000 in
theorem l_X11_isSound_4 {l : Launch} {d : Nat} {Q : tq_R → tq_H → Prop} (hd9 : 1 ≤ d) (i0 : Nat) (i1 : Int32) (hh : tq_H) : ∀ (n : Nat) (y2 : Int32) (y3 : Int32) (o : Int32), tq_loop (f_X11_isSound_b4 i0 i1 hh) n (y2, y3) = some o → tq_W l mX11_isSound d 0 0 Q 42 [(2, .int o)] [] hh → tq_W l mX11_isSound d 0 0 Q 4 [(0, .ref i0), (1, .int i1), (2, .int y2), (3, .int y3)] [] hh := by
  intro n
  induction n with
  | zero => intro y2 y3 o hl; cases hl
  | succ n ih =>
    intro y2 y3 o hl hk
    obtain ⟨oo, hf, ho⟩ := tq_loop_s hl
    refine tq_iload_n (M := mX11_isSound) (pc := 4) dX11_isSound_4 rfl ?_
    refine tq_iload_n (M := mX11_isSound) (pc := 5) dX11_isSound_5 rfl ?_
    refine tq_icmp_ge (M := mX11_isSound) (pc := 6) (tgt := 42) dX11_isSound_6 (by decide) (fun cc => ?_) (fun cc => ?_)
    · have hf := tq_ifp hf cc
      refine tq_pick (L2 := [(2, .int y2)]) [2] rfl ?_
      cases (Option.some.inj hf)
      cases (tq_lx ho)
      exact hk
    · have hf := tq_ifn hf cc
      refine tq_iload_n (M := mX11_isSound) (pc := 9) dX11_isSound_9 rfl ?_
      obtain ⟨p5, ep5, hf⟩ := tq_be hf
      have HJ10 : tq_W l mX11_isSound d 0 0 Q 35 [(0, .ref i0), (1, .int i1), (3, .int y3)] [.int p5] hh := by
        refine tq_istore_n (M := mX11_isSound) (pc := 35) rfl dX11_isSound_35 (L2 := [(2, .int p5), (0, .ref i0), (1, .int i1), (3, .int y3)]) (by decide) rfl ?_
        obtain ⟨x6, ex6, hf⟩ := tq_le hf
        refine tq_iinc (M := mX11_isSound) (pc := 36) (v := x6) (L2 := [(3, .int x6), (2, .int p5), (0, .ref i0), (1, .int i1)]) dX11_isSound_36 rfl (by rw [ex6, tk_ki_1]) (by decide) rfl ?_
        refine tq_goto (M := mX11_isSound) (pc := 39) (tgt := 4) dX11_isSound_39 (by decide) ?_
        refine tq_pick (L2 := [(0, .ref i0), (1, .int i1), (2, .int p5), (3, .int x6)]) [2, 3, 1, 0] rfl ?_
        cases (Option.some.inj hf)
        exact ih _ _ o (tq_lc ho) hk
      refine tq_if_eq (M := mX11_isSound) (pc := 10) (tgt := 34) dX11_isSound_10 (by decide) (fun cc => ?_) (fun cc => ?_)
      · have hf := tq_ifp ep5 cc
        refine tq_iconst (M := mX11_isSound) (pc := 34) dX11_isSound_34 tk_ki_0 ?_
        refine tq_pick (L2 := [(0, .ref i0), (1, .int i1), (3, .int y3)]) [0, 1, 3] rfl ?_
        cases (Option.some.inj hf)
        exact HJ10
      · have hf := tq_ifn ep5 cc
        refine tq_aload_n (M := mX11_isSound) (pc := 13) dX11_isSound_13 rfl ?_
        obtain ⟨k1, ek1, hf⟩ := tq_be hf
        refine tq_getR (M := mX11_isSound) (pc := 14) tk_c11 (by decide) dX11_isSound_14 tk_RX11_62 rfl ek1 ?_
        refine tq_iload_n (M := mX11_isSound) (pc := 17) dX11_isSound_17 rfl ?_
        obtain ⟨x2, ex2, hf⟩ := tq_be hf
        refine tq_zaldF (M := mX11_isSound) (pc := 18) dX11_isSound_18 ex2 ?_
        refine tq_if_eq (M := mX11_isSound) (pc := 19) (tgt := 30) dX11_isSound_19 (by decide) (fun cc => ?_) (fun cc => ?_)
        · have hf := tq_ifp hf cc
          refine tq_iconst (M := mX11_isSound) (pc := 30) dX11_isSound_30 tk_ki_1 ?_
          refine tq_goto (M := mX11_isSound) (pc := 31) (tgt := 35) dX11_isSound_31 (by decide) ?_
          refine tq_pick (L2 := [(0, .ref i0), (1, .int i1), (3, .int y3)]) [0, 1, 3] rfl ?_
          cases (Option.some.inj hf)
          exact HJ10
        · have hf := tq_ifn hf cc
          refine tq_aload_n (M := mX11_isSound) (pc := 22) dX11_isSound_22 rfl ?_
          refine tq_iload_n (M := mX11_isSound) (pc := 23) dX11_isSound_23 rfl ?_
          obtain ⟨⟨⟩, eu4, hf⟩ := tq_be hf
          obtain ⟨fsu4, eu4⟩ := tq_is_s eu4
          obtain ⟨v3, ev3, hf⟩ := tq_be hf
          refine tq_calV (M := mX11_isSound) (pc := 24) (S := []) tk_y_X11_goesRound tk_v_X11_goesRound tk_RX11_271 dX11_isSound_24 [.int y3] rfl (S0 := _) rfl eu4 rfl (Nat.le_of_ble_eq_true rfl) (d1 := d - 1) (b1 := 0) (s1 := 0) (bc' := 0) (bs' := 0) (Q1 := fun r h9 => r = .inl (some (.int v3)) ∧ hh = h9) (by omega) rfl rfl (w_X11_goesRound (by omega) ev3 (fun _ _ q => q)) (fun E h9 q => nomatch (show (Sum.inr E : tq_R) = Sum.inl _ from q.1)) (fun r9 h9 q => ?_)
          obtain ⟨q1, rfl⟩ := q
          cases (show (Sum.inl r9 : tq_R) = Sum.inl (some (.int v3)) from q1)
          refine tq_if_ne (M := mX11_isSound) (pc := 27) (tgt := 34) dX11_isSound_27 (by decide) (fun cc => ?_) (fun cc => ?_)
          · have hf := tq_ifn hf cc
            refine tq_iconst (M := mX11_isSound) (pc := 34) dX11_isSound_34 tk_ki_0 ?_
            refine tq_pick (L2 := [(0, .ref i0), (1, .int i1), (3, .int y3)]) [0, 1, 3] rfl ?_
            cases (Option.some.inj hf)
            exact HJ10
          · have hf := tq_ifp hf cc
            refine tq_iconst (M := mX11_isSound) (pc := 30) dX11_isSound_30 tk_ki_1 ?_
            refine tq_goto (M := mX11_isSound) (pc := 31) (tgt := 35) dX11_isSound_31 (by decide) ?_
            refine tq_pick (L2 := [(0, .ref i0), (1, .int i1), (3, .int y3)]) [0, 1, 3] rfl ?_
            cases (Option.some.inj hf)
            exact HJ10
set_option maxHeartbeats 4000000 in
set_option maxRecDepth 20000 in
theorem w_X11_isSound {l : Launch} {d : Nat} (hd9 : 1 ≤ d) {t : Nat} {a1 : Int32} {h : tq_H} {o : Int32} {Q : tq_R → tq_H → Prop} (hf : f_X11_isSound t a1 h = some o) (hQ : ∀ r h9, r = .inl (some (.int o)) ∧ h = h9 → Q r h9) : tq_C l yX11_isSound cX11_isSound 4 (some .boolean) d 0 0 [.ref t, .int a1] h Q := by
  refine tq_body (y := yX11_isSound) false (by decide +kernel) (fun z => by cases z) (Nat.le_of_ble_eq_true rfl) ?_
  show tq_W l mX11_isSound d 0 0 Q 0 [(0, .ref t), (1, .int a1)] [] h
  refine tq_iconst (M := mX11_isSound) (pc := 0) dX11_isSound_0 tk_ki_1 ?_
  refine tq_istore_n (M := mX11_isSound) (pc := 1) rfl dX11_isSound_1 (L2 := [(2, .int (1 : Int32)), (0, .ref t), (1, .int a1)]) (by decide) rfl ?_
  refine tq_iconst (M := mX11_isSound) (pc := 2) dX11_isSound_2 tk_ki_0 ?_
  refine tq_istore_n (M := mX11_isSound) (pc := 3) rfl dX11_isSound_3 (L2 := [(3, .int (0 : Int32)), (2, .int (1 : Int32)), (0, .ref t), (1, .int a1)]) (by decide) rfl ?_
  obtain ⟨o7, eo7, hf⟩ := tq_be hf
  refine tq_pick (L2 := [(0, .ref t), (1, .int a1), (2, .int (1 : Int32)), (3, .int (0 : Int32))]) [2, 3, 1, 0] rfl ?_
  refine l_X11_isSound_4 (by omega) t a1 h _ (1 : Int32) (0 : Int32) _ eo7 ?_
  refine tq_iload_n (M := mX11_isSound) (pc := 42) dX11_isSound_42 rfl ?_
  obtain ⟨z8, ez8, hf⟩ := tq_be hf
  refine tq_zretB (M := mX11_isSound) (pc := 43) dX11_isSound_43 rfl ez8 ?_
  cases (Option.some.inj hf)
  exact hQ _ _ ⟨rfl, rfl⟩
abbrev mX11_isOf : tq_M := (RX11, cX11_isOf, 11, (some .boolean), false, [], none)
def f_X11_isOf_b24 (i0 : Nat) (i1 : Int32) (i2 : Int32) (hh : tq_H) (s : Int32 × Int32) : Option ((Int32 × Int32) ⊕ (Int32)) := match s with
  | (y3, y4) =>
    if y4 ≥ (8 : Int32) then
      some (.inr y3)
    else
      (tq_is hh i0 11).bind fun _ =>
      (f_X11_attributeOf i0 i1 y4 hh).bind fun v6 =>
      tq_let (if v6 = (-1 : Int32) then (0 : Int32) else (1 : Int32)) fun p8 =>
      (tq_gr hh i0 11 38).bind fun k9 =>
      (tq_ai hh k9 (((8 : Int32) * i2) + y4)).bind fun x10 =>
      tq_let (if y3 = 0 then (0 : Int32) else (if p8 = 0 then if x10 = (2 : Int32) then (0 : Int32) else (1 : Int32) else if x10 = 0 then (0 : Int32) else (1 : Int32))) fun p11 =>
      tq_let (y4 + (1 : Int32)) fun x12 =>
      some (.inl (p11, x12))
def f_X11_isOf_b158 (i0 : Nat) (i1 : Int32) (i2 : Int32) (i3 : Int32) (i4 : Int32) (i5 : Int32) (i6 : Int32) (i7 : Int32) (hh : tq_H) (s : Int32 × Int32) : Option ((Int32 × Int32) ⊕ (Int32)) := match s with
  | (y8, y9) =>
    if y9 ≥ (24 : Int32) then
      some (.inr y8)
    else
      (if ((i4 >>> ((y9 / (6 : Int32)) &&& 31)) &&& (1 : Int32)) = (1 : Int32) then
        (tq_gr hh i0 11 41).bind fun k20 =>
        (tq_ai hh k20 i7).bind fun x21 =>
        if ((x21 >>> ((y9 - y9 / (6 : Int32) * (6 : Int32)) &&& 31)) &&& (1 : Int32)) = (1 : Int32) then
          some (1 : Int32)
        else
          some (0 : Int32)
      else
        some (0 : Int32)).bind fun p22 =>
      (if p22 = 0 then
        some (0 : Int32)
      else
        (tq_gr hh i0 11 40).bind fun k23 =>
        (tq_ai hh k23 (((24 : Int32) * i2) + y9)).bind fun x24 =>
        some x24).bind fun p25 =>
      tq_let ((y8 ||| p25)) fun x26 =>
      tq_let (y9 + (1 : Int32)) fun x27 =>
      some (.inl (x26, x27))
def f_X11_isOf_b111 (i0 : Nat) (i1 : Int32) (i2 : Int32) (i5 : Int32) (hh : tq_H) (s : Int32 × Int32 × Int32) : Option ((Int32 × Int32 × Int32) ⊕ (Int32 × Int32)) := match s with
  | (y3, y4, y6) =>
    if y6 ≥ i5 then
      some (.inr (y3, y4))
    else
      if y3 = 0 then
        some (.inr (y3, y4))
      else
        (tq_is hh i0 11).bind fun _ =>
        (f_X11_childAt i0 i1 y6 hh).bind fun v16 =>
        (tq_gr hh i0 11 2).bind fun k18 =>
        (tq_ai hh k18 v16).bind fun x19 =>
        (if x19 = (1 : Int32) then
          (tq_gr hh i0 11 37).bind fun k29 =>
          (tq_az hh k29 i2).bind fun x30 =>
          some (x30, y4)
        else
          (tq_loop (f_X11_isOf_b158 i0 i1 i2 y3 y4 i5 y6 v16 hh) tq_N ((0 : Int32), (0 : Int32))).bind fun o28 =>
          some (y3, o28)).bind fun p31 =>
        tq_let (y6 + (1 : Int32)) fun x32 =>
        some (.inl (p31.1, p31.2, x32))
def f_X11_isOf (t : Nat) (a1 : Int32) (a2 : Int32) (h : tq_H) : Option (Int32) :=
  (tq_gr h t 11 36).bind fun k1 =>
  (tq_ai h k1 a2).bind fun x2 =>
  (tq_gr h t 11 3).bind fun k3 =>
  (tq_ai h k3 a1).bind fun x4 =>
  tq_let (if x2 = x4 then (1 : Int32) else (0 : Int32)) fun p5 =>
  (tq_loop (f_X11_isOf_b24 t a1 a2 h) tq_N (p5, (0 : Int32))).bind fun o13 =>
  (tq_is h t 11).bind fun _ =>
  (f_X11_childCount t a1 h).bind fun v14 =>
  (tq_loop (f_X11_isOf_b111 t a1 a2 v14 h) tq_N (o13, (1 : Int32), (0 : Int32))).bind fun o33 =>
  (if o33.1 = 0 then
    some (0 : Int32)
  else
    (tq_gr h t 11 39).bind fun k34 =>
    (tq_ai h k34 a2).bind fun x35 =>
    if (o33.2 &&& x35) = 0 then
      some (0 : Int32)
    else
      some (1 : Int32)).bind fun p36 =>
  (tq_bz p36).bind fun z37 =>
  some z37
set_option maxHeartbeats 4000000 in
theorem l_X11_isOf_24 {l : Launch} {d : Nat} {Q : tq_R → tq_H → Prop} (hd9 : 1 ≤ d) (i0 : Nat) (i1 : Int32) (i2 : Int32) (hh : tq_H) : ∀ (n : Nat) (y3 : Int32) (y4 : Int32) (o : Int32), tq_loop (f_X11_isOf_b24 i0 i1 i2 hh) n (y3, y4) = some o → tq_W l mX11_isOf d 0 0 Q 98 [(0, .ref i0), (1, .int i1), (2, .int i2), (3, .int o)] [] hh → tq_W l mX11_isOf d 0 0 Q 24 [(0, .ref i0), (1, .int i1), (2, .int i2), (3, .int y3), (4, .int y4)] [] hh := by
  intro n
  induction n with
  | zero => intro y3 y4 o hl; cases hl
  | succ n ih =>
    intro y3 y4 o hl hk
    obtain ⟨oo, hf, ho⟩ := tq_loop_s hl
    refine tq_iload (M := mX11_isOf) (pc := 24) dX11_isOf_24 rfl ?_
    refine tq_bipush (M := mX11_isOf) (pc := 26) dX11_isOf_26 tk_kb_8 ?_
    refine tq_icmp_ge (M := mX11_isOf) (pc := 28) (tgt := 98) dX11_isOf_28 (by decide) (fun cc => ?_) (fun cc => ?_)
    · have hf := tq_ifp hf cc
      refine tq_pick (L2 := [(0, .ref i0), (1, .int i1), (2, .int i2), (3, .int y3)]) [0, 1, 2, 3] rfl ?_
      cases (Option.some.inj hf)
      cases (tq_lx ho)
      exact hk
    · have hf := tq_ifn hf cc
      refine tq_aload_n (M := mX11_isOf) (pc := 31) dX11_isOf_31 rfl ?_
      refine tq_iload_n (M := mX11_isOf) (pc := 32) dX11_isOf_32 rfl ?_
      refine tq_iload (M := mX11_isOf) (pc := 33) dX11_isOf_33 rfl ?_
      obtain ⟨⟨⟩, eu7, hf⟩ := tq_be hf
      obtain ⟨fsu7, eu7⟩ := tq_is_s eu7
      obtain ⟨v6, ev6, hf⟩ := tq_be hf
      refine tq_calV (M := mX11_isOf) (pc := 35) (S := []) tk_y_X11_attributeOf tk_v_X11_attributeOf tk_RX11_176 dX11_isOf_35 [.int i1, .int y4] rfl (S0 := _) rfl eu7 rfl (Nat.le_of_ble_eq_true rfl) (d1 := d - 1) (b1 := 0) (s1 := 0) (bc' := 0) (bs' := 0) (Q1 := fun r h9 => r = .inl (some (.int v6)) ∧ hh = h9) (by omega) rfl rfl (w_X11_attributeOf (by omega) ev6 (fun _ _ q => q)) (fun E h9 q => nomatch (show (Sum.inr E : tq_R) = Sum.inl _ from q.1)) (fun r9 h9 q => ?_)
      obtain ⟨q1, rfl⟩ := q
      cases (show (Sum.inl r9 : tq_R) = Sum.inl (some (.int v6)) from q1)
      refine tq_iconst (M := mX11_isOf) (pc := 38) dX11_isOf_38 tk_ki_m1 ?_
      obtain ⟨p8, ep8, hf⟩ := tq_le hf
      have HJ39 : tq_W l mX11_isOf d 0 0 Q 47 [(0, .ref i0), (1, .int i1), (2, .int i2), (3, .int y3), (4, .int y4)] [.int p8] hh := by
        refine tq_istore (M := mX11_isOf) (pc := 47) dX11_isOf_47 (L2 := [(5, .int p8), (0, .ref i0), (1, .int i1), (2, .int i2), (3, .int y3), (4, .int y4)]) (by decide) rfl ?_
        refine tq_aload_n (M := mX11_isOf) (pc := 49) dX11_isOf_49 rfl ?_
        obtain ⟨k9, ek9, hf⟩ := tq_be hf
        refine tq_getR (M := mX11_isOf) (pc := 50) tk_c11 (by decide) dX11_isOf_50 tk_RX11_99 rfl ek9 ?_
        refine tq_bipush (M := mX11_isOf) (pc := 53) dX11_isOf_53 tk_kb_8 ?_
        refine tq_iload_n (M := mX11_isOf) (pc := 55) dX11_isOf_55 rfl ?_
        refine tq_imul (M := mX11_isOf) (pc := 56) dX11_isOf_56 ?_
        refine tq_iload (M := mX11_isOf) (pc := 57) dX11_isOf_57 rfl ?_
        refine tq_iadd (M := mX11_isOf) (pc := 59) dX11_isOf_59 ?_
        obtain ⟨x10, ex10, hf⟩ := tq_be hf
        refine tq_ialdF (M := mX11_isOf) (pc := 60) dX11_isOf_60 ex10 ?_
        refine tq_istore (M := mX11_isOf) (pc := 61) dX11_isOf_61 (L2 := [(6, .int x10), (5, .int p8), (0, .ref i0), (1, .int i1), (2, .int i2), (3, .int y3), (4, .int y4)]) (by decide) rfl ?_
        refine tq_iload_n (M := mX11_isOf) (pc := 63) dX11_isOf_63 rfl ?_
        obtain ⟨p11, ep11, hf⟩ := tq_le hf
        have HJ64 : tq_W l mX11_isOf d 0 0 Q 91 [(0, .ref i0), (1, .int i1), (2, .int i2), (4, .int y4)] [.int p11] hh := by
          refine tq_istore_n (M := mX11_isOf) (pc := 91) rfl dX11_isOf_91 (L2 := [(3, .int p11), (0, .ref i0), (1, .int i1), (2, .int i2), (4, .int y4)]) (by decide) rfl ?_
          obtain ⟨x12, ex12, hf⟩ := tq_le hf
          refine tq_iinc (M := mX11_isOf) (pc := 92) (v := x12) (L2 := [(4, .int x12), (3, .int p11), (0, .ref i0), (1, .int i1), (2, .int i2)]) dX11_isOf_92 rfl (by rw [ex12, tk_ki_1]) (by decide) rfl ?_
          refine tq_goto (M := mX11_isOf) (pc := 95) (tgt := 24) dX11_isOf_95 (by decide) ?_
          refine tq_pick (L2 := [(0, .ref i0), (1, .int i1), (2, .int i2), (3, .int p11), (4, .int x12)]) [2, 3, 4, 1, 0] rfl ?_
          cases (Option.some.inj hf)
          exact ih _ _ o (tq_lc ho) hk
        refine tq_if_eq (M := mX11_isOf) (pc := 64) (tgt := 90) dX11_isOf_64 (by decide) (fun cc => ?_) (fun cc => ?_)
        · have hf := tq_ifp ep11.symm cc
          refine tq_iconst (M := mX11_isOf) (pc := 90) dX11_isOf_90 tk_ki_0 ?_
          refine tq_pick (L2 := [(0, .ref i0), (1, .int i1), (2, .int i2), (4, .int y4)]) [2, 3, 4, 6] rfl ?_
          cases hf
          exact HJ64
        · have hf := tq_ifn ep11.symm cc
          refine tq_iload (M := mX11_isOf) (pc := 67) dX11_isOf_67 rfl ?_
          refine tq_if_eq (M := mX11_isOf) (pc := 69) (tgt := 80) dX11_isOf_69 (by decide) (fun cc => ?_) (fun cc => ?_)
          · have hf := tq_ifp hf cc
            refine tq_iload (M := mX11_isOf) (pc := 80) dX11_isOf_80 rfl ?_
            refine tq_iconst (M := mX11_isOf) (pc := 82) dX11_isOf_82 tk_ki_2 ?_
            refine tq_icmp_eq (M := mX11_isOf) (pc := 83) (tgt := 90) dX11_isOf_83 (by decide) (fun cc => ?_) (fun cc => ?_)
            · have hf := tq_ifp hf cc
              refine tq_iconst (M := mX11_isOf) (pc := 90) dX11_isOf_90 tk_ki_0 ?_
              refine tq_pick (L2 := [(0, .ref i0), (1, .int i1), (2, .int i2), (4, .int y4)]) [2, 3, 4, 6] rfl ?_
              cases hf
              exact HJ64
            · have hf := tq_ifn hf cc
              refine tq_iconst (M := mX11_isOf) (pc := 86) dX11_isOf_86 tk_ki_1 ?_
              refine tq_goto (M := mX11_isOf) (pc := 87) (tgt := 91) dX11_isOf_87 (by decide) ?_
              refine tq_pick (L2 := [(0, .ref i0), (1, .int i1), (2, .int i2), (4, .int y4)]) [2, 3, 4, 6] rfl ?_
              cases hf
              exact HJ64
          · have hf := tq_ifn hf cc
            refine tq_iload (M := mX11_isOf) (pc := 72) dX11_isOf_72 rfl ?_
            refine tq_if_eq (M := mX11_isOf) (pc := 74) (tgt := 90) dX11_isOf_74 (by decide) (fun cc => ?_) (fun cc => ?_)
            · have hf := tq_ifp hf cc
              refine tq_iconst (M := mX11_isOf) (pc := 90) dX11_isOf_90 tk_ki_0 ?_
              refine tq_pick (L2 := [(0, .ref i0), (1, .int i1), (2, .int i2), (4, .int y4)]) [2, 3, 4, 6] rfl ?_
              cases hf
              exact HJ64
            · have hf := tq_ifn hf cc
              refine tq_goto (M := mX11_isOf) (pc := 77) (tgt := 86) dX11_isOf_77 (by decide) ?_
              refine tq_iconst (M := mX11_isOf) (pc := 86) dX11_isOf_86 tk_ki_1 ?_
              refine tq_goto (M := mX11_isOf) (pc := 87) (tgt := 91) dX11_isOf_87 (by decide) ?_
              refine tq_pick (L2 := [(0, .ref i0), (1, .int i1), (2, .int i2), (4, .int y4)]) [2, 3, 4, 6] rfl ?_
              cases hf
              exact HJ64
      refine tq_icmp_eq (M := mX11_isOf) (pc := 39) (tgt := 46) dX11_isOf_39 (by decide) (fun cc => ?_) (fun cc => ?_)
      · have hf := tq_ifp ep8.symm cc
        refine tq_iconst (M := mX11_isOf) (pc := 46) dX11_isOf_46 tk_ki_0 ?_
        cases hf
        exact HJ39
      · have hf := tq_ifn ep8.symm cc
        refine tq_iconst (M := mX11_isOf) (pc := 42) dX11_isOf_42 tk_ki_1 ?_
        refine tq_goto (M := mX11_isOf) (pc := 43) (tgt := 47) dX11_isOf_43 (by decide) ?_
        cases hf
        exact HJ39
set_option maxHeartbeats 4000000 in
theorem l_X11_isOf_158 {l : Launch} {d : Nat} {Q : tq_R → tq_H → Prop} (hd9 : 1 ≤ d) (i0 : Nat) (i1 : Int32) (i2 : Int32) (i3 : Int32) (i4 : Int32) (i5 : Int32) (i6 : Int32) (i7 : Int32) (hh : tq_H) : ∀ (n : Nat) (y8 : Int32) (y9 : Int32) (o : Int32), tq_loop (f_X11_isOf_b158 i0 i1 i2 i3 i4 i5 i6 i7 hh) n (y8, y9) = some o → tq_W l mX11_isOf d 0 0 Q 237 [(0, .ref i0), (1, .int i1), (2, .int i2), (3, .int i3), (5, .int i5), (6, .int i6), (8, .int o)] [] hh → tq_W l mX11_isOf d 0 0 Q 158 [(0, .ref i0), (1, .int i1), (2, .int i2), (3, .int i3), (4, .int i4), (5, .int i5), (6, .int i6), (7, .int i7), (8, .int y8), (9, .int y9)] [] hh := by
  intro n
  induction n with
  | zero => intro y8 y9 o hl; cases hl
  | succ n ih =>
    intro y8 y9 o hl hk
    obtain ⟨oo, hf, ho⟩ := tq_loop_s hl
    refine tq_iload (M := mX11_isOf) (pc := 158) dX11_isOf_158 rfl ?_
    refine tq_bipush (M := mX11_isOf) (pc := 160) dX11_isOf_160 tk_kb_24 ?_
    refine tq_icmp_ge (M := mX11_isOf) (pc := 162) (tgt := 237) dX11_isOf_162 (by decide) (fun cc => ?_) (fun cc => ?_)
    · have hf := tq_ifp hf cc
      refine tq_pick (L2 := [(0, .ref i0), (1, .int i1), (2, .int i2), (3, .int i3), (5, .int i5), (6, .int i6), (8, .int y8)]) [0, 1, 2, 3, 5, 6, 8] rfl ?_
      cases (Option.some.inj hf)
      cases (tq_lx ho)
      exact hk
    · have hf := tq_ifn hf cc
      refine tq_iload (M := mX11_isOf) (pc := 165) dX11_isOf_165 rfl ?_
      refine tq_iload (M := mX11_isOf) (pc := 167) dX11_isOf_167 rfl ?_
      refine tq_bipush (M := mX11_isOf) (pc := 169) dX11_isOf_169 tk_kb_6 ?_
      refine tq_idiv (M := mX11_isOf) (pc := 171) dX11_isOf_171 (by decide +kernel) ?_
      refine tq_ishr (M := mX11_isOf) (pc := 172) dX11_isOf_172 ?_
      refine tq_iconst (M := mX11_isOf) (pc := 173) dX11_isOf_173 tk_ki_1 ?_
      refine tq_iand (M := mX11_isOf) (pc := 174) dX11_isOf_174 ?_
      refine tq_iconst (M := mX11_isOf) (pc := 175) dX11_isOf_175 tk_ki_1 ?_
      obtain ⟨p22, ep22, hf⟩ := tq_be hf
      have HJ176 : tq_W l mX11_isOf d 0 0 Q 203 [(0, .ref i0), (1, .int i1), (2, .int i2), (3, .int i3), (4, .int i4), (5, .int i5), (6, .int i6), (7, .int i7), (8, .int y8), (9, .int y9)] [.int p22] hh := by
        refine tq_istore (M := mX11_isOf) (pc := 203) dX11_isOf_203 (L2 := [(10, .int p22), (0, .ref i0), (1, .int i1), (2, .int i2), (3, .int i3), (4, .int i4), (5, .int i5), (6, .int i6), (7, .int i7), (8, .int y8), (9, .int y9)]) (by decide) rfl ?_
        refine tq_iload (M := mX11_isOf) (pc := 205) dX11_isOf_205 rfl ?_
        refine tq_iload (M := mX11_isOf) (pc := 207) dX11_isOf_207 rfl ?_
        obtain ⟨p25, ep25, hf⟩ := tq_be hf
        have HJ209 : tq_W l mX11_isOf d 0 0 Q 228 [(0, .ref i0), (1, .int i1), (2, .int i2), (3, .int i3), (4, .int i4), (5, .int i5), (6, .int i6), (7, .int i7), (9, .int y9)] [.int p25, .int y8] hh := by
          refine tq_ior (M := mX11_isOf) (pc := 228) dX11_isOf_228 ?_
          obtain ⟨x26, ex26, hf⟩ := tq_le hf
          refine tq_istore (M := mX11_isOf) (pc := 229) dX11_isOf_229 (L2 := [(8, .int x26), (0, .ref i0), (1, .int i1), (2, .int i2), (3, .int i3), (4, .int i4), (5, .int i5), (6, .int i6), (7, .int i7), (9, .int y9)]) (by decide) (by rw [ex26]; rfl) ?_
          obtain ⟨x27, ex27, hf⟩ := tq_le hf
          refine tq_iinc (M := mX11_isOf) (pc := 231) (v := x27) (L2 := [(9, .int x27), (8, .int x26), (0, .ref i0), (1, .int i1), (2, .int i2), (3, .int i3), (4, .int i4), (5, .int i5), (6, .int i6), (7, .int i7)]) dX11_isOf_231 rfl (by rw [ex27, tk_ki_1]) (by decide) rfl ?_
          refine tq_goto (M := mX11_isOf) (pc := 234) (tgt := 158) dX11_isOf_234 (by decide) ?_
          refine tq_pick (L2 := [(0, .ref i0), (1, .int i1), (2, .int i2), (3, .int i3), (4, .int i4), (5, .int i5), (6, .int i6), (7, .int i7), (8, .int x26), (9, .int x27)]) [2, 3, 4, 5, 6, 7, 8, 9, 1, 0] rfl ?_
          cases (Option.some.inj hf)
          exact ih _ _ o (tq_lc ho) hk
        refine tq_if_eq (M := mX11_isOf) (pc := 209) (tgt := 227) dX11_isOf_209 (by decide) (fun cc => ?_) (fun cc => ?_)
        · have hf := tq_ifp ep25 cc
          refine tq_iconst (M := mX11_isOf) (pc := 227) dX11_isOf_227 tk_ki_0 ?_
          refine tq_pick (L2 := [(0, .ref i0), (1, .int i1), (2, .int i2), (3, .int i3), (4, .int i4), (5, .int i5), (6, .int i6), (7, .int i7), (9, .int y9)]) [1, 2, 3, 4, 5, 6, 7, 8, 10] rfl ?_
          cases (Option.some.inj hf)
          exact HJ209
        · have hf := tq_ifn ep25 cc
          refine tq_aload_n (M := mX11_isOf) (pc := 212) dX11_isOf_212 rfl ?_
          obtain ⟨k23, ek23, hf⟩ := tq_be hf
          refine tq_getR (M := mX11_isOf) (pc := 213) tk_c11 (by decide) dX11_isOf_213 tk_RX11_105 rfl ek23 ?_
          refine tq_bipush (M := mX11_isOf) (pc := 216) dX11_isOf_216 tk_kb_24 ?_
          refine tq_iload_n (M := mX11_isOf) (pc := 218) dX11_isOf_218 rfl ?_
          refine tq_imul (M := mX11_isOf) (pc := 219) dX11_isOf_219 ?_
          refine tq_iload (M := mX11_isOf) (pc := 220) dX11_isOf_220 rfl ?_
          refine tq_iadd (M := mX11_isOf) (pc := 222) dX11_isOf_222 ?_
          obtain ⟨x24, ex24, hf⟩ := tq_be hf
          refine tq_ialdF (M := mX11_isOf) (pc := 223) dX11_isOf_223 ex24 ?_
          refine tq_goto (M := mX11_isOf) (pc := 224) (tgt := 228) dX11_isOf_224 (by decide) ?_
          refine tq_pick (L2 := [(0, .ref i0), (1, .int i1), (2, .int i2), (3, .int i3), (4, .int i4), (5, .int i5), (6, .int i6), (7, .int i7), (9, .int y9)]) [1, 2, 3, 4, 5, 6, 7, 8, 10] rfl ?_
          cases (Option.some.inj hf)
          exact HJ209
      refine tq_icmp_ne (M := mX11_isOf) (pc := 176) (tgt := 202) dX11_isOf_176 (by decide) (fun cc => ?_) (fun cc => ?_)
      · have hf := tq_ifn ep22 cc
        refine tq_iconst (M := mX11_isOf) (pc := 202) dX11_isOf_202 tk_ki_0 ?_
        cases (Option.some.inj hf)
        exact HJ176
      · have hf := tq_ifp ep22 cc
        refine tq_aload_n (M := mX11_isOf) (pc := 179) dX11_isOf_179 rfl ?_
        obtain ⟨k20, ek20, hf⟩ := tq_be hf
        refine tq_getR (M := mX11_isOf) (pc := 180) tk_c11 (by decide) dX11_isOf_180 tk_RX11_108 rfl ek20 ?_
        refine tq_iload (M := mX11_isOf) (pc := 183) dX11_isOf_183 rfl ?_
        obtain ⟨x21, ex21, hf⟩ := tq_be hf
        refine tq_ialdF (M := mX11_isOf) (pc := 185) dX11_isOf_185 ex21 ?_
        refine tq_iload (M := mX11_isOf) (pc := 186) dX11_isOf_186 rfl ?_
        refine tq_bipush (M := mX11_isOf) (pc := 188) dX11_isOf_188 tk_kb_6 ?_
        refine tq_irem (M := mX11_isOf) (pc := 190) dX11_isOf_190 (by decide +kernel) ?_
        refine tq_ishr (M := mX11_isOf) (pc := 191) dX11_isOf_191 ?_
        refine tq_iconst (M := mX11_isOf) (pc := 192) dX11_isOf_192 tk_ki_1 ?_
        refine tq_iand (M := mX11_isOf) (pc := 193) dX11_isOf_193 ?_
        refine tq_iconst (M := mX11_isOf) (pc := 194) dX11_isOf_194 tk_ki_1 ?_
        refine tq_icmp_ne (M := mX11_isOf) (pc := 195) (tgt := 202) dX11_isOf_195 (by decide) (fun cc => ?_) (fun cc => ?_)
        · have hf := tq_ifn hf cc
          refine tq_iconst (M := mX11_isOf) (pc := 202) dX11_isOf_202 tk_ki_0 ?_
          cases (Option.some.inj hf)
          exact HJ176
        · have hf := tq_ifp hf cc
          refine tq_iconst (M := mX11_isOf) (pc := 198) dX11_isOf_198 tk_ki_1 ?_
          refine tq_goto (M := mX11_isOf) (pc := 199) (tgt := 203) dX11_isOf_199 (by decide) ?_
          cases (Option.some.inj hf)
          exact HJ176
set_option maxHeartbeats 4000000 in
theorem l_X11_isOf_111 {l : Launch} {d : Nat} {Q : tq_R → tq_H → Prop} (hd9 : 1 ≤ d) (i0 : Nat) (i1 : Int32) (i2 : Int32) (i5 : Int32) (hh : tq_H) : ∀ (n : Nat) (y3 : Int32) (y4 : Int32) (y6 : Int32) (o : Int32 × Int32), tq_loop (f_X11_isOf_b111 i0 i1 i2 i5 hh) n (y3, y4, y6) = some o → tq_W l mX11_isOf d 0 0 Q 247 [(0, .ref i0), (2, .int i2), (3, .int o.1), (4, .int o.2)] [] hh → tq_W l mX11_isOf d 0 0 Q 111 [(0, .ref i0), (1, .int i1), (2, .int i2), (3, .int y3), (4, .int y4), (5, .int i5), (6, .int y6)] [] hh := by
  intro n
  induction n with
  | zero => intro y3 y4 y6 o hl; cases hl
  | succ n ih =>
    intro y3 y4 y6 o hl hk
    obtain ⟨oo, hf, ho⟩ := tq_loop_s hl
    refine tq_iload (M := mX11_isOf) (pc := 111) dX11_isOf_111 rfl ?_
    refine tq_iload (M := mX11_isOf) (pc := 113) dX11_isOf_113 rfl ?_
    refine tq_icmp_ge (M := mX11_isOf) (pc := 115) (tgt := 247) dX11_isOf_115 (by decide) (fun cc => ?_) (fun cc => ?_)
    · have hf := tq_ifp hf cc
      refine tq_pick (L2 := [(0, .ref i0), (2, .int i2), (3, .int y3), (4, .int y4)]) [0, 2, 3, 4] rfl ?_
      cases (Option.some.inj hf)
      cases (tq_lx ho)
      exact hk
    · have hf := tq_ifn hf cc
      refine tq_iload_n (M := mX11_isOf) (pc := 118) dX11_isOf_118 rfl ?_
      refine tq_if_eq (M := mX11_isOf) (pc := 119) (tgt := 247) dX11_isOf_119 (by decide) (fun cc => ?_) (fun cc => ?_)
      · have hf := tq_ifp hf cc
        refine tq_pick (L2 := [(0, .ref i0), (2, .int i2), (3, .int y3), (4, .int y4)]) [0, 2, 3, 4] rfl ?_
        cases (Option.some.inj hf)
        cases (tq_lx ho)
        exact hk
      · have hf := tq_ifn hf cc
        refine tq_aload_n (M := mX11_isOf) (pc := 122) dX11_isOf_122 rfl ?_
        refine tq_iload_n (M := mX11_isOf) (pc := 123) dX11_isOf_123 rfl ?_
        refine tq_iload (M := mX11_isOf) (pc := 124) dX11_isOf_124 rfl ?_
        obtain ⟨⟨⟩, eu17, hf⟩ := tq_be hf
        obtain ⟨fsu17, eu17⟩ := tq_is_s eu17
        obtain ⟨v16, ev16, hf⟩ := tq_be hf
        refine tq_calV (M := mX11_isOf) (pc := 126) (S := []) tk_y_X11_childAt tk_v_X11_childAt tk_RX11_184 dX11_isOf_126 [.int i1, .int y6] rfl (S0 := _) rfl eu17 rfl (Nat.le_of_ble_eq_true rfl) (d1 := d - 1) (b1 := 0) (s1 := 0) (bc' := 0) (bs' := 0) (Q1 := fun r h9 => r = .inl (some (.int v16)) ∧ hh = h9) (by omega) rfl rfl (w_X11_childAt (by omega) ev16 (fun _ _ q => q)) (fun E h9 q => nomatch (show (Sum.inr E : tq_R) = Sum.inl _ from q.1)) (fun r9 h9 q => ?_)
        obtain ⟨q1, rfl⟩ := q
        cases (show (Sum.inl r9 : tq_R) = Sum.inl (some (.int v16)) from q1)
        refine tq_istore (M := mX11_isOf) (pc := 129) dX11_isOf_129 (L2 := [(7, .int v16), (0, .ref i0), (1, .int i1), (2, .int i2), (3, .int y3), (4, .int y4), (5, .int i5), (6, .int y6)]) (by decide) rfl ?_
        refine tq_aload_n (M := mX11_isOf) (pc := 131) dX11_isOf_131 rfl ?_
        obtain ⟨k18, ek18, hf⟩ := tq_be hf
        refine tq_getR (M := mX11_isOf) (pc := 132) tk_c11 (by decide) dX11_isOf_132 tk_RX11_7 rfl ek18 ?_
        refine tq_iload (M := mX11_isOf) (pc := 135) dX11_isOf_135 rfl ?_
        obtain ⟨x19, ex19, hf⟩ := tq_be hf
        refine tq_ialdF (M := mX11_isOf) (pc := 137) dX11_isOf_137 ex19 ?_
        refine tq_iconst (M := mX11_isOf) (pc := 138) dX11_isOf_138 tk_ki_1 ?_
        obtain ⟨p31, ep31, hf⟩ := tq_be hf
        have HJ139 : tq_W l mX11_isOf d 0 0 Q 241 [(0, .ref i0), (1, .int i1), (2, .int i2), (3, .int p31.1), (4, .int p31.2), (5, .int i5), (6, .int y6)] [] hh := by
          obtain ⟨x32, ex32, hf⟩ := tq_le hf
          refine tq_iinc (M := mX11_isOf) (pc := 241) (v := x32) (L2 := [(6, .int x32), (0, .ref i0), (1, .int i1), (2, .int i2), (3, .int p31.1), (4, .int p31.2), (5, .int i5)]) dX11_isOf_241 rfl (by rw [ex32, tk_ki_1]) (by decide) rfl ?_
          refine tq_goto (M := mX11_isOf) (pc := 244) (tgt := 111) dX11_isOf_244 (by decide) ?_
          refine tq_pick (L2 := [(0, .ref i0), (1, .int i1), (2, .int i2), (3, .int p31.1), (4, .int p31.2), (5, .int i5), (6, .int x32)]) [1, 2, 3, 4, 5, 6, 0] rfl ?_
          cases (Option.some.inj hf)
          exact ih _ _ _ o (tq_lc ho) hk
        refine tq_icmp_ne (M := mX11_isOf) (pc := 139) (tgt := 152) dX11_isOf_139 (by decide) (fun cc => ?_) (fun cc => ?_)
        · have hf := tq_ifn ep31 cc
          refine tq_iconst (M := mX11_isOf) (pc := 152) dX11_isOf_152 tk_ki_0 ?_
          refine tq_istore (M := mX11_isOf) (pc := 153) dX11_isOf_153 (L2 := [(8, .int (0 : Int32)), (7, .int v16), (0, .ref i0), (1, .int i1), (2, .int i2), (3, .int y3), (4, .int y4), (5, .int i5), (6, .int y6)]) (by decide) rfl ?_
          refine tq_iconst (M := mX11_isOf) (pc := 155) dX11_isOf_155 tk_ki_0 ?_
          refine tq_istore (M := mX11_isOf) (pc := 156) dX11_isOf_156 (L2 := [(9, .int (0 : Int32)), (8, .int (0 : Int32)), (7, .int v16), (0, .ref i0), (1, .int i1), (2, .int i2), (3, .int y3), (4, .int y4), (5, .int i5), (6, .int y6)]) (by decide) rfl ?_
          obtain ⟨o28, eo28, hf⟩ := tq_be hf
          refine tq_pick (L2 := [(0, .ref i0), (1, .int i1), (2, .int i2), (3, .int y3), (4, .int y4), (5, .int i5), (6, .int y6), (7, .int v16), (8, .int (0 : Int32)), (9, .int (0 : Int32))]) [3, 4, 5, 6, 7, 8, 9, 2, 1, 0] rfl ?_
          refine l_X11_isOf_158 (by omega) i0 i1 i2 y3 y4 i5 y6 v16 hh _ (0 : Int32) (0 : Int32) _ eo28 ?_
          refine tq_iload (M := mX11_isOf) (pc := 237) dX11_isOf_237 rfl ?_
          refine tq_istore (M := mX11_isOf) (pc := 239) dX11_isOf_239 (L2 := [(4, .int o28), (0, .ref i0), (1, .int i1), (2, .int i2), (3, .int y3), (5, .int i5), (6, .int y6), (8, .int o28)]) (by decide) rfl ?_
          refine tq_pick (L2 := [(0, .ref i0), (1, .int i1), (2, .int i2), (3, .int y3), (4, .int o28), (5, .int i5), (6, .int y6)]) [1, 2, 3, 4, 0, 5, 6] rfl ?_
          cases (Option.some.inj hf)
          exact HJ139
        · have hf := tq_ifp ep31 cc
          refine tq_aload_n (M := mX11_isOf) (pc := 142) dX11_isOf_142 rfl ?_
          obtain ⟨k29, ek29, hf⟩ := tq_be hf
          refine tq_getR (M := mX11_isOf) (pc := 143) tk_c11 (by decide) dX11_isOf_143 tk_RX11_96 rfl ek29 ?_
          refine tq_iload_n (M := mX11_isOf) (pc := 146) dX11_isOf_146 rfl ?_
          obtain ⟨x30, ex30, hf⟩ := tq_be hf
          refine tq_zaldF (M := mX11_isOf) (pc := 147) dX11_isOf_147 ex30 ?_
          refine tq_istore_n (M := mX11_isOf) (pc := 148) rfl dX11_isOf_148 (L2 := [(3, .int x30), (7, .int v16), (0, .ref i0), (1, .int i1), (2, .int i2), (4, .int y4), (5, .int i5), (6, .int y6)]) (by decide) rfl ?_
          refine tq_goto (M := mX11_isOf) (pc := 149) (tgt := 241) dX11_isOf_149 (by decide) ?_
          refine tq_pick (L2 := [(0, .ref i0), (1, .int i1), (2, .int i2), (3, .int x30), (4, .int y4), (5, .int i5), (6, .int y6)]) [2, 3, 4, 0, 5, 6, 7] rfl ?_
          cases (Option.some.inj hf)
          exact HJ139
set_option maxHeartbeats 4000000 in
set_option maxRecDepth 20000 in
theorem w_X11_isOf {l : Launch} {d : Nat} (hd9 : 1 ≤ d) {t : Nat} {a1 : Int32} {a2 : Int32} {h : tq_H} {o : Int32} {Q : tq_R → tq_H → Prop} (hf : f_X11_isOf t a1 a2 h = some o) (hQ : ∀ r h9, r = .inl (some (.int o)) ∧ h = h9 → Q r h9) : tq_C l yX11_isOf cX11_isOf 11 (some .boolean) d 0 0 [.ref t, .int a1, .int a2] h Q := by
  refine tq_body (y := yX11_isOf) false (by decide +kernel) (fun z => by cases z) (Nat.le_of_ble_eq_true rfl) ?_
  show tq_W l mX11_isOf d 0 0 Q 0 [(0, .ref t), (1, .int a1), (2, .int a2)] [] h
  refine tq_aload_n (M := mX11_isOf) (pc := 0) dX11_isOf_0 rfl ?_
  obtain ⟨k1, ek1, hf⟩ := tq_be hf
  refine tq_getR (M := mX11_isOf) (pc := 1) tk_c11 (by decide) dX11_isOf_1 tk_RX11_93 rfl ek1 ?_
  refine tq_iload_n (M := mX11_isOf) (pc := 4) dX11_isOf_4 rfl ?_
  obtain ⟨x2, ex2, hf⟩ := tq_be hf
  refine tq_ialdF (M := mX11_isOf) (pc := 5) dX11_isOf_5 ex2 ?_
  refine tq_aload_n (M := mX11_isOf) (pc := 6) dX11_isOf_6 rfl ?_
  obtain ⟨k3, ek3, hf⟩ := tq_be hf
  refine tq_getR (M := mX11_isOf) (pc := 7) tk_c11 (by decide) dX11_isOf_7 tk_RX11_13 rfl ek3 ?_
  refine tq_iload_n (M := mX11_isOf) (pc := 10) dX11_isOf_10 rfl ?_
  obtain ⟨x4, ex4, hf⟩ := tq_be hf
  refine tq_ialdF (M := mX11_isOf) (pc := 11) dX11_isOf_11 ex4 ?_
  obtain ⟨p5, ep5, hf⟩ := tq_le hf
  have HJ12 : tq_W l mX11_isOf d 0 0 Q 20 [(0, .ref t), (1, .int a1), (2, .int a2)] [.int p5] h := by
    refine tq_istore_n (M := mX11_isOf) (pc := 20) rfl dX11_isOf_20 (L2 := [(3, .int p5), (0, .ref t), (1, .int a1), (2, .int a2)]) (by decide) rfl ?_
    refine tq_iconst (M := mX11_isOf) (pc := 21) dX11_isOf_21 tk_ki_0 ?_
    refine tq_istore (M := mX11_isOf) (pc := 22) dX11_isOf_22 (L2 := [(4, .int (0 : Int32)), (3, .int p5), (0, .ref t), (1, .int a1), (2, .int a2)]) (by decide) rfl ?_
    obtain ⟨o13, eo13, hf⟩ := tq_be hf
    refine tq_pick (L2 := [(0, .ref t), (1, .int a1), (2, .int a2), (3, .int p5), (4, .int (0 : Int32))]) [2, 3, 4, 1, 0] rfl ?_
    refine l_X11_isOf_24 (by omega) t a1 a2 h _ p5 (0 : Int32) _ eo13 ?_
    refine tq_iconst (M := mX11_isOf) (pc := 98) dX11_isOf_98 tk_ki_1 ?_
    refine tq_istore (M := mX11_isOf) (pc := 99) dX11_isOf_99 (L2 := [(4, .int (1 : Int32)), (0, .ref t), (1, .int a1), (2, .int a2), (3, .int o13)]) (by decide) rfl ?_
    refine tq_aload_n (M := mX11_isOf) (pc := 101) dX11_isOf_101 rfl ?_
    refine tq_iload_n (M := mX11_isOf) (pc := 102) dX11_isOf_102 rfl ?_
    obtain ⟨⟨⟩, eu15, hf⟩ := tq_be hf
    obtain ⟨fsu15, eu15⟩ := tq_is_s eu15
    obtain ⟨v14, ev14, hf⟩ := tq_be hf
    refine tq_calV (M := mX11_isOf) (pc := 103) (S := []) tk_y_X11_childCount tk_v_X11_childCount tk_RX11_180 dX11_isOf_103 [.int a1] rfl (S0 := _) rfl eu15 rfl (Nat.le_of_ble_eq_true rfl) (d1 := d - 1) (b1 := 0) (s1 := 0) (bc' := 0) (bs' := 0) (Q1 := fun r h9 => r = .inl (some (.int v14)) ∧ h = h9) (by omega) rfl rfl (w_X11_childCount (by omega) ev14 (fun _ _ q => q)) (fun E h9 q => nomatch (show (Sum.inr E : tq_R) = Sum.inl _ from q.1)) (fun r9 h9 q => ?_)
    obtain ⟨q1, rfl⟩ := q
    cases (show (Sum.inl r9 : tq_R) = Sum.inl (some (.int v14)) from q1)
    refine tq_istore (M := mX11_isOf) (pc := 106) dX11_isOf_106 (L2 := [(5, .int v14), (4, .int (1 : Int32)), (0, .ref t), (1, .int a1), (2, .int a2), (3, .int o13)]) (by decide) rfl ?_
    refine tq_iconst (M := mX11_isOf) (pc := 108) dX11_isOf_108 tk_ki_0 ?_
    refine tq_istore (M := mX11_isOf) (pc := 109) dX11_isOf_109 (L2 := [(6, .int (0 : Int32)), (5, .int v14), (4, .int (1 : Int32)), (0, .ref t), (1, .int a1), (2, .int a2), (3, .int o13)]) (by decide) rfl ?_
    obtain ⟨o33, eo33, hf⟩ := tq_be hf
    refine tq_pick (L2 := [(0, .ref t), (1, .int a1), (2, .int a2), (3, .int o13), (4, .int (1 : Int32)), (5, .int v14), (6, .int (0 : Int32))]) [3, 4, 5, 6, 2, 1, 0] rfl ?_
    refine l_X11_isOf_111 (by omega) t a1 a2 v14 h _ o13 (1 : Int32) (0 : Int32) _ eo33 ?_
    refine tq_iload_n (M := mX11_isOf) (pc := 247) dX11_isOf_247 rfl ?_
    obtain ⟨p36, ep36, hf⟩ := tq_be hf
    have HJ248 : tq_W l mX11_isOf d 0 0 Q 268 [] [.int p36] h := by
      obtain ⟨z37, ez37, hf⟩ := tq_be hf
      refine tq_zretB (M := mX11_isOf) (pc := 268) dX11_isOf_268 rfl ez37 ?_
      cases (Option.some.inj hf)
      exact hQ _ _ ⟨rfl, rfl⟩
    refine tq_if_eq (M := mX11_isOf) (pc := 248) (tgt := 267) dX11_isOf_248 (by decide) (fun cc => ?_) (fun cc => ?_)
    · have hf := tq_ifp ep36 cc
      refine tq_iconst (M := mX11_isOf) (pc := 267) dX11_isOf_267 tk_ki_0 ?_
      refine tq_pick (L2 := []) [] rfl ?_
      cases (Option.some.inj hf)
      exact HJ248
    · have hf := tq_ifn ep36 cc
      refine tq_iload (M := mX11_isOf) (pc := 251) dX11_isOf_251 rfl ?_
      refine tq_aload_n (M := mX11_isOf) (pc := 253) dX11_isOf_253 rfl ?_
      obtain ⟨k34, ek34, hf⟩ := tq_be hf
      refine tq_getR (M := mX11_isOf) (pc := 254) tk_c11 (by decide) dX11_isOf_254 tk_RX11_102 rfl ek34 ?_
      refine tq_iload_n (M := mX11_isOf) (pc := 257) dX11_isOf_257 rfl ?_
      obtain ⟨x35, ex35, hf⟩ := tq_be hf
      refine tq_ialdF (M := mX11_isOf) (pc := 258) dX11_isOf_258 ex35 ?_
      refine tq_iand (M := mX11_isOf) (pc := 259) dX11_isOf_259 ?_
      refine tq_if_eq (M := mX11_isOf) (pc := 260) (tgt := 267) dX11_isOf_260 (by decide) (fun cc => ?_) (fun cc => ?_)
      · have hf := tq_ifp hf cc
        refine tq_iconst (M := mX11_isOf) (pc := 267) dX11_isOf_267 tk_ki_0 ?_
        refine tq_pick (L2 := []) [] rfl ?_
        cases (Option.some.inj hf)
        exact HJ248
      · have hf := tq_ifn hf cc
        refine tq_iconst (M := mX11_isOf) (pc := 263) dX11_isOf_263 tk_ki_1 ?_
        refine tq_goto (M := mX11_isOf) (pc := 264) (tgt := 268) dX11_isOf_264 (by decide) ?_
        refine tq_pick (L2 := []) [] rfl ?_
        cases (Option.some.inj hf)
        exact HJ248
  refine tq_icmp_ne (M := mX11_isOf) (pc := 12) (tgt := 19) dX11_isOf_12 (by decide) (fun cc => ?_) (fun cc => ?_)
  · have hf := tq_ifn ep5.symm cc
    refine tq_iconst (M := mX11_isOf) (pc := 19) dX11_isOf_19 tk_ki_0 ?_
    cases hf
    exact HJ12
  · have hf := tq_ifp ep5.symm cc
    refine tq_iconst (M := mX11_isOf) (pc := 15) dX11_isOf_15 tk_ki_1 ?_
    refine tq_goto (M := mX11_isOf) (pc := 16) (tgt := 20) dX11_isOf_16 (by decide) ?_
    cases hf
    exact HJ12
abbrev mX11_findTypes : tq_M := (RX11, cX11_findTypes, 4, none, false, [], none)
def f_X11_findTypes_b27 (i0 : Nat) (i1 : Int32) (i2 : Int32) (s : Int32 × tq_H) : Option ((Int32 × tq_H) ⊕ (tq_H)) := match s with
  | (y3, hh) =>
    if y3 ≥ (6 : Int32) then
      some (.inr hh)
    else
      (tq_gr hh i0 11 2).bind fun k7 =>
      (tq_ai hh k7 i2).bind fun x8 =>
      if x8 = 0 then
        (tq_gr hh i0 11 41).bind fun k9 =>
        (tq_ai hh k9 i2).bind fun x10 =>
        (tq_is hh i0 11).bind fun _ =>
        (f_X11_isOf i0 i2 y3 hh).bind fun v11 =>
        tq_let (if v11 = 0 then (0 : Int32) else ((1 : Int32) <<< (y3 &&& 31))) fun p13 =>
        (tq_si hh k9 i2 (x10 ||| p13)).bind fun w14 =>
        tq_let (y3 + (1 : Int32)) fun x15 =>
        some (.inl (x15, w14))
      else
        some (.inr hh)
def f_X11_findTypes_b7 (i0 : Nat) (s : Int32 × tq_H) : Option ((Int32 × tq_H) ⊕ (tq_H)) := match s with
  | (y1, hh) =>
    if y1 < 0 then
      some (.inr hh)
    else
      (tq_gr hh i0 11 12).bind fun k3 =>
      (tq_ai hh k3 y1).bind fun x4 =>
      (tq_gr hh i0 11 41).bind fun k5 =>
      (tq_si hh k5 x4 (0 : Int32)).bind fun w6 =>
      (tq_loop (f_X11_findTypes_b27 i0 y1 x4) tq_N ((0 : Int32), w6)).bind fun o16 =>
      tq_let (y1 + (-1 : Int32)) fun x17 =>
      some (.inl (x17, o16))
def f_X11_findTypes (t : Nat) (h : tq_H) : Option (tq_H) :=
  (tq_gi h t 11 11).bind fun x1 =>
  tq_let ((x1 - (1 : Int32))) fun x2 =>
  (tq_loop (f_X11_findTypes_b7 t) tq_N (x2, h)).bind fun o18 =>
  some o18
set_option maxHeartbeats 4000000 in
theorem l_X11_findTypes_27 {l : Launch} {d : Nat} {Q : tq_R → tq_H → Prop} (hd9 : 2 ≤ d) (i0 : Nat) (i1 : Int32) (i2 : Int32) : ∀ (n : Nat) (y3 : Int32) (hh : tq_H) (o : tq_H), tq_loop (f_X11_findTypes_b27 i0 i1 i2) n (y3, hh) = some o → tq_W l mX11_findTypes d 0 0 Q 73 [(0, .ref i0), (1, .int i1)] [] o → tq_W l mX11_findTypes d 0 0 Q 27 [(0, .ref i0), (1, .int i1), (2, .int i2), (3, .int y3)] [] hh := by
  intro n
  induction n with
  | zero => intro y3 hh o hl; cases hl
  | succ n ih =>
    intro y3 hh o hl hk
    obtain ⟨oo, hf, ho⟩ := tq_loop_s hl
    refine tq_iload_n (M := mX11_findTypes) (pc := 27) dX11_findTypes_27 rfl ?_
    refine tq_bipush (M := mX11_findTypes) (pc := 28) dX11_findTypes_28 tk_kb_6 ?_
    refine tq_icmp_ge (M := mX11_findTypes) (pc := 30) (tgt := 73) dX11_findTypes_30 (by decide) (fun cc => ?_) (fun cc => ?_)
    · have hf := tq_ifp hf cc
      refine tq_pick (L2 := [(0, .ref i0), (1, .int i1)]) [0, 1] rfl ?_
      cases (Option.some.inj hf)
      cases (tq_lx ho)
      exact hk
    · have hf := tq_ifn hf cc
      refine tq_aload_n (M := mX11_findTypes) (pc := 33) dX11_findTypes_33 rfl ?_
      obtain ⟨k7, ek7, hf⟩ := tq_be hf
      refine tq_getR (M := mX11_findTypes) (pc := 34) tk_c11 (by decide) dX11_findTypes_34 tk_RX11_7 rfl ek7 ?_
      refine tq_iload_n (M := mX11_findTypes) (pc := 37) dX11_findTypes_37 rfl ?_
      obtain ⟨x8, ex8, hf⟩ := tq_be hf
      refine tq_ialdF (M := mX11_findTypes) (pc := 38) dX11_findTypes_38 ex8 ?_
      refine tq_if_ne (M := mX11_findTypes) (pc := 39) (tgt := 73) dX11_findTypes_39 (by decide) (fun cc => ?_) (fun cc => ?_)
      · have hf := tq_ifn hf cc
        refine tq_pick (L2 := [(0, .ref i0), (1, .int i1)]) [0, 1] rfl ?_
        cases (Option.some.inj hf)
        cases (tq_lx ho)
        exact hk
      · have hf := tq_ifp hf cc
        refine tq_aload_n (M := mX11_findTypes) (pc := 42) dX11_findTypes_42 rfl ?_
        obtain ⟨k9, ek9, hf⟩ := tq_be hf
        refine tq_getR (M := mX11_findTypes) (pc := 43) tk_c11 (by decide) dX11_findTypes_43 tk_RX11_108 rfl ek9 ?_
        refine tq_iload_n (M := mX11_findTypes) (pc := 46) dX11_findTypes_46 rfl ?_
        refine tq_dup2 (M := mX11_findTypes) (pc := 47) dX11_findTypes_47 rfl rfl ?_
        obtain ⟨x10, ex10, hf⟩ := tq_be hf
        refine tq_ialdF (M := mX11_findTypes) (pc := 48) dX11_findTypes_48 ex10 ?_
        refine tq_aload_n (M := mX11_findTypes) (pc := 49) dX11_findTypes_49 rfl ?_
        refine tq_iload_n (M := mX11_findTypes) (pc := 50) dX11_findTypes_50 rfl ?_
        refine tq_iload_n (M := mX11_findTypes) (pc := 51) dX11_findTypes_51 rfl ?_
        obtain ⟨⟨⟩, eu12, hf⟩ := tq_be hf
        obtain ⟨fsu12, eu12⟩ := tq_is_s eu12
        obtain ⟨v11, ev11, hf⟩ := tq_be hf
        refine tq_calV (M := mX11_findTypes) (pc := 52) (S := [.int x10, .int i2, .ref k9]) tk_y_X11_isOf tk_v_X11_isOf tk_RX11_382 dX11_findTypes_52 [.int i2, .int y3] rfl (S0 := _) rfl eu12 rfl (Nat.le_of_ble_eq_true rfl) (d1 := d - 1) (b1 := 0) (s1 := 0) (bc' := 0) (bs' := 0) (Q1 := fun r h9 => r = .inl (some (.int v11)) ∧ hh = h9) (by omega) rfl rfl (w_X11_isOf (by omega) ev11 (fun _ _ q => q)) (fun E h9 q => nomatch (show (Sum.inr E : tq_R) = Sum.inl _ from q.1)) (fun r9 h9 q => ?_)
        obtain ⟨q1, rfl⟩ := q
        cases (show (Sum.inl r9 : tq_R) = Sum.inl (some (.int v11)) from q1)
        obtain ⟨p13, ep13, hf⟩ := tq_le hf
        have HJ55 : tq_W l mX11_findTypes d 0 0 Q 65 [(0, .ref i0), (1, .int i1), (2, .int i2), (3, .int y3)] [.int p13, .int x10, .int i2, .ref k9] hh := by
          refine tq_ior (M := mX11_findTypes) (pc := 65) dX11_findTypes_65 ?_
          obtain ⟨w14, ew14, hf⟩ := tq_be hf
          refine tq_iastF (M := mX11_findTypes) (pc := 66) dX11_findTypes_66 ew14 ?_
          obtain ⟨x15, ex15, hf⟩ := tq_le hf
          refine tq_iinc (M := mX11_findTypes) (pc := 67) (v := x15) (L2 := [(3, .int x15), (0, .ref i0), (1, .int i1), (2, .int i2)]) dX11_findTypes_67 rfl (by rw [ex15, tk_ki_1]) (by decide) rfl ?_
          refine tq_goto (M := mX11_findTypes) (pc := 70) (tgt := 27) dX11_findTypes_70 (by decide) ?_
          refine tq_pick (L2 := [(0, .ref i0), (1, .int i1), (2, .int i2), (3, .int x15)]) [1, 2, 3, 0] rfl ?_
          cases (Option.some.inj hf)
          exact ih _ _ o (tq_lc ho) hk
        refine tq_if_eq (M := mX11_findTypes) (pc := 55) (tgt := 64) dX11_findTypes_55 (by decide) (fun cc => ?_) (fun cc => ?_)
        · have hf := tq_ifp ep13.symm cc
          refine tq_iconst (M := mX11_findTypes) (pc := 64) dX11_findTypes_64 tk_ki_0 ?_
          cases hf
          exact HJ55
        · have hf := tq_ifn ep13.symm cc
          refine tq_iconst (M := mX11_findTypes) (pc := 58) dX11_findTypes_58 tk_ki_1 ?_
          refine tq_iload_n (M := mX11_findTypes) (pc := 59) dX11_findTypes_59 rfl ?_
          refine tq_ishl (M := mX11_findTypes) (pc := 60) dX11_findTypes_60 ?_
          refine tq_goto (M := mX11_findTypes) (pc := 61) (tgt := 65) dX11_findTypes_61 (by decide) ?_
          cases hf
          exact HJ55
set_option maxHeartbeats 4000000 in
theorem l_X11_findTypes_7 {l : Launch} {d : Nat} {Q : tq_R → tq_H → Prop} (hd9 : 2 ≤ d) (i0 : Nat) : ∀ (n : Nat) (y1 : Int32) (hh : tq_H) (o : tq_H), tq_loop (f_X11_findTypes_b7 i0) n (y1, hh) = some o → tq_W l mX11_findTypes d 0 0 Q 79 [] [] o → tq_W l mX11_findTypes d 0 0 Q 7 [(0, .ref i0), (1, .int y1)] [] hh := by
  intro n
  induction n with
  | zero => intro y1 hh o hl; cases hl
  | succ n ih =>
    intro y1 hh o hl hk
    obtain ⟨oo, hf, ho⟩ := tq_loop_s hl
    refine tq_iload_n (M := mX11_findTypes) (pc := 7) dX11_findTypes_7 rfl ?_
    refine tq_if_lt (M := mX11_findTypes) (pc := 8) (tgt := 79) dX11_findTypes_8 (by decide) (fun cc => ?_) (fun cc => ?_)
    · have hf := tq_ifp hf cc
      refine tq_pick (L2 := []) [] rfl ?_
      cases (Option.some.inj hf)
      cases (tq_lx ho)
      exact hk
    · have hf := tq_ifn hf cc
      refine tq_aload_n (M := mX11_findTypes) (pc := 11) dX11_findTypes_11 rfl ?_
      obtain ⟨k3, ek3, hf⟩ := tq_be hf
      refine tq_getR (M := mX11_findTypes) (pc := 12) tk_c11 (by decide) dX11_findTypes_12 tk_RX11_35 rfl ek3 ?_
      refine tq_iload_n (M := mX11_findTypes) (pc := 15) dX11_findTypes_15 rfl ?_
      obtain ⟨x4, ex4, hf⟩ := tq_be hf
      refine tq_ialdF (M := mX11_findTypes) (pc := 16) dX11_findTypes_16 ex4 ?_
      refine tq_istore_n (M := mX11_findTypes) (pc := 17) rfl dX11_findTypes_17 (L2 := [(2, .int x4), (0, .ref i0), (1, .int y1)]) (by decide) rfl ?_
      refine tq_aload_n (M := mX11_findTypes) (pc := 18) dX11_findTypes_18 rfl ?_
      obtain ⟨k5, ek5, hf⟩ := tq_be hf
      refine tq_getR (M := mX11_findTypes) (pc := 19) tk_c11 (by decide) dX11_findTypes_19 tk_RX11_108 rfl ek5 ?_
      refine tq_iload_n (M := mX11_findTypes) (pc := 22) dX11_findTypes_22 rfl ?_
      refine tq_iconst (M := mX11_findTypes) (pc := 23) dX11_findTypes_23 tk_ki_0 ?_
      obtain ⟨w6, ew6, hf⟩ := tq_be hf
      refine tq_iastF (M := mX11_findTypes) (pc := 24) dX11_findTypes_24 ew6 ?_
      refine tq_iconst (M := mX11_findTypes) (pc := 25) dX11_findTypes_25 tk_ki_0 ?_
      refine tq_istore_n (M := mX11_findTypes) (pc := 26) rfl dX11_findTypes_26 (L2 := [(3, .int (0 : Int32)), (2, .int x4), (0, .ref i0), (1, .int y1)]) (by decide) rfl ?_
      obtain ⟨o16, eo16, hf⟩ := tq_be hf
      refine tq_pick (L2 := [(0, .ref i0), (1, .int y1), (2, .int x4), (3, .int (0 : Int32))]) [2, 3, 1, 0] rfl ?_
      refine l_X11_findTypes_27 (by omega) i0 y1 x4 _ (0 : Int32) w6 _ eo16 ?_
      obtain ⟨x17, ex17, hf⟩ := tq_le hf
      refine tq_iinc (M := mX11_findTypes) (pc := 73) (v := x17) (L2 := [(1, .int x17), (0, .ref i0)]) dX11_findTypes_73 rfl (by rw [ex17, tk_ki_m1]) (by decide) rfl ?_
      refine tq_goto (M := mX11_findTypes) (pc := 76) (tgt := 7) dX11_findTypes_76 (by decide) ?_
      refine tq_pick (L2 := [(0, .ref i0), (1, .int x17)]) [1, 0] rfl ?_
      cases (Option.some.inj hf)
      exact ih _ _ o (tq_lc ho) hk
set_option maxHeartbeats 4000000 in
set_option maxRecDepth 20000 in
theorem w_X11_findTypes {l : Launch} {d : Nat} (hd9 : 2 ≤ d) {t : Nat} {h : tq_H} {o : tq_H} {Q : tq_R → tq_H → Prop} (hf : f_X11_findTypes t h = some o) (hQ : ∀ r h9, r = .inl none ∧ o = h9 → Q r h9) : tq_C l yX11_findTypes cX11_findTypes 4 none d 0 0 [.ref t] h Q := by
  refine tq_body (y := yX11_findTypes) false (by decide +kernel) (fun z => by cases z) (Nat.le_of_ble_eq_true rfl) ?_
  show tq_W l mX11_findTypes d 0 0 Q 0 [(0, .ref t)] [] h
  refine tq_aload_n (M := mX11_findTypes) (pc := 0) dX11_findTypes_0 rfl ?_
  obtain ⟨x1, ex1, hf⟩ := tq_be hf
  refine tq_getI (M := mX11_findTypes) (pc := 1) tk_c11 (by decide) dX11_findTypes_1 tk_RX11_173 rfl ex1 ?_
  refine tq_iconst (M := mX11_findTypes) (pc := 4) dX11_findTypes_4 tk_ki_1 ?_
  refine tq_isub (M := mX11_findTypes) (pc := 5) dX11_findTypes_5 ?_
  obtain ⟨x2, ex2, hf⟩ := tq_le hf
  refine tq_istore_n (M := mX11_findTypes) (pc := 6) rfl dX11_findTypes_6 (L2 := [(1, .int x2), (0, .ref t)]) (by decide) (by rw [ex2]; rfl) ?_
  obtain ⟨o18, eo18, hf⟩ := tq_be hf
  refine tq_pick (L2 := [(0, .ref t), (1, .int x2)]) [1, 0] rfl ?_
  refine l_X11_findTypes_7 (by omega) t _ x2 h _ eo18 ?_
  refine tq_vret (M := mX11_findTypes) (pc := 79) dX11_findTypes_79 rfl ?_
  cases (Option.some.inj hf)
  exact hQ _ _ ⟨rfl, rfl⟩
abbrev mX11_isRight : tq_M := (RX11, cX11_isRight, 1, (some .boolean), false, [], none)
def f_X11_isRight (t : Nat) (h : tq_H) : Option (Int32 × tq_H) :=
  (tq_is h t 11).bind fun _ =>
  (f_X11_findTypes t h).bind fun v1 =>
  (tq_gr v1 t 11 41).bind fun k3 =>
  (tq_ai v1 k3 (0 : Int32)).bind fun x4 =>
  tq_let (if (x4 &&& (1 : Int32)) = (1 : Int32) then (1 : Int32) else (0 : Int32)) fun p5 =>
  (tq_bz p5).bind fun z6 =>
  some (z6, v1)
set_option maxHeartbeats 4000000 in
set_option maxRecDepth 20000 in
theorem w_X11_isRight {l : Launch} {d : Nat} (hd9 : 3 ≤ d) {t : Nat} {h : tq_H} {o : Int32 × tq_H} {Q : tq_R → tq_H → Prop} (hf : f_X11_isRight t h = some o) (hQ : ∀ r h9, r = .inl (some (.int o.1)) ∧ o.2 = h9 → Q r h9) : tq_C l yX11_isRight cX11_isRight 1 (some .boolean) d 0 0 [.ref t] h Q := by
  refine tq_body (y := yX11_isRight) false (by decide +kernel) (fun z => by cases z) (Nat.le_of_ble_eq_true rfl) ?_
  show tq_W l mX11_isRight d 0 0 Q 0 [(0, .ref t)] [] h
  refine tq_aload_n (M := mX11_isRight) (pc := 0) dX11_isRight_0 rfl ?_
  obtain ⟨⟨⟩, eu2, hf⟩ := tq_be hf
  obtain ⟨fsu2, eu2⟩ := tq_is_s eu2
  obtain ⟨v1, ev1, hf⟩ := tq_be hf
  refine tq_calV (M := mX11_isRight) (pc := 1) (S := []) tk_y_X11_findTypes tk_v_X11_findTypes tk_RX11_385 dX11_isRight_1 [] rfl (S0 := _) rfl eu2 rfl (Nat.le_of_ble_eq_true rfl) (d1 := d - 1) (b1 := 0) (s1 := 0) (bc' := 0) (bs' := 0) (Q1 := fun r h9 => r = .inl none ∧ v1 = h9) (by omega) rfl rfl (w_X11_findTypes (by omega) ev1 (fun _ _ q => q)) (fun E h9 q => nomatch (show (Sum.inr E : tq_R) = Sum.inl _ from q.1)) (fun r9 h9 q => ?_)
  obtain ⟨q1, rfl⟩ := q
  cases (show (Sum.inl r9 : tq_R) = Sum.inl (none) from q1)
  refine tq_aload_n (M := mX11_isRight) (pc := 4) dX11_isRight_4 rfl ?_
  obtain ⟨k3, ek3, hf⟩ := tq_be hf
  refine tq_getR (M := mX11_isRight) (pc := 5) tk_c11 (by decide) dX11_isRight_5 tk_RX11_108 rfl ek3 ?_
  refine tq_iconst (M := mX11_isRight) (pc := 8) dX11_isRight_8 tk_ki_0 ?_
  obtain ⟨x4, ex4, hf⟩ := tq_be hf
  refine tq_ialdF (M := mX11_isRight) (pc := 9) dX11_isRight_9 ex4 ?_
  refine tq_iconst (M := mX11_isRight) (pc := 10) dX11_isRight_10 tk_ki_1 ?_
  refine tq_iand (M := mX11_isRight) (pc := 11) dX11_isRight_11 ?_
  refine tq_iconst (M := mX11_isRight) (pc := 12) dX11_isRight_12 tk_ki_1 ?_
  obtain ⟨p5, ep5, hf⟩ := tq_le hf
  have HJ13 : tq_W l mX11_isRight d 0 0 Q 21 [] [.int p5] v1 := by
    obtain ⟨z6, ez6, hf⟩ := tq_be hf
    refine tq_zretB (M := mX11_isRight) (pc := 21) dX11_isRight_21 rfl ez6 ?_
    cases (Option.some.inj hf)
    exact hQ _ _ ⟨rfl, rfl⟩
  refine tq_icmp_ne (M := mX11_isRight) (pc := 13) (tgt := 20) dX11_isRight_13 (by decide) (fun cc => ?_) (fun cc => ?_)
  · have hf := tq_ifn ep5.symm cc
    refine tq_iconst (M := mX11_isRight) (pc := 20) dX11_isRight_20 tk_ki_0 ?_
    refine tq_pick (L2 := []) [] rfl ?_
    cases hf
    exact HJ13
  · have hf := tq_ifp ep5.symm cc
    refine tq_iconst (M := mX11_isRight) (pc := 16) dX11_isRight_16 tk_ki_1 ?_
    refine tq_goto (M := mX11_isRight) (pc := 17) (tgt := 21) dX11_isRight_17 (by decide) ?_
    refine tq_pick (L2 := []) [] rfl ?_
    cases hf
    exact HJ13
abbrev mX11_markNew : tq_M := (RX11, cX11_markNew, 7, none, false, [], none)
def f_X11_markNew_b44 (i0 : Nat) (i2 : Int64) (i4 : Int32) (hh : tq_H) (s : Int32 × Int32) : Option ((Int32 × Int32) ⊕ (Int32)) := match s with
  | (y5, y6) =>
    if y6 = (-1 : Int32) then
      some (.inr y5)
    else
      (tq_gr hh i0 11 9).bind fun k5 =>
      (tq_az hh k5 i4).bind fun x6 =>
      if x6 = 0 then
        some (.inr y5)
      else
        (if y5 = 0 then
          (tq_is hh i0 11).bind fun _ =>
          (f_X11_isListed i0 y6 (4 : Int32) hh).bind fun v7 =>
          if v7 = 0 then
            some (0 : Int32)
          else
            some (1 : Int32)
        else
          some (1 : Int32)).bind fun p9 =>
        (tq_gr hh i0 11 6).bind fun k10 =>
        (tq_ai hh k10 y6).bind fun x11 =>
        some (.inl (p9, x11))
def f_X11_markNew_b3 (i0 : Nat) (i2 : Int64) (s : Int32 × tq_H) : Option ((Int32 × tq_H) ⊕ (tq_H)) := match s with
  | (y4, hh) =>
    (tq_gi hh i0 11 1).bind fun x1 =>
    if y4 ≥ x1 then
      some (.inr hh)
    else
      (tq_gr hh i0 11 9).bind fun k2 =>
      (tq_az hh k2 y4).bind fun x3 =>
      tq_let (if x3 = 0 then (0 : Int32) else (if (lg_cmp ((i2 >>> (y4.toInt64 &&& 63)) &&& (1 : Int64)) (0 : Int64)) = 0 then (1 : Int32) else (0 : Int32))) fun p4 =>
      (tq_loop (f_X11_markNew_b44 i0 i2 y4 hh) tq_N (p4, y4)).bind fun o12 =>
      (tq_gr hh i0 11 23).bind fun k13 =>
      (tq_sz hh k13 y4 o12).bind fun w14 =>
      tq_let (y4 + (1 : Int32)) fun x15 =>
      some (.inl (x15, w14))
def f_X11_markNew (t : Nat) (a1 : Int32) (a2 : Int64) (h : tq_H) : Option (tq_H) :=
  (tq_loop (f_X11_markNew_b3 t a2) tq_N ((0 : Int32), h)).bind fun o16 =>
  some o16
set_option maxHeartbeats 4000000 in
theorem l_X11_markNew_44 {l : Launch} {d : Nat} {Q : tq_R → tq_H → Prop} (hd9 : 1 ≤ d) (i0 : Nat) (i2 : Int64) (i4 : Int32) (hh : tq_H) : ∀ (n : Nat) (y5 : Int32) (y6 : Int32) (o : Int32), tq_loop (f_X11_markNew_b44 i0 i2 i4 hh) n (y5, y6) = some o → tq_W l mX11_markNew d 0 0 Q 94 [(0, .ref i0), (2, .long i2), (4, .int i4), (5, .int o)] [] hh → tq_W l mX11_markNew d 0 0 Q 44 [(0, .ref i0), (2, .long i2), (4, .int i4), (5, .int y5), (6, .int y6)] [] hh := by
  intro n
  induction n with
  | zero => intro y5 y6 o hl; cases hl
  | succ n ih =>
    intro y5 y6 o hl hk
    obtain ⟨oo, hf, ho⟩ := tq_loop_s hl
    refine tq_iload (M := mX11_markNew) (pc := 44) dX11_markNew_44 rfl ?_
    refine tq_iconst (M := mX11_markNew) (pc := 46) dX11_markNew_46 tk_ki_m1 ?_
    refine tq_icmp_eq (M := mX11_markNew) (pc := 47) (tgt := 94) dX11_markNew_47 (by decide) (fun cc => ?_) (fun cc => ?_)
    · have hf := tq_ifp hf cc
      refine tq_pick (L2 := [(0, .ref i0), (2, .long i2), (4, .int i4), (5, .int y5)]) [0, 1, 2, 3] rfl ?_
      cases (Option.some.inj hf)
      cases (tq_lx ho)
      exact hk
    · have hf := tq_ifn hf cc
      refine tq_aload_n (M := mX11_markNew) (pc := 50) dX11_markNew_50 rfl ?_
      obtain ⟨k5, ek5, hf⟩ := tq_be hf
      refine tq_getR (M := mX11_markNew) (pc := 51) tk_c11 (by decide) dX11_markNew_51 tk_RX11_31 rfl ek5 ?_
      refine tq_iload (M := mX11_markNew) (pc := 54) dX11_markNew_54 rfl ?_
      obtain ⟨x6, ex6, hf⟩ := tq_be hf
      refine tq_zaldF (M := mX11_markNew) (pc := 56) dX11_markNew_56 ex6 ?_
      refine tq_if_eq (M := mX11_markNew) (pc := 57) (tgt := 94) dX11_markNew_57 (by decide) (fun cc => ?_) (fun cc => ?_)
      · have hf := tq_ifp hf cc
        refine tq_pick (L2 := [(0, .ref i0), (2, .long i2), (4, .int i4), (5, .int y5)]) [0, 1, 2, 3] rfl ?_
        cases (Option.some.inj hf)
        cases (tq_lx ho)
        exact hk
      · have hf := tq_ifn hf cc
        refine tq_iload (M := mX11_markNew) (pc := 60) dX11_markNew_60 rfl ?_
        obtain ⟨p9, ep9, hf⟩ := tq_be hf
        have HJ62 : tq_W l mX11_markNew d 0 0 Q 80 [(0, .ref i0), (2, .long i2), (4, .int i4), (6, .int y6)] [.int p9] hh := by
          refine tq_istore (M := mX11_markNew) (pc := 80) dX11_markNew_80 (L2 := [(5, .int p9), (0, .ref i0), (2, .long i2), (4, .int i4), (6, .int y6)]) (by decide) rfl ?_
          refine tq_aload_n (M := mX11_markNew) (pc := 82) dX11_markNew_82 rfl ?_
          obtain ⟨k10, ek10, hf⟩ := tq_be hf
          refine tq_getR (M := mX11_markNew) (pc := 83) tk_c11 (by decide) dX11_markNew_83 tk_RX11_22 rfl ek10 ?_
          refine tq_iload (M := mX11_markNew) (pc := 86) dX11_markNew_86 rfl ?_
          obtain ⟨x11, ex11, hf⟩ := tq_be hf
          refine tq_ialdF (M := mX11_markNew) (pc := 88) dX11_markNew_88 ex11 ?_
          refine tq_istore (M := mX11_markNew) (pc := 89) dX11_markNew_89 (L2 := [(6, .int x11), (5, .int p9), (0, .ref i0), (2, .long i2), (4, .int i4)]) (by decide) rfl ?_
          refine tq_goto (M := mX11_markNew) (pc := 91) (tgt := 44) dX11_markNew_91 (by decide) ?_
          refine tq_pick (L2 := [(0, .ref i0), (2, .long i2), (4, .int i4), (5, .int p9), (6, .int x11)]) [2, 3, 4, 1, 0] rfl ?_
          cases (Option.some.inj hf)
          exact ih _ _ o (tq_lc ho) hk
        refine tq_if_ne (M := mX11_markNew) (pc := 62) (tgt := 75) dX11_markNew_62 (by decide) (fun cc => ?_) (fun cc => ?_)
        · have hf := tq_ifn ep9 cc
          refine tq_iconst (M := mX11_markNew) (pc := 75) dX11_markNew_75 tk_ki_1 ?_
          refine tq_goto (M := mX11_markNew) (pc := 76) (tgt := 80) dX11_markNew_76 (by decide) ?_
          refine tq_pick (L2 := [(0, .ref i0), (2, .long i2), (4, .int i4), (6, .int y6)]) [0, 1, 2, 4] rfl ?_
          cases (Option.some.inj hf)
          exact HJ62
        · have hf := tq_ifp ep9 cc
          refine tq_aload_n (M := mX11_markNew) (pc := 65) dX11_markNew_65 rfl ?_
          refine tq_iload (M := mX11_markNew) (pc := 66) dX11_markNew_66 rfl ?_
          refine tq_iconst (M := mX11_markNew) (pc := 68) dX11_markNew_68 tk_ki_4 ?_
          obtain ⟨⟨⟩, eu8, hf⟩ := tq_be hf
          obtain ⟨fsu8, eu8⟩ := tq_is_s eu8
          obtain ⟨v7, ev7, hf⟩ := tq_be hf
          refine tq_calV (M := mX11_markNew) (pc := 69) (S := []) tk_y_X11_isListed tk_v_X11_isListed tk_RX11_214 dX11_markNew_69 [.int y6, .int (4 : Int32)] rfl (S0 := _) rfl eu8 rfl (Nat.le_of_ble_eq_true rfl) (d1 := d - 1) (b1 := 0) (s1 := 0) (bc' := 0) (bs' := 0) (Q1 := fun r h9 => r = .inl (some (.int v7)) ∧ hh = h9) (by omega) rfl rfl (w_X11_isListed (by omega) ev7 (fun _ _ q => q)) (fun E h9 q => nomatch (show (Sum.inr E : tq_R) = Sum.inl _ from q.1)) (fun r9 h9 q => ?_)
          obtain ⟨q1, rfl⟩ := q
          cases (show (Sum.inl r9 : tq_R) = Sum.inl (some (.int v7)) from q1)
          refine tq_if_eq (M := mX11_markNew) (pc := 72) (tgt := 79) dX11_markNew_72 (by decide) (fun cc => ?_) (fun cc => ?_)
          · have hf := tq_ifp hf cc
            refine tq_iconst (M := mX11_markNew) (pc := 79) dX11_markNew_79 tk_ki_0 ?_
            refine tq_pick (L2 := [(0, .ref i0), (2, .long i2), (4, .int i4), (6, .int y6)]) [0, 1, 2, 4] rfl ?_
            cases (Option.some.inj hf)
            exact HJ62
          · have hf := tq_ifn hf cc
            refine tq_iconst (M := mX11_markNew) (pc := 75) dX11_markNew_75 tk_ki_1 ?_
            refine tq_goto (M := mX11_markNew) (pc := 76) (tgt := 80) dX11_markNew_76 (by decide) ?_
            refine tq_pick (L2 := [(0, .ref i0), (2, .long i2), (4, .int i4), (6, .int y6)]) [0, 1, 2, 4] rfl ?_
            cases (Option.some.inj hf)
            exact HJ62
set_option maxHeartbeats 4000000 in
theorem l_X11_markNew_3 {l : Launch} {d : Nat} {Q : tq_R → tq_H → Prop} (hd9 : 1 ≤ d) (i0 : Nat) (i2 : Int64) : ∀ (n : Nat) (y4 : Int32) (hh : tq_H) (o : tq_H), tq_loop (f_X11_markNew_b3 i0 i2) n (y4, hh) = some o → tq_W l mX11_markNew d 0 0 Q 109 [] [] o → tq_W l mX11_markNew d 0 0 Q 3 [(0, .ref i0), (2, .long i2), (4, .int y4)] [] hh := by
  intro n
  induction n with
  | zero => intro y4 hh o hl; cases hl
  | succ n ih =>
    intro y4 hh o hl hk
    obtain ⟨oo, hf, ho⟩ := tq_loop_s hl
    refine tq_iload (M := mX11_markNew) (pc := 3) dX11_markNew_3 rfl ?_
    refine tq_aload_n (M := mX11_markNew) (pc := 5) dX11_markNew_5 rfl ?_
    obtain ⟨x1, ex1, hf⟩ := tq_be hf
    refine tq_getI (M := mX11_markNew) (pc := 6) tk_c11 (by decide) dX11_markNew_6 tk_RX11_159 rfl ex1 ?_
    refine tq_icmp_ge (M := mX11_markNew) (pc := 9) (tgt := 109) dX11_markNew_9 (by decide) (fun cc => ?_) (fun cc => ?_)
    · have hf := tq_ifp hf cc
      refine tq_pick (L2 := []) [] rfl ?_
      cases (Option.some.inj hf)
      cases (tq_lx ho)
      exact hk
    · have hf := tq_ifn hf cc
      refine tq_aload_n (M := mX11_markNew) (pc := 12) dX11_markNew_12 rfl ?_
      obtain ⟨k2, ek2, hf⟩ := tq_be hf
      refine tq_getR (M := mX11_markNew) (pc := 13) tk_c11 (by decide) dX11_markNew_13 tk_RX11_31 rfl ek2 ?_
      refine tq_iload (M := mX11_markNew) (pc := 16) dX11_markNew_16 rfl ?_
      obtain ⟨x3, ex3, hf⟩ := tq_be hf
      refine tq_zaldF (M := mX11_markNew) (pc := 18) dX11_markNew_18 ex3 ?_
      obtain ⟨p4, ep4, hf⟩ := tq_le hf
      have HJ19 : tq_W l mX11_markNew d 0 0 Q 38 [(0, .ref i0), (2, .long i2), (4, .int y4)] [.int p4] hh := by
        refine tq_istore (M := mX11_markNew) (pc := 38) dX11_markNew_38 (L2 := [(5, .int p4), (0, .ref i0), (2, .long i2), (4, .int y4)]) (by decide) rfl ?_
        refine tq_iload (M := mX11_markNew) (pc := 40) dX11_markNew_40 rfl ?_
        refine tq_istore (M := mX11_markNew) (pc := 42) dX11_markNew_42 (L2 := [(6, .int y4), (5, .int p4), (0, .ref i0), (2, .long i2), (4, .int y4)]) (by decide) rfl ?_
        obtain ⟨o12, eo12, hf⟩ := tq_be hf
        refine tq_pick (L2 := [(0, .ref i0), (2, .long i2), (4, .int y4), (5, .int p4), (6, .int y4)]) [2, 3, 4, 1, 0] rfl ?_
        refine l_X11_markNew_44 (by omega) i0 i2 y4 hh _ p4 y4 _ eo12 ?_
        refine tq_aload_n (M := mX11_markNew) (pc := 94) dX11_markNew_94 rfl ?_
        obtain ⟨k13, ek13, hf⟩ := tq_be hf
        refine tq_getR (M := mX11_markNew) (pc := 95) tk_c11 (by decide) dX11_markNew_95 tk_RX11_65 rfl ek13 ?_
        refine tq_iload (M := mX11_markNew) (pc := 98) dX11_markNew_98 rfl ?_
        refine tq_iload (M := mX11_markNew) (pc := 100) dX11_markNew_100 rfl ?_
        obtain ⟨w14, ew14, hf⟩ := tq_be hf
        refine tq_zastF (M := mX11_markNew) (pc := 102) dX11_markNew_102 ew14 ?_
        obtain ⟨x15, ex15, hf⟩ := tq_le hf
        refine tq_iinc (M := mX11_markNew) (pc := 103) (v := x15) (L2 := [(4, .int x15), (0, .ref i0), (2, .long i2), (5, .int o12)]) dX11_markNew_103 rfl (by rw [ex15, tk_ki_1]) (by decide) rfl ?_
        refine tq_goto (M := mX11_markNew) (pc := 106) (tgt := 3) dX11_markNew_106 (by decide) ?_
        refine tq_pick (L2 := [(0, .ref i0), (2, .long i2), (4, .int x15)]) [1, 2, 0] rfl ?_
        cases (Option.some.inj hf)
        exact ih _ _ o (tq_lc ho) hk
      refine tq_if_eq (M := mX11_markNew) (pc := 19) (tgt := 37) dX11_markNew_19 (by decide) (fun cc => ?_) (fun cc => ?_)
      · have hf := tq_ifp ep4.symm cc
        refine tq_iconst (M := mX11_markNew) (pc := 37) dX11_markNew_37 tk_ki_0 ?_
        cases hf
        exact HJ19
      · have hf := tq_ifn ep4.symm cc
        refine tq_lload_n (M := mX11_markNew) (pc := 22) dX11_markNew_22 rfl ?_
        refine tq_iload (M := mX11_markNew) (pc := 23) dX11_markNew_23 rfl ?_
        refine tq_lshr (M := mX11_markNew) (pc := 25) dX11_markNew_25 ?_
        refine tq_lconst (M := mX11_markNew) (pc := 26) dX11_markNew_26 tk_kl_1 ?_
        refine tq_land (M := mX11_markNew) (pc := 27) dX11_markNew_27 ?_
        refine tq_lconst (M := mX11_markNew) (pc := 28) dX11_markNew_28 tk_kl_0 ?_
        refine tq_lcmp (M := mX11_markNew) (pc := 29) dX11_markNew_29 ?_
        refine tq_if_ne (M := mX11_markNew) (pc := 30) (tgt := 37) dX11_markNew_30 (by decide) (fun cc => ?_) (fun cc => ?_)
        · have hf := tq_ifn hf cc
          refine tq_iconst (M := mX11_markNew) (pc := 37) dX11_markNew_37 tk_ki_0 ?_
          cases hf
          exact HJ19
        · have hf := tq_ifp hf cc
          refine tq_iconst (M := mX11_markNew) (pc := 33) dX11_markNew_33 tk_ki_1 ?_
          refine tq_goto (M := mX11_markNew) (pc := 34) (tgt := 38) dX11_markNew_34 (by decide) ?_
          cases hf
          exact HJ19
set_option maxHeartbeats 4000000 in
set_option maxRecDepth 20000 in
theorem w_X11_markNew {l : Launch} {d : Nat} (hd9 : 1 ≤ d) {t : Nat} {a1 : Int32} {a2 : Int64} {h : tq_H} {o : tq_H} {Q : tq_R → tq_H → Prop} (hf : f_X11_markNew t a1 a2 h = some o) (hQ : ∀ r h9, r = .inl none ∧ o = h9 → Q r h9) : tq_C l yX11_markNew cX11_markNew 7 none d 0 0 [.ref t, .int a1, .long a2] h Q := by
  refine tq_body (y := yX11_markNew) false (by decide +kernel) (fun z => by cases z) (Nat.le_of_ble_eq_true rfl) ?_
  show tq_W l mX11_markNew d 0 0 Q 0 [(0, .ref t), (1, .int a1), (2, .long a2)] [] h
  refine tq_iconst (M := mX11_markNew) (pc := 0) dX11_markNew_0 tk_ki_0 ?_
  refine tq_istore (M := mX11_markNew) (pc := 1) dX11_markNew_1 (L2 := [(4, .int (0 : Int32)), (0, .ref t), (1, .int a1), (2, .long a2)]) (by decide) rfl ?_
  obtain ⟨o16, eo16, hf⟩ := tq_be hf
  refine tq_pick (L2 := [(0, .ref t), (2, .long a2), (4, .int (0 : Int32))]) [1, 3, 0] rfl ?_
  refine l_X11_markNew_3 (by omega) t a2 _ (0 : Int32) h _ eo16 ?_
  refine tq_vret (M := mX11_markNew) (pc := 109) dX11_markNew_109 rfl ?_
  cases (Option.some.inj hf)
  exact hQ _ _ ⟨rfl, rfl⟩
abbrev mX11_numberRow : tq_M := (RX11, cX11_numberRow, 8, (some .int), false, [], none)
def f_X11_numberRow_b4 (i0 : Nat) (i1 : Int32) (hh : tq_H) (s : Int32 × Int32) : Option ((Int32 × Int32) ⊕ (Int32)) := match s with
  | (y2, y3) =>
    if y3 ≥ i1 then
      some (.inr y2)
    else
      (tq_gr hh i0 11 2).bind fun k1 =>
      (tq_gr hh i0 11 12).bind fun k2 =>
      (tq_ai hh k2 y3).bind fun x3 =>
      (tq_ai hh k1 x3).bind fun x4 =>
      (if x4 = (2 : Int32) then
        some y2
      else
        (tq_gr hh i0 11 8).bind fun k5 =>
        (tq_gr hh i0 11 12).bind fun k6 =>
        (tq_ai hh k6 y3).bind fun x7 =>
        (tq_ai hh k5 x7).bind fun x8 =>
        some x8).bind fun p9 =>
      tq_let (y3 + (1 : Int32)) fun x10 =>
      some (.inl (p9, x10))
def f_X11_numberRow_b51 (i0 : Nat) (i1 : Int32) (i2 : Int32) (hh : tq_H) (s : Int32 × Int32) : Option ((Int32 × Int32) ⊕ (Int32 × Int32)) := match s with
  | (y3, y4) =>
    (tq_gi hh i0 11 11).bind fun x12 =>
    if y4 ≥ x12 then
      some (.inr (y3, y4))
    else
      (tq_gr hh i0 11 2).bind fun k13 =>
      (tq_gr hh i0 11 12).bind fun k14 =>
      (tq_ai hh k14 y4).bind fun x15 =>
      (tq_ai hh k13 x15).bind fun x16 =>
      if x16 = (2 : Int32) then
        (tq_gr hh i0 11 2).bind fun k17 =>
        (tq_gr hh i0 11 12).bind fun k18 =>
        (tq_ai hh k18 y4).bind fun x19 =>
        (tq_ai hh k17 x19).bind fun x20 =>
        tq_let (if x20 = (2 : Int32) then (0 : Int32) else (1 : Int32)) fun p21 =>
        tq_let ((y3 + p21)) fun x22 =>
        tq_let (y4 + (1 : Int32)) fun x23 =>
        some (.inl (x22, x23))
      else
        (tq_gr hh i0 11 23).bind fun k24 =>
        (tq_gr hh i0 11 12).bind fun k25 =>
        (tq_ai hh k25 y4).bind fun x26 =>
        (tq_az hh k24 x26).bind fun x27 =>
        if x27 = 0 then
          some (.inr (y3, y4))
        else
          (tq_gr hh i0 11 2).bind fun k28 =>
          (tq_gr hh i0 11 12).bind fun k29 =>
          (tq_ai hh k29 y4).bind fun x30 =>
          (tq_ai hh k28 x30).bind fun x31 =>
          tq_let (if x31 = (2 : Int32) then (0 : Int32) else (1 : Int32)) fun p32 =>
          tq_let ((y3 + p32)) fun x33 =>
          tq_let (y4 + (1 : Int32)) fun x34 =>
          some (.inl (x33, x34))
def f_X11_numberRow_b156 (i0 : Nat) (i2 : Int32) (i3 : Int32) (i4 : Int32) (i5 : Int32) (s : Int32 × Int32 × tq_H) : Option ((Int32 × Int32 × tq_H) ⊕ (tq_H)) := match s with
  | (y6, y7, hh) =>
    if y7 ≥ i4 then
      some (.inr hh)
    else
      (tq_gr hh i0 11 2).bind fun k42 =>
      (tq_gr hh i0 11 12).bind fun k43 =>
      (tq_ai hh k43 y7).bind fun x44 =>
      (tq_ai hh k42 x44).bind fun x45 =>
      (if x45 = (2 : Int32) then
        some (y6, hh)
      else
        tq_let (y6 + (1 : Int32)) fun x46 =>
        (tq_gr hh i0 11 8).bind fun k47 =>
        (tq_gr hh i0 11 12).bind fun k48 =>
        (tq_ai hh k48 y7).bind fun x49 =>
        (tq_gi hh i0 11 11).bind fun x50 =>
        (if i4 ≥ x50 then
          some (i2 + ((16 : Int32) * x46))
        else
          (tq_nz (i3 + (1 : Int32))).bind fun _ =>
          some (i2 + ((x46 * i5) / (i3 + (1 : Int32))))).bind fun p52 =>
        (tq_si hh k47 x49 p52).bind fun w53 =>
        some (x46, w53)).bind fun p54 =>
      tq_let (y7 + (1 : Int32)) fun x55 =>
      some (.inl (p54.1, x55, p54.2))
def f_X11_numberRow (t : Nat) (a1 : Int32) (h : tq_H) : Option (Int32 × tq_H) :=
  (tq_loop (f_X11_numberRow_b4 t a1 h) tq_N ((0 : Int32), (0 : Int32))).bind fun o11 =>
  (tq_loop (f_X11_numberRow_b51 t a1 o11 h) tq_N ((0 : Int32), a1)).bind fun o35 =>
  (tq_gi h t 11 11).bind fun x36 =>
  (if o35.2 ≥ x36 then
    some (0 : Int32)
  else
    (tq_gr h t 11 8).bind fun k37 =>
    (tq_gr h t 11 12).bind fun k38 =>
    (tq_ai h k38 o35.2).bind fun x39 =>
    (tq_ai h k37 x39).bind fun x40 =>
    some (x40 - o11)).bind fun p41 =>
  (tq_loop (f_X11_numberRow_b156 t o11 o35.1 o35.2 p41) tq_N ((0 : Int32), a1, h)).bind fun o56 =>
  (tq_gi o56 t 11 11).bind fun x57 =>
  tq_let (if o35.2 ≥ x57 then o35.2 else (if p41 > o35.1 then o35.2 else (-o35.2))) fun p58 =>
  some (p58, o56)
set_option maxHeartbeats 4000000 in
theorem l_X11_numberRow_4 {l : Launch} {d : Nat} {Q : tq_R → tq_H → Prop} (hd9 : 0 ≤ d) (i0 : Nat) (i1 : Int32) (hh : tq_H) : ∀ (n : Nat) (y2 : Int32) (y3 : Int32) (o : Int32), tq_loop (f_X11_numberRow_b4 i0 i1 hh) n (y2, y3) = some o → tq_W l mX11_numberRow d 0 0 Q 46 [(0, .ref i0), (1, .int i1), (2, .int o)] [] hh → tq_W l mX11_numberRow d 0 0 Q 4 [(0, .ref i0), (1, .int i1), (2, .int y2), (3, .int y3)] [] hh := by
  intro n
  induction n with
  | zero => intro y2 y3 o hl; cases hl
  | succ n ih =>
    intro y2 y3 o hl hk
    obtain ⟨oo, hf, ho⟩ := tq_loop_s hl
    refine tq_iload_n (M := mX11_numberRow) (pc := 4) dX11_numberRow_4 rfl ?_
    refine tq_iload_n (M := mX11_numberRow) (pc := 5) dX11_numberRow_5 rfl ?_
    refine tq_icmp_ge (M := mX11_numberRow) (pc := 6) (tgt := 46) dX11_numberRow_6 (by decide) (fun cc => ?_) (fun cc => ?_)
    · have hf := tq_ifp hf cc
      refine tq_pick (L2 := [(0, .ref i0), (1, .int i1), (2, .int y2)]) [0, 1, 2] rfl ?_
      cases (Option.some.inj hf)
      cases (tq_lx ho)
      exact hk
    · have hf := tq_ifn hf cc
      refine tq_aload_n (M := mX11_numberRow) (pc := 9) dX11_numberRow_9 rfl ?_
      obtain ⟨k1, ek1, hf⟩ := tq_be hf
      refine tq_getR (M := mX11_numberRow) (pc := 10) tk_c11 (by decide) dX11_numberRow_10 tk_RX11_7 rfl ek1 ?_
      refine tq_aload_n (M := mX11_numberRow) (pc := 13) dX11_numberRow_13 rfl ?_
      obtain ⟨k2, ek2, hf⟩ := tq_be hf
      refine tq_getR (M := mX11_numberRow) (pc := 14) tk_c11 (by decide) dX11_numberRow_14 tk_RX11_35 rfl ek2 ?_
      refine tq_iload_n (M := mX11_numberRow) (pc := 17) dX11_numberRow_17 rfl ?_
      obtain ⟨x3, ex3, hf⟩ := tq_be hf
      refine tq_ialdF (M := mX11_numberRow) (pc := 18) dX11_numberRow_18 ex3 ?_
      obtain ⟨x4, ex4, hf⟩ := tq_be hf
      refine tq_ialdF (M := mX11_numberRow) (pc := 19) dX11_numberRow_19 ex4 ?_
      refine tq_iconst (M := mX11_numberRow) (pc := 20) dX11_numberRow_20 tk_ki_2 ?_
      obtain ⟨p9, ep9, hf⟩ := tq_be hf
      have HJ21 : tq_W l mX11_numberRow d 0 0 Q 39 [(0, .ref i0), (1, .int i1), (3, .int y3)] [.int p9] hh := by
        refine tq_istore_n (M := mX11_numberRow) (pc := 39) rfl dX11_numberRow_39 (L2 := [(2, .int p9), (0, .ref i0), (1, .int i1), (3, .int y3)]) (by decide) rfl ?_
        obtain ⟨x10, ex10, hf⟩ := tq_le hf
        refine tq_iinc (M := mX11_numberRow) (pc := 40) (v := x10) (L2 := [(3, .int x10), (2, .int p9), (0, .ref i0), (1, .int i1)]) dX11_numberRow_40 rfl (by rw [ex10, tk_ki_1]) (by decide) rfl ?_
        refine tq_goto (M := mX11_numberRow) (pc := 43) (tgt := 4) dX11_numberRow_43 (by decide) ?_
        refine tq_pick (L2 := [(0, .ref i0), (1, .int i1), (2, .int p9), (3, .int x10)]) [2, 3, 1, 0] rfl ?_
        cases (Option.some.inj hf)
        exact ih _ _ o (tq_lc ho) hk
      refine tq_icmp_eq (M := mX11_numberRow) (pc := 21) (tgt := 38) dX11_numberRow_21 (by decide) (fun cc => ?_) (fun cc => ?_)
      · have hf := tq_ifp ep9 cc
        refine tq_iload_n (M := mX11_numberRow) (pc := 38) dX11_numberRow_38 rfl ?_
        refine tq_pick (L2 := [(0, .ref i0), (1, .int i1), (3, .int y3)]) [0, 1, 3] rfl ?_
        cases (Option.some.inj hf)
        exact HJ21
      · have hf := tq_ifn ep9 cc
        refine tq_aload_n (M := mX11_numberRow) (pc := 24) dX11_numberRow_24 rfl ?_
        obtain ⟨k5, ek5, hf⟩ := tq_be hf
        refine tq_getR (M := mX11_numberRow) (pc := 25) tk_c11 (by decide) dX11_numberRow_25 tk_RX11_28 rfl ek5 ?_
        refine tq_aload_n (M := mX11_numberRow) (pc := 28) dX11_numberRow_28 rfl ?_
        obtain ⟨k6, ek6, hf⟩ := tq_be hf
        refine tq_getR (M := mX11_numberRow) (pc := 29) tk_c11 (by decide) dX11_numberRow_29 tk_RX11_35 rfl ek6 ?_
        refine tq_iload_n (M := mX11_numberRow) (pc := 32) dX11_numberRow_32 rfl ?_
        obtain ⟨x7, ex7, hf⟩ := tq_be hf
        refine tq_ialdF (M := mX11_numberRow) (pc := 33) dX11_numberRow_33 ex7 ?_
        obtain ⟨x8, ex8, hf⟩ := tq_be hf
        refine tq_ialdF (M := mX11_numberRow) (pc := 34) dX11_numberRow_34 ex8 ?_
        refine tq_goto (M := mX11_numberRow) (pc := 35) (tgt := 39) dX11_numberRow_35 (by decide) ?_
        refine tq_pick (L2 := [(0, .ref i0), (1, .int i1), (3, .int y3)]) [0, 1, 3] rfl ?_
        cases (Option.some.inj hf)
        exact HJ21
set_option maxHeartbeats 4000000 in
theorem l_X11_numberRow_51 {l : Launch} {d : Nat} {Q : tq_R → tq_H → Prop} (hd9 : 0 ≤ d) (i0 : Nat) (i1 : Int32) (i2 : Int32) (hh : tq_H) : ∀ (n : Nat) (y3 : Int32) (y4 : Int32) (o : Int32 × Int32), tq_loop (f_X11_numberRow_b51 i0 i1 i2 hh) n (y3, y4) = some o → tq_W l mX11_numberRow d 0 0 Q 121 [(0, .ref i0), (1, .int i1), (2, .int i2), (3, .int o.1), (4, .int o.2)] [] hh → tq_W l mX11_numberRow d 0 0 Q 51 [(0, .ref i0), (1, .int i1), (2, .int i2), (3, .int y3), (4, .int y4)] [] hh := by
  intro n
  induction n with
  | zero => intro y3 y4 o hl; cases hl
  | succ n ih =>
    intro y3 y4 o hl hk
    obtain ⟨oo, hf, ho⟩ := tq_loop_s hl
    refine tq_iload (M := mX11_numberRow) (pc := 51) dX11_numberRow_51 rfl ?_
    refine tq_aload_n (M := mX11_numberRow) (pc := 53) dX11_numberRow_53 rfl ?_
    obtain ⟨x12, ex12, hf⟩ := tq_be hf
    refine tq_getI (M := mX11_numberRow) (pc := 54) tk_c11 (by decide) dX11_numberRow_54 tk_RX11_173 rfl ex12 ?_
    refine tq_icmp_ge (M := mX11_numberRow) (pc := 57) (tgt := 121) dX11_numberRow_57 (by decide) (fun cc => ?_) (fun cc => ?_)
    · have hf := tq_ifp hf cc
      cases (Option.some.inj hf)
      cases (tq_lx ho)
      exact hk
    · have hf := tq_ifn hf cc
      refine tq_aload_n (M := mX11_numberRow) (pc := 60) dX11_numberRow_60 rfl ?_
      obtain ⟨k13, ek13, hf⟩ := tq_be hf
      refine tq_getR (M := mX11_numberRow) (pc := 61) tk_c11 (by decide) dX11_numberRow_61 tk_RX11_7 rfl ek13 ?_
      refine tq_aload_n (M := mX11_numberRow) (pc := 64) dX11_numberRow_64 rfl ?_
      obtain ⟨k14, ek14, hf⟩ := tq_be hf
      refine tq_getR (M := mX11_numberRow) (pc := 65) tk_c11 (by decide) dX11_numberRow_65 tk_RX11_35 rfl ek14 ?_
      refine tq_iload (M := mX11_numberRow) (pc := 68) dX11_numberRow_68 rfl ?_
      obtain ⟨x15, ex15, hf⟩ := tq_be hf
      refine tq_ialdF (M := mX11_numberRow) (pc := 70) dX11_numberRow_70 ex15 ?_
      obtain ⟨x16, ex16, hf⟩ := tq_be hf
      refine tq_ialdF (M := mX11_numberRow) (pc := 71) dX11_numberRow_71 ex16 ?_
      refine tq_iconst (M := mX11_numberRow) (pc := 72) dX11_numberRow_72 tk_ki_2 ?_
      refine tq_icmp_eq (M := mX11_numberRow) (pc := 73) (tgt := 91) dX11_numberRow_73 (by decide) (fun cc => ?_) (fun cc => ?_)
      · have hf := tq_ifp hf cc
        refine tq_iload_n (M := mX11_numberRow) (pc := 91) dX11_numberRow_91 rfl ?_
        refine tq_aload_n (M := mX11_numberRow) (pc := 92) dX11_numberRow_92 rfl ?_
        obtain ⟨k17, ek17, hf⟩ := tq_be hf
        refine tq_getR (M := mX11_numberRow) (pc := 93) tk_c11 (by decide) dX11_numberRow_93 tk_RX11_7 rfl ek17 ?_
        refine tq_aload_n (M := mX11_numberRow) (pc := 96) dX11_numberRow_96 rfl ?_
        obtain ⟨k18, ek18, hf⟩ := tq_be hf
        refine tq_getR (M := mX11_numberRow) (pc := 97) tk_c11 (by decide) dX11_numberRow_97 tk_RX11_35 rfl ek18 ?_
        refine tq_iload (M := mX11_numberRow) (pc := 100) dX11_numberRow_100 rfl ?_
        obtain ⟨x19, ex19, hf⟩ := tq_be hf
        refine tq_ialdF (M := mX11_numberRow) (pc := 102) dX11_numberRow_102 ex19 ?_
        obtain ⟨x20, ex20, hf⟩ := tq_be hf
        refine tq_ialdF (M := mX11_numberRow) (pc := 103) dX11_numberRow_103 ex20 ?_
        refine tq_iconst (M := mX11_numberRow) (pc := 104) dX11_numberRow_104 tk_ki_2 ?_
        obtain ⟨p21, ep21, hf⟩ := tq_le hf
        have HJ105 : tq_W l mX11_numberRow d 0 0 Q 113 [(0, .ref i0), (1, .int i1), (2, .int i2), (4, .int y4)] [.int p21, .int y3] hh := by
          refine tq_iadd (M := mX11_numberRow) (pc := 113) dX11_numberRow_113 ?_
          obtain ⟨x22, ex22, hf⟩ := tq_le hf
          refine tq_istore_n (M := mX11_numberRow) (pc := 114) rfl dX11_numberRow_114 (L2 := [(3, .int x22), (0, .ref i0), (1, .int i1), (2, .int i2), (4, .int y4)]) (by decide) (by rw [ex22]; rfl) ?_
          obtain ⟨x23, ex23, hf⟩ := tq_le hf
          refine tq_iinc (M := mX11_numberRow) (pc := 115) (v := x23) (L2 := [(4, .int x23), (3, .int x22), (0, .ref i0), (1, .int i1), (2, .int i2)]) dX11_numberRow_115 rfl (by rw [ex23, tk_ki_1]) (by decide) rfl ?_
          refine tq_goto (M := mX11_numberRow) (pc := 118) (tgt := 51) dX11_numberRow_118 (by decide) ?_
          refine tq_pick (L2 := [(0, .ref i0), (1, .int i1), (2, .int i2), (3, .int x22), (4, .int x23)]) [2, 3, 4, 1, 0] rfl ?_
          cases (Option.some.inj hf)
          exact ih _ _ o (tq_lc ho) hk
        refine tq_icmp_eq (M := mX11_numberRow) (pc := 105) (tgt := 112) dX11_numberRow_105 (by decide) (fun cc => ?_) (fun cc => ?_)
        · have hf := tq_ifp ep21.symm cc
          refine tq_iconst (M := mX11_numberRow) (pc := 112) dX11_numberRow_112 tk_ki_0 ?_
          refine tq_pick (L2 := [(0, .ref i0), (1, .int i1), (2, .int i2), (4, .int y4)]) [0, 1, 2, 4] rfl ?_
          cases hf
          exact HJ105
        · have hf := tq_ifn ep21.symm cc
          refine tq_iconst (M := mX11_numberRow) (pc := 108) dX11_numberRow_108 tk_ki_1 ?_
          refine tq_goto (M := mX11_numberRow) (pc := 109) (tgt := 113) dX11_numberRow_109 (by decide) ?_
          refine tq_pick (L2 := [(0, .ref i0), (1, .int i1), (2, .int i2), (4, .int y4)]) [0, 1, 2, 4] rfl ?_
          cases hf
          exact HJ105
      · have hf := tq_ifn hf cc
        refine tq_aload_n (M := mX11_numberRow) (pc := 76) dX11_numberRow_76 rfl ?_
        obtain ⟨k24, ek24, hf⟩ := tq_be hf
        refine tq_getR (M := mX11_numberRow) (pc := 77) tk_c11 (by decide) dX11_numberRow_77 tk_RX11_65 rfl ek24 ?_
        refine tq_aload_n (M := mX11_numberRow) (pc := 80) dX11_numberRow_80 rfl ?_
        obtain ⟨k25, ek25, hf⟩ := tq_be hf
        refine tq_getR (M := mX11_numberRow) (pc := 81) tk_c11 (by decide) dX11_numberRow_81 tk_RX11_35 rfl ek25 ?_
        refine tq_iload (M := mX11_numberRow) (pc := 84) dX11_numberRow_84 rfl ?_
        obtain ⟨x26, ex26, hf⟩ := tq_be hf
        refine tq_ialdF (M := mX11_numberRow) (pc := 86) dX11_numberRow_86 ex26 ?_
        obtain ⟨x27, ex27, hf⟩ := tq_be hf
        refine tq_zaldF (M := mX11_numberRow) (pc := 87) dX11_numberRow_87 ex27 ?_
        refine tq_if_eq (M := mX11_numberRow) (pc := 88) (tgt := 121) dX11_numberRow_88 (by decide) (fun cc => ?_) (fun cc => ?_)
        · have hf := tq_ifp hf cc
          cases (Option.some.inj hf)
          cases (tq_lx ho)
          exact hk
        · have hf := tq_ifn hf cc
          refine tq_iload_n (M := mX11_numberRow) (pc := 91) dX11_numberRow_91 rfl ?_
          refine tq_aload_n (M := mX11_numberRow) (pc := 92) dX11_numberRow_92 rfl ?_
          obtain ⟨k28, ek28, hf⟩ := tq_be hf
          refine tq_getR (M := mX11_numberRow) (pc := 93) tk_c11 (by decide) dX11_numberRow_93 tk_RX11_7 rfl ek28 ?_
          refine tq_aload_n (M := mX11_numberRow) (pc := 96) dX11_numberRow_96 rfl ?_
          obtain ⟨k29, ek29, hf⟩ := tq_be hf
          refine tq_getR (M := mX11_numberRow) (pc := 97) tk_c11 (by decide) dX11_numberRow_97 tk_RX11_35 rfl ek29 ?_
          refine tq_iload (M := mX11_numberRow) (pc := 100) dX11_numberRow_100 rfl ?_
          obtain ⟨x30, ex30, hf⟩ := tq_be hf
          refine tq_ialdF (M := mX11_numberRow) (pc := 102) dX11_numberRow_102 ex30 ?_
          obtain ⟨x31, ex31, hf⟩ := tq_be hf
          refine tq_ialdF (M := mX11_numberRow) (pc := 103) dX11_numberRow_103 ex31 ?_
          refine tq_iconst (M := mX11_numberRow) (pc := 104) dX11_numberRow_104 tk_ki_2 ?_
          obtain ⟨p32, ep32, hf⟩ := tq_le hf
          have HJ105 : tq_W l mX11_numberRow d 0 0 Q 113 [(0, .ref i0), (1, .int i1), (2, .int i2), (4, .int y4)] [.int p32, .int y3] hh := by
            refine tq_iadd (M := mX11_numberRow) (pc := 113) dX11_numberRow_113 ?_
            obtain ⟨x33, ex33, hf⟩ := tq_le hf
            refine tq_istore_n (M := mX11_numberRow) (pc := 114) rfl dX11_numberRow_114 (L2 := [(3, .int x33), (0, .ref i0), (1, .int i1), (2, .int i2), (4, .int y4)]) (by decide) (by rw [ex33]; rfl) ?_
            obtain ⟨x34, ex34, hf⟩ := tq_le hf
            refine tq_iinc (M := mX11_numberRow) (pc := 115) (v := x34) (L2 := [(4, .int x34), (3, .int x33), (0, .ref i0), (1, .int i1), (2, .int i2)]) dX11_numberRow_115 rfl (by rw [ex34, tk_ki_1]) (by decide) rfl ?_
            refine tq_goto (M := mX11_numberRow) (pc := 118) (tgt := 51) dX11_numberRow_118 (by decide) ?_
            refine tq_pick (L2 := [(0, .ref i0), (1, .int i1), (2, .int i2), (3, .int x33), (4, .int x34)]) [2, 3, 4, 1, 0] rfl ?_
            cases (Option.some.inj hf)
            exact ih _ _ o (tq_lc ho) hk
          refine tq_icmp_eq (M := mX11_numberRow) (pc := 105) (tgt := 112) dX11_numberRow_105 (by decide) (fun cc => ?_) (fun cc => ?_)
          · have hf := tq_ifp ep32.symm cc
            refine tq_iconst (M := mX11_numberRow) (pc := 112) dX11_numberRow_112 tk_ki_0 ?_
            refine tq_pick (L2 := [(0, .ref i0), (1, .int i1), (2, .int i2), (4, .int y4)]) [0, 1, 2, 4] rfl ?_
            cases hf
            exact HJ105
          · have hf := tq_ifn ep32.symm cc
            refine tq_iconst (M := mX11_numberRow) (pc := 108) dX11_numberRow_108 tk_ki_1 ?_
            refine tq_goto (M := mX11_numberRow) (pc := 109) (tgt := 113) dX11_numberRow_109 (by decide) ?_
            refine tq_pick (L2 := [(0, .ref i0), (1, .int i1), (2, .int i2), (4, .int y4)]) [0, 1, 2, 4] rfl ?_
            cases hf
            exact HJ105
set_option maxHeartbeats 4000000 in
theorem l_X11_numberRow_156 {l : Launch} {d : Nat} {Q : tq_R → tq_H → Prop} (hd9 : 0 ≤ d) (i0 : Nat) (i2 : Int32) (i3 : Int32) (i4 : Int32) (i5 : Int32) : ∀ (n : Nat) (y6 : Int32) (y7 : Int32) (hh : tq_H) (o : tq_H), tq_loop (f_X11_numberRow_b156 i0 i2 i3 i4 i5) n (y6, y7, hh) = some o → tq_W l mX11_numberRow d 0 0 Q 230 [(0, .ref i0), (3, .int i3), (4, .int i4), (5, .int i5)] [] o → tq_W l mX11_numberRow d 0 0 Q 156 [(0, .ref i0), (2, .int i2), (3, .int i3), (4, .int i4), (5, .int i5), (6, .int y6), (7, .int y7)] [] hh := by
  intro n
  induction n with
  | zero => intro y6 y7 hh o hl; cases hl
  | succ n ih =>
    intro y6 y7 hh o hl hk
    obtain ⟨oo, hf, ho⟩ := tq_loop_s hl
    refine tq_iload (M := mX11_numberRow) (pc := 156) dX11_numberRow_156 rfl ?_
    refine tq_iload (M := mX11_numberRow) (pc := 158) dX11_numberRow_158 rfl ?_
    refine tq_icmp_ge (M := mX11_numberRow) (pc := 160) (tgt := 230) dX11_numberRow_160 (by decide) (fun cc => ?_) (fun cc => ?_)
    · have hf := tq_ifp hf cc
      refine tq_pick (L2 := [(0, .ref i0), (3, .int i3), (4, .int i4), (5, .int i5)]) [0, 2, 3, 4] rfl ?_
      cases (Option.some.inj hf)
      cases (tq_lx ho)
      exact hk
    · have hf := tq_ifn hf cc
      refine tq_aload_n (M := mX11_numberRow) (pc := 163) dX11_numberRow_163 rfl ?_
      obtain ⟨k42, ek42, hf⟩ := tq_be hf
      refine tq_getR (M := mX11_numberRow) (pc := 164) tk_c11 (by decide) dX11_numberRow_164 tk_RX11_7 rfl ek42 ?_
      refine tq_aload_n (M := mX11_numberRow) (pc := 167) dX11_numberRow_167 rfl ?_
      obtain ⟨k43, ek43, hf⟩ := tq_be hf
      refine tq_getR (M := mX11_numberRow) (pc := 168) tk_c11 (by decide) dX11_numberRow_168 tk_RX11_35 rfl ek43 ?_
      refine tq_iload (M := mX11_numberRow) (pc := 171) dX11_numberRow_171 rfl ?_
      obtain ⟨x44, ex44, hf⟩ := tq_be hf
      refine tq_ialdF (M := mX11_numberRow) (pc := 173) dX11_numberRow_173 ex44 ?_
      obtain ⟨x45, ex45, hf⟩ := tq_be hf
      refine tq_ialdF (M := mX11_numberRow) (pc := 174) dX11_numberRow_174 ex45 ?_
      refine tq_iconst (M := mX11_numberRow) (pc := 175) dX11_numberRow_175 tk_ki_2 ?_
      obtain ⟨p54, ep54, hf⟩ := tq_be hf
      have HJ176 : tq_W l mX11_numberRow d 0 0 Q 224 [(0, .ref i0), (2, .int i2), (3, .int i3), (4, .int i4), (5, .int i5), (6, .int p54.1), (7, .int y7)] [] p54.2 := by
        obtain ⟨x55, ex55, hf⟩ := tq_le hf
        refine tq_iinc (M := mX11_numberRow) (pc := 224) (v := x55) (L2 := [(7, .int x55), (0, .ref i0), (2, .int i2), (3, .int i3), (4, .int i4), (5, .int i5), (6, .int p54.1)]) dX11_numberRow_224 rfl (by rw [ex55, tk_ki_1]) (by decide) rfl ?_
        refine tq_goto (M := mX11_numberRow) (pc := 227) (tgt := 156) dX11_numberRow_227 (by decide) ?_
        refine tq_pick (L2 := [(0, .ref i0), (2, .int i2), (3, .int i3), (4, .int i4), (5, .int i5), (6, .int p54.1), (7, .int x55)]) [1, 2, 3, 4, 5, 6, 0] rfl ?_
        cases (Option.some.inj hf)
        exact ih _ _ _ o (tq_lc ho) hk
      refine tq_icmp_eq (M := mX11_numberRow) (pc := 176) (tgt := 224) dX11_numberRow_176 (by decide) (fun cc => ?_) (fun cc => ?_)
      · have hf := tq_ifp ep54 cc
        cases (Option.some.inj hf)
        exact HJ176
      · have hf := tq_ifn ep54 cc
        obtain ⟨x46, ex46, hf⟩ := tq_le hf
        refine tq_iinc (M := mX11_numberRow) (pc := 179) (v := x46) (L2 := [(6, .int x46), (0, .ref i0), (2, .int i2), (3, .int i3), (4, .int i4), (5, .int i5), (7, .int y7)]) dX11_numberRow_179 rfl (by rw [ex46, tk_ki_1]) (by decide) rfl ?_
        refine tq_aload_n (M := mX11_numberRow) (pc := 182) dX11_numberRow_182 rfl ?_
        obtain ⟨k47, ek47, hf⟩ := tq_be hf
        refine tq_getR (M := mX11_numberRow) (pc := 183) tk_c11 (by decide) dX11_numberRow_183 tk_RX11_28 rfl ek47 ?_
        refine tq_aload_n (M := mX11_numberRow) (pc := 186) dX11_numberRow_186 rfl ?_
        obtain ⟨k48, ek48, hf⟩ := tq_be hf
        refine tq_getR (M := mX11_numberRow) (pc := 187) tk_c11 (by decide) dX11_numberRow_187 tk_RX11_35 rfl ek48 ?_
        refine tq_iload (M := mX11_numberRow) (pc := 190) dX11_numberRow_190 rfl ?_
        obtain ⟨x49, ex49, hf⟩ := tq_be hf
        refine tq_ialdF (M := mX11_numberRow) (pc := 192) dX11_numberRow_192 ex49 ?_
        refine tq_iload (M := mX11_numberRow) (pc := 193) dX11_numberRow_193 rfl ?_
        refine tq_aload_n (M := mX11_numberRow) (pc := 195) dX11_numberRow_195 rfl ?_
        obtain ⟨x50, ex50, hf⟩ := tq_be hf
        refine tq_getI (M := mX11_numberRow) (pc := 196) tk_c11 (by decide) dX11_numberRow_196 tk_RX11_173 rfl ex50 ?_
        obtain ⟨p52, ep52, hf⟩ := tq_be hf
        have HJ199 : tq_W l mX11_numberRow d 0 0 Q 223 [(0, .ref i0), (2, .int i2), (3, .int i3), (4, .int i4), (5, .int i5), (6, .int x46), (7, .int y7)] [.int p52, .int x49, .ref k47] hh := by
          obtain ⟨w53, ew53, hf⟩ := tq_be hf
          refine tq_iastF (M := mX11_numberRow) (pc := 223) dX11_numberRow_223 ew53 ?_
          cases (Option.some.inj hf)
          exact HJ176
        refine tq_icmp_ge (M := mX11_numberRow) (pc := 199) (tgt := 216) dX11_numberRow_199 (by decide) (fun cc => ?_) (fun cc => ?_)
        · have hf := tq_ifp ep52 cc
          refine tq_iload_n (M := mX11_numberRow) (pc := 216) dX11_numberRow_216 rfl ?_
          refine tq_bipush (M := mX11_numberRow) (pc := 217) dX11_numberRow_217 tk_kb_16 ?_
          refine tq_iload (M := mX11_numberRow) (pc := 219) dX11_numberRow_219 rfl ?_
          refine tq_imul (M := mX11_numberRow) (pc := 221) dX11_numberRow_221 ?_
          refine tq_iadd (M := mX11_numberRow) (pc := 222) dX11_numberRow_222 ?_
          refine tq_pick (L2 := [(0, .ref i0), (2, .int i2), (3, .int i3), (4, .int i4), (5, .int i5), (6, .int x46), (7, .int y7)]) [1, 2, 3, 4, 5, 0, 6] rfl ?_
          cases (Option.some.inj hf)
          exact HJ199
        · have hf := tq_ifn ep52 cc
          refine tq_iload_n (M := mX11_numberRow) (pc := 202) dX11_numberRow_202 rfl ?_
          refine tq_iload (M := mX11_numberRow) (pc := 203) dX11_numberRow_203 rfl ?_
          refine tq_iload (M := mX11_numberRow) (pc := 205) dX11_numberRow_205 rfl ?_
          refine tq_imul (M := mX11_numberRow) (pc := 207) dX11_numberRow_207 ?_
          refine tq_iload_n (M := mX11_numberRow) (pc := 208) dX11_numberRow_208 rfl ?_
          refine tq_iconst (M := mX11_numberRow) (pc := 209) dX11_numberRow_209 tk_ki_1 ?_
          refine tq_iadd (M := mX11_numberRow) (pc := 210) dX11_numberRow_210 ?_
          obtain ⟨u51, eu51, hf⟩ := tq_be hf
          refine tq_idiv (M := mX11_numberRow) (pc := 211) dX11_numberRow_211 (tq_nz_s eu51) ?_
          refine tq_iadd (M := mX11_numberRow) (pc := 212) dX11_numberRow_212 ?_
          refine tq_goto (M := mX11_numberRow) (pc := 213) (tgt := 223) dX11_numberRow_213 (by decide) ?_
          refine tq_pick (L2 := [(0, .ref i0), (2, .int i2), (3, .int i3), (4, .int i4), (5, .int i5), (6, .int x46), (7, .int y7)]) [1, 2, 3, 4, 5, 0, 6] rfl ?_
          cases (Option.some.inj hf)
          exact HJ199
set_option maxHeartbeats 4000000 in
set_option maxRecDepth 20000 in
theorem w_X11_numberRow {l : Launch} {d : Nat} (hd9 : 0 ≤ d) {t : Nat} {a1 : Int32} {h : tq_H} {o : Int32 × tq_H} {Q : tq_R → tq_H → Prop} (hf : f_X11_numberRow t a1 h = some o) (hQ : ∀ r h9, r = .inl (some (.int o.1)) ∧ o.2 = h9 → Q r h9) : tq_C l yX11_numberRow cX11_numberRow 8 (some .int) d 0 0 [.ref t, .int a1] h Q := by
  refine tq_body (y := yX11_numberRow) false (by decide +kernel) (fun z => by cases z) (Nat.le_of_ble_eq_true rfl) ?_
  show tq_W l mX11_numberRow d 0 0 Q 0 [(0, .ref t), (1, .int a1)] [] h
  refine tq_iconst (M := mX11_numberRow) (pc := 0) dX11_numberRow_0 tk_ki_0 ?_
  refine tq_istore_n (M := mX11_numberRow) (pc := 1) rfl dX11_numberRow_1 (L2 := [(2, .int (0 : Int32)), (0, .ref t), (1, .int a1)]) (by decide) rfl ?_
  refine tq_iconst (M := mX11_numberRow) (pc := 2) dX11_numberRow_2 tk_ki_0 ?_
  refine tq_istore_n (M := mX11_numberRow) (pc := 3) rfl dX11_numberRow_3 (L2 := [(3, .int (0 : Int32)), (2, .int (0 : Int32)), (0, .ref t), (1, .int a1)]) (by decide) rfl ?_
  obtain ⟨o11, eo11, hf⟩ := tq_be hf
  refine tq_pick (L2 := [(0, .ref t), (1, .int a1), (2, .int (0 : Int32)), (3, .int (0 : Int32))]) [2, 3, 1, 0] rfl ?_
  refine l_X11_numberRow_4 (by omega) t a1 h _ (0 : Int32) (0 : Int32) _ eo11 ?_
  refine tq_iconst (M := mX11_numberRow) (pc := 46) dX11_numberRow_46 tk_ki_0 ?_
  refine tq_istore_n (M := mX11_numberRow) (pc := 47) rfl dX11_numberRow_47 (L2 := [(3, .int (0 : Int32)), (0, .ref t), (1, .int a1), (2, .int o11)]) (by decide) rfl ?_
  refine tq_iload_n (M := mX11_numberRow) (pc := 48) dX11_numberRow_48 rfl ?_
  refine tq_istore (M := mX11_numberRow) (pc := 49) dX11_numberRow_49 (L2 := [(4, .int a1), (3, .int (0 : Int32)), (0, .ref t), (1, .int a1), (2, .int o11)]) (by decide) rfl ?_
  obtain ⟨o35, eo35, hf⟩ := tq_be hf
  refine tq_pick (L2 := [(0, .ref t), (1, .int a1), (2, .int o11), (3, .int (0 : Int32)), (4, .int a1)]) [2, 3, 4, 1, 0] rfl ?_
  refine l_X11_numberRow_51 (by omega) t a1 o11 h _ (0 : Int32) a1 _ eo35 ?_
  refine tq_iload (M := mX11_numberRow) (pc := 121) dX11_numberRow_121 rfl ?_
  refine tq_aload_n (M := mX11_numberRow) (pc := 123) dX11_numberRow_123 rfl ?_
  obtain ⟨x36, ex36, hf⟩ := tq_be hf
  refine tq_getI (M := mX11_numberRow) (pc := 124) tk_c11 (by decide) dX11_numberRow_124 tk_RX11_173 rfl ex36 ?_
  obtain ⟨p41, ep41, hf⟩ := tq_be hf
  have HJ127 : tq_W l mX11_numberRow d 0 0 Q 148 [(0, .ref t), (1, .int a1), (2, .int o11), (3, .int o35.1), (4, .int o35.2)] [.int p41] h := by
    refine tq_istore (M := mX11_numberRow) (pc := 148) dX11_numberRow_148 (L2 := [(5, .int p41), (0, .ref t), (1, .int a1), (2, .int o11), (3, .int o35.1), (4, .int o35.2)]) (by decide) rfl ?_
    refine tq_iconst (M := mX11_numberRow) (pc := 150) dX11_numberRow_150 tk_ki_0 ?_
    refine tq_istore (M := mX11_numberRow) (pc := 151) dX11_numberRow_151 (L2 := [(6, .int (0 : Int32)), (5, .int p41), (0, .ref t), (1, .int a1), (2, .int o11), (3, .int o35.1), (4, .int o35.2)]) (by decide) rfl ?_
    refine tq_iload_n (M := mX11_numberRow) (pc := 153) dX11_numberRow_153 rfl ?_
    refine tq_istore (M := mX11_numberRow) (pc := 154) dX11_numberRow_154 (L2 := [(7, .int a1), (6, .int (0 : Int32)), (5, .int p41), (0, .ref t), (1, .int a1), (2, .int o11), (3, .int o35.1), (4, .int o35.2)]) (by decide) rfl ?_
    obtain ⟨o56, eo56, hf⟩ := tq_be hf
    refine tq_pick (L2 := [(0, .ref t), (2, .int o11), (3, .int o35.1), (4, .int o35.2), (5, .int p41), (6, .int (0 : Int32)), (7, .int a1)]) [3, 5, 6, 7, 2, 1, 0] rfl ?_
    refine l_X11_numberRow_156 (by omega) t o11 o35.1 o35.2 p41 _ (0 : Int32) a1 h _ eo56 ?_
    refine tq_iload (M := mX11_numberRow) (pc := 230) dX11_numberRow_230 rfl ?_
    refine tq_aload_n (M := mX11_numberRow) (pc := 232) dX11_numberRow_232 rfl ?_
    obtain ⟨x57, ex57, hf⟩ := tq_be hf
    refine tq_getI (M := mX11_numberRow) (pc := 233) tk_c11 (by decide) dX11_numberRow_233 tk_RX11_173 rfl ex57 ?_
    obtain ⟨p58, ep58, hf⟩ := tq_le hf
    have HJ236 : tq_W l mX11_numberRow d 0 0 Q 253 [] [.int p58] o56 := by
      refine tq_iret (M := mX11_numberRow) (pc := 253) dX11_numberRow_253 rfl ?_
      cases (Option.some.inj hf)
      exact hQ _ _ ⟨rfl, rfl⟩
    refine tq_icmp_ge (M := mX11_numberRow) (pc := 236) (tgt := 251) dX11_numberRow_236 (by decide) (fun cc => ?_) (fun cc => ?_)
    · have hf := tq_ifp ep58.symm cc
      refine tq_iload (M := mX11_numberRow) (pc := 251) dX11_numberRow_251 rfl ?_
      refine tq_pick (L2 := []) [] rfl ?_
      cases hf
      exact HJ236
    · have hf := tq_ifn ep58.symm cc
      refine tq_iload (M := mX11_numberRow) (pc := 239) dX11_numberRow_239 rfl ?_
      refine tq_iload_n (M := mX11_numberRow) (pc := 241) dX11_numberRow_241 rfl ?_
      refine tq_icmp_gt (M := mX11_numberRow) (pc := 242) (tgt := 251) dX11_numberRow_242 (by decide) (fun cc => ?_) (fun cc => ?_)
      · have hf := tq_ifp hf cc
        refine tq_iload (M := mX11_numberRow) (pc := 251) dX11_numberRow_251 rfl ?_
        refine tq_pick (L2 := []) [] rfl ?_
        cases hf
        exact HJ236
      · have hf := tq_ifn hf cc
        refine tq_iload (M := mX11_numberRow) (pc := 245) dX11_numberRow_245 rfl ?_
        refine tq_ineg (M := mX11_numberRow) (pc := 247) dX11_numberRow_247 ?_
        refine tq_goto (M := mX11_numberRow) (pc := 248) (tgt := 253) dX11_numberRow_248 (by decide) ?_
        refine tq_pick (L2 := []) [] rfl ?_
        cases hf
        exact HJ236
  refine tq_icmp_ge (M := mX11_numberRow) (pc := 127) (tgt := 147) dX11_numberRow_127 (by decide) (fun cc => ?_) (fun cc => ?_)
  · have hf := tq_ifp ep41 cc
    refine tq_iconst (M := mX11_numberRow) (pc := 147) dX11_numberRow_147 tk_ki_0 ?_
    cases (Option.some.inj hf)
    exact HJ127
  · have hf := tq_ifn ep41 cc
    refine tq_aload_n (M := mX11_numberRow) (pc := 130) dX11_numberRow_130 rfl ?_
    obtain ⟨k37, ek37, hf⟩ := tq_be hf
    refine tq_getR (M := mX11_numberRow) (pc := 131) tk_c11 (by decide) dX11_numberRow_131 tk_RX11_28 rfl ek37 ?_
    refine tq_aload_n (M := mX11_numberRow) (pc := 134) dX11_numberRow_134 rfl ?_
    obtain ⟨k38, ek38, hf⟩ := tq_be hf
    refine tq_getR (M := mX11_numberRow) (pc := 135) tk_c11 (by decide) dX11_numberRow_135 tk_RX11_35 rfl ek38 ?_
    refine tq_iload (M := mX11_numberRow) (pc := 138) dX11_numberRow_138 rfl ?_
    obtain ⟨x39, ex39, hf⟩ := tq_be hf
    refine tq_ialdF (M := mX11_numberRow) (pc := 140) dX11_numberRow_140 ex39 ?_
    obtain ⟨x40, ex40, hf⟩ := tq_be hf
    refine tq_ialdF (M := mX11_numberRow) (pc := 141) dX11_numberRow_141 ex40 ?_
    refine tq_iload_n (M := mX11_numberRow) (pc := 142) dX11_numberRow_142 rfl ?_
    refine tq_isub (M := mX11_numberRow) (pc := 143) dX11_numberRow_143 ?_
    refine tq_goto (M := mX11_numberRow) (pc := 144) (tgt := 148) dX11_numberRow_144 (by decide) ?_
    cases (Option.some.inj hf)
    exact HJ127
abbrev mX11_numberAll : tq_M := (RX11, cX11_numberAll, 3, none, false, [], none)
def f_X11_numberAll_b4 (i0 : Nat) (s : Int32 × Int32 × tq_H) : Option ((Int32 × Int32 × tq_H) ⊕ (tq_H)) := match s with
  | (y1, y2, hh) =>
    (tq_gi hh i0 11 11).bind fun x1 =>
    if y2 ≥ x1 then
      some (.inr hh)
    else
      (tq_gr hh i0 11 2).bind fun k2 =>
      (tq_gr hh i0 11 12).bind fun k3 =>
      (tq_ai hh k3 y2).bind fun x4 =>
      (tq_ai hh k2 x4).bind fun x5 =>
      (if x5 = (2 : Int32) then
        some (y1, hh)
      else
        tq_let (y1 + (16 : Int32)) fun x6 =>
        (tq_gr hh i0 11 8).bind fun k7 =>
        (tq_gr hh i0 11 12).bind fun k8 =>
        (tq_ai hh k8 y2).bind fun x9 =>
        (tq_si hh k7 x9 x6).bind fun w10 =>
        some (x6, w10)).bind fun p11 =>
      tq_let (y2 + (1 : Int32)) fun x12 =>
      some (.inl (p11.1, x12, p11.2))
def f_X11_numberAll (t : Nat) (h : tq_H) : Option (tq_H) :=
  (tq_loop (f_X11_numberAll_b4 t) tq_N ((0 : Int32), (0 : Int32), h)).bind fun o13 =>
  some o13
set_option maxHeartbeats 4000000 in
theorem l_X11_numberAll_4 {l : Launch} {d : Nat} {Q : tq_R → tq_H → Prop} (hd9 : 0 ≤ d) (i0 : Nat) : ∀ (n : Nat) (y1 : Int32) (y2 : Int32) (hh : tq_H) (o : tq_H), tq_loop (f_X11_numberAll_b4 i0) n (y1, y2, hh) = some o → tq_W l mX11_numberAll d 0 0 Q 48 [] [] o → tq_W l mX11_numberAll d 0 0 Q 4 [(0, .ref i0), (1, .int y1), (2, .int y2)] [] hh := by
  intro n
  induction n with
  | zero => intro y1 y2 hh o hl; cases hl
  | succ n ih =>
    intro y1 y2 hh o hl hk
    obtain ⟨oo, hf, ho⟩ := tq_loop_s hl
    refine tq_iload_n (M := mX11_numberAll) (pc := 4) dX11_numberAll_4 rfl ?_
    refine tq_aload_n (M := mX11_numberAll) (pc := 5) dX11_numberAll_5 rfl ?_
    obtain ⟨x1, ex1, hf⟩ := tq_be hf
    refine tq_getI (M := mX11_numberAll) (pc := 6) tk_c11 (by decide) dX11_numberAll_6 tk_RX11_173 rfl ex1 ?_
    refine tq_icmp_ge (M := mX11_numberAll) (pc := 9) (tgt := 48) dX11_numberAll_9 (by decide) (fun cc => ?_) (fun cc => ?_)
    · have hf := tq_ifp hf cc
      refine tq_pick (L2 := []) [] rfl ?_
      cases (Option.some.inj hf)
      cases (tq_lx ho)
      exact hk
    · have hf := tq_ifn hf cc
      refine tq_aload_n (M := mX11_numberAll) (pc := 12) dX11_numberAll_12 rfl ?_
      obtain ⟨k2, ek2, hf⟩ := tq_be hf
      refine tq_getR (M := mX11_numberAll) (pc := 13) tk_c11 (by decide) dX11_numberAll_13 tk_RX11_7 rfl ek2 ?_
      refine tq_aload_n (M := mX11_numberAll) (pc := 16) dX11_numberAll_16 rfl ?_
      obtain ⟨k3, ek3, hf⟩ := tq_be hf
      refine tq_getR (M := mX11_numberAll) (pc := 17) tk_c11 (by decide) dX11_numberAll_17 tk_RX11_35 rfl ek3 ?_
      refine tq_iload_n (M := mX11_numberAll) (pc := 20) dX11_numberAll_20 rfl ?_
      obtain ⟨x4, ex4, hf⟩ := tq_be hf
      refine tq_ialdF (M := mX11_numberAll) (pc := 21) dX11_numberAll_21 ex4 ?_
      obtain ⟨x5, ex5, hf⟩ := tq_be hf
      refine tq_ialdF (M := mX11_numberAll) (pc := 22) dX11_numberAll_22 ex5 ?_
      refine tq_iconst (M := mX11_numberAll) (pc := 23) dX11_numberAll_23 tk_ki_2 ?_
      obtain ⟨p11, ep11, hf⟩ := tq_be hf
      have HJ24 : tq_W l mX11_numberAll d 0 0 Q 42 [(0, .ref i0), (1, .int p11.1), (2, .int y2)] [] p11.2 := by
        obtain ⟨x12, ex12, hf⟩ := tq_le hf
        refine tq_iinc (M := mX11_numberAll) (pc := 42) (v := x12) (L2 := [(2, .int x12), (0, .ref i0), (1, .int p11.1)]) dX11_numberAll_42 rfl (by rw [ex12, tk_ki_1]) (by decide) rfl ?_
        refine tq_goto (M := mX11_numberAll) (pc := 45) (tgt := 4) dX11_numberAll_45 (by decide) ?_
        refine tq_pick (L2 := [(0, .ref i0), (1, .int p11.1), (2, .int x12)]) [1, 2, 0] rfl ?_
        cases (Option.some.inj hf)
        exact ih _ _ _ o (tq_lc ho) hk
      refine tq_icmp_eq (M := mX11_numberAll) (pc := 24) (tgt := 42) dX11_numberAll_24 (by decide) (fun cc => ?_) (fun cc => ?_)
      · have hf := tq_ifp ep11 cc
        cases (Option.some.inj hf)
        exact HJ24
      · have hf := tq_ifn ep11 cc
        obtain ⟨x6, ex6, hf⟩ := tq_le hf
        refine tq_iinc (M := mX11_numberAll) (pc := 27) (v := x6) (L2 := [(1, .int x6), (0, .ref i0), (2, .int y2)]) dX11_numberAll_27 rfl (by rw [ex6, tk_ki_16]) (by decide) rfl ?_
        refine tq_aload_n (M := mX11_numberAll) (pc := 30) dX11_numberAll_30 rfl ?_
        obtain ⟨k7, ek7, hf⟩ := tq_be hf
        refine tq_getR (M := mX11_numberAll) (pc := 31) tk_c11 (by decide) dX11_numberAll_31 tk_RX11_28 rfl ek7 ?_
        refine tq_aload_n (M := mX11_numberAll) (pc := 34) dX11_numberAll_34 rfl ?_
        obtain ⟨k8, ek8, hf⟩ := tq_be hf
        refine tq_getR (M := mX11_numberAll) (pc := 35) tk_c11 (by decide) dX11_numberAll_35 tk_RX11_35 rfl ek8 ?_
        refine tq_iload_n (M := mX11_numberAll) (pc := 38) dX11_numberAll_38 rfl ?_
        obtain ⟨x9, ex9, hf⟩ := tq_be hf
        refine tq_ialdF (M := mX11_numberAll) (pc := 39) dX11_numberAll_39 ex9 ?_
        refine tq_iload_n (M := mX11_numberAll) (pc := 40) dX11_numberAll_40 rfl ?_
        obtain ⟨w10, ew10, hf⟩ := tq_be hf
        refine tq_iastF (M := mX11_numberAll) (pc := 41) dX11_numberAll_41 ew10 ?_
        refine tq_pick (L2 := [(0, .ref i0), (1, .int x6), (2, .int y2)]) [1, 0, 2] rfl ?_
        cases (Option.some.inj hf)
        exact HJ24
set_option maxHeartbeats 4000000 in
set_option maxRecDepth 20000 in
theorem w_X11_numberAll {l : Launch} {d : Nat} (hd9 : 0 ≤ d) {t : Nat} {h : tq_H} {o : tq_H} {Q : tq_R → tq_H → Prop} (hf : f_X11_numberAll t h = some o) (hQ : ∀ r h9, r = .inl none ∧ o = h9 → Q r h9) : tq_C l yX11_numberAll cX11_numberAll 3 none d 0 0 [.ref t] h Q := by
  refine tq_body (y := yX11_numberAll) false (by decide +kernel) (fun z => by cases z) (Nat.le_of_ble_eq_true rfl) ?_
  show tq_W l mX11_numberAll d 0 0 Q 0 [(0, .ref t)] [] h
  refine tq_iconst (M := mX11_numberAll) (pc := 0) dX11_numberAll_0 tk_ki_0 ?_
  refine tq_istore_n (M := mX11_numberAll) (pc := 1) rfl dX11_numberAll_1 (L2 := [(1, .int (0 : Int32)), (0, .ref t)]) (by decide) rfl ?_
  refine tq_iconst (M := mX11_numberAll) (pc := 2) dX11_numberAll_2 tk_ki_0 ?_
  refine tq_istore_n (M := mX11_numberAll) (pc := 3) rfl dX11_numberAll_3 (L2 := [(2, .int (0 : Int32)), (1, .int (0 : Int32)), (0, .ref t)]) (by decide) rfl ?_
  obtain ⟨o13, eo13, hf⟩ := tq_be hf
  refine tq_pick (L2 := [(0, .ref t), (1, .int (0 : Int32)), (2, .int (0 : Int32))]) [2, 1, 0] rfl ?_
  refine l_X11_numberAll_4 (by omega) t _ (0 : Int32) (0 : Int32) h _ eo13 ?_
  refine tq_vret (M := mX11_numberAll) (pc := 48) dX11_numberAll_48 rfl ?_
  cases (Option.some.inj hf)
  exact hQ _ _ ⟨rfl, rfl⟩
abbrev mX11_number : tq_M := (RX11, cX11_number, 3, none, false, [], none)
def f_X11_number_b4 (i0 : Nat) (s : Int32 × Int32 × tq_H) : Option ((Int32 × Int32 × tq_H) ⊕ (Int32 × tq_H)) := match s with
  | (y1, y2, hh) =>
    (tq_gi hh i0 11 11).bind fun x1 =>
    if y2 ≥ x1 then
      some (.inr (y1, hh))
    else
      (tq_gr hh i0 11 2).bind fun k2 =>
      (tq_gr hh i0 11 12).bind fun k3 =>
      (tq_ai hh k3 y2).bind fun x4 =>
      (tq_ai hh k2 x4).bind fun x5 =>
      if x5 = (2 : Int32) then
        tq_let (y2 + (1 : Int32)) fun x6 =>
        some (.inl (y1, x6, hh))
      else
        (tq_gr hh i0 11 23).bind fun k7 =>
        (tq_gr hh i0 11 12).bind fun k8 =>
        (tq_ai hh k8 y2).bind fun x9 =>
        (tq_az hh k7 x9).bind fun x10 =>
        if x10 = 0 then
          tq_let (y2 + (1 : Int32)) fun x11 =>
          some (.inl (y1, x11, hh))
        else
          (tq_is hh i0 11).bind fun _ =>
          (f_X11_numberRow i0 y2 hh).bind fun v12 =>
          tq_let (if y1 = 0 then (if v12.1 ≥ 0 then (0 : Int32) else (1 : Int32)) else (1 : Int32)) fun p14 =>
          tq_let (if v12.1 ≥ 0 then v12.1 else (-v12.1)) fun p15 =>
          some (.inl (p14, p15, v12.2))
def f_X11_number (t : Nat) (h : tq_H) : Option (tq_H) :=
  (tq_loop (f_X11_number_b4 t) tq_N ((0 : Int32), (0 : Int32), h)).bind fun o16 =>
  (if o16.1 = 0 then
    some o16.2
  else
    (tq_is o16.2 t 11).bind fun _ =>
    (f_X11_numberAll t o16.2).bind fun v17 =>
    (tq_gi v17 t 11 10).bind fun x19 =>
    (tq_pf v17 t 11 10 (.int ((x19 + (1 : Int32))))).bind fun w20 =>
    some w20).bind fun p21 =>
  some p21
set_option maxHeartbeats 4000000 in
theorem l_X11_number_4 {l : Launch} {d : Nat} {Q : tq_R → tq_H → Prop} (hd9 : 1 ≤ d) (i0 : Nat) : ∀ (n : Nat) (y1 : Int32) (y2 : Int32) (hh : tq_H) (o : Int32 × tq_H), tq_loop (f_X11_number_b4 i0) n (y1, y2, hh) = some o → tq_W l mX11_number d 0 0 Q 81 [(0, .ref i0), (1, .int o.1)] [] o.2 → tq_W l mX11_number d 0 0 Q 4 [(0, .ref i0), (1, .int y1), (2, .int y2)] [] hh := by
  intro n
  induction n with
  | zero => intro y1 y2 hh o hl; cases hl
  | succ n ih =>
    intro y1 y2 hh o hl hk
    obtain ⟨oo, hf, ho⟩ := tq_loop_s hl
    refine tq_iload_n (M := mX11_number) (pc := 4) dX11_number_4 rfl ?_
    refine tq_aload_n (M := mX11_number) (pc := 5) dX11_number_5 rfl ?_
    obtain ⟨x1, ex1, hf⟩ := tq_be hf
    refine tq_getI (M := mX11_number) (pc := 6) tk_c11 (by decide) dX11_number_6 tk_RX11_173 rfl ex1 ?_
    refine tq_icmp_ge (M := mX11_number) (pc := 9) (tgt := 81) dX11_number_9 (by decide) (fun cc => ?_) (fun cc => ?_)
    · have hf := tq_ifp hf cc
      refine tq_pick (L2 := [(0, .ref i0), (1, .int y1)]) [0, 1] rfl ?_
      cases (Option.some.inj hf)
      cases (tq_lx ho)
      exact hk
    · have hf := tq_ifn hf cc
      refine tq_aload_n (M := mX11_number) (pc := 12) dX11_number_12 rfl ?_
      obtain ⟨k2, ek2, hf⟩ := tq_be hf
      refine tq_getR (M := mX11_number) (pc := 13) tk_c11 (by decide) dX11_number_13 tk_RX11_7 rfl ek2 ?_
      refine tq_aload_n (M := mX11_number) (pc := 16) dX11_number_16 rfl ?_
      obtain ⟨k3, ek3, hf⟩ := tq_be hf
      refine tq_getR (M := mX11_number) (pc := 17) tk_c11 (by decide) dX11_number_17 tk_RX11_35 rfl ek3 ?_
      refine tq_iload_n (M := mX11_number) (pc := 20) dX11_number_20 rfl ?_
      obtain ⟨x4, ex4, hf⟩ := tq_be hf
      refine tq_ialdF (M := mX11_number) (pc := 21) dX11_number_21 ex4 ?_
      obtain ⟨x5, ex5, hf⟩ := tq_be hf
      refine tq_ialdF (M := mX11_number) (pc := 22) dX11_number_22 ex5 ?_
      refine tq_iconst (M := mX11_number) (pc := 23) dX11_number_23 tk_ki_2 ?_
      refine tq_icmp_eq (M := mX11_number) (pc := 24) (tgt := 75) dX11_number_24 (by decide) (fun cc => ?_) (fun cc => ?_)
      · have hf := tq_ifp hf cc
        obtain ⟨x6, ex6, hf⟩ := tq_le hf
        refine tq_iinc (M := mX11_number) (pc := 75) (v := x6) (L2 := [(2, .int x6), (0, .ref i0), (1, .int y1)]) dX11_number_75 rfl (by rw [ex6, tk_ki_1]) (by decide) rfl ?_
        refine tq_goto (M := mX11_number) (pc := 78) (tgt := 4) dX11_number_78 (by decide) ?_
        refine tq_pick (L2 := [(0, .ref i0), (1, .int y1), (2, .int x6)]) [1, 2, 0] rfl ?_
        cases (Option.some.inj hf)
        exact ih _ _ _ o (tq_lc ho) hk
      · have hf := tq_ifn hf cc
        refine tq_aload_n (M := mX11_number) (pc := 27) dX11_number_27 rfl ?_
        obtain ⟨k7, ek7, hf⟩ := tq_be hf
        refine tq_getR (M := mX11_number) (pc := 28) tk_c11 (by decide) dX11_number_28 tk_RX11_65 rfl ek7 ?_
        refine tq_aload_n (M := mX11_number) (pc := 31) dX11_number_31 rfl ?_
        obtain ⟨k8, ek8, hf⟩ := tq_be hf
        refine tq_getR (M := mX11_number) (pc := 32) tk_c11 (by decide) dX11_number_32 tk_RX11_35 rfl ek8 ?_
        refine tq_iload_n (M := mX11_number) (pc := 35) dX11_number_35 rfl ?_
        obtain ⟨x9, ex9, hf⟩ := tq_be hf
        refine tq_ialdF (M := mX11_number) (pc := 36) dX11_number_36 ex9 ?_
        obtain ⟨x10, ex10, hf⟩ := tq_be hf
        refine tq_zaldF (M := mX11_number) (pc := 37) dX11_number_37 ex10 ?_
        refine tq_if_eq (M := mX11_number) (pc := 38) (tgt := 75) dX11_number_38 (by decide) (fun cc => ?_) (fun cc => ?_)
        · have hf := tq_ifp hf cc
          obtain ⟨x11, ex11, hf⟩ := tq_le hf
          refine tq_iinc (M := mX11_number) (pc := 75) (v := x11) (L2 := [(2, .int x11), (0, .ref i0), (1, .int y1)]) dX11_number_75 rfl (by rw [ex11, tk_ki_1]) (by decide) rfl ?_
          refine tq_goto (M := mX11_number) (pc := 78) (tgt := 4) dX11_number_78 (by decide) ?_
          refine tq_pick (L2 := [(0, .ref i0), (1, .int y1), (2, .int x11)]) [1, 2, 0] rfl ?_
          cases (Option.some.inj hf)
          exact ih _ _ _ o (tq_lc ho) hk
        · have hf := tq_ifn hf cc
          refine tq_aload_n (M := mX11_number) (pc := 41) dX11_number_41 rfl ?_
          refine tq_iload_n (M := mX11_number) (pc := 42) dX11_number_42 rfl ?_
          obtain ⟨⟨⟩, eu13, hf⟩ := tq_be hf
          obtain ⟨fsu13, eu13⟩ := tq_is_s eu13
          obtain ⟨v12, ev12, hf⟩ := tq_be hf
          refine tq_calV (M := mX11_number) (pc := 43) (S := []) tk_y_X11_numberRow tk_v_X11_numberRow tk_RX11_274 dX11_number_43 [.int y2] rfl (S0 := _) rfl eu13 rfl (Nat.le_of_ble_eq_true rfl) (d1 := d - 1) (b1 := 0) (s1 := 0) (bc' := 0) (bs' := 0) (Q1 := fun r h9 => r = .inl (some (.int v12.1)) ∧ v12.2 = h9) (by omega) rfl rfl (w_X11_numberRow (by omega) ev12 (fun _ _ q => q)) (fun E h9 q => nomatch (show (Sum.inr E : tq_R) = Sum.inl _ from q.1)) (fun r9 h9 q => ?_)
          obtain ⟨q1, rfl⟩ := q
          cases (show (Sum.inl r9 : tq_R) = Sum.inl (some (.int v12.1)) from q1)
          refine tq_istore_n (M := mX11_number) (pc := 46) rfl dX11_number_46 (L2 := [(2, .int v12.1), (0, .ref i0), (1, .int y1)]) (by decide) rfl ?_
          refine tq_iload_n (M := mX11_number) (pc := 47) dX11_number_47 rfl ?_
          obtain ⟨p14, ep14, hf⟩ := tq_le hf
          have HJ48 : tq_W l mX11_number d 0 0 Q 60 [(0, .ref i0), (2, .int v12.1)] [.int p14] v12.2 := by
            refine tq_istore_n (M := mX11_number) (pc := 60) rfl dX11_number_60 (L2 := [(1, .int p14), (0, .ref i0), (2, .int v12.1)]) (by decide) rfl ?_
            refine tq_iload_n (M := mX11_number) (pc := 61) dX11_number_61 rfl ?_
            obtain ⟨p15, ep15, hf⟩ := tq_le hf
            have HJ62 : tq_W l mX11_number d 0 0 Q 71 [(0, .ref i0), (1, .int p14)] [.int p15] v12.2 := by
              refine tq_istore_n (M := mX11_number) (pc := 71) rfl dX11_number_71 (L2 := [(2, .int p15), (0, .ref i0), (1, .int p14)]) (by decide) rfl ?_
              refine tq_goto (M := mX11_number) (pc := 72) (tgt := 4) dX11_number_72 (by decide) ?_
              refine tq_pick (L2 := [(0, .ref i0), (1, .int p14), (2, .int p15)]) [1, 2, 0] rfl ?_
              cases (Option.some.inj hf)
              exact ih _ _ _ o (tq_lc ho) hk
            refine tq_if_ge (M := mX11_number) (pc := 62) (tgt := 70) dX11_number_62 (by decide) (fun cc => ?_) (fun cc => ?_)
            · have hf := tq_ifp ep15.symm cc
              refine tq_iload_n (M := mX11_number) (pc := 70) dX11_number_70 rfl ?_
              refine tq_pick (L2 := [(0, .ref i0), (1, .int p14)]) [1, 0] rfl ?_
              cases hf
              exact HJ62
            · have hf := tq_ifn ep15.symm cc
              refine tq_iload_n (M := mX11_number) (pc := 65) dX11_number_65 rfl ?_
              refine tq_ineg (M := mX11_number) (pc := 66) dX11_number_66 ?_
              refine tq_goto (M := mX11_number) (pc := 67) (tgt := 71) dX11_number_67 (by decide) ?_
              refine tq_pick (L2 := [(0, .ref i0), (1, .int p14)]) [1, 0] rfl ?_
              cases hf
              exact HJ62
          refine tq_if_ne (M := mX11_number) (pc := 48) (tgt := 55) dX11_number_48 (by decide) (fun cc => ?_) (fun cc => ?_)
          · have hf := tq_ifn ep14.symm cc
            refine tq_iconst (M := mX11_number) (pc := 55) dX11_number_55 tk_ki_1 ?_
            refine tq_goto (M := mX11_number) (pc := 56) (tgt := 60) dX11_number_56 (by decide) ?_
            refine tq_pick (L2 := [(0, .ref i0), (2, .int v12.1)]) [1, 0] rfl ?_
            cases hf
            exact HJ48
          · have hf := tq_ifp ep14.symm cc
            refine tq_iload_n (M := mX11_number) (pc := 51) dX11_number_51 rfl ?_
            refine tq_if_ge (M := mX11_number) (pc := 52) (tgt := 59) dX11_number_52 (by decide) (fun cc => ?_) (fun cc => ?_)
            · have hf := tq_ifp hf cc
              refine tq_iconst (M := mX11_number) (pc := 59) dX11_number_59 tk_ki_0 ?_
              refine tq_pick (L2 := [(0, .ref i0), (2, .int v12.1)]) [1, 0] rfl ?_
              cases hf
              exact HJ48
            · have hf := tq_ifn hf cc
              refine tq_iconst (M := mX11_number) (pc := 55) dX11_number_55 tk_ki_1 ?_
              refine tq_goto (M := mX11_number) (pc := 56) (tgt := 60) dX11_number_56 (by decide) ?_
              refine tq_pick (L2 := [(0, .ref i0), (2, .int v12.1)]) [1, 0] rfl ?_
              cases hf
              exact HJ48
set_option maxHeartbeats 4000000 in
set_option maxRecDepth 20000 in
theorem w_X11_number {l : Launch} {d : Nat} (hd9 : 1 ≤ d) {t : Nat} {h : tq_H} {o : tq_H} {Q : tq_R → tq_H → Prop} (hf : f_X11_number t h = some o) (hQ : ∀ r h9, r = .inl none ∧ o = h9 → Q r h9) : tq_C l yX11_number cX11_number 3 none d 0 0 [.ref t] h Q := by
  refine tq_body (y := yX11_number) false (by decide +kernel) (fun z => by cases z) (Nat.le_of_ble_eq_true rfl) ?_
  show tq_W l mX11_number d 0 0 Q 0 [(0, .ref t)] [] h
  refine tq_iconst (M := mX11_number) (pc := 0) dX11_number_0 tk_ki_0 ?_
  refine tq_istore_n (M := mX11_number) (pc := 1) rfl dX11_number_1 (L2 := [(1, .int (0 : Int32)), (0, .ref t)]) (by decide) rfl ?_
  refine tq_iconst (M := mX11_number) (pc := 2) dX11_number_2 tk_ki_0 ?_
  refine tq_istore_n (M := mX11_number) (pc := 3) rfl dX11_number_3 (L2 := [(2, .int (0 : Int32)), (1, .int (0 : Int32)), (0, .ref t)]) (by decide) rfl ?_
  obtain ⟨o16, eo16, hf⟩ := tq_be hf
  refine tq_pick (L2 := [(0, .ref t), (1, .int (0 : Int32)), (2, .int (0 : Int32))]) [2, 1, 0] rfl ?_
  refine l_X11_number_4 (by omega) t _ (0 : Int32) (0 : Int32) h _ eo16 ?_
  refine tq_iload_n (M := mX11_number) (pc := 81) dX11_number_81 rfl ?_
  obtain ⟨p21, ep21, hf⟩ := tq_be hf
  have HJ82 : tq_W l mX11_number d 0 0 Q 99 [] [] p21 := by
    refine tq_vret (M := mX11_number) (pc := 99) dX11_number_99 rfl ?_
    cases (Option.some.inj hf)
    exact hQ _ _ ⟨rfl, rfl⟩
  refine tq_if_eq (M := mX11_number) (pc := 82) (tgt := 99) dX11_number_82 (by decide) (fun cc => ?_) (fun cc => ?_)
  · have hf := tq_ifp ep21 cc
    refine tq_pick (L2 := []) [] rfl ?_
    cases (Option.some.inj hf)
    exact HJ82
  · have hf := tq_ifn ep21 cc
    refine tq_aload_n (M := mX11_number) (pc := 85) dX11_number_85 rfl ?_
    obtain ⟨⟨⟩, eu18, hf⟩ := tq_be hf
    obtain ⟨fsu18, eu18⟩ := tq_is_s eu18
    obtain ⟨v17, ev17, hf⟩ := tq_be hf
    refine tq_calV (M := mX11_number) (pc := 86) (S := []) tk_y_X11_numberAll tk_v_X11_numberAll tk_RX11_277 dX11_number_86 [] rfl (S0 := _) rfl eu18 rfl (Nat.le_of_ble_eq_true rfl) (d1 := d - 1) (b1 := 0) (s1 := 0) (bc' := 0) (bs' := 0) (Q1 := fun r h9 => r = .inl none ∧ v17 = h9) (by omega) rfl rfl (w_X11_numberAll (by omega) ev17 (fun _ _ q => q)) (fun E h9 q => nomatch (show (Sum.inr E : tq_R) = Sum.inl _ from q.1)) (fun r9 h9 q => ?_)
    obtain ⟨q1, rfl⟩ := q
    cases (show (Sum.inl r9 : tq_R) = Sum.inl (none) from q1)
    refine tq_aload_n (M := mX11_number) (pc := 89) dX11_number_89 rfl ?_
    refine tq_dup (M := mX11_number) (pc := 90) dX11_number_90 rfl ?_
    obtain ⟨x19, ex19, hf⟩ := tq_be hf
    refine tq_getI (M := mX11_number) (pc := 91) tk_c11 (by decide) dX11_number_91 tk_RX11_280 rfl ex19 ?_
    refine tq_iconst (M := mX11_number) (pc := 94) dX11_number_94 tk_ki_1 ?_
    refine tq_iadd (M := mX11_number) (pc := 95) dX11_number_95 ?_
    obtain ⟨w20, ew20, hf⟩ := tq_be hf
    refine tq_putv (M := mX11_number) (pc := 96) tk_c11 (by decide) dX11_number_96 tk_RX11_280 rfl (Or.inl rfl) ew20 (tq_nI _) ?_
    refine tq_pick (L2 := []) [] rfl ?_
    cases (Option.some.inj hf)
    exact HJ82
