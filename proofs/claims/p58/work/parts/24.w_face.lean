/-! ===== printed by wip/whole/tools: Treequery ===== -/
abbrev cX10_init : ByteArray := prog_1_method_1_code
def yX10_init : MethodName := ⟨RX10, "<init>", "()V"⟩
theorem dX10_init_0 : decode cX10_init 0 = .ok (.aload_n 0, 1) := by decide +kernel
theorem dX10_init_1 : decode cX10_init 1 = .ok (.invokespecial 3, 3) := by decide +kernel
theorem dX10_init_4 : decode cX10_init 4 = .ok (.aload_n 0, 1) := by decide +kernel
theorem dX10_init_5 : decode cX10_init 5 = .ok (.new 9, 3) := by decide +kernel
theorem dX10_init_8 : decode cX10_init 8 = .ok (.dup, 1) := by decide +kernel
theorem dX10_init_9 : decode cX10_init 9 = .ok (.invokespecial 11, 3) := by decide +kernel
theorem dX10_init_12 : decode cX10_init 12 = .ok (.putfield 12, 3) := by decide +kernel
theorem dX10_init_15 : decode cX10_init 15 = .ok (.aload_n 0, 1) := by decide +kernel
theorem dX10_init_16 : decode cX10_init 16 = .ok (.new 9, 3) := by decide +kernel
theorem dX10_init_19 : decode cX10_init 19 = .ok (.dup, 1) := by decide +kernel
theorem dX10_init_20 : decode cX10_init 20 = .ok (.invokespecial 11, 3) := by decide +kernel
theorem dX10_init_23 : decode cX10_init 23 = .ok (.putfield 16, 3) := by decide +kernel
theorem dX10_init_26 : decode cX10_init 26 = .ok (.aload_n 0, 1) := by decide +kernel
theorem dX10_init_27 : decode cX10_init 27 = .ok (.new 19, 3) := by decide +kernel
theorem dX10_init_30 : decode cX10_init 30 = .ok (.dup, 1) := by decide +kernel
theorem dX10_init_31 : decode cX10_init 31 = .ok (.invokespecial 21, 3) := by decide +kernel
theorem dX10_init_34 : decode cX10_init 34 = .ok (.putfield 22, 3) := by decide +kernel
theorem dX10_init_37 : decode cX10_init 37 = .ok (.aload_n 0, 1) := by decide +kernel
theorem dX10_init_38 : decode cX10_init 38 = .ok (.new 26, 3) := by decide +kernel
theorem dX10_init_41 : decode cX10_init 41 = .ok (.dup, 1) := by decide +kernel
theorem dX10_init_42 : decode cX10_init 42 = .ok (.invokespecial 28, 3) := by decide +kernel
theorem dX10_init_45 : decode cX10_init 45 = .ok (.putfield 29, 3) := by decide +kernel
theorem dX10_init_48 : decode cX10_init 48 = .ok (.aload_n 0, 1) := by decide +kernel
theorem dX10_init_49 : decode cX10_init 49 = .ok (.new 33, 3) := by decide +kernel
theorem dX10_init_52 : decode cX10_init 52 = .ok (.dup, 1) := by decide +kernel
theorem dX10_init_53 : decode cX10_init 53 = .ok (.aload_n 0, 1) := by decide +kernel
theorem dX10_init_54 : decode cX10_init 54 = .ok (.getfield 12, 3) := by decide +kernel
theorem dX10_init_57 : decode cX10_init 57 = .ok (.aload_n 0, 1) := by decide +kernel
theorem dX10_init_58 : decode cX10_init 58 = .ok (.getfield 29, 3) := by decide +kernel
theorem dX10_init_61 : decode cX10_init 61 = .ok (.invokespecial 35, 3) := by decide +kernel
theorem dX10_init_64 : decode cX10_init 64 = .ok (.putfield 38, 3) := by decide +kernel
theorem dX10_init_67 : decode cX10_init 67 = .ok (.aload_n 0, 1) := by decide +kernel
theorem dX10_init_68 : decode cX10_init 68 = .ok (.new 33, 3) := by decide +kernel
theorem dX10_init_71 : decode cX10_init 71 = .ok (.dup, 1) := by decide +kernel
theorem dX10_init_72 : decode cX10_init 72 = .ok (.aload_n 0, 1) := by decide +kernel
theorem dX10_init_73 : decode cX10_init 73 = .ok (.getfield 12, 3) := by decide +kernel
theorem dX10_init_76 : decode cX10_init 76 = .ok (.aload_n 0, 1) := by decide +kernel
theorem dX10_init_77 : decode cX10_init 77 = .ok (.getfield 29, 3) := by decide +kernel
theorem dX10_init_80 : decode cX10_init 80 = .ok (.invokespecial 35, 3) := by decide +kernel
theorem dX10_init_83 : decode cX10_init 83 = .ok (.putfield 42, 3) := by decide +kernel
theorem dX10_init_86 : decode cX10_init 86 = .ok (.aload_n 0, 1) := by decide +kernel
theorem dX10_init_87 : decode cX10_init 87 = .ok (.new 45, 3) := by decide +kernel
theorem dX10_init_90 : decode cX10_init 90 = .ok (.dup, 1) := by decide +kernel
theorem dX10_init_91 : decode cX10_init 91 = .ok (.invokespecial 47, 3) := by decide +kernel
theorem dX10_init_94 : decode cX10_init 94 = .ok (.putfield 48, 3) := by decide +kernel
theorem dX10_init_97 : decode cX10_init 97 = .ok (.aload_n 0, 1) := by decide +kernel
theorem dX10_init_98 : decode cX10_init 98 = .ok (.bipush 6, 2) := by decide +kernel
theorem dX10_init_100 : decode cX10_init 100 = .ok (.anewarray 9, 3) := by decide +kernel
theorem dX10_init_103 : decode cX10_init 103 = .ok (.putfield 52, 3) := by decide +kernel
theorem dX10_init_106 : decode cX10_init 106 = .ok (.aload_n 0, 1) := by decide +kernel
theorem dX10_init_107 : decode cX10_init 107 = .ok (.new 56, 3) := by decide +kernel
theorem dX10_init_110 : decode cX10_init 110 = .ok (.dup, 1) := by decide +kernel
theorem dX10_init_111 : decode cX10_init 111 = .ok (.iconst 5, 1) := by decide +kernel
theorem dX10_init_112 : decode cX10_init 112 = .ok (.iconst (-1), 1) := by decide +kernel
theorem dX10_init_113 : decode cX10_init 113 = .ok (.invokespecial 58, 3) := by decide +kernel
theorem dX10_init_116 : decode cX10_init 116 = .ok (.putfield 61, 3) := by decide +kernel
theorem dX10_init_119 : decode cX10_init 119 = .ok (.aload_n 0, 1) := by decide +kernel
theorem dX10_init_120 : decode cX10_init 120 = .ok (.new 56, 3) := by decide +kernel
theorem dX10_init_123 : decode cX10_init 123 = .ok (.dup, 1) := by decide +kernel
theorem dX10_init_124 : decode cX10_init 124 = .ok (.iconst 5, 1) := by decide +kernel
theorem dX10_init_125 : decode cX10_init 125 = .ok (.iconst 0, 1) := by decide +kernel
theorem dX10_init_126 : decode cX10_init 126 = .ok (.invokespecial 58, 3) := by decide +kernel
theorem dX10_init_129 : decode cX10_init 129 = .ok (.putfield 65, 3) := by decide +kernel
theorem dX10_init_132 : decode cX10_init 132 = .ok (.aload_n 0, 1) := by decide +kernel
theorem dX10_init_133 : decode cX10_init 133 = .ok (.new 68, 3) := by decide +kernel
theorem dX10_init_136 : decode cX10_init 136 = .ok (.dup, 1) := by decide +kernel
theorem dX10_init_137 : decode cX10_init 137 = .ok (.iconst 5, 1) := by decide +kernel
theorem dX10_init_138 : decode cX10_init 138 = .ok (.invokespecial 70, 3) := by decide +kernel
theorem dX10_init_141 : decode cX10_init 141 = .ok (.putfield 73, 3) := by decide +kernel
theorem dX10_init_144 : decode cX10_init 144 = .ok (.aload_n 0, 1) := by decide +kernel
theorem dX10_init_145 : decode cX10_init 145 = .ok (.aconst_null, 1) := by decide +kernel
theorem dX10_init_146 : decode cX10_init 146 = .ok (.putfield 77, 3) := by decide +kernel
theorem dX10_init_149 : decode cX10_init 149 = .ok (.aload_n 0, 1) := by decide +kernel
theorem dX10_init_150 : decode cX10_init 150 = .ok (.iconst 0, 1) := by decide +kernel
theorem dX10_init_151 : decode cX10_init 151 = .ok (.putfield 81, 3) := by decide +kernel
theorem dX10_init_154 : decode cX10_init 154 = .ok (.aload_n 0, 1) := by decide +kernel
theorem dX10_init_155 : decode cX10_init 155 = .ok (.iconst 0, 1) := by decide +kernel
theorem dX10_init_156 : decode cX10_init 156 = .ok (.putfield 85, 3) := by decide +kernel
theorem dX10_init_159 : decode cX10_init 159 = .ok (.aload_n 0, 1) := by decide +kernel
theorem dX10_init_160 : decode cX10_init 160 = .ok (.iconst 0, 1) := by decide +kernel
theorem dX10_init_161 : decode cX10_init 161 = .ok (.putfield 88, 3) := by decide +kernel
theorem dX10_init_164 : decode cX10_init 164 = .ok (.aload_n 0, 1) := by decide +kernel
theorem dX10_init_165 : decode cX10_init 165 = .ok (.lconst 0, 1) := by decide +kernel
theorem dX10_init_166 : decode cX10_init 166 = .ok (.putfield 91, 3) := by decide +kernel
theorem dX10_init_169 : decode cX10_init 169 = .ok (.aload_n 0, 1) := by decide +kernel
theorem dX10_init_170 : decode cX10_init 170 = .ok (.lconst 0, 1) := by decide +kernel
theorem dX10_init_171 : decode cX10_init 171 = .ok (.putfield 95, 3) := by decide +kernel
theorem dX10_init_174 : decode cX10_init 174 = .ok (.aload_n 0, 1) := by decide +kernel
theorem dX10_init_175 : decode cX10_init 175 = .ok (.iconst 0, 1) := by decide +kernel
theorem dX10_init_176 : decode cX10_init 176 = .ok (.putfield 98, 3) := by decide +kernel
theorem dX10_init_179 : decode cX10_init 179 = .ok (.aload_n 0, 1) := by decide +kernel
theorem dX10_init_180 : decode cX10_init 180 = .ok (.iconst 1, 1) := by decide +kernel
theorem dX10_init_181 : decode cX10_init 181 = .ok (.putfield 102, 3) := by decide +kernel
theorem dX10_init_184 : decode cX10_init 184 = .ok (.aload_n 0, 1) := by decide +kernel
theorem dX10_init_185 : decode cX10_init 185 = .ok (.getfield 12, 3) := by decide +kernel
theorem dX10_init_188 : decode cX10_init 188 = .ok (.iconst 0, 1) := by decide +kernel
theorem dX10_init_189 : decode cX10_init 189 = .ok (.iconst 0, 1) := by decide +kernel
theorem dX10_init_190 : decode cX10_init 190 = .ok (.iconst (-1), 1) := by decide +kernel
theorem dX10_init_191 : decode cX10_init 191 = .ok (.invokevirtual 105, 3) := by decide +kernel
theorem dX10_init_194 : decode cX10_init 194 = .ok (.pop, 1) := by decide +kernel
theorem dX10_init_195 : decode cX10_init 195 = .ok (.aload_n 0, 1) := by decide +kernel
theorem dX10_init_196 : decode cX10_init 196 = .ok (.getfield 12, 3) := by decide +kernel
theorem dX10_init_199 : decode cX10_init 199 = .ok (.invokevirtual 109, 3) := by decide +kernel
theorem dX10_init_202 : decode cX10_init 202 = .ok (.aload_n 0, 1) := by decide +kernel
theorem dX10_init_203 : decode cX10_init 203 = .ok (.getfield 12, 3) := by decide +kernel
theorem dX10_init_206 : decode cX10_init 206 = .ok (.invokevirtual 112, 3) := by decide +kernel
theorem dX10_init_209 : decode cX10_init 209 = .ok (.aload_n 0, 1) := by decide +kernel
theorem dX10_init_210 : decode cX10_init 210 = .ok (.getfield 38, 3) := by decide +kernel
theorem dX10_init_213 : decode cX10_init 213 = .ok (.aload_n 0, 1) := by decide +kernel
theorem dX10_init_214 : decode cX10_init 214 = .ok (.getfield 12, 3) := by decide +kernel
theorem dX10_init_217 : decode cX10_init 217 = .ok (.getfield 115, 3) := by decide +kernel
theorem dX10_init_220 : decode cX10_init 220 = .ok (.invokevirtual 119, 3) := by decide +kernel
theorem dX10_init_223 : decode cX10_init 223 = .ok (.invokevirtual 125, 3) := by decide +kernel
theorem dX10_init_226 : decode cX10_init 226 = .ok (.return_, 1) := by decide +kernel
abbrev cX10_needNode : ByteArray := prog_1_method_57_code
def yX10_needNode : MethodName := ⟨RX10, "needNode", "(I)V"⟩
theorem dX10_needNode_0 : decode cX10_needNode 0 = .ok (.aload_n 0, 1) := by decide +kernel
theorem dX10_needNode_1 : decode cX10_needNode 1 = .ok (.getfield 12, 3) := by decide +kernel
theorem dX10_needNode_4 : decode cX10_needNode 4 = .ok (.getfield 115, 3) := by decide +kernel
theorem dX10_needNode_7 : decode cX10_needNode 7 = .ok (.iload_n 1, 1) := by decide +kernel
theorem dX10_needNode_8 : decode cX10_needNode 8 = .ok (.invokevirtual 222, 3) := by decide +kernel
theorem dX10_needNode_11 : decode cX10_needNode 11 = .ok (.ifCond .ne 14, 3) := by decide +kernel
theorem dX10_needNode_14 : decode cX10_needNode 14 = .ok (.new 440, 3) := by decide +kernel
theorem dX10_needNode_17 : decode cX10_needNode 17 = .ok (.dup, 1) := by decide +kernel
theorem dX10_needNode_18 : decode cX10_needNode 18 = .ok (.ldc_w 442, 3) := by decide +kernel
theorem dX10_needNode_21 : decode cX10_needNode 21 = .ok (.invokespecial 444, 3) := by decide +kernel
theorem dX10_needNode_24 : decode cX10_needNode 24 = .ok (.athrow, 1) := by decide +kernel
theorem dX10_needNode_25 : decode cX10_needNode 25 = .ok (.return_, 1) := by decide +kernel
abbrev cX10_needPlaceIn : ByteArray := prog_1_method_58_code
def yX10_needPlaceIn : MethodName := ⟨RX10, "needPlaceIn", "(II)V"⟩
theorem dX10_needPlaceIn_0 : decode cX10_needPlaceIn 0 = .ok (.aload_n 0, 1) := by decide +kernel
theorem dX10_needPlaceIn_1 : decode cX10_needPlaceIn 1 = .ok (.iload_n 1, 1) := by decide +kernel
theorem dX10_needPlaceIn_2 : decode cX10_needPlaceIn 2 = .ok (.invokevirtual 146, 3) := by decide +kernel
theorem dX10_needPlaceIn_5 : decode cX10_needPlaceIn 5 = .ok (.iload_n 2, 1) := by decide +kernel
theorem dX10_needPlaceIn_6 : decode cX10_needPlaceIn 6 = .ok (.ifCond .lt 18, 3) := by decide +kernel
theorem dX10_needPlaceIn_9 : decode cX10_needPlaceIn 9 = .ok (.iload_n 2, 1) := by decide +kernel
theorem dX10_needPlaceIn_10 : decode cX10_needPlaceIn 10 = .ok (.aload_n 0, 1) := by decide +kernel
theorem dX10_needPlaceIn_11 : decode cX10_needPlaceIn 11 = .ok (.getfield 12, 3) := by decide +kernel
theorem dX10_needPlaceIn_14 : decode cX10_needPlaceIn 14 = .ok (.getfield 115, 3) := by decide +kernel
theorem dX10_needPlaceIn_17 : decode cX10_needPlaceIn 17 = .ok (.iload_n 1, 1) := by decide +kernel
theorem dX10_needPlaceIn_18 : decode cX10_needPlaceIn 18 = .ok (.invokevirtual 445, 3) := by decide +kernel
theorem dX10_needPlaceIn_21 : decode cX10_needPlaceIn 21 = .ok (.if_icmp .le 14, 3) := by decide +kernel
theorem dX10_needPlaceIn_24 : decode cX10_needPlaceIn 24 = .ok (.new 440, 3) := by decide +kernel
theorem dX10_needPlaceIn_27 : decode cX10_needPlaceIn 27 = .ok (.dup, 1) := by decide +kernel
theorem dX10_needPlaceIn_28 : decode cX10_needPlaceIn 28 = .ok (.ldc_w 448, 3) := by decide +kernel
theorem dX10_needPlaceIn_31 : decode cX10_needPlaceIn 31 = .ok (.invokespecial 444, 3) := by decide +kernel
theorem dX10_needPlaceIn_34 : decode cX10_needPlaceIn 34 = .ok (.athrow, 1) := by decide +kernel
theorem dX10_needPlaceIn_35 : decode cX10_needPlaceIn 35 = .ok (.return_, 1) := by decide +kernel
abbrev cX10_needRange : ByteArray := prog_1_method_62_code
def yX10_needRange : MethodName := ⟨RX10, "needRange", "(III)V"⟩
theorem dX10_needRange_0 : decode cX10_needRange 0 = .ok (.iload_n 1, 1) := by decide +kernel
theorem dX10_needRange_1 : decode cX10_needRange 1 = .ok (.iload_n 2, 1) := by decide +kernel
theorem dX10_needRange_2 : decode cX10_needRange 2 = .ok (.if_icmp .lt 8, 3) := by decide +kernel
theorem dX10_needRange_5 : decode cX10_needRange 5 = .ok (.iload_n 1, 1) := by decide +kernel
theorem dX10_needRange_6 : decode cX10_needRange 6 = .ok (.iload_n 3, 1) := by decide +kernel
theorem dX10_needRange_7 : decode cX10_needRange 7 = .ok (.if_icmp .le 14, 3) := by decide +kernel
theorem dX10_needRange_10 : decode cX10_needRange 10 = .ok (.new 268, 3) := by decide +kernel
theorem dX10_needRange_13 : decode cX10_needRange 13 = .ok (.dup, 1) := by decide +kernel
theorem dX10_needRange_14 : decode cX10_needRange 14 = .ok (.ldc_w 456, 3) := by decide +kernel
theorem dX10_needRange_17 : decode cX10_needRange 17 = .ok (.invokespecial 272, 3) := by decide +kernel
theorem dX10_needRange_20 : decode cX10_needRange 20 = .ok (.athrow, 1) := by decide +kernel
theorem dX10_needRange_21 : decode cX10_needRange 21 = .ok (.return_, 1) := by decide +kernel
abbrev cX10_needElement : ByteArray := prog_1_method_63_code
def yX10_needElement : MethodName := ⟨RX10, "needElement", "(I)V"⟩
theorem dX10_needElement_0 : decode cX10_needElement 0 = .ok (.aload_n 0, 1) := by decide +kernel
theorem dX10_needElement_1 : decode cX10_needElement 1 = .ok (.getfield 12, 3) := by decide +kernel
theorem dX10_needElement_4 : decode cX10_needElement 4 = .ok (.getfield 159, 3) := by decide +kernel
theorem dX10_needElement_7 : decode cX10_needElement 7 = .ok (.iload_n 1, 1) := by decide +kernel
theorem dX10_needElement_8 : decode cX10_needElement 8 = .ok (.invokevirtual 162, 3) := by decide +kernel
theorem dX10_needElement_11 : decode cX10_needElement 11 = .ok (.ifCond .eq 14, 3) := by decide +kernel
theorem dX10_needElement_14 : decode cX10_needElement 14 = .ok (.new 149, 3) := by decide +kernel
theorem dX10_needElement_17 : decode cX10_needElement 17 = .ok (.dup, 1) := by decide +kernel
theorem dX10_needElement_18 : decode cX10_needElement 18 = .ok (.ldc_w 458, 3) := by decide +kernel
theorem dX10_needElement_21 : decode cX10_needElement 21 = .ok (.invokespecial 153, 3) := by decide +kernel
theorem dX10_needElement_24 : decode cX10_needElement 24 = .ok (.athrow, 1) := by decide +kernel
theorem dX10_needElement_25 : decode cX10_needElement 25 = .ok (.return_, 1) := by decide +kernel
abbrev cX10_needRoom : ByteArray := prog_1_method_64_code
def yX10_needRoom : MethodName := ⟨RX10, "needRoom", "()V"⟩
theorem dX10_needRoom_0 : decode cX10_needRoom 0 = .ok (.aload_n 0, 1) := by decide +kernel
theorem dX10_needRoom_1 : decode cX10_needRoom 1 = .ok (.getfield 22, 3) := by decide +kernel
theorem dX10_needRoom_4 : decode cX10_needRoom 4 = .ok (.invokevirtual 411, 3) := by decide +kernel
theorem dX10_needRoom_7 : decode cX10_needRoom 7 = .ok (.bipush 20, 2) := by decide +kernel
theorem dX10_needRoom_9 : decode cX10_needRoom 9 = .ok (.if_icmp .lt 14, 3) := by decide +kernel
theorem dX10_needRoom_12 : decode cX10_needRoom 12 = .ok (.new 149, 3) := by decide +kernel
theorem dX10_needRoom_15 : decode cX10_needRoom 15 = .ok (.dup, 1) := by decide +kernel
theorem dX10_needRoom_16 : decode cX10_needRoom 16 = .ok (.ldc_w 460, 3) := by decide +kernel
theorem dX10_needRoom_19 : decode cX10_needRoom 19 = .ok (.invokespecial 153, 3) := by decide +kernel
theorem dX10_needRoom_22 : decode cX10_needRoom 22 = .ok (.athrow, 1) := by decide +kernel
theorem dX10_needRoom_23 : decode cX10_needRoom 23 = .ok (.return_, 1) := by decide +kernel
abbrev cX10_insertElement : ByteArray := prog_1_method_2_code
def yX10_insertElement : MethodName := ⟨RX10, "insertElement", "(III)I"⟩
theorem dX10_insertElement_0 : decode cX10_insertElement 0 = .ok (.aload_n 0, 1) := by decide +kernel
theorem dX10_insertElement_1 : decode cX10_insertElement 1 = .ok (.iload_n 1, 1) := by decide +kernel
theorem dX10_insertElement_2 : decode cX10_insertElement 2 = .ok (.iload_n 2, 1) := by decide +kernel
theorem dX10_insertElement_3 : decode cX10_insertElement 3 = .ok (.invokevirtual 129, 3) := by decide +kernel
theorem dX10_insertElement_6 : decode cX10_insertElement 6 = .ok (.aload_n 0, 1) := by decide +kernel
theorem dX10_insertElement_7 : decode cX10_insertElement 7 = .ok (.iload_n 3, 1) := by decide +kernel
theorem dX10_insertElement_8 : decode cX10_insertElement 8 = .ok (.iconst 0, 1) := by decide +kernel
theorem dX10_insertElement_9 : decode cX10_insertElement 9 = .ok (.bipush 7, 2) := by decide +kernel
theorem dX10_insertElement_11 : decode cX10_insertElement 11 = .ok (.invokevirtual 132, 3) := by decide +kernel
theorem dX10_insertElement_14 : decode cX10_insertElement 14 = .ok (.aload_n 0, 1) := by decide +kernel
theorem dX10_insertElement_15 : decode cX10_insertElement 15 = .ok (.iload_n 1, 1) := by decide +kernel
theorem dX10_insertElement_16 : decode cX10_insertElement 16 = .ok (.invokevirtual 136, 3) := by decide +kernel
theorem dX10_insertElement_19 : decode cX10_insertElement 19 = .ok (.aload_n 0, 1) := by decide +kernel
theorem dX10_insertElement_20 : decode cX10_insertElement 20 = .ok (.invokevirtual 139, 3) := by decide +kernel
theorem dX10_insertElement_23 : decode cX10_insertElement 23 = .ok (.aload_n 0, 1) := by decide +kernel
theorem dX10_insertElement_24 : decode cX10_insertElement 24 = .ok (.getfield 22, 3) := by decide +kernel
theorem dX10_insertElement_27 : decode cX10_insertElement 27 = .ok (.iconst 0, 1) := by decide +kernel
theorem dX10_insertElement_28 : decode cX10_insertElement 28 = .ok (.iload_n 1, 1) := by decide +kernel
theorem dX10_insertElement_29 : decode cX10_insertElement 29 = .ok (.iload_n 2, 1) := by decide +kernel
theorem dX10_insertElement_30 : decode cX10_insertElement 30 = .ok (.iload_n 3, 1) := by decide +kernel
theorem dX10_insertElement_31 : decode cX10_insertElement 31 = .ok (.iconst (-1), 1) := by decide +kernel
theorem dX10_insertElement_32 : decode cX10_insertElement 32 = .ok (.invokevirtual 142, 3) := by decide +kernel
theorem dX10_insertElement_35 : decode cX10_insertElement 35 = .ok (.ireturn, 1) := by decide +kernel
abbrev cX10_insertText : ByteArray := prog_1_method_3_code
def yX10_insertText : MethodName := ⟨RX10, "insertText", "(III)I"⟩
theorem dX10_insertText_0 : decode cX10_insertText 0 = .ok (.aload_n 0, 1) := by decide +kernel
theorem dX10_insertText_1 : decode cX10_insertText 1 = .ok (.iload_n 1, 1) := by decide +kernel
theorem dX10_insertText_2 : decode cX10_insertText 2 = .ok (.iload_n 2, 1) := by decide +kernel
theorem dX10_insertText_3 : decode cX10_insertText 3 = .ok (.invokevirtual 129, 3) := by decide +kernel
theorem dX10_insertText_6 : decode cX10_insertText 6 = .ok (.aload_n 0, 1) := by decide +kernel
theorem dX10_insertText_7 : decode cX10_insertText 7 = .ok (.iload_n 3, 1) := by decide +kernel
theorem dX10_insertText_8 : decode cX10_insertText 8 = .ok (.iconst 0, 1) := by decide +kernel
theorem dX10_insertText_9 : decode cX10_insertText 9 = .ok (.sipush 999, 3) := by decide +kernel
theorem dX10_insertText_12 : decode cX10_insertText 12 = .ok (.invokevirtual 132, 3) := by decide +kernel
theorem dX10_insertText_15 : decode cX10_insertText 15 = .ok (.aload_n 0, 1) := by decide +kernel
theorem dX10_insertText_16 : decode cX10_insertText 16 = .ok (.iload_n 1, 1) := by decide +kernel
theorem dX10_insertText_17 : decode cX10_insertText 17 = .ok (.invokevirtual 136, 3) := by decide +kernel
theorem dX10_insertText_20 : decode cX10_insertText 20 = .ok (.aload_n 0, 1) := by decide +kernel
theorem dX10_insertText_21 : decode cX10_insertText 21 = .ok (.invokevirtual 139, 3) := by decide +kernel
theorem dX10_insertText_24 : decode cX10_insertText 24 = .ok (.aload_n 0, 1) := by decide +kernel
theorem dX10_insertText_25 : decode cX10_insertText 25 = .ok (.getfield 22, 3) := by decide +kernel
theorem dX10_insertText_28 : decode cX10_insertText 28 = .ok (.iconst 1, 1) := by decide +kernel
theorem dX10_insertText_29 : decode cX10_insertText 29 = .ok (.iload_n 1, 1) := by decide +kernel
theorem dX10_insertText_30 : decode cX10_insertText 30 = .ok (.iload_n 2, 1) := by decide +kernel
theorem dX10_insertText_31 : decode cX10_insertText 31 = .ok (.iconst (-1), 1) := by decide +kernel
theorem dX10_insertText_32 : decode cX10_insertText 32 = .ok (.iload_n 3, 1) := by decide +kernel
theorem dX10_insertText_33 : decode cX10_insertText 33 = .ok (.invokevirtual 142, 3) := by decide +kernel
theorem dX10_insertText_36 : decode cX10_insertText 36 = .ok (.ireturn, 1) := by decide +kernel
abbrev cX10_insertAttribute : ByteArray := prog_1_method_4_code
def yX10_insertAttribute : MethodName := ⟨RX10, "insertAttribute", "(III)I"⟩
theorem dX10_insertAttribute_0 : decode cX10_insertAttribute 0 = .ok (.aload_n 0, 1) := by decide +kernel
theorem dX10_insertAttribute_1 : decode cX10_insertAttribute 1 = .ok (.iload_n 1, 1) := by decide +kernel
theorem dX10_insertAttribute_2 : decode cX10_insertAttribute 2 = .ok (.invokevirtual 146, 3) := by decide +kernel
theorem dX10_insertAttribute_5 : decode cX10_insertAttribute 5 = .ok (.aload_n 0, 1) := by decide +kernel
theorem dX10_insertAttribute_6 : decode cX10_insertAttribute 6 = .ok (.iload_n 2, 1) := by decide +kernel
theorem dX10_insertAttribute_7 : decode cX10_insertAttribute 7 = .ok (.iconst 0, 1) := by decide +kernel
theorem dX10_insertAttribute_8 : decode cX10_insertAttribute 8 = .ok (.bipush 7, 2) := by decide +kernel
theorem dX10_insertAttribute_10 : decode cX10_insertAttribute 10 = .ok (.invokevirtual 132, 3) := by decide +kernel
theorem dX10_insertAttribute_13 : decode cX10_insertAttribute 13 = .ok (.aload_n 0, 1) := by decide +kernel
theorem dX10_insertAttribute_14 : decode cX10_insertAttribute 14 = .ok (.iload_n 3, 1) := by decide +kernel
theorem dX10_insertAttribute_15 : decode cX10_insertAttribute 15 = .ok (.iconst 0, 1) := by decide +kernel
theorem dX10_insertAttribute_16 : decode cX10_insertAttribute 16 = .ok (.sipush 999, 3) := by decide +kernel
theorem dX10_insertAttribute_19 : decode cX10_insertAttribute 19 = .ok (.invokevirtual 132, 3) := by decide +kernel
theorem dX10_insertAttribute_22 : decode cX10_insertAttribute 22 = .ok (.aload_n 0, 1) := by decide +kernel
theorem dX10_insertAttribute_23 : decode cX10_insertAttribute 23 = .ok (.iload_n 1, 1) := by decide +kernel
theorem dX10_insertAttribute_24 : decode cX10_insertAttribute 24 = .ok (.invokevirtual 136, 3) := by decide +kernel
theorem dX10_insertAttribute_27 : decode cX10_insertAttribute 27 = .ok (.aload_n 0, 1) := by decide +kernel
theorem dX10_insertAttribute_28 : decode cX10_insertAttribute 28 = .ok (.invokevirtual 139, 3) := by decide +kernel
theorem dX10_insertAttribute_31 : decode cX10_insertAttribute 31 = .ok (.aload_n 0, 1) := by decide +kernel
theorem dX10_insertAttribute_32 : decode cX10_insertAttribute 32 = .ok (.getfield 22, 3) := by decide +kernel
theorem dX10_insertAttribute_35 : decode cX10_insertAttribute 35 = .ok (.iconst 2, 1) := by decide +kernel
theorem dX10_insertAttribute_36 : decode cX10_insertAttribute 36 = .ok (.iload_n 1, 1) := by decide +kernel
theorem dX10_insertAttribute_37 : decode cX10_insertAttribute 37 = .ok (.iconst (-1), 1) := by decide +kernel
theorem dX10_insertAttribute_38 : decode cX10_insertAttribute 38 = .ok (.iload_n 2, 1) := by decide +kernel
theorem dX10_insertAttribute_39 : decode cX10_insertAttribute 39 = .ok (.iload_n 3, 1) := by decide +kernel
theorem dX10_insertAttribute_40 : decode cX10_insertAttribute 40 = .ok (.invokevirtual 142, 3) := by decide +kernel
theorem dX10_insertAttribute_43 : decode cX10_insertAttribute 43 = .ok (.ireturn, 1) := by decide +kernel
abbrev cX10_remove : ByteArray := prog_1_method_5_code
def yX10_remove : MethodName := ⟨RX10, "remove", "(I)I"⟩
theorem dX10_remove_0 : decode cX10_remove 0 = .ok (.aload_n 0, 1) := by decide +kernel
theorem dX10_remove_1 : decode cX10_remove 1 = .ok (.iload_n 1, 1) := by decide +kernel
theorem dX10_remove_2 : decode cX10_remove 2 = .ok (.invokevirtual 146, 3) := by decide +kernel
theorem dX10_remove_5 : decode cX10_remove 5 = .ok (.iload_n 1, 1) := by decide +kernel
theorem dX10_remove_6 : decode cX10_remove 6 = .ok (.ifCond .ne 13, 3) := by decide +kernel
theorem dX10_remove_9 : decode cX10_remove 9 = .ok (.new 149, 3) := by decide +kernel
theorem dX10_remove_12 : decode cX10_remove 12 = .ok (.dup, 1) := by decide +kernel
theorem dX10_remove_13 : decode cX10_remove 13 = .ok (.ldc 151, 2) := by decide +kernel
theorem dX10_remove_15 : decode cX10_remove 15 = .ok (.invokespecial 153, 3) := by decide +kernel
theorem dX10_remove_18 : decode cX10_remove 18 = .ok (.athrow, 1) := by decide +kernel
theorem dX10_remove_19 : decode cX10_remove 19 = .ok (.aload_n 0, 1) := by decide +kernel
theorem dX10_remove_20 : decode cX10_remove 20 = .ok (.invokevirtual 139, 3) := by decide +kernel
theorem dX10_remove_23 : decode cX10_remove 23 = .ok (.aload_n 0, 1) := by decide +kernel
theorem dX10_remove_24 : decode cX10_remove 24 = .ok (.getfield 22, 3) := by decide +kernel
theorem dX10_remove_27 : decode cX10_remove 27 = .ok (.iconst 1, 1) := by decide +kernel
theorem dX10_remove_28 : decode cX10_remove 28 = .ok (.iload_n 1, 1) := by decide +kernel
theorem dX10_remove_29 : decode cX10_remove 29 = .ok (.iconst (-1), 1) := by decide +kernel
theorem dX10_remove_30 : decode cX10_remove 30 = .ok (.invokevirtual 156, 3) := by decide +kernel
theorem dX10_remove_33 : decode cX10_remove 33 = .ok (.ireturn, 1) := by decide +kernel
abbrev cX10_rename : ByteArray := prog_1_method_6_code
def yX10_rename : MethodName := ⟨RX10, "rename", "(II)I"⟩
theorem dX10_rename_0 : decode cX10_rename 0 = .ok (.aload_n 0, 1) := by decide +kernel
theorem dX10_rename_1 : decode cX10_rename 1 = .ok (.iload_n 1, 1) := by decide +kernel
theorem dX10_rename_2 : decode cX10_rename 2 = .ok (.invokevirtual 146, 3) := by decide +kernel
theorem dX10_rename_5 : decode cX10_rename 5 = .ok (.aload_n 0, 1) := by decide +kernel
theorem dX10_rename_6 : decode cX10_rename 6 = .ok (.iload_n 2, 1) := by decide +kernel
theorem dX10_rename_7 : decode cX10_rename 7 = .ok (.iconst 0, 1) := by decide +kernel
theorem dX10_rename_8 : decode cX10_rename 8 = .ok (.bipush 7, 2) := by decide +kernel
theorem dX10_rename_10 : decode cX10_rename 10 = .ok (.invokevirtual 132, 3) := by decide +kernel
theorem dX10_rename_13 : decode cX10_rename 13 = .ok (.aload_n 0, 1) := by decide +kernel
theorem dX10_rename_14 : decode cX10_rename 14 = .ok (.getfield 12, 3) := by decide +kernel
theorem dX10_rename_17 : decode cX10_rename 17 = .ok (.getfield 159, 3) := by decide +kernel
theorem dX10_rename_20 : decode cX10_rename 20 = .ok (.iload_n 1, 1) := by decide +kernel
theorem dX10_rename_21 : decode cX10_rename 21 = .ok (.invokevirtual 162, 3) := by decide +kernel
theorem dX10_rename_24 : decode cX10_rename 24 = .ok (.iconst 1, 1) := by decide +kernel
theorem dX10_rename_25 : decode cX10_rename 25 = .ok (.if_icmp .ne 13, 3) := by decide +kernel
theorem dX10_rename_28 : decode cX10_rename 28 = .ok (.new 149, 3) := by decide +kernel
theorem dX10_rename_31 : decode cX10_rename 31 = .ok (.dup, 1) := by decide +kernel
theorem dX10_rename_32 : decode cX10_rename 32 = .ok (.ldc 166, 2) := by decide +kernel
theorem dX10_rename_34 : decode cX10_rename 34 = .ok (.invokespecial 153, 3) := by decide +kernel
theorem dX10_rename_37 : decode cX10_rename 37 = .ok (.athrow, 1) := by decide +kernel
theorem dX10_rename_38 : decode cX10_rename 38 = .ok (.aload_n 0, 1) := by decide +kernel
theorem dX10_rename_39 : decode cX10_rename 39 = .ok (.invokevirtual 139, 3) := by decide +kernel
theorem dX10_rename_42 : decode cX10_rename 42 = .ok (.aload_n 0, 1) := by decide +kernel
theorem dX10_rename_43 : decode cX10_rename 43 = .ok (.getfield 22, 3) := by decide +kernel
theorem dX10_rename_46 : decode cX10_rename 46 = .ok (.iconst 2, 1) := by decide +kernel
theorem dX10_rename_47 : decode cX10_rename 47 = .ok (.iload_n 1, 1) := by decide +kernel
theorem dX10_rename_48 : decode cX10_rename 48 = .ok (.iload_n 2, 1) := by decide +kernel
theorem dX10_rename_49 : decode cX10_rename 49 = .ok (.invokevirtual 156, 3) := by decide +kernel
theorem dX10_rename_52 : decode cX10_rename 52 = .ok (.ireturn, 1) := by decide +kernel
abbrev cX10_setValue : ByteArray := prog_1_method_7_code
def yX10_setValue : MethodName := ⟨RX10, "setValue", "(II)I"⟩
theorem dX10_setValue_0 : decode cX10_setValue 0 = .ok (.aload_n 0, 1) := by decide +kernel
theorem dX10_setValue_1 : decode cX10_setValue 1 = .ok (.iload_n 1, 1) := by decide +kernel
theorem dX10_setValue_2 : decode cX10_setValue 2 = .ok (.invokevirtual 146, 3) := by decide +kernel
theorem dX10_setValue_5 : decode cX10_setValue 5 = .ok (.aload_n 0, 1) := by decide +kernel
theorem dX10_setValue_6 : decode cX10_setValue 6 = .ok (.iload_n 2, 1) := by decide +kernel
theorem dX10_setValue_7 : decode cX10_setValue 7 = .ok (.iconst 0, 1) := by decide +kernel
theorem dX10_setValue_8 : decode cX10_setValue 8 = .ok (.sipush 999, 3) := by decide +kernel
theorem dX10_setValue_11 : decode cX10_setValue 11 = .ok (.invokevirtual 132, 3) := by decide +kernel
theorem dX10_setValue_14 : decode cX10_setValue 14 = .ok (.aload_n 0, 1) := by decide +kernel
theorem dX10_setValue_15 : decode cX10_setValue 15 = .ok (.getfield 12, 3) := by decide +kernel
theorem dX10_setValue_18 : decode cX10_setValue 18 = .ok (.getfield 159, 3) := by decide +kernel
theorem dX10_setValue_21 : decode cX10_setValue 21 = .ok (.iload_n 1, 1) := by decide +kernel
theorem dX10_setValue_22 : decode cX10_setValue 22 = .ok (.invokevirtual 162, 3) := by decide +kernel
theorem dX10_setValue_25 : decode cX10_setValue 25 = .ok (.ifCond .ne 13, 3) := by decide +kernel
theorem dX10_setValue_28 : decode cX10_setValue 28 = .ok (.new 149, 3) := by decide +kernel
theorem dX10_setValue_31 : decode cX10_setValue 31 = .ok (.dup, 1) := by decide +kernel
theorem dX10_setValue_32 : decode cX10_setValue 32 = .ok (.ldc 168, 2) := by decide +kernel
theorem dX10_setValue_34 : decode cX10_setValue 34 = .ok (.invokespecial 153, 3) := by decide +kernel
theorem dX10_setValue_37 : decode cX10_setValue 37 = .ok (.athrow, 1) := by decide +kernel
theorem dX10_setValue_38 : decode cX10_setValue 38 = .ok (.aload_n 0, 1) := by decide +kernel
theorem dX10_setValue_39 : decode cX10_setValue 39 = .ok (.invokevirtual 139, 3) := by decide +kernel
theorem dX10_setValue_42 : decode cX10_setValue 42 = .ok (.aload_n 0, 1) := by decide +kernel
theorem dX10_setValue_43 : decode cX10_setValue 43 = .ok (.getfield 22, 3) := by decide +kernel
theorem dX10_setValue_46 : decode cX10_setValue 46 = .ok (.iconst 3, 1) := by decide +kernel
theorem dX10_setValue_47 : decode cX10_setValue 47 = .ok (.iload_n 1, 1) := by decide +kernel
theorem dX10_setValue_48 : decode cX10_setValue 48 = .ok (.iload_n 2, 1) := by decide +kernel
theorem dX10_setValue_49 : decode cX10_setValue 49 = .ok (.invokevirtual 156, 3) := by decide +kernel
theorem dX10_setValue_52 : decode cX10_setValue 52 = .ok (.ireturn, 1) := by decide +kernel
abbrev cX10_move : ByteArray := prog_1_method_8_code
def yX10_move : MethodName := ⟨RX10, "move", "(III)I"⟩
theorem dX10_move_0 : decode cX10_move 0 = .ok (.aload_n 0, 1) := by decide +kernel
theorem dX10_move_1 : decode cX10_move 1 = .ok (.iload_n 1, 1) := by decide +kernel
theorem dX10_move_2 : decode cX10_move 2 = .ok (.invokevirtual 146, 3) := by decide +kernel
theorem dX10_move_5 : decode cX10_move 5 = .ok (.aload_n 0, 1) := by decide +kernel
theorem dX10_move_6 : decode cX10_move 6 = .ok (.iload_n 2, 1) := by decide +kernel
theorem dX10_move_7 : decode cX10_move 7 = .ok (.iload_n 3, 1) := by decide +kernel
theorem dX10_move_8 : decode cX10_move 8 = .ok (.invokevirtual 129, 3) := by decide +kernel
theorem dX10_move_11 : decode cX10_move 11 = .ok (.iload_n 1, 1) := by decide +kernel
theorem dX10_move_12 : decode cX10_move 12 = .ok (.ifCond .eq 18, 3) := by decide +kernel
theorem dX10_move_15 : decode cX10_move 15 = .ok (.aload_n 0, 1) := by decide +kernel
theorem dX10_move_16 : decode cX10_move 16 = .ok (.getfield 12, 3) := by decide +kernel
theorem dX10_move_19 : decode cX10_move 19 = .ok (.getfield 159, 3) := by decide +kernel
theorem dX10_move_22 : decode cX10_move 22 = .ok (.iload_n 1, 1) := by decide +kernel
theorem dX10_move_23 : decode cX10_move 23 = .ok (.invokevirtual 162, 3) := by decide +kernel
theorem dX10_move_26 : decode cX10_move 26 = .ok (.iconst 2, 1) := by decide +kernel
theorem dX10_move_27 : decode cX10_move 27 = .ok (.if_icmp .ne 13, 3) := by decide +kernel
theorem dX10_move_30 : decode cX10_move 30 = .ok (.new 149, 3) := by decide +kernel
theorem dX10_move_33 : decode cX10_move 33 = .ok (.dup, 1) := by decide +kernel
theorem dX10_move_34 : decode cX10_move 34 = .ok (.ldc 170, 2) := by decide +kernel
theorem dX10_move_36 : decode cX10_move 36 = .ok (.invokespecial 153, 3) := by decide +kernel
theorem dX10_move_39 : decode cX10_move 39 = .ok (.athrow, 1) := by decide +kernel
theorem dX10_move_40 : decode cX10_move 40 = .ok (.aload_n 0, 1) := by decide +kernel
theorem dX10_move_41 : decode cX10_move 41 = .ok (.iload_n 2, 1) := by decide +kernel
theorem dX10_move_42 : decode cX10_move 42 = .ok (.invokevirtual 136, 3) := by decide +kernel
theorem dX10_move_45 : decode cX10_move 45 = .ok (.aload_n 0, 1) := by decide +kernel
theorem dX10_move_46 : decode cX10_move 46 = .ok (.invokevirtual 139, 3) := by decide +kernel
theorem dX10_move_49 : decode cX10_move 49 = .ok (.aload_n 0, 1) := by decide +kernel
theorem dX10_move_50 : decode cX10_move 50 = .ok (.getfield 22, 3) := by decide +kernel
theorem dX10_move_53 : decode cX10_move 53 = .ok (.iload_n 1, 1) := by decide +kernel
theorem dX10_move_54 : decode cX10_move 54 = .ok (.iload_n 2, 1) := by decide +kernel
theorem dX10_move_55 : decode cX10_move 55 = .ok (.iload_n 3, 1) := by decide +kernel
theorem dX10_move_56 : decode cX10_move 56 = .ok (.invokevirtual 172, 3) := by decide +kernel
theorem dX10_move_59 : decode cX10_move 59 = .ok (.ireturn, 1) := by decide +kernel
abbrev cX10_declare : ByteArray := prog_1_method_9_code
def yX10_declare : MethodName := ⟨RX10, "declare", "(II)I"⟩
theorem dX10_declare_0 : decode cX10_declare 0 = .ok (.aload_n 0, 1) := by decide +kernel
theorem dX10_declare_1 : decode cX10_declare 1 = .ok (.iload_n 1, 1) := by decide +kernel
theorem dX10_declare_2 : decode cX10_declare 2 = .ok (.invokevirtual 146, 3) := by decide +kernel
theorem dX10_declare_5 : decode cX10_declare 5 = .ok (.aload_n 0, 1) := by decide +kernel
theorem dX10_declare_6 : decode cX10_declare 6 = .ok (.iload_n 2, 1) := by decide +kernel
theorem dX10_declare_7 : decode cX10_declare 7 = .ok (.iconst (-1), 1) := by decide +kernel
theorem dX10_declare_8 : decode cX10_declare 8 = .ok (.iconst 3, 1) := by decide +kernel
theorem dX10_declare_9 : decode cX10_declare 9 = .ok (.invokevirtual 132, 3) := by decide +kernel
theorem dX10_declare_12 : decode cX10_declare 12 = .ok (.aload_n 0, 1) := by decide +kernel
theorem dX10_declare_13 : decode cX10_declare 13 = .ok (.iload_n 1, 1) := by decide +kernel
theorem dX10_declare_14 : decode cX10_declare 14 = .ok (.invokevirtual 136, 3) := by decide +kernel
theorem dX10_declare_17 : decode cX10_declare 17 = .ok (.aload_n 0, 1) := by decide +kernel
theorem dX10_declare_18 : decode cX10_declare 18 = .ok (.invokevirtual 139, 3) := by decide +kernel
theorem dX10_declare_21 : decode cX10_declare 21 = .ok (.aload_n 0, 1) := by decide +kernel
theorem dX10_declare_22 : decode cX10_declare 22 = .ok (.getfield 22, 3) := by decide +kernel
theorem dX10_declare_25 : decode cX10_declare 25 = .ok (.iconst 5, 1) := by decide +kernel
theorem dX10_declare_26 : decode cX10_declare 26 = .ok (.iload_n 1, 1) := by decide +kernel
theorem dX10_declare_27 : decode cX10_declare 27 = .ok (.iload_n 2, 1) := by decide +kernel
theorem dX10_declare_28 : decode cX10_declare 28 = .ok (.invokevirtual 156, 3) := by decide +kernel
theorem dX10_declare_31 : decode cX10_declare 31 = .ok (.ireturn, 1) := by decide +kernel
abbrev cX10_viewedNodes : ByteArray := prog_1_method_74_code
def yX10_viewedNodes : MethodName := ⟨RX10, "viewedNodes", "(I)J"⟩
theorem dX10_viewedNodes_0 : decode cX10_viewedNodes 0 = .ok (.aload_n 0, 1) := by decide +kernel
theorem dX10_viewedNodes_1 : decode cX10_viewedNodes 1 = .ok (.getfield 12, 3) := by decide +kernel
theorem dX10_viewedNodes_4 : decode cX10_viewedNodes 4 = .ok (.getfield 115, 3) := by decide +kernel
theorem dX10_viewedNodes_7 : decode cX10_viewedNodes 7 = .ok (.aload_n 0, 1) := by decide +kernel
theorem dX10_viewedNodes_8 : decode cX10_viewedNodes 8 = .ok (.getfield 38, 3) := by decide +kernel
theorem dX10_viewedNodes_11 : decode cX10_viewedNodes 11 = .ok (.aload_n 0, 1) := by decide +kernel
theorem dX10_viewedNodes_12 : decode cX10_viewedNodes 12 = .ok (.getfield 61, 3) := by decide +kernel
theorem dX10_viewedNodes_15 : decode cX10_viewedNodes 15 = .ok (.iload_n 1, 1) := by decide +kernel
theorem dX10_viewedNodes_16 : decode cX10_viewedNodes 16 = .ok (.invokevirtual 162, 3) := by decide +kernel
theorem dX10_viewedNodes_19 : decode cX10_viewedNodes 19 = .ok (.iconst 0, 1) := by decide +kernel
theorem dX10_viewedNodes_20 : decode cX10_viewedNodes 20 = .ok (.invokevirtual 305, 3) := by decide +kernel
theorem dX10_viewedNodes_23 : decode cX10_viewedNodes 23 = .ok (.invokevirtual 494, 3) := by decide +kernel
theorem dX10_viewedNodes_26 : decode cX10_viewedNodes 26 = .ok (.lreturn, 1) := by decide +kernel
abbrev cX10_settle : ByteArray := prog_1_method_73_code
def yX10_settle : MethodName := ⟨RX10, "settle", "()V"⟩
theorem dX10_settle_0 : decode cX10_settle 0 = .ok (.iconst 0, 1) := by decide +kernel
theorem dX10_settle_1 : decode cX10_settle 1 = .ok (.istore_n 1, 1) := by decide +kernel
theorem dX10_settle_2 : decode cX10_settle 2 = .ok (.iload_n 1, 1) := by decide +kernel
theorem dX10_settle_3 : decode cX10_settle 3 = .ok (.aload_n 0, 1) := by decide +kernel
theorem dX10_settle_4 : decode cX10_settle 4 = .ok (.getfield 85, 3) := by decide +kernel
theorem dX10_settle_7 : decode cX10_settle 7 = .ok (.if_icmp .ge 37, 3) := by decide +kernel
theorem dX10_settle_10 : decode cX10_settle 10 = .ok (.aload_n 0, 1) := by decide +kernel
theorem dX10_settle_11 : decode cX10_settle 11 = .ok (.getfield 38, 3) := by decide +kernel
theorem dX10_settle_14 : decode cX10_settle 14 = .ok (.aload_n 0, 1) := by decide +kernel
theorem dX10_settle_15 : decode cX10_settle 15 = .ok (.getfield 61, 3) := by decide +kernel
theorem dX10_settle_18 : decode cX10_settle 18 = .ok (.iload_n 1, 1) := by decide +kernel
theorem dX10_settle_19 : decode cX10_settle 19 = .ok (.invokevirtual 162, 3) := by decide +kernel
theorem dX10_settle_22 : decode cX10_settle 22 = .ok (.invokevirtual 302, 3) := by decide +kernel
theorem dX10_settle_25 : decode cX10_settle 25 = .ok (.aload_n 0, 1) := by decide +kernel
theorem dX10_settle_26 : decode cX10_settle 26 = .ok (.getfield 73, 3) := by decide +kernel
theorem dX10_settle_29 : decode cX10_settle 29 = .ok (.iload_n 1, 1) := by decide +kernel
theorem dX10_settle_30 : decode cX10_settle 30 = .ok (.aload_n 0, 1) := by decide +kernel
theorem dX10_settle_31 : decode cX10_settle 31 = .ok (.iload_n 1, 1) := by decide +kernel
theorem dX10_settle_32 : decode cX10_settle 32 = .ok (.invokevirtual 486, 3) := by decide +kernel
theorem dX10_settle_35 : decode cX10_settle 35 = .ok (.invokevirtual 489, 3) := by decide +kernel
theorem dX10_settle_38 : decode cX10_settle 38 = .ok (.iinc 1 1, 3) := by decide +kernel
theorem dX10_settle_41 : decode cX10_settle 41 = .ok (.goto (-39), 3) := by decide +kernel
theorem dX10_settle_44 : decode cX10_settle 44 = .ok (.aload_n 0, 1) := by decide +kernel
theorem dX10_settle_45 : decode cX10_settle 45 = .ok (.getfield 12, 3) := by decide +kernel
theorem dX10_settle_48 : decode cX10_settle 48 = .ok (.aload_n 0, 1) := by decide +kernel
theorem dX10_settle_49 : decode cX10_settle 49 = .ok (.getfield 16, 3) := by decide +kernel
theorem dX10_settle_52 : decode cX10_settle 52 = .ok (.invokevirtual 403, 3) := by decide +kernel
theorem dX10_settle_55 : decode cX10_settle 55 = .ok (.aload_n 0, 1) := by decide +kernel
theorem dX10_settle_56 : decode cX10_settle 56 = .ok (.getfield 38, 3) := by decide +kernel
theorem dX10_settle_59 : decode cX10_settle 59 = .ok (.aload_n 0, 1) := by decide +kernel
theorem dX10_settle_60 : decode cX10_settle 60 = .ok (.getfield 12, 3) := by decide +kernel
theorem dX10_settle_63 : decode cX10_settle 63 = .ok (.getfield 115, 3) := by decide +kernel
theorem dX10_settle_66 : decode cX10_settle 66 = .ok (.invokevirtual 119, 3) := by decide +kernel
theorem dX10_settle_69 : decode cX10_settle 69 = .ok (.invokevirtual 125, 3) := by decide +kernel
theorem dX10_settle_72 : decode cX10_settle 72 = .ok (.aload_n 0, 1) := by decide +kernel
theorem dX10_settle_73 : decode cX10_settle 73 = .ok (.iconst 1, 1) := by decide +kernel
theorem dX10_settle_74 : decode cX10_settle 74 = .ok (.putfield 102, 3) := by decide +kernel
theorem dX10_settle_77 : decode cX10_settle 77 = .ok (.iconst 0, 1) := by decide +kernel
theorem dX10_settle_78 : decode cX10_settle 78 = .ok (.istore_n 1, 1) := by decide +kernel
theorem dX10_settle_79 : decode cX10_settle 79 = .ok (.iload_n 1, 1) := by decide +kernel
theorem dX10_settle_80 : decode cX10_settle 80 = .ok (.aload_n 0, 1) := by decide +kernel
theorem dX10_settle_81 : decode cX10_settle 81 = .ok (.getfield 85, 3) := by decide +kernel
theorem dX10_settle_84 : decode cX10_settle 84 = .ok (.if_icmp .ge 49, 3) := by decide +kernel
theorem dX10_settle_87 : decode cX10_settle 87 = .ok (.aload_n 0, 1) := by decide +kernel
theorem dX10_settle_88 : decode cX10_settle 88 = .ok (.getfield 38, 3) := by decide +kernel
theorem dX10_settle_91 : decode cX10_settle 91 = .ok (.aload_n 0, 1) := by decide +kernel
theorem dX10_settle_92 : decode cX10_settle 92 = .ok (.getfield 61, 3) := by decide +kernel
theorem dX10_settle_95 : decode cX10_settle 95 = .ok (.iload_n 1, 1) := by decide +kernel
theorem dX10_settle_96 : decode cX10_settle 96 = .ok (.invokevirtual 162, 3) := by decide +kernel
theorem dX10_settle_99 : decode cX10_settle 99 = .ok (.invokevirtual 302, 3) := by decide +kernel
theorem dX10_settle_102 : decode cX10_settle 102 = .ok (.aload_n 0, 1) := by decide +kernel
theorem dX10_settle_103 : decode cX10_settle 103 = .ok (.getfield 65, 3) := by decide +kernel
theorem dX10_settle_106 : decode cX10_settle 106 = .ok (.iload_n 1, 1) := by decide +kernel
theorem dX10_settle_107 : decode cX10_settle 107 = .ok (.aload_n 0, 1) := by decide +kernel
theorem dX10_settle_108 : decode cX10_settle 108 = .ok (.getfield 73, 3) := by decide +kernel
theorem dX10_settle_111 : decode cX10_settle 111 = .ok (.iload_n 1, 1) := by decide +kernel
theorem dX10_settle_112 : decode cX10_settle 112 = .ok (.invokevirtual 492, 3) := by decide +kernel
theorem dX10_settle_115 : decode cX10_settle 115 = .ok (.aload_n 0, 1) := by decide +kernel
theorem dX10_settle_116 : decode cX10_settle 116 = .ok (.iload_n 1, 1) := by decide +kernel
theorem dX10_settle_117 : decode cX10_settle 117 = .ok (.invokevirtual 486, 3) := by decide +kernel
theorem dX10_settle_120 : decode cX10_settle 120 = .ok (.lxor, 1) := by decide +kernel
theorem dX10_settle_121 : decode cX10_settle 121 = .ok (.invokestatic 309, 3) := by decide +kernel
theorem dX10_settle_124 : decode cX10_settle 124 = .ok (.invokevirtual 392, 3) := by decide +kernel
theorem dX10_settle_127 : decode cX10_settle 127 = .ok (.iinc 1 1, 3) := by decide +kernel
theorem dX10_settle_130 : decode cX10_settle 130 = .ok (.goto (-51), 3) := by decide +kernel
theorem dX10_settle_133 : decode cX10_settle 133 = .ok (.return_, 1) := by decide +kernel
abbrev cX10_apply : ByteArray := prog_1_method_10_code
def yX10_apply : MethodName := ⟨RX10, "apply", "()I"⟩
theorem dX10_apply_0 : decode cX10_apply 0 = .ok (.aload_n 0, 1) := by decide +kernel
theorem dX10_apply_1 : decode cX10_apply 1 = .ok (.getfield 22, 3) := by decide +kernel
theorem dX10_apply_4 : decode cX10_apply 4 = .ok (.aload_n 0, 1) := by decide +kernel
theorem dX10_apply_5 : decode cX10_apply 5 = .ok (.getfield 12, 3) := by decide +kernel
theorem dX10_apply_8 : decode cX10_apply 8 = .ok (.invokevirtual 175, 3) := by decide +kernel
theorem dX10_apply_11 : decode cX10_apply 11 = .ok (.ifCond .ne 13, 3) := by decide +kernel
theorem dX10_apply_14 : decode cX10_apply 14 = .ok (.new 149, 3) := by decide +kernel
theorem dX10_apply_17 : decode cX10_apply 17 = .ok (.dup, 1) := by decide +kernel
theorem dX10_apply_18 : decode cX10_apply 18 = .ok (.ldc 179, 2) := by decide +kernel
theorem dX10_apply_20 : decode cX10_apply 20 = .ok (.invokespecial 153, 3) := by decide +kernel
theorem dX10_apply_23 : decode cX10_apply 23 = .ok (.athrow, 1) := by decide +kernel
theorem dX10_apply_24 : decode cX10_apply 24 = .ok (.aload_n 0, 1) := by decide +kernel
theorem dX10_apply_25 : decode cX10_apply 25 = .ok (.getfield 22, 3) := by decide +kernel
theorem dX10_apply_28 : decode cX10_apply 28 = .ok (.aload_n 0, 1) := by decide +kernel
theorem dX10_apply_29 : decode cX10_apply 29 = .ok (.getfield 12, 3) := by decide +kernel
theorem dX10_apply_32 : decode cX10_apply 32 = .ok (.aload_n 0, 1) := by decide +kernel
theorem dX10_apply_33 : decode cX10_apply 33 = .ok (.getfield 16, 3) := by decide +kernel
theorem dX10_apply_36 : decode cX10_apply 36 = .ok (.invokevirtual 181, 3) := by decide +kernel
theorem dX10_apply_39 : decode cX10_apply 39 = .ok (.aload_n 0, 1) := by decide +kernel
theorem dX10_apply_40 : decode cX10_apply 40 = .ok (.getfield 16, 3) := by decide +kernel
theorem dX10_apply_43 : decode cX10_apply 43 = .ok (.invokevirtual 185, 3) := by decide +kernel
theorem dX10_apply_46 : decode cX10_apply 46 = .ok (.ifCond .ne 13, 3) := by decide +kernel
theorem dX10_apply_49 : decode cX10_apply 49 = .ok (.aload_n 0, 1) := by decide +kernel
theorem dX10_apply_50 : decode cX10_apply 50 = .ok (.getfield 16, 3) := by decide +kernel
theorem dX10_apply_53 : decode cX10_apply 53 = .ok (.invokevirtual 189, 3) := by decide +kernel
theorem dX10_apply_56 : decode cX10_apply 56 = .ok (.ifCond .eq 13, 3) := by decide +kernel
theorem dX10_apply_59 : decode cX10_apply 59 = .ok (.new 149, 3) := by decide +kernel
theorem dX10_apply_62 : decode cX10_apply 62 = .ok (.dup, 1) := by decide +kernel
theorem dX10_apply_63 : decode cX10_apply 63 = .ok (.ldc 192, 2) := by decide +kernel
theorem dX10_apply_65 : decode cX10_apply 65 = .ok (.invokespecial 153, 3) := by decide +kernel
theorem dX10_apply_68 : decode cX10_apply 68 = .ok (.athrow, 1) := by decide +kernel
theorem dX10_apply_69 : decode cX10_apply 69 = .ok (.aload_n 0, 1) := by decide +kernel
theorem dX10_apply_70 : decode cX10_apply 70 = .ok (.getfield 48, 3) := by decide +kernel
theorem dX10_apply_73 : decode cX10_apply 73 = .ok (.invokevirtual 194, 3) := by decide +kernel
theorem dX10_apply_76 : decode cX10_apply 76 = .ok (.ifCond .eq 27, 3) := by decide +kernel
theorem dX10_apply_79 : decode cX10_apply 79 = .ok (.aload_n 0, 1) := by decide +kernel
theorem dX10_apply_80 : decode cX10_apply 80 = .ok (.getfield 48, 3) := by decide +kernel
theorem dX10_apply_83 : decode cX10_apply 83 = .ok (.aload_n 0, 1) := by decide +kernel
theorem dX10_apply_84 : decode cX10_apply 84 = .ok (.getfield 16, 3) := by decide +kernel
theorem dX10_apply_87 : decode cX10_apply 87 = .ok (.invokevirtual 197, 3) := by decide +kernel
theorem dX10_apply_90 : decode cX10_apply 90 = .ok (.ifCond .ne 13, 3) := by decide +kernel
theorem dX10_apply_93 : decode cX10_apply 93 = .ok (.new 149, 3) := by decide +kernel
theorem dX10_apply_96 : decode cX10_apply 96 = .ok (.dup, 1) := by decide +kernel
theorem dX10_apply_97 : decode cX10_apply 97 = .ok (.ldc 200, 2) := by decide +kernel
theorem dX10_apply_99 : decode cX10_apply 99 = .ok (.invokespecial 153, 3) := by decide +kernel
theorem dX10_apply_102 : decode cX10_apply 102 = .ok (.athrow, 1) := by decide +kernel
theorem dX10_apply_103 : decode cX10_apply 103 = .ok (.aload_n 0, 1) := by decide +kernel
theorem dX10_apply_104 : decode cX10_apply 104 = .ok (.getfield 16, 3) := by decide +kernel
theorem dX10_apply_107 : decode cX10_apply 107 = .ok (.aload_n 0, 1) := by decide +kernel
theorem dX10_apply_108 : decode cX10_apply 108 = .ok (.getfield 22, 3) := by decide +kernel
theorem dX10_apply_111 : decode cX10_apply 111 = .ok (.invokevirtual 202, 3) := by decide +kernel
theorem dX10_apply_114 : decode cX10_apply 114 = .ok (.invokevirtual 205, 3) := by decide +kernel
theorem dX10_apply_117 : decode cX10_apply 117 = .ok (.ifCond .ne 20, 3) := by decide +kernel
theorem dX10_apply_120 : decode cX10_apply 120 = .ok (.aload_n 0, 1) := by decide +kernel
theorem dX10_apply_121 : decode cX10_apply 121 = .ok (.getfield 16, 3) := by decide +kernel
theorem dX10_apply_124 : decode cX10_apply 124 = .ok (.invokevirtual 112, 3) := by decide +kernel
theorem dX10_apply_127 : decode cX10_apply 127 = .ok (.aload_n 0, 1) := by decide +kernel
theorem dX10_apply_128 : decode cX10_apply 128 = .ok (.dup, 1) := by decide +kernel
theorem dX10_apply_129 : decode cX10_apply 129 = .ok (.getfield 88, 3) := by decide +kernel
theorem dX10_apply_132 : decode cX10_apply 132 = .ok (.iconst 1, 1) := by decide +kernel
theorem dX10_apply_133 : decode cX10_apply 133 = .ok (.iadd, 1) := by decide +kernel
theorem dX10_apply_134 : decode cX10_apply 134 = .ok (.putfield 88, 3) := by decide +kernel
theorem dX10_apply_137 : decode cX10_apply 137 = .ok (.aload_n 0, 1) := by decide +kernel
theorem dX10_apply_138 : decode cX10_apply 138 = .ok (.invokevirtual 209, 3) := by decide +kernel
theorem dX10_apply_141 : decode cX10_apply 141 = .ok (.aload_n 0, 1) := by decide +kernel
theorem dX10_apply_142 : decode cX10_apply 142 = .ok (.getfield 22, 3) := by decide +kernel
theorem dX10_apply_145 : decode cX10_apply 145 = .ok (.invokevirtual 212, 3) := by decide +kernel
theorem dX10_apply_148 : decode cX10_apply 148 = .ok (.pop, 1) := by decide +kernel
theorem dX10_apply_149 : decode cX10_apply 149 = .ok (.aload_n 0, 1) := by decide +kernel
theorem dX10_apply_150 : decode cX10_apply 150 = .ok (.getfield 12, 3) := by decide +kernel
theorem dX10_apply_153 : decode cX10_apply 153 = .ok (.getfield 115, 3) := by decide +kernel
theorem dX10_apply_156 : decode cX10_apply 156 = .ok (.invokevirtual 216, 3) := by decide +kernel
theorem dX10_apply_159 : decode cX10_apply 159 = .ok (.ireturn, 1) := by decide +kernel
abbrev cX10_forget : ByteArray := prog_1_method_11_code
def yX10_forget : MethodName := ⟨RX10, "forget", "()I"⟩
theorem dX10_forget_0 : decode cX10_forget 0 = .ok (.aload_n 0, 1) := by decide +kernel
theorem dX10_forget_1 : decode cX10_forget 1 = .ok (.getfield 22, 3) := by decide +kernel
theorem dX10_forget_4 : decode cX10_forget 4 = .ok (.invokevirtual 212, 3) := by decide +kernel
theorem dX10_forget_7 : decode cX10_forget 7 = .ok (.ireturn, 1) := by decide +kernel
abbrev cX10_made : ByteArray := prog_1_method_12_code
def yX10_made : MethodName := ⟨RX10, "made", "()I"⟩
theorem dX10_made_0 : decode cX10_made 0 = .ok (.aload_n 0, 1) := by decide +kernel
theorem dX10_made_1 : decode cX10_made 1 = .ok (.getfield 12, 3) := by decide +kernel
theorem dX10_made_4 : decode cX10_made 4 = .ok (.invokevirtual 219, 3) := by decide +kernel
theorem dX10_made_7 : decode cX10_made 7 = .ok (.ireturn, 1) := by decide +kernel
abbrev cX10_nodes : ByteArray := prog_1_method_13_code
def yX10_nodes : MethodName := ⟨RX10, "nodes", "()I"⟩
theorem dX10_nodes_0 : decode cX10_nodes 0 = .ok (.aload_n 0, 1) := by decide +kernel
theorem dX10_nodes_1 : decode cX10_nodes 1 = .ok (.getfield 12, 3) := by decide +kernel
theorem dX10_nodes_4 : decode cX10_nodes 4 = .ok (.getfield 115, 3) := by decide +kernel
theorem dX10_nodes_7 : decode cX10_nodes 7 = .ok (.invokevirtual 216, 3) := by decide +kernel
theorem dX10_nodes_10 : decode cX10_nodes 10 = .ok (.ireturn, 1) := by decide +kernel
abbrev cX10_isThere : ByteArray := prog_1_method_14_code
def yX10_isThere : MethodName := ⟨RX10, "isThere", "(I)Z"⟩
theorem dX10_isThere_0 : decode cX10_isThere 0 = .ok (.aload_n 0, 1) := by decide +kernel
theorem dX10_isThere_1 : decode cX10_isThere 1 = .ok (.getfield 12, 3) := by decide +kernel
theorem dX10_isThere_4 : decode cX10_isThere 4 = .ok (.getfield 115, 3) := by decide +kernel
theorem dX10_isThere_7 : decode cX10_isThere 7 = .ok (.iload_n 1, 1) := by decide +kernel
theorem dX10_isThere_8 : decode cX10_isThere 8 = .ok (.invokevirtual 222, 3) := by decide +kernel
theorem dX10_isThere_11 : decode cX10_isThere 11 = .ok (.ireturn, 1) := by decide +kernel
abbrev cX10_kind : ByteArray := prog_1_method_15_code
def yX10_kind : MethodName := ⟨RX10, "kind", "(I)I"⟩
theorem dX10_kind_0 : decode cX10_kind 0 = .ok (.aload_n 0, 1) := by decide +kernel
theorem dX10_kind_1 : decode cX10_kind 1 = .ok (.iload_n 1, 1) := by decide +kernel
theorem dX10_kind_2 : decode cX10_kind 2 = .ok (.invokevirtual 146, 3) := by decide +kernel
theorem dX10_kind_5 : decode cX10_kind 5 = .ok (.aload_n 0, 1) := by decide +kernel
theorem dX10_kind_6 : decode cX10_kind 6 = .ok (.getfield 12, 3) := by decide +kernel
theorem dX10_kind_9 : decode cX10_kind 9 = .ok (.getfield 159, 3) := by decide +kernel
theorem dX10_kind_12 : decode cX10_kind 12 = .ok (.iload_n 1, 1) := by decide +kernel
theorem dX10_kind_13 : decode cX10_kind 13 = .ok (.invokevirtual 162, 3) := by decide +kernel
theorem dX10_kind_16 : decode cX10_kind 16 = .ok (.ireturn, 1) := by decide +kernel
abbrev cX10_name : ByteArray := prog_1_method_16_code
def yX10_name : MethodName := ⟨RX10, "name", "(I)I"⟩
theorem dX10_name_0 : decode cX10_name 0 = .ok (.aload_n 0, 1) := by decide +kernel
theorem dX10_name_1 : decode cX10_name 1 = .ok (.iload_n 1, 1) := by decide +kernel
theorem dX10_name_2 : decode cX10_name 2 = .ok (.invokevirtual 146, 3) := by decide +kernel
theorem dX10_name_5 : decode cX10_name 5 = .ok (.aload_n 0, 1) := by decide +kernel
theorem dX10_name_6 : decode cX10_name 6 = .ok (.getfield 12, 3) := by decide +kernel
theorem dX10_name_9 : decode cX10_name 9 = .ok (.getfield 226, 3) := by decide +kernel
theorem dX10_name_12 : decode cX10_name 12 = .ok (.iload_n 1, 1) := by decide +kernel
theorem dX10_name_13 : decode cX10_name 13 = .ok (.invokevirtual 162, 3) := by decide +kernel
theorem dX10_name_16 : decode cX10_name 16 = .ok (.ireturn, 1) := by decide +kernel
abbrev cX10_value : ByteArray := prog_1_method_17_code
def yX10_value : MethodName := ⟨RX10, "value", "(I)I"⟩
theorem dX10_value_0 : decode cX10_value 0 = .ok (.aload_n 0, 1) := by decide +kernel
theorem dX10_value_1 : decode cX10_value 1 = .ok (.iload_n 1, 1) := by decide +kernel
theorem dX10_value_2 : decode cX10_value 2 = .ok (.invokevirtual 146, 3) := by decide +kernel
theorem dX10_value_5 : decode cX10_value 5 = .ok (.aload_n 0, 1) := by decide +kernel
theorem dX10_value_6 : decode cX10_value 6 = .ok (.getfield 12, 3) := by decide +kernel
theorem dX10_value_9 : decode cX10_value 9 = .ok (.aload_n 0, 1) := by decide +kernel
theorem dX10_value_10 : decode cX10_value 10 = .ok (.getfield 12, 3) := by decide +kernel
theorem dX10_value_13 : decode cX10_value 13 = .ok (.getfield 115, 3) := by decide +kernel
theorem dX10_value_16 : decode cX10_value 16 = .ok (.iload_n 1, 1) := by decide +kernel
theorem dX10_value_17 : decode cX10_value 17 = .ok (.invokevirtual 229, 3) := by decide +kernel
theorem dX10_value_20 : decode cX10_value 20 = .ok (.aload_n 0, 1) := by decide +kernel
theorem dX10_value_21 : decode cX10_value 21 = .ok (.getfield 12, 3) := by decide +kernel
theorem dX10_value_24 : decode cX10_value 24 = .ok (.getfield 115, 3) := by decide +kernel
theorem dX10_value_27 : decode cX10_value 27 = .ok (.invokevirtual 119, 3) := by decide +kernel
theorem dX10_value_30 : decode cX10_value 30 = .ok (.invokevirtual 232, 3) := by decide +kernel
theorem dX10_value_33 : decode cX10_value 33 = .ok (.ireturn, 1) := by decide +kernel
abbrev cX10_parent : ByteArray := prog_1_method_18_code
def yX10_parent : MethodName := ⟨RX10, "parent", "(I)I"⟩
theorem dX10_parent_0 : decode cX10_parent 0 = .ok (.aload_n 0, 1) := by decide +kernel
theorem dX10_parent_1 : decode cX10_parent 1 = .ok (.iload_n 1, 1) := by decide +kernel
theorem dX10_parent_2 : decode cX10_parent 2 = .ok (.invokevirtual 146, 3) := by decide +kernel
theorem dX10_parent_5 : decode cX10_parent 5 = .ok (.aload_n 0, 1) := by decide +kernel
theorem dX10_parent_6 : decode cX10_parent 6 = .ok (.getfield 12, 3) := by decide +kernel
theorem dX10_parent_9 : decode cX10_parent 9 = .ok (.getfield 236, 3) := by decide +kernel
theorem dX10_parent_12 : decode cX10_parent 12 = .ok (.iload_n 1, 1) := by decide +kernel
theorem dX10_parent_13 : decode cX10_parent 13 = .ok (.invokevirtual 162, 3) := by decide +kernel
theorem dX10_parent_16 : decode cX10_parent 16 = .ok (.ireturn, 1) := by decide +kernel
abbrev cX10_needNotNegative : ByteArray := prog_1_method_60_code
def yX10_needNotNegative : MethodName := ⟨RX10, "needNotNegative", "(I)V"⟩
theorem dX10_needNotNegative_0 : decode cX10_needNotNegative 0 = .ok (.iload_n 1, 1) := by decide +kernel
theorem dX10_needNotNegative_1 : decode cX10_needNotNegative 1 = .ok (.ifCond .ge 14, 3) := by decide +kernel
theorem dX10_needNotNegative_4 : decode cX10_needNotNegative 4 = .ok (.new 440, 3) := by decide +kernel
theorem dX10_needNotNegative_7 : decode cX10_needNotNegative 7 = .ok (.dup, 1) := by decide +kernel
theorem dX10_needNotNegative_8 : decode cX10_needNotNegative 8 = .ok (.ldc_w 452, 3) := by decide +kernel
theorem dX10_needNotNegative_11 : decode cX10_needNotNegative 11 = .ok (.invokespecial 444, 3) := by decide +kernel
theorem dX10_needNotNegative_14 : decode cX10_needNotNegative 14 = .ok (.athrow, 1) := by decide +kernel
theorem dX10_needNotNegative_15 : decode cX10_needNotNegative 15 = .ok (.return_, 1) := by decide +kernel
abbrev cX10_child : ByteArray := prog_1_method_19_code
def yX10_child : MethodName := ⟨RX10, "child", "(II)I"⟩
theorem dX10_child_0 : decode cX10_child 0 = .ok (.aload_n 0, 1) := by decide +kernel
theorem dX10_child_1 : decode cX10_child 1 = .ok (.iload_n 1, 1) := by decide +kernel
theorem dX10_child_2 : decode cX10_child 2 = .ok (.invokevirtual 146, 3) := by decide +kernel
theorem dX10_child_5 : decode cX10_child 5 = .ok (.aload_n 0, 1) := by decide +kernel
theorem dX10_child_6 : decode cX10_child 6 = .ok (.iload_n 2, 1) := by decide +kernel
theorem dX10_child_7 : decode cX10_child 7 = .ok (.invokevirtual 239, 3) := by decide +kernel
theorem dX10_child_10 : decode cX10_child 10 = .ok (.aload_n 0, 1) := by decide +kernel
theorem dX10_child_11 : decode cX10_child 11 = .ok (.getfield 12, 3) := by decide +kernel
theorem dX10_child_14 : decode cX10_child 14 = .ok (.getfield 115, 3) := by decide +kernel
theorem dX10_child_17 : decode cX10_child 17 = .ok (.aload_n 0, 1) := by decide +kernel
theorem dX10_child_18 : decode cX10_child 18 = .ok (.getfield 12, 3) := by decide +kernel
theorem dX10_child_21 : decode cX10_child 21 = .ok (.getfield 115, 3) := by decide +kernel
theorem dX10_child_24 : decode cX10_child 24 = .ok (.aload_n 0, 1) := by decide +kernel
theorem dX10_child_25 : decode cX10_child 25 = .ok (.getfield 12, 3) := by decide +kernel
theorem dX10_child_28 : decode cX10_child 28 = .ok (.getfield 115, 3) := by decide +kernel
theorem dX10_child_31 : decode cX10_child 31 = .ok (.iload_n 1, 1) := by decide +kernel
theorem dX10_child_32 : decode cX10_child 32 = .ok (.invokevirtual 229, 3) := by decide +kernel
theorem dX10_child_35 : decode cX10_child 35 = .ok (.invokevirtual 242, 3) := by decide +kernel
theorem dX10_child_38 : decode cX10_child 38 = .ok (.iload_n 2, 1) := by decide +kernel
theorem dX10_child_39 : decode cX10_child 39 = .ok (.invokevirtual 246, 3) := by decide +kernel
theorem dX10_child_42 : decode cX10_child 42 = .ok (.ireturn, 1) := by decide +kernel
abbrev cX10_space : ByteArray := prog_1_method_20_code
def yX10_space : MethodName := ⟨RX10, "space", "(I)I"⟩
theorem dX10_space_0 : decode cX10_space 0 = .ok (.aload_n 0, 1) := by decide +kernel
theorem dX10_space_1 : decode cX10_space 1 = .ok (.iload_n 1, 1) := by decide +kernel
theorem dX10_space_2 : decode cX10_space 2 = .ok (.invokevirtual 146, 3) := by decide +kernel
theorem dX10_space_5 : decode cX10_space 5 = .ok (.aload_n 0, 1) := by decide +kernel
theorem dX10_space_6 : decode cX10_space 6 = .ok (.getfield 12, 3) := by decide +kernel
theorem dX10_space_9 : decode cX10_space 9 = .ok (.getfield 115, 3) := by decide +kernel
theorem dX10_space_12 : decode cX10_space 12 = .ok (.aload_n 0, 1) := by decide +kernel
theorem dX10_space_13 : decode cX10_space 13 = .ok (.getfield 12, 3) := by decide +kernel
theorem dX10_space_16 : decode cX10_space 16 = .ok (.getfield 115, 3) := by decide +kernel
theorem dX10_space_19 : decode cX10_space 19 = .ok (.iload_n 1, 1) := by decide +kernel
theorem dX10_space_20 : decode cX10_space 20 = .ok (.invokevirtual 229, 3) := by decide +kernel
theorem dX10_space_23 : decode cX10_space 23 = .ok (.invokevirtual 250, 3) := by decide +kernel
theorem dX10_space_26 : decode cX10_space 26 = .ok (.ireturn, 1) := by decide +kernel
abbrev cX10_number : ByteArray := prog_1_method_21_code
def yX10_number : MethodName := ⟨RX10, "number", "(I)I"⟩
theorem dX10_number_0 : decode cX10_number 0 = .ok (.aload_n 0, 1) := by decide +kernel
theorem dX10_number_1 : decode cX10_number 1 = .ok (.iload_n 1, 1) := by decide +kernel
theorem dX10_number_2 : decode cX10_number 2 = .ok (.invokevirtual 146, 3) := by decide +kernel
theorem dX10_number_5 : decode cX10_number 5 = .ok (.aload_n 0, 1) := by decide +kernel
theorem dX10_number_6 : decode cX10_number 6 = .ok (.getfield 12, 3) := by decide +kernel
theorem dX10_number_9 : decode cX10_number 9 = .ok (.getfield 253, 3) := by decide +kernel
theorem dX10_number_12 : decode cX10_number 12 = .ok (.iload_n 1, 1) := by decide +kernel
theorem dX10_number_13 : decode cX10_number 13 = .ok (.invokevirtual 162, 3) := by decide +kernel
theorem dX10_number_16 : decode cX10_number 16 = .ok (.ireturn, 1) := by decide +kernel
abbrev cX10_numbered : ByteArray := prog_1_method_22_code
def yX10_numbered : MethodName := ⟨RX10, "numbered", "()I"⟩
theorem dX10_numbered_0 : decode cX10_numbered 0 = .ok (.aload_n 0, 1) := by decide +kernel
theorem dX10_numbered_1 : decode cX10_numbered 1 = .ok (.getfield 88, 3) := by decide +kernel
theorem dX10_numbered_4 : decode cX10_numbered 4 = .ok (.ireturn, 1) := by decide +kernel
abbrev cX10_path : ByteArray := prog_1_method_23_code
def yX10_path : MethodName := ⟨RX10, "path", "()I"⟩
theorem dX10_path_0 : decode cX10_path 0 = .ok (.aload_n 0, 1) := by decide +kernel
theorem dX10_path_1 : decode cX10_path 1 = .ok (.getfield 29, 3) := by decide +kernel
theorem dX10_path_4 : decode cX10_path 4 = .ok (.invokevirtual 256, 3) := by decide +kernel
theorem dX10_path_7 : decode cX10_path 7 = .ok (.bipush 20, 2) := by decide +kernel
theorem dX10_path_9 : decode cX10_path 9 = .ok (.if_icmp .lt 14, 3) := by decide +kernel
theorem dX10_path_12 : decode cX10_path 12 = .ok (.new 149, 3) := by decide +kernel
theorem dX10_path_15 : decode cX10_path 15 = .ok (.dup, 1) := by decide +kernel
theorem dX10_path_16 : decode cX10_path 16 = .ok (.ldc_w 257, 3) := by decide +kernel
theorem dX10_path_19 : decode cX10_path 19 = .ok (.invokespecial 153, 3) := by decide +kernel
theorem dX10_path_22 : decode cX10_path 22 = .ok (.athrow, 1) := by decide +kernel
theorem dX10_path_23 : decode cX10_path 23 = .ok (.aload_n 0, 1) := by decide +kernel
theorem dX10_path_24 : decode cX10_path 24 = .ok (.getfield 29, 3) := by decide +kernel
theorem dX10_path_27 : decode cX10_path 27 = .ok (.invokevirtual 259, 3) := by decide +kernel
theorem dX10_path_30 : decode cX10_path 30 = .ok (.ireturn, 1) := by decide +kernel
abbrev cX10_needPath : ByteArray := prog_1_method_65_code
def yX10_needPath : MethodName := ⟨RX10, "needPath", "(I)V"⟩
theorem dX10_needPath_0 : decode cX10_needPath 0 = .ok (.iload_n 1, 1) := by decide +kernel
theorem dX10_needPath_1 : decode cX10_needPath 1 = .ok (.ifCond .lt 14, 3) := by decide +kernel
theorem dX10_needPath_4 : decode cX10_needPath 4 = .ok (.iload_n 1, 1) := by decide +kernel
theorem dX10_needPath_5 : decode cX10_needPath 5 = .ok (.aload_n 0, 1) := by decide +kernel
theorem dX10_needPath_6 : decode cX10_needPath 6 = .ok (.getfield 29, 3) := by decide +kernel
theorem dX10_needPath_9 : decode cX10_needPath 9 = .ok (.invokevirtual 256, 3) := by decide +kernel
theorem dX10_needPath_12 : decode cX10_needPath 12 = .ok (.if_icmp .lt 14, 3) := by decide +kernel
theorem dX10_needPath_15 : decode cX10_needPath 15 = .ok (.new 440, 3) := by decide +kernel
theorem dX10_needPath_18 : decode cX10_needPath 18 = .ok (.dup, 1) := by decide +kernel
theorem dX10_needPath_19 : decode cX10_needPath 19 = .ok (.ldc_w 462, 3) := by decide +kernel
theorem dX10_needPath_22 : decode cX10_needPath 22 = .ok (.invokespecial 444, 3) := by decide +kernel
theorem dX10_needPath_25 : decode cX10_needPath 25 = .ok (.athrow, 1) := by decide +kernel
theorem dX10_needPath_26 : decode cX10_needPath 26 = .ok (.return_, 1) := by decide +kernel
abbrev cX10_needLower : ByteArray := prog_1_method_66_code
def yX10_needLower : MethodName := ⟨RX10, "needLower", "(II)V"⟩
theorem dX10_needLower_0 : decode cX10_needLower 0 = .ok (.iload_n 2, 1) := by decide +kernel
theorem dX10_needLower_1 : decode cX10_needLower 1 = .ok (.ifCond .lt 8, 3) := by decide +kernel
theorem dX10_needLower_4 : decode cX10_needLower 4 = .ok (.iload_n 2, 1) := by decide +kernel
theorem dX10_needLower_5 : decode cX10_needLower 5 = .ok (.iload_n 1, 1) := by decide +kernel
theorem dX10_needLower_6 : decode cX10_needLower 6 = .ok (.if_icmp .lt 14, 3) := by decide +kernel
theorem dX10_needLower_9 : decode cX10_needLower 9 = .ok (.new 440, 3) := by decide +kernel
theorem dX10_needLower_12 : decode cX10_needLower 12 = .ok (.dup, 1) := by decide +kernel
theorem dX10_needLower_13 : decode cX10_needLower 13 = .ok (.ldc_w 464, 3) := by decide +kernel
theorem dX10_needLower_16 : decode cX10_needLower 16 = .ok (.invokespecial 444, 3) := by decide +kernel
theorem dX10_needLower_19 : decode cX10_needLower 19 = .ok (.athrow, 1) := by decide +kernel
theorem dX10_needLower_20 : decode cX10_needLower 20 = .ok (.return_, 1) := by decide +kernel
abbrev cX10_needOpenPath : ByteArray := prog_1_method_67_code
def yX10_needOpenPath : MethodName := ⟨RX10, "needOpenPath", "(I)V"⟩
theorem dX10_needOpenPath_0 : decode cX10_needOpenPath 0 = .ok (.iload_n 1, 1) := by decide +kernel
theorem dX10_needOpenPath_1 : decode cX10_needOpenPath 1 = .ok (.aload_n 0, 1) := by decide +kernel
theorem dX10_needOpenPath_2 : decode cX10_needOpenPath 2 = .ok (.getfield 29, 3) := by decide +kernel
theorem dX10_needOpenPath_5 : decode cX10_needOpenPath 5 = .ok (.invokevirtual 256, 3) := by decide +kernel
theorem dX10_needOpenPath_8 : decode cX10_needOpenPath 8 = .ok (.iconst 1, 1) := by decide +kernel
theorem dX10_needOpenPath_9 : decode cX10_needOpenPath 9 = .ok (.isub, 1) := by decide +kernel
theorem dX10_needOpenPath_10 : decode cX10_needOpenPath 10 = .ok (.if_icmp .eq 14, 3) := by decide +kernel
theorem dX10_needOpenPath_13 : decode cX10_needOpenPath 13 = .ok (.new 149, 3) := by decide +kernel
theorem dX10_needOpenPath_16 : decode cX10_needOpenPath 16 = .ok (.dup, 1) := by decide +kernel
theorem dX10_needOpenPath_17 : decode cX10_needOpenPath 17 = .ok (.ldc_w 466, 3) := by decide +kernel
theorem dX10_needOpenPath_20 : decode cX10_needOpenPath 20 = .ok (.invokespecial 153, 3) := by decide +kernel
theorem dX10_needOpenPath_23 : decode cX10_needOpenPath 23 = .ok (.athrow, 1) := by decide +kernel
theorem dX10_needOpenPath_24 : decode cX10_needOpenPath 24 = .ok (.iconst 0, 1) := by decide +kernel
theorem dX10_needOpenPath_25 : decode cX10_needOpenPath 25 = .ok (.istore_n 2, 1) := by decide +kernel
theorem dX10_needOpenPath_26 : decode cX10_needOpenPath 26 = .ok (.iload_n 2, 1) := by decide +kernel
theorem dX10_needOpenPath_27 : decode cX10_needOpenPath 27 = .ok (.aload_n 0, 1) := by decide +kernel
theorem dX10_needOpenPath_28 : decode cX10_needOpenPath 28 = .ok (.getfield 85, 3) := by decide +kernel
theorem dX10_needOpenPath_31 : decode cX10_needOpenPath 31 = .ok (.if_icmp .ge 32, 3) := by decide +kernel
theorem dX10_needOpenPath_34 : decode cX10_needOpenPath 34 = .ok (.aload_n 0, 1) := by decide +kernel
theorem dX10_needOpenPath_35 : decode cX10_needOpenPath 35 = .ok (.getfield 61, 3) := by decide +kernel
theorem dX10_needOpenPath_38 : decode cX10_needOpenPath 38 = .ok (.iload_n 2, 1) := by decide +kernel
theorem dX10_needOpenPath_39 : decode cX10_needOpenPath 39 = .ok (.invokevirtual 162, 3) := by decide +kernel
theorem dX10_needOpenPath_42 : decode cX10_needOpenPath 42 = .ok (.iload_n 1, 1) := by decide +kernel
theorem dX10_needOpenPath_43 : decode cX10_needOpenPath 43 = .ok (.if_icmp .ne 14, 3) := by decide +kernel
theorem dX10_needOpenPath_46 : decode cX10_needOpenPath 46 = .ok (.new 149, 3) := by decide +kernel
theorem dX10_needOpenPath_49 : decode cX10_needOpenPath 49 = .ok (.dup, 1) := by decide +kernel
theorem dX10_needOpenPath_50 : decode cX10_needOpenPath 50 = .ok (.ldc_w 468, 3) := by decide +kernel
theorem dX10_needOpenPath_53 : decode cX10_needOpenPath 53 = .ok (.invokespecial 153, 3) := by decide +kernel
theorem dX10_needOpenPath_56 : decode cX10_needOpenPath 56 = .ok (.athrow, 1) := by decide +kernel
theorem dX10_needOpenPath_57 : decode cX10_needOpenPath 57 = .ok (.iinc 2 1, 3) := by decide +kernel
theorem dX10_needOpenPath_60 : decode cX10_needOpenPath 60 = .ok (.goto (-34), 3) := by decide +kernel
theorem dX10_needOpenPath_63 : decode cX10_needOpenPath 63 = .ok (.return_, 1) := by decide +kernel
abbrev cX10_noteChangeOf : ByteArray := prog_1_method_72_code
def yX10_noteChangeOf : MethodName := ⟨RX10, "noteChangeOf", "(I)V"⟩
theorem dX10_noteChangeOf_0 : decode cX10_noteChangeOf 0 = .ok (.aload_n 0, 1) := by decide +kernel
theorem dX10_noteChangeOf_1 : decode cX10_noteChangeOf 1 = .ok (.getfield 38, 3) := by decide +kernel
theorem dX10_noteChangeOf_4 : decode cX10_noteChangeOf 4 = .ok (.iload_n 1, 1) := by decide +kernel
theorem dX10_noteChangeOf_5 : decode cX10_noteChangeOf 5 = .ok (.invokevirtual 483, 3) := by decide +kernel
theorem dX10_noteChangeOf_8 : decode cX10_noteChangeOf 8 = .ok (.aload_n 0, 1) := by decide +kernel
theorem dX10_noteChangeOf_9 : decode cX10_noteChangeOf 9 = .ok (.getfield 42, 3) := by decide +kernel
theorem dX10_noteChangeOf_12 : decode cX10_noteChangeOf 12 = .ok (.iload_n 1, 1) := by decide +kernel
theorem dX10_noteChangeOf_13 : decode cX10_noteChangeOf 13 = .ok (.invokevirtual 483, 3) := by decide +kernel
theorem dX10_noteChangeOf_16 : decode cX10_noteChangeOf 16 = .ok (.aload_n 0, 1) := by decide +kernel
theorem dX10_noteChangeOf_17 : decode cX10_noteChangeOf 17 = .ok (.getfield 91, 3) := by decide +kernel
theorem dX10_noteChangeOf_20 : decode cX10_noteChangeOf 20 = .ok (.iload_n 1, 1) := by decide +kernel
theorem dX10_noteChangeOf_21 : decode cX10_noteChangeOf 21 = .ok (.invokestatic 315, 3) := by decide +kernel
theorem dX10_noteChangeOf_24 : decode cX10_noteChangeOf 24 = .ok (.ifCond .eq 8, 3) := by decide +kernel
theorem dX10_noteChangeOf_27 : decode cX10_noteChangeOf 27 = .ok (.aload_n 0, 1) := by decide +kernel
theorem dX10_noteChangeOf_28 : decode cX10_noteChangeOf 28 = .ok (.iconst 1, 1) := by decide +kernel
theorem dX10_noteChangeOf_29 : decode cX10_noteChangeOf 29 = .ok (.putfield 102, 3) := by decide +kernel
theorem dX10_noteChangeOf_32 : decode cX10_noteChangeOf 32 = .ok (.return_, 1) := by decide +kernel
abbrev cX10_step : ByteArray := prog_1_method_24_code
def yX10_step : MethodName := ⟨RX10, "step", "(IIII)I"⟩
theorem dX10_step_0 : decode cX10_step 0 = .ok (.aload_n 0, 1) := by decide +kernel
theorem dX10_step_1 : decode cX10_step 1 = .ok (.iload_n 1, 1) := by decide +kernel
theorem dX10_step_2 : decode cX10_step 2 = .ok (.invokevirtual 262, 3) := by decide +kernel
theorem dX10_step_5 : decode cX10_step 5 = .ok (.iload_n 2, 1) := by decide +kernel
theorem dX10_step_6 : decode cX10_step 6 = .ok (.bipush 12, 2) := by decide +kernel
theorem dX10_step_8 : decode cX10_step 8 = .ok (.if_icmp .ne 10, 3) := by decide +kernel
theorem dX10_step_11 : decode cX10_step 11 = .ok (.aload_n 0, 1) := by decide +kernel
theorem dX10_step_12 : decode cX10_step 12 = .ok (.iload_n 1, 1) := by decide +kernel
theorem dX10_step_13 : decode cX10_step 13 = .ok (.iload 4, 2) := by decide +kernel
theorem dX10_step_15 : decode cX10_step 15 = .ok (.invokevirtual 265, 3) := by decide +kernel
theorem dX10_step_18 : decode cX10_step 18 = .ok (.aload_n 0, 1) := by decide +kernel
theorem dX10_step_19 : decode cX10_step 19 = .ok (.iload_n 2, 1) := by decide +kernel
theorem dX10_step_20 : decode cX10_step 20 = .ok (.iconst 0, 1) := by decide +kernel
theorem dX10_step_21 : decode cX10_step 21 = .ok (.bipush 12, 2) := by decide +kernel
theorem dX10_step_23 : decode cX10_step 23 = .ok (.invokevirtual 132, 3) := by decide +kernel
theorem dX10_step_26 : decode cX10_step 26 = .ok (.aload_n 0, 1) := by decide +kernel
theorem dX10_step_27 : decode cX10_step 27 = .ok (.iload_n 3, 1) := by decide +kernel
theorem dX10_step_28 : decode cX10_step 28 = .ok (.iconst 0, 1) := by decide +kernel
theorem dX10_step_29 : decode cX10_step 29 = .ok (.bipush 13, 2) := by decide +kernel
theorem dX10_step_31 : decode cX10_step 31 = .ok (.invokevirtual 132, 3) := by decide +kernel
theorem dX10_step_34 : decode cX10_step 34 = .ok (.iload_n 2, 1) := by decide +kernel
theorem dX10_step_35 : decode cX10_step 35 = .ok (.bipush 12, 2) := by decide +kernel
theorem dX10_step_37 : decode cX10_step 37 = .ok (.if_icmp .eq 20, 3) := by decide +kernel
theorem dX10_step_40 : decode cX10_step 40 = .ok (.iload 4, 2) := by decide +kernel
theorem dX10_step_42 : decode cX10_step 42 = .ok (.iconst (-1), 1) := by decide +kernel
theorem dX10_step_43 : decode cX10_step 43 = .ok (.if_icmp .eq 14, 3) := by decide +kernel
theorem dX10_step_46 : decode cX10_step 46 = .ok (.new 268, 3) := by decide +kernel
theorem dX10_step_49 : decode cX10_step 49 = .ok (.dup, 1) := by decide +kernel
theorem dX10_step_50 : decode cX10_step 50 = .ok (.ldc_w 270, 3) := by decide +kernel
theorem dX10_step_53 : decode cX10_step 53 = .ok (.invokespecial 272, 3) := by decide +kernel
theorem dX10_step_56 : decode cX10_step 56 = .ok (.athrow, 1) := by decide +kernel
theorem dX10_step_57 : decode cX10_step 57 = .ok (.aload_n 0, 1) := by decide +kernel
theorem dX10_step_58 : decode cX10_step 58 = .ok (.iload_n 1, 1) := by decide +kernel
theorem dX10_step_59 : decode cX10_step 59 = .ok (.invokevirtual 273, 3) := by decide +kernel
theorem dX10_step_62 : decode cX10_step 62 = .ok (.aload_n 0, 1) := by decide +kernel
theorem dX10_step_63 : decode cX10_step 63 = .ok (.getfield 29, 3) := by decide +kernel
theorem dX10_step_66 : decode cX10_step 66 = .ok (.iload_n 1, 1) := by decide +kernel
theorem dX10_step_67 : decode cX10_step 67 = .ok (.invokevirtual 276, 3) := by decide +kernel
theorem dX10_step_70 : decode cX10_step 70 = .ok (.iconst 5, 1) := by decide +kernel
theorem dX10_step_71 : decode cX10_step 71 = .ok (.if_icmp .lt 14, 3) := by decide +kernel
theorem dX10_step_74 : decode cX10_step 74 = .ok (.new 149, 3) := by decide +kernel
theorem dX10_step_77 : decode cX10_step 77 = .ok (.dup, 1) := by decide +kernel
theorem dX10_step_78 : decode cX10_step 78 = .ok (.ldc_w 279, 3) := by decide +kernel
theorem dX10_step_81 : decode cX10_step 81 = .ok (.invokespecial 153, 3) := by decide +kernel
theorem dX10_step_84 : decode cX10_step 84 = .ok (.athrow, 1) := by decide +kernel
theorem dX10_step_85 : decode cX10_step 85 = .ok (.aload_n 0, 1) := by decide +kernel
theorem dX10_step_86 : decode cX10_step 86 = .ok (.iload_n 1, 1) := by decide +kernel
theorem dX10_step_87 : decode cX10_step 87 = .ok (.invokevirtual 281, 3) := by decide +kernel
theorem dX10_step_90 : decode cX10_step 90 = .ok (.aload_n 0, 1) := by decide +kernel
theorem dX10_step_91 : decode cX10_step 91 = .ok (.getfield 29, 3) := by decide +kernel
theorem dX10_step_94 : decode cX10_step 94 = .ok (.iload_n 1, 1) := by decide +kernel
theorem dX10_step_95 : decode cX10_step 95 = .ok (.iload_n 2, 1) := by decide +kernel
theorem dX10_step_96 : decode cX10_step 96 = .ok (.iload_n 3, 1) := by decide +kernel
theorem dX10_step_97 : decode cX10_step 97 = .ok (.iload 4, 2) := by decide +kernel
theorem dX10_step_99 : decode cX10_step 99 = .ok (.invokevirtual 284, 3) := by decide +kernel
theorem dX10_step_102 : decode cX10_step 102 = .ok (.ireturn, 1) := by decide +kernel
abbrev cX10_needOpenStep : ByteArray := prog_1_method_68_code
def yX10_needOpenStep : MethodName := ⟨RX10, "needOpenStep", "(I)V"⟩
theorem dX10_needOpenStep_0 : decode cX10_needOpenStep 0 = .ok (.aload_n 0, 1) := by decide +kernel
theorem dX10_needOpenStep_1 : decode cX10_needOpenStep 1 = .ok (.iload_n 1, 1) := by decide +kernel
theorem dX10_needOpenStep_2 : decode cX10_needOpenStep 2 = .ok (.invokevirtual 273, 3) := by decide +kernel
theorem dX10_needOpenStep_5 : decode cX10_needOpenStep 5 = .ok (.aload_n 0, 1) := by decide +kernel
theorem dX10_needOpenStep_6 : decode cX10_needOpenStep 6 = .ok (.getfield 29, 3) := by decide +kernel
theorem dX10_needOpenStep_9 : decode cX10_needOpenStep 9 = .ok (.iload_n 1, 1) := by decide +kernel
theorem dX10_needOpenStep_10 : decode cX10_needOpenStep 10 = .ok (.invokevirtual 276, 3) := by decide +kernel
theorem dX10_needOpenStep_13 : decode cX10_needOpenStep 13 = .ok (.iconst 1, 1) := by decide +kernel
theorem dX10_needOpenStep_14 : decode cX10_needOpenStep 14 = .ok (.if_icmp .ge 14, 3) := by decide +kernel
theorem dX10_needOpenStep_17 : decode cX10_needOpenStep 17 = .ok (.new 149, 3) := by decide +kernel
theorem dX10_needOpenStep_20 : decode cX10_needOpenStep 20 = .ok (.dup, 1) := by decide +kernel
theorem dX10_needOpenStep_21 : decode cX10_needOpenStep 21 = .ok (.ldc_w 470, 3) := by decide +kernel
theorem dX10_needOpenStep_24 : decode cX10_needOpenStep 24 = .ok (.invokespecial 153, 3) := by decide +kernel
theorem dX10_needOpenStep_27 : decode cX10_needOpenStep 27 = .ok (.athrow, 1) := by decide +kernel
theorem dX10_needOpenStep_28 : decode cX10_needOpenStep 28 = .ok (.aload_n 0, 1) := by decide +kernel
theorem dX10_needOpenStep_29 : decode cX10_needOpenStep 29 = .ok (.getfield 29, 3) := by decide +kernel
theorem dX10_needOpenStep_32 : decode cX10_needOpenStep 32 = .ok (.iload_n 1, 1) := by decide +kernel
theorem dX10_needOpenStep_33 : decode cX10_needOpenStep 33 = .ok (.invokevirtual 472, 3) := by decide +kernel
theorem dX10_needOpenStep_36 : decode cX10_needOpenStep 36 = .ok (.iconst 2, 1) := by decide +kernel
theorem dX10_needOpenStep_37 : decode cX10_needOpenStep 37 = .ok (.if_icmp .lt 14, 3) := by decide +kernel
theorem dX10_needOpenStep_40 : decode cX10_needOpenStep 40 = .ok (.new 149, 3) := by decide +kernel
theorem dX10_needOpenStep_43 : decode cX10_needOpenStep 43 = .ok (.dup, 1) := by decide +kernel
theorem dX10_needOpenStep_44 : decode cX10_needOpenStep 44 = .ok (.ldc_w 475, 3) := by decide +kernel
theorem dX10_needOpenStep_47 : decode cX10_needOpenStep 47 = .ok (.invokespecial 153, 3) := by decide +kernel
theorem dX10_needOpenStep_50 : decode cX10_needOpenStep 50 = .ok (.athrow, 1) := by decide +kernel
theorem dX10_needOpenStep_51 : decode cX10_needOpenStep 51 = .ok (.return_, 1) := by decide +kernel
abbrev cX10_place : ByteArray := prog_1_method_25_code
def yX10_place : MethodName := ⟨RX10, "place", "(III)I"⟩
theorem dX10_place_0 : decode cX10_place 0 = .ok (.aload_n 0, 1) := by decide +kernel
theorem dX10_place_1 : decode cX10_place 1 = .ok (.iload_n 1, 1) := by decide +kernel
theorem dX10_place_2 : decode cX10_place 2 = .ok (.invokevirtual 262, 3) := by decide +kernel
theorem dX10_place_5 : decode cX10_place 5 = .ok (.aload_n 0, 1) := by decide +kernel
theorem dX10_place_6 : decode cX10_place 6 = .ok (.iload_n 2, 1) := by decide +kernel
theorem dX10_place_7 : decode cX10_place 7 = .ok (.iconst 0, 1) := by decide +kernel
theorem dX10_place_8 : decode cX10_place 8 = .ok (.iconst 2, 1) := by decide +kernel
theorem dX10_place_9 : decode cX10_place 9 = .ok (.invokevirtual 132, 3) := by decide +kernel
theorem dX10_place_12 : decode cX10_place 12 = .ok (.aload_n 0, 1) := by decide +kernel
theorem dX10_place_13 : decode cX10_place 13 = .ok (.iload_n 3, 1) := by decide +kernel
theorem dX10_place_14 : decode cX10_place 14 = .ok (.iconst 0, 1) := by decide +kernel
theorem dX10_place_15 : decode cX10_place 15 = .ok (.bipush 99, 2) := by decide +kernel
theorem dX10_place_17 : decode cX10_place 17 = .ok (.invokevirtual 132, 3) := by decide +kernel
theorem dX10_place_20 : decode cX10_place 20 = .ok (.aload_n 0, 1) := by decide +kernel
theorem dX10_place_21 : decode cX10_place 21 = .ok (.iload_n 1, 1) := by decide +kernel
theorem dX10_place_22 : decode cX10_place 22 = .ok (.invokevirtual 288, 3) := by decide +kernel
theorem dX10_place_25 : decode cX10_place 25 = .ok (.aload_n 0, 1) := by decide +kernel
theorem dX10_place_26 : decode cX10_place 26 = .ok (.iload_n 1, 1) := by decide +kernel
theorem dX10_place_27 : decode cX10_place 27 = .ok (.invokevirtual 281, 3) := by decide +kernel
theorem dX10_place_30 : decode cX10_place 30 = .ok (.aload_n 0, 1) := by decide +kernel
theorem dX10_place_31 : decode cX10_place 31 = .ok (.getfield 29, 3) := by decide +kernel
theorem dX10_place_34 : decode cX10_place 34 = .ok (.iload_n 1, 1) := by decide +kernel
theorem dX10_place_35 : decode cX10_place 35 = .ok (.iconst 0, 1) := by decide +kernel
theorem dX10_place_36 : decode cX10_place 36 = .ok (.iconst (-1), 1) := by decide +kernel
theorem dX10_place_37 : decode cX10_place 37 = .ok (.iload_n 2, 1) := by decide +kernel
theorem dX10_place_38 : decode cX10_place 38 = .ok (.iload_n 3, 1) := by decide +kernel
theorem dX10_place_39 : decode cX10_place 39 = .ok (.invokevirtual 291, 3) := by decide +kernel
theorem dX10_place_42 : decode cX10_place 42 = .ok (.ireturn, 1) := by decide +kernel
abbrev cX10_last : ByteArray := prog_1_method_26_code
def yX10_last : MethodName := ⟨RX10, "last", "(I)I"⟩
theorem dX10_last_0 : decode cX10_last 0 = .ok (.aload_n 0, 1) := by decide +kernel
theorem dX10_last_1 : decode cX10_last 1 = .ok (.iload_n 1, 1) := by decide +kernel
theorem dX10_last_2 : decode cX10_last 2 = .ok (.invokevirtual 262, 3) := by decide +kernel
theorem dX10_last_5 : decode cX10_last 5 = .ok (.aload_n 0, 1) := by decide +kernel
theorem dX10_last_6 : decode cX10_last 6 = .ok (.iload_n 1, 1) := by decide +kernel
theorem dX10_last_7 : decode cX10_last 7 = .ok (.invokevirtual 288, 3) := by decide +kernel
theorem dX10_last_10 : decode cX10_last 10 = .ok (.aload_n 0, 1) := by decide +kernel
theorem dX10_last_11 : decode cX10_last 11 = .ok (.iload_n 1, 1) := by decide +kernel
theorem dX10_last_12 : decode cX10_last 12 = .ok (.invokevirtual 281, 3) := by decide +kernel
theorem dX10_last_15 : decode cX10_last 15 = .ok (.aload_n 0, 1) := by decide +kernel
theorem dX10_last_16 : decode cX10_last 16 = .ok (.getfield 29, 3) := by decide +kernel
theorem dX10_last_19 : decode cX10_last 19 = .ok (.iload_n 1, 1) := by decide +kernel
theorem dX10_last_20 : decode cX10_last 20 = .ok (.iconst 1, 1) := by decide +kernel
theorem dX10_last_21 : decode cX10_last 21 = .ok (.iconst (-1), 1) := by decide +kernel
theorem dX10_last_22 : decode cX10_last 22 = .ok (.iconst (-1), 1) := by decide +kernel
theorem dX10_last_23 : decode cX10_last 23 = .ok (.iconst (-1), 1) := by decide +kernel
theorem dX10_last_24 : decode cX10_last 24 = .ok (.invokevirtual 291, 3) := by decide +kernel
theorem dX10_last_27 : decode cX10_last 27 = .ok (.ireturn, 1) := by decide +kernel
abbrev cX10_has : ByteArray := prog_1_method_27_code
def yX10_has : MethodName := ⟨RX10, "has", "(IIZ)I"⟩
theorem dX10_has_0 : decode cX10_has 0 = .ok (.aload_n 0, 1) := by decide +kernel
theorem dX10_has_1 : decode cX10_has 1 = .ok (.iload_n 1, 1) := by decide +kernel
theorem dX10_has_2 : decode cX10_has 2 = .ok (.invokevirtual 262, 3) := by decide +kernel
theorem dX10_has_5 : decode cX10_has 5 = .ok (.aload_n 0, 1) := by decide +kernel
theorem dX10_has_6 : decode cX10_has 6 = .ok (.iload_n 1, 1) := by decide +kernel
theorem dX10_has_7 : decode cX10_has 7 = .ok (.iload_n 2, 1) := by decide +kernel
theorem dX10_has_8 : decode cX10_has 8 = .ok (.invokevirtual 265, 3) := by decide +kernel
theorem dX10_has_11 : decode cX10_has 11 = .ok (.aload_n 0, 1) := by decide +kernel
theorem dX10_has_12 : decode cX10_has 12 = .ok (.iload_n 1, 1) := by decide +kernel
theorem dX10_has_13 : decode cX10_has 13 = .ok (.invokevirtual 288, 3) := by decide +kernel
theorem dX10_has_16 : decode cX10_has 16 = .ok (.aload_n 0, 1) := by decide +kernel
theorem dX10_has_17 : decode cX10_has 17 = .ok (.iload_n 1, 1) := by decide +kernel
theorem dX10_has_18 : decode cX10_has 18 = .ok (.invokevirtual 281, 3) := by decide +kernel
theorem dX10_has_21 : decode cX10_has 21 = .ok (.aload_n 0, 1) := by decide +kernel
theorem dX10_has_22 : decode cX10_has 22 = .ok (.getfield 29, 3) := by decide +kernel
theorem dX10_has_25 : decode cX10_has 25 = .ok (.iload_n 1, 1) := by decide +kernel
theorem dX10_has_26 : decode cX10_has 26 = .ok (.iload_n 3, 1) := by decide +kernel
theorem dX10_has_27 : decode cX10_has 27 = .ok (.ifCond .eq 7, 3) := by decide +kernel
theorem dX10_has_30 : decode cX10_has 30 = .ok (.iconst 2, 1) := by decide +kernel
theorem dX10_has_31 : decode cX10_has 31 = .ok (.goto 4, 3) := by decide +kernel
theorem dX10_has_34 : decode cX10_has 34 = .ok (.iconst 3, 1) := by decide +kernel
theorem dX10_has_35 : decode cX10_has 35 = .ok (.iload_n 2, 1) := by decide +kernel
theorem dX10_has_36 : decode cX10_has 36 = .ok (.iconst (-1), 1) := by decide +kernel
theorem dX10_has_37 : decode cX10_has 37 = .ok (.iconst (-1), 1) := by decide +kernel
theorem dX10_has_38 : decode cX10_has 38 = .ok (.invokevirtual 291, 3) := by decide +kernel
theorem dX10_has_41 : decode cX10_has 41 = .ok (.ireturn, 1) := by decide +kernel
abbrev cX10_worth : ByteArray := prog_1_method_28_code
def yX10_worth : MethodName := ⟨RX10, "worth", "(IIII)I"⟩
theorem dX10_worth_0 : decode cX10_worth 0 = .ok (.aload_n 0, 1) := by decide +kernel
theorem dX10_worth_1 : decode cX10_worth 1 = .ok (.iload_n 1, 1) := by decide +kernel
theorem dX10_worth_2 : decode cX10_worth 2 = .ok (.invokevirtual 262, 3) := by decide +kernel
theorem dX10_worth_5 : decode cX10_worth 5 = .ok (.aload_n 0, 1) := by decide +kernel
theorem dX10_worth_6 : decode cX10_worth 6 = .ok (.iload_n 1, 1) := by decide +kernel
theorem dX10_worth_7 : decode cX10_worth 7 = .ok (.iload_n 2, 1) := by decide +kernel
theorem dX10_worth_8 : decode cX10_worth 8 = .ok (.invokevirtual 265, 3) := by decide +kernel
theorem dX10_worth_11 : decode cX10_worth 11 = .ok (.aload_n 0, 1) := by decide +kernel
theorem dX10_worth_12 : decode cX10_worth 12 = .ok (.iload_n 3, 1) := by decide +kernel
theorem dX10_worth_13 : decode cX10_worth 13 = .ok (.iconst 0, 1) := by decide +kernel
theorem dX10_worth_14 : decode cX10_worth 14 = .ok (.iconst 2, 1) := by decide +kernel
theorem dX10_worth_15 : decode cX10_worth 15 = .ok (.invokevirtual 132, 3) := by decide +kernel
theorem dX10_worth_18 : decode cX10_worth 18 = .ok (.aload_n 0, 1) := by decide +kernel
theorem dX10_worth_19 : decode cX10_worth 19 = .ok (.iload 4, 2) := by decide +kernel
theorem dX10_worth_21 : decode cX10_worth 21 = .ok (.iconst 0, 1) := by decide +kernel
theorem dX10_worth_22 : decode cX10_worth 22 = .ok (.sipush 999, 3) := by decide +kernel
theorem dX10_worth_25 : decode cX10_worth 25 = .ok (.invokevirtual 132, 3) := by decide +kernel
theorem dX10_worth_28 : decode cX10_worth 28 = .ok (.aload_n 0, 1) := by decide +kernel
theorem dX10_worth_29 : decode cX10_worth 29 = .ok (.iload_n 1, 1) := by decide +kernel
theorem dX10_worth_30 : decode cX10_worth 30 = .ok (.invokevirtual 288, 3) := by decide +kernel
theorem dX10_worth_33 : decode cX10_worth 33 = .ok (.aload_n 0, 1) := by decide +kernel
theorem dX10_worth_34 : decode cX10_worth 34 = .ok (.iload_n 1, 1) := by decide +kernel
theorem dX10_worth_35 : decode cX10_worth 35 = .ok (.invokevirtual 281, 3) := by decide +kernel
theorem dX10_worth_38 : decode cX10_worth 38 = .ok (.aload_n 0, 1) := by decide +kernel
theorem dX10_worth_39 : decode cX10_worth 39 = .ok (.getfield 29, 3) := by decide +kernel
theorem dX10_worth_42 : decode cX10_worth 42 = .ok (.iload_n 1, 1) := by decide +kernel
theorem dX10_worth_43 : decode cX10_worth 43 = .ok (.iconst 4, 1) := by decide +kernel
theorem dX10_worth_44 : decode cX10_worth 44 = .ok (.iload_n 2, 1) := by decide +kernel
theorem dX10_worth_45 : decode cX10_worth 45 = .ok (.iload_n 3, 1) := by decide +kernel
theorem dX10_worth_46 : decode cX10_worth 46 = .ok (.iload 4, 2) := by decide +kernel
theorem dX10_worth_48 : decode cX10_worth 48 = .ok (.invokevirtual 291, 3) := by decide +kernel
theorem dX10_worth_51 : decode cX10_worth 51 = .ok (.ireturn, 1) := by decide +kernel
abbrev cX10_paths : ByteArray := prog_1_method_29_code
def yX10_paths : MethodName := ⟨RX10, "paths", "()I"⟩
theorem dX10_paths_0 : decode cX10_paths 0 = .ok (.aload_n 0, 1) := by decide +kernel
theorem dX10_paths_1 : decode cX10_paths 1 = .ok (.getfield 29, 3) := by decide +kernel
theorem dX10_paths_4 : decode cX10_paths 4 = .ok (.invokevirtual 256, 3) := by decide +kernel
theorem dX10_paths_7 : decode cX10_paths 7 = .ok (.ireturn, 1) := by decide +kernel
abbrev cX10_readAsReader : ByteArray := prog_1_method_30_code
def yX10_readAsReader : MethodName := ⟨RX10, "readAsReader", "(Z)Z"⟩
theorem dX10_readAsReader_0 : decode cX10_readAsReader 0 = .ok (.aload_n 0, 1) := by decide +kernel
theorem dX10_readAsReader_1 : decode cX10_readAsReader 1 = .ok (.getfield 98, 3) := by decide +kernel
theorem dX10_readAsReader_4 : decode cX10_readAsReader 4 = .ok (.istore_n 2, 1) := by decide +kernel
theorem dX10_readAsReader_5 : decode cX10_readAsReader 5 = .ok (.aload_n 0, 1) := by decide +kernel
theorem dX10_readAsReader_6 : decode cX10_readAsReader 6 = .ok (.iload_n 1, 1) := by decide +kernel
theorem dX10_readAsReader_7 : decode cX10_readAsReader 7 = .ok (.putfield 98, 3) := by decide +kernel
theorem dX10_readAsReader_10 : decode cX10_readAsReader 10 = .ok (.iload_n 2, 1) := by decide +kernel
theorem dX10_readAsReader_11 : decode cX10_readAsReader 11 = .ok (.ireturn, 1) := by decide +kernel
abbrev cX10_refreshedReader : ByteArray := prog_1_method_75_code
def yX10_refreshedReader : MethodName := ⟨RX10, "refreshedReader", "()LTreequery$Finder;"⟩
theorem dX10_refreshedReader_0 : decode cX10_refreshedReader 0 = .ok (.aload_n 0, 1) := by decide +kernel
theorem dX10_refreshedReader_1 : decode cX10_refreshedReader 1 = .ok (.getfield 102, 3) := by decide +kernel
theorem dX10_refreshedReader_4 : decode cX10_refreshedReader 4 = .ok (.ifCond .ne 8, 3) := by decide +kernel
theorem dX10_refreshedReader_7 : decode cX10_refreshedReader 7 = .ok (.aload_n 0, 1) := by decide +kernel
theorem dX10_refreshedReader_8 : decode cX10_refreshedReader 8 = .ok (.getfield 42, 3) := by decide +kernel
theorem dX10_refreshedReader_11 : decode cX10_refreshedReader 11 = .ok (.areturn, 1) := by decide +kernel
theorem dX10_refreshedReader_12 : decode cX10_refreshedReader 12 = .ok (.lconst 0, 1) := by decide +kernel
theorem dX10_refreshedReader_13 : decode cX10_refreshedReader 13 = .ok (.lstore_n 1, 1) := by decide +kernel
theorem dX10_refreshedReader_14 : decode cX10_refreshedReader 14 = .ok (.iconst 0, 1) := by decide +kernel
theorem dX10_refreshedReader_15 : decode cX10_refreshedReader 15 = .ok (.istore_n 3, 1) := by decide +kernel
theorem dX10_refreshedReader_16 : decode cX10_refreshedReader 16 = .ok (.iload_n 3, 1) := by decide +kernel
theorem dX10_refreshedReader_17 : decode cX10_refreshedReader 17 = .ok (.aload_n 0, 1) := by decide +kernel
theorem dX10_refreshedReader_18 : decode cX10_refreshedReader 18 = .ok (.getfield 29, 3) := by decide +kernel
theorem dX10_refreshedReader_21 : decode cX10_refreshedReader 21 = .ok (.invokevirtual 256, 3) := by decide +kernel
theorem dX10_refreshedReader_24 : decode cX10_refreshedReader 24 = .ok (.if_icmp .ge 40, 3) := by decide +kernel
theorem dX10_refreshedReader_27 : decode cX10_refreshedReader 27 = .ok (.aload_n 0, 1) := by decide +kernel
theorem dX10_refreshedReader_28 : decode cX10_refreshedReader 28 = .ok (.getfield 91, 3) := by decide +kernel
theorem dX10_refreshedReader_31 : decode cX10_refreshedReader 31 = .ok (.iload_n 3, 1) := by decide +kernel
theorem dX10_refreshedReader_32 : decode cX10_refreshedReader 32 = .ok (.invokestatic 315, 3) := by decide +kernel
theorem dX10_refreshedReader_35 : decode cX10_refreshedReader 35 = .ok (.ifCond .eq 23, 3) := by decide +kernel
theorem dX10_refreshedReader_38 : decode cX10_refreshedReader 38 = .ok (.aload_n 0, 1) := by decide +kernel
theorem dX10_refreshedReader_39 : decode cX10_refreshedReader 39 = .ok (.getfield 38, 3) := by decide +kernel
theorem dX10_refreshedReader_42 : decode cX10_refreshedReader 42 = .ok (.iload_n 3, 1) := by decide +kernel
theorem dX10_refreshedReader_43 : decode cX10_refreshedReader 43 = .ok (.invokevirtual 302, 3) := by decide +kernel
theorem dX10_refreshedReader_46 : decode cX10_refreshedReader 46 = .ok (.lload_n 1, 1) := by decide +kernel
theorem dX10_refreshedReader_47 : decode cX10_refreshedReader 47 = .ok (.aload_n 0, 1) := by decide +kernel
theorem dX10_refreshedReader_48 : decode cX10_refreshedReader 48 = .ok (.getfield 38, 3) := by decide +kernel
theorem dX10_refreshedReader_51 : decode cX10_refreshedReader 51 = .ok (.iload_n 3, 1) := by decide +kernel
theorem dX10_refreshedReader_52 : decode cX10_refreshedReader 52 = .ok (.iconst 0, 1) := by decide +kernel
theorem dX10_refreshedReader_53 : decode cX10_refreshedReader 53 = .ok (.invokevirtual 305, 3) := by decide +kernel
theorem dX10_refreshedReader_56 : decode cX10_refreshedReader 56 = .ok (.lor, 1) := by decide +kernel
theorem dX10_refreshedReader_57 : decode cX10_refreshedReader 57 = .ok (.lstore_n 1, 1) := by decide +kernel
theorem dX10_refreshedReader_58 : decode cX10_refreshedReader 58 = .ok (.iinc 3 1, 3) := by decide +kernel
theorem dX10_refreshedReader_61 : decode cX10_refreshedReader 61 = .ok (.goto (-45), 3) := by decide +kernel
theorem dX10_refreshedReader_64 : decode cX10_refreshedReader 64 = .ok (.aload_n 0, 1) := by decide +kernel
theorem dX10_refreshedReader_65 : decode cX10_refreshedReader 65 = .ok (.getfield 12, 3) := by decide +kernel
theorem dX10_refreshedReader_68 : decode cX10_refreshedReader 68 = .ok (.getfield 115, 3) := by decide +kernel
theorem dX10_refreshedReader_71 : decode cX10_refreshedReader 71 = .ok (.lload_n 1, 1) := by decide +kernel
theorem dX10_refreshedReader_72 : decode cX10_refreshedReader 72 = .ok (.iconst 0, 1) := by decide +kernel
theorem dX10_refreshedReader_73 : decode cX10_refreshedReader 73 = .ok (.invokestatic 372, 3) := by decide +kernel
theorem dX10_refreshedReader_76 : decode cX10_refreshedReader 76 = .ok (.ldc2_w 498, 3) := by decide +kernel
theorem dX10_refreshedReader_79 : decode cX10_refreshedReader 79 = .ok (.lxor, 1) := by decide +kernel
theorem dX10_refreshedReader_80 : decode cX10_refreshedReader 80 = .ok (.land, 1) := by decide +kernel
theorem dX10_refreshedReader_81 : decode cX10_refreshedReader 81 = .ok (.invokevirtual 500, 3) := by decide +kernel
theorem dX10_refreshedReader_84 : decode cX10_refreshedReader 84 = .ok (.lstore_n 1, 1) := by decide +kernel
theorem dX10_refreshedReader_85 : decode cX10_refreshedReader 85 = .ok (.aload_n 0, 1) := by decide +kernel
theorem dX10_refreshedReader_86 : decode cX10_refreshedReader 86 = .ok (.getfield 42, 3) := by decide +kernel
theorem dX10_refreshedReader_89 : decode cX10_refreshedReader 89 = .ok (.aload_n 0, 1) := by decide +kernel
theorem dX10_refreshedReader_90 : decode cX10_refreshedReader 90 = .ok (.getfield 12, 3) := by decide +kernel
theorem dX10_refreshedReader_93 : decode cX10_refreshedReader 93 = .ok (.getfield 115, 3) := by decide +kernel
theorem dX10_refreshedReader_96 : decode cX10_refreshedReader 96 = .ok (.invokevirtual 119, 3) := by decide +kernel
theorem dX10_refreshedReader_99 : decode cX10_refreshedReader 99 = .ok (.lload_n 1, 1) := by decide +kernel
theorem dX10_refreshedReader_100 : decode cX10_refreshedReader 100 = .ok (.ldc2_w 498, 3) := by decide +kernel
theorem dX10_refreshedReader_103 : decode cX10_refreshedReader 103 = .ok (.lxor, 1) := by decide +kernel
theorem dX10_refreshedReader_104 : decode cX10_refreshedReader 104 = .ok (.land, 1) := by decide +kernel
theorem dX10_refreshedReader_105 : decode cX10_refreshedReader 105 = .ok (.invokevirtual 125, 3) := by decide +kernel
theorem dX10_refreshedReader_108 : decode cX10_refreshedReader 108 = .ok (.aload_n 0, 1) := by decide +kernel
theorem dX10_refreshedReader_109 : decode cX10_refreshedReader 109 = .ok (.iconst 0, 1) := by decide +kernel
theorem dX10_refreshedReader_110 : decode cX10_refreshedReader 110 = .ok (.putfield 102, 3) := by decide +kernel
theorem dX10_refreshedReader_113 : decode cX10_refreshedReader 113 = .ok (.aload_n 0, 1) := by decide +kernel
theorem dX10_refreshedReader_114 : decode cX10_refreshedReader 114 = .ok (.getfield 42, 3) := by decide +kernel
theorem dX10_refreshedReader_117 : decode cX10_refreshedReader 117 = .ok (.areturn, 1) := by decide +kernel
abbrev cX10_needStart : ByteArray := prog_1_method_69_code
def yX10_needStart : MethodName := ⟨RX10, "needStart", "(LTreequery$Finder;I)V"⟩
theorem dX10_needStart_0 : decode cX10_needStart 0 = .ok (.aload_n 0, 1) := by decide +kernel
theorem dX10_needStart_1 : decode cX10_needStart 1 = .ok (.iload_n 2, 1) := by decide +kernel
theorem dX10_needStart_2 : decode cX10_needStart 2 = .ok (.invokevirtual 146, 3) := by decide +kernel
theorem dX10_needStart_5 : decode cX10_needStart 5 = .ok (.aload_n 1, 1) := by decide +kernel
theorem dX10_needStart_6 : decode cX10_needStart 6 = .ok (.aload_n 0, 1) := by decide +kernel
theorem dX10_needStart_7 : decode cX10_needStart 7 = .ok (.getfield 12, 3) := by decide +kernel
theorem dX10_needStart_10 : decode cX10_needStart 10 = .ok (.getfield 115, 3) := by decide +kernel
theorem dX10_needStart_13 : decode cX10_needStart 13 = .ok (.iload_n 2, 1) := by decide +kernel
theorem dX10_needStart_14 : decode cX10_needStart 14 = .ok (.invokevirtual 229, 3) := by decide +kernel
theorem dX10_needStart_17 : decode cX10_needStart 17 = .ok (.invokevirtual 437, 3) := by decide +kernel
theorem dX10_needStart_20 : decode cX10_needStart 20 = .ok (.ifCond .ne 14, 3) := by decide +kernel
theorem dX10_needStart_23 : decode cX10_needStart 23 = .ok (.new 440, 3) := by decide +kernel
theorem dX10_needStart_26 : decode cX10_needStart 26 = .ok (.dup, 1) := by decide +kernel
theorem dX10_needStart_27 : decode cX10_needStart 27 = .ok (.ldc_w 477, 3) := by decide +kernel
theorem dX10_needStart_30 : decode cX10_needStart 30 = .ok (.invokespecial 444, 3) := by decide +kernel
theorem dX10_needStart_33 : decode cX10_needStart 33 = .ok (.athrow, 1) := by decide +kernel
theorem dX10_needStart_34 : decode cX10_needStart 34 = .ok (.return_, 1) := by decide +kernel
abbrev cX10_found : ByteArray := prog_1_method_31_code
def yX10_found : MethodName := ⟨RX10, "found", "(II)I"⟩
theorem dX10_found_0 : decode cX10_found 0 = .ok (.aload_n 0, 1) := by decide +kernel
theorem dX10_found_1 : decode cX10_found 1 = .ok (.getfield 98, 3) := by decide +kernel
theorem dX10_found_4 : decode cX10_found 4 = .ok (.ifCond .eq 10, 3) := by decide +kernel
theorem dX10_found_7 : decode cX10_found 7 = .ok (.aload_n 0, 1) := by decide +kernel
theorem dX10_found_8 : decode cX10_found 8 = .ok (.invokevirtual 294, 3) := by decide +kernel
theorem dX10_found_11 : decode cX10_found 11 = .ok (.goto 7, 3) := by decide +kernel
theorem dX10_found_14 : decode cX10_found 14 = .ok (.aload_n 0, 1) := by decide +kernel
theorem dX10_found_15 : decode cX10_found 15 = .ok (.getfield 38, 3) := by decide +kernel
theorem dX10_found_18 : decode cX10_found 18 = .ok (.astore_n 3, 1) := by decide +kernel
theorem dX10_found_19 : decode cX10_found 19 = .ok (.aload_n 0, 1) := by decide +kernel
theorem dX10_found_20 : decode cX10_found 20 = .ok (.iload_n 1, 1) := by decide +kernel
theorem dX10_found_21 : decode cX10_found 21 = .ok (.invokevirtual 262, 3) := by decide +kernel
theorem dX10_found_24 : decode cX10_found 24 = .ok (.aload_n 0, 1) := by decide +kernel
theorem dX10_found_25 : decode cX10_found 25 = .ok (.aload_n 3, 1) := by decide +kernel
theorem dX10_found_26 : decode cX10_found 26 = .ok (.iload_n 2, 1) := by decide +kernel
theorem dX10_found_27 : decode cX10_found 27 = .ok (.invokevirtual 298, 3) := by decide +kernel
theorem dX10_found_30 : decode cX10_found 30 = .ok (.aload_n 3, 1) := by decide +kernel
theorem dX10_found_31 : decode cX10_found 31 = .ok (.iload_n 1, 1) := by decide +kernel
theorem dX10_found_32 : decode cX10_found 32 = .ok (.invokevirtual 302, 3) := by decide +kernel
theorem dX10_found_35 : decode cX10_found 35 = .ok (.aload_n 3, 1) := by decide +kernel
theorem dX10_found_36 : decode cX10_found 36 = .ok (.iload_n 1, 1) := by decide +kernel
theorem dX10_found_37 : decode cX10_found 37 = .ok (.aload_n 0, 1) := by decide +kernel
theorem dX10_found_38 : decode cX10_found 38 = .ok (.getfield 12, 3) := by decide +kernel
theorem dX10_found_41 : decode cX10_found 41 = .ok (.getfield 115, 3) := by decide +kernel
theorem dX10_found_44 : decode cX10_found 44 = .ok (.iload_n 2, 1) := by decide +kernel
theorem dX10_found_45 : decode cX10_found 45 = .ok (.invokevirtual 229, 3) := by decide +kernel
theorem dX10_found_48 : decode cX10_found 48 = .ok (.invokevirtual 305, 3) := by decide +kernel
theorem dX10_found_51 : decode cX10_found 51 = .ok (.invokestatic 309, 3) := by decide +kernel
theorem dX10_found_54 : decode cX10_found 54 = .ok (.ireturn, 1) := by decide +kernel
abbrev cX10_foundAnew : ByteArray := prog_1_method_32_code
def yX10_foundAnew : MethodName := ⟨RX10, "foundAnew", "(II)I"⟩
theorem dX10_foundAnew_0 : decode cX10_foundAnew 0 = .ok (.aload_n 0, 1) := by decide +kernel
theorem dX10_foundAnew_1 : decode cX10_foundAnew 1 = .ok (.getfield 98, 3) := by decide +kernel
theorem dX10_foundAnew_4 : decode cX10_foundAnew 4 = .ok (.ifCond .eq 10, 3) := by decide +kernel
theorem dX10_foundAnew_7 : decode cX10_foundAnew 7 = .ok (.aload_n 0, 1) := by decide +kernel
theorem dX10_foundAnew_8 : decode cX10_foundAnew 8 = .ok (.invokevirtual 294, 3) := by decide +kernel
theorem dX10_foundAnew_11 : decode cX10_foundAnew 11 = .ok (.goto 7, 3) := by decide +kernel
theorem dX10_foundAnew_14 : decode cX10_foundAnew 14 = .ok (.aload_n 0, 1) := by decide +kernel
theorem dX10_foundAnew_15 : decode cX10_foundAnew 15 = .ok (.getfield 38, 3) := by decide +kernel
theorem dX10_foundAnew_18 : decode cX10_foundAnew 18 = .ok (.astore_n 3, 1) := by decide +kernel
theorem dX10_foundAnew_19 : decode cX10_foundAnew 19 = .ok (.aload_n 0, 1) := by decide +kernel
theorem dX10_foundAnew_20 : decode cX10_foundAnew 20 = .ok (.iload_n 1, 1) := by decide +kernel
theorem dX10_foundAnew_21 : decode cX10_foundAnew 21 = .ok (.invokevirtual 262, 3) := by decide +kernel
theorem dX10_foundAnew_24 : decode cX10_foundAnew 24 = .ok (.aload_n 0, 1) := by decide +kernel
theorem dX10_foundAnew_25 : decode cX10_foundAnew 25 = .ok (.aload_n 3, 1) := by decide +kernel
theorem dX10_foundAnew_26 : decode cX10_foundAnew 26 = .ok (.iload_n 2, 1) := by decide +kernel
theorem dX10_foundAnew_27 : decode cX10_foundAnew 27 = .ok (.invokevirtual 298, 3) := by decide +kernel
theorem dX10_foundAnew_30 : decode cX10_foundAnew 30 = .ok (.aload_n 3, 1) := by decide +kernel
theorem dX10_foundAnew_31 : decode cX10_foundAnew 31 = .ok (.iload_n 1, 1) := by decide +kernel
theorem dX10_foundAnew_32 : decode cX10_foundAnew 32 = .ok (.invokevirtual 302, 3) := by decide +kernel
theorem dX10_foundAnew_35 : decode cX10_foundAnew 35 = .ok (.aload_n 3, 1) := by decide +kernel
theorem dX10_foundAnew_36 : decode cX10_foundAnew 36 = .ok (.iload_n 1, 1) := by decide +kernel
theorem dX10_foundAnew_37 : decode cX10_foundAnew 37 = .ok (.aload_n 0, 1) := by decide +kernel
theorem dX10_foundAnew_38 : decode cX10_foundAnew 38 = .ok (.getfield 12, 3) := by decide +kernel
theorem dX10_foundAnew_41 : decode cX10_foundAnew 41 = .ok (.getfield 115, 3) := by decide +kernel
theorem dX10_foundAnew_44 : decode cX10_foundAnew 44 = .ok (.iload_n 2, 1) := by decide +kernel
theorem dX10_foundAnew_45 : decode cX10_foundAnew 45 = .ok (.invokevirtual 229, 3) := by decide +kernel
theorem dX10_foundAnew_48 : decode cX10_foundAnew 48 = .ok (.invokevirtual 305, 3) := by decide +kernel
theorem dX10_foundAnew_51 : decode cX10_foundAnew 51 = .ok (.lstore 4, 2) := by decide +kernel
theorem dX10_foundAnew_53 : decode cX10_foundAnew 53 = .ok (.iconst 0, 1) := by decide +kernel
theorem dX10_foundAnew_54 : decode cX10_foundAnew 54 = .ok (.istore 6, 2) := by decide +kernel
theorem dX10_foundAnew_56 : decode cX10_foundAnew 56 = .ok (.iconst 0, 1) := by decide +kernel
theorem dX10_foundAnew_57 : decode cX10_foundAnew 57 = .ok (.istore 7, 2) := by decide +kernel
theorem dX10_foundAnew_59 : decode cX10_foundAnew 59 = .ok (.iload 7, 2) := by decide +kernel
theorem dX10_foundAnew_61 : decode cX10_foundAnew 61 = .ok (.aload_n 0, 1) := by decide +kernel
theorem dX10_foundAnew_62 : decode cX10_foundAnew 62 = .ok (.getfield 12, 3) := by decide +kernel
theorem dX10_foundAnew_65 : decode cX10_foundAnew 65 = .ok (.getfield 115, 3) := by decide +kernel
theorem dX10_foundAnew_68 : decode cX10_foundAnew 68 = .ok (.invokevirtual 216, 3) := by decide +kernel
theorem dX10_foundAnew_71 : decode cX10_foundAnew 71 = .ok (.if_icmp .ge 22, 3) := by decide +kernel
theorem dX10_foundAnew_74 : decode cX10_foundAnew 74 = .ok (.lload 4, 2) := by decide +kernel
theorem dX10_foundAnew_76 : decode cX10_foundAnew 76 = .ok (.iload 7, 2) := by decide +kernel
theorem dX10_foundAnew_78 : decode cX10_foundAnew 78 = .ok (.invokestatic 315, 3) := by decide +kernel
theorem dX10_foundAnew_81 : decode cX10_foundAnew 81 = .ok (.ifCond .eq 6, 3) := by decide +kernel
theorem dX10_foundAnew_84 : decode cX10_foundAnew 84 = .ok (.iinc 6 1, 3) := by decide +kernel
theorem dX10_foundAnew_87 : decode cX10_foundAnew 87 = .ok (.iinc 7 1, 3) := by decide +kernel
theorem dX10_foundAnew_90 : decode cX10_foundAnew 90 = .ok (.goto (-31), 3) := by decide +kernel
theorem dX10_foundAnew_93 : decode cX10_foundAnew 93 = .ok (.iload 6, 2) := by decide +kernel
theorem dX10_foundAnew_95 : decode cX10_foundAnew 95 = .ok (.ireturn, 1) := by decide +kernel
abbrev cX10_needPlaceOf : ByteArray := prog_1_method_59_code
def yX10_needPlaceOf : MethodName := ⟨RX10, "needPlaceOf", "(JI)V"⟩
theorem dX10_needPlaceOf_0 : decode cX10_needPlaceOf 0 = .ok (.iload_n 3, 1) := by decide +kernel
theorem dX10_needPlaceOf_1 : decode cX10_needPlaceOf 1 = .ok (.ifCond .lt 11, 3) := by decide +kernel
theorem dX10_needPlaceOf_4 : decode cX10_needPlaceOf 4 = .ok (.iload_n 3, 1) := by decide +kernel
theorem dX10_needPlaceOf_5 : decode cX10_needPlaceOf 5 = .ok (.lload_n 1, 1) := by decide +kernel
theorem dX10_needPlaceOf_6 : decode cX10_needPlaceOf 6 = .ok (.invokestatic 309, 3) := by decide +kernel
theorem dX10_needPlaceOf_9 : decode cX10_needPlaceOf 9 = .ok (.if_icmp .lt 14, 3) := by decide +kernel
theorem dX10_needPlaceOf_12 : decode cX10_needPlaceOf 12 = .ok (.new 440, 3) := by decide +kernel
theorem dX10_needPlaceOf_15 : decode cX10_needPlaceOf 15 = .ok (.dup, 1) := by decide +kernel
theorem dX10_needPlaceOf_16 : decode cX10_needPlaceOf 16 = .ok (.ldc_w 450, 3) := by decide +kernel
theorem dX10_needPlaceOf_19 : decode cX10_needPlaceOf 19 = .ok (.invokespecial 444, 3) := by decide +kernel
theorem dX10_needPlaceOf_22 : decode cX10_needPlaceOf 22 = .ok (.athrow, 1) := by decide +kernel
theorem dX10_needPlaceOf_23 : decode cX10_needPlaceOf 23 = .ok (.return_, 1) := by decide +kernel
abbrev cX10_foundAt : ByteArray := prog_1_method_33_code
def yX10_foundAt : MethodName := ⟨RX10, "foundAt", "(II)I"⟩
theorem dX10_foundAt_0 : decode cX10_foundAt 0 = .ok (.aload_n 0, 1) := by decide +kernel
theorem dX10_foundAt_1 : decode cX10_foundAt 1 = .ok (.getfield 98, 3) := by decide +kernel
theorem dX10_foundAt_4 : decode cX10_foundAt 4 = .ok (.ifCond .eq 10, 3) := by decide +kernel
theorem dX10_foundAt_7 : decode cX10_foundAt 7 = .ok (.aload_n 0, 1) := by decide +kernel
theorem dX10_foundAt_8 : decode cX10_foundAt 8 = .ok (.invokevirtual 294, 3) := by decide +kernel
theorem dX10_foundAt_11 : decode cX10_foundAt 11 = .ok (.goto 7, 3) := by decide +kernel
theorem dX10_foundAt_14 : decode cX10_foundAt 14 = .ok (.aload_n 0, 1) := by decide +kernel
theorem dX10_foundAt_15 : decode cX10_foundAt 15 = .ok (.getfield 38, 3) := by decide +kernel
theorem dX10_foundAt_18 : decode cX10_foundAt 18 = .ok (.astore_n 3, 1) := by decide +kernel
theorem dX10_foundAt_19 : decode cX10_foundAt 19 = .ok (.aload_n 0, 1) := by decide +kernel
theorem dX10_foundAt_20 : decode cX10_foundAt 20 = .ok (.iload_n 1, 1) := by decide +kernel
theorem dX10_foundAt_21 : decode cX10_foundAt 21 = .ok (.invokevirtual 262, 3) := by decide +kernel
theorem dX10_foundAt_24 : decode cX10_foundAt 24 = .ok (.aload_n 3, 1) := by decide +kernel
theorem dX10_foundAt_25 : decode cX10_foundAt 25 = .ok (.iload_n 1, 1) := by decide +kernel
theorem dX10_foundAt_26 : decode cX10_foundAt 26 = .ok (.invokevirtual 302, 3) := by decide +kernel
theorem dX10_foundAt_29 : decode cX10_foundAt 29 = .ok (.aload_n 3, 1) := by decide +kernel
theorem dX10_foundAt_30 : decode cX10_foundAt 30 = .ok (.iload_n 1, 1) := by decide +kernel
theorem dX10_foundAt_31 : decode cX10_foundAt 31 = .ok (.iconst 0, 1) := by decide +kernel
theorem dX10_foundAt_32 : decode cX10_foundAt 32 = .ok (.invokevirtual 305, 3) := by decide +kernel
theorem dX10_foundAt_35 : decode cX10_foundAt 35 = .ok (.lstore 4, 2) := by decide +kernel
theorem dX10_foundAt_37 : decode cX10_foundAt 37 = .ok (.aload_n 0, 1) := by decide +kernel
theorem dX10_foundAt_38 : decode cX10_foundAt 38 = .ok (.lload 4, 2) := by decide +kernel
theorem dX10_foundAt_40 : decode cX10_foundAt 40 = .ok (.iload_n 2, 1) := by decide +kernel
theorem dX10_foundAt_41 : decode cX10_foundAt 41 = .ok (.invokevirtual 320, 3) := by decide +kernel
theorem dX10_foundAt_44 : decode cX10_foundAt 44 = .ok (.aload_n 0, 1) := by decide +kernel
theorem dX10_foundAt_45 : decode cX10_foundAt 45 = .ok (.getfield 12, 3) := by decide +kernel
theorem dX10_foundAt_48 : decode cX10_foundAt 48 = .ok (.getfield 115, 3) := by decide +kernel
theorem dX10_foundAt_51 : decode cX10_foundAt 51 = .ok (.lload 4, 2) := by decide +kernel
theorem dX10_foundAt_53 : decode cX10_foundAt 53 = .ok (.iload_n 2, 1) := by decide +kernel
theorem dX10_foundAt_54 : decode cX10_foundAt 54 = .ok (.invokevirtual 246, 3) := by decide +kernel
theorem dX10_foundAt_57 : decode cX10_foundAt 57 = .ok (.ireturn, 1) := by decide +kernel
abbrev cX10_ordered : ByteArray := prog_1_method_34_code
def yX10_ordered : MethodName := ⟨RX10, "ordered", "(II)I"⟩
theorem dX10_ordered_0 : decode cX10_ordered 0 = .ok (.aload_n 0, 1) := by decide +kernel
theorem dX10_ordered_1 : decode cX10_ordered 1 = .ok (.getfield 98, 3) := by decide +kernel
theorem dX10_ordered_4 : decode cX10_ordered 4 = .ok (.ifCond .eq 10, 3) := by decide +kernel
theorem dX10_ordered_7 : decode cX10_ordered 7 = .ok (.aload_n 0, 1) := by decide +kernel
theorem dX10_ordered_8 : decode cX10_ordered 8 = .ok (.invokevirtual 294, 3) := by decide +kernel
theorem dX10_ordered_11 : decode cX10_ordered 11 = .ok (.goto 7, 3) := by decide +kernel
theorem dX10_ordered_14 : decode cX10_ordered 14 = .ok (.aload_n 0, 1) := by decide +kernel
theorem dX10_ordered_15 : decode cX10_ordered 15 = .ok (.getfield 38, 3) := by decide +kernel
theorem dX10_ordered_18 : decode cX10_ordered 18 = .ok (.astore_n 3, 1) := by decide +kernel
theorem dX10_ordered_19 : decode cX10_ordered 19 = .ok (.aload_n 0, 1) := by decide +kernel
theorem dX10_ordered_20 : decode cX10_ordered 20 = .ok (.iload_n 1, 1) := by decide +kernel
theorem dX10_ordered_21 : decode cX10_ordered 21 = .ok (.invokevirtual 262, 3) := by decide +kernel
theorem dX10_ordered_24 : decode cX10_ordered 24 = .ok (.aload_n 3, 1) := by decide +kernel
theorem dX10_ordered_25 : decode cX10_ordered 25 = .ok (.iload_n 1, 1) := by decide +kernel
theorem dX10_ordered_26 : decode cX10_ordered 26 = .ok (.invokevirtual 302, 3) := by decide +kernel
theorem dX10_ordered_29 : decode cX10_ordered 29 = .ok (.aload_n 0, 1) := by decide +kernel
theorem dX10_ordered_30 : decode cX10_ordered 30 = .ok (.aload_n 3, 1) := by decide +kernel
theorem dX10_ordered_31 : decode cX10_ordered 31 = .ok (.iload_n 1, 1) := by decide +kernel
theorem dX10_ordered_32 : decode cX10_ordered 32 = .ok (.iconst 0, 1) := by decide +kernel
theorem dX10_ordered_33 : decode cX10_ordered 33 = .ok (.invokevirtual 305, 3) := by decide +kernel
theorem dX10_ordered_36 : decode cX10_ordered 36 = .ok (.iload_n 2, 1) := by decide +kernel
theorem dX10_ordered_37 : decode cX10_ordered 37 = .ok (.invokevirtual 320, 3) := by decide +kernel
theorem dX10_ordered_40 : decode cX10_ordered 40 = .ok (.aload_n 0, 1) := by decide +kernel
theorem dX10_ordered_41 : decode cX10_ordered 41 = .ok (.getfield 12, 3) := by decide +kernel
theorem dX10_ordered_44 : decode cX10_ordered 44 = .ok (.getfield 115, 3) := by decide +kernel
theorem dX10_ordered_47 : decode cX10_ordered 47 = .ok (.aload_n 3, 1) := by decide +kernel
theorem dX10_ordered_48 : decode cX10_ordered 48 = .ok (.iload_n 1, 1) := by decide +kernel
theorem dX10_ordered_49 : decode cX10_ordered 49 = .ok (.iload_n 2, 1) := by decide +kernel
theorem dX10_ordered_50 : decode cX10_ordered 50 = .ok (.invokevirtual 324, 3) := by decide +kernel
theorem dX10_ordered_53 : decode cX10_ordered 53 = .ok (.invokevirtual 328, 3) := by decide +kernel
theorem dX10_ordered_56 : decode cX10_ordered 56 = .ok (.ireturn, 1) := by decide +kernel
abbrev cX10_groups : ByteArray := prog_1_method_35_code
def yX10_groups : MethodName := ⟨RX10, "groups", "(I)I"⟩
theorem dX10_groups_0 : decode cX10_groups 0 = .ok (.aload_n 0, 1) := by decide +kernel
theorem dX10_groups_1 : decode cX10_groups 1 = .ok (.getfield 98, 3) := by decide +kernel
theorem dX10_groups_4 : decode cX10_groups 4 = .ok (.ifCond .eq 10, 3) := by decide +kernel
theorem dX10_groups_7 : decode cX10_groups 7 = .ok (.aload_n 0, 1) := by decide +kernel
theorem dX10_groups_8 : decode cX10_groups 8 = .ok (.invokevirtual 294, 3) := by decide +kernel
theorem dX10_groups_11 : decode cX10_groups 11 = .ok (.goto 7, 3) := by decide +kernel
theorem dX10_groups_14 : decode cX10_groups 14 = .ok (.aload_n 0, 1) := by decide +kernel
theorem dX10_groups_15 : decode cX10_groups 15 = .ok (.getfield 38, 3) := by decide +kernel
theorem dX10_groups_18 : decode cX10_groups 18 = .ok (.astore_n 2, 1) := by decide +kernel
theorem dX10_groups_19 : decode cX10_groups 19 = .ok (.aload_n 0, 1) := by decide +kernel
theorem dX10_groups_20 : decode cX10_groups 20 = .ok (.iload_n 1, 1) := by decide +kernel
theorem dX10_groups_21 : decode cX10_groups 21 = .ok (.invokevirtual 262, 3) := by decide +kernel
theorem dX10_groups_24 : decode cX10_groups 24 = .ok (.aload_n 2, 1) := by decide +kernel
theorem dX10_groups_25 : decode cX10_groups 25 = .ok (.iload_n 1, 1) := by decide +kernel
theorem dX10_groups_26 : decode cX10_groups 26 = .ok (.invokevirtual 302, 3) := by decide +kernel
theorem dX10_groups_29 : decode cX10_groups 29 = .ok (.aload_n 2, 1) := by decide +kernel
theorem dX10_groups_30 : decode cX10_groups 30 = .ok (.iload_n 1, 1) := by decide +kernel
theorem dX10_groups_31 : decode cX10_groups 31 = .ok (.invokevirtual 331, 3) := by decide +kernel
theorem dX10_groups_34 : decode cX10_groups 34 = .ok (.ireturn, 1) := by decide +kernel
abbrev cX10_needIndex : ByteArray := prog_1_method_61_code
def yX10_needIndex : MethodName := ⟨RX10, "needIndex", "(II)V"⟩
theorem dX10_needIndex_0 : decode cX10_needIndex 0 = .ok (.iload_n 1, 1) := by decide +kernel
theorem dX10_needIndex_1 : decode cX10_needIndex 1 = .ok (.ifCond .lt 8, 3) := by decide +kernel
theorem dX10_needIndex_4 : decode cX10_needIndex 4 = .ok (.iload_n 1, 1) := by decide +kernel
theorem dX10_needIndex_5 : decode cX10_needIndex 5 = .ok (.iload_n 2, 1) := by decide +kernel
theorem dX10_needIndex_6 : decode cX10_needIndex 6 = .ok (.if_icmp .lt 14, 3) := by decide +kernel
theorem dX10_needIndex_9 : decode cX10_needIndex 9 = .ok (.new 440, 3) := by decide +kernel
theorem dX10_needIndex_12 : decode cX10_needIndex 12 = .ok (.dup, 1) := by decide +kernel
theorem dX10_needIndex_13 : decode cX10_needIndex 13 = .ok (.ldc_w 454, 3) := by decide +kernel
theorem dX10_needIndex_16 : decode cX10_needIndex 16 = .ok (.invokespecial 444, 3) := by decide +kernel
theorem dX10_needIndex_19 : decode cX10_needIndex 19 = .ok (.athrow, 1) := by decide +kernel
theorem dX10_needIndex_20 : decode cX10_needIndex 20 = .ok (.return_, 1) := by decide +kernel
abbrev cX10_needLooseSchema : ByteArray := prog_1_method_70_code
def yX10_needLooseSchema : MethodName := ⟨RX10, "needLooseSchema", "()V"⟩
theorem dX10_needLooseSchema_0 : decode cX10_needLooseSchema 0 = .ok (.aload_n 0, 1) := by decide +kernel
theorem dX10_needLooseSchema_1 : decode cX10_needLooseSchema 1 = .ok (.getfield 48, 3) := by decide +kernel
theorem dX10_needLooseSchema_4 : decode cX10_needLooseSchema 4 = .ok (.invokevirtual 194, 3) := by decide +kernel
theorem dX10_needLooseSchema_7 : decode cX10_needLooseSchema 7 = .ok (.ifCond .eq 14, 3) := by decide +kernel
theorem dX10_needLooseSchema_10 : decode cX10_needLooseSchema 10 = .ok (.new 149, 3) := by decide +kernel
theorem dX10_needLooseSchema_13 : decode cX10_needLooseSchema 13 = .ok (.dup, 1) := by decide +kernel
theorem dX10_needLooseSchema_14 : decode cX10_needLooseSchema 14 = .ok (.ldc_w 479, 3) := by decide +kernel
theorem dX10_needLooseSchema_17 : decode cX10_needLooseSchema 17 = .ok (.invokespecial 153, 3) := by decide +kernel
theorem dX10_needLooseSchema_20 : decode cX10_needLooseSchema 20 = .ok (.athrow, 1) := by decide +kernel
theorem dX10_needLooseSchema_21 : decode cX10_needLooseSchema 21 = .ok (.return_, 1) := by decide +kernel
abbrev cX10_nameType : ByteArray := prog_1_method_36_code
def yX10_nameType : MethodName := ⟨RX10, "nameType", "(II)I"⟩
theorem dX10_nameType_0 : decode cX10_nameType 0 = .ok (.aload_n 0, 1) := by decide +kernel
theorem dX10_nameType_1 : decode cX10_nameType 1 = .ok (.iload_n 1, 1) := by decide +kernel
theorem dX10_nameType_2 : decode cX10_nameType 2 = .ok (.bipush 6, 2) := by decide +kernel
theorem dX10_nameType_4 : decode cX10_nameType 4 = .ok (.invokevirtual 334, 3) := by decide +kernel
theorem dX10_nameType_7 : decode cX10_nameType 7 = .ok (.aload_n 0, 1) := by decide +kernel
theorem dX10_nameType_8 : decode cX10_nameType 8 = .ok (.iload_n 2, 1) := by decide +kernel
theorem dX10_nameType_9 : decode cX10_nameType 9 = .ok (.iconst (-1), 1) := by decide +kernel
theorem dX10_nameType_10 : decode cX10_nameType 10 = .ok (.bipush 7, 2) := by decide +kernel
theorem dX10_nameType_12 : decode cX10_nameType 12 = .ok (.invokevirtual 132, 3) := by decide +kernel
theorem dX10_nameType_15 : decode cX10_nameType 15 = .ok (.aload_n 0, 1) := by decide +kernel
theorem dX10_nameType_16 : decode cX10_nameType 16 = .ok (.invokevirtual 337, 3) := by decide +kernel
theorem dX10_nameType_19 : decode cX10_nameType 19 = .ok (.aload_n 0, 1) := by decide +kernel
theorem dX10_nameType_20 : decode cX10_nameType 20 = .ok (.getfield 48, 3) := by decide +kernel
theorem dX10_nameType_23 : decode cX10_nameType 23 = .ok (.iload_n 1, 1) := by decide +kernel
theorem dX10_nameType_24 : decode cX10_nameType 24 = .ok (.iload_n 2, 1) := by decide +kernel
theorem dX10_nameType_25 : decode cX10_nameType 25 = .ok (.invokevirtual 340, 3) := by decide +kernel
theorem dX10_nameType_28 : decode cX10_nameType 28 = .ok (.ireturn, 1) := by decide +kernel
abbrev cX10_arc : ByteArray := prog_1_method_37_code
def yX10_arc : MethodName := ⟨RX10, "arc", "(IIII)Z"⟩
theorem dX10_arc_0 : decode cX10_arc 0 = .ok (.aload_n 0, 1) := by decide +kernel
theorem dX10_arc_1 : decode cX10_arc 1 = .ok (.iload_n 1, 1) := by decide +kernel
theorem dX10_arc_2 : decode cX10_arc 2 = .ok (.bipush 6, 2) := by decide +kernel
theorem dX10_arc_4 : decode cX10_arc 4 = .ok (.invokevirtual 334, 3) := by decide +kernel
theorem dX10_arc_7 : decode cX10_arc 7 = .ok (.aload_n 0, 1) := by decide +kernel
theorem dX10_arc_8 : decode cX10_arc 8 = .ok (.iload_n 2, 1) := by decide +kernel
theorem dX10_arc_9 : decode cX10_arc 9 = .ok (.iconst 4, 1) := by decide +kernel
theorem dX10_arc_10 : decode cX10_arc 10 = .ok (.invokevirtual 334, 3) := by decide +kernel
theorem dX10_arc_13 : decode cX10_arc 13 = .ok (.aload_n 0, 1) := by decide +kernel
theorem dX10_arc_14 : decode cX10_arc 14 = .ok (.iload_n 3, 1) := by decide +kernel
theorem dX10_arc_15 : decode cX10_arc 15 = .ok (.bipush 6, 2) := by decide +kernel
theorem dX10_arc_17 : decode cX10_arc 17 = .ok (.invokevirtual 334, 3) := by decide +kernel
theorem dX10_arc_20 : decode cX10_arc 20 = .ok (.aload_n 0, 1) := by decide +kernel
theorem dX10_arc_21 : decode cX10_arc 21 = .ok (.iload 4, 2) := by decide +kernel
theorem dX10_arc_23 : decode cX10_arc 23 = .ok (.iconst 4, 1) := by decide +kernel
theorem dX10_arc_24 : decode cX10_arc 24 = .ok (.invokevirtual 334, 3) := by decide +kernel
theorem dX10_arc_27 : decode cX10_arc 27 = .ok (.aload_n 0, 1) := by decide +kernel
theorem dX10_arc_28 : decode cX10_arc 28 = .ok (.invokevirtual 337, 3) := by decide +kernel
theorem dX10_arc_31 : decode cX10_arc 31 = .ok (.aload_n 0, 1) := by decide +kernel
theorem dX10_arc_32 : decode cX10_arc 32 = .ok (.getfield 48, 3) := by decide +kernel
theorem dX10_arc_35 : decode cX10_arc 35 = .ok (.iload_n 1, 1) := by decide +kernel
theorem dX10_arc_36 : decode cX10_arc 36 = .ok (.iload_n 2, 1) := by decide +kernel
theorem dX10_arc_37 : decode cX10_arc 37 = .ok (.iload_n 3, 1) := by decide +kernel
theorem dX10_arc_38 : decode cX10_arc 38 = .ok (.iload 4, 2) := by decide +kernel
theorem dX10_arc_40 : decode cX10_arc 40 = .ok (.invokevirtual 343, 3) := by decide +kernel
theorem dX10_arc_43 : decode cX10_arc 43 = .ok (.ireturn, 1) := by decide +kernel
abbrev cX10_setFinal : ByteArray := prog_1_method_38_code
def yX10_setFinal : MethodName := ⟨RX10, "setFinal", "(IIZ)Z"⟩
theorem dX10_setFinal_0 : decode cX10_setFinal 0 = .ok (.aload_n 0, 1) := by decide +kernel
theorem dX10_setFinal_1 : decode cX10_setFinal 1 = .ok (.iload_n 1, 1) := by decide +kernel
theorem dX10_setFinal_2 : decode cX10_setFinal 2 = .ok (.bipush 6, 2) := by decide +kernel
theorem dX10_setFinal_4 : decode cX10_setFinal 4 = .ok (.invokevirtual 334, 3) := by decide +kernel
theorem dX10_setFinal_7 : decode cX10_setFinal 7 = .ok (.aload_n 0, 1) := by decide +kernel
theorem dX10_setFinal_8 : decode cX10_setFinal 8 = .ok (.iload_n 2, 1) := by decide +kernel
theorem dX10_setFinal_9 : decode cX10_setFinal 9 = .ok (.iconst 4, 1) := by decide +kernel
theorem dX10_setFinal_10 : decode cX10_setFinal 10 = .ok (.invokevirtual 334, 3) := by decide +kernel
theorem dX10_setFinal_13 : decode cX10_setFinal 13 = .ok (.aload_n 0, 1) := by decide +kernel
theorem dX10_setFinal_14 : decode cX10_setFinal 14 = .ok (.invokevirtual 337, 3) := by decide +kernel
theorem dX10_setFinal_17 : decode cX10_setFinal 17 = .ok (.aload_n 0, 1) := by decide +kernel
theorem dX10_setFinal_18 : decode cX10_setFinal 18 = .ok (.getfield 48, 3) := by decide +kernel
theorem dX10_setFinal_21 : decode cX10_setFinal 21 = .ok (.iload_n 1, 1) := by decide +kernel
theorem dX10_setFinal_22 : decode cX10_setFinal 22 = .ok (.iload_n 2, 1) := by decide +kernel
theorem dX10_setFinal_23 : decode cX10_setFinal 23 = .ok (.iload_n 3, 1) := by decide +kernel
theorem dX10_setFinal_24 : decode cX10_setFinal 24 = .ok (.invokevirtual 347, 3) := by decide +kernel
theorem dX10_setFinal_27 : decode cX10_setFinal 27 = .ok (.ireturn, 1) := by decide +kernel
abbrev cX10_allowTexts : ByteArray := prog_1_method_39_code
def yX10_allowTexts : MethodName := ⟨RX10, "allowTexts", "(IZ)Z"⟩
theorem dX10_allowTexts_0 : decode cX10_allowTexts 0 = .ok (.aload_n 0, 1) := by decide +kernel
theorem dX10_allowTexts_1 : decode cX10_allowTexts 1 = .ok (.iload_n 1, 1) := by decide +kernel
theorem dX10_allowTexts_2 : decode cX10_allowTexts 2 = .ok (.bipush 6, 2) := by decide +kernel
theorem dX10_allowTexts_4 : decode cX10_allowTexts 4 = .ok (.invokevirtual 334, 3) := by decide +kernel
theorem dX10_allowTexts_7 : decode cX10_allowTexts 7 = .ok (.aload_n 0, 1) := by decide +kernel
theorem dX10_allowTexts_8 : decode cX10_allowTexts 8 = .ok (.invokevirtual 337, 3) := by decide +kernel
theorem dX10_allowTexts_11 : decode cX10_allowTexts 11 = .ok (.aload_n 0, 1) := by decide +kernel
theorem dX10_allowTexts_12 : decode cX10_allowTexts 12 = .ok (.getfield 48, 3) := by decide +kernel
theorem dX10_allowTexts_15 : decode cX10_allowTexts 15 = .ok (.iload_n 1, 1) := by decide +kernel
theorem dX10_allowTexts_16 : decode cX10_allowTexts 16 = .ok (.iload_n 2, 1) := by decide +kernel
theorem dX10_allowTexts_17 : decode cX10_allowTexts 17 = .ok (.invokevirtual 351, 3) := by decide +kernel
theorem dX10_allowTexts_20 : decode cX10_allowTexts 20 = .ok (.ireturn, 1) := by decide +kernel
abbrev cX10_attribute : ByteArray := prog_1_method_40_code
def yX10_attribute : MethodName := ⟨RX10, "attribute", "(III)I"⟩
theorem dX10_attribute_0 : decode cX10_attribute 0 = .ok (.aload_n 0, 1) := by decide +kernel
theorem dX10_attribute_1 : decode cX10_attribute 1 = .ok (.iload_n 1, 1) := by decide +kernel
theorem dX10_attribute_2 : decode cX10_attribute 2 = .ok (.bipush 6, 2) := by decide +kernel
theorem dX10_attribute_4 : decode cX10_attribute 4 = .ok (.invokevirtual 334, 3) := by decide +kernel
theorem dX10_attribute_7 : decode cX10_attribute 7 = .ok (.aload_n 0, 1) := by decide +kernel
theorem dX10_attribute_8 : decode cX10_attribute 8 = .ok (.iload_n 2, 1) := by decide +kernel
theorem dX10_attribute_9 : decode cX10_attribute 9 = .ok (.iconst 0, 1) := by decide +kernel
theorem dX10_attribute_10 : decode cX10_attribute 10 = .ok (.bipush 7, 2) := by decide +kernel
theorem dX10_attribute_12 : decode cX10_attribute 12 = .ok (.invokevirtual 132, 3) := by decide +kernel
theorem dX10_attribute_15 : decode cX10_attribute 15 = .ok (.aload_n 0, 1) := by decide +kernel
theorem dX10_attribute_16 : decode cX10_attribute 16 = .ok (.iload_n 3, 1) := by decide +kernel
theorem dX10_attribute_17 : decode cX10_attribute 17 = .ok (.iconst 0, 1) := by decide +kernel
theorem dX10_attribute_18 : decode cX10_attribute 18 = .ok (.iconst 2, 1) := by decide +kernel
theorem dX10_attribute_19 : decode cX10_attribute 19 = .ok (.invokevirtual 132, 3) := by decide +kernel
theorem dX10_attribute_22 : decode cX10_attribute 22 = .ok (.aload_n 0, 1) := by decide +kernel
theorem dX10_attribute_23 : decode cX10_attribute 23 = .ok (.invokevirtual 337, 3) := by decide +kernel
theorem dX10_attribute_26 : decode cX10_attribute 26 = .ok (.aload_n 0, 1) := by decide +kernel
theorem dX10_attribute_27 : decode cX10_attribute 27 = .ok (.getfield 48, 3) := by decide +kernel
theorem dX10_attribute_30 : decode cX10_attribute 30 = .ok (.iload_n 1, 1) := by decide +kernel
theorem dX10_attribute_31 : decode cX10_attribute 31 = .ok (.iload_n 2, 1) := by decide +kernel
theorem dX10_attribute_32 : decode cX10_attribute 32 = .ok (.iload_n 3, 1) := by decide +kernel
theorem dX10_attribute_33 : decode cX10_attribute 33 = .ok (.invokevirtual 355, 3) := by decide +kernel
theorem dX10_attribute_36 : decode cX10_attribute 36 = .ok (.ireturn, 1) := by decide +kernel
abbrev cX10_setStrict : ByteArray := prog_1_method_41_code
def yX10_setStrict : MethodName := ⟨RX10, "setStrict", "(Z)Z"⟩
theorem dX10_setStrict_0 : decode cX10_setStrict 0 = .ok (.iload_n 1, 1) := by decide +kernel
theorem dX10_setStrict_1 : decode cX10_setStrict 1 = .ok (.ifCond .eq 28, 3) := by decide +kernel
theorem dX10_setStrict_4 : decode cX10_setStrict 4 = .ok (.aload_n 0, 1) := by decide +kernel
theorem dX10_setStrict_5 : decode cX10_setStrict 5 = .ok (.getfield 48, 3) := by decide +kernel
theorem dX10_setStrict_8 : decode cX10_setStrict 8 = .ok (.aload_n 0, 1) := by decide +kernel
theorem dX10_setStrict_9 : decode cX10_setStrict 9 = .ok (.getfield 12, 3) := by decide +kernel
theorem dX10_setStrict_12 : decode cX10_setStrict 12 = .ok (.invokevirtual 197, 3) := by decide +kernel
theorem dX10_setStrict_15 : decode cX10_setStrict 15 = .ok (.ifCond .ne 14, 3) := by decide +kernel
theorem dX10_setStrict_18 : decode cX10_setStrict 18 = .ok (.new 149, 3) := by decide +kernel
theorem dX10_setStrict_21 : decode cX10_setStrict 21 = .ok (.dup, 1) := by decide +kernel
theorem dX10_setStrict_22 : decode cX10_setStrict 22 = .ok (.ldc_w 358, 3) := by decide +kernel
theorem dX10_setStrict_25 : decode cX10_setStrict 25 = .ok (.invokespecial 153, 3) := by decide +kernel
theorem dX10_setStrict_28 : decode cX10_setStrict 28 = .ok (.athrow, 1) := by decide +kernel
theorem dX10_setStrict_29 : decode cX10_setStrict 29 = .ok (.aload_n 0, 1) := by decide +kernel
theorem dX10_setStrict_30 : decode cX10_setStrict 30 = .ok (.getfield 48, 3) := by decide +kernel
theorem dX10_setStrict_33 : decode cX10_setStrict 33 = .ok (.iload_n 1, 1) := by decide +kernel
theorem dX10_setStrict_34 : decode cX10_setStrict 34 = .ok (.invokevirtual 360, 3) := by decide +kernel
theorem dX10_setStrict_37 : decode cX10_setStrict 37 = .ok (.ireturn, 1) := by decide +kernel
abbrev cX10_isValid : ByteArray := prog_1_method_42_code
def yX10_isValid : MethodName := ⟨RX10, "isValid", "()Z"⟩
theorem dX10_isValid_0 : decode cX10_isValid 0 = .ok (.aload_n 0, 1) := by decide +kernel
theorem dX10_isValid_1 : decode cX10_isValid 1 = .ok (.getfield 48, 3) := by decide +kernel
theorem dX10_isValid_4 : decode cX10_isValid 4 = .ok (.aload_n 0, 1) := by decide +kernel
theorem dX10_isValid_5 : decode cX10_isValid 5 = .ok (.getfield 12, 3) := by decide +kernel
theorem dX10_isValid_8 : decode cX10_isValid 8 = .ok (.invokevirtual 197, 3) := by decide +kernel
theorem dX10_isValid_11 : decode cX10_isValid 11 = .ok (.ireturn, 1) := by decide +kernel
abbrev cX10_types : ByteArray := prog_1_method_43_code
def yX10_types : MethodName := ⟨RX10, "types", "(I)I"⟩
theorem dX10_types_0 : decode cX10_types 0 = .ok (.aload_n 0, 1) := by decide +kernel
theorem dX10_types_1 : decode cX10_types 1 = .ok (.iload_n 1, 1) := by decide +kernel
theorem dX10_types_2 : decode cX10_types 2 = .ok (.invokevirtual 146, 3) := by decide +kernel
theorem dX10_types_5 : decode cX10_types 5 = .ok (.aload_n 0, 1) := by decide +kernel
theorem dX10_types_6 : decode cX10_types 6 = .ok (.getfield 48, 3) := by decide +kernel
theorem dX10_types_9 : decode cX10_types 9 = .ok (.aload_n 0, 1) := by decide +kernel
theorem dX10_types_10 : decode cX10_types 10 = .ok (.getfield 12, 3) := by decide +kernel
theorem dX10_types_13 : decode cX10_types 13 = .ok (.aload_n 0, 1) := by decide +kernel
theorem dX10_types_14 : decode cX10_types 14 = .ok (.getfield 12, 3) := by decide +kernel
theorem dX10_types_17 : decode cX10_types 17 = .ok (.getfield 115, 3) := by decide +kernel
theorem dX10_types_20 : decode cX10_types 20 = .ok (.iload_n 1, 1) := by decide +kernel
theorem dX10_types_21 : decode cX10_types 21 = .ok (.invokevirtual 229, 3) := by decide +kernel
theorem dX10_types_24 : decode cX10_types 24 = .ok (.invokevirtual 364, 3) := by decide +kernel
theorem dX10_types_27 : decode cX10_types 27 = .ok (.ireturn, 1) := by decide +kernel
abbrev cX10_infer : ByteArray := prog_1_method_44_code
def yX10_infer : MethodName := ⟨RX10, "infer", "(I)I"⟩
theorem dX10_infer_0 : decode cX10_infer 0 = .ok (.aload_n 0, 1) := by decide +kernel
theorem dX10_infer_1 : decode cX10_infer 1 = .ok (.iload_n 1, 1) := by decide +kernel
theorem dX10_infer_2 : decode cX10_infer 2 = .ok (.invokevirtual 262, 3) := by decide +kernel
theorem dX10_infer_5 : decode cX10_infer 5 = .ok (.aload_n 0, 1) := by decide +kernel
theorem dX10_infer_6 : decode cX10_infer 6 = .ok (.getfield 48, 3) := by decide +kernel
theorem dX10_infer_9 : decode cX10_infer 9 = .ok (.aload_n 0, 1) := by decide +kernel
theorem dX10_infer_10 : decode cX10_infer 10 = .ok (.getfield 29, 3) := by decide +kernel
theorem dX10_infer_13 : decode cX10_infer 13 = .ok (.iload_n 1, 1) := by decide +kernel
theorem dX10_infer_14 : decode cX10_infer 14 = .ok (.invokevirtual 368, 3) := by decide +kernel
theorem dX10_infer_17 : decode cX10_infer 17 = .ok (.ireturn, 1) := by decide +kernel
abbrev cX10_index : ByteArray := prog_1_method_45_code
def yX10_index : MethodName := ⟨RX10, "index", "(I)Z"⟩
theorem dX10_index_0 : decode cX10_index 0 = .ok (.aload_n 0, 1) := by decide +kernel
theorem dX10_index_1 : decode cX10_index 1 = .ok (.iload_n 1, 1) := by decide +kernel
theorem dX10_index_2 : decode cX10_index 2 = .ok (.iconst 0, 1) := by decide +kernel
theorem dX10_index_3 : decode cX10_index 3 = .ok (.bipush 7, 2) := by decide +kernel
theorem dX10_index_5 : decode cX10_index 5 = .ok (.invokevirtual 132, 3) := by decide +kernel
theorem dX10_index_8 : decode cX10_index 8 = .ok (.aload_n 0, 1) := by decide +kernel
theorem dX10_index_9 : decode cX10_index 9 = .ok (.dup, 1) := by decide +kernel
theorem dX10_index_10 : decode cX10_index 10 = .ok (.getfield 95, 3) := by decide +kernel
theorem dX10_index_13 : decode cX10_index 13 = .ok (.iload_n 1, 1) := by decide +kernel
theorem dX10_index_14 : decode cX10_index 14 = .ok (.invokestatic 372, 3) := by decide +kernel
theorem dX10_index_17 : decode cX10_index 17 = .ok (.lxor, 1) := by decide +kernel
theorem dX10_index_18 : decode cX10_index 18 = .ok (.putfield 95, 3) := by decide +kernel
theorem dX10_index_21 : decode cX10_index 21 = .ok (.aload_n 0, 1) := by decide +kernel
theorem dX10_index_22 : decode cX10_index 22 = .ok (.getfield 95, 3) := by decide +kernel
theorem dX10_index_25 : decode cX10_index 25 = .ok (.iload_n 1, 1) := by decide +kernel
theorem dX10_index_26 : decode cX10_index 26 = .ok (.invokestatic 315, 3) := by decide +kernel
theorem dX10_index_29 : decode cX10_index 29 = .ok (.ireturn, 1) := by decide +kernel
abbrev cX10_plan : ByteArray := prog_1_method_46_code
def yX10_plan : MethodName := ⟨RX10, "plan", "(I)I"⟩
theorem dX10_plan_0 : decode cX10_plan 0 = .ok (.aload_n 0, 1) := by decide +kernel
theorem dX10_plan_1 : decode cX10_plan 1 = .ok (.iload_n 1, 1) := by decide +kernel
theorem dX10_plan_2 : decode cX10_plan 2 = .ok (.invokevirtual 262, 3) := by decide +kernel
theorem dX10_plan_5 : decode cX10_plan 5 = .ok (.aload_n 0, 1) := by decide +kernel
theorem dX10_plan_6 : decode cX10_plan 6 = .ok (.getfield 12, 3) := by decide +kernel
theorem dX10_plan_9 : decode cX10_plan 9 = .ok (.getfield 115, 3) := by decide +kernel
theorem dX10_plan_12 : decode cX10_plan 12 = .ok (.invokevirtual 375, 3) := by decide +kernel
theorem dX10_plan_15 : decode cX10_plan 15 = .ok (.invokestatic 309, 3) := by decide +kernel
theorem dX10_plan_18 : decode cX10_plan 18 = .ok (.istore_n 2, 1) := by decide +kernel
theorem dX10_plan_19 : decode cX10_plan 19 = .ok (.aload_n 0, 1) := by decide +kernel
theorem dX10_plan_20 : decode cX10_plan 20 = .ok (.getfield 29, 3) := by decide +kernel
theorem dX10_plan_23 : decode cX10_plan 23 = .ok (.iload_n 1, 1) := by decide +kernel
theorem dX10_plan_24 : decode cX10_plan 24 = .ok (.invokevirtual 378, 3) := by decide +kernel
theorem dX10_plan_27 : decode cX10_plan 27 = .ok (.istore_n 3, 1) := by decide +kernel
theorem dX10_plan_28 : decode cX10_plan 28 = .ok (.aload_n 0, 1) := by decide +kernel
theorem dX10_plan_29 : decode cX10_plan 29 = .ok (.getfield 95, 3) := by decide +kernel
theorem dX10_plan_32 : decode cX10_plan 32 = .ok (.iload_n 3, 1) := by decide +kernel
theorem dX10_plan_33 : decode cX10_plan 33 = .ok (.invokestatic 315, 3) := by decide +kernel
theorem dX10_plan_36 : decode cX10_plan 36 = .ok (.ifCond .eq 43, 3) := by decide +kernel
theorem dX10_plan_39 : decode cX10_plan 39 = .ok (.aload_n 0, 1) := by decide +kernel
theorem dX10_plan_40 : decode cX10_plan 40 = .ok (.getfield 12, 3) := by decide +kernel
theorem dX10_plan_43 : decode cX10_plan 43 = .ok (.getfield 115, 3) := by decide +kernel
theorem dX10_plan_46 : decode cX10_plan 46 = .ok (.iload_n 3, 1) := by decide +kernel
theorem dX10_plan_47 : decode cX10_plan 47 = .ok (.invokevirtual 381, 3) := by decide +kernel
theorem dX10_plan_50 : decode cX10_plan 50 = .ok (.aload_n 0, 1) := by decide +kernel
theorem dX10_plan_51 : decode cX10_plan 51 = .ok (.getfield 12, 3) := by decide +kernel
theorem dX10_plan_54 : decode cX10_plan 54 = .ok (.getfield 115, 3) := by decide +kernel
theorem dX10_plan_57 : decode cX10_plan 57 = .ok (.invokevirtual 384, 3) := by decide +kernel
theorem dX10_plan_60 : decode cX10_plan 60 = .ok (.land, 1) := by decide +kernel
theorem dX10_plan_61 : decode cX10_plan 61 = .ok (.invokestatic 309, 3) := by decide +kernel
theorem dX10_plan_64 : decode cX10_plan 64 = .ok (.istore 4, 2) := by decide +kernel
theorem dX10_plan_66 : decode cX10_plan 66 = .ok (.iload 4, 2) := by decide +kernel
theorem dX10_plan_68 : decode cX10_plan 68 = .ok (.iload_n 2, 1) := by decide +kernel
theorem dX10_plan_69 : decode cX10_plan 69 = .ok (.if_icmp .ge 10, 3) := by decide +kernel
theorem dX10_plan_72 : decode cX10_plan 72 = .ok (.sipush 1000, 3) := by decide +kernel
theorem dX10_plan_75 : decode cX10_plan 75 = .ok (.iload 4, 2) := by decide +kernel
theorem dX10_plan_77 : decode cX10_plan 77 = .ok (.iadd, 1) := by decide +kernel
theorem dX10_plan_78 : decode cX10_plan 78 = .ok (.ireturn, 1) := by decide +kernel
theorem dX10_plan_79 : decode cX10_plan 79 = .ok (.sipush 1000, 3) := by decide +kernel
theorem dX10_plan_82 : decode cX10_plan 82 = .ok (.aload_n 0, 1) := by decide +kernel
theorem dX10_plan_83 : decode cX10_plan 83 = .ok (.getfield 29, 3) := by decide +kernel
theorem dX10_plan_86 : decode cX10_plan 86 = .ok (.iload_n 1, 1) := by decide +kernel
theorem dX10_plan_87 : decode cX10_plan 87 = .ok (.invokevirtual 387, 3) := by decide +kernel
theorem dX10_plan_90 : decode cX10_plan 90 = .ok (.ifCond .eq 7, 3) := by decide +kernel
theorem dX10_plan_93 : decode cX10_plan 93 = .ok (.iconst 2, 1) := by decide +kernel
theorem dX10_plan_94 : decode cX10_plan 94 = .ok (.goto 4, 3) := by decide +kernel
theorem dX10_plan_97 : decode cX10_plan 97 = .ok (.iconst 0, 1) := by decide +kernel
theorem dX10_plan_98 : decode cX10_plan 98 = .ok (.imul, 1) := by decide +kernel
theorem dX10_plan_99 : decode cX10_plan 99 = .ok (.iload_n 2, 1) := by decide +kernel
theorem dX10_plan_100 : decode cX10_plan 100 = .ok (.iadd, 1) := by decide +kernel
theorem dX10_plan_101 : decode cX10_plan 101 = .ok (.ireturn, 1) := by decide +kernel
abbrev cX10_view : ByteArray := prog_1_method_47_code
def yX10_view : MethodName := ⟨RX10, "view", "(I)I"⟩
theorem dX10_view_0 : decode cX10_view 0 = .ok (.aload_n 0, 1) := by decide +kernel
theorem dX10_view_1 : decode cX10_view 1 = .ok (.iload_n 1, 1) := by decide +kernel
theorem dX10_view_2 : decode cX10_view 2 = .ok (.invokevirtual 262, 3) := by decide +kernel
theorem dX10_view_5 : decode cX10_view 5 = .ok (.aload_n 0, 1) := by decide +kernel
theorem dX10_view_6 : decode cX10_view 6 = .ok (.getfield 85, 3) := by decide +kernel
theorem dX10_view_9 : decode cX10_view 9 = .ok (.iconst 5, 1) := by decide +kernel
theorem dX10_view_10 : decode cX10_view 10 = .ok (.if_icmp .lt 14, 3) := by decide +kernel
theorem dX10_view_13 : decode cX10_view 13 = .ok (.new 149, 3) := by decide +kernel
theorem dX10_view_16 : decode cX10_view 16 = .ok (.dup, 1) := by decide +kernel
theorem dX10_view_17 : decode cX10_view 17 = .ok (.ldc_w 390, 3) := by decide +kernel
theorem dX10_view_20 : decode cX10_view 20 = .ok (.invokespecial 153, 3) := by decide +kernel
theorem dX10_view_23 : decode cX10_view 23 = .ok (.athrow, 1) := by decide +kernel
theorem dX10_view_24 : decode cX10_view 24 = .ok (.aload_n 0, 1) := by decide +kernel
theorem dX10_view_25 : decode cX10_view 25 = .ok (.getfield 61, 3) := by decide +kernel
theorem dX10_view_28 : decode cX10_view 28 = .ok (.aload_n 0, 1) := by decide +kernel
theorem dX10_view_29 : decode cX10_view 29 = .ok (.getfield 85, 3) := by decide +kernel
theorem dX10_view_32 : decode cX10_view 32 = .ok (.iload_n 1, 1) := by decide +kernel
theorem dX10_view_33 : decode cX10_view 33 = .ok (.invokevirtual 392, 3) := by decide +kernel
theorem dX10_view_36 : decode cX10_view 36 = .ok (.aload_n 0, 1) := by decide +kernel
theorem dX10_view_37 : decode cX10_view 37 = .ok (.getfield 65, 3) := by decide +kernel
theorem dX10_view_40 : decode cX10_view 40 = .ok (.aload_n 0, 1) := by decide +kernel
theorem dX10_view_41 : decode cX10_view 41 = .ok (.getfield 85, 3) := by decide +kernel
theorem dX10_view_44 : decode cX10_view 44 = .ok (.iconst 0, 1) := by decide +kernel
theorem dX10_view_45 : decode cX10_view 45 = .ok (.invokevirtual 392, 3) := by decide +kernel
theorem dX10_view_48 : decode cX10_view 48 = .ok (.aload_n 0, 1) := by decide +kernel
theorem dX10_view_49 : decode cX10_view 49 = .ok (.dup, 1) := by decide +kernel
theorem dX10_view_50 : decode cX10_view 50 = .ok (.getfield 85, 3) := by decide +kernel
theorem dX10_view_53 : decode cX10_view 53 = .ok (.iconst 1, 1) := by decide +kernel
theorem dX10_view_54 : decode cX10_view 54 = .ok (.iadd, 1) := by decide +kernel
theorem dX10_view_55 : decode cX10_view 55 = .ok (.putfield 85, 3) := by decide +kernel
theorem dX10_view_58 : decode cX10_view 58 = .ok (.aload_n 0, 1) := by decide +kernel
theorem dX10_view_59 : decode cX10_view 59 = .ok (.getfield 85, 3) := by decide +kernel
theorem dX10_view_62 : decode cX10_view 62 = .ok (.iconst 1, 1) := by decide +kernel
theorem dX10_view_63 : decode cX10_view 63 = .ok (.isub, 1) := by decide +kernel
theorem dX10_view_64 : decode cX10_view 64 = .ok (.ireturn, 1) := by decide +kernel
abbrev cX10_viewed : ByteArray := prog_1_method_48_code
def yX10_viewed : MethodName := ⟨RX10, "viewed", "(II)I"⟩
theorem dX10_viewed_0 : decode cX10_viewed 0 = .ok (.aload_n 0, 1) := by decide +kernel
theorem dX10_viewed_1 : decode cX10_viewed 1 = .ok (.iload_n 1, 1) := by decide +kernel
theorem dX10_viewed_2 : decode cX10_viewed 2 = .ok (.aload_n 0, 1) := by decide +kernel
theorem dX10_viewed_3 : decode cX10_viewed 3 = .ok (.getfield 85, 3) := by decide +kernel
theorem dX10_viewed_6 : decode cX10_viewed 6 = .ok (.invokevirtual 334, 3) := by decide +kernel
theorem dX10_viewed_9 : decode cX10_viewed 9 = .ok (.aload_n 0, 1) := by decide +kernel
theorem dX10_viewed_10 : decode cX10_viewed 10 = .ok (.iload_n 2, 1) := by decide +kernel
theorem dX10_viewed_11 : decode cX10_viewed 11 = .ok (.invokevirtual 239, 3) := by decide +kernel
theorem dX10_viewed_14 : decode cX10_viewed 14 = .ok (.aload_n 0, 1) := by decide +kernel
theorem dX10_viewed_15 : decode cX10_viewed 15 = .ok (.getfield 61, 3) := by decide +kernel
theorem dX10_viewed_18 : decode cX10_viewed 18 = .ok (.iload_n 1, 1) := by decide +kernel
theorem dX10_viewed_19 : decode cX10_viewed 19 = .ok (.invokevirtual 162, 3) := by decide +kernel
theorem dX10_viewed_22 : decode cX10_viewed 22 = .ok (.istore_n 3, 1) := by decide +kernel
theorem dX10_viewed_23 : decode cX10_viewed 23 = .ok (.aload_n 0, 1) := by decide +kernel
theorem dX10_viewed_24 : decode cX10_viewed 24 = .ok (.getfield 38, 3) := by decide +kernel
theorem dX10_viewed_27 : decode cX10_viewed 27 = .ok (.iload_n 3, 1) := by decide +kernel
theorem dX10_viewed_28 : decode cX10_viewed 28 = .ok (.invokevirtual 302, 3) := by decide +kernel
theorem dX10_viewed_31 : decode cX10_viewed 31 = .ok (.aload_n 0, 1) := by decide +kernel
theorem dX10_viewed_32 : decode cX10_viewed 32 = .ok (.getfield 12, 3) := by decide +kernel
theorem dX10_viewed_35 : decode cX10_viewed 35 = .ok (.getfield 115, 3) := by decide +kernel
theorem dX10_viewed_38 : decode cX10_viewed 38 = .ok (.aload_n 0, 1) := by decide +kernel
theorem dX10_viewed_39 : decode cX10_viewed 39 = .ok (.getfield 38, 3) := by decide +kernel
theorem dX10_viewed_42 : decode cX10_viewed 42 = .ok (.iload_n 3, 1) := by decide +kernel
theorem dX10_viewed_43 : decode cX10_viewed 43 = .ok (.iconst 0, 1) := by decide +kernel
theorem dX10_viewed_44 : decode cX10_viewed 44 = .ok (.invokevirtual 305, 3) := by decide +kernel
theorem dX10_viewed_47 : decode cX10_viewed 47 = .ok (.iload_n 2, 1) := by decide +kernel
theorem dX10_viewed_48 : decode cX10_viewed 48 = .ok (.invokevirtual 246, 3) := by decide +kernel
theorem dX10_viewed_51 : decode cX10_viewed 51 = .ok (.ireturn, 1) := by decide +kernel
abbrev cX10_changed : ByteArray := prog_1_method_49_code
def yX10_changed : MethodName := ⟨RX10, "changed", "(I)I"⟩
theorem dX10_changed_0 : decode cX10_changed 0 = .ok (.aload_n 0, 1) := by decide +kernel
theorem dX10_changed_1 : decode cX10_changed 1 = .ok (.iload_n 1, 1) := by decide +kernel
theorem dX10_changed_2 : decode cX10_changed 2 = .ok (.aload_n 0, 1) := by decide +kernel
theorem dX10_changed_3 : decode cX10_changed 3 = .ok (.getfield 85, 3) := by decide +kernel
theorem dX10_changed_6 : decode cX10_changed 6 = .ok (.invokevirtual 334, 3) := by decide +kernel
theorem dX10_changed_9 : decode cX10_changed 9 = .ok (.aload_n 0, 1) := by decide +kernel
theorem dX10_changed_10 : decode cX10_changed 10 = .ok (.getfield 65, 3) := by decide +kernel
theorem dX10_changed_13 : decode cX10_changed 13 = .ok (.iload_n 1, 1) := by decide +kernel
theorem dX10_changed_14 : decode cX10_changed 14 = .ok (.invokevirtual 162, 3) := by decide +kernel
theorem dX10_changed_17 : decode cX10_changed 17 = .ok (.ireturn, 1) := by decide +kernel
abbrev cX10_ranked : ByteArray := prog_1_method_50_code
def yX10_ranked : MethodName := ⟨RX10, "ranked", "(II)I"⟩
theorem dX10_ranked_0 : decode cX10_ranked 0 = .ok (.aload_n 0, 1) := by decide +kernel
theorem dX10_ranked_1 : decode cX10_ranked 1 = .ok (.iload_n 2, 1) := by decide +kernel
theorem dX10_ranked_2 : decode cX10_ranked 2 = .ok (.invokevirtual 239, 3) := by decide +kernel
theorem dX10_ranked_5 : decode cX10_ranked 5 = .ok (.aload_n 0, 1) := by decide +kernel
theorem dX10_ranked_6 : decode cX10_ranked 6 = .ok (.iload_n 1, 1) := by decide +kernel
theorem dX10_ranked_7 : decode cX10_ranked 7 = .ok (.iconst 0, 1) := by decide +kernel
theorem dX10_ranked_8 : decode cX10_ranked 8 = .ok (.sipush 999, 3) := by decide +kernel
theorem dX10_ranked_11 : decode cX10_ranked 11 = .ok (.invokevirtual 132, 3) := by decide +kernel
theorem dX10_ranked_14 : decode cX10_ranked 14 = .ok (.aload_n 0, 1) := by decide +kernel
theorem dX10_ranked_15 : decode cX10_ranked 15 = .ok (.getfield 12, 3) := by decide +kernel
theorem dX10_ranked_18 : decode cX10_ranked 18 = .ok (.getfield 115, 3) := by decide +kernel
theorem dX10_ranked_21 : decode cX10_ranked 21 = .ok (.aload_n 0, 1) := by decide +kernel
theorem dX10_ranked_22 : decode cX10_ranked 22 = .ok (.getfield 12, 3) := by decide +kernel
theorem dX10_ranked_25 : decode cX10_ranked 25 = .ok (.aload_n 0, 1) := by decide +kernel
theorem dX10_ranked_26 : decode cX10_ranked 26 = .ok (.getfield 12, 3) := by decide +kernel
theorem dX10_ranked_29 : decode cX10_ranked 29 = .ok (.iload_n 1, 1) := by decide +kernel
theorem dX10_ranked_30 : decode cX10_ranked 30 = .ok (.invokevirtual 395, 3) := by decide +kernel
theorem dX10_ranked_33 : decode cX10_ranked 33 = .ok (.iload_n 2, 1) := by decide +kernel
theorem dX10_ranked_34 : decode cX10_ranked 34 = .ok (.invokevirtual 398, 3) := by decide +kernel
theorem dX10_ranked_37 : decode cX10_ranked 37 = .ok (.invokevirtual 328, 3) := by decide +kernel
theorem dX10_ranked_40 : decode cX10_ranked 40 = .ok (.ireturn, 1) := by decide +kernel
abbrev cX10_keep : ByteArray := prog_1_method_51_code
def yX10_keep : MethodName := ⟨RX10, "keep", "()I"⟩
theorem dX10_keep_0 : decode cX10_keep 0 = .ok (.aload_n 0, 1) := by decide +kernel
theorem dX10_keep_1 : decode cX10_keep 1 = .ok (.getfield 81, 3) := by decide +kernel
theorem dX10_keep_4 : decode cX10_keep 4 = .ok (.ifCond .lt 15, 3) := by decide +kernel
theorem dX10_keep_7 : decode cX10_keep 7 = .ok (.aload_n 0, 1) := by decide +kernel
theorem dX10_keep_8 : decode cX10_keep 8 = .ok (.getfield 81, 3) := by decide +kernel
theorem dX10_keep_11 : decode cX10_keep 11 = .ok (.aload_n 0, 1) := by decide +kernel
theorem dX10_keep_12 : decode cX10_keep 12 = .ok (.getfield 52, 3) := by decide +kernel
theorem dX10_keep_15 : decode cX10_keep 15 = .ok (.arraylength, 1) := by decide +kernel
theorem dX10_keep_16 : decode cX10_keep 16 = .ok (.if_icmp .lt 14, 3) := by decide +kernel
theorem dX10_keep_19 : decode cX10_keep 19 = .ok (.new 149, 3) := by decide +kernel
theorem dX10_keep_22 : decode cX10_keep 22 = .ok (.dup, 1) := by decide +kernel
theorem dX10_keep_23 : decode cX10_keep 23 = .ok (.ldc_w 401, 3) := by decide +kernel
theorem dX10_keep_26 : decode cX10_keep 26 = .ok (.invokespecial 153, 3) := by decide +kernel
theorem dX10_keep_29 : decode cX10_keep 29 = .ok (.athrow, 1) := by decide +kernel
theorem dX10_keep_30 : decode cX10_keep 30 = .ok (.new 9, 3) := by decide +kernel
theorem dX10_keep_33 : decode cX10_keep 33 = .ok (.dup, 1) := by decide +kernel
theorem dX10_keep_34 : decode cX10_keep 34 = .ok (.invokespecial 11, 3) := by decide +kernel
theorem dX10_keep_37 : decode cX10_keep 37 = .ok (.astore_n 1, 1) := by decide +kernel
theorem dX10_keep_38 : decode cX10_keep 38 = .ok (.aload_n 1, 1) := by decide +kernel
theorem dX10_keep_39 : decode cX10_keep 39 = .ok (.aload_n 0, 1) := by decide +kernel
theorem dX10_keep_40 : decode cX10_keep 40 = .ok (.getfield 12, 3) := by decide +kernel
theorem dX10_keep_43 : decode cX10_keep 43 = .ok (.invokevirtual 403, 3) := by decide +kernel
theorem dX10_keep_46 : decode cX10_keep 46 = .ok (.aload_n 0, 1) := by decide +kernel
theorem dX10_keep_47 : decode cX10_keep 47 = .ok (.getfield 52, 3) := by decide +kernel
theorem dX10_keep_50 : decode cX10_keep 50 = .ok (.aload_n 0, 1) := by decide +kernel
theorem dX10_keep_51 : decode cX10_keep 51 = .ok (.getfield 81, 3) := by decide +kernel
theorem dX10_keep_54 : decode cX10_keep 54 = .ok (.aload_n 1, 1) := by decide +kernel
theorem dX10_keep_55 : decode cX10_keep 55 = .ok (.aastore, 1) := by decide +kernel
theorem dX10_keep_56 : decode cX10_keep 56 = .ok (.aload_n 0, 1) := by decide +kernel
theorem dX10_keep_57 : decode cX10_keep 57 = .ok (.dup, 1) := by decide +kernel
theorem dX10_keep_58 : decode cX10_keep 58 = .ok (.getfield 81, 3) := by decide +kernel
theorem dX10_keep_61 : decode cX10_keep 61 = .ok (.iconst 1, 1) := by decide +kernel
theorem dX10_keep_62 : decode cX10_keep 62 = .ok (.iadd, 1) := by decide +kernel
theorem dX10_keep_63 : decode cX10_keep 63 = .ok (.putfield 81, 3) := by decide +kernel
theorem dX10_keep_66 : decode cX10_keep 66 = .ok (.aload_n 0, 1) := by decide +kernel
theorem dX10_keep_67 : decode cX10_keep 67 = .ok (.getfield 81, 3) := by decide +kernel
theorem dX10_keep_70 : decode cX10_keep 70 = .ok (.iconst 1, 1) := by decide +kernel
theorem dX10_keep_71 : decode cX10_keep 71 = .ok (.isub, 1) := by decide +kernel
theorem dX10_keep_72 : decode cX10_keep 72 = .ok (.ireturn, 1) := by decide +kernel
abbrev cX10_neededVersion : ByteArray := prog_1_method_71_code
def yX10_neededVersion : MethodName := ⟨RX10, "neededVersion", "(I)LTreequery$Tree;"⟩
theorem dX10_neededVersion_0 : decode cX10_neededVersion 0 = .ok (.iload_n 1, 1) := by decide +kernel
theorem dX10_neededVersion_1 : decode cX10_neededVersion 1 = .ok (.ifCond .lt 12, 3) := by decide +kernel
theorem dX10_neededVersion_4 : decode cX10_neededVersion 4 = .ok (.iload_n 1, 1) := by decide +kernel
theorem dX10_neededVersion_5 : decode cX10_neededVersion 5 = .ok (.aload_n 0, 1) := by decide +kernel
theorem dX10_neededVersion_6 : decode cX10_neededVersion 6 = .ok (.getfield 52, 3) := by decide +kernel
theorem dX10_neededVersion_9 : decode cX10_neededVersion 9 = .ok (.arraylength, 1) := by decide +kernel
theorem dX10_neededVersion_10 : decode cX10_neededVersion 10 = .ok (.if_icmp .lt 14, 3) := by decide +kernel
theorem dX10_neededVersion_13 : decode cX10_neededVersion 13 = .ok (.new 440, 3) := by decide +kernel
theorem dX10_neededVersion_16 : decode cX10_neededVersion 16 = .ok (.dup, 1) := by decide +kernel
theorem dX10_neededVersion_17 : decode cX10_neededVersion 17 = .ok (.ldc_w 481, 3) := by decide +kernel
theorem dX10_neededVersion_20 : decode cX10_neededVersion 20 = .ok (.invokespecial 444, 3) := by decide +kernel
theorem dX10_neededVersion_23 : decode cX10_neededVersion 23 = .ok (.athrow, 1) := by decide +kernel
theorem dX10_neededVersion_24 : decode cX10_neededVersion 24 = .ok (.aload_n 0, 1) := by decide +kernel
theorem dX10_neededVersion_25 : decode cX10_neededVersion 25 = .ok (.getfield 52, 3) := by decide +kernel
theorem dX10_neededVersion_28 : decode cX10_neededVersion 28 = .ok (.iload_n 1, 1) := by decide +kernel
theorem dX10_neededVersion_29 : decode cX10_neededVersion 29 = .ok (.aaload, 1) := by decide +kernel
theorem dX10_neededVersion_30 : decode cX10_neededVersion 30 = .ok (.astore_n 2, 1) := by decide +kernel
theorem dX10_neededVersion_31 : decode cX10_neededVersion 31 = .ok (.aload_n 2, 1) := by decide +kernel
theorem dX10_neededVersion_32 : decode cX10_neededVersion 32 = .ok (.ifnonnull 14, 3) := by decide +kernel
theorem dX10_neededVersion_35 : decode cX10_neededVersion 35 = .ok (.new 440, 3) := by decide +kernel
theorem dX10_neededVersion_38 : decode cX10_neededVersion 38 = .ok (.dup, 1) := by decide +kernel
theorem dX10_neededVersion_39 : decode cX10_neededVersion 39 = .ok (.ldc_w 481, 3) := by decide +kernel
theorem dX10_neededVersion_42 : decode cX10_neededVersion 42 = .ok (.invokespecial 444, 3) := by decide +kernel
theorem dX10_neededVersion_45 : decode cX10_neededVersion 45 = .ok (.athrow, 1) := by decide +kernel
theorem dX10_neededVersion_46 : decode cX10_neededVersion 46 = .ok (.aload_n 2, 1) := by decide +kernel
theorem dX10_neededVersion_47 : decode cX10_neededVersion 47 = .ok (.areturn, 1) := by decide +kernel
abbrev cX10_take : ByteArray := prog_1_method_52_code
def yX10_take : MethodName := ⟨RX10, "take", "(I)I"⟩
theorem dX10_take_0 : decode cX10_take 0 = .ok (.aload_n 0, 1) := by decide +kernel
theorem dX10_take_1 : decode cX10_take 1 = .ok (.iload_n 1, 1) := by decide +kernel
theorem dX10_take_2 : decode cX10_take 2 = .ok (.invokevirtual 407, 3) := by decide +kernel
theorem dX10_take_5 : decode cX10_take 5 = .ok (.astore_n 2, 1) := by decide +kernel
theorem dX10_take_6 : decode cX10_take 6 = .ok (.aload_n 0, 1) := by decide +kernel
theorem dX10_take_7 : decode cX10_take 7 = .ok (.getfield 22, 3) := by decide +kernel
theorem dX10_take_10 : decode cX10_take 10 = .ok (.invokevirtual 411, 3) := by decide +kernel
theorem dX10_take_13 : decode cX10_take 13 = .ok (.ifCond .le 14, 3) := by decide +kernel
theorem dX10_take_16 : decode cX10_take 16 = .ok (.new 149, 3) := by decide +kernel
theorem dX10_take_19 : decode cX10_take 19 = .ok (.dup, 1) := by decide +kernel
theorem dX10_take_20 : decode cX10_take 20 = .ok (.ldc_w 412, 3) := by decide +kernel
theorem dX10_take_23 : decode cX10_take 23 = .ok (.invokespecial 153, 3) := by decide +kernel
theorem dX10_take_26 : decode cX10_take 26 = .ok (.athrow, 1) := by decide +kernel
theorem dX10_take_27 : decode cX10_take 27 = .ok (.aload_n 0, 1) := by decide +kernel
theorem dX10_take_28 : decode cX10_take 28 = .ok (.getfield 48, 3) := by decide +kernel
theorem dX10_take_31 : decode cX10_take 31 = .ok (.invokevirtual 194, 3) := by decide +kernel
theorem dX10_take_34 : decode cX10_take 34 = .ok (.ifCond .eq 25, 3) := by decide +kernel
theorem dX10_take_37 : decode cX10_take 37 = .ok (.aload_n 0, 1) := by decide +kernel
theorem dX10_take_38 : decode cX10_take 38 = .ok (.getfield 48, 3) := by decide +kernel
theorem dX10_take_41 : decode cX10_take 41 = .ok (.aload_n 2, 1) := by decide +kernel
theorem dX10_take_42 : decode cX10_take 42 = .ok (.invokevirtual 197, 3) := by decide +kernel
theorem dX10_take_45 : decode cX10_take 45 = .ok (.ifCond .ne 14, 3) := by decide +kernel
theorem dX10_take_48 : decode cX10_take 48 = .ok (.new 149, 3) := by decide +kernel
theorem dX10_take_51 : decode cX10_take 51 = .ok (.dup, 1) := by decide +kernel
theorem dX10_take_52 : decode cX10_take 52 = .ok (.ldc_w 414, 3) := by decide +kernel
theorem dX10_take_55 : decode cX10_take 55 = .ok (.invokespecial 153, 3) := by decide +kernel
theorem dX10_take_58 : decode cX10_take 58 = .ok (.athrow, 1) := by decide +kernel
theorem dX10_take_59 : decode cX10_take 59 = .ok (.aload_n 0, 1) := by decide +kernel
theorem dX10_take_60 : decode cX10_take 60 = .ok (.getfield 16, 3) := by decide +kernel
theorem dX10_take_63 : decode cX10_take 63 = .ok (.aload_n 2, 1) := by decide +kernel
theorem dX10_take_64 : decode cX10_take 64 = .ok (.invokevirtual 403, 3) := by decide +kernel
theorem dX10_take_67 : decode cX10_take 67 = .ok (.aload_n 0, 1) := by decide +kernel
theorem dX10_take_68 : decode cX10_take 68 = .ok (.getfield 16, 3) := by decide +kernel
theorem dX10_take_71 : decode cX10_take 71 = .ok (.aload_n 0, 1) := by decide +kernel
theorem dX10_take_72 : decode cX10_take 72 = .ok (.getfield 12, 3) := by decide +kernel
theorem dX10_take_75 : decode cX10_take 75 = .ok (.invokevirtual 219, 3) := by decide +kernel
theorem dX10_take_78 : decode cX10_take 78 = .ok (.invokevirtual 416, 3) := by decide +kernel
theorem dX10_take_81 : decode cX10_take 81 = .ok (.aload_n 0, 1) := by decide +kernel
theorem dX10_take_82 : decode cX10_take 82 = .ok (.getfield 16, 3) := by decide +kernel
theorem dX10_take_85 : decode cX10_take 85 = .ok (.invokevirtual 112, 3) := by decide +kernel
theorem dX10_take_88 : decode cX10_take 88 = .ok (.aload_n 0, 1) := by decide +kernel
theorem dX10_take_89 : decode cX10_take 89 = .ok (.invokevirtual 209, 3) := by decide +kernel
theorem dX10_take_92 : decode cX10_take 92 = .ok (.aload_n 0, 1) := by decide +kernel
theorem dX10_take_93 : decode cX10_take 93 = .ok (.getfield 12, 3) := by decide +kernel
theorem dX10_take_96 : decode cX10_take 96 = .ok (.getfield 115, 3) := by decide +kernel
theorem dX10_take_99 : decode cX10_take 99 = .ok (.invokevirtual 216, 3) := by decide +kernel
theorem dX10_take_102 : decode cX10_take 102 = .ok (.ireturn, 1) := by decide +kernel
abbrev cX10_distance : ByteArray := prog_1_method_53_code
def yX10_distance : MethodName := ⟨RX10, "distance", "(II)I"⟩
theorem dX10_distance_0 : decode cX10_distance 0 = .ok (.aload_n 0, 1) := by decide +kernel
theorem dX10_distance_1 : decode cX10_distance 1 = .ok (.iload_n 1, 1) := by decide +kernel
theorem dX10_distance_2 : decode cX10_distance 2 = .ok (.invokevirtual 407, 3) := by decide +kernel
theorem dX10_distance_5 : decode cX10_distance 5 = .ok (.astore_n 3, 1) := by decide +kernel
theorem dX10_distance_6 : decode cX10_distance 6 = .ok (.aload_n 0, 1) := by decide +kernel
theorem dX10_distance_7 : decode cX10_distance 7 = .ok (.iload_n 2, 1) := by decide +kernel
theorem dX10_distance_8 : decode cX10_distance 8 = .ok (.invokevirtual 407, 3) := by decide +kernel
theorem dX10_distance_11 : decode cX10_distance 11 = .ok (.astore 4, 2) := by decide +kernel
theorem dX10_distance_13 : decode cX10_distance 13 = .ok (.aload_n 0, 1) := by decide +kernel
theorem dX10_distance_14 : decode cX10_distance 14 = .ok (.getfield 77, 3) := by decide +kernel
theorem dX10_distance_17 : decode cX10_distance 17 = .ok (.ifnonnull 14, 3) := by decide +kernel
theorem dX10_distance_20 : decode cX10_distance 20 = .ok (.aload_n 0, 1) := by decide +kernel
theorem dX10_distance_21 : decode cX10_distance 21 = .ok (.new 419, 3) := by decide +kernel
theorem dX10_distance_24 : decode cX10_distance 24 = .ok (.dup, 1) := by decide +kernel
theorem dX10_distance_25 : decode cX10_distance 25 = .ok (.invokespecial 421, 3) := by decide +kernel
theorem dX10_distance_28 : decode cX10_distance 28 = .ok (.putfield 77, 3) := by decide +kernel
theorem dX10_distance_31 : decode cX10_distance 31 = .ok (.aload_n 0, 1) := by decide +kernel
theorem dX10_distance_32 : decode cX10_distance 32 = .ok (.getfield 77, 3) := by decide +kernel
theorem dX10_distance_35 : decode cX10_distance 35 = .ok (.iload_n 1, 1) := by decide +kernel
theorem dX10_distance_36 : decode cX10_distance 36 = .ok (.iload_n 2, 1) := by decide +kernel
theorem dX10_distance_37 : decode cX10_distance 37 = .ok (.invokevirtual 422, 3) := by decide +kernel
theorem dX10_distance_40 : decode cX10_distance 40 = .ok (.istore 5, 2) := by decide +kernel
theorem dX10_distance_42 : decode cX10_distance 42 = .ok (.iload 5, 2) := by decide +kernel
theorem dX10_distance_44 : decode cX10_distance 44 = .ok (.iconst (-1), 1) := by decide +kernel
theorem dX10_distance_45 : decode cX10_distance 45 = .ok (.if_icmp .eq 6, 3) := by decide +kernel
theorem dX10_distance_48 : decode cX10_distance 48 = .ok (.iload 5, 2) := by decide +kernel
theorem dX10_distance_50 : decode cX10_distance 50 = .ok (.ireturn, 1) := by decide +kernel
theorem dX10_distance_51 : decode cX10_distance 51 = .ok (.aload_n 0, 1) := by decide +kernel
theorem dX10_distance_52 : decode cX10_distance 52 = .ok (.getfield 77, 3) := by decide +kernel
theorem dX10_distance_55 : decode cX10_distance 55 = .ok (.aload_n 3, 1) := by decide +kernel
theorem dX10_distance_56 : decode cX10_distance 56 = .ok (.aload 4, 2) := by decide +kernel
theorem dX10_distance_58 : decode cX10_distance 58 = .ok (.invokevirtual 425, 3) := by decide +kernel
theorem dX10_distance_61 : decode cX10_distance 61 = .ok (.istore 6, 2) := by decide +kernel
theorem dX10_distance_63 : decode cX10_distance 63 = .ok (.aload_n 0, 1) := by decide +kernel
theorem dX10_distance_64 : decode cX10_distance 64 = .ok (.getfield 77, 3) := by decide +kernel
theorem dX10_distance_67 : decode cX10_distance 67 = .ok (.iload_n 1, 1) := by decide +kernel
theorem dX10_distance_68 : decode cX10_distance 68 = .ok (.iload_n 2, 1) := by decide +kernel
theorem dX10_distance_69 : decode cX10_distance 69 = .ok (.iload 6, 2) := by decide +kernel
theorem dX10_distance_71 : decode cX10_distance 71 = .ok (.invokevirtual 428, 3) := by decide +kernel
theorem dX10_distance_74 : decode cX10_distance 74 = .ok (.iload 6, 2) := by decide +kernel
theorem dX10_distance_76 : decode cX10_distance 76 = .ok (.ireturn, 1) := by decide +kernel
abbrev cX10_odds : ByteArray := prog_1_method_54_code
def yX10_odds : MethodName := ⟨RX10, "odds", "(III)I"⟩
theorem dX10_odds_0 : decode cX10_odds 0 = .ok (.aload_n 0, 1) := by decide +kernel
theorem dX10_odds_1 : decode cX10_odds 1 = .ok (.iload_n 1, 1) := by decide +kernel
theorem dX10_odds_2 : decode cX10_odds 2 = .ok (.invokevirtual 407, 3) := by decide +kernel
theorem dX10_odds_5 : decode cX10_odds 5 = .ok (.astore 4, 2) := by decide +kernel
theorem dX10_odds_7 : decode cX10_odds 7 = .ok (.aload_n 0, 1) := by decide +kernel
theorem dX10_odds_8 : decode cX10_odds 8 = .ok (.iload_n 2, 1) := by decide +kernel
theorem dX10_odds_9 : decode cX10_odds 9 = .ok (.invokevirtual 407, 3) := by decide +kernel
theorem dX10_odds_12 : decode cX10_odds 12 = .ok (.astore 5, 2) := by decide +kernel
theorem dX10_odds_14 : decode cX10_odds 14 = .ok (.aload_n 0, 1) := by decide +kernel
theorem dX10_odds_15 : decode cX10_odds 15 = .ok (.iload_n 3, 1) := by decide +kernel
theorem dX10_odds_16 : decode cX10_odds 16 = .ok (.invokevirtual 407, 3) := by decide +kernel
theorem dX10_odds_19 : decode cX10_odds 19 = .ok (.astore 6, 2) := by decide +kernel
theorem dX10_odds_21 : decode cX10_odds 21 = .ok (.iconst 0, 1) := by decide +kernel
theorem dX10_odds_22 : decode cX10_odds 22 = .ok (.istore 7, 2) := by decide +kernel
theorem dX10_odds_24 : decode cX10_odds 24 = .ok (.iconst 0, 1) := by decide +kernel
theorem dX10_odds_25 : decode cX10_odds 25 = .ok (.istore 8, 2) := by decide +kernel
theorem dX10_odds_27 : decode cX10_odds 27 = .ok (.iload 8, 2) := by decide +kernel
theorem dX10_odds_29 : decode cX10_odds 29 = .ok (.bipush 60, 2) := by decide +kernel
theorem dX10_odds_31 : decode cX10_odds 31 = .ok (.if_icmp .ge 48, 3) := by decide +kernel
theorem dX10_odds_34 : decode cX10_odds 34 = .ok (.aload 4, 2) := by decide +kernel
theorem dX10_odds_36 : decode cX10_odds 36 = .ok (.aload 5, 2) := by decide +kernel
theorem dX10_odds_38 : decode cX10_odds 38 = .ok (.iload 8, 2) := by decide +kernel
theorem dX10_odds_40 : decode cX10_odds 40 = .ok (.invokevirtual 431, 3) := by decide +kernel
theorem dX10_odds_43 : decode cX10_odds 43 = .ok (.ifCond .eq 30, 3) := by decide +kernel
theorem dX10_odds_46 : decode cX10_odds 46 = .ok (.aload 5, 2) := by decide +kernel
theorem dX10_odds_48 : decode cX10_odds 48 = .ok (.aload 6, 2) := by decide +kernel
theorem dX10_odds_50 : decode cX10_odds 50 = .ok (.iload 8, 2) := by decide +kernel
theorem dX10_odds_52 : decode cX10_odds 52 = .ok (.invokevirtual 431, 3) := by decide +kernel
theorem dX10_odds_55 : decode cX10_odds 55 = .ok (.ifCond .eq 18, 3) := by decide +kernel
theorem dX10_odds_58 : decode cX10_odds 58 = .ok (.aload 6, 2) := by decide +kernel
theorem dX10_odds_60 : decode cX10_odds 60 = .ok (.aload 4, 2) := by decide +kernel
theorem dX10_odds_62 : decode cX10_odds 62 = .ok (.iload 8, 2) := by decide +kernel
theorem dX10_odds_64 : decode cX10_odds 64 = .ok (.invokevirtual 431, 3) := by decide +kernel
theorem dX10_odds_67 : decode cX10_odds 67 = .ok (.ifCond .eq 6, 3) := by decide +kernel
theorem dX10_odds_70 : decode cX10_odds 70 = .ok (.iinc 7 1, 3) := by decide +kernel
theorem dX10_odds_73 : decode cX10_odds 73 = .ok (.iinc 8 1, 3) := by decide +kernel
theorem dX10_odds_76 : decode cX10_odds 76 = .ok (.goto (-49), 3) := by decide +kernel
theorem dX10_odds_79 : decode cX10_odds 79 = .ok (.iload 7, 2) := by decide +kernel
theorem dX10_odds_81 : decode cX10_odds 81 = .ok (.ireturn, 1) := by decide +kernel
abbrev cX10_hide : ByteArray := prog_1_method_55_code
def yX10_hide : MethodName := ⟨RX10, "hide", "(I)Z"⟩
theorem dX10_hide_0 : decode cX10_hide 0 = .ok (.aload_n 0, 1) := by decide +kernel
theorem dX10_hide_1 : decode cX10_hide 1 = .ok (.iload_n 1, 1) := by decide +kernel
theorem dX10_hide_2 : decode cX10_hide 2 = .ok (.invokevirtual 262, 3) := by decide +kernel
theorem dX10_hide_5 : decode cX10_hide 5 = .ok (.aload_n 0, 1) := by decide +kernel
theorem dX10_hide_6 : decode cX10_hide 6 = .ok (.getfield 91, 3) := by decide +kernel
theorem dX10_hide_9 : decode cX10_hide 9 = .ok (.iload_n 1, 1) := by decide +kernel
theorem dX10_hide_10 : decode cX10_hide 10 = .ok (.invokestatic 315, 3) := by decide +kernel
theorem dX10_hide_13 : decode cX10_hide 13 = .ok (.ifCond .ne 25, 3) := by decide +kernel
theorem dX10_hide_16 : decode cX10_hide 16 = .ok (.aload_n 0, 1) := by decide +kernel
theorem dX10_hide_17 : decode cX10_hide 17 = .ok (.getfield 91, 3) := by decide +kernel
theorem dX10_hide_20 : decode cX10_hide 20 = .ok (.invokestatic 309, 3) := by decide +kernel
theorem dX10_hide_23 : decode cX10_hide 23 = .ok (.iconst 3, 1) := by decide +kernel
theorem dX10_hide_24 : decode cX10_hide 24 = .ok (.if_icmp .lt 14, 3) := by decide +kernel
theorem dX10_hide_27 : decode cX10_hide 27 = .ok (.new 149, 3) := by decide +kernel
theorem dX10_hide_30 : decode cX10_hide 30 = .ok (.dup, 1) := by decide +kernel
theorem dX10_hide_31 : decode cX10_hide 31 = .ok (.ldc_w 435, 3) := by decide +kernel
theorem dX10_hide_34 : decode cX10_hide 34 = .ok (.invokespecial 153, 3) := by decide +kernel
theorem dX10_hide_37 : decode cX10_hide 37 = .ok (.athrow, 1) := by decide +kernel
theorem dX10_hide_38 : decode cX10_hide 38 = .ok (.aload_n 0, 1) := by decide +kernel
theorem dX10_hide_39 : decode cX10_hide 39 = .ok (.dup, 1) := by decide +kernel
theorem dX10_hide_40 : decode cX10_hide 40 = .ok (.getfield 91, 3) := by decide +kernel
theorem dX10_hide_43 : decode cX10_hide 43 = .ok (.iload_n 1, 1) := by decide +kernel
theorem dX10_hide_44 : decode cX10_hide 44 = .ok (.invokestatic 372, 3) := by decide +kernel
theorem dX10_hide_47 : decode cX10_hide 47 = .ok (.lxor, 1) := by decide +kernel
theorem dX10_hide_48 : decode cX10_hide 48 = .ok (.putfield 91, 3) := by decide +kernel
theorem dX10_hide_51 : decode cX10_hide 51 = .ok (.aload_n 0, 1) := by decide +kernel
theorem dX10_hide_52 : decode cX10_hide 52 = .ok (.iconst 1, 1) := by decide +kernel
theorem dX10_hide_53 : decode cX10_hide 53 = .ok (.putfield 102, 3) := by decide +kernel
theorem dX10_hide_56 : decode cX10_hide 56 = .ok (.aload_n 0, 1) := by decide +kernel
theorem dX10_hide_57 : decode cX10_hide 57 = .ok (.getfield 91, 3) := by decide +kernel
theorem dX10_hide_60 : decode cX10_hide 60 = .ok (.iload_n 1, 1) := by decide +kernel
theorem dX10_hide_61 : decode cX10_hide 61 = .ok (.invokestatic 315, 3) := by decide +kernel
theorem dX10_hide_64 : decode cX10_hide 64 = .ok (.ireturn, 1) := by decide +kernel
abbrev cX10_isSeen : ByteArray := prog_1_method_56_code
def yX10_isSeen : MethodName := ⟨RX10, "isSeen", "(I)Z"⟩
theorem dX10_isSeen_0 : decode cX10_isSeen 0 = .ok (.aload_n 0, 1) := by decide +kernel
theorem dX10_isSeen_1 : decode cX10_isSeen 1 = .ok (.iload_n 1, 1) := by decide +kernel
theorem dX10_isSeen_2 : decode cX10_isSeen 2 = .ok (.invokevirtual 146, 3) := by decide +kernel
theorem dX10_isSeen_5 : decode cX10_isSeen 5 = .ok (.aload_n 0, 1) := by decide +kernel
theorem dX10_isSeen_6 : decode cX10_isSeen 6 = .ok (.invokevirtual 294, 3) := by decide +kernel
theorem dX10_isSeen_9 : decode cX10_isSeen 9 = .ok (.aload_n 0, 1) := by decide +kernel
theorem dX10_isSeen_10 : decode cX10_isSeen 10 = .ok (.getfield 12, 3) := by decide +kernel
theorem dX10_isSeen_13 : decode cX10_isSeen 13 = .ok (.getfield 115, 3) := by decide +kernel
theorem dX10_isSeen_16 : decode cX10_isSeen 16 = .ok (.iload_n 1, 1) := by decide +kernel
theorem dX10_isSeen_17 : decode cX10_isSeen 17 = .ok (.invokevirtual 229, 3) := by decide +kernel
theorem dX10_isSeen_20 : decode cX10_isSeen 20 = .ok (.invokevirtual 437, 3) := by decide +kernel
theorem dX10_isSeen_23 : decode cX10_isSeen 23 = .ok (.ireturn, 1) := by decide +kernel
theorem tk_RX10_3 : Cond.methodLink RX10 3 Lib.objectInit ∈ tq_G := tq_g (i := 79) (by decide +kernel) rfl
theorem tk_RX10_9 : Cond.classLink RX10 9 RX8 ∈ tq_G := tq_g (i := 82) (by decide +kernel) rfl
theorem tk_in8 : Cond.instantiable RX8 11 ∈ tq_G := tq_g (i := 83) (by decide +kernel) rfl
theorem tk_ini8 : Cond.initialized RX8 ∈ tq_G := tq_g (i := 54) (by decide +kernel) rfl
theorem tk_RX10_11 : Cond.methodLinkNest RX10 11 yX8_init "Treequery" ∈ tq_B := List.mem_filter.mpr ⟨List.mem_of_getElem? (i := 84) (by decide +kernel), rfl⟩
theorem tk_RX10_12 : Cond.fieldLink RX10 12 RX10 (TX10 0).2.1 (TX10 0).2.2.1 ∈ tq_G := tq_g (i := 513) (by decide +kernel) rfl
theorem tk_RX10_16 : Cond.fieldLink RX10 16 RX10 (TX10 1).2.1 (TX10 1).2.2.1 ∈ tq_G := tq_g (i := 514) (by decide +kernel) rfl
theorem tk_RX10_19 : Cond.classLink RX10 19 RX9 ∈ tq_G := tq_g (i := 208) (by decide +kernel) rfl
theorem tk_in9 : Cond.instantiable RX9 12 ∈ tq_G := tq_g (i := 209) (by decide +kernel) rfl
theorem tk_ini9 : Cond.initialized RX9 ∈ tq_G := tq_g (i := 59) (by decide +kernel) rfl
theorem tk_RX10_21 : Cond.methodLinkNest RX10 21 yX9_init "Treequery" ∈ tq_B := List.mem_filter.mpr ⟨List.mem_of_getElem? (i := 210) (by decide +kernel), rfl⟩
theorem tk_RX10_22 : Cond.fieldLink RX10 22 RX10 (TX10 2).2.1 (TX10 2).2.2.1 ∈ tq_G := tq_g (i := 515) (by decide +kernel) rfl
theorem tk_RX10_26 : Cond.classLink RX10 26 RX4 ∈ tq_G := tq_g (i := 253) (by decide +kernel) rfl
theorem tk_in4 : Cond.instantiable RX4 10 ∈ tq_G := tq_g (i := 254) (by decide +kernel) rfl
theorem tk_ini4 : Cond.initialized RX4 ∈ tq_G := tq_g (i := 60) (by decide +kernel) rfl
theorem tk_RX10_28 : Cond.methodLinkNest RX10 28 yX4_init "Treequery" ∈ tq_B := List.mem_filter.mpr ⟨List.mem_of_getElem? (i := 255) (by decide +kernel), rfl⟩
theorem tk_RX10_29 : Cond.fieldLink RX10 29 RX10 (TX10 3).2.1 (TX10 3).2.2.1 ∈ tq_G := tq_g (i := 516) (by decide +kernel) rfl
theorem tk_RX10_33 : Cond.classLink RX10 33 RX2 ∈ tq_G := tq_g (i := 292) (by decide +kernel) rfl
theorem tk_in2 : Cond.instantiable RX2 8 ∈ tq_G := tq_g (i := 293) (by decide +kernel) rfl
theorem tk_ini2 : Cond.initialized RX2 ∈ tq_G := tq_g (i := 61) (by decide +kernel) rfl
theorem tk_RX10_35 : Cond.methodLink RX10 35 yX2_init ∈ tq_G := tq_g (i := 294) (by decide +kernel) rfl
theorem tk_RX10_38 : Cond.fieldLink RX10 38 RX10 (TX10 4).2.1 (TX10 4).2.2.1 ∈ tq_G := tq_g (i := 517) (by decide +kernel) rfl
theorem tk_RX10_42 : Cond.fieldLink RX10 42 RX10 (TX10 5).2.1 (TX10 5).2.2.1 ∈ tq_G := tq_g (i := 518) (by decide +kernel) rfl
theorem tk_RX10_45 : Cond.classLink RX10 45 RX6 ∈ tq_G := tq_g (i := 327) (by decide +kernel) rfl
theorem tk_in6 : Cond.instantiable RX6 11 ∈ tq_G := tq_g (i := 328) (by decide +kernel) rfl
theorem tk_ini6 : Cond.initialized RX6 ∈ tq_G := tq_g (i := 62) (by decide +kernel) rfl
theorem tk_RX10_47 : Cond.methodLinkNest RX10 47 yX6_init "Treequery" ∈ tq_B := List.mem_filter.mpr ⟨List.mem_of_getElem? (i := 329) (by decide +kernel), rfl⟩
theorem tk_RX10_48 : Cond.fieldLink RX10 48 RX10 (TX10 6).2.1 (TX10 6).2.2.1 ∈ tq_G := tq_g (i := 519) (by decide +kernel) rfl
theorem tk_RX10_52 : Cond.fieldLink RX10 52 RX10 (TX10 7).2.1 (TX10 7).2.2.1 ∈ tq_G := tq_g (i := 520) (by decide +kernel) rfl
theorem tk_RX10_56 : Cond.classLink RX10 56 RX5 ∈ tq_G := tq_g (i := 370) (by decide +kernel) rfl
theorem tk_RX10_58 : Cond.methodLink RX10 58 yX5_init ∈ tq_G := tq_g (i := 371) (by decide +kernel) rfl
theorem tk_RX10_61 : Cond.fieldLink RX10 61 RX10 (TX10 8).2.1 (TX10 8).2.2.1 ∈ tq_G := tq_g (i := 521) (by decide +kernel) rfl
theorem tk_RX10_65 : Cond.fieldLink RX10 65 RX10 (TX10 9).2.1 (TX10 9).2.2.1 ∈ tq_G := tq_g (i := 522) (by decide +kernel) rfl
theorem tk_RX10_68 : Cond.classLink RX10 68 RX7 ∈ tq_G := tq_g (i := 372) (by decide +kernel) rfl
theorem tk_RX10_70 : Cond.methodLink RX10 70 yX7_init ∈ tq_G := tq_g (i := 373) (by decide +kernel) rfl
theorem tk_RX10_73 : Cond.fieldLink RX10 73 RX10 (TX10 10).2.1 (TX10 10).2.2.1 ∈ tq_G := tq_g (i := 523) (by decide +kernel) rfl
theorem tk_RX10_77 : Cond.fieldLink RX10 77 RX10 (TX10 11).2.1 (TX10 11).2.2.1 ∈ tq_G := tq_g (i := 524) (by decide +kernel) rfl
theorem tk_RX10_81 : Cond.fieldLink RX10 81 RX10 (TX10 12).2.1 (TX10 12).2.2.1 ∈ tq_G := tq_g (i := 525) (by decide +kernel) rfl
theorem tk_RX10_85 : Cond.fieldLink RX10 85 RX10 (TX10 13).2.1 (TX10 13).2.2.1 ∈ tq_G := tq_g (i := 526) (by decide +kernel) rfl
theorem tk_RX10_88 : Cond.fieldLink RX10 88 RX10 (TX10 14).2.1 (TX10 14).2.2.1 ∈ tq_G := tq_g (i := 527) (by decide +kernel) rfl
theorem tk_RX10_91 : Cond.fieldLink RX10 91 RX10 (TX10 15).2.1 (TX10 15).2.2.1 ∈ tq_G := tq_g (i := 528) (by decide +kernel) rfl
theorem tk_RX10_95 : Cond.fieldLink RX10 95 RX10 (TX10 16).2.1 (TX10 16).2.2.1 ∈ tq_G := tq_g (i := 529) (by decide +kernel) rfl
theorem tk_RX10_98 : Cond.fieldLink RX10 98 RX10 (TX10 17).2.1 (TX10 17).2.2.1 ∈ tq_G := tq_g (i := 530) (by decide +kernel) rfl
theorem tk_RX10_102 : Cond.fieldLink RX10 102 RX10 (TX10 18).2.1 (TX10 18).2.2.1 ∈ tq_G := tq_g (i := 531) (by decide +kernel) rfl
theorem tk_RX10_105 : Cond.methodLink RX10 105 yX8_make ∈ tq_G := tq_g (i := 374) (by decide +kernel) rfl
theorem tk_RX10_109 : Cond.methodLink RX10 109 yX8_layOut ∈ tq_G := tq_g (i := 382) (by decide +kernel) rfl
theorem tk_RX10_112 : Cond.methodLink RX10 112 yX8_numberAnew ∈ tq_G := tq_g (i := 454) (by decide +kernel) rfl
theorem tk_RX10_115 : Cond.fieldLink RX10 115 RX8 (TX8 0).2.1 (TX8 0).2.2.1 ∈ tq_G := tq_g (i := 163) (by decide +kernel) rfl
theorem tk_RX10_119 : Cond.methodLink RX10 119 yX3_everything ∈ tq_G := tq_g (i := 471) (by decide +kernel) rfl
theorem tk_RX10_125 : Cond.methodLink RX10 125 yX2_start ∈ tq_G := tq_g (i := 475) (by decide +kernel) rfl
theorem tk_y_X2_start : tq_yok yX2_start cX2_start 4 none 1 := ⟨tq_g (i := 478) (by decide +kernel) rfl, tq_g (i := 61) (by decide +kernel) rfl, ⟨by decide +kernel, by decide +kernel⟩, by decide +kernel, by decide⟩
theorem tk_v_X2_start : tq_vok yX2_start := ⟨tq_g (i := 476) (by decide +kernel) rfl, tq_g (i := 477) (by decide +kernel) rfl⟩
theorem tk_y_X3_everything : tq_yok yX3_everything cX3_everything 1 (some .long) 0 := ⟨tq_g (i := 474) (by decide +kernel) rfl, tq_g (i := 55) (by decide +kernel) rfl, ⟨by decide +kernel, by decide +kernel⟩, by decide +kernel, by decide⟩
theorem tk_v_X3_everything : tq_vok yX3_everything := ⟨tq_g (i := 472) (by decide +kernel) rfl, tq_g (i := 473) (by decide +kernel) rfl⟩
theorem tk_y_X8_numberAnew : tq_yok yX8_numberAnew cX8_numberAnew 3 none 0 := ⟨tq_g (i := 457) (by decide +kernel) rfl, tq_g (i := 54) (by decide +kernel) rfl, ⟨by decide +kernel, by decide +kernel⟩, by decide +kernel, by decide⟩
theorem tk_v_X8_numberAnew : tq_vok yX8_numberAnew := ⟨tq_g (i := 455) (by decide +kernel) rfl, tq_g (i := 456) (by decide +kernel) rfl⟩
theorem tk_y_X6_init : tq_yok yX6_init cX6_init 1 none 0 := ⟨tq_g (i := 331) (by decide +kernel) rfl, tq_g (i := 62) (by decide +kernel) rfl, ⟨by decide +kernel, by decide +kernel⟩, by decide +kernel, by decide⟩
theorem tk_v_X6_init : Cond.instanceMethod yX6_init ∈ tq_G := tq_g (i := 330) (by decide +kernel) rfl
theorem tk_y_X2_init : tq_yok yX2_init cX2_init 3 none 2 := ⟨tq_g (i := 296) (by decide +kernel) rfl, tq_g (i := 61) (by decide +kernel) rfl, ⟨by decide +kernel, by decide +kernel⟩, by decide +kernel, by decide⟩
theorem tk_v_X2_init : Cond.instanceMethod yX2_init ∈ tq_G := tq_g (i := 295) (by decide +kernel) rfl
theorem tk_y_X4_init : tq_yok yX4_init cX4_init 1 none 0 := ⟨tq_g (i := 257) (by decide +kernel) rfl, tq_g (i := 60) (by decide +kernel) rfl, ⟨by decide +kernel, by decide +kernel⟩, by decide +kernel, by decide⟩
theorem tk_v_X4_init : Cond.instanceMethod yX4_init ∈ tq_G := tq_g (i := 256) (by decide +kernel) rfl
theorem tk_y_X9_init : tq_yok yX9_init cX9_init 1 none 0 := ⟨tq_g (i := 212) (by decide +kernel) rfl, tq_g (i := 59) (by decide +kernel) rfl, ⟨by decide +kernel, by decide +kernel⟩, by decide +kernel, by decide⟩
theorem tk_v_X9_init : Cond.instanceMethod yX9_init ∈ tq_G := tq_g (i := 211) (by decide +kernel) rfl
theorem tk_y_X8_init : tq_yok yX8_init cX8_init 1 none 0 := ⟨tq_g (i := 86) (by decide +kernel) rfl, tq_g (i := 54) (by decide +kernel) rfl, ⟨by decide +kernel, by decide +kernel⟩, by decide +kernel, by decide⟩
theorem tk_v_X8_init : Cond.instanceMethod yX8_init ∈ tq_G := tq_g (i := 85) (by decide +kernel) rfl
theorem tk_RX10_222 : Cond.methodLink RX10 222 yX3_holds ∈ tq_G := tq_g (i := 602) (by decide +kernel) rfl
theorem tk_RX10_146 : Cond.methodLink RX10 146 yX10_needNode ∈ tq_G := tq_g (i := 598) (by decide +kernel) rfl
theorem tk_RX10_445 : Cond.methodLink RX10 445 yX3_childCount ∈ tq_G := tq_g (i := 674) (by decide +kernel) rfl
theorem tk_y_X10_needNode : tq_yok yX10_needNode cX10_needNode 2 none 1 := ⟨tq_g (i := 601) (by decide +kernel) rfl, tq_g (i := 53) (by decide +kernel) rfl, ⟨by decide +kernel, by decide +kernel⟩, by decide +kernel, by decide⟩
theorem tk_v_X10_needNode : tq_vok yX10_needNode := ⟨tq_g (i := 600) (by decide +kernel) rfl, tq_g (i := 2) (by decide +kernel) rfl⟩
theorem tk_RX10_159 : Cond.fieldLink RX10 159 RX8 (TX8 1).2.1 (TX8 1).2.2.1 ∈ tq_G := tq_g (i := 168) (by decide +kernel) rfl
theorem tk_RX10_162 : Cond.methodLink RX10 162 yX5_get ∈ tq_G := tq_g (i := 704) (by decide +kernel) rfl
theorem tk_RX10_411 : Cond.methodLink RX10 411 yX9_count ∈ tq_G := tq_g (i := 725) (by decide +kernel) rfl
theorem tk_y_X9_count : tq_yok yX9_count cX9_count 1 (some .int) 0 := ⟨tq_g (i := 728) (by decide +kernel) rfl, tq_g (i := 59) (by decide +kernel) rfl, ⟨by decide +kernel, by decide +kernel⟩, by decide +kernel, by decide⟩
theorem tk_v_X9_count : tq_vok yX9_count := ⟨tq_g (i := 726) (by decide +kernel) rfl, tq_g (i := 727) (by decide +kernel) rfl⟩
theorem tk_RX10_129 : Cond.methodLink RX10 129 yX10_needPlaceIn ∈ tq_G := tq_g (i := 594) (by decide +kernel) rfl
theorem tk_kb_7 : (Int8.ofInt (7)).toInt32 = (7 : Int32) := by decide +kernel
theorem tk_RX10_132 : Cond.methodLink RX10 132 yX10_needRange ∈ tq_G := tq_g (i := 680) (by decide +kernel) rfl
theorem tk_RX10_136 : Cond.methodLink RX10 136 yX10_needElement ∈ tq_G := tq_g (i := 700) (by decide +kernel) rfl
theorem tk_RX10_139 : Cond.methodLink RX10 139 yX10_needRoom ∈ tq_G := tq_g (i := 721) (by decide +kernel) rfl
theorem tk_RX10_142 : Cond.methodLink RX10 142 yX9_addInsert ∈ tq_G := tq_g (i := 730) (by decide +kernel) rfl
theorem tk_y_X9_addInsert : tq_yok yX9_addInsert cX9_addInsert 6 (some .int) 5 := ⟨tq_g (i := 733) (by decide +kernel) rfl, tq_g (i := 59) (by decide +kernel) rfl, ⟨by decide +kernel, by decide +kernel⟩, by decide +kernel, by decide⟩
theorem tk_v_X9_addInsert : tq_vok yX9_addInsert := ⟨tq_g (i := 731) (by decide +kernel) rfl, tq_g (i := 732) (by decide +kernel) rfl⟩
theorem tk_y_X10_needRoom : tq_yok yX10_needRoom cX10_needRoom 1 none 0 := ⟨tq_g (i := 724) (by decide +kernel) rfl, tq_g (i := 53) (by decide +kernel) rfl, ⟨by decide +kernel, by decide +kernel⟩, by decide +kernel, by decide⟩
theorem tk_v_X10_needRoom : tq_vok yX10_needRoom := ⟨tq_g (i := 723) (by decide +kernel) rfl, tq_g (i := 6) (by decide +kernel) rfl⟩
theorem tk_y_X10_needElement : tq_yok yX10_needElement cX10_needElement 2 none 1 := ⟨tq_g (i := 703) (by decide +kernel) rfl, tq_g (i := 53) (by decide +kernel) rfl, ⟨by decide +kernel, by decide +kernel⟩, by decide +kernel, by decide⟩
theorem tk_v_X10_needElement : tq_vok yX10_needElement := ⟨tq_g (i := 702) (by decide +kernel) rfl, tq_g (i := 5) (by decide +kernel) rfl⟩
theorem tk_y_X10_needRange : tq_yok yX10_needRange cX10_needRange 4 none 3 := ⟨tq_g (i := 683) (by decide +kernel) rfl, tq_g (i := 53) (by decide +kernel) rfl, ⟨by decide +kernel, by decide +kernel⟩, by decide +kernel, by decide⟩
theorem tk_v_X10_needRange : tq_vok yX10_needRange := ⟨tq_g (i := 682) (by decide +kernel) rfl, tq_g (i := 4) (by decide +kernel) rfl⟩
theorem tk_y_X10_needPlaceIn : tq_yok yX10_needPlaceIn cX10_needPlaceIn 3 none 2 := ⟨tq_g (i := 597) (by decide +kernel) rfl, tq_g (i := 53) (by decide +kernel) rfl, ⟨by decide +kernel, by decide +kernel⟩, by decide +kernel, by decide⟩
theorem tk_v_X10_needPlaceIn : tq_vok yX10_needPlaceIn := ⟨tq_g (i := 596) (by decide +kernel) rfl, tq_g (i := 1) (by decide +kernel) rfl⟩
theorem tk_ks_999 : (Int16.ofInt (999)).toInt32 = (999 : Int32) := by decide +kernel
theorem tk_RX10_156 : Cond.methodLink RX10 156 yX9_addChange ∈ tq_G := tq_g (i := 1093) (by decide +kernel) rfl
theorem tk_y_X9_addChange : tq_yok yX9_addChange cX9_addChange 4 (some .int) 3 := ⟨tq_g (i := 1096) (by decide +kernel) rfl, tq_g (i := 59) (by decide +kernel) rfl, ⟨by decide +kernel, by decide +kernel⟩, by decide +kernel, by decide⟩
theorem tk_v_X9_addChange : tq_vok yX9_addChange := ⟨tq_g (i := 1094) (by decide +kernel) rfl, tq_g (i := 1095) (by decide +kernel) rfl⟩
theorem tk_RX10_172 : Cond.methodLink RX10 172 yX9_addMove ∈ tq_G := tq_g (i := 1128) (by decide +kernel) rfl
theorem tk_y_X9_addMove : tq_yok yX9_addMove cX9_addMove 4 (some .int) 3 := ⟨tq_g (i := 1131) (by decide +kernel) rfl, tq_g (i := 59) (by decide +kernel) rfl, ⟨by decide +kernel, by decide +kernel⟩, by decide +kernel, by decide⟩
theorem tk_v_X9_addMove : tq_vok yX9_addMove := ⟨tq_g (i := 1129) (by decide +kernel) rfl, tq_g (i := 1130) (by decide +kernel) rfl⟩
theorem tk_RX10_305 : Cond.methodLink RX10 305 yX2_foundFrom ∈ tq_G := tq_g (i := 945) (by decide +kernel) rfl
theorem tk_RX10_494 : Cond.methodLink RX10 494 yX3_nodesOf ∈ tq_G := tq_g (i := 949) (by decide +kernel) rfl
theorem tk_y_X3_nodesOf : tq_yok yX3_nodesOf cX3_nodesOf 6 (some .long) 1 := ⟨tq_g (i := 952) (by decide +kernel) rfl, tq_g (i := 55) (by decide +kernel) rfl, ⟨by decide +kernel, by decide +kernel⟩, by decide +kernel, by decide⟩
theorem tk_v_X3_nodesOf : tq_vok yX3_nodesOf := ⟨tq_g (i := 950) (by decide +kernel) rfl, tq_g (i := 951) (by decide +kernel) rfl⟩
theorem tk_RX10_302 : Cond.methodLink RX10 302 yX2_prepare ∈ tq_G := tq_g (i := 841) (by decide +kernel) rfl
theorem tk_RX10_486 : Cond.methodLink RX10 486 yX10_viewedNodes ∈ tq_G := tq_g (i := 941) (by decide +kernel) rfl
theorem tk_RX10_489 : Cond.methodLink RX10 489 yX7_set ∈ tq_G := tq_g (i := 953) (by decide +kernel) rfl
theorem tk_y_X10_viewedNodes : tq_yok yX10_viewedNodes cX10_viewedNodes 2 (some .long) 1 := ⟨tq_g (i := 944) (by decide +kernel) rfl, tq_g (i := 53) (by decide +kernel) rfl, ⟨by decide +kernel, by decide +kernel⟩, by decide +kernel, by decide⟩
theorem tk_v_X10_viewedNodes : tq_vok yX10_viewedNodes := ⟨tq_g (i := 943) (by decide +kernel) rfl, tq_g (i := 19) (by decide +kernel) rfl⟩
theorem tk_y_X2_prepare : tq_yok yX2_prepare cX2_prepare 4 none 1 := ⟨tq_g (i := 844) (by decide +kernel) rfl, tq_g (i := 61) (by decide +kernel) rfl, ⟨by decide +kernel, by decide +kernel⟩, by decide +kernel, by decide⟩
theorem tk_v_X2_prepare : tq_vok yX2_prepare := ⟨tq_g (i := 842) (by decide +kernel) rfl, tq_g (i := 843) (by decide +kernel) rfl⟩
theorem tk_RX10_403 : Cond.methodLink RX10 403 yX8_copy ∈ tq_G := tq_g (i := 750) (by decide +kernel) rfl
theorem tk_RX10_492 : Cond.methodLink RX10 492 yX7_get ∈ tq_G := tq_g (i := 954) (by decide +kernel) rfl
theorem tk_RX10_309 : Cond.methodLink RX10 309 yJ13_bitCount_95d88 ∈ tq_G := tq_g (i := 955) (by decide +kernel) rfl
theorem tk_RX10_392 : Cond.methodLink RX10 392 yX5_set ∈ tq_G := tq_g (i := 956) (by decide +kernel) rfl
theorem tk_y_X8_copy : tq_yok yX8_copy cX8_copy 2 none 1 := ⟨tq_g (i := 753) (by decide +kernel) rfl, tq_g (i := 54) (by decide +kernel) rfl, ⟨by decide +kernel, by decide +kernel⟩, by decide +kernel, by decide⟩
theorem tk_v_X8_copy : tq_vok yX8_copy := ⟨tq_g (i := 751) (by decide +kernel) rfl, tq_g (i := 752) (by decide +kernel) rfl⟩
theorem tk_RX10_175 : Cond.methodLink RX10 175 yX9_canBeDone ∈ tq_G := tq_g (i := 1585) (by decide +kernel) rfl
theorem tk_RX10_181 : Cond.methodLink RX10 181 yX9_build ∈ tq_G := tq_g (i := 1605) (by decide +kernel) rfl
theorem tk_RX10_185 : Cond.methodLink RX10 185 yX8_isTangled ∈ tq_G := tq_g (i := 1641) (by decide +kernel) rfl
theorem tk_RX10_189 : Cond.methodLink RX10 189 yX8_hasTwins ∈ tq_G := tq_g (i := 1645) (by decide +kernel) rfl
theorem tk_RX10_194 : Cond.methodLink RX10 194 yX6_isStrict ∈ tq_G := tq_g (i := 783) (by decide +kernel) rfl
theorem tk_RX10_202 : Cond.methodLink RX10 202 yX9_fresh ∈ tq_G := tq_g (i := 1652) (by decide +kernel) rfl
theorem tk_RX10_205 : Cond.methodLink RX10 205 yX8_numberFresh ∈ tq_G := tq_g (i := 1656) (by decide +kernel) rfl
theorem tk_RX10_209 : Cond.methodLink RX10 209 yX10_settle ∈ tq_G := tq_g (i := 837) (by decide +kernel) rfl
theorem tk_RX10_212 : Cond.methodLink RX10 212 yX9_empty ∈ tq_G := tq_g (i := 575) (by decide +kernel) rfl
theorem tk_RX10_216 : Cond.methodLink RX10 216 yX3_count ∈ tq_G := tq_g (i := 583) (by decide +kernel) rfl
theorem tk_y_X9_empty : tq_yok yX9_empty cX9_empty 2 (some .int) 0 := ⟨tq_g (i := 578) (by decide +kernel) rfl, tq_g (i := 59) (by decide +kernel) rfl, ⟨by decide +kernel, by decide +kernel⟩, by decide +kernel, by decide⟩
theorem tk_v_X9_empty : tq_vok yX9_empty := ⟨tq_g (i := 576) (by decide +kernel) rfl, tq_g (i := 577) (by decide +kernel) rfl⟩
theorem tk_y_X10_settle : tq_yok yX10_settle cX10_settle 2 none 0 := ⟨tq_g (i := 840) (by decide +kernel) rfl, tq_g (i := 53) (by decide +kernel) rfl, ⟨by decide +kernel, by decide +kernel⟩, by decide +kernel, by decide⟩
theorem tk_v_X10_settle : tq_vok yX10_settle := ⟨tq_g (i := 839) (by decide +kernel) rfl, tq_g (i := 12) (by decide +kernel) rfl⟩
theorem tk_y_X8_numberFresh : tq_yok yX8_numberFresh cX8_numberFresh 7 (some .boolean) 1 := ⟨tq_g (i := 1659) (by decide +kernel) rfl, tq_g (i := 54) (by decide +kernel) rfl, ⟨by decide +kernel, by decide +kernel⟩, by decide +kernel, by decide⟩
theorem tk_v_X8_numberFresh : tq_vok yX8_numberFresh := ⟨tq_g (i := 1657) (by decide +kernel) rfl, tq_g (i := 1658) (by decide +kernel) rfl⟩
theorem tk_y_X9_fresh : tq_yok yX9_fresh cX9_fresh 1 (some .long) 0 := ⟨tq_g (i := 1655) (by decide +kernel) rfl, tq_g (i := 59) (by decide +kernel) rfl, ⟨by decide +kernel, by decide +kernel⟩, by decide +kernel, by decide⟩
theorem tk_v_X9_fresh : tq_vok yX9_fresh := ⟨tq_g (i := 1653) (by decide +kernel) rfl, tq_g (i := 1654) (by decide +kernel) rfl⟩
theorem tk_RX10_197 : Cond.methodLink RX10 197 yX6_admits ∈ tq_G := tq_g (i := 787) (by decide +kernel) rfl
theorem tk_y_X6_admits : tq_yok yX6_admits cX6_admits 2 (some .boolean) 1 := ⟨tq_g (i := 790) (by decide +kernel) rfl, tq_g (i := 62) (by decide +kernel) rfl, ⟨by decide +kernel, by decide +kernel⟩, by decide +kernel, by decide⟩
theorem tk_v_X6_admits : tq_vok yX6_admits := ⟨tq_g (i := 788) (by decide +kernel) rfl, tq_g (i := 789) (by decide +kernel) rfl⟩
theorem tk_y_X6_isStrict : tq_yok yX6_isStrict cX6_isStrict 1 (some .boolean) 0 := ⟨tq_g (i := 786) (by decide +kernel) rfl, tq_g (i := 62) (by decide +kernel) rfl, ⟨by decide +kernel, by decide +kernel⟩, by decide +kernel, by decide⟩
theorem tk_v_X6_isStrict : tq_vok yX6_isStrict := ⟨tq_g (i := 784) (by decide +kernel) rfl, tq_g (i := 785) (by decide +kernel) rfl⟩
theorem tk_y_X8_hasTwins : tq_yok yX8_hasTwins cX8_hasTwins 5 (some .boolean) 0 := ⟨tq_g (i := 1648) (by decide +kernel) rfl, tq_g (i := 54) (by decide +kernel) rfl, ⟨by decide +kernel, by decide +kernel⟩, by decide +kernel, by decide⟩
theorem tk_v_X8_hasTwins : tq_vok yX8_hasTwins := ⟨tq_g (i := 1646) (by decide +kernel) rfl, tq_g (i := 1647) (by decide +kernel) rfl⟩
theorem tk_y_X8_isTangled : tq_yok yX8_isTangled cX8_isTangled 4 (some .boolean) 0 := ⟨tq_g (i := 1644) (by decide +kernel) rfl, tq_g (i := 54) (by decide +kernel) rfl, ⟨by decide +kernel, by decide +kernel⟩, by decide +kernel, by decide⟩
theorem tk_v_X8_isTangled : tq_vok yX8_isTangled := ⟨tq_g (i := 1642) (by decide +kernel) rfl, tq_g (i := 1643) (by decide +kernel) rfl⟩
theorem tk_y_X9_build : tq_yok yX9_build cX9_build 4 none 2 := ⟨tq_g (i := 1608) (by decide +kernel) rfl, tq_g (i := 59) (by decide +kernel) rfl, ⟨by decide +kernel, by decide +kernel⟩, by decide +kernel, by decide⟩
theorem tk_v_X9_build : tq_vok yX9_build := ⟨tq_g (i := 1606) (by decide +kernel) rfl, tq_g (i := 1607) (by decide +kernel) rfl⟩
theorem tk_y_X9_canBeDone : tq_yok yX9_canBeDone cX9_canBeDone 4 (some .boolean) 1 := ⟨tq_g (i := 1588) (by decide +kernel) rfl, tq_g (i := 59) (by decide +kernel) rfl, ⟨by decide +kernel, by decide +kernel⟩, by decide +kernel, by decide⟩
theorem tk_v_X9_canBeDone : tq_vok yX9_canBeDone := ⟨tq_g (i := 1586) (by decide +kernel) rfl, tq_g (i := 1587) (by decide +kernel) rfl⟩
theorem tk_RX10_219 : Cond.methodLink RX10 219 yX8_madeCount ∈ tq_G := tq_g (i := 829) (by decide +kernel) rfl
theorem tk_RX10_226 : Cond.fieldLink RX10 226 RX8 (TX8 2).2.1 (TX8 2).2.2.1 ∈ tq_G := tq_g (i := 172) (by decide +kernel) rfl
theorem tk_RX10_229 : Cond.methodLink RX10 229 yX3_spotOf ∈ tq_G := tq_g (i := 1153) (by decide +kernel) rfl
theorem tk_RX10_232 : Cond.methodLink RX10 232 yX8_valueAt ∈ tq_G := tq_g (i := 1154) (by decide +kernel) rfl
theorem tk_RX10_236 : Cond.fieldLink RX10 236 RX8 (TX8 5).2.1 (TX8 5).2.2.1 ∈ tq_G := tq_g (i := 178) (by decide +kernel) rfl
theorem tk_RX10_239 : Cond.methodLink RX10 239 yX10_needNotNegative ∈ tq_G := tq_g (i := 1169) (by decide +kernel) rfl
theorem tk_RX10_242 : Cond.methodLink RX10 242 yX3_children ∈ tq_G := tq_g (i := 1174) (by decide +kernel) rfl
theorem tk_RX10_246 : Cond.methodLink RX10 246 yX3_nodeOfSet ∈ tq_G := tq_g (i := 1175) (by decide +kernel) rfl
theorem tk_y_X10_needNotNegative : tq_yok yX10_needNotNegative cX10_needNotNegative 2 none 1 := ⟨tq_g (i := 1172) (by decide +kernel) rfl, tq_g (i := 53) (by decide +kernel) rfl, ⟨by decide +kernel, by decide +kernel⟩, by decide +kernel, by decide⟩
theorem tk_v_X10_needNotNegative : tq_vok yX10_needNotNegative := ⟨tq_g (i := 1171) (by decide +kernel) rfl, tq_g (i := 22) (by decide +kernel) rfl⟩
theorem tk_RX10_250 : Cond.methodLink RX10 250 yX3_spaceAt ∈ tq_G := tq_g (i := 1183) (by decide +kernel) rfl
theorem tk_y_X3_spaceAt : tq_yok yX3_spaceAt cX3_spaceAt 2 (some .int) 1 := ⟨tq_g (i := 1186) (by decide +kernel) rfl, tq_g (i := 55) (by decide +kernel) rfl, ⟨by decide +kernel, by decide +kernel⟩, by decide +kernel, by decide⟩
theorem tk_v_X3_spaceAt : tq_vok yX3_spaceAt := ⟨tq_g (i := 1184) (by decide +kernel) rfl, tq_g (i := 1185) (by decide +kernel) rfl⟩
theorem tk_RX10_253 : Cond.fieldLink RX10 253 RX8 (TX8 6).2.1 (TX8 6).2.2.1 ∈ tq_G := tq_g (i := 180) (by decide +kernel) rfl
theorem tk_RX10_256 : Cond.methodLink RX10 256 yX4_count ∈ tq_G := tq_g (i := 1067) (by decide +kernel) rfl
theorem tk_RX10_259 : Cond.methodLink RX10 259 yX4_addPath ∈ tq_G := tq_g (i := 1679) (by decide +kernel) rfl
theorem tk_y_X4_addPath : tq_yok yX4_addPath cX4_addPath 1 (some .int) 0 := ⟨tq_g (i := 1682) (by decide +kernel) rfl, tq_g (i := 60) (by decide +kernel) rfl, ⟨by decide +kernel, by decide +kernel⟩, by decide +kernel, by decide⟩
theorem tk_v_X4_addPath : tq_vok yX4_addPath := ⟨tq_g (i := 1680) (by decide +kernel) rfl, tq_g (i := 1681) (by decide +kernel) rfl⟩
theorem tk_y_X4_count : tq_yok yX4_count cX4_count 1 (some .int) 0 := ⟨tq_g (i := 1070) (by decide +kernel) rfl, tq_g (i := 60) (by decide +kernel) rfl, ⟨by decide +kernel, by decide +kernel⟩, by decide +kernel, by decide⟩
theorem tk_v_X4_count : tq_vok yX4_count := ⟨tq_g (i := 1068) (by decide +kernel) rfl, tq_g (i := 1069) (by decide +kernel) rfl⟩
theorem tk_RX10_483 : Cond.methodLink RX10 483 yX2_dropFrom ∈ tq_G := tq_g (i := 1255) (by decide +kernel) rfl
theorem tk_RX10_315 : Cond.methodLink RX10 315 yX0_holds ∈ tq_G := tq_g (i := 1205) (by decide +kernel) rfl
theorem tk_y_X2_dropFrom : tq_yok yX2_dropFrom cX2_dropFrom 2 none 1 := ⟨tq_g (i := 1258) (by decide +kernel) rfl, tq_g (i := 61) (by decide +kernel) rfl, ⟨by decide +kernel, by decide +kernel⟩, by decide +kernel, by decide⟩
theorem tk_v_X2_dropFrom : tq_vok yX2_dropFrom := ⟨tq_g (i := 1256) (by decide +kernel) rfl, tq_g (i := 1257) (by decide +kernel) rfl⟩
theorem tk_RX10_262 : Cond.methodLink RX10 262 yX10_needPath ∈ tq_G := tq_g (i := 1232) (by decide +kernel) rfl
theorem tk_RX10_265 : Cond.methodLink RX10 265 yX10_needLower ∈ tq_G := tq_g (i := 1237) (by decide +kernel) rfl
theorem tk_kb_13 : (Int8.ofInt (13)).toInt32 = (13 : Int32) := by decide +kernel
theorem tk_RX10_273 : Cond.methodLink RX10 273 yX10_needOpenPath ∈ tq_G := tq_g (i := 1243) (by decide +kernel) rfl
theorem tk_RX10_276 : Cond.methodLink RX10 276 yX4_stepsOf ∈ tq_G := tq_g (i := 1249) (by decide +kernel) rfl
theorem tk_RX10_281 : Cond.methodLink RX10 281 yX10_noteChangeOf ∈ tq_G := tq_g (i := 1251) (by decide +kernel) rfl
theorem tk_RX10_284 : Cond.methodLink RX10 284 yX4_addStep ∈ tq_G := tq_g (i := 1260) (by decide +kernel) rfl
theorem tk_y_X4_addStep : tq_yok yX4_addStep cX4_addStep 7 (some .int) 4 := ⟨tq_g (i := 1263) (by decide +kernel) rfl, tq_g (i := 60) (by decide +kernel) rfl, ⟨by decide +kernel, by decide +kernel⟩, by decide +kernel, by decide⟩
theorem tk_v_X4_addStep : tq_vok yX4_addStep := ⟨tq_g (i := 1261) (by decide +kernel) rfl, tq_g (i := 1262) (by decide +kernel) rfl⟩
theorem tk_y_X10_noteChangeOf : tq_yok yX10_noteChangeOf cX10_noteChangeOf 2 none 1 := ⟨tq_g (i := 1254) (by decide +kernel) rfl, tq_g (i := 53) (by decide +kernel) rfl, ⟨by decide +kernel, by decide +kernel⟩, by decide +kernel, by decide⟩
theorem tk_v_X10_noteChangeOf : tq_vok yX10_noteChangeOf := ⟨tq_g (i := 1253) (by decide +kernel) rfl, tq_g (i := 27) (by decide +kernel) rfl⟩
theorem tk_y_X10_needOpenPath : tq_yok yX10_needOpenPath cX10_needOpenPath 3 none 1 := ⟨tq_g (i := 1246) (by decide +kernel) rfl, tq_g (i := 53) (by decide +kernel) rfl, ⟨by decide +kernel, by decide +kernel⟩, by decide +kernel, by decide⟩
theorem tk_v_X10_needOpenPath : tq_vok yX10_needOpenPath := ⟨tq_g (i := 1245) (by decide +kernel) rfl, tq_g (i := 26) (by decide +kernel) rfl⟩
theorem tk_y_X10_needLower : tq_yok yX10_needLower cX10_needLower 3 none 2 := ⟨tq_g (i := 1240) (by decide +kernel) rfl, tq_g (i := 53) (by decide +kernel) rfl, ⟨by decide +kernel, by decide +kernel⟩, by decide +kernel, by decide⟩
theorem tk_v_X10_needLower : tq_vok yX10_needLower := ⟨tq_g (i := 1239) (by decide +kernel) rfl, tq_g (i := 25) (by decide +kernel) rfl⟩
theorem tk_y_X10_needPath : tq_yok yX10_needPath cX10_needPath 2 none 1 := ⟨tq_g (i := 1235) (by decide +kernel) rfl, tq_g (i := 53) (by decide +kernel) rfl, ⟨by decide +kernel, by decide +kernel⟩, by decide +kernel, by decide⟩
theorem tk_v_X10_needPath : tq_vok yX10_needPath := ⟨tq_g (i := 1234) (by decide +kernel) rfl, tq_g (i := 24) (by decide +kernel) rfl⟩
theorem tk_RX10_472 : Cond.methodLink RX10 472 yX4_conditionsOfLast ∈ tq_G := tq_g (i := 1278) (by decide +kernel) rfl
theorem tk_y_X4_conditionsOfLast : tq_yok yX4_conditionsOfLast cX4_conditionsOfLast 2 (some .int) 1 := ⟨tq_g (i := 1281) (by decide +kernel) rfl, tq_g (i := 60) (by decide +kernel) rfl, ⟨by decide +kernel, by decide +kernel⟩, by decide +kernel, by decide⟩
theorem tk_v_X4_conditionsOfLast : tq_vok yX4_conditionsOfLast := ⟨tq_g (i := 1279) (by decide +kernel) rfl, tq_g (i := 1280) (by decide +kernel) rfl⟩
theorem tk_kb_99 : (Int8.ofInt (99)).toInt32 = (99 : Int32) := by decide +kernel
theorem tk_RX10_288 : Cond.methodLink RX10 288 yX10_needOpenStep ∈ tq_G := tq_g (i := 1273) (by decide +kernel) rfl
theorem tk_RX10_291 : Cond.methodLink RX10 291 yX4_addCondition ∈ tq_G := tq_g (i := 1283) (by decide +kernel) rfl
theorem tk_y_X4_addCondition : tq_yok yX4_addCondition cX4_addCondition 9 (some .int) 5 := ⟨tq_g (i := 1286) (by decide +kernel) rfl, tq_g (i := 60) (by decide +kernel) rfl, ⟨by decide +kernel, by decide +kernel⟩, by decide +kernel, by decide⟩
theorem tk_v_X4_addCondition : tq_vok yX4_addCondition := ⟨tq_g (i := 1284) (by decide +kernel) rfl, tq_g (i := 1285) (by decide +kernel) rfl⟩
theorem tk_y_X10_needOpenStep : tq_yok yX10_needOpenStep cX10_needOpenStep 2 none 1 := ⟨tq_g (i := 1276) (by decide +kernel) rfl, tq_g (i := 53) (by decide +kernel) rfl, ⟨by decide +kernel, by decide +kernel⟩, by decide +kernel, by decide⟩
theorem tk_v_X10_needOpenStep : tq_vok yX10_needOpenStep := ⟨tq_g (i := 1275) (by decide +kernel) rfl, tq_g (i := 28) (by decide +kernel) rfl⟩
theorem tk_RX10_372 : Cond.methodLink RX10 372 yX0_one ∈ tq_G := tq_g (i := 1206) (by decide +kernel) rfl
theorem tk_RX10_498 : Cond.constantLong RX10 498 (-1) ∈ tq_G := tq_g (i := 1207) (by decide +kernel) rfl
theorem tk_RX10_500 : Cond.methodLink RX10 500 yX3_spread ∈ tq_G := tq_g (i := 1208) (by decide +kernel) rfl
theorem tk_RX10_437 : Cond.methodLink RX10 437 yX2_sees ∈ tq_G := tq_g (i := 1212) (by decide +kernel) rfl
theorem tk_y_X2_sees : tq_yok yX2_sees cX2_sees 2 (some .boolean) 1 := ⟨tq_g (i := 1215) (by decide +kernel) rfl, tq_g (i := 61) (by decide +kernel) rfl, ⟨by decide +kernel, by decide +kernel⟩, by decide +kernel, by decide⟩
theorem tk_v_X2_sees : tq_vok yX2_sees := ⟨tq_g (i := 1213) (by decide +kernel) rfl, tq_g (i := 1214) (by decide +kernel) rfl⟩
theorem tk_RX10_294 : Cond.methodLink RX10 294 yX10_refreshedReader ∈ tq_G := tq_g (i := 1201) (by decide +kernel) rfl
theorem tk_y_X10_refreshedReader : tq_yok yX10_refreshedReader cX10_refreshedReader 4 (some (.object "Treequery$Finder")) 0 := ⟨tq_g (i := 1204) (by decide +kernel) rfl, tq_g (i := 53) (by decide +kernel) rfl, ⟨by decide +kernel, by decide +kernel⟩, by decide +kernel, by decide⟩
theorem tk_v_X10_refreshedReader : tq_vok yX10_refreshedReader := ⟨tq_g (i := 1203) (by decide +kernel) rfl, tq_g (i := 23) (by decide +kernel) rfl⟩
theorem tk_RX10_298 : Cond.methodLink RX10 298 yX10_needStart ∈ tq_G := tq_g (i := 1316) (by decide +kernel) rfl
theorem tk_y_X10_needStart : tq_yok yX10_needStart cX10_needStart 3 none 2 := ⟨tq_g (i := 1319) (by decide +kernel) rfl, tq_g (i := 53) (by decide +kernel) rfl, ⟨by decide +kernel, by decide +kernel⟩, by decide +kernel, by decide⟩
theorem tk_v_X10_needStart : tq_vok yX10_needStart := ⟨tq_g (i := 1318) (by decide +kernel) rfl, tq_g (i := 29) (by decide +kernel) rfl⟩
theorem tk_RX10_320 : Cond.methodLink RX10 320 yX10_needPlaceOf ∈ tq_G := tq_g (i := 1335) (by decide +kernel) rfl
theorem tk_y_X10_needPlaceOf : tq_yok yX10_needPlaceOf cX10_needPlaceOf 4 none 2 := ⟨tq_g (i := 1338) (by decide +kernel) rfl, tq_g (i := 53) (by decide +kernel) rfl, ⟨by decide +kernel, by decide +kernel⟩, by decide +kernel, by decide⟩
theorem tk_v_X10_needPlaceOf : tq_vok yX10_needPlaceOf := ⟨tq_g (i := 1337) (by decide +kernel) rfl, tq_g (i := 30) (by decide +kernel) rfl⟩
theorem tk_RX10_324 : Cond.methodLink RX10 324 yX2_orderedSpot ∈ tq_G := tq_g (i := 1347) (by decide +kernel) rfl
theorem tk_RX10_328 : Cond.methodLink RX10 328 yX3_nodeAt ∈ tq_G := tq_g (i := 1357) (by decide +kernel) rfl
theorem tk_y_X2_orderedSpot : tq_yok yX2_orderedSpot cX2_orderedSpot 6 (some .int) 2 := ⟨tq_g (i := 1350) (by decide +kernel) rfl, tq_g (i := 61) (by decide +kernel) rfl, ⟨by decide +kernel, by decide +kernel⟩, by decide +kernel, by decide⟩
theorem tk_v_X2_orderedSpot : tq_vok yX2_orderedSpot := ⟨tq_g (i := 1348) (by decide +kernel) rfl, tq_g (i := 1349) (by decide +kernel) rfl⟩
theorem tk_RX10_331 : Cond.methodLink RX10 331 yX2_countValues ∈ tq_G := tq_g (i := 1365) (by decide +kernel) rfl
theorem tk_y_X2_countValues : tq_yok yX2_countValues cX2_countValues 6 (some .int) 1 := ⟨tq_g (i := 1368) (by decide +kernel) rfl, tq_g (i := 61) (by decide +kernel) rfl, ⟨by decide +kernel, by decide +kernel⟩, by decide +kernel, by decide⟩
theorem tk_v_X2_countValues : tq_vok yX2_countValues := ⟨tq_g (i := 1366) (by decide +kernel) rfl, tq_g (i := 1367) (by decide +kernel) rfl⟩
theorem tk_RX10_334 : Cond.methodLink RX10 334 yX10_needIndex ∈ tq_G := tq_g (i := 1467) (by decide +kernel) rfl
theorem tk_RX10_337 : Cond.methodLink RX10 337 yX10_needLooseSchema ∈ tq_G := tq_g (i := 1486) (by decide +kernel) rfl
theorem tk_RX10_340 : Cond.methodLink RX10 340 yX6_giveName ∈ tq_G := tq_g (i := 1491) (by decide +kernel) rfl
theorem tk_y_X6_giveName : tq_yok yX6_giveName cX6_giveName 4 (some .int) 2 := ⟨tq_g (i := 1494) (by decide +kernel) rfl, tq_g (i := 62) (by decide +kernel) rfl, ⟨by decide +kernel, by decide +kernel⟩, by decide +kernel, by decide⟩
theorem tk_v_X6_giveName : tq_vok yX6_giveName := ⟨tq_g (i := 1492) (by decide +kernel) rfl, tq_g (i := 1493) (by decide +kernel) rfl⟩
theorem tk_y_X10_needLooseSchema : tq_yok yX10_needLooseSchema cX10_needLooseSchema 1 none 0 := ⟨tq_g (i := 1489) (by decide +kernel) rfl, tq_g (i := 53) (by decide +kernel) rfl, ⟨by decide +kernel, by decide +kernel⟩, by decide +kernel, by decide⟩
theorem tk_v_X10_needLooseSchema : tq_vok yX10_needLooseSchema := ⟨tq_g (i := 1488) (by decide +kernel) rfl, tq_g (i := 41) (by decide +kernel) rfl⟩
theorem tk_y_X10_needIndex : tq_yok yX10_needIndex cX10_needIndex 3 none 2 := ⟨tq_g (i := 1470) (by decide +kernel) rfl, tq_g (i := 53) (by decide +kernel) rfl, ⟨by decide +kernel, by decide +kernel⟩, by decide +kernel, by decide⟩
theorem tk_v_X10_needIndex : tq_vok yX10_needIndex := ⟨tq_g (i := 1469) (by decide +kernel) rfl, tq_g (i := 40) (by decide +kernel) rfl⟩
theorem tk_RX10_343 : Cond.methodLink RX10 343 yX6_toggleArc ∈ tq_G := tq_g (i := 1502) (by decide +kernel) rfl
theorem tk_y_X6_toggleArc : tq_yok yX6_toggleArc cX6_toggleArc 6 (some .boolean) 4 := ⟨tq_g (i := 1505) (by decide +kernel) rfl, tq_g (i := 62) (by decide +kernel) rfl, ⟨by decide +kernel, by decide +kernel⟩, by decide +kernel, by decide⟩
theorem tk_v_X6_toggleArc : tq_vok yX6_toggleArc := ⟨tq_g (i := 1503) (by decide +kernel) rfl, tq_g (i := 1504) (by decide +kernel) rfl⟩
theorem tk_RX10_347 : Cond.methodLink RX10 347 yX6_markFinal ∈ tq_G := tq_g (i := 1513) (by decide +kernel) rfl
theorem tk_y_X6_markFinal : tq_yok yX6_markFinal cX6_markFinal 5 (some .boolean) 3 := ⟨tq_g (i := 1516) (by decide +kernel) rfl, tq_g (i := 62) (by decide +kernel) rfl, ⟨by decide +kernel, by decide +kernel⟩, by decide +kernel, by decide⟩
theorem tk_v_X6_markFinal : tq_vok yX6_markFinal := ⟨tq_g (i := 1514) (by decide +kernel) rfl, tq_g (i := 1515) (by decide +kernel) rfl⟩
theorem tk_RX10_351 : Cond.methodLink RX10 351 yX6_markTexts ∈ tq_G := tq_g (i := 1524) (by decide +kernel) rfl
theorem tk_y_X6_markTexts : tq_yok yX6_markTexts cX6_markTexts 4 (some .boolean) 2 := ⟨tq_g (i := 1527) (by decide +kernel) rfl, tq_g (i := 62) (by decide +kernel) rfl, ⟨by decide +kernel, by decide +kernel⟩, by decide +kernel, by decide⟩
theorem tk_v_X6_markTexts : tq_vok yX6_markTexts := ⟨tq_g (i := 1525) (by decide +kernel) rfl, tq_g (i := 1526) (by decide +kernel) rfl⟩
theorem tk_RX10_355 : Cond.methodLink RX10 355 yX6_giveRule ∈ tq_G := tq_g (i := 1535) (by decide +kernel) rfl
theorem tk_y_X6_giveRule : tq_yok yX6_giveRule cX6_giveRule 5 (some .int) 3 := ⟨tq_g (i := 1538) (by decide +kernel) rfl, tq_g (i := 62) (by decide +kernel) rfl, ⟨by decide +kernel, by decide +kernel⟩, by decide +kernel, by decide⟩
theorem tk_v_X6_giveRule : tq_vok yX6_giveRule := ⟨tq_g (i := 1536) (by decide +kernel) rfl, tq_g (i := 1537) (by decide +kernel) rfl⟩
theorem tk_RX10_360 : Cond.methodLink RX10 360 yX6_markStrict ∈ tq_G := tq_g (i := 1691) (by decide +kernel) rfl
theorem tk_y_X6_markStrict : tq_yok yX6_markStrict cX6_markStrict 3 (some .boolean) 1 := ⟨tq_g (i := 1694) (by decide +kernel) rfl, tq_g (i := 62) (by decide +kernel) rfl, ⟨by decide +kernel, by decide +kernel⟩, by decide +kernel, by decide⟩
theorem tk_v_X6_markStrict : tq_vok yX6_markStrict := ⟨tq_g (i := 1692) (by decide +kernel) rfl, tq_g (i := 1693) (by decide +kernel) rfl⟩
theorem tk_RX10_364 : Cond.methodLink RX10 364 yX6_typesOf ∈ tq_G := tq_g (i := 1224) (by decide +kernel) rfl
theorem tk_RX10_368 : Cond.methodLink RX10 368 yX6_tell ∈ tq_G := tq_g (i := 1380) (by decide +kernel) rfl
theorem tk_y_X6_tell : tq_yok yX6_tell cX6_tell 7 (some .int) 2 := ⟨tq_g (i := 1383) (by decide +kernel) rfl, tq_g (i := 62) (by decide +kernel) rfl, ⟨by decide +kernel, by decide +kernel⟩, by decide +kernel, by decide⟩
theorem tk_v_X6_tell : tq_vok yX6_tell := ⟨tq_g (i := 1381) (by decide +kernel) rfl, tq_g (i := 1382) (by decide +kernel) rfl⟩
theorem tk_RX10_375 : Cond.methodLink RX10 375 yX3_solids ∈ tq_G := tq_g (i := 1422) (by decide +kernel) rfl
theorem tk_RX10_378 : Cond.methodLink RX10 378 yX4_nameBelow ∈ tq_G := tq_g (i := 1423) (by decide +kernel) rfl
theorem tk_ks_1000 : (Int16.ofInt (1000)).toInt32 = (1000 : Int32) := by decide +kernel
theorem tk_RX10_387 : Cond.methodLink RX10 387 yX4_canStream ∈ tq_G := tq_g (i := 1429) (by decide +kernel) rfl
theorem tk_y_X4_canStream : tq_yok yX4_canStream cX4_canStream 5 (some .boolean) 1 := ⟨tq_g (i := 1432) (by decide +kernel) rfl, tq_g (i := 60) (by decide +kernel) rfl, ⟨by decide +kernel, by decide +kernel⟩, by decide +kernel, by decide⟩
theorem tk_v_X4_canStream : tq_vok yX4_canStream := ⟨tq_g (i := 1430) (by decide +kernel) rfl, tq_g (i := 1431) (by decide +kernel) rfl⟩
theorem tk_RX10_381 : Cond.methodLink RX10 381 yX3_passing ∈ tq_G := tq_g (i := 1427) (by decide +kernel) rfl
theorem tk_RX10_384 : Cond.methodLink RX10 384 yX3_elements ∈ tq_G := tq_g (i := 1428) (by decide +kernel) rfl
theorem tk_y_X4_nameBelow : tq_yok yX4_nameBelow cX4_nameBelow 4 (some .int) 1 := ⟨tq_g (i := 1426) (by decide +kernel) rfl, tq_g (i := 60) (by decide +kernel) rfl, ⟨by decide +kernel, by decide +kernel⟩, by decide +kernel, by decide⟩
theorem tk_v_X4_nameBelow : tq_vok yX4_nameBelow := ⟨tq_g (i := 1424) (by decide +kernel) rfl, tq_g (i := 1425) (by decide +kernel) rfl⟩
theorem tk_RX10_395 : Cond.methodLink RX10 395 yX8_textsWorth ∈ tq_G := tq_g (i := 1553) (by decide +kernel) rfl
theorem tk_RX10_398 : Cond.methodLink RX10 398 yX8_rankedSpot ∈ tq_G := tq_g (i := 1558) (by decide +kernel) rfl
theorem tk_y_X8_rankedSpot : tq_yok yX8_rankedSpot cX8_rankedSpot 5 (some .int) 2 := ⟨tq_g (i := 1561) (by decide +kernel) rfl, tq_g (i := 54) (by decide +kernel) rfl, ⟨by decide +kernel, by decide +kernel⟩, by decide +kernel, by decide⟩
theorem tk_v_X8_rankedSpot : tq_vok yX8_rankedSpot := ⟨tq_g (i := 1559) (by decide +kernel) rfl, tq_g (i := 1560) (by decide +kernel) rfl⟩
theorem tk_y_X8_textsWorth : tq_yok yX8_textsWorth cX8_textsWorth 5 (some .long) 1 := ⟨tq_g (i := 1556) (by decide +kernel) rfl, tq_g (i := 54) (by decide +kernel) rfl, ⟨by decide +kernel, by decide +kernel⟩, by decide +kernel, by decide⟩
theorem tk_v_X8_textsWorth : tq_vok yX8_textsWorth := ⟨tq_g (i := 1554) (by decide +kernel) rfl, tq_g (i := 1555) (by decide +kernel) rfl⟩
theorem tk_RX10_407 : Cond.methodLink RX10 407 yX10_neededVersion ∈ tq_G := tq_g (i := 777) (by decide +kernel) rfl
theorem tk_RX10_416 : Cond.methodLink RX10 416 yX8_keepMade ∈ tq_G := tq_g (i := 833) (by decide +kernel) rfl
theorem tk_y_X8_keepMade : tq_yok yX8_keepMade cX8_keepMade 2 none 1 := ⟨tq_g (i := 836) (by decide +kernel) rfl, tq_g (i := 54) (by decide +kernel) rfl, ⟨by decide +kernel, by decide +kernel⟩, by decide +kernel, by decide⟩
theorem tk_v_X8_keepMade : tq_vok yX8_keepMade := ⟨tq_g (i := 834) (by decide +kernel) rfl, tq_g (i := 835) (by decide +kernel) rfl⟩
theorem tk_y_X10_neededVersion : tq_yok yX10_neededVersion cX10_neededVersion 3 (some (.object "Treequery$Tree")) 1 := ⟨tq_g (i := 780) (by decide +kernel) rfl, tq_g (i := 53) (by decide +kernel) rfl, ⟨by decide +kernel, by decide +kernel⟩, by decide +kernel, by decide⟩
theorem tk_v_X10_neededVersion : tq_vok yX10_neededVersion := ⟨tq_g (i := 779) (by decide +kernel) rfl, tq_g (i := 8) (by decide +kernel) rfl⟩
theorem tk_RX10_419 : Cond.classLink RX10 419 RX1 ∈ tq_G := tq_g (i := 964) (by decide +kernel) rfl
theorem tk_in1 : Cond.instantiable RX1 7 ∈ tq_G := tq_g (i := 965) (by decide +kernel) rfl
theorem tk_ini1 : Cond.initialized RX1 ∈ tq_G := tq_g (i := 73) (by decide +kernel) rfl
theorem tk_RX10_421 : Cond.methodLinkNest RX10 421 yX1_init "Treequery" ∈ tq_B := List.mem_filter.mpr ⟨List.mem_of_getElem? (i := 966) (by decide +kernel), rfl⟩
theorem tk_RX10_422 : Cond.methodLink RX10 422 yX1_known ∈ tq_G := tq_g (i := 994) (by decide +kernel) rfl
theorem tk_RX10_425 : Cond.methodLink RX10 425 yX1_count ∈ tq_G := tq_g (i := 999) (by decide +kernel) rfl
theorem tk_RX10_428 : Cond.methodLink RX10 428 yX1_note ∈ tq_G := tq_g (i := 1035) (by decide +kernel) rfl
theorem tk_y_X1_note : tq_yok yX1_note cX1_note 4 none 3 := ⟨tq_g (i := 1038) (by decide +kernel) rfl, tq_g (i := 73) (by decide +kernel) rfl, ⟨by decide +kernel, by decide +kernel⟩, by decide +kernel, by decide⟩
theorem tk_v_X1_note : tq_vok yX1_note := ⟨tq_g (i := 1036) (by decide +kernel) rfl, tq_g (i := 1037) (by decide +kernel) rfl⟩
theorem tk_y_X1_count : tq_yok yX1_count cX1_count 11 (some .int) 2 := ⟨tq_g (i := 1002) (by decide +kernel) rfl, tq_g (i := 73) (by decide +kernel) rfl, ⟨by decide +kernel, by decide +kernel⟩, by decide +kernel, by decide⟩
theorem tk_v_X1_count : tq_vok yX1_count := ⟨tq_g (i := 1000) (by decide +kernel) rfl, tq_g (i := 1001) (by decide +kernel) rfl⟩
theorem tk_y_X1_known : tq_yok yX1_known cX1_known 3 (some .int) 2 := ⟨tq_g (i := 997) (by decide +kernel) rfl, tq_g (i := 73) (by decide +kernel) rfl, ⟨by decide +kernel, by decide +kernel⟩, by decide +kernel, by decide⟩
theorem tk_v_X1_known : tq_vok yX1_known := ⟨tq_g (i := 995) (by decide +kernel) rfl, tq_g (i := 996) (by decide +kernel) rfl⟩
theorem tk_y_X1_init : tq_yok yX1_init cX1_init 1 none 0 := ⟨tq_g (i := 968) (by decide +kernel) rfl, tq_g (i := 73) (by decide +kernel) rfl, ⟨by decide +kernel, by decide +kernel⟩, by decide +kernel, by decide⟩
theorem tk_v_X1_init : Cond.instanceMethod yX1_init ∈ tq_G := tq_g (i := 967) (by decide +kernel) rfl
theorem tk_RX10_431 : Cond.methodLink RX10 431 yX8_differs ∈ tq_G := tq_g (i := 1046) (by decide +kernel) rfl
theorem tk_y_X8_differs : tq_yok yX8_differs cX8_differs 3 (some .boolean) 2 := ⟨tq_g (i := 1049) (by decide +kernel) rfl, tq_g (i := 54) (by decide +kernel) rfl, ⟨by decide +kernel, by decide +kernel⟩, by decide +kernel, by decide⟩
theorem tk_v_X8_differs : tq_vok yX8_differs := ⟨tq_g (i := 1047) (by decide +kernel) rfl, tq_g (i := 1048) (by decide +kernel) rfl⟩
abbrev mX10_init : tq_M := (RX10, cX10_init, 1, none, true, [], none)
def f_X10_init (t : Nat) (h : tq_H) : Option (tq_H) :=
  tq_let (tq_new h (.inl (8, [.null, .null, .null, .null, .null, .null, .null, .null, .null, .null, .int 0]))) fun w1 =>
  (f_X8_init h.1 w1).bind fun v2 =>
  (tq_pf v2 t 10 0 (.ref h.1)).bind fun w3 =>
  tq_let (tq_new w3 (.inl (8, [.null, .null, .null, .null, .null, .null, .null, .null, .null, .null, .int 0]))) fun w4 =>
  (f_X8_init w3.1 w4).bind fun v5 =>
  (tq_pf v5 t 10 1 (.ref w3.1)).bind fun w6 =>
  tq_let (tq_new w6 (.inl (9, [.null, .null, .null, .null, .null, .null, .null, .null, .long 0, .long 0, .long 0, .int 0]))) fun w7 =>
  (f_X9_init w6.1 w7).bind fun v8 =>
  (tq_pf v8 t 10 2 (.ref w6.1)).bind fun w9 =>
  tq_let (tq_new w9 (.inl (4, [.null, .null, .null, .null, .null, .null, .null, .null, .null, .int 0]))) fun w10 =>
  (f_X4_init w9.1 w10).bind fun v11 =>
  (tq_pf v11 t 10 3 (.ref w9.1)).bind fun w12 =>
  tq_let (tq_new w12 (.inl (2, [.null, .null, .null, .null, .null, .null, .long 0, .int 0]))) fun w13 =>
  (tq_gr w13 t 10 0).bind fun k14 =>
  (tq_gr w13 t 10 3).bind fun k15 =>
  (f_X2_init w12.1 k14 k15 w13).bind fun v16 =>
  (tq_pf v16 t 10 4 (.ref w12.1)).bind fun w17 =>
  tq_let (tq_new w17 (.inl (2, [.null, .null, .null, .null, .null, .null, .long 0, .int 0]))) fun w18 =>
  (tq_gr w18 t 10 0).bind fun k19 =>
  (tq_gr w18 t 10 3).bind fun k20 =>
  (f_X2_init w17.1 k19 k20 w18).bind fun v21 =>
  (tq_pf v21 t 10 5 (.ref w17.1)).bind fun w22 =>
  tq_let (tq_new w22 (.inl (6, [.null, .null, .null, .null, .null, .null, .null, .null, .int 0, .int 0, .int 0]))) fun w23 =>
  (f_X6_init w22.1 w23).bind fun v24 =>
  (tq_pf v24 t 10 6 (.ref w22.1)).bind fun w25 =>
  tq_let (tq_new w25 (.inr (3, (6, .inr (.inr (.inr (.inr (fun _ => none)))))))) fun w26 =>
  (tq_pf w26 t 10 7 (.ref w25.1)).bind fun w27 =>
  tq_let (tq_new w27 (.inl (5, [.null]))) fun w28 =>
  (f_X5_init w27.1 (5 : Int32) (-1 : Int32) w28).bind fun v29 =>
  (tq_pf v29 t 10 8 (.ref w27.1)).bind fun w30 =>
  tq_let (tq_new w30 (.inl (5, [.null]))) fun w31 =>
  (f_X5_init w30.1 (5 : Int32) (0 : Int32) w31).bind fun v32 =>
  (tq_pf v32 t 10 9 (.ref w30.1)).bind fun w33 =>
  tq_let (tq_new w33 (.inl (7, [.null]))) fun w34 =>
  (f_X7_init w33.1 (5 : Int32) w34).bind fun v35 =>
  (tq_pf v35 t 10 10 (.ref w33.1)).bind fun w36 =>
  (tq_pf w36 t 10 11 (.null)).bind fun w37 =>
  (tq_pf w37 t 10 12 (.int (0 : Int32))).bind fun w38 =>
  (tq_pf w38 t 10 13 (.int (0 : Int32))).bind fun w39 =>
  (tq_pf w39 t 10 14 (.int (0 : Int32))).bind fun w40 =>
  (tq_pf w40 t 10 15 (.long (0 : Int64))).bind fun w41 =>
  (tq_pf w41 t 10 16 (.long (0 : Int64))).bind fun w42 =>
  (tq_pf w42 t 10 17 (.int (0 : Int32))).bind fun w43 =>
  (tq_pf w43 t 10 18 (.int (1 : Int32))).bind fun w44 =>
  (tq_gr w44 t 10 0).bind fun k45 =>
  (tq_is w44 k45 8).bind fun _ =>
  (f_X8_make k45 (0 : Int32) (0 : Int32) (-1 : Int32) w44).bind fun v46 =>
  (tq_gr v46.2 t 10 0).bind fun k48 =>
  (tq_is v46.2 k48 8).bind fun _ =>
  (f_X8_layOut k48 v46.2).bind fun v49 =>
  (tq_gr v49 t 10 0).bind fun k51 =>
  (tq_is v49 k51 8).bind fun _ =>
  (f_X8_numberAnew k51 v49).bind fun v52 =>
  (tq_gr v52 t 10 4).bind fun k54 =>
  (tq_gr v52 t 10 0).bind fun k55 =>
  (tq_gr v52 k55 8 0).bind fun k56 =>
  (tq_is v52 k56 3).bind fun _ =>
  (f_X3_everything k56 v52).bind fun v57 =>
  (tq_is v52 k54 2).bind fun _ =>
  (f_X2_start k54 v57 v52).bind fun v59 =>
  some v59
set_option maxHeartbeats 4000000 in
set_option maxRecDepth 20000 in
theorem w_X10_init {l : Launch} {d : Nat} (hd9 : 6 ≤ d) {t : Nat} {h : tq_H} {o : tq_H} {Q : tq_R → tq_H → Prop} (hf : f_X10_init t h = some o) (hQ : ∀ r h9, r = .inl none ∧ o = h9 → Q r h9) : tq_C l yX10_init cX10_init 1 none d 154 6838 [.ref t] h Q := by
  refine tq_body (y := yX10_init) true (by decide +kernel) (fun _ => rfl) (Nat.le_of_ble_eq_true rfl) ?_
  show tq_W l mX10_init d 154 6838 Q 0 [(0, .ref t)] [] h
  refine tq_aload_n (M := mX10_init) (pc := 0) dX10_init_0 rfl ?_
  refine tq_objinit (M := mX10_init) (pc := 1) dX10_init_1 tk_RX10_3 tk_oi tk_oc (by omega) (Nat.le_of_ble_eq_true rfl) ?_
  refine tq_aload_n (M := mX10_init) (pc := 4) dX10_init_4 rfl ?_
  obtain ⟨w1, ew1, hf⟩ := tq_le hf
  refine tq_newo (M := mX10_init) (pc := 5) tk_c8 dX10_init_5 tk_RX10_9 tk_in8 tk_ini8 (fs := [.null, .null, .null, .null, .null, .null, .null, .null, .null, .null, .int 0]) (fun j hj => by rcases (show j = 0 ∨ j = 1 ∨ j = 2 ∨ j = 3 ∨ j = 4 ∨ j = 5 ∨ j = 6 ∨ j = 7 ∨ j = 8 ∨ j = 9 ∨ j = 10 by omega) with rfl | rfl | rfl | rfl | rfl | rfl | rfl | rfl | rfl | rfl | rfl <;> rfl) (fun _ => ⟨rfl, rfl, rfl, rfl, rfl, rfl, rfl, rfl, rfl, rfl, rfl, trivial⟩) (bc' := 153) (bs' := 6827) (by omega) (by omega) ?_
  rw [← ew1]
  refine tq_dup (M := mX10_init) (pc := 8) dX10_init_8 rfl ?_
  obtain ⟨v2, ev2, hf⟩ := tq_be hf
  refine tq_calI (M := mX10_init) (pc := 9) (S := [.ref h.1, .ref t]) tk_y_X8_init tk_v_X8_init rfl (Or.inr ⟨_, tk_RX10_11⟩) dX10_init_9 [] rfl (Nat.le_of_ble_eq_true rfl) (d1 := d - 1) (b1 := 39) (s1 := 1126) (bc' := 114) (bs' := 5701) (Q1 := fun r h9 => r = .inl none ∧ v2 = h9) (by omega) rfl rfl (w_X8_init (by omega) ev2 (fun _ _ q => q)) (fun E h9 q => nomatch (show (Sum.inr E : tq_R) = Sum.inl _ from q.1)) (fun r9 h9 q => ?_)
  obtain ⟨q1, rfl⟩ := q
  cases (show (Sum.inl r9 : tq_R) = Sum.inl (none) from q1)
  obtain ⟨w3, ew3, hf⟩ := tq_be hf
  refine tq_putv (M := mX10_init) (pc := 12) tk_c10 (by decide) dX10_init_12 tk_RX10_12 rfl (Or.inr ⟨rfl, rfl⟩) ew3 (tq_nR _ _) ?_
  refine tq_aload_n (M := mX10_init) (pc := 15) dX10_init_15 rfl ?_
  obtain ⟨w4, ew4, hf⟩ := tq_le hf
  refine tq_newo (M := mX10_init) (pc := 16) tk_c8 dX10_init_16 tk_RX10_9 tk_in8 tk_ini8 (fs := [.null, .null, .null, .null, .null, .null, .null, .null, .null, .null, .int 0]) (fun j hj => by rcases (show j = 0 ∨ j = 1 ∨ j = 2 ∨ j = 3 ∨ j = 4 ∨ j = 5 ∨ j = 6 ∨ j = 7 ∨ j = 8 ∨ j = 9 ∨ j = 10 by omega) with rfl | rfl | rfl | rfl | rfl | rfl | rfl | rfl | rfl | rfl | rfl <;> rfl) (fun _ => ⟨rfl, rfl, rfl, rfl, rfl, rfl, rfl, rfl, rfl, rfl, rfl, trivial⟩) (bc' := 113) (bs' := 5690) (by omega) (by omega) ?_
  rw [← ew4]
  refine tq_dup (M := mX10_init) (pc := 19) dX10_init_19 rfl ?_
  obtain ⟨v5, ev5, hf⟩ := tq_be hf
  refine tq_calI (M := mX10_init) (pc := 20) (S := [.ref w3.1, .ref t]) tk_y_X8_init tk_v_X8_init rfl (Or.inr ⟨_, tk_RX10_11⟩) dX10_init_20 [] rfl (Nat.le_of_ble_eq_true rfl) (d1 := d - 1) (b1 := 39) (s1 := 1126) (bc' := 74) (bs' := 4564) (Q1 := fun r h9 => r = .inl none ∧ v5 = h9) (by omega) rfl rfl (w_X8_init (by omega) ev5 (fun _ _ q => q)) (fun E h9 q => nomatch (show (Sum.inr E : tq_R) = Sum.inl _ from q.1)) (fun r9 h9 q => ?_)
  obtain ⟨q1, rfl⟩ := q
  cases (show (Sum.inl r9 : tq_R) = Sum.inl (none) from q1)
  obtain ⟨w6, ew6, hf⟩ := tq_be hf
  refine tq_putv (M := mX10_init) (pc := 23) tk_c10 (by decide) dX10_init_23 tk_RX10_16 rfl (Or.inr ⟨rfl, rfl⟩) ew6 (tq_nR _ _) ?_
  refine tq_aload_n (M := mX10_init) (pc := 26) dX10_init_26 rfl ?_
  obtain ⟨w7, ew7, hf⟩ := tq_le hf
  refine tq_newo (M := mX10_init) (pc := 27) tk_c9 dX10_init_27 tk_RX10_19 tk_in9 tk_ini9 (fs := [.null, .null, .null, .null, .null, .null, .null, .null, .long 0, .long 0, .long 0, .int 0]) (fun j hj => by rcases (show j = 0 ∨ j = 1 ∨ j = 2 ∨ j = 3 ∨ j = 4 ∨ j = 5 ∨ j = 6 ∨ j = 7 ∨ j = 8 ∨ j = 9 ∨ j = 10 ∨ j = 11 by omega) with rfl | rfl | rfl | rfl | rfl | rfl | rfl | rfl | rfl | rfl | rfl | rfl <;> rfl) (fun _ => ⟨rfl, rfl, rfl, rfl, rfl, rfl, rfl, rfl, rfl, rfl, rfl, rfl, trivial⟩) (bc' := 73) (bs' := 4552) (by omega) (by omega) ?_
  rw [← ew7]
  refine tq_dup (M := mX10_init) (pc := 30) dX10_init_30 rfl ?_
  obtain ⟨v8, ev8, hf⟩ := tq_be hf
  refine tq_calI (M := mX10_init) (pc := 31) (S := [.ref w6.1, .ref t]) tk_y_X9_init tk_v_X9_init rfl (Or.inr ⟨_, tk_RX10_21⟩) dX10_init_31 [] rfl (Nat.le_of_ble_eq_true rfl) (d1 := d - 1) (b1 := 16) (s1 := 168) (bc' := 57) (bs' := 4384) (Q1 := fun r h9 => r = .inl none ∧ v8 = h9) (by omega) rfl rfl (w_X9_init (by omega) ev8 (fun _ _ q => q)) (fun E h9 q => nomatch (show (Sum.inr E : tq_R) = Sum.inl _ from q.1)) (fun r9 h9 q => ?_)
  obtain ⟨q1, rfl⟩ := q
  cases (show (Sum.inl r9 : tq_R) = Sum.inl (none) from q1)
  obtain ⟨w9, ew9, hf⟩ := tq_be hf
  refine tq_putv (M := mX10_init) (pc := 34) tk_c10 (by decide) dX10_init_34 tk_RX10_22 rfl (Or.inr ⟨rfl, rfl⟩) ew9 (tq_nR _ _) ?_
  refine tq_aload_n (M := mX10_init) (pc := 37) dX10_init_37 rfl ?_
  obtain ⟨w10, ew10, hf⟩ := tq_le hf
  refine tq_newo (M := mX10_init) (pc := 38) tk_c4 dX10_init_38 tk_RX10_26 tk_in4 tk_ini4 (fs := [.null, .null, .null, .null, .null, .null, .null, .null, .null, .int 0]) (fun j hj => by rcases (show j = 0 ∨ j = 1 ∨ j = 2 ∨ j = 3 ∨ j = 4 ∨ j = 5 ∨ j = 6 ∨ j = 7 ∨ j = 8 ∨ j = 9 by omega) with rfl | rfl | rfl | rfl | rfl | rfl | rfl | rfl | rfl | rfl <;> rfl) (fun _ => ⟨rfl, rfl, rfl, rfl, rfl, rfl, rfl, rfl, rfl, rfl, trivial⟩) (bc' := 56) (bs' := 4374) (by omega) (by omega) ?_
  rw [← ew10]
  refine tq_dup (M := mX10_init) (pc := 41) dX10_init_41 rfl ?_
  obtain ⟨v11, ev11, hf⟩ := tq_be hf
  refine tq_calI (M := mX10_init) (pc := 42) (S := [.ref w9.1, .ref t]) tk_y_X4_init tk_v_X4_init rfl (Or.inr ⟨_, tk_RX10_28⟩) dX10_init_42 [] rfl (Nat.le_of_ble_eq_true rfl) (d1 := d - 1) (b1 := 18) (s1 := 1229) (bc' := 38) (bs' := 3145) (Q1 := fun r h9 => r = .inl none ∧ v11 = h9) (by omega) rfl rfl (w_X4_init (by omega) ev11 (fun _ _ q => q)) (fun E h9 q => nomatch (show (Sum.inr E : tq_R) = Sum.inl _ from q.1)) (fun r9 h9 q => ?_)
  obtain ⟨q1, rfl⟩ := q
  cases (show (Sum.inl r9 : tq_R) = Sum.inl (none) from q1)
  obtain ⟨w12, ew12, hf⟩ := tq_be hf
  refine tq_putv (M := mX10_init) (pc := 45) tk_c10 (by decide) dX10_init_45 tk_RX10_29 rfl (Or.inr ⟨rfl, rfl⟩) ew12 (tq_nR _ _) ?_
  refine tq_aload_n (M := mX10_init) (pc := 48) dX10_init_48 rfl ?_
  obtain ⟨w13, ew13, hf⟩ := tq_le hf
  refine tq_newo (M := mX10_init) (pc := 49) tk_c2 dX10_init_49 tk_RX10_33 tk_in2 tk_ini2 (fs := [.null, .null, .null, .null, .null, .null, .long 0, .int 0]) (fun j hj => by rcases (show j = 0 ∨ j = 1 ∨ j = 2 ∨ j = 3 ∨ j = 4 ∨ j = 5 ∨ j = 6 ∨ j = 7 by omega) with rfl | rfl | rfl | rfl | rfl | rfl | rfl | rfl <;> rfl) (fun _ => ⟨rfl, rfl, rfl, rfl, rfl, rfl, rfl, rfl, trivial⟩) (bc' := 37) (bs' := 3137) (by omega) (by omega) ?_
  rw [← ew13]
  refine tq_dup (M := mX10_init) (pc := 52) dX10_init_52 rfl ?_
  refine tq_aload_n (M := mX10_init) (pc := 53) dX10_init_53 rfl ?_
  obtain ⟨k14, ek14, hf⟩ := tq_be hf
  refine tq_getR (M := mX10_init) (pc := 54) tk_c10 (by decide) dX10_init_54 tk_RX10_12 rfl ek14 ?_
  refine tq_aload_n (M := mX10_init) (pc := 57) dX10_init_57 rfl ?_
  obtain ⟨k15, ek15, hf⟩ := tq_be hf
  refine tq_getR (M := mX10_init) (pc := 58) tk_c10 (by decide) dX10_init_58 tk_RX10_29 rfl ek15 ?_
  obtain ⟨v16, ev16, hf⟩ := tq_be hf
  refine tq_calI (M := mX10_init) (pc := 61) (S := [.ref w12.1, .ref t]) tk_y_X2_init tk_v_X2_init rfl (Or.inl tk_RX10_35) dX10_init_61 [.ref k14, .ref k15] rfl (Nat.le_of_ble_eq_true rfl) (d1 := d - 1) (b1 := 6) (s1 := 1323) (bc' := 31) (bs' := 1814) (Q1 := fun r h9 => r = .inl none ∧ v16 = h9) (by omega) rfl rfl (w_X2_init (by omega) ev16 (fun _ _ q => q)) (fun E h9 q => nomatch (show (Sum.inr E : tq_R) = Sum.inl _ from q.1)) (fun r9 h9 q => ?_)
  obtain ⟨q1, rfl⟩ := q
  cases (show (Sum.inl r9 : tq_R) = Sum.inl (none) from q1)
  obtain ⟨w17, ew17, hf⟩ := tq_be hf
  refine tq_putv (M := mX10_init) (pc := 64) tk_c10 (by decide) dX10_init_64 tk_RX10_38 rfl (Or.inr ⟨rfl, rfl⟩) ew17 (tq_nR _ _) ?_
  refine tq_aload_n (M := mX10_init) (pc := 67) dX10_init_67 rfl ?_
  obtain ⟨w18, ew18, hf⟩ := tq_le hf
  refine tq_newo (M := mX10_init) (pc := 68) tk_c2 dX10_init_68 tk_RX10_33 tk_in2 tk_ini2 (fs := [.null, .null, .null, .null, .null, .null, .long 0, .int 0]) (fun j hj => by rcases (show j = 0 ∨ j = 1 ∨ j = 2 ∨ j = 3 ∨ j = 4 ∨ j = 5 ∨ j = 6 ∨ j = 7 by omega) with rfl | rfl | rfl | rfl | rfl | rfl | rfl | rfl <;> rfl) (fun _ => ⟨rfl, rfl, rfl, rfl, rfl, rfl, rfl, rfl, trivial⟩) (bc' := 30) (bs' := 1806) (by omega) (by omega) ?_
  rw [← ew18]
  refine tq_dup (M := mX10_init) (pc := 71) dX10_init_71 rfl ?_
  refine tq_aload_n (M := mX10_init) (pc := 72) dX10_init_72 rfl ?_
  obtain ⟨k19, ek19, hf⟩ := tq_be hf
  refine tq_getR (M := mX10_init) (pc := 73) tk_c10 (by decide) dX10_init_73 tk_RX10_12 rfl ek19 ?_
  refine tq_aload_n (M := mX10_init) (pc := 76) dX10_init_76 rfl ?_
  obtain ⟨k20, ek20, hf⟩ := tq_be hf
  refine tq_getR (M := mX10_init) (pc := 77) tk_c10 (by decide) dX10_init_77 tk_RX10_29 rfl ek20 ?_
  obtain ⟨v21, ev21, hf⟩ := tq_be hf
  refine tq_calI (M := mX10_init) (pc := 80) (S := [.ref w17.1, .ref t]) tk_y_X2_init tk_v_X2_init rfl (Or.inl tk_RX10_35) dX10_init_80 [.ref k19, .ref k20] rfl (Nat.le_of_ble_eq_true rfl) (d1 := d - 1) (b1 := 6) (s1 := 1323) (bc' := 24) (bs' := 483) (Q1 := fun r h9 => r = .inl none ∧ v21 = h9) (by omega) rfl rfl (w_X2_init (by omega) ev21 (fun _ _ q => q)) (fun E h9 q => nomatch (show (Sum.inr E : tq_R) = Sum.inl _ from q.1)) (fun r9 h9 q => ?_)
  obtain ⟨q1, rfl⟩ := q
  cases (show (Sum.inl r9 : tq_R) = Sum.inl (none) from q1)
  obtain ⟨w22, ew22, hf⟩ := tq_be hf
  refine tq_putv (M := mX10_init) (pc := 83) tk_c10 (by decide) dX10_init_83 tk_RX10_42 rfl (Or.inr ⟨rfl, rfl⟩) ew22 (tq_nR _ _) ?_
  refine tq_aload_n (M := mX10_init) (pc := 86) dX10_init_86 rfl ?_
  obtain ⟨w23, ew23, hf⟩ := tq_le hf
  refine tq_newo (M := mX10_init) (pc := 87) tk_c6 dX10_init_87 tk_RX10_45 tk_in6 tk_ini6 (fs := [.null, .null, .null, .null, .null, .null, .null, .null, .int 0, .int 0, .int 0]) (fun j hj => by rcases (show j = 0 ∨ j = 1 ∨ j = 2 ∨ j = 3 ∨ j = 4 ∨ j = 5 ∨ j = 6 ∨ j = 7 ∨ j = 8 ∨ j = 9 ∨ j = 10 by omega) with rfl | rfl | rfl | rfl | rfl | rfl | rfl | rfl | rfl | rfl | rfl <;> rfl) (fun _ => ⟨rfl, rfl, rfl, rfl, rfl, rfl, rfl, rfl, rfl, rfl, rfl, trivial⟩) (bc' := 23) (bs' := 472) (by omega) (by omega) ?_
  rw [← ew23]
  refine tq_dup (M := mX10_init) (pc := 90) dX10_init_90 rfl ?_
  obtain ⟨v24, ev24, hf⟩ := tq_be hf
  refine tq_calI (M := mX10_init) (pc := 91) (S := [.ref w22.1, .ref t]) tk_y_X6_init tk_v_X6_init rfl (Or.inr ⟨_, tk_RX10_47⟩) dX10_init_91 [] rfl (Nat.le_of_ble_eq_true rfl) (d1 := d - 1) (b1 := 16) (s1 := 448) (bc' := 7) (bs' := 24) (Q1 := fun r h9 => r = .inl none ∧ v24 = h9) (by omega) rfl rfl (w_X6_init (by omega) ev24 (fun _ _ q => q)) (fun E h9 q => nomatch (show (Sum.inr E : tq_R) = Sum.inl _ from q.1)) (fun r9 h9 q => ?_)
  obtain ⟨q1, rfl⟩ := q
  cases (show (Sum.inl r9 : tq_R) = Sum.inl (none) from q1)
  obtain ⟨w25, ew25, hf⟩ := tq_be hf
  refine tq_putv (M := mX10_init) (pc := 94) tk_c10 (by decide) dX10_init_94 tk_RX10_48 rfl (Or.inr ⟨rfl, rfl⟩) ew25 (tq_nR _ _) ?_
  refine tq_aload_n (M := mX10_init) (pc := 97) dX10_init_97 rfl ?_
  refine tq_bipush (M := mX10_init) (pc := 98) dX10_init_98 tk_kb_6 ?_
  obtain ⟨w26, ew26, hf⟩ := tq_le hf
  refine tq_newq (M := mX10_init) (pc := 100) 9 dX10_init_100 tk_RX10_9 (N := 6) (by decide +kernel) (by decide +kernel) (by decide) (bc' := 6) (bs' := 18) (by omega) (by omega) ?_
  rw [← ew26]
  obtain ⟨w27, ew27, hf⟩ := tq_be hf
  refine tq_putv (M := mX10_init) (pc := 103) tk_c10 (by decide) dX10_init_103 tk_RX10_52 rfl (Or.inr ⟨rfl, rfl⟩) ew27 (tq_nA _ _) ?_
  refine tq_aload_n (M := mX10_init) (pc := 106) dX10_init_106 rfl ?_
  obtain ⟨w28, ew28, hf⟩ := tq_le hf
  refine tq_newo (M := mX10_init) (pc := 107) tk_c5 dX10_init_107 tk_RX10_56 tk_in5 tk_ini5 (fs := [.null]) (fun j hj => by rcases (show j = 0 by omega) with rfl <;> rfl) (fun _ => ⟨rfl, trivial⟩) (bc' := 5) (bs' := 17) (by omega) (by omega) ?_
  rw [← ew28]
  refine tq_dup (M := mX10_init) (pc := 110) dX10_init_110 rfl ?_
  refine tq_iconst (M := mX10_init) (pc := 111) dX10_init_111 tk_ki_5 ?_
  refine tq_iconst (M := mX10_init) (pc := 112) dX10_init_112 tk_ki_m1 ?_
  obtain ⟨v29, ev29, hf⟩ := tq_be hf
  refine tq_calI (M := mX10_init) (pc := 113) (S := [.ref w27.1, .ref t]) tk_y_X5_init tk_v_X5_init rfl (Or.inl tk_RX10_58) dX10_init_113 [.int (5 : Int32), .int (-1 : Int32)] rfl (Nat.le_of_ble_eq_true rfl) (d1 := d - 1) (b1 := 1) (s1 := 5) (bc' := 4) (bs' := 12) (Q1 := fun r h9 => r = .inl none ∧ v29 = h9) (by omega) rfl rfl (w_X5_init (by omega) (N := 5) (by decide +kernel) (by decide +kernel) (by decide) ev29 (fun _ _ q => q)) (fun E h9 q => nomatch (show (Sum.inr E : tq_R) = Sum.inl _ from q.1)) (fun r9 h9 q => ?_)
  obtain ⟨q1, rfl⟩ := q
  cases (show (Sum.inl r9 : tq_R) = Sum.inl (none) from q1)
  obtain ⟨w30, ew30, hf⟩ := tq_be hf
  refine tq_putv (M := mX10_init) (pc := 116) tk_c10 (by decide) dX10_init_116 tk_RX10_61 rfl (Or.inr ⟨rfl, rfl⟩) ew30 (tq_nR _ _) ?_
  refine tq_aload_n (M := mX10_init) (pc := 119) dX10_init_119 rfl ?_
  obtain ⟨w31, ew31, hf⟩ := tq_le hf
  refine tq_newo (M := mX10_init) (pc := 120) tk_c5 dX10_init_120 tk_RX10_56 tk_in5 tk_ini5 (fs := [.null]) (fun j hj => by rcases (show j = 0 by omega) with rfl <;> rfl) (fun _ => ⟨rfl, trivial⟩) (bc' := 3) (bs' := 11) (by omega) (by omega) ?_
  rw [← ew31]
  refine tq_dup (M := mX10_init) (pc := 123) dX10_init_123 rfl ?_
  refine tq_iconst (M := mX10_init) (pc := 124) dX10_init_124 tk_ki_5 ?_
  refine tq_iconst (M := mX10_init) (pc := 125) dX10_init_125 tk_ki_0 ?_
  obtain ⟨v32, ev32, hf⟩ := tq_be hf
  refine tq_calI (M := mX10_init) (pc := 126) (S := [.ref w30.1, .ref t]) tk_y_X5_init tk_v_X5_init rfl (Or.inl tk_RX10_58) dX10_init_126 [.int (5 : Int32), .int (0 : Int32)] rfl (Nat.le_of_ble_eq_true rfl) (d1 := d - 1) (b1 := 1) (s1 := 5) (bc' := 2) (bs' := 6) (Q1 := fun r h9 => r = .inl none ∧ v32 = h9) (by omega) rfl rfl (w_X5_init (by omega) (N := 5) (by decide +kernel) (by decide +kernel) (by decide) ev32 (fun _ _ q => q)) (fun E h9 q => nomatch (show (Sum.inr E : tq_R) = Sum.inl _ from q.1)) (fun r9 h9 q => ?_)
  obtain ⟨q1, rfl⟩ := q
  cases (show (Sum.inl r9 : tq_R) = Sum.inl (none) from q1)
  obtain ⟨w33, ew33, hf⟩ := tq_be hf
  refine tq_putv (M := mX10_init) (pc := 129) tk_c10 (by decide) dX10_init_129 tk_RX10_65 rfl (Or.inr ⟨rfl, rfl⟩) ew33 (tq_nR _ _) ?_
  refine tq_aload_n (M := mX10_init) (pc := 132) dX10_init_132 rfl ?_
  obtain ⟨w34, ew34, hf⟩ := tq_le hf
  refine tq_newo (M := mX10_init) (pc := 133) tk_c7 dX10_init_133 tk_RX10_68 tk_in7 tk_ini7 (fs := [.null]) (fun j hj => by rcases (show j = 0 by omega) with rfl <;> rfl) (fun _ => ⟨rfl, trivial⟩) (bc' := 1) (bs' := 5) (by omega) (by omega) ?_
  rw [← ew34]
  refine tq_dup (M := mX10_init) (pc := 136) dX10_init_136 rfl ?_
  refine tq_iconst (M := mX10_init) (pc := 137) dX10_init_137 tk_ki_5 ?_
  obtain ⟨v35, ev35, hf⟩ := tq_be hf
  refine tq_calI (M := mX10_init) (pc := 138) (S := [.ref w33.1, .ref t]) tk_y_X7_init tk_v_X7_init rfl (Or.inl tk_RX10_70) dX10_init_138 [.int (5 : Int32)] rfl (Nat.le_of_ble_eq_true rfl) (d1 := d - 1) (b1 := 1) (s1 := 5) (bc' := 0) (bs' := 0) (Q1 := fun r h9 => r = .inl none ∧ v35 = h9) (by omega) rfl rfl (w_X7_init (by omega) (N := 5) (by decide +kernel) (by decide +kernel) (by decide) ev35 (fun _ _ q => q)) (fun E h9 q => nomatch (show (Sum.inr E : tq_R) = Sum.inl _ from q.1)) (fun r9 h9 q => ?_)
  obtain ⟨q1, rfl⟩ := q
  cases (show (Sum.inl r9 : tq_R) = Sum.inl (none) from q1)
  obtain ⟨w36, ew36, hf⟩ := tq_be hf
  refine tq_putv (M := mX10_init) (pc := 141) tk_c10 (by decide) dX10_init_141 tk_RX10_73 rfl (Or.inr ⟨rfl, rfl⟩) ew36 (tq_nR _ _) ?_
  refine tq_aload_n (M := mX10_init) (pc := 144) dX10_init_144 rfl ?_
  refine tq_null (M := mX10_init) (pc := 145) dX10_init_145 ?_
  obtain ⟨w37, ew37, hf⟩ := tq_be hf
  refine tq_putv (M := mX10_init) (pc := 146) tk_c10 (by decide) dX10_init_146 tk_RX10_77 rfl (Or.inl rfl) ew37 (fun _ w hw => by cases (show w = .null from hw); exact ⟨rfl, rfl⟩) ?_
  refine tq_aload_n (M := mX10_init) (pc := 149) dX10_init_149 rfl ?_
  refine tq_iconst (M := mX10_init) (pc := 150) dX10_init_150 tk_ki_0 ?_
  obtain ⟨w38, ew38, hf⟩ := tq_be hf
  refine tq_putv (M := mX10_init) (pc := 151) tk_c10 (by decide) dX10_init_151 tk_RX10_81 rfl (Or.inl rfl) ew38 (tq_nI _) ?_
  refine tq_aload_n (M := mX10_init) (pc := 154) dX10_init_154 rfl ?_
  refine tq_iconst (M := mX10_init) (pc := 155) dX10_init_155 tk_ki_0 ?_
  obtain ⟨w39, ew39, hf⟩ := tq_be hf
  refine tq_putv (M := mX10_init) (pc := 156) tk_c10 (by decide) dX10_init_156 tk_RX10_85 rfl (Or.inl rfl) ew39 (tq_nI _) ?_
  refine tq_aload_n (M := mX10_init) (pc := 159) dX10_init_159 rfl ?_
  refine tq_iconst (M := mX10_init) (pc := 160) dX10_init_160 tk_ki_0 ?_
  obtain ⟨w40, ew40, hf⟩ := tq_be hf
  refine tq_putv (M := mX10_init) (pc := 161) tk_c10 (by decide) dX10_init_161 tk_RX10_88 rfl (Or.inl rfl) ew40 (tq_nI _) ?_
  refine tq_aload_n (M := mX10_init) (pc := 164) dX10_init_164 rfl ?_
  refine tq_lconst (M := mX10_init) (pc := 165) dX10_init_165 tk_kl_0 ?_
  obtain ⟨w41, ew41, hf⟩ := tq_be hf
  refine tq_putv (M := mX10_init) (pc := 166) tk_c10 (by decide) dX10_init_166 tk_RX10_91 rfl (Or.inl rfl) ew41 (tq_nL _) ?_
  refine tq_aload_n (M := mX10_init) (pc := 169) dX10_init_169 rfl ?_
  refine tq_lconst (M := mX10_init) (pc := 170) dX10_init_170 tk_kl_0 ?_
  obtain ⟨w42, ew42, hf⟩ := tq_be hf
  refine tq_putv (M := mX10_init) (pc := 171) tk_c10 (by decide) dX10_init_171 tk_RX10_95 rfl (Or.inl rfl) ew42 (tq_nL _) ?_
  refine tq_aload_n (M := mX10_init) (pc := 174) dX10_init_174 rfl ?_
  refine tq_iconst (M := mX10_init) (pc := 175) dX10_init_175 tk_ki_0 ?_
  obtain ⟨w43, ew43, hf⟩ := tq_be hf
  refine tq_putv (M := mX10_init) (pc := 176) tk_c10 (by decide) dX10_init_176 tk_RX10_98 rfl (Or.inl rfl) ew43 (tq_n01 (Or.inl rfl)) ?_
  refine tq_aload_n (M := mX10_init) (pc := 179) dX10_init_179 rfl ?_
  refine tq_iconst (M := mX10_init) (pc := 180) dX10_init_180 tk_ki_1 ?_
  obtain ⟨w44, ew44, hf⟩ := tq_be hf
  refine tq_putv (M := mX10_init) (pc := 181) tk_c10 (by decide) dX10_init_181 tk_RX10_102 rfl (Or.inl rfl) ew44 (tq_n01 (Or.inr rfl)) ?_
  refine tq_aload_n (M := mX10_init) (pc := 184) dX10_init_184 rfl ?_
  obtain ⟨k45, ek45, hf⟩ := tq_be hf
  refine tq_getR (M := mX10_init) (pc := 185) tk_c10 (by decide) dX10_init_185 tk_RX10_12 rfl ek45 ?_
  refine tq_iconst (M := mX10_init) (pc := 188) dX10_init_188 tk_ki_0 ?_
  refine tq_iconst (M := mX10_init) (pc := 189) dX10_init_189 tk_ki_0 ?_
  refine tq_iconst (M := mX10_init) (pc := 190) dX10_init_190 tk_ki_m1 ?_
  obtain ⟨⟨⟩, eu47, hf⟩ := tq_be hf
  obtain ⟨fsu47, eu47⟩ := tq_is_s eu47
  obtain ⟨v46, ev46, hf⟩ := tq_be hf
  refine tq_calV (M := mX10_init) (pc := 191) (S := []) tk_y_X8_make tk_v_X8_make tk_RX10_105 dX10_init_191 [.int (0 : Int32), .int (0 : Int32), .int (-1 : Int32)] rfl (S0 := _) rfl eu47 rfl (Nat.le_of_ble_eq_true rfl) (d1 := d - 1) (b1 := 0) (s1 := 0) (bc' := 0) (bs' := 0) (Q1 := fun r h9 => r = .inl (some (.int v46.1)) ∧ v46.2 = h9) (by omega) rfl rfl (w_X8_make (by omega) ev46 (fun _ _ q => q)) (fun E h9 q => nomatch (show (Sum.inr E : tq_R) = Sum.inl _ from q.1)) (fun r9 h9 q => ?_)
  obtain ⟨q1, rfl⟩ := q
  cases (show (Sum.inl r9 : tq_R) = Sum.inl (some (.int v46.1)) from q1)
  refine tq_pop_ (M := mX10_init) (pc := 194) dX10_init_194 rfl ?_
  refine tq_aload_n (M := mX10_init) (pc := 195) dX10_init_195 rfl ?_
  obtain ⟨k48, ek48, hf⟩ := tq_be hf
  refine tq_getR (M := mX10_init) (pc := 196) tk_c10 (by decide) dX10_init_196 tk_RX10_12 rfl ek48 ?_
  obtain ⟨⟨⟩, eu50, hf⟩ := tq_be hf
  obtain ⟨fsu50, eu50⟩ := tq_is_s eu50
  obtain ⟨v49, ev49, hf⟩ := tq_be hf
  refine tq_calV (M := mX10_init) (pc := 199) (S := []) tk_y_X8_layOut tk_v_X8_layOut tk_RX10_109 dX10_init_199 [] rfl (S0 := _) rfl eu50 rfl (Nat.le_of_ble_eq_true rfl) (d1 := d - 1) (b1 := 0) (s1 := 0) (bc' := 0) (bs' := 0) (Q1 := fun r h9 => r = .inl none ∧ v49 = h9) (by omega) rfl rfl (w_X8_layOut (by omega) ev49 (fun _ _ q => q)) (fun E h9 q => nomatch (show (Sum.inr E : tq_R) = Sum.inl _ from q.1)) (fun r9 h9 q => ?_)
  obtain ⟨q1, rfl⟩ := q
  cases (show (Sum.inl r9 : tq_R) = Sum.inl (none) from q1)
  refine tq_aload_n (M := mX10_init) (pc := 202) dX10_init_202 rfl ?_
  obtain ⟨k51, ek51, hf⟩ := tq_be hf
  refine tq_getR (M := mX10_init) (pc := 203) tk_c10 (by decide) dX10_init_203 tk_RX10_12 rfl ek51 ?_
  obtain ⟨⟨⟩, eu53, hf⟩ := tq_be hf
  obtain ⟨fsu53, eu53⟩ := tq_is_s eu53
  obtain ⟨v52, ev52, hf⟩ := tq_be hf
  refine tq_calV (M := mX10_init) (pc := 206) (S := []) tk_y_X8_numberAnew tk_v_X8_numberAnew tk_RX10_112 dX10_init_206 [] rfl (S0 := _) rfl eu53 rfl (Nat.le_of_ble_eq_true rfl) (d1 := d - 1) (b1 := 0) (s1 := 0) (bc' := 0) (bs' := 0) (Q1 := fun r h9 => r = .inl none ∧ v52 = h9) (by omega) rfl rfl (w_X8_numberAnew (by omega) ev52 (fun _ _ q => q)) (fun E h9 q => nomatch (show (Sum.inr E : tq_R) = Sum.inl _ from q.1)) (fun r9 h9 q => ?_)
  obtain ⟨q1, rfl⟩ := q
  cases (show (Sum.inl r9 : tq_R) = Sum.inl (none) from q1)
  refine tq_aload_n (M := mX10_init) (pc := 209) dX10_init_209 rfl ?_
  obtain ⟨k54, ek54, hf⟩ := tq_be hf
  refine tq_getR (M := mX10_init) (pc := 210) tk_c10 (by decide) dX10_init_210 tk_RX10_38 rfl ek54 ?_
  refine tq_aload_n (M := mX10_init) (pc := 213) dX10_init_213 rfl ?_
  obtain ⟨k55, ek55, hf⟩ := tq_be hf
  refine tq_getR (M := mX10_init) (pc := 214) tk_c10 (by decide) dX10_init_214 tk_RX10_12 rfl ek55 ?_
  obtain ⟨k56, ek56, hf⟩ := tq_be hf
  refine tq_getR (M := mX10_init) (pc := 217) tk_c8 (by decide) dX10_init_217 tk_RX10_115 rfl ek56 ?_
  obtain ⟨⟨⟩, eu58, hf⟩ := tq_be hf
  obtain ⟨fsu58, eu58⟩ := tq_is_s eu58
  obtain ⟨v57, ev57, hf⟩ := tq_be hf
  refine tq_calV (M := mX10_init) (pc := 220) (S := [.ref k54]) tk_y_X3_everything tk_v_X3_everything tk_RX10_119 dX10_init_220 [] rfl (S0 := _) rfl eu58 rfl (Nat.le_of_ble_eq_true rfl) (d1 := d - 1) (b1 := 0) (s1 := 0) (bc' := 0) (bs' := 0) (Q1 := fun r h9 => r = .inl (some (.long v57)) ∧ v52 = h9) (by omega) rfl rfl (w_X3_everything (by omega) ev57 (fun _ _ q => q)) (fun E h9 q => nomatch (show (Sum.inr E : tq_R) = Sum.inl _ from q.1)) (fun r9 h9 q => ?_)
  obtain ⟨q1, rfl⟩ := q
  cases (show (Sum.inl r9 : tq_R) = Sum.inl (some (.long v57)) from q1)
  obtain ⟨⟨⟩, eu60, hf⟩ := tq_be hf
  obtain ⟨fsu60, eu60⟩ := tq_is_s eu60
  obtain ⟨v59, ev59, hf⟩ := tq_be hf
  refine tq_calV (M := mX10_init) (pc := 223) (S := []) tk_y_X2_start tk_v_X2_start tk_RX10_125 dX10_init_223 [.long v57] rfl (S0 := _) rfl eu60 rfl (Nat.le_of_ble_eq_true rfl) (d1 := d - 1) (b1 := 0) (s1 := 0) (bc' := 0) (bs' := 0) (Q1 := fun r h9 => r = .inl none ∧ v59 = h9) (by omega) rfl rfl (w_X2_start (by omega) ev59 (fun _ _ q => q)) (fun E h9 q => nomatch (show (Sum.inr E : tq_R) = Sum.inl _ from q.1)) (fun r9 h9 q => ?_)
  obtain ⟨q1, rfl⟩ := q
  cases (show (Sum.inl r9 : tq_R) = Sum.inl (none) from q1)
  refine tq_vret (M := mX10_init) (pc := 226) dX10_init_226 rfl ?_
  cases (Option.some.inj hf)
  exact hQ _ _ ⟨rfl, rfl⟩
abbrev mX10_needNode : tq_M := (RX10, cX10_needNode, 2, none, false, [], none)
def f_X10_needNode (t : Nat) (a1 : Int32) (h : tq_H) : Option ((String ⊕ Unit) × tq_H) :=
  (tq_gr h t 10 0).bind fun k1 =>
  (tq_gr h k1 8 0).bind fun k2 =>
  (tq_is h k2 3).bind fun _ =>
  (f_X3_holds k2 a1 h).bind fun v3 =>
  if v3 = 0 then
    some (.inl "java/lang/IndexOutOfBoundsException", h)
  else
    some (.inr (), h)
set_option maxHeartbeats 4000000 in
set_option maxRecDepth 20000 in
theorem w_X10_needNode {l : Launch} {d : Nat} (hd9 : 6 ≤ d) {t : Nat} {a1 : Int32} {bc bs : Nat} {h : tq_H} {o : (String ⊕ Unit) × tq_H} {Q : tq_R → tq_H → Prop} (hf : f_X10_needNode t a1 h = some o) (hb : ∀ E g, o = (.inl E, g) → 1 ≤ bc ∧ 6 ≤ bs) (hQ : ∀ r h9, r = tq_enV o.1 ∧ o.2 = h9 → Q r h9) : tq_C l yX10_needNode cX10_needNode 2 none d (0 + bc) (0 + bs) [.ref t, .int a1] h Q := by
  refine tq_body (y := yX10_needNode) false (by decide +kernel) (fun z => by cases z) (Nat.le_of_ble_eq_true rfl) ?_
  show tq_W l mX10_needNode d (0 + bc) (0 + bs) Q 0 [(0, .ref t), (1, .int a1)] [] h
  refine tq_more (bc := bc) (bs := bs) (by omega) (by omega) ?_
  refine tq_aload_n (M := mX10_needNode) (pc := 0) dX10_needNode_0 rfl ?_
  obtain ⟨k1, ek1, hf⟩ := tq_be hf
  refine tq_getR (M := mX10_needNode) (pc := 1) tk_c10 (by decide) dX10_needNode_1 tk_RX10_12 rfl ek1 ?_
  obtain ⟨k2, ek2, hf⟩ := tq_be hf
  refine tq_getR (M := mX10_needNode) (pc := 4) tk_c8 (by decide) dX10_needNode_4 tk_RX10_115 rfl ek2 ?_
  refine tq_iload_n (M := mX10_needNode) (pc := 7) dX10_needNode_7 rfl ?_
  obtain ⟨⟨⟩, eu4, hf⟩ := tq_be hf
  obtain ⟨fsu4, eu4⟩ := tq_is_s eu4
  obtain ⟨v3, ev3, hf⟩ := tq_be hf
  refine tq_calV (M := mX10_needNode) (pc := 8) (S := []) tk_y_X3_holds tk_v_X3_holds tk_RX10_222 dX10_needNode_8 [.int a1] rfl (S0 := _) rfl eu4 rfl (Nat.le_of_ble_eq_true rfl) (d1 := d - 1) (b1 := 0) (s1 := 0) (bc' := bc) (bs' := bs) (Q1 := fun r h9 => r = .inl (some (.int v3)) ∧ h = h9) (by omega) (by omega) (by omega) (w_X3_holds (by omega) ev3 (fun _ _ q => q)) (fun E h9 q => nomatch (show (Sum.inr E : tq_R) = Sum.inl _ from q.1)) (fun r9 h9 q => ?_)
  obtain ⟨q1, rfl⟩ := q
  cases (show (Sum.inl r9 : tq_R) = Sum.inl (some (.int v3)) from q1)
  refine tq_if_ne (M := mX10_needNode) (pc := 11) (tgt := 25) dX10_needNode_11 (by decide) (fun cc => ?_) (fun cc => ?_)
  · have hf := tq_ifn hf cc
    refine tq_vret (M := mX10_needNode) (pc := 25) dX10_needNode_25 rfl ?_
    cases (Option.some.inj hf)
    exact hQ _ _ ⟨rfl, rfl⟩
  · have hf := tq_ifp hf cc
    have hb9 := hb _ _ (Option.some.inj hf).symm
    refine tq_throw (M := mX10_needNode) (pc := 14) (E := "java/lang/IndexOutOfBoundsException") (ik := 440) (ic := 444) (is := 442) (text := "there is no such node") (by decide +kernel) (by decide +kernel) rfl rfl dX10_needNode_14 dX10_needNode_17 dX10_needNode_18 dX10_needNode_21 dX10_needNode_24 (by omega) (by omega) (by omega) ?_
    cases (Option.some.inj hf)
    exact hQ _ _ ⟨rfl, rfl⟩
abbrev mX10_needPlaceIn : tq_M := (RX10, cX10_needPlaceIn, 3, none, false, [], none)
def f_X10_needPlaceIn (t : Nat) (a1 : Int32) (a2 : Int32) (h : tq_H) : Option ((String ⊕ Unit) × tq_H) :=
  (tq_is h t 10).bind fun _ =>
  tq_tb (f_X10_needNode t a1 h) fun _ w3 =>
  if a2 < 0 then
    some (.inl "java/lang/IndexOutOfBoundsException", w3)
  else
    (tq_gr w3 t 10 0).bind fun k4 =>
    (tq_gr w3 k4 8 0).bind fun k5 =>
    (tq_is w3 k5 3).bind fun _ =>
    (f_X3_childCount k5 a1 w3).bind fun v6 =>
    if a2 ≤ v6 then
      some (.inr (), w3)
    else
      some (.inl "java/lang/IndexOutOfBoundsException", w3)
set_option maxHeartbeats 4000000 in
set_option maxRecDepth 20000 in
theorem w_X10_needPlaceIn {l : Launch} {d : Nat} (hd9 : 7 ≤ d) {t : Nat} {a1 : Int32} {a2 : Int32} {bc bs : Nat} {h : tq_H} {o : (String ⊕ Unit) × tq_H} {Q : tq_R → tq_H → Prop} (hf : f_X10_needPlaceIn t a1 a2 h = some o) (hb : ∀ E g, o = (.inl E, g) → 1 ≤ bc ∧ 6 ≤ bs) (hQ : ∀ r h9, r = tq_enV o.1 ∧ o.2 = h9 → Q r h9) : tq_C l yX10_needPlaceIn cX10_needPlaceIn 3 none d (0 + bc) (0 + bs) [.ref t, .int a1, .int a2] h Q := by
  refine tq_body (y := yX10_needPlaceIn) false (by decide +kernel) (fun z => by cases z) (Nat.le_of_ble_eq_true rfl) ?_
  show tq_W l mX10_needPlaceIn d (0 + bc) (0 + bs) Q 0 [(0, .ref t), (1, .int a1), (2, .int a2)] [] h
  refine tq_more (bc := bc) (bs := bs) (by omega) (by omega) ?_
  refine tq_aload_n (M := mX10_needPlaceIn) (pc := 0) dX10_needPlaceIn_0 rfl ?_
  refine tq_iload_n (M := mX10_needPlaceIn) (pc := 1) dX10_needPlaceIn_1 rfl ?_
  obtain ⟨⟨⟩, eu2, hf⟩ := tq_be hf
  obtain ⟨fsu2, eu2⟩ := tq_is_s eu2
  rcases tq_te hf with ⟨E1, g1, ev1, e9⟩ | ⟨v1, w3, ev1, hf⟩
  · have hb9 := hb _ _ e9
    refine tq_calV (M := mX10_needPlaceIn) (pc := 2) (S := []) tk_y_X10_needNode tk_v_X10_needNode tk_RX10_146 dX10_needPlaceIn_2 [.int a1] rfl (S0 := _) rfl eu2 rfl (Nat.le_of_ble_eq_true rfl) (d1 := d - 1) (b1 := 0 + bc) (s1 := 0 + bs) (bc' := 0) (bs' := 0) (Q1 := fun r h9 => r = tq_enV ((.inl E1, g1) : (String ⊕ Unit) × tq_H).1 ∧ ((.inl E1, g1) : (String ⊕ Unit) × tq_H).2 = h9) (by omega) (by omega) (by omega) (w_X10_needNode (bc := bc) (bs := bs) (by omega) ev1 (fun _ _ _ => hb9) (fun _ _ q => q)) (fun E h9 q => ?_) (fun r9 h9 q => nomatch (show (Sum.inl r9 : tq_R) = Sum.inr E1 from q.1))
    obtain ⟨q1, rfl⟩ := q
    cases (show (Sum.inr E : tq_R) = Sum.inr E1 from q1)
    subst e9
    exact tq_out rfl (hQ _ _ ⟨rfl, rfl⟩)
  · refine tq_calV (M := mX10_needPlaceIn) (pc := 2) (S := []) tk_y_X10_needNode tk_v_X10_needNode tk_RX10_146 dX10_needPlaceIn_2 [.int a1] rfl (S0 := _) rfl eu2 rfl (Nat.le_of_ble_eq_true rfl) (d1 := d - 1) (b1 := 0 + 0) (s1 := 0 + 0) (bc' := bc) (bs' := bs) (Q1 := fun r h9 => r = tq_enV ((.inr (), w3) : (String ⊕ Unit) × tq_H).1 ∧ ((.inr (), w3) : (String ⊕ Unit) × tq_H).2 = h9) (by omega) (by omega) (by omega) (w_X10_needNode (bc := 0) (bs := 0) (by omega) ev1 (fun E g z => by cases z) (fun _ _ q => q)) (fun E h9 q => nomatch (show (Sum.inr E : tq_R) = Sum.inl _ from q.1)) (fun r9 h9 q => ?_)
    obtain ⟨q1, rfl⟩ := q
    cases (show (Sum.inl r9 : tq_R) = Sum.inl (none) from q1)
    refine tq_iload_n (M := mX10_needPlaceIn) (pc := 5) dX10_needPlaceIn_5 rfl ?_
    refine tq_if_lt (M := mX10_needPlaceIn) (pc := 6) (tgt := 24) dX10_needPlaceIn_6 (by decide) (fun cc => ?_) (fun cc => ?_)
    · have hf := tq_ifp hf cc
      have hb9 := hb _ _ (Option.some.inj hf).symm
      refine tq_throw (M := mX10_needPlaceIn) (pc := 24) (E := "java/lang/IndexOutOfBoundsException") (ik := 440) (ic := 444) (is := 448) (text := "there is no such place") (by decide +kernel) (by decide +kernel) rfl rfl dX10_needPlaceIn_24 dX10_needPlaceIn_27 dX10_needPlaceIn_28 dX10_needPlaceIn_31 dX10_needPlaceIn_34 (by omega) (by omega) (by omega) ?_
      cases (Option.some.inj hf)
      exact hQ _ _ ⟨rfl, rfl⟩
    · have hf := tq_ifn hf cc
      refine tq_iload_n (M := mX10_needPlaceIn) (pc := 9) dX10_needPlaceIn_9 rfl ?_
      refine tq_aload_n (M := mX10_needPlaceIn) (pc := 10) dX10_needPlaceIn_10 rfl ?_
      obtain ⟨k4, ek4, hf⟩ := tq_be hf
      refine tq_getR (M := mX10_needPlaceIn) (pc := 11) tk_c10 (by decide) dX10_needPlaceIn_11 tk_RX10_12 rfl ek4 ?_
      obtain ⟨k5, ek5, hf⟩ := tq_be hf
      refine tq_getR (M := mX10_needPlaceIn) (pc := 14) tk_c8 (by decide) dX10_needPlaceIn_14 tk_RX10_115 rfl ek5 ?_
      refine tq_iload_n (M := mX10_needPlaceIn) (pc := 17) dX10_needPlaceIn_17 rfl ?_
      obtain ⟨⟨⟩, eu7, hf⟩ := tq_be hf
      obtain ⟨fsu7, eu7⟩ := tq_is_s eu7
      obtain ⟨v6, ev6, hf⟩ := tq_be hf
      refine tq_calV (M := mX10_needPlaceIn) (pc := 18) (S := [.int a2]) tk_y_X3_childCount tk_v_X3_childCount tk_RX10_445 dX10_needPlaceIn_18 [.int a1] rfl (S0 := _) rfl eu7 rfl (Nat.le_of_ble_eq_true rfl) (d1 := d - 1) (b1 := 0) (s1 := 0) (bc' := bc) (bs' := bs) (Q1 := fun r h9 => r = .inl (some (.int v6)) ∧ w3 = h9) (by omega) (by omega) (by omega) (w_X3_childCount (by omega) ev6 (fun _ _ q => q)) (fun E h9 q => nomatch (show (Sum.inr E : tq_R) = Sum.inl _ from q.1)) (fun r9 h9 q => ?_)
      obtain ⟨q1, rfl⟩ := q
      cases (show (Sum.inl r9 : tq_R) = Sum.inl (some (.int v6)) from q1)
      refine tq_icmp_le (M := mX10_needPlaceIn) (pc := 21) (tgt := 35) dX10_needPlaceIn_21 (by decide) (fun cc => ?_) (fun cc => ?_)
      · have hf := tq_ifp hf cc
        refine tq_vret (M := mX10_needPlaceIn) (pc := 35) dX10_needPlaceIn_35 rfl ?_
        cases (Option.some.inj hf)
        exact hQ _ _ ⟨rfl, rfl⟩
      · have hf := tq_ifn hf cc
        have hb9 := hb _ _ (Option.some.inj hf).symm
        refine tq_throw (M := mX10_needPlaceIn) (pc := 24) (E := "java/lang/IndexOutOfBoundsException") (ik := 440) (ic := 444) (is := 448) (text := "there is no such place") (by decide +kernel) (by decide +kernel) rfl rfl dX10_needPlaceIn_24 dX10_needPlaceIn_27 dX10_needPlaceIn_28 dX10_needPlaceIn_31 dX10_needPlaceIn_34 (by omega) (by omega) (by omega) ?_
        cases (Option.some.inj hf)
        exact hQ _ _ ⟨rfl, rfl⟩
abbrev mX10_needRange : tq_M := (RX10, cX10_needRange, 4, none, false, [], none)
def f_X10_needRange (t : Nat) (a1 : Int32) (a2 : Int32) (a3 : Int32) (h : tq_H) : Option ((String ⊕ Unit) × tq_H) :=
  if a1 < a2 then
    some (.inl "java/lang/IllegalArgumentException", h)
  else
    if a1 ≤ a3 then
      some (.inr (), h)
    else
      some (.inl "java/lang/IllegalArgumentException", h)
set_option maxHeartbeats 4000000 in
set_option maxRecDepth 20000 in
theorem w_X10_needRange {l : Launch} {d : Nat} (hd9 : 6 ≤ d) {t : Nat} {a1 : Int32} {a2 : Int32} {a3 : Int32} {bc bs : Nat} {h : tq_H} {o : (String ⊕ Unit) × tq_H} {Q : tq_R → tq_H → Prop} (hf : f_X10_needRange t a1 a2 a3 h = some o) (hb : ∀ E g, o = (.inl E, g) → 1 ≤ bc ∧ 6 ≤ bs) (hQ : ∀ r h9, r = tq_enV o.1 ∧ o.2 = h9 → Q r h9) : tq_C l yX10_needRange cX10_needRange 4 none d (0 + bc) (0 + bs) [.ref t, .int a1, .int a2, .int a3] h Q := by
  refine tq_body (y := yX10_needRange) false (by decide +kernel) (fun z => by cases z) (Nat.le_of_ble_eq_true rfl) ?_
  show tq_W l mX10_needRange d (0 + bc) (0 + bs) Q 0 [(0, .ref t), (1, .int a1), (2, .int a2), (3, .int a3)] [] h
  refine tq_more (bc := bc) (bs := bs) (by omega) (by omega) ?_
  refine tq_iload_n (M := mX10_needRange) (pc := 0) dX10_needRange_0 rfl ?_
  refine tq_iload_n (M := mX10_needRange) (pc := 1) dX10_needRange_1 rfl ?_
  refine tq_icmp_lt (M := mX10_needRange) (pc := 2) (tgt := 10) dX10_needRange_2 (by decide) (fun cc => ?_) (fun cc => ?_)
  · have hf := tq_ifp hf cc
    have hb9 := hb _ _ (Option.some.inj hf).symm
    refine tq_throw (M := mX10_needRange) (pc := 10) (E := "java/lang/IllegalArgumentException") (ik := 268) (ic := 272) (is := 456) (text := "an argument is out of its range") (by decide +kernel) (by decide +kernel) rfl rfl dX10_needRange_10 dX10_needRange_13 dX10_needRange_14 dX10_needRange_17 dX10_needRange_20 (by omega) (by omega) (by omega) ?_
    cases (Option.some.inj hf)
    exact hQ _ _ ⟨rfl, rfl⟩
  · have hf := tq_ifn hf cc
    refine tq_iload_n (M := mX10_needRange) (pc := 5) dX10_needRange_5 rfl ?_
    refine tq_iload_n (M := mX10_needRange) (pc := 6) dX10_needRange_6 rfl ?_
    refine tq_icmp_le (M := mX10_needRange) (pc := 7) (tgt := 21) dX10_needRange_7 (by decide) (fun cc => ?_) (fun cc => ?_)
    · have hf := tq_ifp hf cc
      refine tq_vret (M := mX10_needRange) (pc := 21) dX10_needRange_21 rfl ?_
      cases (Option.some.inj hf)
      exact hQ _ _ ⟨rfl, rfl⟩
    · have hf := tq_ifn hf cc
      have hb9 := hb _ _ (Option.some.inj hf).symm
      refine tq_throw (M := mX10_needRange) (pc := 10) (E := "java/lang/IllegalArgumentException") (ik := 268) (ic := 272) (is := 456) (text := "an argument is out of its range") (by decide +kernel) (by decide +kernel) rfl rfl dX10_needRange_10 dX10_needRange_13 dX10_needRange_14 dX10_needRange_17 dX10_needRange_20 (by omega) (by omega) (by omega) ?_
      cases (Option.some.inj hf)
      exact hQ _ _ ⟨rfl, rfl⟩
abbrev mX10_needElement : tq_M := (RX10, cX10_needElement, 2, none, false, [], none)
def f_X10_needElement (t : Nat) (a1 : Int32) (h : tq_H) : Option ((String ⊕ Unit) × tq_H) :=
  (tq_gr h t 10 0).bind fun k1 =>
  (tq_gr h k1 8 1).bind fun k2 =>
  (tq_is h k2 5).bind fun _ =>
  (f_X5_get k2 a1 h).bind fun v3 =>
  if v3 = 0 then
    some (.inr (), h)
  else
    some (.inl "java/lang/IllegalStateException", h)
set_option maxHeartbeats 4000000 in
set_option maxRecDepth 20000 in
theorem w_X10_needElement {l : Launch} {d : Nat} (hd9 : 6 ≤ d) {t : Nat} {a1 : Int32} {bc bs : Nat} {h : tq_H} {o : (String ⊕ Unit) × tq_H} {Q : tq_R → tq_H → Prop} (hf : f_X10_needElement t a1 h = some o) (hb : ∀ E g, o = (.inl E, g) → 1 ≤ bc ∧ 6 ≤ bs) (hQ : ∀ r h9, r = tq_enV o.1 ∧ o.2 = h9 → Q r h9) : tq_C l yX10_needElement cX10_needElement 2 none d (0 + bc) (0 + bs) [.ref t, .int a1] h Q := by
  refine tq_body (y := yX10_needElement) false (by decide +kernel) (fun z => by cases z) (Nat.le_of_ble_eq_true rfl) ?_
  show tq_W l mX10_needElement d (0 + bc) (0 + bs) Q 0 [(0, .ref t), (1, .int a1)] [] h
  refine tq_more (bc := bc) (bs := bs) (by omega) (by omega) ?_
  refine tq_aload_n (M := mX10_needElement) (pc := 0) dX10_needElement_0 rfl ?_
  obtain ⟨k1, ek1, hf⟩ := tq_be hf
  refine tq_getR (M := mX10_needElement) (pc := 1) tk_c10 (by decide) dX10_needElement_1 tk_RX10_12 rfl ek1 ?_
  obtain ⟨k2, ek2, hf⟩ := tq_be hf
  refine tq_getR (M := mX10_needElement) (pc := 4) tk_c8 (by decide) dX10_needElement_4 tk_RX10_159 rfl ek2 ?_
  refine tq_iload_n (M := mX10_needElement) (pc := 7) dX10_needElement_7 rfl ?_
  obtain ⟨⟨⟩, eu4, hf⟩ := tq_be hf
  obtain ⟨fsu4, eu4⟩ := tq_is_s eu4
  obtain ⟨v3, ev3, hf⟩ := tq_be hf
  refine tq_calV (M := mX10_needElement) (pc := 8) (S := []) tk_y_X5_get tk_v_X5_get tk_RX10_162 dX10_needElement_8 [.int a1] rfl (S0 := _) rfl eu4 rfl (Nat.le_of_ble_eq_true rfl) (d1 := d - 1) (b1 := 0) (s1 := 0) (bc' := bc) (bs' := bs) (Q1 := fun r h9 => r = .inl (some (.int v3)) ∧ h = h9) (by omega) (by omega) (by omega) (w_X5_get (by omega) ev3 (fun _ _ q => q)) (fun E h9 q => nomatch (show (Sum.inr E : tq_R) = Sum.inl _ from q.1)) (fun r9 h9 q => ?_)
  obtain ⟨q1, rfl⟩ := q
  cases (show (Sum.inl r9 : tq_R) = Sum.inl (some (.int v3)) from q1)
  refine tq_if_eq (M := mX10_needElement) (pc := 11) (tgt := 25) dX10_needElement_11 (by decide) (fun cc => ?_) (fun cc => ?_)
  · have hf := tq_ifp hf cc
    refine tq_vret (M := mX10_needElement) (pc := 25) dX10_needElement_25 rfl ?_
    cases (Option.some.inj hf)
    exact hQ _ _ ⟨rfl, rfl⟩
  · have hf := tq_ifn hf cc
    have hb9 := hb _ _ (Option.some.inj hf).symm
    refine tq_throw (M := mX10_needElement) (pc := 14) (E := "java/lang/IllegalStateException") (ik := 149) (ic := 153) (is := 458) (text := "it is no element") (by decide +kernel) (by decide +kernel) rfl rfl dX10_needElement_14 dX10_needElement_17 dX10_needElement_18 dX10_needElement_21 dX10_needElement_24 (by omega) (by omega) (by omega) ?_
    cases (Option.some.inj hf)
    exact hQ _ _ ⟨rfl, rfl⟩
abbrev mX10_needRoom : tq_M := (RX10, cX10_needRoom, 1, none, false, [], none)
def f_X10_needRoom (t : Nat) (h : tq_H) : Option ((String ⊕ Unit) × tq_H) :=
  (tq_gr h t 10 2).bind fun k1 =>
  (tq_is h k1 9).bind fun _ =>
  (f_X9_count k1 h).bind fun v2 =>
  if v2 < (20 : Int32) then
    some (.inr (), h)
  else
    some (.inl "java/lang/IllegalStateException", h)
set_option maxHeartbeats 4000000 in
set_option maxRecDepth 20000 in
theorem w_X10_needRoom {l : Launch} {d : Nat} (hd9 : 6 ≤ d) {t : Nat} {bc bs : Nat} {h : tq_H} {o : (String ⊕ Unit) × tq_H} {Q : tq_R → tq_H → Prop} (hf : f_X10_needRoom t h = some o) (hb : ∀ E g, o = (.inl E, g) → 1 ≤ bc ∧ 6 ≤ bs) (hQ : ∀ r h9, r = tq_enV o.1 ∧ o.2 = h9 → Q r h9) : tq_C l yX10_needRoom cX10_needRoom 1 none d (0 + bc) (0 + bs) [.ref t] h Q := by
  refine tq_body (y := yX10_needRoom) false (by decide +kernel) (fun z => by cases z) (Nat.le_of_ble_eq_true rfl) ?_
  show tq_W l mX10_needRoom d (0 + bc) (0 + bs) Q 0 [(0, .ref t)] [] h
  refine tq_more (bc := bc) (bs := bs) (by omega) (by omega) ?_
  refine tq_aload_n (M := mX10_needRoom) (pc := 0) dX10_needRoom_0 rfl ?_
  obtain ⟨k1, ek1, hf⟩ := tq_be hf
  refine tq_getR (M := mX10_needRoom) (pc := 1) tk_c10 (by decide) dX10_needRoom_1 tk_RX10_22 rfl ek1 ?_
  obtain ⟨⟨⟩, eu3, hf⟩ := tq_be hf
  obtain ⟨fsu3, eu3⟩ := tq_is_s eu3
  obtain ⟨v2, ev2, hf⟩ := tq_be hf
  refine tq_calV (M := mX10_needRoom) (pc := 4) (S := []) tk_y_X9_count tk_v_X9_count tk_RX10_411 dX10_needRoom_4 [] rfl (S0 := _) rfl eu3 rfl (Nat.le_of_ble_eq_true rfl) (d1 := d - 1) (b1 := 0) (s1 := 0) (bc' := bc) (bs' := bs) (Q1 := fun r h9 => r = .inl (some (.int v2)) ∧ h = h9) (by omega) (by omega) (by omega) (w_X9_count (by omega) ev2 (fun _ _ q => q)) (fun E h9 q => nomatch (show (Sum.inr E : tq_R) = Sum.inl _ from q.1)) (fun r9 h9 q => ?_)
  obtain ⟨q1, rfl⟩ := q
  cases (show (Sum.inl r9 : tq_R) = Sum.inl (some (.int v2)) from q1)
  refine tq_bipush (M := mX10_needRoom) (pc := 7) dX10_needRoom_7 tk_kb_20 ?_
  refine tq_icmp_lt (M := mX10_needRoom) (pc := 9) (tgt := 23) dX10_needRoom_9 (by decide) (fun cc => ?_) (fun cc => ?_)
  · have hf := tq_ifp hf cc
    refine tq_vret (M := mX10_needRoom) (pc := 23) dX10_needRoom_23 rfl ?_
    cases (Option.some.inj hf)
    exact hQ _ _ ⟨rfl, rfl⟩
  · have hf := tq_ifn hf cc
    have hb9 := hb _ _ (Option.some.inj hf).symm
    refine tq_throw (M := mX10_needRoom) (pc := 12) (E := "java/lang/IllegalStateException") (ik := 149) (ic := 153) (is := 460) (text := "there are 20 updates") (by decide +kernel) (by decide +kernel) rfl rfl dX10_needRoom_12 dX10_needRoom_15 dX10_needRoom_16 dX10_needRoom_19 dX10_needRoom_22 (by omega) (by omega) (by omega) ?_
    cases (Option.some.inj hf)
    exact hQ _ _ ⟨rfl, rfl⟩
abbrev mX10_insertElement : tq_M := (RX10, cX10_insertElement, 4, (some .int), false, [], none)
def f_X10_insertElement (t : Nat) (a1 : Int32) (a2 : Int32) (a3 : Int32) (h : tq_H) : Option ((String ⊕ Int32) × tq_H) :=
  (tq_is h t 10).bind fun _ =>
  tq_tb (f_X10_needPlaceIn t a1 a2 h) fun _ w3 =>
  (tq_is w3 t 10).bind fun _ =>
  tq_tb (f_X10_needRange t a3 (0 : Int32) (7 : Int32) w3) fun _ w6 =>
  (tq_is w6 t 10).bind fun _ =>
  tq_tb (f_X10_needElement t a1 w6) fun _ w9 =>
  (tq_is w9 t 10).bind fun _ =>
  tq_tb (f_X10_needRoom t w9) fun _ w12 =>
  (tq_gr w12 t 10 2).bind fun k13 =>
  (tq_is w12 k13 9).bind fun _ =>
  (f_X9_addInsert k13 (0 : Int32) a1 a2 a3 (-1 : Int32) w12).bind fun v14 =>
  some (.inr v14.1, v14.2)
set_option maxHeartbeats 4000000 in
set_option maxRecDepth 20000 in
theorem w_X10_insertElement {l : Launch} {d : Nat} (hd9 : 8 ≤ d) {t : Nat} {a1 : Int32} {a2 : Int32} {a3 : Int32} {bc bs : Nat} {h : tq_H} {o : (String ⊕ Int32) × tq_H} {Q : tq_R → tq_H → Prop} (hf : f_X10_insertElement t a1 a2 a3 h = some o) (hb : ∀ E g, o = (.inl E, g) → 1 ≤ bc ∧ 6 ≤ bs) (hQ : ∀ r h9, r = tq_enI o.1 ∧ o.2 = h9 → Q r h9) : tq_C l yX10_insertElement cX10_insertElement 4 (some .int) d (0 + bc) (0 + bs) [.ref t, .int a1, .int a2, .int a3] h Q := by
  refine tq_body (y := yX10_insertElement) false (by decide +kernel) (fun z => by cases z) (Nat.le_of_ble_eq_true rfl) ?_
  show tq_W l mX10_insertElement d (0 + bc) (0 + bs) Q 0 [(0, .ref t), (1, .int a1), (2, .int a2), (3, .int a3)] [] h
  refine tq_more (bc := bc) (bs := bs) (by omega) (by omega) ?_
  refine tq_aload_n (M := mX10_insertElement) (pc := 0) dX10_insertElement_0 rfl ?_
  refine tq_iload_n (M := mX10_insertElement) (pc := 1) dX10_insertElement_1 rfl ?_
  refine tq_iload_n (M := mX10_insertElement) (pc := 2) dX10_insertElement_2 rfl ?_
  obtain ⟨⟨⟩, eu2, hf⟩ := tq_be hf
  obtain ⟨fsu2, eu2⟩ := tq_is_s eu2
  rcases tq_te hf with ⟨E1, g1, ev1, e9⟩ | ⟨v1, w3, ev1, hf⟩
  · have hb9 := hb _ _ e9
    refine tq_calV (M := mX10_insertElement) (pc := 3) (S := []) tk_y_X10_needPlaceIn tk_v_X10_needPlaceIn tk_RX10_129 dX10_insertElement_3 [.int a1, .int a2] rfl (S0 := _) rfl eu2 rfl (Nat.le_of_ble_eq_true rfl) (d1 := d - 1) (b1 := 0 + bc) (s1 := 0 + bs) (bc' := 0) (bs' := 0) (Q1 := fun r h9 => r = tq_enV ((.inl E1, g1) : (String ⊕ Unit) × tq_H).1 ∧ ((.inl E1, g1) : (String ⊕ Unit) × tq_H).2 = h9) (by omega) (by omega) (by omega) (w_X10_needPlaceIn (bc := bc) (bs := bs) (by omega) ev1 (fun _ _ _ => hb9) (fun _ _ q => q)) (fun E h9 q => ?_) (fun r9 h9 q => nomatch (show (Sum.inl r9 : tq_R) = Sum.inr E1 from q.1))
    obtain ⟨q1, rfl⟩ := q
    cases (show (Sum.inr E : tq_R) = Sum.inr E1 from q1)
    subst e9
    exact tq_out rfl (hQ _ _ ⟨rfl, rfl⟩)
  · refine tq_calV (M := mX10_insertElement) (pc := 3) (S := []) tk_y_X10_needPlaceIn tk_v_X10_needPlaceIn tk_RX10_129 dX10_insertElement_3 [.int a1, .int a2] rfl (S0 := _) rfl eu2 rfl (Nat.le_of_ble_eq_true rfl) (d1 := d - 1) (b1 := 0 + 0) (s1 := 0 + 0) (bc' := bc) (bs' := bs) (Q1 := fun r h9 => r = tq_enV ((.inr (), w3) : (String ⊕ Unit) × tq_H).1 ∧ ((.inr (), w3) : (String ⊕ Unit) × tq_H).2 = h9) (by omega) (by omega) (by omega) (w_X10_needPlaceIn (bc := 0) (bs := 0) (by omega) ev1 (fun E g z => by cases z) (fun _ _ q => q)) (fun E h9 q => nomatch (show (Sum.inr E : tq_R) = Sum.inl _ from q.1)) (fun r9 h9 q => ?_)
    obtain ⟨q1, rfl⟩ := q
    cases (show (Sum.inl r9 : tq_R) = Sum.inl (none) from q1)
    refine tq_aload_n (M := mX10_insertElement) (pc := 6) dX10_insertElement_6 rfl ?_
    refine tq_iload_n (M := mX10_insertElement) (pc := 7) dX10_insertElement_7 rfl ?_
    refine tq_iconst (M := mX10_insertElement) (pc := 8) dX10_insertElement_8 tk_ki_0 ?_
    refine tq_bipush (M := mX10_insertElement) (pc := 9) dX10_insertElement_9 tk_kb_7 ?_
    obtain ⟨⟨⟩, eu5, hf⟩ := tq_be hf
    obtain ⟨fsu5, eu5⟩ := tq_is_s eu5
    rcases tq_te hf with ⟨E1, g1, ev4, e9⟩ | ⟨v4, w6, ev4, hf⟩
    · have hb9 := hb _ _ e9
      refine tq_calV (M := mX10_insertElement) (pc := 11) (S := []) tk_y_X10_needRange tk_v_X10_needRange tk_RX10_132 dX10_insertElement_11 [.int a3, .int (0 : Int32), .int (7 : Int32)] rfl (S0 := _) rfl eu5 rfl (Nat.le_of_ble_eq_true rfl) (d1 := d - 1) (b1 := 0 + bc) (s1 := 0 + bs) (bc' := 0) (bs' := 0) (Q1 := fun r h9 => r = tq_enV ((.inl E1, g1) : (String ⊕ Unit) × tq_H).1 ∧ ((.inl E1, g1) : (String ⊕ Unit) × tq_H).2 = h9) (by omega) (by omega) (by omega) (w_X10_needRange (bc := bc) (bs := bs) (by omega) ev4 (fun _ _ _ => hb9) (fun _ _ q => q)) (fun E h9 q => ?_) (fun r9 h9 q => nomatch (show (Sum.inl r9 : tq_R) = Sum.inr E1 from q.1))
      obtain ⟨q1, rfl⟩ := q
      cases (show (Sum.inr E : tq_R) = Sum.inr E1 from q1)
      subst e9
      exact tq_out rfl (hQ _ _ ⟨rfl, rfl⟩)
    · refine tq_calV (M := mX10_insertElement) (pc := 11) (S := []) tk_y_X10_needRange tk_v_X10_needRange tk_RX10_132 dX10_insertElement_11 [.int a3, .int (0 : Int32), .int (7 : Int32)] rfl (S0 := _) rfl eu5 rfl (Nat.le_of_ble_eq_true rfl) (d1 := d - 1) (b1 := 0 + 0) (s1 := 0 + 0) (bc' := bc) (bs' := bs) (Q1 := fun r h9 => r = tq_enV ((.inr (), w6) : (String ⊕ Unit) × tq_H).1 ∧ ((.inr (), w6) : (String ⊕ Unit) × tq_H).2 = h9) (by omega) (by omega) (by omega) (w_X10_needRange (bc := 0) (bs := 0) (by omega) ev4 (fun E g z => by cases z) (fun _ _ q => q)) (fun E h9 q => nomatch (show (Sum.inr E : tq_R) = Sum.inl _ from q.1)) (fun r9 h9 q => ?_)
      obtain ⟨q1, rfl⟩ := q
      cases (show (Sum.inl r9 : tq_R) = Sum.inl (none) from q1)
      refine tq_aload_n (M := mX10_insertElement) (pc := 14) dX10_insertElement_14 rfl ?_
      refine tq_iload_n (M := mX10_insertElement) (pc := 15) dX10_insertElement_15 rfl ?_
      obtain ⟨⟨⟩, eu8, hf⟩ := tq_be hf
      obtain ⟨fsu8, eu8⟩ := tq_is_s eu8
      rcases tq_te hf with ⟨E1, g1, ev7, e9⟩ | ⟨v7, w9, ev7, hf⟩
      · have hb9 := hb _ _ e9
        refine tq_calV (M := mX10_insertElement) (pc := 16) (S := []) tk_y_X10_needElement tk_v_X10_needElement tk_RX10_136 dX10_insertElement_16 [.int a1] rfl (S0 := _) rfl eu8 rfl (Nat.le_of_ble_eq_true rfl) (d1 := d - 1) (b1 := 0 + bc) (s1 := 0 + bs) (bc' := 0) (bs' := 0) (Q1 := fun r h9 => r = tq_enV ((.inl E1, g1) : (String ⊕ Unit) × tq_H).1 ∧ ((.inl E1, g1) : (String ⊕ Unit) × tq_H).2 = h9) (by omega) (by omega) (by omega) (w_X10_needElement (bc := bc) (bs := bs) (by omega) ev7 (fun _ _ _ => hb9) (fun _ _ q => q)) (fun E h9 q => ?_) (fun r9 h9 q => nomatch (show (Sum.inl r9 : tq_R) = Sum.inr E1 from q.1))
        obtain ⟨q1, rfl⟩ := q
        cases (show (Sum.inr E : tq_R) = Sum.inr E1 from q1)
        subst e9
        exact tq_out rfl (hQ _ _ ⟨rfl, rfl⟩)
      · refine tq_calV (M := mX10_insertElement) (pc := 16) (S := []) tk_y_X10_needElement tk_v_X10_needElement tk_RX10_136 dX10_insertElement_16 [.int a1] rfl (S0 := _) rfl eu8 rfl (Nat.le_of_ble_eq_true rfl) (d1 := d - 1) (b1 := 0 + 0) (s1 := 0 + 0) (bc' := bc) (bs' := bs) (Q1 := fun r h9 => r = tq_enV ((.inr (), w9) : (String ⊕ Unit) × tq_H).1 ∧ ((.inr (), w9) : (String ⊕ Unit) × tq_H).2 = h9) (by omega) (by omega) (by omega) (w_X10_needElement (bc := 0) (bs := 0) (by omega) ev7 (fun E g z => by cases z) (fun _ _ q => q)) (fun E h9 q => nomatch (show (Sum.inr E : tq_R) = Sum.inl _ from q.1)) (fun r9 h9 q => ?_)
        obtain ⟨q1, rfl⟩ := q
        cases (show (Sum.inl r9 : tq_R) = Sum.inl (none) from q1)
        refine tq_aload_n (M := mX10_insertElement) (pc := 19) dX10_insertElement_19 rfl ?_
        obtain ⟨⟨⟩, eu11, hf⟩ := tq_be hf
        obtain ⟨fsu11, eu11⟩ := tq_is_s eu11
        rcases tq_te hf with ⟨E1, g1, ev10, e9⟩ | ⟨v10, w12, ev10, hf⟩
        · have hb9 := hb _ _ e9
          refine tq_calV (M := mX10_insertElement) (pc := 20) (S := []) tk_y_X10_needRoom tk_v_X10_needRoom tk_RX10_139 dX10_insertElement_20 [] rfl (S0 := _) rfl eu11 rfl (Nat.le_of_ble_eq_true rfl) (d1 := d - 1) (b1 := 0 + bc) (s1 := 0 + bs) (bc' := 0) (bs' := 0) (Q1 := fun r h9 => r = tq_enV ((.inl E1, g1) : (String ⊕ Unit) × tq_H).1 ∧ ((.inl E1, g1) : (String ⊕ Unit) × tq_H).2 = h9) (by omega) (by omega) (by omega) (w_X10_needRoom (bc := bc) (bs := bs) (by omega) ev10 (fun _ _ _ => hb9) (fun _ _ q => q)) (fun E h9 q => ?_) (fun r9 h9 q => nomatch (show (Sum.inl r9 : tq_R) = Sum.inr E1 from q.1))
          obtain ⟨q1, rfl⟩ := q
          cases (show (Sum.inr E : tq_R) = Sum.inr E1 from q1)
          subst e9
          exact tq_out rfl (hQ _ _ ⟨rfl, rfl⟩)
        · refine tq_calV (M := mX10_insertElement) (pc := 20) (S := []) tk_y_X10_needRoom tk_v_X10_needRoom tk_RX10_139 dX10_insertElement_20 [] rfl (S0 := _) rfl eu11 rfl (Nat.le_of_ble_eq_true rfl) (d1 := d - 1) (b1 := 0 + 0) (s1 := 0 + 0) (bc' := bc) (bs' := bs) (Q1 := fun r h9 => r = tq_enV ((.inr (), w12) : (String ⊕ Unit) × tq_H).1 ∧ ((.inr (), w12) : (String ⊕ Unit) × tq_H).2 = h9) (by omega) (by omega) (by omega) (w_X10_needRoom (bc := 0) (bs := 0) (by omega) ev10 (fun E g z => by cases z) (fun _ _ q => q)) (fun E h9 q => nomatch (show (Sum.inr E : tq_R) = Sum.inl _ from q.1)) (fun r9 h9 q => ?_)
          obtain ⟨q1, rfl⟩ := q
          cases (show (Sum.inl r9 : tq_R) = Sum.inl (none) from q1)
          refine tq_aload_n (M := mX10_insertElement) (pc := 23) dX10_insertElement_23 rfl ?_
          obtain ⟨k13, ek13, hf⟩ := tq_be hf
          refine tq_getR (M := mX10_insertElement) (pc := 24) tk_c10 (by decide) dX10_insertElement_24 tk_RX10_22 rfl ek13 ?_
          refine tq_iconst (M := mX10_insertElement) (pc := 27) dX10_insertElement_27 tk_ki_0 ?_
          refine tq_iload_n (M := mX10_insertElement) (pc := 28) dX10_insertElement_28 rfl ?_
          refine tq_iload_n (M := mX10_insertElement) (pc := 29) dX10_insertElement_29 rfl ?_
          refine tq_iload_n (M := mX10_insertElement) (pc := 30) dX10_insertElement_30 rfl ?_
          refine tq_iconst (M := mX10_insertElement) (pc := 31) dX10_insertElement_31 tk_ki_m1 ?_
          obtain ⟨⟨⟩, eu15, hf⟩ := tq_be hf
          obtain ⟨fsu15, eu15⟩ := tq_is_s eu15
          obtain ⟨v14, ev14, hf⟩ := tq_be hf
          refine tq_calV (M := mX10_insertElement) (pc := 32) (S := []) tk_y_X9_addInsert tk_v_X9_addInsert tk_RX10_142 dX10_insertElement_32 [.int (0 : Int32), .int a1, .int a2, .int a3, .int (-1 : Int32)] rfl (S0 := _) rfl eu15 rfl (Nat.le_of_ble_eq_true rfl) (d1 := d - 1) (b1 := 0) (s1 := 0) (bc' := bc) (bs' := bs) (Q1 := fun r h9 => r = .inl (some (.int v14.1)) ∧ v14.2 = h9) (by omega) (by omega) (by omega) (w_X9_addInsert (by omega) ev14 (fun _ _ q => q)) (fun E h9 q => nomatch (show (Sum.inr E : tq_R) = Sum.inl _ from q.1)) (fun r9 h9 q => ?_)
          obtain ⟨q1, rfl⟩ := q
          cases (show (Sum.inl r9 : tq_R) = Sum.inl (some (.int v14.1)) from q1)
          refine tq_iret (M := mX10_insertElement) (pc := 35) dX10_insertElement_35 rfl ?_
          cases (Option.some.inj hf)
          exact hQ _ _ ⟨rfl, rfl⟩
abbrev mX10_insertText : tq_M := (RX10, cX10_insertText, 4, (some .int), false, [], none)
def f_X10_insertText (t : Nat) (a1 : Int32) (a2 : Int32) (a3 : Int32) (h : tq_H) : Option ((String ⊕ Int32) × tq_H) :=
  (tq_is h t 10).bind fun _ =>
  tq_tb (f_X10_needPlaceIn t a1 a2 h) fun _ w3 =>
  (tq_is w3 t 10).bind fun _ =>
  tq_tb (f_X10_needRange t a3 (0 : Int32) (999 : Int32) w3) fun _ w6 =>
  (tq_is w6 t 10).bind fun _ =>
  tq_tb (f_X10_needElement t a1 w6) fun _ w9 =>
  (tq_is w9 t 10).bind fun _ =>
  tq_tb (f_X10_needRoom t w9) fun _ w12 =>
  (tq_gr w12 t 10 2).bind fun k13 =>
  (tq_is w12 k13 9).bind fun _ =>
  (f_X9_addInsert k13 (1 : Int32) a1 a2 (-1 : Int32) a3 w12).bind fun v14 =>
  some (.inr v14.1, v14.2)
set_option maxHeartbeats 4000000 in
set_option maxRecDepth 20000 in
theorem w_X10_insertText {l : Launch} {d : Nat} (hd9 : 8 ≤ d) {t : Nat} {a1 : Int32} {a2 : Int32} {a3 : Int32} {bc bs : Nat} {h : tq_H} {o : (String ⊕ Int32) × tq_H} {Q : tq_R → tq_H → Prop} (hf : f_X10_insertText t a1 a2 a3 h = some o) (hb : ∀ E g, o = (.inl E, g) → 1 ≤ bc ∧ 6 ≤ bs) (hQ : ∀ r h9, r = tq_enI o.1 ∧ o.2 = h9 → Q r h9) : tq_C l yX10_insertText cX10_insertText 4 (some .int) d (0 + bc) (0 + bs) [.ref t, .int a1, .int a2, .int a3] h Q := by
  refine tq_body (y := yX10_insertText) false (by decide +kernel) (fun z => by cases z) (Nat.le_of_ble_eq_true rfl) ?_
  show tq_W l mX10_insertText d (0 + bc) (0 + bs) Q 0 [(0, .ref t), (1, .int a1), (2, .int a2), (3, .int a3)] [] h
  refine tq_more (bc := bc) (bs := bs) (by omega) (by omega) ?_
  refine tq_aload_n (M := mX10_insertText) (pc := 0) dX10_insertText_0 rfl ?_
  refine tq_iload_n (M := mX10_insertText) (pc := 1) dX10_insertText_1 rfl ?_
  refine tq_iload_n (M := mX10_insertText) (pc := 2) dX10_insertText_2 rfl ?_
  obtain ⟨⟨⟩, eu2, hf⟩ := tq_be hf
  obtain ⟨fsu2, eu2⟩ := tq_is_s eu2
  rcases tq_te hf with ⟨E1, g1, ev1, e9⟩ | ⟨v1, w3, ev1, hf⟩
  · have hb9 := hb _ _ e9
    refine tq_calV (M := mX10_insertText) (pc := 3) (S := []) tk_y_X10_needPlaceIn tk_v_X10_needPlaceIn tk_RX10_129 dX10_insertText_3 [.int a1, .int a2] rfl (S0 := _) rfl eu2 rfl (Nat.le_of_ble_eq_true rfl) (d1 := d - 1) (b1 := 0 + bc) (s1 := 0 + bs) (bc' := 0) (bs' := 0) (Q1 := fun r h9 => r = tq_enV ((.inl E1, g1) : (String ⊕ Unit) × tq_H).1 ∧ ((.inl E1, g1) : (String ⊕ Unit) × tq_H).2 = h9) (by omega) (by omega) (by omega) (w_X10_needPlaceIn (bc := bc) (bs := bs) (by omega) ev1 (fun _ _ _ => hb9) (fun _ _ q => q)) (fun E h9 q => ?_) (fun r9 h9 q => nomatch (show (Sum.inl r9 : tq_R) = Sum.inr E1 from q.1))
    obtain ⟨q1, rfl⟩ := q
    cases (show (Sum.inr E : tq_R) = Sum.inr E1 from q1)
    subst e9
    exact tq_out rfl (hQ _ _ ⟨rfl, rfl⟩)
  · refine tq_calV (M := mX10_insertText) (pc := 3) (S := []) tk_y_X10_needPlaceIn tk_v_X10_needPlaceIn tk_RX10_129 dX10_insertText_3 [.int a1, .int a2] rfl (S0 := _) rfl eu2 rfl (Nat.le_of_ble_eq_true rfl) (d1 := d - 1) (b1 := 0 + 0) (s1 := 0 + 0) (bc' := bc) (bs' := bs) (Q1 := fun r h9 => r = tq_enV ((.inr (), w3) : (String ⊕ Unit) × tq_H).1 ∧ ((.inr (), w3) : (String ⊕ Unit) × tq_H).2 = h9) (by omega) (by omega) (by omega) (w_X10_needPlaceIn (bc := 0) (bs := 0) (by omega) ev1 (fun E g z => by cases z) (fun _ _ q => q)) (fun E h9 q => nomatch (show (Sum.inr E : tq_R) = Sum.inl _ from q.1)) (fun r9 h9 q => ?_)
    obtain ⟨q1, rfl⟩ := q
    cases (show (Sum.inl r9 : tq_R) = Sum.inl (none) from q1)
    refine tq_aload_n (M := mX10_insertText) (pc := 6) dX10_insertText_6 rfl ?_
    refine tq_iload_n (M := mX10_insertText) (pc := 7) dX10_insertText_7 rfl ?_
    refine tq_iconst (M := mX10_insertText) (pc := 8) dX10_insertText_8 tk_ki_0 ?_
    refine tq_sipush (M := mX10_insertText) (pc := 9) dX10_insertText_9 tk_ks_999 ?_
    obtain ⟨⟨⟩, eu5, hf⟩ := tq_be hf
    obtain ⟨fsu5, eu5⟩ := tq_is_s eu5
    rcases tq_te hf with ⟨E1, g1, ev4, e9⟩ | ⟨v4, w6, ev4, hf⟩
    · have hb9 := hb _ _ e9
      refine tq_calV (M := mX10_insertText) (pc := 12) (S := []) tk_y_X10_needRange tk_v_X10_needRange tk_RX10_132 dX10_insertText_12 [.int a3, .int (0 : Int32), .int (999 : Int32)] rfl (S0 := _) rfl eu5 rfl (Nat.le_of_ble_eq_true rfl) (d1 := d - 1) (b1 := 0 + bc) (s1 := 0 + bs) (bc' := 0) (bs' := 0) (Q1 := fun r h9 => r = tq_enV ((.inl E1, g1) : (String ⊕ Unit) × tq_H).1 ∧ ((.inl E1, g1) : (String ⊕ Unit) × tq_H).2 = h9) (by omega) (by omega) (by omega) (w_X10_needRange (bc := bc) (bs := bs) (by omega) ev4 (fun _ _ _ => hb9) (fun _ _ q => q)) (fun E h9 q => ?_) (fun r9 h9 q => nomatch (show (Sum.inl r9 : tq_R) = Sum.inr E1 from q.1))
      obtain ⟨q1, rfl⟩ := q
      cases (show (Sum.inr E : tq_R) = Sum.inr E1 from q1)
      subst e9
      exact tq_out rfl (hQ _ _ ⟨rfl, rfl⟩)
    · refine tq_calV (M := mX10_insertText) (pc := 12) (S := []) tk_y_X10_needRange tk_v_X10_needRange tk_RX10_132 dX10_insertText_12 [.int a3, .int (0 : Int32), .int (999 : Int32)] rfl (S0 := _) rfl eu5 rfl (Nat.le_of_ble_eq_true rfl) (d1 := d - 1) (b1 := 0 + 0) (s1 := 0 + 0) (bc' := bc) (bs' := bs) (Q1 := fun r h9 => r = tq_enV ((.inr (), w6) : (String ⊕ Unit) × tq_H).1 ∧ ((.inr (), w6) : (String ⊕ Unit) × tq_H).2 = h9) (by omega) (by omega) (by omega) (w_X10_needRange (bc := 0) (bs := 0) (by omega) ev4 (fun E g z => by cases z) (fun _ _ q => q)) (fun E h9 q => nomatch (show (Sum.inr E : tq_R) = Sum.inl _ from q.1)) (fun r9 h9 q => ?_)
      obtain ⟨q1, rfl⟩ := q
      cases (show (Sum.inl r9 : tq_R) = Sum.inl (none) from q1)
      refine tq_aload_n (M := mX10_insertText) (pc := 15) dX10_insertText_15 rfl ?_
      refine tq_iload_n (M := mX10_insertText) (pc := 16) dX10_insertText_16 rfl ?_
      obtain ⟨⟨⟩, eu8, hf⟩ := tq_be hf
      obtain ⟨fsu8, eu8⟩ := tq_is_s eu8
      rcases tq_te hf with ⟨E1, g1, ev7, e9⟩ | ⟨v7, w9, ev7, hf⟩
      · have hb9 := hb _ _ e9
        refine tq_calV (M := mX10_insertText) (pc := 17) (S := []) tk_y_X10_needElement tk_v_X10_needElement tk_RX10_136 dX10_insertText_17 [.int a1] rfl (S0 := _) rfl eu8 rfl (Nat.le_of_ble_eq_true rfl) (d1 := d - 1) (b1 := 0 + bc) (s1 := 0 + bs) (bc' := 0) (bs' := 0) (Q1 := fun r h9 => r = tq_enV ((.inl E1, g1) : (String ⊕ Unit) × tq_H).1 ∧ ((.inl E1, g1) : (String ⊕ Unit) × tq_H).2 = h9) (by omega) (by omega) (by omega) (w_X10_needElement (bc := bc) (bs := bs) (by omega) ev7 (fun _ _ _ => hb9) (fun _ _ q => q)) (fun E h9 q => ?_) (fun r9 h9 q => nomatch (show (Sum.inl r9 : tq_R) = Sum.inr E1 from q.1))
        obtain ⟨q1, rfl⟩ := q
        cases (show (Sum.inr E : tq_R) = Sum.inr E1 from q1)
        subst e9
        exact tq_out rfl (hQ _ _ ⟨rfl, rfl⟩)
      · refine tq_calV (M := mX10_insertText) (pc := 17) (S := []) tk_y_X10_needElement tk_v_X10_needElement tk_RX10_136 dX10_insertText_17 [.int a1] rfl (S0 := _) rfl eu8 rfl (Nat.le_of_ble_eq_true rfl) (d1 := d - 1) (b1 := 0 + 0) (s1 := 0 + 0) (bc' := bc) (bs' := bs) (Q1 := fun r h9 => r = tq_enV ((.inr (), w9) : (String ⊕ Unit) × tq_H).1 ∧ ((.inr (), w9) : (String ⊕ Unit) × tq_H).2 = h9) (by omega) (by omega) (by omega) (w_X10_needElement (bc := 0) (bs := 0) (by omega) ev7 (fun E g z => by cases z) (fun _ _ q => q)) (fun E h9 q => nomatch (show (Sum.inr E : tq_R) = Sum.inl _ from q.1)) (fun r9 h9 q => ?_)
        obtain ⟨q1, rfl⟩ := q
        cases (show (Sum.inl r9 : tq_R) = Sum.inl (none) from q1)
        refine tq_aload_n (M := mX10_insertText) (pc := 20) dX10_insertText_20 rfl ?_
        obtain ⟨⟨⟩, eu11, hf⟩ := tq_be hf
        obtain ⟨fsu11, eu11⟩ := tq_is_s eu11
        rcases tq_te hf with ⟨E1, g1, ev10, e9⟩ | ⟨v10, w12, ev10, hf⟩
        · have hb9 := hb _ _ e9
          refine tq_calV (M := mX10_insertText) (pc := 21) (S := []) tk_y_X10_needRoom tk_v_X10_needRoom tk_RX10_139 dX10_insertText_21 [] rfl (S0 := _) rfl eu11 rfl (Nat.le_of_ble_eq_true rfl) (d1 := d - 1) (b1 := 0 + bc) (s1 := 0 + bs) (bc' := 0) (bs' := 0) (Q1 := fun r h9 => r = tq_enV ((.inl E1, g1) : (String ⊕ Unit) × tq_H).1 ∧ ((.inl E1, g1) : (String ⊕ Unit) × tq_H).2 = h9) (by omega) (by omega) (by omega) (w_X10_needRoom (bc := bc) (bs := bs) (by omega) ev10 (fun _ _ _ => hb9) (fun _ _ q => q)) (fun E h9 q => ?_) (fun r9 h9 q => nomatch (show (Sum.inl r9 : tq_R) = Sum.inr E1 from q.1))
          obtain ⟨q1, rfl⟩ := q
          cases (show (Sum.inr E : tq_R) = Sum.inr E1 from q1)
          subst e9
          exact tq_out rfl (hQ _ _ ⟨rfl, rfl⟩)
        · refine tq_calV (M := mX10_insertText) (pc := 21) (S := []) tk_y_X10_needRoom tk_v_X10_needRoom tk_RX10_139 dX10_insertText_21 [] rfl (S0 := _) rfl eu11 rfl (Nat.le_of_ble_eq_true rfl) (d1 := d - 1) (b1 := 0 + 0) (s1 := 0 + 0) (bc' := bc) (bs' := bs) (Q1 := fun r h9 => r = tq_enV ((.inr (), w12) : (String ⊕ Unit) × tq_H).1 ∧ ((.inr (), w12) : (String ⊕ Unit) × tq_H).2 = h9) (by omega) (by omega) (by omega) (w_X10_needRoom (bc := 0) (bs := 0) (by omega) ev10 (fun E g z => by cases z) (fun _ _ q => q)) (fun E h9 q => nomatch (show (Sum.inr E : tq_R) = Sum.inl _ from q.1)) (fun r9 h9 q => ?_)
          obtain ⟨q1, rfl⟩ := q
          cases (show (Sum.inl r9 : tq_R) = Sum.inl (none) from q1)
          refine tq_aload_n (M := mX10_insertText) (pc := 24) dX10_insertText_24 rfl ?_
          obtain ⟨k13, ek13, hf⟩ := tq_be hf
          refine tq_getR (M := mX10_insertText) (pc := 25) tk_c10 (by decide) dX10_insertText_25 tk_RX10_22 rfl ek13 ?_
          refine tq_iconst (M := mX10_insertText) (pc := 28) dX10_insertText_28 tk_ki_1 ?_
          refine tq_iload_n (M := mX10_insertText) (pc := 29) dX10_insertText_29 rfl ?_
          refine tq_iload_n (M := mX10_insertText) (pc := 30) dX10_insertText_30 rfl ?_
          refine tq_iconst (M := mX10_insertText) (pc := 31) dX10_insertText_31 tk_ki_m1 ?_
          refine tq_iload_n (M := mX10_insertText) (pc := 32) dX10_insertText_32 rfl ?_
          obtain ⟨⟨⟩, eu15, hf⟩ := tq_be hf
          obtain ⟨fsu15, eu15⟩ := tq_is_s eu15
          obtain ⟨v14, ev14, hf⟩ := tq_be hf
          refine tq_calV (M := mX10_insertText) (pc := 33) (S := []) tk_y_X9_addInsert tk_v_X9_addInsert tk_RX10_142 dX10_insertText_33 [.int (1 : Int32), .int a1, .int a2, .int (-1 : Int32), .int a3] rfl (S0 := _) rfl eu15 rfl (Nat.le_of_ble_eq_true rfl) (d1 := d - 1) (b1 := 0) (s1 := 0) (bc' := bc) (bs' := bs) (Q1 := fun r h9 => r = .inl (some (.int v14.1)) ∧ v14.2 = h9) (by omega) (by omega) (by omega) (w_X9_addInsert (by omega) ev14 (fun _ _ q => q)) (fun E h9 q => nomatch (show (Sum.inr E : tq_R) = Sum.inl _ from q.1)) (fun r9 h9 q => ?_)
          obtain ⟨q1, rfl⟩ := q
          cases (show (Sum.inl r9 : tq_R) = Sum.inl (some (.int v14.1)) from q1)
          refine tq_iret (M := mX10_insertText) (pc := 36) dX10_insertText_36 rfl ?_
          cases (Option.some.inj hf)
          exact hQ _ _ ⟨rfl, rfl⟩
abbrev mX10_insertAttribute : tq_M := (RX10, cX10_insertAttribute, 4, (some .int), false, [], none)
def f_X10_insertAttribute (t : Nat) (a1 : Int32) (a2 : Int32) (a3 : Int32) (h : tq_H) : Option ((String ⊕ Int32) × tq_H) :=
  (tq_is h t 10).bind fun _ =>
  tq_tb (f_X10_needNode t a1 h) fun _ w3 =>
  (tq_is w3 t 10).bind fun _ =>
  tq_tb (f_X10_needRange t a2 (0 : Int32) (7 : Int32) w3) fun _ w6 =>
  (tq_is w6 t 10).bind fun _ =>
  tq_tb (f_X10_needRange t a3 (0 : Int32) (999 : Int32) w6) fun _ w9 =>
  (tq_is w9 t 10).bind fun _ =>
  tq_tb (f_X10_needElement t a1 w9) fun _ w12 =>
  (tq_is w12 t 10).bind fun _ =>
  tq_tb (f_X10_needRoom t w12) fun _ w15 =>
  (tq_gr w15 t 10 2).bind fun k16 =>
  (tq_is w15 k16 9).bind fun _ =>
  (f_X9_addInsert k16 (2 : Int32) a1 (-1 : Int32) a2 a3 w15).bind fun v17 =>
  some (.inr v17.1, v17.2)
set_option maxHeartbeats 4000000 in
set_option maxRecDepth 20000 in
theorem w_X10_insertAttribute {l : Launch} {d : Nat} (hd9 : 7 ≤ d) {t : Nat} {a1 : Int32} {a2 : Int32} {a3 : Int32} {bc bs : Nat} {h : tq_H} {o : (String ⊕ Int32) × tq_H} {Q : tq_R → tq_H → Prop} (hf : f_X10_insertAttribute t a1 a2 a3 h = some o) (hb : ∀ E g, o = (.inl E, g) → 1 ≤ bc ∧ 6 ≤ bs) (hQ : ∀ r h9, r = tq_enI o.1 ∧ o.2 = h9 → Q r h9) : tq_C l yX10_insertAttribute cX10_insertAttribute 4 (some .int) d (0 + bc) (0 + bs) [.ref t, .int a1, .int a2, .int a3] h Q := by
  refine tq_body (y := yX10_insertAttribute) false (by decide +kernel) (fun z => by cases z) (Nat.le_of_ble_eq_true rfl) ?_
  show tq_W l mX10_insertAttribute d (0 + bc) (0 + bs) Q 0 [(0, .ref t), (1, .int a1), (2, .int a2), (3, .int a3)] [] h
  refine tq_more (bc := bc) (bs := bs) (by omega) (by omega) ?_
  refine tq_aload_n (M := mX10_insertAttribute) (pc := 0) dX10_insertAttribute_0 rfl ?_
  refine tq_iload_n (M := mX10_insertAttribute) (pc := 1) dX10_insertAttribute_1 rfl ?_
  obtain ⟨⟨⟩, eu2, hf⟩ := tq_be hf
  obtain ⟨fsu2, eu2⟩ := tq_is_s eu2
  rcases tq_te hf with ⟨E1, g1, ev1, e9⟩ | ⟨v1, w3, ev1, hf⟩
  · have hb9 := hb _ _ e9
    refine tq_calV (M := mX10_insertAttribute) (pc := 2) (S := []) tk_y_X10_needNode tk_v_X10_needNode tk_RX10_146 dX10_insertAttribute_2 [.int a1] rfl (S0 := _) rfl eu2 rfl (Nat.le_of_ble_eq_true rfl) (d1 := d - 1) (b1 := 0 + bc) (s1 := 0 + bs) (bc' := 0) (bs' := 0) (Q1 := fun r h9 => r = tq_enV ((.inl E1, g1) : (String ⊕ Unit) × tq_H).1 ∧ ((.inl E1, g1) : (String ⊕ Unit) × tq_H).2 = h9) (by omega) (by omega) (by omega) (w_X10_needNode (bc := bc) (bs := bs) (by omega) ev1 (fun _ _ _ => hb9) (fun _ _ q => q)) (fun E h9 q => ?_) (fun r9 h9 q => nomatch (show (Sum.inl r9 : tq_R) = Sum.inr E1 from q.1))
    obtain ⟨q1, rfl⟩ := q
    cases (show (Sum.inr E : tq_R) = Sum.inr E1 from q1)
    subst e9
    exact tq_out rfl (hQ _ _ ⟨rfl, rfl⟩)
  · refine tq_calV (M := mX10_insertAttribute) (pc := 2) (S := []) tk_y_X10_needNode tk_v_X10_needNode tk_RX10_146 dX10_insertAttribute_2 [.int a1] rfl (S0 := _) rfl eu2 rfl (Nat.le_of_ble_eq_true rfl) (d1 := d - 1) (b1 := 0 + 0) (s1 := 0 + 0) (bc' := bc) (bs' := bs) (Q1 := fun r h9 => r = tq_enV ((.inr (), w3) : (String ⊕ Unit) × tq_H).1 ∧ ((.inr (), w3) : (String ⊕ Unit) × tq_H).2 = h9) (by omega) (by omega) (by omega) (w_X10_needNode (bc := 0) (bs := 0) (by omega) ev1 (fun E g z => by cases z) (fun _ _ q => q)) (fun E h9 q => nomatch (show (Sum.inr E : tq_R) = Sum.inl _ from q.1)) (fun r9 h9 q => ?_)
    obtain ⟨q1, rfl⟩ := q
    cases (show (Sum.inl r9 : tq_R) = Sum.inl (none) from q1)
    refine tq_aload_n (M := mX10_insertAttribute) (pc := 5) dX10_insertAttribute_5 rfl ?_
    refine tq_iload_n (M := mX10_insertAttribute) (pc := 6) dX10_insertAttribute_6 rfl ?_
    refine tq_iconst (M := mX10_insertAttribute) (pc := 7) dX10_insertAttribute_7 tk_ki_0 ?_
    refine tq_bipush (M := mX10_insertAttribute) (pc := 8) dX10_insertAttribute_8 tk_kb_7 ?_
    obtain ⟨⟨⟩, eu5, hf⟩ := tq_be hf
    obtain ⟨fsu5, eu5⟩ := tq_is_s eu5
    rcases tq_te hf with ⟨E1, g1, ev4, e9⟩ | ⟨v4, w6, ev4, hf⟩
    · have hb9 := hb _ _ e9
      refine tq_calV (M := mX10_insertAttribute) (pc := 10) (S := []) tk_y_X10_needRange tk_v_X10_needRange tk_RX10_132 dX10_insertAttribute_10 [.int a2, .int (0 : Int32), .int (7 : Int32)] rfl (S0 := _) rfl eu5 rfl (Nat.le_of_ble_eq_true rfl) (d1 := d - 1) (b1 := 0 + bc) (s1 := 0 + bs) (bc' := 0) (bs' := 0) (Q1 := fun r h9 => r = tq_enV ((.inl E1, g1) : (String ⊕ Unit) × tq_H).1 ∧ ((.inl E1, g1) : (String ⊕ Unit) × tq_H).2 = h9) (by omega) (by omega) (by omega) (w_X10_needRange (bc := bc) (bs := bs) (by omega) ev4 (fun _ _ _ => hb9) (fun _ _ q => q)) (fun E h9 q => ?_) (fun r9 h9 q => nomatch (show (Sum.inl r9 : tq_R) = Sum.inr E1 from q.1))
      obtain ⟨q1, rfl⟩ := q
      cases (show (Sum.inr E : tq_R) = Sum.inr E1 from q1)
      subst e9
      exact tq_out rfl (hQ _ _ ⟨rfl, rfl⟩)
    · refine tq_calV (M := mX10_insertAttribute) (pc := 10) (S := []) tk_y_X10_needRange tk_v_X10_needRange tk_RX10_132 dX10_insertAttribute_10 [.int a2, .int (0 : Int32), .int (7 : Int32)] rfl (S0 := _) rfl eu5 rfl (Nat.le_of_ble_eq_true rfl) (d1 := d - 1) (b1 := 0 + 0) (s1 := 0 + 0) (bc' := bc) (bs' := bs) (Q1 := fun r h9 => r = tq_enV ((.inr (), w6) : (String ⊕ Unit) × tq_H).1 ∧ ((.inr (), w6) : (String ⊕ Unit) × tq_H).2 = h9) (by omega) (by omega) (by omega) (w_X10_needRange (bc := 0) (bs := 0) (by omega) ev4 (fun E g z => by cases z) (fun _ _ q => q)) (fun E h9 q => nomatch (show (Sum.inr E : tq_R) = Sum.inl _ from q.1)) (fun r9 h9 q => ?_)
      obtain ⟨q1, rfl⟩ := q
      cases (show (Sum.inl r9 : tq_R) = Sum.inl (none) from q1)
      refine tq_aload_n (M := mX10_insertAttribute) (pc := 13) dX10_insertAttribute_13 rfl ?_
      refine tq_iload_n (M := mX10_insertAttribute) (pc := 14) dX10_insertAttribute_14 rfl ?_
      refine tq_iconst (M := mX10_insertAttribute) (pc := 15) dX10_insertAttribute_15 tk_ki_0 ?_
      refine tq_sipush (M := mX10_insertAttribute) (pc := 16) dX10_insertAttribute_16 tk_ks_999 ?_
      obtain ⟨⟨⟩, eu8, hf⟩ := tq_be hf
      obtain ⟨fsu8, eu8⟩ := tq_is_s eu8
      rcases tq_te hf with ⟨E1, g1, ev7, e9⟩ | ⟨v7, w9, ev7, hf⟩
      · have hb9 := hb _ _ e9
        refine tq_calV (M := mX10_insertAttribute) (pc := 19) (S := []) tk_y_X10_needRange tk_v_X10_needRange tk_RX10_132 dX10_insertAttribute_19 [.int a3, .int (0 : Int32), .int (999 : Int32)] rfl (S0 := _) rfl eu8 rfl (Nat.le_of_ble_eq_true rfl) (d1 := d - 1) (b1 := 0 + bc) (s1 := 0 + bs) (bc' := 0) (bs' := 0) (Q1 := fun r h9 => r = tq_enV ((.inl E1, g1) : (String ⊕ Unit) × tq_H).1 ∧ ((.inl E1, g1) : (String ⊕ Unit) × tq_H).2 = h9) (by omega) (by omega) (by omega) (w_X10_needRange (bc := bc) (bs := bs) (by omega) ev7 (fun _ _ _ => hb9) (fun _ _ q => q)) (fun E h9 q => ?_) (fun r9 h9 q => nomatch (show (Sum.inl r9 : tq_R) = Sum.inr E1 from q.1))
        obtain ⟨q1, rfl⟩ := q
        cases (show (Sum.inr E : tq_R) = Sum.inr E1 from q1)
        subst e9
        exact tq_out rfl (hQ _ _ ⟨rfl, rfl⟩)
      · refine tq_calV (M := mX10_insertAttribute) (pc := 19) (S := []) tk_y_X10_needRange tk_v_X10_needRange tk_RX10_132 dX10_insertAttribute_19 [.int a3, .int (0 : Int32), .int (999 : Int32)] rfl (S0 := _) rfl eu8 rfl (Nat.le_of_ble_eq_true rfl) (d1 := d - 1) (b1 := 0 + 0) (s1 := 0 + 0) (bc' := bc) (bs' := bs) (Q1 := fun r h9 => r = tq_enV ((.inr (), w9) : (String ⊕ Unit) × tq_H).1 ∧ ((.inr (), w9) : (String ⊕ Unit) × tq_H).2 = h9) (by omega) (by omega) (by omega) (w_X10_needRange (bc := 0) (bs := 0) (by omega) ev7 (fun E g z => by cases z) (fun _ _ q => q)) (fun E h9 q => nomatch (show (Sum.inr E : tq_R) = Sum.inl _ from q.1)) (fun r9 h9 q => ?_)
        obtain ⟨q1, rfl⟩ := q
        cases (show (Sum.inl r9 : tq_R) = Sum.inl (none) from q1)
        refine tq_aload_n (M := mX10_insertAttribute) (pc := 22) dX10_insertAttribute_22 rfl ?_
        refine tq_iload_n (M := mX10_insertAttribute) (pc := 23) dX10_insertAttribute_23 rfl ?_
        obtain ⟨⟨⟩, eu11, hf⟩ := tq_be hf
        obtain ⟨fsu11, eu11⟩ := tq_is_s eu11
        rcases tq_te hf with ⟨E1, g1, ev10, e9⟩ | ⟨v10, w12, ev10, hf⟩
        · have hb9 := hb _ _ e9
          refine tq_calV (M := mX10_insertAttribute) (pc := 24) (S := []) tk_y_X10_needElement tk_v_X10_needElement tk_RX10_136 dX10_insertAttribute_24 [.int a1] rfl (S0 := _) rfl eu11 rfl (Nat.le_of_ble_eq_true rfl) (d1 := d - 1) (b1 := 0 + bc) (s1 := 0 + bs) (bc' := 0) (bs' := 0) (Q1 := fun r h9 => r = tq_enV ((.inl E1, g1) : (String ⊕ Unit) × tq_H).1 ∧ ((.inl E1, g1) : (String ⊕ Unit) × tq_H).2 = h9) (by omega) (by omega) (by omega) (w_X10_needElement (bc := bc) (bs := bs) (by omega) ev10 (fun _ _ _ => hb9) (fun _ _ q => q)) (fun E h9 q => ?_) (fun r9 h9 q => nomatch (show (Sum.inl r9 : tq_R) = Sum.inr E1 from q.1))
          obtain ⟨q1, rfl⟩ := q
          cases (show (Sum.inr E : tq_R) = Sum.inr E1 from q1)
          subst e9
          exact tq_out rfl (hQ _ _ ⟨rfl, rfl⟩)
        · refine tq_calV (M := mX10_insertAttribute) (pc := 24) (S := []) tk_y_X10_needElement tk_v_X10_needElement tk_RX10_136 dX10_insertAttribute_24 [.int a1] rfl (S0 := _) rfl eu11 rfl (Nat.le_of_ble_eq_true rfl) (d1 := d - 1) (b1 := 0 + 0) (s1 := 0 + 0) (bc' := bc) (bs' := bs) (Q1 := fun r h9 => r = tq_enV ((.inr (), w12) : (String ⊕ Unit) × tq_H).1 ∧ ((.inr (), w12) : (String ⊕ Unit) × tq_H).2 = h9) (by omega) (by omega) (by omega) (w_X10_needElement (bc := 0) (bs := 0) (by omega) ev10 (fun E g z => by cases z) (fun _ _ q => q)) (fun E h9 q => nomatch (show (Sum.inr E : tq_R) = Sum.inl _ from q.1)) (fun r9 h9 q => ?_)
          obtain ⟨q1, rfl⟩ := q
          cases (show (Sum.inl r9 : tq_R) = Sum.inl (none) from q1)
          refine tq_aload_n (M := mX10_insertAttribute) (pc := 27) dX10_insertAttribute_27 rfl ?_
          obtain ⟨⟨⟩, eu14, hf⟩ := tq_be hf
          obtain ⟨fsu14, eu14⟩ := tq_is_s eu14
          rcases tq_te hf with ⟨E1, g1, ev13, e9⟩ | ⟨v13, w15, ev13, hf⟩
          · have hb9 := hb _ _ e9
            refine tq_calV (M := mX10_insertAttribute) (pc := 28) (S := []) tk_y_X10_needRoom tk_v_X10_needRoom tk_RX10_139 dX10_insertAttribute_28 [] rfl (S0 := _) rfl eu14 rfl (Nat.le_of_ble_eq_true rfl) (d1 := d - 1) (b1 := 0 + bc) (s1 := 0 + bs) (bc' := 0) (bs' := 0) (Q1 := fun r h9 => r = tq_enV ((.inl E1, g1) : (String ⊕ Unit) × tq_H).1 ∧ ((.inl E1, g1) : (String ⊕ Unit) × tq_H).2 = h9) (by omega) (by omega) (by omega) (w_X10_needRoom (bc := bc) (bs := bs) (by omega) ev13 (fun _ _ _ => hb9) (fun _ _ q => q)) (fun E h9 q => ?_) (fun r9 h9 q => nomatch (show (Sum.inl r9 : tq_R) = Sum.inr E1 from q.1))
            obtain ⟨q1, rfl⟩ := q
            cases (show (Sum.inr E : tq_R) = Sum.inr E1 from q1)
            subst e9
            exact tq_out rfl (hQ _ _ ⟨rfl, rfl⟩)
          · refine tq_calV (M := mX10_insertAttribute) (pc := 28) (S := []) tk_y_X10_needRoom tk_v_X10_needRoom tk_RX10_139 dX10_insertAttribute_28 [] rfl (S0 := _) rfl eu14 rfl (Nat.le_of_ble_eq_true rfl) (d1 := d - 1) (b1 := 0 + 0) (s1 := 0 + 0) (bc' := bc) (bs' := bs) (Q1 := fun r h9 => r = tq_enV ((.inr (), w15) : (String ⊕ Unit) × tq_H).1 ∧ ((.inr (), w15) : (String ⊕ Unit) × tq_H).2 = h9) (by omega) (by omega) (by omega) (w_X10_needRoom (bc := 0) (bs := 0) (by omega) ev13 (fun E g z => by cases z) (fun _ _ q => q)) (fun E h9 q => nomatch (show (Sum.inr E : tq_R) = Sum.inl _ from q.1)) (fun r9 h9 q => ?_)
            obtain ⟨q1, rfl⟩ := q
            cases (show (Sum.inl r9 : tq_R) = Sum.inl (none) from q1)
            refine tq_aload_n (M := mX10_insertAttribute) (pc := 31) dX10_insertAttribute_31 rfl ?_
            obtain ⟨k16, ek16, hf⟩ := tq_be hf
            refine tq_getR (M := mX10_insertAttribute) (pc := 32) tk_c10 (by decide) dX10_insertAttribute_32 tk_RX10_22 rfl ek16 ?_
            refine tq_iconst (M := mX10_insertAttribute) (pc := 35) dX10_insertAttribute_35 tk_ki_2 ?_
            refine tq_iload_n (M := mX10_insertAttribute) (pc := 36) dX10_insertAttribute_36 rfl ?_
            refine tq_iconst (M := mX10_insertAttribute) (pc := 37) dX10_insertAttribute_37 tk_ki_m1 ?_
            refine tq_iload_n (M := mX10_insertAttribute) (pc := 38) dX10_insertAttribute_38 rfl ?_
            refine tq_iload_n (M := mX10_insertAttribute) (pc := 39) dX10_insertAttribute_39 rfl ?_
            obtain ⟨⟨⟩, eu18, hf⟩ := tq_be hf
            obtain ⟨fsu18, eu18⟩ := tq_is_s eu18
            obtain ⟨v17, ev17, hf⟩ := tq_be hf
            refine tq_calV (M := mX10_insertAttribute) (pc := 40) (S := []) tk_y_X9_addInsert tk_v_X9_addInsert tk_RX10_142 dX10_insertAttribute_40 [.int (2 : Int32), .int a1, .int (-1 : Int32), .int a2, .int a3] rfl (S0 := _) rfl eu18 rfl (Nat.le_of_ble_eq_true rfl) (d1 := d - 1) (b1 := 0) (s1 := 0) (bc' := bc) (bs' := bs) (Q1 := fun r h9 => r = .inl (some (.int v17.1)) ∧ v17.2 = h9) (by omega) (by omega) (by omega) (w_X9_addInsert (by omega) ev17 (fun _ _ q => q)) (fun E h9 q => nomatch (show (Sum.inr E : tq_R) = Sum.inl _ from q.1)) (fun r9 h9 q => ?_)
            obtain ⟨q1, rfl⟩ := q
            cases (show (Sum.inl r9 : tq_R) = Sum.inl (some (.int v17.1)) from q1)
            refine tq_iret (M := mX10_insertAttribute) (pc := 43) dX10_insertAttribute_43 rfl ?_
            cases (Option.some.inj hf)
            exact hQ _ _ ⟨rfl, rfl⟩
abbrev mX10_remove : tq_M := (RX10, cX10_remove, 2, (some .int), false, [], none)
def f_X10_remove (t : Nat) (a1 : Int32) (h : tq_H) : Option ((String ⊕ Int32) × tq_H) :=
  (tq_is h t 10).bind fun _ =>
  tq_tb (f_X10_needNode t a1 h) fun _ w3 =>
  if a1 = 0 then
    some (.inl "java/lang/IllegalStateException", w3)
  else
    (tq_is w3 t 10).bind fun _ =>
    tq_tb (f_X10_needRoom t w3) fun _ w6 =>
    (tq_gr w6 t 10 2).bind fun k7 =>
    (tq_is w6 k7 9).bind fun _ =>
    (f_X9_addChange k7 (1 : Int32) a1 (-1 : Int32) w6).bind fun v8 =>
    some (.inr v8.1, v8.2)
set_option maxHeartbeats 4000000 in
set_option maxRecDepth 20000 in
theorem w_X10_remove {l : Launch} {d : Nat} (hd9 : 7 ≤ d) {t : Nat} {a1 : Int32} {bc bs : Nat} {h : tq_H} {o : (String ⊕ Int32) × tq_H} {Q : tq_R → tq_H → Prop} (hf : f_X10_remove t a1 h = some o) (hb : ∀ E g, o = (.inl E, g) → 1 ≤ bc ∧ 6 ≤ bs) (hQ : ∀ r h9, r = tq_enI o.1 ∧ o.2 = h9 → Q r h9) : tq_C l yX10_remove cX10_remove 2 (some .int) d (0 + bc) (0 + bs) [.ref t, .int a1] h Q := by
  refine tq_body (y := yX10_remove) false (by decide +kernel) (fun z => by cases z) (Nat.le_of_ble_eq_true rfl) ?_
  show tq_W l mX10_remove d (0 + bc) (0 + bs) Q 0 [(0, .ref t), (1, .int a1)] [] h
  refine tq_more (bc := bc) (bs := bs) (by omega) (by omega) ?_
  refine tq_aload_n (M := mX10_remove) (pc := 0) dX10_remove_0 rfl ?_
  refine tq_iload_n (M := mX10_remove) (pc := 1) dX10_remove_1 rfl ?_
  obtain ⟨⟨⟩, eu2, hf⟩ := tq_be hf
  obtain ⟨fsu2, eu2⟩ := tq_is_s eu2
  rcases tq_te hf with ⟨E1, g1, ev1, e9⟩ | ⟨v1, w3, ev1, hf⟩
  · have hb9 := hb _ _ e9
    refine tq_calV (M := mX10_remove) (pc := 2) (S := []) tk_y_X10_needNode tk_v_X10_needNode tk_RX10_146 dX10_remove_2 [.int a1] rfl (S0 := _) rfl eu2 rfl (Nat.le_of_ble_eq_true rfl) (d1 := d - 1) (b1 := 0 + bc) (s1 := 0 + bs) (bc' := 0) (bs' := 0) (Q1 := fun r h9 => r = tq_enV ((.inl E1, g1) : (String ⊕ Unit) × tq_H).1 ∧ ((.inl E1, g1) : (String ⊕ Unit) × tq_H).2 = h9) (by omega) (by omega) (by omega) (w_X10_needNode (bc := bc) (bs := bs) (by omega) ev1 (fun _ _ _ => hb9) (fun _ _ q => q)) (fun E h9 q => ?_) (fun r9 h9 q => nomatch (show (Sum.inl r9 : tq_R) = Sum.inr E1 from q.1))
    obtain ⟨q1, rfl⟩ := q
    cases (show (Sum.inr E : tq_R) = Sum.inr E1 from q1)
    subst e9
    exact tq_out rfl (hQ _ _ ⟨rfl, rfl⟩)
  · refine tq_calV (M := mX10_remove) (pc := 2) (S := []) tk_y_X10_needNode tk_v_X10_needNode tk_RX10_146 dX10_remove_2 [.int a1] rfl (S0 := _) rfl eu2 rfl (Nat.le_of_ble_eq_true rfl) (d1 := d - 1) (b1 := 0 + 0) (s1 := 0 + 0) (bc' := bc) (bs' := bs) (Q1 := fun r h9 => r = tq_enV ((.inr (), w3) : (String ⊕ Unit) × tq_H).1 ∧ ((.inr (), w3) : (String ⊕ Unit) × tq_H).2 = h9) (by omega) (by omega) (by omega) (w_X10_needNode (bc := 0) (bs := 0) (by omega) ev1 (fun E g z => by cases z) (fun _ _ q => q)) (fun E h9 q => nomatch (show (Sum.inr E : tq_R) = Sum.inl _ from q.1)) (fun r9 h9 q => ?_)
    obtain ⟨q1, rfl⟩ := q
    cases (show (Sum.inl r9 : tq_R) = Sum.inl (none) from q1)
    refine tq_iload_n (M := mX10_remove) (pc := 5) dX10_remove_5 rfl ?_
    refine tq_if_ne (M := mX10_remove) (pc := 6) (tgt := 19) dX10_remove_6 (by decide) (fun cc => ?_) (fun cc => ?_)
    · have hf := tq_ifn hf cc
      refine tq_aload_n (M := mX10_remove) (pc := 19) dX10_remove_19 rfl ?_
      obtain ⟨⟨⟩, eu5, hf⟩ := tq_be hf
      obtain ⟨fsu5, eu5⟩ := tq_is_s eu5
      rcases tq_te hf with ⟨E1, g1, ev4, e9⟩ | ⟨v4, w6, ev4, hf⟩
      · have hb9 := hb _ _ e9
        refine tq_calV (M := mX10_remove) (pc := 20) (S := []) tk_y_X10_needRoom tk_v_X10_needRoom tk_RX10_139 dX10_remove_20 [] rfl (S0 := _) rfl eu5 rfl (Nat.le_of_ble_eq_true rfl) (d1 := d - 1) (b1 := 0 + bc) (s1 := 0 + bs) (bc' := 0) (bs' := 0) (Q1 := fun r h9 => r = tq_enV ((.inl E1, g1) : (String ⊕ Unit) × tq_H).1 ∧ ((.inl E1, g1) : (String ⊕ Unit) × tq_H).2 = h9) (by omega) (by omega) (by omega) (w_X10_needRoom (bc := bc) (bs := bs) (by omega) ev4 (fun _ _ _ => hb9) (fun _ _ q => q)) (fun E h9 q => ?_) (fun r9 h9 q => nomatch (show (Sum.inl r9 : tq_R) = Sum.inr E1 from q.1))
        obtain ⟨q1, rfl⟩ := q
        cases (show (Sum.inr E : tq_R) = Sum.inr E1 from q1)
        subst e9
        exact tq_out rfl (hQ _ _ ⟨rfl, rfl⟩)
      · refine tq_calV (M := mX10_remove) (pc := 20) (S := []) tk_y_X10_needRoom tk_v_X10_needRoom tk_RX10_139 dX10_remove_20 [] rfl (S0 := _) rfl eu5 rfl (Nat.le_of_ble_eq_true rfl) (d1 := d - 1) (b1 := 0 + 0) (s1 := 0 + 0) (bc' := bc) (bs' := bs) (Q1 := fun r h9 => r = tq_enV ((.inr (), w6) : (String ⊕ Unit) × tq_H).1 ∧ ((.inr (), w6) : (String ⊕ Unit) × tq_H).2 = h9) (by omega) (by omega) (by omega) (w_X10_needRoom (bc := 0) (bs := 0) (by omega) ev4 (fun E g z => by cases z) (fun _ _ q => q)) (fun E h9 q => nomatch (show (Sum.inr E : tq_R) = Sum.inl _ from q.1)) (fun r9 h9 q => ?_)
        obtain ⟨q1, rfl⟩ := q
        cases (show (Sum.inl r9 : tq_R) = Sum.inl (none) from q1)
        refine tq_aload_n (M := mX10_remove) (pc := 23) dX10_remove_23 rfl ?_
        obtain ⟨k7, ek7, hf⟩ := tq_be hf
        refine tq_getR (M := mX10_remove) (pc := 24) tk_c10 (by decide) dX10_remove_24 tk_RX10_22 rfl ek7 ?_
        refine tq_iconst (M := mX10_remove) (pc := 27) dX10_remove_27 tk_ki_1 ?_
        refine tq_iload_n (M := mX10_remove) (pc := 28) dX10_remove_28 rfl ?_
        refine tq_iconst (M := mX10_remove) (pc := 29) dX10_remove_29 tk_ki_m1 ?_
        obtain ⟨⟨⟩, eu9, hf⟩ := tq_be hf
        obtain ⟨fsu9, eu9⟩ := tq_is_s eu9
        obtain ⟨v8, ev8, hf⟩ := tq_be hf
        refine tq_calV (M := mX10_remove) (pc := 30) (S := []) tk_y_X9_addChange tk_v_X9_addChange tk_RX10_156 dX10_remove_30 [.int (1 : Int32), .int a1, .int (-1 : Int32)] rfl (S0 := _) rfl eu9 rfl (Nat.le_of_ble_eq_true rfl) (d1 := d - 1) (b1 := 0) (s1 := 0) (bc' := bc) (bs' := bs) (Q1 := fun r h9 => r = .inl (some (.int v8.1)) ∧ v8.2 = h9) (by omega) (by omega) (by omega) (w_X9_addChange (by omega) ev8 (fun _ _ q => q)) (fun E h9 q => nomatch (show (Sum.inr E : tq_R) = Sum.inl _ from q.1)) (fun r9 h9 q => ?_)
        obtain ⟨q1, rfl⟩ := q
        cases (show (Sum.inl r9 : tq_R) = Sum.inl (some (.int v8.1)) from q1)
        refine tq_iret (M := mX10_remove) (pc := 33) dX10_remove_33 rfl ?_
        cases (Option.some.inj hf)
        exact hQ _ _ ⟨rfl, rfl⟩
    · have hf := tq_ifp hf cc
      have hb9 := hb _ _ (Option.some.inj hf).symm
      refine tq_throws (M := mX10_remove) (pc := 9) (E := "java/lang/IllegalStateException") (ik := 149) (ic := 153) (is := 151) (text := "the root stays") (by decide +kernel) (by decide +kernel) rfl rfl dX10_remove_9 dX10_remove_12 dX10_remove_13 dX10_remove_15 dX10_remove_18 (by omega) (by omega) (by omega) ?_
      cases (Option.some.inj hf)
      exact hQ _ _ ⟨rfl, rfl⟩
abbrev mX10_rename : tq_M := (RX10, cX10_rename, 3, (some .int), false, [], none)
def f_X10_rename (t : Nat) (a1 : Int32) (a2 : Int32) (h : tq_H) : Option ((String ⊕ Int32) × tq_H) :=
  (tq_is h t 10).bind fun _ =>
  tq_tb (f_X10_needNode t a1 h) fun _ w3 =>
  (tq_is w3 t 10).bind fun _ =>
  tq_tb (f_X10_needRange t a2 (0 : Int32) (7 : Int32) w3) fun _ w6 =>
  (tq_gr w6 t 10 0).bind fun k7 =>
  (tq_gr w6 k7 8 1).bind fun k8 =>
  (tq_is w6 k8 5).bind fun _ =>
  (f_X5_get k8 a1 w6).bind fun v9 =>
  if v9 = (1 : Int32) then
    some (.inl "java/lang/IllegalStateException", w6)
  else
    (tq_is w6 t 10).bind fun _ =>
    tq_tb (f_X10_needRoom t w6) fun _ w13 =>
    (tq_gr w13 t 10 2).bind fun k14 =>
    (tq_is w13 k14 9).bind fun _ =>
    (f_X9_addChange k14 (2 : Int32) a1 a2 w13).bind fun v15 =>
    some (.inr v15.1, v15.2)
set_option maxHeartbeats 4000000 in
set_option maxRecDepth 20000 in
theorem w_X10_rename {l : Launch} {d : Nat} (hd9 : 7 ≤ d) {t : Nat} {a1 : Int32} {a2 : Int32} {bc bs : Nat} {h : tq_H} {o : (String ⊕ Int32) × tq_H} {Q : tq_R → tq_H → Prop} (hf : f_X10_rename t a1 a2 h = some o) (hb : ∀ E g, o = (.inl E, g) → 1 ≤ bc ∧ 6 ≤ bs) (hQ : ∀ r h9, r = tq_enI o.1 ∧ o.2 = h9 → Q r h9) : tq_C l yX10_rename cX10_rename 3 (some .int) d (0 + bc) (0 + bs) [.ref t, .int a1, .int a2] h Q := by
  refine tq_body (y := yX10_rename) false (by decide +kernel) (fun z => by cases z) (Nat.le_of_ble_eq_true rfl) ?_
  show tq_W l mX10_rename d (0 + bc) (0 + bs) Q 0 [(0, .ref t), (1, .int a1), (2, .int a2)] [] h
  refine tq_more (bc := bc) (bs := bs) (by omega) (by omega) ?_
  refine tq_aload_n (M := mX10_rename) (pc := 0) dX10_rename_0 rfl ?_
  refine tq_iload_n (M := mX10_rename) (pc := 1) dX10_rename_1 rfl ?_
  obtain ⟨⟨⟩, eu2, hf⟩ := tq_be hf
  obtain ⟨fsu2, eu2⟩ := tq_is_s eu2
  rcases tq_te hf with ⟨E1, g1, ev1, e9⟩ | ⟨v1, w3, ev1, hf⟩
  · have hb9 := hb _ _ e9
    refine tq_calV (M := mX10_rename) (pc := 2) (S := []) tk_y_X10_needNode tk_v_X10_needNode tk_RX10_146 dX10_rename_2 [.int a1] rfl (S0 := _) rfl eu2 rfl (Nat.le_of_ble_eq_true rfl) (d1 := d - 1) (b1 := 0 + bc) (s1 := 0 + bs) (bc' := 0) (bs' := 0) (Q1 := fun r h9 => r = tq_enV ((.inl E1, g1) : (String ⊕ Unit) × tq_H).1 ∧ ((.inl E1, g1) : (String ⊕ Unit) × tq_H).2 = h9) (by omega) (by omega) (by omega) (w_X10_needNode (bc := bc) (bs := bs) (by omega) ev1 (fun _ _ _ => hb9) (fun _ _ q => q)) (fun E h9 q => ?_) (fun r9 h9 q => nomatch (show (Sum.inl r9 : tq_R) = Sum.inr E1 from q.1))
    obtain ⟨q1, rfl⟩ := q
    cases (show (Sum.inr E : tq_R) = Sum.inr E1 from q1)
    subst e9
    exact tq_out rfl (hQ _ _ ⟨rfl, rfl⟩)
  · refine tq_calV (M := mX10_rename) (pc := 2) (S := []) tk_y_X10_needNode tk_v_X10_needNode tk_RX10_146 dX10_rename_2 [.int a1] rfl (S0 := _) rfl eu2 rfl (Nat.le_of_ble_eq_true rfl) (d1 := d - 1) (b1 := 0 + 0) (s1 := 0 + 0) (bc' := bc) (bs' := bs) (Q1 := fun r h9 => r = tq_enV ((.inr (), w3) : (String ⊕ Unit) × tq_H).1 ∧ ((.inr (), w3) : (String ⊕ Unit) × tq_H).2 = h9) (by omega) (by omega) (by omega) (w_X10_needNode (bc := 0) (bs := 0) (by omega) ev1 (fun E g z => by cases z) (fun _ _ q => q)) (fun E h9 q => nomatch (show (Sum.inr E : tq_R) = Sum.inl _ from q.1)) (fun r9 h9 q => ?_)
    obtain ⟨q1, rfl⟩ := q
    cases (show (Sum.inl r9 : tq_R) = Sum.inl (none) from q1)
    refine tq_aload_n (M := mX10_rename) (pc := 5) dX10_rename_5 rfl ?_
    refine tq_iload_n (M := mX10_rename) (pc := 6) dX10_rename_6 rfl ?_
    refine tq_iconst (M := mX10_rename) (pc := 7) dX10_rename_7 tk_ki_0 ?_
    refine tq_bipush (M := mX10_rename) (pc := 8) dX10_rename_8 tk_kb_7 ?_
    obtain ⟨⟨⟩, eu5, hf⟩ := tq_be hf
    obtain ⟨fsu5, eu5⟩ := tq_is_s eu5
    rcases tq_te hf with ⟨E1, g1, ev4, e9⟩ | ⟨v4, w6, ev4, hf⟩
    · have hb9 := hb _ _ e9
      refine tq_calV (M := mX10_rename) (pc := 10) (S := []) tk_y_X10_needRange tk_v_X10_needRange tk_RX10_132 dX10_rename_10 [.int a2, .int (0 : Int32), .int (7 : Int32)] rfl (S0 := _) rfl eu5 rfl (Nat.le_of_ble_eq_true rfl) (d1 := d - 1) (b1 := 0 + bc) (s1 := 0 + bs) (bc' := 0) (bs' := 0) (Q1 := fun r h9 => r = tq_enV ((.inl E1, g1) : (String ⊕ Unit) × tq_H).1 ∧ ((.inl E1, g1) : (String ⊕ Unit) × tq_H).2 = h9) (by omega) (by omega) (by omega) (w_X10_needRange (bc := bc) (bs := bs) (by omega) ev4 (fun _ _ _ => hb9) (fun _ _ q => q)) (fun E h9 q => ?_) (fun r9 h9 q => nomatch (show (Sum.inl r9 : tq_R) = Sum.inr E1 from q.1))
      obtain ⟨q1, rfl⟩ := q
      cases (show (Sum.inr E : tq_R) = Sum.inr E1 from q1)
      subst e9
      exact tq_out rfl (hQ _ _ ⟨rfl, rfl⟩)
    · refine tq_calV (M := mX10_rename) (pc := 10) (S := []) tk_y_X10_needRange tk_v_X10_needRange tk_RX10_132 dX10_rename_10 [.int a2, .int (0 : Int32), .int (7 : Int32)] rfl (S0 := _) rfl eu5 rfl (Nat.le_of_ble_eq_true rfl) (d1 := d - 1) (b1 := 0 + 0) (s1 := 0 + 0) (bc' := bc) (bs' := bs) (Q1 := fun r h9 => r = tq_enV ((.inr (), w6) : (String ⊕ Unit) × tq_H).1 ∧ ((.inr (), w6) : (String ⊕ Unit) × tq_H).2 = h9) (by omega) (by omega) (by omega) (w_X10_needRange (bc := 0) (bs := 0) (by omega) ev4 (fun E g z => by cases z) (fun _ _ q => q)) (fun E h9 q => nomatch (show (Sum.inr E : tq_R) = Sum.inl _ from q.1)) (fun r9 h9 q => ?_)
      obtain ⟨q1, rfl⟩ := q
      cases (show (Sum.inl r9 : tq_R) = Sum.inl (none) from q1)
      refine tq_aload_n (M := mX10_rename) (pc := 13) dX10_rename_13 rfl ?_
      obtain ⟨k7, ek7, hf⟩ := tq_be hf
      refine tq_getR (M := mX10_rename) (pc := 14) tk_c10 (by decide) dX10_rename_14 tk_RX10_12 rfl ek7 ?_
      obtain ⟨k8, ek8, hf⟩ := tq_be hf
      refine tq_getR (M := mX10_rename) (pc := 17) tk_c8 (by decide) dX10_rename_17 tk_RX10_159 rfl ek8 ?_
      refine tq_iload_n (M := mX10_rename) (pc := 20) dX10_rename_20 rfl ?_
      obtain ⟨⟨⟩, eu10, hf⟩ := tq_be hf
      obtain ⟨fsu10, eu10⟩ := tq_is_s eu10
      obtain ⟨v9, ev9, hf⟩ := tq_be hf
      refine tq_calV (M := mX10_rename) (pc := 21) (S := []) tk_y_X5_get tk_v_X5_get tk_RX10_162 dX10_rename_21 [.int a1] rfl (S0 := _) rfl eu10 rfl (Nat.le_of_ble_eq_true rfl) (d1 := d - 1) (b1 := 0) (s1 := 0) (bc' := bc) (bs' := bs) (Q1 := fun r h9 => r = .inl (some (.int v9)) ∧ w6 = h9) (by omega) (by omega) (by omega) (w_X5_get (by omega) ev9 (fun _ _ q => q)) (fun E h9 q => nomatch (show (Sum.inr E : tq_R) = Sum.inl _ from q.1)) (fun r9 h9 q => ?_)
      obtain ⟨q1, rfl⟩ := q
      cases (show (Sum.inl r9 : tq_R) = Sum.inl (some (.int v9)) from q1)
      refine tq_iconst (M := mX10_rename) (pc := 24) dX10_rename_24 tk_ki_1 ?_
      refine tq_icmp_ne (M := mX10_rename) (pc := 25) (tgt := 38) dX10_rename_25 (by decide) (fun cc => ?_) (fun cc => ?_)
      · have hf := tq_ifn hf cc
        refine tq_aload_n (M := mX10_rename) (pc := 38) dX10_rename_38 rfl ?_
        obtain ⟨⟨⟩, eu12, hf⟩ := tq_be hf
        obtain ⟨fsu12, eu12⟩ := tq_is_s eu12
        rcases tq_te hf with ⟨E1, g1, ev11, e9⟩ | ⟨v11, w13, ev11, hf⟩
        · have hb9 := hb _ _ e9
          refine tq_calV (M := mX10_rename) (pc := 39) (S := []) tk_y_X10_needRoom tk_v_X10_needRoom tk_RX10_139 dX10_rename_39 [] rfl (S0 := _) rfl eu12 rfl (Nat.le_of_ble_eq_true rfl) (d1 := d - 1) (b1 := 0 + bc) (s1 := 0 + bs) (bc' := 0) (bs' := 0) (Q1 := fun r h9 => r = tq_enV ((.inl E1, g1) : (String ⊕ Unit) × tq_H).1 ∧ ((.inl E1, g1) : (String ⊕ Unit) × tq_H).2 = h9) (by omega) (by omega) (by omega) (w_X10_needRoom (bc := bc) (bs := bs) (by omega) ev11 (fun _ _ _ => hb9) (fun _ _ q => q)) (fun E h9 q => ?_) (fun r9 h9 q => nomatch (show (Sum.inl r9 : tq_R) = Sum.inr E1 from q.1))
          obtain ⟨q1, rfl⟩ := q
          cases (show (Sum.inr E : tq_R) = Sum.inr E1 from q1)
          subst e9
          exact tq_out rfl (hQ _ _ ⟨rfl, rfl⟩)
        · refine tq_calV (M := mX10_rename) (pc := 39) (S := []) tk_y_X10_needRoom tk_v_X10_needRoom tk_RX10_139 dX10_rename_39 [] rfl (S0 := _) rfl eu12 rfl (Nat.le_of_ble_eq_true rfl) (d1 := d - 1) (b1 := 0 + 0) (s1 := 0 + 0) (bc' := bc) (bs' := bs) (Q1 := fun r h9 => r = tq_enV ((.inr (), w13) : (String ⊕ Unit) × tq_H).1 ∧ ((.inr (), w13) : (String ⊕ Unit) × tq_H).2 = h9) (by omega) (by omega) (by omega) (w_X10_needRoom (bc := 0) (bs := 0) (by omega) ev11 (fun E g z => by cases z) (fun _ _ q => q)) (fun E h9 q => nomatch (show (Sum.inr E : tq_R) = Sum.inl _ from q.1)) (fun r9 h9 q => ?_)
          obtain ⟨q1, rfl⟩ := q
          cases (show (Sum.inl r9 : tq_R) = Sum.inl (none) from q1)
          refine tq_aload_n (M := mX10_rename) (pc := 42) dX10_rename_42 rfl ?_
          obtain ⟨k14, ek14, hf⟩ := tq_be hf
          refine tq_getR (M := mX10_rename) (pc := 43) tk_c10 (by decide) dX10_rename_43 tk_RX10_22 rfl ek14 ?_
          refine tq_iconst (M := mX10_rename) (pc := 46) dX10_rename_46 tk_ki_2 ?_
          refine tq_iload_n (M := mX10_rename) (pc := 47) dX10_rename_47 rfl ?_
          refine tq_iload_n (M := mX10_rename) (pc := 48) dX10_rename_48 rfl ?_
          obtain ⟨⟨⟩, eu16, hf⟩ := tq_be hf
          obtain ⟨fsu16, eu16⟩ := tq_is_s eu16
          obtain ⟨v15, ev15, hf⟩ := tq_be hf
          refine tq_calV (M := mX10_rename) (pc := 49) (S := []) tk_y_X9_addChange tk_v_X9_addChange tk_RX10_156 dX10_rename_49 [.int (2 : Int32), .int a1, .int a2] rfl (S0 := _) rfl eu16 rfl (Nat.le_of_ble_eq_true rfl) (d1 := d - 1) (b1 := 0) (s1 := 0) (bc' := bc) (bs' := bs) (Q1 := fun r h9 => r = .inl (some (.int v15.1)) ∧ v15.2 = h9) (by omega) (by omega) (by omega) (w_X9_addChange (by omega) ev15 (fun _ _ q => q)) (fun E h9 q => nomatch (show (Sum.inr E : tq_R) = Sum.inl _ from q.1)) (fun r9 h9 q => ?_)
          obtain ⟨q1, rfl⟩ := q
          cases (show (Sum.inl r9 : tq_R) = Sum.inl (some (.int v15.1)) from q1)
          refine tq_iret (M := mX10_rename) (pc := 52) dX10_rename_52 rfl ?_
          cases (Option.some.inj hf)
          exact hQ _ _ ⟨rfl, rfl⟩
      · have hf := tq_ifp hf cc
        have hb9 := hb _ _ (Option.some.inj hf).symm
        refine tq_throws (M := mX10_rename) (pc := 28) (E := "java/lang/IllegalStateException") (ik := 149) (ic := 153) (is := 166) (text := "a text has no name") (by decide +kernel) (by decide +kernel) rfl rfl dX10_rename_28 dX10_rename_31 dX10_rename_32 dX10_rename_34 dX10_rename_37 (by omega) (by omega) (by omega) ?_
        cases (Option.some.inj hf)
        exact hQ _ _ ⟨rfl, rfl⟩
abbrev mX10_setValue : tq_M := (RX10, cX10_setValue, 3, (some .int), false, [], none)
def f_X10_setValue (t : Nat) (a1 : Int32) (a2 : Int32) (h : tq_H) : Option ((String ⊕ Int32) × tq_H) :=
  (tq_is h t 10).bind fun _ =>
  tq_tb (f_X10_needNode t a1 h) fun _ w3 =>
  (tq_is w3 t 10).bind fun _ =>
  tq_tb (f_X10_needRange t a2 (0 : Int32) (999 : Int32) w3) fun _ w6 =>
  (tq_gr w6 t 10 0).bind fun k7 =>
  (tq_gr w6 k7 8 1).bind fun k8 =>
  (tq_is w6 k8 5).bind fun _ =>
  (f_X5_get k8 a1 w6).bind fun v9 =>
  if v9 = 0 then
    some (.inl "java/lang/IllegalStateException", w6)
  else
    (tq_is w6 t 10).bind fun _ =>
    tq_tb (f_X10_needRoom t w6) fun _ w13 =>
    (tq_gr w13 t 10 2).bind fun k14 =>
    (tq_is w13 k14 9).bind fun _ =>
    (f_X9_addChange k14 (3 : Int32) a1 a2 w13).bind fun v15 =>
    some (.inr v15.1, v15.2)
set_option maxHeartbeats 4000000 in
set_option maxRecDepth 20000 in
theorem w_X10_setValue {l : Launch} {d : Nat} (hd9 : 7 ≤ d) {t : Nat} {a1 : Int32} {a2 : Int32} {bc bs : Nat} {h : tq_H} {o : (String ⊕ Int32) × tq_H} {Q : tq_R → tq_H → Prop} (hf : f_X10_setValue t a1 a2 h = some o) (hb : ∀ E g, o = (.inl E, g) → 1 ≤ bc ∧ 6 ≤ bs) (hQ : ∀ r h9, r = tq_enI o.1 ∧ o.2 = h9 → Q r h9) : tq_C l yX10_setValue cX10_setValue 3 (some .int) d (0 + bc) (0 + bs) [.ref t, .int a1, .int a2] h Q := by
  refine tq_body (y := yX10_setValue) false (by decide +kernel) (fun z => by cases z) (Nat.le_of_ble_eq_true rfl) ?_
  show tq_W l mX10_setValue d (0 + bc) (0 + bs) Q 0 [(0, .ref t), (1, .int a1), (2, .int a2)] [] h
  refine tq_more (bc := bc) (bs := bs) (by omega) (by omega) ?_
  refine tq_aload_n (M := mX10_setValue) (pc := 0) dX10_setValue_0 rfl ?_
  refine tq_iload_n (M := mX10_setValue) (pc := 1) dX10_setValue_1 rfl ?_
  obtain ⟨⟨⟩, eu2, hf⟩ := tq_be hf
  obtain ⟨fsu2, eu2⟩ := tq_is_s eu2
  rcases tq_te hf with ⟨E1, g1, ev1, e9⟩ | ⟨v1, w3, ev1, hf⟩
  · have hb9 := hb _ _ e9
    refine tq_calV (M := mX10_setValue) (pc := 2) (S := []) tk_y_X10_needNode tk_v_X10_needNode tk_RX10_146 dX10_setValue_2 [.int a1] rfl (S0 := _) rfl eu2 rfl (Nat.le_of_ble_eq_true rfl) (d1 := d - 1) (b1 := 0 + bc) (s1 := 0 + bs) (bc' := 0) (bs' := 0) (Q1 := fun r h9 => r = tq_enV ((.inl E1, g1) : (String ⊕ Unit) × tq_H).1 ∧ ((.inl E1, g1) : (String ⊕ Unit) × tq_H).2 = h9) (by omega) (by omega) (by omega) (w_X10_needNode (bc := bc) (bs := bs) (by omega) ev1 (fun _ _ _ => hb9) (fun _ _ q => q)) (fun E h9 q => ?_) (fun r9 h9 q => nomatch (show (Sum.inl r9 : tq_R) = Sum.inr E1 from q.1))
    obtain ⟨q1, rfl⟩ := q
    cases (show (Sum.inr E : tq_R) = Sum.inr E1 from q1)
    subst e9
    exact tq_out rfl (hQ _ _ ⟨rfl, rfl⟩)
  · refine tq_calV (M := mX10_setValue) (pc := 2) (S := []) tk_y_X10_needNode tk_v_X10_needNode tk_RX10_146 dX10_setValue_2 [.int a1] rfl (S0 := _) rfl eu2 rfl (Nat.le_of_ble_eq_true rfl) (d1 := d - 1) (b1 := 0 + 0) (s1 := 0 + 0) (bc' := bc) (bs' := bs) (Q1 := fun r h9 => r = tq_enV ((.inr (), w3) : (String ⊕ Unit) × tq_H).1 ∧ ((.inr (), w3) : (String ⊕ Unit) × tq_H).2 = h9) (by omega) (by omega) (by omega) (w_X10_needNode (bc := 0) (bs := 0) (by omega) ev1 (fun E g z => by cases z) (fun _ _ q => q)) (fun E h9 q => nomatch (show (Sum.inr E : tq_R) = Sum.inl _ from q.1)) (fun r9 h9 q => ?_)
    obtain ⟨q1, rfl⟩ := q
    cases (show (Sum.inl r9 : tq_R) = Sum.inl (none) from q1)
    refine tq_aload_n (M := mX10_setValue) (pc := 5) dX10_setValue_5 rfl ?_
    refine tq_iload_n (M := mX10_setValue) (pc := 6) dX10_setValue_6 rfl ?_
    refine tq_iconst (M := mX10_setValue) (pc := 7) dX10_setValue_7 tk_ki_0 ?_
    refine tq_sipush (M := mX10_setValue) (pc := 8) dX10_setValue_8 tk_ks_999 ?_
    obtain ⟨⟨⟩, eu5, hf⟩ := tq_be hf
    obtain ⟨fsu5, eu5⟩ := tq_is_s eu5
    rcases tq_te hf with ⟨E1, g1, ev4, e9⟩ | ⟨v4, w6, ev4, hf⟩
    · have hb9 := hb _ _ e9
      refine tq_calV (M := mX10_setValue) (pc := 11) (S := []) tk_y_X10_needRange tk_v_X10_needRange tk_RX10_132 dX10_setValue_11 [.int a2, .int (0 : Int32), .int (999 : Int32)] rfl (S0 := _) rfl eu5 rfl (Nat.le_of_ble_eq_true rfl) (d1 := d - 1) (b1 := 0 + bc) (s1 := 0 + bs) (bc' := 0) (bs' := 0) (Q1 := fun r h9 => r = tq_enV ((.inl E1, g1) : (String ⊕ Unit) × tq_H).1 ∧ ((.inl E1, g1) : (String ⊕ Unit) × tq_H).2 = h9) (by omega) (by omega) (by omega) (w_X10_needRange (bc := bc) (bs := bs) (by omega) ev4 (fun _ _ _ => hb9) (fun _ _ q => q)) (fun E h9 q => ?_) (fun r9 h9 q => nomatch (show (Sum.inl r9 : tq_R) = Sum.inr E1 from q.1))
      obtain ⟨q1, rfl⟩ := q
      cases (show (Sum.inr E : tq_R) = Sum.inr E1 from q1)
      subst e9
      exact tq_out rfl (hQ _ _ ⟨rfl, rfl⟩)
    · refine tq_calV (M := mX10_setValue) (pc := 11) (S := []) tk_y_X10_needRange tk_v_X10_needRange tk_RX10_132 dX10_setValue_11 [.int a2, .int (0 : Int32), .int (999 : Int32)] rfl (S0 := _) rfl eu5 rfl (Nat.le_of_ble_eq_true rfl) (d1 := d - 1) (b1 := 0 + 0) (s1 := 0 + 0) (bc' := bc) (bs' := bs) (Q1 := fun r h9 => r = tq_enV ((.inr (), w6) : (String ⊕ Unit) × tq_H).1 ∧ ((.inr (), w6) : (String ⊕ Unit) × tq_H).2 = h9) (by omega) (by omega) (by omega) (w_X10_needRange (bc := 0) (bs := 0) (by omega) ev4 (fun E g z => by cases z) (fun _ _ q => q)) (fun E h9 q => nomatch (show (Sum.inr E : tq_R) = Sum.inl _ from q.1)) (fun r9 h9 q => ?_)
      obtain ⟨q1, rfl⟩ := q
      cases (show (Sum.inl r9 : tq_R) = Sum.inl (none) from q1)
      refine tq_aload_n (M := mX10_setValue) (pc := 14) dX10_setValue_14 rfl ?_
      obtain ⟨k7, ek7, hf⟩ := tq_be hf
      refine tq_getR (M := mX10_setValue) (pc := 15) tk_c10 (by decide) dX10_setValue_15 tk_RX10_12 rfl ek7 ?_
      obtain ⟨k8, ek8, hf⟩ := tq_be hf
      refine tq_getR (M := mX10_setValue) (pc := 18) tk_c8 (by decide) dX10_setValue_18 tk_RX10_159 rfl ek8 ?_
      refine tq_iload_n (M := mX10_setValue) (pc := 21) dX10_setValue_21 rfl ?_
      obtain ⟨⟨⟩, eu10, hf⟩ := tq_be hf
      obtain ⟨fsu10, eu10⟩ := tq_is_s eu10
      obtain ⟨v9, ev9, hf⟩ := tq_be hf
      refine tq_calV (M := mX10_setValue) (pc := 22) (S := []) tk_y_X5_get tk_v_X5_get tk_RX10_162 dX10_setValue_22 [.int a1] rfl (S0 := _) rfl eu10 rfl (Nat.le_of_ble_eq_true rfl) (d1 := d - 1) (b1 := 0) (s1 := 0) (bc' := bc) (bs' := bs) (Q1 := fun r h9 => r = .inl (some (.int v9)) ∧ w6 = h9) (by omega) (by omega) (by omega) (w_X5_get (by omega) ev9 (fun _ _ q => q)) (fun E h9 q => nomatch (show (Sum.inr E : tq_R) = Sum.inl _ from q.1)) (fun r9 h9 q => ?_)
      obtain ⟨q1, rfl⟩ := q
      cases (show (Sum.inl r9 : tq_R) = Sum.inl (some (.int v9)) from q1)
      refine tq_if_ne (M := mX10_setValue) (pc := 25) (tgt := 38) dX10_setValue_25 (by decide) (fun cc => ?_) (fun cc => ?_)
      · have hf := tq_ifn hf cc
        refine tq_aload_n (M := mX10_setValue) (pc := 38) dX10_setValue_38 rfl ?_
        obtain ⟨⟨⟩, eu12, hf⟩ := tq_be hf
        obtain ⟨fsu12, eu12⟩ := tq_is_s eu12
        rcases tq_te hf with ⟨E1, g1, ev11, e9⟩ | ⟨v11, w13, ev11, hf⟩
        · have hb9 := hb _ _ e9
          refine tq_calV (M := mX10_setValue) (pc := 39) (S := []) tk_y_X10_needRoom tk_v_X10_needRoom tk_RX10_139 dX10_setValue_39 [] rfl (S0 := _) rfl eu12 rfl (Nat.le_of_ble_eq_true rfl) (d1 := d - 1) (b1 := 0 + bc) (s1 := 0 + bs) (bc' := 0) (bs' := 0) (Q1 := fun r h9 => r = tq_enV ((.inl E1, g1) : (String ⊕ Unit) × tq_H).1 ∧ ((.inl E1, g1) : (String ⊕ Unit) × tq_H).2 = h9) (by omega) (by omega) (by omega) (w_X10_needRoom (bc := bc) (bs := bs) (by omega) ev11 (fun _ _ _ => hb9) (fun _ _ q => q)) (fun E h9 q => ?_) (fun r9 h9 q => nomatch (show (Sum.inl r9 : tq_R) = Sum.inr E1 from q.1))
          obtain ⟨q1, rfl⟩ := q
          cases (show (Sum.inr E : tq_R) = Sum.inr E1 from q1)
          subst e9
          exact tq_out rfl (hQ _ _ ⟨rfl, rfl⟩)
        · refine tq_calV (M := mX10_setValue) (pc := 39) (S := []) tk_y_X10_needRoom tk_v_X10_needRoom tk_RX10_139 dX10_setValue_39 [] rfl (S0 := _) rfl eu12 rfl (Nat.le_of_ble_eq_true rfl) (d1 := d - 1) (b1 := 0 + 0) (s1 := 0 + 0) (bc' := bc) (bs' := bs) (Q1 := fun r h9 => r = tq_enV ((.inr (), w13) : (String ⊕ Unit) × tq_H).1 ∧ ((.inr (), w13) : (String ⊕ Unit) × tq_H).2 = h9) (by omega) (by omega) (by omega) (w_X10_needRoom (bc := 0) (bs := 0) (by omega) ev11 (fun E g z => by cases z) (fun _ _ q => q)) (fun E h9 q => nomatch (show (Sum.inr E : tq_R) = Sum.inl _ from q.1)) (fun r9 h9 q => ?_)
          obtain ⟨q1, rfl⟩ := q
          cases (show (Sum.inl r9 : tq_R) = Sum.inl (none) from q1)
          refine tq_aload_n (M := mX10_setValue) (pc := 42) dX10_setValue_42 rfl ?_
          obtain ⟨k14, ek14, hf⟩ := tq_be hf
          refine tq_getR (M := mX10_setValue) (pc := 43) tk_c10 (by decide) dX10_setValue_43 tk_RX10_22 rfl ek14 ?_
          refine tq_iconst (M := mX10_setValue) (pc := 46) dX10_setValue_46 tk_ki_3 ?_
          refine tq_iload_n (M := mX10_setValue) (pc := 47) dX10_setValue_47 rfl ?_
          refine tq_iload_n (M := mX10_setValue) (pc := 48) dX10_setValue_48 rfl ?_
          obtain ⟨⟨⟩, eu16, hf⟩ := tq_be hf
          obtain ⟨fsu16, eu16⟩ := tq_is_s eu16
          obtain ⟨v15, ev15, hf⟩ := tq_be hf
          refine tq_calV (M := mX10_setValue) (pc := 49) (S := []) tk_y_X9_addChange tk_v_X9_addChange tk_RX10_156 dX10_setValue_49 [.int (3 : Int32), .int a1, .int a2] rfl (S0 := _) rfl eu16 rfl (Nat.le_of_ble_eq_true rfl) (d1 := d - 1) (b1 := 0) (s1 := 0) (bc' := bc) (bs' := bs) (Q1 := fun r h9 => r = .inl (some (.int v15.1)) ∧ v15.2 = h9) (by omega) (by omega) (by omega) (w_X9_addChange (by omega) ev15 (fun _ _ q => q)) (fun E h9 q => nomatch (show (Sum.inr E : tq_R) = Sum.inl _ from q.1)) (fun r9 h9 q => ?_)
          obtain ⟨q1, rfl⟩ := q
          cases (show (Sum.inl r9 : tq_R) = Sum.inl (some (.int v15.1)) from q1)
          refine tq_iret (M := mX10_setValue) (pc := 52) dX10_setValue_52 rfl ?_
          cases (Option.some.inj hf)
          exact hQ _ _ ⟨rfl, rfl⟩
      · have hf := tq_ifp hf cc
        have hb9 := hb _ _ (Option.some.inj hf).symm
        refine tq_throws (M := mX10_setValue) (pc := 28) (E := "java/lang/IllegalStateException") (ik := 149) (ic := 153) (is := 168) (text := "an element has no value of its own") (by decide +kernel) (by decide +kernel) rfl rfl dX10_setValue_28 dX10_setValue_31 dX10_setValue_32 dX10_setValue_34 dX10_setValue_37 (by omega) (by omega) (by omega) ?_
        cases (Option.some.inj hf)
        exact hQ _ _ ⟨rfl, rfl⟩
abbrev mX10_move : tq_M := (RX10, cX10_move, 4, (some .int), false, [], none)
def f_X10_move (t : Nat) (a1 : Int32) (a2 : Int32) (a3 : Int32) (h : tq_H) : Option ((String ⊕ Int32) × tq_H) :=
  (tq_is h t 10).bind fun _ =>
  tq_tb (f_X10_needNode t a1 h) fun _ w3 =>
  (tq_is w3 t 10).bind fun _ =>
  tq_tb (f_X10_needPlaceIn t a2 a3 w3) fun _ w6 =>
  if a1 = 0 then
    some (.inl "java/lang/IllegalStateException", w6)
  else
    (tq_gr w6 t 10 0).bind fun k7 =>
    (tq_gr w6 k7 8 1).bind fun k8 =>
    (tq_is w6 k8 5).bind fun _ =>
    (f_X5_get k8 a1 w6).bind fun v9 =>
    if v9 = (2 : Int32) then
      some (.inl "java/lang/IllegalStateException", w6)
    else
      (tq_is w6 t 10).bind fun _ =>
      tq_tb (f_X10_needElement t a2 w6) fun _ w13 =>
      (tq_is w13 t 10).bind fun _ =>
      tq_tb (f_X10_needRoom t w13) fun _ w16 =>
      (tq_gr w16 t 10 2).bind fun k17 =>
      (tq_is w16 k17 9).bind fun _ =>
      (f_X9_addMove k17 a1 a2 a3 w16).bind fun v18 =>
      some (.inr v18.1, v18.2)
set_option maxHeartbeats 4000000 in
set_option maxRecDepth 20000 in
theorem w_X10_move {l : Launch} {d : Nat} (hd9 : 8 ≤ d) {t : Nat} {a1 : Int32} {a2 : Int32} {a3 : Int32} {bc bs : Nat} {h : tq_H} {o : (String ⊕ Int32) × tq_H} {Q : tq_R → tq_H → Prop} (hf : f_X10_move t a1 a2 a3 h = some o) (hb : ∀ E g, o = (.inl E, g) → 1 ≤ bc ∧ 6 ≤ bs) (hQ : ∀ r h9, r = tq_enI o.1 ∧ o.2 = h9 → Q r h9) : tq_C l yX10_move cX10_move 4 (some .int) d (0 + bc) (0 + bs) [.ref t, .int a1, .int a2, .int a3] h Q := by
  refine tq_body (y := yX10_move) false (by decide +kernel) (fun z => by cases z) (Nat.le_of_ble_eq_true rfl) ?_
  show tq_W l mX10_move d (0 + bc) (0 + bs) Q 0 [(0, .ref t), (1, .int a1), (2, .int a2), (3, .int a3)] [] h
  refine tq_more (bc := bc) (bs := bs) (by omega) (by omega) ?_
  refine tq_aload_n (M := mX10_move) (pc := 0) dX10_move_0 rfl ?_
  refine tq_iload_n (M := mX10_move) (pc := 1) dX10_move_1 rfl ?_
  obtain ⟨⟨⟩, eu2, hf⟩ := tq_be hf
  obtain ⟨fsu2, eu2⟩ := tq_is_s eu2
  rcases tq_te hf with ⟨E1, g1, ev1, e9⟩ | ⟨v1, w3, ev1, hf⟩
  · have hb9 := hb _ _ e9
    refine tq_calV (M := mX10_move) (pc := 2) (S := []) tk_y_X10_needNode tk_v_X10_needNode tk_RX10_146 dX10_move_2 [.int a1] rfl (S0 := _) rfl eu2 rfl (Nat.le_of_ble_eq_true rfl) (d1 := d - 1) (b1 := 0 + bc) (s1 := 0 + bs) (bc' := 0) (bs' := 0) (Q1 := fun r h9 => r = tq_enV ((.inl E1, g1) : (String ⊕ Unit) × tq_H).1 ∧ ((.inl E1, g1) : (String ⊕ Unit) × tq_H).2 = h9) (by omega) (by omega) (by omega) (w_X10_needNode (bc := bc) (bs := bs) (by omega) ev1 (fun _ _ _ => hb9) (fun _ _ q => q)) (fun E h9 q => ?_) (fun r9 h9 q => nomatch (show (Sum.inl r9 : tq_R) = Sum.inr E1 from q.1))
    obtain ⟨q1, rfl⟩ := q
    cases (show (Sum.inr E : tq_R) = Sum.inr E1 from q1)
    subst e9
    exact tq_out rfl (hQ _ _ ⟨rfl, rfl⟩)
  · refine tq_calV (M := mX10_move) (pc := 2) (S := []) tk_y_X10_needNode tk_v_X10_needNode tk_RX10_146 dX10_move_2 [.int a1] rfl (S0 := _) rfl eu2 rfl (Nat.le_of_ble_eq_true rfl) (d1 := d - 1) (b1 := 0 + 0) (s1 := 0 + 0) (bc' := bc) (bs' := bs) (Q1 := fun r h9 => r = tq_enV ((.inr (), w3) : (String ⊕ Unit) × tq_H).1 ∧ ((.inr (), w3) : (String ⊕ Unit) × tq_H).2 = h9) (by omega) (by omega) (by omega) (w_X10_needNode (bc := 0) (bs := 0) (by omega) ev1 (fun E g z => by cases z) (fun _ _ q => q)) (fun E h9 q => nomatch (show (Sum.inr E : tq_R) = Sum.inl _ from q.1)) (fun r9 h9 q => ?_)
    obtain ⟨q1, rfl⟩ := q
    cases (show (Sum.inl r9 : tq_R) = Sum.inl (none) from q1)
    refine tq_aload_n (M := mX10_move) (pc := 5) dX10_move_5 rfl ?_
    refine tq_iload_n (M := mX10_move) (pc := 6) dX10_move_6 rfl ?_
    refine tq_iload_n (M := mX10_move) (pc := 7) dX10_move_7 rfl ?_
    obtain ⟨⟨⟩, eu5, hf⟩ := tq_be hf
    obtain ⟨fsu5, eu5⟩ := tq_is_s eu5
    rcases tq_te hf with ⟨E1, g1, ev4, e9⟩ | ⟨v4, w6, ev4, hf⟩
    · have hb9 := hb _ _ e9
      refine tq_calV (M := mX10_move) (pc := 8) (S := []) tk_y_X10_needPlaceIn tk_v_X10_needPlaceIn tk_RX10_129 dX10_move_8 [.int a2, .int a3] rfl (S0 := _) rfl eu5 rfl (Nat.le_of_ble_eq_true rfl) (d1 := d - 1) (b1 := 0 + bc) (s1 := 0 + bs) (bc' := 0) (bs' := 0) (Q1 := fun r h9 => r = tq_enV ((.inl E1, g1) : (String ⊕ Unit) × tq_H).1 ∧ ((.inl E1, g1) : (String ⊕ Unit) × tq_H).2 = h9) (by omega) (by omega) (by omega) (w_X10_needPlaceIn (bc := bc) (bs := bs) (by omega) ev4 (fun _ _ _ => hb9) (fun _ _ q => q)) (fun E h9 q => ?_) (fun r9 h9 q => nomatch (show (Sum.inl r9 : tq_R) = Sum.inr E1 from q.1))
      obtain ⟨q1, rfl⟩ := q
      cases (show (Sum.inr E : tq_R) = Sum.inr E1 from q1)
      subst e9
      exact tq_out rfl (hQ _ _ ⟨rfl, rfl⟩)
    · refine tq_calV (M := mX10_move) (pc := 8) (S := []) tk_y_X10_needPlaceIn tk_v_X10_needPlaceIn tk_RX10_129 dX10_move_8 [.int a2, .int a3] rfl (S0 := _) rfl eu5 rfl (Nat.le_of_ble_eq_true rfl) (d1 := d - 1) (b1 := 0 + 0) (s1 := 0 + 0) (bc' := bc) (bs' := bs) (Q1 := fun r h9 => r = tq_enV ((.inr (), w6) : (String ⊕ Unit) × tq_H).1 ∧ ((.inr (), w6) : (String ⊕ Unit) × tq_H).2 = h9) (by omega) (by omega) (by omega) (w_X10_needPlaceIn (bc := 0) (bs := 0) (by omega) ev4 (fun E g z => by cases z) (fun _ _ q => q)) (fun E h9 q => nomatch (show (Sum.inr E : tq_R) = Sum.inl _ from q.1)) (fun r9 h9 q => ?_)
      obtain ⟨q1, rfl⟩ := q
      cases (show (Sum.inl r9 : tq_R) = Sum.inl (none) from q1)
      refine tq_iload_n (M := mX10_move) (pc := 11) dX10_move_11 rfl ?_
      refine tq_if_eq (M := mX10_move) (pc := 12) (tgt := 30) dX10_move_12 (by decide) (fun cc => ?_) (fun cc => ?_)
      · have hf := tq_ifp hf cc
        have hb9 := hb _ _ (Option.some.inj hf).symm
        refine tq_throws (M := mX10_move) (pc := 30) (E := "java/lang/IllegalStateException") (ik := 149) (ic := 153) (is := 170) (text := "neither the root nor an attribute is moved") (by decide +kernel) (by decide +kernel) rfl rfl dX10_move_30 dX10_move_33 dX10_move_34 dX10_move_36 dX10_move_39 (by omega) (by omega) (by omega) ?_
        cases (Option.some.inj hf)
        exact hQ _ _ ⟨rfl, rfl⟩
      · have hf := tq_ifn hf cc
        refine tq_aload_n (M := mX10_move) (pc := 15) dX10_move_15 rfl ?_
        obtain ⟨k7, ek7, hf⟩ := tq_be hf
        refine tq_getR (M := mX10_move) (pc := 16) tk_c10 (by decide) dX10_move_16 tk_RX10_12 rfl ek7 ?_
        obtain ⟨k8, ek8, hf⟩ := tq_be hf
        refine tq_getR (M := mX10_move) (pc := 19) tk_c8 (by decide) dX10_move_19 tk_RX10_159 rfl ek8 ?_
        refine tq_iload_n (M := mX10_move) (pc := 22) dX10_move_22 rfl ?_
        obtain ⟨⟨⟩, eu10, hf⟩ := tq_be hf
        obtain ⟨fsu10, eu10⟩ := tq_is_s eu10
        obtain ⟨v9, ev9, hf⟩ := tq_be hf
        refine tq_calV (M := mX10_move) (pc := 23) (S := []) tk_y_X5_get tk_v_X5_get tk_RX10_162 dX10_move_23 [.int a1] rfl (S0 := _) rfl eu10 rfl (Nat.le_of_ble_eq_true rfl) (d1 := d - 1) (b1 := 0) (s1 := 0) (bc' := bc) (bs' := bs) (Q1 := fun r h9 => r = .inl (some (.int v9)) ∧ w6 = h9) (by omega) (by omega) (by omega) (w_X5_get (by omega) ev9 (fun _ _ q => q)) (fun E h9 q => nomatch (show (Sum.inr E : tq_R) = Sum.inl _ from q.1)) (fun r9 h9 q => ?_)
        obtain ⟨q1, rfl⟩ := q
        cases (show (Sum.inl r9 : tq_R) = Sum.inl (some (.int v9)) from q1)
        refine tq_iconst (M := mX10_move) (pc := 26) dX10_move_26 tk_ki_2 ?_
        refine tq_icmp_ne (M := mX10_move) (pc := 27) (tgt := 40) dX10_move_27 (by decide) (fun cc => ?_) (fun cc => ?_)
        · have hf := tq_ifn hf cc
          refine tq_aload_n (M := mX10_move) (pc := 40) dX10_move_40 rfl ?_
          refine tq_iload_n (M := mX10_move) (pc := 41) dX10_move_41 rfl ?_
          obtain ⟨⟨⟩, eu12, hf⟩ := tq_be hf
          obtain ⟨fsu12, eu12⟩ := tq_is_s eu12
          rcases tq_te hf with ⟨E1, g1, ev11, e9⟩ | ⟨v11, w13, ev11, hf⟩
          · have hb9 := hb _ _ e9
            refine tq_calV (M := mX10_move) (pc := 42) (S := []) tk_y_X10_needElement tk_v_X10_needElement tk_RX10_136 dX10_move_42 [.int a2] rfl (S0 := _) rfl eu12 rfl (Nat.le_of_ble_eq_true rfl) (d1 := d - 1) (b1 := 0 + bc) (s1 := 0 + bs) (bc' := 0) (bs' := 0) (Q1 := fun r h9 => r = tq_enV ((.inl E1, g1) : (String ⊕ Unit) × tq_H).1 ∧ ((.inl E1, g1) : (String ⊕ Unit) × tq_H).2 = h9) (by omega) (by omega) (by omega) (w_X10_needElement (bc := bc) (bs := bs) (by omega) ev11 (fun _ _ _ => hb9) (fun _ _ q => q)) (fun E h9 q => ?_) (fun r9 h9 q => nomatch (show (Sum.inl r9 : tq_R) = Sum.inr E1 from q.1))
            obtain ⟨q1, rfl⟩ := q
            cases (show (Sum.inr E : tq_R) = Sum.inr E1 from q1)
            subst e9
            exact tq_out rfl (hQ _ _ ⟨rfl, rfl⟩)
          · refine tq_calV (M := mX10_move) (pc := 42) (S := []) tk_y_X10_needElement tk_v_X10_needElement tk_RX10_136 dX10_move_42 [.int a2] rfl (S0 := _) rfl eu12 rfl (Nat.le_of_ble_eq_true rfl) (d1 := d - 1) (b1 := 0 + 0) (s1 := 0 + 0) (bc' := bc) (bs' := bs) (Q1 := fun r h9 => r = tq_enV ((.inr (), w13) : (String ⊕ Unit) × tq_H).1 ∧ ((.inr (), w13) : (String ⊕ Unit) × tq_H).2 = h9) (by omega) (by omega) (by omega) (w_X10_needElement (bc := 0) (bs := 0) (by omega) ev11 (fun E g z => by cases z) (fun _ _ q => q)) (fun E h9 q => nomatch (show (Sum.inr E : tq_R) = Sum.inl _ from q.1)) (fun r9 h9 q => ?_)
            obtain ⟨q1, rfl⟩ := q
            cases (show (Sum.inl r9 : tq_R) = Sum.inl (none) from q1)
            refine tq_aload_n (M := mX10_move) (pc := 45) dX10_move_45 rfl ?_
            obtain ⟨⟨⟩, eu15, hf⟩ := tq_be hf
            obtain ⟨fsu15, eu15⟩ := tq_is_s eu15
            rcases tq_te hf with ⟨E1, g1, ev14, e9⟩ | ⟨v14, w16, ev14, hf⟩
            · have hb9 := hb _ _ e9
              refine tq_calV (M := mX10_move) (pc := 46) (S := []) tk_y_X10_needRoom tk_v_X10_needRoom tk_RX10_139 dX10_move_46 [] rfl (S0 := _) rfl eu15 rfl (Nat.le_of_ble_eq_true rfl) (d1 := d - 1) (b1 := 0 + bc) (s1 := 0 + bs) (bc' := 0) (bs' := 0) (Q1 := fun r h9 => r = tq_enV ((.inl E1, g1) : (String ⊕ Unit) × tq_H).1 ∧ ((.inl E1, g1) : (String ⊕ Unit) × tq_H).2 = h9) (by omega) (by omega) (by omega) (w_X10_needRoom (bc := bc) (bs := bs) (by omega) ev14 (fun _ _ _ => hb9) (fun _ _ q => q)) (fun E h9 q => ?_) (fun r9 h9 q => nomatch (show (Sum.inl r9 : tq_R) = Sum.inr E1 from q.1))
              obtain ⟨q1, rfl⟩ := q
              cases (show (Sum.inr E : tq_R) = Sum.inr E1 from q1)
              subst e9
              exact tq_out rfl (hQ _ _ ⟨rfl, rfl⟩)
            · refine tq_calV (M := mX10_move) (pc := 46) (S := []) tk_y_X10_needRoom tk_v_X10_needRoom tk_RX10_139 dX10_move_46 [] rfl (S0 := _) rfl eu15 rfl (Nat.le_of_ble_eq_true rfl) (d1 := d - 1) (b1 := 0 + 0) (s1 := 0 + 0) (bc' := bc) (bs' := bs) (Q1 := fun r h9 => r = tq_enV ((.inr (), w16) : (String ⊕ Unit) × tq_H).1 ∧ ((.inr (), w16) : (String ⊕ Unit) × tq_H).2 = h9) (by omega) (by omega) (by omega) (w_X10_needRoom (bc := 0) (bs := 0) (by omega) ev14 (fun E g z => by cases z) (fun _ _ q => q)) (fun E h9 q => nomatch (show (Sum.inr E : tq_R) = Sum.inl _ from q.1)) (fun r9 h9 q => ?_)
              obtain ⟨q1, rfl⟩ := q
              cases (show (Sum.inl r9 : tq_R) = Sum.inl (none) from q1)
              refine tq_aload_n (M := mX10_move) (pc := 49) dX10_move_49 rfl ?_
              obtain ⟨k17, ek17, hf⟩ := tq_be hf
              refine tq_getR (M := mX10_move) (pc := 50) tk_c10 (by decide) dX10_move_50 tk_RX10_22 rfl ek17 ?_
              refine tq_iload_n (M := mX10_move) (pc := 53) dX10_move_53 rfl ?_
              refine tq_iload_n (M := mX10_move) (pc := 54) dX10_move_54 rfl ?_
              refine tq_iload_n (M := mX10_move) (pc := 55) dX10_move_55 rfl ?_
              obtain ⟨⟨⟩, eu19, hf⟩ := tq_be hf
              obtain ⟨fsu19, eu19⟩ := tq_is_s eu19
              obtain ⟨v18, ev18, hf⟩ := tq_be hf
              refine tq_calV (M := mX10_move) (pc := 56) (S := []) tk_y_X9_addMove tk_v_X9_addMove tk_RX10_172 dX10_move_56 [.int a1, .int a2, .int a3] rfl (S0 := _) rfl eu19 rfl (Nat.le_of_ble_eq_true rfl) (d1 := d - 1) (b1 := 0) (s1 := 0) (bc' := bc) (bs' := bs) (Q1 := fun r h9 => r = .inl (some (.int v18.1)) ∧ v18.2 = h9) (by omega) (by omega) (by omega) (w_X9_addMove (by omega) ev18 (fun _ _ q => q)) (fun E h9 q => nomatch (show (Sum.inr E : tq_R) = Sum.inl _ from q.1)) (fun r9 h9 q => ?_)
              obtain ⟨q1, rfl⟩ := q
              cases (show (Sum.inl r9 : tq_R) = Sum.inl (some (.int v18.1)) from q1)
              refine tq_iret (M := mX10_move) (pc := 59) dX10_move_59 rfl ?_
              cases (Option.some.inj hf)
              exact hQ _ _ ⟨rfl, rfl⟩
        · have hf := tq_ifp hf cc
          have hb9 := hb _ _ (Option.some.inj hf).symm
          refine tq_throws (M := mX10_move) (pc := 30) (E := "java/lang/IllegalStateException") (ik := 149) (ic := 153) (is := 170) (text := "neither the root nor an attribute is moved") (by decide +kernel) (by decide +kernel) rfl rfl dX10_move_30 dX10_move_33 dX10_move_34 dX10_move_36 dX10_move_39 (by omega) (by omega) (by omega) ?_
          cases (Option.some.inj hf)
          exact hQ _ _ ⟨rfl, rfl⟩
abbrev mX10_declare : tq_M := (RX10, cX10_declare, 3, (some .int), false, [], none)
def f_X10_declare (t : Nat) (a1 : Int32) (a2 : Int32) (h : tq_H) : Option ((String ⊕ Int32) × tq_H) :=
  (tq_is h t 10).bind fun _ =>
  tq_tb (f_X10_needNode t a1 h) fun _ w3 =>
  (tq_is w3 t 10).bind fun _ =>
  tq_tb (f_X10_needRange t a2 (-1 : Int32) (3 : Int32) w3) fun _ w6 =>
  (tq_is w6 t 10).bind fun _ =>
  tq_tb (f_X10_needElement t a1 w6) fun _ w9 =>
  (tq_is w9 t 10).bind fun _ =>
  tq_tb (f_X10_needRoom t w9) fun _ w12 =>
  (tq_gr w12 t 10 2).bind fun k13 =>
  (tq_is w12 k13 9).bind fun _ =>
  (f_X9_addChange k13 (5 : Int32) a1 a2 w12).bind fun v14 =>
  some (.inr v14.1, v14.2)
set_option maxHeartbeats 4000000 in
set_option maxRecDepth 20000 in
theorem w_X10_declare {l : Launch} {d : Nat} (hd9 : 7 ≤ d) {t : Nat} {a1 : Int32} {a2 : Int32} {bc bs : Nat} {h : tq_H} {o : (String ⊕ Int32) × tq_H} {Q : tq_R → tq_H → Prop} (hf : f_X10_declare t a1 a2 h = some o) (hb : ∀ E g, o = (.inl E, g) → 1 ≤ bc ∧ 6 ≤ bs) (hQ : ∀ r h9, r = tq_enI o.1 ∧ o.2 = h9 → Q r h9) : tq_C l yX10_declare cX10_declare 3 (some .int) d (0 + bc) (0 + bs) [.ref t, .int a1, .int a2] h Q := by
  refine tq_body (y := yX10_declare) false (by decide +kernel) (fun z => by cases z) (Nat.le_of_ble_eq_true rfl) ?_
  show tq_W l mX10_declare d (0 + bc) (0 + bs) Q 0 [(0, .ref t), (1, .int a1), (2, .int a2)] [] h
  refine tq_more (bc := bc) (bs := bs) (by omega) (by omega) ?_
  refine tq_aload_n (M := mX10_declare) (pc := 0) dX10_declare_0 rfl ?_
  refine tq_iload_n (M := mX10_declare) (pc := 1) dX10_declare_1 rfl ?_
  obtain ⟨⟨⟩, eu2, hf⟩ := tq_be hf
  obtain ⟨fsu2, eu2⟩ := tq_is_s eu2
  rcases tq_te hf with ⟨E1, g1, ev1, e9⟩ | ⟨v1, w3, ev1, hf⟩
  · have hb9 := hb _ _ e9
    refine tq_calV (M := mX10_declare) (pc := 2) (S := []) tk_y_X10_needNode tk_v_X10_needNode tk_RX10_146 dX10_declare_2 [.int a1] rfl (S0 := _) rfl eu2 rfl (Nat.le_of_ble_eq_true rfl) (d1 := d - 1) (b1 := 0 + bc) (s1 := 0 + bs) (bc' := 0) (bs' := 0) (Q1 := fun r h9 => r = tq_enV ((.inl E1, g1) : (String ⊕ Unit) × tq_H).1 ∧ ((.inl E1, g1) : (String ⊕ Unit) × tq_H).2 = h9) (by omega) (by omega) (by omega) (w_X10_needNode (bc := bc) (bs := bs) (by omega) ev1 (fun _ _ _ => hb9) (fun _ _ q => q)) (fun E h9 q => ?_) (fun r9 h9 q => nomatch (show (Sum.inl r9 : tq_R) = Sum.inr E1 from q.1))
    obtain ⟨q1, rfl⟩ := q
    cases (show (Sum.inr E : tq_R) = Sum.inr E1 from q1)
    subst e9
    exact tq_out rfl (hQ _ _ ⟨rfl, rfl⟩)
  · refine tq_calV (M := mX10_declare) (pc := 2) (S := []) tk_y_X10_needNode tk_v_X10_needNode tk_RX10_146 dX10_declare_2 [.int a1] rfl (S0 := _) rfl eu2 rfl (Nat.le_of_ble_eq_true rfl) (d1 := d - 1) (b1 := 0 + 0) (s1 := 0 + 0) (bc' := bc) (bs' := bs) (Q1 := fun r h9 => r = tq_enV ((.inr (), w3) : (String ⊕ Unit) × tq_H).1 ∧ ((.inr (), w3) : (String ⊕ Unit) × tq_H).2 = h9) (by omega) (by omega) (by omega) (w_X10_needNode (bc := 0) (bs := 0) (by omega) ev1 (fun E g z => by cases z) (fun _ _ q => q)) (fun E h9 q => nomatch (show (Sum.inr E : tq_R) = Sum.inl _ from q.1)) (fun r9 h9 q => ?_)
    obtain ⟨q1, rfl⟩ := q
    cases (show (Sum.inl r9 : tq_R) = Sum.inl (none) from q1)
    refine tq_aload_n (M := mX10_declare) (pc := 5) dX10_declare_5 rfl ?_
    refine tq_iload_n (M := mX10_declare) (pc := 6) dX10_declare_6 rfl ?_
    refine tq_iconst (M := mX10_declare) (pc := 7) dX10_declare_7 tk_ki_m1 ?_
    refine tq_iconst (M := mX10_declare) (pc := 8) dX10_declare_8 tk_ki_3 ?_
    obtain ⟨⟨⟩, eu5, hf⟩ := tq_be hf
    obtain ⟨fsu5, eu5⟩ := tq_is_s eu5
    rcases tq_te hf with ⟨E1, g1, ev4, e9⟩ | ⟨v4, w6, ev4, hf⟩
    · have hb9 := hb _ _ e9
      refine tq_calV (M := mX10_declare) (pc := 9) (S := []) tk_y_X10_needRange tk_v_X10_needRange tk_RX10_132 dX10_declare_9 [.int a2, .int (-1 : Int32), .int (3 : Int32)] rfl (S0 := _) rfl eu5 rfl (Nat.le_of_ble_eq_true rfl) (d1 := d - 1) (b1 := 0 + bc) (s1 := 0 + bs) (bc' := 0) (bs' := 0) (Q1 := fun r h9 => r = tq_enV ((.inl E1, g1) : (String ⊕ Unit) × tq_H).1 ∧ ((.inl E1, g1) : (String ⊕ Unit) × tq_H).2 = h9) (by omega) (by omega) (by omega) (w_X10_needRange (bc := bc) (bs := bs) (by omega) ev4 (fun _ _ _ => hb9) (fun _ _ q => q)) (fun E h9 q => ?_) (fun r9 h9 q => nomatch (show (Sum.inl r9 : tq_R) = Sum.inr E1 from q.1))
      obtain ⟨q1, rfl⟩ := q
      cases (show (Sum.inr E : tq_R) = Sum.inr E1 from q1)
      subst e9
      exact tq_out rfl (hQ _ _ ⟨rfl, rfl⟩)
    · refine tq_calV (M := mX10_declare) (pc := 9) (S := []) tk_y_X10_needRange tk_v_X10_needRange tk_RX10_132 dX10_declare_9 [.int a2, .int (-1 : Int32), .int (3 : Int32)] rfl (S0 := _) rfl eu5 rfl (Nat.le_of_ble_eq_true rfl) (d1 := d - 1) (b1 := 0 + 0) (s1 := 0 + 0) (bc' := bc) (bs' := bs) (Q1 := fun r h9 => r = tq_enV ((.inr (), w6) : (String ⊕ Unit) × tq_H).1 ∧ ((.inr (), w6) : (String ⊕ Unit) × tq_H).2 = h9) (by omega) (by omega) (by omega) (w_X10_needRange (bc := 0) (bs := 0) (by omega) ev4 (fun E g z => by cases z) (fun _ _ q => q)) (fun E h9 q => nomatch (show (Sum.inr E : tq_R) = Sum.inl _ from q.1)) (fun r9 h9 q => ?_)
      obtain ⟨q1, rfl⟩ := q
      cases (show (Sum.inl r9 : tq_R) = Sum.inl (none) from q1)
      refine tq_aload_n (M := mX10_declare) (pc := 12) dX10_declare_12 rfl ?_
      refine tq_iload_n (M := mX10_declare) (pc := 13) dX10_declare_13 rfl ?_
      obtain ⟨⟨⟩, eu8, hf⟩ := tq_be hf
      obtain ⟨fsu8, eu8⟩ := tq_is_s eu8
      rcases tq_te hf with ⟨E1, g1, ev7, e9⟩ | ⟨v7, w9, ev7, hf⟩
      · have hb9 := hb _ _ e9
        refine tq_calV (M := mX10_declare) (pc := 14) (S := []) tk_y_X10_needElement tk_v_X10_needElement tk_RX10_136 dX10_declare_14 [.int a1] rfl (S0 := _) rfl eu8 rfl (Nat.le_of_ble_eq_true rfl) (d1 := d - 1) (b1 := 0 + bc) (s1 := 0 + bs) (bc' := 0) (bs' := 0) (Q1 := fun r h9 => r = tq_enV ((.inl E1, g1) : (String ⊕ Unit) × tq_H).1 ∧ ((.inl E1, g1) : (String ⊕ Unit) × tq_H).2 = h9) (by omega) (by omega) (by omega) (w_X10_needElement (bc := bc) (bs := bs) (by omega) ev7 (fun _ _ _ => hb9) (fun _ _ q => q)) (fun E h9 q => ?_) (fun r9 h9 q => nomatch (show (Sum.inl r9 : tq_R) = Sum.inr E1 from q.1))
        obtain ⟨q1, rfl⟩ := q
        cases (show (Sum.inr E : tq_R) = Sum.inr E1 from q1)
        subst e9
        exact tq_out rfl (hQ _ _ ⟨rfl, rfl⟩)
      · refine tq_calV (M := mX10_declare) (pc := 14) (S := []) tk_y_X10_needElement tk_v_X10_needElement tk_RX10_136 dX10_declare_14 [.int a1] rfl (S0 := _) rfl eu8 rfl (Nat.le_of_ble_eq_true rfl) (d1 := d - 1) (b1 := 0 + 0) (s1 := 0 + 0) (bc' := bc) (bs' := bs) (Q1 := fun r h9 => r = tq_enV ((.inr (), w9) : (String ⊕ Unit) × tq_H).1 ∧ ((.inr (), w9) : (String ⊕ Unit) × tq_H).2 = h9) (by omega) (by omega) (by omega) (w_X10_needElement (bc := 0) (bs := 0) (by omega) ev7 (fun E g z => by cases z) (fun _ _ q => q)) (fun E h9 q => nomatch (show (Sum.inr E : tq_R) = Sum.inl _ from q.1)) (fun r9 h9 q => ?_)
        obtain ⟨q1, rfl⟩ := q
        cases (show (Sum.inl r9 : tq_R) = Sum.inl (none) from q1)
        refine tq_aload_n (M := mX10_declare) (pc := 17) dX10_declare_17 rfl ?_
        obtain ⟨⟨⟩, eu11, hf⟩ := tq_be hf
        obtain ⟨fsu11, eu11⟩ := tq_is_s eu11
        rcases tq_te hf with ⟨E1, g1, ev10, e9⟩ | ⟨v10, w12, ev10, hf⟩
        · have hb9 := hb _ _ e9
          refine tq_calV (M := mX10_declare) (pc := 18) (S := []) tk_y_X10_needRoom tk_v_X10_needRoom tk_RX10_139 dX10_declare_18 [] rfl (S0 := _) rfl eu11 rfl (Nat.le_of_ble_eq_true rfl) (d1 := d - 1) (b1 := 0 + bc) (s1 := 0 + bs) (bc' := 0) (bs' := 0) (Q1 := fun r h9 => r = tq_enV ((.inl E1, g1) : (String ⊕ Unit) × tq_H).1 ∧ ((.inl E1, g1) : (String ⊕ Unit) × tq_H).2 = h9) (by omega) (by omega) (by omega) (w_X10_needRoom (bc := bc) (bs := bs) (by omega) ev10 (fun _ _ _ => hb9) (fun _ _ q => q)) (fun E h9 q => ?_) (fun r9 h9 q => nomatch (show (Sum.inl r9 : tq_R) = Sum.inr E1 from q.1))
          obtain ⟨q1, rfl⟩ := q
          cases (show (Sum.inr E : tq_R) = Sum.inr E1 from q1)
          subst e9
          exact tq_out rfl (hQ _ _ ⟨rfl, rfl⟩)
        · refine tq_calV (M := mX10_declare) (pc := 18) (S := []) tk_y_X10_needRoom tk_v_X10_needRoom tk_RX10_139 dX10_declare_18 [] rfl (S0 := _) rfl eu11 rfl (Nat.le_of_ble_eq_true rfl) (d1 := d - 1) (b1 := 0 + 0) (s1 := 0 + 0) (bc' := bc) (bs' := bs) (Q1 := fun r h9 => r = tq_enV ((.inr (), w12) : (String ⊕ Unit) × tq_H).1 ∧ ((.inr (), w12) : (String ⊕ Unit) × tq_H).2 = h9) (by omega) (by omega) (by omega) (w_X10_needRoom (bc := 0) (bs := 0) (by omega) ev10 (fun E g z => by cases z) (fun _ _ q => q)) (fun E h9 q => nomatch (show (Sum.inr E : tq_R) = Sum.inl _ from q.1)) (fun r9 h9 q => ?_)
          obtain ⟨q1, rfl⟩ := q
          cases (show (Sum.inl r9 : tq_R) = Sum.inl (none) from q1)
          refine tq_aload_n (M := mX10_declare) (pc := 21) dX10_declare_21 rfl ?_
          obtain ⟨k13, ek13, hf⟩ := tq_be hf
          refine tq_getR (M := mX10_declare) (pc := 22) tk_c10 (by decide) dX10_declare_22 tk_RX10_22 rfl ek13 ?_
          refine tq_iconst (M := mX10_declare) (pc := 25) dX10_declare_25 tk_ki_5 ?_
          refine tq_iload_n (M := mX10_declare) (pc := 26) dX10_declare_26 rfl ?_
          refine tq_iload_n (M := mX10_declare) (pc := 27) dX10_declare_27 rfl ?_
          obtain ⟨⟨⟩, eu15, hf⟩ := tq_be hf
          obtain ⟨fsu15, eu15⟩ := tq_is_s eu15
          obtain ⟨v14, ev14, hf⟩ := tq_be hf
          refine tq_calV (M := mX10_declare) (pc := 28) (S := []) tk_y_X9_addChange tk_v_X9_addChange tk_RX10_156 dX10_declare_28 [.int (5 : Int32), .int a1, .int a2] rfl (S0 := _) rfl eu15 rfl (Nat.le_of_ble_eq_true rfl) (d1 := d - 1) (b1 := 0) (s1 := 0) (bc' := bc) (bs' := bs) (Q1 := fun r h9 => r = .inl (some (.int v14.1)) ∧ v14.2 = h9) (by omega) (by omega) (by omega) (w_X9_addChange (by omega) ev14 (fun _ _ q => q)) (fun E h9 q => nomatch (show (Sum.inr E : tq_R) = Sum.inl _ from q.1)) (fun r9 h9 q => ?_)
          obtain ⟨q1, rfl⟩ := q
          cases (show (Sum.inl r9 : tq_R) = Sum.inl (some (.int v14.1)) from q1)
          refine tq_iret (M := mX10_declare) (pc := 31) dX10_declare_31 rfl ?_
          cases (Option.some.inj hf)
          exact hQ _ _ ⟨rfl, rfl⟩
abbrev mX10_viewedNodes : tq_M := (RX10, cX10_viewedNodes, 2, (some .long), false, [], none)
def f_X10_viewedNodes (t : Nat) (a1 : Int32) (h : tq_H) : Option (Int64) :=
  (tq_gr h t 10 0).bind fun k1 =>
  (tq_gr h k1 8 0).bind fun k2 =>
  (tq_gr h t 10 4).bind fun k3 =>
  (tq_gr h t 10 8).bind fun k4 =>
  (tq_is h k4 5).bind fun _ =>
  (f_X5_get k4 a1 h).bind fun v5 =>
  (tq_is h k3 2).bind fun _ =>
  (f_X2_foundFrom k3 v5 (0 : Int32) h).bind fun v7 =>
  (tq_is h k2 3).bind fun _ =>
  (f_X3_nodesOf k2 v7 h).bind fun v9 =>
  some v9
set_option maxHeartbeats 4000000 in
set_option maxRecDepth 20000 in
theorem w_X10_viewedNodes {l : Launch} {d : Nat} (hd9 : 2 ≤ d) {t : Nat} {a1 : Int32} {h : tq_H} {o : Int64} {Q : tq_R → tq_H → Prop} (hf : f_X10_viewedNodes t a1 h = some o) (hQ : ∀ r h9, r = .inl (some (.long o)) ∧ h = h9 → Q r h9) : tq_C l yX10_viewedNodes cX10_viewedNodes 2 (some .long) d 0 0 [.ref t, .int a1] h Q := by
  refine tq_body (y := yX10_viewedNodes) false (by decide +kernel) (fun z => by cases z) (Nat.le_of_ble_eq_true rfl) ?_
  show tq_W l mX10_viewedNodes d 0 0 Q 0 [(0, .ref t), (1, .int a1)] [] h
  refine tq_aload_n (M := mX10_viewedNodes) (pc := 0) dX10_viewedNodes_0 rfl ?_
  obtain ⟨k1, ek1, hf⟩ := tq_be hf
  refine tq_getR (M := mX10_viewedNodes) (pc := 1) tk_c10 (by decide) dX10_viewedNodes_1 tk_RX10_12 rfl ek1 ?_
  obtain ⟨k2, ek2, hf⟩ := tq_be hf
  refine tq_getR (M := mX10_viewedNodes) (pc := 4) tk_c8 (by decide) dX10_viewedNodes_4 tk_RX10_115 rfl ek2 ?_
  refine tq_aload_n (M := mX10_viewedNodes) (pc := 7) dX10_viewedNodes_7 rfl ?_
  obtain ⟨k3, ek3, hf⟩ := tq_be hf
  refine tq_getR (M := mX10_viewedNodes) (pc := 8) tk_c10 (by decide) dX10_viewedNodes_8 tk_RX10_38 rfl ek3 ?_
  refine tq_aload_n (M := mX10_viewedNodes) (pc := 11) dX10_viewedNodes_11 rfl ?_
  obtain ⟨k4, ek4, hf⟩ := tq_be hf
  refine tq_getR (M := mX10_viewedNodes) (pc := 12) tk_c10 (by decide) dX10_viewedNodes_12 tk_RX10_61 rfl ek4 ?_
  refine tq_iload_n (M := mX10_viewedNodes) (pc := 15) dX10_viewedNodes_15 rfl ?_
  obtain ⟨⟨⟩, eu6, hf⟩ := tq_be hf
  obtain ⟨fsu6, eu6⟩ := tq_is_s eu6
  obtain ⟨v5, ev5, hf⟩ := tq_be hf
  refine tq_calV (M := mX10_viewedNodes) (pc := 16) (S := [.ref k3, .ref k2]) tk_y_X5_get tk_v_X5_get tk_RX10_162 dX10_viewedNodes_16 [.int a1] rfl (S0 := _) rfl eu6 rfl (Nat.le_of_ble_eq_true rfl) (d1 := d - 1) (b1 := 0) (s1 := 0) (bc' := 0) (bs' := 0) (Q1 := fun r h9 => r = .inl (some (.int v5)) ∧ h = h9) (by omega) rfl rfl (w_X5_get (by omega) ev5 (fun _ _ q => q)) (fun E h9 q => nomatch (show (Sum.inr E : tq_R) = Sum.inl _ from q.1)) (fun r9 h9 q => ?_)
  obtain ⟨q1, rfl⟩ := q
  cases (show (Sum.inl r9 : tq_R) = Sum.inl (some (.int v5)) from q1)
  refine tq_iconst (M := mX10_viewedNodes) (pc := 19) dX10_viewedNodes_19 tk_ki_0 ?_
  obtain ⟨⟨⟩, eu8, hf⟩ := tq_be hf
  obtain ⟨fsu8, eu8⟩ := tq_is_s eu8
  obtain ⟨v7, ev7, hf⟩ := tq_be hf
  refine tq_calV (M := mX10_viewedNodes) (pc := 20) (S := [.ref k2]) tk_y_X2_foundFrom tk_v_X2_foundFrom tk_RX10_305 dX10_viewedNodes_20 [.int v5, .int (0 : Int32)] rfl (S0 := _) rfl eu8 rfl (Nat.le_of_ble_eq_true rfl) (d1 := d - 1) (b1 := 0) (s1 := 0) (bc' := 0) (bs' := 0) (Q1 := fun r h9 => r = .inl (some (.long v7)) ∧ h = h9) (by omega) rfl rfl (w_X2_foundFrom (by omega) ev7 (fun _ _ q => q)) (fun E h9 q => nomatch (show (Sum.inr E : tq_R) = Sum.inl _ from q.1)) (fun r9 h9 q => ?_)
  obtain ⟨q1, rfl⟩ := q
  cases (show (Sum.inl r9 : tq_R) = Sum.inl (some (.long v7)) from q1)
  obtain ⟨⟨⟩, eu10, hf⟩ := tq_be hf
  obtain ⟨fsu10, eu10⟩ := tq_is_s eu10
  obtain ⟨v9, ev9, hf⟩ := tq_be hf
  refine tq_calV (M := mX10_viewedNodes) (pc := 23) (S := []) tk_y_X3_nodesOf tk_v_X3_nodesOf tk_RX10_494 dX10_viewedNodes_23 [.long v7] rfl (S0 := _) rfl eu10 rfl (Nat.le_of_ble_eq_true rfl) (d1 := d - 1) (b1 := 0) (s1 := 0) (bc' := 0) (bs' := 0) (Q1 := fun r h9 => r = .inl (some (.long v9)) ∧ h = h9) (by omega) rfl rfl (w_X3_nodesOf (by omega) ev9 (fun _ _ q => q)) (fun E h9 q => nomatch (show (Sum.inr E : tq_R) = Sum.inl _ from q.1)) (fun r9 h9 q => ?_)
  obtain ⟨q1, rfl⟩ := q
  cases (show (Sum.inl r9 : tq_R) = Sum.inl (some (.long v9)) from q1)
  refine tq_lret (M := mX10_viewedNodes) (pc := 26) dX10_viewedNodes_26 rfl ?_
  cases (Option.some.inj hf)
  exact hQ _ _ ⟨rfl, rfl⟩
abbrev mX10_settle : tq_M := (RX10, cX10_settle, 2, none, false, [], none)
def f_X10_settle_b2 (i0 : Nat) (s : Int32 × tq_H) : Option ((Int32 × tq_H) ⊕ (tq_H)) := match s with
  | (y1, hh) =>
    (tq_gi hh i0 10 13).bind fun x1 =>
    if y1 ≥ x1 then
      some (.inr hh)
    else
      (tq_gr hh i0 10 4).bind fun k2 =>
      (tq_gr hh i0 10 8).bind fun k3 =>
      (tq_is hh k3 5).bind fun _ =>
      (f_X5_get k3 y1 hh).bind fun v4 =>
      (tq_is hh k2 2).bind fun _ =>
      (f_X2_prepare k2 v4 hh).bind fun v6 =>
      (tq_gr v6 i0 10 10).bind fun k8 =>
      (tq_is v6 i0 10).bind fun _ =>
      (f_X10_viewedNodes i0 y1 v6).bind fun v9 =>
      (tq_is v6 k8 7).bind fun _ =>
      (f_X7_set k8 y1 v9 v6).bind fun v11 =>
      tq_let (y1 + (1 : Int32)) fun x13 =>
      some (.inl (x13, v11))
def f_X10_settle_b79 (i0 : Nat) (s : Int32 × tq_H) : Option ((Int32 × tq_H) ⊕ (tq_H)) := match s with
  | (y1, hh) =>
    (tq_gi hh i0 10 13).bind fun x27 =>
    if y1 ≥ x27 then
      some (.inr hh)
    else
      (tq_gr hh i0 10 4).bind fun k28 =>
      (tq_gr hh i0 10 8).bind fun k29 =>
      (tq_is hh k29 5).bind fun _ =>
      (f_X5_get k29 y1 hh).bind fun v30 =>
      (tq_is hh k28 2).bind fun _ =>
      (f_X2_prepare k28 v30 hh).bind fun v32 =>
      (tq_gr v32 i0 10 9).bind fun k34 =>
      (tq_gr v32 i0 10 10).bind fun k35 =>
      (tq_is v32 k35 7).bind fun _ =>
      (f_X7_get k35 y1 v32).bind fun v36 =>
      (tq_is v32 i0 10).bind fun _ =>
      (f_X10_viewedNodes i0 y1 v32).bind fun v38 =>
      (f_J13_bitCount_95d88 (v36 ^^^ v38) v32).bind fun v40 =>
      (tq_is v32 k34 5).bind fun _ =>
      (f_X5_set k34 y1 v40 v32).bind fun v41 =>
      tq_let (y1 + (1 : Int32)) fun x43 =>
      some (.inl (x43, v41))
def f_X10_settle (t : Nat) (h : tq_H) : Option (tq_H) :=
  (tq_loop (f_X10_settle_b2 t) tq_N ((0 : Int32), h)).bind fun o14 =>
  (tq_gr o14 t 10 0).bind fun k15 =>
  (tq_gr o14 t 10 1).bind fun k16 =>
  (tq_is o14 k15 8).bind fun _ =>
  (f_X8_copy k15 k16 o14).bind fun v17 =>
  (tq_gr v17 t 10 4).bind fun k19 =>
  (tq_gr v17 t 10 0).bind fun k20 =>
  (tq_gr v17 k20 8 0).bind fun k21 =>
  (tq_is v17 k21 3).bind fun _ =>
  (f_X3_everything k21 v17).bind fun v22 =>
  (tq_is v17 k19 2).bind fun _ =>
  (f_X2_start k19 v22 v17).bind fun v24 =>
  (tq_pf v24 t 10 18 (.int (1 : Int32))).bind fun w26 =>
  (tq_loop (f_X10_settle_b79 t) tq_N ((0 : Int32), w26)).bind fun o44 =>
  some o44
set_option maxHeartbeats 4000000 in
theorem l_X10_settle_2 {l : Launch} {d : Nat} {Q : tq_R → tq_H → Prop} {bc bs : Nat} (hd9 : 6 ≤ d) (i0 : Nat) : ∀ (n : Nat) (y1 : Int32) (hh : tq_H) (o : tq_H), tq_loop (f_X10_settle_b2 i0) n (y1, hh) = some o → tq_W l mX10_settle d bc bs Q 44 [(0, .ref i0)] [] o → tq_W l mX10_settle d bc bs Q 2 [(0, .ref i0), (1, .int y1)] [] hh := by
  intro n
  induction n with
  | zero => intro y1 hh o hl; cases hl
  | succ n ih =>
    intro y1 hh o hl hk
    obtain ⟨oo, hf, ho⟩ := tq_loop_s hl
    refine tq_iload_n (M := mX10_settle) (pc := 2) dX10_settle_2 rfl ?_
    refine tq_aload_n (M := mX10_settle) (pc := 3) dX10_settle_3 rfl ?_
    obtain ⟨x1, ex1, hf⟩ := tq_be hf
    refine tq_getI (M := mX10_settle) (pc := 4) tk_c10 (by decide) dX10_settle_4 tk_RX10_85 rfl ex1 ?_
    refine tq_icmp_ge (M := mX10_settle) (pc := 7) (tgt := 44) dX10_settle_7 (by decide) (fun cc => ?_) (fun cc => ?_)
    · have hf := tq_ifp hf cc
      refine tq_pick (L2 := [(0, .ref i0)]) [0] rfl ?_
      cases (Option.some.inj hf)
      cases (tq_lx ho)
      exact hk
    · have hf := tq_ifn hf cc
      refine tq_aload_n (M := mX10_settle) (pc := 10) dX10_settle_10 rfl ?_
      obtain ⟨k2, ek2, hf⟩ := tq_be hf
      refine tq_getR (M := mX10_settle) (pc := 11) tk_c10 (by decide) dX10_settle_11 tk_RX10_38 rfl ek2 ?_
      refine tq_aload_n (M := mX10_settle) (pc := 14) dX10_settle_14 rfl ?_
      obtain ⟨k3, ek3, hf⟩ := tq_be hf
      refine tq_getR (M := mX10_settle) (pc := 15) tk_c10 (by decide) dX10_settle_15 tk_RX10_61 rfl ek3 ?_
      refine tq_iload_n (M := mX10_settle) (pc := 18) dX10_settle_18 rfl ?_
      obtain ⟨⟨⟩, eu5, hf⟩ := tq_be hf
      obtain ⟨fsu5, eu5⟩ := tq_is_s eu5
      obtain ⟨v4, ev4, hf⟩ := tq_be hf
      refine tq_calV (M := mX10_settle) (pc := 19) (S := [.ref k2]) tk_y_X5_get tk_v_X5_get tk_RX10_162 dX10_settle_19 [.int y1] rfl (S0 := _) rfl eu5 rfl (Nat.le_of_ble_eq_true rfl) (d1 := d - 1) (b1 := 0) (s1 := 0) (bc' := bc) (bs' := bs) (Q1 := fun r h9 => r = .inl (some (.int v4)) ∧ hh = h9) (by omega) (by omega) (by omega) (w_X5_get (by omega) ev4 (fun _ _ q => q)) (fun E h9 q => nomatch (show (Sum.inr E : tq_R) = Sum.inl _ from q.1)) (fun r9 h9 q => ?_)
      obtain ⟨q1, rfl⟩ := q
      cases (show (Sum.inl r9 : tq_R) = Sum.inl (some (.int v4)) from q1)
      obtain ⟨⟨⟩, eu7, hf⟩ := tq_be hf
      obtain ⟨fsu7, eu7⟩ := tq_is_s eu7
      obtain ⟨v6, ev6, hf⟩ := tq_be hf
      refine tq_calV (M := mX10_settle) (pc := 22) (S := []) tk_y_X2_prepare tk_v_X2_prepare tk_RX10_302 dX10_settle_22 [.int v4] rfl (S0 := _) rfl eu7 rfl (Nat.le_of_ble_eq_true rfl) (d1 := d - 1) (b1 := 0) (s1 := 0) (bc' := bc) (bs' := bs) (Q1 := fun r h9 => r = .inl none ∧ v6 = h9) (by omega) (by omega) (by omega) (w_X2_prepare (by omega) ev6 (fun _ _ q => q)) (fun E h9 q => nomatch (show (Sum.inr E : tq_R) = Sum.inl _ from q.1)) (fun r9 h9 q => ?_)
      obtain ⟨q1, rfl⟩ := q
      cases (show (Sum.inl r9 : tq_R) = Sum.inl (none) from q1)
      refine tq_aload_n (M := mX10_settle) (pc := 25) dX10_settle_25 rfl ?_
      obtain ⟨k8, ek8, hf⟩ := tq_be hf
      refine tq_getR (M := mX10_settle) (pc := 26) tk_c10 (by decide) dX10_settle_26 tk_RX10_73 rfl ek8 ?_
      refine tq_iload_n (M := mX10_settle) (pc := 29) dX10_settle_29 rfl ?_
      refine tq_aload_n (M := mX10_settle) (pc := 30) dX10_settle_30 rfl ?_
      refine tq_iload_n (M := mX10_settle) (pc := 31) dX10_settle_31 rfl ?_
      obtain ⟨⟨⟩, eu10, hf⟩ := tq_be hf
      obtain ⟨fsu10, eu10⟩ := tq_is_s eu10
      obtain ⟨v9, ev9, hf⟩ := tq_be hf
      refine tq_calV (M := mX10_settle) (pc := 32) (S := [.int y1, .ref k8]) tk_y_X10_viewedNodes tk_v_X10_viewedNodes tk_RX10_486 dX10_settle_32 [.int y1] rfl (S0 := _) rfl eu10 rfl (Nat.le_of_ble_eq_true rfl) (d1 := d - 1) (b1 := 0) (s1 := 0) (bc' := bc) (bs' := bs) (Q1 := fun r h9 => r = .inl (some (.long v9)) ∧ v6 = h9) (by omega) (by omega) (by omega) (w_X10_viewedNodes (by omega) ev9 (fun _ _ q => q)) (fun E h9 q => nomatch (show (Sum.inr E : tq_R) = Sum.inl _ from q.1)) (fun r9 h9 q => ?_)
      obtain ⟨q1, rfl⟩ := q
      cases (show (Sum.inl r9 : tq_R) = Sum.inl (some (.long v9)) from q1)
      obtain ⟨⟨⟩, eu12, hf⟩ := tq_be hf
      obtain ⟨fsu12, eu12⟩ := tq_is_s eu12
      obtain ⟨v11, ev11, hf⟩ := tq_be hf
      refine tq_calV (M := mX10_settle) (pc := 35) (S := []) tk_y_X7_set tk_v_X7_set tk_RX10_489 dX10_settle_35 [.int y1, .long v9] rfl (S0 := _) rfl eu12 rfl (Nat.le_of_ble_eq_true rfl) (d1 := d - 1) (b1 := 0) (s1 := 0) (bc' := bc) (bs' := bs) (Q1 := fun r h9 => r = .inl none ∧ v11 = h9) (by omega) (by omega) (by omega) (w_X7_set (by omega) ev11 (fun _ _ q => q)) (fun E h9 q => nomatch (show (Sum.inr E : tq_R) = Sum.inl _ from q.1)) (fun r9 h9 q => ?_)
      obtain ⟨q1, rfl⟩ := q
      cases (show (Sum.inl r9 : tq_R) = Sum.inl (none) from q1)
      obtain ⟨x13, ex13, hf⟩ := tq_le hf
      refine tq_iinc (M := mX10_settle) (pc := 38) (v := x13) (L2 := [(1, .int x13), (0, .ref i0)]) dX10_settle_38 rfl (by rw [ex13, tk_ki_1]) (by decide) rfl ?_
      refine tq_goto (M := mX10_settle) (pc := 41) (tgt := 2) dX10_settle_41 (by decide) ?_
      refine tq_pick (L2 := [(0, .ref i0), (1, .int x13)]) [1, 0] rfl ?_
      cases (Option.some.inj hf)
      exact ih _ _ o (tq_lc ho) hk
set_option maxHeartbeats 4000000 in
theorem l_X10_settle_79 {l : Launch} {d : Nat} {Q : tq_R → tq_H → Prop} {bc bs : Nat} (hd9 : 6 ≤ d) (i0 : Nat) : ∀ (n : Nat) (y1 : Int32) (hh : tq_H) (o : tq_H), tq_loop (f_X10_settle_b79 i0) n (y1, hh) = some o → tq_W l mX10_settle d bc bs Q 133 [] [] o → tq_W l mX10_settle d bc bs Q 79 [(0, .ref i0), (1, .int y1)] [] hh := by
  intro n
  induction n with
  | zero => intro y1 hh o hl; cases hl
  | succ n ih =>
    intro y1 hh o hl hk
    obtain ⟨oo, hf, ho⟩ := tq_loop_s hl
    refine tq_iload_n (M := mX10_settle) (pc := 79) dX10_settle_79 rfl ?_
    refine tq_aload_n (M := mX10_settle) (pc := 80) dX10_settle_80 rfl ?_
    obtain ⟨x27, ex27, hf⟩ := tq_be hf
    refine tq_getI (M := mX10_settle) (pc := 81) tk_c10 (by decide) dX10_settle_81 tk_RX10_85 rfl ex27 ?_
    refine tq_icmp_ge (M := mX10_settle) (pc := 84) (tgt := 133) dX10_settle_84 (by decide) (fun cc => ?_) (fun cc => ?_)
    · have hf := tq_ifp hf cc
      refine tq_pick (L2 := []) [] rfl ?_
      cases (Option.some.inj hf)
      cases (tq_lx ho)
      exact hk
    · have hf := tq_ifn hf cc
      refine tq_aload_n (M := mX10_settle) (pc := 87) dX10_settle_87 rfl ?_
      obtain ⟨k28, ek28, hf⟩ := tq_be hf
      refine tq_getR (M := mX10_settle) (pc := 88) tk_c10 (by decide) dX10_settle_88 tk_RX10_38 rfl ek28 ?_
      refine tq_aload_n (M := mX10_settle) (pc := 91) dX10_settle_91 rfl ?_
      obtain ⟨k29, ek29, hf⟩ := tq_be hf
      refine tq_getR (M := mX10_settle) (pc := 92) tk_c10 (by decide) dX10_settle_92 tk_RX10_61 rfl ek29 ?_
      refine tq_iload_n (M := mX10_settle) (pc := 95) dX10_settle_95 rfl ?_
      obtain ⟨⟨⟩, eu31, hf⟩ := tq_be hf
      obtain ⟨fsu31, eu31⟩ := tq_is_s eu31
      obtain ⟨v30, ev30, hf⟩ := tq_be hf
      refine tq_calV (M := mX10_settle) (pc := 96) (S := [.ref k28]) tk_y_X5_get tk_v_X5_get tk_RX10_162 dX10_settle_96 [.int y1] rfl (S0 := _) rfl eu31 rfl (Nat.le_of_ble_eq_true rfl) (d1 := d - 1) (b1 := 0) (s1 := 0) (bc' := bc) (bs' := bs) (Q1 := fun r h9 => r = .inl (some (.int v30)) ∧ hh = h9) (by omega) (by omega) (by omega) (w_X5_get (by omega) ev30 (fun _ _ q => q)) (fun E h9 q => nomatch (show (Sum.inr E : tq_R) = Sum.inl _ from q.1)) (fun r9 h9 q => ?_)
      obtain ⟨q1, rfl⟩ := q
      cases (show (Sum.inl r9 : tq_R) = Sum.inl (some (.int v30)) from q1)
      obtain ⟨⟨⟩, eu33, hf⟩ := tq_be hf
      obtain ⟨fsu33, eu33⟩ := tq_is_s eu33
      obtain ⟨v32, ev32, hf⟩ := tq_be hf
      refine tq_calV (M := mX10_settle) (pc := 99) (S := []) tk_y_X2_prepare tk_v_X2_prepare tk_RX10_302 dX10_settle_99 [.int v30] rfl (S0 := _) rfl eu33 rfl (Nat.le_of_ble_eq_true rfl) (d1 := d - 1) (b1 := 0) (s1 := 0) (bc' := bc) (bs' := bs) (Q1 := fun r h9 => r = .inl none ∧ v32 = h9) (by omega) (by omega) (by omega) (w_X2_prepare (by omega) ev32 (fun _ _ q => q)) (fun E h9 q => nomatch (show (Sum.inr E : tq_R) = Sum.inl _ from q.1)) (fun r9 h9 q => ?_)
      obtain ⟨q1, rfl⟩ := q
      cases (show (Sum.inl r9 : tq_R) = Sum.inl (none) from q1)
      refine tq_aload_n (M := mX10_settle) (pc := 102) dX10_settle_102 rfl ?_
      obtain ⟨k34, ek34, hf⟩ := tq_be hf
      refine tq_getR (M := mX10_settle) (pc := 103) tk_c10 (by decide) dX10_settle_103 tk_RX10_65 rfl ek34 ?_
      refine tq_iload_n (M := mX10_settle) (pc := 106) dX10_settle_106 rfl ?_
      refine tq_aload_n (M := mX10_settle) (pc := 107) dX10_settle_107 rfl ?_
      obtain ⟨k35, ek35, hf⟩ := tq_be hf
      refine tq_getR (M := mX10_settle) (pc := 108) tk_c10 (by decide) dX10_settle_108 tk_RX10_73 rfl ek35 ?_
      refine tq_iload_n (M := mX10_settle) (pc := 111) dX10_settle_111 rfl ?_
      obtain ⟨⟨⟩, eu37, hf⟩ := tq_be hf
      obtain ⟨fsu37, eu37⟩ := tq_is_s eu37
      obtain ⟨v36, ev36, hf⟩ := tq_be hf
      refine tq_calV (M := mX10_settle) (pc := 112) (S := [.int y1, .ref k34]) tk_y_X7_get tk_v_X7_get tk_RX10_492 dX10_settle_112 [.int y1] rfl (S0 := _) rfl eu37 rfl (Nat.le_of_ble_eq_true rfl) (d1 := d - 1) (b1 := 0) (s1 := 0) (bc' := bc) (bs' := bs) (Q1 := fun r h9 => r = .inl (some (.long v36)) ∧ v32 = h9) (by omega) (by omega) (by omega) (w_X7_get (by omega) ev36 (fun _ _ q => q)) (fun E h9 q => nomatch (show (Sum.inr E : tq_R) = Sum.inl _ from q.1)) (fun r9 h9 q => ?_)
      obtain ⟨q1, rfl⟩ := q
      cases (show (Sum.inl r9 : tq_R) = Sum.inl (some (.long v36)) from q1)
      refine tq_aload_n (M := mX10_settle) (pc := 115) dX10_settle_115 rfl ?_
      refine tq_iload_n (M := mX10_settle) (pc := 116) dX10_settle_116 rfl ?_
      obtain ⟨⟨⟩, eu39, hf⟩ := tq_be hf
      obtain ⟨fsu39, eu39⟩ := tq_is_s eu39
      obtain ⟨v38, ev38, hf⟩ := tq_be hf
      refine tq_calV (M := mX10_settle) (pc := 117) (S := [.long v36, .int y1, .ref k34]) tk_y_X10_viewedNodes tk_v_X10_viewedNodes tk_RX10_486 dX10_settle_117 [.int y1] rfl (S0 := _) rfl eu39 rfl (Nat.le_of_ble_eq_true rfl) (d1 := d - 1) (b1 := 0) (s1 := 0) (bc' := bc) (bs' := bs) (Q1 := fun r h9 => r = .inl (some (.long v38)) ∧ v32 = h9) (by omega) (by omega) (by omega) (w_X10_viewedNodes (by omega) ev38 (fun _ _ q => q)) (fun E h9 q => nomatch (show (Sum.inr E : tq_R) = Sum.inl _ from q.1)) (fun r9 h9 q => ?_)
      obtain ⟨q1, rfl⟩ := q
      cases (show (Sum.inl r9 : tq_R) = Sum.inl (some (.long v38)) from q1)
      refine tq_lxor (M := mX10_settle) (pc := 120) dX10_settle_120 ?_
      obtain ⟨v40, ev40, hf⟩ := tq_be hf
      refine tq_calS (M := mX10_settle) (pc := 121) (S := [.int y1, .ref k34]) tk_y_J13_bitCount_95d88 tk_s_J13_bitCount_95d88 tk_RX10_309 dX10_settle_121 [.long ((v36 ^^^ v38))] rfl (Nat.le_of_ble_eq_true rfl) (d1 := d - 1) (b1 := 0) (s1 := 0) (bc' := bc) (bs' := bs) (Q1 := fun r h9 => r = .inl (some (.int v40)) ∧ v32 = h9) (by omega) (by omega) (by omega) (w_J13_bitCount_95d88 (by omega) ev40 (fun _ _ q => q)) (fun E h9 q => nomatch (show (Sum.inr E : tq_R) = Sum.inl _ from q.1)) (fun r9 h9 q => ?_)
      obtain ⟨q1, rfl⟩ := q
      cases (show (Sum.inl r9 : tq_R) = Sum.inl (some (.int v40)) from q1)
      obtain ⟨⟨⟩, eu42, hf⟩ := tq_be hf
      obtain ⟨fsu42, eu42⟩ := tq_is_s eu42
      obtain ⟨v41, ev41, hf⟩ := tq_be hf
      refine tq_calV (M := mX10_settle) (pc := 124) (S := []) tk_y_X5_set tk_v_X5_set tk_RX10_392 dX10_settle_124 [.int y1, .int v40] rfl (S0 := _) rfl eu42 rfl (Nat.le_of_ble_eq_true rfl) (d1 := d - 1) (b1 := 0) (s1 := 0) (bc' := bc) (bs' := bs) (Q1 := fun r h9 => r = .inl none ∧ v41 = h9) (by omega) (by omega) (by omega) (w_X5_set (by omega) ev41 (fun _ _ q => q)) (fun E h9 q => nomatch (show (Sum.inr E : tq_R) = Sum.inl _ from q.1)) (fun r9 h9 q => ?_)
      obtain ⟨q1, rfl⟩ := q
      cases (show (Sum.inl r9 : tq_R) = Sum.inl (none) from q1)
      obtain ⟨x43, ex43, hf⟩ := tq_le hf
      refine tq_iinc (M := mX10_settle) (pc := 127) (v := x43) (L2 := [(1, .int x43), (0, .ref i0)]) dX10_settle_127 rfl (by rw [ex43, tk_ki_1]) (by decide) rfl ?_
      refine tq_goto (M := mX10_settle) (pc := 130) (tgt := 79) dX10_settle_130 (by decide) ?_
      refine tq_pick (L2 := [(0, .ref i0), (1, .int x43)]) [1, 0] rfl ?_
      cases (Option.some.inj hf)
      exact ih _ _ o (tq_lc ho) hk
set_option maxHeartbeats 4000000 in
set_option maxRecDepth 20000 in
theorem w_X10_settle {l : Launch} {d : Nat} (hd9 : 6 ≤ d) {t : Nat} {h : tq_H} {o : tq_H} {Q : tq_R → tq_H → Prop} (hf : f_X10_settle t h = some o) (hQ : ∀ r h9, r = .inl none ∧ o = h9 → Q r h9) : tq_C l yX10_settle cX10_settle 2 none d 0 0 [.ref t] h Q := by
  refine tq_body (y := yX10_settle) false (by decide +kernel) (fun z => by cases z) (Nat.le_of_ble_eq_true rfl) ?_
  show tq_W l mX10_settle d 0 0 Q 0 [(0, .ref t)] [] h
  refine tq_iconst (M := mX10_settle) (pc := 0) dX10_settle_0 tk_ki_0 ?_
  refine tq_istore_n (M := mX10_settle) (pc := 1) rfl dX10_settle_1 (L2 := [(1, .int (0 : Int32)), (0, .ref t)]) (by decide) rfl ?_
  obtain ⟨o14, eo14, hf⟩ := tq_be hf
  refine tq_pick (L2 := [(0, .ref t), (1, .int (0 : Int32))]) [1, 0] rfl ?_
  refine l_X10_settle_2 (bc := 0) (bs := 0) (by omega) t _ (0 : Int32) h _ eo14 ?_
  refine tq_aload_n (M := mX10_settle) (pc := 44) dX10_settle_44 rfl ?_
  obtain ⟨k15, ek15, hf⟩ := tq_be hf
  refine tq_getR (M := mX10_settle) (pc := 45) tk_c10 (by decide) dX10_settle_45 tk_RX10_12 rfl ek15 ?_
  refine tq_aload_n (M := mX10_settle) (pc := 48) dX10_settle_48 rfl ?_
  obtain ⟨k16, ek16, hf⟩ := tq_be hf
  refine tq_getR (M := mX10_settle) (pc := 49) tk_c10 (by decide) dX10_settle_49 tk_RX10_16 rfl ek16 ?_
  obtain ⟨⟨⟩, eu18, hf⟩ := tq_be hf
  obtain ⟨fsu18, eu18⟩ := tq_is_s eu18
  obtain ⟨v17, ev17, hf⟩ := tq_be hf
  refine tq_calV (M := mX10_settle) (pc := 52) (S := []) tk_y_X8_copy tk_v_X8_copy tk_RX10_403 dX10_settle_52 [.ref k16] rfl (S0 := _) rfl eu18 rfl (Nat.le_of_ble_eq_true rfl) (d1 := d - 1) (b1 := 0) (s1 := 0) (bc' := 0) (bs' := 0) (Q1 := fun r h9 => r = .inl none ∧ v17 = h9) (by omega) rfl rfl (w_X8_copy (by omega) ev17 (fun _ _ q => q)) (fun E h9 q => nomatch (show (Sum.inr E : tq_R) = Sum.inl _ from q.1)) (fun r9 h9 q => ?_)
  obtain ⟨q1, rfl⟩ := q
  cases (show (Sum.inl r9 : tq_R) = Sum.inl (none) from q1)
  refine tq_aload_n (M := mX10_settle) (pc := 55) dX10_settle_55 rfl ?_
  obtain ⟨k19, ek19, hf⟩ := tq_be hf
  refine tq_getR (M := mX10_settle) (pc := 56) tk_c10 (by decide) dX10_settle_56 tk_RX10_38 rfl ek19 ?_
  refine tq_aload_n (M := mX10_settle) (pc := 59) dX10_settle_59 rfl ?_
  obtain ⟨k20, ek20, hf⟩ := tq_be hf
  refine tq_getR (M := mX10_settle) (pc := 60) tk_c10 (by decide) dX10_settle_60 tk_RX10_12 rfl ek20 ?_
  obtain ⟨k21, ek21, hf⟩ := tq_be hf
  refine tq_getR (M := mX10_settle) (pc := 63) tk_c8 (by decide) dX10_settle_63 tk_RX10_115 rfl ek21 ?_
  obtain ⟨⟨⟩, eu23, hf⟩ := tq_be hf
  obtain ⟨fsu23, eu23⟩ := tq_is_s eu23
  obtain ⟨v22, ev22, hf⟩ := tq_be hf
  refine tq_calV (M := mX10_settle) (pc := 66) (S := [.ref k19]) tk_y_X3_everything tk_v_X3_everything tk_RX10_119 dX10_settle_66 [] rfl (S0 := _) rfl eu23 rfl (Nat.le_of_ble_eq_true rfl) (d1 := d - 1) (b1 := 0) (s1 := 0) (bc' := 0) (bs' := 0) (Q1 := fun r h9 => r = .inl (some (.long v22)) ∧ v17 = h9) (by omega) rfl rfl (w_X3_everything (by omega) ev22 (fun _ _ q => q)) (fun E h9 q => nomatch (show (Sum.inr E : tq_R) = Sum.inl _ from q.1)) (fun r9 h9 q => ?_)
  obtain ⟨q1, rfl⟩ := q
  cases (show (Sum.inl r9 : tq_R) = Sum.inl (some (.long v22)) from q1)
  obtain ⟨⟨⟩, eu25, hf⟩ := tq_be hf
  obtain ⟨fsu25, eu25⟩ := tq_is_s eu25
  obtain ⟨v24, ev24, hf⟩ := tq_be hf
  refine tq_calV (M := mX10_settle) (pc := 69) (S := []) tk_y_X2_start tk_v_X2_start tk_RX10_125 dX10_settle_69 [.long v22] rfl (S0 := _) rfl eu25 rfl (Nat.le_of_ble_eq_true rfl) (d1 := d - 1) (b1 := 0) (s1 := 0) (bc' := 0) (bs' := 0) (Q1 := fun r h9 => r = .inl none ∧ v24 = h9) (by omega) rfl rfl (w_X2_start (by omega) ev24 (fun _ _ q => q)) (fun E h9 q => nomatch (show (Sum.inr E : tq_R) = Sum.inl _ from q.1)) (fun r9 h9 q => ?_)
  obtain ⟨q1, rfl⟩ := q
  cases (show (Sum.inl r9 : tq_R) = Sum.inl (none) from q1)
  refine tq_aload_n (M := mX10_settle) (pc := 72) dX10_settle_72 rfl ?_
  refine tq_iconst (M := mX10_settle) (pc := 73) dX10_settle_73 tk_ki_1 ?_
  obtain ⟨w26, ew26, hf⟩ := tq_be hf
  refine tq_putv (M := mX10_settle) (pc := 74) tk_c10 (by decide) dX10_settle_74 tk_RX10_102 rfl (Or.inl rfl) ew26 (tq_n01 (Or.inr rfl)) ?_
  refine tq_iconst (M := mX10_settle) (pc := 77) dX10_settle_77 tk_ki_0 ?_
  refine tq_istore_n (M := mX10_settle) (pc := 78) rfl dX10_settle_78 (L2 := [(1, .int (0 : Int32)), (0, .ref t)]) (by decide) rfl ?_
  obtain ⟨o44, eo44, hf⟩ := tq_be hf
  refine tq_pick (L2 := [(0, .ref t), (1, .int (0 : Int32))]) [1, 0] rfl ?_
  refine l_X10_settle_79 (bc := 0) (bs := 0) (by omega) t _ (0 : Int32) w26 _ eo44 ?_
  refine tq_vret (M := mX10_settle) (pc := 133) dX10_settle_133 rfl ?_
  cases (Option.some.inj hf)
  exact hQ _ _ ⟨rfl, rfl⟩
abbrev mX10_apply : tq_M := (RX10, cX10_apply, 1, (some .int), false, [], none)
def f_X10_apply (t : Nat) (h : tq_H) : Option ((String ⊕ Int32) × tq_H) :=
  (tq_gr h t 10 2).bind fun k1 =>
  (tq_gr h t 10 0).bind fun k2 =>
  (tq_is h k1 9).bind fun _ =>
  (f_X9_canBeDone k1 k2 h).bind fun v3 =>
  if v3 = 0 then
    some (.inl "java/lang/IllegalStateException", h)
  else
    (tq_gr h t 10 2).bind fun k5 =>
    (tq_gr h t 10 0).bind fun k6 =>
    (tq_gr h t 10 1).bind fun k7 =>
    (tq_is h k5 9).bind fun _ =>
    (f_X9_build k5 k6 k7 h).bind fun v8 =>
    (tq_gr v8 t 10 1).bind fun k10 =>
    (tq_is v8 k10 8).bind fun _ =>
    (f_X8_isTangled k10 v8).bind fun v11 =>
    if v11 = 0 then
      (tq_gr v8 t 10 1).bind fun k13 =>
      (tq_is v8 k13 8).bind fun _ =>
      (f_X8_hasTwins k13 v8).bind fun v14 =>
      if v14 = 0 then
        (tq_gr v8 t 10 6).bind fun k16 =>
        (tq_is v8 k16 6).bind fun _ =>
        (f_X6_isStrict k16 v8).bind fun v17 =>
        if v17 = 0 then
          (tq_gr v8 t 10 1).bind fun k19 =>
          (tq_gr v8 t 10 2).bind fun k20 =>
          (tq_is v8 k20 9).bind fun _ =>
          (f_X9_fresh k20 v8).bind fun v21 =>
          (tq_is v8 k19 8).bind fun _ =>
          (f_X8_numberFresh k19 v21 v8).bind fun v23 =>
          (if v23.1 = 0 then
            (tq_gr v23.2 t 10 1).bind fun k25 =>
            (tq_is v23.2 k25 8).bind fun _ =>
            (f_X8_numberAnew k25 v23.2).bind fun v26 =>
            (tq_gi v26 t 10 14).bind fun x28 =>
            (tq_pf v26 t 10 14 (.int ((x28 + (1 : Int32))))).bind fun w29 =>
            some w29
          else
            some v23.2).bind fun p30 =>
          (tq_is p30 t 10).bind fun _ =>
          (f_X10_settle t p30).bind fun v31 =>
          (tq_gr v31 t 10 2).bind fun k33 =>
          (tq_is v31 k33 9).bind fun _ =>
          (f_X9_empty k33 v31).bind fun v34 =>
          (tq_gr v34.2 t 10 0).bind fun k36 =>
          (tq_gr v34.2 k36 8 0).bind fun k37 =>
          (tq_is v34.2 k37 3).bind fun _ =>
          (f_X3_count k37 v34.2).bind fun v38 =>
          some (.inr v38, v34.2)
        else
          (tq_gr v8 t 10 6).bind fun k40 =>
          (tq_gr v8 t 10 1).bind fun k41 =>
          (tq_is v8 k40 6).bind fun _ =>
          (f_X6_admits k40 k41 v8).bind fun v42 =>
          if v42.1 = 0 then
            some (.inl "java/lang/IllegalStateException", v42.2)
          else
            (tq_gr v42.2 t 10 1).bind fun k44 =>
            (tq_gr v42.2 t 10 2).bind fun k45 =>
            (tq_is v42.2 k45 9).bind fun _ =>
            (f_X9_fresh k45 v42.2).bind fun v46 =>
            (tq_is v42.2 k44 8).bind fun _ =>
            (f_X8_numberFresh k44 v46 v42.2).bind fun v48 =>
            (if v48.1 = 0 then
              (tq_gr v48.2 t 10 1).bind fun k50 =>
              (tq_is v48.2 k50 8).bind fun _ =>
              (f_X8_numberAnew k50 v48.2).bind fun v51 =>
              (tq_gi v51 t 10 14).bind fun x53 =>
              (tq_pf v51 t 10 14 (.int ((x53 + (1 : Int32))))).bind fun w54 =>
              some w54
            else
              some v48.2).bind fun p55 =>
            (tq_is p55 t 10).bind fun _ =>
            (f_X10_settle t p55).bind fun v56 =>
            (tq_gr v56 t 10 2).bind fun k58 =>
            (tq_is v56 k58 9).bind fun _ =>
            (f_X9_empty k58 v56).bind fun v59 =>
            (tq_gr v59.2 t 10 0).bind fun k61 =>
            (tq_gr v59.2 k61 8 0).bind fun k62 =>
            (tq_is v59.2 k62 3).bind fun _ =>
            (f_X3_count k62 v59.2).bind fun v63 =>
            some (.inr v63, v59.2)
      else
        some (.inl "java/lang/IllegalStateException", v8)
    else
      some (.inl "java/lang/IllegalStateException", v8)
set_option maxHeartbeats 4000000 in
set_option maxRecDepth 20000 in
theorem w_X10_apply {l : Launch} {d : Nat} (hd9 : 7 ≤ d) {t : Nat} {bc bs : Nat} {h : tq_H} {o : (String ⊕ Int32) × tq_H} {Q : tq_R → tq_H → Prop} (hf : f_X10_apply t h = some o) (hb : ∀ E g, o = (.inl E, g) → 1 ≤ bc ∧ 6 ≤ bs) (hQ : ∀ r h9, r = tq_enI o.1 ∧ o.2 = h9 → Q r h9) : tq_C l yX10_apply cX10_apply 1 (some .int) d (0 + bc) (0 + bs) [.ref t] h Q := by
  refine tq_body (y := yX10_apply) false (by decide +kernel) (fun z => by cases z) (Nat.le_of_ble_eq_true rfl) ?_
  show tq_W l mX10_apply d (0 + bc) (0 + bs) Q 0 [(0, .ref t)] [] h
  refine tq_more (bc := bc) (bs := bs) (by omega) (by omega) ?_
  refine tq_aload_n (M := mX10_apply) (pc := 0) dX10_apply_0 rfl ?_
  obtain ⟨k1, ek1, hf⟩ := tq_be hf
  refine tq_getR (M := mX10_apply) (pc := 1) tk_c10 (by decide) dX10_apply_1 tk_RX10_22 rfl ek1 ?_
  refine tq_aload_n (M := mX10_apply) (pc := 4) dX10_apply_4 rfl ?_
  obtain ⟨k2, ek2, hf⟩ := tq_be hf
  refine tq_getR (M := mX10_apply) (pc := 5) tk_c10 (by decide) dX10_apply_5 tk_RX10_12 rfl ek2 ?_
  obtain ⟨⟨⟩, eu4, hf⟩ := tq_be hf
  obtain ⟨fsu4, eu4⟩ := tq_is_s eu4
  obtain ⟨v3, ev3, hf⟩ := tq_be hf
  refine tq_calV (M := mX10_apply) (pc := 8) (S := []) tk_y_X9_canBeDone tk_v_X9_canBeDone tk_RX10_175 dX10_apply_8 [.ref k2] rfl (S0 := _) rfl eu4 rfl (Nat.le_of_ble_eq_true rfl) (d1 := d - 1) (b1 := 0) (s1 := 0) (bc' := bc) (bs' := bs) (Q1 := fun r h9 => r = .inl (some (.int v3)) ∧ h = h9) (by omega) (by omega) (by omega) (w_X9_canBeDone (by omega) ev3 (fun _ _ q => q)) (fun E h9 q => nomatch (show (Sum.inr E : tq_R) = Sum.inl _ from q.1)) (fun r9 h9 q => ?_)
  obtain ⟨q1, rfl⟩ := q
  cases (show (Sum.inl r9 : tq_R) = Sum.inl (some (.int v3)) from q1)
  refine tq_if_ne (M := mX10_apply) (pc := 11) (tgt := 24) dX10_apply_11 (by decide) (fun cc => ?_) (fun cc => ?_)
  · have hf := tq_ifn hf cc
    refine tq_aload_n (M := mX10_apply) (pc := 24) dX10_apply_24 rfl ?_
    obtain ⟨k5, ek5, hf⟩ := tq_be hf
    refine tq_getR (M := mX10_apply) (pc := 25) tk_c10 (by decide) dX10_apply_25 tk_RX10_22 rfl ek5 ?_
    refine tq_aload_n (M := mX10_apply) (pc := 28) dX10_apply_28 rfl ?_
    obtain ⟨k6, ek6, hf⟩ := tq_be hf
    refine tq_getR (M := mX10_apply) (pc := 29) tk_c10 (by decide) dX10_apply_29 tk_RX10_12 rfl ek6 ?_
    refine tq_aload_n (M := mX10_apply) (pc := 32) dX10_apply_32 rfl ?_
    obtain ⟨k7, ek7, hf⟩ := tq_be hf
    refine tq_getR (M := mX10_apply) (pc := 33) tk_c10 (by decide) dX10_apply_33 tk_RX10_16 rfl ek7 ?_
    obtain ⟨⟨⟩, eu9, hf⟩ := tq_be hf
    obtain ⟨fsu9, eu9⟩ := tq_is_s eu9
    obtain ⟨v8, ev8, hf⟩ := tq_be hf
    refine tq_calV (M := mX10_apply) (pc := 36) (S := []) tk_y_X9_build tk_v_X9_build tk_RX10_181 dX10_apply_36 [.ref k6, .ref k7] rfl (S0 := _) rfl eu9 rfl (Nat.le_of_ble_eq_true rfl) (d1 := d - 1) (b1 := 0) (s1 := 0) (bc' := bc) (bs' := bs) (Q1 := fun r h9 => r = .inl none ∧ v8 = h9) (by omega) (by omega) (by omega) (w_X9_build (by omega) ev8 (fun _ _ q => q)) (fun E h9 q => nomatch (show (Sum.inr E : tq_R) = Sum.inl _ from q.1)) (fun r9 h9 q => ?_)
    obtain ⟨q1, rfl⟩ := q
    cases (show (Sum.inl r9 : tq_R) = Sum.inl (none) from q1)
    refine tq_aload_n (M := mX10_apply) (pc := 39) dX10_apply_39 rfl ?_
    obtain ⟨k10, ek10, hf⟩ := tq_be hf
    refine tq_getR (M := mX10_apply) (pc := 40) tk_c10 (by decide) dX10_apply_40 tk_RX10_16 rfl ek10 ?_
    obtain ⟨⟨⟩, eu12, hf⟩ := tq_be hf
    obtain ⟨fsu12, eu12⟩ := tq_is_s eu12
    obtain ⟨v11, ev11, hf⟩ := tq_be hf
    refine tq_calV (M := mX10_apply) (pc := 43) (S := []) tk_y_X8_isTangled tk_v_X8_isTangled tk_RX10_185 dX10_apply_43 [] rfl (S0 := _) rfl eu12 rfl (Nat.le_of_ble_eq_true rfl) (d1 := d - 1) (b1 := 0) (s1 := 0) (bc' := bc) (bs' := bs) (Q1 := fun r h9 => r = .inl (some (.int v11)) ∧ v8 = h9) (by omega) (by omega) (by omega) (w_X8_isTangled (by omega) ev11 (fun _ _ q => q)) (fun E h9 q => nomatch (show (Sum.inr E : tq_R) = Sum.inl _ from q.1)) (fun r9 h9 q => ?_)
    obtain ⟨q1, rfl⟩ := q
    cases (show (Sum.inl r9 : tq_R) = Sum.inl (some (.int v11)) from q1)
    refine tq_if_ne (M := mX10_apply) (pc := 46) (tgt := 59) dX10_apply_46 (by decide) (fun cc => ?_) (fun cc => ?_)
    · have hf := tq_ifn hf cc
      have hb9 := hb _ _ (Option.some.inj hf).symm
      refine tq_throws (M := mX10_apply) (pc := 59) (E := "java/lang/IllegalStateException") (ik := 149) (ic := 153) (is := 192) (text := "the updates make no tree") (by decide +kernel) (by decide +kernel) rfl rfl dX10_apply_59 dX10_apply_62 dX10_apply_63 dX10_apply_65 dX10_apply_68 (by omega) (by omega) (by omega) ?_
      cases (Option.some.inj hf)
      exact hQ _ _ ⟨rfl, rfl⟩
    · have hf := tq_ifp hf cc
      refine tq_aload_n (M := mX10_apply) (pc := 49) dX10_apply_49 rfl ?_
      obtain ⟨k13, ek13, hf⟩ := tq_be hf
      refine tq_getR (M := mX10_apply) (pc := 50) tk_c10 (by decide) dX10_apply_50 tk_RX10_16 rfl ek13 ?_
      obtain ⟨⟨⟩, eu15, hf⟩ := tq_be hf
      obtain ⟨fsu15, eu15⟩ := tq_is_s eu15
      obtain ⟨v14, ev14, hf⟩ := tq_be hf
      refine tq_calV (M := mX10_apply) (pc := 53) (S := []) tk_y_X8_hasTwins tk_v_X8_hasTwins tk_RX10_189 dX10_apply_53 [] rfl (S0 := _) rfl eu15 rfl (Nat.le_of_ble_eq_true rfl) (d1 := d - 1) (b1 := 0) (s1 := 0) (bc' := bc) (bs' := bs) (Q1 := fun r h9 => r = .inl (some (.int v14)) ∧ v8 = h9) (by omega) (by omega) (by omega) (w_X8_hasTwins (by omega) ev14 (fun _ _ q => q)) (fun E h9 q => nomatch (show (Sum.inr E : tq_R) = Sum.inl _ from q.1)) (fun r9 h9 q => ?_)
      obtain ⟨q1, rfl⟩ := q
      cases (show (Sum.inl r9 : tq_R) = Sum.inl (some (.int v14)) from q1)
      refine tq_if_eq (M := mX10_apply) (pc := 56) (tgt := 69) dX10_apply_56 (by decide) (fun cc => ?_) (fun cc => ?_)
      · have hf := tq_ifp hf cc
        refine tq_aload_n (M := mX10_apply) (pc := 69) dX10_apply_69 rfl ?_
        obtain ⟨k16, ek16, hf⟩ := tq_be hf
        refine tq_getR (M := mX10_apply) (pc := 70) tk_c10 (by decide) dX10_apply_70 tk_RX10_48 rfl ek16 ?_
        obtain ⟨⟨⟩, eu18, hf⟩ := tq_be hf
        obtain ⟨fsu18, eu18⟩ := tq_is_s eu18
        obtain ⟨v17, ev17, hf⟩ := tq_be hf
        refine tq_calV (M := mX10_apply) (pc := 73) (S := []) tk_y_X6_isStrict tk_v_X6_isStrict tk_RX10_194 dX10_apply_73 [] rfl (S0 := _) rfl eu18 rfl (Nat.le_of_ble_eq_true rfl) (d1 := d - 1) (b1 := 0) (s1 := 0) (bc' := bc) (bs' := bs) (Q1 := fun r h9 => r = .inl (some (.int v17)) ∧ v8 = h9) (by omega) (by omega) (by omega) (w_X6_isStrict (by omega) ev17 (fun _ _ q => q)) (fun E h9 q => nomatch (show (Sum.inr E : tq_R) = Sum.inl _ from q.1)) (fun r9 h9 q => ?_)
        obtain ⟨q1, rfl⟩ := q
        cases (show (Sum.inl r9 : tq_R) = Sum.inl (some (.int v17)) from q1)
        refine tq_if_eq (M := mX10_apply) (pc := 76) (tgt := 103) dX10_apply_76 (by decide) (fun cc => ?_) (fun cc => ?_)
        · have hf := tq_ifp hf cc
          refine tq_aload_n (M := mX10_apply) (pc := 103) dX10_apply_103 rfl ?_
          obtain ⟨k19, ek19, hf⟩ := tq_be hf
          refine tq_getR (M := mX10_apply) (pc := 104) tk_c10 (by decide) dX10_apply_104 tk_RX10_16 rfl ek19 ?_
          refine tq_aload_n (M := mX10_apply) (pc := 107) dX10_apply_107 rfl ?_
          obtain ⟨k20, ek20, hf⟩ := tq_be hf
          refine tq_getR (M := mX10_apply) (pc := 108) tk_c10 (by decide) dX10_apply_108 tk_RX10_22 rfl ek20 ?_
          obtain ⟨⟨⟩, eu22, hf⟩ := tq_be hf
          obtain ⟨fsu22, eu22⟩ := tq_is_s eu22
          obtain ⟨v21, ev21, hf⟩ := tq_be hf
          refine tq_calV (M := mX10_apply) (pc := 111) (S := [.ref k19]) tk_y_X9_fresh tk_v_X9_fresh tk_RX10_202 dX10_apply_111 [] rfl (S0 := _) rfl eu22 rfl (Nat.le_of_ble_eq_true rfl) (d1 := d - 1) (b1 := 0) (s1 := 0) (bc' := bc) (bs' := bs) (Q1 := fun r h9 => r = .inl (some (.long v21)) ∧ v8 = h9) (by omega) (by omega) (by omega) (w_X9_fresh (by omega) ev21 (fun _ _ q => q)) (fun E h9 q => nomatch (show (Sum.inr E : tq_R) = Sum.inl _ from q.1)) (fun r9 h9 q => ?_)
          obtain ⟨q1, rfl⟩ := q
          cases (show (Sum.inl r9 : tq_R) = Sum.inl (some (.long v21)) from q1)
          obtain ⟨⟨⟩, eu24, hf⟩ := tq_be hf
          obtain ⟨fsu24, eu24⟩ := tq_is_s eu24
          obtain ⟨v23, ev23, hf⟩ := tq_be hf
          refine tq_calV (M := mX10_apply) (pc := 114) (S := []) tk_y_X8_numberFresh tk_v_X8_numberFresh tk_RX10_205 dX10_apply_114 [.long v21] rfl (S0 := _) rfl eu24 rfl (Nat.le_of_ble_eq_true rfl) (d1 := d - 1) (b1 := 0) (s1 := 0) (bc' := bc) (bs' := bs) (Q1 := fun r h9 => r = .inl (some (.int v23.1)) ∧ v23.2 = h9) (by omega) (by omega) (by omega) (w_X8_numberFresh (by omega) ev23 (fun _ _ q => q)) (fun E h9 q => nomatch (show (Sum.inr E : tq_R) = Sum.inl _ from q.1)) (fun r9 h9 q => ?_)
          obtain ⟨q1, rfl⟩ := q
          cases (show (Sum.inl r9 : tq_R) = Sum.inl (some (.int v23.1)) from q1)
          obtain ⟨p30, ep30, hf⟩ := tq_be hf
          have HJ117 : tq_W l mX10_apply d bc bs Q 137 [(0, .ref t)] [] p30 := by
            refine tq_aload_n (M := mX10_apply) (pc := 137) dX10_apply_137 rfl ?_
            obtain ⟨⟨⟩, eu32, hf⟩ := tq_be hf
            obtain ⟨fsu32, eu32⟩ := tq_is_s eu32
            obtain ⟨v31, ev31, hf⟩ := tq_be hf
            refine tq_calV (M := mX10_apply) (pc := 138) (S := []) tk_y_X10_settle tk_v_X10_settle tk_RX10_209 dX10_apply_138 [] rfl (S0 := _) rfl eu32 rfl (Nat.le_of_ble_eq_true rfl) (d1 := d - 1) (b1 := 0) (s1 := 0) (bc' := bc) (bs' := bs) (Q1 := fun r h9 => r = .inl none ∧ v31 = h9) (by omega) (by omega) (by omega) (w_X10_settle (by omega) ev31 (fun _ _ q => q)) (fun E h9 q => nomatch (show (Sum.inr E : tq_R) = Sum.inl _ from q.1)) (fun r9 h9 q => ?_)
            obtain ⟨q1, rfl⟩ := q
            cases (show (Sum.inl r9 : tq_R) = Sum.inl (none) from q1)
            refine tq_aload_n (M := mX10_apply) (pc := 141) dX10_apply_141 rfl ?_
            obtain ⟨k33, ek33, hf⟩ := tq_be hf
            refine tq_getR (M := mX10_apply) (pc := 142) tk_c10 (by decide) dX10_apply_142 tk_RX10_22 rfl ek33 ?_
            obtain ⟨⟨⟩, eu35, hf⟩ := tq_be hf
            obtain ⟨fsu35, eu35⟩ := tq_is_s eu35
            obtain ⟨v34, ev34, hf⟩ := tq_be hf
            refine tq_calV (M := mX10_apply) (pc := 145) (S := []) tk_y_X9_empty tk_v_X9_empty tk_RX10_212 dX10_apply_145 [] rfl (S0 := _) rfl eu35 rfl (Nat.le_of_ble_eq_true rfl) (d1 := d - 1) (b1 := 0) (s1 := 0) (bc' := bc) (bs' := bs) (Q1 := fun r h9 => r = .inl (some (.int v34.1)) ∧ v34.2 = h9) (by omega) (by omega) (by omega) (w_X9_empty (by omega) ev34 (fun _ _ q => q)) (fun E h9 q => nomatch (show (Sum.inr E : tq_R) = Sum.inl _ from q.1)) (fun r9 h9 q => ?_)
            obtain ⟨q1, rfl⟩ := q
            cases (show (Sum.inl r9 : tq_R) = Sum.inl (some (.int v34.1)) from q1)
            refine tq_pop_ (M := mX10_apply) (pc := 148) dX10_apply_148 rfl ?_
            refine tq_aload_n (M := mX10_apply) (pc := 149) dX10_apply_149 rfl ?_
            obtain ⟨k36, ek36, hf⟩ := tq_be hf
            refine tq_getR (M := mX10_apply) (pc := 150) tk_c10 (by decide) dX10_apply_150 tk_RX10_12 rfl ek36 ?_
            obtain ⟨k37, ek37, hf⟩ := tq_be hf
            refine tq_getR (M := mX10_apply) (pc := 153) tk_c8 (by decide) dX10_apply_153 tk_RX10_115 rfl ek37 ?_
            obtain ⟨⟨⟩, eu39, hf⟩ := tq_be hf
            obtain ⟨fsu39, eu39⟩ := tq_is_s eu39
            obtain ⟨v38, ev38, hf⟩ := tq_be hf
            refine tq_calV (M := mX10_apply) (pc := 156) (S := []) tk_y_X3_count tk_v_X3_count tk_RX10_216 dX10_apply_156 [] rfl (S0 := _) rfl eu39 rfl (Nat.le_of_ble_eq_true rfl) (d1 := d - 1) (b1 := 0) (s1 := 0) (bc' := bc) (bs' := bs) (Q1 := fun r h9 => r = .inl (some (.int v38)) ∧ v34.2 = h9) (by omega) (by omega) (by omega) (w_X3_count (by omega) ev38 (fun _ _ q => q)) (fun E h9 q => nomatch (show (Sum.inr E : tq_R) = Sum.inl _ from q.1)) (fun r9 h9 q => ?_)
            obtain ⟨q1, rfl⟩ := q
            cases (show (Sum.inl r9 : tq_R) = Sum.inl (some (.int v38)) from q1)
            refine tq_iret (M := mX10_apply) (pc := 159) dX10_apply_159 rfl ?_
            cases (Option.some.inj hf)
            exact hQ _ _ ⟨rfl, rfl⟩
          refine tq_if_ne (M := mX10_apply) (pc := 117) (tgt := 137) dX10_apply_117 (by decide) (fun cc => ?_) (fun cc => ?_)
          · have hf := tq_ifn ep30 cc
            cases (Option.some.inj hf)
            exact HJ117
          · have hf := tq_ifp ep30 cc
            refine tq_aload_n (M := mX10_apply) (pc := 120) dX10_apply_120 rfl ?_
            obtain ⟨k25, ek25, hf⟩ := tq_be hf
            refine tq_getR (M := mX10_apply) (pc := 121) tk_c10 (by decide) dX10_apply_121 tk_RX10_16 rfl ek25 ?_
            obtain ⟨⟨⟩, eu27, hf⟩ := tq_be hf
            obtain ⟨fsu27, eu27⟩ := tq_is_s eu27
            obtain ⟨v26, ev26, hf⟩ := tq_be hf
            refine tq_calV (M := mX10_apply) (pc := 124) (S := []) tk_y_X8_numberAnew tk_v_X8_numberAnew tk_RX10_112 dX10_apply_124 [] rfl (S0 := _) rfl eu27 rfl (Nat.le_of_ble_eq_true rfl) (d1 := d - 1) (b1 := 0) (s1 := 0) (bc' := bc) (bs' := bs) (Q1 := fun r h9 => r = .inl none ∧ v26 = h9) (by omega) (by omega) (by omega) (w_X8_numberAnew (by omega) ev26 (fun _ _ q => q)) (fun E h9 q => nomatch (show (Sum.inr E : tq_R) = Sum.inl _ from q.1)) (fun r9 h9 q => ?_)
            obtain ⟨q1, rfl⟩ := q
            cases (show (Sum.inl r9 : tq_R) = Sum.inl (none) from q1)
            refine tq_aload_n (M := mX10_apply) (pc := 127) dX10_apply_127 rfl ?_
            refine tq_dup (M := mX10_apply) (pc := 128) dX10_apply_128 rfl ?_
            obtain ⟨x28, ex28, hf⟩ := tq_be hf
            refine tq_getI (M := mX10_apply) (pc := 129) tk_c10 (by decide) dX10_apply_129 tk_RX10_88 rfl ex28 ?_
            refine tq_iconst (M := mX10_apply) (pc := 132) dX10_apply_132 tk_ki_1 ?_
            refine tq_iadd (M := mX10_apply) (pc := 133) dX10_apply_133 ?_
            obtain ⟨w29, ew29, hf⟩ := tq_be hf
            refine tq_putv (M := mX10_apply) (pc := 134) tk_c10 (by decide) dX10_apply_134 tk_RX10_88 rfl (Or.inl rfl) ew29 (tq_nI _) ?_
            cases (Option.some.inj hf)
            exact HJ117
        · have hf := tq_ifn hf cc
          refine tq_aload_n (M := mX10_apply) (pc := 79) dX10_apply_79 rfl ?_
          obtain ⟨k40, ek40, hf⟩ := tq_be hf
          refine tq_getR (M := mX10_apply) (pc := 80) tk_c10 (by decide) dX10_apply_80 tk_RX10_48 rfl ek40 ?_
          refine tq_aload_n (M := mX10_apply) (pc := 83) dX10_apply_83 rfl ?_
          obtain ⟨k41, ek41, hf⟩ := tq_be hf
          refine tq_getR (M := mX10_apply) (pc := 84) tk_c10 (by decide) dX10_apply_84 tk_RX10_16 rfl ek41 ?_
          obtain ⟨⟨⟩, eu43, hf⟩ := tq_be hf
          obtain ⟨fsu43, eu43⟩ := tq_is_s eu43
          obtain ⟨v42, ev42, hf⟩ := tq_be hf
          refine tq_calV (M := mX10_apply) (pc := 87) (S := []) tk_y_X6_admits tk_v_X6_admits tk_RX10_197 dX10_apply_87 [.ref k41] rfl (S0 := _) rfl eu43 rfl (Nat.le_of_ble_eq_true rfl) (d1 := d - 1) (b1 := 0) (s1 := 0) (bc' := bc) (bs' := bs) (Q1 := fun r h9 => r = .inl (some (.int v42.1)) ∧ v42.2 = h9) (by omega) (by omega) (by omega) (w_X6_admits (by omega) ev42 (fun _ _ q => q)) (fun E h9 q => nomatch (show (Sum.inr E : tq_R) = Sum.inl _ from q.1)) (fun r9 h9 q => ?_)
          obtain ⟨q1, rfl⟩ := q
          cases (show (Sum.inl r9 : tq_R) = Sum.inl (some (.int v42.1)) from q1)
          refine tq_if_ne (M := mX10_apply) (pc := 90) (tgt := 103) dX10_apply_90 (by decide) (fun cc => ?_) (fun cc => ?_)
          · have hf := tq_ifn hf cc
            refine tq_aload_n (M := mX10_apply) (pc := 103) dX10_apply_103 rfl ?_
            obtain ⟨k44, ek44, hf⟩ := tq_be hf
            refine tq_getR (M := mX10_apply) (pc := 104) tk_c10 (by decide) dX10_apply_104 tk_RX10_16 rfl ek44 ?_
            refine tq_aload_n (M := mX10_apply) (pc := 107) dX10_apply_107 rfl ?_
            obtain ⟨k45, ek45, hf⟩ := tq_be hf
            refine tq_getR (M := mX10_apply) (pc := 108) tk_c10 (by decide) dX10_apply_108 tk_RX10_22 rfl ek45 ?_
            obtain ⟨⟨⟩, eu47, hf⟩ := tq_be hf
            obtain ⟨fsu47, eu47⟩ := tq_is_s eu47
            obtain ⟨v46, ev46, hf⟩ := tq_be hf
            refine tq_calV (M := mX10_apply) (pc := 111) (S := [.ref k44]) tk_y_X9_fresh tk_v_X9_fresh tk_RX10_202 dX10_apply_111 [] rfl (S0 := _) rfl eu47 rfl (Nat.le_of_ble_eq_true rfl) (d1 := d - 1) (b1 := 0) (s1 := 0) (bc' := bc) (bs' := bs) (Q1 := fun r h9 => r = .inl (some (.long v46)) ∧ v42.2 = h9) (by omega) (by omega) (by omega) (w_X9_fresh (by omega) ev46 (fun _ _ q => q)) (fun E h9 q => nomatch (show (Sum.inr E : tq_R) = Sum.inl _ from q.1)) (fun r9 h9 q => ?_)
            obtain ⟨q1, rfl⟩ := q
            cases (show (Sum.inl r9 : tq_R) = Sum.inl (some (.long v46)) from q1)
            obtain ⟨⟨⟩, eu49, hf⟩ := tq_be hf
            obtain ⟨fsu49, eu49⟩ := tq_is_s eu49
            obtain ⟨v48, ev48, hf⟩ := tq_be hf
            refine tq_calV (M := mX10_apply) (pc := 114) (S := []) tk_y_X8_numberFresh tk_v_X8_numberFresh tk_RX10_205 dX10_apply_114 [.long v46] rfl (S0 := _) rfl eu49 rfl (Nat.le_of_ble_eq_true rfl) (d1 := d - 1) (b1 := 0) (s1 := 0) (bc' := bc) (bs' := bs) (Q1 := fun r h9 => r = .inl (some (.int v48.1)) ∧ v48.2 = h9) (by omega) (by omega) (by omega) (w_X8_numberFresh (by omega) ev48 (fun _ _ q => q)) (fun E h9 q => nomatch (show (Sum.inr E : tq_R) = Sum.inl _ from q.1)) (fun r9 h9 q => ?_)
            obtain ⟨q1, rfl⟩ := q
            cases (show (Sum.inl r9 : tq_R) = Sum.inl (some (.int v48.1)) from q1)
            obtain ⟨p55, ep55, hf⟩ := tq_be hf
            have HJ117 : tq_W l mX10_apply d bc bs Q 137 [(0, .ref t)] [] p55 := by
              refine tq_aload_n (M := mX10_apply) (pc := 137) dX10_apply_137 rfl ?_
              obtain ⟨⟨⟩, eu57, hf⟩ := tq_be hf
              obtain ⟨fsu57, eu57⟩ := tq_is_s eu57
              obtain ⟨v56, ev56, hf⟩ := tq_be hf
              refine tq_calV (M := mX10_apply) (pc := 138) (S := []) tk_y_X10_settle tk_v_X10_settle tk_RX10_209 dX10_apply_138 [] rfl (S0 := _) rfl eu57 rfl (Nat.le_of_ble_eq_true rfl) (d1 := d - 1) (b1 := 0) (s1 := 0) (bc' := bc) (bs' := bs) (Q1 := fun r h9 => r = .inl none ∧ v56 = h9) (by omega) (by omega) (by omega) (w_X10_settle (by omega) ev56 (fun _ _ q => q)) (fun E h9 q => nomatch (show (Sum.inr E : tq_R) = Sum.inl _ from q.1)) (fun r9 h9 q => ?_)
              obtain ⟨q1, rfl⟩ := q
              cases (show (Sum.inl r9 : tq_R) = Sum.inl (none) from q1)
              refine tq_aload_n (M := mX10_apply) (pc := 141) dX10_apply_141 rfl ?_
              obtain ⟨k58, ek58, hf⟩ := tq_be hf
              refine tq_getR (M := mX10_apply) (pc := 142) tk_c10 (by decide) dX10_apply_142 tk_RX10_22 rfl ek58 ?_
              obtain ⟨⟨⟩, eu60, hf⟩ := tq_be hf
              obtain ⟨fsu60, eu60⟩ := tq_is_s eu60
              obtain ⟨v59, ev59, hf⟩ := tq_be hf
              refine tq_calV (M := mX10_apply) (pc := 145) (S := []) tk_y_X9_empty tk_v_X9_empty tk_RX10_212 dX10_apply_145 [] rfl (S0 := _) rfl eu60 rfl (Nat.le_of_ble_eq_true rfl) (d1 := d - 1) (b1 := 0) (s1 := 0) (bc' := bc) (bs' := bs) (Q1 := fun r h9 => r = .inl (some (.int v59.1)) ∧ v59.2 = h9) (by omega) (by omega) (by omega) (w_X9_empty (by omega) ev59 (fun _ _ q => q)) (fun E h9 q => nomatch (show (Sum.inr E : tq_R) = Sum.inl _ from q.1)) (fun r9 h9 q => ?_)
              obtain ⟨q1, rfl⟩ := q
              cases (show (Sum.inl r9 : tq_R) = Sum.inl (some (.int v59.1)) from q1)
              refine tq_pop_ (M := mX10_apply) (pc := 148) dX10_apply_148 rfl ?_
              refine tq_aload_n (M := mX10_apply) (pc := 149) dX10_apply_149 rfl ?_
              obtain ⟨k61, ek61, hf⟩ := tq_be hf
              refine tq_getR (M := mX10_apply) (pc := 150) tk_c10 (by decide) dX10_apply_150 tk_RX10_12 rfl ek61 ?_
              obtain ⟨k62, ek62, hf⟩ := tq_be hf
              refine tq_getR (M := mX10_apply) (pc := 153) tk_c8 (by decide) dX10_apply_153 tk_RX10_115 rfl ek62 ?_
              obtain ⟨⟨⟩, eu64, hf⟩ := tq_be hf
              obtain ⟨fsu64, eu64⟩ := tq_is_s eu64
              obtain ⟨v63, ev63, hf⟩ := tq_be hf
              refine tq_calV (M := mX10_apply) (pc := 156) (S := []) tk_y_X3_count tk_v_X3_count tk_RX10_216 dX10_apply_156 [] rfl (S0 := _) rfl eu64 rfl (Nat.le_of_ble_eq_true rfl) (d1 := d - 1) (b1 := 0) (s1 := 0) (bc' := bc) (bs' := bs) (Q1 := fun r h9 => r = .inl (some (.int v63)) ∧ v59.2 = h9) (by omega) (by omega) (by omega) (w_X3_count (by omega) ev63 (fun _ _ q => q)) (fun E h9 q => nomatch (show (Sum.inr E : tq_R) = Sum.inl _ from q.1)) (fun r9 h9 q => ?_)
              obtain ⟨q1, rfl⟩ := q
              cases (show (Sum.inl r9 : tq_R) = Sum.inl (some (.int v63)) from q1)
              refine tq_iret (M := mX10_apply) (pc := 159) dX10_apply_159 rfl ?_
              cases (Option.some.inj hf)
              exact hQ _ _ ⟨rfl, rfl⟩
            refine tq_if_ne (M := mX10_apply) (pc := 117) (tgt := 137) dX10_apply_117 (by decide) (fun cc => ?_) (fun cc => ?_)
            · have hf := tq_ifn ep55 cc
              cases (Option.some.inj hf)
              exact HJ117
            · have hf := tq_ifp ep55 cc
              refine tq_aload_n (M := mX10_apply) (pc := 120) dX10_apply_120 rfl ?_
              obtain ⟨k50, ek50, hf⟩ := tq_be hf
              refine tq_getR (M := mX10_apply) (pc := 121) tk_c10 (by decide) dX10_apply_121 tk_RX10_16 rfl ek50 ?_
              obtain ⟨⟨⟩, eu52, hf⟩ := tq_be hf
              obtain ⟨fsu52, eu52⟩ := tq_is_s eu52
              obtain ⟨v51, ev51, hf⟩ := tq_be hf
              refine tq_calV (M := mX10_apply) (pc := 124) (S := []) tk_y_X8_numberAnew tk_v_X8_numberAnew tk_RX10_112 dX10_apply_124 [] rfl (S0 := _) rfl eu52 rfl (Nat.le_of_ble_eq_true rfl) (d1 := d - 1) (b1 := 0) (s1 := 0) (bc' := bc) (bs' := bs) (Q1 := fun r h9 => r = .inl none ∧ v51 = h9) (by omega) (by omega) (by omega) (w_X8_numberAnew (by omega) ev51 (fun _ _ q => q)) (fun E h9 q => nomatch (show (Sum.inr E : tq_R) = Sum.inl _ from q.1)) (fun r9 h9 q => ?_)
              obtain ⟨q1, rfl⟩ := q
              cases (show (Sum.inl r9 : tq_R) = Sum.inl (none) from q1)
              refine tq_aload_n (M := mX10_apply) (pc := 127) dX10_apply_127 rfl ?_
              refine tq_dup (M := mX10_apply) (pc := 128) dX10_apply_128 rfl ?_
              obtain ⟨x53, ex53, hf⟩ := tq_be hf
              refine tq_getI (M := mX10_apply) (pc := 129) tk_c10 (by decide) dX10_apply_129 tk_RX10_88 rfl ex53 ?_
              refine tq_iconst (M := mX10_apply) (pc := 132) dX10_apply_132 tk_ki_1 ?_
              refine tq_iadd (M := mX10_apply) (pc := 133) dX10_apply_133 ?_
              obtain ⟨w54, ew54, hf⟩ := tq_be hf
              refine tq_putv (M := mX10_apply) (pc := 134) tk_c10 (by decide) dX10_apply_134 tk_RX10_88 rfl (Or.inl rfl) ew54 (tq_nI _) ?_
              cases (Option.some.inj hf)
              exact HJ117
          · have hf := tq_ifp hf cc
            have hb9 := hb _ _ (Option.some.inj hf).symm
            refine tq_throws (M := mX10_apply) (pc := 93) (E := "java/lang/IllegalStateException") (ik := 149) (ic := 153) (is := 200) (text := "the updates make no valid tree") (by decide +kernel) (by decide +kernel) rfl rfl dX10_apply_93 dX10_apply_96 dX10_apply_97 dX10_apply_99 dX10_apply_102 (by omega) (by omega) (by omega) ?_
            cases (Option.some.inj hf)
            exact hQ _ _ ⟨rfl, rfl⟩
      · have hf := tq_ifn hf cc
        have hb9 := hb _ _ (Option.some.inj hf).symm
        refine tq_throws (M := mX10_apply) (pc := 59) (E := "java/lang/IllegalStateException") (ik := 149) (ic := 153) (is := 192) (text := "the updates make no tree") (by decide +kernel) (by decide +kernel) rfl rfl dX10_apply_59 dX10_apply_62 dX10_apply_63 dX10_apply_65 dX10_apply_68 (by omega) (by omega) (by omega) ?_
        cases (Option.some.inj hf)
        exact hQ _ _ ⟨rfl, rfl⟩
  · have hf := tq_ifp hf cc
    have hb9 := hb _ _ (Option.some.inj hf).symm
    refine tq_throws (M := mX10_apply) (pc := 14) (E := "java/lang/IllegalStateException") (ik := 149) (ic := 153) (is := 179) (text := "the updates do not go together or with the tree") (by decide +kernel) (by decide +kernel) rfl rfl dX10_apply_14 dX10_apply_17 dX10_apply_18 dX10_apply_20 dX10_apply_23 (by omega) (by omega) (by omega) ?_
    cases (Option.some.inj hf)
    exact hQ _ _ ⟨rfl, rfl⟩
abbrev mX10_forget : tq_M := (RX10, cX10_forget, 1, (some .int), false, [], none)
def f_X10_forget (t : Nat) (h : tq_H) : Option (Int32 × tq_H) :=
  (tq_gr h t 10 2).bind fun k1 =>
  (tq_is h k1 9).bind fun _ =>
  (f_X9_empty k1 h).bind fun v2 =>
  some (v2.1, v2.2)
set_option maxHeartbeats 4000000 in
set_option maxRecDepth 20000 in
theorem w_X10_forget {l : Launch} {d : Nat} (hd9 : 1 ≤ d) {t : Nat} {h : tq_H} {o : Int32 × tq_H} {Q : tq_R → tq_H → Prop} (hf : f_X10_forget t h = some o) (hQ : ∀ r h9, r = .inl (some (.int o.1)) ∧ o.2 = h9 → Q r h9) : tq_C l yX10_forget cX10_forget 1 (some .int) d 0 0 [.ref t] h Q := by
  refine tq_body (y := yX10_forget) false (by decide +kernel) (fun z => by cases z) (Nat.le_of_ble_eq_true rfl) ?_
  show tq_W l mX10_forget d 0 0 Q 0 [(0, .ref t)] [] h
  refine tq_aload_n (M := mX10_forget) (pc := 0) dX10_forget_0 rfl ?_
  obtain ⟨k1, ek1, hf⟩ := tq_be hf
  refine tq_getR (M := mX10_forget) (pc := 1) tk_c10 (by decide) dX10_forget_1 tk_RX10_22 rfl ek1 ?_
  obtain ⟨⟨⟩, eu3, hf⟩ := tq_be hf
  obtain ⟨fsu3, eu3⟩ := tq_is_s eu3
  obtain ⟨v2, ev2, hf⟩ := tq_be hf
  refine tq_calV (M := mX10_forget) (pc := 4) (S := []) tk_y_X9_empty tk_v_X9_empty tk_RX10_212 dX10_forget_4 [] rfl (S0 := _) rfl eu3 rfl (Nat.le_of_ble_eq_true rfl) (d1 := d - 1) (b1 := 0) (s1 := 0) (bc' := 0) (bs' := 0) (Q1 := fun r h9 => r = .inl (some (.int v2.1)) ∧ v2.2 = h9) (by omega) rfl rfl (w_X9_empty (by omega) ev2 (fun _ _ q => q)) (fun E h9 q => nomatch (show (Sum.inr E : tq_R) = Sum.inl _ from q.1)) (fun r9 h9 q => ?_)
  obtain ⟨q1, rfl⟩ := q
  cases (show (Sum.inl r9 : tq_R) = Sum.inl (some (.int v2.1)) from q1)
  refine tq_iret (M := mX10_forget) (pc := 7) dX10_forget_7 rfl ?_
  cases (Option.some.inj hf)
  exact hQ _ _ ⟨rfl, rfl⟩
abbrev mX10_made : tq_M := (RX10, cX10_made, 1, (some .int), false, [], none)
def f_X10_made (t : Nat) (h : tq_H) : Option (Int32) :=
  (tq_gr h t 10 0).bind fun k1 =>
  (tq_is h k1 8).bind fun _ =>
  (f_X8_madeCount k1 h).bind fun v2 =>
  some v2
set_option maxHeartbeats 4000000 in
set_option maxRecDepth 20000 in
theorem w_X10_made {l : Launch} {d : Nat} (hd9 : 1 ≤ d) {t : Nat} {h : tq_H} {o : Int32} {Q : tq_R → tq_H → Prop} (hf : f_X10_made t h = some o) (hQ : ∀ r h9, r = .inl (some (.int o)) ∧ h = h9 → Q r h9) : tq_C l yX10_made cX10_made 1 (some .int) d 0 0 [.ref t] h Q := by
  refine tq_body (y := yX10_made) false (by decide +kernel) (fun z => by cases z) (Nat.le_of_ble_eq_true rfl) ?_
  show tq_W l mX10_made d 0 0 Q 0 [(0, .ref t)] [] h
  refine tq_aload_n (M := mX10_made) (pc := 0) dX10_made_0 rfl ?_
  obtain ⟨k1, ek1, hf⟩ := tq_be hf
  refine tq_getR (M := mX10_made) (pc := 1) tk_c10 (by decide) dX10_made_1 tk_RX10_12 rfl ek1 ?_
  obtain ⟨⟨⟩, eu3, hf⟩ := tq_be hf
  obtain ⟨fsu3, eu3⟩ := tq_is_s eu3
  obtain ⟨v2, ev2, hf⟩ := tq_be hf
  refine tq_calV (M := mX10_made) (pc := 4) (S := []) tk_y_X8_madeCount tk_v_X8_madeCount tk_RX10_219 dX10_made_4 [] rfl (S0 := _) rfl eu3 rfl (Nat.le_of_ble_eq_true rfl) (d1 := d - 1) (b1 := 0) (s1 := 0) (bc' := 0) (bs' := 0) (Q1 := fun r h9 => r = .inl (some (.int v2)) ∧ h = h9) (by omega) rfl rfl (w_X8_madeCount (by omega) ev2 (fun _ _ q => q)) (fun E h9 q => nomatch (show (Sum.inr E : tq_R) = Sum.inl _ from q.1)) (fun r9 h9 q => ?_)
  obtain ⟨q1, rfl⟩ := q
  cases (show (Sum.inl r9 : tq_R) = Sum.inl (some (.int v2)) from q1)
  refine tq_iret (M := mX10_made) (pc := 7) dX10_made_7 rfl ?_
  cases (Option.some.inj hf)
  exact hQ _ _ ⟨rfl, rfl⟩
abbrev mX10_nodes : tq_M := (RX10, cX10_nodes, 1, (some .int), false, [], none)
def f_X10_nodes (t : Nat) (h : tq_H) : Option (Int32) :=
  (tq_gr h t 10 0).bind fun k1 =>
  (tq_gr h k1 8 0).bind fun k2 =>
  (tq_is h k2 3).bind fun _ =>
  (f_X3_count k2 h).bind fun v3 =>
  some v3
set_option maxHeartbeats 4000000 in
set_option maxRecDepth 20000 in
theorem w_X10_nodes {l : Launch} {d : Nat} (hd9 : 1 ≤ d) {t : Nat} {h : tq_H} {o : Int32} {Q : tq_R → tq_H → Prop} (hf : f_X10_nodes t h = some o) (hQ : ∀ r h9, r = .inl (some (.int o)) ∧ h = h9 → Q r h9) : tq_C l yX10_nodes cX10_nodes 1 (some .int) d 0 0 [.ref t] h Q := by
  refine tq_body (y := yX10_nodes) false (by decide +kernel) (fun z => by cases z) (Nat.le_of_ble_eq_true rfl) ?_
  show tq_W l mX10_nodes d 0 0 Q 0 [(0, .ref t)] [] h
  refine tq_aload_n (M := mX10_nodes) (pc := 0) dX10_nodes_0 rfl ?_
  obtain ⟨k1, ek1, hf⟩ := tq_be hf
  refine tq_getR (M := mX10_nodes) (pc := 1) tk_c10 (by decide) dX10_nodes_1 tk_RX10_12 rfl ek1 ?_
  obtain ⟨k2, ek2, hf⟩ := tq_be hf
  refine tq_getR (M := mX10_nodes) (pc := 4) tk_c8 (by decide) dX10_nodes_4 tk_RX10_115 rfl ek2 ?_
  obtain ⟨⟨⟩, eu4, hf⟩ := tq_be hf
  obtain ⟨fsu4, eu4⟩ := tq_is_s eu4
  obtain ⟨v3, ev3, hf⟩ := tq_be hf
  refine tq_calV (M := mX10_nodes) (pc := 7) (S := []) tk_y_X3_count tk_v_X3_count tk_RX10_216 dX10_nodes_7 [] rfl (S0 := _) rfl eu4 rfl (Nat.le_of_ble_eq_true rfl) (d1 := d - 1) (b1 := 0) (s1 := 0) (bc' := 0) (bs' := 0) (Q1 := fun r h9 => r = .inl (some (.int v3)) ∧ h = h9) (by omega) rfl rfl (w_X3_count (by omega) ev3 (fun _ _ q => q)) (fun E h9 q => nomatch (show (Sum.inr E : tq_R) = Sum.inl _ from q.1)) (fun r9 h9 q => ?_)
  obtain ⟨q1, rfl⟩ := q
  cases (show (Sum.inl r9 : tq_R) = Sum.inl (some (.int v3)) from q1)
  refine tq_iret (M := mX10_nodes) (pc := 10) dX10_nodes_10 rfl ?_
  cases (Option.some.inj hf)
  exact hQ _ _ ⟨rfl, rfl⟩
abbrev mX10_isThere : tq_M := (RX10, cX10_isThere, 2, (some .boolean), false, [], none)
def f_X10_isThere (t : Nat) (a1 : Int32) (h : tq_H) : Option (Int32) :=
  (tq_gr h t 10 0).bind fun k1 =>
  (tq_gr h k1 8 0).bind fun k2 =>
  (tq_is h k2 3).bind fun _ =>
  (f_X3_holds k2 a1 h).bind fun v3 =>
  (tq_bz v3).bind fun z5 =>
  some z5
set_option maxHeartbeats 4000000 in
set_option maxRecDepth 20000 in
theorem w_X10_isThere {l : Launch} {d : Nat} (hd9 : 2 ≤ d) {t : Nat} {a1 : Int32} {h : tq_H} {o : Int32} {Q : tq_R → tq_H → Prop} (hf : f_X10_isThere t a1 h = some o) (hQ : ∀ r h9, r = .inl (some (.int o)) ∧ h = h9 → Q r h9) : tq_C l yX10_isThere cX10_isThere 2 (some .boolean) d 0 0 [.ref t, .int a1] h Q := by
  refine tq_body (y := yX10_isThere) false (by decide +kernel) (fun z => by cases z) (Nat.le_of_ble_eq_true rfl) ?_
  show tq_W l mX10_isThere d 0 0 Q 0 [(0, .ref t), (1, .int a1)] [] h
  refine tq_aload_n (M := mX10_isThere) (pc := 0) dX10_isThere_0 rfl ?_
  obtain ⟨k1, ek1, hf⟩ := tq_be hf
  refine tq_getR (M := mX10_isThere) (pc := 1) tk_c10 (by decide) dX10_isThere_1 tk_RX10_12 rfl ek1 ?_
  obtain ⟨k2, ek2, hf⟩ := tq_be hf
  refine tq_getR (M := mX10_isThere) (pc := 4) tk_c8 (by decide) dX10_isThere_4 tk_RX10_115 rfl ek2 ?_
  refine tq_iload_n (M := mX10_isThere) (pc := 7) dX10_isThere_7 rfl ?_
  obtain ⟨⟨⟩, eu4, hf⟩ := tq_be hf
  obtain ⟨fsu4, eu4⟩ := tq_is_s eu4
  obtain ⟨v3, ev3, hf⟩ := tq_be hf
  refine tq_calV (M := mX10_isThere) (pc := 8) (S := []) tk_y_X3_holds tk_v_X3_holds tk_RX10_222 dX10_isThere_8 [.int a1] rfl (S0 := _) rfl eu4 rfl (Nat.le_of_ble_eq_true rfl) (d1 := d - 1) (b1 := 0) (s1 := 0) (bc' := 0) (bs' := 0) (Q1 := fun r h9 => r = .inl (some (.int v3)) ∧ h = h9) (by omega) rfl rfl (w_X3_holds (by omega) ev3 (fun _ _ q => q)) (fun E h9 q => nomatch (show (Sum.inr E : tq_R) = Sum.inl _ from q.1)) (fun r9 h9 q => ?_)
  obtain ⟨q1, rfl⟩ := q
  cases (show (Sum.inl r9 : tq_R) = Sum.inl (some (.int v3)) from q1)
  obtain ⟨z5, ez5, hf⟩ := tq_be hf
  refine tq_zretB (M := mX10_isThere) (pc := 11) dX10_isThere_11 rfl ez5 ?_
  cases (Option.some.inj hf)
  exact hQ _ _ ⟨rfl, rfl⟩
abbrev mX10_kind : tq_M := (RX10, cX10_kind, 2, (some .int), false, [], none)
def f_X10_kind (t : Nat) (a1 : Int32) (h : tq_H) : Option ((String ⊕ Int32) × tq_H) :=
  (tq_is h t 10).bind fun _ =>
  tq_tb (f_X10_needNode t a1 h) fun _ w3 =>
  (tq_gr w3 t 10 0).bind fun k4 =>
  (tq_gr w3 k4 8 1).bind fun k5 =>
  (tq_is w3 k5 5).bind fun _ =>
  (f_X5_get k5 a1 w3).bind fun v6 =>
  some (.inr v6, w3)
set_option maxHeartbeats 4000000 in
set_option maxRecDepth 20000 in
theorem w_X10_kind {l : Launch} {d : Nat} (hd9 : 7 ≤ d) {t : Nat} {a1 : Int32} {bc bs : Nat} {h : tq_H} {o : (String ⊕ Int32) × tq_H} {Q : tq_R → tq_H → Prop} (hf : f_X10_kind t a1 h = some o) (hb : ∀ E g, o = (.inl E, g) → 1 ≤ bc ∧ 6 ≤ bs) (hQ : ∀ r h9, r = tq_enI o.1 ∧ o.2 = h9 → Q r h9) : tq_C l yX10_kind cX10_kind 2 (some .int) d (0 + bc) (0 + bs) [.ref t, .int a1] h Q := by
  refine tq_body (y := yX10_kind) false (by decide +kernel) (fun z => by cases z) (Nat.le_of_ble_eq_true rfl) ?_
  show tq_W l mX10_kind d (0 + bc) (0 + bs) Q 0 [(0, .ref t), (1, .int a1)] [] h
  refine tq_more (bc := bc) (bs := bs) (by omega) (by omega) ?_
  refine tq_aload_n (M := mX10_kind) (pc := 0) dX10_kind_0 rfl ?_
  refine tq_iload_n (M := mX10_kind) (pc := 1) dX10_kind_1 rfl ?_
  obtain ⟨⟨⟩, eu2, hf⟩ := tq_be hf
  obtain ⟨fsu2, eu2⟩ := tq_is_s eu2
  rcases tq_te hf with ⟨E1, g1, ev1, e9⟩ | ⟨v1, w3, ev1, hf⟩
  · have hb9 := hb _ _ e9
    refine tq_calV (M := mX10_kind) (pc := 2) (S := []) tk_y_X10_needNode tk_v_X10_needNode tk_RX10_146 dX10_kind_2 [.int a1] rfl (S0 := _) rfl eu2 rfl (Nat.le_of_ble_eq_true rfl) (d1 := d - 1) (b1 := 0 + bc) (s1 := 0 + bs) (bc' := 0) (bs' := 0) (Q1 := fun r h9 => r = tq_enV ((.inl E1, g1) : (String ⊕ Unit) × tq_H).1 ∧ ((.inl E1, g1) : (String ⊕ Unit) × tq_H).2 = h9) (by omega) (by omega) (by omega) (w_X10_needNode (bc := bc) (bs := bs) (by omega) ev1 (fun _ _ _ => hb9) (fun _ _ q => q)) (fun E h9 q => ?_) (fun r9 h9 q => nomatch (show (Sum.inl r9 : tq_R) = Sum.inr E1 from q.1))
    obtain ⟨q1, rfl⟩ := q
    cases (show (Sum.inr E : tq_R) = Sum.inr E1 from q1)
    subst e9
    exact tq_out rfl (hQ _ _ ⟨rfl, rfl⟩)
  · refine tq_calV (M := mX10_kind) (pc := 2) (S := []) tk_y_X10_needNode tk_v_X10_needNode tk_RX10_146 dX10_kind_2 [.int a1] rfl (S0 := _) rfl eu2 rfl (Nat.le_of_ble_eq_true rfl) (d1 := d - 1) (b1 := 0 + 0) (s1 := 0 + 0) (bc' := bc) (bs' := bs) (Q1 := fun r h9 => r = tq_enV ((.inr (), w3) : (String ⊕ Unit) × tq_H).1 ∧ ((.inr (), w3) : (String ⊕ Unit) × tq_H).2 = h9) (by omega) (by omega) (by omega) (w_X10_needNode (bc := 0) (bs := 0) (by omega) ev1 (fun E g z => by cases z) (fun _ _ q => q)) (fun E h9 q => nomatch (show (Sum.inr E : tq_R) = Sum.inl _ from q.1)) (fun r9 h9 q => ?_)
    obtain ⟨q1, rfl⟩ := q
    cases (show (Sum.inl r9 : tq_R) = Sum.inl (none) from q1)
    refine tq_aload_n (M := mX10_kind) (pc := 5) dX10_kind_5 rfl ?_
    obtain ⟨k4, ek4, hf⟩ := tq_be hf
    refine tq_getR (M := mX10_kind) (pc := 6) tk_c10 (by decide) dX10_kind_6 tk_RX10_12 rfl ek4 ?_
    obtain ⟨k5, ek5, hf⟩ := tq_be hf
    refine tq_getR (M := mX10_kind) (pc := 9) tk_c8 (by decide) dX10_kind_9 tk_RX10_159 rfl ek5 ?_
    refine tq_iload_n (M := mX10_kind) (pc := 12) dX10_kind_12 rfl ?_
    obtain ⟨⟨⟩, eu7, hf⟩ := tq_be hf
    obtain ⟨fsu7, eu7⟩ := tq_is_s eu7
    obtain ⟨v6, ev6, hf⟩ := tq_be hf
    refine tq_calV (M := mX10_kind) (pc := 13) (S := []) tk_y_X5_get tk_v_X5_get tk_RX10_162 dX10_kind_13 [.int a1] rfl (S0 := _) rfl eu7 rfl (Nat.le_of_ble_eq_true rfl) (d1 := d - 1) (b1 := 0) (s1 := 0) (bc' := bc) (bs' := bs) (Q1 := fun r h9 => r = .inl (some (.int v6)) ∧ w3 = h9) (by omega) (by omega) (by omega) (w_X5_get (by omega) ev6 (fun _ _ q => q)) (fun E h9 q => nomatch (show (Sum.inr E : tq_R) = Sum.inl _ from q.1)) (fun r9 h9 q => ?_)
    obtain ⟨q1, rfl⟩ := q
    cases (show (Sum.inl r9 : tq_R) = Sum.inl (some (.int v6)) from q1)
    refine tq_iret (M := mX10_kind) (pc := 16) dX10_kind_16 rfl ?_
    cases (Option.some.inj hf)
    exact hQ _ _ ⟨rfl, rfl⟩
abbrev mX10_name : tq_M := (RX10, cX10_name, 2, (some .int), false, [], none)
def f_X10_name (t : Nat) (a1 : Int32) (h : tq_H) : Option ((String ⊕ Int32) × tq_H) :=
  (tq_is h t 10).bind fun _ =>
  tq_tb (f_X10_needNode t a1 h) fun _ w3 =>
  (tq_gr w3 t 10 0).bind fun k4 =>
  (tq_gr w3 k4 8 2).bind fun k5 =>
  (tq_is w3 k5 5).bind fun _ =>
  (f_X5_get k5 a1 w3).bind fun v6 =>
  some (.inr v6, w3)
set_option maxHeartbeats 4000000 in
set_option maxRecDepth 20000 in
theorem w_X10_name {l : Launch} {d : Nat} (hd9 : 7 ≤ d) {t : Nat} {a1 : Int32} {bc bs : Nat} {h : tq_H} {o : (String ⊕ Int32) × tq_H} {Q : tq_R → tq_H → Prop} (hf : f_X10_name t a1 h = some o) (hb : ∀ E g, o = (.inl E, g) → 1 ≤ bc ∧ 6 ≤ bs) (hQ : ∀ r h9, r = tq_enI o.1 ∧ o.2 = h9 → Q r h9) : tq_C l yX10_name cX10_name 2 (some .int) d (0 + bc) (0 + bs) [.ref t, .int a1] h Q := by
  refine tq_body (y := yX10_name) false (by decide +kernel) (fun z => by cases z) (Nat.le_of_ble_eq_true rfl) ?_
  show tq_W l mX10_name d (0 + bc) (0 + bs) Q 0 [(0, .ref t), (1, .int a1)] [] h
  refine tq_more (bc := bc) (bs := bs) (by omega) (by omega) ?_
  refine tq_aload_n (M := mX10_name) (pc := 0) dX10_name_0 rfl ?_
  refine tq_iload_n (M := mX10_name) (pc := 1) dX10_name_1 rfl ?_
  obtain ⟨⟨⟩, eu2, hf⟩ := tq_be hf
  obtain ⟨fsu2, eu2⟩ := tq_is_s eu2
  rcases tq_te hf with ⟨E1, g1, ev1, e9⟩ | ⟨v1, w3, ev1, hf⟩
  · have hb9 := hb _ _ e9
    refine tq_calV (M := mX10_name) (pc := 2) (S := []) tk_y_X10_needNode tk_v_X10_needNode tk_RX10_146 dX10_name_2 [.int a1] rfl (S0 := _) rfl eu2 rfl (Nat.le_of_ble_eq_true rfl) (d1 := d - 1) (b1 := 0 + bc) (s1 := 0 + bs) (bc' := 0) (bs' := 0) (Q1 := fun r h9 => r = tq_enV ((.inl E1, g1) : (String ⊕ Unit) × tq_H).1 ∧ ((.inl E1, g1) : (String ⊕ Unit) × tq_H).2 = h9) (by omega) (by omega) (by omega) (w_X10_needNode (bc := bc) (bs := bs) (by omega) ev1 (fun _ _ _ => hb9) (fun _ _ q => q)) (fun E h9 q => ?_) (fun r9 h9 q => nomatch (show (Sum.inl r9 : tq_R) = Sum.inr E1 from q.1))
    obtain ⟨q1, rfl⟩ := q
    cases (show (Sum.inr E : tq_R) = Sum.inr E1 from q1)
    subst e9
    exact tq_out rfl (hQ _ _ ⟨rfl, rfl⟩)
  · refine tq_calV (M := mX10_name) (pc := 2) (S := []) tk_y_X10_needNode tk_v_X10_needNode tk_RX10_146 dX10_name_2 [.int a1] rfl (S0 := _) rfl eu2 rfl (Nat.le_of_ble_eq_true rfl) (d1 := d - 1) (b1 := 0 + 0) (s1 := 0 + 0) (bc' := bc) (bs' := bs) (Q1 := fun r h9 => r = tq_enV ((.inr (), w3) : (String ⊕ Unit) × tq_H).1 ∧ ((.inr (), w3) : (String ⊕ Unit) × tq_H).2 = h9) (by omega) (by omega) (by omega) (w_X10_needNode (bc := 0) (bs := 0) (by omega) ev1 (fun E g z => by cases z) (fun _ _ q => q)) (fun E h9 q => nomatch (show (Sum.inr E : tq_R) = Sum.inl _ from q.1)) (fun r9 h9 q => ?_)
    obtain ⟨q1, rfl⟩ := q
    cases (show (Sum.inl r9 : tq_R) = Sum.inl (none) from q1)
    refine tq_aload_n (M := mX10_name) (pc := 5) dX10_name_5 rfl ?_
    obtain ⟨k4, ek4, hf⟩ := tq_be hf
    refine tq_getR (M := mX10_name) (pc := 6) tk_c10 (by decide) dX10_name_6 tk_RX10_12 rfl ek4 ?_
    obtain ⟨k5, ek5, hf⟩ := tq_be hf
    refine tq_getR (M := mX10_name) (pc := 9) tk_c8 (by decide) dX10_name_9 tk_RX10_226 rfl ek5 ?_
    refine tq_iload_n (M := mX10_name) (pc := 12) dX10_name_12 rfl ?_
    obtain ⟨⟨⟩, eu7, hf⟩ := tq_be hf
    obtain ⟨fsu7, eu7⟩ := tq_is_s eu7
    obtain ⟨v6, ev6, hf⟩ := tq_be hf
    refine tq_calV (M := mX10_name) (pc := 13) (S := []) tk_y_X5_get tk_v_X5_get tk_RX10_162 dX10_name_13 [.int a1] rfl (S0 := _) rfl eu7 rfl (Nat.le_of_ble_eq_true rfl) (d1 := d - 1) (b1 := 0) (s1 := 0) (bc' := bc) (bs' := bs) (Q1 := fun r h9 => r = .inl (some (.int v6)) ∧ w3 = h9) (by omega) (by omega) (by omega) (w_X5_get (by omega) ev6 (fun _ _ q => q)) (fun E h9 q => nomatch (show (Sum.inr E : tq_R) = Sum.inl _ from q.1)) (fun r9 h9 q => ?_)
    obtain ⟨q1, rfl⟩ := q
    cases (show (Sum.inl r9 : tq_R) = Sum.inl (some (.int v6)) from q1)
    refine tq_iret (M := mX10_name) (pc := 16) dX10_name_16 rfl ?_
    cases (Option.some.inj hf)
    exact hQ _ _ ⟨rfl, rfl⟩
abbrev mX10_value : tq_M := (RX10, cX10_value, 2, (some .int), false, [], none)
def f_X10_value (t : Nat) (a1 : Int32) (h : tq_H) : Option ((String ⊕ Int32) × tq_H) :=
  (tq_is h t 10).bind fun _ =>
  tq_tb (f_X10_needNode t a1 h) fun _ w3 =>
  (tq_gr w3 t 10 0).bind fun k4 =>
  (tq_gr w3 t 10 0).bind fun k5 =>
  (tq_gr w3 k5 8 0).bind fun k6 =>
  (tq_is w3 k6 3).bind fun _ =>
  (f_X3_spotOf k6 a1 w3).bind fun v7 =>
  (tq_gr w3 t 10 0).bind fun k9 =>
  (tq_gr w3 k9 8 0).bind fun k10 =>
  (tq_is w3 k10 3).bind fun _ =>
  (f_X3_everything k10 w3).bind fun v11 =>
  (tq_is w3 k4 8).bind fun _ =>
  (f_X8_valueAt k4 v7 v11 w3).bind fun v13 =>
  some (.inr v13, w3)
set_option maxHeartbeats 4000000 in
set_option maxRecDepth 20000 in
theorem w_X10_value {l : Launch} {d : Nat} (hd9 : 7 ≤ d) {t : Nat} {a1 : Int32} {bc bs : Nat} {h : tq_H} {o : (String ⊕ Int32) × tq_H} {Q : tq_R → tq_H → Prop} (hf : f_X10_value t a1 h = some o) (hb : ∀ E g, o = (.inl E, g) → 1 ≤ bc ∧ 6 ≤ bs) (hQ : ∀ r h9, r = tq_enI o.1 ∧ o.2 = h9 → Q r h9) : tq_C l yX10_value cX10_value 2 (some .int) d (0 + bc) (0 + bs) [.ref t, .int a1] h Q := by
  refine tq_body (y := yX10_value) false (by decide +kernel) (fun z => by cases z) (Nat.le_of_ble_eq_true rfl) ?_
  show tq_W l mX10_value d (0 + bc) (0 + bs) Q 0 [(0, .ref t), (1, .int a1)] [] h
  refine tq_more (bc := bc) (bs := bs) (by omega) (by omega) ?_
  refine tq_aload_n (M := mX10_value) (pc := 0) dX10_value_0 rfl ?_
  refine tq_iload_n (M := mX10_value) (pc := 1) dX10_value_1 rfl ?_
  obtain ⟨⟨⟩, eu2, hf⟩ := tq_be hf
  obtain ⟨fsu2, eu2⟩ := tq_is_s eu2
  rcases tq_te hf with ⟨E1, g1, ev1, e9⟩ | ⟨v1, w3, ev1, hf⟩
  · have hb9 := hb _ _ e9
    refine tq_calV (M := mX10_value) (pc := 2) (S := []) tk_y_X10_needNode tk_v_X10_needNode tk_RX10_146 dX10_value_2 [.int a1] rfl (S0 := _) rfl eu2 rfl (Nat.le_of_ble_eq_true rfl) (d1 := d - 1) (b1 := 0 + bc) (s1 := 0 + bs) (bc' := 0) (bs' := 0) (Q1 := fun r h9 => r = tq_enV ((.inl E1, g1) : (String ⊕ Unit) × tq_H).1 ∧ ((.inl E1, g1) : (String ⊕ Unit) × tq_H).2 = h9) (by omega) (by omega) (by omega) (w_X10_needNode (bc := bc) (bs := bs) (by omega) ev1 (fun _ _ _ => hb9) (fun _ _ q => q)) (fun E h9 q => ?_) (fun r9 h9 q => nomatch (show (Sum.inl r9 : tq_R) = Sum.inr E1 from q.1))
    obtain ⟨q1, rfl⟩ := q
    cases (show (Sum.inr E : tq_R) = Sum.inr E1 from q1)
    subst e9
    exact tq_out rfl (hQ _ _ ⟨rfl, rfl⟩)
  · refine tq_calV (M := mX10_value) (pc := 2) (S := []) tk_y_X10_needNode tk_v_X10_needNode tk_RX10_146 dX10_value_2 [.int a1] rfl (S0 := _) rfl eu2 rfl (Nat.le_of_ble_eq_true rfl) (d1 := d - 1) (b1 := 0 + 0) (s1 := 0 + 0) (bc' := bc) (bs' := bs) (Q1 := fun r h9 => r = tq_enV ((.inr (), w3) : (String ⊕ Unit) × tq_H).1 ∧ ((.inr (), w3) : (String ⊕ Unit) × tq_H).2 = h9) (by omega) (by omega) (by omega) (w_X10_needNode (bc := 0) (bs := 0) (by omega) ev1 (fun E g z => by cases z) (fun _ _ q => q)) (fun E h9 q => nomatch (show (Sum.inr E : tq_R) = Sum.inl _ from q.1)) (fun r9 h9 q => ?_)
    obtain ⟨q1, rfl⟩ := q
    cases (show (Sum.inl r9 : tq_R) = Sum.inl (none) from q1)
    refine tq_aload_n (M := mX10_value) (pc := 5) dX10_value_5 rfl ?_
    obtain ⟨k4, ek4, hf⟩ := tq_be hf
    refine tq_getR (M := mX10_value) (pc := 6) tk_c10 (by decide) dX10_value_6 tk_RX10_12 rfl ek4 ?_
    refine tq_aload_n (M := mX10_value) (pc := 9) dX10_value_9 rfl ?_
    obtain ⟨k5, ek5, hf⟩ := tq_be hf
    refine tq_getR (M := mX10_value) (pc := 10) tk_c10 (by decide) dX10_value_10 tk_RX10_12 rfl ek5 ?_
    obtain ⟨k6, ek6, hf⟩ := tq_be hf
    refine tq_getR (M := mX10_value) (pc := 13) tk_c8 (by decide) dX10_value_13 tk_RX10_115 rfl ek6 ?_
    refine tq_iload_n (M := mX10_value) (pc := 16) dX10_value_16 rfl ?_
    obtain ⟨⟨⟩, eu8, hf⟩ := tq_be hf
    obtain ⟨fsu8, eu8⟩ := tq_is_s eu8
    obtain ⟨v7, ev7, hf⟩ := tq_be hf
    refine tq_calV (M := mX10_value) (pc := 17) (S := [.ref k4]) tk_y_X3_spotOf tk_v_X3_spotOf tk_RX10_229 dX10_value_17 [.int a1] rfl (S0 := _) rfl eu8 rfl (Nat.le_of_ble_eq_true rfl) (d1 := d - 1) (b1 := 0) (s1 := 0) (bc' := bc) (bs' := bs) (Q1 := fun r h9 => r = .inl (some (.int v7)) ∧ w3 = h9) (by omega) (by omega) (by omega) (w_X3_spotOf (by omega) ev7 (fun _ _ q => q)) (fun E h9 q => nomatch (show (Sum.inr E : tq_R) = Sum.inl _ from q.1)) (fun r9 h9 q => ?_)
    obtain ⟨q1, rfl⟩ := q
    cases (show (Sum.inl r9 : tq_R) = Sum.inl (some (.int v7)) from q1)
    refine tq_aload_n (M := mX10_value) (pc := 20) dX10_value_20 rfl ?_
    obtain ⟨k9, ek9, hf⟩ := tq_be hf
    refine tq_getR (M := mX10_value) (pc := 21) tk_c10 (by decide) dX10_value_21 tk_RX10_12 rfl ek9 ?_
    obtain ⟨k10, ek10, hf⟩ := tq_be hf
    refine tq_getR (M := mX10_value) (pc := 24) tk_c8 (by decide) dX10_value_24 tk_RX10_115 rfl ek10 ?_
    obtain ⟨⟨⟩, eu12, hf⟩ := tq_be hf
    obtain ⟨fsu12, eu12⟩ := tq_is_s eu12
    obtain ⟨v11, ev11, hf⟩ := tq_be hf
    refine tq_calV (M := mX10_value) (pc := 27) (S := [.int v7, .ref k4]) tk_y_X3_everything tk_v_X3_everything tk_RX10_119 dX10_value_27 [] rfl (S0 := _) rfl eu12 rfl (Nat.le_of_ble_eq_true rfl) (d1 := d - 1) (b1 := 0) (s1 := 0) (bc' := bc) (bs' := bs) (Q1 := fun r h9 => r = .inl (some (.long v11)) ∧ w3 = h9) (by omega) (by omega) (by omega) (w_X3_everything (by omega) ev11 (fun _ _ q => q)) (fun E h9 q => nomatch (show (Sum.inr E : tq_R) = Sum.inl _ from q.1)) (fun r9 h9 q => ?_)
    obtain ⟨q1, rfl⟩ := q
    cases (show (Sum.inl r9 : tq_R) = Sum.inl (some (.long v11)) from q1)
    obtain ⟨⟨⟩, eu14, hf⟩ := tq_be hf
    obtain ⟨fsu14, eu14⟩ := tq_is_s eu14
    obtain ⟨v13, ev13, hf⟩ := tq_be hf
    refine tq_calV (M := mX10_value) (pc := 30) (S := []) tk_y_X8_valueAt tk_v_X8_valueAt tk_RX10_232 dX10_value_30 [.int v7, .long v11] rfl (S0 := _) rfl eu14 rfl (Nat.le_of_ble_eq_true rfl) (d1 := d - 1) (b1 := 0) (s1 := 0) (bc' := bc) (bs' := bs) (Q1 := fun r h9 => r = .inl (some (.int v13)) ∧ w3 = h9) (by omega) (by omega) (by omega) (w_X8_valueAt (by omega) ev13 (fun _ _ q => q)) (fun E h9 q => nomatch (show (Sum.inr E : tq_R) = Sum.inl _ from q.1)) (fun r9 h9 q => ?_)
    obtain ⟨q1, rfl⟩ := q
    cases (show (Sum.inl r9 : tq_R) = Sum.inl (some (.int v13)) from q1)
    refine tq_iret (M := mX10_value) (pc := 33) dX10_value_33 rfl ?_
    cases (Option.some.inj hf)
    exact hQ _ _ ⟨rfl, rfl⟩
abbrev mX10_parent : tq_M := (RX10, cX10_parent, 2, (some .int), false, [], none)
def f_X10_parent (t : Nat) (a1 : Int32) (h : tq_H) : Option ((String ⊕ Int32) × tq_H) :=
  (tq_is h t 10).bind fun _ =>
  tq_tb (f_X10_needNode t a1 h) fun _ w3 =>
  (tq_gr w3 t 10 0).bind fun k4 =>
  (tq_gr w3 k4 8 5).bind fun k5 =>
  (tq_is w3 k5 5).bind fun _ =>
  (f_X5_get k5 a1 w3).bind fun v6 =>
  some (.inr v6, w3)
set_option maxHeartbeats 4000000 in
set_option maxRecDepth 20000 in
theorem w_X10_parent {l : Launch} {d : Nat} (hd9 : 7 ≤ d) {t : Nat} {a1 : Int32} {bc bs : Nat} {h : tq_H} {o : (String ⊕ Int32) × tq_H} {Q : tq_R → tq_H → Prop} (hf : f_X10_parent t a1 h = some o) (hb : ∀ E g, o = (.inl E, g) → 1 ≤ bc ∧ 6 ≤ bs) (hQ : ∀ r h9, r = tq_enI o.1 ∧ o.2 = h9 → Q r h9) : tq_C l yX10_parent cX10_parent 2 (some .int) d (0 + bc) (0 + bs) [.ref t, .int a1] h Q := by
  refine tq_body (y := yX10_parent) false (by decide +kernel) (fun z => by cases z) (Nat.le_of_ble_eq_true rfl) ?_
  show tq_W l mX10_parent d (0 + bc) (0 + bs) Q 0 [(0, .ref t), (1, .int a1)] [] h
  refine tq_more (bc := bc) (bs := bs) (by omega) (by omega) ?_
  refine tq_aload_n (M := mX10_parent) (pc := 0) dX10_parent_0 rfl ?_
  refine tq_iload_n (M := mX10_parent) (pc := 1) dX10_parent_1 rfl ?_
  obtain ⟨⟨⟩, eu2, hf⟩ := tq_be hf
  obtain ⟨fsu2, eu2⟩ := tq_is_s eu2
  rcases tq_te hf with ⟨E1, g1, ev1, e9⟩ | ⟨v1, w3, ev1, hf⟩
  · have hb9 := hb _ _ e9
    refine tq_calV (M := mX10_parent) (pc := 2) (S := []) tk_y_X10_needNode tk_v_X10_needNode tk_RX10_146 dX10_parent_2 [.int a1] rfl (S0 := _) rfl eu2 rfl (Nat.le_of_ble_eq_true rfl) (d1 := d - 1) (b1 := 0 + bc) (s1 := 0 + bs) (bc' := 0) (bs' := 0) (Q1 := fun r h9 => r = tq_enV ((.inl E1, g1) : (String ⊕ Unit) × tq_H).1 ∧ ((.inl E1, g1) : (String ⊕ Unit) × tq_H).2 = h9) (by omega) (by omega) (by omega) (w_X10_needNode (bc := bc) (bs := bs) (by omega) ev1 (fun _ _ _ => hb9) (fun _ _ q => q)) (fun E h9 q => ?_) (fun r9 h9 q => nomatch (show (Sum.inl r9 : tq_R) = Sum.inr E1 from q.1))
    obtain ⟨q1, rfl⟩ := q
    cases (show (Sum.inr E : tq_R) = Sum.inr E1 from q1)
    subst e9
    exact tq_out rfl (hQ _ _ ⟨rfl, rfl⟩)
  · refine tq_calV (M := mX10_parent) (pc := 2) (S := []) tk_y_X10_needNode tk_v_X10_needNode tk_RX10_146 dX10_parent_2 [.int a1] rfl (S0 := _) rfl eu2 rfl (Nat.le_of_ble_eq_true rfl) (d1 := d - 1) (b1 := 0 + 0) (s1 := 0 + 0) (bc' := bc) (bs' := bs) (Q1 := fun r h9 => r = tq_enV ((.inr (), w3) : (String ⊕ Unit) × tq_H).1 ∧ ((.inr (), w3) : (String ⊕ Unit) × tq_H).2 = h9) (by omega) (by omega) (by omega) (w_X10_needNode (bc := 0) (bs := 0) (by omega) ev1 (fun E g z => by cases z) (fun _ _ q => q)) (fun E h9 q => nomatch (show (Sum.inr E : tq_R) = Sum.inl _ from q.1)) (fun r9 h9 q => ?_)
    obtain ⟨q1, rfl⟩ := q
    cases (show (Sum.inl r9 : tq_R) = Sum.inl (none) from q1)
    refine tq_aload_n (M := mX10_parent) (pc := 5) dX10_parent_5 rfl ?_
    obtain ⟨k4, ek4, hf⟩ := tq_be hf
    refine tq_getR (M := mX10_parent) (pc := 6) tk_c10 (by decide) dX10_parent_6 tk_RX10_12 rfl ek4 ?_
    obtain ⟨k5, ek5, hf⟩ := tq_be hf
    refine tq_getR (M := mX10_parent) (pc := 9) tk_c8 (by decide) dX10_parent_9 tk_RX10_236 rfl ek5 ?_
    refine tq_iload_n (M := mX10_parent) (pc := 12) dX10_parent_12 rfl ?_
    obtain ⟨⟨⟩, eu7, hf⟩ := tq_be hf
    obtain ⟨fsu7, eu7⟩ := tq_is_s eu7
    obtain ⟨v6, ev6, hf⟩ := tq_be hf
    refine tq_calV (M := mX10_parent) (pc := 13) (S := []) tk_y_X5_get tk_v_X5_get tk_RX10_162 dX10_parent_13 [.int a1] rfl (S0 := _) rfl eu7 rfl (Nat.le_of_ble_eq_true rfl) (d1 := d - 1) (b1 := 0) (s1 := 0) (bc' := bc) (bs' := bs) (Q1 := fun r h9 => r = .inl (some (.int v6)) ∧ w3 = h9) (by omega) (by omega) (by omega) (w_X5_get (by omega) ev6 (fun _ _ q => q)) (fun E h9 q => nomatch (show (Sum.inr E : tq_R) = Sum.inl _ from q.1)) (fun r9 h9 q => ?_)
    obtain ⟨q1, rfl⟩ := q
    cases (show (Sum.inl r9 : tq_R) = Sum.inl (some (.int v6)) from q1)
    refine tq_iret (M := mX10_parent) (pc := 16) dX10_parent_16 rfl ?_
    cases (Option.some.inj hf)
    exact hQ _ _ ⟨rfl, rfl⟩
abbrev mX10_needNotNegative : tq_M := (RX10, cX10_needNotNegative, 2, none, false, [], none)
def f_X10_needNotNegative (t : Nat) (a1 : Int32) (h : tq_H) : Option ((String ⊕ Unit) × tq_H) :=
  if a1 ≥ 0 then
    some (.inr (), h)
  else
    some (.inl "java/lang/IndexOutOfBoundsException", h)
set_option maxHeartbeats 4000000 in
set_option maxRecDepth 20000 in
theorem w_X10_needNotNegative {l : Launch} {d : Nat} (hd9 : 6 ≤ d) {t : Nat} {a1 : Int32} {bc bs : Nat} {h : tq_H} {o : (String ⊕ Unit) × tq_H} {Q : tq_R → tq_H → Prop} (hf : f_X10_needNotNegative t a1 h = some o) (hb : ∀ E g, o = (.inl E, g) → 1 ≤ bc ∧ 6 ≤ bs) (hQ : ∀ r h9, r = tq_enV o.1 ∧ o.2 = h9 → Q r h9) : tq_C l yX10_needNotNegative cX10_needNotNegative 2 none d (0 + bc) (0 + bs) [.ref t, .int a1] h Q := by
  refine tq_body (y := yX10_needNotNegative) false (by decide +kernel) (fun z => by cases z) (Nat.le_of_ble_eq_true rfl) ?_
  show tq_W l mX10_needNotNegative d (0 + bc) (0 + bs) Q 0 [(0, .ref t), (1, .int a1)] [] h
  refine tq_more (bc := bc) (bs := bs) (by omega) (by omega) ?_
  refine tq_iload_n (M := mX10_needNotNegative) (pc := 0) dX10_needNotNegative_0 rfl ?_
  refine tq_if_ge (M := mX10_needNotNegative) (pc := 1) (tgt := 15) dX10_needNotNegative_1 (by decide) (fun cc => ?_) (fun cc => ?_)
  · have hf := tq_ifp hf cc
    refine tq_vret (M := mX10_needNotNegative) (pc := 15) dX10_needNotNegative_15 rfl ?_
    cases (Option.some.inj hf)
    exact hQ _ _ ⟨rfl, rfl⟩
  · have hf := tq_ifn hf cc
    have hb9 := hb _ _ (Option.some.inj hf).symm
    refine tq_throw (M := mX10_needNotNegative) (pc := 4) (E := "java/lang/IndexOutOfBoundsException") (ik := 440) (ic := 444) (is := 452) (text := "a place is not below 0") (by decide +kernel) (by decide +kernel) rfl rfl dX10_needNotNegative_4 dX10_needNotNegative_7 dX10_needNotNegative_8 dX10_needNotNegative_11 dX10_needNotNegative_14 (by omega) (by omega) (by omega) ?_
    cases (Option.some.inj hf)
    exact hQ _ _ ⟨rfl, rfl⟩
abbrev mX10_child : tq_M := (RX10, cX10_child, 3, (some .int), false, [], none)
def f_X10_child (t : Nat) (a1 : Int32) (a2 : Int32) (h : tq_H) : Option ((String ⊕ Int32) × tq_H) :=
  (tq_is h t 10).bind fun _ =>
  tq_tb (f_X10_needNode t a1 h) fun _ w3 =>
  (tq_is w3 t 10).bind fun _ =>
  tq_tb (f_X10_needNotNegative t a2 w3) fun _ w6 =>
  (tq_gr w6 t 10 0).bind fun k7 =>
  (tq_gr w6 k7 8 0).bind fun k8 =>
  (tq_gr w6 t 10 0).bind fun k9 =>
  (tq_gr w6 k9 8 0).bind fun k10 =>
  (tq_gr w6 t 10 0).bind fun k11 =>
  (tq_gr w6 k11 8 0).bind fun k12 =>
  (tq_is w6 k12 3).bind fun _ =>
  (f_X3_spotOf k12 a1 w6).bind fun v13 =>
  (tq_is w6 k10 3).bind fun _ =>
  (f_X3_children k10 v13 w6).bind fun v15 =>
  (tq_is w6 k8 3).bind fun _ =>
  (f_X3_nodeOfSet k8 v15 a2 w6).bind fun v17 =>
  some (.inr v17, w6)
set_option maxHeartbeats 4000000 in
set_option maxRecDepth 20000 in
theorem w_X10_child {l : Launch} {d : Nat} (hd9 : 7 ≤ d) {t : Nat} {a1 : Int32} {a2 : Int32} {bc bs : Nat} {h : tq_H} {o : (String ⊕ Int32) × tq_H} {Q : tq_R → tq_H → Prop} (hf : f_X10_child t a1 a2 h = some o) (hb : ∀ E g, o = (.inl E, g) → 1 ≤ bc ∧ 6 ≤ bs) (hQ : ∀ r h9, r = tq_enI o.1 ∧ o.2 = h9 → Q r h9) : tq_C l yX10_child cX10_child 3 (some .int) d (0 + bc) (0 + bs) [.ref t, .int a1, .int a2] h Q := by
  refine tq_body (y := yX10_child) false (by decide +kernel) (fun z => by cases z) (Nat.le_of_ble_eq_true rfl) ?_
  show tq_W l mX10_child d (0 + bc) (0 + bs) Q 0 [(0, .ref t), (1, .int a1), (2, .int a2)] [] h
  refine tq_more (bc := bc) (bs := bs) (by omega) (by omega) ?_
  refine tq_aload_n (M := mX10_child) (pc := 0) dX10_child_0 rfl ?_
  refine tq_iload_n (M := mX10_child) (pc := 1) dX10_child_1 rfl ?_
  obtain ⟨⟨⟩, eu2, hf⟩ := tq_be hf
  obtain ⟨fsu2, eu2⟩ := tq_is_s eu2
  rcases tq_te hf with ⟨E1, g1, ev1, e9⟩ | ⟨v1, w3, ev1, hf⟩
  · have hb9 := hb _ _ e9
    refine tq_calV (M := mX10_child) (pc := 2) (S := []) tk_y_X10_needNode tk_v_X10_needNode tk_RX10_146 dX10_child_2 [.int a1] rfl (S0 := _) rfl eu2 rfl (Nat.le_of_ble_eq_true rfl) (d1 := d - 1) (b1 := 0 + bc) (s1 := 0 + bs) (bc' := 0) (bs' := 0) (Q1 := fun r h9 => r = tq_enV ((.inl E1, g1) : (String ⊕ Unit) × tq_H).1 ∧ ((.inl E1, g1) : (String ⊕ Unit) × tq_H).2 = h9) (by omega) (by omega) (by omega) (w_X10_needNode (bc := bc) (bs := bs) (by omega) ev1 (fun _ _ _ => hb9) (fun _ _ q => q)) (fun E h9 q => ?_) (fun r9 h9 q => nomatch (show (Sum.inl r9 : tq_R) = Sum.inr E1 from q.1))
    obtain ⟨q1, rfl⟩ := q
    cases (show (Sum.inr E : tq_R) = Sum.inr E1 from q1)
    subst e9
    exact tq_out rfl (hQ _ _ ⟨rfl, rfl⟩)
  · refine tq_calV (M := mX10_child) (pc := 2) (S := []) tk_y_X10_needNode tk_v_X10_needNode tk_RX10_146 dX10_child_2 [.int a1] rfl (S0 := _) rfl eu2 rfl (Nat.le_of_ble_eq_true rfl) (d1 := d - 1) (b1 := 0 + 0) (s1 := 0 + 0) (bc' := bc) (bs' := bs) (Q1 := fun r h9 => r = tq_enV ((.inr (), w3) : (String ⊕ Unit) × tq_H).1 ∧ ((.inr (), w3) : (String ⊕ Unit) × tq_H).2 = h9) (by omega) (by omega) (by omega) (w_X10_needNode (bc := 0) (bs := 0) (by omega) ev1 (fun E g z => by cases z) (fun _ _ q => q)) (fun E h9 q => nomatch (show (Sum.inr E : tq_R) = Sum.inl _ from q.1)) (fun r9 h9 q => ?_)
    obtain ⟨q1, rfl⟩ := q
    cases (show (Sum.inl r9 : tq_R) = Sum.inl (none) from q1)
    refine tq_aload_n (M := mX10_child) (pc := 5) dX10_child_5 rfl ?_
    refine tq_iload_n (M := mX10_child) (pc := 6) dX10_child_6 rfl ?_
    obtain ⟨⟨⟩, eu5, hf⟩ := tq_be hf
    obtain ⟨fsu5, eu5⟩ := tq_is_s eu5
    rcases tq_te hf with ⟨E1, g1, ev4, e9⟩ | ⟨v4, w6, ev4, hf⟩
    · have hb9 := hb _ _ e9
      refine tq_calV (M := mX10_child) (pc := 7) (S := []) tk_y_X10_needNotNegative tk_v_X10_needNotNegative tk_RX10_239 dX10_child_7 [.int a2] rfl (S0 := _) rfl eu5 rfl (Nat.le_of_ble_eq_true rfl) (d1 := d - 1) (b1 := 0 + bc) (s1 := 0 + bs) (bc' := 0) (bs' := 0) (Q1 := fun r h9 => r = tq_enV ((.inl E1, g1) : (String ⊕ Unit) × tq_H).1 ∧ ((.inl E1, g1) : (String ⊕ Unit) × tq_H).2 = h9) (by omega) (by omega) (by omega) (w_X10_needNotNegative (bc := bc) (bs := bs) (by omega) ev4 (fun _ _ _ => hb9) (fun _ _ q => q)) (fun E h9 q => ?_) (fun r9 h9 q => nomatch (show (Sum.inl r9 : tq_R) = Sum.inr E1 from q.1))
      obtain ⟨q1, rfl⟩ := q
      cases (show (Sum.inr E : tq_R) = Sum.inr E1 from q1)
      subst e9
      exact tq_out rfl (hQ _ _ ⟨rfl, rfl⟩)
    · refine tq_calV (M := mX10_child) (pc := 7) (S := []) tk_y_X10_needNotNegative tk_v_X10_needNotNegative tk_RX10_239 dX10_child_7 [.int a2] rfl (S0 := _) rfl eu5 rfl (Nat.le_of_ble_eq_true rfl) (d1 := d - 1) (b1 := 0 + 0) (s1 := 0 + 0) (bc' := bc) (bs' := bs) (Q1 := fun r h9 => r = tq_enV ((.inr (), w6) : (String ⊕ Unit) × tq_H).1 ∧ ((.inr (), w6) : (String ⊕ Unit) × tq_H).2 = h9) (by omega) (by omega) (by omega) (w_X10_needNotNegative (bc := 0) (bs := 0) (by omega) ev4 (fun E g z => by cases z) (fun _ _ q => q)) (fun E h9 q => nomatch (show (Sum.inr E : tq_R) = Sum.inl _ from q.1)) (fun r9 h9 q => ?_)
      obtain ⟨q1, rfl⟩ := q
      cases (show (Sum.inl r9 : tq_R) = Sum.inl (none) from q1)
      refine tq_aload_n (M := mX10_child) (pc := 10) dX10_child_10 rfl ?_
      obtain ⟨k7, ek7, hf⟩ := tq_be hf
      refine tq_getR (M := mX10_child) (pc := 11) tk_c10 (by decide) dX10_child_11 tk_RX10_12 rfl ek7 ?_
      obtain ⟨k8, ek8, hf⟩ := tq_be hf
      refine tq_getR (M := mX10_child) (pc := 14) tk_c8 (by decide) dX10_child_14 tk_RX10_115 rfl ek8 ?_
      refine tq_aload_n (M := mX10_child) (pc := 17) dX10_child_17 rfl ?_
      obtain ⟨k9, ek9, hf⟩ := tq_be hf
      refine tq_getR (M := mX10_child) (pc := 18) tk_c10 (by decide) dX10_child_18 tk_RX10_12 rfl ek9 ?_
      obtain ⟨k10, ek10, hf⟩ := tq_be hf
      refine tq_getR (M := mX10_child) (pc := 21) tk_c8 (by decide) dX10_child_21 tk_RX10_115 rfl ek10 ?_
      refine tq_aload_n (M := mX10_child) (pc := 24) dX10_child_24 rfl ?_
      obtain ⟨k11, ek11, hf⟩ := tq_be hf
      refine tq_getR (M := mX10_child) (pc := 25) tk_c10 (by decide) dX10_child_25 tk_RX10_12 rfl ek11 ?_
      obtain ⟨k12, ek12, hf⟩ := tq_be hf
      refine tq_getR (M := mX10_child) (pc := 28) tk_c8 (by decide) dX10_child_28 tk_RX10_115 rfl ek12 ?_
      refine tq_iload_n (M := mX10_child) (pc := 31) dX10_child_31 rfl ?_
      obtain ⟨⟨⟩, eu14, hf⟩ := tq_be hf
      obtain ⟨fsu14, eu14⟩ := tq_is_s eu14
      obtain ⟨v13, ev13, hf⟩ := tq_be hf
      refine tq_calV (M := mX10_child) (pc := 32) (S := [.ref k10, .ref k8]) tk_y_X3_spotOf tk_v_X3_spotOf tk_RX10_229 dX10_child_32 [.int a1] rfl (S0 := _) rfl eu14 rfl (Nat.le_of_ble_eq_true rfl) (d1 := d - 1) (b1 := 0) (s1 := 0) (bc' := bc) (bs' := bs) (Q1 := fun r h9 => r = .inl (some (.int v13)) ∧ w6 = h9) (by omega) (by omega) (by omega) (w_X3_spotOf (by omega) ev13 (fun _ _ q => q)) (fun E h9 q => nomatch (show (Sum.inr E : tq_R) = Sum.inl _ from q.1)) (fun r9 h9 q => ?_)
      obtain ⟨q1, rfl⟩ := q
      cases (show (Sum.inl r9 : tq_R) = Sum.inl (some (.int v13)) from q1)
      obtain ⟨⟨⟩, eu16, hf⟩ := tq_be hf
      obtain ⟨fsu16, eu16⟩ := tq_is_s eu16
      obtain ⟨v15, ev15, hf⟩ := tq_be hf
      refine tq_calV (M := mX10_child) (pc := 35) (S := [.ref k8]) tk_y_X3_children tk_v_X3_children tk_RX10_242 dX10_child_35 [.int v13] rfl (S0 := _) rfl eu16 rfl (Nat.le_of_ble_eq_true rfl) (d1 := d - 1) (b1 := 0) (s1 := 0) (bc' := bc) (bs' := bs) (Q1 := fun r h9 => r = .inl (some (.long v15)) ∧ w6 = h9) (by omega) (by omega) (by omega) (w_X3_children (by omega) ev15 (fun _ _ q => q)) (fun E h9 q => nomatch (show (Sum.inr E : tq_R) = Sum.inl _ from q.1)) (fun r9 h9 q => ?_)
      obtain ⟨q1, rfl⟩ := q
      cases (show (Sum.inl r9 : tq_R) = Sum.inl (some (.long v15)) from q1)
      refine tq_iload_n (M := mX10_child) (pc := 38) dX10_child_38 rfl ?_
      obtain ⟨⟨⟩, eu18, hf⟩ := tq_be hf
      obtain ⟨fsu18, eu18⟩ := tq_is_s eu18
      obtain ⟨v17, ev17, hf⟩ := tq_be hf
      refine tq_calV (M := mX10_child) (pc := 39) (S := []) tk_y_X3_nodeOfSet tk_v_X3_nodeOfSet tk_RX10_246 dX10_child_39 [.long v15, .int a2] rfl (S0 := _) rfl eu18 rfl (Nat.le_of_ble_eq_true rfl) (d1 := d - 1) (b1 := 0) (s1 := 0) (bc' := bc) (bs' := bs) (Q1 := fun r h9 => r = .inl (some (.int v17)) ∧ w6 = h9) (by omega) (by omega) (by omega) (w_X3_nodeOfSet (by omega) ev17 (fun _ _ q => q)) (fun E h9 q => nomatch (show (Sum.inr E : tq_R) = Sum.inl _ from q.1)) (fun r9 h9 q => ?_)
      obtain ⟨q1, rfl⟩ := q
      cases (show (Sum.inl r9 : tq_R) = Sum.inl (some (.int v17)) from q1)
      refine tq_iret (M := mX10_child) (pc := 42) dX10_child_42 rfl ?_
      cases (Option.some.inj hf)
      exact hQ _ _ ⟨rfl, rfl⟩
abbrev mX10_space : tq_M := (RX10, cX10_space, 2, (some .int), false, [], none)
def f_X10_space (t : Nat) (a1 : Int32) (h : tq_H) : Option ((String ⊕ Int32) × tq_H) :=
  (tq_is h t 10).bind fun _ =>
  tq_tb (f_X10_needNode t a1 h) fun _ w3 =>
  (tq_gr w3 t 10 0).bind fun k4 =>
  (tq_gr w3 k4 8 0).bind fun k5 =>
  (tq_gr w3 t 10 0).bind fun k6 =>
  (tq_gr w3 k6 8 0).bind fun k7 =>
  (tq_is w3 k7 3).bind fun _ =>
  (f_X3_spotOf k7 a1 w3).bind fun v8 =>
  (tq_is w3 k5 3).bind fun _ =>
  (f_X3_spaceAt k5 v8 w3).bind fun v10 =>
  some (.inr v10, w3)
set_option maxHeartbeats 4000000 in
set_option maxRecDepth 20000 in
theorem w_X10_space {l : Launch} {d : Nat} (hd9 : 7 ≤ d) {t : Nat} {a1 : Int32} {bc bs : Nat} {h : tq_H} {o : (String ⊕ Int32) × tq_H} {Q : tq_R → tq_H → Prop} (hf : f_X10_space t a1 h = some o) (hb : ∀ E g, o = (.inl E, g) → 1 ≤ bc ∧ 6 ≤ bs) (hQ : ∀ r h9, r = tq_enI o.1 ∧ o.2 = h9 → Q r h9) : tq_C l yX10_space cX10_space 2 (some .int) d (0 + bc) (0 + bs) [.ref t, .int a1] h Q := by
  refine tq_body (y := yX10_space) false (by decide +kernel) (fun z => by cases z) (Nat.le_of_ble_eq_true rfl) ?_
  show tq_W l mX10_space d (0 + bc) (0 + bs) Q 0 [(0, .ref t), (1, .int a1)] [] h
  refine tq_more (bc := bc) (bs := bs) (by omega) (by omega) ?_
  refine tq_aload_n (M := mX10_space) (pc := 0) dX10_space_0 rfl ?_
  refine tq_iload_n (M := mX10_space) (pc := 1) dX10_space_1 rfl ?_
  obtain ⟨⟨⟩, eu2, hf⟩ := tq_be hf
  obtain ⟨fsu2, eu2⟩ := tq_is_s eu2
  rcases tq_te hf with ⟨E1, g1, ev1, e9⟩ | ⟨v1, w3, ev1, hf⟩
  · have hb9 := hb _ _ e9
    refine tq_calV (M := mX10_space) (pc := 2) (S := []) tk_y_X10_needNode tk_v_X10_needNode tk_RX10_146 dX10_space_2 [.int a1] rfl (S0 := _) rfl eu2 rfl (Nat.le_of_ble_eq_true rfl) (d1 := d - 1) (b1 := 0 + bc) (s1 := 0 + bs) (bc' := 0) (bs' := 0) (Q1 := fun r h9 => r = tq_enV ((.inl E1, g1) : (String ⊕ Unit) × tq_H).1 ∧ ((.inl E1, g1) : (String ⊕ Unit) × tq_H).2 = h9) (by omega) (by omega) (by omega) (w_X10_needNode (bc := bc) (bs := bs) (by omega) ev1 (fun _ _ _ => hb9) (fun _ _ q => q)) (fun E h9 q => ?_) (fun r9 h9 q => nomatch (show (Sum.inl r9 : tq_R) = Sum.inr E1 from q.1))
    obtain ⟨q1, rfl⟩ := q
    cases (show (Sum.inr E : tq_R) = Sum.inr E1 from q1)
    subst e9
    exact tq_out rfl (hQ _ _ ⟨rfl, rfl⟩)
  · refine tq_calV (M := mX10_space) (pc := 2) (S := []) tk_y_X10_needNode tk_v_X10_needNode tk_RX10_146 dX10_space_2 [.int a1] rfl (S0 := _) rfl eu2 rfl (Nat.le_of_ble_eq_true rfl) (d1 := d - 1) (b1 := 0 + 0) (s1 := 0 + 0) (bc' := bc) (bs' := bs) (Q1 := fun r h9 => r = tq_enV ((.inr (), w3) : (String ⊕ Unit) × tq_H).1 ∧ ((.inr (), w3) : (String ⊕ Unit) × tq_H).2 = h9) (by omega) (by omega) (by omega) (w_X10_needNode (bc := 0) (bs := 0) (by omega) ev1 (fun E g z => by cases z) (fun _ _ q => q)) (fun E h9 q => nomatch (show (Sum.inr E : tq_R) = Sum.inl _ from q.1)) (fun r9 h9 q => ?_)
    obtain ⟨q1, rfl⟩ := q
    cases (show (Sum.inl r9 : tq_R) = Sum.inl (none) from q1)
    refine tq_aload_n (M := mX10_space) (pc := 5) dX10_space_5 rfl ?_
    obtain ⟨k4, ek4, hf⟩ := tq_be hf
    refine tq_getR (M := mX10_space) (pc := 6) tk_c10 (by decide) dX10_space_6 tk_RX10_12 rfl ek4 ?_
    obtain ⟨k5, ek5, hf⟩ := tq_be hf
    refine tq_getR (M := mX10_space) (pc := 9) tk_c8 (by decide) dX10_space_9 tk_RX10_115 rfl ek5 ?_
    refine tq_aload_n (M := mX10_space) (pc := 12) dX10_space_12 rfl ?_
    obtain ⟨k6, ek6, hf⟩ := tq_be hf
    refine tq_getR (M := mX10_space) (pc := 13) tk_c10 (by decide) dX10_space_13 tk_RX10_12 rfl ek6 ?_
    obtain ⟨k7, ek7, hf⟩ := tq_be hf
    refine tq_getR (M := mX10_space) (pc := 16) tk_c8 (by decide) dX10_space_16 tk_RX10_115 rfl ek7 ?_
    refine tq_iload_n (M := mX10_space) (pc := 19) dX10_space_19 rfl ?_
    obtain ⟨⟨⟩, eu9, hf⟩ := tq_be hf
    obtain ⟨fsu9, eu9⟩ := tq_is_s eu9
    obtain ⟨v8, ev8, hf⟩ := tq_be hf
    refine tq_calV (M := mX10_space) (pc := 20) (S := [.ref k5]) tk_y_X3_spotOf tk_v_X3_spotOf tk_RX10_229 dX10_space_20 [.int a1] rfl (S0 := _) rfl eu9 rfl (Nat.le_of_ble_eq_true rfl) (d1 := d - 1) (b1 := 0) (s1 := 0) (bc' := bc) (bs' := bs) (Q1 := fun r h9 => r = .inl (some (.int v8)) ∧ w3 = h9) (by omega) (by omega) (by omega) (w_X3_spotOf (by omega) ev8 (fun _ _ q => q)) (fun E h9 q => nomatch (show (Sum.inr E : tq_R) = Sum.inl _ from q.1)) (fun r9 h9 q => ?_)
    obtain ⟨q1, rfl⟩ := q
    cases (show (Sum.inl r9 : tq_R) = Sum.inl (some (.int v8)) from q1)
    obtain ⟨⟨⟩, eu11, hf⟩ := tq_be hf
    obtain ⟨fsu11, eu11⟩ := tq_is_s eu11
    obtain ⟨v10, ev10, hf⟩ := tq_be hf
    refine tq_calV (M := mX10_space) (pc := 23) (S := []) tk_y_X3_spaceAt tk_v_X3_spaceAt tk_RX10_250 dX10_space_23 [.int v8] rfl (S0 := _) rfl eu11 rfl (Nat.le_of_ble_eq_true rfl) (d1 := d - 1) (b1 := 0) (s1 := 0) (bc' := bc) (bs' := bs) (Q1 := fun r h9 => r = .inl (some (.int v10)) ∧ w3 = h9) (by omega) (by omega) (by omega) (w_X3_spaceAt (by omega) ev10 (fun _ _ q => q)) (fun E h9 q => nomatch (show (Sum.inr E : tq_R) = Sum.inl _ from q.1)) (fun r9 h9 q => ?_)
    obtain ⟨q1, rfl⟩ := q
    cases (show (Sum.inl r9 : tq_R) = Sum.inl (some (.int v10)) from q1)
    refine tq_iret (M := mX10_space) (pc := 26) dX10_space_26 rfl ?_
    cases (Option.some.inj hf)
    exact hQ _ _ ⟨rfl, rfl⟩
abbrev mX10_number : tq_M := (RX10, cX10_number, 2, (some .int), false, [], none)
def f_X10_number (t : Nat) (a1 : Int32) (h : tq_H) : Option ((String ⊕ Int32) × tq_H) :=
  (tq_is h t 10).bind fun _ =>
  tq_tb (f_X10_needNode t a1 h) fun _ w3 =>
  (tq_gr w3 t 10 0).bind fun k4 =>
  (tq_gr w3 k4 8 6).bind fun k5 =>
  (tq_is w3 k5 5).bind fun _ =>
  (f_X5_get k5 a1 w3).bind fun v6 =>
  some (.inr v6, w3)
set_option maxHeartbeats 4000000 in
set_option maxRecDepth 20000 in
theorem w_X10_number {l : Launch} {d : Nat} (hd9 : 7 ≤ d) {t : Nat} {a1 : Int32} {bc bs : Nat} {h : tq_H} {o : (String ⊕ Int32) × tq_H} {Q : tq_R → tq_H → Prop} (hf : f_X10_number t a1 h = some o) (hb : ∀ E g, o = (.inl E, g) → 1 ≤ bc ∧ 6 ≤ bs) (hQ : ∀ r h9, r = tq_enI o.1 ∧ o.2 = h9 → Q r h9) : tq_C l yX10_number cX10_number 2 (some .int) d (0 + bc) (0 + bs) [.ref t, .int a1] h Q := by
  refine tq_body (y := yX10_number) false (by decide +kernel) (fun z => by cases z) (Nat.le_of_ble_eq_true rfl) ?_
  show tq_W l mX10_number d (0 + bc) (0 + bs) Q 0 [(0, .ref t), (1, .int a1)] [] h
  refine tq_more (bc := bc) (bs := bs) (by omega) (by omega) ?_
  refine tq_aload_n (M := mX10_number) (pc := 0) dX10_number_0 rfl ?_
  refine tq_iload_n (M := mX10_number) (pc := 1) dX10_number_1 rfl ?_
  obtain ⟨⟨⟩, eu2, hf⟩ := tq_be hf
  obtain ⟨fsu2, eu2⟩ := tq_is_s eu2
  rcases tq_te hf with ⟨E1, g1, ev1, e9⟩ | ⟨v1, w3, ev1, hf⟩
  · have hb9 := hb _ _ e9
    refine tq_calV (M := mX10_number) (pc := 2) (S := []) tk_y_X10_needNode tk_v_X10_needNode tk_RX10_146 dX10_number_2 [.int a1] rfl (S0 := _) rfl eu2 rfl (Nat.le_of_ble_eq_true rfl) (d1 := d - 1) (b1 := 0 + bc) (s1 := 0 + bs) (bc' := 0) (bs' := 0) (Q1 := fun r h9 => r = tq_enV ((.inl E1, g1) : (String ⊕ Unit) × tq_H).1 ∧ ((.inl E1, g1) : (String ⊕ Unit) × tq_H).2 = h9) (by omega) (by omega) (by omega) (w_X10_needNode (bc := bc) (bs := bs) (by omega) ev1 (fun _ _ _ => hb9) (fun _ _ q => q)) (fun E h9 q => ?_) (fun r9 h9 q => nomatch (show (Sum.inl r9 : tq_R) = Sum.inr E1 from q.1))
    obtain ⟨q1, rfl⟩ := q
    cases (show (Sum.inr E : tq_R) = Sum.inr E1 from q1)
    subst e9
    exact tq_out rfl (hQ _ _ ⟨rfl, rfl⟩)
  · refine tq_calV (M := mX10_number) (pc := 2) (S := []) tk_y_X10_needNode tk_v_X10_needNode tk_RX10_146 dX10_number_2 [.int a1] rfl (S0 := _) rfl eu2 rfl (Nat.le_of_ble_eq_true rfl) (d1 := d - 1) (b1 := 0 + 0) (s1 := 0 + 0) (bc' := bc) (bs' := bs) (Q1 := fun r h9 => r = tq_enV ((.inr (), w3) : (String ⊕ Unit) × tq_H).1 ∧ ((.inr (), w3) : (String ⊕ Unit) × tq_H).2 = h9) (by omega) (by omega) (by omega) (w_X10_needNode (bc := 0) (bs := 0) (by omega) ev1 (fun E g z => by cases z) (fun _ _ q => q)) (fun E h9 q => nomatch (show (Sum.inr E : tq_R) = Sum.inl _ from q.1)) (fun r9 h9 q => ?_)
    obtain ⟨q1, rfl⟩ := q
    cases (show (Sum.inl r9 : tq_R) = Sum.inl (none) from q1)
    refine tq_aload_n (M := mX10_number) (pc := 5) dX10_number_5 rfl ?_
    obtain ⟨k4, ek4, hf⟩ := tq_be hf
    refine tq_getR (M := mX10_number) (pc := 6) tk_c10 (by decide) dX10_number_6 tk_RX10_12 rfl ek4 ?_
    obtain ⟨k5, ek5, hf⟩ := tq_be hf
    refine tq_getR (M := mX10_number) (pc := 9) tk_c8 (by decide) dX10_number_9 tk_RX10_253 rfl ek5 ?_
    refine tq_iload_n (M := mX10_number) (pc := 12) dX10_number_12 rfl ?_
    obtain ⟨⟨⟩, eu7, hf⟩ := tq_be hf
    obtain ⟨fsu7, eu7⟩ := tq_is_s eu7
    obtain ⟨v6, ev6, hf⟩ := tq_be hf
    refine tq_calV (M := mX10_number) (pc := 13) (S := []) tk_y_X5_get tk_v_X5_get tk_RX10_162 dX10_number_13 [.int a1] rfl (S0 := _) rfl eu7 rfl (Nat.le_of_ble_eq_true rfl) (d1 := d - 1) (b1 := 0) (s1 := 0) (bc' := bc) (bs' := bs) (Q1 := fun r h9 => r = .inl (some (.int v6)) ∧ w3 = h9) (by omega) (by omega) (by omega) (w_X5_get (by omega) ev6 (fun _ _ q => q)) (fun E h9 q => nomatch (show (Sum.inr E : tq_R) = Sum.inl _ from q.1)) (fun r9 h9 q => ?_)
    obtain ⟨q1, rfl⟩ := q
    cases (show (Sum.inl r9 : tq_R) = Sum.inl (some (.int v6)) from q1)
    refine tq_iret (M := mX10_number) (pc := 16) dX10_number_16 rfl ?_
    cases (Option.some.inj hf)
    exact hQ _ _ ⟨rfl, rfl⟩
abbrev mX10_numbered : tq_M := (RX10, cX10_numbered, 1, (some .int), false, [], none)
def f_X10_numbered (t : Nat) (h : tq_H) : Option (Int32) :=
  (tq_gi h t 10 14).bind fun x1 =>
  some x1
set_option maxHeartbeats 4000000 in
set_option maxRecDepth 20000 in
theorem w_X10_numbered {l : Launch} {d : Nat} (hd9 : 0 ≤ d) {t : Nat} {h : tq_H} {o : Int32} {Q : tq_R → tq_H → Prop} (hf : f_X10_numbered t h = some o) (hQ : ∀ r h9, r = .inl (some (.int o)) ∧ h = h9 → Q r h9) : tq_C l yX10_numbered cX10_numbered 1 (some .int) d 0 0 [.ref t] h Q := by
  refine tq_body (y := yX10_numbered) false (by decide +kernel) (fun z => by cases z) (Nat.le_of_ble_eq_true rfl) ?_
  show tq_W l mX10_numbered d 0 0 Q 0 [(0, .ref t)] [] h
  refine tq_aload_n (M := mX10_numbered) (pc := 0) dX10_numbered_0 rfl ?_
  obtain ⟨x1, ex1, hf⟩ := tq_be hf
  refine tq_getI (M := mX10_numbered) (pc := 1) tk_c10 (by decide) dX10_numbered_1 tk_RX10_88 rfl ex1 ?_
  refine tq_iret (M := mX10_numbered) (pc := 4) dX10_numbered_4 rfl ?_
  cases (Option.some.inj hf)
  exact hQ _ _ ⟨rfl, rfl⟩
abbrev mX10_path : tq_M := (RX10, cX10_path, 1, (some .int), false, [], none)
def f_X10_path (t : Nat) (h : tq_H) : Option ((String ⊕ Int32) × tq_H) :=
  (tq_gr h t 10 3).bind fun k1 =>
  (tq_is h k1 4).bind fun _ =>
  (f_X4_count k1 h).bind fun v2 =>
  if v2 < (20 : Int32) then
    (tq_gr h t 10 3).bind fun k4 =>
    (tq_is h k4 4).bind fun _ =>
    (f_X4_addPath k4 h).bind fun v5 =>
    some (.inr v5.1, v5.2)
  else
    some (.inl "java/lang/IllegalStateException", h)
set_option maxHeartbeats 4000000 in
set_option maxRecDepth 20000 in
theorem w_X10_path {l : Launch} {d : Nat} (hd9 : 6 ≤ d) {t : Nat} {bc bs : Nat} {h : tq_H} {o : (String ⊕ Int32) × tq_H} {Q : tq_R → tq_H → Prop} (hf : f_X10_path t h = some o) (hb : ∀ E g, o = (.inl E, g) → 1 ≤ bc ∧ 6 ≤ bs) (hQ : ∀ r h9, r = tq_enI o.1 ∧ o.2 = h9 → Q r h9) : tq_C l yX10_path cX10_path 1 (some .int) d (0 + bc) (0 + bs) [.ref t] h Q := by
  refine tq_body (y := yX10_path) false (by decide +kernel) (fun z => by cases z) (Nat.le_of_ble_eq_true rfl) ?_
  show tq_W l mX10_path d (0 + bc) (0 + bs) Q 0 [(0, .ref t)] [] h
  refine tq_more (bc := bc) (bs := bs) (by omega) (by omega) ?_
  refine tq_aload_n (M := mX10_path) (pc := 0) dX10_path_0 rfl ?_
  obtain ⟨k1, ek1, hf⟩ := tq_be hf
  refine tq_getR (M := mX10_path) (pc := 1) tk_c10 (by decide) dX10_path_1 tk_RX10_29 rfl ek1 ?_
  obtain ⟨⟨⟩, eu3, hf⟩ := tq_be hf
  obtain ⟨fsu3, eu3⟩ := tq_is_s eu3
  obtain ⟨v2, ev2, hf⟩ := tq_be hf
  refine tq_calV (M := mX10_path) (pc := 4) (S := []) tk_y_X4_count tk_v_X4_count tk_RX10_256 dX10_path_4 [] rfl (S0 := _) rfl eu3 rfl (Nat.le_of_ble_eq_true rfl) (d1 := d - 1) (b1 := 0) (s1 := 0) (bc' := bc) (bs' := bs) (Q1 := fun r h9 => r = .inl (some (.int v2)) ∧ h = h9) (by omega) (by omega) (by omega) (w_X4_count (by omega) ev2 (fun _ _ q => q)) (fun E h9 q => nomatch (show (Sum.inr E : tq_R) = Sum.inl _ from q.1)) (fun r9 h9 q => ?_)
  obtain ⟨q1, rfl⟩ := q
  cases (show (Sum.inl r9 : tq_R) = Sum.inl (some (.int v2)) from q1)
  refine tq_bipush (M := mX10_path) (pc := 7) dX10_path_7 tk_kb_20 ?_
  refine tq_icmp_lt (M := mX10_path) (pc := 9) (tgt := 23) dX10_path_9 (by decide) (fun cc => ?_) (fun cc => ?_)
  · have hf := tq_ifp hf cc
    refine tq_aload_n (M := mX10_path) (pc := 23) dX10_path_23 rfl ?_
    obtain ⟨k4, ek4, hf⟩ := tq_be hf
    refine tq_getR (M := mX10_path) (pc := 24) tk_c10 (by decide) dX10_path_24 tk_RX10_29 rfl ek4 ?_
    obtain ⟨⟨⟩, eu6, hf⟩ := tq_be hf
    obtain ⟨fsu6, eu6⟩ := tq_is_s eu6
    obtain ⟨v5, ev5, hf⟩ := tq_be hf
    refine tq_calV (M := mX10_path) (pc := 27) (S := []) tk_y_X4_addPath tk_v_X4_addPath tk_RX10_259 dX10_path_27 [] rfl (S0 := _) rfl eu6 rfl (Nat.le_of_ble_eq_true rfl) (d1 := d - 1) (b1 := 0) (s1 := 0) (bc' := bc) (bs' := bs) (Q1 := fun r h9 => r = .inl (some (.int v5.1)) ∧ v5.2 = h9) (by omega) (by omega) (by omega) (w_X4_addPath (by omega) ev5 (fun _ _ q => q)) (fun E h9 q => nomatch (show (Sum.inr E : tq_R) = Sum.inl _ from q.1)) (fun r9 h9 q => ?_)
    obtain ⟨q1, rfl⟩ := q
    cases (show (Sum.inl r9 : tq_R) = Sum.inl (some (.int v5.1)) from q1)
    refine tq_iret (M := mX10_path) (pc := 30) dX10_path_30 rfl ?_
    cases (Option.some.inj hf)
    exact hQ _ _ ⟨rfl, rfl⟩
  · have hf := tq_ifn hf cc
    have hb9 := hb _ _ (Option.some.inj hf).symm
    refine tq_throw (M := mX10_path) (pc := 12) (E := "java/lang/IllegalStateException") (ik := 149) (ic := 153) (is := 257) (text := "there are 20 paths") (by decide +kernel) (by decide +kernel) rfl rfl dX10_path_12 dX10_path_15 dX10_path_16 dX10_path_19 dX10_path_22 (by omega) (by omega) (by omega) ?_
    cases (Option.some.inj hf)
    exact hQ _ _ ⟨rfl, rfl⟩
abbrev mX10_needPath : tq_M := (RX10, cX10_needPath, 2, none, false, [], none)
def f_X10_needPath (t : Nat) (a1 : Int32) (h : tq_H) : Option ((String ⊕ Unit) × tq_H) :=
  if a1 < 0 then
    some (.inl "java/lang/IndexOutOfBoundsException", h)
  else
    (tq_gr h t 10 3).bind fun k1 =>
    (tq_is h k1 4).bind fun _ =>
    (f_X4_count k1 h).bind fun v2 =>
    if a1 < v2 then
      some (.inr (), h)
    else
      some (.inl "java/lang/IndexOutOfBoundsException", h)
set_option maxHeartbeats 4000000 in
set_option maxRecDepth 20000 in
theorem w_X10_needPath {l : Launch} {d : Nat} (hd9 : 6 ≤ d) {t : Nat} {a1 : Int32} {bc bs : Nat} {h : tq_H} {o : (String ⊕ Unit) × tq_H} {Q : tq_R → tq_H → Prop} (hf : f_X10_needPath t a1 h = some o) (hb : ∀ E g, o = (.inl E, g) → 1 ≤ bc ∧ 6 ≤ bs) (hQ : ∀ r h9, r = tq_enV o.1 ∧ o.2 = h9 → Q r h9) : tq_C l yX10_needPath cX10_needPath 2 none d (0 + bc) (0 + bs) [.ref t, .int a1] h Q := by
  refine tq_body (y := yX10_needPath) false (by decide +kernel) (fun z => by cases z) (Nat.le_of_ble_eq_true rfl) ?_
  show tq_W l mX10_needPath d (0 + bc) (0 + bs) Q 0 [(0, .ref t), (1, .int a1)] [] h
  refine tq_more (bc := bc) (bs := bs) (by omega) (by omega) ?_
  refine tq_iload_n (M := mX10_needPath) (pc := 0) dX10_needPath_0 rfl ?_
  refine tq_if_lt (M := mX10_needPath) (pc := 1) (tgt := 15) dX10_needPath_1 (by decide) (fun cc => ?_) (fun cc => ?_)
  · have hf := tq_ifp hf cc
    have hb9 := hb _ _ (Option.some.inj hf).symm
    refine tq_throw (M := mX10_needPath) (pc := 15) (E := "java/lang/IndexOutOfBoundsException") (ik := 440) (ic := 444) (is := 462) (text := "there is no such path") (by decide +kernel) (by decide +kernel) rfl rfl dX10_needPath_15 dX10_needPath_18 dX10_needPath_19 dX10_needPath_22 dX10_needPath_25 (by omega) (by omega) (by omega) ?_
    cases (Option.some.inj hf)
    exact hQ _ _ ⟨rfl, rfl⟩
  · have hf := tq_ifn hf cc
    refine tq_iload_n (M := mX10_needPath) (pc := 4) dX10_needPath_4 rfl ?_
    refine tq_aload_n (M := mX10_needPath) (pc := 5) dX10_needPath_5 rfl ?_
    obtain ⟨k1, ek1, hf⟩ := tq_be hf
    refine tq_getR (M := mX10_needPath) (pc := 6) tk_c10 (by decide) dX10_needPath_6 tk_RX10_29 rfl ek1 ?_
    obtain ⟨⟨⟩, eu3, hf⟩ := tq_be hf
    obtain ⟨fsu3, eu3⟩ := tq_is_s eu3
    obtain ⟨v2, ev2, hf⟩ := tq_be hf
    refine tq_calV (M := mX10_needPath) (pc := 9) (S := [.int a1]) tk_y_X4_count tk_v_X4_count tk_RX10_256 dX10_needPath_9 [] rfl (S0 := _) rfl eu3 rfl (Nat.le_of_ble_eq_true rfl) (d1 := d - 1) (b1 := 0) (s1 := 0) (bc' := bc) (bs' := bs) (Q1 := fun r h9 => r = .inl (some (.int v2)) ∧ h = h9) (by omega) (by omega) (by omega) (w_X4_count (by omega) ev2 (fun _ _ q => q)) (fun E h9 q => nomatch (show (Sum.inr E : tq_R) = Sum.inl _ from q.1)) (fun r9 h9 q => ?_)
    obtain ⟨q1, rfl⟩ := q
    cases (show (Sum.inl r9 : tq_R) = Sum.inl (some (.int v2)) from q1)
    refine tq_icmp_lt (M := mX10_needPath) (pc := 12) (tgt := 26) dX10_needPath_12 (by decide) (fun cc => ?_) (fun cc => ?_)
    · have hf := tq_ifp hf cc
      refine tq_vret (M := mX10_needPath) (pc := 26) dX10_needPath_26 rfl ?_
      cases (Option.some.inj hf)
      exact hQ _ _ ⟨rfl, rfl⟩
    · have hf := tq_ifn hf cc
      have hb9 := hb _ _ (Option.some.inj hf).symm
      refine tq_throw (M := mX10_needPath) (pc := 15) (E := "java/lang/IndexOutOfBoundsException") (ik := 440) (ic := 444) (is := 462) (text := "there is no such path") (by decide +kernel) (by decide +kernel) rfl rfl dX10_needPath_15 dX10_needPath_18 dX10_needPath_19 dX10_needPath_22 dX10_needPath_25 (by omega) (by omega) (by omega) ?_
      cases (Option.some.inj hf)
      exact hQ _ _ ⟨rfl, rfl⟩
abbrev mX10_needLower : tq_M := (RX10, cX10_needLower, 3, none, false, [], none)
def f_X10_needLower (t : Nat) (a1 : Int32) (a2 : Int32) (h : tq_H) : Option ((String ⊕ Unit) × tq_H) :=
  if a2 < 0 then
    some (.inl "java/lang/IndexOutOfBoundsException", h)
  else
    if a2 < a1 then
      some (.inr (), h)
    else
      some (.inl "java/lang/IndexOutOfBoundsException", h)
set_option maxHeartbeats 4000000 in
set_option maxRecDepth 20000 in
theorem w_X10_needLower {l : Launch} {d : Nat} (hd9 : 6 ≤ d) {t : Nat} {a1 : Int32} {a2 : Int32} {bc bs : Nat} {h : tq_H} {o : (String ⊕ Unit) × tq_H} {Q : tq_R → tq_H → Prop} (hf : f_X10_needLower t a1 a2 h = some o) (hb : ∀ E g, o = (.inl E, g) → 1 ≤ bc ∧ 6 ≤ bs) (hQ : ∀ r h9, r = tq_enV o.1 ∧ o.2 = h9 → Q r h9) : tq_C l yX10_needLower cX10_needLower 3 none d (0 + bc) (0 + bs) [.ref t, .int a1, .int a2] h Q := by
  refine tq_body (y := yX10_needLower) false (by decide +kernel) (fun z => by cases z) (Nat.le_of_ble_eq_true rfl) ?_
  show tq_W l mX10_needLower d (0 + bc) (0 + bs) Q 0 [(0, .ref t), (1, .int a1), (2, .int a2)] [] h
  refine tq_more (bc := bc) (bs := bs) (by omega) (by omega) ?_
  refine tq_iload_n (M := mX10_needLower) (pc := 0) dX10_needLower_0 rfl ?_
  refine tq_if_lt (M := mX10_needLower) (pc := 1) (tgt := 9) dX10_needLower_1 (by decide) (fun cc => ?_) (fun cc => ?_)
  · have hf := tq_ifp hf cc
    have hb9 := hb _ _ (Option.some.inj hf).symm
    refine tq_throw (M := mX10_needLower) (pc := 9) (E := "java/lang/IndexOutOfBoundsException") (ik := 440) (ic := 444) (is := 464) (text := "it is no lower path") (by decide +kernel) (by decide +kernel) rfl rfl dX10_needLower_9 dX10_needLower_12 dX10_needLower_13 dX10_needLower_16 dX10_needLower_19 (by omega) (by omega) (by omega) ?_
    cases (Option.some.inj hf)
    exact hQ _ _ ⟨rfl, rfl⟩
  · have hf := tq_ifn hf cc
    refine tq_iload_n (M := mX10_needLower) (pc := 4) dX10_needLower_4 rfl ?_
    refine tq_iload_n (M := mX10_needLower) (pc := 5) dX10_needLower_5 rfl ?_
    refine tq_icmp_lt (M := mX10_needLower) (pc := 6) (tgt := 20) dX10_needLower_6 (by decide) (fun cc => ?_) (fun cc => ?_)
    · have hf := tq_ifp hf cc
      refine tq_vret (M := mX10_needLower) (pc := 20) dX10_needLower_20 rfl ?_
      cases (Option.some.inj hf)
      exact hQ _ _ ⟨rfl, rfl⟩
    · have hf := tq_ifn hf cc
      have hb9 := hb _ _ (Option.some.inj hf).symm
      refine tq_throw (M := mX10_needLower) (pc := 9) (E := "java/lang/IndexOutOfBoundsException") (ik := 440) (ic := 444) (is := 464) (text := "it is no lower path") (by decide +kernel) (by decide +kernel) rfl rfl dX10_needLower_9 dX10_needLower_12 dX10_needLower_13 dX10_needLower_16 dX10_needLower_19 (by omega) (by omega) (by omega) ?_
      cases (Option.some.inj hf)
      exact hQ _ _ ⟨rfl, rfl⟩
abbrev mX10_needOpenPath : tq_M := (RX10, cX10_needOpenPath, 3, none, false, [], none)
def f_X10_needOpenPath_b26 (i0 : Nat) (i1 : Int32) (hh : tq_H) (s : Int32) : Option ((Int32) ⊕ ((Unit) ⊕ ((String ⊕ Unit) × tq_H))) := match s with
  | y2 =>
    (tq_gi hh i0 10 13).bind fun x4 =>
    if y2 ≥ x4 then
      some (.inr (.inl ()))
    else
      (tq_gr hh i0 10 8).bind fun k5 =>
      (tq_is hh k5 5).bind fun _ =>
      (f_X5_get k5 y2 hh).bind fun v6 =>
      if v6 = i1 then
        some (.inr (.inr (.inl "java/lang/IllegalStateException", hh)))
      else
        tq_let (y2 + (1 : Int32)) fun x8 =>
        some (.inl x8)
def f_X10_needOpenPath (t : Nat) (a1 : Int32) (h : tq_H) : Option ((String ⊕ Unit) × tq_H) :=
  (tq_gr h t 10 3).bind fun k1 =>
  (tq_is h k1 4).bind fun _ =>
  (f_X4_count k1 h).bind fun v2 =>
  if a1 = (v2 - (1 : Int32)) then
    (tq_loop (f_X10_needOpenPath_b26 t a1 h) tq_N (0 : Int32)).bind fun o9 => match o9 with
    | .inl o9 =>
      some (.inr (), h)
    | .inr e9 =>
      some e9
  else
    some (.inl "java/lang/IllegalStateException", h)
set_option maxHeartbeats 4000000 in
theorem l_X10_needOpenPath_26 {l : Launch} {d : Nat} {Q : tq_R → tq_H → Prop} {bc bs : Nat} (hd9 : 6 ≤ d) (i0 : Nat) (i1 : Int32) (hh : tq_H) : ∀ (n : Nat) (y2 : Int32) (o : (Unit) ⊕ ((String ⊕ Unit) × tq_H)), tq_loop (f_X10_needOpenPath_b26 i0 i1 hh) n y2 = some o → (∀ E g, o = .inr (.inl E, g) → 1 ≤ bc ∧ 6 ≤ bs) → (match o with
    | .inl e9 => tq_W l mX10_needOpenPath d bc bs Q 63 [] [] hh
    | .inr e9 => (∀ r h9, r = tq_enV e9.1 ∧ e9.2 = h9 → Q r h9)) → tq_W l mX10_needOpenPath d bc bs Q 26 [(0, .ref i0), (1, .int i1), (2, .int y2)] [] hh := by
  intro n
  induction n with
  | zero => intro y2 o hl; cases hl
  | succ n ih =>
    intro y2 o hl hb hk
    obtain ⟨oo, hf, ho⟩ := tq_loop_s hl
    refine tq_iload_n (M := mX10_needOpenPath) (pc := 26) dX10_needOpenPath_26 rfl ?_
    refine tq_aload_n (M := mX10_needOpenPath) (pc := 27) dX10_needOpenPath_27 rfl ?_
    obtain ⟨x4, ex4, hf⟩ := tq_be hf
    refine tq_getI (M := mX10_needOpenPath) (pc := 28) tk_c10 (by decide) dX10_needOpenPath_28 tk_RX10_85 rfl ex4 ?_
    refine tq_icmp_ge (M := mX10_needOpenPath) (pc := 31) (tgt := 63) dX10_needOpenPath_31 (by decide) (fun cc => ?_) (fun cc => ?_)
    · have hf := tq_ifp hf cc
      refine tq_pick (L2 := []) [] rfl ?_
      cases (Option.some.inj hf)
      cases (tq_lx ho)
      exact hk
    · have hf := tq_ifn hf cc
      refine tq_aload_n (M := mX10_needOpenPath) (pc := 34) dX10_needOpenPath_34 rfl ?_
      obtain ⟨k5, ek5, hf⟩ := tq_be hf
      refine tq_getR (M := mX10_needOpenPath) (pc := 35) tk_c10 (by decide) dX10_needOpenPath_35 tk_RX10_61 rfl ek5 ?_
      refine tq_iload_n (M := mX10_needOpenPath) (pc := 38) dX10_needOpenPath_38 rfl ?_
      obtain ⟨⟨⟩, eu7, hf⟩ := tq_be hf
      obtain ⟨fsu7, eu7⟩ := tq_is_s eu7
      obtain ⟨v6, ev6, hf⟩ := tq_be hf
      refine tq_calV (M := mX10_needOpenPath) (pc := 39) (S := []) tk_y_X5_get tk_v_X5_get tk_RX10_162 dX10_needOpenPath_39 [.int y2] rfl (S0 := _) rfl eu7 rfl (Nat.le_of_ble_eq_true rfl) (d1 := d - 1) (b1 := 0) (s1 := 0) (bc' := bc) (bs' := bs) (Q1 := fun r h9 => r = .inl (some (.int v6)) ∧ hh = h9) (by omega) (by omega) (by omega) (w_X5_get (by omega) ev6 (fun _ _ q => q)) (fun E h9 q => nomatch (show (Sum.inr E : tq_R) = Sum.inl _ from q.1)) (fun r9 h9 q => ?_)
      obtain ⟨q1, rfl⟩ := q
      cases (show (Sum.inl r9 : tq_R) = Sum.inl (some (.int v6)) from q1)
      refine tq_iload_n (M := mX10_needOpenPath) (pc := 42) dX10_needOpenPath_42 rfl ?_
      refine tq_icmp_ne (M := mX10_needOpenPath) (pc := 43) (tgt := 57) dX10_needOpenPath_43 (by decide) (fun cc => ?_) (fun cc => ?_)
      · have hf := tq_ifn hf cc
        obtain ⟨x8, ex8, hf⟩ := tq_le hf
        refine tq_iinc (M := mX10_needOpenPath) (pc := 57) (v := x8) (L2 := [(2, .int x8), (0, .ref i0), (1, .int i1)]) dX10_needOpenPath_57 rfl (by rw [ex8, tk_ki_1]) (by decide) rfl ?_
        refine tq_goto (M := mX10_needOpenPath) (pc := 60) (tgt := 26) dX10_needOpenPath_60 (by decide) ?_
        refine tq_pick (L2 := [(0, .ref i0), (1, .int i1), (2, .int x8)]) [1, 2, 0] rfl ?_
        cases (Option.some.inj hf)
        exact ih _ o (tq_lc ho) hb hk
      · have hf := tq_ifp hf cc
        have hb9 := hb _ _ (by cases (Option.some.inj hf); cases (tq_lx ho); rfl)
        refine tq_throw (M := mX10_needOpenPath) (pc := 46) (E := "java/lang/IllegalStateException") (ik := 149) (ic := 153) (is := 468) (text := "the path has a view") (by decide +kernel) (by decide +kernel) rfl rfl dX10_needOpenPath_46 dX10_needOpenPath_49 dX10_needOpenPath_50 dX10_needOpenPath_53 dX10_needOpenPath_56 (by omega) (by omega) (by omega) ?_
        cases (Option.some.inj hf)
        cases (tq_lx ho)
        exact hk _ _ ⟨rfl, rfl⟩
set_option maxHeartbeats 4000000 in
set_option maxRecDepth 20000 in
theorem w_X10_needOpenPath {l : Launch} {d : Nat} (hd9 : 6 ≤ d) {t : Nat} {a1 : Int32} {bc bs : Nat} {h : tq_H} {o : (String ⊕ Unit) × tq_H} {Q : tq_R → tq_H → Prop} (hf : f_X10_needOpenPath t a1 h = some o) (hb : ∀ E g, o = (.inl E, g) → 1 ≤ bc ∧ 6 ≤ bs) (hQ : ∀ r h9, r = tq_enV o.1 ∧ o.2 = h9 → Q r h9) : tq_C l yX10_needOpenPath cX10_needOpenPath 3 none d (0 + bc) (0 + bs) [.ref t, .int a1] h Q := by
  refine tq_body (y := yX10_needOpenPath) false (by decide +kernel) (fun z => by cases z) (Nat.le_of_ble_eq_true rfl) ?_
  show tq_W l mX10_needOpenPath d (0 + bc) (0 + bs) Q 0 [(0, .ref t), (1, .int a1)] [] h
  refine tq_more (bc := bc) (bs := bs) (by omega) (by omega) ?_
  refine tq_iload_n (M := mX10_needOpenPath) (pc := 0) dX10_needOpenPath_0 rfl ?_
  refine tq_aload_n (M := mX10_needOpenPath) (pc := 1) dX10_needOpenPath_1 rfl ?_
  obtain ⟨k1, ek1, hf⟩ := tq_be hf
  refine tq_getR (M := mX10_needOpenPath) (pc := 2) tk_c10 (by decide) dX10_needOpenPath_2 tk_RX10_29 rfl ek1 ?_
  obtain ⟨⟨⟩, eu3, hf⟩ := tq_be hf
  obtain ⟨fsu3, eu3⟩ := tq_is_s eu3
  obtain ⟨v2, ev2, hf⟩ := tq_be hf
  refine tq_calV (M := mX10_needOpenPath) (pc := 5) (S := [.int a1]) tk_y_X4_count tk_v_X4_count tk_RX10_256 dX10_needOpenPath_5 [] rfl (S0 := _) rfl eu3 rfl (Nat.le_of_ble_eq_true rfl) (d1 := d - 1) (b1 := 0) (s1 := 0) (bc' := bc) (bs' := bs) (Q1 := fun r h9 => r = .inl (some (.int v2)) ∧ h = h9) (by omega) (by omega) (by omega) (w_X4_count (by omega) ev2 (fun _ _ q => q)) (fun E h9 q => nomatch (show (Sum.inr E : tq_R) = Sum.inl _ from q.1)) (fun r9 h9 q => ?_)
  obtain ⟨q1, rfl⟩ := q
  cases (show (Sum.inl r9 : tq_R) = Sum.inl (some (.int v2)) from q1)
  refine tq_iconst (M := mX10_needOpenPath) (pc := 8) dX10_needOpenPath_8 tk_ki_1 ?_
  refine tq_isub (M := mX10_needOpenPath) (pc := 9) dX10_needOpenPath_9 ?_
  refine tq_icmp_eq (M := mX10_needOpenPath) (pc := 10) (tgt := 24) dX10_needOpenPath_10 (by decide) (fun cc => ?_) (fun cc => ?_)
  · have hf := tq_ifp hf cc
    refine tq_iconst (M := mX10_needOpenPath) (pc := 24) dX10_needOpenPath_24 tk_ki_0 ?_
    refine tq_istore_n (M := mX10_needOpenPath) (pc := 25) rfl dX10_needOpenPath_25 (L2 := [(2, .int (0 : Int32)), (0, .ref t), (1, .int a1)]) (by decide) rfl ?_
    obtain ⟨o9, eo9, hf⟩ := tq_be hf
    refine tq_pick (L2 := [(0, .ref t), (1, .int a1), (2, .int (0 : Int32))]) [1, 2, 0] rfl ?_
    refine l_X10_needOpenPath_26 (bc := bc) (bs := bs) (by omega) t a1 h _ (0 : Int32) _ eo9 (fun E g z => hb E g (by subst z; exact (Option.some.inj hf).symm)) ?_
    cases o9 with
    | inl o9 =>
      refine tq_vret (M := mX10_needOpenPath) (pc := 63) dX10_needOpenPath_63 rfl ?_
      cases (Option.some.inj hf)
      exact hQ _ _ ⟨rfl, rfl⟩
    | inr e9 =>
      cases (Option.some.inj hf)
      exact hQ
  · have hf := tq_ifn hf cc
    have hb9 := hb _ _ (Option.some.inj hf).symm
    refine tq_throw (M := mX10_needOpenPath) (pc := 13) (E := "java/lang/IllegalStateException") (ik := 149) (ic := 153) (is := 466) (text := "it is not the last path") (by decide +kernel) (by decide +kernel) rfl rfl dX10_needOpenPath_13 dX10_needOpenPath_16 dX10_needOpenPath_17 dX10_needOpenPath_20 dX10_needOpenPath_23 (by omega) (by omega) (by omega) ?_
    cases (Option.some.inj hf)
    exact hQ _ _ ⟨rfl, rfl⟩
abbrev mX10_noteChangeOf : tq_M := (RX10, cX10_noteChangeOf, 2, none, false, [], none)
def f_X10_noteChangeOf (t : Nat) (a1 : Int32) (h : tq_H) : Option (tq_H) :=
  (tq_gr h t 10 4).bind fun k1 =>
  (tq_is h k1 2).bind fun _ =>
  (f_X2_dropFrom k1 a1 h).bind fun v2 =>
  (tq_gr v2 t 10 5).bind fun k4 =>
  (tq_is v2 k4 2).bind fun _ =>
  (f_X2_dropFrom k4 a1 v2).bind fun v5 =>
  (tq_gl v5 t 10 15).bind fun x7 =>
  (f_X0_holds x7 a1 v5).bind fun v8 =>
  (if v8 = 0 then
    some v5
  else
    (tq_pf v5 t 10 18 (.int (1 : Int32))).bind fun w9 =>
    some w9).bind fun p10 =>
  some p10
set_option maxHeartbeats 4000000 in
set_option maxRecDepth 20000 in
theorem w_X10_noteChangeOf {l : Launch} {d : Nat} (hd9 : 2 ≤ d) {t : Nat} {a1 : Int32} {h : tq_H} {o : tq_H} {Q : tq_R → tq_H → Prop} (hf : f_X10_noteChangeOf t a1 h = some o) (hQ : ∀ r h9, r = .inl none ∧ o = h9 → Q r h9) : tq_C l yX10_noteChangeOf cX10_noteChangeOf 2 none d 0 0 [.ref t, .int a1] h Q := by
  refine tq_body (y := yX10_noteChangeOf) false (by decide +kernel) (fun z => by cases z) (Nat.le_of_ble_eq_true rfl) ?_
  show tq_W l mX10_noteChangeOf d 0 0 Q 0 [(0, .ref t), (1, .int a1)] [] h
  refine tq_aload_n (M := mX10_noteChangeOf) (pc := 0) dX10_noteChangeOf_0 rfl ?_
  obtain ⟨k1, ek1, hf⟩ := tq_be hf
  refine tq_getR (M := mX10_noteChangeOf) (pc := 1) tk_c10 (by decide) dX10_noteChangeOf_1 tk_RX10_38 rfl ek1 ?_
  refine tq_iload_n (M := mX10_noteChangeOf) (pc := 4) dX10_noteChangeOf_4 rfl ?_
  obtain ⟨⟨⟩, eu3, hf⟩ := tq_be hf
  obtain ⟨fsu3, eu3⟩ := tq_is_s eu3
  obtain ⟨v2, ev2, hf⟩ := tq_be hf
  refine tq_calV (M := mX10_noteChangeOf) (pc := 5) (S := []) tk_y_X2_dropFrom tk_v_X2_dropFrom tk_RX10_483 dX10_noteChangeOf_5 [.int a1] rfl (S0 := _) rfl eu3 rfl (Nat.le_of_ble_eq_true rfl) (d1 := d - 1) (b1 := 0) (s1 := 0) (bc' := 0) (bs' := 0) (Q1 := fun r h9 => r = .inl none ∧ v2 = h9) (by omega) rfl rfl (w_X2_dropFrom (by omega) ev2 (fun _ _ q => q)) (fun E h9 q => nomatch (show (Sum.inr E : tq_R) = Sum.inl _ from q.1)) (fun r9 h9 q => ?_)
  obtain ⟨q1, rfl⟩ := q
  cases (show (Sum.inl r9 : tq_R) = Sum.inl (none) from q1)
  refine tq_aload_n (M := mX10_noteChangeOf) (pc := 8) dX10_noteChangeOf_8 rfl ?_
  obtain ⟨k4, ek4, hf⟩ := tq_be hf
  refine tq_getR (M := mX10_noteChangeOf) (pc := 9) tk_c10 (by decide) dX10_noteChangeOf_9 tk_RX10_42 rfl ek4 ?_
  refine tq_iload_n (M := mX10_noteChangeOf) (pc := 12) dX10_noteChangeOf_12 rfl ?_
  obtain ⟨⟨⟩, eu6, hf⟩ := tq_be hf
  obtain ⟨fsu6, eu6⟩ := tq_is_s eu6
  obtain ⟨v5, ev5, hf⟩ := tq_be hf
  refine tq_calV (M := mX10_noteChangeOf) (pc := 13) (S := []) tk_y_X2_dropFrom tk_v_X2_dropFrom tk_RX10_483 dX10_noteChangeOf_13 [.int a1] rfl (S0 := _) rfl eu6 rfl (Nat.le_of_ble_eq_true rfl) (d1 := d - 1) (b1 := 0) (s1 := 0) (bc' := 0) (bs' := 0) (Q1 := fun r h9 => r = .inl none ∧ v5 = h9) (by omega) rfl rfl (w_X2_dropFrom (by omega) ev5 (fun _ _ q => q)) (fun E h9 q => nomatch (show (Sum.inr E : tq_R) = Sum.inl _ from q.1)) (fun r9 h9 q => ?_)
  obtain ⟨q1, rfl⟩ := q
  cases (show (Sum.inl r9 : tq_R) = Sum.inl (none) from q1)
  refine tq_aload_n (M := mX10_noteChangeOf) (pc := 16) dX10_noteChangeOf_16 rfl ?_
  obtain ⟨x7, ex7, hf⟩ := tq_be hf
  refine tq_getL (M := mX10_noteChangeOf) (pc := 17) tk_c10 (by decide) dX10_noteChangeOf_17 tk_RX10_91 rfl ex7 ?_
  refine tq_iload_n (M := mX10_noteChangeOf) (pc := 20) dX10_noteChangeOf_20 rfl ?_
  obtain ⟨v8, ev8, hf⟩ := tq_be hf
  refine tq_calS (M := mX10_noteChangeOf) (pc := 21) (S := []) tk_y_X0_holds tk_s_X0_holds tk_RX10_315 dX10_noteChangeOf_21 [.long x7, .int a1] rfl (Nat.le_of_ble_eq_true rfl) (d1 := d - 1) (b1 := 0) (s1 := 0) (bc' := 0) (bs' := 0) (Q1 := fun r h9 => r = .inl (some (.int v8)) ∧ v5 = h9) (by omega) rfl rfl (w_X0_holds (by omega) ev8 (fun _ _ q => q)) (fun E h9 q => nomatch (show (Sum.inr E : tq_R) = Sum.inl _ from q.1)) (fun r9 h9 q => ?_)
  obtain ⟨q1, rfl⟩ := q
  cases (show (Sum.inl r9 : tq_R) = Sum.inl (some (.int v8)) from q1)
  obtain ⟨p10, ep10, hf⟩ := tq_be hf
  have HJ24 : tq_W l mX10_noteChangeOf d 0 0 Q 32 [] [] p10 := by
    refine tq_vret (M := mX10_noteChangeOf) (pc := 32) dX10_noteChangeOf_32 rfl ?_
    cases (Option.some.inj hf)
    exact hQ _ _ ⟨rfl, rfl⟩
  refine tq_if_eq (M := mX10_noteChangeOf) (pc := 24) (tgt := 32) dX10_noteChangeOf_24 (by decide) (fun cc => ?_) (fun cc => ?_)
  · have hf := tq_ifp ep10 cc
    refine tq_pick (L2 := []) [] rfl ?_
    cases (Option.some.inj hf)
    exact HJ24
  · have hf := tq_ifn ep10 cc
    refine tq_aload_n (M := mX10_noteChangeOf) (pc := 27) dX10_noteChangeOf_27 rfl ?_
    refine tq_iconst (M := mX10_noteChangeOf) (pc := 28) dX10_noteChangeOf_28 tk_ki_1 ?_
    obtain ⟨w9, ew9, hf⟩ := tq_be hf
    refine tq_putv (M := mX10_noteChangeOf) (pc := 29) tk_c10 (by decide) dX10_noteChangeOf_29 tk_RX10_102 rfl (Or.inl rfl) ew9 (tq_n01 (Or.inr rfl)) ?_
    refine tq_pick (L2 := []) [] rfl ?_
    cases (Option.some.inj hf)
    exact HJ24
abbrev mX10_step : tq_M := (RX10, cX10_step, 5, (some .int), false, [], none)
def f_X10_step (t : Nat) (a1 : Int32) (a2 : Int32) (a3 : Int32) (a4 : Int32) (h : tq_H) : Option ((String ⊕ Int32) × tq_H) :=
  (tq_is h t 10).bind fun _ =>
  tq_tb (f_X10_needPath t a1 h) fun _ w3 =>
  if a2 = (12 : Int32) then
    (tq_is w3 t 10).bind fun _ =>
    tq_tb (f_X10_needLower t a1 a4 w3) fun _ w37 =>
    (tq_is w37 t 10).bind fun _ =>
    tq_tb (f_X10_needRange t a2 (0 : Int32) (12 : Int32) w37) fun _ w40 =>
    (tq_is w40 t 10).bind fun _ =>
    tq_tb (f_X10_needRange t a3 (0 : Int32) (13 : Int32) w40) fun _ w43 =>
    if a2 = (12 : Int32) then
      (tq_is w43 t 10).bind fun _ =>
      tq_tb (f_X10_needOpenPath t a1 w43) fun _ w46 =>
      (tq_gr w46 t 10 3).bind fun k47 =>
      (tq_is w46 k47 4).bind fun _ =>
      (f_X4_stepsOf k47 a1 w46).bind fun v48 =>
      if v48 < (5 : Int32) then
        (tq_is w46 t 10).bind fun _ =>
        (f_X10_noteChangeOf t a1 w46).bind fun v50 =>
        (tq_gr v50 t 10 3).bind fun k52 =>
        (tq_is v50 k52 4).bind fun _ =>
        (f_X4_addStep k52 a1 a2 a3 a4 v50).bind fun v53 =>
        some (.inr v53.1, v53.2)
      else
        some (.inl "java/lang/IllegalStateException", w46)
    else
      if a4 = (-1 : Int32) then
        (tq_is w43 t 10).bind fun _ =>
        tq_tb (f_X10_needOpenPath t a1 w43) fun _ w57 =>
        (tq_gr w57 t 10 3).bind fun k58 =>
        (tq_is w57 k58 4).bind fun _ =>
        (f_X4_stepsOf k58 a1 w57).bind fun v59 =>
        if v59 < (5 : Int32) then
          (tq_is w57 t 10).bind fun _ =>
          (f_X10_noteChangeOf t a1 w57).bind fun v61 =>
          (tq_gr v61 t 10 3).bind fun k63 =>
          (tq_is v61 k63 4).bind fun _ =>
          (f_X4_addStep k63 a1 a2 a3 a4 v61).bind fun v64 =>
          some (.inr v64.1, v64.2)
        else
          some (.inl "java/lang/IllegalStateException", w57)
      else
        some (.inl "java/lang/IllegalArgumentException", w43)
  else
    (tq_is w3 t 10).bind fun _ =>
    tq_tb (f_X10_needRange t a2 (0 : Int32) (12 : Int32) w3) fun _ w9 =>
    (tq_is w9 t 10).bind fun _ =>
    tq_tb (f_X10_needRange t a3 (0 : Int32) (13 : Int32) w9) fun _ w12 =>
    if a2 = (12 : Int32) then
      (tq_is w12 t 10).bind fun _ =>
      tq_tb (f_X10_needOpenPath t a1 w12) fun _ w15 =>
      (tq_gr w15 t 10 3).bind fun k16 =>
      (tq_is w15 k16 4).bind fun _ =>
      (f_X4_stepsOf k16 a1 w15).bind fun v17 =>
      if v17 < (5 : Int32) then
        (tq_is w15 t 10).bind fun _ =>
        (f_X10_noteChangeOf t a1 w15).bind fun v19 =>
        (tq_gr v19 t 10 3).bind fun k21 =>
        (tq_is v19 k21 4).bind fun _ =>
        (f_X4_addStep k21 a1 a2 a3 a4 v19).bind fun v22 =>
        some (.inr v22.1, v22.2)
      else
        some (.inl "java/lang/IllegalStateException", w15)
    else
      if a4 = (-1 : Int32) then
        (tq_is w12 t 10).bind fun _ =>
        tq_tb (f_X10_needOpenPath t a1 w12) fun _ w26 =>
        (tq_gr w26 t 10 3).bind fun k27 =>
        (tq_is w26 k27 4).bind fun _ =>
        (f_X4_stepsOf k27 a1 w26).bind fun v28 =>
        if v28 < (5 : Int32) then
          (tq_is w26 t 10).bind fun _ =>
          (f_X10_noteChangeOf t a1 w26).bind fun v30 =>
          (tq_gr v30 t 10 3).bind fun k32 =>
          (tq_is v30 k32 4).bind fun _ =>
          (f_X4_addStep k32 a1 a2 a3 a4 v30).bind fun v33 =>
          some (.inr v33.1, v33.2)
        else
          some (.inl "java/lang/IllegalStateException", w26)
      else
        some (.inl "java/lang/IllegalArgumentException", w12)
set_option maxHeartbeats 4000000 in
set_option maxRecDepth 20000 in
theorem w_X10_step {l : Launch} {d : Nat} (hd9 : 7 ≤ d) {t : Nat} {a1 : Int32} {a2 : Int32} {a3 : Int32} {a4 : Int32} {bc bs : Nat} {h : tq_H} {o : (String ⊕ Int32) × tq_H} {Q : tq_R → tq_H → Prop} (hf : f_X10_step t a1 a2 a3 a4 h = some o) (hb : ∀ E g, o = (.inl E, g) → 1 ≤ bc ∧ 6 ≤ bs) (hQ : ∀ r h9, r = tq_enI o.1 ∧ o.2 = h9 → Q r h9) : tq_C l yX10_step cX10_step 5 (some .int) d (0 + bc) (0 + bs) [.ref t, .int a1, .int a2, .int a3, .int a4] h Q := by
  refine tq_body (y := yX10_step) false (by decide +kernel) (fun z => by cases z) (Nat.le_of_ble_eq_true rfl) ?_
  show tq_W l mX10_step d (0 + bc) (0 + bs) Q 0 [(0, .ref t), (1, .int a1), (2, .int a2), (3, .int a3), (4, .int a4)] [] h
  refine tq_more (bc := bc) (bs := bs) (by omega) (by omega) ?_
  refine tq_aload_n (M := mX10_step) (pc := 0) dX10_step_0 rfl ?_
  refine tq_iload_n (M := mX10_step) (pc := 1) dX10_step_1 rfl ?_
  obtain ⟨⟨⟩, eu2, hf⟩ := tq_be hf
  obtain ⟨fsu2, eu2⟩ := tq_is_s eu2
  rcases tq_te hf with ⟨E1, g1, ev1, e9⟩ | ⟨v1, w3, ev1, hf⟩
  · have hb9 := hb _ _ e9
    refine tq_calV (M := mX10_step) (pc := 2) (S := []) tk_y_X10_needPath tk_v_X10_needPath tk_RX10_262 dX10_step_2 [.int a1] rfl (S0 := _) rfl eu2 rfl (Nat.le_of_ble_eq_true rfl) (d1 := d - 1) (b1 := 0 + bc) (s1 := 0 + bs) (bc' := 0) (bs' := 0) (Q1 := fun r h9 => r = tq_enV ((.inl E1, g1) : (String ⊕ Unit) × tq_H).1 ∧ ((.inl E1, g1) : (String ⊕ Unit) × tq_H).2 = h9) (by omega) (by omega) (by omega) (w_X10_needPath (bc := bc) (bs := bs) (by omega) ev1 (fun _ _ _ => hb9) (fun _ _ q => q)) (fun E h9 q => ?_) (fun r9 h9 q => nomatch (show (Sum.inl r9 : tq_R) = Sum.inr E1 from q.1))
    obtain ⟨q1, rfl⟩ := q
    cases (show (Sum.inr E : tq_R) = Sum.inr E1 from q1)
    subst e9
    exact tq_out rfl (hQ _ _ ⟨rfl, rfl⟩)
  · refine tq_calV (M := mX10_step) (pc := 2) (S := []) tk_y_X10_needPath tk_v_X10_needPath tk_RX10_262 dX10_step_2 [.int a1] rfl (S0 := _) rfl eu2 rfl (Nat.le_of_ble_eq_true rfl) (d1 := d - 1) (b1 := 0 + 0) (s1 := 0 + 0) (bc' := bc) (bs' := bs) (Q1 := fun r h9 => r = tq_enV ((.inr (), w3) : (String ⊕ Unit) × tq_H).1 ∧ ((.inr (), w3) : (String ⊕ Unit) × tq_H).2 = h9) (by omega) (by omega) (by omega) (w_X10_needPath (bc := 0) (bs := 0) (by omega) ev1 (fun E g z => by cases z) (fun _ _ q => q)) (fun E h9 q => nomatch (show (Sum.inr E : tq_R) = Sum.inl _ from q.1)) (fun r9 h9 q => ?_)
    obtain ⟨q1, rfl⟩ := q
    cases (show (Sum.inl r9 : tq_R) = Sum.inl (none) from q1)
    refine tq_iload_n (M := mX10_step) (pc := 5) dX10_step_5 rfl ?_
    refine tq_bipush (M := mX10_step) (pc := 6) dX10_step_6 tk_kb_12 ?_
    refine tq_icmp_ne (M := mX10_step) (pc := 8) (tgt := 18) dX10_step_8 (by decide) (fun cc => ?_) (fun cc => ?_)
    · have hf := tq_ifn hf cc
      refine tq_aload_n (M := mX10_step) (pc := 18) dX10_step_18 rfl ?_
      refine tq_iload_n (M := mX10_step) (pc := 19) dX10_step_19 rfl ?_
      refine tq_iconst (M := mX10_step) (pc := 20) dX10_step_20 tk_ki_0 ?_
      refine tq_bipush (M := mX10_step) (pc := 21) dX10_step_21 tk_kb_12 ?_
      obtain ⟨⟨⟩, eu8, hf⟩ := tq_be hf
      obtain ⟨fsu8, eu8⟩ := tq_is_s eu8
      rcases tq_te hf with ⟨E1, g1, ev7, e9⟩ | ⟨v7, w9, ev7, hf⟩
      · have hb9 := hb _ _ e9
        refine tq_calV (M := mX10_step) (pc := 23) (S := []) tk_y_X10_needRange tk_v_X10_needRange tk_RX10_132 dX10_step_23 [.int a2, .int (0 : Int32), .int (12 : Int32)] rfl (S0 := _) rfl eu8 rfl (Nat.le_of_ble_eq_true rfl) (d1 := d - 1) (b1 := 0 + bc) (s1 := 0 + bs) (bc' := 0) (bs' := 0) (Q1 := fun r h9 => r = tq_enV ((.inl E1, g1) : (String ⊕ Unit) × tq_H).1 ∧ ((.inl E1, g1) : (String ⊕ Unit) × tq_H).2 = h9) (by omega) (by omega) (by omega) (w_X10_needRange (bc := bc) (bs := bs) (by omega) ev7 (fun _ _ _ => hb9) (fun _ _ q => q)) (fun E h9 q => ?_) (fun r9 h9 q => nomatch (show (Sum.inl r9 : tq_R) = Sum.inr E1 from q.1))
        obtain ⟨q1, rfl⟩ := q
        cases (show (Sum.inr E : tq_R) = Sum.inr E1 from q1)
        subst e9
        exact tq_out rfl (hQ _ _ ⟨rfl, rfl⟩)
      · refine tq_calV (M := mX10_step) (pc := 23) (S := []) tk_y_X10_needRange tk_v_X10_needRange tk_RX10_132 dX10_step_23 [.int a2, .int (0 : Int32), .int (12 : Int32)] rfl (S0 := _) rfl eu8 rfl (Nat.le_of_ble_eq_true rfl) (d1 := d - 1) (b1 := 0 + 0) (s1 := 0 + 0) (bc' := bc) (bs' := bs) (Q1 := fun r h9 => r = tq_enV ((.inr (), w9) : (String ⊕ Unit) × tq_H).1 ∧ ((.inr (), w9) : (String ⊕ Unit) × tq_H).2 = h9) (by omega) (by omega) (by omega) (w_X10_needRange (bc := 0) (bs := 0) (by omega) ev7 (fun E g z => by cases z) (fun _ _ q => q)) (fun E h9 q => nomatch (show (Sum.inr E : tq_R) = Sum.inl _ from q.1)) (fun r9 h9 q => ?_)
        obtain ⟨q1, rfl⟩ := q
        cases (show (Sum.inl r9 : tq_R) = Sum.inl (none) from q1)
        refine tq_aload_n (M := mX10_step) (pc := 26) dX10_step_26 rfl ?_
        refine tq_iload_n (M := mX10_step) (pc := 27) dX10_step_27 rfl ?_
        refine tq_iconst (M := mX10_step) (pc := 28) dX10_step_28 tk_ki_0 ?_
        refine tq_bipush (M := mX10_step) (pc := 29) dX10_step_29 tk_kb_13 ?_
        obtain ⟨⟨⟩, eu11, hf⟩ := tq_be hf
        obtain ⟨fsu11, eu11⟩ := tq_is_s eu11
        rcases tq_te hf with ⟨E1, g1, ev10, e9⟩ | ⟨v10, w12, ev10, hf⟩
        · have hb9 := hb _ _ e9
          refine tq_calV (M := mX10_step) (pc := 31) (S := []) tk_y_X10_needRange tk_v_X10_needRange tk_RX10_132 dX10_step_31 [.int a3, .int (0 : Int32), .int (13 : Int32)] rfl (S0 := _) rfl eu11 rfl (Nat.le_of_ble_eq_true rfl) (d1 := d - 1) (b1 := 0 + bc) (s1 := 0 + bs) (bc' := 0) (bs' := 0) (Q1 := fun r h9 => r = tq_enV ((.inl E1, g1) : (String ⊕ Unit) × tq_H).1 ∧ ((.inl E1, g1) : (String ⊕ Unit) × tq_H).2 = h9) (by omega) (by omega) (by omega) (w_X10_needRange (bc := bc) (bs := bs) (by omega) ev10 (fun _ _ _ => hb9) (fun _ _ q => q)) (fun E h9 q => ?_) (fun r9 h9 q => nomatch (show (Sum.inl r9 : tq_R) = Sum.inr E1 from q.1))
          obtain ⟨q1, rfl⟩ := q
          cases (show (Sum.inr E : tq_R) = Sum.inr E1 from q1)
          subst e9
          exact tq_out rfl (hQ _ _ ⟨rfl, rfl⟩)
        · refine tq_calV (M := mX10_step) (pc := 31) (S := []) tk_y_X10_needRange tk_v_X10_needRange tk_RX10_132 dX10_step_31 [.int a3, .int (0 : Int32), .int (13 : Int32)] rfl (S0 := _) rfl eu11 rfl (Nat.le_of_ble_eq_true rfl) (d1 := d - 1) (b1 := 0 + 0) (s1 := 0 + 0) (bc' := bc) (bs' := bs) (Q1 := fun r h9 => r = tq_enV ((.inr (), w12) : (String ⊕ Unit) × tq_H).1 ∧ ((.inr (), w12) : (String ⊕ Unit) × tq_H).2 = h9) (by omega) (by omega) (by omega) (w_X10_needRange (bc := 0) (bs := 0) (by omega) ev10 (fun E g z => by cases z) (fun _ _ q => q)) (fun E h9 q => nomatch (show (Sum.inr E : tq_R) = Sum.inl _ from q.1)) (fun r9 h9 q => ?_)
          obtain ⟨q1, rfl⟩ := q
          cases (show (Sum.inl r9 : tq_R) = Sum.inl (none) from q1)
          refine tq_iload_n (M := mX10_step) (pc := 34) dX10_step_34 rfl ?_
          refine tq_bipush (M := mX10_step) (pc := 35) dX10_step_35 tk_kb_12 ?_
          refine tq_icmp_eq (M := mX10_step) (pc := 37) (tgt := 57) dX10_step_37 (by decide) (fun cc => ?_) (fun cc => ?_)
          · have hf := tq_ifp hf cc
            refine tq_aload_n (M := mX10_step) (pc := 57) dX10_step_57 rfl ?_
            refine tq_iload_n (M := mX10_step) (pc := 58) dX10_step_58 rfl ?_
            obtain ⟨⟨⟩, eu14, hf⟩ := tq_be hf
            obtain ⟨fsu14, eu14⟩ := tq_is_s eu14
            rcases tq_te hf with ⟨E1, g1, ev13, e9⟩ | ⟨v13, w15, ev13, hf⟩
            · have hb9 := hb _ _ e9
              refine tq_calV (M := mX10_step) (pc := 59) (S := []) tk_y_X10_needOpenPath tk_v_X10_needOpenPath tk_RX10_273 dX10_step_59 [.int a1] rfl (S0 := _) rfl eu14 rfl (Nat.le_of_ble_eq_true rfl) (d1 := d - 1) (b1 := 0 + bc) (s1 := 0 + bs) (bc' := 0) (bs' := 0) (Q1 := fun r h9 => r = tq_enV ((.inl E1, g1) : (String ⊕ Unit) × tq_H).1 ∧ ((.inl E1, g1) : (String ⊕ Unit) × tq_H).2 = h9) (by omega) (by omega) (by omega) (w_X10_needOpenPath (bc := bc) (bs := bs) (by omega) ev13 (fun _ _ _ => hb9) (fun _ _ q => q)) (fun E h9 q => ?_) (fun r9 h9 q => nomatch (show (Sum.inl r9 : tq_R) = Sum.inr E1 from q.1))
              obtain ⟨q1, rfl⟩ := q
              cases (show (Sum.inr E : tq_R) = Sum.inr E1 from q1)
              subst e9
              exact tq_out rfl (hQ _ _ ⟨rfl, rfl⟩)
            · refine tq_calV (M := mX10_step) (pc := 59) (S := []) tk_y_X10_needOpenPath tk_v_X10_needOpenPath tk_RX10_273 dX10_step_59 [.int a1] rfl (S0 := _) rfl eu14 rfl (Nat.le_of_ble_eq_true rfl) (d1 := d - 1) (b1 := 0 + 0) (s1 := 0 + 0) (bc' := bc) (bs' := bs) (Q1 := fun r h9 => r = tq_enV ((.inr (), w15) : (String ⊕ Unit) × tq_H).1 ∧ ((.inr (), w15) : (String ⊕ Unit) × tq_H).2 = h9) (by omega) (by omega) (by omega) (w_X10_needOpenPath (bc := 0) (bs := 0) (by omega) ev13 (fun E g z => by cases z) (fun _ _ q => q)) (fun E h9 q => nomatch (show (Sum.inr E : tq_R) = Sum.inl _ from q.1)) (fun r9 h9 q => ?_)
              obtain ⟨q1, rfl⟩ := q
              cases (show (Sum.inl r9 : tq_R) = Sum.inl (none) from q1)
              refine tq_aload_n (M := mX10_step) (pc := 62) dX10_step_62 rfl ?_
              obtain ⟨k16, ek16, hf⟩ := tq_be hf
              refine tq_getR (M := mX10_step) (pc := 63) tk_c10 (by decide) dX10_step_63 tk_RX10_29 rfl ek16 ?_
              refine tq_iload_n (M := mX10_step) (pc := 66) dX10_step_66 rfl ?_
              obtain ⟨⟨⟩, eu18, hf⟩ := tq_be hf
              obtain ⟨fsu18, eu18⟩ := tq_is_s eu18
              obtain ⟨v17, ev17, hf⟩ := tq_be hf
              refine tq_calV (M := mX10_step) (pc := 67) (S := []) tk_y_X4_stepsOf tk_v_X4_stepsOf tk_RX10_276 dX10_step_67 [.int a1] rfl (S0 := _) rfl eu18 rfl (Nat.le_of_ble_eq_true rfl) (d1 := d - 1) (b1 := 0) (s1 := 0) (bc' := bc) (bs' := bs) (Q1 := fun r h9 => r = .inl (some (.int v17)) ∧ w15 = h9) (by omega) (by omega) (by omega) (w_X4_stepsOf (by omega) ev17 (fun _ _ q => q)) (fun E h9 q => nomatch (show (Sum.inr E : tq_R) = Sum.inl _ from q.1)) (fun r9 h9 q => ?_)
              obtain ⟨q1, rfl⟩ := q
              cases (show (Sum.inl r9 : tq_R) = Sum.inl (some (.int v17)) from q1)
              refine tq_iconst (M := mX10_step) (pc := 70) dX10_step_70 tk_ki_5 ?_
              refine tq_icmp_lt (M := mX10_step) (pc := 71) (tgt := 85) dX10_step_71 (by decide) (fun cc => ?_) (fun cc => ?_)
              · have hf := tq_ifp hf cc
                refine tq_aload_n (M := mX10_step) (pc := 85) dX10_step_85 rfl ?_
                refine tq_iload_n (M := mX10_step) (pc := 86) dX10_step_86 rfl ?_
                obtain ⟨⟨⟩, eu20, hf⟩ := tq_be hf
                obtain ⟨fsu20, eu20⟩ := tq_is_s eu20
                obtain ⟨v19, ev19, hf⟩ := tq_be hf
                refine tq_calV (M := mX10_step) (pc := 87) (S := []) tk_y_X10_noteChangeOf tk_v_X10_noteChangeOf tk_RX10_281 dX10_step_87 [.int a1] rfl (S0 := _) rfl eu20 rfl (Nat.le_of_ble_eq_true rfl) (d1 := d - 1) (b1 := 0) (s1 := 0) (bc' := bc) (bs' := bs) (Q1 := fun r h9 => r = .inl none ∧ v19 = h9) (by omega) (by omega) (by omega) (w_X10_noteChangeOf (by omega) ev19 (fun _ _ q => q)) (fun E h9 q => nomatch (show (Sum.inr E : tq_R) = Sum.inl _ from q.1)) (fun r9 h9 q => ?_)
                obtain ⟨q1, rfl⟩ := q
                cases (show (Sum.inl r9 : tq_R) = Sum.inl (none) from q1)
                refine tq_aload_n (M := mX10_step) (pc := 90) dX10_step_90 rfl ?_
                obtain ⟨k21, ek21, hf⟩ := tq_be hf
                refine tq_getR (M := mX10_step) (pc := 91) tk_c10 (by decide) dX10_step_91 tk_RX10_29 rfl ek21 ?_
                refine tq_iload_n (M := mX10_step) (pc := 94) dX10_step_94 rfl ?_
                refine tq_iload_n (M := mX10_step) (pc := 95) dX10_step_95 rfl ?_
                refine tq_iload_n (M := mX10_step) (pc := 96) dX10_step_96 rfl ?_
                refine tq_iload (M := mX10_step) (pc := 97) dX10_step_97 rfl ?_
                obtain ⟨⟨⟩, eu23, hf⟩ := tq_be hf
                obtain ⟨fsu23, eu23⟩ := tq_is_s eu23
                obtain ⟨v22, ev22, hf⟩ := tq_be hf
                refine tq_calV (M := mX10_step) (pc := 99) (S := []) tk_y_X4_addStep tk_v_X4_addStep tk_RX10_284 dX10_step_99 [.int a1, .int a2, .int a3, .int a4] rfl (S0 := _) rfl eu23 rfl (Nat.le_of_ble_eq_true rfl) (d1 := d - 1) (b1 := 0) (s1 := 0) (bc' := bc) (bs' := bs) (Q1 := fun r h9 => r = .inl (some (.int v22.1)) ∧ v22.2 = h9) (by omega) (by omega) (by omega) (w_X4_addStep (by omega) ev22 (fun _ _ q => q)) (fun E h9 q => nomatch (show (Sum.inr E : tq_R) = Sum.inl _ from q.1)) (fun r9 h9 q => ?_)
                obtain ⟨q1, rfl⟩ := q
                cases (show (Sum.inl r9 : tq_R) = Sum.inl (some (.int v22.1)) from q1)
                refine tq_iret (M := mX10_step) (pc := 102) dX10_step_102 rfl ?_
                cases (Option.some.inj hf)
                exact hQ _ _ ⟨rfl, rfl⟩
              · have hf := tq_ifn hf cc
                have hb9 := hb _ _ (Option.some.inj hf).symm
                refine tq_throw (M := mX10_step) (pc := 74) (E := "java/lang/IllegalStateException") (ik := 149) (ic := 153) (is := 279) (text := "the path has 5 steps") (by decide +kernel) (by decide +kernel) rfl rfl dX10_step_74 dX10_step_77 dX10_step_78 dX10_step_81 dX10_step_84 (by omega) (by omega) (by omega) ?_
                cases (Option.some.inj hf)
                exact hQ _ _ ⟨rfl, rfl⟩
          · have hf := tq_ifn hf cc
            refine tq_iload (M := mX10_step) (pc := 40) dX10_step_40 rfl ?_
            refine tq_iconst (M := mX10_step) (pc := 42) dX10_step_42 tk_ki_m1 ?_
            refine tq_icmp_eq (M := mX10_step) (pc := 43) (tgt := 57) dX10_step_43 (by decide) (fun cc => ?_) (fun cc => ?_)
            · have hf := tq_ifp hf cc
              refine tq_aload_n (M := mX10_step) (pc := 57) dX10_step_57 rfl ?_
              refine tq_iload_n (M := mX10_step) (pc := 58) dX10_step_58 rfl ?_
              obtain ⟨⟨⟩, eu25, hf⟩ := tq_be hf
              obtain ⟨fsu25, eu25⟩ := tq_is_s eu25
              rcases tq_te hf with ⟨E1, g1, ev24, e9⟩ | ⟨v24, w26, ev24, hf⟩
              · have hb9 := hb _ _ e9
                refine tq_calV (M := mX10_step) (pc := 59) (S := []) tk_y_X10_needOpenPath tk_v_X10_needOpenPath tk_RX10_273 dX10_step_59 [.int a1] rfl (S0 := _) rfl eu25 rfl (Nat.le_of_ble_eq_true rfl) (d1 := d - 1) (b1 := 0 + bc) (s1 := 0 + bs) (bc' := 0) (bs' := 0) (Q1 := fun r h9 => r = tq_enV ((.inl E1, g1) : (String ⊕ Unit) × tq_H).1 ∧ ((.inl E1, g1) : (String ⊕ Unit) × tq_H).2 = h9) (by omega) (by omega) (by omega) (w_X10_needOpenPath (bc := bc) (bs := bs) (by omega) ev24 (fun _ _ _ => hb9) (fun _ _ q => q)) (fun E h9 q => ?_) (fun r9 h9 q => nomatch (show (Sum.inl r9 : tq_R) = Sum.inr E1 from q.1))
                obtain ⟨q1, rfl⟩ := q
                cases (show (Sum.inr E : tq_R) = Sum.inr E1 from q1)
                subst e9
                exact tq_out rfl (hQ _ _ ⟨rfl, rfl⟩)
              · refine tq_calV (M := mX10_step) (pc := 59) (S := []) tk_y_X10_needOpenPath tk_v_X10_needOpenPath tk_RX10_273 dX10_step_59 [.int a1] rfl (S0 := _) rfl eu25 rfl (Nat.le_of_ble_eq_true rfl) (d1 := d - 1) (b1 := 0 + 0) (s1 := 0 + 0) (bc' := bc) (bs' := bs) (Q1 := fun r h9 => r = tq_enV ((.inr (), w26) : (String ⊕ Unit) × tq_H).1 ∧ ((.inr (), w26) : (String ⊕ Unit) × tq_H).2 = h9) (by omega) (by omega) (by omega) (w_X10_needOpenPath (bc := 0) (bs := 0) (by omega) ev24 (fun E g z => by cases z) (fun _ _ q => q)) (fun E h9 q => nomatch (show (Sum.inr E : tq_R) = Sum.inl _ from q.1)) (fun r9 h9 q => ?_)
                obtain ⟨q1, rfl⟩ := q
                cases (show (Sum.inl r9 : tq_R) = Sum.inl (none) from q1)
                refine tq_aload_n (M := mX10_step) (pc := 62) dX10_step_62 rfl ?_
                obtain ⟨k27, ek27, hf⟩ := tq_be hf
                refine tq_getR (M := mX10_step) (pc := 63) tk_c10 (by decide) dX10_step_63 tk_RX10_29 rfl ek27 ?_
                refine tq_iload_n (M := mX10_step) (pc := 66) dX10_step_66 rfl ?_
                obtain ⟨⟨⟩, eu29, hf⟩ := tq_be hf
                obtain ⟨fsu29, eu29⟩ := tq_is_s eu29
                obtain ⟨v28, ev28, hf⟩ := tq_be hf
                refine tq_calV (M := mX10_step) (pc := 67) (S := []) tk_y_X4_stepsOf tk_v_X4_stepsOf tk_RX10_276 dX10_step_67 [.int a1] rfl (S0 := _) rfl eu29 rfl (Nat.le_of_ble_eq_true rfl) (d1 := d - 1) (b1 := 0) (s1 := 0) (bc' := bc) (bs' := bs) (Q1 := fun r h9 => r = .inl (some (.int v28)) ∧ w26 = h9) (by omega) (by omega) (by omega) (w_X4_stepsOf (by omega) ev28 (fun _ _ q => q)) (fun E h9 q => nomatch (show (Sum.inr E : tq_R) = Sum.inl _ from q.1)) (fun r9 h9 q => ?_)
                obtain ⟨q1, rfl⟩ := q
                cases (show (Sum.inl r9 : tq_R) = Sum.inl (some (.int v28)) from q1)
                refine tq_iconst (M := mX10_step) (pc := 70) dX10_step_70 tk_ki_5 ?_
                refine tq_icmp_lt (M := mX10_step) (pc := 71) (tgt := 85) dX10_step_71 (by decide) (fun cc => ?_) (fun cc => ?_)
                · have hf := tq_ifp hf cc
                  refine tq_aload_n (M := mX10_step) (pc := 85) dX10_step_85 rfl ?_
                  refine tq_iload_n (M := mX10_step) (pc := 86) dX10_step_86 rfl ?_
                  obtain ⟨⟨⟩, eu31, hf⟩ := tq_be hf
                  obtain ⟨fsu31, eu31⟩ := tq_is_s eu31
                  obtain ⟨v30, ev30, hf⟩ := tq_be hf
                  refine tq_calV (M := mX10_step) (pc := 87) (S := []) tk_y_X10_noteChangeOf tk_v_X10_noteChangeOf tk_RX10_281 dX10_step_87 [.int a1] rfl (S0 := _) rfl eu31 rfl (Nat.le_of_ble_eq_true rfl) (d1 := d - 1) (b1 := 0) (s1 := 0) (bc' := bc) (bs' := bs) (Q1 := fun r h9 => r = .inl none ∧ v30 = h9) (by omega) (by omega) (by omega) (w_X10_noteChangeOf (by omega) ev30 (fun _ _ q => q)) (fun E h9 q => nomatch (show (Sum.inr E : tq_R) = Sum.inl _ from q.1)) (fun r9 h9 q => ?_)
                  obtain ⟨q1, rfl⟩ := q
                  cases (show (Sum.inl r9 : tq_R) = Sum.inl (none) from q1)
                  refine tq_aload_n (M := mX10_step) (pc := 90) dX10_step_90 rfl ?_
                  obtain ⟨k32, ek32, hf⟩ := tq_be hf
                  refine tq_getR (M := mX10_step) (pc := 91) tk_c10 (by decide) dX10_step_91 tk_RX10_29 rfl ek32 ?_
                  refine tq_iload_n (M := mX10_step) (pc := 94) dX10_step_94 rfl ?_
                  refine tq_iload_n (M := mX10_step) (pc := 95) dX10_step_95 rfl ?_
                  refine tq_iload_n (M := mX10_step) (pc := 96) dX10_step_96 rfl ?_
                  refine tq_iload (M := mX10_step) (pc := 97) dX10_step_97 rfl ?_
                  obtain ⟨⟨⟩, eu34, hf⟩ := tq_be hf
                  obtain ⟨fsu34, eu34⟩ := tq_is_s eu34
                  obtain ⟨v33, ev33, hf⟩ := tq_be hf
                  refine tq_calV (M := mX10_step) (pc := 99) (S := []) tk_y_X4_addStep tk_v_X4_addStep tk_RX10_284 dX10_step_99 [.int a1, .int a2, .int a3, .int a4] rfl (S0 := _) rfl eu34 rfl (Nat.le_of_ble_eq_true rfl) (d1 := d - 1) (b1 := 0) (s1 := 0) (bc' := bc) (bs' := bs) (Q1 := fun r h9 => r = .inl (some (.int v33.1)) ∧ v33.2 = h9) (by omega) (by omega) (by omega) (w_X4_addStep (by omega) ev33 (fun _ _ q => q)) (fun E h9 q => nomatch (show (Sum.inr E : tq_R) = Sum.inl _ from q.1)) (fun r9 h9 q => ?_)
                  obtain ⟨q1, rfl⟩ := q
                  cases (show (Sum.inl r9 : tq_R) = Sum.inl (some (.int v33.1)) from q1)
                  refine tq_iret (M := mX10_step) (pc := 102) dX10_step_102 rfl ?_
                  cases (Option.some.inj hf)
                  exact hQ _ _ ⟨rfl, rfl⟩
                · have hf := tq_ifn hf cc
                  have hb9 := hb _ _ (Option.some.inj hf).symm
                  refine tq_throw (M := mX10_step) (pc := 74) (E := "java/lang/IllegalStateException") (ik := 149) (ic := 153) (is := 279) (text := "the path has 5 steps") (by decide +kernel) (by decide +kernel) rfl rfl dX10_step_74 dX10_step_77 dX10_step_78 dX10_step_81 dX10_step_84 (by omega) (by omega) (by omega) ?_
                  cases (Option.some.inj hf)
                  exact hQ _ _ ⟨rfl, rfl⟩
            · have hf := tq_ifn hf cc
              have hb9 := hb _ _ (Option.some.inj hf).symm
              refine tq_throw (M := mX10_step) (pc := 46) (E := "java/lang/IllegalArgumentException") (ik := 268) (ic := 272) (is := 270) (text := "only REPEAT has a path") (by decide +kernel) (by decide +kernel) rfl rfl dX10_step_46 dX10_step_49 dX10_step_50 dX10_step_53 dX10_step_56 (by omega) (by omega) (by omega) ?_
              cases (Option.some.inj hf)
              exact hQ _ _ ⟨rfl, rfl⟩
    · have hf := tq_ifp hf cc
      refine tq_aload_n (M := mX10_step) (pc := 11) dX10_step_11 rfl ?_
      refine tq_iload_n (M := mX10_step) (pc := 12) dX10_step_12 rfl ?_
      refine tq_iload (M := mX10_step) (pc := 13) dX10_step_13 rfl ?_
      obtain ⟨⟨⟩, eu36, hf⟩ := tq_be hf
      obtain ⟨fsu36, eu36⟩ := tq_is_s eu36
      rcases tq_te hf with ⟨E1, g1, ev35, e9⟩ | ⟨v35, w37, ev35, hf⟩
      · have hb9 := hb _ _ e9
        refine tq_calV (M := mX10_step) (pc := 15) (S := []) tk_y_X10_needLower tk_v_X10_needLower tk_RX10_265 dX10_step_15 [.int a1, .int a4] rfl (S0 := _) rfl eu36 rfl (Nat.le_of_ble_eq_true rfl) (d1 := d - 1) (b1 := 0 + bc) (s1 := 0 + bs) (bc' := 0) (bs' := 0) (Q1 := fun r h9 => r = tq_enV ((.inl E1, g1) : (String ⊕ Unit) × tq_H).1 ∧ ((.inl E1, g1) : (String ⊕ Unit) × tq_H).2 = h9) (by omega) (by omega) (by omega) (w_X10_needLower (bc := bc) (bs := bs) (by omega) ev35 (fun _ _ _ => hb9) (fun _ _ q => q)) (fun E h9 q => ?_) (fun r9 h9 q => nomatch (show (Sum.inl r9 : tq_R) = Sum.inr E1 from q.1))
        obtain ⟨q1, rfl⟩ := q
        cases (show (Sum.inr E : tq_R) = Sum.inr E1 from q1)
        subst e9
        exact tq_out rfl (hQ _ _ ⟨rfl, rfl⟩)
      · refine tq_calV (M := mX10_step) (pc := 15) (S := []) tk_y_X10_needLower tk_v_X10_needLower tk_RX10_265 dX10_step_15 [.int a1, .int a4] rfl (S0 := _) rfl eu36 rfl (Nat.le_of_ble_eq_true rfl) (d1 := d - 1) (b1 := 0 + 0) (s1 := 0 + 0) (bc' := bc) (bs' := bs) (Q1 := fun r h9 => r = tq_enV ((.inr (), w37) : (String ⊕ Unit) × tq_H).1 ∧ ((.inr (), w37) : (String ⊕ Unit) × tq_H).2 = h9) (by omega) (by omega) (by omega) (w_X10_needLower (bc := 0) (bs := 0) (by omega) ev35 (fun E g z => by cases z) (fun _ _ q => q)) (fun E h9 q => nomatch (show (Sum.inr E : tq_R) = Sum.inl _ from q.1)) (fun r9 h9 q => ?_)
        obtain ⟨q1, rfl⟩ := q
        cases (show (Sum.inl r9 : tq_R) = Sum.inl (none) from q1)
        refine tq_aload_n (M := mX10_step) (pc := 18) dX10_step_18 rfl ?_
        refine tq_iload_n (M := mX10_step) (pc := 19) dX10_step_19 rfl ?_
        refine tq_iconst (M := mX10_step) (pc := 20) dX10_step_20 tk_ki_0 ?_
        refine tq_bipush (M := mX10_step) (pc := 21) dX10_step_21 tk_kb_12 ?_
        obtain ⟨⟨⟩, eu39, hf⟩ := tq_be hf
        obtain ⟨fsu39, eu39⟩ := tq_is_s eu39
        rcases tq_te hf with ⟨E1, g1, ev38, e9⟩ | ⟨v38, w40, ev38, hf⟩
        · have hb9 := hb _ _ e9
          refine tq_calV (M := mX10_step) (pc := 23) (S := []) tk_y_X10_needRange tk_v_X10_needRange tk_RX10_132 dX10_step_23 [.int a2, .int (0 : Int32), .int (12 : Int32)] rfl (S0 := _) rfl eu39 rfl (Nat.le_of_ble_eq_true rfl) (d1 := d - 1) (b1 := 0 + bc) (s1 := 0 + bs) (bc' := 0) (bs' := 0) (Q1 := fun r h9 => r = tq_enV ((.inl E1, g1) : (String ⊕ Unit) × tq_H).1 ∧ ((.inl E1, g1) : (String ⊕ Unit) × tq_H).2 = h9) (by omega) (by omega) (by omega) (w_X10_needRange (bc := bc) (bs := bs) (by omega) ev38 (fun _ _ _ => hb9) (fun _ _ q => q)) (fun E h9 q => ?_) (fun r9 h9 q => nomatch (show (Sum.inl r9 : tq_R) = Sum.inr E1 from q.1))
          obtain ⟨q1, rfl⟩ := q
          cases (show (Sum.inr E : tq_R) = Sum.inr E1 from q1)
          subst e9
          exact tq_out rfl (hQ _ _ ⟨rfl, rfl⟩)
        · refine tq_calV (M := mX10_step) (pc := 23) (S := []) tk_y_X10_needRange tk_v_X10_needRange tk_RX10_132 dX10_step_23 [.int a2, .int (0 : Int32), .int (12 : Int32)] rfl (S0 := _) rfl eu39 rfl (Nat.le_of_ble_eq_true rfl) (d1 := d - 1) (b1 := 0 + 0) (s1 := 0 + 0) (bc' := bc) (bs' := bs) (Q1 := fun r h9 => r = tq_enV ((.inr (), w40) : (String ⊕ Unit) × tq_H).1 ∧ ((.inr (), w40) : (String ⊕ Unit) × tq_H).2 = h9) (by omega) (by omega) (by omega) (w_X10_needRange (bc := 0) (bs := 0) (by omega) ev38 (fun E g z => by cases z) (fun _ _ q => q)) (fun E h9 q => nomatch (show (Sum.inr E : tq_R) = Sum.inl _ from q.1)) (fun r9 h9 q => ?_)
          obtain ⟨q1, rfl⟩ := q
          cases (show (Sum.inl r9 : tq_R) = Sum.inl (none) from q1)
          refine tq_aload_n (M := mX10_step) (pc := 26) dX10_step_26 rfl ?_
          refine tq_iload_n (M := mX10_step) (pc := 27) dX10_step_27 rfl ?_
          refine tq_iconst (M := mX10_step) (pc := 28) dX10_step_28 tk_ki_0 ?_
          refine tq_bipush (M := mX10_step) (pc := 29) dX10_step_29 tk_kb_13 ?_
          obtain ⟨⟨⟩, eu42, hf⟩ := tq_be hf
          obtain ⟨fsu42, eu42⟩ := tq_is_s eu42
          rcases tq_te hf with ⟨E1, g1, ev41, e9⟩ | ⟨v41, w43, ev41, hf⟩
          · have hb9 := hb _ _ e9
            refine tq_calV (M := mX10_step) (pc := 31) (S := []) tk_y_X10_needRange tk_v_X10_needRange tk_RX10_132 dX10_step_31 [.int a3, .int (0 : Int32), .int (13 : Int32)] rfl (S0 := _) rfl eu42 rfl (Nat.le_of_ble_eq_true rfl) (d1 := d - 1) (b1 := 0 + bc) (s1 := 0 + bs) (bc' := 0) (bs' := 0) (Q1 := fun r h9 => r = tq_enV ((.inl E1, g1) : (String ⊕ Unit) × tq_H).1 ∧ ((.inl E1, g1) : (String ⊕ Unit) × tq_H).2 = h9) (by omega) (by omega) (by omega) (w_X10_needRange (bc := bc) (bs := bs) (by omega) ev41 (fun _ _ _ => hb9) (fun _ _ q => q)) (fun E h9 q => ?_) (fun r9 h9 q => nomatch (show (Sum.inl r9 : tq_R) = Sum.inr E1 from q.1))
            obtain ⟨q1, rfl⟩ := q
            cases (show (Sum.inr E : tq_R) = Sum.inr E1 from q1)
            subst e9
            exact tq_out rfl (hQ _ _ ⟨rfl, rfl⟩)
          · refine tq_calV (M := mX10_step) (pc := 31) (S := []) tk_y_X10_needRange tk_v_X10_needRange tk_RX10_132 dX10_step_31 [.int a3, .int (0 : Int32), .int (13 : Int32)] rfl (S0 := _) rfl eu42 rfl (Nat.le_of_ble_eq_true rfl) (d1 := d - 1) (b1 := 0 + 0) (s1 := 0 + 0) (bc' := bc) (bs' := bs) (Q1 := fun r h9 => r = tq_enV ((.inr (), w43) : (String ⊕ Unit) × tq_H).1 ∧ ((.inr (), w43) : (String ⊕ Unit) × tq_H).2 = h9) (by omega) (by omega) (by omega) (w_X10_needRange (bc := 0) (bs := 0) (by omega) ev41 (fun E g z => by cases z) (fun _ _ q => q)) (fun E h9 q => nomatch (show (Sum.inr E : tq_R) = Sum.inl _ from q.1)) (fun r9 h9 q => ?_)
            obtain ⟨q1, rfl⟩ := q
            cases (show (Sum.inl r9 : tq_R) = Sum.inl (none) from q1)
            refine tq_iload_n (M := mX10_step) (pc := 34) dX10_step_34 rfl ?_
            refine tq_bipush (M := mX10_step) (pc := 35) dX10_step_35 tk_kb_12 ?_
            refine tq_icmp_eq (M := mX10_step) (pc := 37) (tgt := 57) dX10_step_37 (by decide) (fun cc => ?_) (fun cc => ?_)
            · have hf := tq_ifp hf cc
              refine tq_aload_n (M := mX10_step) (pc := 57) dX10_step_57 rfl ?_
              refine tq_iload_n (M := mX10_step) (pc := 58) dX10_step_58 rfl ?_
              obtain ⟨⟨⟩, eu45, hf⟩ := tq_be hf
              obtain ⟨fsu45, eu45⟩ := tq_is_s eu45
              rcases tq_te hf with ⟨E1, g1, ev44, e9⟩ | ⟨v44, w46, ev44, hf⟩
              · have hb9 := hb _ _ e9
                refine tq_calV (M := mX10_step) (pc := 59) (S := []) tk_y_X10_needOpenPath tk_v_X10_needOpenPath tk_RX10_273 dX10_step_59 [.int a1] rfl (S0 := _) rfl eu45 rfl (Nat.le_of_ble_eq_true rfl) (d1 := d - 1) (b1 := 0 + bc) (s1 := 0 + bs) (bc' := 0) (bs' := 0) (Q1 := fun r h9 => r = tq_enV ((.inl E1, g1) : (String ⊕ Unit) × tq_H).1 ∧ ((.inl E1, g1) : (String ⊕ Unit) × tq_H).2 = h9) (by omega) (by omega) (by omega) (w_X10_needOpenPath (bc := bc) (bs := bs) (by omega) ev44 (fun _ _ _ => hb9) (fun _ _ q => q)) (fun E h9 q => ?_) (fun r9 h9 q => nomatch (show (Sum.inl r9 : tq_R) = Sum.inr E1 from q.1))
                obtain ⟨q1, rfl⟩ := q
                cases (show (Sum.inr E : tq_R) = Sum.inr E1 from q1)
                subst e9
                exact tq_out rfl (hQ _ _ ⟨rfl, rfl⟩)
              · refine tq_calV (M := mX10_step) (pc := 59) (S := []) tk_y_X10_needOpenPath tk_v_X10_needOpenPath tk_RX10_273 dX10_step_59 [.int a1] rfl (S0 := _) rfl eu45 rfl (Nat.le_of_ble_eq_true rfl) (d1 := d - 1) (b1 := 0 + 0) (s1 := 0 + 0) (bc' := bc) (bs' := bs) (Q1 := fun r h9 => r = tq_enV ((.inr (), w46) : (String ⊕ Unit) × tq_H).1 ∧ ((.inr (), w46) : (String ⊕ Unit) × tq_H).2 = h9) (by omega) (by omega) (by omega) (w_X10_needOpenPath (bc := 0) (bs := 0) (by omega) ev44 (fun E g z => by cases z) (fun _ _ q => q)) (fun E h9 q => nomatch (show (Sum.inr E : tq_R) = Sum.inl _ from q.1)) (fun r9 h9 q => ?_)
                obtain ⟨q1, rfl⟩ := q
                cases (show (Sum.inl r9 : tq_R) = Sum.inl (none) from q1)
                refine tq_aload_n (M := mX10_step) (pc := 62) dX10_step_62 rfl ?_
                obtain ⟨k47, ek47, hf⟩ := tq_be hf
                refine tq_getR (M := mX10_step) (pc := 63) tk_c10 (by decide) dX10_step_63 tk_RX10_29 rfl ek47 ?_
                refine tq_iload_n (M := mX10_step) (pc := 66) dX10_step_66 rfl ?_
                obtain ⟨⟨⟩, eu49, hf⟩ := tq_be hf
                obtain ⟨fsu49, eu49⟩ := tq_is_s eu49
                obtain ⟨v48, ev48, hf⟩ := tq_be hf
                refine tq_calV (M := mX10_step) (pc := 67) (S := []) tk_y_X4_stepsOf tk_v_X4_stepsOf tk_RX10_276 dX10_step_67 [.int a1] rfl (S0 := _) rfl eu49 rfl (Nat.le_of_ble_eq_true rfl) (d1 := d - 1) (b1 := 0) (s1 := 0) (bc' := bc) (bs' := bs) (Q1 := fun r h9 => r = .inl (some (.int v48)) ∧ w46 = h9) (by omega) (by omega) (by omega) (w_X4_stepsOf (by omega) ev48 (fun _ _ q => q)) (fun E h9 q => nomatch (show (Sum.inr E : tq_R) = Sum.inl _ from q.1)) (fun r9 h9 q => ?_)
                obtain ⟨q1, rfl⟩ := q
                cases (show (Sum.inl r9 : tq_R) = Sum.inl (some (.int v48)) from q1)
                refine tq_iconst (M := mX10_step) (pc := 70) dX10_step_70 tk_ki_5 ?_
                refine tq_icmp_lt (M := mX10_step) (pc := 71) (tgt := 85) dX10_step_71 (by decide) (fun cc => ?_) (fun cc => ?_)
                · have hf := tq_ifp hf cc
                  refine tq_aload_n (M := mX10_step) (pc := 85) dX10_step_85 rfl ?_
                  refine tq_iload_n (M := mX10_step) (pc := 86) dX10_step_86 rfl ?_
                  obtain ⟨⟨⟩, eu51, hf⟩ := tq_be hf
                  obtain ⟨fsu51, eu51⟩ := tq_is_s eu51
                  obtain ⟨v50, ev50, hf⟩ := tq_be hf
                  refine tq_calV (M := mX10_step) (pc := 87) (S := []) tk_y_X10_noteChangeOf tk_v_X10_noteChangeOf tk_RX10_281 dX10_step_87 [.int a1] rfl (S0 := _) rfl eu51 rfl (Nat.le_of_ble_eq_true rfl) (d1 := d - 1) (b1 := 0) (s1 := 0) (bc' := bc) (bs' := bs) (Q1 := fun r h9 => r = .inl none ∧ v50 = h9) (by omega) (by omega) (by omega) (w_X10_noteChangeOf (by omega) ev50 (fun _ _ q => q)) (fun E h9 q => nomatch (show (Sum.inr E : tq_R) = Sum.inl _ from q.1)) (fun r9 h9 q => ?_)
                  obtain ⟨q1, rfl⟩ := q
                  cases (show (Sum.inl r9 : tq_R) = Sum.inl (none) from q1)
                  refine tq_aload_n (M := mX10_step) (pc := 90) dX10_step_90 rfl ?_
                  obtain ⟨k52, ek52, hf⟩ := tq_be hf
                  refine tq_getR (M := mX10_step) (pc := 91) tk_c10 (by decide) dX10_step_91 tk_RX10_29 rfl ek52 ?_
                  refine tq_iload_n (M := mX10_step) (pc := 94) dX10_step_94 rfl ?_
                  refine tq_iload_n (M := mX10_step) (pc := 95) dX10_step_95 rfl ?_
                  refine tq_iload_n (M := mX10_step) (pc := 96) dX10_step_96 rfl ?_
                  refine tq_iload (M := mX10_step) (pc := 97) dX10_step_97 rfl ?_
                  obtain ⟨⟨⟩, eu54, hf⟩ := tq_be hf
                  obtain ⟨fsu54, eu54⟩ := tq_is_s eu54
                  obtain ⟨v53, ev53, hf⟩ := tq_be hf
                  refine tq_calV (M := mX10_step) (pc := 99) (S := []) tk_y_X4_addStep tk_v_X4_addStep tk_RX10_284 dX10_step_99 [.int a1, .int a2, .int a3, .int a4] rfl (S0 := _) rfl eu54 rfl (Nat.le_of_ble_eq_true rfl) (d1 := d - 1) (b1 := 0) (s1 := 0) (bc' := bc) (bs' := bs) (Q1 := fun r h9 => r = .inl (some (.int v53.1)) ∧ v53.2 = h9) (by omega) (by omega) (by omega) (w_X4_addStep (by omega) ev53 (fun _ _ q => q)) (fun E h9 q => nomatch (show (Sum.inr E : tq_R) = Sum.inl _ from q.1)) (fun r9 h9 q => ?_)
                  obtain ⟨q1, rfl⟩ := q
                  cases (show (Sum.inl r9 : tq_R) = Sum.inl (some (.int v53.1)) from q1)
                  refine tq_iret (M := mX10_step) (pc := 102) dX10_step_102 rfl ?_
                  cases (Option.some.inj hf)
                  exact hQ _ _ ⟨rfl, rfl⟩
                · have hf := tq_ifn hf cc
                  have hb9 := hb _ _ (Option.some.inj hf).symm
                  refine tq_throw (M := mX10_step) (pc := 74) (E := "java/lang/IllegalStateException") (ik := 149) (ic := 153) (is := 279) (text := "the path has 5 steps") (by decide +kernel) (by decide +kernel) rfl rfl dX10_step_74 dX10_step_77 dX10_step_78 dX10_step_81 dX10_step_84 (by omega) (by omega) (by omega) ?_
                  cases (Option.some.inj hf)
                  exact hQ _ _ ⟨rfl, rfl⟩
            · have hf := tq_ifn hf cc
              refine tq_iload (M := mX10_step) (pc := 40) dX10_step_40 rfl ?_
              refine tq_iconst (M := mX10_step) (pc := 42) dX10_step_42 tk_ki_m1 ?_
              refine tq_icmp_eq (M := mX10_step) (pc := 43) (tgt := 57) dX10_step_43 (by decide) (fun cc => ?_) (fun cc => ?_)
              · have hf := tq_ifp hf cc
                refine tq_aload_n (M := mX10_step) (pc := 57) dX10_step_57 rfl ?_
                refine tq_iload_n (M := mX10_step) (pc := 58) dX10_step_58 rfl ?_
                obtain ⟨⟨⟩, eu56, hf⟩ := tq_be hf
                obtain ⟨fsu56, eu56⟩ := tq_is_s eu56
                rcases tq_te hf with ⟨E1, g1, ev55, e9⟩ | ⟨v55, w57, ev55, hf⟩
                · have hb9 := hb _ _ e9
                  refine tq_calV (M := mX10_step) (pc := 59) (S := []) tk_y_X10_needOpenPath tk_v_X10_needOpenPath tk_RX10_273 dX10_step_59 [.int a1] rfl (S0 := _) rfl eu56 rfl (Nat.le_of_ble_eq_true rfl) (d1 := d - 1) (b1 := 0 + bc) (s1 := 0 + bs) (bc' := 0) (bs' := 0) (Q1 := fun r h9 => r = tq_enV ((.inl E1, g1) : (String ⊕ Unit) × tq_H).1 ∧ ((.inl E1, g1) : (String ⊕ Unit) × tq_H).2 = h9) (by omega) (by omega) (by omega) (w_X10_needOpenPath (bc := bc) (bs := bs) (by omega) ev55 (fun _ _ _ => hb9) (fun _ _ q => q)) (fun E h9 q => ?_) (fun r9 h9 q => nomatch (show (Sum.inl r9 : tq_R) = Sum.inr E1 from q.1))
                  obtain ⟨q1, rfl⟩ := q
                  cases (show (Sum.inr E : tq_R) = Sum.inr E1 from q1)
                  subst e9
                  exact tq_out rfl (hQ _ _ ⟨rfl, rfl⟩)
                · refine tq_calV (M := mX10_step) (pc := 59) (S := []) tk_y_X10_needOpenPath tk_v_X10_needOpenPath tk_RX10_273 dX10_step_59 [.int a1] rfl (S0 := _) rfl eu56 rfl (Nat.le_of_ble_eq_true rfl) (d1 := d - 1) (b1 := 0 + 0) (s1 := 0 + 0) (bc' := bc) (bs' := bs) (Q1 := fun r h9 => r = tq_enV ((.inr (), w57) : (String ⊕ Unit) × tq_H).1 ∧ ((.inr (), w57) : (String ⊕ Unit) × tq_H).2 = h9) (by omega) (by omega) (by omega) (w_X10_needOpenPath (bc := 0) (bs := 0) (by omega) ev55 (fun E g z => by cases z) (fun _ _ q => q)) (fun E h9 q => nomatch (show (Sum.inr E : tq_R) = Sum.inl _ from q.1)) (fun r9 h9 q => ?_)
                  obtain ⟨q1, rfl⟩ := q
                  cases (show (Sum.inl r9 : tq_R) = Sum.inl (none) from q1)
                  refine tq_aload_n (M := mX10_step) (pc := 62) dX10_step_62 rfl ?_
                  obtain ⟨k58, ek58, hf⟩ := tq_be hf
                  refine tq_getR (M := mX10_step) (pc := 63) tk_c10 (by decide) dX10_step_63 tk_RX10_29 rfl ek58 ?_
                  refine tq_iload_n (M := mX10_step) (pc := 66) dX10_step_66 rfl ?_
                  obtain ⟨⟨⟩, eu60, hf⟩ := tq_be hf
                  obtain ⟨fsu60, eu60⟩ := tq_is_s eu60
                  obtain ⟨v59, ev59, hf⟩ := tq_be hf
                  refine tq_calV (M := mX10_step) (pc := 67) (S := []) tk_y_X4_stepsOf tk_v_X4_stepsOf tk_RX10_276 dX10_step_67 [.int a1] rfl (S0 := _) rfl eu60 rfl (Nat.le_of_ble_eq_true rfl) (d1 := d - 1) (b1 := 0) (s1 := 0) (bc' := bc) (bs' := bs) (Q1 := fun r h9 => r = .inl (some (.int v59)) ∧ w57 = h9) (by omega) (by omega) (by omega) (w_X4_stepsOf (by omega) ev59 (fun _ _ q => q)) (fun E h9 q => nomatch (show (Sum.inr E : tq_R) = Sum.inl _ from q.1)) (fun r9 h9 q => ?_)
                  obtain ⟨q1, rfl⟩ := q
                  cases (show (Sum.inl r9 : tq_R) = Sum.inl (some (.int v59)) from q1)
                  refine tq_iconst (M := mX10_step) (pc := 70) dX10_step_70 tk_ki_5 ?_
                  refine tq_icmp_lt (M := mX10_step) (pc := 71) (tgt := 85) dX10_step_71 (by decide) (fun cc => ?_) (fun cc => ?_)
                  · have hf := tq_ifp hf cc
                    refine tq_aload_n (M := mX10_step) (pc := 85) dX10_step_85 rfl ?_
                    refine tq_iload_n (M := mX10_step) (pc := 86) dX10_step_86 rfl ?_
                    obtain ⟨⟨⟩, eu62, hf⟩ := tq_be hf
                    obtain ⟨fsu62, eu62⟩ := tq_is_s eu62
                    obtain ⟨v61, ev61, hf⟩ := tq_be hf
                    refine tq_calV (M := mX10_step) (pc := 87) (S := []) tk_y_X10_noteChangeOf tk_v_X10_noteChangeOf tk_RX10_281 dX10_step_87 [.int a1] rfl (S0 := _) rfl eu62 rfl (Nat.le_of_ble_eq_true rfl) (d1 := d - 1) (b1 := 0) (s1 := 0) (bc' := bc) (bs' := bs) (Q1 := fun r h9 => r = .inl none ∧ v61 = h9) (by omega) (by omega) (by omega) (w_X10_noteChangeOf (by omega) ev61 (fun _ _ q => q)) (fun E h9 q => nomatch (show (Sum.inr E : tq_R) = Sum.inl _ from q.1)) (fun r9 h9 q => ?_)
                    obtain ⟨q1, rfl⟩ := q
                    cases (show (Sum.inl r9 : tq_R) = Sum.inl (none) from q1)
                    refine tq_aload_n (M := mX10_step) (pc := 90) dX10_step_90 rfl ?_
                    obtain ⟨k63, ek63, hf⟩ := tq_be hf
                    refine tq_getR (M := mX10_step) (pc := 91) tk_c10 (by decide) dX10_step_91 tk_RX10_29 rfl ek63 ?_
                    refine tq_iload_n (M := mX10_step) (pc := 94) dX10_step_94 rfl ?_
                    refine tq_iload_n (M := mX10_step) (pc := 95) dX10_step_95 rfl ?_
                    refine tq_iload_n (M := mX10_step) (pc := 96) dX10_step_96 rfl ?_
                    refine tq_iload (M := mX10_step) (pc := 97) dX10_step_97 rfl ?_
                    obtain ⟨⟨⟩, eu65, hf⟩ := tq_be hf
                    obtain ⟨fsu65, eu65⟩ := tq_is_s eu65
                    obtain ⟨v64, ev64, hf⟩ := tq_be hf
                    refine tq_calV (M := mX10_step) (pc := 99) (S := []) tk_y_X4_addStep tk_v_X4_addStep tk_RX10_284 dX10_step_99 [.int a1, .int a2, .int a3, .int a4] rfl (S0 := _) rfl eu65 rfl (Nat.le_of_ble_eq_true rfl) (d1 := d - 1) (b1 := 0) (s1 := 0) (bc' := bc) (bs' := bs) (Q1 := fun r h9 => r = .inl (some (.int v64.1)) ∧ v64.2 = h9) (by omega) (by omega) (by omega) (w_X4_addStep (by omega) ev64 (fun _ _ q => q)) (fun E h9 q => nomatch (show (Sum.inr E : tq_R) = Sum.inl _ from q.1)) (fun r9 h9 q => ?_)
                    obtain ⟨q1, rfl⟩ := q
                    cases (show (Sum.inl r9 : tq_R) = Sum.inl (some (.int v64.1)) from q1)
                    refine tq_iret (M := mX10_step) (pc := 102) dX10_step_102 rfl ?_
                    cases (Option.some.inj hf)
                    exact hQ _ _ ⟨rfl, rfl⟩
                  · have hf := tq_ifn hf cc
                    have hb9 := hb _ _ (Option.some.inj hf).symm
                    refine tq_throw (M := mX10_step) (pc := 74) (E := "java/lang/IllegalStateException") (ik := 149) (ic := 153) (is := 279) (text := "the path has 5 steps") (by decide +kernel) (by decide +kernel) rfl rfl dX10_step_74 dX10_step_77 dX10_step_78 dX10_step_81 dX10_step_84 (by omega) (by omega) (by omega) ?_
                    cases (Option.some.inj hf)
                    exact hQ _ _ ⟨rfl, rfl⟩
              · have hf := tq_ifn hf cc
                have hb9 := hb _ _ (Option.some.inj hf).symm
                refine tq_throw (M := mX10_step) (pc := 46) (E := "java/lang/IllegalArgumentException") (ik := 268) (ic := 272) (is := 270) (text := "only REPEAT has a path") (by decide +kernel) (by decide +kernel) rfl rfl dX10_step_46 dX10_step_49 dX10_step_50 dX10_step_53 dX10_step_56 (by omega) (by omega) (by omega) ?_
                cases (Option.some.inj hf)
                exact hQ _ _ ⟨rfl, rfl⟩
abbrev mX10_needOpenStep : tq_M := (RX10, cX10_needOpenStep, 2, none, false, [], none)
def f_X10_needOpenStep (t : Nat) (a1 : Int32) (h : tq_H) : Option ((String ⊕ Unit) × tq_H) :=
  (tq_is h t 10).bind fun _ =>
  tq_tb (f_X10_needOpenPath t a1 h) fun _ w3 =>
  (tq_gr w3 t 10 3).bind fun k4 =>
  (tq_is w3 k4 4).bind fun _ =>
  (f_X4_stepsOf k4 a1 w3).bind fun v5 =>
  if v5 ≥ (1 : Int32) then
    (tq_gr w3 t 10 3).bind fun k7 =>
    (tq_is w3 k7 4).bind fun _ =>
    (f_X4_conditionsOfLast k7 a1 w3).bind fun v8 =>
    if v8 < (2 : Int32) then
      some (.inr (), w3)
    else
      some (.inl "java/lang/IllegalStateException", w3)
  else
    some (.inl "java/lang/IllegalStateException", w3)
set_option maxHeartbeats 4000000 in
set_option maxRecDepth 20000 in
theorem w_X10_needOpenStep {l : Launch} {d : Nat} (hd9 : 7 ≤ d) {t : Nat} {a1 : Int32} {bc bs : Nat} {h : tq_H} {o : (String ⊕ Unit) × tq_H} {Q : tq_R → tq_H → Prop} (hf : f_X10_needOpenStep t a1 h = some o) (hb : ∀ E g, o = (.inl E, g) → 1 ≤ bc ∧ 6 ≤ bs) (hQ : ∀ r h9, r = tq_enV o.1 ∧ o.2 = h9 → Q r h9) : tq_C l yX10_needOpenStep cX10_needOpenStep 2 none d (0 + bc) (0 + bs) [.ref t, .int a1] h Q := by
  refine tq_body (y := yX10_needOpenStep) false (by decide +kernel) (fun z => by cases z) (Nat.le_of_ble_eq_true rfl) ?_
  show tq_W l mX10_needOpenStep d (0 + bc) (0 + bs) Q 0 [(0, .ref t), (1, .int a1)] [] h
  refine tq_more (bc := bc) (bs := bs) (by omega) (by omega) ?_
  refine tq_aload_n (M := mX10_needOpenStep) (pc := 0) dX10_needOpenStep_0 rfl ?_
  refine tq_iload_n (M := mX10_needOpenStep) (pc := 1) dX10_needOpenStep_1 rfl ?_
  obtain ⟨⟨⟩, eu2, hf⟩ := tq_be hf
  obtain ⟨fsu2, eu2⟩ := tq_is_s eu2
  rcases tq_te hf with ⟨E1, g1, ev1, e9⟩ | ⟨v1, w3, ev1, hf⟩
  · have hb9 := hb _ _ e9
    refine tq_calV (M := mX10_needOpenStep) (pc := 2) (S := []) tk_y_X10_needOpenPath tk_v_X10_needOpenPath tk_RX10_273 dX10_needOpenStep_2 [.int a1] rfl (S0 := _) rfl eu2 rfl (Nat.le_of_ble_eq_true rfl) (d1 := d - 1) (b1 := 0 + bc) (s1 := 0 + bs) (bc' := 0) (bs' := 0) (Q1 := fun r h9 => r = tq_enV ((.inl E1, g1) : (String ⊕ Unit) × tq_H).1 ∧ ((.inl E1, g1) : (String ⊕ Unit) × tq_H).2 = h9) (by omega) (by omega) (by omega) (w_X10_needOpenPath (bc := bc) (bs := bs) (by omega) ev1 (fun _ _ _ => hb9) (fun _ _ q => q)) (fun E h9 q => ?_) (fun r9 h9 q => nomatch (show (Sum.inl r9 : tq_R) = Sum.inr E1 from q.1))
    obtain ⟨q1, rfl⟩ := q
    cases (show (Sum.inr E : tq_R) = Sum.inr E1 from q1)
    subst e9
    exact tq_out rfl (hQ _ _ ⟨rfl, rfl⟩)
  · refine tq_calV (M := mX10_needOpenStep) (pc := 2) (S := []) tk_y_X10_needOpenPath tk_v_X10_needOpenPath tk_RX10_273 dX10_needOpenStep_2 [.int a1] rfl (S0 := _) rfl eu2 rfl (Nat.le_of_ble_eq_true rfl) (d1 := d - 1) (b1 := 0 + 0) (s1 := 0 + 0) (bc' := bc) (bs' := bs) (Q1 := fun r h9 => r = tq_enV ((.inr (), w3) : (String ⊕ Unit) × tq_H).1 ∧ ((.inr (), w3) : (String ⊕ Unit) × tq_H).2 = h9) (by omega) (by omega) (by omega) (w_X10_needOpenPath (bc := 0) (bs := 0) (by omega) ev1 (fun E g z => by cases z) (fun _ _ q => q)) (fun E h9 q => nomatch (show (Sum.inr E : tq_R) = Sum.inl _ from q.1)) (fun r9 h9 q => ?_)
    obtain ⟨q1, rfl⟩ := q
    cases (show (Sum.inl r9 : tq_R) = Sum.inl (none) from q1)
    refine tq_aload_n (M := mX10_needOpenStep) (pc := 5) dX10_needOpenStep_5 rfl ?_
    obtain ⟨k4, ek4, hf⟩ := tq_be hf
    refine tq_getR (M := mX10_needOpenStep) (pc := 6) tk_c10 (by decide) dX10_needOpenStep_6 tk_RX10_29 rfl ek4 ?_
    refine tq_iload_n (M := mX10_needOpenStep) (pc := 9) dX10_needOpenStep_9 rfl ?_
    obtain ⟨⟨⟩, eu6, hf⟩ := tq_be hf
    obtain ⟨fsu6, eu6⟩ := tq_is_s eu6
    obtain ⟨v5, ev5, hf⟩ := tq_be hf
    refine tq_calV (M := mX10_needOpenStep) (pc := 10) (S := []) tk_y_X4_stepsOf tk_v_X4_stepsOf tk_RX10_276 dX10_needOpenStep_10 [.int a1] rfl (S0 := _) rfl eu6 rfl (Nat.le_of_ble_eq_true rfl) (d1 := d - 1) (b1 := 0) (s1 := 0) (bc' := bc) (bs' := bs) (Q1 := fun r h9 => r = .inl (some (.int v5)) ∧ w3 = h9) (by omega) (by omega) (by omega) (w_X4_stepsOf (by omega) ev5 (fun _ _ q => q)) (fun E h9 q => nomatch (show (Sum.inr E : tq_R) = Sum.inl _ from q.1)) (fun r9 h9 q => ?_)
    obtain ⟨q1, rfl⟩ := q
    cases (show (Sum.inl r9 : tq_R) = Sum.inl (some (.int v5)) from q1)
    refine tq_iconst (M := mX10_needOpenStep) (pc := 13) dX10_needOpenStep_13 tk_ki_1 ?_
    refine tq_icmp_ge (M := mX10_needOpenStep) (pc := 14) (tgt := 28) dX10_needOpenStep_14 (by decide) (fun cc => ?_) (fun cc => ?_)
    · have hf := tq_ifp hf cc
      refine tq_aload_n (M := mX10_needOpenStep) (pc := 28) dX10_needOpenStep_28 rfl ?_
      obtain ⟨k7, ek7, hf⟩ := tq_be hf
      refine tq_getR (M := mX10_needOpenStep) (pc := 29) tk_c10 (by decide) dX10_needOpenStep_29 tk_RX10_29 rfl ek7 ?_
      refine tq_iload_n (M := mX10_needOpenStep) (pc := 32) dX10_needOpenStep_32 rfl ?_
      obtain ⟨⟨⟩, eu9, hf⟩ := tq_be hf
      obtain ⟨fsu9, eu9⟩ := tq_is_s eu9
      obtain ⟨v8, ev8, hf⟩ := tq_be hf
      refine tq_calV (M := mX10_needOpenStep) (pc := 33) (S := []) tk_y_X4_conditionsOfLast tk_v_X4_conditionsOfLast tk_RX10_472 dX10_needOpenStep_33 [.int a1] rfl (S0 := _) rfl eu9 rfl (Nat.le_of_ble_eq_true rfl) (d1 := d - 1) (b1 := 0) (s1 := 0) (bc' := bc) (bs' := bs) (Q1 := fun r h9 => r = .inl (some (.int v8)) ∧ w3 = h9) (by omega) (by omega) (by omega) (w_X4_conditionsOfLast (by omega) ev8 (fun _ _ q => q)) (fun E h9 q => nomatch (show (Sum.inr E : tq_R) = Sum.inl _ from q.1)) (fun r9 h9 q => ?_)
      obtain ⟨q1, rfl⟩ := q
      cases (show (Sum.inl r9 : tq_R) = Sum.inl (some (.int v8)) from q1)
      refine tq_iconst (M := mX10_needOpenStep) (pc := 36) dX10_needOpenStep_36 tk_ki_2 ?_
      refine tq_icmp_lt (M := mX10_needOpenStep) (pc := 37) (tgt := 51) dX10_needOpenStep_37 (by decide) (fun cc => ?_) (fun cc => ?_)
      · have hf := tq_ifp hf cc
        refine tq_vret (M := mX10_needOpenStep) (pc := 51) dX10_needOpenStep_51 rfl ?_
        cases (Option.some.inj hf)
        exact hQ _ _ ⟨rfl, rfl⟩
      · have hf := tq_ifn hf cc
        have hb9 := hb _ _ (Option.some.inj hf).symm
        refine tq_throw (M := mX10_needOpenStep) (pc := 40) (E := "java/lang/IllegalStateException") (ik := 149) (ic := 153) (is := 475) (text := "the last step has 2 conditions") (by decide +kernel) (by decide +kernel) rfl rfl dX10_needOpenStep_40 dX10_needOpenStep_43 dX10_needOpenStep_44 dX10_needOpenStep_47 dX10_needOpenStep_50 (by omega) (by omega) (by omega) ?_
        cases (Option.some.inj hf)
        exact hQ _ _ ⟨rfl, rfl⟩
    · have hf := tq_ifn hf cc
      have hb9 := hb _ _ (Option.some.inj hf).symm
      refine tq_throw (M := mX10_needOpenStep) (pc := 17) (E := "java/lang/IllegalStateException") (ik := 149) (ic := 153) (is := 470) (text := "the path has no step") (by decide +kernel) (by decide +kernel) rfl rfl dX10_needOpenStep_17 dX10_needOpenStep_20 dX10_needOpenStep_21 dX10_needOpenStep_24 dX10_needOpenStep_27 (by omega) (by omega) (by omega) ?_
      cases (Option.some.inj hf)
      exact hQ _ _ ⟨rfl, rfl⟩
abbrev mX10_place : tq_M := (RX10, cX10_place, 4, (some .int), false, [], none)
def f_X10_place (t : Nat) (a1 : Int32) (a2 : Int32) (a3 : Int32) (h : tq_H) : Option ((String ⊕ Int32) × tq_H) :=
  (tq_is h t 10).bind fun _ =>
  tq_tb (f_X10_needPath t a1 h) fun _ w3 =>
  (tq_is w3 t 10).bind fun _ =>
  tq_tb (f_X10_needRange t a2 (0 : Int32) (2 : Int32) w3) fun _ w6 =>
  (tq_is w6 t 10).bind fun _ =>
  tq_tb (f_X10_needRange t a3 (0 : Int32) (99 : Int32) w6) fun _ w9 =>
  (tq_is w9 t 10).bind fun _ =>
  tq_tb (f_X10_needOpenStep t a1 w9) fun _ w12 =>
  (tq_is w12 t 10).bind fun _ =>
  (f_X10_noteChangeOf t a1 w12).bind fun v13 =>
  (tq_gr v13 t 10 3).bind fun k15 =>
  (tq_is v13 k15 4).bind fun _ =>
  (f_X4_addCondition k15 a1 (0 : Int32) (-1 : Int32) a2 a3 v13).bind fun v16 =>
  some (.inr v16.1, v16.2)
set_option maxHeartbeats 4000000 in
set_option maxRecDepth 20000 in
theorem w_X10_place {l : Launch} {d : Nat} (hd9 : 8 ≤ d) {t : Nat} {a1 : Int32} {a2 : Int32} {a3 : Int32} {bc bs : Nat} {h : tq_H} {o : (String ⊕ Int32) × tq_H} {Q : tq_R → tq_H → Prop} (hf : f_X10_place t a1 a2 a3 h = some o) (hb : ∀ E g, o = (.inl E, g) → 1 ≤ bc ∧ 6 ≤ bs) (hQ : ∀ r h9, r = tq_enI o.1 ∧ o.2 = h9 → Q r h9) : tq_C l yX10_place cX10_place 4 (some .int) d (0 + bc) (0 + bs) [.ref t, .int a1, .int a2, .int a3] h Q := by
  refine tq_body (y := yX10_place) false (by decide +kernel) (fun z => by cases z) (Nat.le_of_ble_eq_true rfl) ?_
  show tq_W l mX10_place d (0 + bc) (0 + bs) Q 0 [(0, .ref t), (1, .int a1), (2, .int a2), (3, .int a3)] [] h
  refine tq_more (bc := bc) (bs := bs) (by omega) (by omega) ?_
  refine tq_aload_n (M := mX10_place) (pc := 0) dX10_place_0 rfl ?_
  refine tq_iload_n (M := mX10_place) (pc := 1) dX10_place_1 rfl ?_
  obtain ⟨⟨⟩, eu2, hf⟩ := tq_be hf
  obtain ⟨fsu2, eu2⟩ := tq_is_s eu2
  rcases tq_te hf with ⟨E1, g1, ev1, e9⟩ | ⟨v1, w3, ev1, hf⟩
  · have hb9 := hb _ _ e9
    refine tq_calV (M := mX10_place) (pc := 2) (S := []) tk_y_X10_needPath tk_v_X10_needPath tk_RX10_262 dX10_place_2 [.int a1] rfl (S0 := _) rfl eu2 rfl (Nat.le_of_ble_eq_true rfl) (d1 := d - 1) (b1 := 0 + bc) (s1 := 0 + bs) (bc' := 0) (bs' := 0) (Q1 := fun r h9 => r = tq_enV ((.inl E1, g1) : (String ⊕ Unit) × tq_H).1 ∧ ((.inl E1, g1) : (String ⊕ Unit) × tq_H).2 = h9) (by omega) (by omega) (by omega) (w_X10_needPath (bc := bc) (bs := bs) (by omega) ev1 (fun _ _ _ => hb9) (fun _ _ q => q)) (fun E h9 q => ?_) (fun r9 h9 q => nomatch (show (Sum.inl r9 : tq_R) = Sum.inr E1 from q.1))
    obtain ⟨q1, rfl⟩ := q
    cases (show (Sum.inr E : tq_R) = Sum.inr E1 from q1)
    subst e9
    exact tq_out rfl (hQ _ _ ⟨rfl, rfl⟩)
  · refine tq_calV (M := mX10_place) (pc := 2) (S := []) tk_y_X10_needPath tk_v_X10_needPath tk_RX10_262 dX10_place_2 [.int a1] rfl (S0 := _) rfl eu2 rfl (Nat.le_of_ble_eq_true rfl) (d1 := d - 1) (b1 := 0 + 0) (s1 := 0 + 0) (bc' := bc) (bs' := bs) (Q1 := fun r h9 => r = tq_enV ((.inr (), w3) : (String ⊕ Unit) × tq_H).1 ∧ ((.inr (), w3) : (String ⊕ Unit) × tq_H).2 = h9) (by omega) (by omega) (by omega) (w_X10_needPath (bc := 0) (bs := 0) (by omega) ev1 (fun E g z => by cases z) (fun _ _ q => q)) (fun E h9 q => nomatch (show (Sum.inr E : tq_R) = Sum.inl _ from q.1)) (fun r9 h9 q => ?_)
    obtain ⟨q1, rfl⟩ := q
    cases (show (Sum.inl r9 : tq_R) = Sum.inl (none) from q1)
    refine tq_aload_n (M := mX10_place) (pc := 5) dX10_place_5 rfl ?_
    refine tq_iload_n (M := mX10_place) (pc := 6) dX10_place_6 rfl ?_
    refine tq_iconst (M := mX10_place) (pc := 7) dX10_place_7 tk_ki_0 ?_
    refine tq_iconst (M := mX10_place) (pc := 8) dX10_place_8 tk_ki_2 ?_
    obtain ⟨⟨⟩, eu5, hf⟩ := tq_be hf
    obtain ⟨fsu5, eu5⟩ := tq_is_s eu5
    rcases tq_te hf with ⟨E1, g1, ev4, e9⟩ | ⟨v4, w6, ev4, hf⟩
    · have hb9 := hb _ _ e9
      refine tq_calV (M := mX10_place) (pc := 9) (S := []) tk_y_X10_needRange tk_v_X10_needRange tk_RX10_132 dX10_place_9 [.int a2, .int (0 : Int32), .int (2 : Int32)] rfl (S0 := _) rfl eu5 rfl (Nat.le_of_ble_eq_true rfl) (d1 := d - 1) (b1 := 0 + bc) (s1 := 0 + bs) (bc' := 0) (bs' := 0) (Q1 := fun r h9 => r = tq_enV ((.inl E1, g1) : (String ⊕ Unit) × tq_H).1 ∧ ((.inl E1, g1) : (String ⊕ Unit) × tq_H).2 = h9) (by omega) (by omega) (by omega) (w_X10_needRange (bc := bc) (bs := bs) (by omega) ev4 (fun _ _ _ => hb9) (fun _ _ q => q)) (fun E h9 q => ?_) (fun r9 h9 q => nomatch (show (Sum.inl r9 : tq_R) = Sum.inr E1 from q.1))
      obtain ⟨q1, rfl⟩ := q
      cases (show (Sum.inr E : tq_R) = Sum.inr E1 from q1)
      subst e9
      exact tq_out rfl (hQ _ _ ⟨rfl, rfl⟩)
    · refine tq_calV (M := mX10_place) (pc := 9) (S := []) tk_y_X10_needRange tk_v_X10_needRange tk_RX10_132 dX10_place_9 [.int a2, .int (0 : Int32), .int (2 : Int32)] rfl (S0 := _) rfl eu5 rfl (Nat.le_of_ble_eq_true rfl) (d1 := d - 1) (b1 := 0 + 0) (s1 := 0 + 0) (bc' := bc) (bs' := bs) (Q1 := fun r h9 => r = tq_enV ((.inr (), w6) : (String ⊕ Unit) × tq_H).1 ∧ ((.inr (), w6) : (String ⊕ Unit) × tq_H).2 = h9) (by omega) (by omega) (by omega) (w_X10_needRange (bc := 0) (bs := 0) (by omega) ev4 (fun E g z => by cases z) (fun _ _ q => q)) (fun E h9 q => nomatch (show (Sum.inr E : tq_R) = Sum.inl _ from q.1)) (fun r9 h9 q => ?_)
      obtain ⟨q1, rfl⟩ := q
      cases (show (Sum.inl r9 : tq_R) = Sum.inl (none) from q1)
      refine tq_aload_n (M := mX10_place) (pc := 12) dX10_place_12 rfl ?_
      refine tq_iload_n (M := mX10_place) (pc := 13) dX10_place_13 rfl ?_
      refine tq_iconst (M := mX10_place) (pc := 14) dX10_place_14 tk_ki_0 ?_
      refine tq_bipush (M := mX10_place) (pc := 15) dX10_place_15 tk_kb_99 ?_
      obtain ⟨⟨⟩, eu8, hf⟩ := tq_be hf
      obtain ⟨fsu8, eu8⟩ := tq_is_s eu8
      rcases tq_te hf with ⟨E1, g1, ev7, e9⟩ | ⟨v7, w9, ev7, hf⟩
      · have hb9 := hb _ _ e9
        refine tq_calV (M := mX10_place) (pc := 17) (S := []) tk_y_X10_needRange tk_v_X10_needRange tk_RX10_132 dX10_place_17 [.int a3, .int (0 : Int32), .int (99 : Int32)] rfl (S0 := _) rfl eu8 rfl (Nat.le_of_ble_eq_true rfl) (d1 := d - 1) (b1 := 0 + bc) (s1 := 0 + bs) (bc' := 0) (bs' := 0) (Q1 := fun r h9 => r = tq_enV ((.inl E1, g1) : (String ⊕ Unit) × tq_H).1 ∧ ((.inl E1, g1) : (String ⊕ Unit) × tq_H).2 = h9) (by omega) (by omega) (by omega) (w_X10_needRange (bc := bc) (bs := bs) (by omega) ev7 (fun _ _ _ => hb9) (fun _ _ q => q)) (fun E h9 q => ?_) (fun r9 h9 q => nomatch (show (Sum.inl r9 : tq_R) = Sum.inr E1 from q.1))
        obtain ⟨q1, rfl⟩ := q
        cases (show (Sum.inr E : tq_R) = Sum.inr E1 from q1)
        subst e9
        exact tq_out rfl (hQ _ _ ⟨rfl, rfl⟩)
      · refine tq_calV (M := mX10_place) (pc := 17) (S := []) tk_y_X10_needRange tk_v_X10_needRange tk_RX10_132 dX10_place_17 [.int a3, .int (0 : Int32), .int (99 : Int32)] rfl (S0 := _) rfl eu8 rfl (Nat.le_of_ble_eq_true rfl) (d1 := d - 1) (b1 := 0 + 0) (s1 := 0 + 0) (bc' := bc) (bs' := bs) (Q1 := fun r h9 => r = tq_enV ((.inr (), w9) : (String ⊕ Unit) × tq_H).1 ∧ ((.inr (), w9) : (String ⊕ Unit) × tq_H).2 = h9) (by omega) (by omega) (by omega) (w_X10_needRange (bc := 0) (bs := 0) (by omega) ev7 (fun E g z => by cases z) (fun _ _ q => q)) (fun E h9 q => nomatch (show (Sum.inr E : tq_R) = Sum.inl _ from q.1)) (fun r9 h9 q => ?_)
        obtain ⟨q1, rfl⟩ := q
        cases (show (Sum.inl r9 : tq_R) = Sum.inl (none) from q1)
        refine tq_aload_n (M := mX10_place) (pc := 20) dX10_place_20 rfl ?_
        refine tq_iload_n (M := mX10_place) (pc := 21) dX10_place_21 rfl ?_
        obtain ⟨⟨⟩, eu11, hf⟩ := tq_be hf
        obtain ⟨fsu11, eu11⟩ := tq_is_s eu11
        rcases tq_te hf with ⟨E1, g1, ev10, e9⟩ | ⟨v10, w12, ev10, hf⟩
        · have hb9 := hb _ _ e9
          refine tq_calV (M := mX10_place) (pc := 22) (S := []) tk_y_X10_needOpenStep tk_v_X10_needOpenStep tk_RX10_288 dX10_place_22 [.int a1] rfl (S0 := _) rfl eu11 rfl (Nat.le_of_ble_eq_true rfl) (d1 := d - 1) (b1 := 0 + bc) (s1 := 0 + bs) (bc' := 0) (bs' := 0) (Q1 := fun r h9 => r = tq_enV ((.inl E1, g1) : (String ⊕ Unit) × tq_H).1 ∧ ((.inl E1, g1) : (String ⊕ Unit) × tq_H).2 = h9) (by omega) (by omega) (by omega) (w_X10_needOpenStep (bc := bc) (bs := bs) (by omega) ev10 (fun _ _ _ => hb9) (fun _ _ q => q)) (fun E h9 q => ?_) (fun r9 h9 q => nomatch (show (Sum.inl r9 : tq_R) = Sum.inr E1 from q.1))
          obtain ⟨q1, rfl⟩ := q
          cases (show (Sum.inr E : tq_R) = Sum.inr E1 from q1)
          subst e9
          exact tq_out rfl (hQ _ _ ⟨rfl, rfl⟩)
        · refine tq_calV (M := mX10_place) (pc := 22) (S := []) tk_y_X10_needOpenStep tk_v_X10_needOpenStep tk_RX10_288 dX10_place_22 [.int a1] rfl (S0 := _) rfl eu11 rfl (Nat.le_of_ble_eq_true rfl) (d1 := d - 1) (b1 := 0 + 0) (s1 := 0 + 0) (bc' := bc) (bs' := bs) (Q1 := fun r h9 => r = tq_enV ((.inr (), w12) : (String ⊕ Unit) × tq_H).1 ∧ ((.inr (), w12) : (String ⊕ Unit) × tq_H).2 = h9) (by omega) (by omega) (by omega) (w_X10_needOpenStep (bc := 0) (bs := 0) (by omega) ev10 (fun E g z => by cases z) (fun _ _ q => q)) (fun E h9 q => nomatch (show (Sum.inr E : tq_R) = Sum.inl _ from q.1)) (fun r9 h9 q => ?_)
          obtain ⟨q1, rfl⟩ := q
          cases (show (Sum.inl r9 : tq_R) = Sum.inl (none) from q1)
          refine tq_aload_n (M := mX10_place) (pc := 25) dX10_place_25 rfl ?_
          refine tq_iload_n (M := mX10_place) (pc := 26) dX10_place_26 rfl ?_
          obtain ⟨⟨⟩, eu14, hf⟩ := tq_be hf
          obtain ⟨fsu14, eu14⟩ := tq_is_s eu14
          obtain ⟨v13, ev13, hf⟩ := tq_be hf
          refine tq_calV (M := mX10_place) (pc := 27) (S := []) tk_y_X10_noteChangeOf tk_v_X10_noteChangeOf tk_RX10_281 dX10_place_27 [.int a1] rfl (S0 := _) rfl eu14 rfl (Nat.le_of_ble_eq_true rfl) (d1 := d - 1) (b1 := 0) (s1 := 0) (bc' := bc) (bs' := bs) (Q1 := fun r h9 => r = .inl none ∧ v13 = h9) (by omega) (by omega) (by omega) (w_X10_noteChangeOf (by omega) ev13 (fun _ _ q => q)) (fun E h9 q => nomatch (show (Sum.inr E : tq_R) = Sum.inl _ from q.1)) (fun r9 h9 q => ?_)
          obtain ⟨q1, rfl⟩ := q
          cases (show (Sum.inl r9 : tq_R) = Sum.inl (none) from q1)
          refine tq_aload_n (M := mX10_place) (pc := 30) dX10_place_30 rfl ?_
          obtain ⟨k15, ek15, hf⟩ := tq_be hf
          refine tq_getR (M := mX10_place) (pc := 31) tk_c10 (by decide) dX10_place_31 tk_RX10_29 rfl ek15 ?_
          refine tq_iload_n (M := mX10_place) (pc := 34) dX10_place_34 rfl ?_
          refine tq_iconst (M := mX10_place) (pc := 35) dX10_place_35 tk_ki_0 ?_
          refine tq_iconst (M := mX10_place) (pc := 36) dX10_place_36 tk_ki_m1 ?_
          refine tq_iload_n (M := mX10_place) (pc := 37) dX10_place_37 rfl ?_
          refine tq_iload_n (M := mX10_place) (pc := 38) dX10_place_38 rfl ?_
          obtain ⟨⟨⟩, eu17, hf⟩ := tq_be hf
          obtain ⟨fsu17, eu17⟩ := tq_is_s eu17
          obtain ⟨v16, ev16, hf⟩ := tq_be hf
          refine tq_calV (M := mX10_place) (pc := 39) (S := []) tk_y_X4_addCondition tk_v_X4_addCondition tk_RX10_291 dX10_place_39 [.int a1, .int (0 : Int32), .int (-1 : Int32), .int a2, .int a3] rfl (S0 := _) rfl eu17 rfl (Nat.le_of_ble_eq_true rfl) (d1 := d - 1) (b1 := 0) (s1 := 0) (bc' := bc) (bs' := bs) (Q1 := fun r h9 => r = .inl (some (.int v16.1)) ∧ v16.2 = h9) (by omega) (by omega) (by omega) (w_X4_addCondition (by omega) ev16 (fun _ _ q => q)) (fun E h9 q => nomatch (show (Sum.inr E : tq_R) = Sum.inl _ from q.1)) (fun r9 h9 q => ?_)
          obtain ⟨q1, rfl⟩ := q
          cases (show (Sum.inl r9 : tq_R) = Sum.inl (some (.int v16.1)) from q1)
          refine tq_iret (M := mX10_place) (pc := 42) dX10_place_42 rfl ?_
          cases (Option.some.inj hf)
          exact hQ _ _ ⟨rfl, rfl⟩
abbrev mX10_last : tq_M := (RX10, cX10_last, 2, (some .int), false, [], none)
def f_X10_last (t : Nat) (a1 : Int32) (h : tq_H) : Option ((String ⊕ Int32) × tq_H) :=
  (tq_is h t 10).bind fun _ =>
  tq_tb (f_X10_needPath t a1 h) fun _ w3 =>
  (tq_is w3 t 10).bind fun _ =>
  tq_tb (f_X10_needOpenStep t a1 w3) fun _ w6 =>
  (tq_is w6 t 10).bind fun _ =>
  (f_X10_noteChangeOf t a1 w6).bind fun v7 =>
  (tq_gr v7 t 10 3).bind fun k9 =>
  (tq_is v7 k9 4).bind fun _ =>
  (f_X4_addCondition k9 a1 (1 : Int32) (-1 : Int32) (-1 : Int32) (-1 : Int32) v7).bind fun v10 =>
  some (.inr v10.1, v10.2)
set_option maxHeartbeats 4000000 in
set_option maxRecDepth 20000 in
theorem w_X10_last {l : Launch} {d : Nat} (hd9 : 8 ≤ d) {t : Nat} {a1 : Int32} {bc bs : Nat} {h : tq_H} {o : (String ⊕ Int32) × tq_H} {Q : tq_R → tq_H → Prop} (hf : f_X10_last t a1 h = some o) (hb : ∀ E g, o = (.inl E, g) → 1 ≤ bc ∧ 6 ≤ bs) (hQ : ∀ r h9, r = tq_enI o.1 ∧ o.2 = h9 → Q r h9) : tq_C l yX10_last cX10_last 2 (some .int) d (0 + bc) (0 + bs) [.ref t, .int a1] h Q := by
  refine tq_body (y := yX10_last) false (by decide +kernel) (fun z => by cases z) (Nat.le_of_ble_eq_true rfl) ?_
  show tq_W l mX10_last d (0 + bc) (0 + bs) Q 0 [(0, .ref t), (1, .int a1)] [] h
  refine tq_more (bc := bc) (bs := bs) (by omega) (by omega) ?_
  refine tq_aload_n (M := mX10_last) (pc := 0) dX10_last_0 rfl ?_
  refine tq_iload_n (M := mX10_last) (pc := 1) dX10_last_1 rfl ?_
  obtain ⟨⟨⟩, eu2, hf⟩ := tq_be hf
  obtain ⟨fsu2, eu2⟩ := tq_is_s eu2
  rcases tq_te hf with ⟨E1, g1, ev1, e9⟩ | ⟨v1, w3, ev1, hf⟩
  · have hb9 := hb _ _ e9
    refine tq_calV (M := mX10_last) (pc := 2) (S := []) tk_y_X10_needPath tk_v_X10_needPath tk_RX10_262 dX10_last_2 [.int a1] rfl (S0 := _) rfl eu2 rfl (Nat.le_of_ble_eq_true rfl) (d1 := d - 1) (b1 := 0 + bc) (s1 := 0 + bs) (bc' := 0) (bs' := 0) (Q1 := fun r h9 => r = tq_enV ((.inl E1, g1) : (String ⊕ Unit) × tq_H).1 ∧ ((.inl E1, g1) : (String ⊕ Unit) × tq_H).2 = h9) (by omega) (by omega) (by omega) (w_X10_needPath (bc := bc) (bs := bs) (by omega) ev1 (fun _ _ _ => hb9) (fun _ _ q => q)) (fun E h9 q => ?_) (fun r9 h9 q => nomatch (show (Sum.inl r9 : tq_R) = Sum.inr E1 from q.1))
    obtain ⟨q1, rfl⟩ := q
    cases (show (Sum.inr E : tq_R) = Sum.inr E1 from q1)
    subst e9
    exact tq_out rfl (hQ _ _ ⟨rfl, rfl⟩)
  · refine tq_calV (M := mX10_last) (pc := 2) (S := []) tk_y_X10_needPath tk_v_X10_needPath tk_RX10_262 dX10_last_2 [.int a1] rfl (S0 := _) rfl eu2 rfl (Nat.le_of_ble_eq_true rfl) (d1 := d - 1) (b1 := 0 + 0) (s1 := 0 + 0) (bc' := bc) (bs' := bs) (Q1 := fun r h9 => r = tq_enV ((.inr (), w3) : (String ⊕ Unit) × tq_H).1 ∧ ((.inr (), w3) : (String ⊕ Unit) × tq_H).2 = h9) (by omega) (by omega) (by omega) (w_X10_needPath (bc := 0) (bs := 0) (by omega) ev1 (fun E g z => by cases z) (fun _ _ q => q)) (fun E h9 q => nomatch (show (Sum.inr E : tq_R) = Sum.inl _ from q.1)) (fun r9 h9 q => ?_)
    obtain ⟨q1, rfl⟩ := q
    cases (show (Sum.inl r9 : tq_R) = Sum.inl (none) from q1)
    refine tq_aload_n (M := mX10_last) (pc := 5) dX10_last_5 rfl ?_
    refine tq_iload_n (M := mX10_last) (pc := 6) dX10_last_6 rfl ?_
    obtain ⟨⟨⟩, eu5, hf⟩ := tq_be hf
    obtain ⟨fsu5, eu5⟩ := tq_is_s eu5
    rcases tq_te hf with ⟨E1, g1, ev4, e9⟩ | ⟨v4, w6, ev4, hf⟩
    · have hb9 := hb _ _ e9
      refine tq_calV (M := mX10_last) (pc := 7) (S := []) tk_y_X10_needOpenStep tk_v_X10_needOpenStep tk_RX10_288 dX10_last_7 [.int a1] rfl (S0 := _) rfl eu5 rfl (Nat.le_of_ble_eq_true rfl) (d1 := d - 1) (b1 := 0 + bc) (s1 := 0 + bs) (bc' := 0) (bs' := 0) (Q1 := fun r h9 => r = tq_enV ((.inl E1, g1) : (String ⊕ Unit) × tq_H).1 ∧ ((.inl E1, g1) : (String ⊕ Unit) × tq_H).2 = h9) (by omega) (by omega) (by omega) (w_X10_needOpenStep (bc := bc) (bs := bs) (by omega) ev4 (fun _ _ _ => hb9) (fun _ _ q => q)) (fun E h9 q => ?_) (fun r9 h9 q => nomatch (show (Sum.inl r9 : tq_R) = Sum.inr E1 from q.1))
      obtain ⟨q1, rfl⟩ := q
      cases (show (Sum.inr E : tq_R) = Sum.inr E1 from q1)
      subst e9
      exact tq_out rfl (hQ _ _ ⟨rfl, rfl⟩)
    · refine tq_calV (M := mX10_last) (pc := 7) (S := []) tk_y_X10_needOpenStep tk_v_X10_needOpenStep tk_RX10_288 dX10_last_7 [.int a1] rfl (S0 := _) rfl eu5 rfl (Nat.le_of_ble_eq_true rfl) (d1 := d - 1) (b1 := 0 + 0) (s1 := 0 + 0) (bc' := bc) (bs' := bs) (Q1 := fun r h9 => r = tq_enV ((.inr (), w6) : (String ⊕ Unit) × tq_H).1 ∧ ((.inr (), w6) : (String ⊕ Unit) × tq_H).2 = h9) (by omega) (by omega) (by omega) (w_X10_needOpenStep (bc := 0) (bs := 0) (by omega) ev4 (fun E g z => by cases z) (fun _ _ q => q)) (fun E h9 q => nomatch (show (Sum.inr E : tq_R) = Sum.inl _ from q.1)) (fun r9 h9 q => ?_)
      obtain ⟨q1, rfl⟩ := q
      cases (show (Sum.inl r9 : tq_R) = Sum.inl (none) from q1)
      refine tq_aload_n (M := mX10_last) (pc := 10) dX10_last_10 rfl ?_
      refine tq_iload_n (M := mX10_last) (pc := 11) dX10_last_11 rfl ?_
      obtain ⟨⟨⟩, eu8, hf⟩ := tq_be hf
      obtain ⟨fsu8, eu8⟩ := tq_is_s eu8
      obtain ⟨v7, ev7, hf⟩ := tq_be hf
      refine tq_calV (M := mX10_last) (pc := 12) (S := []) tk_y_X10_noteChangeOf tk_v_X10_noteChangeOf tk_RX10_281 dX10_last_12 [.int a1] rfl (S0 := _) rfl eu8 rfl (Nat.le_of_ble_eq_true rfl) (d1 := d - 1) (b1 := 0) (s1 := 0) (bc' := bc) (bs' := bs) (Q1 := fun r h9 => r = .inl none ∧ v7 = h9) (by omega) (by omega) (by omega) (w_X10_noteChangeOf (by omega) ev7 (fun _ _ q => q)) (fun E h9 q => nomatch (show (Sum.inr E : tq_R) = Sum.inl _ from q.1)) (fun r9 h9 q => ?_)
      obtain ⟨q1, rfl⟩ := q
      cases (show (Sum.inl r9 : tq_R) = Sum.inl (none) from q1)
      refine tq_aload_n (M := mX10_last) (pc := 15) dX10_last_15 rfl ?_
      obtain ⟨k9, ek9, hf⟩ := tq_be hf
      refine tq_getR (M := mX10_last) (pc := 16) tk_c10 (by decide) dX10_last_16 tk_RX10_29 rfl ek9 ?_
      refine tq_iload_n (M := mX10_last) (pc := 19) dX10_last_19 rfl ?_
      refine tq_iconst (M := mX10_last) (pc := 20) dX10_last_20 tk_ki_1 ?_
      refine tq_iconst (M := mX10_last) (pc := 21) dX10_last_21 tk_ki_m1 ?_
      refine tq_iconst (M := mX10_last) (pc := 22) dX10_last_22 tk_ki_m1 ?_
      refine tq_iconst (M := mX10_last) (pc := 23) dX10_last_23 tk_ki_m1 ?_
      obtain ⟨⟨⟩, eu11, hf⟩ := tq_be hf
      obtain ⟨fsu11, eu11⟩ := tq_is_s eu11
      obtain ⟨v10, ev10, hf⟩ := tq_be hf
      refine tq_calV (M := mX10_last) (pc := 24) (S := []) tk_y_X4_addCondition tk_v_X4_addCondition tk_RX10_291 dX10_last_24 [.int a1, .int (1 : Int32), .int (-1 : Int32), .int (-1 : Int32), .int (-1 : Int32)] rfl (S0 := _) rfl eu11 rfl (Nat.le_of_ble_eq_true rfl) (d1 := d - 1) (b1 := 0) (s1 := 0) (bc' := bc) (bs' := bs) (Q1 := fun r h9 => r = .inl (some (.int v10.1)) ∧ v10.2 = h9) (by omega) (by omega) (by omega) (w_X4_addCondition (by omega) ev10 (fun _ _ q => q)) (fun E h9 q => nomatch (show (Sum.inr E : tq_R) = Sum.inl _ from q.1)) (fun r9 h9 q => ?_)
      obtain ⟨q1, rfl⟩ := q
      cases (show (Sum.inl r9 : tq_R) = Sum.inl (some (.int v10.1)) from q1)
      refine tq_iret (M := mX10_last) (pc := 27) dX10_last_27 rfl ?_
      cases (Option.some.inj hf)
      exact hQ _ _ ⟨rfl, rfl⟩
abbrev mX10_has : tq_M := (RX10, cX10_has, 4, (some .int), false, [], none)
def f_X10_has (t : Nat) (a1 : Int32) (a2 : Int32) (a3 : Int32) (h : tq_H) : Option ((String ⊕ Int32) × tq_H) :=
  (tq_is h t 10).bind fun _ =>
  tq_tb (f_X10_needPath t a1 h) fun _ w3 =>
  (tq_is w3 t 10).bind fun _ =>
  tq_tb (f_X10_needLower t a1 a2 w3) fun _ w6 =>
  (tq_is w6 t 10).bind fun _ =>
  tq_tb (f_X10_needOpenStep t a1 w6) fun _ w9 =>
  (tq_is w9 t 10).bind fun _ =>
  (f_X10_noteChangeOf t a1 w9).bind fun v10 =>
  (tq_gr v10 t 10 3).bind fun k12 =>
  tq_let (if a3 = 0 then (3 : Int32) else (2 : Int32)) fun p13 =>
  (tq_is v10 k12 4).bind fun _ =>
  (f_X4_addCondition k12 a1 p13 a2 (-1 : Int32) (-1 : Int32) v10).bind fun v14 =>
  some (.inr v14.1, v14.2)
set_option maxHeartbeats 4000000 in
set_option maxRecDepth 20000 in
theorem w_X10_has {l : Launch} {d : Nat} (hd9 : 8 ≤ d) {t : Nat} {a1 : Int32} {a2 : Int32} {a3 : Int32} {bc bs : Nat} {h : tq_H} {o : (String ⊕ Int32) × tq_H} {Q : tq_R → tq_H → Prop} (hf : f_X10_has t a1 a2 a3 h = some o) (hb : ∀ E g, o = (.inl E, g) → 1 ≤ bc ∧ 6 ≤ bs) (hQ : ∀ r h9, r = tq_enI o.1 ∧ o.2 = h9 → Q r h9) : tq_C l yX10_has cX10_has 4 (some .int) d (0 + bc) (0 + bs) [.ref t, .int a1, .int a2, .int a3] h Q := by
  refine tq_body (y := yX10_has) false (by decide +kernel) (fun z => by cases z) (Nat.le_of_ble_eq_true rfl) ?_
  show tq_W l mX10_has d (0 + bc) (0 + bs) Q 0 [(0, .ref t), (1, .int a1), (2, .int a2), (3, .int a3)] [] h
  refine tq_more (bc := bc) (bs := bs) (by omega) (by omega) ?_
  refine tq_aload_n (M := mX10_has) (pc := 0) dX10_has_0 rfl ?_
  refine tq_iload_n (M := mX10_has) (pc := 1) dX10_has_1 rfl ?_
  obtain ⟨⟨⟩, eu2, hf⟩ := tq_be hf
  obtain ⟨fsu2, eu2⟩ := tq_is_s eu2
  rcases tq_te hf with ⟨E1, g1, ev1, e9⟩ | ⟨v1, w3, ev1, hf⟩
  · have hb9 := hb _ _ e9
    refine tq_calV (M := mX10_has) (pc := 2) (S := []) tk_y_X10_needPath tk_v_X10_needPath tk_RX10_262 dX10_has_2 [.int a1] rfl (S0 := _) rfl eu2 rfl (Nat.le_of_ble_eq_true rfl) (d1 := d - 1) (b1 := 0 + bc) (s1 := 0 + bs) (bc' := 0) (bs' := 0) (Q1 := fun r h9 => r = tq_enV ((.inl E1, g1) : (String ⊕ Unit) × tq_H).1 ∧ ((.inl E1, g1) : (String ⊕ Unit) × tq_H).2 = h9) (by omega) (by omega) (by omega) (w_X10_needPath (bc := bc) (bs := bs) (by omega) ev1 (fun _ _ _ => hb9) (fun _ _ q => q)) (fun E h9 q => ?_) (fun r9 h9 q => nomatch (show (Sum.inl r9 : tq_R) = Sum.inr E1 from q.1))
    obtain ⟨q1, rfl⟩ := q
    cases (show (Sum.inr E : tq_R) = Sum.inr E1 from q1)
    subst e9
    exact tq_out rfl (hQ _ _ ⟨rfl, rfl⟩)
  · refine tq_calV (M := mX10_has) (pc := 2) (S := []) tk_y_X10_needPath tk_v_X10_needPath tk_RX10_262 dX10_has_2 [.int a1] rfl (S0 := _) rfl eu2 rfl (Nat.le_of_ble_eq_true rfl) (d1 := d - 1) (b1 := 0 + 0) (s1 := 0 + 0) (bc' := bc) (bs' := bs) (Q1 := fun r h9 => r = tq_enV ((.inr (), w3) : (String ⊕ Unit) × tq_H).1 ∧ ((.inr (), w3) : (String ⊕ Unit) × tq_H).2 = h9) (by omega) (by omega) (by omega) (w_X10_needPath (bc := 0) (bs := 0) (by omega) ev1 (fun E g z => by cases z) (fun _ _ q => q)) (fun E h9 q => nomatch (show (Sum.inr E : tq_R) = Sum.inl _ from q.1)) (fun r9 h9 q => ?_)
    obtain ⟨q1, rfl⟩ := q
    cases (show (Sum.inl r9 : tq_R) = Sum.inl (none) from q1)
    refine tq_aload_n (M := mX10_has) (pc := 5) dX10_has_5 rfl ?_
    refine tq_iload_n (M := mX10_has) (pc := 6) dX10_has_6 rfl ?_
    refine tq_iload_n (M := mX10_has) (pc := 7) dX10_has_7 rfl ?_
    obtain ⟨⟨⟩, eu5, hf⟩ := tq_be hf
    obtain ⟨fsu5, eu5⟩ := tq_is_s eu5
    rcases tq_te hf with ⟨E1, g1, ev4, e9⟩ | ⟨v4, w6, ev4, hf⟩
    · have hb9 := hb _ _ e9
      refine tq_calV (M := mX10_has) (pc := 8) (S := []) tk_y_X10_needLower tk_v_X10_needLower tk_RX10_265 dX10_has_8 [.int a1, .int a2] rfl (S0 := _) rfl eu5 rfl (Nat.le_of_ble_eq_true rfl) (d1 := d - 1) (b1 := 0 + bc) (s1 := 0 + bs) (bc' := 0) (bs' := 0) (Q1 := fun r h9 => r = tq_enV ((.inl E1, g1) : (String ⊕ Unit) × tq_H).1 ∧ ((.inl E1, g1) : (String ⊕ Unit) × tq_H).2 = h9) (by omega) (by omega) (by omega) (w_X10_needLower (bc := bc) (bs := bs) (by omega) ev4 (fun _ _ _ => hb9) (fun _ _ q => q)) (fun E h9 q => ?_) (fun r9 h9 q => nomatch (show (Sum.inl r9 : tq_R) = Sum.inr E1 from q.1))
      obtain ⟨q1, rfl⟩ := q
      cases (show (Sum.inr E : tq_R) = Sum.inr E1 from q1)
      subst e9
      exact tq_out rfl (hQ _ _ ⟨rfl, rfl⟩)
    · refine tq_calV (M := mX10_has) (pc := 8) (S := []) tk_y_X10_needLower tk_v_X10_needLower tk_RX10_265 dX10_has_8 [.int a1, .int a2] rfl (S0 := _) rfl eu5 rfl (Nat.le_of_ble_eq_true rfl) (d1 := d - 1) (b1 := 0 + 0) (s1 := 0 + 0) (bc' := bc) (bs' := bs) (Q1 := fun r h9 => r = tq_enV ((.inr (), w6) : (String ⊕ Unit) × tq_H).1 ∧ ((.inr (), w6) : (String ⊕ Unit) × tq_H).2 = h9) (by omega) (by omega) (by omega) (w_X10_needLower (bc := 0) (bs := 0) (by omega) ev4 (fun E g z => by cases z) (fun _ _ q => q)) (fun E h9 q => nomatch (show (Sum.inr E : tq_R) = Sum.inl _ from q.1)) (fun r9 h9 q => ?_)
      obtain ⟨q1, rfl⟩ := q
      cases (show (Sum.inl r9 : tq_R) = Sum.inl (none) from q1)
      refine tq_aload_n (M := mX10_has) (pc := 11) dX10_has_11 rfl ?_
      refine tq_iload_n (M := mX10_has) (pc := 12) dX10_has_12 rfl ?_
      obtain ⟨⟨⟩, eu8, hf⟩ := tq_be hf
      obtain ⟨fsu8, eu8⟩ := tq_is_s eu8
      rcases tq_te hf with ⟨E1, g1, ev7, e9⟩ | ⟨v7, w9, ev7, hf⟩
      · have hb9 := hb _ _ e9
        refine tq_calV (M := mX10_has) (pc := 13) (S := []) tk_y_X10_needOpenStep tk_v_X10_needOpenStep tk_RX10_288 dX10_has_13 [.int a1] rfl (S0 := _) rfl eu8 rfl (Nat.le_of_ble_eq_true rfl) (d1 := d - 1) (b1 := 0 + bc) (s1 := 0 + bs) (bc' := 0) (bs' := 0) (Q1 := fun r h9 => r = tq_enV ((.inl E1, g1) : (String ⊕ Unit) × tq_H).1 ∧ ((.inl E1, g1) : (String ⊕ Unit) × tq_H).2 = h9) (by omega) (by omega) (by omega) (w_X10_needOpenStep (bc := bc) (bs := bs) (by omega) ev7 (fun _ _ _ => hb9) (fun _ _ q => q)) (fun E h9 q => ?_) (fun r9 h9 q => nomatch (show (Sum.inl r9 : tq_R) = Sum.inr E1 from q.1))
        obtain ⟨q1, rfl⟩ := q
        cases (show (Sum.inr E : tq_R) = Sum.inr E1 from q1)
        subst e9
        exact tq_out rfl (hQ _ _ ⟨rfl, rfl⟩)
      · refine tq_calV (M := mX10_has) (pc := 13) (S := []) tk_y_X10_needOpenStep tk_v_X10_needOpenStep tk_RX10_288 dX10_has_13 [.int a1] rfl (S0 := _) rfl eu8 rfl (Nat.le_of_ble_eq_true rfl) (d1 := d - 1) (b1 := 0 + 0) (s1 := 0 + 0) (bc' := bc) (bs' := bs) (Q1 := fun r h9 => r = tq_enV ((.inr (), w9) : (String ⊕ Unit) × tq_H).1 ∧ ((.inr (), w9) : (String ⊕ Unit) × tq_H).2 = h9) (by omega) (by omega) (by omega) (w_X10_needOpenStep (bc := 0) (bs := 0) (by omega) ev7 (fun E g z => by cases z) (fun _ _ q => q)) (fun E h9 q => nomatch (show (Sum.inr E : tq_R) = Sum.inl _ from q.1)) (fun r9 h9 q => ?_)
        obtain ⟨q1, rfl⟩ := q
        cases (show (Sum.inl r9 : tq_R) = Sum.inl (none) from q1)
        refine tq_aload_n (M := mX10_has) (pc := 16) dX10_has_16 rfl ?_
        refine tq_iload_n (M := mX10_has) (pc := 17) dX10_has_17 rfl ?_
        obtain ⟨⟨⟩, eu11, hf⟩ := tq_be hf
        obtain ⟨fsu11, eu11⟩ := tq_is_s eu11
        obtain ⟨v10, ev10, hf⟩ := tq_be hf
        refine tq_calV (M := mX10_has) (pc := 18) (S := []) tk_y_X10_noteChangeOf tk_v_X10_noteChangeOf tk_RX10_281 dX10_has_18 [.int a1] rfl (S0 := _) rfl eu11 rfl (Nat.le_of_ble_eq_true rfl) (d1 := d - 1) (b1 := 0) (s1 := 0) (bc' := bc) (bs' := bs) (Q1 := fun r h9 => r = .inl none ∧ v10 = h9) (by omega) (by omega) (by omega) (w_X10_noteChangeOf (by omega) ev10 (fun _ _ q => q)) (fun E h9 q => nomatch (show (Sum.inr E : tq_R) = Sum.inl _ from q.1)) (fun r9 h9 q => ?_)
        obtain ⟨q1, rfl⟩ := q
        cases (show (Sum.inl r9 : tq_R) = Sum.inl (none) from q1)
        refine tq_aload_n (M := mX10_has) (pc := 21) dX10_has_21 rfl ?_
        obtain ⟨k12, ek12, hf⟩ := tq_be hf
        refine tq_getR (M := mX10_has) (pc := 22) tk_c10 (by decide) dX10_has_22 tk_RX10_29 rfl ek12 ?_
        refine tq_iload_n (M := mX10_has) (pc := 25) dX10_has_25 rfl ?_
        refine tq_iload_n (M := mX10_has) (pc := 26) dX10_has_26 rfl ?_
        obtain ⟨p13, ep13, hf⟩ := tq_le hf
        have HJ27 : tq_W l mX10_has d bc bs Q 35 [(2, .int a2)] [.int p13, .int a1, .ref k12] v10 := by
          refine tq_iload_n (M := mX10_has) (pc := 35) dX10_has_35 rfl ?_
          refine tq_iconst (M := mX10_has) (pc := 36) dX10_has_36 tk_ki_m1 ?_
          refine tq_iconst (M := mX10_has) (pc := 37) dX10_has_37 tk_ki_m1 ?_
          obtain ⟨⟨⟩, eu15, hf⟩ := tq_be hf
          obtain ⟨fsu15, eu15⟩ := tq_is_s eu15
          obtain ⟨v14, ev14, hf⟩ := tq_be hf
          refine tq_calV (M := mX10_has) (pc := 38) (S := []) tk_y_X4_addCondition tk_v_X4_addCondition tk_RX10_291 dX10_has_38 [.int a1, .int p13, .int a2, .int (-1 : Int32), .int (-1 : Int32)] rfl (S0 := _) rfl eu15 rfl (Nat.le_of_ble_eq_true rfl) (d1 := d - 1) (b1 := 0) (s1 := 0) (bc' := bc) (bs' := bs) (Q1 := fun r h9 => r = .inl (some (.int v14.1)) ∧ v14.2 = h9) (by omega) (by omega) (by omega) (w_X4_addCondition (by omega) ev14 (fun _ _ q => q)) (fun E h9 q => nomatch (show (Sum.inr E : tq_R) = Sum.inl _ from q.1)) (fun r9 h9 q => ?_)
          obtain ⟨q1, rfl⟩ := q
          cases (show (Sum.inl r9 : tq_R) = Sum.inl (some (.int v14.1)) from q1)
          refine tq_iret (M := mX10_has) (pc := 41) dX10_has_41 rfl ?_
          cases (Option.some.inj hf)
          exact hQ _ _ ⟨rfl, rfl⟩
        refine tq_if_eq (M := mX10_has) (pc := 27) (tgt := 34) dX10_has_27 (by decide) (fun cc => ?_) (fun cc => ?_)
        · have hf := tq_ifp ep13.symm cc
          refine tq_iconst (M := mX10_has) (pc := 34) dX10_has_34 tk_ki_3 ?_
          refine tq_pick (L2 := [(2, .int a2)]) [2] rfl ?_
          cases hf
          exact HJ27
        · have hf := tq_ifn ep13.symm cc
          refine tq_iconst (M := mX10_has) (pc := 30) dX10_has_30 tk_ki_2 ?_
          refine tq_goto (M := mX10_has) (pc := 31) (tgt := 35) dX10_has_31 (by decide) ?_
          refine tq_pick (L2 := [(2, .int a2)]) [2] rfl ?_
          cases hf
          exact HJ27
abbrev mX10_worth : tq_M := (RX10, cX10_worth, 5, (some .int), false, [], none)
def f_X10_worth (t : Nat) (a1 : Int32) (a2 : Int32) (a3 : Int32) (a4 : Int32) (h : tq_H) : Option ((String ⊕ Int32) × tq_H) :=
  (tq_is h t 10).bind fun _ =>
  tq_tb (f_X10_needPath t a1 h) fun _ w3 =>
  (tq_is w3 t 10).bind fun _ =>
  tq_tb (f_X10_needLower t a1 a2 w3) fun _ w6 =>
  (tq_is w6 t 10).bind fun _ =>
  tq_tb (f_X10_needRange t a3 (0 : Int32) (2 : Int32) w6) fun _ w9 =>
  (tq_is w9 t 10).bind fun _ =>
  tq_tb (f_X10_needRange t a4 (0 : Int32) (999 : Int32) w9) fun _ w12 =>
  (tq_is w12 t 10).bind fun _ =>
  tq_tb (f_X10_needOpenStep t a1 w12) fun _ w15 =>
  (tq_is w15 t 10).bind fun _ =>
  (f_X10_noteChangeOf t a1 w15).bind fun v16 =>
  (tq_gr v16 t 10 3).bind fun k18 =>
  (tq_is v16 k18 4).bind fun _ =>
  (f_X4_addCondition k18 a1 (4 : Int32) a2 a3 a4 v16).bind fun v19 =>
  some (.inr v19.1, v19.2)
set_option maxHeartbeats 4000000 in
set_option maxRecDepth 20000 in
theorem w_X10_worth {l : Launch} {d : Nat} (hd9 : 8 ≤ d) {t : Nat} {a1 : Int32} {a2 : Int32} {a3 : Int32} {a4 : Int32} {bc bs : Nat} {h : tq_H} {o : (String ⊕ Int32) × tq_H} {Q : tq_R → tq_H → Prop} (hf : f_X10_worth t a1 a2 a3 a4 h = some o) (hb : ∀ E g, o = (.inl E, g) → 1 ≤ bc ∧ 6 ≤ bs) (hQ : ∀ r h9, r = tq_enI o.1 ∧ o.2 = h9 → Q r h9) : tq_C l yX10_worth cX10_worth 5 (some .int) d (0 + bc) (0 + bs) [.ref t, .int a1, .int a2, .int a3, .int a4] h Q := by
  refine tq_body (y := yX10_worth) false (by decide +kernel) (fun z => by cases z) (Nat.le_of_ble_eq_true rfl) ?_
  show tq_W l mX10_worth d (0 + bc) (0 + bs) Q 0 [(0, .ref t), (1, .int a1), (2, .int a2), (3, .int a3), (4, .int a4)] [] h
  refine tq_more (bc := bc) (bs := bs) (by omega) (by omega) ?_
  refine tq_aload_n (M := mX10_worth) (pc := 0) dX10_worth_0 rfl ?_
  refine tq_iload_n (M := mX10_worth) (pc := 1) dX10_worth_1 rfl ?_
  obtain ⟨⟨⟩, eu2, hf⟩ := tq_be hf
  obtain ⟨fsu2, eu2⟩ := tq_is_s eu2
  rcases tq_te hf with ⟨E1, g1, ev1, e9⟩ | ⟨v1, w3, ev1, hf⟩
  · have hb9 := hb _ _ e9
    refine tq_calV (M := mX10_worth) (pc := 2) (S := []) tk_y_X10_needPath tk_v_X10_needPath tk_RX10_262 dX10_worth_2 [.int a1] rfl (S0 := _) rfl eu2 rfl (Nat.le_of_ble_eq_true rfl) (d1 := d - 1) (b1 := 0 + bc) (s1 := 0 + bs) (bc' := 0) (bs' := 0) (Q1 := fun r h9 => r = tq_enV ((.inl E1, g1) : (String ⊕ Unit) × tq_H).1 ∧ ((.inl E1, g1) : (String ⊕ Unit) × tq_H).2 = h9) (by omega) (by omega) (by omega) (w_X10_needPath (bc := bc) (bs := bs) (by omega) ev1 (fun _ _ _ => hb9) (fun _ _ q => q)) (fun E h9 q => ?_) (fun r9 h9 q => nomatch (show (Sum.inl r9 : tq_R) = Sum.inr E1 from q.1))
    obtain ⟨q1, rfl⟩ := q
    cases (show (Sum.inr E : tq_R) = Sum.inr E1 from q1)
    subst e9
    exact tq_out rfl (hQ _ _ ⟨rfl, rfl⟩)
  · refine tq_calV (M := mX10_worth) (pc := 2) (S := []) tk_y_X10_needPath tk_v_X10_needPath tk_RX10_262 dX10_worth_2 [.int a1] rfl (S0 := _) rfl eu2 rfl (Nat.le_of_ble_eq_true rfl) (d1 := d - 1) (b1 := 0 + 0) (s1 := 0 + 0) (bc' := bc) (bs' := bs) (Q1 := fun r h9 => r = tq_enV ((.inr (), w3) : (String ⊕ Unit) × tq_H).1 ∧ ((.inr (), w3) : (String ⊕ Unit) × tq_H).2 = h9) (by omega) (by omega) (by omega) (w_X10_needPath (bc := 0) (bs := 0) (by omega) ev1 (fun E g z => by cases z) (fun _ _ q => q)) (fun E h9 q => nomatch (show (Sum.inr E : tq_R) = Sum.inl _ from q.1)) (fun r9 h9 q => ?_)
    obtain ⟨q1, rfl⟩ := q
    cases (show (Sum.inl r9 : tq_R) = Sum.inl (none) from q1)
    refine tq_aload_n (M := mX10_worth) (pc := 5) dX10_worth_5 rfl ?_
    refine tq_iload_n (M := mX10_worth) (pc := 6) dX10_worth_6 rfl ?_
    refine tq_iload_n (M := mX10_worth) (pc := 7) dX10_worth_7 rfl ?_
    obtain ⟨⟨⟩, eu5, hf⟩ := tq_be hf
    obtain ⟨fsu5, eu5⟩ := tq_is_s eu5
    rcases tq_te hf with ⟨E1, g1, ev4, e9⟩ | ⟨v4, w6, ev4, hf⟩
    · have hb9 := hb _ _ e9
      refine tq_calV (M := mX10_worth) (pc := 8) (S := []) tk_y_X10_needLower tk_v_X10_needLower tk_RX10_265 dX10_worth_8 [.int a1, .int a2] rfl (S0 := _) rfl eu5 rfl (Nat.le_of_ble_eq_true rfl) (d1 := d - 1) (b1 := 0 + bc) (s1 := 0 + bs) (bc' := 0) (bs' := 0) (Q1 := fun r h9 => r = tq_enV ((.inl E1, g1) : (String ⊕ Unit) × tq_H).1 ∧ ((.inl E1, g1) : (String ⊕ Unit) × tq_H).2 = h9) (by omega) (by omega) (by omega) (w_X10_needLower (bc := bc) (bs := bs) (by omega) ev4 (fun _ _ _ => hb9) (fun _ _ q => q)) (fun E h9 q => ?_) (fun r9 h9 q => nomatch (show (Sum.inl r9 : tq_R) = Sum.inr E1 from q.1))
      obtain ⟨q1, rfl⟩ := q
      cases (show (Sum.inr E : tq_R) = Sum.inr E1 from q1)
      subst e9
      exact tq_out rfl (hQ _ _ ⟨rfl, rfl⟩)
    · refine tq_calV (M := mX10_worth) (pc := 8) (S := []) tk_y_X10_needLower tk_v_X10_needLower tk_RX10_265 dX10_worth_8 [.int a1, .int a2] rfl (S0 := _) rfl eu5 rfl (Nat.le_of_ble_eq_true rfl) (d1 := d - 1) (b1 := 0 + 0) (s1 := 0 + 0) (bc' := bc) (bs' := bs) (Q1 := fun r h9 => r = tq_enV ((.inr (), w6) : (String ⊕ Unit) × tq_H).1 ∧ ((.inr (), w6) : (String ⊕ Unit) × tq_H).2 = h9) (by omega) (by omega) (by omega) (w_X10_needLower (bc := 0) (bs := 0) (by omega) ev4 (fun E g z => by cases z) (fun _ _ q => q)) (fun E h9 q => nomatch (show (Sum.inr E : tq_R) = Sum.inl _ from q.1)) (fun r9 h9 q => ?_)
      obtain ⟨q1, rfl⟩ := q
      cases (show (Sum.inl r9 : tq_R) = Sum.inl (none) from q1)
      refine tq_aload_n (M := mX10_worth) (pc := 11) dX10_worth_11 rfl ?_
      refine tq_iload_n (M := mX10_worth) (pc := 12) dX10_worth_12 rfl ?_
      refine tq_iconst (M := mX10_worth) (pc := 13) dX10_worth_13 tk_ki_0 ?_
      refine tq_iconst (M := mX10_worth) (pc := 14) dX10_worth_14 tk_ki_2 ?_
      obtain ⟨⟨⟩, eu8, hf⟩ := tq_be hf
      obtain ⟨fsu8, eu8⟩ := tq_is_s eu8
      rcases tq_te hf with ⟨E1, g1, ev7, e9⟩ | ⟨v7, w9, ev7, hf⟩
      · have hb9 := hb _ _ e9
        refine tq_calV (M := mX10_worth) (pc := 15) (S := []) tk_y_X10_needRange tk_v_X10_needRange tk_RX10_132 dX10_worth_15 [.int a3, .int (0 : Int32), .int (2 : Int32)] rfl (S0 := _) rfl eu8 rfl (Nat.le_of_ble_eq_true rfl) (d1 := d - 1) (b1 := 0 + bc) (s1 := 0 + bs) (bc' := 0) (bs' := 0) (Q1 := fun r h9 => r = tq_enV ((.inl E1, g1) : (String ⊕ Unit) × tq_H).1 ∧ ((.inl E1, g1) : (String ⊕ Unit) × tq_H).2 = h9) (by omega) (by omega) (by omega) (w_X10_needRange (bc := bc) (bs := bs) (by omega) ev7 (fun _ _ _ => hb9) (fun _ _ q => q)) (fun E h9 q => ?_) (fun r9 h9 q => nomatch (show (Sum.inl r9 : tq_R) = Sum.inr E1 from q.1))
        obtain ⟨q1, rfl⟩ := q
        cases (show (Sum.inr E : tq_R) = Sum.inr E1 from q1)
        subst e9
        exact tq_out rfl (hQ _ _ ⟨rfl, rfl⟩)
      · refine tq_calV (M := mX10_worth) (pc := 15) (S := []) tk_y_X10_needRange tk_v_X10_needRange tk_RX10_132 dX10_worth_15 [.int a3, .int (0 : Int32), .int (2 : Int32)] rfl (S0 := _) rfl eu8 rfl (Nat.le_of_ble_eq_true rfl) (d1 := d - 1) (b1 := 0 + 0) (s1 := 0 + 0) (bc' := bc) (bs' := bs) (Q1 := fun r h9 => r = tq_enV ((.inr (), w9) : (String ⊕ Unit) × tq_H).1 ∧ ((.inr (), w9) : (String ⊕ Unit) × tq_H).2 = h9) (by omega) (by omega) (by omega) (w_X10_needRange (bc := 0) (bs := 0) (by omega) ev7 (fun E g z => by cases z) (fun _ _ q => q)) (fun E h9 q => nomatch (show (Sum.inr E : tq_R) = Sum.inl _ from q.1)) (fun r9 h9 q => ?_)
        obtain ⟨q1, rfl⟩ := q
        cases (show (Sum.inl r9 : tq_R) = Sum.inl (none) from q1)
        refine tq_aload_n (M := mX10_worth) (pc := 18) dX10_worth_18 rfl ?_
        refine tq_iload (M := mX10_worth) (pc := 19) dX10_worth_19 rfl ?_
        refine tq_iconst (M := mX10_worth) (pc := 21) dX10_worth_21 tk_ki_0 ?_
        refine tq_sipush (M := mX10_worth) (pc := 22) dX10_worth_22 tk_ks_999 ?_
        obtain ⟨⟨⟩, eu11, hf⟩ := tq_be hf
        obtain ⟨fsu11, eu11⟩ := tq_is_s eu11
        rcases tq_te hf with ⟨E1, g1, ev10, e9⟩ | ⟨v10, w12, ev10, hf⟩
        · have hb9 := hb _ _ e9
          refine tq_calV (M := mX10_worth) (pc := 25) (S := []) tk_y_X10_needRange tk_v_X10_needRange tk_RX10_132 dX10_worth_25 [.int a4, .int (0 : Int32), .int (999 : Int32)] rfl (S0 := _) rfl eu11 rfl (Nat.le_of_ble_eq_true rfl) (d1 := d - 1) (b1 := 0 + bc) (s1 := 0 + bs) (bc' := 0) (bs' := 0) (Q1 := fun r h9 => r = tq_enV ((.inl E1, g1) : (String ⊕ Unit) × tq_H).1 ∧ ((.inl E1, g1) : (String ⊕ Unit) × tq_H).2 = h9) (by omega) (by omega) (by omega) (w_X10_needRange (bc := bc) (bs := bs) (by omega) ev10 (fun _ _ _ => hb9) (fun _ _ q => q)) (fun E h9 q => ?_) (fun r9 h9 q => nomatch (show (Sum.inl r9 : tq_R) = Sum.inr E1 from q.1))
          obtain ⟨q1, rfl⟩ := q
          cases (show (Sum.inr E : tq_R) = Sum.inr E1 from q1)
          subst e9
          exact tq_out rfl (hQ _ _ ⟨rfl, rfl⟩)
        · refine tq_calV (M := mX10_worth) (pc := 25) (S := []) tk_y_X10_needRange tk_v_X10_needRange tk_RX10_132 dX10_worth_25 [.int a4, .int (0 : Int32), .int (999 : Int32)] rfl (S0 := _) rfl eu11 rfl (Nat.le_of_ble_eq_true rfl) (d1 := d - 1) (b1 := 0 + 0) (s1 := 0 + 0) (bc' := bc) (bs' := bs) (Q1 := fun r h9 => r = tq_enV ((.inr (), w12) : (String ⊕ Unit) × tq_H).1 ∧ ((.inr (), w12) : (String ⊕ Unit) × tq_H).2 = h9) (by omega) (by omega) (by omega) (w_X10_needRange (bc := 0) (bs := 0) (by omega) ev10 (fun E g z => by cases z) (fun _ _ q => q)) (fun E h9 q => nomatch (show (Sum.inr E : tq_R) = Sum.inl _ from q.1)) (fun r9 h9 q => ?_)
          obtain ⟨q1, rfl⟩ := q
          cases (show (Sum.inl r9 : tq_R) = Sum.inl (none) from q1)
          refine tq_aload_n (M := mX10_worth) (pc := 28) dX10_worth_28 rfl ?_
          refine tq_iload_n (M := mX10_worth) (pc := 29) dX10_worth_29 rfl ?_
          obtain ⟨⟨⟩, eu14, hf⟩ := tq_be hf
          obtain ⟨fsu14, eu14⟩ := tq_is_s eu14
          rcases tq_te hf with ⟨E1, g1, ev13, e9⟩ | ⟨v13, w15, ev13, hf⟩
          · have hb9 := hb _ _ e9
            refine tq_calV (M := mX10_worth) (pc := 30) (S := []) tk_y_X10_needOpenStep tk_v_X10_needOpenStep tk_RX10_288 dX10_worth_30 [.int a1] rfl (S0 := _) rfl eu14 rfl (Nat.le_of_ble_eq_true rfl) (d1 := d - 1) (b1 := 0 + bc) (s1 := 0 + bs) (bc' := 0) (bs' := 0) (Q1 := fun r h9 => r = tq_enV ((.inl E1, g1) : (String ⊕ Unit) × tq_H).1 ∧ ((.inl E1, g1) : (String ⊕ Unit) × tq_H).2 = h9) (by omega) (by omega) (by omega) (w_X10_needOpenStep (bc := bc) (bs := bs) (by omega) ev13 (fun _ _ _ => hb9) (fun _ _ q => q)) (fun E h9 q => ?_) (fun r9 h9 q => nomatch (show (Sum.inl r9 : tq_R) = Sum.inr E1 from q.1))
            obtain ⟨q1, rfl⟩ := q
            cases (show (Sum.inr E : tq_R) = Sum.inr E1 from q1)
            subst e9
            exact tq_out rfl (hQ _ _ ⟨rfl, rfl⟩)
          · refine tq_calV (M := mX10_worth) (pc := 30) (S := []) tk_y_X10_needOpenStep tk_v_X10_needOpenStep tk_RX10_288 dX10_worth_30 [.int a1] rfl (S0 := _) rfl eu14 rfl (Nat.le_of_ble_eq_true rfl) (d1 := d - 1) (b1 := 0 + 0) (s1 := 0 + 0) (bc' := bc) (bs' := bs) (Q1 := fun r h9 => r = tq_enV ((.inr (), w15) : (String ⊕ Unit) × tq_H).1 ∧ ((.inr (), w15) : (String ⊕ Unit) × tq_H).2 = h9) (by omega) (by omega) (by omega) (w_X10_needOpenStep (bc := 0) (bs := 0) (by omega) ev13 (fun E g z => by cases z) (fun _ _ q => q)) (fun E h9 q => nomatch (show (Sum.inr E : tq_R) = Sum.inl _ from q.1)) (fun r9 h9 q => ?_)
            obtain ⟨q1, rfl⟩ := q
            cases (show (Sum.inl r9 : tq_R) = Sum.inl (none) from q1)
            refine tq_aload_n (M := mX10_worth) (pc := 33) dX10_worth_33 rfl ?_
            refine tq_iload_n (M := mX10_worth) (pc := 34) dX10_worth_34 rfl ?_
            obtain ⟨⟨⟩, eu17, hf⟩ := tq_be hf
            obtain ⟨fsu17, eu17⟩ := tq_is_s eu17
            obtain ⟨v16, ev16, hf⟩ := tq_be hf
            refine tq_calV (M := mX10_worth) (pc := 35) (S := []) tk_y_X10_noteChangeOf tk_v_X10_noteChangeOf tk_RX10_281 dX10_worth_35 [.int a1] rfl (S0 := _) rfl eu17 rfl (Nat.le_of_ble_eq_true rfl) (d1 := d - 1) (b1 := 0) (s1 := 0) (bc' := bc) (bs' := bs) (Q1 := fun r h9 => r = .inl none ∧ v16 = h9) (by omega) (by omega) (by omega) (w_X10_noteChangeOf (by omega) ev16 (fun _ _ q => q)) (fun E h9 q => nomatch (show (Sum.inr E : tq_R) = Sum.inl _ from q.1)) (fun r9 h9 q => ?_)
            obtain ⟨q1, rfl⟩ := q
            cases (show (Sum.inl r9 : tq_R) = Sum.inl (none) from q1)
            refine tq_aload_n (M := mX10_worth) (pc := 38) dX10_worth_38 rfl ?_
            obtain ⟨k18, ek18, hf⟩ := tq_be hf
            refine tq_getR (M := mX10_worth) (pc := 39) tk_c10 (by decide) dX10_worth_39 tk_RX10_29 rfl ek18 ?_
            refine tq_iload_n (M := mX10_worth) (pc := 42) dX10_worth_42 rfl ?_
            refine tq_iconst (M := mX10_worth) (pc := 43) dX10_worth_43 tk_ki_4 ?_
            refine tq_iload_n (M := mX10_worth) (pc := 44) dX10_worth_44 rfl ?_
            refine tq_iload_n (M := mX10_worth) (pc := 45) dX10_worth_45 rfl ?_
            refine tq_iload (M := mX10_worth) (pc := 46) dX10_worth_46 rfl ?_
            obtain ⟨⟨⟩, eu20, hf⟩ := tq_be hf
            obtain ⟨fsu20, eu20⟩ := tq_is_s eu20
            obtain ⟨v19, ev19, hf⟩ := tq_be hf
            refine tq_calV (M := mX10_worth) (pc := 48) (S := []) tk_y_X4_addCondition tk_v_X4_addCondition tk_RX10_291 dX10_worth_48 [.int a1, .int (4 : Int32), .int a2, .int a3, .int a4] rfl (S0 := _) rfl eu20 rfl (Nat.le_of_ble_eq_true rfl) (d1 := d - 1) (b1 := 0) (s1 := 0) (bc' := bc) (bs' := bs) (Q1 := fun r h9 => r = .inl (some (.int v19.1)) ∧ v19.2 = h9) (by omega) (by omega) (by omega) (w_X4_addCondition (by omega) ev19 (fun _ _ q => q)) (fun E h9 q => nomatch (show (Sum.inr E : tq_R) = Sum.inl _ from q.1)) (fun r9 h9 q => ?_)
            obtain ⟨q1, rfl⟩ := q
            cases (show (Sum.inl r9 : tq_R) = Sum.inl (some (.int v19.1)) from q1)
            refine tq_iret (M := mX10_worth) (pc := 51) dX10_worth_51 rfl ?_
            cases (Option.some.inj hf)
            exact hQ _ _ ⟨rfl, rfl⟩
abbrev mX10_paths : tq_M := (RX10, cX10_paths, 1, (some .int), false, [], none)
def f_X10_paths (t : Nat) (h : tq_H) : Option (Int32) :=
  (tq_gr h t 10 3).bind fun k1 =>
  (tq_is h k1 4).bind fun _ =>
  (f_X4_count k1 h).bind fun v2 =>
  some v2
set_option maxHeartbeats 4000000 in
set_option maxRecDepth 20000 in
theorem w_X10_paths {l : Launch} {d : Nat} (hd9 : 1 ≤ d) {t : Nat} {h : tq_H} {o : Int32} {Q : tq_R → tq_H → Prop} (hf : f_X10_paths t h = some o) (hQ : ∀ r h9, r = .inl (some (.int o)) ∧ h = h9 → Q r h9) : tq_C l yX10_paths cX10_paths 1 (some .int) d 0 0 [.ref t] h Q := by
  refine tq_body (y := yX10_paths) false (by decide +kernel) (fun z => by cases z) (Nat.le_of_ble_eq_true rfl) ?_
  show tq_W l mX10_paths d 0 0 Q 0 [(0, .ref t)] [] h
  refine tq_aload_n (M := mX10_paths) (pc := 0) dX10_paths_0 rfl ?_
  obtain ⟨k1, ek1, hf⟩ := tq_be hf
  refine tq_getR (M := mX10_paths) (pc := 1) tk_c10 (by decide) dX10_paths_1 tk_RX10_29 rfl ek1 ?_
  obtain ⟨⟨⟩, eu3, hf⟩ := tq_be hf
  obtain ⟨fsu3, eu3⟩ := tq_is_s eu3
  obtain ⟨v2, ev2, hf⟩ := tq_be hf
  refine tq_calV (M := mX10_paths) (pc := 4) (S := []) tk_y_X4_count tk_v_X4_count tk_RX10_256 dX10_paths_4 [] rfl (S0 := _) rfl eu3 rfl (Nat.le_of_ble_eq_true rfl) (d1 := d - 1) (b1 := 0) (s1 := 0) (bc' := 0) (bs' := 0) (Q1 := fun r h9 => r = .inl (some (.int v2)) ∧ h = h9) (by omega) rfl rfl (w_X4_count (by omega) ev2 (fun _ _ q => q)) (fun E h9 q => nomatch (show (Sum.inr E : tq_R) = Sum.inl _ from q.1)) (fun r9 h9 q => ?_)
  obtain ⟨q1, rfl⟩ := q
  cases (show (Sum.inl r9 : tq_R) = Sum.inl (some (.int v2)) from q1)
  refine tq_iret (M := mX10_paths) (pc := 7) dX10_paths_7 rfl ?_
  cases (Option.some.inj hf)
  exact hQ _ _ ⟨rfl, rfl⟩
abbrev mX10_readAsReader : tq_M := (RX10, cX10_readAsReader, 3, (some .boolean), false, [], none)
def f_X10_readAsReader (t : Nat) (a1 : Int32) (h : tq_H) : Option (Int32 × tq_H) :=
  (tq_gi h t 10 17).bind fun x1 =>
  (tq_bz a1).bind fun z3 =>
  (tq_pf h t 10 17 (.int z3)).bind fun w2 =>
  (tq_bz x1).bind fun z4 =>
  some (z4, w2)
set_option maxHeartbeats 4000000 in
set_option maxRecDepth 20000 in
theorem w_X10_readAsReader {l : Launch} {d : Nat} (hd9 : 0 ≤ d) {t : Nat} {a1 : Int32} {h : tq_H} {o : Int32 × tq_H} {Q : tq_R → tq_H → Prop} (hf : f_X10_readAsReader t a1 h = some o) (hQ : ∀ r h9, r = .inl (some (.int o.1)) ∧ o.2 = h9 → Q r h9) : tq_C l yX10_readAsReader cX10_readAsReader 3 (some .boolean) d 0 0 [.ref t, .int a1] h Q := by
  refine tq_body (y := yX10_readAsReader) false (by decide +kernel) (fun z => by cases z) (Nat.le_of_ble_eq_true rfl) ?_
  show tq_W l mX10_readAsReader d 0 0 Q 0 [(0, .ref t), (1, .int a1)] [] h
  refine tq_aload_n (M := mX10_readAsReader) (pc := 0) dX10_readAsReader_0 rfl ?_
  obtain ⟨x1, ex1, hf⟩ := tq_be hf
  refine tq_getI (M := mX10_readAsReader) (pc := 1) tk_c10 (by decide) dX10_readAsReader_1 tk_RX10_98 rfl ex1 ?_
  refine tq_istore_n (M := mX10_readAsReader) (pc := 4) rfl dX10_readAsReader_4 (L2 := [(2, .int x1), (0, .ref t), (1, .int a1)]) (by decide) rfl ?_
  refine tq_aload_n (M := mX10_readAsReader) (pc := 5) dX10_readAsReader_5 rfl ?_
  refine tq_iload_n (M := mX10_readAsReader) (pc := 6) dX10_readAsReader_6 rfl ?_
  obtain ⟨z3, ez3, hf⟩ := tq_be hf
  obtain ⟨w2, ew2, hf⟩ := tq_be hf
  refine tq_putB (M := mX10_readAsReader) (pc := 7) tk_c10 (by decide) rfl dX10_readAsReader_7 tk_RX10_98 rfl (Or.inl rfl) ez3 ew2 ?_
  refine tq_iload_n (M := mX10_readAsReader) (pc := 10) dX10_readAsReader_10 rfl ?_
  obtain ⟨z4, ez4, hf⟩ := tq_be hf
  refine tq_zretB (M := mX10_readAsReader) (pc := 11) dX10_readAsReader_11 rfl ez4 ?_
  cases (Option.some.inj hf)
  exact hQ _ _ ⟨rfl, rfl⟩
abbrev mX10_refreshedReader : tq_M := (RX10, cX10_refreshedReader, 4, (some (.object "Treequery$Finder")), false, [], none)
def f_X10_refreshedReader_b16 (i0 : Nat) (s : Int64 × Int32 × tq_H) : Option ((Int64 × Int32 × tq_H) ⊕ (Int64 × tq_H)) := match s with
  | (y1, y3, hh) =>
    (tq_gr hh i0 10 3).bind fun k2 =>
    (tq_is hh k2 4).bind fun _ =>
    (f_X4_count k2 hh).bind fun v3 =>
    if y3 ≥ v3 then
      some (.inr (y1, hh))
    else
      (tq_gl hh i0 10 15).bind fun x5 =>
      (f_X0_holds x5 y3 hh).bind fun v6 =>
      (if v6 = 0 then
        some (y1, hh)
      else
        (tq_gr hh i0 10 4).bind fun k7 =>
        (tq_is hh k7 2).bind fun _ =>
        (f_X2_prepare k7 y3 hh).bind fun v8 =>
        (tq_gr v8 i0 10 4).bind fun k10 =>
        (tq_is v8 k10 2).bind fun _ =>
        (f_X2_foundFrom k10 y3 (0 : Int32) v8).bind fun v11 =>
        tq_let ((y1 ||| v11)) fun x13 =>
        some (x13, v8)).bind fun p14 =>
      tq_let (y3 + (1 : Int32)) fun x15 =>
      some (.inl (p14.1, x15, p14.2))
def f_X10_refreshedReader (t : Nat) (h : tq_H) : Option (Nat × tq_H) :=
  (tq_gi h t 10 18).bind fun x1 =>
  if x1 = 0 then
    (tq_gr h t 10 5).bind fun k31 =>
    some (k31, h)
  else
    (tq_loop (f_X10_refreshedReader_b16 t) tq_N ((0 : Int64), (0 : Int32), h)).bind fun o16 =>
    (tq_gr o16.2 t 10 0).bind fun k17 =>
    (tq_gr o16.2 k17 8 0).bind fun k18 =>
    (f_X0_one (0 : Int32) o16.2).bind fun v19 =>
    (tq_is o16.2 k18 3).bind fun _ =>
    (f_X3_spread k18 (o16.1 &&& (v19 ^^^ (-1 : Int64))) o16.2).bind fun v20 =>
    (tq_gr o16.2 t 10 5).bind fun k22 =>
    (tq_gr o16.2 t 10 0).bind fun k23 =>
    (tq_gr o16.2 k23 8 0).bind fun k24 =>
    (tq_is o16.2 k24 3).bind fun _ =>
    (f_X3_everything k24 o16.2).bind fun v25 =>
    (tq_is o16.2 k22 2).bind fun _ =>
    (f_X2_start k22 (v25 &&& (v20 ^^^ (-1 : Int64))) o16.2).bind fun v27 =>
    (tq_pf v27 t 10 18 (.int (0 : Int32))).bind fun w29 =>
    (tq_gr w29 t 10 5).bind fun k30 =>
    some (k30, w29)
set_option maxHeartbeats 4000000 in
theorem l_X10_refreshedReader_16 {l : Launch} {d : Nat} {Q : tq_R → tq_H → Prop} {bc bs : Nat} (hd9 : 6 ≤ d) (i0 : Nat) : ∀ (n : Nat) (y1 : Int64) (y3 : Int32) (hh : tq_H) (o : Int64 × tq_H), tq_loop (f_X10_refreshedReader_b16 i0) n (y1, y3, hh) = some o → tq_W l mX10_refreshedReader d bc bs Q 64 [(0, .ref i0), (1, .long o.1)] [] o.2 → tq_W l mX10_refreshedReader d bc bs Q 16 [(0, .ref i0), (1, .long y1), (3, .int y3)] [] hh := by
  intro n
  induction n with
  | zero => intro y1 y3 hh o hl; cases hl
  | succ n ih =>
    intro y1 y3 hh o hl hk
    obtain ⟨oo, hf, ho⟩ := tq_loop_s hl
    refine tq_iload_n (M := mX10_refreshedReader) (pc := 16) dX10_refreshedReader_16 rfl ?_
    refine tq_aload_n (M := mX10_refreshedReader) (pc := 17) dX10_refreshedReader_17 rfl ?_
    obtain ⟨k2, ek2, hf⟩ := tq_be hf
    refine tq_getR (M := mX10_refreshedReader) (pc := 18) tk_c10 (by decide) dX10_refreshedReader_18 tk_RX10_29 rfl ek2 ?_
    obtain ⟨⟨⟩, eu4, hf⟩ := tq_be hf
    obtain ⟨fsu4, eu4⟩ := tq_is_s eu4
    obtain ⟨v3, ev3, hf⟩ := tq_be hf
    refine tq_calV (M := mX10_refreshedReader) (pc := 21) (S := [.int y3]) tk_y_X4_count tk_v_X4_count tk_RX10_256 dX10_refreshedReader_21 [] rfl (S0 := _) rfl eu4 rfl (Nat.le_of_ble_eq_true rfl) (d1 := d - 1) (b1 := 0) (s1 := 0) (bc' := bc) (bs' := bs) (Q1 := fun r h9 => r = .inl (some (.int v3)) ∧ hh = h9) (by omega) (by omega) (by omega) (w_X4_count (by omega) ev3 (fun _ _ q => q)) (fun E h9 q => nomatch (show (Sum.inr E : tq_R) = Sum.inl _ from q.1)) (fun r9 h9 q => ?_)
    obtain ⟨q1, rfl⟩ := q
    cases (show (Sum.inl r9 : tq_R) = Sum.inl (some (.int v3)) from q1)
    refine tq_icmp_ge (M := mX10_refreshedReader) (pc := 24) (tgt := 64) dX10_refreshedReader_24 (by decide) (fun cc => ?_) (fun cc => ?_)
    · have hf := tq_ifp hf cc
      refine tq_pick (L2 := [(0, .ref i0), (1, .long y1)]) [0, 1] rfl ?_
      cases (Option.some.inj hf)
      cases (tq_lx ho)
      exact hk
    · have hf := tq_ifn hf cc
      refine tq_aload_n (M := mX10_refreshedReader) (pc := 27) dX10_refreshedReader_27 rfl ?_
      obtain ⟨x5, ex5, hf⟩ := tq_be hf
      refine tq_getL (M := mX10_refreshedReader) (pc := 28) tk_c10 (by decide) dX10_refreshedReader_28 tk_RX10_91 rfl ex5 ?_
      refine tq_iload_n (M := mX10_refreshedReader) (pc := 31) dX10_refreshedReader_31 rfl ?_
      obtain ⟨v6, ev6, hf⟩ := tq_be hf
      refine tq_calS (M := mX10_refreshedReader) (pc := 32) (S := []) tk_y_X0_holds tk_s_X0_holds tk_RX10_315 dX10_refreshedReader_32 [.long x5, .int y3] rfl (Nat.le_of_ble_eq_true rfl) (d1 := d - 1) (b1 := 0) (s1 := 0) (bc' := bc) (bs' := bs) (Q1 := fun r h9 => r = .inl (some (.int v6)) ∧ hh = h9) (by omega) (by omega) (by omega) (w_X0_holds (by omega) ev6 (fun _ _ q => q)) (fun E h9 q => nomatch (show (Sum.inr E : tq_R) = Sum.inl _ from q.1)) (fun r9 h9 q => ?_)
      obtain ⟨q1, rfl⟩ := q
      cases (show (Sum.inl r9 : tq_R) = Sum.inl (some (.int v6)) from q1)
      obtain ⟨p14, ep14, hf⟩ := tq_be hf
      have HJ35 : tq_W l mX10_refreshedReader d bc bs Q 58 [(0, .ref i0), (1, .long p14.1), (3, .int y3)] [] p14.2 := by
        obtain ⟨x15, ex15, hf⟩ := tq_le hf
        refine tq_iinc (M := mX10_refreshedReader) (pc := 58) (v := x15) (L2 := [(3, .int x15), (0, .ref i0), (1, .long p14.1)]) dX10_refreshedReader_58 rfl (by rw [ex15, tk_ki_1]) (by decide) rfl ?_
        refine tq_goto (M := mX10_refreshedReader) (pc := 61) (tgt := 16) dX10_refreshedReader_61 (by decide) ?_
        refine tq_pick (L2 := [(0, .ref i0), (1, .long p14.1), (3, .int x15)]) [1, 2, 0] rfl ?_
        cases (Option.some.inj hf)
        exact ih _ _ _ o (tq_lc ho) hk
      refine tq_if_eq (M := mX10_refreshedReader) (pc := 35) (tgt := 58) dX10_refreshedReader_35 (by decide) (fun cc => ?_) (fun cc => ?_)
      · have hf := tq_ifp ep14 cc
        cases (Option.some.inj hf)
        exact HJ35
      · have hf := tq_ifn ep14 cc
        refine tq_aload_n (M := mX10_refreshedReader) (pc := 38) dX10_refreshedReader_38 rfl ?_
        obtain ⟨k7, ek7, hf⟩ := tq_be hf
        refine tq_getR (M := mX10_refreshedReader) (pc := 39) tk_c10 (by decide) dX10_refreshedReader_39 tk_RX10_38 rfl ek7 ?_
        refine tq_iload_n (M := mX10_refreshedReader) (pc := 42) dX10_refreshedReader_42 rfl ?_
        obtain ⟨⟨⟩, eu9, hf⟩ := tq_be hf
        obtain ⟨fsu9, eu9⟩ := tq_is_s eu9
        obtain ⟨v8, ev8, hf⟩ := tq_be hf
        refine tq_calV (M := mX10_refreshedReader) (pc := 43) (S := []) tk_y_X2_prepare tk_v_X2_prepare tk_RX10_302 dX10_refreshedReader_43 [.int y3] rfl (S0 := _) rfl eu9 rfl (Nat.le_of_ble_eq_true rfl) (d1 := d - 1) (b1 := 0) (s1 := 0) (bc' := bc) (bs' := bs) (Q1 := fun r h9 => r = .inl none ∧ v8 = h9) (by omega) (by omega) (by omega) (w_X2_prepare (by omega) ev8 (fun _ _ q => q)) (fun E h9 q => nomatch (show (Sum.inr E : tq_R) = Sum.inl _ from q.1)) (fun r9 h9 q => ?_)
        obtain ⟨q1, rfl⟩ := q
        cases (show (Sum.inl r9 : tq_R) = Sum.inl (none) from q1)
        refine tq_lload_n (M := mX10_refreshedReader) (pc := 46) dX10_refreshedReader_46 rfl ?_
        refine tq_aload_n (M := mX10_refreshedReader) (pc := 47) dX10_refreshedReader_47 rfl ?_
        obtain ⟨k10, ek10, hf⟩ := tq_be hf
        refine tq_getR (M := mX10_refreshedReader) (pc := 48) tk_c10 (by decide) dX10_refreshedReader_48 tk_RX10_38 rfl ek10 ?_
        refine tq_iload_n (M := mX10_refreshedReader) (pc := 51) dX10_refreshedReader_51 rfl ?_
        refine tq_iconst (M := mX10_refreshedReader) (pc := 52) dX10_refreshedReader_52 tk_ki_0 ?_
        obtain ⟨⟨⟩, eu12, hf⟩ := tq_be hf
        obtain ⟨fsu12, eu12⟩ := tq_is_s eu12
        obtain ⟨v11, ev11, hf⟩ := tq_be hf
        refine tq_calV (M := mX10_refreshedReader) (pc := 53) (S := [.long y1]) tk_y_X2_foundFrom tk_v_X2_foundFrom tk_RX10_305 dX10_refreshedReader_53 [.int y3, .int (0 : Int32)] rfl (S0 := _) rfl eu12 rfl (Nat.le_of_ble_eq_true rfl) (d1 := d - 1) (b1 := 0) (s1 := 0) (bc' := bc) (bs' := bs) (Q1 := fun r h9 => r = .inl (some (.long v11)) ∧ v8 = h9) (by omega) (by omega) (by omega) (w_X2_foundFrom (by omega) ev11 (fun _ _ q => q)) (fun E h9 q => nomatch (show (Sum.inr E : tq_R) = Sum.inl _ from q.1)) (fun r9 h9 q => ?_)
        obtain ⟨q1, rfl⟩ := q
        cases (show (Sum.inl r9 : tq_R) = Sum.inl (some (.long v11)) from q1)
        refine tq_lor (M := mX10_refreshedReader) (pc := 56) dX10_refreshedReader_56 ?_
        obtain ⟨x13, ex13, hf⟩ := tq_le hf
        refine tq_lstore_n (M := mX10_refreshedReader) (pc := 57) rfl dX10_refreshedReader_57 (L2 := [(1, .long x13), (0, .ref i0), (3, .int y3)]) (by decide) (by rw [ex13]; rfl) ?_
        refine tq_pick (L2 := [(0, .ref i0), (1, .long x13), (3, .int y3)]) [1, 0, 2] rfl ?_
        cases (Option.some.inj hf)
        exact HJ35
set_option maxHeartbeats 4000000 in
set_option maxRecDepth 20000 in
theorem w_X10_refreshedReader {l : Launch} {d : Nat} (hd9 : 6 ≤ d) {t : Nat} {h : tq_H} {o : Nat × tq_H} {Q : tq_R → tq_H → Prop} (hf : f_X10_refreshedReader t h = some o) (hQ : ∀ r h9, r = .inl (some (.ref o.1)) ∧ o.2 = h9 → Q r h9) : tq_C l yX10_refreshedReader cX10_refreshedReader 4 (some (.object "Treequery$Finder")) d 0 0 [.ref t] h Q := by
  refine tq_body (y := yX10_refreshedReader) false (by decide +kernel) (fun z => by cases z) (Nat.le_of_ble_eq_true rfl) ?_
  show tq_W l mX10_refreshedReader d 0 0 Q 0 [(0, .ref t)] [] h
  refine tq_aload_n (M := mX10_refreshedReader) (pc := 0) dX10_refreshedReader_0 rfl ?_
  obtain ⟨x1, ex1, hf⟩ := tq_be hf
  refine tq_getI (M := mX10_refreshedReader) (pc := 1) tk_c10 (by decide) dX10_refreshedReader_1 tk_RX10_102 rfl ex1 ?_
  refine tq_if_ne (M := mX10_refreshedReader) (pc := 4) (tgt := 12) dX10_refreshedReader_4 (by decide) (fun cc => ?_) (fun cc => ?_)
  · have hf := tq_ifn hf cc
    refine tq_lconst (M := mX10_refreshedReader) (pc := 12) dX10_refreshedReader_12 tk_kl_0 ?_
    refine tq_lstore_n (M := mX10_refreshedReader) (pc := 13) rfl dX10_refreshedReader_13 (L2 := [(1, .long (0 : Int64)), (0, .ref t)]) (by decide) rfl ?_
    refine tq_iconst (M := mX10_refreshedReader) (pc := 14) dX10_refreshedReader_14 tk_ki_0 ?_
    refine tq_istore_n (M := mX10_refreshedReader) (pc := 15) rfl dX10_refreshedReader_15 (L2 := [(3, .int (0 : Int32)), (1, .long (0 : Int64)), (0, .ref t)]) (by decide) rfl ?_
    obtain ⟨o16, eo16, hf⟩ := tq_be hf
    refine tq_pick (L2 := [(0, .ref t), (1, .long (0 : Int64)), (3, .int (0 : Int32))]) [2, 1, 0] rfl ?_
    refine l_X10_refreshedReader_16 (bc := 0) (bs := 0) (by omega) t _ (0 : Int64) (0 : Int32) h _ eo16 ?_
    refine tq_aload_n (M := mX10_refreshedReader) (pc := 64) dX10_refreshedReader_64 rfl ?_
    obtain ⟨k17, ek17, hf⟩ := tq_be hf
    refine tq_getR (M := mX10_refreshedReader) (pc := 65) tk_c10 (by decide) dX10_refreshedReader_65 tk_RX10_12 rfl ek17 ?_
    obtain ⟨k18, ek18, hf⟩ := tq_be hf
    refine tq_getR (M := mX10_refreshedReader) (pc := 68) tk_c8 (by decide) dX10_refreshedReader_68 tk_RX10_115 rfl ek18 ?_
    refine tq_lload_n (M := mX10_refreshedReader) (pc := 71) dX10_refreshedReader_71 rfl ?_
    refine tq_iconst (M := mX10_refreshedReader) (pc := 72) dX10_refreshedReader_72 tk_ki_0 ?_
    obtain ⟨v19, ev19, hf⟩ := tq_be hf
    refine tq_calS (M := mX10_refreshedReader) (pc := 73) (S := [.long o16.1, .ref k18]) tk_y_X0_one tk_s_X0_one tk_RX10_372 dX10_refreshedReader_73 [.int (0 : Int32)] rfl (Nat.le_of_ble_eq_true rfl) (d1 := d - 1) (b1 := 0) (s1 := 0) (bc' := 0) (bs' := 0) (Q1 := fun r h9 => r = .inl (some (.long v19)) ∧ o16.2 = h9) (by omega) rfl rfl (w_X0_one (by omega) ev19 (fun _ _ q => q)) (fun E h9 q => nomatch (show (Sum.inr E : tq_R) = Sum.inl _ from q.1)) (fun r9 h9 q => ?_)
    obtain ⟨q1, rfl⟩ := q
    cases (show (Sum.inl r9 : tq_R) = Sum.inl (some (.long v19)) from q1)
    refine tq_ldc2 (M := mX10_refreshedReader) (pc := 76) dX10_refreshedReader_76 tk_RX10_498 ?_
    refine tq_lxor (M := mX10_refreshedReader) (pc := 79) dX10_refreshedReader_79 ?_
    refine tq_land (M := mX10_refreshedReader) (pc := 80) dX10_refreshedReader_80 ?_
    obtain ⟨⟨⟩, eu21, hf⟩ := tq_be hf
    obtain ⟨fsu21, eu21⟩ := tq_is_s eu21
    obtain ⟨v20, ev20, hf⟩ := tq_be hf
    refine tq_calV (M := mX10_refreshedReader) (pc := 81) (S := []) tk_y_X3_spread tk_v_X3_spread tk_RX10_500 dX10_refreshedReader_81 [.long ((o16.1 &&& (v19 ^^^ (-1 : Int64))))] rfl (S0 := _) rfl eu21 rfl (Nat.le_of_ble_eq_true rfl) (d1 := d - 1) (b1 := 0) (s1 := 0) (bc' := 0) (bs' := 0) (Q1 := fun r h9 => r = .inl (some (.long v20)) ∧ o16.2 = h9) (by omega) rfl rfl (w_X3_spread (by omega) ev20 (fun _ _ q => q)) (fun E h9 q => nomatch (show (Sum.inr E : tq_R) = Sum.inl _ from q.1)) (fun r9 h9 q => ?_)
    obtain ⟨q1, rfl⟩ := q
    cases (show (Sum.inl r9 : tq_R) = Sum.inl (some (.long v20)) from q1)
    refine tq_lstore_n (M := mX10_refreshedReader) (pc := 84) rfl dX10_refreshedReader_84 (L2 := [(1, .long v20), (0, .ref t)]) (by decide) rfl ?_
    refine tq_aload_n (M := mX10_refreshedReader) (pc := 85) dX10_refreshedReader_85 rfl ?_
    obtain ⟨k22, ek22, hf⟩ := tq_be hf
    refine tq_getR (M := mX10_refreshedReader) (pc := 86) tk_c10 (by decide) dX10_refreshedReader_86 tk_RX10_42 rfl ek22 ?_
    refine tq_aload_n (M := mX10_refreshedReader) (pc := 89) dX10_refreshedReader_89 rfl ?_
    obtain ⟨k23, ek23, hf⟩ := tq_be hf
    refine tq_getR (M := mX10_refreshedReader) (pc := 90) tk_c10 (by decide) dX10_refreshedReader_90 tk_RX10_12 rfl ek23 ?_
    obtain ⟨k24, ek24, hf⟩ := tq_be hf
    refine tq_getR (M := mX10_refreshedReader) (pc := 93) tk_c8 (by decide) dX10_refreshedReader_93 tk_RX10_115 rfl ek24 ?_
    obtain ⟨⟨⟩, eu26, hf⟩ := tq_be hf
    obtain ⟨fsu26, eu26⟩ := tq_is_s eu26
    obtain ⟨v25, ev25, hf⟩ := tq_be hf
    refine tq_calV (M := mX10_refreshedReader) (pc := 96) (S := [.ref k22]) tk_y_X3_everything tk_v_X3_everything tk_RX10_119 dX10_refreshedReader_96 [] rfl (S0 := _) rfl eu26 rfl (Nat.le_of_ble_eq_true rfl) (d1 := d - 1) (b1 := 0) (s1 := 0) (bc' := 0) (bs' := 0) (Q1 := fun r h9 => r = .inl (some (.long v25)) ∧ o16.2 = h9) (by omega) rfl rfl (w_X3_everything (by omega) ev25 (fun _ _ q => q)) (fun E h9 q => nomatch (show (Sum.inr E : tq_R) = Sum.inl _ from q.1)) (fun r9 h9 q => ?_)
    obtain ⟨q1, rfl⟩ := q
    cases (show (Sum.inl r9 : tq_R) = Sum.inl (some (.long v25)) from q1)
    refine tq_lload_n (M := mX10_refreshedReader) (pc := 99) dX10_refreshedReader_99 rfl ?_
    refine tq_ldc2 (M := mX10_refreshedReader) (pc := 100) dX10_refreshedReader_100 tk_RX10_498 ?_
    refine tq_lxor (M := mX10_refreshedReader) (pc := 103) dX10_refreshedReader_103 ?_
    refine tq_land (M := mX10_refreshedReader) (pc := 104) dX10_refreshedReader_104 ?_
    obtain ⟨⟨⟩, eu28, hf⟩ := tq_be hf
    obtain ⟨fsu28, eu28⟩ := tq_is_s eu28
    obtain ⟨v27, ev27, hf⟩ := tq_be hf
    refine tq_calV (M := mX10_refreshedReader) (pc := 105) (S := []) tk_y_X2_start tk_v_X2_start tk_RX10_125 dX10_refreshedReader_105 [.long ((v25 &&& (v20 ^^^ (-1 : Int64))))] rfl (S0 := _) rfl eu28 rfl (Nat.le_of_ble_eq_true rfl) (d1 := d - 1) (b1 := 0) (s1 := 0) (bc' := 0) (bs' := 0) (Q1 := fun r h9 => r = .inl none ∧ v27 = h9) (by omega) rfl rfl (w_X2_start (by omega) ev27 (fun _ _ q => q)) (fun E h9 q => nomatch (show (Sum.inr E : tq_R) = Sum.inl _ from q.1)) (fun r9 h9 q => ?_)
    obtain ⟨q1, rfl⟩ := q
    cases (show (Sum.inl r9 : tq_R) = Sum.inl (none) from q1)
    refine tq_aload_n (M := mX10_refreshedReader) (pc := 108) dX10_refreshedReader_108 rfl ?_
    refine tq_iconst (M := mX10_refreshedReader) (pc := 109) dX10_refreshedReader_109 tk_ki_0 ?_
    obtain ⟨w29, ew29, hf⟩ := tq_be hf
    refine tq_putv (M := mX10_refreshedReader) (pc := 110) tk_c10 (by decide) dX10_refreshedReader_110 tk_RX10_102 rfl (Or.inl rfl) ew29 (tq_n01 (Or.inl rfl)) ?_
    refine tq_aload_n (M := mX10_refreshedReader) (pc := 113) dX10_refreshedReader_113 rfl ?_
    obtain ⟨k30, ek30, hf⟩ := tq_be hf
    refine tq_getR (M := mX10_refreshedReader) (pc := 114) tk_c10 (by decide) dX10_refreshedReader_114 tk_RX10_42 rfl ek30 ?_
    refine tq_aret (M := mX10_refreshedReader) (pc := 117) dX10_refreshedReader_117 rfl ?_
    cases (Option.some.inj hf)
    exact hQ _ _ ⟨rfl, rfl⟩
  · have hf := tq_ifp hf cc
    refine tq_aload_n (M := mX10_refreshedReader) (pc := 7) dX10_refreshedReader_7 rfl ?_
    obtain ⟨k31, ek31, hf⟩ := tq_be hf
    refine tq_getR (M := mX10_refreshedReader) (pc := 8) tk_c10 (by decide) dX10_refreshedReader_8 tk_RX10_42 rfl ek31 ?_
    refine tq_aret (M := mX10_refreshedReader) (pc := 11) dX10_refreshedReader_11 rfl ?_
    cases (Option.some.inj hf)
    exact hQ _ _ ⟨rfl, rfl⟩
abbrev mX10_needStart : tq_M := (RX10, cX10_needStart, 3, none, false, [], none)
def f_X10_needStart (t : Nat) (a1 : Nat) (a2 : Int32) (h : tq_H) : Option ((String ⊕ Unit) × tq_H) :=
  (tq_is h t 10).bind fun _ =>
  tq_tb (f_X10_needNode t a2 h) fun _ w3 =>
  (tq_gr w3 t 10 0).bind fun k4 =>
  (tq_gr w3 k4 8 0).bind fun k5 =>
  (tq_is w3 k5 3).bind fun _ =>
  (f_X3_spotOf k5 a2 w3).bind fun v6 =>
  (tq_is w3 a1 2).bind fun _ =>
  (f_X2_sees a1 v6 w3).bind fun v8 =>
  if v8 = 0 then
    some (.inl "java/lang/IndexOutOfBoundsException", w3)
  else
    some (.inr (), w3)
set_option maxHeartbeats 4000000 in
set_option maxRecDepth 20000 in
theorem w_X10_needStart {l : Launch} {d : Nat} (hd9 : 7 ≤ d) {t : Nat} {a1 : Nat} {a2 : Int32} {bc bs : Nat} {h : tq_H} {o : (String ⊕ Unit) × tq_H} {Q : tq_R → tq_H → Prop} (hf : f_X10_needStart t a1 a2 h = some o) (hb : ∀ E g, o = (.inl E, g) → 1 ≤ bc ∧ 6 ≤ bs) (hQ : ∀ r h9, r = tq_enV o.1 ∧ o.2 = h9 → Q r h9) : tq_C l yX10_needStart cX10_needStart 3 none d (0 + bc) (0 + bs) [.ref t, .ref a1, .int a2] h Q := by
  refine tq_body (y := yX10_needStart) false (by decide +kernel) (fun z => by cases z) (Nat.le_of_ble_eq_true rfl) ?_
  show tq_W l mX10_needStart d (0 + bc) (0 + bs) Q 0 [(0, .ref t), (1, .ref a1), (2, .int a2)] [] h
  refine tq_more (bc := bc) (bs := bs) (by omega) (by omega) ?_
  refine tq_aload_n (M := mX10_needStart) (pc := 0) dX10_needStart_0 rfl ?_
  refine tq_iload_n (M := mX10_needStart) (pc := 1) dX10_needStart_1 rfl ?_
  obtain ⟨⟨⟩, eu2, hf⟩ := tq_be hf
  obtain ⟨fsu2, eu2⟩ := tq_is_s eu2
  rcases tq_te hf with ⟨E1, g1, ev1, e9⟩ | ⟨v1, w3, ev1, hf⟩
  · have hb9 := hb _ _ e9
    refine tq_calV (M := mX10_needStart) (pc := 2) (S := []) tk_y_X10_needNode tk_v_X10_needNode tk_RX10_146 dX10_needStart_2 [.int a2] rfl (S0 := _) rfl eu2 rfl (Nat.le_of_ble_eq_true rfl) (d1 := d - 1) (b1 := 0 + bc) (s1 := 0 + bs) (bc' := 0) (bs' := 0) (Q1 := fun r h9 => r = tq_enV ((.inl E1, g1) : (String ⊕ Unit) × tq_H).1 ∧ ((.inl E1, g1) : (String ⊕ Unit) × tq_H).2 = h9) (by omega) (by omega) (by omega) (w_X10_needNode (bc := bc) (bs := bs) (by omega) ev1 (fun _ _ _ => hb9) (fun _ _ q => q)) (fun E h9 q => ?_) (fun r9 h9 q => nomatch (show (Sum.inl r9 : tq_R) = Sum.inr E1 from q.1))
    obtain ⟨q1, rfl⟩ := q
    cases (show (Sum.inr E : tq_R) = Sum.inr E1 from q1)
    subst e9
    exact tq_out rfl (hQ _ _ ⟨rfl, rfl⟩)
  · refine tq_calV (M := mX10_needStart) (pc := 2) (S := []) tk_y_X10_needNode tk_v_X10_needNode tk_RX10_146 dX10_needStart_2 [.int a2] rfl (S0 := _) rfl eu2 rfl (Nat.le_of_ble_eq_true rfl) (d1 := d - 1) (b1 := 0 + 0) (s1 := 0 + 0) (bc' := bc) (bs' := bs) (Q1 := fun r h9 => r = tq_enV ((.inr (), w3) : (String ⊕ Unit) × tq_H).1 ∧ ((.inr (), w3) : (String ⊕ Unit) × tq_H).2 = h9) (by omega) (by omega) (by omega) (w_X10_needNode (bc := 0) (bs := 0) (by omega) ev1 (fun E g z => by cases z) (fun _ _ q => q)) (fun E h9 q => nomatch (show (Sum.inr E : tq_R) = Sum.inl _ from q.1)) (fun r9 h9 q => ?_)
    obtain ⟨q1, rfl⟩ := q
    cases (show (Sum.inl r9 : tq_R) = Sum.inl (none) from q1)
    refine tq_aload_n (M := mX10_needStart) (pc := 5) dX10_needStart_5 rfl ?_
    refine tq_aload_n (M := mX10_needStart) (pc := 6) dX10_needStart_6 rfl ?_
    obtain ⟨k4, ek4, hf⟩ := tq_be hf
    refine tq_getR (M := mX10_needStart) (pc := 7) tk_c10 (by decide) dX10_needStart_7 tk_RX10_12 rfl ek4 ?_
    obtain ⟨k5, ek5, hf⟩ := tq_be hf
    refine tq_getR (M := mX10_needStart) (pc := 10) tk_c8 (by decide) dX10_needStart_10 tk_RX10_115 rfl ek5 ?_
    refine tq_iload_n (M := mX10_needStart) (pc := 13) dX10_needStart_13 rfl ?_
    obtain ⟨⟨⟩, eu7, hf⟩ := tq_be hf
    obtain ⟨fsu7, eu7⟩ := tq_is_s eu7
    obtain ⟨v6, ev6, hf⟩ := tq_be hf
    refine tq_calV (M := mX10_needStart) (pc := 14) (S := [.ref a1]) tk_y_X3_spotOf tk_v_X3_spotOf tk_RX10_229 dX10_needStart_14 [.int a2] rfl (S0 := _) rfl eu7 rfl (Nat.le_of_ble_eq_true rfl) (d1 := d - 1) (b1 := 0) (s1 := 0) (bc' := bc) (bs' := bs) (Q1 := fun r h9 => r = .inl (some (.int v6)) ∧ w3 = h9) (by omega) (by omega) (by omega) (w_X3_spotOf (by omega) ev6 (fun _ _ q => q)) (fun E h9 q => nomatch (show (Sum.inr E : tq_R) = Sum.inl _ from q.1)) (fun r9 h9 q => ?_)
    obtain ⟨q1, rfl⟩ := q
    cases (show (Sum.inl r9 : tq_R) = Sum.inl (some (.int v6)) from q1)
    obtain ⟨⟨⟩, eu9, hf⟩ := tq_be hf
    obtain ⟨fsu9, eu9⟩ := tq_is_s eu9
    obtain ⟨v8, ev8, hf⟩ := tq_be hf
    refine tq_calV (M := mX10_needStart) (pc := 17) (S := []) tk_y_X2_sees tk_v_X2_sees tk_RX10_437 dX10_needStart_17 [.int v6] rfl (S0 := _) rfl eu9 rfl (Nat.le_of_ble_eq_true rfl) (d1 := d - 1) (b1 := 0) (s1 := 0) (bc' := bc) (bs' := bs) (Q1 := fun r h9 => r = .inl (some (.int v8)) ∧ w3 = h9) (by omega) (by omega) (by omega) (w_X2_sees (by omega) ev8 (fun _ _ q => q)) (fun E h9 q => nomatch (show (Sum.inr E : tq_R) = Sum.inl _ from q.1)) (fun r9 h9 q => ?_)
    obtain ⟨q1, rfl⟩ := q
    cases (show (Sum.inl r9 : tq_R) = Sum.inl (some (.int v8)) from q1)
    refine tq_if_ne (M := mX10_needStart) (pc := 20) (tgt := 34) dX10_needStart_20 (by decide) (fun cc => ?_) (fun cc => ?_)
    · have hf := tq_ifn hf cc
      refine tq_vret (M := mX10_needStart) (pc := 34) dX10_needStart_34 rfl ?_
      cases (Option.some.inj hf)
      exact hQ _ _ ⟨rfl, rfl⟩
    · have hf := tq_ifp hf cc
      have hb9 := hb _ _ (Option.some.inj hf).symm
      refine tq_throw (M := mX10_needStart) (pc := 23) (E := "java/lang/IndexOutOfBoundsException") (ik := 440) (ic := 444) (is := 477) (text := "a reader does not see the node") (by decide +kernel) (by decide +kernel) rfl rfl dX10_needStart_23 dX10_needStart_26 dX10_needStart_27 dX10_needStart_30 dX10_needStart_33 (by omega) (by omega) (by omega) ?_
      cases (Option.some.inj hf)
      exact hQ _ _ ⟨rfl, rfl⟩
abbrev mX10_found : tq_M := (RX10, cX10_found, 4, (some .int), false, [], none)
def f_X10_found (t : Nat) (a1 : Int32) (a2 : Int32) (h : tq_H) : Option ((String ⊕ Int32) × tq_H) :=
  (tq_gi h t 10 17).bind fun x1 =>
  (if x1 = 0 then
    (tq_gr h t 10 4).bind fun k2 =>
    some (k2, h)
  else
    (tq_is h t 10).bind fun _ =>
    (f_X10_refreshedReader t h).bind fun v3 =>
    some (v3.1, v3.2)).bind fun p5 =>
  (tq_is p5.2 t 10).bind fun _ =>
  tq_tb (f_X10_needPath t a1 p5.2) fun _ w8 =>
  (tq_is w8 t 10).bind fun _ =>
  tq_tb (f_X10_needStart t p5.1 a2 w8) fun _ w11 =>
  (tq_is w11 p5.1 2).bind fun _ =>
  (f_X2_prepare p5.1 a1 w11).bind fun v12 =>
  (tq_gr v12 t 10 0).bind fun k14 =>
  (tq_gr v12 k14 8 0).bind fun k15 =>
  (tq_is v12 k15 3).bind fun _ =>
  (f_X3_spotOf k15 a2 v12).bind fun v16 =>
  (tq_is v12 p5.1 2).bind fun _ =>
  (f_X2_foundFrom p5.1 a1 v16 v12).bind fun v18 =>
  (f_J13_bitCount_95d88 v18 v12).bind fun v20 =>
  some (.inr v20, v12)
set_option maxHeartbeats 4000000 in
set_option maxRecDepth 20000 in
theorem w_X10_found {l : Launch} {d : Nat} (hd9 : 8 ≤ d) {t : Nat} {a1 : Int32} {a2 : Int32} {bc bs : Nat} {h : tq_H} {o : (String ⊕ Int32) × tq_H} {Q : tq_R → tq_H → Prop} (hf : f_X10_found t a1 a2 h = some o) (hb : ∀ E g, o = (.inl E, g) → 1 ≤ bc ∧ 6 ≤ bs) (hQ : ∀ r h9, r = tq_enI o.1 ∧ o.2 = h9 → Q r h9) : tq_C l yX10_found cX10_found 4 (some .int) d (0 + bc) (0 + bs) [.ref t, .int a1, .int a2] h Q := by
  refine tq_body (y := yX10_found) false (by decide +kernel) (fun z => by cases z) (Nat.le_of_ble_eq_true rfl) ?_
  show tq_W l mX10_found d (0 + bc) (0 + bs) Q 0 [(0, .ref t), (1, .int a1), (2, .int a2)] [] h
  refine tq_more (bc := bc) (bs := bs) (by omega) (by omega) ?_
  refine tq_aload_n (M := mX10_found) (pc := 0) dX10_found_0 rfl ?_
  obtain ⟨x1, ex1, hf⟩ := tq_be hf
  refine tq_getI (M := mX10_found) (pc := 1) tk_c10 (by decide) dX10_found_1 tk_RX10_98 rfl ex1 ?_
  obtain ⟨p5, ep5, hf⟩ := tq_be hf
  have HJ4 : tq_W l mX10_found d bc bs Q 18 [(0, .ref t), (1, .int a1), (2, .int a2)] [.ref p5.1] p5.2 := by
    refine tq_astore_n (M := mX10_found) (pc := 18) rfl dX10_found_18 (L2 := [(3, .ref p5.1), (0, .ref t), (1, .int a1), (2, .int a2)]) (by decide) rfl ?_
    refine tq_aload_n (M := mX10_found) (pc := 19) dX10_found_19 rfl ?_
    refine tq_iload_n (M := mX10_found) (pc := 20) dX10_found_20 rfl ?_
    obtain ⟨⟨⟩, eu7, hf⟩ := tq_be hf
    obtain ⟨fsu7, eu7⟩ := tq_is_s eu7
    rcases tq_te hf with ⟨E1, g1, ev6, e9⟩ | ⟨v6, w8, ev6, hf⟩
    · have hb9 := hb _ _ e9
      refine tq_calV (M := mX10_found) (pc := 21) (S := []) tk_y_X10_needPath tk_v_X10_needPath tk_RX10_262 dX10_found_21 [.int a1] rfl (S0 := _) rfl eu7 rfl (Nat.le_of_ble_eq_true rfl) (d1 := d - 1) (b1 := 0 + bc) (s1 := 0 + bs) (bc' := 0) (bs' := 0) (Q1 := fun r h9 => r = tq_enV ((.inl E1, g1) : (String ⊕ Unit) × tq_H).1 ∧ ((.inl E1, g1) : (String ⊕ Unit) × tq_H).2 = h9) (by omega) (by omega) (by omega) (w_X10_needPath (bc := bc) (bs := bs) (by omega) ev6 (fun _ _ _ => hb9) (fun _ _ q => q)) (fun E h9 q => ?_) (fun r9 h9 q => nomatch (show (Sum.inl r9 : tq_R) = Sum.inr E1 from q.1))
      obtain ⟨q1, rfl⟩ := q
      cases (show (Sum.inr E : tq_R) = Sum.inr E1 from q1)
      subst e9
      exact tq_out rfl (hQ _ _ ⟨rfl, rfl⟩)
    · refine tq_calV (M := mX10_found) (pc := 21) (S := []) tk_y_X10_needPath tk_v_X10_needPath tk_RX10_262 dX10_found_21 [.int a1] rfl (S0 := _) rfl eu7 rfl (Nat.le_of_ble_eq_true rfl) (d1 := d - 1) (b1 := 0 + 0) (s1 := 0 + 0) (bc' := bc) (bs' := bs) (Q1 := fun r h9 => r = tq_enV ((.inr (), w8) : (String ⊕ Unit) × tq_H).1 ∧ ((.inr (), w8) : (String ⊕ Unit) × tq_H).2 = h9) (by omega) (by omega) (by omega) (w_X10_needPath (bc := 0) (bs := 0) (by omega) ev6 (fun E g z => by cases z) (fun _ _ q => q)) (fun E h9 q => nomatch (show (Sum.inr E : tq_R) = Sum.inl _ from q.1)) (fun r9 h9 q => ?_)
      obtain ⟨q1, rfl⟩ := q
      cases (show (Sum.inl r9 : tq_R) = Sum.inl (none) from q1)
      refine tq_aload_n (M := mX10_found) (pc := 24) dX10_found_24 rfl ?_
      refine tq_aload_n (M := mX10_found) (pc := 25) dX10_found_25 rfl ?_
      refine tq_iload_n (M := mX10_found) (pc := 26) dX10_found_26 rfl ?_
      obtain ⟨⟨⟩, eu10, hf⟩ := tq_be hf
      obtain ⟨fsu10, eu10⟩ := tq_is_s eu10
      rcases tq_te hf with ⟨E1, g1, ev9, e9⟩ | ⟨v9, w11, ev9, hf⟩
      · have hb9 := hb _ _ e9
        refine tq_calV (M := mX10_found) (pc := 27) (S := []) tk_y_X10_needStart tk_v_X10_needStart tk_RX10_298 dX10_found_27 [.ref p5.1, .int a2] rfl (S0 := _) rfl eu10 rfl (Nat.le_of_ble_eq_true rfl) (d1 := d - 1) (b1 := 0 + bc) (s1 := 0 + bs) (bc' := 0) (bs' := 0) (Q1 := fun r h9 => r = tq_enV ((.inl E1, g1) : (String ⊕ Unit) × tq_H).1 ∧ ((.inl E1, g1) : (String ⊕ Unit) × tq_H).2 = h9) (by omega) (by omega) (by omega) (w_X10_needStart (bc := bc) (bs := bs) (by omega) ev9 (fun _ _ _ => hb9) (fun _ _ q => q)) (fun E h9 q => ?_) (fun r9 h9 q => nomatch (show (Sum.inl r9 : tq_R) = Sum.inr E1 from q.1))
        obtain ⟨q1, rfl⟩ := q
        cases (show (Sum.inr E : tq_R) = Sum.inr E1 from q1)
        subst e9
        exact tq_out rfl (hQ _ _ ⟨rfl, rfl⟩)
      · refine tq_calV (M := mX10_found) (pc := 27) (S := []) tk_y_X10_needStart tk_v_X10_needStart tk_RX10_298 dX10_found_27 [.ref p5.1, .int a2] rfl (S0 := _) rfl eu10 rfl (Nat.le_of_ble_eq_true rfl) (d1 := d - 1) (b1 := 0 + 0) (s1 := 0 + 0) (bc' := bc) (bs' := bs) (Q1 := fun r h9 => r = tq_enV ((.inr (), w11) : (String ⊕ Unit) × tq_H).1 ∧ ((.inr (), w11) : (String ⊕ Unit) × tq_H).2 = h9) (by omega) (by omega) (by omega) (w_X10_needStart (bc := 0) (bs := 0) (by omega) ev9 (fun E g z => by cases z) (fun _ _ q => q)) (fun E h9 q => nomatch (show (Sum.inr E : tq_R) = Sum.inl _ from q.1)) (fun r9 h9 q => ?_)
        obtain ⟨q1, rfl⟩ := q
        cases (show (Sum.inl r9 : tq_R) = Sum.inl (none) from q1)
        refine tq_aload_n (M := mX10_found) (pc := 30) dX10_found_30 rfl ?_
        refine tq_iload_n (M := mX10_found) (pc := 31) dX10_found_31 rfl ?_
        obtain ⟨⟨⟩, eu13, hf⟩ := tq_be hf
        obtain ⟨fsu13, eu13⟩ := tq_is_s eu13
        obtain ⟨v12, ev12, hf⟩ := tq_be hf
        refine tq_calV (M := mX10_found) (pc := 32) (S := []) tk_y_X2_prepare tk_v_X2_prepare tk_RX10_302 dX10_found_32 [.int a1] rfl (S0 := _) rfl eu13 rfl (Nat.le_of_ble_eq_true rfl) (d1 := d - 1) (b1 := 0) (s1 := 0) (bc' := bc) (bs' := bs) (Q1 := fun r h9 => r = .inl none ∧ v12 = h9) (by omega) (by omega) (by omega) (w_X2_prepare (by omega) ev12 (fun _ _ q => q)) (fun E h9 q => nomatch (show (Sum.inr E : tq_R) = Sum.inl _ from q.1)) (fun r9 h9 q => ?_)
        obtain ⟨q1, rfl⟩ := q
        cases (show (Sum.inl r9 : tq_R) = Sum.inl (none) from q1)
        refine tq_aload_n (M := mX10_found) (pc := 35) dX10_found_35 rfl ?_
        refine tq_iload_n (M := mX10_found) (pc := 36) dX10_found_36 rfl ?_
        refine tq_aload_n (M := mX10_found) (pc := 37) dX10_found_37 rfl ?_
        obtain ⟨k14, ek14, hf⟩ := tq_be hf
        refine tq_getR (M := mX10_found) (pc := 38) tk_c10 (by decide) dX10_found_38 tk_RX10_12 rfl ek14 ?_
        obtain ⟨k15, ek15, hf⟩ := tq_be hf
        refine tq_getR (M := mX10_found) (pc := 41) tk_c8 (by decide) dX10_found_41 tk_RX10_115 rfl ek15 ?_
        refine tq_iload_n (M := mX10_found) (pc := 44) dX10_found_44 rfl ?_
        obtain ⟨⟨⟩, eu17, hf⟩ := tq_be hf
        obtain ⟨fsu17, eu17⟩ := tq_is_s eu17
        obtain ⟨v16, ev16, hf⟩ := tq_be hf
        refine tq_calV (M := mX10_found) (pc := 45) (S := [.int a1, .ref p5.1]) tk_y_X3_spotOf tk_v_X3_spotOf tk_RX10_229 dX10_found_45 [.int a2] rfl (S0 := _) rfl eu17 rfl (Nat.le_of_ble_eq_true rfl) (d1 := d - 1) (b1 := 0) (s1 := 0) (bc' := bc) (bs' := bs) (Q1 := fun r h9 => r = .inl (some (.int v16)) ∧ v12 = h9) (by omega) (by omega) (by omega) (w_X3_spotOf (by omega) ev16 (fun _ _ q => q)) (fun E h9 q => nomatch (show (Sum.inr E : tq_R) = Sum.inl _ from q.1)) (fun r9 h9 q => ?_)
        obtain ⟨q1, rfl⟩ := q
        cases (show (Sum.inl r9 : tq_R) = Sum.inl (some (.int v16)) from q1)
        obtain ⟨⟨⟩, eu19, hf⟩ := tq_be hf
        obtain ⟨fsu19, eu19⟩ := tq_is_s eu19
        obtain ⟨v18, ev18, hf⟩ := tq_be hf
        refine tq_calV (M := mX10_found) (pc := 48) (S := []) tk_y_X2_foundFrom tk_v_X2_foundFrom tk_RX10_305 dX10_found_48 [.int a1, .int v16] rfl (S0 := _) rfl eu19 rfl (Nat.le_of_ble_eq_true rfl) (d1 := d - 1) (b1 := 0) (s1 := 0) (bc' := bc) (bs' := bs) (Q1 := fun r h9 => r = .inl (some (.long v18)) ∧ v12 = h9) (by omega) (by omega) (by omega) (w_X2_foundFrom (by omega) ev18 (fun _ _ q => q)) (fun E h9 q => nomatch (show (Sum.inr E : tq_R) = Sum.inl _ from q.1)) (fun r9 h9 q => ?_)
        obtain ⟨q1, rfl⟩ := q
        cases (show (Sum.inl r9 : tq_R) = Sum.inl (some (.long v18)) from q1)
        obtain ⟨v20, ev20, hf⟩ := tq_be hf
        refine tq_calS (M := mX10_found) (pc := 51) (S := []) tk_y_J13_bitCount_95d88 tk_s_J13_bitCount_95d88 tk_RX10_309 dX10_found_51 [.long v18] rfl (Nat.le_of_ble_eq_true rfl) (d1 := d - 1) (b1 := 0) (s1 := 0) (bc' := bc) (bs' := bs) (Q1 := fun r h9 => r = .inl (some (.int v20)) ∧ v12 = h9) (by omega) (by omega) (by omega) (w_J13_bitCount_95d88 (by omega) ev20 (fun _ _ q => q)) (fun E h9 q => nomatch (show (Sum.inr E : tq_R) = Sum.inl _ from q.1)) (fun r9 h9 q => ?_)
        obtain ⟨q1, rfl⟩ := q
        cases (show (Sum.inl r9 : tq_R) = Sum.inl (some (.int v20)) from q1)
        refine tq_iret (M := mX10_found) (pc := 54) dX10_found_54 rfl ?_
        cases (Option.some.inj hf)
        exact hQ _ _ ⟨rfl, rfl⟩
  refine tq_if_eq (M := mX10_found) (pc := 4) (tgt := 14) dX10_found_4 (by decide) (fun cc => ?_) (fun cc => ?_)
  · have hf := tq_ifp ep5 cc
    refine tq_aload_n (M := mX10_found) (pc := 14) dX10_found_14 rfl ?_
    obtain ⟨k2, ek2, hf⟩ := tq_be hf
    refine tq_getR (M := mX10_found) (pc := 15) tk_c10 (by decide) dX10_found_15 tk_RX10_38 rfl ek2 ?_
    cases (Option.some.inj hf)
    exact HJ4
  · have hf := tq_ifn ep5 cc
    refine tq_aload_n (M := mX10_found) (pc := 7) dX10_found_7 rfl ?_
    obtain ⟨⟨⟩, eu4, hf⟩ := tq_be hf
    obtain ⟨fsu4, eu4⟩ := tq_is_s eu4
    obtain ⟨v3, ev3, hf⟩ := tq_be hf
    refine tq_calV (M := mX10_found) (pc := 8) (S := []) tk_y_X10_refreshedReader tk_v_X10_refreshedReader tk_RX10_294 dX10_found_8 [] rfl (S0 := _) rfl eu4 rfl (Nat.le_of_ble_eq_true rfl) (d1 := d - 1) (b1 := 0) (s1 := 0) (bc' := bc) (bs' := bs) (Q1 := fun r h9 => r = .inl (some (.ref v3.1)) ∧ v3.2 = h9) (by omega) (by omega) (by omega) (w_X10_refreshedReader (by omega) ev3 (fun _ _ q => q)) (fun E h9 q => nomatch (show (Sum.inr E : tq_R) = Sum.inl _ from q.1)) (fun r9 h9 q => ?_)
    obtain ⟨q1, rfl⟩ := q
    cases (show (Sum.inl r9 : tq_R) = Sum.inl (some (.ref v3.1)) from q1)
    refine tq_goto (M := mX10_found) (pc := 11) (tgt := 18) dX10_found_11 (by decide) ?_
    cases (Option.some.inj hf)
    exact HJ4
abbrev mX10_foundAnew : tq_M := (RX10, cX10_foundAnew, 8, (some .int), false, [], none)
def f_X10_foundAnew_b59 (i0 : Nat) (i4 : Int64) (hh : tq_H) (s : Int32 × Int32) : Option ((Int32 × Int32) ⊕ (Int32)) := match s with
  | (y6, y7) =>
    (tq_gr hh i0 10 0).bind fun k20 =>
    (tq_gr hh k20 8 0).bind fun k21 =>
    (tq_is hh k21 3).bind fun _ =>
    (f_X3_count k21 hh).bind fun v22 =>
    if y7 ≥ v22 then
      some (.inr y6)
    else
      (f_X0_holds i4 y7 hh).bind fun v24 =>
      (if v24 = 0 then
        some y6
      else
        tq_let (y6 + (1 : Int32)) fun x25 =>
        some x25).bind fun p26 =>
      tq_let (y7 + (1 : Int32)) fun x27 =>
      some (.inl (p26, x27))
def f_X10_foundAnew (t : Nat) (a1 : Int32) (a2 : Int32) (h : tq_H) : Option ((String ⊕ Int32) × tq_H) :=
  (tq_gi h t 10 17).bind fun x1 =>
  (if x1 = 0 then
    (tq_gr h t 10 4).bind fun k2 =>
    some (k2, h)
  else
    (tq_is h t 10).bind fun _ =>
    (f_X10_refreshedReader t h).bind fun v3 =>
    some (v3.1, v3.2)).bind fun p5 =>
  (tq_is p5.2 t 10).bind fun _ =>
  tq_tb (f_X10_needPath t a1 p5.2) fun _ w8 =>
  (tq_is w8 t 10).bind fun _ =>
  tq_tb (f_X10_needStart t p5.1 a2 w8) fun _ w11 =>
  (tq_is w11 p5.1 2).bind fun _ =>
  (f_X2_prepare p5.1 a1 w11).bind fun v12 =>
  (tq_gr v12 t 10 0).bind fun k14 =>
  (tq_gr v12 k14 8 0).bind fun k15 =>
  (tq_is v12 k15 3).bind fun _ =>
  (f_X3_spotOf k15 a2 v12).bind fun v16 =>
  (tq_is v12 p5.1 2).bind fun _ =>
  (f_X2_foundFrom p5.1 a1 v16 v12).bind fun v18 =>
  (tq_loop (f_X10_foundAnew_b59 t v18 v12) tq_N ((0 : Int32), (0 : Int32))).bind fun o28 =>
  some (.inr o28, v12)
set_option maxHeartbeats 4000000 in
theorem l_X10_foundAnew_59 {l : Launch} {d : Nat} {Q : tq_R → tq_H → Prop} {bc bs : Nat} (hd9 : 8 ≤ d) (i0 : Nat) (i4 : Int64) (hh : tq_H) : ∀ (n : Nat) (y6 : Int32) (y7 : Int32) (o : Int32), tq_loop (f_X10_foundAnew_b59 i0 i4 hh) n (y6, y7) = some o → tq_W l mX10_foundAnew d bc bs Q 93 [(6, .int o)] [] hh → tq_W l mX10_foundAnew d bc bs Q 59 [(0, .ref i0), (4, .long i4), (6, .int y6), (7, .int y7)] [] hh := by
  intro n
  induction n with
  | zero => intro y6 y7 o hl; cases hl
  | succ n ih =>
    intro y6 y7 o hl hk
    obtain ⟨oo, hf, ho⟩ := tq_loop_s hl
    refine tq_iload (M := mX10_foundAnew) (pc := 59) dX10_foundAnew_59 rfl ?_
    refine tq_aload_n (M := mX10_foundAnew) (pc := 61) dX10_foundAnew_61 rfl ?_
    obtain ⟨k20, ek20, hf⟩ := tq_be hf
    refine tq_getR (M := mX10_foundAnew) (pc := 62) tk_c10 (by decide) dX10_foundAnew_62 tk_RX10_12 rfl ek20 ?_
    obtain ⟨k21, ek21, hf⟩ := tq_be hf
    refine tq_getR (M := mX10_foundAnew) (pc := 65) tk_c8 (by decide) dX10_foundAnew_65 tk_RX10_115 rfl ek21 ?_
    obtain ⟨⟨⟩, eu23, hf⟩ := tq_be hf
    obtain ⟨fsu23, eu23⟩ := tq_is_s eu23
    obtain ⟨v22, ev22, hf⟩ := tq_be hf
    refine tq_calV (M := mX10_foundAnew) (pc := 68) (S := [.int y7]) tk_y_X3_count tk_v_X3_count tk_RX10_216 dX10_foundAnew_68 [] rfl (S0 := _) rfl eu23 rfl (Nat.le_of_ble_eq_true rfl) (d1 := d - 1) (b1 := 0) (s1 := 0) (bc' := bc) (bs' := bs) (Q1 := fun r h9 => r = .inl (some (.int v22)) ∧ hh = h9) (by omega) (by omega) (by omega) (w_X3_count (by omega) ev22 (fun _ _ q => q)) (fun E h9 q => nomatch (show (Sum.inr E : tq_R) = Sum.inl _ from q.1)) (fun r9 h9 q => ?_)
    obtain ⟨q1, rfl⟩ := q
    cases (show (Sum.inl r9 : tq_R) = Sum.inl (some (.int v22)) from q1)
    refine tq_icmp_ge (M := mX10_foundAnew) (pc := 71) (tgt := 93) dX10_foundAnew_71 (by decide) (fun cc => ?_) (fun cc => ?_)
    · have hf := tq_ifp hf cc
      refine tq_pick (L2 := [(6, .int y6)]) [2] rfl ?_
      cases (Option.some.inj hf)
      cases (tq_lx ho)
      exact hk
    · have hf := tq_ifn hf cc
      refine tq_lload (M := mX10_foundAnew) (pc := 74) dX10_foundAnew_74 rfl ?_
      refine tq_iload (M := mX10_foundAnew) (pc := 76) dX10_foundAnew_76 rfl ?_
      obtain ⟨v24, ev24, hf⟩ := tq_be hf
      refine tq_calS (M := mX10_foundAnew) (pc := 78) (S := []) tk_y_X0_holds tk_s_X0_holds tk_RX10_315 dX10_foundAnew_78 [.long i4, .int y7] rfl (Nat.le_of_ble_eq_true rfl) (d1 := d - 1) (b1 := 0) (s1 := 0) (bc' := bc) (bs' := bs) (Q1 := fun r h9 => r = .inl (some (.int v24)) ∧ hh = h9) (by omega) (by omega) (by omega) (w_X0_holds (by omega) ev24 (fun _ _ q => q)) (fun E h9 q => nomatch (show (Sum.inr E : tq_R) = Sum.inl _ from q.1)) (fun r9 h9 q => ?_)
      obtain ⟨q1, rfl⟩ := q
      cases (show (Sum.inl r9 : tq_R) = Sum.inl (some (.int v24)) from q1)
      obtain ⟨p26, ep26, hf⟩ := tq_be hf
      have HJ81 : tq_W l mX10_foundAnew d bc bs Q 87 [(0, .ref i0), (4, .long i4), (6, .int p26), (7, .int y7)] [] hh := by
        obtain ⟨x27, ex27, hf⟩ := tq_le hf
        refine tq_iinc (M := mX10_foundAnew) (pc := 87) (v := x27) (L2 := [(7, .int x27), (0, .ref i0), (4, .long i4), (6, .int p26)]) dX10_foundAnew_87 rfl (by rw [ex27, tk_ki_1]) (by decide) rfl ?_
        refine tq_goto (M := mX10_foundAnew) (pc := 90) (tgt := 59) dX10_foundAnew_90 (by decide) ?_
        refine tq_pick (L2 := [(0, .ref i0), (4, .long i4), (6, .int p26), (7, .int x27)]) [1, 2, 3, 0] rfl ?_
        cases (Option.some.inj hf)
        exact ih _ _ o (tq_lc ho) hk
      refine tq_if_eq (M := mX10_foundAnew) (pc := 81) (tgt := 87) dX10_foundAnew_81 (by decide) (fun cc => ?_) (fun cc => ?_)
      · have hf := tq_ifp ep26 cc
        cases (Option.some.inj hf)
        exact HJ81
      · have hf := tq_ifn ep26 cc
        obtain ⟨x25, ex25, hf⟩ := tq_le hf
        refine tq_iinc (M := mX10_foundAnew) (pc := 84) (v := x25) (L2 := [(6, .int x25), (0, .ref i0), (4, .long i4), (7, .int y7)]) dX10_foundAnew_84 rfl (by rw [ex25, tk_ki_1]) (by decide) rfl ?_
        refine tq_pick (L2 := [(0, .ref i0), (4, .long i4), (6, .int x25), (7, .int y7)]) [1, 2, 0, 3] rfl ?_
        cases (Option.some.inj hf)
        exact HJ81
set_option maxHeartbeats 4000000 in
set_option maxRecDepth 20000 in
theorem w_X10_foundAnew {l : Launch} {d : Nat} (hd9 : 8 ≤ d) {t : Nat} {a1 : Int32} {a2 : Int32} {bc bs : Nat} {h : tq_H} {o : (String ⊕ Int32) × tq_H} {Q : tq_R → tq_H → Prop} (hf : f_X10_foundAnew t a1 a2 h = some o) (hb : ∀ E g, o = (.inl E, g) → 1 ≤ bc ∧ 6 ≤ bs) (hQ : ∀ r h9, r = tq_enI o.1 ∧ o.2 = h9 → Q r h9) : tq_C l yX10_foundAnew cX10_foundAnew 8 (some .int) d (0 + bc) (0 + bs) [.ref t, .int a1, .int a2] h Q := by
  refine tq_body (y := yX10_foundAnew) false (by decide +kernel) (fun z => by cases z) (Nat.le_of_ble_eq_true rfl) ?_
  show tq_W l mX10_foundAnew d (0 + bc) (0 + bs) Q 0 [(0, .ref t), (1, .int a1), (2, .int a2)] [] h
  refine tq_more (bc := bc) (bs := bs) (by omega) (by omega) ?_
  refine tq_aload_n (M := mX10_foundAnew) (pc := 0) dX10_foundAnew_0 rfl ?_
  obtain ⟨x1, ex1, hf⟩ := tq_be hf
  refine tq_getI (M := mX10_foundAnew) (pc := 1) tk_c10 (by decide) dX10_foundAnew_1 tk_RX10_98 rfl ex1 ?_
  obtain ⟨p5, ep5, hf⟩ := tq_be hf
  have HJ4 : tq_W l mX10_foundAnew d bc bs Q 18 [(0, .ref t), (1, .int a1), (2, .int a2)] [.ref p5.1] p5.2 := by
    refine tq_astore_n (M := mX10_foundAnew) (pc := 18) rfl dX10_foundAnew_18 (L2 := [(3, .ref p5.1), (0, .ref t), (1, .int a1), (2, .int a2)]) (by decide) rfl ?_
    refine tq_aload_n (M := mX10_foundAnew) (pc := 19) dX10_foundAnew_19 rfl ?_
    refine tq_iload_n (M := mX10_foundAnew) (pc := 20) dX10_foundAnew_20 rfl ?_
    obtain ⟨⟨⟩, eu7, hf⟩ := tq_be hf
    obtain ⟨fsu7, eu7⟩ := tq_is_s eu7
    rcases tq_te hf with ⟨E1, g1, ev6, e9⟩ | ⟨v6, w8, ev6, hf⟩
    · have hb9 := hb _ _ e9
      refine tq_calV (M := mX10_foundAnew) (pc := 21) (S := []) tk_y_X10_needPath tk_v_X10_needPath tk_RX10_262 dX10_foundAnew_21 [.int a1] rfl (S0 := _) rfl eu7 rfl (Nat.le_of_ble_eq_true rfl) (d1 := d - 1) (b1 := 0 + bc) (s1 := 0 + bs) (bc' := 0) (bs' := 0) (Q1 := fun r h9 => r = tq_enV ((.inl E1, g1) : (String ⊕ Unit) × tq_H).1 ∧ ((.inl E1, g1) : (String ⊕ Unit) × tq_H).2 = h9) (by omega) (by omega) (by omega) (w_X10_needPath (bc := bc) (bs := bs) (by omega) ev6 (fun _ _ _ => hb9) (fun _ _ q => q)) (fun E h9 q => ?_) (fun r9 h9 q => nomatch (show (Sum.inl r9 : tq_R) = Sum.inr E1 from q.1))
      obtain ⟨q1, rfl⟩ := q
      cases (show (Sum.inr E : tq_R) = Sum.inr E1 from q1)
      subst e9
      exact tq_out rfl (hQ _ _ ⟨rfl, rfl⟩)
    · refine tq_calV (M := mX10_foundAnew) (pc := 21) (S := []) tk_y_X10_needPath tk_v_X10_needPath tk_RX10_262 dX10_foundAnew_21 [.int a1] rfl (S0 := _) rfl eu7 rfl (Nat.le_of_ble_eq_true rfl) (d1 := d - 1) (b1 := 0 + 0) (s1 := 0 + 0) (bc' := bc) (bs' := bs) (Q1 := fun r h9 => r = tq_enV ((.inr (), w8) : (String ⊕ Unit) × tq_H).1 ∧ ((.inr (), w8) : (String ⊕ Unit) × tq_H).2 = h9) (by omega) (by omega) (by omega) (w_X10_needPath (bc := 0) (bs := 0) (by omega) ev6 (fun E g z => by cases z) (fun _ _ q => q)) (fun E h9 q => nomatch (show (Sum.inr E : tq_R) = Sum.inl _ from q.1)) (fun r9 h9 q => ?_)
      obtain ⟨q1, rfl⟩ := q
      cases (show (Sum.inl r9 : tq_R) = Sum.inl (none) from q1)
      refine tq_aload_n (M := mX10_foundAnew) (pc := 24) dX10_foundAnew_24 rfl ?_
      refine tq_aload_n (M := mX10_foundAnew) (pc := 25) dX10_foundAnew_25 rfl ?_
      refine tq_iload_n (M := mX10_foundAnew) (pc := 26) dX10_foundAnew_26 rfl ?_
      obtain ⟨⟨⟩, eu10, hf⟩ := tq_be hf
      obtain ⟨fsu10, eu10⟩ := tq_is_s eu10
      rcases tq_te hf with ⟨E1, g1, ev9, e9⟩ | ⟨v9, w11, ev9, hf⟩
      · have hb9 := hb _ _ e9
        refine tq_calV (M := mX10_foundAnew) (pc := 27) (S := []) tk_y_X10_needStart tk_v_X10_needStart tk_RX10_298 dX10_foundAnew_27 [.ref p5.1, .int a2] rfl (S0 := _) rfl eu10 rfl (Nat.le_of_ble_eq_true rfl) (d1 := d - 1) (b1 := 0 + bc) (s1 := 0 + bs) (bc' := 0) (bs' := 0) (Q1 := fun r h9 => r = tq_enV ((.inl E1, g1) : (String ⊕ Unit) × tq_H).1 ∧ ((.inl E1, g1) : (String ⊕ Unit) × tq_H).2 = h9) (by omega) (by omega) (by omega) (w_X10_needStart (bc := bc) (bs := bs) (by omega) ev9 (fun _ _ _ => hb9) (fun _ _ q => q)) (fun E h9 q => ?_) (fun r9 h9 q => nomatch (show (Sum.inl r9 : tq_R) = Sum.inr E1 from q.1))
        obtain ⟨q1, rfl⟩ := q
        cases (show (Sum.inr E : tq_R) = Sum.inr E1 from q1)
        subst e9
        exact tq_out rfl (hQ _ _ ⟨rfl, rfl⟩)
      · refine tq_calV (M := mX10_foundAnew) (pc := 27) (S := []) tk_y_X10_needStart tk_v_X10_needStart tk_RX10_298 dX10_foundAnew_27 [.ref p5.1, .int a2] rfl (S0 := _) rfl eu10 rfl (Nat.le_of_ble_eq_true rfl) (d1 := d - 1) (b1 := 0 + 0) (s1 := 0 + 0) (bc' := bc) (bs' := bs) (Q1 := fun r h9 => r = tq_enV ((.inr (), w11) : (String ⊕ Unit) × tq_H).1 ∧ ((.inr (), w11) : (String ⊕ Unit) × tq_H).2 = h9) (by omega) (by omega) (by omega) (w_X10_needStart (bc := 0) (bs := 0) (by omega) ev9 (fun E g z => by cases z) (fun _ _ q => q)) (fun E h9 q => nomatch (show (Sum.inr E : tq_R) = Sum.inl _ from q.1)) (fun r9 h9 q => ?_)
        obtain ⟨q1, rfl⟩ := q
        cases (show (Sum.inl r9 : tq_R) = Sum.inl (none) from q1)
        refine tq_aload_n (M := mX10_foundAnew) (pc := 30) dX10_foundAnew_30 rfl ?_
        refine tq_iload_n (M := mX10_foundAnew) (pc := 31) dX10_foundAnew_31 rfl ?_
        obtain ⟨⟨⟩, eu13, hf⟩ := tq_be hf
        obtain ⟨fsu13, eu13⟩ := tq_is_s eu13
        obtain ⟨v12, ev12, hf⟩ := tq_be hf
        refine tq_calV (M := mX10_foundAnew) (pc := 32) (S := []) tk_y_X2_prepare tk_v_X2_prepare tk_RX10_302 dX10_foundAnew_32 [.int a1] rfl (S0 := _) rfl eu13 rfl (Nat.le_of_ble_eq_true rfl) (d1 := d - 1) (b1 := 0) (s1 := 0) (bc' := bc) (bs' := bs) (Q1 := fun r h9 => r = .inl none ∧ v12 = h9) (by omega) (by omega) (by omega) (w_X2_prepare (by omega) ev12 (fun _ _ q => q)) (fun E h9 q => nomatch (show (Sum.inr E : tq_R) = Sum.inl _ from q.1)) (fun r9 h9 q => ?_)
        obtain ⟨q1, rfl⟩ := q
        cases (show (Sum.inl r9 : tq_R) = Sum.inl (none) from q1)
        refine tq_aload_n (M := mX10_foundAnew) (pc := 35) dX10_foundAnew_35 rfl ?_
        refine tq_iload_n (M := mX10_foundAnew) (pc := 36) dX10_foundAnew_36 rfl ?_
        refine tq_aload_n (M := mX10_foundAnew) (pc := 37) dX10_foundAnew_37 rfl ?_
        obtain ⟨k14, ek14, hf⟩ := tq_be hf
        refine tq_getR (M := mX10_foundAnew) (pc := 38) tk_c10 (by decide) dX10_foundAnew_38 tk_RX10_12 rfl ek14 ?_
        obtain ⟨k15, ek15, hf⟩ := tq_be hf
        refine tq_getR (M := mX10_foundAnew) (pc := 41) tk_c8 (by decide) dX10_foundAnew_41 tk_RX10_115 rfl ek15 ?_
        refine tq_iload_n (M := mX10_foundAnew) (pc := 44) dX10_foundAnew_44 rfl ?_
        obtain ⟨⟨⟩, eu17, hf⟩ := tq_be hf
        obtain ⟨fsu17, eu17⟩ := tq_is_s eu17
        obtain ⟨v16, ev16, hf⟩ := tq_be hf
        refine tq_calV (M := mX10_foundAnew) (pc := 45) (S := [.int a1, .ref p5.1]) tk_y_X3_spotOf tk_v_X3_spotOf tk_RX10_229 dX10_foundAnew_45 [.int a2] rfl (S0 := _) rfl eu17 rfl (Nat.le_of_ble_eq_true rfl) (d1 := d - 1) (b1 := 0) (s1 := 0) (bc' := bc) (bs' := bs) (Q1 := fun r h9 => r = .inl (some (.int v16)) ∧ v12 = h9) (by omega) (by omega) (by omega) (w_X3_spotOf (by omega) ev16 (fun _ _ q => q)) (fun E h9 q => nomatch (show (Sum.inr E : tq_R) = Sum.inl _ from q.1)) (fun r9 h9 q => ?_)
        obtain ⟨q1, rfl⟩ := q
        cases (show (Sum.inl r9 : tq_R) = Sum.inl (some (.int v16)) from q1)
        obtain ⟨⟨⟩, eu19, hf⟩ := tq_be hf
        obtain ⟨fsu19, eu19⟩ := tq_is_s eu19
        obtain ⟨v18, ev18, hf⟩ := tq_be hf
        refine tq_calV (M := mX10_foundAnew) (pc := 48) (S := []) tk_y_X2_foundFrom tk_v_X2_foundFrom tk_RX10_305 dX10_foundAnew_48 [.int a1, .int v16] rfl (S0 := _) rfl eu19 rfl (Nat.le_of_ble_eq_true rfl) (d1 := d - 1) (b1 := 0) (s1 := 0) (bc' := bc) (bs' := bs) (Q1 := fun r h9 => r = .inl (some (.long v18)) ∧ v12 = h9) (by omega) (by omega) (by omega) (w_X2_foundFrom (by omega) ev18 (fun _ _ q => q)) (fun E h9 q => nomatch (show (Sum.inr E : tq_R) = Sum.inl _ from q.1)) (fun r9 h9 q => ?_)
        obtain ⟨q1, rfl⟩ := q
        cases (show (Sum.inl r9 : tq_R) = Sum.inl (some (.long v18)) from q1)
        refine tq_lstore (M := mX10_foundAnew) (pc := 51) dX10_foundAnew_51 (L2 := [(4, .long v18), (3, .ref p5.1), (0, .ref t), (1, .int a1), (2, .int a2)]) (by decide) rfl ?_
        refine tq_iconst (M := mX10_foundAnew) (pc := 53) dX10_foundAnew_53 tk_ki_0 ?_
        refine tq_istore (M := mX10_foundAnew) (pc := 54) dX10_foundAnew_54 (L2 := [(6, .int (0 : Int32)), (4, .long v18), (3, .ref p5.1), (0, .ref t), (1, .int a1), (2, .int a2)]) (by decide) rfl ?_
        refine tq_iconst (M := mX10_foundAnew) (pc := 56) dX10_foundAnew_56 tk_ki_0 ?_
        refine tq_istore (M := mX10_foundAnew) (pc := 57) dX10_foundAnew_57 (L2 := [(7, .int (0 : Int32)), (6, .int (0 : Int32)), (4, .long v18), (3, .ref p5.1), (0, .ref t), (1, .int a1), (2, .int a2)]) (by decide) rfl ?_
        obtain ⟨o28, eo28, hf⟩ := tq_be hf
        refine tq_pick (L2 := [(0, .ref t), (4, .long v18), (6, .int (0 : Int32)), (7, .int (0 : Int32))]) [4, 2, 1, 0] rfl ?_
        refine l_X10_foundAnew_59 (bc := bc) (bs := bs) (by omega) t v18 v12 _ (0 : Int32) (0 : Int32) _ eo28 ?_
        refine tq_iload (M := mX10_foundAnew) (pc := 93) dX10_foundAnew_93 rfl ?_
        refine tq_iret (M := mX10_foundAnew) (pc := 95) dX10_foundAnew_95 rfl ?_
        cases (Option.some.inj hf)
        exact hQ _ _ ⟨rfl, rfl⟩
  refine tq_if_eq (M := mX10_foundAnew) (pc := 4) (tgt := 14) dX10_foundAnew_4 (by decide) (fun cc => ?_) (fun cc => ?_)
  · have hf := tq_ifp ep5 cc
    refine tq_aload_n (M := mX10_foundAnew) (pc := 14) dX10_foundAnew_14 rfl ?_
    obtain ⟨k2, ek2, hf⟩ := tq_be hf
    refine tq_getR (M := mX10_foundAnew) (pc := 15) tk_c10 (by decide) dX10_foundAnew_15 tk_RX10_38 rfl ek2 ?_
    cases (Option.some.inj hf)
    exact HJ4
  · have hf := tq_ifn ep5 cc
    refine tq_aload_n (M := mX10_foundAnew) (pc := 7) dX10_foundAnew_7 rfl ?_
    obtain ⟨⟨⟩, eu4, hf⟩ := tq_be hf
    obtain ⟨fsu4, eu4⟩ := tq_is_s eu4
    obtain ⟨v3, ev3, hf⟩ := tq_be hf
    refine tq_calV (M := mX10_foundAnew) (pc := 8) (S := []) tk_y_X10_refreshedReader tk_v_X10_refreshedReader tk_RX10_294 dX10_foundAnew_8 [] rfl (S0 := _) rfl eu4 rfl (Nat.le_of_ble_eq_true rfl) (d1 := d - 1) (b1 := 0) (s1 := 0) (bc' := bc) (bs' := bs) (Q1 := fun r h9 => r = .inl (some (.ref v3.1)) ∧ v3.2 = h9) (by omega) (by omega) (by omega) (w_X10_refreshedReader (by omega) ev3 (fun _ _ q => q)) (fun E h9 q => nomatch (show (Sum.inr E : tq_R) = Sum.inl _ from q.1)) (fun r9 h9 q => ?_)
    obtain ⟨q1, rfl⟩ := q
    cases (show (Sum.inl r9 : tq_R) = Sum.inl (some (.ref v3.1)) from q1)
    refine tq_goto (M := mX10_foundAnew) (pc := 11) (tgt := 18) dX10_foundAnew_11 (by decide) ?_
    cases (Option.some.inj hf)
    exact HJ4
abbrev mX10_needPlaceOf : tq_M := (RX10, cX10_needPlaceOf, 4, none, false, [], none)
def f_X10_needPlaceOf (t : Nat) (a1 : Int64) (a3 : Int32) (h : tq_H) : Option ((String ⊕ Unit) × tq_H) :=
  if a3 < 0 then
    some (.inl "java/lang/IndexOutOfBoundsException", h)
  else
    (f_J13_bitCount_95d88 a1 h).bind fun v1 =>
    if a3 < v1 then
      some (.inr (), h)
    else
      some (.inl "java/lang/IndexOutOfBoundsException", h)
set_option maxHeartbeats 4000000 in
set_option maxRecDepth 20000 in
theorem w_X10_needPlaceOf {l : Launch} {d : Nat} (hd9 : 6 ≤ d) {t : Nat} {a1 : Int64} {a3 : Int32} {bc bs : Nat} {h : tq_H} {o : (String ⊕ Unit) × tq_H} {Q : tq_R → tq_H → Prop} (hf : f_X10_needPlaceOf t a1 a3 h = some o) (hb : ∀ E g, o = (.inl E, g) → 1 ≤ bc ∧ 6 ≤ bs) (hQ : ∀ r h9, r = tq_enV o.1 ∧ o.2 = h9 → Q r h9) : tq_C l yX10_needPlaceOf cX10_needPlaceOf 4 none d (0 + bc) (0 + bs) [.ref t, .long a1, .int a3] h Q := by
  refine tq_body (y := yX10_needPlaceOf) false (by decide +kernel) (fun z => by cases z) (Nat.le_of_ble_eq_true rfl) ?_
  show tq_W l mX10_needPlaceOf d (0 + bc) (0 + bs) Q 0 [(0, .ref t), (1, .long a1), (3, .int a3)] [] h
  refine tq_more (bc := bc) (bs := bs) (by omega) (by omega) ?_
  refine tq_iload_n (M := mX10_needPlaceOf) (pc := 0) dX10_needPlaceOf_0 rfl ?_
  refine tq_if_lt (M := mX10_needPlaceOf) (pc := 1) (tgt := 12) dX10_needPlaceOf_1 (by decide) (fun cc => ?_) (fun cc => ?_)
  · have hf := tq_ifp hf cc
    have hb9 := hb _ _ (Option.some.inj hf).symm
    refine tq_throw (M := mX10_needPlaceOf) (pc := 12) (E := "java/lang/IndexOutOfBoundsException") (ik := 440) (ic := 444) (is := 450) (text := "the path finds not so many") (by decide +kernel) (by decide +kernel) rfl rfl dX10_needPlaceOf_12 dX10_needPlaceOf_15 dX10_needPlaceOf_16 dX10_needPlaceOf_19 dX10_needPlaceOf_22 (by omega) (by omega) (by omega) ?_
    cases (Option.some.inj hf)
    exact hQ _ _ ⟨rfl, rfl⟩
  · have hf := tq_ifn hf cc
    refine tq_iload_n (M := mX10_needPlaceOf) (pc := 4) dX10_needPlaceOf_4 rfl ?_
    refine tq_lload_n (M := mX10_needPlaceOf) (pc := 5) dX10_needPlaceOf_5 rfl ?_
    obtain ⟨v1, ev1, hf⟩ := tq_be hf
    refine tq_calS (M := mX10_needPlaceOf) (pc := 6) (S := [.int a3]) tk_y_J13_bitCount_95d88 tk_s_J13_bitCount_95d88 tk_RX10_309 dX10_needPlaceOf_6 [.long a1] rfl (Nat.le_of_ble_eq_true rfl) (d1 := d - 1) (b1 := 0) (s1 := 0) (bc' := bc) (bs' := bs) (Q1 := fun r h9 => r = .inl (some (.int v1)) ∧ h = h9) (by omega) (by omega) (by omega) (w_J13_bitCount_95d88 (by omega) ev1 (fun _ _ q => q)) (fun E h9 q => nomatch (show (Sum.inr E : tq_R) = Sum.inl _ from q.1)) (fun r9 h9 q => ?_)
    obtain ⟨q1, rfl⟩ := q
    cases (show (Sum.inl r9 : tq_R) = Sum.inl (some (.int v1)) from q1)
    refine tq_icmp_lt (M := mX10_needPlaceOf) (pc := 9) (tgt := 23) dX10_needPlaceOf_9 (by decide) (fun cc => ?_) (fun cc => ?_)
    · have hf := tq_ifp hf cc
      refine tq_vret (M := mX10_needPlaceOf) (pc := 23) dX10_needPlaceOf_23 rfl ?_
      cases (Option.some.inj hf)
      exact hQ _ _ ⟨rfl, rfl⟩
    · have hf := tq_ifn hf cc
      have hb9 := hb _ _ (Option.some.inj hf).symm
      refine tq_throw (M := mX10_needPlaceOf) (pc := 12) (E := "java/lang/IndexOutOfBoundsException") (ik := 440) (ic := 444) (is := 450) (text := "the path finds not so many") (by decide +kernel) (by decide +kernel) rfl rfl dX10_needPlaceOf_12 dX10_needPlaceOf_15 dX10_needPlaceOf_16 dX10_needPlaceOf_19 dX10_needPlaceOf_22 (by omega) (by omega) (by omega) ?_
      cases (Option.some.inj hf)
      exact hQ _ _ ⟨rfl, rfl⟩
abbrev mX10_foundAt : tq_M := (RX10, cX10_foundAt, 6, (some .int), false, [], none)
def f_X10_foundAt (t : Nat) (a1 : Int32) (a2 : Int32) (h : tq_H) : Option ((String ⊕ Int32) × tq_H) :=
  (tq_gi h t 10 17).bind fun x1 =>
  (if x1 = 0 then
    (tq_gr h t 10 4).bind fun k2 =>
    some (k2, h)
  else
    (tq_is h t 10).bind fun _ =>
    (f_X10_refreshedReader t h).bind fun v3 =>
    some (v3.1, v3.2)).bind fun p5 =>
  (tq_is p5.2 t 10).bind fun _ =>
  tq_tb (f_X10_needPath t a1 p5.2) fun _ w8 =>
  (tq_is w8 p5.1 2).bind fun _ =>
  (f_X2_prepare p5.1 a1 w8).bind fun v9 =>
  (tq_is v9 p5.1 2).bind fun _ =>
  (f_X2_foundFrom p5.1 a1 (0 : Int32) v9).bind fun v11 =>
  (tq_is v9 t 10).bind fun _ =>
  tq_tb (f_X10_needPlaceOf t v11 a2 v9) fun _ w15 =>
  (tq_gr w15 t 10 0).bind fun k16 =>
  (tq_gr w15 k16 8 0).bind fun k17 =>
  (tq_is w15 k17 3).bind fun _ =>
  (f_X3_nodeOfSet k17 v11 a2 w15).bind fun v18 =>
  some (.inr v18, w15)
set_option maxHeartbeats 4000000 in
set_option maxRecDepth 20000 in
theorem w_X10_foundAt {l : Launch} {d : Nat} (hd9 : 7 ≤ d) {t : Nat} {a1 : Int32} {a2 : Int32} {bc bs : Nat} {h : tq_H} {o : (String ⊕ Int32) × tq_H} {Q : tq_R → tq_H → Prop} (hf : f_X10_foundAt t a1 a2 h = some o) (hb : ∀ E g, o = (.inl E, g) → 1 ≤ bc ∧ 6 ≤ bs) (hQ : ∀ r h9, r = tq_enI o.1 ∧ o.2 = h9 → Q r h9) : tq_C l yX10_foundAt cX10_foundAt 6 (some .int) d (0 + bc) (0 + bs) [.ref t, .int a1, .int a2] h Q := by
  refine tq_body (y := yX10_foundAt) false (by decide +kernel) (fun z => by cases z) (Nat.le_of_ble_eq_true rfl) ?_
  show tq_W l mX10_foundAt d (0 + bc) (0 + bs) Q 0 [(0, .ref t), (1, .int a1), (2, .int a2)] [] h
  refine tq_more (bc := bc) (bs := bs) (by omega) (by omega) ?_
  refine tq_aload_n (M := mX10_foundAt) (pc := 0) dX10_foundAt_0 rfl ?_
  obtain ⟨x1, ex1, hf⟩ := tq_be hf
  refine tq_getI (M := mX10_foundAt) (pc := 1) tk_c10 (by decide) dX10_foundAt_1 tk_RX10_98 rfl ex1 ?_
  obtain ⟨p5, ep5, hf⟩ := tq_be hf
  have HJ4 : tq_W l mX10_foundAt d bc bs Q 18 [(0, .ref t), (1, .int a1), (2, .int a2)] [.ref p5.1] p5.2 := by
    refine tq_astore_n (M := mX10_foundAt) (pc := 18) rfl dX10_foundAt_18 (L2 := [(3, .ref p5.1), (0, .ref t), (1, .int a1), (2, .int a2)]) (by decide) rfl ?_
    refine tq_aload_n (M := mX10_foundAt) (pc := 19) dX10_foundAt_19 rfl ?_
    refine tq_iload_n (M := mX10_foundAt) (pc := 20) dX10_foundAt_20 rfl ?_
    obtain ⟨⟨⟩, eu7, hf⟩ := tq_be hf
    obtain ⟨fsu7, eu7⟩ := tq_is_s eu7
    rcases tq_te hf with ⟨E1, g1, ev6, e9⟩ | ⟨v6, w8, ev6, hf⟩
    · have hb9 := hb _ _ e9
      refine tq_calV (M := mX10_foundAt) (pc := 21) (S := []) tk_y_X10_needPath tk_v_X10_needPath tk_RX10_262 dX10_foundAt_21 [.int a1] rfl (S0 := _) rfl eu7 rfl (Nat.le_of_ble_eq_true rfl) (d1 := d - 1) (b1 := 0 + bc) (s1 := 0 + bs) (bc' := 0) (bs' := 0) (Q1 := fun r h9 => r = tq_enV ((.inl E1, g1) : (String ⊕ Unit) × tq_H).1 ∧ ((.inl E1, g1) : (String ⊕ Unit) × tq_H).2 = h9) (by omega) (by omega) (by omega) (w_X10_needPath (bc := bc) (bs := bs) (by omega) ev6 (fun _ _ _ => hb9) (fun _ _ q => q)) (fun E h9 q => ?_) (fun r9 h9 q => nomatch (show (Sum.inl r9 : tq_R) = Sum.inr E1 from q.1))
      obtain ⟨q1, rfl⟩ := q
      cases (show (Sum.inr E : tq_R) = Sum.inr E1 from q1)
      subst e9
      exact tq_out rfl (hQ _ _ ⟨rfl, rfl⟩)
    · refine tq_calV (M := mX10_foundAt) (pc := 21) (S := []) tk_y_X10_needPath tk_v_X10_needPath tk_RX10_262 dX10_foundAt_21 [.int a1] rfl (S0 := _) rfl eu7 rfl (Nat.le_of_ble_eq_true rfl) (d1 := d - 1) (b1 := 0 + 0) (s1 := 0 + 0) (bc' := bc) (bs' := bs) (Q1 := fun r h9 => r = tq_enV ((.inr (), w8) : (String ⊕ Unit) × tq_H).1 ∧ ((.inr (), w8) : (String ⊕ Unit) × tq_H).2 = h9) (by omega) (by omega) (by omega) (w_X10_needPath (bc := 0) (bs := 0) (by omega) ev6 (fun E g z => by cases z) (fun _ _ q => q)) (fun E h9 q => nomatch (show (Sum.inr E : tq_R) = Sum.inl _ from q.1)) (fun r9 h9 q => ?_)
      obtain ⟨q1, rfl⟩ := q
      cases (show (Sum.inl r9 : tq_R) = Sum.inl (none) from q1)
      refine tq_aload_n (M := mX10_foundAt) (pc := 24) dX10_foundAt_24 rfl ?_
      refine tq_iload_n (M := mX10_foundAt) (pc := 25) dX10_foundAt_25 rfl ?_
      obtain ⟨⟨⟩, eu10, hf⟩ := tq_be hf
      obtain ⟨fsu10, eu10⟩ := tq_is_s eu10
      obtain ⟨v9, ev9, hf⟩ := tq_be hf
      refine tq_calV (M := mX10_foundAt) (pc := 26) (S := []) tk_y_X2_prepare tk_v_X2_prepare tk_RX10_302 dX10_foundAt_26 [.int a1] rfl (S0 := _) rfl eu10 rfl (Nat.le_of_ble_eq_true rfl) (d1 := d - 1) (b1 := 0) (s1 := 0) (bc' := bc) (bs' := bs) (Q1 := fun r h9 => r = .inl none ∧ v9 = h9) (by omega) (by omega) (by omega) (w_X2_prepare (by omega) ev9 (fun _ _ q => q)) (fun E h9 q => nomatch (show (Sum.inr E : tq_R) = Sum.inl _ from q.1)) (fun r9 h9 q => ?_)
      obtain ⟨q1, rfl⟩ := q
      cases (show (Sum.inl r9 : tq_R) = Sum.inl (none) from q1)
      refine tq_aload_n (M := mX10_foundAt) (pc := 29) dX10_foundAt_29 rfl ?_
      refine tq_iload_n (M := mX10_foundAt) (pc := 30) dX10_foundAt_30 rfl ?_
      refine tq_iconst (M := mX10_foundAt) (pc := 31) dX10_foundAt_31 tk_ki_0 ?_
      obtain ⟨⟨⟩, eu12, hf⟩ := tq_be hf
      obtain ⟨fsu12, eu12⟩ := tq_is_s eu12
      obtain ⟨v11, ev11, hf⟩ := tq_be hf
      refine tq_calV (M := mX10_foundAt) (pc := 32) (S := []) tk_y_X2_foundFrom tk_v_X2_foundFrom tk_RX10_305 dX10_foundAt_32 [.int a1, .int (0 : Int32)] rfl (S0 := _) rfl eu12 rfl (Nat.le_of_ble_eq_true rfl) (d1 := d - 1) (b1 := 0) (s1 := 0) (bc' := bc) (bs' := bs) (Q1 := fun r h9 => r = .inl (some (.long v11)) ∧ v9 = h9) (by omega) (by omega) (by omega) (w_X2_foundFrom (by omega) ev11 (fun _ _ q => q)) (fun E h9 q => nomatch (show (Sum.inr E : tq_R) = Sum.inl _ from q.1)) (fun r9 h9 q => ?_)
      obtain ⟨q1, rfl⟩ := q
      cases (show (Sum.inl r9 : tq_R) = Sum.inl (some (.long v11)) from q1)
      refine tq_lstore (M := mX10_foundAt) (pc := 35) dX10_foundAt_35 (L2 := [(4, .long v11), (3, .ref p5.1), (0, .ref t), (1, .int a1), (2, .int a2)]) (by decide) rfl ?_
      refine tq_aload_n (M := mX10_foundAt) (pc := 37) dX10_foundAt_37 rfl ?_
      refine tq_lload (M := mX10_foundAt) (pc := 38) dX10_foundAt_38 rfl ?_
      refine tq_iload_n (M := mX10_foundAt) (pc := 40) dX10_foundAt_40 rfl ?_
      obtain ⟨⟨⟩, eu14, hf⟩ := tq_be hf
      obtain ⟨fsu14, eu14⟩ := tq_is_s eu14
      rcases tq_te hf with ⟨E1, g1, ev13, e9⟩ | ⟨v13, w15, ev13, hf⟩
      · have hb9 := hb _ _ e9
        refine tq_calV (M := mX10_foundAt) (pc := 41) (S := []) tk_y_X10_needPlaceOf tk_v_X10_needPlaceOf tk_RX10_320 dX10_foundAt_41 [.long v11, .int a2] rfl (S0 := _) rfl eu14 rfl (Nat.le_of_ble_eq_true rfl) (d1 := d - 1) (b1 := 0 + bc) (s1 := 0 + bs) (bc' := 0) (bs' := 0) (Q1 := fun r h9 => r = tq_enV ((.inl E1, g1) : (String ⊕ Unit) × tq_H).1 ∧ ((.inl E1, g1) : (String ⊕ Unit) × tq_H).2 = h9) (by omega) (by omega) (by omega) (w_X10_needPlaceOf (bc := bc) (bs := bs) (by omega) ev13 (fun _ _ _ => hb9) (fun _ _ q => q)) (fun E h9 q => ?_) (fun r9 h9 q => nomatch (show (Sum.inl r9 : tq_R) = Sum.inr E1 from q.1))
        obtain ⟨q1, rfl⟩ := q
        cases (show (Sum.inr E : tq_R) = Sum.inr E1 from q1)
        subst e9
        exact tq_out rfl (hQ _ _ ⟨rfl, rfl⟩)
      · refine tq_calV (M := mX10_foundAt) (pc := 41) (S := []) tk_y_X10_needPlaceOf tk_v_X10_needPlaceOf tk_RX10_320 dX10_foundAt_41 [.long v11, .int a2] rfl (S0 := _) rfl eu14 rfl (Nat.le_of_ble_eq_true rfl) (d1 := d - 1) (b1 := 0 + 0) (s1 := 0 + 0) (bc' := bc) (bs' := bs) (Q1 := fun r h9 => r = tq_enV ((.inr (), w15) : (String ⊕ Unit) × tq_H).1 ∧ ((.inr (), w15) : (String ⊕ Unit) × tq_H).2 = h9) (by omega) (by omega) (by omega) (w_X10_needPlaceOf (bc := 0) (bs := 0) (by omega) ev13 (fun E g z => by cases z) (fun _ _ q => q)) (fun E h9 q => nomatch (show (Sum.inr E : tq_R) = Sum.inl _ from q.1)) (fun r9 h9 q => ?_)
        obtain ⟨q1, rfl⟩ := q
        cases (show (Sum.inl r9 : tq_R) = Sum.inl (none) from q1)
        refine tq_aload_n (M := mX10_foundAt) (pc := 44) dX10_foundAt_44 rfl ?_
        obtain ⟨k16, ek16, hf⟩ := tq_be hf
        refine tq_getR (M := mX10_foundAt) (pc := 45) tk_c10 (by decide) dX10_foundAt_45 tk_RX10_12 rfl ek16 ?_
        obtain ⟨k17, ek17, hf⟩ := tq_be hf
        refine tq_getR (M := mX10_foundAt) (pc := 48) tk_c8 (by decide) dX10_foundAt_48 tk_RX10_115 rfl ek17 ?_
        refine tq_lload (M := mX10_foundAt) (pc := 51) dX10_foundAt_51 rfl ?_
        refine tq_iload_n (M := mX10_foundAt) (pc := 53) dX10_foundAt_53 rfl ?_
        obtain ⟨⟨⟩, eu19, hf⟩ := tq_be hf
        obtain ⟨fsu19, eu19⟩ := tq_is_s eu19
        obtain ⟨v18, ev18, hf⟩ := tq_be hf
        refine tq_calV (M := mX10_foundAt) (pc := 54) (S := []) tk_y_X3_nodeOfSet tk_v_X3_nodeOfSet tk_RX10_246 dX10_foundAt_54 [.long v11, .int a2] rfl (S0 := _) rfl eu19 rfl (Nat.le_of_ble_eq_true rfl) (d1 := d - 1) (b1 := 0) (s1 := 0) (bc' := bc) (bs' := bs) (Q1 := fun r h9 => r = .inl (some (.int v18)) ∧ w15 = h9) (by omega) (by omega) (by omega) (w_X3_nodeOfSet (by omega) ev18 (fun _ _ q => q)) (fun E h9 q => nomatch (show (Sum.inr E : tq_R) = Sum.inl _ from q.1)) (fun r9 h9 q => ?_)
        obtain ⟨q1, rfl⟩ := q
        cases (show (Sum.inl r9 : tq_R) = Sum.inl (some (.int v18)) from q1)
        refine tq_iret (M := mX10_foundAt) (pc := 57) dX10_foundAt_57 rfl ?_
        cases (Option.some.inj hf)
        exact hQ _ _ ⟨rfl, rfl⟩
  refine tq_if_eq (M := mX10_foundAt) (pc := 4) (tgt := 14) dX10_foundAt_4 (by decide) (fun cc => ?_) (fun cc => ?_)
  · have hf := tq_ifp ep5 cc
    refine tq_aload_n (M := mX10_foundAt) (pc := 14) dX10_foundAt_14 rfl ?_
    obtain ⟨k2, ek2, hf⟩ := tq_be hf
    refine tq_getR (M := mX10_foundAt) (pc := 15) tk_c10 (by decide) dX10_foundAt_15 tk_RX10_38 rfl ek2 ?_
    cases (Option.some.inj hf)
    exact HJ4
  · have hf := tq_ifn ep5 cc
    refine tq_aload_n (M := mX10_foundAt) (pc := 7) dX10_foundAt_7 rfl ?_
    obtain ⟨⟨⟩, eu4, hf⟩ := tq_be hf
    obtain ⟨fsu4, eu4⟩ := tq_is_s eu4
    obtain ⟨v3, ev3, hf⟩ := tq_be hf
    refine tq_calV (M := mX10_foundAt) (pc := 8) (S := []) tk_y_X10_refreshedReader tk_v_X10_refreshedReader tk_RX10_294 dX10_foundAt_8 [] rfl (S0 := _) rfl eu4 rfl (Nat.le_of_ble_eq_true rfl) (d1 := d - 1) (b1 := 0) (s1 := 0) (bc' := bc) (bs' := bs) (Q1 := fun r h9 => r = .inl (some (.ref v3.1)) ∧ v3.2 = h9) (by omega) (by omega) (by omega) (w_X10_refreshedReader (by omega) ev3 (fun _ _ q => q)) (fun E h9 q => nomatch (show (Sum.inr E : tq_R) = Sum.inl _ from q.1)) (fun r9 h9 q => ?_)
    obtain ⟨q1, rfl⟩ := q
    cases (show (Sum.inl r9 : tq_R) = Sum.inl (some (.ref v3.1)) from q1)
    refine tq_goto (M := mX10_foundAt) (pc := 11) (tgt := 18) dX10_foundAt_11 (by decide) ?_
    cases (Option.some.inj hf)
    exact HJ4
abbrev mX10_ordered : tq_M := (RX10, cX10_ordered, 4, (some .int), false, [], none)
def f_X10_ordered (t : Nat) (a1 : Int32) (a2 : Int32) (h : tq_H) : Option ((String ⊕ Int32) × tq_H) :=
  (tq_gi h t 10 17).bind fun x1 =>
  (if x1 = 0 then
    (tq_gr h t 10 4).bind fun k2 =>
    some (k2, h)
  else
    (tq_is h t 10).bind fun _ =>
    (f_X10_refreshedReader t h).bind fun v3 =>
    some (v3.1, v3.2)).bind fun p5 =>
  (tq_is p5.2 t 10).bind fun _ =>
  tq_tb (f_X10_needPath t a1 p5.2) fun _ w8 =>
  (tq_is w8 p5.1 2).bind fun _ =>
  (f_X2_prepare p5.1 a1 w8).bind fun v9 =>
  (tq_is v9 p5.1 2).bind fun _ =>
  (f_X2_foundFrom p5.1 a1 (0 : Int32) v9).bind fun v11 =>
  (tq_is v9 t 10).bind fun _ =>
  tq_tb (f_X10_needPlaceOf t v11 a2 v9) fun _ w15 =>
  (tq_gr w15 t 10 0).bind fun k16 =>
  (tq_gr w15 k16 8 0).bind fun k17 =>
  (tq_is w15 p5.1 2).bind fun _ =>
  (f_X2_orderedSpot p5.1 a1 a2 w15).bind fun v18 =>
  (tq_is w15 k17 3).bind fun _ =>
  (f_X3_nodeAt k17 v18 w15).bind fun v20 =>
  some (.inr v20, w15)
set_option maxHeartbeats 4000000 in
set_option maxRecDepth 20000 in
theorem w_X10_ordered {l : Launch} {d : Nat} (hd9 : 7 ≤ d) {t : Nat} {a1 : Int32} {a2 : Int32} {bc bs : Nat} {h : tq_H} {o : (String ⊕ Int32) × tq_H} {Q : tq_R → tq_H → Prop} (hf : f_X10_ordered t a1 a2 h = some o) (hb : ∀ E g, o = (.inl E, g) → 1 ≤ bc ∧ 6 ≤ bs) (hQ : ∀ r h9, r = tq_enI o.1 ∧ o.2 = h9 → Q r h9) : tq_C l yX10_ordered cX10_ordered 4 (some .int) d (0 + bc) (0 + bs) [.ref t, .int a1, .int a2] h Q := by
  refine tq_body (y := yX10_ordered) false (by decide +kernel) (fun z => by cases z) (Nat.le_of_ble_eq_true rfl) ?_
  show tq_W l mX10_ordered d (0 + bc) (0 + bs) Q 0 [(0, .ref t), (1, .int a1), (2, .int a2)] [] h
  refine tq_more (bc := bc) (bs := bs) (by omega) (by omega) ?_
  refine tq_aload_n (M := mX10_ordered) (pc := 0) dX10_ordered_0 rfl ?_
  obtain ⟨x1, ex1, hf⟩ := tq_be hf
  refine tq_getI (M := mX10_ordered) (pc := 1) tk_c10 (by decide) dX10_ordered_1 tk_RX10_98 rfl ex1 ?_
  obtain ⟨p5, ep5, hf⟩ := tq_be hf
  have HJ4 : tq_W l mX10_ordered d bc bs Q 18 [(0, .ref t), (1, .int a1), (2, .int a2)] [.ref p5.1] p5.2 := by
    refine tq_astore_n (M := mX10_ordered) (pc := 18) rfl dX10_ordered_18 (L2 := [(3, .ref p5.1), (0, .ref t), (1, .int a1), (2, .int a2)]) (by decide) rfl ?_
    refine tq_aload_n (M := mX10_ordered) (pc := 19) dX10_ordered_19 rfl ?_
    refine tq_iload_n (M := mX10_ordered) (pc := 20) dX10_ordered_20 rfl ?_
    obtain ⟨⟨⟩, eu7, hf⟩ := tq_be hf
    obtain ⟨fsu7, eu7⟩ := tq_is_s eu7
    rcases tq_te hf with ⟨E1, g1, ev6, e9⟩ | ⟨v6, w8, ev6, hf⟩
    · have hb9 := hb _ _ e9
      refine tq_calV (M := mX10_ordered) (pc := 21) (S := []) tk_y_X10_needPath tk_v_X10_needPath tk_RX10_262 dX10_ordered_21 [.int a1] rfl (S0 := _) rfl eu7 rfl (Nat.le_of_ble_eq_true rfl) (d1 := d - 1) (b1 := 0 + bc) (s1 := 0 + bs) (bc' := 0) (bs' := 0) (Q1 := fun r h9 => r = tq_enV ((.inl E1, g1) : (String ⊕ Unit) × tq_H).1 ∧ ((.inl E1, g1) : (String ⊕ Unit) × tq_H).2 = h9) (by omega) (by omega) (by omega) (w_X10_needPath (bc := bc) (bs := bs) (by omega) ev6 (fun _ _ _ => hb9) (fun _ _ q => q)) (fun E h9 q => ?_) (fun r9 h9 q => nomatch (show (Sum.inl r9 : tq_R) = Sum.inr E1 from q.1))
      obtain ⟨q1, rfl⟩ := q
      cases (show (Sum.inr E : tq_R) = Sum.inr E1 from q1)
      subst e9
      exact tq_out rfl (hQ _ _ ⟨rfl, rfl⟩)
    · refine tq_calV (M := mX10_ordered) (pc := 21) (S := []) tk_y_X10_needPath tk_v_X10_needPath tk_RX10_262 dX10_ordered_21 [.int a1] rfl (S0 := _) rfl eu7 rfl (Nat.le_of_ble_eq_true rfl) (d1 := d - 1) (b1 := 0 + 0) (s1 := 0 + 0) (bc' := bc) (bs' := bs) (Q1 := fun r h9 => r = tq_enV ((.inr (), w8) : (String ⊕ Unit) × tq_H).1 ∧ ((.inr (), w8) : (String ⊕ Unit) × tq_H).2 = h9) (by omega) (by omega) (by omega) (w_X10_needPath (bc := 0) (bs := 0) (by omega) ev6 (fun E g z => by cases z) (fun _ _ q => q)) (fun E h9 q => nomatch (show (Sum.inr E : tq_R) = Sum.inl _ from q.1)) (fun r9 h9 q => ?_)
      obtain ⟨q1, rfl⟩ := q
      cases (show (Sum.inl r9 : tq_R) = Sum.inl (none) from q1)
      refine tq_aload_n (M := mX10_ordered) (pc := 24) dX10_ordered_24 rfl ?_
      refine tq_iload_n (M := mX10_ordered) (pc := 25) dX10_ordered_25 rfl ?_
      obtain ⟨⟨⟩, eu10, hf⟩ := tq_be hf
      obtain ⟨fsu10, eu10⟩ := tq_is_s eu10
      obtain ⟨v9, ev9, hf⟩ := tq_be hf
      refine tq_calV (M := mX10_ordered) (pc := 26) (S := []) tk_y_X2_prepare tk_v_X2_prepare tk_RX10_302 dX10_ordered_26 [.int a1] rfl (S0 := _) rfl eu10 rfl (Nat.le_of_ble_eq_true rfl) (d1 := d - 1) (b1 := 0) (s1 := 0) (bc' := bc) (bs' := bs) (Q1 := fun r h9 => r = .inl none ∧ v9 = h9) (by omega) (by omega) (by omega) (w_X2_prepare (by omega) ev9 (fun _ _ q => q)) (fun E h9 q => nomatch (show (Sum.inr E : tq_R) = Sum.inl _ from q.1)) (fun r9 h9 q => ?_)
      obtain ⟨q1, rfl⟩ := q
      cases (show (Sum.inl r9 : tq_R) = Sum.inl (none) from q1)
      refine tq_aload_n (M := mX10_ordered) (pc := 29) dX10_ordered_29 rfl ?_
      refine tq_aload_n (M := mX10_ordered) (pc := 30) dX10_ordered_30 rfl ?_
      refine tq_iload_n (M := mX10_ordered) (pc := 31) dX10_ordered_31 rfl ?_
      refine tq_iconst (M := mX10_ordered) (pc := 32) dX10_ordered_32 tk_ki_0 ?_
      obtain ⟨⟨⟩, eu12, hf⟩ := tq_be hf
      obtain ⟨fsu12, eu12⟩ := tq_is_s eu12
      obtain ⟨v11, ev11, hf⟩ := tq_be hf
      refine tq_calV (M := mX10_ordered) (pc := 33) (S := [.ref t]) tk_y_X2_foundFrom tk_v_X2_foundFrom tk_RX10_305 dX10_ordered_33 [.int a1, .int (0 : Int32)] rfl (S0 := _) rfl eu12 rfl (Nat.le_of_ble_eq_true rfl) (d1 := d - 1) (b1 := 0) (s1 := 0) (bc' := bc) (bs' := bs) (Q1 := fun r h9 => r = .inl (some (.long v11)) ∧ v9 = h9) (by omega) (by omega) (by omega) (w_X2_foundFrom (by omega) ev11 (fun _ _ q => q)) (fun E h9 q => nomatch (show (Sum.inr E : tq_R) = Sum.inl _ from q.1)) (fun r9 h9 q => ?_)
      obtain ⟨q1, rfl⟩ := q
      cases (show (Sum.inl r9 : tq_R) = Sum.inl (some (.long v11)) from q1)
      refine tq_iload_n (M := mX10_ordered) (pc := 36) dX10_ordered_36 rfl ?_
      obtain ⟨⟨⟩, eu14, hf⟩ := tq_be hf
      obtain ⟨fsu14, eu14⟩ := tq_is_s eu14
      rcases tq_te hf with ⟨E1, g1, ev13, e9⟩ | ⟨v13, w15, ev13, hf⟩
      · have hb9 := hb _ _ e9
        refine tq_calV (M := mX10_ordered) (pc := 37) (S := []) tk_y_X10_needPlaceOf tk_v_X10_needPlaceOf tk_RX10_320 dX10_ordered_37 [.long v11, .int a2] rfl (S0 := _) rfl eu14 rfl (Nat.le_of_ble_eq_true rfl) (d1 := d - 1) (b1 := 0 + bc) (s1 := 0 + bs) (bc' := 0) (bs' := 0) (Q1 := fun r h9 => r = tq_enV ((.inl E1, g1) : (String ⊕ Unit) × tq_H).1 ∧ ((.inl E1, g1) : (String ⊕ Unit) × tq_H).2 = h9) (by omega) (by omega) (by omega) (w_X10_needPlaceOf (bc := bc) (bs := bs) (by omega) ev13 (fun _ _ _ => hb9) (fun _ _ q => q)) (fun E h9 q => ?_) (fun r9 h9 q => nomatch (show (Sum.inl r9 : tq_R) = Sum.inr E1 from q.1))
        obtain ⟨q1, rfl⟩ := q
        cases (show (Sum.inr E : tq_R) = Sum.inr E1 from q1)
        subst e9
        exact tq_out rfl (hQ _ _ ⟨rfl, rfl⟩)
      · refine tq_calV (M := mX10_ordered) (pc := 37) (S := []) tk_y_X10_needPlaceOf tk_v_X10_needPlaceOf tk_RX10_320 dX10_ordered_37 [.long v11, .int a2] rfl (S0 := _) rfl eu14 rfl (Nat.le_of_ble_eq_true rfl) (d1 := d - 1) (b1 := 0 + 0) (s1 := 0 + 0) (bc' := bc) (bs' := bs) (Q1 := fun r h9 => r = tq_enV ((.inr (), w15) : (String ⊕ Unit) × tq_H).1 ∧ ((.inr (), w15) : (String ⊕ Unit) × tq_H).2 = h9) (by omega) (by omega) (by omega) (w_X10_needPlaceOf (bc := 0) (bs := 0) (by omega) ev13 (fun E g z => by cases z) (fun _ _ q => q)) (fun E h9 q => nomatch (show (Sum.inr E : tq_R) = Sum.inl _ from q.1)) (fun r9 h9 q => ?_)
        obtain ⟨q1, rfl⟩ := q
        cases (show (Sum.inl r9 : tq_R) = Sum.inl (none) from q1)
        refine tq_aload_n (M := mX10_ordered) (pc := 40) dX10_ordered_40 rfl ?_
        obtain ⟨k16, ek16, hf⟩ := tq_be hf
        refine tq_getR (M := mX10_ordered) (pc := 41) tk_c10 (by decide) dX10_ordered_41 tk_RX10_12 rfl ek16 ?_
        obtain ⟨k17, ek17, hf⟩ := tq_be hf
        refine tq_getR (M := mX10_ordered) (pc := 44) tk_c8 (by decide) dX10_ordered_44 tk_RX10_115 rfl ek17 ?_
        refine tq_aload_n (M := mX10_ordered) (pc := 47) dX10_ordered_47 rfl ?_
        refine tq_iload_n (M := mX10_ordered) (pc := 48) dX10_ordered_48 rfl ?_
        refine tq_iload_n (M := mX10_ordered) (pc := 49) dX10_ordered_49 rfl ?_
        obtain ⟨⟨⟩, eu19, hf⟩ := tq_be hf
        obtain ⟨fsu19, eu19⟩ := tq_is_s eu19
        obtain ⟨v18, ev18, hf⟩ := tq_be hf
        refine tq_calV (M := mX10_ordered) (pc := 50) (S := [.ref k17]) tk_y_X2_orderedSpot tk_v_X2_orderedSpot tk_RX10_324 dX10_ordered_50 [.int a1, .int a2] rfl (S0 := _) rfl eu19 rfl (Nat.le_of_ble_eq_true rfl) (d1 := d - 1) (b1 := 0) (s1 := 0) (bc' := bc) (bs' := bs) (Q1 := fun r h9 => r = .inl (some (.int v18)) ∧ w15 = h9) (by omega) (by omega) (by omega) (w_X2_orderedSpot (by omega) ev18 (fun _ _ q => q)) (fun E h9 q => nomatch (show (Sum.inr E : tq_R) = Sum.inl _ from q.1)) (fun r9 h9 q => ?_)
        obtain ⟨q1, rfl⟩ := q
        cases (show (Sum.inl r9 : tq_R) = Sum.inl (some (.int v18)) from q1)
        obtain ⟨⟨⟩, eu21, hf⟩ := tq_be hf
        obtain ⟨fsu21, eu21⟩ := tq_is_s eu21
        obtain ⟨v20, ev20, hf⟩ := tq_be hf
        refine tq_calV (M := mX10_ordered) (pc := 53) (S := []) tk_y_X3_nodeAt tk_v_X3_nodeAt tk_RX10_328 dX10_ordered_53 [.int v18] rfl (S0 := _) rfl eu21 rfl (Nat.le_of_ble_eq_true rfl) (d1 := d - 1) (b1 := 0) (s1 := 0) (bc' := bc) (bs' := bs) (Q1 := fun r h9 => r = .inl (some (.int v20)) ∧ w15 = h9) (by omega) (by omega) (by omega) (w_X3_nodeAt (by omega) ev20 (fun _ _ q => q)) (fun E h9 q => nomatch (show (Sum.inr E : tq_R) = Sum.inl _ from q.1)) (fun r9 h9 q => ?_)
        obtain ⟨q1, rfl⟩ := q
        cases (show (Sum.inl r9 : tq_R) = Sum.inl (some (.int v20)) from q1)
        refine tq_iret (M := mX10_ordered) (pc := 56) dX10_ordered_56 rfl ?_
        cases (Option.some.inj hf)
        exact hQ _ _ ⟨rfl, rfl⟩
  refine tq_if_eq (M := mX10_ordered) (pc := 4) (tgt := 14) dX10_ordered_4 (by decide) (fun cc => ?_) (fun cc => ?_)
  · have hf := tq_ifp ep5 cc
    refine tq_aload_n (M := mX10_ordered) (pc := 14) dX10_ordered_14 rfl ?_
    obtain ⟨k2, ek2, hf⟩ := tq_be hf
    refine tq_getR (M := mX10_ordered) (pc := 15) tk_c10 (by decide) dX10_ordered_15 tk_RX10_38 rfl ek2 ?_
    cases (Option.some.inj hf)
    exact HJ4
  · have hf := tq_ifn ep5 cc
    refine tq_aload_n (M := mX10_ordered) (pc := 7) dX10_ordered_7 rfl ?_
    obtain ⟨⟨⟩, eu4, hf⟩ := tq_be hf
    obtain ⟨fsu4, eu4⟩ := tq_is_s eu4
    obtain ⟨v3, ev3, hf⟩ := tq_be hf
    refine tq_calV (M := mX10_ordered) (pc := 8) (S := []) tk_y_X10_refreshedReader tk_v_X10_refreshedReader tk_RX10_294 dX10_ordered_8 [] rfl (S0 := _) rfl eu4 rfl (Nat.le_of_ble_eq_true rfl) (d1 := d - 1) (b1 := 0) (s1 := 0) (bc' := bc) (bs' := bs) (Q1 := fun r h9 => r = .inl (some (.ref v3.1)) ∧ v3.2 = h9) (by omega) (by omega) (by omega) (w_X10_refreshedReader (by omega) ev3 (fun _ _ q => q)) (fun E h9 q => nomatch (show (Sum.inr E : tq_R) = Sum.inl _ from q.1)) (fun r9 h9 q => ?_)
    obtain ⟨q1, rfl⟩ := q
    cases (show (Sum.inl r9 : tq_R) = Sum.inl (some (.ref v3.1)) from q1)
    refine tq_goto (M := mX10_ordered) (pc := 11) (tgt := 18) dX10_ordered_11 (by decide) ?_
    cases (Option.some.inj hf)
    exact HJ4
abbrev mX10_groups : tq_M := (RX10, cX10_groups, 3, (some .int), false, [], none)
def f_X10_groups (t : Nat) (a1 : Int32) (h : tq_H) : Option ((String ⊕ Int32) × tq_H) :=
  (tq_gi h t 10 17).bind fun x1 =>
  (if x1 = 0 then
    (tq_gr h t 10 4).bind fun k2 =>
    some (k2, h)
  else
    (tq_is h t 10).bind fun _ =>
    (f_X10_refreshedReader t h).bind fun v3 =>
    some (v3.1, v3.2)).bind fun p5 =>
  (tq_is p5.2 t 10).bind fun _ =>
  tq_tb (f_X10_needPath t a1 p5.2) fun _ w8 =>
  (tq_is w8 p5.1 2).bind fun _ =>
  (f_X2_prepare p5.1 a1 w8).bind fun v9 =>
  (tq_is v9 p5.1 2).bind fun _ =>
  (f_X2_countValues p5.1 a1 v9).bind fun v11 =>
  some (.inr v11, v9)
set_option maxHeartbeats 4000000 in
set_option maxRecDepth 20000 in
theorem w_X10_groups {l : Launch} {d : Nat} (hd9 : 7 ≤ d) {t : Nat} {a1 : Int32} {bc bs : Nat} {h : tq_H} {o : (String ⊕ Int32) × tq_H} {Q : tq_R → tq_H → Prop} (hf : f_X10_groups t a1 h = some o) (hb : ∀ E g, o = (.inl E, g) → 1 ≤ bc ∧ 6 ≤ bs) (hQ : ∀ r h9, r = tq_enI o.1 ∧ o.2 = h9 → Q r h9) : tq_C l yX10_groups cX10_groups 3 (some .int) d (0 + bc) (0 + bs) [.ref t, .int a1] h Q := by
  refine tq_body (y := yX10_groups) false (by decide +kernel) (fun z => by cases z) (Nat.le_of_ble_eq_true rfl) ?_
  show tq_W l mX10_groups d (0 + bc) (0 + bs) Q 0 [(0, .ref t), (1, .int a1)] [] h
  refine tq_more (bc := bc) (bs := bs) (by omega) (by omega) ?_
  refine tq_aload_n (M := mX10_groups) (pc := 0) dX10_groups_0 rfl ?_
  obtain ⟨x1, ex1, hf⟩ := tq_be hf
  refine tq_getI (M := mX10_groups) (pc := 1) tk_c10 (by decide) dX10_groups_1 tk_RX10_98 rfl ex1 ?_
  obtain ⟨p5, ep5, hf⟩ := tq_be hf
  have HJ4 : tq_W l mX10_groups d bc bs Q 18 [(0, .ref t), (1, .int a1)] [.ref p5.1] p5.2 := by
    refine tq_astore_n (M := mX10_groups) (pc := 18) rfl dX10_groups_18 (L2 := [(2, .ref p5.1), (0, .ref t), (1, .int a1)]) (by decide) rfl ?_
    refine tq_aload_n (M := mX10_groups) (pc := 19) dX10_groups_19 rfl ?_
    refine tq_iload_n (M := mX10_groups) (pc := 20) dX10_groups_20 rfl ?_
    obtain ⟨⟨⟩, eu7, hf⟩ := tq_be hf
    obtain ⟨fsu7, eu7⟩ := tq_is_s eu7
    rcases tq_te hf with ⟨E1, g1, ev6, e9⟩ | ⟨v6, w8, ev6, hf⟩
    · have hb9 := hb _ _ e9
      refine tq_calV (M := mX10_groups) (pc := 21) (S := []) tk_y_X10_needPath tk_v_X10_needPath tk_RX10_262 dX10_groups_21 [.int a1] rfl (S0 := _) rfl eu7 rfl (Nat.le_of_ble_eq_true rfl) (d1 := d - 1) (b1 := 0 + bc) (s1 := 0 + bs) (bc' := 0) (bs' := 0) (Q1 := fun r h9 => r = tq_enV ((.inl E1, g1) : (String ⊕ Unit) × tq_H).1 ∧ ((.inl E1, g1) : (String ⊕ Unit) × tq_H).2 = h9) (by omega) (by omega) (by omega) (w_X10_needPath (bc := bc) (bs := bs) (by omega) ev6 (fun _ _ _ => hb9) (fun _ _ q => q)) (fun E h9 q => ?_) (fun r9 h9 q => nomatch (show (Sum.inl r9 : tq_R) = Sum.inr E1 from q.1))
      obtain ⟨q1, rfl⟩ := q
      cases (show (Sum.inr E : tq_R) = Sum.inr E1 from q1)
      subst e9
      exact tq_out rfl (hQ _ _ ⟨rfl, rfl⟩)
    · refine tq_calV (M := mX10_groups) (pc := 21) (S := []) tk_y_X10_needPath tk_v_X10_needPath tk_RX10_262 dX10_groups_21 [.int a1] rfl (S0 := _) rfl eu7 rfl (Nat.le_of_ble_eq_true rfl) (d1 := d - 1) (b1 := 0 + 0) (s1 := 0 + 0) (bc' := bc) (bs' := bs) (Q1 := fun r h9 => r = tq_enV ((.inr (), w8) : (String ⊕ Unit) × tq_H).1 ∧ ((.inr (), w8) : (String ⊕ Unit) × tq_H).2 = h9) (by omega) (by omega) (by omega) (w_X10_needPath (bc := 0) (bs := 0) (by omega) ev6 (fun E g z => by cases z) (fun _ _ q => q)) (fun E h9 q => nomatch (show (Sum.inr E : tq_R) = Sum.inl _ from q.1)) (fun r9 h9 q => ?_)
      obtain ⟨q1, rfl⟩ := q
      cases (show (Sum.inl r9 : tq_R) = Sum.inl (none) from q1)
      refine tq_aload_n (M := mX10_groups) (pc := 24) dX10_groups_24 rfl ?_
      refine tq_iload_n (M := mX10_groups) (pc := 25) dX10_groups_25 rfl ?_
      obtain ⟨⟨⟩, eu10, hf⟩ := tq_be hf
      obtain ⟨fsu10, eu10⟩ := tq_is_s eu10
      obtain ⟨v9, ev9, hf⟩ := tq_be hf
      refine tq_calV (M := mX10_groups) (pc := 26) (S := []) tk_y_X2_prepare tk_v_X2_prepare tk_RX10_302 dX10_groups_26 [.int a1] rfl (S0 := _) rfl eu10 rfl (Nat.le_of_ble_eq_true rfl) (d1 := d - 1) (b1 := 0) (s1 := 0) (bc' := bc) (bs' := bs) (Q1 := fun r h9 => r = .inl none ∧ v9 = h9) (by omega) (by omega) (by omega) (w_X2_prepare (by omega) ev9 (fun _ _ q => q)) (fun E h9 q => nomatch (show (Sum.inr E : tq_R) = Sum.inl _ from q.1)) (fun r9 h9 q => ?_)
      obtain ⟨q1, rfl⟩ := q
      cases (show (Sum.inl r9 : tq_R) = Sum.inl (none) from q1)
      refine tq_aload_n (M := mX10_groups) (pc := 29) dX10_groups_29 rfl ?_
      refine tq_iload_n (M := mX10_groups) (pc := 30) dX10_groups_30 rfl ?_
      obtain ⟨⟨⟩, eu12, hf⟩ := tq_be hf
      obtain ⟨fsu12, eu12⟩ := tq_is_s eu12
      obtain ⟨v11, ev11, hf⟩ := tq_be hf
      refine tq_calV (M := mX10_groups) (pc := 31) (S := []) tk_y_X2_countValues tk_v_X2_countValues tk_RX10_331 dX10_groups_31 [.int a1] rfl (S0 := _) rfl eu12 rfl (Nat.le_of_ble_eq_true rfl) (d1 := d - 1) (b1 := 0) (s1 := 0) (bc' := bc) (bs' := bs) (Q1 := fun r h9 => r = .inl (some (.int v11)) ∧ v9 = h9) (by omega) (by omega) (by omega) (w_X2_countValues (by omega) ev11 (fun _ _ q => q)) (fun E h9 q => nomatch (show (Sum.inr E : tq_R) = Sum.inl _ from q.1)) (fun r9 h9 q => ?_)
      obtain ⟨q1, rfl⟩ := q
      cases (show (Sum.inl r9 : tq_R) = Sum.inl (some (.int v11)) from q1)
      refine tq_iret (M := mX10_groups) (pc := 34) dX10_groups_34 rfl ?_
      cases (Option.some.inj hf)
      exact hQ _ _ ⟨rfl, rfl⟩
  refine tq_if_eq (M := mX10_groups) (pc := 4) (tgt := 14) dX10_groups_4 (by decide) (fun cc => ?_) (fun cc => ?_)
  · have hf := tq_ifp ep5 cc
    refine tq_aload_n (M := mX10_groups) (pc := 14) dX10_groups_14 rfl ?_
    obtain ⟨k2, ek2, hf⟩ := tq_be hf
    refine tq_getR (M := mX10_groups) (pc := 15) tk_c10 (by decide) dX10_groups_15 tk_RX10_38 rfl ek2 ?_
    cases (Option.some.inj hf)
    exact HJ4
  · have hf := tq_ifn ep5 cc
    refine tq_aload_n (M := mX10_groups) (pc := 7) dX10_groups_7 rfl ?_
    obtain ⟨⟨⟩, eu4, hf⟩ := tq_be hf
    obtain ⟨fsu4, eu4⟩ := tq_is_s eu4
    obtain ⟨v3, ev3, hf⟩ := tq_be hf
    refine tq_calV (M := mX10_groups) (pc := 8) (S := []) tk_y_X10_refreshedReader tk_v_X10_refreshedReader tk_RX10_294 dX10_groups_8 [] rfl (S0 := _) rfl eu4 rfl (Nat.le_of_ble_eq_true rfl) (d1 := d - 1) (b1 := 0) (s1 := 0) (bc' := bc) (bs' := bs) (Q1 := fun r h9 => r = .inl (some (.ref v3.1)) ∧ v3.2 = h9) (by omega) (by omega) (by omega) (w_X10_refreshedReader (by omega) ev3 (fun _ _ q => q)) (fun E h9 q => nomatch (show (Sum.inr E : tq_R) = Sum.inl _ from q.1)) (fun r9 h9 q => ?_)
    obtain ⟨q1, rfl⟩ := q
    cases (show (Sum.inl r9 : tq_R) = Sum.inl (some (.ref v3.1)) from q1)
    refine tq_goto (M := mX10_groups) (pc := 11) (tgt := 18) dX10_groups_11 (by decide) ?_
    cases (Option.some.inj hf)
    exact HJ4
abbrev mX10_needIndex : tq_M := (RX10, cX10_needIndex, 3, none, false, [], none)
def f_X10_needIndex (t : Nat) (a1 : Int32) (a2 : Int32) (h : tq_H) : Option ((String ⊕ Unit) × tq_H) :=
  if a1 < 0 then
    some (.inl "java/lang/IndexOutOfBoundsException", h)
  else
    if a1 < a2 then
      some (.inr (), h)
    else
      some (.inl "java/lang/IndexOutOfBoundsException", h)
set_option maxHeartbeats 4000000 in
set_option maxRecDepth 20000 in
theorem w_X10_needIndex {l : Launch} {d : Nat} (hd9 : 6 ≤ d) {t : Nat} {a1 : Int32} {a2 : Int32} {bc bs : Nat} {h : tq_H} {o : (String ⊕ Unit) × tq_H} {Q : tq_R → tq_H → Prop} (hf : f_X10_needIndex t a1 a2 h = some o) (hb : ∀ E g, o = (.inl E, g) → 1 ≤ bc ∧ 6 ≤ bs) (hQ : ∀ r h9, r = tq_enV o.1 ∧ o.2 = h9 → Q r h9) : tq_C l yX10_needIndex cX10_needIndex 3 none d (0 + bc) (0 + bs) [.ref t, .int a1, .int a2] h Q := by
  refine tq_body (y := yX10_needIndex) false (by decide +kernel) (fun z => by cases z) (Nat.le_of_ble_eq_true rfl) ?_
  show tq_W l mX10_needIndex d (0 + bc) (0 + bs) Q 0 [(0, .ref t), (1, .int a1), (2, .int a2)] [] h
  refine tq_more (bc := bc) (bs := bs) (by omega) (by omega) ?_
  refine tq_iload_n (M := mX10_needIndex) (pc := 0) dX10_needIndex_0 rfl ?_
  refine tq_if_lt (M := mX10_needIndex) (pc := 1) (tgt := 9) dX10_needIndex_1 (by decide) (fun cc => ?_) (fun cc => ?_)
  · have hf := tq_ifp hf cc
    have hb9 := hb _ _ (Option.some.inj hf).symm
    refine tq_throw (M := mX10_needIndex) (pc := 9) (E := "java/lang/IndexOutOfBoundsException") (ik := 440) (ic := 444) (is := 454) (text := "there is no such type, state or view") (by decide +kernel) (by decide +kernel) rfl rfl dX10_needIndex_9 dX10_needIndex_12 dX10_needIndex_13 dX10_needIndex_16 dX10_needIndex_19 (by omega) (by omega) (by omega) ?_
    cases (Option.some.inj hf)
    exact hQ _ _ ⟨rfl, rfl⟩
  · have hf := tq_ifn hf cc
    refine tq_iload_n (M := mX10_needIndex) (pc := 4) dX10_needIndex_4 rfl ?_
    refine tq_iload_n (M := mX10_needIndex) (pc := 5) dX10_needIndex_5 rfl ?_
    refine tq_icmp_lt (M := mX10_needIndex) (pc := 6) (tgt := 20) dX10_needIndex_6 (by decide) (fun cc => ?_) (fun cc => ?_)
    · have hf := tq_ifp hf cc
      refine tq_vret (M := mX10_needIndex) (pc := 20) dX10_needIndex_20 rfl ?_
      cases (Option.some.inj hf)
      exact hQ _ _ ⟨rfl, rfl⟩
    · have hf := tq_ifn hf cc
      have hb9 := hb _ _ (Option.some.inj hf).symm
      refine tq_throw (M := mX10_needIndex) (pc := 9) (E := "java/lang/IndexOutOfBoundsException") (ik := 440) (ic := 444) (is := 454) (text := "there is no such type, state or view") (by decide +kernel) (by decide +kernel) rfl rfl dX10_needIndex_9 dX10_needIndex_12 dX10_needIndex_13 dX10_needIndex_16 dX10_needIndex_19 (by omega) (by omega) (by omega) ?_
      cases (Option.some.inj hf)
      exact hQ _ _ ⟨rfl, rfl⟩
abbrev mX10_needLooseSchema : tq_M := (RX10, cX10_needLooseSchema, 1, none, false, [], none)
def f_X10_needLooseSchema (t : Nat) (h : tq_H) : Option ((String ⊕ Unit) × tq_H) :=
  (tq_gr h t 10 6).bind fun k1 =>
  (tq_is h k1 6).bind fun _ =>
  (f_X6_isStrict k1 h).bind fun v2 =>
  if v2 = 0 then
    some (.inr (), h)
  else
    some (.inl "java/lang/IllegalStateException", h)
set_option maxHeartbeats 4000000 in
set_option maxRecDepth 20000 in
theorem w_X10_needLooseSchema {l : Launch} {d : Nat} (hd9 : 6 ≤ d) {t : Nat} {bc bs : Nat} {h : tq_H} {o : (String ⊕ Unit) × tq_H} {Q : tq_R → tq_H → Prop} (hf : f_X10_needLooseSchema t h = some o) (hb : ∀ E g, o = (.inl E, g) → 1 ≤ bc ∧ 6 ≤ bs) (hQ : ∀ r h9, r = tq_enV o.1 ∧ o.2 = h9 → Q r h9) : tq_C l yX10_needLooseSchema cX10_needLooseSchema 1 none d (0 + bc) (0 + bs) [.ref t] h Q := by
  refine tq_body (y := yX10_needLooseSchema) false (by decide +kernel) (fun z => by cases z) (Nat.le_of_ble_eq_true rfl) ?_
  show tq_W l mX10_needLooseSchema d (0 + bc) (0 + bs) Q 0 [(0, .ref t)] [] h
  refine tq_more (bc := bc) (bs := bs) (by omega) (by omega) ?_
  refine tq_aload_n (M := mX10_needLooseSchema) (pc := 0) dX10_needLooseSchema_0 rfl ?_
  obtain ⟨k1, ek1, hf⟩ := tq_be hf
  refine tq_getR (M := mX10_needLooseSchema) (pc := 1) tk_c10 (by decide) dX10_needLooseSchema_1 tk_RX10_48 rfl ek1 ?_
  obtain ⟨⟨⟩, eu3, hf⟩ := tq_be hf
  obtain ⟨fsu3, eu3⟩ := tq_is_s eu3
  obtain ⟨v2, ev2, hf⟩ := tq_be hf
  refine tq_calV (M := mX10_needLooseSchema) (pc := 4) (S := []) tk_y_X6_isStrict tk_v_X6_isStrict tk_RX10_194 dX10_needLooseSchema_4 [] rfl (S0 := _) rfl eu3 rfl (Nat.le_of_ble_eq_true rfl) (d1 := d - 1) (b1 := 0) (s1 := 0) (bc' := bc) (bs' := bs) (Q1 := fun r h9 => r = .inl (some (.int v2)) ∧ h = h9) (by omega) (by omega) (by omega) (w_X6_isStrict (by omega) ev2 (fun _ _ q => q)) (fun E h9 q => nomatch (show (Sum.inr E : tq_R) = Sum.inl _ from q.1)) (fun r9 h9 q => ?_)
  obtain ⟨q1, rfl⟩ := q
  cases (show (Sum.inl r9 : tq_R) = Sum.inl (some (.int v2)) from q1)
  refine tq_if_eq (M := mX10_needLooseSchema) (pc := 7) (tgt := 21) dX10_needLooseSchema_7 (by decide) (fun cc => ?_) (fun cc => ?_)
  · have hf := tq_ifp hf cc
    refine tq_vret (M := mX10_needLooseSchema) (pc := 21) dX10_needLooseSchema_21 rfl ?_
    cases (Option.some.inj hf)
    exact hQ _ _ ⟨rfl, rfl⟩
  · have hf := tq_ifn hf cc
    have hb9 := hb _ _ (Option.some.inj hf).symm
    refine tq_throw (M := mX10_needLooseSchema) (pc := 10) (E := "java/lang/IllegalStateException") (ik := 149) (ic := 153) (is := 479) (text := "the schema is strict") (by decide +kernel) (by decide +kernel) rfl rfl dX10_needLooseSchema_10 dX10_needLooseSchema_13 dX10_needLooseSchema_14 dX10_needLooseSchema_17 dX10_needLooseSchema_20 (by omega) (by omega) (by omega) ?_
    cases (Option.some.inj hf)
    exact hQ _ _ ⟨rfl, rfl⟩
abbrev mX10_nameType : tq_M := (RX10, cX10_nameType, 3, (some .int), false, [], none)
def f_X10_nameType (t : Nat) (a1 : Int32) (a2 : Int32) (h : tq_H) : Option ((String ⊕ Int32) × tq_H) :=
  (tq_is h t 10).bind fun _ =>
  tq_tb (f_X10_needIndex t a1 (6 : Int32) h) fun _ w3 =>
  (tq_is w3 t 10).bind fun _ =>
  tq_tb (f_X10_needRange t a2 (-1 : Int32) (7 : Int32) w3) fun _ w6 =>
  (tq_is w6 t 10).bind fun _ =>
  tq_tb (f_X10_needLooseSchema t w6) fun _ w9 =>
  (tq_gr w9 t 10 6).bind fun k10 =>
  (tq_is w9 k10 6).bind fun _ =>
  (f_X6_giveName k10 a1 a2 w9).bind fun v11 =>
  some (.inr v11.1, v11.2)
set_option maxHeartbeats 4000000 in
set_option maxRecDepth 20000 in
theorem w_X10_nameType {l : Launch} {d : Nat} (hd9 : 7 ≤ d) {t : Nat} {a1 : Int32} {a2 : Int32} {bc bs : Nat} {h : tq_H} {o : (String ⊕ Int32) × tq_H} {Q : tq_R → tq_H → Prop} (hf : f_X10_nameType t a1 a2 h = some o) (hb : ∀ E g, o = (.inl E, g) → 1 ≤ bc ∧ 6 ≤ bs) (hQ : ∀ r h9, r = tq_enI o.1 ∧ o.2 = h9 → Q r h9) : tq_C l yX10_nameType cX10_nameType 3 (some .int) d (0 + bc) (0 + bs) [.ref t, .int a1, .int a2] h Q := by
  refine tq_body (y := yX10_nameType) false (by decide +kernel) (fun z => by cases z) (Nat.le_of_ble_eq_true rfl) ?_
  show tq_W l mX10_nameType d (0 + bc) (0 + bs) Q 0 [(0, .ref t), (1, .int a1), (2, .int a2)] [] h
  refine tq_more (bc := bc) (bs := bs) (by omega) (by omega) ?_
  refine tq_aload_n (M := mX10_nameType) (pc := 0) dX10_nameType_0 rfl ?_
  refine tq_iload_n (M := mX10_nameType) (pc := 1) dX10_nameType_1 rfl ?_
  refine tq_bipush (M := mX10_nameType) (pc := 2) dX10_nameType_2 tk_kb_6 ?_
  obtain ⟨⟨⟩, eu2, hf⟩ := tq_be hf
  obtain ⟨fsu2, eu2⟩ := tq_is_s eu2
  rcases tq_te hf with ⟨E1, g1, ev1, e9⟩ | ⟨v1, w3, ev1, hf⟩
  · have hb9 := hb _ _ e9
    refine tq_calV (M := mX10_nameType) (pc := 4) (S := []) tk_y_X10_needIndex tk_v_X10_needIndex tk_RX10_334 dX10_nameType_4 [.int a1, .int (6 : Int32)] rfl (S0 := _) rfl eu2 rfl (Nat.le_of_ble_eq_true rfl) (d1 := d - 1) (b1 := 0 + bc) (s1 := 0 + bs) (bc' := 0) (bs' := 0) (Q1 := fun r h9 => r = tq_enV ((.inl E1, g1) : (String ⊕ Unit) × tq_H).1 ∧ ((.inl E1, g1) : (String ⊕ Unit) × tq_H).2 = h9) (by omega) (by omega) (by omega) (w_X10_needIndex (bc := bc) (bs := bs) (by omega) ev1 (fun _ _ _ => hb9) (fun _ _ q => q)) (fun E h9 q => ?_) (fun r9 h9 q => nomatch (show (Sum.inl r9 : tq_R) = Sum.inr E1 from q.1))
    obtain ⟨q1, rfl⟩ := q
    cases (show (Sum.inr E : tq_R) = Sum.inr E1 from q1)
    subst e9
    exact tq_out rfl (hQ _ _ ⟨rfl, rfl⟩)
  · refine tq_calV (M := mX10_nameType) (pc := 4) (S := []) tk_y_X10_needIndex tk_v_X10_needIndex tk_RX10_334 dX10_nameType_4 [.int a1, .int (6 : Int32)] rfl (S0 := _) rfl eu2 rfl (Nat.le_of_ble_eq_true rfl) (d1 := d - 1) (b1 := 0 + 0) (s1 := 0 + 0) (bc' := bc) (bs' := bs) (Q1 := fun r h9 => r = tq_enV ((.inr (), w3) : (String ⊕ Unit) × tq_H).1 ∧ ((.inr (), w3) : (String ⊕ Unit) × tq_H).2 = h9) (by omega) (by omega) (by omega) (w_X10_needIndex (bc := 0) (bs := 0) (by omega) ev1 (fun E g z => by cases z) (fun _ _ q => q)) (fun E h9 q => nomatch (show (Sum.inr E : tq_R) = Sum.inl _ from q.1)) (fun r9 h9 q => ?_)
    obtain ⟨q1, rfl⟩ := q
    cases (show (Sum.inl r9 : tq_R) = Sum.inl (none) from q1)
    refine tq_aload_n (M := mX10_nameType) (pc := 7) dX10_nameType_7 rfl ?_
    refine tq_iload_n (M := mX10_nameType) (pc := 8) dX10_nameType_8 rfl ?_
    refine tq_iconst (M := mX10_nameType) (pc := 9) dX10_nameType_9 tk_ki_m1 ?_
    refine tq_bipush (M := mX10_nameType) (pc := 10) dX10_nameType_10 tk_kb_7 ?_
    obtain ⟨⟨⟩, eu5, hf⟩ := tq_be hf
    obtain ⟨fsu5, eu5⟩ := tq_is_s eu5
    rcases tq_te hf with ⟨E1, g1, ev4, e9⟩ | ⟨v4, w6, ev4, hf⟩
    · have hb9 := hb _ _ e9
      refine tq_calV (M := mX10_nameType) (pc := 12) (S := []) tk_y_X10_needRange tk_v_X10_needRange tk_RX10_132 dX10_nameType_12 [.int a2, .int (-1 : Int32), .int (7 : Int32)] rfl (S0 := _) rfl eu5 rfl (Nat.le_of_ble_eq_true rfl) (d1 := d - 1) (b1 := 0 + bc) (s1 := 0 + bs) (bc' := 0) (bs' := 0) (Q1 := fun r h9 => r = tq_enV ((.inl E1, g1) : (String ⊕ Unit) × tq_H).1 ∧ ((.inl E1, g1) : (String ⊕ Unit) × tq_H).2 = h9) (by omega) (by omega) (by omega) (w_X10_needRange (bc := bc) (bs := bs) (by omega) ev4 (fun _ _ _ => hb9) (fun _ _ q => q)) (fun E h9 q => ?_) (fun r9 h9 q => nomatch (show (Sum.inl r9 : tq_R) = Sum.inr E1 from q.1))
      obtain ⟨q1, rfl⟩ := q
      cases (show (Sum.inr E : tq_R) = Sum.inr E1 from q1)
      subst e9
      exact tq_out rfl (hQ _ _ ⟨rfl, rfl⟩)
    · refine tq_calV (M := mX10_nameType) (pc := 12) (S := []) tk_y_X10_needRange tk_v_X10_needRange tk_RX10_132 dX10_nameType_12 [.int a2, .int (-1 : Int32), .int (7 : Int32)] rfl (S0 := _) rfl eu5 rfl (Nat.le_of_ble_eq_true rfl) (d1 := d - 1) (b1 := 0 + 0) (s1 := 0 + 0) (bc' := bc) (bs' := bs) (Q1 := fun r h9 => r = tq_enV ((.inr (), w6) : (String ⊕ Unit) × tq_H).1 ∧ ((.inr (), w6) : (String ⊕ Unit) × tq_H).2 = h9) (by omega) (by omega) (by omega) (w_X10_needRange (bc := 0) (bs := 0) (by omega) ev4 (fun E g z => by cases z) (fun _ _ q => q)) (fun E h9 q => nomatch (show (Sum.inr E : tq_R) = Sum.inl _ from q.1)) (fun r9 h9 q => ?_)
      obtain ⟨q1, rfl⟩ := q
      cases (show (Sum.inl r9 : tq_R) = Sum.inl (none) from q1)
      refine tq_aload_n (M := mX10_nameType) (pc := 15) dX10_nameType_15 rfl ?_
      obtain ⟨⟨⟩, eu8, hf⟩ := tq_be hf
      obtain ⟨fsu8, eu8⟩ := tq_is_s eu8
      rcases tq_te hf with ⟨E1, g1, ev7, e9⟩ | ⟨v7, w9, ev7, hf⟩
      · have hb9 := hb _ _ e9
        refine tq_calV (M := mX10_nameType) (pc := 16) (S := []) tk_y_X10_needLooseSchema tk_v_X10_needLooseSchema tk_RX10_337 dX10_nameType_16 [] rfl (S0 := _) rfl eu8 rfl (Nat.le_of_ble_eq_true rfl) (d1 := d - 1) (b1 := 0 + bc) (s1 := 0 + bs) (bc' := 0) (bs' := 0) (Q1 := fun r h9 => r = tq_enV ((.inl E1, g1) : (String ⊕ Unit) × tq_H).1 ∧ ((.inl E1, g1) : (String ⊕ Unit) × tq_H).2 = h9) (by omega) (by omega) (by omega) (w_X10_needLooseSchema (bc := bc) (bs := bs) (by omega) ev7 (fun _ _ _ => hb9) (fun _ _ q => q)) (fun E h9 q => ?_) (fun r9 h9 q => nomatch (show (Sum.inl r9 : tq_R) = Sum.inr E1 from q.1))
        obtain ⟨q1, rfl⟩ := q
        cases (show (Sum.inr E : tq_R) = Sum.inr E1 from q1)
        subst e9
        exact tq_out rfl (hQ _ _ ⟨rfl, rfl⟩)
      · refine tq_calV (M := mX10_nameType) (pc := 16) (S := []) tk_y_X10_needLooseSchema tk_v_X10_needLooseSchema tk_RX10_337 dX10_nameType_16 [] rfl (S0 := _) rfl eu8 rfl (Nat.le_of_ble_eq_true rfl) (d1 := d - 1) (b1 := 0 + 0) (s1 := 0 + 0) (bc' := bc) (bs' := bs) (Q1 := fun r h9 => r = tq_enV ((.inr (), w9) : (String ⊕ Unit) × tq_H).1 ∧ ((.inr (), w9) : (String ⊕ Unit) × tq_H).2 = h9) (by omega) (by omega) (by omega) (w_X10_needLooseSchema (bc := 0) (bs := 0) (by omega) ev7 (fun E g z => by cases z) (fun _ _ q => q)) (fun E h9 q => nomatch (show (Sum.inr E : tq_R) = Sum.inl _ from q.1)) (fun r9 h9 q => ?_)
        obtain ⟨q1, rfl⟩ := q
        cases (show (Sum.inl r9 : tq_R) = Sum.inl (none) from q1)
        refine tq_aload_n (M := mX10_nameType) (pc := 19) dX10_nameType_19 rfl ?_
        obtain ⟨k10, ek10, hf⟩ := tq_be hf
        refine tq_getR (M := mX10_nameType) (pc := 20) tk_c10 (by decide) dX10_nameType_20 tk_RX10_48 rfl ek10 ?_
        refine tq_iload_n (M := mX10_nameType) (pc := 23) dX10_nameType_23 rfl ?_
        refine tq_iload_n (M := mX10_nameType) (pc := 24) dX10_nameType_24 rfl ?_
        obtain ⟨⟨⟩, eu12, hf⟩ := tq_be hf
        obtain ⟨fsu12, eu12⟩ := tq_is_s eu12
        obtain ⟨v11, ev11, hf⟩ := tq_be hf
        refine tq_calV (M := mX10_nameType) (pc := 25) (S := []) tk_y_X6_giveName tk_v_X6_giveName tk_RX10_340 dX10_nameType_25 [.int a1, .int a2] rfl (S0 := _) rfl eu12 rfl (Nat.le_of_ble_eq_true rfl) (d1 := d - 1) (b1 := 0) (s1 := 0) (bc' := bc) (bs' := bs) (Q1 := fun r h9 => r = .inl (some (.int v11.1)) ∧ v11.2 = h9) (by omega) (by omega) (by omega) (w_X6_giveName (by omega) ev11 (fun _ _ q => q)) (fun E h9 q => nomatch (show (Sum.inr E : tq_R) = Sum.inl _ from q.1)) (fun r9 h9 q => ?_)
        obtain ⟨q1, rfl⟩ := q
        cases (show (Sum.inl r9 : tq_R) = Sum.inl (some (.int v11.1)) from q1)
        refine tq_iret (M := mX10_nameType) (pc := 28) dX10_nameType_28 rfl ?_
        cases (Option.some.inj hf)
        exact hQ _ _ ⟨rfl, rfl⟩
abbrev mX10_arc : tq_M := (RX10, cX10_arc, 5, (some .boolean), false, [], none)
def f_X10_arc (t : Nat) (a1 : Int32) (a2 : Int32) (a3 : Int32) (a4 : Int32) (h : tq_H) : Option ((String ⊕ Int32) × tq_H) :=
  (tq_is h t 10).bind fun _ =>
  tq_tb (f_X10_needIndex t a1 (6 : Int32) h) fun _ w3 =>
  (tq_is w3 t 10).bind fun _ =>
  tq_tb (f_X10_needIndex t a2 (4 : Int32) w3) fun _ w6 =>
  (tq_is w6 t 10).bind fun _ =>
  tq_tb (f_X10_needIndex t a3 (6 : Int32) w6) fun _ w9 =>
  (tq_is w9 t 10).bind fun _ =>
  tq_tb (f_X10_needIndex t a4 (4 : Int32) w9) fun _ w12 =>
  (tq_is w12 t 10).bind fun _ =>
  tq_tb (f_X10_needLooseSchema t w12) fun _ w15 =>
  (tq_gr w15 t 10 6).bind fun k16 =>
  (tq_is w15 k16 6).bind fun _ =>
  (f_X6_toggleArc k16 a1 a2 a3 a4 w15).bind fun v17 =>
  (tq_bz v17.1).bind fun z19 =>
  some (.inr z19, v17.2)
set_option maxHeartbeats 4000000 in
set_option maxRecDepth 20000 in
theorem w_X10_arc {l : Launch} {d : Nat} (hd9 : 7 ≤ d) {t : Nat} {a1 : Int32} {a2 : Int32} {a3 : Int32} {a4 : Int32} {bc bs : Nat} {h : tq_H} {o : (String ⊕ Int32) × tq_H} {Q : tq_R → tq_H → Prop} (hf : f_X10_arc t a1 a2 a3 a4 h = some o) (hb : ∀ E g, o = (.inl E, g) → 1 ≤ bc ∧ 6 ≤ bs) (hQ : ∀ r h9, r = tq_enI o.1 ∧ o.2 = h9 → Q r h9) : tq_C l yX10_arc cX10_arc 5 (some .boolean) d (0 + bc) (0 + bs) [.ref t, .int a1, .int a2, .int a3, .int a4] h Q := by
  refine tq_body (y := yX10_arc) false (by decide +kernel) (fun z => by cases z) (Nat.le_of_ble_eq_true rfl) ?_
  show tq_W l mX10_arc d (0 + bc) (0 + bs) Q 0 [(0, .ref t), (1, .int a1), (2, .int a2), (3, .int a3), (4, .int a4)] [] h
  refine tq_more (bc := bc) (bs := bs) (by omega) (by omega) ?_
  refine tq_aload_n (M := mX10_arc) (pc := 0) dX10_arc_0 rfl ?_
  refine tq_iload_n (M := mX10_arc) (pc := 1) dX10_arc_1 rfl ?_
  refine tq_bipush (M := mX10_arc) (pc := 2) dX10_arc_2 tk_kb_6 ?_
  obtain ⟨⟨⟩, eu2, hf⟩ := tq_be hf
  obtain ⟨fsu2, eu2⟩ := tq_is_s eu2
  rcases tq_te hf with ⟨E1, g1, ev1, e9⟩ | ⟨v1, w3, ev1, hf⟩
  · have hb9 := hb _ _ e9
    refine tq_calV (M := mX10_arc) (pc := 4) (S := []) tk_y_X10_needIndex tk_v_X10_needIndex tk_RX10_334 dX10_arc_4 [.int a1, .int (6 : Int32)] rfl (S0 := _) rfl eu2 rfl (Nat.le_of_ble_eq_true rfl) (d1 := d - 1) (b1 := 0 + bc) (s1 := 0 + bs) (bc' := 0) (bs' := 0) (Q1 := fun r h9 => r = tq_enV ((.inl E1, g1) : (String ⊕ Unit) × tq_H).1 ∧ ((.inl E1, g1) : (String ⊕ Unit) × tq_H).2 = h9) (by omega) (by omega) (by omega) (w_X10_needIndex (bc := bc) (bs := bs) (by omega) ev1 (fun _ _ _ => hb9) (fun _ _ q => q)) (fun E h9 q => ?_) (fun r9 h9 q => nomatch (show (Sum.inl r9 : tq_R) = Sum.inr E1 from q.1))
    obtain ⟨q1, rfl⟩ := q
    cases (show (Sum.inr E : tq_R) = Sum.inr E1 from q1)
    subst e9
    exact tq_out rfl (hQ _ _ ⟨rfl, rfl⟩)
  · refine tq_calV (M := mX10_arc) (pc := 4) (S := []) tk_y_X10_needIndex tk_v_X10_needIndex tk_RX10_334 dX10_arc_4 [.int a1, .int (6 : Int32)] rfl (S0 := _) rfl eu2 rfl (Nat.le_of_ble_eq_true rfl) (d1 := d - 1) (b1 := 0 + 0) (s1 := 0 + 0) (bc' := bc) (bs' := bs) (Q1 := fun r h9 => r = tq_enV ((.inr (), w3) : (String ⊕ Unit) × tq_H).1 ∧ ((.inr (), w3) : (String ⊕ Unit) × tq_H).2 = h9) (by omega) (by omega) (by omega) (w_X10_needIndex (bc := 0) (bs := 0) (by omega) ev1 (fun E g z => by cases z) (fun _ _ q => q)) (fun E h9 q => nomatch (show (Sum.inr E : tq_R) = Sum.inl _ from q.1)) (fun r9 h9 q => ?_)
    obtain ⟨q1, rfl⟩ := q
    cases (show (Sum.inl r9 : tq_R) = Sum.inl (none) from q1)
    refine tq_aload_n (M := mX10_arc) (pc := 7) dX10_arc_7 rfl ?_
    refine tq_iload_n (M := mX10_arc) (pc := 8) dX10_arc_8 rfl ?_
    refine tq_iconst (M := mX10_arc) (pc := 9) dX10_arc_9 tk_ki_4 ?_
    obtain ⟨⟨⟩, eu5, hf⟩ := tq_be hf
    obtain ⟨fsu5, eu5⟩ := tq_is_s eu5
    rcases tq_te hf with ⟨E1, g1, ev4, e9⟩ | ⟨v4, w6, ev4, hf⟩
    · have hb9 := hb _ _ e9
      refine tq_calV (M := mX10_arc) (pc := 10) (S := []) tk_y_X10_needIndex tk_v_X10_needIndex tk_RX10_334 dX10_arc_10 [.int a2, .int (4 : Int32)] rfl (S0 := _) rfl eu5 rfl (Nat.le_of_ble_eq_true rfl) (d1 := d - 1) (b1 := 0 + bc) (s1 := 0 + bs) (bc' := 0) (bs' := 0) (Q1 := fun r h9 => r = tq_enV ((.inl E1, g1) : (String ⊕ Unit) × tq_H).1 ∧ ((.inl E1, g1) : (String ⊕ Unit) × tq_H).2 = h9) (by omega) (by omega) (by omega) (w_X10_needIndex (bc := bc) (bs := bs) (by omega) ev4 (fun _ _ _ => hb9) (fun _ _ q => q)) (fun E h9 q => ?_) (fun r9 h9 q => nomatch (show (Sum.inl r9 : tq_R) = Sum.inr E1 from q.1))
      obtain ⟨q1, rfl⟩ := q
      cases (show (Sum.inr E : tq_R) = Sum.inr E1 from q1)
      subst e9
      exact tq_out rfl (hQ _ _ ⟨rfl, rfl⟩)
    · refine tq_calV (M := mX10_arc) (pc := 10) (S := []) tk_y_X10_needIndex tk_v_X10_needIndex tk_RX10_334 dX10_arc_10 [.int a2, .int (4 : Int32)] rfl (S0 := _) rfl eu5 rfl (Nat.le_of_ble_eq_true rfl) (d1 := d - 1) (b1 := 0 + 0) (s1 := 0 + 0) (bc' := bc) (bs' := bs) (Q1 := fun r h9 => r = tq_enV ((.inr (), w6) : (String ⊕ Unit) × tq_H).1 ∧ ((.inr (), w6) : (String ⊕ Unit) × tq_H).2 = h9) (by omega) (by omega) (by omega) (w_X10_needIndex (bc := 0) (bs := 0) (by omega) ev4 (fun E g z => by cases z) (fun _ _ q => q)) (fun E h9 q => nomatch (show (Sum.inr E : tq_R) = Sum.inl _ from q.1)) (fun r9 h9 q => ?_)
      obtain ⟨q1, rfl⟩ := q
      cases (show (Sum.inl r9 : tq_R) = Sum.inl (none) from q1)
      refine tq_aload_n (M := mX10_arc) (pc := 13) dX10_arc_13 rfl ?_
      refine tq_iload_n (M := mX10_arc) (pc := 14) dX10_arc_14 rfl ?_
      refine tq_bipush (M := mX10_arc) (pc := 15) dX10_arc_15 tk_kb_6 ?_
      obtain ⟨⟨⟩, eu8, hf⟩ := tq_be hf
      obtain ⟨fsu8, eu8⟩ := tq_is_s eu8
      rcases tq_te hf with ⟨E1, g1, ev7, e9⟩ | ⟨v7, w9, ev7, hf⟩
      · have hb9 := hb _ _ e9
        refine tq_calV (M := mX10_arc) (pc := 17) (S := []) tk_y_X10_needIndex tk_v_X10_needIndex tk_RX10_334 dX10_arc_17 [.int a3, .int (6 : Int32)] rfl (S0 := _) rfl eu8 rfl (Nat.le_of_ble_eq_true rfl) (d1 := d - 1) (b1 := 0 + bc) (s1 := 0 + bs) (bc' := 0) (bs' := 0) (Q1 := fun r h9 => r = tq_enV ((.inl E1, g1) : (String ⊕ Unit) × tq_H).1 ∧ ((.inl E1, g1) : (String ⊕ Unit) × tq_H).2 = h9) (by omega) (by omega) (by omega) (w_X10_needIndex (bc := bc) (bs := bs) (by omega) ev7 (fun _ _ _ => hb9) (fun _ _ q => q)) (fun E h9 q => ?_) (fun r9 h9 q => nomatch (show (Sum.inl r9 : tq_R) = Sum.inr E1 from q.1))
        obtain ⟨q1, rfl⟩ := q
        cases (show (Sum.inr E : tq_R) = Sum.inr E1 from q1)
        subst e9
        exact tq_out rfl (hQ _ _ ⟨rfl, rfl⟩)
      · refine tq_calV (M := mX10_arc) (pc := 17) (S := []) tk_y_X10_needIndex tk_v_X10_needIndex tk_RX10_334 dX10_arc_17 [.int a3, .int (6 : Int32)] rfl (S0 := _) rfl eu8 rfl (Nat.le_of_ble_eq_true rfl) (d1 := d - 1) (b1 := 0 + 0) (s1 := 0 + 0) (bc' := bc) (bs' := bs) (Q1 := fun r h9 => r = tq_enV ((.inr (), w9) : (String ⊕ Unit) × tq_H).1 ∧ ((.inr (), w9) : (String ⊕ Unit) × tq_H).2 = h9) (by omega) (by omega) (by omega) (w_X10_needIndex (bc := 0) (bs := 0) (by omega) ev7 (fun E g z => by cases z) (fun _ _ q => q)) (fun E h9 q => nomatch (show (Sum.inr E : tq_R) = Sum.inl _ from q.1)) (fun r9 h9 q => ?_)
        obtain ⟨q1, rfl⟩ := q
        cases (show (Sum.inl r9 : tq_R) = Sum.inl (none) from q1)
        refine tq_aload_n (M := mX10_arc) (pc := 20) dX10_arc_20 rfl ?_
        refine tq_iload (M := mX10_arc) (pc := 21) dX10_arc_21 rfl ?_
        refine tq_iconst (M := mX10_arc) (pc := 23) dX10_arc_23 tk_ki_4 ?_
        obtain ⟨⟨⟩, eu11, hf⟩ := tq_be hf
        obtain ⟨fsu11, eu11⟩ := tq_is_s eu11
        rcases tq_te hf with ⟨E1, g1, ev10, e9⟩ | ⟨v10, w12, ev10, hf⟩
        · have hb9 := hb _ _ e9
          refine tq_calV (M := mX10_arc) (pc := 24) (S := []) tk_y_X10_needIndex tk_v_X10_needIndex tk_RX10_334 dX10_arc_24 [.int a4, .int (4 : Int32)] rfl (S0 := _) rfl eu11 rfl (Nat.le_of_ble_eq_true rfl) (d1 := d - 1) (b1 := 0 + bc) (s1 := 0 + bs) (bc' := 0) (bs' := 0) (Q1 := fun r h9 => r = tq_enV ((.inl E1, g1) : (String ⊕ Unit) × tq_H).1 ∧ ((.inl E1, g1) : (String ⊕ Unit) × tq_H).2 = h9) (by omega) (by omega) (by omega) (w_X10_needIndex (bc := bc) (bs := bs) (by omega) ev10 (fun _ _ _ => hb9) (fun _ _ q => q)) (fun E h9 q => ?_) (fun r9 h9 q => nomatch (show (Sum.inl r9 : tq_R) = Sum.inr E1 from q.1))
          obtain ⟨q1, rfl⟩ := q
          cases (show (Sum.inr E : tq_R) = Sum.inr E1 from q1)
          subst e9
          exact tq_out rfl (hQ _ _ ⟨rfl, rfl⟩)
        · refine tq_calV (M := mX10_arc) (pc := 24) (S := []) tk_y_X10_needIndex tk_v_X10_needIndex tk_RX10_334 dX10_arc_24 [.int a4, .int (4 : Int32)] rfl (S0 := _) rfl eu11 rfl (Nat.le_of_ble_eq_true rfl) (d1 := d - 1) (b1 := 0 + 0) (s1 := 0 + 0) (bc' := bc) (bs' := bs) (Q1 := fun r h9 => r = tq_enV ((.inr (), w12) : (String ⊕ Unit) × tq_H).1 ∧ ((.inr (), w12) : (String ⊕ Unit) × tq_H).2 = h9) (by omega) (by omega) (by omega) (w_X10_needIndex (bc := 0) (bs := 0) (by omega) ev10 (fun E g z => by cases z) (fun _ _ q => q)) (fun E h9 q => nomatch (show (Sum.inr E : tq_R) = Sum.inl _ from q.1)) (fun r9 h9 q => ?_)
          obtain ⟨q1, rfl⟩ := q
          cases (show (Sum.inl r9 : tq_R) = Sum.inl (none) from q1)
          refine tq_aload_n (M := mX10_arc) (pc := 27) dX10_arc_27 rfl ?_
          obtain ⟨⟨⟩, eu14, hf⟩ := tq_be hf
          obtain ⟨fsu14, eu14⟩ := tq_is_s eu14
          rcases tq_te hf with ⟨E1, g1, ev13, e9⟩ | ⟨v13, w15, ev13, hf⟩
          · have hb9 := hb _ _ e9
            refine tq_calV (M := mX10_arc) (pc := 28) (S := []) tk_y_X10_needLooseSchema tk_v_X10_needLooseSchema tk_RX10_337 dX10_arc_28 [] rfl (S0 := _) rfl eu14 rfl (Nat.le_of_ble_eq_true rfl) (d1 := d - 1) (b1 := 0 + bc) (s1 := 0 + bs) (bc' := 0) (bs' := 0) (Q1 := fun r h9 => r = tq_enV ((.inl E1, g1) : (String ⊕ Unit) × tq_H).1 ∧ ((.inl E1, g1) : (String ⊕ Unit) × tq_H).2 = h9) (by omega) (by omega) (by omega) (w_X10_needLooseSchema (bc := bc) (bs := bs) (by omega) ev13 (fun _ _ _ => hb9) (fun _ _ q => q)) (fun E h9 q => ?_) (fun r9 h9 q => nomatch (show (Sum.inl r9 : tq_R) = Sum.inr E1 from q.1))
            obtain ⟨q1, rfl⟩ := q
            cases (show (Sum.inr E : tq_R) = Sum.inr E1 from q1)
            subst e9
            exact tq_out rfl (hQ _ _ ⟨rfl, rfl⟩)
          · refine tq_calV (M := mX10_arc) (pc := 28) (S := []) tk_y_X10_needLooseSchema tk_v_X10_needLooseSchema tk_RX10_337 dX10_arc_28 [] rfl (S0 := _) rfl eu14 rfl (Nat.le_of_ble_eq_true rfl) (d1 := d - 1) (b1 := 0 + 0) (s1 := 0 + 0) (bc' := bc) (bs' := bs) (Q1 := fun r h9 => r = tq_enV ((.inr (), w15) : (String ⊕ Unit) × tq_H).1 ∧ ((.inr (), w15) : (String ⊕ Unit) × tq_H).2 = h9) (by omega) (by omega) (by omega) (w_X10_needLooseSchema (bc := 0) (bs := 0) (by omega) ev13 (fun E g z => by cases z) (fun _ _ q => q)) (fun E h9 q => nomatch (show (Sum.inr E : tq_R) = Sum.inl _ from q.1)) (fun r9 h9 q => ?_)
            obtain ⟨q1, rfl⟩ := q
            cases (show (Sum.inl r9 : tq_R) = Sum.inl (none) from q1)
            refine tq_aload_n (M := mX10_arc) (pc := 31) dX10_arc_31 rfl ?_
            obtain ⟨k16, ek16, hf⟩ := tq_be hf
            refine tq_getR (M := mX10_arc) (pc := 32) tk_c10 (by decide) dX10_arc_32 tk_RX10_48 rfl ek16 ?_
            refine tq_iload_n (M := mX10_arc) (pc := 35) dX10_arc_35 rfl ?_
            refine tq_iload_n (M := mX10_arc) (pc := 36) dX10_arc_36 rfl ?_
            refine tq_iload_n (M := mX10_arc) (pc := 37) dX10_arc_37 rfl ?_
            refine tq_iload (M := mX10_arc) (pc := 38) dX10_arc_38 rfl ?_
            obtain ⟨⟨⟩, eu18, hf⟩ := tq_be hf
            obtain ⟨fsu18, eu18⟩ := tq_is_s eu18
            obtain ⟨v17, ev17, hf⟩ := tq_be hf
            refine tq_calV (M := mX10_arc) (pc := 40) (S := []) tk_y_X6_toggleArc tk_v_X6_toggleArc tk_RX10_343 dX10_arc_40 [.int a1, .int a2, .int a3, .int a4] rfl (S0 := _) rfl eu18 rfl (Nat.le_of_ble_eq_true rfl) (d1 := d - 1) (b1 := 0) (s1 := 0) (bc' := bc) (bs' := bs) (Q1 := fun r h9 => r = .inl (some (.int v17.1)) ∧ v17.2 = h9) (by omega) (by omega) (by omega) (w_X6_toggleArc (by omega) ev17 (fun _ _ q => q)) (fun E h9 q => nomatch (show (Sum.inr E : tq_R) = Sum.inl _ from q.1)) (fun r9 h9 q => ?_)
            obtain ⟨q1, rfl⟩ := q
            cases (show (Sum.inl r9 : tq_R) = Sum.inl (some (.int v17.1)) from q1)
            obtain ⟨z19, ez19, hf⟩ := tq_be hf
            refine tq_zretB (M := mX10_arc) (pc := 43) dX10_arc_43 rfl ez19 ?_
            cases (Option.some.inj hf)
            exact hQ _ _ ⟨rfl, rfl⟩
abbrev mX10_setFinal : tq_M := (RX10, cX10_setFinal, 4, (some .boolean), false, [], none)
def f_X10_setFinal (t : Nat) (a1 : Int32) (a2 : Int32) (a3 : Int32) (h : tq_H) : Option ((String ⊕ Int32) × tq_H) :=
  (tq_is h t 10).bind fun _ =>
  tq_tb (f_X10_needIndex t a1 (6 : Int32) h) fun _ w3 =>
  (tq_is w3 t 10).bind fun _ =>
  tq_tb (f_X10_needIndex t a2 (4 : Int32) w3) fun _ w6 =>
  (tq_is w6 t 10).bind fun _ =>
  tq_tb (f_X10_needLooseSchema t w6) fun _ w9 =>
  (tq_gr w9 t 10 6).bind fun k10 =>
  (tq_is w9 k10 6).bind fun _ =>
  (f_X6_markFinal k10 a1 a2 a3 w9).bind fun v11 =>
  (tq_bz v11.1).bind fun z13 =>
  some (.inr z13, v11.2)
set_option maxHeartbeats 4000000 in
set_option maxRecDepth 20000 in
theorem w_X10_setFinal {l : Launch} {d : Nat} (hd9 : 7 ≤ d) {t : Nat} {a1 : Int32} {a2 : Int32} {a3 : Int32} {bc bs : Nat} {h : tq_H} {o : (String ⊕ Int32) × tq_H} {Q : tq_R → tq_H → Prop} (hf : f_X10_setFinal t a1 a2 a3 h = some o) (hb : ∀ E g, o = (.inl E, g) → 1 ≤ bc ∧ 6 ≤ bs) (hQ : ∀ r h9, r = tq_enI o.1 ∧ o.2 = h9 → Q r h9) : tq_C l yX10_setFinal cX10_setFinal 4 (some .boolean) d (0 + bc) (0 + bs) [.ref t, .int a1, .int a2, .int a3] h Q := by
  refine tq_body (y := yX10_setFinal) false (by decide +kernel) (fun z => by cases z) (Nat.le_of_ble_eq_true rfl) ?_
  show tq_W l mX10_setFinal d (0 + bc) (0 + bs) Q 0 [(0, .ref t), (1, .int a1), (2, .int a2), (3, .int a3)] [] h
  refine tq_more (bc := bc) (bs := bs) (by omega) (by omega) ?_
  refine tq_aload_n (M := mX10_setFinal) (pc := 0) dX10_setFinal_0 rfl ?_
  refine tq_iload_n (M := mX10_setFinal) (pc := 1) dX10_setFinal_1 rfl ?_
  refine tq_bipush (M := mX10_setFinal) (pc := 2) dX10_setFinal_2 tk_kb_6 ?_
  obtain ⟨⟨⟩, eu2, hf⟩ := tq_be hf
  obtain ⟨fsu2, eu2⟩ := tq_is_s eu2
  rcases tq_te hf with ⟨E1, g1, ev1, e9⟩ | ⟨v1, w3, ev1, hf⟩
  · have hb9 := hb _ _ e9
    refine tq_calV (M := mX10_setFinal) (pc := 4) (S := []) tk_y_X10_needIndex tk_v_X10_needIndex tk_RX10_334 dX10_setFinal_4 [.int a1, .int (6 : Int32)] rfl (S0 := _) rfl eu2 rfl (Nat.le_of_ble_eq_true rfl) (d1 := d - 1) (b1 := 0 + bc) (s1 := 0 + bs) (bc' := 0) (bs' := 0) (Q1 := fun r h9 => r = tq_enV ((.inl E1, g1) : (String ⊕ Unit) × tq_H).1 ∧ ((.inl E1, g1) : (String ⊕ Unit) × tq_H).2 = h9) (by omega) (by omega) (by omega) (w_X10_needIndex (bc := bc) (bs := bs) (by omega) ev1 (fun _ _ _ => hb9) (fun _ _ q => q)) (fun E h9 q => ?_) (fun r9 h9 q => nomatch (show (Sum.inl r9 : tq_R) = Sum.inr E1 from q.1))
    obtain ⟨q1, rfl⟩ := q
    cases (show (Sum.inr E : tq_R) = Sum.inr E1 from q1)
    subst e9
    exact tq_out rfl (hQ _ _ ⟨rfl, rfl⟩)
  · refine tq_calV (M := mX10_setFinal) (pc := 4) (S := []) tk_y_X10_needIndex tk_v_X10_needIndex tk_RX10_334 dX10_setFinal_4 [.int a1, .int (6 : Int32)] rfl (S0 := _) rfl eu2 rfl (Nat.le_of_ble_eq_true rfl) (d1 := d - 1) (b1 := 0 + 0) (s1 := 0 + 0) (bc' := bc) (bs' := bs) (Q1 := fun r h9 => r = tq_enV ((.inr (), w3) : (String ⊕ Unit) × tq_H).1 ∧ ((.inr (), w3) : (String ⊕ Unit) × tq_H).2 = h9) (by omega) (by omega) (by omega) (w_X10_needIndex (bc := 0) (bs := 0) (by omega) ev1 (fun E g z => by cases z) (fun _ _ q => q)) (fun E h9 q => nomatch (show (Sum.inr E : tq_R) = Sum.inl _ from q.1)) (fun r9 h9 q => ?_)
    obtain ⟨q1, rfl⟩ := q
    cases (show (Sum.inl r9 : tq_R) = Sum.inl (none) from q1)
    refine tq_aload_n (M := mX10_setFinal) (pc := 7) dX10_setFinal_7 rfl ?_
    refine tq_iload_n (M := mX10_setFinal) (pc := 8) dX10_setFinal_8 rfl ?_
    refine tq_iconst (M := mX10_setFinal) (pc := 9) dX10_setFinal_9 tk_ki_4 ?_
    obtain ⟨⟨⟩, eu5, hf⟩ := tq_be hf
    obtain ⟨fsu5, eu5⟩ := tq_is_s eu5
    rcases tq_te hf with ⟨E1, g1, ev4, e9⟩ | ⟨v4, w6, ev4, hf⟩
    · have hb9 := hb _ _ e9
      refine tq_calV (M := mX10_setFinal) (pc := 10) (S := []) tk_y_X10_needIndex tk_v_X10_needIndex tk_RX10_334 dX10_setFinal_10 [.int a2, .int (4 : Int32)] rfl (S0 := _) rfl eu5 rfl (Nat.le_of_ble_eq_true rfl) (d1 := d - 1) (b1 := 0 + bc) (s1 := 0 + bs) (bc' := 0) (bs' := 0) (Q1 := fun r h9 => r = tq_enV ((.inl E1, g1) : (String ⊕ Unit) × tq_H).1 ∧ ((.inl E1, g1) : (String ⊕ Unit) × tq_H).2 = h9) (by omega) (by omega) (by omega) (w_X10_needIndex (bc := bc) (bs := bs) (by omega) ev4 (fun _ _ _ => hb9) (fun _ _ q => q)) (fun E h9 q => ?_) (fun r9 h9 q => nomatch (show (Sum.inl r9 : tq_R) = Sum.inr E1 from q.1))
      obtain ⟨q1, rfl⟩ := q
      cases (show (Sum.inr E : tq_R) = Sum.inr E1 from q1)
      subst e9
      exact tq_out rfl (hQ _ _ ⟨rfl, rfl⟩)
    · refine tq_calV (M := mX10_setFinal) (pc := 10) (S := []) tk_y_X10_needIndex tk_v_X10_needIndex tk_RX10_334 dX10_setFinal_10 [.int a2, .int (4 : Int32)] rfl (S0 := _) rfl eu5 rfl (Nat.le_of_ble_eq_true rfl) (d1 := d - 1) (b1 := 0 + 0) (s1 := 0 + 0) (bc' := bc) (bs' := bs) (Q1 := fun r h9 => r = tq_enV ((.inr (), w6) : (String ⊕ Unit) × tq_H).1 ∧ ((.inr (), w6) : (String ⊕ Unit) × tq_H).2 = h9) (by omega) (by omega) (by omega) (w_X10_needIndex (bc := 0) (bs := 0) (by omega) ev4 (fun E g z => by cases z) (fun _ _ q => q)) (fun E h9 q => nomatch (show (Sum.inr E : tq_R) = Sum.inl _ from q.1)) (fun r9 h9 q => ?_)
      obtain ⟨q1, rfl⟩ := q
      cases (show (Sum.inl r9 : tq_R) = Sum.inl (none) from q1)
      refine tq_aload_n (M := mX10_setFinal) (pc := 13) dX10_setFinal_13 rfl ?_
      obtain ⟨⟨⟩, eu8, hf⟩ := tq_be hf
      obtain ⟨fsu8, eu8⟩ := tq_is_s eu8
      rcases tq_te hf with ⟨E1, g1, ev7, e9⟩ | ⟨v7, w9, ev7, hf⟩
      · have hb9 := hb _ _ e9
        refine tq_calV (M := mX10_setFinal) (pc := 14) (S := []) tk_y_X10_needLooseSchema tk_v_X10_needLooseSchema tk_RX10_337 dX10_setFinal_14 [] rfl (S0 := _) rfl eu8 rfl (Nat.le_of_ble_eq_true rfl) (d1 := d - 1) (b1 := 0 + bc) (s1 := 0 + bs) (bc' := 0) (bs' := 0) (Q1 := fun r h9 => r = tq_enV ((.inl E1, g1) : (String ⊕ Unit) × tq_H).1 ∧ ((.inl E1, g1) : (String ⊕ Unit) × tq_H).2 = h9) (by omega) (by omega) (by omega) (w_X10_needLooseSchema (bc := bc) (bs := bs) (by omega) ev7 (fun _ _ _ => hb9) (fun _ _ q => q)) (fun E h9 q => ?_) (fun r9 h9 q => nomatch (show (Sum.inl r9 : tq_R) = Sum.inr E1 from q.1))
        obtain ⟨q1, rfl⟩ := q
        cases (show (Sum.inr E : tq_R) = Sum.inr E1 from q1)
        subst e9
        exact tq_out rfl (hQ _ _ ⟨rfl, rfl⟩)
      · refine tq_calV (M := mX10_setFinal) (pc := 14) (S := []) tk_y_X10_needLooseSchema tk_v_X10_needLooseSchema tk_RX10_337 dX10_setFinal_14 [] rfl (S0 := _) rfl eu8 rfl (Nat.le_of_ble_eq_true rfl) (d1 := d - 1) (b1 := 0 + 0) (s1 := 0 + 0) (bc' := bc) (bs' := bs) (Q1 := fun r h9 => r = tq_enV ((.inr (), w9) : (String ⊕ Unit) × tq_H).1 ∧ ((.inr (), w9) : (String ⊕ Unit) × tq_H).2 = h9) (by omega) (by omega) (by omega) (w_X10_needLooseSchema (bc := 0) (bs := 0) (by omega) ev7 (fun E g z => by cases z) (fun _ _ q => q)) (fun E h9 q => nomatch (show (Sum.inr E : tq_R) = Sum.inl _ from q.1)) (fun r9 h9 q => ?_)
        obtain ⟨q1, rfl⟩ := q
        cases (show (Sum.inl r9 : tq_R) = Sum.inl (none) from q1)
        refine tq_aload_n (M := mX10_setFinal) (pc := 17) dX10_setFinal_17 rfl ?_
        obtain ⟨k10, ek10, hf⟩ := tq_be hf
        refine tq_getR (M := mX10_setFinal) (pc := 18) tk_c10 (by decide) dX10_setFinal_18 tk_RX10_48 rfl ek10 ?_
        refine tq_iload_n (M := mX10_setFinal) (pc := 21) dX10_setFinal_21 rfl ?_
        refine tq_iload_n (M := mX10_setFinal) (pc := 22) dX10_setFinal_22 rfl ?_
        refine tq_iload_n (M := mX10_setFinal) (pc := 23) dX10_setFinal_23 rfl ?_
        obtain ⟨⟨⟩, eu12, hf⟩ := tq_be hf
        obtain ⟨fsu12, eu12⟩ := tq_is_s eu12
        obtain ⟨v11, ev11, hf⟩ := tq_be hf
        refine tq_calV (M := mX10_setFinal) (pc := 24) (S := []) tk_y_X6_markFinal tk_v_X6_markFinal tk_RX10_347 dX10_setFinal_24 [.int a1, .int a2, .int a3] rfl (S0 := _) rfl eu12 rfl (Nat.le_of_ble_eq_true rfl) (d1 := d - 1) (b1 := 0) (s1 := 0) (bc' := bc) (bs' := bs) (Q1 := fun r h9 => r = .inl (some (.int v11.1)) ∧ v11.2 = h9) (by omega) (by omega) (by omega) (w_X6_markFinal (by omega) ev11 (fun _ _ q => q)) (fun E h9 q => nomatch (show (Sum.inr E : tq_R) = Sum.inl _ from q.1)) (fun r9 h9 q => ?_)
        obtain ⟨q1, rfl⟩ := q
        cases (show (Sum.inl r9 : tq_R) = Sum.inl (some (.int v11.1)) from q1)
        obtain ⟨z13, ez13, hf⟩ := tq_be hf
        refine tq_zretB (M := mX10_setFinal) (pc := 27) dX10_setFinal_27 rfl ez13 ?_
        cases (Option.some.inj hf)
        exact hQ _ _ ⟨rfl, rfl⟩
abbrev mX10_allowTexts : tq_M := (RX10, cX10_allowTexts, 3, (some .boolean), false, [], none)
def f_X10_allowTexts (t : Nat) (a1 : Int32) (a2 : Int32) (h : tq_H) : Option ((String ⊕ Int32) × tq_H) :=
  (tq_is h t 10).bind fun _ =>
  tq_tb (f_X10_needIndex t a1 (6 : Int32) h) fun _ w3 =>
  (tq_is w3 t 10).bind fun _ =>
  tq_tb (f_X10_needLooseSchema t w3) fun _ w6 =>
  (tq_gr w6 t 10 6).bind fun k7 =>
  (tq_is w6 k7 6).bind fun _ =>
  (f_X6_markTexts k7 a1 a2 w6).bind fun v8 =>
  (tq_bz v8.1).bind fun z10 =>
  some (.inr z10, v8.2)
set_option maxHeartbeats 4000000 in
set_option maxRecDepth 20000 in
theorem w_X10_allowTexts {l : Launch} {d : Nat} (hd9 : 7 ≤ d) {t : Nat} {a1 : Int32} {a2 : Int32} {bc bs : Nat} {h : tq_H} {o : (String ⊕ Int32) × tq_H} {Q : tq_R → tq_H → Prop} (hf : f_X10_allowTexts t a1 a2 h = some o) (hb : ∀ E g, o = (.inl E, g) → 1 ≤ bc ∧ 6 ≤ bs) (hQ : ∀ r h9, r = tq_enI o.1 ∧ o.2 = h9 → Q r h9) : tq_C l yX10_allowTexts cX10_allowTexts 3 (some .boolean) d (0 + bc) (0 + bs) [.ref t, .int a1, .int a2] h Q := by
  refine tq_body (y := yX10_allowTexts) false (by decide +kernel) (fun z => by cases z) (Nat.le_of_ble_eq_true rfl) ?_
  show tq_W l mX10_allowTexts d (0 + bc) (0 + bs) Q 0 [(0, .ref t), (1, .int a1), (2, .int a2)] [] h
  refine tq_more (bc := bc) (bs := bs) (by omega) (by omega) ?_
  refine tq_aload_n (M := mX10_allowTexts) (pc := 0) dX10_allowTexts_0 rfl ?_
  refine tq_iload_n (M := mX10_allowTexts) (pc := 1) dX10_allowTexts_1 rfl ?_
  refine tq_bipush (M := mX10_allowTexts) (pc := 2) dX10_allowTexts_2 tk_kb_6 ?_
  obtain ⟨⟨⟩, eu2, hf⟩ := tq_be hf
  obtain ⟨fsu2, eu2⟩ := tq_is_s eu2
  rcases tq_te hf with ⟨E1, g1, ev1, e9⟩ | ⟨v1, w3, ev1, hf⟩
  · have hb9 := hb _ _ e9
    refine tq_calV (M := mX10_allowTexts) (pc := 4) (S := []) tk_y_X10_needIndex tk_v_X10_needIndex tk_RX10_334 dX10_allowTexts_4 [.int a1, .int (6 : Int32)] rfl (S0 := _) rfl eu2 rfl (Nat.le_of_ble_eq_true rfl) (d1 := d - 1) (b1 := 0 + bc) (s1 := 0 + bs) (bc' := 0) (bs' := 0) (Q1 := fun r h9 => r = tq_enV ((.inl E1, g1) : (String ⊕ Unit) × tq_H).1 ∧ ((.inl E1, g1) : (String ⊕ Unit) × tq_H).2 = h9) (by omega) (by omega) (by omega) (w_X10_needIndex (bc := bc) (bs := bs) (by omega) ev1 (fun _ _ _ => hb9) (fun _ _ q => q)) (fun E h9 q => ?_) (fun r9 h9 q => nomatch (show (Sum.inl r9 : tq_R) = Sum.inr E1 from q.1))
    obtain ⟨q1, rfl⟩ := q
    cases (show (Sum.inr E : tq_R) = Sum.inr E1 from q1)
    subst e9
    exact tq_out rfl (hQ _ _ ⟨rfl, rfl⟩)
  · refine tq_calV (M := mX10_allowTexts) (pc := 4) (S := []) tk_y_X10_needIndex tk_v_X10_needIndex tk_RX10_334 dX10_allowTexts_4 [.int a1, .int (6 : Int32)] rfl (S0 := _) rfl eu2 rfl (Nat.le_of_ble_eq_true rfl) (d1 := d - 1) (b1 := 0 + 0) (s1 := 0 + 0) (bc' := bc) (bs' := bs) (Q1 := fun r h9 => r = tq_enV ((.inr (), w3) : (String ⊕ Unit) × tq_H).1 ∧ ((.inr (), w3) : (String ⊕ Unit) × tq_H).2 = h9) (by omega) (by omega) (by omega) (w_X10_needIndex (bc := 0) (bs := 0) (by omega) ev1 (fun E g z => by cases z) (fun _ _ q => q)) (fun E h9 q => nomatch (show (Sum.inr E : tq_R) = Sum.inl _ from q.1)) (fun r9 h9 q => ?_)
    obtain ⟨q1, rfl⟩ := q
    cases (show (Sum.inl r9 : tq_R) = Sum.inl (none) from q1)
    refine tq_aload_n (M := mX10_allowTexts) (pc := 7) dX10_allowTexts_7 rfl ?_
    obtain ⟨⟨⟩, eu5, hf⟩ := tq_be hf
    obtain ⟨fsu5, eu5⟩ := tq_is_s eu5
    rcases tq_te hf with ⟨E1, g1, ev4, e9⟩ | ⟨v4, w6, ev4, hf⟩
    · have hb9 := hb _ _ e9
      refine tq_calV (M := mX10_allowTexts) (pc := 8) (S := []) tk_y_X10_needLooseSchema tk_v_X10_needLooseSchema tk_RX10_337 dX10_allowTexts_8 [] rfl (S0 := _) rfl eu5 rfl (Nat.le_of_ble_eq_true rfl) (d1 := d - 1) (b1 := 0 + bc) (s1 := 0 + bs) (bc' := 0) (bs' := 0) (Q1 := fun r h9 => r = tq_enV ((.inl E1, g1) : (String ⊕ Unit) × tq_H).1 ∧ ((.inl E1, g1) : (String ⊕ Unit) × tq_H).2 = h9) (by omega) (by omega) (by omega) (w_X10_needLooseSchema (bc := bc) (bs := bs) (by omega) ev4 (fun _ _ _ => hb9) (fun _ _ q => q)) (fun E h9 q => ?_) (fun r9 h9 q => nomatch (show (Sum.inl r9 : tq_R) = Sum.inr E1 from q.1))
      obtain ⟨q1, rfl⟩ := q
      cases (show (Sum.inr E : tq_R) = Sum.inr E1 from q1)
      subst e9
      exact tq_out rfl (hQ _ _ ⟨rfl, rfl⟩)
    · refine tq_calV (M := mX10_allowTexts) (pc := 8) (S := []) tk_y_X10_needLooseSchema tk_v_X10_needLooseSchema tk_RX10_337 dX10_allowTexts_8 [] rfl (S0 := _) rfl eu5 rfl (Nat.le_of_ble_eq_true rfl) (d1 := d - 1) (b1 := 0 + 0) (s1 := 0 + 0) (bc' := bc) (bs' := bs) (Q1 := fun r h9 => r = tq_enV ((.inr (), w6) : (String ⊕ Unit) × tq_H).1 ∧ ((.inr (), w6) : (String ⊕ Unit) × tq_H).2 = h9) (by omega) (by omega) (by omega) (w_X10_needLooseSchema (bc := 0) (bs := 0) (by omega) ev4 (fun E g z => by cases z) (fun _ _ q => q)) (fun E h9 q => nomatch (show (Sum.inr E : tq_R) = Sum.inl _ from q.1)) (fun r9 h9 q => ?_)
      obtain ⟨q1, rfl⟩ := q
      cases (show (Sum.inl r9 : tq_R) = Sum.inl (none) from q1)
      refine tq_aload_n (M := mX10_allowTexts) (pc := 11) dX10_allowTexts_11 rfl ?_
      obtain ⟨k7, ek7, hf⟩ := tq_be hf
      refine tq_getR (M := mX10_allowTexts) (pc := 12) tk_c10 (by decide) dX10_allowTexts_12 tk_RX10_48 rfl ek7 ?_
      refine tq_iload_n (M := mX10_allowTexts) (pc := 15) dX10_allowTexts_15 rfl ?_
      refine tq_iload_n (M := mX10_allowTexts) (pc := 16) dX10_allowTexts_16 rfl ?_
      obtain ⟨⟨⟩, eu9, hf⟩ := tq_be hf
      obtain ⟨fsu9, eu9⟩ := tq_is_s eu9
      obtain ⟨v8, ev8, hf⟩ := tq_be hf
      refine tq_calV (M := mX10_allowTexts) (pc := 17) (S := []) tk_y_X6_markTexts tk_v_X6_markTexts tk_RX10_351 dX10_allowTexts_17 [.int a1, .int a2] rfl (S0 := _) rfl eu9 rfl (Nat.le_of_ble_eq_true rfl) (d1 := d - 1) (b1 := 0) (s1 := 0) (bc' := bc) (bs' := bs) (Q1 := fun r h9 => r = .inl (some (.int v8.1)) ∧ v8.2 = h9) (by omega) (by omega) (by omega) (w_X6_markTexts (by omega) ev8 (fun _ _ q => q)) (fun E h9 q => nomatch (show (Sum.inr E : tq_R) = Sum.inl _ from q.1)) (fun r9 h9 q => ?_)
      obtain ⟨q1, rfl⟩ := q
      cases (show (Sum.inl r9 : tq_R) = Sum.inl (some (.int v8.1)) from q1)
      obtain ⟨z10, ez10, hf⟩ := tq_be hf
      refine tq_zretB (M := mX10_allowTexts) (pc := 20) dX10_allowTexts_20 rfl ez10 ?_
      cases (Option.some.inj hf)
      exact hQ _ _ ⟨rfl, rfl⟩
abbrev mX10_attribute : tq_M := (RX10, cX10_attribute, 4, (some .int), false, [], none)
def f_X10_attribute (t : Nat) (a1 : Int32) (a2 : Int32) (a3 : Int32) (h : tq_H) : Option ((String ⊕ Int32) × tq_H) :=
  (tq_is h t 10).bind fun _ =>
  tq_tb (f_X10_needIndex t a1 (6 : Int32) h) fun _ w3 =>
  (tq_is w3 t 10).bind fun _ =>
  tq_tb (f_X10_needRange t a2 (0 : Int32) (7 : Int32) w3) fun _ w6 =>
  (tq_is w6 t 10).bind fun _ =>
  tq_tb (f_X10_needRange t a3 (0 : Int32) (2 : Int32) w6) fun _ w9 =>
  (tq_is w9 t 10).bind fun _ =>
  tq_tb (f_X10_needLooseSchema t w9) fun _ w12 =>
  (tq_gr w12 t 10 6).bind fun k13 =>
  (tq_is w12 k13 6).bind fun _ =>
  (f_X6_giveRule k13 a1 a2 a3 w12).bind fun v14 =>
  some (.inr v14.1, v14.2)
set_option maxHeartbeats 4000000 in
set_option maxRecDepth 20000 in
theorem w_X10_attribute {l : Launch} {d : Nat} (hd9 : 7 ≤ d) {t : Nat} {a1 : Int32} {a2 : Int32} {a3 : Int32} {bc bs : Nat} {h : tq_H} {o : (String ⊕ Int32) × tq_H} {Q : tq_R → tq_H → Prop} (hf : f_X10_attribute t a1 a2 a3 h = some o) (hb : ∀ E g, o = (.inl E, g) → 1 ≤ bc ∧ 6 ≤ bs) (hQ : ∀ r h9, r = tq_enI o.1 ∧ o.2 = h9 → Q r h9) : tq_C l yX10_attribute cX10_attribute 4 (some .int) d (0 + bc) (0 + bs) [.ref t, .int a1, .int a2, .int a3] h Q := by
  refine tq_body (y := yX10_attribute) false (by decide +kernel) (fun z => by cases z) (Nat.le_of_ble_eq_true rfl) ?_
  show tq_W l mX10_attribute d (0 + bc) (0 + bs) Q 0 [(0, .ref t), (1, .int a1), (2, .int a2), (3, .int a3)] [] h
  refine tq_more (bc := bc) (bs := bs) (by omega) (by omega) ?_
  refine tq_aload_n (M := mX10_attribute) (pc := 0) dX10_attribute_0 rfl ?_
  refine tq_iload_n (M := mX10_attribute) (pc := 1) dX10_attribute_1 rfl ?_
  refine tq_bipush (M := mX10_attribute) (pc := 2) dX10_attribute_2 tk_kb_6 ?_
  obtain ⟨⟨⟩, eu2, hf⟩ := tq_be hf
  obtain ⟨fsu2, eu2⟩ := tq_is_s eu2
  rcases tq_te hf with ⟨E1, g1, ev1, e9⟩ | ⟨v1, w3, ev1, hf⟩
  · have hb9 := hb _ _ e9
    refine tq_calV (M := mX10_attribute) (pc := 4) (S := []) tk_y_X10_needIndex tk_v_X10_needIndex tk_RX10_334 dX10_attribute_4 [.int a1, .int (6 : Int32)] rfl (S0 := _) rfl eu2 rfl (Nat.le_of_ble_eq_true rfl) (d1 := d - 1) (b1 := 0 + bc) (s1 := 0 + bs) (bc' := 0) (bs' := 0) (Q1 := fun r h9 => r = tq_enV ((.inl E1, g1) : (String ⊕ Unit) × tq_H).1 ∧ ((.inl E1, g1) : (String ⊕ Unit) × tq_H).2 = h9) (by omega) (by omega) (by omega) (w_X10_needIndex (bc := bc) (bs := bs) (by omega) ev1 (fun _ _ _ => hb9) (fun _ _ q => q)) (fun E h9 q => ?_) (fun r9 h9 q => nomatch (show (Sum.inl r9 : tq_R) = Sum.inr E1 from q.1))
    obtain ⟨q1, rfl⟩ := q
    cases (show (Sum.inr E : tq_R) = Sum.inr E1 from q1)
    subst e9
    exact tq_out rfl (hQ _ _ ⟨rfl, rfl⟩)
  · refine tq_calV (M := mX10_attribute) (pc := 4) (S := []) tk_y_X10_needIndex tk_v_X10_needIndex tk_RX10_334 dX10_attribute_4 [.int a1, .int (6 : Int32)] rfl (S0 := _) rfl eu2 rfl (Nat.le_of_ble_eq_true rfl) (d1 := d - 1) (b1 := 0 + 0) (s1 := 0 + 0) (bc' := bc) (bs' := bs) (Q1 := fun r h9 => r = tq_enV ((.inr (), w3) : (String ⊕ Unit) × tq_H).1 ∧ ((.inr (), w3) : (String ⊕ Unit) × tq_H).2 = h9) (by omega) (by omega) (by omega) (w_X10_needIndex (bc := 0) (bs := 0) (by omega) ev1 (fun E g z => by cases z) (fun _ _ q => q)) (fun E h9 q => nomatch (show (Sum.inr E : tq_R) = Sum.inl _ from q.1)) (fun r9 h9 q => ?_)
    obtain ⟨q1, rfl⟩ := q
    cases (show (Sum.inl r9 : tq_R) = Sum.inl (none) from q1)
    refine tq_aload_n (M := mX10_attribute) (pc := 7) dX10_attribute_7 rfl ?_
    refine tq_iload_n (M := mX10_attribute) (pc := 8) dX10_attribute_8 rfl ?_
    refine tq_iconst (M := mX10_attribute) (pc := 9) dX10_attribute_9 tk_ki_0 ?_
    refine tq_bipush (M := mX10_attribute) (pc := 10) dX10_attribute_10 tk_kb_7 ?_
    obtain ⟨⟨⟩, eu5, hf⟩ := tq_be hf
    obtain ⟨fsu5, eu5⟩ := tq_is_s eu5
    rcases tq_te hf with ⟨E1, g1, ev4, e9⟩ | ⟨v4, w6, ev4, hf⟩
    · have hb9 := hb _ _ e9
      refine tq_calV (M := mX10_attribute) (pc := 12) (S := []) tk_y_X10_needRange tk_v_X10_needRange tk_RX10_132 dX10_attribute_12 [.int a2, .int (0 : Int32), .int (7 : Int32)] rfl (S0 := _) rfl eu5 rfl (Nat.le_of_ble_eq_true rfl) (d1 := d - 1) (b1 := 0 + bc) (s1 := 0 + bs) (bc' := 0) (bs' := 0) (Q1 := fun r h9 => r = tq_enV ((.inl E1, g1) : (String ⊕ Unit) × tq_H).1 ∧ ((.inl E1, g1) : (String ⊕ Unit) × tq_H).2 = h9) (by omega) (by omega) (by omega) (w_X10_needRange (bc := bc) (bs := bs) (by omega) ev4 (fun _ _ _ => hb9) (fun _ _ q => q)) (fun E h9 q => ?_) (fun r9 h9 q => nomatch (show (Sum.inl r9 : tq_R) = Sum.inr E1 from q.1))
      obtain ⟨q1, rfl⟩ := q
      cases (show (Sum.inr E : tq_R) = Sum.inr E1 from q1)
      subst e9
      exact tq_out rfl (hQ _ _ ⟨rfl, rfl⟩)
    · refine tq_calV (M := mX10_attribute) (pc := 12) (S := []) tk_y_X10_needRange tk_v_X10_needRange tk_RX10_132 dX10_attribute_12 [.int a2, .int (0 : Int32), .int (7 : Int32)] rfl (S0 := _) rfl eu5 rfl (Nat.le_of_ble_eq_true rfl) (d1 := d - 1) (b1 := 0 + 0) (s1 := 0 + 0) (bc' := bc) (bs' := bs) (Q1 := fun r h9 => r = tq_enV ((.inr (), w6) : (String ⊕ Unit) × tq_H).1 ∧ ((.inr (), w6) : (String ⊕ Unit) × tq_H).2 = h9) (by omega) (by omega) (by omega) (w_X10_needRange (bc := 0) (bs := 0) (by omega) ev4 (fun E g z => by cases z) (fun _ _ q => q)) (fun E h9 q => nomatch (show (Sum.inr E : tq_R) = Sum.inl _ from q.1)) (fun r9 h9 q => ?_)
      obtain ⟨q1, rfl⟩ := q
      cases (show (Sum.inl r9 : tq_R) = Sum.inl (none) from q1)
      refine tq_aload_n (M := mX10_attribute) (pc := 15) dX10_attribute_15 rfl ?_
      refine tq_iload_n (M := mX10_attribute) (pc := 16) dX10_attribute_16 rfl ?_
      refine tq_iconst (M := mX10_attribute) (pc := 17) dX10_attribute_17 tk_ki_0 ?_
      refine tq_iconst (M := mX10_attribute) (pc := 18) dX10_attribute_18 tk_ki_2 ?_
      obtain ⟨⟨⟩, eu8, hf⟩ := tq_be hf
      obtain ⟨fsu8, eu8⟩ := tq_is_s eu8
      rcases tq_te hf with ⟨E1, g1, ev7, e9⟩ | ⟨v7, w9, ev7, hf⟩
      · have hb9 := hb _ _ e9
        refine tq_calV (M := mX10_attribute) (pc := 19) (S := []) tk_y_X10_needRange tk_v_X10_needRange tk_RX10_132 dX10_attribute_19 [.int a3, .int (0 : Int32), .int (2 : Int32)] rfl (S0 := _) rfl eu8 rfl (Nat.le_of_ble_eq_true rfl) (d1 := d - 1) (b1 := 0 + bc) (s1 := 0 + bs) (bc' := 0) (bs' := 0) (Q1 := fun r h9 => r = tq_enV ((.inl E1, g1) : (String ⊕ Unit) × tq_H).1 ∧ ((.inl E1, g1) : (String ⊕ Unit) × tq_H).2 = h9) (by omega) (by omega) (by omega) (w_X10_needRange (bc := bc) (bs := bs) (by omega) ev7 (fun _ _ _ => hb9) (fun _ _ q => q)) (fun E h9 q => ?_) (fun r9 h9 q => nomatch (show (Sum.inl r9 : tq_R) = Sum.inr E1 from q.1))
        obtain ⟨q1, rfl⟩ := q
        cases (show (Sum.inr E : tq_R) = Sum.inr E1 from q1)
        subst e9
        exact tq_out rfl (hQ _ _ ⟨rfl, rfl⟩)
      · refine tq_calV (M := mX10_attribute) (pc := 19) (S := []) tk_y_X10_needRange tk_v_X10_needRange tk_RX10_132 dX10_attribute_19 [.int a3, .int (0 : Int32), .int (2 : Int32)] rfl (S0 := _) rfl eu8 rfl (Nat.le_of_ble_eq_true rfl) (d1 := d - 1) (b1 := 0 + 0) (s1 := 0 + 0) (bc' := bc) (bs' := bs) (Q1 := fun r h9 => r = tq_enV ((.inr (), w9) : (String ⊕ Unit) × tq_H).1 ∧ ((.inr (), w9) : (String ⊕ Unit) × tq_H).2 = h9) (by omega) (by omega) (by omega) (w_X10_needRange (bc := 0) (bs := 0) (by omega) ev7 (fun E g z => by cases z) (fun _ _ q => q)) (fun E h9 q => nomatch (show (Sum.inr E : tq_R) = Sum.inl _ from q.1)) (fun r9 h9 q => ?_)
        obtain ⟨q1, rfl⟩ := q
        cases (show (Sum.inl r9 : tq_R) = Sum.inl (none) from q1)
        refine tq_aload_n (M := mX10_attribute) (pc := 22) dX10_attribute_22 rfl ?_
        obtain ⟨⟨⟩, eu11, hf⟩ := tq_be hf
        obtain ⟨fsu11, eu11⟩ := tq_is_s eu11
        rcases tq_te hf with ⟨E1, g1, ev10, e9⟩ | ⟨v10, w12, ev10, hf⟩
        · have hb9 := hb _ _ e9
          refine tq_calV (M := mX10_attribute) (pc := 23) (S := []) tk_y_X10_needLooseSchema tk_v_X10_needLooseSchema tk_RX10_337 dX10_attribute_23 [] rfl (S0 := _) rfl eu11 rfl (Nat.le_of_ble_eq_true rfl) (d1 := d - 1) (b1 := 0 + bc) (s1 := 0 + bs) (bc' := 0) (bs' := 0) (Q1 := fun r h9 => r = tq_enV ((.inl E1, g1) : (String ⊕ Unit) × tq_H).1 ∧ ((.inl E1, g1) : (String ⊕ Unit) × tq_H).2 = h9) (by omega) (by omega) (by omega) (w_X10_needLooseSchema (bc := bc) (bs := bs) (by omega) ev10 (fun _ _ _ => hb9) (fun _ _ q => q)) (fun E h9 q => ?_) (fun r9 h9 q => nomatch (show (Sum.inl r9 : tq_R) = Sum.inr E1 from q.1))
          obtain ⟨q1, rfl⟩ := q
          cases (show (Sum.inr E : tq_R) = Sum.inr E1 from q1)
          subst e9
          exact tq_out rfl (hQ _ _ ⟨rfl, rfl⟩)
        · refine tq_calV (M := mX10_attribute) (pc := 23) (S := []) tk_y_X10_needLooseSchema tk_v_X10_needLooseSchema tk_RX10_337 dX10_attribute_23 [] rfl (S0 := _) rfl eu11 rfl (Nat.le_of_ble_eq_true rfl) (d1 := d - 1) (b1 := 0 + 0) (s1 := 0 + 0) (bc' := bc) (bs' := bs) (Q1 := fun r h9 => r = tq_enV ((.inr (), w12) : (String ⊕ Unit) × tq_H).1 ∧ ((.inr (), w12) : (String ⊕ Unit) × tq_H).2 = h9) (by omega) (by omega) (by omega) (w_X10_needLooseSchema (bc := 0) (bs := 0) (by omega) ev10 (fun E g z => by cases z) (fun _ _ q => q)) (fun E h9 q => nomatch (show (Sum.inr E : tq_R) = Sum.inl _ from q.1)) (fun r9 h9 q => ?_)
          obtain ⟨q1, rfl⟩ := q
          cases (show (Sum.inl r9 : tq_R) = Sum.inl (none) from q1)
          refine tq_aload_n (M := mX10_attribute) (pc := 26) dX10_attribute_26 rfl ?_
          obtain ⟨k13, ek13, hf⟩ := tq_be hf
          refine tq_getR (M := mX10_attribute) (pc := 27) tk_c10 (by decide) dX10_attribute_27 tk_RX10_48 rfl ek13 ?_
          refine tq_iload_n (M := mX10_attribute) (pc := 30) dX10_attribute_30 rfl ?_
          refine tq_iload_n (M := mX10_attribute) (pc := 31) dX10_attribute_31 rfl ?_
          refine tq_iload_n (M := mX10_attribute) (pc := 32) dX10_attribute_32 rfl ?_
          obtain ⟨⟨⟩, eu15, hf⟩ := tq_be hf
          obtain ⟨fsu15, eu15⟩ := tq_is_s eu15
          obtain ⟨v14, ev14, hf⟩ := tq_be hf
          refine tq_calV (M := mX10_attribute) (pc := 33) (S := []) tk_y_X6_giveRule tk_v_X6_giveRule tk_RX10_355 dX10_attribute_33 [.int a1, .int a2, .int a3] rfl (S0 := _) rfl eu15 rfl (Nat.le_of_ble_eq_true rfl) (d1 := d - 1) (b1 := 0) (s1 := 0) (bc' := bc) (bs' := bs) (Q1 := fun r h9 => r = .inl (some (.int v14.1)) ∧ v14.2 = h9) (by omega) (by omega) (by omega) (w_X6_giveRule (by omega) ev14 (fun _ _ q => q)) (fun E h9 q => nomatch (show (Sum.inr E : tq_R) = Sum.inl _ from q.1)) (fun r9 h9 q => ?_)
          obtain ⟨q1, rfl⟩ := q
          cases (show (Sum.inl r9 : tq_R) = Sum.inl (some (.int v14.1)) from q1)
          refine tq_iret (M := mX10_attribute) (pc := 36) dX10_attribute_36 rfl ?_
          cases (Option.some.inj hf)
          exact hQ _ _ ⟨rfl, rfl⟩
abbrev mX10_setStrict : tq_M := (RX10, cX10_setStrict, 2, (some .boolean), false, [], none)
def f_X10_setStrict (t : Nat) (a1 : Int32) (h : tq_H) : Option ((String ⊕ Int32) × tq_H) :=
  if a1 = 0 then
    (tq_gr h t 10 6).bind fun k1 =>
    (tq_is h k1 6).bind fun _ =>
    (f_X6_markStrict k1 a1 h).bind fun v2 =>
    (tq_bz v2.1).bind fun z4 =>
    some (.inr z4, v2.2)
  else
    (tq_gr h t 10 6).bind fun k5 =>
    (tq_gr h t 10 0).bind fun k6 =>
    (tq_is h k5 6).bind fun _ =>
    (f_X6_admits k5 k6 h).bind fun v7 =>
    if v7.1 = 0 then
      some (.inl "java/lang/IllegalStateException", v7.2)
    else
      (tq_gr v7.2 t 10 6).bind fun k9 =>
      (tq_is v7.2 k9 6).bind fun _ =>
      (f_X6_markStrict k9 a1 v7.2).bind fun v10 =>
      (tq_bz v10.1).bind fun z12 =>
      some (.inr z12, v10.2)
set_option maxHeartbeats 4000000 in
set_option maxRecDepth 20000 in
theorem w_X10_setStrict {l : Launch} {d : Nat} (hd9 : 6 ≤ d) {t : Nat} {a1 : Int32} {bc bs : Nat} {h : tq_H} {o : (String ⊕ Int32) × tq_H} {Q : tq_R → tq_H → Prop} (hf : f_X10_setStrict t a1 h = some o) (hb : ∀ E g, o = (.inl E, g) → 1 ≤ bc ∧ 6 ≤ bs) (hQ : ∀ r h9, r = tq_enI o.1 ∧ o.2 = h9 → Q r h9) : tq_C l yX10_setStrict cX10_setStrict 2 (some .boolean) d (0 + bc) (0 + bs) [.ref t, .int a1] h Q := by
  refine tq_body (y := yX10_setStrict) false (by decide +kernel) (fun z => by cases z) (Nat.le_of_ble_eq_true rfl) ?_
  show tq_W l mX10_setStrict d (0 + bc) (0 + bs) Q 0 [(0, .ref t), (1, .int a1)] [] h
  refine tq_more (bc := bc) (bs := bs) (by omega) (by omega) ?_
  refine tq_iload_n (M := mX10_setStrict) (pc := 0) dX10_setStrict_0 rfl ?_
  refine tq_if_eq (M := mX10_setStrict) (pc := 1) (tgt := 29) dX10_setStrict_1 (by decide) (fun cc => ?_) (fun cc => ?_)
  · have hf := tq_ifp hf cc
    refine tq_aload_n (M := mX10_setStrict) (pc := 29) dX10_setStrict_29 rfl ?_
    obtain ⟨k1, ek1, hf⟩ := tq_be hf
    refine tq_getR (M := mX10_setStrict) (pc := 30) tk_c10 (by decide) dX10_setStrict_30 tk_RX10_48 rfl ek1 ?_
    refine tq_iload_n (M := mX10_setStrict) (pc := 33) dX10_setStrict_33 rfl ?_
    obtain ⟨⟨⟩, eu3, hf⟩ := tq_be hf
    obtain ⟨fsu3, eu3⟩ := tq_is_s eu3
    obtain ⟨v2, ev2, hf⟩ := tq_be hf
    refine tq_calV (M := mX10_setStrict) (pc := 34) (S := []) tk_y_X6_markStrict tk_v_X6_markStrict tk_RX10_360 dX10_setStrict_34 [.int a1] rfl (S0 := _) rfl eu3 rfl (Nat.le_of_ble_eq_true rfl) (d1 := d - 1) (b1 := 0) (s1 := 0) (bc' := bc) (bs' := bs) (Q1 := fun r h9 => r = .inl (some (.int v2.1)) ∧ v2.2 = h9) (by omega) (by omega) (by omega) (w_X6_markStrict (by omega) ev2 (fun _ _ q => q)) (fun E h9 q => nomatch (show (Sum.inr E : tq_R) = Sum.inl _ from q.1)) (fun r9 h9 q => ?_)
    obtain ⟨q1, rfl⟩ := q
    cases (show (Sum.inl r9 : tq_R) = Sum.inl (some (.int v2.1)) from q1)
    obtain ⟨z4, ez4, hf⟩ := tq_be hf
    refine tq_zretB (M := mX10_setStrict) (pc := 37) dX10_setStrict_37 rfl ez4 ?_
    cases (Option.some.inj hf)
    exact hQ _ _ ⟨rfl, rfl⟩
  · have hf := tq_ifn hf cc
    refine tq_aload_n (M := mX10_setStrict) (pc := 4) dX10_setStrict_4 rfl ?_
    obtain ⟨k5, ek5, hf⟩ := tq_be hf
    refine tq_getR (M := mX10_setStrict) (pc := 5) tk_c10 (by decide) dX10_setStrict_5 tk_RX10_48 rfl ek5 ?_
    refine tq_aload_n (M := mX10_setStrict) (pc := 8) dX10_setStrict_8 rfl ?_
    obtain ⟨k6, ek6, hf⟩ := tq_be hf
    refine tq_getR (M := mX10_setStrict) (pc := 9) tk_c10 (by decide) dX10_setStrict_9 tk_RX10_12 rfl ek6 ?_
    obtain ⟨⟨⟩, eu8, hf⟩ := tq_be hf
    obtain ⟨fsu8, eu8⟩ := tq_is_s eu8
    obtain ⟨v7, ev7, hf⟩ := tq_be hf
    refine tq_calV (M := mX10_setStrict) (pc := 12) (S := []) tk_y_X6_admits tk_v_X6_admits tk_RX10_197 dX10_setStrict_12 [.ref k6] rfl (S0 := _) rfl eu8 rfl (Nat.le_of_ble_eq_true rfl) (d1 := d - 1) (b1 := 0) (s1 := 0) (bc' := bc) (bs' := bs) (Q1 := fun r h9 => r = .inl (some (.int v7.1)) ∧ v7.2 = h9) (by omega) (by omega) (by omega) (w_X6_admits (by omega) ev7 (fun _ _ q => q)) (fun E h9 q => nomatch (show (Sum.inr E : tq_R) = Sum.inl _ from q.1)) (fun r9 h9 q => ?_)
    obtain ⟨q1, rfl⟩ := q
    cases (show (Sum.inl r9 : tq_R) = Sum.inl (some (.int v7.1)) from q1)
    refine tq_if_ne (M := mX10_setStrict) (pc := 15) (tgt := 29) dX10_setStrict_15 (by decide) (fun cc => ?_) (fun cc => ?_)
    · have hf := tq_ifn hf cc
      refine tq_aload_n (M := mX10_setStrict) (pc := 29) dX10_setStrict_29 rfl ?_
      obtain ⟨k9, ek9, hf⟩ := tq_be hf
      refine tq_getR (M := mX10_setStrict) (pc := 30) tk_c10 (by decide) dX10_setStrict_30 tk_RX10_48 rfl ek9 ?_
      refine tq_iload_n (M := mX10_setStrict) (pc := 33) dX10_setStrict_33 rfl ?_
      obtain ⟨⟨⟩, eu11, hf⟩ := tq_be hf
      obtain ⟨fsu11, eu11⟩ := tq_is_s eu11
      obtain ⟨v10, ev10, hf⟩ := tq_be hf
      refine tq_calV (M := mX10_setStrict) (pc := 34) (S := []) tk_y_X6_markStrict tk_v_X6_markStrict tk_RX10_360 dX10_setStrict_34 [.int a1] rfl (S0 := _) rfl eu11 rfl (Nat.le_of_ble_eq_true rfl) (d1 := d - 1) (b1 := 0) (s1 := 0) (bc' := bc) (bs' := bs) (Q1 := fun r h9 => r = .inl (some (.int v10.1)) ∧ v10.2 = h9) (by omega) (by omega) (by omega) (w_X6_markStrict (by omega) ev10 (fun _ _ q => q)) (fun E h9 q => nomatch (show (Sum.inr E : tq_R) = Sum.inl _ from q.1)) (fun r9 h9 q => ?_)
      obtain ⟨q1, rfl⟩ := q
      cases (show (Sum.inl r9 : tq_R) = Sum.inl (some (.int v10.1)) from q1)
      obtain ⟨z12, ez12, hf⟩ := tq_be hf
      refine tq_zretB (M := mX10_setStrict) (pc := 37) dX10_setStrict_37 rfl ez12 ?_
      cases (Option.some.inj hf)
      exact hQ _ _ ⟨rfl, rfl⟩
    · have hf := tq_ifp hf cc
      have hb9 := hb _ _ (Option.some.inj hf).symm
      refine tq_throw (M := mX10_setStrict) (pc := 18) (E := "java/lang/IllegalStateException") (ik := 149) (ic := 153) (is := 358) (text := "the tree is not valid") (by decide +kernel) (by decide +kernel) rfl rfl dX10_setStrict_18 dX10_setStrict_21 dX10_setStrict_22 dX10_setStrict_25 dX10_setStrict_28 (by omega) (by omega) (by omega) ?_
      cases (Option.some.inj hf)
      exact hQ _ _ ⟨rfl, rfl⟩
abbrev mX10_isValid : tq_M := (RX10, cX10_isValid, 1, (some .boolean), false, [], none)
def f_X10_isValid (t : Nat) (h : tq_H) : Option (Int32 × tq_H) :=
  (tq_gr h t 10 6).bind fun k1 =>
  (tq_gr h t 10 0).bind fun k2 =>
  (tq_is h k1 6).bind fun _ =>
  (f_X6_admits k1 k2 h).bind fun v3 =>
  (tq_bz v3.1).bind fun z5 =>
  some (z5, v3.2)
set_option maxHeartbeats 4000000 in
set_option maxRecDepth 20000 in
theorem w_X10_isValid {l : Launch} {d : Nat} (hd9 : 6 ≤ d) {t : Nat} {h : tq_H} {o : Int32 × tq_H} {Q : tq_R → tq_H → Prop} (hf : f_X10_isValid t h = some o) (hQ : ∀ r h9, r = .inl (some (.int o.1)) ∧ o.2 = h9 → Q r h9) : tq_C l yX10_isValid cX10_isValid 1 (some .boolean) d 0 0 [.ref t] h Q := by
  refine tq_body (y := yX10_isValid) false (by decide +kernel) (fun z => by cases z) (Nat.le_of_ble_eq_true rfl) ?_
  show tq_W l mX10_isValid d 0 0 Q 0 [(0, .ref t)] [] h
  refine tq_aload_n (M := mX10_isValid) (pc := 0) dX10_isValid_0 rfl ?_
  obtain ⟨k1, ek1, hf⟩ := tq_be hf
  refine tq_getR (M := mX10_isValid) (pc := 1) tk_c10 (by decide) dX10_isValid_1 tk_RX10_48 rfl ek1 ?_
  refine tq_aload_n (M := mX10_isValid) (pc := 4) dX10_isValid_4 rfl ?_
  obtain ⟨k2, ek2, hf⟩ := tq_be hf
  refine tq_getR (M := mX10_isValid) (pc := 5) tk_c10 (by decide) dX10_isValid_5 tk_RX10_12 rfl ek2 ?_
  obtain ⟨⟨⟩, eu4, hf⟩ := tq_be hf
  obtain ⟨fsu4, eu4⟩ := tq_is_s eu4
  obtain ⟨v3, ev3, hf⟩ := tq_be hf
  refine tq_calV (M := mX10_isValid) (pc := 8) (S := []) tk_y_X6_admits tk_v_X6_admits tk_RX10_197 dX10_isValid_8 [.ref k2] rfl (S0 := _) rfl eu4 rfl (Nat.le_of_ble_eq_true rfl) (d1 := d - 1) (b1 := 0) (s1 := 0) (bc' := 0) (bs' := 0) (Q1 := fun r h9 => r = .inl (some (.int v3.1)) ∧ v3.2 = h9) (by omega) rfl rfl (w_X6_admits (by omega) ev3 (fun _ _ q => q)) (fun E h9 q => nomatch (show (Sum.inr E : tq_R) = Sum.inl _ from q.1)) (fun r9 h9 q => ?_)
  obtain ⟨q1, rfl⟩ := q
  cases (show (Sum.inl r9 : tq_R) = Sum.inl (some (.int v3.1)) from q1)
  obtain ⟨z5, ez5, hf⟩ := tq_be hf
  refine tq_zretB (M := mX10_isValid) (pc := 11) dX10_isValid_11 rfl ez5 ?_
  cases (Option.some.inj hf)
  exact hQ _ _ ⟨rfl, rfl⟩
abbrev mX10_types : tq_M := (RX10, cX10_types, 2, (some .int), false, [], none)
def f_X10_types (t : Nat) (a1 : Int32) (h : tq_H) : Option ((String ⊕ Int32) × tq_H) :=
  (tq_is h t 10).bind fun _ =>
  tq_tb (f_X10_needNode t a1 h) fun _ w3 =>
  (tq_gr w3 t 10 6).bind fun k4 =>
  (tq_gr w3 t 10 0).bind fun k5 =>
  (tq_gr w3 t 10 0).bind fun k6 =>
  (tq_gr w3 k6 8 0).bind fun k7 =>
  (tq_is w3 k7 3).bind fun _ =>
  (f_X3_spotOf k7 a1 w3).bind fun v8 =>
  (tq_is w3 k4 6).bind fun _ =>
  (f_X6_typesOf k4 k5 v8 w3).bind fun v10 =>
  some (.inr v10.1, v10.2)
set_option maxHeartbeats 4000000 in
set_option maxRecDepth 20000 in
theorem w_X10_types {l : Launch} {d : Nat} (hd9 : 7 ≤ d) {t : Nat} {a1 : Int32} {bc bs : Nat} {h : tq_H} {o : (String ⊕ Int32) × tq_H} {Q : tq_R → tq_H → Prop} (hf : f_X10_types t a1 h = some o) (hb : ∀ E g, o = (.inl E, g) → 1 ≤ bc ∧ 6 ≤ bs) (hQ : ∀ r h9, r = tq_enI o.1 ∧ o.2 = h9 → Q r h9) : tq_C l yX10_types cX10_types 2 (some .int) d (0 + bc) (0 + bs) [.ref t, .int a1] h Q := by
  refine tq_body (y := yX10_types) false (by decide +kernel) (fun z => by cases z) (Nat.le_of_ble_eq_true rfl) ?_
  show tq_W l mX10_types d (0 + bc) (0 + bs) Q 0 [(0, .ref t), (1, .int a1)] [] h
  refine tq_more (bc := bc) (bs := bs) (by omega) (by omega) ?_
  refine tq_aload_n (M := mX10_types) (pc := 0) dX10_types_0 rfl ?_
  refine tq_iload_n (M := mX10_types) (pc := 1) dX10_types_1 rfl ?_
  obtain ⟨⟨⟩, eu2, hf⟩ := tq_be hf
  obtain ⟨fsu2, eu2⟩ := tq_is_s eu2
  rcases tq_te hf with ⟨E1, g1, ev1, e9⟩ | ⟨v1, w3, ev1, hf⟩
  · have hb9 := hb _ _ e9
    refine tq_calV (M := mX10_types) (pc := 2) (S := []) tk_y_X10_needNode tk_v_X10_needNode tk_RX10_146 dX10_types_2 [.int a1] rfl (S0 := _) rfl eu2 rfl (Nat.le_of_ble_eq_true rfl) (d1 := d - 1) (b1 := 0 + bc) (s1 := 0 + bs) (bc' := 0) (bs' := 0) (Q1 := fun r h9 => r = tq_enV ((.inl E1, g1) : (String ⊕ Unit) × tq_H).1 ∧ ((.inl E1, g1) : (String ⊕ Unit) × tq_H).2 = h9) (by omega) (by omega) (by omega) (w_X10_needNode (bc := bc) (bs := bs) (by omega) ev1 (fun _ _ _ => hb9) (fun _ _ q => q)) (fun E h9 q => ?_) (fun r9 h9 q => nomatch (show (Sum.inl r9 : tq_R) = Sum.inr E1 from q.1))
    obtain ⟨q1, rfl⟩ := q
    cases (show (Sum.inr E : tq_R) = Sum.inr E1 from q1)
    subst e9
    exact tq_out rfl (hQ _ _ ⟨rfl, rfl⟩)
  · refine tq_calV (M := mX10_types) (pc := 2) (S := []) tk_y_X10_needNode tk_v_X10_needNode tk_RX10_146 dX10_types_2 [.int a1] rfl (S0 := _) rfl eu2 rfl (Nat.le_of_ble_eq_true rfl) (d1 := d - 1) (b1 := 0 + 0) (s1 := 0 + 0) (bc' := bc) (bs' := bs) (Q1 := fun r h9 => r = tq_enV ((.inr (), w3) : (String ⊕ Unit) × tq_H).1 ∧ ((.inr (), w3) : (String ⊕ Unit) × tq_H).2 = h9) (by omega) (by omega) (by omega) (w_X10_needNode (bc := 0) (bs := 0) (by omega) ev1 (fun E g z => by cases z) (fun _ _ q => q)) (fun E h9 q => nomatch (show (Sum.inr E : tq_R) = Sum.inl _ from q.1)) (fun r9 h9 q => ?_)
    obtain ⟨q1, rfl⟩ := q
    cases (show (Sum.inl r9 : tq_R) = Sum.inl (none) from q1)
    refine tq_aload_n (M := mX10_types) (pc := 5) dX10_types_5 rfl ?_
    obtain ⟨k4, ek4, hf⟩ := tq_be hf
    refine tq_getR (M := mX10_types) (pc := 6) tk_c10 (by decide) dX10_types_6 tk_RX10_48 rfl ek4 ?_
    refine tq_aload_n (M := mX10_types) (pc := 9) dX10_types_9 rfl ?_
    obtain ⟨k5, ek5, hf⟩ := tq_be hf
    refine tq_getR (M := mX10_types) (pc := 10) tk_c10 (by decide) dX10_types_10 tk_RX10_12 rfl ek5 ?_
    refine tq_aload_n (M := mX10_types) (pc := 13) dX10_types_13 rfl ?_
    obtain ⟨k6, ek6, hf⟩ := tq_be hf
    refine tq_getR (M := mX10_types) (pc := 14) tk_c10 (by decide) dX10_types_14 tk_RX10_12 rfl ek6 ?_
    obtain ⟨k7, ek7, hf⟩ := tq_be hf
    refine tq_getR (M := mX10_types) (pc := 17) tk_c8 (by decide) dX10_types_17 tk_RX10_115 rfl ek7 ?_
    refine tq_iload_n (M := mX10_types) (pc := 20) dX10_types_20 rfl ?_
    obtain ⟨⟨⟩, eu9, hf⟩ := tq_be hf
    obtain ⟨fsu9, eu9⟩ := tq_is_s eu9
    obtain ⟨v8, ev8, hf⟩ := tq_be hf
    refine tq_calV (M := mX10_types) (pc := 21) (S := [.ref k5, .ref k4]) tk_y_X3_spotOf tk_v_X3_spotOf tk_RX10_229 dX10_types_21 [.int a1] rfl (S0 := _) rfl eu9 rfl (Nat.le_of_ble_eq_true rfl) (d1 := d - 1) (b1 := 0) (s1 := 0) (bc' := bc) (bs' := bs) (Q1 := fun r h9 => r = .inl (some (.int v8)) ∧ w3 = h9) (by omega) (by omega) (by omega) (w_X3_spotOf (by omega) ev8 (fun _ _ q => q)) (fun E h9 q => nomatch (show (Sum.inr E : tq_R) = Sum.inl _ from q.1)) (fun r9 h9 q => ?_)
    obtain ⟨q1, rfl⟩ := q
    cases (show (Sum.inl r9 : tq_R) = Sum.inl (some (.int v8)) from q1)
    obtain ⟨⟨⟩, eu11, hf⟩ := tq_be hf
    obtain ⟨fsu11, eu11⟩ := tq_is_s eu11
    obtain ⟨v10, ev10, hf⟩ := tq_be hf
    refine tq_calV (M := mX10_types) (pc := 24) (S := []) tk_y_X6_typesOf tk_v_X6_typesOf tk_RX10_364 dX10_types_24 [.ref k5, .int v8] rfl (S0 := _) rfl eu11 rfl (Nat.le_of_ble_eq_true rfl) (d1 := d - 1) (b1 := 0) (s1 := 0) (bc' := bc) (bs' := bs) (Q1 := fun r h9 => r = .inl (some (.int v10.1)) ∧ v10.2 = h9) (by omega) (by omega) (by omega) (w_X6_typesOf (by omega) ev10 (fun _ _ q => q)) (fun E h9 q => nomatch (show (Sum.inr E : tq_R) = Sum.inl _ from q.1)) (fun r9 h9 q => ?_)
    obtain ⟨q1, rfl⟩ := q
    cases (show (Sum.inl r9 : tq_R) = Sum.inl (some (.int v10.1)) from q1)
    refine tq_iret (M := mX10_types) (pc := 27) dX10_types_27 rfl ?_
    cases (Option.some.inj hf)
    exact hQ _ _ ⟨rfl, rfl⟩
abbrev mX10_infer : tq_M := (RX10, cX10_infer, 2, (some .int), false, [], none)
def f_X10_infer (t : Nat) (a1 : Int32) (h : tq_H) : Option ((String ⊕ Int32) × tq_H) :=
  (tq_is h t 10).bind fun _ =>
  tq_tb (f_X10_needPath t a1 h) fun _ w3 =>
  (tq_gr w3 t 10 6).bind fun k4 =>
  (tq_gr w3 t 10 3).bind fun k5 =>
  (tq_is w3 k4 6).bind fun _ =>
  (f_X6_tell k4 k5 a1 w3).bind fun v6 =>
  some (.inr v6.1, v6.2)
set_option maxHeartbeats 4000000 in
set_option maxRecDepth 20000 in
theorem w_X10_infer {l : Launch} {d : Nat} (hd9 : 7 ≤ d) {t : Nat} {a1 : Int32} {bc bs : Nat} {h : tq_H} {o : (String ⊕ Int32) × tq_H} {Q : tq_R → tq_H → Prop} (hf : f_X10_infer t a1 h = some o) (hb : ∀ E g, o = (.inl E, g) → 1 ≤ bc ∧ 6 ≤ bs) (hQ : ∀ r h9, r = tq_enI o.1 ∧ o.2 = h9 → Q r h9) : tq_C l yX10_infer cX10_infer 2 (some .int) d (0 + bc) (0 + bs) [.ref t, .int a1] h Q := by
  refine tq_body (y := yX10_infer) false (by decide +kernel) (fun z => by cases z) (Nat.le_of_ble_eq_true rfl) ?_
  show tq_W l mX10_infer d (0 + bc) (0 + bs) Q 0 [(0, .ref t), (1, .int a1)] [] h
  refine tq_more (bc := bc) (bs := bs) (by omega) (by omega) ?_
  refine tq_aload_n (M := mX10_infer) (pc := 0) dX10_infer_0 rfl ?_
  refine tq_iload_n (M := mX10_infer) (pc := 1) dX10_infer_1 rfl ?_
  obtain ⟨⟨⟩, eu2, hf⟩ := tq_be hf
  obtain ⟨fsu2, eu2⟩ := tq_is_s eu2
  rcases tq_te hf with ⟨E1, g1, ev1, e9⟩ | ⟨v1, w3, ev1, hf⟩
  · have hb9 := hb _ _ e9
    refine tq_calV (M := mX10_infer) (pc := 2) (S := []) tk_y_X10_needPath tk_v_X10_needPath tk_RX10_262 dX10_infer_2 [.int a1] rfl (S0 := _) rfl eu2 rfl (Nat.le_of_ble_eq_true rfl) (d1 := d - 1) (b1 := 0 + bc) (s1 := 0 + bs) (bc' := 0) (bs' := 0) (Q1 := fun r h9 => r = tq_enV ((.inl E1, g1) : (String ⊕ Unit) × tq_H).1 ∧ ((.inl E1, g1) : (String ⊕ Unit) × tq_H).2 = h9) (by omega) (by omega) (by omega) (w_X10_needPath (bc := bc) (bs := bs) (by omega) ev1 (fun _ _ _ => hb9) (fun _ _ q => q)) (fun E h9 q => ?_) (fun r9 h9 q => nomatch (show (Sum.inl r9 : tq_R) = Sum.inr E1 from q.1))
    obtain ⟨q1, rfl⟩ := q
    cases (show (Sum.inr E : tq_R) = Sum.inr E1 from q1)
    subst e9
    exact tq_out rfl (hQ _ _ ⟨rfl, rfl⟩)
  · refine tq_calV (M := mX10_infer) (pc := 2) (S := []) tk_y_X10_needPath tk_v_X10_needPath tk_RX10_262 dX10_infer_2 [.int a1] rfl (S0 := _) rfl eu2 rfl (Nat.le_of_ble_eq_true rfl) (d1 := d - 1) (b1 := 0 + 0) (s1 := 0 + 0) (bc' := bc) (bs' := bs) (Q1 := fun r h9 => r = tq_enV ((.inr (), w3) : (String ⊕ Unit) × tq_H).1 ∧ ((.inr (), w3) : (String ⊕ Unit) × tq_H).2 = h9) (by omega) (by omega) (by omega) (w_X10_needPath (bc := 0) (bs := 0) (by omega) ev1 (fun E g z => by cases z) (fun _ _ q => q)) (fun E h9 q => nomatch (show (Sum.inr E : tq_R) = Sum.inl _ from q.1)) (fun r9 h9 q => ?_)
    obtain ⟨q1, rfl⟩ := q
    cases (show (Sum.inl r9 : tq_R) = Sum.inl (none) from q1)
    refine tq_aload_n (M := mX10_infer) (pc := 5) dX10_infer_5 rfl ?_
    obtain ⟨k4, ek4, hf⟩ := tq_be hf
    refine tq_getR (M := mX10_infer) (pc := 6) tk_c10 (by decide) dX10_infer_6 tk_RX10_48 rfl ek4 ?_
    refine tq_aload_n (M := mX10_infer) (pc := 9) dX10_infer_9 rfl ?_
    obtain ⟨k5, ek5, hf⟩ := tq_be hf
    refine tq_getR (M := mX10_infer) (pc := 10) tk_c10 (by decide) dX10_infer_10 tk_RX10_29 rfl ek5 ?_
    refine tq_iload_n (M := mX10_infer) (pc := 13) dX10_infer_13 rfl ?_
    obtain ⟨⟨⟩, eu7, hf⟩ := tq_be hf
    obtain ⟨fsu7, eu7⟩ := tq_is_s eu7
    obtain ⟨v6, ev6, hf⟩ := tq_be hf
    refine tq_calV (M := mX10_infer) (pc := 14) (S := []) tk_y_X6_tell tk_v_X6_tell tk_RX10_368 dX10_infer_14 [.ref k5, .int a1] rfl (S0 := _) rfl eu7 rfl (Nat.le_of_ble_eq_true rfl) (d1 := d - 1) (b1 := 0) (s1 := 0) (bc' := bc) (bs' := bs) (Q1 := fun r h9 => r = .inl (some (.int v6.1)) ∧ v6.2 = h9) (by omega) (by omega) (by omega) (w_X6_tell (by omega) ev6 (fun _ _ q => q)) (fun E h9 q => nomatch (show (Sum.inr E : tq_R) = Sum.inl _ from q.1)) (fun r9 h9 q => ?_)
    obtain ⟨q1, rfl⟩ := q
    cases (show (Sum.inl r9 : tq_R) = Sum.inl (some (.int v6.1)) from q1)
    refine tq_iret (M := mX10_infer) (pc := 17) dX10_infer_17 rfl ?_
    cases (Option.some.inj hf)
    exact hQ _ _ ⟨rfl, rfl⟩
abbrev mX10_index : tq_M := (RX10, cX10_index, 2, (some .boolean), false, [], none)
def f_X10_index (t : Nat) (a1 : Int32) (h : tq_H) : Option ((String ⊕ Int32) × tq_H) :=
  (tq_is h t 10).bind fun _ =>
  tq_tb (f_X10_needRange t a1 (0 : Int32) (7 : Int32) h) fun _ w3 =>
  (tq_gl w3 t 10 16).bind fun x4 =>
  (f_X0_one a1 w3).bind fun v5 =>
  (tq_pf w3 t 10 16 (.long ((x4 ^^^ v5)))).bind fun w6 =>
  (tq_gl w6 t 10 16).bind fun x7 =>
  (f_X0_holds x7 a1 w6).bind fun v8 =>
  (tq_bz v8).bind fun z9 =>
  some (.inr z9, w6)
set_option maxHeartbeats 4000000 in
set_option maxRecDepth 20000 in
theorem w_X10_index {l : Launch} {d : Nat} (hd9 : 7 ≤ d) {t : Nat} {a1 : Int32} {bc bs : Nat} {h : tq_H} {o : (String ⊕ Int32) × tq_H} {Q : tq_R → tq_H → Prop} (hf : f_X10_index t a1 h = some o) (hb : ∀ E g, o = (.inl E, g) → 1 ≤ bc ∧ 6 ≤ bs) (hQ : ∀ r h9, r = tq_enI o.1 ∧ o.2 = h9 → Q r h9) : tq_C l yX10_index cX10_index 2 (some .boolean) d (0 + bc) (0 + bs) [.ref t, .int a1] h Q := by
  refine tq_body (y := yX10_index) false (by decide +kernel) (fun z => by cases z) (Nat.le_of_ble_eq_true rfl) ?_
  show tq_W l mX10_index d (0 + bc) (0 + bs) Q 0 [(0, .ref t), (1, .int a1)] [] h
  refine tq_more (bc := bc) (bs := bs) (by omega) (by omega) ?_
  refine tq_aload_n (M := mX10_index) (pc := 0) dX10_index_0 rfl ?_
  refine tq_iload_n (M := mX10_index) (pc := 1) dX10_index_1 rfl ?_
  refine tq_iconst (M := mX10_index) (pc := 2) dX10_index_2 tk_ki_0 ?_
  refine tq_bipush (M := mX10_index) (pc := 3) dX10_index_3 tk_kb_7 ?_
  obtain ⟨⟨⟩, eu2, hf⟩ := tq_be hf
  obtain ⟨fsu2, eu2⟩ := tq_is_s eu2
  rcases tq_te hf with ⟨E1, g1, ev1, e9⟩ | ⟨v1, w3, ev1, hf⟩
  · have hb9 := hb _ _ e9
    refine tq_calV (M := mX10_index) (pc := 5) (S := []) tk_y_X10_needRange tk_v_X10_needRange tk_RX10_132 dX10_index_5 [.int a1, .int (0 : Int32), .int (7 : Int32)] rfl (S0 := _) rfl eu2 rfl (Nat.le_of_ble_eq_true rfl) (d1 := d - 1) (b1 := 0 + bc) (s1 := 0 + bs) (bc' := 0) (bs' := 0) (Q1 := fun r h9 => r = tq_enV ((.inl E1, g1) : (String ⊕ Unit) × tq_H).1 ∧ ((.inl E1, g1) : (String ⊕ Unit) × tq_H).2 = h9) (by omega) (by omega) (by omega) (w_X10_needRange (bc := bc) (bs := bs) (by omega) ev1 (fun _ _ _ => hb9) (fun _ _ q => q)) (fun E h9 q => ?_) (fun r9 h9 q => nomatch (show (Sum.inl r9 : tq_R) = Sum.inr E1 from q.1))
    obtain ⟨q1, rfl⟩ := q
    cases (show (Sum.inr E : tq_R) = Sum.inr E1 from q1)
    subst e9
    exact tq_out rfl (hQ _ _ ⟨rfl, rfl⟩)
  · refine tq_calV (M := mX10_index) (pc := 5) (S := []) tk_y_X10_needRange tk_v_X10_needRange tk_RX10_132 dX10_index_5 [.int a1, .int (0 : Int32), .int (7 : Int32)] rfl (S0 := _) rfl eu2 rfl (Nat.le_of_ble_eq_true rfl) (d1 := d - 1) (b1 := 0 + 0) (s1 := 0 + 0) (bc' := bc) (bs' := bs) (Q1 := fun r h9 => r = tq_enV ((.inr (), w3) : (String ⊕ Unit) × tq_H).1 ∧ ((.inr (), w3) : (String ⊕ Unit) × tq_H).2 = h9) (by omega) (by omega) (by omega) (w_X10_needRange (bc := 0) (bs := 0) (by omega) ev1 (fun E g z => by cases z) (fun _ _ q => q)) (fun E h9 q => nomatch (show (Sum.inr E : tq_R) = Sum.inl _ from q.1)) (fun r9 h9 q => ?_)
    obtain ⟨q1, rfl⟩ := q
    cases (show (Sum.inl r9 : tq_R) = Sum.inl (none) from q1)
    refine tq_aload_n (M := mX10_index) (pc := 8) dX10_index_8 rfl ?_
    refine tq_dup (M := mX10_index) (pc := 9) dX10_index_9 rfl ?_
    obtain ⟨x4, ex4, hf⟩ := tq_be hf
    refine tq_getL (M := mX10_index) (pc := 10) tk_c10 (by decide) dX10_index_10 tk_RX10_95 rfl ex4 ?_
    refine tq_iload_n (M := mX10_index) (pc := 13) dX10_index_13 rfl ?_
    obtain ⟨v5, ev5, hf⟩ := tq_be hf
    refine tq_calS (M := mX10_index) (pc := 14) (S := [.long x4, .ref t]) tk_y_X0_one tk_s_X0_one tk_RX10_372 dX10_index_14 [.int a1] rfl (Nat.le_of_ble_eq_true rfl) (d1 := d - 1) (b1 := 0) (s1 := 0) (bc' := bc) (bs' := bs) (Q1 := fun r h9 => r = .inl (some (.long v5)) ∧ w3 = h9) (by omega) (by omega) (by omega) (w_X0_one (by omega) ev5 (fun _ _ q => q)) (fun E h9 q => nomatch (show (Sum.inr E : tq_R) = Sum.inl _ from q.1)) (fun r9 h9 q => ?_)
    obtain ⟨q1, rfl⟩ := q
    cases (show (Sum.inl r9 : tq_R) = Sum.inl (some (.long v5)) from q1)
    refine tq_lxor (M := mX10_index) (pc := 17) dX10_index_17 ?_
    obtain ⟨w6, ew6, hf⟩ := tq_be hf
    refine tq_putv (M := mX10_index) (pc := 18) tk_c10 (by decide) dX10_index_18 tk_RX10_95 rfl (Or.inl rfl) ew6 (tq_nL _) ?_
    refine tq_aload_n (M := mX10_index) (pc := 21) dX10_index_21 rfl ?_
    obtain ⟨x7, ex7, hf⟩ := tq_be hf
    refine tq_getL (M := mX10_index) (pc := 22) tk_c10 (by decide) dX10_index_22 tk_RX10_95 rfl ex7 ?_
    refine tq_iload_n (M := mX10_index) (pc := 25) dX10_index_25 rfl ?_
    obtain ⟨v8, ev8, hf⟩ := tq_be hf
    refine tq_calS (M := mX10_index) (pc := 26) (S := []) tk_y_X0_holds tk_s_X0_holds tk_RX10_315 dX10_index_26 [.long x7, .int a1] rfl (Nat.le_of_ble_eq_true rfl) (d1 := d - 1) (b1 := 0) (s1 := 0) (bc' := bc) (bs' := bs) (Q1 := fun r h9 => r = .inl (some (.int v8)) ∧ w6 = h9) (by omega) (by omega) (by omega) (w_X0_holds (by omega) ev8 (fun _ _ q => q)) (fun E h9 q => nomatch (show (Sum.inr E : tq_R) = Sum.inl _ from q.1)) (fun r9 h9 q => ?_)
    obtain ⟨q1, rfl⟩ := q
    cases (show (Sum.inl r9 : tq_R) = Sum.inl (some (.int v8)) from q1)
    obtain ⟨z9, ez9, hf⟩ := tq_be hf
    refine tq_zretB (M := mX10_index) (pc := 29) dX10_index_29 rfl ez9 ?_
    cases (Option.some.inj hf)
    exact hQ _ _ ⟨rfl, rfl⟩
abbrev mX10_plan : tq_M := (RX10, cX10_plan, 5, (some .int), false, [], none)
def f_X10_plan (t : Nat) (a1 : Int32) (h : tq_H) : Option ((String ⊕ Int32) × tq_H) :=
  (tq_is h t 10).bind fun _ =>
  tq_tb (f_X10_needPath t a1 h) fun _ w3 =>
  (tq_gr w3 t 10 0).bind fun k4 =>
  (tq_gr w3 k4 8 0).bind fun k5 =>
  (tq_is w3 k5 3).bind fun _ =>
  (f_X3_solids k5 w3).bind fun v6 =>
  (f_J13_bitCount_95d88 v6 w3).bind fun v8 =>
  (tq_gr w3 t 10 3).bind fun k9 =>
  (tq_is w3 k9 4).bind fun _ =>
  (f_X4_nameBelow k9 a1 w3).bind fun v10 =>
  (tq_gl w3 t 10 16).bind fun x12 =>
  (f_X0_holds x12 v10 w3).bind fun v13 =>
  if v13 = 0 then
    (tq_gr w3 t 10 3).bind fun k14 =>
    (tq_is w3 k14 4).bind fun _ =>
    (f_X4_canStream k14 a1 w3).bind fun v15 =>
    tq_let (if v15 = 0 then (0 : Int32) else (2 : Int32)) fun p17 =>
    some (.inr (((1000 : Int32) * p17) + v8), w3)
  else
    (tq_gr w3 t 10 0).bind fun k18 =>
    (tq_gr w3 k18 8 0).bind fun k19 =>
    (tq_is w3 k19 3).bind fun _ =>
    (f_X3_passing k19 v10 w3).bind fun v20 =>
    (tq_gr w3 t 10 0).bind fun k22 =>
    (tq_gr w3 k22 8 0).bind fun k23 =>
    (tq_is w3 k23 3).bind fun _ =>
    (f_X3_elements k23 w3).bind fun v24 =>
    (f_J13_bitCount_95d88 (v20 &&& v24) w3).bind fun v26 =>
    if v26 ≥ v8 then
      (tq_gr w3 t 10 3).bind fun k27 =>
      (tq_is w3 k27 4).bind fun _ =>
      (f_X4_canStream k27 a1 w3).bind fun v28 =>
      tq_let (if v28 = 0 then (0 : Int32) else (2 : Int32)) fun p30 =>
      some (.inr (((1000 : Int32) * p30) + v8), w3)
    else
      some (.inr ((1000 : Int32) + v26), w3)
set_option maxHeartbeats 4000000 in
set_option maxRecDepth 20000 in
theorem w_X10_plan {l : Launch} {d : Nat} (hd9 : 7 ≤ d) {t : Nat} {a1 : Int32} {bc bs : Nat} {h : tq_H} {o : (String ⊕ Int32) × tq_H} {Q : tq_R → tq_H → Prop} (hf : f_X10_plan t a1 h = some o) (hb : ∀ E g, o = (.inl E, g) → 1 ≤ bc ∧ 6 ≤ bs) (hQ : ∀ r h9, r = tq_enI o.1 ∧ o.2 = h9 → Q r h9) : tq_C l yX10_plan cX10_plan 5 (some .int) d (0 + bc) (0 + bs) [.ref t, .int a1] h Q := by
  refine tq_body (y := yX10_plan) false (by decide +kernel) (fun z => by cases z) (Nat.le_of_ble_eq_true rfl) ?_
  show tq_W l mX10_plan d (0 + bc) (0 + bs) Q 0 [(0, .ref t), (1, .int a1)] [] h
  refine tq_more (bc := bc) (bs := bs) (by omega) (by omega) ?_
  refine tq_aload_n (M := mX10_plan) (pc := 0) dX10_plan_0 rfl ?_
  refine tq_iload_n (M := mX10_plan) (pc := 1) dX10_plan_1 rfl ?_
  obtain ⟨⟨⟩, eu2, hf⟩ := tq_be hf
  obtain ⟨fsu2, eu2⟩ := tq_is_s eu2
  rcases tq_te hf with ⟨E1, g1, ev1, e9⟩ | ⟨v1, w3, ev1, hf⟩
  · have hb9 := hb _ _ e9
    refine tq_calV (M := mX10_plan) (pc := 2) (S := []) tk_y_X10_needPath tk_v_X10_needPath tk_RX10_262 dX10_plan_2 [.int a1] rfl (S0 := _) rfl eu2 rfl (Nat.le_of_ble_eq_true rfl) (d1 := d - 1) (b1 := 0 + bc) (s1 := 0 + bs) (bc' := 0) (bs' := 0) (Q1 := fun r h9 => r = tq_enV ((.inl E1, g1) : (String ⊕ Unit) × tq_H).1 ∧ ((.inl E1, g1) : (String ⊕ Unit) × tq_H).2 = h9) (by omega) (by omega) (by omega) (w_X10_needPath (bc := bc) (bs := bs) (by omega) ev1 (fun _ _ _ => hb9) (fun _ _ q => q)) (fun E h9 q => ?_) (fun r9 h9 q => nomatch (show (Sum.inl r9 : tq_R) = Sum.inr E1 from q.1))
    obtain ⟨q1, rfl⟩ := q
    cases (show (Sum.inr E : tq_R) = Sum.inr E1 from q1)
    subst e9
    exact tq_out rfl (hQ _ _ ⟨rfl, rfl⟩)
  · refine tq_calV (M := mX10_plan) (pc := 2) (S := []) tk_y_X10_needPath tk_v_X10_needPath tk_RX10_262 dX10_plan_2 [.int a1] rfl (S0 := _) rfl eu2 rfl (Nat.le_of_ble_eq_true rfl) (d1 := d - 1) (b1 := 0 + 0) (s1 := 0 + 0) (bc' := bc) (bs' := bs) (Q1 := fun r h9 => r = tq_enV ((.inr (), w3) : (String ⊕ Unit) × tq_H).1 ∧ ((.inr (), w3) : (String ⊕ Unit) × tq_H).2 = h9) (by omega) (by omega) (by omega) (w_X10_needPath (bc := 0) (bs := 0) (by omega) ev1 (fun E g z => by cases z) (fun _ _ q => q)) (fun E h9 q => nomatch (show (Sum.inr E : tq_R) = Sum.inl _ from q.1)) (fun r9 h9 q => ?_)
    obtain ⟨q1, rfl⟩ := q
    cases (show (Sum.inl r9 : tq_R) = Sum.inl (none) from q1)
    refine tq_aload_n (M := mX10_plan) (pc := 5) dX10_plan_5 rfl ?_
    obtain ⟨k4, ek4, hf⟩ := tq_be hf
    refine tq_getR (M := mX10_plan) (pc := 6) tk_c10 (by decide) dX10_plan_6 tk_RX10_12 rfl ek4 ?_
    obtain ⟨k5, ek5, hf⟩ := tq_be hf
    refine tq_getR (M := mX10_plan) (pc := 9) tk_c8 (by decide) dX10_plan_9 tk_RX10_115 rfl ek5 ?_
    obtain ⟨⟨⟩, eu7, hf⟩ := tq_be hf
    obtain ⟨fsu7, eu7⟩ := tq_is_s eu7
    obtain ⟨v6, ev6, hf⟩ := tq_be hf
    refine tq_calV (M := mX10_plan) (pc := 12) (S := []) tk_y_X3_solids tk_v_X3_solids tk_RX10_375 dX10_plan_12 [] rfl (S0 := _) rfl eu7 rfl (Nat.le_of_ble_eq_true rfl) (d1 := d - 1) (b1 := 0) (s1 := 0) (bc' := bc) (bs' := bs) (Q1 := fun r h9 => r = .inl (some (.long v6)) ∧ w3 = h9) (by omega) (by omega) (by omega) (w_X3_solids (by omega) ev6 (fun _ _ q => q)) (fun E h9 q => nomatch (show (Sum.inr E : tq_R) = Sum.inl _ from q.1)) (fun r9 h9 q => ?_)
    obtain ⟨q1, rfl⟩ := q
    cases (show (Sum.inl r9 : tq_R) = Sum.inl (some (.long v6)) from q1)
    obtain ⟨v8, ev8, hf⟩ := tq_be hf
    refine tq_calS (M := mX10_plan) (pc := 15) (S := []) tk_y_J13_bitCount_95d88 tk_s_J13_bitCount_95d88 tk_RX10_309 dX10_plan_15 [.long v6] rfl (Nat.le_of_ble_eq_true rfl) (d1 := d - 1) (b1 := 0) (s1 := 0) (bc' := bc) (bs' := bs) (Q1 := fun r h9 => r = .inl (some (.int v8)) ∧ w3 = h9) (by omega) (by omega) (by omega) (w_J13_bitCount_95d88 (by omega) ev8 (fun _ _ q => q)) (fun E h9 q => nomatch (show (Sum.inr E : tq_R) = Sum.inl _ from q.1)) (fun r9 h9 q => ?_)
    obtain ⟨q1, rfl⟩ := q
    cases (show (Sum.inl r9 : tq_R) = Sum.inl (some (.int v8)) from q1)
    refine tq_istore_n (M := mX10_plan) (pc := 18) rfl dX10_plan_18 (L2 := [(2, .int v8), (0, .ref t), (1, .int a1)]) (by decide) rfl ?_
    refine tq_aload_n (M := mX10_plan) (pc := 19) dX10_plan_19 rfl ?_
    obtain ⟨k9, ek9, hf⟩ := tq_be hf
    refine tq_getR (M := mX10_plan) (pc := 20) tk_c10 (by decide) dX10_plan_20 tk_RX10_29 rfl ek9 ?_
    refine tq_iload_n (M := mX10_plan) (pc := 23) dX10_plan_23 rfl ?_
    obtain ⟨⟨⟩, eu11, hf⟩ := tq_be hf
    obtain ⟨fsu11, eu11⟩ := tq_is_s eu11
    obtain ⟨v10, ev10, hf⟩ := tq_be hf
    refine tq_calV (M := mX10_plan) (pc := 24) (S := []) tk_y_X4_nameBelow tk_v_X4_nameBelow tk_RX10_378 dX10_plan_24 [.int a1] rfl (S0 := _) rfl eu11 rfl (Nat.le_of_ble_eq_true rfl) (d1 := d - 1) (b1 := 0) (s1 := 0) (bc' := bc) (bs' := bs) (Q1 := fun r h9 => r = .inl (some (.int v10)) ∧ w3 = h9) (by omega) (by omega) (by omega) (w_X4_nameBelow (by omega) ev10 (fun _ _ q => q)) (fun E h9 q => nomatch (show (Sum.inr E : tq_R) = Sum.inl _ from q.1)) (fun r9 h9 q => ?_)
    obtain ⟨q1, rfl⟩ := q
    cases (show (Sum.inl r9 : tq_R) = Sum.inl (some (.int v10)) from q1)
    refine tq_istore_n (M := mX10_plan) (pc := 27) rfl dX10_plan_27 (L2 := [(3, .int v10), (2, .int v8), (0, .ref t), (1, .int a1)]) (by decide) rfl ?_
    refine tq_aload_n (M := mX10_plan) (pc := 28) dX10_plan_28 rfl ?_
    obtain ⟨x12, ex12, hf⟩ := tq_be hf
    refine tq_getL (M := mX10_plan) (pc := 29) tk_c10 (by decide) dX10_plan_29 tk_RX10_95 rfl ex12 ?_
    refine tq_iload_n (M := mX10_plan) (pc := 32) dX10_plan_32 rfl ?_
    obtain ⟨v13, ev13, hf⟩ := tq_be hf
    refine tq_calS (M := mX10_plan) (pc := 33) (S := []) tk_y_X0_holds tk_s_X0_holds tk_RX10_315 dX10_plan_33 [.long x12, .int v10] rfl (Nat.le_of_ble_eq_true rfl) (d1 := d - 1) (b1 := 0) (s1 := 0) (bc' := bc) (bs' := bs) (Q1 := fun r h9 => r = .inl (some (.int v13)) ∧ w3 = h9) (by omega) (by omega) (by omega) (w_X0_holds (by omega) ev13 (fun _ _ q => q)) (fun E h9 q => nomatch (show (Sum.inr E : tq_R) = Sum.inl _ from q.1)) (fun r9 h9 q => ?_)
    obtain ⟨q1, rfl⟩ := q
    cases (show (Sum.inl r9 : tq_R) = Sum.inl (some (.int v13)) from q1)
    refine tq_if_eq (M := mX10_plan) (pc := 36) (tgt := 79) dX10_plan_36 (by decide) (fun cc => ?_) (fun cc => ?_)
    · have hf := tq_ifp hf cc
      refine tq_sipush (M := mX10_plan) (pc := 79) dX10_plan_79 tk_ks_1000 ?_
      refine tq_aload_n (M := mX10_plan) (pc := 82) dX10_plan_82 rfl ?_
      obtain ⟨k14, ek14, hf⟩ := tq_be hf
      refine tq_getR (M := mX10_plan) (pc := 83) tk_c10 (by decide) dX10_plan_83 tk_RX10_29 rfl ek14 ?_
      refine tq_iload_n (M := mX10_plan) (pc := 86) dX10_plan_86 rfl ?_
      obtain ⟨⟨⟩, eu16, hf⟩ := tq_be hf
      obtain ⟨fsu16, eu16⟩ := tq_is_s eu16
      obtain ⟨v15, ev15, hf⟩ := tq_be hf
      refine tq_calV (M := mX10_plan) (pc := 87) (S := [.int (1000 : Int32)]) tk_y_X4_canStream tk_v_X4_canStream tk_RX10_387 dX10_plan_87 [.int a1] rfl (S0 := _) rfl eu16 rfl (Nat.le_of_ble_eq_true rfl) (d1 := d - 1) (b1 := 0) (s1 := 0) (bc' := bc) (bs' := bs) (Q1 := fun r h9 => r = .inl (some (.int v15)) ∧ w3 = h9) (by omega) (by omega) (by omega) (w_X4_canStream (by omega) ev15 (fun _ _ q => q)) (fun E h9 q => nomatch (show (Sum.inr E : tq_R) = Sum.inl _ from q.1)) (fun r9 h9 q => ?_)
      obtain ⟨q1, rfl⟩ := q
      cases (show (Sum.inl r9 : tq_R) = Sum.inl (some (.int v15)) from q1)
      obtain ⟨p17, ep17, hf⟩ := tq_le hf
      have HJ90 : tq_W l mX10_plan d bc bs Q 98 [(2, .int v8)] [.int p17, .int (1000 : Int32)] w3 := by
        refine tq_imul (M := mX10_plan) (pc := 98) dX10_plan_98 ?_
        refine tq_iload_n (M := mX10_plan) (pc := 99) dX10_plan_99 rfl ?_
        refine tq_iadd (M := mX10_plan) (pc := 100) dX10_plan_100 ?_
        refine tq_iret (M := mX10_plan) (pc := 101) dX10_plan_101 rfl ?_
        cases (Option.some.inj hf)
        exact hQ _ _ ⟨rfl, rfl⟩
      refine tq_if_eq (M := mX10_plan) (pc := 90) (tgt := 97) dX10_plan_90 (by decide) (fun cc => ?_) (fun cc => ?_)
      · have hf := tq_ifp ep17.symm cc
        refine tq_iconst (M := mX10_plan) (pc := 97) dX10_plan_97 tk_ki_0 ?_
        refine tq_pick (L2 := [(2, .int v8)]) [1] rfl ?_
        cases hf
        exact HJ90
      · have hf := tq_ifn ep17.symm cc
        refine tq_iconst (M := mX10_plan) (pc := 93) dX10_plan_93 tk_ki_2 ?_
        refine tq_goto (M := mX10_plan) (pc := 94) (tgt := 98) dX10_plan_94 (by decide) ?_
        refine tq_pick (L2 := [(2, .int v8)]) [1] rfl ?_
        cases hf
        exact HJ90
    · have hf := tq_ifn hf cc
      refine tq_aload_n (M := mX10_plan) (pc := 39) dX10_plan_39 rfl ?_
      obtain ⟨k18, ek18, hf⟩ := tq_be hf
      refine tq_getR (M := mX10_plan) (pc := 40) tk_c10 (by decide) dX10_plan_40 tk_RX10_12 rfl ek18 ?_
      obtain ⟨k19, ek19, hf⟩ := tq_be hf
      refine tq_getR (M := mX10_plan) (pc := 43) tk_c8 (by decide) dX10_plan_43 tk_RX10_115 rfl ek19 ?_
      refine tq_iload_n (M := mX10_plan) (pc := 46) dX10_plan_46 rfl ?_
      obtain ⟨⟨⟩, eu21, hf⟩ := tq_be hf
      obtain ⟨fsu21, eu21⟩ := tq_is_s eu21
      obtain ⟨v20, ev20, hf⟩ := tq_be hf
      refine tq_calV (M := mX10_plan) (pc := 47) (S := []) tk_y_X3_passing tk_v_X3_passing tk_RX10_381 dX10_plan_47 [.int v10] rfl (S0 := _) rfl eu21 rfl (Nat.le_of_ble_eq_true rfl) (d1 := d - 1) (b1 := 0) (s1 := 0) (bc' := bc) (bs' := bs) (Q1 := fun r h9 => r = .inl (some (.long v20)) ∧ w3 = h9) (by omega) (by omega) (by omega) (w_X3_passing (by omega) ev20 (fun _ _ q => q)) (fun E h9 q => nomatch (show (Sum.inr E : tq_R) = Sum.inl _ from q.1)) (fun r9 h9 q => ?_)
      obtain ⟨q1, rfl⟩ := q
      cases (show (Sum.inl r9 : tq_R) = Sum.inl (some (.long v20)) from q1)
      refine tq_aload_n (M := mX10_plan) (pc := 50) dX10_plan_50 rfl ?_
      obtain ⟨k22, ek22, hf⟩ := tq_be hf
      refine tq_getR (M := mX10_plan) (pc := 51) tk_c10 (by decide) dX10_plan_51 tk_RX10_12 rfl ek22 ?_
      obtain ⟨k23, ek23, hf⟩ := tq_be hf
      refine tq_getR (M := mX10_plan) (pc := 54) tk_c8 (by decide) dX10_plan_54 tk_RX10_115 rfl ek23 ?_
      obtain ⟨⟨⟩, eu25, hf⟩ := tq_be hf
      obtain ⟨fsu25, eu25⟩ := tq_is_s eu25
      obtain ⟨v24, ev24, hf⟩ := tq_be hf
      refine tq_calV (M := mX10_plan) (pc := 57) (S := [.long v20]) tk_y_X3_elements tk_v_X3_elements tk_RX10_384 dX10_plan_57 [] rfl (S0 := _) rfl eu25 rfl (Nat.le_of_ble_eq_true rfl) (d1 := d - 1) (b1 := 0) (s1 := 0) (bc' := bc) (bs' := bs) (Q1 := fun r h9 => r = .inl (some (.long v24)) ∧ w3 = h9) (by omega) (by omega) (by omega) (w_X3_elements (by omega) ev24 (fun _ _ q => q)) (fun E h9 q => nomatch (show (Sum.inr E : tq_R) = Sum.inl _ from q.1)) (fun r9 h9 q => ?_)
      obtain ⟨q1, rfl⟩ := q
      cases (show (Sum.inl r9 : tq_R) = Sum.inl (some (.long v24)) from q1)
      refine tq_land (M := mX10_plan) (pc := 60) dX10_plan_60 ?_
      obtain ⟨v26, ev26, hf⟩ := tq_be hf
      refine tq_calS (M := mX10_plan) (pc := 61) (S := []) tk_y_J13_bitCount_95d88 tk_s_J13_bitCount_95d88 tk_RX10_309 dX10_plan_61 [.long ((v20 &&& v24))] rfl (Nat.le_of_ble_eq_true rfl) (d1 := d - 1) (b1 := 0) (s1 := 0) (bc' := bc) (bs' := bs) (Q1 := fun r h9 => r = .inl (some (.int v26)) ∧ w3 = h9) (by omega) (by omega) (by omega) (w_J13_bitCount_95d88 (by omega) ev26 (fun _ _ q => q)) (fun E h9 q => nomatch (show (Sum.inr E : tq_R) = Sum.inl _ from q.1)) (fun r9 h9 q => ?_)
      obtain ⟨q1, rfl⟩ := q
      cases (show (Sum.inl r9 : tq_R) = Sum.inl (some (.int v26)) from q1)
      refine tq_istore (M := mX10_plan) (pc := 64) dX10_plan_64 (L2 := [(4, .int v26), (3, .int v10), (2, .int v8), (0, .ref t), (1, .int a1)]) (by decide) rfl ?_
      refine tq_iload (M := mX10_plan) (pc := 66) dX10_plan_66 rfl ?_
      refine tq_iload_n (M := mX10_plan) (pc := 68) dX10_plan_68 rfl ?_
      refine tq_icmp_ge (M := mX10_plan) (pc := 69) (tgt := 79) dX10_plan_69 (by decide) (fun cc => ?_) (fun cc => ?_)
      · have hf := tq_ifp hf cc
        refine tq_sipush (M := mX10_plan) (pc := 79) dX10_plan_79 tk_ks_1000 ?_
        refine tq_aload_n (M := mX10_plan) (pc := 82) dX10_plan_82 rfl ?_
        obtain ⟨k27, ek27, hf⟩ := tq_be hf
        refine tq_getR (M := mX10_plan) (pc := 83) tk_c10 (by decide) dX10_plan_83 tk_RX10_29 rfl ek27 ?_
        refine tq_iload_n (M := mX10_plan) (pc := 86) dX10_plan_86 rfl ?_
        obtain ⟨⟨⟩, eu29, hf⟩ := tq_be hf
        obtain ⟨fsu29, eu29⟩ := tq_is_s eu29
        obtain ⟨v28, ev28, hf⟩ := tq_be hf
        refine tq_calV (M := mX10_plan) (pc := 87) (S := [.int (1000 : Int32)]) tk_y_X4_canStream tk_v_X4_canStream tk_RX10_387 dX10_plan_87 [.int a1] rfl (S0 := _) rfl eu29 rfl (Nat.le_of_ble_eq_true rfl) (d1 := d - 1) (b1 := 0) (s1 := 0) (bc' := bc) (bs' := bs) (Q1 := fun r h9 => r = .inl (some (.int v28)) ∧ w3 = h9) (by omega) (by omega) (by omega) (w_X4_canStream (by omega) ev28 (fun _ _ q => q)) (fun E h9 q => nomatch (show (Sum.inr E : tq_R) = Sum.inl _ from q.1)) (fun r9 h9 q => ?_)
        obtain ⟨q1, rfl⟩ := q
        cases (show (Sum.inl r9 : tq_R) = Sum.inl (some (.int v28)) from q1)
        obtain ⟨p30, ep30, hf⟩ := tq_le hf
        have HJ90 : tq_W l mX10_plan d bc bs Q 98 [(2, .int v8)] [.int p30, .int (1000 : Int32)] w3 := by
          refine tq_imul (M := mX10_plan) (pc := 98) dX10_plan_98 ?_
          refine tq_iload_n (M := mX10_plan) (pc := 99) dX10_plan_99 rfl ?_
          refine tq_iadd (M := mX10_plan) (pc := 100) dX10_plan_100 ?_
          refine tq_iret (M := mX10_plan) (pc := 101) dX10_plan_101 rfl ?_
          cases (Option.some.inj hf)
          exact hQ _ _ ⟨rfl, rfl⟩
        refine tq_if_eq (M := mX10_plan) (pc := 90) (tgt := 97) dX10_plan_90 (by decide) (fun cc => ?_) (fun cc => ?_)
        · have hf := tq_ifp ep30.symm cc
          refine tq_iconst (M := mX10_plan) (pc := 97) dX10_plan_97 tk_ki_0 ?_
          refine tq_pick (L2 := [(2, .int v8)]) [2] rfl ?_
          cases hf
          exact HJ90
        · have hf := tq_ifn ep30.symm cc
          refine tq_iconst (M := mX10_plan) (pc := 93) dX10_plan_93 tk_ki_2 ?_
          refine tq_goto (M := mX10_plan) (pc := 94) (tgt := 98) dX10_plan_94 (by decide) ?_
          refine tq_pick (L2 := [(2, .int v8)]) [2] rfl ?_
          cases hf
          exact HJ90
      · have hf := tq_ifn hf cc
        refine tq_sipush (M := mX10_plan) (pc := 72) dX10_plan_72 tk_ks_1000 ?_
        refine tq_iload (M := mX10_plan) (pc := 75) dX10_plan_75 rfl ?_
        refine tq_iadd (M := mX10_plan) (pc := 77) dX10_plan_77 ?_
        refine tq_iret (M := mX10_plan) (pc := 78) dX10_plan_78 rfl ?_
        cases (Option.some.inj hf)
        exact hQ _ _ ⟨rfl, rfl⟩
abbrev mX10_view : tq_M := (RX10, cX10_view, 2, (some .int), false, [], none)
def f_X10_view (t : Nat) (a1 : Int32) (h : tq_H) : Option ((String ⊕ Int32) × tq_H) :=
  (tq_is h t 10).bind fun _ =>
  tq_tb (f_X10_needPath t a1 h) fun _ w3 =>
  (tq_gi w3 t 10 13).bind fun x4 =>
  if x4 < (5 : Int32) then
    (tq_gr w3 t 10 8).bind fun k5 =>
    (tq_gi w3 t 10 13).bind fun x6 =>
    (tq_is w3 k5 5).bind fun _ =>
    (f_X5_set k5 x6 a1 w3).bind fun v7 =>
    (tq_gr v7 t 10 9).bind fun k9 =>
    (tq_gi v7 t 10 13).bind fun x10 =>
    (tq_is v7 k9 5).bind fun _ =>
    (f_X5_set k9 x10 (0 : Int32) v7).bind fun v11 =>
    (tq_gi v11 t 10 13).bind fun x13 =>
    (tq_pf v11 t 10 13 (.int ((x13 + (1 : Int32))))).bind fun w14 =>
    (tq_gi w14 t 10 13).bind fun x15 =>
    some (.inr (x15 - (1 : Int32)), w14)
  else
    some (.inl "java/lang/IllegalStateException", w3)
set_option maxHeartbeats 4000000 in
set_option maxRecDepth 20000 in
theorem w_X10_view {l : Launch} {d : Nat} (hd9 : 7 ≤ d) {t : Nat} {a1 : Int32} {bc bs : Nat} {h : tq_H} {o : (String ⊕ Int32) × tq_H} {Q : tq_R → tq_H → Prop} (hf : f_X10_view t a1 h = some o) (hb : ∀ E g, o = (.inl E, g) → 1 ≤ bc ∧ 6 ≤ bs) (hQ : ∀ r h9, r = tq_enI o.1 ∧ o.2 = h9 → Q r h9) : tq_C l yX10_view cX10_view 2 (some .int) d (0 + bc) (0 + bs) [.ref t, .int a1] h Q := by
  refine tq_body (y := yX10_view) false (by decide +kernel) (fun z => by cases z) (Nat.le_of_ble_eq_true rfl) ?_
  show tq_W l mX10_view d (0 + bc) (0 + bs) Q 0 [(0, .ref t), (1, .int a1)] [] h
  refine tq_more (bc := bc) (bs := bs) (by omega) (by omega) ?_
  refine tq_aload_n (M := mX10_view) (pc := 0) dX10_view_0 rfl ?_
  refine tq_iload_n (M := mX10_view) (pc := 1) dX10_view_1 rfl ?_
  obtain ⟨⟨⟩, eu2, hf⟩ := tq_be hf
  obtain ⟨fsu2, eu2⟩ := tq_is_s eu2
  rcases tq_te hf with ⟨E1, g1, ev1, e9⟩ | ⟨v1, w3, ev1, hf⟩
  · have hb9 := hb _ _ e9
    refine tq_calV (M := mX10_view) (pc := 2) (S := []) tk_y_X10_needPath tk_v_X10_needPath tk_RX10_262 dX10_view_2 [.int a1] rfl (S0 := _) rfl eu2 rfl (Nat.le_of_ble_eq_true rfl) (d1 := d - 1) (b1 := 0 + bc) (s1 := 0 + bs) (bc' := 0) (bs' := 0) (Q1 := fun r h9 => r = tq_enV ((.inl E1, g1) : (String ⊕ Unit) × tq_H).1 ∧ ((.inl E1, g1) : (String ⊕ Unit) × tq_H).2 = h9) (by omega) (by omega) (by omega) (w_X10_needPath (bc := bc) (bs := bs) (by omega) ev1 (fun _ _ _ => hb9) (fun _ _ q => q)) (fun E h9 q => ?_) (fun r9 h9 q => nomatch (show (Sum.inl r9 : tq_R) = Sum.inr E1 from q.1))
    obtain ⟨q1, rfl⟩ := q
    cases (show (Sum.inr E : tq_R) = Sum.inr E1 from q1)
    subst e9
    exact tq_out rfl (hQ _ _ ⟨rfl, rfl⟩)
  · refine tq_calV (M := mX10_view) (pc := 2) (S := []) tk_y_X10_needPath tk_v_X10_needPath tk_RX10_262 dX10_view_2 [.int a1] rfl (S0 := _) rfl eu2 rfl (Nat.le_of_ble_eq_true rfl) (d1 := d - 1) (b1 := 0 + 0) (s1 := 0 + 0) (bc' := bc) (bs' := bs) (Q1 := fun r h9 => r = tq_enV ((.inr (), w3) : (String ⊕ Unit) × tq_H).1 ∧ ((.inr (), w3) : (String ⊕ Unit) × tq_H).2 = h9) (by omega) (by omega) (by omega) (w_X10_needPath (bc := 0) (bs := 0) (by omega) ev1 (fun E g z => by cases z) (fun _ _ q => q)) (fun E h9 q => nomatch (show (Sum.inr E : tq_R) = Sum.inl _ from q.1)) (fun r9 h9 q => ?_)
    obtain ⟨q1, rfl⟩ := q
    cases (show (Sum.inl r9 : tq_R) = Sum.inl (none) from q1)
    refine tq_aload_n (M := mX10_view) (pc := 5) dX10_view_5 rfl ?_
    obtain ⟨x4, ex4, hf⟩ := tq_be hf
    refine tq_getI (M := mX10_view) (pc := 6) tk_c10 (by decide) dX10_view_6 tk_RX10_85 rfl ex4 ?_
    refine tq_iconst (M := mX10_view) (pc := 9) dX10_view_9 tk_ki_5 ?_
    refine tq_icmp_lt (M := mX10_view) (pc := 10) (tgt := 24) dX10_view_10 (by decide) (fun cc => ?_) (fun cc => ?_)
    · have hf := tq_ifp hf cc
      refine tq_aload_n (M := mX10_view) (pc := 24) dX10_view_24 rfl ?_
      obtain ⟨k5, ek5, hf⟩ := tq_be hf
      refine tq_getR (M := mX10_view) (pc := 25) tk_c10 (by decide) dX10_view_25 tk_RX10_61 rfl ek5 ?_
      refine tq_aload_n (M := mX10_view) (pc := 28) dX10_view_28 rfl ?_
      obtain ⟨x6, ex6, hf⟩ := tq_be hf
      refine tq_getI (M := mX10_view) (pc := 29) tk_c10 (by decide) dX10_view_29 tk_RX10_85 rfl ex6 ?_
      refine tq_iload_n (M := mX10_view) (pc := 32) dX10_view_32 rfl ?_
      obtain ⟨⟨⟩, eu8, hf⟩ := tq_be hf
      obtain ⟨fsu8, eu8⟩ := tq_is_s eu8
      obtain ⟨v7, ev7, hf⟩ := tq_be hf
      refine tq_calV (M := mX10_view) (pc := 33) (S := []) tk_y_X5_set tk_v_X5_set tk_RX10_392 dX10_view_33 [.int x6, .int a1] rfl (S0 := _) rfl eu8 rfl (Nat.le_of_ble_eq_true rfl) (d1 := d - 1) (b1 := 0) (s1 := 0) (bc' := bc) (bs' := bs) (Q1 := fun r h9 => r = .inl none ∧ v7 = h9) (by omega) (by omega) (by omega) (w_X5_set (by omega) ev7 (fun _ _ q => q)) (fun E h9 q => nomatch (show (Sum.inr E : tq_R) = Sum.inl _ from q.1)) (fun r9 h9 q => ?_)
      obtain ⟨q1, rfl⟩ := q
      cases (show (Sum.inl r9 : tq_R) = Sum.inl (none) from q1)
      refine tq_aload_n (M := mX10_view) (pc := 36) dX10_view_36 rfl ?_
      obtain ⟨k9, ek9, hf⟩ := tq_be hf
      refine tq_getR (M := mX10_view) (pc := 37) tk_c10 (by decide) dX10_view_37 tk_RX10_65 rfl ek9 ?_
      refine tq_aload_n (M := mX10_view) (pc := 40) dX10_view_40 rfl ?_
      obtain ⟨x10, ex10, hf⟩ := tq_be hf
      refine tq_getI (M := mX10_view) (pc := 41) tk_c10 (by decide) dX10_view_41 tk_RX10_85 rfl ex10 ?_
      refine tq_iconst (M := mX10_view) (pc := 44) dX10_view_44 tk_ki_0 ?_
      obtain ⟨⟨⟩, eu12, hf⟩ := tq_be hf
      obtain ⟨fsu12, eu12⟩ := tq_is_s eu12
      obtain ⟨v11, ev11, hf⟩ := tq_be hf
      refine tq_calV (M := mX10_view) (pc := 45) (S := []) tk_y_X5_set tk_v_X5_set tk_RX10_392 dX10_view_45 [.int x10, .int (0 : Int32)] rfl (S0 := _) rfl eu12 rfl (Nat.le_of_ble_eq_true rfl) (d1 := d - 1) (b1 := 0) (s1 := 0) (bc' := bc) (bs' := bs) (Q1 := fun r h9 => r = .inl none ∧ v11 = h9) (by omega) (by omega) (by omega) (w_X5_set (by omega) ev11 (fun _ _ q => q)) (fun E h9 q => nomatch (show (Sum.inr E : tq_R) = Sum.inl _ from q.1)) (fun r9 h9 q => ?_)
      obtain ⟨q1, rfl⟩ := q
      cases (show (Sum.inl r9 : tq_R) = Sum.inl (none) from q1)
      refine tq_aload_n (M := mX10_view) (pc := 48) dX10_view_48 rfl ?_
      refine tq_dup (M := mX10_view) (pc := 49) dX10_view_49 rfl ?_
      obtain ⟨x13, ex13, hf⟩ := tq_be hf
      refine tq_getI (M := mX10_view) (pc := 50) tk_c10 (by decide) dX10_view_50 tk_RX10_85 rfl ex13 ?_
      refine tq_iconst (M := mX10_view) (pc := 53) dX10_view_53 tk_ki_1 ?_
      refine tq_iadd (M := mX10_view) (pc := 54) dX10_view_54 ?_
      obtain ⟨w14, ew14, hf⟩ := tq_be hf
      refine tq_putv (M := mX10_view) (pc := 55) tk_c10 (by decide) dX10_view_55 tk_RX10_85 rfl (Or.inl rfl) ew14 (tq_nI _) ?_
      refine tq_aload_n (M := mX10_view) (pc := 58) dX10_view_58 rfl ?_
      obtain ⟨x15, ex15, hf⟩ := tq_be hf
      refine tq_getI (M := mX10_view) (pc := 59) tk_c10 (by decide) dX10_view_59 tk_RX10_85 rfl ex15 ?_
      refine tq_iconst (M := mX10_view) (pc := 62) dX10_view_62 tk_ki_1 ?_
      refine tq_isub (M := mX10_view) (pc := 63) dX10_view_63 ?_
      refine tq_iret (M := mX10_view) (pc := 64) dX10_view_64 rfl ?_
      cases (Option.some.inj hf)
      exact hQ _ _ ⟨rfl, rfl⟩
    · have hf := tq_ifn hf cc
      have hb9 := hb _ _ (Option.some.inj hf).symm
      refine tq_throw (M := mX10_view) (pc := 13) (E := "java/lang/IllegalStateException") (ik := 149) (ic := 153) (is := 390) (text := "there are 5 views") (by decide +kernel) (by decide +kernel) rfl rfl dX10_view_13 dX10_view_16 dX10_view_17 dX10_view_20 dX10_view_23 (by omega) (by omega) (by omega) ?_
      cases (Option.some.inj hf)
      exact hQ _ _ ⟨rfl, rfl⟩
abbrev mX10_viewed : tq_M := (RX10, cX10_viewed, 4, (some .int), false, [], none)
def f_X10_viewed (t : Nat) (a1 : Int32) (a2 : Int32) (h : tq_H) : Option ((String ⊕ Int32) × tq_H) :=
  (tq_gi h t 10 13).bind fun x1 =>
  (tq_is h t 10).bind fun _ =>
  tq_tb (f_X10_needIndex t a1 x1 h) fun _ w4 =>
  (tq_is w4 t 10).bind fun _ =>
  tq_tb (f_X10_needNotNegative t a2 w4) fun _ w7 =>
  (tq_gr w7 t 10 8).bind fun k8 =>
  (tq_is w7 k8 5).bind fun _ =>
  (f_X5_get k8 a1 w7).bind fun v9 =>
  (tq_gr w7 t 10 4).bind fun k11 =>
  (tq_is w7 k11 2).bind fun _ =>
  (f_X2_prepare k11 v9 w7).bind fun v12 =>
  (tq_gr v12 t 10 0).bind fun k14 =>
  (tq_gr v12 k14 8 0).bind fun k15 =>
  (tq_gr v12 t 10 4).bind fun k16 =>
  (tq_is v12 k16 2).bind fun _ =>
  (f_X2_foundFrom k16 v9 (0 : Int32) v12).bind fun v17 =>
  (tq_is v12 k15 3).bind fun _ =>
  (f_X3_nodeOfSet k15 v17 a2 v12).bind fun v19 =>
  some (.inr v19, v12)
set_option maxHeartbeats 4000000 in
set_option maxRecDepth 20000 in
theorem w_X10_viewed {l : Launch} {d : Nat} (hd9 : 7 ≤ d) {t : Nat} {a1 : Int32} {a2 : Int32} {bc bs : Nat} {h : tq_H} {o : (String ⊕ Int32) × tq_H} {Q : tq_R → tq_H → Prop} (hf : f_X10_viewed t a1 a2 h = some o) (hb : ∀ E g, o = (.inl E, g) → 1 ≤ bc ∧ 6 ≤ bs) (hQ : ∀ r h9, r = tq_enI o.1 ∧ o.2 = h9 → Q r h9) : tq_C l yX10_viewed cX10_viewed 4 (some .int) d (0 + bc) (0 + bs) [.ref t, .int a1, .int a2] h Q := by
  refine tq_body (y := yX10_viewed) false (by decide +kernel) (fun z => by cases z) (Nat.le_of_ble_eq_true rfl) ?_
  show tq_W l mX10_viewed d (0 + bc) (0 + bs) Q 0 [(0, .ref t), (1, .int a1), (2, .int a2)] [] h
  refine tq_more (bc := bc) (bs := bs) (by omega) (by omega) ?_
  refine tq_aload_n (M := mX10_viewed) (pc := 0) dX10_viewed_0 rfl ?_
  refine tq_iload_n (M := mX10_viewed) (pc := 1) dX10_viewed_1 rfl ?_
  refine tq_aload_n (M := mX10_viewed) (pc := 2) dX10_viewed_2 rfl ?_
  obtain ⟨x1, ex1, hf⟩ := tq_be hf
  refine tq_getI (M := mX10_viewed) (pc := 3) tk_c10 (by decide) dX10_viewed_3 tk_RX10_85 rfl ex1 ?_
  obtain ⟨⟨⟩, eu3, hf⟩ := tq_be hf
  obtain ⟨fsu3, eu3⟩ := tq_is_s eu3
  rcases tq_te hf with ⟨E1, g1, ev2, e9⟩ | ⟨v2, w4, ev2, hf⟩
  · have hb9 := hb _ _ e9
    refine tq_calV (M := mX10_viewed) (pc := 6) (S := []) tk_y_X10_needIndex tk_v_X10_needIndex tk_RX10_334 dX10_viewed_6 [.int a1, .int x1] rfl (S0 := _) rfl eu3 rfl (Nat.le_of_ble_eq_true rfl) (d1 := d - 1) (b1 := 0 + bc) (s1 := 0 + bs) (bc' := 0) (bs' := 0) (Q1 := fun r h9 => r = tq_enV ((.inl E1, g1) : (String ⊕ Unit) × tq_H).1 ∧ ((.inl E1, g1) : (String ⊕ Unit) × tq_H).2 = h9) (by omega) (by omega) (by omega) (w_X10_needIndex (bc := bc) (bs := bs) (by omega) ev2 (fun _ _ _ => hb9) (fun _ _ q => q)) (fun E h9 q => ?_) (fun r9 h9 q => nomatch (show (Sum.inl r9 : tq_R) = Sum.inr E1 from q.1))
    obtain ⟨q1, rfl⟩ := q
    cases (show (Sum.inr E : tq_R) = Sum.inr E1 from q1)
    subst e9
    exact tq_out rfl (hQ _ _ ⟨rfl, rfl⟩)
  · refine tq_calV (M := mX10_viewed) (pc := 6) (S := []) tk_y_X10_needIndex tk_v_X10_needIndex tk_RX10_334 dX10_viewed_6 [.int a1, .int x1] rfl (S0 := _) rfl eu3 rfl (Nat.le_of_ble_eq_true rfl) (d1 := d - 1) (b1 := 0 + 0) (s1 := 0 + 0) (bc' := bc) (bs' := bs) (Q1 := fun r h9 => r = tq_enV ((.inr (), w4) : (String ⊕ Unit) × tq_H).1 ∧ ((.inr (), w4) : (String ⊕ Unit) × tq_H).2 = h9) (by omega) (by omega) (by omega) (w_X10_needIndex (bc := 0) (bs := 0) (by omega) ev2 (fun E g z => by cases z) (fun _ _ q => q)) (fun E h9 q => nomatch (show (Sum.inr E : tq_R) = Sum.inl _ from q.1)) (fun r9 h9 q => ?_)
    obtain ⟨q1, rfl⟩ := q
    cases (show (Sum.inl r9 : tq_R) = Sum.inl (none) from q1)
    refine tq_aload_n (M := mX10_viewed) (pc := 9) dX10_viewed_9 rfl ?_
    refine tq_iload_n (M := mX10_viewed) (pc := 10) dX10_viewed_10 rfl ?_
    obtain ⟨⟨⟩, eu6, hf⟩ := tq_be hf
    obtain ⟨fsu6, eu6⟩ := tq_is_s eu6
    rcases tq_te hf with ⟨E1, g1, ev5, e9⟩ | ⟨v5, w7, ev5, hf⟩
    · have hb9 := hb _ _ e9
      refine tq_calV (M := mX10_viewed) (pc := 11) (S := []) tk_y_X10_needNotNegative tk_v_X10_needNotNegative tk_RX10_239 dX10_viewed_11 [.int a2] rfl (S0 := _) rfl eu6 rfl (Nat.le_of_ble_eq_true rfl) (d1 := d - 1) (b1 := 0 + bc) (s1 := 0 + bs) (bc' := 0) (bs' := 0) (Q1 := fun r h9 => r = tq_enV ((.inl E1, g1) : (String ⊕ Unit) × tq_H).1 ∧ ((.inl E1, g1) : (String ⊕ Unit) × tq_H).2 = h9) (by omega) (by omega) (by omega) (w_X10_needNotNegative (bc := bc) (bs := bs) (by omega) ev5 (fun _ _ _ => hb9) (fun _ _ q => q)) (fun E h9 q => ?_) (fun r9 h9 q => nomatch (show (Sum.inl r9 : tq_R) = Sum.inr E1 from q.1))
      obtain ⟨q1, rfl⟩ := q
      cases (show (Sum.inr E : tq_R) = Sum.inr E1 from q1)
      subst e9
      exact tq_out rfl (hQ _ _ ⟨rfl, rfl⟩)
    · refine tq_calV (M := mX10_viewed) (pc := 11) (S := []) tk_y_X10_needNotNegative tk_v_X10_needNotNegative tk_RX10_239 dX10_viewed_11 [.int a2] rfl (S0 := _) rfl eu6 rfl (Nat.le_of_ble_eq_true rfl) (d1 := d - 1) (b1 := 0 + 0) (s1 := 0 + 0) (bc' := bc) (bs' := bs) (Q1 := fun r h9 => r = tq_enV ((.inr (), w7) : (String ⊕ Unit) × tq_H).1 ∧ ((.inr (), w7) : (String ⊕ Unit) × tq_H).2 = h9) (by omega) (by omega) (by omega) (w_X10_needNotNegative (bc := 0) (bs := 0) (by omega) ev5 (fun E g z => by cases z) (fun _ _ q => q)) (fun E h9 q => nomatch (show (Sum.inr E : tq_R) = Sum.inl _ from q.1)) (fun r9 h9 q => ?_)
      obtain ⟨q1, rfl⟩ := q
      cases (show (Sum.inl r9 : tq_R) = Sum.inl (none) from q1)
      refine tq_aload_n (M := mX10_viewed) (pc := 14) dX10_viewed_14 rfl ?_
      obtain ⟨k8, ek8, hf⟩ := tq_be hf
      refine tq_getR (M := mX10_viewed) (pc := 15) tk_c10 (by decide) dX10_viewed_15 tk_RX10_61 rfl ek8 ?_
      refine tq_iload_n (M := mX10_viewed) (pc := 18) dX10_viewed_18 rfl ?_
      obtain ⟨⟨⟩, eu10, hf⟩ := tq_be hf
      obtain ⟨fsu10, eu10⟩ := tq_is_s eu10
      obtain ⟨v9, ev9, hf⟩ := tq_be hf
      refine tq_calV (M := mX10_viewed) (pc := 19) (S := []) tk_y_X5_get tk_v_X5_get tk_RX10_162 dX10_viewed_19 [.int a1] rfl (S0 := _) rfl eu10 rfl (Nat.le_of_ble_eq_true rfl) (d1 := d - 1) (b1 := 0) (s1 := 0) (bc' := bc) (bs' := bs) (Q1 := fun r h9 => r = .inl (some (.int v9)) ∧ w7 = h9) (by omega) (by omega) (by omega) (w_X5_get (by omega) ev9 (fun _ _ q => q)) (fun E h9 q => nomatch (show (Sum.inr E : tq_R) = Sum.inl _ from q.1)) (fun r9 h9 q => ?_)
      obtain ⟨q1, rfl⟩ := q
      cases (show (Sum.inl r9 : tq_R) = Sum.inl (some (.int v9)) from q1)
      refine tq_istore_n (M := mX10_viewed) (pc := 22) rfl dX10_viewed_22 (L2 := [(3, .int v9), (0, .ref t), (1, .int a1), (2, .int a2)]) (by decide) rfl ?_
      refine tq_aload_n (M := mX10_viewed) (pc := 23) dX10_viewed_23 rfl ?_
      obtain ⟨k11, ek11, hf⟩ := tq_be hf
      refine tq_getR (M := mX10_viewed) (pc := 24) tk_c10 (by decide) dX10_viewed_24 tk_RX10_38 rfl ek11 ?_
      refine tq_iload_n (M := mX10_viewed) (pc := 27) dX10_viewed_27 rfl ?_
      obtain ⟨⟨⟩, eu13, hf⟩ := tq_be hf
      obtain ⟨fsu13, eu13⟩ := tq_is_s eu13
      obtain ⟨v12, ev12, hf⟩ := tq_be hf
      refine tq_calV (M := mX10_viewed) (pc := 28) (S := []) tk_y_X2_prepare tk_v_X2_prepare tk_RX10_302 dX10_viewed_28 [.int v9] rfl (S0 := _) rfl eu13 rfl (Nat.le_of_ble_eq_true rfl) (d1 := d - 1) (b1 := 0) (s1 := 0) (bc' := bc) (bs' := bs) (Q1 := fun r h9 => r = .inl none ∧ v12 = h9) (by omega) (by omega) (by omega) (w_X2_prepare (by omega) ev12 (fun _ _ q => q)) (fun E h9 q => nomatch (show (Sum.inr E : tq_R) = Sum.inl _ from q.1)) (fun r9 h9 q => ?_)
      obtain ⟨q1, rfl⟩ := q
      cases (show (Sum.inl r9 : tq_R) = Sum.inl (none) from q1)
      refine tq_aload_n (M := mX10_viewed) (pc := 31) dX10_viewed_31 rfl ?_
      obtain ⟨k14, ek14, hf⟩ := tq_be hf
      refine tq_getR (M := mX10_viewed) (pc := 32) tk_c10 (by decide) dX10_viewed_32 tk_RX10_12 rfl ek14 ?_
      obtain ⟨k15, ek15, hf⟩ := tq_be hf
      refine tq_getR (M := mX10_viewed) (pc := 35) tk_c8 (by decide) dX10_viewed_35 tk_RX10_115 rfl ek15 ?_
      refine tq_aload_n (M := mX10_viewed) (pc := 38) dX10_viewed_38 rfl ?_
      obtain ⟨k16, ek16, hf⟩ := tq_be hf
      refine tq_getR (M := mX10_viewed) (pc := 39) tk_c10 (by decide) dX10_viewed_39 tk_RX10_38 rfl ek16 ?_
      refine tq_iload_n (M := mX10_viewed) (pc := 42) dX10_viewed_42 rfl ?_
      refine tq_iconst (M := mX10_viewed) (pc := 43) dX10_viewed_43 tk_ki_0 ?_
      obtain ⟨⟨⟩, eu18, hf⟩ := tq_be hf
      obtain ⟨fsu18, eu18⟩ := tq_is_s eu18
      obtain ⟨v17, ev17, hf⟩ := tq_be hf
      refine tq_calV (M := mX10_viewed) (pc := 44) (S := [.ref k15]) tk_y_X2_foundFrom tk_v_X2_foundFrom tk_RX10_305 dX10_viewed_44 [.int v9, .int (0 : Int32)] rfl (S0 := _) rfl eu18 rfl (Nat.le_of_ble_eq_true rfl) (d1 := d - 1) (b1 := 0) (s1 := 0) (bc' := bc) (bs' := bs) (Q1 := fun r h9 => r = .inl (some (.long v17)) ∧ v12 = h9) (by omega) (by omega) (by omega) (w_X2_foundFrom (by omega) ev17 (fun _ _ q => q)) (fun E h9 q => nomatch (show (Sum.inr E : tq_R) = Sum.inl _ from q.1)) (fun r9 h9 q => ?_)
      obtain ⟨q1, rfl⟩ := q
      cases (show (Sum.inl r9 : tq_R) = Sum.inl (some (.long v17)) from q1)
      refine tq_iload_n (M := mX10_viewed) (pc := 47) dX10_viewed_47 rfl ?_
      obtain ⟨⟨⟩, eu20, hf⟩ := tq_be hf
      obtain ⟨fsu20, eu20⟩ := tq_is_s eu20
      obtain ⟨v19, ev19, hf⟩ := tq_be hf
      refine tq_calV (M := mX10_viewed) (pc := 48) (S := []) tk_y_X3_nodeOfSet tk_v_X3_nodeOfSet tk_RX10_246 dX10_viewed_48 [.long v17, .int a2] rfl (S0 := _) rfl eu20 rfl (Nat.le_of_ble_eq_true rfl) (d1 := d - 1) (b1 := 0) (s1 := 0) (bc' := bc) (bs' := bs) (Q1 := fun r h9 => r = .inl (some (.int v19)) ∧ v12 = h9) (by omega) (by omega) (by omega) (w_X3_nodeOfSet (by omega) ev19 (fun _ _ q => q)) (fun E h9 q => nomatch (show (Sum.inr E : tq_R) = Sum.inl _ from q.1)) (fun r9 h9 q => ?_)
      obtain ⟨q1, rfl⟩ := q
      cases (show (Sum.inl r9 : tq_R) = Sum.inl (some (.int v19)) from q1)
      refine tq_iret (M := mX10_viewed) (pc := 51) dX10_viewed_51 rfl ?_
      cases (Option.some.inj hf)
      exact hQ _ _ ⟨rfl, rfl⟩
abbrev mX10_changed : tq_M := (RX10, cX10_changed, 2, (some .int), false, [], none)
def f_X10_changed (t : Nat) (a1 : Int32) (h : tq_H) : Option ((String ⊕ Int32) × tq_H) :=
  (tq_gi h t 10 13).bind fun x1 =>
  (tq_is h t 10).bind fun _ =>
  tq_tb (f_X10_needIndex t a1 x1 h) fun _ w4 =>
  (tq_gr w4 t 10 9).bind fun k5 =>
  (tq_is w4 k5 5).bind fun _ =>
  (f_X5_get k5 a1 w4).bind fun v6 =>
  some (.inr v6, w4)
set_option maxHeartbeats 4000000 in
set_option maxRecDepth 20000 in
theorem w_X10_changed {l : Launch} {d : Nat} (hd9 : 7 ≤ d) {t : Nat} {a1 : Int32} {bc bs : Nat} {h : tq_H} {o : (String ⊕ Int32) × tq_H} {Q : tq_R → tq_H → Prop} (hf : f_X10_changed t a1 h = some o) (hb : ∀ E g, o = (.inl E, g) → 1 ≤ bc ∧ 6 ≤ bs) (hQ : ∀ r h9, r = tq_enI o.1 ∧ o.2 = h9 → Q r h9) : tq_C l yX10_changed cX10_changed 2 (some .int) d (0 + bc) (0 + bs) [.ref t, .int a1] h Q := by
  refine tq_body (y := yX10_changed) false (by decide +kernel) (fun z => by cases z) (Nat.le_of_ble_eq_true rfl) ?_
  show tq_W l mX10_changed d (0 + bc) (0 + bs) Q 0 [(0, .ref t), (1, .int a1)] [] h
  refine tq_more (bc := bc) (bs := bs) (by omega) (by omega) ?_
  refine tq_aload_n (M := mX10_changed) (pc := 0) dX10_changed_0 rfl ?_
  refine tq_iload_n (M := mX10_changed) (pc := 1) dX10_changed_1 rfl ?_
  refine tq_aload_n (M := mX10_changed) (pc := 2) dX10_changed_2 rfl ?_
  obtain ⟨x1, ex1, hf⟩ := tq_be hf
  refine tq_getI (M := mX10_changed) (pc := 3) tk_c10 (by decide) dX10_changed_3 tk_RX10_85 rfl ex1 ?_
  obtain ⟨⟨⟩, eu3, hf⟩ := tq_be hf
  obtain ⟨fsu3, eu3⟩ := tq_is_s eu3
  rcases tq_te hf with ⟨E1, g1, ev2, e9⟩ | ⟨v2, w4, ev2, hf⟩
  · have hb9 := hb _ _ e9
    refine tq_calV (M := mX10_changed) (pc := 6) (S := []) tk_y_X10_needIndex tk_v_X10_needIndex tk_RX10_334 dX10_changed_6 [.int a1, .int x1] rfl (S0 := _) rfl eu3 rfl (Nat.le_of_ble_eq_true rfl) (d1 := d - 1) (b1 := 0 + bc) (s1 := 0 + bs) (bc' := 0) (bs' := 0) (Q1 := fun r h9 => r = tq_enV ((.inl E1, g1) : (String ⊕ Unit) × tq_H).1 ∧ ((.inl E1, g1) : (String ⊕ Unit) × tq_H).2 = h9) (by omega) (by omega) (by omega) (w_X10_needIndex (bc := bc) (bs := bs) (by omega) ev2 (fun _ _ _ => hb9) (fun _ _ q => q)) (fun E h9 q => ?_) (fun r9 h9 q => nomatch (show (Sum.inl r9 : tq_R) = Sum.inr E1 from q.1))
    obtain ⟨q1, rfl⟩ := q
    cases (show (Sum.inr E : tq_R) = Sum.inr E1 from q1)
    subst e9
    exact tq_out rfl (hQ _ _ ⟨rfl, rfl⟩)
  · refine tq_calV (M := mX10_changed) (pc := 6) (S := []) tk_y_X10_needIndex tk_v_X10_needIndex tk_RX10_334 dX10_changed_6 [.int a1, .int x1] rfl (S0 := _) rfl eu3 rfl (Nat.le_of_ble_eq_true rfl) (d1 := d - 1) (b1 := 0 + 0) (s1 := 0 + 0) (bc' := bc) (bs' := bs) (Q1 := fun r h9 => r = tq_enV ((.inr (), w4) : (String ⊕ Unit) × tq_H).1 ∧ ((.inr (), w4) : (String ⊕ Unit) × tq_H).2 = h9) (by omega) (by omega) (by omega) (w_X10_needIndex (bc := 0) (bs := 0) (by omega) ev2 (fun E g z => by cases z) (fun _ _ q => q)) (fun E h9 q => nomatch (show (Sum.inr E : tq_R) = Sum.inl _ from q.1)) (fun r9 h9 q => ?_)
    obtain ⟨q1, rfl⟩ := q
    cases (show (Sum.inl r9 : tq_R) = Sum.inl (none) from q1)
    refine tq_aload_n (M := mX10_changed) (pc := 9) dX10_changed_9 rfl ?_
    obtain ⟨k5, ek5, hf⟩ := tq_be hf
    refine tq_getR (M := mX10_changed) (pc := 10) tk_c10 (by decide) dX10_changed_10 tk_RX10_65 rfl ek5 ?_
    refine tq_iload_n (M := mX10_changed) (pc := 13) dX10_changed_13 rfl ?_
    obtain ⟨⟨⟩, eu7, hf⟩ := tq_be hf
    obtain ⟨fsu7, eu7⟩ := tq_is_s eu7
    obtain ⟨v6, ev6, hf⟩ := tq_be hf
    refine tq_calV (M := mX10_changed) (pc := 14) (S := []) tk_y_X5_get tk_v_X5_get tk_RX10_162 dX10_changed_14 [.int a1] rfl (S0 := _) rfl eu7 rfl (Nat.le_of_ble_eq_true rfl) (d1 := d - 1) (b1 := 0) (s1 := 0) (bc' := bc) (bs' := bs) (Q1 := fun r h9 => r = .inl (some (.int v6)) ∧ w4 = h9) (by omega) (by omega) (by omega) (w_X5_get (by omega) ev6 (fun _ _ q => q)) (fun E h9 q => nomatch (show (Sum.inr E : tq_R) = Sum.inl _ from q.1)) (fun r9 h9 q => ?_)
    obtain ⟨q1, rfl⟩ := q
    cases (show (Sum.inl r9 : tq_R) = Sum.inl (some (.int v6)) from q1)
    refine tq_iret (M := mX10_changed) (pc := 17) dX10_changed_17 rfl ?_
    cases (Option.some.inj hf)
    exact hQ _ _ ⟨rfl, rfl⟩
abbrev mX10_ranked : tq_M := (RX10, cX10_ranked, 3, (some .int), false, [], none)
def f_X10_ranked (t : Nat) (a1 : Int32) (a2 : Int32) (h : tq_H) : Option ((String ⊕ Int32) × tq_H) :=
  (tq_is h t 10).bind fun _ =>
  tq_tb (f_X10_needNotNegative t a2 h) fun _ w3 =>
  (tq_is w3 t 10).bind fun _ =>
  tq_tb (f_X10_needRange t a1 (0 : Int32) (999 : Int32) w3) fun _ w6 =>
  (tq_gr w6 t 10 0).bind fun k7 =>
  (tq_gr w6 k7 8 0).bind fun k8 =>
  (tq_gr w6 t 10 0).bind fun k9 =>
  (tq_gr w6 t 10 0).bind fun k10 =>
  (tq_is w6 k10 8).bind fun _ =>
  (f_X8_textsWorth k10 a1 w6).bind fun v11 =>
  (tq_is w6 k9 8).bind fun _ =>
  (f_X8_rankedSpot k9 v11 a2 w6).bind fun v13 =>
  (tq_is w6 k8 3).bind fun _ =>
  (f_X3_nodeAt k8 v13 w6).bind fun v15 =>
  some (.inr v15, w6)
set_option maxHeartbeats 4000000 in
set_option maxRecDepth 20000 in
theorem w_X10_ranked {l : Launch} {d : Nat} (hd9 : 7 ≤ d) {t : Nat} {a1 : Int32} {a2 : Int32} {bc bs : Nat} {h : tq_H} {o : (String ⊕ Int32) × tq_H} {Q : tq_R → tq_H → Prop} (hf : f_X10_ranked t a1 a2 h = some o) (hb : ∀ E g, o = (.inl E, g) → 1 ≤ bc ∧ 6 ≤ bs) (hQ : ∀ r h9, r = tq_enI o.1 ∧ o.2 = h9 → Q r h9) : tq_C l yX10_ranked cX10_ranked 3 (some .int) d (0 + bc) (0 + bs) [.ref t, .int a1, .int a2] h Q := by
  refine tq_body (y := yX10_ranked) false (by decide +kernel) (fun z => by cases z) (Nat.le_of_ble_eq_true rfl) ?_
  show tq_W l mX10_ranked d (0 + bc) (0 + bs) Q 0 [(0, .ref t), (1, .int a1), (2, .int a2)] [] h
  refine tq_more (bc := bc) (bs := bs) (by omega) (by omega) ?_
  refine tq_aload_n (M := mX10_ranked) (pc := 0) dX10_ranked_0 rfl ?_
  refine tq_iload_n (M := mX10_ranked) (pc := 1) dX10_ranked_1 rfl ?_
  obtain ⟨⟨⟩, eu2, hf⟩ := tq_be hf
  obtain ⟨fsu2, eu2⟩ := tq_is_s eu2
  rcases tq_te hf with ⟨E1, g1, ev1, e9⟩ | ⟨v1, w3, ev1, hf⟩
  · have hb9 := hb _ _ e9
    refine tq_calV (M := mX10_ranked) (pc := 2) (S := []) tk_y_X10_needNotNegative tk_v_X10_needNotNegative tk_RX10_239 dX10_ranked_2 [.int a2] rfl (S0 := _) rfl eu2 rfl (Nat.le_of_ble_eq_true rfl) (d1 := d - 1) (b1 := 0 + bc) (s1 := 0 + bs) (bc' := 0) (bs' := 0) (Q1 := fun r h9 => r = tq_enV ((.inl E1, g1) : (String ⊕ Unit) × tq_H).1 ∧ ((.inl E1, g1) : (String ⊕ Unit) × tq_H).2 = h9) (by omega) (by omega) (by omega) (w_X10_needNotNegative (bc := bc) (bs := bs) (by omega) ev1 (fun _ _ _ => hb9) (fun _ _ q => q)) (fun E h9 q => ?_) (fun r9 h9 q => nomatch (show (Sum.inl r9 : tq_R) = Sum.inr E1 from q.1))
    obtain ⟨q1, rfl⟩ := q
    cases (show (Sum.inr E : tq_R) = Sum.inr E1 from q1)
    subst e9
    exact tq_out rfl (hQ _ _ ⟨rfl, rfl⟩)
  · refine tq_calV (M := mX10_ranked) (pc := 2) (S := []) tk_y_X10_needNotNegative tk_v_X10_needNotNegative tk_RX10_239 dX10_ranked_2 [.int a2] rfl (S0 := _) rfl eu2 rfl (Nat.le_of_ble_eq_true rfl) (d1 := d - 1) (b1 := 0 + 0) (s1 := 0 + 0) (bc' := bc) (bs' := bs) (Q1 := fun r h9 => r = tq_enV ((.inr (), w3) : (String ⊕ Unit) × tq_H).1 ∧ ((.inr (), w3) : (String ⊕ Unit) × tq_H).2 = h9) (by omega) (by omega) (by omega) (w_X10_needNotNegative (bc := 0) (bs := 0) (by omega) ev1 (fun E g z => by cases z) (fun _ _ q => q)) (fun E h9 q => nomatch (show (Sum.inr E : tq_R) = Sum.inl _ from q.1)) (fun r9 h9 q => ?_)
    obtain ⟨q1, rfl⟩ := q
    cases (show (Sum.inl r9 : tq_R) = Sum.inl (none) from q1)
    refine tq_aload_n (M := mX10_ranked) (pc := 5) dX10_ranked_5 rfl ?_
    refine tq_iload_n (M := mX10_ranked) (pc := 6) dX10_ranked_6 rfl ?_
    refine tq_iconst (M := mX10_ranked) (pc := 7) dX10_ranked_7 tk_ki_0 ?_
    refine tq_sipush (M := mX10_ranked) (pc := 8) dX10_ranked_8 tk_ks_999 ?_
    obtain ⟨⟨⟩, eu5, hf⟩ := tq_be hf
    obtain ⟨fsu5, eu5⟩ := tq_is_s eu5
    rcases tq_te hf with ⟨E1, g1, ev4, e9⟩ | ⟨v4, w6, ev4, hf⟩
    · have hb9 := hb _ _ e9
      refine tq_calV (M := mX10_ranked) (pc := 11) (S := []) tk_y_X10_needRange tk_v_X10_needRange tk_RX10_132 dX10_ranked_11 [.int a1, .int (0 : Int32), .int (999 : Int32)] rfl (S0 := _) rfl eu5 rfl (Nat.le_of_ble_eq_true rfl) (d1 := d - 1) (b1 := 0 + bc) (s1 := 0 + bs) (bc' := 0) (bs' := 0) (Q1 := fun r h9 => r = tq_enV ((.inl E1, g1) : (String ⊕ Unit) × tq_H).1 ∧ ((.inl E1, g1) : (String ⊕ Unit) × tq_H).2 = h9) (by omega) (by omega) (by omega) (w_X10_needRange (bc := bc) (bs := bs) (by omega) ev4 (fun _ _ _ => hb9) (fun _ _ q => q)) (fun E h9 q => ?_) (fun r9 h9 q => nomatch (show (Sum.inl r9 : tq_R) = Sum.inr E1 from q.1))
      obtain ⟨q1, rfl⟩ := q
      cases (show (Sum.inr E : tq_R) = Sum.inr E1 from q1)
      subst e9
      exact tq_out rfl (hQ _ _ ⟨rfl, rfl⟩)
    · refine tq_calV (M := mX10_ranked) (pc := 11) (S := []) tk_y_X10_needRange tk_v_X10_needRange tk_RX10_132 dX10_ranked_11 [.int a1, .int (0 : Int32), .int (999 : Int32)] rfl (S0 := _) rfl eu5 rfl (Nat.le_of_ble_eq_true rfl) (d1 := d - 1) (b1 := 0 + 0) (s1 := 0 + 0) (bc' := bc) (bs' := bs) (Q1 := fun r h9 => r = tq_enV ((.inr (), w6) : (String ⊕ Unit) × tq_H).1 ∧ ((.inr (), w6) : (String ⊕ Unit) × tq_H).2 = h9) (by omega) (by omega) (by omega) (w_X10_needRange (bc := 0) (bs := 0) (by omega) ev4 (fun E g z => by cases z) (fun _ _ q => q)) (fun E h9 q => nomatch (show (Sum.inr E : tq_R) = Sum.inl _ from q.1)) (fun r9 h9 q => ?_)
      obtain ⟨q1, rfl⟩ := q
      cases (show (Sum.inl r9 : tq_R) = Sum.inl (none) from q1)
      refine tq_aload_n (M := mX10_ranked) (pc := 14) dX10_ranked_14 rfl ?_
      obtain ⟨k7, ek7, hf⟩ := tq_be hf
      refine tq_getR (M := mX10_ranked) (pc := 15) tk_c10 (by decide) dX10_ranked_15 tk_RX10_12 rfl ek7 ?_
      obtain ⟨k8, ek8, hf⟩ := tq_be hf
      refine tq_getR (M := mX10_ranked) (pc := 18) tk_c8 (by decide) dX10_ranked_18 tk_RX10_115 rfl ek8 ?_
      refine tq_aload_n (M := mX10_ranked) (pc := 21) dX10_ranked_21 rfl ?_
      obtain ⟨k9, ek9, hf⟩ := tq_be hf
      refine tq_getR (M := mX10_ranked) (pc := 22) tk_c10 (by decide) dX10_ranked_22 tk_RX10_12 rfl ek9 ?_
      refine tq_aload_n (M := mX10_ranked) (pc := 25) dX10_ranked_25 rfl ?_
      obtain ⟨k10, ek10, hf⟩ := tq_be hf
      refine tq_getR (M := mX10_ranked) (pc := 26) tk_c10 (by decide) dX10_ranked_26 tk_RX10_12 rfl ek10 ?_
      refine tq_iload_n (M := mX10_ranked) (pc := 29) dX10_ranked_29 rfl ?_
      obtain ⟨⟨⟩, eu12, hf⟩ := tq_be hf
      obtain ⟨fsu12, eu12⟩ := tq_is_s eu12
      obtain ⟨v11, ev11, hf⟩ := tq_be hf
      refine tq_calV (M := mX10_ranked) (pc := 30) (S := [.ref k9, .ref k8]) tk_y_X8_textsWorth tk_v_X8_textsWorth tk_RX10_395 dX10_ranked_30 [.int a1] rfl (S0 := _) rfl eu12 rfl (Nat.le_of_ble_eq_true rfl) (d1 := d - 1) (b1 := 0) (s1 := 0) (bc' := bc) (bs' := bs) (Q1 := fun r h9 => r = .inl (some (.long v11)) ∧ w6 = h9) (by omega) (by omega) (by omega) (w_X8_textsWorth (by omega) ev11 (fun _ _ q => q)) (fun E h9 q => nomatch (show (Sum.inr E : tq_R) = Sum.inl _ from q.1)) (fun r9 h9 q => ?_)
      obtain ⟨q1, rfl⟩ := q
      cases (show (Sum.inl r9 : tq_R) = Sum.inl (some (.long v11)) from q1)
      refine tq_iload_n (M := mX10_ranked) (pc := 33) dX10_ranked_33 rfl ?_
      obtain ⟨⟨⟩, eu14, hf⟩ := tq_be hf
      obtain ⟨fsu14, eu14⟩ := tq_is_s eu14
      obtain ⟨v13, ev13, hf⟩ := tq_be hf
      refine tq_calV (M := mX10_ranked) (pc := 34) (S := [.ref k8]) tk_y_X8_rankedSpot tk_v_X8_rankedSpot tk_RX10_398 dX10_ranked_34 [.long v11, .int a2] rfl (S0 := _) rfl eu14 rfl (Nat.le_of_ble_eq_true rfl) (d1 := d - 1) (b1 := 0) (s1 := 0) (bc' := bc) (bs' := bs) (Q1 := fun r h9 => r = .inl (some (.int v13)) ∧ w6 = h9) (by omega) (by omega) (by omega) (w_X8_rankedSpot (by omega) ev13 (fun _ _ q => q)) (fun E h9 q => nomatch (show (Sum.inr E : tq_R) = Sum.inl _ from q.1)) (fun r9 h9 q => ?_)
      obtain ⟨q1, rfl⟩ := q
      cases (show (Sum.inl r9 : tq_R) = Sum.inl (some (.int v13)) from q1)
      obtain ⟨⟨⟩, eu16, hf⟩ := tq_be hf
      obtain ⟨fsu16, eu16⟩ := tq_is_s eu16
      obtain ⟨v15, ev15, hf⟩ := tq_be hf
      refine tq_calV (M := mX10_ranked) (pc := 37) (S := []) tk_y_X3_nodeAt tk_v_X3_nodeAt tk_RX10_328 dX10_ranked_37 [.int v13] rfl (S0 := _) rfl eu16 rfl (Nat.le_of_ble_eq_true rfl) (d1 := d - 1) (b1 := 0) (s1 := 0) (bc' := bc) (bs' := bs) (Q1 := fun r h9 => r = .inl (some (.int v15)) ∧ w6 = h9) (by omega) (by omega) (by omega) (w_X3_nodeAt (by omega) ev15 (fun _ _ q => q)) (fun E h9 q => nomatch (show (Sum.inr E : tq_R) = Sum.inl _ from q.1)) (fun r9 h9 q => ?_)
      obtain ⟨q1, rfl⟩ := q
      cases (show (Sum.inl r9 : tq_R) = Sum.inl (some (.int v15)) from q1)
      refine tq_iret (M := mX10_ranked) (pc := 40) dX10_ranked_40 rfl ?_
      cases (Option.some.inj hf)
      exact hQ _ _ ⟨rfl, rfl⟩
abbrev mX10_keep : tq_M := (RX10, cX10_keep, 2, (some .int), false, [], none)
def f_X10_keep (t : Nat) (h : tq_H) : Option ((String ⊕ Int32) × tq_H) :=
  (tq_gi h t 10 12).bind fun x1 =>
  if x1 < 0 then
    some (.inl "java/lang/IllegalStateException", h)
  else
    (tq_gi h t 10 12).bind fun x2 =>
    (tq_gr h t 10 7).bind fun k3 =>
    (tq_an h k3).bind fun x4 =>
    if x2 < x4 then
      tq_let (tq_new h (.inl (8, [.null, .null, .null, .null, .null, .null, .null, .null, .null, .null, .int 0]))) fun w5 =>
      (f_X8_init h.1 w5).bind fun v6 =>
      (tq_gr v6 t 10 0).bind fun k7 =>
      (tq_is v6 h.1 8).bind fun _ =>
      (f_X8_copy h.1 k7 v6).bind fun v8 =>
      (tq_gr v8 t 10 7).bind fun k10 =>
      (tq_gi v8 t 10 12).bind fun x11 =>
      (tq_sq v8 k10 x11 h.1).bind fun w12 =>
      (tq_gi w12 t 10 12).bind fun x13 =>
      (tq_pf w12 t 10 12 (.int ((x13 + (1 : Int32))))).bind fun w14 =>
      (tq_gi w14 t 10 12).bind fun x15 =>
      some (.inr (x15 - (1 : Int32)), w14)
    else
      some (.inl "java/lang/IllegalStateException", h)
set_option maxHeartbeats 4000000 in
set_option maxRecDepth 20000 in
theorem w_X10_keep {l : Launch} {d : Nat} (hd9 : 6 ≤ d) {t : Nat} {bc bs : Nat} {h : tq_H} {o : (String ⊕ Int32) × tq_H} {Q : tq_R → tq_H → Prop} (hf : f_X10_keep t h = some o) (hb : ∀ E g, o = (.inl E, g) → 1 ≤ bc ∧ 6 ≤ bs) (hQ : ∀ r h9, r = tq_enI o.1 ∧ o.2 = h9 → Q r h9) : tq_C l yX10_keep cX10_keep 2 (some .int) d (40 + bc) (1137 + bs) [.ref t] h Q := by
  refine tq_body (y := yX10_keep) false (by decide +kernel) (fun z => by cases z) (Nat.le_of_ble_eq_true rfl) ?_
  show tq_W l mX10_keep d (40 + bc) (1137 + bs) Q 0 [(0, .ref t)] [] h
  refine tq_more (bc := (40 + bc)) (bs := (1137 + bs)) (by omega) (by omega) ?_
  refine tq_aload_n (M := mX10_keep) (pc := 0) dX10_keep_0 rfl ?_
  obtain ⟨x1, ex1, hf⟩ := tq_be hf
  refine tq_getI (M := mX10_keep) (pc := 1) tk_c10 (by decide) dX10_keep_1 tk_RX10_81 rfl ex1 ?_
  refine tq_if_lt (M := mX10_keep) (pc := 4) (tgt := 19) dX10_keep_4 (by decide) (fun cc => ?_) (fun cc => ?_)
  · have hf := tq_ifp hf cc
    have hb9 := hb _ _ (Option.some.inj hf).symm
    refine tq_throw (M := mX10_keep) (pc := 19) (E := "java/lang/IllegalStateException") (ik := 149) (ic := 153) (is := 401) (text := "there are 6 versions") (by decide +kernel) (by decide +kernel) rfl rfl dX10_keep_19 dX10_keep_22 dX10_keep_23 dX10_keep_26 dX10_keep_29 (by omega) (by omega) (by omega) ?_
    cases (Option.some.inj hf)
    exact hQ _ _ ⟨rfl, rfl⟩
  · have hf := tq_ifn hf cc
    refine tq_aload_n (M := mX10_keep) (pc := 7) dX10_keep_7 rfl ?_
    obtain ⟨x2, ex2, hf⟩ := tq_be hf
    refine tq_getI (M := mX10_keep) (pc := 8) tk_c10 (by decide) dX10_keep_8 tk_RX10_81 rfl ex2 ?_
    refine tq_aload_n (M := mX10_keep) (pc := 11) dX10_keep_11 rfl ?_
    obtain ⟨k3, ek3, hf⟩ := tq_be hf
    refine tq_getR (M := mX10_keep) (pc := 12) tk_c10 (by decide) dX10_keep_12 tk_RX10_52 rfl ek3 ?_
    obtain ⟨x4, ex4, hf⟩ := tq_be hf
    refine tq_alenF (M := mX10_keep) (pc := 15) dX10_keep_15 ex4 ?_
    refine tq_icmp_lt (M := mX10_keep) (pc := 16) (tgt := 30) dX10_keep_16 (by decide) (fun cc => ?_) (fun cc => ?_)
    · have hf := tq_ifp hf cc
      obtain ⟨w5, ew5, hf⟩ := tq_le hf
      refine tq_newo (M := mX10_keep) (pc := 30) tk_c8 dX10_keep_30 tk_RX10_9 tk_in8 tk_ini8 (fs := [.null, .null, .null, .null, .null, .null, .null, .null, .null, .null, .int 0]) (fun j hj => by rcases (show j = 0 ∨ j = 1 ∨ j = 2 ∨ j = 3 ∨ j = 4 ∨ j = 5 ∨ j = 6 ∨ j = 7 ∨ j = 8 ∨ j = 9 ∨ j = 10 by omega) with rfl | rfl | rfl | rfl | rfl | rfl | rfl | rfl | rfl | rfl | rfl <;> rfl) (fun _ => ⟨rfl, rfl, rfl, rfl, rfl, rfl, rfl, rfl, rfl, rfl, rfl, trivial⟩) (bc' := (39 + bc)) (bs' := (1126 + bs)) (by omega) (by omega) ?_
      rw [← ew5]
      refine tq_dup (M := mX10_keep) (pc := 33) dX10_keep_33 rfl ?_
      obtain ⟨v6, ev6, hf⟩ := tq_be hf
      refine tq_calI (M := mX10_keep) (pc := 34) (S := [.ref h.1]) tk_y_X8_init tk_v_X8_init rfl (Or.inr ⟨_, tk_RX10_11⟩) dX10_keep_34 [] rfl (Nat.le_of_ble_eq_true rfl) (d1 := d - 1) (b1 := 39) (s1 := 1126) (bc' := bc) (bs' := bs) (Q1 := fun r h9 => r = .inl none ∧ v6 = h9) (by omega) (by omega) (by omega) (w_X8_init (by omega) ev6 (fun _ _ q => q)) (fun E h9 q => nomatch (show (Sum.inr E : tq_R) = Sum.inl _ from q.1)) (fun r9 h9 q => ?_)
      obtain ⟨q1, rfl⟩ := q
      cases (show (Sum.inl r9 : tq_R) = Sum.inl (none) from q1)
      refine tq_astore_n (M := mX10_keep) (pc := 37) rfl dX10_keep_37 (L2 := [(1, .ref h.1), (0, .ref t)]) (by decide) rfl ?_
      refine tq_aload_n (M := mX10_keep) (pc := 38) dX10_keep_38 rfl ?_
      refine tq_aload_n (M := mX10_keep) (pc := 39) dX10_keep_39 rfl ?_
      obtain ⟨k7, ek7, hf⟩ := tq_be hf
      refine tq_getR (M := mX10_keep) (pc := 40) tk_c10 (by decide) dX10_keep_40 tk_RX10_12 rfl ek7 ?_
      obtain ⟨⟨⟩, eu9, hf⟩ := tq_be hf
      obtain ⟨fsu9, eu9⟩ := tq_is_s eu9
      obtain ⟨v8, ev8, hf⟩ := tq_be hf
      refine tq_calV (M := mX10_keep) (pc := 43) (S := []) tk_y_X8_copy tk_v_X8_copy tk_RX10_403 dX10_keep_43 [.ref k7] rfl (S0 := _) rfl eu9 rfl (Nat.le_of_ble_eq_true rfl) (d1 := d - 1) (b1 := 0) (s1 := 0) (bc' := bc) (bs' := bs) (Q1 := fun r h9 => r = .inl none ∧ v8 = h9) (by omega) (by omega) (by omega) (w_X8_copy (by omega) ev8 (fun _ _ q => q)) (fun E h9 q => nomatch (show (Sum.inr E : tq_R) = Sum.inl _ from q.1)) (fun r9 h9 q => ?_)
      obtain ⟨q1, rfl⟩ := q
      cases (show (Sum.inl r9 : tq_R) = Sum.inl (none) from q1)
      refine tq_aload_n (M := mX10_keep) (pc := 46) dX10_keep_46 rfl ?_
      obtain ⟨k10, ek10, hf⟩ := tq_be hf
      refine tq_getR (M := mX10_keep) (pc := 47) tk_c10 (by decide) dX10_keep_47 tk_RX10_52 rfl ek10 ?_
      refine tq_aload_n (M := mX10_keep) (pc := 50) dX10_keep_50 rfl ?_
      obtain ⟨x11, ex11, hf⟩ := tq_be hf
      refine tq_getI (M := mX10_keep) (pc := 51) tk_c10 (by decide) dX10_keep_51 tk_RX10_81 rfl ex11 ?_
      refine tq_aload_n (M := mX10_keep) (pc := 54) dX10_keep_54 rfl ?_
      obtain ⟨w12, ew12, hf⟩ := tq_be hf
      refine tq_aastF (M := mX10_keep) (pc := 55) dX10_keep_55 ew12 ?_
      refine tq_aload_n (M := mX10_keep) (pc := 56) dX10_keep_56 rfl ?_
      refine tq_dup (M := mX10_keep) (pc := 57) dX10_keep_57 rfl ?_
      obtain ⟨x13, ex13, hf⟩ := tq_be hf
      refine tq_getI (M := mX10_keep) (pc := 58) tk_c10 (by decide) dX10_keep_58 tk_RX10_81 rfl ex13 ?_
      refine tq_iconst (M := mX10_keep) (pc := 61) dX10_keep_61 tk_ki_1 ?_
      refine tq_iadd (M := mX10_keep) (pc := 62) dX10_keep_62 ?_
      obtain ⟨w14, ew14, hf⟩ := tq_be hf
      refine tq_putv (M := mX10_keep) (pc := 63) tk_c10 (by decide) dX10_keep_63 tk_RX10_81 rfl (Or.inl rfl) ew14 (tq_nI _) ?_
      refine tq_aload_n (M := mX10_keep) (pc := 66) dX10_keep_66 rfl ?_
      obtain ⟨x15, ex15, hf⟩ := tq_be hf
      refine tq_getI (M := mX10_keep) (pc := 67) tk_c10 (by decide) dX10_keep_67 tk_RX10_81 rfl ex15 ?_
      refine tq_iconst (M := mX10_keep) (pc := 70) dX10_keep_70 tk_ki_1 ?_
      refine tq_isub (M := mX10_keep) (pc := 71) dX10_keep_71 ?_
      refine tq_iret (M := mX10_keep) (pc := 72) dX10_keep_72 rfl ?_
      cases (Option.some.inj hf)
      exact hQ _ _ ⟨rfl, rfl⟩
    · have hf := tq_ifn hf cc
      have hb9 := hb _ _ (Option.some.inj hf).symm
      refine tq_throw (M := mX10_keep) (pc := 19) (E := "java/lang/IllegalStateException") (ik := 149) (ic := 153) (is := 401) (text := "there are 6 versions") (by decide +kernel) (by decide +kernel) rfl rfl dX10_keep_19 dX10_keep_22 dX10_keep_23 dX10_keep_26 dX10_keep_29 (by omega) (by omega) (by omega) ?_
      cases (Option.some.inj hf)
      exact hQ _ _ ⟨rfl, rfl⟩
abbrev mX10_neededVersion : tq_M := (RX10, cX10_neededVersion, 3, (some (.object "Treequery$Tree")), false, [], none)
def f_X10_neededVersion (t : Nat) (a1 : Int32) (h : tq_H) : Option ((String ⊕ Nat) × tq_H) :=
  if a1 < 0 then
    some (.inl "java/lang/IndexOutOfBoundsException", h)
  else
    (tq_gr h t 10 7).bind fun k1 =>
    (tq_an h k1).bind fun x2 =>
    if a1 < x2 then
      (tq_gr h t 10 7).bind fun k3 =>
      (tq_aq h k3 a1).bind fun k4 => match k4 with
      | none =>
        some (.inl "java/lang/IndexOutOfBoundsException", h)
      | some b5 =>
        some (.inr b5, h)
    else
      some (.inl "java/lang/IndexOutOfBoundsException", h)
set_option maxHeartbeats 4000000 in
set_option maxRecDepth 20000 in
theorem w_X10_neededVersion {l : Launch} {d : Nat} (hd9 : 6 ≤ d) {t : Nat} {a1 : Int32} {bc bs : Nat} {h : tq_H} {o : (String ⊕ Nat) × tq_H} {Q : tq_R → tq_H → Prop} (hf : f_X10_neededVersion t a1 h = some o) (hb : ∀ E g, o = (.inl E, g) → 1 ≤ bc ∧ 6 ≤ bs) (hQ : ∀ r h9, r = tq_enR o.1 ∧ o.2 = h9 → Q r h9) : tq_C l yX10_neededVersion cX10_neededVersion 3 (some (.object "Treequery$Tree")) d (0 + bc) (0 + bs) [.ref t, .int a1] h Q := by
  refine tq_body (y := yX10_neededVersion) false (by decide +kernel) (fun z => by cases z) (Nat.le_of_ble_eq_true rfl) ?_
  show tq_W l mX10_neededVersion d (0 + bc) (0 + bs) Q 0 [(0, .ref t), (1, .int a1)] [] h
  refine tq_more (bc := bc) (bs := bs) (by omega) (by omega) ?_
  refine tq_iload_n (M := mX10_neededVersion) (pc := 0) dX10_neededVersion_0 rfl ?_
  refine tq_if_lt (M := mX10_neededVersion) (pc := 1) (tgt := 13) dX10_neededVersion_1 (by decide) (fun cc => ?_) (fun cc => ?_)
  · have hf := tq_ifp hf cc
    have hb9 := hb _ _ (Option.some.inj hf).symm
    refine tq_throw (M := mX10_neededVersion) (pc := 13) (E := "java/lang/IndexOutOfBoundsException") (ik := 440) (ic := 444) (is := 481) (text := "there is no such version") (by decide +kernel) (by decide +kernel) rfl rfl dX10_neededVersion_13 dX10_neededVersion_16 dX10_neededVersion_17 dX10_neededVersion_20 dX10_neededVersion_23 (by omega) (by omega) (by omega) ?_
    cases (Option.some.inj hf)
    exact hQ _ _ ⟨rfl, rfl⟩
  · have hf := tq_ifn hf cc
    refine tq_iload_n (M := mX10_neededVersion) (pc := 4) dX10_neededVersion_4 rfl ?_
    refine tq_aload_n (M := mX10_neededVersion) (pc := 5) dX10_neededVersion_5 rfl ?_
    obtain ⟨k1, ek1, hf⟩ := tq_be hf
    refine tq_getR (M := mX10_neededVersion) (pc := 6) tk_c10 (by decide) dX10_neededVersion_6 tk_RX10_52 rfl ek1 ?_
    obtain ⟨x2, ex2, hf⟩ := tq_be hf
    refine tq_alenF (M := mX10_neededVersion) (pc := 9) dX10_neededVersion_9 ex2 ?_
    refine tq_icmp_lt (M := mX10_neededVersion) (pc := 10) (tgt := 24) dX10_neededVersion_10 (by decide) (fun cc => ?_) (fun cc => ?_)
    · have hf := tq_ifp hf cc
      refine tq_aload_n (M := mX10_neededVersion) (pc := 24) dX10_neededVersion_24 rfl ?_
      obtain ⟨k3, ek3, hf⟩ := tq_be hf
      refine tq_getR (M := mX10_neededVersion) (pc := 25) tk_c10 (by decide) dX10_neededVersion_25 tk_RX10_52 rfl ek3 ?_
      refine tq_iload_n (M := mX10_neededVersion) (pc := 28) dX10_neededVersion_28 rfl ?_
      obtain ⟨k4, ek4, hf⟩ := tq_be hf
      refine tq_aaldF (M := mX10_neededVersion) (pc := 29) dX10_neededVersion_29 ek4 ?_
      cases k4 with
      | none =>
        refine tq_astore_nN (M := mX10_neededVersion) (pc := 30) rfl dX10_neededVersion_30 (L2 := [(2, .null), (0, .ref t), (1, .int a1)]) (by decide) rfl ?_
        refine tq_aload_nN (M := mX10_neededVersion) (pc := 31) dX10_neededVersion_31 rfl ?_
        refine tq_ifnonnullN (M := mX10_neededVersion) (pc := 32) dX10_neededVersion_32 ?_
        have hb9 := hb _ _ (Option.some.inj hf).symm
        refine tq_throw (M := mX10_neededVersion) (pc := 35) (E := "java/lang/IndexOutOfBoundsException") (ik := 440) (ic := 444) (is := 481) (text := "there is no such version") (by decide +kernel) (by decide +kernel) rfl rfl dX10_neededVersion_35 dX10_neededVersion_38 dX10_neededVersion_39 dX10_neededVersion_42 dX10_neededVersion_45 (by omega) (by omega) (by omega) ?_
        cases (Option.some.inj hf)
        exact hQ _ _ ⟨rfl, rfl⟩
      | some b5 =>
        refine tq_astore_n (M := mX10_neededVersion) (pc := 30) rfl dX10_neededVersion_30 (L2 := [(2, .ref b5), (0, .ref t), (1, .int a1)]) (by decide) rfl ?_
        refine tq_aload_n (M := mX10_neededVersion) (pc := 31) dX10_neededVersion_31 rfl ?_
        refine tq_ifnonnull (M := mX10_neededVersion) (pc := 32) (tgt := 46) dX10_neededVersion_32 (by decide) ?_
        refine tq_aload_n (M := mX10_neededVersion) (pc := 46) dX10_neededVersion_46 rfl ?_
        refine tq_aret (M := mX10_neededVersion) (pc := 47) dX10_neededVersion_47 rfl ?_
        cases (Option.some.inj hf)
        exact hQ _ _ ⟨rfl, rfl⟩
    · have hf := tq_ifn hf cc
      have hb9 := hb _ _ (Option.some.inj hf).symm
      refine tq_throw (M := mX10_neededVersion) (pc := 13) (E := "java/lang/IndexOutOfBoundsException") (ik := 440) (ic := 444) (is := 481) (text := "there is no such version") (by decide +kernel) (by decide +kernel) rfl rfl dX10_neededVersion_13 dX10_neededVersion_16 dX10_neededVersion_17 dX10_neededVersion_20 dX10_neededVersion_23 (by omega) (by omega) (by omega) ?_
      cases (Option.some.inj hf)
      exact hQ _ _ ⟨rfl, rfl⟩
abbrev mX10_take : tq_M := (RX10, cX10_take, 3, (some .int), false, [], none)
def f_X10_take (t : Nat) (a1 : Int32) (h : tq_H) : Option ((String ⊕ Int32) × tq_H) :=
  (tq_is h t 10).bind fun _ =>
  tq_tb (f_X10_neededVersion t a1 h) fun v1 w3 =>
  (tq_gr w3 t 10 2).bind fun k4 =>
  (tq_is w3 k4 9).bind fun _ =>
  (f_X9_count k4 w3).bind fun v5 =>
  if v5 ≤ 0 then
    (tq_gr w3 t 10 6).bind fun k7 =>
    (tq_is w3 k7 6).bind fun _ =>
    (f_X6_isStrict k7 w3).bind fun v8 =>
    if v8 = 0 then
      (tq_gr w3 t 10 1).bind fun k10 =>
      (tq_is w3 k10 8).bind fun _ =>
      (f_X8_copy k10 v1 w3).bind fun v11 =>
      (tq_gr v11 t 10 1).bind fun k13 =>
      (tq_gr v11 t 10 0).bind fun k14 =>
      (tq_is v11 k14 8).bind fun _ =>
      (f_X8_madeCount k14 v11).bind fun v15 =>
      (tq_is v11 k13 8).bind fun _ =>
      (f_X8_keepMade k13 v15 v11).bind fun v17 =>
      (tq_gr v17 t 10 1).bind fun k19 =>
      (tq_is v17 k19 8).bind fun _ =>
      (f_X8_numberAnew k19 v17).bind fun v20 =>
      (tq_is v20 t 10).bind fun _ =>
      (f_X10_settle t v20).bind fun v22 =>
      (tq_gr v22 t 10 0).bind fun k24 =>
      (tq_gr v22 k24 8 0).bind fun k25 =>
      (tq_is v22 k25 3).bind fun _ =>
      (f_X3_count k25 v22).bind fun v26 =>
      some (.inr v26, v22)
    else
      (tq_gr w3 t 10 6).bind fun k28 =>
      (tq_is w3 k28 6).bind fun _ =>
      (f_X6_admits k28 v1 w3).bind fun v29 =>
      if v29.1 = 0 then
        some (.inl "java/lang/IllegalStateException", v29.2)
      else
        (tq_gr v29.2 t 10 1).bind fun k31 =>
        (tq_is v29.2 k31 8).bind fun _ =>
        (f_X8_copy k31 v1 v29.2).bind fun v32 =>
        (tq_gr v32 t 10 1).bind fun k34 =>
        (tq_gr v32 t 10 0).bind fun k35 =>
        (tq_is v32 k35 8).bind fun _ =>
        (f_X8_madeCount k35 v32).bind fun v36 =>
        (tq_is v32 k34 8).bind fun _ =>
        (f_X8_keepMade k34 v36 v32).bind fun v38 =>
        (tq_gr v38 t 10 1).bind fun k40 =>
        (tq_is v38 k40 8).bind fun _ =>
        (f_X8_numberAnew k40 v38).bind fun v41 =>
        (tq_is v41 t 10).bind fun _ =>
        (f_X10_settle t v41).bind fun v43 =>
        (tq_gr v43 t 10 0).bind fun k45 =>
        (tq_gr v43 k45 8 0).bind fun k46 =>
        (tq_is v43 k46 3).bind fun _ =>
        (f_X3_count k46 v43).bind fun v47 =>
        some (.inr v47, v43)
  else
    some (.inl "java/lang/IllegalStateException", w3)
set_option maxHeartbeats 4000000 in
set_option maxRecDepth 20000 in
theorem w_X10_take {l : Launch} {d : Nat} (hd9 : 7 ≤ d) {t : Nat} {a1 : Int32} {bc bs : Nat} {h : tq_H} {o : (String ⊕ Int32) × tq_H} {Q : tq_R → tq_H → Prop} (hf : f_X10_take t a1 h = some o) (hb : ∀ E g, o = (.inl E, g) → 1 ≤ bc ∧ 6 ≤ bs) (hQ : ∀ r h9, r = tq_enI o.1 ∧ o.2 = h9 → Q r h9) : tq_C l yX10_take cX10_take 3 (some .int) d (0 + bc) (0 + bs) [.ref t, .int a1] h Q := by
  refine tq_body (y := yX10_take) false (by decide +kernel) (fun z => by cases z) (Nat.le_of_ble_eq_true rfl) ?_
  show tq_W l mX10_take d (0 + bc) (0 + bs) Q 0 [(0, .ref t), (1, .int a1)] [] h
  refine tq_more (bc := bc) (bs := bs) (by omega) (by omega) ?_
  refine tq_aload_n (M := mX10_take) (pc := 0) dX10_take_0 rfl ?_
  refine tq_iload_n (M := mX10_take) (pc := 1) dX10_take_1 rfl ?_
  obtain ⟨⟨⟩, eu2, hf⟩ := tq_be hf
  obtain ⟨fsu2, eu2⟩ := tq_is_s eu2
  rcases tq_te hf with ⟨E1, g1, ev1, e9⟩ | ⟨v1, w3, ev1, hf⟩
  · have hb9 := hb _ _ e9
    refine tq_calV (M := mX10_take) (pc := 2) (S := []) tk_y_X10_neededVersion tk_v_X10_neededVersion tk_RX10_407 dX10_take_2 [.int a1] rfl (S0 := _) rfl eu2 rfl (Nat.le_of_ble_eq_true rfl) (d1 := d - 1) (b1 := 0 + bc) (s1 := 0 + bs) (bc' := 0) (bs' := 0) (Q1 := fun r h9 => r = tq_enR ((.inl E1, g1) : (String ⊕ Nat) × tq_H).1 ∧ ((.inl E1, g1) : (String ⊕ Nat) × tq_H).2 = h9) (by omega) (by omega) (by omega) (w_X10_neededVersion (bc := bc) (bs := bs) (by omega) ev1 (fun _ _ _ => hb9) (fun _ _ q => q)) (fun E h9 q => ?_) (fun r9 h9 q => nomatch (show (Sum.inl r9 : tq_R) = Sum.inr E1 from q.1))
    obtain ⟨q1, rfl⟩ := q
    cases (show (Sum.inr E : tq_R) = Sum.inr E1 from q1)
    subst e9
    exact tq_out rfl (hQ _ _ ⟨rfl, rfl⟩)
  · refine tq_calV (M := mX10_take) (pc := 2) (S := []) tk_y_X10_neededVersion tk_v_X10_neededVersion tk_RX10_407 dX10_take_2 [.int a1] rfl (S0 := _) rfl eu2 rfl (Nat.le_of_ble_eq_true rfl) (d1 := d - 1) (b1 := 0 + 0) (s1 := 0 + 0) (bc' := bc) (bs' := bs) (Q1 := fun r h9 => r = tq_enR ((.inr v1, w3) : (String ⊕ Nat) × tq_H).1 ∧ ((.inr v1, w3) : (String ⊕ Nat) × tq_H).2 = h9) (by omega) (by omega) (by omega) (w_X10_neededVersion (bc := 0) (bs := 0) (by omega) ev1 (fun E g z => by cases z) (fun _ _ q => q)) (fun E h9 q => nomatch (show (Sum.inr E : tq_R) = Sum.inl _ from q.1)) (fun r9 h9 q => ?_)
    obtain ⟨q1, rfl⟩ := q
    cases (show (Sum.inl r9 : tq_R) = Sum.inl (some (.ref v1)) from q1)
    refine tq_astore_n (M := mX10_take) (pc := 5) rfl dX10_take_5 (L2 := [(2, .ref v1), (0, .ref t), (1, .int a1)]) (by decide) rfl ?_
    refine tq_aload_n (M := mX10_take) (pc := 6) dX10_take_6 rfl ?_
    obtain ⟨k4, ek4, hf⟩ := tq_be hf
    refine tq_getR (M := mX10_take) (pc := 7) tk_c10 (by decide) dX10_take_7 tk_RX10_22 rfl ek4 ?_
    obtain ⟨⟨⟩, eu6, hf⟩ := tq_be hf
    obtain ⟨fsu6, eu6⟩ := tq_is_s eu6
    obtain ⟨v5, ev5, hf⟩ := tq_be hf
    refine tq_calV (M := mX10_take) (pc := 10) (S := []) tk_y_X9_count tk_v_X9_count tk_RX10_411 dX10_take_10 [] rfl (S0 := _) rfl eu6 rfl (Nat.le_of_ble_eq_true rfl) (d1 := d - 1) (b1 := 0) (s1 := 0) (bc' := bc) (bs' := bs) (Q1 := fun r h9 => r = .inl (some (.int v5)) ∧ w3 = h9) (by omega) (by omega) (by omega) (w_X9_count (by omega) ev5 (fun _ _ q => q)) (fun E h9 q => nomatch (show (Sum.inr E : tq_R) = Sum.inl _ from q.1)) (fun r9 h9 q => ?_)
    obtain ⟨q1, rfl⟩ := q
    cases (show (Sum.inl r9 : tq_R) = Sum.inl (some (.int v5)) from q1)
    refine tq_if_le (M := mX10_take) (pc := 13) (tgt := 27) dX10_take_13 (by decide) (fun cc => ?_) (fun cc => ?_)
    · have hf := tq_ifp hf cc
      refine tq_aload_n (M := mX10_take) (pc := 27) dX10_take_27 rfl ?_
      obtain ⟨k7, ek7, hf⟩ := tq_be hf
      refine tq_getR (M := mX10_take) (pc := 28) tk_c10 (by decide) dX10_take_28 tk_RX10_48 rfl ek7 ?_
      obtain ⟨⟨⟩, eu9, hf⟩ := tq_be hf
      obtain ⟨fsu9, eu9⟩ := tq_is_s eu9
      obtain ⟨v8, ev8, hf⟩ := tq_be hf
      refine tq_calV (M := mX10_take) (pc := 31) (S := []) tk_y_X6_isStrict tk_v_X6_isStrict tk_RX10_194 dX10_take_31 [] rfl (S0 := _) rfl eu9 rfl (Nat.le_of_ble_eq_true rfl) (d1 := d - 1) (b1 := 0) (s1 := 0) (bc' := bc) (bs' := bs) (Q1 := fun r h9 => r = .inl (some (.int v8)) ∧ w3 = h9) (by omega) (by omega) (by omega) (w_X6_isStrict (by omega) ev8 (fun _ _ q => q)) (fun E h9 q => nomatch (show (Sum.inr E : tq_R) = Sum.inl _ from q.1)) (fun r9 h9 q => ?_)
      obtain ⟨q1, rfl⟩ := q
      cases (show (Sum.inl r9 : tq_R) = Sum.inl (some (.int v8)) from q1)
      refine tq_if_eq (M := mX10_take) (pc := 34) (tgt := 59) dX10_take_34 (by decide) (fun cc => ?_) (fun cc => ?_)
      · have hf := tq_ifp hf cc
        refine tq_aload_n (M := mX10_take) (pc := 59) dX10_take_59 rfl ?_
        obtain ⟨k10, ek10, hf⟩ := tq_be hf
        refine tq_getR (M := mX10_take) (pc := 60) tk_c10 (by decide) dX10_take_60 tk_RX10_16 rfl ek10 ?_
        refine tq_aload_n (M := mX10_take) (pc := 63) dX10_take_63 rfl ?_
        obtain ⟨⟨⟩, eu12, hf⟩ := tq_be hf
        obtain ⟨fsu12, eu12⟩ := tq_is_s eu12
        obtain ⟨v11, ev11, hf⟩ := tq_be hf
        refine tq_calV (M := mX10_take) (pc := 64) (S := []) tk_y_X8_copy tk_v_X8_copy tk_RX10_403 dX10_take_64 [.ref v1] rfl (S0 := _) rfl eu12 rfl (Nat.le_of_ble_eq_true rfl) (d1 := d - 1) (b1 := 0) (s1 := 0) (bc' := bc) (bs' := bs) (Q1 := fun r h9 => r = .inl none ∧ v11 = h9) (by omega) (by omega) (by omega) (w_X8_copy (by omega) ev11 (fun _ _ q => q)) (fun E h9 q => nomatch (show (Sum.inr E : tq_R) = Sum.inl _ from q.1)) (fun r9 h9 q => ?_)
        obtain ⟨q1, rfl⟩ := q
        cases (show (Sum.inl r9 : tq_R) = Sum.inl (none) from q1)
        refine tq_aload_n (M := mX10_take) (pc := 67) dX10_take_67 rfl ?_
        obtain ⟨k13, ek13, hf⟩ := tq_be hf
        refine tq_getR (M := mX10_take) (pc := 68) tk_c10 (by decide) dX10_take_68 tk_RX10_16 rfl ek13 ?_
        refine tq_aload_n (M := mX10_take) (pc := 71) dX10_take_71 rfl ?_
        obtain ⟨k14, ek14, hf⟩ := tq_be hf
        refine tq_getR (M := mX10_take) (pc := 72) tk_c10 (by decide) dX10_take_72 tk_RX10_12 rfl ek14 ?_
        obtain ⟨⟨⟩, eu16, hf⟩ := tq_be hf
        obtain ⟨fsu16, eu16⟩ := tq_is_s eu16
        obtain ⟨v15, ev15, hf⟩ := tq_be hf
        refine tq_calV (M := mX10_take) (pc := 75) (S := [.ref k13]) tk_y_X8_madeCount tk_v_X8_madeCount tk_RX10_219 dX10_take_75 [] rfl (S0 := _) rfl eu16 rfl (Nat.le_of_ble_eq_true rfl) (d1 := d - 1) (b1 := 0) (s1 := 0) (bc' := bc) (bs' := bs) (Q1 := fun r h9 => r = .inl (some (.int v15)) ∧ v11 = h9) (by omega) (by omega) (by omega) (w_X8_madeCount (by omega) ev15 (fun _ _ q => q)) (fun E h9 q => nomatch (show (Sum.inr E : tq_R) = Sum.inl _ from q.1)) (fun r9 h9 q => ?_)
        obtain ⟨q1, rfl⟩ := q
        cases (show (Sum.inl r9 : tq_R) = Sum.inl (some (.int v15)) from q1)
        obtain ⟨⟨⟩, eu18, hf⟩ := tq_be hf
        obtain ⟨fsu18, eu18⟩ := tq_is_s eu18
        obtain ⟨v17, ev17, hf⟩ := tq_be hf
        refine tq_calV (M := mX10_take) (pc := 78) (S := []) tk_y_X8_keepMade tk_v_X8_keepMade tk_RX10_416 dX10_take_78 [.int v15] rfl (S0 := _) rfl eu18 rfl (Nat.le_of_ble_eq_true rfl) (d1 := d - 1) (b1 := 0) (s1 := 0) (bc' := bc) (bs' := bs) (Q1 := fun r h9 => r = .inl none ∧ v17 = h9) (by omega) (by omega) (by omega) (w_X8_keepMade (by omega) ev17 (fun _ _ q => q)) (fun E h9 q => nomatch (show (Sum.inr E : tq_R) = Sum.inl _ from q.1)) (fun r9 h9 q => ?_)
        obtain ⟨q1, rfl⟩ := q
        cases (show (Sum.inl r9 : tq_R) = Sum.inl (none) from q1)
        refine tq_aload_n (M := mX10_take) (pc := 81) dX10_take_81 rfl ?_
        obtain ⟨k19, ek19, hf⟩ := tq_be hf
        refine tq_getR (M := mX10_take) (pc := 82) tk_c10 (by decide) dX10_take_82 tk_RX10_16 rfl ek19 ?_
        obtain ⟨⟨⟩, eu21, hf⟩ := tq_be hf
        obtain ⟨fsu21, eu21⟩ := tq_is_s eu21
        obtain ⟨v20, ev20, hf⟩ := tq_be hf
        refine tq_calV (M := mX10_take) (pc := 85) (S := []) tk_y_X8_numberAnew tk_v_X8_numberAnew tk_RX10_112 dX10_take_85 [] rfl (S0 := _) rfl eu21 rfl (Nat.le_of_ble_eq_true rfl) (d1 := d - 1) (b1 := 0) (s1 := 0) (bc' := bc) (bs' := bs) (Q1 := fun r h9 => r = .inl none ∧ v20 = h9) (by omega) (by omega) (by omega) (w_X8_numberAnew (by omega) ev20 (fun _ _ q => q)) (fun E h9 q => nomatch (show (Sum.inr E : tq_R) = Sum.inl _ from q.1)) (fun r9 h9 q => ?_)
        obtain ⟨q1, rfl⟩ := q
        cases (show (Sum.inl r9 : tq_R) = Sum.inl (none) from q1)
        refine tq_aload_n (M := mX10_take) (pc := 88) dX10_take_88 rfl ?_
        obtain ⟨⟨⟩, eu23, hf⟩ := tq_be hf
        obtain ⟨fsu23, eu23⟩ := tq_is_s eu23
        obtain ⟨v22, ev22, hf⟩ := tq_be hf
        refine tq_calV (M := mX10_take) (pc := 89) (S := []) tk_y_X10_settle tk_v_X10_settle tk_RX10_209 dX10_take_89 [] rfl (S0 := _) rfl eu23 rfl (Nat.le_of_ble_eq_true rfl) (d1 := d - 1) (b1 := 0) (s1 := 0) (bc' := bc) (bs' := bs) (Q1 := fun r h9 => r = .inl none ∧ v22 = h9) (by omega) (by omega) (by omega) (w_X10_settle (by omega) ev22 (fun _ _ q => q)) (fun E h9 q => nomatch (show (Sum.inr E : tq_R) = Sum.inl _ from q.1)) (fun r9 h9 q => ?_)
        obtain ⟨q1, rfl⟩ := q
        cases (show (Sum.inl r9 : tq_R) = Sum.inl (none) from q1)
        refine tq_aload_n (M := mX10_take) (pc := 92) dX10_take_92 rfl ?_
        obtain ⟨k24, ek24, hf⟩ := tq_be hf
        refine tq_getR (M := mX10_take) (pc := 93) tk_c10 (by decide) dX10_take_93 tk_RX10_12 rfl ek24 ?_
        obtain ⟨k25, ek25, hf⟩ := tq_be hf
        refine tq_getR (M := mX10_take) (pc := 96) tk_c8 (by decide) dX10_take_96 tk_RX10_115 rfl ek25 ?_
        obtain ⟨⟨⟩, eu27, hf⟩ := tq_be hf
        obtain ⟨fsu27, eu27⟩ := tq_is_s eu27
        obtain ⟨v26, ev26, hf⟩ := tq_be hf
        refine tq_calV (M := mX10_take) (pc := 99) (S := []) tk_y_X3_count tk_v_X3_count tk_RX10_216 dX10_take_99 [] rfl (S0 := _) rfl eu27 rfl (Nat.le_of_ble_eq_true rfl) (d1 := d - 1) (b1 := 0) (s1 := 0) (bc' := bc) (bs' := bs) (Q1 := fun r h9 => r = .inl (some (.int v26)) ∧ v22 = h9) (by omega) (by omega) (by omega) (w_X3_count (by omega) ev26 (fun _ _ q => q)) (fun E h9 q => nomatch (show (Sum.inr E : tq_R) = Sum.inl _ from q.1)) (fun r9 h9 q => ?_)
        obtain ⟨q1, rfl⟩ := q
        cases (show (Sum.inl r9 : tq_R) = Sum.inl (some (.int v26)) from q1)
        refine tq_iret (M := mX10_take) (pc := 102) dX10_take_102 rfl ?_
        cases (Option.some.inj hf)
        exact hQ _ _ ⟨rfl, rfl⟩
      · have hf := tq_ifn hf cc
        refine tq_aload_n (M := mX10_take) (pc := 37) dX10_take_37 rfl ?_
        obtain ⟨k28, ek28, hf⟩ := tq_be hf
        refine tq_getR (M := mX10_take) (pc := 38) tk_c10 (by decide) dX10_take_38 tk_RX10_48 rfl ek28 ?_
        refine tq_aload_n (M := mX10_take) (pc := 41) dX10_take_41 rfl ?_
        obtain ⟨⟨⟩, eu30, hf⟩ := tq_be hf
        obtain ⟨fsu30, eu30⟩ := tq_is_s eu30
        obtain ⟨v29, ev29, hf⟩ := tq_be hf
        refine tq_calV (M := mX10_take) (pc := 42) (S := []) tk_y_X6_admits tk_v_X6_admits tk_RX10_197 dX10_take_42 [.ref v1] rfl (S0 := _) rfl eu30 rfl (Nat.le_of_ble_eq_true rfl) (d1 := d - 1) (b1 := 0) (s1 := 0) (bc' := bc) (bs' := bs) (Q1 := fun r h9 => r = .inl (some (.int v29.1)) ∧ v29.2 = h9) (by omega) (by omega) (by omega) (w_X6_admits (by omega) ev29 (fun _ _ q => q)) (fun E h9 q => nomatch (show (Sum.inr E : tq_R) = Sum.inl _ from q.1)) (fun r9 h9 q => ?_)
        obtain ⟨q1, rfl⟩ := q
        cases (show (Sum.inl r9 : tq_R) = Sum.inl (some (.int v29.1)) from q1)
        refine tq_if_ne (M := mX10_take) (pc := 45) (tgt := 59) dX10_take_45 (by decide) (fun cc => ?_) (fun cc => ?_)
        · have hf := tq_ifn hf cc
          refine tq_aload_n (M := mX10_take) (pc := 59) dX10_take_59 rfl ?_
          obtain ⟨k31, ek31, hf⟩ := tq_be hf
          refine tq_getR (M := mX10_take) (pc := 60) tk_c10 (by decide) dX10_take_60 tk_RX10_16 rfl ek31 ?_
          refine tq_aload_n (M := mX10_take) (pc := 63) dX10_take_63 rfl ?_
          obtain ⟨⟨⟩, eu33, hf⟩ := tq_be hf
          obtain ⟨fsu33, eu33⟩ := tq_is_s eu33
          obtain ⟨v32, ev32, hf⟩ := tq_be hf
          refine tq_calV (M := mX10_take) (pc := 64) (S := []) tk_y_X8_copy tk_v_X8_copy tk_RX10_403 dX10_take_64 [.ref v1] rfl (S0 := _) rfl eu33 rfl (Nat.le_of_ble_eq_true rfl) (d1 := d - 1) (b1 := 0) (s1 := 0) (bc' := bc) (bs' := bs) (Q1 := fun r h9 => r = .inl none ∧ v32 = h9) (by omega) (by omega) (by omega) (w_X8_copy (by omega) ev32 (fun _ _ q => q)) (fun E h9 q => nomatch (show (Sum.inr E : tq_R) = Sum.inl _ from q.1)) (fun r9 h9 q => ?_)
          obtain ⟨q1, rfl⟩ := q
          cases (show (Sum.inl r9 : tq_R) = Sum.inl (none) from q1)
          refine tq_aload_n (M := mX10_take) (pc := 67) dX10_take_67 rfl ?_
          obtain ⟨k34, ek34, hf⟩ := tq_be hf
          refine tq_getR (M := mX10_take) (pc := 68) tk_c10 (by decide) dX10_take_68 tk_RX10_16 rfl ek34 ?_
          refine tq_aload_n (M := mX10_take) (pc := 71) dX10_take_71 rfl ?_
          obtain ⟨k35, ek35, hf⟩ := tq_be hf
          refine tq_getR (M := mX10_take) (pc := 72) tk_c10 (by decide) dX10_take_72 tk_RX10_12 rfl ek35 ?_
          obtain ⟨⟨⟩, eu37, hf⟩ := tq_be hf
          obtain ⟨fsu37, eu37⟩ := tq_is_s eu37
          obtain ⟨v36, ev36, hf⟩ := tq_be hf
          refine tq_calV (M := mX10_take) (pc := 75) (S := [.ref k34]) tk_y_X8_madeCount tk_v_X8_madeCount tk_RX10_219 dX10_take_75 [] rfl (S0 := _) rfl eu37 rfl (Nat.le_of_ble_eq_true rfl) (d1 := d - 1) (b1 := 0) (s1 := 0) (bc' := bc) (bs' := bs) (Q1 := fun r h9 => r = .inl (some (.int v36)) ∧ v32 = h9) (by omega) (by omega) (by omega) (w_X8_madeCount (by omega) ev36 (fun _ _ q => q)) (fun E h9 q => nomatch (show (Sum.inr E : tq_R) = Sum.inl _ from q.1)) (fun r9 h9 q => ?_)
          obtain ⟨q1, rfl⟩ := q
          cases (show (Sum.inl r9 : tq_R) = Sum.inl (some (.int v36)) from q1)
          obtain ⟨⟨⟩, eu39, hf⟩ := tq_be hf
          obtain ⟨fsu39, eu39⟩ := tq_is_s eu39
          obtain ⟨v38, ev38, hf⟩ := tq_be hf
          refine tq_calV (M := mX10_take) (pc := 78) (S := []) tk_y_X8_keepMade tk_v_X8_keepMade tk_RX10_416 dX10_take_78 [.int v36] rfl (S0 := _) rfl eu39 rfl (Nat.le_of_ble_eq_true rfl) (d1 := d - 1) (b1 := 0) (s1 := 0) (bc' := bc) (bs' := bs) (Q1 := fun r h9 => r = .inl none ∧ v38 = h9) (by omega) (by omega) (by omega) (w_X8_keepMade (by omega) ev38 (fun _ _ q => q)) (fun E h9 q => nomatch (show (Sum.inr E : tq_R) = Sum.inl _ from q.1)) (fun r9 h9 q => ?_)
          obtain ⟨q1, rfl⟩ := q
          cases (show (Sum.inl r9 : tq_R) = Sum.inl (none) from q1)
          refine tq_aload_n (M := mX10_take) (pc := 81) dX10_take_81 rfl ?_
          obtain ⟨k40, ek40, hf⟩ := tq_be hf
          refine tq_getR (M := mX10_take) (pc := 82) tk_c10 (by decide) dX10_take_82 tk_RX10_16 rfl ek40 ?_
          obtain ⟨⟨⟩, eu42, hf⟩ := tq_be hf
          obtain ⟨fsu42, eu42⟩ := tq_is_s eu42
          obtain ⟨v41, ev41, hf⟩ := tq_be hf
          refine tq_calV (M := mX10_take) (pc := 85) (S := []) tk_y_X8_numberAnew tk_v_X8_numberAnew tk_RX10_112 dX10_take_85 [] rfl (S0 := _) rfl eu42 rfl (Nat.le_of_ble_eq_true rfl) (d1 := d - 1) (b1 := 0) (s1 := 0) (bc' := bc) (bs' := bs) (Q1 := fun r h9 => r = .inl none ∧ v41 = h9) (by omega) (by omega) (by omega) (w_X8_numberAnew (by omega) ev41 (fun _ _ q => q)) (fun E h9 q => nomatch (show (Sum.inr E : tq_R) = Sum.inl _ from q.1)) (fun r9 h9 q => ?_)
          obtain ⟨q1, rfl⟩ := q
          cases (show (Sum.inl r9 : tq_R) = Sum.inl (none) from q1)
          refine tq_aload_n (M := mX10_take) (pc := 88) dX10_take_88 rfl ?_
          obtain ⟨⟨⟩, eu44, hf⟩ := tq_be hf
          obtain ⟨fsu44, eu44⟩ := tq_is_s eu44
          obtain ⟨v43, ev43, hf⟩ := tq_be hf
          refine tq_calV (M := mX10_take) (pc := 89) (S := []) tk_y_X10_settle tk_v_X10_settle tk_RX10_209 dX10_take_89 [] rfl (S0 := _) rfl eu44 rfl (Nat.le_of_ble_eq_true rfl) (d1 := d - 1) (b1 := 0) (s1 := 0) (bc' := bc) (bs' := bs) (Q1 := fun r h9 => r = .inl none ∧ v43 = h9) (by omega) (by omega) (by omega) (w_X10_settle (by omega) ev43 (fun _ _ q => q)) (fun E h9 q => nomatch (show (Sum.inr E : tq_R) = Sum.inl _ from q.1)) (fun r9 h9 q => ?_)
          obtain ⟨q1, rfl⟩ := q
          cases (show (Sum.inl r9 : tq_R) = Sum.inl (none) from q1)
          refine tq_aload_n (M := mX10_take) (pc := 92) dX10_take_92 rfl ?_
          obtain ⟨k45, ek45, hf⟩ := tq_be hf
          refine tq_getR (M := mX10_take) (pc := 93) tk_c10 (by decide) dX10_take_93 tk_RX10_12 rfl ek45 ?_
          obtain ⟨k46, ek46, hf⟩ := tq_be hf
          refine tq_getR (M := mX10_take) (pc := 96) tk_c8 (by decide) dX10_take_96 tk_RX10_115 rfl ek46 ?_
          obtain ⟨⟨⟩, eu48, hf⟩ := tq_be hf
          obtain ⟨fsu48, eu48⟩ := tq_is_s eu48
          obtain ⟨v47, ev47, hf⟩ := tq_be hf
          refine tq_calV (M := mX10_take) (pc := 99) (S := []) tk_y_X3_count tk_v_X3_count tk_RX10_216 dX10_take_99 [] rfl (S0 := _) rfl eu48 rfl (Nat.le_of_ble_eq_true rfl) (d1 := d - 1) (b1 := 0) (s1 := 0) (bc' := bc) (bs' := bs) (Q1 := fun r h9 => r = .inl (some (.int v47)) ∧ v43 = h9) (by omega) (by omega) (by omega) (w_X3_count (by omega) ev47 (fun _ _ q => q)) (fun E h9 q => nomatch (show (Sum.inr E : tq_R) = Sum.inl _ from q.1)) (fun r9 h9 q => ?_)
          obtain ⟨q1, rfl⟩ := q
          cases (show (Sum.inl r9 : tq_R) = Sum.inl (some (.int v47)) from q1)
          refine tq_iret (M := mX10_take) (pc := 102) dX10_take_102 rfl ?_
          cases (Option.some.inj hf)
          exact hQ _ _ ⟨rfl, rfl⟩
        · have hf := tq_ifp hf cc
          have hb9 := hb _ _ (Option.some.inj hf).symm
          refine tq_throw (M := mX10_take) (pc := 48) (E := "java/lang/IllegalStateException") (ik := 149) (ic := 153) (is := 414) (text := "the version is not valid") (by decide +kernel) (by decide +kernel) rfl rfl dX10_take_48 dX10_take_51 dX10_take_52 dX10_take_55 dX10_take_58 (by omega) (by omega) (by omega) ?_
          cases (Option.some.inj hf)
          exact hQ _ _ ⟨rfl, rfl⟩
    · have hf := tq_ifn hf cc
      have hb9 := hb _ _ (Option.some.inj hf).symm
      refine tq_throw (M := mX10_take) (pc := 16) (E := "java/lang/IllegalStateException") (ik := 149) (ic := 153) (is := 412) (text := "there are updates in the list") (by decide +kernel) (by decide +kernel) rfl rfl dX10_take_16 dX10_take_19 dX10_take_20 dX10_take_23 dX10_take_26 (by omega) (by omega) (by omega) ?_
      cases (Option.some.inj hf)
      exact hQ _ _ ⟨rfl, rfl⟩
abbrev mX10_distance : tq_M := (RX10, cX10_distance, 7, (some .int), false, [], none)
def f_X10_distance (t : Nat) (a1 : Int32) (a2 : Int32) (h : tq_H) : Option ((String ⊕ Int32) × tq_H) :=
  (tq_is h t 10).bind fun _ =>
  tq_tb (f_X10_neededVersion t a1 h) fun v1 w3 =>
  (tq_is w3 t 10).bind fun _ =>
  tq_tb (f_X10_neededVersion t a2 w3) fun v4 w6 =>
  (tq_gq w6 t 10 11).bind fun k7 => match k7 with
  | none =>
    tq_let (tq_new w6 (.inl (1, [.null, .null, .null, .null, .null, .null, .null]))) fun w9 =>
    (f_X1_init w6.1 w9).bind fun v10 =>
    (tq_pf v10 t 10 11 (.ref w6.1)).bind fun w11 =>
    (tq_gq w11 t 10 11).bind fun k12 => match k12 with
    | none =>
      none
    | some b13 =>
      (tq_is w11 b13 1).bind fun _ =>
      (f_X1_known b13 a1 a2 w11).bind fun v14 =>
      if v14 = (-1 : Int32) then
        (tq_gq w11 t 10 11).bind fun k16 => match k16 with
        | none =>
          none
        | some b17 =>
          (tq_is w11 b17 1).bind fun _ =>
          (f_X1_count b17 v1 v4 w11).bind fun v18 =>
          (tq_gq v18.2 t 10 11).bind fun k20 => match k20 with
          | none =>
            none
          | some b21 =>
            (tq_is v18.2 b21 1).bind fun _ =>
            (f_X1_note b21 a1 a2 v18.1 v18.2).bind fun v22 =>
            some (.inr v18.1, v22)
      else
        some (.inr v14, w11)
  | some b8 =>
    (tq_gq w6 t 10 11).bind fun k24 => match k24 with
    | none =>
      none
    | some b25 =>
      (tq_is w6 b25 1).bind fun _ =>
      (f_X1_known b25 a1 a2 w6).bind fun v26 =>
      if v26 = (-1 : Int32) then
        (tq_gq w6 t 10 11).bind fun k28 => match k28 with
        | none =>
          none
        | some b29 =>
          (tq_is w6 b29 1).bind fun _ =>
          (f_X1_count b29 v1 v4 w6).bind fun v30 =>
          (tq_gq v30.2 t 10 11).bind fun k32 => match k32 with
          | none =>
            none
          | some b33 =>
            (tq_is v30.2 b33 1).bind fun _ =>
            (f_X1_note b33 a1 a2 v30.1 v30.2).bind fun v34 =>
            some (.inr v30.1, v34)
      else
        some (.inr v26, w6)
set_option maxHeartbeats 4000000 in
set_option maxRecDepth 20000 in
theorem w_X10_distance {l : Launch} {d : Nat} (hd9 : 7 ≤ d) {t : Nat} {a1 : Int32} {a2 : Int32} {bc bs : Nat} {h : tq_H} {o : (String ⊕ Int32) × tq_H} {Q : tq_R → tq_H → Prop} (hf : f_X10_distance t a1 a2 h = some o) (hb : ∀ E g, o = (.inl E, g) → 1 ≤ bc ∧ 6 ≤ bs) (hQ : ∀ r h9, r = tq_enI o.1 ∧ o.2 = h9 → Q r h9) : tq_C l yX10_distance cX10_distance 7 (some .int) d (15 + bc) (7732 + bs) [.ref t, .int a1, .int a2] h Q := by
  refine tq_body (y := yX10_distance) false (by decide +kernel) (fun z => by cases z) (Nat.le_of_ble_eq_true rfl) ?_
  show tq_W l mX10_distance d (15 + bc) (7732 + bs) Q 0 [(0, .ref t), (1, .int a1), (2, .int a2)] [] h
  refine tq_more (bc := (15 + bc)) (bs := (7732 + bs)) (by omega) (by omega) ?_
  refine tq_aload_n (M := mX10_distance) (pc := 0) dX10_distance_0 rfl ?_
  refine tq_iload_n (M := mX10_distance) (pc := 1) dX10_distance_1 rfl ?_
  obtain ⟨⟨⟩, eu2, hf⟩ := tq_be hf
  obtain ⟨fsu2, eu2⟩ := tq_is_s eu2
  rcases tq_te hf with ⟨E1, g1, ev1, e9⟩ | ⟨v1, w3, ev1, hf⟩
  · have hb9 := hb _ _ e9
    refine tq_calV (M := mX10_distance) (pc := 2) (S := []) tk_y_X10_neededVersion tk_v_X10_neededVersion tk_RX10_407 dX10_distance_2 [.int a1] rfl (S0 := _) rfl eu2 rfl (Nat.le_of_ble_eq_true rfl) (d1 := d - 1) (b1 := 0 + bc) (s1 := 0 + bs) (bc' := 15) (bs' := 7732) (Q1 := fun r h9 => r = tq_enR ((.inl E1, g1) : (String ⊕ Nat) × tq_H).1 ∧ ((.inl E1, g1) : (String ⊕ Nat) × tq_H).2 = h9) (by omega) (by omega) (by omega) (w_X10_neededVersion (bc := bc) (bs := bs) (by omega) ev1 (fun _ _ _ => hb9) (fun _ _ q => q)) (fun E h9 q => ?_) (fun r9 h9 q => nomatch (show (Sum.inl r9 : tq_R) = Sum.inr E1 from q.1))
    obtain ⟨q1, rfl⟩ := q
    cases (show (Sum.inr E : tq_R) = Sum.inr E1 from q1)
    subst e9
    exact tq_out rfl (hQ _ _ ⟨rfl, rfl⟩)
  · refine tq_calV (M := mX10_distance) (pc := 2) (S := []) tk_y_X10_neededVersion tk_v_X10_neededVersion tk_RX10_407 dX10_distance_2 [.int a1] rfl (S0 := _) rfl eu2 rfl (Nat.le_of_ble_eq_true rfl) (d1 := d - 1) (b1 := 0 + 0) (s1 := 0 + 0) (bc' := (15 + bc)) (bs' := (7732 + bs)) (Q1 := fun r h9 => r = tq_enR ((.inr v1, w3) : (String ⊕ Nat) × tq_H).1 ∧ ((.inr v1, w3) : (String ⊕ Nat) × tq_H).2 = h9) (by omega) (by omega) (by omega) (w_X10_neededVersion (bc := 0) (bs := 0) (by omega) ev1 (fun E g z => by cases z) (fun _ _ q => q)) (fun E h9 q => nomatch (show (Sum.inr E : tq_R) = Sum.inl _ from q.1)) (fun r9 h9 q => ?_)
    obtain ⟨q1, rfl⟩ := q
    cases (show (Sum.inl r9 : tq_R) = Sum.inl (some (.ref v1)) from q1)
    refine tq_astore_n (M := mX10_distance) (pc := 5) rfl dX10_distance_5 (L2 := [(3, .ref v1), (0, .ref t), (1, .int a1), (2, .int a2)]) (by decide) rfl ?_
    refine tq_aload_n (M := mX10_distance) (pc := 6) dX10_distance_6 rfl ?_
    refine tq_iload_n (M := mX10_distance) (pc := 7) dX10_distance_7 rfl ?_
    obtain ⟨⟨⟩, eu5, hf⟩ := tq_be hf
    obtain ⟨fsu5, eu5⟩ := tq_is_s eu5
    rcases tq_te hf with ⟨E1, g1, ev4, e9⟩ | ⟨v4, w6, ev4, hf⟩
    · have hb9 := hb _ _ e9
      refine tq_calV (M := mX10_distance) (pc := 8) (S := []) tk_y_X10_neededVersion tk_v_X10_neededVersion tk_RX10_407 dX10_distance_8 [.int a2] rfl (S0 := _) rfl eu5 rfl (Nat.le_of_ble_eq_true rfl) (d1 := d - 1) (b1 := 0 + bc) (s1 := 0 + bs) (bc' := 15) (bs' := 7732) (Q1 := fun r h9 => r = tq_enR ((.inl E1, g1) : (String ⊕ Nat) × tq_H).1 ∧ ((.inl E1, g1) : (String ⊕ Nat) × tq_H).2 = h9) (by omega) (by omega) (by omega) (w_X10_neededVersion (bc := bc) (bs := bs) (by omega) ev4 (fun _ _ _ => hb9) (fun _ _ q => q)) (fun E h9 q => ?_) (fun r9 h9 q => nomatch (show (Sum.inl r9 : tq_R) = Sum.inr E1 from q.1))
      obtain ⟨q1, rfl⟩ := q
      cases (show (Sum.inr E : tq_R) = Sum.inr E1 from q1)
      subst e9
      exact tq_out rfl (hQ _ _ ⟨rfl, rfl⟩)
    · refine tq_calV (M := mX10_distance) (pc := 8) (S := []) tk_y_X10_neededVersion tk_v_X10_neededVersion tk_RX10_407 dX10_distance_8 [.int a2] rfl (S0 := _) rfl eu5 rfl (Nat.le_of_ble_eq_true rfl) (d1 := d - 1) (b1 := 0 + 0) (s1 := 0 + 0) (bc' := (15 + bc)) (bs' := (7732 + bs)) (Q1 := fun r h9 => r = tq_enR ((.inr v4, w6) : (String ⊕ Nat) × tq_H).1 ∧ ((.inr v4, w6) : (String ⊕ Nat) × tq_H).2 = h9) (by omega) (by omega) (by omega) (w_X10_neededVersion (bc := 0) (bs := 0) (by omega) ev4 (fun E g z => by cases z) (fun _ _ q => q)) (fun E h9 q => nomatch (show (Sum.inr E : tq_R) = Sum.inl _ from q.1)) (fun r9 h9 q => ?_)
      obtain ⟨q1, rfl⟩ := q
      cases (show (Sum.inl r9 : tq_R) = Sum.inl (some (.ref v4)) from q1)
      refine tq_astore (M := mX10_distance) (pc := 11) dX10_distance_11 (L2 := [(4, .ref v4), (3, .ref v1), (0, .ref t), (1, .int a1), (2, .int a2)]) (by decide) rfl ?_
      refine tq_aload_n (M := mX10_distance) (pc := 13) dX10_distance_13 rfl ?_
      obtain ⟨k7, ek7, hf⟩ := tq_be hf
      refine tq_getQ (M := mX10_distance) (pc := 14) tk_c10 (by decide) dX10_distance_14 tk_RX10_77 rfl ek7 ?_
      cases k7 with
      | none =>
        refine tq_ifnonnullN (M := mX10_distance) (pc := 17) dX10_distance_17 ?_
        refine tq_aload_n (M := mX10_distance) (pc := 20) dX10_distance_20 rfl ?_
        obtain ⟨w9, ew9, hf⟩ := tq_le hf
        refine tq_newo (M := mX10_distance) (pc := 21) tk_c1 dX10_distance_21 tk_RX10_419 tk_in1 tk_ini1 (fs := [.null, .null, .null, .null, .null, .null, .null]) (fun j hj => by rcases (show j = 0 ∨ j = 1 ∨ j = 2 ∨ j = 3 ∨ j = 4 ∨ j = 5 ∨ j = 6 by omega) with rfl | rfl | rfl | rfl | rfl | rfl | rfl <;> rfl) (fun _ => ⟨rfl, rfl, rfl, rfl, rfl, rfl, rfl, trivial⟩) (bc' := (14 + bc)) (bs' := (7725 + bs)) (by omega) (by omega) ?_
        rw [← ew9]
        refine tq_dup (M := mX10_distance) (pc := 24) dX10_distance_24 rfl ?_
        obtain ⟨v10, ev10, hf⟩ := tq_be hf
        refine tq_calI (M := mX10_distance) (pc := 25) (S := [.ref w6.1, .ref t]) tk_y_X1_init tk_v_X1_init rfl (Or.inr ⟨_, tk_RX10_421⟩) dX10_distance_25 [] rfl (Nat.le_of_ble_eq_true rfl) (d1 := d - 1) (b1 := 14) (s1 := 7725) (bc' := bc) (bs' := bs) (Q1 := fun r h9 => r = .inl none ∧ v10 = h9) (by omega) (by omega) (by omega) (w_X1_init (by omega) ev10 (fun _ _ q => q)) (fun E h9 q => nomatch (show (Sum.inr E : tq_R) = Sum.inl _ from q.1)) (fun r9 h9 q => ?_)
        obtain ⟨q1, rfl⟩ := q
        cases (show (Sum.inl r9 : tq_R) = Sum.inl (none) from q1)
        obtain ⟨w11, ew11, hf⟩ := tq_be hf
        refine tq_putv (M := mX10_distance) (pc := 28) tk_c10 (by decide) dX10_distance_28 tk_RX10_77 rfl (Or.inl rfl) ew11 (tq_nR _ _) ?_
        refine tq_aload_n (M := mX10_distance) (pc := 31) dX10_distance_31 rfl ?_
        obtain ⟨k12, ek12, hf⟩ := tq_be hf
        refine tq_getQ (M := mX10_distance) (pc := 32) tk_c10 (by decide) dX10_distance_32 tk_RX10_77 rfl ek12 ?_
        cases k12 with
        | none =>
          refine tq_iload_n (M := mX10_distance) (pc := 35) dX10_distance_35 rfl ?_
          refine tq_iload_n (M := mX10_distance) (pc := 36) dX10_distance_36 rfl ?_
          cases hf
        | some b13 =>
          refine tq_iload_n (M := mX10_distance) (pc := 35) dX10_distance_35 rfl ?_
          refine tq_iload_n (M := mX10_distance) (pc := 36) dX10_distance_36 rfl ?_
          obtain ⟨⟨⟩, eu15, hf⟩ := tq_be hf
          obtain ⟨fsu15, eu15⟩ := tq_is_s eu15
          obtain ⟨v14, ev14, hf⟩ := tq_be hf
          refine tq_calV (M := mX10_distance) (pc := 37) (S := []) tk_y_X1_known tk_v_X1_known tk_RX10_422 dX10_distance_37 [.int a1, .int a2] rfl (S0 := _) rfl eu15 rfl (Nat.le_of_ble_eq_true rfl) (d1 := d - 1) (b1 := 0) (s1 := 0) (bc' := bc) (bs' := bs) (Q1 := fun r h9 => r = .inl (some (.int v14)) ∧ w11 = h9) (by omega) (by omega) (by omega) (w_X1_known (by omega) ev14 (fun _ _ q => q)) (fun E h9 q => nomatch (show (Sum.inr E : tq_R) = Sum.inl _ from q.1)) (fun r9 h9 q => ?_)
          obtain ⟨q1, rfl⟩ := q
          cases (show (Sum.inl r9 : tq_R) = Sum.inl (some (.int v14)) from q1)
          refine tq_istore (M := mX10_distance) (pc := 40) dX10_distance_40 (L2 := [(5, .int v14), (4, .ref v4), (3, .ref v1), (0, .ref t), (1, .int a1), (2, .int a2)]) (by decide) rfl ?_
          refine tq_iload (M := mX10_distance) (pc := 42) dX10_distance_42 rfl ?_
          refine tq_iconst (M := mX10_distance) (pc := 44) dX10_distance_44 tk_ki_m1 ?_
          refine tq_icmp_eq (M := mX10_distance) (pc := 45) (tgt := 51) dX10_distance_45 (by decide) (fun cc => ?_) (fun cc => ?_)
          · have hf := tq_ifp hf cc
            refine tq_aload_n (M := mX10_distance) (pc := 51) dX10_distance_51 rfl ?_
            obtain ⟨k16, ek16, hf⟩ := tq_be hf
            refine tq_getQ (M := mX10_distance) (pc := 52) tk_c10 (by decide) dX10_distance_52 tk_RX10_77 rfl ek16 ?_
            cases k16 with
            | none =>
              refine tq_aload_n (M := mX10_distance) (pc := 55) dX10_distance_55 rfl ?_
              refine tq_aload (M := mX10_distance) (pc := 56) dX10_distance_56 rfl ?_
              cases hf
            | some b17 =>
              refine tq_aload_n (M := mX10_distance) (pc := 55) dX10_distance_55 rfl ?_
              refine tq_aload (M := mX10_distance) (pc := 56) dX10_distance_56 rfl ?_
              obtain ⟨⟨⟩, eu19, hf⟩ := tq_be hf
              obtain ⟨fsu19, eu19⟩ := tq_is_s eu19
              obtain ⟨v18, ev18, hf⟩ := tq_be hf
              refine tq_calV (M := mX10_distance) (pc := 58) (S := []) tk_y_X1_count tk_v_X1_count tk_RX10_425 dX10_distance_58 [.ref v1, .ref v4] rfl (S0 := _) rfl eu19 rfl (Nat.le_of_ble_eq_true rfl) (d1 := d - 1) (b1 := 0) (s1 := 0) (bc' := bc) (bs' := bs) (Q1 := fun r h9 => r = .inl (some (.int v18.1)) ∧ v18.2 = h9) (by omega) (by omega) (by omega) (w_X1_count (by omega) ev18 (fun _ _ q => q)) (fun E h9 q => nomatch (show (Sum.inr E : tq_R) = Sum.inl _ from q.1)) (fun r9 h9 q => ?_)
              obtain ⟨q1, rfl⟩ := q
              cases (show (Sum.inl r9 : tq_R) = Sum.inl (some (.int v18.1)) from q1)
              refine tq_istore (M := mX10_distance) (pc := 61) dX10_distance_61 (L2 := [(6, .int v18.1), (5, .int v14), (4, .ref v4), (3, .ref v1), (0, .ref t), (1, .int a1), (2, .int a2)]) (by decide) rfl ?_
              refine tq_aload_n (M := mX10_distance) (pc := 63) dX10_distance_63 rfl ?_
              obtain ⟨k20, ek20, hf⟩ := tq_be hf
              refine tq_getQ (M := mX10_distance) (pc := 64) tk_c10 (by decide) dX10_distance_64 tk_RX10_77 rfl ek20 ?_
              cases k20 with
              | none =>
                refine tq_iload_n (M := mX10_distance) (pc := 67) dX10_distance_67 rfl ?_
                refine tq_iload_n (M := mX10_distance) (pc := 68) dX10_distance_68 rfl ?_
                refine tq_iload (M := mX10_distance) (pc := 69) dX10_distance_69 rfl ?_
                cases hf
              | some b21 =>
                refine tq_iload_n (M := mX10_distance) (pc := 67) dX10_distance_67 rfl ?_
                refine tq_iload_n (M := mX10_distance) (pc := 68) dX10_distance_68 rfl ?_
                refine tq_iload (M := mX10_distance) (pc := 69) dX10_distance_69 rfl ?_
                obtain ⟨⟨⟩, eu23, hf⟩ := tq_be hf
                obtain ⟨fsu23, eu23⟩ := tq_is_s eu23
                obtain ⟨v22, ev22, hf⟩ := tq_be hf
                refine tq_calV (M := mX10_distance) (pc := 71) (S := []) tk_y_X1_note tk_v_X1_note tk_RX10_428 dX10_distance_71 [.int a1, .int a2, .int v18.1] rfl (S0 := _) rfl eu23 rfl (Nat.le_of_ble_eq_true rfl) (d1 := d - 1) (b1 := 0) (s1 := 0) (bc' := bc) (bs' := bs) (Q1 := fun r h9 => r = .inl none ∧ v22 = h9) (by omega) (by omega) (by omega) (w_X1_note (by omega) ev22 (fun _ _ q => q)) (fun E h9 q => nomatch (show (Sum.inr E : tq_R) = Sum.inl _ from q.1)) (fun r9 h9 q => ?_)
                obtain ⟨q1, rfl⟩ := q
                cases (show (Sum.inl r9 : tq_R) = Sum.inl (none) from q1)
                refine tq_iload (M := mX10_distance) (pc := 74) dX10_distance_74 rfl ?_
                refine tq_iret (M := mX10_distance) (pc := 76) dX10_distance_76 rfl ?_
                cases (Option.some.inj hf)
                exact hQ _ _ ⟨rfl, rfl⟩
          · have hf := tq_ifn hf cc
            refine tq_iload (M := mX10_distance) (pc := 48) dX10_distance_48 rfl ?_
            refine tq_iret (M := mX10_distance) (pc := 50) dX10_distance_50 rfl ?_
            cases (Option.some.inj hf)
            exact hQ _ _ ⟨rfl, rfl⟩
      | some b8 =>
        refine tq_ifnonnull (M := mX10_distance) (pc := 17) (tgt := 31) dX10_distance_17 (by decide) ?_
        refine tq_aload_n (M := mX10_distance) (pc := 31) dX10_distance_31 rfl ?_
        obtain ⟨k24, ek24, hf⟩ := tq_be hf
        refine tq_getQ (M := mX10_distance) (pc := 32) tk_c10 (by decide) dX10_distance_32 tk_RX10_77 rfl ek24 ?_
        cases k24 with
        | none =>
          refine tq_iload_n (M := mX10_distance) (pc := 35) dX10_distance_35 rfl ?_
          refine tq_iload_n (M := mX10_distance) (pc := 36) dX10_distance_36 rfl ?_
          cases hf
        | some b25 =>
          refine tq_iload_n (M := mX10_distance) (pc := 35) dX10_distance_35 rfl ?_
          refine tq_iload_n (M := mX10_distance) (pc := 36) dX10_distance_36 rfl ?_
          obtain ⟨⟨⟩, eu27, hf⟩ := tq_be hf
          obtain ⟨fsu27, eu27⟩ := tq_is_s eu27
          obtain ⟨v26, ev26, hf⟩ := tq_be hf
          refine tq_calV (M := mX10_distance) (pc := 37) (S := []) tk_y_X1_known tk_v_X1_known tk_RX10_422 dX10_distance_37 [.int a1, .int a2] rfl (S0 := _) rfl eu27 rfl (Nat.le_of_ble_eq_true rfl) (d1 := d - 1) (b1 := 0) (s1 := 0) (bc' := (15 + bc)) (bs' := (7732 + bs)) (Q1 := fun r h9 => r = .inl (some (.int v26)) ∧ w6 = h9) (by omega) (by omega) (by omega) (w_X1_known (by omega) ev26 (fun _ _ q => q)) (fun E h9 q => nomatch (show (Sum.inr E : tq_R) = Sum.inl _ from q.1)) (fun r9 h9 q => ?_)
          obtain ⟨q1, rfl⟩ := q
          cases (show (Sum.inl r9 : tq_R) = Sum.inl (some (.int v26)) from q1)
          refine tq_istore (M := mX10_distance) (pc := 40) dX10_distance_40 (L2 := [(5, .int v26), (4, .ref v4), (3, .ref v1), (0, .ref t), (1, .int a1), (2, .int a2)]) (by decide) rfl ?_
          refine tq_iload (M := mX10_distance) (pc := 42) dX10_distance_42 rfl ?_
          refine tq_iconst (M := mX10_distance) (pc := 44) dX10_distance_44 tk_ki_m1 ?_
          refine tq_icmp_eq (M := mX10_distance) (pc := 45) (tgt := 51) dX10_distance_45 (by decide) (fun cc => ?_) (fun cc => ?_)
          · have hf := tq_ifp hf cc
            refine tq_aload_n (M := mX10_distance) (pc := 51) dX10_distance_51 rfl ?_
            obtain ⟨k28, ek28, hf⟩ := tq_be hf
            refine tq_getQ (M := mX10_distance) (pc := 52) tk_c10 (by decide) dX10_distance_52 tk_RX10_77 rfl ek28 ?_
            cases k28 with
            | none =>
              refine tq_aload_n (M := mX10_distance) (pc := 55) dX10_distance_55 rfl ?_
              refine tq_aload (M := mX10_distance) (pc := 56) dX10_distance_56 rfl ?_
              cases hf
            | some b29 =>
              refine tq_aload_n (M := mX10_distance) (pc := 55) dX10_distance_55 rfl ?_
              refine tq_aload (M := mX10_distance) (pc := 56) dX10_distance_56 rfl ?_
              obtain ⟨⟨⟩, eu31, hf⟩ := tq_be hf
              obtain ⟨fsu31, eu31⟩ := tq_is_s eu31
              obtain ⟨v30, ev30, hf⟩ := tq_be hf
              refine tq_calV (M := mX10_distance) (pc := 58) (S := []) tk_y_X1_count tk_v_X1_count tk_RX10_425 dX10_distance_58 [.ref v1, .ref v4] rfl (S0 := _) rfl eu31 rfl (Nat.le_of_ble_eq_true rfl) (d1 := d - 1) (b1 := 0) (s1 := 0) (bc' := (15 + bc)) (bs' := (7732 + bs)) (Q1 := fun r h9 => r = .inl (some (.int v30.1)) ∧ v30.2 = h9) (by omega) (by omega) (by omega) (w_X1_count (by omega) ev30 (fun _ _ q => q)) (fun E h9 q => nomatch (show (Sum.inr E : tq_R) = Sum.inl _ from q.1)) (fun r9 h9 q => ?_)
              obtain ⟨q1, rfl⟩ := q
              cases (show (Sum.inl r9 : tq_R) = Sum.inl (some (.int v30.1)) from q1)
              refine tq_istore (M := mX10_distance) (pc := 61) dX10_distance_61 (L2 := [(6, .int v30.1), (5, .int v26), (4, .ref v4), (3, .ref v1), (0, .ref t), (1, .int a1), (2, .int a2)]) (by decide) rfl ?_
              refine tq_aload_n (M := mX10_distance) (pc := 63) dX10_distance_63 rfl ?_
              obtain ⟨k32, ek32, hf⟩ := tq_be hf
              refine tq_getQ (M := mX10_distance) (pc := 64) tk_c10 (by decide) dX10_distance_64 tk_RX10_77 rfl ek32 ?_
              cases k32 with
              | none =>
                refine tq_iload_n (M := mX10_distance) (pc := 67) dX10_distance_67 rfl ?_
                refine tq_iload_n (M := mX10_distance) (pc := 68) dX10_distance_68 rfl ?_
                refine tq_iload (M := mX10_distance) (pc := 69) dX10_distance_69 rfl ?_
                cases hf
              | some b33 =>
                refine tq_iload_n (M := mX10_distance) (pc := 67) dX10_distance_67 rfl ?_
                refine tq_iload_n (M := mX10_distance) (pc := 68) dX10_distance_68 rfl ?_
                refine tq_iload (M := mX10_distance) (pc := 69) dX10_distance_69 rfl ?_
                obtain ⟨⟨⟩, eu35, hf⟩ := tq_be hf
                obtain ⟨fsu35, eu35⟩ := tq_is_s eu35
                obtain ⟨v34, ev34, hf⟩ := tq_be hf
                refine tq_calV (M := mX10_distance) (pc := 71) (S := []) tk_y_X1_note tk_v_X1_note tk_RX10_428 dX10_distance_71 [.int a1, .int a2, .int v30.1] rfl (S0 := _) rfl eu35 rfl (Nat.le_of_ble_eq_true rfl) (d1 := d - 1) (b1 := 0) (s1 := 0) (bc' := (15 + bc)) (bs' := (7732 + bs)) (Q1 := fun r h9 => r = .inl none ∧ v34 = h9) (by omega) (by omega) (by omega) (w_X1_note (by omega) ev34 (fun _ _ q => q)) (fun E h9 q => nomatch (show (Sum.inr E : tq_R) = Sum.inl _ from q.1)) (fun r9 h9 q => ?_)
                obtain ⟨q1, rfl⟩ := q
                cases (show (Sum.inl r9 : tq_R) = Sum.inl (none) from q1)
                refine tq_iload (M := mX10_distance) (pc := 74) dX10_distance_74 rfl ?_
                refine tq_iret (M := mX10_distance) (pc := 76) dX10_distance_76 rfl ?_
                cases (Option.some.inj hf)
                exact hQ _ _ ⟨rfl, rfl⟩
          · have hf := tq_ifn hf cc
            refine tq_iload (M := mX10_distance) (pc := 48) dX10_distance_48 rfl ?_
            refine tq_iret (M := mX10_distance) (pc := 50) dX10_distance_50 rfl ?_
            cases (Option.some.inj hf)
            exact hQ _ _ ⟨rfl, rfl⟩
abbrev mX10_odds : tq_M := (RX10, cX10_odds, 9, (some .int), false, [], none)
def f_X10_odds_b27 (i4 : Nat) (i5 : Nat) (i6 : Nat) (hh : tq_H) (s : Int32 × Int32) : Option ((Int32 × Int32) ⊕ (Int32)) := match s with
  | (y7, y8) =>
    if y8 ≥ (60 : Int32) then
      some (.inr y7)
    else
      (tq_is hh i4 8).bind fun _ =>
      (f_X8_differs i4 i5 y8 hh).bind fun v10 =>
      (if v10 = 0 then
        some y7
      else
        (tq_is hh i5 8).bind fun _ =>
        (f_X8_differs i5 i6 y8 hh).bind fun v12 =>
        if v12 = 0 then
          some y7
        else
          (tq_is hh i6 8).bind fun _ =>
          (f_X8_differs i6 i4 y8 hh).bind fun v14 =>
          if v14 = 0 then
            some y7
          else
            tq_let (y7 + (1 : Int32)) fun x16 =>
            some x16).bind fun p17 =>
      tq_let (y8 + (1 : Int32)) fun x18 =>
      some (.inl (p17, x18))
def f_X10_odds (t : Nat) (a1 : Int32) (a2 : Int32) (a3 : Int32) (h : tq_H) : Option ((String ⊕ Int32) × tq_H) :=
  (tq_is h t 10).bind fun _ =>
  tq_tb (f_X10_neededVersion t a1 h) fun v1 w3 =>
  (tq_is w3 t 10).bind fun _ =>
  tq_tb (f_X10_neededVersion t a2 w3) fun v4 w6 =>
  (tq_is w6 t 10).bind fun _ =>
  tq_tb (f_X10_neededVersion t a3 w6) fun v7 w9 =>
  (tq_loop (f_X10_odds_b27 v1 v4 v7 w9) tq_N ((0 : Int32), (0 : Int32))).bind fun o19 =>
  some (.inr o19, w9)
set_option maxHeartbeats 4000000 in
theorem l_X10_odds_27 {l : Launch} {d : Nat} {Q : tq_R → tq_H → Prop} {bc bs : Nat} (hd9 : 7 ≤ d) (i4 : Nat) (i5 : Nat) (i6 : Nat) (hh : tq_H) : ∀ (n : Nat) (y7 : Int32) (y8 : Int32) (o : Int32), tq_loop (f_X10_odds_b27 i4 i5 i6 hh) n (y7, y8) = some o → tq_W l mX10_odds d bc bs Q 79 [(7, .int o)] [] hh → tq_W l mX10_odds d bc bs Q 27 [(4, .ref i4), (5, .ref i5), (6, .ref i6), (7, .int y7), (8, .int y8)] [] hh := by
  intro n
  induction n with
  | zero => intro y7 y8 o hl; cases hl
  | succ n ih =>
    intro y7 y8 o hl hk
    obtain ⟨oo, hf, ho⟩ := tq_loop_s hl
    refine tq_iload (M := mX10_odds) (pc := 27) dX10_odds_27 rfl ?_
    refine tq_bipush (M := mX10_odds) (pc := 29) dX10_odds_29 tk_kb_60 ?_
    refine tq_icmp_ge (M := mX10_odds) (pc := 31) (tgt := 79) dX10_odds_31 (by decide) (fun cc => ?_) (fun cc => ?_)
    · have hf := tq_ifp hf cc
      refine tq_pick (L2 := [(7, .int y7)]) [3] rfl ?_
      cases (Option.some.inj hf)
      cases (tq_lx ho)
      exact hk
    · have hf := tq_ifn hf cc
      refine tq_aload (M := mX10_odds) (pc := 34) dX10_odds_34 rfl ?_
      refine tq_aload (M := mX10_odds) (pc := 36) dX10_odds_36 rfl ?_
      refine tq_iload (M := mX10_odds) (pc := 38) dX10_odds_38 rfl ?_
      obtain ⟨⟨⟩, eu11, hf⟩ := tq_be hf
      obtain ⟨fsu11, eu11⟩ := tq_is_s eu11
      obtain ⟨v10, ev10, hf⟩ := tq_be hf
      refine tq_calV (M := mX10_odds) (pc := 40) (S := []) tk_y_X8_differs tk_v_X8_differs tk_RX10_431 dX10_odds_40 [.ref i5, .int y8] rfl (S0 := _) rfl eu11 rfl (Nat.le_of_ble_eq_true rfl) (d1 := d - 1) (b1 := 0) (s1 := 0) (bc' := bc) (bs' := bs) (Q1 := fun r h9 => r = .inl (some (.int v10)) ∧ hh = h9) (by omega) (by omega) (by omega) (w_X8_differs (by omega) ev10 (fun _ _ q => q)) (fun E h9 q => nomatch (show (Sum.inr E : tq_R) = Sum.inl _ from q.1)) (fun r9 h9 q => ?_)
      obtain ⟨q1, rfl⟩ := q
      cases (show (Sum.inl r9 : tq_R) = Sum.inl (some (.int v10)) from q1)
      obtain ⟨p17, ep17, hf⟩ := tq_be hf
      have HJ43 : tq_W l mX10_odds d bc bs Q 73 [(4, .ref i4), (5, .ref i5), (6, .ref i6), (7, .int p17), (8, .int y8)] [] hh := by
        obtain ⟨x18, ex18, hf⟩ := tq_le hf
        refine tq_iinc (M := mX10_odds) (pc := 73) (v := x18) (L2 := [(8, .int x18), (4, .ref i4), (5, .ref i5), (6, .ref i6), (7, .int p17)]) dX10_odds_73 rfl (by rw [ex18, tk_ki_1]) (by decide) rfl ?_
        refine tq_goto (M := mX10_odds) (pc := 76) (tgt := 27) dX10_odds_76 (by decide) ?_
        refine tq_pick (L2 := [(4, .ref i4), (5, .ref i5), (6, .ref i6), (7, .int p17), (8, .int x18)]) [1, 2, 3, 4, 0] rfl ?_
        cases (Option.some.inj hf)
        exact ih _ _ o (tq_lc ho) hk
      refine tq_if_eq (M := mX10_odds) (pc := 43) (tgt := 73) dX10_odds_43 (by decide) (fun cc => ?_) (fun cc => ?_)
      · have hf := tq_ifp ep17 cc
        cases (Option.some.inj hf)
        exact HJ43
      · have hf := tq_ifn ep17 cc
        refine tq_aload (M := mX10_odds) (pc := 46) dX10_odds_46 rfl ?_
        refine tq_aload (M := mX10_odds) (pc := 48) dX10_odds_48 rfl ?_
        refine tq_iload (M := mX10_odds) (pc := 50) dX10_odds_50 rfl ?_
        obtain ⟨⟨⟩, eu13, hf⟩ := tq_be hf
        obtain ⟨fsu13, eu13⟩ := tq_is_s eu13
        obtain ⟨v12, ev12, hf⟩ := tq_be hf
        refine tq_calV (M := mX10_odds) (pc := 52) (S := []) tk_y_X8_differs tk_v_X8_differs tk_RX10_431 dX10_odds_52 [.ref i6, .int y8] rfl (S0 := _) rfl eu13 rfl (Nat.le_of_ble_eq_true rfl) (d1 := d - 1) (b1 := 0) (s1 := 0) (bc' := bc) (bs' := bs) (Q1 := fun r h9 => r = .inl (some (.int v12)) ∧ hh = h9) (by omega) (by omega) (by omega) (w_X8_differs (by omega) ev12 (fun _ _ q => q)) (fun E h9 q => nomatch (show (Sum.inr E : tq_R) = Sum.inl _ from q.1)) (fun r9 h9 q => ?_)
        obtain ⟨q1, rfl⟩ := q
        cases (show (Sum.inl r9 : tq_R) = Sum.inl (some (.int v12)) from q1)
        refine tq_if_eq (M := mX10_odds) (pc := 55) (tgt := 73) dX10_odds_55 (by decide) (fun cc => ?_) (fun cc => ?_)
        · have hf := tq_ifp hf cc
          cases (Option.some.inj hf)
          exact HJ43
        · have hf := tq_ifn hf cc
          refine tq_aload (M := mX10_odds) (pc := 58) dX10_odds_58 rfl ?_
          refine tq_aload (M := mX10_odds) (pc := 60) dX10_odds_60 rfl ?_
          refine tq_iload (M := mX10_odds) (pc := 62) dX10_odds_62 rfl ?_
          obtain ⟨⟨⟩, eu15, hf⟩ := tq_be hf
          obtain ⟨fsu15, eu15⟩ := tq_is_s eu15
          obtain ⟨v14, ev14, hf⟩ := tq_be hf
          refine tq_calV (M := mX10_odds) (pc := 64) (S := []) tk_y_X8_differs tk_v_X8_differs tk_RX10_431 dX10_odds_64 [.ref i4, .int y8] rfl (S0 := _) rfl eu15 rfl (Nat.le_of_ble_eq_true rfl) (d1 := d - 1) (b1 := 0) (s1 := 0) (bc' := bc) (bs' := bs) (Q1 := fun r h9 => r = .inl (some (.int v14)) ∧ hh = h9) (by omega) (by omega) (by omega) (w_X8_differs (by omega) ev14 (fun _ _ q => q)) (fun E h9 q => nomatch (show (Sum.inr E : tq_R) = Sum.inl _ from q.1)) (fun r9 h9 q => ?_)
          obtain ⟨q1, rfl⟩ := q
          cases (show (Sum.inl r9 : tq_R) = Sum.inl (some (.int v14)) from q1)
          refine tq_if_eq (M := mX10_odds) (pc := 67) (tgt := 73) dX10_odds_67 (by decide) (fun cc => ?_) (fun cc => ?_)
          · have hf := tq_ifp hf cc
            cases (Option.some.inj hf)
            exact HJ43
          · have hf := tq_ifn hf cc
            obtain ⟨x16, ex16, hf⟩ := tq_le hf
            refine tq_iinc (M := mX10_odds) (pc := 70) (v := x16) (L2 := [(7, .int x16), (4, .ref i4), (5, .ref i5), (6, .ref i6), (8, .int y8)]) dX10_odds_70 rfl (by rw [ex16, tk_ki_1]) (by decide) rfl ?_
            refine tq_pick (L2 := [(4, .ref i4), (5, .ref i5), (6, .ref i6), (7, .int x16), (8, .int y8)]) [1, 2, 3, 0, 4] rfl ?_
            cases (Option.some.inj hf)
            exact HJ43
set_option maxHeartbeats 4000000 in
set_option maxRecDepth 20000 in
theorem w_X10_odds {l : Launch} {d : Nat} (hd9 : 7 ≤ d) {t : Nat} {a1 : Int32} {a2 : Int32} {a3 : Int32} {bc bs : Nat} {h : tq_H} {o : (String ⊕ Int32) × tq_H} {Q : tq_R → tq_H → Prop} (hf : f_X10_odds t a1 a2 a3 h = some o) (hb : ∀ E g, o = (.inl E, g) → 1 ≤ bc ∧ 6 ≤ bs) (hQ : ∀ r h9, r = tq_enI o.1 ∧ o.2 = h9 → Q r h9) : tq_C l yX10_odds cX10_odds 9 (some .int) d (0 + bc) (0 + bs) [.ref t, .int a1, .int a2, .int a3] h Q := by
  refine tq_body (y := yX10_odds) false (by decide +kernel) (fun z => by cases z) (Nat.le_of_ble_eq_true rfl) ?_
  show tq_W l mX10_odds d (0 + bc) (0 + bs) Q 0 [(0, .ref t), (1, .int a1), (2, .int a2), (3, .int a3)] [] h
  refine tq_more (bc := bc) (bs := bs) (by omega) (by omega) ?_
  refine tq_aload_n (M := mX10_odds) (pc := 0) dX10_odds_0 rfl ?_
  refine tq_iload_n (M := mX10_odds) (pc := 1) dX10_odds_1 rfl ?_
  obtain ⟨⟨⟩, eu2, hf⟩ := tq_be hf
  obtain ⟨fsu2, eu2⟩ := tq_is_s eu2
  rcases tq_te hf with ⟨E1, g1, ev1, e9⟩ | ⟨v1, w3, ev1, hf⟩
  · have hb9 := hb _ _ e9
    refine tq_calV (M := mX10_odds) (pc := 2) (S := []) tk_y_X10_neededVersion tk_v_X10_neededVersion tk_RX10_407 dX10_odds_2 [.int a1] rfl (S0 := _) rfl eu2 rfl (Nat.le_of_ble_eq_true rfl) (d1 := d - 1) (b1 := 0 + bc) (s1 := 0 + bs) (bc' := 0) (bs' := 0) (Q1 := fun r h9 => r = tq_enR ((.inl E1, g1) : (String ⊕ Nat) × tq_H).1 ∧ ((.inl E1, g1) : (String ⊕ Nat) × tq_H).2 = h9) (by omega) (by omega) (by omega) (w_X10_neededVersion (bc := bc) (bs := bs) (by omega) ev1 (fun _ _ _ => hb9) (fun _ _ q => q)) (fun E h9 q => ?_) (fun r9 h9 q => nomatch (show (Sum.inl r9 : tq_R) = Sum.inr E1 from q.1))
    obtain ⟨q1, rfl⟩ := q
    cases (show (Sum.inr E : tq_R) = Sum.inr E1 from q1)
    subst e9
    exact tq_out rfl (hQ _ _ ⟨rfl, rfl⟩)
  · refine tq_calV (M := mX10_odds) (pc := 2) (S := []) tk_y_X10_neededVersion tk_v_X10_neededVersion tk_RX10_407 dX10_odds_2 [.int a1] rfl (S0 := _) rfl eu2 rfl (Nat.le_of_ble_eq_true rfl) (d1 := d - 1) (b1 := 0 + 0) (s1 := 0 + 0) (bc' := bc) (bs' := bs) (Q1 := fun r h9 => r = tq_enR ((.inr v1, w3) : (String ⊕ Nat) × tq_H).1 ∧ ((.inr v1, w3) : (String ⊕ Nat) × tq_H).2 = h9) (by omega) (by omega) (by omega) (w_X10_neededVersion (bc := 0) (bs := 0) (by omega) ev1 (fun E g z => by cases z) (fun _ _ q => q)) (fun E h9 q => nomatch (show (Sum.inr E : tq_R) = Sum.inl _ from q.1)) (fun r9 h9 q => ?_)
    obtain ⟨q1, rfl⟩ := q
    cases (show (Sum.inl r9 : tq_R) = Sum.inl (some (.ref v1)) from q1)
    refine tq_astore (M := mX10_odds) (pc := 5) dX10_odds_5 (L2 := [(4, .ref v1), (0, .ref t), (1, .int a1), (2, .int a2), (3, .int a3)]) (by decide) rfl ?_
    refine tq_aload_n (M := mX10_odds) (pc := 7) dX10_odds_7 rfl ?_
    refine tq_iload_n (M := mX10_odds) (pc := 8) dX10_odds_8 rfl ?_
    obtain ⟨⟨⟩, eu5, hf⟩ := tq_be hf
    obtain ⟨fsu5, eu5⟩ := tq_is_s eu5
    rcases tq_te hf with ⟨E1, g1, ev4, e9⟩ | ⟨v4, w6, ev4, hf⟩
    · have hb9 := hb _ _ e9
      refine tq_calV (M := mX10_odds) (pc := 9) (S := []) tk_y_X10_neededVersion tk_v_X10_neededVersion tk_RX10_407 dX10_odds_9 [.int a2] rfl (S0 := _) rfl eu5 rfl (Nat.le_of_ble_eq_true rfl) (d1 := d - 1) (b1 := 0 + bc) (s1 := 0 + bs) (bc' := 0) (bs' := 0) (Q1 := fun r h9 => r = tq_enR ((.inl E1, g1) : (String ⊕ Nat) × tq_H).1 ∧ ((.inl E1, g1) : (String ⊕ Nat) × tq_H).2 = h9) (by omega) (by omega) (by omega) (w_X10_neededVersion (bc := bc) (bs := bs) (by omega) ev4 (fun _ _ _ => hb9) (fun _ _ q => q)) (fun E h9 q => ?_) (fun r9 h9 q => nomatch (show (Sum.inl r9 : tq_R) = Sum.inr E1 from q.1))
      obtain ⟨q1, rfl⟩ := q
      cases (show (Sum.inr E : tq_R) = Sum.inr E1 from q1)
      subst e9
      exact tq_out rfl (hQ _ _ ⟨rfl, rfl⟩)
    · refine tq_calV (M := mX10_odds) (pc := 9) (S := []) tk_y_X10_neededVersion tk_v_X10_neededVersion tk_RX10_407 dX10_odds_9 [.int a2] rfl (S0 := _) rfl eu5 rfl (Nat.le_of_ble_eq_true rfl) (d1 := d - 1) (b1 := 0 + 0) (s1 := 0 + 0) (bc' := bc) (bs' := bs) (Q1 := fun r h9 => r = tq_enR ((.inr v4, w6) : (String ⊕ Nat) × tq_H).1 ∧ ((.inr v4, w6) : (String ⊕ Nat) × tq_H).2 = h9) (by omega) (by omega) (by omega) (w_X10_neededVersion (bc := 0) (bs := 0) (by omega) ev4 (fun E g z => by cases z) (fun _ _ q => q)) (fun E h9 q => nomatch (show (Sum.inr E : tq_R) = Sum.inl _ from q.1)) (fun r9 h9 q => ?_)
      obtain ⟨q1, rfl⟩ := q
      cases (show (Sum.inl r9 : tq_R) = Sum.inl (some (.ref v4)) from q1)
      refine tq_astore (M := mX10_odds) (pc := 12) dX10_odds_12 (L2 := [(5, .ref v4), (4, .ref v1), (0, .ref t), (1, .int a1), (2, .int a2), (3, .int a3)]) (by decide) rfl ?_
      refine tq_aload_n (M := mX10_odds) (pc := 14) dX10_odds_14 rfl ?_
      refine tq_iload_n (M := mX10_odds) (pc := 15) dX10_odds_15 rfl ?_
      obtain ⟨⟨⟩, eu8, hf⟩ := tq_be hf
      obtain ⟨fsu8, eu8⟩ := tq_is_s eu8
      rcases tq_te hf with ⟨E1, g1, ev7, e9⟩ | ⟨v7, w9, ev7, hf⟩
      · have hb9 := hb _ _ e9
        refine tq_calV (M := mX10_odds) (pc := 16) (S := []) tk_y_X10_neededVersion tk_v_X10_neededVersion tk_RX10_407 dX10_odds_16 [.int a3] rfl (S0 := _) rfl eu8 rfl (Nat.le_of_ble_eq_true rfl) (d1 := d - 1) (b1 := 0 + bc) (s1 := 0 + bs) (bc' := 0) (bs' := 0) (Q1 := fun r h9 => r = tq_enR ((.inl E1, g1) : (String ⊕ Nat) × tq_H).1 ∧ ((.inl E1, g1) : (String ⊕ Nat) × tq_H).2 = h9) (by omega) (by omega) (by omega) (w_X10_neededVersion (bc := bc) (bs := bs) (by omega) ev7 (fun _ _ _ => hb9) (fun _ _ q => q)) (fun E h9 q => ?_) (fun r9 h9 q => nomatch (show (Sum.inl r9 : tq_R) = Sum.inr E1 from q.1))
        obtain ⟨q1, rfl⟩ := q
        cases (show (Sum.inr E : tq_R) = Sum.inr E1 from q1)
        subst e9
        exact tq_out rfl (hQ _ _ ⟨rfl, rfl⟩)
      · refine tq_calV (M := mX10_odds) (pc := 16) (S := []) tk_y_X10_neededVersion tk_v_X10_neededVersion tk_RX10_407 dX10_odds_16 [.int a3] rfl (S0 := _) rfl eu8 rfl (Nat.le_of_ble_eq_true rfl) (d1 := d - 1) (b1 := 0 + 0) (s1 := 0 + 0) (bc' := bc) (bs' := bs) (Q1 := fun r h9 => r = tq_enR ((.inr v7, w9) : (String ⊕ Nat) × tq_H).1 ∧ ((.inr v7, w9) : (String ⊕ Nat) × tq_H).2 = h9) (by omega) (by omega) (by omega) (w_X10_neededVersion (bc := 0) (bs := 0) (by omega) ev7 (fun E g z => by cases z) (fun _ _ q => q)) (fun E h9 q => nomatch (show (Sum.inr E : tq_R) = Sum.inl _ from q.1)) (fun r9 h9 q => ?_)
        obtain ⟨q1, rfl⟩ := q
        cases (show (Sum.inl r9 : tq_R) = Sum.inl (some (.ref v7)) from q1)
        refine tq_astore (M := mX10_odds) (pc := 19) dX10_odds_19 (L2 := [(6, .ref v7), (5, .ref v4), (4, .ref v1), (0, .ref t), (1, .int a1), (2, .int a2), (3, .int a3)]) (by decide) rfl ?_
        refine tq_iconst (M := mX10_odds) (pc := 21) dX10_odds_21 tk_ki_0 ?_
        refine tq_istore (M := mX10_odds) (pc := 22) dX10_odds_22 (L2 := [(7, .int (0 : Int32)), (6, .ref v7), (5, .ref v4), (4, .ref v1), (0, .ref t), (1, .int a1), (2, .int a2), (3, .int a3)]) (by decide) rfl ?_
        refine tq_iconst (M := mX10_odds) (pc := 24) dX10_odds_24 tk_ki_0 ?_
        refine tq_istore (M := mX10_odds) (pc := 25) dX10_odds_25 (L2 := [(8, .int (0 : Int32)), (7, .int (0 : Int32)), (6, .ref v7), (5, .ref v4), (4, .ref v1), (0, .ref t), (1, .int a1), (2, .int a2), (3, .int a3)]) (by decide) rfl ?_
        obtain ⟨o19, eo19, hf⟩ := tq_be hf
        refine tq_pick (L2 := [(4, .ref v1), (5, .ref v4), (6, .ref v7), (7, .int (0 : Int32)), (8, .int (0 : Int32))]) [4, 3, 2, 1, 0] rfl ?_
        refine l_X10_odds_27 (bc := bc) (bs := bs) (by omega) v1 v4 v7 w9 _ (0 : Int32) (0 : Int32) _ eo19 ?_
        refine tq_iload (M := mX10_odds) (pc := 79) dX10_odds_79 rfl ?_
        refine tq_iret (M := mX10_odds) (pc := 81) dX10_odds_81 rfl ?_
        cases (Option.some.inj hf)
        exact hQ _ _ ⟨rfl, rfl⟩
abbrev mX10_hide : tq_M := (RX10, cX10_hide, 2, (some .boolean), false, [], none)
def f_X10_hide (t : Nat) (a1 : Int32) (h : tq_H) : Option ((String ⊕ Int32) × tq_H) :=
  (tq_is h t 10).bind fun _ =>
  tq_tb (f_X10_needPath t a1 h) fun _ w3 =>
  (tq_gl w3 t 10 15).bind fun x4 =>
  (f_X0_holds x4 a1 w3).bind fun v5 =>
  if v5 = 0 then
    (tq_gl w3 t 10 15).bind fun x13 =>
    (f_J13_bitCount_95d88 x13 w3).bind fun v14 =>
    if v14 < (3 : Int32) then
      (tq_gl w3 t 10 15).bind fun x15 =>
      (f_X0_one a1 w3).bind fun v16 =>
      (tq_pf w3 t 10 15 (.long ((x15 ^^^ v16)))).bind fun w17 =>
      (tq_pf w17 t 10 18 (.int (1 : Int32))).bind fun w18 =>
      (tq_gl w18 t 10 15).bind fun x19 =>
      (f_X0_holds x19 a1 w18).bind fun v20 =>
      (tq_bz v20).bind fun z21 =>
      some (.inr z21, w18)
    else
      some (.inl "java/lang/IllegalStateException", w3)
  else
    (tq_gl w3 t 10 15).bind fun x6 =>
    (f_X0_one a1 w3).bind fun v7 =>
    (tq_pf w3 t 10 15 (.long ((x6 ^^^ v7)))).bind fun w8 =>
    (tq_pf w8 t 10 18 (.int (1 : Int32))).bind fun w9 =>
    (tq_gl w9 t 10 15).bind fun x10 =>
    (f_X0_holds x10 a1 w9).bind fun v11 =>
    (tq_bz v11).bind fun z12 =>
    some (.inr z12, w9)
set_option maxHeartbeats 4000000 in
set_option maxRecDepth 20000 in
theorem w_X10_hide {l : Launch} {d : Nat} (hd9 : 7 ≤ d) {t : Nat} {a1 : Int32} {bc bs : Nat} {h : tq_H} {o : (String ⊕ Int32) × tq_H} {Q : tq_R → tq_H → Prop} (hf : f_X10_hide t a1 h = some o) (hb : ∀ E g, o = (.inl E, g) → 1 ≤ bc ∧ 6 ≤ bs) (hQ : ∀ r h9, r = tq_enI o.1 ∧ o.2 = h9 → Q r h9) : tq_C l yX10_hide cX10_hide 2 (some .boolean) d (0 + bc) (0 + bs) [.ref t, .int a1] h Q := by
  refine tq_body (y := yX10_hide) false (by decide +kernel) (fun z => by cases z) (Nat.le_of_ble_eq_true rfl) ?_
  show tq_W l mX10_hide d (0 + bc) (0 + bs) Q 0 [(0, .ref t), (1, .int a1)] [] h
  refine tq_more (bc := bc) (bs := bs) (by omega) (by omega) ?_
  refine tq_aload_n (M := mX10_hide) (pc := 0) dX10_hide_0 rfl ?_
  refine tq_iload_n (M := mX10_hide) (pc := 1) dX10_hide_1 rfl ?_
  obtain ⟨⟨⟩, eu2, hf⟩ := tq_be hf
  obtain ⟨fsu2, eu2⟩ := tq_is_s eu2
  rcases tq_te hf with ⟨E1, g1, ev1, e9⟩ | ⟨v1, w3, ev1, hf⟩
  · have hb9 := hb _ _ e9
    refine tq_calV (M := mX10_hide) (pc := 2) (S := []) tk_y_X10_needPath tk_v_X10_needPath tk_RX10_262 dX10_hide_2 [.int a1] rfl (S0 := _) rfl eu2 rfl (Nat.le_of_ble_eq_true rfl) (d1 := d - 1) (b1 := 0 + bc) (s1 := 0 + bs) (bc' := 0) (bs' := 0) (Q1 := fun r h9 => r = tq_enV ((.inl E1, g1) : (String ⊕ Unit) × tq_H).1 ∧ ((.inl E1, g1) : (String ⊕ Unit) × tq_H).2 = h9) (by omega) (by omega) (by omega) (w_X10_needPath (bc := bc) (bs := bs) (by omega) ev1 (fun _ _ _ => hb9) (fun _ _ q => q)) (fun E h9 q => ?_) (fun r9 h9 q => nomatch (show (Sum.inl r9 : tq_R) = Sum.inr E1 from q.1))
    obtain ⟨q1, rfl⟩ := q
    cases (show (Sum.inr E : tq_R) = Sum.inr E1 from q1)
    subst e9
    exact tq_out rfl (hQ _ _ ⟨rfl, rfl⟩)
  · refine tq_calV (M := mX10_hide) (pc := 2) (S := []) tk_y_X10_needPath tk_v_X10_needPath tk_RX10_262 dX10_hide_2 [.int a1] rfl (S0 := _) rfl eu2 rfl (Nat.le_of_ble_eq_true rfl) (d1 := d - 1) (b1 := 0 + 0) (s1 := 0 + 0) (bc' := bc) (bs' := bs) (Q1 := fun r h9 => r = tq_enV ((.inr (), w3) : (String ⊕ Unit) × tq_H).1 ∧ ((.inr (), w3) : (String ⊕ Unit) × tq_H).2 = h9) (by omega) (by omega) (by omega) (w_X10_needPath (bc := 0) (bs := 0) (by omega) ev1 (fun E g z => by cases z) (fun _ _ q => q)) (fun E h9 q => nomatch (show (Sum.inr E : tq_R) = Sum.inl _ from q.1)) (fun r9 h9 q => ?_)
    obtain ⟨q1, rfl⟩ := q
    cases (show (Sum.inl r9 : tq_R) = Sum.inl (none) from q1)
    refine tq_aload_n (M := mX10_hide) (pc := 5) dX10_hide_5 rfl ?_
    obtain ⟨x4, ex4, hf⟩ := tq_be hf
    refine tq_getL (M := mX10_hide) (pc := 6) tk_c10 (by decide) dX10_hide_6 tk_RX10_91 rfl ex4 ?_
    refine tq_iload_n (M := mX10_hide) (pc := 9) dX10_hide_9 rfl ?_
    obtain ⟨v5, ev5, hf⟩ := tq_be hf
    refine tq_calS (M := mX10_hide) (pc := 10) (S := []) tk_y_X0_holds tk_s_X0_holds tk_RX10_315 dX10_hide_10 [.long x4, .int a1] rfl (Nat.le_of_ble_eq_true rfl) (d1 := d - 1) (b1 := 0) (s1 := 0) (bc' := bc) (bs' := bs) (Q1 := fun r h9 => r = .inl (some (.int v5)) ∧ w3 = h9) (by omega) (by omega) (by omega) (w_X0_holds (by omega) ev5 (fun _ _ q => q)) (fun E h9 q => nomatch (show (Sum.inr E : tq_R) = Sum.inl _ from q.1)) (fun r9 h9 q => ?_)
    obtain ⟨q1, rfl⟩ := q
    cases (show (Sum.inl r9 : tq_R) = Sum.inl (some (.int v5)) from q1)
    refine tq_if_ne (M := mX10_hide) (pc := 13) (tgt := 38) dX10_hide_13 (by decide) (fun cc => ?_) (fun cc => ?_)
    · have hf := tq_ifn hf cc
      refine tq_aload_n (M := mX10_hide) (pc := 38) dX10_hide_38 rfl ?_
      refine tq_dup (M := mX10_hide) (pc := 39) dX10_hide_39 rfl ?_
      obtain ⟨x6, ex6, hf⟩ := tq_be hf
      refine tq_getL (M := mX10_hide) (pc := 40) tk_c10 (by decide) dX10_hide_40 tk_RX10_91 rfl ex6 ?_
      refine tq_iload_n (M := mX10_hide) (pc := 43) dX10_hide_43 rfl ?_
      obtain ⟨v7, ev7, hf⟩ := tq_be hf
      refine tq_calS (M := mX10_hide) (pc := 44) (S := [.long x6, .ref t]) tk_y_X0_one tk_s_X0_one tk_RX10_372 dX10_hide_44 [.int a1] rfl (Nat.le_of_ble_eq_true rfl) (d1 := d - 1) (b1 := 0) (s1 := 0) (bc' := bc) (bs' := bs) (Q1 := fun r h9 => r = .inl (some (.long v7)) ∧ w3 = h9) (by omega) (by omega) (by omega) (w_X0_one (by omega) ev7 (fun _ _ q => q)) (fun E h9 q => nomatch (show (Sum.inr E : tq_R) = Sum.inl _ from q.1)) (fun r9 h9 q => ?_)
      obtain ⟨q1, rfl⟩ := q
      cases (show (Sum.inl r9 : tq_R) = Sum.inl (some (.long v7)) from q1)
      refine tq_lxor (M := mX10_hide) (pc := 47) dX10_hide_47 ?_
      obtain ⟨w8, ew8, hf⟩ := tq_be hf
      refine tq_putv (M := mX10_hide) (pc := 48) tk_c10 (by decide) dX10_hide_48 tk_RX10_91 rfl (Or.inl rfl) ew8 (tq_nL _) ?_
      refine tq_aload_n (M := mX10_hide) (pc := 51) dX10_hide_51 rfl ?_
      refine tq_iconst (M := mX10_hide) (pc := 52) dX10_hide_52 tk_ki_1 ?_
      obtain ⟨w9, ew9, hf⟩ := tq_be hf
      refine tq_putv (M := mX10_hide) (pc := 53) tk_c10 (by decide) dX10_hide_53 tk_RX10_102 rfl (Or.inl rfl) ew9 (tq_n01 (Or.inr rfl)) ?_
      refine tq_aload_n (M := mX10_hide) (pc := 56) dX10_hide_56 rfl ?_
      obtain ⟨x10, ex10, hf⟩ := tq_be hf
      refine tq_getL (M := mX10_hide) (pc := 57) tk_c10 (by decide) dX10_hide_57 tk_RX10_91 rfl ex10 ?_
      refine tq_iload_n (M := mX10_hide) (pc := 60) dX10_hide_60 rfl ?_
      obtain ⟨v11, ev11, hf⟩ := tq_be hf
      refine tq_calS (M := mX10_hide) (pc := 61) (S := []) tk_y_X0_holds tk_s_X0_holds tk_RX10_315 dX10_hide_61 [.long x10, .int a1] rfl (Nat.le_of_ble_eq_true rfl) (d1 := d - 1) (b1 := 0) (s1 := 0) (bc' := bc) (bs' := bs) (Q1 := fun r h9 => r = .inl (some (.int v11)) ∧ w9 = h9) (by omega) (by omega) (by omega) (w_X0_holds (by omega) ev11 (fun _ _ q => q)) (fun E h9 q => nomatch (show (Sum.inr E : tq_R) = Sum.inl _ from q.1)) (fun r9 h9 q => ?_)
      obtain ⟨q1, rfl⟩ := q
      cases (show (Sum.inl r9 : tq_R) = Sum.inl (some (.int v11)) from q1)
      obtain ⟨z12, ez12, hf⟩ := tq_be hf
      refine tq_zretB (M := mX10_hide) (pc := 64) dX10_hide_64 rfl ez12 ?_
      cases (Option.some.inj hf)
      exact hQ _ _ ⟨rfl, rfl⟩
    · have hf := tq_ifp hf cc
      refine tq_aload_n (M := mX10_hide) (pc := 16) dX10_hide_16 rfl ?_
      obtain ⟨x13, ex13, hf⟩ := tq_be hf
      refine tq_getL (M := mX10_hide) (pc := 17) tk_c10 (by decide) dX10_hide_17 tk_RX10_91 rfl ex13 ?_
      obtain ⟨v14, ev14, hf⟩ := tq_be hf
      refine tq_calS (M := mX10_hide) (pc := 20) (S := []) tk_y_J13_bitCount_95d88 tk_s_J13_bitCount_95d88 tk_RX10_309 dX10_hide_20 [.long x13] rfl (Nat.le_of_ble_eq_true rfl) (d1 := d - 1) (b1 := 0) (s1 := 0) (bc' := bc) (bs' := bs) (Q1 := fun r h9 => r = .inl (some (.int v14)) ∧ w3 = h9) (by omega) (by omega) (by omega) (w_J13_bitCount_95d88 (by omega) ev14 (fun _ _ q => q)) (fun E h9 q => nomatch (show (Sum.inr E : tq_R) = Sum.inl _ from q.1)) (fun r9 h9 q => ?_)
      obtain ⟨q1, rfl⟩ := q
      cases (show (Sum.inl r9 : tq_R) = Sum.inl (some (.int v14)) from q1)
      refine tq_iconst (M := mX10_hide) (pc := 23) dX10_hide_23 tk_ki_3 ?_
      refine tq_icmp_lt (M := mX10_hide) (pc := 24) (tgt := 38) dX10_hide_24 (by decide) (fun cc => ?_) (fun cc => ?_)
      · have hf := tq_ifp hf cc
        refine tq_aload_n (M := mX10_hide) (pc := 38) dX10_hide_38 rfl ?_
        refine tq_dup (M := mX10_hide) (pc := 39) dX10_hide_39 rfl ?_
        obtain ⟨x15, ex15, hf⟩ := tq_be hf
        refine tq_getL (M := mX10_hide) (pc := 40) tk_c10 (by decide) dX10_hide_40 tk_RX10_91 rfl ex15 ?_
        refine tq_iload_n (M := mX10_hide) (pc := 43) dX10_hide_43 rfl ?_
        obtain ⟨v16, ev16, hf⟩ := tq_be hf
        refine tq_calS (M := mX10_hide) (pc := 44) (S := [.long x15, .ref t]) tk_y_X0_one tk_s_X0_one tk_RX10_372 dX10_hide_44 [.int a1] rfl (Nat.le_of_ble_eq_true rfl) (d1 := d - 1) (b1 := 0) (s1 := 0) (bc' := bc) (bs' := bs) (Q1 := fun r h9 => r = .inl (some (.long v16)) ∧ w3 = h9) (by omega) (by omega) (by omega) (w_X0_one (by omega) ev16 (fun _ _ q => q)) (fun E h9 q => nomatch (show (Sum.inr E : tq_R) = Sum.inl _ from q.1)) (fun r9 h9 q => ?_)
        obtain ⟨q1, rfl⟩ := q
        cases (show (Sum.inl r9 : tq_R) = Sum.inl (some (.long v16)) from q1)
        refine tq_lxor (M := mX10_hide) (pc := 47) dX10_hide_47 ?_
        obtain ⟨w17, ew17, hf⟩ := tq_be hf
        refine tq_putv (M := mX10_hide) (pc := 48) tk_c10 (by decide) dX10_hide_48 tk_RX10_91 rfl (Or.inl rfl) ew17 (tq_nL _) ?_
        refine tq_aload_n (M := mX10_hide) (pc := 51) dX10_hide_51 rfl ?_
        refine tq_iconst (M := mX10_hide) (pc := 52) dX10_hide_52 tk_ki_1 ?_
        obtain ⟨w18, ew18, hf⟩ := tq_be hf
        refine tq_putv (M := mX10_hide) (pc := 53) tk_c10 (by decide) dX10_hide_53 tk_RX10_102 rfl (Or.inl rfl) ew18 (tq_n01 (Or.inr rfl)) ?_
        refine tq_aload_n (M := mX10_hide) (pc := 56) dX10_hide_56 rfl ?_
        obtain ⟨x19, ex19, hf⟩ := tq_be hf
        refine tq_getL (M := mX10_hide) (pc := 57) tk_c10 (by decide) dX10_hide_57 tk_RX10_91 rfl ex19 ?_
        refine tq_iload_n (M := mX10_hide) (pc := 60) dX10_hide_60 rfl ?_
        obtain ⟨v20, ev20, hf⟩ := tq_be hf
        refine tq_calS (M := mX10_hide) (pc := 61) (S := []) tk_y_X0_holds tk_s_X0_holds tk_RX10_315 dX10_hide_61 [.long x19, .int a1] rfl (Nat.le_of_ble_eq_true rfl) (d1 := d - 1) (b1 := 0) (s1 := 0) (bc' := bc) (bs' := bs) (Q1 := fun r h9 => r = .inl (some (.int v20)) ∧ w18 = h9) (by omega) (by omega) (by omega) (w_X0_holds (by omega) ev20 (fun _ _ q => q)) (fun E h9 q => nomatch (show (Sum.inr E : tq_R) = Sum.inl _ from q.1)) (fun r9 h9 q => ?_)
        obtain ⟨q1, rfl⟩ := q
        cases (show (Sum.inl r9 : tq_R) = Sum.inl (some (.int v20)) from q1)
        obtain ⟨z21, ez21, hf⟩ := tq_be hf
        refine tq_zretB (M := mX10_hide) (pc := 64) dX10_hide_64 rfl ez21 ?_
        cases (Option.some.inj hf)
        exact hQ _ _ ⟨rfl, rfl⟩
      · have hf := tq_ifn hf cc
        have hb9 := hb _ _ (Option.some.inj hf).symm
        refine tq_throw (M := mX10_hide) (pc := 27) (E := "java/lang/IllegalStateException") (ik := 149) (ic := 153) (is := 435) (text := "3 paths are hidden") (by decide +kernel) (by decide +kernel) rfl rfl dX10_hide_27 dX10_hide_30 dX10_hide_31 dX10_hide_34 dX10_hide_37 (by omega) (by omega) (by omega) ?_
        cases (Option.some.inj hf)
        exact hQ _ _ ⟨rfl, rfl⟩
abbrev mX10_isSeen : tq_M := (RX10, cX10_isSeen, 2, (some .boolean), false, [], none)
def f_X10_isSeen (t : Nat) (a1 : Int32) (h : tq_H) : Option ((String ⊕ Int32) × tq_H) :=
  (tq_is h t 10).bind fun _ =>
  tq_tb (f_X10_needNode t a1 h) fun _ w3 =>
  (tq_is w3 t 10).bind fun _ =>
  (f_X10_refreshedReader t w3).bind fun v4 =>
  (tq_gr v4.2 t 10 0).bind fun k6 =>
  (tq_gr v4.2 k6 8 0).bind fun k7 =>
  (tq_is v4.2 k7 3).bind fun _ =>
  (f_X3_spotOf k7 a1 v4.2).bind fun v8 =>
  (tq_is v4.2 v4.1 2).bind fun _ =>
  (f_X2_sees v4.1 v8 v4.2).bind fun v10 =>
  (tq_bz v10).bind fun z12 =>
  some (.inr z12, v4.2)
set_option maxHeartbeats 4000000 in
set_option maxRecDepth 20000 in
theorem w_X10_isSeen {l : Launch} {d : Nat} (hd9 : 7 ≤ d) {t : Nat} {a1 : Int32} {bc bs : Nat} {h : tq_H} {o : (String ⊕ Int32) × tq_H} {Q : tq_R → tq_H → Prop} (hf : f_X10_isSeen t a1 h = some o) (hb : ∀ E g, o = (.inl E, g) → 1 ≤ bc ∧ 6 ≤ bs) (hQ : ∀ r h9, r = tq_enI o.1 ∧ o.2 = h9 → Q r h9) : tq_C l yX10_isSeen cX10_isSeen 2 (some .boolean) d (0 + bc) (0 + bs) [.ref t, .int a1] h Q := by
  refine tq_body (y := yX10_isSeen) false (by decide +kernel) (fun z => by cases z) (Nat.le_of_ble_eq_true rfl) ?_
  show tq_W l mX10_isSeen d (0 + bc) (0 + bs) Q 0 [(0, .ref t), (1, .int a1)] [] h
  refine tq_more (bc := bc) (bs := bs) (by omega) (by omega) ?_
  refine tq_aload_n (M := mX10_isSeen) (pc := 0) dX10_isSeen_0 rfl ?_
  refine tq_iload_n (M := mX10_isSeen) (pc := 1) dX10_isSeen_1 rfl ?_
  obtain ⟨⟨⟩, eu2, hf⟩ := tq_be hf
  obtain ⟨fsu2, eu2⟩ := tq_is_s eu2
  rcases tq_te hf with ⟨E1, g1, ev1, e9⟩ | ⟨v1, w3, ev1, hf⟩
  · have hb9 := hb _ _ e9
    refine tq_calV (M := mX10_isSeen) (pc := 2) (S := []) tk_y_X10_needNode tk_v_X10_needNode tk_RX10_146 dX10_isSeen_2 [.int a1] rfl (S0 := _) rfl eu2 rfl (Nat.le_of_ble_eq_true rfl) (d1 := d - 1) (b1 := 0 + bc) (s1 := 0 + bs) (bc' := 0) (bs' := 0) (Q1 := fun r h9 => r = tq_enV ((.inl E1, g1) : (String ⊕ Unit) × tq_H).1 ∧ ((.inl E1, g1) : (String ⊕ Unit) × tq_H).2 = h9) (by omega) (by omega) (by omega) (w_X10_needNode (bc := bc) (bs := bs) (by omega) ev1 (fun _ _ _ => hb9) (fun _ _ q => q)) (fun E h9 q => ?_) (fun r9 h9 q => nomatch (show (Sum.inl r9 : tq_R) = Sum.inr E1 from q.1))
    obtain ⟨q1, rfl⟩ := q
    cases (show (Sum.inr E : tq_R) = Sum.inr E1 from q1)
    subst e9
    exact tq_out rfl (hQ _ _ ⟨rfl, rfl⟩)
  · refine tq_calV (M := mX10_isSeen) (pc := 2) (S := []) tk_y_X10_needNode tk_v_X10_needNode tk_RX10_146 dX10_isSeen_2 [.int a1] rfl (S0 := _) rfl eu2 rfl (Nat.le_of_ble_eq_true rfl) (d1 := d - 1) (b1 := 0 + 0) (s1 := 0 + 0) (bc' := bc) (bs' := bs) (Q1 := fun r h9 => r = tq_enV ((.inr (), w3) : (String ⊕ Unit) × tq_H).1 ∧ ((.inr (), w3) : (String ⊕ Unit) × tq_H).2 = h9) (by omega) (by omega) (by omega) (w_X10_needNode (bc := 0) (bs := 0) (by omega) ev1 (fun E g z => by cases z) (fun _ _ q => q)) (fun E h9 q => nomatch (show (Sum.inr E : tq_R) = Sum.inl _ from q.1)) (fun r9 h9 q => ?_)
    obtain ⟨q1, rfl⟩ := q
    cases (show (Sum.inl r9 : tq_R) = Sum.inl (none) from q1)
    refine tq_aload_n (M := mX10_isSeen) (pc := 5) dX10_isSeen_5 rfl ?_
    obtain ⟨⟨⟩, eu5, hf⟩ := tq_be hf
    obtain ⟨fsu5, eu5⟩ := tq_is_s eu5
    obtain ⟨v4, ev4, hf⟩ := tq_be hf
    refine tq_calV (M := mX10_isSeen) (pc := 6) (S := []) tk_y_X10_refreshedReader tk_v_X10_refreshedReader tk_RX10_294 dX10_isSeen_6 [] rfl (S0 := _) rfl eu5 rfl (Nat.le_of_ble_eq_true rfl) (d1 := d - 1) (b1 := 0) (s1 := 0) (bc' := bc) (bs' := bs) (Q1 := fun r h9 => r = .inl (some (.ref v4.1)) ∧ v4.2 = h9) (by omega) (by omega) (by omega) (w_X10_refreshedReader (by omega) ev4 (fun _ _ q => q)) (fun E h9 q => nomatch (show (Sum.inr E : tq_R) = Sum.inl _ from q.1)) (fun r9 h9 q => ?_)
    obtain ⟨q1, rfl⟩ := q
    cases (show (Sum.inl r9 : tq_R) = Sum.inl (some (.ref v4.1)) from q1)
    refine tq_aload_n (M := mX10_isSeen) (pc := 9) dX10_isSeen_9 rfl ?_
    obtain ⟨k6, ek6, hf⟩ := tq_be hf
    refine tq_getR (M := mX10_isSeen) (pc := 10) tk_c10 (by decide) dX10_isSeen_10 tk_RX10_12 rfl ek6 ?_
    obtain ⟨k7, ek7, hf⟩ := tq_be hf
    refine tq_getR (M := mX10_isSeen) (pc := 13) tk_c8 (by decide) dX10_isSeen_13 tk_RX10_115 rfl ek7 ?_
    refine tq_iload_n (M := mX10_isSeen) (pc := 16) dX10_isSeen_16 rfl ?_
    obtain ⟨⟨⟩, eu9, hf⟩ := tq_be hf
    obtain ⟨fsu9, eu9⟩ := tq_is_s eu9
    obtain ⟨v8, ev8, hf⟩ := tq_be hf
    refine tq_calV (M := mX10_isSeen) (pc := 17) (S := [.ref v4.1]) tk_y_X3_spotOf tk_v_X3_spotOf tk_RX10_229 dX10_isSeen_17 [.int a1] rfl (S0 := _) rfl eu9 rfl (Nat.le_of_ble_eq_true rfl) (d1 := d - 1) (b1 := 0) (s1 := 0) (bc' := bc) (bs' := bs) (Q1 := fun r h9 => r = .inl (some (.int v8)) ∧ v4.2 = h9) (by omega) (by omega) (by omega) (w_X3_spotOf (by omega) ev8 (fun _ _ q => q)) (fun E h9 q => nomatch (show (Sum.inr E : tq_R) = Sum.inl _ from q.1)) (fun r9 h9 q => ?_)
    obtain ⟨q1, rfl⟩ := q
    cases (show (Sum.inl r9 : tq_R) = Sum.inl (some (.int v8)) from q1)
    obtain ⟨⟨⟩, eu11, hf⟩ := tq_be hf
    obtain ⟨fsu11, eu11⟩ := tq_is_s eu11
    obtain ⟨v10, ev10, hf⟩ := tq_be hf
    refine tq_calV (M := mX10_isSeen) (pc := 20) (S := []) tk_y_X2_sees tk_v_X2_sees tk_RX10_437 dX10_isSeen_20 [.int v8] rfl (S0 := _) rfl eu11 rfl (Nat.le_of_ble_eq_true rfl) (d1 := d - 1) (b1 := 0) (s1 := 0) (bc' := bc) (bs' := bs) (Q1 := fun r h9 => r = .inl (some (.int v10)) ∧ v4.2 = h9) (by omega) (by omega) (by omega) (w_X2_sees (by omega) ev10 (fun _ _ q => q)) (fun E h9 q => nomatch (show (Sum.inr E : tq_R) = Sum.inl _ from q.1)) (fun r9 h9 q => ?_)
    obtain ⟨q1, rfl⟩ := q
    cases (show (Sum.inl r9 : tq_R) = Sum.inl (some (.int v10)) from q1)
    obtain ⟨z12, ez12, hf⟩ := tq_be hf
    refine tq_zretB (M := mX10_isSeen) (pc := 23) dX10_isSeen_23 rfl ez12 ?_
    cases (Option.some.inj hf)
    exact hQ _ _ ⟨rfl, rfl⟩
