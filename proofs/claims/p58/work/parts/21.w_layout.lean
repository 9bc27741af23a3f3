/-! ===== printed by wip/whole/tools: Layout, Paths ===== -/
abbrev cX3_count : ByteArray := prog_5_method_5_code
def yX3_count : MethodName := ⟨RX3, "count", "()I"⟩
theorem dX3_count_0 : decode cX3_count 0 = .ok (.aload_n 0, 1) := by decide +kernel
theorem dX3_count_1 : decode cX3_count 1 = .ok (.getfield 60, 3) := by decide +kernel
theorem dX3_count_4 : decode cX3_count 4 = .ok (.ireturn, 1) := by decide +kernel
abbrev cX3_depthAt : ByteArray := prog_5_method_12_code
def yX3_depthAt : MethodName := ⟨RX3, "depthAt", "(I)I"⟩
theorem dX3_depthAt_0 : decode cX3_depthAt 0 = .ok (.aload_n 0, 1) := by decide +kernel
theorem dX3_depthAt_1 : decode cX3_depthAt 1 = .ok (.getfield 44, 3) := by decide +kernel
theorem dX3_depthAt_4 : decode cX3_depthAt 4 = .ok (.iload_n 1, 1) := by decide +kernel
theorem dX3_depthAt_5 : decode cX3_depthAt 5 = .ok (.invokevirtual 76, 3) := by decide +kernel
theorem dX3_depthAt_8 : decode cX3_depthAt 8 = .ok (.invokestatic 112, 3) := by decide +kernel
theorem dX3_depthAt_11 : decode cX3_depthAt 11 = .ok (.ireturn, 1) := by decide +kernel
abbrev cX3_sizeAt : ByteArray := prog_5_method_11_code
def yX3_sizeAt : MethodName := ⟨RX3, "sizeAt", "(I)I"⟩
theorem dX3_sizeAt_0 : decode cX3_sizeAt 0 = .ok (.aload_n 0, 1) := by decide +kernel
theorem dX3_sizeAt_1 : decode cX3_sizeAt 1 = .ok (.getfield 26, 3) := by decide +kernel
theorem dX3_sizeAt_4 : decode cX3_sizeAt 4 = .ok (.iload_n 1, 1) := by decide +kernel
theorem dX3_sizeAt_5 : decode cX3_sizeAt 5 = .ok (.invokevirtual 88, 3) := by decide +kernel
theorem dX3_sizeAt_8 : decode cX3_sizeAt 8 = .ok (.iload_n 1, 1) := by decide +kernel
theorem dX3_sizeAt_9 : decode cX3_sizeAt 9 = .ok (.isub, 1) := by decide +kernel
theorem dX3_sizeAt_10 : decode cX3_sizeAt 10 = .ok (.ireturn, 1) := by decide +kernel
abbrev cX3_nodeAt : ByteArray := prog_5_method_8_code
def yX3_nodeAt : MethodName := ⟨RX3, "nodeAt", "(I)I"⟩
theorem dX3_nodeAt_0 : decode cX3_nodeAt 0 = .ok (.aload_n 0, 1) := by decide +kernel
theorem dX3_nodeAt_1 : decode cX3_nodeAt 1 = .ok (.getfield 14, 3) := by decide +kernel
theorem dX3_nodeAt_4 : decode cX3_nodeAt 4 = .ok (.iload_n 1, 1) := by decide +kernel
theorem dX3_nodeAt_5 : decode cX3_nodeAt 5 = .ok (.invokevirtual 88, 3) := by decide +kernel
theorem dX3_nodeAt_8 : decode cX3_nodeAt 8 = .ok (.ireturn, 1) := by decide +kernel
abbrev cX3_elements : ByteArray := prog_5_method_15_code
def yX3_elements : MethodName := ⟨RX3, "elements", "()J"⟩
theorem dX3_elements_0 : decode cX3_elements 0 = .ok (.aload_n 0, 1) := by decide +kernel
theorem dX3_elements_1 : decode cX3_elements 1 = .ok (.getfield 53, 3) := by decide +kernel
theorem dX3_elements_4 : decode cX3_elements 4 = .ok (.lreturn, 1) := by decide +kernel
abbrev cX3_below : ByteArray := prog_5_method_21_code
def yX3_below : MethodName := ⟨RX3, "below", "(I)J"⟩
theorem dX3_below_0 : decode cX3_below 0 = .ok (.aload_n 0, 1) := by decide +kernel
theorem dX3_below_1 : decode cX3_below 1 = .ok (.getfield 47, 3) := by decide +kernel
theorem dX3_below_4 : decode cX3_below 4 = .ok (.iload_n 1, 1) := by decide +kernel
theorem dX3_below_5 : decode cX3_below 5 = .ok (.invokevirtual 76, 3) := by decide +kernel
theorem dX3_below_8 : decode cX3_below 8 = .ok (.lreturn, 1) := by decide +kernel
abbrev cX3_passing : ByteArray := prog_5_method_17_code
def yX3_passing : MethodName := ⟨RX3, "passing", "(I)J"⟩
theorem dX3_passing_0 : decode cX3_passing 0 = .ok (.aload_n 0, 1) := by decide +kernel
theorem dX3_passing_1 : decode cX3_passing 1 = .ok (.getfield 50, 3) := by decide +kernel
theorem dX3_passing_4 : decode cX3_passing 4 = .ok (.iload_n 1, 1) := by decide +kernel
theorem dX3_passing_5 : decode cX3_passing 5 = .ok (.invokevirtual 76, 3) := by decide +kernel
theorem dX3_passing_8 : decode cX3_passing 8 = .ok (.lreturn, 1) := by decide +kernel
abbrev cX3_nodeOfSet : ByteArray := prog_5_method_9_code
def yX3_nodeOfSet : MethodName := ⟨RX3, "nodeOfSet", "(JI)I"⟩
theorem dX3_nodeOfSet_0 : decode cX3_nodeOfSet 0 = .ok (.aload_n 0, 1) := by decide +kernel
theorem dX3_nodeOfSet_1 : decode cX3_nodeOfSet 1 = .ok (.getfield 14, 3) := by decide +kernel
theorem dX3_nodeOfSet_4 : decode cX3_nodeOfSet 4 = .ok (.lload_n 1, 1) := by decide +kernel
theorem dX3_nodeOfSet_5 : decode cX3_nodeOfSet 5 = .ok (.iload_n 3, 1) := by decide +kernel
theorem dX3_nodeOfSet_6 : decode cX3_nodeOfSet 6 = .ok (.invokestatic 108, 3) := by decide +kernel
theorem dX3_nodeOfSet_9 : decode cX3_nodeOfSet 9 = .ok (.invokevirtual 88, 3) := by decide +kernel
theorem dX3_nodeOfSet_12 : decode cX3_nodeOfSet 12 = .ok (.ireturn, 1) := by decide +kernel
abbrev cX4_stepsOf : ByteArray := prog_6_method_8_code
def yX4_stepsOf : MethodName := ⟨RX4, "stepsOf", "(I)I"⟩
theorem dX4_stepsOf_0 : decode cX4_stepsOf 0 = .ok (.aload_n 0, 1) := by decide +kernel
theorem dX4_stepsOf_1 : decode cX4_stepsOf 1 = .ok (.getfield 14, 3) := by decide +kernel
theorem dX4_stepsOf_4 : decode cX4_stepsOf 4 = .ok (.iload_n 1, 1) := by decide +kernel
theorem dX4_stepsOf_5 : decode cX4_stepsOf 5 = .ok (.invokevirtual 48, 3) := by decide +kernel
theorem dX4_stepsOf_8 : decode cX4_stepsOf 8 = .ok (.ireturn, 1) := by decide +kernel
abbrev cX4_stepAt : ByteArray := prog_6_method_6_code
def yX4_stepAt : MethodName := ⟨RX4, "stepAt", "(II)I"⟩
theorem dX4_stepAt_0 : decode cX4_stepAt 0 = .ok (.iload_n 1, 1) := by decide +kernel
theorem dX4_stepAt_1 : decode cX4_stepAt 1 = .ok (.iconst 5, 1) := by decide +kernel
theorem dX4_stepAt_2 : decode cX4_stepAt 2 = .ok (.imul, 1) := by decide +kernel
theorem dX4_stepAt_3 : decode cX4_stepAt 3 = .ok (.iload_n 2, 1) := by decide +kernel
theorem dX4_stepAt_4 : decode cX4_stepAt 4 = .ok (.iadd, 1) := by decide +kernel
theorem dX4_stepAt_5 : decode cX4_stepAt 5 = .ok (.ireturn, 1) := by decide +kernel
abbrev cX4_axisOf : ByteArray := prog_6_method_11_code
def yX4_axisOf : MethodName := ⟨RX4, "axisOf", "(I)I"⟩
theorem dX4_axisOf_0 : decode cX4_axisOf 0 = .ok (.aload_n 0, 1) := by decide +kernel
theorem dX4_axisOf_1 : decode cX4_axisOf 1 = .ok (.getfield 20, 3) := by decide +kernel
theorem dX4_axisOf_4 : decode cX4_axisOf 4 = .ok (.iload_n 1, 1) := by decide +kernel
theorem dX4_axisOf_5 : decode cX4_axisOf 5 = .ok (.invokevirtual 48, 3) := by decide +kernel
theorem dX4_axisOf_8 : decode cX4_axisOf 8 = .ok (.ireturn, 1) := by decide +kernel
abbrev cX4_repeatOf : ByteArray := prog_6_method_13_code
def yX4_repeatOf : MethodName := ⟨RX4, "repeatOf", "(I)I"⟩
theorem dX4_repeatOf_0 : decode cX4_repeatOf 0 = .ok (.aload_n 0, 1) := by decide +kernel
theorem dX4_repeatOf_1 : decode cX4_repeatOf 1 = .ok (.getfield 26, 3) := by decide +kernel
theorem dX4_repeatOf_4 : decode cX4_repeatOf 4 = .ok (.iload_n 1, 1) := by decide +kernel
theorem dX4_repeatOf_5 : decode cX4_repeatOf 5 = .ok (.invokevirtual 48, 3) := by decide +kernel
theorem dX4_repeatOf_8 : decode cX4_repeatOf 8 = .ok (.ireturn, 1) := by decide +kernel
abbrev cX4_testOf : ByteArray := prog_6_method_12_code
def yX4_testOf : MethodName := ⟨RX4, "testOf", "(I)I"⟩
theorem dX4_testOf_0 : decode cX4_testOf 0 = .ok (.aload_n 0, 1) := by decide +kernel
theorem dX4_testOf_1 : decode cX4_testOf 1 = .ok (.getfield 23, 3) := by decide +kernel
theorem dX4_testOf_4 : decode cX4_testOf 4 = .ok (.iload_n 1, 1) := by decide +kernel
theorem dX4_testOf_5 : decode cX4_testOf 5 = .ok (.invokevirtual 48, 3) := by decide +kernel
theorem dX4_testOf_8 : decode cX4_testOf 8 = .ok (.ireturn, 1) := by decide +kernel
abbrev cX3_reached : ByteArray := prog_5_method_25_code
def yX3_reached : MethodName := ⟨RX3, "reached", "(II)J"⟩
theorem dX3_reached_0 : decode cX3_reached 0 = .ok (.iload_n 1, 1) := by decide +kernel
theorem dX3_reached_1 : decode cX3_reached 1 = .ok (.tableswitch 270 0 11 #[63, 68, 86, 98, 116, 139, 148, 162, 195, 222, 242, 256], 63) := by decide +kernel
theorem dX3_reached_64 : decode cX3_reached 64 = .ok (.iload_n 2, 1) := by decide +kernel
theorem dX3_reached_65 : decode cX3_reached 65 = .ok (.invokestatic 80, 3) := by decide +kernel
theorem dX3_reached_68 : decode cX3_reached 68 = .ok (.lreturn, 1) := by decide +kernel
theorem dX3_reached_69 : decode cX3_reached 69 = .ok (.aload_n 0, 1) := by decide +kernel
theorem dX3_reached_70 : decode cX3_reached 70 = .ok (.getfield 37, 3) := by decide +kernel
theorem dX3_reached_73 : decode cX3_reached 73 = .ok (.iload_n 2, 1) := by decide +kernel
theorem dX3_reached_74 : decode cX3_reached 74 = .ok (.invokevirtual 76, 3) := by decide +kernel
theorem dX3_reached_77 : decode cX3_reached 77 = .ok (.aload_n 0, 1) := by decide +kernel
theorem dX3_reached_78 : decode cX3_reached 78 = .ok (.getfield 57, 3) := by decide +kernel
theorem dX3_reached_81 : decode cX3_reached 81 = .ok (.ldc2_w 99, 3) := by decide +kernel
theorem dX3_reached_84 : decode cX3_reached 84 = .ok (.lxor, 1) := by decide +kernel
theorem dX3_reached_85 : decode cX3_reached 85 = .ok (.land, 1) := by decide +kernel
theorem dX3_reached_86 : decode cX3_reached 86 = .ok (.lreturn, 1) := by decide +kernel
theorem dX3_reached_87 : decode cX3_reached 87 = .ok (.aload_n 0, 1) := by decide +kernel
theorem dX3_reached_88 : decode cX3_reached 88 = .ok (.getfield 23, 3) := by decide +kernel
theorem dX3_reached_91 : decode cX3_reached 91 = .ok (.iload_n 2, 1) := by decide +kernel
theorem dX3_reached_92 : decode cX3_reached 92 = .ok (.invokevirtual 88, 3) := by decide +kernel
theorem dX3_reached_95 : decode cX3_reached 95 = .ok (.invokestatic 80, 3) := by decide +kernel
theorem dX3_reached_98 : decode cX3_reached 98 = .ok (.lreturn, 1) := by decide +kernel
theorem dX3_reached_99 : decode cX3_reached 99 = .ok (.aload_n 0, 1) := by decide +kernel
theorem dX3_reached_100 : decode cX3_reached 100 = .ok (.getfield 47, 3) := by decide +kernel
theorem dX3_reached_103 : decode cX3_reached 103 = .ok (.iload_n 2, 1) := by decide +kernel
theorem dX3_reached_104 : decode cX3_reached 104 = .ok (.invokevirtual 76, 3) := by decide +kernel
theorem dX3_reached_107 : decode cX3_reached 107 = .ok (.aload_n 0, 1) := by decide +kernel
theorem dX3_reached_108 : decode cX3_reached 108 = .ok (.getfield 57, 3) := by decide +kernel
theorem dX3_reached_111 : decode cX3_reached 111 = .ok (.ldc2_w 99, 3) := by decide +kernel
theorem dX3_reached_114 : decode cX3_reached 114 = .ok (.lxor, 1) := by decide +kernel
theorem dX3_reached_115 : decode cX3_reached 115 = .ok (.land, 1) := by decide +kernel
theorem dX3_reached_116 : decode cX3_reached 116 = .ok (.lreturn, 1) := by decide +kernel
theorem dX3_reached_117 : decode cX3_reached 117 = .ok (.aload_n 0, 1) := by decide +kernel
theorem dX3_reached_118 : decode cX3_reached 118 = .ok (.getfield 47, 3) := by decide +kernel
theorem dX3_reached_121 : decode cX3_reached 121 = .ok (.iload_n 2, 1) := by decide +kernel
theorem dX3_reached_122 : decode cX3_reached 122 = .ok (.invokevirtual 76, 3) := by decide +kernel
theorem dX3_reached_125 : decode cX3_reached 125 = .ok (.aload_n 0, 1) := by decide +kernel
theorem dX3_reached_126 : decode cX3_reached 126 = .ok (.getfield 57, 3) := by decide +kernel
theorem dX3_reached_129 : decode cX3_reached 129 = .ok (.ldc2_w 99, 3) := by decide +kernel
theorem dX3_reached_132 : decode cX3_reached 132 = .ok (.lxor, 1) := by decide +kernel
theorem dX3_reached_133 : decode cX3_reached 133 = .ok (.land, 1) := by decide +kernel
theorem dX3_reached_134 : decode cX3_reached 134 = .ok (.iload_n 2, 1) := by decide +kernel
theorem dX3_reached_135 : decode cX3_reached 135 = .ok (.invokestatic 80, 3) := by decide +kernel
theorem dX3_reached_138 : decode cX3_reached 138 = .ok (.lor, 1) := by decide +kernel
theorem dX3_reached_139 : decode cX3_reached 139 = .ok (.lreturn, 1) := by decide +kernel
theorem dX3_reached_140 : decode cX3_reached 140 = .ok (.aload_n 0, 1) := by decide +kernel
theorem dX3_reached_141 : decode cX3_reached 141 = .ok (.getfield 44, 3) := by decide +kernel
theorem dX3_reached_144 : decode cX3_reached 144 = .ok (.iload_n 2, 1) := by decide +kernel
theorem dX3_reached_145 : decode cX3_reached 145 = .ok (.invokevirtual 76, 3) := by decide +kernel
theorem dX3_reached_148 : decode cX3_reached 148 = .ok (.lreturn, 1) := by decide +kernel
theorem dX3_reached_149 : decode cX3_reached 149 = .ok (.aload_n 0, 1) := by decide +kernel
theorem dX3_reached_150 : decode cX3_reached 150 = .ok (.getfield 44, 3) := by decide +kernel
theorem dX3_reached_153 : decode cX3_reached 153 = .ok (.iload_n 2, 1) := by decide +kernel
theorem dX3_reached_154 : decode cX3_reached 154 = .ok (.invokevirtual 76, 3) := by decide +kernel
theorem dX3_reached_157 : decode cX3_reached 157 = .ok (.iload_n 2, 1) := by decide +kernel
theorem dX3_reached_158 : decode cX3_reached 158 = .ok (.invokestatic 80, 3) := by decide +kernel
theorem dX3_reached_161 : decode cX3_reached 161 = .ok (.lor, 1) := by decide +kernel
theorem dX3_reached_162 : decode cX3_reached 162 = .ok (.lreturn, 1) := by decide +kernel
theorem dX3_reached_163 : decode cX3_reached 163 = .ok (.aload_n 0, 1) := by decide +kernel
theorem dX3_reached_164 : decode cX3_reached 164 = .ok (.getfield 60, 3) := by decide +kernel
theorem dX3_reached_167 : decode cX3_reached 167 = .ok (.invokestatic 97, 3) := by decide +kernel
theorem dX3_reached_170 : decode cX3_reached 170 = .ok (.aload_n 0, 1) := by decide +kernel
theorem dX3_reached_171 : decode cX3_reached 171 = .ok (.getfield 26, 3) := by decide +kernel
theorem dX3_reached_174 : decode cX3_reached 174 = .ok (.iload_n 2, 1) := by decide +kernel
theorem dX3_reached_175 : decode cX3_reached 175 = .ok (.invokevirtual 88, 3) := by decide +kernel
theorem dX3_reached_178 : decode cX3_reached 178 = .ok (.invokestatic 97, 3) := by decide +kernel
theorem dX3_reached_181 : decode cX3_reached 181 = .ok (.ldc2_w 99, 3) := by decide +kernel
theorem dX3_reached_184 : decode cX3_reached 184 = .ok (.lxor, 1) := by decide +kernel
theorem dX3_reached_185 : decode cX3_reached 185 = .ok (.land, 1) := by decide +kernel
theorem dX3_reached_186 : decode cX3_reached 186 = .ok (.aload_n 0, 1) := by decide +kernel
theorem dX3_reached_187 : decode cX3_reached 187 = .ok (.getfield 57, 3) := by decide +kernel
theorem dX3_reached_190 : decode cX3_reached 190 = .ok (.ldc2_w 99, 3) := by decide +kernel
theorem dX3_reached_193 : decode cX3_reached 193 = .ok (.lxor, 1) := by decide +kernel
theorem dX3_reached_194 : decode cX3_reached 194 = .ok (.land, 1) := by decide +kernel
theorem dX3_reached_195 : decode cX3_reached 195 = .ok (.lreturn, 1) := by decide +kernel
theorem dX3_reached_196 : decode cX3_reached 196 = .ok (.iload_n 2, 1) := by decide +kernel
theorem dX3_reached_197 : decode cX3_reached 197 = .ok (.invokestatic 97, 3) := by decide +kernel
theorem dX3_reached_200 : decode cX3_reached 200 = .ok (.aload_n 0, 1) := by decide +kernel
theorem dX3_reached_201 : decode cX3_reached 201 = .ok (.getfield 57, 3) := by decide +kernel
theorem dX3_reached_204 : decode cX3_reached 204 = .ok (.ldc2_w 99, 3) := by decide +kernel
theorem dX3_reached_207 : decode cX3_reached 207 = .ok (.lxor, 1) := by decide +kernel
theorem dX3_reached_208 : decode cX3_reached 208 = .ok (.land, 1) := by decide +kernel
theorem dX3_reached_209 : decode cX3_reached 209 = .ok (.aload_n 0, 1) := by decide +kernel
theorem dX3_reached_210 : decode cX3_reached 210 = .ok (.getfield 44, 3) := by decide +kernel
theorem dX3_reached_213 : decode cX3_reached 213 = .ok (.iload_n 2, 1) := by decide +kernel
theorem dX3_reached_214 : decode cX3_reached 214 = .ok (.invokevirtual 76, 3) := by decide +kernel
theorem dX3_reached_217 : decode cX3_reached 217 = .ok (.ldc2_w 99, 3) := by decide +kernel
theorem dX3_reached_220 : decode cX3_reached 220 = .ok (.lxor, 1) := by decide +kernel
theorem dX3_reached_221 : decode cX3_reached 221 = .ok (.land, 1) := by decide +kernel
theorem dX3_reached_222 : decode cX3_reached 222 = .ok (.lreturn, 1) := by decide +kernel
theorem dX3_reached_223 : decode cX3_reached 223 = .ok (.aload_n 0, 1) := by decide +kernel
theorem dX3_reached_224 : decode cX3_reached 224 = .ok (.getfield 41, 3) := by decide +kernel
theorem dX3_reached_227 : decode cX3_reached 227 = .ok (.iload_n 2, 1) := by decide +kernel
theorem dX3_reached_228 : decode cX3_reached 228 = .ok (.invokevirtual 76, 3) := by decide +kernel
theorem dX3_reached_231 : decode cX3_reached 231 = .ok (.iload_n 2, 1) := by decide +kernel
theorem dX3_reached_232 : decode cX3_reached 232 = .ok (.iconst 1, 1) := by decide +kernel
theorem dX3_reached_233 : decode cX3_reached 233 = .ok (.iadd, 1) := by decide +kernel
theorem dX3_reached_234 : decode cX3_reached 234 = .ok (.invokestatic 97, 3) := by decide +kernel
theorem dX3_reached_237 : decode cX3_reached 237 = .ok (.ldc2_w 99, 3) := by decide +kernel
theorem dX3_reached_240 : decode cX3_reached 240 = .ok (.lxor, 1) := by decide +kernel
theorem dX3_reached_241 : decode cX3_reached 241 = .ok (.land, 1) := by decide +kernel
theorem dX3_reached_242 : decode cX3_reached 242 = .ok (.lreturn, 1) := by decide +kernel
theorem dX3_reached_243 : decode cX3_reached 243 = .ok (.aload_n 0, 1) := by decide +kernel
theorem dX3_reached_244 : decode cX3_reached 244 = .ok (.getfield 41, 3) := by decide +kernel
theorem dX3_reached_247 : decode cX3_reached 247 = .ok (.iload_n 2, 1) := by decide +kernel
theorem dX3_reached_248 : decode cX3_reached 248 = .ok (.invokevirtual 76, 3) := by decide +kernel
theorem dX3_reached_251 : decode cX3_reached 251 = .ok (.iload_n 2, 1) := by decide +kernel
theorem dX3_reached_252 : decode cX3_reached 252 = .ok (.invokestatic 97, 3) := by decide +kernel
theorem dX3_reached_255 : decode cX3_reached 255 = .ok (.land, 1) := by decide +kernel
theorem dX3_reached_256 : decode cX3_reached 256 = .ok (.lreturn, 1) := by decide +kernel
theorem dX3_reached_257 : decode cX3_reached 257 = .ok (.aload_n 0, 1) := by decide +kernel
theorem dX3_reached_258 : decode cX3_reached 258 = .ok (.getfield 37, 3) := by decide +kernel
theorem dX3_reached_261 : decode cX3_reached 261 = .ok (.iload_n 2, 1) := by decide +kernel
theorem dX3_reached_262 : decode cX3_reached 262 = .ok (.invokevirtual 76, 3) := by decide +kernel
theorem dX3_reached_265 : decode cX3_reached 265 = .ok (.aload_n 0, 1) := by decide +kernel
theorem dX3_reached_266 : decode cX3_reached 266 = .ok (.getfield 57, 3) := by decide +kernel
theorem dX3_reached_269 : decode cX3_reached 269 = .ok (.land, 1) := by decide +kernel
theorem dX3_reached_270 : decode cX3_reached 270 = .ok (.lreturn, 1) := by decide +kernel
theorem dX3_reached_271 : decode cX3_reached 271 = .ok (.lconst 0, 1) := by decide +kernel
theorem dX3_reached_272 : decode cX3_reached 272 = .ok (.lreturn, 1) := by decide +kernel
abbrev cX4_conditionsOf : ByteArray := prog_6_method_9_code
def yX4_conditionsOf : MethodName := ⟨RX4, "conditionsOf", "(I)I"⟩
theorem dX4_conditionsOf_0 : decode cX4_conditionsOf 0 = .ok (.aload_n 0, 1) := by decide +kernel
theorem dX4_conditionsOf_1 : decode cX4_conditionsOf 1 = .ok (.getfield 29, 3) := by decide +kernel
theorem dX4_conditionsOf_4 : decode cX4_conditionsOf 4 = .ok (.iload_n 1, 1) := by decide +kernel
theorem dX4_conditionsOf_5 : decode cX4_conditionsOf 5 = .ok (.invokevirtual 48, 3) := by decide +kernel
theorem dX4_conditionsOf_8 : decode cX4_conditionsOf 8 = .ok (.ireturn, 1) := by decide +kernel
abbrev cX4_conditionAt : ByteArray := prog_6_method_7_code
def yX4_conditionAt : MethodName := ⟨RX4, "conditionAt", "(II)I"⟩
theorem dX4_conditionAt_0 : decode cX4_conditionAt 0 = .ok (.iload_n 1, 1) := by decide +kernel
theorem dX4_conditionAt_1 : decode cX4_conditionAt 1 = .ok (.iconst 2, 1) := by decide +kernel
theorem dX4_conditionAt_2 : decode cX4_conditionAt 2 = .ok (.imul, 1) := by decide +kernel
theorem dX4_conditionAt_3 : decode cX4_conditionAt 3 = .ok (.iload_n 2, 1) := by decide +kernel
theorem dX4_conditionAt_4 : decode cX4_conditionAt 4 = .ok (.iadd, 1) := by decide +kernel
theorem dX4_conditionAt_5 : decode cX4_conditionAt 5 = .ok (.ireturn, 1) := by decide +kernel
abbrev cX4_whatOf : ByteArray := prog_6_method_14_code
def yX4_whatOf : MethodName := ⟨RX4, "whatOf", "(I)I"⟩
theorem dX4_whatOf_0 : decode cX4_whatOf 0 = .ok (.aload_n 0, 1) := by decide +kernel
theorem dX4_whatOf_1 : decode cX4_whatOf 1 = .ok (.getfield 32, 3) := by decide +kernel
theorem dX4_whatOf_4 : decode cX4_whatOf 4 = .ok (.iload_n 1, 1) := by decide +kernel
theorem dX4_whatOf_5 : decode cX4_whatOf 5 = .ok (.invokevirtual 48, 3) := by decide +kernel
theorem dX4_whatOf_8 : decode cX4_whatOf 8 = .ok (.ireturn, 1) := by decide +kernel
abbrev cX4_comparisonOf : ByteArray := prog_6_method_16_code
def yX4_comparisonOf : MethodName := ⟨RX4, "comparisonOf", "(I)I"⟩
theorem dX4_comparisonOf_0 : decode cX4_comparisonOf 0 = .ok (.aload_n 0, 1) := by decide +kernel
theorem dX4_comparisonOf_1 : decode cX4_comparisonOf 1 = .ok (.getfield 38, 3) := by decide +kernel
theorem dX4_comparisonOf_4 : decode cX4_comparisonOf 4 = .ok (.iload_n 1, 1) := by decide +kernel
theorem dX4_comparisonOf_5 : decode cX4_comparisonOf 5 = .ok (.invokevirtual 48, 3) := by decide +kernel
theorem dX4_comparisonOf_8 : decode cX4_comparisonOf 8 = .ok (.ireturn, 1) := by decide +kernel
abbrev cX4_numberOf : ByteArray := prog_6_method_17_code
def yX4_numberOf : MethodName := ⟨RX4, "numberOf", "(I)I"⟩
theorem dX4_numberOf_0 : decode cX4_numberOf 0 = .ok (.aload_n 0, 1) := by decide +kernel
theorem dX4_numberOf_1 : decode cX4_numberOf 1 = .ok (.getfield 41, 3) := by decide +kernel
theorem dX4_numberOf_4 : decode cX4_numberOf 4 = .ok (.iload_n 1, 1) := by decide +kernel
theorem dX4_numberOf_5 : decode cX4_numberOf 5 = .ok (.invokevirtual 48, 3) := by decide +kernel
theorem dX4_numberOf_8 : decode cX4_numberOf 8 = .ok (.ireturn, 1) := by decide +kernel
abbrev cX4_otherOf : ByteArray := prog_6_method_15_code
def yX4_otherOf : MethodName := ⟨RX4, "otherOf", "(I)I"⟩
theorem dX4_otherOf_0 : decode cX4_otherOf 0 = .ok (.aload_n 0, 1) := by decide +kernel
theorem dX4_otherOf_1 : decode cX4_otherOf 1 = .ok (.getfield 35, 3) := by decide +kernel
theorem dX4_otherOf_4 : decode cX4_otherOf 4 = .ok (.iload_n 1, 1) := by decide +kernel
theorem dX4_otherOf_5 : decode cX4_otherOf 5 = .ok (.invokevirtual 48, 3) := by decide +kernel
theorem dX4_otherOf_8 : decode cX4_otherOf 8 = .ok (.ireturn, 1) := by decide +kernel
abbrev cX3_init : ByteArray := prog_5_method_1_code
def yX3_init : MethodName := ⟨RX3, "<init>", "()V"⟩
theorem dX3_init_0 : decode cX3_init 0 = .ok (.aload_n 0, 1) := by decide +kernel
theorem dX3_init_1 : decode cX3_init 1 = .ok (.invokespecial 3, 3) := by decide +kernel
theorem dX3_init_4 : decode cX3_init 4 = .ok (.aload_n 0, 1) := by decide +kernel
theorem dX3_init_5 : decode cX3_init 5 = .ok (.new 9, 3) := by decide +kernel
theorem dX3_init_8 : decode cX3_init 8 = .ok (.dup, 1) := by decide +kernel
theorem dX3_init_9 : decode cX3_init 9 = .ok (.bipush 60, 2) := by decide +kernel
theorem dX3_init_11 : decode cX3_init 11 = .ok (.iconst (-1), 1) := by decide +kernel
theorem dX3_init_12 : decode cX3_init 12 = .ok (.invokespecial 11, 3) := by decide +kernel
theorem dX3_init_15 : decode cX3_init 15 = .ok (.putfield 14, 3) := by decide +kernel
theorem dX3_init_18 : decode cX3_init 18 = .ok (.aload_n 0, 1) := by decide +kernel
theorem dX3_init_19 : decode cX3_init 19 = .ok (.new 9, 3) := by decide +kernel
theorem dX3_init_22 : decode cX3_init 22 = .ok (.dup, 1) := by decide +kernel
theorem dX3_init_23 : decode cX3_init 23 = .ok (.bipush 60, 2) := by decide +kernel
theorem dX3_init_25 : decode cX3_init 25 = .ok (.iconst (-1), 1) := by decide +kernel
theorem dX3_init_26 : decode cX3_init 26 = .ok (.invokespecial 11, 3) := by decide +kernel
theorem dX3_init_29 : decode cX3_init 29 = .ok (.putfield 20, 3) := by decide +kernel
theorem dX3_init_32 : decode cX3_init 32 = .ok (.aload_n 0, 1) := by decide +kernel
theorem dX3_init_33 : decode cX3_init 33 = .ok (.new 9, 3) := by decide +kernel
theorem dX3_init_36 : decode cX3_init 36 = .ok (.dup, 1) := by decide +kernel
theorem dX3_init_37 : decode cX3_init 37 = .ok (.bipush 60, 2) := by decide +kernel
theorem dX3_init_39 : decode cX3_init 39 = .ok (.iconst (-1), 1) := by decide +kernel
theorem dX3_init_40 : decode cX3_init 40 = .ok (.invokespecial 11, 3) := by decide +kernel
theorem dX3_init_43 : decode cX3_init 43 = .ok (.putfield 23, 3) := by decide +kernel
theorem dX3_init_46 : decode cX3_init 46 = .ok (.aload_n 0, 1) := by decide +kernel
theorem dX3_init_47 : decode cX3_init 47 = .ok (.new 9, 3) := by decide +kernel
theorem dX3_init_50 : decode cX3_init 50 = .ok (.dup, 1) := by decide +kernel
theorem dX3_init_51 : decode cX3_init 51 = .ok (.bipush 60, 2) := by decide +kernel
theorem dX3_init_53 : decode cX3_init 53 = .ok (.iconst 0, 1) := by decide +kernel
theorem dX3_init_54 : decode cX3_init 54 = .ok (.invokespecial 11, 3) := by decide +kernel
theorem dX3_init_57 : decode cX3_init 57 = .ok (.putfield 26, 3) := by decide +kernel
theorem dX3_init_60 : decode cX3_init 60 = .ok (.aload_n 0, 1) := by decide +kernel
theorem dX3_init_61 : decode cX3_init 61 = .ok (.new 9, 3) := by decide +kernel
theorem dX3_init_64 : decode cX3_init 64 = .ok (.dup, 1) := by decide +kernel
theorem dX3_init_65 : decode cX3_init 65 = .ok (.bipush 60, 2) := by decide +kernel
theorem dX3_init_67 : decode cX3_init 67 = .ok (.iconst (-1), 1) := by decide +kernel
theorem dX3_init_68 : decode cX3_init 68 = .ok (.invokespecial 11, 3) := by decide +kernel
theorem dX3_init_71 : decode cX3_init 71 = .ok (.putfield 29, 3) := by decide +kernel
theorem dX3_init_74 : decode cX3_init 74 = .ok (.aload_n 0, 1) := by decide +kernel
theorem dX3_init_75 : decode cX3_init 75 = .ok (.new 32, 3) := by decide +kernel
theorem dX3_init_78 : decode cX3_init 78 = .ok (.dup, 1) := by decide +kernel
theorem dX3_init_79 : decode cX3_init 79 = .ok (.bipush 60, 2) := by decide +kernel
theorem dX3_init_81 : decode cX3_init 81 = .ok (.invokespecial 34, 3) := by decide +kernel
theorem dX3_init_84 : decode cX3_init 84 = .ok (.putfield 37, 3) := by decide +kernel
theorem dX3_init_87 : decode cX3_init 87 = .ok (.aload_n 0, 1) := by decide +kernel
theorem dX3_init_88 : decode cX3_init 88 = .ok (.new 32, 3) := by decide +kernel
theorem dX3_init_91 : decode cX3_init 91 = .ok (.dup, 1) := by decide +kernel
theorem dX3_init_92 : decode cX3_init 92 = .ok (.bipush 60, 2) := by decide +kernel
theorem dX3_init_94 : decode cX3_init 94 = .ok (.invokespecial 34, 3) := by decide +kernel
theorem dX3_init_97 : decode cX3_init 97 = .ok (.putfield 41, 3) := by decide +kernel
theorem dX3_init_100 : decode cX3_init 100 = .ok (.aload_n 0, 1) := by decide +kernel
theorem dX3_init_101 : decode cX3_init 101 = .ok (.new 32, 3) := by decide +kernel
theorem dX3_init_104 : decode cX3_init 104 = .ok (.dup, 1) := by decide +kernel
theorem dX3_init_105 : decode cX3_init 105 = .ok (.bipush 60, 2) := by decide +kernel
theorem dX3_init_107 : decode cX3_init 107 = .ok (.invokespecial 34, 3) := by decide +kernel
theorem dX3_init_110 : decode cX3_init 110 = .ok (.putfield 44, 3) := by decide +kernel
theorem dX3_init_113 : decode cX3_init 113 = .ok (.aload_n 0, 1) := by decide +kernel
theorem dX3_init_114 : decode cX3_init 114 = .ok (.new 32, 3) := by decide +kernel
theorem dX3_init_117 : decode cX3_init 117 = .ok (.dup, 1) := by decide +kernel
theorem dX3_init_118 : decode cX3_init 118 = .ok (.bipush 60, 2) := by decide +kernel
theorem dX3_init_120 : decode cX3_init 120 = .ok (.invokespecial 34, 3) := by decide +kernel
theorem dX3_init_123 : decode cX3_init 123 = .ok (.putfield 47, 3) := by decide +kernel
theorem dX3_init_126 : decode cX3_init 126 = .ok (.aload_n 0, 1) := by decide +kernel
theorem dX3_init_127 : decode cX3_init 127 = .ok (.new 32, 3) := by decide +kernel
theorem dX3_init_130 : decode cX3_init 130 = .ok (.dup, 1) := by decide +kernel
theorem dX3_init_131 : decode cX3_init 131 = .ok (.bipush 14, 2) := by decide +kernel
theorem dX3_init_133 : decode cX3_init 133 = .ok (.invokespecial 34, 3) := by decide +kernel
theorem dX3_init_136 : decode cX3_init 136 = .ok (.putfield 50, 3) := by decide +kernel
theorem dX3_init_139 : decode cX3_init 139 = .ok (.aload_n 0, 1) := by decide +kernel
theorem dX3_init_140 : decode cX3_init 140 = .ok (.lconst 0, 1) := by decide +kernel
theorem dX3_init_141 : decode cX3_init 141 = .ok (.putfield 53, 3) := by decide +kernel
theorem dX3_init_144 : decode cX3_init 144 = .ok (.aload_n 0, 1) := by decide +kernel
theorem dX3_init_145 : decode cX3_init 145 = .ok (.lconst 0, 1) := by decide +kernel
theorem dX3_init_146 : decode cX3_init 146 = .ok (.putfield 57, 3) := by decide +kernel
theorem dX3_init_149 : decode cX3_init 149 = .ok (.aload_n 0, 1) := by decide +kernel
theorem dX3_init_150 : decode cX3_init 150 = .ok (.iconst 0, 1) := by decide +kernel
theorem dX3_init_151 : decode cX3_init 151 = .ok (.putfield 60, 3) := by decide +kernel
theorem dX3_init_154 : decode cX3_init 154 = .ok (.return_, 1) := by decide +kernel
abbrev cX3_clear : ByteArray := prog_5_method_2_code
def yX3_clear : MethodName := ⟨RX3, "clear", "()V"⟩
theorem dX3_clear_0 : decode cX3_clear 0 = .ok (.aload_n 0, 1) := by decide +kernel
theorem dX3_clear_1 : decode cX3_clear 1 = .ok (.getfield 20, 3) := by decide +kernel
theorem dX3_clear_4 : decode cX3_clear 4 = .ok (.iconst (-1), 1) := by decide +kernel
theorem dX3_clear_5 : decode cX3_clear 5 = .ok (.invokevirtual 64, 3) := by decide +kernel
theorem dX3_clear_8 : decode cX3_clear 8 = .ok (.aload_n 0, 1) := by decide +kernel
theorem dX3_clear_9 : decode cX3_clear 9 = .ok (.getfield 37, 3) := by decide +kernel
theorem dX3_clear_12 : decode cX3_clear 12 = .ok (.invokevirtual 67, 3) := by decide +kernel
theorem dX3_clear_15 : decode cX3_clear 15 = .ok (.aload_n 0, 1) := by decide +kernel
theorem dX3_clear_16 : decode cX3_clear 16 = .ok (.getfield 50, 3) := by decide +kernel
theorem dX3_clear_19 : decode cX3_clear 19 = .ok (.invokevirtual 67, 3) := by decide +kernel
theorem dX3_clear_22 : decode cX3_clear 22 = .ok (.aload_n 0, 1) := by decide +kernel
theorem dX3_clear_23 : decode cX3_clear 23 = .ok (.lconst 0, 1) := by decide +kernel
theorem dX3_clear_24 : decode cX3_clear 24 = .ok (.putfield 53, 3) := by decide +kernel
theorem dX3_clear_27 : decode cX3_clear 27 = .ok (.aload_n 0, 1) := by decide +kernel
theorem dX3_clear_28 : decode cX3_clear 28 = .ok (.lconst 0, 1) := by decide +kernel
theorem dX3_clear_29 : decode cX3_clear 29 = .ok (.putfield 57, 3) := by decide +kernel
theorem dX3_clear_32 : decode cX3_clear 32 = .ok (.aload_n 0, 1) := by decide +kernel
theorem dX3_clear_33 : decode cX3_clear 33 = .ok (.iconst 0, 1) := by decide +kernel
theorem dX3_clear_34 : decode cX3_clear 34 = .ok (.putfield 60, 3) := by decide +kernel
theorem dX3_clear_37 : decode cX3_clear 37 = .ok (.return_, 1) := by decide +kernel
abbrev cX3_add : ByteArray := prog_5_method_3_code
def yX3_add : MethodName := ⟨RX3, "add", "(IIIII)V"⟩
theorem dX3_add_0 : decode cX3_add 0 = .ok (.aload_n 0, 1) := by decide +kernel
theorem dX3_add_1 : decode cX3_add 1 = .ok (.getfield 60, 3) := by decide +kernel
theorem dX3_add_4 : decode cX3_add 4 = .ok (.istore 6, 2) := by decide +kernel
theorem dX3_add_6 : decode cX3_add 6 = .ok (.aload_n 0, 1) := by decide +kernel
theorem dX3_add_7 : decode cX3_add 7 = .ok (.dup, 1) := by decide +kernel
theorem dX3_add_8 : decode cX3_add 8 = .ok (.getfield 60, 3) := by decide +kernel
theorem dX3_add_11 : decode cX3_add 11 = .ok (.iconst 1, 1) := by decide +kernel
theorem dX3_add_12 : decode cX3_add 12 = .ok (.iadd, 1) := by decide +kernel
theorem dX3_add_13 : decode cX3_add 13 = .ok (.putfield 60, 3) := by decide +kernel
theorem dX3_add_16 : decode cX3_add 16 = .ok (.aload_n 0, 1) := by decide +kernel
theorem dX3_add_17 : decode cX3_add 17 = .ok (.getfield 14, 3) := by decide +kernel
theorem dX3_add_20 : decode cX3_add 20 = .ok (.iload 6, 2) := by decide +kernel
theorem dX3_add_22 : decode cX3_add 22 = .ok (.iload_n 1, 1) := by decide +kernel
theorem dX3_add_23 : decode cX3_add 23 = .ok (.invokevirtual 70, 3) := by decide +kernel
theorem dX3_add_26 : decode cX3_add 26 = .ok (.aload_n 0, 1) := by decide +kernel
theorem dX3_add_27 : decode cX3_add 27 = .ok (.getfield 20, 3) := by decide +kernel
theorem dX3_add_30 : decode cX3_add 30 = .ok (.iload_n 1, 1) := by decide +kernel
theorem dX3_add_31 : decode cX3_add 31 = .ok (.iload 6, 2) := by decide +kernel
theorem dX3_add_33 : decode cX3_add 33 = .ok (.invokevirtual 70, 3) := by decide +kernel
theorem dX3_add_36 : decode cX3_add 36 = .ok (.aload_n 0, 1) := by decide +kernel
theorem dX3_add_37 : decode cX3_add 37 = .ok (.getfield 23, 3) := by decide +kernel
theorem dX3_add_40 : decode cX3_add 40 = .ok (.iload 6, 2) := by decide +kernel
theorem dX3_add_42 : decode cX3_add 42 = .ok (.iload_n 2, 1) := by decide +kernel
theorem dX3_add_43 : decode cX3_add 43 = .ok (.invokevirtual 70, 3) := by decide +kernel
theorem dX3_add_46 : decode cX3_add 46 = .ok (.aload_n 0, 1) := by decide +kernel
theorem dX3_add_47 : decode cX3_add 47 = .ok (.getfield 37, 3) := by decide +kernel
theorem dX3_add_50 : decode cX3_add 50 = .ok (.iload_n 2, 1) := by decide +kernel
theorem dX3_add_51 : decode cX3_add 51 = .ok (.iload 6, 2) := by decide +kernel
theorem dX3_add_53 : decode cX3_add 53 = .ok (.invokevirtual 73, 3) := by decide +kernel
theorem dX3_add_56 : decode cX3_add 56 = .ok (.aload_n 0, 1) := by decide +kernel
theorem dX3_add_57 : decode cX3_add 57 = .ok (.getfield 44, 3) := by decide +kernel
theorem dX3_add_60 : decode cX3_add 60 = .ok (.iload 6, 2) := by decide +kernel
theorem dX3_add_62 : decode cX3_add 62 = .ok (.aload_n 0, 1) := by decide +kernel
theorem dX3_add_63 : decode cX3_add 63 = .ok (.getfield 44, 3) := by decide +kernel
theorem dX3_add_66 : decode cX3_add 66 = .ok (.iload_n 2, 1) := by decide +kernel
theorem dX3_add_67 : decode cX3_add 67 = .ok (.invokevirtual 76, 3) := by decide +kernel
theorem dX3_add_70 : decode cX3_add 70 = .ok (.iload_n 2, 1) := by decide +kernel
theorem dX3_add_71 : decode cX3_add 71 = .ok (.invokestatic 80, 3) := by decide +kernel
theorem dX3_add_74 : decode cX3_add 74 = .ok (.lor, 1) := by decide +kernel
theorem dX3_add_75 : decode cX3_add 75 = .ok (.invokevirtual 85, 3) := by decide +kernel
theorem dX3_add_78 : decode cX3_add 78 = .ok (.aload_n 0, 1) := by decide +kernel
theorem dX3_add_79 : decode cX3_add 79 = .ok (.getfield 26, 3) := by decide +kernel
theorem dX3_add_82 : decode cX3_add 82 = .ok (.iload 6, 2) := by decide +kernel
theorem dX3_add_84 : decode cX3_add 84 = .ok (.iload 6, 2) := by decide +kernel
theorem dX3_add_86 : decode cX3_add 86 = .ok (.iconst 1, 1) := by decide +kernel
theorem dX3_add_87 : decode cX3_add 87 = .ok (.iadd, 1) := by decide +kernel
theorem dX3_add_88 : decode cX3_add 88 = .ok (.invokevirtual 70, 3) := by decide +kernel
theorem dX3_add_91 : decode cX3_add 91 = .ok (.aload_n 0, 1) := by decide +kernel
theorem dX3_add_92 : decode cX3_add 92 = .ok (.getfield 29, 3) := by decide +kernel
theorem dX3_add_95 : decode cX3_add 95 = .ok (.iload 6, 2) := by decide +kernel
theorem dX3_add_97 : decode cX3_add 97 = .ok (.iconst (-1), 1) := by decide +kernel
theorem dX3_add_98 : decode cX3_add 98 = .ok (.invokevirtual 70, 3) := by decide +kernel
theorem dX3_add_101 : decode cX3_add 101 = .ok (.aload_n 0, 1) := by decide +kernel
theorem dX3_add_102 : decode cX3_add 102 = .ok (.getfield 50, 3) := by decide +kernel
theorem dX3_add_105 : decode cX3_add 105 = .ok (.bipush 8, 2) := by decide +kernel
theorem dX3_add_107 : decode cX3_add 107 = .ok (.iload 6, 2) := by decide +kernel
theorem dX3_add_109 : decode cX3_add 109 = .ok (.invokevirtual 73, 3) := by decide +kernel
theorem dX3_add_112 : decode cX3_add 112 = .ok (.iload_n 3, 1) := by decide +kernel
theorem dX3_add_113 : decode cX3_add 113 = .ok (.iconst 1, 1) := by decide +kernel
theorem dX3_add_114 : decode cX3_add 114 = .ok (.if_icmp .ne 15, 3) := by decide +kernel
theorem dX3_add_117 : decode cX3_add 117 = .ok (.aload_n 0, 1) := by decide +kernel
theorem dX3_add_118 : decode cX3_add 118 = .ok (.getfield 50, 3) := by decide +kernel
theorem dX3_add_121 : decode cX3_add 121 = .ok (.bipush 9, 2) := by decide +kernel
theorem dX3_add_123 : decode cX3_add 123 = .ok (.iload 6, 2) := by decide +kernel
theorem dX3_add_125 : decode cX3_add 125 = .ok (.invokevirtual 73, 3) := by decide +kernel
theorem dX3_add_128 : decode cX3_add 128 = .ok (.return_, 1) := by decide +kernel
theorem dX3_add_129 : decode cX3_add 129 = .ok (.aload_n 0, 1) := by decide +kernel
theorem dX3_add_130 : decode cX3_add 130 = .ok (.getfield 50, 3) := by decide +kernel
theorem dX3_add_133 : decode cX3_add 133 = .ok (.iload 4, 2) := by decide +kernel
theorem dX3_add_135 : decode cX3_add 135 = .ok (.iload 6, 2) := by decide +kernel
theorem dX3_add_137 : decode cX3_add 137 = .ok (.invokevirtual 73, 3) := by decide +kernel
theorem dX3_add_140 : decode cX3_add 140 = .ok (.iload_n 3, 1) := by decide +kernel
theorem dX3_add_141 : decode cX3_add 141 = .ok (.iconst 2, 1) := by decide +kernel
theorem dX3_add_142 : decode cX3_add 142 = .ok (.if_icmp .ne 18, 3) := by decide +kernel
theorem dX3_add_145 : decode cX3_add 145 = .ok (.aload_n 0, 1) := by decide +kernel
theorem dX3_add_146 : decode cX3_add 146 = .ok (.dup, 1) := by decide +kernel
theorem dX3_add_147 : decode cX3_add 147 = .ok (.getfield 57, 3) := by decide +kernel
theorem dX3_add_150 : decode cX3_add 150 = .ok (.iload 6, 2) := by decide +kernel
theorem dX3_add_152 : decode cX3_add 152 = .ok (.invokestatic 80, 3) := by decide +kernel
theorem dX3_add_155 : decode cX3_add 155 = .ok (.lor, 1) := by decide +kernel
theorem dX3_add_156 : decode cX3_add 156 = .ok (.putfield 57, 3) := by decide +kernel
theorem dX3_add_159 : decode cX3_add 159 = .ok (.return_, 1) := by decide +kernel
theorem dX3_add_160 : decode cX3_add 160 = .ok (.aload_n 0, 1) := by decide +kernel
theorem dX3_add_161 : decode cX3_add 161 = .ok (.dup, 1) := by decide +kernel
theorem dX3_add_162 : decode cX3_add 162 = .ok (.getfield 53, 3) := by decide +kernel
theorem dX3_add_165 : decode cX3_add 165 = .ok (.iload 6, 2) := by decide +kernel
theorem dX3_add_167 : decode cX3_add 167 = .ok (.invokestatic 80, 3) := by decide +kernel
theorem dX3_add_170 : decode cX3_add 170 = .ok (.lor, 1) := by decide +kernel
theorem dX3_add_171 : decode cX3_add 171 = .ok (.putfield 53, 3) := by decide +kernel
theorem dX3_add_174 : decode cX3_add 174 = .ok (.iload 5, 2) := by decide +kernel
theorem dX3_add_176 : decode cX3_add 176 = .ok (.iconst (-1), 1) := by decide +kernel
theorem dX3_add_177 : decode cX3_add 177 = .ok (.if_icmp .eq 8, 3) := by decide +kernel
theorem dX3_add_180 : decode cX3_add 180 = .ok (.iload 5, 2) := by decide +kernel
theorem dX3_add_182 : decode cX3_add 182 = .ok (.goto 20, 3) := by decide +kernel
theorem dX3_add_185 : decode cX3_add 185 = .ok (.iload_n 2, 1) := by decide +kernel
theorem dX3_add_186 : decode cX3_add 186 = .ok (.iconst (-1), 1) := by decide +kernel
theorem dX3_add_187 : decode cX3_add 187 = .ok (.if_icmp .eq 14, 3) := by decide +kernel
theorem dX3_add_190 : decode cX3_add 190 = .ok (.aload_n 0, 1) := by decide +kernel
theorem dX3_add_191 : decode cX3_add 191 = .ok (.getfield 29, 3) := by decide +kernel
theorem dX3_add_194 : decode cX3_add 194 = .ok (.iload_n 2, 1) := by decide +kernel
theorem dX3_add_195 : decode cX3_add 195 = .ok (.invokevirtual 88, 3) := by decide +kernel
theorem dX3_add_198 : decode cX3_add 198 = .ok (.goto 4, 3) := by decide +kernel
theorem dX3_add_201 : decode cX3_add 201 = .ok (.iconst 0, 1) := by decide +kernel
theorem dX3_add_202 : decode cX3_add 202 = .ok (.istore 7, 2) := by decide +kernel
theorem dX3_add_204 : decode cX3_add 204 = .ok (.aload_n 0, 1) := by decide +kernel
theorem dX3_add_205 : decode cX3_add 205 = .ok (.getfield 29, 3) := by decide +kernel
theorem dX3_add_208 : decode cX3_add 208 = .ok (.iload 6, 2) := by decide +kernel
theorem dX3_add_210 : decode cX3_add 210 = .ok (.iload 7, 2) := by decide +kernel
theorem dX3_add_212 : decode cX3_add 212 = .ok (.invokevirtual 70, 3) := by decide +kernel
theorem dX3_add_215 : decode cX3_add 215 = .ok (.aload_n 0, 1) := by decide +kernel
theorem dX3_add_216 : decode cX3_add 216 = .ok (.getfield 50, 3) := by decide +kernel
theorem dX3_add_219 : decode cX3_add 219 = .ok (.bipush 10, 2) := by decide +kernel
theorem dX3_add_221 : decode cX3_add 221 = .ok (.iload 7, 2) := by decide +kernel
theorem dX3_add_223 : decode cX3_add 223 = .ok (.iadd, 1) := by decide +kernel
theorem dX3_add_224 : decode cX3_add 224 = .ok (.iload 6, 2) := by decide +kernel
theorem dX3_add_226 : decode cX3_add 226 = .ok (.invokevirtual 73, 3) := by decide +kernel
theorem dX3_add_229 : decode cX3_add 229 = .ok (.return_, 1) := by decide +kernel
abbrev cX3_children : ByteArray := prog_5_method_18_code
def yX3_children : MethodName := ⟨RX3, "children", "(I)J"⟩
theorem dX3_children_0 : decode cX3_children 0 = .ok (.aload_n 0, 1) := by decide +kernel
theorem dX3_children_1 : decode cX3_children 1 = .ok (.getfield 37, 3) := by decide +kernel
theorem dX3_children_4 : decode cX3_children 4 = .ok (.iload_n 1, 1) := by decide +kernel
theorem dX3_children_5 : decode cX3_children 5 = .ok (.invokevirtual 76, 3) := by decide +kernel
theorem dX3_children_8 : decode cX3_children 8 = .ok (.aload_n 0, 1) := by decide +kernel
theorem dX3_children_9 : decode cX3_children 9 = .ok (.getfield 57, 3) := by decide +kernel
theorem dX3_children_12 : decode cX3_children 12 = .ok (.ldc2_w 99, 3) := by decide +kernel
theorem dX3_children_15 : decode cX3_children 15 = .ok (.lxor, 1) := by decide +kernel
theorem dX3_children_16 : decode cX3_children 16 = .ok (.land, 1) := by decide +kernel
theorem dX3_children_17 : decode cX3_children 17 = .ok (.lreturn, 1) := by decide +kernel
abbrev cX3_close : ByteArray := prog_5_method_4_code
def yX3_close : MethodName := ⟨RX3, "close", "()V"⟩
theorem dX3_close_0 : decode cX3_close 0 = .ok (.aload_n 0, 1) := by decide +kernel
theorem dX3_close_1 : decode cX3_close 1 = .ok (.getfield 60, 3) := by decide +kernel
theorem dX3_close_4 : decode cX3_close 4 = .ok (.iconst 1, 1) := by decide +kernel
theorem dX3_close_5 : decode cX3_close 5 = .ok (.isub, 1) := by decide +kernel
theorem dX3_close_6 : decode cX3_close 6 = .ok (.istore_n 1, 1) := by decide +kernel
theorem dX3_close_7 : decode cX3_close 7 = .ok (.iload_n 1, 1) := by decide +kernel
theorem dX3_close_8 : decode cX3_close 8 = .ok (.ifCond .lt 103, 3) := by decide +kernel
theorem dX3_close_11 : decode cX3_close 11 = .ok (.aload_n 0, 1) := by decide +kernel
theorem dX3_close_12 : decode cX3_close 12 = .ok (.getfield 23, 3) := by decide +kernel
theorem dX3_close_15 : decode cX3_close 15 = .ok (.iload_n 1, 1) := by decide +kernel
theorem dX3_close_16 : decode cX3_close 16 = .ok (.invokevirtual 88, 3) := by decide +kernel
theorem dX3_close_19 : decode cX3_close 19 = .ok (.istore_n 2, 1) := by decide +kernel
theorem dX3_close_20 : decode cX3_close 20 = .ok (.aload_n 0, 1) := by decide +kernel
theorem dX3_close_21 : decode cX3_close 21 = .ok (.getfield 26, 3) := by decide +kernel
theorem dX3_close_24 : decode cX3_close 24 = .ok (.iload_n 2, 1) := by decide +kernel
theorem dX3_close_25 : decode cX3_close 25 = .ok (.aload_n 0, 1) := by decide +kernel
theorem dX3_close_26 : decode cX3_close 26 = .ok (.getfield 26, 3) := by decide +kernel
theorem dX3_close_29 : decode cX3_close 29 = .ok (.iload_n 2, 1) := by decide +kernel
theorem dX3_close_30 : decode cX3_close 30 = .ok (.invokevirtual 88, 3) := by decide +kernel
theorem dX3_close_33 : decode cX3_close 33 = .ok (.aload_n 0, 1) := by decide +kernel
theorem dX3_close_34 : decode cX3_close 34 = .ok (.getfield 26, 3) := by decide +kernel
theorem dX3_close_37 : decode cX3_close 37 = .ok (.iload_n 1, 1) := by decide +kernel
theorem dX3_close_38 : decode cX3_close 38 = .ok (.invokevirtual 88, 3) := by decide +kernel
theorem dX3_close_41 : decode cX3_close 41 = .ok (.invokestatic 91, 3) := by decide +kernel
theorem dX3_close_44 : decode cX3_close 44 = .ok (.invokevirtual 70, 3) := by decide +kernel
theorem dX3_close_47 : decode cX3_close 47 = .ok (.aload_n 0, 1) := by decide +kernel
theorem dX3_close_48 : decode cX3_close 48 = .ok (.getfield 47, 3) := by decide +kernel
theorem dX3_close_51 : decode cX3_close 51 = .ok (.iload_n 1, 1) := by decide +kernel
theorem dX3_close_52 : decode cX3_close 52 = .ok (.aload_n 0, 1) := by decide +kernel
theorem dX3_close_53 : decode cX3_close 53 = .ok (.getfield 26, 3) := by decide +kernel
theorem dX3_close_56 : decode cX3_close 56 = .ok (.iload_n 1, 1) := by decide +kernel
theorem dX3_close_57 : decode cX3_close 57 = .ok (.invokevirtual 88, 3) := by decide +kernel
theorem dX3_close_60 : decode cX3_close 60 = .ok (.invokestatic 97, 3) := by decide +kernel
theorem dX3_close_63 : decode cX3_close 63 = .ok (.iload_n 1, 1) := by decide +kernel
theorem dX3_close_64 : decode cX3_close 64 = .ok (.iconst 1, 1) := by decide +kernel
theorem dX3_close_65 : decode cX3_close 65 = .ok (.iadd, 1) := by decide +kernel
theorem dX3_close_66 : decode cX3_close 66 = .ok (.invokestatic 97, 3) := by decide +kernel
theorem dX3_close_69 : decode cX3_close 69 = .ok (.ldc2_w 99, 3) := by decide +kernel
theorem dX3_close_72 : decode cX3_close 72 = .ok (.lxor, 1) := by decide +kernel
theorem dX3_close_73 : decode cX3_close 73 = .ok (.land, 1) := by decide +kernel
theorem dX3_close_74 : decode cX3_close 74 = .ok (.invokevirtual 85, 3) := by decide +kernel
theorem dX3_close_77 : decode cX3_close 77 = .ok (.aload_n 0, 1) := by decide +kernel
theorem dX3_close_78 : decode cX3_close 78 = .ok (.getfield 41, 3) := by decide +kernel
theorem dX3_close_81 : decode cX3_close 81 = .ok (.iload_n 1, 1) := by decide +kernel
theorem dX3_close_82 : decode cX3_close 82 = .ok (.aload_n 0, 1) := by decide +kernel
theorem dX3_close_83 : decode cX3_close 83 = .ok (.getfield 57, 3) := by decide +kernel
theorem dX3_close_86 : decode cX3_close 86 = .ok (.iload_n 1, 1) := by decide +kernel
theorem dX3_close_87 : decode cX3_close 87 = .ok (.invokestatic 101, 3) := by decide +kernel
theorem dX3_close_90 : decode cX3_close 90 = .ok (.ifCond .eq 7, 3) := by decide +kernel
theorem dX3_close_93 : decode cX3_close 93 = .ok (.lconst 0, 1) := by decide +kernel
theorem dX3_close_94 : decode cX3_close 94 = .ok (.goto 8, 3) := by decide +kernel
theorem dX3_close_97 : decode cX3_close 97 = .ok (.aload_n 0, 1) := by decide +kernel
theorem dX3_close_98 : decode cX3_close 98 = .ok (.iload_n 2, 1) := by decide +kernel
theorem dX3_close_99 : decode cX3_close 99 = .ok (.invokevirtual 105, 3) := by decide +kernel
theorem dX3_close_102 : decode cX3_close 102 = .ok (.invokevirtual 85, 3) := by decide +kernel
theorem dX3_close_105 : decode cX3_close 105 = .ok (.iinc 1 (-1), 3) := by decide +kernel
theorem dX3_close_108 : decode cX3_close 108 = .ok (.goto (-101), 3) := by decide +kernel
theorem dX3_close_111 : decode cX3_close 111 = .ok (.return_, 1) := by decide +kernel
abbrev cX3_holds : ByteArray := prog_5_method_6_code
def yX3_holds : MethodName := ⟨RX3, "holds", "(I)Z"⟩
theorem dX3_holds_0 : decode cX3_holds 0 = .ok (.aload_n 0, 1) := by decide +kernel
theorem dX3_holds_1 : decode cX3_holds 1 = .ok (.getfield 20, 3) := by decide +kernel
theorem dX3_holds_4 : decode cX3_holds 4 = .ok (.iload_n 1, 1) := by decide +kernel
theorem dX3_holds_5 : decode cX3_holds 5 = .ok (.invokevirtual 88, 3) := by decide +kernel
theorem dX3_holds_8 : decode cX3_holds 8 = .ok (.iconst (-1), 1) := by decide +kernel
theorem dX3_holds_9 : decode cX3_holds 9 = .ok (.if_icmp .eq 7, 3) := by decide +kernel
theorem dX3_holds_12 : decode cX3_holds 12 = .ok (.iconst 1, 1) := by decide +kernel
theorem dX3_holds_13 : decode cX3_holds 13 = .ok (.goto 4, 3) := by decide +kernel
theorem dX3_holds_16 : decode cX3_holds 16 = .ok (.iconst 0, 1) := by decide +kernel
theorem dX3_holds_17 : decode cX3_holds 17 = .ok (.ireturn, 1) := by decide +kernel
abbrev cX3_spotOf : ByteArray := prog_5_method_7_code
def yX3_spotOf : MethodName := ⟨RX3, "spotOf", "(I)I"⟩
theorem dX3_spotOf_0 : decode cX3_spotOf 0 = .ok (.aload_n 0, 1) := by decide +kernel
theorem dX3_spotOf_1 : decode cX3_spotOf 1 = .ok (.getfield 20, 3) := by decide +kernel
theorem dX3_spotOf_4 : decode cX3_spotOf 4 = .ok (.iload_n 1, 1) := by decide +kernel
theorem dX3_spotOf_5 : decode cX3_spotOf 5 = .ok (.invokevirtual 88, 3) := by decide +kernel
theorem dX3_spotOf_8 : decode cX3_spotOf 8 = .ok (.ireturn, 1) := by decide +kernel
abbrev cX3_spaceAt : ByteArray := prog_5_method_13_code
def yX3_spaceAt : MethodName := ⟨RX3, "spaceAt", "(I)I"⟩
theorem dX3_spaceAt_0 : decode cX3_spaceAt 0 = .ok (.aload_n 0, 1) := by decide +kernel
theorem dX3_spaceAt_1 : decode cX3_spaceAt 1 = .ok (.getfield 29, 3) := by decide +kernel
theorem dX3_spaceAt_4 : decode cX3_spaceAt 4 = .ok (.iload_n 1, 1) := by decide +kernel
theorem dX3_spaceAt_5 : decode cX3_spaceAt 5 = .ok (.invokevirtual 88, 3) := by decide +kernel
theorem dX3_spaceAt_8 : decode cX3_spaceAt 8 = .ok (.ireturn, 1) := by decide +kernel
abbrev cX3_everything : ByteArray := prog_5_method_14_code
def yX3_everything : MethodName := ⟨RX3, "everything", "()J"⟩
theorem dX3_everything_0 : decode cX3_everything 0 = .ok (.aload_n 0, 1) := by decide +kernel
theorem dX3_everything_1 : decode cX3_everything 1 = .ok (.getfield 60, 3) := by decide +kernel
theorem dX3_everything_4 : decode cX3_everything 4 = .ok (.invokestatic 97, 3) := by decide +kernel
theorem dX3_everything_7 : decode cX3_everything 7 = .ok (.lreturn, 1) := by decide +kernel
abbrev cX3_solids : ByteArray := prog_5_method_16_code
def yX3_solids : MethodName := ⟨RX3, "solids", "()J"⟩
theorem dX3_solids_0 : decode cX3_solids 0 = .ok (.aload_n 0, 1) := by decide +kernel
theorem dX3_solids_1 : decode cX3_solids 1 = .ok (.getfield 60, 3) := by decide +kernel
theorem dX3_solids_4 : decode cX3_solids 4 = .ok (.invokestatic 97, 3) := by decide +kernel
theorem dX3_solids_7 : decode cX3_solids 7 = .ok (.aload_n 0, 1) := by decide +kernel
theorem dX3_solids_8 : decode cX3_solids 8 = .ok (.getfield 57, 3) := by decide +kernel
theorem dX3_solids_11 : decode cX3_solids 11 = .ok (.ldc2_w 99, 3) := by decide +kernel
theorem dX3_solids_14 : decode cX3_solids 14 = .ok (.lxor, 1) := by decide +kernel
theorem dX3_solids_15 : decode cX3_solids 15 = .ok (.land, 1) := by decide +kernel
theorem dX3_solids_16 : decode cX3_solids 16 = .ok (.lreturn, 1) := by decide +kernel
abbrev cX3_attributesOf : ByteArray := prog_5_method_19_code
def yX3_attributesOf : MethodName := ⟨RX3, "attributesOf", "(I)J"⟩
theorem dX3_attributesOf_0 : decode cX3_attributesOf 0 = .ok (.aload_n 0, 1) := by decide +kernel
theorem dX3_attributesOf_1 : decode cX3_attributesOf 1 = .ok (.getfield 37, 3) := by decide +kernel
theorem dX3_attributesOf_4 : decode cX3_attributesOf 4 = .ok (.iload_n 1, 1) := by decide +kernel
theorem dX3_attributesOf_5 : decode cX3_attributesOf 5 = .ok (.invokevirtual 76, 3) := by decide +kernel
theorem dX3_attributesOf_8 : decode cX3_attributesOf 8 = .ok (.aload_n 0, 1) := by decide +kernel
theorem dX3_attributesOf_9 : decode cX3_attributesOf 9 = .ok (.getfield 57, 3) := by decide +kernel
theorem dX3_attributesOf_12 : decode cX3_attributesOf 12 = .ok (.land, 1) := by decide +kernel
theorem dX3_attributesOf_13 : decode cX3_attributesOf 13 = .ok (.lreturn, 1) := by decide +kernel
abbrev cX3_childCount : ByteArray := prog_5_method_20_code
def yX3_childCount : MethodName := ⟨RX3, "childCount", "(I)I"⟩
theorem dX3_childCount_0 : decode cX3_childCount 0 = .ok (.aload_n 0, 1) := by decide +kernel
theorem dX3_childCount_1 : decode cX3_childCount 1 = .ok (.aload_n 0, 1) := by decide +kernel
theorem dX3_childCount_2 : decode cX3_childCount 2 = .ok (.getfield 20, 3) := by decide +kernel
theorem dX3_childCount_5 : decode cX3_childCount 5 = .ok (.iload_n 1, 1) := by decide +kernel
theorem dX3_childCount_6 : decode cX3_childCount 6 = .ok (.invokevirtual 88, 3) := by decide +kernel
theorem dX3_childCount_9 : decode cX3_childCount 9 = .ok (.invokevirtual 105, 3) := by decide +kernel
theorem dX3_childCount_12 : decode cX3_childCount 12 = .ok (.invokestatic 112, 3) := by decide +kernel
theorem dX3_childCount_15 : decode cX3_childCount 15 = .ok (.ireturn, 1) := by decide +kernel
abbrev cX3_spread : ByteArray := prog_5_method_22_code
def yX3_spread : MethodName := ⟨RX3, "spread", "(J)J"⟩
theorem dX3_spread_0 : decode cX3_spread 0 = .ok (.lload_n 1, 1) := by decide +kernel
theorem dX3_spread_1 : decode cX3_spread 1 = .ok (.lstore_n 3, 1) := by decide +kernel
theorem dX3_spread_2 : decode cX3_spread 2 = .ok (.iconst 0, 1) := by decide +kernel
theorem dX3_spread_3 : decode cX3_spread 3 = .ok (.istore 5, 2) := by decide +kernel
theorem dX3_spread_5 : decode cX3_spread 5 = .ok (.iload 5, 2) := by decide +kernel
theorem dX3_spread_7 : decode cX3_spread 7 = .ok (.aload_n 0, 1) := by decide +kernel
theorem dX3_spread_8 : decode cX3_spread 8 = .ok (.getfield 60, 3) := by decide +kernel
theorem dX3_spread_11 : decode cX3_spread 11 = .ok (.if_icmp .ge 30, 3) := by decide +kernel
theorem dX3_spread_14 : decode cX3_spread 14 = .ok (.lload_n 1, 1) := by decide +kernel
theorem dX3_spread_15 : decode cX3_spread 15 = .ok (.iload 5, 2) := by decide +kernel
theorem dX3_spread_17 : decode cX3_spread 17 = .ok (.invokestatic 101, 3) := by decide +kernel
theorem dX3_spread_20 : decode cX3_spread 20 = .ok (.ifCond .eq 15, 3) := by decide +kernel
theorem dX3_spread_23 : decode cX3_spread 23 = .ok (.lload_n 3, 1) := by decide +kernel
theorem dX3_spread_24 : decode cX3_spread 24 = .ok (.aload_n 0, 1) := by decide +kernel
theorem dX3_spread_25 : decode cX3_spread 25 = .ok (.getfield 47, 3) := by decide +kernel
theorem dX3_spread_28 : decode cX3_spread 28 = .ok (.iload 5, 2) := by decide +kernel
theorem dX3_spread_30 : decode cX3_spread 30 = .ok (.invokevirtual 76, 3) := by decide +kernel
theorem dX3_spread_33 : decode cX3_spread 33 = .ok (.lor, 1) := by decide +kernel
theorem dX3_spread_34 : decode cX3_spread 34 = .ok (.lstore_n 3, 1) := by decide +kernel
theorem dX3_spread_35 : decode cX3_spread 35 = .ok (.iinc 5 1, 3) := by decide +kernel
theorem dX3_spread_38 : decode cX3_spread 38 = .ok (.goto (-33), 3) := by decide +kernel
theorem dX3_spread_41 : decode cX3_spread 41 = .ok (.lload_n 3, 1) := by decide +kernel
theorem dX3_spread_42 : decode cX3_spread 42 = .ok (.lreturn, 1) := by decide +kernel
abbrev cX3_nodesOf : ByteArray := prog_5_method_23_code
def yX3_nodesOf : MethodName := ⟨RX3, "nodesOf", "(J)J"⟩
theorem dX3_nodesOf_0 : decode cX3_nodesOf 0 = .ok (.lconst 0, 1) := by decide +kernel
theorem dX3_nodesOf_1 : decode cX3_nodesOf 1 = .ok (.lstore_n 3, 1) := by decide +kernel
theorem dX3_nodesOf_2 : decode cX3_nodesOf 2 = .ok (.iconst 0, 1) := by decide +kernel
theorem dX3_nodesOf_3 : decode cX3_nodesOf 3 = .ok (.istore 5, 2) := by decide +kernel
theorem dX3_nodesOf_5 : decode cX3_nodesOf 5 = .ok (.iload 5, 2) := by decide +kernel
theorem dX3_nodesOf_7 : decode cX3_nodesOf 7 = .ok (.aload_n 0, 1) := by decide +kernel
theorem dX3_nodesOf_8 : decode cX3_nodesOf 8 = .ok (.getfield 60, 3) := by decide +kernel
theorem dX3_nodesOf_11 : decode cX3_nodesOf 11 = .ok (.if_icmp .ge 33, 3) := by decide +kernel
theorem dX3_nodesOf_14 : decode cX3_nodesOf 14 = .ok (.lload_n 1, 1) := by decide +kernel
theorem dX3_nodesOf_15 : decode cX3_nodesOf 15 = .ok (.iload 5, 2) := by decide +kernel
theorem dX3_nodesOf_17 : decode cX3_nodesOf 17 = .ok (.invokestatic 101, 3) := by decide +kernel
theorem dX3_nodesOf_20 : decode cX3_nodesOf 20 = .ok (.ifCond .eq 18, 3) := by decide +kernel
theorem dX3_nodesOf_23 : decode cX3_nodesOf 23 = .ok (.lload_n 3, 1) := by decide +kernel
theorem dX3_nodesOf_24 : decode cX3_nodesOf 24 = .ok (.aload_n 0, 1) := by decide +kernel
theorem dX3_nodesOf_25 : decode cX3_nodesOf 25 = .ok (.getfield 14, 3) := by decide +kernel
theorem dX3_nodesOf_28 : decode cX3_nodesOf 28 = .ok (.iload 5, 2) := by decide +kernel
theorem dX3_nodesOf_30 : decode cX3_nodesOf 30 = .ok (.invokevirtual 88, 3) := by decide +kernel
theorem dX3_nodesOf_33 : decode cX3_nodesOf 33 = .ok (.invokestatic 80, 3) := by decide +kernel
theorem dX3_nodesOf_36 : decode cX3_nodesOf 36 = .ok (.lor, 1) := by decide +kernel
theorem dX3_nodesOf_37 : decode cX3_nodesOf 37 = .ok (.lstore_n 3, 1) := by decide +kernel
theorem dX3_nodesOf_38 : decode cX3_nodesOf 38 = .ok (.iinc 5 1, 3) := by decide +kernel
theorem dX3_nodesOf_41 : decode cX3_nodesOf 41 = .ok (.goto (-36), 3) := by decide +kernel
theorem dX3_nodesOf_44 : decode cX3_nodesOf 44 = .ok (.lload_n 3, 1) := by decide +kernel
theorem dX3_nodesOf_45 : decode cX3_nodesOf 45 = .ok (.lreturn, 1) := by decide +kernel
abbrev cX3_spotsOf : ByteArray := prog_5_method_24_code
def yX3_spotsOf : MethodName := ⟨RX3, "spotsOf", "(J)J"⟩
theorem dX3_spotsOf_0 : decode cX3_spotsOf 0 = .ok (.lconst 0, 1) := by decide +kernel
theorem dX3_spotsOf_1 : decode cX3_spotsOf 1 = .ok (.lstore_n 3, 1) := by decide +kernel
theorem dX3_spotsOf_2 : decode cX3_spotsOf 2 = .ok (.iconst 0, 1) := by decide +kernel
theorem dX3_spotsOf_3 : decode cX3_spotsOf 3 = .ok (.istore 5, 2) := by decide +kernel
theorem dX3_spotsOf_5 : decode cX3_spotsOf 5 = .ok (.iload 5, 2) := by decide +kernel
theorem dX3_spotsOf_7 : decode cX3_spotsOf 7 = .ok (.aload_n 0, 1) := by decide +kernel
theorem dX3_spotsOf_8 : decode cX3_spotsOf 8 = .ok (.getfield 60, 3) := by decide +kernel
theorem dX3_spotsOf_11 : decode cX3_spotsOf 11 = .ok (.if_icmp .ge 33, 3) := by decide +kernel
theorem dX3_spotsOf_14 : decode cX3_spotsOf 14 = .ok (.lload_n 1, 1) := by decide +kernel
theorem dX3_spotsOf_15 : decode cX3_spotsOf 15 = .ok (.aload_n 0, 1) := by decide +kernel
theorem dX3_spotsOf_16 : decode cX3_spotsOf 16 = .ok (.getfield 14, 3) := by decide +kernel
theorem dX3_spotsOf_19 : decode cX3_spotsOf 19 = .ok (.iload 5, 2) := by decide +kernel
theorem dX3_spotsOf_21 : decode cX3_spotsOf 21 = .ok (.invokevirtual 88, 3) := by decide +kernel
theorem dX3_spotsOf_24 : decode cX3_spotsOf 24 = .ok (.invokestatic 101, 3) := by decide +kernel
theorem dX3_spotsOf_27 : decode cX3_spotsOf 27 = .ok (.ifCond .eq 11, 3) := by decide +kernel
theorem dX3_spotsOf_30 : decode cX3_spotsOf 30 = .ok (.lload_n 3, 1) := by decide +kernel
theorem dX3_spotsOf_31 : decode cX3_spotsOf 31 = .ok (.iload 5, 2) := by decide +kernel
theorem dX3_spotsOf_33 : decode cX3_spotsOf 33 = .ok (.invokestatic 80, 3) := by decide +kernel
theorem dX3_spotsOf_36 : decode cX3_spotsOf 36 = .ok (.lor, 1) := by decide +kernel
theorem dX3_spotsOf_37 : decode cX3_spotsOf 37 = .ok (.lstore_n 3, 1) := by decide +kernel
theorem dX3_spotsOf_38 : decode cX3_spotsOf 38 = .ok (.iinc 5 1, 3) := by decide +kernel
theorem dX3_spotsOf_41 : decode cX3_spotsOf 41 = .ok (.goto (-36), 3) := by decide +kernel
theorem dX3_spotsOf_44 : decode cX3_spotsOf 44 = .ok (.lload_n 3, 1) := by decide +kernel
theorem dX3_spotsOf_45 : decode cX3_spotsOf 45 = .ok (.lreturn, 1) := by decide +kernel
abbrev cX4_init : ByteArray := prog_6_method_1_code
def yX4_init : MethodName := ⟨RX4, "<init>", "()V"⟩
theorem dX4_init_0 : decode cX4_init 0 = .ok (.aload_n 0, 1) := by decide +kernel
theorem dX4_init_1 : decode cX4_init 1 = .ok (.invokespecial 3, 3) := by decide +kernel
theorem dX4_init_4 : decode cX4_init 4 = .ok (.aload_n 0, 1) := by decide +kernel
theorem dX4_init_5 : decode cX4_init 5 = .ok (.new 9, 3) := by decide +kernel
theorem dX4_init_8 : decode cX4_init 8 = .ok (.dup, 1) := by decide +kernel
theorem dX4_init_9 : decode cX4_init 9 = .ok (.bipush 20, 2) := by decide +kernel
theorem dX4_init_11 : decode cX4_init 11 = .ok (.iconst 0, 1) := by decide +kernel
theorem dX4_init_12 : decode cX4_init 12 = .ok (.invokespecial 11, 3) := by decide +kernel
theorem dX4_init_15 : decode cX4_init 15 = .ok (.putfield 14, 3) := by decide +kernel
theorem dX4_init_18 : decode cX4_init 18 = .ok (.aload_n 0, 1) := by decide +kernel
theorem dX4_init_19 : decode cX4_init 19 = .ok (.new 9, 3) := by decide +kernel
theorem dX4_init_22 : decode cX4_init 22 = .ok (.dup, 1) := by decide +kernel
theorem dX4_init_23 : decode cX4_init 23 = .ok (.bipush 100, 2) := by decide +kernel
theorem dX4_init_25 : decode cX4_init 25 = .ok (.iconst (-1), 1) := by decide +kernel
theorem dX4_init_26 : decode cX4_init 26 = .ok (.invokespecial 11, 3) := by decide +kernel
theorem dX4_init_29 : decode cX4_init 29 = .ok (.putfield 20, 3) := by decide +kernel
theorem dX4_init_32 : decode cX4_init 32 = .ok (.aload_n 0, 1) := by decide +kernel
theorem dX4_init_33 : decode cX4_init 33 = .ok (.new 9, 3) := by decide +kernel
theorem dX4_init_36 : decode cX4_init 36 = .ok (.dup, 1) := by decide +kernel
theorem dX4_init_37 : decode cX4_init 37 = .ok (.bipush 100, 2) := by decide +kernel
theorem dX4_init_39 : decode cX4_init 39 = .ok (.iconst (-1), 1) := by decide +kernel
theorem dX4_init_40 : decode cX4_init 40 = .ok (.invokespecial 11, 3) := by decide +kernel
theorem dX4_init_43 : decode cX4_init 43 = .ok (.putfield 23, 3) := by decide +kernel
theorem dX4_init_46 : decode cX4_init 46 = .ok (.aload_n 0, 1) := by decide +kernel
theorem dX4_init_47 : decode cX4_init 47 = .ok (.new 9, 3) := by decide +kernel
theorem dX4_init_50 : decode cX4_init 50 = .ok (.dup, 1) := by decide +kernel
theorem dX4_init_51 : decode cX4_init 51 = .ok (.bipush 100, 2) := by decide +kernel
theorem dX4_init_53 : decode cX4_init 53 = .ok (.iconst (-1), 1) := by decide +kernel
theorem dX4_init_54 : decode cX4_init 54 = .ok (.invokespecial 11, 3) := by decide +kernel
theorem dX4_init_57 : decode cX4_init 57 = .ok (.putfield 26, 3) := by decide +kernel
theorem dX4_init_60 : decode cX4_init 60 = .ok (.aload_n 0, 1) := by decide +kernel
theorem dX4_init_61 : decode cX4_init 61 = .ok (.new 9, 3) := by decide +kernel
theorem dX4_init_64 : decode cX4_init 64 = .ok (.dup, 1) := by decide +kernel
theorem dX4_init_65 : decode cX4_init 65 = .ok (.bipush 100, 2) := by decide +kernel
theorem dX4_init_67 : decode cX4_init 67 = .ok (.iconst 0, 1) := by decide +kernel
theorem dX4_init_68 : decode cX4_init 68 = .ok (.invokespecial 11, 3) := by decide +kernel
theorem dX4_init_71 : decode cX4_init 71 = .ok (.putfield 29, 3) := by decide +kernel
theorem dX4_init_74 : decode cX4_init 74 = .ok (.aload_n 0, 1) := by decide +kernel
theorem dX4_init_75 : decode cX4_init 75 = .ok (.new 9, 3) := by decide +kernel
theorem dX4_init_78 : decode cX4_init 78 = .ok (.dup, 1) := by decide +kernel
theorem dX4_init_79 : decode cX4_init 79 = .ok (.sipush 200, 3) := by decide +kernel
theorem dX4_init_82 : decode cX4_init 82 = .ok (.iconst (-1), 1) := by decide +kernel
theorem dX4_init_83 : decode cX4_init 83 = .ok (.invokespecial 11, 3) := by decide +kernel
theorem dX4_init_86 : decode cX4_init 86 = .ok (.putfield 32, 3) := by decide +kernel
theorem dX4_init_89 : decode cX4_init 89 = .ok (.aload_n 0, 1) := by decide +kernel
theorem dX4_init_90 : decode cX4_init 90 = .ok (.new 9, 3) := by decide +kernel
theorem dX4_init_93 : decode cX4_init 93 = .ok (.dup, 1) := by decide +kernel
theorem dX4_init_94 : decode cX4_init 94 = .ok (.sipush 200, 3) := by decide +kernel
theorem dX4_init_97 : decode cX4_init 97 = .ok (.iconst (-1), 1) := by decide +kernel
theorem dX4_init_98 : decode cX4_init 98 = .ok (.invokespecial 11, 3) := by decide +kernel
theorem dX4_init_101 : decode cX4_init 101 = .ok (.putfield 35, 3) := by decide +kernel
theorem dX4_init_104 : decode cX4_init 104 = .ok (.aload_n 0, 1) := by decide +kernel
theorem dX4_init_105 : decode cX4_init 105 = .ok (.new 9, 3) := by decide +kernel
theorem dX4_init_108 : decode cX4_init 108 = .ok (.dup, 1) := by decide +kernel
theorem dX4_init_109 : decode cX4_init 109 = .ok (.sipush 200, 3) := by decide +kernel
theorem dX4_init_112 : decode cX4_init 112 = .ok (.iconst (-1), 1) := by decide +kernel
theorem dX4_init_113 : decode cX4_init 113 = .ok (.invokespecial 11, 3) := by decide +kernel
theorem dX4_init_116 : decode cX4_init 116 = .ok (.putfield 38, 3) := by decide +kernel
theorem dX4_init_119 : decode cX4_init 119 = .ok (.aload_n 0, 1) := by decide +kernel
theorem dX4_init_120 : decode cX4_init 120 = .ok (.new 9, 3) := by decide +kernel
theorem dX4_init_123 : decode cX4_init 123 = .ok (.dup, 1) := by decide +kernel
theorem dX4_init_124 : decode cX4_init 124 = .ok (.sipush 200, 3) := by decide +kernel
theorem dX4_init_127 : decode cX4_init 127 = .ok (.iconst (-1), 1) := by decide +kernel
theorem dX4_init_128 : decode cX4_init 128 = .ok (.invokespecial 11, 3) := by decide +kernel
theorem dX4_init_131 : decode cX4_init 131 = .ok (.putfield 41, 3) := by decide +kernel
theorem dX4_init_134 : decode cX4_init 134 = .ok (.aload_n 0, 1) := by decide +kernel
theorem dX4_init_135 : decode cX4_init 135 = .ok (.iconst 0, 1) := by decide +kernel
theorem dX4_init_136 : decode cX4_init 136 = .ok (.putfield 44, 3) := by decide +kernel
theorem dX4_init_139 : decode cX4_init 139 = .ok (.return_, 1) := by decide +kernel
abbrev cX4_count : ByteArray := prog_6_method_2_code
def yX4_count : MethodName := ⟨RX4, "count", "()I"⟩
theorem dX4_count_0 : decode cX4_count 0 = .ok (.aload_n 0, 1) := by decide +kernel
theorem dX4_count_1 : decode cX4_count 1 = .ok (.getfield 44, 3) := by decide +kernel
theorem dX4_count_4 : decode cX4_count 4 = .ok (.ireturn, 1) := by decide +kernel
abbrev cX4_addPath : ByteArray := prog_6_method_3_code
def yX4_addPath : MethodName := ⟨RX4, "addPath", "()I"⟩
theorem dX4_addPath_0 : decode cX4_addPath 0 = .ok (.aload_n 0, 1) := by decide +kernel
theorem dX4_addPath_1 : decode cX4_addPath 1 = .ok (.dup, 1) := by decide +kernel
theorem dX4_addPath_2 : decode cX4_addPath 2 = .ok (.getfield 44, 3) := by decide +kernel
theorem dX4_addPath_5 : decode cX4_addPath 5 = .ok (.iconst 1, 1) := by decide +kernel
theorem dX4_addPath_6 : decode cX4_addPath 6 = .ok (.iadd, 1) := by decide +kernel
theorem dX4_addPath_7 : decode cX4_addPath 7 = .ok (.putfield 44, 3) := by decide +kernel
theorem dX4_addPath_10 : decode cX4_addPath 10 = .ok (.aload_n 0, 1) := by decide +kernel
theorem dX4_addPath_11 : decode cX4_addPath 11 = .ok (.getfield 44, 3) := by decide +kernel
theorem dX4_addPath_14 : decode cX4_addPath 14 = .ok (.iconst 1, 1) := by decide +kernel
theorem dX4_addPath_15 : decode cX4_addPath 15 = .ok (.isub, 1) := by decide +kernel
theorem dX4_addPath_16 : decode cX4_addPath 16 = .ok (.ireturn, 1) := by decide +kernel
abbrev cX4_addStep : ByteArray := prog_6_method_4_code
def yX4_addStep : MethodName := ⟨RX4, "addStep", "(IIII)I"⟩
theorem dX4_addStep_0 : decode cX4_addStep 0 = .ok (.aload_n 0, 1) := by decide +kernel
theorem dX4_addStep_1 : decode cX4_addStep 1 = .ok (.getfield 14, 3) := by decide +kernel
theorem dX4_addStep_4 : decode cX4_addStep 4 = .ok (.iload_n 1, 1) := by decide +kernel
theorem dX4_addStep_5 : decode cX4_addStep 5 = .ok (.invokevirtual 48, 3) := by decide +kernel
theorem dX4_addStep_8 : decode cX4_addStep 8 = .ok (.istore 5, 2) := by decide +kernel
theorem dX4_addStep_10 : decode cX4_addStep 10 = .ok (.aload_n 0, 1) := by decide +kernel
theorem dX4_addStep_11 : decode cX4_addStep 11 = .ok (.iload_n 1, 1) := by decide +kernel
theorem dX4_addStep_12 : decode cX4_addStep 12 = .ok (.iload 5, 2) := by decide +kernel
theorem dX4_addStep_14 : decode cX4_addStep 14 = .ok (.invokevirtual 52, 3) := by decide +kernel
theorem dX4_addStep_17 : decode cX4_addStep 17 = .ok (.istore 6, 2) := by decide +kernel
theorem dX4_addStep_19 : decode cX4_addStep 19 = .ok (.aload_n 0, 1) := by decide +kernel
theorem dX4_addStep_20 : decode cX4_addStep 20 = .ok (.getfield 20, 3) := by decide +kernel
theorem dX4_addStep_23 : decode cX4_addStep 23 = .ok (.iload 6, 2) := by decide +kernel
theorem dX4_addStep_25 : decode cX4_addStep 25 = .ok (.iload_n 2, 1) := by decide +kernel
theorem dX4_addStep_26 : decode cX4_addStep 26 = .ok (.invokevirtual 56, 3) := by decide +kernel
theorem dX4_addStep_29 : decode cX4_addStep 29 = .ok (.aload_n 0, 1) := by decide +kernel
theorem dX4_addStep_30 : decode cX4_addStep 30 = .ok (.getfield 23, 3) := by decide +kernel
theorem dX4_addStep_33 : decode cX4_addStep 33 = .ok (.iload 6, 2) := by decide +kernel
theorem dX4_addStep_35 : decode cX4_addStep 35 = .ok (.iload_n 3, 1) := by decide +kernel
theorem dX4_addStep_36 : decode cX4_addStep 36 = .ok (.invokevirtual 56, 3) := by decide +kernel
theorem dX4_addStep_39 : decode cX4_addStep 39 = .ok (.aload_n 0, 1) := by decide +kernel
theorem dX4_addStep_40 : decode cX4_addStep 40 = .ok (.getfield 26, 3) := by decide +kernel
theorem dX4_addStep_43 : decode cX4_addStep 43 = .ok (.iload 6, 2) := by decide +kernel
theorem dX4_addStep_45 : decode cX4_addStep 45 = .ok (.iload 4, 2) := by decide +kernel
theorem dX4_addStep_47 : decode cX4_addStep 47 = .ok (.invokevirtual 56, 3) := by decide +kernel
theorem dX4_addStep_50 : decode cX4_addStep 50 = .ok (.aload_n 0, 1) := by decide +kernel
theorem dX4_addStep_51 : decode cX4_addStep 51 = .ok (.getfield 14, 3) := by decide +kernel
theorem dX4_addStep_54 : decode cX4_addStep 54 = .ok (.iload_n 1, 1) := by decide +kernel
theorem dX4_addStep_55 : decode cX4_addStep 55 = .ok (.iload 5, 2) := by decide +kernel
theorem dX4_addStep_57 : decode cX4_addStep 57 = .ok (.iconst 1, 1) := by decide +kernel
theorem dX4_addStep_58 : decode cX4_addStep 58 = .ok (.iadd, 1) := by decide +kernel
theorem dX4_addStep_59 : decode cX4_addStep 59 = .ok (.invokevirtual 56, 3) := by decide +kernel
theorem dX4_addStep_62 : decode cX4_addStep 62 = .ok (.iload 5, 2) := by decide +kernel
theorem dX4_addStep_64 : decode cX4_addStep 64 = .ok (.iconst 1, 1) := by decide +kernel
theorem dX4_addStep_65 : decode cX4_addStep 65 = .ok (.iadd, 1) := by decide +kernel
theorem dX4_addStep_66 : decode cX4_addStep 66 = .ok (.ireturn, 1) := by decide +kernel
abbrev cX4_addCondition : ByteArray := prog_6_method_5_code
def yX4_addCondition : MethodName := ⟨RX4, "addCondition", "(IIIII)I"⟩
theorem dX4_addCondition_0 : decode cX4_addCondition 0 = .ok (.aload_n 0, 1) := by decide +kernel
theorem dX4_addCondition_1 : decode cX4_addCondition 1 = .ok (.iload_n 1, 1) := by decide +kernel
theorem dX4_addCondition_2 : decode cX4_addCondition 2 = .ok (.aload_n 0, 1) := by decide +kernel
theorem dX4_addCondition_3 : decode cX4_addCondition 3 = .ok (.getfield 14, 3) := by decide +kernel
theorem dX4_addCondition_6 : decode cX4_addCondition 6 = .ok (.iload_n 1, 1) := by decide +kernel
theorem dX4_addCondition_7 : decode cX4_addCondition 7 = .ok (.invokevirtual 48, 3) := by decide +kernel
theorem dX4_addCondition_10 : decode cX4_addCondition 10 = .ok (.iconst 1, 1) := by decide +kernel
theorem dX4_addCondition_11 : decode cX4_addCondition 11 = .ok (.isub, 1) := by decide +kernel
theorem dX4_addCondition_12 : decode cX4_addCondition 12 = .ok (.invokevirtual 52, 3) := by decide +kernel
theorem dX4_addCondition_15 : decode cX4_addCondition 15 = .ok (.istore 6, 2) := by decide +kernel
theorem dX4_addCondition_17 : decode cX4_addCondition 17 = .ok (.aload_n 0, 1) := by decide +kernel
theorem dX4_addCondition_18 : decode cX4_addCondition 18 = .ok (.getfield 29, 3) := by decide +kernel
theorem dX4_addCondition_21 : decode cX4_addCondition 21 = .ok (.iload 6, 2) := by decide +kernel
theorem dX4_addCondition_23 : decode cX4_addCondition 23 = .ok (.invokevirtual 48, 3) := by decide +kernel
theorem dX4_addCondition_26 : decode cX4_addCondition 26 = .ok (.istore 7, 2) := by decide +kernel
theorem dX4_addCondition_28 : decode cX4_addCondition 28 = .ok (.aload_n 0, 1) := by decide +kernel
theorem dX4_addCondition_29 : decode cX4_addCondition 29 = .ok (.iload 6, 2) := by decide +kernel
theorem dX4_addCondition_31 : decode cX4_addCondition 31 = .ok (.iload 7, 2) := by decide +kernel
theorem dX4_addCondition_33 : decode cX4_addCondition 33 = .ok (.invokevirtual 59, 3) := by decide +kernel
theorem dX4_addCondition_36 : decode cX4_addCondition 36 = .ok (.istore 8, 2) := by decide +kernel
theorem dX4_addCondition_38 : decode cX4_addCondition 38 = .ok (.aload_n 0, 1) := by decide +kernel
theorem dX4_addCondition_39 : decode cX4_addCondition 39 = .ok (.getfield 32, 3) := by decide +kernel
theorem dX4_addCondition_42 : decode cX4_addCondition 42 = .ok (.iload 8, 2) := by decide +kernel
theorem dX4_addCondition_44 : decode cX4_addCondition 44 = .ok (.iload_n 2, 1) := by decide +kernel
theorem dX4_addCondition_45 : decode cX4_addCondition 45 = .ok (.invokevirtual 56, 3) := by decide +kernel
theorem dX4_addCondition_48 : decode cX4_addCondition 48 = .ok (.aload_n 0, 1) := by decide +kernel
theorem dX4_addCondition_49 : decode cX4_addCondition 49 = .ok (.getfield 35, 3) := by decide +kernel
theorem dX4_addCondition_52 : decode cX4_addCondition 52 = .ok (.iload 8, 2) := by decide +kernel
theorem dX4_addCondition_54 : decode cX4_addCondition 54 = .ok (.iload_n 3, 1) := by decide +kernel
theorem dX4_addCondition_55 : decode cX4_addCondition 55 = .ok (.invokevirtual 56, 3) := by decide +kernel
theorem dX4_addCondition_58 : decode cX4_addCondition 58 = .ok (.aload_n 0, 1) := by decide +kernel
theorem dX4_addCondition_59 : decode cX4_addCondition 59 = .ok (.getfield 38, 3) := by decide +kernel
theorem dX4_addCondition_62 : decode cX4_addCondition 62 = .ok (.iload 8, 2) := by decide +kernel
theorem dX4_addCondition_64 : decode cX4_addCondition 64 = .ok (.iload 4, 2) := by decide +kernel
theorem dX4_addCondition_66 : decode cX4_addCondition 66 = .ok (.invokevirtual 56, 3) := by decide +kernel
theorem dX4_addCondition_69 : decode cX4_addCondition 69 = .ok (.aload_n 0, 1) := by decide +kernel
theorem dX4_addCondition_70 : decode cX4_addCondition 70 = .ok (.getfield 41, 3) := by decide +kernel
theorem dX4_addCondition_73 : decode cX4_addCondition 73 = .ok (.iload 8, 2) := by decide +kernel
theorem dX4_addCondition_75 : decode cX4_addCondition 75 = .ok (.iload 5, 2) := by decide +kernel
theorem dX4_addCondition_77 : decode cX4_addCondition 77 = .ok (.invokevirtual 56, 3) := by decide +kernel
theorem dX4_addCondition_80 : decode cX4_addCondition 80 = .ok (.aload_n 0, 1) := by decide +kernel
theorem dX4_addCondition_81 : decode cX4_addCondition 81 = .ok (.getfield 29, 3) := by decide +kernel
theorem dX4_addCondition_84 : decode cX4_addCondition 84 = .ok (.iload 6, 2) := by decide +kernel
theorem dX4_addCondition_86 : decode cX4_addCondition 86 = .ok (.iload 7, 2) := by decide +kernel
theorem dX4_addCondition_88 : decode cX4_addCondition 88 = .ok (.iconst 1, 1) := by decide +kernel
theorem dX4_addCondition_89 : decode cX4_addCondition 89 = .ok (.iadd, 1) := by decide +kernel
theorem dX4_addCondition_90 : decode cX4_addCondition 90 = .ok (.invokevirtual 56, 3) := by decide +kernel
theorem dX4_addCondition_93 : decode cX4_addCondition 93 = .ok (.iload 7, 2) := by decide +kernel
theorem dX4_addCondition_95 : decode cX4_addCondition 95 = .ok (.iconst 1, 1) := by decide +kernel
theorem dX4_addCondition_96 : decode cX4_addCondition 96 = .ok (.iadd, 1) := by decide +kernel
theorem dX4_addCondition_97 : decode cX4_addCondition 97 = .ok (.ireturn, 1) := by decide +kernel
abbrev cX4_conditionsOfLast : ByteArray := prog_6_method_10_code
def yX4_conditionsOfLast : MethodName := ⟨RX4, "conditionsOfLast", "(I)I"⟩
theorem dX4_conditionsOfLast_0 : decode cX4_conditionsOfLast 0 = .ok (.aload_n 0, 1) := by decide +kernel
theorem dX4_conditionsOfLast_1 : decode cX4_conditionsOfLast 1 = .ok (.getfield 29, 3) := by decide +kernel
theorem dX4_conditionsOfLast_4 : decode cX4_conditionsOfLast 4 = .ok (.aload_n 0, 1) := by decide +kernel
theorem dX4_conditionsOfLast_5 : decode cX4_conditionsOfLast 5 = .ok (.iload_n 1, 1) := by decide +kernel
theorem dX4_conditionsOfLast_6 : decode cX4_conditionsOfLast 6 = .ok (.aload_n 0, 1) := by decide +kernel
theorem dX4_conditionsOfLast_7 : decode cX4_conditionsOfLast 7 = .ok (.getfield 14, 3) := by decide +kernel
theorem dX4_conditionsOfLast_10 : decode cX4_conditionsOfLast 10 = .ok (.iload_n 1, 1) := by decide +kernel
theorem dX4_conditionsOfLast_11 : decode cX4_conditionsOfLast 11 = .ok (.invokevirtual 48, 3) := by decide +kernel
theorem dX4_conditionsOfLast_14 : decode cX4_conditionsOfLast 14 = .ok (.iconst 1, 1) := by decide +kernel
theorem dX4_conditionsOfLast_15 : decode cX4_conditionsOfLast 15 = .ok (.isub, 1) := by decide +kernel
theorem dX4_conditionsOfLast_16 : decode cX4_conditionsOfLast 16 = .ok (.invokevirtual 52, 3) := by decide +kernel
theorem dX4_conditionsOfLast_19 : decode cX4_conditionsOfLast 19 = .ok (.invokevirtual 48, 3) := by decide +kernel
theorem dX4_conditionsOfLast_22 : decode cX4_conditionsOfLast 22 = .ok (.ireturn, 1) := by decide +kernel
abbrev cX4_nameBelow : ByteArray := prog_6_method_18_code
def yX4_nameBelow : MethodName := ⟨RX4, "nameBelow", "(I)I"⟩
theorem dX4_nameBelow_0 : decode cX4_nameBelow 0 = .ok (.aload_n 0, 1) := by decide +kernel
theorem dX4_nameBelow_1 : decode cX4_nameBelow 1 = .ok (.iload_n 1, 1) := by decide +kernel
theorem dX4_nameBelow_2 : decode cX4_nameBelow 2 = .ok (.iconst 0, 1) := by decide +kernel
theorem dX4_nameBelow_3 : decode cX4_nameBelow 3 = .ok (.invokevirtual 52, 3) := by decide +kernel
theorem dX4_nameBelow_6 : decode cX4_nameBelow 6 = .ok (.istore_n 2, 1) := by decide +kernel
theorem dX4_nameBelow_7 : decode cX4_nameBelow 7 = .ok (.aload_n 0, 1) := by decide +kernel
theorem dX4_nameBelow_8 : decode cX4_nameBelow 8 = .ok (.getfield 14, 3) := by decide +kernel
theorem dX4_nameBelow_11 : decode cX4_nameBelow 11 = .ok (.iload_n 1, 1) := by decide +kernel
theorem dX4_nameBelow_12 : decode cX4_nameBelow 12 = .ok (.invokevirtual 48, 3) := by decide +kernel
theorem dX4_nameBelow_15 : decode cX4_nameBelow 15 = .ok (.ifCond .le 32, 3) := by decide +kernel
theorem dX4_nameBelow_18 : decode cX4_nameBelow 18 = .ok (.aload_n 0, 1) := by decide +kernel
theorem dX4_nameBelow_19 : decode cX4_nameBelow 19 = .ok (.getfield 20, 3) := by decide +kernel
theorem dX4_nameBelow_22 : decode cX4_nameBelow 22 = .ok (.iload_n 2, 1) := by decide +kernel
theorem dX4_nameBelow_23 : decode cX4_nameBelow 23 = .ok (.invokevirtual 48, 3) := by decide +kernel
theorem dX4_nameBelow_26 : decode cX4_nameBelow 26 = .ok (.iconst 3, 1) := by decide +kernel
theorem dX4_nameBelow_27 : decode cX4_nameBelow 27 = .ok (.if_icmp .ne 20, 3) := by decide +kernel
theorem dX4_nameBelow_30 : decode cX4_nameBelow 30 = .ok (.aload_n 0, 1) := by decide +kernel
theorem dX4_nameBelow_31 : decode cX4_nameBelow 31 = .ok (.getfield 23, 3) := by decide +kernel
theorem dX4_nameBelow_34 : decode cX4_nameBelow 34 = .ok (.iload_n 2, 1) := by decide +kernel
theorem dX4_nameBelow_35 : decode cX4_nameBelow 35 = .ok (.invokevirtual 48, 3) := by decide +kernel
theorem dX4_nameBelow_38 : decode cX4_nameBelow 38 = .ok (.bipush 8, 2) := by decide +kernel
theorem dX4_nameBelow_40 : decode cX4_nameBelow 40 = .ok (.if_icmp .ge 7, 3) := by decide +kernel
theorem dX4_nameBelow_43 : decode cX4_nameBelow 43 = .ok (.iconst 1, 1) := by decide +kernel
theorem dX4_nameBelow_44 : decode cX4_nameBelow 44 = .ok (.goto 4, 3) := by decide +kernel
theorem dX4_nameBelow_47 : decode cX4_nameBelow 47 = .ok (.iconst 0, 1) := by decide +kernel
theorem dX4_nameBelow_48 : decode cX4_nameBelow 48 = .ok (.istore_n 3, 1) := by decide +kernel
theorem dX4_nameBelow_49 : decode cX4_nameBelow 49 = .ok (.iload_n 3, 1) := by decide +kernel
theorem dX4_nameBelow_50 : decode cX4_nameBelow 50 = .ok (.ifCond .eq 14, 3) := by decide +kernel
theorem dX4_nameBelow_53 : decode cX4_nameBelow 53 = .ok (.aload_n 0, 1) := by decide +kernel
theorem dX4_nameBelow_54 : decode cX4_nameBelow 54 = .ok (.getfield 23, 3) := by decide +kernel
theorem dX4_nameBelow_57 : decode cX4_nameBelow 57 = .ok (.iload_n 2, 1) := by decide +kernel
theorem dX4_nameBelow_58 : decode cX4_nameBelow 58 = .ok (.invokevirtual 48, 3) := by decide +kernel
theorem dX4_nameBelow_61 : decode cX4_nameBelow 61 = .ok (.goto 4, 3) := by decide +kernel
theorem dX4_nameBelow_64 : decode cX4_nameBelow 64 = .ok (.iconst (-1), 1) := by decide +kernel
theorem dX4_nameBelow_65 : decode cX4_nameBelow 65 = .ok (.ireturn, 1) := by decide +kernel
abbrev cX4_goesDown : ByteArray := prog_6_method_20_code
def yX4_goesDown : MethodName := ⟨RX4, "goesDown", "(I)Z"⟩
theorem dX4_goesDown_0 : decode cX4_goesDown 0 = .ok (.iload_n 0, 1) := by decide +kernel
theorem dX4_goesDown_1 : decode cX4_goesDown 1 = .ok (.ifCond .eq 24, 3) := by decide +kernel
theorem dX4_goesDown_4 : decode cX4_goesDown 4 = .ok (.iload_n 0, 1) := by decide +kernel
theorem dX4_goesDown_5 : decode cX4_goesDown 5 = .ok (.iconst 1, 1) := by decide +kernel
theorem dX4_goesDown_6 : decode cX4_goesDown 6 = .ok (.if_icmp .eq 19, 3) := by decide +kernel
theorem dX4_goesDown_9 : decode cX4_goesDown 9 = .ok (.iload_n 0, 1) := by decide +kernel
theorem dX4_goesDown_10 : decode cX4_goesDown 10 = .ok (.iconst 3, 1) := by decide +kernel
theorem dX4_goesDown_11 : decode cX4_goesDown 11 = .ok (.if_icmp .eq 14, 3) := by decide +kernel
theorem dX4_goesDown_14 : decode cX4_goesDown 14 = .ok (.iload_n 0, 1) := by decide +kernel
theorem dX4_goesDown_15 : decode cX4_goesDown 15 = .ok (.iconst 4, 1) := by decide +kernel
theorem dX4_goesDown_16 : decode cX4_goesDown 16 = .ok (.if_icmp .eq 9, 3) := by decide +kernel
theorem dX4_goesDown_19 : decode cX4_goesDown 19 = .ok (.iload_n 0, 1) := by decide +kernel
theorem dX4_goesDown_20 : decode cX4_goesDown 20 = .ok (.bipush 11, 2) := by decide +kernel
theorem dX4_goesDown_22 : decode cX4_goesDown 22 = .ok (.if_icmp .ne 7, 3) := by decide +kernel
theorem dX4_goesDown_25 : decode cX4_goesDown 25 = .ok (.iconst 1, 1) := by decide +kernel
theorem dX4_goesDown_26 : decode cX4_goesDown 26 = .ok (.goto 4, 3) := by decide +kernel
theorem dX4_goesDown_29 : decode cX4_goesDown 29 = .ok (.iconst 0, 1) := by decide +kernel
theorem dX4_goesDown_30 : decode cX4_goesDown 30 = .ok (.ireturn, 1) := by decide +kernel
abbrev cX4_staysAtNode : ByteArray := prog_6_method_22_code
def yX4_staysAtNode : MethodName := ⟨RX4, "staysAtNode", "(I)Z"⟩
theorem dX4_staysAtNode_0 : decode cX4_staysAtNode 0 = .ok (.iconst 0, 1) := by decide +kernel
theorem dX4_staysAtNode_1 : decode cX4_staysAtNode 1 = .ok (.istore_n 2, 1) := by decide +kernel
theorem dX4_staysAtNode_2 : decode cX4_staysAtNode 2 = .ok (.iload_n 2, 1) := by decide +kernel
theorem dX4_staysAtNode_3 : decode cX4_staysAtNode 3 = .ok (.aload_n 0, 1) := by decide +kernel
theorem dX4_staysAtNode_4 : decode cX4_staysAtNode 4 = .ok (.getfield 14, 3) := by decide +kernel
theorem dX4_staysAtNode_7 : decode cX4_staysAtNode 7 = .ok (.iload_n 1, 1) := by decide +kernel
theorem dX4_staysAtNode_8 : decode cX4_staysAtNode 8 = .ok (.invokevirtual 48, 3) := by decide +kernel
theorem dX4_staysAtNode_11 : decode cX4_staysAtNode 11 = .ok (.if_icmp .ge 65, 3) := by decide +kernel
theorem dX4_staysAtNode_14 : decode cX4_staysAtNode 14 = .ok (.aload_n 0, 1) := by decide +kernel
theorem dX4_staysAtNode_15 : decode cX4_staysAtNode 15 = .ok (.iload_n 1, 1) := by decide +kernel
theorem dX4_staysAtNode_16 : decode cX4_staysAtNode 16 = .ok (.iload_n 2, 1) := by decide +kernel
theorem dX4_staysAtNode_17 : decode cX4_staysAtNode 17 = .ok (.invokevirtual 52, 3) := by decide +kernel
theorem dX4_staysAtNode_20 : decode cX4_staysAtNode 20 = .ok (.istore_n 3, 1) := by decide +kernel
theorem dX4_staysAtNode_21 : decode cX4_staysAtNode 21 = .ok (.aload_n 0, 1) := by decide +kernel
theorem dX4_staysAtNode_22 : decode cX4_staysAtNode 22 = .ok (.getfield 20, 3) := by decide +kernel
theorem dX4_staysAtNode_25 : decode cX4_staysAtNode 25 = .ok (.iload_n 3, 1) := by decide +kernel
theorem dX4_staysAtNode_26 : decode cX4_staysAtNode 26 = .ok (.invokevirtual 48, 3) := by decide +kernel
theorem dX4_staysAtNode_29 : decode cX4_staysAtNode 29 = .ok (.ifCond .eq 16, 3) := by decide +kernel
theorem dX4_staysAtNode_32 : decode cX4_staysAtNode 32 = .ok (.aload_n 0, 1) := by decide +kernel
theorem dX4_staysAtNode_33 : decode cX4_staysAtNode 33 = .ok (.getfield 20, 3) := by decide +kernel
theorem dX4_staysAtNode_36 : decode cX4_staysAtNode 36 = .ok (.iload_n 3, 1) := by decide +kernel
theorem dX4_staysAtNode_37 : decode cX4_staysAtNode 37 = .ok (.invokevirtual 48, 3) := by decide +kernel
theorem dX4_staysAtNode_40 : decode cX4_staysAtNode 40 = .ok (.bipush 11, 2) := by decide +kernel
theorem dX4_staysAtNode_42 : decode cX4_staysAtNode 42 = .ok (.if_icmp .ne 7, 3) := by decide +kernel
theorem dX4_staysAtNode_45 : decode cX4_staysAtNode 45 = .ok (.iconst 1, 1) := by decide +kernel
theorem dX4_staysAtNode_46 : decode cX4_staysAtNode 46 = .ok (.goto 4, 3) := by decide +kernel
theorem dX4_staysAtNode_49 : decode cX4_staysAtNode 49 = .ok (.iconst 0, 1) := by decide +kernel
theorem dX4_staysAtNode_50 : decode cX4_staysAtNode 50 = .ok (.istore 4, 2) := by decide +kernel
theorem dX4_staysAtNode_52 : decode cX4_staysAtNode 52 = .ok (.iload 4, 2) := by decide +kernel
theorem dX4_staysAtNode_54 : decode cX4_staysAtNode 54 = .ok (.ifCond .eq 14, 3) := by decide +kernel
theorem dX4_staysAtNode_57 : decode cX4_staysAtNode 57 = .ok (.aload_n 0, 1) := by decide +kernel
theorem dX4_staysAtNode_58 : decode cX4_staysAtNode 58 = .ok (.getfield 29, 3) := by decide +kernel
theorem dX4_staysAtNode_61 : decode cX4_staysAtNode 61 = .ok (.iload_n 3, 1) := by decide +kernel
theorem dX4_staysAtNode_62 : decode cX4_staysAtNode 62 = .ok (.invokevirtual 48, 3) := by decide +kernel
theorem dX4_staysAtNode_65 : decode cX4_staysAtNode 65 = .ok (.ifCond .le 5, 3) := by decide +kernel
theorem dX4_staysAtNode_68 : decode cX4_staysAtNode 68 = .ok (.iconst 0, 1) := by decide +kernel
theorem dX4_staysAtNode_69 : decode cX4_staysAtNode 69 = .ok (.ireturn, 1) := by decide +kernel
theorem dX4_staysAtNode_70 : decode cX4_staysAtNode 70 = .ok (.iinc 2 1, 3) := by decide +kernel
theorem dX4_staysAtNode_73 : decode cX4_staysAtNode 73 = .ok (.goto (-71), 3) := by decide +kernel
theorem dX4_staysAtNode_76 : decode cX4_staysAtNode 76 = .ok (.iconst 1, 1) := by decide +kernel
theorem dX4_staysAtNode_77 : decode cX4_staysAtNode 77 = .ok (.ireturn, 1) := by decide +kernel
abbrev cX4_isTellableAtOnce : ByteArray := prog_6_method_21_code
def yX4_isTellableAtOnce : MethodName := ⟨RX4, "isTellableAtOnce", "(I)Z"⟩
theorem dX4_isTellableAtOnce_0 : decode cX4_isTellableAtOnce 0 = .ok (.aload_n 0, 1) := by decide +kernel
theorem dX4_isTellableAtOnce_1 : decode cX4_isTellableAtOnce 1 = .ok (.getfield 32, 3) := by decide +kernel
theorem dX4_isTellableAtOnce_4 : decode cX4_isTellableAtOnce 4 = .ok (.iload_n 1, 1) := by decide +kernel
theorem dX4_isTellableAtOnce_5 : decode cX4_isTellableAtOnce 5 = .ok (.invokevirtual 48, 3) := by decide +kernel
theorem dX4_isTellableAtOnce_8 : decode cX4_isTellableAtOnce 8 = .ok (.istore_n 2, 1) := by decide +kernel
theorem dX4_isTellableAtOnce_9 : decode cX4_isTellableAtOnce 9 = .ok (.iload_n 2, 1) := by decide +kernel
theorem dX4_isTellableAtOnce_10 : decode cX4_isTellableAtOnce 10 = .ok (.ifCond .ne 21, 3) := by decide +kernel
theorem dX4_isTellableAtOnce_13 : decode cX4_isTellableAtOnce 13 = .ok (.aload_n 0, 1) := by decide +kernel
theorem dX4_isTellableAtOnce_14 : decode cX4_isTellableAtOnce 14 = .ok (.getfield 38, 3) := by decide +kernel
theorem dX4_isTellableAtOnce_17 : decode cX4_isTellableAtOnce 17 = .ok (.iload_n 1, 1) := by decide +kernel
theorem dX4_isTellableAtOnce_18 : decode cX4_isTellableAtOnce 18 = .ok (.invokevirtual 48, 3) := by decide +kernel
theorem dX4_isTellableAtOnce_21 : decode cX4_isTellableAtOnce 21 = .ok (.iconst 2, 1) := by decide +kernel
theorem dX4_isTellableAtOnce_22 : decode cX4_isTellableAtOnce 22 = .ok (.if_icmp .eq 7, 3) := by decide +kernel
theorem dX4_isTellableAtOnce_25 : decode cX4_isTellableAtOnce 25 = .ok (.iconst 1, 1) := by decide +kernel
theorem dX4_isTellableAtOnce_26 : decode cX4_isTellableAtOnce 26 = .ok (.goto 4, 3) := by decide +kernel
theorem dX4_isTellableAtOnce_29 : decode cX4_isTellableAtOnce 29 = .ok (.iconst 0, 1) := by decide +kernel
theorem dX4_isTellableAtOnce_30 : decode cX4_isTellableAtOnce 30 = .ok (.ireturn, 1) := by decide +kernel
theorem dX4_isTellableAtOnce_31 : decode cX4_isTellableAtOnce 31 = .ok (.iload_n 2, 1) := by decide +kernel
theorem dX4_isTellableAtOnce_32 : decode cX4_isTellableAtOnce 32 = .ok (.iconst 1, 1) := by decide +kernel
theorem dX4_isTellableAtOnce_33 : decode cX4_isTellableAtOnce 33 = .ok (.if_icmp .eq 22, 3) := by decide +kernel
theorem dX4_isTellableAtOnce_36 : decode cX4_isTellableAtOnce 36 = .ok (.aload_n 0, 1) := by decide +kernel
theorem dX4_isTellableAtOnce_37 : decode cX4_isTellableAtOnce 37 = .ok (.aload_n 0, 1) := by decide +kernel
theorem dX4_isTellableAtOnce_38 : decode cX4_isTellableAtOnce 38 = .ok (.getfield 35, 3) := by decide +kernel
theorem dX4_isTellableAtOnce_41 : decode cX4_isTellableAtOnce 41 = .ok (.iload_n 1, 1) := by decide +kernel
theorem dX4_isTellableAtOnce_42 : decode cX4_isTellableAtOnce 42 = .ok (.invokevirtual 48, 3) := by decide +kernel
theorem dX4_isTellableAtOnce_45 : decode cX4_isTellableAtOnce 45 = .ok (.invokevirtual 69, 3) := by decide +kernel
theorem dX4_isTellableAtOnce_48 : decode cX4_isTellableAtOnce 48 = .ok (.ifCond .eq 7, 3) := by decide +kernel
theorem dX4_isTellableAtOnce_51 : decode cX4_isTellableAtOnce 51 = .ok (.iconst 1, 1) := by decide +kernel
theorem dX4_isTellableAtOnce_52 : decode cX4_isTellableAtOnce 52 = .ok (.goto 4, 3) := by decide +kernel
theorem dX4_isTellableAtOnce_55 : decode cX4_isTellableAtOnce 55 = .ok (.iconst 0, 1) := by decide +kernel
theorem dX4_isTellableAtOnce_56 : decode cX4_isTellableAtOnce 56 = .ok (.ireturn, 1) := by decide +kernel
abbrev cX4_canStream : ByteArray := prog_6_method_19_code
def yX4_canStream : MethodName := ⟨RX4, "canStream", "(I)Z"⟩
theorem dX4_canStream_0 : decode cX4_canStream 0 = .ok (.iconst 0, 1) := by decide +kernel
theorem dX4_canStream_1 : decode cX4_canStream 1 = .ok (.istore_n 2, 1) := by decide +kernel
theorem dX4_canStream_2 : decode cX4_canStream 2 = .ok (.iload_n 2, 1) := by decide +kernel
theorem dX4_canStream_3 : decode cX4_canStream 3 = .ok (.aload_n 0, 1) := by decide +kernel
theorem dX4_canStream_4 : decode cX4_canStream 4 = .ok (.getfield 14, 3) := by decide +kernel
theorem dX4_canStream_7 : decode cX4_canStream 7 = .ok (.iload_n 1, 1) := by decide +kernel
theorem dX4_canStream_8 : decode cX4_canStream 8 = .ok (.invokevirtual 48, 3) := by decide +kernel
theorem dX4_canStream_11 : decode cX4_canStream 11 = .ok (.if_icmp .ge 70, 3) := by decide +kernel
theorem dX4_canStream_14 : decode cX4_canStream 14 = .ok (.aload_n 0, 1) := by decide +kernel
theorem dX4_canStream_15 : decode cX4_canStream 15 = .ok (.iload_n 1, 1) := by decide +kernel
theorem dX4_canStream_16 : decode cX4_canStream 16 = .ok (.iload_n 2, 1) := by decide +kernel
theorem dX4_canStream_17 : decode cX4_canStream 17 = .ok (.invokevirtual 52, 3) := by decide +kernel
theorem dX4_canStream_20 : decode cX4_canStream 20 = .ok (.istore_n 3, 1) := by decide +kernel
theorem dX4_canStream_21 : decode cX4_canStream 21 = .ok (.aload_n 0, 1) := by decide +kernel
theorem dX4_canStream_22 : decode cX4_canStream 22 = .ok (.getfield 20, 3) := by decide +kernel
theorem dX4_canStream_25 : decode cX4_canStream 25 = .ok (.iload_n 3, 1) := by decide +kernel
theorem dX4_canStream_26 : decode cX4_canStream 26 = .ok (.invokevirtual 48, 3) := by decide +kernel
theorem dX4_canStream_29 : decode cX4_canStream 29 = .ok (.invokestatic 62, 3) := by decide +kernel
theorem dX4_canStream_32 : decode cX4_canStream 32 = .ok (.ifCond .ne 5, 3) := by decide +kernel
theorem dX4_canStream_35 : decode cX4_canStream 35 = .ok (.iconst 0, 1) := by decide +kernel
theorem dX4_canStream_36 : decode cX4_canStream 36 = .ok (.ireturn, 1) := by decide +kernel
theorem dX4_canStream_37 : decode cX4_canStream 37 = .ok (.iconst 0, 1) := by decide +kernel
theorem dX4_canStream_38 : decode cX4_canStream 38 = .ok (.istore 4, 2) := by decide +kernel
theorem dX4_canStream_40 : decode cX4_canStream 40 = .ok (.iload 4, 2) := by decide +kernel
theorem dX4_canStream_42 : decode cX4_canStream 42 = .ok (.aload_n 0, 1) := by decide +kernel
theorem dX4_canStream_43 : decode cX4_canStream 43 = .ok (.getfield 29, 3) := by decide +kernel
theorem dX4_canStream_46 : decode cX4_canStream 46 = .ok (.iload_n 3, 1) := by decide +kernel
theorem dX4_canStream_47 : decode cX4_canStream 47 = .ok (.invokevirtual 48, 3) := by decide +kernel
theorem dX4_canStream_50 : decode cX4_canStream 50 = .ok (.if_icmp .ge 25, 3) := by decide +kernel
theorem dX4_canStream_53 : decode cX4_canStream 53 = .ok (.aload_n 0, 1) := by decide +kernel
theorem dX4_canStream_54 : decode cX4_canStream 54 = .ok (.aload_n 0, 1) := by decide +kernel
theorem dX4_canStream_55 : decode cX4_canStream 55 = .ok (.iload_n 3, 1) := by decide +kernel
theorem dX4_canStream_56 : decode cX4_canStream 56 = .ok (.iload 4, 2) := by decide +kernel
theorem dX4_canStream_58 : decode cX4_canStream 58 = .ok (.invokevirtual 59, 3) := by decide +kernel
theorem dX4_canStream_61 : decode cX4_canStream 61 = .ok (.invokevirtual 66, 3) := by decide +kernel
theorem dX4_canStream_64 : decode cX4_canStream 64 = .ok (.ifCond .ne 5, 3) := by decide +kernel
theorem dX4_canStream_67 : decode cX4_canStream 67 = .ok (.iconst 0, 1) := by decide +kernel
theorem dX4_canStream_68 : decode cX4_canStream 68 = .ok (.ireturn, 1) := by decide +kernel
theorem dX4_canStream_69 : decode cX4_canStream 69 = .ok (.iinc 4 1, 3) := by decide +kernel
theorem dX4_canStream_72 : decode cX4_canStream 72 = .ok (.goto (-32), 3) := by decide +kernel
theorem dX4_canStream_75 : decode cX4_canStream 75 = .ok (.iinc 2 1, 3) := by decide +kernel
theorem dX4_canStream_78 : decode cX4_canStream 78 = .ok (.goto (-76), 3) := by decide +kernel
theorem dX4_canStream_81 : decode cX4_canStream 81 = .ok (.iconst 1, 1) := by decide +kernel
theorem dX4_canStream_82 : decode cX4_canStream 82 = .ok (.ireturn, 1) := by decide +kernel
theorem tk_RX3_60 : Cond.fieldLink RX3 60 RX3 (TX3 12).2.1 (TX3 12).2.2.1 ∈ tq_G := tq_g (i := 131) (by decide +kernel) rfl
theorem tk_RX3_44 : Cond.fieldLink RX3 44 RX3 (TX3 7).2.1 (TX3 7).2.2.1 ∈ tq_G := tq_g (i := 126) (by decide +kernel) rfl
theorem tk_RX3_76 : Cond.methodLink RX3 76 yX7_get ∈ tq_G := tq_g (i := 422) (by decide +kernel) rfl
theorem tk_RX3_112 : Cond.methodLink RX3 112 yJ13_bitCount_95d88 ∈ tq_G := tq_g (i := 678) (by decide +kernel) rfl
theorem tk_y_X7_get : tq_yok yX7_get cX7_get 2 (some .long) 1 := ⟨tq_g (i := 425) (by decide +kernel) rfl, tq_g (i := 58) (by decide +kernel) rfl, ⟨by decide +kernel, by decide +kernel⟩, by decide +kernel, by decide⟩
theorem tk_v_X7_get : tq_vok yX7_get := ⟨tq_g (i := 423) (by decide +kernel) rfl, tq_g (i := 424) (by decide +kernel) rfl⟩
theorem tk_RX3_26 : Cond.fieldLink RX3 26 RX3 (TX3 3).2.1 (TX3 3).2.2.1 ∈ tq_G := tq_g (i := 122) (by decide +kernel) rfl
theorem tk_RX3_88 : Cond.methodLink RX3 88 yX5_get ∈ tq_G := tq_g (i := 409) (by decide +kernel) rfl
theorem tk_y_X5_get : tq_yok yX5_get cX5_get 2 (some .int) 1 := ⟨tq_g (i := 404) (by decide +kernel) rfl, tq_g (i := 56) (by decide +kernel) rfl, ⟨by decide +kernel, by decide +kernel⟩, by decide +kernel, by decide⟩
theorem tk_v_X5_get : tq_vok yX5_get := ⟨tq_g (i := 402) (by decide +kernel) rfl, tq_g (i := 403) (by decide +kernel) rfl⟩
theorem tk_RX3_14 : Cond.fieldLink RX3 14 RX3 (TX3 0).2.1 (TX3 0).2.2.1 ∈ tq_G := tq_g (i := 119) (by decide +kernel) rfl
theorem tk_RX3_53 : Cond.fieldLink RX3 53 RX3 (TX3 10).2.1 (TX3 10).2.2.1 ∈ tq_G := tq_g (i := 129) (by decide +kernel) rfl
theorem tk_RX3_47 : Cond.fieldLink RX3 47 RX3 (TX3 8).2.1 (TX3 8).2.2.1 ∈ tq_G := tq_g (i := 127) (by decide +kernel) rfl
theorem tk_RX3_50 : Cond.fieldLink RX3 50 RX3 (TX3 9).2.1 (TX3 9).2.2.1 ∈ tq_G := tq_g (i := 128) (by decide +kernel) rfl
theorem tk_RX3_108 : Cond.methodLink RX3 108 yX0_memberAt ∈ tq_G := tq_g (i := 500) (by decide +kernel) rfl
theorem tk_y_X0_memberAt : tq_yok yX0_memberAt cX0_memberAt 6 (some .int) 2 := ⟨tq_g (i := 502) (by decide +kernel) rfl, tq_g (i := 63) (by decide +kernel) rfl, ⟨by decide +kernel, by decide +kernel⟩, by decide +kernel, by decide⟩
theorem tk_s_X0_memberAt : Cond.static yX0_memberAt ∈ tq_G := tq_g (i := 501) (by decide +kernel) rfl
theorem tk_RX4_14 : Cond.fieldLink RX4 14 RX4 (TX4 0).2.1 (TX4 0).2.2.1 ∈ tq_G := tq_g (i := 261) (by decide +kernel) rfl
theorem tk_RX4_48 : Cond.methodLink RX4 48 yX5_get ∈ tq_G := tq_g (i := 851) (by decide +kernel) rfl
theorem tk_ki_5 : Int32.ofInt (5) = (5 : Int32) := by decide +kernel
theorem tk_RX4_20 : Cond.fieldLink RX4 20 RX4 (TX4 1).2.1 (TX4 1).2.2.1 ∈ tq_G := tq_g (i := 262) (by decide +kernel) rfl
theorem tk_RX4_26 : Cond.fieldLink RX4 26 RX4 (TX4 3).2.1 (TX4 3).2.2.1 ∈ tq_G := tq_g (i := 264) (by decide +kernel) rfl
theorem tk_RX4_23 : Cond.fieldLink RX4 23 RX4 (TX4 2).2.1 (TX4 2).2.2.1 ∈ tq_G := tq_g (i := 263) (by decide +kernel) rfl
theorem tk_RX3_80 : Cond.methodLink RX3 80 yX0_one ∈ tq_G := tq_g (i := 426) (by decide +kernel) rfl
theorem tk_RX3_37 : Cond.fieldLink RX3 37 RX3 (TX3 5).2.1 (TX3 5).2.2.1 ∈ tq_G := tq_g (i := 124) (by decide +kernel) rfl
theorem tk_RX3_57 : Cond.fieldLink RX3 57 RX3 (TX3 11).2.1 (TX3 11).2.2.1 ∈ tq_G := tq_g (i := 130) (by decide +kernel) rfl
theorem tk_RX3_99 : Cond.constantLong RX3 99 (-1) ∈ tq_G := tq_g (i := 446) (by decide +kernel) rfl
theorem tk_RX3_23 : Cond.fieldLink RX3 23 RX3 (TX3 2).2.1 (TX3 2).2.2.1 ∈ tq_G := tq_g (i := 121) (by decide +kernel) rfl
theorem tk_RX3_97 : Cond.methodLink RX3 97 yX0_below ∈ tq_G := tq_g (i := 442) (by decide +kernel) rfl
theorem tk_y_X0_below : tq_yok yX0_below cX0_below 1 (some .long) 1 := ⟨tq_g (i := 444) (by decide +kernel) rfl, tq_g (i := 63) (by decide +kernel) rfl, ⟨by decide +kernel, by decide +kernel⟩, by decide +kernel, by decide⟩
theorem tk_s_X0_below : Cond.static yX0_below ∈ tq_G := tq_g (i := 443) (by decide +kernel) rfl
theorem tk_RX3_41 : Cond.fieldLink RX3 41 RX3 (TX3 6).2.1 (TX3 6).2.2.1 ∈ tq_G := tq_g (i := 125) (by decide +kernel) rfl
theorem tk_RX4_29 : Cond.fieldLink RX4 29 RX4 (TX4 4).2.1 (TX4 4).2.2.1 ∈ tq_G := tq_g (i := 265) (by decide +kernel) rfl
theorem tk_RX4_32 : Cond.fieldLink RX4 32 RX4 (TX4 5).2.1 (TX4 5).2.2.1 ∈ tq_G := tq_g (i := 266) (by decide +kernel) rfl
theorem tk_RX4_38 : Cond.fieldLink RX4 38 RX4 (TX4 7).2.1 (TX4 7).2.2.1 ∈ tq_G := tq_g (i := 268) (by decide +kernel) rfl
theorem tk_RX4_41 : Cond.fieldLink RX4 41 RX4 (TX4 8).2.1 (TX4 8).2.2.1 ∈ tq_G := tq_g (i := 269) (by decide +kernel) rfl
theorem tk_RX4_35 : Cond.fieldLink RX4 35 RX4 (TX4 6).2.1 (TX4 6).2.2.1 ∈ tq_G := tq_g (i := 267) (by decide +kernel) rfl
theorem tk_RX3_3 : Cond.methodLink RX3 3 Lib.objectInit ∈ tq_G := tq_g (i := 93) (by decide +kernel) rfl
theorem tk_RX3_9 : Cond.classLink RX3 9 RX5 ∈ tq_G := tq_g (i := 94) (by decide +kernel) rfl
theorem tk_in5 : Cond.instantiable RX5 1 ∈ tq_G := tq_g (i := 95) (by decide +kernel) rfl
theorem tk_ini5 : Cond.initialized RX5 ∈ tq_G := tq_g (i := 56) (by decide +kernel) rfl
theorem tk_kb_60 : (Int8.ofInt (60)).toInt32 = (60 : Int32) := by decide +kernel
theorem tk_RX3_11 : Cond.methodLink RX3 11 yX5_init ∈ tq_G := tq_g (i := 96) (by decide +kernel) rfl
theorem tk_RX3_20 : Cond.fieldLink RX3 20 RX3 (TX3 1).2.1 (TX3 1).2.2.1 ∈ tq_G := tq_g (i := 120) (by decide +kernel) rfl
theorem tk_RX3_29 : Cond.fieldLink RX3 29 RX3 (TX3 4).2.1 (TX3 4).2.2.1 ∈ tq_G := tq_g (i := 123) (by decide +kernel) rfl
theorem tk_RX3_32 : Cond.classLink RX3 32 RX7 ∈ tq_G := tq_g (i := 108) (by decide +kernel) rfl
theorem tk_in7 : Cond.instantiable RX7 1 ∈ tq_G := tq_g (i := 109) (by decide +kernel) rfl
theorem tk_ini7 : Cond.initialized RX7 ∈ tq_G := tq_g (i := 58) (by decide +kernel) rfl
theorem tk_RX3_34 : Cond.methodLink RX3 34 yX7_init ∈ tq_G := tq_g (i := 110) (by decide +kernel) rfl
theorem tk_kb_14 : (Int8.ofInt (14)).toInt32 = (14 : Int32) := by decide +kernel
theorem tk_y_X7_init : tq_yok yX7_init cX7_init 2 none 1 := ⟨tq_g (i := 112) (by decide +kernel) rfl, tq_g (i := 58) (by decide +kernel) rfl, ⟨by decide +kernel, by decide +kernel⟩, by decide +kernel, by decide⟩
theorem tk_v_X7_init : Cond.instanceMethod yX7_init ∈ tq_G := tq_g (i := 111) (by decide +kernel) rfl
theorem tk_y_X5_init : tq_yok yX5_init cX5_init 3 none 2 := ⟨tq_g (i := 98) (by decide +kernel) rfl, tq_g (i := 56) (by decide +kernel) rfl, ⟨by decide +kernel, by decide +kernel⟩, by decide +kernel, by decide⟩
theorem tk_v_X5_init : Cond.instanceMethod yX5_init ∈ tq_G := tq_g (i := 97) (by decide +kernel) rfl
theorem tk_RX3_64 : Cond.methodLink RX3 64 yX5_setAll ∈ tq_G := tq_g (i := 390) (by decide +kernel) rfl
theorem tk_RX3_67 : Cond.methodLink RX3 67 yX7_emptyAll ∈ tq_G := tq_g (i := 394) (by decide +kernel) rfl
theorem tk_y_X7_emptyAll : tq_yok yX7_emptyAll cX7_emptyAll 1 none 0 := ⟨tq_g (i := 397) (by decide +kernel) rfl, tq_g (i := 58) (by decide +kernel) rfl, ⟨by decide +kernel, by decide +kernel⟩, by decide +kernel, by decide⟩
theorem tk_v_X7_emptyAll : tq_vok yX7_emptyAll := ⟨tq_g (i := 395) (by decide +kernel) rfl, tq_g (i := 396) (by decide +kernel) rfl⟩
theorem tk_y_X5_setAll : tq_yok yX5_setAll cX5_setAll 2 none 1 := ⟨tq_g (i := 393) (by decide +kernel) rfl, tq_g (i := 56) (by decide +kernel) rfl, ⟨by decide +kernel, by decide +kernel⟩, by decide +kernel, by decide⟩
theorem tk_v_X5_setAll : tq_vok yX5_setAll := ⟨tq_g (i := 391) (by decide +kernel) rfl, tq_g (i := 392) (by decide +kernel) rfl⟩
theorem tk_RX3_70 : Cond.methodLink RX3 70 yX5_set ∈ tq_G := tq_g (i := 414) (by decide +kernel) rfl
theorem tk_RX3_73 : Cond.methodLink RX3 73 yX7_add ∈ tq_G := tq_g (i := 415) (by decide +kernel) rfl
theorem tk_RX3_85 : Cond.methodLink RX3 85 yX7_set ∈ tq_G := tq_g (i := 427) (by decide +kernel) rfl
theorem tk_kb_10 : (Int8.ofInt (10)).toInt32 = (10 : Int32) := by decide +kernel
theorem tk_y_X7_add : tq_yok yX7_add cX7_add 3 none 2 := ⟨tq_g (i := 418) (by decide +kernel) rfl, tq_g (i := 58) (by decide +kernel) rfl, ⟨by decide +kernel, by decide +kernel⟩, by decide +kernel, by decide⟩
theorem tk_v_X7_add : tq_vok yX7_add := ⟨tq_g (i := 416) (by decide +kernel) rfl, tq_g (i := 417) (by decide +kernel) rfl⟩
theorem tk_y_X5_set : tq_yok yX5_set cX5_set 3 none 2 := ⟨tq_g (i := 381) (by decide +kernel) rfl, tq_g (i := 56) (by decide +kernel) rfl, ⟨by decide +kernel, by decide +kernel⟩, by decide +kernel, by decide⟩
theorem tk_v_X5_set : tq_vok yX5_set := ⟨tq_g (i := 379) (by decide +kernel) rfl, tq_g (i := 380) (by decide +kernel) rfl⟩
theorem tk_kb_9 : (Int8.ofInt (9)).toInt32 = (9 : Int32) := by decide +kernel
theorem tk_y_X7_set : tq_yok yX7_set cX7_set 4 none 2 := ⟨tq_g (i := 430) (by decide +kernel) rfl, tq_g (i := 58) (by decide +kernel) rfl, ⟨by decide +kernel, by decide +kernel⟩, by decide +kernel, by decide⟩
theorem tk_v_X7_set : tq_vok yX7_set := ⟨tq_g (i := 428) (by decide +kernel) rfl, tq_g (i := 429) (by decide +kernel) rfl⟩
theorem tk_RX3_91 : Cond.methodLink RX3 91 Lib.Math.max.name ∈ tq_G := tq_g (i := 439) (by decide +kernel) rfl
theorem tk_RX3_101 : Cond.methodLink RX3 101 yX0_holds ∈ tq_G := tq_g (i := 447) (by decide +kernel) rfl
theorem tk_RX3_105 : Cond.methodLink RX3 105 yX3_children ∈ tq_G := tq_g (i := 450) (by decide +kernel) rfl
theorem tk_y_X3_children : tq_yok yX3_children cX3_children 2 (some .long) 1 := ⟨tq_g (i := 453) (by decide +kernel) rfl, tq_g (i := 55) (by decide +kernel) rfl, ⟨by decide +kernel, by decide +kernel⟩, by decide +kernel, by decide⟩
theorem tk_v_X3_children : tq_vok yX3_children := ⟨tq_g (i := 451) (by decide +kernel) rfl, tq_g (i := 452) (by decide +kernel) rfl⟩
theorem tk_y_X0_holds : tq_yok yX0_holds cX0_holds 3 (some .boolean) 2 := ⟨tq_g (i := 449) (by decide +kernel) rfl, tq_g (i := 63) (by decide +kernel) rfl, ⟨by decide +kernel, by decide +kernel⟩, by decide +kernel, by decide⟩
theorem tk_s_X0_holds : Cond.static yX0_holds ∈ tq_G := tq_g (i := 448) (by decide +kernel) rfl
theorem tk_RX4_3 : Cond.methodLink RX4 3 Lib.objectInit ∈ tq_G := tq_g (i := 258) (by decide +kernel) rfl
theorem tk_RX4_9 : Cond.classLink RX4 9 RX5 ∈ tq_G := tq_g (i := 259) (by decide +kernel) rfl
theorem tk_kb_20 : (Int8.ofInt (20)).toInt32 = (20 : Int32) := by decide +kernel
theorem tk_RX4_11 : Cond.methodLink RX4 11 yX5_init ∈ tq_G := tq_g (i := 260) (by decide +kernel) rfl
theorem tk_kb_100 : (Int8.ofInt (100)).toInt32 = (100 : Int32) := by decide +kernel
theorem tk_ks_200 : (Int16.ofInt (200)).toInt32 = (200 : Int32) := by decide +kernel
theorem tk_RX4_44 : Cond.fieldLink RX4 44 RX4 (TX4 9).2.1 (TX4 9).2.2.1 ∈ tq_G := tq_g (i := 270) (by decide +kernel) rfl
theorem tk_RX4_52 : Cond.methodLink RX4 52 yX4_stepAt ∈ tq_G := tq_g (i := 1264) (by decide +kernel) rfl
theorem tk_RX4_56 : Cond.methodLink RX4 56 yX5_set ∈ tq_G := tq_g (i := 1265) (by decide +kernel) rfl
theorem tk_y_X4_stepAt : tq_yok yX4_stepAt cX4_stepAt 3 (some .int) 2 := ⟨tq_g (i := 855) (by decide +kernel) rfl, tq_g (i := 60) (by decide +kernel) rfl, ⟨by decide +kernel, by decide +kernel⟩, by decide +kernel, by decide⟩
theorem tk_v_X4_stepAt : tq_vok yX4_stepAt := ⟨tq_g (i := 853) (by decide +kernel) rfl, tq_g (i := 854) (by decide +kernel) rfl⟩
theorem tk_RX4_59 : Cond.methodLink RX4 59 yX4_conditionAt ∈ tq_G := tq_g (i := 1287) (by decide +kernel) rfl
theorem tk_y_X4_conditionAt : tq_yok yX4_conditionAt cX4_conditionAt 3 (some .int) 2 := ⟨tq_g (i := 900) (by decide +kernel) rfl, tq_g (i := 60) (by decide +kernel) rfl, ⟨by decide +kernel, by decide +kernel⟩, by decide +kernel, by decide⟩
theorem tk_v_X4_conditionAt : tq_vok yX4_conditionAt := ⟨tq_g (i := 898) (by decide +kernel) rfl, tq_g (i := 899) (by decide +kernel) rfl⟩
theorem tk_ki_3 : Int32.ofInt (3) = (3 : Int32) := by decide +kernel
theorem tk_kb_11 : (Int8.ofInt (11)).toInt32 = (11 : Int32) := by decide +kernel
theorem tk_RX4_69 : Cond.methodLink RX4 69 yX4_staysAtNode ∈ tq_G := tq_g (i := 1440) (by decide +kernel) rfl
theorem tk_y_X4_staysAtNode : tq_yok yX4_staysAtNode cX4_staysAtNode 5 (some .boolean) 1 := ⟨tq_g (i := 1443) (by decide +kernel) rfl, tq_g (i := 60) (by decide +kernel) rfl, ⟨by decide +kernel, by decide +kernel⟩, by decide +kernel, by decide⟩
theorem tk_v_X4_staysAtNode : tq_vok yX4_staysAtNode := ⟨tq_g (i := 1442) (by decide +kernel) rfl, tq_g (i := 39) (by decide +kernel) rfl⟩
theorem tk_RX4_62 : Cond.methodLink RX4 62 yX4_goesDown ∈ tq_G := tq_g (i := 1433) (by decide +kernel) rfl
theorem tk_RX4_66 : Cond.methodLink RX4 66 yX4_isTellableAtOnce ∈ tq_G := tq_g (i := 1436) (by decide +kernel) rfl
theorem tk_y_X4_isTellableAtOnce : tq_yok yX4_isTellableAtOnce cX4_isTellableAtOnce 3 (some .boolean) 1 := ⟨tq_g (i := 1439) (by decide +kernel) rfl, tq_g (i := 60) (by decide +kernel) rfl, ⟨by decide +kernel, by decide +kernel⟩, by decide +kernel, by decide⟩
theorem tk_v_X4_isTellableAtOnce : tq_vok yX4_isTellableAtOnce := ⟨tq_g (i := 1438) (by decide +kernel) rfl, tq_g (i := 38) (by decide +kernel) rfl⟩
theorem tk_y_X4_goesDown : tq_yok yX4_goesDown cX4_goesDown 1 (some .boolean) 1 := ⟨tq_g (i := 1435) (by decide +kernel) rfl, tq_g (i := 60) (by decide +kernel) rfl, ⟨by decide +kernel, by decide +kernel⟩, by decide +kernel, by decide⟩
theorem tk_s_X4_goesDown : Cond.static yX4_goesDown ∈ tq_G := tq_g (i := 1434) (by decide +kernel) rfl
abbrev mX3_count : tq_M := (RX3, cX3_count, 1, (some .int), false, [], none)
def f_X3_count (t : Nat) (h : tq_H) : Option (Int32) :=
  (tq_gi h t 3 12).bind fun x1 =>
  some x1
set_option maxHeartbeats 4000000 in
set_option maxRecDepth 20000 in
theorem w_X3_count {l : Launch} {d : Nat} (hd9 : 0 ≤ d) {t : Nat} {h : tq_H} {o : Int32} {Q : tq_R → tq_H → Prop} (hf : f_X3_count t h = some o) (hQ : ∀ r h9, r = .inl (some (.int o)) ∧ h = h9 → Q r h9) : tq_C l yX3_count cX3_count 1 (some .int) d 0 0 [.ref t] h Q := by
  refine tq_body (y := yX3_count) false (by decide +kernel) (fun z => by cases z) (Nat.le_of_ble_eq_true rfl) ?_
  show tq_W l mX3_count d 0 0 Q 0 [(0, .ref t)] [] h
  refine tq_aload_n (M := mX3_count) (pc := 0) dX3_count_0 rfl ?_
  obtain ⟨x1, ex1, hf⟩ := tq_be hf
  refine tq_getI (M := mX3_count) (pc := 1) tk_c3 (by decide) dX3_count_1 tk_RX3_60 rfl ex1 ?_
  refine tq_iret (M := mX3_count) (pc := 4) dX3_count_4 rfl ?_
  cases (Option.some.inj hf)
  exact hQ _ _ ⟨rfl, rfl⟩
abbrev mX3_depthAt : tq_M := (RX3, cX3_depthAt, 2, (some .int), false, [], none)
def f_X3_depthAt (t : Nat) (a1 : Int32) (h : tq_H) : Option (Int32) :=
  (tq_gr h t 3 7).bind fun k1 =>
  (tq_is h k1 7).bind fun _ =>
  (f_X7_get k1 a1 h).bind fun v2 =>
  (f_J13_bitCount_95d88 v2 h).bind fun v4 =>
  some v4
set_option maxHeartbeats 4000000 in
set_option maxRecDepth 20000 in
theorem w_X3_depthAt {l : Launch} {d : Nat} (hd9 : 1 ≤ d) {t : Nat} {a1 : Int32} {h : tq_H} {o : Int32} {Q : tq_R → tq_H → Prop} (hf : f_X3_depthAt t a1 h = some o) (hQ : ∀ r h9, r = .inl (some (.int o)) ∧ h = h9 → Q r h9) : tq_C l yX3_depthAt cX3_depthAt 2 (some .int) d 0 0 [.ref t, .int a1] h Q := by
  refine tq_body (y := yX3_depthAt) false (by decide +kernel) (fun z => by cases z) (Nat.le_of_ble_eq_true rfl) ?_
  show tq_W l mX3_depthAt d 0 0 Q 0 [(0, .ref t), (1, .int a1)] [] h
  refine tq_aload_n (M := mX3_depthAt) (pc := 0) dX3_depthAt_0 rfl ?_
  obtain ⟨k1, ek1, hf⟩ := tq_be hf
  refine tq_getR (M := mX3_depthAt) (pc := 1) tk_c3 (by decide) dX3_depthAt_1 tk_RX3_44 rfl ek1 ?_
  refine tq_iload_n (M := mX3_depthAt) (pc := 4) dX3_depthAt_4 rfl ?_
  obtain ⟨⟨⟩, eu3, hf⟩ := tq_be hf
  obtain ⟨fsu3, eu3⟩ := tq_is_s eu3
  obtain ⟨v2, ev2, hf⟩ := tq_be hf
  refine tq_calV (M := mX3_depthAt) (pc := 5) (S := []) tk_y_X7_get tk_v_X7_get tk_RX3_76 dX3_depthAt_5 [.int a1] rfl (S0 := _) rfl eu3 rfl (Nat.le_of_ble_eq_true rfl) (d1 := d - 1) (b1 := 0) (s1 := 0) (bc' := 0) (bs' := 0) (Q1 := fun r h9 => r = .inl (some (.long v2)) ∧ h = h9) (by omega) rfl rfl (w_X7_get (by omega) ev2 (fun _ _ q => q)) (fun E h9 q => nomatch (show (Sum.inr E : tq_R) = Sum.inl _ from q.1)) (fun r9 h9 q => ?_)
  obtain ⟨q1, rfl⟩ := q
  cases (show (Sum.inl r9 : tq_R) = Sum.inl (some (.long v2)) from q1)
  obtain ⟨v4, ev4, hf⟩ := tq_be hf
  refine tq_calS (M := mX3_depthAt) (pc := 8) (S := []) tk_y_J13_bitCount_95d88 tk_s_J13_bitCount_95d88 tk_RX3_112 dX3_depthAt_8 [.long v2] rfl (Nat.le_of_ble_eq_true rfl) (d1 := d - 1) (b1 := 0) (s1 := 0) (bc' := 0) (bs' := 0) (Q1 := fun r h9 => r = .inl (some (.int v4)) ∧ h = h9) (by omega) rfl rfl (w_J13_bitCount_95d88 (by omega) ev4 (fun _ _ q => q)) (fun E h9 q => nomatch (show (Sum.inr E : tq_R) = Sum.inl _ from q.1)) (fun r9 h9 q => ?_)
  obtain ⟨q1, rfl⟩ := q
  cases (show (Sum.inl r9 : tq_R) = Sum.inl (some (.int v4)) from q1)
  refine tq_iret (M := mX3_depthAt) (pc := 11) dX3_depthAt_11 rfl ?_
  cases (Option.some.inj hf)
  exact hQ _ _ ⟨rfl, rfl⟩
abbrev mX3_sizeAt : tq_M := (RX3, cX3_sizeAt, 2, (some .int), false, [], none)
def f_X3_sizeAt (t : Nat) (a1 : Int32) (h : tq_H) : Option (Int32) :=
  (tq_gr h t 3 3).bind fun k1 =>
  (tq_is h k1 5).bind fun _ =>
  (f_X5_get k1 a1 h).bind fun v2 =>
  some (v2 - a1)
set_option maxHeartbeats 4000000 in
set_option maxRecDepth 20000 in
theorem w_X3_sizeAt {l : Launch} {d : Nat} (hd9 : 1 ≤ d) {t : Nat} {a1 : Int32} {h : tq_H} {o : Int32} {Q : tq_R → tq_H → Prop} (hf : f_X3_sizeAt t a1 h = some o) (hQ : ∀ r h9, r = .inl (some (.int o)) ∧ h = h9 → Q r h9) : tq_C l yX3_sizeAt cX3_sizeAt 2 (some .int) d 0 0 [.ref t, .int a1] h Q := by
  refine tq_body (y := yX3_sizeAt) false (by decide +kernel) (fun z => by cases z) (Nat.le_of_ble_eq_true rfl) ?_
  show tq_W l mX3_sizeAt d 0 0 Q 0 [(0, .ref t), (1, .int a1)] [] h
  refine tq_aload_n (M := mX3_sizeAt) (pc := 0) dX3_sizeAt_0 rfl ?_
  obtain ⟨k1, ek1, hf⟩ := tq_be hf
  refine tq_getR (M := mX3_sizeAt) (pc := 1) tk_c3 (by decide) dX3_sizeAt_1 tk_RX3_26 rfl ek1 ?_
  refine tq_iload_n (M := mX3_sizeAt) (pc := 4) dX3_sizeAt_4 rfl ?_
  obtain ⟨⟨⟩, eu3, hf⟩ := tq_be hf
  obtain ⟨fsu3, eu3⟩ := tq_is_s eu3
  obtain ⟨v2, ev2, hf⟩ := tq_be hf
  refine tq_calV (M := mX3_sizeAt) (pc := 5) (S := []) tk_y_X5_get tk_v_X5_get tk_RX3_88 dX3_sizeAt_5 [.int a1] rfl (S0 := _) rfl eu3 rfl (Nat.le_of_ble_eq_true rfl) (d1 := d - 1) (b1 := 0) (s1 := 0) (bc' := 0) (bs' := 0) (Q1 := fun r h9 => r = .inl (some (.int v2)) ∧ h = h9) (by omega) rfl rfl (w_X5_get (by omega) ev2 (fun _ _ q => q)) (fun E h9 q => nomatch (show (Sum.inr E : tq_R) = Sum.inl _ from q.1)) (fun r9 h9 q => ?_)
  obtain ⟨q1, rfl⟩ := q
  cases (show (Sum.inl r9 : tq_R) = Sum.inl (some (.int v2)) from q1)
  refine tq_iload_n (M := mX3_sizeAt) (pc := 8) dX3_sizeAt_8 rfl ?_
  refine tq_isub (M := mX3_sizeAt) (pc := 9) dX3_sizeAt_9 ?_
  refine tq_iret (M := mX3_sizeAt) (pc := 10) dX3_sizeAt_10 rfl ?_
  cases (Option.some.inj hf)
  exact hQ _ _ ⟨rfl, rfl⟩
abbrev mX3_nodeAt : tq_M := (RX3, cX3_nodeAt, 2, (some .int), false, [], none)
def f_X3_nodeAt (t : Nat) (a1 : Int32) (h : tq_H) : Option (Int32) :=
  (tq_gr h t 3 0).bind fun k1 =>
  (tq_is h k1 5).bind fun _ =>
  (f_X5_get k1 a1 h).bind fun v2 =>
  some v2
set_option maxHeartbeats 4000000 in
set_option maxRecDepth 20000 in
theorem w_X3_nodeAt {l : Launch} {d : Nat} (hd9 : 1 ≤ d) {t : Nat} {a1 : Int32} {h : tq_H} {o : Int32} {Q : tq_R → tq_H → Prop} (hf : f_X3_nodeAt t a1 h = some o) (hQ : ∀ r h9, r = .inl (some (.int o)) ∧ h = h9 → Q r h9) : tq_C l yX3_nodeAt cX3_nodeAt 2 (some .int) d 0 0 [.ref t, .int a1] h Q := by
  refine tq_body (y := yX3_nodeAt) false (by decide +kernel) (fun z => by cases z) (Nat.le_of_ble_eq_true rfl) ?_
  show tq_W l mX3_nodeAt d 0 0 Q 0 [(0, .ref t), (1, .int a1)] [] h
  refine tq_aload_n (M := mX3_nodeAt) (pc := 0) dX3_nodeAt_0 rfl ?_
  obtain ⟨k1, ek1, hf⟩ := tq_be hf
  refine tq_getR (M := mX3_nodeAt) (pc := 1) tk_c3 (by decide) dX3_nodeAt_1 tk_RX3_14 rfl ek1 ?_
  refine tq_iload_n (M := mX3_nodeAt) (pc := 4) dX3_nodeAt_4 rfl ?_
  obtain ⟨⟨⟩, eu3, hf⟩ := tq_be hf
  obtain ⟨fsu3, eu3⟩ := tq_is_s eu3
  obtain ⟨v2, ev2, hf⟩ := tq_be hf
  refine tq_calV (M := mX3_nodeAt) (pc := 5) (S := []) tk_y_X5_get tk_v_X5_get tk_RX3_88 dX3_nodeAt_5 [.int a1] rfl (S0 := _) rfl eu3 rfl (Nat.le_of_ble_eq_true rfl) (d1 := d - 1) (b1 := 0) (s1 := 0) (bc' := 0) (bs' := 0) (Q1 := fun r h9 => r = .inl (some (.int v2)) ∧ h = h9) (by omega) rfl rfl (w_X5_get (by omega) ev2 (fun _ _ q => q)) (fun E h9 q => nomatch (show (Sum.inr E : tq_R) = Sum.inl _ from q.1)) (fun r9 h9 q => ?_)
  obtain ⟨q1, rfl⟩ := q
  cases (show (Sum.inl r9 : tq_R) = Sum.inl (some (.int v2)) from q1)
  refine tq_iret (M := mX3_nodeAt) (pc := 8) dX3_nodeAt_8 rfl ?_
  cases (Option.some.inj hf)
  exact hQ _ _ ⟨rfl, rfl⟩
abbrev mX3_elements : tq_M := (RX3, cX3_elements, 1, (some .long), false, [], none)
def f_X3_elements (t : Nat) (h : tq_H) : Option (Int64) :=
  (tq_gl h t 3 10).bind fun x1 =>
  some x1
set_option maxHeartbeats 4000000 in
set_option maxRecDepth 20000 in
theorem w_X3_elements {l : Launch} {d : Nat} (hd9 : 0 ≤ d) {t : Nat} {h : tq_H} {o : Int64} {Q : tq_R → tq_H → Prop} (hf : f_X3_elements t h = some o) (hQ : ∀ r h9, r = .inl (some (.long o)) ∧ h = h9 → Q r h9) : tq_C l yX3_elements cX3_elements 1 (some .long) d 0 0 [.ref t] h Q := by
  refine tq_body (y := yX3_elements) false (by decide +kernel) (fun z => by cases z) (Nat.le_of_ble_eq_true rfl) ?_
  show tq_W l mX3_elements d 0 0 Q 0 [(0, .ref t)] [] h
  refine tq_aload_n (M := mX3_elements) (pc := 0) dX3_elements_0 rfl ?_
  obtain ⟨x1, ex1, hf⟩ := tq_be hf
  refine tq_getL (M := mX3_elements) (pc := 1) tk_c3 (by decide) dX3_elements_1 tk_RX3_53 rfl ex1 ?_
  refine tq_lret (M := mX3_elements) (pc := 4) dX3_elements_4 rfl ?_
  cases (Option.some.inj hf)
  exact hQ _ _ ⟨rfl, rfl⟩
abbrev mX3_below : tq_M := (RX3, cX3_below, 2, (some .long), false, [], none)
def f_X3_below (t : Nat) (a1 : Int32) (h : tq_H) : Option (Int64) :=
  (tq_gr h t 3 8).bind fun k1 =>
  (tq_is h k1 7).bind fun _ =>
  (f_X7_get k1 a1 h).bind fun v2 =>
  some v2
set_option maxHeartbeats 4000000 in
set_option maxRecDepth 20000 in
theorem w_X3_below {l : Launch} {d : Nat} (hd9 : 1 ≤ d) {t : Nat} {a1 : Int32} {h : tq_H} {o : Int64} {Q : tq_R → tq_H → Prop} (hf : f_X3_below t a1 h = some o) (hQ : ∀ r h9, r = .inl (some (.long o)) ∧ h = h9 → Q r h9) : tq_C l yX3_below cX3_below 2 (some .long) d 0 0 [.ref t, .int a1] h Q := by
  refine tq_body (y := yX3_below) false (by decide +kernel) (fun z => by cases z) (Nat.le_of_ble_eq_true rfl) ?_
  show tq_W l mX3_below d 0 0 Q 0 [(0, .ref t), (1, .int a1)] [] h
  refine tq_aload_n (M := mX3_below) (pc := 0) dX3_below_0 rfl ?_
  obtain ⟨k1, ek1, hf⟩ := tq_be hf
  refine tq_getR (M := mX3_below) (pc := 1) tk_c3 (by decide) dX3_below_1 tk_RX3_47 rfl ek1 ?_
  refine tq_iload_n (M := mX3_below) (pc := 4) dX3_below_4 rfl ?_
  obtain ⟨⟨⟩, eu3, hf⟩ := tq_be hf
  obtain ⟨fsu3, eu3⟩ := tq_is_s eu3
  obtain ⟨v2, ev2, hf⟩ := tq_be hf
  refine tq_calV (M := mX3_below) (pc := 5) (S := []) tk_y_X7_get tk_v_X7_get tk_RX3_76 dX3_below_5 [.int a1] rfl (S0 := _) rfl eu3 rfl (Nat.le_of_ble_eq_true rfl) (d1 := d - 1) (b1 := 0) (s1 := 0) (bc' := 0) (bs' := 0) (Q1 := fun r h9 => r = .inl (some (.long v2)) ∧ h = h9) (by omega) rfl rfl (w_X7_get (by omega) ev2 (fun _ _ q => q)) (fun E h9 q => nomatch (show (Sum.inr E : tq_R) = Sum.inl _ from q.1)) (fun r9 h9 q => ?_)
  obtain ⟨q1, rfl⟩ := q
  cases (show (Sum.inl r9 : tq_R) = Sum.inl (some (.long v2)) from q1)
  refine tq_lret (M := mX3_below) (pc := 8) dX3_below_8 rfl ?_
  cases (Option.some.inj hf)
  exact hQ _ _ ⟨rfl, rfl⟩
abbrev mX3_passing : tq_M := (RX3, cX3_passing, 2, (some .long), false, [], none)
def f_X3_passing (t : Nat) (a1 : Int32) (h : tq_H) : Option (Int64) :=
  (tq_gr h t 3 9).bind fun k1 =>
  (tq_is h k1 7).bind fun _ =>
  (f_X7_get k1 a1 h).bind fun v2 =>
  some v2
set_option maxHeartbeats 4000000 in
set_option maxRecDepth 20000 in
theorem w_X3_passing {l : Launch} {d : Nat} (hd9 : 1 ≤ d) {t : Nat} {a1 : Int32} {h : tq_H} {o : Int64} {Q : tq_R → tq_H → Prop} (hf : f_X3_passing t a1 h = some o) (hQ : ∀ r h9, r = .inl (some (.long o)) ∧ h = h9 → Q r h9) : tq_C l yX3_passing cX3_passing 2 (some .long) d 0 0 [.ref t, .int a1] h Q := by
  refine tq_body (y := yX3_passing) false (by decide +kernel) (fun z => by cases z) (Nat.le_of_ble_eq_true rfl) ?_
  show tq_W l mX3_passing d 0 0 Q 0 [(0, .ref t), (1, .int a1)] [] h
  refine tq_aload_n (M := mX3_passing) (pc := 0) dX3_passing_0 rfl ?_
  obtain ⟨k1, ek1, hf⟩ := tq_be hf
  refine tq_getR (M := mX3_passing) (pc := 1) tk_c3 (by decide) dX3_passing_1 tk_RX3_50 rfl ek1 ?_
  refine tq_iload_n (M := mX3_passing) (pc := 4) dX3_passing_4 rfl ?_
  obtain ⟨⟨⟩, eu3, hf⟩ := tq_be hf
  obtain ⟨fsu3, eu3⟩ := tq_is_s eu3
  obtain ⟨v2, ev2, hf⟩ := tq_be hf
  refine tq_calV (M := mX3_passing) (pc := 5) (S := []) tk_y_X7_get tk_v_X7_get tk_RX3_76 dX3_passing_5 [.int a1] rfl (S0 := _) rfl eu3 rfl (Nat.le_of_ble_eq_true rfl) (d1 := d - 1) (b1 := 0) (s1 := 0) (bc' := 0) (bs' := 0) (Q1 := fun r h9 => r = .inl (some (.long v2)) ∧ h = h9) (by omega) rfl rfl (w_X7_get (by omega) ev2 (fun _ _ q => q)) (fun E h9 q => nomatch (show (Sum.inr E : tq_R) = Sum.inl _ from q.1)) (fun r9 h9 q => ?_)
  obtain ⟨q1, rfl⟩ := q
  cases (show (Sum.inl r9 : tq_R) = Sum.inl (some (.long v2)) from q1)
  refine tq_lret (M := mX3_passing) (pc := 8) dX3_passing_8 rfl ?_
  cases (Option.some.inj hf)
  exact hQ _ _ ⟨rfl, rfl⟩
abbrev mX3_nodeOfSet : tq_M := (RX3, cX3_nodeOfSet, 4, (some .int), false, [], none)
def f_X3_nodeOfSet (t : Nat) (a1 : Int64) (a3 : Int32) (h : tq_H) : Option (Int32) :=
  (tq_gr h t 3 0).bind fun k1 =>
  (f_X0_memberAt a1 a3 h).bind fun v2 =>
  (tq_is h k1 5).bind fun _ =>
  (f_X5_get k1 v2 h).bind fun v3 =>
  some v3
set_option maxHeartbeats 4000000 in
set_option maxRecDepth 20000 in
theorem w_X3_nodeOfSet {l : Launch} {d : Nat} (hd9 : 3 ≤ d) {t : Nat} {a1 : Int64} {a3 : Int32} {h : tq_H} {o : Int32} {Q : tq_R → tq_H → Prop} (hf : f_X3_nodeOfSet t a1 a3 h = some o) (hQ : ∀ r h9, r = .inl (some (.int o)) ∧ h = h9 → Q r h9) : tq_C l yX3_nodeOfSet cX3_nodeOfSet 4 (some .int) d 0 0 [.ref t, .long a1, .int a3] h Q := by
  refine tq_body (y := yX3_nodeOfSet) false (by decide +kernel) (fun z => by cases z) (Nat.le_of_ble_eq_true rfl) ?_
  show tq_W l mX3_nodeOfSet d 0 0 Q 0 [(0, .ref t), (1, .long a1), (3, .int a3)] [] h
  refine tq_aload_n (M := mX3_nodeOfSet) (pc := 0) dX3_nodeOfSet_0 rfl ?_
  obtain ⟨k1, ek1, hf⟩ := tq_be hf
  refine tq_getR (M := mX3_nodeOfSet) (pc := 1) tk_c3 (by decide) dX3_nodeOfSet_1 tk_RX3_14 rfl ek1 ?_
  refine tq_lload_n (M := mX3_nodeOfSet) (pc := 4) dX3_nodeOfSet_4 rfl ?_
  refine tq_iload_n (M := mX3_nodeOfSet) (pc := 5) dX3_nodeOfSet_5 rfl ?_
  obtain ⟨v2, ev2, hf⟩ := tq_be hf
  refine tq_calS (M := mX3_nodeOfSet) (pc := 6) (S := [.ref k1]) tk_y_X0_memberAt tk_s_X0_memberAt tk_RX3_108 dX3_nodeOfSet_6 [.long a1, .int a3] rfl (Nat.le_of_ble_eq_true rfl) (d1 := d - 1) (b1 := 0) (s1 := 0) (bc' := 0) (bs' := 0) (Q1 := fun r h9 => r = .inl (some (.int v2)) ∧ h = h9) (by omega) rfl rfl (w_X0_memberAt (by omega) ev2 (fun _ _ q => q)) (fun E h9 q => nomatch (show (Sum.inr E : tq_R) = Sum.inl _ from q.1)) (fun r9 h9 q => ?_)
  obtain ⟨q1, rfl⟩ := q
  cases (show (Sum.inl r9 : tq_R) = Sum.inl (some (.int v2)) from q1)
  obtain ⟨⟨⟩, eu4, hf⟩ := tq_be hf
  obtain ⟨fsu4, eu4⟩ := tq_is_s eu4
  obtain ⟨v3, ev3, hf⟩ := tq_be hf
  refine tq_calV (M := mX3_nodeOfSet) (pc := 9) (S := []) tk_y_X5_get tk_v_X5_get tk_RX3_88 dX3_nodeOfSet_9 [.int v2] rfl (S0 := _) rfl eu4 rfl (Nat.le_of_ble_eq_true rfl) (d1 := d - 1) (b1 := 0) (s1 := 0) (bc' := 0) (bs' := 0) (Q1 := fun r h9 => r = .inl (some (.int v3)) ∧ h = h9) (by omega) rfl rfl (w_X5_get (by omega) ev3 (fun _ _ q => q)) (fun E h9 q => nomatch (show (Sum.inr E : tq_R) = Sum.inl _ from q.1)) (fun r9 h9 q => ?_)
  obtain ⟨q1, rfl⟩ := q
  cases (show (Sum.inl r9 : tq_R) = Sum.inl (some (.int v3)) from q1)
  refine tq_iret (M := mX3_nodeOfSet) (pc := 12) dX3_nodeOfSet_12 rfl ?_
  cases (Option.some.inj hf)
  exact hQ _ _ ⟨rfl, rfl⟩
abbrev mX4_stepsOf : tq_M := (RX4, cX4_stepsOf, 2, (some .int), false, [], none)
def f_X4_stepsOf (t : Nat) (a1 : Int32) (h : tq_H) : Option (Int32) :=
  (tq_gr h t 4 0).bind fun k1 =>
  (tq_is h k1 5).bind fun _ =>
  (f_X5_get k1 a1 h).bind fun v2 =>
  some v2
set_option maxHeartbeats 4000000 in
set_option maxRecDepth 20000 in
theorem w_X4_stepsOf {l : Launch} {d : Nat} (hd9 : 1 ≤ d) {t : Nat} {a1 : Int32} {h : tq_H} {o : Int32} {Q : tq_R → tq_H → Prop} (hf : f_X4_stepsOf t a1 h = some o) (hQ : ∀ r h9, r = .inl (some (.int o)) ∧ h = h9 → Q r h9) : tq_C l yX4_stepsOf cX4_stepsOf 2 (some .int) d 0 0 [.ref t, .int a1] h Q := by
  refine tq_body (y := yX4_stepsOf) false (by decide +kernel) (fun z => by cases z) (Nat.le_of_ble_eq_true rfl) ?_
  show tq_W l mX4_stepsOf d 0 0 Q 0 [(0, .ref t), (1, .int a1)] [] h
  refine tq_aload_n (M := mX4_stepsOf) (pc := 0) dX4_stepsOf_0 rfl ?_
  obtain ⟨k1, ek1, hf⟩ := tq_be hf
  refine tq_getR (M := mX4_stepsOf) (pc := 1) tk_c4 (by decide) dX4_stepsOf_1 tk_RX4_14 rfl ek1 ?_
  refine tq_iload_n (M := mX4_stepsOf) (pc := 4) dX4_stepsOf_4 rfl ?_
  obtain ⟨⟨⟩, eu3, hf⟩ := tq_be hf
  obtain ⟨fsu3, eu3⟩ := tq_is_s eu3
  obtain ⟨v2, ev2, hf⟩ := tq_be hf
  refine tq_calV (M := mX4_stepsOf) (pc := 5) (S := []) tk_y_X5_get tk_v_X5_get tk_RX4_48 dX4_stepsOf_5 [.int a1] rfl (S0 := _) rfl eu3 rfl (Nat.le_of_ble_eq_true rfl) (d1 := d - 1) (b1 := 0) (s1 := 0) (bc' := 0) (bs' := 0) (Q1 := fun r h9 => r = .inl (some (.int v2)) ∧ h = h9) (by omega) rfl rfl (w_X5_get (by omega) ev2 (fun _ _ q => q)) (fun E h9 q => nomatch (show (Sum.inr E : tq_R) = Sum.inl _ from q.1)) (fun r9 h9 q => ?_)
  obtain ⟨q1, rfl⟩ := q
  cases (show (Sum.inl r9 : tq_R) = Sum.inl (some (.int v2)) from q1)
  refine tq_iret (M := mX4_stepsOf) (pc := 8) dX4_stepsOf_8 rfl ?_
  cases (Option.some.inj hf)
  exact hQ _ _ ⟨rfl, rfl⟩
abbrev mX4_stepAt : tq_M := (RX4, cX4_stepAt, 3, (some .int), false, [], none)
def f_X4_stepAt (t : Nat) (a1 : Int32) (a2 : Int32) (h : tq_H) : Option (Int32) :=
  some ((a1 * (5 : Int32)) + a2)
set_option maxHeartbeats 4000000 in
set_option maxRecDepth 20000 in
theorem w_X4_stepAt {l : Launch} {d : Nat} (hd9 : 0 ≤ d) {t : Nat} {a1 : Int32} {a2 : Int32} {h : tq_H} {o : Int32} {Q : tq_R → tq_H → Prop} (hf : f_X4_stepAt t a1 a2 h = some o) (hQ : ∀ r h9, r = .inl (some (.int o)) ∧ h = h9 → Q r h9) : tq_C l yX4_stepAt cX4_stepAt 3 (some .int) d 0 0 [.ref t, .int a1, .int a2] h Q := by
  refine tq_body (y := yX4_stepAt) false (by decide +kernel) (fun z => by cases z) (Nat.le_of_ble_eq_true rfl) ?_
  show tq_W l mX4_stepAt d 0 0 Q 0 [(0, .ref t), (1, .int a1), (2, .int a2)] [] h
  refine tq_iload_n (M := mX4_stepAt) (pc := 0) dX4_stepAt_0 rfl ?_
  refine tq_iconst (M := mX4_stepAt) (pc := 1) dX4_stepAt_1 tk_ki_5 ?_
  refine tq_imul (M := mX4_stepAt) (pc := 2) dX4_stepAt_2 ?_
  refine tq_iload_n (M := mX4_stepAt) (pc := 3) dX4_stepAt_3 rfl ?_
  refine tq_iadd (M := mX4_stepAt) (pc := 4) dX4_stepAt_4 ?_
  refine tq_iret (M := mX4_stepAt) (pc := 5) dX4_stepAt_5 rfl ?_
  cases (Option.some.inj hf)
  exact hQ _ _ ⟨rfl, rfl⟩
abbrev mX4_axisOf : tq_M := (RX4, cX4_axisOf, 2, (some .int), false, [], none)
def f_X4_axisOf (t : Nat) (a1 : Int32) (h : tq_H) : Option (Int32) :=
  (tq_gr h t 4 1).bind fun k1 =>
  (tq_is h k1 5).bind fun _ =>
  (f_X5_get k1 a1 h).bind fun v2 =>
  some v2
set_option maxHeartbeats 4000000 in
set_option maxRecDepth 20000 in
theorem w_X4_axisOf {l : Launch} {d : Nat} (hd9 : 1 ≤ d) {t : Nat} {a1 : Int32} {h : tq_H} {o : Int32} {Q : tq_R → tq_H → Prop} (hf : f_X4_axisOf t a1 h = some o) (hQ : ∀ r h9, r = .inl (some (.int o)) ∧ h = h9 → Q r h9) : tq_C l yX4_axisOf cX4_axisOf 2 (some .int) d 0 0 [.ref t, .int a1] h Q := by
  refine tq_body (y := yX4_axisOf) false (by decide +kernel) (fun z => by cases z) (Nat.le_of_ble_eq_true rfl) ?_
  show tq_W l mX4_axisOf d 0 0 Q 0 [(0, .ref t), (1, .int a1)] [] h
  refine tq_aload_n (M := mX4_axisOf) (pc := 0) dX4_axisOf_0 rfl ?_
  obtain ⟨k1, ek1, hf⟩ := tq_be hf
  refine tq_getR (M := mX4_axisOf) (pc := 1) tk_c4 (by decide) dX4_axisOf_1 tk_RX4_20 rfl ek1 ?_
  refine tq_iload_n (M := mX4_axisOf) (pc := 4) dX4_axisOf_4 rfl ?_
  obtain ⟨⟨⟩, eu3, hf⟩ := tq_be hf
  obtain ⟨fsu3, eu3⟩ := tq_is_s eu3
  obtain ⟨v2, ev2, hf⟩ := tq_be hf
  refine tq_calV (M := mX4_axisOf) (pc := 5) (S := []) tk_y_X5_get tk_v_X5_get tk_RX4_48 dX4_axisOf_5 [.int a1] rfl (S0 := _) rfl eu3 rfl (Nat.le_of_ble_eq_true rfl) (d1 := d - 1) (b1 := 0) (s1 := 0) (bc' := 0) (bs' := 0) (Q1 := fun r h9 => r = .inl (some (.int v2)) ∧ h = h9) (by omega) rfl rfl (w_X5_get (by omega) ev2 (fun _ _ q => q)) (fun E h9 q => nomatch (show (Sum.inr E : tq_R) = Sum.inl _ from q.1)) (fun r9 h9 q => ?_)
  obtain ⟨q1, rfl⟩ := q
  cases (show (Sum.inl r9 : tq_R) = Sum.inl (some (.int v2)) from q1)
  refine tq_iret (M := mX4_axisOf) (pc := 8) dX4_axisOf_8 rfl ?_
  cases (Option.some.inj hf)
  exact hQ _ _ ⟨rfl, rfl⟩
abbrev mX4_repeatOf : tq_M := (RX4, cX4_repeatOf, 2, (some .int), false, [], none)
def f_X4_repeatOf (t : Nat) (a1 : Int32) (h : tq_H) : Option (Int32) :=
  (tq_gr h t 4 3).bind fun k1 =>
  (tq_is h k1 5).bind fun _ =>
  (f_X5_get k1 a1 h).bind fun v2 =>
  some v2
set_option maxHeartbeats 4000000 in
set_option maxRecDepth 20000 in
theorem w_X4_repeatOf {l : Launch} {d : Nat} (hd9 : 1 ≤ d) {t : Nat} {a1 : Int32} {h : tq_H} {o : Int32} {Q : tq_R → tq_H → Prop} (hf : f_X4_repeatOf t a1 h = some o) (hQ : ∀ r h9, r = .inl (some (.int o)) ∧ h = h9 → Q r h9) : tq_C l yX4_repeatOf cX4_repeatOf 2 (some .int) d 0 0 [.ref t, .int a1] h Q := by
  refine tq_body (y := yX4_repeatOf) false (by decide +kernel) (fun z => by cases z) (Nat.le_of_ble_eq_true rfl) ?_
  show tq_W l mX4_repeatOf d 0 0 Q 0 [(0, .ref t), (1, .int a1)] [] h
  refine tq_aload_n (M := mX4_repeatOf) (pc := 0) dX4_repeatOf_0 rfl ?_
  obtain ⟨k1, ek1, hf⟩ := tq_be hf
  refine tq_getR (M := mX4_repeatOf) (pc := 1) tk_c4 (by decide) dX4_repeatOf_1 tk_RX4_26 rfl ek1 ?_
  refine tq_iload_n (M := mX4_repeatOf) (pc := 4) dX4_repeatOf_4 rfl ?_
  obtain ⟨⟨⟩, eu3, hf⟩ := tq_be hf
  obtain ⟨fsu3, eu3⟩ := tq_is_s eu3
  obtain ⟨v2, ev2, hf⟩ := tq_be hf
  refine tq_calV (M := mX4_repeatOf) (pc := 5) (S := []) tk_y_X5_get tk_v_X5_get tk_RX4_48 dX4_repeatOf_5 [.int a1] rfl (S0 := _) rfl eu3 rfl (Nat.le_of_ble_eq_true rfl) (d1 := d - 1) (b1 := 0) (s1 := 0) (bc' := 0) (bs' := 0) (Q1 := fun r h9 => r = .inl (some (.int v2)) ∧ h = h9) (by omega) rfl rfl (w_X5_get (by omega) ev2 (fun _ _ q => q)) (fun E h9 q => nomatch (show (Sum.inr E : tq_R) = Sum.inl _ from q.1)) (fun r9 h9 q => ?_)
  obtain ⟨q1, rfl⟩ := q
  cases (show (Sum.inl r9 : tq_R) = Sum.inl (some (.int v2)) from q1)
  refine tq_iret (M := mX4_repeatOf) (pc := 8) dX4_repeatOf_8 rfl ?_
  cases (Option.some.inj hf)
  exact hQ _ _ ⟨rfl, rfl⟩
abbrev mX4_testOf : tq_M := (RX4, cX4_testOf, 2, (some .int), false, [], none)
def f_X4_testOf (t : Nat) (a1 : Int32) (h : tq_H) : Option (Int32) :=
  (tq_gr h t 4 2).bind fun k1 =>
  (tq_is h k1 5).bind fun _ =>
  (f_X5_get k1 a1 h).bind fun v2 =>
  some v2
set_option maxHeartbeats 4000000 in
set_option maxRecDepth 20000 in
theorem w_X4_testOf {l : Launch} {d : Nat} (hd9 : 1 ≤ d) {t : Nat} {a1 : Int32} {h : tq_H} {o : Int32} {Q : tq_R → tq_H → Prop} (hf : f_X4_testOf t a1 h = some o) (hQ : ∀ r h9, r = .inl (some (.int o)) ∧ h = h9 → Q r h9) : tq_C l yX4_testOf cX4_testOf 2 (some .int) d 0 0 [.ref t, .int a1] h Q := by
  refine tq_body (y := yX4_testOf) false (by decide +kernel) (fun z => by cases z) (Nat.le_of_ble_eq_true rfl) ?_
  show tq_W l mX4_testOf d 0 0 Q 0 [(0, .ref t), (1, .int a1)] [] h
  refine tq_aload_n (M := mX4_testOf) (pc := 0) dX4_testOf_0 rfl ?_
  obtain ⟨k1, ek1, hf⟩ := tq_be hf
  refine tq_getR (M := mX4_testOf) (pc := 1) tk_c4 (by decide) dX4_testOf_1 tk_RX4_23 rfl ek1 ?_
  refine tq_iload_n (M := mX4_testOf) (pc := 4) dX4_testOf_4 rfl ?_
  obtain ⟨⟨⟩, eu3, hf⟩ := tq_be hf
  obtain ⟨fsu3, eu3⟩ := tq_is_s eu3
  obtain ⟨v2, ev2, hf⟩ := tq_be hf
  refine tq_calV (M := mX4_testOf) (pc := 5) (S := []) tk_y_X5_get tk_v_X5_get tk_RX4_48 dX4_testOf_5 [.int a1] rfl (S0 := _) rfl eu3 rfl (Nat.le_of_ble_eq_true rfl) (d1 := d - 1) (b1 := 0) (s1 := 0) (bc' := 0) (bs' := 0) (Q1 := fun r h9 => r = .inl (some (.int v2)) ∧ h = h9) (by omega) rfl rfl (w_X5_get (by omega) ev2 (fun _ _ q => q)) (fun E h9 q => nomatch (show (Sum.inr E : tq_R) = Sum.inl _ from q.1)) (fun r9 h9 q => ?_)
  obtain ⟨q1, rfl⟩ := q
  cases (show (Sum.inl r9 : tq_R) = Sum.inl (some (.int v2)) from q1)
  refine tq_iret (M := mX4_testOf) (pc := 8) dX4_testOf_8 rfl ?_
  cases (Option.some.inj hf)
  exact hQ _ _ ⟨rfl, rfl⟩
abbrev mX3_reached : tq_M := (RX3, cX3_reached, 3, (some .long), false, [], none)
def f_X3_reached (t : Nat) (a1 : Int32) (a2 : Int32) (h : tq_H) : Option (Int64) :=
  if a1 = (0 : Int32) then
    (f_X0_one a2 h).bind fun v1 =>
    some v1
  else
  if a1 = (1 : Int32) then
    (tq_gr h t 3 5).bind fun k2 =>
    (tq_is h k2 7).bind fun _ =>
    (f_X7_get k2 a2 h).bind fun v3 =>
    (tq_gl h t 3 11).bind fun x5 =>
    some (v3 &&& (x5 ^^^ (-1 : Int64)))
  else
  if a1 = (2 : Int32) then
    (tq_gr h t 3 2).bind fun k6 =>
    (tq_is h k6 5).bind fun _ =>
    (f_X5_get k6 a2 h).bind fun v7 =>
    (f_X0_one v7 h).bind fun v9 =>
    some v9
  else
  if a1 = (3 : Int32) then
    (tq_gr h t 3 8).bind fun k10 =>
    (tq_is h k10 7).bind fun _ =>
    (f_X7_get k10 a2 h).bind fun v11 =>
    (tq_gl h t 3 11).bind fun x13 =>
    some (v11 &&& (x13 ^^^ (-1 : Int64)))
  else
  if a1 = (4 : Int32) then
    (tq_gr h t 3 8).bind fun k14 =>
    (tq_is h k14 7).bind fun _ =>
    (f_X7_get k14 a2 h).bind fun v15 =>
    (tq_gl h t 3 11).bind fun x17 =>
    (f_X0_one a2 h).bind fun v18 =>
    some ((v15 &&& (x17 ^^^ (-1 : Int64))) ||| v18)
  else
  if a1 = (5 : Int32) then
    (tq_gr h t 3 7).bind fun k19 =>
    (tq_is h k19 7).bind fun _ =>
    (f_X7_get k19 a2 h).bind fun v20 =>
    some v20
  else
  if a1 = (6 : Int32) then
    (tq_gr h t 3 7).bind fun k22 =>
    (tq_is h k22 7).bind fun _ =>
    (f_X7_get k22 a2 h).bind fun v23 =>
    (f_X0_one a2 h).bind fun v25 =>
    some (v23 ||| v25)
  else
  if a1 = (7 : Int32) then
    (tq_gi h t 3 12).bind fun x26 =>
    (f_X0_below x26 h).bind fun v27 =>
    (tq_gr h t 3 3).bind fun k28 =>
    (tq_is h k28 5).bind fun _ =>
    (f_X5_get k28 a2 h).bind fun v29 =>
    (f_X0_below v29 h).bind fun v31 =>
    (tq_gl h t 3 11).bind fun x32 =>
    some ((v27 &&& (v31 ^^^ (-1 : Int64))) &&& (x32 ^^^ (-1 : Int64)))
  else
  if a1 = (8 : Int32) then
    (f_X0_below a2 h).bind fun v33 =>
    (tq_gl h t 3 11).bind fun x34 =>
    (tq_gr h t 3 7).bind fun k35 =>
    (tq_is h k35 7).bind fun _ =>
    (f_X7_get k35 a2 h).bind fun v36 =>
    some ((v33 &&& (x34 ^^^ (-1 : Int64))) &&& (v36 ^^^ (-1 : Int64)))
  else
  if a1 = (9 : Int32) then
    (tq_gr h t 3 6).bind fun k38 =>
    (tq_is h k38 7).bind fun _ =>
    (f_X7_get k38 a2 h).bind fun v39 =>
    (f_X0_below (a2 + (1 : Int32)) h).bind fun v41 =>
    some (v39 &&& (v41 ^^^ (-1 : Int64)))
  else
  if a1 = (10 : Int32) then
    (tq_gr h t 3 6).bind fun k42 =>
    (tq_is h k42 7).bind fun _ =>
    (f_X7_get k42 a2 h).bind fun v43 =>
    (f_X0_below a2 h).bind fun v45 =>
    some (v43 &&& v45)
  else
  if a1 = (11 : Int32) then
    (tq_gr h t 3 5).bind fun k46 =>
    (tq_is h k46 7).bind fun _ =>
    (f_X7_get k46 a2 h).bind fun v47 =>
    (tq_gl h t 3 11).bind fun x49 =>
    some (v47 &&& x49)
  else
    some (0 : Int64)
set_option maxHeartbeats 4000000 in
set_option maxRecDepth 20000 in
theorem w_X3_reached {l : Launch} {d : Nat} (hd9 : 1 ≤ d) {t : Nat} {a1 : Int32} {a2 : Int32} {h : tq_H} {o : Int64} {Q : tq_R → tq_H → Prop} (hf : f_X3_reached t a1 a2 h = some o) (hQ : ∀ r h9, r = .inl (some (.long o)) ∧ h = h9 → Q r h9) : tq_C l yX3_reached cX3_reached 3 (some .long) d 0 0 [.ref t, .int a1, .int a2] h Q := by
  refine tq_body (y := yX3_reached) false (by decide +kernel) (fun z => by cases z) (Nat.le_of_ble_eq_true rfl) ?_
  show tq_W l mX3_reached d 0 0 Q 0 [(0, .ref t), (1, .int a1), (2, .int a2)] [] h
  refine tq_iload_n (M := mX3_reached) (pc := 0) dX3_reached_0 rfl ?_
  by_cases c0 : a1 = (0 : Int32)
  · have hf := tq_ifp hf c0
    refine tq_tabX (M := mX3_reached) (pc := 1) (tgt := 64) (0 : Int32) c0 dX3_reached_1 (by decide +kernel) (by decide +kernel) (off := 63) (by decide +kernel) (by decide) ?_
    refine tq_iload_n (M := mX3_reached) (pc := 64) dX3_reached_64 rfl ?_
    obtain ⟨v1, ev1, hf⟩ := tq_be hf
    refine tq_calS (M := mX3_reached) (pc := 65) (S := []) tk_y_X0_one tk_s_X0_one tk_RX3_80 dX3_reached_65 [.int a2] rfl (Nat.le_of_ble_eq_true rfl) (d1 := d - 1) (b1 := 0) (s1 := 0) (bc' := 0) (bs' := 0) (Q1 := fun r h9 => r = .inl (some (.long v1)) ∧ h = h9) (by omega) rfl rfl (w_X0_one (by omega) ev1 (fun _ _ q => q)) (fun E h9 q => nomatch (show (Sum.inr E : tq_R) = Sum.inl _ from q.1)) (fun r9 h9 q => ?_)
    obtain ⟨q1, rfl⟩ := q
    cases (show (Sum.inl r9 : tq_R) = Sum.inl (some (.long v1)) from q1)
    refine tq_lret (M := mX3_reached) (pc := 68) dX3_reached_68 rfl ?_
    cases (Option.some.inj hf)
    exact hQ _ _ ⟨rfl, rfl⟩
  have hf := tq_ifn hf c0
  by_cases c1 : a1 = (1 : Int32)
  · have hf := tq_ifp hf c1
    refine tq_tabX (M := mX3_reached) (pc := 1) (tgt := 69) (1 : Int32) c1 dX3_reached_1 (by decide +kernel) (by decide +kernel) (off := 68) (by decide +kernel) (by decide) ?_
    refine tq_aload_n (M := mX3_reached) (pc := 69) dX3_reached_69 rfl ?_
    obtain ⟨k2, ek2, hf⟩ := tq_be hf
    refine tq_getR (M := mX3_reached) (pc := 70) tk_c3 (by decide) dX3_reached_70 tk_RX3_37 rfl ek2 ?_
    refine tq_iload_n (M := mX3_reached) (pc := 73) dX3_reached_73 rfl ?_
    obtain ⟨⟨⟩, eu4, hf⟩ := tq_be hf
    obtain ⟨fsu4, eu4⟩ := tq_is_s eu4
    obtain ⟨v3, ev3, hf⟩ := tq_be hf
    refine tq_calV (M := mX3_reached) (pc := 74) (S := []) tk_y_X7_get tk_v_X7_get tk_RX3_76 dX3_reached_74 [.int a2] rfl (S0 := _) rfl eu4 rfl (Nat.le_of_ble_eq_true rfl) (d1 := d - 1) (b1 := 0) (s1 := 0) (bc' := 0) (bs' := 0) (Q1 := fun r h9 => r = .inl (some (.long v3)) ∧ h = h9) (by omega) rfl rfl (w_X7_get (by omega) ev3 (fun _ _ q => q)) (fun E h9 q => nomatch (show (Sum.inr E : tq_R) = Sum.inl _ from q.1)) (fun r9 h9 q => ?_)
    obtain ⟨q1, rfl⟩ := q
    cases (show (Sum.inl r9 : tq_R) = Sum.inl (some (.long v3)) from q1)
    refine tq_aload_n (M := mX3_reached) (pc := 77) dX3_reached_77 rfl ?_
    obtain ⟨x5, ex5, hf⟩ := tq_be hf
    refine tq_getL (M := mX3_reached) (pc := 78) tk_c3 (by decide) dX3_reached_78 tk_RX3_57 rfl ex5 ?_
    refine tq_ldc2 (M := mX3_reached) (pc := 81) dX3_reached_81 tk_RX3_99 ?_
    refine tq_lxor (M := mX3_reached) (pc := 84) dX3_reached_84 ?_
    refine tq_land (M := mX3_reached) (pc := 85) dX3_reached_85 ?_
    refine tq_lret (M := mX3_reached) (pc := 86) dX3_reached_86 rfl ?_
    cases (Option.some.inj hf)
    exact hQ _ _ ⟨rfl, rfl⟩
  have hf := tq_ifn hf c1
  by_cases c2 : a1 = (2 : Int32)
  · have hf := tq_ifp hf c2
    refine tq_tabX (M := mX3_reached) (pc := 1) (tgt := 87) (2 : Int32) c2 dX3_reached_1 (by decide +kernel) (by decide +kernel) (off := 86) (by decide +kernel) (by decide) ?_
    refine tq_aload_n (M := mX3_reached) (pc := 87) dX3_reached_87 rfl ?_
    obtain ⟨k6, ek6, hf⟩ := tq_be hf
    refine tq_getR (M := mX3_reached) (pc := 88) tk_c3 (by decide) dX3_reached_88 tk_RX3_23 rfl ek6 ?_
    refine tq_iload_n (M := mX3_reached) (pc := 91) dX3_reached_91 rfl ?_
    obtain ⟨⟨⟩, eu8, hf⟩ := tq_be hf
    obtain ⟨fsu8, eu8⟩ := tq_is_s eu8
    obtain ⟨v7, ev7, hf⟩ := tq_be hf
    refine tq_calV (M := mX3_reached) (pc := 92) (S := []) tk_y_X5_get tk_v_X5_get tk_RX3_88 dX3_reached_92 [.int a2] rfl (S0 := _) rfl eu8 rfl (Nat.le_of_ble_eq_true rfl) (d1 := d - 1) (b1 := 0) (s1 := 0) (bc' := 0) (bs' := 0) (Q1 := fun r h9 => r = .inl (some (.int v7)) ∧ h = h9) (by omega) rfl rfl (w_X5_get (by omega) ev7 (fun _ _ q => q)) (fun E h9 q => nomatch (show (Sum.inr E : tq_R) = Sum.inl _ from q.1)) (fun r9 h9 q => ?_)
    obtain ⟨q1, rfl⟩ := q
    cases (show (Sum.inl r9 : tq_R) = Sum.inl (some (.int v7)) from q1)
    obtain ⟨v9, ev9, hf⟩ := tq_be hf
    refine tq_calS (M := mX3_reached) (pc := 95) (S := []) tk_y_X0_one tk_s_X0_one tk_RX3_80 dX3_reached_95 [.int v7] rfl (Nat.le_of_ble_eq_true rfl) (d1 := d - 1) (b1 := 0) (s1 := 0) (bc' := 0) (bs' := 0) (Q1 := fun r h9 => r = .inl (some (.long v9)) ∧ h = h9) (by omega) rfl rfl (w_X0_one (by omega) ev9 (fun _ _ q => q)) (fun E h9 q => nomatch (show (Sum.inr E : tq_R) = Sum.inl _ from q.1)) (fun r9 h9 q => ?_)
    obtain ⟨q1, rfl⟩ := q
    cases (show (Sum.inl r9 : tq_R) = Sum.inl (some (.long v9)) from q1)
    refine tq_lret (M := mX3_reached) (pc := 98) dX3_reached_98 rfl ?_
    cases (Option.some.inj hf)
    exact hQ _ _ ⟨rfl, rfl⟩
  have hf := tq_ifn hf c2
  by_cases c3 : a1 = (3 : Int32)
  · have hf := tq_ifp hf c3
    refine tq_tabX (M := mX3_reached) (pc := 1) (tgt := 99) (3 : Int32) c3 dX3_reached_1 (by decide +kernel) (by decide +kernel) (off := 98) (by decide +kernel) (by decide) ?_
    refine tq_aload_n (M := mX3_reached) (pc := 99) dX3_reached_99 rfl ?_
    obtain ⟨k10, ek10, hf⟩ := tq_be hf
    refine tq_getR (M := mX3_reached) (pc := 100) tk_c3 (by decide) dX3_reached_100 tk_RX3_47 rfl ek10 ?_
    refine tq_iload_n (M := mX3_reached) (pc := 103) dX3_reached_103 rfl ?_
    obtain ⟨⟨⟩, eu12, hf⟩ := tq_be hf
    obtain ⟨fsu12, eu12⟩ := tq_is_s eu12
    obtain ⟨v11, ev11, hf⟩ := tq_be hf
    refine tq_calV (M := mX3_reached) (pc := 104) (S := []) tk_y_X7_get tk_v_X7_get tk_RX3_76 dX3_reached_104 [.int a2] rfl (S0 := _) rfl eu12 rfl (Nat.le_of_ble_eq_true rfl) (d1 := d - 1) (b1 := 0) (s1 := 0) (bc' := 0) (bs' := 0) (Q1 := fun r h9 => r = .inl (some (.long v11)) ∧ h = h9) (by omega) rfl rfl (w_X7_get (by omega) ev11 (fun _ _ q => q)) (fun E h9 q => nomatch (show (Sum.inr E : tq_R) = Sum.inl _ from q.1)) (fun r9 h9 q => ?_)
    obtain ⟨q1, rfl⟩ := q
    cases (show (Sum.inl r9 : tq_R) = Sum.inl (some (.long v11)) from q1)
    refine tq_aload_n (M := mX3_reached) (pc := 107) dX3_reached_107 rfl ?_
    obtain ⟨x13, ex13, hf⟩ := tq_be hf
    refine tq_getL (M := mX3_reached) (pc := 108) tk_c3 (by decide) dX3_reached_108 tk_RX3_57 rfl ex13 ?_
    refine tq_ldc2 (M := mX3_reached) (pc := 111) dX3_reached_111 tk_RX3_99 ?_
    refine tq_lxor (M := mX3_reached) (pc := 114) dX3_reached_114 ?_
    refine tq_land (M := mX3_reached) (pc := 115) dX3_reached_115 ?_
    refine tq_lret (M := mX3_reached) (pc := 116) dX3_reached_116 rfl ?_
    cases (Option.some.inj hf)
    exact hQ _ _ ⟨rfl, rfl⟩
  have hf := tq_ifn hf c3
  by_cases c4 : a1 = (4 : Int32)
  · have hf := tq_ifp hf c4
    refine tq_tabX (M := mX3_reached) (pc := 1) (tgt := 117) (4 : Int32) c4 dX3_reached_1 (by decide +kernel) (by decide +kernel) (off := 116) (by decide +kernel) (by decide) ?_
    refine tq_aload_n (M := mX3_reached) (pc := 117) dX3_reached_117 rfl ?_
    obtain ⟨k14, ek14, hf⟩ := tq_be hf
    refine tq_getR (M := mX3_reached) (pc := 118) tk_c3 (by decide) dX3_reached_118 tk_RX3_47 rfl ek14 ?_
    refine tq_iload_n (M := mX3_reached) (pc := 121) dX3_reached_121 rfl ?_
    obtain ⟨⟨⟩, eu16, hf⟩ := tq_be hf
    obtain ⟨fsu16, eu16⟩ := tq_is_s eu16
    obtain ⟨v15, ev15, hf⟩ := tq_be hf
    refine tq_calV (M := mX3_reached) (pc := 122) (S := []) tk_y_X7_get tk_v_X7_get tk_RX3_76 dX3_reached_122 [.int a2] rfl (S0 := _) rfl eu16 rfl (Nat.le_of_ble_eq_true rfl) (d1 := d - 1) (b1 := 0) (s1 := 0) (bc' := 0) (bs' := 0) (Q1 := fun r h9 => r = .inl (some (.long v15)) ∧ h = h9) (by omega) rfl rfl (w_X7_get (by omega) ev15 (fun _ _ q => q)) (fun E h9 q => nomatch (show (Sum.inr E : tq_R) = Sum.inl _ from q.1)) (fun r9 h9 q => ?_)
    obtain ⟨q1, rfl⟩ := q
    cases (show (Sum.inl r9 : tq_R) = Sum.inl (some (.long v15)) from q1)
    refine tq_aload_n (M := mX3_reached) (pc := 125) dX3_reached_125 rfl ?_
    obtain ⟨x17, ex17, hf⟩ := tq_be hf
    refine tq_getL (M := mX3_reached) (pc := 126) tk_c3 (by decide) dX3_reached_126 tk_RX3_57 rfl ex17 ?_
    refine tq_ldc2 (M := mX3_reached) (pc := 129) dX3_reached_129 tk_RX3_99 ?_
    refine tq_lxor (M := mX3_reached) (pc := 132) dX3_reached_132 ?_
    refine tq_land (M := mX3_reached) (pc := 133) dX3_reached_133 ?_
    refine tq_iload_n (M := mX3_reached) (pc := 134) dX3_reached_134 rfl ?_
    obtain ⟨v18, ev18, hf⟩ := tq_be hf
    refine tq_calS (M := mX3_reached) (pc := 135) (S := [.long ((v15 &&& (x17 ^^^ (-1 : Int64))))]) tk_y_X0_one tk_s_X0_one tk_RX3_80 dX3_reached_135 [.int a2] rfl (Nat.le_of_ble_eq_true rfl) (d1 := d - 1) (b1 := 0) (s1 := 0) (bc' := 0) (bs' := 0) (Q1 := fun r h9 => r = .inl (some (.long v18)) ∧ h = h9) (by omega) rfl rfl (w_X0_one (by omega) ev18 (fun _ _ q => q)) (fun E h9 q => nomatch (show (Sum.inr E : tq_R) = Sum.inl _ from q.1)) (fun r9 h9 q => ?_)
    obtain ⟨q1, rfl⟩ := q
    cases (show (Sum.inl r9 : tq_R) = Sum.inl (some (.long v18)) from q1)
    refine tq_lor (M := mX3_reached) (pc := 138) dX3_reached_138 ?_
    refine tq_lret (M := mX3_reached) (pc := 139) dX3_reached_139 rfl ?_
    cases (Option.some.inj hf)
    exact hQ _ _ ⟨rfl, rfl⟩
  have hf := tq_ifn hf c4
  by_cases c5 : a1 = (5 : Int32)
  · have hf := tq_ifp hf c5
    refine tq_tabX (M := mX3_reached) (pc := 1) (tgt := 140) (5 : Int32) c5 dX3_reached_1 (by decide +kernel) (by decide +kernel) (off := 139) (by decide +kernel) (by decide) ?_
    refine tq_aload_n (M := mX3_reached) (pc := 140) dX3_reached_140 rfl ?_
    obtain ⟨k19, ek19, hf⟩ := tq_be hf
    refine tq_getR (M := mX3_reached) (pc := 141) tk_c3 (by decide) dX3_reached_141 tk_RX3_44 rfl ek19 ?_
    refine tq_iload_n (M := mX3_reached) (pc := 144) dX3_reached_144 rfl ?_
    obtain ⟨⟨⟩, eu21, hf⟩ := tq_be hf
    obtain ⟨fsu21, eu21⟩ := tq_is_s eu21
    obtain ⟨v20, ev20, hf⟩ := tq_be hf
    refine tq_calV (M := mX3_reached) (pc := 145) (S := []) tk_y_X7_get tk_v_X7_get tk_RX3_76 dX3_reached_145 [.int a2] rfl (S0 := _) rfl eu21 rfl (Nat.le_of_ble_eq_true rfl) (d1 := d - 1) (b1 := 0) (s1 := 0) (bc' := 0) (bs' := 0) (Q1 := fun r h9 => r = .inl (some (.long v20)) ∧ h = h9) (by omega) rfl rfl (w_X7_get (by omega) ev20 (fun _ _ q => q)) (fun E h9 q => nomatch (show (Sum.inr E : tq_R) = Sum.inl _ from q.1)) (fun r9 h9 q => ?_)
    obtain ⟨q1, rfl⟩ := q
    cases (show (Sum.inl r9 : tq_R) = Sum.inl (some (.long v20)) from q1)
    refine tq_lret (M := mX3_reached) (pc := 148) dX3_reached_148 rfl ?_
    cases (Option.some.inj hf)
    exact hQ _ _ ⟨rfl, rfl⟩
  have hf := tq_ifn hf c5
  by_cases c6 : a1 = (6 : Int32)
  · have hf := tq_ifp hf c6
    refine tq_tabX (M := mX3_reached) (pc := 1) (tgt := 149) (6 : Int32) c6 dX3_reached_1 (by decide +kernel) (by decide +kernel) (off := 148) (by decide +kernel) (by decide) ?_
    refine tq_aload_n (M := mX3_reached) (pc := 149) dX3_reached_149 rfl ?_
    obtain ⟨k22, ek22, hf⟩ := tq_be hf
    refine tq_getR (M := mX3_reached) (pc := 150) tk_c3 (by decide) dX3_reached_150 tk_RX3_44 rfl ek22 ?_
    refine tq_iload_n (M := mX3_reached) (pc := 153) dX3_reached_153 rfl ?_
    obtain ⟨⟨⟩, eu24, hf⟩ := tq_be hf
    obtain ⟨fsu24, eu24⟩ := tq_is_s eu24
    obtain ⟨v23, ev23, hf⟩ := tq_be hf
    refine tq_calV (M := mX3_reached) (pc := 154) (S := []) tk_y_X7_get tk_v_X7_get tk_RX3_76 dX3_reached_154 [.int a2] rfl (S0 := _) rfl eu24 rfl (Nat.le_of_ble_eq_true rfl) (d1 := d - 1) (b1 := 0) (s1 := 0) (bc' := 0) (bs' := 0) (Q1 := fun r h9 => r = .inl (some (.long v23)) ∧ h = h9) (by omega) rfl rfl (w_X7_get (by omega) ev23 (fun _ _ q => q)) (fun E h9 q => nomatch (show (Sum.inr E : tq_R) = Sum.inl _ from q.1)) (fun r9 h9 q => ?_)
    obtain ⟨q1, rfl⟩ := q
    cases (show (Sum.inl r9 : tq_R) = Sum.inl (some (.long v23)) from q1)
    refine tq_iload_n (M := mX3_reached) (pc := 157) dX3_reached_157 rfl ?_
    obtain ⟨v25, ev25, hf⟩ := tq_be hf
    refine tq_calS (M := mX3_reached) (pc := 158) (S := [.long v23]) tk_y_X0_one tk_s_X0_one tk_RX3_80 dX3_reached_158 [.int a2] rfl (Nat.le_of_ble_eq_true rfl) (d1 := d - 1) (b1 := 0) (s1 := 0) (bc' := 0) (bs' := 0) (Q1 := fun r h9 => r = .inl (some (.long v25)) ∧ h = h9) (by omega) rfl rfl (w_X0_one (by omega) ev25 (fun _ _ q => q)) (fun E h9 q => nomatch (show (Sum.inr E : tq_R) = Sum.inl _ from q.1)) (fun r9 h9 q => ?_)
    obtain ⟨q1, rfl⟩ := q
    cases (show (Sum.inl r9 : tq_R) = Sum.inl (some (.long v25)) from q1)
    refine tq_lor (M := mX3_reached) (pc := 161) dX3_reached_161 ?_
    refine tq_lret (M := mX3_reached) (pc := 162) dX3_reached_162 rfl ?_
    cases (Option.some.inj hf)
    exact hQ _ _ ⟨rfl, rfl⟩
  have hf := tq_ifn hf c6
  by_cases c7 : a1 = (7 : Int32)
  · have hf := tq_ifp hf c7
    refine tq_tabX (M := mX3_reached) (pc := 1) (tgt := 163) (7 : Int32) c7 dX3_reached_1 (by decide +kernel) (by decide +kernel) (off := 162) (by decide +kernel) (by decide) ?_
    refine tq_aload_n (M := mX3_reached) (pc := 163) dX3_reached_163 rfl ?_
    obtain ⟨x26, ex26, hf⟩ := tq_be hf
    refine tq_getI (M := mX3_reached) (pc := 164) tk_c3 (by decide) dX3_reached_164 tk_RX3_60 rfl ex26 ?_
    obtain ⟨v27, ev27, hf⟩ := tq_be hf
    refine tq_calS (M := mX3_reached) (pc := 167) (S := []) tk_y_X0_below tk_s_X0_below tk_RX3_97 dX3_reached_167 [.int x26] rfl (Nat.le_of_ble_eq_true rfl) (d1 := d - 1) (b1 := 0) (s1 := 0) (bc' := 0) (bs' := 0) (Q1 := fun r h9 => r = .inl (some (.long v27)) ∧ h = h9) (by omega) rfl rfl (w_X0_below (by omega) ev27 (fun _ _ q => q)) (fun E h9 q => nomatch (show (Sum.inr E : tq_R) = Sum.inl _ from q.1)) (fun r9 h9 q => ?_)
    obtain ⟨q1, rfl⟩ := q
    cases (show (Sum.inl r9 : tq_R) = Sum.inl (some (.long v27)) from q1)
    refine tq_aload_n (M := mX3_reached) (pc := 170) dX3_reached_170 rfl ?_
    obtain ⟨k28, ek28, hf⟩ := tq_be hf
    refine tq_getR (M := mX3_reached) (pc := 171) tk_c3 (by decide) dX3_reached_171 tk_RX3_26 rfl ek28 ?_
    refine tq_iload_n (M := mX3_reached) (pc := 174) dX3_reached_174 rfl ?_
    obtain ⟨⟨⟩, eu30, hf⟩ := tq_be hf
    obtain ⟨fsu30, eu30⟩ := tq_is_s eu30
    obtain ⟨v29, ev29, hf⟩ := tq_be hf
    refine tq_calV (M := mX3_reached) (pc := 175) (S := [.long v27]) tk_y_X5_get tk_v_X5_get tk_RX3_88 dX3_reached_175 [.int a2] rfl (S0 := _) rfl eu30 rfl (Nat.le_of_ble_eq_true rfl) (d1 := d - 1) (b1 := 0) (s1 := 0) (bc' := 0) (bs' := 0) (Q1 := fun r h9 => r = .inl (some (.int v29)) ∧ h = h9) (by omega) rfl rfl (w_X5_get (by omega) ev29 (fun _ _ q => q)) (fun E h9 q => nomatch (show (Sum.inr E : tq_R) = Sum.inl _ from q.1)) (fun r9 h9 q => ?_)
    obtain ⟨q1, rfl⟩ := q
    cases (show (Sum.inl r9 : tq_R) = Sum.inl (some (.int v29)) from q1)
    obtain ⟨v31, ev31, hf⟩ := tq_be hf
    refine tq_calS (M := mX3_reached) (pc := 178) (S := [.long v27]) tk_y_X0_below tk_s_X0_below tk_RX3_97 dX3_reached_178 [.int v29] rfl (Nat.le_of_ble_eq_true rfl) (d1 := d - 1) (b1 := 0) (s1 := 0) (bc' := 0) (bs' := 0) (Q1 := fun r h9 => r = .inl (some (.long v31)) ∧ h = h9) (by omega) rfl rfl (w_X0_below (by omega) ev31 (fun _ _ q => q)) (fun E h9 q => nomatch (show (Sum.inr E : tq_R) = Sum.inl _ from q.1)) (fun r9 h9 q => ?_)
    obtain ⟨q1, rfl⟩ := q
    cases (show (Sum.inl r9 : tq_R) = Sum.inl (some (.long v31)) from q1)
    refine tq_ldc2 (M := mX3_reached) (pc := 181) dX3_reached_181 tk_RX3_99 ?_
    refine tq_lxor (M := mX3_reached) (pc := 184) dX3_reached_184 ?_
    refine tq_land (M := mX3_reached) (pc := 185) dX3_reached_185 ?_
    refine tq_aload_n (M := mX3_reached) (pc := 186) dX3_reached_186 rfl ?_
    obtain ⟨x32, ex32, hf⟩ := tq_be hf
    refine tq_getL (M := mX3_reached) (pc := 187) tk_c3 (by decide) dX3_reached_187 tk_RX3_57 rfl ex32 ?_
    refine tq_ldc2 (M := mX3_reached) (pc := 190) dX3_reached_190 tk_RX3_99 ?_
    refine tq_lxor (M := mX3_reached) (pc := 193) dX3_reached_193 ?_
    refine tq_land (M := mX3_reached) (pc := 194) dX3_reached_194 ?_
    refine tq_lret (M := mX3_reached) (pc := 195) dX3_reached_195 rfl ?_
    cases (Option.some.inj hf)
    exact hQ _ _ ⟨rfl, rfl⟩
  have hf := tq_ifn hf c7
  by_cases c8 : a1 = (8 : Int32)
  · have hf := tq_ifp hf c8
    refine tq_tabX (M := mX3_reached) (pc := 1) (tgt := 196) (8 : Int32) c8 dX3_reached_1 (by decide +kernel) (by decide +kernel) (off := 195) (by decide +kernel) (by decide) ?_
    refine tq_iload_n (M := mX3_reached) (pc := 196) dX3_reached_196 rfl ?_
    obtain ⟨v33, ev33, hf⟩ := tq_be hf
    refine tq_calS (M := mX3_reached) (pc := 197) (S := []) tk_y_X0_below tk_s_X0_below tk_RX3_97 dX3_reached_197 [.int a2] rfl (Nat.le_of_ble_eq_true rfl) (d1 := d - 1) (b1 := 0) (s1 := 0) (bc' := 0) (bs' := 0) (Q1 := fun r h9 => r = .inl (some (.long v33)) ∧ h = h9) (by omega) rfl rfl (w_X0_below (by omega) ev33 (fun _ _ q => q)) (fun E h9 q => nomatch (show (Sum.inr E : tq_R) = Sum.inl _ from q.1)) (fun r9 h9 q => ?_)
    obtain ⟨q1, rfl⟩ := q
    cases (show (Sum.inl r9 : tq_R) = Sum.inl (some (.long v33)) from q1)
    refine tq_aload_n (M := mX3_reached) (pc := 200) dX3_reached_200 rfl ?_
    obtain ⟨x34, ex34, hf⟩ := tq_be hf
    refine tq_getL (M := mX3_reached) (pc := 201) tk_c3 (by decide) dX3_reached_201 tk_RX3_57 rfl ex34 ?_
    refine tq_ldc2 (M := mX3_reached) (pc := 204) dX3_reached_204 tk_RX3_99 ?_
    refine tq_lxor (M := mX3_reached) (pc := 207) dX3_reached_207 ?_
    refine tq_land (M := mX3_reached) (pc := 208) dX3_reached_208 ?_
    refine tq_aload_n (M := mX3_reached) (pc := 209) dX3_reached_209 rfl ?_
    obtain ⟨k35, ek35, hf⟩ := tq_be hf
    refine tq_getR (M := mX3_reached) (pc := 210) tk_c3 (by decide) dX3_reached_210 tk_RX3_44 rfl ek35 ?_
    refine tq_iload_n (M := mX3_reached) (pc := 213) dX3_reached_213 rfl ?_
    obtain ⟨⟨⟩, eu37, hf⟩ := tq_be hf
    obtain ⟨fsu37, eu37⟩ := tq_is_s eu37
    obtain ⟨v36, ev36, hf⟩ := tq_be hf
    refine tq_calV (M := mX3_reached) (pc := 214) (S := [.long ((v33 &&& (x34 ^^^ (-1 : Int64))))]) tk_y_X7_get tk_v_X7_get tk_RX3_76 dX3_reached_214 [.int a2] rfl (S0 := _) rfl eu37 rfl (Nat.le_of_ble_eq_true rfl) (d1 := d - 1) (b1 := 0) (s1 := 0) (bc' := 0) (bs' := 0) (Q1 := fun r h9 => r = .inl (some (.long v36)) ∧ h = h9) (by omega) rfl rfl (w_X7_get (by omega) ev36 (fun _ _ q => q)) (fun E h9 q => nomatch (show (Sum.inr E : tq_R) = Sum.inl _ from q.1)) (fun r9 h9 q => ?_)
    obtain ⟨q1, rfl⟩ := q
    cases (show (Sum.inl r9 : tq_R) = Sum.inl (some (.long v36)) from q1)
    refine tq_ldc2 (M := mX3_reached) (pc := 217) dX3_reached_217 tk_RX3_99 ?_
    refine tq_lxor (M := mX3_reached) (pc := 220) dX3_reached_220 ?_
    refine tq_land (M := mX3_reached) (pc := 221) dX3_reached_221 ?_
    refine tq_lret (M := mX3_reached) (pc := 222) dX3_reached_222 rfl ?_
    cases (Option.some.inj hf)
    exact hQ _ _ ⟨rfl, rfl⟩
  have hf := tq_ifn hf c8
  by_cases c9 : a1 = (9 : Int32)
  · have hf := tq_ifp hf c9
    refine tq_tabX (M := mX3_reached) (pc := 1) (tgt := 223) (9 : Int32) c9 dX3_reached_1 (by decide +kernel) (by decide +kernel) (off := 222) (by decide +kernel) (by decide) ?_
    refine tq_aload_n (M := mX3_reached) (pc := 223) dX3_reached_223 rfl ?_
    obtain ⟨k38, ek38, hf⟩ := tq_be hf
    refine tq_getR (M := mX3_reached) (pc := 224) tk_c3 (by decide) dX3_reached_224 tk_RX3_41 rfl ek38 ?_
    refine tq_iload_n (M := mX3_reached) (pc := 227) dX3_reached_227 rfl ?_
    obtain ⟨⟨⟩, eu40, hf⟩ := tq_be hf
    obtain ⟨fsu40, eu40⟩ := tq_is_s eu40
    obtain ⟨v39, ev39, hf⟩ := tq_be hf
    refine tq_calV (M := mX3_reached) (pc := 228) (S := []) tk_y_X7_get tk_v_X7_get tk_RX3_76 dX3_reached_228 [.int a2] rfl (S0 := _) rfl eu40 rfl (Nat.le_of_ble_eq_true rfl) (d1 := d - 1) (b1 := 0) (s1 := 0) (bc' := 0) (bs' := 0) (Q1 := fun r h9 => r = .inl (some (.long v39)) ∧ h = h9) (by omega) rfl rfl (w_X7_get (by omega) ev39 (fun _ _ q => q)) (fun E h9 q => nomatch (show (Sum.inr E : tq_R) = Sum.inl _ from q.1)) (fun r9 h9 q => ?_)
    obtain ⟨q1, rfl⟩ := q
    cases (show (Sum.inl r9 : tq_R) = Sum.inl (some (.long v39)) from q1)
    refine tq_iload_n (M := mX3_reached) (pc := 231) dX3_reached_231 rfl ?_
    refine tq_iconst (M := mX3_reached) (pc := 232) dX3_reached_232 tk_ki_1 ?_
    refine tq_iadd (M := mX3_reached) (pc := 233) dX3_reached_233 ?_
    obtain ⟨v41, ev41, hf⟩ := tq_be hf
    refine tq_calS (M := mX3_reached) (pc := 234) (S := [.long v39]) tk_y_X0_below tk_s_X0_below tk_RX3_97 dX3_reached_234 [.int ((a2 + (1 : Int32)))] rfl (Nat.le_of_ble_eq_true rfl) (d1 := d - 1) (b1 := 0) (s1 := 0) (bc' := 0) (bs' := 0) (Q1 := fun r h9 => r = .inl (some (.long v41)) ∧ h = h9) (by omega) rfl rfl (w_X0_below (by omega) ev41 (fun _ _ q => q)) (fun E h9 q => nomatch (show (Sum.inr E : tq_R) = Sum.inl _ from q.1)) (fun r9 h9 q => ?_)
    obtain ⟨q1, rfl⟩ := q
    cases (show (Sum.inl r9 : tq_R) = Sum.inl (some (.long v41)) from q1)
    refine tq_ldc2 (M := mX3_reached) (pc := 237) dX3_reached_237 tk_RX3_99 ?_
    refine tq_lxor (M := mX3_reached) (pc := 240) dX3_reached_240 ?_
    refine tq_land (M := mX3_reached) (pc := 241) dX3_reached_241 ?_
    refine tq_lret (M := mX3_reached) (pc := 242) dX3_reached_242 rfl ?_
    cases (Option.some.inj hf)
    exact hQ _ _ ⟨rfl, rfl⟩
  have hf := tq_ifn hf c9
  by_cases c10 : a1 = (10 : Int32)
  · have hf := tq_ifp hf c10
    refine tq_tabX (M := mX3_reached) (pc := 1) (tgt := 243) (10 : Int32) c10 dX3_reached_1 (by decide +kernel) (by decide +kernel) (off := 242) (by decide +kernel) (by decide) ?_
    refine tq_aload_n (M := mX3_reached) (pc := 243) dX3_reached_243 rfl ?_
    obtain ⟨k42, ek42, hf⟩ := tq_be hf
    refine tq_getR (M := mX3_reached) (pc := 244) tk_c3 (by decide) dX3_reached_244 tk_RX3_41 rfl ek42 ?_
    refine tq_iload_n (M := mX3_reached) (pc := 247) dX3_reached_247 rfl ?_
    obtain ⟨⟨⟩, eu44, hf⟩ := tq_be hf
    obtain ⟨fsu44, eu44⟩ := tq_is_s eu44
    obtain ⟨v43, ev43, hf⟩ := tq_be hf
    refine tq_calV (M := mX3_reached) (pc := 248) (S := []) tk_y_X7_get tk_v_X7_get tk_RX3_76 dX3_reached_248 [.int a2] rfl (S0 := _) rfl eu44 rfl (Nat.le_of_ble_eq_true rfl) (d1 := d - 1) (b1 := 0) (s1 := 0) (bc' := 0) (bs' := 0) (Q1 := fun r h9 => r = .inl (some (.long v43)) ∧ h = h9) (by omega) rfl rfl (w_X7_get (by omega) ev43 (fun _ _ q => q)) (fun E h9 q => nomatch (show (Sum.inr E : tq_R) = Sum.inl _ from q.1)) (fun r9 h9 q => ?_)
    obtain ⟨q1, rfl⟩ := q
    cases (show (Sum.inl r9 : tq_R) = Sum.inl (some (.long v43)) from q1)
    refine tq_iload_n (M := mX3_reached) (pc := 251) dX3_reached_251 rfl ?_
    obtain ⟨v45, ev45, hf⟩ := tq_be hf
    refine tq_calS (M := mX3_reached) (pc := 252) (S := [.long v43]) tk_y_X0_below tk_s_X0_below tk_RX3_97 dX3_reached_252 [.int a2] rfl (Nat.le_of_ble_eq_true rfl) (d1 := d - 1) (b1 := 0) (s1 := 0) (bc' := 0) (bs' := 0) (Q1 := fun r h9 => r = .inl (some (.long v45)) ∧ h = h9) (by omega) rfl rfl (w_X0_below (by omega) ev45 (fun _ _ q => q)) (fun E h9 q => nomatch (show (Sum.inr E : tq_R) = Sum.inl _ from q.1)) (fun r9 h9 q => ?_)
    obtain ⟨q1, rfl⟩ := q
    cases (show (Sum.inl r9 : tq_R) = Sum.inl (some (.long v45)) from q1)
    refine tq_land (M := mX3_reached) (pc := 255) dX3_reached_255 ?_
    refine tq_lret (M := mX3_reached) (pc := 256) dX3_reached_256 rfl ?_
    cases (Option.some.inj hf)
    exact hQ _ _ ⟨rfl, rfl⟩
  have hf := tq_ifn hf c10
  by_cases c11 : a1 = (11 : Int32)
  · have hf := tq_ifp hf c11
    refine tq_tabX (M := mX3_reached) (pc := 1) (tgt := 257) (11 : Int32) c11 dX3_reached_1 (by decide +kernel) (by decide +kernel) (off := 256) (by decide +kernel) (by decide) ?_
    refine tq_aload_n (M := mX3_reached) (pc := 257) dX3_reached_257 rfl ?_
    obtain ⟨k46, ek46, hf⟩ := tq_be hf
    refine tq_getR (M := mX3_reached) (pc := 258) tk_c3 (by decide) dX3_reached_258 tk_RX3_37 rfl ek46 ?_
    refine tq_iload_n (M := mX3_reached) (pc := 261) dX3_reached_261 rfl ?_
    obtain ⟨⟨⟩, eu48, hf⟩ := tq_be hf
    obtain ⟨fsu48, eu48⟩ := tq_is_s eu48
    obtain ⟨v47, ev47, hf⟩ := tq_be hf
    refine tq_calV (M := mX3_reached) (pc := 262) (S := []) tk_y_X7_get tk_v_X7_get tk_RX3_76 dX3_reached_262 [.int a2] rfl (S0 := _) rfl eu48 rfl (Nat.le_of_ble_eq_true rfl) (d1 := d - 1) (b1 := 0) (s1 := 0) (bc' := 0) (bs' := 0) (Q1 := fun r h9 => r = .inl (some (.long v47)) ∧ h = h9) (by omega) rfl rfl (w_X7_get (by omega) ev47 (fun _ _ q => q)) (fun E h9 q => nomatch (show (Sum.inr E : tq_R) = Sum.inl _ from q.1)) (fun r9 h9 q => ?_)
    obtain ⟨q1, rfl⟩ := q
    cases (show (Sum.inl r9 : tq_R) = Sum.inl (some (.long v47)) from q1)
    refine tq_aload_n (M := mX3_reached) (pc := 265) dX3_reached_265 rfl ?_
    obtain ⟨x49, ex49, hf⟩ := tq_be hf
    refine tq_getL (M := mX3_reached) (pc := 266) tk_c3 (by decide) dX3_reached_266 tk_RX3_57 rfl ex49 ?_
    refine tq_land (M := mX3_reached) (pc := 269) dX3_reached_269 ?_
    refine tq_lret (M := mX3_reached) (pc := 270) dX3_reached_270 rfl ?_
    cases (Option.some.inj hf)
    exact hQ _ _ ⟨rfl, rfl⟩
  have hf := tq_ifn hf c11
  have hD := tq_far (c := a1) (n := 12) (by decide) (fun j hj => by match j, hj with
    | 0, _ => exact c0
    | 1, _ => exact c1
    | 2, _ => exact c2
    | 3, _ => exact c3
    | 4, _ => exact c4
    | 5, _ => exact c5
    | 6, _ => exact c6
    | 7, _ => exact c7
    | 8, _ => exact c8
    | 9, _ => exact c9
    | 10, _ => exact c10
    | 11, _ => exact c11
    | j + 12, hj => exact absurd hj (by omega))
  refine tq_tabD (M := mX3_reached) (pc := 1) (tgt := 271) dX3_reached_1 (by exact hD) (by decide) ?_
  refine tq_lconst (M := mX3_reached) (pc := 271) dX3_reached_271 tk_kl_0 ?_
  refine tq_lret (M := mX3_reached) (pc := 272) dX3_reached_272 rfl ?_
  cases (Option.some.inj hf)
  exact hQ _ _ ⟨rfl, rfl⟩
abbrev mX4_conditionsOf : tq_M := (RX4, cX4_conditionsOf, 2, (some .int), false, [], none)
def f_X4_conditionsOf (t : Nat) (a1 : Int32) (h : tq_H) : Option (Int32) :=
  (tq_gr h t 4 4).bind fun k1 =>
  (tq_is h k1 5).bind fun _ =>
  (f_X5_get k1 a1 h).bind fun v2 =>
  some v2
set_option maxHeartbeats 4000000 in
set_option maxRecDepth 20000 in
theorem w_X4_conditionsOf {l : Launch} {d : Nat} (hd9 : 1 ≤ d) {t : Nat} {a1 : Int32} {h : tq_H} {o : Int32} {Q : tq_R → tq_H → Prop} (hf : f_X4_conditionsOf t a1 h = some o) (hQ : ∀ r h9, r = .inl (some (.int o)) ∧ h = h9 → Q r h9) : tq_C l yX4_conditionsOf cX4_conditionsOf 2 (some .int) d 0 0 [.ref t, .int a1] h Q := by
  refine tq_body (y := yX4_conditionsOf) false (by decide +kernel) (fun z => by cases z) (Nat.le_of_ble_eq_true rfl) ?_
  show tq_W l mX4_conditionsOf d 0 0 Q 0 [(0, .ref t), (1, .int a1)] [] h
  refine tq_aload_n (M := mX4_conditionsOf) (pc := 0) dX4_conditionsOf_0 rfl ?_
  obtain ⟨k1, ek1, hf⟩ := tq_be hf
  refine tq_getR (M := mX4_conditionsOf) (pc := 1) tk_c4 (by decide) dX4_conditionsOf_1 tk_RX4_29 rfl ek1 ?_
  refine tq_iload_n (M := mX4_conditionsOf) (pc := 4) dX4_conditionsOf_4 rfl ?_
  obtain ⟨⟨⟩, eu3, hf⟩ := tq_be hf
  obtain ⟨fsu3, eu3⟩ := tq_is_s eu3
  obtain ⟨v2, ev2, hf⟩ := tq_be hf
  refine tq_calV (M := mX4_conditionsOf) (pc := 5) (S := []) tk_y_X5_get tk_v_X5_get tk_RX4_48 dX4_conditionsOf_5 [.int a1] rfl (S0 := _) rfl eu3 rfl (Nat.le_of_ble_eq_true rfl) (d1 := d - 1) (b1 := 0) (s1 := 0) (bc' := 0) (bs' := 0) (Q1 := fun r h9 => r = .inl (some (.int v2)) ∧ h = h9) (by omega) rfl rfl (w_X5_get (by omega) ev2 (fun _ _ q => q)) (fun E h9 q => nomatch (show (Sum.inr E : tq_R) = Sum.inl _ from q.1)) (fun r9 h9 q => ?_)
  obtain ⟨q1, rfl⟩ := q
  cases (show (Sum.inl r9 : tq_R) = Sum.inl (some (.int v2)) from q1)
  refine tq_iret (M := mX4_conditionsOf) (pc := 8) dX4_conditionsOf_8 rfl ?_
  cases (Option.some.inj hf)
  exact hQ _ _ ⟨rfl, rfl⟩
abbrev mX4_conditionAt : tq_M := (RX4, cX4_conditionAt, 3, (some .int), false, [], none)
def f_X4_conditionAt (t : Nat) (a1 : Int32) (a2 : Int32) (h : tq_H) : Option (Int32) :=
  some ((a1 * (2 : Int32)) + a2)
set_option maxHeartbeats 4000000 in
set_option maxRecDepth 20000 in
theorem w_X4_conditionAt {l : Launch} {d : Nat} (hd9 : 0 ≤ d) {t : Nat} {a1 : Int32} {a2 : Int32} {h : tq_H} {o : Int32} {Q : tq_R → tq_H → Prop} (hf : f_X4_conditionAt t a1 a2 h = some o) (hQ : ∀ r h9, r = .inl (some (.int o)) ∧ h = h9 → Q r h9) : tq_C l yX4_conditionAt cX4_conditionAt 3 (some .int) d 0 0 [.ref t, .int a1, .int a2] h Q := by
  refine tq_body (y := yX4_conditionAt) false (by decide +kernel) (fun z => by cases z) (Nat.le_of_ble_eq_true rfl) ?_
  show tq_W l mX4_conditionAt d 0 0 Q 0 [(0, .ref t), (1, .int a1), (2, .int a2)] [] h
  refine tq_iload_n (M := mX4_conditionAt) (pc := 0) dX4_conditionAt_0 rfl ?_
  refine tq_iconst (M := mX4_conditionAt) (pc := 1) dX4_conditionAt_1 tk_ki_2 ?_
  refine tq_imul (M := mX4_conditionAt) (pc := 2) dX4_conditionAt_2 ?_
  refine tq_iload_n (M := mX4_conditionAt) (pc := 3) dX4_conditionAt_3 rfl ?_
  refine tq_iadd (M := mX4_conditionAt) (pc := 4) dX4_conditionAt_4 ?_
  refine tq_iret (M := mX4_conditionAt) (pc := 5) dX4_conditionAt_5 rfl ?_
  cases (Option.some.inj hf)
  exact hQ _ _ ⟨rfl, rfl⟩
abbrev mX4_whatOf : tq_M := (RX4, cX4_whatOf, 2, (some .int), false, [], none)
def f_X4_whatOf (t : Nat) (a1 : Int32) (h : tq_H) : Option (Int32) :=
  (tq_gr h t 4 5).bind fun k1 =>
  (tq_is h k1 5).bind fun _ =>
  (f_X5_get k1 a1 h).bind fun v2 =>
  some v2
set_option maxHeartbeats 4000000 in
set_option maxRecDepth 20000 in
theorem w_X4_whatOf {l : Launch} {d : Nat} (hd9 : 1 ≤ d) {t : Nat} {a1 : Int32} {h : tq_H} {o : Int32} {Q : tq_R → tq_H → Prop} (hf : f_X4_whatOf t a1 h = some o) (hQ : ∀ r h9, r = .inl (some (.int o)) ∧ h = h9 → Q r h9) : tq_C l yX4_whatOf cX4_whatOf 2 (some .int) d 0 0 [.ref t, .int a1] h Q := by
  refine tq_body (y := yX4_whatOf) false (by decide +kernel) (fun z => by cases z) (Nat.le_of_ble_eq_true rfl) ?_
  show tq_W l mX4_whatOf d 0 0 Q 0 [(0, .ref t), (1, .int a1)] [] h
  refine tq_aload_n (M := mX4_whatOf) (pc := 0) dX4_whatOf_0 rfl ?_
  obtain ⟨k1, ek1, hf⟩ := tq_be hf
  refine tq_getR (M := mX4_whatOf) (pc := 1) tk_c4 (by decide) dX4_whatOf_1 tk_RX4_32 rfl ek1 ?_
  refine tq_iload_n (M := mX4_whatOf) (pc := 4) dX4_whatOf_4 rfl ?_
  obtain ⟨⟨⟩, eu3, hf⟩ := tq_be hf
  obtain ⟨fsu3, eu3⟩ := tq_is_s eu3
  obtain ⟨v2, ev2, hf⟩ := tq_be hf
  refine tq_calV (M := mX4_whatOf) (pc := 5) (S := []) tk_y_X5_get tk_v_X5_get tk_RX4_48 dX4_whatOf_5 [.int a1] rfl (S0 := _) rfl eu3 rfl (Nat.le_of_ble_eq_true rfl) (d1 := d - 1) (b1 := 0) (s1 := 0) (bc' := 0) (bs' := 0) (Q1 := fun r h9 => r = .inl (some (.int v2)) ∧ h = h9) (by omega) rfl rfl (w_X5_get (by omega) ev2 (fun _ _ q => q)) (fun E h9 q => nomatch (show (Sum.inr E : tq_R) = Sum.inl _ from q.1)) (fun r9 h9 q => ?_)
  obtain ⟨q1, rfl⟩ := q
  cases (show (Sum.inl r9 : tq_R) = Sum.inl (some (.int v2)) from q1)
  refine tq_iret (M := mX4_whatOf) (pc := 8) dX4_whatOf_8 rfl ?_
  cases (Option.some.inj hf)
  exact hQ _ _ ⟨rfl, rfl⟩
abbrev mX4_comparisonOf : tq_M := (RX4, cX4_comparisonOf, 2, (some .int), false, [], none)
def f_X4_comparisonOf (t : Nat) (a1 : Int32) (h : tq_H) : Option (Int32) :=
  (tq_gr h t 4 7).bind fun k1 =>
  (tq_is h k1 5).bind fun _ =>
  (f_X5_get k1 a1 h).bind fun v2 =>
  some v2
set_option maxHeartbeats 4000000 in
set_option maxRecDepth 20000 in
theorem w_X4_comparisonOf {l : Launch} {d : Nat} (hd9 : 1 ≤ d) {t : Nat} {a1 : Int32} {h : tq_H} {o : Int32} {Q : tq_R → tq_H → Prop} (hf : f_X4_comparisonOf t a1 h = some o) (hQ : ∀ r h9, r = .inl (some (.int o)) ∧ h = h9 → Q r h9) : tq_C l yX4_comparisonOf cX4_comparisonOf 2 (some .int) d 0 0 [.ref t, .int a1] h Q := by
  refine tq_body (y := yX4_comparisonOf) false (by decide +kernel) (fun z => by cases z) (Nat.le_of_ble_eq_true rfl) ?_
  show tq_W l mX4_comparisonOf d 0 0 Q 0 [(0, .ref t), (1, .int a1)] [] h
  refine tq_aload_n (M := mX4_comparisonOf) (pc := 0) dX4_comparisonOf_0 rfl ?_
  obtain ⟨k1, ek1, hf⟩ := tq_be hf
  refine tq_getR (M := mX4_comparisonOf) (pc := 1) tk_c4 (by decide) dX4_comparisonOf_1 tk_RX4_38 rfl ek1 ?_
  refine tq_iload_n (M := mX4_comparisonOf) (pc := 4) dX4_comparisonOf_4 rfl ?_
  obtain ⟨⟨⟩, eu3, hf⟩ := tq_be hf
  obtain ⟨fsu3, eu3⟩ := tq_is_s eu3
  obtain ⟨v2, ev2, hf⟩ := tq_be hf
  refine tq_calV (M := mX4_comparisonOf) (pc := 5) (S := []) tk_y_X5_get tk_v_X5_get tk_RX4_48 dX4_comparisonOf_5 [.int a1] rfl (S0 := _) rfl eu3 rfl (Nat.le_of_ble_eq_true rfl) (d1 := d - 1) (b1 := 0) (s1 := 0) (bc' := 0) (bs' := 0) (Q1 := fun r h9 => r = .inl (some (.int v2)) ∧ h = h9) (by omega) rfl rfl (w_X5_get (by omega) ev2 (fun _ _ q => q)) (fun E h9 q => nomatch (show (Sum.inr E : tq_R) = Sum.inl _ from q.1)) (fun r9 h9 q => ?_)
  obtain ⟨q1, rfl⟩ := q
  cases (show (Sum.inl r9 : tq_R) = Sum.inl (some (.int v2)) from q1)
  refine tq_iret (M := mX4_comparisonOf) (pc := 8) dX4_comparisonOf_8 rfl ?_
  cases (Option.some.inj hf)
  exact hQ _ _ ⟨rfl, rfl⟩
abbrev mX4_numberOf : tq_M := (RX4, cX4_numberOf, 2, (some .int), false, [], none)
def f_X4_numberOf (t : Nat) (a1 : Int32) (h : tq_H) : Option (Int32) :=
  (tq_gr h t 4 8).bind fun k1 =>
  (tq_is h k1 5).bind fun _ =>
  (f_X5_get k1 a1 h).bind fun v2 =>
  some v2
set_option maxHeartbeats 4000000 in
set_option maxRecDepth 20000 in
theorem w_X4_numberOf {l : Launch} {d : Nat} (hd9 : 1 ≤ d) {t : Nat} {a1 : Int32} {h : tq_H} {o : Int32} {Q : tq_R → tq_H → Prop} (hf : f_X4_numberOf t a1 h = some o) (hQ : ∀ r h9, r = .inl (some (.int o)) ∧ h = h9 → Q r h9) : tq_C l yX4_numberOf cX4_numberOf 2 (some .int) d 0 0 [.ref t, .int a1] h Q := by
  refine tq_body (y := yX4_numberOf) false (by decide +kernel) (fun z => by cases z) (Nat.le_of_ble_eq_true rfl) ?_
  show tq_W l mX4_numberOf d 0 0 Q 0 [(0, .ref t), (1, .int a1)] [] h
  refine tq_aload_n (M := mX4_numberOf) (pc := 0) dX4_numberOf_0 rfl ?_
  obtain ⟨k1, ek1, hf⟩ := tq_be hf
  refine tq_getR (M := mX4_numberOf) (pc := 1) tk_c4 (by decide) dX4_numberOf_1 tk_RX4_41 rfl ek1 ?_
  refine tq_iload_n (M := mX4_numberOf) (pc := 4) dX4_numberOf_4 rfl ?_
  obtain ⟨⟨⟩, eu3, hf⟩ := tq_be hf
  obtain ⟨fsu3, eu3⟩ := tq_is_s eu3
  obtain ⟨v2, ev2, hf⟩ := tq_be hf
  refine tq_calV (M := mX4_numberOf) (pc := 5) (S := []) tk_y_X5_get tk_v_X5_get tk_RX4_48 dX4_numberOf_5 [.int a1] rfl (S0 := _) rfl eu3 rfl (Nat.le_of_ble_eq_true rfl) (d1 := d - 1) (b1 := 0) (s1 := 0) (bc' := 0) (bs' := 0) (Q1 := fun r h9 => r = .inl (some (.int v2)) ∧ h = h9) (by omega) rfl rfl (w_X5_get (by omega) ev2 (fun _ _ q => q)) (fun E h9 q => nomatch (show (Sum.inr E : tq_R) = Sum.inl _ from q.1)) (fun r9 h9 q => ?_)
  obtain ⟨q1, rfl⟩ := q
  cases (show (Sum.inl r9 : tq_R) = Sum.inl (some (.int v2)) from q1)
  refine tq_iret (M := mX4_numberOf) (pc := 8) dX4_numberOf_8 rfl ?_
  cases (Option.some.inj hf)
  exact hQ _ _ ⟨rfl, rfl⟩
abbrev mX4_otherOf : tq_M := (RX4, cX4_otherOf, 2, (some .int), false, [], none)
def f_X4_otherOf (t : Nat) (a1 : Int32) (h : tq_H) : Option (Int32) :=
  (tq_gr h t 4 6).bind fun k1 =>
  (tq_is h k1 5).bind fun _ =>
  (f_X5_get k1 a1 h).bind fun v2 =>
  some v2
set_option maxHeartbeats 4000000 in
set_option maxRecDepth 20000 in
theorem w_X4_otherOf {l : Launch} {d : Nat} (hd9 : 1 ≤ d) {t : Nat} {a1 : Int32} {h : tq_H} {o : Int32} {Q : tq_R → tq_H → Prop} (hf : f_X4_otherOf t a1 h = some o) (hQ : ∀ r h9, r = .inl (some (.int o)) ∧ h = h9 → Q r h9) : tq_C l yX4_otherOf cX4_otherOf 2 (some .int) d 0 0 [.ref t, .int a1] h Q := by
  refine tq_body (y := yX4_otherOf) false (by decide +kernel) (fun z => by cases z) (Nat.le_of_ble_eq_true rfl) ?_
  show tq_W l mX4_otherOf d 0 0 Q 0 [(0, .ref t), (1, .int a1)] [] h
  refine tq_aload_n (M := mX4_otherOf) (pc := 0) dX4_otherOf_0 rfl ?_
  obtain ⟨k1, ek1, hf⟩ := tq_be hf
  refine tq_getR (M := mX4_otherOf) (pc := 1) tk_c4 (by decide) dX4_otherOf_1 tk_RX4_35 rfl ek1 ?_
  refine tq_iload_n (M := mX4_otherOf) (pc := 4) dX4_otherOf_4 rfl ?_
  obtain ⟨⟨⟩, eu3, hf⟩ := tq_be hf
  obtain ⟨fsu3, eu3⟩ := tq_is_s eu3
  obtain ⟨v2, ev2, hf⟩ := tq_be hf
  refine tq_calV (M := mX4_otherOf) (pc := 5) (S := []) tk_y_X5_get tk_v_X5_get tk_RX4_48 dX4_otherOf_5 [.int a1] rfl (S0 := _) rfl eu3 rfl (Nat.le_of_ble_eq_true rfl) (d1 := d - 1) (b1 := 0) (s1 := 0) (bc' := 0) (bs' := 0) (Q1 := fun r h9 => r = .inl (some (.int v2)) ∧ h = h9) (by omega) rfl rfl (w_X5_get (by omega) ev2 (fun _ _ q => q)) (fun E h9 q => nomatch (show (Sum.inr E : tq_R) = Sum.inl _ from q.1)) (fun r9 h9 q => ?_)
  obtain ⟨q1, rfl⟩ := q
  cases (show (Sum.inl r9 : tq_R) = Sum.inl (some (.int v2)) from q1)
  refine tq_iret (M := mX4_otherOf) (pc := 8) dX4_otherOf_8 rfl ?_
  cases (Option.some.inj hf)
  exact hQ _ _ ⟨rfl, rfl⟩
abbrev mX3_init : tq_M := (RX3, cX3_init, 1, none, true, [], none)
def f_X3_init (t : Nat) (h : tq_H) : Option (tq_H) :=
  tq_let (tq_new h (.inl (5, [.null]))) fun w1 =>
  (f_X5_init h.1 (60 : Int32) (-1 : Int32) w1).bind fun v2 =>
  (tq_pf v2 t 3 0 (.ref h.1)).bind fun w3 =>
  tq_let (tq_new w3 (.inl (5, [.null]))) fun w4 =>
  (f_X5_init w3.1 (60 : Int32) (-1 : Int32) w4).bind fun v5 =>
  (tq_pf v5 t 3 1 (.ref w3.1)).bind fun w6 =>
  tq_let (tq_new w6 (.inl (5, [.null]))) fun w7 =>
  (f_X5_init w6.1 (60 : Int32) (-1 : Int32) w7).bind fun v8 =>
  (tq_pf v8 t 3 2 (.ref w6.1)).bind fun w9 =>
  tq_let (tq_new w9 (.inl (5, [.null]))) fun w10 =>
  (f_X5_init w9.1 (60 : Int32) (0 : Int32) w10).bind fun v11 =>
  (tq_pf v11 t 3 3 (.ref w9.1)).bind fun w12 =>
  tq_let (tq_new w12 (.inl (5, [.null]))) fun w13 =>
  (f_X5_init w12.1 (60 : Int32) (-1 : Int32) w13).bind fun v14 =>
  (tq_pf v14 t 3 4 (.ref w12.1)).bind fun w15 =>
  tq_let (tq_new w15 (.inl (7, [.null]))) fun w16 =>
  (f_X7_init w15.1 (60 : Int32) w16).bind fun v17 =>
  (tq_pf v17 t 3 5 (.ref w15.1)).bind fun w18 =>
  tq_let (tq_new w18 (.inl (7, [.null]))) fun w19 =>
  (f_X7_init w18.1 (60 : Int32) w19).bind fun v20 =>
  (tq_pf v20 t 3 6 (.ref w18.1)).bind fun w21 =>
  tq_let (tq_new w21 (.inl (7, [.null]))) fun w22 =>
  (f_X7_init w21.1 (60 : Int32) w22).bind fun v23 =>
  (tq_pf v23 t 3 7 (.ref w21.1)).bind fun w24 =>
  tq_let (tq_new w24 (.inl (7, [.null]))) fun w25 =>
  (f_X7_init w24.1 (60 : Int32) w25).bind fun v26 =>
  (tq_pf v26 t 3 8 (.ref w24.1)).bind fun w27 =>
  tq_let (tq_new w27 (.inl (7, [.null]))) fun w28 =>
  (f_X7_init w27.1 (14 : Int32) w28).bind fun v29 =>
  (tq_pf v29 t 3 9 (.ref w27.1)).bind fun w30 =>
  (tq_pf w30 t 3 10 (.long (0 : Int64))).bind fun w31 =>
  (tq_pf w31 t 3 11 (.long (0 : Int64))).bind fun w32 =>
  (tq_pf w32 t 3 12 (.int (0 : Int32))).bind fun w33 =>
  some w33
set_option maxHeartbeats 4000000 in
set_option maxRecDepth 20000 in
theorem w_X3_init {l : Launch} {d : Nat} (hd9 : 2 ≤ d) {t : Nat} {h : tq_H} {o : tq_H} {Q : tq_R → tq_H → Prop} (hf : f_X3_init t h = some o) (hQ : ∀ r h9, r = .inl none ∧ o = h9 → Q r h9) : tq_C l yX3_init cX3_init 1 none d 20 564 [.ref t] h Q := by
  refine tq_body (y := yX3_init) true (by decide +kernel) (fun _ => rfl) (Nat.le_of_ble_eq_true rfl) ?_
  show tq_W l mX3_init d 20 564 Q 0 [(0, .ref t)] [] h
  refine tq_aload_n (M := mX3_init) (pc := 0) dX3_init_0 rfl ?_
  refine tq_objinit (M := mX3_init) (pc := 1) dX3_init_1 tk_RX3_3 tk_oi tk_oc (by omega) (Nat.le_of_ble_eq_true rfl) ?_
  refine tq_aload_n (M := mX3_init) (pc := 4) dX3_init_4 rfl ?_
  obtain ⟨w1, ew1, hf⟩ := tq_le hf
  refine tq_newo (M := mX3_init) (pc := 5) tk_c5 dX3_init_5 tk_RX3_9 tk_in5 tk_ini5 (fs := [.null]) (fun j hj => by rcases (show j = 0 by omega) with rfl <;> rfl) (fun _ => ⟨rfl, trivial⟩) (bc' := 19) (bs' := 563) (by omega) (by omega) ?_
  rw [← ew1]
  refine tq_dup (M := mX3_init) (pc := 8) dX3_init_8 rfl ?_
  refine tq_bipush (M := mX3_init) (pc := 9) dX3_init_9 tk_kb_60 ?_
  refine tq_iconst (M := mX3_init) (pc := 11) dX3_init_11 tk_ki_m1 ?_
  obtain ⟨v2, ev2, hf⟩ := tq_be hf
  refine tq_calI (M := mX3_init) (pc := 12) (S := [.ref h.1, .ref t]) tk_y_X5_init tk_v_X5_init rfl (Or.inl tk_RX3_11) dX3_init_12 [.int (60 : Int32), .int (-1 : Int32)] rfl (Nat.le_of_ble_eq_true rfl) (d1 := d - 1) (b1 := 1) (s1 := 60) (bc' := 18) (bs' := 503) (Q1 := fun r h9 => r = .inl none ∧ v2 = h9) (by omega) rfl rfl (w_X5_init (by omega) (N := 60) (by decide +kernel) (by decide +kernel) (by decide) ev2 (fun _ _ q => q)) (fun E h9 q => nomatch (show (Sum.inr E : tq_R) = Sum.inl _ from q.1)) (fun r9 h9 q => ?_)
  obtain ⟨q1, rfl⟩ := q
  cases (show (Sum.inl r9 : tq_R) = Sum.inl (none) from q1)
  obtain ⟨w3, ew3, hf⟩ := tq_be hf
  refine tq_putv (M := mX3_init) (pc := 15) tk_c3 (by decide) dX3_init_15 tk_RX3_14 rfl (Or.inr ⟨rfl, rfl⟩) ew3 (tq_nR _ _) ?_
  refine tq_aload_n (M := mX3_init) (pc := 18) dX3_init_18 rfl ?_
  obtain ⟨w4, ew4, hf⟩ := tq_le hf
  refine tq_newo (M := mX3_init) (pc := 19) tk_c5 dX3_init_19 tk_RX3_9 tk_in5 tk_ini5 (fs := [.null]) (fun j hj => by rcases (show j = 0 by omega) with rfl <;> rfl) (fun _ => ⟨rfl, trivial⟩) (bc' := 17) (bs' := 502) (by omega) (by omega) ?_
  rw [← ew4]
  refine tq_dup (M := mX3_init) (pc := 22) dX3_init_22 rfl ?_
  refine tq_bipush (M := mX3_init) (pc := 23) dX3_init_23 tk_kb_60 ?_
  refine tq_iconst (M := mX3_init) (pc := 25) dX3_init_25 tk_ki_m1 ?_
  obtain ⟨v5, ev5, hf⟩ := tq_be hf
  refine tq_calI (M := mX3_init) (pc := 26) (S := [.ref w3.1, .ref t]) tk_y_X5_init tk_v_X5_init rfl (Or.inl tk_RX3_11) dX3_init_26 [.int (60 : Int32), .int (-1 : Int32)] rfl (Nat.le_of_ble_eq_true rfl) (d1 := d - 1) (b1 := 1) (s1 := 60) (bc' := 16) (bs' := 442) (Q1 := fun r h9 => r = .inl none ∧ v5 = h9) (by omega) rfl rfl (w_X5_init (by omega) (N := 60) (by decide +kernel) (by decide +kernel) (by decide) ev5 (fun _ _ q => q)) (fun E h9 q => nomatch (show (Sum.inr E : tq_R) = Sum.inl _ from q.1)) (fun r9 h9 q => ?_)
  obtain ⟨q1, rfl⟩ := q
  cases (show (Sum.inl r9 : tq_R) = Sum.inl (none) from q1)
  obtain ⟨w6, ew6, hf⟩ := tq_be hf
  refine tq_putv (M := mX3_init) (pc := 29) tk_c3 (by decide) dX3_init_29 tk_RX3_20 rfl (Or.inr ⟨rfl, rfl⟩) ew6 (tq_nR _ _) ?_
  refine tq_aload_n (M := mX3_init) (pc := 32) dX3_init_32 rfl ?_
  obtain ⟨w7, ew7, hf⟩ := tq_le hf
  refine tq_newo (M := mX3_init) (pc := 33) tk_c5 dX3_init_33 tk_RX3_9 tk_in5 tk_ini5 (fs := [.null]) (fun j hj => by rcases (show j = 0 by omega) with rfl <;> rfl) (fun _ => ⟨rfl, trivial⟩) (bc' := 15) (bs' := 441) (by omega) (by omega) ?_
  rw [← ew7]
  refine tq_dup (M := mX3_init) (pc := 36) dX3_init_36 rfl ?_
  refine tq_bipush (M := mX3_init) (pc := 37) dX3_init_37 tk_kb_60 ?_
  refine tq_iconst (M := mX3_init) (pc := 39) dX3_init_39 tk_ki_m1 ?_
  obtain ⟨v8, ev8, hf⟩ := tq_be hf
  refine tq_calI (M := mX3_init) (pc := 40) (S := [.ref w6.1, .ref t]) tk_y_X5_init tk_v_X5_init rfl (Or.inl tk_RX3_11) dX3_init_40 [.int (60 : Int32), .int (-1 : Int32)] rfl (Nat.le_of_ble_eq_true rfl) (d1 := d - 1) (b1 := 1) (s1 := 60) (bc' := 14) (bs' := 381) (Q1 := fun r h9 => r = .inl none ∧ v8 = h9) (by omega) rfl rfl (w_X5_init (by omega) (N := 60) (by decide +kernel) (by decide +kernel) (by decide) ev8 (fun _ _ q => q)) (fun E h9 q => nomatch (show (Sum.inr E : tq_R) = Sum.inl _ from q.1)) (fun r9 h9 q => ?_)
  obtain ⟨q1, rfl⟩ := q
  cases (show (Sum.inl r9 : tq_R) = Sum.inl (none) from q1)
  obtain ⟨w9, ew9, hf⟩ := tq_be hf
  refine tq_putv (M := mX3_init) (pc := 43) tk_c3 (by decide) dX3_init_43 tk_RX3_23 rfl (Or.inr ⟨rfl, rfl⟩) ew9 (tq_nR _ _) ?_
  refine tq_aload_n (M := mX3_init) (pc := 46) dX3_init_46 rfl ?_
  obtain ⟨w10, ew10, hf⟩ := tq_le hf
  refine tq_newo (M := mX3_init) (pc := 47) tk_c5 dX3_init_47 tk_RX3_9 tk_in5 tk_ini5 (fs := [.null]) (fun j hj => by rcases (show j = 0 by omega) with rfl <;> rfl) (fun _ => ⟨rfl, trivial⟩) (bc' := 13) (bs' := 380) (by omega) (by omega) ?_
  rw [← ew10]
  refine tq_dup (M := mX3_init) (pc := 50) dX3_init_50 rfl ?_
  refine tq_bipush (M := mX3_init) (pc := 51) dX3_init_51 tk_kb_60 ?_
  refine tq_iconst (M := mX3_init) (pc := 53) dX3_init_53 tk_ki_0 ?_
  obtain ⟨v11, ev11, hf⟩ := tq_be hf
  refine tq_calI (M := mX3_init) (pc := 54) (S := [.ref w9.1, .ref t]) tk_y_X5_init tk_v_X5_init rfl (Or.inl tk_RX3_11) dX3_init_54 [.int (60 : Int32), .int (0 : Int32)] rfl (Nat.le_of_ble_eq_true rfl) (d1 := d - 1) (b1 := 1) (s1 := 60) (bc' := 12) (bs' := 320) (Q1 := fun r h9 => r = .inl none ∧ v11 = h9) (by omega) rfl rfl (w_X5_init (by omega) (N := 60) (by decide +kernel) (by decide +kernel) (by decide) ev11 (fun _ _ q => q)) (fun E h9 q => nomatch (show (Sum.inr E : tq_R) = Sum.inl _ from q.1)) (fun r9 h9 q => ?_)
  obtain ⟨q1, rfl⟩ := q
  cases (show (Sum.inl r9 : tq_R) = Sum.inl (none) from q1)
  obtain ⟨w12, ew12, hf⟩ := tq_be hf
  refine tq_putv (M := mX3_init) (pc := 57) tk_c3 (by decide) dX3_init_57 tk_RX3_26 rfl (Or.inr ⟨rfl, rfl⟩) ew12 (tq_nR _ _) ?_
  refine tq_aload_n (M := mX3_init) (pc := 60) dX3_init_60 rfl ?_
  obtain ⟨w13, ew13, hf⟩ := tq_le hf
  refine tq_newo (M := mX3_init) (pc := 61) tk_c5 dX3_init_61 tk_RX3_9 tk_in5 tk_ini5 (fs := [.null]) (fun j hj => by rcases (show j = 0 by omega) with rfl <;> rfl) (fun _ => ⟨rfl, trivial⟩) (bc' := 11) (bs' := 319) (by omega) (by omega) ?_
  rw [← ew13]
  refine tq_dup (M := mX3_init) (pc := 64) dX3_init_64 rfl ?_
  refine tq_bipush (M := mX3_init) (pc := 65) dX3_init_65 tk_kb_60 ?_
  refine tq_iconst (M := mX3_init) (pc := 67) dX3_init_67 tk_ki_m1 ?_
  obtain ⟨v14, ev14, hf⟩ := tq_be hf
  refine tq_calI (M := mX3_init) (pc := 68) (S := [.ref w12.1, .ref t]) tk_y_X5_init tk_v_X5_init rfl (Or.inl tk_RX3_11) dX3_init_68 [.int (60 : Int32), .int (-1 : Int32)] rfl (Nat.le_of_ble_eq_true rfl) (d1 := d - 1) (b1 := 1) (s1 := 60) (bc' := 10) (bs' := 259) (Q1 := fun r h9 => r = .inl none ∧ v14 = h9) (by omega) rfl rfl (w_X5_init (by omega) (N := 60) (by decide +kernel) (by decide +kernel) (by decide) ev14 (fun _ _ q => q)) (fun E h9 q => nomatch (show (Sum.inr E : tq_R) = Sum.inl _ from q.1)) (fun r9 h9 q => ?_)
  obtain ⟨q1, rfl⟩ := q
  cases (show (Sum.inl r9 : tq_R) = Sum.inl (none) from q1)
  obtain ⟨w15, ew15, hf⟩ := tq_be hf
  refine tq_putv (M := mX3_init) (pc := 71) tk_c3 (by decide) dX3_init_71 tk_RX3_29 rfl (Or.inr ⟨rfl, rfl⟩) ew15 (tq_nR _ _) ?_
  refine tq_aload_n (M := mX3_init) (pc := 74) dX3_init_74 rfl ?_
  obtain ⟨w16, ew16, hf⟩ := tq_le hf
  refine tq_newo (M := mX3_init) (pc := 75) tk_c7 dX3_init_75 tk_RX3_32 tk_in7 tk_ini7 (fs := [.null]) (fun j hj => by rcases (show j = 0 by omega) with rfl <;> rfl) (fun _ => ⟨rfl, trivial⟩) (bc' := 9) (bs' := 258) (by omega) (by omega) ?_
  rw [← ew16]
  refine tq_dup (M := mX3_init) (pc := 78) dX3_init_78 rfl ?_
  refine tq_bipush (M := mX3_init) (pc := 79) dX3_init_79 tk_kb_60 ?_
  obtain ⟨v17, ev17, hf⟩ := tq_be hf
  refine tq_calI (M := mX3_init) (pc := 81) (S := [.ref w15.1, .ref t]) tk_y_X7_init tk_v_X7_init rfl (Or.inl tk_RX3_34) dX3_init_81 [.int (60 : Int32)] rfl (Nat.le_of_ble_eq_true rfl) (d1 := d - 1) (b1 := 1) (s1 := 60) (bc' := 8) (bs' := 198) (Q1 := fun r h9 => r = .inl none ∧ v17 = h9) (by omega) rfl rfl (w_X7_init (by omega) (N := 60) (by decide +kernel) (by decide +kernel) (by decide) ev17 (fun _ _ q => q)) (fun E h9 q => nomatch (show (Sum.inr E : tq_R) = Sum.inl _ from q.1)) (fun r9 h9 q => ?_)
  obtain ⟨q1, rfl⟩ := q
  cases (show (Sum.inl r9 : tq_R) = Sum.inl (none) from q1)
  obtain ⟨w18, ew18, hf⟩ := tq_be hf
  refine tq_putv (M := mX3_init) (pc := 84) tk_c3 (by decide) dX3_init_84 tk_RX3_37 rfl (Or.inr ⟨rfl, rfl⟩) ew18 (tq_nR _ _) ?_
  refine tq_aload_n (M := mX3_init) (pc := 87) dX3_init_87 rfl ?_
  obtain ⟨w19, ew19, hf⟩ := tq_le hf
  refine tq_newo (M := mX3_init) (pc := 88) tk_c7 dX3_init_88 tk_RX3_32 tk_in7 tk_ini7 (fs := [.null]) (fun j hj => by rcases (show j = 0 by omega) with rfl <;> rfl) (fun _ => ⟨rfl, trivial⟩) (bc' := 7) (bs' := 197) (by omega) (by omega) ?_
  rw [← ew19]
  refine tq_dup (M := mX3_init) (pc := 91) dX3_init_91 rfl ?_
  refine tq_bipush (M := mX3_init) (pc := 92) dX3_init_92 tk_kb_60 ?_
  obtain ⟨v20, ev20, hf⟩ := tq_be hf
  refine tq_calI (M := mX3_init) (pc := 94) (S := [.ref w18.1, .ref t]) tk_y_X7_init tk_v_X7_init rfl (Or.inl tk_RX3_34) dX3_init_94 [.int (60 : Int32)] rfl (Nat.le_of_ble_eq_true rfl) (d1 := d - 1) (b1 := 1) (s1 := 60) (bc' := 6) (bs' := 137) (Q1 := fun r h9 => r = .inl none ∧ v20 = h9) (by omega) rfl rfl (w_X7_init (by omega) (N := 60) (by decide +kernel) (by decide +kernel) (by decide) ev20 (fun _ _ q => q)) (fun E h9 q => nomatch (show (Sum.inr E : tq_R) = Sum.inl _ from q.1)) (fun r9 h9 q => ?_)
  obtain ⟨q1, rfl⟩ := q
  cases (show (Sum.inl r9 : tq_R) = Sum.inl (none) from q1)
  obtain ⟨w21, ew21, hf⟩ := tq_be hf
  refine tq_putv (M := mX3_init) (pc := 97) tk_c3 (by decide) dX3_init_97 tk_RX3_41 rfl (Or.inr ⟨rfl, rfl⟩) ew21 (tq_nR _ _) ?_
  refine tq_aload_n (M := mX3_init) (pc := 100) dX3_init_100 rfl ?_
  obtain ⟨w22, ew22, hf⟩ := tq_le hf
  refine tq_newo (M := mX3_init) (pc := 101) tk_c7 dX3_init_101 tk_RX3_32 tk_in7 tk_ini7 (fs := [.null]) (fun j hj => by rcases (show j = 0 by omega) with rfl <;> rfl) (fun _ => ⟨rfl, trivial⟩) (bc' := 5) (bs' := 136) (by omega) (by omega) ?_
  rw [← ew22]
  refine tq_dup (M := mX3_init) (pc := 104) dX3_init_104 rfl ?_
  refine tq_bipush (M := mX3_init) (pc := 105) dX3_init_105 tk_kb_60 ?_
  obtain ⟨v23, ev23, hf⟩ := tq_be hf
  refine tq_calI (M := mX3_init) (pc := 107) (S := [.ref w21.1, .ref t]) tk_y_X7_init tk_v_X7_init rfl (Or.inl tk_RX3_34) dX3_init_107 [.int (60 : Int32)] rfl (Nat.le_of_ble_eq_true rfl) (d1 := d - 1) (b1 := 1) (s1 := 60) (bc' := 4) (bs' := 76) (Q1 := fun r h9 => r = .inl none ∧ v23 = h9) (by omega) rfl rfl (w_X7_init (by omega) (N := 60) (by decide +kernel) (by decide +kernel) (by decide) ev23 (fun _ _ q => q)) (fun E h9 q => nomatch (show (Sum.inr E : tq_R) = Sum.inl _ from q.1)) (fun r9 h9 q => ?_)
  obtain ⟨q1, rfl⟩ := q
  cases (show (Sum.inl r9 : tq_R) = Sum.inl (none) from q1)
  obtain ⟨w24, ew24, hf⟩ := tq_be hf
  refine tq_putv (M := mX3_init) (pc := 110) tk_c3 (by decide) dX3_init_110 tk_RX3_44 rfl (Or.inr ⟨rfl, rfl⟩) ew24 (tq_nR _ _) ?_
  refine tq_aload_n (M := mX3_init) (pc := 113) dX3_init_113 rfl ?_
  obtain ⟨w25, ew25, hf⟩ := tq_le hf
  refine tq_newo (M := mX3_init) (pc := 114) tk_c7 dX3_init_114 tk_RX3_32 tk_in7 tk_ini7 (fs := [.null]) (fun j hj => by rcases (show j = 0 by omega) with rfl <;> rfl) (fun _ => ⟨rfl, trivial⟩) (bc' := 3) (bs' := 75) (by omega) (by omega) ?_
  rw [← ew25]
  refine tq_dup (M := mX3_init) (pc := 117) dX3_init_117 rfl ?_
  refine tq_bipush (M := mX3_init) (pc := 118) dX3_init_118 tk_kb_60 ?_
  obtain ⟨v26, ev26, hf⟩ := tq_be hf
  refine tq_calI (M := mX3_init) (pc := 120) (S := [.ref w24.1, .ref t]) tk_y_X7_init tk_v_X7_init rfl (Or.inl tk_RX3_34) dX3_init_120 [.int (60 : Int32)] rfl (Nat.le_of_ble_eq_true rfl) (d1 := d - 1) (b1 := 1) (s1 := 60) (bc' := 2) (bs' := 15) (Q1 := fun r h9 => r = .inl none ∧ v26 = h9) (by omega) rfl rfl (w_X7_init (by omega) (N := 60) (by decide +kernel) (by decide +kernel) (by decide) ev26 (fun _ _ q => q)) (fun E h9 q => nomatch (show (Sum.inr E : tq_R) = Sum.inl _ from q.1)) (fun r9 h9 q => ?_)
  obtain ⟨q1, rfl⟩ := q
  cases (show (Sum.inl r9 : tq_R) = Sum.inl (none) from q1)
  obtain ⟨w27, ew27, hf⟩ := tq_be hf
  refine tq_putv (M := mX3_init) (pc := 123) tk_c3 (by decide) dX3_init_123 tk_RX3_47 rfl (Or.inr ⟨rfl, rfl⟩) ew27 (tq_nR _ _) ?_
  refine tq_aload_n (M := mX3_init) (pc := 126) dX3_init_126 rfl ?_
  obtain ⟨w28, ew28, hf⟩ := tq_le hf
  refine tq_newo (M := mX3_init) (pc := 127) tk_c7 dX3_init_127 tk_RX3_32 tk_in7 tk_ini7 (fs := [.null]) (fun j hj => by rcases (show j = 0 by omega) with rfl <;> rfl) (fun _ => ⟨rfl, trivial⟩) (bc' := 1) (bs' := 14) (by omega) (by omega) ?_
  rw [← ew28]
  refine tq_dup (M := mX3_init) (pc := 130) dX3_init_130 rfl ?_
  refine tq_bipush (M := mX3_init) (pc := 131) dX3_init_131 tk_kb_14 ?_
  obtain ⟨v29, ev29, hf⟩ := tq_be hf
  refine tq_calI (M := mX3_init) (pc := 133) (S := [.ref w27.1, .ref t]) tk_y_X7_init tk_v_X7_init rfl (Or.inl tk_RX3_34) dX3_init_133 [.int (14 : Int32)] rfl (Nat.le_of_ble_eq_true rfl) (d1 := d - 1) (b1 := 1) (s1 := 14) (bc' := 0) (bs' := 0) (Q1 := fun r h9 => r = .inl none ∧ v29 = h9) (by omega) rfl rfl (w_X7_init (by omega) (N := 14) (by decide +kernel) (by decide +kernel) (by decide) ev29 (fun _ _ q => q)) (fun E h9 q => nomatch (show (Sum.inr E : tq_R) = Sum.inl _ from q.1)) (fun r9 h9 q => ?_)
  obtain ⟨q1, rfl⟩ := q
  cases (show (Sum.inl r9 : tq_R) = Sum.inl (none) from q1)
  obtain ⟨w30, ew30, hf⟩ := tq_be hf
  refine tq_putv (M := mX3_init) (pc := 136) tk_c3 (by decide) dX3_init_136 tk_RX3_50 rfl (Or.inr ⟨rfl, rfl⟩) ew30 (tq_nR _ _) ?_
  refine tq_aload_n (M := mX3_init) (pc := 139) dX3_init_139 rfl ?_
  refine tq_lconst (M := mX3_init) (pc := 140) dX3_init_140 tk_kl_0 ?_
  obtain ⟨w31, ew31, hf⟩ := tq_be hf
  refine tq_putv (M := mX3_init) (pc := 141) tk_c3 (by decide) dX3_init_141 tk_RX3_53 rfl (Or.inl rfl) ew31 (tq_nL _) ?_
  refine tq_aload_n (M := mX3_init) (pc := 144) dX3_init_144 rfl ?_
  refine tq_lconst (M := mX3_init) (pc := 145) dX3_init_145 tk_kl_0 ?_
  obtain ⟨w32, ew32, hf⟩ := tq_be hf
  refine tq_putv (M := mX3_init) (pc := 146) tk_c3 (by decide) dX3_init_146 tk_RX3_57 rfl (Or.inl rfl) ew32 (tq_nL _) ?_
  refine tq_aload_n (M := mX3_init) (pc := 149) dX3_init_149 rfl ?_
  refine tq_iconst (M := mX3_init) (pc := 150) dX3_init_150 tk_ki_0 ?_
  obtain ⟨w33, ew33, hf⟩ := tq_be hf
  refine tq_putv (M := mX3_init) (pc := 151) tk_c3 (by decide) dX3_init_151 tk_RX3_60 rfl (Or.inl rfl) ew33 (tq_nI _) ?_
  refine tq_vret (M := mX3_init) (pc := 154) dX3_init_154 rfl ?_
  cases (Option.some.inj hf)
  exact hQ _ _ ⟨rfl, rfl⟩
abbrev mX3_clear : tq_M := (RX3, cX3_clear, 1, none, false, [], none)
def f_X3_clear (t : Nat) (h : tq_H) : Option (tq_H) :=
  (tq_gr h t 3 1).bind fun k1 =>
  (tq_is h k1 5).bind fun _ =>
  (f_X5_setAll k1 (-1 : Int32) h).bind fun v2 =>
  (tq_gr v2 t 3 5).bind fun k4 =>
  (tq_is v2 k4 7).bind fun _ =>
  (f_X7_emptyAll k4 v2).bind fun v5 =>
  (tq_gr v5 t 3 9).bind fun k7 =>
  (tq_is v5 k7 7).bind fun _ =>
  (f_X7_emptyAll k7 v5).bind fun v8 =>
  (tq_pf v8 t 3 10 (.long (0 : Int64))).bind fun w10 =>
  (tq_pf w10 t 3 11 (.long (0 : Int64))).bind fun w11 =>
  (tq_pf w11 t 3 12 (.int (0 : Int32))).bind fun w12 =>
  some w12
set_option maxHeartbeats 4000000 in
set_option maxRecDepth 20000 in
theorem w_X3_clear {l : Launch} {d : Nat} (hd9 : 2 ≤ d) {t : Nat} {h : tq_H} {o : tq_H} {Q : tq_R → tq_H → Prop} (hf : f_X3_clear t h = some o) (hQ : ∀ r h9, r = .inl none ∧ o = h9 → Q r h9) : tq_C l yX3_clear cX3_clear 1 none d 0 0 [.ref t] h Q := by
  refine tq_body (y := yX3_clear) false (by decide +kernel) (fun z => by cases z) (Nat.le_of_ble_eq_true rfl) ?_
  show tq_W l mX3_clear d 0 0 Q 0 [(0, .ref t)] [] h
  refine tq_aload_n (M := mX3_clear) (pc := 0) dX3_clear_0 rfl ?_
  obtain ⟨k1, ek1, hf⟩ := tq_be hf
  refine tq_getR (M := mX3_clear) (pc := 1) tk_c3 (by decide) dX3_clear_1 tk_RX3_20 rfl ek1 ?_
  refine tq_iconst (M := mX3_clear) (pc := 4) dX3_clear_4 tk_ki_m1 ?_
  obtain ⟨⟨⟩, eu3, hf⟩ := tq_be hf
  obtain ⟨fsu3, eu3⟩ := tq_is_s eu3
  obtain ⟨v2, ev2, hf⟩ := tq_be hf
  refine tq_calV (M := mX3_clear) (pc := 5) (S := []) tk_y_X5_setAll tk_v_X5_setAll tk_RX3_64 dX3_clear_5 [.int (-1 : Int32)] rfl (S0 := _) rfl eu3 rfl (Nat.le_of_ble_eq_true rfl) (d1 := d - 1) (b1 := 0) (s1 := 0) (bc' := 0) (bs' := 0) (Q1 := fun r h9 => r = .inl none ∧ v2 = h9) (by omega) rfl rfl (w_X5_setAll (by omega) ev2 (fun _ _ q => q)) (fun E h9 q => nomatch (show (Sum.inr E : tq_R) = Sum.inl _ from q.1)) (fun r9 h9 q => ?_)
  obtain ⟨q1, rfl⟩ := q
  cases (show (Sum.inl r9 : tq_R) = Sum.inl (none) from q1)
  refine tq_aload_n (M := mX3_clear) (pc := 8) dX3_clear_8 rfl ?_
  obtain ⟨k4, ek4, hf⟩ := tq_be hf
  refine tq_getR (M := mX3_clear) (pc := 9) tk_c3 (by decide) dX3_clear_9 tk_RX3_37 rfl ek4 ?_
  obtain ⟨⟨⟩, eu6, hf⟩ := tq_be hf
  obtain ⟨fsu6, eu6⟩ := tq_is_s eu6
  obtain ⟨v5, ev5, hf⟩ := tq_be hf
  refine tq_calV (M := mX3_clear) (pc := 12) (S := []) tk_y_X7_emptyAll tk_v_X7_emptyAll tk_RX3_67 dX3_clear_12 [] rfl (S0 := _) rfl eu6 rfl (Nat.le_of_ble_eq_true rfl) (d1 := d - 1) (b1 := 0) (s1 := 0) (bc' := 0) (bs' := 0) (Q1 := fun r h9 => r = .inl none ∧ v5 = h9) (by omega) rfl rfl (w_X7_emptyAll (by omega) ev5 (fun _ _ q => q)) (fun E h9 q => nomatch (show (Sum.inr E : tq_R) = Sum.inl _ from q.1)) (fun r9 h9 q => ?_)
  obtain ⟨q1, rfl⟩ := q
  cases (show (Sum.inl r9 : tq_R) = Sum.inl (none) from q1)
  refine tq_aload_n (M := mX3_clear) (pc := 15) dX3_clear_15 rfl ?_
  obtain ⟨k7, ek7, hf⟩ := tq_be hf
  refine tq_getR (M := mX3_clear) (pc := 16) tk_c3 (by decide) dX3_clear_16 tk_RX3_50 rfl ek7 ?_
  obtain ⟨⟨⟩, eu9, hf⟩ := tq_be hf
  obtain ⟨fsu9, eu9⟩ := tq_is_s eu9
  obtain ⟨v8, ev8, hf⟩ := tq_be hf
  refine tq_calV (M := mX3_clear) (pc := 19) (S := []) tk_y_X7_emptyAll tk_v_X7_emptyAll tk_RX3_67 dX3_clear_19 [] rfl (S0 := _) rfl eu9 rfl (Nat.le_of_ble_eq_true rfl) (d1 := d - 1) (b1 := 0) (s1 := 0) (bc' := 0) (bs' := 0) (Q1 := fun r h9 => r = .inl none ∧ v8 = h9) (by omega) rfl rfl (w_X7_emptyAll (by omega) ev8 (fun _ _ q => q)) (fun E h9 q => nomatch (show (Sum.inr E : tq_R) = Sum.inl _ from q.1)) (fun r9 h9 q => ?_)
  obtain ⟨q1, rfl⟩ := q
  cases (show (Sum.inl r9 : tq_R) = Sum.inl (none) from q1)
  refine tq_aload_n (M := mX3_clear) (pc := 22) dX3_clear_22 rfl ?_
  refine tq_lconst (M := mX3_clear) (pc := 23) dX3_clear_23 tk_kl_0 ?_
  obtain ⟨w10, ew10, hf⟩ := tq_be hf
  refine tq_putv (M := mX3_clear) (pc := 24) tk_c3 (by decide) dX3_clear_24 tk_RX3_53 rfl (Or.inl rfl) ew10 (tq_nL _) ?_
  refine tq_aload_n (M := mX3_clear) (pc := 27) dX3_clear_27 rfl ?_
  refine tq_lconst (M := mX3_clear) (pc := 28) dX3_clear_28 tk_kl_0 ?_
  obtain ⟨w11, ew11, hf⟩ := tq_be hf
  refine tq_putv (M := mX3_clear) (pc := 29) tk_c3 (by decide) dX3_clear_29 tk_RX3_57 rfl (Or.inl rfl) ew11 (tq_nL _) ?_
  refine tq_aload_n (M := mX3_clear) (pc := 32) dX3_clear_32 rfl ?_
  refine tq_iconst (M := mX3_clear) (pc := 33) dX3_clear_33 tk_ki_0 ?_
  obtain ⟨w12, ew12, hf⟩ := tq_be hf
  refine tq_putv (M := mX3_clear) (pc := 34) tk_c3 (by decide) dX3_clear_34 tk_RX3_60 rfl (Or.inl rfl) ew12 (tq_nI _) ?_
  refine tq_vret (M := mX3_clear) (pc := 37) dX3_clear_37 rfl ?_
  cases (Option.some.inj hf)
  exact hQ _ _ ⟨rfl, rfl⟩
abbrev mX3_add : tq_M := (RX3, cX3_add, 8, none, false, [], none)
def f_X3_add (t : Nat) (a1 : Int32) (a2 : Int32) (a3 : Int32) (a4 : Int32) (a5 : Int32) (h : tq_H) : Option (tq_H) :=
  (tq_gi h t 3 12).bind fun x1 =>
  (tq_gi h t 3 12).bind fun x2 =>
  (tq_pf h t 3 12 (.int ((x2 + (1 : Int32))))).bind fun w3 =>
  (tq_gr w3 t 3 0).bind fun k4 =>
  (tq_is w3 k4 5).bind fun _ =>
  (f_X5_set k4 x1 a1 w3).bind fun v5 =>
  (tq_gr v5 t 3 1).bind fun k7 =>
  (tq_is v5 k7 5).bind fun _ =>
  (f_X5_set k7 a1 x1 v5).bind fun v8 =>
  (tq_gr v8 t 3 2).bind fun k10 =>
  (tq_is v8 k10 5).bind fun _ =>
  (f_X5_set k10 x1 a2 v8).bind fun v11 =>
  (tq_gr v11 t 3 5).bind fun k13 =>
  (tq_is v11 k13 7).bind fun _ =>
  (f_X7_add k13 a2 x1 v11).bind fun v14 =>
  (tq_gr v14 t 3 7).bind fun k16 =>
  (tq_gr v14 t 3 7).bind fun k17 =>
  (tq_is v14 k17 7).bind fun _ =>
  (f_X7_get k17 a2 v14).bind fun v18 =>
  (f_X0_one a2 v14).bind fun v20 =>
  (tq_is v14 k16 7).bind fun _ =>
  (f_X7_set k16 x1 (v18 ||| v20) v14).bind fun v21 =>
  (tq_gr v21 t 3 3).bind fun k23 =>
  (tq_is v21 k23 5).bind fun _ =>
  (f_X5_set k23 x1 (x1 + (1 : Int32)) v21).bind fun v24 =>
  (tq_gr v24 t 3 4).bind fun k26 =>
  (tq_is v24 k26 5).bind fun _ =>
  (f_X5_set k26 x1 (-1 : Int32) v24).bind fun v27 =>
  (tq_gr v27 t 3 9).bind fun k29 =>
  (tq_is v27 k29 7).bind fun _ =>
  (f_X7_add k29 (8 : Int32) x1 v27).bind fun v30 =>
  if a3 = (1 : Int32) then
    (tq_gr v30 t 3 9).bind fun k51 =>
    (tq_is v30 k51 7).bind fun _ =>
    (f_X7_add k51 (9 : Int32) x1 v30).bind fun v52 =>
    some v52
  else
    (tq_gr v30 t 3 9).bind fun k32 =>
    (tq_is v30 k32 7).bind fun _ =>
    (f_X7_add k32 a4 x1 v30).bind fun v33 =>
    if a3 = (2 : Int32) then
      (tq_gl v33 t 3 11).bind fun x48 =>
      (f_X0_one x1 v33).bind fun v49 =>
      (tq_pf v33 t 3 11 (.long ((x48 ||| v49)))).bind fun w50 =>
      some w50
    else
      (tq_gl v33 t 3 10).bind fun x35 =>
      (f_X0_one x1 v33).bind fun v36 =>
      (tq_pf v33 t 3 10 (.long ((x35 ||| v36)))).bind fun w37 =>
      (if a5 = (-1 : Int32) then
        if a2 = (-1 : Int32) then
          some (0 : Int32)
        else
          (tq_gr w37 t 3 4).bind fun k38 =>
          (tq_is w37 k38 5).bind fun _ =>
          (f_X5_get k38 a2 w37).bind fun v39 =>
          some v39
      else
        some a5).bind fun p41 =>
      (tq_gr w37 t 3 4).bind fun k42 =>
      (tq_is w37 k42 5).bind fun _ =>
      (f_X5_set k42 x1 p41 w37).bind fun v43 =>
      (tq_gr v43 t 3 9).bind fun k45 =>
      (tq_is v43 k45 7).bind fun _ =>
      (f_X7_add k45 ((10 : Int32) + p41) x1 v43).bind fun v46 =>
      some v46
set_option maxHeartbeats 4000000 in
set_option maxRecDepth 20000 in
theorem w_X3_add {l : Launch} {d : Nat} (hd9 : 2 ≤ d) {t : Nat} {a1 : Int32} {a2 : Int32} {a3 : Int32} {a4 : Int32} {a5 : Int32} {h : tq_H} {o : tq_H} {Q : tq_R → tq_H → Prop} (hf : f_X3_add t a1 a2 a3 a4 a5 h = some o) (hQ : ∀ r h9, r = .inl none ∧ o = h9 → Q r h9) : tq_C l yX3_add cX3_add 8 none d 0 0 [.ref t, .int a1, .int a2, .int a3, .int a4, .int a5] h Q := by
  refine tq_body (y := yX3_add) false (by decide +kernel) (fun z => by cases z) (Nat.le_of_ble_eq_true rfl) ?_
  show tq_W l mX3_add d 0 0 Q 0 [(0, .ref t), (1, .int a1), (2, .int a2), (3, .int a3), (4, .int a4), (5, .int a5)] [] h
  refine tq_aload_n (M := mX3_add) (pc := 0) dX3_add_0 rfl ?_
  obtain ⟨x1, ex1, hf⟩ := tq_be hf
  refine tq_getI (M := mX3_add) (pc := 1) tk_c3 (by decide) dX3_add_1 tk_RX3_60 rfl ex1 ?_
  refine tq_istore (M := mX3_add) (pc := 4) dX3_add_4 (L2 := [(6, .int x1), (0, .ref t), (1, .int a1), (2, .int a2), (3, .int a3), (4, .int a4), (5, .int a5)]) (by decide) rfl ?_
  refine tq_aload_n (M := mX3_add) (pc := 6) dX3_add_6 rfl ?_
  refine tq_dup (M := mX3_add) (pc := 7) dX3_add_7 rfl ?_
  obtain ⟨x2, ex2, hf⟩ := tq_be hf
  refine tq_getI (M := mX3_add) (pc := 8) tk_c3 (by decide) dX3_add_8 tk_RX3_60 rfl ex2 ?_
  refine tq_iconst (M := mX3_add) (pc := 11) dX3_add_11 tk_ki_1 ?_
  refine tq_iadd (M := mX3_add) (pc := 12) dX3_add_12 ?_
  obtain ⟨w3, ew3, hf⟩ := tq_be hf
  refine tq_putv (M := mX3_add) (pc := 13) tk_c3 (by decide) dX3_add_13 tk_RX3_60 rfl (Or.inl rfl) ew3 (tq_nI _) ?_
  refine tq_aload_n (M := mX3_add) (pc := 16) dX3_add_16 rfl ?_
  obtain ⟨k4, ek4, hf⟩ := tq_be hf
  refine tq_getR (M := mX3_add) (pc := 17) tk_c3 (by decide) dX3_add_17 tk_RX3_14 rfl ek4 ?_
  refine tq_iload (M := mX3_add) (pc := 20) dX3_add_20 rfl ?_
  refine tq_iload_n (M := mX3_add) (pc := 22) dX3_add_22 rfl ?_
  obtain ⟨⟨⟩, eu6, hf⟩ := tq_be hf
  obtain ⟨fsu6, eu6⟩ := tq_is_s eu6
  obtain ⟨v5, ev5, hf⟩ := tq_be hf
  refine tq_calV (M := mX3_add) (pc := 23) (S := []) tk_y_X5_set tk_v_X5_set tk_RX3_70 dX3_add_23 [.int x1, .int a1] rfl (S0 := _) rfl eu6 rfl (Nat.le_of_ble_eq_true rfl) (d1 := d - 1) (b1 := 0) (s1 := 0) (bc' := 0) (bs' := 0) (Q1 := fun r h9 => r = .inl none ∧ v5 = h9) (by omega) rfl rfl (w_X5_set (by omega) ev5 (fun _ _ q => q)) (fun E h9 q => nomatch (show (Sum.inr E : tq_R) = Sum.inl _ from q.1)) (fun r9 h9 q => ?_)
  obtain ⟨q1, rfl⟩ := q
  cases (show (Sum.inl r9 : tq_R) = Sum.inl (none) from q1)
  refine tq_aload_n (M := mX3_add) (pc := 26) dX3_add_26 rfl ?_
  obtain ⟨k7, ek7, hf⟩ := tq_be hf
  refine tq_getR (M := mX3_add) (pc := 27) tk_c3 (by decide) dX3_add_27 tk_RX3_20 rfl ek7 ?_
  refine tq_iload_n (M := mX3_add) (pc := 30) dX3_add_30 rfl ?_
  refine tq_iload (M := mX3_add) (pc := 31) dX3_add_31 rfl ?_
  obtain ⟨⟨⟩, eu9, hf⟩ := tq_be hf
  obtain ⟨fsu9, eu9⟩ := tq_is_s eu9
  obtain ⟨v8, ev8, hf⟩ := tq_be hf
  refine tq_calV (M := mX3_add) (pc := 33) (S := []) tk_y_X5_set tk_v_X5_set tk_RX3_70 dX3_add_33 [.int a1, .int x1] rfl (S0 := _) rfl eu9 rfl (Nat.le_of_ble_eq_true rfl) (d1 := d - 1) (b1 := 0) (s1 := 0) (bc' := 0) (bs' := 0) (Q1 := fun r h9 => r = .inl none ∧ v8 = h9) (by omega) rfl rfl (w_X5_set (by omega) ev8 (fun _ _ q => q)) (fun E h9 q => nomatch (show (Sum.inr E : tq_R) = Sum.inl _ from q.1)) (fun r9 h9 q => ?_)
  obtain ⟨q1, rfl⟩ := q
  cases (show (Sum.inl r9 : tq_R) = Sum.inl (none) from q1)
  refine tq_aload_n (M := mX3_add) (pc := 36) dX3_add_36 rfl ?_
  obtain ⟨k10, ek10, hf⟩ := tq_be hf
  refine tq_getR (M := mX3_add) (pc := 37) tk_c3 (by decide) dX3_add_37 tk_RX3_23 rfl ek10 ?_
  refine tq_iload (M := mX3_add) (pc := 40) dX3_add_40 rfl ?_
  refine tq_iload_n (M := mX3_add) (pc := 42) dX3_add_42 rfl ?_
  obtain ⟨⟨⟩, eu12, hf⟩ := tq_be hf
  obtain ⟨fsu12, eu12⟩ := tq_is_s eu12
  obtain ⟨v11, ev11, hf⟩ := tq_be hf
  refine tq_calV (M := mX3_add) (pc := 43) (S := []) tk_y_X5_set tk_v_X5_set tk_RX3_70 dX3_add_43 [.int x1, .int a2] rfl (S0 := _) rfl eu12 rfl (Nat.le_of_ble_eq_true rfl) (d1 := d - 1) (b1 := 0) (s1 := 0) (bc' := 0) (bs' := 0) (Q1 := fun r h9 => r = .inl none ∧ v11 = h9) (by omega) rfl rfl (w_X5_set (by omega) ev11 (fun _ _ q => q)) (fun E h9 q => nomatch (show (Sum.inr E : tq_R) = Sum.inl _ from q.1)) (fun r9 h9 q => ?_)
  obtain ⟨q1, rfl⟩ := q
  cases (show (Sum.inl r9 : tq_R) = Sum.inl (none) from q1)
  refine tq_aload_n (M := mX3_add) (pc := 46) dX3_add_46 rfl ?_
  obtain ⟨k13, ek13, hf⟩ := tq_be hf
  refine tq_getR (M := mX3_add) (pc := 47) tk_c3 (by decide) dX3_add_47 tk_RX3_37 rfl ek13 ?_
  refine tq_iload_n (M := mX3_add) (pc := 50) dX3_add_50 rfl ?_
  refine tq_iload (M := mX3_add) (pc := 51) dX3_add_51 rfl ?_
  obtain ⟨⟨⟩, eu15, hf⟩ := tq_be hf
  obtain ⟨fsu15, eu15⟩ := tq_is_s eu15
  obtain ⟨v14, ev14, hf⟩ := tq_be hf
  refine tq_calV (M := mX3_add) (pc := 53) (S := []) tk_y_X7_add tk_v_X7_add tk_RX3_73 dX3_add_53 [.int a2, .int x1] rfl (S0 := _) rfl eu15 rfl (Nat.le_of_ble_eq_true rfl) (d1 := d - 1) (b1 := 0) (s1 := 0) (bc' := 0) (bs' := 0) (Q1 := fun r h9 => r = .inl none ∧ v14 = h9) (by omega) rfl rfl (w_X7_add (by omega) ev14 (fun _ _ q => q)) (fun E h9 q => nomatch (show (Sum.inr E : tq_R) = Sum.inl _ from q.1)) (fun r9 h9 q => ?_)
  obtain ⟨q1, rfl⟩ := q
  cases (show (Sum.inl r9 : tq_R) = Sum.inl (none) from q1)
  refine tq_aload_n (M := mX3_add) (pc := 56) dX3_add_56 rfl ?_
  obtain ⟨k16, ek16, hf⟩ := tq_be hf
  refine tq_getR (M := mX3_add) (pc := 57) tk_c3 (by decide) dX3_add_57 tk_RX3_44 rfl ek16 ?_
  refine tq_iload (M := mX3_add) (pc := 60) dX3_add_60 rfl ?_
  refine tq_aload_n (M := mX3_add) (pc := 62) dX3_add_62 rfl ?_
  obtain ⟨k17, ek17, hf⟩ := tq_be hf
  refine tq_getR (M := mX3_add) (pc := 63) tk_c3 (by decide) dX3_add_63 tk_RX3_44 rfl ek17 ?_
  refine tq_iload_n (M := mX3_add) (pc := 66) dX3_add_66 rfl ?_
  obtain ⟨⟨⟩, eu19, hf⟩ := tq_be hf
  obtain ⟨fsu19, eu19⟩ := tq_is_s eu19
  obtain ⟨v18, ev18, hf⟩ := tq_be hf
  refine tq_calV (M := mX3_add) (pc := 67) (S := [.int x1, .ref k16]) tk_y_X7_get tk_v_X7_get tk_RX3_76 dX3_add_67 [.int a2] rfl (S0 := _) rfl eu19 rfl (Nat.le_of_ble_eq_true rfl) (d1 := d - 1) (b1 := 0) (s1 := 0) (bc' := 0) (bs' := 0) (Q1 := fun r h9 => r = .inl (some (.long v18)) ∧ v14 = h9) (by omega) rfl rfl (w_X7_get (by omega) ev18 (fun _ _ q => q)) (fun E h9 q => nomatch (show (Sum.inr E : tq_R) = Sum.inl _ from q.1)) (fun r9 h9 q => ?_)
  obtain ⟨q1, rfl⟩ := q
  cases (show (Sum.inl r9 : tq_R) = Sum.inl (some (.long v18)) from q1)
  refine tq_iload_n (M := mX3_add) (pc := 70) dX3_add_70 rfl ?_
  obtain ⟨v20, ev20, hf⟩ := tq_be hf
  refine tq_calS (M := mX3_add) (pc := 71) (S := [.long v18, .int x1, .ref k16]) tk_y_X0_one tk_s_X0_one tk_RX3_80 dX3_add_71 [.int a2] rfl (Nat.le_of_ble_eq_true rfl) (d1 := d - 1) (b1 := 0) (s1 := 0) (bc' := 0) (bs' := 0) (Q1 := fun r h9 => r = .inl (some (.long v20)) ∧ v14 = h9) (by omega) rfl rfl (w_X0_one (by omega) ev20 (fun _ _ q => q)) (fun E h9 q => nomatch (show (Sum.inr E : tq_R) = Sum.inl _ from q.1)) (fun r9 h9 q => ?_)
  obtain ⟨q1, rfl⟩ := q
  cases (show (Sum.inl r9 : tq_R) = Sum.inl (some (.long v20)) from q1)
  refine tq_lor (M := mX3_add) (pc := 74) dX3_add_74 ?_
  obtain ⟨⟨⟩, eu22, hf⟩ := tq_be hf
  obtain ⟨fsu22, eu22⟩ := tq_is_s eu22
  obtain ⟨v21, ev21, hf⟩ := tq_be hf
  refine tq_calV (M := mX3_add) (pc := 75) (S := []) tk_y_X7_set tk_v_X7_set tk_RX3_85 dX3_add_75 [.int x1, .long ((v18 ||| v20))] rfl (S0 := _) rfl eu22 rfl (Nat.le_of_ble_eq_true rfl) (d1 := d - 1) (b1 := 0) (s1 := 0) (bc' := 0) (bs' := 0) (Q1 := fun r h9 => r = .inl none ∧ v21 = h9) (by omega) rfl rfl (w_X7_set (by omega) ev21 (fun _ _ q => q)) (fun E h9 q => nomatch (show (Sum.inr E : tq_R) = Sum.inl _ from q.1)) (fun r9 h9 q => ?_)
  obtain ⟨q1, rfl⟩ := q
  cases (show (Sum.inl r9 : tq_R) = Sum.inl (none) from q1)
  refine tq_aload_n (M := mX3_add) (pc := 78) dX3_add_78 rfl ?_
  obtain ⟨k23, ek23, hf⟩ := tq_be hf
  refine tq_getR (M := mX3_add) (pc := 79) tk_c3 (by decide) dX3_add_79 tk_RX3_26 rfl ek23 ?_
  refine tq_iload (M := mX3_add) (pc := 82) dX3_add_82 rfl ?_
  refine tq_iload (M := mX3_add) (pc := 84) dX3_add_84 rfl ?_
  refine tq_iconst (M := mX3_add) (pc := 86) dX3_add_86 tk_ki_1 ?_
  refine tq_iadd (M := mX3_add) (pc := 87) dX3_add_87 ?_
  obtain ⟨⟨⟩, eu25, hf⟩ := tq_be hf
  obtain ⟨fsu25, eu25⟩ := tq_is_s eu25
  obtain ⟨v24, ev24, hf⟩ := tq_be hf
  refine tq_calV (M := mX3_add) (pc := 88) (S := []) tk_y_X5_set tk_v_X5_set tk_RX3_70 dX3_add_88 [.int x1, .int ((x1 + (1 : Int32)))] rfl (S0 := _) rfl eu25 rfl (Nat.le_of_ble_eq_true rfl) (d1 := d - 1) (b1 := 0) (s1 := 0) (bc' := 0) (bs' := 0) (Q1 := fun r h9 => r = .inl none ∧ v24 = h9) (by omega) rfl rfl (w_X5_set (by omega) ev24 (fun _ _ q => q)) (fun E h9 q => nomatch (show (Sum.inr E : tq_R) = Sum.inl _ from q.1)) (fun r9 h9 q => ?_)
  obtain ⟨q1, rfl⟩ := q
  cases (show (Sum.inl r9 : tq_R) = Sum.inl (none) from q1)
  refine tq_aload_n (M := mX3_add) (pc := 91) dX3_add_91 rfl ?_
  obtain ⟨k26, ek26, hf⟩ := tq_be hf
  refine tq_getR (M := mX3_add) (pc := 92) tk_c3 (by decide) dX3_add_92 tk_RX3_29 rfl ek26 ?_
  refine tq_iload (M := mX3_add) (pc := 95) dX3_add_95 rfl ?_
  refine tq_iconst (M := mX3_add) (pc := 97) dX3_add_97 tk_ki_m1 ?_
  obtain ⟨⟨⟩, eu28, hf⟩ := tq_be hf
  obtain ⟨fsu28, eu28⟩ := tq_is_s eu28
  obtain ⟨v27, ev27, hf⟩ := tq_be hf
  refine tq_calV (M := mX3_add) (pc := 98) (S := []) tk_y_X5_set tk_v_X5_set tk_RX3_70 dX3_add_98 [.int x1, .int (-1 : Int32)] rfl (S0 := _) rfl eu28 rfl (Nat.le_of_ble_eq_true rfl) (d1 := d - 1) (b1 := 0) (s1 := 0) (bc' := 0) (bs' := 0) (Q1 := fun r h9 => r = .inl none ∧ v27 = h9) (by omega) rfl rfl (w_X5_set (by omega) ev27 (fun _ _ q => q)) (fun E h9 q => nomatch (show (Sum.inr E : tq_R) = Sum.inl _ from q.1)) (fun r9 h9 q => ?_)
  obtain ⟨q1, rfl⟩ := q
  cases (show (Sum.inl r9 : tq_R) = Sum.inl (none) from q1)
  refine tq_aload_n (M := mX3_add) (pc := 101) dX3_add_101 rfl ?_
  obtain ⟨k29, ek29, hf⟩ := tq_be hf
  refine tq_getR (M := mX3_add) (pc := 102) tk_c3 (by decide) dX3_add_102 tk_RX3_50 rfl ek29 ?_
  refine tq_bipush (M := mX3_add) (pc := 105) dX3_add_105 tk_kb_8 ?_
  refine tq_iload (M := mX3_add) (pc := 107) dX3_add_107 rfl ?_
  obtain ⟨⟨⟩, eu31, hf⟩ := tq_be hf
  obtain ⟨fsu31, eu31⟩ := tq_is_s eu31
  obtain ⟨v30, ev30, hf⟩ := tq_be hf
  refine tq_calV (M := mX3_add) (pc := 109) (S := []) tk_y_X7_add tk_v_X7_add tk_RX3_73 dX3_add_109 [.int (8 : Int32), .int x1] rfl (S0 := _) rfl eu31 rfl (Nat.le_of_ble_eq_true rfl) (d1 := d - 1) (b1 := 0) (s1 := 0) (bc' := 0) (bs' := 0) (Q1 := fun r h9 => r = .inl none ∧ v30 = h9) (by omega) rfl rfl (w_X7_add (by omega) ev30 (fun _ _ q => q)) (fun E h9 q => nomatch (show (Sum.inr E : tq_R) = Sum.inl _ from q.1)) (fun r9 h9 q => ?_)
  obtain ⟨q1, rfl⟩ := q
  cases (show (Sum.inl r9 : tq_R) = Sum.inl (none) from q1)
  refine tq_iload_n (M := mX3_add) (pc := 112) dX3_add_112 rfl ?_
  refine tq_iconst (M := mX3_add) (pc := 113) dX3_add_113 tk_ki_1 ?_
  refine tq_icmp_ne (M := mX3_add) (pc := 114) (tgt := 129) dX3_add_114 (by decide) (fun cc => ?_) (fun cc => ?_)
  · have hf := tq_ifn hf cc
    refine tq_aload_n (M := mX3_add) (pc := 129) dX3_add_129 rfl ?_
    obtain ⟨k32, ek32, hf⟩ := tq_be hf
    refine tq_getR (M := mX3_add) (pc := 130) tk_c3 (by decide) dX3_add_130 tk_RX3_50 rfl ek32 ?_
    refine tq_iload (M := mX3_add) (pc := 133) dX3_add_133 rfl ?_
    refine tq_iload (M := mX3_add) (pc := 135) dX3_add_135 rfl ?_
    obtain ⟨⟨⟩, eu34, hf⟩ := tq_be hf
    obtain ⟨fsu34, eu34⟩ := tq_is_s eu34
    obtain ⟨v33, ev33, hf⟩ := tq_be hf
    refine tq_calV (M := mX3_add) (pc := 137) (S := []) tk_y_X7_add tk_v_X7_add tk_RX3_73 dX3_add_137 [.int a4, .int x1] rfl (S0 := _) rfl eu34 rfl (Nat.le_of_ble_eq_true rfl) (d1 := d - 1) (b1 := 0) (s1 := 0) (bc' := 0) (bs' := 0) (Q1 := fun r h9 => r = .inl none ∧ v33 = h9) (by omega) rfl rfl (w_X7_add (by omega) ev33 (fun _ _ q => q)) (fun E h9 q => nomatch (show (Sum.inr E : tq_R) = Sum.inl _ from q.1)) (fun r9 h9 q => ?_)
    obtain ⟨q1, rfl⟩ := q
    cases (show (Sum.inl r9 : tq_R) = Sum.inl (none) from q1)
    refine tq_iload_n (M := mX3_add) (pc := 140) dX3_add_140 rfl ?_
    refine tq_iconst (M := mX3_add) (pc := 141) dX3_add_141 tk_ki_2 ?_
    refine tq_icmp_ne (M := mX3_add) (pc := 142) (tgt := 160) dX3_add_142 (by decide) (fun cc => ?_) (fun cc => ?_)
    · have hf := tq_ifn hf cc
      refine tq_aload_n (M := mX3_add) (pc := 160) dX3_add_160 rfl ?_
      refine tq_dup (M := mX3_add) (pc := 161) dX3_add_161 rfl ?_
      obtain ⟨x35, ex35, hf⟩ := tq_be hf
      refine tq_getL (M := mX3_add) (pc := 162) tk_c3 (by decide) dX3_add_162 tk_RX3_53 rfl ex35 ?_
      refine tq_iload (M := mX3_add) (pc := 165) dX3_add_165 rfl ?_
      obtain ⟨v36, ev36, hf⟩ := tq_be hf
      refine tq_calS (M := mX3_add) (pc := 167) (S := [.long x35, .ref t]) tk_y_X0_one tk_s_X0_one tk_RX3_80 dX3_add_167 [.int x1] rfl (Nat.le_of_ble_eq_true rfl) (d1 := d - 1) (b1 := 0) (s1 := 0) (bc' := 0) (bs' := 0) (Q1 := fun r h9 => r = .inl (some (.long v36)) ∧ v33 = h9) (by omega) rfl rfl (w_X0_one (by omega) ev36 (fun _ _ q => q)) (fun E h9 q => nomatch (show (Sum.inr E : tq_R) = Sum.inl _ from q.1)) (fun r9 h9 q => ?_)
      obtain ⟨q1, rfl⟩ := q
      cases (show (Sum.inl r9 : tq_R) = Sum.inl (some (.long v36)) from q1)
      refine tq_lor (M := mX3_add) (pc := 170) dX3_add_170 ?_
      obtain ⟨w37, ew37, hf⟩ := tq_be hf
      refine tq_putv (M := mX3_add) (pc := 171) tk_c3 (by decide) dX3_add_171 tk_RX3_53 rfl (Or.inl rfl) ew37 (tq_nL _) ?_
      refine tq_iload (M := mX3_add) (pc := 174) dX3_add_174 rfl ?_
      refine tq_iconst (M := mX3_add) (pc := 176) dX3_add_176 tk_ki_m1 ?_
      obtain ⟨p41, ep41, hf⟩ := tq_be hf
      have HJ177 : tq_W l mX3_add d 0 0 Q 202 [(0, .ref t), (6, .int x1)] [.int p41] w37 := by
        refine tq_istore (M := mX3_add) (pc := 202) dX3_add_202 (L2 := [(7, .int p41), (0, .ref t), (6, .int x1)]) (by decide) rfl ?_
        refine tq_aload_n (M := mX3_add) (pc := 204) dX3_add_204 rfl ?_
        obtain ⟨k42, ek42, hf⟩ := tq_be hf
        refine tq_getR (M := mX3_add) (pc := 205) tk_c3 (by decide) dX3_add_205 tk_RX3_29 rfl ek42 ?_
        refine tq_iload (M := mX3_add) (pc := 208) dX3_add_208 rfl ?_
        refine tq_iload (M := mX3_add) (pc := 210) dX3_add_210 rfl ?_
        obtain ⟨⟨⟩, eu44, hf⟩ := tq_be hf
        obtain ⟨fsu44, eu44⟩ := tq_is_s eu44
        obtain ⟨v43, ev43, hf⟩ := tq_be hf
        refine tq_calV (M := mX3_add) (pc := 212) (S := []) tk_y_X5_set tk_v_X5_set tk_RX3_70 dX3_add_212 [.int x1, .int p41] rfl (S0 := _) rfl eu44 rfl (Nat.le_of_ble_eq_true rfl) (d1 := d - 1) (b1 := 0) (s1 := 0) (bc' := 0) (bs' := 0) (Q1 := fun r h9 => r = .inl none ∧ v43 = h9) (by omega) rfl rfl (w_X5_set (by omega) ev43 (fun _ _ q => q)) (fun E h9 q => nomatch (show (Sum.inr E : tq_R) = Sum.inl _ from q.1)) (fun r9 h9 q => ?_)
        obtain ⟨q1, rfl⟩ := q
        cases (show (Sum.inl r9 : tq_R) = Sum.inl (none) from q1)
        refine tq_aload_n (M := mX3_add) (pc := 215) dX3_add_215 rfl ?_
        obtain ⟨k45, ek45, hf⟩ := tq_be hf
        refine tq_getR (M := mX3_add) (pc := 216) tk_c3 (by decide) dX3_add_216 tk_RX3_50 rfl ek45 ?_
        refine tq_bipush (M := mX3_add) (pc := 219) dX3_add_219 tk_kb_10 ?_
        refine tq_iload (M := mX3_add) (pc := 221) dX3_add_221 rfl ?_
        refine tq_iadd (M := mX3_add) (pc := 223) dX3_add_223 ?_
        refine tq_iload (M := mX3_add) (pc := 224) dX3_add_224 rfl ?_
        obtain ⟨⟨⟩, eu47, hf⟩ := tq_be hf
        obtain ⟨fsu47, eu47⟩ := tq_is_s eu47
        obtain ⟨v46, ev46, hf⟩ := tq_be hf
        refine tq_calV (M := mX3_add) (pc := 226) (S := []) tk_y_X7_add tk_v_X7_add tk_RX3_73 dX3_add_226 [.int (((10 : Int32) + p41)), .int x1] rfl (S0 := _) rfl eu47 rfl (Nat.le_of_ble_eq_true rfl) (d1 := d - 1) (b1 := 0) (s1 := 0) (bc' := 0) (bs' := 0) (Q1 := fun r h9 => r = .inl none ∧ v46 = h9) (by omega) rfl rfl (w_X7_add (by omega) ev46 (fun _ _ q => q)) (fun E h9 q => nomatch (show (Sum.inr E : tq_R) = Sum.inl _ from q.1)) (fun r9 h9 q => ?_)
        obtain ⟨q1, rfl⟩ := q
        cases (show (Sum.inl r9 : tq_R) = Sum.inl (none) from q1)
        refine tq_vret (M := mX3_add) (pc := 229) dX3_add_229 rfl ?_
        cases (Option.some.inj hf)
        exact hQ _ _ ⟨rfl, rfl⟩
      refine tq_icmp_eq (M := mX3_add) (pc := 177) (tgt := 185) dX3_add_177 (by decide) (fun cc => ?_) (fun cc => ?_)
      · have hf := tq_ifp ep41 cc
        refine tq_iload_n (M := mX3_add) (pc := 185) dX3_add_185 rfl ?_
        refine tq_iconst (M := mX3_add) (pc := 186) dX3_add_186 tk_ki_m1 ?_
        refine tq_icmp_eq (M := mX3_add) (pc := 187) (tgt := 201) dX3_add_187 (by decide) (fun cc => ?_) (fun cc => ?_)
        · have hf := tq_ifp hf cc
          refine tq_iconst (M := mX3_add) (pc := 201) dX3_add_201 tk_ki_0 ?_
          refine tq_pick (L2 := [(0, .ref t), (6, .int x1)]) [1, 0] rfl ?_
          cases (Option.some.inj hf)
          exact HJ177
        · have hf := tq_ifn hf cc
          refine tq_aload_n (M := mX3_add) (pc := 190) dX3_add_190 rfl ?_
          obtain ⟨k38, ek38, hf⟩ := tq_be hf
          refine tq_getR (M := mX3_add) (pc := 191) tk_c3 (by decide) dX3_add_191 tk_RX3_29 rfl ek38 ?_
          refine tq_iload_n (M := mX3_add) (pc := 194) dX3_add_194 rfl ?_
          obtain ⟨⟨⟩, eu40, hf⟩ := tq_be hf
          obtain ⟨fsu40, eu40⟩ := tq_is_s eu40
          obtain ⟨v39, ev39, hf⟩ := tq_be hf
          refine tq_calV (M := mX3_add) (pc := 195) (S := []) tk_y_X5_get tk_v_X5_get tk_RX3_88 dX3_add_195 [.int a2] rfl (S0 := _) rfl eu40 rfl (Nat.le_of_ble_eq_true rfl) (d1 := d - 1) (b1 := 0) (s1 := 0) (bc' := 0) (bs' := 0) (Q1 := fun r h9 => r = .inl (some (.int v39)) ∧ w37 = h9) (by omega) rfl rfl (w_X5_get (by omega) ev39 (fun _ _ q => q)) (fun E h9 q => nomatch (show (Sum.inr E : tq_R) = Sum.inl _ from q.1)) (fun r9 h9 q => ?_)
          obtain ⟨q1, rfl⟩ := q
          cases (show (Sum.inl r9 : tq_R) = Sum.inl (some (.int v39)) from q1)
          refine tq_goto (M := mX3_add) (pc := 198) (tgt := 202) dX3_add_198 (by decide) ?_
          refine tq_pick (L2 := [(0, .ref t), (6, .int x1)]) [1, 0] rfl ?_
          cases (Option.some.inj hf)
          exact HJ177
      · have hf := tq_ifn ep41 cc
        refine tq_iload (M := mX3_add) (pc := 180) dX3_add_180 rfl ?_
        refine tq_goto (M := mX3_add) (pc := 182) (tgt := 202) dX3_add_182 (by decide) ?_
        refine tq_pick (L2 := [(0, .ref t), (6, .int x1)]) [1, 0] rfl ?_
        cases (Option.some.inj hf)
        exact HJ177
    · have hf := tq_ifp hf cc
      refine tq_aload_n (M := mX3_add) (pc := 145) dX3_add_145 rfl ?_
      refine tq_dup (M := mX3_add) (pc := 146) dX3_add_146 rfl ?_
      obtain ⟨x48, ex48, hf⟩ := tq_be hf
      refine tq_getL (M := mX3_add) (pc := 147) tk_c3 (by decide) dX3_add_147 tk_RX3_57 rfl ex48 ?_
      refine tq_iload (M := mX3_add) (pc := 150) dX3_add_150 rfl ?_
      obtain ⟨v49, ev49, hf⟩ := tq_be hf
      refine tq_calS (M := mX3_add) (pc := 152) (S := [.long x48, .ref t]) tk_y_X0_one tk_s_X0_one tk_RX3_80 dX3_add_152 [.int x1] rfl (Nat.le_of_ble_eq_true rfl) (d1 := d - 1) (b1 := 0) (s1 := 0) (bc' := 0) (bs' := 0) (Q1 := fun r h9 => r = .inl (some (.long v49)) ∧ v33 = h9) (by omega) rfl rfl (w_X0_one (by omega) ev49 (fun _ _ q => q)) (fun E h9 q => nomatch (show (Sum.inr E : tq_R) = Sum.inl _ from q.1)) (fun r9 h9 q => ?_)
      obtain ⟨q1, rfl⟩ := q
      cases (show (Sum.inl r9 : tq_R) = Sum.inl (some (.long v49)) from q1)
      refine tq_lor (M := mX3_add) (pc := 155) dX3_add_155 ?_
      obtain ⟨w50, ew50, hf⟩ := tq_be hf
      refine tq_putv (M := mX3_add) (pc := 156) tk_c3 (by decide) dX3_add_156 tk_RX3_57 rfl (Or.inl rfl) ew50 (tq_nL _) ?_
      refine tq_vret (M := mX3_add) (pc := 159) dX3_add_159 rfl ?_
      cases (Option.some.inj hf)
      exact hQ _ _ ⟨rfl, rfl⟩
  · have hf := tq_ifp hf cc
    refine tq_aload_n (M := mX3_add) (pc := 117) dX3_add_117 rfl ?_
    obtain ⟨k51, ek51, hf⟩ := tq_be hf
    refine tq_getR (M := mX3_add) (pc := 118) tk_c3 (by decide) dX3_add_118 tk_RX3_50 rfl ek51 ?_
    refine tq_bipush (M := mX3_add) (pc := 121) dX3_add_121 tk_kb_9 ?_
    refine tq_iload (M := mX3_add) (pc := 123) dX3_add_123 rfl ?_
    obtain ⟨⟨⟩, eu53, hf⟩ := tq_be hf
    obtain ⟨fsu53, eu53⟩ := tq_is_s eu53
    obtain ⟨v52, ev52, hf⟩ := tq_be hf
    refine tq_calV (M := mX3_add) (pc := 125) (S := []) tk_y_X7_add tk_v_X7_add tk_RX3_73 dX3_add_125 [.int (9 : Int32), .int x1] rfl (S0 := _) rfl eu53 rfl (Nat.le_of_ble_eq_true rfl) (d1 := d - 1) (b1 := 0) (s1 := 0) (bc' := 0) (bs' := 0) (Q1 := fun r h9 => r = .inl none ∧ v52 = h9) (by omega) rfl rfl (w_X7_add (by omega) ev52 (fun _ _ q => q)) (fun E h9 q => nomatch (show (Sum.inr E : tq_R) = Sum.inl _ from q.1)) (fun r9 h9 q => ?_)
    obtain ⟨q1, rfl⟩ := q
    cases (show (Sum.inl r9 : tq_R) = Sum.inl (none) from q1)
    refine tq_vret (M := mX3_add) (pc := 128) dX3_add_128 rfl ?_
    cases (Option.some.inj hf)
    exact hQ _ _ ⟨rfl, rfl⟩
abbrev mX3_children : tq_M := (RX3, cX3_children, 2, (some .long), false, [], none)
def f_X3_children (t : Nat) (a1 : Int32) (h : tq_H) : Option (Int64) :=
  (tq_gr h t 3 5).bind fun k1 =>
  (tq_is h k1 7).bind fun _ =>
  (f_X7_get k1 a1 h).bind fun v2 =>
  (tq_gl h t 3 11).bind fun x4 =>
  some (v2 &&& (x4 ^^^ (-1 : Int64)))
set_option maxHeartbeats 4000000 in
set_option maxRecDepth 20000 in
theorem w_X3_children {l : Launch} {d : Nat} (hd9 : 1 ≤ d) {t : Nat} {a1 : Int32} {h : tq_H} {o : Int64} {Q : tq_R → tq_H → Prop} (hf : f_X3_children t a1 h = some o) (hQ : ∀ r h9, r = .inl (some (.long o)) ∧ h = h9 → Q r h9) : tq_C l yX3_children cX3_children 2 (some .long) d 0 0 [.ref t, .int a1] h Q := by
  refine tq_body (y := yX3_children) false (by decide +kernel) (fun z => by cases z) (Nat.le_of_ble_eq_true rfl) ?_
  show tq_W l mX3_children d 0 0 Q 0 [(0, .ref t), (1, .int a1)] [] h
  refine tq_aload_n (M := mX3_children) (pc := 0) dX3_children_0 rfl ?_
  obtain ⟨k1, ek1, hf⟩ := tq_be hf
  refine tq_getR (M := mX3_children) (pc := 1) tk_c3 (by decide) dX3_children_1 tk_RX3_37 rfl ek1 ?_
  refine tq_iload_n (M := mX3_children) (pc := 4) dX3_children_4 rfl ?_
  obtain ⟨⟨⟩, eu3, hf⟩ := tq_be hf
  obtain ⟨fsu3, eu3⟩ := tq_is_s eu3
  obtain ⟨v2, ev2, hf⟩ := tq_be hf
  refine tq_calV (M := mX3_children) (pc := 5) (S := []) tk_y_X7_get tk_v_X7_get tk_RX3_76 dX3_children_5 [.int a1] rfl (S0 := _) rfl eu3 rfl (Nat.le_of_ble_eq_true rfl) (d1 := d - 1) (b1 := 0) (s1 := 0) (bc' := 0) (bs' := 0) (Q1 := fun r h9 => r = .inl (some (.long v2)) ∧ h = h9) (by omega) rfl rfl (w_X7_get (by omega) ev2 (fun _ _ q => q)) (fun E h9 q => nomatch (show (Sum.inr E : tq_R) = Sum.inl _ from q.1)) (fun r9 h9 q => ?_)
  obtain ⟨q1, rfl⟩ := q
  cases (show (Sum.inl r9 : tq_R) = Sum.inl (some (.long v2)) from q1)
  refine tq_aload_n (M := mX3_children) (pc := 8) dX3_children_8 rfl ?_
  obtain ⟨x4, ex4, hf⟩ := tq_be hf
  refine tq_getL (M := mX3_children) (pc := 9) tk_c3 (by decide) dX3_children_9 tk_RX3_57 rfl ex4 ?_
  refine tq_ldc2 (M := mX3_children) (pc := 12) dX3_children_12 tk_RX3_99 ?_
  refine tq_lxor (M := mX3_children) (pc := 15) dX3_children_15 ?_
  refine tq_land (M := mX3_children) (pc := 16) dX3_children_16 ?_
  refine tq_lret (M := mX3_children) (pc := 17) dX3_children_17 rfl ?_
  cases (Option.some.inj hf)
  exact hQ _ _ ⟨rfl, rfl⟩
abbrev mX3_close : tq_M := (RX3, cX3_close, 3, none, false, [], none)
def f_X3_close_b7 (i0 : Nat) (s : Int32 × tq_H) : Option ((Int32 × tq_H) ⊕ (tq_H)) := match s with
  | (y1, hh) =>
    if y1 < 0 then
      some (.inr hh)
    else
      (tq_gr hh i0 3 2).bind fun k3 =>
      (tq_is hh k3 5).bind fun _ =>
      (f_X5_get k3 y1 hh).bind fun v4 =>
      (tq_gr hh i0 3 3).bind fun k6 =>
      (tq_gr hh i0 3 3).bind fun k7 =>
      (tq_is hh k7 5).bind fun _ =>
      (f_X5_get k7 v4 hh).bind fun v8 =>
      (tq_gr hh i0 3 3).bind fun k10 =>
      (tq_is hh k10 5).bind fun _ =>
      (f_X5_get k10 y1 hh).bind fun v11 =>
      (tq_is hh k6 5).bind fun _ =>
      (f_X5_set k6 v4 (if v8 < v11 then v11 else v8) hh).bind fun v13 =>
      (tq_gr v13 i0 3 8).bind fun k15 =>
      (tq_gr v13 i0 3 3).bind fun k16 =>
      (tq_is v13 k16 5).bind fun _ =>
      (f_X5_get k16 y1 v13).bind fun v17 =>
      (f_X0_below v17 v13).bind fun v19 =>
      (f_X0_below (y1 + (1 : Int32)) v13).bind fun v20 =>
      (tq_is v13 k15 7).bind fun _ =>
      (f_X7_set k15 y1 (v19 &&& (v20 ^^^ (-1 : Int64))) v13).bind fun v21 =>
      (tq_gr v21 i0 3 6).bind fun k23 =>
      (tq_gl v21 i0 3 11).bind fun x24 =>
      (f_X0_holds x24 y1 v21).bind fun v25 =>
      (if v25 = 0 then
        (tq_is v21 i0 3).bind fun _ =>
        (f_X3_children i0 v4 v21).bind fun v26 =>
        some v26
      else
        some (0 : Int64)).bind fun p28 =>
      (tq_is v21 k23 7).bind fun _ =>
      (f_X7_set k23 y1 p28 v21).bind fun v29 =>
      tq_let (y1 + (-1 : Int32)) fun x31 =>
      some (.inl (x31, v29))
def f_X3_close (t : Nat) (h : tq_H) : Option (tq_H) :=
  (tq_gi h t 3 12).bind fun x1 =>
  tq_let ((x1 - (1 : Int32))) fun x2 =>
  (tq_loop (f_X3_close_b7 t) tq_N (x2, h)).bind fun o32 =>
  some o32
set_option maxHeartbeats 4000000 in
theorem l_X3_close_7 {l : Launch} {d : Nat} {Q : tq_R → tq_H → Prop} {bc bs : Nat} (hd9 : 2 ≤ d) (i0 : Nat) : ∀ (n : Nat) (y1 : Int32) (hh : tq_H) (o : tq_H), tq_loop (f_X3_close_b7 i0) n (y1, hh) = some o → tq_W l mX3_close d bc bs Q 111 [] [] o → tq_W l mX3_close d bc bs Q 7 [(0, .ref i0), (1, .int y1)] [] hh := by
  intro n
  induction n with
  | zero => intro y1 hh o hl; cases hl
  | succ n ih =>
    intro y1 hh o hl hk
    obtain ⟨oo, hf, ho⟩ := tq_loop_s hl
    refine tq_iload_n (M := mX3_close) (pc := 7) dX3_close_7 rfl ?_
    refine tq_if_lt (M := mX3_close) (pc := 8) (tgt := 111) dX3_close_8 (by decide) (fun cc => ?_) (fun cc => ?_)
    · have hf := tq_ifp hf cc
      refine tq_pick (L2 := []) [] rfl ?_
      cases (Option.some.inj hf)
      cases (tq_lx ho)
      exact hk
    · have hf := tq_ifn hf cc
      refine tq_aload_n (M := mX3_close) (pc := 11) dX3_close_11 rfl ?_
      obtain ⟨k3, ek3, hf⟩ := tq_be hf
      refine tq_getR (M := mX3_close) (pc := 12) tk_c3 (by decide) dX3_close_12 tk_RX3_23 rfl ek3 ?_
      refine tq_iload_n (M := mX3_close) (pc := 15) dX3_close_15 rfl ?_
      obtain ⟨⟨⟩, eu5, hf⟩ := tq_be hf
      obtain ⟨fsu5, eu5⟩ := tq_is_s eu5
      obtain ⟨v4, ev4, hf⟩ := tq_be hf
      refine tq_calV (M := mX3_close) (pc := 16) (S := []) tk_y_X5_get tk_v_X5_get tk_RX3_88 dX3_close_16 [.int y1] rfl (S0 := _) rfl eu5 rfl (Nat.le_of_ble_eq_true rfl) (d1 := d - 1) (b1 := 0) (s1 := 0) (bc' := bc) (bs' := bs) (Q1 := fun r h9 => r = .inl (some (.int v4)) ∧ hh = h9) (by omega) (by omega) (by omega) (w_X5_get (by omega) ev4 (fun _ _ q => q)) (fun E h9 q => nomatch (show (Sum.inr E : tq_R) = Sum.inl _ from q.1)) (fun r9 h9 q => ?_)
      obtain ⟨q1, rfl⟩ := q
      cases (show (Sum.inl r9 : tq_R) = Sum.inl (some (.int v4)) from q1)
      refine tq_istore_n (M := mX3_close) (pc := 19) rfl dX3_close_19 (L2 := [(2, .int v4), (0, .ref i0), (1, .int y1)]) (by decide) rfl ?_
      refine tq_aload_n (M := mX3_close) (pc := 20) dX3_close_20 rfl ?_
      obtain ⟨k6, ek6, hf⟩ := tq_be hf
      refine tq_getR (M := mX3_close) (pc := 21) tk_c3 (by decide) dX3_close_21 tk_RX3_26 rfl ek6 ?_
      refine tq_iload_n (M := mX3_close) (pc := 24) dX3_close_24 rfl ?_
      refine tq_aload_n (M := mX3_close) (pc := 25) dX3_close_25 rfl ?_
      obtain ⟨k7, ek7, hf⟩ := tq_be hf
      refine tq_getR (M := mX3_close) (pc := 26) tk_c3 (by decide) dX3_close_26 tk_RX3_26 rfl ek7 ?_
      refine tq_iload_n (M := mX3_close) (pc := 29) dX3_close_29 rfl ?_
      obtain ⟨⟨⟩, eu9, hf⟩ := tq_be hf
      obtain ⟨fsu9, eu9⟩ := tq_is_s eu9
      obtain ⟨v8, ev8, hf⟩ := tq_be hf
      refine tq_calV (M := mX3_close) (pc := 30) (S := [.int v4, .ref k6]) tk_y_X5_get tk_v_X5_get tk_RX3_88 dX3_close_30 [.int v4] rfl (S0 := _) rfl eu9 rfl (Nat.le_of_ble_eq_true rfl) (d1 := d - 1) (b1 := 0) (s1 := 0) (bc' := bc) (bs' := bs) (Q1 := fun r h9 => r = .inl (some (.int v8)) ∧ hh = h9) (by omega) (by omega) (by omega) (w_X5_get (by omega) ev8 (fun _ _ q => q)) (fun E h9 q => nomatch (show (Sum.inr E : tq_R) = Sum.inl _ from q.1)) (fun r9 h9 q => ?_)
      obtain ⟨q1, rfl⟩ := q
      cases (show (Sum.inl r9 : tq_R) = Sum.inl (some (.int v8)) from q1)
      refine tq_aload_n (M := mX3_close) (pc := 33) dX3_close_33 rfl ?_
      obtain ⟨k10, ek10, hf⟩ := tq_be hf
      refine tq_getR (M := mX3_close) (pc := 34) tk_c3 (by decide) dX3_close_34 tk_RX3_26 rfl ek10 ?_
      refine tq_iload_n (M := mX3_close) (pc := 37) dX3_close_37 rfl ?_
      obtain ⟨⟨⟩, eu12, hf⟩ := tq_be hf
      obtain ⟨fsu12, eu12⟩ := tq_is_s eu12
      obtain ⟨v11, ev11, hf⟩ := tq_be hf
      refine tq_calV (M := mX3_close) (pc := 38) (S := [.int v8, .int v4, .ref k6]) tk_y_X5_get tk_v_X5_get tk_RX3_88 dX3_close_38 [.int y1] rfl (S0 := _) rfl eu12 rfl (Nat.le_of_ble_eq_true rfl) (d1 := d - 1) (b1 := 0) (s1 := 0) (bc' := bc) (bs' := bs) (Q1 := fun r h9 => r = .inl (some (.int v11)) ∧ hh = h9) (by omega) (by omega) (by omega) (w_X5_get (by omega) ev11 (fun _ _ q => q)) (fun E h9 q => nomatch (show (Sum.inr E : tq_R) = Sum.inl _ from q.1)) (fun r9 h9 q => ?_)
      obtain ⟨q1, rfl⟩ := q
      cases (show (Sum.inl r9 : tq_R) = Sum.inl (some (.int v11)) from q1)
      refine tq_mmax (M := mX3_close) (pc := 41) 91 dX3_close_41 tk_RX3_91 tk_max_s tk_math tk_max_c (by omega) (Nat.le_of_ble_eq_true rfl) ?_
      obtain ⟨⟨⟩, eu14, hf⟩ := tq_be hf
      obtain ⟨fsu14, eu14⟩ := tq_is_s eu14
      obtain ⟨v13, ev13, hf⟩ := tq_be hf
      refine tq_calV (M := mX3_close) (pc := 44) (S := []) tk_y_X5_set tk_v_X5_set tk_RX3_70 dX3_close_44 [.int v4, .int ((if v8 < v11 then v11 else v8))] rfl (S0 := _) rfl eu14 rfl (Nat.le_of_ble_eq_true rfl) (d1 := d - 1) (b1 := 0) (s1 := 0) (bc' := bc) (bs' := bs) (Q1 := fun r h9 => r = .inl none ∧ v13 = h9) (by omega) (by omega) (by omega) (w_X5_set (by omega) ev13 (fun _ _ q => q)) (fun E h9 q => nomatch (show (Sum.inr E : tq_R) = Sum.inl _ from q.1)) (fun r9 h9 q => ?_)
      obtain ⟨q1, rfl⟩ := q
      cases (show (Sum.inl r9 : tq_R) = Sum.inl (none) from q1)
      refine tq_aload_n (M := mX3_close) (pc := 47) dX3_close_47 rfl ?_
      obtain ⟨k15, ek15, hf⟩ := tq_be hf
      refine tq_getR (M := mX3_close) (pc := 48) tk_c3 (by decide) dX3_close_48 tk_RX3_47 rfl ek15 ?_
      refine tq_iload_n (M := mX3_close) (pc := 51) dX3_close_51 rfl ?_
      refine tq_aload_n (M := mX3_close) (pc := 52) dX3_close_52 rfl ?_
      obtain ⟨k16, ek16, hf⟩ := tq_be hf
      refine tq_getR (M := mX3_close) (pc := 53) tk_c3 (by decide) dX3_close_53 tk_RX3_26 rfl ek16 ?_
      refine tq_iload_n (M := mX3_close) (pc := 56) dX3_close_56 rfl ?_
      obtain ⟨⟨⟩, eu18, hf⟩ := tq_be hf
      obtain ⟨fsu18, eu18⟩ := tq_is_s eu18
      obtain ⟨v17, ev17, hf⟩ := tq_be hf
      refine tq_calV (M := mX3_close) (pc := 57) (S := [.int y1, .ref k15]) tk_y_X5_get tk_v_X5_get tk_RX3_88 dX3_close_57 [.int y1] rfl (S0 := _) rfl eu18 rfl (Nat.le_of_ble_eq_true rfl) (d1 := d - 1) (b1 := 0) (s1 := 0) (bc' := bc) (bs' := bs) (Q1 := fun r h9 => r = .inl (some (.int v17)) ∧ v13 = h9) (by omega) (by omega) (by omega) (w_X5_get (by omega) ev17 (fun _ _ q => q)) (fun E h9 q => nomatch (show (Sum.inr E : tq_R) = Sum.inl _ from q.1)) (fun r9 h9 q => ?_)
      obtain ⟨q1, rfl⟩ := q
      cases (show (Sum.inl r9 : tq_R) = Sum.inl (some (.int v17)) from q1)
      obtain ⟨v19, ev19, hf⟩ := tq_be hf
      refine tq_calS (M := mX3_close) (pc := 60) (S := [.int y1, .ref k15]) tk_y_X0_below tk_s_X0_below tk_RX3_97 dX3_close_60 [.int v17] rfl (Nat.le_of_ble_eq_true rfl) (d1 := d - 1) (b1 := 0) (s1 := 0) (bc' := bc) (bs' := bs) (Q1 := fun r h9 => r = .inl (some (.long v19)) ∧ v13 = h9) (by omega) (by omega) (by omega) (w_X0_below (by omega) ev19 (fun _ _ q => q)) (fun E h9 q => nomatch (show (Sum.inr E : tq_R) = Sum.inl _ from q.1)) (fun r9 h9 q => ?_)
      obtain ⟨q1, rfl⟩ := q
      cases (show (Sum.inl r9 : tq_R) = Sum.inl (some (.long v19)) from q1)
      refine tq_iload_n (M := mX3_close) (pc := 63) dX3_close_63 rfl ?_
      refine tq_iconst (M := mX3_close) (pc := 64) dX3_close_64 tk_ki_1 ?_
      refine tq_iadd (M := mX3_close) (pc := 65) dX3_close_65 ?_
      obtain ⟨v20, ev20, hf⟩ := tq_be hf
      refine tq_calS (M := mX3_close) (pc := 66) (S := [.long v19, .int y1, .ref k15]) tk_y_X0_below tk_s_X0_below tk_RX3_97 dX3_close_66 [.int ((y1 + (1 : Int32)))] rfl (Nat.le_of_ble_eq_true rfl) (d1 := d - 1) (b1 := 0) (s1 := 0) (bc' := bc) (bs' := bs) (Q1 := fun r h9 => r = .inl (some (.long v20)) ∧ v13 = h9) (by omega) (by omega) (by omega) (w_X0_below (by omega) ev20 (fun _ _ q => q)) (fun E h9 q => nomatch (show (Sum.inr E : tq_R) = Sum.inl _ from q.1)) (fun r9 h9 q => ?_)
      obtain ⟨q1, rfl⟩ := q
      cases (show (Sum.inl r9 : tq_R) = Sum.inl (some (.long v20)) from q1)
      refine tq_ldc2 (M := mX3_close) (pc := 69) dX3_close_69 tk_RX3_99 ?_
      refine tq_lxor (M := mX3_close) (pc := 72) dX3_close_72 ?_
      refine tq_land (M := mX3_close) (pc := 73) dX3_close_73 ?_
      obtain ⟨⟨⟩, eu22, hf⟩ := tq_be hf
      obtain ⟨fsu22, eu22⟩ := tq_is_s eu22
      obtain ⟨v21, ev21, hf⟩ := tq_be hf
      refine tq_calV (M := mX3_close) (pc := 74) (S := []) tk_y_X7_set tk_v_X7_set tk_RX3_85 dX3_close_74 [.int y1, .long ((v19 &&& (v20 ^^^ (-1 : Int64))))] rfl (S0 := _) rfl eu22 rfl (Nat.le_of_ble_eq_true rfl) (d1 := d - 1) (b1 := 0) (s1 := 0) (bc' := bc) (bs' := bs) (Q1 := fun r h9 => r = .inl none ∧ v21 = h9) (by omega) (by omega) (by omega) (w_X7_set (by omega) ev21 (fun _ _ q => q)) (fun E h9 q => nomatch (show (Sum.inr E : tq_R) = Sum.inl _ from q.1)) (fun r9 h9 q => ?_)
      obtain ⟨q1, rfl⟩ := q
      cases (show (Sum.inl r9 : tq_R) = Sum.inl (none) from q1)
      refine tq_aload_n (M := mX3_close) (pc := 77) dX3_close_77 rfl ?_
      obtain ⟨k23, ek23, hf⟩ := tq_be hf
      refine tq_getR (M := mX3_close) (pc := 78) tk_c3 (by decide) dX3_close_78 tk_RX3_41 rfl ek23 ?_
      refine tq_iload_n (M := mX3_close) (pc := 81) dX3_close_81 rfl ?_
      refine tq_aload_n (M := mX3_close) (pc := 82) dX3_close_82 rfl ?_
      obtain ⟨x24, ex24, hf⟩ := tq_be hf
      refine tq_getL (M := mX3_close) (pc := 83) tk_c3 (by decide) dX3_close_83 tk_RX3_57 rfl ex24 ?_
      refine tq_iload_n (M := mX3_close) (pc := 86) dX3_close_86 rfl ?_
      obtain ⟨v25, ev25, hf⟩ := tq_be hf
      refine tq_calS (M := mX3_close) (pc := 87) (S := [.int y1, .ref k23]) tk_y_X0_holds tk_s_X0_holds tk_RX3_101 dX3_close_87 [.long x24, .int y1] rfl (Nat.le_of_ble_eq_true rfl) (d1 := d - 1) (b1 := 0) (s1 := 0) (bc' := bc) (bs' := bs) (Q1 := fun r h9 => r = .inl (some (.int v25)) ∧ v21 = h9) (by omega) (by omega) (by omega) (w_X0_holds (by omega) ev25 (fun _ _ q => q)) (fun E h9 q => nomatch (show (Sum.inr E : tq_R) = Sum.inl _ from q.1)) (fun r9 h9 q => ?_)
      obtain ⟨q1, rfl⟩ := q
      cases (show (Sum.inl r9 : tq_R) = Sum.inl (some (.int v25)) from q1)
      obtain ⟨p28, ep28, hf⟩ := tq_be hf
      have HJ90 : tq_W l mX3_close d bc bs Q 102 [(0, .ref i0), (1, .int y1)] [.long p28, .int y1, .ref k23] v21 := by
        obtain ⟨⟨⟩, eu30, hf⟩ := tq_be hf
        obtain ⟨fsu30, eu30⟩ := tq_is_s eu30
        obtain ⟨v29, ev29, hf⟩ := tq_be hf
        refine tq_calV (M := mX3_close) (pc := 102) (S := []) tk_y_X7_set tk_v_X7_set tk_RX3_85 dX3_close_102 [.int y1, .long p28] rfl (S0 := _) rfl eu30 rfl (Nat.le_of_ble_eq_true rfl) (d1 := d - 1) (b1 := 0) (s1 := 0) (bc' := bc) (bs' := bs) (Q1 := fun r h9 => r = .inl none ∧ v29 = h9) (by omega) (by omega) (by omega) (w_X7_set (by omega) ev29 (fun _ _ q => q)) (fun E h9 q => nomatch (show (Sum.inr E : tq_R) = Sum.inl _ from q.1)) (fun r9 h9 q => ?_)
        obtain ⟨q1, rfl⟩ := q
        cases (show (Sum.inl r9 : tq_R) = Sum.inl (none) from q1)
        obtain ⟨x31, ex31, hf⟩ := tq_le hf
        refine tq_iinc (M := mX3_close) (pc := 105) (v := x31) (L2 := [(1, .int x31), (0, .ref i0)]) dX3_close_105 rfl (by rw [ex31, tk_ki_m1]) (by decide) rfl ?_
        refine tq_goto (M := mX3_close) (pc := 108) (tgt := 7) dX3_close_108 (by decide) ?_
        refine tq_pick (L2 := [(0, .ref i0), (1, .int x31)]) [1, 0] rfl ?_
        cases (Option.some.inj hf)
        exact ih _ _ o (tq_lc ho) hk
      refine tq_if_eq (M := mX3_close) (pc := 90) (tgt := 97) dX3_close_90 (by decide) (fun cc => ?_) (fun cc => ?_)
      · have hf := tq_ifp ep28 cc
        refine tq_aload_n (M := mX3_close) (pc := 97) dX3_close_97 rfl ?_
        refine tq_iload_n (M := mX3_close) (pc := 98) dX3_close_98 rfl ?_
        obtain ⟨⟨⟩, eu27, hf⟩ := tq_be hf
        obtain ⟨fsu27, eu27⟩ := tq_is_s eu27
        obtain ⟨v26, ev26, hf⟩ := tq_be hf
        refine tq_calV (M := mX3_close) (pc := 99) (S := [.int y1, .ref k23]) tk_y_X3_children tk_v_X3_children tk_RX3_105 dX3_close_99 [.int v4] rfl (S0 := _) rfl eu27 rfl (Nat.le_of_ble_eq_true rfl) (d1 := d - 1) (b1 := 0) (s1 := 0) (bc' := bc) (bs' := bs) (Q1 := fun r h9 => r = .inl (some (.long v26)) ∧ v21 = h9) (by omega) (by omega) (by omega) (w_X3_children (by omega) ev26 (fun _ _ q => q)) (fun E h9 q => nomatch (show (Sum.inr E : tq_R) = Sum.inl _ from q.1)) (fun r9 h9 q => ?_)
        obtain ⟨q1, rfl⟩ := q
        cases (show (Sum.inl r9 : tq_R) = Sum.inl (some (.long v26)) from q1)
        refine tq_pick (L2 := [(0, .ref i0), (1, .int y1)]) [1, 2] rfl ?_
        cases (Option.some.inj hf)
        exact HJ90
      · have hf := tq_ifn ep28 cc
        refine tq_lconst (M := mX3_close) (pc := 93) dX3_close_93 tk_kl_0 ?_
        refine tq_goto (M := mX3_close) (pc := 94) (tgt := 102) dX3_close_94 (by decide) ?_
        refine tq_pick (L2 := [(0, .ref i0), (1, .int y1)]) [1, 2] rfl ?_
        cases (Option.some.inj hf)
        exact HJ90
set_option maxHeartbeats 4000000 in
set_option maxRecDepth 20000 in
theorem w_X3_close {l : Launch} {d : Nat} (hd9 : 2 ≤ d) {t : Nat} {h : tq_H} {o : tq_H} {Q : tq_R → tq_H → Prop} (hf : f_X3_close t h = some o) (hQ : ∀ r h9, r = .inl none ∧ o = h9 → Q r h9) : tq_C l yX3_close cX3_close 3 none d 0 0 [.ref t] h Q := by
  refine tq_body (y := yX3_close) false (by decide +kernel) (fun z => by cases z) (Nat.le_of_ble_eq_true rfl) ?_
  show tq_W l mX3_close d 0 0 Q 0 [(0, .ref t)] [] h
  refine tq_aload_n (M := mX3_close) (pc := 0) dX3_close_0 rfl ?_
  obtain ⟨x1, ex1, hf⟩ := tq_be hf
  refine tq_getI (M := mX3_close) (pc := 1) tk_c3 (by decide) dX3_close_1 tk_RX3_60 rfl ex1 ?_
  refine tq_iconst (M := mX3_close) (pc := 4) dX3_close_4 tk_ki_1 ?_
  refine tq_isub (M := mX3_close) (pc := 5) dX3_close_5 ?_
  obtain ⟨x2, ex2, hf⟩ := tq_le hf
  refine tq_istore_n (M := mX3_close) (pc := 6) rfl dX3_close_6 (L2 := [(1, .int x2), (0, .ref t)]) (by decide) (by rw [ex2]; rfl) ?_
  obtain ⟨o32, eo32, hf⟩ := tq_be hf
  refine tq_pick (L2 := [(0, .ref t), (1, .int x2)]) [1, 0] rfl ?_
  refine l_X3_close_7 (bc := 0) (bs := 0) (by omega) t _ x2 h _ eo32 ?_
  refine tq_vret (M := mX3_close) (pc := 111) dX3_close_111 rfl ?_
  cases (Option.some.inj hf)
  exact hQ _ _ ⟨rfl, rfl⟩
abbrev mX3_holds : tq_M := (RX3, cX3_holds, 2, (some .boolean), false, [], none)
def f_X3_holds (t : Nat) (a1 : Int32) (h : tq_H) : Option (Int32) :=
  (tq_gr h t 3 1).bind fun k1 =>
  (tq_is h k1 5).bind fun _ =>
  (f_X5_get k1 a1 h).bind fun v2 =>
  tq_let (if v2 = (-1 : Int32) then (0 : Int32) else (1 : Int32)) fun p4 =>
  (tq_bz p4).bind fun z5 =>
  some z5
set_option maxHeartbeats 4000000 in
set_option maxRecDepth 20000 in
theorem w_X3_holds {l : Launch} {d : Nat} (hd9 : 1 ≤ d) {t : Nat} {a1 : Int32} {h : tq_H} {o : Int32} {Q : tq_R → tq_H → Prop} (hf : f_X3_holds t a1 h = some o) (hQ : ∀ r h9, r = .inl (some (.int o)) ∧ h = h9 → Q r h9) : tq_C l yX3_holds cX3_holds 2 (some .boolean) d 0 0 [.ref t, .int a1] h Q := by
  refine tq_body (y := yX3_holds) false (by decide +kernel) (fun z => by cases z) (Nat.le_of_ble_eq_true rfl) ?_
  show tq_W l mX3_holds d 0 0 Q 0 [(0, .ref t), (1, .int a1)] [] h
  refine tq_aload_n (M := mX3_holds) (pc := 0) dX3_holds_0 rfl ?_
  obtain ⟨k1, ek1, hf⟩ := tq_be hf
  refine tq_getR (M := mX3_holds) (pc := 1) tk_c3 (by decide) dX3_holds_1 tk_RX3_20 rfl ek1 ?_
  refine tq_iload_n (M := mX3_holds) (pc := 4) dX3_holds_4 rfl ?_
  obtain ⟨⟨⟩, eu3, hf⟩ := tq_be hf
  obtain ⟨fsu3, eu3⟩ := tq_is_s eu3
  obtain ⟨v2, ev2, hf⟩ := tq_be hf
  refine tq_calV (M := mX3_holds) (pc := 5) (S := []) tk_y_X5_get tk_v_X5_get tk_RX3_88 dX3_holds_5 [.int a1] rfl (S0 := _) rfl eu3 rfl (Nat.le_of_ble_eq_true rfl) (d1 := d - 1) (b1 := 0) (s1 := 0) (bc' := 0) (bs' := 0) (Q1 := fun r h9 => r = .inl (some (.int v2)) ∧ h = h9) (by omega) rfl rfl (w_X5_get (by omega) ev2 (fun _ _ q => q)) (fun E h9 q => nomatch (show (Sum.inr E : tq_R) = Sum.inl _ from q.1)) (fun r9 h9 q => ?_)
  obtain ⟨q1, rfl⟩ := q
  cases (show (Sum.inl r9 : tq_R) = Sum.inl (some (.int v2)) from q1)
  refine tq_iconst (M := mX3_holds) (pc := 8) dX3_holds_8 tk_ki_m1 ?_
  obtain ⟨p4, ep4, hf⟩ := tq_le hf
  have HJ9 : tq_W l mX3_holds d 0 0 Q 17 [] [.int p4] h := by
    obtain ⟨z5, ez5, hf⟩ := tq_be hf
    refine tq_zretB (M := mX3_holds) (pc := 17) dX3_holds_17 rfl ez5 ?_
    cases (Option.some.inj hf)
    exact hQ _ _ ⟨rfl, rfl⟩
  refine tq_icmp_eq (M := mX3_holds) (pc := 9) (tgt := 16) dX3_holds_9 (by decide) (fun cc => ?_) (fun cc => ?_)
  · have hf := tq_ifp ep4.symm cc
    refine tq_iconst (M := mX3_holds) (pc := 16) dX3_holds_16 tk_ki_0 ?_
    refine tq_pick (L2 := []) [] rfl ?_
    cases hf
    exact HJ9
  · have hf := tq_ifn ep4.symm cc
    refine tq_iconst (M := mX3_holds) (pc := 12) dX3_holds_12 tk_ki_1 ?_
    refine tq_goto (M := mX3_holds) (pc := 13) (tgt := 17) dX3_holds_13 (by decide) ?_
    refine tq_pick (L2 := []) [] rfl ?_
    cases hf
    exact HJ9
abbrev mX3_spotOf : tq_M := (RX3, cX3_spotOf, 2, (some .int), false, [], none)
def f_X3_spotOf (t : Nat) (a1 : Int32) (h : tq_H) : Option (Int32) :=
  (tq_gr h t 3 1).bind fun k1 =>
  (tq_is h k1 5).bind fun _ =>
  (f_X5_get k1 a1 h).bind fun v2 =>
  some v2
set_option maxHeartbeats 4000000 in
set_option maxRecDepth 20000 in
theorem w_X3_spotOf {l : Launch} {d : Nat} (hd9 : 1 ≤ d) {t : Nat} {a1 : Int32} {h : tq_H} {o : Int32} {Q : tq_R → tq_H → Prop} (hf : f_X3_spotOf t a1 h = some o) (hQ : ∀ r h9, r = .inl (some (.int o)) ∧ h = h9 → Q r h9) : tq_C l yX3_spotOf cX3_spotOf 2 (some .int) d 0 0 [.ref t, .int a1] h Q := by
  refine tq_body (y := yX3_spotOf) false (by decide +kernel) (fun z => by cases z) (Nat.le_of_ble_eq_true rfl) ?_
  show tq_W l mX3_spotOf d 0 0 Q 0 [(0, .ref t), (1, .int a1)] [] h
  refine tq_aload_n (M := mX3_spotOf) (pc := 0) dX3_spotOf_0 rfl ?_
  obtain ⟨k1, ek1, hf⟩ := tq_be hf
  refine tq_getR (M := mX3_spotOf) (pc := 1) tk_c3 (by decide) dX3_spotOf_1 tk_RX3_20 rfl ek1 ?_
  refine tq_iload_n (M := mX3_spotOf) (pc := 4) dX3_spotOf_4 rfl ?_
  obtain ⟨⟨⟩, eu3, hf⟩ := tq_be hf
  obtain ⟨fsu3, eu3⟩ := tq_is_s eu3
  obtain ⟨v2, ev2, hf⟩ := tq_be hf
  refine tq_calV (M := mX3_spotOf) (pc := 5) (S := []) tk_y_X5_get tk_v_X5_get tk_RX3_88 dX3_spotOf_5 [.int a1] rfl (S0 := _) rfl eu3 rfl (Nat.le_of_ble_eq_true rfl) (d1 := d - 1) (b1 := 0) (s1 := 0) (bc' := 0) (bs' := 0) (Q1 := fun r h9 => r = .inl (some (.int v2)) ∧ h = h9) (by omega) rfl rfl (w_X5_get (by omega) ev2 (fun _ _ q => q)) (fun E h9 q => nomatch (show (Sum.inr E : tq_R) = Sum.inl _ from q.1)) (fun r9 h9 q => ?_)
  obtain ⟨q1, rfl⟩ := q
  cases (show (Sum.inl r9 : tq_R) = Sum.inl (some (.int v2)) from q1)
  refine tq_iret (M := mX3_spotOf) (pc := 8) dX3_spotOf_8 rfl ?_
  cases (Option.some.inj hf)
  exact hQ _ _ ⟨rfl, rfl⟩
abbrev mX3_spaceAt : tq_M := (RX3, cX3_spaceAt, 2, (some .int), false, [], none)
def f_X3_spaceAt (t : Nat) (a1 : Int32) (h : tq_H) : Option (Int32) :=
  (tq_gr h t 3 4).bind fun k1 =>
  (tq_is h k1 5).bind fun _ =>
  (f_X5_get k1 a1 h).bind fun v2 =>
  some v2
set_option maxHeartbeats 4000000 in
set_option maxRecDepth 20000 in
theorem w_X3_spaceAt {l : Launch} {d : Nat} (hd9 : 1 ≤ d) {t : Nat} {a1 : Int32} {h : tq_H} {o : Int32} {Q : tq_R → tq_H → Prop} (hf : f_X3_spaceAt t a1 h = some o) (hQ : ∀ r h9, r = .inl (some (.int o)) ∧ h = h9 → Q r h9) : tq_C l yX3_spaceAt cX3_spaceAt 2 (some .int) d 0 0 [.ref t, .int a1] h Q := by
  refine tq_body (y := yX3_spaceAt) false (by decide +kernel) (fun z => by cases z) (Nat.le_of_ble_eq_true rfl) ?_
  show tq_W l mX3_spaceAt d 0 0 Q 0 [(0, .ref t), (1, .int a1)] [] h
  refine tq_aload_n (M := mX3_spaceAt) (pc := 0) dX3_spaceAt_0 rfl ?_
  obtain ⟨k1, ek1, hf⟩ := tq_be hf
  refine tq_getR (M := mX3_spaceAt) (pc := 1) tk_c3 (by decide) dX3_spaceAt_1 tk_RX3_29 rfl ek1 ?_
  refine tq_iload_n (M := mX3_spaceAt) (pc := 4) dX3_spaceAt_4 rfl ?_
  obtain ⟨⟨⟩, eu3, hf⟩ := tq_be hf
  obtain ⟨fsu3, eu3⟩ := tq_is_s eu3
  obtain ⟨v2, ev2, hf⟩ := tq_be hf
  refine tq_calV (M := mX3_spaceAt) (pc := 5) (S := []) tk_y_X5_get tk_v_X5_get tk_RX3_88 dX3_spaceAt_5 [.int a1] rfl (S0 := _) rfl eu3 rfl (Nat.le_of_ble_eq_true rfl) (d1 := d - 1) (b1 := 0) (s1 := 0) (bc' := 0) (bs' := 0) (Q1 := fun r h9 => r = .inl (some (.int v2)) ∧ h = h9) (by omega) rfl rfl (w_X5_get (by omega) ev2 (fun _ _ q => q)) (fun E h9 q => nomatch (show (Sum.inr E : tq_R) = Sum.inl _ from q.1)) (fun r9 h9 q => ?_)
  obtain ⟨q1, rfl⟩ := q
  cases (show (Sum.inl r9 : tq_R) = Sum.inl (some (.int v2)) from q1)
  refine tq_iret (M := mX3_spaceAt) (pc := 8) dX3_spaceAt_8 rfl ?_
  cases (Option.some.inj hf)
  exact hQ _ _ ⟨rfl, rfl⟩
abbrev mX3_everything : tq_M := (RX3, cX3_everything, 1, (some .long), false, [], none)
def f_X3_everything (t : Nat) (h : tq_H) : Option (Int64) :=
  (tq_gi h t 3 12).bind fun x1 =>
  (f_X0_below x1 h).bind fun v2 =>
  some v2
set_option maxHeartbeats 4000000 in
set_option maxRecDepth 20000 in
theorem w_X3_everything {l : Launch} {d : Nat} (hd9 : 1 ≤ d) {t : Nat} {h : tq_H} {o : Int64} {Q : tq_R → tq_H → Prop} (hf : f_X3_everything t h = some o) (hQ : ∀ r h9, r = .inl (some (.long o)) ∧ h = h9 → Q r h9) : tq_C l yX3_everything cX3_everything 1 (some .long) d 0 0 [.ref t] h Q := by
  refine tq_body (y := yX3_everything) false (by decide +kernel) (fun z => by cases z) (Nat.le_of_ble_eq_true rfl) ?_
  show tq_W l mX3_everything d 0 0 Q 0 [(0, .ref t)] [] h
  refine tq_aload_n (M := mX3_everything) (pc := 0) dX3_everything_0 rfl ?_
  obtain ⟨x1, ex1, hf⟩ := tq_be hf
  refine tq_getI (M := mX3_everything) (pc := 1) tk_c3 (by decide) dX3_everything_1 tk_RX3_60 rfl ex1 ?_
  obtain ⟨v2, ev2, hf⟩ := tq_be hf
  refine tq_calS (M := mX3_everything) (pc := 4) (S := []) tk_y_X0_below tk_s_X0_below tk_RX3_97 dX3_everything_4 [.int x1] rfl (Nat.le_of_ble_eq_true rfl) (d1 := d - 1) (b1 := 0) (s1 := 0) (bc' := 0) (bs' := 0) (Q1 := fun r h9 => r = .inl (some (.long v2)) ∧ h = h9) (by omega) rfl rfl (w_X0_below (by omega) ev2 (fun _ _ q => q)) (fun E h9 q => nomatch (show (Sum.inr E : tq_R) = Sum.inl _ from q.1)) (fun r9 h9 q => ?_)
  obtain ⟨q1, rfl⟩ := q
  cases (show (Sum.inl r9 : tq_R) = Sum.inl (some (.long v2)) from q1)
  refine tq_lret (M := mX3_everything) (pc := 7) dX3_everything_7 rfl ?_
  cases (Option.some.inj hf)
  exact hQ _ _ ⟨rfl, rfl⟩
abbrev mX3_solids : tq_M := (RX3, cX3_solids, 1, (some .long), false, [], none)
def f_X3_solids (t : Nat) (h : tq_H) : Option (Int64) :=
  (tq_gi h t 3 12).bind fun x1 =>
  (f_X0_below x1 h).bind fun v2 =>
  (tq_gl h t 3 11).bind fun x3 =>
  some (v2 &&& (x3 ^^^ (-1 : Int64)))
set_option maxHeartbeats 4000000 in
set_option maxRecDepth 20000 in
theorem w_X3_solids {l : Launch} {d : Nat} (hd9 : 1 ≤ d) {t : Nat} {h : tq_H} {o : Int64} {Q : tq_R → tq_H → Prop} (hf : f_X3_solids t h = some o) (hQ : ∀ r h9, r = .inl (some (.long o)) ∧ h = h9 → Q r h9) : tq_C l yX3_solids cX3_solids 1 (some .long) d 0 0 [.ref t] h Q := by
  refine tq_body (y := yX3_solids) false (by decide +kernel) (fun z => by cases z) (Nat.le_of_ble_eq_true rfl) ?_
  show tq_W l mX3_solids d 0 0 Q 0 [(0, .ref t)] [] h
  refine tq_aload_n (M := mX3_solids) (pc := 0) dX3_solids_0 rfl ?_
  obtain ⟨x1, ex1, hf⟩ := tq_be hf
  refine tq_getI (M := mX3_solids) (pc := 1) tk_c3 (by decide) dX3_solids_1 tk_RX3_60 rfl ex1 ?_
  obtain ⟨v2, ev2, hf⟩ := tq_be hf
  refine tq_calS (M := mX3_solids) (pc := 4) (S := []) tk_y_X0_below tk_s_X0_below tk_RX3_97 dX3_solids_4 [.int x1] rfl (Nat.le_of_ble_eq_true rfl) (d1 := d - 1) (b1 := 0) (s1 := 0) (bc' := 0) (bs' := 0) (Q1 := fun r h9 => r = .inl (some (.long v2)) ∧ h = h9) (by omega) rfl rfl (w_X0_below (by omega) ev2 (fun _ _ q => q)) (fun E h9 q => nomatch (show (Sum.inr E : tq_R) = Sum.inl _ from q.1)) (fun r9 h9 q => ?_)
  obtain ⟨q1, rfl⟩ := q
  cases (show (Sum.inl r9 : tq_R) = Sum.inl (some (.long v2)) from q1)
  refine tq_aload_n (M := mX3_solids) (pc := 7) dX3_solids_7 rfl ?_
  obtain ⟨x3, ex3, hf⟩ := tq_be hf
  refine tq_getL (M := mX3_solids) (pc := 8) tk_c3 (by decide) dX3_solids_8 tk_RX3_57 rfl ex3 ?_
  refine tq_ldc2 (M := mX3_solids) (pc := 11) dX3_solids_11 tk_RX3_99 ?_
  refine tq_lxor (M := mX3_solids) (pc := 14) dX3_solids_14 ?_
  refine tq_land (M := mX3_solids) (pc := 15) dX3_solids_15 ?_
  refine tq_lret (M := mX3_solids) (pc := 16) dX3_solids_16 rfl ?_
  cases (Option.some.inj hf)
  exact hQ _ _ ⟨rfl, rfl⟩
abbrev mX3_attributesOf : tq_M := (RX3, cX3_attributesOf, 2, (some .long), false, [], none)
def f_X3_attributesOf (t : Nat) (a1 : Int32) (h : tq_H) : Option (Int64) :=
  (tq_gr h t 3 5).bind fun k1 =>
  (tq_is h k1 7).bind fun _ =>
  (f_X7_get k1 a1 h).bind fun v2 =>
  (tq_gl h t 3 11).bind fun x4 =>
  some (v2 &&& x4)
set_option maxHeartbeats 4000000 in
set_option maxRecDepth 20000 in
theorem w_X3_attributesOf {l : Launch} {d : Nat} (hd9 : 1 ≤ d) {t : Nat} {a1 : Int32} {h : tq_H} {o : Int64} {Q : tq_R → tq_H → Prop} (hf : f_X3_attributesOf t a1 h = some o) (hQ : ∀ r h9, r = .inl (some (.long o)) ∧ h = h9 → Q r h9) : tq_C l yX3_attributesOf cX3_attributesOf 2 (some .long) d 0 0 [.ref t, .int a1] h Q := by
  refine tq_body (y := yX3_attributesOf) false (by decide +kernel) (fun z => by cases z) (Nat.le_of_ble_eq_true rfl) ?_
  show tq_W l mX3_attributesOf d 0 0 Q 0 [(0, .ref t), (1, .int a1)] [] h
  refine tq_aload_n (M := mX3_attributesOf) (pc := 0) dX3_attributesOf_0 rfl ?_
  obtain ⟨k1, ek1, hf⟩ := tq_be hf
  refine tq_getR (M := mX3_attributesOf) (pc := 1) tk_c3 (by decide) dX3_attributesOf_1 tk_RX3_37 rfl ek1 ?_
  refine tq_iload_n (M := mX3_attributesOf) (pc := 4) dX3_attributesOf_4 rfl ?_
  obtain ⟨⟨⟩, eu3, hf⟩ := tq_be hf
  obtain ⟨fsu3, eu3⟩ := tq_is_s eu3
  obtain ⟨v2, ev2, hf⟩ := tq_be hf
  refine tq_calV (M := mX3_attributesOf) (pc := 5) (S := []) tk_y_X7_get tk_v_X7_get tk_RX3_76 dX3_attributesOf_5 [.int a1] rfl (S0 := _) rfl eu3 rfl (Nat.le_of_ble_eq_true rfl) (d1 := d - 1) (b1 := 0) (s1 := 0) (bc' := 0) (bs' := 0) (Q1 := fun r h9 => r = .inl (some (.long v2)) ∧ h = h9) (by omega) rfl rfl (w_X7_get (by omega) ev2 (fun _ _ q => q)) (fun E h9 q => nomatch (show (Sum.inr E : tq_R) = Sum.inl _ from q.1)) (fun r9 h9 q => ?_)
  obtain ⟨q1, rfl⟩ := q
  cases (show (Sum.inl r9 : tq_R) = Sum.inl (some (.long v2)) from q1)
  refine tq_aload_n (M := mX3_attributesOf) (pc := 8) dX3_attributesOf_8 rfl ?_
  obtain ⟨x4, ex4, hf⟩ := tq_be hf
  refine tq_getL (M := mX3_attributesOf) (pc := 9) tk_c3 (by decide) dX3_attributesOf_9 tk_RX3_57 rfl ex4 ?_
  refine tq_land (M := mX3_attributesOf) (pc := 12) dX3_attributesOf_12 ?_
  refine tq_lret (M := mX3_attributesOf) (pc := 13) dX3_attributesOf_13 rfl ?_
  cases (Option.some.inj hf)
  exact hQ _ _ ⟨rfl, rfl⟩
abbrev mX3_childCount : tq_M := (RX3, cX3_childCount, 2, (some .int), false, [], none)
def f_X3_childCount (t : Nat) (a1 : Int32) (h : tq_H) : Option (Int32) :=
  (tq_gr h t 3 1).bind fun k1 =>
  (tq_is h k1 5).bind fun _ =>
  (f_X5_get k1 a1 h).bind fun v2 =>
  (tq_is h t 3).bind fun _ =>
  (f_X3_children t v2 h).bind fun v4 =>
  (f_J13_bitCount_95d88 v4 h).bind fun v6 =>
  some v6
set_option maxHeartbeats 4000000 in
set_option maxRecDepth 20000 in
theorem w_X3_childCount {l : Launch} {d : Nat} (hd9 : 2 ≤ d) {t : Nat} {a1 : Int32} {h : tq_H} {o : Int32} {Q : tq_R → tq_H → Prop} (hf : f_X3_childCount t a1 h = some o) (hQ : ∀ r h9, r = .inl (some (.int o)) ∧ h = h9 → Q r h9) : tq_C l yX3_childCount cX3_childCount 2 (some .int) d 0 0 [.ref t, .int a1] h Q := by
  refine tq_body (y := yX3_childCount) false (by decide +kernel) (fun z => by cases z) (Nat.le_of_ble_eq_true rfl) ?_
  show tq_W l mX3_childCount d 0 0 Q 0 [(0, .ref t), (1, .int a1)] [] h
  refine tq_aload_n (M := mX3_childCount) (pc := 0) dX3_childCount_0 rfl ?_
  refine tq_aload_n (M := mX3_childCount) (pc := 1) dX3_childCount_1 rfl ?_
  obtain ⟨k1, ek1, hf⟩ := tq_be hf
  refine tq_getR (M := mX3_childCount) (pc := 2) tk_c3 (by decide) dX3_childCount_2 tk_RX3_20 rfl ek1 ?_
  refine tq_iload_n (M := mX3_childCount) (pc := 5) dX3_childCount_5 rfl ?_
  obtain ⟨⟨⟩, eu3, hf⟩ := tq_be hf
  obtain ⟨fsu3, eu3⟩ := tq_is_s eu3
  obtain ⟨v2, ev2, hf⟩ := tq_be hf
  refine tq_calV (M := mX3_childCount) (pc := 6) (S := [.ref t]) tk_y_X5_get tk_v_X5_get tk_RX3_88 dX3_childCount_6 [.int a1] rfl (S0 := _) rfl eu3 rfl (Nat.le_of_ble_eq_true rfl) (d1 := d - 1) (b1 := 0) (s1 := 0) (bc' := 0) (bs' := 0) (Q1 := fun r h9 => r = .inl (some (.int v2)) ∧ h = h9) (by omega) rfl rfl (w_X5_get (by omega) ev2 (fun _ _ q => q)) (fun E h9 q => nomatch (show (Sum.inr E : tq_R) = Sum.inl _ from q.1)) (fun r9 h9 q => ?_)
  obtain ⟨q1, rfl⟩ := q
  cases (show (Sum.inl r9 : tq_R) = Sum.inl (some (.int v2)) from q1)
  obtain ⟨⟨⟩, eu5, hf⟩ := tq_be hf
  obtain ⟨fsu5, eu5⟩ := tq_is_s eu5
  obtain ⟨v4, ev4, hf⟩ := tq_be hf
  refine tq_calV (M := mX3_childCount) (pc := 9) (S := []) tk_y_X3_children tk_v_X3_children tk_RX3_105 dX3_childCount_9 [.int v2] rfl (S0 := _) rfl eu5 rfl (Nat.le_of_ble_eq_true rfl) (d1 := d - 1) (b1 := 0) (s1 := 0) (bc' := 0) (bs' := 0) (Q1 := fun r h9 => r = .inl (some (.long v4)) ∧ h = h9) (by omega) rfl rfl (w_X3_children (by omega) ev4 (fun _ _ q => q)) (fun E h9 q => nomatch (show (Sum.inr E : tq_R) = Sum.inl _ from q.1)) (fun r9 h9 q => ?_)
  obtain ⟨q1, rfl⟩ := q
  cases (show (Sum.inl r9 : tq_R) = Sum.inl (some (.long v4)) from q1)
  obtain ⟨v6, ev6, hf⟩ := tq_be hf
  refine tq_calS (M := mX3_childCount) (pc := 12) (S := []) tk_y_J13_bitCount_95d88 tk_s_J13_bitCount_95d88 tk_RX3_112 dX3_childCount_12 [.long v4] rfl (Nat.le_of_ble_eq_true rfl) (d1 := d - 1) (b1 := 0) (s1 := 0) (bc' := 0) (bs' := 0) (Q1 := fun r h9 => r = .inl (some (.int v6)) ∧ h = h9) (by omega) rfl rfl (w_J13_bitCount_95d88 (by omega) ev6 (fun _ _ q => q)) (fun E h9 q => nomatch (show (Sum.inr E : tq_R) = Sum.inl _ from q.1)) (fun r9 h9 q => ?_)
  obtain ⟨q1, rfl⟩ := q
  cases (show (Sum.inl r9 : tq_R) = Sum.inl (some (.int v6)) from q1)
  refine tq_iret (M := mX3_childCount) (pc := 15) dX3_childCount_15 rfl ?_
  cases (Option.some.inj hf)
  exact hQ _ _ ⟨rfl, rfl⟩
abbrev mX3_spread : tq_M := (RX3, cX3_spread, 6, (some .long), false, [], none)
def f_X3_spread_b5 (i0 : Nat) (i1 : Int64) (hh : tq_H) (s : Int64 × Int32) : Option ((Int64 × Int32) ⊕ (Int64)) := match s with
  | (y3, y5) =>
    (tq_gi hh i0 3 12).bind fun x1 =>
    if y5 ≥ x1 then
      some (.inr y3)
    else
      (f_X0_holds i1 y5 hh).bind fun v2 =>
      (if v2 = 0 then
        some y3
      else
        (tq_gr hh i0 3 8).bind fun k3 =>
        (tq_is hh k3 7).bind fun _ =>
        (f_X7_get k3 y5 hh).bind fun v4 =>
        tq_let ((y3 ||| v4)) fun x6 =>
        some x6).bind fun p7 =>
      tq_let (y5 + (1 : Int32)) fun x8 =>
      some (.inl (p7, x8))
def f_X3_spread (t : Nat) (a1 : Int64) (h : tq_H) : Option (Int64) :=
  (tq_loop (f_X3_spread_b5 t a1 h) tq_N (a1, (0 : Int32))).bind fun o9 =>
  some o9
set_option maxHeartbeats 4000000 in
theorem l_X3_spread_5 {l : Launch} {d : Nat} {Q : tq_R → tq_H → Prop} {bc bs : Nat} (hd9 : 1 ≤ d) (i0 : Nat) (i1 : Int64) (hh : tq_H) : ∀ (n : Nat) (y3 : Int64) (y5 : Int32) (o : Int64), tq_loop (f_X3_spread_b5 i0 i1 hh) n (y3, y5) = some o → tq_W l mX3_spread d bc bs Q 41 [(3, .long o)] [] hh → tq_W l mX3_spread d bc bs Q 5 [(0, .ref i0), (1, .long i1), (3, .long y3), (5, .int y5)] [] hh := by
  intro n
  induction n with
  | zero => intro y3 y5 o hl; cases hl
  | succ n ih =>
    intro y3 y5 o hl hk
    obtain ⟨oo, hf, ho⟩ := tq_loop_s hl
    refine tq_iload (M := mX3_spread) (pc := 5) dX3_spread_5 rfl ?_
    refine tq_aload_n (M := mX3_spread) (pc := 7) dX3_spread_7 rfl ?_
    obtain ⟨x1, ex1, hf⟩ := tq_be hf
    refine tq_getI (M := mX3_spread) (pc := 8) tk_c3 (by decide) dX3_spread_8 tk_RX3_60 rfl ex1 ?_
    refine tq_icmp_ge (M := mX3_spread) (pc := 11) (tgt := 41) dX3_spread_11 (by decide) (fun cc => ?_) (fun cc => ?_)
    · have hf := tq_ifp hf cc
      refine tq_pick (L2 := [(3, .long y3)]) [2] rfl ?_
      cases (Option.some.inj hf)
      cases (tq_lx ho)
      exact hk
    · have hf := tq_ifn hf cc
      refine tq_lload_n (M := mX3_spread) (pc := 14) dX3_spread_14 rfl ?_
      refine tq_iload (M := mX3_spread) (pc := 15) dX3_spread_15 rfl ?_
      obtain ⟨v2, ev2, hf⟩ := tq_be hf
      refine tq_calS (M := mX3_spread) (pc := 17) (S := []) tk_y_X0_holds tk_s_X0_holds tk_RX3_101 dX3_spread_17 [.long i1, .int y5] rfl (Nat.le_of_ble_eq_true rfl) (d1 := d - 1) (b1 := 0) (s1 := 0) (bc' := bc) (bs' := bs) (Q1 := fun r h9 => r = .inl (some (.int v2)) ∧ hh = h9) (by omega) (by omega) (by omega) (w_X0_holds (by omega) ev2 (fun _ _ q => q)) (fun E h9 q => nomatch (show (Sum.inr E : tq_R) = Sum.inl _ from q.1)) (fun r9 h9 q => ?_)
      obtain ⟨q1, rfl⟩ := q
      cases (show (Sum.inl r9 : tq_R) = Sum.inl (some (.int v2)) from q1)
      obtain ⟨p7, ep7, hf⟩ := tq_be hf
      have HJ20 : tq_W l mX3_spread d bc bs Q 35 [(0, .ref i0), (1, .long i1), (3, .long p7), (5, .int y5)] [] hh := by
        obtain ⟨x8, ex8, hf⟩ := tq_le hf
        refine tq_iinc (M := mX3_spread) (pc := 35) (v := x8) (L2 := [(5, .int x8), (0, .ref i0), (1, .long i1), (3, .long p7)]) dX3_spread_35 rfl (by rw [ex8, tk_ki_1]) (by decide) rfl ?_
        refine tq_goto (M := mX3_spread) (pc := 38) (tgt := 5) dX3_spread_38 (by decide) ?_
        refine tq_pick (L2 := [(0, .ref i0), (1, .long i1), (3, .long p7), (5, .int x8)]) [1, 2, 3, 0] rfl ?_
        cases (Option.some.inj hf)
        exact ih _ _ o (tq_lc ho) hk
      refine tq_if_eq (M := mX3_spread) (pc := 20) (tgt := 35) dX3_spread_20 (by decide) (fun cc => ?_) (fun cc => ?_)
      · have hf := tq_ifp ep7 cc
        cases (Option.some.inj hf)
        exact HJ20
      · have hf := tq_ifn ep7 cc
        refine tq_lload_n (M := mX3_spread) (pc := 23) dX3_spread_23 rfl ?_
        refine tq_aload_n (M := mX3_spread) (pc := 24) dX3_spread_24 rfl ?_
        obtain ⟨k3, ek3, hf⟩ := tq_be hf
        refine tq_getR (M := mX3_spread) (pc := 25) tk_c3 (by decide) dX3_spread_25 tk_RX3_47 rfl ek3 ?_
        refine tq_iload (M := mX3_spread) (pc := 28) dX3_spread_28 rfl ?_
        obtain ⟨⟨⟩, eu5, hf⟩ := tq_be hf
        obtain ⟨fsu5, eu5⟩ := tq_is_s eu5
        obtain ⟨v4, ev4, hf⟩ := tq_be hf
        refine tq_calV (M := mX3_spread) (pc := 30) (S := [.long y3]) tk_y_X7_get tk_v_X7_get tk_RX3_76 dX3_spread_30 [.int y5] rfl (S0 := _) rfl eu5 rfl (Nat.le_of_ble_eq_true rfl) (d1 := d - 1) (b1 := 0) (s1 := 0) (bc' := bc) (bs' := bs) (Q1 := fun r h9 => r = .inl (some (.long v4)) ∧ hh = h9) (by omega) (by omega) (by omega) (w_X7_get (by omega) ev4 (fun _ _ q => q)) (fun E h9 q => nomatch (show (Sum.inr E : tq_R) = Sum.inl _ from q.1)) (fun r9 h9 q => ?_)
        obtain ⟨q1, rfl⟩ := q
        cases (show (Sum.inl r9 : tq_R) = Sum.inl (some (.long v4)) from q1)
        refine tq_lor (M := mX3_spread) (pc := 33) dX3_spread_33 ?_
        obtain ⟨x6, ex6, hf⟩ := tq_le hf
        refine tq_lstore_n (M := mX3_spread) (pc := 34) rfl dX3_spread_34 (L2 := [(3, .long x6), (0, .ref i0), (1, .long i1), (5, .int y5)]) (by decide) (by rw [ex6]; rfl) ?_
        refine tq_pick (L2 := [(0, .ref i0), (1, .long i1), (3, .long x6), (5, .int y5)]) [1, 2, 0, 3] rfl ?_
        cases (Option.some.inj hf)
        exact HJ20
set_option maxHeartbeats 4000000 in
set_option maxRecDepth 20000 in
theorem w_X3_spread {l : Launch} {d : Nat} (hd9 : 1 ≤ d) {t : Nat} {a1 : Int64} {h : tq_H} {o : Int64} {Q : tq_R → tq_H → Prop} (hf : f_X3_spread t a1 h = some o) (hQ : ∀ r h9, r = .inl (some (.long o)) ∧ h = h9 → Q r h9) : tq_C l yX3_spread cX3_spread 6 (some .long) d 0 0 [.ref t, .long a1] h Q := by
  refine tq_body (y := yX3_spread) false (by decide +kernel) (fun z => by cases z) (Nat.le_of_ble_eq_true rfl) ?_
  show tq_W l mX3_spread d 0 0 Q 0 [(0, .ref t), (1, .long a1)] [] h
  refine tq_lload_n (M := mX3_spread) (pc := 0) dX3_spread_0 rfl ?_
  refine tq_lstore_n (M := mX3_spread) (pc := 1) rfl dX3_spread_1 (L2 := [(3, .long a1), (0, .ref t), (1, .long a1)]) (by decide) rfl ?_
  refine tq_iconst (M := mX3_spread) (pc := 2) dX3_spread_2 tk_ki_0 ?_
  refine tq_istore (M := mX3_spread) (pc := 3) dX3_spread_3 (L2 := [(5, .int (0 : Int32)), (3, .long a1), (0, .ref t), (1, .long a1)]) (by decide) rfl ?_
  obtain ⟨o9, eo9, hf⟩ := tq_be hf
  refine tq_pick (L2 := [(0, .ref t), (1, .long a1), (3, .long a1), (5, .int (0 : Int32))]) [2, 3, 1, 0] rfl ?_
  refine l_X3_spread_5 (bc := 0) (bs := 0) (by omega) t a1 h _ a1 (0 : Int32) _ eo9 ?_
  refine tq_lload_n (M := mX3_spread) (pc := 41) dX3_spread_41 rfl ?_
  refine tq_lret (M := mX3_spread) (pc := 42) dX3_spread_42 rfl ?_
  cases (Option.some.inj hf)
  exact hQ _ _ ⟨rfl, rfl⟩
abbrev mX3_nodesOf : tq_M := (RX3, cX3_nodesOf, 6, (some .long), false, [], none)
def f_X3_nodesOf_b5 (i0 : Nat) (i1 : Int64) (hh : tq_H) (s : Int64 × Int32) : Option ((Int64 × Int32) ⊕ (Int64)) := match s with
  | (y3, y5) =>
    (tq_gi hh i0 3 12).bind fun x1 =>
    if y5 ≥ x1 then
      some (.inr y3)
    else
      (f_X0_holds i1 y5 hh).bind fun v2 =>
      (if v2 = 0 then
        some y3
      else
        (tq_gr hh i0 3 0).bind fun k3 =>
        (tq_is hh k3 5).bind fun _ =>
        (f_X5_get k3 y5 hh).bind fun v4 =>
        (f_X0_one v4 hh).bind fun v6 =>
        tq_let ((y3 ||| v6)) fun x7 =>
        some x7).bind fun p8 =>
      tq_let (y5 + (1 : Int32)) fun x9 =>
      some (.inl (p8, x9))
def f_X3_nodesOf (t : Nat) (a1 : Int64) (h : tq_H) : Option (Int64) :=
  (tq_loop (f_X3_nodesOf_b5 t a1 h) tq_N ((0 : Int64), (0 : Int32))).bind fun o10 =>
  some o10
set_option maxHeartbeats 4000000 in
theorem l_X3_nodesOf_5 {l : Launch} {d : Nat} {Q : tq_R → tq_H → Prop} {bc bs : Nat} (hd9 : 1 ≤ d) (i0 : Nat) (i1 : Int64) (hh : tq_H) : ∀ (n : Nat) (y3 : Int64) (y5 : Int32) (o : Int64), tq_loop (f_X3_nodesOf_b5 i0 i1 hh) n (y3, y5) = some o → tq_W l mX3_nodesOf d bc bs Q 44 [(3, .long o)] [] hh → tq_W l mX3_nodesOf d bc bs Q 5 [(0, .ref i0), (1, .long i1), (3, .long y3), (5, .int y5)] [] hh := by
  intro n
  induction n with
  | zero => intro y3 y5 o hl; cases hl
  | succ n ih =>
    intro y3 y5 o hl hk
    obtain ⟨oo, hf, ho⟩ := tq_loop_s hl
    refine tq_iload (M := mX3_nodesOf) (pc := 5) dX3_nodesOf_5 rfl ?_
    refine tq_aload_n (M := mX3_nodesOf) (pc := 7) dX3_nodesOf_7 rfl ?_
    obtain ⟨x1, ex1, hf⟩ := tq_be hf
    refine tq_getI (M := mX3_nodesOf) (pc := 8) tk_c3 (by decide) dX3_nodesOf_8 tk_RX3_60 rfl ex1 ?_
    refine tq_icmp_ge (M := mX3_nodesOf) (pc := 11) (tgt := 44) dX3_nodesOf_11 (by decide) (fun cc => ?_) (fun cc => ?_)
    · have hf := tq_ifp hf cc
      refine tq_pick (L2 := [(3, .long y3)]) [2] rfl ?_
      cases (Option.some.inj hf)
      cases (tq_lx ho)
      exact hk
    · have hf := tq_ifn hf cc
      refine tq_lload_n (M := mX3_nodesOf) (pc := 14) dX3_nodesOf_14 rfl ?_
      refine tq_iload (M := mX3_nodesOf) (pc := 15) dX3_nodesOf_15 rfl ?_
      obtain ⟨v2, ev2, hf⟩ := tq_be hf
      refine tq_calS (M := mX3_nodesOf) (pc := 17) (S := []) tk_y_X0_holds tk_s_X0_holds tk_RX3_101 dX3_nodesOf_17 [.long i1, .int y5] rfl (Nat.le_of_ble_eq_true rfl) (d1 := d - 1) (b1 := 0) (s1 := 0) (bc' := bc) (bs' := bs) (Q1 := fun r h9 => r = .inl (some (.int v2)) ∧ hh = h9) (by omega) (by omega) (by omega) (w_X0_holds (by omega) ev2 (fun _ _ q => q)) (fun E h9 q => nomatch (show (Sum.inr E : tq_R) = Sum.inl _ from q.1)) (fun r9 h9 q => ?_)
      obtain ⟨q1, rfl⟩ := q
      cases (show (Sum.inl r9 : tq_R) = Sum.inl (some (.int v2)) from q1)
      obtain ⟨p8, ep8, hf⟩ := tq_be hf
      have HJ20 : tq_W l mX3_nodesOf d bc bs Q 38 [(0, .ref i0), (1, .long i1), (3, .long p8), (5, .int y5)] [] hh := by
        obtain ⟨x9, ex9, hf⟩ := tq_le hf
        refine tq_iinc (M := mX3_nodesOf) (pc := 38) (v := x9) (L2 := [(5, .int x9), (0, .ref i0), (1, .long i1), (3, .long p8)]) dX3_nodesOf_38 rfl (by rw [ex9, tk_ki_1]) (by decide) rfl ?_
        refine tq_goto (M := mX3_nodesOf) (pc := 41) (tgt := 5) dX3_nodesOf_41 (by decide) ?_
        refine tq_pick (L2 := [(0, .ref i0), (1, .long i1), (3, .long p8), (5, .int x9)]) [1, 2, 3, 0] rfl ?_
        cases (Option.some.inj hf)
        exact ih _ _ o (tq_lc ho) hk
      refine tq_if_eq (M := mX3_nodesOf) (pc := 20) (tgt := 38) dX3_nodesOf_20 (by decide) (fun cc => ?_) (fun cc => ?_)
      · have hf := tq_ifp ep8 cc
        cases (Option.some.inj hf)
        exact HJ20
      · have hf := tq_ifn ep8 cc
        refine tq_lload_n (M := mX3_nodesOf) (pc := 23) dX3_nodesOf_23 rfl ?_
        refine tq_aload_n (M := mX3_nodesOf) (pc := 24) dX3_nodesOf_24 rfl ?_
        obtain ⟨k3, ek3, hf⟩ := tq_be hf
        refine tq_getR (M := mX3_nodesOf) (pc := 25) tk_c3 (by decide) dX3_nodesOf_25 tk_RX3_14 rfl ek3 ?_
        refine tq_iload (M := mX3_nodesOf) (pc := 28) dX3_nodesOf_28 rfl ?_
        obtain ⟨⟨⟩, eu5, hf⟩ := tq_be hf
        obtain ⟨fsu5, eu5⟩ := tq_is_s eu5
        obtain ⟨v4, ev4, hf⟩ := tq_be hf
        refine tq_calV (M := mX3_nodesOf) (pc := 30) (S := [.long y3]) tk_y_X5_get tk_v_X5_get tk_RX3_88 dX3_nodesOf_30 [.int y5] rfl (S0 := _) rfl eu5 rfl (Nat.le_of_ble_eq_true rfl) (d1 := d - 1) (b1 := 0) (s1 := 0) (bc' := bc) (bs' := bs) (Q1 := fun r h9 => r = .inl (some (.int v4)) ∧ hh = h9) (by omega) (by omega) (by omega) (w_X5_get (by omega) ev4 (fun _ _ q => q)) (fun E h9 q => nomatch (show (Sum.inr E : tq_R) = Sum.inl _ from q.1)) (fun r9 h9 q => ?_)
        obtain ⟨q1, rfl⟩ := q
        cases (show (Sum.inl r9 : tq_R) = Sum.inl (some (.int v4)) from q1)
        obtain ⟨v6, ev6, hf⟩ := tq_be hf
        refine tq_calS (M := mX3_nodesOf) (pc := 33) (S := [.long y3]) tk_y_X0_one tk_s_X0_one tk_RX3_80 dX3_nodesOf_33 [.int v4] rfl (Nat.le_of_ble_eq_true rfl) (d1 := d - 1) (b1 := 0) (s1 := 0) (bc' := bc) (bs' := bs) (Q1 := fun r h9 => r = .inl (some (.long v6)) ∧ hh = h9) (by omega) (by omega) (by omega) (w_X0_one (by omega) ev6 (fun _ _ q => q)) (fun E h9 q => nomatch (show (Sum.inr E : tq_R) = Sum.inl _ from q.1)) (fun r9 h9 q => ?_)
        obtain ⟨q1, rfl⟩ := q
        cases (show (Sum.inl r9 : tq_R) = Sum.inl (some (.long v6)) from q1)
        refine tq_lor (M := mX3_nodesOf) (pc := 36) dX3_nodesOf_36 ?_
        obtain ⟨x7, ex7, hf⟩ := tq_le hf
        refine tq_lstore_n (M := mX3_nodesOf) (pc := 37) rfl dX3_nodesOf_37 (L2 := [(3, .long x7), (0, .ref i0), (1, .long i1), (5, .int y5)]) (by decide) (by rw [ex7]; rfl) ?_
        refine tq_pick (L2 := [(0, .ref i0), (1, .long i1), (3, .long x7), (5, .int y5)]) [1, 2, 0, 3] rfl ?_
        cases (Option.some.inj hf)
        exact HJ20
set_option maxHeartbeats 4000000 in
set_option maxRecDepth 20000 in
theorem w_X3_nodesOf {l : Launch} {d : Nat} (hd9 : 1 ≤ d) {t : Nat} {a1 : Int64} {h : tq_H} {o : Int64} {Q : tq_R → tq_H → Prop} (hf : f_X3_nodesOf t a1 h = some o) (hQ : ∀ r h9, r = .inl (some (.long o)) ∧ h = h9 → Q r h9) : tq_C l yX3_nodesOf cX3_nodesOf 6 (some .long) d 0 0 [.ref t, .long a1] h Q := by
  refine tq_body (y := yX3_nodesOf) false (by decide +kernel) (fun z => by cases z) (Nat.le_of_ble_eq_true rfl) ?_
  show tq_W l mX3_nodesOf d 0 0 Q 0 [(0, .ref t), (1, .long a1)] [] h
  refine tq_lconst (M := mX3_nodesOf) (pc := 0) dX3_nodesOf_0 tk_kl_0 ?_
  refine tq_lstore_n (M := mX3_nodesOf) (pc := 1) rfl dX3_nodesOf_1 (L2 := [(3, .long (0 : Int64)), (0, .ref t), (1, .long a1)]) (by decide) rfl ?_
  refine tq_iconst (M := mX3_nodesOf) (pc := 2) dX3_nodesOf_2 tk_ki_0 ?_
  refine tq_istore (M := mX3_nodesOf) (pc := 3) dX3_nodesOf_3 (L2 := [(5, .int (0 : Int32)), (3, .long (0 : Int64)), (0, .ref t), (1, .long a1)]) (by decide) rfl ?_
  obtain ⟨o10, eo10, hf⟩ := tq_be hf
  refine tq_pick (L2 := [(0, .ref t), (1, .long a1), (3, .long (0 : Int64)), (5, .int (0 : Int32))]) [2, 3, 1, 0] rfl ?_
  refine l_X3_nodesOf_5 (bc := 0) (bs := 0) (by omega) t a1 h _ (0 : Int64) (0 : Int32) _ eo10 ?_
  refine tq_lload_n (M := mX3_nodesOf) (pc := 44) dX3_nodesOf_44 rfl ?_
  refine tq_lret (M := mX3_nodesOf) (pc := 45) dX3_nodesOf_45 rfl ?_
  cases (Option.some.inj hf)
  exact hQ _ _ ⟨rfl, rfl⟩
abbrev mX3_spotsOf : tq_M := (RX3, cX3_spotsOf, 6, (some .long), false, [], none)
def f_X3_spotsOf_b5 (i0 : Nat) (i1 : Int64) (hh : tq_H) (s : Int64 × Int32) : Option ((Int64 × Int32) ⊕ (Int64)) := match s with
  | (y3, y5) =>
    (tq_gi hh i0 3 12).bind fun x1 =>
    if y5 ≥ x1 then
      some (.inr y3)
    else
      (tq_gr hh i0 3 0).bind fun k2 =>
      (tq_is hh k2 5).bind fun _ =>
      (f_X5_get k2 y5 hh).bind fun v3 =>
      (f_X0_holds i1 v3 hh).bind fun v5 =>
      (if v5 = 0 then
        some y3
      else
        (f_X0_one y5 hh).bind fun v6 =>
        tq_let ((y3 ||| v6)) fun x7 =>
        some x7).bind fun p8 =>
      tq_let (y5 + (1 : Int32)) fun x9 =>
      some (.inl (p8, x9))
def f_X3_spotsOf (t : Nat) (a1 : Int64) (h : tq_H) : Option (Int64) :=
  (tq_loop (f_X3_spotsOf_b5 t a1 h) tq_N ((0 : Int64), (0 : Int32))).bind fun o10 =>
  some o10
set_option maxHeartbeats 4000000 in
theorem l_X3_spotsOf_5 {l : Launch} {d : Nat} {Q : tq_R → tq_H → Prop} {bc bs : Nat} (hd9 : 1 ≤ d) (i0 : Nat) (i1 : Int64) (hh : tq_H) : ∀ (n : Nat) (y3 : Int64) (y5 : Int32) (o : Int64), tq_loop (f_X3_spotsOf_b5 i0 i1 hh) n (y3, y5) = some o → tq_W l mX3_spotsOf d bc bs Q 44 [(3, .long o)] [] hh → tq_W l mX3_spotsOf d bc bs Q 5 [(0, .ref i0), (1, .long i1), (3, .long y3), (5, .int y5)] [] hh := by
  intro n
  induction n with
  | zero => intro y3 y5 o hl; cases hl
  | succ n ih =>
    intro y3 y5 o hl hk
    obtain ⟨oo, hf, ho⟩ := tq_loop_s hl
    refine tq_iload (M := mX3_spotsOf) (pc := 5) dX3_spotsOf_5 rfl ?_
    refine tq_aload_n (M := mX3_spotsOf) (pc := 7) dX3_spotsOf_7 rfl ?_
    obtain ⟨x1, ex1, hf⟩ := tq_be hf
    refine tq_getI (M := mX3_spotsOf) (pc := 8) tk_c3 (by decide) dX3_spotsOf_8 tk_RX3_60 rfl ex1 ?_
    refine tq_icmp_ge (M := mX3_spotsOf) (pc := 11) (tgt := 44) dX3_spotsOf_11 (by decide) (fun cc => ?_) (fun cc => ?_)
    · have hf := tq_ifp hf cc
      refine tq_pick (L2 := [(3, .long y3)]) [2] rfl ?_
      cases (Option.some.inj hf)
      cases (tq_lx ho)
      exact hk
    · have hf := tq_ifn hf cc
      refine tq_lload_n (M := mX3_spotsOf) (pc := 14) dX3_spotsOf_14 rfl ?_
      refine tq_aload_n (M := mX3_spotsOf) (pc := 15) dX3_spotsOf_15 rfl ?_
      obtain ⟨k2, ek2, hf⟩ := tq_be hf
      refine tq_getR (M := mX3_spotsOf) (pc := 16) tk_c3 (by decide) dX3_spotsOf_16 tk_RX3_14 rfl ek2 ?_
      refine tq_iload (M := mX3_spotsOf) (pc := 19) dX3_spotsOf_19 rfl ?_
      obtain ⟨⟨⟩, eu4, hf⟩ := tq_be hf
      obtain ⟨fsu4, eu4⟩ := tq_is_s eu4
      obtain ⟨v3, ev3, hf⟩ := tq_be hf
      refine tq_calV (M := mX3_spotsOf) (pc := 21) (S := [.long i1]) tk_y_X5_get tk_v_X5_get tk_RX3_88 dX3_spotsOf_21 [.int y5] rfl (S0 := _) rfl eu4 rfl (Nat.le_of_ble_eq_true rfl) (d1 := d - 1) (b1 := 0) (s1 := 0) (bc' := bc) (bs' := bs) (Q1 := fun r h9 => r = .inl (some (.int v3)) ∧ hh = h9) (by omega) (by omega) (by omega) (w_X5_get (by omega) ev3 (fun _ _ q => q)) (fun E h9 q => nomatch (show (Sum.inr E : tq_R) = Sum.inl _ from q.1)) (fun r9 h9 q => ?_)
      obtain ⟨q1, rfl⟩ := q
      cases (show (Sum.inl r9 : tq_R) = Sum.inl (some (.int v3)) from q1)
      obtain ⟨v5, ev5, hf⟩ := tq_be hf
      refine tq_calS (M := mX3_spotsOf) (pc := 24) (S := []) tk_y_X0_holds tk_s_X0_holds tk_RX3_101 dX3_spotsOf_24 [.long i1, .int v3] rfl (Nat.le_of_ble_eq_true rfl) (d1 := d - 1) (b1 := 0) (s1 := 0) (bc' := bc) (bs' := bs) (Q1 := fun r h9 => r = .inl (some (.int v5)) ∧ hh = h9) (by omega) (by omega) (by omega) (w_X0_holds (by omega) ev5 (fun _ _ q => q)) (fun E h9 q => nomatch (show (Sum.inr E : tq_R) = Sum.inl _ from q.1)) (fun r9 h9 q => ?_)
      obtain ⟨q1, rfl⟩ := q
      cases (show (Sum.inl r9 : tq_R) = Sum.inl (some (.int v5)) from q1)
      obtain ⟨p8, ep8, hf⟩ := tq_be hf
      have HJ27 : tq_W l mX3_spotsOf d bc bs Q 38 [(0, .ref i0), (1, .long i1), (3, .long p8), (5, .int y5)] [] hh := by
        obtain ⟨x9, ex9, hf⟩ := tq_le hf
        refine tq_iinc (M := mX3_spotsOf) (pc := 38) (v := x9) (L2 := [(5, .int x9), (0, .ref i0), (1, .long i1), (3, .long p8)]) dX3_spotsOf_38 rfl (by rw [ex9, tk_ki_1]) (by decide) rfl ?_
        refine tq_goto (M := mX3_spotsOf) (pc := 41) (tgt := 5) dX3_spotsOf_41 (by decide) ?_
        refine tq_pick (L2 := [(0, .ref i0), (1, .long i1), (3, .long p8), (5, .int x9)]) [1, 2, 3, 0] rfl ?_
        cases (Option.some.inj hf)
        exact ih _ _ o (tq_lc ho) hk
      refine tq_if_eq (M := mX3_spotsOf) (pc := 27) (tgt := 38) dX3_spotsOf_27 (by decide) (fun cc => ?_) (fun cc => ?_)
      · have hf := tq_ifp ep8 cc
        cases (Option.some.inj hf)
        exact HJ27
      · have hf := tq_ifn ep8 cc
        refine tq_lload_n (M := mX3_spotsOf) (pc := 30) dX3_spotsOf_30 rfl ?_
        refine tq_iload (M := mX3_spotsOf) (pc := 31) dX3_spotsOf_31 rfl ?_
        obtain ⟨v6, ev6, hf⟩ := tq_be hf
        refine tq_calS (M := mX3_spotsOf) (pc := 33) (S := [.long y3]) tk_y_X0_one tk_s_X0_one tk_RX3_80 dX3_spotsOf_33 [.int y5] rfl (Nat.le_of_ble_eq_true rfl) (d1 := d - 1) (b1 := 0) (s1 := 0) (bc' := bc) (bs' := bs) (Q1 := fun r h9 => r = .inl (some (.long v6)) ∧ hh = h9) (by omega) (by omega) (by omega) (w_X0_one (by omega) ev6 (fun _ _ q => q)) (fun E h9 q => nomatch (show (Sum.inr E : tq_R) = Sum.inl _ from q.1)) (fun r9 h9 q => ?_)
        obtain ⟨q1, rfl⟩ := q
        cases (show (Sum.inl r9 : tq_R) = Sum.inl (some (.long v6)) from q1)
        refine tq_lor (M := mX3_spotsOf) (pc := 36) dX3_spotsOf_36 ?_
        obtain ⟨x7, ex7, hf⟩ := tq_le hf
        refine tq_lstore_n (M := mX3_spotsOf) (pc := 37) rfl dX3_spotsOf_37 (L2 := [(3, .long x7), (0, .ref i0), (1, .long i1), (5, .int y5)]) (by decide) (by rw [ex7]; rfl) ?_
        refine tq_pick (L2 := [(0, .ref i0), (1, .long i1), (3, .long x7), (5, .int y5)]) [1, 2, 0, 3] rfl ?_
        cases (Option.some.inj hf)
        exact HJ27
set_option maxHeartbeats 4000000 in
set_option maxRecDepth 20000 in
theorem w_X3_spotsOf {l : Launch} {d : Nat} (hd9 : 1 ≤ d) {t : Nat} {a1 : Int64} {h : tq_H} {o : Int64} {Q : tq_R → tq_H → Prop} (hf : f_X3_spotsOf t a1 h = some o) (hQ : ∀ r h9, r = .inl (some (.long o)) ∧ h = h9 → Q r h9) : tq_C l yX3_spotsOf cX3_spotsOf 6 (some .long) d 0 0 [.ref t, .long a1] h Q := by
  refine tq_body (y := yX3_spotsOf) false (by decide +kernel) (fun z => by cases z) (Nat.le_of_ble_eq_true rfl) ?_
  show tq_W l mX3_spotsOf d 0 0 Q 0 [(0, .ref t), (1, .long a1)] [] h
  refine tq_lconst (M := mX3_spotsOf) (pc := 0) dX3_spotsOf_0 tk_kl_0 ?_
  refine tq_lstore_n (M := mX3_spotsOf) (pc := 1) rfl dX3_spotsOf_1 (L2 := [(3, .long (0 : Int64)), (0, .ref t), (1, .long a1)]) (by decide) rfl ?_
  refine tq_iconst (M := mX3_spotsOf) (pc := 2) dX3_spotsOf_2 tk_ki_0 ?_
  refine tq_istore (M := mX3_spotsOf) (pc := 3) dX3_spotsOf_3 (L2 := [(5, .int (0 : Int32)), (3, .long (0 : Int64)), (0, .ref t), (1, .long a1)]) (by decide) rfl ?_
  obtain ⟨o10, eo10, hf⟩ := tq_be hf
  refine tq_pick (L2 := [(0, .ref t), (1, .long a1), (3, .long (0 : Int64)), (5, .int (0 : Int32))]) [2, 3, 1, 0] rfl ?_
  refine l_X3_spotsOf_5 (bc := 0) (bs := 0) (by omega) t a1 h _ (0 : Int64) (0 : Int32) _ eo10 ?_
  refine tq_lload_n (M := mX3_spotsOf) (pc := 44) dX3_spotsOf_44 rfl ?_
  refine tq_lret (M := mX3_spotsOf) (pc := 45) dX3_spotsOf_45 rfl ?_
  cases (Option.some.inj hf)
  exact hQ _ _ ⟨rfl, rfl⟩
abbrev mX4_init : tq_M := (RX4, cX4_init, 1, none, true, [], none)
def f_X4_init (t : Nat) (h : tq_H) : Option (tq_H) :=
  tq_let (tq_new h (.inl (5, [.null]))) fun w1 =>
  (f_X5_init h.1 (20 : Int32) (0 : Int32) w1).bind fun v2 =>
  (tq_pf v2 t 4 0 (.ref h.1)).bind fun w3 =>
  tq_let (tq_new w3 (.inl (5, [.null]))) fun w4 =>
  (f_X5_init w3.1 (100 : Int32) (-1 : Int32) w4).bind fun v5 =>
  (tq_pf v5 t 4 1 (.ref w3.1)).bind fun w6 =>
  tq_let (tq_new w6 (.inl (5, [.null]))) fun w7 =>
  (f_X5_init w6.1 (100 : Int32) (-1 : Int32) w7).bind fun v8 =>
  (tq_pf v8 t 4 2 (.ref w6.1)).bind fun w9 =>
  tq_let (tq_new w9 (.inl (5, [.null]))) fun w10 =>
  (f_X5_init w9.1 (100 : Int32) (-1 : Int32) w10).bind fun v11 =>
  (tq_pf v11 t 4 3 (.ref w9.1)).bind fun w12 =>
  tq_let (tq_new w12 (.inl (5, [.null]))) fun w13 =>
  (f_X5_init w12.1 (100 : Int32) (0 : Int32) w13).bind fun v14 =>
  (tq_pf v14 t 4 4 (.ref w12.1)).bind fun w15 =>
  tq_let (tq_new w15 (.inl (5, [.null]))) fun w16 =>
  (f_X5_init w15.1 (200 : Int32) (-1 : Int32) w16).bind fun v17 =>
  (tq_pf v17 t 4 5 (.ref w15.1)).bind fun w18 =>
  tq_let (tq_new w18 (.inl (5, [.null]))) fun w19 =>
  (f_X5_init w18.1 (200 : Int32) (-1 : Int32) w19).bind fun v20 =>
  (tq_pf v20 t 4 6 (.ref w18.1)).bind fun w21 =>
  tq_let (tq_new w21 (.inl (5, [.null]))) fun w22 =>
  (f_X5_init w21.1 (200 : Int32) (-1 : Int32) w22).bind fun v23 =>
  (tq_pf v23 t 4 7 (.ref w21.1)).bind fun w24 =>
  tq_let (tq_new w24 (.inl (5, [.null]))) fun w25 =>
  (f_X5_init w24.1 (200 : Int32) (-1 : Int32) w25).bind fun v26 =>
  (tq_pf v26 t 4 8 (.ref w24.1)).bind fun w27 =>
  (tq_pf w27 t 4 9 (.int (0 : Int32))).bind fun w28 =>
  some w28
set_option maxHeartbeats 4000000 in
set_option maxRecDepth 20000 in
theorem w_X4_init {l : Launch} {d : Nat} (hd9 : 2 ≤ d) {t : Nat} {h : tq_H} {o : tq_H} {Q : tq_R → tq_H → Prop} (hf : f_X4_init t h = some o) (hQ : ∀ r h9, r = .inl none ∧ o = h9 → Q r h9) : tq_C l yX4_init cX4_init 1 none d 18 1229 [.ref t] h Q := by
  refine tq_body (y := yX4_init) true (by decide +kernel) (fun _ => rfl) (Nat.le_of_ble_eq_true rfl) ?_
  show tq_W l mX4_init d 18 1229 Q 0 [(0, .ref t)] [] h
  refine tq_aload_n (M := mX4_init) (pc := 0) dX4_init_0 rfl ?_
  refine tq_objinit (M := mX4_init) (pc := 1) dX4_init_1 tk_RX4_3 tk_oi tk_oc (by omega) (Nat.le_of_ble_eq_true rfl) ?_
  refine tq_aload_n (M := mX4_init) (pc := 4) dX4_init_4 rfl ?_
  obtain ⟨w1, ew1, hf⟩ := tq_le hf
  refine tq_newo (M := mX4_init) (pc := 5) tk_c5 dX4_init_5 tk_RX4_9 tk_in5 tk_ini5 (fs := [.null]) (fun j hj => by rcases (show j = 0 by omega) with rfl <;> rfl) (fun _ => ⟨rfl, trivial⟩) (bc' := 17) (bs' := 1228) (by omega) (by omega) ?_
  rw [← ew1]
  refine tq_dup (M := mX4_init) (pc := 8) dX4_init_8 rfl ?_
  refine tq_bipush (M := mX4_init) (pc := 9) dX4_init_9 tk_kb_20 ?_
  refine tq_iconst (M := mX4_init) (pc := 11) dX4_init_11 tk_ki_0 ?_
  obtain ⟨v2, ev2, hf⟩ := tq_be hf
  refine tq_calI (M := mX4_init) (pc := 12) (S := [.ref h.1, .ref t]) tk_y_X5_init tk_v_X5_init rfl (Or.inl tk_RX4_11) dX4_init_12 [.int (20 : Int32), .int (0 : Int32)] rfl (Nat.le_of_ble_eq_true rfl) (d1 := d - 1) (b1 := 1) (s1 := 20) (bc' := 16) (bs' := 1208) (Q1 := fun r h9 => r = .inl none ∧ v2 = h9) (by omega) rfl rfl (w_X5_init (by omega) (N := 20) (by decide +kernel) (by decide +kernel) (by decide) ev2 (fun _ _ q => q)) (fun E h9 q => nomatch (show (Sum.inr E : tq_R) = Sum.inl _ from q.1)) (fun r9 h9 q => ?_)
  obtain ⟨q1, rfl⟩ := q
  cases (show (Sum.inl r9 : tq_R) = Sum.inl (none) from q1)
  obtain ⟨w3, ew3, hf⟩ := tq_be hf
  refine tq_putv (M := mX4_init) (pc := 15) tk_c4 (by decide) dX4_init_15 tk_RX4_14 rfl (Or.inr ⟨rfl, rfl⟩) ew3 (tq_nR _ _) ?_
  refine tq_aload_n (M := mX4_init) (pc := 18) dX4_init_18 rfl ?_
  obtain ⟨w4, ew4, hf⟩ := tq_le hf
  refine tq_newo (M := mX4_init) (pc := 19) tk_c5 dX4_init_19 tk_RX4_9 tk_in5 tk_ini5 (fs := [.null]) (fun j hj => by rcases (show j = 0 by omega) with rfl <;> rfl) (fun _ => ⟨rfl, trivial⟩) (bc' := 15) (bs' := 1207) (by omega) (by omega) ?_
  rw [← ew4]
  refine tq_dup (M := mX4_init) (pc := 22) dX4_init_22 rfl ?_
  refine tq_bipush (M := mX4_init) (pc := 23) dX4_init_23 tk_kb_100 ?_
  refine tq_iconst (M := mX4_init) (pc := 25) dX4_init_25 tk_ki_m1 ?_
  obtain ⟨v5, ev5, hf⟩ := tq_be hf
  refine tq_calI (M := mX4_init) (pc := 26) (S := [.ref w3.1, .ref t]) tk_y_X5_init tk_v_X5_init rfl (Or.inl tk_RX4_11) dX4_init_26 [.int (100 : Int32), .int (-1 : Int32)] rfl (Nat.le_of_ble_eq_true rfl) (d1 := d - 1) (b1 := 1) (s1 := 100) (bc' := 14) (bs' := 1107) (Q1 := fun r h9 => r = .inl none ∧ v5 = h9) (by omega) rfl rfl (w_X5_init (by omega) (N := 100) (by decide +kernel) (by decide +kernel) (by decide) ev5 (fun _ _ q => q)) (fun E h9 q => nomatch (show (Sum.inr E : tq_R) = Sum.inl _ from q.1)) (fun r9 h9 q => ?_)
  obtain ⟨q1, rfl⟩ := q
  cases (show (Sum.inl r9 : tq_R) = Sum.inl (none) from q1)
  obtain ⟨w6, ew6, hf⟩ := tq_be hf
  refine tq_putv (M := mX4_init) (pc := 29) tk_c4 (by decide) dX4_init_29 tk_RX4_20 rfl (Or.inr ⟨rfl, rfl⟩) ew6 (tq_nR _ _) ?_
  refine tq_aload_n (M := mX4_init) (pc := 32) dX4_init_32 rfl ?_
  obtain ⟨w7, ew7, hf⟩ := tq_le hf
  refine tq_newo (M := mX4_init) (pc := 33) tk_c5 dX4_init_33 tk_RX4_9 tk_in5 tk_ini5 (fs := [.null]) (fun j hj => by rcases (show j = 0 by omega) with rfl <;> rfl) (fun _ => ⟨rfl, trivial⟩) (bc' := 13) (bs' := 1106) (by omega) (by omega) ?_
  rw [← ew7]
  refine tq_dup (M := mX4_init) (pc := 36) dX4_init_36 rfl ?_
  refine tq_bipush (M := mX4_init) (pc := 37) dX4_init_37 tk_kb_100 ?_
  refine tq_iconst (M := mX4_init) (pc := 39) dX4_init_39 tk_ki_m1 ?_
  obtain ⟨v8, ev8, hf⟩ := tq_be hf
  refine tq_calI (M := mX4_init) (pc := 40) (S := [.ref w6.1, .ref t]) tk_y_X5_init tk_v_X5_init rfl (Or.inl tk_RX4_11) dX4_init_40 [.int (100 : Int32), .int (-1 : Int32)] rfl (Nat.le_of_ble_eq_true rfl) (d1 := d - 1) (b1 := 1) (s1 := 100) (bc' := 12) (bs' := 1006) (Q1 := fun r h9 => r = .inl none ∧ v8 = h9) (by omega) rfl rfl (w_X5_init (by omega) (N := 100) (by decide +kernel) (by decide +kernel) (by decide) ev8 (fun _ _ q => q)) (fun E h9 q => nomatch (show (Sum.inr E : tq_R) = Sum.inl _ from q.1)) (fun r9 h9 q => ?_)
  obtain ⟨q1, rfl⟩ := q
  cases (show (Sum.inl r9 : tq_R) = Sum.inl (none) from q1)
  obtain ⟨w9, ew9, hf⟩ := tq_be hf
  refine tq_putv (M := mX4_init) (pc := 43) tk_c4 (by decide) dX4_init_43 tk_RX4_23 rfl (Or.inr ⟨rfl, rfl⟩) ew9 (tq_nR _ _) ?_
  refine tq_aload_n (M := mX4_init) (pc := 46) dX4_init_46 rfl ?_
  obtain ⟨w10, ew10, hf⟩ := tq_le hf
  refine tq_newo (M := mX4_init) (pc := 47) tk_c5 dX4_init_47 tk_RX4_9 tk_in5 tk_ini5 (fs := [.null]) (fun j hj => by rcases (show j = 0 by omega) with rfl <;> rfl) (fun _ => ⟨rfl, trivial⟩) (bc' := 11) (bs' := 1005) (by omega) (by omega) ?_
  rw [← ew10]
  refine tq_dup (M := mX4_init) (pc := 50) dX4_init_50 rfl ?_
  refine tq_bipush (M := mX4_init) (pc := 51) dX4_init_51 tk_kb_100 ?_
  refine tq_iconst (M := mX4_init) (pc := 53) dX4_init_53 tk_ki_m1 ?_
  obtain ⟨v11, ev11, hf⟩ := tq_be hf
  refine tq_calI (M := mX4_init) (pc := 54) (S := [.ref w9.1, .ref t]) tk_y_X5_init tk_v_X5_init rfl (Or.inl tk_RX4_11) dX4_init_54 [.int (100 : Int32), .int (-1 : Int32)] rfl (Nat.le_of_ble_eq_true rfl) (d1 := d - 1) (b1 := 1) (s1 := 100) (bc' := 10) (bs' := 905) (Q1 := fun r h9 => r = .inl none ∧ v11 = h9) (by omega) rfl rfl (w_X5_init (by omega) (N := 100) (by decide +kernel) (by decide +kernel) (by decide) ev11 (fun _ _ q => q)) (fun E h9 q => nomatch (show (Sum.inr E : tq_R) = Sum.inl _ from q.1)) (fun r9 h9 q => ?_)
  obtain ⟨q1, rfl⟩ := q
  cases (show (Sum.inl r9 : tq_R) = Sum.inl (none) from q1)
  obtain ⟨w12, ew12, hf⟩ := tq_be hf
  refine tq_putv (M := mX4_init) (pc := 57) tk_c4 (by decide) dX4_init_57 tk_RX4_26 rfl (Or.inr ⟨rfl, rfl⟩) ew12 (tq_nR _ _) ?_
  refine tq_aload_n (M := mX4_init) (pc := 60) dX4_init_60 rfl ?_
  obtain ⟨w13, ew13, hf⟩ := tq_le hf
  refine tq_newo (M := mX4_init) (pc := 61) tk_c5 dX4_init_61 tk_RX4_9 tk_in5 tk_ini5 (fs := [.null]) (fun j hj => by rcases (show j = 0 by omega) with rfl <;> rfl) (fun _ => ⟨rfl, trivial⟩) (bc' := 9) (bs' := 904) (by omega) (by omega) ?_
  rw [← ew13]
  refine tq_dup (M := mX4_init) (pc := 64) dX4_init_64 rfl ?_
  refine tq_bipush (M := mX4_init) (pc := 65) dX4_init_65 tk_kb_100 ?_
  refine tq_iconst (M := mX4_init) (pc := 67) dX4_init_67 tk_ki_0 ?_
  obtain ⟨v14, ev14, hf⟩ := tq_be hf
  refine tq_calI (M := mX4_init) (pc := 68) (S := [.ref w12.1, .ref t]) tk_y_X5_init tk_v_X5_init rfl (Or.inl tk_RX4_11) dX4_init_68 [.int (100 : Int32), .int (0 : Int32)] rfl (Nat.le_of_ble_eq_true rfl) (d1 := d - 1) (b1 := 1) (s1 := 100) (bc' := 8) (bs' := 804) (Q1 := fun r h9 => r = .inl none ∧ v14 = h9) (by omega) rfl rfl (w_X5_init (by omega) (N := 100) (by decide +kernel) (by decide +kernel) (by decide) ev14 (fun _ _ q => q)) (fun E h9 q => nomatch (show (Sum.inr E : tq_R) = Sum.inl _ from q.1)) (fun r9 h9 q => ?_)
  obtain ⟨q1, rfl⟩ := q
  cases (show (Sum.inl r9 : tq_R) = Sum.inl (none) from q1)
  obtain ⟨w15, ew15, hf⟩ := tq_be hf
  refine tq_putv (M := mX4_init) (pc := 71) tk_c4 (by decide) dX4_init_71 tk_RX4_29 rfl (Or.inr ⟨rfl, rfl⟩) ew15 (tq_nR _ _) ?_
  refine tq_aload_n (M := mX4_init) (pc := 74) dX4_init_74 rfl ?_
  obtain ⟨w16, ew16, hf⟩ := tq_le hf
  refine tq_newo (M := mX4_init) (pc := 75) tk_c5 dX4_init_75 tk_RX4_9 tk_in5 tk_ini5 (fs := [.null]) (fun j hj => by rcases (show j = 0 by omega) with rfl <;> rfl) (fun _ => ⟨rfl, trivial⟩) (bc' := 7) (bs' := 803) (by omega) (by omega) ?_
  rw [← ew16]
  refine tq_dup (M := mX4_init) (pc := 78) dX4_init_78 rfl ?_
  refine tq_sipush (M := mX4_init) (pc := 79) dX4_init_79 tk_ks_200 ?_
  refine tq_iconst (M := mX4_init) (pc := 82) dX4_init_82 tk_ki_m1 ?_
  obtain ⟨v17, ev17, hf⟩ := tq_be hf
  refine tq_calI (M := mX4_init) (pc := 83) (S := [.ref w15.1, .ref t]) tk_y_X5_init tk_v_X5_init rfl (Or.inl tk_RX4_11) dX4_init_83 [.int (200 : Int32), .int (-1 : Int32)] rfl (Nat.le_of_ble_eq_true rfl) (d1 := d - 1) (b1 := 1) (s1 := 200) (bc' := 6) (bs' := 603) (Q1 := fun r h9 => r = .inl none ∧ v17 = h9) (by omega) rfl rfl (w_X5_init (by omega) (N := 200) (by decide +kernel) (by decide +kernel) (by decide) ev17 (fun _ _ q => q)) (fun E h9 q => nomatch (show (Sum.inr E : tq_R) = Sum.inl _ from q.1)) (fun r9 h9 q => ?_)
  obtain ⟨q1, rfl⟩ := q
  cases (show (Sum.inl r9 : tq_R) = Sum.inl (none) from q1)
  obtain ⟨w18, ew18, hf⟩ := tq_be hf
  refine tq_putv (M := mX4_init) (pc := 86) tk_c4 (by decide) dX4_init_86 tk_RX4_32 rfl (Or.inr ⟨rfl, rfl⟩) ew18 (tq_nR _ _) ?_
  refine tq_aload_n (M := mX4_init) (pc := 89) dX4_init_89 rfl ?_
  obtain ⟨w19, ew19, hf⟩ := tq_le hf
  refine tq_newo (M := mX4_init) (pc := 90) tk_c5 dX4_init_90 tk_RX4_9 tk_in5 tk_ini5 (fs := [.null]) (fun j hj => by rcases (show j = 0 by omega) with rfl <;> rfl) (fun _ => ⟨rfl, trivial⟩) (bc' := 5) (bs' := 602) (by omega) (by omega) ?_
  rw [← ew19]
  refine tq_dup (M := mX4_init) (pc := 93) dX4_init_93 rfl ?_
  refine tq_sipush (M := mX4_init) (pc := 94) dX4_init_94 tk_ks_200 ?_
  refine tq_iconst (M := mX4_init) (pc := 97) dX4_init_97 tk_ki_m1 ?_
  obtain ⟨v20, ev20, hf⟩ := tq_be hf
  refine tq_calI (M := mX4_init) (pc := 98) (S := [.ref w18.1, .ref t]) tk_y_X5_init tk_v_X5_init rfl (Or.inl tk_RX4_11) dX4_init_98 [.int (200 : Int32), .int (-1 : Int32)] rfl (Nat.le_of_ble_eq_true rfl) (d1 := d - 1) (b1 := 1) (s1 := 200) (bc' := 4) (bs' := 402) (Q1 := fun r h9 => r = .inl none ∧ v20 = h9) (by omega) rfl rfl (w_X5_init (by omega) (N := 200) (by decide +kernel) (by decide +kernel) (by decide) ev20 (fun _ _ q => q)) (fun E h9 q => nomatch (show (Sum.inr E : tq_R) = Sum.inl _ from q.1)) (fun r9 h9 q => ?_)
  obtain ⟨q1, rfl⟩ := q
  cases (show (Sum.inl r9 : tq_R) = Sum.inl (none) from q1)
  obtain ⟨w21, ew21, hf⟩ := tq_be hf
  refine tq_putv (M := mX4_init) (pc := 101) tk_c4 (by decide) dX4_init_101 tk_RX4_35 rfl (Or.inr ⟨rfl, rfl⟩) ew21 (tq_nR _ _) ?_
  refine tq_aload_n (M := mX4_init) (pc := 104) dX4_init_104 rfl ?_
  obtain ⟨w22, ew22, hf⟩ := tq_le hf
  refine tq_newo (M := mX4_init) (pc := 105) tk_c5 dX4_init_105 tk_RX4_9 tk_in5 tk_ini5 (fs := [.null]) (fun j hj => by rcases (show j = 0 by omega) with rfl <;> rfl) (fun _ => ⟨rfl, trivial⟩) (bc' := 3) (bs' := 401) (by omega) (by omega) ?_
  rw [← ew22]
  refine tq_dup (M := mX4_init) (pc := 108) dX4_init_108 rfl ?_
  refine tq_sipush (M := mX4_init) (pc := 109) dX4_init_109 tk_ks_200 ?_
  refine tq_iconst (M := mX4_init) (pc := 112) dX4_init_112 tk_ki_m1 ?_
  obtain ⟨v23, ev23, hf⟩ := tq_be hf
  refine tq_calI (M := mX4_init) (pc := 113) (S := [.ref w21.1, .ref t]) tk_y_X5_init tk_v_X5_init rfl (Or.inl tk_RX4_11) dX4_init_113 [.int (200 : Int32), .int (-1 : Int32)] rfl (Nat.le_of_ble_eq_true rfl) (d1 := d - 1) (b1 := 1) (s1 := 200) (bc' := 2) (bs' := 201) (Q1 := fun r h9 => r = .inl none ∧ v23 = h9) (by omega) rfl rfl (w_X5_init (by omega) (N := 200) (by decide +kernel) (by decide +kernel) (by decide) ev23 (fun _ _ q => q)) (fun E h9 q => nomatch (show (Sum.inr E : tq_R) = Sum.inl _ from q.1)) (fun r9 h9 q => ?_)
  obtain ⟨q1, rfl⟩ := q
  cases (show (Sum.inl r9 : tq_R) = Sum.inl (none) from q1)
  obtain ⟨w24, ew24, hf⟩ := tq_be hf
  refine tq_putv (M := mX4_init) (pc := 116) tk_c4 (by decide) dX4_init_116 tk_RX4_38 rfl (Or.inr ⟨rfl, rfl⟩) ew24 (tq_nR _ _) ?_
  refine tq_aload_n (M := mX4_init) (pc := 119) dX4_init_119 rfl ?_
  obtain ⟨w25, ew25, hf⟩ := tq_le hf
  refine tq_newo (M := mX4_init) (pc := 120) tk_c5 dX4_init_120 tk_RX4_9 tk_in5 tk_ini5 (fs := [.null]) (fun j hj => by rcases (show j = 0 by omega) with rfl <;> rfl) (fun _ => ⟨rfl, trivial⟩) (bc' := 1) (bs' := 200) (by omega) (by omega) ?_
  rw [← ew25]
  refine tq_dup (M := mX4_init) (pc := 123) dX4_init_123 rfl ?_
  refine tq_sipush (M := mX4_init) (pc := 124) dX4_init_124 tk_ks_200 ?_
  refine tq_iconst (M := mX4_init) (pc := 127) dX4_init_127 tk_ki_m1 ?_
  obtain ⟨v26, ev26, hf⟩ := tq_be hf
  refine tq_calI (M := mX4_init) (pc := 128) (S := [.ref w24.1, .ref t]) tk_y_X5_init tk_v_X5_init rfl (Or.inl tk_RX4_11) dX4_init_128 [.int (200 : Int32), .int (-1 : Int32)] rfl (Nat.le_of_ble_eq_true rfl) (d1 := d - 1) (b1 := 1) (s1 := 200) (bc' := 0) (bs' := 0) (Q1 := fun r h9 => r = .inl none ∧ v26 = h9) (by omega) rfl rfl (w_X5_init (by omega) (N := 200) (by decide +kernel) (by decide +kernel) (by decide) ev26 (fun _ _ q => q)) (fun E h9 q => nomatch (show (Sum.inr E : tq_R) = Sum.inl _ from q.1)) (fun r9 h9 q => ?_)
  obtain ⟨q1, rfl⟩ := q
  cases (show (Sum.inl r9 : tq_R) = Sum.inl (none) from q1)
  obtain ⟨w27, ew27, hf⟩ := tq_be hf
  refine tq_putv (M := mX4_init) (pc := 131) tk_c4 (by decide) dX4_init_131 tk_RX4_41 rfl (Or.inr ⟨rfl, rfl⟩) ew27 (tq_nR _ _) ?_
  refine tq_aload_n (M := mX4_init) (pc := 134) dX4_init_134 rfl ?_
  refine tq_iconst (M := mX4_init) (pc := 135) dX4_init_135 tk_ki_0 ?_
  obtain ⟨w28, ew28, hf⟩ := tq_be hf
  refine tq_putv (M := mX4_init) (pc := 136) tk_c4 (by decide) dX4_init_136 tk_RX4_44 rfl (Or.inl rfl) ew28 (tq_nI _) ?_
  refine tq_vret (M := mX4_init) (pc := 139) dX4_init_139 rfl ?_
  cases (Option.some.inj hf)
  exact hQ _ _ ⟨rfl, rfl⟩
abbrev mX4_count : tq_M := (RX4, cX4_count, 1, (some .int), false, [], none)
def f_X4_count (t : Nat) (h : tq_H) : Option (Int32) :=
  (tq_gi h t 4 9).bind fun x1 =>
  some x1
set_option maxHeartbeats 4000000 in
set_option maxRecDepth 20000 in
theorem w_X4_count {l : Launch} {d : Nat} (hd9 : 0 ≤ d) {t : Nat} {h : tq_H} {o : Int32} {Q : tq_R → tq_H → Prop} (hf : f_X4_count t h = some o) (hQ : ∀ r h9, r = .inl (some (.int o)) ∧ h = h9 → Q r h9) : tq_C l yX4_count cX4_count 1 (some .int) d 0 0 [.ref t] h Q := by
  refine tq_body (y := yX4_count) false (by decide +kernel) (fun z => by cases z) (Nat.le_of_ble_eq_true rfl) ?_
  show tq_W l mX4_count d 0 0 Q 0 [(0, .ref t)] [] h
  refine tq_aload_n (M := mX4_count) (pc := 0) dX4_count_0 rfl ?_
  obtain ⟨x1, ex1, hf⟩ := tq_be hf
  refine tq_getI (M := mX4_count) (pc := 1) tk_c4 (by decide) dX4_count_1 tk_RX4_44 rfl ex1 ?_
  refine tq_iret (M := mX4_count) (pc := 4) dX4_count_4 rfl ?_
  cases (Option.some.inj hf)
  exact hQ _ _ ⟨rfl, rfl⟩
abbrev mX4_addPath : tq_M := (RX4, cX4_addPath, 1, (some .int), false, [], none)
def f_X4_addPath (t : Nat) (h : tq_H) : Option (Int32 × tq_H) :=
  (tq_gi h t 4 9).bind fun x1 =>
  (tq_pf h t 4 9 (.int ((x1 + (1 : Int32))))).bind fun w2 =>
  (tq_gi w2 t 4 9).bind fun x3 =>
  some ((x3 - (1 : Int32)), w2)
set_option maxHeartbeats 4000000 in
set_option maxRecDepth 20000 in
theorem w_X4_addPath {l : Launch} {d : Nat} (hd9 : 0 ≤ d) {t : Nat} {h : tq_H} {o : Int32 × tq_H} {Q : tq_R → tq_H → Prop} (hf : f_X4_addPath t h = some o) (hQ : ∀ r h9, r = .inl (some (.int o.1)) ∧ o.2 = h9 → Q r h9) : tq_C l yX4_addPath cX4_addPath 1 (some .int) d 0 0 [.ref t] h Q := by
  refine tq_body (y := yX4_addPath) false (by decide +kernel) (fun z => by cases z) (Nat.le_of_ble_eq_true rfl) ?_
  show tq_W l mX4_addPath d 0 0 Q 0 [(0, .ref t)] [] h
  refine tq_aload_n (M := mX4_addPath) (pc := 0) dX4_addPath_0 rfl ?_
  refine tq_dup (M := mX4_addPath) (pc := 1) dX4_addPath_1 rfl ?_
  obtain ⟨x1, ex1, hf⟩ := tq_be hf
  refine tq_getI (M := mX4_addPath) (pc := 2) tk_c4 (by decide) dX4_addPath_2 tk_RX4_44 rfl ex1 ?_
  refine tq_iconst (M := mX4_addPath) (pc := 5) dX4_addPath_5 tk_ki_1 ?_
  refine tq_iadd (M := mX4_addPath) (pc := 6) dX4_addPath_6 ?_
  obtain ⟨w2, ew2, hf⟩ := tq_be hf
  refine tq_putv (M := mX4_addPath) (pc := 7) tk_c4 (by decide) dX4_addPath_7 tk_RX4_44 rfl (Or.inl rfl) ew2 (tq_nI _) ?_
  refine tq_aload_n (M := mX4_addPath) (pc := 10) dX4_addPath_10 rfl ?_
  obtain ⟨x3, ex3, hf⟩ := tq_be hf
  refine tq_getI (M := mX4_addPath) (pc := 11) tk_c4 (by decide) dX4_addPath_11 tk_RX4_44 rfl ex3 ?_
  refine tq_iconst (M := mX4_addPath) (pc := 14) dX4_addPath_14 tk_ki_1 ?_
  refine tq_isub (M := mX4_addPath) (pc := 15) dX4_addPath_15 ?_
  refine tq_iret (M := mX4_addPath) (pc := 16) dX4_addPath_16 rfl ?_
  cases (Option.some.inj hf)
  exact hQ _ _ ⟨rfl, rfl⟩
abbrev mX4_addStep : tq_M := (RX4, cX4_addStep, 7, (some .int), false, [], none)
def f_X4_addStep (t : Nat) (a1 : Int32) (a2 : Int32) (a3 : Int32) (a4 : Int32) (h : tq_H) : Option (Int32 × tq_H) :=
  (tq_gr h t 4 0).bind fun k1 =>
  (tq_is h k1 5).bind fun _ =>
  (f_X5_get k1 a1 h).bind fun v2 =>
  (tq_is h t 4).bind fun _ =>
  (f_X4_stepAt t a1 v2 h).bind fun v4 =>
  (tq_gr h t 4 1).bind fun k6 =>
  (tq_is h k6 5).bind fun _ =>
  (f_X5_set k6 v4 a2 h).bind fun v7 =>
  (tq_gr v7 t 4 2).bind fun k9 =>
  (tq_is v7 k9 5).bind fun _ =>
  (f_X5_set k9 v4 a3 v7).bind fun v10 =>
  (tq_gr v10 t 4 3).bind fun k12 =>
  (tq_is v10 k12 5).bind fun _ =>
  (f_X5_set k12 v4 a4 v10).bind fun v13 =>
  (tq_gr v13 t 4 0).bind fun k15 =>
  (tq_is v13 k15 5).bind fun _ =>
  (f_X5_set k15 a1 (v2 + (1 : Int32)) v13).bind fun v16 =>
  some ((v2 + (1 : Int32)), v16)
set_option maxHeartbeats 4000000 in
set_option maxRecDepth 20000 in
theorem w_X4_addStep {l : Launch} {d : Nat} (hd9 : 1 ≤ d) {t : Nat} {a1 : Int32} {a2 : Int32} {a3 : Int32} {a4 : Int32} {h : tq_H} {o : Int32 × tq_H} {Q : tq_R → tq_H → Prop} (hf : f_X4_addStep t a1 a2 a3 a4 h = some o) (hQ : ∀ r h9, r = .inl (some (.int o.1)) ∧ o.2 = h9 → Q r h9) : tq_C l yX4_addStep cX4_addStep 7 (some .int) d 0 0 [.ref t, .int a1, .int a2, .int a3, .int a4] h Q := by
  refine tq_body (y := yX4_addStep) false (by decide +kernel) (fun z => by cases z) (Nat.le_of_ble_eq_true rfl) ?_
  show tq_W l mX4_addStep d 0 0 Q 0 [(0, .ref t), (1, .int a1), (2, .int a2), (3, .int a3), (4, .int a4)] [] h
  refine tq_aload_n (M := mX4_addStep) (pc := 0) dX4_addStep_0 rfl ?_
  obtain ⟨k1, ek1, hf⟩ := tq_be hf
  refine tq_getR (M := mX4_addStep) (pc := 1) tk_c4 (by decide) dX4_addStep_1 tk_RX4_14 rfl ek1 ?_
  refine tq_iload_n (M := mX4_addStep) (pc := 4) dX4_addStep_4 rfl ?_
  obtain ⟨⟨⟩, eu3, hf⟩ := tq_be hf
  obtain ⟨fsu3, eu3⟩ := tq_is_s eu3
  obtain ⟨v2, ev2, hf⟩ := tq_be hf
  refine tq_calV (M := mX4_addStep) (pc := 5) (S := []) tk_y_X5_get tk_v_X5_get tk_RX4_48 dX4_addStep_5 [.int a1] rfl (S0 := _) rfl eu3 rfl (Nat.le_of_ble_eq_true rfl) (d1 := d - 1) (b1 := 0) (s1 := 0) (bc' := 0) (bs' := 0) (Q1 := fun r h9 => r = .inl (some (.int v2)) ∧ h = h9) (by omega) rfl rfl (w_X5_get (by omega) ev2 (fun _ _ q => q)) (fun E h9 q => nomatch (show (Sum.inr E : tq_R) = Sum.inl _ from q.1)) (fun r9 h9 q => ?_)
  obtain ⟨q1, rfl⟩ := q
  cases (show (Sum.inl r9 : tq_R) = Sum.inl (some (.int v2)) from q1)
  refine tq_istore (M := mX4_addStep) (pc := 8) dX4_addStep_8 (L2 := [(5, .int v2), (0, .ref t), (1, .int a1), (2, .int a2), (3, .int a3), (4, .int a4)]) (by decide) rfl ?_
  refine tq_aload_n (M := mX4_addStep) (pc := 10) dX4_addStep_10 rfl ?_
  refine tq_iload_n (M := mX4_addStep) (pc := 11) dX4_addStep_11 rfl ?_
  refine tq_iload (M := mX4_addStep) (pc := 12) dX4_addStep_12 rfl ?_
  obtain ⟨⟨⟩, eu5, hf⟩ := tq_be hf
  obtain ⟨fsu5, eu5⟩ := tq_is_s eu5
  obtain ⟨v4, ev4, hf⟩ := tq_be hf
  refine tq_calV (M := mX4_addStep) (pc := 14) (S := []) tk_y_X4_stepAt tk_v_X4_stepAt tk_RX4_52 dX4_addStep_14 [.int a1, .int v2] rfl (S0 := _) rfl eu5 rfl (Nat.le_of_ble_eq_true rfl) (d1 := d - 1) (b1 := 0) (s1 := 0) (bc' := 0) (bs' := 0) (Q1 := fun r h9 => r = .inl (some (.int v4)) ∧ h = h9) (by omega) rfl rfl (w_X4_stepAt (by omega) ev4 (fun _ _ q => q)) (fun E h9 q => nomatch (show (Sum.inr E : tq_R) = Sum.inl _ from q.1)) (fun r9 h9 q => ?_)
  obtain ⟨q1, rfl⟩ := q
  cases (show (Sum.inl r9 : tq_R) = Sum.inl (some (.int v4)) from q1)
  refine tq_istore (M := mX4_addStep) (pc := 17) dX4_addStep_17 (L2 := [(6, .int v4), (5, .int v2), (0, .ref t), (1, .int a1), (2, .int a2), (3, .int a3), (4, .int a4)]) (by decide) rfl ?_
  refine tq_aload_n (M := mX4_addStep) (pc := 19) dX4_addStep_19 rfl ?_
  obtain ⟨k6, ek6, hf⟩ := tq_be hf
  refine tq_getR (M := mX4_addStep) (pc := 20) tk_c4 (by decide) dX4_addStep_20 tk_RX4_20 rfl ek6 ?_
  refine tq_iload (M := mX4_addStep) (pc := 23) dX4_addStep_23 rfl ?_
  refine tq_iload_n (M := mX4_addStep) (pc := 25) dX4_addStep_25 rfl ?_
  obtain ⟨⟨⟩, eu8, hf⟩ := tq_be hf
  obtain ⟨fsu8, eu8⟩ := tq_is_s eu8
  obtain ⟨v7, ev7, hf⟩ := tq_be hf
  refine tq_calV (M := mX4_addStep) (pc := 26) (S := []) tk_y_X5_set tk_v_X5_set tk_RX4_56 dX4_addStep_26 [.int v4, .int a2] rfl (S0 := _) rfl eu8 rfl (Nat.le_of_ble_eq_true rfl) (d1 := d - 1) (b1 := 0) (s1 := 0) (bc' := 0) (bs' := 0) (Q1 := fun r h9 => r = .inl none ∧ v7 = h9) (by omega) rfl rfl (w_X5_set (by omega) ev7 (fun _ _ q => q)) (fun E h9 q => nomatch (show (Sum.inr E : tq_R) = Sum.inl _ from q.1)) (fun r9 h9 q => ?_)
  obtain ⟨q1, rfl⟩ := q
  cases (show (Sum.inl r9 : tq_R) = Sum.inl (none) from q1)
  refine tq_aload_n (M := mX4_addStep) (pc := 29) dX4_addStep_29 rfl ?_
  obtain ⟨k9, ek9, hf⟩ := tq_be hf
  refine tq_getR (M := mX4_addStep) (pc := 30) tk_c4 (by decide) dX4_addStep_30 tk_RX4_23 rfl ek9 ?_
  refine tq_iload (M := mX4_addStep) (pc := 33) dX4_addStep_33 rfl ?_
  refine tq_iload_n (M := mX4_addStep) (pc := 35) dX4_addStep_35 rfl ?_
  obtain ⟨⟨⟩, eu11, hf⟩ := tq_be hf
  obtain ⟨fsu11, eu11⟩ := tq_is_s eu11
  obtain ⟨v10, ev10, hf⟩ := tq_be hf
  refine tq_calV (M := mX4_addStep) (pc := 36) (S := []) tk_y_X5_set tk_v_X5_set tk_RX4_56 dX4_addStep_36 [.int v4, .int a3] rfl (S0 := _) rfl eu11 rfl (Nat.le_of_ble_eq_true rfl) (d1 := d - 1) (b1 := 0) (s1 := 0) (bc' := 0) (bs' := 0) (Q1 := fun r h9 => r = .inl none ∧ v10 = h9) (by omega) rfl rfl (w_X5_set (by omega) ev10 (fun _ _ q => q)) (fun E h9 q => nomatch (show (Sum.inr E : tq_R) = Sum.inl _ from q.1)) (fun r9 h9 q => ?_)
  obtain ⟨q1, rfl⟩ := q
  cases (show (Sum.inl r9 : tq_R) = Sum.inl (none) from q1)
  refine tq_aload_n (M := mX4_addStep) (pc := 39) dX4_addStep_39 rfl ?_
  obtain ⟨k12, ek12, hf⟩ := tq_be hf
  refine tq_getR (M := mX4_addStep) (pc := 40) tk_c4 (by decide) dX4_addStep_40 tk_RX4_26 rfl ek12 ?_
  refine tq_iload (M := mX4_addStep) (pc := 43) dX4_addStep_43 rfl ?_
  refine tq_iload (M := mX4_addStep) (pc := 45) dX4_addStep_45 rfl ?_
  obtain ⟨⟨⟩, eu14, hf⟩ := tq_be hf
  obtain ⟨fsu14, eu14⟩ := tq_is_s eu14
  obtain ⟨v13, ev13, hf⟩ := tq_be hf
  refine tq_calV (M := mX4_addStep) (pc := 47) (S := []) tk_y_X5_set tk_v_X5_set tk_RX4_56 dX4_addStep_47 [.int v4, .int a4] rfl (S0 := _) rfl eu14 rfl (Nat.le_of_ble_eq_true rfl) (d1 := d - 1) (b1 := 0) (s1 := 0) (bc' := 0) (bs' := 0) (Q1 := fun r h9 => r = .inl none ∧ v13 = h9) (by omega) rfl rfl (w_X5_set (by omega) ev13 (fun _ _ q => q)) (fun E h9 q => nomatch (show (Sum.inr E : tq_R) = Sum.inl _ from q.1)) (fun r9 h9 q => ?_)
  obtain ⟨q1, rfl⟩ := q
  cases (show (Sum.inl r9 : tq_R) = Sum.inl (none) from q1)
  refine tq_aload_n (M := mX4_addStep) (pc := 50) dX4_addStep_50 rfl ?_
  obtain ⟨k15, ek15, hf⟩ := tq_be hf
  refine tq_getR (M := mX4_addStep) (pc := 51) tk_c4 (by decide) dX4_addStep_51 tk_RX4_14 rfl ek15 ?_
  refine tq_iload_n (M := mX4_addStep) (pc := 54) dX4_addStep_54 rfl ?_
  refine tq_iload (M := mX4_addStep) (pc := 55) dX4_addStep_55 rfl ?_
  refine tq_iconst (M := mX4_addStep) (pc := 57) dX4_addStep_57 tk_ki_1 ?_
  refine tq_iadd (M := mX4_addStep) (pc := 58) dX4_addStep_58 ?_
  obtain ⟨⟨⟩, eu17, hf⟩ := tq_be hf
  obtain ⟨fsu17, eu17⟩ := tq_is_s eu17
  obtain ⟨v16, ev16, hf⟩ := tq_be hf
  refine tq_calV (M := mX4_addStep) (pc := 59) (S := []) tk_y_X5_set tk_v_X5_set tk_RX4_56 dX4_addStep_59 [.int a1, .int ((v2 + (1 : Int32)))] rfl (S0 := _) rfl eu17 rfl (Nat.le_of_ble_eq_true rfl) (d1 := d - 1) (b1 := 0) (s1 := 0) (bc' := 0) (bs' := 0) (Q1 := fun r h9 => r = .inl none ∧ v16 = h9) (by omega) rfl rfl (w_X5_set (by omega) ev16 (fun _ _ q => q)) (fun E h9 q => nomatch (show (Sum.inr E : tq_R) = Sum.inl _ from q.1)) (fun r9 h9 q => ?_)
  obtain ⟨q1, rfl⟩ := q
  cases (show (Sum.inl r9 : tq_R) = Sum.inl (none) from q1)
  refine tq_iload (M := mX4_addStep) (pc := 62) dX4_addStep_62 rfl ?_
  refine tq_iconst (M := mX4_addStep) (pc := 64) dX4_addStep_64 tk_ki_1 ?_
  refine tq_iadd (M := mX4_addStep) (pc := 65) dX4_addStep_65 ?_
  refine tq_iret (M := mX4_addStep) (pc := 66) dX4_addStep_66 rfl ?_
  cases (Option.some.inj hf)
  exact hQ _ _ ⟨rfl, rfl⟩
abbrev mX4_addCondition : tq_M := (RX4, cX4_addCondition, 9, (some .int), false, [], none)
def f_X4_addCondition (t : Nat) (a1 : Int32) (a2 : Int32) (a3 : Int32) (a4 : Int32) (a5 : Int32) (h : tq_H) : Option (Int32 × tq_H) :=
  (tq_gr h t 4 0).bind fun k1 =>
  (tq_is h k1 5).bind fun _ =>
  (f_X5_get k1 a1 h).bind fun v2 =>
  (tq_is h t 4).bind fun _ =>
  (f_X4_stepAt t a1 (v2 - (1 : Int32)) h).bind fun v4 =>
  (tq_gr h t 4 4).bind fun k6 =>
  (tq_is h k6 5).bind fun _ =>
  (f_X5_get k6 v4 h).bind fun v7 =>
  (tq_is h t 4).bind fun _ =>
  (f_X4_conditionAt t v4 v7 h).bind fun v9 =>
  (tq_gr h t 4 5).bind fun k11 =>
  (tq_is h k11 5).bind fun _ =>
  (f_X5_set k11 v9 a2 h).bind fun v12 =>
  (tq_gr v12 t 4 6).bind fun k14 =>
  (tq_is v12 k14 5).bind fun _ =>
  (f_X5_set k14 v9 a3 v12).bind fun v15 =>
  (tq_gr v15 t 4 7).bind fun k17 =>
  (tq_is v15 k17 5).bind fun _ =>
  (f_X5_set k17 v9 a4 v15).bind fun v18 =>
  (tq_gr v18 t 4 8).bind fun k20 =>
  (tq_is v18 k20 5).bind fun _ =>
  (f_X5_set k20 v9 a5 v18).bind fun v21 =>
  (tq_gr v21 t 4 4).bind fun k23 =>
  (tq_is v21 k23 5).bind fun _ =>
  (f_X5_set k23 v4 (v7 + (1 : Int32)) v21).bind fun v24 =>
  some ((v7 + (1 : Int32)), v24)
set_option maxHeartbeats 4000000 in
set_option maxRecDepth 20000 in
theorem w_X4_addCondition {l : Launch} {d : Nat} (hd9 : 1 ≤ d) {t : Nat} {a1 : Int32} {a2 : Int32} {a3 : Int32} {a4 : Int32} {a5 : Int32} {h : tq_H} {o : Int32 × tq_H} {Q : tq_R → tq_H → Prop} (hf : f_X4_addCondition t a1 a2 a3 a4 a5 h = some o) (hQ : ∀ r h9, r = .inl (some (.int o.1)) ∧ o.2 = h9 → Q r h9) : tq_C l yX4_addCondition cX4_addCondition 9 (some .int) d 0 0 [.ref t, .int a1, .int a2, .int a3, .int a4, .int a5] h Q := by
  refine tq_body (y := yX4_addCondition) false (by decide +kernel) (fun z => by cases z) (Nat.le_of_ble_eq_true rfl) ?_
  show tq_W l mX4_addCondition d 0 0 Q 0 [(0, .ref t), (1, .int a1), (2, .int a2), (3, .int a3), (4, .int a4), (5, .int a5)] [] h
  refine tq_aload_n (M := mX4_addCondition) (pc := 0) dX4_addCondition_0 rfl ?_
  refine tq_iload_n (M := mX4_addCondition) (pc := 1) dX4_addCondition_1 rfl ?_
  refine tq_aload_n (M := mX4_addCondition) (pc := 2) dX4_addCondition_2 rfl ?_
  obtain ⟨k1, ek1, hf⟩ := tq_be hf
  refine tq_getR (M := mX4_addCondition) (pc := 3) tk_c4 (by decide) dX4_addCondition_3 tk_RX4_14 rfl ek1 ?_
  refine tq_iload_n (M := mX4_addCondition) (pc := 6) dX4_addCondition_6 rfl ?_
  obtain ⟨⟨⟩, eu3, hf⟩ := tq_be hf
  obtain ⟨fsu3, eu3⟩ := tq_is_s eu3
  obtain ⟨v2, ev2, hf⟩ := tq_be hf
  refine tq_calV (M := mX4_addCondition) (pc := 7) (S := [.int a1, .ref t]) tk_y_X5_get tk_v_X5_get tk_RX4_48 dX4_addCondition_7 [.int a1] rfl (S0 := _) rfl eu3 rfl (Nat.le_of_ble_eq_true rfl) (d1 := d - 1) (b1 := 0) (s1 := 0) (bc' := 0) (bs' := 0) (Q1 := fun r h9 => r = .inl (some (.int v2)) ∧ h = h9) (by omega) rfl rfl (w_X5_get (by omega) ev2 (fun _ _ q => q)) (fun E h9 q => nomatch (show (Sum.inr E : tq_R) = Sum.inl _ from q.1)) (fun r9 h9 q => ?_)
  obtain ⟨q1, rfl⟩ := q
  cases (show (Sum.inl r9 : tq_R) = Sum.inl (some (.int v2)) from q1)
  refine tq_iconst (M := mX4_addCondition) (pc := 10) dX4_addCondition_10 tk_ki_1 ?_
  refine tq_isub (M := mX4_addCondition) (pc := 11) dX4_addCondition_11 ?_
  obtain ⟨⟨⟩, eu5, hf⟩ := tq_be hf
  obtain ⟨fsu5, eu5⟩ := tq_is_s eu5
  obtain ⟨v4, ev4, hf⟩ := tq_be hf
  refine tq_calV (M := mX4_addCondition) (pc := 12) (S := []) tk_y_X4_stepAt tk_v_X4_stepAt tk_RX4_52 dX4_addCondition_12 [.int a1, .int ((v2 - (1 : Int32)))] rfl (S0 := _) rfl eu5 rfl (Nat.le_of_ble_eq_true rfl) (d1 := d - 1) (b1 := 0) (s1 := 0) (bc' := 0) (bs' := 0) (Q1 := fun r h9 => r = .inl (some (.int v4)) ∧ h = h9) (by omega) rfl rfl (w_X4_stepAt (by omega) ev4 (fun _ _ q => q)) (fun E h9 q => nomatch (show (Sum.inr E : tq_R) = Sum.inl _ from q.1)) (fun r9 h9 q => ?_)
  obtain ⟨q1, rfl⟩ := q
  cases (show (Sum.inl r9 : tq_R) = Sum.inl (some (.int v4)) from q1)
  refine tq_istore (M := mX4_addCondition) (pc := 15) dX4_addCondition_15 (L2 := [(6, .int v4), (0, .ref t), (1, .int a1), (2, .int a2), (3, .int a3), (4, .int a4), (5, .int a5)]) (by decide) rfl ?_
  refine tq_aload_n (M := mX4_addCondition) (pc := 17) dX4_addCondition_17 rfl ?_
  obtain ⟨k6, ek6, hf⟩ := tq_be hf
  refine tq_getR (M := mX4_addCondition) (pc := 18) tk_c4 (by decide) dX4_addCondition_18 tk_RX4_29 rfl ek6 ?_
  refine tq_iload (M := mX4_addCondition) (pc := 21) dX4_addCondition_21 rfl ?_
  obtain ⟨⟨⟩, eu8, hf⟩ := tq_be hf
  obtain ⟨fsu8, eu8⟩ := tq_is_s eu8
  obtain ⟨v7, ev7, hf⟩ := tq_be hf
  refine tq_calV (M := mX4_addCondition) (pc := 23) (S := []) tk_y_X5_get tk_v_X5_get tk_RX4_48 dX4_addCondition_23 [.int v4] rfl (S0 := _) rfl eu8 rfl (Nat.le_of_ble_eq_true rfl) (d1 := d - 1) (b1 := 0) (s1 := 0) (bc' := 0) (bs' := 0) (Q1 := fun r h9 => r = .inl (some (.int v7)) ∧ h = h9) (by omega) rfl rfl (w_X5_get (by omega) ev7 (fun _ _ q => q)) (fun E h9 q => nomatch (show (Sum.inr E : tq_R) = Sum.inl _ from q.1)) (fun r9 h9 q => ?_)
  obtain ⟨q1, rfl⟩ := q
  cases (show (Sum.inl r9 : tq_R) = Sum.inl (some (.int v7)) from q1)
  refine tq_istore (M := mX4_addCondition) (pc := 26) dX4_addCondition_26 (L2 := [(7, .int v7), (6, .int v4), (0, .ref t), (1, .int a1), (2, .int a2), (3, .int a3), (4, .int a4), (5, .int a5)]) (by decide) rfl ?_
  refine tq_aload_n (M := mX4_addCondition) (pc := 28) dX4_addCondition_28 rfl ?_
  refine tq_iload (M := mX4_addCondition) (pc := 29) dX4_addCondition_29 rfl ?_
  refine tq_iload (M := mX4_addCondition) (pc := 31) dX4_addCondition_31 rfl ?_
  obtain ⟨⟨⟩, eu10, hf⟩ := tq_be hf
  obtain ⟨fsu10, eu10⟩ := tq_is_s eu10
  obtain ⟨v9, ev9, hf⟩ := tq_be hf
  refine tq_calV (M := mX4_addCondition) (pc := 33) (S := []) tk_y_X4_conditionAt tk_v_X4_conditionAt tk_RX4_59 dX4_addCondition_33 [.int v4, .int v7] rfl (S0 := _) rfl eu10 rfl (Nat.le_of_ble_eq_true rfl) (d1 := d - 1) (b1 := 0) (s1 := 0) (bc' := 0) (bs' := 0) (Q1 := fun r h9 => r = .inl (some (.int v9)) ∧ h = h9) (by omega) rfl rfl (w_X4_conditionAt (by omega) ev9 (fun _ _ q => q)) (fun E h9 q => nomatch (show (Sum.inr E : tq_R) = Sum.inl _ from q.1)) (fun r9 h9 q => ?_)
  obtain ⟨q1, rfl⟩ := q
  cases (show (Sum.inl r9 : tq_R) = Sum.inl (some (.int v9)) from q1)
  refine tq_istore (M := mX4_addCondition) (pc := 36) dX4_addCondition_36 (L2 := [(8, .int v9), (7, .int v7), (6, .int v4), (0, .ref t), (1, .int a1), (2, .int a2), (3, .int a3), (4, .int a4), (5, .int a5)]) (by decide) rfl ?_
  refine tq_aload_n (M := mX4_addCondition) (pc := 38) dX4_addCondition_38 rfl ?_
  obtain ⟨k11, ek11, hf⟩ := tq_be hf
  refine tq_getR (M := mX4_addCondition) (pc := 39) tk_c4 (by decide) dX4_addCondition_39 tk_RX4_32 rfl ek11 ?_
  refine tq_iload (M := mX4_addCondition) (pc := 42) dX4_addCondition_42 rfl ?_
  refine tq_iload_n (M := mX4_addCondition) (pc := 44) dX4_addCondition_44 rfl ?_
  obtain ⟨⟨⟩, eu13, hf⟩ := tq_be hf
  obtain ⟨fsu13, eu13⟩ := tq_is_s eu13
  obtain ⟨v12, ev12, hf⟩ := tq_be hf
  refine tq_calV (M := mX4_addCondition) (pc := 45) (S := []) tk_y_X5_set tk_v_X5_set tk_RX4_56 dX4_addCondition_45 [.int v9, .int a2] rfl (S0 := _) rfl eu13 rfl (Nat.le_of_ble_eq_true rfl) (d1 := d - 1) (b1 := 0) (s1 := 0) (bc' := 0) (bs' := 0) (Q1 := fun r h9 => r = .inl none ∧ v12 = h9) (by omega) rfl rfl (w_X5_set (by omega) ev12 (fun _ _ q => q)) (fun E h9 q => nomatch (show (Sum.inr E : tq_R) = Sum.inl _ from q.1)) (fun r9 h9 q => ?_)
  obtain ⟨q1, rfl⟩ := q
  cases (show (Sum.inl r9 : tq_R) = Sum.inl (none) from q1)
  refine tq_aload_n (M := mX4_addCondition) (pc := 48) dX4_addCondition_48 rfl ?_
  obtain ⟨k14, ek14, hf⟩ := tq_be hf
  refine tq_getR (M := mX4_addCondition) (pc := 49) tk_c4 (by decide) dX4_addCondition_49 tk_RX4_35 rfl ek14 ?_
  refine tq_iload (M := mX4_addCondition) (pc := 52) dX4_addCondition_52 rfl ?_
  refine tq_iload_n (M := mX4_addCondition) (pc := 54) dX4_addCondition_54 rfl ?_
  obtain ⟨⟨⟩, eu16, hf⟩ := tq_be hf
  obtain ⟨fsu16, eu16⟩ := tq_is_s eu16
  obtain ⟨v15, ev15, hf⟩ := tq_be hf
  refine tq_calV (M := mX4_addCondition) (pc := 55) (S := []) tk_y_X5_set tk_v_X5_set tk_RX4_56 dX4_addCondition_55 [.int v9, .int a3] rfl (S0 := _) rfl eu16 rfl (Nat.le_of_ble_eq_true rfl) (d1 := d - 1) (b1 := 0) (s1 := 0) (bc' := 0) (bs' := 0) (Q1 := fun r h9 => r = .inl none ∧ v15 = h9) (by omega) rfl rfl (w_X5_set (by omega) ev15 (fun _ _ q => q)) (fun E h9 q => nomatch (show (Sum.inr E : tq_R) = Sum.inl _ from q.1)) (fun r9 h9 q => ?_)
  obtain ⟨q1, rfl⟩ := q
  cases (show (Sum.inl r9 : tq_R) = Sum.inl (none) from q1)
  refine tq_aload_n (M := mX4_addCondition) (pc := 58) dX4_addCondition_58 rfl ?_
  obtain ⟨k17, ek17, hf⟩ := tq_be hf
  refine tq_getR (M := mX4_addCondition) (pc := 59) tk_c4 (by decide) dX4_addCondition_59 tk_RX4_38 rfl ek17 ?_
  refine tq_iload (M := mX4_addCondition) (pc := 62) dX4_addCondition_62 rfl ?_
  refine tq_iload (M := mX4_addCondition) (pc := 64) dX4_addCondition_64 rfl ?_
  obtain ⟨⟨⟩, eu19, hf⟩ := tq_be hf
  obtain ⟨fsu19, eu19⟩ := tq_is_s eu19
  obtain ⟨v18, ev18, hf⟩ := tq_be hf
  refine tq_calV (M := mX4_addCondition) (pc := 66) (S := []) tk_y_X5_set tk_v_X5_set tk_RX4_56 dX4_addCondition_66 [.int v9, .int a4] rfl (S0 := _) rfl eu19 rfl (Nat.le_of_ble_eq_true rfl) (d1 := d - 1) (b1 := 0) (s1 := 0) (bc' := 0) (bs' := 0) (Q1 := fun r h9 => r = .inl none ∧ v18 = h9) (by omega) rfl rfl (w_X5_set (by omega) ev18 (fun _ _ q => q)) (fun E h9 q => nomatch (show (Sum.inr E : tq_R) = Sum.inl _ from q.1)) (fun r9 h9 q => ?_)
  obtain ⟨q1, rfl⟩ := q
  cases (show (Sum.inl r9 : tq_R) = Sum.inl (none) from q1)
  refine tq_aload_n (M := mX4_addCondition) (pc := 69) dX4_addCondition_69 rfl ?_
  obtain ⟨k20, ek20, hf⟩ := tq_be hf
  refine tq_getR (M := mX4_addCondition) (pc := 70) tk_c4 (by decide) dX4_addCondition_70 tk_RX4_41 rfl ek20 ?_
  refine tq_iload (M := mX4_addCondition) (pc := 73) dX4_addCondition_73 rfl ?_
  refine tq_iload (M := mX4_addCondition) (pc := 75) dX4_addCondition_75 rfl ?_
  obtain ⟨⟨⟩, eu22, hf⟩ := tq_be hf
  obtain ⟨fsu22, eu22⟩ := tq_is_s eu22
  obtain ⟨v21, ev21, hf⟩ := tq_be hf
  refine tq_calV (M := mX4_addCondition) (pc := 77) (S := []) tk_y_X5_set tk_v_X5_set tk_RX4_56 dX4_addCondition_77 [.int v9, .int a5] rfl (S0 := _) rfl eu22 rfl (Nat.le_of_ble_eq_true rfl) (d1 := d - 1) (b1 := 0) (s1 := 0) (bc' := 0) (bs' := 0) (Q1 := fun r h9 => r = .inl none ∧ v21 = h9) (by omega) rfl rfl (w_X5_set (by omega) ev21 (fun _ _ q => q)) (fun E h9 q => nomatch (show (Sum.inr E : tq_R) = Sum.inl _ from q.1)) (fun r9 h9 q => ?_)
  obtain ⟨q1, rfl⟩ := q
  cases (show (Sum.inl r9 : tq_R) = Sum.inl (none) from q1)
  refine tq_aload_n (M := mX4_addCondition) (pc := 80) dX4_addCondition_80 rfl ?_
  obtain ⟨k23, ek23, hf⟩ := tq_be hf
  refine tq_getR (M := mX4_addCondition) (pc := 81) tk_c4 (by decide) dX4_addCondition_81 tk_RX4_29 rfl ek23 ?_
  refine tq_iload (M := mX4_addCondition) (pc := 84) dX4_addCondition_84 rfl ?_
  refine tq_iload (M := mX4_addCondition) (pc := 86) dX4_addCondition_86 rfl ?_
  refine tq_iconst (M := mX4_addCondition) (pc := 88) dX4_addCondition_88 tk_ki_1 ?_
  refine tq_iadd (M := mX4_addCondition) (pc := 89) dX4_addCondition_89 ?_
  obtain ⟨⟨⟩, eu25, hf⟩ := tq_be hf
  obtain ⟨fsu25, eu25⟩ := tq_is_s eu25
  obtain ⟨v24, ev24, hf⟩ := tq_be hf
  refine tq_calV (M := mX4_addCondition) (pc := 90) (S := []) tk_y_X5_set tk_v_X5_set tk_RX4_56 dX4_addCondition_90 [.int v4, .int ((v7 + (1 : Int32)))] rfl (S0 := _) rfl eu25 rfl (Nat.le_of_ble_eq_true rfl) (d1 := d - 1) (b1 := 0) (s1 := 0) (bc' := 0) (bs' := 0) (Q1 := fun r h9 => r = .inl none ∧ v24 = h9) (by omega) rfl rfl (w_X5_set (by omega) ev24 (fun _ _ q => q)) (fun E h9 q => nomatch (show (Sum.inr E : tq_R) = Sum.inl _ from q.1)) (fun r9 h9 q => ?_)
  obtain ⟨q1, rfl⟩ := q
  cases (show (Sum.inl r9 : tq_R) = Sum.inl (none) from q1)
  refine tq_iload (M := mX4_addCondition) (pc := 93) dX4_addCondition_93 rfl ?_
  refine tq_iconst (M := mX4_addCondition) (pc := 95) dX4_addCondition_95 tk_ki_1 ?_
  refine tq_iadd (M := mX4_addCondition) (pc := 96) dX4_addCondition_96 ?_
  refine tq_iret (M := mX4_addCondition) (pc := 97) dX4_addCondition_97 rfl ?_
  cases (Option.some.inj hf)
  exact hQ _ _ ⟨rfl, rfl⟩
abbrev mX4_conditionsOfLast : tq_M := (RX4, cX4_conditionsOfLast, 2, (some .int), false, [], none)
def f_X4_conditionsOfLast (t : Nat) (a1 : Int32) (h : tq_H) : Option (Int32) :=
  (tq_gr h t 4 4).bind fun k1 =>
  (tq_gr h t 4 0).bind fun k2 =>
  (tq_is h k2 5).bind fun _ =>
  (f_X5_get k2 a1 h).bind fun v3 =>
  (tq_is h t 4).bind fun _ =>
  (f_X4_stepAt t a1 (v3 - (1 : Int32)) h).bind fun v5 =>
  (tq_is h k1 5).bind fun _ =>
  (f_X5_get k1 v5 h).bind fun v7 =>
  some v7
set_option maxHeartbeats 4000000 in
set_option maxRecDepth 20000 in
theorem w_X4_conditionsOfLast {l : Launch} {d : Nat} (hd9 : 1 ≤ d) {t : Nat} {a1 : Int32} {h : tq_H} {o : Int32} {Q : tq_R → tq_H → Prop} (hf : f_X4_conditionsOfLast t a1 h = some o) (hQ : ∀ r h9, r = .inl (some (.int o)) ∧ h = h9 → Q r h9) : tq_C l yX4_conditionsOfLast cX4_conditionsOfLast 2 (some .int) d 0 0 [.ref t, .int a1] h Q := by
  refine tq_body (y := yX4_conditionsOfLast) false (by decide +kernel) (fun z => by cases z) (Nat.le_of_ble_eq_true rfl) ?_
  show tq_W l mX4_conditionsOfLast d 0 0 Q 0 [(0, .ref t), (1, .int a1)] [] h
  refine tq_aload_n (M := mX4_conditionsOfLast) (pc := 0) dX4_conditionsOfLast_0 rfl ?_
  obtain ⟨k1, ek1, hf⟩ := tq_be hf
  refine tq_getR (M := mX4_conditionsOfLast) (pc := 1) tk_c4 (by decide) dX4_conditionsOfLast_1 tk_RX4_29 rfl ek1 ?_
  refine tq_aload_n (M := mX4_conditionsOfLast) (pc := 4) dX4_conditionsOfLast_4 rfl ?_
  refine tq_iload_n (M := mX4_conditionsOfLast) (pc := 5) dX4_conditionsOfLast_5 rfl ?_
  refine tq_aload_n (M := mX4_conditionsOfLast) (pc := 6) dX4_conditionsOfLast_6 rfl ?_
  obtain ⟨k2, ek2, hf⟩ := tq_be hf
  refine tq_getR (M := mX4_conditionsOfLast) (pc := 7) tk_c4 (by decide) dX4_conditionsOfLast_7 tk_RX4_14 rfl ek2 ?_
  refine tq_iload_n (M := mX4_conditionsOfLast) (pc := 10) dX4_conditionsOfLast_10 rfl ?_
  obtain ⟨⟨⟩, eu4, hf⟩ := tq_be hf
  obtain ⟨fsu4, eu4⟩ := tq_is_s eu4
  obtain ⟨v3, ev3, hf⟩ := tq_be hf
  refine tq_calV (M := mX4_conditionsOfLast) (pc := 11) (S := [.int a1, .ref t, .ref k1]) tk_y_X5_get tk_v_X5_get tk_RX4_48 dX4_conditionsOfLast_11 [.int a1] rfl (S0 := _) rfl eu4 rfl (Nat.le_of_ble_eq_true rfl) (d1 := d - 1) (b1 := 0) (s1 := 0) (bc' := 0) (bs' := 0) (Q1 := fun r h9 => r = .inl (some (.int v3)) ∧ h = h9) (by omega) rfl rfl (w_X5_get (by omega) ev3 (fun _ _ q => q)) (fun E h9 q => nomatch (show (Sum.inr E : tq_R) = Sum.inl _ from q.1)) (fun r9 h9 q => ?_)
  obtain ⟨q1, rfl⟩ := q
  cases (show (Sum.inl r9 : tq_R) = Sum.inl (some (.int v3)) from q1)
  refine tq_iconst (M := mX4_conditionsOfLast) (pc := 14) dX4_conditionsOfLast_14 tk_ki_1 ?_
  refine tq_isub (M := mX4_conditionsOfLast) (pc := 15) dX4_conditionsOfLast_15 ?_
  obtain ⟨⟨⟩, eu6, hf⟩ := tq_be hf
  obtain ⟨fsu6, eu6⟩ := tq_is_s eu6
  obtain ⟨v5, ev5, hf⟩ := tq_be hf
  refine tq_calV (M := mX4_conditionsOfLast) (pc := 16) (S := [.ref k1]) tk_y_X4_stepAt tk_v_X4_stepAt tk_RX4_52 dX4_conditionsOfLast_16 [.int a1, .int ((v3 - (1 : Int32)))] rfl (S0 := _) rfl eu6 rfl (Nat.le_of_ble_eq_true rfl) (d1 := d - 1) (b1 := 0) (s1 := 0) (bc' := 0) (bs' := 0) (Q1 := fun r h9 => r = .inl (some (.int v5)) ∧ h = h9) (by omega) rfl rfl (w_X4_stepAt (by omega) ev5 (fun _ _ q => q)) (fun E h9 q => nomatch (show (Sum.inr E : tq_R) = Sum.inl _ from q.1)) (fun r9 h9 q => ?_)
  obtain ⟨q1, rfl⟩ := q
  cases (show (Sum.inl r9 : tq_R) = Sum.inl (some (.int v5)) from q1)
  obtain ⟨⟨⟩, eu8, hf⟩ := tq_be hf
  obtain ⟨fsu8, eu8⟩ := tq_is_s eu8
  obtain ⟨v7, ev7, hf⟩ := tq_be hf
  refine tq_calV (M := mX4_conditionsOfLast) (pc := 19) (S := []) tk_y_X5_get tk_v_X5_get tk_RX4_48 dX4_conditionsOfLast_19 [.int v5] rfl (S0 := _) rfl eu8 rfl (Nat.le_of_ble_eq_true rfl) (d1 := d - 1) (b1 := 0) (s1 := 0) (bc' := 0) (bs' := 0) (Q1 := fun r h9 => r = .inl (some (.int v7)) ∧ h = h9) (by omega) rfl rfl (w_X5_get (by omega) ev7 (fun _ _ q => q)) (fun E h9 q => nomatch (show (Sum.inr E : tq_R) = Sum.inl _ from q.1)) (fun r9 h9 q => ?_)
  obtain ⟨q1, rfl⟩ := q
  cases (show (Sum.inl r9 : tq_R) = Sum.inl (some (.int v7)) from q1)
  refine tq_iret (M := mX4_conditionsOfLast) (pc := 22) dX4_conditionsOfLast_22 rfl ?_
  cases (Option.some.inj hf)
  exact hQ _ _ ⟨rfl, rfl⟩
abbrev mX4_nameBelow : tq_M := (RX4, cX4_nameBelow, 4, (some .int), false, [], none)
def f_X4_nameBelow (t : Nat) (a1 : Int32) (h : tq_H) : Option (Int32) :=
  (tq_is h t 4).bind fun _ =>
  (f_X4_stepAt t a1 (0 : Int32) h).bind fun v1 =>
  (tq_gr h t 4 0).bind fun k3 =>
  (tq_is h k3 5).bind fun _ =>
  (f_X5_get k3 a1 h).bind fun v4 =>
  (if v4 ≤ 0 then
    some (0 : Int32)
  else
    (tq_gr h t 4 1).bind fun k6 =>
    (tq_is h k6 5).bind fun _ =>
    (f_X5_get k6 v1 h).bind fun v7 =>
    if v7 = (3 : Int32) then
      (tq_gr h t 4 2).bind fun k9 =>
      (tq_is h k9 5).bind fun _ =>
      (f_X5_get k9 v1 h).bind fun v10 =>
      if v10 ≥ (8 : Int32) then
        some (0 : Int32)
      else
        some (1 : Int32)
    else
      some (0 : Int32)).bind fun p12 =>
  (if p12 = 0 then
    some (-1 : Int32)
  else
    (tq_gr h t 4 2).bind fun k13 =>
    (tq_is h k13 5).bind fun _ =>
    (f_X5_get k13 v1 h).bind fun v14 =>
    some v14).bind fun p16 =>
  some p16
set_option maxHeartbeats 4000000 in
set_option maxRecDepth 20000 in
theorem w_X4_nameBelow {l : Launch} {d : Nat} (hd9 : 1 ≤ d) {t : Nat} {a1 : Int32} {h : tq_H} {o : Int32} {Q : tq_R → tq_H → Prop} (hf : f_X4_nameBelow t a1 h = some o) (hQ : ∀ r h9, r = .inl (some (.int o)) ∧ h = h9 → Q r h9) : tq_C l yX4_nameBelow cX4_nameBelow 4 (some .int) d 0 0 [.ref t, .int a1] h Q := by
  refine tq_body (y := yX4_nameBelow) false (by decide +kernel) (fun z => by cases z) (Nat.le_of_ble_eq_true rfl) ?_
  show tq_W l mX4_nameBelow d 0 0 Q 0 [(0, .ref t), (1, .int a1)] [] h
  refine tq_aload_n (M := mX4_nameBelow) (pc := 0) dX4_nameBelow_0 rfl ?_
  refine tq_iload_n (M := mX4_nameBelow) (pc := 1) dX4_nameBelow_1 rfl ?_
  refine tq_iconst (M := mX4_nameBelow) (pc := 2) dX4_nameBelow_2 tk_ki_0 ?_
  obtain ⟨⟨⟩, eu2, hf⟩ := tq_be hf
  obtain ⟨fsu2, eu2⟩ := tq_is_s eu2
  obtain ⟨v1, ev1, hf⟩ := tq_be hf
  refine tq_calV (M := mX4_nameBelow) (pc := 3) (S := []) tk_y_X4_stepAt tk_v_X4_stepAt tk_RX4_52 dX4_nameBelow_3 [.int a1, .int (0 : Int32)] rfl (S0 := _) rfl eu2 rfl (Nat.le_of_ble_eq_true rfl) (d1 := d - 1) (b1 := 0) (s1 := 0) (bc' := 0) (bs' := 0) (Q1 := fun r h9 => r = .inl (some (.int v1)) ∧ h = h9) (by omega) rfl rfl (w_X4_stepAt (by omega) ev1 (fun _ _ q => q)) (fun E h9 q => nomatch (show (Sum.inr E : tq_R) = Sum.inl _ from q.1)) (fun r9 h9 q => ?_)
  obtain ⟨q1, rfl⟩ := q
  cases (show (Sum.inl r9 : tq_R) = Sum.inl (some (.int v1)) from q1)
  refine tq_istore_n (M := mX4_nameBelow) (pc := 6) rfl dX4_nameBelow_6 (L2 := [(2, .int v1), (0, .ref t), (1, .int a1)]) (by decide) rfl ?_
  refine tq_aload_n (M := mX4_nameBelow) (pc := 7) dX4_nameBelow_7 rfl ?_
  obtain ⟨k3, ek3, hf⟩ := tq_be hf
  refine tq_getR (M := mX4_nameBelow) (pc := 8) tk_c4 (by decide) dX4_nameBelow_8 tk_RX4_14 rfl ek3 ?_
  refine tq_iload_n (M := mX4_nameBelow) (pc := 11) dX4_nameBelow_11 rfl ?_
  obtain ⟨⟨⟩, eu5, hf⟩ := tq_be hf
  obtain ⟨fsu5, eu5⟩ := tq_is_s eu5
  obtain ⟨v4, ev4, hf⟩ := tq_be hf
  refine tq_calV (M := mX4_nameBelow) (pc := 12) (S := []) tk_y_X5_get tk_v_X5_get tk_RX4_48 dX4_nameBelow_12 [.int a1] rfl (S0 := _) rfl eu5 rfl (Nat.le_of_ble_eq_true rfl) (d1 := d - 1) (b1 := 0) (s1 := 0) (bc' := 0) (bs' := 0) (Q1 := fun r h9 => r = .inl (some (.int v4)) ∧ h = h9) (by omega) rfl rfl (w_X5_get (by omega) ev4 (fun _ _ q => q)) (fun E h9 q => nomatch (show (Sum.inr E : tq_R) = Sum.inl _ from q.1)) (fun r9 h9 q => ?_)
  obtain ⟨q1, rfl⟩ := q
  cases (show (Sum.inl r9 : tq_R) = Sum.inl (some (.int v4)) from q1)
  obtain ⟨p12, ep12, hf⟩ := tq_be hf
  have HJ15 : tq_W l mX4_nameBelow d 0 0 Q 48 [(0, .ref t), (2, .int v1)] [.int p12] h := by
    refine tq_istore_n (M := mX4_nameBelow) (pc := 48) rfl dX4_nameBelow_48 (L2 := [(3, .int p12), (0, .ref t), (2, .int v1)]) (by decide) rfl ?_
    refine tq_iload_n (M := mX4_nameBelow) (pc := 49) dX4_nameBelow_49 rfl ?_
    obtain ⟨p16, ep16, hf⟩ := tq_be hf
    have HJ50 : tq_W l mX4_nameBelow d 0 0 Q 65 [] [.int p16] h := by
      refine tq_iret (M := mX4_nameBelow) (pc := 65) dX4_nameBelow_65 rfl ?_
      cases (Option.some.inj hf)
      exact hQ _ _ ⟨rfl, rfl⟩
    refine tq_if_eq (M := mX4_nameBelow) (pc := 50) (tgt := 64) dX4_nameBelow_50 (by decide) (fun cc => ?_) (fun cc => ?_)
    · have hf := tq_ifp ep16 cc
      refine tq_iconst (M := mX4_nameBelow) (pc := 64) dX4_nameBelow_64 tk_ki_m1 ?_
      refine tq_pick (L2 := []) [] rfl ?_
      cases (Option.some.inj hf)
      exact HJ50
    · have hf := tq_ifn ep16 cc
      refine tq_aload_n (M := mX4_nameBelow) (pc := 53) dX4_nameBelow_53 rfl ?_
      obtain ⟨k13, ek13, hf⟩ := tq_be hf
      refine tq_getR (M := mX4_nameBelow) (pc := 54) tk_c4 (by decide) dX4_nameBelow_54 tk_RX4_23 rfl ek13 ?_
      refine tq_iload_n (M := mX4_nameBelow) (pc := 57) dX4_nameBelow_57 rfl ?_
      obtain ⟨⟨⟩, eu15, hf⟩ := tq_be hf
      obtain ⟨fsu15, eu15⟩ := tq_is_s eu15
      obtain ⟨v14, ev14, hf⟩ := tq_be hf
      refine tq_calV (M := mX4_nameBelow) (pc := 58) (S := []) tk_y_X5_get tk_v_X5_get tk_RX4_48 dX4_nameBelow_58 [.int v1] rfl (S0 := _) rfl eu15 rfl (Nat.le_of_ble_eq_true rfl) (d1 := d - 1) (b1 := 0) (s1 := 0) (bc' := 0) (bs' := 0) (Q1 := fun r h9 => r = .inl (some (.int v14)) ∧ h = h9) (by omega) rfl rfl (w_X5_get (by omega) ev14 (fun _ _ q => q)) (fun E h9 q => nomatch (show (Sum.inr E : tq_R) = Sum.inl _ from q.1)) (fun r9 h9 q => ?_)
      obtain ⟨q1, rfl⟩ := q
      cases (show (Sum.inl r9 : tq_R) = Sum.inl (some (.int v14)) from q1)
      refine tq_goto (M := mX4_nameBelow) (pc := 61) (tgt := 65) dX4_nameBelow_61 (by decide) ?_
      refine tq_pick (L2 := []) [] rfl ?_
      cases (Option.some.inj hf)
      exact HJ50
  refine tq_if_le (M := mX4_nameBelow) (pc := 15) (tgt := 47) dX4_nameBelow_15 (by decide) (fun cc => ?_) (fun cc => ?_)
  · have hf := tq_ifp ep12 cc
    refine tq_iconst (M := mX4_nameBelow) (pc := 47) dX4_nameBelow_47 tk_ki_0 ?_
    refine tq_pick (L2 := [(0, .ref t), (2, .int v1)]) [1, 0] rfl ?_
    cases (Option.some.inj hf)
    exact HJ15
  · have hf := tq_ifn ep12 cc
    refine tq_aload_n (M := mX4_nameBelow) (pc := 18) dX4_nameBelow_18 rfl ?_
    obtain ⟨k6, ek6, hf⟩ := tq_be hf
    refine tq_getR (M := mX4_nameBelow) (pc := 19) tk_c4 (by decide) dX4_nameBelow_19 tk_RX4_20 rfl ek6 ?_
    refine tq_iload_n (M := mX4_nameBelow) (pc := 22) dX4_nameBelow_22 rfl ?_
    obtain ⟨⟨⟩, eu8, hf⟩ := tq_be hf
    obtain ⟨fsu8, eu8⟩ := tq_is_s eu8
    obtain ⟨v7, ev7, hf⟩ := tq_be hf
    refine tq_calV (M := mX4_nameBelow) (pc := 23) (S := []) tk_y_X5_get tk_v_X5_get tk_RX4_48 dX4_nameBelow_23 [.int v1] rfl (S0 := _) rfl eu8 rfl (Nat.le_of_ble_eq_true rfl) (d1 := d - 1) (b1 := 0) (s1 := 0) (bc' := 0) (bs' := 0) (Q1 := fun r h9 => r = .inl (some (.int v7)) ∧ h = h9) (by omega) rfl rfl (w_X5_get (by omega) ev7 (fun _ _ q => q)) (fun E h9 q => nomatch (show (Sum.inr E : tq_R) = Sum.inl _ from q.1)) (fun r9 h9 q => ?_)
    obtain ⟨q1, rfl⟩ := q
    cases (show (Sum.inl r9 : tq_R) = Sum.inl (some (.int v7)) from q1)
    refine tq_iconst (M := mX4_nameBelow) (pc := 26) dX4_nameBelow_26 tk_ki_3 ?_
    refine tq_icmp_ne (M := mX4_nameBelow) (pc := 27) (tgt := 47) dX4_nameBelow_27 (by decide) (fun cc => ?_) (fun cc => ?_)
    · have hf := tq_ifn hf cc
      refine tq_iconst (M := mX4_nameBelow) (pc := 47) dX4_nameBelow_47 tk_ki_0 ?_
      refine tq_pick (L2 := [(0, .ref t), (2, .int v1)]) [1, 0] rfl ?_
      cases (Option.some.inj hf)
      exact HJ15
    · have hf := tq_ifp hf cc
      refine tq_aload_n (M := mX4_nameBelow) (pc := 30) dX4_nameBelow_30 rfl ?_
      obtain ⟨k9, ek9, hf⟩ := tq_be hf
      refine tq_getR (M := mX4_nameBelow) (pc := 31) tk_c4 (by decide) dX4_nameBelow_31 tk_RX4_23 rfl ek9 ?_
      refine tq_iload_n (M := mX4_nameBelow) (pc := 34) dX4_nameBelow_34 rfl ?_
      obtain ⟨⟨⟩, eu11, hf⟩ := tq_be hf
      obtain ⟨fsu11, eu11⟩ := tq_is_s eu11
      obtain ⟨v10, ev10, hf⟩ := tq_be hf
      refine tq_calV (M := mX4_nameBelow) (pc := 35) (S := []) tk_y_X5_get tk_v_X5_get tk_RX4_48 dX4_nameBelow_35 [.int v1] rfl (S0 := _) rfl eu11 rfl (Nat.le_of_ble_eq_true rfl) (d1 := d - 1) (b1 := 0) (s1 := 0) (bc' := 0) (bs' := 0) (Q1 := fun r h9 => r = .inl (some (.int v10)) ∧ h = h9) (by omega) rfl rfl (w_X5_get (by omega) ev10 (fun _ _ q => q)) (fun E h9 q => nomatch (show (Sum.inr E : tq_R) = Sum.inl _ from q.1)) (fun r9 h9 q => ?_)
      obtain ⟨q1, rfl⟩ := q
      cases (show (Sum.inl r9 : tq_R) = Sum.inl (some (.int v10)) from q1)
      refine tq_bipush (M := mX4_nameBelow) (pc := 38) dX4_nameBelow_38 tk_kb_8 ?_
      refine tq_icmp_ge (M := mX4_nameBelow) (pc := 40) (tgt := 47) dX4_nameBelow_40 (by decide) (fun cc => ?_) (fun cc => ?_)
      · have hf := tq_ifp hf cc
        refine tq_iconst (M := mX4_nameBelow) (pc := 47) dX4_nameBelow_47 tk_ki_0 ?_
        refine tq_pick (L2 := [(0, .ref t), (2, .int v1)]) [1, 0] rfl ?_
        cases (Option.some.inj hf)
        exact HJ15
      · have hf := tq_ifn hf cc
        refine tq_iconst (M := mX4_nameBelow) (pc := 43) dX4_nameBelow_43 tk_ki_1 ?_
        refine tq_goto (M := mX4_nameBelow) (pc := 44) (tgt := 48) dX4_nameBelow_44 (by decide) ?_
        refine tq_pick (L2 := [(0, .ref t), (2, .int v1)]) [1, 0] rfl ?_
        cases (Option.some.inj hf)
        exact HJ15
abbrev mX4_goesDown : tq_M := (RX4, cX4_goesDown, 1, (some .boolean), false, [], none)
def f_X4_goesDown (a0 : Int32) (h : tq_H) : Option (Int32) :=
  tq_let (if a0 = 0 then (1 : Int32) else (if a0 = (1 : Int32) then (1 : Int32) else if a0 = (3 : Int32) then (1 : Int32) else if a0 = (4 : Int32) then (1 : Int32) else if a0 = (11 : Int32) then (1 : Int32) else (0 : Int32))) fun p1 =>
  (tq_bz p1).bind fun z2 =>
  some z2
set_option maxHeartbeats 4000000 in
set_option maxRecDepth 20000 in
theorem w_X4_goesDown {l : Launch} {d : Nat} (hd9 : 0 ≤ d) {a0 : Int32} {h : tq_H} {o : Int32} {Q : tq_R → tq_H → Prop} (hf : f_X4_goesDown a0 h = some o) (hQ : ∀ r h9, r = .inl (some (.int o)) ∧ h = h9 → Q r h9) : tq_C l yX4_goesDown cX4_goesDown 1 (some .boolean) d 0 0 [.int a0] h Q := by
  refine tq_body (y := yX4_goesDown) false (by decide +kernel) (fun z => by cases z) (Nat.le_of_ble_eq_true rfl) ?_
  show tq_W l mX4_goesDown d 0 0 Q 0 [(0, .int a0)] [] h
  refine tq_iload_n (M := mX4_goesDown) (pc := 0) dX4_goesDown_0 rfl ?_
  obtain ⟨p1, ep1, hf⟩ := tq_le hf
  have HJ1 : tq_W l mX4_goesDown d 0 0 Q 30 [] [.int p1] h := by
    obtain ⟨z2, ez2, hf⟩ := tq_be hf
    refine tq_zretB (M := mX4_goesDown) (pc := 30) dX4_goesDown_30 rfl ez2 ?_
    cases (Option.some.inj hf)
    exact hQ _ _ ⟨rfl, rfl⟩
  refine tq_if_eq (M := mX4_goesDown) (pc := 1) (tgt := 25) dX4_goesDown_1 (by decide) (fun cc => ?_) (fun cc => ?_)
  · have hf := tq_ifp ep1.symm cc
    refine tq_iconst (M := mX4_goesDown) (pc := 25) dX4_goesDown_25 tk_ki_1 ?_
    refine tq_goto (M := mX4_goesDown) (pc := 26) (tgt := 30) dX4_goesDown_26 (by decide) ?_
    refine tq_pick (L2 := []) [] rfl ?_
    cases hf
    exact HJ1
  · have hf := tq_ifn ep1.symm cc
    refine tq_iload_n (M := mX4_goesDown) (pc := 4) dX4_goesDown_4 rfl ?_
    refine tq_iconst (M := mX4_goesDown) (pc := 5) dX4_goesDown_5 tk_ki_1 ?_
    refine tq_icmp_eq (M := mX4_goesDown) (pc := 6) (tgt := 25) dX4_goesDown_6 (by decide) (fun cc => ?_) (fun cc => ?_)
    · have hf := tq_ifp hf cc
      refine tq_iconst (M := mX4_goesDown) (pc := 25) dX4_goesDown_25 tk_ki_1 ?_
      refine tq_goto (M := mX4_goesDown) (pc := 26) (tgt := 30) dX4_goesDown_26 (by decide) ?_
      refine tq_pick (L2 := []) [] rfl ?_
      cases hf
      exact HJ1
    · have hf := tq_ifn hf cc
      refine tq_iload_n (M := mX4_goesDown) (pc := 9) dX4_goesDown_9 rfl ?_
      refine tq_iconst (M := mX4_goesDown) (pc := 10) dX4_goesDown_10 tk_ki_3 ?_
      refine tq_icmp_eq (M := mX4_goesDown) (pc := 11) (tgt := 25) dX4_goesDown_11 (by decide) (fun cc => ?_) (fun cc => ?_)
      · have hf := tq_ifp hf cc
        refine tq_iconst (M := mX4_goesDown) (pc := 25) dX4_goesDown_25 tk_ki_1 ?_
        refine tq_goto (M := mX4_goesDown) (pc := 26) (tgt := 30) dX4_goesDown_26 (by decide) ?_
        refine tq_pick (L2 := []) [] rfl ?_
        cases hf
        exact HJ1
      · have hf := tq_ifn hf cc
        refine tq_iload_n (M := mX4_goesDown) (pc := 14) dX4_goesDown_14 rfl ?_
        refine tq_iconst (M := mX4_goesDown) (pc := 15) dX4_goesDown_15 tk_ki_4 ?_
        refine tq_icmp_eq (M := mX4_goesDown) (pc := 16) (tgt := 25) dX4_goesDown_16 (by decide) (fun cc => ?_) (fun cc => ?_)
        · have hf := tq_ifp hf cc
          refine tq_iconst (M := mX4_goesDown) (pc := 25) dX4_goesDown_25 tk_ki_1 ?_
          refine tq_goto (M := mX4_goesDown) (pc := 26) (tgt := 30) dX4_goesDown_26 (by decide) ?_
          refine tq_pick (L2 := []) [] rfl ?_
          cases hf
          exact HJ1
        · have hf := tq_ifn hf cc
          refine tq_iload_n (M := mX4_goesDown) (pc := 19) dX4_goesDown_19 rfl ?_
          refine tq_bipush (M := mX4_goesDown) (pc := 20) dX4_goesDown_20 tk_kb_11 ?_
          refine tq_icmp_ne (M := mX4_goesDown) (pc := 22) (tgt := 29) dX4_goesDown_22 (by decide) (fun cc => ?_) (fun cc => ?_)
          · have hf := tq_ifn hf cc
            refine tq_iconst (M := mX4_goesDown) (pc := 29) dX4_goesDown_29 tk_ki_0 ?_
            refine tq_pick (L2 := []) [] rfl ?_
            cases hf
            exact HJ1
          · have hf := tq_ifp hf cc
            refine tq_iconst (M := mX4_goesDown) (pc := 25) dX4_goesDown_25 tk_ki_1 ?_
            refine tq_goto (M := mX4_goesDown) (pc := 26) (tgt := 30) dX4_goesDown_26 (by decide) ?_
            refine tq_pick (L2 := []) [] rfl ?_
            cases hf
            exact HJ1
abbrev mX4_staysAtNode : tq_M := (RX4, cX4_staysAtNode, 5, (some .boolean), false, [], none)
def f_X4_staysAtNode_b2 (i0 : Nat) (i1 : Int32) (hh : tq_H) (s : Int32) : Option ((Int32) ⊕ ((Unit) ⊕ (Int32))) := match s with
  | y2 =>
    (tq_gr hh i0 4 0).bind fun k1 =>
    (tq_is hh k1 5).bind fun _ =>
    (f_X5_get k1 i1 hh).bind fun v2 =>
    if y2 ≥ v2 then
      some (.inr (.inl ()))
    else
      (tq_is hh i0 4).bind fun _ =>
      (f_X4_stepAt i0 i1 y2 hh).bind fun v4 =>
      (tq_gr hh i0 4 1).bind fun k6 =>
      (tq_is hh k6 5).bind fun _ =>
      (f_X5_get k6 v4 hh).bind fun v7 =>
      (if v7 = 0 then
        some (1 : Int32)
      else
        (tq_gr hh i0 4 1).bind fun k9 =>
        (tq_is hh k9 5).bind fun _ =>
        (f_X5_get k9 v4 hh).bind fun v10 =>
        if v10 = (11 : Int32) then
          some (1 : Int32)
        else
          some (0 : Int32)).bind fun p12 =>
      if p12 = 0 then
        some (.inr (.inr (0 : Int32)))
      else
        (tq_gr hh i0 4 4).bind fun k13 =>
        (tq_is hh k13 5).bind fun _ =>
        (f_X5_get k13 v4 hh).bind fun v14 =>
        if v14 ≤ 0 then
          tq_let (y2 + (1 : Int32)) fun x16 =>
          some (.inl x16)
        else
          some (.inr (.inr (0 : Int32)))
def f_X4_staysAtNode (t : Nat) (a1 : Int32) (h : tq_H) : Option (Int32) :=
  (tq_loop (f_X4_staysAtNode_b2 t a1 h) tq_N (0 : Int32)).bind fun o17 => match o17 with
  | .inl o17 =>
    some (1 : Int32)
  | .inr e9 =>
    some e9
set_option maxHeartbeats 4000000 in
theorem l_X4_staysAtNode_2 {l : Launch} {d : Nat} {Q : tq_R → tq_H → Prop} {bc bs : Nat} (hd9 : 1 ≤ d) (i0 : Nat) (i1 : Int32) (hh : tq_H) : ∀ (n : Nat) (y2 : Int32) (o : (Unit) ⊕ (Int32)), tq_loop (f_X4_staysAtNode_b2 i0 i1 hh) n y2 = some o → (match o with
    | .inl e9 => tq_W l mX4_staysAtNode d bc bs Q 76 [] [] hh
    | .inr e9 => (∀ r h9, r = .inl (some (.int e9)) ∧ hh = h9 → Q r h9)) → tq_W l mX4_staysAtNode d bc bs Q 2 [(0, .ref i0), (1, .int i1), (2, .int y2)] [] hh := by
  intro n
  induction n with
  | zero => intro y2 o hl; cases hl
  | succ n ih =>
    intro y2 o hl hk
    obtain ⟨oo, hf, ho⟩ := tq_loop_s hl
    refine tq_iload_n (M := mX4_staysAtNode) (pc := 2) dX4_staysAtNode_2 rfl ?_
    refine tq_aload_n (M := mX4_staysAtNode) (pc := 3) dX4_staysAtNode_3 rfl ?_
    obtain ⟨k1, ek1, hf⟩ := tq_be hf
    refine tq_getR (M := mX4_staysAtNode) (pc := 4) tk_c4 (by decide) dX4_staysAtNode_4 tk_RX4_14 rfl ek1 ?_
    refine tq_iload_n (M := mX4_staysAtNode) (pc := 7) dX4_staysAtNode_7 rfl ?_
    obtain ⟨⟨⟩, eu3, hf⟩ := tq_be hf
    obtain ⟨fsu3, eu3⟩ := tq_is_s eu3
    obtain ⟨v2, ev2, hf⟩ := tq_be hf
    refine tq_calV (M := mX4_staysAtNode) (pc := 8) (S := [.int y2]) tk_y_X5_get tk_v_X5_get tk_RX4_48 dX4_staysAtNode_8 [.int i1] rfl (S0 := _) rfl eu3 rfl (Nat.le_of_ble_eq_true rfl) (d1 := d - 1) (b1 := 0) (s1 := 0) (bc' := bc) (bs' := bs) (Q1 := fun r h9 => r = .inl (some (.int v2)) ∧ hh = h9) (by omega) (by omega) (by omega) (w_X5_get (by omega) ev2 (fun _ _ q => q)) (fun E h9 q => nomatch (show (Sum.inr E : tq_R) = Sum.inl _ from q.1)) (fun r9 h9 q => ?_)
    obtain ⟨q1, rfl⟩ := q
    cases (show (Sum.inl r9 : tq_R) = Sum.inl (some (.int v2)) from q1)
    refine tq_icmp_ge (M := mX4_staysAtNode) (pc := 11) (tgt := 76) dX4_staysAtNode_11 (by decide) (fun cc => ?_) (fun cc => ?_)
    · have hf := tq_ifp hf cc
      refine tq_pick (L2 := []) [] rfl ?_
      cases (Option.some.inj hf)
      cases (tq_lx ho)
      exact hk
    · have hf := tq_ifn hf cc
      refine tq_aload_n (M := mX4_staysAtNode) (pc := 14) dX4_staysAtNode_14 rfl ?_
      refine tq_iload_n (M := mX4_staysAtNode) (pc := 15) dX4_staysAtNode_15 rfl ?_
      refine tq_iload_n (M := mX4_staysAtNode) (pc := 16) dX4_staysAtNode_16 rfl ?_
      obtain ⟨⟨⟩, eu5, hf⟩ := tq_be hf
      obtain ⟨fsu5, eu5⟩ := tq_is_s eu5
      obtain ⟨v4, ev4, hf⟩ := tq_be hf
      refine tq_calV (M := mX4_staysAtNode) (pc := 17) (S := []) tk_y_X4_stepAt tk_v_X4_stepAt tk_RX4_52 dX4_staysAtNode_17 [.int i1, .int y2] rfl (S0 := _) rfl eu5 rfl (Nat.le_of_ble_eq_true rfl) (d1 := d - 1) (b1 := 0) (s1 := 0) (bc' := bc) (bs' := bs) (Q1 := fun r h9 => r = .inl (some (.int v4)) ∧ hh = h9) (by omega) (by omega) (by omega) (w_X4_stepAt (by omega) ev4 (fun _ _ q => q)) (fun E h9 q => nomatch (show (Sum.inr E : tq_R) = Sum.inl _ from q.1)) (fun r9 h9 q => ?_)
      obtain ⟨q1, rfl⟩ := q
      cases (show (Sum.inl r9 : tq_R) = Sum.inl (some (.int v4)) from q1)
      refine tq_istore_n (M := mX4_staysAtNode) (pc := 20) rfl dX4_staysAtNode_20 (L2 := [(3, .int v4), (0, .ref i0), (1, .int i1), (2, .int y2)]) (by decide) rfl ?_
      refine tq_aload_n (M := mX4_staysAtNode) (pc := 21) dX4_staysAtNode_21 rfl ?_
      obtain ⟨k6, ek6, hf⟩ := tq_be hf
      refine tq_getR (M := mX4_staysAtNode) (pc := 22) tk_c4 (by decide) dX4_staysAtNode_22 tk_RX4_20 rfl ek6 ?_
      refine tq_iload_n (M := mX4_staysAtNode) (pc := 25) dX4_staysAtNode_25 rfl ?_
      obtain ⟨⟨⟩, eu8, hf⟩ := tq_be hf
      obtain ⟨fsu8, eu8⟩ := tq_is_s eu8
      obtain ⟨v7, ev7, hf⟩ := tq_be hf
      refine tq_calV (M := mX4_staysAtNode) (pc := 26) (S := []) tk_y_X5_get tk_v_X5_get tk_RX4_48 dX4_staysAtNode_26 [.int v4] rfl (S0 := _) rfl eu8 rfl (Nat.le_of_ble_eq_true rfl) (d1 := d - 1) (b1 := 0) (s1 := 0) (bc' := bc) (bs' := bs) (Q1 := fun r h9 => r = .inl (some (.int v7)) ∧ hh = h9) (by omega) (by omega) (by omega) (w_X5_get (by omega) ev7 (fun _ _ q => q)) (fun E h9 q => nomatch (show (Sum.inr E : tq_R) = Sum.inl _ from q.1)) (fun r9 h9 q => ?_)
      obtain ⟨q1, rfl⟩ := q
      cases (show (Sum.inl r9 : tq_R) = Sum.inl (some (.int v7)) from q1)
      obtain ⟨p12, ep12, hf⟩ := tq_be hf
      have HJ29 : tq_W l mX4_staysAtNode d bc bs Q 50 [(0, .ref i0), (1, .int i1), (2, .int y2), (3, .int v4)] [.int p12] hh := by
        refine tq_istore (M := mX4_staysAtNode) (pc := 50) dX4_staysAtNode_50 (L2 := [(4, .int p12), (0, .ref i0), (1, .int i1), (2, .int y2), (3, .int v4)]) (by decide) rfl ?_
        refine tq_iload (M := mX4_staysAtNode) (pc := 52) dX4_staysAtNode_52 rfl ?_
        refine tq_if_eq (M := mX4_staysAtNode) (pc := 54) (tgt := 68) dX4_staysAtNode_54 (by decide) (fun cc => ?_) (fun cc => ?_)
        · have hf := tq_ifp hf cc
          refine tq_iconst (M := mX4_staysAtNode) (pc := 68) dX4_staysAtNode_68 tk_ki_0 ?_
          refine tq_zret (M := mX4_staysAtNode) (pc := 69) dX4_staysAtNode_69 rfl (Or.inl rfl) ?_
          cases (Option.some.inj hf)
          cases (tq_lx ho)
          exact hk _ _ ⟨rfl, rfl⟩
        · have hf := tq_ifn hf cc
          refine tq_aload_n (M := mX4_staysAtNode) (pc := 57) dX4_staysAtNode_57 rfl ?_
          obtain ⟨k13, ek13, hf⟩ := tq_be hf
          refine tq_getR (M := mX4_staysAtNode) (pc := 58) tk_c4 (by decide) dX4_staysAtNode_58 tk_RX4_29 rfl ek13 ?_
          refine tq_iload_n (M := mX4_staysAtNode) (pc := 61) dX4_staysAtNode_61 rfl ?_
          obtain ⟨⟨⟩, eu15, hf⟩ := tq_be hf
          obtain ⟨fsu15, eu15⟩ := tq_is_s eu15
          obtain ⟨v14, ev14, hf⟩ := tq_be hf
          refine tq_calV (M := mX4_staysAtNode) (pc := 62) (S := []) tk_y_X5_get tk_v_X5_get tk_RX4_48 dX4_staysAtNode_62 [.int v4] rfl (S0 := _) rfl eu15 rfl (Nat.le_of_ble_eq_true rfl) (d1 := d - 1) (b1 := 0) (s1 := 0) (bc' := bc) (bs' := bs) (Q1 := fun r h9 => r = .inl (some (.int v14)) ∧ hh = h9) (by omega) (by omega) (by omega) (w_X5_get (by omega) ev14 (fun _ _ q => q)) (fun E h9 q => nomatch (show (Sum.inr E : tq_R) = Sum.inl _ from q.1)) (fun r9 h9 q => ?_)
          obtain ⟨q1, rfl⟩ := q
          cases (show (Sum.inl r9 : tq_R) = Sum.inl (some (.int v14)) from q1)
          refine tq_if_le (M := mX4_staysAtNode) (pc := 65) (tgt := 70) dX4_staysAtNode_65 (by decide) (fun cc => ?_) (fun cc => ?_)
          · have hf := tq_ifp hf cc
            obtain ⟨x16, ex16, hf⟩ := tq_le hf
            refine tq_iinc (M := mX4_staysAtNode) (pc := 70) (v := x16) (L2 := [(2, .int x16), (4, .int p12), (0, .ref i0), (1, .int i1), (3, .int v4)]) dX4_staysAtNode_70 rfl (by rw [ex16, tk_ki_1]) (by decide) rfl ?_
            refine tq_goto (M := mX4_staysAtNode) (pc := 73) (tgt := 2) dX4_staysAtNode_73 (by decide) ?_
            refine tq_pick (L2 := [(0, .ref i0), (1, .int i1), (2, .int x16)]) [2, 3, 0] rfl ?_
            cases (Option.some.inj hf)
            exact ih _ o (tq_lc ho) hk
          · have hf := tq_ifn hf cc
            refine tq_iconst (M := mX4_staysAtNode) (pc := 68) dX4_staysAtNode_68 tk_ki_0 ?_
            refine tq_zret (M := mX4_staysAtNode) (pc := 69) dX4_staysAtNode_69 rfl (Or.inl rfl) ?_
            cases (Option.some.inj hf)
            cases (tq_lx ho)
            exact hk _ _ ⟨rfl, rfl⟩
      refine tq_if_eq (M := mX4_staysAtNode) (pc := 29) (tgt := 45) dX4_staysAtNode_29 (by decide) (fun cc => ?_) (fun cc => ?_)
      · have hf := tq_ifp ep12 cc
        refine tq_iconst (M := mX4_staysAtNode) (pc := 45) dX4_staysAtNode_45 tk_ki_1 ?_
        refine tq_goto (M := mX4_staysAtNode) (pc := 46) (tgt := 50) dX4_staysAtNode_46 (by decide) ?_
        refine tq_pick (L2 := [(0, .ref i0), (1, .int i1), (2, .int y2), (3, .int v4)]) [1, 2, 3, 0] rfl ?_
        cases (Option.some.inj hf)
        exact HJ29
      · have hf := tq_ifn ep12 cc
        refine tq_aload_n (M := mX4_staysAtNode) (pc := 32) dX4_staysAtNode_32 rfl ?_
        obtain ⟨k9, ek9, hf⟩ := tq_be hf
        refine tq_getR (M := mX4_staysAtNode) (pc := 33) tk_c4 (by decide) dX4_staysAtNode_33 tk_RX4_20 rfl ek9 ?_
        refine tq_iload_n (M := mX4_staysAtNode) (pc := 36) dX4_staysAtNode_36 rfl ?_
        obtain ⟨⟨⟩, eu11, hf⟩ := tq_be hf
        obtain ⟨fsu11, eu11⟩ := tq_is_s eu11
        obtain ⟨v10, ev10, hf⟩ := tq_be hf
        refine tq_calV (M := mX4_staysAtNode) (pc := 37) (S := []) tk_y_X5_get tk_v_X5_get tk_RX4_48 dX4_staysAtNode_37 [.int v4] rfl (S0 := _) rfl eu11 rfl (Nat.le_of_ble_eq_true rfl) (d1 := d - 1) (b1 := 0) (s1 := 0) (bc' := bc) (bs' := bs) (Q1 := fun r h9 => r = .inl (some (.int v10)) ∧ hh = h9) (by omega) (by omega) (by omega) (w_X5_get (by omega) ev10 (fun _ _ q => q)) (fun E h9 q => nomatch (show (Sum.inr E : tq_R) = Sum.inl _ from q.1)) (fun r9 h9 q => ?_)
        obtain ⟨q1, rfl⟩ := q
        cases (show (Sum.inl r9 : tq_R) = Sum.inl (some (.int v10)) from q1)
        refine tq_bipush (M := mX4_staysAtNode) (pc := 40) dX4_staysAtNode_40 tk_kb_11 ?_
        refine tq_icmp_ne (M := mX4_staysAtNode) (pc := 42) (tgt := 49) dX4_staysAtNode_42 (by decide) (fun cc => ?_) (fun cc => ?_)
        · have hf := tq_ifn hf cc
          refine tq_iconst (M := mX4_staysAtNode) (pc := 49) dX4_staysAtNode_49 tk_ki_0 ?_
          refine tq_pick (L2 := [(0, .ref i0), (1, .int i1), (2, .int y2), (3, .int v4)]) [1, 2, 3, 0] rfl ?_
          cases (Option.some.inj hf)
          exact HJ29
        · have hf := tq_ifp hf cc
          refine tq_iconst (M := mX4_staysAtNode) (pc := 45) dX4_staysAtNode_45 tk_ki_1 ?_
          refine tq_goto (M := mX4_staysAtNode) (pc := 46) (tgt := 50) dX4_staysAtNode_46 (by decide) ?_
          refine tq_pick (L2 := [(0, .ref i0), (1, .int i1), (2, .int y2), (3, .int v4)]) [1, 2, 3, 0] rfl ?_
          cases (Option.some.inj hf)
          exact HJ29
set_option maxHeartbeats 4000000 in
set_option maxRecDepth 20000 in
theorem w_X4_staysAtNode {l : Launch} {d : Nat} (hd9 : 1 ≤ d) {t : Nat} {a1 : Int32} {h : tq_H} {o : Int32} {Q : tq_R → tq_H → Prop} (hf : f_X4_staysAtNode t a1 h = some o) (hQ : ∀ r h9, r = .inl (some (.int o)) ∧ h = h9 → Q r h9) : tq_C l yX4_staysAtNode cX4_staysAtNode 5 (some .boolean) d 0 0 [.ref t, .int a1] h Q := by
  refine tq_body (y := yX4_staysAtNode) false (by decide +kernel) (fun z => by cases z) (Nat.le_of_ble_eq_true rfl) ?_
  show tq_W l mX4_staysAtNode d 0 0 Q 0 [(0, .ref t), (1, .int a1)] [] h
  refine tq_iconst (M := mX4_staysAtNode) (pc := 0) dX4_staysAtNode_0 tk_ki_0 ?_
  refine tq_istore_n (M := mX4_staysAtNode) (pc := 1) rfl dX4_staysAtNode_1 (L2 := [(2, .int (0 : Int32)), (0, .ref t), (1, .int a1)]) (by decide) rfl ?_
  obtain ⟨o17, eo17, hf⟩ := tq_be hf
  refine tq_pick (L2 := [(0, .ref t), (1, .int a1), (2, .int (0 : Int32))]) [1, 2, 0] rfl ?_
  refine l_X4_staysAtNode_2 (bc := 0) (bs := 0) (by omega) t a1 h _ (0 : Int32) _ eo17 ?_
  cases o17 with
  | inl o17 =>
    refine tq_iconst (M := mX4_staysAtNode) (pc := 76) dX4_staysAtNode_76 tk_ki_1 ?_
    refine tq_zret (M := mX4_staysAtNode) (pc := 77) dX4_staysAtNode_77 rfl (Or.inr rfl) ?_
    cases (Option.some.inj hf)
    exact hQ _ _ ⟨rfl, rfl⟩
  | inr e9 =>
    cases (Option.some.inj hf)
    exact hQ
abbrev mX4_isTellableAtOnce : tq_M := (RX4, cX4_isTellableAtOnce, 3, (some .boolean), false, [], none)
def f_X4_isTellableAtOnce (t : Nat) (a1 : Int32) (h : tq_H) : Option (Int32) :=
  (tq_gr h t 4 5).bind fun k1 =>
  (tq_is h k1 5).bind fun _ =>
  (f_X5_get k1 a1 h).bind fun v2 =>
  if v2 = 0 then
    (tq_gr h t 4 7).bind fun k11 =>
    (tq_is h k11 5).bind fun _ =>
    (f_X5_get k11 a1 h).bind fun v12 =>
    tq_let (if v12 = (2 : Int32) then (0 : Int32) else (1 : Int32)) fun p14 =>
    (tq_bz p14).bind fun z15 =>
    some z15
  else
    (if v2 = (1 : Int32) then
      some (0 : Int32)
    else
      (tq_gr h t 4 6).bind fun k4 =>
      (tq_is h k4 5).bind fun _ =>
      (f_X5_get k4 a1 h).bind fun v5 =>
      (tq_is h t 4).bind fun _ =>
      (f_X4_staysAtNode t v5 h).bind fun v7 =>
      if v7 = 0 then
        some (0 : Int32)
      else
        some (1 : Int32)).bind fun p9 =>
    (tq_bz p9).bind fun z10 =>
    some z10
set_option maxHeartbeats 4000000 in
set_option maxRecDepth 20000 in
theorem w_X4_isTellableAtOnce {l : Launch} {d : Nat} (hd9 : 2 ≤ d) {t : Nat} {a1 : Int32} {h : tq_H} {o : Int32} {Q : tq_R → tq_H → Prop} (hf : f_X4_isTellableAtOnce t a1 h = some o) (hQ : ∀ r h9, r = .inl (some (.int o)) ∧ h = h9 → Q r h9) : tq_C l yX4_isTellableAtOnce cX4_isTellableAtOnce 3 (some .boolean) d 0 0 [.ref t, .int a1] h Q := by
  refine tq_body (y := yX4_isTellableAtOnce) false (by decide +kernel) (fun z => by cases z) (Nat.le_of_ble_eq_true rfl) ?_
  show tq_W l mX4_isTellableAtOnce d 0 0 Q 0 [(0, .ref t), (1, .int a1)] [] h
  refine tq_aload_n (M := mX4_isTellableAtOnce) (pc := 0) dX4_isTellableAtOnce_0 rfl ?_
  obtain ⟨k1, ek1, hf⟩ := tq_be hf
  refine tq_getR (M := mX4_isTellableAtOnce) (pc := 1) tk_c4 (by decide) dX4_isTellableAtOnce_1 tk_RX4_32 rfl ek1 ?_
  refine tq_iload_n (M := mX4_isTellableAtOnce) (pc := 4) dX4_isTellableAtOnce_4 rfl ?_
  obtain ⟨⟨⟩, eu3, hf⟩ := tq_be hf
  obtain ⟨fsu3, eu3⟩ := tq_is_s eu3
  obtain ⟨v2, ev2, hf⟩ := tq_be hf
  refine tq_calV (M := mX4_isTellableAtOnce) (pc := 5) (S := []) tk_y_X5_get tk_v_X5_get tk_RX4_48 dX4_isTellableAtOnce_5 [.int a1] rfl (S0 := _) rfl eu3 rfl (Nat.le_of_ble_eq_true rfl) (d1 := d - 1) (b1 := 0) (s1 := 0) (bc' := 0) (bs' := 0) (Q1 := fun r h9 => r = .inl (some (.int v2)) ∧ h = h9) (by omega) rfl rfl (w_X5_get (by omega) ev2 (fun _ _ q => q)) (fun E h9 q => nomatch (show (Sum.inr E : tq_R) = Sum.inl _ from q.1)) (fun r9 h9 q => ?_)
  obtain ⟨q1, rfl⟩ := q
  cases (show (Sum.inl r9 : tq_R) = Sum.inl (some (.int v2)) from q1)
  refine tq_istore_n (M := mX4_isTellableAtOnce) (pc := 8) rfl dX4_isTellableAtOnce_8 (L2 := [(2, .int v2), (0, .ref t), (1, .int a1)]) (by decide) rfl ?_
  refine tq_iload_n (M := mX4_isTellableAtOnce) (pc := 9) dX4_isTellableAtOnce_9 rfl ?_
  refine tq_if_ne (M := mX4_isTellableAtOnce) (pc := 10) (tgt := 31) dX4_isTellableAtOnce_10 (by decide) (fun cc => ?_) (fun cc => ?_)
  · have hf := tq_ifn hf cc
    refine tq_iload_n (M := mX4_isTellableAtOnce) (pc := 31) dX4_isTellableAtOnce_31 rfl ?_
    refine tq_iconst (M := mX4_isTellableAtOnce) (pc := 32) dX4_isTellableAtOnce_32 tk_ki_1 ?_
    obtain ⟨p9, ep9, hf⟩ := tq_be hf
    have HJ33 : tq_W l mX4_isTellableAtOnce d 0 0 Q 56 [] [.int p9] h := by
      obtain ⟨z10, ez10, hf⟩ := tq_be hf
      refine tq_zretB (M := mX4_isTellableAtOnce) (pc := 56) dX4_isTellableAtOnce_56 rfl ez10 ?_
      cases (Option.some.inj hf)
      exact hQ _ _ ⟨rfl, rfl⟩
    refine tq_icmp_eq (M := mX4_isTellableAtOnce) (pc := 33) (tgt := 55) dX4_isTellableAtOnce_33 (by decide) (fun cc => ?_) (fun cc => ?_)
    · have hf := tq_ifp ep9 cc
      refine tq_iconst (M := mX4_isTellableAtOnce) (pc := 55) dX4_isTellableAtOnce_55 tk_ki_0 ?_
      refine tq_pick (L2 := []) [] rfl ?_
      cases (Option.some.inj hf)
      exact HJ33
    · have hf := tq_ifn ep9 cc
      refine tq_aload_n (M := mX4_isTellableAtOnce) (pc := 36) dX4_isTellableAtOnce_36 rfl ?_
      refine tq_aload_n (M := mX4_isTellableAtOnce) (pc := 37) dX4_isTellableAtOnce_37 rfl ?_
      obtain ⟨k4, ek4, hf⟩ := tq_be hf
      refine tq_getR (M := mX4_isTellableAtOnce) (pc := 38) tk_c4 (by decide) dX4_isTellableAtOnce_38 tk_RX4_35 rfl ek4 ?_
      refine tq_iload_n (M := mX4_isTellableAtOnce) (pc := 41) dX4_isTellableAtOnce_41 rfl ?_
      obtain ⟨⟨⟩, eu6, hf⟩ := tq_be hf
      obtain ⟨fsu6, eu6⟩ := tq_is_s eu6
      obtain ⟨v5, ev5, hf⟩ := tq_be hf
      refine tq_calV (M := mX4_isTellableAtOnce) (pc := 42) (S := [.ref t]) tk_y_X5_get tk_v_X5_get tk_RX4_48 dX4_isTellableAtOnce_42 [.int a1] rfl (S0 := _) rfl eu6 rfl (Nat.le_of_ble_eq_true rfl) (d1 := d - 1) (b1 := 0) (s1 := 0) (bc' := 0) (bs' := 0) (Q1 := fun r h9 => r = .inl (some (.int v5)) ∧ h = h9) (by omega) rfl rfl (w_X5_get (by omega) ev5 (fun _ _ q => q)) (fun E h9 q => nomatch (show (Sum.inr E : tq_R) = Sum.inl _ from q.1)) (fun r9 h9 q => ?_)
      obtain ⟨q1, rfl⟩ := q
      cases (show (Sum.inl r9 : tq_R) = Sum.inl (some (.int v5)) from q1)
      obtain ⟨⟨⟩, eu8, hf⟩ := tq_be hf
      obtain ⟨fsu8, eu8⟩ := tq_is_s eu8
      obtain ⟨v7, ev7, hf⟩ := tq_be hf
      refine tq_calV (M := mX4_isTellableAtOnce) (pc := 45) (S := []) tk_y_X4_staysAtNode tk_v_X4_staysAtNode tk_RX4_69 dX4_isTellableAtOnce_45 [.int v5] rfl (S0 := _) rfl eu8 rfl (Nat.le_of_ble_eq_true rfl) (d1 := d - 1) (b1 := 0) (s1 := 0) (bc' := 0) (bs' := 0) (Q1 := fun r h9 => r = .inl (some (.int v7)) ∧ h = h9) (by omega) rfl rfl (w_X4_staysAtNode (by omega) ev7 (fun _ _ q => q)) (fun E h9 q => nomatch (show (Sum.inr E : tq_R) = Sum.inl _ from q.1)) (fun r9 h9 q => ?_)
      obtain ⟨q1, rfl⟩ := q
      cases (show (Sum.inl r9 : tq_R) = Sum.inl (some (.int v7)) from q1)
      refine tq_if_eq (M := mX4_isTellableAtOnce) (pc := 48) (tgt := 55) dX4_isTellableAtOnce_48 (by decide) (fun cc => ?_) (fun cc => ?_)
      · have hf := tq_ifp hf cc
        refine tq_iconst (M := mX4_isTellableAtOnce) (pc := 55) dX4_isTellableAtOnce_55 tk_ki_0 ?_
        refine tq_pick (L2 := []) [] rfl ?_
        cases (Option.some.inj hf)
        exact HJ33
      · have hf := tq_ifn hf cc
        refine tq_iconst (M := mX4_isTellableAtOnce) (pc := 51) dX4_isTellableAtOnce_51 tk_ki_1 ?_
        refine tq_goto (M := mX4_isTellableAtOnce) (pc := 52) (tgt := 56) dX4_isTellableAtOnce_52 (by decide) ?_
        refine tq_pick (L2 := []) [] rfl ?_
        cases (Option.some.inj hf)
        exact HJ33
  · have hf := tq_ifp hf cc
    refine tq_aload_n (M := mX4_isTellableAtOnce) (pc := 13) dX4_isTellableAtOnce_13 rfl ?_
    obtain ⟨k11, ek11, hf⟩ := tq_be hf
    refine tq_getR (M := mX4_isTellableAtOnce) (pc := 14) tk_c4 (by decide) dX4_isTellableAtOnce_14 tk_RX4_38 rfl ek11 ?_
    refine tq_iload_n (M := mX4_isTellableAtOnce) (pc := 17) dX4_isTellableAtOnce_17 rfl ?_
    obtain ⟨⟨⟩, eu13, hf⟩ := tq_be hf
    obtain ⟨fsu13, eu13⟩ := tq_is_s eu13
    obtain ⟨v12, ev12, hf⟩ := tq_be hf
    refine tq_calV (M := mX4_isTellableAtOnce) (pc := 18) (S := []) tk_y_X5_get tk_v_X5_get tk_RX4_48 dX4_isTellableAtOnce_18 [.int a1] rfl (S0 := _) rfl eu13 rfl (Nat.le_of_ble_eq_true rfl) (d1 := d - 1) (b1 := 0) (s1 := 0) (bc' := 0) (bs' := 0) (Q1 := fun r h9 => r = .inl (some (.int v12)) ∧ h = h9) (by omega) rfl rfl (w_X5_get (by omega) ev12 (fun _ _ q => q)) (fun E h9 q => nomatch (show (Sum.inr E : tq_R) = Sum.inl _ from q.1)) (fun r9 h9 q => ?_)
    obtain ⟨q1, rfl⟩ := q
    cases (show (Sum.inl r9 : tq_R) = Sum.inl (some (.int v12)) from q1)
    refine tq_iconst (M := mX4_isTellableAtOnce) (pc := 21) dX4_isTellableAtOnce_21 tk_ki_2 ?_
    obtain ⟨p14, ep14, hf⟩ := tq_le hf
    have HJ22 : tq_W l mX4_isTellableAtOnce d 0 0 Q 30 [] [.int p14] h := by
      obtain ⟨z15, ez15, hf⟩ := tq_be hf
      refine tq_zretB (M := mX4_isTellableAtOnce) (pc := 30) dX4_isTellableAtOnce_30 rfl ez15 ?_
      cases (Option.some.inj hf)
      exact hQ _ _ ⟨rfl, rfl⟩
    refine tq_icmp_eq (M := mX4_isTellableAtOnce) (pc := 22) (tgt := 29) dX4_isTellableAtOnce_22 (by decide) (fun cc => ?_) (fun cc => ?_)
    · have hf := tq_ifp ep14.symm cc
      refine tq_iconst (M := mX4_isTellableAtOnce) (pc := 29) dX4_isTellableAtOnce_29 tk_ki_0 ?_
      refine tq_pick (L2 := []) [] rfl ?_
      cases hf
      exact HJ22
    · have hf := tq_ifn ep14.symm cc
      refine tq_iconst (M := mX4_isTellableAtOnce) (pc := 25) dX4_isTellableAtOnce_25 tk_ki_1 ?_
      refine tq_goto (M := mX4_isTellableAtOnce) (pc := 26) (tgt := 30) dX4_isTellableAtOnce_26 (by decide) ?_
      refine tq_pick (L2 := []) [] rfl ?_
      cases hf
      exact HJ22
abbrev mX4_canStream : tq_M := (RX4, cX4_canStream, 5, (some .boolean), false, [], none)
def f_X4_canStream_b40 (i0 : Nat) (i1 : Int32) (i2 : Int32) (i3 : Int32) (hh : tq_H) (s : Int32) : Option ((Int32) ⊕ ((Unit) ⊕ (Int32))) := match s with
  | y4 =>
    (tq_gr hh i0 4 4).bind fun k10 =>
    (tq_is hh k10 5).bind fun _ =>
    (f_X5_get k10 i3 hh).bind fun v11 =>
    if y4 ≥ v11 then
      some (.inr (.inl ()))
    else
      (tq_is hh i0 4).bind fun _ =>
      (f_X4_conditionAt i0 i3 y4 hh).bind fun v13 =>
      (tq_is hh i0 4).bind fun _ =>
      (f_X4_isTellableAtOnce i0 v13 hh).bind fun v15 =>
      if v15 = 0 then
        some (.inr (.inr (0 : Int32)))
      else
        tq_let (y4 + (1 : Int32)) fun x17 =>
        some (.inl x17)
def f_X4_canStream_b2 (i0 : Nat) (i1 : Int32) (hh : tq_H) (s : Int32) : Option ((Int32) ⊕ ((Unit) ⊕ (Int32))) := match s with
  | y2 =>
    (tq_gr hh i0 4 0).bind fun k1 =>
    (tq_is hh k1 5).bind fun _ =>
    (f_X5_get k1 i1 hh).bind fun v2 =>
    if y2 ≥ v2 then
      some (.inr (.inl ()))
    else
      (tq_is hh i0 4).bind fun _ =>
      (f_X4_stepAt i0 i1 y2 hh).bind fun v4 =>
      (tq_gr hh i0 4 1).bind fun k6 =>
      (tq_is hh k6 5).bind fun _ =>
      (f_X5_get k6 v4 hh).bind fun v7 =>
      (f_X4_goesDown v7 hh).bind fun v9 =>
      if v9 = 0 then
        some (.inr (.inr (0 : Int32)))
      else
        (tq_loop (f_X4_canStream_b40 i0 i1 y2 v4 hh) tq_N (0 : Int32)).bind fun o18 => match o18 with
        | .inl o18 =>
          tq_let (y2 + (1 : Int32)) fun x19 =>
          some (.inl x19)
        | .inr e9 =>
          some (.inr (.inr e9))
def f_X4_canStream (t : Nat) (a1 : Int32) (h : tq_H) : Option (Int32) :=
  (tq_loop (f_X4_canStream_b2 t a1 h) tq_N (0 : Int32)).bind fun o20 => match o20 with
  | .inl o20 =>
    some (1 : Int32)
  | .inr e9 =>
    some e9
set_option maxHeartbeats 4000000 in
theorem l_X4_canStream_40 {l : Launch} {d : Nat} {Q : tq_R → tq_H → Prop} {bc bs : Nat} (hd9 : 3 ≤ d) (i0 : Nat) (i1 : Int32) (i2 : Int32) (i3 : Int32) (hh : tq_H) : ∀ (n : Nat) (y4 : Int32) (o : (Unit) ⊕ (Int32)), tq_loop (f_X4_canStream_b40 i0 i1 i2 i3 hh) n y4 = some o → (match o with
    | .inl e9 => tq_W l mX4_canStream d bc bs Q 75 [(0, .ref i0), (1, .int i1), (2, .int i2)] [] hh
    | .inr e9 => (∀ r h9, r = .inl (some (.int e9)) ∧ hh = h9 → Q r h9)) → tq_W l mX4_canStream d bc bs Q 40 [(0, .ref i0), (1, .int i1), (2, .int i2), (3, .int i3), (4, .int y4)] [] hh := by
  intro n
  induction n with
  | zero => intro y4 o hl; cases hl
  | succ n ih =>
    intro y4 o hl hk
    obtain ⟨oo, hf, ho⟩ := tq_loop_s hl
    refine tq_iload (M := mX4_canStream) (pc := 40) dX4_canStream_40 rfl ?_
    refine tq_aload_n (M := mX4_canStream) (pc := 42) dX4_canStream_42 rfl ?_
    obtain ⟨k10, ek10, hf⟩ := tq_be hf
    refine tq_getR (M := mX4_canStream) (pc := 43) tk_c4 (by decide) dX4_canStream_43 tk_RX4_29 rfl ek10 ?_
    refine tq_iload_n (M := mX4_canStream) (pc := 46) dX4_canStream_46 rfl ?_
    obtain ⟨⟨⟩, eu12, hf⟩ := tq_be hf
    obtain ⟨fsu12, eu12⟩ := tq_is_s eu12
    obtain ⟨v11, ev11, hf⟩ := tq_be hf
    refine tq_calV (M := mX4_canStream) (pc := 47) (S := [.int y4]) tk_y_X5_get tk_v_X5_get tk_RX4_48 dX4_canStream_47 [.int i3] rfl (S0 := _) rfl eu12 rfl (Nat.le_of_ble_eq_true rfl) (d1 := d - 1) (b1 := 0) (s1 := 0) (bc' := bc) (bs' := bs) (Q1 := fun r h9 => r = .inl (some (.int v11)) ∧ hh = h9) (by omega) (by omega) (by omega) (w_X5_get (by omega) ev11 (fun _ _ q => q)) (fun E h9 q => nomatch (show (Sum.inr E : tq_R) = Sum.inl _ from q.1)) (fun r9 h9 q => ?_)
    obtain ⟨q1, rfl⟩ := q
    cases (show (Sum.inl r9 : tq_R) = Sum.inl (some (.int v11)) from q1)
    refine tq_icmp_ge (M := mX4_canStream) (pc := 50) (tgt := 75) dX4_canStream_50 (by decide) (fun cc => ?_) (fun cc => ?_)
    · have hf := tq_ifp hf cc
      refine tq_pick (L2 := [(0, .ref i0), (1, .int i1), (2, .int i2)]) [0, 1, 2] rfl ?_
      cases (Option.some.inj hf)
      cases (tq_lx ho)
      exact hk
    · have hf := tq_ifn hf cc
      refine tq_aload_n (M := mX4_canStream) (pc := 53) dX4_canStream_53 rfl ?_
      refine tq_aload_n (M := mX4_canStream) (pc := 54) dX4_canStream_54 rfl ?_
      refine tq_iload_n (M := mX4_canStream) (pc := 55) dX4_canStream_55 rfl ?_
      refine tq_iload (M := mX4_canStream) (pc := 56) dX4_canStream_56 rfl ?_
      obtain ⟨⟨⟩, eu14, hf⟩ := tq_be hf
      obtain ⟨fsu14, eu14⟩ := tq_is_s eu14
      obtain ⟨v13, ev13, hf⟩ := tq_be hf
      refine tq_calV (M := mX4_canStream) (pc := 58) (S := [.ref i0]) tk_y_X4_conditionAt tk_v_X4_conditionAt tk_RX4_59 dX4_canStream_58 [.int i3, .int y4] rfl (S0 := _) rfl eu14 rfl (Nat.le_of_ble_eq_true rfl) (d1 := d - 1) (b1 := 0) (s1 := 0) (bc' := bc) (bs' := bs) (Q1 := fun r h9 => r = .inl (some (.int v13)) ∧ hh = h9) (by omega) (by omega) (by omega) (w_X4_conditionAt (by omega) ev13 (fun _ _ q => q)) (fun E h9 q => nomatch (show (Sum.inr E : tq_R) = Sum.inl _ from q.1)) (fun r9 h9 q => ?_)
      obtain ⟨q1, rfl⟩ := q
      cases (show (Sum.inl r9 : tq_R) = Sum.inl (some (.int v13)) from q1)
      obtain ⟨⟨⟩, eu16, hf⟩ := tq_be hf
      obtain ⟨fsu16, eu16⟩ := tq_is_s eu16
      obtain ⟨v15, ev15, hf⟩ := tq_be hf
      refine tq_calV (M := mX4_canStream) (pc := 61) (S := []) tk_y_X4_isTellableAtOnce tk_v_X4_isTellableAtOnce tk_RX4_66 dX4_canStream_61 [.int v13] rfl (S0 := _) rfl eu16 rfl (Nat.le_of_ble_eq_true rfl) (d1 := d - 1) (b1 := 0) (s1 := 0) (bc' := bc) (bs' := bs) (Q1 := fun r h9 => r = .inl (some (.int v15)) ∧ hh = h9) (by omega) (by omega) (by omega) (w_X4_isTellableAtOnce (by omega) ev15 (fun _ _ q => q)) (fun E h9 q => nomatch (show (Sum.inr E : tq_R) = Sum.inl _ from q.1)) (fun r9 h9 q => ?_)
      obtain ⟨q1, rfl⟩ := q
      cases (show (Sum.inl r9 : tq_R) = Sum.inl (some (.int v15)) from q1)
      refine tq_if_ne (M := mX4_canStream) (pc := 64) (tgt := 69) dX4_canStream_64 (by decide) (fun cc => ?_) (fun cc => ?_)
      · have hf := tq_ifn hf cc
        obtain ⟨x17, ex17, hf⟩ := tq_le hf
        refine tq_iinc (M := mX4_canStream) (pc := 69) (v := x17) (L2 := [(4, .int x17), (0, .ref i0), (1, .int i1), (2, .int i2), (3, .int i3)]) dX4_canStream_69 rfl (by rw [ex17, tk_ki_1]) (by decide) rfl ?_
        refine tq_goto (M := mX4_canStream) (pc := 72) (tgt := 40) dX4_canStream_72 (by decide) ?_
        refine tq_pick (L2 := [(0, .ref i0), (1, .int i1), (2, .int i2), (3, .int i3), (4, .int x17)]) [1, 2, 3, 4, 0] rfl ?_
        cases (Option.some.inj hf)
        exact ih _ o (tq_lc ho) hk
      · have hf := tq_ifp hf cc
        refine tq_iconst (M := mX4_canStream) (pc := 67) dX4_canStream_67 tk_ki_0 ?_
        refine tq_zret (M := mX4_canStream) (pc := 68) dX4_canStream_68 rfl (Or.inl rfl) ?_
        cases (Option.some.inj hf)
        cases (tq_lx ho)
        exact hk _ _ ⟨rfl, rfl⟩
set_option maxHeartbeats 4000000 in
theorem l_X4_canStream_2 {l : Launch} {d : Nat} {Q : tq_R → tq_H → Prop} {bc bs : Nat} (hd9 : 3 ≤ d) (i0 : Nat) (i1 : Int32) (hh : tq_H) : ∀ (n : Nat) (y2 : Int32) (o : (Unit) ⊕ (Int32)), tq_loop (f_X4_canStream_b2 i0 i1 hh) n y2 = some o → (match o with
    | .inl e9 => tq_W l mX4_canStream d bc bs Q 81 [] [] hh
    | .inr e9 => (∀ r h9, r = .inl (some (.int e9)) ∧ hh = h9 → Q r h9)) → tq_W l mX4_canStream d bc bs Q 2 [(0, .ref i0), (1, .int i1), (2, .int y2)] [] hh := by
  intro n
  induction n with
  | zero => intro y2 o hl; cases hl
  | succ n ih =>
    intro y2 o hl hk
    obtain ⟨oo, hf, ho⟩ := tq_loop_s hl
    refine tq_iload_n (M := mX4_canStream) (pc := 2) dX4_canStream_2 rfl ?_
    refine tq_aload_n (M := mX4_canStream) (pc := 3) dX4_canStream_3 rfl ?_
    obtain ⟨k1, ek1, hf⟩ := tq_be hf
    refine tq_getR (M := mX4_canStream) (pc := 4) tk_c4 (by decide) dX4_canStream_4 tk_RX4_14 rfl ek1 ?_
    refine tq_iload_n (M := mX4_canStream) (pc := 7) dX4_canStream_7 rfl ?_
    obtain ⟨⟨⟩, eu3, hf⟩ := tq_be hf
    obtain ⟨fsu3, eu3⟩ := tq_is_s eu3
    obtain ⟨v2, ev2, hf⟩ := tq_be hf
    refine tq_calV (M := mX4_canStream) (pc := 8) (S := [.int y2]) tk_y_X5_get tk_v_X5_get tk_RX4_48 dX4_canStream_8 [.int i1] rfl (S0 := _) rfl eu3 rfl (Nat.le_of_ble_eq_true rfl) (d1 := d - 1) (b1 := 0) (s1 := 0) (bc' := bc) (bs' := bs) (Q1 := fun r h9 => r = .inl (some (.int v2)) ∧ hh = h9) (by omega) (by omega) (by omega) (w_X5_get (by omega) ev2 (fun _ _ q => q)) (fun E h9 q => nomatch (show (Sum.inr E : tq_R) = Sum.inl _ from q.1)) (fun r9 h9 q => ?_)
    obtain ⟨q1, rfl⟩ := q
    cases (show (Sum.inl r9 : tq_R) = Sum.inl (some (.int v2)) from q1)
    refine tq_icmp_ge (M := mX4_canStream) (pc := 11) (tgt := 81) dX4_canStream_11 (by decide) (fun cc => ?_) (fun cc => ?_)
    · have hf := tq_ifp hf cc
      refine tq_pick (L2 := []) [] rfl ?_
      cases (Option.some.inj hf)
      cases (tq_lx ho)
      exact hk
    · have hf := tq_ifn hf cc
      refine tq_aload_n (M := mX4_canStream) (pc := 14) dX4_canStream_14 rfl ?_
      refine tq_iload_n (M := mX4_canStream) (pc := 15) dX4_canStream_15 rfl ?_
      refine tq_iload_n (M := mX4_canStream) (pc := 16) dX4_canStream_16 rfl ?_
      obtain ⟨⟨⟩, eu5, hf⟩ := tq_be hf
      obtain ⟨fsu5, eu5⟩ := tq_is_s eu5
      obtain ⟨v4, ev4, hf⟩ := tq_be hf
      refine tq_calV (M := mX4_canStream) (pc := 17) (S := []) tk_y_X4_stepAt tk_v_X4_stepAt tk_RX4_52 dX4_canStream_17 [.int i1, .int y2] rfl (S0 := _) rfl eu5 rfl (Nat.le_of_ble_eq_true rfl) (d1 := d - 1) (b1 := 0) (s1 := 0) (bc' := bc) (bs' := bs) (Q1 := fun r h9 => r = .inl (some (.int v4)) ∧ hh = h9) (by omega) (by omega) (by omega) (w_X4_stepAt (by omega) ev4 (fun _ _ q => q)) (fun E h9 q => nomatch (show (Sum.inr E : tq_R) = Sum.inl _ from q.1)) (fun r9 h9 q => ?_)
      obtain ⟨q1, rfl⟩ := q
      cases (show (Sum.inl r9 : tq_R) = Sum.inl (some (.int v4)) from q1)
      refine tq_istore_n (M := mX4_canStream) (pc := 20) rfl dX4_canStream_20 (L2 := [(3, .int v4), (0, .ref i0), (1, .int i1), (2, .int y2)]) (by decide) rfl ?_
      refine tq_aload_n (M := mX4_canStream) (pc := 21) dX4_canStream_21 rfl ?_
      obtain ⟨k6, ek6, hf⟩ := tq_be hf
      refine tq_getR (M := mX4_canStream) (pc := 22) tk_c4 (by decide) dX4_canStream_22 tk_RX4_20 rfl ek6 ?_
      refine tq_iload_n (M := mX4_canStream) (pc := 25) dX4_canStream_25 rfl ?_
      obtain ⟨⟨⟩, eu8, hf⟩ := tq_be hf
      obtain ⟨fsu8, eu8⟩ := tq_is_s eu8
      obtain ⟨v7, ev7, hf⟩ := tq_be hf
      refine tq_calV (M := mX4_canStream) (pc := 26) (S := []) tk_y_X5_get tk_v_X5_get tk_RX4_48 dX4_canStream_26 [.int v4] rfl (S0 := _) rfl eu8 rfl (Nat.le_of_ble_eq_true rfl) (d1 := d - 1) (b1 := 0) (s1 := 0) (bc' := bc) (bs' := bs) (Q1 := fun r h9 => r = .inl (some (.int v7)) ∧ hh = h9) (by omega) (by omega) (by omega) (w_X5_get (by omega) ev7 (fun _ _ q => q)) (fun E h9 q => nomatch (show (Sum.inr E : tq_R) = Sum.inl _ from q.1)) (fun r9 h9 q => ?_)
      obtain ⟨q1, rfl⟩ := q
      cases (show (Sum.inl r9 : tq_R) = Sum.inl (some (.int v7)) from q1)
      obtain ⟨v9, ev9, hf⟩ := tq_be hf
      refine tq_calS (M := mX4_canStream) (pc := 29) (S := []) tk_y_X4_goesDown tk_s_X4_goesDown tk_RX4_62 dX4_canStream_29 [.int v7] rfl (Nat.le_of_ble_eq_true rfl) (d1 := d - 1) (b1 := 0) (s1 := 0) (bc' := bc) (bs' := bs) (Q1 := fun r h9 => r = .inl (some (.int v9)) ∧ hh = h9) (by omega) (by omega) (by omega) (w_X4_goesDown (by omega) ev9 (fun _ _ q => q)) (fun E h9 q => nomatch (show (Sum.inr E : tq_R) = Sum.inl _ from q.1)) (fun r9 h9 q => ?_)
      obtain ⟨q1, rfl⟩ := q
      cases (show (Sum.inl r9 : tq_R) = Sum.inl (some (.int v9)) from q1)
      refine tq_if_ne (M := mX4_canStream) (pc := 32) (tgt := 37) dX4_canStream_32 (by decide) (fun cc => ?_) (fun cc => ?_)
      · have hf := tq_ifn hf cc
        refine tq_iconst (M := mX4_canStream) (pc := 37) dX4_canStream_37 tk_ki_0 ?_
        refine tq_istore (M := mX4_canStream) (pc := 38) dX4_canStream_38 (L2 := [(4, .int (0 : Int32)), (3, .int v4), (0, .ref i0), (1, .int i1), (2, .int y2)]) (by decide) rfl ?_
        obtain ⟨o18, eo18, hf⟩ := tq_be hf
        refine tq_pick (L2 := [(0, .ref i0), (1, .int i1), (2, .int y2), (3, .int v4), (4, .int (0 : Int32))]) [2, 3, 4, 1, 0] rfl ?_
        refine l_X4_canStream_40 (bc := bc) (bs := bs) (by omega) i0 i1 y2 v4 hh _ (0 : Int32) _ eo18 ?_
        cases o18 with
        | inl o18 =>
          obtain ⟨x19, ex19, hf⟩ := tq_le hf
          refine tq_iinc (M := mX4_canStream) (pc := 75) (v := x19) (L2 := [(2, .int x19), (0, .ref i0), (1, .int i1)]) dX4_canStream_75 rfl (by rw [ex19, tk_ki_1]) (by decide) rfl ?_
          refine tq_goto (M := mX4_canStream) (pc := 78) (tgt := 2) dX4_canStream_78 (by decide) ?_
          refine tq_pick (L2 := [(0, .ref i0), (1, .int i1), (2, .int x19)]) [1, 2, 0] rfl ?_
          cases (Option.some.inj hf)
          exact ih _ o (tq_lc ho) hk
        | inr e9 =>
          cases (Option.some.inj hf)
          cases (tq_lx ho)
          exact hk
      · have hf := tq_ifp hf cc
        refine tq_iconst (M := mX4_canStream) (pc := 35) dX4_canStream_35 tk_ki_0 ?_
        refine tq_zret (M := mX4_canStream) (pc := 36) dX4_canStream_36 rfl (Or.inl rfl) ?_
        cases (Option.some.inj hf)
        cases (tq_lx ho)
        exact hk _ _ ⟨rfl, rfl⟩
set_option maxHeartbeats 4000000 in
set_option maxRecDepth 20000 in
theorem w_X4_canStream {l : Launch} {d : Nat} (hd9 : 3 ≤ d) {t : Nat} {a1 : Int32} {h : tq_H} {o : Int32} {Q : tq_R → tq_H → Prop} (hf : f_X4_canStream t a1 h = some o) (hQ : ∀ r h9, r = .inl (some (.int o)) ∧ h = h9 → Q r h9) : tq_C l yX4_canStream cX4_canStream 5 (some .boolean) d 0 0 [.ref t, .int a1] h Q := by
  refine tq_body (y := yX4_canStream) false (by decide +kernel) (fun z => by cases z) (Nat.le_of_ble_eq_true rfl) ?_
  show tq_W l mX4_canStream d 0 0 Q 0 [(0, .ref t), (1, .int a1)] [] h
  refine tq_iconst (M := mX4_canStream) (pc := 0) dX4_canStream_0 tk_ki_0 ?_
  refine tq_istore_n (M := mX4_canStream) (pc := 1) rfl dX4_canStream_1 (L2 := [(2, .int (0 : Int32)), (0, .ref t), (1, .int a1)]) (by decide) rfl ?_
  obtain ⟨o20, eo20, hf⟩ := tq_be hf
  refine tq_pick (L2 := [(0, .ref t), (1, .int a1), (2, .int (0 : Int32))]) [1, 2, 0] rfl ?_
  refine l_X4_canStream_2 (bc := 0) (bs := 0) (by omega) t a1 h _ (0 : Int32) _ eo20 ?_
  cases o20 with
  | inl o20 =>
    refine tq_iconst (M := mX4_canStream) (pc := 81) dX4_canStream_81 tk_ki_1 ?_
    refine tq_zret (M := mX4_canStream) (pc := 82) dX4_canStream_82 rfl (Or.inr rfl) ?_
    cases (Option.some.inj hf)
    exact hQ _ _ ⟨rfl, rfl⟩
  | inr e9 =>
    cases (Option.some.inj hf)
    exact hQ
