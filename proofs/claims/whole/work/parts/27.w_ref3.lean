/-! ===== printed by wip/whole/tools: TreequeryModel 3 ===== -/
abbrev cX11_isType : ByteArray := prog_13_method_87_code
def yX11_isType : MethodName := ⟨RX11, "isType", "(I)Z"⟩
theorem dX11_isType_0 : decode cX11_isType 0 = .ok (.iload_n 0, 1) := by decide +kernel
theorem dX11_isType_1 : decode cX11_isType 1 = .ok (.iconst 0, 1) := by decide +kernel
theorem dX11_isType_2 : decode cX11_isType 2 = .ok (.iconst 5, 1) := by decide +kernel
theorem dX11_isType_3 : decode cX11_isType 3 = .ok (.invokestatic 169, 3) := by decide +kernel
theorem dX11_isType_6 : decode cX11_isType 6 = .ok (.ireturn, 1) := by decide +kernel
abbrev cX11_isState : ByteArray := prog_13_method_88_code
def yX11_isState : MethodName := ⟨RX11, "isState", "(I)Z"⟩
theorem dX11_isState_0 : decode cX11_isState 0 = .ok (.iload_n 0, 1) := by decide +kernel
theorem dX11_isState_1 : decode cX11_isState 1 = .ok (.iconst 0, 1) := by decide +kernel
theorem dX11_isState_2 : decode cX11_isState 2 = .ok (.iconst 3, 1) := by decide +kernel
theorem dX11_isState_3 : decode cX11_isState 3 = .ok (.invokestatic 169, 3) := by decide +kernel
theorem dX11_isState_6 : decode cX11_isState 6 = .ok (.ireturn, 1) := by decide +kernel
abbrev cX11_nameType : ByteArray := prog_13_method_89_code
def yX11_nameType : MethodName := ⟨RX11, "nameType", "(II)I"⟩
theorem dX11_nameType_0 : decode cX11_nameType 0 = .ok (.aload_n 0, 1) := by decide +kernel
theorem dX11_nameType_1 : decode cX11_nameType 1 = .ok (.iload_n 1, 1) := by decide +kernel
theorem dX11_nameType_2 : decode cX11_nameType 2 = .ok (.invokestatic 376, 3) := by decide +kernel
theorem dX11_nameType_5 : decode cX11_nameType 5 = .ok (.ifCond .ne 7, 3) := by decide +kernel
theorem dX11_nameType_8 : decode cX11_nameType 8 = .ok (.iconst 1, 1) := by decide +kernel
theorem dX11_nameType_9 : decode cX11_nameType 9 = .ok (.goto 29, 3) := by decide +kernel
theorem dX11_nameType_12 : decode cX11_nameType 12 = .ok (.iload_n 2, 1) := by decide +kernel
theorem dX11_nameType_13 : decode cX11_nameType 13 = .ok (.iconst (-1), 1) := by decide +kernel
theorem dX11_nameType_14 : decode cX11_nameType 14 = .ok (.bipush 7, 2) := by decide +kernel
theorem dX11_nameType_16 : decode cX11_nameType 16 = .ok (.invokestatic 169, 3) := by decide +kernel
theorem dX11_nameType_19 : decode cX11_nameType 19 = .ok (.ifCond .ne 7, 3) := by decide +kernel
theorem dX11_nameType_22 : decode cX11_nameType 22 = .ok (.iconst 2, 1) := by decide +kernel
theorem dX11_nameType_23 : decode cX11_nameType 23 = .ok (.goto 15, 3) := by decide +kernel
theorem dX11_nameType_26 : decode cX11_nameType 26 = .ok (.aload_n 0, 1) := by decide +kernel
theorem dX11_nameType_27 : decode cX11_nameType 27 = .ok (.getfield 244, 3) := by decide +kernel
theorem dX11_nameType_30 : decode cX11_nameType 30 = .ok (.ifCond .eq 7, 3) := by decide +kernel
theorem dX11_nameType_33 : decode cX11_nameType 33 = .ok (.iconst 3, 1) := by decide +kernel
theorem dX11_nameType_34 : decode cX11_nameType 34 = .ok (.goto 4, 3) := by decide +kernel
theorem dX11_nameType_37 : decode cX11_nameType 37 = .ok (.iconst 0, 1) := by decide +kernel
theorem dX11_nameType_38 : decode cX11_nameType 38 = .ok (.invokevirtual 204, 3) := by decide +kernel
theorem dX11_nameType_41 : decode cX11_nameType 41 = .ok (.ifCond .eq 5, 3) := by decide +kernel
theorem dX11_nameType_44 : decode cX11_nameType 44 = .ok (.iconst 0, 1) := by decide +kernel
theorem dX11_nameType_45 : decode cX11_nameType 45 = .ok (.ireturn, 1) := by decide +kernel
theorem dX11_nameType_46 : decode cX11_nameType 46 = .ok (.aload_n 0, 1) := by decide +kernel
theorem dX11_nameType_47 : decode cX11_nameType 47 = .ok (.getfield 93, 3) := by decide +kernel
theorem dX11_nameType_50 : decode cX11_nameType 50 = .ok (.iload_n 1, 1) := by decide +kernel
theorem dX11_nameType_51 : decode cX11_nameType 51 = .ok (.iaload, 1) := by decide +kernel
theorem dX11_nameType_52 : decode cX11_nameType 52 = .ok (.istore_n 3, 1) := by decide +kernel
theorem dX11_nameType_53 : decode cX11_nameType 53 = .ok (.aload_n 0, 1) := by decide +kernel
theorem dX11_nameType_54 : decode cX11_nameType 54 = .ok (.getfield 93, 3) := by decide +kernel
theorem dX11_nameType_57 : decode cX11_nameType 57 = .ok (.iload_n 1, 1) := by decide +kernel
theorem dX11_nameType_58 : decode cX11_nameType 58 = .ok (.iload_n 2, 1) := by decide +kernel
theorem dX11_nameType_59 : decode cX11_nameType 59 = .ok (.iastore, 1) := by decide +kernel
theorem dX11_nameType_60 : decode cX11_nameType 60 = .ok (.iload_n 3, 1) := by decide +kernel
theorem dX11_nameType_61 : decode cX11_nameType 61 = .ok (.ireturn, 1) := by decide +kernel
abbrev cX11_arc : ByteArray := prog_13_method_90_code
def yX11_arc : MethodName := ⟨RX11, "arc", "(IIII)Z"⟩
theorem dX11_arc_0 : decode cX11_arc 0 = .ok (.iload_n 1, 1) := by decide +kernel
theorem dX11_arc_1 : decode cX11_arc 1 = .ok (.invokestatic 376, 3) := by decide +kernel
theorem dX11_arc_4 : decode cX11_arc 4 = .ok (.ifCond .eq 29, 3) := by decide +kernel
theorem dX11_arc_7 : decode cX11_arc 7 = .ok (.iload_n 2, 1) := by decide +kernel
theorem dX11_arc_8 : decode cX11_arc 8 = .ok (.invokestatic 379, 3) := by decide +kernel
theorem dX11_arc_11 : decode cX11_arc 11 = .ok (.ifCond .eq 22, 3) := by decide +kernel
theorem dX11_arc_14 : decode cX11_arc 14 = .ok (.iload_n 3, 1) := by decide +kernel
theorem dX11_arc_15 : decode cX11_arc 15 = .ok (.invokestatic 376, 3) := by decide +kernel
theorem dX11_arc_18 : decode cX11_arc 18 = .ok (.ifCond .eq 15, 3) := by decide +kernel
theorem dX11_arc_21 : decode cX11_arc 21 = .ok (.iload 4, 2) := by decide +kernel
theorem dX11_arc_23 : decode cX11_arc 23 = .ok (.invokestatic 379, 3) := by decide +kernel
theorem dX11_arc_26 : decode cX11_arc 26 = .ok (.ifCond .eq 7, 3) := by decide +kernel
theorem dX11_arc_29 : decode cX11_arc 29 = .ok (.iconst 1, 1) := by decide +kernel
theorem dX11_arc_30 : decode cX11_arc 30 = .ok (.goto 4, 3) := by decide +kernel
theorem dX11_arc_33 : decode cX11_arc 33 = .ok (.iconst 0, 1) := by decide +kernel
theorem dX11_arc_34 : decode cX11_arc 34 = .ok (.istore 5, 2) := by decide +kernel
theorem dX11_arc_36 : decode cX11_arc 36 = .ok (.aload_n 0, 1) := by decide +kernel
theorem dX11_arc_37 : decode cX11_arc 37 = .ok (.iload 5, 2) := by decide +kernel
theorem dX11_arc_39 : decode cX11_arc 39 = .ok (.ifCond .ne 7, 3) := by decide +kernel
theorem dX11_arc_42 : decode cX11_arc 42 = .ok (.iconst 1, 1) := by decide +kernel
theorem dX11_arc_43 : decode cX11_arc 43 = .ok (.goto 15, 3) := by decide +kernel
theorem dX11_arc_46 : decode cX11_arc 46 = .ok (.aload_n 0, 1) := by decide +kernel
theorem dX11_arc_47 : decode cX11_arc 47 = .ok (.getfield 244, 3) := by decide +kernel
theorem dX11_arc_50 : decode cX11_arc 50 = .ok (.ifCond .eq 7, 3) := by decide +kernel
theorem dX11_arc_53 : decode cX11_arc 53 = .ok (.iconst 2, 1) := by decide +kernel
theorem dX11_arc_54 : decode cX11_arc 54 = .ok (.goto 4, 3) := by decide +kernel
theorem dX11_arc_57 : decode cX11_arc 57 = .ok (.iconst 0, 1) := by decide +kernel
theorem dX11_arc_58 : decode cX11_arc 58 = .ok (.invokevirtual 204, 3) := by decide +kernel
theorem dX11_arc_61 : decode cX11_arc 61 = .ok (.ifCond .eq 5, 3) := by decide +kernel
theorem dX11_arc_64 : decode cX11_arc 64 = .ok (.iconst 0, 1) := by decide +kernel
theorem dX11_arc_65 : decode cX11_arc 65 = .ok (.ireturn, 1) := by decide +kernel
theorem dX11_arc_66 : decode cX11_arc 66 = .ok (.bipush 24, 2) := by decide +kernel
theorem dX11_arc_68 : decode cX11_arc 68 = .ok (.iload_n 1, 1) := by decide +kernel
theorem dX11_arc_69 : decode cX11_arc 69 = .ok (.imul, 1) := by decide +kernel
theorem dX11_arc_70 : decode cX11_arc 70 = .ok (.bipush 6, 2) := by decide +kernel
theorem dX11_arc_72 : decode cX11_arc 72 = .ok (.iload_n 2, 1) := by decide +kernel
theorem dX11_arc_73 : decode cX11_arc 73 = .ok (.imul, 1) := by decide +kernel
theorem dX11_arc_74 : decode cX11_arc 74 = .ok (.iadd, 1) := by decide +kernel
theorem dX11_arc_75 : decode cX11_arc 75 = .ok (.iload_n 3, 1) := by decide +kernel
theorem dX11_arc_76 : decode cX11_arc 76 = .ok (.iadd, 1) := by decide +kernel
theorem dX11_arc_77 : decode cX11_arc 77 = .ok (.istore 6, 2) := by decide +kernel
theorem dX11_arc_79 : decode cX11_arc 79 = .ok (.aload_n 0, 1) := by decide +kernel
theorem dX11_arc_80 : decode cX11_arc 80 = .ok (.getfield 105, 3) := by decide +kernel
theorem dX11_arc_83 : decode cX11_arc 83 = .ok (.iload 6, 2) := by decide +kernel
theorem dX11_arc_85 : decode cX11_arc 85 = .ok (.dup2, 1) := by decide +kernel
theorem dX11_arc_86 : decode cX11_arc 86 = .ok (.iaload, 1) := by decide +kernel
theorem dX11_arc_87 : decode cX11_arc 87 = .ok (.iconst 1, 1) := by decide +kernel
theorem dX11_arc_88 : decode cX11_arc 88 = .ok (.iload 4, 2) := by decide +kernel
theorem dX11_arc_90 : decode cX11_arc 90 = .ok (.ishl, 1) := by decide +kernel
theorem dX11_arc_91 : decode cX11_arc 91 = .ok (.ixor, 1) := by decide +kernel
theorem dX11_arc_92 : decode cX11_arc 92 = .ok (.iastore, 1) := by decide +kernel
theorem dX11_arc_93 : decode cX11_arc 93 = .ok (.aload_n 0, 1) := by decide +kernel
theorem dX11_arc_94 : decode cX11_arc 94 = .ok (.getfield 105, 3) := by decide +kernel
theorem dX11_arc_97 : decode cX11_arc 97 = .ok (.iload 6, 2) := by decide +kernel
theorem dX11_arc_99 : decode cX11_arc 99 = .ok (.iaload, 1) := by decide +kernel
theorem dX11_arc_100 : decode cX11_arc 100 = .ok (.iload 4, 2) := by decide +kernel
theorem dX11_arc_102 : decode cX11_arc 102 = .ok (.ishr, 1) := by decide +kernel
theorem dX11_arc_103 : decode cX11_arc 103 = .ok (.iconst 1, 1) := by decide +kernel
theorem dX11_arc_104 : decode cX11_arc 104 = .ok (.iand, 1) := by decide +kernel
theorem dX11_arc_105 : decode cX11_arc 105 = .ok (.iconst 1, 1) := by decide +kernel
theorem dX11_arc_106 : decode cX11_arc 106 = .ok (.if_icmp .ne 7, 3) := by decide +kernel
theorem dX11_arc_109 : decode cX11_arc 109 = .ok (.iconst 1, 1) := by decide +kernel
theorem dX11_arc_110 : decode cX11_arc 110 = .ok (.goto 4, 3) := by decide +kernel
theorem dX11_arc_113 : decode cX11_arc 113 = .ok (.iconst 0, 1) := by decide +kernel
theorem dX11_arc_114 : decode cX11_arc 114 = .ok (.ireturn, 1) := by decide +kernel
abbrev cX11_setFinal : ByteArray := prog_13_method_91_code
def yX11_setFinal : MethodName := ⟨RX11, "setFinal", "(IIZ)Z"⟩
theorem dX11_setFinal_0 : decode cX11_setFinal 0 = .ok (.aload_n 0, 1) := by decide +kernel
theorem dX11_setFinal_1 : decode cX11_setFinal 1 = .ok (.iload_n 1, 1) := by decide +kernel
theorem dX11_setFinal_2 : decode cX11_setFinal 2 = .ok (.invokestatic 376, 3) := by decide +kernel
theorem dX11_setFinal_5 : decode cX11_setFinal 5 = .ok (.ifCond .eq 10, 3) := by decide +kernel
theorem dX11_setFinal_8 : decode cX11_setFinal 8 = .ok (.iload_n 2, 1) := by decide +kernel
theorem dX11_setFinal_9 : decode cX11_setFinal 9 = .ok (.invokestatic 379, 3) := by decide +kernel
theorem dX11_setFinal_12 : decode cX11_setFinal 12 = .ok (.ifCond .ne 7, 3) := by decide +kernel
theorem dX11_setFinal_15 : decode cX11_setFinal 15 = .ok (.iconst 1, 1) := by decide +kernel
theorem dX11_setFinal_16 : decode cX11_setFinal 16 = .ok (.goto 15, 3) := by decide +kernel
theorem dX11_setFinal_19 : decode cX11_setFinal 19 = .ok (.aload_n 0, 1) := by decide +kernel
theorem dX11_setFinal_20 : decode cX11_setFinal 20 = .ok (.getfield 244, 3) := by decide +kernel
theorem dX11_setFinal_23 : decode cX11_setFinal 23 = .ok (.ifCond .eq 7, 3) := by decide +kernel
theorem dX11_setFinal_26 : decode cX11_setFinal 26 = .ok (.iconst 2, 1) := by decide +kernel
theorem dX11_setFinal_27 : decode cX11_setFinal 27 = .ok (.goto 4, 3) := by decide +kernel
theorem dX11_setFinal_30 : decode cX11_setFinal 30 = .ok (.iconst 0, 1) := by decide +kernel
theorem dX11_setFinal_31 : decode cX11_setFinal 31 = .ok (.invokevirtual 204, 3) := by decide +kernel
theorem dX11_setFinal_34 : decode cX11_setFinal 34 = .ok (.ifCond .eq 5, 3) := by decide +kernel
theorem dX11_setFinal_37 : decode cX11_setFinal 37 = .ok (.iconst 0, 1) := by decide +kernel
theorem dX11_setFinal_38 : decode cX11_setFinal 38 = .ok (.ireturn, 1) := by decide +kernel
theorem dX11_setFinal_39 : decode cX11_setFinal 39 = .ok (.aload_n 0, 1) := by decide +kernel
theorem dX11_setFinal_40 : decode cX11_setFinal 40 = .ok (.getfield 102, 3) := by decide +kernel
theorem dX11_setFinal_43 : decode cX11_setFinal 43 = .ok (.iload_n 1, 1) := by decide +kernel
theorem dX11_setFinal_44 : decode cX11_setFinal 44 = .ok (.iaload, 1) := by decide +kernel
theorem dX11_setFinal_45 : decode cX11_setFinal 45 = .ok (.iload_n 2, 1) := by decide +kernel
theorem dX11_setFinal_46 : decode cX11_setFinal 46 = .ok (.ishr, 1) := by decide +kernel
theorem dX11_setFinal_47 : decode cX11_setFinal 47 = .ok (.iconst 1, 1) := by decide +kernel
theorem dX11_setFinal_48 : decode cX11_setFinal 48 = .ok (.iand, 1) := by decide +kernel
theorem dX11_setFinal_49 : decode cX11_setFinal 49 = .ok (.iconst 1, 1) := by decide +kernel
theorem dX11_setFinal_50 : decode cX11_setFinal 50 = .ok (.if_icmp .ne 7, 3) := by decide +kernel
theorem dX11_setFinal_53 : decode cX11_setFinal 53 = .ok (.iconst 1, 1) := by decide +kernel
theorem dX11_setFinal_54 : decode cX11_setFinal 54 = .ok (.goto 4, 3) := by decide +kernel
theorem dX11_setFinal_57 : decode cX11_setFinal 57 = .ok (.iconst 0, 1) := by decide +kernel
theorem dX11_setFinal_58 : decode cX11_setFinal 58 = .ok (.istore 4, 2) := by decide +kernel
theorem dX11_setFinal_60 : decode cX11_setFinal 60 = .ok (.aload_n 0, 1) := by decide +kernel
theorem dX11_setFinal_61 : decode cX11_setFinal 61 = .ok (.getfield 102, 3) := by decide +kernel
theorem dX11_setFinal_64 : decode cX11_setFinal 64 = .ok (.iload_n 1, 1) := by decide +kernel
theorem dX11_setFinal_65 : decode cX11_setFinal 65 = .ok (.iload_n 3, 1) := by decide +kernel
theorem dX11_setFinal_66 : decode cX11_setFinal 66 = .ok (.ifCond .eq 16, 3) := by decide +kernel
theorem dX11_setFinal_69 : decode cX11_setFinal 69 = .ok (.aload_n 0, 1) := by decide +kernel
theorem dX11_setFinal_70 : decode cX11_setFinal 70 = .ok (.getfield 102, 3) := by decide +kernel
theorem dX11_setFinal_73 : decode cX11_setFinal 73 = .ok (.iload_n 1, 1) := by decide +kernel
theorem dX11_setFinal_74 : decode cX11_setFinal 74 = .ok (.iaload, 1) := by decide +kernel
theorem dX11_setFinal_75 : decode cX11_setFinal 75 = .ok (.iconst 1, 1) := by decide +kernel
theorem dX11_setFinal_76 : decode cX11_setFinal 76 = .ok (.iload_n 2, 1) := by decide +kernel
theorem dX11_setFinal_77 : decode cX11_setFinal 77 = .ok (.ishl, 1) := by decide +kernel
theorem dX11_setFinal_78 : decode cX11_setFinal 78 = .ok (.ior, 1) := by decide +kernel
theorem dX11_setFinal_79 : decode cX11_setFinal 79 = .ok (.goto 15, 3) := by decide +kernel
theorem dX11_setFinal_82 : decode cX11_setFinal 82 = .ok (.aload_n 0, 1) := by decide +kernel
theorem dX11_setFinal_83 : decode cX11_setFinal 83 = .ok (.getfield 102, 3) := by decide +kernel
theorem dX11_setFinal_86 : decode cX11_setFinal 86 = .ok (.iload_n 1, 1) := by decide +kernel
theorem dX11_setFinal_87 : decode cX11_setFinal 87 = .ok (.iaload, 1) := by decide +kernel
theorem dX11_setFinal_88 : decode cX11_setFinal 88 = .ok (.iconst 1, 1) := by decide +kernel
theorem dX11_setFinal_89 : decode cX11_setFinal 89 = .ok (.iload_n 2, 1) := by decide +kernel
theorem dX11_setFinal_90 : decode cX11_setFinal 90 = .ok (.ishl, 1) := by decide +kernel
theorem dX11_setFinal_91 : decode cX11_setFinal 91 = .ok (.iconst (-1), 1) := by decide +kernel
theorem dX11_setFinal_92 : decode cX11_setFinal 92 = .ok (.ixor, 1) := by decide +kernel
theorem dX11_setFinal_93 : decode cX11_setFinal 93 = .ok (.iand, 1) := by decide +kernel
theorem dX11_setFinal_94 : decode cX11_setFinal 94 = .ok (.iastore, 1) := by decide +kernel
theorem dX11_setFinal_95 : decode cX11_setFinal 95 = .ok (.iload 4, 2) := by decide +kernel
theorem dX11_setFinal_97 : decode cX11_setFinal 97 = .ok (.ireturn, 1) := by decide +kernel
abbrev cX11_allowTexts : ByteArray := prog_13_method_92_code
def yX11_allowTexts : MethodName := ⟨RX11, "allowTexts", "(IZ)Z"⟩
theorem dX11_allowTexts_0 : decode cX11_allowTexts 0 = .ok (.aload_n 0, 1) := by decide +kernel
theorem dX11_allowTexts_1 : decode cX11_allowTexts 1 = .ok (.iload_n 1, 1) := by decide +kernel
theorem dX11_allowTexts_2 : decode cX11_allowTexts 2 = .ok (.invokestatic 376, 3) := by decide +kernel
theorem dX11_allowTexts_5 : decode cX11_allowTexts 5 = .ok (.ifCond .ne 7, 3) := by decide +kernel
theorem dX11_allowTexts_8 : decode cX11_allowTexts 8 = .ok (.iconst 1, 1) := by decide +kernel
theorem dX11_allowTexts_9 : decode cX11_allowTexts 9 = .ok (.goto 15, 3) := by decide +kernel
theorem dX11_allowTexts_12 : decode cX11_allowTexts 12 = .ok (.aload_n 0, 1) := by decide +kernel
theorem dX11_allowTexts_13 : decode cX11_allowTexts 13 = .ok (.getfield 244, 3) := by decide +kernel
theorem dX11_allowTexts_16 : decode cX11_allowTexts 16 = .ok (.ifCond .eq 7, 3) := by decide +kernel
theorem dX11_allowTexts_19 : decode cX11_allowTexts 19 = .ok (.iconst 2, 1) := by decide +kernel
theorem dX11_allowTexts_20 : decode cX11_allowTexts 20 = .ok (.goto 4, 3) := by decide +kernel
theorem dX11_allowTexts_23 : decode cX11_allowTexts 23 = .ok (.iconst 0, 1) := by decide +kernel
theorem dX11_allowTexts_24 : decode cX11_allowTexts 24 = .ok (.invokevirtual 204, 3) := by decide +kernel
theorem dX11_allowTexts_27 : decode cX11_allowTexts 27 = .ok (.ifCond .eq 5, 3) := by decide +kernel
theorem dX11_allowTexts_30 : decode cX11_allowTexts 30 = .ok (.iconst 0, 1) := by decide +kernel
theorem dX11_allowTexts_31 : decode cX11_allowTexts 31 = .ok (.ireturn, 1) := by decide +kernel
theorem dX11_allowTexts_32 : decode cX11_allowTexts 32 = .ok (.aload_n 0, 1) := by decide +kernel
theorem dX11_allowTexts_33 : decode cX11_allowTexts 33 = .ok (.getfield 96, 3) := by decide +kernel
theorem dX11_allowTexts_36 : decode cX11_allowTexts 36 = .ok (.iload_n 1, 1) := by decide +kernel
theorem dX11_allowTexts_37 : decode cX11_allowTexts 37 = .ok (.baload, 1) := by decide +kernel
theorem dX11_allowTexts_38 : decode cX11_allowTexts 38 = .ok (.istore_n 3, 1) := by decide +kernel
theorem dX11_allowTexts_39 : decode cX11_allowTexts 39 = .ok (.aload_n 0, 1) := by decide +kernel
theorem dX11_allowTexts_40 : decode cX11_allowTexts 40 = .ok (.getfield 96, 3) := by decide +kernel
theorem dX11_allowTexts_43 : decode cX11_allowTexts 43 = .ok (.iload_n 1, 1) := by decide +kernel
theorem dX11_allowTexts_44 : decode cX11_allowTexts 44 = .ok (.iload_n 2, 1) := by decide +kernel
theorem dX11_allowTexts_45 : decode cX11_allowTexts 45 = .ok (.bastore, 1) := by decide +kernel
theorem dX11_allowTexts_46 : decode cX11_allowTexts 46 = .ok (.iload_n 3, 1) := by decide +kernel
theorem dX11_allowTexts_47 : decode cX11_allowTexts 47 = .ok (.ireturn, 1) := by decide +kernel
abbrev cX11_attribute : ByteArray := prog_13_method_93_code
def yX11_attribute : MethodName := ⟨RX11, "attribute", "(III)I"⟩
theorem dX11_attribute_0 : decode cX11_attribute 0 = .ok (.iload_n 2, 1) := by decide +kernel
theorem dX11_attribute_1 : decode cX11_attribute 1 = .ok (.iconst 0, 1) := by decide +kernel
theorem dX11_attribute_2 : decode cX11_attribute 2 = .ok (.bipush 7, 2) := by decide +kernel
theorem dX11_attribute_4 : decode cX11_attribute 4 = .ok (.invokestatic 169, 3) := by decide +kernel
theorem dX11_attribute_7 : decode cX11_attribute 7 = .ok (.ifCond .eq 16, 3) := by decide +kernel
theorem dX11_attribute_10 : decode cX11_attribute 10 = .ok (.iload_n 3, 1) := by decide +kernel
theorem dX11_attribute_11 : decode cX11_attribute 11 = .ok (.iconst 0, 1) := by decide +kernel
theorem dX11_attribute_12 : decode cX11_attribute 12 = .ok (.iconst 2, 1) := by decide +kernel
theorem dX11_attribute_13 : decode cX11_attribute 13 = .ok (.invokestatic 169, 3) := by decide +kernel
theorem dX11_attribute_16 : decode cX11_attribute 16 = .ok (.ifCond .eq 7, 3) := by decide +kernel
theorem dX11_attribute_19 : decode cX11_attribute 19 = .ok (.iconst 1, 1) := by decide +kernel
theorem dX11_attribute_20 : decode cX11_attribute 20 = .ok (.goto 4, 3) := by decide +kernel
theorem dX11_attribute_23 : decode cX11_attribute 23 = .ok (.iconst 0, 1) := by decide +kernel
theorem dX11_attribute_24 : decode cX11_attribute 24 = .ok (.istore 4, 2) := by decide +kernel
theorem dX11_attribute_26 : decode cX11_attribute 26 = .ok (.aload_n 0, 1) := by decide +kernel
theorem dX11_attribute_27 : decode cX11_attribute 27 = .ok (.iload_n 1, 1) := by decide +kernel
theorem dX11_attribute_28 : decode cX11_attribute 28 = .ok (.invokestatic 376, 3) := by decide +kernel
theorem dX11_attribute_31 : decode cX11_attribute 31 = .ok (.ifCond .ne 7, 3) := by decide +kernel
theorem dX11_attribute_34 : decode cX11_attribute 34 = .ok (.iconst 1, 1) := by decide +kernel
theorem dX11_attribute_35 : decode cX11_attribute 35 = .ok (.goto 24, 3) := by decide +kernel
theorem dX11_attribute_38 : decode cX11_attribute 38 = .ok (.iload 4, 2) := by decide +kernel
theorem dX11_attribute_40 : decode cX11_attribute 40 = .ok (.ifCond .ne 7, 3) := by decide +kernel
theorem dX11_attribute_43 : decode cX11_attribute 43 = .ok (.iconst 2, 1) := by decide +kernel
theorem dX11_attribute_44 : decode cX11_attribute 44 = .ok (.goto 15, 3) := by decide +kernel
theorem dX11_attribute_47 : decode cX11_attribute 47 = .ok (.aload_n 0, 1) := by decide +kernel
theorem dX11_attribute_48 : decode cX11_attribute 48 = .ok (.getfield 244, 3) := by decide +kernel
theorem dX11_attribute_51 : decode cX11_attribute 51 = .ok (.ifCond .eq 7, 3) := by decide +kernel
theorem dX11_attribute_54 : decode cX11_attribute 54 = .ok (.iconst 3, 1) := by decide +kernel
theorem dX11_attribute_55 : decode cX11_attribute 55 = .ok (.goto 4, 3) := by decide +kernel
theorem dX11_attribute_58 : decode cX11_attribute 58 = .ok (.iconst 0, 1) := by decide +kernel
theorem dX11_attribute_59 : decode cX11_attribute 59 = .ok (.invokevirtual 204, 3) := by decide +kernel
theorem dX11_attribute_62 : decode cX11_attribute 62 = .ok (.ifCond .eq 5, 3) := by decide +kernel
theorem dX11_attribute_65 : decode cX11_attribute 65 = .ok (.iconst 0, 1) := by decide +kernel
theorem dX11_attribute_66 : decode cX11_attribute 66 = .ok (.ireturn, 1) := by decide +kernel
theorem dX11_attribute_67 : decode cX11_attribute 67 = .ok (.aload_n 0, 1) := by decide +kernel
theorem dX11_attribute_68 : decode cX11_attribute 68 = .ok (.getfield 99, 3) := by decide +kernel
theorem dX11_attribute_71 : decode cX11_attribute 71 = .ok (.bipush 8, 2) := by decide +kernel
theorem dX11_attribute_73 : decode cX11_attribute 73 = .ok (.iload_n 1, 1) := by decide +kernel
theorem dX11_attribute_74 : decode cX11_attribute 74 = .ok (.imul, 1) := by decide +kernel
theorem dX11_attribute_75 : decode cX11_attribute 75 = .ok (.iload_n 2, 1) := by decide +kernel
theorem dX11_attribute_76 : decode cX11_attribute 76 = .ok (.iadd, 1) := by decide +kernel
theorem dX11_attribute_77 : decode cX11_attribute 77 = .ok (.iaload, 1) := by decide +kernel
theorem dX11_attribute_78 : decode cX11_attribute 78 = .ok (.istore 5, 2) := by decide +kernel
theorem dX11_attribute_80 : decode cX11_attribute 80 = .ok (.aload_n 0, 1) := by decide +kernel
theorem dX11_attribute_81 : decode cX11_attribute 81 = .ok (.getfield 99, 3) := by decide +kernel
theorem dX11_attribute_84 : decode cX11_attribute 84 = .ok (.bipush 8, 2) := by decide +kernel
theorem dX11_attribute_86 : decode cX11_attribute 86 = .ok (.iload_n 1, 1) := by decide +kernel
theorem dX11_attribute_87 : decode cX11_attribute 87 = .ok (.imul, 1) := by decide +kernel
theorem dX11_attribute_88 : decode cX11_attribute 88 = .ok (.iload_n 2, 1) := by decide +kernel
theorem dX11_attribute_89 : decode cX11_attribute 89 = .ok (.iadd, 1) := by decide +kernel
theorem dX11_attribute_90 : decode cX11_attribute 90 = .ok (.iload_n 3, 1) := by decide +kernel
theorem dX11_attribute_91 : decode cX11_attribute 91 = .ok (.iastore, 1) := by decide +kernel
theorem dX11_attribute_92 : decode cX11_attribute 92 = .ok (.iload 5, 2) := by decide +kernel
theorem dX11_attribute_94 : decode cX11_attribute 94 = .ok (.ireturn, 1) := by decide +kernel
abbrev cX11_setStrict : ByteArray := prog_13_method_97_code
def yX11_setStrict : MethodName := ⟨RX11, "setStrict", "(Z)Z"⟩
theorem dX11_setStrict_0 : decode cX11_setStrict 0 = .ok (.aload_n 0, 1) := by decide +kernel
theorem dX11_setStrict_1 : decode cX11_setStrict 1 = .ok (.iload_n 1, 1) := by decide +kernel
theorem dX11_setStrict_2 : decode cX11_setStrict 2 = .ok (.ifCond .eq 14, 3) := by decide +kernel
theorem dX11_setStrict_5 : decode cX11_setStrict 5 = .ok (.aload_n 0, 1) := by decide +kernel
theorem dX11_setStrict_6 : decode cX11_setStrict 6 = .ok (.invokevirtual 248, 3) := by decide +kernel
theorem dX11_setStrict_9 : decode cX11_setStrict 9 = .ok (.ifCond .ne 7, 3) := by decide +kernel
theorem dX11_setStrict_12 : decode cX11_setStrict 12 = .ok (.iconst 1, 1) := by decide +kernel
theorem dX11_setStrict_13 : decode cX11_setStrict 13 = .ok (.goto 4, 3) := by decide +kernel
theorem dX11_setStrict_16 : decode cX11_setStrict 16 = .ok (.iconst 0, 1) := by decide +kernel
theorem dX11_setStrict_17 : decode cX11_setStrict 17 = .ok (.invokevirtual 204, 3) := by decide +kernel
theorem dX11_setStrict_20 : decode cX11_setStrict 20 = .ok (.ifCond .eq 5, 3) := by decide +kernel
theorem dX11_setStrict_23 : decode cX11_setStrict 23 = .ok (.iconst 0, 1) := by decide +kernel
theorem dX11_setStrict_24 : decode cX11_setStrict 24 = .ok (.ireturn, 1) := by decide +kernel
theorem dX11_setStrict_25 : decode cX11_setStrict 25 = .ok (.aload_n 0, 1) := by decide +kernel
theorem dX11_setStrict_26 : decode cX11_setStrict 26 = .ok (.getfield 244, 3) := by decide +kernel
theorem dX11_setStrict_29 : decode cX11_setStrict 29 = .ok (.istore_n 2, 1) := by decide +kernel
theorem dX11_setStrict_30 : decode cX11_setStrict 30 = .ok (.aload_n 0, 1) := by decide +kernel
theorem dX11_setStrict_31 : decode cX11_setStrict 31 = .ok (.iload_n 1, 1) := by decide +kernel
theorem dX11_setStrict_32 : decode cX11_setStrict 32 = .ok (.putfield 244, 3) := by decide +kernel
theorem dX11_setStrict_35 : decode cX11_setStrict 35 = .ok (.iload_n 2, 1) := by decide +kernel
theorem dX11_setStrict_36 : decode cX11_setStrict 36 = .ok (.ireturn, 1) := by decide +kernel
abbrev cX11_isValid : ByteArray := prog_13_method_98_code
def yX11_isValid : MethodName := ⟨RX11, "isValid", "()Z"⟩
theorem dX11_isValid_0 : decode cX11_isValid 0 = .ok (.aload_n 0, 1) := by decide +kernel
theorem dX11_isValid_1 : decode cX11_isValid 1 = .ok (.iconst 0, 1) := by decide +kernel
theorem dX11_isValid_2 : decode cX11_isValid 2 = .ok (.putfield 166, 3) := by decide +kernel
theorem dX11_isValid_5 : decode cX11_isValid 5 = .ok (.aload_n 0, 1) := by decide +kernel
theorem dX11_isValid_6 : decode cX11_isValid 6 = .ok (.invokevirtual 248, 3) := by decide +kernel
theorem dX11_isValid_9 : decode cX11_isValid 9 = .ok (.ireturn, 1) := by decide +kernel
abbrev cX11_types : ByteArray := prog_13_method_99_code
def yX11_types : MethodName := ⟨RX11, "types", "(I)I"⟩
theorem dX11_types_0 : decode cX11_types 0 = .ok (.aload_n 0, 1) := by decide +kernel
theorem dX11_types_1 : decode cX11_types 1 = .ok (.iload_n 1, 1) := by decide +kernel
theorem dX11_types_2 : decode cX11_types 2 = .ok (.invokevirtual 286, 3) := by decide +kernel
theorem dX11_types_5 : decode cX11_types 5 = .ok (.ifCond .eq 5, 3) := by decide +kernel
theorem dX11_types_8 : decode cX11_types 8 = .ok (.iconst 0, 1) := by decide +kernel
theorem dX11_types_9 : decode cX11_types 9 = .ok (.ireturn, 1) := by decide +kernel
theorem dX11_types_10 : decode cX11_types 10 = .ok (.aload_n 0, 1) := by decide +kernel
theorem dX11_types_11 : decode cX11_types 11 = .ok (.invokevirtual 385, 3) := by decide +kernel
theorem dX11_types_14 : decode cX11_types 14 = .ok (.aload_n 0, 1) := by decide +kernel
theorem dX11_types_15 : decode cX11_types 15 = .ok (.getfield 108, 3) := by decide +kernel
theorem dX11_types_18 : decode cX11_types 18 = .ok (.iload_n 1, 1) := by decide +kernel
theorem dX11_types_19 : decode cX11_types 19 = .ok (.iaload, 1) := by decide +kernel
theorem dX11_types_20 : decode cX11_types 20 = .ok (.ireturn, 1) := by decide +kernel
abbrev cX11_canHave : ByteArray := prog_13_method_100_code
def yX11_canHave : MethodName := ⟨RX11, "canHave", "(I)I"⟩
theorem dX11_canHave_0 : decode cX11_canHave 0 = .ok (.iconst 0, 1) := by decide +kernel
theorem dX11_canHave_1 : decode cX11_canHave 1 = .ok (.istore_n 2, 1) := by decide +kernel
theorem dX11_canHave_2 : decode cX11_canHave 2 = .ok (.iconst 0, 1) := by decide +kernel
theorem dX11_canHave_3 : decode cX11_canHave 3 = .ok (.istore_n 3, 1) := by decide +kernel
theorem dX11_canHave_4 : decode cX11_canHave 4 = .ok (.iload_n 3, 1) := by decide +kernel
theorem dX11_canHave_5 : decode cX11_canHave 5 = .ok (.bipush 6, 2) := by decide +kernel
theorem dX11_canHave_7 : decode cX11_canHave 7 = .ok (.if_icmp .ge 140, 3) := by decide +kernel
theorem dX11_canHave_10 : decode cX11_canHave 10 = .ok (.iconst 0, 1) := by decide +kernel
theorem dX11_canHave_11 : decode cX11_canHave 11 = .ok (.istore 4, 2) := by decide +kernel
theorem dX11_canHave_13 : decode cX11_canHave 13 = .ok (.iload 4, 2) := by decide +kernel
theorem dX11_canHave_15 : decode cX11_canHave 15 = .ok (.bipush 24, 2) := by decide +kernel
theorem dX11_canHave_17 : decode cX11_canHave 17 = .ok (.if_icmp .ge 47, 3) := by decide +kernel
theorem dX11_canHave_20 : decode cX11_canHave 20 = .ok (.iload_n 1, 1) := by decide +kernel
theorem dX11_canHave_21 : decode cX11_canHave 21 = .ok (.iload_n 3, 1) := by decide +kernel
theorem dX11_canHave_22 : decode cX11_canHave 22 = .ok (.ishr, 1) := by decide +kernel
theorem dX11_canHave_23 : decode cX11_canHave 23 = .ok (.iconst 1, 1) := by decide +kernel
theorem dX11_canHave_24 : decode cX11_canHave 24 = .ok (.iand, 1) := by decide +kernel
theorem dX11_canHave_25 : decode cX11_canHave 25 = .ok (.iconst 1, 1) := by decide +kernel
theorem dX11_canHave_26 : decode cX11_canHave 26 = .ok (.if_icmp .ne 38, 3) := by decide +kernel
theorem dX11_canHave_29 : decode cX11_canHave 29 = .ok (.iload_n 2, 1) := by decide +kernel
theorem dX11_canHave_30 : decode cX11_canHave 30 = .ok (.aload_n 0, 1) := by decide +kernel
theorem dX11_canHave_31 : decode cX11_canHave 31 = .ok (.getfield 105, 3) := by decide +kernel
theorem dX11_canHave_34 : decode cX11_canHave 34 = .ok (.bipush 24, 2) := by decide +kernel
theorem dX11_canHave_36 : decode cX11_canHave 36 = .ok (.iload_n 3, 1) := by decide +kernel
theorem dX11_canHave_37 : decode cX11_canHave 37 = .ok (.imul, 1) := by decide +kernel
theorem dX11_canHave_38 : decode cX11_canHave 38 = .ok (.iload 4, 2) := by decide +kernel
theorem dX11_canHave_40 : decode cX11_canHave 40 = .ok (.iadd, 1) := by decide +kernel
theorem dX11_canHave_41 : decode cX11_canHave 41 = .ok (.iaload, 1) := by decide +kernel
theorem dX11_canHave_42 : decode cX11_canHave 42 = .ok (.ifCond .eq 13, 3) := by decide +kernel
theorem dX11_canHave_45 : decode cX11_canHave 45 = .ok (.iconst 1, 1) := by decide +kernel
theorem dX11_canHave_46 : decode cX11_canHave 46 = .ok (.iload 4, 2) := by decide +kernel
theorem dX11_canHave_48 : decode cX11_canHave 48 = .ok (.bipush 6, 2) := by decide +kernel
theorem dX11_canHave_50 : decode cX11_canHave 50 = .ok (.irem, 1) := by decide +kernel
theorem dX11_canHave_51 : decode cX11_canHave 51 = .ok (.ishl, 1) := by decide +kernel
theorem dX11_canHave_52 : decode cX11_canHave 52 = .ok (.goto 4, 3) := by decide +kernel
theorem dX11_canHave_55 : decode cX11_canHave 55 = .ok (.iconst 0, 1) := by decide +kernel
theorem dX11_canHave_56 : decode cX11_canHave 56 = .ok (.ior, 1) := by decide +kernel
theorem dX11_canHave_57 : decode cX11_canHave 57 = .ok (.istore_n 2, 1) := by decide +kernel
theorem dX11_canHave_58 : decode cX11_canHave 58 = .ok (.iinc 4 1, 3) := by decide +kernel
theorem dX11_canHave_61 : decode cX11_canHave 61 = .ok (.goto (-48), 3) := by decide +kernel
theorem dX11_canHave_64 : decode cX11_canHave 64 = .ok (.iconst 0, 1) := by decide +kernel
theorem dX11_canHave_65 : decode cX11_canHave 65 = .ok (.istore 4, 2) := by decide +kernel
theorem dX11_canHave_67 : decode cX11_canHave 67 = .ok (.iload 4, 2) := by decide +kernel
theorem dX11_canHave_69 : decode cX11_canHave 69 = .ok (.bipush 8, 2) := by decide +kernel
theorem dX11_canHave_71 : decode cX11_canHave 71 = .ok (.if_icmp .ge 43, 3) := by decide +kernel
theorem dX11_canHave_74 : decode cX11_canHave 74 = .ok (.iload_n 1, 1) := by decide +kernel
theorem dX11_canHave_75 : decode cX11_canHave 75 = .ok (.iload_n 3, 1) := by decide +kernel
theorem dX11_canHave_76 : decode cX11_canHave 76 = .ok (.ishr, 1) := by decide +kernel
theorem dX11_canHave_77 : decode cX11_canHave 77 = .ok (.iconst 1, 1) := by decide +kernel
theorem dX11_canHave_78 : decode cX11_canHave 78 = .ok (.iand, 1) := by decide +kernel
theorem dX11_canHave_79 : decode cX11_canHave 79 = .ok (.iconst 1, 1) := by decide +kernel
theorem dX11_canHave_80 : decode cX11_canHave 80 = .ok (.if_icmp .ne 34, 3) := by decide +kernel
theorem dX11_canHave_83 : decode cX11_canHave 83 = .ok (.iload_n 2, 1) := by decide +kernel
theorem dX11_canHave_84 : decode cX11_canHave 84 = .ok (.aload_n 0, 1) := by decide +kernel
theorem dX11_canHave_85 : decode cX11_canHave 85 = .ok (.getfield 99, 3) := by decide +kernel
theorem dX11_canHave_88 : decode cX11_canHave 88 = .ok (.bipush 8, 2) := by decide +kernel
theorem dX11_canHave_90 : decode cX11_canHave 90 = .ok (.iload_n 3, 1) := by decide +kernel
theorem dX11_canHave_91 : decode cX11_canHave 91 = .ok (.imul, 1) := by decide +kernel
theorem dX11_canHave_92 : decode cX11_canHave 92 = .ok (.iload 4, 2) := by decide +kernel
theorem dX11_canHave_94 : decode cX11_canHave 94 = .ok (.iadd, 1) := by decide +kernel
theorem dX11_canHave_95 : decode cX11_canHave 95 = .ok (.iaload, 1) := by decide +kernel
theorem dX11_canHave_96 : decode cX11_canHave 96 = .ok (.ifCond .eq 9, 3) := by decide +kernel
theorem dX11_canHave_99 : decode cX11_canHave 99 = .ok (.sipush 128, 3) := by decide +kernel
theorem dX11_canHave_102 : decode cX11_canHave 102 = .ok (.goto 4, 3) := by decide +kernel
theorem dX11_canHave_105 : decode cX11_canHave 105 = .ok (.iconst 0, 1) := by decide +kernel
theorem dX11_canHave_106 : decode cX11_canHave 106 = .ok (.ior, 1) := by decide +kernel
theorem dX11_canHave_107 : decode cX11_canHave 107 = .ok (.istore_n 2, 1) := by decide +kernel
theorem dX11_canHave_108 : decode cX11_canHave 108 = .ok (.iinc 4 1, 3) := by decide +kernel
theorem dX11_canHave_111 : decode cX11_canHave 111 = .ok (.goto (-44), 3) := by decide +kernel
theorem dX11_canHave_114 : decode cX11_canHave 114 = .ok (.iload_n 2, 1) := by decide +kernel
theorem dX11_canHave_115 : decode cX11_canHave 115 = .ok (.iload_n 1, 1) := by decide +kernel
theorem dX11_canHave_116 : decode cX11_canHave 116 = .ok (.iload_n 3, 1) := by decide +kernel
theorem dX11_canHave_117 : decode cX11_canHave 117 = .ok (.ishr, 1) := by decide +kernel
theorem dX11_canHave_118 : decode cX11_canHave 118 = .ok (.iconst 1, 1) := by decide +kernel
theorem dX11_canHave_119 : decode cX11_canHave 119 = .ok (.iand, 1) := by decide +kernel
theorem dX11_canHave_120 : decode cX11_canHave 120 = .ok (.iconst 1, 1) := by decide +kernel
theorem dX11_canHave_121 : decode cX11_canHave 121 = .ok (.if_icmp .ne 17, 3) := by decide +kernel
theorem dX11_canHave_124 : decode cX11_canHave 124 = .ok (.aload_n 0, 1) := by decide +kernel
theorem dX11_canHave_125 : decode cX11_canHave 125 = .ok (.getfield 96, 3) := by decide +kernel
theorem dX11_canHave_128 : decode cX11_canHave 128 = .ok (.iload_n 3, 1) := by decide +kernel
theorem dX11_canHave_129 : decode cX11_canHave 129 = .ok (.baload, 1) := by decide +kernel
theorem dX11_canHave_130 : decode cX11_canHave 130 = .ok (.ifCond .eq 8, 3) := by decide +kernel
theorem dX11_canHave_133 : decode cX11_canHave 133 = .ok (.bipush 64, 2) := by decide +kernel
theorem dX11_canHave_135 : decode cX11_canHave 135 = .ok (.goto 4, 3) := by decide +kernel
theorem dX11_canHave_138 : decode cX11_canHave 138 = .ok (.iconst 0, 1) := by decide +kernel
theorem dX11_canHave_139 : decode cX11_canHave 139 = .ok (.ior, 1) := by decide +kernel
theorem dX11_canHave_140 : decode cX11_canHave 140 = .ok (.istore_n 2, 1) := by decide +kernel
theorem dX11_canHave_141 : decode cX11_canHave 141 = .ok (.iinc 3 1, 3) := by decide +kernel
theorem dX11_canHave_144 : decode cX11_canHave 144 = .ok (.goto (-140), 3) := by decide +kernel
theorem dX11_canHave_147 : decode cX11_canHave 147 = .ok (.iload_n 2, 1) := by decide +kernel
theorem dX11_canHave_148 : decode cX11_canHave 148 = .ok (.ireturn, 1) := by decide +kernel
abbrev cX11_allTypes : ByteArray := prog_13_method_101_code
def yX11_allTypes : MethodName := ⟨RX11, "allTypes", "()I"⟩
theorem dX11_allTypes_0 : decode cX11_allTypes 0 = .ok (.iconst 1, 1) := by decide +kernel
theorem dX11_allTypes_1 : decode cX11_allTypes 1 = .ok (.istore_n 1, 1) := by decide +kernel
theorem dX11_allTypes_2 : decode cX11_allTypes 2 = .ok (.iconst 0, 1) := by decide +kernel
theorem dX11_allTypes_3 : decode cX11_allTypes 3 = .ok (.istore_n 2, 1) := by decide +kernel
theorem dX11_allTypes_4 : decode cX11_allTypes 4 = .ok (.iload_n 2, 1) := by decide +kernel
theorem dX11_allTypes_5 : decode cX11_allTypes 5 = .ok (.bipush 6, 2) := by decide +kernel
theorem dX11_allTypes_7 : decode cX11_allTypes 7 = .ok (.if_icmp .gt 17, 3) := by decide +kernel
theorem dX11_allTypes_10 : decode cX11_allTypes 10 = .ok (.iload_n 1, 1) := by decide +kernel
theorem dX11_allTypes_11 : decode cX11_allTypes 11 = .ok (.aload_n 0, 1) := by decide +kernel
theorem dX11_allTypes_12 : decode cX11_allTypes 12 = .ok (.iload_n 1, 1) := by decide +kernel
theorem dX11_allTypes_13 : decode cX11_allTypes 13 = .ok (.invokevirtual 388, 3) := by decide +kernel
theorem dX11_allTypes_16 : decode cX11_allTypes 16 = .ok (.ior, 1) := by decide +kernel
theorem dX11_allTypes_17 : decode cX11_allTypes 17 = .ok (.istore_n 1, 1) := by decide +kernel
theorem dX11_allTypes_18 : decode cX11_allTypes 18 = .ok (.iinc 2 1, 3) := by decide +kernel
theorem dX11_allTypes_21 : decode cX11_allTypes 21 = .ok (.goto (-17), 3) := by decide +kernel
theorem dX11_allTypes_24 : decode cX11_allTypes 24 = .ok (.iload_n 1, 1) := by decide +kernel
theorem dX11_allTypes_25 : decode cX11_allTypes 25 = .ok (.ireturn, 1) := by decide +kernel
abbrev cX11_childrenOf : ByteArray := prog_13_method_102_code
def yX11_childrenOf : MethodName := ⟨RX11, "childrenOf", "(I)I"⟩
theorem dX11_childrenOf_0 : decode cX11_childrenOf 0 = .ok (.aload_n 0, 1) := by decide +kernel
theorem dX11_childrenOf_1 : decode cX11_childrenOf 1 = .ok (.iload_n 1, 1) := by decide +kernel
theorem dX11_childrenOf_2 : decode cX11_childrenOf 2 = .ok (.invokevirtual 388, 3) := by decide +kernel
theorem dX11_childrenOf_5 : decode cX11_childrenOf 5 = .ok (.sipush (-129), 3) := by decide +kernel
theorem dX11_childrenOf_8 : decode cX11_childrenOf 8 = .ok (.iand, 1) := by decide +kernel
theorem dX11_childrenOf_9 : decode cX11_childrenOf 9 = .ok (.ireturn, 1) := by decide +kernel
abbrev cX11_parentsOf : ByteArray := prog_13_method_103_code
def yX11_parentsOf : MethodName := ⟨RX11, "parentsOf", "(II)I"⟩
theorem dX11_parentsOf_0 : decode cX11_parentsOf 0 = .ok (.iconst 0, 1) := by decide +kernel
theorem dX11_parentsOf_1 : decode cX11_parentsOf 1 = .ok (.istore_n 3, 1) := by decide +kernel
theorem dX11_parentsOf_2 : decode cX11_parentsOf 2 = .ok (.iconst 0, 1) := by decide +kernel
theorem dX11_parentsOf_3 : decode cX11_parentsOf 3 = .ok (.istore 4, 2) := by decide +kernel
theorem dX11_parentsOf_5 : decode cX11_parentsOf 5 = .ok (.iload 4, 2) := by decide +kernel
theorem dX11_parentsOf_7 : decode cX11_parentsOf 7 = .ok (.bipush 6, 2) := by decide +kernel
theorem dX11_parentsOf_9 : decode cX11_parentsOf 9 = .ok (.if_icmp .ge 43, 3) := by decide +kernel
theorem dX11_parentsOf_12 : decode cX11_parentsOf 12 = .ok (.iload_n 3, 1) := by decide +kernel
theorem dX11_parentsOf_13 : decode cX11_parentsOf 13 = .ok (.iload_n 2, 1) := by decide +kernel
theorem dX11_parentsOf_14 : decode cX11_parentsOf 14 = .ok (.iload 4, 2) := by decide +kernel
theorem dX11_parentsOf_16 : decode cX11_parentsOf 16 = .ok (.ishr, 1) := by decide +kernel
theorem dX11_parentsOf_17 : decode cX11_parentsOf 17 = .ok (.iconst 1, 1) := by decide +kernel
theorem dX11_parentsOf_18 : decode cX11_parentsOf 18 = .ok (.iand, 1) := by decide +kernel
theorem dX11_parentsOf_19 : decode cX11_parentsOf 19 = .ok (.iconst 1, 1) := by decide +kernel
theorem dX11_parentsOf_20 : decode cX11_parentsOf 20 = .ok (.if_icmp .ne 23, 3) := by decide +kernel
theorem dX11_parentsOf_23 : decode cX11_parentsOf 23 = .ok (.aload_n 0, 1) := by decide +kernel
theorem dX11_parentsOf_24 : decode cX11_parentsOf 24 = .ok (.iconst 1, 1) := by decide +kernel
theorem dX11_parentsOf_25 : decode cX11_parentsOf 25 = .ok (.iload 4, 2) := by decide +kernel
theorem dX11_parentsOf_27 : decode cX11_parentsOf 27 = .ok (.ishl, 1) := by decide +kernel
theorem dX11_parentsOf_28 : decode cX11_parentsOf 28 = .ok (.invokevirtual 388, 3) := by decide +kernel
theorem dX11_parentsOf_31 : decode cX11_parentsOf 31 = .ok (.iload_n 1, 1) := by decide +kernel
theorem dX11_parentsOf_32 : decode cX11_parentsOf 32 = .ok (.iand, 1) := by decide +kernel
theorem dX11_parentsOf_33 : decode cX11_parentsOf 33 = .ok (.ifCond .eq 10, 3) := by decide +kernel
theorem dX11_parentsOf_36 : decode cX11_parentsOf 36 = .ok (.iconst 1, 1) := by decide +kernel
theorem dX11_parentsOf_37 : decode cX11_parentsOf 37 = .ok (.iload 4, 2) := by decide +kernel
theorem dX11_parentsOf_39 : decode cX11_parentsOf 39 = .ok (.ishl, 1) := by decide +kernel
theorem dX11_parentsOf_40 : decode cX11_parentsOf 40 = .ok (.goto 4, 3) := by decide +kernel
theorem dX11_parentsOf_43 : decode cX11_parentsOf 43 = .ok (.iconst 0, 1) := by decide +kernel
theorem dX11_parentsOf_44 : decode cX11_parentsOf 44 = .ok (.ior, 1) := by decide +kernel
theorem dX11_parentsOf_45 : decode cX11_parentsOf 45 = .ok (.istore_n 3, 1) := by decide +kernel
theorem dX11_parentsOf_46 : decode cX11_parentsOf 46 = .ok (.iinc 4 1, 3) := by decide +kernel
theorem dX11_parentsOf_49 : decode cX11_parentsOf 49 = .ok (.goto (-44), 3) := by decide +kernel
theorem dX11_parentsOf_52 : decode cX11_parentsOf 52 = .ok (.iload_n 3, 1) := by decide +kernel
theorem dX11_parentsOf_53 : decode cX11_parentsOf 53 = .ok (.ireturn, 1) := by decide +kernel
abbrev cX11_cameBy : ByteArray := prog_13_method_104_code
def yX11_cameBy : MethodName := ⟨RX11, "cameBy", "(IIII)I"⟩
theorem dX11_cameBy_0 : decode cX11_cameBy 0 = .ok (.iconst 0, 1) := by decide +kernel
theorem dX11_cameBy_1 : decode cX11_cameBy 1 = .ok (.istore 5, 2) := by decide +kernel
theorem dX11_cameBy_3 : decode cX11_cameBy 3 = .ok (.iload_n 1, 1) := by decide +kernel
theorem dX11_cameBy_4 : decode cX11_cameBy 4 = .ok (.tableswitch 237 0 11 #[64, 66, 72, 80, 80, 145, 145, 200, 200, 215, 215, 227], 64) := by decide +kernel
theorem dX11_cameBy_68 : decode cX11_cameBy 68 = .ok (.iload_n 3, 1) := by decide +kernel
theorem dX11_cameBy_69 : decode cX11_cameBy 69 = .ok (.ireturn, 1) := by decide +kernel
theorem dX11_cameBy_70 : decode cX11_cameBy 70 = .ok (.aload_n 0, 1) := by decide +kernel
theorem dX11_cameBy_71 : decode cX11_cameBy 71 = .ok (.iload_n 3, 1) := by decide +kernel
theorem dX11_cameBy_72 : decode cX11_cameBy 72 = .ok (.invokevirtual 391, 3) := by decide +kernel
theorem dX11_cameBy_75 : decode cX11_cameBy 75 = .ok (.ireturn, 1) := by decide +kernel
theorem dX11_cameBy_76 : decode cX11_cameBy 76 = .ok (.aload_n 0, 1) := by decide +kernel
theorem dX11_cameBy_77 : decode cX11_cameBy 77 = .ok (.iload_n 3, 1) := by decide +kernel
theorem dX11_cameBy_78 : decode cX11_cameBy 78 = .ok (.iload 4, 2) := by decide +kernel
theorem dX11_cameBy_80 : decode cX11_cameBy 80 = .ok (.invokevirtual 394, 3) := by decide +kernel
theorem dX11_cameBy_83 : decode cX11_cameBy 83 = .ok (.ireturn, 1) := by decide +kernel
theorem dX11_cameBy_84 : decode cX11_cameBy 84 = .ok (.iload_n 1, 1) := by decide +kernel
theorem dX11_cameBy_85 : decode cX11_cameBy 85 = .ok (.iconst 3, 1) := by decide +kernel
theorem dX11_cameBy_86 : decode cX11_cameBy 86 = .ok (.if_icmp .ne 7, 3) := by decide +kernel
theorem dX11_cameBy_89 : decode cX11_cameBy 89 = .ok (.iconst 0, 1) := by decide +kernel
theorem dX11_cameBy_90 : decode cX11_cameBy 90 = .ok (.goto 4, 3) := by decide +kernel
theorem dX11_cameBy_93 : decode cX11_cameBy 93 = .ok (.iload_n 3, 1) := by decide +kernel
theorem dX11_cameBy_94 : decode cX11_cameBy 94 = .ok (.istore 5, 2) := by decide +kernel
theorem dX11_cameBy_96 : decode cX11_cameBy 96 = .ok (.iconst 0, 1) := by decide +kernel
theorem dX11_cameBy_97 : decode cX11_cameBy 97 = .ok (.istore 6, 2) := by decide +kernel
theorem dX11_cameBy_99 : decode cX11_cameBy 99 = .ok (.iload_n 3, 1) := by decide +kernel
theorem dX11_cameBy_100 : decode cX11_cameBy 100 = .ok (.istore 7, 2) := by decide +kernel
theorem dX11_cameBy_102 : decode cX11_cameBy 102 = .ok (.iload 6, 2) := by decide +kernel
theorem dX11_cameBy_104 : decode cX11_cameBy 104 = .ok (.bipush 9, 2) := by decide +kernel
theorem dX11_cameBy_106 : decode cX11_cameBy 106 = .ok (.if_icmp .ge 28, 3) := by decide +kernel
theorem dX11_cameBy_109 : decode cX11_cameBy 109 = .ok (.aload_n 0, 1) := by decide +kernel
theorem dX11_cameBy_110 : decode cX11_cameBy 110 = .ok (.iload 7, 2) := by decide +kernel
theorem dX11_cameBy_112 : decode cX11_cameBy 112 = .ok (.invokevirtual 391, 3) := by decide +kernel
theorem dX11_cameBy_115 : decode cX11_cameBy 115 = .ok (.istore 7, 2) := by decide +kernel
theorem dX11_cameBy_117 : decode cX11_cameBy 117 = .ok (.iload 5, 2) := by decide +kernel
theorem dX11_cameBy_119 : decode cX11_cameBy 119 = .ok (.iload 7, 2) := by decide +kernel
theorem dX11_cameBy_121 : decode cX11_cameBy 121 = .ok (.ior, 1) := by decide +kernel
theorem dX11_cameBy_122 : decode cX11_cameBy 122 = .ok (.istore 5, 2) := by decide +kernel
theorem dX11_cameBy_124 : decode cX11_cameBy 124 = .ok (.iload 5, 2) := by decide +kernel
theorem dX11_cameBy_126 : decode cX11_cameBy 126 = .ok (.istore 7, 2) := by decide +kernel
theorem dX11_cameBy_128 : decode cX11_cameBy 128 = .ok (.iinc 6 1, 3) := by decide +kernel
theorem dX11_cameBy_131 : decode cX11_cameBy 131 = .ok (.goto (-29), 3) := by decide +kernel
theorem dX11_cameBy_134 : decode cX11_cameBy 134 = .ok (.iload 5, 2) := by decide +kernel
theorem dX11_cameBy_136 : decode cX11_cameBy 136 = .ok (.iload_n 1, 1) := by decide +kernel
theorem dX11_cameBy_137 : decode cX11_cameBy 137 = .ok (.iconst 3, 1) := by decide +kernel
theorem dX11_cameBy_138 : decode cX11_cameBy 138 = .ok (.if_icmp .ne 8, 3) := by decide +kernel
theorem dX11_cameBy_141 : decode cX11_cameBy 141 = .ok (.iload 4, 2) := by decide +kernel
theorem dX11_cameBy_143 : decode cX11_cameBy 143 = .ok (.goto 4, 3) := by decide +kernel
theorem dX11_cameBy_146 : decode cX11_cameBy 146 = .ok (.iconst (-1), 1) := by decide +kernel
theorem dX11_cameBy_147 : decode cX11_cameBy 147 = .ok (.iand, 1) := by decide +kernel
theorem dX11_cameBy_148 : decode cX11_cameBy 148 = .ok (.ireturn, 1) := by decide +kernel
theorem dX11_cameBy_149 : decode cX11_cameBy 149 = .ok (.iload_n 1, 1) := by decide +kernel
theorem dX11_cameBy_150 : decode cX11_cameBy 150 = .ok (.iconst 5, 1) := by decide +kernel
theorem dX11_cameBy_151 : decode cX11_cameBy 151 = .ok (.if_icmp .ne 7, 3) := by decide +kernel
theorem dX11_cameBy_154 : decode cX11_cameBy 154 = .ok (.iconst 0, 1) := by decide +kernel
theorem dX11_cameBy_155 : decode cX11_cameBy 155 = .ok (.goto 4, 3) := by decide +kernel
theorem dX11_cameBy_158 : decode cX11_cameBy 158 = .ok (.iload_n 3, 1) := by decide +kernel
theorem dX11_cameBy_159 : decode cX11_cameBy 159 = .ok (.istore 5, 2) := by decide +kernel
theorem dX11_cameBy_161 : decode cX11_cameBy 161 = .ok (.iconst 0, 1) := by decide +kernel
theorem dX11_cameBy_162 : decode cX11_cameBy 162 = .ok (.istore 6, 2) := by decide +kernel
theorem dX11_cameBy_164 : decode cX11_cameBy 164 = .ok (.iload_n 3, 1) := by decide +kernel
theorem dX11_cameBy_165 : decode cX11_cameBy 165 = .ok (.istore 7, 2) := by decide +kernel
theorem dX11_cameBy_167 : decode cX11_cameBy 167 = .ok (.iload 6, 2) := by decide +kernel
theorem dX11_cameBy_169 : decode cX11_cameBy 169 = .ok (.bipush 9, 2) := by decide +kernel
theorem dX11_cameBy_171 : decode cX11_cameBy 171 = .ok (.if_icmp .ge 30, 3) := by decide +kernel
theorem dX11_cameBy_174 : decode cX11_cameBy 174 = .ok (.aload_n 0, 1) := by decide +kernel
theorem dX11_cameBy_175 : decode cX11_cameBy 175 = .ok (.iload 7, 2) := by decide +kernel
theorem dX11_cameBy_177 : decode cX11_cameBy 177 = .ok (.iload 4, 2) := by decide +kernel
theorem dX11_cameBy_179 : decode cX11_cameBy 179 = .ok (.invokevirtual 394, 3) := by decide +kernel
theorem dX11_cameBy_182 : decode cX11_cameBy 182 = .ok (.istore 7, 2) := by decide +kernel
theorem dX11_cameBy_184 : decode cX11_cameBy 184 = .ok (.iload 5, 2) := by decide +kernel
theorem dX11_cameBy_186 : decode cX11_cameBy 186 = .ok (.iload 7, 2) := by decide +kernel
theorem dX11_cameBy_188 : decode cX11_cameBy 188 = .ok (.ior, 1) := by decide +kernel
theorem dX11_cameBy_189 : decode cX11_cameBy 189 = .ok (.istore 5, 2) := by decide +kernel
theorem dX11_cameBy_191 : decode cX11_cameBy 191 = .ok (.iload 5, 2) := by decide +kernel
theorem dX11_cameBy_193 : decode cX11_cameBy 193 = .ok (.istore 7, 2) := by decide +kernel
theorem dX11_cameBy_195 : decode cX11_cameBy 195 = .ok (.iinc 6 1, 3) := by decide +kernel
theorem dX11_cameBy_198 : decode cX11_cameBy 198 = .ok (.goto (-31), 3) := by decide +kernel
theorem dX11_cameBy_201 : decode cX11_cameBy 201 = .ok (.iload 5, 2) := by decide +kernel
theorem dX11_cameBy_203 : decode cX11_cameBy 203 = .ok (.ireturn, 1) := by decide +kernel
theorem dX11_cameBy_204 : decode cX11_cameBy 204 = .ok (.iload_n 3, 1) := by decide +kernel
theorem dX11_cameBy_205 : decode cX11_cameBy 205 = .ok (.ifCond .ne 7, 3) := by decide +kernel
theorem dX11_cameBy_208 : decode cX11_cameBy 208 = .ok (.iconst 0, 1) := by decide +kernel
theorem dX11_cameBy_209 : decode cX11_cameBy 209 = .ok (.goto 9, 3) := by decide +kernel
theorem dX11_cameBy_212 : decode cX11_cameBy 212 = .ok (.iload 4, 2) := by decide +kernel
theorem dX11_cameBy_214 : decode cX11_cameBy 214 = .ok (.sipush (-129), 3) := by decide +kernel
theorem dX11_cameBy_217 : decode cX11_cameBy 217 = .ok (.iand, 1) := by decide +kernel
theorem dX11_cameBy_218 : decode cX11_cameBy 218 = .ok (.ireturn, 1) := by decide +kernel
theorem dX11_cameBy_219 : decode cX11_cameBy 219 = .ok (.aload_n 0, 1) := by decide +kernel
theorem dX11_cameBy_220 : decode cX11_cameBy 220 = .ok (.aload_n 0, 1) := by decide +kernel
theorem dX11_cameBy_221 : decode cX11_cameBy 221 = .ok (.iload_n 3, 1) := by decide +kernel
theorem dX11_cameBy_222 : decode cX11_cameBy 222 = .ok (.iload 4, 2) := by decide +kernel
theorem dX11_cameBy_224 : decode cX11_cameBy 224 = .ok (.invokevirtual 394, 3) := by decide +kernel
theorem dX11_cameBy_227 : decode cX11_cameBy 227 = .ok (.invokevirtual 391, 3) := by decide +kernel
theorem dX11_cameBy_230 : decode cX11_cameBy 230 = .ok (.ireturn, 1) := by decide +kernel
theorem dX11_cameBy_231 : decode cX11_cameBy 231 = .ok (.aload_n 0, 1) := by decide +kernel
theorem dX11_cameBy_232 : decode cX11_cameBy 232 = .ok (.iload_n 3, 1) := by decide +kernel
theorem dX11_cameBy_233 : decode cX11_cameBy 233 = .ok (.invokevirtual 388, 3) := by decide +kernel
theorem dX11_cameBy_236 : decode cX11_cameBy 236 = .ok (.sipush 128, 3) := by decide +kernel
theorem dX11_cameBy_239 : decode cX11_cameBy 239 = .ok (.iand, 1) := by decide +kernel
theorem dX11_cameBy_240 : decode cX11_cameBy 240 = .ok (.ireturn, 1) := by decide +kernel
theorem dX11_cameBy_241 : decode cX11_cameBy 241 = .ok (.iconst 0, 1) := by decide +kernel
theorem dX11_cameBy_242 : decode cX11_cameBy 242 = .ok (.istore 6, 2) := by decide +kernel
theorem dX11_cameBy_244 : decode cX11_cameBy 244 = .ok (.iload_n 3, 1) := by decide +kernel
theorem dX11_cameBy_245 : decode cX11_cameBy 245 = .ok (.istore 7, 2) := by decide +kernel
theorem dX11_cameBy_247 : decode cX11_cameBy 247 = .ok (.iload 6, 2) := by decide +kernel
theorem dX11_cameBy_249 : decode cX11_cameBy 249 = .ok (.sipush 256, 3) := by decide +kernel
theorem dX11_cameBy_252 : decode cX11_cameBy 252 = .ok (.if_icmp .ge 31, 3) := by decide +kernel
theorem dX11_cameBy_255 : decode cX11_cameBy 255 = .ok (.aload_n 0, 1) := by decide +kernel
theorem dX11_cameBy_256 : decode cX11_cameBy 256 = .ok (.getfield 111, 3) := by decide +kernel
theorem dX11_cameBy_259 : decode cX11_cameBy 259 = .ok (.sipush 256, 3) := by decide +kernel
theorem dX11_cameBy_262 : decode cX11_cameBy 262 = .ok (.iload_n 2, 1) := by decide +kernel
theorem dX11_cameBy_263 : decode cX11_cameBy 263 = .ok (.imul, 1) := by decide +kernel
theorem dX11_cameBy_264 : decode cX11_cameBy 264 = .ok (.iload 7, 2) := by decide +kernel
theorem dX11_cameBy_266 : decode cX11_cameBy 266 = .ok (.iadd, 1) := by decide +kernel
theorem dX11_cameBy_267 : decode cX11_cameBy 267 = .ok (.iaload, 1) := by decide +kernel
theorem dX11_cameBy_268 : decode cX11_cameBy 268 = .ok (.istore 7, 2) := by decide +kernel
theorem dX11_cameBy_270 : decode cX11_cameBy 270 = .ok (.iload 5, 2) := by decide +kernel
theorem dX11_cameBy_272 : decode cX11_cameBy 272 = .ok (.iload 7, 2) := by decide +kernel
theorem dX11_cameBy_274 : decode cX11_cameBy 274 = .ok (.ior, 1) := by decide +kernel
theorem dX11_cameBy_275 : decode cX11_cameBy 275 = .ok (.istore 5, 2) := by decide +kernel
theorem dX11_cameBy_277 : decode cX11_cameBy 277 = .ok (.iinc 6 1, 3) := by decide +kernel
theorem dX11_cameBy_280 : decode cX11_cameBy 280 = .ok (.goto (-33), 3) := by decide +kernel
theorem dX11_cameBy_283 : decode cX11_cameBy 283 = .ok (.iload 5, 2) := by decide +kernel
theorem dX11_cameBy_285 : decode cX11_cameBy 285 = .ok (.ireturn, 1) := by decide +kernel
abbrev cX11_left : ByteArray := prog_13_method_105_code
def yX11_left : MethodName := ⟨RX11, "left", "(II)I"⟩
theorem dX11_left_0 : decode cX11_left 0 = .ok (.iconst 0, 1) := by decide +kernel
theorem dX11_left_1 : decode cX11_left 1 = .ok (.istore_n 3, 1) := by decide +kernel
theorem dX11_left_2 : decode cX11_left 2 = .ok (.iconst 0, 1) := by decide +kernel
theorem dX11_left_3 : decode cX11_left 3 = .ok (.istore 4, 2) := by decide +kernel
theorem dX11_left_5 : decode cX11_left 5 = .ok (.iload 4, 2) := by decide +kernel
theorem dX11_left_7 : decode cX11_left 7 = .ok (.bipush 6, 2) := by decide +kernel
theorem dX11_left_9 : decode cX11_left 9 = .ok (.if_icmp .ge 37, 3) := by decide +kernel
theorem dX11_left_12 : decode cX11_left 12 = .ok (.iload_n 3, 1) := by decide +kernel
theorem dX11_left_13 : decode cX11_left 13 = .ok (.iload_n 1, 1) := by decide +kernel
theorem dX11_left_14 : decode cX11_left 14 = .ok (.bipush 8, 2) := by decide +kernel
theorem dX11_left_16 : decode cX11_left 16 = .ok (.if_icmp .ge 14, 3) := by decide +kernel
theorem dX11_left_19 : decode cX11_left 19 = .ok (.aload_n 0, 1) := by decide +kernel
theorem dX11_left_20 : decode cX11_left 20 = .ok (.getfield 93, 3) := by decide +kernel
theorem dX11_left_23 : decode cX11_left 23 = .ok (.iload 4, 2) := by decide +kernel
theorem dX11_left_25 : decode cX11_left 25 = .ok (.iaload, 1) := by decide +kernel
theorem dX11_left_26 : decode cX11_left 26 = .ok (.iload_n 1, 1) := by decide +kernel
theorem dX11_left_27 : decode cX11_left 27 = .ok (.if_icmp .ne 10, 3) := by decide +kernel
theorem dX11_left_30 : decode cX11_left 30 = .ok (.iconst 1, 1) := by decide +kernel
theorem dX11_left_31 : decode cX11_left 31 = .ok (.iload 4, 2) := by decide +kernel
theorem dX11_left_33 : decode cX11_left 33 = .ok (.ishl, 1) := by decide +kernel
theorem dX11_left_34 : decode cX11_left 34 = .ok (.goto 4, 3) := by decide +kernel
theorem dX11_left_37 : decode cX11_left 37 = .ok (.iconst 0, 1) := by decide +kernel
theorem dX11_left_38 : decode cX11_left 38 = .ok (.ior, 1) := by decide +kernel
theorem dX11_left_39 : decode cX11_left 39 = .ok (.istore_n 3, 1) := by decide +kernel
theorem dX11_left_40 : decode cX11_left 40 = .ok (.iinc 4 1, 3) := by decide +kernel
theorem dX11_left_43 : decode cX11_left 43 = .ok (.goto (-38), 3) := by decide +kernel
theorem dX11_left_46 : decode cX11_left 46 = .ok (.iload_n 1, 1) := by decide +kernel
theorem dX11_left_47 : decode cX11_left 47 = .ok (.bipush 8, 2) := by decide +kernel
theorem dX11_left_49 : decode cX11_left 49 = .ok (.if_icmp .ge 13, 3) := by decide +kernel
theorem dX11_left_52 : decode cX11_left 52 = .ok (.iload_n 2, 1) := by decide +kernel
theorem dX11_left_53 : decode cX11_left 53 = .ok (.iload_n 3, 1) := by decide +kernel
theorem dX11_left_54 : decode cX11_left 54 = .ok (.sipush 128, 3) := by decide +kernel
theorem dX11_left_57 : decode cX11_left 57 = .ok (.ior, 1) := by decide +kernel
theorem dX11_left_58 : decode cX11_left 58 = .ok (.iand, 1) := by decide +kernel
theorem dX11_left_59 : decode cX11_left 59 = .ok (.goto 29, 3) := by decide +kernel
theorem dX11_left_62 : decode cX11_left 62 = .ok (.iload_n 1, 1) := by decide +kernel
theorem dX11_left_63 : decode cX11_left 63 = .ok (.bipush 8, 2) := by decide +kernel
theorem dX11_left_65 : decode cX11_left 65 = .ok (.if_icmp .ne 7, 3) := by decide +kernel
theorem dX11_left_68 : decode cX11_left 68 = .ok (.iload_n 2, 1) := by decide +kernel
theorem dX11_left_69 : decode cX11_left 69 = .ok (.goto 19, 3) := by decide +kernel
theorem dX11_left_72 : decode cX11_left 72 = .ok (.iload_n 1, 1) := by decide +kernel
theorem dX11_left_73 : decode cX11_left 73 = .ok (.bipush 9, 2) := by decide +kernel
theorem dX11_left_75 : decode cX11_left 75 = .ok (.if_icmp .ne 10, 3) := by decide +kernel
theorem dX11_left_78 : decode cX11_left 78 = .ok (.iload_n 2, 1) := by decide +kernel
theorem dX11_left_79 : decode cX11_left 79 = .ok (.bipush 64, 2) := by decide +kernel
theorem dX11_left_81 : decode cX11_left 81 = .ok (.iand, 1) := by decide +kernel
theorem dX11_left_82 : decode cX11_left 82 = .ok (.goto 6, 3) := by decide +kernel
theorem dX11_left_85 : decode cX11_left 85 = .ok (.iload_n 2, 1) := by decide +kernel
theorem dX11_left_86 : decode cX11_left 86 = .ok (.iload_n 3, 1) := by decide +kernel
theorem dX11_left_87 : decode cX11_left 87 = .ok (.iand, 1) := by decide +kernel
theorem dX11_left_88 : decode cX11_left 88 = .ok (.ireturn, 1) := by decide +kernel
abbrev cX11_infer : ByteArray := prog_13_method_106_code
def yX11_infer : MethodName := ⟨RX11, "infer", "(I)I"⟩
theorem dX11_infer_0 : decode cX11_infer 0 = .ok (.aload_n 0, 1) := by decide +kernel
theorem dX11_infer_1 : decode cX11_infer 1 = .ok (.aload_n 0, 1) := by decide +kernel
theorem dX11_infer_2 : decode cX11_infer 2 = .ok (.iload_n 1, 1) := by decide +kernel
theorem dX11_infer_3 : decode cX11_infer 3 = .ok (.invokevirtual 305, 3) := by decide +kernel
theorem dX11_infer_6 : decode cX11_infer 6 = .ok (.ifCond .eq 7, 3) := by decide +kernel
theorem dX11_infer_9 : decode cX11_infer 9 = .ok (.iconst 0, 1) := by decide +kernel
theorem dX11_infer_10 : decode cX11_infer 10 = .ok (.goto 4, 3) := by decide +kernel
theorem dX11_infer_13 : decode cX11_infer 13 = .ok (.iconst 1, 1) := by decide +kernel
theorem dX11_infer_14 : decode cX11_infer 14 = .ok (.invokevirtual 204, 3) := by decide +kernel
theorem dX11_infer_17 : decode cX11_infer 17 = .ok (.ifCond .eq 5, 3) := by decide +kernel
theorem dX11_infer_20 : decode cX11_infer 20 = .ok (.iconst 0, 1) := by decide +kernel
theorem dX11_infer_21 : decode cX11_infer 21 = .ok (.ireturn, 1) := by decide +kernel
theorem dX11_infer_22 : decode cX11_infer 22 = .ok (.aload_n 0, 1) := by decide +kernel
theorem dX11_infer_23 : decode cX11_infer 23 = .ok (.invokevirtual 397, 3) := by decide +kernel
theorem dX11_infer_26 : decode cX11_infer 26 = .ok (.istore_n 2, 1) := by decide +kernel
theorem dX11_infer_27 : decode cX11_infer 27 = .ok (.iconst 0, 1) := by decide +kernel
theorem dX11_infer_28 : decode cX11_infer 28 = .ok (.istore_n 3, 1) := by decide +kernel
theorem dX11_infer_29 : decode cX11_infer 29 = .ok (.iload_n 3, 1) := by decide +kernel
theorem dX11_infer_30 : decode cX11_infer 30 = .ok (.iload_n 1, 1) := by decide +kernel
theorem dX11_infer_31 : decode cX11_infer 31 = .ok (.if_icmp .gt 117, 3) := by decide +kernel
theorem dX11_infer_34 : decode cX11_infer 34 = .ok (.iconst 0, 1) := by decide +kernel
theorem dX11_infer_35 : decode cX11_infer 35 = .ok (.istore 4, 2) := by decide +kernel
theorem dX11_infer_37 : decode cX11_infer 37 = .ok (.iload 4, 2) := by decide +kernel
theorem dX11_infer_39 : decode cX11_infer 39 = .ok (.sipush 256, 3) := by decide +kernel
theorem dX11_infer_42 : decode cX11_infer 42 = .ok (.if_icmp .ge 100, 3) := by decide +kernel
theorem dX11_infer_45 : decode cX11_infer 45 = .ok (.iload 4, 2) := by decide +kernel
theorem dX11_infer_47 : decode cX11_infer 47 = .ok (.istore 5, 2) := by decide +kernel
theorem dX11_infer_49 : decode cX11_infer 49 = .ok (.iconst 5, 1) := by decide +kernel
theorem dX11_infer_50 : decode cX11_infer 50 = .ok (.iload_n 3, 1) := by decide +kernel
theorem dX11_infer_51 : decode cX11_infer 51 = .ok (.imul, 1) := by decide +kernel
theorem dX11_infer_52 : decode cX11_infer 52 = .ok (.istore 6, 2) := by decide +kernel
theorem dX11_infer_54 : decode cX11_infer 54 = .ok (.iload 6, 2) := by decide +kernel
theorem dX11_infer_56 : decode cX11_infer 56 = .ok (.iconst 5, 1) := by decide +kernel
theorem dX11_infer_57 : decode cX11_infer 57 = .ok (.iload_n 3, 1) := by decide +kernel
theorem dX11_infer_58 : decode cX11_infer 58 = .ok (.imul, 1) := by decide +kernel
theorem dX11_infer_59 : decode cX11_infer 59 = .ok (.aload_n 0, 1) := by decide +kernel
theorem dX11_infer_60 : decode cX11_infer 60 = .ok (.getfield 68, 3) := by decide +kernel
theorem dX11_infer_63 : decode cX11_infer 63 = .ok (.iload_n 3, 1) := by decide +kernel
theorem dX11_infer_64 : decode cX11_infer 64 = .ok (.iaload, 1) := by decide +kernel
theorem dX11_infer_65 : decode cX11_infer 65 = .ok (.iadd, 1) := by decide +kernel
theorem dX11_infer_66 : decode cX11_infer 66 = .ok (.if_icmp .ge 55, 3) := by decide +kernel
theorem dX11_infer_69 : decode cX11_infer 69 = .ok (.aload_n 0, 1) := by decide +kernel
theorem dX11_infer_70 : decode cX11_infer 70 = .ok (.aload_n 0, 1) := by decide +kernel
theorem dX11_infer_71 : decode cX11_infer 71 = .ok (.getfield 71, 3) := by decide +kernel
theorem dX11_infer_74 : decode cX11_infer 74 = .ok (.iconst 3, 1) := by decide +kernel
theorem dX11_infer_75 : decode cX11_infer 75 = .ok (.iload 6, 2) := by decide +kernel
theorem dX11_infer_77 : decode cX11_infer 77 = .ok (.imul, 1) := by decide +kernel
theorem dX11_infer_78 : decode cX11_infer 78 = .ok (.iconst 1, 1) := by decide +kernel
theorem dX11_infer_79 : decode cX11_infer 79 = .ok (.iadd, 1) := by decide +kernel
theorem dX11_infer_80 : decode cX11_infer 80 = .ok (.iaload, 1) := by decide +kernel
theorem dX11_infer_81 : decode cX11_infer 81 = .ok (.aload_n 0, 1) := by decide +kernel
theorem dX11_infer_82 : decode cX11_infer 82 = .ok (.aload_n 0, 1) := by decide +kernel
theorem dX11_infer_83 : decode cX11_infer 83 = .ok (.getfield 71, 3) := by decide +kernel
theorem dX11_infer_86 : decode cX11_infer 86 = .ok (.iconst 3, 1) := by decide +kernel
theorem dX11_infer_87 : decode cX11_infer 87 = .ok (.iload 6, 2) := by decide +kernel
theorem dX11_infer_89 : decode cX11_infer 89 = .ok (.imul, 1) := by decide +kernel
theorem dX11_infer_90 : decode cX11_infer 90 = .ok (.iaload, 1) := by decide +kernel
theorem dX11_infer_91 : decode cX11_infer 91 = .ok (.aload_n 0, 1) := by decide +kernel
theorem dX11_infer_92 : decode cX11_infer 92 = .ok (.getfield 71, 3) := by decide +kernel
theorem dX11_infer_95 : decode cX11_infer 95 = .ok (.iconst 3, 1) := by decide +kernel
theorem dX11_infer_96 : decode cX11_infer 96 = .ok (.iload 6, 2) := by decide +kernel
theorem dX11_infer_98 : decode cX11_infer 98 = .ok (.imul, 1) := by decide +kernel
theorem dX11_infer_99 : decode cX11_infer 99 = .ok (.iconst 2, 1) := by decide +kernel
theorem dX11_infer_100 : decode cX11_infer 100 = .ok (.iadd, 1) := by decide +kernel
theorem dX11_infer_101 : decode cX11_infer 101 = .ok (.iaload, 1) := by decide +kernel
theorem dX11_infer_102 : decode cX11_infer 102 = .ok (.iload 5, 2) := by decide +kernel
theorem dX11_infer_104 : decode cX11_infer 104 = .ok (.iload_n 2, 1) := by decide +kernel
theorem dX11_infer_105 : decode cX11_infer 105 = .ok (.invokevirtual 400, 3) := by decide +kernel
theorem dX11_infer_108 : decode cX11_infer 108 = .ok (.iload_n 2, 1) := by decide +kernel
theorem dX11_infer_109 : decode cX11_infer 109 = .ok (.iand, 1) := by decide +kernel
theorem dX11_infer_110 : decode cX11_infer 110 = .ok (.invokevirtual 404, 3) := by decide +kernel
theorem dX11_infer_113 : decode cX11_infer 113 = .ok (.istore 5, 2) := by decide +kernel
theorem dX11_infer_115 : decode cX11_infer 115 = .ok (.iinc 6 1, 3) := by decide +kernel
theorem dX11_infer_118 : decode cX11_infer 118 = .ok (.goto (-64), 3) := by decide +kernel
theorem dX11_infer_121 : decode cX11_infer 121 = .ok (.aload_n 0, 1) := by decide +kernel
theorem dX11_infer_122 : decode cX11_infer 122 = .ok (.getfield 111, 3) := by decide +kernel
theorem dX11_infer_125 : decode cX11_infer 125 = .ok (.sipush 256, 3) := by decide +kernel
theorem dX11_infer_128 : decode cX11_infer 128 = .ok (.iload_n 3, 1) := by decide +kernel
theorem dX11_infer_129 : decode cX11_infer 129 = .ok (.imul, 1) := by decide +kernel
theorem dX11_infer_130 : decode cX11_infer 130 = .ok (.iload 4, 2) := by decide +kernel
theorem dX11_infer_132 : decode cX11_infer 132 = .ok (.iadd, 1) := by decide +kernel
theorem dX11_infer_133 : decode cX11_infer 133 = .ok (.iload 5, 2) := by decide +kernel
theorem dX11_infer_135 : decode cX11_infer 135 = .ok (.iastore, 1) := by decide +kernel
theorem dX11_infer_136 : decode cX11_infer 136 = .ok (.iinc 4 1, 3) := by decide +kernel
theorem dX11_infer_139 : decode cX11_infer 139 = .ok (.goto (-102), 3) := by decide +kernel
theorem dX11_infer_142 : decode cX11_infer 142 = .ok (.iinc 3 1, 3) := by decide +kernel
theorem dX11_infer_145 : decode cX11_infer 145 = .ok (.goto (-116), 3) := by decide +kernel
theorem dX11_infer_148 : decode cX11_infer 148 = .ok (.aload_n 0, 1) := by decide +kernel
theorem dX11_infer_149 : decode cX11_infer 149 = .ok (.getfield 111, 3) := by decide +kernel
theorem dX11_infer_152 : decode cX11_infer 152 = .ok (.sipush 256, 3) := by decide +kernel
theorem dX11_infer_155 : decode cX11_infer 155 = .ok (.iload_n 1, 1) := by decide +kernel
theorem dX11_infer_156 : decode cX11_infer 156 = .ok (.imul, 1) := by decide +kernel
theorem dX11_infer_157 : decode cX11_infer 157 = .ok (.iconst 1, 1) := by decide +kernel
theorem dX11_infer_158 : decode cX11_infer 158 = .ok (.iadd, 1) := by decide +kernel
theorem dX11_infer_159 : decode cX11_infer 159 = .ok (.iaload, 1) := by decide +kernel
theorem dX11_infer_160 : decode cX11_infer 160 = .ok (.ireturn, 1) := by decide +kernel
abbrev cX11_index : ByteArray := prog_13_method_107_code
def yX11_index : MethodName := ⟨RX11, "index", "(I)Z"⟩
theorem dX11_index_0 : decode cX11_index 0 = .ok (.aload_n 0, 1) := by decide +kernel
theorem dX11_index_1 : decode cX11_index 1 = .ok (.iload_n 1, 1) := by decide +kernel
theorem dX11_index_2 : decode cX11_index 2 = .ok (.iconst 0, 1) := by decide +kernel
theorem dX11_index_3 : decode cX11_index 3 = .ok (.bipush 7, 2) := by decide +kernel
theorem dX11_index_5 : decode cX11_index 5 = .ok (.invokestatic 169, 3) := by decide +kernel
theorem dX11_index_8 : decode cX11_index 8 = .ok (.ifCond .eq 7, 3) := by decide +kernel
theorem dX11_index_11 : decode cX11_index 11 = .ok (.iconst 0, 1) := by decide +kernel
theorem dX11_index_12 : decode cX11_index 12 = .ok (.goto 4, 3) := by decide +kernel
theorem dX11_index_15 : decode cX11_index 15 = .ok (.iconst 1, 1) := by decide +kernel
theorem dX11_index_16 : decode cX11_index 16 = .ok (.invokevirtual 204, 3) := by decide +kernel
theorem dX11_index_19 : decode cX11_index 19 = .ok (.ifCond .eq 5, 3) := by decide +kernel
theorem dX11_index_22 : decode cX11_index 22 = .ok (.iconst 0, 1) := by decide +kernel
theorem dX11_index_23 : decode cX11_index 23 = .ok (.ireturn, 1) := by decide +kernel
theorem dX11_index_24 : decode cX11_index 24 = .ok (.aload_n 0, 1) := by decide +kernel
theorem dX11_index_25 : decode cX11_index 25 = .ok (.getfield 114, 3) := by decide +kernel
theorem dX11_index_28 : decode cX11_index 28 = .ok (.iload_n 1, 1) := by decide +kernel
theorem dX11_index_29 : decode cX11_index 29 = .ok (.aload_n 0, 1) := by decide +kernel
theorem dX11_index_30 : decode cX11_index 30 = .ok (.getfield 114, 3) := by decide +kernel
theorem dX11_index_33 : decode cX11_index 33 = .ok (.iload_n 1, 1) := by decide +kernel
theorem dX11_index_34 : decode cX11_index 34 = .ok (.baload, 1) := by decide +kernel
theorem dX11_index_35 : decode cX11_index 35 = .ok (.ifCond .ne 7, 3) := by decide +kernel
theorem dX11_index_38 : decode cX11_index 38 = .ok (.iconst 1, 1) := by decide +kernel
theorem dX11_index_39 : decode cX11_index 39 = .ok (.goto 4, 3) := by decide +kernel
theorem dX11_index_42 : decode cX11_index 42 = .ok (.iconst 0, 1) := by decide +kernel
theorem dX11_index_43 : decode cX11_index 43 = .ok (.bastore, 1) := by decide +kernel
theorem dX11_index_44 : decode cX11_index 44 = .ok (.aload_n 0, 1) := by decide +kernel
theorem dX11_index_45 : decode cX11_index 45 = .ok (.getfield 114, 3) := by decide +kernel
theorem dX11_index_48 : decode cX11_index 48 = .ok (.iload_n 1, 1) := by decide +kernel
theorem dX11_index_49 : decode cX11_index 49 = .ok (.baload, 1) := by decide +kernel
theorem dX11_index_50 : decode cX11_index 50 = .ok (.ireturn, 1) := by decide +kernel
abbrev cX11_isNear : ByteArray := prog_13_method_108_code
def yX11_isNear : MethodName := ⟨RX11, "isNear", "(I)Z"⟩
theorem dX11_isNear_0 : decode cX11_isNear 0 = .ok (.iconst 1, 1) := by decide +kernel
theorem dX11_isNear_1 : decode cX11_isNear 1 = .ok (.istore_n 2, 1) := by decide +kernel
theorem dX11_isNear_2 : decode cX11_isNear 2 = .ok (.iconst 5, 1) := by decide +kernel
theorem dX11_isNear_3 : decode cX11_isNear 3 = .ok (.iload_n 1, 1) := by decide +kernel
theorem dX11_isNear_4 : decode cX11_isNear 4 = .ok (.imul, 1) := by decide +kernel
theorem dX11_isNear_5 : decode cX11_isNear 5 = .ok (.istore_n 3, 1) := by decide +kernel
theorem dX11_isNear_6 : decode cX11_isNear 6 = .ok (.iload_n 3, 1) := by decide +kernel
theorem dX11_isNear_7 : decode cX11_isNear 7 = .ok (.iconst 5, 1) := by decide +kernel
theorem dX11_isNear_8 : decode cX11_isNear 8 = .ok (.iload_n 1, 1) := by decide +kernel
theorem dX11_isNear_9 : decode cX11_isNear 9 = .ok (.imul, 1) := by decide +kernel
theorem dX11_isNear_10 : decode cX11_isNear 10 = .ok (.aload_n 0, 1) := by decide +kernel
theorem dX11_isNear_11 : decode cX11_isNear 11 = .ok (.getfield 68, 3) := by decide +kernel
theorem dX11_isNear_14 : decode cX11_isNear 14 = .ok (.iload_n 1, 1) := by decide +kernel
theorem dX11_isNear_15 : decode cX11_isNear 15 = .ok (.iaload, 1) := by decide +kernel
theorem dX11_isNear_16 : decode cX11_isNear 16 = .ok (.iadd, 1) := by decide +kernel
theorem dX11_isNear_17 : decode cX11_isNear 17 = .ok (.if_icmp .ge 52, 3) := by decide +kernel
theorem dX11_isNear_20 : decode cX11_isNear 20 = .ok (.iload_n 2, 1) := by decide +kernel
theorem dX11_isNear_21 : decode cX11_isNear 21 = .ok (.ifCond .eq 40, 3) := by decide +kernel
theorem dX11_isNear_24 : decode cX11_isNear 24 = .ok (.aload_n 0, 1) := by decide +kernel
theorem dX11_isNear_25 : decode cX11_isNear 25 = .ok (.getfield 71, 3) := by decide +kernel
theorem dX11_isNear_28 : decode cX11_isNear 28 = .ok (.iconst 3, 1) := by decide +kernel
theorem dX11_isNear_29 : decode cX11_isNear 29 = .ok (.iload_n 3, 1) := by decide +kernel
theorem dX11_isNear_30 : decode cX11_isNear 30 = .ok (.imul, 1) := by decide +kernel
theorem dX11_isNear_31 : decode cX11_isNear 31 = .ok (.iaload, 1) := by decide +kernel
theorem dX11_isNear_32 : decode cX11_isNear 32 = .ok (.ifCond .eq 16, 3) := by decide +kernel
theorem dX11_isNear_35 : decode cX11_isNear 35 = .ok (.aload_n 0, 1) := by decide +kernel
theorem dX11_isNear_36 : decode cX11_isNear 36 = .ok (.getfield 71, 3) := by decide +kernel
theorem dX11_isNear_39 : decode cX11_isNear 39 = .ok (.iconst 3, 1) := by decide +kernel
theorem dX11_isNear_40 : decode cX11_isNear 40 = .ok (.iload_n 3, 1) := by decide +kernel
theorem dX11_isNear_41 : decode cX11_isNear 41 = .ok (.imul, 1) := by decide +kernel
theorem dX11_isNear_42 : decode cX11_isNear 42 = .ok (.iaload, 1) := by decide +kernel
theorem dX11_isNear_43 : decode cX11_isNear 43 = .ok (.bipush 11, 2) := by decide +kernel
theorem dX11_isNear_45 : decode cX11_isNear 45 = .ok (.if_icmp .ne 16, 3) := by decide +kernel
theorem dX11_isNear_48 : decode cX11_isNear 48 = .ok (.aload_n 0, 1) := by decide +kernel
theorem dX11_isNear_49 : decode cX11_isNear 49 = .ok (.getfield 74, 3) := by decide +kernel
theorem dX11_isNear_52 : decode cX11_isNear 52 = .ok (.iload_n 3, 1) := by decide +kernel
theorem dX11_isNear_53 : decode cX11_isNear 53 = .ok (.iaload, 1) := by decide +kernel
theorem dX11_isNear_54 : decode cX11_isNear 54 = .ok (.ifCond .ne 7, 3) := by decide +kernel
theorem dX11_isNear_57 : decode cX11_isNear 57 = .ok (.iconst 1, 1) := by decide +kernel
theorem dX11_isNear_58 : decode cX11_isNear 58 = .ok (.goto 4, 3) := by decide +kernel
theorem dX11_isNear_61 : decode cX11_isNear 61 = .ok (.iconst 0, 1) := by decide +kernel
theorem dX11_isNear_62 : decode cX11_isNear 62 = .ok (.istore_n 2, 1) := by decide +kernel
theorem dX11_isNear_63 : decode cX11_isNear 63 = .ok (.iinc 3 1, 3) := by decide +kernel
theorem dX11_isNear_66 : decode cX11_isNear 66 = .ok (.goto (-60), 3) := by decide +kernel
theorem dX11_isNear_69 : decode cX11_isNear 69 = .ok (.iload_n 2, 1) := by decide +kernel
theorem dX11_isNear_70 : decode cX11_isNear 70 = .ok (.ireturn, 1) := by decide +kernel
abbrev cX11_isStreamed : ByteArray := prog_13_method_109_code
def yX11_isStreamed : MethodName := ⟨RX11, "isStreamed", "(I)Z"⟩
theorem dX11_isStreamed_0 : decode cX11_isStreamed 0 = .ok (.iconst 1, 1) := by decide +kernel
theorem dX11_isStreamed_1 : decode cX11_isStreamed 1 = .ok (.istore_n 2, 1) := by decide +kernel
theorem dX11_isStreamed_2 : decode cX11_isStreamed 2 = .ok (.iconst 5, 1) := by decide +kernel
theorem dX11_isStreamed_3 : decode cX11_isStreamed 3 = .ok (.iload_n 1, 1) := by decide +kernel
theorem dX11_isStreamed_4 : decode cX11_isStreamed 4 = .ok (.imul, 1) := by decide +kernel
theorem dX11_isStreamed_5 : decode cX11_isStreamed 5 = .ok (.istore_n 3, 1) := by decide +kernel
theorem dX11_isStreamed_6 : decode cX11_isStreamed 6 = .ok (.iload_n 3, 1) := by decide +kernel
theorem dX11_isStreamed_7 : decode cX11_isStreamed 7 = .ok (.iconst 5, 1) := by decide +kernel
theorem dX11_isStreamed_8 : decode cX11_isStreamed 8 = .ok (.iload_n 1, 1) := by decide +kernel
theorem dX11_isStreamed_9 : decode cX11_isStreamed 9 = .ok (.imul, 1) := by decide +kernel
theorem dX11_isStreamed_10 : decode cX11_isStreamed 10 = .ok (.aload_n 0, 1) := by decide +kernel
theorem dX11_isStreamed_11 : decode cX11_isStreamed 11 = .ok (.getfield 68, 3) := by decide +kernel
theorem dX11_isStreamed_14 : decode cX11_isStreamed 14 = .ok (.iload_n 1, 1) := by decide +kernel
theorem dX11_isStreamed_15 : decode cX11_isStreamed 15 = .ok (.iaload, 1) := by decide +kernel
theorem dX11_isStreamed_16 : decode cX11_isStreamed 16 = .ok (.iadd, 1) := by decide +kernel
theorem dX11_isStreamed_17 : decode cX11_isStreamed 17 = .ok (.if_icmp .ge 152, 3) := by decide +kernel
theorem dX11_isStreamed_20 : decode cX11_isStreamed 20 = .ok (.aload_n 0, 1) := by decide +kernel
theorem dX11_isStreamed_21 : decode cX11_isStreamed 21 = .ok (.getfield 71, 3) := by decide +kernel
theorem dX11_isStreamed_24 : decode cX11_isStreamed 24 = .ok (.iconst 3, 1) := by decide +kernel
theorem dX11_isStreamed_25 : decode cX11_isStreamed 25 = .ok (.iload_n 3, 1) := by decide +kernel
theorem dX11_isStreamed_26 : decode cX11_isStreamed 26 = .ok (.imul, 1) := by decide +kernel
theorem dX11_isStreamed_27 : decode cX11_isStreamed 27 = .ok (.iaload, 1) := by decide +kernel
theorem dX11_isStreamed_28 : decode cX11_isStreamed 28 = .ok (.istore 4, 2) := by decide +kernel
theorem dX11_isStreamed_30 : decode cX11_isStreamed 30 = .ok (.iload_n 2, 1) := by decide +kernel
theorem dX11_isStreamed_31 : decode cX11_isStreamed 31 = .ok (.ifCond .eq 37, 3) := by decide +kernel
theorem dX11_isStreamed_34 : decode cX11_isStreamed 34 = .ok (.iload 4, 2) := by decide +kernel
theorem dX11_isStreamed_36 : decode cX11_isStreamed 36 = .ok (.ifCond .eq 28, 3) := by decide +kernel
theorem dX11_isStreamed_39 : decode cX11_isStreamed 39 = .ok (.iload 4, 2) := by decide +kernel
theorem dX11_isStreamed_41 : decode cX11_isStreamed 41 = .ok (.iconst 1, 1) := by decide +kernel
theorem dX11_isStreamed_42 : decode cX11_isStreamed 42 = .ok (.if_icmp .eq 22, 3) := by decide +kernel
theorem dX11_isStreamed_45 : decode cX11_isStreamed 45 = .ok (.iload 4, 2) := by decide +kernel
theorem dX11_isStreamed_47 : decode cX11_isStreamed 47 = .ok (.iconst 3, 1) := by decide +kernel
theorem dX11_isStreamed_48 : decode cX11_isStreamed 48 = .ok (.if_icmp .eq 16, 3) := by decide +kernel
theorem dX11_isStreamed_51 : decode cX11_isStreamed 51 = .ok (.iload 4, 2) := by decide +kernel
theorem dX11_isStreamed_53 : decode cX11_isStreamed 53 = .ok (.iconst 4, 1) := by decide +kernel
theorem dX11_isStreamed_54 : decode cX11_isStreamed 54 = .ok (.if_icmp .eq 10, 3) := by decide +kernel
theorem dX11_isStreamed_57 : decode cX11_isStreamed 57 = .ok (.iload 4, 2) := by decide +kernel
theorem dX11_isStreamed_59 : decode cX11_isStreamed 59 = .ok (.bipush 11, 2) := by decide +kernel
theorem dX11_isStreamed_61 : decode cX11_isStreamed 61 = .ok (.if_icmp .ne 7, 3) := by decide +kernel
theorem dX11_isStreamed_64 : decode cX11_isStreamed 64 = .ok (.iconst 1, 1) := by decide +kernel
theorem dX11_isStreamed_65 : decode cX11_isStreamed 65 = .ok (.goto 4, 3) := by decide +kernel
theorem dX11_isStreamed_68 : decode cX11_isStreamed 68 = .ok (.iconst 0, 1) := by decide +kernel
theorem dX11_isStreamed_69 : decode cX11_isStreamed 69 = .ok (.istore_n 2, 1) := by decide +kernel
theorem dX11_isStreamed_70 : decode cX11_isStreamed 70 = .ok (.iconst 0, 1) := by decide +kernel
theorem dX11_isStreamed_71 : decode cX11_isStreamed 71 = .ok (.istore 5, 2) := by decide +kernel
theorem dX11_isStreamed_73 : decode cX11_isStreamed 73 = .ok (.iload 5, 2) := by decide +kernel
theorem dX11_isStreamed_75 : decode cX11_isStreamed 75 = .ok (.aload_n 0, 1) := by decide +kernel
theorem dX11_isStreamed_76 : decode cX11_isStreamed 76 = .ok (.getfield 74, 3) := by decide +kernel
theorem dX11_isStreamed_79 : decode cX11_isStreamed 79 = .ok (.iload_n 3, 1) := by decide +kernel
theorem dX11_isStreamed_80 : decode cX11_isStreamed 80 = .ok (.iaload, 1) := by decide +kernel
theorem dX11_isStreamed_81 : decode cX11_isStreamed 81 = .ok (.if_icmp .ge 82, 3) := by decide +kernel
theorem dX11_isStreamed_84 : decode cX11_isStreamed 84 = .ok (.iconst 4, 1) := by decide +kernel
theorem dX11_isStreamed_85 : decode cX11_isStreamed 85 = .ok (.iconst 2, 1) := by decide +kernel
theorem dX11_isStreamed_86 : decode cX11_isStreamed 86 = .ok (.iload_n 3, 1) := by decide +kernel
theorem dX11_isStreamed_87 : decode cX11_isStreamed 87 = .ok (.imul, 1) := by decide +kernel
theorem dX11_isStreamed_88 : decode cX11_isStreamed 88 = .ok (.iload 5, 2) := by decide +kernel
theorem dX11_isStreamed_90 : decode cX11_isStreamed 90 = .ok (.iadd, 1) := by decide +kernel
theorem dX11_isStreamed_91 : decode cX11_isStreamed 91 = .ok (.imul, 1) := by decide +kernel
theorem dX11_isStreamed_92 : decode cX11_isStreamed 92 = .ok (.istore 6, 2) := by decide +kernel
theorem dX11_isStreamed_94 : decode cX11_isStreamed 94 = .ok (.iload_n 2, 1) := by decide +kernel
theorem dX11_isStreamed_95 : decode cX11_isStreamed 95 = .ok (.ifCond .eq 60, 3) := by decide +kernel
theorem dX11_isStreamed_98 : decode cX11_isStreamed 98 = .ok (.aload_n 0, 1) := by decide +kernel
theorem dX11_isStreamed_99 : decode cX11_isStreamed 99 = .ok (.getfield 77, 3) := by decide +kernel
theorem dX11_isStreamed_102 : decode cX11_isStreamed 102 = .ok (.iload 6, 2) := by decide +kernel
theorem dX11_isStreamed_104 : decode cX11_isStreamed 104 = .ok (.iaload, 1) := by decide +kernel
theorem dX11_isStreamed_105 : decode cX11_isStreamed 105 = .ok (.ifCond .ne 19, 3) := by decide +kernel
theorem dX11_isStreamed_108 : decode cX11_isStreamed 108 = .ok (.aload_n 0, 1) := by decide +kernel
theorem dX11_isStreamed_109 : decode cX11_isStreamed 109 = .ok (.getfield 77, 3) := by decide +kernel
theorem dX11_isStreamed_112 : decode cX11_isStreamed 112 = .ok (.iload 6, 2) := by decide +kernel
theorem dX11_isStreamed_114 : decode cX11_isStreamed 114 = .ok (.iconst 2, 1) := by decide +kernel
theorem dX11_isStreamed_115 : decode cX11_isStreamed 115 = .ok (.iadd, 1) := by decide +kernel
theorem dX11_isStreamed_116 : decode cX11_isStreamed 116 = .ok (.iaload, 1) := by decide +kernel
theorem dX11_isStreamed_117 : decode cX11_isStreamed 117 = .ok (.iconst 2, 1) := by decide +kernel
theorem dX11_isStreamed_118 : decode cX11_isStreamed 118 = .ok (.if_icmp .eq 37, 3) := by decide +kernel
theorem dX11_isStreamed_121 : decode cX11_isStreamed 121 = .ok (.goto 30, 3) := by decide +kernel
theorem dX11_isStreamed_124 : decode cX11_isStreamed 124 = .ok (.aload_n 0, 1) := by decide +kernel
theorem dX11_isStreamed_125 : decode cX11_isStreamed 125 = .ok (.getfield 77, 3) := by decide +kernel
theorem dX11_isStreamed_128 : decode cX11_isStreamed 128 = .ok (.iload 6, 2) := by decide +kernel
theorem dX11_isStreamed_130 : decode cX11_isStreamed 130 = .ok (.iaload, 1) := by decide +kernel
theorem dX11_isStreamed_131 : decode cX11_isStreamed 131 = .ok (.iconst 1, 1) := by decide +kernel
theorem dX11_isStreamed_132 : decode cX11_isStreamed 132 = .ok (.if_icmp .eq 23, 3) := by decide +kernel
theorem dX11_isStreamed_135 : decode cX11_isStreamed 135 = .ok (.aload_n 0, 1) := by decide +kernel
theorem dX11_isStreamed_136 : decode cX11_isStreamed 136 = .ok (.aload_n 0, 1) := by decide +kernel
theorem dX11_isStreamed_137 : decode cX11_isStreamed 137 = .ok (.getfield 77, 3) := by decide +kernel
theorem dX11_isStreamed_140 : decode cX11_isStreamed 140 = .ok (.iload 6, 2) := by decide +kernel
theorem dX11_isStreamed_142 : decode cX11_isStreamed 142 = .ok (.iconst 1, 1) := by decide +kernel
theorem dX11_isStreamed_143 : decode cX11_isStreamed 143 = .ok (.iadd, 1) := by decide +kernel
theorem dX11_isStreamed_144 : decode cX11_isStreamed 144 = .ok (.iaload, 1) := by decide +kernel
theorem dX11_isStreamed_145 : decode cX11_isStreamed 145 = .ok (.invokevirtual 407, 3) := by decide +kernel
theorem dX11_isStreamed_148 : decode cX11_isStreamed 148 = .ok (.ifCond .eq 7, 3) := by decide +kernel
theorem dX11_isStreamed_151 : decode cX11_isStreamed 151 = .ok (.iconst 1, 1) := by decide +kernel
theorem dX11_isStreamed_152 : decode cX11_isStreamed 152 = .ok (.goto 4, 3) := by decide +kernel
theorem dX11_isStreamed_155 : decode cX11_isStreamed 155 = .ok (.iconst 0, 1) := by decide +kernel
theorem dX11_isStreamed_156 : decode cX11_isStreamed 156 = .ok (.istore_n 2, 1) := by decide +kernel
theorem dX11_isStreamed_157 : decode cX11_isStreamed 157 = .ok (.iinc 5 1, 3) := by decide +kernel
theorem dX11_isStreamed_160 : decode cX11_isStreamed 160 = .ok (.goto (-87), 3) := by decide +kernel
theorem dX11_isStreamed_163 : decode cX11_isStreamed 163 = .ok (.iinc 3 1, 3) := by decide +kernel
theorem dX11_isStreamed_166 : decode cX11_isStreamed 166 = .ok (.goto (-160), 3) := by decide +kernel
theorem dX11_isStreamed_169 : decode cX11_isStreamed 169 = .ok (.iload_n 2, 1) := by decide +kernel
theorem dX11_isStreamed_170 : decode cX11_isStreamed 170 = .ok (.ireturn, 1) := by decide +kernel
abbrev cX11_plan : ByteArray := prog_13_method_110_code
def yX11_plan : MethodName := ⟨RX11, "plan", "(I)I"⟩
theorem dX11_plan_0 : decode cX11_plan 0 = .ok (.aload_n 0, 1) := by decide +kernel
theorem dX11_plan_1 : decode cX11_plan 1 = .ok (.aload_n 0, 1) := by decide +kernel
theorem dX11_plan_2 : decode cX11_plan 2 = .ok (.iload_n 1, 1) := by decide +kernel
theorem dX11_plan_3 : decode cX11_plan 3 = .ok (.invokevirtual 305, 3) := by decide +kernel
theorem dX11_plan_6 : decode cX11_plan 6 = .ok (.ifCond .eq 7, 3) := by decide +kernel
theorem dX11_plan_9 : decode cX11_plan 9 = .ok (.iconst 0, 1) := by decide +kernel
theorem dX11_plan_10 : decode cX11_plan 10 = .ok (.goto 4, 3) := by decide +kernel
theorem dX11_plan_13 : decode cX11_plan 13 = .ok (.iconst 1, 1) := by decide +kernel
theorem dX11_plan_14 : decode cX11_plan 14 = .ok (.invokevirtual 204, 3) := by decide +kernel
theorem dX11_plan_17 : decode cX11_plan 17 = .ok (.ifCond .eq 5, 3) := by decide +kernel
theorem dX11_plan_20 : decode cX11_plan 20 = .ok (.iconst 0, 1) := by decide +kernel
theorem dX11_plan_21 : decode cX11_plan 21 = .ok (.ireturn, 1) := by decide +kernel
theorem dX11_plan_22 : decode cX11_plan 22 = .ok (.aload_n 0, 1) := by decide +kernel
theorem dX11_plan_23 : decode cX11_plan 23 = .ok (.getfield 68, 3) := by decide +kernel
theorem dX11_plan_26 : decode cX11_plan 26 = .ok (.iload_n 1, 1) := by decide +kernel
theorem dX11_plan_27 : decode cX11_plan 27 = .ok (.iaload, 1) := by decide +kernel
theorem dX11_plan_28 : decode cX11_plan 28 = .ok (.ifCond .le 30, 3) := by decide +kernel
theorem dX11_plan_31 : decode cX11_plan 31 = .ok (.aload_n 0, 1) := by decide +kernel
theorem dX11_plan_32 : decode cX11_plan 32 = .ok (.getfield 71, 3) := by decide +kernel
theorem dX11_plan_35 : decode cX11_plan 35 = .ok (.bipush 15, 2) := by decide +kernel
theorem dX11_plan_37 : decode cX11_plan 37 = .ok (.iload_n 1, 1) := by decide +kernel
theorem dX11_plan_38 : decode cX11_plan 38 = .ok (.imul, 1) := by decide +kernel
theorem dX11_plan_39 : decode cX11_plan 39 = .ok (.iaload, 1) := by decide +kernel
theorem dX11_plan_40 : decode cX11_plan 40 = .ok (.iconst 3, 1) := by decide +kernel
theorem dX11_plan_41 : decode cX11_plan 41 = .ok (.if_icmp .ne 17, 3) := by decide +kernel
theorem dX11_plan_44 : decode cX11_plan 44 = .ok (.aload_n 0, 1) := by decide +kernel
theorem dX11_plan_45 : decode cX11_plan 45 = .ok (.getfield 71, 3) := by decide +kernel
theorem dX11_plan_48 : decode cX11_plan 48 = .ok (.bipush 15, 2) := by decide +kernel
theorem dX11_plan_50 : decode cX11_plan 50 = .ok (.iload_n 1, 1) := by decide +kernel
theorem dX11_plan_51 : decode cX11_plan 51 = .ok (.imul, 1) := by decide +kernel
theorem dX11_plan_52 : decode cX11_plan 52 = .ok (.iconst 1, 1) := by decide +kernel
theorem dX11_plan_53 : decode cX11_plan 53 = .ok (.iadd, 1) := by decide +kernel
theorem dX11_plan_54 : decode cX11_plan 54 = .ok (.iaload, 1) := by decide +kernel
theorem dX11_plan_55 : decode cX11_plan 55 = .ok (.goto 5, 3) := by decide +kernel
theorem dX11_plan_58 : decode cX11_plan 58 = .ok (.bipush 8, 2) := by decide +kernel
theorem dX11_plan_60 : decode cX11_plan 60 = .ok (.istore_n 2, 1) := by decide +kernel
theorem dX11_plan_61 : decode cX11_plan 61 = .ok (.iconst 0, 1) := by decide +kernel
theorem dX11_plan_62 : decode cX11_plan 62 = .ok (.istore_n 3, 1) := by decide +kernel
theorem dX11_plan_63 : decode cX11_plan 63 = .ok (.iconst 0, 1) := by decide +kernel
theorem dX11_plan_64 : decode cX11_plan 64 = .ok (.istore 4, 2) := by decide +kernel
theorem dX11_plan_66 : decode cX11_plan 66 = .ok (.iconst 0, 1) := by decide +kernel
theorem dX11_plan_67 : decode cX11_plan 67 = .ok (.istore 5, 2) := by decide +kernel
theorem dX11_plan_69 : decode cX11_plan 69 = .ok (.iload 5, 2) := by decide +kernel
theorem dX11_plan_71 : decode cX11_plan 71 = .ok (.aload_n 0, 1) := by decide +kernel
theorem dX11_plan_72 : decode cX11_plan 72 = .ok (.getfield 173, 3) := by decide +kernel
theorem dX11_plan_75 : decode cX11_plan 75 = .ok (.if_icmp .ge 74, 3) := by decide +kernel
theorem dX11_plan_78 : decode cX11_plan 78 = .ok (.iload_n 3, 1) := by decide +kernel
theorem dX11_plan_79 : decode cX11_plan 79 = .ok (.aload_n 0, 1) := by decide +kernel
theorem dX11_plan_80 : decode cX11_plan 80 = .ok (.getfield 7, 3) := by decide +kernel
theorem dX11_plan_83 : decode cX11_plan 83 = .ok (.aload_n 0, 1) := by decide +kernel
theorem dX11_plan_84 : decode cX11_plan 84 = .ok (.getfield 35, 3) := by decide +kernel
theorem dX11_plan_87 : decode cX11_plan 87 = .ok (.iload 5, 2) := by decide +kernel
theorem dX11_plan_89 : decode cX11_plan 89 = .ok (.iaload, 1) := by decide +kernel
theorem dX11_plan_90 : decode cX11_plan 90 = .ok (.iaload, 1) := by decide +kernel
theorem dX11_plan_91 : decode cX11_plan 91 = .ok (.iconst 2, 1) := by decide +kernel
theorem dX11_plan_92 : decode cX11_plan 92 = .ok (.if_icmp .eq 7, 3) := by decide +kernel
theorem dX11_plan_95 : decode cX11_plan 95 = .ok (.iconst 1, 1) := by decide +kernel
theorem dX11_plan_96 : decode cX11_plan 96 = .ok (.goto 4, 3) := by decide +kernel
theorem dX11_plan_99 : decode cX11_plan 99 = .ok (.iconst 0, 1) := by decide +kernel
theorem dX11_plan_100 : decode cX11_plan 100 = .ok (.iadd, 1) := by decide +kernel
theorem dX11_plan_101 : decode cX11_plan 101 = .ok (.istore_n 3, 1) := by decide +kernel
theorem dX11_plan_102 : decode cX11_plan 102 = .ok (.iload 4, 2) := by decide +kernel
theorem dX11_plan_104 : decode cX11_plan 104 = .ok (.aload_n 0, 1) := by decide +kernel
theorem dX11_plan_105 : decode cX11_plan 105 = .ok (.getfield 7, 3) := by decide +kernel
theorem dX11_plan_108 : decode cX11_plan 108 = .ok (.aload_n 0, 1) := by decide +kernel
theorem dX11_plan_109 : decode cX11_plan 109 = .ok (.getfield 35, 3) := by decide +kernel
theorem dX11_plan_112 : decode cX11_plan 112 = .ok (.iload 5, 2) := by decide +kernel
theorem dX11_plan_114 : decode cX11_plan 114 = .ok (.iaload, 1) := by decide +kernel
theorem dX11_plan_115 : decode cX11_plan 115 = .ok (.iaload, 1) := by decide +kernel
theorem dX11_plan_116 : decode cX11_plan 116 = .ok (.ifCond .ne 23, 3) := by decide +kernel
theorem dX11_plan_119 : decode cX11_plan 119 = .ok (.aload_n 0, 1) := by decide +kernel
theorem dX11_plan_120 : decode cX11_plan 120 = .ok (.getfield 13, 3) := by decide +kernel
theorem dX11_plan_123 : decode cX11_plan 123 = .ok (.aload_n 0, 1) := by decide +kernel
theorem dX11_plan_124 : decode cX11_plan 124 = .ok (.getfield 35, 3) := by decide +kernel
theorem dX11_plan_127 : decode cX11_plan 127 = .ok (.iload 5, 2) := by decide +kernel
theorem dX11_plan_129 : decode cX11_plan 129 = .ok (.iaload, 1) := by decide +kernel
theorem dX11_plan_130 : decode cX11_plan 130 = .ok (.iaload, 1) := by decide +kernel
theorem dX11_plan_131 : decode cX11_plan 131 = .ok (.iload_n 2, 1) := by decide +kernel
theorem dX11_plan_132 : decode cX11_plan 132 = .ok (.if_icmp .ne 7, 3) := by decide +kernel
theorem dX11_plan_135 : decode cX11_plan 135 = .ok (.iconst 1, 1) := by decide +kernel
theorem dX11_plan_136 : decode cX11_plan 136 = .ok (.goto 4, 3) := by decide +kernel
theorem dX11_plan_139 : decode cX11_plan 139 = .ok (.iconst 0, 1) := by decide +kernel
theorem dX11_plan_140 : decode cX11_plan 140 = .ok (.iadd, 1) := by decide +kernel
theorem dX11_plan_141 : decode cX11_plan 141 = .ok (.istore 4, 2) := by decide +kernel
theorem dX11_plan_143 : decode cX11_plan 143 = .ok (.iinc 5 1, 3) := by decide +kernel
theorem dX11_plan_146 : decode cX11_plan 146 = .ok (.goto (-77), 3) := by decide +kernel
theorem dX11_plan_149 : decode cX11_plan 149 = .ok (.iload_n 2, 1) := by decide +kernel
theorem dX11_plan_150 : decode cX11_plan 150 = .ok (.bipush 8, 2) := by decide +kernel
theorem dX11_plan_152 : decode cX11_plan 152 = .ok (.if_icmp .ge 25, 3) := by decide +kernel
theorem dX11_plan_155 : decode cX11_plan 155 = .ok (.aload_n 0, 1) := by decide +kernel
theorem dX11_plan_156 : decode cX11_plan 156 = .ok (.getfield 114, 3) := by decide +kernel
theorem dX11_plan_159 : decode cX11_plan 159 = .ok (.iload_n 2, 1) := by decide +kernel
theorem dX11_plan_160 : decode cX11_plan 160 = .ok (.baload, 1) := by decide +kernel
theorem dX11_plan_161 : decode cX11_plan 161 = .ok (.ifCond .eq 16, 3) := by decide +kernel
theorem dX11_plan_164 : decode cX11_plan 164 = .ok (.iload 4, 2) := by decide +kernel
theorem dX11_plan_166 : decode cX11_plan 166 = .ok (.iload_n 3, 1) := by decide +kernel
theorem dX11_plan_167 : decode cX11_plan 167 = .ok (.if_icmp .ge 10, 3) := by decide +kernel
theorem dX11_plan_170 : decode cX11_plan 170 = .ok (.sipush 1000, 3) := by decide +kernel
theorem dX11_plan_173 : decode cX11_plan 173 = .ok (.iload 4, 2) := by decide +kernel
theorem dX11_plan_175 : decode cX11_plan 175 = .ok (.iadd, 1) := by decide +kernel
theorem dX11_plan_176 : decode cX11_plan 176 = .ok (.ireturn, 1) := by decide +kernel
theorem dX11_plan_177 : decode cX11_plan 177 = .ok (.sipush 1000, 3) := by decide +kernel
theorem dX11_plan_180 : decode cX11_plan 180 = .ok (.aload_n 0, 1) := by decide +kernel
theorem dX11_plan_181 : decode cX11_plan 181 = .ok (.iload_n 1, 1) := by decide +kernel
theorem dX11_plan_182 : decode cX11_plan 182 = .ok (.invokevirtual 410, 3) := by decide +kernel
theorem dX11_plan_185 : decode cX11_plan 185 = .ok (.ifCond .eq 7, 3) := by decide +kernel
theorem dX11_plan_188 : decode cX11_plan 188 = .ok (.iconst 2, 1) := by decide +kernel
theorem dX11_plan_189 : decode cX11_plan 189 = .ok (.goto 4, 3) := by decide +kernel
theorem dX11_plan_192 : decode cX11_plan 192 = .ok (.iconst 0, 1) := by decide +kernel
theorem dX11_plan_193 : decode cX11_plan 193 = .ok (.imul, 1) := by decide +kernel
theorem dX11_plan_194 : decode cX11_plan 194 = .ok (.iload_n 3, 1) := by decide +kernel
theorem dX11_plan_195 : decode cX11_plan 195 = .ok (.iadd, 1) := by decide +kernel
theorem dX11_plan_196 : decode cX11_plan 196 = .ok (.ireturn, 1) := by decide +kernel
abbrev cX11_view : ByteArray := prog_13_method_111_code
def yX11_view : MethodName := ⟨RX11, "view", "(I)I"⟩
theorem dX11_view_0 : decode cX11_view 0 = .ok (.aload_n 0, 1) := by decide +kernel
theorem dX11_view_1 : decode cX11_view 1 = .ok (.aload_n 0, 1) := by decide +kernel
theorem dX11_view_2 : decode cX11_view 2 = .ok (.iload_n 1, 1) := by decide +kernel
theorem dX11_view_3 : decode cX11_view 3 = .ok (.invokevirtual 305, 3) := by decide +kernel
theorem dX11_view_6 : decode cX11_view 6 = .ok (.ifCond .ne 7, 3) := by decide +kernel
theorem dX11_view_9 : decode cX11_view 9 = .ok (.iconst 1, 1) := by decide +kernel
theorem dX11_view_10 : decode cX11_view 10 = .ok (.goto 16, 3) := by decide +kernel
theorem dX11_view_13 : decode cX11_view 13 = .ok (.aload_n 0, 1) := by decide +kernel
theorem dX11_view_14 : decode cX11_view 14 = .ok (.getfield 299, 3) := by decide +kernel
theorem dX11_view_17 : decode cX11_view 17 = .ok (.iconst 5, 1) := by decide +kernel
theorem dX11_view_18 : decode cX11_view 18 = .ok (.if_icmp .ne 7, 3) := by decide +kernel
theorem dX11_view_21 : decode cX11_view 21 = .ok (.iconst 2, 1) := by decide +kernel
theorem dX11_view_22 : decode cX11_view 22 = .ok (.goto 4, 3) := by decide +kernel
theorem dX11_view_25 : decode cX11_view 25 = .ok (.iconst 0, 1) := by decide +kernel
theorem dX11_view_26 : decode cX11_view 26 = .ok (.invokevirtual 204, 3) := by decide +kernel
theorem dX11_view_29 : decode cX11_view 29 = .ok (.ifCond .eq 5, 3) := by decide +kernel
theorem dX11_view_32 : decode cX11_view 32 = .ok (.iconst 0, 1) := by decide +kernel
theorem dX11_view_33 : decode cX11_view 33 = .ok (.ireturn, 1) := by decide +kernel
theorem dX11_view_34 : decode cX11_view 34 = .ok (.aload_n 0, 1) := by decide +kernel
theorem dX11_view_35 : decode cX11_view 35 = .ok (.getfield 117, 3) := by decide +kernel
theorem dX11_view_38 : decode cX11_view 38 = .ok (.aload_n 0, 1) := by decide +kernel
theorem dX11_view_39 : decode cX11_view 39 = .ok (.getfield 299, 3) := by decide +kernel
theorem dX11_view_42 : decode cX11_view 42 = .ok (.iload_n 1, 1) := by decide +kernel
theorem dX11_view_43 : decode cX11_view 43 = .ok (.iastore, 1) := by decide +kernel
theorem dX11_view_44 : decode cX11_view 44 = .ok (.aload_n 0, 1) := by decide +kernel
theorem dX11_view_45 : decode cX11_view 45 = .ok (.getfield 120, 3) := by decide +kernel
theorem dX11_view_48 : decode cX11_view 48 = .ok (.aload_n 0, 1) := by decide +kernel
theorem dX11_view_49 : decode cX11_view 49 = .ok (.getfield 299, 3) := by decide +kernel
theorem dX11_view_52 : decode cX11_view 52 = .ok (.iconst 0, 1) := by decide +kernel
theorem dX11_view_53 : decode cX11_view 53 = .ok (.iastore, 1) := by decide +kernel
theorem dX11_view_54 : decode cX11_view 54 = .ok (.aload_n 0, 1) := by decide +kernel
theorem dX11_view_55 : decode cX11_view 55 = .ok (.aload_n 0, 1) := by decide +kernel
theorem dX11_view_56 : decode cX11_view 56 = .ok (.invokevirtual 228, 3) := by decide +kernel
theorem dX11_view_59 : decode cX11_view 59 = .ok (.invokevirtual 348, 3) := by decide +kernel
theorem dX11_view_62 : decode cX11_view 62 = .ok (.aload_n 0, 1) := by decide +kernel
theorem dX11_view_63 : decode cX11_view 63 = .ok (.getfield 123, 3) := by decide +kernel
theorem dX11_view_66 : decode cX11_view 66 = .ok (.aload_n 0, 1) := by decide +kernel
theorem dX11_view_67 : decode cX11_view 67 = .ok (.getfield 299, 3) := by decide +kernel
theorem dX11_view_70 : decode cX11_view 70 = .ok (.aload_n 0, 1) := by decide +kernel
theorem dX11_view_71 : decode cX11_view 71 = .ok (.getfield 80, 3) := by decide +kernel
theorem dX11_view_74 : decode cX11_view 74 = .ok (.bipush 60, 2) := by decide +kernel
theorem dX11_view_76 : decode cX11_view 76 = .ok (.iload_n 1, 1) := by decide +kernel
theorem dX11_view_77 : decode cX11_view 77 = .ok (.imul, 1) := by decide +kernel
theorem dX11_view_78 : decode cX11_view 78 = .ok (.laload, 1) := by decide +kernel
theorem dX11_view_79 : decode cX11_view 79 = .ok (.lastore, 1) := by decide +kernel
theorem dX11_view_80 : decode cX11_view 80 = .ok (.aload_n 0, 1) := by decide +kernel
theorem dX11_view_81 : decode cX11_view 81 = .ok (.dup, 1) := by decide +kernel
theorem dX11_view_82 : decode cX11_view 82 = .ok (.getfield 299, 3) := by decide +kernel
theorem dX11_view_85 : decode cX11_view 85 = .ok (.iconst 1, 1) := by decide +kernel
theorem dX11_view_86 : decode cX11_view 86 = .ok (.iadd, 1) := by decide +kernel
theorem dX11_view_87 : decode cX11_view 87 = .ok (.putfield 299, 3) := by decide +kernel
theorem dX11_view_90 : decode cX11_view 90 = .ok (.aload_n 0, 1) := by decide +kernel
theorem dX11_view_91 : decode cX11_view 91 = .ok (.getfield 299, 3) := by decide +kernel
theorem dX11_view_94 : decode cX11_view 94 = .ok (.iconst 1, 1) := by decide +kernel
theorem dX11_view_95 : decode cX11_view 95 = .ok (.isub, 1) := by decide +kernel
theorem dX11_view_96 : decode cX11_view 96 = .ok (.ireturn, 1) := by decide +kernel
abbrev cX11_viewed : ByteArray := prog_13_method_113_code
def yX11_viewed : MethodName := ⟨RX11, "viewed", "(II)I"⟩
theorem dX11_viewed_0 : decode cX11_viewed 0 = .ok (.iload_n 1, 1) := by decide +kernel
theorem dX11_viewed_1 : decode cX11_viewed 1 = .ok (.iconst 0, 1) := by decide +kernel
theorem dX11_viewed_2 : decode cX11_viewed 2 = .ok (.aload_n 0, 1) := by decide +kernel
theorem dX11_viewed_3 : decode cX11_viewed 3 = .ok (.getfield 299, 3) := by decide +kernel
theorem dX11_viewed_6 : decode cX11_viewed 6 = .ok (.iconst 1, 1) := by decide +kernel
theorem dX11_viewed_7 : decode cX11_viewed 7 = .ok (.isub, 1) := by decide +kernel
theorem dX11_viewed_8 : decode cX11_viewed 8 = .ok (.invokestatic 169, 3) := by decide +kernel
theorem dX11_viewed_11 : decode cX11_viewed 11 = .ok (.ifCond .eq 11, 3) := by decide +kernel
theorem dX11_viewed_14 : decode cX11_viewed 14 = .ok (.iload_n 2, 1) := by decide +kernel
theorem dX11_viewed_15 : decode cX11_viewed 15 = .ok (.ifCond .lt 7, 3) := by decide +kernel
theorem dX11_viewed_18 : decode cX11_viewed 18 = .ok (.iconst 1, 1) := by decide +kernel
theorem dX11_viewed_19 : decode cX11_viewed 19 = .ok (.goto 4, 3) := by decide +kernel
theorem dX11_viewed_22 : decode cX11_viewed 22 = .ok (.iconst 0, 1) := by decide +kernel
theorem dX11_viewed_23 : decode cX11_viewed 23 = .ok (.istore_n 3, 1) := by decide +kernel
theorem dX11_viewed_24 : decode cX11_viewed 24 = .ok (.aload_n 0, 1) := by decide +kernel
theorem dX11_viewed_25 : decode cX11_viewed 25 = .ok (.iload_n 3, 1) := by decide +kernel
theorem dX11_viewed_26 : decode cX11_viewed 26 = .ok (.ifCond .eq 7, 3) := by decide +kernel
theorem dX11_viewed_29 : decode cX11_viewed 29 = .ok (.iconst 0, 1) := by decide +kernel
theorem dX11_viewed_30 : decode cX11_viewed 30 = .ok (.goto 4, 3) := by decide +kernel
theorem dX11_viewed_33 : decode cX11_viewed 33 = .ok (.iconst 1, 1) := by decide +kernel
theorem dX11_viewed_34 : decode cX11_viewed 34 = .ok (.invokevirtual 204, 3) := by decide +kernel
theorem dX11_viewed_37 : decode cX11_viewed 37 = .ok (.ifCond .eq 7, 3) := by decide +kernel
theorem dX11_viewed_40 : decode cX11_viewed 40 = .ok (.iconst 0, 1) := by decide +kernel
theorem dX11_viewed_41 : decode cX11_viewed 41 = .ok (.goto 14, 3) := by decide +kernel
theorem dX11_viewed_44 : decode cX11_viewed 44 = .ok (.aload_n 0, 1) := by decide +kernel
theorem dX11_viewed_45 : decode cX11_viewed 45 = .ok (.aload_n 0, 1) := by decide +kernel
theorem dX11_viewed_46 : decode cX11_viewed 46 = .ok (.getfield 123, 3) := by decide +kernel
theorem dX11_viewed_49 : decode cX11_viewed 49 = .ok (.iload_n 1, 1) := by decide +kernel
theorem dX11_viewed_50 : decode cX11_viewed 50 = .ok (.laload, 1) := by decide +kernel
theorem dX11_viewed_51 : decode cX11_viewed 51 = .ok (.iload_n 2, 1) := by decide +kernel
theorem dX11_viewed_52 : decode cX11_viewed 52 = .ok (.invokevirtual 372, 3) := by decide +kernel
theorem dX11_viewed_55 : decode cX11_viewed 55 = .ok (.ireturn, 1) := by decide +kernel
abbrev cX11_changed : ByteArray := prog_13_method_114_code
def yX11_changed : MethodName := ⟨RX11, "changed", "(I)I"⟩
theorem dX11_changed_0 : decode cX11_changed 0 = .ok (.aload_n 0, 1) := by decide +kernel
theorem dX11_changed_1 : decode cX11_changed 1 = .ok (.iload_n 1, 1) := by decide +kernel
theorem dX11_changed_2 : decode cX11_changed 2 = .ok (.iconst 0, 1) := by decide +kernel
theorem dX11_changed_3 : decode cX11_changed 3 = .ok (.aload_n 0, 1) := by decide +kernel
theorem dX11_changed_4 : decode cX11_changed 4 = .ok (.getfield 299, 3) := by decide +kernel
theorem dX11_changed_7 : decode cX11_changed 7 = .ok (.iconst 1, 1) := by decide +kernel
theorem dX11_changed_8 : decode cX11_changed 8 = .ok (.isub, 1) := by decide +kernel
theorem dX11_changed_9 : decode cX11_changed 9 = .ok (.invokestatic 169, 3) := by decide +kernel
theorem dX11_changed_12 : decode cX11_changed 12 = .ok (.ifCond .eq 7, 3) := by decide +kernel
theorem dX11_changed_15 : decode cX11_changed 15 = .ok (.iconst 0, 1) := by decide +kernel
theorem dX11_changed_16 : decode cX11_changed 16 = .ok (.goto 4, 3) := by decide +kernel
theorem dX11_changed_19 : decode cX11_changed 19 = .ok (.iconst 1, 1) := by decide +kernel
theorem dX11_changed_20 : decode cX11_changed 20 = .ok (.invokevirtual 204, 3) := by decide +kernel
theorem dX11_changed_23 : decode cX11_changed 23 = .ok (.ifCond .eq 7, 3) := by decide +kernel
theorem dX11_changed_26 : decode cX11_changed 26 = .ok (.iconst 0, 1) := by decide +kernel
theorem dX11_changed_27 : decode cX11_changed 27 = .ok (.goto 9, 3) := by decide +kernel
theorem dX11_changed_30 : decode cX11_changed 30 = .ok (.aload_n 0, 1) := by decide +kernel
theorem dX11_changed_31 : decode cX11_changed 31 = .ok (.getfield 120, 3) := by decide +kernel
theorem dX11_changed_34 : decode cX11_changed 34 = .ok (.iload_n 1, 1) := by decide +kernel
theorem dX11_changed_35 : decode cX11_changed 35 = .ok (.iaload, 1) := by decide +kernel
theorem dX11_changed_36 : decode cX11_changed 36 = .ok (.ireturn, 1) := by decide +kernel
abbrev cX11_textsBelow : ByteArray := prog_13_method_115_code
def yX11_textsBelow : MethodName := ⟨RX11, "textsBelow", "(II)I"⟩
theorem dX11_textsBelow_0 : decode cX11_textsBelow 0 = .ok (.iconst 0, 1) := by decide +kernel
theorem dX11_textsBelow_1 : decode cX11_textsBelow 1 = .ok (.istore_n 3, 1) := by decide +kernel
theorem dX11_textsBelow_2 : decode cX11_textsBelow 2 = .ok (.iconst 0, 1) := by decide +kernel
theorem dX11_textsBelow_3 : decode cX11_textsBelow 3 = .ok (.istore 4, 2) := by decide +kernel
theorem dX11_textsBelow_5 : decode cX11_textsBelow 5 = .ok (.iload 4, 2) := by decide +kernel
theorem dX11_textsBelow_7 : decode cX11_textsBelow 7 = .ok (.aload_n 0, 1) := by decide +kernel
theorem dX11_textsBelow_8 : decode cX11_textsBelow 8 = .ok (.getfield 173, 3) := by decide +kernel
theorem dX11_textsBelow_11 : decode cX11_textsBelow 11 = .ok (.if_icmp .ge 63, 3) := by decide +kernel
theorem dX11_textsBelow_14 : decode cX11_textsBelow 14 = .ok (.aload_n 0, 1) := by decide +kernel
theorem dX11_textsBelow_15 : decode cX11_textsBelow 15 = .ok (.getfield 35, 3) := by decide +kernel
theorem dX11_textsBelow_18 : decode cX11_textsBelow 18 = .ok (.iload 4, 2) := by decide +kernel
theorem dX11_textsBelow_20 : decode cX11_textsBelow 20 = .ok (.iaload, 1) := by decide +kernel
theorem dX11_textsBelow_21 : decode cX11_textsBelow 21 = .ok (.istore 5, 2) := by decide +kernel
theorem dX11_textsBelow_23 : decode cX11_textsBelow 23 = .ok (.iload_n 3, 1) := by decide +kernel
theorem dX11_textsBelow_24 : decode cX11_textsBelow 24 = .ok (.aload_n 0, 1) := by decide +kernel
theorem dX11_textsBelow_25 : decode cX11_textsBelow 25 = .ok (.getfield 7, 3) := by decide +kernel
theorem dX11_textsBelow_28 : decode cX11_textsBelow 28 = .ok (.iload 5, 2) := by decide +kernel
theorem dX11_textsBelow_30 : decode cX11_textsBelow 30 = .ok (.iaload, 1) := by decide +kernel
theorem dX11_textsBelow_31 : decode cX11_textsBelow 31 = .ok (.iconst 1, 1) := by decide +kernel
theorem dX11_textsBelow_32 : decode cX11_textsBelow 32 = .ok (.if_icmp .ne 33, 3) := by decide +kernel
theorem dX11_textsBelow_35 : decode cX11_textsBelow 35 = .ok (.aload_n 0, 1) := by decide +kernel
theorem dX11_textsBelow_36 : decode cX11_textsBelow 36 = .ok (.iload 5, 2) := by decide +kernel
theorem dX11_textsBelow_38 : decode cX11_textsBelow 38 = .ok (.iload_n 1, 1) := by decide +kernel
theorem dX11_textsBelow_39 : decode cX11_textsBelow 39 = .ok (.invokevirtual 187, 3) := by decide +kernel
theorem dX11_textsBelow_42 : decode cX11_textsBelow 42 = .ok (.ifCond .eq 23, 3) := by decide +kernel
theorem dX11_textsBelow_45 : decode cX11_textsBelow 45 = .ok (.iload_n 2, 1) := by decide +kernel
theorem dX11_textsBelow_46 : decode cX11_textsBelow 46 = .ok (.iconst (-1), 1) := by decide +kernel
theorem dX11_textsBelow_47 : decode cX11_textsBelow 47 = .ok (.if_icmp .eq 14, 3) := by decide +kernel
theorem dX11_textsBelow_50 : decode cX11_textsBelow 50 = .ok (.aload_n 0, 1) := by decide +kernel
theorem dX11_textsBelow_51 : decode cX11_textsBelow 51 = .ok (.getfield 16, 3) := by decide +kernel
theorem dX11_textsBelow_54 : decode cX11_textsBelow 54 = .ok (.iload 5, 2) := by decide +kernel
theorem dX11_textsBelow_56 : decode cX11_textsBelow 56 = .ok (.iaload, 1) := by decide +kernel
theorem dX11_textsBelow_57 : decode cX11_textsBelow 57 = .ok (.iload_n 2, 1) := by decide +kernel
theorem dX11_textsBelow_58 : decode cX11_textsBelow 58 = .ok (.if_icmp .ne 7, 3) := by decide +kernel
theorem dX11_textsBelow_61 : decode cX11_textsBelow 61 = .ok (.iconst 1, 1) := by decide +kernel
theorem dX11_textsBelow_62 : decode cX11_textsBelow 62 = .ok (.goto 4, 3) := by decide +kernel
theorem dX11_textsBelow_65 : decode cX11_textsBelow 65 = .ok (.iconst 0, 1) := by decide +kernel
theorem dX11_textsBelow_66 : decode cX11_textsBelow 66 = .ok (.iadd, 1) := by decide +kernel
theorem dX11_textsBelow_67 : decode cX11_textsBelow 67 = .ok (.istore_n 3, 1) := by decide +kernel
theorem dX11_textsBelow_68 : decode cX11_textsBelow 68 = .ok (.iinc 4 1, 3) := by decide +kernel
theorem dX11_textsBelow_71 : decode cX11_textsBelow 71 = .ok (.goto (-66), 3) := by decide +kernel
theorem dX11_textsBelow_74 : decode cX11_textsBelow 74 = .ok (.iload_n 3, 1) := by decide +kernel
theorem dX11_textsBelow_75 : decode cX11_textsBelow 75 = .ok (.ireturn, 1) := by decide +kernel
abbrev cX11_ranked : ByteArray := prog_13_method_116_code
def yX11_ranked : MethodName := ⟨RX11, "ranked", "(II)I"⟩
theorem dX11_ranked_0 : decode cX11_ranked 0 = .ok (.aload_n 0, 1) := by decide +kernel
theorem dX11_ranked_1 : decode cX11_ranked 1 = .ok (.iload_n 2, 1) := by decide +kernel
theorem dX11_ranked_2 : decode cX11_ranked 2 = .ok (.ifCond .ge 7, 3) := by decide +kernel
theorem dX11_ranked_5 : decode cX11_ranked 5 = .ok (.iconst 1, 1) := by decide +kernel
theorem dX11_ranked_6 : decode cX11_ranked 6 = .ok (.goto 19, 3) := by decide +kernel
theorem dX11_ranked_9 : decode cX11_ranked 9 = .ok (.iload_n 1, 1) := by decide +kernel
theorem dX11_ranked_10 : decode cX11_ranked 10 = .ok (.iconst 0, 1) := by decide +kernel
theorem dX11_ranked_11 : decode cX11_ranked 11 = .ok (.sipush 999, 3) := by decide +kernel
theorem dX11_ranked_14 : decode cX11_ranked 14 = .ok (.invokestatic 169, 3) := by decide +kernel
theorem dX11_ranked_17 : decode cX11_ranked 17 = .ok (.ifCond .eq 7, 3) := by decide +kernel
theorem dX11_ranked_20 : decode cX11_ranked 20 = .ok (.iconst 0, 1) := by decide +kernel
theorem dX11_ranked_21 : decode cX11_ranked 21 = .ok (.goto 4, 3) := by decide +kernel
theorem dX11_ranked_24 : decode cX11_ranked 24 = .ok (.iconst 2, 1) := by decide +kernel
theorem dX11_ranked_25 : decode cX11_ranked 25 = .ok (.invokevirtual 204, 3) := by decide +kernel
theorem dX11_ranked_28 : decode cX11_ranked 28 = .ok (.ifCond .eq 5, 3) := by decide +kernel
theorem dX11_ranked_31 : decode cX11_ranked 31 = .ok (.iconst 0, 1) := by decide +kernel
theorem dX11_ranked_32 : decode cX11_ranked 32 = .ok (.ireturn, 1) := by decide +kernel
theorem dX11_ranked_33 : decode cX11_ranked 33 = .ok (.iconst (-1), 1) := by decide +kernel
theorem dX11_ranked_34 : decode cX11_ranked 34 = .ok (.istore_n 3, 1) := by decide +kernel
theorem dX11_ranked_35 : decode cX11_ranked 35 = .ok (.iconst 0, 1) := by decide +kernel
theorem dX11_ranked_36 : decode cX11_ranked 36 = .ok (.istore 4, 2) := by decide +kernel
theorem dX11_ranked_38 : decode cX11_ranked 38 = .ok (.iload 4, 2) := by decide +kernel
theorem dX11_ranked_40 : decode cX11_ranked 40 = .ok (.aload_n 0, 1) := by decide +kernel
theorem dX11_ranked_41 : decode cX11_ranked 41 = .ok (.getfield 173, 3) := by decide +kernel
theorem dX11_ranked_44 : decode cX11_ranked 44 = .ok (.if_icmp .ge 200, 3) := by decide +kernel
theorem dX11_ranked_47 : decode cX11_ranked 47 = .ok (.aload_n 0, 1) := by decide +kernel
theorem dX11_ranked_48 : decode cX11_ranked 48 = .ok (.getfield 7, 3) := by decide +kernel
theorem dX11_ranked_51 : decode cX11_ranked 51 = .ok (.aload_n 0, 1) := by decide +kernel
theorem dX11_ranked_52 : decode cX11_ranked 52 = .ok (.getfield 35, 3) := by decide +kernel
theorem dX11_ranked_55 : decode cX11_ranked 55 = .ok (.iload 4, 2) := by decide +kernel
theorem dX11_ranked_57 : decode cX11_ranked 57 = .ok (.iaload, 1) := by decide +kernel
theorem dX11_ranked_58 : decode cX11_ranked 58 = .ok (.iaload, 1) := by decide +kernel
theorem dX11_ranked_59 : decode cX11_ranked 59 = .ok (.ifCond .ne 18, 3) := by decide +kernel
theorem dX11_ranked_62 : decode cX11_ranked 62 = .ok (.aload_n 0, 1) := by decide +kernel
theorem dX11_ranked_63 : decode cX11_ranked 63 = .ok (.aload_n 0, 1) := by decide +kernel
theorem dX11_ranked_64 : decode cX11_ranked 64 = .ok (.getfield 35, 3) := by decide +kernel
theorem dX11_ranked_67 : decode cX11_ranked 67 = .ok (.iload 4, 2) := by decide +kernel
theorem dX11_ranked_69 : decode cX11_ranked 69 = .ok (.iaload, 1) := by decide +kernel
theorem dX11_ranked_70 : decode cX11_ranked 70 = .ok (.iload_n 1, 1) := by decide +kernel
theorem dX11_ranked_71 : decode cX11_ranked 71 = .ok (.invokevirtual 413, 3) := by decide +kernel
theorem dX11_ranked_74 : decode cX11_ranked 74 = .ok (.goto 4, 3) := by decide +kernel
theorem dX11_ranked_77 : decode cX11_ranked 77 = .ok (.iconst 0, 1) := by decide +kernel
theorem dX11_ranked_78 : decode cX11_ranked 78 = .ok (.istore 5, 2) := by decide +kernel
theorem dX11_ranked_80 : decode cX11_ranked 80 = .ok (.aload_n 0, 1) := by decide +kernel
theorem dX11_ranked_81 : decode cX11_ranked 81 = .ok (.aload_n 0, 1) := by decide +kernel
theorem dX11_ranked_82 : decode cX11_ranked 82 = .ok (.getfield 35, 3) := by decide +kernel
theorem dX11_ranked_85 : decode cX11_ranked 85 = .ok (.iload 4, 2) := by decide +kernel
theorem dX11_ranked_87 : decode cX11_ranked 87 = .ok (.iaload, 1) := by decide +kernel
theorem dX11_ranked_88 : decode cX11_ranked 88 = .ok (.iconst (-1), 1) := by decide +kernel
theorem dX11_ranked_89 : decode cX11_ranked 89 = .ok (.invokevirtual 413, 3) := by decide +kernel
theorem dX11_ranked_92 : decode cX11_ranked 92 = .ok (.istore 6, 2) := by decide +kernel
theorem dX11_ranked_94 : decode cX11_ranked 94 = .ok (.iconst 0, 1) := by decide +kernel
theorem dX11_ranked_95 : decode cX11_ranked 95 = .ok (.istore 7, 2) := by decide +kernel
theorem dX11_ranked_97 : decode cX11_ranked 97 = .ok (.iconst 0, 1) := by decide +kernel
theorem dX11_ranked_98 : decode cX11_ranked 98 = .ok (.istore 8, 2) := by decide +kernel
theorem dX11_ranked_100 : decode cX11_ranked 100 = .ok (.iload 8, 2) := by decide +kernel
theorem dX11_ranked_102 : decode cX11_ranked 102 = .ok (.aload_n 0, 1) := by decide +kernel
theorem dX11_ranked_103 : decode cX11_ranked 103 = .ok (.getfield 173, 3) := by decide +kernel
theorem dX11_ranked_106 : decode cX11_ranked 106 = .ok (.if_icmp .ge 109, 3) := by decide +kernel
theorem dX11_ranked_109 : decode cX11_ranked 109 = .ok (.iload 5, 2) := by decide +kernel
theorem dX11_ranked_111 : decode cX11_ranked 111 = .ok (.ifCond .le 104, 3) := by decide +kernel
theorem dX11_ranked_114 : decode cX11_ranked 114 = .ok (.aload_n 0, 1) := by decide +kernel
theorem dX11_ranked_115 : decode cX11_ranked 115 = .ok (.getfield 7, 3) := by decide +kernel
theorem dX11_ranked_118 : decode cX11_ranked 118 = .ok (.aload_n 0, 1) := by decide +kernel
theorem dX11_ranked_119 : decode cX11_ranked 119 = .ok (.getfield 35, 3) := by decide +kernel
theorem dX11_ranked_122 : decode cX11_ranked 122 = .ok (.iload 8, 2) := by decide +kernel
theorem dX11_ranked_124 : decode cX11_ranked 124 = .ok (.iaload, 1) := by decide +kernel
theorem dX11_ranked_125 : decode cX11_ranked 125 = .ok (.iaload, 1) := by decide +kernel
theorem dX11_ranked_126 : decode cX11_ranked 126 = .ok (.ifCond .ne 18, 3) := by decide +kernel
theorem dX11_ranked_129 : decode cX11_ranked 129 = .ok (.aload_n 0, 1) := by decide +kernel
theorem dX11_ranked_130 : decode cX11_ranked 130 = .ok (.aload_n 0, 1) := by decide +kernel
theorem dX11_ranked_131 : decode cX11_ranked 131 = .ok (.getfield 35, 3) := by decide +kernel
theorem dX11_ranked_134 : decode cX11_ranked 134 = .ok (.iload 8, 2) := by decide +kernel
theorem dX11_ranked_136 : decode cX11_ranked 136 = .ok (.iaload, 1) := by decide +kernel
theorem dX11_ranked_137 : decode cX11_ranked 137 = .ok (.iload_n 1, 1) := by decide +kernel
theorem dX11_ranked_138 : decode cX11_ranked 138 = .ok (.invokevirtual 413, 3) := by decide +kernel
theorem dX11_ranked_141 : decode cX11_ranked 141 = .ok (.goto 4, 3) := by decide +kernel
theorem dX11_ranked_144 : decode cX11_ranked 144 = .ok (.iconst 0, 1) := by decide +kernel
theorem dX11_ranked_145 : decode cX11_ranked 145 = .ok (.istore 9, 2) := by decide +kernel
theorem dX11_ranked_147 : decode cX11_ranked 147 = .ok (.aload_n 0, 1) := by decide +kernel
theorem dX11_ranked_148 : decode cX11_ranked 148 = .ok (.aload_n 0, 1) := by decide +kernel
theorem dX11_ranked_149 : decode cX11_ranked 149 = .ok (.getfield 35, 3) := by decide +kernel
theorem dX11_ranked_152 : decode cX11_ranked 152 = .ok (.iload 8, 2) := by decide +kernel
theorem dX11_ranked_154 : decode cX11_ranked 154 = .ok (.iaload, 1) := by decide +kernel
theorem dX11_ranked_155 : decode cX11_ranked 155 = .ok (.iconst (-1), 1) := by decide +kernel
theorem dX11_ranked_156 : decode cX11_ranked 156 = .ok (.invokevirtual 413, 3) := by decide +kernel
theorem dX11_ranked_159 : decode cX11_ranked 159 = .ok (.istore 10, 2) := by decide +kernel
theorem dX11_ranked_161 : decode cX11_ranked 161 = .ok (.iload 7, 2) := by decide +kernel
theorem dX11_ranked_163 : decode cX11_ranked 163 = .ok (.iload 9, 2) := by decide +kernel
theorem dX11_ranked_165 : decode cX11_ranked 165 = .ok (.iload 6, 2) := by decide +kernel
theorem dX11_ranked_167 : decode cX11_ranked 167 = .ok (.imul, 1) := by decide +kernel
theorem dX11_ranked_168 : decode cX11_ranked 168 = .ok (.iload 5, 2) := by decide +kernel
theorem dX11_ranked_170 : decode cX11_ranked 170 = .ok (.iload 10, 2) := by decide +kernel
theorem dX11_ranked_172 : decode cX11_ranked 172 = .ok (.imul, 1) := by decide +kernel
theorem dX11_ranked_173 : decode cX11_ranked 173 = .ok (.if_icmp .gt 28, 3) := by decide +kernel
theorem dX11_ranked_176 : decode cX11_ranked 176 = .ok (.iload 9, 2) := by decide +kernel
theorem dX11_ranked_178 : decode cX11_ranked 178 = .ok (.ifCond .le 27, 3) := by decide +kernel
theorem dX11_ranked_181 : decode cX11_ranked 181 = .ok (.iload 9, 2) := by decide +kernel
theorem dX11_ranked_183 : decode cX11_ranked 183 = .ok (.iload 6, 2) := by decide +kernel
theorem dX11_ranked_185 : decode cX11_ranked 185 = .ok (.imul, 1) := by decide +kernel
theorem dX11_ranked_186 : decode cX11_ranked 186 = .ok (.iload 5, 2) := by decide +kernel
theorem dX11_ranked_188 : decode cX11_ranked 188 = .ok (.iload 10, 2) := by decide +kernel
theorem dX11_ranked_190 : decode cX11_ranked 190 = .ok (.imul, 1) := by decide +kernel
theorem dX11_ranked_191 : decode cX11_ranked 191 = .ok (.if_icmp .ne 14, 3) := by decide +kernel
theorem dX11_ranked_194 : decode cX11_ranked 194 = .ok (.iload 8, 2) := by decide +kernel
theorem dX11_ranked_196 : decode cX11_ranked 196 = .ok (.iload 4, 2) := by decide +kernel
theorem dX11_ranked_198 : decode cX11_ranked 198 = .ok (.if_icmp .ge 7, 3) := by decide +kernel
theorem dX11_ranked_201 : decode cX11_ranked 201 = .ok (.iconst 1, 1) := by decide +kernel
theorem dX11_ranked_202 : decode cX11_ranked 202 = .ok (.goto 4, 3) := by decide +kernel
theorem dX11_ranked_205 : decode cX11_ranked 205 = .ok (.iconst 0, 1) := by decide +kernel
theorem dX11_ranked_206 : decode cX11_ranked 206 = .ok (.iadd, 1) := by decide +kernel
theorem dX11_ranked_207 : decode cX11_ranked 207 = .ok (.istore 7, 2) := by decide +kernel
theorem dX11_ranked_209 : decode cX11_ranked 209 = .ok (.iinc 8 1, 3) := by decide +kernel
theorem dX11_ranked_212 : decode cX11_ranked 212 = .ok (.goto (-112), 3) := by decide +kernel
theorem dX11_ranked_215 : decode cX11_ranked 215 = .ok (.iload 5, 2) := by decide +kernel
theorem dX11_ranked_217 : decode cX11_ranked 217 = .ok (.ifCond .le 19, 3) := by decide +kernel
theorem dX11_ranked_220 : decode cX11_ranked 220 = .ok (.iload 7, 2) := by decide +kernel
theorem dX11_ranked_222 : decode cX11_ranked 222 = .ok (.iload_n 2, 1) := by decide +kernel
theorem dX11_ranked_223 : decode cX11_ranked 223 = .ok (.if_icmp .ne 13, 3) := by decide +kernel
theorem dX11_ranked_226 : decode cX11_ranked 226 = .ok (.aload_n 0, 1) := by decide +kernel
theorem dX11_ranked_227 : decode cX11_ranked 227 = .ok (.getfield 35, 3) := by decide +kernel
theorem dX11_ranked_230 : decode cX11_ranked 230 = .ok (.iload 4, 2) := by decide +kernel
theorem dX11_ranked_232 : decode cX11_ranked 232 = .ok (.iaload, 1) := by decide +kernel
theorem dX11_ranked_233 : decode cX11_ranked 233 = .ok (.goto 4, 3) := by decide +kernel
theorem dX11_ranked_236 : decode cX11_ranked 236 = .ok (.iload_n 3, 1) := by decide +kernel
theorem dX11_ranked_237 : decode cX11_ranked 237 = .ok (.istore_n 3, 1) := by decide +kernel
theorem dX11_ranked_238 : decode cX11_ranked 238 = .ok (.iinc 4 1, 3) := by decide +kernel
theorem dX11_ranked_241 : decode cX11_ranked 241 = .ok (.goto (-203), 3) := by decide +kernel
theorem dX11_ranked_244 : decode cX11_ranked 244 = .ok (.iload_n 3, 1) := by decide +kernel
theorem dX11_ranked_245 : decode cX11_ranked 245 = .ok (.ireturn, 1) := by decide +kernel
abbrev cX11_keep : ByteArray := prog_13_method_117_code
def yX11_keep : MethodName := ⟨RX11, "keep", "()I"⟩
theorem dX11_keep_0 : decode cX11_keep 0 = .ok (.aload_n 0, 1) := by decide +kernel
theorem dX11_keep_1 : decode cX11_keep 1 = .ok (.aload_n 0, 1) := by decide +kernel
theorem dX11_keep_2 : decode cX11_keep 2 = .ok (.getfield 416, 3) := by decide +kernel
theorem dX11_keep_5 : decode cX11_keep 5 = .ok (.bipush 6, 2) := by decide +kernel
theorem dX11_keep_7 : decode cX11_keep 7 = .ok (.if_icmp .ne 7, 3) := by decide +kernel
theorem dX11_keep_10 : decode cX11_keep 10 = .ok (.iconst 1, 1) := by decide +kernel
theorem dX11_keep_11 : decode cX11_keep 11 = .ok (.goto 4, 3) := by decide +kernel
theorem dX11_keep_14 : decode cX11_keep 14 = .ok (.iconst 0, 1) := by decide +kernel
theorem dX11_keep_15 : decode cX11_keep 15 = .ok (.invokevirtual 204, 3) := by decide +kernel
theorem dX11_keep_18 : decode cX11_keep 18 = .ok (.ifCond .eq 5, 3) := by decide +kernel
theorem dX11_keep_21 : decode cX11_keep 21 = .ok (.iconst 0, 1) := by decide +kernel
theorem dX11_keep_22 : decode cX11_keep 22 = .ok (.ireturn, 1) := by decide +kernel
theorem dX11_keep_23 : decode cX11_keep 23 = .ok (.iconst 0, 1) := by decide +kernel
theorem dX11_keep_24 : decode cX11_keep 24 = .ok (.istore_n 1, 1) := by decide +kernel
theorem dX11_keep_25 : decode cX11_keep 25 = .ok (.iload_n 1, 1) := by decide +kernel
theorem dX11_keep_26 : decode cX11_keep 26 = .ok (.bipush 60, 2) := by decide +kernel
theorem dX11_keep_28 : decode cX11_keep 28 = .ok (.if_icmp .ge 91, 3) := by decide +kernel
theorem dX11_keep_31 : decode cX11_keep 31 = .ok (.bipush 60, 2) := by decide +kernel
theorem dX11_keep_33 : decode cX11_keep 33 = .ok (.aload_n 0, 1) := by decide +kernel
theorem dX11_keep_34 : decode cX11_keep 34 = .ok (.getfield 416, 3) := by decide +kernel
theorem dX11_keep_37 : decode cX11_keep 37 = .ok (.imul, 1) := by decide +kernel
theorem dX11_keep_38 : decode cX11_keep 38 = .ok (.iload_n 1, 1) := by decide +kernel
theorem dX11_keep_39 : decode cX11_keep 39 = .ok (.iadd, 1) := by decide +kernel
theorem dX11_keep_40 : decode cX11_keep 40 = .ok (.istore_n 2, 1) := by decide +kernel
theorem dX11_keep_41 : decode cX11_keep 41 = .ok (.aload_n 0, 1) := by decide +kernel
theorem dX11_keep_42 : decode cX11_keep 42 = .ok (.getfield 126, 3) := by decide +kernel
theorem dX11_keep_45 : decode cX11_keep 45 = .ok (.iload_n 2, 1) := by decide +kernel
theorem dX11_keep_46 : decode cX11_keep 46 = .ok (.aload_n 0, 1) := by decide +kernel
theorem dX11_keep_47 : decode cX11_keep 47 = .ok (.getfield 31, 3) := by decide +kernel
theorem dX11_keep_50 : decode cX11_keep 50 = .ok (.iload_n 1, 1) := by decide +kernel
theorem dX11_keep_51 : decode cX11_keep 51 = .ok (.baload, 1) := by decide +kernel
theorem dX11_keep_52 : decode cX11_keep 52 = .ok (.bastore, 1) := by decide +kernel
theorem dX11_keep_53 : decode cX11_keep 53 = .ok (.aload_n 0, 1) := by decide +kernel
theorem dX11_keep_54 : decode cX11_keep 54 = .ok (.getfield 129, 3) := by decide +kernel
theorem dX11_keep_57 : decode cX11_keep 57 = .ok (.iload_n 2, 1) := by decide +kernel
theorem dX11_keep_58 : decode cX11_keep 58 = .ok (.aload_n 0, 1) := by decide +kernel
theorem dX11_keep_59 : decode cX11_keep 59 = .ok (.getfield 13, 3) := by decide +kernel
theorem dX11_keep_62 : decode cX11_keep 62 = .ok (.iload_n 1, 1) := by decide +kernel
theorem dX11_keep_63 : decode cX11_keep 63 = .ok (.iaload, 1) := by decide +kernel
theorem dX11_keep_64 : decode cX11_keep 64 = .ok (.iastore, 1) := by decide +kernel
theorem dX11_keep_65 : decode cX11_keep 65 = .ok (.aload_n 0, 1) := by decide +kernel
theorem dX11_keep_66 : decode cX11_keep 66 = .ok (.getfield 132, 3) := by decide +kernel
theorem dX11_keep_69 : decode cX11_keep 69 = .ok (.iload_n 2, 1) := by decide +kernel
theorem dX11_keep_70 : decode cX11_keep 70 = .ok (.aload_n 0, 1) := by decide +kernel
theorem dX11_keep_71 : decode cX11_keep 71 = .ok (.getfield 16, 3) := by decide +kernel
theorem dX11_keep_74 : decode cX11_keep 74 = .ok (.iload_n 1, 1) := by decide +kernel
theorem dX11_keep_75 : decode cX11_keep 75 = .ok (.iaload, 1) := by decide +kernel
theorem dX11_keep_76 : decode cX11_keep 76 = .ok (.iastore, 1) := by decide +kernel
theorem dX11_keep_77 : decode cX11_keep 77 = .ok (.aload_n 0, 1) := by decide +kernel
theorem dX11_keep_78 : decode cX11_keep 78 = .ok (.getfield 135, 3) := by decide +kernel
theorem dX11_keep_81 : decode cX11_keep 81 = .ok (.iload_n 2, 1) := by decide +kernel
theorem dX11_keep_82 : decode cX11_keep 82 = .ok (.aload_n 0, 1) := by decide +kernel
theorem dX11_keep_83 : decode cX11_keep 83 = .ok (.getfield 19, 3) := by decide +kernel
theorem dX11_keep_86 : decode cX11_keep 86 = .ok (.iload_n 1, 1) := by decide +kernel
theorem dX11_keep_87 : decode cX11_keep 87 = .ok (.iaload, 1) := by decide +kernel
theorem dX11_keep_88 : decode cX11_keep 88 = .ok (.iastore, 1) := by decide +kernel
theorem dX11_keep_89 : decode cX11_keep 89 = .ok (.aload_n 0, 1) := by decide +kernel
theorem dX11_keep_90 : decode cX11_keep 90 = .ok (.getfield 138, 3) := by decide +kernel
theorem dX11_keep_93 : decode cX11_keep 93 = .ok (.iload_n 2, 1) := by decide +kernel
theorem dX11_keep_94 : decode cX11_keep 94 = .ok (.aload_n 0, 1) := by decide +kernel
theorem dX11_keep_95 : decode cX11_keep 95 = .ok (.getfield 22, 3) := by decide +kernel
theorem dX11_keep_98 : decode cX11_keep 98 = .ok (.iload_n 1, 1) := by decide +kernel
theorem dX11_keep_99 : decode cX11_keep 99 = .ok (.iaload, 1) := by decide +kernel
theorem dX11_keep_100 : decode cX11_keep 100 = .ok (.iastore, 1) := by decide +kernel
theorem dX11_keep_101 : decode cX11_keep 101 = .ok (.aload_n 0, 1) := by decide +kernel
theorem dX11_keep_102 : decode cX11_keep 102 = .ok (.getfield 141, 3) := by decide +kernel
theorem dX11_keep_105 : decode cX11_keep 105 = .ok (.iload_n 2, 1) := by decide +kernel
theorem dX11_keep_106 : decode cX11_keep 106 = .ok (.aload_n 0, 1) := by decide +kernel
theorem dX11_keep_107 : decode cX11_keep 107 = .ok (.getfield 25, 3) := by decide +kernel
theorem dX11_keep_110 : decode cX11_keep 110 = .ok (.iload_n 1, 1) := by decide +kernel
theorem dX11_keep_111 : decode cX11_keep 111 = .ok (.iaload, 1) := by decide +kernel
theorem dX11_keep_112 : decode cX11_keep 112 = .ok (.iastore, 1) := by decide +kernel
theorem dX11_keep_113 : decode cX11_keep 113 = .ok (.iinc 1 1, 3) := by decide +kernel
theorem dX11_keep_116 : decode cX11_keep 116 = .ok (.goto (-91), 3) := by decide +kernel
theorem dX11_keep_119 : decode cX11_keep 119 = .ok (.aload_n 0, 1) := by decide +kernel
theorem dX11_keep_120 : decode cX11_keep 120 = .ok (.dup, 1) := by decide +kernel
theorem dX11_keep_121 : decode cX11_keep 121 = .ok (.getfield 416, 3) := by decide +kernel
theorem dX11_keep_124 : decode cX11_keep 124 = .ok (.iconst 1, 1) := by decide +kernel
theorem dX11_keep_125 : decode cX11_keep 125 = .ok (.iadd, 1) := by decide +kernel
theorem dX11_keep_126 : decode cX11_keep 126 = .ok (.putfield 416, 3) := by decide +kernel
theorem dX11_keep_129 : decode cX11_keep 129 = .ok (.aload_n 0, 1) := by decide +kernel
theorem dX11_keep_130 : decode cX11_keep 130 = .ok (.getfield 416, 3) := by decide +kernel
theorem dX11_keep_133 : decode cX11_keep 133 = .ok (.iconst 1, 1) := by decide +kernel
theorem dX11_keep_134 : decode cX11_keep 134 = .ok (.isub, 1) := by decide +kernel
theorem dX11_keep_135 : decode cX11_keep 135 = .ok (.ireturn, 1) := by decide +kernel
abbrev cX11_load : ByteArray := prog_13_method_118_code
def yX11_load : MethodName := ⟨RX11, "load", "(I)V"⟩
theorem dX11_load_0 : decode cX11_load 0 = .ok (.iconst 0, 1) := by decide +kernel
theorem dX11_load_1 : decode cX11_load 1 = .ok (.istore_n 2, 1) := by decide +kernel
theorem dX11_load_2 : decode cX11_load 2 = .ok (.iload_n 2, 1) := by decide +kernel
theorem dX11_load_3 : decode cX11_load 3 = .ok (.bipush 60, 2) := by decide +kernel
theorem dX11_load_5 : decode cX11_load 5 = .ok (.if_icmp .ge 88, 3) := by decide +kernel
theorem dX11_load_8 : decode cX11_load 8 = .ok (.bipush 60, 2) := by decide +kernel
theorem dX11_load_10 : decode cX11_load 10 = .ok (.iload_n 1, 1) := by decide +kernel
theorem dX11_load_11 : decode cX11_load 11 = .ok (.imul, 1) := by decide +kernel
theorem dX11_load_12 : decode cX11_load 12 = .ok (.iload_n 2, 1) := by decide +kernel
theorem dX11_load_13 : decode cX11_load 13 = .ok (.iadd, 1) := by decide +kernel
theorem dX11_load_14 : decode cX11_load 14 = .ok (.istore_n 3, 1) := by decide +kernel
theorem dX11_load_15 : decode cX11_load 15 = .ok (.aload_n 0, 1) := by decide +kernel
theorem dX11_load_16 : decode cX11_load 16 = .ok (.getfield 31, 3) := by decide +kernel
theorem dX11_load_19 : decode cX11_load 19 = .ok (.iload_n 2, 1) := by decide +kernel
theorem dX11_load_20 : decode cX11_load 20 = .ok (.aload_n 0, 1) := by decide +kernel
theorem dX11_load_21 : decode cX11_load 21 = .ok (.getfield 126, 3) := by decide +kernel
theorem dX11_load_24 : decode cX11_load 24 = .ok (.iload_n 3, 1) := by decide +kernel
theorem dX11_load_25 : decode cX11_load 25 = .ok (.baload, 1) := by decide +kernel
theorem dX11_load_26 : decode cX11_load 26 = .ok (.bastore, 1) := by decide +kernel
theorem dX11_load_27 : decode cX11_load 27 = .ok (.aload_n 0, 1) := by decide +kernel
theorem dX11_load_28 : decode cX11_load 28 = .ok (.getfield 13, 3) := by decide +kernel
theorem dX11_load_31 : decode cX11_load 31 = .ok (.iload_n 2, 1) := by decide +kernel
theorem dX11_load_32 : decode cX11_load 32 = .ok (.aload_n 0, 1) := by decide +kernel
theorem dX11_load_33 : decode cX11_load 33 = .ok (.getfield 129, 3) := by decide +kernel
theorem dX11_load_36 : decode cX11_load 36 = .ok (.iload_n 3, 1) := by decide +kernel
theorem dX11_load_37 : decode cX11_load 37 = .ok (.iaload, 1) := by decide +kernel
theorem dX11_load_38 : decode cX11_load 38 = .ok (.iastore, 1) := by decide +kernel
theorem dX11_load_39 : decode cX11_load 39 = .ok (.aload_n 0, 1) := by decide +kernel
theorem dX11_load_40 : decode cX11_load 40 = .ok (.getfield 16, 3) := by decide +kernel
theorem dX11_load_43 : decode cX11_load 43 = .ok (.iload_n 2, 1) := by decide +kernel
theorem dX11_load_44 : decode cX11_load 44 = .ok (.aload_n 0, 1) := by decide +kernel
theorem dX11_load_45 : decode cX11_load 45 = .ok (.getfield 132, 3) := by decide +kernel
theorem dX11_load_48 : decode cX11_load 48 = .ok (.iload_n 3, 1) := by decide +kernel
theorem dX11_load_49 : decode cX11_load 49 = .ok (.iaload, 1) := by decide +kernel
theorem dX11_load_50 : decode cX11_load 50 = .ok (.iastore, 1) := by decide +kernel
theorem dX11_load_51 : decode cX11_load 51 = .ok (.aload_n 0, 1) := by decide +kernel
theorem dX11_load_52 : decode cX11_load 52 = .ok (.getfield 19, 3) := by decide +kernel
theorem dX11_load_55 : decode cX11_load 55 = .ok (.iload_n 2, 1) := by decide +kernel
theorem dX11_load_56 : decode cX11_load 56 = .ok (.aload_n 0, 1) := by decide +kernel
theorem dX11_load_57 : decode cX11_load 57 = .ok (.getfield 135, 3) := by decide +kernel
theorem dX11_load_60 : decode cX11_load 60 = .ok (.iload_n 3, 1) := by decide +kernel
theorem dX11_load_61 : decode cX11_load 61 = .ok (.iaload, 1) := by decide +kernel
theorem dX11_load_62 : decode cX11_load 62 = .ok (.iastore, 1) := by decide +kernel
theorem dX11_load_63 : decode cX11_load 63 = .ok (.aload_n 0, 1) := by decide +kernel
theorem dX11_load_64 : decode cX11_load 64 = .ok (.getfield 22, 3) := by decide +kernel
theorem dX11_load_67 : decode cX11_load 67 = .ok (.iload_n 2, 1) := by decide +kernel
theorem dX11_load_68 : decode cX11_load 68 = .ok (.aload_n 0, 1) := by decide +kernel
theorem dX11_load_69 : decode cX11_load 69 = .ok (.getfield 138, 3) := by decide +kernel
theorem dX11_load_72 : decode cX11_load 72 = .ok (.iload_n 3, 1) := by decide +kernel
theorem dX11_load_73 : decode cX11_load 73 = .ok (.iaload, 1) := by decide +kernel
theorem dX11_load_74 : decode cX11_load 74 = .ok (.iastore, 1) := by decide +kernel
theorem dX11_load_75 : decode cX11_load 75 = .ok (.aload_n 0, 1) := by decide +kernel
theorem dX11_load_76 : decode cX11_load 76 = .ok (.getfield 25, 3) := by decide +kernel
theorem dX11_load_79 : decode cX11_load 79 = .ok (.iload_n 2, 1) := by decide +kernel
theorem dX11_load_80 : decode cX11_load 80 = .ok (.aload_n 0, 1) := by decide +kernel
theorem dX11_load_81 : decode cX11_load 81 = .ok (.getfield 141, 3) := by decide +kernel
theorem dX11_load_84 : decode cX11_load 84 = .ok (.iload_n 3, 1) := by decide +kernel
theorem dX11_load_85 : decode cX11_load 85 = .ok (.iaload, 1) := by decide +kernel
theorem dX11_load_86 : decode cX11_load 86 = .ok (.iastore, 1) := by decide +kernel
theorem dX11_load_87 : decode cX11_load 87 = .ok (.iinc 2 1, 3) := by decide +kernel
theorem dX11_load_90 : decode cX11_load 90 = .ok (.goto (-88), 3) := by decide +kernel
theorem dX11_load_93 : decode cX11_load 93 = .ok (.aload_n 0, 1) := by decide +kernel
theorem dX11_load_94 : decode cX11_load 94 = .ok (.invokevirtual 163, 3) := by decide +kernel
theorem dX11_load_97 : decode cX11_load 97 = .ok (.return_, 1) := by decide +kernel
abbrev cX11_isVersion : ByteArray := prog_13_method_119_code
def yX11_isVersion : MethodName := ⟨RX11, "isVersion", "(I)Z"⟩
theorem dX11_isVersion_0 : decode cX11_isVersion 0 = .ok (.iload_n 1, 1) := by decide +kernel
theorem dX11_isVersion_1 : decode cX11_isVersion 1 = .ok (.iconst 0, 1) := by decide +kernel
theorem dX11_isVersion_2 : decode cX11_isVersion 2 = .ok (.aload_n 0, 1) := by decide +kernel
theorem dX11_isVersion_3 : decode cX11_isVersion 3 = .ok (.getfield 416, 3) := by decide +kernel
theorem dX11_isVersion_6 : decode cX11_isVersion 6 = .ok (.iconst 1, 1) := by decide +kernel
theorem dX11_isVersion_7 : decode cX11_isVersion 7 = .ok (.isub, 1) := by decide +kernel
theorem dX11_isVersion_8 : decode cX11_isVersion 8 = .ok (.invokestatic 169, 3) := by decide +kernel
theorem dX11_isVersion_11 : decode cX11_isVersion 11 = .ok (.ireturn, 1) := by decide +kernel
abbrev cX11_take : ByteArray := prog_13_method_120_code
def yX11_take : MethodName := ⟨RX11, "take", "(I)I"⟩
theorem dX11_take_0 : decode cX11_take 0 = .ok (.aload_n 0, 1) := by decide +kernel
theorem dX11_take_1 : decode cX11_take 1 = .ok (.aload_n 0, 1) := by decide +kernel
theorem dX11_take_2 : decode cX11_take 2 = .ok (.iload_n 1, 1) := by decide +kernel
theorem dX11_take_3 : decode cX11_take 3 = .ok (.invokevirtual 419, 3) := by decide +kernel
theorem dX11_take_6 : decode cX11_take 6 = .ok (.ifCond .ne 7, 3) := by decide +kernel
theorem dX11_take_9 : decode cX11_take 9 = .ok (.iconst 1, 1) := by decide +kernel
theorem dX11_take_10 : decode cX11_take 10 = .ok (.goto 15, 3) := by decide +kernel
theorem dX11_take_13 : decode cX11_take 13 = .ok (.aload_n 0, 1) := by decide +kernel
theorem dX11_take_14 : decode cX11_take 14 = .ok (.getfield 191, 3) := by decide +kernel
theorem dX11_take_17 : decode cX11_take 17 = .ok (.ifCond .le 7, 3) := by decide +kernel
theorem dX11_take_20 : decode cX11_take 20 = .ok (.iconst 2, 1) := by decide +kernel
theorem dX11_take_21 : decode cX11_take 21 = .ok (.goto 4, 3) := by decide +kernel
theorem dX11_take_24 : decode cX11_take 24 = .ok (.iconst 0, 1) := by decide +kernel
theorem dX11_take_25 : decode cX11_take 25 = .ok (.invokevirtual 204, 3) := by decide +kernel
theorem dX11_take_28 : decode cX11_take 28 = .ok (.ifCond .eq 5, 3) := by decide +kernel
theorem dX11_take_31 : decode cX11_take 31 = .ok (.iconst 0, 1) := by decide +kernel
theorem dX11_take_32 : decode cX11_take 32 = .ok (.ireturn, 1) := by decide +kernel
theorem dX11_take_33 : decode cX11_take 33 = .ok (.aload_n 0, 1) := by decide +kernel
theorem dX11_take_34 : decode cX11_take 34 = .ok (.invokevirtual 225, 3) := by decide +kernel
theorem dX11_take_37 : decode cX11_take 37 = .ok (.aload_n 0, 1) := by decide +kernel
theorem dX11_take_38 : decode cX11_take 38 = .ok (.iload_n 1, 1) := by decide +kernel
theorem dX11_take_39 : decode cX11_take 39 = .ok (.invokevirtual 422, 3) := by decide +kernel
theorem dX11_take_42 : decode cX11_take 42 = .ok (.aload_n 0, 1) := by decide +kernel
theorem dX11_take_43 : decode cX11_take 43 = .ok (.getfield 244, 3) := by decide +kernel
theorem dX11_take_46 : decode cX11_take 46 = .ok (.ifCond .eq 26, 3) := by decide +kernel
theorem dX11_take_49 : decode cX11_take 49 = .ok (.aload_n 0, 1) := by decide +kernel
theorem dX11_take_50 : decode cX11_take 50 = .ok (.invokevirtual 248, 3) := by decide +kernel
theorem dX11_take_53 : decode cX11_take 53 = .ok (.ifCond .ne 19, 3) := by decide +kernel
theorem dX11_take_56 : decode cX11_take 56 = .ok (.aload_n 0, 1) := by decide +kernel
theorem dX11_take_57 : decode cX11_take 57 = .ok (.invokevirtual 251, 3) := by decide +kernel
theorem dX11_take_60 : decode cX11_take 60 = .ok (.aload_n 0, 1) := by decide +kernel
theorem dX11_take_61 : decode cX11_take 61 = .ok (.invokevirtual 163, 3) := by decide +kernel
theorem dX11_take_64 : decode cX11_take 64 = .ok (.aload_n 0, 1) := by decide +kernel
theorem dX11_take_65 : decode cX11_take 65 = .ok (.iconst 2, 1) := by decide +kernel
theorem dX11_take_66 : decode cX11_take 66 = .ok (.invokevirtual 204, 3) := by decide +kernel
theorem dX11_take_69 : decode cX11_take 69 = .ok (.pop, 1) := by decide +kernel
theorem dX11_take_70 : decode cX11_take 70 = .ok (.iconst 0, 1) := by decide +kernel
theorem dX11_take_71 : decode cX11_take 71 = .ok (.ireturn, 1) := by decide +kernel
theorem dX11_take_72 : decode cX11_take 72 = .ok (.aload_n 0, 1) := by decide +kernel
theorem dX11_take_73 : decode cX11_take 73 = .ok (.invokevirtual 277, 3) := by decide +kernel
theorem dX11_take_76 : decode cX11_take 76 = .ok (.aload_n 0, 1) := by decide +kernel
theorem dX11_take_77 : decode cX11_take 77 = .ok (.invokevirtual 261, 3) := by decide +kernel
theorem dX11_take_80 : decode cX11_take 80 = .ok (.aload_n 0, 1) := by decide +kernel
theorem dX11_take_81 : decode cX11_take 81 = .ok (.getfield 173, 3) := by decide +kernel
theorem dX11_take_84 : decode cX11_take 84 = .ok (.ireturn, 1) := by decide +kernel
abbrev cX11_layOut : ByteArray := prog_13_method_121_code
def yX11_layOut : MethodName := ⟨RX11, "layOut", "(II)V"⟩
theorem dX11_layOut_0 : decode cX11_layOut 0 = .ok (.aload_n 0, 1) := by decide +kernel
theorem dX11_layOut_1 : decode cX11_layOut 1 = .ok (.iload_n 2, 1) := by decide +kernel
theorem dX11_layOut_2 : decode cX11_layOut 2 = .ok (.invokevirtual 422, 3) := by decide +kernel
theorem dX11_layOut_5 : decode cX11_layOut 5 = .ok (.aload_n 0, 1) := by decide +kernel
theorem dX11_layOut_6 : decode cX11_layOut 6 = .ok (.getfield 144, 3) := by decide +kernel
theorem dX11_layOut_9 : decode cX11_layOut 9 = .ok (.iload_n 1, 1) := by decide +kernel
theorem dX11_layOut_10 : decode cX11_layOut 10 = .ok (.aload_n 0, 1) := by decide +kernel
theorem dX11_layOut_11 : decode cX11_layOut 11 = .ok (.getfield 173, 3) := by decide +kernel
theorem dX11_layOut_14 : decode cX11_layOut 14 = .ok (.iastore, 1) := by decide +kernel
theorem dX11_layOut_15 : decode cX11_layOut 15 = .ok (.iconst 0, 1) := by decide +kernel
theorem dX11_layOut_16 : decode cX11_layOut 16 = .ok (.istore_n 3, 1) := by decide +kernel
theorem dX11_layOut_17 : decode cX11_layOut 17 = .ok (.iload_n 3, 1) := by decide +kernel
theorem dX11_layOut_18 : decode cX11_layOut 18 = .ok (.aload_n 0, 1) := by decide +kernel
theorem dX11_layOut_19 : decode cX11_layOut 19 = .ok (.getfield 173, 3) := by decide +kernel
theorem dX11_layOut_22 : decode cX11_layOut 22 = .ok (.if_icmp .ge 138, 3) := by decide +kernel
theorem dX11_layOut_25 : decode cX11_layOut 25 = .ok (.iconst 0, 1) := by decide +kernel
theorem dX11_layOut_26 : decode cX11_layOut 26 = .ok (.istore 4, 2) := by decide +kernel
theorem dX11_layOut_28 : decode cX11_layOut 28 = .ok (.iload_n 3, 1) := by decide +kernel
theorem dX11_layOut_29 : decode cX11_layOut 29 = .ok (.iconst 1, 1) := by decide +kernel
theorem dX11_layOut_30 : decode cX11_layOut 30 = .ok (.iadd, 1) := by decide +kernel
theorem dX11_layOut_31 : decode cX11_layOut 31 = .ok (.istore 5, 2) := by decide +kernel
theorem dX11_layOut_33 : decode cX11_layOut 33 = .ok (.iload 5, 2) := by decide +kernel
theorem dX11_layOut_35 : decode cX11_layOut 35 = .ok (.aload_n 0, 1) := by decide +kernel
theorem dX11_layOut_36 : decode cX11_layOut 36 = .ok (.getfield 173, 3) := by decide +kernel
theorem dX11_layOut_39 : decode cX11_layOut 39 = .ok (.if_icmp .ge 32, 3) := by decide +kernel
theorem dX11_layOut_42 : decode cX11_layOut 42 = .ok (.aload_n 0, 1) := by decide +kernel
theorem dX11_layOut_43 : decode cX11_layOut 43 = .ok (.aload_n 0, 1) := by decide +kernel
theorem dX11_layOut_44 : decode cX11_layOut 44 = .ok (.getfield 35, 3) := by decide +kernel
theorem dX11_layOut_47 : decode cX11_layOut 47 = .ok (.iload 5, 2) := by decide +kernel
theorem dX11_layOut_49 : decode cX11_layOut 49 = .ok (.iaload, 1) := by decide +kernel
theorem dX11_layOut_50 : decode cX11_layOut 50 = .ok (.aload_n 0, 1) := by decide +kernel
theorem dX11_layOut_51 : decode cX11_layOut 51 = .ok (.getfield 35, 3) := by decide +kernel
theorem dX11_layOut_54 : decode cX11_layOut 54 = .ok (.iload_n 3, 1) := by decide +kernel
theorem dX11_layOut_55 : decode cX11_layOut 55 = .ok (.iaload, 1) := by decide +kernel
theorem dX11_layOut_56 : decode cX11_layOut 56 = .ok (.invokevirtual 187, 3) := by decide +kernel
theorem dX11_layOut_59 : decode cX11_layOut 59 = .ok (.ifCond .eq 12, 3) := by decide +kernel
theorem dX11_layOut_62 : decode cX11_layOut 62 = .ok (.iinc 4 1, 3) := by decide +kernel
theorem dX11_layOut_65 : decode cX11_layOut 65 = .ok (.iinc 5 1, 3) := by decide +kernel
theorem dX11_layOut_68 : decode cX11_layOut 68 = .ok (.goto (-35), 3) := by decide +kernel
theorem dX11_layOut_71 : decode cX11_layOut 71 = .ok (.iconst 0, 1) := by decide +kernel
theorem dX11_layOut_72 : decode cX11_layOut 72 = .ok (.istore 5, 2) := by decide +kernel
theorem dX11_layOut_74 : decode cX11_layOut 74 = .ok (.aload_n 0, 1) := by decide +kernel
theorem dX11_layOut_75 : decode cX11_layOut 75 = .ok (.getfield 22, 3) := by decide +kernel
theorem dX11_layOut_78 : decode cX11_layOut 78 = .ok (.aload_n 0, 1) := by decide +kernel
theorem dX11_layOut_79 : decode cX11_layOut 79 = .ok (.getfield 35, 3) := by decide +kernel
theorem dX11_layOut_82 : decode cX11_layOut 82 = .ok (.iload_n 3, 1) := by decide +kernel
theorem dX11_layOut_83 : decode cX11_layOut 83 = .ok (.iaload, 1) := by decide +kernel
theorem dX11_layOut_84 : decode cX11_layOut 84 = .ok (.iaload, 1) := by decide +kernel
theorem dX11_layOut_85 : decode cX11_layOut 85 = .ok (.istore 6, 2) := by decide +kernel
theorem dX11_layOut_87 : decode cX11_layOut 87 = .ok (.iload 6, 2) := by decide +kernel
theorem dX11_layOut_89 : decode cX11_layOut 89 = .ok (.iconst (-1), 1) := by decide +kernel
theorem dX11_layOut_90 : decode cX11_layOut 90 = .ok (.if_icmp .eq 18, 3) := by decide +kernel
theorem dX11_layOut_93 : decode cX11_layOut 93 = .ok (.iinc 5 1, 3) := by decide +kernel
theorem dX11_layOut_96 : decode cX11_layOut 96 = .ok (.aload_n 0, 1) := by decide +kernel
theorem dX11_layOut_97 : decode cX11_layOut 97 = .ok (.getfield 22, 3) := by decide +kernel
theorem dX11_layOut_100 : decode cX11_layOut 100 = .ok (.iload 6, 2) := by decide +kernel
theorem dX11_layOut_102 : decode cX11_layOut 102 = .ok (.iaload, 1) := by decide +kernel
theorem dX11_layOut_103 : decode cX11_layOut 103 = .ok (.istore 6, 2) := by decide +kernel
theorem dX11_layOut_105 : decode cX11_layOut 105 = .ok (.goto (-18), 3) := by decide +kernel
theorem dX11_layOut_108 : decode cX11_layOut 108 = .ok (.iload_n 3, 1) := by decide +kernel
theorem dX11_layOut_109 : decode cX11_layOut 109 = .ok (.iload 5, 2) := by decide +kernel
theorem dX11_layOut_111 : decode cX11_layOut 111 = .ok (.isub, 1) := by decide +kernel
theorem dX11_layOut_112 : decode cX11_layOut 112 = .ok (.iload 4, 2) := by decide +kernel
theorem dX11_layOut_114 : decode cX11_layOut 114 = .ok (.iadd, 1) := by decide +kernel
theorem dX11_layOut_115 : decode cX11_layOut 115 = .ok (.iconst 1, 1) := by decide +kernel
theorem dX11_layOut_116 : decode cX11_layOut 116 = .ok (.iadd, 1) := by decide +kernel
theorem dX11_layOut_117 : decode cX11_layOut 117 = .ok (.istore 6, 2) := by decide +kernel
theorem dX11_layOut_119 : decode cX11_layOut 119 = .ok (.aload_n 0, 1) := by decide +kernel
theorem dX11_layOut_120 : decode cX11_layOut 120 = .ok (.getfield 147, 3) := by decide +kernel
theorem dX11_layOut_123 : decode cX11_layOut 123 = .ok (.bipush 61, 2) := by decide +kernel
theorem dX11_layOut_125 : decode cX11_layOut 125 = .ok (.iload_n 1, 1) := by decide +kernel
theorem dX11_layOut_126 : decode cX11_layOut 126 = .ok (.imul, 1) := by decide +kernel
theorem dX11_layOut_127 : decode cX11_layOut 127 = .ok (.iload 6, 2) := by decide +kernel
theorem dX11_layOut_129 : decode cX11_layOut 129 = .ok (.iadd, 1) := by decide +kernel
theorem dX11_layOut_130 : decode cX11_layOut 130 = .ok (.aload_n 0, 1) := by decide +kernel
theorem dX11_layOut_131 : decode cX11_layOut 131 = .ok (.getfield 35, 3) := by decide +kernel
theorem dX11_layOut_134 : decode cX11_layOut 134 = .ok (.iload_n 3, 1) := by decide +kernel
theorem dX11_layOut_135 : decode cX11_layOut 135 = .ok (.iaload, 1) := by decide +kernel
theorem dX11_layOut_136 : decode cX11_layOut 136 = .ok (.iastore, 1) := by decide +kernel
theorem dX11_layOut_137 : decode cX11_layOut 137 = .ok (.aload_n 0, 1) := by decide +kernel
theorem dX11_layOut_138 : decode cX11_layOut 138 = .ok (.getfield 150, 3) := by decide +kernel
theorem dX11_layOut_141 : decode cX11_layOut 141 = .ok (.bipush 61, 2) := by decide +kernel
theorem dX11_layOut_143 : decode cX11_layOut 143 = .ok (.iload_n 1, 1) := by decide +kernel
theorem dX11_layOut_144 : decode cX11_layOut 144 = .ok (.imul, 1) := by decide +kernel
theorem dX11_layOut_145 : decode cX11_layOut 145 = .ok (.iload 6, 2) := by decide +kernel
theorem dX11_layOut_147 : decode cX11_layOut 147 = .ok (.iadd, 1) := by decide +kernel
theorem dX11_layOut_148 : decode cX11_layOut 148 = .ok (.iload 6, 2) := by decide +kernel
theorem dX11_layOut_150 : decode cX11_layOut 150 = .ok (.iload 4, 2) := by decide +kernel
theorem dX11_layOut_152 : decode cX11_layOut 152 = .ok (.isub, 1) := by decide +kernel
theorem dX11_layOut_153 : decode cX11_layOut 153 = .ok (.iastore, 1) := by decide +kernel
theorem dX11_layOut_154 : decode cX11_layOut 154 = .ok (.iinc 3 1, 3) := by decide +kernel
theorem dX11_layOut_157 : decode cX11_layOut 157 = .ok (.goto (-140), 3) := by decide +kernel
theorem dX11_layOut_160 : decode cX11_layOut 160 = .ok (.return_, 1) := by decide +kernel
abbrev cX11_isAlike : ByteArray := prog_13_method_122_code
def yX11_isAlike : MethodName := ⟨RX11, "isAlike", "(IIII)Z"⟩
theorem dX11_isAlike_0 : decode cX11_isAlike 0 = .ok (.bipush 60, 2) := by decide +kernel
theorem dX11_isAlike_2 : decode cX11_isAlike 2 = .ok (.iload_n 1, 1) := by decide +kernel
theorem dX11_isAlike_3 : decode cX11_isAlike 3 = .ok (.imul, 1) := by decide +kernel
theorem dX11_isAlike_4 : decode cX11_isAlike 4 = .ok (.iload_n 2, 1) := by decide +kernel
theorem dX11_isAlike_5 : decode cX11_isAlike 5 = .ok (.iadd, 1) := by decide +kernel
theorem dX11_isAlike_6 : decode cX11_isAlike 6 = .ok (.istore 5, 2) := by decide +kernel
theorem dX11_isAlike_8 : decode cX11_isAlike 8 = .ok (.bipush 60, 2) := by decide +kernel
theorem dX11_isAlike_10 : decode cX11_isAlike 10 = .ok (.iload 4, 2) := by decide +kernel
theorem dX11_isAlike_12 : decode cX11_isAlike 12 = .ok (.imul, 1) := by decide +kernel
theorem dX11_isAlike_13 : decode cX11_isAlike 13 = .ok (.iload_n 3, 1) := by decide +kernel
theorem dX11_isAlike_14 : decode cX11_isAlike 14 = .ok (.iadd, 1) := by decide +kernel
theorem dX11_isAlike_15 : decode cX11_isAlike 15 = .ok (.istore 6, 2) := by decide +kernel
theorem dX11_isAlike_17 : decode cX11_isAlike 17 = .ok (.aload_n 0, 1) := by decide +kernel
theorem dX11_isAlike_18 : decode cX11_isAlike 18 = .ok (.getfield 7, 3) := by decide +kernel
theorem dX11_isAlike_21 : decode cX11_isAlike 21 = .ok (.iload_n 2, 1) := by decide +kernel
theorem dX11_isAlike_22 : decode cX11_isAlike 22 = .ok (.iaload, 1) := by decide +kernel
theorem dX11_isAlike_23 : decode cX11_isAlike 23 = .ok (.aload_n 0, 1) := by decide +kernel
theorem dX11_isAlike_24 : decode cX11_isAlike 24 = .ok (.getfield 7, 3) := by decide +kernel
theorem dX11_isAlike_27 : decode cX11_isAlike 27 = .ok (.iload_n 3, 1) := by decide +kernel
theorem dX11_isAlike_28 : decode cX11_isAlike 28 = .ok (.iaload, 1) := by decide +kernel
theorem dX11_isAlike_29 : decode cX11_isAlike 29 = .ok (.if_icmp .ne 58, 3) := by decide +kernel
theorem dX11_isAlike_32 : decode cX11_isAlike 32 = .ok (.aload_n 0, 1) := by decide +kernel
theorem dX11_isAlike_33 : decode cX11_isAlike 33 = .ok (.getfield 129, 3) := by decide +kernel
theorem dX11_isAlike_36 : decode cX11_isAlike 36 = .ok (.iload 5, 2) := by decide +kernel
theorem dX11_isAlike_38 : decode cX11_isAlike 38 = .ok (.iaload, 1) := by decide +kernel
theorem dX11_isAlike_39 : decode cX11_isAlike 39 = .ok (.aload_n 0, 1) := by decide +kernel
theorem dX11_isAlike_40 : decode cX11_isAlike 40 = .ok (.getfield 129, 3) := by decide +kernel
theorem dX11_isAlike_43 : decode cX11_isAlike 43 = .ok (.iload 6, 2) := by decide +kernel
theorem dX11_isAlike_45 : decode cX11_isAlike 45 = .ok (.iaload, 1) := by decide +kernel
theorem dX11_isAlike_46 : decode cX11_isAlike 46 = .ok (.if_icmp .ne 41, 3) := by decide +kernel
theorem dX11_isAlike_49 : decode cX11_isAlike 49 = .ok (.aload_n 0, 1) := by decide +kernel
theorem dX11_isAlike_50 : decode cX11_isAlike 50 = .ok (.getfield 132, 3) := by decide +kernel
theorem dX11_isAlike_53 : decode cX11_isAlike 53 = .ok (.iload 5, 2) := by decide +kernel
theorem dX11_isAlike_55 : decode cX11_isAlike 55 = .ok (.iaload, 1) := by decide +kernel
theorem dX11_isAlike_56 : decode cX11_isAlike 56 = .ok (.aload_n 0, 1) := by decide +kernel
theorem dX11_isAlike_57 : decode cX11_isAlike 57 = .ok (.getfield 132, 3) := by decide +kernel
theorem dX11_isAlike_60 : decode cX11_isAlike 60 = .ok (.iload 6, 2) := by decide +kernel
theorem dX11_isAlike_62 : decode cX11_isAlike 62 = .ok (.iaload, 1) := by decide +kernel
theorem dX11_isAlike_63 : decode cX11_isAlike 63 = .ok (.if_icmp .ne 24, 3) := by decide +kernel
theorem dX11_isAlike_66 : decode cX11_isAlike 66 = .ok (.aload_n 0, 1) := by decide +kernel
theorem dX11_isAlike_67 : decode cX11_isAlike 67 = .ok (.getfield 135, 3) := by decide +kernel
theorem dX11_isAlike_70 : decode cX11_isAlike 70 = .ok (.iload 5, 2) := by decide +kernel
theorem dX11_isAlike_72 : decode cX11_isAlike 72 = .ok (.iaload, 1) := by decide +kernel
theorem dX11_isAlike_73 : decode cX11_isAlike 73 = .ok (.aload_n 0, 1) := by decide +kernel
theorem dX11_isAlike_74 : decode cX11_isAlike 74 = .ok (.getfield 135, 3) := by decide +kernel
theorem dX11_isAlike_77 : decode cX11_isAlike 77 = .ok (.iload 6, 2) := by decide +kernel
theorem dX11_isAlike_79 : decode cX11_isAlike 79 = .ok (.iaload, 1) := by decide +kernel
theorem dX11_isAlike_80 : decode cX11_isAlike 80 = .ok (.if_icmp .ne 7, 3) := by decide +kernel
theorem dX11_isAlike_83 : decode cX11_isAlike 83 = .ok (.iconst 1, 1) := by decide +kernel
theorem dX11_isAlike_84 : decode cX11_isAlike 84 = .ok (.goto 4, 3) := by decide +kernel
theorem dX11_isAlike_87 : decode cX11_isAlike 87 = .ok (.iconst 0, 1) := by decide +kernel
theorem dX11_isAlike_88 : decode cX11_isAlike 88 = .ok (.ireturn, 1) := by decide +kernel
abbrev cX11_isKey : ByteArray := prog_13_method_123_code
def yX11_isKey : MethodName := ⟨RX11, "isKey", "(II)Z"⟩
theorem dX11_isKey_0 : decode cX11_isKey 0 = .ok (.iconst 1, 1) := by decide +kernel
theorem dX11_isKey_1 : decode cX11_isKey 1 = .ok (.istore_n 3, 1) := by decide +kernel
theorem dX11_isKey_2 : decode cX11_isKey 2 = .ok (.iload_n 2, 1) := by decide +kernel
theorem dX11_isKey_3 : decode cX11_isKey 3 = .ok (.iconst 1, 1) := by decide +kernel
theorem dX11_isKey_4 : decode cX11_isKey 4 = .ok (.iadd, 1) := by decide +kernel
theorem dX11_isKey_5 : decode cX11_isKey 5 = .ok (.istore 4, 2) := by decide +kernel
theorem dX11_isKey_7 : decode cX11_isKey 7 = .ok (.iload 4, 2) := by decide +kernel
theorem dX11_isKey_9 : decode cX11_isKey 9 = .ok (.aload_n 0, 1) := by decide +kernel
theorem dX11_isKey_10 : decode cX11_isKey 10 = .ok (.getfield 144, 3) := by decide +kernel
theorem dX11_isKey_13 : decode cX11_isKey 13 = .ok (.iload_n 1, 1) := by decide +kernel
theorem dX11_isKey_14 : decode cX11_isKey 14 = .ok (.iaload, 1) := by decide +kernel
theorem dX11_isKey_15 : decode cX11_isKey 15 = .ok (.if_icmp .gt 45, 3) := by decide +kernel
theorem dX11_isKey_18 : decode cX11_isKey 18 = .ok (.iload_n 3, 1) := by decide +kernel
theorem dX11_isKey_19 : decode cX11_isKey 19 = .ok (.ifCond .eq 33, 3) := by decide +kernel
theorem dX11_isKey_22 : decode cX11_isKey 22 = .ok (.aload_n 0, 1) := by decide +kernel
theorem dX11_isKey_23 : decode cX11_isKey 23 = .ok (.getfield 150, 3) := by decide +kernel
theorem dX11_isKey_26 : decode cX11_isKey 26 = .ok (.bipush 61, 2) := by decide +kernel
theorem dX11_isKey_28 : decode cX11_isKey 28 = .ok (.iload_n 1, 1) := by decide +kernel
theorem dX11_isKey_29 : decode cX11_isKey 29 = .ok (.imul, 1) := by decide +kernel
theorem dX11_isKey_30 : decode cX11_isKey 30 = .ok (.iload 4, 2) := by decide +kernel
theorem dX11_isKey_32 : decode cX11_isKey 32 = .ok (.iadd, 1) := by decide +kernel
theorem dX11_isKey_33 : decode cX11_isKey 33 = .ok (.iaload, 1) := by decide +kernel
theorem dX11_isKey_34 : decode cX11_isKey 34 = .ok (.aload_n 0, 1) := by decide +kernel
theorem dX11_isKey_35 : decode cX11_isKey 35 = .ok (.getfield 150, 3) := by decide +kernel
theorem dX11_isKey_38 : decode cX11_isKey 38 = .ok (.bipush 61, 2) := by decide +kernel
theorem dX11_isKey_40 : decode cX11_isKey 40 = .ok (.iload_n 1, 1) := by decide +kernel
theorem dX11_isKey_41 : decode cX11_isKey 41 = .ok (.imul, 1) := by decide +kernel
theorem dX11_isKey_42 : decode cX11_isKey 42 = .ok (.iload_n 2, 1) := by decide +kernel
theorem dX11_isKey_43 : decode cX11_isKey 43 = .ok (.iadd, 1) := by decide +kernel
theorem dX11_isKey_44 : decode cX11_isKey 44 = .ok (.iaload, 1) := by decide +kernel
theorem dX11_isKey_45 : decode cX11_isKey 45 = .ok (.if_icmp .eq 7, 3) := by decide +kernel
theorem dX11_isKey_48 : decode cX11_isKey 48 = .ok (.iconst 1, 1) := by decide +kernel
theorem dX11_isKey_49 : decode cX11_isKey 49 = .ok (.goto 4, 3) := by decide +kernel
theorem dX11_isKey_52 : decode cX11_isKey 52 = .ok (.iconst 0, 1) := by decide +kernel
theorem dX11_isKey_53 : decode cX11_isKey 53 = .ok (.istore_n 3, 1) := by decide +kernel
theorem dX11_isKey_54 : decode cX11_isKey 54 = .ok (.iinc 4 1, 3) := by decide +kernel
theorem dX11_isKey_57 : decode cX11_isKey 57 = .ok (.goto (-50), 3) := by decide +kernel
theorem dX11_isKey_60 : decode cX11_isKey 60 = .ok (.iload_n 3, 1) := by decide +kernel
theorem dX11_isKey_61 : decode cX11_isKey 61 = .ok (.ireturn, 1) := by decide +kernel
abbrev cX11_least : ByteArray := prog_13_method_124_code
def yX11_least : MethodName := ⟨RX11, "least", "(III)I"⟩
theorem dX11_least_0 : decode cX11_least 0 = .ok (.iload_n 0, 1) := by decide +kernel
theorem dX11_least_1 : decode cX11_least 1 = .ok (.iload_n 1, 1) := by decide +kernel
theorem dX11_least_2 : decode cX11_least 2 = .ok (.if_icmp .ge 7, 3) := by decide +kernel
theorem dX11_least_5 : decode cX11_least 5 = .ok (.iload_n 0, 1) := by decide +kernel
theorem dX11_least_6 : decode cX11_least 6 = .ok (.goto 4, 3) := by decide +kernel
theorem dX11_least_9 : decode cX11_least 9 = .ok (.iload_n 1, 1) := by decide +kernel
theorem dX11_least_10 : decode cX11_least 10 = .ok (.istore_n 3, 1) := by decide +kernel
theorem dX11_least_11 : decode cX11_least 11 = .ok (.iload_n 3, 1) := by decide +kernel
theorem dX11_least_12 : decode cX11_least 12 = .ok (.iload_n 2, 1) := by decide +kernel
theorem dX11_least_13 : decode cX11_least 13 = .ok (.if_icmp .ge 7, 3) := by decide +kernel
theorem dX11_least_16 : decode cX11_least 16 = .ok (.iload_n 3, 1) := by decide +kernel
theorem dX11_least_17 : decode cX11_least 17 = .ok (.goto 4, 3) := by decide +kernel
theorem dX11_least_20 : decode cX11_least 20 = .ok (.iload_n 2, 1) := by decide +kernel
theorem dX11_least_21 : decode cX11_least 21 = .ok (.ireturn, 1) := by decide +kernel
abbrev cX11_compareAt : ByteArray := prog_13_method_125_code
def yX11_compareAt : MethodName := ⟨RX11, "compareAt", "(IIII)V"⟩
theorem dX11_compareAt_0 : decode cX11_compareAt 0 = .ok (.aload_n 0, 1) := by decide +kernel
theorem dX11_compareAt_1 : decode cX11_compareAt 1 = .ok (.getfield 150, 3) := by decide +kernel
theorem dX11_compareAt_4 : decode cX11_compareAt 4 = .ok (.iload_n 1, 1) := by decide +kernel
theorem dX11_compareAt_5 : decode cX11_compareAt 5 = .ok (.iaload, 1) := by decide +kernel
theorem dX11_compareAt_6 : decode cX11_compareAt 6 = .ok (.istore 5, 2) := by decide +kernel
theorem dX11_compareAt_8 : decode cX11_compareAt 8 = .ok (.aload_n 0, 1) := by decide +kernel
theorem dX11_compareAt_9 : decode cX11_compareAt 9 = .ok (.getfield 150, 3) := by decide +kernel
theorem dX11_compareAt_12 : decode cX11_compareAt 12 = .ok (.bipush 61, 2) := by decide +kernel
theorem dX11_compareAt_14 : decode cX11_compareAt 14 = .ok (.iload_n 2, 1) := by decide +kernel
theorem dX11_compareAt_15 : decode cX11_compareAt 15 = .ok (.iadd, 1) := by decide +kernel
theorem dX11_compareAt_16 : decode cX11_compareAt 16 = .ok (.iaload, 1) := by decide +kernel
theorem dX11_compareAt_17 : decode cX11_compareAt 17 = .ok (.istore 6, 2) := by decide +kernel
theorem dX11_compareAt_19 : decode cX11_compareAt 19 = .ok (.aload_n 0, 1) := by decide +kernel
theorem dX11_compareAt_20 : decode cX11_compareAt 20 = .ok (.getfield 156, 3) := by decide +kernel
theorem dX11_compareAt_23 : decode cX11_compareAt 23 = .ok (.bipush 61, 2) := by decide +kernel
theorem dX11_compareAt_25 : decode cX11_compareAt 25 = .ok (.iload 5, 2) := by decide +kernel
theorem dX11_compareAt_27 : decode cX11_compareAt 27 = .ok (.iconst 1, 1) := by decide +kernel
theorem dX11_compareAt_28 : decode cX11_compareAt 28 = .ok (.isub, 1) := by decide +kernel
theorem dX11_compareAt_29 : decode cX11_compareAt 29 = .ok (.imul, 1) := by decide +kernel
theorem dX11_compareAt_30 : decode cX11_compareAt 30 = .ok (.iload 6, 2) := by decide +kernel
theorem dX11_compareAt_32 : decode cX11_compareAt 32 = .ok (.iadd, 1) := by decide +kernel
theorem dX11_compareAt_33 : decode cX11_compareAt 33 = .ok (.iconst 1, 1) := by decide +kernel
theorem dX11_compareAt_34 : decode cX11_compareAt 34 = .ok (.isub, 1) := by decide +kernel
theorem dX11_compareAt_35 : decode cX11_compareAt 35 = .ok (.iconst 0, 1) := by decide +kernel
theorem dX11_compareAt_36 : decode cX11_compareAt 36 = .ok (.iastore, 1) := by decide +kernel
theorem dX11_compareAt_37 : decode cX11_compareAt 37 = .ok (.iload 5, 2) := by decide +kernel
theorem dX11_compareAt_39 : decode cX11_compareAt 39 = .ok (.istore 7, 2) := by decide +kernel
theorem dX11_compareAt_41 : decode cX11_compareAt 41 = .ok (.iload 7, 2) := by decide +kernel
theorem dX11_compareAt_43 : decode cX11_compareAt 43 = .ok (.iload_n 1, 1) := by decide +kernel
theorem dX11_compareAt_44 : decode cX11_compareAt 44 = .ok (.if_icmp .gt 43, 3) := by decide +kernel
theorem dX11_compareAt_47 : decode cX11_compareAt 47 = .ok (.aload_n 0, 1) := by decide +kernel
theorem dX11_compareAt_48 : decode cX11_compareAt 48 = .ok (.getfield 156, 3) := by decide +kernel
theorem dX11_compareAt_51 : decode cX11_compareAt 51 = .ok (.bipush 61, 2) := by decide +kernel
theorem dX11_compareAt_53 : decode cX11_compareAt 53 = .ok (.iload 7, 2) := by decide +kernel
theorem dX11_compareAt_55 : decode cX11_compareAt 55 = .ok (.imul, 1) := by decide +kernel
theorem dX11_compareAt_56 : decode cX11_compareAt 56 = .ok (.iload 6, 2) := by decide +kernel
theorem dX11_compareAt_58 : decode cX11_compareAt 58 = .ok (.iadd, 1) := by decide +kernel
theorem dX11_compareAt_59 : decode cX11_compareAt 59 = .ok (.iconst 1, 1) := by decide +kernel
theorem dX11_compareAt_60 : decode cX11_compareAt 60 = .ok (.isub, 1) := by decide +kernel
theorem dX11_compareAt_61 : decode cX11_compareAt 61 = .ok (.aload_n 0, 1) := by decide +kernel
theorem dX11_compareAt_62 : decode cX11_compareAt 62 = .ok (.getfield 156, 3) := by decide +kernel
theorem dX11_compareAt_65 : decode cX11_compareAt 65 = .ok (.bipush 61, 2) := by decide +kernel
theorem dX11_compareAt_67 : decode cX11_compareAt 67 = .ok (.iload 7, 2) := by decide +kernel
theorem dX11_compareAt_69 : decode cX11_compareAt 69 = .ok (.iconst 1, 1) := by decide +kernel
theorem dX11_compareAt_70 : decode cX11_compareAt 70 = .ok (.isub, 1) := by decide +kernel
theorem dX11_compareAt_71 : decode cX11_compareAt 71 = .ok (.imul, 1) := by decide +kernel
theorem dX11_compareAt_72 : decode cX11_compareAt 72 = .ok (.iload 6, 2) := by decide +kernel
theorem dX11_compareAt_74 : decode cX11_compareAt 74 = .ok (.iadd, 1) := by decide +kernel
theorem dX11_compareAt_75 : decode cX11_compareAt 75 = .ok (.iconst 1, 1) := by decide +kernel
theorem dX11_compareAt_76 : decode cX11_compareAt 76 = .ok (.isub, 1) := by decide +kernel
theorem dX11_compareAt_77 : decode cX11_compareAt 77 = .ok (.iaload, 1) := by decide +kernel
theorem dX11_compareAt_78 : decode cX11_compareAt 78 = .ok (.iconst 1, 1) := by decide +kernel
theorem dX11_compareAt_79 : decode cX11_compareAt 79 = .ok (.iadd, 1) := by decide +kernel
theorem dX11_compareAt_80 : decode cX11_compareAt 80 = .ok (.iastore, 1) := by decide +kernel
theorem dX11_compareAt_81 : decode cX11_compareAt 81 = .ok (.iinc 7 1, 3) := by decide +kernel
theorem dX11_compareAt_84 : decode cX11_compareAt 84 = .ok (.goto (-43), 3) := by decide +kernel
theorem dX11_compareAt_87 : decode cX11_compareAt 87 = .ok (.iload 6, 2) := by decide +kernel
theorem dX11_compareAt_89 : decode cX11_compareAt 89 = .ok (.istore 7, 2) := by decide +kernel
theorem dX11_compareAt_91 : decode cX11_compareAt 91 = .ok (.iload 7, 2) := by decide +kernel
theorem dX11_compareAt_93 : decode cX11_compareAt 93 = .ok (.iload_n 2, 1) := by decide +kernel
theorem dX11_compareAt_94 : decode cX11_compareAt 94 = .ok (.if_icmp .gt 43, 3) := by decide +kernel
theorem dX11_compareAt_97 : decode cX11_compareAt 97 = .ok (.aload_n 0, 1) := by decide +kernel
theorem dX11_compareAt_98 : decode cX11_compareAt 98 = .ok (.getfield 156, 3) := by decide +kernel
theorem dX11_compareAt_101 : decode cX11_compareAt 101 = .ok (.bipush 61, 2) := by decide +kernel
theorem dX11_compareAt_103 : decode cX11_compareAt 103 = .ok (.iload 5, 2) := by decide +kernel
theorem dX11_compareAt_105 : decode cX11_compareAt 105 = .ok (.iconst 1, 1) := by decide +kernel
theorem dX11_compareAt_106 : decode cX11_compareAt 106 = .ok (.isub, 1) := by decide +kernel
theorem dX11_compareAt_107 : decode cX11_compareAt 107 = .ok (.imul, 1) := by decide +kernel
theorem dX11_compareAt_108 : decode cX11_compareAt 108 = .ok (.iload 7, 2) := by decide +kernel
theorem dX11_compareAt_110 : decode cX11_compareAt 110 = .ok (.iadd, 1) := by decide +kernel
theorem dX11_compareAt_111 : decode cX11_compareAt 111 = .ok (.aload_n 0, 1) := by decide +kernel
theorem dX11_compareAt_112 : decode cX11_compareAt 112 = .ok (.getfield 156, 3) := by decide +kernel
theorem dX11_compareAt_115 : decode cX11_compareAt 115 = .ok (.bipush 61, 2) := by decide +kernel
theorem dX11_compareAt_117 : decode cX11_compareAt 117 = .ok (.iload 5, 2) := by decide +kernel
theorem dX11_compareAt_119 : decode cX11_compareAt 119 = .ok (.iconst 1, 1) := by decide +kernel
theorem dX11_compareAt_120 : decode cX11_compareAt 120 = .ok (.isub, 1) := by decide +kernel
theorem dX11_compareAt_121 : decode cX11_compareAt 121 = .ok (.imul, 1) := by decide +kernel
theorem dX11_compareAt_122 : decode cX11_compareAt 122 = .ok (.iload 7, 2) := by decide +kernel
theorem dX11_compareAt_124 : decode cX11_compareAt 124 = .ok (.iadd, 1) := by decide +kernel
theorem dX11_compareAt_125 : decode cX11_compareAt 125 = .ok (.iconst 1, 1) := by decide +kernel
theorem dX11_compareAt_126 : decode cX11_compareAt 126 = .ok (.isub, 1) := by decide +kernel
theorem dX11_compareAt_127 : decode cX11_compareAt 127 = .ok (.iaload, 1) := by decide +kernel
theorem dX11_compareAt_128 : decode cX11_compareAt 128 = .ok (.iconst 1, 1) := by decide +kernel
theorem dX11_compareAt_129 : decode cX11_compareAt 129 = .ok (.iadd, 1) := by decide +kernel
theorem dX11_compareAt_130 : decode cX11_compareAt 130 = .ok (.iastore, 1) := by decide +kernel
theorem dX11_compareAt_131 : decode cX11_compareAt 131 = .ok (.iinc 7 1, 3) := by decide +kernel
theorem dX11_compareAt_134 : decode cX11_compareAt 134 = .ok (.goto (-43), 3) := by decide +kernel
theorem dX11_compareAt_137 : decode cX11_compareAt 137 = .ok (.iload 5, 2) := by decide +kernel
theorem dX11_compareAt_139 : decode cX11_compareAt 139 = .ok (.istore 7, 2) := by decide +kernel
theorem dX11_compareAt_141 : decode cX11_compareAt 141 = .ok (.iload 7, 2) := by decide +kernel
theorem dX11_compareAt_143 : decode cX11_compareAt 143 = .ok (.iload_n 1, 1) := by decide +kernel
theorem dX11_compareAt_144 : decode cX11_compareAt 144 = .ok (.if_icmp .gt 270, 3) := by decide +kernel
theorem dX11_compareAt_147 : decode cX11_compareAt 147 = .ok (.iload 6, 2) := by decide +kernel
theorem dX11_compareAt_149 : decode cX11_compareAt 149 = .ok (.istore 8, 2) := by decide +kernel
theorem dX11_compareAt_151 : decode cX11_compareAt 151 = .ok (.iload 8, 2) := by decide +kernel
theorem dX11_compareAt_153 : decode cX11_compareAt 153 = .ok (.iload_n 2, 1) := by decide +kernel
theorem dX11_compareAt_154 : decode cX11_compareAt 154 = .ok (.if_icmp .gt 254, 3) := by decide +kernel
theorem dX11_compareAt_157 : decode cX11_compareAt 157 = .ok (.aload_n 0, 1) := by decide +kernel
theorem dX11_compareAt_158 : decode cX11_compareAt 158 = .ok (.getfield 156, 3) := by decide +kernel
theorem dX11_compareAt_161 : decode cX11_compareAt 161 = .ok (.bipush 61, 2) := by decide +kernel
theorem dX11_compareAt_163 : decode cX11_compareAt 163 = .ok (.iload 7, 2) := by decide +kernel
theorem dX11_compareAt_165 : decode cX11_compareAt 165 = .ok (.iconst 1, 1) := by decide +kernel
theorem dX11_compareAt_166 : decode cX11_compareAt 166 = .ok (.isub, 1) := by decide +kernel
theorem dX11_compareAt_167 : decode cX11_compareAt 167 = .ok (.imul, 1) := by decide +kernel
theorem dX11_compareAt_168 : decode cX11_compareAt 168 = .ok (.iload 8, 2) := by decide +kernel
theorem dX11_compareAt_170 : decode cX11_compareAt 170 = .ok (.iadd, 1) := by decide +kernel
theorem dX11_compareAt_171 : decode cX11_compareAt 171 = .ok (.iaload, 1) := by decide +kernel
theorem dX11_compareAt_172 : decode cX11_compareAt 172 = .ok (.iconst 1, 1) := by decide +kernel
theorem dX11_compareAt_173 : decode cX11_compareAt 173 = .ok (.iadd, 1) := by decide +kernel
theorem dX11_compareAt_174 : decode cX11_compareAt 174 = .ok (.istore 9, 2) := by decide +kernel
theorem dX11_compareAt_176 : decode cX11_compareAt 176 = .ok (.aload_n 0, 1) := by decide +kernel
theorem dX11_compareAt_177 : decode cX11_compareAt 177 = .ok (.getfield 156, 3) := by decide +kernel
theorem dX11_compareAt_180 : decode cX11_compareAt 180 = .ok (.bipush 61, 2) := by decide +kernel
theorem dX11_compareAt_182 : decode cX11_compareAt 182 = .ok (.iload 7, 2) := by decide +kernel
theorem dX11_compareAt_184 : decode cX11_compareAt 184 = .ok (.imul, 1) := by decide +kernel
theorem dX11_compareAt_185 : decode cX11_compareAt 185 = .ok (.iload 8, 2) := by decide +kernel
theorem dX11_compareAt_187 : decode cX11_compareAt 187 = .ok (.iadd, 1) := by decide +kernel
theorem dX11_compareAt_188 : decode cX11_compareAt 188 = .ok (.iconst 1, 1) := by decide +kernel
theorem dX11_compareAt_189 : decode cX11_compareAt 189 = .ok (.isub, 1) := by decide +kernel
theorem dX11_compareAt_190 : decode cX11_compareAt 190 = .ok (.iaload, 1) := by decide +kernel
theorem dX11_compareAt_191 : decode cX11_compareAt 191 = .ok (.iconst 1, 1) := by decide +kernel
theorem dX11_compareAt_192 : decode cX11_compareAt 192 = .ok (.iadd, 1) := by decide +kernel
theorem dX11_compareAt_193 : decode cX11_compareAt 193 = .ok (.istore 10, 2) := by decide +kernel
theorem dX11_compareAt_195 : decode cX11_compareAt 195 = .ok (.aload_n 0, 1) := by decide +kernel
theorem dX11_compareAt_196 : decode cX11_compareAt 196 = .ok (.getfield 150, 3) := by decide +kernel
theorem dX11_compareAt_199 : decode cX11_compareAt 199 = .ok (.iload 7, 2) := by decide +kernel
theorem dX11_compareAt_201 : decode cX11_compareAt 201 = .ok (.iaload, 1) := by decide +kernel
theorem dX11_compareAt_202 : decode cX11_compareAt 202 = .ok (.iload 5, 2) := by decide +kernel
theorem dX11_compareAt_204 : decode cX11_compareAt 204 = .ok (.if_icmp .ne 22, 3) := by decide +kernel
theorem dX11_compareAt_207 : decode cX11_compareAt 207 = .ok (.aload_n 0, 1) := by decide +kernel
theorem dX11_compareAt_208 : decode cX11_compareAt 208 = .ok (.getfield 150, 3) := by decide +kernel
theorem dX11_compareAt_211 : decode cX11_compareAt 211 = .ok (.bipush 61, 2) := by decide +kernel
theorem dX11_compareAt_213 : decode cX11_compareAt 213 = .ok (.iload 8, 2) := by decide +kernel
theorem dX11_compareAt_215 : decode cX11_compareAt 215 = .ok (.iadd, 1) := by decide +kernel
theorem dX11_compareAt_216 : decode cX11_compareAt 216 = .ok (.iaload, 1) := by decide +kernel
theorem dX11_compareAt_217 : decode cX11_compareAt 217 = .ok (.iload 6, 2) := by decide +kernel
theorem dX11_compareAt_219 : decode cX11_compareAt 219 = .ok (.if_icmp .ne 7, 3) := by decide +kernel
theorem dX11_compareAt_222 : decode cX11_compareAt 222 = .ok (.iconst 1, 1) := by decide +kernel
theorem dX11_compareAt_223 : decode cX11_compareAt 223 = .ok (.goto 4, 3) := by decide +kernel
theorem dX11_compareAt_226 : decode cX11_compareAt 226 = .ok (.iconst 0, 1) := by decide +kernel
theorem dX11_compareAt_227 : decode cX11_compareAt 227 = .ok (.istore 11, 2) := by decide +kernel
theorem dX11_compareAt_229 : decode cX11_compareAt 229 = .ok (.iload 11, 2) := by decide +kernel
theorem dX11_compareAt_231 : decode cX11_compareAt 231 = .ok (.ifCond .eq 56, 3) := by decide +kernel
theorem dX11_compareAt_234 : decode cX11_compareAt 234 = .ok (.aload_n 0, 1) := by decide +kernel
theorem dX11_compareAt_235 : decode cX11_compareAt 235 = .ok (.getfield 156, 3) := by decide +kernel
theorem dX11_compareAt_238 : decode cX11_compareAt 238 = .ok (.bipush 61, 2) := by decide +kernel
theorem dX11_compareAt_240 : decode cX11_compareAt 240 = .ok (.iload 7, 2) := by decide +kernel
theorem dX11_compareAt_242 : decode cX11_compareAt 242 = .ok (.iconst 1, 1) := by decide +kernel
theorem dX11_compareAt_243 : decode cX11_compareAt 243 = .ok (.isub, 1) := by decide +kernel
theorem dX11_compareAt_244 : decode cX11_compareAt 244 = .ok (.imul, 1) := by decide +kernel
theorem dX11_compareAt_245 : decode cX11_compareAt 245 = .ok (.iload 8, 2) := by decide +kernel
theorem dX11_compareAt_247 : decode cX11_compareAt 247 = .ok (.iadd, 1) := by decide +kernel
theorem dX11_compareAt_248 : decode cX11_compareAt 248 = .ok (.iconst 1, 1) := by decide +kernel
theorem dX11_compareAt_249 : decode cX11_compareAt 249 = .ok (.isub, 1) := by decide +kernel
theorem dX11_compareAt_250 : decode cX11_compareAt 250 = .ok (.iaload, 1) := by decide +kernel
theorem dX11_compareAt_251 : decode cX11_compareAt 251 = .ok (.aload_n 0, 1) := by decide +kernel
theorem dX11_compareAt_252 : decode cX11_compareAt 252 = .ok (.iload_n 3, 1) := by decide +kernel
theorem dX11_compareAt_253 : decode cX11_compareAt 253 = .ok (.aload_n 0, 1) := by decide +kernel
theorem dX11_compareAt_254 : decode cX11_compareAt 254 = .ok (.getfield 147, 3) := by decide +kernel
theorem dX11_compareAt_257 : decode cX11_compareAt 257 = .ok (.iload 7, 2) := by decide +kernel
theorem dX11_compareAt_259 : decode cX11_compareAt 259 = .ok (.iaload, 1) := by decide +kernel
theorem dX11_compareAt_260 : decode cX11_compareAt 260 = .ok (.aload_n 0, 1) := by decide +kernel
theorem dX11_compareAt_261 : decode cX11_compareAt 261 = .ok (.getfield 147, 3) := by decide +kernel
theorem dX11_compareAt_264 : decode cX11_compareAt 264 = .ok (.bipush 61, 2) := by decide +kernel
theorem dX11_compareAt_266 : decode cX11_compareAt 266 = .ok (.iload 8, 2) := by decide +kernel
theorem dX11_compareAt_268 : decode cX11_compareAt 268 = .ok (.iadd, 1) := by decide +kernel
theorem dX11_compareAt_269 : decode cX11_compareAt 269 = .ok (.iaload, 1) := by decide +kernel
theorem dX11_compareAt_270 : decode cX11_compareAt 270 = .ok (.iload 4, 2) := by decide +kernel
theorem dX11_compareAt_272 : decode cX11_compareAt 272 = .ok (.invokevirtual 426, 3) := by decide +kernel
theorem dX11_compareAt_275 : decode cX11_compareAt 275 = .ok (.ifCond .eq 7, 3) := by decide +kernel
theorem dX11_compareAt_278 : decode cX11_compareAt 278 = .ok (.iconst 0, 1) := by decide +kernel
theorem dX11_compareAt_279 : decode cX11_compareAt 279 = .ok (.goto 4, 3) := by decide +kernel
theorem dX11_compareAt_282 : decode cX11_compareAt 282 = .ok (.iconst 1, 1) := by decide +kernel
theorem dX11_compareAt_283 : decode cX11_compareAt 283 = .ok (.iadd, 1) := by decide +kernel
theorem dX11_compareAt_284 : decode cX11_compareAt 284 = .ok (.goto 47, 3) := by decide +kernel
theorem dX11_compareAt_287 : decode cX11_compareAt 287 = .ok (.aload_n 0, 1) := by decide +kernel
theorem dX11_compareAt_288 : decode cX11_compareAt 288 = .ok (.getfield 156, 3) := by decide +kernel
theorem dX11_compareAt_291 : decode cX11_compareAt 291 = .ok (.bipush 61, 2) := by decide +kernel
theorem dX11_compareAt_293 : decode cX11_compareAt 293 = .ok (.aload_n 0, 1) := by decide +kernel
theorem dX11_compareAt_294 : decode cX11_compareAt 294 = .ok (.getfield 150, 3) := by decide +kernel
theorem dX11_compareAt_297 : decode cX11_compareAt 297 = .ok (.iload 7, 2) := by decide +kernel
theorem dX11_compareAt_299 : decode cX11_compareAt 299 = .ok (.iaload, 1) := by decide +kernel
theorem dX11_compareAt_300 : decode cX11_compareAt 300 = .ok (.iconst 1, 1) := by decide +kernel
theorem dX11_compareAt_301 : decode cX11_compareAt 301 = .ok (.isub, 1) := by decide +kernel
theorem dX11_compareAt_302 : decode cX11_compareAt 302 = .ok (.imul, 1) := by decide +kernel
theorem dX11_compareAt_303 : decode cX11_compareAt 303 = .ok (.aload_n 0, 1) := by decide +kernel
theorem dX11_compareAt_304 : decode cX11_compareAt 304 = .ok (.getfield 150, 3) := by decide +kernel
theorem dX11_compareAt_307 : decode cX11_compareAt 307 = .ok (.bipush 61, 2) := by decide +kernel
theorem dX11_compareAt_309 : decode cX11_compareAt 309 = .ok (.iload 8, 2) := by decide +kernel
theorem dX11_compareAt_311 : decode cX11_compareAt 311 = .ok (.iadd, 1) := by decide +kernel
theorem dX11_compareAt_312 : decode cX11_compareAt 312 = .ok (.iaload, 1) := by decide +kernel
theorem dX11_compareAt_313 : decode cX11_compareAt 313 = .ok (.iadd, 1) := by decide +kernel
theorem dX11_compareAt_314 : decode cX11_compareAt 314 = .ok (.iconst 1, 1) := by decide +kernel
theorem dX11_compareAt_315 : decode cX11_compareAt 315 = .ok (.isub, 1) := by decide +kernel
theorem dX11_compareAt_316 : decode cX11_compareAt 316 = .ok (.iaload, 1) := by decide +kernel
theorem dX11_compareAt_317 : decode cX11_compareAt 317 = .ok (.aload_n 0, 1) := by decide +kernel
theorem dX11_compareAt_318 : decode cX11_compareAt 318 = .ok (.getfield 153, 3) := by decide +kernel
theorem dX11_compareAt_321 : decode cX11_compareAt 321 = .ok (.bipush 61, 2) := by decide +kernel
theorem dX11_compareAt_323 : decode cX11_compareAt 323 = .ok (.iload 7, 2) := by decide +kernel
theorem dX11_compareAt_325 : decode cX11_compareAt 325 = .ok (.imul, 1) := by decide +kernel
theorem dX11_compareAt_326 : decode cX11_compareAt 326 = .ok (.iload 8, 2) := by decide +kernel
theorem dX11_compareAt_328 : decode cX11_compareAt 328 = .ok (.iadd, 1) := by decide +kernel
theorem dX11_compareAt_329 : decode cX11_compareAt 329 = .ok (.iaload, 1) := by decide +kernel
theorem dX11_compareAt_330 : decode cX11_compareAt 330 = .ok (.iadd, 1) := by decide +kernel
theorem dX11_compareAt_331 : decode cX11_compareAt 331 = .ok (.istore 12, 2) := by decide +kernel
theorem dX11_compareAt_333 : decode cX11_compareAt 333 = .ok (.aload_n 0, 1) := by decide +kernel
theorem dX11_compareAt_334 : decode cX11_compareAt 334 = .ok (.getfield 156, 3) := by decide +kernel
theorem dX11_compareAt_337 : decode cX11_compareAt 337 = .ok (.bipush 61, 2) := by decide +kernel
theorem dX11_compareAt_339 : decode cX11_compareAt 339 = .ok (.iload 7, 2) := by decide +kernel
theorem dX11_compareAt_341 : decode cX11_compareAt 341 = .ok (.imul, 1) := by decide +kernel
theorem dX11_compareAt_342 : decode cX11_compareAt 342 = .ok (.iload 8, 2) := by decide +kernel
theorem dX11_compareAt_344 : decode cX11_compareAt 344 = .ok (.iadd, 1) := by decide +kernel
theorem dX11_compareAt_345 : decode cX11_compareAt 345 = .ok (.iload 9, 2) := by decide +kernel
theorem dX11_compareAt_347 : decode cX11_compareAt 347 = .ok (.iload 10, 2) := by decide +kernel
theorem dX11_compareAt_349 : decode cX11_compareAt 349 = .ok (.iload 12, 2) := by decide +kernel
theorem dX11_compareAt_351 : decode cX11_compareAt 351 = .ok (.invokestatic 429, 3) := by decide +kernel
theorem dX11_compareAt_354 : decode cX11_compareAt 354 = .ok (.iastore, 1) := by decide +kernel
theorem dX11_compareAt_355 : decode cX11_compareAt 355 = .ok (.aload_n 0, 1) := by decide +kernel
theorem dX11_compareAt_356 : decode cX11_compareAt 356 = .ok (.getfield 153, 3) := by decide +kernel
theorem dX11_compareAt_359 : decode cX11_compareAt 359 = .ok (.bipush 61, 2) := by decide +kernel
theorem dX11_compareAt_361 : decode cX11_compareAt 361 = .ok (.iload 7, 2) := by decide +kernel
theorem dX11_compareAt_363 : decode cX11_compareAt 363 = .ok (.imul, 1) := by decide +kernel
theorem dX11_compareAt_364 : decode cX11_compareAt 364 = .ok (.iload 8, 2) := by decide +kernel
theorem dX11_compareAt_366 : decode cX11_compareAt 366 = .ok (.iadd, 1) := by decide +kernel
theorem dX11_compareAt_367 : decode cX11_compareAt 367 = .ok (.iload 11, 2) := by decide +kernel
theorem dX11_compareAt_369 : decode cX11_compareAt 369 = .ok (.ifCond .eq 19, 3) := by decide +kernel
theorem dX11_compareAt_372 : decode cX11_compareAt 372 = .ok (.aload_n 0, 1) := by decide +kernel
theorem dX11_compareAt_373 : decode cX11_compareAt 373 = .ok (.getfield 156, 3) := by decide +kernel
theorem dX11_compareAt_376 : decode cX11_compareAt 376 = .ok (.bipush 61, 2) := by decide +kernel
theorem dX11_compareAt_378 : decode cX11_compareAt 378 = .ok (.iload 7, 2) := by decide +kernel
theorem dX11_compareAt_380 : decode cX11_compareAt 380 = .ok (.imul, 1) := by decide +kernel
theorem dX11_compareAt_381 : decode cX11_compareAt 381 = .ok (.iload 8, 2) := by decide +kernel
theorem dX11_compareAt_383 : decode cX11_compareAt 383 = .ok (.iadd, 1) := by decide +kernel
theorem dX11_compareAt_384 : decode cX11_compareAt 384 = .ok (.iaload, 1) := by decide +kernel
theorem dX11_compareAt_385 : decode cX11_compareAt 385 = .ok (.goto 16, 3) := by decide +kernel
theorem dX11_compareAt_388 : decode cX11_compareAt 388 = .ok (.aload_n 0, 1) := by decide +kernel
theorem dX11_compareAt_389 : decode cX11_compareAt 389 = .ok (.getfield 153, 3) := by decide +kernel
theorem dX11_compareAt_392 : decode cX11_compareAt 392 = .ok (.bipush 61, 2) := by decide +kernel
theorem dX11_compareAt_394 : decode cX11_compareAt 394 = .ok (.iload 7, 2) := by decide +kernel
theorem dX11_compareAt_396 : decode cX11_compareAt 396 = .ok (.imul, 1) := by decide +kernel
theorem dX11_compareAt_397 : decode cX11_compareAt 397 = .ok (.iload 8, 2) := by decide +kernel
theorem dX11_compareAt_399 : decode cX11_compareAt 399 = .ok (.iadd, 1) := by decide +kernel
theorem dX11_compareAt_400 : decode cX11_compareAt 400 = .ok (.iaload, 1) := by decide +kernel
theorem dX11_compareAt_401 : decode cX11_compareAt 401 = .ok (.iastore, 1) := by decide +kernel
theorem dX11_compareAt_402 : decode cX11_compareAt 402 = .ok (.iinc 8 1, 3) := by decide +kernel
theorem dX11_compareAt_405 : decode cX11_compareAt 405 = .ok (.goto (-254), 3) := by decide +kernel
theorem dX11_compareAt_408 : decode cX11_compareAt 408 = .ok (.iinc 7 1, 3) := by decide +kernel
theorem dX11_compareAt_411 : decode cX11_compareAt 411 = .ok (.goto (-270), 3) := by decide +kernel
theorem dX11_compareAt_414 : decode cX11_compareAt 414 = .ok (.return_, 1) := by decide +kernel
abbrev cX11_distance : ByteArray := prog_13_method_126_code
def yX11_distance : MethodName := ⟨RX11, "distance", "(II)I"⟩
theorem dX11_distance_0 : decode cX11_distance 0 = .ok (.aload_n 0, 1) := by decide +kernel
theorem dX11_distance_1 : decode cX11_distance 1 = .ok (.aload_n 0, 1) := by decide +kernel
theorem dX11_distance_2 : decode cX11_distance 2 = .ok (.iload_n 1, 1) := by decide +kernel
theorem dX11_distance_3 : decode cX11_distance 3 = .ok (.invokevirtual 419, 3) := by decide +kernel
theorem dX11_distance_6 : decode cX11_distance 6 = .ok (.ifCond .eq 15, 3) := by decide +kernel
theorem dX11_distance_9 : decode cX11_distance 9 = .ok (.aload_n 0, 1) := by decide +kernel
theorem dX11_distance_10 : decode cX11_distance 10 = .ok (.iload_n 2, 1) := by decide +kernel
theorem dX11_distance_11 : decode cX11_distance 11 = .ok (.invokevirtual 419, 3) := by decide +kernel
theorem dX11_distance_14 : decode cX11_distance 14 = .ok (.ifCond .eq 7, 3) := by decide +kernel
theorem dX11_distance_17 : decode cX11_distance 17 = .ok (.iconst 0, 1) := by decide +kernel
theorem dX11_distance_18 : decode cX11_distance 18 = .ok (.goto 4, 3) := by decide +kernel
theorem dX11_distance_21 : decode cX11_distance 21 = .ok (.iconst 1, 1) := by decide +kernel
theorem dX11_distance_22 : decode cX11_distance 22 = .ok (.invokevirtual 204, 3) := by decide +kernel
theorem dX11_distance_25 : decode cX11_distance 25 = .ok (.ifCond .eq 5, 3) := by decide +kernel
theorem dX11_distance_28 : decode cX11_distance 28 = .ok (.iconst 0, 1) := by decide +kernel
theorem dX11_distance_29 : decode cX11_distance 29 = .ok (.ireturn, 1) := by decide +kernel
theorem dX11_distance_30 : decode cX11_distance 30 = .ok (.aload_n 0, 1) := by decide +kernel
theorem dX11_distance_31 : decode cX11_distance 31 = .ok (.invokevirtual 225, 3) := by decide +kernel
theorem dX11_distance_34 : decode cX11_distance 34 = .ok (.aload_n 0, 1) := by decide +kernel
theorem dX11_distance_35 : decode cX11_distance 35 = .ok (.iconst 0, 1) := by decide +kernel
theorem dX11_distance_36 : decode cX11_distance 36 = .ok (.iload_n 1, 1) := by decide +kernel
theorem dX11_distance_37 : decode cX11_distance 37 = .ok (.invokevirtual 433, 3) := by decide +kernel
theorem dX11_distance_40 : decode cX11_distance 40 = .ok (.aload_n 0, 1) := by decide +kernel
theorem dX11_distance_41 : decode cX11_distance 41 = .ok (.iconst 1, 1) := by decide +kernel
theorem dX11_distance_42 : decode cX11_distance 42 = .ok (.iload_n 2, 1) := by decide +kernel
theorem dX11_distance_43 : decode cX11_distance 43 = .ok (.invokevirtual 433, 3) := by decide +kernel
theorem dX11_distance_46 : decode cX11_distance 46 = .ok (.iconst 1, 1) := by decide +kernel
theorem dX11_distance_47 : decode cX11_distance 47 = .ok (.istore_n 3, 1) := by decide +kernel
theorem dX11_distance_48 : decode cX11_distance 48 = .ok (.iload_n 3, 1) := by decide +kernel
theorem dX11_distance_49 : decode cX11_distance 49 = .ok (.aload_n 0, 1) := by decide +kernel
theorem dX11_distance_50 : decode cX11_distance 50 = .ok (.getfield 144, 3) := by decide +kernel
theorem dX11_distance_53 : decode cX11_distance 53 = .ok (.iconst 0, 1) := by decide +kernel
theorem dX11_distance_54 : decode cX11_distance 54 = .ok (.iaload, 1) := by decide +kernel
theorem dX11_distance_55 : decode cX11_distance 55 = .ok (.if_icmp .gt 57, 3) := by decide +kernel
theorem dX11_distance_58 : decode cX11_distance 58 = .ok (.iconst 1, 1) := by decide +kernel
theorem dX11_distance_59 : decode cX11_distance 59 = .ok (.istore 4, 2) := by decide +kernel
theorem dX11_distance_61 : decode cX11_distance 61 = .ok (.iload 4, 2) := by decide +kernel
theorem dX11_distance_63 : decode cX11_distance 63 = .ok (.aload_n 0, 1) := by decide +kernel
theorem dX11_distance_64 : decode cX11_distance 64 = .ok (.getfield 144, 3) := by decide +kernel
theorem dX11_distance_67 : decode cX11_distance 67 = .ok (.iconst 1, 1) := by decide +kernel
theorem dX11_distance_68 : decode cX11_distance 68 = .ok (.iaload, 1) := by decide +kernel
theorem dX11_distance_69 : decode cX11_distance 69 = .ok (.if_icmp .gt 37, 3) := by decide +kernel
theorem dX11_distance_72 : decode cX11_distance 72 = .ok (.aload_n 0, 1) := by decide +kernel
theorem dX11_distance_73 : decode cX11_distance 73 = .ok (.iconst 0, 1) := by decide +kernel
theorem dX11_distance_74 : decode cX11_distance 74 = .ok (.iload_n 3, 1) := by decide +kernel
theorem dX11_distance_75 : decode cX11_distance 75 = .ok (.invokevirtual 436, 3) := by decide +kernel
theorem dX11_distance_78 : decode cX11_distance 78 = .ok (.ifCond .eq 22, 3) := by decide +kernel
theorem dX11_distance_81 : decode cX11_distance 81 = .ok (.aload_n 0, 1) := by decide +kernel
theorem dX11_distance_82 : decode cX11_distance 82 = .ok (.iconst 1, 1) := by decide +kernel
theorem dX11_distance_83 : decode cX11_distance 83 = .ok (.iload 4, 2) := by decide +kernel
theorem dX11_distance_85 : decode cX11_distance 85 = .ok (.invokevirtual 436, 3) := by decide +kernel
theorem dX11_distance_88 : decode cX11_distance 88 = .ok (.ifCond .eq 12, 3) := by decide +kernel
theorem dX11_distance_91 : decode cX11_distance 91 = .ok (.aload_n 0, 1) := by decide +kernel
theorem dX11_distance_92 : decode cX11_distance 92 = .ok (.iload_n 3, 1) := by decide +kernel
theorem dX11_distance_93 : decode cX11_distance 93 = .ok (.iload 4, 2) := by decide +kernel
theorem dX11_distance_95 : decode cX11_distance 95 = .ok (.iload_n 1, 1) := by decide +kernel
theorem dX11_distance_96 : decode cX11_distance 96 = .ok (.iload_n 2, 1) := by decide +kernel
theorem dX11_distance_97 : decode cX11_distance 97 = .ok (.invokevirtual 439, 3) := by decide +kernel
theorem dX11_distance_100 : decode cX11_distance 100 = .ok (.iinc 4 1, 3) := by decide +kernel
theorem dX11_distance_103 : decode cX11_distance 103 = .ok (.goto (-42), 3) := by decide +kernel
theorem dX11_distance_106 : decode cX11_distance 106 = .ok (.iinc 3 1, 3) := by decide +kernel
theorem dX11_distance_109 : decode cX11_distance 109 = .ok (.goto (-61), 3) := by decide +kernel
theorem dX11_distance_112 : decode cX11_distance 112 = .ok (.aload_n 0, 1) := by decide +kernel
theorem dX11_distance_113 : decode cX11_distance 113 = .ok (.invokevirtual 251, 3) := by decide +kernel
theorem dX11_distance_116 : decode cX11_distance 116 = .ok (.aload_n 0, 1) := by decide +kernel
theorem dX11_distance_117 : decode cX11_distance 117 = .ok (.invokevirtual 163, 3) := by decide +kernel
theorem dX11_distance_120 : decode cX11_distance 120 = .ok (.aload_n 0, 1) := by decide +kernel
theorem dX11_distance_121 : decode cX11_distance 121 = .ok (.getfield 153, 3) := by decide +kernel
theorem dX11_distance_124 : decode cX11_distance 124 = .ok (.bipush 61, 2) := by decide +kernel
theorem dX11_distance_126 : decode cX11_distance 126 = .ok (.aload_n 0, 1) := by decide +kernel
theorem dX11_distance_127 : decode cX11_distance 127 = .ok (.getfield 144, 3) := by decide +kernel
theorem dX11_distance_130 : decode cX11_distance 130 = .ok (.iconst 0, 1) := by decide +kernel
theorem dX11_distance_131 : decode cX11_distance 131 = .ok (.iaload, 1) := by decide +kernel
theorem dX11_distance_132 : decode cX11_distance 132 = .ok (.imul, 1) := by decide +kernel
theorem dX11_distance_133 : decode cX11_distance 133 = .ok (.aload_n 0, 1) := by decide +kernel
theorem dX11_distance_134 : decode cX11_distance 134 = .ok (.getfield 144, 3) := by decide +kernel
theorem dX11_distance_137 : decode cX11_distance 137 = .ok (.iconst 1, 1) := by decide +kernel
theorem dX11_distance_138 : decode cX11_distance 138 = .ok (.iaload, 1) := by decide +kernel
theorem dX11_distance_139 : decode cX11_distance 139 = .ok (.iadd, 1) := by decide +kernel
theorem dX11_distance_140 : decode cX11_distance 140 = .ok (.iaload, 1) := by decide +kernel
theorem dX11_distance_141 : decode cX11_distance 141 = .ok (.ireturn, 1) := by decide +kernel
abbrev cX11_differ : ByteArray := prog_13_method_127_code
def yX11_differ : MethodName := ⟨RX11, "differ", "(II)Z"⟩
theorem dX11_differ_0 : decode cX11_differ 0 = .ok (.aload_n 0, 1) := by decide +kernel
theorem dX11_differ_1 : decode cX11_differ 1 = .ok (.getfield 138, 3) := by decide +kernel
theorem dX11_differ_4 : decode cX11_differ 4 = .ok (.iload_n 1, 1) := by decide +kernel
theorem dX11_differ_5 : decode cX11_differ 5 = .ok (.iaload, 1) := by decide +kernel
theorem dX11_differ_6 : decode cX11_differ 6 = .ok (.aload_n 0, 1) := by decide +kernel
theorem dX11_differ_7 : decode cX11_differ 7 = .ok (.getfield 138, 3) := by decide +kernel
theorem dX11_differ_10 : decode cX11_differ 10 = .ok (.iload_n 2, 1) := by decide +kernel
theorem dX11_differ_11 : decode cX11_differ 11 = .ok (.iaload, 1) := by decide +kernel
theorem dX11_differ_12 : decode cX11_differ 12 = .ok (.if_icmp .ne 48, 3) := by decide +kernel
theorem dX11_differ_15 : decode cX11_differ 15 = .ok (.aload_n 0, 1) := by decide +kernel
theorem dX11_differ_16 : decode cX11_differ 16 = .ok (.getfield 129, 3) := by decide +kernel
theorem dX11_differ_19 : decode cX11_differ 19 = .ok (.iload_n 1, 1) := by decide +kernel
theorem dX11_differ_20 : decode cX11_differ 20 = .ok (.iaload, 1) := by decide +kernel
theorem dX11_differ_21 : decode cX11_differ 21 = .ok (.aload_n 0, 1) := by decide +kernel
theorem dX11_differ_22 : decode cX11_differ 22 = .ok (.getfield 129, 3) := by decide +kernel
theorem dX11_differ_25 : decode cX11_differ 25 = .ok (.iload_n 2, 1) := by decide +kernel
theorem dX11_differ_26 : decode cX11_differ 26 = .ok (.iaload, 1) := by decide +kernel
theorem dX11_differ_27 : decode cX11_differ 27 = .ok (.if_icmp .ne 33, 3) := by decide +kernel
theorem dX11_differ_30 : decode cX11_differ 30 = .ok (.aload_n 0, 1) := by decide +kernel
theorem dX11_differ_31 : decode cX11_differ 31 = .ok (.getfield 132, 3) := by decide +kernel
theorem dX11_differ_34 : decode cX11_differ 34 = .ok (.iload_n 1, 1) := by decide +kernel
theorem dX11_differ_35 : decode cX11_differ 35 = .ok (.iaload, 1) := by decide +kernel
theorem dX11_differ_36 : decode cX11_differ 36 = .ok (.aload_n 0, 1) := by decide +kernel
theorem dX11_differ_37 : decode cX11_differ 37 = .ok (.getfield 132, 3) := by decide +kernel
theorem dX11_differ_40 : decode cX11_differ 40 = .ok (.iload_n 2, 1) := by decide +kernel
theorem dX11_differ_41 : decode cX11_differ 41 = .ok (.iaload, 1) := by decide +kernel
theorem dX11_differ_42 : decode cX11_differ 42 = .ok (.if_icmp .ne 18, 3) := by decide +kernel
theorem dX11_differ_45 : decode cX11_differ 45 = .ok (.aload_n 0, 1) := by decide +kernel
theorem dX11_differ_46 : decode cX11_differ 46 = .ok (.getfield 135, 3) := by decide +kernel
theorem dX11_differ_49 : decode cX11_differ 49 = .ok (.iload_n 1, 1) := by decide +kernel
theorem dX11_differ_50 : decode cX11_differ 50 = .ok (.iaload, 1) := by decide +kernel
theorem dX11_differ_51 : decode cX11_differ 51 = .ok (.aload_n 0, 1) := by decide +kernel
theorem dX11_differ_52 : decode cX11_differ 52 = .ok (.getfield 135, 3) := by decide +kernel
theorem dX11_differ_55 : decode cX11_differ 55 = .ok (.iload_n 2, 1) := by decide +kernel
theorem dX11_differ_56 : decode cX11_differ 56 = .ok (.iaload, 1) := by decide +kernel
theorem dX11_differ_57 : decode cX11_differ 57 = .ok (.if_icmp .eq 7, 3) := by decide +kernel
theorem dX11_differ_60 : decode cX11_differ 60 = .ok (.iconst 1, 1) := by decide +kernel
theorem dX11_differ_61 : decode cX11_differ 61 = .ok (.goto 4, 3) := by decide +kernel
theorem dX11_differ_64 : decode cX11_differ 64 = .ok (.iconst 0, 1) := by decide +kernel
theorem dX11_differ_65 : decode cX11_differ 65 = .ok (.istore_n 3, 1) := by decide +kernel
theorem dX11_differ_66 : decode cX11_differ 66 = .ok (.aload_n 0, 1) := by decide +kernel
theorem dX11_differ_67 : decode cX11_differ 67 = .ok (.getfield 126, 3) := by decide +kernel
theorem dX11_differ_70 : decode cX11_differ 70 = .ok (.iload_n 1, 1) := by decide +kernel
theorem dX11_differ_71 : decode cX11_differ 71 = .ok (.baload, 1) := by decide +kernel
theorem dX11_differ_72 : decode cX11_differ 72 = .ok (.aload_n 0, 1) := by decide +kernel
theorem dX11_differ_73 : decode cX11_differ 73 = .ok (.getfield 126, 3) := by decide +kernel
theorem dX11_differ_76 : decode cX11_differ 76 = .ok (.iload_n 2, 1) := by decide +kernel
theorem dX11_differ_77 : decode cX11_differ 77 = .ok (.baload, 1) := by decide +kernel
theorem dX11_differ_78 : decode cX11_differ 78 = .ok (.if_icmp .ne 16, 3) := by decide +kernel
theorem dX11_differ_81 : decode cX11_differ 81 = .ok (.aload_n 0, 1) := by decide +kernel
theorem dX11_differ_82 : decode cX11_differ 82 = .ok (.getfield 126, 3) := by decide +kernel
theorem dX11_differ_85 : decode cX11_differ 85 = .ok (.iload_n 1, 1) := by decide +kernel
theorem dX11_differ_86 : decode cX11_differ 86 = .ok (.baload, 1) := by decide +kernel
theorem dX11_differ_87 : decode cX11_differ 87 = .ok (.ifCond .eq 11, 3) := by decide +kernel
theorem dX11_differ_90 : decode cX11_differ 90 = .ok (.iload_n 3, 1) := by decide +kernel
theorem dX11_differ_91 : decode cX11_differ 91 = .ok (.ifCond .eq 7, 3) := by decide +kernel
theorem dX11_differ_94 : decode cX11_differ 94 = .ok (.iconst 1, 1) := by decide +kernel
theorem dX11_differ_95 : decode cX11_differ 95 = .ok (.goto 4, 3) := by decide +kernel
theorem dX11_differ_98 : decode cX11_differ 98 = .ok (.iconst 0, 1) := by decide +kernel
theorem dX11_differ_99 : decode cX11_differ 99 = .ok (.ireturn, 1) := by decide +kernel
abbrev cX11_odds : ByteArray := prog_13_method_128_code
def yX11_odds : MethodName := ⟨RX11, "odds", "(III)I"⟩
theorem dX11_odds_0 : decode cX11_odds 0 = .ok (.aload_n 0, 1) := by decide +kernel
theorem dX11_odds_1 : decode cX11_odds 1 = .ok (.iload_n 1, 1) := by decide +kernel
theorem dX11_odds_2 : decode cX11_odds 2 = .ok (.invokevirtual 419, 3) := by decide +kernel
theorem dX11_odds_5 : decode cX11_odds 5 = .ok (.ifCond .eq 23, 3) := by decide +kernel
theorem dX11_odds_8 : decode cX11_odds 8 = .ok (.aload_n 0, 1) := by decide +kernel
theorem dX11_odds_9 : decode cX11_odds 9 = .ok (.iload_n 2, 1) := by decide +kernel
theorem dX11_odds_10 : decode cX11_odds 10 = .ok (.invokevirtual 419, 3) := by decide +kernel
theorem dX11_odds_13 : decode cX11_odds 13 = .ok (.ifCond .eq 15, 3) := by decide +kernel
theorem dX11_odds_16 : decode cX11_odds 16 = .ok (.aload_n 0, 1) := by decide +kernel
theorem dX11_odds_17 : decode cX11_odds 17 = .ok (.iload_n 3, 1) := by decide +kernel
theorem dX11_odds_18 : decode cX11_odds 18 = .ok (.invokevirtual 419, 3) := by decide +kernel
theorem dX11_odds_21 : decode cX11_odds 21 = .ok (.ifCond .eq 7, 3) := by decide +kernel
theorem dX11_odds_24 : decode cX11_odds 24 = .ok (.iconst 1, 1) := by decide +kernel
theorem dX11_odds_25 : decode cX11_odds 25 = .ok (.goto 4, 3) := by decide +kernel
theorem dX11_odds_28 : decode cX11_odds 28 = .ok (.iconst 0, 1) := by decide +kernel
theorem dX11_odds_29 : decode cX11_odds 29 = .ok (.istore 4, 2) := by decide +kernel
theorem dX11_odds_31 : decode cX11_odds 31 = .ok (.aload_n 0, 1) := by decide +kernel
theorem dX11_odds_32 : decode cX11_odds 32 = .ok (.iload 4, 2) := by decide +kernel
theorem dX11_odds_34 : decode cX11_odds 34 = .ok (.ifCond .eq 7, 3) := by decide +kernel
theorem dX11_odds_37 : decode cX11_odds 37 = .ok (.iconst 0, 1) := by decide +kernel
theorem dX11_odds_38 : decode cX11_odds 38 = .ok (.goto 4, 3) := by decide +kernel
theorem dX11_odds_41 : decode cX11_odds 41 = .ok (.iconst 1, 1) := by decide +kernel
theorem dX11_odds_42 : decode cX11_odds 42 = .ok (.invokevirtual 204, 3) := by decide +kernel
theorem dX11_odds_45 : decode cX11_odds 45 = .ok (.ifCond .eq 5, 3) := by decide +kernel
theorem dX11_odds_48 : decode cX11_odds 48 = .ok (.iconst 0, 1) := by decide +kernel
theorem dX11_odds_49 : decode cX11_odds 49 = .ok (.ireturn, 1) := by decide +kernel
theorem dX11_odds_50 : decode cX11_odds 50 = .ok (.iconst 0, 1) := by decide +kernel
theorem dX11_odds_51 : decode cX11_odds 51 = .ok (.istore 5, 2) := by decide +kernel
theorem dX11_odds_53 : decode cX11_odds 53 = .ok (.iconst 0, 1) := by decide +kernel
theorem dX11_odds_54 : decode cX11_odds 54 = .ok (.istore 6, 2) := by decide +kernel
theorem dX11_odds_56 : decode cX11_odds 56 = .ok (.iload 6, 2) := by decide +kernel
theorem dX11_odds_58 : decode cX11_odds 58 = .ok (.aload_n 0, 1) := by decide +kernel
theorem dX11_odds_59 : decode cX11_odds 59 = .ok (.getfield 159, 3) := by decide +kernel
theorem dX11_odds_62 : decode cX11_odds 62 = .ok (.if_icmp .ge 79, 3) := by decide +kernel
theorem dX11_odds_65 : decode cX11_odds 65 = .ok (.bipush 60, 2) := by decide +kernel
theorem dX11_odds_67 : decode cX11_odds 67 = .ok (.iload_n 1, 1) := by decide +kernel
theorem dX11_odds_68 : decode cX11_odds 68 = .ok (.imul, 1) := by decide +kernel
theorem dX11_odds_69 : decode cX11_odds 69 = .ok (.iload 6, 2) := by decide +kernel
theorem dX11_odds_71 : decode cX11_odds 71 = .ok (.iadd, 1) := by decide +kernel
theorem dX11_odds_72 : decode cX11_odds 72 = .ok (.istore 7, 2) := by decide +kernel
theorem dX11_odds_74 : decode cX11_odds 74 = .ok (.bipush 60, 2) := by decide +kernel
theorem dX11_odds_76 : decode cX11_odds 76 = .ok (.iload_n 2, 1) := by decide +kernel
theorem dX11_odds_77 : decode cX11_odds 77 = .ok (.imul, 1) := by decide +kernel
theorem dX11_odds_78 : decode cX11_odds 78 = .ok (.iload 6, 2) := by decide +kernel
theorem dX11_odds_80 : decode cX11_odds 80 = .ok (.iadd, 1) := by decide +kernel
theorem dX11_odds_81 : decode cX11_odds 81 = .ok (.istore 8, 2) := by decide +kernel
theorem dX11_odds_83 : decode cX11_odds 83 = .ok (.bipush 60, 2) := by decide +kernel
theorem dX11_odds_85 : decode cX11_odds 85 = .ok (.iload_n 3, 1) := by decide +kernel
theorem dX11_odds_86 : decode cX11_odds 86 = .ok (.imul, 1) := by decide +kernel
theorem dX11_odds_87 : decode cX11_odds 87 = .ok (.iload 6, 2) := by decide +kernel
theorem dX11_odds_89 : decode cX11_odds 89 = .ok (.iadd, 1) := by decide +kernel
theorem dX11_odds_90 : decode cX11_odds 90 = .ok (.istore 9, 2) := by decide +kernel
theorem dX11_odds_92 : decode cX11_odds 92 = .ok (.iload 5, 2) := by decide +kernel
theorem dX11_odds_94 : decode cX11_odds 94 = .ok (.aload_n 0, 1) := by decide +kernel
theorem dX11_odds_95 : decode cX11_odds 95 = .ok (.iload 7, 2) := by decide +kernel
theorem dX11_odds_97 : decode cX11_odds 97 = .ok (.iload 8, 2) := by decide +kernel
theorem dX11_odds_99 : decode cX11_odds 99 = .ok (.invokevirtual 443, 3) := by decide +kernel
theorem dX11_odds_102 : decode cX11_odds 102 = .ok (.ifCond .eq 29, 3) := by decide +kernel
theorem dX11_odds_105 : decode cX11_odds 105 = .ok (.aload_n 0, 1) := by decide +kernel
theorem dX11_odds_106 : decode cX11_odds 106 = .ok (.iload 7, 2) := by decide +kernel
theorem dX11_odds_108 : decode cX11_odds 108 = .ok (.iload 9, 2) := by decide +kernel
theorem dX11_odds_110 : decode cX11_odds 110 = .ok (.invokevirtual 443, 3) := by decide +kernel
theorem dX11_odds_113 : decode cX11_odds 113 = .ok (.ifCond .eq 18, 3) := by decide +kernel
theorem dX11_odds_116 : decode cX11_odds 116 = .ok (.aload_n 0, 1) := by decide +kernel
theorem dX11_odds_117 : decode cX11_odds 117 = .ok (.iload 8, 2) := by decide +kernel
theorem dX11_odds_119 : decode cX11_odds 119 = .ok (.iload 9, 2) := by decide +kernel
theorem dX11_odds_121 : decode cX11_odds 121 = .ok (.invokevirtual 443, 3) := by decide +kernel
theorem dX11_odds_124 : decode cX11_odds 124 = .ok (.ifCond .eq 7, 3) := by decide +kernel
theorem dX11_odds_127 : decode cX11_odds 127 = .ok (.iconst 1, 1) := by decide +kernel
theorem dX11_odds_128 : decode cX11_odds 128 = .ok (.goto 4, 3) := by decide +kernel
theorem dX11_odds_131 : decode cX11_odds 131 = .ok (.iconst 0, 1) := by decide +kernel
theorem dX11_odds_132 : decode cX11_odds 132 = .ok (.iadd, 1) := by decide +kernel
theorem dX11_odds_133 : decode cX11_odds 133 = .ok (.istore 5, 2) := by decide +kernel
theorem dX11_odds_135 : decode cX11_odds 135 = .ok (.iinc 6 1, 3) := by decide +kernel
theorem dX11_odds_138 : decode cX11_odds 138 = .ok (.goto (-82), 3) := by decide +kernel
theorem dX11_odds_141 : decode cX11_odds 141 = .ok (.iload 5, 2) := by decide +kernel
theorem dX11_odds_143 : decode cX11_odds 143 = .ok (.ireturn, 1) := by decide +kernel
abbrev cX11_hide : ByteArray := prog_13_method_129_code
def yX11_hide : MethodName := ⟨RX11, "hide", "(I)Z"⟩
theorem dX11_hide_0 : decode cX11_hide 0 = .ok (.iconst (-1), 1) := by decide +kernel
theorem dX11_hide_1 : decode cX11_hide 1 = .ok (.istore_n 2, 1) := by decide +kernel
theorem dX11_hide_2 : decode cX11_hide 2 = .ok (.iconst 0, 1) := by decide +kernel
theorem dX11_hide_3 : decode cX11_hide 3 = .ok (.istore_n 3, 1) := by decide +kernel
theorem dX11_hide_4 : decode cX11_hide 4 = .ok (.iload_n 3, 1) := by decide +kernel
theorem dX11_hide_5 : decode cX11_hide 5 = .ok (.aload_n 0, 1) := by decide +kernel
theorem dX11_hide_6 : decode cX11_hide 6 = .ok (.getfield 352, 3) := by decide +kernel
theorem dX11_hide_9 : decode cX11_hide 9 = .ok (.if_icmp .ge 25, 3) := by decide +kernel
theorem dX11_hide_12 : decode cX11_hide 12 = .ok (.aload_n 0, 1) := by decide +kernel
theorem dX11_hide_13 : decode cX11_hide 13 = .ok (.getfield 87, 3) := by decide +kernel
theorem dX11_hide_16 : decode cX11_hide 16 = .ok (.iload_n 3, 1) := by decide +kernel
theorem dX11_hide_17 : decode cX11_hide 17 = .ok (.iaload, 1) := by decide +kernel
theorem dX11_hide_18 : decode cX11_hide 18 = .ok (.iload_n 1, 1) := by decide +kernel
theorem dX11_hide_19 : decode cX11_hide 19 = .ok (.if_icmp .ne 7, 3) := by decide +kernel
theorem dX11_hide_22 : decode cX11_hide 22 = .ok (.iload_n 3, 1) := by decide +kernel
theorem dX11_hide_23 : decode cX11_hide 23 = .ok (.goto 4, 3) := by decide +kernel
theorem dX11_hide_26 : decode cX11_hide 26 = .ok (.iload_n 2, 1) := by decide +kernel
theorem dX11_hide_27 : decode cX11_hide 27 = .ok (.istore_n 2, 1) := by decide +kernel
theorem dX11_hide_28 : decode cX11_hide 28 = .ok (.iinc 3 1, 3) := by decide +kernel
theorem dX11_hide_31 : decode cX11_hide 31 = .ok (.goto (-27), 3) := by decide +kernel
theorem dX11_hide_34 : decode cX11_hide 34 = .ok (.aload_n 0, 1) := by decide +kernel
theorem dX11_hide_35 : decode cX11_hide 35 = .ok (.aload_n 0, 1) := by decide +kernel
theorem dX11_hide_36 : decode cX11_hide 36 = .ok (.iload_n 1, 1) := by decide +kernel
theorem dX11_hide_37 : decode cX11_hide 37 = .ok (.invokevirtual 305, 3) := by decide +kernel
theorem dX11_hide_40 : decode cX11_hide 40 = .ok (.ifCond .ne 7, 3) := by decide +kernel
theorem dX11_hide_43 : decode cX11_hide 43 = .ok (.iconst 1, 1) := by decide +kernel
theorem dX11_hide_44 : decode cX11_hide 44 = .ok (.goto 21, 3) := by decide +kernel
theorem dX11_hide_47 : decode cX11_hide 47 = .ok (.iload_n 2, 1) := by decide +kernel
theorem dX11_hide_48 : decode cX11_hide 48 = .ok (.iconst (-1), 1) := by decide +kernel
theorem dX11_hide_49 : decode cX11_hide 49 = .ok (.if_icmp .ne 15, 3) := by decide +kernel
theorem dX11_hide_52 : decode cX11_hide 52 = .ok (.aload_n 0, 1) := by decide +kernel
theorem dX11_hide_53 : decode cX11_hide 53 = .ok (.getfield 352, 3) := by decide +kernel
theorem dX11_hide_56 : decode cX11_hide 56 = .ok (.iconst 3, 1) := by decide +kernel
theorem dX11_hide_57 : decode cX11_hide 57 = .ok (.if_icmp .ne 7, 3) := by decide +kernel
theorem dX11_hide_60 : decode cX11_hide 60 = .ok (.iconst 2, 1) := by decide +kernel
theorem dX11_hide_61 : decode cX11_hide 61 = .ok (.goto 4, 3) := by decide +kernel
theorem dX11_hide_64 : decode cX11_hide 64 = .ok (.iconst 0, 1) := by decide +kernel
theorem dX11_hide_65 : decode cX11_hide 65 = .ok (.invokevirtual 204, 3) := by decide +kernel
theorem dX11_hide_68 : decode cX11_hide 68 = .ok (.ifCond .eq 5, 3) := by decide +kernel
theorem dX11_hide_71 : decode cX11_hide 71 = .ok (.iconst 0, 1) := by decide +kernel
theorem dX11_hide_72 : decode cX11_hide 72 = .ok (.ireturn, 1) := by decide +kernel
theorem dX11_hide_73 : decode cX11_hide 73 = .ok (.iload_n 2, 1) := by decide +kernel
theorem dX11_hide_74 : decode cX11_hide 74 = .ok (.iconst (-1), 1) := by decide +kernel
theorem dX11_hide_75 : decode cX11_hide 75 = .ok (.if_icmp .ne 25, 3) := by decide +kernel
theorem dX11_hide_78 : decode cX11_hide 78 = .ok (.aload_n 0, 1) := by decide +kernel
theorem dX11_hide_79 : decode cX11_hide 79 = .ok (.getfield 87, 3) := by decide +kernel
theorem dX11_hide_82 : decode cX11_hide 82 = .ok (.aload_n 0, 1) := by decide +kernel
theorem dX11_hide_83 : decode cX11_hide 83 = .ok (.getfield 352, 3) := by decide +kernel
theorem dX11_hide_86 : decode cX11_hide 86 = .ok (.iload_n 1, 1) := by decide +kernel
theorem dX11_hide_87 : decode cX11_hide 87 = .ok (.iastore, 1) := by decide +kernel
theorem dX11_hide_88 : decode cX11_hide 88 = .ok (.aload_n 0, 1) := by decide +kernel
theorem dX11_hide_89 : decode cX11_hide 89 = .ok (.dup, 1) := by decide +kernel
theorem dX11_hide_90 : decode cX11_hide 90 = .ok (.getfield 352, 3) := by decide +kernel
theorem dX11_hide_93 : decode cX11_hide 93 = .ok (.iconst 1, 1) := by decide +kernel
theorem dX11_hide_94 : decode cX11_hide 94 = .ok (.iadd, 1) := by decide +kernel
theorem dX11_hide_95 : decode cX11_hide 95 = .ok (.putfield 352, 3) := by decide +kernel
theorem dX11_hide_98 : decode cX11_hide 98 = .ok (.iconst 1, 1) := by decide +kernel
theorem dX11_hide_99 : decode cX11_hide 99 = .ok (.ireturn, 1) := by decide +kernel
theorem dX11_hide_100 : decode cX11_hide 100 = .ok (.aload_n 0, 1) := by decide +kernel
theorem dX11_hide_101 : decode cX11_hide 101 = .ok (.dup, 1) := by decide +kernel
theorem dX11_hide_102 : decode cX11_hide 102 = .ok (.getfield 352, 3) := by decide +kernel
theorem dX11_hide_105 : decode cX11_hide 105 = .ok (.iconst 1, 1) := by decide +kernel
theorem dX11_hide_106 : decode cX11_hide 106 = .ok (.isub, 1) := by decide +kernel
theorem dX11_hide_107 : decode cX11_hide 107 = .ok (.putfield 352, 3) := by decide +kernel
theorem dX11_hide_110 : decode cX11_hide 110 = .ok (.aload_n 0, 1) := by decide +kernel
theorem dX11_hide_111 : decode cX11_hide 111 = .ok (.getfield 87, 3) := by decide +kernel
theorem dX11_hide_114 : decode cX11_hide 114 = .ok (.iload_n 2, 1) := by decide +kernel
theorem dX11_hide_115 : decode cX11_hide 115 = .ok (.aload_n 0, 1) := by decide +kernel
theorem dX11_hide_116 : decode cX11_hide 116 = .ok (.getfield 87, 3) := by decide +kernel
theorem dX11_hide_119 : decode cX11_hide 119 = .ok (.aload_n 0, 1) := by decide +kernel
theorem dX11_hide_120 : decode cX11_hide 120 = .ok (.getfield 352, 3) := by decide +kernel
theorem dX11_hide_123 : decode cX11_hide 123 = .ok (.iaload, 1) := by decide +kernel
theorem dX11_hide_124 : decode cX11_hide 124 = .ok (.iastore, 1) := by decide +kernel
theorem dX11_hide_125 : decode cX11_hide 125 = .ok (.iconst 0, 1) := by decide +kernel
theorem dX11_hide_126 : decode cX11_hide 126 = .ok (.ireturn, 1) := by decide +kernel
abbrev cX11_isSeen : ByteArray := prog_13_method_130_code
def yX11_isSeen : MethodName := ⟨RX11, "isSeen", "(I)Z"⟩
theorem dX11_isSeen_0 : decode cX11_isSeen 0 = .ok (.aload_n 0, 1) := by decide +kernel
theorem dX11_isSeen_1 : decode cX11_isSeen 1 = .ok (.iload_n 1, 1) := by decide +kernel
theorem dX11_isSeen_2 : decode cX11_isSeen 2 = .ok (.invokevirtual 286, 3) := by decide +kernel
theorem dX11_isSeen_5 : decode cX11_isSeen 5 = .ok (.ifCond .ne 20, 3) := by decide +kernel
theorem dX11_isSeen_8 : decode cX11_isSeen 8 = .ok (.aload_n 0, 1) := by decide +kernel
theorem dX11_isSeen_9 : decode cX11_isSeen 9 = .ok (.invokevirtual 355, 3) := by decide +kernel
theorem dX11_isSeen_12 : decode cX11_isSeen 12 = .ok (.iload_n 1, 1) := by decide +kernel
theorem dX11_isSeen_13 : decode cX11_isSeen 13 = .ok (.lshr, 1) := by decide +kernel
theorem dX11_isSeen_14 : decode cX11_isSeen 14 = .ok (.lconst 1, 1) := by decide +kernel
theorem dX11_isSeen_15 : decode cX11_isSeen 15 = .ok (.land, 1) := by decide +kernel
theorem dX11_isSeen_16 : decode cX11_isSeen 16 = .ok (.lconst 1, 1) := by decide +kernel
theorem dX11_isSeen_17 : decode cX11_isSeen 17 = .ok (.lcmp, 1) := by decide +kernel
theorem dX11_isSeen_18 : decode cX11_isSeen 18 = .ok (.ifCond .ne 7, 3) := by decide +kernel
theorem dX11_isSeen_21 : decode cX11_isSeen 21 = .ok (.iconst 1, 1) := by decide +kernel
theorem dX11_isSeen_22 : decode cX11_isSeen 22 = .ok (.goto 4, 3) := by decide +kernel
theorem dX11_isSeen_25 : decode cX11_isSeen 25 = .ok (.iconst 0, 1) := by decide +kernel
theorem dX11_isSeen_26 : decode cX11_isSeen 26 = .ok (.ireturn, 1) := by decide +kernel
theorem tk_RX11_376 : Cond.methodLink RX11 376 yX11_isType ∈ tq_G := tq_g (i := 2315) (by decide +kernel) rfl
theorem tk_y_X11_isType : tq_yok yX11_isType cX11_isType 1 (some .boolean) 1 := ⟨tq_g (i := 2317) (by decide +kernel) rfl, tq_g (i := 133) (by decide +kernel) rfl, ⟨by decide +kernel, by decide +kernel⟩, by decide +kernel, by decide⟩
theorem tk_s_X11_isType : Cond.static yX11_isType ∈ tq_G := tq_g (i := 2316) (by decide +kernel) rfl
theorem tk_RX11_379 : Cond.methodLink RX11 379 yX11_isState ∈ tq_G := tq_g (i := 2322) (by decide +kernel) rfl
theorem tk_y_X11_isState : tq_yok yX11_isState cX11_isState 1 (some .boolean) 1 := ⟨tq_g (i := 2324) (by decide +kernel) rfl, tq_g (i := 133) (by decide +kernel) rfl, ⟨by decide +kernel, by decide +kernel⟩, by decide +kernel, by decide⟩
theorem tk_s_X11_isState : Cond.static yX11_isState ∈ tq_G := tq_g (i := 2323) (by decide +kernel) rfl
theorem tk_RX11_388 : Cond.methodLink RX11 388 yX11_canHave ∈ tq_G := tq_g (i := 2357) (by decide +kernel) rfl
theorem tk_y_X11_canHave : tq_yok yX11_canHave cX11_canHave 5 (some .int) 1 := ⟨tq_g (i := 2360) (by decide +kernel) rfl, tq_g (i := 133) (by decide +kernel) rfl, ⟨by decide +kernel, by decide +kernel⟩, by decide +kernel, by decide⟩
theorem tk_v_X11_canHave : tq_vok yX11_canHave := ⟨tq_g (i := 2359) (by decide +kernel) rfl, tq_g (i := 104) (by decide +kernel) rfl⟩
theorem tk_ks_m129 : (Int16.ofInt (-129)).toInt32 = (-129 : Int32) := by decide +kernel
theorem tk_RX11_391 : Cond.methodLink RX11 391 yX11_childrenOf ∈ tq_G := tq_g (i := 2365) (by decide +kernel) rfl
theorem tk_y_X11_childrenOf : tq_yok yX11_childrenOf cX11_childrenOf 2 (some .int) 1 := ⟨tq_g (i := 2368) (by decide +kernel) rfl, tq_g (i := 133) (by decide +kernel) rfl, ⟨by decide +kernel, by decide +kernel⟩, by decide +kernel, by decide⟩
theorem tk_v_X11_childrenOf : tq_vok yX11_childrenOf := ⟨tq_g (i := 2367) (by decide +kernel) rfl, tq_g (i := 106) (by decide +kernel) rfl⟩
theorem tk_RX11_394 : Cond.methodLink RX11 394 yX11_parentsOf ∈ tq_G := tq_g (i := 2369) (by decide +kernel) rfl
theorem tk_y_X11_parentsOf : tq_yok yX11_parentsOf cX11_parentsOf 5 (some .int) 2 := ⟨tq_g (i := 2372) (by decide +kernel) rfl, tq_g (i := 133) (by decide +kernel) rfl, ⟨by decide +kernel, by decide +kernel⟩, by decide +kernel, by decide⟩
theorem tk_v_X11_parentsOf : tq_vok yX11_parentsOf := ⟨tq_g (i := 2371) (by decide +kernel) rfl, tq_g (i := 107) (by decide +kernel) rfl⟩
theorem tk_ks_256 : (Int16.ofInt (256)).toInt32 = (256 : Int32) := by decide +kernel
theorem tk_RX11_397 : Cond.methodLink RX11 397 yX11_allTypes ∈ tq_G := tq_g (i := 2353) (by decide +kernel) rfl
theorem tk_RX11_400 : Cond.methodLink RX11 400 yX11_cameBy ∈ tq_G := tq_g (i := 2361) (by decide +kernel) rfl
theorem tk_RX11_404 : Cond.methodLink RX11 404 yX11_left ∈ tq_G := tq_g (i := 2373) (by decide +kernel) rfl
theorem tk_y_X11_left : tq_yok yX11_left cX11_left 5 (some .int) 2 := ⟨tq_g (i := 2376) (by decide +kernel) rfl, tq_g (i := 133) (by decide +kernel) rfl, ⟨by decide +kernel, by decide +kernel⟩, by decide +kernel, by decide⟩
theorem tk_v_X11_left : tq_vok yX11_left := ⟨tq_g (i := 2375) (by decide +kernel) rfl, tq_g (i := 108) (by decide +kernel) rfl⟩
theorem tk_y_X11_cameBy : tq_yok yX11_cameBy cX11_cameBy 8 (some .int) 4 := ⟨tq_g (i := 2364) (by decide +kernel) rfl, tq_g (i := 133) (by decide +kernel) rfl, ⟨by decide +kernel, by decide +kernel⟩, by decide +kernel, by decide⟩
theorem tk_v_X11_cameBy : tq_vok yX11_cameBy := ⟨tq_g (i := 2363) (by decide +kernel) rfl, tq_g (i := 105) (by decide +kernel) rfl⟩
theorem tk_y_X11_allTypes : tq_yok yX11_allTypes cX11_allTypes 3 (some .int) 0 := ⟨tq_g (i := 2356) (by decide +kernel) rfl, tq_g (i := 133) (by decide +kernel) rfl, ⟨by decide +kernel, by decide +kernel⟩, by decide +kernel, by decide⟩
theorem tk_v_X11_allTypes : tq_vok yX11_allTypes := ⟨tq_g (i := 2355) (by decide +kernel) rfl, tq_g (i := 103) (by decide +kernel) rfl⟩
theorem tk_RX11_407 : Cond.methodLink RX11 407 yX11_isNear ∈ tq_G := tq_g (i := 2389) (by decide +kernel) rfl
theorem tk_y_X11_isNear : tq_yok yX11_isNear cX11_isNear 4 (some .boolean) 1 := ⟨tq_g (i := 2392) (by decide +kernel) rfl, tq_g (i := 133) (by decide +kernel) rfl, ⟨by decide +kernel, by decide +kernel⟩, by decide +kernel, by decide⟩
theorem tk_v_X11_isNear : tq_vok yX11_isNear := ⟨tq_g (i := 2391) (by decide +kernel) rfl, tq_g (i := 110) (by decide +kernel) rfl⟩
theorem tk_kb_15 : (Int8.ofInt (15)).toInt32 = (15 : Int32) := by decide +kernel
theorem tk_RX11_410 : Cond.methodLink RX11 410 yX11_isStreamed ∈ tq_G := tq_g (i := 2385) (by decide +kernel) rfl
theorem tk_y_X11_isStreamed : tq_yok yX11_isStreamed cX11_isStreamed 7 (some .boolean) 1 := ⟨tq_g (i := 2388) (by decide +kernel) rfl, tq_g (i := 133) (by decide +kernel) rfl, ⟨by decide +kernel, by decide +kernel⟩, by decide +kernel, by decide⟩
theorem tk_v_X11_isStreamed : tq_vok yX11_isStreamed := ⟨tq_g (i := 2387) (by decide +kernel) rfl, tq_g (i := 109) (by decide +kernel) rfl⟩
theorem tk_RX11_413 : Cond.methodLink RX11 413 yX11_textsBelow ∈ tq_G := tq_g (i := 2409) (by decide +kernel) rfl
theorem tk_y_X11_textsBelow : tq_yok yX11_textsBelow cX11_textsBelow 6 (some .int) 2 := ⟨tq_g (i := 2412) (by decide +kernel) rfl, tq_g (i := 133) (by decide +kernel) rfl, ⟨by decide +kernel, by decide +kernel⟩, by decide +kernel, by decide⟩
theorem tk_v_X11_textsBelow : tq_vok yX11_textsBelow := ⟨tq_g (i := 2411) (by decide +kernel) rfl, tq_g (i := 111) (by decide +kernel) rfl⟩
theorem tk_RX11_416 : Cond.fieldLink RX11 416 RX11 (TX11 49).2.1 (TX11 49).2.2.1 ∈ tq_G := tq_g (i := 1836) (by decide +kernel) rfl
theorem tk_RX11_419 : Cond.methodLink RX11 419 yX11_isVersion ∈ tq_G := tq_g (i := 2421) (by decide +kernel) rfl
theorem tk_RX11_422 : Cond.methodLink RX11 422 yX11_load ∈ tq_G := tq_g (i := 2425) (by decide +kernel) rfl
theorem tk_y_X11_load : tq_yok yX11_load cX11_load 4 none 1 := ⟨tq_g (i := 2428) (by decide +kernel) rfl, tq_g (i := 133) (by decide +kernel) rfl, ⟨by decide +kernel, by decide +kernel⟩, by decide +kernel, by decide⟩
theorem tk_v_X11_load : tq_vok yX11_load := ⟨tq_g (i := 2427) (by decide +kernel) rfl, tq_g (i := 113) (by decide +kernel) rfl⟩
theorem tk_y_X11_isVersion : tq_yok yX11_isVersion cX11_isVersion 2 (some .boolean) 1 := ⟨tq_g (i := 2424) (by decide +kernel) rfl, tq_g (i := 133) (by decide +kernel) rfl, ⟨by decide +kernel, by decide +kernel⟩, by decide +kernel, by decide⟩
theorem tk_v_X11_isVersion : tq_vok yX11_isVersion := ⟨tq_g (i := 2423) (by decide +kernel) rfl, tq_g (i := 112) (by decide +kernel) rfl⟩
theorem tk_RX11_426 : Cond.methodLink RX11 426 yX11_isAlike ∈ tq_G := tq_g (i := 2445) (by decide +kernel) rfl
theorem tk_y_X11_isAlike : tq_yok yX11_isAlike cX11_isAlike 7 (some .boolean) 4 := ⟨tq_g (i := 2448) (by decide +kernel) rfl, tq_g (i := 133) (by decide +kernel) rfl, ⟨by decide +kernel, by decide +kernel⟩, by decide +kernel, by decide⟩
theorem tk_v_X11_isAlike : tq_vok yX11_isAlike := ⟨tq_g (i := 2447) (by decide +kernel) rfl, tq_g (i := 117) (by decide +kernel) rfl⟩
theorem tk_RX11_429 : Cond.methodLink RX11 429 yX11_least ∈ tq_G := tq_g (i := 2449) (by decide +kernel) rfl
theorem tk_y_X11_least : tq_yok yX11_least cX11_least 4 (some .int) 3 := ⟨tq_g (i := 2451) (by decide +kernel) rfl, tq_g (i := 133) (by decide +kernel) rfl, ⟨by decide +kernel, by decide +kernel⟩, by decide +kernel, by decide⟩
theorem tk_s_X11_least : Cond.static yX11_least ∈ tq_G := tq_g (i := 2450) (by decide +kernel) rfl
theorem tk_RX11_433 : Cond.methodLink RX11 433 yX11_layOut ∈ tq_G := tq_g (i := 2433) (by decide +kernel) rfl
theorem tk_RX11_436 : Cond.methodLink RX11 436 yX11_isKey ∈ tq_G := tq_g (i := 2437) (by decide +kernel) rfl
theorem tk_RX11_439 : Cond.methodLink RX11 439 yX11_compareAt ∈ tq_G := tq_g (i := 2441) (by decide +kernel) rfl
theorem tk_y_X11_compareAt : tq_yok yX11_compareAt cX11_compareAt 13 none 4 := ⟨tq_g (i := 2444) (by decide +kernel) rfl, tq_g (i := 133) (by decide +kernel) rfl, ⟨by decide +kernel, by decide +kernel⟩, by decide +kernel, by decide⟩
theorem tk_v_X11_compareAt : tq_vok yX11_compareAt := ⟨tq_g (i := 2443) (by decide +kernel) rfl, tq_g (i := 116) (by decide +kernel) rfl⟩
theorem tk_y_X11_isKey : tq_yok yX11_isKey cX11_isKey 5 (some .boolean) 2 := ⟨tq_g (i := 2440) (by decide +kernel) rfl, tq_g (i := 133) (by decide +kernel) rfl, ⟨by decide +kernel, by decide +kernel⟩, by decide +kernel, by decide⟩
theorem tk_v_X11_isKey : tq_vok yX11_isKey := ⟨tq_g (i := 2439) (by decide +kernel) rfl, tq_g (i := 115) (by decide +kernel) rfl⟩
theorem tk_y_X11_layOut : tq_yok yX11_layOut cX11_layOut 7 none 2 := ⟨tq_g (i := 2436) (by decide +kernel) rfl, tq_g (i := 133) (by decide +kernel) rfl, ⟨by decide +kernel, by decide +kernel⟩, by decide +kernel, by decide⟩
theorem tk_v_X11_layOut : tq_vok yX11_layOut := ⟨tq_g (i := 2435) (by decide +kernel) rfl, tq_g (i := 114) (by decide +kernel) rfl⟩
theorem tk_RX11_443 : Cond.methodLink RX11 443 yX11_differ ∈ tq_G := tq_g (i := 2456) (by decide +kernel) rfl
theorem tk_y_X11_differ : tq_yok yX11_differ cX11_differ 4 (some .boolean) 2 := ⟨tq_g (i := 2459) (by decide +kernel) rfl, tq_g (i := 133) (by decide +kernel) rfl, ⟨by decide +kernel, by decide +kernel⟩, by decide +kernel, by decide⟩
theorem tk_v_X11_differ : tq_vok yX11_differ := ⟨tq_g (i := 2458) (by decide +kernel) rfl, tq_g (i := 118) (by decide +kernel) rfl⟩
abbrev mX11_isType : tq_M := (RX11, cX11_isType, 1, (some .boolean), false, [], none)
def f_X11_isType (a0 : Int32) (h : tq_H) : Option (Int32) :=
  (f_X11_in a0 (0 : Int32) (5 : Int32) h).bind fun v1 =>
  (tq_bz v1).bind fun z2 =>
  some z2
set_option maxHeartbeats 4000000 in
set_option maxRecDepth 20000 in
theorem w_X11_isType {l : Launch} {d : Nat} (hd9 : 1 ≤ d) {a0 : Int32} {h : tq_H} {o : Int32} {Q : tq_R → tq_H → Prop} (hf : f_X11_isType a0 h = some o) (hQ : ∀ r h9, r = .inl (some (.int o)) ∧ h = h9 → Q r h9) : tq_C l yX11_isType cX11_isType 1 (some .boolean) d 0 0 [.int a0] h Q := by
  refine tq_body (y := yX11_isType) false (by decide +kernel) (fun z => by cases z) (Nat.le_of_ble_eq_true rfl) ?_
  show tq_W l mX11_isType d 0 0 Q 0 [(0, .int a0)] [] h
  refine tq_iload_n (M := mX11_isType) (pc := 0) dX11_isType_0 rfl ?_
  refine tq_iconst (M := mX11_isType) (pc := 1) dX11_isType_1 tk_ki_0 ?_
  refine tq_iconst (M := mX11_isType) (pc := 2) dX11_isType_2 tk_ki_5 ?_
  obtain ⟨v1, ev1, hf⟩ := tq_be hf
  refine tq_calS (M := mX11_isType) (pc := 3) (S := []) tk_y_X11_in tk_s_X11_in tk_RX11_169 dX11_isType_3 [.int a0, .int (0 : Int32), .int (5 : Int32)] rfl (Nat.le_of_ble_eq_true rfl) (d1 := d - 1) (b1 := 0) (s1 := 0) (bc' := 0) (bs' := 0) (Q1 := fun r h9 => r = .inl (some (.int v1)) ∧ h = h9) (by omega) rfl rfl (w_X11_in (by omega) ev1 (fun _ _ q => q)) (fun E h9 q => nomatch (show (Sum.inr E : tq_R) = Sum.inl _ from q.1)) (fun r9 h9 q => ?_)
  obtain ⟨q1, rfl⟩ := q
  cases (show (Sum.inl r9 : tq_R) = Sum.inl (some (.int v1)) from q1)
  obtain ⟨z2, ez2, hf⟩ := tq_be hf
  refine tq_zretB (M := mX11_isType) (pc := 6) dX11_isType_6 rfl ez2 ?_
  cases (Option.some.inj hf)
  exact hQ _ _ ⟨rfl, rfl⟩
abbrev mX11_isState : tq_M := (RX11, cX11_isState, 1, (some .boolean), false, [], none)
def f_X11_isState (a0 : Int32) (h : tq_H) : Option (Int32) :=
  (f_X11_in a0 (0 : Int32) (3 : Int32) h).bind fun v1 =>
  (tq_bz v1).bind fun z2 =>
  some z2
set_option maxHeartbeats 4000000 in
set_option maxRecDepth 20000 in
theorem w_X11_isState {l : Launch} {d : Nat} (hd9 : 1 ≤ d) {a0 : Int32} {h : tq_H} {o : Int32} {Q : tq_R → tq_H → Prop} (hf : f_X11_isState a0 h = some o) (hQ : ∀ r h9, r = .inl (some (.int o)) ∧ h = h9 → Q r h9) : tq_C l yX11_isState cX11_isState 1 (some .boolean) d 0 0 [.int a0] h Q := by
  refine tq_body (y := yX11_isState) false (by decide +kernel) (fun z => by cases z) (Nat.le_of_ble_eq_true rfl) ?_
  show tq_W l mX11_isState d 0 0 Q 0 [(0, .int a0)] [] h
  refine tq_iload_n (M := mX11_isState) (pc := 0) dX11_isState_0 rfl ?_
  refine tq_iconst (M := mX11_isState) (pc := 1) dX11_isState_1 tk_ki_0 ?_
  refine tq_iconst (M := mX11_isState) (pc := 2) dX11_isState_2 tk_ki_3 ?_
  obtain ⟨v1, ev1, hf⟩ := tq_be hf
  refine tq_calS (M := mX11_isState) (pc := 3) (S := []) tk_y_X11_in tk_s_X11_in tk_RX11_169 dX11_isState_3 [.int a0, .int (0 : Int32), .int (3 : Int32)] rfl (Nat.le_of_ble_eq_true rfl) (d1 := d - 1) (b1 := 0) (s1 := 0) (bc' := 0) (bs' := 0) (Q1 := fun r h9 => r = .inl (some (.int v1)) ∧ h = h9) (by omega) rfl rfl (w_X11_in (by omega) ev1 (fun _ _ q => q)) (fun E h9 q => nomatch (show (Sum.inr E : tq_R) = Sum.inl _ from q.1)) (fun r9 h9 q => ?_)
  obtain ⟨q1, rfl⟩ := q
  cases (show (Sum.inl r9 : tq_R) = Sum.inl (some (.int v1)) from q1)
  obtain ⟨z2, ez2, hf⟩ := tq_be hf
  refine tq_zretB (M := mX11_isState) (pc := 6) dX11_isState_6 rfl ez2 ?_
  cases (Option.some.inj hf)
  exact hQ _ _ ⟨rfl, rfl⟩
abbrev mX11_nameType : tq_M := (RX11, cX11_nameType, 4, (some .int), false, [], none)
def f_X11_nameType (t : Nat) (a1 : Int32) (a2 : Int32) (h : tq_H) : Option (Int32 × tq_H) :=
  (f_X11_isType a1 h).bind fun v1 =>
  (if v1 = 0 then
    some (1 : Int32)
  else
    (f_X11_in a2 (-1 : Int32) (7 : Int32) h).bind fun v2 =>
    if v2 = 0 then
      some (2 : Int32)
    else
      (tq_gi h t 11 42).bind fun x3 =>
      if x3 = 0 then
        some (0 : Int32)
      else
        some (3 : Int32)).bind fun p4 =>
  (tq_is h t 11).bind fun _ =>
  (f_X11_refused t p4 h).bind fun v5 =>
  if v5.1 = 0 then
    (tq_gr v5.2 t 11 36).bind fun k7 =>
    (tq_ai v5.2 k7 a1).bind fun x8 =>
    (tq_gr v5.2 t 11 36).bind fun k9 =>
    (tq_si v5.2 k9 a1 a2).bind fun w10 =>
    some (x8, w10)
  else
    some ((0 : Int32), v5.2)
set_option maxHeartbeats 4000000 in
set_option maxRecDepth 20000 in
theorem w_X11_nameType {l : Launch} {d : Nat} (hd9 : 2 ≤ d) {t : Nat} {a1 : Int32} {a2 : Int32} {h : tq_H} {o : Int32 × tq_H} {Q : tq_R → tq_H → Prop} (hf : f_X11_nameType t a1 a2 h = some o) (hQ : ∀ r h9, r = .inl (some (.int o.1)) ∧ o.2 = h9 → Q r h9) : tq_C l yX11_nameType cX11_nameType 4 (some .int) d 0 0 [.ref t, .int a1, .int a2] h Q := by
  refine tq_body (y := yX11_nameType) false (by decide +kernel) (fun z => by cases z) (Nat.le_of_ble_eq_true rfl) ?_
  show tq_W l mX11_nameType d 0 0 Q 0 [(0, .ref t), (1, .int a1), (2, .int a2)] [] h
  refine tq_aload_n (M := mX11_nameType) (pc := 0) dX11_nameType_0 rfl ?_
  refine tq_iload_n (M := mX11_nameType) (pc := 1) dX11_nameType_1 rfl ?_
  obtain ⟨v1, ev1, hf⟩ := tq_be hf
  refine tq_calS (M := mX11_nameType) (pc := 2) (S := [.ref t]) tk_y_X11_isType tk_s_X11_isType tk_RX11_376 dX11_nameType_2 [.int a1] rfl (Nat.le_of_ble_eq_true rfl) (d1 := d - 1) (b1 := 0) (s1 := 0) (bc' := 0) (bs' := 0) (Q1 := fun r h9 => r = .inl (some (.int v1)) ∧ h = h9) (by omega) rfl rfl (w_X11_isType (by omega) ev1 (fun _ _ q => q)) (fun E h9 q => nomatch (show (Sum.inr E : tq_R) = Sum.inl _ from q.1)) (fun r9 h9 q => ?_)
  obtain ⟨q1, rfl⟩ := q
  cases (show (Sum.inl r9 : tq_R) = Sum.inl (some (.int v1)) from q1)
  obtain ⟨p4, ep4, hf⟩ := tq_be hf
  have HJ5 : tq_W l mX11_nameType d 0 0 Q 38 [(0, .ref t), (1, .int a1), (2, .int a2)] [.int p4, .ref t] h := by
    obtain ⟨⟨⟩, eu6, hf⟩ := tq_be hf
    obtain ⟨fsu6, eu6⟩ := tq_is_s eu6
    obtain ⟨v5, ev5, hf⟩ := tq_be hf
    refine tq_calV (M := mX11_nameType) (pc := 38) (S := []) tk_y_X11_refused tk_v_X11_refused tk_RX11_204 dX11_nameType_38 [.int p4] rfl (S0 := _) rfl eu6 rfl (Nat.le_of_ble_eq_true rfl) (d1 := d - 1) (b1 := 0) (s1 := 0) (bc' := 0) (bs' := 0) (Q1 := fun r h9 => r = .inl (some (.int v5.1)) ∧ v5.2 = h9) (by omega) rfl rfl (w_X11_refused (by omega) ev5 (fun _ _ q => q)) (fun E h9 q => nomatch (show (Sum.inr E : tq_R) = Sum.inl _ from q.1)) (fun r9 h9 q => ?_)
    obtain ⟨q1, rfl⟩ := q
    cases (show (Sum.inl r9 : tq_R) = Sum.inl (some (.int v5.1)) from q1)
    refine tq_if_eq (M := mX11_nameType) (pc := 41) (tgt := 46) dX11_nameType_41 (by decide) (fun cc => ?_) (fun cc => ?_)
    · have hf := tq_ifp hf cc
      refine tq_aload_n (M := mX11_nameType) (pc := 46) dX11_nameType_46 rfl ?_
      obtain ⟨k7, ek7, hf⟩ := tq_be hf
      refine tq_getR (M := mX11_nameType) (pc := 47) tk_c11 (by decide) dX11_nameType_47 tk_RX11_93 rfl ek7 ?_
      refine tq_iload_n (M := mX11_nameType) (pc := 50) dX11_nameType_50 rfl ?_
      obtain ⟨x8, ex8, hf⟩ := tq_be hf
      refine tq_ialdF (M := mX11_nameType) (pc := 51) dX11_nameType_51 ex8 ?_
      refine tq_istore_n (M := mX11_nameType) (pc := 52) rfl dX11_nameType_52 (L2 := [(3, .int x8), (0, .ref t), (1, .int a1), (2, .int a2)]) (by decide) rfl ?_
      refine tq_aload_n (M := mX11_nameType) (pc := 53) dX11_nameType_53 rfl ?_
      obtain ⟨k9, ek9, hf⟩ := tq_be hf
      refine tq_getR (M := mX11_nameType) (pc := 54) tk_c11 (by decide) dX11_nameType_54 tk_RX11_93 rfl ek9 ?_
      refine tq_iload_n (M := mX11_nameType) (pc := 57) dX11_nameType_57 rfl ?_
      refine tq_iload_n (M := mX11_nameType) (pc := 58) dX11_nameType_58 rfl ?_
      obtain ⟨w10, ew10, hf⟩ := tq_be hf
      refine tq_iastF (M := mX11_nameType) (pc := 59) dX11_nameType_59 ew10 ?_
      refine tq_iload_n (M := mX11_nameType) (pc := 60) dX11_nameType_60 rfl ?_
      refine tq_iret (M := mX11_nameType) (pc := 61) dX11_nameType_61 rfl ?_
      cases (Option.some.inj hf)
      exact hQ _ _ ⟨rfl, rfl⟩
    · have hf := tq_ifn hf cc
      refine tq_iconst (M := mX11_nameType) (pc := 44) dX11_nameType_44 tk_ki_0 ?_
      refine tq_iret (M := mX11_nameType) (pc := 45) dX11_nameType_45 rfl ?_
      cases (Option.some.inj hf)
      exact hQ _ _ ⟨rfl, rfl⟩
  refine tq_if_ne (M := mX11_nameType) (pc := 5) (tgt := 12) dX11_nameType_5 (by decide) (fun cc => ?_) (fun cc => ?_)
  · have hf := tq_ifn ep4 cc
    refine tq_iload_n (M := mX11_nameType) (pc := 12) dX11_nameType_12 rfl ?_
    refine tq_iconst (M := mX11_nameType) (pc := 13) dX11_nameType_13 tk_ki_m1 ?_
    refine tq_bipush (M := mX11_nameType) (pc := 14) dX11_nameType_14 tk_kb_7 ?_
    obtain ⟨v2, ev2, hf⟩ := tq_be hf
    refine tq_calS (M := mX11_nameType) (pc := 16) (S := [.ref t]) tk_y_X11_in tk_s_X11_in tk_RX11_169 dX11_nameType_16 [.int a2, .int (-1 : Int32), .int (7 : Int32)] rfl (Nat.le_of_ble_eq_true rfl) (d1 := d - 1) (b1 := 0) (s1 := 0) (bc' := 0) (bs' := 0) (Q1 := fun r h9 => r = .inl (some (.int v2)) ∧ h = h9) (by omega) rfl rfl (w_X11_in (by omega) ev2 (fun _ _ q => q)) (fun E h9 q => nomatch (show (Sum.inr E : tq_R) = Sum.inl _ from q.1)) (fun r9 h9 q => ?_)
    obtain ⟨q1, rfl⟩ := q
    cases (show (Sum.inl r9 : tq_R) = Sum.inl (some (.int v2)) from q1)
    refine tq_if_ne (M := mX11_nameType) (pc := 19) (tgt := 26) dX11_nameType_19 (by decide) (fun cc => ?_) (fun cc => ?_)
    · have hf := tq_ifn hf cc
      refine tq_aload_n (M := mX11_nameType) (pc := 26) dX11_nameType_26 rfl ?_
      obtain ⟨x3, ex3, hf⟩ := tq_be hf
      refine tq_getI (M := mX11_nameType) (pc := 27) tk_c11 (by decide) dX11_nameType_27 tk_RX11_244 rfl ex3 ?_
      refine tq_if_eq (M := mX11_nameType) (pc := 30) (tgt := 37) dX11_nameType_30 (by decide) (fun cc => ?_) (fun cc => ?_)
      · have hf := tq_ifp hf cc
        refine tq_iconst (M := mX11_nameType) (pc := 37) dX11_nameType_37 tk_ki_0 ?_
        cases (Option.some.inj hf)
        exact HJ5
      · have hf := tq_ifn hf cc
        refine tq_iconst (M := mX11_nameType) (pc := 33) dX11_nameType_33 tk_ki_3 ?_
        refine tq_goto (M := mX11_nameType) (pc := 34) (tgt := 38) dX11_nameType_34 (by decide) ?_
        cases (Option.some.inj hf)
        exact HJ5
    · have hf := tq_ifp hf cc
      refine tq_iconst (M := mX11_nameType) (pc := 22) dX11_nameType_22 tk_ki_2 ?_
      refine tq_goto (M := mX11_nameType) (pc := 23) (tgt := 38) dX11_nameType_23 (by decide) ?_
      cases (Option.some.inj hf)
      exact HJ5
  · have hf := tq_ifp ep4 cc
    refine tq_iconst (M := mX11_nameType) (pc := 8) dX11_nameType_8 tk_ki_1 ?_
    refine tq_goto (M := mX11_nameType) (pc := 9) (tgt := 38) dX11_nameType_9 (by decide) ?_
    cases (Option.some.inj hf)
    exact HJ5
abbrev mX11_arc : tq_M := (RX11, cX11_arc, 7, (some .boolean), false, [], none)
def f_X11_arc (t : Nat) (a1 : Int32) (a2 : Int32) (a3 : Int32) (a4 : Int32) (h : tq_H) : Option (Int32 × tq_H) :=
  (f_X11_isType a1 h).bind fun v1 =>
  (if v1 = 0 then
    some (0 : Int32)
  else
    (f_X11_isState a2 h).bind fun v2 =>
    if v2 = 0 then
      some (0 : Int32)
    else
      (f_X11_isType a3 h).bind fun v3 =>
      if v3 = 0 then
        some (0 : Int32)
      else
        (f_X11_isState a4 h).bind fun v4 =>
        if v4 = 0 then
          some (0 : Int32)
        else
          some (1 : Int32)).bind fun p5 =>
  (if p5 = 0 then
    some (1 : Int32)
  else
    (tq_gi h t 11 42).bind fun x6 =>
    if x6 = 0 then
      some (0 : Int32)
    else
      some (2 : Int32)).bind fun p7 =>
  (tq_is h t 11).bind fun _ =>
  (f_X11_refused t p7 h).bind fun v8 =>
  if v8.1 = 0 then
    tq_let (((((24 : Int32) * a1) + ((6 : Int32) * a2)) + a3)) fun x10 =>
    (tq_gr v8.2 t 11 40).bind fun k11 =>
    (tq_ai v8.2 k11 x10).bind fun x12 =>
    (tq_si v8.2 k11 x10 (x12 ^^^ ((1 : Int32) <<< (a4 &&& 31)))).bind fun w13 =>
    (tq_gr w13 t 11 40).bind fun k14 =>
    (tq_ai w13 k14 x10).bind fun x15 =>
    tq_let (if ((x15 >>> (a4 &&& 31)) &&& (1 : Int32)) = (1 : Int32) then (1 : Int32) else (0 : Int32)) fun p16 =>
    (tq_bz p16).bind fun z17 =>
    some (z17, w13)
  else
    some ((0 : Int32), v8.2)
set_option maxHeartbeats 4000000 in
set_option maxRecDepth 20000 in
theorem w_X11_arc {l : Launch} {d : Nat} (hd9 : 2 ≤ d) {t : Nat} {a1 : Int32} {a2 : Int32} {a3 : Int32} {a4 : Int32} {h : tq_H} {o : Int32 × tq_H} {Q : tq_R → tq_H → Prop} (hf : f_X11_arc t a1 a2 a3 a4 h = some o) (hQ : ∀ r h9, r = .inl (some (.int o.1)) ∧ o.2 = h9 → Q r h9) : tq_C l yX11_arc cX11_arc 7 (some .boolean) d 0 0 [.ref t, .int a1, .int a2, .int a3, .int a4] h Q := by
  refine tq_body (y := yX11_arc) false (by decide +kernel) (fun z => by cases z) (Nat.le_of_ble_eq_true rfl) ?_
  show tq_W l mX11_arc d 0 0 Q 0 [(0, .ref t), (1, .int a1), (2, .int a2), (3, .int a3), (4, .int a4)] [] h
  refine tq_iload_n (M := mX11_arc) (pc := 0) dX11_arc_0 rfl ?_
  obtain ⟨v1, ev1, hf⟩ := tq_be hf
  refine tq_calS (M := mX11_arc) (pc := 1) (S := []) tk_y_X11_isType tk_s_X11_isType tk_RX11_376 dX11_arc_1 [.int a1] rfl (Nat.le_of_ble_eq_true rfl) (d1 := d - 1) (b1 := 0) (s1 := 0) (bc' := 0) (bs' := 0) (Q1 := fun r h9 => r = .inl (some (.int v1)) ∧ h = h9) (by omega) rfl rfl (w_X11_isType (by omega) ev1 (fun _ _ q => q)) (fun E h9 q => nomatch (show (Sum.inr E : tq_R) = Sum.inl _ from q.1)) (fun r9 h9 q => ?_)
  obtain ⟨q1, rfl⟩ := q
  cases (show (Sum.inl r9 : tq_R) = Sum.inl (some (.int v1)) from q1)
  obtain ⟨p5, ep5, hf⟩ := tq_be hf
  have HJ4 : tq_W l mX11_arc d 0 0 Q 34 [(0, .ref t), (1, .int a1), (2, .int a2), (3, .int a3), (4, .int a4)] [.int p5] h := by
    refine tq_istore (M := mX11_arc) (pc := 34) dX11_arc_34 (L2 := [(5, .int p5), (0, .ref t), (1, .int a1), (2, .int a2), (3, .int a3), (4, .int a4)]) (by decide) rfl ?_
    refine tq_aload_n (M := mX11_arc) (pc := 36) dX11_arc_36 rfl ?_
    refine tq_iload (M := mX11_arc) (pc := 37) dX11_arc_37 rfl ?_
    obtain ⟨p7, ep7, hf⟩ := tq_be hf
    have HJ39 : tq_W l mX11_arc d 0 0 Q 58 [(0, .ref t), (1, .int a1), (2, .int a2), (3, .int a3), (4, .int a4)] [.int p7, .ref t] h := by
      obtain ⟨⟨⟩, eu9, hf⟩ := tq_be hf
      obtain ⟨fsu9, eu9⟩ := tq_is_s eu9
      obtain ⟨v8, ev8, hf⟩ := tq_be hf
      refine tq_calV (M := mX11_arc) (pc := 58) (S := []) tk_y_X11_refused tk_v_X11_refused tk_RX11_204 dX11_arc_58 [.int p7] rfl (S0 := _) rfl eu9 rfl (Nat.le_of_ble_eq_true rfl) (d1 := d - 1) (b1 := 0) (s1 := 0) (bc' := 0) (bs' := 0) (Q1 := fun r h9 => r = .inl (some (.int v8.1)) ∧ v8.2 = h9) (by omega) rfl rfl (w_X11_refused (by omega) ev8 (fun _ _ q => q)) (fun E h9 q => nomatch (show (Sum.inr E : tq_R) = Sum.inl _ from q.1)) (fun r9 h9 q => ?_)
      obtain ⟨q1, rfl⟩ := q
      cases (show (Sum.inl r9 : tq_R) = Sum.inl (some (.int v8.1)) from q1)
      refine tq_if_eq (M := mX11_arc) (pc := 61) (tgt := 66) dX11_arc_61 (by decide) (fun cc => ?_) (fun cc => ?_)
      · have hf := tq_ifp hf cc
        refine tq_bipush (M := mX11_arc) (pc := 66) dX11_arc_66 tk_kb_24 ?_
        refine tq_iload_n (M := mX11_arc) (pc := 68) dX11_arc_68 rfl ?_
        refine tq_imul (M := mX11_arc) (pc := 69) dX11_arc_69 ?_
        refine tq_bipush (M := mX11_arc) (pc := 70) dX11_arc_70 tk_kb_6 ?_
        refine tq_iload_n (M := mX11_arc) (pc := 72) dX11_arc_72 rfl ?_
        refine tq_imul (M := mX11_arc) (pc := 73) dX11_arc_73 ?_
        refine tq_iadd (M := mX11_arc) (pc := 74) dX11_arc_74 ?_
        refine tq_iload_n (M := mX11_arc) (pc := 75) dX11_arc_75 rfl ?_
        refine tq_iadd (M := mX11_arc) (pc := 76) dX11_arc_76 ?_
        obtain ⟨x10, ex10, hf⟩ := tq_le hf
        refine tq_istore (M := mX11_arc) (pc := 77) dX11_arc_77 (L2 := [(6, .int x10), (0, .ref t), (1, .int a1), (2, .int a2), (3, .int a3), (4, .int a4)]) (by decide) (by rw [ex10]; rfl) ?_
        refine tq_aload_n (M := mX11_arc) (pc := 79) dX11_arc_79 rfl ?_
        obtain ⟨k11, ek11, hf⟩ := tq_be hf
        refine tq_getR (M := mX11_arc) (pc := 80) tk_c11 (by decide) dX11_arc_80 tk_RX11_105 rfl ek11 ?_
        refine tq_iload (M := mX11_arc) (pc := 83) dX11_arc_83 rfl ?_
        refine tq_dup2 (M := mX11_arc) (pc := 85) dX11_arc_85 rfl rfl ?_
        obtain ⟨x12, ex12, hf⟩ := tq_be hf
        refine tq_ialdF (M := mX11_arc) (pc := 86) dX11_arc_86 ex12 ?_
        refine tq_iconst (M := mX11_arc) (pc := 87) dX11_arc_87 tk_ki_1 ?_
        refine tq_iload (M := mX11_arc) (pc := 88) dX11_arc_88 rfl ?_
        refine tq_ishl (M := mX11_arc) (pc := 90) dX11_arc_90 ?_
        refine tq_ixor (M := mX11_arc) (pc := 91) dX11_arc_91 ?_
        obtain ⟨w13, ew13, hf⟩ := tq_be hf
        refine tq_iastF (M := mX11_arc) (pc := 92) dX11_arc_92 ew13 ?_
        refine tq_aload_n (M := mX11_arc) (pc := 93) dX11_arc_93 rfl ?_
        obtain ⟨k14, ek14, hf⟩ := tq_be hf
        refine tq_getR (M := mX11_arc) (pc := 94) tk_c11 (by decide) dX11_arc_94 tk_RX11_105 rfl ek14 ?_
        refine tq_iload (M := mX11_arc) (pc := 97) dX11_arc_97 rfl ?_
        obtain ⟨x15, ex15, hf⟩ := tq_be hf
        refine tq_ialdF (M := mX11_arc) (pc := 99) dX11_arc_99 ex15 ?_
        refine tq_iload (M := mX11_arc) (pc := 100) dX11_arc_100 rfl ?_
        refine tq_ishr (M := mX11_arc) (pc := 102) dX11_arc_102 ?_
        refine tq_iconst (M := mX11_arc) (pc := 103) dX11_arc_103 tk_ki_1 ?_
        refine tq_iand (M := mX11_arc) (pc := 104) dX11_arc_104 ?_
        refine tq_iconst (M := mX11_arc) (pc := 105) dX11_arc_105 tk_ki_1 ?_
        obtain ⟨p16, ep16, hf⟩ := tq_le hf
        have HJ106 : tq_W l mX11_arc d 0 0 Q 114 [] [.int p16] w13 := by
          obtain ⟨z17, ez17, hf⟩ := tq_be hf
          refine tq_zretB (M := mX11_arc) (pc := 114) dX11_arc_114 rfl ez17 ?_
          cases (Option.some.inj hf)
          exact hQ _ _ ⟨rfl, rfl⟩
        refine tq_icmp_ne (M := mX11_arc) (pc := 106) (tgt := 113) dX11_arc_106 (by decide) (fun cc => ?_) (fun cc => ?_)
        · have hf := tq_ifn ep16.symm cc
          refine tq_iconst (M := mX11_arc) (pc := 113) dX11_arc_113 tk_ki_0 ?_
          refine tq_pick (L2 := []) [] rfl ?_
          cases hf
          exact HJ106
        · have hf := tq_ifp ep16.symm cc
          refine tq_iconst (M := mX11_arc) (pc := 109) dX11_arc_109 tk_ki_1 ?_
          refine tq_goto (M := mX11_arc) (pc := 110) (tgt := 114) dX11_arc_110 (by decide) ?_
          refine tq_pick (L2 := []) [] rfl ?_
          cases hf
          exact HJ106
      · have hf := tq_ifn hf cc
        refine tq_iconst (M := mX11_arc) (pc := 64) dX11_arc_64 tk_ki_0 ?_
        refine tq_zret (M := mX11_arc) (pc := 65) dX11_arc_65 rfl (Or.inl rfl) ?_
        cases (Option.some.inj hf)
        exact hQ _ _ ⟨rfl, rfl⟩
    refine tq_if_ne (M := mX11_arc) (pc := 39) (tgt := 46) dX11_arc_39 (by decide) (fun cc => ?_) (fun cc => ?_)
    · have hf := tq_ifn ep7 cc
      refine tq_aload_n (M := mX11_arc) (pc := 46) dX11_arc_46 rfl ?_
      obtain ⟨x6, ex6, hf⟩ := tq_be hf
      refine tq_getI (M := mX11_arc) (pc := 47) tk_c11 (by decide) dX11_arc_47 tk_RX11_244 rfl ex6 ?_
      refine tq_if_eq (M := mX11_arc) (pc := 50) (tgt := 57) dX11_arc_50 (by decide) (fun cc => ?_) (fun cc => ?_)
      · have hf := tq_ifp hf cc
        refine tq_iconst (M := mX11_arc) (pc := 57) dX11_arc_57 tk_ki_0 ?_
        refine tq_pick (L2 := [(0, .ref t), (1, .int a1), (2, .int a2), (3, .int a3), (4, .int a4)]) [1, 2, 3, 4, 5] rfl ?_
        cases (Option.some.inj hf)
        exact HJ39
      · have hf := tq_ifn hf cc
        refine tq_iconst (M := mX11_arc) (pc := 53) dX11_arc_53 tk_ki_2 ?_
        refine tq_goto (M := mX11_arc) (pc := 54) (tgt := 58) dX11_arc_54 (by decide) ?_
        refine tq_pick (L2 := [(0, .ref t), (1, .int a1), (2, .int a2), (3, .int a3), (4, .int a4)]) [1, 2, 3, 4, 5] rfl ?_
        cases (Option.some.inj hf)
        exact HJ39
    · have hf := tq_ifp ep7 cc
      refine tq_iconst (M := mX11_arc) (pc := 42) dX11_arc_42 tk_ki_1 ?_
      refine tq_goto (M := mX11_arc) (pc := 43) (tgt := 58) dX11_arc_43 (by decide) ?_
      refine tq_pick (L2 := [(0, .ref t), (1, .int a1), (2, .int a2), (3, .int a3), (4, .int a4)]) [1, 2, 3, 4, 5] rfl ?_
      cases (Option.some.inj hf)
      exact HJ39
  refine tq_if_eq (M := mX11_arc) (pc := 4) (tgt := 33) dX11_arc_4 (by decide) (fun cc => ?_) (fun cc => ?_)
  · have hf := tq_ifp ep5 cc
    refine tq_iconst (M := mX11_arc) (pc := 33) dX11_arc_33 tk_ki_0 ?_
    cases (Option.some.inj hf)
    exact HJ4
  · have hf := tq_ifn ep5 cc
    refine tq_iload_n (M := mX11_arc) (pc := 7) dX11_arc_7 rfl ?_
    obtain ⟨v2, ev2, hf⟩ := tq_be hf
    refine tq_calS (M := mX11_arc) (pc := 8) (S := []) tk_y_X11_isState tk_s_X11_isState tk_RX11_379 dX11_arc_8 [.int a2] rfl (Nat.le_of_ble_eq_true rfl) (d1 := d - 1) (b1 := 0) (s1 := 0) (bc' := 0) (bs' := 0) (Q1 := fun r h9 => r = .inl (some (.int v2)) ∧ h = h9) (by omega) rfl rfl (w_X11_isState (by omega) ev2 (fun _ _ q => q)) (fun E h9 q => nomatch (show (Sum.inr E : tq_R) = Sum.inl _ from q.1)) (fun r9 h9 q => ?_)
    obtain ⟨q1, rfl⟩ := q
    cases (show (Sum.inl r9 : tq_R) = Sum.inl (some (.int v2)) from q1)
    refine tq_if_eq (M := mX11_arc) (pc := 11) (tgt := 33) dX11_arc_11 (by decide) (fun cc => ?_) (fun cc => ?_)
    · have hf := tq_ifp hf cc
      refine tq_iconst (M := mX11_arc) (pc := 33) dX11_arc_33 tk_ki_0 ?_
      cases (Option.some.inj hf)
      exact HJ4
    · have hf := tq_ifn hf cc
      refine tq_iload_n (M := mX11_arc) (pc := 14) dX11_arc_14 rfl ?_
      obtain ⟨v3, ev3, hf⟩ := tq_be hf
      refine tq_calS (M := mX11_arc) (pc := 15) (S := []) tk_y_X11_isType tk_s_X11_isType tk_RX11_376 dX11_arc_15 [.int a3] rfl (Nat.le_of_ble_eq_true rfl) (d1 := d - 1) (b1 := 0) (s1 := 0) (bc' := 0) (bs' := 0) (Q1 := fun r h9 => r = .inl (some (.int v3)) ∧ h = h9) (by omega) rfl rfl (w_X11_isType (by omega) ev3 (fun _ _ q => q)) (fun E h9 q => nomatch (show (Sum.inr E : tq_R) = Sum.inl _ from q.1)) (fun r9 h9 q => ?_)
      obtain ⟨q1, rfl⟩ := q
      cases (show (Sum.inl r9 : tq_R) = Sum.inl (some (.int v3)) from q1)
      refine tq_if_eq (M := mX11_arc) (pc := 18) (tgt := 33) dX11_arc_18 (by decide) (fun cc => ?_) (fun cc => ?_)
      · have hf := tq_ifp hf cc
        refine tq_iconst (M := mX11_arc) (pc := 33) dX11_arc_33 tk_ki_0 ?_
        cases (Option.some.inj hf)
        exact HJ4
      · have hf := tq_ifn hf cc
        refine tq_iload (M := mX11_arc) (pc := 21) dX11_arc_21 rfl ?_
        obtain ⟨v4, ev4, hf⟩ := tq_be hf
        refine tq_calS (M := mX11_arc) (pc := 23) (S := []) tk_y_X11_isState tk_s_X11_isState tk_RX11_379 dX11_arc_23 [.int a4] rfl (Nat.le_of_ble_eq_true rfl) (d1 := d - 1) (b1 := 0) (s1 := 0) (bc' := 0) (bs' := 0) (Q1 := fun r h9 => r = .inl (some (.int v4)) ∧ h = h9) (by omega) rfl rfl (w_X11_isState (by omega) ev4 (fun _ _ q => q)) (fun E h9 q => nomatch (show (Sum.inr E : tq_R) = Sum.inl _ from q.1)) (fun r9 h9 q => ?_)
        obtain ⟨q1, rfl⟩ := q
        cases (show (Sum.inl r9 : tq_R) = Sum.inl (some (.int v4)) from q1)
        refine tq_if_eq (M := mX11_arc) (pc := 26) (tgt := 33) dX11_arc_26 (by decide) (fun cc => ?_) (fun cc => ?_)
        · have hf := tq_ifp hf cc
          refine tq_iconst (M := mX11_arc) (pc := 33) dX11_arc_33 tk_ki_0 ?_
          cases (Option.some.inj hf)
          exact HJ4
        · have hf := tq_ifn hf cc
          refine tq_iconst (M := mX11_arc) (pc := 29) dX11_arc_29 tk_ki_1 ?_
          refine tq_goto (M := mX11_arc) (pc := 30) (tgt := 34) dX11_arc_30 (by decide) ?_
          cases (Option.some.inj hf)
          exact HJ4
abbrev mX11_setFinal : tq_M := (RX11, cX11_setFinal, 5, (some .boolean), false, [], none)
def f_X11_setFinal (t : Nat) (a1 : Int32) (a2 : Int32) (a3 : Int32) (h : tq_H) : Option (Int32 × tq_H) :=
  (f_X11_isType a1 h).bind fun v1 =>
  (if v1 = 0 then
    some (1 : Int32)
  else
    (f_X11_isState a2 h).bind fun v2 =>
    if v2 = 0 then
      some (1 : Int32)
    else
      (tq_gi h t 11 42).bind fun x3 =>
      if x3 = 0 then
        some (0 : Int32)
      else
        some (2 : Int32)).bind fun p4 =>
  (tq_is h t 11).bind fun _ =>
  (f_X11_refused t p4 h).bind fun v5 =>
  if v5.1 = 0 then
    (tq_gr v5.2 t 11 39).bind fun k7 =>
    (tq_ai v5.2 k7 a1).bind fun x8 =>
    tq_let (if ((x8 >>> (a2 &&& 31)) &&& (1 : Int32)) = (1 : Int32) then (1 : Int32) else (0 : Int32)) fun p9 =>
    (tq_gr v5.2 t 11 39).bind fun k10 =>
    (if a3 = 0 then
      (tq_gr v5.2 t 11 39).bind fun k11 =>
      (tq_ai v5.2 k11 a1).bind fun x12 =>
      some (x12 &&& (((1 : Int32) <<< (a2 &&& 31)) ^^^ (-1 : Int32)))
    else
      (tq_gr v5.2 t 11 39).bind fun k13 =>
      (tq_ai v5.2 k13 a1).bind fun x14 =>
      some (x14 ||| ((1 : Int32) <<< (a2 &&& 31)))).bind fun p15 =>
    (tq_si v5.2 k10 a1 p15).bind fun w16 =>
    (tq_bz p9).bind fun z17 =>
    some (z17, w16)
  else
    some ((0 : Int32), v5.2)
set_option maxHeartbeats 4000000 in
set_option maxRecDepth 20000 in
theorem w_X11_setFinal {l : Launch} {d : Nat} (hd9 : 2 ≤ d) {t : Nat} {a1 : Int32} {a2 : Int32} {a3 : Int32} {h : tq_H} {o : Int32 × tq_H} {Q : tq_R → tq_H → Prop} (hf : f_X11_setFinal t a1 a2 a3 h = some o) (hQ : ∀ r h9, r = .inl (some (.int o.1)) ∧ o.2 = h9 → Q r h9) : tq_C l yX11_setFinal cX11_setFinal 5 (some .boolean) d 0 0 [.ref t, .int a1, .int a2, .int a3] h Q := by
  refine tq_body (y := yX11_setFinal) false (by decide +kernel) (fun z => by cases z) (Nat.le_of_ble_eq_true rfl) ?_
  show tq_W l mX11_setFinal d 0 0 Q 0 [(0, .ref t), (1, .int a1), (2, .int a2), (3, .int a3)] [] h
  refine tq_aload_n (M := mX11_setFinal) (pc := 0) dX11_setFinal_0 rfl ?_
  refine tq_iload_n (M := mX11_setFinal) (pc := 1) dX11_setFinal_1 rfl ?_
  obtain ⟨v1, ev1, hf⟩ := tq_be hf
  refine tq_calS (M := mX11_setFinal) (pc := 2) (S := [.ref t]) tk_y_X11_isType tk_s_X11_isType tk_RX11_376 dX11_setFinal_2 [.int a1] rfl (Nat.le_of_ble_eq_true rfl) (d1 := d - 1) (b1 := 0) (s1 := 0) (bc' := 0) (bs' := 0) (Q1 := fun r h9 => r = .inl (some (.int v1)) ∧ h = h9) (by omega) rfl rfl (w_X11_isType (by omega) ev1 (fun _ _ q => q)) (fun E h9 q => nomatch (show (Sum.inr E : tq_R) = Sum.inl _ from q.1)) (fun r9 h9 q => ?_)
  obtain ⟨q1, rfl⟩ := q
  cases (show (Sum.inl r9 : tq_R) = Sum.inl (some (.int v1)) from q1)
  obtain ⟨p4, ep4, hf⟩ := tq_be hf
  have HJ5 : tq_W l mX11_setFinal d 0 0 Q 31 [(0, .ref t), (1, .int a1), (2, .int a2), (3, .int a3)] [.int p4, .ref t] h := by
    obtain ⟨⟨⟩, eu6, hf⟩ := tq_be hf
    obtain ⟨fsu6, eu6⟩ := tq_is_s eu6
    obtain ⟨v5, ev5, hf⟩ := tq_be hf
    refine tq_calV (M := mX11_setFinal) (pc := 31) (S := []) tk_y_X11_refused tk_v_X11_refused tk_RX11_204 dX11_setFinal_31 [.int p4] rfl (S0 := _) rfl eu6 rfl (Nat.le_of_ble_eq_true rfl) (d1 := d - 1) (b1 := 0) (s1 := 0) (bc' := 0) (bs' := 0) (Q1 := fun r h9 => r = .inl (some (.int v5.1)) ∧ v5.2 = h9) (by omega) rfl rfl (w_X11_refused (by omega) ev5 (fun _ _ q => q)) (fun E h9 q => nomatch (show (Sum.inr E : tq_R) = Sum.inl _ from q.1)) (fun r9 h9 q => ?_)
    obtain ⟨q1, rfl⟩ := q
    cases (show (Sum.inl r9 : tq_R) = Sum.inl (some (.int v5.1)) from q1)
    refine tq_if_eq (M := mX11_setFinal) (pc := 34) (tgt := 39) dX11_setFinal_34 (by decide) (fun cc => ?_) (fun cc => ?_)
    · have hf := tq_ifp hf cc
      refine tq_aload_n (M := mX11_setFinal) (pc := 39) dX11_setFinal_39 rfl ?_
      obtain ⟨k7, ek7, hf⟩ := tq_be hf
      refine tq_getR (M := mX11_setFinal) (pc := 40) tk_c11 (by decide) dX11_setFinal_40 tk_RX11_102 rfl ek7 ?_
      refine tq_iload_n (M := mX11_setFinal) (pc := 43) dX11_setFinal_43 rfl ?_
      obtain ⟨x8, ex8, hf⟩ := tq_be hf
      refine tq_ialdF (M := mX11_setFinal) (pc := 44) dX11_setFinal_44 ex8 ?_
      refine tq_iload_n (M := mX11_setFinal) (pc := 45) dX11_setFinal_45 rfl ?_
      refine tq_ishr (M := mX11_setFinal) (pc := 46) dX11_setFinal_46 ?_
      refine tq_iconst (M := mX11_setFinal) (pc := 47) dX11_setFinal_47 tk_ki_1 ?_
      refine tq_iand (M := mX11_setFinal) (pc := 48) dX11_setFinal_48 ?_
      refine tq_iconst (M := mX11_setFinal) (pc := 49) dX11_setFinal_49 tk_ki_1 ?_
      obtain ⟨p9, ep9, hf⟩ := tq_le hf
      have HJ50 : tq_W l mX11_setFinal d 0 0 Q 58 [(0, .ref t), (1, .int a1), (2, .int a2), (3, .int a3)] [.int p9] v5.2 := by
        refine tq_istore (M := mX11_setFinal) (pc := 58) dX11_setFinal_58 (L2 := [(4, .int p9), (0, .ref t), (1, .int a1), (2, .int a2), (3, .int a3)]) (by decide) rfl ?_
        refine tq_aload_n (M := mX11_setFinal) (pc := 60) dX11_setFinal_60 rfl ?_
        obtain ⟨k10, ek10, hf⟩ := tq_be hf
        refine tq_getR (M := mX11_setFinal) (pc := 61) tk_c11 (by decide) dX11_setFinal_61 tk_RX11_102 rfl ek10 ?_
        refine tq_iload_n (M := mX11_setFinal) (pc := 64) dX11_setFinal_64 rfl ?_
        refine tq_iload_n (M := mX11_setFinal) (pc := 65) dX11_setFinal_65 rfl ?_
        obtain ⟨p15, ep15, hf⟩ := tq_be hf
        have HJ66 : tq_W l mX11_setFinal d 0 0 Q 94 [(4, .int p9)] [.int p15, .int a1, .ref k10] v5.2 := by
          obtain ⟨w16, ew16, hf⟩ := tq_be hf
          refine tq_iastF (M := mX11_setFinal) (pc := 94) dX11_setFinal_94 ew16 ?_
          refine tq_iload (M := mX11_setFinal) (pc := 95) dX11_setFinal_95 rfl ?_
          obtain ⟨z17, ez17, hf⟩ := tq_be hf
          refine tq_zretB (M := mX11_setFinal) (pc := 97) dX11_setFinal_97 rfl ez17 ?_
          cases (Option.some.inj hf)
          exact hQ _ _ ⟨rfl, rfl⟩
        refine tq_if_eq (M := mX11_setFinal) (pc := 66) (tgt := 82) dX11_setFinal_66 (by decide) (fun cc => ?_) (fun cc => ?_)
        · have hf := tq_ifp ep15 cc
          refine tq_aload_n (M := mX11_setFinal) (pc := 82) dX11_setFinal_82 rfl ?_
          obtain ⟨k11, ek11, hf⟩ := tq_be hf
          refine tq_getR (M := mX11_setFinal) (pc := 83) tk_c11 (by decide) dX11_setFinal_83 tk_RX11_102 rfl ek11 ?_
          refine tq_iload_n (M := mX11_setFinal) (pc := 86) dX11_setFinal_86 rfl ?_
          obtain ⟨x12, ex12, hf⟩ := tq_be hf
          refine tq_ialdF (M := mX11_setFinal) (pc := 87) dX11_setFinal_87 ex12 ?_
          refine tq_iconst (M := mX11_setFinal) (pc := 88) dX11_setFinal_88 tk_ki_1 ?_
          refine tq_iload_n (M := mX11_setFinal) (pc := 89) dX11_setFinal_89 rfl ?_
          refine tq_ishl (M := mX11_setFinal) (pc := 90) dX11_setFinal_90 ?_
          refine tq_iconst (M := mX11_setFinal) (pc := 91) dX11_setFinal_91 tk_ki_m1 ?_
          refine tq_ixor (M := mX11_setFinal) (pc := 92) dX11_setFinal_92 ?_
          refine tq_iand (M := mX11_setFinal) (pc := 93) dX11_setFinal_93 ?_
          refine tq_pick (L2 := [(4, .int p9)]) [0] rfl ?_
          cases (Option.some.inj hf)
          exact HJ66
        · have hf := tq_ifn ep15 cc
          refine tq_aload_n (M := mX11_setFinal) (pc := 69) dX11_setFinal_69 rfl ?_
          obtain ⟨k13, ek13, hf⟩ := tq_be hf
          refine tq_getR (M := mX11_setFinal) (pc := 70) tk_c11 (by decide) dX11_setFinal_70 tk_RX11_102 rfl ek13 ?_
          refine tq_iload_n (M := mX11_setFinal) (pc := 73) dX11_setFinal_73 rfl ?_
          obtain ⟨x14, ex14, hf⟩ := tq_be hf
          refine tq_ialdF (M := mX11_setFinal) (pc := 74) dX11_setFinal_74 ex14 ?_
          refine tq_iconst (M := mX11_setFinal) (pc := 75) dX11_setFinal_75 tk_ki_1 ?_
          refine tq_iload_n (M := mX11_setFinal) (pc := 76) dX11_setFinal_76 rfl ?_
          refine tq_ishl (M := mX11_setFinal) (pc := 77) dX11_setFinal_77 ?_
          refine tq_ior (M := mX11_setFinal) (pc := 78) dX11_setFinal_78 ?_
          refine tq_goto (M := mX11_setFinal) (pc := 79) (tgt := 94) dX11_setFinal_79 (by decide) ?_
          refine tq_pick (L2 := [(4, .int p9)]) [0] rfl ?_
          cases (Option.some.inj hf)
          exact HJ66
      refine tq_icmp_ne (M := mX11_setFinal) (pc := 50) (tgt := 57) dX11_setFinal_50 (by decide) (fun cc => ?_) (fun cc => ?_)
      · have hf := tq_ifn ep9.symm cc
        refine tq_iconst (M := mX11_setFinal) (pc := 57) dX11_setFinal_57 tk_ki_0 ?_
        cases hf
        exact HJ50
      · have hf := tq_ifp ep9.symm cc
        refine tq_iconst (M := mX11_setFinal) (pc := 53) dX11_setFinal_53 tk_ki_1 ?_
        refine tq_goto (M := mX11_setFinal) (pc := 54) (tgt := 58) dX11_setFinal_54 (by decide) ?_
        cases hf
        exact HJ50
    · have hf := tq_ifn hf cc
      refine tq_iconst (M := mX11_setFinal) (pc := 37) dX11_setFinal_37 tk_ki_0 ?_
      refine tq_zret (M := mX11_setFinal) (pc := 38) dX11_setFinal_38 rfl (Or.inl rfl) ?_
      cases (Option.some.inj hf)
      exact hQ _ _ ⟨rfl, rfl⟩
  refine tq_if_eq (M := mX11_setFinal) (pc := 5) (tgt := 15) dX11_setFinal_5 (by decide) (fun cc => ?_) (fun cc => ?_)
  · have hf := tq_ifp ep4 cc
    refine tq_iconst (M := mX11_setFinal) (pc := 15) dX11_setFinal_15 tk_ki_1 ?_
    refine tq_goto (M := mX11_setFinal) (pc := 16) (tgt := 31) dX11_setFinal_16 (by decide) ?_
    cases (Option.some.inj hf)
    exact HJ5
  · have hf := tq_ifn ep4 cc
    refine tq_iload_n (M := mX11_setFinal) (pc := 8) dX11_setFinal_8 rfl ?_
    obtain ⟨v2, ev2, hf⟩ := tq_be hf
    refine tq_calS (M := mX11_setFinal) (pc := 9) (S := [.ref t]) tk_y_X11_isState tk_s_X11_isState tk_RX11_379 dX11_setFinal_9 [.int a2] rfl (Nat.le_of_ble_eq_true rfl) (d1 := d - 1) (b1 := 0) (s1 := 0) (bc' := 0) (bs' := 0) (Q1 := fun r h9 => r = .inl (some (.int v2)) ∧ h = h9) (by omega) rfl rfl (w_X11_isState (by omega) ev2 (fun _ _ q => q)) (fun E h9 q => nomatch (show (Sum.inr E : tq_R) = Sum.inl _ from q.1)) (fun r9 h9 q => ?_)
    obtain ⟨q1, rfl⟩ := q
    cases (show (Sum.inl r9 : tq_R) = Sum.inl (some (.int v2)) from q1)
    refine tq_if_ne (M := mX11_setFinal) (pc := 12) (tgt := 19) dX11_setFinal_12 (by decide) (fun cc => ?_) (fun cc => ?_)
    · have hf := tq_ifn hf cc
      refine tq_aload_n (M := mX11_setFinal) (pc := 19) dX11_setFinal_19 rfl ?_
      obtain ⟨x3, ex3, hf⟩ := tq_be hf
      refine tq_getI (M := mX11_setFinal) (pc := 20) tk_c11 (by decide) dX11_setFinal_20 tk_RX11_244 rfl ex3 ?_
      refine tq_if_eq (M := mX11_setFinal) (pc := 23) (tgt := 30) dX11_setFinal_23 (by decide) (fun cc => ?_) (fun cc => ?_)
      · have hf := tq_ifp hf cc
        refine tq_iconst (M := mX11_setFinal) (pc := 30) dX11_setFinal_30 tk_ki_0 ?_
        cases (Option.some.inj hf)
        exact HJ5
      · have hf := tq_ifn hf cc
        refine tq_iconst (M := mX11_setFinal) (pc := 26) dX11_setFinal_26 tk_ki_2 ?_
        refine tq_goto (M := mX11_setFinal) (pc := 27) (tgt := 31) dX11_setFinal_27 (by decide) ?_
        cases (Option.some.inj hf)
        exact HJ5
    · have hf := tq_ifp hf cc
      refine tq_iconst (M := mX11_setFinal) (pc := 15) dX11_setFinal_15 tk_ki_1 ?_
      refine tq_goto (M := mX11_setFinal) (pc := 16) (tgt := 31) dX11_setFinal_16 (by decide) ?_
      cases (Option.some.inj hf)
      exact HJ5
abbrev mX11_allowTexts : tq_M := (RX11, cX11_allowTexts, 4, (some .boolean), false, [], none)
def f_X11_allowTexts (t : Nat) (a1 : Int32) (a2 : Int32) (h : tq_H) : Option (Int32 × tq_H) :=
  (f_X11_isType a1 h).bind fun v1 =>
  (if v1 = 0 then
    some (1 : Int32)
  else
    (tq_gi h t 11 42).bind fun x2 =>
    if x2 = 0 then
      some (0 : Int32)
    else
      some (2 : Int32)).bind fun p3 =>
  (tq_is h t 11).bind fun _ =>
  (f_X11_refused t p3 h).bind fun v4 =>
  if v4.1 = 0 then
    (tq_gr v4.2 t 11 37).bind fun k6 =>
    (tq_az v4.2 k6 a1).bind fun x7 =>
    (tq_gr v4.2 t 11 37).bind fun k8 =>
    (tq_sz v4.2 k8 a1 a2).bind fun w9 =>
    (tq_bz x7).bind fun z10 =>
    some (z10, w9)
  else
    some ((0 : Int32), v4.2)
set_option maxHeartbeats 4000000 in
set_option maxRecDepth 20000 in
theorem w_X11_allowTexts {l : Launch} {d : Nat} (hd9 : 2 ≤ d) {t : Nat} {a1 : Int32} {a2 : Int32} {h : tq_H} {o : Int32 × tq_H} {Q : tq_R → tq_H → Prop} (hf : f_X11_allowTexts t a1 a2 h = some o) (hQ : ∀ r h9, r = .inl (some (.int o.1)) ∧ o.2 = h9 → Q r h9) : tq_C l yX11_allowTexts cX11_allowTexts 4 (some .boolean) d 0 0 [.ref t, .int a1, .int a2] h Q := by
  refine tq_body (y := yX11_allowTexts) false (by decide +kernel) (fun z => by cases z) (Nat.le_of_ble_eq_true rfl) ?_
  show tq_W l mX11_allowTexts d 0 0 Q 0 [(0, .ref t), (1, .int a1), (2, .int a2)] [] h
  refine tq_aload_n (M := mX11_allowTexts) (pc := 0) dX11_allowTexts_0 rfl ?_
  refine tq_iload_n (M := mX11_allowTexts) (pc := 1) dX11_allowTexts_1 rfl ?_
  obtain ⟨v1, ev1, hf⟩ := tq_be hf
  refine tq_calS (M := mX11_allowTexts) (pc := 2) (S := [.ref t]) tk_y_X11_isType tk_s_X11_isType tk_RX11_376 dX11_allowTexts_2 [.int a1] rfl (Nat.le_of_ble_eq_true rfl) (d1 := d - 1) (b1 := 0) (s1 := 0) (bc' := 0) (bs' := 0) (Q1 := fun r h9 => r = .inl (some (.int v1)) ∧ h = h9) (by omega) rfl rfl (w_X11_isType (by omega) ev1 (fun _ _ q => q)) (fun E h9 q => nomatch (show (Sum.inr E : tq_R) = Sum.inl _ from q.1)) (fun r9 h9 q => ?_)
  obtain ⟨q1, rfl⟩ := q
  cases (show (Sum.inl r9 : tq_R) = Sum.inl (some (.int v1)) from q1)
  obtain ⟨p3, ep3, hf⟩ := tq_be hf
  have HJ5 : tq_W l mX11_allowTexts d 0 0 Q 24 [(0, .ref t), (1, .int a1), (2, .int a2)] [.int p3, .ref t] h := by
    obtain ⟨⟨⟩, eu5, hf⟩ := tq_be hf
    obtain ⟨fsu5, eu5⟩ := tq_is_s eu5
    obtain ⟨v4, ev4, hf⟩ := tq_be hf
    refine tq_calV (M := mX11_allowTexts) (pc := 24) (S := []) tk_y_X11_refused tk_v_X11_refused tk_RX11_204 dX11_allowTexts_24 [.int p3] rfl (S0 := _) rfl eu5 rfl (Nat.le_of_ble_eq_true rfl) (d1 := d - 1) (b1 := 0) (s1 := 0) (bc' := 0) (bs' := 0) (Q1 := fun r h9 => r = .inl (some (.int v4.1)) ∧ v4.2 = h9) (by omega) rfl rfl (w_X11_refused (by omega) ev4 (fun _ _ q => q)) (fun E h9 q => nomatch (show (Sum.inr E : tq_R) = Sum.inl _ from q.1)) (fun r9 h9 q => ?_)
    obtain ⟨q1, rfl⟩ := q
    cases (show (Sum.inl r9 : tq_R) = Sum.inl (some (.int v4.1)) from q1)
    refine tq_if_eq (M := mX11_allowTexts) (pc := 27) (tgt := 32) dX11_allowTexts_27 (by decide) (fun cc => ?_) (fun cc => ?_)
    · have hf := tq_ifp hf cc
      refine tq_aload_n (M := mX11_allowTexts) (pc := 32) dX11_allowTexts_32 rfl ?_
      obtain ⟨k6, ek6, hf⟩ := tq_be hf
      refine tq_getR (M := mX11_allowTexts) (pc := 33) tk_c11 (by decide) dX11_allowTexts_33 tk_RX11_96 rfl ek6 ?_
      refine tq_iload_n (M := mX11_allowTexts) (pc := 36) dX11_allowTexts_36 rfl ?_
      obtain ⟨x7, ex7, hf⟩ := tq_be hf
      refine tq_zaldF (M := mX11_allowTexts) (pc := 37) dX11_allowTexts_37 ex7 ?_
      refine tq_istore_n (M := mX11_allowTexts) (pc := 38) rfl dX11_allowTexts_38 (L2 := [(3, .int x7), (0, .ref t), (1, .int a1), (2, .int a2)]) (by decide) rfl ?_
      refine tq_aload_n (M := mX11_allowTexts) (pc := 39) dX11_allowTexts_39 rfl ?_
      obtain ⟨k8, ek8, hf⟩ := tq_be hf
      refine tq_getR (M := mX11_allowTexts) (pc := 40) tk_c11 (by decide) dX11_allowTexts_40 tk_RX11_96 rfl ek8 ?_
      refine tq_iload_n (M := mX11_allowTexts) (pc := 43) dX11_allowTexts_43 rfl ?_
      refine tq_iload_n (M := mX11_allowTexts) (pc := 44) dX11_allowTexts_44 rfl ?_
      obtain ⟨w9, ew9, hf⟩ := tq_be hf
      refine tq_zastF (M := mX11_allowTexts) (pc := 45) dX11_allowTexts_45 ew9 ?_
      refine tq_iload_n (M := mX11_allowTexts) (pc := 46) dX11_allowTexts_46 rfl ?_
      obtain ⟨z10, ez10, hf⟩ := tq_be hf
      refine tq_zretB (M := mX11_allowTexts) (pc := 47) dX11_allowTexts_47 rfl ez10 ?_
      cases (Option.some.inj hf)
      exact hQ _ _ ⟨rfl, rfl⟩
    · have hf := tq_ifn hf cc
      refine tq_iconst (M := mX11_allowTexts) (pc := 30) dX11_allowTexts_30 tk_ki_0 ?_
      refine tq_zret (M := mX11_allowTexts) (pc := 31) dX11_allowTexts_31 rfl (Or.inl rfl) ?_
      cases (Option.some.inj hf)
      exact hQ _ _ ⟨rfl, rfl⟩
  refine tq_if_ne (M := mX11_allowTexts) (pc := 5) (tgt := 12) dX11_allowTexts_5 (by decide) (fun cc => ?_) (fun cc => ?_)
  · have hf := tq_ifn ep3 cc
    refine tq_aload_n (M := mX11_allowTexts) (pc := 12) dX11_allowTexts_12 rfl ?_
    obtain ⟨x2, ex2, hf⟩ := tq_be hf
    refine tq_getI (M := mX11_allowTexts) (pc := 13) tk_c11 (by decide) dX11_allowTexts_13 tk_RX11_244 rfl ex2 ?_
    refine tq_if_eq (M := mX11_allowTexts) (pc := 16) (tgt := 23) dX11_allowTexts_16 (by decide) (fun cc => ?_) (fun cc => ?_)
    · have hf := tq_ifp hf cc
      refine tq_iconst (M := mX11_allowTexts) (pc := 23) dX11_allowTexts_23 tk_ki_0 ?_
      cases (Option.some.inj hf)
      exact HJ5
    · have hf := tq_ifn hf cc
      refine tq_iconst (M := mX11_allowTexts) (pc := 19) dX11_allowTexts_19 tk_ki_2 ?_
      refine tq_goto (M := mX11_allowTexts) (pc := 20) (tgt := 24) dX11_allowTexts_20 (by decide) ?_
      cases (Option.some.inj hf)
      exact HJ5
  · have hf := tq_ifp ep3 cc
    refine tq_iconst (M := mX11_allowTexts) (pc := 8) dX11_allowTexts_8 tk_ki_1 ?_
    refine tq_goto (M := mX11_allowTexts) (pc := 9) (tgt := 24) dX11_allowTexts_9 (by decide) ?_
    cases (Option.some.inj hf)
    exact HJ5
abbrev mX11_attribute : tq_M := (RX11, cX11_attribute, 6, (some .int), false, [], none)
def f_X11_attribute (t : Nat) (a1 : Int32) (a2 : Int32) (a3 : Int32) (h : tq_H) : Option (Int32 × tq_H) :=
  (f_X11_in a2 (0 : Int32) (7 : Int32) h).bind fun v1 =>
  (if v1 = 0 then
    some (0 : Int32)
  else
    (f_X11_in a3 (0 : Int32) (2 : Int32) h).bind fun v2 =>
    if v2 = 0 then
      some (0 : Int32)
    else
      some (1 : Int32)).bind fun p3 =>
  (f_X11_isType a1 h).bind fun v4 =>
  (if v4 = 0 then
    some (1 : Int32)
  else
    if p3 = 0 then
      some (2 : Int32)
    else
      (tq_gi h t 11 42).bind fun x5 =>
      if x5 = 0 then
        some (0 : Int32)
      else
        some (3 : Int32)).bind fun p6 =>
  (tq_is h t 11).bind fun _ =>
  (f_X11_refused t p6 h).bind fun v7 =>
  if v7.1 = 0 then
    (tq_gr v7.2 t 11 38).bind fun k9 =>
    (tq_ai v7.2 k9 (((8 : Int32) * a1) + a2)).bind fun x10 =>
    (tq_gr v7.2 t 11 38).bind fun k11 =>
    (tq_si v7.2 k11 (((8 : Int32) * a1) + a2) a3).bind fun w12 =>
    some (x10, w12)
  else
    some ((0 : Int32), v7.2)
set_option maxHeartbeats 4000000 in
set_option maxRecDepth 20000 in
theorem w_X11_attribute {l : Launch} {d : Nat} (hd9 : 2 ≤ d) {t : Nat} {a1 : Int32} {a2 : Int32} {a3 : Int32} {h : tq_H} {o : Int32 × tq_H} {Q : tq_R → tq_H → Prop} (hf : f_X11_attribute t a1 a2 a3 h = some o) (hQ : ∀ r h9, r = .inl (some (.int o.1)) ∧ o.2 = h9 → Q r h9) : tq_C l yX11_attribute cX11_attribute 6 (some .int) d 0 0 [.ref t, .int a1, .int a2, .int a3] h Q := by
  refine tq_body (y := yX11_attribute) false (by decide +kernel) (fun z => by cases z) (Nat.le_of_ble_eq_true rfl) ?_
  show tq_W l mX11_attribute d 0 0 Q 0 [(0, .ref t), (1, .int a1), (2, .int a2), (3, .int a3)] [] h
  refine tq_iload_n (M := mX11_attribute) (pc := 0) dX11_attribute_0 rfl ?_
  refine tq_iconst (M := mX11_attribute) (pc := 1) dX11_attribute_1 tk_ki_0 ?_
  refine tq_bipush (M := mX11_attribute) (pc := 2) dX11_attribute_2 tk_kb_7 ?_
  obtain ⟨v1, ev1, hf⟩ := tq_be hf
  refine tq_calS (M := mX11_attribute) (pc := 4) (S := []) tk_y_X11_in tk_s_X11_in tk_RX11_169 dX11_attribute_4 [.int a2, .int (0 : Int32), .int (7 : Int32)] rfl (Nat.le_of_ble_eq_true rfl) (d1 := d - 1) (b1 := 0) (s1 := 0) (bc' := 0) (bs' := 0) (Q1 := fun r h9 => r = .inl (some (.int v1)) ∧ h = h9) (by omega) rfl rfl (w_X11_in (by omega) ev1 (fun _ _ q => q)) (fun E h9 q => nomatch (show (Sum.inr E : tq_R) = Sum.inl _ from q.1)) (fun r9 h9 q => ?_)
  obtain ⟨q1, rfl⟩ := q
  cases (show (Sum.inl r9 : tq_R) = Sum.inl (some (.int v1)) from q1)
  obtain ⟨p3, ep3, hf⟩ := tq_be hf
  have HJ7 : tq_W l mX11_attribute d 0 0 Q 24 [(0, .ref t), (1, .int a1), (2, .int a2), (3, .int a3)] [.int p3] h := by
    refine tq_istore (M := mX11_attribute) (pc := 24) dX11_attribute_24 (L2 := [(4, .int p3), (0, .ref t), (1, .int a1), (2, .int a2), (3, .int a3)]) (by decide) rfl ?_
    refine tq_aload_n (M := mX11_attribute) (pc := 26) dX11_attribute_26 rfl ?_
    refine tq_iload_n (M := mX11_attribute) (pc := 27) dX11_attribute_27 rfl ?_
    obtain ⟨v4, ev4, hf⟩ := tq_be hf
    refine tq_calS (M := mX11_attribute) (pc := 28) (S := [.ref t]) tk_y_X11_isType tk_s_X11_isType tk_RX11_376 dX11_attribute_28 [.int a1] rfl (Nat.le_of_ble_eq_true rfl) (d1 := d - 1) (b1 := 0) (s1 := 0) (bc' := 0) (bs' := 0) (Q1 := fun r h9 => r = .inl (some (.int v4)) ∧ h = h9) (by omega) rfl rfl (w_X11_isType (by omega) ev4 (fun _ _ q => q)) (fun E h9 q => nomatch (show (Sum.inr E : tq_R) = Sum.inl _ from q.1)) (fun r9 h9 q => ?_)
    obtain ⟨q1, rfl⟩ := q
    cases (show (Sum.inl r9 : tq_R) = Sum.inl (some (.int v4)) from q1)
    obtain ⟨p6, ep6, hf⟩ := tq_be hf
    have HJ31 : tq_W l mX11_attribute d 0 0 Q 59 [(0, .ref t), (1, .int a1), (2, .int a2), (3, .int a3)] [.int p6, .ref t] h := by
      obtain ⟨⟨⟩, eu8, hf⟩ := tq_be hf
      obtain ⟨fsu8, eu8⟩ := tq_is_s eu8
      obtain ⟨v7, ev7, hf⟩ := tq_be hf
      refine tq_calV (M := mX11_attribute) (pc := 59) (S := []) tk_y_X11_refused tk_v_X11_refused tk_RX11_204 dX11_attribute_59 [.int p6] rfl (S0 := _) rfl eu8 rfl (Nat.le_of_ble_eq_true rfl) (d1 := d - 1) (b1 := 0) (s1 := 0) (bc' := 0) (bs' := 0) (Q1 := fun r h9 => r = .inl (some (.int v7.1)) ∧ v7.2 = h9) (by omega) rfl rfl (w_X11_refused (by omega) ev7 (fun _ _ q => q)) (fun E h9 q => nomatch (show (Sum.inr E : tq_R) = Sum.inl _ from q.1)) (fun r9 h9 q => ?_)
      obtain ⟨q1, rfl⟩ := q
      cases (show (Sum.inl r9 : tq_R) = Sum.inl (some (.int v7.1)) from q1)
      refine tq_if_eq (M := mX11_attribute) (pc := 62) (tgt := 67) dX11_attribute_62 (by decide) (fun cc => ?_) (fun cc => ?_)
      · have hf := tq_ifp hf cc
        refine tq_aload_n (M := mX11_attribute) (pc := 67) dX11_attribute_67 rfl ?_
        obtain ⟨k9, ek9, hf⟩ := tq_be hf
        refine tq_getR (M := mX11_attribute) (pc := 68) tk_c11 (by decide) dX11_attribute_68 tk_RX11_99 rfl ek9 ?_
        refine tq_bipush (M := mX11_attribute) (pc := 71) dX11_attribute_71 tk_kb_8 ?_
        refine tq_iload_n (M := mX11_attribute) (pc := 73) dX11_attribute_73 rfl ?_
        refine tq_imul (M := mX11_attribute) (pc := 74) dX11_attribute_74 ?_
        refine tq_iload_n (M := mX11_attribute) (pc := 75) dX11_attribute_75 rfl ?_
        refine tq_iadd (M := mX11_attribute) (pc := 76) dX11_attribute_76 ?_
        obtain ⟨x10, ex10, hf⟩ := tq_be hf
        refine tq_ialdF (M := mX11_attribute) (pc := 77) dX11_attribute_77 ex10 ?_
        refine tq_istore (M := mX11_attribute) (pc := 78) dX11_attribute_78 (L2 := [(5, .int x10), (0, .ref t), (1, .int a1), (2, .int a2), (3, .int a3)]) (by decide) rfl ?_
        refine tq_aload_n (M := mX11_attribute) (pc := 80) dX11_attribute_80 rfl ?_
        obtain ⟨k11, ek11, hf⟩ := tq_be hf
        refine tq_getR (M := mX11_attribute) (pc := 81) tk_c11 (by decide) dX11_attribute_81 tk_RX11_99 rfl ek11 ?_
        refine tq_bipush (M := mX11_attribute) (pc := 84) dX11_attribute_84 tk_kb_8 ?_
        refine tq_iload_n (M := mX11_attribute) (pc := 86) dX11_attribute_86 rfl ?_
        refine tq_imul (M := mX11_attribute) (pc := 87) dX11_attribute_87 ?_
        refine tq_iload_n (M := mX11_attribute) (pc := 88) dX11_attribute_88 rfl ?_
        refine tq_iadd (M := mX11_attribute) (pc := 89) dX11_attribute_89 ?_
        refine tq_iload_n (M := mX11_attribute) (pc := 90) dX11_attribute_90 rfl ?_
        obtain ⟨w12, ew12, hf⟩ := tq_be hf
        refine tq_iastF (M := mX11_attribute) (pc := 91) dX11_attribute_91 ew12 ?_
        refine tq_iload (M := mX11_attribute) (pc := 92) dX11_attribute_92 rfl ?_
        refine tq_iret (M := mX11_attribute) (pc := 94) dX11_attribute_94 rfl ?_
        cases (Option.some.inj hf)
        exact hQ _ _ ⟨rfl, rfl⟩
      · have hf := tq_ifn hf cc
        refine tq_iconst (M := mX11_attribute) (pc := 65) dX11_attribute_65 tk_ki_0 ?_
        refine tq_iret (M := mX11_attribute) (pc := 66) dX11_attribute_66 rfl ?_
        cases (Option.some.inj hf)
        exact hQ _ _ ⟨rfl, rfl⟩
    refine tq_if_ne (M := mX11_attribute) (pc := 31) (tgt := 38) dX11_attribute_31 (by decide) (fun cc => ?_) (fun cc => ?_)
    · have hf := tq_ifn ep6 cc
      refine tq_iload (M := mX11_attribute) (pc := 38) dX11_attribute_38 rfl ?_
      refine tq_if_ne (M := mX11_attribute) (pc := 40) (tgt := 47) dX11_attribute_40 (by decide) (fun cc => ?_) (fun cc => ?_)
      · have hf := tq_ifn hf cc
        refine tq_aload_n (M := mX11_attribute) (pc := 47) dX11_attribute_47 rfl ?_
        obtain ⟨x5, ex5, hf⟩ := tq_be hf
        refine tq_getI (M := mX11_attribute) (pc := 48) tk_c11 (by decide) dX11_attribute_48 tk_RX11_244 rfl ex5 ?_
        refine tq_if_eq (M := mX11_attribute) (pc := 51) (tgt := 58) dX11_attribute_51 (by decide) (fun cc => ?_) (fun cc => ?_)
        · have hf := tq_ifp hf cc
          refine tq_iconst (M := mX11_attribute) (pc := 58) dX11_attribute_58 tk_ki_0 ?_
          refine tq_pick (L2 := [(0, .ref t), (1, .int a1), (2, .int a2), (3, .int a3)]) [1, 2, 3, 4] rfl ?_
          cases (Option.some.inj hf)
          exact HJ31
        · have hf := tq_ifn hf cc
          refine tq_iconst (M := mX11_attribute) (pc := 54) dX11_attribute_54 tk_ki_3 ?_
          refine tq_goto (M := mX11_attribute) (pc := 55) (tgt := 59) dX11_attribute_55 (by decide) ?_
          refine tq_pick (L2 := [(0, .ref t), (1, .int a1), (2, .int a2), (3, .int a3)]) [1, 2, 3, 4] rfl ?_
          cases (Option.some.inj hf)
          exact HJ31
      · have hf := tq_ifp hf cc
        refine tq_iconst (M := mX11_attribute) (pc := 43) dX11_attribute_43 tk_ki_2 ?_
        refine tq_goto (M := mX11_attribute) (pc := 44) (tgt := 59) dX11_attribute_44 (by decide) ?_
        refine tq_pick (L2 := [(0, .ref t), (1, .int a1), (2, .int a2), (3, .int a3)]) [1, 2, 3, 4] rfl ?_
        cases (Option.some.inj hf)
        exact HJ31
    · have hf := tq_ifp ep6 cc
      refine tq_iconst (M := mX11_attribute) (pc := 34) dX11_attribute_34 tk_ki_1 ?_
      refine tq_goto (M := mX11_attribute) (pc := 35) (tgt := 59) dX11_attribute_35 (by decide) ?_
      refine tq_pick (L2 := [(0, .ref t), (1, .int a1), (2, .int a2), (3, .int a3)]) [1, 2, 3, 4] rfl ?_
      cases (Option.some.inj hf)
      exact HJ31
  refine tq_if_eq (M := mX11_attribute) (pc := 7) (tgt := 23) dX11_attribute_7 (by decide) (fun cc => ?_) (fun cc => ?_)
  · have hf := tq_ifp ep3 cc
    refine tq_iconst (M := mX11_attribute) (pc := 23) dX11_attribute_23 tk_ki_0 ?_
    cases (Option.some.inj hf)
    exact HJ7
  · have hf := tq_ifn ep3 cc
    refine tq_iload_n (M := mX11_attribute) (pc := 10) dX11_attribute_10 rfl ?_
    refine tq_iconst (M := mX11_attribute) (pc := 11) dX11_attribute_11 tk_ki_0 ?_
    refine tq_iconst (M := mX11_attribute) (pc := 12) dX11_attribute_12 tk_ki_2 ?_
    obtain ⟨v2, ev2, hf⟩ := tq_be hf
    refine tq_calS (M := mX11_attribute) (pc := 13) (S := []) tk_y_X11_in tk_s_X11_in tk_RX11_169 dX11_attribute_13 [.int a3, .int (0 : Int32), .int (2 : Int32)] rfl (Nat.le_of_ble_eq_true rfl) (d1 := d - 1) (b1 := 0) (s1 := 0) (bc' := 0) (bs' := 0) (Q1 := fun r h9 => r = .inl (some (.int v2)) ∧ h = h9) (by omega) rfl rfl (w_X11_in (by omega) ev2 (fun _ _ q => q)) (fun E h9 q => nomatch (show (Sum.inr E : tq_R) = Sum.inl _ from q.1)) (fun r9 h9 q => ?_)
    obtain ⟨q1, rfl⟩ := q
    cases (show (Sum.inl r9 : tq_R) = Sum.inl (some (.int v2)) from q1)
    refine tq_if_eq (M := mX11_attribute) (pc := 16) (tgt := 23) dX11_attribute_16 (by decide) (fun cc => ?_) (fun cc => ?_)
    · have hf := tq_ifp hf cc
      refine tq_iconst (M := mX11_attribute) (pc := 23) dX11_attribute_23 tk_ki_0 ?_
      cases (Option.some.inj hf)
      exact HJ7
    · have hf := tq_ifn hf cc
      refine tq_iconst (M := mX11_attribute) (pc := 19) dX11_attribute_19 tk_ki_1 ?_
      refine tq_goto (M := mX11_attribute) (pc := 20) (tgt := 24) dX11_attribute_20 (by decide) ?_
      cases (Option.some.inj hf)
      exact HJ7
abbrev mX11_setStrict : tq_M := (RX11, cX11_setStrict, 3, (some .boolean), false, [], none)
def f_X11_setStrict (t : Nat) (a1 : Int32) (h : tq_H) : Option (Int32 × tq_H) :=
  (if a1 = 0 then
    some ((0 : Int32), h)
  else
    (tq_is h t 11).bind fun _ =>
    (f_X11_isRight t h).bind fun v1 =>
    if v1.1 = 0 then
      some ((1 : Int32), v1.2)
    else
      some ((0 : Int32), v1.2)).bind fun p3 =>
  (tq_is p3.2 t 11).bind fun _ =>
  (f_X11_refused t p3.1 p3.2).bind fun v4 =>
  if v4.1 = 0 then
    (tq_gi v4.2 t 11 42).bind fun x6 =>
    (tq_bz a1).bind fun z8 =>
    (tq_pf v4.2 t 11 42 (.int z8)).bind fun w7 =>
    (tq_bz x6).bind fun z9 =>
    some (z9, w7)
  else
    some ((0 : Int32), v4.2)
set_option maxHeartbeats 4000000 in
set_option maxRecDepth 20000 in
theorem w_X11_setStrict {l : Launch} {d : Nat} (hd9 : 4 ≤ d) {t : Nat} {a1 : Int32} {h : tq_H} {o : Int32 × tq_H} {Q : tq_R → tq_H → Prop} (hf : f_X11_setStrict t a1 h = some o) (hQ : ∀ r h9, r = .inl (some (.int o.1)) ∧ o.2 = h9 → Q r h9) : tq_C l yX11_setStrict cX11_setStrict 3 (some .boolean) d 0 0 [.ref t, .int a1] h Q := by
  refine tq_body (y := yX11_setStrict) false (by decide +kernel) (fun z => by cases z) (Nat.le_of_ble_eq_true rfl) ?_
  show tq_W l mX11_setStrict d 0 0 Q 0 [(0, .ref t), (1, .int a1)] [] h
  refine tq_aload_n (M := mX11_setStrict) (pc := 0) dX11_setStrict_0 rfl ?_
  refine tq_iload_n (M := mX11_setStrict) (pc := 1) dX11_setStrict_1 rfl ?_
  obtain ⟨p3, ep3, hf⟩ := tq_be hf
  have HJ2 : tq_W l mX11_setStrict d 0 0 Q 17 [(0, .ref t), (1, .int a1)] [.int p3.1, .ref t] p3.2 := by
    obtain ⟨⟨⟩, eu5, hf⟩ := tq_be hf
    obtain ⟨fsu5, eu5⟩ := tq_is_s eu5
    obtain ⟨v4, ev4, hf⟩ := tq_be hf
    refine tq_calV (M := mX11_setStrict) (pc := 17) (S := []) tk_y_X11_refused tk_v_X11_refused tk_RX11_204 dX11_setStrict_17 [.int p3.1] rfl (S0 := _) rfl eu5 rfl (Nat.le_of_ble_eq_true rfl) (d1 := d - 1) (b1 := 0) (s1 := 0) (bc' := 0) (bs' := 0) (Q1 := fun r h9 => r = .inl (some (.int v4.1)) ∧ v4.2 = h9) (by omega) rfl rfl (w_X11_refused (by omega) ev4 (fun _ _ q => q)) (fun E h9 q => nomatch (show (Sum.inr E : tq_R) = Sum.inl _ from q.1)) (fun r9 h9 q => ?_)
    obtain ⟨q1, rfl⟩ := q
    cases (show (Sum.inl r9 : tq_R) = Sum.inl (some (.int v4.1)) from q1)
    refine tq_if_eq (M := mX11_setStrict) (pc := 20) (tgt := 25) dX11_setStrict_20 (by decide) (fun cc => ?_) (fun cc => ?_)
    · have hf := tq_ifp hf cc
      refine tq_aload_n (M := mX11_setStrict) (pc := 25) dX11_setStrict_25 rfl ?_
      obtain ⟨x6, ex6, hf⟩ := tq_be hf
      refine tq_getI (M := mX11_setStrict) (pc := 26) tk_c11 (by decide) dX11_setStrict_26 tk_RX11_244 rfl ex6 ?_
      refine tq_istore_n (M := mX11_setStrict) (pc := 29) rfl dX11_setStrict_29 (L2 := [(2, .int x6), (0, .ref t), (1, .int a1)]) (by decide) rfl ?_
      refine tq_aload_n (M := mX11_setStrict) (pc := 30) dX11_setStrict_30 rfl ?_
      refine tq_iload_n (M := mX11_setStrict) (pc := 31) dX11_setStrict_31 rfl ?_
      obtain ⟨z8, ez8, hf⟩ := tq_be hf
      obtain ⟨w7, ew7, hf⟩ := tq_be hf
      refine tq_putB (M := mX11_setStrict) (pc := 32) tk_c11 (by decide) rfl dX11_setStrict_32 tk_RX11_244 rfl (Or.inl rfl) ez8 ew7 ?_
      refine tq_iload_n (M := mX11_setStrict) (pc := 35) dX11_setStrict_35 rfl ?_
      obtain ⟨z9, ez9, hf⟩ := tq_be hf
      refine tq_zretB (M := mX11_setStrict) (pc := 36) dX11_setStrict_36 rfl ez9 ?_
      cases (Option.some.inj hf)
      exact hQ _ _ ⟨rfl, rfl⟩
    · have hf := tq_ifn hf cc
      refine tq_iconst (M := mX11_setStrict) (pc := 23) dX11_setStrict_23 tk_ki_0 ?_
      refine tq_zret (M := mX11_setStrict) (pc := 24) dX11_setStrict_24 rfl (Or.inl rfl) ?_
      cases (Option.some.inj hf)
      exact hQ _ _ ⟨rfl, rfl⟩
  refine tq_if_eq (M := mX11_setStrict) (pc := 2) (tgt := 16) dX11_setStrict_2 (by decide) (fun cc => ?_) (fun cc => ?_)
  · have hf := tq_ifp ep3 cc
    refine tq_iconst (M := mX11_setStrict) (pc := 16) dX11_setStrict_16 tk_ki_0 ?_
    cases (Option.some.inj hf)
    exact HJ2
  · have hf := tq_ifn ep3 cc
    refine tq_aload_n (M := mX11_setStrict) (pc := 5) dX11_setStrict_5 rfl ?_
    obtain ⟨⟨⟩, eu2, hf⟩ := tq_be hf
    obtain ⟨fsu2, eu2⟩ := tq_is_s eu2
    obtain ⟨v1, ev1, hf⟩ := tq_be hf
    refine tq_calV (M := mX11_setStrict) (pc := 6) (S := [.ref t]) tk_y_X11_isRight tk_v_X11_isRight tk_RX11_248 dX11_setStrict_6 [] rfl (S0 := _) rfl eu2 rfl (Nat.le_of_ble_eq_true rfl) (d1 := d - 1) (b1 := 0) (s1 := 0) (bc' := 0) (bs' := 0) (Q1 := fun r h9 => r = .inl (some (.int v1.1)) ∧ v1.2 = h9) (by omega) rfl rfl (w_X11_isRight (by omega) ev1 (fun _ _ q => q)) (fun E h9 q => nomatch (show (Sum.inr E : tq_R) = Sum.inl _ from q.1)) (fun r9 h9 q => ?_)
    obtain ⟨q1, rfl⟩ := q
    cases (show (Sum.inl r9 : tq_R) = Sum.inl (some (.int v1.1)) from q1)
    refine tq_if_ne (M := mX11_setStrict) (pc := 9) (tgt := 16) dX11_setStrict_9 (by decide) (fun cc => ?_) (fun cc => ?_)
    · have hf := tq_ifn hf cc
      refine tq_iconst (M := mX11_setStrict) (pc := 16) dX11_setStrict_16 tk_ki_0 ?_
      cases (Option.some.inj hf)
      exact HJ2
    · have hf := tq_ifp hf cc
      refine tq_iconst (M := mX11_setStrict) (pc := 12) dX11_setStrict_12 tk_ki_1 ?_
      refine tq_goto (M := mX11_setStrict) (pc := 13) (tgt := 17) dX11_setStrict_13 (by decide) ?_
      cases (Option.some.inj hf)
      exact HJ2
abbrev mX11_isValid : tq_M := (RX11, cX11_isValid, 1, (some .boolean), false, [], none)
def f_X11_isValid (t : Nat) (h : tq_H) : Option (Int32 × tq_H) :=
  (tq_pf h t 11 0 (.int (0 : Int32))).bind fun w1 =>
  (tq_is w1 t 11).bind fun _ =>
  (f_X11_isRight t w1).bind fun v2 =>
  (tq_bz v2.1).bind fun z4 =>
  some (z4, v2.2)
set_option maxHeartbeats 4000000 in
set_option maxRecDepth 20000 in
theorem w_X11_isValid {l : Launch} {d : Nat} (hd9 : 4 ≤ d) {t : Nat} {h : tq_H} {o : Int32 × tq_H} {Q : tq_R → tq_H → Prop} (hf : f_X11_isValid t h = some o) (hQ : ∀ r h9, r = .inl (some (.int o.1)) ∧ o.2 = h9 → Q r h9) : tq_C l yX11_isValid cX11_isValid 1 (some .boolean) d 0 0 [.ref t] h Q := by
  refine tq_body (y := yX11_isValid) false (by decide +kernel) (fun z => by cases z) (Nat.le_of_ble_eq_true rfl) ?_
  show tq_W l mX11_isValid d 0 0 Q 0 [(0, .ref t)] [] h
  refine tq_aload_n (M := mX11_isValid) (pc := 0) dX11_isValid_0 rfl ?_
  refine tq_iconst (M := mX11_isValid) (pc := 1) dX11_isValid_1 tk_ki_0 ?_
  obtain ⟨w1, ew1, hf⟩ := tq_be hf
  refine tq_putv (M := mX11_isValid) (pc := 2) tk_c11 (by decide) dX11_isValid_2 tk_RX11_166 rfl (Or.inl rfl) ew1 (tq_nI _) ?_
  refine tq_aload_n (M := mX11_isValid) (pc := 5) dX11_isValid_5 rfl ?_
  obtain ⟨⟨⟩, eu3, hf⟩ := tq_be hf
  obtain ⟨fsu3, eu3⟩ := tq_is_s eu3
  obtain ⟨v2, ev2, hf⟩ := tq_be hf
  refine tq_calV (M := mX11_isValid) (pc := 6) (S := []) tk_y_X11_isRight tk_v_X11_isRight tk_RX11_248 dX11_isValid_6 [] rfl (S0 := _) rfl eu3 rfl (Nat.le_of_ble_eq_true rfl) (d1 := d - 1) (b1 := 0) (s1 := 0) (bc' := 0) (bs' := 0) (Q1 := fun r h9 => r = .inl (some (.int v2.1)) ∧ v2.2 = h9) (by omega) rfl rfl (w_X11_isRight (by omega) ev2 (fun _ _ q => q)) (fun E h9 q => nomatch (show (Sum.inr E : tq_R) = Sum.inl _ from q.1)) (fun r9 h9 q => ?_)
  obtain ⟨q1, rfl⟩ := q
  cases (show (Sum.inl r9 : tq_R) = Sum.inl (some (.int v2.1)) from q1)
  obtain ⟨z4, ez4, hf⟩ := tq_be hf
  refine tq_zretB (M := mX11_isValid) (pc := 9) dX11_isValid_9 rfl ez4 ?_
  cases (Option.some.inj hf)
  exact hQ _ _ ⟨rfl, rfl⟩
abbrev mX11_types : tq_M := (RX11, cX11_types, 2, (some .int), false, [], none)
def f_X11_types (t : Nat) (a1 : Int32) (h : tq_H) : Option (Int32 × tq_H) :=
  (tq_is h t 11).bind fun _ =>
  (f_X11_noNode t a1 h).bind fun v1 =>
  if v1.1 = 0 then
    (tq_is v1.2 t 11).bind fun _ =>
    (f_X11_findTypes t v1.2).bind fun v3 =>
    (tq_gr v3 t 11 41).bind fun k5 =>
    (tq_ai v3 k5 a1).bind fun x6 =>
    some (x6, v3)
  else
    some ((0 : Int32), v1.2)
set_option maxHeartbeats 4000000 in
set_option maxRecDepth 20000 in
theorem w_X11_types {l : Launch} {d : Nat} (hd9 : 3 ≤ d) {t : Nat} {a1 : Int32} {h : tq_H} {o : Int32 × tq_H} {Q : tq_R → tq_H → Prop} (hf : f_X11_types t a1 h = some o) (hQ : ∀ r h9, r = .inl (some (.int o.1)) ∧ o.2 = h9 → Q r h9) : tq_C l yX11_types cX11_types 2 (some .int) d 0 0 [.ref t, .int a1] h Q := by
  refine tq_body (y := yX11_types) false (by decide +kernel) (fun z => by cases z) (Nat.le_of_ble_eq_true rfl) ?_
  show tq_W l mX11_types d 0 0 Q 0 [(0, .ref t), (1, .int a1)] [] h
  refine tq_aload_n (M := mX11_types) (pc := 0) dX11_types_0 rfl ?_
  refine tq_iload_n (M := mX11_types) (pc := 1) dX11_types_1 rfl ?_
  obtain ⟨⟨⟩, eu2, hf⟩ := tq_be hf
  obtain ⟨fsu2, eu2⟩ := tq_is_s eu2
  obtain ⟨v1, ev1, hf⟩ := tq_be hf
  refine tq_calV (M := mX11_types) (pc := 2) (S := []) tk_y_X11_noNode tk_v_X11_noNode tk_RX11_286 dX11_types_2 [.int a1] rfl (S0 := _) rfl eu2 rfl (Nat.le_of_ble_eq_true rfl) (d1 := d - 1) (b1 := 0) (s1 := 0) (bc' := 0) (bs' := 0) (Q1 := fun r h9 => r = .inl (some (.int v1.1)) ∧ v1.2 = h9) (by omega) rfl rfl (w_X11_noNode (by omega) ev1 (fun _ _ q => q)) (fun E h9 q => nomatch (show (Sum.inr E : tq_R) = Sum.inl _ from q.1)) (fun r9 h9 q => ?_)
  obtain ⟨q1, rfl⟩ := q
  cases (show (Sum.inl r9 : tq_R) = Sum.inl (some (.int v1.1)) from q1)
  refine tq_if_eq (M := mX11_types) (pc := 5) (tgt := 10) dX11_types_5 (by decide) (fun cc => ?_) (fun cc => ?_)
  · have hf := tq_ifp hf cc
    refine tq_aload_n (M := mX11_types) (pc := 10) dX11_types_10 rfl ?_
    obtain ⟨⟨⟩, eu4, hf⟩ := tq_be hf
    obtain ⟨fsu4, eu4⟩ := tq_is_s eu4
    obtain ⟨v3, ev3, hf⟩ := tq_be hf
    refine tq_calV (M := mX11_types) (pc := 11) (S := []) tk_y_X11_findTypes tk_v_X11_findTypes tk_RX11_385 dX11_types_11 [] rfl (S0 := _) rfl eu4 rfl (Nat.le_of_ble_eq_true rfl) (d1 := d - 1) (b1 := 0) (s1 := 0) (bc' := 0) (bs' := 0) (Q1 := fun r h9 => r = .inl none ∧ v3 = h9) (by omega) rfl rfl (w_X11_findTypes (by omega) ev3 (fun _ _ q => q)) (fun E h9 q => nomatch (show (Sum.inr E : tq_R) = Sum.inl _ from q.1)) (fun r9 h9 q => ?_)
    obtain ⟨q1, rfl⟩ := q
    cases (show (Sum.inl r9 : tq_R) = Sum.inl (none) from q1)
    refine tq_aload_n (M := mX11_types) (pc := 14) dX11_types_14 rfl ?_
    obtain ⟨k5, ek5, hf⟩ := tq_be hf
    refine tq_getR (M := mX11_types) (pc := 15) tk_c11 (by decide) dX11_types_15 tk_RX11_108 rfl ek5 ?_
    refine tq_iload_n (M := mX11_types) (pc := 18) dX11_types_18 rfl ?_
    obtain ⟨x6, ex6, hf⟩ := tq_be hf
    refine tq_ialdF (M := mX11_types) (pc := 19) dX11_types_19 ex6 ?_
    refine tq_iret (M := mX11_types) (pc := 20) dX11_types_20 rfl ?_
    cases (Option.some.inj hf)
    exact hQ _ _ ⟨rfl, rfl⟩
  · have hf := tq_ifn hf cc
    refine tq_iconst (M := mX11_types) (pc := 8) dX11_types_8 tk_ki_0 ?_
    refine tq_iret (M := mX11_types) (pc := 9) dX11_types_9 rfl ?_
    cases (Option.some.inj hf)
    exact hQ _ _ ⟨rfl, rfl⟩
abbrev mX11_canHave : tq_M := (RX11, cX11_canHave, 5, (some .int), false, [], none)
def f_X11_canHave_b13 (i0 : Nat) (i1 : Int32) (i3 : Int32) (hh : tq_H) (s : Int32 × Int32) : Option ((Int32 × Int32) ⊕ (Int32)) := match s with
  | (y2, y4) =>
    if y4 ≥ (24 : Int32) then
      some (.inr y2)
    else
      if ((i1 >>> (i3 &&& 31)) &&& (1 : Int32)) = (1 : Int32) then
        (tq_gr hh i0 11 40).bind fun k1 =>
        (tq_ai hh k1 (((24 : Int32) * i3) + y4)).bind fun x2 =>
        tq_let (if x2 = 0 then (0 : Int32) else ((1 : Int32) <<< ((y4 - y4 / (6 : Int32) * (6 : Int32)) &&& 31))) fun p3 =>
        tq_let ((y2 ||| p3)) fun x4 =>
        tq_let (y4 + (1 : Int32)) fun x5 =>
        some (.inl (x4, x5))
      else
        some (.inr y2)
def f_X11_canHave_b67 (i0 : Nat) (i1 : Int32) (i3 : Int32) (hh : tq_H) (s : Int32 × Int32) : Option ((Int32 × Int32) ⊕ (Int32)) := match s with
  | (y2, y4) =>
    if y4 ≥ (8 : Int32) then
      some (.inr y2)
    else
      if ((i1 >>> (i3 &&& 31)) &&& (1 : Int32)) = (1 : Int32) then
        (tq_gr hh i0 11 38).bind fun k7 =>
        (tq_ai hh k7 (((8 : Int32) * i3) + y4)).bind fun x8 =>
        tq_let (if x8 = 0 then (0 : Int32) else (128 : Int32)) fun p9 =>
        tq_let ((y2 ||| p9)) fun x10 =>
        tq_let (y4 + (1 : Int32)) fun x11 =>
        some (.inl (x10, x11))
      else
        some (.inr y2)
def f_X11_canHave_b4 (i0 : Nat) (i1 : Int32) (hh : tq_H) (s : Int32 × Int32) : Option ((Int32 × Int32) ⊕ (Int32)) := match s with
  | (y2, y3) =>
    if y3 ≥ (6 : Int32) then
      some (.inr y2)
    else
      (tq_loop (f_X11_canHave_b13 i0 i1 y3 hh) tq_N (y2, (0 : Int32))).bind fun o6 =>
      (tq_loop (f_X11_canHave_b67 i0 i1 y3 hh) tq_N (o6, (0 : Int32))).bind fun o12 =>
      (if ((i1 >>> (y3 &&& 31)) &&& (1 : Int32)) = (1 : Int32) then
        (tq_gr hh i0 11 37).bind fun k13 =>
        (tq_az hh k13 y3).bind fun x14 =>
        if x14 = 0 then
          some (0 : Int32)
        else
          some (64 : Int32)
      else
        some (0 : Int32)).bind fun p15 =>
      tq_let ((o12 ||| p15)) fun x16 =>
      tq_let (y3 + (1 : Int32)) fun x17 =>
      some (.inl (x16, x17))
def f_X11_canHave (t : Nat) (a1 : Int32) (h : tq_H) : Option (Int32) :=
  (tq_loop (f_X11_canHave_b4 t a1 h) tq_N ((0 : Int32), (0 : Int32))).bind fun o18 =>
  some o18
set_option maxHeartbeats 4000000 in
theorem l_X11_canHave_13 {l : Launch} {d : Nat} {Q : tq_R → tq_H → Prop} (hd9 : 0 ≤ d) (i0 : Nat) (i1 : Int32) (i3 : Int32) (hh : tq_H) : ∀ (n : Nat) (y2 : Int32) (y4 : Int32) (o : Int32), tq_loop (f_X11_canHave_b13 i0 i1 i3 hh) n (y2, y4) = some o → tq_W l mX11_canHave d 0 0 Q 64 [(0, .ref i0), (1, .int i1), (2, .int o), (3, .int i3)] [] hh → tq_W l mX11_canHave d 0 0 Q 13 [(0, .ref i0), (1, .int i1), (2, .int y2), (3, .int i3), (4, .int y4)] [] hh := by
  intro n
  induction n with
  | zero => intro y2 y4 o hl; cases hl
  | succ n ih =>
    intro y2 y4 o hl hk
    obtain ⟨oo, hf, ho⟩ := tq_loop_s hl
    refine tq_iload (M := mX11_canHave) (pc := 13) dX11_canHave_13 rfl ?_
    refine tq_bipush (M := mX11_canHave) (pc := 15) dX11_canHave_15 tk_kb_24 ?_
    refine tq_icmp_ge (M := mX11_canHave) (pc := 17) (tgt := 64) dX11_canHave_17 (by decide) (fun cc => ?_) (fun cc => ?_)
    · have hf := tq_ifp hf cc
      refine tq_pick (L2 := [(0, .ref i0), (1, .int i1), (2, .int y2), (3, .int i3)]) [0, 1, 2, 3] rfl ?_
      cases (Option.some.inj hf)
      cases (tq_lx ho)
      exact hk
    · have hf := tq_ifn hf cc
      refine tq_iload_n (M := mX11_canHave) (pc := 20) dX11_canHave_20 rfl ?_
      refine tq_iload_n (M := mX11_canHave) (pc := 21) dX11_canHave_21 rfl ?_
      refine tq_ishr (M := mX11_canHave) (pc := 22) dX11_canHave_22 ?_
      refine tq_iconst (M := mX11_canHave) (pc := 23) dX11_canHave_23 tk_ki_1 ?_
      refine tq_iand (M := mX11_canHave) (pc := 24) dX11_canHave_24 ?_
      refine tq_iconst (M := mX11_canHave) (pc := 25) dX11_canHave_25 tk_ki_1 ?_
      refine tq_icmp_ne (M := mX11_canHave) (pc := 26) (tgt := 64) dX11_canHave_26 (by decide) (fun cc => ?_) (fun cc => ?_)
      · have hf := tq_ifn hf cc
        refine tq_pick (L2 := [(0, .ref i0), (1, .int i1), (2, .int y2), (3, .int i3)]) [0, 1, 2, 3] rfl ?_
        cases (Option.some.inj hf)
        cases (tq_lx ho)
        exact hk
      · have hf := tq_ifp hf cc
        refine tq_iload_n (M := mX11_canHave) (pc := 29) dX11_canHave_29 rfl ?_
        refine tq_aload_n (M := mX11_canHave) (pc := 30) dX11_canHave_30 rfl ?_
        obtain ⟨k1, ek1, hf⟩ := tq_be hf
        refine tq_getR (M := mX11_canHave) (pc := 31) tk_c11 (by decide) dX11_canHave_31 tk_RX11_105 rfl ek1 ?_
        refine tq_bipush (M := mX11_canHave) (pc := 34) dX11_canHave_34 tk_kb_24 ?_
        refine tq_iload_n (M := mX11_canHave) (pc := 36) dX11_canHave_36 rfl ?_
        refine tq_imul (M := mX11_canHave) (pc := 37) dX11_canHave_37 ?_
        refine tq_iload (M := mX11_canHave) (pc := 38) dX11_canHave_38 rfl ?_
        refine tq_iadd (M := mX11_canHave) (pc := 40) dX11_canHave_40 ?_
        obtain ⟨x2, ex2, hf⟩ := tq_be hf
        refine tq_ialdF (M := mX11_canHave) (pc := 41) dX11_canHave_41 ex2 ?_
        obtain ⟨p3, ep3, hf⟩ := tq_le hf
        have HJ42 : tq_W l mX11_canHave d 0 0 Q 56 [(0, .ref i0), (1, .int i1), (3, .int i3), (4, .int y4)] [.int p3, .int y2] hh := by
          refine tq_ior (M := mX11_canHave) (pc := 56) dX11_canHave_56 ?_
          obtain ⟨x4, ex4, hf⟩ := tq_le hf
          refine tq_istore_n (M := mX11_canHave) (pc := 57) rfl dX11_canHave_57 (L2 := [(2, .int x4), (0, .ref i0), (1, .int i1), (3, .int i3), (4, .int y4)]) (by decide) (by rw [ex4]; rfl) ?_
          obtain ⟨x5, ex5, hf⟩ := tq_le hf
          refine tq_iinc (M := mX11_canHave) (pc := 58) (v := x5) (L2 := [(4, .int x5), (2, .int x4), (0, .ref i0), (1, .int i1), (3, .int i3)]) dX11_canHave_58 rfl (by rw [ex5, tk_ki_1]) (by decide) rfl ?_
          refine tq_goto (M := mX11_canHave) (pc := 61) (tgt := 13) dX11_canHave_61 (by decide) ?_
          refine tq_pick (L2 := [(0, .ref i0), (1, .int i1), (2, .int x4), (3, .int i3), (4, .int x5)]) [2, 3, 1, 4, 0] rfl ?_
          cases (Option.some.inj hf)
          exact ih _ _ o (tq_lc ho) hk
        refine tq_if_eq (M := mX11_canHave) (pc := 42) (tgt := 55) dX11_canHave_42 (by decide) (fun cc => ?_) (fun cc => ?_)
        · have hf := tq_ifp ep3.symm cc
          refine tq_iconst (M := mX11_canHave) (pc := 55) dX11_canHave_55 tk_ki_0 ?_
          refine tq_pick (L2 := [(0, .ref i0), (1, .int i1), (3, .int i3), (4, .int y4)]) [0, 1, 3, 4] rfl ?_
          cases hf
          exact HJ42
        · have hf := tq_ifn ep3.symm cc
          refine tq_iconst (M := mX11_canHave) (pc := 45) dX11_canHave_45 tk_ki_1 ?_
          refine tq_iload (M := mX11_canHave) (pc := 46) dX11_canHave_46 rfl ?_
          refine tq_bipush (M := mX11_canHave) (pc := 48) dX11_canHave_48 tk_kb_6 ?_
          refine tq_irem (M := mX11_canHave) (pc := 50) dX11_canHave_50 (by decide +kernel) ?_
          refine tq_ishl (M := mX11_canHave) (pc := 51) dX11_canHave_51 ?_
          refine tq_goto (M := mX11_canHave) (pc := 52) (tgt := 56) dX11_canHave_52 (by decide) ?_
          refine tq_pick (L2 := [(0, .ref i0), (1, .int i1), (3, .int i3), (4, .int y4)]) [0, 1, 3, 4] rfl ?_
          cases hf
          exact HJ42
set_option maxHeartbeats 4000000 in
theorem l_X11_canHave_67 {l : Launch} {d : Nat} {Q : tq_R → tq_H → Prop} (hd9 : 0 ≤ d) (i0 : Nat) (i1 : Int32) (i3 : Int32) (hh : tq_H) : ∀ (n : Nat) (y2 : Int32) (y4 : Int32) (o : Int32), tq_loop (f_X11_canHave_b67 i0 i1 i3 hh) n (y2, y4) = some o → tq_W l mX11_canHave d 0 0 Q 114 [(0, .ref i0), (1, .int i1), (2, .int o), (3, .int i3)] [] hh → tq_W l mX11_canHave d 0 0 Q 67 [(0, .ref i0), (1, .int i1), (2, .int y2), (3, .int i3), (4, .int y4)] [] hh := by
  intro n
  induction n with
  | zero => intro y2 y4 o hl; cases hl
  | succ n ih =>
    intro y2 y4 o hl hk
    obtain ⟨oo, hf, ho⟩ := tq_loop_s hl
    refine tq_iload (M := mX11_canHave) (pc := 67) dX11_canHave_67 rfl ?_
    refine tq_bipush (M := mX11_canHave) (pc := 69) dX11_canHave_69 tk_kb_8 ?_
    refine tq_icmp_ge (M := mX11_canHave) (pc := 71) (tgt := 114) dX11_canHave_71 (by decide) (fun cc => ?_) (fun cc => ?_)
    · have hf := tq_ifp hf cc
      refine tq_pick (L2 := [(0, .ref i0), (1, .int i1), (2, .int y2), (3, .int i3)]) [0, 1, 2, 3] rfl ?_
      cases (Option.some.inj hf)
      cases (tq_lx ho)
      exact hk
    · have hf := tq_ifn hf cc
      refine tq_iload_n (M := mX11_canHave) (pc := 74) dX11_canHave_74 rfl ?_
      refine tq_iload_n (M := mX11_canHave) (pc := 75) dX11_canHave_75 rfl ?_
      refine tq_ishr (M := mX11_canHave) (pc := 76) dX11_canHave_76 ?_
      refine tq_iconst (M := mX11_canHave) (pc := 77) dX11_canHave_77 tk_ki_1 ?_
      refine tq_iand (M := mX11_canHave) (pc := 78) dX11_canHave_78 ?_
      refine tq_iconst (M := mX11_canHave) (pc := 79) dX11_canHave_79 tk_ki_1 ?_
      refine tq_icmp_ne (M := mX11_canHave) (pc := 80) (tgt := 114) dX11_canHave_80 (by decide) (fun cc => ?_) (fun cc => ?_)
      · have hf := tq_ifn hf cc
        refine tq_pick (L2 := [(0, .ref i0), (1, .int i1), (2, .int y2), (3, .int i3)]) [0, 1, 2, 3] rfl ?_
        cases (Option.some.inj hf)
        cases (tq_lx ho)
        exact hk
      · have hf := tq_ifp hf cc
        refine tq_iload_n (M := mX11_canHave) (pc := 83) dX11_canHave_83 rfl ?_
        refine tq_aload_n (M := mX11_canHave) (pc := 84) dX11_canHave_84 rfl ?_
        obtain ⟨k7, ek7, hf⟩ := tq_be hf
        refine tq_getR (M := mX11_canHave) (pc := 85) tk_c11 (by decide) dX11_canHave_85 tk_RX11_99 rfl ek7 ?_
        refine tq_bipush (M := mX11_canHave) (pc := 88) dX11_canHave_88 tk_kb_8 ?_
        refine tq_iload_n (M := mX11_canHave) (pc := 90) dX11_canHave_90 rfl ?_
        refine tq_imul (M := mX11_canHave) (pc := 91) dX11_canHave_91 ?_
        refine tq_iload (M := mX11_canHave) (pc := 92) dX11_canHave_92 rfl ?_
        refine tq_iadd (M := mX11_canHave) (pc := 94) dX11_canHave_94 ?_
        obtain ⟨x8, ex8, hf⟩ := tq_be hf
        refine tq_ialdF (M := mX11_canHave) (pc := 95) dX11_canHave_95 ex8 ?_
        obtain ⟨p9, ep9, hf⟩ := tq_le hf
        have HJ96 : tq_W l mX11_canHave d 0 0 Q 106 [(0, .ref i0), (1, .int i1), (3, .int i3), (4, .int y4)] [.int p9, .int y2] hh := by
          refine tq_ior (M := mX11_canHave) (pc := 106) dX11_canHave_106 ?_
          obtain ⟨x10, ex10, hf⟩ := tq_le hf
          refine tq_istore_n (M := mX11_canHave) (pc := 107) rfl dX11_canHave_107 (L2 := [(2, .int x10), (0, .ref i0), (1, .int i1), (3, .int i3), (4, .int y4)]) (by decide) (by rw [ex10]; rfl) ?_
          obtain ⟨x11, ex11, hf⟩ := tq_le hf
          refine tq_iinc (M := mX11_canHave) (pc := 108) (v := x11) (L2 := [(4, .int x11), (2, .int x10), (0, .ref i0), (1, .int i1), (3, .int i3)]) dX11_canHave_108 rfl (by rw [ex11, tk_ki_1]) (by decide) rfl ?_
          refine tq_goto (M := mX11_canHave) (pc := 111) (tgt := 67) dX11_canHave_111 (by decide) ?_
          refine tq_pick (L2 := [(0, .ref i0), (1, .int i1), (2, .int x10), (3, .int i3), (4, .int x11)]) [2, 3, 1, 4, 0] rfl ?_
          cases (Option.some.inj hf)
          exact ih _ _ o (tq_lc ho) hk
        refine tq_if_eq (M := mX11_canHave) (pc := 96) (tgt := 105) dX11_canHave_96 (by decide) (fun cc => ?_) (fun cc => ?_)
        · have hf := tq_ifp ep9.symm cc
          refine tq_iconst (M := mX11_canHave) (pc := 105) dX11_canHave_105 tk_ki_0 ?_
          refine tq_pick (L2 := [(0, .ref i0), (1, .int i1), (3, .int i3), (4, .int y4)]) [0, 1, 3, 4] rfl ?_
          cases hf
          exact HJ96
        · have hf := tq_ifn ep9.symm cc
          refine tq_sipush (M := mX11_canHave) (pc := 99) dX11_canHave_99 tk_ks_128 ?_
          refine tq_goto (M := mX11_canHave) (pc := 102) (tgt := 106) dX11_canHave_102 (by decide) ?_
          refine tq_pick (L2 := [(0, .ref i0), (1, .int i1), (3, .int i3), (4, .int y4)]) [0, 1, 3, 4] rfl ?_
          cases hf
          exact HJ96
set_option maxHeartbeats 4000000 in
theorem l_X11_canHave_4 {l : Launch} {d : Nat} {Q : tq_R → tq_H → Prop} (hd9 : 0 ≤ d) (i0 : Nat) (i1 : Int32) (hh : tq_H) : ∀ (n : Nat) (y2 : Int32) (y3 : Int32) (o : Int32), tq_loop (f_X11_canHave_b4 i0 i1 hh) n (y2, y3) = some o → tq_W l mX11_canHave d 0 0 Q 147 [(2, .int o)] [] hh → tq_W l mX11_canHave d 0 0 Q 4 [(0, .ref i0), (1, .int i1), (2, .int y2), (3, .int y3)] [] hh := by
  intro n
  induction n with
  | zero => intro y2 y3 o hl; cases hl
  | succ n ih =>
    intro y2 y3 o hl hk
    obtain ⟨oo, hf, ho⟩ := tq_loop_s hl
    refine tq_iload_n (M := mX11_canHave) (pc := 4) dX11_canHave_4 rfl ?_
    refine tq_bipush (M := mX11_canHave) (pc := 5) dX11_canHave_5 tk_kb_6 ?_
    refine tq_icmp_ge (M := mX11_canHave) (pc := 7) (tgt := 147) dX11_canHave_7 (by decide) (fun cc => ?_) (fun cc => ?_)
    · have hf := tq_ifp hf cc
      refine tq_pick (L2 := [(2, .int y2)]) [2] rfl ?_
      cases (Option.some.inj hf)
      cases (tq_lx ho)
      exact hk
    · have hf := tq_ifn hf cc
      refine tq_iconst (M := mX11_canHave) (pc := 10) dX11_canHave_10 tk_ki_0 ?_
      refine tq_istore (M := mX11_canHave) (pc := 11) dX11_canHave_11 (L2 := [(4, .int (0 : Int32)), (0, .ref i0), (1, .int i1), (2, .int y2), (3, .int y3)]) (by decide) rfl ?_
      obtain ⟨o6, eo6, hf⟩ := tq_be hf
      refine tq_pick (L2 := [(0, .ref i0), (1, .int i1), (2, .int y2), (3, .int y3), (4, .int (0 : Int32))]) [1, 2, 3, 4, 0] rfl ?_
      refine l_X11_canHave_13 (by omega) i0 i1 y3 hh _ y2 (0 : Int32) _ eo6 ?_
      refine tq_iconst (M := mX11_canHave) (pc := 64) dX11_canHave_64 tk_ki_0 ?_
      refine tq_istore (M := mX11_canHave) (pc := 65) dX11_canHave_65 (L2 := [(4, .int (0 : Int32)), (0, .ref i0), (1, .int i1), (2, .int o6), (3, .int y3)]) (by decide) rfl ?_
      obtain ⟨o12, eo12, hf⟩ := tq_be hf
      refine tq_pick (L2 := [(0, .ref i0), (1, .int i1), (2, .int o6), (3, .int y3), (4, .int (0 : Int32))]) [1, 2, 3, 4, 0] rfl ?_
      refine l_X11_canHave_67 (by omega) i0 i1 y3 hh _ o6 (0 : Int32) _ eo12 ?_
      refine tq_iload_n (M := mX11_canHave) (pc := 114) dX11_canHave_114 rfl ?_
      refine tq_iload_n (M := mX11_canHave) (pc := 115) dX11_canHave_115 rfl ?_
      refine tq_iload_n (M := mX11_canHave) (pc := 116) dX11_canHave_116 rfl ?_
      refine tq_ishr (M := mX11_canHave) (pc := 117) dX11_canHave_117 ?_
      refine tq_iconst (M := mX11_canHave) (pc := 118) dX11_canHave_118 tk_ki_1 ?_
      refine tq_iand (M := mX11_canHave) (pc := 119) dX11_canHave_119 ?_
      refine tq_iconst (M := mX11_canHave) (pc := 120) dX11_canHave_120 tk_ki_1 ?_
      obtain ⟨p15, ep15, hf⟩ := tq_be hf
      have HJ121 : tq_W l mX11_canHave d 0 0 Q 139 [(0, .ref i0), (1, .int i1), (3, .int y3)] [.int p15, .int o12] hh := by
        refine tq_ior (M := mX11_canHave) (pc := 139) dX11_canHave_139 ?_
        obtain ⟨x16, ex16, hf⟩ := tq_le hf
        refine tq_istore_n (M := mX11_canHave) (pc := 140) rfl dX11_canHave_140 (L2 := [(2, .int x16), (0, .ref i0), (1, .int i1), (3, .int y3)]) (by decide) (by rw [ex16]; rfl) ?_
        obtain ⟨x17, ex17, hf⟩ := tq_le hf
        refine tq_iinc (M := mX11_canHave) (pc := 141) (v := x17) (L2 := [(3, .int x17), (2, .int x16), (0, .ref i0), (1, .int i1)]) dX11_canHave_141 rfl (by rw [ex17, tk_ki_1]) (by decide) rfl ?_
        refine tq_goto (M := mX11_canHave) (pc := 144) (tgt := 4) dX11_canHave_144 (by decide) ?_
        refine tq_pick (L2 := [(0, .ref i0), (1, .int i1), (2, .int x16), (3, .int x17)]) [2, 3, 1, 0] rfl ?_
        cases (Option.some.inj hf)
        exact ih _ _ o (tq_lc ho) hk
      refine tq_icmp_ne (M := mX11_canHave) (pc := 121) (tgt := 138) dX11_canHave_121 (by decide) (fun cc => ?_) (fun cc => ?_)
      · have hf := tq_ifn ep15 cc
        refine tq_iconst (M := mX11_canHave) (pc := 138) dX11_canHave_138 tk_ki_0 ?_
        refine tq_pick (L2 := [(0, .ref i0), (1, .int i1), (3, .int y3)]) [0, 1, 3] rfl ?_
        cases (Option.some.inj hf)
        exact HJ121
      · have hf := tq_ifp ep15 cc
        refine tq_aload_n (M := mX11_canHave) (pc := 124) dX11_canHave_124 rfl ?_
        obtain ⟨k13, ek13, hf⟩ := tq_be hf
        refine tq_getR (M := mX11_canHave) (pc := 125) tk_c11 (by decide) dX11_canHave_125 tk_RX11_96 rfl ek13 ?_
        refine tq_iload_n (M := mX11_canHave) (pc := 128) dX11_canHave_128 rfl ?_
        obtain ⟨x14, ex14, hf⟩ := tq_be hf
        refine tq_zaldF (M := mX11_canHave) (pc := 129) dX11_canHave_129 ex14 ?_
        refine tq_if_eq (M := mX11_canHave) (pc := 130) (tgt := 138) dX11_canHave_130 (by decide) (fun cc => ?_) (fun cc => ?_)
        · have hf := tq_ifp hf cc
          refine tq_iconst (M := mX11_canHave) (pc := 138) dX11_canHave_138 tk_ki_0 ?_
          refine tq_pick (L2 := [(0, .ref i0), (1, .int i1), (3, .int y3)]) [0, 1, 3] rfl ?_
          cases (Option.some.inj hf)
          exact HJ121
        · have hf := tq_ifn hf cc
          refine tq_bipush (M := mX11_canHave) (pc := 133) dX11_canHave_133 tk_kb_64 ?_
          refine tq_goto (M := mX11_canHave) (pc := 135) (tgt := 139) dX11_canHave_135 (by decide) ?_
          refine tq_pick (L2 := [(0, .ref i0), (1, .int i1), (3, .int y3)]) [0, 1, 3] rfl ?_
          cases (Option.some.inj hf)
          exact HJ121
set_option maxHeartbeats 4000000 in
set_option maxRecDepth 20000 in
theorem w_X11_canHave {l : Launch} {d : Nat} (hd9 : 0 ≤ d) {t : Nat} {a1 : Int32} {h : tq_H} {o : Int32} {Q : tq_R → tq_H → Prop} (hf : f_X11_canHave t a1 h = some o) (hQ : ∀ r h9, r = .inl (some (.int o)) ∧ h = h9 → Q r h9) : tq_C l yX11_canHave cX11_canHave 5 (some .int) d 0 0 [.ref t, .int a1] h Q := by
  refine tq_body (y := yX11_canHave) false (by decide +kernel) (fun z => by cases z) (Nat.le_of_ble_eq_true rfl) ?_
  show tq_W l mX11_canHave d 0 0 Q 0 [(0, .ref t), (1, .int a1)] [] h
  refine tq_iconst (M := mX11_canHave) (pc := 0) dX11_canHave_0 tk_ki_0 ?_
  refine tq_istore_n (M := mX11_canHave) (pc := 1) rfl dX11_canHave_1 (L2 := [(2, .int (0 : Int32)), (0, .ref t), (1, .int a1)]) (by decide) rfl ?_
  refine tq_iconst (M := mX11_canHave) (pc := 2) dX11_canHave_2 tk_ki_0 ?_
  refine tq_istore_n (M := mX11_canHave) (pc := 3) rfl dX11_canHave_3 (L2 := [(3, .int (0 : Int32)), (2, .int (0 : Int32)), (0, .ref t), (1, .int a1)]) (by decide) rfl ?_
  obtain ⟨o18, eo18, hf⟩ := tq_be hf
  refine tq_pick (L2 := [(0, .ref t), (1, .int a1), (2, .int (0 : Int32)), (3, .int (0 : Int32))]) [2, 3, 1, 0] rfl ?_
  refine l_X11_canHave_4 (by omega) t a1 h _ (0 : Int32) (0 : Int32) _ eo18 ?_
  refine tq_iload_n (M := mX11_canHave) (pc := 147) dX11_canHave_147 rfl ?_
  refine tq_iret (M := mX11_canHave) (pc := 148) dX11_canHave_148 rfl ?_
  cases (Option.some.inj hf)
  exact hQ _ _ ⟨rfl, rfl⟩
abbrev mX11_allTypes : tq_M := (RX11, cX11_allTypes, 3, (some .int), false, [], none)
def f_X11_allTypes_b4 (i0 : Nat) (hh : tq_H) (s : Int32 × Int32) : Option ((Int32 × Int32) ⊕ (Int32)) := match s with
  | (y1, y2) =>
    if y2 > (6 : Int32) then
      some (.inr y1)
    else
      (tq_is hh i0 11).bind fun _ =>
      (f_X11_canHave i0 y1 hh).bind fun v1 =>
      tq_let ((y1 ||| v1)) fun x3 =>
      tq_let (y2 + (1 : Int32)) fun x4 =>
      some (.inl (x3, x4))
def f_X11_allTypes (t : Nat) (h : tq_H) : Option (Int32) :=
  (tq_loop (f_X11_allTypes_b4 t h) tq_N ((1 : Int32), (0 : Int32))).bind fun o5 =>
  some o5
set_option maxHeartbeats 4000000 in
theorem l_X11_allTypes_4 {l : Launch} {d : Nat} {Q : tq_R → tq_H → Prop} (hd9 : 1 ≤ d) (i0 : Nat) (hh : tq_H) : ∀ (n : Nat) (y1 : Int32) (y2 : Int32) (o : Int32), tq_loop (f_X11_allTypes_b4 i0 hh) n (y1, y2) = some o → tq_W l mX11_allTypes d 0 0 Q 24 [(1, .int o)] [] hh → tq_W l mX11_allTypes d 0 0 Q 4 [(0, .ref i0), (1, .int y1), (2, .int y2)] [] hh := by
  intro n
  induction n with
  | zero => intro y1 y2 o hl; cases hl
  | succ n ih =>
    intro y1 y2 o hl hk
    obtain ⟨oo, hf, ho⟩ := tq_loop_s hl
    refine tq_iload_n (M := mX11_allTypes) (pc := 4) dX11_allTypes_4 rfl ?_
    refine tq_bipush (M := mX11_allTypes) (pc := 5) dX11_allTypes_5 tk_kb_6 ?_
    refine tq_icmp_gt (M := mX11_allTypes) (pc := 7) (tgt := 24) dX11_allTypes_7 (by decide) (fun cc => ?_) (fun cc => ?_)
    · have hf := tq_ifp hf cc
      refine tq_pick (L2 := [(1, .int y1)]) [1] rfl ?_
      cases (Option.some.inj hf)
      cases (tq_lx ho)
      exact hk
    · have hf := tq_ifn hf cc
      refine tq_iload_n (M := mX11_allTypes) (pc := 10) dX11_allTypes_10 rfl ?_
      refine tq_aload_n (M := mX11_allTypes) (pc := 11) dX11_allTypes_11 rfl ?_
      refine tq_iload_n (M := mX11_allTypes) (pc := 12) dX11_allTypes_12 rfl ?_
      obtain ⟨⟨⟩, eu2, hf⟩ := tq_be hf
      obtain ⟨fsu2, eu2⟩ := tq_is_s eu2
      obtain ⟨v1, ev1, hf⟩ := tq_be hf
      refine tq_calV (M := mX11_allTypes) (pc := 13) (S := [.int y1]) tk_y_X11_canHave tk_v_X11_canHave tk_RX11_388 dX11_allTypes_13 [.int y1] rfl (S0 := _) rfl eu2 rfl (Nat.le_of_ble_eq_true rfl) (d1 := d - 1) (b1 := 0) (s1 := 0) (bc' := 0) (bs' := 0) (Q1 := fun r h9 => r = .inl (some (.int v1)) ∧ hh = h9) (by omega) rfl rfl (w_X11_canHave (by omega) ev1 (fun _ _ q => q)) (fun E h9 q => nomatch (show (Sum.inr E : tq_R) = Sum.inl _ from q.1)) (fun r9 h9 q => ?_)
      obtain ⟨q1, rfl⟩ := q
      cases (show (Sum.inl r9 : tq_R) = Sum.inl (some (.int v1)) from q1)
      refine tq_ior (M := mX11_allTypes) (pc := 16) dX11_allTypes_16 ?_
      obtain ⟨x3, ex3, hf⟩ := tq_le hf
      refine tq_istore_n (M := mX11_allTypes) (pc := 17) rfl dX11_allTypes_17 (L2 := [(1, .int x3), (0, .ref i0), (2, .int y2)]) (by decide) (by rw [ex3]; rfl) ?_
      obtain ⟨x4, ex4, hf⟩ := tq_le hf
      refine tq_iinc (M := mX11_allTypes) (pc := 18) (v := x4) (L2 := [(2, .int x4), (1, .int x3), (0, .ref i0)]) dX11_allTypes_18 rfl (by rw [ex4, tk_ki_1]) (by decide) rfl ?_
      refine tq_goto (M := mX11_allTypes) (pc := 21) (tgt := 4) dX11_allTypes_21 (by decide) ?_
      refine tq_pick (L2 := [(0, .ref i0), (1, .int x3), (2, .int x4)]) [2, 1, 0] rfl ?_
      cases (Option.some.inj hf)
      exact ih _ _ o (tq_lc ho) hk
set_option maxHeartbeats 4000000 in
set_option maxRecDepth 20000 in
theorem w_X11_allTypes {l : Launch} {d : Nat} (hd9 : 1 ≤ d) {t : Nat} {h : tq_H} {o : Int32} {Q : tq_R → tq_H → Prop} (hf : f_X11_allTypes t h = some o) (hQ : ∀ r h9, r = .inl (some (.int o)) ∧ h = h9 → Q r h9) : tq_C l yX11_allTypes cX11_allTypes 3 (some .int) d 0 0 [.ref t] h Q := by
  refine tq_body (y := yX11_allTypes) false (by decide +kernel) (fun z => by cases z) (Nat.le_of_ble_eq_true rfl) ?_
  show tq_W l mX11_allTypes d 0 0 Q 0 [(0, .ref t)] [] h
  refine tq_iconst (M := mX11_allTypes) (pc := 0) dX11_allTypes_0 tk_ki_1 ?_
  refine tq_istore_n (M := mX11_allTypes) (pc := 1) rfl dX11_allTypes_1 (L2 := [(1, .int (1 : Int32)), (0, .ref t)]) (by decide) rfl ?_
  refine tq_iconst (M := mX11_allTypes) (pc := 2) dX11_allTypes_2 tk_ki_0 ?_
  refine tq_istore_n (M := mX11_allTypes) (pc := 3) rfl dX11_allTypes_3 (L2 := [(2, .int (0 : Int32)), (1, .int (1 : Int32)), (0, .ref t)]) (by decide) rfl ?_
  obtain ⟨o5, eo5, hf⟩ := tq_be hf
  refine tq_pick (L2 := [(0, .ref t), (1, .int (1 : Int32)), (2, .int (0 : Int32))]) [2, 1, 0] rfl ?_
  refine l_X11_allTypes_4 (by omega) t h _ (1 : Int32) (0 : Int32) _ eo5 ?_
  refine tq_iload_n (M := mX11_allTypes) (pc := 24) dX11_allTypes_24 rfl ?_
  refine tq_iret (M := mX11_allTypes) (pc := 25) dX11_allTypes_25 rfl ?_
  cases (Option.some.inj hf)
  exact hQ _ _ ⟨rfl, rfl⟩
abbrev mX11_childrenOf : tq_M := (RX11, cX11_childrenOf, 2, (some .int), false, [], none)
def f_X11_childrenOf (t : Nat) (a1 : Int32) (h : tq_H) : Option (Int32) :=
  (tq_is h t 11).bind fun _ =>
  (f_X11_canHave t a1 h).bind fun v1 =>
  some (v1 &&& (-129 : Int32))
set_option maxHeartbeats 4000000 in
set_option maxRecDepth 20000 in
theorem w_X11_childrenOf {l : Launch} {d : Nat} (hd9 : 1 ≤ d) {t : Nat} {a1 : Int32} {h : tq_H} {o : Int32} {Q : tq_R → tq_H → Prop} (hf : f_X11_childrenOf t a1 h = some o) (hQ : ∀ r h9, r = .inl (some (.int o)) ∧ h = h9 → Q r h9) : tq_C l yX11_childrenOf cX11_childrenOf 2 (some .int) d 0 0 [.ref t, .int a1] h Q := by
  refine tq_body (y := yX11_childrenOf) false (by decide +kernel) (fun z => by cases z) (Nat.le_of_ble_eq_true rfl) ?_
  show tq_W l mX11_childrenOf d 0 0 Q 0 [(0, .ref t), (1, .int a1)] [] h
  refine tq_aload_n (M := mX11_childrenOf) (pc := 0) dX11_childrenOf_0 rfl ?_
  refine tq_iload_n (M := mX11_childrenOf) (pc := 1) dX11_childrenOf_1 rfl ?_
  obtain ⟨⟨⟩, eu2, hf⟩ := tq_be hf
  obtain ⟨fsu2, eu2⟩ := tq_is_s eu2
  obtain ⟨v1, ev1, hf⟩ := tq_be hf
  refine tq_calV (M := mX11_childrenOf) (pc := 2) (S := []) tk_y_X11_canHave tk_v_X11_canHave tk_RX11_388 dX11_childrenOf_2 [.int a1] rfl (S0 := _) rfl eu2 rfl (Nat.le_of_ble_eq_true rfl) (d1 := d - 1) (b1 := 0) (s1 := 0) (bc' := 0) (bs' := 0) (Q1 := fun r h9 => r = .inl (some (.int v1)) ∧ h = h9) (by omega) rfl rfl (w_X11_canHave (by omega) ev1 (fun _ _ q => q)) (fun E h9 q => nomatch (show (Sum.inr E : tq_R) = Sum.inl _ from q.1)) (fun r9 h9 q => ?_)
  obtain ⟨q1, rfl⟩ := q
  cases (show (Sum.inl r9 : tq_R) = Sum.inl (some (.int v1)) from q1)
  refine tq_sipush (M := mX11_childrenOf) (pc := 5) dX11_childrenOf_5 tk_ks_m129 ?_
  refine tq_iand (M := mX11_childrenOf) (pc := 8) dX11_childrenOf_8 ?_
  refine tq_iret (M := mX11_childrenOf) (pc := 9) dX11_childrenOf_9 rfl ?_
  cases (Option.some.inj hf)
  exact hQ _ _ ⟨rfl, rfl⟩
abbrev mX11_parentsOf : tq_M := (RX11, cX11_parentsOf, 5, (some .int), false, [], none)
def f_X11_parentsOf_b5 (i0 : Nat) (i1 : Int32) (i2 : Int32) (hh : tq_H) (s : Int32 × Int32) : Option ((Int32 × Int32) ⊕ (Int32)) := match s with
  | (y3, y4) =>
    if y4 ≥ (6 : Int32) then
      some (.inr y3)
    else
      (if ((i2 >>> (y4 &&& 31)) &&& (1 : Int32)) = (1 : Int32) then
        (tq_is hh i0 11).bind fun _ =>
        (f_X11_canHave i0 ((1 : Int32) <<< (y4 &&& 31)) hh).bind fun v1 =>
        if (v1 &&& i1) = 0 then
          some (0 : Int32)
        else
          some ((1 : Int32) <<< (y4 &&& 31))
      else
        some (0 : Int32)).bind fun p3 =>
      tq_let ((y3 ||| p3)) fun x4 =>
      tq_let (y4 + (1 : Int32)) fun x5 =>
      some (.inl (x4, x5))
def f_X11_parentsOf (t : Nat) (a1 : Int32) (a2 : Int32) (h : tq_H) : Option (Int32) :=
  (tq_loop (f_X11_parentsOf_b5 t a1 a2 h) tq_N ((0 : Int32), (0 : Int32))).bind fun o6 =>
  some o6
set_option maxHeartbeats 4000000 in
theorem l_X11_parentsOf_5 {l : Launch} {d : Nat} {Q : tq_R → tq_H → Prop} (hd9 : 1 ≤ d) (i0 : Nat) (i1 : Int32) (i2 : Int32) (hh : tq_H) : ∀ (n : Nat) (y3 : Int32) (y4 : Int32) (o : Int32), tq_loop (f_X11_parentsOf_b5 i0 i1 i2 hh) n (y3, y4) = some o → tq_W l mX11_parentsOf d 0 0 Q 52 [(3, .int o)] [] hh → tq_W l mX11_parentsOf d 0 0 Q 5 [(0, .ref i0), (1, .int i1), (2, .int i2), (3, .int y3), (4, .int y4)] [] hh := by
  intro n
  induction n with
  | zero => intro y3 y4 o hl; cases hl
  | succ n ih =>
    intro y3 y4 o hl hk
    obtain ⟨oo, hf, ho⟩ := tq_loop_s hl
    refine tq_iload (M := mX11_parentsOf) (pc := 5) dX11_parentsOf_5 rfl ?_
    refine tq_bipush (M := mX11_parentsOf) (pc := 7) dX11_parentsOf_7 tk_kb_6 ?_
    refine tq_icmp_ge (M := mX11_parentsOf) (pc := 9) (tgt := 52) dX11_parentsOf_9 (by decide) (fun cc => ?_) (fun cc => ?_)
    · have hf := tq_ifp hf cc
      refine tq_pick (L2 := [(3, .int y3)]) [3] rfl ?_
      cases (Option.some.inj hf)
      cases (tq_lx ho)
      exact hk
    · have hf := tq_ifn hf cc
      refine tq_iload_n (M := mX11_parentsOf) (pc := 12) dX11_parentsOf_12 rfl ?_
      refine tq_iload_n (M := mX11_parentsOf) (pc := 13) dX11_parentsOf_13 rfl ?_
      refine tq_iload (M := mX11_parentsOf) (pc := 14) dX11_parentsOf_14 rfl ?_
      refine tq_ishr (M := mX11_parentsOf) (pc := 16) dX11_parentsOf_16 ?_
      refine tq_iconst (M := mX11_parentsOf) (pc := 17) dX11_parentsOf_17 tk_ki_1 ?_
      refine tq_iand (M := mX11_parentsOf) (pc := 18) dX11_parentsOf_18 ?_
      refine tq_iconst (M := mX11_parentsOf) (pc := 19) dX11_parentsOf_19 tk_ki_1 ?_
      obtain ⟨p3, ep3, hf⟩ := tq_be hf
      have HJ20 : tq_W l mX11_parentsOf d 0 0 Q 44 [(0, .ref i0), (1, .int i1), (2, .int i2), (4, .int y4)] [.int p3, .int y3] hh := by
        refine tq_ior (M := mX11_parentsOf) (pc := 44) dX11_parentsOf_44 ?_
        obtain ⟨x4, ex4, hf⟩ := tq_le hf
        refine tq_istore_n (M := mX11_parentsOf) (pc := 45) rfl dX11_parentsOf_45 (L2 := [(3, .int x4), (0, .ref i0), (1, .int i1), (2, .int i2), (4, .int y4)]) (by decide) (by rw [ex4]; rfl) ?_
        obtain ⟨x5, ex5, hf⟩ := tq_le hf
        refine tq_iinc (M := mX11_parentsOf) (pc := 46) (v := x5) (L2 := [(4, .int x5), (3, .int x4), (0, .ref i0), (1, .int i1), (2, .int i2)]) dX11_parentsOf_46 rfl (by rw [ex5, tk_ki_1]) (by decide) rfl ?_
        refine tq_goto (M := mX11_parentsOf) (pc := 49) (tgt := 5) dX11_parentsOf_49 (by decide) ?_
        refine tq_pick (L2 := [(0, .ref i0), (1, .int i1), (2, .int i2), (3, .int x4), (4, .int x5)]) [2, 3, 4, 1, 0] rfl ?_
        cases (Option.some.inj hf)
        exact ih _ _ o (tq_lc ho) hk
      refine tq_icmp_ne (M := mX11_parentsOf) (pc := 20) (tgt := 43) dX11_parentsOf_20 (by decide) (fun cc => ?_) (fun cc => ?_)
      · have hf := tq_ifn ep3 cc
        refine tq_iconst (M := mX11_parentsOf) (pc := 43) dX11_parentsOf_43 tk_ki_0 ?_
        refine tq_pick (L2 := [(0, .ref i0), (1, .int i1), (2, .int i2), (4, .int y4)]) [0, 1, 2, 4] rfl ?_
        cases (Option.some.inj hf)
        exact HJ20
      · have hf := tq_ifp ep3 cc
        refine tq_aload_n (M := mX11_parentsOf) (pc := 23) dX11_parentsOf_23 rfl ?_
        refine tq_iconst (M := mX11_parentsOf) (pc := 24) dX11_parentsOf_24 tk_ki_1 ?_
        refine tq_iload (M := mX11_parentsOf) (pc := 25) dX11_parentsOf_25 rfl ?_
        refine tq_ishl (M := mX11_parentsOf) (pc := 27) dX11_parentsOf_27 ?_
        obtain ⟨⟨⟩, eu2, hf⟩ := tq_be hf
        obtain ⟨fsu2, eu2⟩ := tq_is_s eu2
        obtain ⟨v1, ev1, hf⟩ := tq_be hf
        refine tq_calV (M := mX11_parentsOf) (pc := 28) (S := [.int y3]) tk_y_X11_canHave tk_v_X11_canHave tk_RX11_388 dX11_parentsOf_28 [.int (((1 : Int32) <<< (y4 &&& 31)))] rfl (S0 := _) rfl eu2 rfl (Nat.le_of_ble_eq_true rfl) (d1 := d - 1) (b1 := 0) (s1 := 0) (bc' := 0) (bs' := 0) (Q1 := fun r h9 => r = .inl (some (.int v1)) ∧ hh = h9) (by omega) rfl rfl (w_X11_canHave (by omega) ev1 (fun _ _ q => q)) (fun E h9 q => nomatch (show (Sum.inr E : tq_R) = Sum.inl _ from q.1)) (fun r9 h9 q => ?_)
        obtain ⟨q1, rfl⟩ := q
        cases (show (Sum.inl r9 : tq_R) = Sum.inl (some (.int v1)) from q1)
        refine tq_iload_n (M := mX11_parentsOf) (pc := 31) dX11_parentsOf_31 rfl ?_
        refine tq_iand (M := mX11_parentsOf) (pc := 32) dX11_parentsOf_32 ?_
        refine tq_if_eq (M := mX11_parentsOf) (pc := 33) (tgt := 43) dX11_parentsOf_33 (by decide) (fun cc => ?_) (fun cc => ?_)
        · have hf := tq_ifp hf cc
          refine tq_iconst (M := mX11_parentsOf) (pc := 43) dX11_parentsOf_43 tk_ki_0 ?_
          refine tq_pick (L2 := [(0, .ref i0), (1, .int i1), (2, .int i2), (4, .int y4)]) [0, 1, 2, 4] rfl ?_
          cases (Option.some.inj hf)
          exact HJ20
        · have hf := tq_ifn hf cc
          refine tq_iconst (M := mX11_parentsOf) (pc := 36) dX11_parentsOf_36 tk_ki_1 ?_
          refine tq_iload (M := mX11_parentsOf) (pc := 37) dX11_parentsOf_37 rfl ?_
          refine tq_ishl (M := mX11_parentsOf) (pc := 39) dX11_parentsOf_39 ?_
          refine tq_goto (M := mX11_parentsOf) (pc := 40) (tgt := 44) dX11_parentsOf_40 (by decide) ?_
          refine tq_pick (L2 := [(0, .ref i0), (1, .int i1), (2, .int i2), (4, .int y4)]) [0, 1, 2, 4] rfl ?_
          cases (Option.some.inj hf)
          exact HJ20
set_option maxHeartbeats 4000000 in
set_option maxRecDepth 20000 in
theorem w_X11_parentsOf {l : Launch} {d : Nat} (hd9 : 1 ≤ d) {t : Nat} {a1 : Int32} {a2 : Int32} {h : tq_H} {o : Int32} {Q : tq_R → tq_H → Prop} (hf : f_X11_parentsOf t a1 a2 h = some o) (hQ : ∀ r h9, r = .inl (some (.int o)) ∧ h = h9 → Q r h9) : tq_C l yX11_parentsOf cX11_parentsOf 5 (some .int) d 0 0 [.ref t, .int a1, .int a2] h Q := by
  refine tq_body (y := yX11_parentsOf) false (by decide +kernel) (fun z => by cases z) (Nat.le_of_ble_eq_true rfl) ?_
  show tq_W l mX11_parentsOf d 0 0 Q 0 [(0, .ref t), (1, .int a1), (2, .int a2)] [] h
  refine tq_iconst (M := mX11_parentsOf) (pc := 0) dX11_parentsOf_0 tk_ki_0 ?_
  refine tq_istore_n (M := mX11_parentsOf) (pc := 1) rfl dX11_parentsOf_1 (L2 := [(3, .int (0 : Int32)), (0, .ref t), (1, .int a1), (2, .int a2)]) (by decide) rfl ?_
  refine tq_iconst (M := mX11_parentsOf) (pc := 2) dX11_parentsOf_2 tk_ki_0 ?_
  refine tq_istore (M := mX11_parentsOf) (pc := 3) dX11_parentsOf_3 (L2 := [(4, .int (0 : Int32)), (3, .int (0 : Int32)), (0, .ref t), (1, .int a1), (2, .int a2)]) (by decide) rfl ?_
  obtain ⟨o6, eo6, hf⟩ := tq_be hf
  refine tq_pick (L2 := [(0, .ref t), (1, .int a1), (2, .int a2), (3, .int (0 : Int32)), (4, .int (0 : Int32))]) [2, 3, 4, 1, 0] rfl ?_
  refine l_X11_parentsOf_5 (by omega) t a1 a2 h _ (0 : Int32) (0 : Int32) _ eo6 ?_
  refine tq_iload_n (M := mX11_parentsOf) (pc := 52) dX11_parentsOf_52 rfl ?_
  refine tq_iret (M := mX11_parentsOf) (pc := 53) dX11_parentsOf_53 rfl ?_
  cases (Option.some.inj hf)
  exact hQ _ _ ⟨rfl, rfl⟩
abbrev mX11_cameBy : tq_M := (RX11, cX11_cameBy, 8, (some .int), false, [], none)
def f_X11_cameBy_b102 (i0 : Nat) (i1 : Int32) (i4 : Int32) (hh : tq_H) (s : Int32 × Int32 × Int32) : Option ((Int32 × Int32 × Int32) ⊕ (Int32)) := match s with
  | (y5, y6, y7) =>
    if y6 ≥ (9 : Int32) then
      some (.inr y5)
    else
      (tq_is hh i0 11).bind fun _ =>
      (f_X11_childrenOf i0 y7 hh).bind fun v6 =>
      tq_let ((y5 ||| v6)) fun x8 =>
      tq_let (y6 + (1 : Int32)) fun x9 =>
      some (.inl (x8, x9, x8))
def f_X11_cameBy_b102_2 (i0 : Nat) (i1 : Int32) (i4 : Int32) (hh : tq_H) (s : Int32 × Int32 × Int32) : Option ((Int32 × Int32 × Int32) ⊕ (Int32)) := match s with
  | (y5, y6, y7) =>
    if y6 ≥ (9 : Int32) then
      some (.inr y5)
    else
      (tq_is hh i0 11).bind fun _ =>
      (f_X11_childrenOf i0 y7 hh).bind fun v13 =>
      tq_let ((y5 ||| v13)) fun x15 =>
      tq_let (y6 + (1 : Int32)) fun x16 =>
      some (.inl (x15, x16, x15))
def f_X11_cameBy_b167 (i0 : Nat) (i4 : Int32) (hh : tq_H) (s : Int32 × Int32 × Int32) : Option ((Int32 × Int32 × Int32) ⊕ (Int32)) := match s with
  | (y5, y6, y7) =>
    if y6 ≥ (9 : Int32) then
      some (.inr y5)
    else
      (tq_is hh i0 11).bind fun _ =>
      (f_X11_parentsOf i0 y7 i4 hh).bind fun v20 =>
      tq_let ((y5 ||| v20)) fun x22 =>
      tq_let (y6 + (1 : Int32)) fun x23 =>
      some (.inl (x22, x23, x22))
def f_X11_cameBy_b167_2 (i0 : Nat) (i4 : Int32) (hh : tq_H) (s : Int32 × Int32 × Int32) : Option ((Int32 × Int32 × Int32) ⊕ (Int32)) := match s with
  | (y5, y6, y7) =>
    if y6 ≥ (9 : Int32) then
      some (.inr y5)
    else
      (tq_is hh i0 11).bind fun _ =>
      (f_X11_parentsOf i0 y7 i4 hh).bind fun v26 =>
      tq_let ((y5 ||| v26)) fun x28 =>
      tq_let (y6 + (1 : Int32)) fun x29 =>
      some (.inl (x28, x29, x28))
def f_X11_cameBy_b247 (i0 : Nat) (i2 : Int32) (hh : tq_H) (s : Int32 × Int32 × Int32) : Option ((Int32 × Int32 × Int32) ⊕ (Int32)) := match s with
  | (y5, y6, y7) =>
    if y6 ≥ (256 : Int32) then
      some (.inr y5)
    else
      (tq_gr hh i0 11 43).bind fun k43 =>
      (tq_ai hh k43 (((256 : Int32) * i2) + y7)).bind fun x44 =>
      tq_let ((y5 ||| x44)) fun x45 =>
      tq_let (y6 + (1 : Int32)) fun x46 =>
      some (.inl (x45, x46, x44))
def f_X11_cameBy (t : Nat) (a1 : Int32) (a2 : Int32) (a3 : Int32) (a4 : Int32) (h : tq_H) : Option (Int32) :=
  if a1 = (0 : Int32) then
    some a3
  else
  if a1 = (1 : Int32) then
    (tq_is h t 11).bind fun _ =>
    (f_X11_childrenOf t a3 h).bind fun v1 =>
    some v1
  else
  if a1 = (2 : Int32) then
    (tq_is h t 11).bind fun _ =>
    (f_X11_parentsOf t a3 a4 h).bind fun v3 =>
    some v3
  else
  if a1 = (3 : Int32) then
    tq_let (if a1 = (3 : Int32) then (0 : Int32) else a3) fun p5 =>
    (tq_loop (f_X11_cameBy_b102 t a1 a4 h) tq_N (p5, (0 : Int32), a3)).bind fun o10 =>
    tq_let (if a1 = (3 : Int32) then a4 else (-1 : Int32)) fun p11 =>
    some (o10 &&& p11)
  else
  if a1 = (4 : Int32) then
    tq_let (if a1 = (3 : Int32) then (0 : Int32) else a3) fun p12 =>
    (tq_loop (f_X11_cameBy_b102_2 t a1 a4 h) tq_N (p12, (0 : Int32), a3)).bind fun o17 =>
    tq_let (if a1 = (3 : Int32) then a4 else (-1 : Int32)) fun p18 =>
    some (o17 &&& p18)
  else
  if a1 = (5 : Int32) then
    tq_let (if a1 = (5 : Int32) then (0 : Int32) else a3) fun p19 =>
    (tq_loop (f_X11_cameBy_b167 t a4 h) tq_N (p19, (0 : Int32), a3)).bind fun o24 =>
    some o24
  else
  if a1 = (6 : Int32) then
    tq_let (if a1 = (5 : Int32) then (0 : Int32) else a3) fun p25 =>
    (tq_loop (f_X11_cameBy_b167_2 t a4 h) tq_N (p25, (0 : Int32), a3)).bind fun o30 =>
    some o30
  else
  if a1 = (7 : Int32) then
    tq_let (if a3 = 0 then (0 : Int32) else (a4 &&& (-129 : Int32))) fun p31 =>
    some p31
  else
  if a1 = (8 : Int32) then
    tq_let (if a3 = 0 then (0 : Int32) else (a4 &&& (-129 : Int32))) fun p32 =>
    some p32
  else
  if a1 = (9 : Int32) then
    (tq_is h t 11).bind fun _ =>
    (f_X11_parentsOf t a3 a4 h).bind fun v33 =>
    (tq_is h t 11).bind fun _ =>
    (f_X11_childrenOf t v33 h).bind fun v35 =>
    some v35
  else
  if a1 = (10 : Int32) then
    (tq_is h t 11).bind fun _ =>
    (f_X11_parentsOf t a3 a4 h).bind fun v37 =>
    (tq_is h t 11).bind fun _ =>
    (f_X11_childrenOf t v37 h).bind fun v39 =>
    some v39
  else
  if a1 = (11 : Int32) then
    (tq_is h t 11).bind fun _ =>
    (f_X11_canHave t a3 h).bind fun v41 =>
    some (v41 &&& (128 : Int32))
  else
    (tq_loop (f_X11_cameBy_b247 t a2 h) tq_N ((0 : Int32), (0 : Int32), a3)).bind fun o47 =>
    some o47
set_option maxHeartbeats 4000000 in
theorem l_X11_cameBy_102 {l : Launch} {d : Nat} {Q : tq_R → tq_H → Prop} (hd9 : 2 ≤ d) (i0 : Nat) (i1 : Int32) (i4 : Int32) (hh : tq_H) : ∀ (n : Nat) (y5 : Int32) (y6 : Int32) (y7 : Int32) (o : Int32), tq_loop (f_X11_cameBy_b102 i0 i1 i4 hh) n (y5, y6, y7) = some o → tq_W l mX11_cameBy d 0 0 Q 134 [(1, .int i1), (4, .int i4), (5, .int o)] [] hh → tq_W l mX11_cameBy d 0 0 Q 102 [(0, .ref i0), (1, .int i1), (4, .int i4), (5, .int y5), (6, .int y6), (7, .int y7)] [] hh := by
  intro n
  induction n with
  | zero => intro y5 y6 y7 o hl; cases hl
  | succ n ih =>
    intro y5 y6 y7 o hl hk
    obtain ⟨oo, hf, ho⟩ := tq_loop_s hl
    refine tq_iload (M := mX11_cameBy) (pc := 102) dX11_cameBy_102 rfl ?_
    refine tq_bipush (M := mX11_cameBy) (pc := 104) dX11_cameBy_104 tk_kb_9 ?_
    refine tq_icmp_ge (M := mX11_cameBy) (pc := 106) (tgt := 134) dX11_cameBy_106 (by decide) (fun cc => ?_) (fun cc => ?_)
    · have hf := tq_ifp hf cc
      refine tq_pick (L2 := [(1, .int i1), (4, .int i4), (5, .int y5)]) [1, 2, 3] rfl ?_
      cases (Option.some.inj hf)
      cases (tq_lx ho)
      exact hk
    · have hf := tq_ifn hf cc
      refine tq_aload_n (M := mX11_cameBy) (pc := 109) dX11_cameBy_109 rfl ?_
      refine tq_iload (M := mX11_cameBy) (pc := 110) dX11_cameBy_110 rfl ?_
      obtain ⟨⟨⟩, eu7, hf⟩ := tq_be hf
      obtain ⟨fsu7, eu7⟩ := tq_is_s eu7
      obtain ⟨v6, ev6, hf⟩ := tq_be hf
      refine tq_calV (M := mX11_cameBy) (pc := 112) (S := []) tk_y_X11_childrenOf tk_v_X11_childrenOf tk_RX11_391 dX11_cameBy_112 [.int y7] rfl (S0 := _) rfl eu7 rfl (Nat.le_of_ble_eq_true rfl) (d1 := d - 1) (b1 := 0) (s1 := 0) (bc' := 0) (bs' := 0) (Q1 := fun r h9 => r = .inl (some (.int v6)) ∧ hh = h9) (by omega) rfl rfl (w_X11_childrenOf (by omega) ev6 (fun _ _ q => q)) (fun E h9 q => nomatch (show (Sum.inr E : tq_R) = Sum.inl _ from q.1)) (fun r9 h9 q => ?_)
      obtain ⟨q1, rfl⟩ := q
      cases (show (Sum.inl r9 : tq_R) = Sum.inl (some (.int v6)) from q1)
      refine tq_istore (M := mX11_cameBy) (pc := 115) dX11_cameBy_115 (L2 := [(7, .int v6), (0, .ref i0), (1, .int i1), (4, .int i4), (5, .int y5), (6, .int y6)]) (by decide) rfl ?_
      refine tq_iload (M := mX11_cameBy) (pc := 117) dX11_cameBy_117 rfl ?_
      refine tq_iload (M := mX11_cameBy) (pc := 119) dX11_cameBy_119 rfl ?_
      refine tq_ior (M := mX11_cameBy) (pc := 121) dX11_cameBy_121 ?_
      obtain ⟨x8, ex8, hf⟩ := tq_le hf
      refine tq_istore (M := mX11_cameBy) (pc := 122) dX11_cameBy_122 (L2 := [(5, .int x8), (7, .int v6), (0, .ref i0), (1, .int i1), (4, .int i4), (6, .int y6)]) (by decide) (by rw [ex8]; rfl) ?_
      refine tq_iload (M := mX11_cameBy) (pc := 124) dX11_cameBy_124 rfl ?_
      refine tq_istore (M := mX11_cameBy) (pc := 126) dX11_cameBy_126 (L2 := [(7, .int x8), (5, .int x8), (0, .ref i0), (1, .int i1), (4, .int i4), (6, .int y6)]) (by decide) rfl ?_
      obtain ⟨x9, ex9, hf⟩ := tq_le hf
      refine tq_iinc (M := mX11_cameBy) (pc := 128) (v := x9) (L2 := [(6, .int x9), (7, .int x8), (5, .int x8), (0, .ref i0), (1, .int i1), (4, .int i4)]) dX11_cameBy_128 rfl (by rw [ex9, tk_ki_1]) (by decide) rfl ?_
      refine tq_goto (M := mX11_cameBy) (pc := 131) (tgt := 102) dX11_cameBy_131 (by decide) ?_
      refine tq_pick (L2 := [(0, .ref i0), (1, .int i1), (4, .int i4), (5, .int x8), (6, .int x9), (7, .int x8)]) [3, 4, 5, 2, 0, 1] rfl ?_
      cases (Option.some.inj hf)
      exact ih _ _ _ o (tq_lc ho) hk
set_option maxHeartbeats 4000000 in
theorem l_X11_cameBy_102_2 {l : Launch} {d : Nat} {Q : tq_R → tq_H → Prop} (hd9 : 2 ≤ d) (i0 : Nat) (i1 : Int32) (i4 : Int32) (hh : tq_H) : ∀ (n : Nat) (y5 : Int32) (y6 : Int32) (y7 : Int32) (o : Int32), tq_loop (f_X11_cameBy_b102_2 i0 i1 i4 hh) n (y5, y6, y7) = some o → tq_W l mX11_cameBy d 0 0 Q 134 [(1, .int i1), (4, .int i4), (5, .int o)] [] hh → tq_W l mX11_cameBy d 0 0 Q 102 [(0, .ref i0), (1, .int i1), (4, .int i4), (5, .int y5), (6, .int y6), (7, .int y7)] [] hh := by
  intro n
  induction n with
  | zero => intro y5 y6 y7 o hl; cases hl
  | succ n ih =>
    intro y5 y6 y7 o hl hk
    obtain ⟨oo, hf, ho⟩ := tq_loop_s hl
    refine tq_iload (M := mX11_cameBy) (pc := 102) dX11_cameBy_102 rfl ?_
    refine tq_bipush (M := mX11_cameBy) (pc := 104) dX11_cameBy_104 tk_kb_9 ?_
    refine tq_icmp_ge (M := mX11_cameBy) (pc := 106) (tgt := 134) dX11_cameBy_106 (by decide) (fun cc => ?_) (fun cc => ?_)
    · have hf := tq_ifp hf cc
      refine tq_pick (L2 := [(1, .int i1), (4, .int i4), (5, .int y5)]) [1, 2, 3] rfl ?_
      cases (Option.some.inj hf)
      cases (tq_lx ho)
      exact hk
    · have hf := tq_ifn hf cc
      refine tq_aload_n (M := mX11_cameBy) (pc := 109) dX11_cameBy_109 rfl ?_
      refine tq_iload (M := mX11_cameBy) (pc := 110) dX11_cameBy_110 rfl ?_
      obtain ⟨⟨⟩, eu14, hf⟩ := tq_be hf
      obtain ⟨fsu14, eu14⟩ := tq_is_s eu14
      obtain ⟨v13, ev13, hf⟩ := tq_be hf
      refine tq_calV (M := mX11_cameBy) (pc := 112) (S := []) tk_y_X11_childrenOf tk_v_X11_childrenOf tk_RX11_391 dX11_cameBy_112 [.int y7] rfl (S0 := _) rfl eu14 rfl (Nat.le_of_ble_eq_true rfl) (d1 := d - 1) (b1 := 0) (s1 := 0) (bc' := 0) (bs' := 0) (Q1 := fun r h9 => r = .inl (some (.int v13)) ∧ hh = h9) (by omega) rfl rfl (w_X11_childrenOf (by omega) ev13 (fun _ _ q => q)) (fun E h9 q => nomatch (show (Sum.inr E : tq_R) = Sum.inl _ from q.1)) (fun r9 h9 q => ?_)
      obtain ⟨q1, rfl⟩ := q
      cases (show (Sum.inl r9 : tq_R) = Sum.inl (some (.int v13)) from q1)
      refine tq_istore (M := mX11_cameBy) (pc := 115) dX11_cameBy_115 (L2 := [(7, .int v13), (0, .ref i0), (1, .int i1), (4, .int i4), (5, .int y5), (6, .int y6)]) (by decide) rfl ?_
      refine tq_iload (M := mX11_cameBy) (pc := 117) dX11_cameBy_117 rfl ?_
      refine tq_iload (M := mX11_cameBy) (pc := 119) dX11_cameBy_119 rfl ?_
      refine tq_ior (M := mX11_cameBy) (pc := 121) dX11_cameBy_121 ?_
      obtain ⟨x15, ex15, hf⟩ := tq_le hf
      refine tq_istore (M := mX11_cameBy) (pc := 122) dX11_cameBy_122 (L2 := [(5, .int x15), (7, .int v13), (0, .ref i0), (1, .int i1), (4, .int i4), (6, .int y6)]) (by decide) (by rw [ex15]; rfl) ?_
      refine tq_iload (M := mX11_cameBy) (pc := 124) dX11_cameBy_124 rfl ?_
      refine tq_istore (M := mX11_cameBy) (pc := 126) dX11_cameBy_126 (L2 := [(7, .int x15), (5, .int x15), (0, .ref i0), (1, .int i1), (4, .int i4), (6, .int y6)]) (by decide) rfl ?_
      obtain ⟨x16, ex16, hf⟩ := tq_le hf
      refine tq_iinc (M := mX11_cameBy) (pc := 128) (v := x16) (L2 := [(6, .int x16), (7, .int x15), (5, .int x15), (0, .ref i0), (1, .int i1), (4, .int i4)]) dX11_cameBy_128 rfl (by rw [ex16, tk_ki_1]) (by decide) rfl ?_
      refine tq_goto (M := mX11_cameBy) (pc := 131) (tgt := 102) dX11_cameBy_131 (by decide) ?_
      refine tq_pick (L2 := [(0, .ref i0), (1, .int i1), (4, .int i4), (5, .int x15), (6, .int x16), (7, .int x15)]) [3, 4, 5, 2, 0, 1] rfl ?_
      cases (Option.some.inj hf)
      exact ih _ _ _ o (tq_lc ho) hk
set_option maxHeartbeats 4000000 in
theorem l_X11_cameBy_167 {l : Launch} {d : Nat} {Q : tq_R → tq_H → Prop} (hd9 : 2 ≤ d) (i0 : Nat) (i4 : Int32) (hh : tq_H) : ∀ (n : Nat) (y5 : Int32) (y6 : Int32) (y7 : Int32) (o : Int32), tq_loop (f_X11_cameBy_b167 i0 i4 hh) n (y5, y6, y7) = some o → tq_W l mX11_cameBy d 0 0 Q 201 [(5, .int o)] [] hh → tq_W l mX11_cameBy d 0 0 Q 167 [(0, .ref i0), (4, .int i4), (5, .int y5), (6, .int y6), (7, .int y7)] [] hh := by
  intro n
  induction n with
  | zero => intro y5 y6 y7 o hl; cases hl
  | succ n ih =>
    intro y5 y6 y7 o hl hk
    obtain ⟨oo, hf, ho⟩ := tq_loop_s hl
    refine tq_iload (M := mX11_cameBy) (pc := 167) dX11_cameBy_167 rfl ?_
    refine tq_bipush (M := mX11_cameBy) (pc := 169) dX11_cameBy_169 tk_kb_9 ?_
    refine tq_icmp_ge (M := mX11_cameBy) (pc := 171) (tgt := 201) dX11_cameBy_171 (by decide) (fun cc => ?_) (fun cc => ?_)
    · have hf := tq_ifp hf cc
      refine tq_pick (L2 := [(5, .int y5)]) [2] rfl ?_
      cases (Option.some.inj hf)
      cases (tq_lx ho)
      exact hk
    · have hf := tq_ifn hf cc
      refine tq_aload_n (M := mX11_cameBy) (pc := 174) dX11_cameBy_174 rfl ?_
      refine tq_iload (M := mX11_cameBy) (pc := 175) dX11_cameBy_175 rfl ?_
      refine tq_iload (M := mX11_cameBy) (pc := 177) dX11_cameBy_177 rfl ?_
      obtain ⟨⟨⟩, eu21, hf⟩ := tq_be hf
      obtain ⟨fsu21, eu21⟩ := tq_is_s eu21
      obtain ⟨v20, ev20, hf⟩ := tq_be hf
      refine tq_calV (M := mX11_cameBy) (pc := 179) (S := []) tk_y_X11_parentsOf tk_v_X11_parentsOf tk_RX11_394 dX11_cameBy_179 [.int y7, .int i4] rfl (S0 := _) rfl eu21 rfl (Nat.le_of_ble_eq_true rfl) (d1 := d - 1) (b1 := 0) (s1 := 0) (bc' := 0) (bs' := 0) (Q1 := fun r h9 => r = .inl (some (.int v20)) ∧ hh = h9) (by omega) rfl rfl (w_X11_parentsOf (by omega) ev20 (fun _ _ q => q)) (fun E h9 q => nomatch (show (Sum.inr E : tq_R) = Sum.inl _ from q.1)) (fun r9 h9 q => ?_)
      obtain ⟨q1, rfl⟩ := q
      cases (show (Sum.inl r9 : tq_R) = Sum.inl (some (.int v20)) from q1)
      refine tq_istore (M := mX11_cameBy) (pc := 182) dX11_cameBy_182 (L2 := [(7, .int v20), (0, .ref i0), (4, .int i4), (5, .int y5), (6, .int y6)]) (by decide) rfl ?_
      refine tq_iload (M := mX11_cameBy) (pc := 184) dX11_cameBy_184 rfl ?_
      refine tq_iload (M := mX11_cameBy) (pc := 186) dX11_cameBy_186 rfl ?_
      refine tq_ior (M := mX11_cameBy) (pc := 188) dX11_cameBy_188 ?_
      obtain ⟨x22, ex22, hf⟩ := tq_le hf
      refine tq_istore (M := mX11_cameBy) (pc := 189) dX11_cameBy_189 (L2 := [(5, .int x22), (7, .int v20), (0, .ref i0), (4, .int i4), (6, .int y6)]) (by decide) (by rw [ex22]; rfl) ?_
      refine tq_iload (M := mX11_cameBy) (pc := 191) dX11_cameBy_191 rfl ?_
      refine tq_istore (M := mX11_cameBy) (pc := 193) dX11_cameBy_193 (L2 := [(7, .int x22), (5, .int x22), (0, .ref i0), (4, .int i4), (6, .int y6)]) (by decide) rfl ?_
      obtain ⟨x23, ex23, hf⟩ := tq_le hf
      refine tq_iinc (M := mX11_cameBy) (pc := 195) (v := x23) (L2 := [(6, .int x23), (7, .int x22), (5, .int x22), (0, .ref i0), (4, .int i4)]) dX11_cameBy_195 rfl (by rw [ex23, tk_ki_1]) (by decide) rfl ?_
      refine tq_goto (M := mX11_cameBy) (pc := 198) (tgt := 167) dX11_cameBy_198 (by decide) ?_
      refine tq_pick (L2 := [(0, .ref i0), (4, .int i4), (5, .int x22), (6, .int x23), (7, .int x22)]) [3, 4, 2, 0, 1] rfl ?_
      cases (Option.some.inj hf)
      exact ih _ _ _ o (tq_lc ho) hk
set_option maxHeartbeats 4000000 in
theorem l_X11_cameBy_167_2 {l : Launch} {d : Nat} {Q : tq_R → tq_H → Prop} (hd9 : 2 ≤ d) (i0 : Nat) (i4 : Int32) (hh : tq_H) : ∀ (n : Nat) (y5 : Int32) (y6 : Int32) (y7 : Int32) (o : Int32), tq_loop (f_X11_cameBy_b167_2 i0 i4 hh) n (y5, y6, y7) = some o → tq_W l mX11_cameBy d 0 0 Q 201 [(5, .int o)] [] hh → tq_W l mX11_cameBy d 0 0 Q 167 [(0, .ref i0), (4, .int i4), (5, .int y5), (6, .int y6), (7, .int y7)] [] hh := by
  intro n
  induction n with
  | zero => intro y5 y6 y7 o hl; cases hl
  | succ n ih =>
    intro y5 y6 y7 o hl hk
    obtain ⟨oo, hf, ho⟩ := tq_loop_s hl
    refine tq_iload (M := mX11_cameBy) (pc := 167) dX11_cameBy_167 rfl ?_
    refine tq_bipush (M := mX11_cameBy) (pc := 169) dX11_cameBy_169 tk_kb_9 ?_
    refine tq_icmp_ge (M := mX11_cameBy) (pc := 171) (tgt := 201) dX11_cameBy_171 (by decide) (fun cc => ?_) (fun cc => ?_)
    · have hf := tq_ifp hf cc
      refine tq_pick (L2 := [(5, .int y5)]) [2] rfl ?_
      cases (Option.some.inj hf)
      cases (tq_lx ho)
      exact hk
    · have hf := tq_ifn hf cc
      refine tq_aload_n (M := mX11_cameBy) (pc := 174) dX11_cameBy_174 rfl ?_
      refine tq_iload (M := mX11_cameBy) (pc := 175) dX11_cameBy_175 rfl ?_
      refine tq_iload (M := mX11_cameBy) (pc := 177) dX11_cameBy_177 rfl ?_
      obtain ⟨⟨⟩, eu27, hf⟩ := tq_be hf
      obtain ⟨fsu27, eu27⟩ := tq_is_s eu27
      obtain ⟨v26, ev26, hf⟩ := tq_be hf
      refine tq_calV (M := mX11_cameBy) (pc := 179) (S := []) tk_y_X11_parentsOf tk_v_X11_parentsOf tk_RX11_394 dX11_cameBy_179 [.int y7, .int i4] rfl (S0 := _) rfl eu27 rfl (Nat.le_of_ble_eq_true rfl) (d1 := d - 1) (b1 := 0) (s1 := 0) (bc' := 0) (bs' := 0) (Q1 := fun r h9 => r = .inl (some (.int v26)) ∧ hh = h9) (by omega) rfl rfl (w_X11_parentsOf (by omega) ev26 (fun _ _ q => q)) (fun E h9 q => nomatch (show (Sum.inr E : tq_R) = Sum.inl _ from q.1)) (fun r9 h9 q => ?_)
      obtain ⟨q1, rfl⟩ := q
      cases (show (Sum.inl r9 : tq_R) = Sum.inl (some (.int v26)) from q1)
      refine tq_istore (M := mX11_cameBy) (pc := 182) dX11_cameBy_182 (L2 := [(7, .int v26), (0, .ref i0), (4, .int i4), (5, .int y5), (6, .int y6)]) (by decide) rfl ?_
      refine tq_iload (M := mX11_cameBy) (pc := 184) dX11_cameBy_184 rfl ?_
      refine tq_iload (M := mX11_cameBy) (pc := 186) dX11_cameBy_186 rfl ?_
      refine tq_ior (M := mX11_cameBy) (pc := 188) dX11_cameBy_188 ?_
      obtain ⟨x28, ex28, hf⟩ := tq_le hf
      refine tq_istore (M := mX11_cameBy) (pc := 189) dX11_cameBy_189 (L2 := [(5, .int x28), (7, .int v26), (0, .ref i0), (4, .int i4), (6, .int y6)]) (by decide) (by rw [ex28]; rfl) ?_
      refine tq_iload (M := mX11_cameBy) (pc := 191) dX11_cameBy_191 rfl ?_
      refine tq_istore (M := mX11_cameBy) (pc := 193) dX11_cameBy_193 (L2 := [(7, .int x28), (5, .int x28), (0, .ref i0), (4, .int i4), (6, .int y6)]) (by decide) rfl ?_
      obtain ⟨x29, ex29, hf⟩ := tq_le hf
      refine tq_iinc (M := mX11_cameBy) (pc := 195) (v := x29) (L2 := [(6, .int x29), (7, .int x28), (5, .int x28), (0, .ref i0), (4, .int i4)]) dX11_cameBy_195 rfl (by rw [ex29, tk_ki_1]) (by decide) rfl ?_
      refine tq_goto (M := mX11_cameBy) (pc := 198) (tgt := 167) dX11_cameBy_198 (by decide) ?_
      refine tq_pick (L2 := [(0, .ref i0), (4, .int i4), (5, .int x28), (6, .int x29), (7, .int x28)]) [3, 4, 2, 0, 1] rfl ?_
      cases (Option.some.inj hf)
      exact ih _ _ _ o (tq_lc ho) hk
set_option maxHeartbeats 4000000 in
theorem l_X11_cameBy_247 {l : Launch} {d : Nat} {Q : tq_R → tq_H → Prop} (hd9 : 2 ≤ d) (i0 : Nat) (i2 : Int32) (hh : tq_H) : ∀ (n : Nat) (y5 : Int32) (y6 : Int32) (y7 : Int32) (o : Int32), tq_loop (f_X11_cameBy_b247 i0 i2 hh) n (y5, y6, y7) = some o → tq_W l mX11_cameBy d 0 0 Q 283 [(5, .int o)] [] hh → tq_W l mX11_cameBy d 0 0 Q 247 [(0, .ref i0), (2, .int i2), (5, .int y5), (6, .int y6), (7, .int y7)] [] hh := by
  intro n
  induction n with
  | zero => intro y5 y6 y7 o hl; cases hl
  | succ n ih =>
    intro y5 y6 y7 o hl hk
    obtain ⟨oo, hf, ho⟩ := tq_loop_s hl
    refine tq_iload (M := mX11_cameBy) (pc := 247) dX11_cameBy_247 rfl ?_
    refine tq_sipush (M := mX11_cameBy) (pc := 249) dX11_cameBy_249 tk_ks_256 ?_
    refine tq_icmp_ge (M := mX11_cameBy) (pc := 252) (tgt := 283) dX11_cameBy_252 (by decide) (fun cc => ?_) (fun cc => ?_)
    · have hf := tq_ifp hf cc
      refine tq_pick (L2 := [(5, .int y5)]) [2] rfl ?_
      cases (Option.some.inj hf)
      cases (tq_lx ho)
      exact hk
    · have hf := tq_ifn hf cc
      refine tq_aload_n (M := mX11_cameBy) (pc := 255) dX11_cameBy_255 rfl ?_
      obtain ⟨k43, ek43, hf⟩ := tq_be hf
      refine tq_getR (M := mX11_cameBy) (pc := 256) tk_c11 (by decide) dX11_cameBy_256 tk_RX11_111 rfl ek43 ?_
      refine tq_sipush (M := mX11_cameBy) (pc := 259) dX11_cameBy_259 tk_ks_256 ?_
      refine tq_iload_n (M := mX11_cameBy) (pc := 262) dX11_cameBy_262 rfl ?_
      refine tq_imul (M := mX11_cameBy) (pc := 263) dX11_cameBy_263 ?_
      refine tq_iload (M := mX11_cameBy) (pc := 264) dX11_cameBy_264 rfl ?_
      refine tq_iadd (M := mX11_cameBy) (pc := 266) dX11_cameBy_266 ?_
      obtain ⟨x44, ex44, hf⟩ := tq_be hf
      refine tq_ialdF (M := mX11_cameBy) (pc := 267) dX11_cameBy_267 ex44 ?_
      refine tq_istore (M := mX11_cameBy) (pc := 268) dX11_cameBy_268 (L2 := [(7, .int x44), (0, .ref i0), (2, .int i2), (5, .int y5), (6, .int y6)]) (by decide) rfl ?_
      refine tq_iload (M := mX11_cameBy) (pc := 270) dX11_cameBy_270 rfl ?_
      refine tq_iload (M := mX11_cameBy) (pc := 272) dX11_cameBy_272 rfl ?_
      refine tq_ior (M := mX11_cameBy) (pc := 274) dX11_cameBy_274 ?_
      obtain ⟨x45, ex45, hf⟩ := tq_le hf
      refine tq_istore (M := mX11_cameBy) (pc := 275) dX11_cameBy_275 (L2 := [(5, .int x45), (7, .int x44), (0, .ref i0), (2, .int i2), (6, .int y6)]) (by decide) (by rw [ex45]; rfl) ?_
      obtain ⟨x46, ex46, hf⟩ := tq_le hf
      refine tq_iinc (M := mX11_cameBy) (pc := 277) (v := x46) (L2 := [(6, .int x46), (5, .int x45), (7, .int x44), (0, .ref i0), (2, .int i2)]) dX11_cameBy_277 rfl (by rw [ex46, tk_ki_1]) (by decide) rfl ?_
      refine tq_goto (M := mX11_cameBy) (pc := 280) (tgt := 247) dX11_cameBy_280 (by decide) ?_
      refine tq_pick (L2 := [(0, .ref i0), (2, .int i2), (5, .int x45), (6, .int x46), (7, .int x44)]) [3, 4, 1, 0, 2] rfl ?_
      cases (Option.some.inj hf)
      exact ih _ _ _ o (tq_lc ho) hk
set_option maxHeartbeats 4000000 in
set_option maxRecDepth 20000 in
theorem w_X11_cameBy {l : Launch} {d : Nat} (hd9 : 2 ≤ d) {t : Nat} {a1 : Int32} {a2 : Int32} {a3 : Int32} {a4 : Int32} {h : tq_H} {o : Int32} {Q : tq_R → tq_H → Prop} (hf : f_X11_cameBy t a1 a2 a3 a4 h = some o) (hQ : ∀ r h9, r = .inl (some (.int o)) ∧ h = h9 → Q r h9) : tq_C l yX11_cameBy cX11_cameBy 8 (some .int) d 0 0 [.ref t, .int a1, .int a2, .int a3, .int a4] h Q := by
  refine tq_body (y := yX11_cameBy) false (by decide +kernel) (fun z => by cases z) (Nat.le_of_ble_eq_true rfl) ?_
  show tq_W l mX11_cameBy d 0 0 Q 0 [(0, .ref t), (1, .int a1), (2, .int a2), (3, .int a3), (4, .int a4)] [] h
  refine tq_iconst (M := mX11_cameBy) (pc := 0) dX11_cameBy_0 tk_ki_0 ?_
  refine tq_istore (M := mX11_cameBy) (pc := 1) dX11_cameBy_1 (L2 := [(5, .int (0 : Int32)), (0, .ref t), (1, .int a1), (2, .int a2), (3, .int a3), (4, .int a4)]) (by decide) rfl ?_
  refine tq_iload_n (M := mX11_cameBy) (pc := 3) dX11_cameBy_3 rfl ?_
  by_cases c0 : a1 = (0 : Int32)
  · have hf := tq_ifp hf c0
    refine tq_tabX (M := mX11_cameBy) (pc := 4) (tgt := 68) (0 : Int32) c0 dX11_cameBy_4 (by decide +kernel) (by decide +kernel) (off := 64) (by decide +kernel) (by decide) ?_
    refine tq_iload_n (M := mX11_cameBy) (pc := 68) dX11_cameBy_68 rfl ?_
    refine tq_iret (M := mX11_cameBy) (pc := 69) dX11_cameBy_69 rfl ?_
    cases (Option.some.inj hf)
    exact hQ _ _ ⟨rfl, rfl⟩
  have hf := tq_ifn hf c0
  by_cases c1 : a1 = (1 : Int32)
  · have hf := tq_ifp hf c1
    refine tq_tabX (M := mX11_cameBy) (pc := 4) (tgt := 70) (1 : Int32) c1 dX11_cameBy_4 (by decide +kernel) (by decide +kernel) (off := 66) (by decide +kernel) (by decide) ?_
    refine tq_aload_n (M := mX11_cameBy) (pc := 70) dX11_cameBy_70 rfl ?_
    refine tq_iload_n (M := mX11_cameBy) (pc := 71) dX11_cameBy_71 rfl ?_
    obtain ⟨⟨⟩, eu2, hf⟩ := tq_be hf
    obtain ⟨fsu2, eu2⟩ := tq_is_s eu2
    obtain ⟨v1, ev1, hf⟩ := tq_be hf
    refine tq_calV (M := mX11_cameBy) (pc := 72) (S := []) tk_y_X11_childrenOf tk_v_X11_childrenOf tk_RX11_391 dX11_cameBy_72 [.int a3] rfl (S0 := _) rfl eu2 rfl (Nat.le_of_ble_eq_true rfl) (d1 := d - 1) (b1 := 0) (s1 := 0) (bc' := 0) (bs' := 0) (Q1 := fun r h9 => r = .inl (some (.int v1)) ∧ h = h9) (by omega) rfl rfl (w_X11_childrenOf (by omega) ev1 (fun _ _ q => q)) (fun E h9 q => nomatch (show (Sum.inr E : tq_R) = Sum.inl _ from q.1)) (fun r9 h9 q => ?_)
    obtain ⟨q1, rfl⟩ := q
    cases (show (Sum.inl r9 : tq_R) = Sum.inl (some (.int v1)) from q1)
    refine tq_iret (M := mX11_cameBy) (pc := 75) dX11_cameBy_75 rfl ?_
    cases (Option.some.inj hf)
    exact hQ _ _ ⟨rfl, rfl⟩
  have hf := tq_ifn hf c1
  by_cases c2 : a1 = (2 : Int32)
  · have hf := tq_ifp hf c2
    refine tq_tabX (M := mX11_cameBy) (pc := 4) (tgt := 76) (2 : Int32) c2 dX11_cameBy_4 (by decide +kernel) (by decide +kernel) (off := 72) (by decide +kernel) (by decide) ?_
    refine tq_aload_n (M := mX11_cameBy) (pc := 76) dX11_cameBy_76 rfl ?_
    refine tq_iload_n (M := mX11_cameBy) (pc := 77) dX11_cameBy_77 rfl ?_
    refine tq_iload (M := mX11_cameBy) (pc := 78) dX11_cameBy_78 rfl ?_
    obtain ⟨⟨⟩, eu4, hf⟩ := tq_be hf
    obtain ⟨fsu4, eu4⟩ := tq_is_s eu4
    obtain ⟨v3, ev3, hf⟩ := tq_be hf
    refine tq_calV (M := mX11_cameBy) (pc := 80) (S := []) tk_y_X11_parentsOf tk_v_X11_parentsOf tk_RX11_394 dX11_cameBy_80 [.int a3, .int a4] rfl (S0 := _) rfl eu4 rfl (Nat.le_of_ble_eq_true rfl) (d1 := d - 1) (b1 := 0) (s1 := 0) (bc' := 0) (bs' := 0) (Q1 := fun r h9 => r = .inl (some (.int v3)) ∧ h = h9) (by omega) rfl rfl (w_X11_parentsOf (by omega) ev3 (fun _ _ q => q)) (fun E h9 q => nomatch (show (Sum.inr E : tq_R) = Sum.inl _ from q.1)) (fun r9 h9 q => ?_)
    obtain ⟨q1, rfl⟩ := q
    cases (show (Sum.inl r9 : tq_R) = Sum.inl (some (.int v3)) from q1)
    refine tq_iret (M := mX11_cameBy) (pc := 83) dX11_cameBy_83 rfl ?_
    cases (Option.some.inj hf)
    exact hQ _ _ ⟨rfl, rfl⟩
  have hf := tq_ifn hf c2
  by_cases c3 : a1 = (3 : Int32)
  · have hf := tq_ifp hf c3
    refine tq_tabX (M := mX11_cameBy) (pc := 4) (tgt := 84) (3 : Int32) c3 dX11_cameBy_4 (by decide +kernel) (by decide +kernel) (off := 80) (by decide +kernel) (by decide) ?_
    refine tq_iload_n (M := mX11_cameBy) (pc := 84) dX11_cameBy_84 rfl ?_
    refine tq_iconst (M := mX11_cameBy) (pc := 85) dX11_cameBy_85 tk_ki_3 ?_
    obtain ⟨p5, ep5, hf⟩ := tq_le hf
    have HJ86 : tq_W l mX11_cameBy d 0 0 Q 94 [(0, .ref t), (1, .int a1), (3, .int a3), (4, .int a4)] [.int p5] h := by
      refine tq_istore (M := mX11_cameBy) (pc := 94) dX11_cameBy_94 (L2 := [(5, .int p5), (0, .ref t), (1, .int a1), (3, .int a3), (4, .int a4)]) (by decide) rfl ?_
      refine tq_iconst (M := mX11_cameBy) (pc := 96) dX11_cameBy_96 tk_ki_0 ?_
      refine tq_istore (M := mX11_cameBy) (pc := 97) dX11_cameBy_97 (L2 := [(6, .int (0 : Int32)), (5, .int p5), (0, .ref t), (1, .int a1), (3, .int a3), (4, .int a4)]) (by decide) rfl ?_
      refine tq_iload_n (M := mX11_cameBy) (pc := 99) dX11_cameBy_99 rfl ?_
      refine tq_istore (M := mX11_cameBy) (pc := 100) dX11_cameBy_100 (L2 := [(7, .int a3), (6, .int (0 : Int32)), (5, .int p5), (0, .ref t), (1, .int a1), (3, .int a3), (4, .int a4)]) (by decide) rfl ?_
      obtain ⟨o10, eo10, hf⟩ := tq_be hf
      refine tq_pick (L2 := [(0, .ref t), (1, .int a1), (4, .int a4), (5, .int p5), (6, .int (0 : Int32)), (7, .int a3)]) [3, 4, 6, 2, 1, 0] rfl ?_
      refine l_X11_cameBy_102 (by omega) t a1 a4 h _ p5 (0 : Int32) a3 _ eo10 ?_
      refine tq_iload (M := mX11_cameBy) (pc := 134) dX11_cameBy_134 rfl ?_
      refine tq_iload_n (M := mX11_cameBy) (pc := 136) dX11_cameBy_136 rfl ?_
      refine tq_iconst (M := mX11_cameBy) (pc := 137) dX11_cameBy_137 tk_ki_3 ?_
      obtain ⟨p11, ep11, hf⟩ := tq_le hf
      have HJ138 : tq_W l mX11_cameBy d 0 0 Q 147 [] [.int p11, .int o10] h := by
        refine tq_iand (M := mX11_cameBy) (pc := 147) dX11_cameBy_147 ?_
        refine tq_iret (M := mX11_cameBy) (pc := 148) dX11_cameBy_148 rfl ?_
        cases (Option.some.inj hf)
        exact hQ _ _ ⟨rfl, rfl⟩
      refine tq_icmp_ne (M := mX11_cameBy) (pc := 138) (tgt := 146) dX11_cameBy_138 (by decide) (fun cc => ?_) (fun cc => ?_)
      · have hf := tq_ifn ep11.symm cc
        refine tq_iconst (M := mX11_cameBy) (pc := 146) dX11_cameBy_146 tk_ki_m1 ?_
        refine tq_pick (L2 := []) [] rfl ?_
        cases hf
        exact HJ138
      · have hf := tq_ifp ep11.symm cc
        refine tq_iload (M := mX11_cameBy) (pc := 141) dX11_cameBy_141 rfl ?_
        refine tq_goto (M := mX11_cameBy) (pc := 143) (tgt := 147) dX11_cameBy_143 (by decide) ?_
        refine tq_pick (L2 := []) [] rfl ?_
        cases hf
        exact HJ138
    refine tq_icmp_ne (M := mX11_cameBy) (pc := 86) (tgt := 93) dX11_cameBy_86 (by decide) (fun cc => ?_) (fun cc => ?_)
    · have hf := tq_ifn ep5.symm cc
      refine tq_iload_n (M := mX11_cameBy) (pc := 93) dX11_cameBy_93 rfl ?_
      refine tq_pick (L2 := [(0, .ref t), (1, .int a1), (3, .int a3), (4, .int a4)]) [1, 2, 4, 5] rfl ?_
      cases hf
      exact HJ86
    · have hf := tq_ifp ep5.symm cc
      refine tq_iconst (M := mX11_cameBy) (pc := 89) dX11_cameBy_89 tk_ki_0 ?_
      refine tq_goto (M := mX11_cameBy) (pc := 90) (tgt := 94) dX11_cameBy_90 (by decide) ?_
      refine tq_pick (L2 := [(0, .ref t), (1, .int a1), (3, .int a3), (4, .int a4)]) [1, 2, 4, 5] rfl ?_
      cases hf
      exact HJ86
  have hf := tq_ifn hf c3
  by_cases c4 : a1 = (4 : Int32)
  · have hf := tq_ifp hf c4
    refine tq_tabX (M := mX11_cameBy) (pc := 4) (tgt := 84) (4 : Int32) c4 dX11_cameBy_4 (by decide +kernel) (by decide +kernel) (off := 80) (by decide +kernel) (by decide) ?_
    refine tq_iload_n (M := mX11_cameBy) (pc := 84) dX11_cameBy_84 rfl ?_
    refine tq_iconst (M := mX11_cameBy) (pc := 85) dX11_cameBy_85 tk_ki_3 ?_
    obtain ⟨p12, ep12, hf⟩ := tq_le hf
    have HJ86 : tq_W l mX11_cameBy d 0 0 Q 94 [(0, .ref t), (1, .int a1), (3, .int a3), (4, .int a4)] [.int p12] h := by
      refine tq_istore (M := mX11_cameBy) (pc := 94) dX11_cameBy_94 (L2 := [(5, .int p12), (0, .ref t), (1, .int a1), (3, .int a3), (4, .int a4)]) (by decide) rfl ?_
      refine tq_iconst (M := mX11_cameBy) (pc := 96) dX11_cameBy_96 tk_ki_0 ?_
      refine tq_istore (M := mX11_cameBy) (pc := 97) dX11_cameBy_97 (L2 := [(6, .int (0 : Int32)), (5, .int p12), (0, .ref t), (1, .int a1), (3, .int a3), (4, .int a4)]) (by decide) rfl ?_
      refine tq_iload_n (M := mX11_cameBy) (pc := 99) dX11_cameBy_99 rfl ?_
      refine tq_istore (M := mX11_cameBy) (pc := 100) dX11_cameBy_100 (L2 := [(7, .int a3), (6, .int (0 : Int32)), (5, .int p12), (0, .ref t), (1, .int a1), (3, .int a3), (4, .int a4)]) (by decide) rfl ?_
      obtain ⟨o17, eo17, hf⟩ := tq_be hf
      refine tq_pick (L2 := [(0, .ref t), (1, .int a1), (4, .int a4), (5, .int p12), (6, .int (0 : Int32)), (7, .int a3)]) [3, 4, 6, 2, 1, 0] rfl ?_
      refine l_X11_cameBy_102_2 (by omega) t a1 a4 h _ p12 (0 : Int32) a3 _ eo17 ?_
      refine tq_iload (M := mX11_cameBy) (pc := 134) dX11_cameBy_134 rfl ?_
      refine tq_iload_n (M := mX11_cameBy) (pc := 136) dX11_cameBy_136 rfl ?_
      refine tq_iconst (M := mX11_cameBy) (pc := 137) dX11_cameBy_137 tk_ki_3 ?_
      obtain ⟨p18, ep18, hf⟩ := tq_le hf
      have HJ138 : tq_W l mX11_cameBy d 0 0 Q 147 [] [.int p18, .int o17] h := by
        refine tq_iand (M := mX11_cameBy) (pc := 147) dX11_cameBy_147 ?_
        refine tq_iret (M := mX11_cameBy) (pc := 148) dX11_cameBy_148 rfl ?_
        cases (Option.some.inj hf)
        exact hQ _ _ ⟨rfl, rfl⟩
      refine tq_icmp_ne (M := mX11_cameBy) (pc := 138) (tgt := 146) dX11_cameBy_138 (by decide) (fun cc => ?_) (fun cc => ?_)
      · have hf := tq_ifn ep18.symm cc
        refine tq_iconst (M := mX11_cameBy) (pc := 146) dX11_cameBy_146 tk_ki_m1 ?_
        refine tq_pick (L2 := []) [] rfl ?_
        cases hf
        exact HJ138
      · have hf := tq_ifp ep18.symm cc
        refine tq_iload (M := mX11_cameBy) (pc := 141) dX11_cameBy_141 rfl ?_
        refine tq_goto (M := mX11_cameBy) (pc := 143) (tgt := 147) dX11_cameBy_143 (by decide) ?_
        refine tq_pick (L2 := []) [] rfl ?_
        cases hf
        exact HJ138
    refine tq_icmp_ne (M := mX11_cameBy) (pc := 86) (tgt := 93) dX11_cameBy_86 (by decide) (fun cc => ?_) (fun cc => ?_)
    · have hf := tq_ifn ep12.symm cc
      refine tq_iload_n (M := mX11_cameBy) (pc := 93) dX11_cameBy_93 rfl ?_
      refine tq_pick (L2 := [(0, .ref t), (1, .int a1), (3, .int a3), (4, .int a4)]) [1, 2, 4, 5] rfl ?_
      cases hf
      exact HJ86
    · have hf := tq_ifp ep12.symm cc
      refine tq_iconst (M := mX11_cameBy) (pc := 89) dX11_cameBy_89 tk_ki_0 ?_
      refine tq_goto (M := mX11_cameBy) (pc := 90) (tgt := 94) dX11_cameBy_90 (by decide) ?_
      refine tq_pick (L2 := [(0, .ref t), (1, .int a1), (3, .int a3), (4, .int a4)]) [1, 2, 4, 5] rfl ?_
      cases hf
      exact HJ86
  have hf := tq_ifn hf c4
  by_cases c5 : a1 = (5 : Int32)
  · have hf := tq_ifp hf c5
    refine tq_tabX (M := mX11_cameBy) (pc := 4) (tgt := 149) (5 : Int32) c5 dX11_cameBy_4 (by decide +kernel) (by decide +kernel) (off := 145) (by decide +kernel) (by decide) ?_
    refine tq_iload_n (M := mX11_cameBy) (pc := 149) dX11_cameBy_149 rfl ?_
    refine tq_iconst (M := mX11_cameBy) (pc := 150) dX11_cameBy_150 tk_ki_5 ?_
    obtain ⟨p19, ep19, hf⟩ := tq_le hf
    have HJ151 : tq_W l mX11_cameBy d 0 0 Q 159 [(0, .ref t), (3, .int a3), (4, .int a4)] [.int p19] h := by
      refine tq_istore (M := mX11_cameBy) (pc := 159) dX11_cameBy_159 (L2 := [(5, .int p19), (0, .ref t), (3, .int a3), (4, .int a4)]) (by decide) rfl ?_
      refine tq_iconst (M := mX11_cameBy) (pc := 161) dX11_cameBy_161 tk_ki_0 ?_
      refine tq_istore (M := mX11_cameBy) (pc := 162) dX11_cameBy_162 (L2 := [(6, .int (0 : Int32)), (5, .int p19), (0, .ref t), (3, .int a3), (4, .int a4)]) (by decide) rfl ?_
      refine tq_iload_n (M := mX11_cameBy) (pc := 164) dX11_cameBy_164 rfl ?_
      refine tq_istore (M := mX11_cameBy) (pc := 165) dX11_cameBy_165 (L2 := [(7, .int a3), (6, .int (0 : Int32)), (5, .int p19), (0, .ref t), (3, .int a3), (4, .int a4)]) (by decide) rfl ?_
      obtain ⟨o24, eo24, hf⟩ := tq_be hf
      refine tq_pick (L2 := [(0, .ref t), (4, .int a4), (5, .int p19), (6, .int (0 : Int32)), (7, .int a3)]) [3, 5, 2, 1, 0] rfl ?_
      refine l_X11_cameBy_167 (by omega) t a4 h _ p19 (0 : Int32) a3 _ eo24 ?_
      refine tq_iload (M := mX11_cameBy) (pc := 201) dX11_cameBy_201 rfl ?_
      refine tq_iret (M := mX11_cameBy) (pc := 203) dX11_cameBy_203 rfl ?_
      cases (Option.some.inj hf)
      exact hQ _ _ ⟨rfl, rfl⟩
    refine tq_icmp_ne (M := mX11_cameBy) (pc := 151) (tgt := 158) dX11_cameBy_151 (by decide) (fun cc => ?_) (fun cc => ?_)
    · have hf := tq_ifn ep19.symm cc
      refine tq_iload_n (M := mX11_cameBy) (pc := 158) dX11_cameBy_158 rfl ?_
      refine tq_pick (L2 := [(0, .ref t), (3, .int a3), (4, .int a4)]) [1, 4, 5] rfl ?_
      cases hf
      exact HJ151
    · have hf := tq_ifp ep19.symm cc
      refine tq_iconst (M := mX11_cameBy) (pc := 154) dX11_cameBy_154 tk_ki_0 ?_
      refine tq_goto (M := mX11_cameBy) (pc := 155) (tgt := 159) dX11_cameBy_155 (by decide) ?_
      refine tq_pick (L2 := [(0, .ref t), (3, .int a3), (4, .int a4)]) [1, 4, 5] rfl ?_
      cases hf
      exact HJ151
  have hf := tq_ifn hf c5
  by_cases c6 : a1 = (6 : Int32)
  · have hf := tq_ifp hf c6
    refine tq_tabX (M := mX11_cameBy) (pc := 4) (tgt := 149) (6 : Int32) c6 dX11_cameBy_4 (by decide +kernel) (by decide +kernel) (off := 145) (by decide +kernel) (by decide) ?_
    refine tq_iload_n (M := mX11_cameBy) (pc := 149) dX11_cameBy_149 rfl ?_
    refine tq_iconst (M := mX11_cameBy) (pc := 150) dX11_cameBy_150 tk_ki_5 ?_
    obtain ⟨p25, ep25, hf⟩ := tq_le hf
    have HJ151 : tq_W l mX11_cameBy d 0 0 Q 159 [(0, .ref t), (3, .int a3), (4, .int a4)] [.int p25] h := by
      refine tq_istore (M := mX11_cameBy) (pc := 159) dX11_cameBy_159 (L2 := [(5, .int p25), (0, .ref t), (3, .int a3), (4, .int a4)]) (by decide) rfl ?_
      refine tq_iconst (M := mX11_cameBy) (pc := 161) dX11_cameBy_161 tk_ki_0 ?_
      refine tq_istore (M := mX11_cameBy) (pc := 162) dX11_cameBy_162 (L2 := [(6, .int (0 : Int32)), (5, .int p25), (0, .ref t), (3, .int a3), (4, .int a4)]) (by decide) rfl ?_
      refine tq_iload_n (M := mX11_cameBy) (pc := 164) dX11_cameBy_164 rfl ?_
      refine tq_istore (M := mX11_cameBy) (pc := 165) dX11_cameBy_165 (L2 := [(7, .int a3), (6, .int (0 : Int32)), (5, .int p25), (0, .ref t), (3, .int a3), (4, .int a4)]) (by decide) rfl ?_
      obtain ⟨o30, eo30, hf⟩ := tq_be hf
      refine tq_pick (L2 := [(0, .ref t), (4, .int a4), (5, .int p25), (6, .int (0 : Int32)), (7, .int a3)]) [3, 5, 2, 1, 0] rfl ?_
      refine l_X11_cameBy_167_2 (by omega) t a4 h _ p25 (0 : Int32) a3 _ eo30 ?_
      refine tq_iload (M := mX11_cameBy) (pc := 201) dX11_cameBy_201 rfl ?_
      refine tq_iret (M := mX11_cameBy) (pc := 203) dX11_cameBy_203 rfl ?_
      cases (Option.some.inj hf)
      exact hQ _ _ ⟨rfl, rfl⟩
    refine tq_icmp_ne (M := mX11_cameBy) (pc := 151) (tgt := 158) dX11_cameBy_151 (by decide) (fun cc => ?_) (fun cc => ?_)
    · have hf := tq_ifn ep25.symm cc
      refine tq_iload_n (M := mX11_cameBy) (pc := 158) dX11_cameBy_158 rfl ?_
      refine tq_pick (L2 := [(0, .ref t), (3, .int a3), (4, .int a4)]) [1, 4, 5] rfl ?_
      cases hf
      exact HJ151
    · have hf := tq_ifp ep25.symm cc
      refine tq_iconst (M := mX11_cameBy) (pc := 154) dX11_cameBy_154 tk_ki_0 ?_
      refine tq_goto (M := mX11_cameBy) (pc := 155) (tgt := 159) dX11_cameBy_155 (by decide) ?_
      refine tq_pick (L2 := [(0, .ref t), (3, .int a3), (4, .int a4)]) [1, 4, 5] rfl ?_
      cases hf
      exact HJ151
  have hf := tq_ifn hf c6
  by_cases c7 : a1 = (7 : Int32)
  · have hf := tq_ifp hf c7
    refine tq_tabX (M := mX11_cameBy) (pc := 4) (tgt := 204) (7 : Int32) c7 dX11_cameBy_4 (by decide +kernel) (by decide +kernel) (off := 200) (by decide +kernel) (by decide) ?_
    refine tq_iload_n (M := mX11_cameBy) (pc := 204) dX11_cameBy_204 rfl ?_
    obtain ⟨p31, ep31, hf⟩ := tq_le hf
    have HJ205 : tq_W l mX11_cameBy d 0 0 Q 218 [] [.int p31] h := by
      refine tq_iret (M := mX11_cameBy) (pc := 218) dX11_cameBy_218 rfl ?_
      cases (Option.some.inj hf)
      exact hQ _ _ ⟨rfl, rfl⟩
    refine tq_if_ne (M := mX11_cameBy) (pc := 205) (tgt := 212) dX11_cameBy_205 (by decide) (fun cc => ?_) (fun cc => ?_)
    · have hf := tq_ifn ep31.symm cc
      refine tq_iload (M := mX11_cameBy) (pc := 212) dX11_cameBy_212 rfl ?_
      refine tq_sipush (M := mX11_cameBy) (pc := 214) dX11_cameBy_214 tk_ks_m129 ?_
      refine tq_iand (M := mX11_cameBy) (pc := 217) dX11_cameBy_217 ?_
      refine tq_pick (L2 := []) [] rfl ?_
      cases hf
      exact HJ205
    · have hf := tq_ifp ep31.symm cc
      refine tq_iconst (M := mX11_cameBy) (pc := 208) dX11_cameBy_208 tk_ki_0 ?_
      refine tq_goto (M := mX11_cameBy) (pc := 209) (tgt := 218) dX11_cameBy_209 (by decide) ?_
      refine tq_pick (L2 := []) [] rfl ?_
      cases hf
      exact HJ205
  have hf := tq_ifn hf c7
  by_cases c8 : a1 = (8 : Int32)
  · have hf := tq_ifp hf c8
    refine tq_tabX (M := mX11_cameBy) (pc := 4) (tgt := 204) (8 : Int32) c8 dX11_cameBy_4 (by decide +kernel) (by decide +kernel) (off := 200) (by decide +kernel) (by decide) ?_
    refine tq_iload_n (M := mX11_cameBy) (pc := 204) dX11_cameBy_204 rfl ?_
    obtain ⟨p32, ep32, hf⟩ := tq_le hf
    have HJ205 : tq_W l mX11_cameBy d 0 0 Q 218 [] [.int p32] h := by
      refine tq_iret (M := mX11_cameBy) (pc := 218) dX11_cameBy_218 rfl ?_
      cases (Option.some.inj hf)
      exact hQ _ _ ⟨rfl, rfl⟩
    refine tq_if_ne (M := mX11_cameBy) (pc := 205) (tgt := 212) dX11_cameBy_205 (by decide) (fun cc => ?_) (fun cc => ?_)
    · have hf := tq_ifn ep32.symm cc
      refine tq_iload (M := mX11_cameBy) (pc := 212) dX11_cameBy_212 rfl ?_
      refine tq_sipush (M := mX11_cameBy) (pc := 214) dX11_cameBy_214 tk_ks_m129 ?_
      refine tq_iand (M := mX11_cameBy) (pc := 217) dX11_cameBy_217 ?_
      refine tq_pick (L2 := []) [] rfl ?_
      cases hf
      exact HJ205
    · have hf := tq_ifp ep32.symm cc
      refine tq_iconst (M := mX11_cameBy) (pc := 208) dX11_cameBy_208 tk_ki_0 ?_
      refine tq_goto (M := mX11_cameBy) (pc := 209) (tgt := 218) dX11_cameBy_209 (by decide) ?_
      refine tq_pick (L2 := []) [] rfl ?_
      cases hf
      exact HJ205
  have hf := tq_ifn hf c8
  by_cases c9 : a1 = (9 : Int32)
  · have hf := tq_ifp hf c9
    refine tq_tabX (M := mX11_cameBy) (pc := 4) (tgt := 219) (9 : Int32) c9 dX11_cameBy_4 (by decide +kernel) (by decide +kernel) (off := 215) (by decide +kernel) (by decide) ?_
    refine tq_aload_n (M := mX11_cameBy) (pc := 219) dX11_cameBy_219 rfl ?_
    refine tq_aload_n (M := mX11_cameBy) (pc := 220) dX11_cameBy_220 rfl ?_
    refine tq_iload_n (M := mX11_cameBy) (pc := 221) dX11_cameBy_221 rfl ?_
    refine tq_iload (M := mX11_cameBy) (pc := 222) dX11_cameBy_222 rfl ?_
    obtain ⟨⟨⟩, eu34, hf⟩ := tq_be hf
    obtain ⟨fsu34, eu34⟩ := tq_is_s eu34
    obtain ⟨v33, ev33, hf⟩ := tq_be hf
    refine tq_calV (M := mX11_cameBy) (pc := 224) (S := [.ref t]) tk_y_X11_parentsOf tk_v_X11_parentsOf tk_RX11_394 dX11_cameBy_224 [.int a3, .int a4] rfl (S0 := _) rfl eu34 rfl (Nat.le_of_ble_eq_true rfl) (d1 := d - 1) (b1 := 0) (s1 := 0) (bc' := 0) (bs' := 0) (Q1 := fun r h9 => r = .inl (some (.int v33)) ∧ h = h9) (by omega) rfl rfl (w_X11_parentsOf (by omega) ev33 (fun _ _ q => q)) (fun E h9 q => nomatch (show (Sum.inr E : tq_R) = Sum.inl _ from q.1)) (fun r9 h9 q => ?_)
    obtain ⟨q1, rfl⟩ := q
    cases (show (Sum.inl r9 : tq_R) = Sum.inl (some (.int v33)) from q1)
    obtain ⟨⟨⟩, eu36, hf⟩ := tq_be hf
    obtain ⟨fsu36, eu36⟩ := tq_is_s eu36
    obtain ⟨v35, ev35, hf⟩ := tq_be hf
    refine tq_calV (M := mX11_cameBy) (pc := 227) (S := []) tk_y_X11_childrenOf tk_v_X11_childrenOf tk_RX11_391 dX11_cameBy_227 [.int v33] rfl (S0 := _) rfl eu36 rfl (Nat.le_of_ble_eq_true rfl) (d1 := d - 1) (b1 := 0) (s1 := 0) (bc' := 0) (bs' := 0) (Q1 := fun r h9 => r = .inl (some (.int v35)) ∧ h = h9) (by omega) rfl rfl (w_X11_childrenOf (by omega) ev35 (fun _ _ q => q)) (fun E h9 q => nomatch (show (Sum.inr E : tq_R) = Sum.inl _ from q.1)) (fun r9 h9 q => ?_)
    obtain ⟨q1, rfl⟩ := q
    cases (show (Sum.inl r9 : tq_R) = Sum.inl (some (.int v35)) from q1)
    refine tq_iret (M := mX11_cameBy) (pc := 230) dX11_cameBy_230 rfl ?_
    cases (Option.some.inj hf)
    exact hQ _ _ ⟨rfl, rfl⟩
  have hf := tq_ifn hf c9
  by_cases c10 : a1 = (10 : Int32)
  · have hf := tq_ifp hf c10
    refine tq_tabX (M := mX11_cameBy) (pc := 4) (tgt := 219) (10 : Int32) c10 dX11_cameBy_4 (by decide +kernel) (by decide +kernel) (off := 215) (by decide +kernel) (by decide) ?_
    refine tq_aload_n (M := mX11_cameBy) (pc := 219) dX11_cameBy_219 rfl ?_
    refine tq_aload_n (M := mX11_cameBy) (pc := 220) dX11_cameBy_220 rfl ?_
    refine tq_iload_n (M := mX11_cameBy) (pc := 221) dX11_cameBy_221 rfl ?_
    refine tq_iload (M := mX11_cameBy) (pc := 222) dX11_cameBy_222 rfl ?_
    obtain ⟨⟨⟩, eu38, hf⟩ := tq_be hf
    obtain ⟨fsu38, eu38⟩ := tq_is_s eu38
    obtain ⟨v37, ev37, hf⟩ := tq_be hf
    refine tq_calV (M := mX11_cameBy) (pc := 224) (S := [.ref t]) tk_y_X11_parentsOf tk_v_X11_parentsOf tk_RX11_394 dX11_cameBy_224 [.int a3, .int a4] rfl (S0 := _) rfl eu38 rfl (Nat.le_of_ble_eq_true rfl) (d1 := d - 1) (b1 := 0) (s1 := 0) (bc' := 0) (bs' := 0) (Q1 := fun r h9 => r = .inl (some (.int v37)) ∧ h = h9) (by omega) rfl rfl (w_X11_parentsOf (by omega) ev37 (fun _ _ q => q)) (fun E h9 q => nomatch (show (Sum.inr E : tq_R) = Sum.inl _ from q.1)) (fun r9 h9 q => ?_)
    obtain ⟨q1, rfl⟩ := q
    cases (show (Sum.inl r9 : tq_R) = Sum.inl (some (.int v37)) from q1)
    obtain ⟨⟨⟩, eu40, hf⟩ := tq_be hf
    obtain ⟨fsu40, eu40⟩ := tq_is_s eu40
    obtain ⟨v39, ev39, hf⟩ := tq_be hf
    refine tq_calV (M := mX11_cameBy) (pc := 227) (S := []) tk_y_X11_childrenOf tk_v_X11_childrenOf tk_RX11_391 dX11_cameBy_227 [.int v37] rfl (S0 := _) rfl eu40 rfl (Nat.le_of_ble_eq_true rfl) (d1 := d - 1) (b1 := 0) (s1 := 0) (bc' := 0) (bs' := 0) (Q1 := fun r h9 => r = .inl (some (.int v39)) ∧ h = h9) (by omega) rfl rfl (w_X11_childrenOf (by omega) ev39 (fun _ _ q => q)) (fun E h9 q => nomatch (show (Sum.inr E : tq_R) = Sum.inl _ from q.1)) (fun r9 h9 q => ?_)
    obtain ⟨q1, rfl⟩ := q
    cases (show (Sum.inl r9 : tq_R) = Sum.inl (some (.int v39)) from q1)
    refine tq_iret (M := mX11_cameBy) (pc := 230) dX11_cameBy_230 rfl ?_
    cases (Option.some.inj hf)
    exact hQ _ _ ⟨rfl, rfl⟩
  have hf := tq_ifn hf c10
  by_cases c11 : a1 = (11 : Int32)
  · have hf := tq_ifp hf c11
    refine tq_tabX (M := mX11_cameBy) (pc := 4) (tgt := 231) (11 : Int32) c11 dX11_cameBy_4 (by decide +kernel) (by decide +kernel) (off := 227) (by decide +kernel) (by decide) ?_
    refine tq_aload_n (M := mX11_cameBy) (pc := 231) dX11_cameBy_231 rfl ?_
    refine tq_iload_n (M := mX11_cameBy) (pc := 232) dX11_cameBy_232 rfl ?_
    obtain ⟨⟨⟩, eu42, hf⟩ := tq_be hf
    obtain ⟨fsu42, eu42⟩ := tq_is_s eu42
    obtain ⟨v41, ev41, hf⟩ := tq_be hf
    refine tq_calV (M := mX11_cameBy) (pc := 233) (S := []) tk_y_X11_canHave tk_v_X11_canHave tk_RX11_388 dX11_cameBy_233 [.int a3] rfl (S0 := _) rfl eu42 rfl (Nat.le_of_ble_eq_true rfl) (d1 := d - 1) (b1 := 0) (s1 := 0) (bc' := 0) (bs' := 0) (Q1 := fun r h9 => r = .inl (some (.int v41)) ∧ h = h9) (by omega) rfl rfl (w_X11_canHave (by omega) ev41 (fun _ _ q => q)) (fun E h9 q => nomatch (show (Sum.inr E : tq_R) = Sum.inl _ from q.1)) (fun r9 h9 q => ?_)
    obtain ⟨q1, rfl⟩ := q
    cases (show (Sum.inl r9 : tq_R) = Sum.inl (some (.int v41)) from q1)
    refine tq_sipush (M := mX11_cameBy) (pc := 236) dX11_cameBy_236 tk_ks_128 ?_
    refine tq_iand (M := mX11_cameBy) (pc := 239) dX11_cameBy_239 ?_
    refine tq_iret (M := mX11_cameBy) (pc := 240) dX11_cameBy_240 rfl ?_
    cases (Option.some.inj hf)
    exact hQ _ _ ⟨rfl, rfl⟩
  have hf := tq_ifn hf c11
  have hD := tq_far (c := a1) (n := 12) (by decide) (fun j hj => by match j, hj with
    | 0, _ => exact c0
    | 1, _ => exact c1
    | 2, _ => exact c2
    | 3, _ => exact c3
    | 4, _ => exact c4
    | 5, _ => exact c5
    | 6, _ => exact c6
    | 7, _ => exact c7
    | 8, _ => exact c8
    | 9, _ => exact c9
    | 10, _ => exact c10
    | 11, _ => exact c11
    | j + 12, hj => exact absurd hj (by omega))
  refine tq_tabD (M := mX11_cameBy) (pc := 4) (tgt := 241) dX11_cameBy_4 (by exact hD) (by decide) ?_
  refine tq_iconst (M := mX11_cameBy) (pc := 241) dX11_cameBy_241 tk_ki_0 ?_
  refine tq_istore (M := mX11_cameBy) (pc := 242) dX11_cameBy_242 (L2 := [(6, .int (0 : Int32)), (5, .int (0 : Int32)), (0, .ref t), (1, .int a1), (2, .int a2), (3, .int a3), (4, .int a4)]) (by decide) rfl ?_
  refine tq_iload_n (M := mX11_cameBy) (pc := 244) dX11_cameBy_244 rfl ?_
  refine tq_istore (M := mX11_cameBy) (pc := 245) dX11_cameBy_245 (L2 := [(7, .int a3), (6, .int (0 : Int32)), (5, .int (0 : Int32)), (0, .ref t), (1, .int a1), (2, .int a2), (3, .int a3), (4, .int a4)]) (by decide) rfl ?_
  obtain ⟨o47, eo47, hf⟩ := tq_be hf
  refine tq_pick (L2 := [(0, .ref t), (2, .int a2), (5, .int (0 : Int32)), (6, .int (0 : Int32)), (7, .int a3)]) [3, 5, 2, 1, 0] rfl ?_
  refine l_X11_cameBy_247 (by omega) t a2 h _ (0 : Int32) (0 : Int32) a3 _ eo47 ?_
  refine tq_iload (M := mX11_cameBy) (pc := 283) dX11_cameBy_283 rfl ?_
  refine tq_iret (M := mX11_cameBy) (pc := 285) dX11_cameBy_285 rfl ?_
  cases (Option.some.inj hf)
  exact hQ _ _ ⟨rfl, rfl⟩
abbrev mX11_left : tq_M := (RX11, cX11_left, 5, (some .int), false, [], none)
def f_X11_left_b5 (i0 : Nat) (i1 : Int32) (i2 : Int32) (hh : tq_H) (s : Int32 × Int32) : Option ((Int32 × Int32) ⊕ (Int32)) := match s with
  | (y3, y4) =>
    if y4 ≥ (6 : Int32) then
      some (.inr y3)
    else
      (if i1 ≥ (8 : Int32) then
        some ((1 : Int32) <<< (y4 &&& 31))
      else
        (tq_gr hh i0 11 36).bind fun k1 =>
        (tq_ai hh k1 y4).bind fun x2 =>
        if x2 = i1 then
          some ((1 : Int32) <<< (y4 &&& 31))
        else
          some (0 : Int32)).bind fun p3 =>
      tq_let ((y3 ||| p3)) fun x4 =>
      tq_let (y4 + (1 : Int32)) fun x5 =>
      some (.inl (x4, x5))
def f_X11_left (t : Nat) (a1 : Int32) (a2 : Int32) (h : tq_H) : Option (Int32) :=
  (tq_loop (f_X11_left_b5 t a1 a2 h) tq_N ((0 : Int32), (0 : Int32))).bind fun o6 =>
  tq_let (if a1 ≥ (8 : Int32) then (if a1 = (8 : Int32) then a2 else if a1 = (9 : Int32) then (a2 &&& (64 : Int32)) else (a2 &&& o6)) else (a2 &&& (o6 ||| (128 : Int32)))) fun p7 =>
  some p7
set_option maxHeartbeats 4000000 in
theorem l_X11_left_5 {l : Launch} {d : Nat} {Q : tq_R → tq_H → Prop} (hd9 : 0 ≤ d) (i0 : Nat) (i1 : Int32) (i2 : Int32) (hh : tq_H) : ∀ (n : Nat) (y3 : Int32) (y4 : Int32) (o : Int32), tq_loop (f_X11_left_b5 i0 i1 i2 hh) n (y3, y4) = some o → tq_W l mX11_left d 0 0 Q 46 [(1, .int i1), (2, .int i2), (3, .int o)] [] hh → tq_W l mX11_left d 0 0 Q 5 [(0, .ref i0), (1, .int i1), (2, .int i2), (3, .int y3), (4, .int y4)] [] hh := by
  intro n
  induction n with
  | zero => intro y3 y4 o hl; cases hl
  | succ n ih =>
    intro y3 y4 o hl hk
    obtain ⟨oo, hf, ho⟩ := tq_loop_s hl
    refine tq_iload (M := mX11_left) (pc := 5) dX11_left_5 rfl ?_
    refine tq_bipush (M := mX11_left) (pc := 7) dX11_left_7 tk_kb_6 ?_
    refine tq_icmp_ge (M := mX11_left) (pc := 9) (tgt := 46) dX11_left_9 (by decide) (fun cc => ?_) (fun cc => ?_)
    · have hf := tq_ifp hf cc
      refine tq_pick (L2 := [(1, .int i1), (2, .int i2), (3, .int y3)]) [1, 2, 3] rfl ?_
      cases (Option.some.inj hf)
      cases (tq_lx ho)
      exact hk
    · have hf := tq_ifn hf cc
      refine tq_iload_n (M := mX11_left) (pc := 12) dX11_left_12 rfl ?_
      refine tq_iload_n (M := mX11_left) (pc := 13) dX11_left_13 rfl ?_
      refine tq_bipush (M := mX11_left) (pc := 14) dX11_left_14 tk_kb_8 ?_
      obtain ⟨p3, ep3, hf⟩ := tq_be hf
      have HJ16 : tq_W l mX11_left d 0 0 Q 38 [(0, .ref i0), (1, .int i1), (2, .int i2), (4, .int y4)] [.int p3, .int y3] hh := by
        refine tq_ior (M := mX11_left) (pc := 38) dX11_left_38 ?_
        obtain ⟨x4, ex4, hf⟩ := tq_le hf
        refine tq_istore_n (M := mX11_left) (pc := 39) rfl dX11_left_39 (L2 := [(3, .int x4), (0, .ref i0), (1, .int i1), (2, .int i2), (4, .int y4)]) (by decide) (by rw [ex4]; rfl) ?_
        obtain ⟨x5, ex5, hf⟩ := tq_le hf
        refine tq_iinc (M := mX11_left) (pc := 40) (v := x5) (L2 := [(4, .int x5), (3, .int x4), (0, .ref i0), (1, .int i1), (2, .int i2)]) dX11_left_40 rfl (by rw [ex5, tk_ki_1]) (by decide) rfl ?_
        refine tq_goto (M := mX11_left) (pc := 43) (tgt := 5) dX11_left_43 (by decide) ?_
        refine tq_pick (L2 := [(0, .ref i0), (1, .int i1), (2, .int i2), (3, .int x4), (4, .int x5)]) [2, 3, 4, 1, 0] rfl ?_
        cases (Option.some.inj hf)
        exact ih _ _ o (tq_lc ho) hk
      refine tq_icmp_ge (M := mX11_left) (pc := 16) (tgt := 30) dX11_left_16 (by decide) (fun cc => ?_) (fun cc => ?_)
      · have hf := tq_ifp ep3 cc
        refine tq_iconst (M := mX11_left) (pc := 30) dX11_left_30 tk_ki_1 ?_
        refine tq_iload (M := mX11_left) (pc := 31) dX11_left_31 rfl ?_
        refine tq_ishl (M := mX11_left) (pc := 33) dX11_left_33 ?_
        refine tq_goto (M := mX11_left) (pc := 34) (tgt := 38) dX11_left_34 (by decide) ?_
        refine tq_pick (L2 := [(0, .ref i0), (1, .int i1), (2, .int i2), (4, .int y4)]) [0, 1, 2, 4] rfl ?_
        cases (Option.some.inj hf)
        exact HJ16
      · have hf := tq_ifn ep3 cc
        refine tq_aload_n (M := mX11_left) (pc := 19) dX11_left_19 rfl ?_
        obtain ⟨k1, ek1, hf⟩ := tq_be hf
        refine tq_getR (M := mX11_left) (pc := 20) tk_c11 (by decide) dX11_left_20 tk_RX11_93 rfl ek1 ?_
        refine tq_iload (M := mX11_left) (pc := 23) dX11_left_23 rfl ?_
        obtain ⟨x2, ex2, hf⟩ := tq_be hf
        refine tq_ialdF (M := mX11_left) (pc := 25) dX11_left_25 ex2 ?_
        refine tq_iload_n (M := mX11_left) (pc := 26) dX11_left_26 rfl ?_
        refine tq_icmp_ne (M := mX11_left) (pc := 27) (tgt := 37) dX11_left_27 (by decide) (fun cc => ?_) (fun cc => ?_)
        · have hf := tq_ifn hf cc
          refine tq_iconst (M := mX11_left) (pc := 37) dX11_left_37 tk_ki_0 ?_
          refine tq_pick (L2 := [(0, .ref i0), (1, .int i1), (2, .int i2), (4, .int y4)]) [0, 1, 2, 4] rfl ?_
          cases (Option.some.inj hf)
          exact HJ16
        · have hf := tq_ifp hf cc
          refine tq_iconst (M := mX11_left) (pc := 30) dX11_left_30 tk_ki_1 ?_
          refine tq_iload (M := mX11_left) (pc := 31) dX11_left_31 rfl ?_
          refine tq_ishl (M := mX11_left) (pc := 33) dX11_left_33 ?_
          refine tq_goto (M := mX11_left) (pc := 34) (tgt := 38) dX11_left_34 (by decide) ?_
          refine tq_pick (L2 := [(0, .ref i0), (1, .int i1), (2, .int i2), (4, .int y4)]) [0, 1, 2, 4] rfl ?_
          cases (Option.some.inj hf)
          exact HJ16
set_option maxHeartbeats 4000000 in
set_option maxRecDepth 20000 in
theorem w_X11_left {l : Launch} {d : Nat} (hd9 : 0 ≤ d) {t : Nat} {a1 : Int32} {a2 : Int32} {h : tq_H} {o : Int32} {Q : tq_R → tq_H → Prop} (hf : f_X11_left t a1 a2 h = some o) (hQ : ∀ r h9, r = .inl (some (.int o)) ∧ h = h9 → Q r h9) : tq_C l yX11_left cX11_left 5 (some .int) d 0 0 [.ref t, .int a1, .int a2] h Q := by
  refine tq_body (y := yX11_left) false (by decide +kernel) (fun z => by cases z) (Nat.le_of_ble_eq_true rfl) ?_
  show tq_W l mX11_left d 0 0 Q 0 [(0, .ref t), (1, .int a1), (2, .int a2)] [] h
  refine tq_iconst (M := mX11_left) (pc := 0) dX11_left_0 tk_ki_0 ?_
  refine tq_istore_n (M := mX11_left) (pc := 1) rfl dX11_left_1 (L2 := [(3, .int (0 : Int32)), (0, .ref t), (1, .int a1), (2, .int a2)]) (by decide) rfl ?_
  refine tq_iconst (M := mX11_left) (pc := 2) dX11_left_2 tk_ki_0 ?_
  refine tq_istore (M := mX11_left) (pc := 3) dX11_left_3 (L2 := [(4, .int (0 : Int32)), (3, .int (0 : Int32)), (0, .ref t), (1, .int a1), (2, .int a2)]) (by decide) rfl ?_
  obtain ⟨o6, eo6, hf⟩ := tq_be hf
  refine tq_pick (L2 := [(0, .ref t), (1, .int a1), (2, .int a2), (3, .int (0 : Int32)), (4, .int (0 : Int32))]) [2, 3, 4, 1, 0] rfl ?_
  refine l_X11_left_5 (by omega) t a1 a2 h _ (0 : Int32) (0 : Int32) _ eo6 ?_
  refine tq_iload_n (M := mX11_left) (pc := 46) dX11_left_46 rfl ?_
  refine tq_bipush (M := mX11_left) (pc := 47) dX11_left_47 tk_kb_8 ?_
  obtain ⟨p7, ep7, hf⟩ := tq_le hf
  have HJ49 : tq_W l mX11_left d 0 0 Q 88 [] [.int p7] h := by
    refine tq_iret (M := mX11_left) (pc := 88) dX11_left_88 rfl ?_
    cases (Option.some.inj hf)
    exact hQ _ _ ⟨rfl, rfl⟩
  refine tq_icmp_ge (M := mX11_left) (pc := 49) (tgt := 62) dX11_left_49 (by decide) (fun cc => ?_) (fun cc => ?_)
  · have hf := tq_ifp ep7.symm cc
    refine tq_iload_n (M := mX11_left) (pc := 62) dX11_left_62 rfl ?_
    refine tq_bipush (M := mX11_left) (pc := 63) dX11_left_63 tk_kb_8 ?_
    refine tq_icmp_ne (M := mX11_left) (pc := 65) (tgt := 72) dX11_left_65 (by decide) (fun cc => ?_) (fun cc => ?_)
    · have hf := tq_ifn hf cc
      refine tq_iload_n (M := mX11_left) (pc := 72) dX11_left_72 rfl ?_
      refine tq_bipush (M := mX11_left) (pc := 73) dX11_left_73 tk_kb_9 ?_
      refine tq_icmp_ne (M := mX11_left) (pc := 75) (tgt := 85) dX11_left_75 (by decide) (fun cc => ?_) (fun cc => ?_)
      · have hf := tq_ifn hf cc
        refine tq_iload_n (M := mX11_left) (pc := 85) dX11_left_85 rfl ?_
        refine tq_iload_n (M := mX11_left) (pc := 86) dX11_left_86 rfl ?_
        refine tq_iand (M := mX11_left) (pc := 87) dX11_left_87 ?_
        refine tq_pick (L2 := []) [] rfl ?_
        cases hf
        exact HJ49
      · have hf := tq_ifp hf cc
        refine tq_iload_n (M := mX11_left) (pc := 78) dX11_left_78 rfl ?_
        refine tq_bipush (M := mX11_left) (pc := 79) dX11_left_79 tk_kb_64 ?_
        refine tq_iand (M := mX11_left) (pc := 81) dX11_left_81 ?_
        refine tq_goto (M := mX11_left) (pc := 82) (tgt := 88) dX11_left_82 (by decide) ?_
        refine tq_pick (L2 := []) [] rfl ?_
        cases hf
        exact HJ49
    · have hf := tq_ifp hf cc
      refine tq_iload_n (M := mX11_left) (pc := 68) dX11_left_68 rfl ?_
      refine tq_goto (M := mX11_left) (pc := 69) (tgt := 88) dX11_left_69 (by decide) ?_
      refine tq_pick (L2 := []) [] rfl ?_
      cases hf
      exact HJ49
  · have hf := tq_ifn ep7.symm cc
    refine tq_iload_n (M := mX11_left) (pc := 52) dX11_left_52 rfl ?_
    refine tq_iload_n (M := mX11_left) (pc := 53) dX11_left_53 rfl ?_
    refine tq_sipush (M := mX11_left) (pc := 54) dX11_left_54 tk_ks_128 ?_
    refine tq_ior (M := mX11_left) (pc := 57) dX11_left_57 ?_
    refine tq_iand (M := mX11_left) (pc := 58) dX11_left_58 ?_
    refine tq_goto (M := mX11_left) (pc := 59) (tgt := 88) dX11_left_59 (by decide) ?_
    refine tq_pick (L2 := []) [] rfl ?_
    cases hf
    exact HJ49
abbrev mX11_infer : tq_M := (RX11, cX11_infer, 7, (some .int), false, [], none)
def f_X11_infer_b54 (i0 : Nat) (i1 : Int32) (i2 : Int32) (i3 : Int32) (i4 : Int32) (hh : tq_H) (s : Int32 × Int32) : Option ((Int32 × Int32) ⊕ (Int32)) := match s with
  | (y5, y6) =>
    (tq_gr hh i0 11 25).bind fun k9 =>
    (tq_ai hh k9 i3).bind fun x10 =>
    if y6 ≥ (((5 : Int32) * i3) + x10) then
      some (.inr y5)
    else
      (tq_gr hh i0 11 26).bind fun k11 =>
      (tq_ai hh k11 (((3 : Int32) * y6) + (1 : Int32))).bind fun x12 =>
      (tq_gr hh i0 11 26).bind fun k13 =>
      (tq_ai hh k13 ((3 : Int32) * y6)).bind fun x14 =>
      (tq_gr hh i0 11 26).bind fun k15 =>
      (tq_ai hh k15 (((3 : Int32) * y6) + (2 : Int32))).bind fun x16 =>
      (tq_is hh i0 11).bind fun _ =>
      (f_X11_cameBy i0 x14 x16 y5 i2 hh).bind fun v17 =>
      (tq_is hh i0 11).bind fun _ =>
      (f_X11_left i0 x12 (v17 &&& i2) hh).bind fun v19 =>
      tq_let (y6 + (1 : Int32)) fun x21 =>
      some (.inl (v19, x21))
def f_X11_infer_b37 (i0 : Nat) (i1 : Int32) (i2 : Int32) (i3 : Int32) (s : Int32 × tq_H) : Option ((Int32 × tq_H) ⊕ (tq_H)) := match s with
  | (y4, hh) =>
    if y4 ≥ (256 : Int32) then
      some (.inr hh)
    else
      tq_let (((5 : Int32) * i3)) fun x8 =>
      (tq_loop (f_X11_infer_b54 i0 i1 i2 i3 y4 hh) tq_N (y4, x8)).bind fun o22 =>
      (tq_gr hh i0 11 43).bind fun k23 =>
      (tq_si hh k23 (((256 : Int32) * i3) + y4) o22).bind fun w24 =>
      tq_let (y4 + (1 : Int32)) fun x25 =>
      some (.inl (x25, w24))
def f_X11_infer_b29 (i0 : Nat) (i1 : Int32) (i2 : Int32) (s : Int32 × tq_H) : Option ((Int32 × tq_H) ⊕ (tq_H)) := match s with
  | (y3, hh) =>
    if y3 > i1 then
      some (.inr hh)
    else
      (tq_loop (f_X11_infer_b37 i0 i1 i2 y3) tq_N ((0 : Int32), hh)).bind fun o26 =>
      tq_let (y3 + (1 : Int32)) fun x27 =>
      some (.inl (x27, o26))
def f_X11_infer (t : Nat) (a1 : Int32) (h : tq_H) : Option (Int32 × tq_H) :=
  (tq_is h t 11).bind fun _ =>
  (f_X11_isPath t a1 h).bind fun v1 =>
  tq_let (if v1 = 0 then (1 : Int32) else (0 : Int32)) fun p3 =>
  (tq_is h t 11).bind fun _ =>
  (f_X11_refused t p3 h).bind fun v4 =>
  if v4.1 = 0 then
    (tq_is v4.2 t 11).bind fun _ =>
    (f_X11_allTypes t v4.2).bind fun v6 =>
    (tq_loop (f_X11_infer_b29 t a1 v6) tq_N ((0 : Int32), v4.2)).bind fun o28 =>
    (tq_gr o28 t 11 43).bind fun k29 =>
    (tq_ai o28 k29 (((256 : Int32) * a1) + (1 : Int32))).bind fun x30 =>
    some (x30, o28)
  else
    some ((0 : Int32), v4.2)
set_option maxHeartbeats 4000000 in
theorem l_X11_infer_54 {l : Launch} {d : Nat} {Q : tq_R → tq_H → Prop} (hd9 : 3 ≤ d) (i0 : Nat) (i1 : Int32) (i2 : Int32) (i3 : Int32) (i4 : Int32) (hh : tq_H) : ∀ (n : Nat) (y5 : Int32) (y6 : Int32) (o : Int32), tq_loop (f_X11_infer_b54 i0 i1 i2 i3 i4 hh) n (y5, y6) = some o → tq_W l mX11_infer d 0 0 Q 121 [(0, .ref i0), (1, .int i1), (2, .int i2), (3, .int i3), (4, .int i4), (5, .int o)] [] hh → tq_W l mX11_infer d 0 0 Q 54 [(0, .ref i0), (1, .int i1), (2, .int i2), (3, .int i3), (4, .int i4), (5, .int y5), (6, .int y6)] [] hh := by
  intro n
  induction n with
  | zero => intro y5 y6 o hl; cases hl
  | succ n ih =>
    intro y5 y6 o hl hk
    obtain ⟨oo, hf, ho⟩ := tq_loop_s hl
    refine tq_iload (M := mX11_infer) (pc := 54) dX11_infer_54 rfl ?_
    refine tq_iconst (M := mX11_infer) (pc := 56) dX11_infer_56 tk_ki_5 ?_
    refine tq_iload_n (M := mX11_infer) (pc := 57) dX11_infer_57 rfl ?_
    refine tq_imul (M := mX11_infer) (pc := 58) dX11_infer_58 ?_
    refine tq_aload_n (M := mX11_infer) (pc := 59) dX11_infer_59 rfl ?_
    obtain ⟨k9, ek9, hf⟩ := tq_be hf
    refine tq_getR (M := mX11_infer) (pc := 60) tk_c11 (by decide) dX11_infer_60 tk_RX11_68 rfl ek9 ?_
    refine tq_iload_n (M := mX11_infer) (pc := 63) dX11_infer_63 rfl ?_
    obtain ⟨x10, ex10, hf⟩ := tq_be hf
    refine tq_ialdF (M := mX11_infer) (pc := 64) dX11_infer_64 ex10 ?_
    refine tq_iadd (M := mX11_infer) (pc := 65) dX11_infer_65 ?_
    refine tq_icmp_ge (M := mX11_infer) (pc := 66) (tgt := 121) dX11_infer_66 (by decide) (fun cc => ?_) (fun cc => ?_)
    · have hf := tq_ifp hf cc
      refine tq_pick (L2 := [(0, .ref i0), (1, .int i1), (2, .int i2), (3, .int i3), (4, .int i4), (5, .int y5)]) [0, 1, 2, 3, 4, 5] rfl ?_
      cases (Option.some.inj hf)
      cases (tq_lx ho)
      exact hk
    · have hf := tq_ifn hf cc
      refine tq_aload_n (M := mX11_infer) (pc := 69) dX11_infer_69 rfl ?_
      refine tq_aload_n (M := mX11_infer) (pc := 70) dX11_infer_70 rfl ?_
      obtain ⟨k11, ek11, hf⟩ := tq_be hf
      refine tq_getR (M := mX11_infer) (pc := 71) tk_c11 (by decide) dX11_infer_71 tk_RX11_71 rfl ek11 ?_
      refine tq_iconst (M := mX11_infer) (pc := 74) dX11_infer_74 tk_ki_3 ?_
      refine tq_iload (M := mX11_infer) (pc := 75) dX11_infer_75 rfl ?_
      refine tq_imul (M := mX11_infer) (pc := 77) dX11_infer_77 ?_
      refine tq_iconst (M := mX11_infer) (pc := 78) dX11_infer_78 tk_ki_1 ?_
      refine tq_iadd (M := mX11_infer) (pc := 79) dX11_infer_79 ?_
      obtain ⟨x12, ex12, hf⟩ := tq_be hf
      refine tq_ialdF (M := mX11_infer) (pc := 80) dX11_infer_80 ex12 ?_
      refine tq_aload_n (M := mX11_infer) (pc := 81) dX11_infer_81 rfl ?_
      refine tq_aload_n (M := mX11_infer) (pc := 82) dX11_infer_82 rfl ?_
      obtain ⟨k13, ek13, hf⟩ := tq_be hf
      refine tq_getR (M := mX11_infer) (pc := 83) tk_c11 (by decide) dX11_infer_83 tk_RX11_71 rfl ek13 ?_
      refine tq_iconst (M := mX11_infer) (pc := 86) dX11_infer_86 tk_ki_3 ?_
      refine tq_iload (M := mX11_infer) (pc := 87) dX11_infer_87 rfl ?_
      refine tq_imul (M := mX11_infer) (pc := 89) dX11_infer_89 ?_
      obtain ⟨x14, ex14, hf⟩ := tq_be hf
      refine tq_ialdF (M := mX11_infer) (pc := 90) dX11_infer_90 ex14 ?_
      refine tq_aload_n (M := mX11_infer) (pc := 91) dX11_infer_91 rfl ?_
      obtain ⟨k15, ek15, hf⟩ := tq_be hf
      refine tq_getR (M := mX11_infer) (pc := 92) tk_c11 (by decide) dX11_infer_92 tk_RX11_71 rfl ek15 ?_
      refine tq_iconst (M := mX11_infer) (pc := 95) dX11_infer_95 tk_ki_3 ?_
      refine tq_iload (M := mX11_infer) (pc := 96) dX11_infer_96 rfl ?_
      refine tq_imul (M := mX11_infer) (pc := 98) dX11_infer_98 ?_
      refine tq_iconst (M := mX11_infer) (pc := 99) dX11_infer_99 tk_ki_2 ?_
      refine tq_iadd (M := mX11_infer) (pc := 100) dX11_infer_100 ?_
      obtain ⟨x16, ex16, hf⟩ := tq_be hf
      refine tq_ialdF (M := mX11_infer) (pc := 101) dX11_infer_101 ex16 ?_
      refine tq_iload (M := mX11_infer) (pc := 102) dX11_infer_102 rfl ?_
      refine tq_iload_n (M := mX11_infer) (pc := 104) dX11_infer_104 rfl ?_
      obtain ⟨⟨⟩, eu18, hf⟩ := tq_be hf
      obtain ⟨fsu18, eu18⟩ := tq_is_s eu18
      obtain ⟨v17, ev17, hf⟩ := tq_be hf
      refine tq_calV (M := mX11_infer) (pc := 105) (S := [.int x12, .ref i0]) tk_y_X11_cameBy tk_v_X11_cameBy tk_RX11_400 dX11_infer_105 [.int x14, .int x16, .int y5, .int i2] rfl (S0 := _) rfl eu18 rfl (Nat.le_of_ble_eq_true rfl) (d1 := d - 1) (b1 := 0) (s1 := 0) (bc' := 0) (bs' := 0) (Q1 := fun r h9 => r = .inl (some (.int v17)) ∧ hh = h9) (by omega) rfl rfl (w_X11_cameBy (by omega) ev17 (fun _ _ q => q)) (fun E h9 q => nomatch (show (Sum.inr E : tq_R) = Sum.inl _ from q.1)) (fun r9 h9 q => ?_)
      obtain ⟨q1, rfl⟩ := q
      cases (show (Sum.inl r9 : tq_R) = Sum.inl (some (.int v17)) from q1)
      refine tq_iload_n (M := mX11_infer) (pc := 108) dX11_infer_108 rfl ?_
      refine tq_iand (M := mX11_infer) (pc := 109) dX11_infer_109 ?_
      obtain ⟨⟨⟩, eu20, hf⟩ := tq_be hf
      obtain ⟨fsu20, eu20⟩ := tq_is_s eu20
      obtain ⟨v19, ev19, hf⟩ := tq_be hf
      refine tq_calV (M := mX11_infer) (pc := 110) (S := []) tk_y_X11_left tk_v_X11_left tk_RX11_404 dX11_infer_110 [.int x12, .int ((v17 &&& i2))] rfl (S0 := _) rfl eu20 rfl (Nat.le_of_ble_eq_true rfl) (d1 := d - 1) (b1 := 0) (s1 := 0) (bc' := 0) (bs' := 0) (Q1 := fun r h9 => r = .inl (some (.int v19)) ∧ hh = h9) (by omega) rfl rfl (w_X11_left (by omega) ev19 (fun _ _ q => q)) (fun E h9 q => nomatch (show (Sum.inr E : tq_R) = Sum.inl _ from q.1)) (fun r9 h9 q => ?_)
      obtain ⟨q1, rfl⟩ := q
      cases (show (Sum.inl r9 : tq_R) = Sum.inl (some (.int v19)) from q1)
      refine tq_istore (M := mX11_infer) (pc := 113) dX11_infer_113 (L2 := [(5, .int v19), (0, .ref i0), (1, .int i1), (2, .int i2), (3, .int i3), (4, .int i4), (6, .int y6)]) (by decide) rfl ?_
      obtain ⟨x21, ex21, hf⟩ := tq_le hf
      refine tq_iinc (M := mX11_infer) (pc := 115) (v := x21) (L2 := [(6, .int x21), (5, .int v19), (0, .ref i0), (1, .int i1), (2, .int i2), (3, .int i3), (4, .int i4)]) dX11_infer_115 rfl (by rw [ex21, tk_ki_1]) (by decide) rfl ?_
      refine tq_goto (M := mX11_infer) (pc := 118) (tgt := 54) dX11_infer_118 (by decide) ?_
      refine tq_pick (L2 := [(0, .ref i0), (1, .int i1), (2, .int i2), (3, .int i3), (4, .int i4), (5, .int v19), (6, .int x21)]) [2, 3, 4, 5, 6, 1, 0] rfl ?_
      cases (Option.some.inj hf)
      exact ih _ _ o (tq_lc ho) hk
set_option maxHeartbeats 4000000 in
theorem l_X11_infer_37 {l : Launch} {d : Nat} {Q : tq_R → tq_H → Prop} (hd9 : 3 ≤ d) (i0 : Nat) (i1 : Int32) (i2 : Int32) (i3 : Int32) : ∀ (n : Nat) (y4 : Int32) (hh : tq_H) (o : tq_H), tq_loop (f_X11_infer_b37 i0 i1 i2 i3) n (y4, hh) = some o → tq_W l mX11_infer d 0 0 Q 142 [(0, .ref i0), (1, .int i1), (2, .int i2), (3, .int i3)] [] o → tq_W l mX11_infer d 0 0 Q 37 [(0, .ref i0), (1, .int i1), (2, .int i2), (3, .int i3), (4, .int y4)] [] hh := by
  intro n
  induction n with
  | zero => intro y4 hh o hl; cases hl
  | succ n ih =>
    intro y4 hh o hl hk
    obtain ⟨oo, hf, ho⟩ := tq_loop_s hl
    refine tq_iload (M := mX11_infer) (pc := 37) dX11_infer_37 rfl ?_
    refine tq_sipush (M := mX11_infer) (pc := 39) dX11_infer_39 tk_ks_256 ?_
    refine tq_icmp_ge (M := mX11_infer) (pc := 42) (tgt := 142) dX11_infer_42 (by decide) (fun cc => ?_) (fun cc => ?_)
    · have hf := tq_ifp hf cc
      refine tq_pick (L2 := [(0, .ref i0), (1, .int i1), (2, .int i2), (3, .int i3)]) [0, 1, 2, 3] rfl ?_
      cases (Option.some.inj hf)
      cases (tq_lx ho)
      exact hk
    · have hf := tq_ifn hf cc
      refine tq_iload (M := mX11_infer) (pc := 45) dX11_infer_45 rfl ?_
      refine tq_istore (M := mX11_infer) (pc := 47) dX11_infer_47 (L2 := [(5, .int y4), (0, .ref i0), (1, .int i1), (2, .int i2), (3, .int i3), (4, .int y4)]) (by decide) rfl ?_
      refine tq_iconst (M := mX11_infer) (pc := 49) dX11_infer_49 tk_ki_5 ?_
      refine tq_iload_n (M := mX11_infer) (pc := 50) dX11_infer_50 rfl ?_
      refine tq_imul (M := mX11_infer) (pc := 51) dX11_infer_51 ?_
      obtain ⟨x8, ex8, hf⟩ := tq_le hf
      refine tq_istore (M := mX11_infer) (pc := 52) dX11_infer_52 (L2 := [(6, .int x8), (5, .int y4), (0, .ref i0), (1, .int i1), (2, .int i2), (3, .int i3), (4, .int y4)]) (by decide) (by rw [ex8]; rfl) ?_
      obtain ⟨o22, eo22, hf⟩ := tq_be hf
      refine tq_pick (L2 := [(0, .ref i0), (1, .int i1), (2, .int i2), (3, .int i3), (4, .int y4), (5, .int y4), (6, .int x8)]) [2, 3, 4, 5, 6, 1, 0] rfl ?_
      refine l_X11_infer_54 (by omega) i0 i1 i2 i3 y4 hh _ y4 x8 _ eo22 ?_
      refine tq_aload_n (M := mX11_infer) (pc := 121) dX11_infer_121 rfl ?_
      obtain ⟨k23, ek23, hf⟩ := tq_be hf
      refine tq_getR (M := mX11_infer) (pc := 122) tk_c11 (by decide) dX11_infer_122 tk_RX11_111 rfl ek23 ?_
      refine tq_sipush (M := mX11_infer) (pc := 125) dX11_infer_125 tk_ks_256 ?_
      refine tq_iload_n (M := mX11_infer) (pc := 128) dX11_infer_128 rfl ?_
      refine tq_imul (M := mX11_infer) (pc := 129) dX11_infer_129 ?_
      refine tq_iload (M := mX11_infer) (pc := 130) dX11_infer_130 rfl ?_
      refine tq_iadd (M := mX11_infer) (pc := 132) dX11_infer_132 ?_
      refine tq_iload (M := mX11_infer) (pc := 133) dX11_infer_133 rfl ?_
      obtain ⟨w24, ew24, hf⟩ := tq_be hf
      refine tq_iastF (M := mX11_infer) (pc := 135) dX11_infer_135 ew24 ?_
      obtain ⟨x25, ex25, hf⟩ := tq_le hf
      refine tq_iinc (M := mX11_infer) (pc := 136) (v := x25) (L2 := [(4, .int x25), (0, .ref i0), (1, .int i1), (2, .int i2), (3, .int i3), (5, .int o22)]) dX11_infer_136 rfl (by rw [ex25, tk_ki_1]) (by decide) rfl ?_
      refine tq_goto (M := mX11_infer) (pc := 139) (tgt := 37) dX11_infer_139 (by decide) ?_
      refine tq_pick (L2 := [(0, .ref i0), (1, .int i1), (2, .int i2), (3, .int i3), (4, .int x25)]) [1, 2, 3, 4, 0] rfl ?_
      cases (Option.some.inj hf)
      exact ih _ _ o (tq_lc ho) hk
set_option maxHeartbeats 4000000 in
theorem l_X11_infer_29 {l : Launch} {d : Nat} {Q : tq_R → tq_H → Prop} (hd9 : 3 ≤ d) (i0 : Nat) (i1 : Int32) (i2 : Int32) : ∀ (n : Nat) (y3 : Int32) (hh : tq_H) (o : tq_H), tq_loop (f_X11_infer_b29 i0 i1 i2) n (y3, hh) = some o → tq_W l mX11_infer d 0 0 Q 148 [(0, .ref i0), (1, .int i1)] [] o → tq_W l mX11_infer d 0 0 Q 29 [(0, .ref i0), (1, .int i1), (2, .int i2), (3, .int y3)] [] hh := by
  intro n
  induction n with
  | zero => intro y3 hh o hl; cases hl
  | succ n ih =>
    intro y3 hh o hl hk
    obtain ⟨oo, hf, ho⟩ := tq_loop_s hl
    refine tq_iload_n (M := mX11_infer) (pc := 29) dX11_infer_29 rfl ?_
    refine tq_iload_n (M := mX11_infer) (pc := 30) dX11_infer_30 rfl ?_
    refine tq_icmp_gt (M := mX11_infer) (pc := 31) (tgt := 148) dX11_infer_31 (by decide) (fun cc => ?_) (fun cc => ?_)
    · have hf := tq_ifp hf cc
      refine tq_pick (L2 := [(0, .ref i0), (1, .int i1)]) [0, 1] rfl ?_
      cases (Option.some.inj hf)
      cases (tq_lx ho)
      exact hk
    · have hf := tq_ifn hf cc
      refine tq_iconst (M := mX11_infer) (pc := 34) dX11_infer_34 tk_ki_0 ?_
      refine tq_istore (M := mX11_infer) (pc := 35) dX11_infer_35 (L2 := [(4, .int (0 : Int32)), (0, .ref i0), (1, .int i1), (2, .int i2), (3, .int y3)]) (by decide) rfl ?_
      obtain ⟨o26, eo26, hf⟩ := tq_be hf
      refine tq_pick (L2 := [(0, .ref i0), (1, .int i1), (2, .int i2), (3, .int y3), (4, .int (0 : Int32))]) [1, 2, 3, 4, 0] rfl ?_
      refine l_X11_infer_37 (by omega) i0 i1 i2 y3 _ (0 : Int32) hh _ eo26 ?_
      obtain ⟨x27, ex27, hf⟩ := tq_le hf
      refine tq_iinc (M := mX11_infer) (pc := 142) (v := x27) (L2 := [(3, .int x27), (0, .ref i0), (1, .int i1), (2, .int i2)]) dX11_infer_142 rfl (by rw [ex27, tk_ki_1]) (by decide) rfl ?_
      refine tq_goto (M := mX11_infer) (pc := 145) (tgt := 29) dX11_infer_145 (by decide) ?_
      refine tq_pick (L2 := [(0, .ref i0), (1, .int i1), (2, .int i2), (3, .int x27)]) [1, 2, 3, 0] rfl ?_
      cases (Option.some.inj hf)
      exact ih _ _ o (tq_lc ho) hk
set_option maxHeartbeats 4000000 in
set_option maxRecDepth 20000 in
theorem w_X11_infer {l : Launch} {d : Nat} (hd9 : 3 ≤ d) {t : Nat} {a1 : Int32} {h : tq_H} {o : Int32 × tq_H} {Q : tq_R → tq_H → Prop} (hf : f_X11_infer t a1 h = some o) (hQ : ∀ r h9, r = .inl (some (.int o.1)) ∧ o.2 = h9 → Q r h9) : tq_C l yX11_infer cX11_infer 7 (some .int) d 0 0 [.ref t, .int a1] h Q := by
  refine tq_body (y := yX11_infer) false (by decide +kernel) (fun z => by cases z) (Nat.le_of_ble_eq_true rfl) ?_
  show tq_W l mX11_infer d 0 0 Q 0 [(0, .ref t), (1, .int a1)] [] h
  refine tq_aload_n (M := mX11_infer) (pc := 0) dX11_infer_0 rfl ?_
  refine tq_aload_n (M := mX11_infer) (pc := 1) dX11_infer_1 rfl ?_
  refine tq_iload_n (M := mX11_infer) (pc := 2) dX11_infer_2 rfl ?_
  obtain ⟨⟨⟩, eu2, hf⟩ := tq_be hf
  obtain ⟨fsu2, eu2⟩ := tq_is_s eu2
  obtain ⟨v1, ev1, hf⟩ := tq_be hf
  refine tq_calV (M := mX11_infer) (pc := 3) (S := [.ref t]) tk_y_X11_isPath tk_v_X11_isPath tk_RX11_305 dX11_infer_3 [.int a1] rfl (S0 := _) rfl eu2 rfl (Nat.le_of_ble_eq_true rfl) (d1 := d - 1) (b1 := 0) (s1 := 0) (bc' := 0) (bs' := 0) (Q1 := fun r h9 => r = .inl (some (.int v1)) ∧ h = h9) (by omega) rfl rfl (w_X11_isPath (by omega) ev1 (fun _ _ q => q)) (fun E h9 q => nomatch (show (Sum.inr E : tq_R) = Sum.inl _ from q.1)) (fun r9 h9 q => ?_)
  obtain ⟨q1, rfl⟩ := q
  cases (show (Sum.inl r9 : tq_R) = Sum.inl (some (.int v1)) from q1)
  obtain ⟨p3, ep3, hf⟩ := tq_le hf
  have HJ6 : tq_W l mX11_infer d 0 0 Q 14 [(0, .ref t), (1, .int a1)] [.int p3, .ref t] h := by
    obtain ⟨⟨⟩, eu5, hf⟩ := tq_be hf
    obtain ⟨fsu5, eu5⟩ := tq_is_s eu5
    obtain ⟨v4, ev4, hf⟩ := tq_be hf
    refine tq_calV (M := mX11_infer) (pc := 14) (S := []) tk_y_X11_refused tk_v_X11_refused tk_RX11_204 dX11_infer_14 [.int p3] rfl (S0 := _) rfl eu5 rfl (Nat.le_of_ble_eq_true rfl) (d1 := d - 1) (b1 := 0) (s1 := 0) (bc' := 0) (bs' := 0) (Q1 := fun r h9 => r = .inl (some (.int v4.1)) ∧ v4.2 = h9) (by omega) rfl rfl (w_X11_refused (by omega) ev4 (fun _ _ q => q)) (fun E h9 q => nomatch (show (Sum.inr E : tq_R) = Sum.inl _ from q.1)) (fun r9 h9 q => ?_)
    obtain ⟨q1, rfl⟩ := q
    cases (show (Sum.inl r9 : tq_R) = Sum.inl (some (.int v4.1)) from q1)
    refine tq_if_eq (M := mX11_infer) (pc := 17) (tgt := 22) dX11_infer_17 (by decide) (fun cc => ?_) (fun cc => ?_)
    · have hf := tq_ifp hf cc
      refine tq_aload_n (M := mX11_infer) (pc := 22) dX11_infer_22 rfl ?_
      obtain ⟨⟨⟩, eu7, hf⟩ := tq_be hf
      obtain ⟨fsu7, eu7⟩ := tq_is_s eu7
      obtain ⟨v6, ev6, hf⟩ := tq_be hf
      refine tq_calV (M := mX11_infer) (pc := 23) (S := []) tk_y_X11_allTypes tk_v_X11_allTypes tk_RX11_397 dX11_infer_23 [] rfl (S0 := _) rfl eu7 rfl (Nat.le_of_ble_eq_true rfl) (d1 := d - 1) (b1 := 0) (s1 := 0) (bc' := 0) (bs' := 0) (Q1 := fun r h9 => r = .inl (some (.int v6)) ∧ v4.2 = h9) (by omega) rfl rfl (w_X11_allTypes (by omega) ev6 (fun _ _ q => q)) (fun E h9 q => nomatch (show (Sum.inr E : tq_R) = Sum.inl _ from q.1)) (fun r9 h9 q => ?_)
      obtain ⟨q1, rfl⟩ := q
      cases (show (Sum.inl r9 : tq_R) = Sum.inl (some (.int v6)) from q1)
      refine tq_istore_n (M := mX11_infer) (pc := 26) rfl dX11_infer_26 (L2 := [(2, .int v6), (0, .ref t), (1, .int a1)]) (by decide) rfl ?_
      refine tq_iconst (M := mX11_infer) (pc := 27) dX11_infer_27 tk_ki_0 ?_
      refine tq_istore_n (M := mX11_infer) (pc := 28) rfl dX11_infer_28 (L2 := [(3, .int (0 : Int32)), (2, .int v6), (0, .ref t), (1, .int a1)]) (by decide) rfl ?_
      obtain ⟨o28, eo28, hf⟩ := tq_be hf
      refine tq_pick (L2 := [(0, .ref t), (1, .int a1), (2, .int v6), (3, .int (0 : Int32))]) [2, 3, 1, 0] rfl ?_
      refine l_X11_infer_29 (by omega) t a1 v6 _ (0 : Int32) v4.2 _ eo28 ?_
      refine tq_aload_n (M := mX11_infer) (pc := 148) dX11_infer_148 rfl ?_
      obtain ⟨k29, ek29, hf⟩ := tq_be hf
      refine tq_getR (M := mX11_infer) (pc := 149) tk_c11 (by decide) dX11_infer_149 tk_RX11_111 rfl ek29 ?_
      refine tq_sipush (M := mX11_infer) (pc := 152) dX11_infer_152 tk_ks_256 ?_
      refine tq_iload_n (M := mX11_infer) (pc := 155) dX11_infer_155 rfl ?_
      refine tq_imul (M := mX11_infer) (pc := 156) dX11_infer_156 ?_
      refine tq_iconst (M := mX11_infer) (pc := 157) dX11_infer_157 tk_ki_1 ?_
      refine tq_iadd (M := mX11_infer) (pc := 158) dX11_infer_158 ?_
      obtain ⟨x30, ex30, hf⟩ := tq_be hf
      refine tq_ialdF (M := mX11_infer) (pc := 159) dX11_infer_159 ex30 ?_
      refine tq_iret (M := mX11_infer) (pc := 160) dX11_infer_160 rfl ?_
      cases (Option.some.inj hf)
      exact hQ _ _ ⟨rfl, rfl⟩
    · have hf := tq_ifn hf cc
      refine tq_iconst (M := mX11_infer) (pc := 20) dX11_infer_20 tk_ki_0 ?_
      refine tq_iret (M := mX11_infer) (pc := 21) dX11_infer_21 rfl ?_
      cases (Option.some.inj hf)
      exact hQ _ _ ⟨rfl, rfl⟩
  refine tq_if_eq (M := mX11_infer) (pc := 6) (tgt := 13) dX11_infer_6 (by decide) (fun cc => ?_) (fun cc => ?_)
  · have hf := tq_ifp ep3.symm cc
    refine tq_iconst (M := mX11_infer) (pc := 13) dX11_infer_13 tk_ki_1 ?_
    cases hf
    exact HJ6
  · have hf := tq_ifn ep3.symm cc
    refine tq_iconst (M := mX11_infer) (pc := 9) dX11_infer_9 tk_ki_0 ?_
    refine tq_goto (M := mX11_infer) (pc := 10) (tgt := 14) dX11_infer_10 (by decide) ?_
    cases hf
    exact HJ6
abbrev mX11_index : tq_M := (RX11, cX11_index, 2, (some .boolean), false, [], none)
def f_X11_index (t : Nat) (a1 : Int32) (h : tq_H) : Option (Int32 × tq_H) :=
  (f_X11_in a1 (0 : Int32) (7 : Int32) h).bind fun v1 =>
  tq_let (if v1 = 0 then (1 : Int32) else (0 : Int32)) fun p2 =>
  (tq_is h t 11).bind fun _ =>
  (f_X11_refused t p2 h).bind fun v3 =>
  if v3.1 = 0 then
    (tq_gr v3.2 t 11 44).bind fun k5 =>
    (tq_gr v3.2 t 11 44).bind fun k6 =>
    (tq_az v3.2 k6 a1).bind fun x7 =>
    tq_let (if x7 = 0 then (1 : Int32) else (0 : Int32)) fun p8 =>
    (tq_sz v3.2 k5 a1 p8).bind fun w9 =>
    (tq_gr w9 t 11 44).bind fun k10 =>
    (tq_az w9 k10 a1).bind fun x11 =>
    (tq_bz x11).bind fun z12 =>
    some (z12, w9)
  else
    some ((0 : Int32), v3.2)
set_option maxHeartbeats 4000000 in
set_option maxRecDepth 20000 in
theorem w_X11_index {l : Launch} {d : Nat} (hd9 : 1 ≤ d) {t : Nat} {a1 : Int32} {h : tq_H} {o : Int32 × tq_H} {Q : tq_R → tq_H → Prop} (hf : f_X11_index t a1 h = some o) (hQ : ∀ r h9, r = .inl (some (.int o.1)) ∧ o.2 = h9 → Q r h9) : tq_C l yX11_index cX11_index 2 (some .boolean) d 0 0 [.ref t, .int a1] h Q := by
  refine tq_body (y := yX11_index) false (by decide +kernel) (fun z => by cases z) (Nat.le_of_ble_eq_true rfl) ?_
  show tq_W l mX11_index d 0 0 Q 0 [(0, .ref t), (1, .int a1)] [] h
  refine tq_aload_n (M := mX11_index) (pc := 0) dX11_index_0 rfl ?_
  refine tq_iload_n (M := mX11_index) (pc := 1) dX11_index_1 rfl ?_
  refine tq_iconst (M := mX11_index) (pc := 2) dX11_index_2 tk_ki_0 ?_
  refine tq_bipush (M := mX11_index) (pc := 3) dX11_index_3 tk_kb_7 ?_
  obtain ⟨v1, ev1, hf⟩ := tq_be hf
  refine tq_calS (M := mX11_index) (pc := 5) (S := [.ref t]) tk_y_X11_in tk_s_X11_in tk_RX11_169 dX11_index_5 [.int a1, .int (0 : Int32), .int (7 : Int32)] rfl (Nat.le_of_ble_eq_true rfl) (d1 := d - 1) (b1 := 0) (s1 := 0) (bc' := 0) (bs' := 0) (Q1 := fun r h9 => r = .inl (some (.int v1)) ∧ h = h9) (by omega) rfl rfl (w_X11_in (by omega) ev1 (fun _ _ q => q)) (fun E h9 q => nomatch (show (Sum.inr E : tq_R) = Sum.inl _ from q.1)) (fun r9 h9 q => ?_)
  obtain ⟨q1, rfl⟩ := q
  cases (show (Sum.inl r9 : tq_R) = Sum.inl (some (.int v1)) from q1)
  obtain ⟨p2, ep2, hf⟩ := tq_le hf
  have HJ8 : tq_W l mX11_index d 0 0 Q 16 [(0, .ref t), (1, .int a1)] [.int p2, .ref t] h := by
    obtain ⟨⟨⟩, eu4, hf⟩ := tq_be hf
    obtain ⟨fsu4, eu4⟩ := tq_is_s eu4
    obtain ⟨v3, ev3, hf⟩ := tq_be hf
    refine tq_calV (M := mX11_index) (pc := 16) (S := []) tk_y_X11_refused tk_v_X11_refused tk_RX11_204 dX11_index_16 [.int p2] rfl (S0 := _) rfl eu4 rfl (Nat.le_of_ble_eq_true rfl) (d1 := d - 1) (b1 := 0) (s1 := 0) (bc' := 0) (bs' := 0) (Q1 := fun r h9 => r = .inl (some (.int v3.1)) ∧ v3.2 = h9) (by omega) rfl rfl (w_X11_refused (by omega) ev3 (fun _ _ q => q)) (fun E h9 q => nomatch (show (Sum.inr E : tq_R) = Sum.inl _ from q.1)) (fun r9 h9 q => ?_)
    obtain ⟨q1, rfl⟩ := q
    cases (show (Sum.inl r9 : tq_R) = Sum.inl (some (.int v3.1)) from q1)
    refine tq_if_eq (M := mX11_index) (pc := 19) (tgt := 24) dX11_index_19 (by decide) (fun cc => ?_) (fun cc => ?_)
    · have hf := tq_ifp hf cc
      refine tq_aload_n (M := mX11_index) (pc := 24) dX11_index_24 rfl ?_
      obtain ⟨k5, ek5, hf⟩ := tq_be hf
      refine tq_getR (M := mX11_index) (pc := 25) tk_c11 (by decide) dX11_index_25 tk_RX11_114 rfl ek5 ?_
      refine tq_iload_n (M := mX11_index) (pc := 28) dX11_index_28 rfl ?_
      refine tq_aload_n (M := mX11_index) (pc := 29) dX11_index_29 rfl ?_
      obtain ⟨k6, ek6, hf⟩ := tq_be hf
      refine tq_getR (M := mX11_index) (pc := 30) tk_c11 (by decide) dX11_index_30 tk_RX11_114 rfl ek6 ?_
      refine tq_iload_n (M := mX11_index) (pc := 33) dX11_index_33 rfl ?_
      obtain ⟨x7, ex7, hf⟩ := tq_be hf
      refine tq_zaldF (M := mX11_index) (pc := 34) dX11_index_34 ex7 ?_
      obtain ⟨p8, ep8, hf⟩ := tq_le hf
      have HJ35 : tq_W l mX11_index d 0 0 Q 43 [(0, .ref t), (1, .int a1)] [.int p8, .int a1, .ref k5] v3.2 := by
        obtain ⟨w9, ew9, hf⟩ := tq_be hf
        refine tq_zastF (M := mX11_index) (pc := 43) dX11_index_43 ew9 ?_
        refine tq_aload_n (M := mX11_index) (pc := 44) dX11_index_44 rfl ?_
        obtain ⟨k10, ek10, hf⟩ := tq_be hf
        refine tq_getR (M := mX11_index) (pc := 45) tk_c11 (by decide) dX11_index_45 tk_RX11_114 rfl ek10 ?_
        refine tq_iload_n (M := mX11_index) (pc := 48) dX11_index_48 rfl ?_
        obtain ⟨x11, ex11, hf⟩ := tq_be hf
        refine tq_zaldF (M := mX11_index) (pc := 49) dX11_index_49 ex11 ?_
        obtain ⟨z12, ez12, hf⟩ := tq_be hf
        refine tq_zretB (M := mX11_index) (pc := 50) dX11_index_50 rfl ez12 ?_
        cases (Option.some.inj hf)
        exact hQ _ _ ⟨rfl, rfl⟩
      refine tq_if_ne (M := mX11_index) (pc := 35) (tgt := 42) dX11_index_35 (by decide) (fun cc => ?_) (fun cc => ?_)
      · have hf := tq_ifn ep8.symm cc
        refine tq_iconst (M := mX11_index) (pc := 42) dX11_index_42 tk_ki_0 ?_
        cases hf
        exact HJ35
      · have hf := tq_ifp ep8.symm cc
        refine tq_iconst (M := mX11_index) (pc := 38) dX11_index_38 tk_ki_1 ?_
        refine tq_goto (M := mX11_index) (pc := 39) (tgt := 43) dX11_index_39 (by decide) ?_
        cases hf
        exact HJ35
    · have hf := tq_ifn hf cc
      refine tq_iconst (M := mX11_index) (pc := 22) dX11_index_22 tk_ki_0 ?_
      refine tq_zret (M := mX11_index) (pc := 23) dX11_index_23 rfl (Or.inl rfl) ?_
      cases (Option.some.inj hf)
      exact hQ _ _ ⟨rfl, rfl⟩
  refine tq_if_eq (M := mX11_index) (pc := 8) (tgt := 15) dX11_index_8 (by decide) (fun cc => ?_) (fun cc => ?_)
  · have hf := tq_ifp ep2.symm cc
    refine tq_iconst (M := mX11_index) (pc := 15) dX11_index_15 tk_ki_1 ?_
    cases hf
    exact HJ8
  · have hf := tq_ifn ep2.symm cc
    refine tq_iconst (M := mX11_index) (pc := 11) dX11_index_11 tk_ki_0 ?_
    refine tq_goto (M := mX11_index) (pc := 12) (tgt := 16) dX11_index_12 (by decide) ?_
    cases hf
    exact HJ8
abbrev mX11_isNear : tq_M := (RX11, cX11_isNear, 4, (some .boolean), false, [], none)
def f_X11_isNear_b6 (i0 : Nat) (i1 : Int32) (hh : tq_H) (s : Int32 × Int32) : Option ((Int32 × Int32) ⊕ (Int32)) := match s with
  | (y2, y3) =>
    (tq_gr hh i0 11 25).bind fun k2 =>
    (tq_ai hh k2 i1).bind fun x3 =>
    if y3 ≥ (((5 : Int32) * i1) + x3) then
      some (.inr y2)
    else
      (if y2 = 0 then
        some (0 : Int32)
      else
        (tq_gr hh i0 11 26).bind fun k4 =>
        (tq_ai hh k4 ((3 : Int32) * y3)).bind fun x5 =>
        if x5 = 0 then
          (tq_gr hh i0 11 27).bind fun k6 =>
          (tq_ai hh k6 y3).bind fun x7 =>
          if x7 = 0 then
            some (1 : Int32)
          else
            some (0 : Int32)
        else
          (tq_gr hh i0 11 26).bind fun k8 =>
          (tq_ai hh k8 ((3 : Int32) * y3)).bind fun x9 =>
          if x9 = (11 : Int32) then
            (tq_gr hh i0 11 27).bind fun k10 =>
            (tq_ai hh k10 y3).bind fun x11 =>
            if x11 = 0 then
              some (1 : Int32)
            else
              some (0 : Int32)
          else
            some (0 : Int32)).bind fun p12 =>
      tq_let (y3 + (1 : Int32)) fun x13 =>
      some (.inl (p12, x13))
def f_X11_isNear (t : Nat) (a1 : Int32) (h : tq_H) : Option (Int32) :=
  tq_let (((5 : Int32) * a1)) fun x1 =>
  (tq_loop (f_X11_isNear_b6 t a1 h) tq_N ((1 : Int32), x1)).bind fun o14 =>
  (tq_bz o14).bind fun z15 =>
  some z15
set_option maxHeartbeats 4000000 in
theorem l_X11_isNear_6 {l : Launch} {d : Nat} {Q : tq_R → tq_H → Prop} (hd9 : 0 ≤ d) (i0 : Nat) (i1 : Int32) (hh : tq_H) : ∀ (n : Nat) (y2 : Int32) (y3 : Int32) (o : Int32), tq_loop (f_X11_isNear_b6 i0 i1 hh) n (y2, y3) = some o → tq_W l mX11_isNear d 0 0 Q 69 [(2, .int o)] [] hh → tq_W l mX11_isNear d 0 0 Q 6 [(0, .ref i0), (1, .int i1), (2, .int y2), (3, .int y3)] [] hh := by
  intro n
  induction n with
  | zero => intro y2 y3 o hl; cases hl
  | succ n ih =>
    intro y2 y3 o hl hk
    obtain ⟨oo, hf, ho⟩ := tq_loop_s hl
    refine tq_iload_n (M := mX11_isNear) (pc := 6) dX11_isNear_6 rfl ?_
    refine tq_iconst (M := mX11_isNear) (pc := 7) dX11_isNear_7 tk_ki_5 ?_
    refine tq_iload_n (M := mX11_isNear) (pc := 8) dX11_isNear_8 rfl ?_
    refine tq_imul (M := mX11_isNear) (pc := 9) dX11_isNear_9 ?_
    refine tq_aload_n (M := mX11_isNear) (pc := 10) dX11_isNear_10 rfl ?_
    obtain ⟨k2, ek2, hf⟩ := tq_be hf
    refine tq_getR (M := mX11_isNear) (pc := 11) tk_c11 (by decide) dX11_isNear_11 tk_RX11_68 rfl ek2 ?_
    refine tq_iload_n (M := mX11_isNear) (pc := 14) dX11_isNear_14 rfl ?_
    obtain ⟨x3, ex3, hf⟩ := tq_be hf
    refine tq_ialdF (M := mX11_isNear) (pc := 15) dX11_isNear_15 ex3 ?_
    refine tq_iadd (M := mX11_isNear) (pc := 16) dX11_isNear_16 ?_
    refine tq_icmp_ge (M := mX11_isNear) (pc := 17) (tgt := 69) dX11_isNear_17 (by decide) (fun cc => ?_) (fun cc => ?_)
    · have hf := tq_ifp hf cc
      refine tq_pick (L2 := [(2, .int y2)]) [2] rfl ?_
      cases (Option.some.inj hf)
      cases (tq_lx ho)
      exact hk
    · have hf := tq_ifn hf cc
      refine tq_iload_n (M := mX11_isNear) (pc := 20) dX11_isNear_20 rfl ?_
      obtain ⟨p12, ep12, hf⟩ := tq_be hf
      have HJ21 : tq_W l mX11_isNear d 0 0 Q 62 [(0, .ref i0), (1, .int i1), (3, .int y3)] [.int p12] hh := by
        refine tq_istore_n (M := mX11_isNear) (pc := 62) rfl dX11_isNear_62 (L2 := [(2, .int p12), (0, .ref i0), (1, .int i1), (3, .int y3)]) (by decide) rfl ?_
        obtain ⟨x13, ex13, hf⟩ := tq_le hf
        refine tq_iinc (M := mX11_isNear) (pc := 63) (v := x13) (L2 := [(3, .int x13), (2, .int p12), (0, .ref i0), (1, .int i1)]) dX11_isNear_63 rfl (by rw [ex13, tk_ki_1]) (by decide) rfl ?_
        refine tq_goto (M := mX11_isNear) (pc := 66) (tgt := 6) dX11_isNear_66 (by decide) ?_
        refine tq_pick (L2 := [(0, .ref i0), (1, .int i1), (2, .int p12), (3, .int x13)]) [2, 3, 1, 0] rfl ?_
        cases (Option.some.inj hf)
        exact ih _ _ o (tq_lc ho) hk
      refine tq_if_eq (M := mX11_isNear) (pc := 21) (tgt := 61) dX11_isNear_21 (by decide) (fun cc => ?_) (fun cc => ?_)
      · have hf := tq_ifp ep12 cc
        refine tq_iconst (M := mX11_isNear) (pc := 61) dX11_isNear_61 tk_ki_0 ?_
        refine tq_pick (L2 := [(0, .ref i0), (1, .int i1), (3, .int y3)]) [0, 1, 3] rfl ?_
        cases (Option.some.inj hf)
        exact HJ21
      · have hf := tq_ifn ep12 cc
        refine tq_aload_n (M := mX11_isNear) (pc := 24) dX11_isNear_24 rfl ?_
        obtain ⟨k4, ek4, hf⟩ := tq_be hf
        refine tq_getR (M := mX11_isNear) (pc := 25) tk_c11 (by decide) dX11_isNear_25 tk_RX11_71 rfl ek4 ?_
        refine tq_iconst (M := mX11_isNear) (pc := 28) dX11_isNear_28 tk_ki_3 ?_
        refine tq_iload_n (M := mX11_isNear) (pc := 29) dX11_isNear_29 rfl ?_
        refine tq_imul (M := mX11_isNear) (pc := 30) dX11_isNear_30 ?_
        obtain ⟨x5, ex5, hf⟩ := tq_be hf
        refine tq_ialdF (M := mX11_isNear) (pc := 31) dX11_isNear_31 ex5 ?_
        refine tq_if_eq (M := mX11_isNear) (pc := 32) (tgt := 48) dX11_isNear_32 (by decide) (fun cc => ?_) (fun cc => ?_)
        · have hf := tq_ifp hf cc
          refine tq_aload_n (M := mX11_isNear) (pc := 48) dX11_isNear_48 rfl ?_
          obtain ⟨k6, ek6, hf⟩ := tq_be hf
          refine tq_getR (M := mX11_isNear) (pc := 49) tk_c11 (by decide) dX11_isNear_49 tk_RX11_74 rfl ek6 ?_
          refine tq_iload_n (M := mX11_isNear) (pc := 52) dX11_isNear_52 rfl ?_
          obtain ⟨x7, ex7, hf⟩ := tq_be hf
          refine tq_ialdF (M := mX11_isNear) (pc := 53) dX11_isNear_53 ex7 ?_
          refine tq_if_ne (M := mX11_isNear) (pc := 54) (tgt := 61) dX11_isNear_54 (by decide) (fun cc => ?_) (fun cc => ?_)
          · have hf := tq_ifn hf cc
            refine tq_iconst (M := mX11_isNear) (pc := 61) dX11_isNear_61 tk_ki_0 ?_
            refine tq_pick (L2 := [(0, .ref i0), (1, .int i1), (3, .int y3)]) [0, 1, 3] rfl ?_
            cases (Option.some.inj hf)
            exact HJ21
          · have hf := tq_ifp hf cc
            refine tq_iconst (M := mX11_isNear) (pc := 57) dX11_isNear_57 tk_ki_1 ?_
            refine tq_goto (M := mX11_isNear) (pc := 58) (tgt := 62) dX11_isNear_58 (by decide) ?_
            refine tq_pick (L2 := [(0, .ref i0), (1, .int i1), (3, .int y3)]) [0, 1, 3] rfl ?_
            cases (Option.some.inj hf)
            exact HJ21
        · have hf := tq_ifn hf cc
          refine tq_aload_n (M := mX11_isNear) (pc := 35) dX11_isNear_35 rfl ?_
          obtain ⟨k8, ek8, hf⟩ := tq_be hf
          refine tq_getR (M := mX11_isNear) (pc := 36) tk_c11 (by decide) dX11_isNear_36 tk_RX11_71 rfl ek8 ?_
          refine tq_iconst (M := mX11_isNear) (pc := 39) dX11_isNear_39 tk_ki_3 ?_
          refine tq_iload_n (M := mX11_isNear) (pc := 40) dX11_isNear_40 rfl ?_
          refine tq_imul (M := mX11_isNear) (pc := 41) dX11_isNear_41 ?_
          obtain ⟨x9, ex9, hf⟩ := tq_be hf
          refine tq_ialdF (M := mX11_isNear) (pc := 42) dX11_isNear_42 ex9 ?_
          refine tq_bipush (M := mX11_isNear) (pc := 43) dX11_isNear_43 tk_kb_11 ?_
          refine tq_icmp_ne (M := mX11_isNear) (pc := 45) (tgt := 61) dX11_isNear_45 (by decide) (fun cc => ?_) (fun cc => ?_)
          · have hf := tq_ifn hf cc
            refine tq_iconst (M := mX11_isNear) (pc := 61) dX11_isNear_61 tk_ki_0 ?_
            refine tq_pick (L2 := [(0, .ref i0), (1, .int i1), (3, .int y3)]) [0, 1, 3] rfl ?_
            cases (Option.some.inj hf)
            exact HJ21
          · have hf := tq_ifp hf cc
            refine tq_aload_n (M := mX11_isNear) (pc := 48) dX11_isNear_48 rfl ?_
            obtain ⟨k10, ek10, hf⟩ := tq_be hf
            refine tq_getR (M := mX11_isNear) (pc := 49) tk_c11 (by decide) dX11_isNear_49 tk_RX11_74 rfl ek10 ?_
            refine tq_iload_n (M := mX11_isNear) (pc := 52) dX11_isNear_52 rfl ?_
            obtain ⟨x11, ex11, hf⟩ := tq_be hf
            refine tq_ialdF (M := mX11_isNear) (pc := 53) dX11_isNear_53 ex11 ?_
            refine tq_if_ne (M := mX11_isNear) (pc := 54) (tgt := 61) dX11_isNear_54 (by decide) (fun cc => ?_) (fun cc => ?_)
            · have hf := tq_ifn hf cc
              refine tq_iconst (M := mX11_isNear) (pc := 61) dX11_isNear_61 tk_ki_0 ?_
              refine tq_pick (L2 := [(0, .ref i0), (1, .int i1), (3, .int y3)]) [0, 1, 3] rfl ?_
              cases (Option.some.inj hf)
              exact HJ21
            · have hf := tq_ifp hf cc
              refine tq_iconst (M := mX11_isNear) (pc := 57) dX11_isNear_57 tk_ki_1 ?_
              refine tq_goto (M := mX11_isNear) (pc := 58) (tgt := 62) dX11_isNear_58 (by decide) ?_
              refine tq_pick (L2 := [(0, .ref i0), (1, .int i1), (3, .int y3)]) [0, 1, 3] rfl ?_
              cases (Option.some.inj hf)
              exact HJ21
set_option maxHeartbeats 4000000 in
set_option maxRecDepth 20000 in
theorem w_X11_isNear {l : Launch} {d : Nat} (hd9 : 0 ≤ d) {t : Nat} {a1 : Int32} {h : tq_H} {o : Int32} {Q : tq_R → tq_H → Prop} (hf : f_X11_isNear t a1 h = some o) (hQ : ∀ r h9, r = .inl (some (.int o)) ∧ h = h9 → Q r h9) : tq_C l yX11_isNear cX11_isNear 4 (some .boolean) d 0 0 [.ref t, .int a1] h Q := by
  refine tq_body (y := yX11_isNear) false (by decide +kernel) (fun z => by cases z) (Nat.le_of_ble_eq_true rfl) ?_
  show tq_W l mX11_isNear d 0 0 Q 0 [(0, .ref t), (1, .int a1)] [] h
  refine tq_iconst (M := mX11_isNear) (pc := 0) dX11_isNear_0 tk_ki_1 ?_
  refine tq_istore_n (M := mX11_isNear) (pc := 1) rfl dX11_isNear_1 (L2 := [(2, .int (1 : Int32)), (0, .ref t), (1, .int a1)]) (by decide) rfl ?_
  refine tq_iconst (M := mX11_isNear) (pc := 2) dX11_isNear_2 tk_ki_5 ?_
  refine tq_iload_n (M := mX11_isNear) (pc := 3) dX11_isNear_3 rfl ?_
  refine tq_imul (M := mX11_isNear) (pc := 4) dX11_isNear_4 ?_
  obtain ⟨x1, ex1, hf⟩ := tq_le hf
  refine tq_istore_n (M := mX11_isNear) (pc := 5) rfl dX11_isNear_5 (L2 := [(3, .int x1), (2, .int (1 : Int32)), (0, .ref t), (1, .int a1)]) (by decide) (by rw [ex1]; rfl) ?_
  obtain ⟨o14, eo14, hf⟩ := tq_be hf
  refine tq_pick (L2 := [(0, .ref t), (1, .int a1), (2, .int (1 : Int32)), (3, .int x1)]) [2, 3, 1, 0] rfl ?_
  refine l_X11_isNear_6 (by omega) t a1 h _ (1 : Int32) x1 _ eo14 ?_
  refine tq_iload_n (M := mX11_isNear) (pc := 69) dX11_isNear_69 rfl ?_
  obtain ⟨z15, ez15, hf⟩ := tq_be hf
  refine tq_zretB (M := mX11_isNear) (pc := 70) dX11_isNear_70 rfl ez15 ?_
  cases (Option.some.inj hf)
  exact hQ _ _ ⟨rfl, rfl⟩
abbrev mX11_isStreamed : tq_M := (RX11, cX11_isStreamed, 7, (some .boolean), false, [], none)
def f_X11_isStreamed_b73 (i0 : Nat) (i1 : Int32) (i3 : Int32) (hh : tq_H) (s : Int32 × Int32) : Option ((Int32 × Int32) ⊕ (Int32)) := match s with
  | (y2, y5) =>
    (tq_gr hh i0 11 27).bind fun k7 =>
    (tq_ai hh k7 i3).bind fun x8 =>
    if y5 ≥ x8 then
      some (.inr y2)
    else
      tq_let (((4 : Int32) * (((2 : Int32) * i3) + y5))) fun x9 =>
      (if y2 = 0 then
        some (0 : Int32)
      else
        (tq_gr hh i0 11 28).bind fun k10 =>
        (tq_ai hh k10 x9).bind fun x11 =>
        if x11 = 0 then
          (tq_gr hh i0 11 28).bind fun k18 =>
          (tq_ai hh k18 (x9 + (2 : Int32))).bind fun x19 =>
          if x19 = (2 : Int32) then
            some (0 : Int32)
          else
            some (1 : Int32)
        else
          (tq_gr hh i0 11 28).bind fun k12 =>
          (tq_ai hh k12 x9).bind fun x13 =>
          if x13 = (1 : Int32) then
            some (0 : Int32)
          else
            (tq_gr hh i0 11 28).bind fun k14 =>
            (tq_ai hh k14 (x9 + (1 : Int32))).bind fun x15 =>
            (tq_is hh i0 11).bind fun _ =>
            (f_X11_isNear i0 x15 hh).bind fun v16 =>
            if v16 = 0 then
              some (0 : Int32)
            else
              some (1 : Int32)).bind fun p20 =>
      tq_let (y5 + (1 : Int32)) fun x21 =>
      some (.inl (p20, x21))
def f_X11_isStreamed_b6 (i0 : Nat) (i1 : Int32) (hh : tq_H) (s : Int32 × Int32) : Option ((Int32 × Int32) ⊕ (Int32)) := match s with
  | (y2, y3) =>
    (tq_gr hh i0 11 25).bind fun k2 =>
    (tq_ai hh k2 i1).bind fun x3 =>
    if y3 ≥ (((5 : Int32) * i1) + x3) then
      some (.inr y2)
    else
      (tq_gr hh i0 11 26).bind fun k4 =>
      (tq_ai hh k4 ((3 : Int32) * y3)).bind fun x5 =>
      tq_let (if y2 = 0 then (0 : Int32) else (if x5 = 0 then (1 : Int32) else if x5 = (1 : Int32) then (1 : Int32) else if x5 = (3 : Int32) then (1 : Int32) else if x5 = (4 : Int32) then (1 : Int32) else if x5 = (11 : Int32) then (1 : Int32) else (0 : Int32))) fun p6 =>
      (tq_loop (f_X11_isStreamed_b73 i0 i1 y3 hh) tq_N (p6, (0 : Int32))).bind fun o22 =>
      tq_let (y3 + (1 : Int32)) fun x23 =>
      some (.inl (o22, x23))
def f_X11_isStreamed (t : Nat) (a1 : Int32) (h : tq_H) : Option (Int32) :=
  tq_let (((5 : Int32) * a1)) fun x1 =>
  (tq_loop (f_X11_isStreamed_b6 t a1 h) tq_N ((1 : Int32), x1)).bind fun o24 =>
  (tq_bz o24).bind fun z25 =>
  some z25
set_option maxHeartbeats 4000000 in
theorem l_X11_isStreamed_73 {l : Launch} {d : Nat} {Q : tq_R → tq_H → Prop} (hd9 : 1 ≤ d) (i0 : Nat) (i1 : Int32) (i3 : Int32) (hh : tq_H) : ∀ (n : Nat) (y2 : Int32) (y5 : Int32) (o : Int32), tq_loop (f_X11_isStreamed_b73 i0 i1 i3 hh) n (y2, y5) = some o → tq_W l mX11_isStreamed d 0 0 Q 163 [(0, .ref i0), (1, .int i1), (2, .int o), (3, .int i3)] [] hh → tq_W l mX11_isStreamed d 0 0 Q 73 [(0, .ref i0), (1, .int i1), (2, .int y2), (3, .int i3), (5, .int y5)] [] hh := by
  intro n
  induction n with
  | zero => intro y2 y5 o hl; cases hl
  | succ n ih =>
    intro y2 y5 o hl hk
    obtain ⟨oo, hf, ho⟩ := tq_loop_s hl
    refine tq_iload (M := mX11_isStreamed) (pc := 73) dX11_isStreamed_73 rfl ?_
    refine tq_aload_n (M := mX11_isStreamed) (pc := 75) dX11_isStreamed_75 rfl ?_
    obtain ⟨k7, ek7, hf⟩ := tq_be hf
    refine tq_getR (M := mX11_isStreamed) (pc := 76) tk_c11 (by decide) dX11_isStreamed_76 tk_RX11_74 rfl ek7 ?_
    refine tq_iload_n (M := mX11_isStreamed) (pc := 79) dX11_isStreamed_79 rfl ?_
    obtain ⟨x8, ex8, hf⟩ := tq_be hf
    refine tq_ialdF (M := mX11_isStreamed) (pc := 80) dX11_isStreamed_80 ex8 ?_
    refine tq_icmp_ge (M := mX11_isStreamed) (pc := 81) (tgt := 163) dX11_isStreamed_81 (by decide) (fun cc => ?_) (fun cc => ?_)
    · have hf := tq_ifp hf cc
      refine tq_pick (L2 := [(0, .ref i0), (1, .int i1), (2, .int y2), (3, .int i3)]) [0, 1, 2, 3] rfl ?_
      cases (Option.some.inj hf)
      cases (tq_lx ho)
      exact hk
    · have hf := tq_ifn hf cc
      refine tq_iconst (M := mX11_isStreamed) (pc := 84) dX11_isStreamed_84 tk_ki_4 ?_
      refine tq_iconst (M := mX11_isStreamed) (pc := 85) dX11_isStreamed_85 tk_ki_2 ?_
      refine tq_iload_n (M := mX11_isStreamed) (pc := 86) dX11_isStreamed_86 rfl ?_
      refine tq_imul (M := mX11_isStreamed) (pc := 87) dX11_isStreamed_87 ?_
      refine tq_iload (M := mX11_isStreamed) (pc := 88) dX11_isStreamed_88 rfl ?_
      refine tq_iadd (M := mX11_isStreamed) (pc := 90) dX11_isStreamed_90 ?_
      refine tq_imul (M := mX11_isStreamed) (pc := 91) dX11_isStreamed_91 ?_
      obtain ⟨x9, ex9, hf⟩ := tq_le hf
      refine tq_istore (M := mX11_isStreamed) (pc := 92) dX11_isStreamed_92 (L2 := [(6, .int x9), (0, .ref i0), (1, .int i1), (2, .int y2), (3, .int i3), (5, .int y5)]) (by decide) (by rw [ex9]; rfl) ?_
      refine tq_iload_n (M := mX11_isStreamed) (pc := 94) dX11_isStreamed_94 rfl ?_
      obtain ⟨p20, ep20, hf⟩ := tq_be hf
      have HJ95 : tq_W l mX11_isStreamed d 0 0 Q 156 [(0, .ref i0), (1, .int i1), (3, .int i3), (5, .int y5)] [.int p20] hh := by
        refine tq_istore_n (M := mX11_isStreamed) (pc := 156) rfl dX11_isStreamed_156 (L2 := [(2, .int p20), (0, .ref i0), (1, .int i1), (3, .int i3), (5, .int y5)]) (by decide) rfl ?_
        obtain ⟨x21, ex21, hf⟩ := tq_le hf
        refine tq_iinc (M := mX11_isStreamed) (pc := 157) (v := x21) (L2 := [(5, .int x21), (2, .int p20), (0, .ref i0), (1, .int i1), (3, .int i3)]) dX11_isStreamed_157 rfl (by rw [ex21, tk_ki_1]) (by decide) rfl ?_
        refine tq_goto (M := mX11_isStreamed) (pc := 160) (tgt := 73) dX11_isStreamed_160 (by decide) ?_
        refine tq_pick (L2 := [(0, .ref i0), (1, .int i1), (2, .int p20), (3, .int i3), (5, .int x21)]) [2, 3, 1, 4, 0] rfl ?_
        cases (Option.some.inj hf)
        exact ih _ _ o (tq_lc ho) hk
      refine tq_if_eq (M := mX11_isStreamed) (pc := 95) (tgt := 155) dX11_isStreamed_95 (by decide) (fun cc => ?_) (fun cc => ?_)
      · have hf := tq_ifp ep20 cc
        refine tq_iconst (M := mX11_isStreamed) (pc := 155) dX11_isStreamed_155 tk_ki_0 ?_
        refine tq_pick (L2 := [(0, .ref i0), (1, .int i1), (3, .int i3), (5, .int y5)]) [1, 2, 4, 5] rfl ?_
        cases (Option.some.inj hf)
        exact HJ95
      · have hf := tq_ifn ep20 cc
        refine tq_aload_n (M := mX11_isStreamed) (pc := 98) dX11_isStreamed_98 rfl ?_
        obtain ⟨k10, ek10, hf⟩ := tq_be hf
        refine tq_getR (M := mX11_isStreamed) (pc := 99) tk_c11 (by decide) dX11_isStreamed_99 tk_RX11_77 rfl ek10 ?_
        refine tq_iload (M := mX11_isStreamed) (pc := 102) dX11_isStreamed_102 rfl ?_
        obtain ⟨x11, ex11, hf⟩ := tq_be hf
        refine tq_ialdF (M := mX11_isStreamed) (pc := 104) dX11_isStreamed_104 ex11 ?_
        refine tq_if_ne (M := mX11_isStreamed) (pc := 105) (tgt := 124) dX11_isStreamed_105 (by decide) (fun cc => ?_) (fun cc => ?_)
        · have hf := tq_ifn hf cc
          refine tq_aload_n (M := mX11_isStreamed) (pc := 124) dX11_isStreamed_124 rfl ?_
          obtain ⟨k12, ek12, hf⟩ := tq_be hf
          refine tq_getR (M := mX11_isStreamed) (pc := 125) tk_c11 (by decide) dX11_isStreamed_125 tk_RX11_77 rfl ek12 ?_
          refine tq_iload (M := mX11_isStreamed) (pc := 128) dX11_isStreamed_128 rfl ?_
          obtain ⟨x13, ex13, hf⟩ := tq_be hf
          refine tq_ialdF (M := mX11_isStreamed) (pc := 130) dX11_isStreamed_130 ex13 ?_
          refine tq_iconst (M := mX11_isStreamed) (pc := 131) dX11_isStreamed_131 tk_ki_1 ?_
          refine tq_icmp_eq (M := mX11_isStreamed) (pc := 132) (tgt := 155) dX11_isStreamed_132 (by decide) (fun cc => ?_) (fun cc => ?_)
          · have hf := tq_ifp hf cc
            refine tq_iconst (M := mX11_isStreamed) (pc := 155) dX11_isStreamed_155 tk_ki_0 ?_
            refine tq_pick (L2 := [(0, .ref i0), (1, .int i1), (3, .int i3), (5, .int y5)]) [1, 2, 4, 5] rfl ?_
            cases (Option.some.inj hf)
            exact HJ95
          · have hf := tq_ifn hf cc
            refine tq_aload_n (M := mX11_isStreamed) (pc := 135) dX11_isStreamed_135 rfl ?_
            refine tq_aload_n (M := mX11_isStreamed) (pc := 136) dX11_isStreamed_136 rfl ?_
            obtain ⟨k14, ek14, hf⟩ := tq_be hf
            refine tq_getR (M := mX11_isStreamed) (pc := 137) tk_c11 (by decide) dX11_isStreamed_137 tk_RX11_77 rfl ek14 ?_
            refine tq_iload (M := mX11_isStreamed) (pc := 140) dX11_isStreamed_140 rfl ?_
            refine tq_iconst (M := mX11_isStreamed) (pc := 142) dX11_isStreamed_142 tk_ki_1 ?_
            refine tq_iadd (M := mX11_isStreamed) (pc := 143) dX11_isStreamed_143 ?_
            obtain ⟨x15, ex15, hf⟩ := tq_be hf
            refine tq_ialdF (M := mX11_isStreamed) (pc := 144) dX11_isStreamed_144 ex15 ?_
            obtain ⟨⟨⟩, eu17, hf⟩ := tq_be hf
            obtain ⟨fsu17, eu17⟩ := tq_is_s eu17
            obtain ⟨v16, ev16, hf⟩ := tq_be hf
            refine tq_calV (M := mX11_isStreamed) (pc := 145) (S := []) tk_y_X11_isNear tk_v_X11_isNear tk_RX11_407 dX11_isStreamed_145 [.int x15] rfl (S0 := _) rfl eu17 rfl (Nat.le_of_ble_eq_true rfl) (d1 := d - 1) (b1 := 0) (s1 := 0) (bc' := 0) (bs' := 0) (Q1 := fun r h9 => r = .inl (some (.int v16)) ∧ hh = h9) (by omega) rfl rfl (w_X11_isNear (by omega) ev16 (fun _ _ q => q)) (fun E h9 q => nomatch (show (Sum.inr E : tq_R) = Sum.inl _ from q.1)) (fun r9 h9 q => ?_)
            obtain ⟨q1, rfl⟩ := q
            cases (show (Sum.inl r9 : tq_R) = Sum.inl (some (.int v16)) from q1)
            refine tq_if_eq (M := mX11_isStreamed) (pc := 148) (tgt := 155) dX11_isStreamed_148 (by decide) (fun cc => ?_) (fun cc => ?_)
            · have hf := tq_ifp hf cc
              refine tq_iconst (M := mX11_isStreamed) (pc := 155) dX11_isStreamed_155 tk_ki_0 ?_
              refine tq_pick (L2 := [(0, .ref i0), (1, .int i1), (3, .int i3), (5, .int y5)]) [1, 2, 4, 5] rfl ?_
              cases (Option.some.inj hf)
              exact HJ95
            · have hf := tq_ifn hf cc
              refine tq_iconst (M := mX11_isStreamed) (pc := 151) dX11_isStreamed_151 tk_ki_1 ?_
              refine tq_goto (M := mX11_isStreamed) (pc := 152) (tgt := 156) dX11_isStreamed_152 (by decide) ?_
              refine tq_pick (L2 := [(0, .ref i0), (1, .int i1), (3, .int i3), (5, .int y5)]) [1, 2, 4, 5] rfl ?_
              cases (Option.some.inj hf)
              exact HJ95
        · have hf := tq_ifp hf cc
          refine tq_aload_n (M := mX11_isStreamed) (pc := 108) dX11_isStreamed_108 rfl ?_
          obtain ⟨k18, ek18, hf⟩ := tq_be hf
          refine tq_getR (M := mX11_isStreamed) (pc := 109) tk_c11 (by decide) dX11_isStreamed_109 tk_RX11_77 rfl ek18 ?_
          refine tq_iload (M := mX11_isStreamed) (pc := 112) dX11_isStreamed_112 rfl ?_
          refine tq_iconst (M := mX11_isStreamed) (pc := 114) dX11_isStreamed_114 tk_ki_2 ?_
          refine tq_iadd (M := mX11_isStreamed) (pc := 115) dX11_isStreamed_115 ?_
          obtain ⟨x19, ex19, hf⟩ := tq_be hf
          refine tq_ialdF (M := mX11_isStreamed) (pc := 116) dX11_isStreamed_116 ex19 ?_
          refine tq_iconst (M := mX11_isStreamed) (pc := 117) dX11_isStreamed_117 tk_ki_2 ?_
          refine tq_icmp_eq (M := mX11_isStreamed) (pc := 118) (tgt := 155) dX11_isStreamed_118 (by decide) (fun cc => ?_) (fun cc => ?_)
          · have hf := tq_ifp hf cc
            refine tq_iconst (M := mX11_isStreamed) (pc := 155) dX11_isStreamed_155 tk_ki_0 ?_
            refine tq_pick (L2 := [(0, .ref i0), (1, .int i1), (3, .int i3), (5, .int y5)]) [1, 2, 4, 5] rfl ?_
            cases (Option.some.inj hf)
            exact HJ95
          · have hf := tq_ifn hf cc
            refine tq_goto (M := mX11_isStreamed) (pc := 121) (tgt := 151) dX11_isStreamed_121 (by decide) ?_
            refine tq_iconst (M := mX11_isStreamed) (pc := 151) dX11_isStreamed_151 tk_ki_1 ?_
            refine tq_goto (M := mX11_isStreamed) (pc := 152) (tgt := 156) dX11_isStreamed_152 (by decide) ?_
            refine tq_pick (L2 := [(0, .ref i0), (1, .int i1), (3, .int i3), (5, .int y5)]) [1, 2, 4, 5] rfl ?_
            cases (Option.some.inj hf)
            exact HJ95
set_option maxHeartbeats 4000000 in
theorem l_X11_isStreamed_6 {l : Launch} {d : Nat} {Q : tq_R → tq_H → Prop} (hd9 : 1 ≤ d) (i0 : Nat) (i1 : Int32) (hh : tq_H) : ∀ (n : Nat) (y2 : Int32) (y3 : Int32) (o : Int32), tq_loop (f_X11_isStreamed_b6 i0 i1 hh) n (y2, y3) = some o → tq_W l mX11_isStreamed d 0 0 Q 169 [(2, .int o)] [] hh → tq_W l mX11_isStreamed d 0 0 Q 6 [(0, .ref i0), (1, .int i1), (2, .int y2), (3, .int y3)] [] hh := by
  intro n
  induction n with
  | zero => intro y2 y3 o hl; cases hl
  | succ n ih =>
    intro y2 y3 o hl hk
    obtain ⟨oo, hf, ho⟩ := tq_loop_s hl
    refine tq_iload_n (M := mX11_isStreamed) (pc := 6) dX11_isStreamed_6 rfl ?_
    refine tq_iconst (M := mX11_isStreamed) (pc := 7) dX11_isStreamed_7 tk_ki_5 ?_
    refine tq_iload_n (M := mX11_isStreamed) (pc := 8) dX11_isStreamed_8 rfl ?_
    refine tq_imul (M := mX11_isStreamed) (pc := 9) dX11_isStreamed_9 ?_
    refine tq_aload_n (M := mX11_isStreamed) (pc := 10) dX11_isStreamed_10 rfl ?_
    obtain ⟨k2, ek2, hf⟩ := tq_be hf
    refine tq_getR (M := mX11_isStreamed) (pc := 11) tk_c11 (by decide) dX11_isStreamed_11 tk_RX11_68 rfl ek2 ?_
    refine tq_iload_n (M := mX11_isStreamed) (pc := 14) dX11_isStreamed_14 rfl ?_
    obtain ⟨x3, ex3, hf⟩ := tq_be hf
    refine tq_ialdF (M := mX11_isStreamed) (pc := 15) dX11_isStreamed_15 ex3 ?_
    refine tq_iadd (M := mX11_isStreamed) (pc := 16) dX11_isStreamed_16 ?_
    refine tq_icmp_ge (M := mX11_isStreamed) (pc := 17) (tgt := 169) dX11_isStreamed_17 (by decide) (fun cc => ?_) (fun cc => ?_)
    · have hf := tq_ifp hf cc
      refine tq_pick (L2 := [(2, .int y2)]) [2] rfl ?_
      cases (Option.some.inj hf)
      cases (tq_lx ho)
      exact hk
    · have hf := tq_ifn hf cc
      refine tq_aload_n (M := mX11_isStreamed) (pc := 20) dX11_isStreamed_20 rfl ?_
      obtain ⟨k4, ek4, hf⟩ := tq_be hf
      refine tq_getR (M := mX11_isStreamed) (pc := 21) tk_c11 (by decide) dX11_isStreamed_21 tk_RX11_71 rfl ek4 ?_
      refine tq_iconst (M := mX11_isStreamed) (pc := 24) dX11_isStreamed_24 tk_ki_3 ?_
      refine tq_iload_n (M := mX11_isStreamed) (pc := 25) dX11_isStreamed_25 rfl ?_
      refine tq_imul (M := mX11_isStreamed) (pc := 26) dX11_isStreamed_26 ?_
      obtain ⟨x5, ex5, hf⟩ := tq_be hf
      refine tq_ialdF (M := mX11_isStreamed) (pc := 27) dX11_isStreamed_27 ex5 ?_
      refine tq_istore (M := mX11_isStreamed) (pc := 28) dX11_isStreamed_28 (L2 := [(4, .int x5), (0, .ref i0), (1, .int i1), (2, .int y2), (3, .int y3)]) (by decide) rfl ?_
      refine tq_iload_n (M := mX11_isStreamed) (pc := 30) dX11_isStreamed_30 rfl ?_
      obtain ⟨p6, ep6, hf⟩ := tq_le hf
      have HJ31 : tq_W l mX11_isStreamed d 0 0 Q 69 [(0, .ref i0), (1, .int i1), (3, .int y3)] [.int p6] hh := by
        refine tq_istore_n (M := mX11_isStreamed) (pc := 69) rfl dX11_isStreamed_69 (L2 := [(2, .int p6), (0, .ref i0), (1, .int i1), (3, .int y3)]) (by decide) rfl ?_
        refine tq_iconst (M := mX11_isStreamed) (pc := 70) dX11_isStreamed_70 tk_ki_0 ?_
        refine tq_istore (M := mX11_isStreamed) (pc := 71) dX11_isStreamed_71 (L2 := [(5, .int (0 : Int32)), (2, .int p6), (0, .ref i0), (1, .int i1), (3, .int y3)]) (by decide) rfl ?_
        obtain ⟨o22, eo22, hf⟩ := tq_be hf
        refine tq_pick (L2 := [(0, .ref i0), (1, .int i1), (2, .int p6), (3, .int y3), (5, .int (0 : Int32))]) [2, 3, 1, 4, 0] rfl ?_
        refine l_X11_isStreamed_73 (by omega) i0 i1 y3 hh _ p6 (0 : Int32) _ eo22 ?_
        obtain ⟨x23, ex23, hf⟩ := tq_le hf
        refine tq_iinc (M := mX11_isStreamed) (pc := 163) (v := x23) (L2 := [(3, .int x23), (0, .ref i0), (1, .int i1), (2, .int o22)]) dX11_isStreamed_163 rfl (by rw [ex23, tk_ki_1]) (by decide) rfl ?_
        refine tq_goto (M := mX11_isStreamed) (pc := 166) (tgt := 6) dX11_isStreamed_166 (by decide) ?_
        refine tq_pick (L2 := [(0, .ref i0), (1, .int i1), (2, .int o22), (3, .int x23)]) [1, 2, 3, 0] rfl ?_
        cases (Option.some.inj hf)
        exact ih _ _ o (tq_lc ho) hk
      refine tq_if_eq (M := mX11_isStreamed) (pc := 31) (tgt := 68) dX11_isStreamed_31 (by decide) (fun cc => ?_) (fun cc => ?_)
      · have hf := tq_ifp ep6.symm cc
        refine tq_iconst (M := mX11_isStreamed) (pc := 68) dX11_isStreamed_68 tk_ki_0 ?_
        refine tq_pick (L2 := [(0, .ref i0), (1, .int i1), (3, .int y3)]) [1, 2, 4] rfl ?_
        cases hf
        exact HJ31
      · have hf := tq_ifn ep6.symm cc
        refine tq_iload (M := mX11_isStreamed) (pc := 34) dX11_isStreamed_34 rfl ?_
        refine tq_if_eq (M := mX11_isStreamed) (pc := 36) (tgt := 64) dX11_isStreamed_36 (by decide) (fun cc => ?_) (fun cc => ?_)
        · have hf := tq_ifp hf cc
          refine tq_iconst (M := mX11_isStreamed) (pc := 64) dX11_isStreamed_64 tk_ki_1 ?_
          refine tq_goto (M := mX11_isStreamed) (pc := 65) (tgt := 69) dX11_isStreamed_65 (by decide) ?_
          refine tq_pick (L2 := [(0, .ref i0), (1, .int i1), (3, .int y3)]) [1, 2, 4] rfl ?_
          cases hf
          exact HJ31
        · have hf := tq_ifn hf cc
          refine tq_iload (M := mX11_isStreamed) (pc := 39) dX11_isStreamed_39 rfl ?_
          refine tq_iconst (M := mX11_isStreamed) (pc := 41) dX11_isStreamed_41 tk_ki_1 ?_
          refine tq_icmp_eq (M := mX11_isStreamed) (pc := 42) (tgt := 64) dX11_isStreamed_42 (by decide) (fun cc => ?_) (fun cc => ?_)
          · have hf := tq_ifp hf cc
            refine tq_iconst (M := mX11_isStreamed) (pc := 64) dX11_isStreamed_64 tk_ki_1 ?_
            refine tq_goto (M := mX11_isStreamed) (pc := 65) (tgt := 69) dX11_isStreamed_65 (by decide) ?_
            refine tq_pick (L2 := [(0, .ref i0), (1, .int i1), (3, .int y3)]) [1, 2, 4] rfl ?_
            cases hf
            exact HJ31
          · have hf := tq_ifn hf cc
            refine tq_iload (M := mX11_isStreamed) (pc := 45) dX11_isStreamed_45 rfl ?_
            refine tq_iconst (M := mX11_isStreamed) (pc := 47) dX11_isStreamed_47 tk_ki_3 ?_
            refine tq_icmp_eq (M := mX11_isStreamed) (pc := 48) (tgt := 64) dX11_isStreamed_48 (by decide) (fun cc => ?_) (fun cc => ?_)
            · have hf := tq_ifp hf cc
              refine tq_iconst (M := mX11_isStreamed) (pc := 64) dX11_isStreamed_64 tk_ki_1 ?_
              refine tq_goto (M := mX11_isStreamed) (pc := 65) (tgt := 69) dX11_isStreamed_65 (by decide) ?_
              refine tq_pick (L2 := [(0, .ref i0), (1, .int i1), (3, .int y3)]) [1, 2, 4] rfl ?_
              cases hf
              exact HJ31
            · have hf := tq_ifn hf cc
              refine tq_iload (M := mX11_isStreamed) (pc := 51) dX11_isStreamed_51 rfl ?_
              refine tq_iconst (M := mX11_isStreamed) (pc := 53) dX11_isStreamed_53 tk_ki_4 ?_
              refine tq_icmp_eq (M := mX11_isStreamed) (pc := 54) (tgt := 64) dX11_isStreamed_54 (by decide) (fun cc => ?_) (fun cc => ?_)
              · have hf := tq_ifp hf cc
                refine tq_iconst (M := mX11_isStreamed) (pc := 64) dX11_isStreamed_64 tk_ki_1 ?_
                refine tq_goto (M := mX11_isStreamed) (pc := 65) (tgt := 69) dX11_isStreamed_65 (by decide) ?_
                refine tq_pick (L2 := [(0, .ref i0), (1, .int i1), (3, .int y3)]) [1, 2, 4] rfl ?_
                cases hf
                exact HJ31
              · have hf := tq_ifn hf cc
                refine tq_iload (M := mX11_isStreamed) (pc := 57) dX11_isStreamed_57 rfl ?_
                refine tq_bipush (M := mX11_isStreamed) (pc := 59) dX11_isStreamed_59 tk_kb_11 ?_
                refine tq_icmp_ne (M := mX11_isStreamed) (pc := 61) (tgt := 68) dX11_isStreamed_61 (by decide) (fun cc => ?_) (fun cc => ?_)
                · have hf := tq_ifn hf cc
                  refine tq_iconst (M := mX11_isStreamed) (pc := 68) dX11_isStreamed_68 tk_ki_0 ?_
                  refine tq_pick (L2 := [(0, .ref i0), (1, .int i1), (3, .int y3)]) [1, 2, 4] rfl ?_
                  cases hf
                  exact HJ31
                · have hf := tq_ifp hf cc
                  refine tq_iconst (M := mX11_isStreamed) (pc := 64) dX11_isStreamed_64 tk_ki_1 ?_
                  refine tq_goto (M := mX11_isStreamed) (pc := 65) (tgt := 69) dX11_isStreamed_65 (by decide) ?_
                  refine tq_pick (L2 := [(0, .ref i0), (1, .int i1), (3, .int y3)]) [1, 2, 4] rfl ?_
                  cases hf
                  exact HJ31
set_option maxHeartbeats 4000000 in
set_option maxRecDepth 20000 in
theorem w_X11_isStreamed {l : Launch} {d : Nat} (hd9 : 1 ≤ d) {t : Nat} {a1 : Int32} {h : tq_H} {o : Int32} {Q : tq_R → tq_H → Prop} (hf : f_X11_isStreamed t a1 h = some o) (hQ : ∀ r h9, r = .inl (some (.int o)) ∧ h = h9 → Q r h9) : tq_C l yX11_isStreamed cX11_isStreamed 7 (some .boolean) d 0 0 [.ref t, .int a1] h Q := by
  refine tq_body (y := yX11_isStreamed) false (by decide +kernel) (fun z => by cases z) (Nat.le_of_ble_eq_true rfl) ?_
  show tq_W l mX11_isStreamed d 0 0 Q 0 [(0, .ref t), (1, .int a1)] [] h
  refine tq_iconst (M := mX11_isStreamed) (pc := 0) dX11_isStreamed_0 tk_ki_1 ?_
  refine tq_istore_n (M := mX11_isStreamed) (pc := 1) rfl dX11_isStreamed_1 (L2 := [(2, .int (1 : Int32)), (0, .ref t), (1, .int a1)]) (by decide) rfl ?_
  refine tq_iconst (M := mX11_isStreamed) (pc := 2) dX11_isStreamed_2 tk_ki_5 ?_
  refine tq_iload_n (M := mX11_isStreamed) (pc := 3) dX11_isStreamed_3 rfl ?_
  refine tq_imul (M := mX11_isStreamed) (pc := 4) dX11_isStreamed_4 ?_
  obtain ⟨x1, ex1, hf⟩ := tq_le hf
  refine tq_istore_n (M := mX11_isStreamed) (pc := 5) rfl dX11_isStreamed_5 (L2 := [(3, .int x1), (2, .int (1 : Int32)), (0, .ref t), (1, .int a1)]) (by decide) (by rw [ex1]; rfl) ?_
  obtain ⟨o24, eo24, hf⟩ := tq_be hf
  refine tq_pick (L2 := [(0, .ref t), (1, .int a1), (2, .int (1 : Int32)), (3, .int x1)]) [2, 3, 1, 0] rfl ?_
  refine l_X11_isStreamed_6 (by omega) t a1 h _ (1 : Int32) x1 _ eo24 ?_
  refine tq_iload_n (M := mX11_isStreamed) (pc := 169) dX11_isStreamed_169 rfl ?_
  obtain ⟨z25, ez25, hf⟩ := tq_be hf
  refine tq_zretB (M := mX11_isStreamed) (pc := 170) dX11_isStreamed_170 rfl ez25 ?_
  cases (Option.some.inj hf)
  exact hQ _ _ ⟨rfl, rfl⟩
abbrev mX11_plan : tq_M := (RX11, cX11_plan, 6, (some .int), false, [], none)
def f_X11_plan_b69 (i0 : Nat) (i1 : Int32) (i2 : Int32) (hh : tq_H) (s : Int32 × Int32 × Int32) : Option ((Int32 × Int32 × Int32) ⊕ (Int32 × Int32)) := match s with
  | (y3, y4, y5) =>
    (tq_gi hh i0 11 11).bind fun x13 =>
    if y5 ≥ x13 then
      some (.inr (y3, y4))
    else
      (tq_gr hh i0 11 2).bind fun k14 =>
      (tq_gr hh i0 11 12).bind fun k15 =>
      (tq_ai hh k15 y5).bind fun x16 =>
      (tq_ai hh k14 x16).bind fun x17 =>
      tq_let (if x17 = (2 : Int32) then (0 : Int32) else (1 : Int32)) fun p18 =>
      tq_let ((y3 + p18)) fun x19 =>
      (tq_gr hh i0 11 2).bind fun k20 =>
      (tq_gr hh i0 11 12).bind fun k21 =>
      (tq_ai hh k21 y5).bind fun x22 =>
      (tq_ai hh k20 x22).bind fun x23 =>
      (if x23 = 0 then
        (tq_gr hh i0 11 3).bind fun k24 =>
        (tq_gr hh i0 11 12).bind fun k25 =>
        (tq_ai hh k25 y5).bind fun x26 =>
        (tq_ai hh k24 x26).bind fun x27 =>
        if x27 = i2 then
          some (1 : Int32)
        else
          some (0 : Int32)
      else
        some (0 : Int32)).bind fun p28 =>
      tq_let ((y4 + p28)) fun x29 =>
      tq_let (y5 + (1 : Int32)) fun x30 =>
      some (.inl (x19, x29, x30))
def f_X11_plan (t : Nat) (a1 : Int32) (h : tq_H) : Option (Int32 × tq_H) :=
  (tq_is h t 11).bind fun _ =>
  (f_X11_isPath t a1 h).bind fun v1 =>
  tq_let (if v1 = 0 then (1 : Int32) else (0 : Int32)) fun p3 =>
  (tq_is h t 11).bind fun _ =>
  (f_X11_refused t p3 h).bind fun v4 =>
  if v4.1 = 0 then
    (tq_gr v4.2 t 11 25).bind fun k6 =>
    (tq_ai v4.2 k6 a1).bind fun x7 =>
    (if x7 ≤ 0 then
      some (8 : Int32)
    else
      (tq_gr v4.2 t 11 26).bind fun k8 =>
      (tq_ai v4.2 k8 ((15 : Int32) * a1)).bind fun x9 =>
      if x9 = (3 : Int32) then
        (tq_gr v4.2 t 11 26).bind fun k10 =>
        (tq_ai v4.2 k10 (((15 : Int32) * a1) + (1 : Int32))).bind fun x11 =>
        some x11
      else
        some (8 : Int32)).bind fun p12 =>
    (tq_loop (f_X11_plan_b69 t a1 p12 v4.2) tq_N ((0 : Int32), (0 : Int32), (0 : Int32))).bind fun o31 =>
    if p12 ≥ (8 : Int32) then
      (tq_is v4.2 t 11).bind fun _ =>
      (f_X11_isStreamed t a1 v4.2).bind fun v32 =>
      tq_let (if v32 = 0 then (0 : Int32) else (2 : Int32)) fun p34 =>
      some ((((1000 : Int32) * p34) + o31.1), v4.2)
    else
      (tq_gr v4.2 t 11 44).bind fun k35 =>
      (tq_az v4.2 k35 p12).bind fun x36 =>
      if x36 = 0 then
        (tq_is v4.2 t 11).bind fun _ =>
        (f_X11_isStreamed t a1 v4.2).bind fun v37 =>
        tq_let (if v37 = 0 then (0 : Int32) else (2 : Int32)) fun p39 =>
        some ((((1000 : Int32) * p39) + o31.1), v4.2)
      else
        if o31.2 ≥ o31.1 then
          (tq_is v4.2 t 11).bind fun _ =>
          (f_X11_isStreamed t a1 v4.2).bind fun v40 =>
          tq_let (if v40 = 0 then (0 : Int32) else (2 : Int32)) fun p42 =>
          some ((((1000 : Int32) * p42) + o31.1), v4.2)
        else
          some (((1000 : Int32) + o31.2), v4.2)
  else
    some ((0 : Int32), v4.2)
set_option maxHeartbeats 4000000 in
theorem l_X11_plan_69 {l : Launch} {d : Nat} {Q : tq_R → tq_H → Prop} (hd9 : 2 ≤ d) (i0 : Nat) (i1 : Int32) (i2 : Int32) (hh : tq_H) : ∀ (n : Nat) (y3 : Int32) (y4 : Int32) (y5 : Int32) (o : Int32 × Int32), tq_loop (f_X11_plan_b69 i0 i1 i2 hh) n (y3, y4, y5) = some o → tq_W l mX11_plan d 0 0 Q 149 [(0, .ref i0), (1, .int i1), (2, .int i2), (3, .int o.1), (4, .int o.2)] [] hh → tq_W l mX11_plan d 0 0 Q 69 [(0, .ref i0), (1, .int i1), (2, .int i2), (3, .int y3), (4, .int y4), (5, .int y5)] [] hh := by
  intro n
  induction n with
  | zero => intro y3 y4 y5 o hl; cases hl
  | succ n ih =>
    intro y3 y4 y5 o hl hk
    obtain ⟨oo, hf, ho⟩ := tq_loop_s hl
    refine tq_iload (M := mX11_plan) (pc := 69) dX11_plan_69 rfl ?_
    refine tq_aload_n (M := mX11_plan) (pc := 71) dX11_plan_71 rfl ?_
    obtain ⟨x13, ex13, hf⟩ := tq_be hf
    refine tq_getI (M := mX11_plan) (pc := 72) tk_c11 (by decide) dX11_plan_72 tk_RX11_173 rfl ex13 ?_
    refine tq_icmp_ge (M := mX11_plan) (pc := 75) (tgt := 149) dX11_plan_75 (by decide) (fun cc => ?_) (fun cc => ?_)
    · have hf := tq_ifp hf cc
      refine tq_pick (L2 := [(0, .ref i0), (1, .int i1), (2, .int i2), (3, .int y3), (4, .int y4)]) [0, 1, 2, 3, 4] rfl ?_
      cases (Option.some.inj hf)
      cases (tq_lx ho)
      exact hk
    · have hf := tq_ifn hf cc
      refine tq_iload_n (M := mX11_plan) (pc := 78) dX11_plan_78 rfl ?_
      refine tq_aload_n (M := mX11_plan) (pc := 79) dX11_plan_79 rfl ?_
      obtain ⟨k14, ek14, hf⟩ := tq_be hf
      refine tq_getR (M := mX11_plan) (pc := 80) tk_c11 (by decide) dX11_plan_80 tk_RX11_7 rfl ek14 ?_
      refine tq_aload_n (M := mX11_plan) (pc := 83) dX11_plan_83 rfl ?_
      obtain ⟨k15, ek15, hf⟩ := tq_be hf
      refine tq_getR (M := mX11_plan) (pc := 84) tk_c11 (by decide) dX11_plan_84 tk_RX11_35 rfl ek15 ?_
      refine tq_iload (M := mX11_plan) (pc := 87) dX11_plan_87 rfl ?_
      obtain ⟨x16, ex16, hf⟩ := tq_be hf
      refine tq_ialdF (M := mX11_plan) (pc := 89) dX11_plan_89 ex16 ?_
      obtain ⟨x17, ex17, hf⟩ := tq_be hf
      refine tq_ialdF (M := mX11_plan) (pc := 90) dX11_plan_90 ex17 ?_
      refine tq_iconst (M := mX11_plan) (pc := 91) dX11_plan_91 tk_ki_2 ?_
      obtain ⟨p18, ep18, hf⟩ := tq_le hf
      have HJ92 : tq_W l mX11_plan d 0 0 Q 100 [(0, .ref i0), (1, .int i1), (2, .int i2), (4, .int y4), (5, .int y5)] [.int p18, .int y3] hh := by
        refine tq_iadd (M := mX11_plan) (pc := 100) dX11_plan_100 ?_
        obtain ⟨x19, ex19, hf⟩ := tq_le hf
        refine tq_istore_n (M := mX11_plan) (pc := 101) rfl dX11_plan_101 (L2 := [(3, .int x19), (0, .ref i0), (1, .int i1), (2, .int i2), (4, .int y4), (5, .int y5)]) (by decide) (by rw [ex19]; rfl) ?_
        refine tq_iload (M := mX11_plan) (pc := 102) dX11_plan_102 rfl ?_
        refine tq_aload_n (M := mX11_plan) (pc := 104) dX11_plan_104 rfl ?_
        obtain ⟨k20, ek20, hf⟩ := tq_be hf
        refine tq_getR (M := mX11_plan) (pc := 105) tk_c11 (by decide) dX11_plan_105 tk_RX11_7 rfl ek20 ?_
        refine tq_aload_n (M := mX11_plan) (pc := 108) dX11_plan_108 rfl ?_
        obtain ⟨k21, ek21, hf⟩ := tq_be hf
        refine tq_getR (M := mX11_plan) (pc := 109) tk_c11 (by decide) dX11_plan_109 tk_RX11_35 rfl ek21 ?_
        refine tq_iload (M := mX11_plan) (pc := 112) dX11_plan_112 rfl ?_
        obtain ⟨x22, ex22, hf⟩ := tq_be hf
        refine tq_ialdF (M := mX11_plan) (pc := 114) dX11_plan_114 ex22 ?_
        obtain ⟨x23, ex23, hf⟩ := tq_be hf
        refine tq_ialdF (M := mX11_plan) (pc := 115) dX11_plan_115 ex23 ?_
        obtain ⟨p28, ep28, hf⟩ := tq_be hf
        have HJ116 : tq_W l mX11_plan d 0 0 Q 140 [(0, .ref i0), (1, .int i1), (2, .int i2), (3, .int x19), (5, .int y5)] [.int p28, .int y4] hh := by
          refine tq_iadd (M := mX11_plan) (pc := 140) dX11_plan_140 ?_
          obtain ⟨x29, ex29, hf⟩ := tq_le hf
          refine tq_istore (M := mX11_plan) (pc := 141) dX11_plan_141 (L2 := [(4, .int x29), (0, .ref i0), (1, .int i1), (2, .int i2), (3, .int x19), (5, .int y5)]) (by decide) (by rw [ex29]; rfl) ?_
          obtain ⟨x30, ex30, hf⟩ := tq_le hf
          refine tq_iinc (M := mX11_plan) (pc := 143) (v := x30) (L2 := [(5, .int x30), (4, .int x29), (0, .ref i0), (1, .int i1), (2, .int i2), (3, .int x19)]) dX11_plan_143 rfl (by rw [ex30, tk_ki_1]) (by decide) rfl ?_
          refine tq_goto (M := mX11_plan) (pc := 146) (tgt := 69) dX11_plan_146 (by decide) ?_
          refine tq_pick (L2 := [(0, .ref i0), (1, .int i1), (2, .int i2), (3, .int x19), (4, .int x29), (5, .int x30)]) [2, 3, 4, 5, 1, 0] rfl ?_
          cases (Option.some.inj hf)
          exact ih _ _ _ o (tq_lc ho) hk
        refine tq_if_ne (M := mX11_plan) (pc := 116) (tgt := 139) dX11_plan_116 (by decide) (fun cc => ?_) (fun cc => ?_)
        · have hf := tq_ifn ep28 cc
          refine tq_iconst (M := mX11_plan) (pc := 139) dX11_plan_139 tk_ki_0 ?_
          refine tq_pick (L2 := [(0, .ref i0), (1, .int i1), (2, .int i2), (3, .int x19), (5, .int y5)]) [1, 2, 3, 0, 5] rfl ?_
          cases (Option.some.inj hf)
          exact HJ116
        · have hf := tq_ifp ep28 cc
          refine tq_aload_n (M := mX11_plan) (pc := 119) dX11_plan_119 rfl ?_
          obtain ⟨k24, ek24, hf⟩ := tq_be hf
          refine tq_getR (M := mX11_plan) (pc := 120) tk_c11 (by decide) dX11_plan_120 tk_RX11_13 rfl ek24 ?_
          refine tq_aload_n (M := mX11_plan) (pc := 123) dX11_plan_123 rfl ?_
          obtain ⟨k25, ek25, hf⟩ := tq_be hf
          refine tq_getR (M := mX11_plan) (pc := 124) tk_c11 (by decide) dX11_plan_124 tk_RX11_35 rfl ek25 ?_
          refine tq_iload (M := mX11_plan) (pc := 127) dX11_plan_127 rfl ?_
          obtain ⟨x26, ex26, hf⟩ := tq_be hf
          refine tq_ialdF (M := mX11_plan) (pc := 129) dX11_plan_129 ex26 ?_
          obtain ⟨x27, ex27, hf⟩ := tq_be hf
          refine tq_ialdF (M := mX11_plan) (pc := 130) dX11_plan_130 ex27 ?_
          refine tq_iload_n (M := mX11_plan) (pc := 131) dX11_plan_131 rfl ?_
          refine tq_icmp_ne (M := mX11_plan) (pc := 132) (tgt := 139) dX11_plan_132 (by decide) (fun cc => ?_) (fun cc => ?_)
          · have hf := tq_ifn hf cc
            refine tq_iconst (M := mX11_plan) (pc := 139) dX11_plan_139 tk_ki_0 ?_
            refine tq_pick (L2 := [(0, .ref i0), (1, .int i1), (2, .int i2), (3, .int x19), (5, .int y5)]) [1, 2, 3, 0, 5] rfl ?_
            cases (Option.some.inj hf)
            exact HJ116
          · have hf := tq_ifp hf cc
            refine tq_iconst (M := mX11_plan) (pc := 135) dX11_plan_135 tk_ki_1 ?_
            refine tq_goto (M := mX11_plan) (pc := 136) (tgt := 140) dX11_plan_136 (by decide) ?_
            refine tq_pick (L2 := [(0, .ref i0), (1, .int i1), (2, .int i2), (3, .int x19), (5, .int y5)]) [1, 2, 3, 0, 5] rfl ?_
            cases (Option.some.inj hf)
            exact HJ116
      refine tq_icmp_eq (M := mX11_plan) (pc := 92) (tgt := 99) dX11_plan_92 (by decide) (fun cc => ?_) (fun cc => ?_)
      · have hf := tq_ifp ep18.symm cc
        refine tq_iconst (M := mX11_plan) (pc := 99) dX11_plan_99 tk_ki_0 ?_
        refine tq_pick (L2 := [(0, .ref i0), (1, .int i1), (2, .int i2), (4, .int y4), (5, .int y5)]) [0, 1, 2, 4, 5] rfl ?_
        cases hf
        exact HJ92
      · have hf := tq_ifn ep18.symm cc
        refine tq_iconst (M := mX11_plan) (pc := 95) dX11_plan_95 tk_ki_1 ?_
        refine tq_goto (M := mX11_plan) (pc := 96) (tgt := 100) dX11_plan_96 (by decide) ?_
        refine tq_pick (L2 := [(0, .ref i0), (1, .int i1), (2, .int i2), (4, .int y4), (5, .int y5)]) [0, 1, 2, 4, 5] rfl ?_
        cases hf
        exact HJ92
set_option maxHeartbeats 4000000 in
set_option maxRecDepth 20000 in
theorem w_X11_plan {l : Launch} {d : Nat} (hd9 : 2 ≤ d) {t : Nat} {a1 : Int32} {h : tq_H} {o : Int32 × tq_H} {Q : tq_R → tq_H → Prop} (hf : f_X11_plan t a1 h = some o) (hQ : ∀ r h9, r = .inl (some (.int o.1)) ∧ o.2 = h9 → Q r h9) : tq_C l yX11_plan cX11_plan 6 (some .int) d 0 0 [.ref t, .int a1] h Q := by
  refine tq_body (y := yX11_plan) false (by decide +kernel) (fun z => by cases z) (Nat.le_of_ble_eq_true rfl) ?_
  show tq_W l mX11_plan d 0 0 Q 0 [(0, .ref t), (1, .int a1)] [] h
  refine tq_aload_n (M := mX11_plan) (pc := 0) dX11_plan_0 rfl ?_
  refine tq_aload_n (M := mX11_plan) (pc := 1) dX11_plan_1 rfl ?_
  refine tq_iload_n (M := mX11_plan) (pc := 2) dX11_plan_2 rfl ?_
  obtain ⟨⟨⟩, eu2, hf⟩ := tq_be hf
  obtain ⟨fsu2, eu2⟩ := tq_is_s eu2
  obtain ⟨v1, ev1, hf⟩ := tq_be hf
  refine tq_calV (M := mX11_plan) (pc := 3) (S := [.ref t]) tk_y_X11_isPath tk_v_X11_isPath tk_RX11_305 dX11_plan_3 [.int a1] rfl (S0 := _) rfl eu2 rfl (Nat.le_of_ble_eq_true rfl) (d1 := d - 1) (b1 := 0) (s1 := 0) (bc' := 0) (bs' := 0) (Q1 := fun r h9 => r = .inl (some (.int v1)) ∧ h = h9) (by omega) rfl rfl (w_X11_isPath (by omega) ev1 (fun _ _ q => q)) (fun E h9 q => nomatch (show (Sum.inr E : tq_R) = Sum.inl _ from q.1)) (fun r9 h9 q => ?_)
  obtain ⟨q1, rfl⟩ := q
  cases (show (Sum.inl r9 : tq_R) = Sum.inl (some (.int v1)) from q1)
  obtain ⟨p3, ep3, hf⟩ := tq_le hf
  have HJ6 : tq_W l mX11_plan d 0 0 Q 14 [(0, .ref t), (1, .int a1)] [.int p3, .ref t] h := by
    obtain ⟨⟨⟩, eu5, hf⟩ := tq_be hf
    obtain ⟨fsu5, eu5⟩ := tq_is_s eu5
    obtain ⟨v4, ev4, hf⟩ := tq_be hf
    refine tq_calV (M := mX11_plan) (pc := 14) (S := []) tk_y_X11_refused tk_v_X11_refused tk_RX11_204 dX11_plan_14 [.int p3] rfl (S0 := _) rfl eu5 rfl (Nat.le_of_ble_eq_true rfl) (d1 := d - 1) (b1 := 0) (s1 := 0) (bc' := 0) (bs' := 0) (Q1 := fun r h9 => r = .inl (some (.int v4.1)) ∧ v4.2 = h9) (by omega) rfl rfl (w_X11_refused (by omega) ev4 (fun _ _ q => q)) (fun E h9 q => nomatch (show (Sum.inr E : tq_R) = Sum.inl _ from q.1)) (fun r9 h9 q => ?_)
    obtain ⟨q1, rfl⟩ := q
    cases (show (Sum.inl r9 : tq_R) = Sum.inl (some (.int v4.1)) from q1)
    refine tq_if_eq (M := mX11_plan) (pc := 17) (tgt := 22) dX11_plan_17 (by decide) (fun cc => ?_) (fun cc => ?_)
    · have hf := tq_ifp hf cc
      refine tq_aload_n (M := mX11_plan) (pc := 22) dX11_plan_22 rfl ?_
      obtain ⟨k6, ek6, hf⟩ := tq_be hf
      refine tq_getR (M := mX11_plan) (pc := 23) tk_c11 (by decide) dX11_plan_23 tk_RX11_68 rfl ek6 ?_
      refine tq_iload_n (M := mX11_plan) (pc := 26) dX11_plan_26 rfl ?_
      obtain ⟨x7, ex7, hf⟩ := tq_be hf
      refine tq_ialdF (M := mX11_plan) (pc := 27) dX11_plan_27 ex7 ?_
      obtain ⟨p12, ep12, hf⟩ := tq_be hf
      have HJ28 : tq_W l mX11_plan d 0 0 Q 60 [(0, .ref t), (1, .int a1)] [.int p12] v4.2 := by
        refine tq_istore_n (M := mX11_plan) (pc := 60) rfl dX11_plan_60 (L2 := [(2, .int p12), (0, .ref t), (1, .int a1)]) (by decide) rfl ?_
        refine tq_iconst (M := mX11_plan) (pc := 61) dX11_plan_61 tk_ki_0 ?_
        refine tq_istore_n (M := mX11_plan) (pc := 62) rfl dX11_plan_62 (L2 := [(3, .int (0 : Int32)), (2, .int p12), (0, .ref t), (1, .int a1)]) (by decide) rfl ?_
        refine tq_iconst (M := mX11_plan) (pc := 63) dX11_plan_63 tk_ki_0 ?_
        refine tq_istore (M := mX11_plan) (pc := 64) dX11_plan_64 (L2 := [(4, .int (0 : Int32)), (3, .int (0 : Int32)), (2, .int p12), (0, .ref t), (1, .int a1)]) (by decide) rfl ?_
        refine tq_iconst (M := mX11_plan) (pc := 66) dX11_plan_66 tk_ki_0 ?_
        refine tq_istore (M := mX11_plan) (pc := 67) dX11_plan_67 (L2 := [(5, .int (0 : Int32)), (4, .int (0 : Int32)), (3, .int (0 : Int32)), (2, .int p12), (0, .ref t), (1, .int a1)]) (by decide) rfl ?_
        obtain ⟨o31, eo31, hf⟩ := tq_be hf
        refine tq_pick (L2 := [(0, .ref t), (1, .int a1), (2, .int p12), (3, .int (0 : Int32)), (4, .int (0 : Int32)), (5, .int (0 : Int32))]) [4, 5, 3, 2, 1, 0] rfl ?_
        refine l_X11_plan_69 (by omega) t a1 p12 v4.2 _ (0 : Int32) (0 : Int32) (0 : Int32) _ eo31 ?_
        refine tq_iload_n (M := mX11_plan) (pc := 149) dX11_plan_149 rfl ?_
        refine tq_bipush (M := mX11_plan) (pc := 150) dX11_plan_150 tk_kb_8 ?_
        refine tq_icmp_ge (M := mX11_plan) (pc := 152) (tgt := 177) dX11_plan_152 (by decide) (fun cc => ?_) (fun cc => ?_)
        · have hf := tq_ifp hf cc
          refine tq_sipush (M := mX11_plan) (pc := 177) dX11_plan_177 tk_ks_1000 ?_
          refine tq_aload_n (M := mX11_plan) (pc := 180) dX11_plan_180 rfl ?_
          refine tq_iload_n (M := mX11_plan) (pc := 181) dX11_plan_181 rfl ?_
          obtain ⟨⟨⟩, eu33, hf⟩ := tq_be hf
          obtain ⟨fsu33, eu33⟩ := tq_is_s eu33
          obtain ⟨v32, ev32, hf⟩ := tq_be hf
          refine tq_calV (M := mX11_plan) (pc := 182) (S := [.int (1000 : Int32)]) tk_y_X11_isStreamed tk_v_X11_isStreamed tk_RX11_410 dX11_plan_182 [.int a1] rfl (S0 := _) rfl eu33 rfl (Nat.le_of_ble_eq_true rfl) (d1 := d - 1) (b1 := 0) (s1 := 0) (bc' := 0) (bs' := 0) (Q1 := fun r h9 => r = .inl (some (.int v32)) ∧ v4.2 = h9) (by omega) rfl rfl (w_X11_isStreamed (by omega) ev32 (fun _ _ q => q)) (fun E h9 q => nomatch (show (Sum.inr E : tq_R) = Sum.inl _ from q.1)) (fun r9 h9 q => ?_)
          obtain ⟨q1, rfl⟩ := q
          cases (show (Sum.inl r9 : tq_R) = Sum.inl (some (.int v32)) from q1)
          obtain ⟨p34, ep34, hf⟩ := tq_le hf
          have HJ185 : tq_W l mX11_plan d 0 0 Q 193 [(3, .int o31.1)] [.int p34, .int (1000 : Int32)] v4.2 := by
            refine tq_imul (M := mX11_plan) (pc := 193) dX11_plan_193 ?_
            refine tq_iload_n (M := mX11_plan) (pc := 194) dX11_plan_194 rfl ?_
            refine tq_iadd (M := mX11_plan) (pc := 195) dX11_plan_195 ?_
            refine tq_iret (M := mX11_plan) (pc := 196) dX11_plan_196 rfl ?_
            cases (Option.some.inj hf)
            exact hQ _ _ ⟨rfl, rfl⟩
          refine tq_if_eq (M := mX11_plan) (pc := 185) (tgt := 192) dX11_plan_185 (by decide) (fun cc => ?_) (fun cc => ?_)
          · have hf := tq_ifp ep34.symm cc
            refine tq_iconst (M := mX11_plan) (pc := 192) dX11_plan_192 tk_ki_0 ?_
            refine tq_pick (L2 := [(3, .int o31.1)]) [3] rfl ?_
            cases hf
            exact HJ185
          · have hf := tq_ifn ep34.symm cc
            refine tq_iconst (M := mX11_plan) (pc := 188) dX11_plan_188 tk_ki_2 ?_
            refine tq_goto (M := mX11_plan) (pc := 189) (tgt := 193) dX11_plan_189 (by decide) ?_
            refine tq_pick (L2 := [(3, .int o31.1)]) [3] rfl ?_
            cases hf
            exact HJ185
        · have hf := tq_ifn hf cc
          refine tq_aload_n (M := mX11_plan) (pc := 155) dX11_plan_155 rfl ?_
          obtain ⟨k35, ek35, hf⟩ := tq_be hf
          refine tq_getR (M := mX11_plan) (pc := 156) tk_c11 (by decide) dX11_plan_156 tk_RX11_114 rfl ek35 ?_
          refine tq_iload_n (M := mX11_plan) (pc := 159) dX11_plan_159 rfl ?_
          obtain ⟨x36, ex36, hf⟩ := tq_be hf
          refine tq_zaldF (M := mX11_plan) (pc := 160) dX11_plan_160 ex36 ?_
          refine tq_if_eq (M := mX11_plan) (pc := 161) (tgt := 177) dX11_plan_161 (by decide) (fun cc => ?_) (fun cc => ?_)
          · have hf := tq_ifp hf cc
            refine tq_sipush (M := mX11_plan) (pc := 177) dX11_plan_177 tk_ks_1000 ?_
            refine tq_aload_n (M := mX11_plan) (pc := 180) dX11_plan_180 rfl ?_
            refine tq_iload_n (M := mX11_plan) (pc := 181) dX11_plan_181 rfl ?_
            obtain ⟨⟨⟩, eu38, hf⟩ := tq_be hf
            obtain ⟨fsu38, eu38⟩ := tq_is_s eu38
            obtain ⟨v37, ev37, hf⟩ := tq_be hf
            refine tq_calV (M := mX11_plan) (pc := 182) (S := [.int (1000 : Int32)]) tk_y_X11_isStreamed tk_v_X11_isStreamed tk_RX11_410 dX11_plan_182 [.int a1] rfl (S0 := _) rfl eu38 rfl (Nat.le_of_ble_eq_true rfl) (d1 := d - 1) (b1 := 0) (s1 := 0) (bc' := 0) (bs' := 0) (Q1 := fun r h9 => r = .inl (some (.int v37)) ∧ v4.2 = h9) (by omega) rfl rfl (w_X11_isStreamed (by omega) ev37 (fun _ _ q => q)) (fun E h9 q => nomatch (show (Sum.inr E : tq_R) = Sum.inl _ from q.1)) (fun r9 h9 q => ?_)
            obtain ⟨q1, rfl⟩ := q
            cases (show (Sum.inl r9 : tq_R) = Sum.inl (some (.int v37)) from q1)
            obtain ⟨p39, ep39, hf⟩ := tq_le hf
            have HJ185 : tq_W l mX11_plan d 0 0 Q 193 [(3, .int o31.1)] [.int p39, .int (1000 : Int32)] v4.2 := by
              refine tq_imul (M := mX11_plan) (pc := 193) dX11_plan_193 ?_
              refine tq_iload_n (M := mX11_plan) (pc := 194) dX11_plan_194 rfl ?_
              refine tq_iadd (M := mX11_plan) (pc := 195) dX11_plan_195 ?_
              refine tq_iret (M := mX11_plan) (pc := 196) dX11_plan_196 rfl ?_
              cases (Option.some.inj hf)
              exact hQ _ _ ⟨rfl, rfl⟩
            refine tq_if_eq (M := mX11_plan) (pc := 185) (tgt := 192) dX11_plan_185 (by decide) (fun cc => ?_) (fun cc => ?_)
            · have hf := tq_ifp ep39.symm cc
              refine tq_iconst (M := mX11_plan) (pc := 192) dX11_plan_192 tk_ki_0 ?_
              refine tq_pick (L2 := [(3, .int o31.1)]) [3] rfl ?_
              cases hf
              exact HJ185
            · have hf := tq_ifn ep39.symm cc
              refine tq_iconst (M := mX11_plan) (pc := 188) dX11_plan_188 tk_ki_2 ?_
              refine tq_goto (M := mX11_plan) (pc := 189) (tgt := 193) dX11_plan_189 (by decide) ?_
              refine tq_pick (L2 := [(3, .int o31.1)]) [3] rfl ?_
              cases hf
              exact HJ185
          · have hf := tq_ifn hf cc
            refine tq_iload (M := mX11_plan) (pc := 164) dX11_plan_164 rfl ?_
            refine tq_iload_n (M := mX11_plan) (pc := 166) dX11_plan_166 rfl ?_
            refine tq_icmp_ge (M := mX11_plan) (pc := 167) (tgt := 177) dX11_plan_167 (by decide) (fun cc => ?_) (fun cc => ?_)
            · have hf := tq_ifp hf cc
              refine tq_sipush (M := mX11_plan) (pc := 177) dX11_plan_177 tk_ks_1000 ?_
              refine tq_aload_n (M := mX11_plan) (pc := 180) dX11_plan_180 rfl ?_
              refine tq_iload_n (M := mX11_plan) (pc := 181) dX11_plan_181 rfl ?_
              obtain ⟨⟨⟩, eu41, hf⟩ := tq_be hf
              obtain ⟨fsu41, eu41⟩ := tq_is_s eu41
              obtain ⟨v40, ev40, hf⟩ := tq_be hf
              refine tq_calV (M := mX11_plan) (pc := 182) (S := [.int (1000 : Int32)]) tk_y_X11_isStreamed tk_v_X11_isStreamed tk_RX11_410 dX11_plan_182 [.int a1] rfl (S0 := _) rfl eu41 rfl (Nat.le_of_ble_eq_true rfl) (d1 := d - 1) (b1 := 0) (s1 := 0) (bc' := 0) (bs' := 0) (Q1 := fun r h9 => r = .inl (some (.int v40)) ∧ v4.2 = h9) (by omega) rfl rfl (w_X11_isStreamed (by omega) ev40 (fun _ _ q => q)) (fun E h9 q => nomatch (show (Sum.inr E : tq_R) = Sum.inl _ from q.1)) (fun r9 h9 q => ?_)
              obtain ⟨q1, rfl⟩ := q
              cases (show (Sum.inl r9 : tq_R) = Sum.inl (some (.int v40)) from q1)
              obtain ⟨p42, ep42, hf⟩ := tq_le hf
              have HJ185 : tq_W l mX11_plan d 0 0 Q 193 [(3, .int o31.1)] [.int p42, .int (1000 : Int32)] v4.2 := by
                refine tq_imul (M := mX11_plan) (pc := 193) dX11_plan_193 ?_
                refine tq_iload_n (M := mX11_plan) (pc := 194) dX11_plan_194 rfl ?_
                refine tq_iadd (M := mX11_plan) (pc := 195) dX11_plan_195 ?_
                refine tq_iret (M := mX11_plan) (pc := 196) dX11_plan_196 rfl ?_
                cases (Option.some.inj hf)
                exact hQ _ _ ⟨rfl, rfl⟩
              refine tq_if_eq (M := mX11_plan) (pc := 185) (tgt := 192) dX11_plan_185 (by decide) (fun cc => ?_) (fun cc => ?_)
              · have hf := tq_ifp ep42.symm cc
                refine tq_iconst (M := mX11_plan) (pc := 192) dX11_plan_192 tk_ki_0 ?_
                refine tq_pick (L2 := [(3, .int o31.1)]) [3] rfl ?_
                cases hf
                exact HJ185
              · have hf := tq_ifn ep42.symm cc
                refine tq_iconst (M := mX11_plan) (pc := 188) dX11_plan_188 tk_ki_2 ?_
                refine tq_goto (M := mX11_plan) (pc := 189) (tgt := 193) dX11_plan_189 (by decide) ?_
                refine tq_pick (L2 := [(3, .int o31.1)]) [3] rfl ?_
                cases hf
                exact HJ185
            · have hf := tq_ifn hf cc
              refine tq_sipush (M := mX11_plan) (pc := 170) dX11_plan_170 tk_ks_1000 ?_
              refine tq_iload (M := mX11_plan) (pc := 173) dX11_plan_173 rfl ?_
              refine tq_iadd (M := mX11_plan) (pc := 175) dX11_plan_175 ?_
              refine tq_iret (M := mX11_plan) (pc := 176) dX11_plan_176 rfl ?_
              cases (Option.some.inj hf)
              exact hQ _ _ ⟨rfl, rfl⟩
      refine tq_if_le (M := mX11_plan) (pc := 28) (tgt := 58) dX11_plan_28 (by decide) (fun cc => ?_) (fun cc => ?_)
      · have hf := tq_ifp ep12 cc
        refine tq_bipush (M := mX11_plan) (pc := 58) dX11_plan_58 tk_kb_8 ?_
        cases (Option.some.inj hf)
        exact HJ28
      · have hf := tq_ifn ep12 cc
        refine tq_aload_n (M := mX11_plan) (pc := 31) dX11_plan_31 rfl ?_
        obtain ⟨k8, ek8, hf⟩ := tq_be hf
        refine tq_getR (M := mX11_plan) (pc := 32) tk_c11 (by decide) dX11_plan_32 tk_RX11_71 rfl ek8 ?_
        refine tq_bipush (M := mX11_plan) (pc := 35) dX11_plan_35 tk_kb_15 ?_
        refine tq_iload_n (M := mX11_plan) (pc := 37) dX11_plan_37 rfl ?_
        refine tq_imul (M := mX11_plan) (pc := 38) dX11_plan_38 ?_
        obtain ⟨x9, ex9, hf⟩ := tq_be hf
        refine tq_ialdF (M := mX11_plan) (pc := 39) dX11_plan_39 ex9 ?_
        refine tq_iconst (M := mX11_plan) (pc := 40) dX11_plan_40 tk_ki_3 ?_
        refine tq_icmp_ne (M := mX11_plan) (pc := 41) (tgt := 58) dX11_plan_41 (by decide) (fun cc => ?_) (fun cc => ?_)
        · have hf := tq_ifn hf cc
          refine tq_bipush (M := mX11_plan) (pc := 58) dX11_plan_58 tk_kb_8 ?_
          cases (Option.some.inj hf)
          exact HJ28
        · have hf := tq_ifp hf cc
          refine tq_aload_n (M := mX11_plan) (pc := 44) dX11_plan_44 rfl ?_
          obtain ⟨k10, ek10, hf⟩ := tq_be hf
          refine tq_getR (M := mX11_plan) (pc := 45) tk_c11 (by decide) dX11_plan_45 tk_RX11_71 rfl ek10 ?_
          refine tq_bipush (M := mX11_plan) (pc := 48) dX11_plan_48 tk_kb_15 ?_
          refine tq_iload_n (M := mX11_plan) (pc := 50) dX11_plan_50 rfl ?_
          refine tq_imul (M := mX11_plan) (pc := 51) dX11_plan_51 ?_
          refine tq_iconst (M := mX11_plan) (pc := 52) dX11_plan_52 tk_ki_1 ?_
          refine tq_iadd (M := mX11_plan) (pc := 53) dX11_plan_53 ?_
          obtain ⟨x11, ex11, hf⟩ := tq_be hf
          refine tq_ialdF (M := mX11_plan) (pc := 54) dX11_plan_54 ex11 ?_
          refine tq_goto (M := mX11_plan) (pc := 55) (tgt := 60) dX11_plan_55 (by decide) ?_
          cases (Option.some.inj hf)
          exact HJ28
    · have hf := tq_ifn hf cc
      refine tq_iconst (M := mX11_plan) (pc := 20) dX11_plan_20 tk_ki_0 ?_
      refine tq_iret (M := mX11_plan) (pc := 21) dX11_plan_21 rfl ?_
      cases (Option.some.inj hf)
      exact hQ _ _ ⟨rfl, rfl⟩
  refine tq_if_eq (M := mX11_plan) (pc := 6) (tgt := 13) dX11_plan_6 (by decide) (fun cc => ?_) (fun cc => ?_)
  · have hf := tq_ifp ep3.symm cc
    refine tq_iconst (M := mX11_plan) (pc := 13) dX11_plan_13 tk_ki_1 ?_
    cases hf
    exact HJ6
  · have hf := tq_ifn ep3.symm cc
    refine tq_iconst (M := mX11_plan) (pc := 9) dX11_plan_9 tk_ki_0 ?_
    refine tq_goto (M := mX11_plan) (pc := 10) (tgt := 14) dX11_plan_10 (by decide) ?_
    cases hf
    exact HJ6
abbrev mX11_view : tq_M := (RX11, cX11_view, 2, (some .int), false, [], none)
def f_X11_view (t : Nat) (a1 : Int32) (h : tq_H) : Option (Int32 × tq_H) :=
  (tq_is h t 11).bind fun _ =>
  (f_X11_isPath t a1 h).bind fun v1 =>
  (if v1 = 0 then
    some (1 : Int32)
  else
    (tq_gi h t 11 45).bind fun x3 =>
    if x3 = (5 : Int32) then
      some (2 : Int32)
    else
      some (0 : Int32)).bind fun p4 =>
  (tq_is h t 11).bind fun _ =>
  (f_X11_refused t p4 h).bind fun v5 =>
  if v5.1 = 0 then
    (tq_gr v5.2 t 11 46).bind fun k7 =>
    (tq_gi v5.2 t 11 45).bind fun x8 =>
    (tq_si v5.2 k7 x8 a1).bind fun w9 =>
    (tq_gr w9 t 11 47).bind fun k10 =>
    (tq_gi w9 t 11 45).bind fun x11 =>
    (tq_si w9 k10 x11 (0 : Int32)).bind fun w12 =>
    (tq_is w12 t 11).bind fun _ =>
    (f_X11_all t w12).bind fun v13 =>
    (tq_is w12 t 11).bind fun _ =>
    (f_X11_findAll t v13 w12).bind fun v15 =>
    (tq_gr v15 t 11 48).bind fun k17 =>
    (tq_gi v15 t 11 45).bind fun x18 =>
    (tq_gr v15 t 11 29).bind fun k19 =>
    (tq_aj v15 k19 ((60 : Int32) * a1)).bind fun x20 =>
    (tq_sl v15 k17 x18 x20).bind fun w21 =>
    (tq_gi w21 t 11 45).bind fun x22 =>
    (tq_pf w21 t 11 45 (.int ((x22 + (1 : Int32))))).bind fun w23 =>
    (tq_gi w23 t 11 45).bind fun x24 =>
    some ((x24 - (1 : Int32)), w23)
  else
    some ((0 : Int32), v5.2)
set_option maxHeartbeats 4000000 in
set_option maxRecDepth 20000 in
theorem w_X11_view {l : Launch} {d : Nat} (hd9 : 5 ≤ d) {t : Nat} {a1 : Int32} {h : tq_H} {o : Int32 × tq_H} {Q : tq_R → tq_H → Prop} (hf : f_X11_view t a1 h = some o) (hQ : ∀ r h9, r = .inl (some (.int o.1)) ∧ o.2 = h9 → Q r h9) : tq_C l yX11_view cX11_view 2 (some .int) d 0 0 [.ref t, .int a1] h Q := by
  refine tq_body (y := yX11_view) false (by decide +kernel) (fun z => by cases z) (Nat.le_of_ble_eq_true rfl) ?_
  show tq_W l mX11_view d 0 0 Q 0 [(0, .ref t), (1, .int a1)] [] h
  refine tq_aload_n (M := mX11_view) (pc := 0) dX11_view_0 rfl ?_
  refine tq_aload_n (M := mX11_view) (pc := 1) dX11_view_1 rfl ?_
  refine tq_iload_n (M := mX11_view) (pc := 2) dX11_view_2 rfl ?_
  obtain ⟨⟨⟩, eu2, hf⟩ := tq_be hf
  obtain ⟨fsu2, eu2⟩ := tq_is_s eu2
  obtain ⟨v1, ev1, hf⟩ := tq_be hf
  refine tq_calV (M := mX11_view) (pc := 3) (S := [.ref t]) tk_y_X11_isPath tk_v_X11_isPath tk_RX11_305 dX11_view_3 [.int a1] rfl (S0 := _) rfl eu2 rfl (Nat.le_of_ble_eq_true rfl) (d1 := d - 1) (b1 := 0) (s1 := 0) (bc' := 0) (bs' := 0) (Q1 := fun r h9 => r = .inl (some (.int v1)) ∧ h = h9) (by omega) rfl rfl (w_X11_isPath (by omega) ev1 (fun _ _ q => q)) (fun E h9 q => nomatch (show (Sum.inr E : tq_R) = Sum.inl _ from q.1)) (fun r9 h9 q => ?_)
  obtain ⟨q1, rfl⟩ := q
  cases (show (Sum.inl r9 : tq_R) = Sum.inl (some (.int v1)) from q1)
  obtain ⟨p4, ep4, hf⟩ := tq_be hf
  have HJ6 : tq_W l mX11_view d 0 0 Q 26 [(0, .ref t), (1, .int a1)] [.int p4, .ref t] h := by
    obtain ⟨⟨⟩, eu6, hf⟩ := tq_be hf
    obtain ⟨fsu6, eu6⟩ := tq_is_s eu6
    obtain ⟨v5, ev5, hf⟩ := tq_be hf
    refine tq_calV (M := mX11_view) (pc := 26) (S := []) tk_y_X11_refused tk_v_X11_refused tk_RX11_204 dX11_view_26 [.int p4] rfl (S0 := _) rfl eu6 rfl (Nat.le_of_ble_eq_true rfl) (d1 := d - 1) (b1 := 0) (s1 := 0) (bc' := 0) (bs' := 0) (Q1 := fun r h9 => r = .inl (some (.int v5.1)) ∧ v5.2 = h9) (by omega) rfl rfl (w_X11_refused (by omega) ev5 (fun _ _ q => q)) (fun E h9 q => nomatch (show (Sum.inr E : tq_R) = Sum.inl _ from q.1)) (fun r9 h9 q => ?_)
    obtain ⟨q1, rfl⟩ := q
    cases (show (Sum.inl r9 : tq_R) = Sum.inl (some (.int v5.1)) from q1)
    refine tq_if_eq (M := mX11_view) (pc := 29) (tgt := 34) dX11_view_29 (by decide) (fun cc => ?_) (fun cc => ?_)
    · have hf := tq_ifp hf cc
      refine tq_aload_n (M := mX11_view) (pc := 34) dX11_view_34 rfl ?_
      obtain ⟨k7, ek7, hf⟩ := tq_be hf
      refine tq_getR (M := mX11_view) (pc := 35) tk_c11 (by decide) dX11_view_35 tk_RX11_117 rfl ek7 ?_
      refine tq_aload_n (M := mX11_view) (pc := 38) dX11_view_38 rfl ?_
      obtain ⟨x8, ex8, hf⟩ := tq_be hf
      refine tq_getI (M := mX11_view) (pc := 39) tk_c11 (by decide) dX11_view_39 tk_RX11_299 rfl ex8 ?_
      refine tq_iload_n (M := mX11_view) (pc := 42) dX11_view_42 rfl ?_
      obtain ⟨w9, ew9, hf⟩ := tq_be hf
      refine tq_iastF (M := mX11_view) (pc := 43) dX11_view_43 ew9 ?_
      refine tq_aload_n (M := mX11_view) (pc := 44) dX11_view_44 rfl ?_
      obtain ⟨k10, ek10, hf⟩ := tq_be hf
      refine tq_getR (M := mX11_view) (pc := 45) tk_c11 (by decide) dX11_view_45 tk_RX11_120 rfl ek10 ?_
      refine tq_aload_n (M := mX11_view) (pc := 48) dX11_view_48 rfl ?_
      obtain ⟨x11, ex11, hf⟩ := tq_be hf
      refine tq_getI (M := mX11_view) (pc := 49) tk_c11 (by decide) dX11_view_49 tk_RX11_299 rfl ex11 ?_
      refine tq_iconst (M := mX11_view) (pc := 52) dX11_view_52 tk_ki_0 ?_
      obtain ⟨w12, ew12, hf⟩ := tq_be hf
      refine tq_iastF (M := mX11_view) (pc := 53) dX11_view_53 ew12 ?_
      refine tq_aload_n (M := mX11_view) (pc := 54) dX11_view_54 rfl ?_
      refine tq_aload_n (M := mX11_view) (pc := 55) dX11_view_55 rfl ?_
      obtain ⟨⟨⟩, eu14, hf⟩ := tq_be hf
      obtain ⟨fsu14, eu14⟩ := tq_is_s eu14
      obtain ⟨v13, ev13, hf⟩ := tq_be hf
      refine tq_calV (M := mX11_view) (pc := 56) (S := [.ref t]) tk_y_X11_all tk_v_X11_all tk_RX11_228 dX11_view_56 [] rfl (S0 := _) rfl eu14 rfl (Nat.le_of_ble_eq_true rfl) (d1 := d - 1) (b1 := 0) (s1 := 0) (bc' := 0) (bs' := 0) (Q1 := fun r h9 => r = .inl (some (.long v13)) ∧ w12 = h9) (by omega) rfl rfl (w_X11_all (by omega) ev13 (fun _ _ q => q)) (fun E h9 q => nomatch (show (Sum.inr E : tq_R) = Sum.inl _ from q.1)) (fun r9 h9 q => ?_)
      obtain ⟨q1, rfl⟩ := q
      cases (show (Sum.inl r9 : tq_R) = Sum.inl (some (.long v13)) from q1)
      obtain ⟨⟨⟩, eu16, hf⟩ := tq_be hf
      obtain ⟨fsu16, eu16⟩ := tq_is_s eu16
      obtain ⟨v15, ev15, hf⟩ := tq_be hf
      refine tq_calV (M := mX11_view) (pc := 59) (S := []) tk_y_X11_findAll tk_v_X11_findAll tk_RX11_348 dX11_view_59 [.long v13] rfl (S0 := _) rfl eu16 rfl (Nat.le_of_ble_eq_true rfl) (d1 := d - 1) (b1 := 0) (s1 := 0) (bc' := 0) (bs' := 0) (Q1 := fun r h9 => r = .inl none ∧ v15 = h9) (by omega) rfl rfl (w_X11_findAll (by omega) ev15 (fun _ _ q => q)) (fun E h9 q => nomatch (show (Sum.inr E : tq_R) = Sum.inl _ from q.1)) (fun r9 h9 q => ?_)
      obtain ⟨q1, rfl⟩ := q
      cases (show (Sum.inl r9 : tq_R) = Sum.inl (none) from q1)
      refine tq_aload_n (M := mX11_view) (pc := 62) dX11_view_62 rfl ?_
      obtain ⟨k17, ek17, hf⟩ := tq_be hf
      refine tq_getR (M := mX11_view) (pc := 63) tk_c11 (by decide) dX11_view_63 tk_RX11_123 rfl ek17 ?_
      refine tq_aload_n (M := mX11_view) (pc := 66) dX11_view_66 rfl ?_
      obtain ⟨x18, ex18, hf⟩ := tq_be hf
      refine tq_getI (M := mX11_view) (pc := 67) tk_c11 (by decide) dX11_view_67 tk_RX11_299 rfl ex18 ?_
      refine tq_aload_n (M := mX11_view) (pc := 70) dX11_view_70 rfl ?_
      obtain ⟨k19, ek19, hf⟩ := tq_be hf
      refine tq_getR (M := mX11_view) (pc := 71) tk_c11 (by decide) dX11_view_71 tk_RX11_80 rfl ek19 ?_
      refine tq_bipush (M := mX11_view) (pc := 74) dX11_view_74 tk_kb_60 ?_
      refine tq_iload_n (M := mX11_view) (pc := 76) dX11_view_76 rfl ?_
      refine tq_imul (M := mX11_view) (pc := 77) dX11_view_77 ?_
      obtain ⟨x20, ex20, hf⟩ := tq_be hf
      refine tq_laldF (M := mX11_view) (pc := 78) dX11_view_78 ex20 ?_
      obtain ⟨w21, ew21, hf⟩ := tq_be hf
      refine tq_lastF (M := mX11_view) (pc := 79) dX11_view_79 ew21 ?_
      refine tq_aload_n (M := mX11_view) (pc := 80) dX11_view_80 rfl ?_
      refine tq_dup (M := mX11_view) (pc := 81) dX11_view_81 rfl ?_
      obtain ⟨x22, ex22, hf⟩ := tq_be hf
      refine tq_getI (M := mX11_view) (pc := 82) tk_c11 (by decide) dX11_view_82 tk_RX11_299 rfl ex22 ?_
      refine tq_iconst (M := mX11_view) (pc := 85) dX11_view_85 tk_ki_1 ?_
      refine tq_iadd (M := mX11_view) (pc := 86) dX11_view_86 ?_
      obtain ⟨w23, ew23, hf⟩ := tq_be hf
      refine tq_putv (M := mX11_view) (pc := 87) tk_c11 (by decide) dX11_view_87 tk_RX11_299 rfl (Or.inl rfl) ew23 (tq_nI _) ?_
      refine tq_aload_n (M := mX11_view) (pc := 90) dX11_view_90 rfl ?_
      obtain ⟨x24, ex24, hf⟩ := tq_be hf
      refine tq_getI (M := mX11_view) (pc := 91) tk_c11 (by decide) dX11_view_91 tk_RX11_299 rfl ex24 ?_
      refine tq_iconst (M := mX11_view) (pc := 94) dX11_view_94 tk_ki_1 ?_
      refine tq_isub (M := mX11_view) (pc := 95) dX11_view_95 ?_
      refine tq_iret (M := mX11_view) (pc := 96) dX11_view_96 rfl ?_
      cases (Option.some.inj hf)
      exact hQ _ _ ⟨rfl, rfl⟩
    · have hf := tq_ifn hf cc
      refine tq_iconst (M := mX11_view) (pc := 32) dX11_view_32 tk_ki_0 ?_
      refine tq_iret (M := mX11_view) (pc := 33) dX11_view_33 rfl ?_
      cases (Option.some.inj hf)
      exact hQ _ _ ⟨rfl, rfl⟩
  refine tq_if_ne (M := mX11_view) (pc := 6) (tgt := 13) dX11_view_6 (by decide) (fun cc => ?_) (fun cc => ?_)
  · have hf := tq_ifn ep4 cc
    refine tq_aload_n (M := mX11_view) (pc := 13) dX11_view_13 rfl ?_
    obtain ⟨x3, ex3, hf⟩ := tq_be hf
    refine tq_getI (M := mX11_view) (pc := 14) tk_c11 (by decide) dX11_view_14 tk_RX11_299 rfl ex3 ?_
    refine tq_iconst (M := mX11_view) (pc := 17) dX11_view_17 tk_ki_5 ?_
    refine tq_icmp_ne (M := mX11_view) (pc := 18) (tgt := 25) dX11_view_18 (by decide) (fun cc => ?_) (fun cc => ?_)
    · have hf := tq_ifn hf cc
      refine tq_iconst (M := mX11_view) (pc := 25) dX11_view_25 tk_ki_0 ?_
      cases (Option.some.inj hf)
      exact HJ6
    · have hf := tq_ifp hf cc
      refine tq_iconst (M := mX11_view) (pc := 21) dX11_view_21 tk_ki_2 ?_
      refine tq_goto (M := mX11_view) (pc := 22) (tgt := 26) dX11_view_22 (by decide) ?_
      cases (Option.some.inj hf)
      exact HJ6
  · have hf := tq_ifp ep4 cc
    refine tq_iconst (M := mX11_view) (pc := 9) dX11_view_9 tk_ki_1 ?_
    refine tq_goto (M := mX11_view) (pc := 10) (tgt := 26) dX11_view_10 (by decide) ?_
    cases (Option.some.inj hf)
    exact HJ6
abbrev mX11_viewed : tq_M := (RX11, cX11_viewed, 4, (some .int), false, [], none)
def f_X11_viewed (t : Nat) (a1 : Int32) (a2 : Int32) (h : tq_H) : Option (Int32 × tq_H) :=
  (tq_gi h t 11 45).bind fun x1 =>
  (f_X11_in a1 (0 : Int32) (x1 - (1 : Int32)) h).bind fun v2 =>
  tq_let (if v2 = 0 then (0 : Int32) else (if a2 < 0 then (0 : Int32) else (1 : Int32))) fun p3 =>
  tq_let (if p3 = 0 then (1 : Int32) else (0 : Int32)) fun p4 =>
  (tq_is h t 11).bind fun _ =>
  (f_X11_refused t p4 h).bind fun v5 =>
  (if v5.1 = 0 then
    (tq_gr v5.2 t 11 48).bind fun k7 =>
    (tq_aj v5.2 k7 a1).bind fun x8 =>
    (tq_is v5.2 t 11).bind fun _ =>
    (f_X11_pick t x8 a2 v5.2).bind fun v9 =>
    some v9
  else
    some (0 : Int32)).bind fun p11 =>
  some (p11, v5.2)
set_option maxHeartbeats 4000000 in
set_option maxRecDepth 20000 in
theorem w_X11_viewed {l : Launch} {d : Nat} (hd9 : 1 ≤ d) {t : Nat} {a1 : Int32} {a2 : Int32} {h : tq_H} {o : Int32 × tq_H} {Q : tq_R → tq_H → Prop} (hf : f_X11_viewed t a1 a2 h = some o) (hQ : ∀ r h9, r = .inl (some (.int o.1)) ∧ o.2 = h9 → Q r h9) : tq_C l yX11_viewed cX11_viewed 4 (some .int) d 0 0 [.ref t, .int a1, .int a2] h Q := by
  refine tq_body (y := yX11_viewed) false (by decide +kernel) (fun z => by cases z) (Nat.le_of_ble_eq_true rfl) ?_
  show tq_W l mX11_viewed d 0 0 Q 0 [(0, .ref t), (1, .int a1), (2, .int a2)] [] h
  refine tq_iload_n (M := mX11_viewed) (pc := 0) dX11_viewed_0 rfl ?_
  refine tq_iconst (M := mX11_viewed) (pc := 1) dX11_viewed_1 tk_ki_0 ?_
  refine tq_aload_n (M := mX11_viewed) (pc := 2) dX11_viewed_2 rfl ?_
  obtain ⟨x1, ex1, hf⟩ := tq_be hf
  refine tq_getI (M := mX11_viewed) (pc := 3) tk_c11 (by decide) dX11_viewed_3 tk_RX11_299 rfl ex1 ?_
  refine tq_iconst (M := mX11_viewed) (pc := 6) dX11_viewed_6 tk_ki_1 ?_
  refine tq_isub (M := mX11_viewed) (pc := 7) dX11_viewed_7 ?_
  obtain ⟨v2, ev2, hf⟩ := tq_be hf
  refine tq_calS (M := mX11_viewed) (pc := 8) (S := []) tk_y_X11_in tk_s_X11_in tk_RX11_169 dX11_viewed_8 [.int a1, .int (0 : Int32), .int ((x1 - (1 : Int32)))] rfl (Nat.le_of_ble_eq_true rfl) (d1 := d - 1) (b1 := 0) (s1 := 0) (bc' := 0) (bs' := 0) (Q1 := fun r h9 => r = .inl (some (.int v2)) ∧ h = h9) (by omega) rfl rfl (w_X11_in (by omega) ev2 (fun _ _ q => q)) (fun E h9 q => nomatch (show (Sum.inr E : tq_R) = Sum.inl _ from q.1)) (fun r9 h9 q => ?_)
  obtain ⟨q1, rfl⟩ := q
  cases (show (Sum.inl r9 : tq_R) = Sum.inl (some (.int v2)) from q1)
  obtain ⟨p3, ep3, hf⟩ := tq_le hf
  have HJ11 : tq_W l mX11_viewed d 0 0 Q 23 [(0, .ref t), (1, .int a1), (2, .int a2)] [.int p3] h := by
    refine tq_istore_n (M := mX11_viewed) (pc := 23) rfl dX11_viewed_23 (L2 := [(3, .int p3), (0, .ref t), (1, .int a1), (2, .int a2)]) (by decide) rfl ?_
    refine tq_aload_n (M := mX11_viewed) (pc := 24) dX11_viewed_24 rfl ?_
    refine tq_iload_n (M := mX11_viewed) (pc := 25) dX11_viewed_25 rfl ?_
    obtain ⟨p4, ep4, hf⟩ := tq_le hf
    have HJ26 : tq_W l mX11_viewed d 0 0 Q 34 [(0, .ref t), (1, .int a1), (2, .int a2)] [.int p4, .ref t] h := by
      obtain ⟨⟨⟩, eu6, hf⟩ := tq_be hf
      obtain ⟨fsu6, eu6⟩ := tq_is_s eu6
      obtain ⟨v5, ev5, hf⟩ := tq_be hf
      refine tq_calV (M := mX11_viewed) (pc := 34) (S := []) tk_y_X11_refused tk_v_X11_refused tk_RX11_204 dX11_viewed_34 [.int p4] rfl (S0 := _) rfl eu6 rfl (Nat.le_of_ble_eq_true rfl) (d1 := d - 1) (b1 := 0) (s1 := 0) (bc' := 0) (bs' := 0) (Q1 := fun r h9 => r = .inl (some (.int v5.1)) ∧ v5.2 = h9) (by omega) rfl rfl (w_X11_refused (by omega) ev5 (fun _ _ q => q)) (fun E h9 q => nomatch (show (Sum.inr E : tq_R) = Sum.inl _ from q.1)) (fun r9 h9 q => ?_)
      obtain ⟨q1, rfl⟩ := q
      cases (show (Sum.inl r9 : tq_R) = Sum.inl (some (.int v5.1)) from q1)
      obtain ⟨p11, ep11, hf⟩ := tq_be hf
      have HJ37 : tq_W l mX11_viewed d 0 0 Q 55 [] [.int p11] v5.2 := by
        refine tq_iret (M := mX11_viewed) (pc := 55) dX11_viewed_55 rfl ?_
        cases (Option.some.inj hf)
        exact hQ _ _ ⟨rfl, rfl⟩
      refine tq_if_eq (M := mX11_viewed) (pc := 37) (tgt := 44) dX11_viewed_37 (by decide) (fun cc => ?_) (fun cc => ?_)
      · have hf := tq_ifp ep11 cc
        refine tq_aload_n (M := mX11_viewed) (pc := 44) dX11_viewed_44 rfl ?_
        refine tq_aload_n (M := mX11_viewed) (pc := 45) dX11_viewed_45 rfl ?_
        obtain ⟨k7, ek7, hf⟩ := tq_be hf
        refine tq_getR (M := mX11_viewed) (pc := 46) tk_c11 (by decide) dX11_viewed_46 tk_RX11_123 rfl ek7 ?_
        refine tq_iload_n (M := mX11_viewed) (pc := 49) dX11_viewed_49 rfl ?_
        obtain ⟨x8, ex8, hf⟩ := tq_be hf
        refine tq_laldF (M := mX11_viewed) (pc := 50) dX11_viewed_50 ex8 ?_
        refine tq_iload_n (M := mX11_viewed) (pc := 51) dX11_viewed_51 rfl ?_
        obtain ⟨⟨⟩, eu10, hf⟩ := tq_be hf
        obtain ⟨fsu10, eu10⟩ := tq_is_s eu10
        obtain ⟨v9, ev9, hf⟩ := tq_be hf
        refine tq_calV (M := mX11_viewed) (pc := 52) (S := []) tk_y_X11_pick tk_v_X11_pick tk_RX11_372 dX11_viewed_52 [.long x8, .int a2] rfl (S0 := _) rfl eu10 rfl (Nat.le_of_ble_eq_true rfl) (d1 := d - 1) (b1 := 0) (s1 := 0) (bc' := 0) (bs' := 0) (Q1 := fun r h9 => r = .inl (some (.int v9)) ∧ v5.2 = h9) (by omega) rfl rfl (w_X11_pick (by omega) ev9 (fun _ _ q => q)) (fun E h9 q => nomatch (show (Sum.inr E : tq_R) = Sum.inl _ from q.1)) (fun r9 h9 q => ?_)
        obtain ⟨q1, rfl⟩ := q
        cases (show (Sum.inl r9 : tq_R) = Sum.inl (some (.int v9)) from q1)
        refine tq_pick (L2 := []) [] rfl ?_
        cases (Option.some.inj hf)
        exact HJ37
      · have hf := tq_ifn ep11 cc
        refine tq_iconst (M := mX11_viewed) (pc := 40) dX11_viewed_40 tk_ki_0 ?_
        refine tq_goto (M := mX11_viewed) (pc := 41) (tgt := 55) dX11_viewed_41 (by decide) ?_
        refine tq_pick (L2 := []) [] rfl ?_
        cases (Option.some.inj hf)
        exact HJ37
    refine tq_if_eq (M := mX11_viewed) (pc := 26) (tgt := 33) dX11_viewed_26 (by decide) (fun cc => ?_) (fun cc => ?_)
    · have hf := tq_ifp ep4.symm cc
      refine tq_iconst (M := mX11_viewed) (pc := 33) dX11_viewed_33 tk_ki_1 ?_
      refine tq_pick (L2 := [(0, .ref t), (1, .int a1), (2, .int a2)]) [1, 2, 3] rfl ?_
      cases hf
      exact HJ26
    · have hf := tq_ifn ep4.symm cc
      refine tq_iconst (M := mX11_viewed) (pc := 29) dX11_viewed_29 tk_ki_0 ?_
      refine tq_goto (M := mX11_viewed) (pc := 30) (tgt := 34) dX11_viewed_30 (by decide) ?_
      refine tq_pick (L2 := [(0, .ref t), (1, .int a1), (2, .int a2)]) [1, 2, 3] rfl ?_
      cases hf
      exact HJ26
  refine tq_if_eq (M := mX11_viewed) (pc := 11) (tgt := 22) dX11_viewed_11 (by decide) (fun cc => ?_) (fun cc => ?_)
  · have hf := tq_ifp ep3.symm cc
    refine tq_iconst (M := mX11_viewed) (pc := 22) dX11_viewed_22 tk_ki_0 ?_
    cases hf
    exact HJ11
  · have hf := tq_ifn ep3.symm cc
    refine tq_iload_n (M := mX11_viewed) (pc := 14) dX11_viewed_14 rfl ?_
    refine tq_if_lt (M := mX11_viewed) (pc := 15) (tgt := 22) dX11_viewed_15 (by decide) (fun cc => ?_) (fun cc => ?_)
    · have hf := tq_ifp hf cc
      refine tq_iconst (M := mX11_viewed) (pc := 22) dX11_viewed_22 tk_ki_0 ?_
      cases hf
      exact HJ11
    · have hf := tq_ifn hf cc
      refine tq_iconst (M := mX11_viewed) (pc := 18) dX11_viewed_18 tk_ki_1 ?_
      refine tq_goto (M := mX11_viewed) (pc := 19) (tgt := 23) dX11_viewed_19 (by decide) ?_
      cases hf
      exact HJ11
abbrev mX11_changed : tq_M := (RX11, cX11_changed, 2, (some .int), false, [], none)
def f_X11_changed (t : Nat) (a1 : Int32) (h : tq_H) : Option (Int32 × tq_H) :=
  (tq_gi h t 11 45).bind fun x1 =>
  (f_X11_in a1 (0 : Int32) (x1 - (1 : Int32)) h).bind fun v2 =>
  tq_let (if v2 = 0 then (1 : Int32) else (0 : Int32)) fun p3 =>
  (tq_is h t 11).bind fun _ =>
  (f_X11_refused t p3 h).bind fun v4 =>
  (if v4.1 = 0 then
    (tq_gr v4.2 t 11 47).bind fun k6 =>
    (tq_ai v4.2 k6 a1).bind fun x7 =>
    some x7
  else
    some (0 : Int32)).bind fun p8 =>
  some (p8, v4.2)
set_option maxHeartbeats 4000000 in
set_option maxRecDepth 20000 in
theorem w_X11_changed {l : Launch} {d : Nat} (hd9 : 1 ≤ d) {t : Nat} {a1 : Int32} {h : tq_H} {o : Int32 × tq_H} {Q : tq_R → tq_H → Prop} (hf : f_X11_changed t a1 h = some o) (hQ : ∀ r h9, r = .inl (some (.int o.1)) ∧ o.2 = h9 → Q r h9) : tq_C l yX11_changed cX11_changed 2 (some .int) d 0 0 [.ref t, .int a1] h Q := by
  refine tq_body (y := yX11_changed) false (by decide +kernel) (fun z => by cases z) (Nat.le_of_ble_eq_true rfl) ?_
  show tq_W l mX11_changed d 0 0 Q 0 [(0, .ref t), (1, .int a1)] [] h
  refine tq_aload_n (M := mX11_changed) (pc := 0) dX11_changed_0 rfl ?_
  refine tq_iload_n (M := mX11_changed) (pc := 1) dX11_changed_1 rfl ?_
  refine tq_iconst (M := mX11_changed) (pc := 2) dX11_changed_2 tk_ki_0 ?_
  refine tq_aload_n (M := mX11_changed) (pc := 3) dX11_changed_3 rfl ?_
  obtain ⟨x1, ex1, hf⟩ := tq_be hf
  refine tq_getI (M := mX11_changed) (pc := 4) tk_c11 (by decide) dX11_changed_4 tk_RX11_299 rfl ex1 ?_
  refine tq_iconst (M := mX11_changed) (pc := 7) dX11_changed_7 tk_ki_1 ?_
  refine tq_isub (M := mX11_changed) (pc := 8) dX11_changed_8 ?_
  obtain ⟨v2, ev2, hf⟩ := tq_be hf
  refine tq_calS (M := mX11_changed) (pc := 9) (S := [.ref t]) tk_y_X11_in tk_s_X11_in tk_RX11_169 dX11_changed_9 [.int a1, .int (0 : Int32), .int ((x1 - (1 : Int32)))] rfl (Nat.le_of_ble_eq_true rfl) (d1 := d - 1) (b1 := 0) (s1 := 0) (bc' := 0) (bs' := 0) (Q1 := fun r h9 => r = .inl (some (.int v2)) ∧ h = h9) (by omega) rfl rfl (w_X11_in (by omega) ev2 (fun _ _ q => q)) (fun E h9 q => nomatch (show (Sum.inr E : tq_R) = Sum.inl _ from q.1)) (fun r9 h9 q => ?_)
  obtain ⟨q1, rfl⟩ := q
  cases (show (Sum.inl r9 : tq_R) = Sum.inl (some (.int v2)) from q1)
  obtain ⟨p3, ep3, hf⟩ := tq_le hf
  have HJ12 : tq_W l mX11_changed d 0 0 Q 20 [(0, .ref t), (1, .int a1)] [.int p3, .ref t] h := by
    obtain ⟨⟨⟩, eu5, hf⟩ := tq_be hf
    obtain ⟨fsu5, eu5⟩ := tq_is_s eu5
    obtain ⟨v4, ev4, hf⟩ := tq_be hf
    refine tq_calV (M := mX11_changed) (pc := 20) (S := []) tk_y_X11_refused tk_v_X11_refused tk_RX11_204 dX11_changed_20 [.int p3] rfl (S0 := _) rfl eu5 rfl (Nat.le_of_ble_eq_true rfl) (d1 := d - 1) (b1 := 0) (s1 := 0) (bc' := 0) (bs' := 0) (Q1 := fun r h9 => r = .inl (some (.int v4.1)) ∧ v4.2 = h9) (by omega) rfl rfl (w_X11_refused (by omega) ev4 (fun _ _ q => q)) (fun E h9 q => nomatch (show (Sum.inr E : tq_R) = Sum.inl _ from q.1)) (fun r9 h9 q => ?_)
    obtain ⟨q1, rfl⟩ := q
    cases (show (Sum.inl r9 : tq_R) = Sum.inl (some (.int v4.1)) from q1)
    obtain ⟨p8, ep8, hf⟩ := tq_be hf
    have HJ23 : tq_W l mX11_changed d 0 0 Q 36 [] [.int p8] v4.2 := by
      refine tq_iret (M := mX11_changed) (pc := 36) dX11_changed_36 rfl ?_
      cases (Option.some.inj hf)
      exact hQ _ _ ⟨rfl, rfl⟩
    refine tq_if_eq (M := mX11_changed) (pc := 23) (tgt := 30) dX11_changed_23 (by decide) (fun cc => ?_) (fun cc => ?_)
    · have hf := tq_ifp ep8 cc
      refine tq_aload_n (M := mX11_changed) (pc := 30) dX11_changed_30 rfl ?_
      obtain ⟨k6, ek6, hf⟩ := tq_be hf
      refine tq_getR (M := mX11_changed) (pc := 31) tk_c11 (by decide) dX11_changed_31 tk_RX11_120 rfl ek6 ?_
      refine tq_iload_n (M := mX11_changed) (pc := 34) dX11_changed_34 rfl ?_
      obtain ⟨x7, ex7, hf⟩ := tq_be hf
      refine tq_ialdF (M := mX11_changed) (pc := 35) dX11_changed_35 ex7 ?_
      refine tq_pick (L2 := []) [] rfl ?_
      cases (Option.some.inj hf)
      exact HJ23
    · have hf := tq_ifn ep8 cc
      refine tq_iconst (M := mX11_changed) (pc := 26) dX11_changed_26 tk_ki_0 ?_
      refine tq_goto (M := mX11_changed) (pc := 27) (tgt := 36) dX11_changed_27 (by decide) ?_
      refine tq_pick (L2 := []) [] rfl ?_
      cases (Option.some.inj hf)
      exact HJ23
  refine tq_if_eq (M := mX11_changed) (pc := 12) (tgt := 19) dX11_changed_12 (by decide) (fun cc => ?_) (fun cc => ?_)
  · have hf := tq_ifp ep3.symm cc
    refine tq_iconst (M := mX11_changed) (pc := 19) dX11_changed_19 tk_ki_1 ?_
    cases hf
    exact HJ12
  · have hf := tq_ifn ep3.symm cc
    refine tq_iconst (M := mX11_changed) (pc := 15) dX11_changed_15 tk_ki_0 ?_
    refine tq_goto (M := mX11_changed) (pc := 16) (tgt := 20) dX11_changed_16 (by decide) ?_
    cases hf
    exact HJ12
abbrev mX11_textsBelow : tq_M := (RX11, cX11_textsBelow, 6, (some .int), false, [], none)
def f_X11_textsBelow_b5 (i0 : Nat) (i1 : Int32) (i2 : Int32) (hh : tq_H) (s : Int32 × Int32) : Option ((Int32 × Int32) ⊕ (Int32)) := match s with
  | (y3, y4) =>
    (tq_gi hh i0 11 11).bind fun x1 =>
    if y4 ≥ x1 then
      some (.inr y3)
    else
      (tq_gr hh i0 11 12).bind fun k2 =>
      (tq_ai hh k2 y4).bind fun x3 =>
      (tq_gr hh i0 11 2).bind fun k4 =>
      (tq_ai hh k4 x3).bind fun x5 =>
      (if x5 = (1 : Int32) then
        (tq_is hh i0 11).bind fun _ =>
        (f_X11_isBelow i0 x3 i1 hh).bind fun v6 =>
        if v6 = 0 then
          some (0 : Int32)
        else
          if i2 = (-1 : Int32) then
            some (1 : Int32)
          else
            (tq_gr hh i0 11 4).bind fun k8 =>
            (tq_ai hh k8 x3).bind fun x9 =>
            if x9 = i2 then
              some (1 : Int32)
            else
              some (0 : Int32)
      else
        some (0 : Int32)).bind fun p10 =>
      tq_let ((y3 + p10)) fun x11 =>
      tq_let (y4 + (1 : Int32)) fun x12 =>
      some (.inl (x11, x12))
def f_X11_textsBelow (t : Nat) (a1 : Int32) (a2 : Int32) (h : tq_H) : Option (Int32) :=
  (tq_loop (f_X11_textsBelow_b5 t a1 a2 h) tq_N ((0 : Int32), (0 : Int32))).bind fun o13 =>
  some o13
set_option maxHeartbeats 4000000 in
theorem l_X11_textsBelow_5 {l : Launch} {d : Nat} {Q : tq_R → tq_H → Prop} (hd9 : 1 ≤ d) (i0 : Nat) (i1 : Int32) (i2 : Int32) (hh : tq_H) : ∀ (n : Nat) (y3 : Int32) (y4 : Int32) (o : Int32), tq_loop (f_X11_textsBelow_b5 i0 i1 i2 hh) n (y3, y4) = some o → tq_W l mX11_textsBelow d 0 0 Q 74 [(3, .int o)] [] hh → tq_W l mX11_textsBelow d 0 0 Q 5 [(0, .ref i0), (1, .int i1), (2, .int i2), (3, .int y3), (4, .int y4)] [] hh := by
  intro n
  induction n with
  | zero => intro y3 y4 o hl; cases hl
  | succ n ih =>
    intro y3 y4 o hl hk
    obtain ⟨oo, hf, ho⟩ := tq_loop_s hl
    refine tq_iload (M := mX11_textsBelow) (pc := 5) dX11_textsBelow_5 rfl ?_
    refine tq_aload_n (M := mX11_textsBelow) (pc := 7) dX11_textsBelow_7 rfl ?_
    obtain ⟨x1, ex1, hf⟩ := tq_be hf
    refine tq_getI (M := mX11_textsBelow) (pc := 8) tk_c11 (by decide) dX11_textsBelow_8 tk_RX11_173 rfl ex1 ?_
    refine tq_icmp_ge (M := mX11_textsBelow) (pc := 11) (tgt := 74) dX11_textsBelow_11 (by decide) (fun cc => ?_) (fun cc => ?_)
    · have hf := tq_ifp hf cc
      refine tq_pick (L2 := [(3, .int y3)]) [3] rfl ?_
      cases (Option.some.inj hf)
      cases (tq_lx ho)
      exact hk
    · have hf := tq_ifn hf cc
      refine tq_aload_n (M := mX11_textsBelow) (pc := 14) dX11_textsBelow_14 rfl ?_
      obtain ⟨k2, ek2, hf⟩ := tq_be hf
      refine tq_getR (M := mX11_textsBelow) (pc := 15) tk_c11 (by decide) dX11_textsBelow_15 tk_RX11_35 rfl ek2 ?_
      refine tq_iload (M := mX11_textsBelow) (pc := 18) dX11_textsBelow_18 rfl ?_
      obtain ⟨x3, ex3, hf⟩ := tq_be hf
      refine tq_ialdF (M := mX11_textsBelow) (pc := 20) dX11_textsBelow_20 ex3 ?_
      refine tq_istore (M := mX11_textsBelow) (pc := 21) dX11_textsBelow_21 (L2 := [(5, .int x3), (0, .ref i0), (1, .int i1), (2, .int i2), (3, .int y3), (4, .int y4)]) (by decide) rfl ?_
      refine tq_iload_n (M := mX11_textsBelow) (pc := 23) dX11_textsBelow_23 rfl ?_
      refine tq_aload_n (M := mX11_textsBelow) (pc := 24) dX11_textsBelow_24 rfl ?_
      obtain ⟨k4, ek4, hf⟩ := tq_be hf
      refine tq_getR (M := mX11_textsBelow) (pc := 25) tk_c11 (by decide) dX11_textsBelow_25 tk_RX11_7 rfl ek4 ?_
      refine tq_iload (M := mX11_textsBelow) (pc := 28) dX11_textsBelow_28 rfl ?_
      obtain ⟨x5, ex5, hf⟩ := tq_be hf
      refine tq_ialdF (M := mX11_textsBelow) (pc := 30) dX11_textsBelow_30 ex5 ?_
      refine tq_iconst (M := mX11_textsBelow) (pc := 31) dX11_textsBelow_31 tk_ki_1 ?_
      obtain ⟨p10, ep10, hf⟩ := tq_be hf
      have HJ32 : tq_W l mX11_textsBelow d 0 0 Q 66 [(0, .ref i0), (1, .int i1), (2, .int i2), (4, .int y4)] [.int p10, .int y3] hh := by
        refine tq_iadd (M := mX11_textsBelow) (pc := 66) dX11_textsBelow_66 ?_
        obtain ⟨x11, ex11, hf⟩ := tq_le hf
        refine tq_istore_n (M := mX11_textsBelow) (pc := 67) rfl dX11_textsBelow_67 (L2 := [(3, .int x11), (0, .ref i0), (1, .int i1), (2, .int i2), (4, .int y4)]) (by decide) (by rw [ex11]; rfl) ?_
        obtain ⟨x12, ex12, hf⟩ := tq_le hf
        refine tq_iinc (M := mX11_textsBelow) (pc := 68) (v := x12) (L2 := [(4, .int x12), (3, .int x11), (0, .ref i0), (1, .int i1), (2, .int i2)]) dX11_textsBelow_68 rfl (by rw [ex12, tk_ki_1]) (by decide) rfl ?_
        refine tq_goto (M := mX11_textsBelow) (pc := 71) (tgt := 5) dX11_textsBelow_71 (by decide) ?_
        refine tq_pick (L2 := [(0, .ref i0), (1, .int i1), (2, .int i2), (3, .int x11), (4, .int x12)]) [2, 3, 4, 1, 0] rfl ?_
        cases (Option.some.inj hf)
        exact ih _ _ o (tq_lc ho) hk
      refine tq_icmp_ne (M := mX11_textsBelow) (pc := 32) (tgt := 65) dX11_textsBelow_32 (by decide) (fun cc => ?_) (fun cc => ?_)
      · have hf := tq_ifn ep10 cc
        refine tq_iconst (M := mX11_textsBelow) (pc := 65) dX11_textsBelow_65 tk_ki_0 ?_
        refine tq_pick (L2 := [(0, .ref i0), (1, .int i1), (2, .int i2), (4, .int y4)]) [1, 2, 3, 5] rfl ?_
        cases (Option.some.inj hf)
        exact HJ32
      · have hf := tq_ifp ep10 cc
        refine tq_aload_n (M := mX11_textsBelow) (pc := 35) dX11_textsBelow_35 rfl ?_
        refine tq_iload (M := mX11_textsBelow) (pc := 36) dX11_textsBelow_36 rfl ?_
        refine tq_iload_n (M := mX11_textsBelow) (pc := 38) dX11_textsBelow_38 rfl ?_
        obtain ⟨⟨⟩, eu7, hf⟩ := tq_be hf
        obtain ⟨fsu7, eu7⟩ := tq_is_s eu7
        obtain ⟨v6, ev6, hf⟩ := tq_be hf
        refine tq_calV (M := mX11_textsBelow) (pc := 39) (S := [.int y3]) tk_y_X11_isBelow tk_v_X11_isBelow tk_RX11_187 dX11_textsBelow_39 [.int x3, .int i1] rfl (S0 := _) rfl eu7 rfl (Nat.le_of_ble_eq_true rfl) (d1 := d - 1) (b1 := 0) (s1 := 0) (bc' := 0) (bs' := 0) (Q1 := fun r h9 => r = .inl (some (.int v6)) ∧ hh = h9) (by omega) rfl rfl (w_X11_isBelow (by omega) ev6 (fun _ _ q => q)) (fun E h9 q => nomatch (show (Sum.inr E : tq_R) = Sum.inl _ from q.1)) (fun r9 h9 q => ?_)
        obtain ⟨q1, rfl⟩ := q
        cases (show (Sum.inl r9 : tq_R) = Sum.inl (some (.int v6)) from q1)
        refine tq_if_eq (M := mX11_textsBelow) (pc := 42) (tgt := 65) dX11_textsBelow_42 (by decide) (fun cc => ?_) (fun cc => ?_)
        · have hf := tq_ifp hf cc
          refine tq_iconst (M := mX11_textsBelow) (pc := 65) dX11_textsBelow_65 tk_ki_0 ?_
          refine tq_pick (L2 := [(0, .ref i0), (1, .int i1), (2, .int i2), (4, .int y4)]) [1, 2, 3, 5] rfl ?_
          cases (Option.some.inj hf)
          exact HJ32
        · have hf := tq_ifn hf cc
          refine tq_iload_n (M := mX11_textsBelow) (pc := 45) dX11_textsBelow_45 rfl ?_
          refine tq_iconst (M := mX11_textsBelow) (pc := 46) dX11_textsBelow_46 tk_ki_m1 ?_
          refine tq_icmp_eq (M := mX11_textsBelow) (pc := 47) (tgt := 61) dX11_textsBelow_47 (by decide) (fun cc => ?_) (fun cc => ?_)
          · have hf := tq_ifp hf cc
            refine tq_iconst (M := mX11_textsBelow) (pc := 61) dX11_textsBelow_61 tk_ki_1 ?_
            refine tq_goto (M := mX11_textsBelow) (pc := 62) (tgt := 66) dX11_textsBelow_62 (by decide) ?_
            refine tq_pick (L2 := [(0, .ref i0), (1, .int i1), (2, .int i2), (4, .int y4)]) [1, 2, 3, 5] rfl ?_
            cases (Option.some.inj hf)
            exact HJ32
          · have hf := tq_ifn hf cc
            refine tq_aload_n (M := mX11_textsBelow) (pc := 50) dX11_textsBelow_50 rfl ?_
            obtain ⟨k8, ek8, hf⟩ := tq_be hf
            refine tq_getR (M := mX11_textsBelow) (pc := 51) tk_c11 (by decide) dX11_textsBelow_51 tk_RX11_16 rfl ek8 ?_
            refine tq_iload (M := mX11_textsBelow) (pc := 54) dX11_textsBelow_54 rfl ?_
            obtain ⟨x9, ex9, hf⟩ := tq_be hf
            refine tq_ialdF (M := mX11_textsBelow) (pc := 56) dX11_textsBelow_56 ex9 ?_
            refine tq_iload_n (M := mX11_textsBelow) (pc := 57) dX11_textsBelow_57 rfl ?_
            refine tq_icmp_ne (M := mX11_textsBelow) (pc := 58) (tgt := 65) dX11_textsBelow_58 (by decide) (fun cc => ?_) (fun cc => ?_)
            · have hf := tq_ifn hf cc
              refine tq_iconst (M := mX11_textsBelow) (pc := 65) dX11_textsBelow_65 tk_ki_0 ?_
              refine tq_pick (L2 := [(0, .ref i0), (1, .int i1), (2, .int i2), (4, .int y4)]) [1, 2, 3, 5] rfl ?_
              cases (Option.some.inj hf)
              exact HJ32
            · have hf := tq_ifp hf cc
              refine tq_iconst (M := mX11_textsBelow) (pc := 61) dX11_textsBelow_61 tk_ki_1 ?_
              refine tq_goto (M := mX11_textsBelow) (pc := 62) (tgt := 66) dX11_textsBelow_62 (by decide) ?_
              refine tq_pick (L2 := [(0, .ref i0), (1, .int i1), (2, .int i2), (4, .int y4)]) [1, 2, 3, 5] rfl ?_
              cases (Option.some.inj hf)
              exact HJ32
set_option maxHeartbeats 4000000 in
set_option maxRecDepth 20000 in
theorem w_X11_textsBelow {l : Launch} {d : Nat} (hd9 : 1 ≤ d) {t : Nat} {a1 : Int32} {a2 : Int32} {h : tq_H} {o : Int32} {Q : tq_R → tq_H → Prop} (hf : f_X11_textsBelow t a1 a2 h = some o) (hQ : ∀ r h9, r = .inl (some (.int o)) ∧ h = h9 → Q r h9) : tq_C l yX11_textsBelow cX11_textsBelow 6 (some .int) d 0 0 [.ref t, .int a1, .int a2] h Q := by
  refine tq_body (y := yX11_textsBelow) false (by decide +kernel) (fun z => by cases z) (Nat.le_of_ble_eq_true rfl) ?_
  show tq_W l mX11_textsBelow d 0 0 Q 0 [(0, .ref t), (1, .int a1), (2, .int a2)] [] h
  refine tq_iconst (M := mX11_textsBelow) (pc := 0) dX11_textsBelow_0 tk_ki_0 ?_
  refine tq_istore_n (M := mX11_textsBelow) (pc := 1) rfl dX11_textsBelow_1 (L2 := [(3, .int (0 : Int32)), (0, .ref t), (1, .int a1), (2, .int a2)]) (by decide) rfl ?_
  refine tq_iconst (M := mX11_textsBelow) (pc := 2) dX11_textsBelow_2 tk_ki_0 ?_
  refine tq_istore (M := mX11_textsBelow) (pc := 3) dX11_textsBelow_3 (L2 := [(4, .int (0 : Int32)), (3, .int (0 : Int32)), (0, .ref t), (1, .int a1), (2, .int a2)]) (by decide) rfl ?_
  obtain ⟨o13, eo13, hf⟩ := tq_be hf
  refine tq_pick (L2 := [(0, .ref t), (1, .int a1), (2, .int a2), (3, .int (0 : Int32)), (4, .int (0 : Int32))]) [2, 3, 4, 1, 0] rfl ?_
  refine l_X11_textsBelow_5 (by omega) t a1 a2 h _ (0 : Int32) (0 : Int32) _ eo13 ?_
  refine tq_iload_n (M := mX11_textsBelow) (pc := 74) dX11_textsBelow_74 rfl ?_
  refine tq_iret (M := mX11_textsBelow) (pc := 75) dX11_textsBelow_75 rfl ?_
  cases (Option.some.inj hf)
  exact hQ _ _ ⟨rfl, rfl⟩
abbrev mX11_ranked : tq_M := (RX11, cX11_ranked, 11, (some .int), false, [], none)
def f_X11_ranked_b100 (i0 : Nat) (i1 : Int32) (i2 : Int32) (i3 : Int32) (i4 : Int32) (i5 : Int32) (i6 : Int32) (hh : tq_H) (s : Int32 × Int32) : Option ((Int32 × Int32) ⊕ (Int32)) := match s with
  | (y7, y8) =>
    (tq_gi hh i0 11 11).bind fun x19 =>
    if y8 ≥ x19 then
      some (.inr y7)
    else
      if i5 ≤ 0 then
        some (.inr y7)
      else
        (tq_gr hh i0 11 2).bind fun k20 =>
        (tq_gr hh i0 11 12).bind fun k21 =>
        (tq_ai hh k21 y8).bind fun x22 =>
        (tq_ai hh k20 x22).bind fun x23 =>
        (if x23 = 0 then
          (tq_gr hh i0 11 12).bind fun k24 =>
          (tq_ai hh k24 y8).bind fun x25 =>
          (tq_is hh i0 11).bind fun _ =>
          (f_X11_textsBelow i0 x25 i1 hh).bind fun v26 =>
          some v26
        else
          some (0 : Int32)).bind fun p28 =>
        (tq_gr hh i0 11 12).bind fun k29 =>
        (tq_ai hh k29 y8).bind fun x30 =>
        (tq_is hh i0 11).bind fun _ =>
        (f_X11_textsBelow i0 x30 (-1 : Int32) hh).bind fun v31 =>
        tq_let (if (p28 * i6) > (i5 * v31) then (1 : Int32) else (if p28 ≤ 0 then (0 : Int32) else if (p28 * i6) = (i5 * v31) then if y8 ≥ i4 then (0 : Int32) else (1 : Int32) else (0 : Int32))) fun p33 =>
        tq_let ((y7 + p33)) fun x34 =>
        tq_let (y8 + (1 : Int32)) fun x35 =>
        some (.inl (x34, x35))
def f_X11_ranked_b38 (i0 : Nat) (i1 : Int32) (i2 : Int32) (hh : tq_H) (s : Int32 × Int32) : Option ((Int32 × Int32) ⊕ (Int32)) := match s with
  | (y3, y4) =>
    (tq_gi hh i0 11 11).bind fun x5 =>
    if y4 ≥ x5 then
      some (.inr y3)
    else
      (tq_gr hh i0 11 2).bind fun k6 =>
      (tq_gr hh i0 11 12).bind fun k7 =>
      (tq_ai hh k7 y4).bind fun x8 =>
      (tq_ai hh k6 x8).bind fun x9 =>
      (if x9 = 0 then
        (tq_gr hh i0 11 12).bind fun k10 =>
        (tq_ai hh k10 y4).bind fun x11 =>
        (tq_is hh i0 11).bind fun _ =>
        (f_X11_textsBelow i0 x11 i1 hh).bind fun v12 =>
        some v12
      else
        some (0 : Int32)).bind fun p14 =>
      (tq_gr hh i0 11 12).bind fun k15 =>
      (tq_ai hh k15 y4).bind fun x16 =>
      (tq_is hh i0 11).bind fun _ =>
      (f_X11_textsBelow i0 x16 (-1 : Int32) hh).bind fun v17 =>
      (tq_loop (f_X11_ranked_b100 i0 i1 i2 y3 y4 p14 v17 hh) tq_N ((0 : Int32), (0 : Int32))).bind fun o36 =>
      (if p14 ≤ 0 then
        some y3
      else
        if o36 = i2 then
          (tq_gr hh i0 11 12).bind fun k37 =>
          (tq_ai hh k37 y4).bind fun x38 =>
          some x38
        else
          some y3).bind fun p39 =>
      tq_let (y4 + (1 : Int32)) fun x40 =>
      some (.inl (p39, x40))
def f_X11_ranked (t : Nat) (a1 : Int32) (a2 : Int32) (h : tq_H) : Option (Int32 × tq_H) :=
  (if a2 ≥ 0 then
    (f_X11_in a1 (0 : Int32) (999 : Int32) h).bind fun v1 =>
    if v1 = 0 then
      some (2 : Int32)
    else
      some (0 : Int32)
  else
    some (1 : Int32)).bind fun p2 =>
  (tq_is h t 11).bind fun _ =>
  (f_X11_refused t p2 h).bind fun v3 =>
  if v3.1 = 0 then
    (tq_loop (f_X11_ranked_b38 t a1 a2 v3.2) tq_N ((-1 : Int32), (0 : Int32))).bind fun o41 =>
    some (o41, v3.2)
  else
    some ((0 : Int32), v3.2)
set_option maxHeartbeats 4000000 in
theorem l_X11_ranked_100 {l : Launch} {d : Nat} {Q : tq_R → tq_H → Prop} (hd9 : 2 ≤ d) (i0 : Nat) (i1 : Int32) (i2 : Int32) (i3 : Int32) (i4 : Int32) (i5 : Int32) (i6 : Int32) (hh : tq_H) : ∀ (n : Nat) (y7 : Int32) (y8 : Int32) (o : Int32), tq_loop (f_X11_ranked_b100 i0 i1 i2 i3 i4 i5 i6 hh) n (y7, y8) = some o → tq_W l mX11_ranked d 0 0 Q 215 [(0, .ref i0), (1, .int i1), (2, .int i2), (3, .int i3), (4, .int i4), (5, .int i5), (7, .int o)] [] hh → tq_W l mX11_ranked d 0 0 Q 100 [(0, .ref i0), (1, .int i1), (2, .int i2), (3, .int i3), (4, .int i4), (5, .int i5), (6, .int i6), (7, .int y7), (8, .int y8)] [] hh := by
  intro n
  induction n with
  | zero => intro y7 y8 o hl; cases hl
  | succ n ih =>
    intro y7 y8 o hl hk
    obtain ⟨oo, hf, ho⟩ := tq_loop_s hl
    refine tq_iload (M := mX11_ranked) (pc := 100) dX11_ranked_100 rfl ?_
    refine tq_aload_n (M := mX11_ranked) (pc := 102) dX11_ranked_102 rfl ?_
    obtain ⟨x19, ex19, hf⟩ := tq_be hf
    refine tq_getI (M := mX11_ranked) (pc := 103) tk_c11 (by decide) dX11_ranked_103 tk_RX11_173 rfl ex19 ?_
    refine tq_icmp_ge (M := mX11_ranked) (pc := 106) (tgt := 215) dX11_ranked_106 (by decide) (fun cc => ?_) (fun cc => ?_)
    · have hf := tq_ifp hf cc
      refine tq_pick (L2 := [(0, .ref i0), (1, .int i1), (2, .int i2), (3, .int i3), (4, .int i4), (5, .int i5), (7, .int y7)]) [0, 1, 2, 3, 4, 5, 7] rfl ?_
      cases (Option.some.inj hf)
      cases (tq_lx ho)
      exact hk
    · have hf := tq_ifn hf cc
      refine tq_iload (M := mX11_ranked) (pc := 109) dX11_ranked_109 rfl ?_
      refine tq_if_le (M := mX11_ranked) (pc := 111) (tgt := 215) dX11_ranked_111 (by decide) (fun cc => ?_) (fun cc => ?_)
      · have hf := tq_ifp hf cc
        refine tq_pick (L2 := [(0, .ref i0), (1, .int i1), (2, .int i2), (3, .int i3), (4, .int i4), (5, .int i5), (7, .int y7)]) [0, 1, 2, 3, 4, 5, 7] rfl ?_
        cases (Option.some.inj hf)
        cases (tq_lx ho)
        exact hk
      · have hf := tq_ifn hf cc
        refine tq_aload_n (M := mX11_ranked) (pc := 114) dX11_ranked_114 rfl ?_
        obtain ⟨k20, ek20, hf⟩ := tq_be hf
        refine tq_getR (M := mX11_ranked) (pc := 115) tk_c11 (by decide) dX11_ranked_115 tk_RX11_7 rfl ek20 ?_
        refine tq_aload_n (M := mX11_ranked) (pc := 118) dX11_ranked_118 rfl ?_
        obtain ⟨k21, ek21, hf⟩ := tq_be hf
        refine tq_getR (M := mX11_ranked) (pc := 119) tk_c11 (by decide) dX11_ranked_119 tk_RX11_35 rfl ek21 ?_
        refine tq_iload (M := mX11_ranked) (pc := 122) dX11_ranked_122 rfl ?_
        obtain ⟨x22, ex22, hf⟩ := tq_be hf
        refine tq_ialdF (M := mX11_ranked) (pc := 124) dX11_ranked_124 ex22 ?_
        obtain ⟨x23, ex23, hf⟩ := tq_be hf
        refine tq_ialdF (M := mX11_ranked) (pc := 125) dX11_ranked_125 ex23 ?_
        obtain ⟨p28, ep28, hf⟩ := tq_be hf
        have HJ126 : tq_W l mX11_ranked d 0 0 Q 145 [(0, .ref i0), (1, .int i1), (2, .int i2), (3, .int i3), (4, .int i4), (5, .int i5), (6, .int i6), (7, .int y7), (8, .int y8)] [.int p28] hh := by
          refine tq_istore (M := mX11_ranked) (pc := 145) dX11_ranked_145 (L2 := [(9, .int p28), (0, .ref i0), (1, .int i1), (2, .int i2), (3, .int i3), (4, .int i4), (5, .int i5), (6, .int i6), (7, .int y7), (8, .int y8)]) (by decide) rfl ?_
          refine tq_aload_n (M := mX11_ranked) (pc := 147) dX11_ranked_147 rfl ?_
          refine tq_aload_n (M := mX11_ranked) (pc := 148) dX11_ranked_148 rfl ?_
          obtain ⟨k29, ek29, hf⟩ := tq_be hf
          refine tq_getR (M := mX11_ranked) (pc := 149) tk_c11 (by decide) dX11_ranked_149 tk_RX11_35 rfl ek29 ?_
          refine tq_iload (M := mX11_ranked) (pc := 152) dX11_ranked_152 rfl ?_
          obtain ⟨x30, ex30, hf⟩ := tq_be hf
          refine tq_ialdF (M := mX11_ranked) (pc := 154) dX11_ranked_154 ex30 ?_
          refine tq_iconst (M := mX11_ranked) (pc := 155) dX11_ranked_155 tk_ki_m1 ?_
          obtain ⟨⟨⟩, eu32, hf⟩ := tq_be hf
          obtain ⟨fsu32, eu32⟩ := tq_is_s eu32
          obtain ⟨v31, ev31, hf⟩ := tq_be hf
          refine tq_calV (M := mX11_ranked) (pc := 156) (S := []) tk_y_X11_textsBelow tk_v_X11_textsBelow tk_RX11_413 dX11_ranked_156 [.int x30, .int (-1 : Int32)] rfl (S0 := _) rfl eu32 rfl (Nat.le_of_ble_eq_true rfl) (d1 := d - 1) (b1 := 0) (s1 := 0) (bc' := 0) (bs' := 0) (Q1 := fun r h9 => r = .inl (some (.int v31)) ∧ hh = h9) (by omega) rfl rfl (w_X11_textsBelow (by omega) ev31 (fun _ _ q => q)) (fun E h9 q => nomatch (show (Sum.inr E : tq_R) = Sum.inl _ from q.1)) (fun r9 h9 q => ?_)
          obtain ⟨q1, rfl⟩ := q
          cases (show (Sum.inl r9 : tq_R) = Sum.inl (some (.int v31)) from q1)
          refine tq_istore (M := mX11_ranked) (pc := 159) dX11_ranked_159 (L2 := [(10, .int v31), (9, .int p28), (0, .ref i0), (1, .int i1), (2, .int i2), (3, .int i3), (4, .int i4), (5, .int i5), (6, .int i6), (7, .int y7), (8, .int y8)]) (by decide) rfl ?_
          refine tq_iload (M := mX11_ranked) (pc := 161) dX11_ranked_161 rfl ?_
          refine tq_iload (M := mX11_ranked) (pc := 163) dX11_ranked_163 rfl ?_
          refine tq_iload (M := mX11_ranked) (pc := 165) dX11_ranked_165 rfl ?_
          refine tq_imul (M := mX11_ranked) (pc := 167) dX11_ranked_167 ?_
          refine tq_iload (M := mX11_ranked) (pc := 168) dX11_ranked_168 rfl ?_
          refine tq_iload (M := mX11_ranked) (pc := 170) dX11_ranked_170 rfl ?_
          refine tq_imul (M := mX11_ranked) (pc := 172) dX11_ranked_172 ?_
          obtain ⟨p33, ep33, hf⟩ := tq_le hf
          have HJ173 : tq_W l mX11_ranked d 0 0 Q 206 [(0, .ref i0), (1, .int i1), (2, .int i2), (3, .int i3), (4, .int i4), (5, .int i5), (6, .int i6), (8, .int y8)] [.int p33, .int y7] hh := by
            refine tq_iadd (M := mX11_ranked) (pc := 206) dX11_ranked_206 ?_
            obtain ⟨x34, ex34, hf⟩ := tq_le hf
            refine tq_istore (M := mX11_ranked) (pc := 207) dX11_ranked_207 (L2 := [(7, .int x34), (0, .ref i0), (1, .int i1), (2, .int i2), (3, .int i3), (4, .int i4), (5, .int i5), (6, .int i6), (8, .int y8)]) (by decide) (by rw [ex34]; rfl) ?_
            obtain ⟨x35, ex35, hf⟩ := tq_le hf
            refine tq_iinc (M := mX11_ranked) (pc := 209) (v := x35) (L2 := [(8, .int x35), (7, .int x34), (0, .ref i0), (1, .int i1), (2, .int i2), (3, .int i3), (4, .int i4), (5, .int i5), (6, .int i6)]) dX11_ranked_209 rfl (by rw [ex35, tk_ki_1]) (by decide) rfl ?_
            refine tq_goto (M := mX11_ranked) (pc := 212) (tgt := 100) dX11_ranked_212 (by decide) ?_
            refine tq_pick (L2 := [(0, .ref i0), (1, .int i1), (2, .int i2), (3, .int i3), (4, .int i4), (5, .int i5), (6, .int i6), (7, .int x34), (8, .int x35)]) [2, 3, 4, 5, 6, 7, 8, 1, 0] rfl ?_
            cases (Option.some.inj hf)
            exact ih _ _ o (tq_lc ho) hk
          refine tq_icmp_gt (M := mX11_ranked) (pc := 173) (tgt := 201) dX11_ranked_173 (by decide) (fun cc => ?_) (fun cc => ?_)
          · have hf := tq_ifp ep33.symm cc
            refine tq_iconst (M := mX11_ranked) (pc := 201) dX11_ranked_201 tk_ki_1 ?_
            refine tq_goto (M := mX11_ranked) (pc := 202) (tgt := 206) dX11_ranked_202 (by decide) ?_
            refine tq_pick (L2 := [(0, .ref i0), (1, .int i1), (2, .int i2), (3, .int i3), (4, .int i4), (5, .int i5), (6, .int i6), (8, .int y8)]) [2, 3, 4, 5, 6, 7, 8, 10] rfl ?_
            cases hf
            exact HJ173
          · have hf := tq_ifn ep33.symm cc
            refine tq_iload (M := mX11_ranked) (pc := 176) dX11_ranked_176 rfl ?_
            refine tq_if_le (M := mX11_ranked) (pc := 178) (tgt := 205) dX11_ranked_178 (by decide) (fun cc => ?_) (fun cc => ?_)
            · have hf := tq_ifp hf cc
              refine tq_iconst (M := mX11_ranked) (pc := 205) dX11_ranked_205 tk_ki_0 ?_
              refine tq_pick (L2 := [(0, .ref i0), (1, .int i1), (2, .int i2), (3, .int i3), (4, .int i4), (5, .int i5), (6, .int i6), (8, .int y8)]) [2, 3, 4, 5, 6, 7, 8, 10] rfl ?_
              cases hf
              exact HJ173
            · have hf := tq_ifn hf cc
              refine tq_iload (M := mX11_ranked) (pc := 181) dX11_ranked_181 rfl ?_
              refine tq_iload (M := mX11_ranked) (pc := 183) dX11_ranked_183 rfl ?_
              refine tq_imul (M := mX11_ranked) (pc := 185) dX11_ranked_185 ?_
              refine tq_iload (M := mX11_ranked) (pc := 186) dX11_ranked_186 rfl ?_
              refine tq_iload (M := mX11_ranked) (pc := 188) dX11_ranked_188 rfl ?_
              refine tq_imul (M := mX11_ranked) (pc := 190) dX11_ranked_190 ?_
              refine tq_icmp_ne (M := mX11_ranked) (pc := 191) (tgt := 205) dX11_ranked_191 (by decide) (fun cc => ?_) (fun cc => ?_)
              · have hf := tq_ifn hf cc
                refine tq_iconst (M := mX11_ranked) (pc := 205) dX11_ranked_205 tk_ki_0 ?_
                refine tq_pick (L2 := [(0, .ref i0), (1, .int i1), (2, .int i2), (3, .int i3), (4, .int i4), (5, .int i5), (6, .int i6), (8, .int y8)]) [2, 3, 4, 5, 6, 7, 8, 10] rfl ?_
                cases hf
                exact HJ173
              · have hf := tq_ifp hf cc
                refine tq_iload (M := mX11_ranked) (pc := 194) dX11_ranked_194 rfl ?_
                refine tq_iload (M := mX11_ranked) (pc := 196) dX11_ranked_196 rfl ?_
                refine tq_icmp_ge (M := mX11_ranked) (pc := 198) (tgt := 205) dX11_ranked_198 (by decide) (fun cc => ?_) (fun cc => ?_)
                · have hf := tq_ifp hf cc
                  refine tq_iconst (M := mX11_ranked) (pc := 205) dX11_ranked_205 tk_ki_0 ?_
                  refine tq_pick (L2 := [(0, .ref i0), (1, .int i1), (2, .int i2), (3, .int i3), (4, .int i4), (5, .int i5), (6, .int i6), (8, .int y8)]) [2, 3, 4, 5, 6, 7, 8, 10] rfl ?_
                  cases hf
                  exact HJ173
                · have hf := tq_ifn hf cc
                  refine tq_iconst (M := mX11_ranked) (pc := 201) dX11_ranked_201 tk_ki_1 ?_
                  refine tq_goto (M := mX11_ranked) (pc := 202) (tgt := 206) dX11_ranked_202 (by decide) ?_
                  refine tq_pick (L2 := [(0, .ref i0), (1, .int i1), (2, .int i2), (3, .int i3), (4, .int i4), (5, .int i5), (6, .int i6), (8, .int y8)]) [2, 3, 4, 5, 6, 7, 8, 10] rfl ?_
                  cases hf
                  exact HJ173
        refine tq_if_ne (M := mX11_ranked) (pc := 126) (tgt := 144) dX11_ranked_126 (by decide) (fun cc => ?_) (fun cc => ?_)
        · have hf := tq_ifn ep28 cc
          refine tq_iconst (M := mX11_ranked) (pc := 144) dX11_ranked_144 tk_ki_0 ?_
          cases (Option.some.inj hf)
          exact HJ126
        · have hf := tq_ifp ep28 cc
          refine tq_aload_n (M := mX11_ranked) (pc := 129) dX11_ranked_129 rfl ?_
          refine tq_aload_n (M := mX11_ranked) (pc := 130) dX11_ranked_130 rfl ?_
          obtain ⟨k24, ek24, hf⟩ := tq_be hf
          refine tq_getR (M := mX11_ranked) (pc := 131) tk_c11 (by decide) dX11_ranked_131 tk_RX11_35 rfl ek24 ?_
          refine tq_iload (M := mX11_ranked) (pc := 134) dX11_ranked_134 rfl ?_
          obtain ⟨x25, ex25, hf⟩ := tq_be hf
          refine tq_ialdF (M := mX11_ranked) (pc := 136) dX11_ranked_136 ex25 ?_
          refine tq_iload_n (M := mX11_ranked) (pc := 137) dX11_ranked_137 rfl ?_
          obtain ⟨⟨⟩, eu27, hf⟩ := tq_be hf
          obtain ⟨fsu27, eu27⟩ := tq_is_s eu27
          obtain ⟨v26, ev26, hf⟩ := tq_be hf
          refine tq_calV (M := mX11_ranked) (pc := 138) (S := []) tk_y_X11_textsBelow tk_v_X11_textsBelow tk_RX11_413 dX11_ranked_138 [.int x25, .int i1] rfl (S0 := _) rfl eu27 rfl (Nat.le_of_ble_eq_true rfl) (d1 := d - 1) (b1 := 0) (s1 := 0) (bc' := 0) (bs' := 0) (Q1 := fun r h9 => r = .inl (some (.int v26)) ∧ hh = h9) (by omega) rfl rfl (w_X11_textsBelow (by omega) ev26 (fun _ _ q => q)) (fun E h9 q => nomatch (show (Sum.inr E : tq_R) = Sum.inl _ from q.1)) (fun r9 h9 q => ?_)
          obtain ⟨q1, rfl⟩ := q
          cases (show (Sum.inl r9 : tq_R) = Sum.inl (some (.int v26)) from q1)
          refine tq_goto (M := mX11_ranked) (pc := 141) (tgt := 145) dX11_ranked_141 (by decide) ?_
          cases (Option.some.inj hf)
          exact HJ126
set_option maxHeartbeats 4000000 in
theorem l_X11_ranked_38 {l : Launch} {d : Nat} {Q : tq_R → tq_H → Prop} (hd9 : 2 ≤ d) (i0 : Nat) (i1 : Int32) (i2 : Int32) (hh : tq_H) : ∀ (n : Nat) (y3 : Int32) (y4 : Int32) (o : Int32), tq_loop (f_X11_ranked_b38 i0 i1 i2 hh) n (y3, y4) = some o → tq_W l mX11_ranked d 0 0 Q 244 [(3, .int o)] [] hh → tq_W l mX11_ranked d 0 0 Q 38 [(0, .ref i0), (1, .int i1), (2, .int i2), (3, .int y3), (4, .int y4)] [] hh := by
  intro n
  induction n with
  | zero => intro y3 y4 o hl; cases hl
  | succ n ih =>
    intro y3 y4 o hl hk
    obtain ⟨oo, hf, ho⟩ := tq_loop_s hl
    refine tq_iload (M := mX11_ranked) (pc := 38) dX11_ranked_38 rfl ?_
    refine tq_aload_n (M := mX11_ranked) (pc := 40) dX11_ranked_40 rfl ?_
    obtain ⟨x5, ex5, hf⟩ := tq_be hf
    refine tq_getI (M := mX11_ranked) (pc := 41) tk_c11 (by decide) dX11_ranked_41 tk_RX11_173 rfl ex5 ?_
    refine tq_icmp_ge (M := mX11_ranked) (pc := 44) (tgt := 244) dX11_ranked_44 (by decide) (fun cc => ?_) (fun cc => ?_)
    · have hf := tq_ifp hf cc
      refine tq_pick (L2 := [(3, .int y3)]) [3] rfl ?_
      cases (Option.some.inj hf)
      cases (tq_lx ho)
      exact hk
    · have hf := tq_ifn hf cc
      refine tq_aload_n (M := mX11_ranked) (pc := 47) dX11_ranked_47 rfl ?_
      obtain ⟨k6, ek6, hf⟩ := tq_be hf
      refine tq_getR (M := mX11_ranked) (pc := 48) tk_c11 (by decide) dX11_ranked_48 tk_RX11_7 rfl ek6 ?_
      refine tq_aload_n (M := mX11_ranked) (pc := 51) dX11_ranked_51 rfl ?_
      obtain ⟨k7, ek7, hf⟩ := tq_be hf
      refine tq_getR (M := mX11_ranked) (pc := 52) tk_c11 (by decide) dX11_ranked_52 tk_RX11_35 rfl ek7 ?_
      refine tq_iload (M := mX11_ranked) (pc := 55) dX11_ranked_55 rfl ?_
      obtain ⟨x8, ex8, hf⟩ := tq_be hf
      refine tq_ialdF (M := mX11_ranked) (pc := 57) dX11_ranked_57 ex8 ?_
      obtain ⟨x9, ex9, hf⟩ := tq_be hf
      refine tq_ialdF (M := mX11_ranked) (pc := 58) dX11_ranked_58 ex9 ?_
      obtain ⟨p14, ep14, hf⟩ := tq_be hf
      have HJ59 : tq_W l mX11_ranked d 0 0 Q 78 [(0, .ref i0), (1, .int i1), (2, .int i2), (3, .int y3), (4, .int y4)] [.int p14] hh := by
        refine tq_istore (M := mX11_ranked) (pc := 78) dX11_ranked_78 (L2 := [(5, .int p14), (0, .ref i0), (1, .int i1), (2, .int i2), (3, .int y3), (4, .int y4)]) (by decide) rfl ?_
        refine tq_aload_n (M := mX11_ranked) (pc := 80) dX11_ranked_80 rfl ?_
        refine tq_aload_n (M := mX11_ranked) (pc := 81) dX11_ranked_81 rfl ?_
        obtain ⟨k15, ek15, hf⟩ := tq_be hf
        refine tq_getR (M := mX11_ranked) (pc := 82) tk_c11 (by decide) dX11_ranked_82 tk_RX11_35 rfl ek15 ?_
        refine tq_iload (M := mX11_ranked) (pc := 85) dX11_ranked_85 rfl ?_
        obtain ⟨x16, ex16, hf⟩ := tq_be hf
        refine tq_ialdF (M := mX11_ranked) (pc := 87) dX11_ranked_87 ex16 ?_
        refine tq_iconst (M := mX11_ranked) (pc := 88) dX11_ranked_88 tk_ki_m1 ?_
        obtain ⟨⟨⟩, eu18, hf⟩ := tq_be hf
        obtain ⟨fsu18, eu18⟩ := tq_is_s eu18
        obtain ⟨v17, ev17, hf⟩ := tq_be hf
        refine tq_calV (M := mX11_ranked) (pc := 89) (S := []) tk_y_X11_textsBelow tk_v_X11_textsBelow tk_RX11_413 dX11_ranked_89 [.int x16, .int (-1 : Int32)] rfl (S0 := _) rfl eu18 rfl (Nat.le_of_ble_eq_true rfl) (d1 := d - 1) (b1 := 0) (s1 := 0) (bc' := 0) (bs' := 0) (Q1 := fun r h9 => r = .inl (some (.int v17)) ∧ hh = h9) (by omega) rfl rfl (w_X11_textsBelow (by omega) ev17 (fun _ _ q => q)) (fun E h9 q => nomatch (show (Sum.inr E : tq_R) = Sum.inl _ from q.1)) (fun r9 h9 q => ?_)
        obtain ⟨q1, rfl⟩ := q
        cases (show (Sum.inl r9 : tq_R) = Sum.inl (some (.int v17)) from q1)
        refine tq_istore (M := mX11_ranked) (pc := 92) dX11_ranked_92 (L2 := [(6, .int v17), (5, .int p14), (0, .ref i0), (1, .int i1), (2, .int i2), (3, .int y3), (4, .int y4)]) (by decide) rfl ?_
        refine tq_iconst (M := mX11_ranked) (pc := 94) dX11_ranked_94 tk_ki_0 ?_
        refine tq_istore (M := mX11_ranked) (pc := 95) dX11_ranked_95 (L2 := [(7, .int (0 : Int32)), (6, .int v17), (5, .int p14), (0, .ref i0), (1, .int i1), (2, .int i2), (3, .int y3), (4, .int y4)]) (by decide) rfl ?_
        refine tq_iconst (M := mX11_ranked) (pc := 97) dX11_ranked_97 tk_ki_0 ?_
        refine tq_istore (M := mX11_ranked) (pc := 98) dX11_ranked_98 (L2 := [(8, .int (0 : Int32)), (7, .int (0 : Int32)), (6, .int v17), (5, .int p14), (0, .ref i0), (1, .int i1), (2, .int i2), (3, .int y3), (4, .int y4)]) (by decide) rfl ?_
        obtain ⟨o36, eo36, hf⟩ := tq_be hf
        refine tq_pick (L2 := [(0, .ref i0), (1, .int i1), (2, .int i2), (3, .int y3), (4, .int y4), (5, .int p14), (6, .int v17), (7, .int (0 : Int32)), (8, .int (0 : Int32))]) [4, 5, 6, 7, 8, 3, 2, 1, 0] rfl ?_
        refine l_X11_ranked_100 (by omega) i0 i1 i2 y3 y4 p14 v17 hh _ (0 : Int32) (0 : Int32) _ eo36 ?_
        refine tq_iload (M := mX11_ranked) (pc := 215) dX11_ranked_215 rfl ?_
        obtain ⟨p39, ep39, hf⟩ := tq_be hf
        have HJ217 : tq_W l mX11_ranked d 0 0 Q 237 [(0, .ref i0), (1, .int i1), (2, .int i2), (4, .int y4)] [.int p39] hh := by
          refine tq_istore_n (M := mX11_ranked) (pc := 237) rfl dX11_ranked_237 (L2 := [(3, .int p39), (0, .ref i0), (1, .int i1), (2, .int i2), (4, .int y4)]) (by decide) rfl ?_
          obtain ⟨x40, ex40, hf⟩ := tq_le hf
          refine tq_iinc (M := mX11_ranked) (pc := 238) (v := x40) (L2 := [(4, .int x40), (3, .int p39), (0, .ref i0), (1, .int i1), (2, .int i2)]) dX11_ranked_238 rfl (by rw [ex40, tk_ki_1]) (by decide) rfl ?_
          refine tq_goto (M := mX11_ranked) (pc := 241) (tgt := 38) dX11_ranked_241 (by decide) ?_
          refine tq_pick (L2 := [(0, .ref i0), (1, .int i1), (2, .int i2), (3, .int p39), (4, .int x40)]) [2, 3, 4, 1, 0] rfl ?_
          cases (Option.some.inj hf)
          exact ih _ _ o (tq_lc ho) hk
        refine tq_if_le (M := mX11_ranked) (pc := 217) (tgt := 236) dX11_ranked_217 (by decide) (fun cc => ?_) (fun cc => ?_)
        · have hf := tq_ifp ep39 cc
          refine tq_iload_n (M := mX11_ranked) (pc := 236) dX11_ranked_236 rfl ?_
          refine tq_pick (L2 := [(0, .ref i0), (1, .int i1), (2, .int i2), (4, .int y4)]) [0, 1, 2, 4] rfl ?_
          cases (Option.some.inj hf)
          exact HJ217
        · have hf := tq_ifn ep39 cc
          refine tq_iload (M := mX11_ranked) (pc := 220) dX11_ranked_220 rfl ?_
          refine tq_iload_n (M := mX11_ranked) (pc := 222) dX11_ranked_222 rfl ?_
          refine tq_icmp_ne (M := mX11_ranked) (pc := 223) (tgt := 236) dX11_ranked_223 (by decide) (fun cc => ?_) (fun cc => ?_)
          · have hf := tq_ifn hf cc
            refine tq_iload_n (M := mX11_ranked) (pc := 236) dX11_ranked_236 rfl ?_
            refine tq_pick (L2 := [(0, .ref i0), (1, .int i1), (2, .int i2), (4, .int y4)]) [0, 1, 2, 4] rfl ?_
            cases (Option.some.inj hf)
            exact HJ217
          · have hf := tq_ifp hf cc
            refine tq_aload_n (M := mX11_ranked) (pc := 226) dX11_ranked_226 rfl ?_
            obtain ⟨k37, ek37, hf⟩ := tq_be hf
            refine tq_getR (M := mX11_ranked) (pc := 227) tk_c11 (by decide) dX11_ranked_227 tk_RX11_35 rfl ek37 ?_
            refine tq_iload (M := mX11_ranked) (pc := 230) dX11_ranked_230 rfl ?_
            obtain ⟨x38, ex38, hf⟩ := tq_be hf
            refine tq_ialdF (M := mX11_ranked) (pc := 232) dX11_ranked_232 ex38 ?_
            refine tq_goto (M := mX11_ranked) (pc := 233) (tgt := 237) dX11_ranked_233 (by decide) ?_
            refine tq_pick (L2 := [(0, .ref i0), (1, .int i1), (2, .int i2), (4, .int y4)]) [0, 1, 2, 4] rfl ?_
            cases (Option.some.inj hf)
            exact HJ217
      refine tq_if_ne (M := mX11_ranked) (pc := 59) (tgt := 77) dX11_ranked_59 (by decide) (fun cc => ?_) (fun cc => ?_)
      · have hf := tq_ifn ep14 cc
        refine tq_iconst (M := mX11_ranked) (pc := 77) dX11_ranked_77 tk_ki_0 ?_
        cases (Option.some.inj hf)
        exact HJ59
      · have hf := tq_ifp ep14 cc
        refine tq_aload_n (M := mX11_ranked) (pc := 62) dX11_ranked_62 rfl ?_
        refine tq_aload_n (M := mX11_ranked) (pc := 63) dX11_ranked_63 rfl ?_
        obtain ⟨k10, ek10, hf⟩ := tq_be hf
        refine tq_getR (M := mX11_ranked) (pc := 64) tk_c11 (by decide) dX11_ranked_64 tk_RX11_35 rfl ek10 ?_
        refine tq_iload (M := mX11_ranked) (pc := 67) dX11_ranked_67 rfl ?_
        obtain ⟨x11, ex11, hf⟩ := tq_be hf
        refine tq_ialdF (M := mX11_ranked) (pc := 69) dX11_ranked_69 ex11 ?_
        refine tq_iload_n (M := mX11_ranked) (pc := 70) dX11_ranked_70 rfl ?_
        obtain ⟨⟨⟩, eu13, hf⟩ := tq_be hf
        obtain ⟨fsu13, eu13⟩ := tq_is_s eu13
        obtain ⟨v12, ev12, hf⟩ := tq_be hf
        refine tq_calV (M := mX11_ranked) (pc := 71) (S := []) tk_y_X11_textsBelow tk_v_X11_textsBelow tk_RX11_413 dX11_ranked_71 [.int x11, .int i1] rfl (S0 := _) rfl eu13 rfl (Nat.le_of_ble_eq_true rfl) (d1 := d - 1) (b1 := 0) (s1 := 0) (bc' := 0) (bs' := 0) (Q1 := fun r h9 => r = .inl (some (.int v12)) ∧ hh = h9) (by omega) rfl rfl (w_X11_textsBelow (by omega) ev12 (fun _ _ q => q)) (fun E h9 q => nomatch (show (Sum.inr E : tq_R) = Sum.inl _ from q.1)) (fun r9 h9 q => ?_)
        obtain ⟨q1, rfl⟩ := q
        cases (show (Sum.inl r9 : tq_R) = Sum.inl (some (.int v12)) from q1)
        refine tq_goto (M := mX11_ranked) (pc := 74) (tgt := 78) dX11_ranked_74 (by decide) ?_
        cases (Option.some.inj hf)
        exact HJ59
set_option maxHeartbeats 4000000 in
set_option maxRecDepth 20000 in
theorem w_X11_ranked {l : Launch} {d : Nat} (hd9 : 2 ≤ d) {t : Nat} {a1 : Int32} {a2 : Int32} {h : tq_H} {o : Int32 × tq_H} {Q : tq_R → tq_H → Prop} (hf : f_X11_ranked t a1 a2 h = some o) (hQ : ∀ r h9, r = .inl (some (.int o.1)) ∧ o.2 = h9 → Q r h9) : tq_C l yX11_ranked cX11_ranked 11 (some .int) d 0 0 [.ref t, .int a1, .int a2] h Q := by
  refine tq_body (y := yX11_ranked) false (by decide +kernel) (fun z => by cases z) (Nat.le_of_ble_eq_true rfl) ?_
  show tq_W l mX11_ranked d 0 0 Q 0 [(0, .ref t), (1, .int a1), (2, .int a2)] [] h
  refine tq_aload_n (M := mX11_ranked) (pc := 0) dX11_ranked_0 rfl ?_
  refine tq_iload_n (M := mX11_ranked) (pc := 1) dX11_ranked_1 rfl ?_
  obtain ⟨p2, ep2, hf⟩ := tq_be hf
  have HJ2 : tq_W l mX11_ranked d 0 0 Q 25 [(0, .ref t), (1, .int a1), (2, .int a2)] [.int p2, .ref t] h := by
    obtain ⟨⟨⟩, eu4, hf⟩ := tq_be hf
    obtain ⟨fsu4, eu4⟩ := tq_is_s eu4
    obtain ⟨v3, ev3, hf⟩ := tq_be hf
    refine tq_calV (M := mX11_ranked) (pc := 25) (S := []) tk_y_X11_refused tk_v_X11_refused tk_RX11_204 dX11_ranked_25 [.int p2] rfl (S0 := _) rfl eu4 rfl (Nat.le_of_ble_eq_true rfl) (d1 := d - 1) (b1 := 0) (s1 := 0) (bc' := 0) (bs' := 0) (Q1 := fun r h9 => r = .inl (some (.int v3.1)) ∧ v3.2 = h9) (by omega) rfl rfl (w_X11_refused (by omega) ev3 (fun _ _ q => q)) (fun E h9 q => nomatch (show (Sum.inr E : tq_R) = Sum.inl _ from q.1)) (fun r9 h9 q => ?_)
    obtain ⟨q1, rfl⟩ := q
    cases (show (Sum.inl r9 : tq_R) = Sum.inl (some (.int v3.1)) from q1)
    refine tq_if_eq (M := mX11_ranked) (pc := 28) (tgt := 33) dX11_ranked_28 (by decide) (fun cc => ?_) (fun cc => ?_)
    · have hf := tq_ifp hf cc
      refine tq_iconst (M := mX11_ranked) (pc := 33) dX11_ranked_33 tk_ki_m1 ?_
      refine tq_istore_n (M := mX11_ranked) (pc := 34) rfl dX11_ranked_34 (L2 := [(3, .int (-1 : Int32)), (0, .ref t), (1, .int a1), (2, .int a2)]) (by decide) rfl ?_
      refine tq_iconst (M := mX11_ranked) (pc := 35) dX11_ranked_35 tk_ki_0 ?_
      refine tq_istore (M := mX11_ranked) (pc := 36) dX11_ranked_36 (L2 := [(4, .int (0 : Int32)), (3, .int (-1 : Int32)), (0, .ref t), (1, .int a1), (2, .int a2)]) (by decide) rfl ?_
      obtain ⟨o41, eo41, hf⟩ := tq_be hf
      refine tq_pick (L2 := [(0, .ref t), (1, .int a1), (2, .int a2), (3, .int (-1 : Int32)), (4, .int (0 : Int32))]) [2, 3, 4, 1, 0] rfl ?_
      refine l_X11_ranked_38 (by omega) t a1 a2 v3.2 _ (-1 : Int32) (0 : Int32) _ eo41 ?_
      refine tq_iload_n (M := mX11_ranked) (pc := 244) dX11_ranked_244 rfl ?_
      refine tq_iret (M := mX11_ranked) (pc := 245) dX11_ranked_245 rfl ?_
      cases (Option.some.inj hf)
      exact hQ _ _ ⟨rfl, rfl⟩
    · have hf := tq_ifn hf cc
      refine tq_iconst (M := mX11_ranked) (pc := 31) dX11_ranked_31 tk_ki_0 ?_
      refine tq_iret (M := mX11_ranked) (pc := 32) dX11_ranked_32 rfl ?_
      cases (Option.some.inj hf)
      exact hQ _ _ ⟨rfl, rfl⟩
  refine tq_if_ge (M := mX11_ranked) (pc := 2) (tgt := 9) dX11_ranked_2 (by decide) (fun cc => ?_) (fun cc => ?_)
  · have hf := tq_ifp ep2 cc
    refine tq_iload_n (M := mX11_ranked) (pc := 9) dX11_ranked_9 rfl ?_
    refine tq_iconst (M := mX11_ranked) (pc := 10) dX11_ranked_10 tk_ki_0 ?_
    refine tq_sipush (M := mX11_ranked) (pc := 11) dX11_ranked_11 tk_ks_999 ?_
    obtain ⟨v1, ev1, hf⟩ := tq_be hf
    refine tq_calS (M := mX11_ranked) (pc := 14) (S := [.ref t]) tk_y_X11_in tk_s_X11_in tk_RX11_169 dX11_ranked_14 [.int a1, .int (0 : Int32), .int (999 : Int32)] rfl (Nat.le_of_ble_eq_true rfl) (d1 := d - 1) (b1 := 0) (s1 := 0) (bc' := 0) (bs' := 0) (Q1 := fun r h9 => r = .inl (some (.int v1)) ∧ h = h9) (by omega) rfl rfl (w_X11_in (by omega) ev1 (fun _ _ q => q)) (fun E h9 q => nomatch (show (Sum.inr E : tq_R) = Sum.inl _ from q.1)) (fun r9 h9 q => ?_)
    obtain ⟨q1, rfl⟩ := q
    cases (show (Sum.inl r9 : tq_R) = Sum.inl (some (.int v1)) from q1)
    refine tq_if_eq (M := mX11_ranked) (pc := 17) (tgt := 24) dX11_ranked_17 (by decide) (fun cc => ?_) (fun cc => ?_)
    · have hf := tq_ifp hf cc
      refine tq_iconst (M := mX11_ranked) (pc := 24) dX11_ranked_24 tk_ki_2 ?_
      cases (Option.some.inj hf)
      exact HJ2
    · have hf := tq_ifn hf cc
      refine tq_iconst (M := mX11_ranked) (pc := 20) dX11_ranked_20 tk_ki_0 ?_
      refine tq_goto (M := mX11_ranked) (pc := 21) (tgt := 25) dX11_ranked_21 (by decide) ?_
      cases (Option.some.inj hf)
      exact HJ2
  · have hf := tq_ifn ep2 cc
    refine tq_iconst (M := mX11_ranked) (pc := 5) dX11_ranked_5 tk_ki_1 ?_
    refine tq_goto (M := mX11_ranked) (pc := 6) (tgt := 25) dX11_ranked_6 (by decide) ?_
    cases (Option.some.inj hf)
    exact HJ2
abbrev mX11_keep : tq_M := (RX11, cX11_keep, 3, (some .int), false, [], none)
def f_X11_keep_b25 (i0 : Nat) (s : Int32 × tq_H) : Option ((Int32 × tq_H) ⊕ (tq_H)) := match s with
  | (y1, hh) =>
    if y1 ≥ (60 : Int32) then
      some (.inr hh)
    else
      (tq_gi hh i0 11 49).bind fun x5 =>
      tq_let ((((60 : Int32) * x5) + y1)) fun x6 =>
      (tq_gr hh i0 11 50).bind fun k7 =>
      (tq_gr hh i0 11 9).bind fun k8 =>
      (tq_az hh k8 y1).bind fun x9 =>
      (tq_sz hh k7 x6 x9).bind fun w10 =>
      (tq_gr w10 i0 11 51).bind fun k11 =>
      (tq_gr w10 i0 11 3).bind fun k12 =>
      (tq_ai w10 k12 y1).bind fun x13 =>
      (tq_si w10 k11 x6 x13).bind fun w14 =>
      (tq_gr w14 i0 11 52).bind fun k15 =>
      (tq_gr w14 i0 11 4).bind fun k16 =>
      (tq_ai w14 k16 y1).bind fun x17 =>
      (tq_si w14 k15 x6 x17).bind fun w18 =>
      (tq_gr w18 i0 11 53).bind fun k19 =>
      (tq_gr w18 i0 11 5).bind fun k20 =>
      (tq_ai w18 k20 y1).bind fun x21 =>
      (tq_si w18 k19 x6 x21).bind fun w22 =>
      (tq_gr w22 i0 11 54).bind fun k23 =>
      (tq_gr w22 i0 11 6).bind fun k24 =>
      (tq_ai w22 k24 y1).bind fun x25 =>
      (tq_si w22 k23 x6 x25).bind fun w26 =>
      (tq_gr w26 i0 11 55).bind fun k27 =>
      (tq_gr w26 i0 11 7).bind fun k28 =>
      (tq_ai w26 k28 y1).bind fun x29 =>
      (tq_si w26 k27 x6 x29).bind fun w30 =>
      tq_let (y1 + (1 : Int32)) fun x31 =>
      some (.inl (x31, w30))
def f_X11_keep (t : Nat) (h : tq_H) : Option (Int32 × tq_H) :=
  (tq_gi h t 11 49).bind fun x1 =>
  tq_let (if x1 = (6 : Int32) then (1 : Int32) else (0 : Int32)) fun p2 =>
  (tq_is h t 11).bind fun _ =>
  (f_X11_refused t p2 h).bind fun v3 =>
  if v3.1 = 0 then
    (tq_loop (f_X11_keep_b25 t) tq_N ((0 : Int32), v3.2)).bind fun o32 =>
    (tq_gi o32 t 11 49).bind fun x33 =>
    (tq_pf o32 t 11 49 (.int ((x33 + (1 : Int32))))).bind fun w34 =>
    (tq_gi w34 t 11 49).bind fun x35 =>
    some ((x35 - (1 : Int32)), w34)
  else
    some ((0 : Int32), v3.2)
set_option maxHeartbeats 4000000 in
theorem l_X11_keep_25 {l : Launch} {d : Nat} {Q : tq_R → tq_H → Prop} (hd9 : 1 ≤ d) (i0 : Nat) : ∀ (n : Nat) (y1 : Int32) (hh : tq_H) (o : tq_H), tq_loop (f_X11_keep_b25 i0) n (y1, hh) = some o → tq_W l mX11_keep d 0 0 Q 119 [(0, .ref i0)] [] o → tq_W l mX11_keep d 0 0 Q 25 [(0, .ref i0), (1, .int y1)] [] hh := by
  intro n
  induction n with
  | zero => intro y1 hh o hl; cases hl
  | succ n ih =>
    intro y1 hh o hl hk
    obtain ⟨oo, hf, ho⟩ := tq_loop_s hl
    refine tq_iload_n (M := mX11_keep) (pc := 25) dX11_keep_25 rfl ?_
    refine tq_bipush (M := mX11_keep) (pc := 26) dX11_keep_26 tk_kb_60 ?_
    refine tq_icmp_ge (M := mX11_keep) (pc := 28) (tgt := 119) dX11_keep_28 (by decide) (fun cc => ?_) (fun cc => ?_)
    · have hf := tq_ifp hf cc
      refine tq_pick (L2 := [(0, .ref i0)]) [0] rfl ?_
      cases (Option.some.inj hf)
      cases (tq_lx ho)
      exact hk
    · have hf := tq_ifn hf cc
      refine tq_bipush (M := mX11_keep) (pc := 31) dX11_keep_31 tk_kb_60 ?_
      refine tq_aload_n (M := mX11_keep) (pc := 33) dX11_keep_33 rfl ?_
      obtain ⟨x5, ex5, hf⟩ := tq_be hf
      refine tq_getI (M := mX11_keep) (pc := 34) tk_c11 (by decide) dX11_keep_34 tk_RX11_416 rfl ex5 ?_
      refine tq_imul (M := mX11_keep) (pc := 37) dX11_keep_37 ?_
      refine tq_iload_n (M := mX11_keep) (pc := 38) dX11_keep_38 rfl ?_
      refine tq_iadd (M := mX11_keep) (pc := 39) dX11_keep_39 ?_
      obtain ⟨x6, ex6, hf⟩ := tq_le hf
      refine tq_istore_n (M := mX11_keep) (pc := 40) rfl dX11_keep_40 (L2 := [(2, .int x6), (0, .ref i0), (1, .int y1)]) (by decide) (by rw [ex6]; rfl) ?_
      refine tq_aload_n (M := mX11_keep) (pc := 41) dX11_keep_41 rfl ?_
      obtain ⟨k7, ek7, hf⟩ := tq_be hf
      refine tq_getR (M := mX11_keep) (pc := 42) tk_c11 (by decide) dX11_keep_42 tk_RX11_126 rfl ek7 ?_
      refine tq_iload_n (M := mX11_keep) (pc := 45) dX11_keep_45 rfl ?_
      refine tq_aload_n (M := mX11_keep) (pc := 46) dX11_keep_46 rfl ?_
      obtain ⟨k8, ek8, hf⟩ := tq_be hf
      refine tq_getR (M := mX11_keep) (pc := 47) tk_c11 (by decide) dX11_keep_47 tk_RX11_31 rfl ek8 ?_
      refine tq_iload_n (M := mX11_keep) (pc := 50) dX11_keep_50 rfl ?_
      obtain ⟨x9, ex9, hf⟩ := tq_be hf
      refine tq_zaldF (M := mX11_keep) (pc := 51) dX11_keep_51 ex9 ?_
      obtain ⟨w10, ew10, hf⟩ := tq_be hf
      refine tq_zastF (M := mX11_keep) (pc := 52) dX11_keep_52 ew10 ?_
      refine tq_aload_n (M := mX11_keep) (pc := 53) dX11_keep_53 rfl ?_
      obtain ⟨k11, ek11, hf⟩ := tq_be hf
      refine tq_getR (M := mX11_keep) (pc := 54) tk_c11 (by decide) dX11_keep_54 tk_RX11_129 rfl ek11 ?_
      refine tq_iload_n (M := mX11_keep) (pc := 57) dX11_keep_57 rfl ?_
      refine tq_aload_n (M := mX11_keep) (pc := 58) dX11_keep_58 rfl ?_
      obtain ⟨k12, ek12, hf⟩ := tq_be hf
      refine tq_getR (M := mX11_keep) (pc := 59) tk_c11 (by decide) dX11_keep_59 tk_RX11_13 rfl ek12 ?_
      refine tq_iload_n (M := mX11_keep) (pc := 62) dX11_keep_62 rfl ?_
      obtain ⟨x13, ex13, hf⟩ := tq_be hf
      refine tq_ialdF (M := mX11_keep) (pc := 63) dX11_keep_63 ex13 ?_
      obtain ⟨w14, ew14, hf⟩ := tq_be hf
      refine tq_iastF (M := mX11_keep) (pc := 64) dX11_keep_64 ew14 ?_
      refine tq_aload_n (M := mX11_keep) (pc := 65) dX11_keep_65 rfl ?_
      obtain ⟨k15, ek15, hf⟩ := tq_be hf
      refine tq_getR (M := mX11_keep) (pc := 66) tk_c11 (by decide) dX11_keep_66 tk_RX11_132 rfl ek15 ?_
      refine tq_iload_n (M := mX11_keep) (pc := 69) dX11_keep_69 rfl ?_
      refine tq_aload_n (M := mX11_keep) (pc := 70) dX11_keep_70 rfl ?_
      obtain ⟨k16, ek16, hf⟩ := tq_be hf
      refine tq_getR (M := mX11_keep) (pc := 71) tk_c11 (by decide) dX11_keep_71 tk_RX11_16 rfl ek16 ?_
      refine tq_iload_n (M := mX11_keep) (pc := 74) dX11_keep_74 rfl ?_
      obtain ⟨x17, ex17, hf⟩ := tq_be hf
      refine tq_ialdF (M := mX11_keep) (pc := 75) dX11_keep_75 ex17 ?_
      obtain ⟨w18, ew18, hf⟩ := tq_be hf
      refine tq_iastF (M := mX11_keep) (pc := 76) dX11_keep_76 ew18 ?_
      refine tq_aload_n (M := mX11_keep) (pc := 77) dX11_keep_77 rfl ?_
      obtain ⟨k19, ek19, hf⟩ := tq_be hf
      refine tq_getR (M := mX11_keep) (pc := 78) tk_c11 (by decide) dX11_keep_78 tk_RX11_135 rfl ek19 ?_
      refine tq_iload_n (M := mX11_keep) (pc := 81) dX11_keep_81 rfl ?_
      refine tq_aload_n (M := mX11_keep) (pc := 82) dX11_keep_82 rfl ?_
      obtain ⟨k20, ek20, hf⟩ := tq_be hf
      refine tq_getR (M := mX11_keep) (pc := 83) tk_c11 (by decide) dX11_keep_83 tk_RX11_19 rfl ek20 ?_
      refine tq_iload_n (M := mX11_keep) (pc := 86) dX11_keep_86 rfl ?_
      obtain ⟨x21, ex21, hf⟩ := tq_be hf
      refine tq_ialdF (M := mX11_keep) (pc := 87) dX11_keep_87 ex21 ?_
      obtain ⟨w22, ew22, hf⟩ := tq_be hf
      refine tq_iastF (M := mX11_keep) (pc := 88) dX11_keep_88 ew22 ?_
      refine tq_aload_n (M := mX11_keep) (pc := 89) dX11_keep_89 rfl ?_
      obtain ⟨k23, ek23, hf⟩ := tq_be hf
      refine tq_getR (M := mX11_keep) (pc := 90) tk_c11 (by decide) dX11_keep_90 tk_RX11_138 rfl ek23 ?_
      refine tq_iload_n (M := mX11_keep) (pc := 93) dX11_keep_93 rfl ?_
      refine tq_aload_n (M := mX11_keep) (pc := 94) dX11_keep_94 rfl ?_
      obtain ⟨k24, ek24, hf⟩ := tq_be hf
      refine tq_getR (M := mX11_keep) (pc := 95) tk_c11 (by decide) dX11_keep_95 tk_RX11_22 rfl ek24 ?_
      refine tq_iload_n (M := mX11_keep) (pc := 98) dX11_keep_98 rfl ?_
      obtain ⟨x25, ex25, hf⟩ := tq_be hf
      refine tq_ialdF (M := mX11_keep) (pc := 99) dX11_keep_99 ex25 ?_
      obtain ⟨w26, ew26, hf⟩ := tq_be hf
      refine tq_iastF (M := mX11_keep) (pc := 100) dX11_keep_100 ew26 ?_
      refine tq_aload_n (M := mX11_keep) (pc := 101) dX11_keep_101 rfl ?_
      obtain ⟨k27, ek27, hf⟩ := tq_be hf
      refine tq_getR (M := mX11_keep) (pc := 102) tk_c11 (by decide) dX11_keep_102 tk_RX11_141 rfl ek27 ?_
      refine tq_iload_n (M := mX11_keep) (pc := 105) dX11_keep_105 rfl ?_
      refine tq_aload_n (M := mX11_keep) (pc := 106) dX11_keep_106 rfl ?_
      obtain ⟨k28, ek28, hf⟩ := tq_be hf
      refine tq_getR (M := mX11_keep) (pc := 107) tk_c11 (by decide) dX11_keep_107 tk_RX11_25 rfl ek28 ?_
      refine tq_iload_n (M := mX11_keep) (pc := 110) dX11_keep_110 rfl ?_
      obtain ⟨x29, ex29, hf⟩ := tq_be hf
      refine tq_ialdF (M := mX11_keep) (pc := 111) dX11_keep_111 ex29 ?_
      obtain ⟨w30, ew30, hf⟩ := tq_be hf
      refine tq_iastF (M := mX11_keep) (pc := 112) dX11_keep_112 ew30 ?_
      obtain ⟨x31, ex31, hf⟩ := tq_le hf
      refine tq_iinc (M := mX11_keep) (pc := 113) (v := x31) (L2 := [(1, .int x31), (2, .int x6), (0, .ref i0)]) dX11_keep_113 rfl (by rw [ex31, tk_ki_1]) (by decide) rfl ?_
      refine tq_goto (M := mX11_keep) (pc := 116) (tgt := 25) dX11_keep_116 (by decide) ?_
      refine tq_pick (L2 := [(0, .ref i0), (1, .int x31)]) [2, 0] rfl ?_
      cases (Option.some.inj hf)
      exact ih _ _ o (tq_lc ho) hk
set_option maxHeartbeats 4000000 in
set_option maxRecDepth 20000 in
theorem w_X11_keep {l : Launch} {d : Nat} (hd9 : 1 ≤ d) {t : Nat} {h : tq_H} {o : Int32 × tq_H} {Q : tq_R → tq_H → Prop} (hf : f_X11_keep t h = some o) (hQ : ∀ r h9, r = .inl (some (.int o.1)) ∧ o.2 = h9 → Q r h9) : tq_C l yX11_keep cX11_keep 3 (some .int) d 0 0 [.ref t] h Q := by
  refine tq_body (y := yX11_keep) false (by decide +kernel) (fun z => by cases z) (Nat.le_of_ble_eq_true rfl) ?_
  show tq_W l mX11_keep d 0 0 Q 0 [(0, .ref t)] [] h
  refine tq_aload_n (M := mX11_keep) (pc := 0) dX11_keep_0 rfl ?_
  refine tq_aload_n (M := mX11_keep) (pc := 1) dX11_keep_1 rfl ?_
  obtain ⟨x1, ex1, hf⟩ := tq_be hf
  refine tq_getI (M := mX11_keep) (pc := 2) tk_c11 (by decide) dX11_keep_2 tk_RX11_416 rfl ex1 ?_
  refine tq_bipush (M := mX11_keep) (pc := 5) dX11_keep_5 tk_kb_6 ?_
  obtain ⟨p2, ep2, hf⟩ := tq_le hf
  have HJ7 : tq_W l mX11_keep d 0 0 Q 15 [(0, .ref t)] [.int p2, .ref t] h := by
    obtain ⟨⟨⟩, eu4, hf⟩ := tq_be hf
    obtain ⟨fsu4, eu4⟩ := tq_is_s eu4
    obtain ⟨v3, ev3, hf⟩ := tq_be hf
    refine tq_calV (M := mX11_keep) (pc := 15) (S := []) tk_y_X11_refused tk_v_X11_refused tk_RX11_204 dX11_keep_15 [.int p2] rfl (S0 := _) rfl eu4 rfl (Nat.le_of_ble_eq_true rfl) (d1 := d - 1) (b1 := 0) (s1 := 0) (bc' := 0) (bs' := 0) (Q1 := fun r h9 => r = .inl (some (.int v3.1)) ∧ v3.2 = h9) (by omega) rfl rfl (w_X11_refused (by omega) ev3 (fun _ _ q => q)) (fun E h9 q => nomatch (show (Sum.inr E : tq_R) = Sum.inl _ from q.1)) (fun r9 h9 q => ?_)
    obtain ⟨q1, rfl⟩ := q
    cases (show (Sum.inl r9 : tq_R) = Sum.inl (some (.int v3.1)) from q1)
    refine tq_if_eq (M := mX11_keep) (pc := 18) (tgt := 23) dX11_keep_18 (by decide) (fun cc => ?_) (fun cc => ?_)
    · have hf := tq_ifp hf cc
      refine tq_iconst (M := mX11_keep) (pc := 23) dX11_keep_23 tk_ki_0 ?_
      refine tq_istore_n (M := mX11_keep) (pc := 24) rfl dX11_keep_24 (L2 := [(1, .int (0 : Int32)), (0, .ref t)]) (by decide) rfl ?_
      obtain ⟨o32, eo32, hf⟩ := tq_be hf
      refine tq_pick (L2 := [(0, .ref t), (1, .int (0 : Int32))]) [1, 0] rfl ?_
      refine l_X11_keep_25 (by omega) t _ (0 : Int32) v3.2 _ eo32 ?_
      refine tq_aload_n (M := mX11_keep) (pc := 119) dX11_keep_119 rfl ?_
      refine tq_dup (M := mX11_keep) (pc := 120) dX11_keep_120 rfl ?_
      obtain ⟨x33, ex33, hf⟩ := tq_be hf
      refine tq_getI (M := mX11_keep) (pc := 121) tk_c11 (by decide) dX11_keep_121 tk_RX11_416 rfl ex33 ?_
      refine tq_iconst (M := mX11_keep) (pc := 124) dX11_keep_124 tk_ki_1 ?_
      refine tq_iadd (M := mX11_keep) (pc := 125) dX11_keep_125 ?_
      obtain ⟨w34, ew34, hf⟩ := tq_be hf
      refine tq_putv (M := mX11_keep) (pc := 126) tk_c11 (by decide) dX11_keep_126 tk_RX11_416 rfl (Or.inl rfl) ew34 (tq_nI _) ?_
      refine tq_aload_n (M := mX11_keep) (pc := 129) dX11_keep_129 rfl ?_
      obtain ⟨x35, ex35, hf⟩ := tq_be hf
      refine tq_getI (M := mX11_keep) (pc := 130) tk_c11 (by decide) dX11_keep_130 tk_RX11_416 rfl ex35 ?_
      refine tq_iconst (M := mX11_keep) (pc := 133) dX11_keep_133 tk_ki_1 ?_
      refine tq_isub (M := mX11_keep) (pc := 134) dX11_keep_134 ?_
      refine tq_iret (M := mX11_keep) (pc := 135) dX11_keep_135 rfl ?_
      cases (Option.some.inj hf)
      exact hQ _ _ ⟨rfl, rfl⟩
    · have hf := tq_ifn hf cc
      refine tq_iconst (M := mX11_keep) (pc := 21) dX11_keep_21 tk_ki_0 ?_
      refine tq_iret (M := mX11_keep) (pc := 22) dX11_keep_22 rfl ?_
      cases (Option.some.inj hf)
      exact hQ _ _ ⟨rfl, rfl⟩
  refine tq_icmp_ne (M := mX11_keep) (pc := 7) (tgt := 14) dX11_keep_7 (by decide) (fun cc => ?_) (fun cc => ?_)
  · have hf := tq_ifn ep2.symm cc
    refine tq_iconst (M := mX11_keep) (pc := 14) dX11_keep_14 tk_ki_0 ?_
    cases hf
    exact HJ7
  · have hf := tq_ifp ep2.symm cc
    refine tq_iconst (M := mX11_keep) (pc := 10) dX11_keep_10 tk_ki_1 ?_
    refine tq_goto (M := mX11_keep) (pc := 11) (tgt := 15) dX11_keep_11 (by decide) ?_
    cases hf
    exact HJ7
abbrev mX11_load : tq_M := (RX11, cX11_load, 4, none, false, [], none)
def f_X11_load_b2 (i0 : Nat) (i1 : Int32) (s : Int32 × tq_H) : Option ((Int32 × tq_H) ⊕ (tq_H)) := match s with
  | (y2, hh) =>
    if y2 ≥ (60 : Int32) then
      some (.inr hh)
    else
      tq_let ((((60 : Int32) * i1) + y2)) fun x1 =>
      (tq_gr hh i0 11 9).bind fun k2 =>
      (tq_gr hh i0 11 50).bind fun k3 =>
      (tq_az hh k3 x1).bind fun x4 =>
      (tq_sz hh k2 y2 x4).bind fun w5 =>
      (tq_gr w5 i0 11 3).bind fun k6 =>
      (tq_gr w5 i0 11 51).bind fun k7 =>
      (tq_ai w5 k7 x1).bind fun x8 =>
      (tq_si w5 k6 y2 x8).bind fun w9 =>
      (tq_gr w9 i0 11 4).bind fun k10 =>
      (tq_gr w9 i0 11 52).bind fun k11 =>
      (tq_ai w9 k11 x1).bind fun x12 =>
      (tq_si w9 k10 y2 x12).bind fun w13 =>
      (tq_gr w13 i0 11 5).bind fun k14 =>
      (tq_gr w13 i0 11 53).bind fun k15 =>
      (tq_ai w13 k15 x1).bind fun x16 =>
      (tq_si w13 k14 y2 x16).bind fun w17 =>
      (tq_gr w17 i0 11 6).bind fun k18 =>
      (tq_gr w17 i0 11 54).bind fun k19 =>
      (tq_ai w17 k19 x1).bind fun x20 =>
      (tq_si w17 k18 y2 x20).bind fun w21 =>
      (tq_gr w21 i0 11 7).bind fun k22 =>
      (tq_gr w21 i0 11 55).bind fun k23 =>
      (tq_ai w21 k23 x1).bind fun x24 =>
      (tq_si w21 k22 y2 x24).bind fun w25 =>
      tq_let (y2 + (1 : Int32)) fun x26 =>
      some (.inl (x26, w25))
def f_X11_load (t : Nat) (a1 : Int32) (h : tq_H) : Option (tq_H) :=
  (tq_loop (f_X11_load_b2 t a1) tq_N ((0 : Int32), h)).bind fun o27 =>
  (tq_is o27 t 11).bind fun _ =>
  (f_X11_arrange t o27).bind fun v28 =>
  some v28
set_option maxHeartbeats 4000000 in
theorem l_X11_load_2 {l : Launch} {d : Nat} {Q : tq_R → tq_H → Prop} (hd9 : 2 ≤ d) (i0 : Nat) (i1 : Int32) : ∀ (n : Nat) (y2 : Int32) (hh : tq_H) (o : tq_H), tq_loop (f_X11_load_b2 i0 i1) n (y2, hh) = some o → tq_W l mX11_load d 0 0 Q 93 [(0, .ref i0)] [] o → tq_W l mX11_load d 0 0 Q 2 [(0, .ref i0), (1, .int i1), (2, .int y2)] [] hh := by
  intro n
  induction n with
  | zero => intro y2 hh o hl; cases hl
  | succ n ih =>
    intro y2 hh o hl hk
    obtain ⟨oo, hf, ho⟩ := tq_loop_s hl
    refine tq_iload_n (M := mX11_load) (pc := 2) dX11_load_2 rfl ?_
    refine tq_bipush (M := mX11_load) (pc := 3) dX11_load_3 tk_kb_60 ?_
    refine tq_icmp_ge (M := mX11_load) (pc := 5) (tgt := 93) dX11_load_5 (by decide) (fun cc => ?_) (fun cc => ?_)
    · have hf := tq_ifp hf cc
      refine tq_pick (L2 := [(0, .ref i0)]) [0] rfl ?_
      cases (Option.some.inj hf)
      cases (tq_lx ho)
      exact hk
    · have hf := tq_ifn hf cc
      refine tq_bipush (M := mX11_load) (pc := 8) dX11_load_8 tk_kb_60 ?_
      refine tq_iload_n (M := mX11_load) (pc := 10) dX11_load_10 rfl ?_
      refine tq_imul (M := mX11_load) (pc := 11) dX11_load_11 ?_
      refine tq_iload_n (M := mX11_load) (pc := 12) dX11_load_12 rfl ?_
      refine tq_iadd (M := mX11_load) (pc := 13) dX11_load_13 ?_
      obtain ⟨x1, ex1, hf⟩ := tq_le hf
      refine tq_istore_n (M := mX11_load) (pc := 14) rfl dX11_load_14 (L2 := [(3, .int x1), (0, .ref i0), (1, .int i1), (2, .int y2)]) (by decide) (by rw [ex1]; rfl) ?_
      refine tq_aload_n (M := mX11_load) (pc := 15) dX11_load_15 rfl ?_
      obtain ⟨k2, ek2, hf⟩ := tq_be hf
      refine tq_getR (M := mX11_load) (pc := 16) tk_c11 (by decide) dX11_load_16 tk_RX11_31 rfl ek2 ?_
      refine tq_iload_n (M := mX11_load) (pc := 19) dX11_load_19 rfl ?_
      refine tq_aload_n (M := mX11_load) (pc := 20) dX11_load_20 rfl ?_
      obtain ⟨k3, ek3, hf⟩ := tq_be hf
      refine tq_getR (M := mX11_load) (pc := 21) tk_c11 (by decide) dX11_load_21 tk_RX11_126 rfl ek3 ?_
      refine tq_iload_n (M := mX11_load) (pc := 24) dX11_load_24 rfl ?_
      obtain ⟨x4, ex4, hf⟩ := tq_be hf
      refine tq_zaldF (M := mX11_load) (pc := 25) dX11_load_25 ex4 ?_
      obtain ⟨w5, ew5, hf⟩ := tq_be hf
      refine tq_zastF (M := mX11_load) (pc := 26) dX11_load_26 ew5 ?_
      refine tq_aload_n (M := mX11_load) (pc := 27) dX11_load_27 rfl ?_
      obtain ⟨k6, ek6, hf⟩ := tq_be hf
      refine tq_getR (M := mX11_load) (pc := 28) tk_c11 (by decide) dX11_load_28 tk_RX11_13 rfl ek6 ?_
      refine tq_iload_n (M := mX11_load) (pc := 31) dX11_load_31 rfl ?_
      refine tq_aload_n (M := mX11_load) (pc := 32) dX11_load_32 rfl ?_
      obtain ⟨k7, ek7, hf⟩ := tq_be hf
      refine tq_getR (M := mX11_load) (pc := 33) tk_c11 (by decide) dX11_load_33 tk_RX11_129 rfl ek7 ?_
      refine tq_iload_n (M := mX11_load) (pc := 36) dX11_load_36 rfl ?_
      obtain ⟨x8, ex8, hf⟩ := tq_be hf
      refine tq_ialdF (M := mX11_load) (pc := 37) dX11_load_37 ex8 ?_
      obtain ⟨w9, ew9, hf⟩ := tq_be hf
      refine tq_iastF (M := mX11_load) (pc := 38) dX11_load_38 ew9 ?_
      refine tq_aload_n (M := mX11_load) (pc := 39) dX11_load_39 rfl ?_
      obtain ⟨k10, ek10, hf⟩ := tq_be hf
      refine tq_getR (M := mX11_load) (pc := 40) tk_c11 (by decide) dX11_load_40 tk_RX11_16 rfl ek10 ?_
      refine tq_iload_n (M := mX11_load) (pc := 43) dX11_load_43 rfl ?_
      refine tq_aload_n (M := mX11_load) (pc := 44) dX11_load_44 rfl ?_
      obtain ⟨k11, ek11, hf⟩ := tq_be hf
      refine tq_getR (M := mX11_load) (pc := 45) tk_c11 (by decide) dX11_load_45 tk_RX11_132 rfl ek11 ?_
      refine tq_iload_n (M := mX11_load) (pc := 48) dX11_load_48 rfl ?_
      obtain ⟨x12, ex12, hf⟩ := tq_be hf
      refine tq_ialdF (M := mX11_load) (pc := 49) dX11_load_49 ex12 ?_
      obtain ⟨w13, ew13, hf⟩ := tq_be hf
      refine tq_iastF (M := mX11_load) (pc := 50) dX11_load_50 ew13 ?_
      refine tq_aload_n (M := mX11_load) (pc := 51) dX11_load_51 rfl ?_
      obtain ⟨k14, ek14, hf⟩ := tq_be hf
      refine tq_getR (M := mX11_load) (pc := 52) tk_c11 (by decide) dX11_load_52 tk_RX11_19 rfl ek14 ?_
      refine tq_iload_n (M := mX11_load) (pc := 55) dX11_load_55 rfl ?_
      refine tq_aload_n (M := mX11_load) (pc := 56) dX11_load_56 rfl ?_
      obtain ⟨k15, ek15, hf⟩ := tq_be hf
      refine tq_getR (M := mX11_load) (pc := 57) tk_c11 (by decide) dX11_load_57 tk_RX11_135 rfl ek15 ?_
      refine tq_iload_n (M := mX11_load) (pc := 60) dX11_load_60 rfl ?_
      obtain ⟨x16, ex16, hf⟩ := tq_be hf
      refine tq_ialdF (M := mX11_load) (pc := 61) dX11_load_61 ex16 ?_
      obtain ⟨w17, ew17, hf⟩ := tq_be hf
      refine tq_iastF (M := mX11_load) (pc := 62) dX11_load_62 ew17 ?_
      refine tq_aload_n (M := mX11_load) (pc := 63) dX11_load_63 rfl ?_
      obtain ⟨k18, ek18, hf⟩ := tq_be hf
      refine tq_getR (M := mX11_load) (pc := 64) tk_c11 (by decide) dX11_load_64 tk_RX11_22 rfl ek18 ?_
      refine tq_iload_n (M := mX11_load) (pc := 67) dX11_load_67 rfl ?_
      refine tq_aload_n (M := mX11_load) (pc := 68) dX11_load_68 rfl ?_
      obtain ⟨k19, ek19, hf⟩ := tq_be hf
      refine tq_getR (M := mX11_load) (pc := 69) tk_c11 (by decide) dX11_load_69 tk_RX11_138 rfl ek19 ?_
      refine tq_iload_n (M := mX11_load) (pc := 72) dX11_load_72 rfl ?_
      obtain ⟨x20, ex20, hf⟩ := tq_be hf
      refine tq_ialdF (M := mX11_load) (pc := 73) dX11_load_73 ex20 ?_
      obtain ⟨w21, ew21, hf⟩ := tq_be hf
      refine tq_iastF (M := mX11_load) (pc := 74) dX11_load_74 ew21 ?_
      refine tq_aload_n (M := mX11_load) (pc := 75) dX11_load_75 rfl ?_
      obtain ⟨k22, ek22, hf⟩ := tq_be hf
      refine tq_getR (M := mX11_load) (pc := 76) tk_c11 (by decide) dX11_load_76 tk_RX11_25 rfl ek22 ?_
      refine tq_iload_n (M := mX11_load) (pc := 79) dX11_load_79 rfl ?_
      refine tq_aload_n (M := mX11_load) (pc := 80) dX11_load_80 rfl ?_
      obtain ⟨k23, ek23, hf⟩ := tq_be hf
      refine tq_getR (M := mX11_load) (pc := 81) tk_c11 (by decide) dX11_load_81 tk_RX11_141 rfl ek23 ?_
      refine tq_iload_n (M := mX11_load) (pc := 84) dX11_load_84 rfl ?_
      obtain ⟨x24, ex24, hf⟩ := tq_be hf
      refine tq_ialdF (M := mX11_load) (pc := 85) dX11_load_85 ex24 ?_
      obtain ⟨w25, ew25, hf⟩ := tq_be hf
      refine tq_iastF (M := mX11_load) (pc := 86) dX11_load_86 ew25 ?_
      obtain ⟨x26, ex26, hf⟩ := tq_le hf
      refine tq_iinc (M := mX11_load) (pc := 87) (v := x26) (L2 := [(2, .int x26), (3, .int x1), (0, .ref i0), (1, .int i1)]) dX11_load_87 rfl (by rw [ex26, tk_ki_1]) (by decide) rfl ?_
      refine tq_goto (M := mX11_load) (pc := 90) (tgt := 2) dX11_load_90 (by decide) ?_
      refine tq_pick (L2 := [(0, .ref i0), (1, .int i1), (2, .int x26)]) [2, 3, 0] rfl ?_
      cases (Option.some.inj hf)
      exact ih _ _ o (tq_lc ho) hk
set_option maxHeartbeats 4000000 in
set_option maxRecDepth 20000 in
theorem w_X11_load {l : Launch} {d : Nat} (hd9 : 2 ≤ d) {t : Nat} {a1 : Int32} {h : tq_H} {o : tq_H} {Q : tq_R → tq_H → Prop} (hf : f_X11_load t a1 h = some o) (hQ : ∀ r h9, r = .inl none ∧ o = h9 → Q r h9) : tq_C l yX11_load cX11_load 4 none d 0 0 [.ref t, .int a1] h Q := by
  refine tq_body (y := yX11_load) false (by decide +kernel) (fun z => by cases z) (Nat.le_of_ble_eq_true rfl) ?_
  show tq_W l mX11_load d 0 0 Q 0 [(0, .ref t), (1, .int a1)] [] h
  refine tq_iconst (M := mX11_load) (pc := 0) dX11_load_0 tk_ki_0 ?_
  refine tq_istore_n (M := mX11_load) (pc := 1) rfl dX11_load_1 (L2 := [(2, .int (0 : Int32)), (0, .ref t), (1, .int a1)]) (by decide) rfl ?_
  obtain ⟨o27, eo27, hf⟩ := tq_be hf
  refine tq_pick (L2 := [(0, .ref t), (1, .int a1), (2, .int (0 : Int32))]) [1, 2, 0] rfl ?_
  refine l_X11_load_2 (by omega) t a1 _ (0 : Int32) h _ eo27 ?_
  refine tq_aload_n (M := mX11_load) (pc := 93) dX11_load_93 rfl ?_
  obtain ⟨⟨⟩, eu29, hf⟩ := tq_be hf
  obtain ⟨fsu29, eu29⟩ := tq_is_s eu29
  obtain ⟨v28, ev28, hf⟩ := tq_be hf
  refine tq_calV (M := mX11_load) (pc := 94) (S := []) tk_y_X11_arrange tk_v_X11_arrange tk_RX11_163 dX11_load_94 [] rfl (S0 := _) rfl eu29 rfl (Nat.le_of_ble_eq_true rfl) (d1 := d - 1) (b1 := 0) (s1 := 0) (bc' := 0) (bs' := 0) (Q1 := fun r h9 => r = .inl none ∧ v28 = h9) (by omega) rfl rfl (w_X11_arrange (by omega) ev28 (fun _ _ q => q)) (fun E h9 q => nomatch (show (Sum.inr E : tq_R) = Sum.inl _ from q.1)) (fun r9 h9 q => ?_)
  obtain ⟨q1, rfl⟩ := q
  cases (show (Sum.inl r9 : tq_R) = Sum.inl (none) from q1)
  refine tq_vret (M := mX11_load) (pc := 97) dX11_load_97 rfl ?_
  cases (Option.some.inj hf)
  exact hQ _ _ ⟨rfl, rfl⟩
abbrev mX11_isVersion : tq_M := (RX11, cX11_isVersion, 2, (some .boolean), false, [], none)
def f_X11_isVersion (t : Nat) (a1 : Int32) (h : tq_H) : Option (Int32) :=
  (tq_gi h t 11 49).bind fun x1 =>
  (f_X11_in a1 (0 : Int32) (x1 - (1 : Int32)) h).bind fun v2 =>
  (tq_bz v2).bind fun z3 =>
  some z3
set_option maxHeartbeats 4000000 in
set_option maxRecDepth 20000 in
theorem w_X11_isVersion {l : Launch} {d : Nat} (hd9 : 1 ≤ d) {t : Nat} {a1 : Int32} {h : tq_H} {o : Int32} {Q : tq_R → tq_H → Prop} (hf : f_X11_isVersion t a1 h = some o) (hQ : ∀ r h9, r = .inl (some (.int o)) ∧ h = h9 → Q r h9) : tq_C l yX11_isVersion cX11_isVersion 2 (some .boolean) d 0 0 [.ref t, .int a1] h Q := by
  refine tq_body (y := yX11_isVersion) false (by decide +kernel) (fun z => by cases z) (Nat.le_of_ble_eq_true rfl) ?_
  show tq_W l mX11_isVersion d 0 0 Q 0 [(0, .ref t), (1, .int a1)] [] h
  refine tq_iload_n (M := mX11_isVersion) (pc := 0) dX11_isVersion_0 rfl ?_
  refine tq_iconst (M := mX11_isVersion) (pc := 1) dX11_isVersion_1 tk_ki_0 ?_
  refine tq_aload_n (M := mX11_isVersion) (pc := 2) dX11_isVersion_2 rfl ?_
  obtain ⟨x1, ex1, hf⟩ := tq_be hf
  refine tq_getI (M := mX11_isVersion) (pc := 3) tk_c11 (by decide) dX11_isVersion_3 tk_RX11_416 rfl ex1 ?_
  refine tq_iconst (M := mX11_isVersion) (pc := 6) dX11_isVersion_6 tk_ki_1 ?_
  refine tq_isub (M := mX11_isVersion) (pc := 7) dX11_isVersion_7 ?_
  obtain ⟨v2, ev2, hf⟩ := tq_be hf
  refine tq_calS (M := mX11_isVersion) (pc := 8) (S := []) tk_y_X11_in tk_s_X11_in tk_RX11_169 dX11_isVersion_8 [.int a1, .int (0 : Int32), .int ((x1 - (1 : Int32)))] rfl (Nat.le_of_ble_eq_true rfl) (d1 := d - 1) (b1 := 0) (s1 := 0) (bc' := 0) (bs' := 0) (Q1 := fun r h9 => r = .inl (some (.int v2)) ∧ h = h9) (by omega) rfl rfl (w_X11_in (by omega) ev2 (fun _ _ q => q)) (fun E h9 q => nomatch (show (Sum.inr E : tq_R) = Sum.inl _ from q.1)) (fun r9 h9 q => ?_)
  obtain ⟨q1, rfl⟩ := q
  cases (show (Sum.inl r9 : tq_R) = Sum.inl (some (.int v2)) from q1)
  obtain ⟨z3, ez3, hf⟩ := tq_be hf
  refine tq_zretB (M := mX11_isVersion) (pc := 11) dX11_isVersion_11 rfl ez3 ?_
  cases (Option.some.inj hf)
  exact hQ _ _ ⟨rfl, rfl⟩
abbrev mX11_take : tq_M := (RX11, cX11_take, 2, (some .int), false, [], none)
def f_X11_take (t : Nat) (a1 : Int32) (h : tq_H) : Option (Int32 × tq_H) :=
  (tq_is h t 11).bind fun _ =>
  (f_X11_isVersion t a1 h).bind fun v1 =>
  (if v1 = 0 then
    some (1 : Int32)
  else
    (tq_gi h t 11 15).bind fun x3 =>
    if x3 ≤ 0 then
      some (0 : Int32)
    else
      some (2 : Int32)).bind fun p4 =>
  (tq_is h t 11).bind fun _ =>
  (f_X11_refused t p4 h).bind fun v5 =>
  if v5.1 = 0 then
    (tq_is v5.2 t 11).bind fun _ =>
    (f_X11_remember t v5.2).bind fun v7 =>
    (tq_is v7 t 11).bind fun _ =>
    (f_X11_load t a1 v7).bind fun v9 =>
    (tq_gi v9 t 11 42).bind fun x11 =>
    if x11 = 0 then
      (tq_is v9 t 11).bind fun _ =>
      (f_X11_numberAll t v9).bind fun v12 =>
      (tq_is v12 t 11).bind fun _ =>
      (f_X11_lookAtViews t v12).bind fun v14 =>
      (tq_gi v14 t 11 11).bind fun x16 =>
      some (x16, v14)
    else
      (tq_is v9 t 11).bind fun _ =>
      (f_X11_isRight t v9).bind fun v17 =>
      if v17.1 = 0 then
        (tq_is v17.2 t 11).bind fun _ =>
        (f_X11_comeBack t v17.2).bind fun v24 =>
        (tq_is v24 t 11).bind fun _ =>
        (f_X11_arrange t v24).bind fun v26 =>
        (tq_is v26 t 11).bind fun _ =>
        (f_X11_refused t (2 : Int32) v26).bind fun v28 =>
        some ((0 : Int32), v28.2)
      else
        (tq_is v17.2 t 11).bind fun _ =>
        (f_X11_numberAll t v17.2).bind fun v19 =>
        (tq_is v19 t 11).bind fun _ =>
        (f_X11_lookAtViews t v19).bind fun v21 =>
        (tq_gi v21 t 11 11).bind fun x23 =>
        some (x23, v21)
  else
    some ((0 : Int32), v5.2)
set_option maxHeartbeats 4000000 in
set_option maxRecDepth 20000 in
theorem w_X11_take {l : Launch} {d : Nat} (hd9 : 6 ≤ d) {t : Nat} {a1 : Int32} {h : tq_H} {o : Int32 × tq_H} {Q : tq_R → tq_H → Prop} (hf : f_X11_take t a1 h = some o) (hQ : ∀ r h9, r = .inl (some (.int o.1)) ∧ o.2 = h9 → Q r h9) : tq_C l yX11_take cX11_take 2 (some .int) d 0 0 [.ref t, .int a1] h Q := by
  refine tq_body (y := yX11_take) false (by decide +kernel) (fun z => by cases z) (Nat.le_of_ble_eq_true rfl) ?_
  show tq_W l mX11_take d 0 0 Q 0 [(0, .ref t), (1, .int a1)] [] h
  refine tq_aload_n (M := mX11_take) (pc := 0) dX11_take_0 rfl ?_
  refine tq_aload_n (M := mX11_take) (pc := 1) dX11_take_1 rfl ?_
  refine tq_iload_n (M := mX11_take) (pc := 2) dX11_take_2 rfl ?_
  obtain ⟨⟨⟩, eu2, hf⟩ := tq_be hf
  obtain ⟨fsu2, eu2⟩ := tq_is_s eu2
  obtain ⟨v1, ev1, hf⟩ := tq_be hf
  refine tq_calV (M := mX11_take) (pc := 3) (S := [.ref t]) tk_y_X11_isVersion tk_v_X11_isVersion tk_RX11_419 dX11_take_3 [.int a1] rfl (S0 := _) rfl eu2 rfl (Nat.le_of_ble_eq_true rfl) (d1 := d - 1) (b1 := 0) (s1 := 0) (bc' := 0) (bs' := 0) (Q1 := fun r h9 => r = .inl (some (.int v1)) ∧ h = h9) (by omega) rfl rfl (w_X11_isVersion (by omega) ev1 (fun _ _ q => q)) (fun E h9 q => nomatch (show (Sum.inr E : tq_R) = Sum.inl _ from q.1)) (fun r9 h9 q => ?_)
  obtain ⟨q1, rfl⟩ := q
  cases (show (Sum.inl r9 : tq_R) = Sum.inl (some (.int v1)) from q1)
  obtain ⟨p4, ep4, hf⟩ := tq_be hf
  have HJ6 : tq_W l mX11_take d 0 0 Q 25 [(0, .ref t), (1, .int a1)] [.int p4, .ref t] h := by
    obtain ⟨⟨⟩, eu6, hf⟩ := tq_be hf
    obtain ⟨fsu6, eu6⟩ := tq_is_s eu6
    obtain ⟨v5, ev5, hf⟩ := tq_be hf
    refine tq_calV (M := mX11_take) (pc := 25) (S := []) tk_y_X11_refused tk_v_X11_refused tk_RX11_204 dX11_take_25 [.int p4] rfl (S0 := _) rfl eu6 rfl (Nat.le_of_ble_eq_true rfl) (d1 := d - 1) (b1 := 0) (s1 := 0) (bc' := 0) (bs' := 0) (Q1 := fun r h9 => r = .inl (some (.int v5.1)) ∧ v5.2 = h9) (by omega) rfl rfl (w_X11_refused (by omega) ev5 (fun _ _ q => q)) (fun E h9 q => nomatch (show (Sum.inr E : tq_R) = Sum.inl _ from q.1)) (fun r9 h9 q => ?_)
    obtain ⟨q1, rfl⟩ := q
    cases (show (Sum.inl r9 : tq_R) = Sum.inl (some (.int v5.1)) from q1)
    refine tq_if_eq (M := mX11_take) (pc := 28) (tgt := 33) dX11_take_28 (by decide) (fun cc => ?_) (fun cc => ?_)
    · have hf := tq_ifp hf cc
      refine tq_aload_n (M := mX11_take) (pc := 33) dX11_take_33 rfl ?_
      obtain ⟨⟨⟩, eu8, hf⟩ := tq_be hf
      obtain ⟨fsu8, eu8⟩ := tq_is_s eu8
      obtain ⟨v7, ev7, hf⟩ := tq_be hf
      refine tq_calV (M := mX11_take) (pc := 34) (S := []) tk_y_X11_remember tk_v_X11_remember tk_RX11_225 dX11_take_34 [] rfl (S0 := _) rfl eu8 rfl (Nat.le_of_ble_eq_true rfl) (d1 := d - 1) (b1 := 0) (s1 := 0) (bc' := 0) (bs' := 0) (Q1 := fun r h9 => r = .inl none ∧ v7 = h9) (by omega) rfl rfl (w_X11_remember (by omega) ev7 (fun _ _ q => q)) (fun E h9 q => nomatch (show (Sum.inr E : tq_R) = Sum.inl _ from q.1)) (fun r9 h9 q => ?_)
      obtain ⟨q1, rfl⟩ := q
      cases (show (Sum.inl r9 : tq_R) = Sum.inl (none) from q1)
      refine tq_aload_n (M := mX11_take) (pc := 37) dX11_take_37 rfl ?_
      refine tq_iload_n (M := mX11_take) (pc := 38) dX11_take_38 rfl ?_
      obtain ⟨⟨⟩, eu10, hf⟩ := tq_be hf
      obtain ⟨fsu10, eu10⟩ := tq_is_s eu10
      obtain ⟨v9, ev9, hf⟩ := tq_be hf
      refine tq_calV (M := mX11_take) (pc := 39) (S := []) tk_y_X11_load tk_v_X11_load tk_RX11_422 dX11_take_39 [.int a1] rfl (S0 := _) rfl eu10 rfl (Nat.le_of_ble_eq_true rfl) (d1 := d - 1) (b1 := 0) (s1 := 0) (bc' := 0) (bs' := 0) (Q1 := fun r h9 => r = .inl none ∧ v9 = h9) (by omega) rfl rfl (w_X11_load (by omega) ev9 (fun _ _ q => q)) (fun E h9 q => nomatch (show (Sum.inr E : tq_R) = Sum.inl _ from q.1)) (fun r9 h9 q => ?_)
      obtain ⟨q1, rfl⟩ := q
      cases (show (Sum.inl r9 : tq_R) = Sum.inl (none) from q1)
      refine tq_aload_n (M := mX11_take) (pc := 42) dX11_take_42 rfl ?_
      obtain ⟨x11, ex11, hf⟩ := tq_be hf
      refine tq_getI (M := mX11_take) (pc := 43) tk_c11 (by decide) dX11_take_43 tk_RX11_244 rfl ex11 ?_
      refine tq_if_eq (M := mX11_take) (pc := 46) (tgt := 72) dX11_take_46 (by decide) (fun cc => ?_) (fun cc => ?_)
      · have hf := tq_ifp hf cc
        refine tq_aload_n (M := mX11_take) (pc := 72) dX11_take_72 rfl ?_
        obtain ⟨⟨⟩, eu13, hf⟩ := tq_be hf
        obtain ⟨fsu13, eu13⟩ := tq_is_s eu13
        obtain ⟨v12, ev12, hf⟩ := tq_be hf
        refine tq_calV (M := mX11_take) (pc := 73) (S := []) tk_y_X11_numberAll tk_v_X11_numberAll tk_RX11_277 dX11_take_73 [] rfl (S0 := _) rfl eu13 rfl (Nat.le_of_ble_eq_true rfl) (d1 := d - 1) (b1 := 0) (s1 := 0) (bc' := 0) (bs' := 0) (Q1 := fun r h9 => r = .inl none ∧ v12 = h9) (by omega) rfl rfl (w_X11_numberAll (by omega) ev12 (fun _ _ q => q)) (fun E h9 q => nomatch (show (Sum.inr E : tq_R) = Sum.inl _ from q.1)) (fun r9 h9 q => ?_)
        obtain ⟨q1, rfl⟩ := q
        cases (show (Sum.inl r9 : tq_R) = Sum.inl (none) from q1)
        refine tq_aload_n (M := mX11_take) (pc := 76) dX11_take_76 rfl ?_
        obtain ⟨⟨⟩, eu15, hf⟩ := tq_be hf
        obtain ⟨fsu15, eu15⟩ := tq_is_s eu15
        obtain ⟨v14, ev14, hf⟩ := tq_be hf
        refine tq_calV (M := mX11_take) (pc := 77) (S := []) tk_y_X11_lookAtViews tk_v_X11_lookAtViews tk_RX11_261 dX11_take_77 [] rfl (S0 := _) rfl eu15 rfl (Nat.le_of_ble_eq_true rfl) (d1 := d - 1) (b1 := 0) (s1 := 0) (bc' := 0) (bs' := 0) (Q1 := fun r h9 => r = .inl none ∧ v14 = h9) (by omega) rfl rfl (w_X11_lookAtViews (by omega) ev14 (fun _ _ q => q)) (fun E h9 q => nomatch (show (Sum.inr E : tq_R) = Sum.inl _ from q.1)) (fun r9 h9 q => ?_)
        obtain ⟨q1, rfl⟩ := q
        cases (show (Sum.inl r9 : tq_R) = Sum.inl (none) from q1)
        refine tq_aload_n (M := mX11_take) (pc := 80) dX11_take_80 rfl ?_
        obtain ⟨x16, ex16, hf⟩ := tq_be hf
        refine tq_getI (M := mX11_take) (pc := 81) tk_c11 (by decide) dX11_take_81 tk_RX11_173 rfl ex16 ?_
        refine tq_iret (M := mX11_take) (pc := 84) dX11_take_84 rfl ?_
        cases (Option.some.inj hf)
        exact hQ _ _ ⟨rfl, rfl⟩
      · have hf := tq_ifn hf cc
        refine tq_aload_n (M := mX11_take) (pc := 49) dX11_take_49 rfl ?_
        obtain ⟨⟨⟩, eu18, hf⟩ := tq_be hf
        obtain ⟨fsu18, eu18⟩ := tq_is_s eu18
        obtain ⟨v17, ev17, hf⟩ := tq_be hf
        refine tq_calV (M := mX11_take) (pc := 50) (S := []) tk_y_X11_isRight tk_v_X11_isRight tk_RX11_248 dX11_take_50 [] rfl (S0 := _) rfl eu18 rfl (Nat.le_of_ble_eq_true rfl) (d1 := d - 1) (b1 := 0) (s1 := 0) (bc' := 0) (bs' := 0) (Q1 := fun r h9 => r = .inl (some (.int v17.1)) ∧ v17.2 = h9) (by omega) rfl rfl (w_X11_isRight (by omega) ev17 (fun _ _ q => q)) (fun E h9 q => nomatch (show (Sum.inr E : tq_R) = Sum.inl _ from q.1)) (fun r9 h9 q => ?_)
        obtain ⟨q1, rfl⟩ := q
        cases (show (Sum.inl r9 : tq_R) = Sum.inl (some (.int v17.1)) from q1)
        refine tq_if_ne (M := mX11_take) (pc := 53) (tgt := 72) dX11_take_53 (by decide) (fun cc => ?_) (fun cc => ?_)
        · have hf := tq_ifn hf cc
          refine tq_aload_n (M := mX11_take) (pc := 72) dX11_take_72 rfl ?_
          obtain ⟨⟨⟩, eu20, hf⟩ := tq_be hf
          obtain ⟨fsu20, eu20⟩ := tq_is_s eu20
          obtain ⟨v19, ev19, hf⟩ := tq_be hf
          refine tq_calV (M := mX11_take) (pc := 73) (S := []) tk_y_X11_numberAll tk_v_X11_numberAll tk_RX11_277 dX11_take_73 [] rfl (S0 := _) rfl eu20 rfl (Nat.le_of_ble_eq_true rfl) (d1 := d - 1) (b1 := 0) (s1 := 0) (bc' := 0) (bs' := 0) (Q1 := fun r h9 => r = .inl none ∧ v19 = h9) (by omega) rfl rfl (w_X11_numberAll (by omega) ev19 (fun _ _ q => q)) (fun E h9 q => nomatch (show (Sum.inr E : tq_R) = Sum.inl _ from q.1)) (fun r9 h9 q => ?_)
          obtain ⟨q1, rfl⟩ := q
          cases (show (Sum.inl r9 : tq_R) = Sum.inl (none) from q1)
          refine tq_aload_n (M := mX11_take) (pc := 76) dX11_take_76 rfl ?_
          obtain ⟨⟨⟩, eu22, hf⟩ := tq_be hf
          obtain ⟨fsu22, eu22⟩ := tq_is_s eu22
          obtain ⟨v21, ev21, hf⟩ := tq_be hf
          refine tq_calV (M := mX11_take) (pc := 77) (S := []) tk_y_X11_lookAtViews tk_v_X11_lookAtViews tk_RX11_261 dX11_take_77 [] rfl (S0 := _) rfl eu22 rfl (Nat.le_of_ble_eq_true rfl) (d1 := d - 1) (b1 := 0) (s1 := 0) (bc' := 0) (bs' := 0) (Q1 := fun r h9 => r = .inl none ∧ v21 = h9) (by omega) rfl rfl (w_X11_lookAtViews (by omega) ev21 (fun _ _ q => q)) (fun E h9 q => nomatch (show (Sum.inr E : tq_R) = Sum.inl _ from q.1)) (fun r9 h9 q => ?_)
          obtain ⟨q1, rfl⟩ := q
          cases (show (Sum.inl r9 : tq_R) = Sum.inl (none) from q1)
          refine tq_aload_n (M := mX11_take) (pc := 80) dX11_take_80 rfl ?_
          obtain ⟨x23, ex23, hf⟩ := tq_be hf
          refine tq_getI (M := mX11_take) (pc := 81) tk_c11 (by decide) dX11_take_81 tk_RX11_173 rfl ex23 ?_
          refine tq_iret (M := mX11_take) (pc := 84) dX11_take_84 rfl ?_
          cases (Option.some.inj hf)
          exact hQ _ _ ⟨rfl, rfl⟩
        · have hf := tq_ifp hf cc
          refine tq_aload_n (M := mX11_take) (pc := 56) dX11_take_56 rfl ?_
          obtain ⟨⟨⟩, eu25, hf⟩ := tq_be hf
          obtain ⟨fsu25, eu25⟩ := tq_is_s eu25
          obtain ⟨v24, ev24, hf⟩ := tq_be hf
          refine tq_calV (M := mX11_take) (pc := 57) (S := []) tk_y_X11_comeBack tk_v_X11_comeBack tk_RX11_251 dX11_take_57 [] rfl (S0 := _) rfl eu25 rfl (Nat.le_of_ble_eq_true rfl) (d1 := d - 1) (b1 := 0) (s1 := 0) (bc' := 0) (bs' := 0) (Q1 := fun r h9 => r = .inl none ∧ v24 = h9) (by omega) rfl rfl (w_X11_comeBack (by omega) ev24 (fun _ _ q => q)) (fun E h9 q => nomatch (show (Sum.inr E : tq_R) = Sum.inl _ from q.1)) (fun r9 h9 q => ?_)
          obtain ⟨q1, rfl⟩ := q
          cases (show (Sum.inl r9 : tq_R) = Sum.inl (none) from q1)
          refine tq_aload_n (M := mX11_take) (pc := 60) dX11_take_60 rfl ?_
          obtain ⟨⟨⟩, eu27, hf⟩ := tq_be hf
          obtain ⟨fsu27, eu27⟩ := tq_is_s eu27
          obtain ⟨v26, ev26, hf⟩ := tq_be hf
          refine tq_calV (M := mX11_take) (pc := 61) (S := []) tk_y_X11_arrange tk_v_X11_arrange tk_RX11_163 dX11_take_61 [] rfl (S0 := _) rfl eu27 rfl (Nat.le_of_ble_eq_true rfl) (d1 := d - 1) (b1 := 0) (s1 := 0) (bc' := 0) (bs' := 0) (Q1 := fun r h9 => r = .inl none ∧ v26 = h9) (by omega) rfl rfl (w_X11_arrange (by omega) ev26 (fun _ _ q => q)) (fun E h9 q => nomatch (show (Sum.inr E : tq_R) = Sum.inl _ from q.1)) (fun r9 h9 q => ?_)
          obtain ⟨q1, rfl⟩ := q
          cases (show (Sum.inl r9 : tq_R) = Sum.inl (none) from q1)
          refine tq_aload_n (M := mX11_take) (pc := 64) dX11_take_64 rfl ?_
          refine tq_iconst (M := mX11_take) (pc := 65) dX11_take_65 tk_ki_2 ?_
          obtain ⟨⟨⟩, eu29, hf⟩ := tq_be hf
          obtain ⟨fsu29, eu29⟩ := tq_is_s eu29
          obtain ⟨v28, ev28, hf⟩ := tq_be hf
          refine tq_calV (M := mX11_take) (pc := 66) (S := []) tk_y_X11_refused tk_v_X11_refused tk_RX11_204 dX11_take_66 [.int (2 : Int32)] rfl (S0 := _) rfl eu29 rfl (Nat.le_of_ble_eq_true rfl) (d1 := d - 1) (b1 := 0) (s1 := 0) (bc' := 0) (bs' := 0) (Q1 := fun r h9 => r = .inl (some (.int v28.1)) ∧ v28.2 = h9) (by omega) rfl rfl (w_X11_refused (by omega) ev28 (fun _ _ q => q)) (fun E h9 q => nomatch (show (Sum.inr E : tq_R) = Sum.inl _ from q.1)) (fun r9 h9 q => ?_)
          obtain ⟨q1, rfl⟩ := q
          cases (show (Sum.inl r9 : tq_R) = Sum.inl (some (.int v28.1)) from q1)
          refine tq_pop_ (M := mX11_take) (pc := 69) dX11_take_69 rfl ?_
          refine tq_iconst (M := mX11_take) (pc := 70) dX11_take_70 tk_ki_0 ?_
          refine tq_iret (M := mX11_take) (pc := 71) dX11_take_71 rfl ?_
          cases (Option.some.inj hf)
          exact hQ _ _ ⟨rfl, rfl⟩
    · have hf := tq_ifn hf cc
      refine tq_iconst (M := mX11_take) (pc := 31) dX11_take_31 tk_ki_0 ?_
      refine tq_iret (M := mX11_take) (pc := 32) dX11_take_32 rfl ?_
      cases (Option.some.inj hf)
      exact hQ _ _ ⟨rfl, rfl⟩
  refine tq_if_ne (M := mX11_take) (pc := 6) (tgt := 13) dX11_take_6 (by decide) (fun cc => ?_) (fun cc => ?_)
  · have hf := tq_ifn ep4 cc
    refine tq_aload_n (M := mX11_take) (pc := 13) dX11_take_13 rfl ?_
    obtain ⟨x3, ex3, hf⟩ := tq_be hf
    refine tq_getI (M := mX11_take) (pc := 14) tk_c11 (by decide) dX11_take_14 tk_RX11_191 rfl ex3 ?_
    refine tq_if_le (M := mX11_take) (pc := 17) (tgt := 24) dX11_take_17 (by decide) (fun cc => ?_) (fun cc => ?_)
    · have hf := tq_ifp hf cc
      refine tq_iconst (M := mX11_take) (pc := 24) dX11_take_24 tk_ki_0 ?_
      cases (Option.some.inj hf)
      exact HJ6
    · have hf := tq_ifn hf cc
      refine tq_iconst (M := mX11_take) (pc := 20) dX11_take_20 tk_ki_2 ?_
      refine tq_goto (M := mX11_take) (pc := 21) (tgt := 25) dX11_take_21 (by decide) ?_
      cases (Option.some.inj hf)
      exact HJ6
  · have hf := tq_ifp ep4 cc
    refine tq_iconst (M := mX11_take) (pc := 9) dX11_take_9 tk_ki_1 ?_
    refine tq_goto (M := mX11_take) (pc := 10) (tgt := 25) dX11_take_10 (by decide) ?_
    cases (Option.some.inj hf)
    exact HJ6
abbrev mX11_layOut : tq_M := (RX11, cX11_layOut, 7, none, false, [], none)
def f_X11_layOut_b33 (i0 : Nat) (i1 : Int32) (i3 : Int32) (hh : tq_H) (s : Int32 × Int32) : Option ((Int32 × Int32) ⊕ (Int32)) := match s with
  | (y4, y5) =>
    (tq_gi hh i0 11 11).bind fun x8 =>
    if y5 ≥ x8 then
      some (.inr y4)
    else
      (tq_gr hh i0 11 12).bind fun k9 =>
      (tq_ai hh k9 y5).bind fun x10 =>
      (tq_gr hh i0 11 12).bind fun k11 =>
      (tq_ai hh k11 i3).bind fun x12 =>
      (tq_is hh i0 11).bind fun _ =>
      (f_X11_isBelow i0 x10 x12 hh).bind fun v13 =>
      if v13 = 0 then
        some (.inr y4)
      else
        tq_let (y4 + (1 : Int32)) fun x15 =>
        tq_let (y5 + (1 : Int32)) fun x16 =>
        some (.inl (x15, x16))
def f_X11_layOut_b87 (i0 : Nat) (i1 : Int32) (i3 : Int32) (i4 : Int32) (hh : tq_H) (s : Int32 × Int32) : Option ((Int32 × Int32) ⊕ (Int32)) := match s with
  | (y5, y6) =>
    if y6 = (-1 : Int32) then
      some (.inr y5)
    else
      tq_let (y5 + (1 : Int32)) fun x22 =>
      (tq_gr hh i0 11 6).bind fun k23 =>
      (tq_ai hh k23 y6).bind fun x24 =>
      some (.inl (x22, x24))
def f_X11_layOut_b17 (i0 : Nat) (i1 : Int32) (s : Int32 × tq_H) : Option ((Int32 × tq_H) ⊕ (tq_H)) := match s with
  | (y3, hh) =>
    (tq_gi hh i0 11 11).bind fun x6 =>
    if y3 ≥ x6 then
      some (.inr hh)
    else
      tq_let ((y3 + (1 : Int32))) fun x7 =>
      (tq_loop (f_X11_layOut_b33 i0 i1 y3 hh) tq_N ((0 : Int32), x7)).bind fun o17 =>
      (tq_gr hh i0 11 6).bind fun k18 =>
      (tq_gr hh i0 11 12).bind fun k19 =>
      (tq_ai hh k19 y3).bind fun x20 =>
      (tq_ai hh k18 x20).bind fun x21 =>
      (tq_loop (f_X11_layOut_b87 i0 i1 y3 o17 hh) tq_N ((0 : Int32), x21)).bind fun o25 =>
      tq_let ((((y3 - o25) + o17) + (1 : Int32))) fun x26 =>
      (tq_gr hh i0 11 57).bind fun k27 =>
      (tq_gr hh i0 11 12).bind fun k28 =>
      (tq_ai hh k28 y3).bind fun x29 =>
      (tq_si hh k27 (((61 : Int32) * i1) + x26) x29).bind fun w30 =>
      (tq_gr w30 i0 11 58).bind fun k31 =>
      (tq_si w30 k31 (((61 : Int32) * i1) + x26) (x26 - o17)).bind fun w32 =>
      tq_let (y3 + (1 : Int32)) fun x33 =>
      some (.inl (x33, w32))
def f_X11_layOut (t : Nat) (a1 : Int32) (a2 : Int32) (h : tq_H) : Option (tq_H) :=
  (tq_is h t 11).bind fun _ =>
  (f_X11_load t a2 h).bind fun v1 =>
  (tq_gr v1 t 11 56).bind fun k3 =>
  (tq_gi v1 t 11 11).bind fun x4 =>
  (tq_si v1 k3 a1 x4).bind fun w5 =>
  (tq_loop (f_X11_layOut_b17 t a1) tq_N ((0 : Int32), w5)).bind fun o34 =>
  some o34
set_option maxHeartbeats 4000000 in
theorem l_X11_layOut_33 {l : Launch} {d : Nat} {Q : tq_R → tq_H → Prop} (hd9 : 3 ≤ d) (i0 : Nat) (i1 : Int32) (i3 : Int32) (hh : tq_H) : ∀ (n : Nat) (y4 : Int32) (y5 : Int32) (o : Int32), tq_loop (f_X11_layOut_b33 i0 i1 i3 hh) n (y4, y5) = some o → tq_W l mX11_layOut d 0 0 Q 71 [(0, .ref i0), (1, .int i1), (3, .int i3), (4, .int o)] [] hh → tq_W l mX11_layOut d 0 0 Q 33 [(0, .ref i0), (1, .int i1), (3, .int i3), (4, .int y4), (5, .int y5)] [] hh := by
  intro n
  induction n with
  | zero => intro y4 y5 o hl; cases hl
  | succ n ih =>
    intro y4 y5 o hl hk
    obtain ⟨oo, hf, ho⟩ := tq_loop_s hl
    refine tq_iload (M := mX11_layOut) (pc := 33) dX11_layOut_33 rfl ?_
    refine tq_aload_n (M := mX11_layOut) (pc := 35) dX11_layOut_35 rfl ?_
    obtain ⟨x8, ex8, hf⟩ := tq_be hf
    refine tq_getI (M := mX11_layOut) (pc := 36) tk_c11 (by decide) dX11_layOut_36 tk_RX11_173 rfl ex8 ?_
    refine tq_icmp_ge (M := mX11_layOut) (pc := 39) (tgt := 71) dX11_layOut_39 (by decide) (fun cc => ?_) (fun cc => ?_)
    · have hf := tq_ifp hf cc
      refine tq_pick (L2 := [(0, .ref i0), (1, .int i1), (3, .int i3), (4, .int y4)]) [0, 1, 2, 3] rfl ?_
      cases (Option.some.inj hf)
      cases (tq_lx ho)
      exact hk
    · have hf := tq_ifn hf cc
      refine tq_aload_n (M := mX11_layOut) (pc := 42) dX11_layOut_42 rfl ?_
      refine tq_aload_n (M := mX11_layOut) (pc := 43) dX11_layOut_43 rfl ?_
      obtain ⟨k9, ek9, hf⟩ := tq_be hf
      refine tq_getR (M := mX11_layOut) (pc := 44) tk_c11 (by decide) dX11_layOut_44 tk_RX11_35 rfl ek9 ?_
      refine tq_iload (M := mX11_layOut) (pc := 47) dX11_layOut_47 rfl ?_
      obtain ⟨x10, ex10, hf⟩ := tq_be hf
      refine tq_ialdF (M := mX11_layOut) (pc := 49) dX11_layOut_49 ex10 ?_
      refine tq_aload_n (M := mX11_layOut) (pc := 50) dX11_layOut_50 rfl ?_
      obtain ⟨k11, ek11, hf⟩ := tq_be hf
      refine tq_getR (M := mX11_layOut) (pc := 51) tk_c11 (by decide) dX11_layOut_51 tk_RX11_35 rfl ek11 ?_
      refine tq_iload_n (M := mX11_layOut) (pc := 54) dX11_layOut_54 rfl ?_
      obtain ⟨x12, ex12, hf⟩ := tq_be hf
      refine tq_ialdF (M := mX11_layOut) (pc := 55) dX11_layOut_55 ex12 ?_
      obtain ⟨⟨⟩, eu14, hf⟩ := tq_be hf
      obtain ⟨fsu14, eu14⟩ := tq_is_s eu14
      obtain ⟨v13, ev13, hf⟩ := tq_be hf
      refine tq_calV (M := mX11_layOut) (pc := 56) (S := []) tk_y_X11_isBelow tk_v_X11_isBelow tk_RX11_187 dX11_layOut_56 [.int x10, .int x12] rfl (S0 := _) rfl eu14 rfl (Nat.le_of_ble_eq_true rfl) (d1 := d - 1) (b1 := 0) (s1 := 0) (bc' := 0) (bs' := 0) (Q1 := fun r h9 => r = .inl (some (.int v13)) ∧ hh = h9) (by omega) rfl rfl (w_X11_isBelow (by omega) ev13 (fun _ _ q => q)) (fun E h9 q => nomatch (show (Sum.inr E : tq_R) = Sum.inl _ from q.1)) (fun r9 h9 q => ?_)
      obtain ⟨q1, rfl⟩ := q
      cases (show (Sum.inl r9 : tq_R) = Sum.inl (some (.int v13)) from q1)
      refine tq_if_eq (M := mX11_layOut) (pc := 59) (tgt := 71) dX11_layOut_59 (by decide) (fun cc => ?_) (fun cc => ?_)
      · have hf := tq_ifp hf cc
        refine tq_pick (L2 := [(0, .ref i0), (1, .int i1), (3, .int i3), (4, .int y4)]) [0, 1, 2, 3] rfl ?_
        cases (Option.some.inj hf)
        cases (tq_lx ho)
        exact hk
      · have hf := tq_ifn hf cc
        obtain ⟨x15, ex15, hf⟩ := tq_le hf
        refine tq_iinc (M := mX11_layOut) (pc := 62) (v := x15) (L2 := [(4, .int x15), (0, .ref i0), (1, .int i1), (3, .int i3), (5, .int y5)]) dX11_layOut_62 rfl (by rw [ex15, tk_ki_1]) (by decide) rfl ?_
        obtain ⟨x16, ex16, hf⟩ := tq_le hf
        refine tq_iinc (M := mX11_layOut) (pc := 65) (v := x16) (L2 := [(5, .int x16), (4, .int x15), (0, .ref i0), (1, .int i1), (3, .int i3)]) dX11_layOut_65 rfl (by rw [ex16, tk_ki_1]) (by decide) rfl ?_
        refine tq_goto (M := mX11_layOut) (pc := 68) (tgt := 33) dX11_layOut_68 (by decide) ?_
        refine tq_pick (L2 := [(0, .ref i0), (1, .int i1), (3, .int i3), (4, .int x15), (5, .int x16)]) [2, 3, 4, 1, 0] rfl ?_
        cases (Option.some.inj hf)
        exact ih _ _ o (tq_lc ho) hk
set_option maxHeartbeats 4000000 in
theorem l_X11_layOut_87 {l : Launch} {d : Nat} {Q : tq_R → tq_H → Prop} (hd9 : 3 ≤ d) (i0 : Nat) (i1 : Int32) (i3 : Int32) (i4 : Int32) (hh : tq_H) : ∀ (n : Nat) (y5 : Int32) (y6 : Int32) (o : Int32), tq_loop (f_X11_layOut_b87 i0 i1 i3 i4 hh) n (y5, y6) = some o → tq_W l mX11_layOut d 0 0 Q 108 [(0, .ref i0), (1, .int i1), (3, .int i3), (4, .int i4), (5, .int o)] [] hh → tq_W l mX11_layOut d 0 0 Q 87 [(0, .ref i0), (1, .int i1), (3, .int i3), (4, .int i4), (5, .int y5), (6, .int y6)] [] hh := by
  intro n
  induction n with
  | zero => intro y5 y6 o hl; cases hl
  | succ n ih =>
    intro y5 y6 o hl hk
    obtain ⟨oo, hf, ho⟩ := tq_loop_s hl
    refine tq_iload (M := mX11_layOut) (pc := 87) dX11_layOut_87 rfl ?_
    refine tq_iconst (M := mX11_layOut) (pc := 89) dX11_layOut_89 tk_ki_m1 ?_
    refine tq_icmp_eq (M := mX11_layOut) (pc := 90) (tgt := 108) dX11_layOut_90 (by decide) (fun cc => ?_) (fun cc => ?_)
    · have hf := tq_ifp hf cc
      refine tq_pick (L2 := [(0, .ref i0), (1, .int i1), (3, .int i3), (4, .int i4), (5, .int y5)]) [0, 1, 2, 3, 4] rfl ?_
      cases (Option.some.inj hf)
      cases (tq_lx ho)
      exact hk
    · have hf := tq_ifn hf cc
      obtain ⟨x22, ex22, hf⟩ := tq_le hf
      refine tq_iinc (M := mX11_layOut) (pc := 93) (v := x22) (L2 := [(5, .int x22), (0, .ref i0), (1, .int i1), (3, .int i3), (4, .int i4), (6, .int y6)]) dX11_layOut_93 rfl (by rw [ex22, tk_ki_1]) (by decide) rfl ?_
      refine tq_aload_n (M := mX11_layOut) (pc := 96) dX11_layOut_96 rfl ?_
      obtain ⟨k23, ek23, hf⟩ := tq_be hf
      refine tq_getR (M := mX11_layOut) (pc := 97) tk_c11 (by decide) dX11_layOut_97 tk_RX11_22 rfl ek23 ?_
      refine tq_iload (M := mX11_layOut) (pc := 100) dX11_layOut_100 rfl ?_
      obtain ⟨x24, ex24, hf⟩ := tq_be hf
      refine tq_ialdF (M := mX11_layOut) (pc := 102) dX11_layOut_102 ex24 ?_
      refine tq_istore (M := mX11_layOut) (pc := 103) dX11_layOut_103 (L2 := [(6, .int x24), (5, .int x22), (0, .ref i0), (1, .int i1), (3, .int i3), (4, .int i4)]) (by decide) rfl ?_
      refine tq_goto (M := mX11_layOut) (pc := 105) (tgt := 87) dX11_layOut_105 (by decide) ?_
      refine tq_pick (L2 := [(0, .ref i0), (1, .int i1), (3, .int i3), (4, .int i4), (5, .int x22), (6, .int x24)]) [2, 3, 4, 5, 1, 0] rfl ?_
      cases (Option.some.inj hf)
      exact ih _ _ o (tq_lc ho) hk
set_option maxHeartbeats 4000000 in
theorem l_X11_layOut_17 {l : Launch} {d : Nat} {Q : tq_R → tq_H → Prop} (hd9 : 3 ≤ d) (i0 : Nat) (i1 : Int32) : ∀ (n : Nat) (y3 : Int32) (hh : tq_H) (o : tq_H), tq_loop (f_X11_layOut_b17 i0 i1) n (y3, hh) = some o → tq_W l mX11_layOut d 0 0 Q 160 [] [] o → tq_W l mX11_layOut d 0 0 Q 17 [(0, .ref i0), (1, .int i1), (3, .int y3)] [] hh := by
  intro n
  induction n with
  | zero => intro y3 hh o hl; cases hl
  | succ n ih =>
    intro y3 hh o hl hk
    obtain ⟨oo, hf, ho⟩ := tq_loop_s hl
    refine tq_iload_n (M := mX11_layOut) (pc := 17) dX11_layOut_17 rfl ?_
    refine tq_aload_n (M := mX11_layOut) (pc := 18) dX11_layOut_18 rfl ?_
    obtain ⟨x6, ex6, hf⟩ := tq_be hf
    refine tq_getI (M := mX11_layOut) (pc := 19) tk_c11 (by decide) dX11_layOut_19 tk_RX11_173 rfl ex6 ?_
    refine tq_icmp_ge (M := mX11_layOut) (pc := 22) (tgt := 160) dX11_layOut_22 (by decide) (fun cc => ?_) (fun cc => ?_)
    · have hf := tq_ifp hf cc
      refine tq_pick (L2 := []) [] rfl ?_
      cases (Option.some.inj hf)
      cases (tq_lx ho)
      exact hk
    · have hf := tq_ifn hf cc
      refine tq_iconst (M := mX11_layOut) (pc := 25) dX11_layOut_25 tk_ki_0 ?_
      refine tq_istore (M := mX11_layOut) (pc := 26) dX11_layOut_26 (L2 := [(4, .int (0 : Int32)), (0, .ref i0), (1, .int i1), (3, .int y3)]) (by decide) rfl ?_
      refine tq_iload_n (M := mX11_layOut) (pc := 28) dX11_layOut_28 rfl ?_
      refine tq_iconst (M := mX11_layOut) (pc := 29) dX11_layOut_29 tk_ki_1 ?_
      refine tq_iadd (M := mX11_layOut) (pc := 30) dX11_layOut_30 ?_
      obtain ⟨x7, ex7, hf⟩ := tq_le hf
      refine tq_istore (M := mX11_layOut) (pc := 31) dX11_layOut_31 (L2 := [(5, .int x7), (4, .int (0 : Int32)), (0, .ref i0), (1, .int i1), (3, .int y3)]) (by decide) (by rw [ex7]; rfl) ?_
      obtain ⟨o17, eo17, hf⟩ := tq_be hf
      refine tq_pick (L2 := [(0, .ref i0), (1, .int i1), (3, .int y3), (4, .int (0 : Int32)), (5, .int x7)]) [2, 3, 4, 1, 0] rfl ?_
      refine l_X11_layOut_33 (by omega) i0 i1 y3 hh _ (0 : Int32) x7 _ eo17 ?_
      refine tq_iconst (M := mX11_layOut) (pc := 71) dX11_layOut_71 tk_ki_0 ?_
      refine tq_istore (M := mX11_layOut) (pc := 72) dX11_layOut_72 (L2 := [(5, .int (0 : Int32)), (0, .ref i0), (1, .int i1), (3, .int y3), (4, .int o17)]) (by decide) rfl ?_
      refine tq_aload_n (M := mX11_layOut) (pc := 74) dX11_layOut_74 rfl ?_
      obtain ⟨k18, ek18, hf⟩ := tq_be hf
      refine tq_getR (M := mX11_layOut) (pc := 75) tk_c11 (by decide) dX11_layOut_75 tk_RX11_22 rfl ek18 ?_
      refine tq_aload_n (M := mX11_layOut) (pc := 78) dX11_layOut_78 rfl ?_
      obtain ⟨k19, ek19, hf⟩ := tq_be hf
      refine tq_getR (M := mX11_layOut) (pc := 79) tk_c11 (by decide) dX11_layOut_79 tk_RX11_35 rfl ek19 ?_
      refine tq_iload_n (M := mX11_layOut) (pc := 82) dX11_layOut_82 rfl ?_
      obtain ⟨x20, ex20, hf⟩ := tq_be hf
      refine tq_ialdF (M := mX11_layOut) (pc := 83) dX11_layOut_83 ex20 ?_
      obtain ⟨x21, ex21, hf⟩ := tq_be hf
      refine tq_ialdF (M := mX11_layOut) (pc := 84) dX11_layOut_84 ex21 ?_
      refine tq_istore (M := mX11_layOut) (pc := 85) dX11_layOut_85 (L2 := [(6, .int x21), (5, .int (0 : Int32)), (0, .ref i0), (1, .int i1), (3, .int y3), (4, .int o17)]) (by decide) rfl ?_
      obtain ⟨o25, eo25, hf⟩ := tq_be hf
      refine tq_pick (L2 := [(0, .ref i0), (1, .int i1), (3, .int y3), (4, .int o17), (5, .int (0 : Int32)), (6, .int x21)]) [2, 3, 4, 5, 1, 0] rfl ?_
      refine l_X11_layOut_87 (by omega) i0 i1 y3 o17 hh _ (0 : Int32) x21 _ eo25 ?_
      refine tq_iload_n (M := mX11_layOut) (pc := 108) dX11_layOut_108 rfl ?_
      refine tq_iload (M := mX11_layOut) (pc := 109) dX11_layOut_109 rfl ?_
      refine tq_isub (M := mX11_layOut) (pc := 111) dX11_layOut_111 ?_
      refine tq_iload (M := mX11_layOut) (pc := 112) dX11_layOut_112 rfl ?_
      refine tq_iadd (M := mX11_layOut) (pc := 114) dX11_layOut_114 ?_
      refine tq_iconst (M := mX11_layOut) (pc := 115) dX11_layOut_115 tk_ki_1 ?_
      refine tq_iadd (M := mX11_layOut) (pc := 116) dX11_layOut_116 ?_
      obtain ⟨x26, ex26, hf⟩ := tq_le hf
      refine tq_istore (M := mX11_layOut) (pc := 117) dX11_layOut_117 (L2 := [(6, .int x26), (0, .ref i0), (1, .int i1), (3, .int y3), (4, .int o17), (5, .int o25)]) (by decide) (by rw [ex26]; rfl) ?_
      refine tq_aload_n (M := mX11_layOut) (pc := 119) dX11_layOut_119 rfl ?_
      obtain ⟨k27, ek27, hf⟩ := tq_be hf
      refine tq_getR (M := mX11_layOut) (pc := 120) tk_c11 (by decide) dX11_layOut_120 tk_RX11_147 rfl ek27 ?_
      refine tq_bipush (M := mX11_layOut) (pc := 123) dX11_layOut_123 tk_kb_61 ?_
      refine tq_iload_n (M := mX11_layOut) (pc := 125) dX11_layOut_125 rfl ?_
      refine tq_imul (M := mX11_layOut) (pc := 126) dX11_layOut_126 ?_
      refine tq_iload (M := mX11_layOut) (pc := 127) dX11_layOut_127 rfl ?_
      refine tq_iadd (M := mX11_layOut) (pc := 129) dX11_layOut_129 ?_
      refine tq_aload_n (M := mX11_layOut) (pc := 130) dX11_layOut_130 rfl ?_
      obtain ⟨k28, ek28, hf⟩ := tq_be hf
      refine tq_getR (M := mX11_layOut) (pc := 131) tk_c11 (by decide) dX11_layOut_131 tk_RX11_35 rfl ek28 ?_
      refine tq_iload_n (M := mX11_layOut) (pc := 134) dX11_layOut_134 rfl ?_
      obtain ⟨x29, ex29, hf⟩ := tq_be hf
      refine tq_ialdF (M := mX11_layOut) (pc := 135) dX11_layOut_135 ex29 ?_
      obtain ⟨w30, ew30, hf⟩ := tq_be hf
      refine tq_iastF (M := mX11_layOut) (pc := 136) dX11_layOut_136 ew30 ?_
      refine tq_aload_n (M := mX11_layOut) (pc := 137) dX11_layOut_137 rfl ?_
      obtain ⟨k31, ek31, hf⟩ := tq_be hf
      refine tq_getR (M := mX11_layOut) (pc := 138) tk_c11 (by decide) dX11_layOut_138 tk_RX11_150 rfl ek31 ?_
      refine tq_bipush (M := mX11_layOut) (pc := 141) dX11_layOut_141 tk_kb_61 ?_
      refine tq_iload_n (M := mX11_layOut) (pc := 143) dX11_layOut_143 rfl ?_
      refine tq_imul (M := mX11_layOut) (pc := 144) dX11_layOut_144 ?_
      refine tq_iload (M := mX11_layOut) (pc := 145) dX11_layOut_145 rfl ?_
      refine tq_iadd (M := mX11_layOut) (pc := 147) dX11_layOut_147 ?_
      refine tq_iload (M := mX11_layOut) (pc := 148) dX11_layOut_148 rfl ?_
      refine tq_iload (M := mX11_layOut) (pc := 150) dX11_layOut_150 rfl ?_
      refine tq_isub (M := mX11_layOut) (pc := 152) dX11_layOut_152 ?_
      obtain ⟨w32, ew32, hf⟩ := tq_be hf
      refine tq_iastF (M := mX11_layOut) (pc := 153) dX11_layOut_153 ew32 ?_
      obtain ⟨x33, ex33, hf⟩ := tq_le hf
      refine tq_iinc (M := mX11_layOut) (pc := 154) (v := x33) (L2 := [(3, .int x33), (6, .int x26), (0, .ref i0), (1, .int i1), (4, .int o17), (5, .int o25)]) dX11_layOut_154 rfl (by rw [ex33, tk_ki_1]) (by decide) rfl ?_
      refine tq_goto (M := mX11_layOut) (pc := 157) (tgt := 17) dX11_layOut_157 (by decide) ?_
      refine tq_pick (L2 := [(0, .ref i0), (1, .int i1), (3, .int x33)]) [2, 3, 0] rfl ?_
      cases (Option.some.inj hf)
      exact ih _ _ o (tq_lc ho) hk
set_option maxHeartbeats 4000000 in
set_option maxRecDepth 20000 in
theorem w_X11_layOut {l : Launch} {d : Nat} (hd9 : 3 ≤ d) {t : Nat} {a1 : Int32} {a2 : Int32} {h : tq_H} {o : tq_H} {Q : tq_R → tq_H → Prop} (hf : f_X11_layOut t a1 a2 h = some o) (hQ : ∀ r h9, r = .inl none ∧ o = h9 → Q r h9) : tq_C l yX11_layOut cX11_layOut 7 none d 0 0 [.ref t, .int a1, .int a2] h Q := by
  refine tq_body (y := yX11_layOut) false (by decide +kernel) (fun z => by cases z) (Nat.le_of_ble_eq_true rfl) ?_
  show tq_W l mX11_layOut d 0 0 Q 0 [(0, .ref t), (1, .int a1), (2, .int a2)] [] h
  refine tq_aload_n (M := mX11_layOut) (pc := 0) dX11_layOut_0 rfl ?_
  refine tq_iload_n (M := mX11_layOut) (pc := 1) dX11_layOut_1 rfl ?_
  obtain ⟨⟨⟩, eu2, hf⟩ := tq_be hf
  obtain ⟨fsu2, eu2⟩ := tq_is_s eu2
  obtain ⟨v1, ev1, hf⟩ := tq_be hf
  refine tq_calV (M := mX11_layOut) (pc := 2) (S := []) tk_y_X11_load tk_v_X11_load tk_RX11_422 dX11_layOut_2 [.int a2] rfl (S0 := _) rfl eu2 rfl (Nat.le_of_ble_eq_true rfl) (d1 := d - 1) (b1 := 0) (s1 := 0) (bc' := 0) (bs' := 0) (Q1 := fun r h9 => r = .inl none ∧ v1 = h9) (by omega) rfl rfl (w_X11_load (by omega) ev1 (fun _ _ q => q)) (fun E h9 q => nomatch (show (Sum.inr E : tq_R) = Sum.inl _ from q.1)) (fun r9 h9 q => ?_)
  obtain ⟨q1, rfl⟩ := q
  cases (show (Sum.inl r9 : tq_R) = Sum.inl (none) from q1)
  refine tq_aload_n (M := mX11_layOut) (pc := 5) dX11_layOut_5 rfl ?_
  obtain ⟨k3, ek3, hf⟩ := tq_be hf
  refine tq_getR (M := mX11_layOut) (pc := 6) tk_c11 (by decide) dX11_layOut_6 tk_RX11_144 rfl ek3 ?_
  refine tq_iload_n (M := mX11_layOut) (pc := 9) dX11_layOut_9 rfl ?_
  refine tq_aload_n (M := mX11_layOut) (pc := 10) dX11_layOut_10 rfl ?_
  obtain ⟨x4, ex4, hf⟩ := tq_be hf
  refine tq_getI (M := mX11_layOut) (pc := 11) tk_c11 (by decide) dX11_layOut_11 tk_RX11_173 rfl ex4 ?_
  obtain ⟨w5, ew5, hf⟩ := tq_be hf
  refine tq_iastF (M := mX11_layOut) (pc := 14) dX11_layOut_14 ew5 ?_
  refine tq_iconst (M := mX11_layOut) (pc := 15) dX11_layOut_15 tk_ki_0 ?_
  refine tq_istore_n (M := mX11_layOut) (pc := 16) rfl dX11_layOut_16 (L2 := [(3, .int (0 : Int32)), (0, .ref t), (1, .int a1), (2, .int a2)]) (by decide) rfl ?_
  obtain ⟨o34, eo34, hf⟩ := tq_be hf
  refine tq_pick (L2 := [(0, .ref t), (1, .int a1), (3, .int (0 : Int32))]) [1, 2, 0] rfl ?_
  refine l_X11_layOut_17 (by omega) t a1 _ (0 : Int32) w5 _ eo34 ?_
  refine tq_vret (M := mX11_layOut) (pc := 160) dX11_layOut_160 rfl ?_
  cases (Option.some.inj hf)
  exact hQ _ _ ⟨rfl, rfl⟩
abbrev mX11_isAlike : tq_M := (RX11, cX11_isAlike, 7, (some .boolean), false, [], none)
def f_X11_isAlike (t : Nat) (a1 : Int32) (a2 : Int32) (a3 : Int32) (a4 : Int32) (h : tq_H) : Option (Int32) :=
  tq_let ((((60 : Int32) * a1) + a2)) fun x1 =>
  tq_let ((((60 : Int32) * a4) + a3)) fun x2 =>
  (tq_gr h t 11 2).bind fun k3 =>
  (tq_ai h k3 a2).bind fun x4 =>
  (tq_gr h t 11 2).bind fun k5 =>
  (tq_ai h k5 a3).bind fun x6 =>
  (if x4 = x6 then
    (tq_gr h t 11 51).bind fun k7 =>
    (tq_ai h k7 x1).bind fun x8 =>
    (tq_gr h t 11 51).bind fun k9 =>
    (tq_ai h k9 x2).bind fun x10 =>
    if x8 = x10 then
      (tq_gr h t 11 52).bind fun k11 =>
      (tq_ai h k11 x1).bind fun x12 =>
      (tq_gr h t 11 52).bind fun k13 =>
      (tq_ai h k13 x2).bind fun x14 =>
      if x12 = x14 then
        (tq_gr h t 11 53).bind fun k15 =>
        (tq_ai h k15 x1).bind fun x16 =>
        (tq_gr h t 11 53).bind fun k17 =>
        (tq_ai h k17 x2).bind fun x18 =>
        if x16 = x18 then
          some (1 : Int32)
        else
          some (0 : Int32)
      else
        some (0 : Int32)
    else
      some (0 : Int32)
  else
    some (0 : Int32)).bind fun p19 =>
  (tq_bz p19).bind fun z20 =>
  some z20
set_option maxHeartbeats 4000000 in
set_option maxRecDepth 20000 in
theorem w_X11_isAlike {l : Launch} {d : Nat} (hd9 : 0 ≤ d) {t : Nat} {a1 : Int32} {a2 : Int32} {a3 : Int32} {a4 : Int32} {h : tq_H} {o : Int32} {Q : tq_R → tq_H → Prop} (hf : f_X11_isAlike t a1 a2 a3 a4 h = some o) (hQ : ∀ r h9, r = .inl (some (.int o)) ∧ h = h9 → Q r h9) : tq_C l yX11_isAlike cX11_isAlike 7 (some .boolean) d 0 0 [.ref t, .int a1, .int a2, .int a3, .int a4] h Q := by
  refine tq_body (y := yX11_isAlike) false (by decide +kernel) (fun z => by cases z) (Nat.le_of_ble_eq_true rfl) ?_
  show tq_W l mX11_isAlike d 0 0 Q 0 [(0, .ref t), (1, .int a1), (2, .int a2), (3, .int a3), (4, .int a4)] [] h
  refine tq_bipush (M := mX11_isAlike) (pc := 0) dX11_isAlike_0 tk_kb_60 ?_
  refine tq_iload_n (M := mX11_isAlike) (pc := 2) dX11_isAlike_2 rfl ?_
  refine tq_imul (M := mX11_isAlike) (pc := 3) dX11_isAlike_3 ?_
  refine tq_iload_n (M := mX11_isAlike) (pc := 4) dX11_isAlike_4 rfl ?_
  refine tq_iadd (M := mX11_isAlike) (pc := 5) dX11_isAlike_5 ?_
  obtain ⟨x1, ex1, hf⟩ := tq_le hf
  refine tq_istore (M := mX11_isAlike) (pc := 6) dX11_isAlike_6 (L2 := [(5, .int x1), (0, .ref t), (1, .int a1), (2, .int a2), (3, .int a3), (4, .int a4)]) (by decide) (by rw [ex1]; rfl) ?_
  refine tq_bipush (M := mX11_isAlike) (pc := 8) dX11_isAlike_8 tk_kb_60 ?_
  refine tq_iload (M := mX11_isAlike) (pc := 10) dX11_isAlike_10 rfl ?_
  refine tq_imul (M := mX11_isAlike) (pc := 12) dX11_isAlike_12 ?_
  refine tq_iload_n (M := mX11_isAlike) (pc := 13) dX11_isAlike_13 rfl ?_
  refine tq_iadd (M := mX11_isAlike) (pc := 14) dX11_isAlike_14 ?_
  obtain ⟨x2, ex2, hf⟩ := tq_le hf
  refine tq_istore (M := mX11_isAlike) (pc := 15) dX11_isAlike_15 (L2 := [(6, .int x2), (5, .int x1), (0, .ref t), (1, .int a1), (2, .int a2), (3, .int a3), (4, .int a4)]) (by decide) (by rw [ex2]; rfl) ?_
  refine tq_aload_n (M := mX11_isAlike) (pc := 17) dX11_isAlike_17 rfl ?_
  obtain ⟨k3, ek3, hf⟩ := tq_be hf
  refine tq_getR (M := mX11_isAlike) (pc := 18) tk_c11 (by decide) dX11_isAlike_18 tk_RX11_7 rfl ek3 ?_
  refine tq_iload_n (M := mX11_isAlike) (pc := 21) dX11_isAlike_21 rfl ?_
  obtain ⟨x4, ex4, hf⟩ := tq_be hf
  refine tq_ialdF (M := mX11_isAlike) (pc := 22) dX11_isAlike_22 ex4 ?_
  refine tq_aload_n (M := mX11_isAlike) (pc := 23) dX11_isAlike_23 rfl ?_
  obtain ⟨k5, ek5, hf⟩ := tq_be hf
  refine tq_getR (M := mX11_isAlike) (pc := 24) tk_c11 (by decide) dX11_isAlike_24 tk_RX11_7 rfl ek5 ?_
  refine tq_iload_n (M := mX11_isAlike) (pc := 27) dX11_isAlike_27 rfl ?_
  obtain ⟨x6, ex6, hf⟩ := tq_be hf
  refine tq_ialdF (M := mX11_isAlike) (pc := 28) dX11_isAlike_28 ex6 ?_
  obtain ⟨p19, ep19, hf⟩ := tq_be hf
  have HJ29 : tq_W l mX11_isAlike d 0 0 Q 88 [] [.int p19] h := by
    obtain ⟨z20, ez20, hf⟩ := tq_be hf
    refine tq_zretB (M := mX11_isAlike) (pc := 88) dX11_isAlike_88 rfl ez20 ?_
    cases (Option.some.inj hf)
    exact hQ _ _ ⟨rfl, rfl⟩
  refine tq_icmp_ne (M := mX11_isAlike) (pc := 29) (tgt := 87) dX11_isAlike_29 (by decide) (fun cc => ?_) (fun cc => ?_)
  · have hf := tq_ifn ep19 cc
    refine tq_iconst (M := mX11_isAlike) (pc := 87) dX11_isAlike_87 tk_ki_0 ?_
    refine tq_pick (L2 := []) [] rfl ?_
    cases (Option.some.inj hf)
    exact HJ29
  · have hf := tq_ifp ep19 cc
    refine tq_aload_n (M := mX11_isAlike) (pc := 32) dX11_isAlike_32 rfl ?_
    obtain ⟨k7, ek7, hf⟩ := tq_be hf
    refine tq_getR (M := mX11_isAlike) (pc := 33) tk_c11 (by decide) dX11_isAlike_33 tk_RX11_129 rfl ek7 ?_
    refine tq_iload (M := mX11_isAlike) (pc := 36) dX11_isAlike_36 rfl ?_
    obtain ⟨x8, ex8, hf⟩ := tq_be hf
    refine tq_ialdF (M := mX11_isAlike) (pc := 38) dX11_isAlike_38 ex8 ?_
    refine tq_aload_n (M := mX11_isAlike) (pc := 39) dX11_isAlike_39 rfl ?_
    obtain ⟨k9, ek9, hf⟩ := tq_be hf
    refine tq_getR (M := mX11_isAlike) (pc := 40) tk_c11 (by decide) dX11_isAlike_40 tk_RX11_129 rfl ek9 ?_
    refine tq_iload (M := mX11_isAlike) (pc := 43) dX11_isAlike_43 rfl ?_
    obtain ⟨x10, ex10, hf⟩ := tq_be hf
    refine tq_ialdF (M := mX11_isAlike) (pc := 45) dX11_isAlike_45 ex10 ?_
    refine tq_icmp_ne (M := mX11_isAlike) (pc := 46) (tgt := 87) dX11_isAlike_46 (by decide) (fun cc => ?_) (fun cc => ?_)
    · have hf := tq_ifn hf cc
      refine tq_iconst (M := mX11_isAlike) (pc := 87) dX11_isAlike_87 tk_ki_0 ?_
      refine tq_pick (L2 := []) [] rfl ?_
      cases (Option.some.inj hf)
      exact HJ29
    · have hf := tq_ifp hf cc
      refine tq_aload_n (M := mX11_isAlike) (pc := 49) dX11_isAlike_49 rfl ?_
      obtain ⟨k11, ek11, hf⟩ := tq_be hf
      refine tq_getR (M := mX11_isAlike) (pc := 50) tk_c11 (by decide) dX11_isAlike_50 tk_RX11_132 rfl ek11 ?_
      refine tq_iload (M := mX11_isAlike) (pc := 53) dX11_isAlike_53 rfl ?_
      obtain ⟨x12, ex12, hf⟩ := tq_be hf
      refine tq_ialdF (M := mX11_isAlike) (pc := 55) dX11_isAlike_55 ex12 ?_
      refine tq_aload_n (M := mX11_isAlike) (pc := 56) dX11_isAlike_56 rfl ?_
      obtain ⟨k13, ek13, hf⟩ := tq_be hf
      refine tq_getR (M := mX11_isAlike) (pc := 57) tk_c11 (by decide) dX11_isAlike_57 tk_RX11_132 rfl ek13 ?_
      refine tq_iload (M := mX11_isAlike) (pc := 60) dX11_isAlike_60 rfl ?_
      obtain ⟨x14, ex14, hf⟩ := tq_be hf
      refine tq_ialdF (M := mX11_isAlike) (pc := 62) dX11_isAlike_62 ex14 ?_
      refine tq_icmp_ne (M := mX11_isAlike) (pc := 63) (tgt := 87) dX11_isAlike_63 (by decide) (fun cc => ?_) (fun cc => ?_)
      · have hf := tq_ifn hf cc
        refine tq_iconst (M := mX11_isAlike) (pc := 87) dX11_isAlike_87 tk_ki_0 ?_
        refine tq_pick (L2 := []) [] rfl ?_
        cases (Option.some.inj hf)
        exact HJ29
      · have hf := tq_ifp hf cc
        refine tq_aload_n (M := mX11_isAlike) (pc := 66) dX11_isAlike_66 rfl ?_
        obtain ⟨k15, ek15, hf⟩ := tq_be hf
        refine tq_getR (M := mX11_isAlike) (pc := 67) tk_c11 (by decide) dX11_isAlike_67 tk_RX11_135 rfl ek15 ?_
        refine tq_iload (M := mX11_isAlike) (pc := 70) dX11_isAlike_70 rfl ?_
        obtain ⟨x16, ex16, hf⟩ := tq_be hf
        refine tq_ialdF (M := mX11_isAlike) (pc := 72) dX11_isAlike_72 ex16 ?_
        refine tq_aload_n (M := mX11_isAlike) (pc := 73) dX11_isAlike_73 rfl ?_
        obtain ⟨k17, ek17, hf⟩ := tq_be hf
        refine tq_getR (M := mX11_isAlike) (pc := 74) tk_c11 (by decide) dX11_isAlike_74 tk_RX11_135 rfl ek17 ?_
        refine tq_iload (M := mX11_isAlike) (pc := 77) dX11_isAlike_77 rfl ?_
        obtain ⟨x18, ex18, hf⟩ := tq_be hf
        refine tq_ialdF (M := mX11_isAlike) (pc := 79) dX11_isAlike_79 ex18 ?_
        refine tq_icmp_ne (M := mX11_isAlike) (pc := 80) (tgt := 87) dX11_isAlike_80 (by decide) (fun cc => ?_) (fun cc => ?_)
        · have hf := tq_ifn hf cc
          refine tq_iconst (M := mX11_isAlike) (pc := 87) dX11_isAlike_87 tk_ki_0 ?_
          refine tq_pick (L2 := []) [] rfl ?_
          cases (Option.some.inj hf)
          exact HJ29
        · have hf := tq_ifp hf cc
          refine tq_iconst (M := mX11_isAlike) (pc := 83) dX11_isAlike_83 tk_ki_1 ?_
          refine tq_goto (M := mX11_isAlike) (pc := 84) (tgt := 88) dX11_isAlike_84 (by decide) ?_
          refine tq_pick (L2 := []) [] rfl ?_
          cases (Option.some.inj hf)
          exact HJ29
abbrev mX11_isKey : tq_M := (RX11, cX11_isKey, 5, (some .boolean), false, [], none)
def f_X11_isKey_b7 (i0 : Nat) (i1 : Int32) (i2 : Int32) (hh : tq_H) (s : Int32 × Int32) : Option ((Int32 × Int32) ⊕ (Int32)) := match s with
  | (y3, y4) =>
    (tq_gr hh i0 11 56).bind fun k2 =>
    (tq_ai hh k2 i1).bind fun x3 =>
    if y4 > x3 then
      some (.inr y3)
    else
      (if y3 = 0 then
        some (0 : Int32)
      else
        (tq_gr hh i0 11 58).bind fun k4 =>
        (tq_ai hh k4 (((61 : Int32) * i1) + y4)).bind fun x5 =>
        (tq_gr hh i0 11 58).bind fun k6 =>
        (tq_ai hh k6 (((61 : Int32) * i1) + i2)).bind fun x7 =>
        if x5 = x7 then
          some (0 : Int32)
        else
          some (1 : Int32)).bind fun p8 =>
      tq_let (y4 + (1 : Int32)) fun x9 =>
      some (.inl (p8, x9))
def f_X11_isKey (t : Nat) (a1 : Int32) (a2 : Int32) (h : tq_H) : Option (Int32) :=
  tq_let ((a2 + (1 : Int32))) fun x1 =>
  (tq_loop (f_X11_isKey_b7 t a1 a2 h) tq_N ((1 : Int32), x1)).bind fun o10 =>
  (tq_bz o10).bind fun z11 =>
  some z11
set_option maxHeartbeats 4000000 in
theorem l_X11_isKey_7 {l : Launch} {d : Nat} {Q : tq_R → tq_H → Prop} (hd9 : 0 ≤ d) (i0 : Nat) (i1 : Int32) (i2 : Int32) (hh : tq_H) : ∀ (n : Nat) (y3 : Int32) (y4 : Int32) (o : Int32), tq_loop (f_X11_isKey_b7 i0 i1 i2 hh) n (y3, y4) = some o → tq_W l mX11_isKey d 0 0 Q 60 [(3, .int o)] [] hh → tq_W l mX11_isKey d 0 0 Q 7 [(0, .ref i0), (1, .int i1), (2, .int i2), (3, .int y3), (4, .int y4)] [] hh := by
  intro n
  induction n with
  | zero => intro y3 y4 o hl; cases hl
  | succ n ih =>
    intro y3 y4 o hl hk
    obtain ⟨oo, hf, ho⟩ := tq_loop_s hl
    refine tq_iload (M := mX11_isKey) (pc := 7) dX11_isKey_7 rfl ?_
    refine tq_aload_n (M := mX11_isKey) (pc := 9) dX11_isKey_9 rfl ?_
    obtain ⟨k2, ek2, hf⟩ := tq_be hf
    refine tq_getR (M := mX11_isKey) (pc := 10) tk_c11 (by decide) dX11_isKey_10 tk_RX11_144 rfl ek2 ?_
    refine tq_iload_n (M := mX11_isKey) (pc := 13) dX11_isKey_13 rfl ?_
    obtain ⟨x3, ex3, hf⟩ := tq_be hf
    refine tq_ialdF (M := mX11_isKey) (pc := 14) dX11_isKey_14 ex3 ?_
    refine tq_icmp_gt (M := mX11_isKey) (pc := 15) (tgt := 60) dX11_isKey_15 (by decide) (fun cc => ?_) (fun cc => ?_)
    · have hf := tq_ifp hf cc
      refine tq_pick (L2 := [(3, .int y3)]) [3] rfl ?_
      cases (Option.some.inj hf)
      cases (tq_lx ho)
      exact hk
    · have hf := tq_ifn hf cc
      refine tq_iload_n (M := mX11_isKey) (pc := 18) dX11_isKey_18 rfl ?_
      obtain ⟨p8, ep8, hf⟩ := tq_be hf
      have HJ19 : tq_W l mX11_isKey d 0 0 Q 53 [(0, .ref i0), (1, .int i1), (2, .int i2), (4, .int y4)] [.int p8] hh := by
        refine tq_istore_n (M := mX11_isKey) (pc := 53) rfl dX11_isKey_53 (L2 := [(3, .int p8), (0, .ref i0), (1, .int i1), (2, .int i2), (4, .int y4)]) (by decide) rfl ?_
        obtain ⟨x9, ex9, hf⟩ := tq_le hf
        refine tq_iinc (M := mX11_isKey) (pc := 54) (v := x9) (L2 := [(4, .int x9), (3, .int p8), (0, .ref i0), (1, .int i1), (2, .int i2)]) dX11_isKey_54 rfl (by rw [ex9, tk_ki_1]) (by decide) rfl ?_
        refine tq_goto (M := mX11_isKey) (pc := 57) (tgt := 7) dX11_isKey_57 (by decide) ?_
        refine tq_pick (L2 := [(0, .ref i0), (1, .int i1), (2, .int i2), (3, .int p8), (4, .int x9)]) [2, 3, 4, 1, 0] rfl ?_
        cases (Option.some.inj hf)
        exact ih _ _ o (tq_lc ho) hk
      refine tq_if_eq (M := mX11_isKey) (pc := 19) (tgt := 52) dX11_isKey_19 (by decide) (fun cc => ?_) (fun cc => ?_)
      · have hf := tq_ifp ep8 cc
        refine tq_iconst (M := mX11_isKey) (pc := 52) dX11_isKey_52 tk_ki_0 ?_
        refine tq_pick (L2 := [(0, .ref i0), (1, .int i1), (2, .int i2), (4, .int y4)]) [0, 1, 2, 4] rfl ?_
        cases (Option.some.inj hf)
        exact HJ19
      · have hf := tq_ifn ep8 cc
        refine tq_aload_n (M := mX11_isKey) (pc := 22) dX11_isKey_22 rfl ?_
        obtain ⟨k4, ek4, hf⟩ := tq_be hf
        refine tq_getR (M := mX11_isKey) (pc := 23) tk_c11 (by decide) dX11_isKey_23 tk_RX11_150 rfl ek4 ?_
        refine tq_bipush (M := mX11_isKey) (pc := 26) dX11_isKey_26 tk_kb_61 ?_
        refine tq_iload_n (M := mX11_isKey) (pc := 28) dX11_isKey_28 rfl ?_
        refine tq_imul (M := mX11_isKey) (pc := 29) dX11_isKey_29 ?_
        refine tq_iload (M := mX11_isKey) (pc := 30) dX11_isKey_30 rfl ?_
        refine tq_iadd (M := mX11_isKey) (pc := 32) dX11_isKey_32 ?_
        obtain ⟨x5, ex5, hf⟩ := tq_be hf
        refine tq_ialdF (M := mX11_isKey) (pc := 33) dX11_isKey_33 ex5 ?_
        refine tq_aload_n (M := mX11_isKey) (pc := 34) dX11_isKey_34 rfl ?_
        obtain ⟨k6, ek6, hf⟩ := tq_be hf
        refine tq_getR (M := mX11_isKey) (pc := 35) tk_c11 (by decide) dX11_isKey_35 tk_RX11_150 rfl ek6 ?_
        refine tq_bipush (M := mX11_isKey) (pc := 38) dX11_isKey_38 tk_kb_61 ?_
        refine tq_iload_n (M := mX11_isKey) (pc := 40) dX11_isKey_40 rfl ?_
        refine tq_imul (M := mX11_isKey) (pc := 41) dX11_isKey_41 ?_
        refine tq_iload_n (M := mX11_isKey) (pc := 42) dX11_isKey_42 rfl ?_
        refine tq_iadd (M := mX11_isKey) (pc := 43) dX11_isKey_43 ?_
        obtain ⟨x7, ex7, hf⟩ := tq_be hf
        refine tq_ialdF (M := mX11_isKey) (pc := 44) dX11_isKey_44 ex7 ?_
        refine tq_icmp_eq (M := mX11_isKey) (pc := 45) (tgt := 52) dX11_isKey_45 (by decide) (fun cc => ?_) (fun cc => ?_)
        · have hf := tq_ifp hf cc
          refine tq_iconst (M := mX11_isKey) (pc := 52) dX11_isKey_52 tk_ki_0 ?_
          refine tq_pick (L2 := [(0, .ref i0), (1, .int i1), (2, .int i2), (4, .int y4)]) [0, 1, 2, 4] rfl ?_
          cases (Option.some.inj hf)
          exact HJ19
        · have hf := tq_ifn hf cc
          refine tq_iconst (M := mX11_isKey) (pc := 48) dX11_isKey_48 tk_ki_1 ?_
          refine tq_goto (M := mX11_isKey) (pc := 49) (tgt := 53) dX11_isKey_49 (by decide) ?_
          refine tq_pick (L2 := [(0, .ref i0), (1, .int i1), (2, .int i2), (4, .int y4)]) [0, 1, 2, 4] rfl ?_
          cases (Option.some.inj hf)
          exact HJ19
set_option maxHeartbeats 4000000 in
set_option maxRecDepth 20000 in
theorem w_X11_isKey {l : Launch} {d : Nat} (hd9 : 0 ≤ d) {t : Nat} {a1 : Int32} {a2 : Int32} {h : tq_H} {o : Int32} {Q : tq_R → tq_H → Prop} (hf : f_X11_isKey t a1 a2 h = some o) (hQ : ∀ r h9, r = .inl (some (.int o)) ∧ h = h9 → Q r h9) : tq_C l yX11_isKey cX11_isKey 5 (some .boolean) d 0 0 [.ref t, .int a1, .int a2] h Q := by
  refine tq_body (y := yX11_isKey) false (by decide +kernel) (fun z => by cases z) (Nat.le_of_ble_eq_true rfl) ?_
  show tq_W l mX11_isKey d 0 0 Q 0 [(0, .ref t), (1, .int a1), (2, .int a2)] [] h
  refine tq_iconst (M := mX11_isKey) (pc := 0) dX11_isKey_0 tk_ki_1 ?_
  refine tq_istore_n (M := mX11_isKey) (pc := 1) rfl dX11_isKey_1 (L2 := [(3, .int (1 : Int32)), (0, .ref t), (1, .int a1), (2, .int a2)]) (by decide) rfl ?_
  refine tq_iload_n (M := mX11_isKey) (pc := 2) dX11_isKey_2 rfl ?_
  refine tq_iconst (M := mX11_isKey) (pc := 3) dX11_isKey_3 tk_ki_1 ?_
  refine tq_iadd (M := mX11_isKey) (pc := 4) dX11_isKey_4 ?_
  obtain ⟨x1, ex1, hf⟩ := tq_le hf
  refine tq_istore (M := mX11_isKey) (pc := 5) dX11_isKey_5 (L2 := [(4, .int x1), (3, .int (1 : Int32)), (0, .ref t), (1, .int a1), (2, .int a2)]) (by decide) (by rw [ex1]; rfl) ?_
  obtain ⟨o10, eo10, hf⟩ := tq_be hf
  refine tq_pick (L2 := [(0, .ref t), (1, .int a1), (2, .int a2), (3, .int (1 : Int32)), (4, .int x1)]) [2, 3, 4, 1, 0] rfl ?_
  refine l_X11_isKey_7 (by omega) t a1 a2 h _ (1 : Int32) x1 _ eo10 ?_
  refine tq_iload_n (M := mX11_isKey) (pc := 60) dX11_isKey_60 rfl ?_
  obtain ⟨z11, ez11, hf⟩ := tq_be hf
  refine tq_zretB (M := mX11_isKey) (pc := 61) dX11_isKey_61 rfl ez11 ?_
  cases (Option.some.inj hf)
  exact hQ _ _ ⟨rfl, rfl⟩
abbrev mX11_least : tq_M := (RX11, cX11_least, 4, (some .int), false, [], none)
def f_X11_least (a0 : Int32) (a1 : Int32) (a2 : Int32) (h : tq_H) : Option (Int32) :=
  tq_let (if a0 ≥ a1 then a1 else a0) fun p1 =>
  tq_let (if p1 ≥ a2 then a2 else p1) fun p2 =>
  some p2
set_option maxHeartbeats 4000000 in
set_option maxRecDepth 20000 in
theorem w_X11_least {l : Launch} {d : Nat} (hd9 : 0 ≤ d) {a0 : Int32} {a1 : Int32} {a2 : Int32} {h : tq_H} {o : Int32} {Q : tq_R → tq_H → Prop} (hf : f_X11_least a0 a1 a2 h = some o) (hQ : ∀ r h9, r = .inl (some (.int o)) ∧ h = h9 → Q r h9) : tq_C l yX11_least cX11_least 4 (some .int) d 0 0 [.int a0, .int a1, .int a2] h Q := by
  refine tq_body (y := yX11_least) false (by decide +kernel) (fun z => by cases z) (Nat.le_of_ble_eq_true rfl) ?_
  show tq_W l mX11_least d 0 0 Q 0 [(0, .int a0), (1, .int a1), (2, .int a2)] [] h
  refine tq_iload_n (M := mX11_least) (pc := 0) dX11_least_0 rfl ?_
  refine tq_iload_n (M := mX11_least) (pc := 1) dX11_least_1 rfl ?_
  obtain ⟨p1, ep1, hf⟩ := tq_le hf
  have HJ2 : tq_W l mX11_least d 0 0 Q 10 [(2, .int a2)] [.int p1] h := by
    refine tq_istore_n (M := mX11_least) (pc := 10) rfl dX11_least_10 (L2 := [(3, .int p1), (2, .int a2)]) (by decide) rfl ?_
    refine tq_iload_n (M := mX11_least) (pc := 11) dX11_least_11 rfl ?_
    refine tq_iload_n (M := mX11_least) (pc := 12) dX11_least_12 rfl ?_
    obtain ⟨p2, ep2, hf⟩ := tq_le hf
    have HJ13 : tq_W l mX11_least d 0 0 Q 21 [] [.int p2] h := by
      refine tq_iret (M := mX11_least) (pc := 21) dX11_least_21 rfl ?_
      cases (Option.some.inj hf)
      exact hQ _ _ ⟨rfl, rfl⟩
    refine tq_icmp_ge (M := mX11_least) (pc := 13) (tgt := 20) dX11_least_13 (by decide) (fun cc => ?_) (fun cc => ?_)
    · have hf := tq_ifp ep2.symm cc
      refine tq_iload_n (M := mX11_least) (pc := 20) dX11_least_20 rfl ?_
      refine tq_pick (L2 := []) [] rfl ?_
      cases hf
      exact HJ13
    · have hf := tq_ifn ep2.symm cc
      refine tq_iload_n (M := mX11_least) (pc := 16) dX11_least_16 rfl ?_
      refine tq_goto (M := mX11_least) (pc := 17) (tgt := 21) dX11_least_17 (by decide) ?_
      refine tq_pick (L2 := []) [] rfl ?_
      cases hf
      exact HJ13
  refine tq_icmp_ge (M := mX11_least) (pc := 2) (tgt := 9) dX11_least_2 (by decide) (fun cc => ?_) (fun cc => ?_)
  · have hf := tq_ifp ep1.symm cc
    refine tq_iload_n (M := mX11_least) (pc := 9) dX11_least_9 rfl ?_
    refine tq_pick (L2 := [(2, .int a2)]) [2] rfl ?_
    cases hf
    exact HJ2
  · have hf := tq_ifn ep1.symm cc
    refine tq_iload_n (M := mX11_least) (pc := 5) dX11_least_5 rfl ?_
    refine tq_goto (M := mX11_least) (pc := 6) (tgt := 10) dX11_least_6 (by decide) ?_
    refine tq_pick (L2 := [(2, .int a2)]) [2] rfl ?_
    cases hf
    exact HJ2
abbrev mX11_compareAt : tq_M := (RX11, cX11_compareAt, 13, none, false, [], none)
def f_X11_compareAt_b41 (i0 : Nat) (i1 : Int32) (i2 : Int32) (i3 : Int32) (i4 : Int32) (i5 : Int32) (i6 : Int32) (s : Int32 × tq_H) : Option ((Int32 × tq_H) ⊕ (tq_H)) := match s with
  | (y7, hh) =>
    if y7 > i1 then
      some (.inr hh)
    else
      (tq_gr hh i0 11 60).bind fun k7 =>
      (tq_gr hh i0 11 60).bind fun k8 =>
      (tq_ai hh k8 ((((61 : Int32) * (y7 - (1 : Int32))) + i6) - (1 : Int32))).bind fun x9 =>
      (tq_si hh k7 ((((61 : Int32) * y7) + i6) - (1 : Int32)) (x9 + (1 : Int32))).bind fun w10 =>
      tq_let (y7 + (1 : Int32)) fun x11 =>
      some (.inl (x11, w10))
def f_X11_compareAt_b91 (i0 : Nat) (i1 : Int32) (i2 : Int32) (i3 : Int32) (i4 : Int32) (i5 : Int32) (i6 : Int32) (s : Int32 × tq_H) : Option ((Int32 × tq_H) ⊕ (tq_H)) := match s with
  | (y7, hh) =>
    if y7 > i2 then
      some (.inr hh)
    else
      (tq_gr hh i0 11 60).bind fun k13 =>
      (tq_gr hh i0 11 60).bind fun k14 =>
      (tq_ai hh k14 ((((61 : Int32) * (i5 - (1 : Int32))) + y7) - (1 : Int32))).bind fun x15 =>
      (tq_si hh k13 (((61 : Int32) * (i5 - (1 : Int32))) + y7) (x15 + (1 : Int32))).bind fun w16 =>
      tq_let (y7 + (1 : Int32)) fun x17 =>
      some (.inl (x17, w16))
def f_X11_compareAt_b151 (i0 : Nat) (i1 : Int32) (i2 : Int32) (i3 : Int32) (i4 : Int32) (i5 : Int32) (i6 : Int32) (i7 : Int32) (s : Int32 × tq_H) : Option ((Int32 × tq_H) ⊕ (tq_H)) := match s with
  | (y8, hh) =>
    if y8 > i2 then
      some (.inr hh)
    else
      (tq_gr hh i0 11 60).bind fun k19 =>
      (tq_ai hh k19 (((61 : Int32) * (i7 - (1 : Int32))) + y8)).bind fun x20 =>
      tq_let ((x20 + (1 : Int32))) fun x21 =>
      (tq_gr hh i0 11 60).bind fun k22 =>
      (tq_ai hh k22 ((((61 : Int32) * i7) + y8) - (1 : Int32))).bind fun x23 =>
      tq_let ((x23 + (1 : Int32))) fun x24 =>
      (tq_gr hh i0 11 58).bind fun k25 =>
      (tq_ai hh k25 i7).bind fun x26 =>
      (if x26 = i5 then
        (tq_gr hh i0 11 58).bind fun k27 =>
        (tq_ai hh k27 ((61 : Int32) + y8)).bind fun x28 =>
        if x28 = i6 then
          some (1 : Int32)
        else
          some (0 : Int32)
      else
        some (0 : Int32)).bind fun p29 =>
      (if p29 = 0 then
        (tq_gr hh i0 11 60).bind fun k30 =>
        (tq_gr hh i0 11 58).bind fun k31 =>
        (tq_ai hh k31 i7).bind fun x32 =>
        (tq_gr hh i0 11 58).bind fun k33 =>
        (tq_ai hh k33 ((61 : Int32) + y8)).bind fun x34 =>
        (tq_ai hh k30 ((((61 : Int32) * (x32 - (1 : Int32))) + x34) - (1 : Int32))).bind fun x35 =>
        (tq_gr hh i0 11 59).bind fun k36 =>
        (tq_ai hh k36 (((61 : Int32) * i7) + y8)).bind fun x37 =>
        some (x35 + x37)
      else
        (tq_gr hh i0 11 60).bind fun k38 =>
        (tq_ai hh k38 ((((61 : Int32) * (i7 - (1 : Int32))) + y8) - (1 : Int32))).bind fun x39 =>
        (tq_gr hh i0 11 57).bind fun k40 =>
        (tq_ai hh k40 i7).bind fun x41 =>
        (tq_gr hh i0 11 57).bind fun k42 =>
        (tq_ai hh k42 ((61 : Int32) + y8)).bind fun x43 =>
        (tq_is hh i0 11).bind fun _ =>
        (f_X11_isAlike i0 i3 x41 x43 i4 hh).bind fun v44 =>
        tq_let (if v44 = 0 then (1 : Int32) else (0 : Int32)) fun p46 =>
        some (x39 + p46)).bind fun p47 =>
      (tq_gr hh i0 11 60).bind fun k48 =>
      (f_X11_least x21 x24 p47 hh).bind fun v49 =>
      (tq_si hh k48 (((61 : Int32) * i7) + y8) v49).bind fun w50 =>
      (tq_gr w50 i0 11 59).bind fun k51 =>
      (if p29 = 0 then
        (tq_gr w50 i0 11 59).bind fun k52 =>
        (tq_ai w50 k52 (((61 : Int32) * i7) + y8)).bind fun x53 =>
        some x53
      else
        (tq_gr w50 i0 11 60).bind fun k54 =>
        (tq_ai w50 k54 (((61 : Int32) * i7) + y8)).bind fun x55 =>
        some x55).bind fun p56 =>
      (tq_si w50 k51 (((61 : Int32) * i7) + y8) p56).bind fun w57 =>
      tq_let (y8 + (1 : Int32)) fun x58 =>
      some (.inl (x58, w57))
def f_X11_compareAt_b141 (i0 : Nat) (i1 : Int32) (i2 : Int32) (i3 : Int32) (i4 : Int32) (i5 : Int32) (i6 : Int32) (s : Int32 × tq_H) : Option ((Int32 × tq_H) ⊕ (tq_H)) := match s with
  | (y7, hh) =>
    if y7 > i1 then
      some (.inr hh)
    else
      (tq_loop (f_X11_compareAt_b151 i0 i1 i2 i3 i4 i5 i6 y7) tq_N (i6, hh)).bind fun o59 =>
      tq_let (y7 + (1 : Int32)) fun x60 =>
      some (.inl (x60, o59))
def f_X11_compareAt (t : Nat) (a1 : Int32) (a2 : Int32) (a3 : Int32) (a4 : Int32) (h : tq_H) : Option (tq_H) :=
  (tq_gr h t 11 58).bind fun k1 =>
  (tq_ai h k1 a1).bind fun x2 =>
  (tq_gr h t 11 58).bind fun k3 =>
  (tq_ai h k3 ((61 : Int32) + a2)).bind fun x4 =>
  (tq_gr h t 11 60).bind fun k5 =>
  (tq_si h k5 ((((61 : Int32) * (x2 - (1 : Int32))) + x4) - (1 : Int32)) (0 : Int32)).bind fun w6 =>
  (tq_loop (f_X11_compareAt_b41 t a1 a2 a3 a4 x2 x4) tq_N (x2, w6)).bind fun o12 =>
  (tq_loop (f_X11_compareAt_b91 t a1 a2 a3 a4 x2 x4) tq_N (x4, o12)).bind fun o18 =>
  (tq_loop (f_X11_compareAt_b141 t a1 a2 a3 a4 x2 x4) tq_N (x2, o18)).bind fun o61 =>
  some o61
set_option maxHeartbeats 4000000 in
theorem l_X11_compareAt_41 {l : Launch} {d : Nat} {Q : tq_R → tq_H → Prop} (hd9 : 1 ≤ d) (i0 : Nat) (i1 : Int32) (i2 : Int32) (i3 : Int32) (i4 : Int32) (i5 : Int32) (i6 : Int32) : ∀ (n : Nat) (y7 : Int32) (hh : tq_H) (o : tq_H), tq_loop (f_X11_compareAt_b41 i0 i1 i2 i3 i4 i5 i6) n (y7, hh) = some o → tq_W l mX11_compareAt d 0 0 Q 87 [(0, .ref i0), (1, .int i1), (2, .int i2), (3, .int i3), (4, .int i4), (5, .int i5), (6, .int i6)] [] o → tq_W l mX11_compareAt d 0 0 Q 41 [(0, .ref i0), (1, .int i1), (2, .int i2), (3, .int i3), (4, .int i4), (5, .int i5), (6, .int i6), (7, .int y7)] [] hh := by
  intro n
  induction n with
  | zero => intro y7 hh o hl; cases hl
  | succ n ih =>
    intro y7 hh o hl hk
    obtain ⟨oo, hf, ho⟩ := tq_loop_s hl
    refine tq_iload (M := mX11_compareAt) (pc := 41) dX11_compareAt_41 rfl ?_
    refine tq_iload_n (M := mX11_compareAt) (pc := 43) dX11_compareAt_43 rfl ?_
    refine tq_icmp_gt (M := mX11_compareAt) (pc := 44) (tgt := 87) dX11_compareAt_44 (by decide) (fun cc => ?_) (fun cc => ?_)
    · have hf := tq_ifp hf cc
      refine tq_pick (L2 := [(0, .ref i0), (1, .int i1), (2, .int i2), (3, .int i3), (4, .int i4), (5, .int i5), (6, .int i6)]) [0, 1, 2, 3, 4, 5, 6] rfl ?_
      cases (Option.some.inj hf)
      cases (tq_lx ho)
      exact hk
    · have hf := tq_ifn hf cc
      refine tq_aload_n (M := mX11_compareAt) (pc := 47) dX11_compareAt_47 rfl ?_
      obtain ⟨k7, ek7, hf⟩ := tq_be hf
      refine tq_getR (M := mX11_compareAt) (pc := 48) tk_c11 (by decide) dX11_compareAt_48 tk_RX11_156 rfl ek7 ?_
      refine tq_bipush (M := mX11_compareAt) (pc := 51) dX11_compareAt_51 tk_kb_61 ?_
      refine tq_iload (M := mX11_compareAt) (pc := 53) dX11_compareAt_53 rfl ?_
      refine tq_imul (M := mX11_compareAt) (pc := 55) dX11_compareAt_55 ?_
      refine tq_iload (M := mX11_compareAt) (pc := 56) dX11_compareAt_56 rfl ?_
      refine tq_iadd (M := mX11_compareAt) (pc := 58) dX11_compareAt_58 ?_
      refine tq_iconst (M := mX11_compareAt) (pc := 59) dX11_compareAt_59 tk_ki_1 ?_
      refine tq_isub (M := mX11_compareAt) (pc := 60) dX11_compareAt_60 ?_
      refine tq_aload_n (M := mX11_compareAt) (pc := 61) dX11_compareAt_61 rfl ?_
      obtain ⟨k8, ek8, hf⟩ := tq_be hf
      refine tq_getR (M := mX11_compareAt) (pc := 62) tk_c11 (by decide) dX11_compareAt_62 tk_RX11_156 rfl ek8 ?_
      refine tq_bipush (M := mX11_compareAt) (pc := 65) dX11_compareAt_65 tk_kb_61 ?_
      refine tq_iload (M := mX11_compareAt) (pc := 67) dX11_compareAt_67 rfl ?_
      refine tq_iconst (M := mX11_compareAt) (pc := 69) dX11_compareAt_69 tk_ki_1 ?_
      refine tq_isub (M := mX11_compareAt) (pc := 70) dX11_compareAt_70 ?_
      refine tq_imul (M := mX11_compareAt) (pc := 71) dX11_compareAt_71 ?_
      refine tq_iload (M := mX11_compareAt) (pc := 72) dX11_compareAt_72 rfl ?_
      refine tq_iadd (M := mX11_compareAt) (pc := 74) dX11_compareAt_74 ?_
      refine tq_iconst (M := mX11_compareAt) (pc := 75) dX11_compareAt_75 tk_ki_1 ?_
      refine tq_isub (M := mX11_compareAt) (pc := 76) dX11_compareAt_76 ?_
      obtain ⟨x9, ex9, hf⟩ := tq_be hf
      refine tq_ialdF (M := mX11_compareAt) (pc := 77) dX11_compareAt_77 ex9 ?_
      refine tq_iconst (M := mX11_compareAt) (pc := 78) dX11_compareAt_78 tk_ki_1 ?_
      refine tq_iadd (M := mX11_compareAt) (pc := 79) dX11_compareAt_79 ?_
      obtain ⟨w10, ew10, hf⟩ := tq_be hf
      refine tq_iastF (M := mX11_compareAt) (pc := 80) dX11_compareAt_80 ew10 ?_
      obtain ⟨x11, ex11, hf⟩ := tq_le hf
      refine tq_iinc (M := mX11_compareAt) (pc := 81) (v := x11) (L2 := [(7, .int x11), (0, .ref i0), (1, .int i1), (2, .int i2), (3, .int i3), (4, .int i4), (5, .int i5), (6, .int i6)]) dX11_compareAt_81 rfl (by rw [ex11, tk_ki_1]) (by decide) rfl ?_
      refine tq_goto (M := mX11_compareAt) (pc := 84) (tgt := 41) dX11_compareAt_84 (by decide) ?_
      refine tq_pick (L2 := [(0, .ref i0), (1, .int i1), (2, .int i2), (3, .int i3), (4, .int i4), (5, .int i5), (6, .int i6), (7, .int x11)]) [1, 2, 3, 4, 5, 6, 7, 0] rfl ?_
      cases (Option.some.inj hf)
      exact ih _ _ o (tq_lc ho) hk
set_option maxHeartbeats 4000000 in
theorem l_X11_compareAt_91 {l : Launch} {d : Nat} {Q : tq_R → tq_H → Prop} (hd9 : 1 ≤ d) (i0 : Nat) (i1 : Int32) (i2 : Int32) (i3 : Int32) (i4 : Int32) (i5 : Int32) (i6 : Int32) : ∀ (n : Nat) (y7 : Int32) (hh : tq_H) (o : tq_H), tq_loop (f_X11_compareAt_b91 i0 i1 i2 i3 i4 i5 i6) n (y7, hh) = some o → tq_W l mX11_compareAt d 0 0 Q 137 [(0, .ref i0), (1, .int i1), (2, .int i2), (3, .int i3), (4, .int i4), (5, .int i5), (6, .int i6)] [] o → tq_W l mX11_compareAt d 0 0 Q 91 [(0, .ref i0), (1, .int i1), (2, .int i2), (3, .int i3), (4, .int i4), (5, .int i5), (6, .int i6), (7, .int y7)] [] hh := by
  intro n
  induction n with
  | zero => intro y7 hh o hl; cases hl
  | succ n ih =>
    intro y7 hh o hl hk
    obtain ⟨oo, hf, ho⟩ := tq_loop_s hl
    refine tq_iload (M := mX11_compareAt) (pc := 91) dX11_compareAt_91 rfl ?_
    refine tq_iload_n (M := mX11_compareAt) (pc := 93) dX11_compareAt_93 rfl ?_
    refine tq_icmp_gt (M := mX11_compareAt) (pc := 94) (tgt := 137) dX11_compareAt_94 (by decide) (fun cc => ?_) (fun cc => ?_)
    · have hf := tq_ifp hf cc
      refine tq_pick (L2 := [(0, .ref i0), (1, .int i1), (2, .int i2), (3, .int i3), (4, .int i4), (5, .int i5), (6, .int i6)]) [0, 1, 2, 3, 4, 5, 6] rfl ?_
      cases (Option.some.inj hf)
      cases (tq_lx ho)
      exact hk
    · have hf := tq_ifn hf cc
      refine tq_aload_n (M := mX11_compareAt) (pc := 97) dX11_compareAt_97 rfl ?_
      obtain ⟨k13, ek13, hf⟩ := tq_be hf
      refine tq_getR (M := mX11_compareAt) (pc := 98) tk_c11 (by decide) dX11_compareAt_98 tk_RX11_156 rfl ek13 ?_
      refine tq_bipush (M := mX11_compareAt) (pc := 101) dX11_compareAt_101 tk_kb_61 ?_
      refine tq_iload (M := mX11_compareAt) (pc := 103) dX11_compareAt_103 rfl ?_
      refine tq_iconst (M := mX11_compareAt) (pc := 105) dX11_compareAt_105 tk_ki_1 ?_
      refine tq_isub (M := mX11_compareAt) (pc := 106) dX11_compareAt_106 ?_
      refine tq_imul (M := mX11_compareAt) (pc := 107) dX11_compareAt_107 ?_
      refine tq_iload (M := mX11_compareAt) (pc := 108) dX11_compareAt_108 rfl ?_
      refine tq_iadd (M := mX11_compareAt) (pc := 110) dX11_compareAt_110 ?_
      refine tq_aload_n (M := mX11_compareAt) (pc := 111) dX11_compareAt_111 rfl ?_
      obtain ⟨k14, ek14, hf⟩ := tq_be hf
      refine tq_getR (M := mX11_compareAt) (pc := 112) tk_c11 (by decide) dX11_compareAt_112 tk_RX11_156 rfl ek14 ?_
      refine tq_bipush (M := mX11_compareAt) (pc := 115) dX11_compareAt_115 tk_kb_61 ?_
      refine tq_iload (M := mX11_compareAt) (pc := 117) dX11_compareAt_117 rfl ?_
      refine tq_iconst (M := mX11_compareAt) (pc := 119) dX11_compareAt_119 tk_ki_1 ?_
      refine tq_isub (M := mX11_compareAt) (pc := 120) dX11_compareAt_120 ?_
      refine tq_imul (M := mX11_compareAt) (pc := 121) dX11_compareAt_121 ?_
      refine tq_iload (M := mX11_compareAt) (pc := 122) dX11_compareAt_122 rfl ?_
      refine tq_iadd (M := mX11_compareAt) (pc := 124) dX11_compareAt_124 ?_
      refine tq_iconst (M := mX11_compareAt) (pc := 125) dX11_compareAt_125 tk_ki_1 ?_
      refine tq_isub (M := mX11_compareAt) (pc := 126) dX11_compareAt_126 ?_
      obtain ⟨x15, ex15, hf⟩ := tq_be hf
      refine tq_ialdF (M := mX11_compareAt) (pc := 127) dX11_compareAt_127 ex15 ?_
      refine tq_iconst (M := mX11_compareAt) (pc := 128) dX11_compareAt_128 tk_ki_1 ?_
      refine tq_iadd (M := mX11_compareAt) (pc := 129) dX11_compareAt_129 ?_
      obtain ⟨w16, ew16, hf⟩ := tq_be hf
      refine tq_iastF (M := mX11_compareAt) (pc := 130) dX11_compareAt_130 ew16 ?_
      obtain ⟨x17, ex17, hf⟩ := tq_le hf
      refine tq_iinc (M := mX11_compareAt) (pc := 131) (v := x17) (L2 := [(7, .int x17), (0, .ref i0), (1, .int i1), (2, .int i2), (3, .int i3), (4, .int i4), (5, .int i5), (6, .int i6)]) dX11_compareAt_131 rfl (by rw [ex17, tk_ki_1]) (by decide) rfl ?_
      refine tq_goto (M := mX11_compareAt) (pc := 134) (tgt := 91) dX11_compareAt_134 (by decide) ?_
      refine tq_pick (L2 := [(0, .ref i0), (1, .int i1), (2, .int i2), (3, .int i3), (4, .int i4), (5, .int i5), (6, .int i6), (7, .int x17)]) [1, 2, 3, 4, 5, 6, 7, 0] rfl ?_
      cases (Option.some.inj hf)
      exact ih _ _ o (tq_lc ho) hk
set_option maxHeartbeats 4000000 in
theorem l_X11_compareAt_151 {l : Launch} {d : Nat} {Q : tq_R → tq_H → Prop} (hd9 : 1 ≤ d) (i0 : Nat) (i1 : Int32) (i2 : Int32) (i3 : Int32) (i4 : Int32) (i5 : Int32) (i6 : Int32) (i7 : Int32) : ∀ (n : Nat) (y8 : Int32) (hh : tq_H) (o : tq_H), tq_loop (f_X11_compareAt_b151 i0 i1 i2 i3 i4 i5 i6 i7) n (y8, hh) = some o → tq_W l mX11_compareAt d 0 0 Q 408 [(0, .ref i0), (1, .int i1), (2, .int i2), (3, .int i3), (4, .int i4), (5, .int i5), (6, .int i6), (7, .int i7)] [] o → tq_W l mX11_compareAt d 0 0 Q 151 [(0, .ref i0), (1, .int i1), (2, .int i2), (3, .int i3), (4, .int i4), (5, .int i5), (6, .int i6), (7, .int i7), (8, .int y8)] [] hh := by
  intro n
  induction n with
  | zero => intro y8 hh o hl; cases hl
  | succ n ih =>
    intro y8 hh o hl hk
    obtain ⟨oo, hf, ho⟩ := tq_loop_s hl
    refine tq_iload (M := mX11_compareAt) (pc := 151) dX11_compareAt_151 rfl ?_
    refine tq_iload_n (M := mX11_compareAt) (pc := 153) dX11_compareAt_153 rfl ?_
    refine tq_icmp_gt (M := mX11_compareAt) (pc := 154) (tgt := 408) dX11_compareAt_154 (by decide) (fun cc => ?_) (fun cc => ?_)
    · have hf := tq_ifp hf cc
      refine tq_pick (L2 := [(0, .ref i0), (1, .int i1), (2, .int i2), (3, .int i3), (4, .int i4), (5, .int i5), (6, .int i6), (7, .int i7)]) [0, 1, 2, 3, 4, 5, 6, 7] rfl ?_
      cases (Option.some.inj hf)
      cases (tq_lx ho)
      exact hk
    · have hf := tq_ifn hf cc
      refine tq_aload_n (M := mX11_compareAt) (pc := 157) dX11_compareAt_157 rfl ?_
      obtain ⟨k19, ek19, hf⟩ := tq_be hf
      refine tq_getR (M := mX11_compareAt) (pc := 158) tk_c11 (by decide) dX11_compareAt_158 tk_RX11_156 rfl ek19 ?_
      refine tq_bipush (M := mX11_compareAt) (pc := 161) dX11_compareAt_161 tk_kb_61 ?_
      refine tq_iload (M := mX11_compareAt) (pc := 163) dX11_compareAt_163 rfl ?_
      refine tq_iconst (M := mX11_compareAt) (pc := 165) dX11_compareAt_165 tk_ki_1 ?_
      refine tq_isub (M := mX11_compareAt) (pc := 166) dX11_compareAt_166 ?_
      refine tq_imul (M := mX11_compareAt) (pc := 167) dX11_compareAt_167 ?_
      refine tq_iload (M := mX11_compareAt) (pc := 168) dX11_compareAt_168 rfl ?_
      refine tq_iadd (M := mX11_compareAt) (pc := 170) dX11_compareAt_170 ?_
      obtain ⟨x20, ex20, hf⟩ := tq_be hf
      refine tq_ialdF (M := mX11_compareAt) (pc := 171) dX11_compareAt_171 ex20 ?_
      refine tq_iconst (M := mX11_compareAt) (pc := 172) dX11_compareAt_172 tk_ki_1 ?_
      refine tq_iadd (M := mX11_compareAt) (pc := 173) dX11_compareAt_173 ?_
      obtain ⟨x21, ex21, hf⟩ := tq_le hf
      refine tq_istore (M := mX11_compareAt) (pc := 174) dX11_compareAt_174 (L2 := [(9, .int x21), (0, .ref i0), (1, .int i1), (2, .int i2), (3, .int i3), (4, .int i4), (5, .int i5), (6, .int i6), (7, .int i7), (8, .int y8)]) (by decide) (by rw [ex21]; rfl) ?_
      refine tq_aload_n (M := mX11_compareAt) (pc := 176) dX11_compareAt_176 rfl ?_
      obtain ⟨k22, ek22, hf⟩ := tq_be hf
      refine tq_getR (M := mX11_compareAt) (pc := 177) tk_c11 (by decide) dX11_compareAt_177 tk_RX11_156 rfl ek22 ?_
      refine tq_bipush (M := mX11_compareAt) (pc := 180) dX11_compareAt_180 tk_kb_61 ?_
      refine tq_iload (M := mX11_compareAt) (pc := 182) dX11_compareAt_182 rfl ?_
      refine tq_imul (M := mX11_compareAt) (pc := 184) dX11_compareAt_184 ?_
      refine tq_iload (M := mX11_compareAt) (pc := 185) dX11_compareAt_185 rfl ?_
      refine tq_iadd (M := mX11_compareAt) (pc := 187) dX11_compareAt_187 ?_
      refine tq_iconst (M := mX11_compareAt) (pc := 188) dX11_compareAt_188 tk_ki_1 ?_
      refine tq_isub (M := mX11_compareAt) (pc := 189) dX11_compareAt_189 ?_
      obtain ⟨x23, ex23, hf⟩ := tq_be hf
      refine tq_ialdF (M := mX11_compareAt) (pc := 190) dX11_compareAt_190 ex23 ?_
      refine tq_iconst (M := mX11_compareAt) (pc := 191) dX11_compareAt_191 tk_ki_1 ?_
      refine tq_iadd (M := mX11_compareAt) (pc := 192) dX11_compareAt_192 ?_
      obtain ⟨x24, ex24, hf⟩ := tq_le hf
      refine tq_istore (M := mX11_compareAt) (pc := 193) dX11_compareAt_193 (L2 := [(10, .int x24), (9, .int x21), (0, .ref i0), (1, .int i1), (2, .int i2), (3, .int i3), (4, .int i4), (5, .int i5), (6, .int i6), (7, .int i7), (8, .int y8)]) (by decide) (by rw [ex24]; rfl) ?_
      refine tq_aload_n (M := mX11_compareAt) (pc := 195) dX11_compareAt_195 rfl ?_
      obtain ⟨k25, ek25, hf⟩ := tq_be hf
      refine tq_getR (M := mX11_compareAt) (pc := 196) tk_c11 (by decide) dX11_compareAt_196 tk_RX11_150 rfl ek25 ?_
      refine tq_iload (M := mX11_compareAt) (pc := 199) dX11_compareAt_199 rfl ?_
      obtain ⟨x26, ex26, hf⟩ := tq_be hf
      refine tq_ialdF (M := mX11_compareAt) (pc := 201) dX11_compareAt_201 ex26 ?_
      refine tq_iload (M := mX11_compareAt) (pc := 202) dX11_compareAt_202 rfl ?_
      obtain ⟨p29, ep29, hf⟩ := tq_be hf
      have HJ204 : tq_W l mX11_compareAt d 0 0 Q 227 [(0, .ref i0), (1, .int i1), (2, .int i2), (3, .int i3), (4, .int i4), (5, .int i5), (6, .int i6), (7, .int i7), (8, .int y8), (9, .int x21), (10, .int x24)] [.int p29] hh := by
        refine tq_istore (M := mX11_compareAt) (pc := 227) dX11_compareAt_227 (L2 := [(11, .int p29), (0, .ref i0), (1, .int i1), (2, .int i2), (3, .int i3), (4, .int i4), (5, .int i5), (6, .int i6), (7, .int i7), (8, .int y8), (9, .int x21), (10, .int x24)]) (by decide) rfl ?_
        refine tq_iload (M := mX11_compareAt) (pc := 229) dX11_compareAt_229 rfl ?_
        obtain ⟨p47, ep47, hf⟩ := tq_be hf
        have HJ231 : tq_W l mX11_compareAt d 0 0 Q 331 [(0, .ref i0), (1, .int i1), (2, .int i2), (3, .int i3), (4, .int i4), (5, .int i5), (6, .int i6), (7, .int i7), (8, .int y8), (9, .int x21), (10, .int x24), (11, .int p29)] [.int p47] hh := by
          refine tq_istore (M := mX11_compareAt) (pc := 331) dX11_compareAt_331 (L2 := [(12, .int p47), (0, .ref i0), (1, .int i1), (2, .int i2), (3, .int i3), (4, .int i4), (5, .int i5), (6, .int i6), (7, .int i7), (8, .int y8), (9, .int x21), (10, .int x24), (11, .int p29)]) (by decide) rfl ?_
          refine tq_aload_n (M := mX11_compareAt) (pc := 333) dX11_compareAt_333 rfl ?_
          obtain ⟨k48, ek48, hf⟩ := tq_be hf
          refine tq_getR (M := mX11_compareAt) (pc := 334) tk_c11 (by decide) dX11_compareAt_334 tk_RX11_156 rfl ek48 ?_
          refine tq_bipush (M := mX11_compareAt) (pc := 337) dX11_compareAt_337 tk_kb_61 ?_
          refine tq_iload (M := mX11_compareAt) (pc := 339) dX11_compareAt_339 rfl ?_
          refine tq_imul (M := mX11_compareAt) (pc := 341) dX11_compareAt_341 ?_
          refine tq_iload (M := mX11_compareAt) (pc := 342) dX11_compareAt_342 rfl ?_
          refine tq_iadd (M := mX11_compareAt) (pc := 344) dX11_compareAt_344 ?_
          refine tq_iload (M := mX11_compareAt) (pc := 345) dX11_compareAt_345 rfl ?_
          refine tq_iload (M := mX11_compareAt) (pc := 347) dX11_compareAt_347 rfl ?_
          refine tq_iload (M := mX11_compareAt) (pc := 349) dX11_compareAt_349 rfl ?_
          obtain ⟨v49, ev49, hf⟩ := tq_be hf
          refine tq_calS (M := mX11_compareAt) (pc := 351) (S := [.int ((((61 : Int32) * i7) + y8)), .ref k48]) tk_y_X11_least tk_s_X11_least tk_RX11_429 dX11_compareAt_351 [.int x21, .int x24, .int p47] rfl (Nat.le_of_ble_eq_true rfl) (d1 := d - 1) (b1 := 0) (s1 := 0) (bc' := 0) (bs' := 0) (Q1 := fun r h9 => r = .inl (some (.int v49)) ∧ hh = h9) (by omega) rfl rfl (w_X11_least (by omega) ev49 (fun _ _ q => q)) (fun E h9 q => nomatch (show (Sum.inr E : tq_R) = Sum.inl _ from q.1)) (fun r9 h9 q => ?_)
          obtain ⟨q1, rfl⟩ := q
          cases (show (Sum.inl r9 : tq_R) = Sum.inl (some (.int v49)) from q1)
          obtain ⟨w50, ew50, hf⟩ := tq_be hf
          refine tq_iastF (M := mX11_compareAt) (pc := 354) dX11_compareAt_354 ew50 ?_
          refine tq_aload_n (M := mX11_compareAt) (pc := 355) dX11_compareAt_355 rfl ?_
          obtain ⟨k51, ek51, hf⟩ := tq_be hf
          refine tq_getR (M := mX11_compareAt) (pc := 356) tk_c11 (by decide) dX11_compareAt_356 tk_RX11_153 rfl ek51 ?_
          refine tq_bipush (M := mX11_compareAt) (pc := 359) dX11_compareAt_359 tk_kb_61 ?_
          refine tq_iload (M := mX11_compareAt) (pc := 361) dX11_compareAt_361 rfl ?_
          refine tq_imul (M := mX11_compareAt) (pc := 363) dX11_compareAt_363 ?_
          refine tq_iload (M := mX11_compareAt) (pc := 364) dX11_compareAt_364 rfl ?_
          refine tq_iadd (M := mX11_compareAt) (pc := 366) dX11_compareAt_366 ?_
          refine tq_iload (M := mX11_compareAt) (pc := 367) dX11_compareAt_367 rfl ?_
          obtain ⟨p56, ep56, hf⟩ := tq_be hf
          have HJ369 : tq_W l mX11_compareAt d 0 0 Q 401 [(0, .ref i0), (1, .int i1), (2, .int i2), (3, .int i3), (4, .int i4), (5, .int i5), (6, .int i6), (7, .int i7), (8, .int y8)] [.int p56, .int ((((61 : Int32) * i7) + y8)), .ref k51] w50 := by
            obtain ⟨w57, ew57, hf⟩ := tq_be hf
            refine tq_iastF (M := mX11_compareAt) (pc := 401) dX11_compareAt_401 ew57 ?_
            obtain ⟨x58, ex58, hf⟩ := tq_le hf
            refine tq_iinc (M := mX11_compareAt) (pc := 402) (v := x58) (L2 := [(8, .int x58), (0, .ref i0), (1, .int i1), (2, .int i2), (3, .int i3), (4, .int i4), (5, .int i5), (6, .int i6), (7, .int i7)]) dX11_compareAt_402 rfl (by rw [ex58, tk_ki_1]) (by decide) rfl ?_
            refine tq_goto (M := mX11_compareAt) (pc := 405) (tgt := 151) dX11_compareAt_405 (by decide) ?_
            refine tq_pick (L2 := [(0, .ref i0), (1, .int i1), (2, .int i2), (3, .int i3), (4, .int i4), (5, .int i5), (6, .int i6), (7, .int i7), (8, .int x58)]) [1, 2, 3, 4, 5, 6, 7, 8, 0] rfl ?_
            cases (Option.some.inj hf)
            exact ih _ _ o (tq_lc ho) hk
          refine tq_if_eq (M := mX11_compareAt) (pc := 369) (tgt := 388) dX11_compareAt_369 (by decide) (fun cc => ?_) (fun cc => ?_)
          · have hf := tq_ifp ep56 cc
            refine tq_aload_n (M := mX11_compareAt) (pc := 388) dX11_compareAt_388 rfl ?_
            obtain ⟨k52, ek52, hf⟩ := tq_be hf
            refine tq_getR (M := mX11_compareAt) (pc := 389) tk_c11 (by decide) dX11_compareAt_389 tk_RX11_153 rfl ek52 ?_
            refine tq_bipush (M := mX11_compareAt) (pc := 392) dX11_compareAt_392 tk_kb_61 ?_
            refine tq_iload (M := mX11_compareAt) (pc := 394) dX11_compareAt_394 rfl ?_
            refine tq_imul (M := mX11_compareAt) (pc := 396) dX11_compareAt_396 ?_
            refine tq_iload (M := mX11_compareAt) (pc := 397) dX11_compareAt_397 rfl ?_
            refine tq_iadd (M := mX11_compareAt) (pc := 399) dX11_compareAt_399 ?_
            obtain ⟨x53, ex53, hf⟩ := tq_be hf
            refine tq_ialdF (M := mX11_compareAt) (pc := 400) dX11_compareAt_400 ex53 ?_
            refine tq_pick (L2 := [(0, .ref i0), (1, .int i1), (2, .int i2), (3, .int i3), (4, .int i4), (5, .int i5), (6, .int i6), (7, .int i7), (8, .int y8)]) [1, 2, 3, 4, 5, 6, 7, 8, 9] rfl ?_
            cases (Option.some.inj hf)
            exact HJ369
          · have hf := tq_ifn ep56 cc
            refine tq_aload_n (M := mX11_compareAt) (pc := 372) dX11_compareAt_372 rfl ?_
            obtain ⟨k54, ek54, hf⟩ := tq_be hf
            refine tq_getR (M := mX11_compareAt) (pc := 373) tk_c11 (by decide) dX11_compareAt_373 tk_RX11_156 rfl ek54 ?_
            refine tq_bipush (M := mX11_compareAt) (pc := 376) dX11_compareAt_376 tk_kb_61 ?_
            refine tq_iload (M := mX11_compareAt) (pc := 378) dX11_compareAt_378 rfl ?_
            refine tq_imul (M := mX11_compareAt) (pc := 380) dX11_compareAt_380 ?_
            refine tq_iload (M := mX11_compareAt) (pc := 381) dX11_compareAt_381 rfl ?_
            refine tq_iadd (M := mX11_compareAt) (pc := 383) dX11_compareAt_383 ?_
            obtain ⟨x55, ex55, hf⟩ := tq_be hf
            refine tq_ialdF (M := mX11_compareAt) (pc := 384) dX11_compareAt_384 ex55 ?_
            refine tq_goto (M := mX11_compareAt) (pc := 385) (tgt := 401) dX11_compareAt_385 (by decide) ?_
            refine tq_pick (L2 := [(0, .ref i0), (1, .int i1), (2, .int i2), (3, .int i3), (4, .int i4), (5, .int i5), (6, .int i6), (7, .int i7), (8, .int y8)]) [1, 2, 3, 4, 5, 6, 7, 8, 9] rfl ?_
            cases (Option.some.inj hf)
            exact HJ369
        refine tq_if_eq (M := mX11_compareAt) (pc := 231) (tgt := 287) dX11_compareAt_231 (by decide) (fun cc => ?_) (fun cc => ?_)
        · have hf := tq_ifp ep47 cc
          refine tq_aload_n (M := mX11_compareAt) (pc := 287) dX11_compareAt_287 rfl ?_
          obtain ⟨k30, ek30, hf⟩ := tq_be hf
          refine tq_getR (M := mX11_compareAt) (pc := 288) tk_c11 (by decide) dX11_compareAt_288 tk_RX11_156 rfl ek30 ?_
          refine tq_bipush (M := mX11_compareAt) (pc := 291) dX11_compareAt_291 tk_kb_61 ?_
          refine tq_aload_n (M := mX11_compareAt) (pc := 293) dX11_compareAt_293 rfl ?_
          obtain ⟨k31, ek31, hf⟩ := tq_be hf
          refine tq_getR (M := mX11_compareAt) (pc := 294) tk_c11 (by decide) dX11_compareAt_294 tk_RX11_150 rfl ek31 ?_
          refine tq_iload (M := mX11_compareAt) (pc := 297) dX11_compareAt_297 rfl ?_
          obtain ⟨x32, ex32, hf⟩ := tq_be hf
          refine tq_ialdF (M := mX11_compareAt) (pc := 299) dX11_compareAt_299 ex32 ?_
          refine tq_iconst (M := mX11_compareAt) (pc := 300) dX11_compareAt_300 tk_ki_1 ?_
          refine tq_isub (M := mX11_compareAt) (pc := 301) dX11_compareAt_301 ?_
          refine tq_imul (M := mX11_compareAt) (pc := 302) dX11_compareAt_302 ?_
          refine tq_aload_n (M := mX11_compareAt) (pc := 303) dX11_compareAt_303 rfl ?_
          obtain ⟨k33, ek33, hf⟩ := tq_be hf
          refine tq_getR (M := mX11_compareAt) (pc := 304) tk_c11 (by decide) dX11_compareAt_304 tk_RX11_150 rfl ek33 ?_
          refine tq_bipush (M := mX11_compareAt) (pc := 307) dX11_compareAt_307 tk_kb_61 ?_
          refine tq_iload (M := mX11_compareAt) (pc := 309) dX11_compareAt_309 rfl ?_
          refine tq_iadd (M := mX11_compareAt) (pc := 311) dX11_compareAt_311 ?_
          obtain ⟨x34, ex34, hf⟩ := tq_be hf
          refine tq_ialdF (M := mX11_compareAt) (pc := 312) dX11_compareAt_312 ex34 ?_
          refine tq_iadd (M := mX11_compareAt) (pc := 313) dX11_compareAt_313 ?_
          refine tq_iconst (M := mX11_compareAt) (pc := 314) dX11_compareAt_314 tk_ki_1 ?_
          refine tq_isub (M := mX11_compareAt) (pc := 315) dX11_compareAt_315 ?_
          obtain ⟨x35, ex35, hf⟩ := tq_be hf
          refine tq_ialdF (M := mX11_compareAt) (pc := 316) dX11_compareAt_316 ex35 ?_
          refine tq_aload_n (M := mX11_compareAt) (pc := 317) dX11_compareAt_317 rfl ?_
          obtain ⟨k36, ek36, hf⟩ := tq_be hf
          refine tq_getR (M := mX11_compareAt) (pc := 318) tk_c11 (by decide) dX11_compareAt_318 tk_RX11_153 rfl ek36 ?_
          refine tq_bipush (M := mX11_compareAt) (pc := 321) dX11_compareAt_321 tk_kb_61 ?_
          refine tq_iload (M := mX11_compareAt) (pc := 323) dX11_compareAt_323 rfl ?_
          refine tq_imul (M := mX11_compareAt) (pc := 325) dX11_compareAt_325 ?_
          refine tq_iload (M := mX11_compareAt) (pc := 326) dX11_compareAt_326 rfl ?_
          refine tq_iadd (M := mX11_compareAt) (pc := 328) dX11_compareAt_328 ?_
          obtain ⟨x37, ex37, hf⟩ := tq_be hf
          refine tq_ialdF (M := mX11_compareAt) (pc := 329) dX11_compareAt_329 ex37 ?_
          refine tq_iadd (M := mX11_compareAt) (pc := 330) dX11_compareAt_330 ?_
          refine tq_pick (L2 := [(0, .ref i0), (1, .int i1), (2, .int i2), (3, .int i3), (4, .int i4), (5, .int i5), (6, .int i6), (7, .int i7), (8, .int y8), (9, .int x21), (10, .int x24), (11, .int p29)]) [1, 2, 3, 4, 5, 6, 7, 8, 9, 10, 11, 0] rfl ?_
          cases (Option.some.inj hf)
          exact HJ231
        · have hf := tq_ifn ep47 cc
          refine tq_aload_n (M := mX11_compareAt) (pc := 234) dX11_compareAt_234 rfl ?_
          obtain ⟨k38, ek38, hf⟩ := tq_be hf
          refine tq_getR (M := mX11_compareAt) (pc := 235) tk_c11 (by decide) dX11_compareAt_235 tk_RX11_156 rfl ek38 ?_
          refine tq_bipush (M := mX11_compareAt) (pc := 238) dX11_compareAt_238 tk_kb_61 ?_
          refine tq_iload (M := mX11_compareAt) (pc := 240) dX11_compareAt_240 rfl ?_
          refine tq_iconst (M := mX11_compareAt) (pc := 242) dX11_compareAt_242 tk_ki_1 ?_
          refine tq_isub (M := mX11_compareAt) (pc := 243) dX11_compareAt_243 ?_
          refine tq_imul (M := mX11_compareAt) (pc := 244) dX11_compareAt_244 ?_
          refine tq_iload (M := mX11_compareAt) (pc := 245) dX11_compareAt_245 rfl ?_
          refine tq_iadd (M := mX11_compareAt) (pc := 247) dX11_compareAt_247 ?_
          refine tq_iconst (M := mX11_compareAt) (pc := 248) dX11_compareAt_248 tk_ki_1 ?_
          refine tq_isub (M := mX11_compareAt) (pc := 249) dX11_compareAt_249 ?_
          obtain ⟨x39, ex39, hf⟩ := tq_be hf
          refine tq_ialdF (M := mX11_compareAt) (pc := 250) dX11_compareAt_250 ex39 ?_
          refine tq_aload_n (M := mX11_compareAt) (pc := 251) dX11_compareAt_251 rfl ?_
          refine tq_iload_n (M := mX11_compareAt) (pc := 252) dX11_compareAt_252 rfl ?_
          refine tq_aload_n (M := mX11_compareAt) (pc := 253) dX11_compareAt_253 rfl ?_
          obtain ⟨k40, ek40, hf⟩ := tq_be hf
          refine tq_getR (M := mX11_compareAt) (pc := 254) tk_c11 (by decide) dX11_compareAt_254 tk_RX11_147 rfl ek40 ?_
          refine tq_iload (M := mX11_compareAt) (pc := 257) dX11_compareAt_257 rfl ?_
          obtain ⟨x41, ex41, hf⟩ := tq_be hf
          refine tq_ialdF (M := mX11_compareAt) (pc := 259) dX11_compareAt_259 ex41 ?_
          refine tq_aload_n (M := mX11_compareAt) (pc := 260) dX11_compareAt_260 rfl ?_
          obtain ⟨k42, ek42, hf⟩ := tq_be hf
          refine tq_getR (M := mX11_compareAt) (pc := 261) tk_c11 (by decide) dX11_compareAt_261 tk_RX11_147 rfl ek42 ?_
          refine tq_bipush (M := mX11_compareAt) (pc := 264) dX11_compareAt_264 tk_kb_61 ?_
          refine tq_iload (M := mX11_compareAt) (pc := 266) dX11_compareAt_266 rfl ?_
          refine tq_iadd (M := mX11_compareAt) (pc := 268) dX11_compareAt_268 ?_
          obtain ⟨x43, ex43, hf⟩ := tq_be hf
          refine tq_ialdF (M := mX11_compareAt) (pc := 269) dX11_compareAt_269 ex43 ?_
          refine tq_iload (M := mX11_compareAt) (pc := 270) dX11_compareAt_270 rfl ?_
          obtain ⟨⟨⟩, eu45, hf⟩ := tq_be hf
          obtain ⟨fsu45, eu45⟩ := tq_is_s eu45
          obtain ⟨v44, ev44, hf⟩ := tq_be hf
          refine tq_calV (M := mX11_compareAt) (pc := 272) (S := [.int x39]) tk_y_X11_isAlike tk_v_X11_isAlike tk_RX11_426 dX11_compareAt_272 [.int i3, .int x41, .int x43, .int i4] rfl (S0 := _) rfl eu45 rfl (Nat.le_of_ble_eq_true rfl) (d1 := d - 1) (b1 := 0) (s1 := 0) (bc' := 0) (bs' := 0) (Q1 := fun r h9 => r = .inl (some (.int v44)) ∧ hh = h9) (by omega) rfl rfl (w_X11_isAlike (by omega) ev44 (fun _ _ q => q)) (fun E h9 q => nomatch (show (Sum.inr E : tq_R) = Sum.inl _ from q.1)) (fun r9 h9 q => ?_)
          obtain ⟨q1, rfl⟩ := q
          cases (show (Sum.inl r9 : tq_R) = Sum.inl (some (.int v44)) from q1)
          obtain ⟨p46, ep46, hf⟩ := tq_le hf
          have HJ275 : tq_W l mX11_compareAt d 0 0 Q 283 [(0, .ref i0), (1, .int i1), (2, .int i2), (3, .int i3), (4, .int i4), (5, .int i5), (6, .int i6), (7, .int i7), (8, .int y8), (9, .int x21), (10, .int x24), (11, .int p29)] [.int p46, .int x39] hh := by
            refine tq_iadd (M := mX11_compareAt) (pc := 283) dX11_compareAt_283 ?_
            refine tq_goto (M := mX11_compareAt) (pc := 284) (tgt := 331) dX11_compareAt_284 (by decide) ?_
            cases (Option.some.inj hf)
            exact HJ231
          refine tq_if_eq (M := mX11_compareAt) (pc := 275) (tgt := 282) dX11_compareAt_275 (by decide) (fun cc => ?_) (fun cc => ?_)
          · have hf := tq_ifp ep46.symm cc
            refine tq_iconst (M := mX11_compareAt) (pc := 282) dX11_compareAt_282 tk_ki_1 ?_
            refine tq_pick (L2 := [(0, .ref i0), (1, .int i1), (2, .int i2), (3, .int i3), (4, .int i4), (5, .int i5), (6, .int i6), (7, .int i7), (8, .int y8), (9, .int x21), (10, .int x24), (11, .int p29)]) [1, 2, 3, 4, 5, 6, 7, 8, 9, 10, 11, 0] rfl ?_
            cases hf
            exact HJ275
          · have hf := tq_ifn ep46.symm cc
            refine tq_iconst (M := mX11_compareAt) (pc := 278) dX11_compareAt_278 tk_ki_0 ?_
            refine tq_goto (M := mX11_compareAt) (pc := 279) (tgt := 283) dX11_compareAt_279 (by decide) ?_
            refine tq_pick (L2 := [(0, .ref i0), (1, .int i1), (2, .int i2), (3, .int i3), (4, .int i4), (5, .int i5), (6, .int i6), (7, .int i7), (8, .int y8), (9, .int x21), (10, .int x24), (11, .int p29)]) [1, 2, 3, 4, 5, 6, 7, 8, 9, 10, 11, 0] rfl ?_
            cases hf
            exact HJ275
      refine tq_icmp_ne (M := mX11_compareAt) (pc := 204) (tgt := 226) dX11_compareAt_204 (by decide) (fun cc => ?_) (fun cc => ?_)
      · have hf := tq_ifn ep29 cc
        refine tq_iconst (M := mX11_compareAt) (pc := 226) dX11_compareAt_226 tk_ki_0 ?_
        refine tq_pick (L2 := [(0, .ref i0), (1, .int i1), (2, .int i2), (3, .int i3), (4, .int i4), (5, .int i5), (6, .int i6), (7, .int i7), (8, .int y8), (9, .int x21), (10, .int x24)]) [2, 3, 4, 5, 6, 7, 8, 9, 10, 1, 0] rfl ?_
        cases (Option.some.inj hf)
        exact HJ204
      · have hf := tq_ifp ep29 cc
        refine tq_aload_n (M := mX11_compareAt) (pc := 207) dX11_compareAt_207 rfl ?_
        obtain ⟨k27, ek27, hf⟩ := tq_be hf
        refine tq_getR (M := mX11_compareAt) (pc := 208) tk_c11 (by decide) dX11_compareAt_208 tk_RX11_150 rfl ek27 ?_
        refine tq_bipush (M := mX11_compareAt) (pc := 211) dX11_compareAt_211 tk_kb_61 ?_
        refine tq_iload (M := mX11_compareAt) (pc := 213) dX11_compareAt_213 rfl ?_
        refine tq_iadd (M := mX11_compareAt) (pc := 215) dX11_compareAt_215 ?_
        obtain ⟨x28, ex28, hf⟩ := tq_be hf
        refine tq_ialdF (M := mX11_compareAt) (pc := 216) dX11_compareAt_216 ex28 ?_
        refine tq_iload (M := mX11_compareAt) (pc := 217) dX11_compareAt_217 rfl ?_
        refine tq_icmp_ne (M := mX11_compareAt) (pc := 219) (tgt := 226) dX11_compareAt_219 (by decide) (fun cc => ?_) (fun cc => ?_)
        · have hf := tq_ifn hf cc
          refine tq_iconst (M := mX11_compareAt) (pc := 226) dX11_compareAt_226 tk_ki_0 ?_
          refine tq_pick (L2 := [(0, .ref i0), (1, .int i1), (2, .int i2), (3, .int i3), (4, .int i4), (5, .int i5), (6, .int i6), (7, .int i7), (8, .int y8), (9, .int x21), (10, .int x24)]) [2, 3, 4, 5, 6, 7, 8, 9, 10, 1, 0] rfl ?_
          cases (Option.some.inj hf)
          exact HJ204
        · have hf := tq_ifp hf cc
          refine tq_iconst (M := mX11_compareAt) (pc := 222) dX11_compareAt_222 tk_ki_1 ?_
          refine tq_goto (M := mX11_compareAt) (pc := 223) (tgt := 227) dX11_compareAt_223 (by decide) ?_
          refine tq_pick (L2 := [(0, .ref i0), (1, .int i1), (2, .int i2), (3, .int i3), (4, .int i4), (5, .int i5), (6, .int i6), (7, .int i7), (8, .int y8), (9, .int x21), (10, .int x24)]) [2, 3, 4, 5, 6, 7, 8, 9, 10, 1, 0] rfl ?_
          cases (Option.some.inj hf)
          exact HJ204
set_option maxHeartbeats 4000000 in
theorem l_X11_compareAt_141 {l : Launch} {d : Nat} {Q : tq_R → tq_H → Prop} (hd9 : 1 ≤ d) (i0 : Nat) (i1 : Int32) (i2 : Int32) (i3 : Int32) (i4 : Int32) (i5 : Int32) (i6 : Int32) : ∀ (n : Nat) (y7 : Int32) (hh : tq_H) (o : tq_H), tq_loop (f_X11_compareAt_b141 i0 i1 i2 i3 i4 i5 i6) n (y7, hh) = some o → tq_W l mX11_compareAt d 0 0 Q 414 [] [] o → tq_W l mX11_compareAt d 0 0 Q 141 [(0, .ref i0), (1, .int i1), (2, .int i2), (3, .int i3), (4, .int i4), (5, .int i5), (6, .int i6), (7, .int y7)] [] hh := by
  intro n
  induction n with
  | zero => intro y7 hh o hl; cases hl
  | succ n ih =>
    intro y7 hh o hl hk
    obtain ⟨oo, hf, ho⟩ := tq_loop_s hl
    refine tq_iload (M := mX11_compareAt) (pc := 141) dX11_compareAt_141 rfl ?_
    refine tq_iload_n (M := mX11_compareAt) (pc := 143) dX11_compareAt_143 rfl ?_
    refine tq_icmp_gt (M := mX11_compareAt) (pc := 144) (tgt := 414) dX11_compareAt_144 (by decide) (fun cc => ?_) (fun cc => ?_)
    · have hf := tq_ifp hf cc
      refine tq_pick (L2 := []) [] rfl ?_
      cases (Option.some.inj hf)
      cases (tq_lx ho)
      exact hk
    · have hf := tq_ifn hf cc
      refine tq_iload (M := mX11_compareAt) (pc := 147) dX11_compareAt_147 rfl ?_
      refine tq_istore (M := mX11_compareAt) (pc := 149) dX11_compareAt_149 (L2 := [(8, .int i6), (0, .ref i0), (1, .int i1), (2, .int i2), (3, .int i3), (4, .int i4), (5, .int i5), (6, .int i6), (7, .int y7)]) (by decide) rfl ?_
      obtain ⟨o59, eo59, hf⟩ := tq_be hf
      refine tq_pick (L2 := [(0, .ref i0), (1, .int i1), (2, .int i2), (3, .int i3), (4, .int i4), (5, .int i5), (6, .int i6), (7, .int y7), (8, .int i6)]) [1, 2, 3, 4, 5, 6, 7, 8, 0] rfl ?_
      refine l_X11_compareAt_151 (by omega) i0 i1 i2 i3 i4 i5 i6 y7 _ i6 hh _ eo59 ?_
      obtain ⟨x60, ex60, hf⟩ := tq_le hf
      refine tq_iinc (M := mX11_compareAt) (pc := 408) (v := x60) (L2 := [(7, .int x60), (0, .ref i0), (1, .int i1), (2, .int i2), (3, .int i3), (4, .int i4), (5, .int i5), (6, .int i6)]) dX11_compareAt_408 rfl (by rw [ex60, tk_ki_1]) (by decide) rfl ?_
      refine tq_goto (M := mX11_compareAt) (pc := 411) (tgt := 141) dX11_compareAt_411 (by decide) ?_
      refine tq_pick (L2 := [(0, .ref i0), (1, .int i1), (2, .int i2), (3, .int i3), (4, .int i4), (5, .int i5), (6, .int i6), (7, .int x60)]) [1, 2, 3, 4, 5, 6, 7, 0] rfl ?_
      cases (Option.some.inj hf)
      exact ih _ _ o (tq_lc ho) hk
set_option maxHeartbeats 4000000 in
set_option maxRecDepth 20000 in
theorem w_X11_compareAt {l : Launch} {d : Nat} (hd9 : 1 ≤ d) {t : Nat} {a1 : Int32} {a2 : Int32} {a3 : Int32} {a4 : Int32} {h : tq_H} {o : tq_H} {Q : tq_R → tq_H → Prop} (hf : f_X11_compareAt t a1 a2 a3 a4 h = some o) (hQ : ∀ r h9, r = .inl none ∧ o = h9 → Q r h9) : tq_C l yX11_compareAt cX11_compareAt 13 none d 0 0 [.ref t, .int a1, .int a2, .int a3, .int a4] h Q := by
  refine tq_body (y := yX11_compareAt) false (by decide +kernel) (fun z => by cases z) (Nat.le_of_ble_eq_true rfl) ?_
  show tq_W l mX11_compareAt d 0 0 Q 0 [(0, .ref t), (1, .int a1), (2, .int a2), (3, .int a3), (4, .int a4)] [] h
  refine tq_aload_n (M := mX11_compareAt) (pc := 0) dX11_compareAt_0 rfl ?_
  obtain ⟨k1, ek1, hf⟩ := tq_be hf
  refine tq_getR (M := mX11_compareAt) (pc := 1) tk_c11 (by decide) dX11_compareAt_1 tk_RX11_150 rfl ek1 ?_
  refine tq_iload_n (M := mX11_compareAt) (pc := 4) dX11_compareAt_4 rfl ?_
  obtain ⟨x2, ex2, hf⟩ := tq_be hf
  refine tq_ialdF (M := mX11_compareAt) (pc := 5) dX11_compareAt_5 ex2 ?_
  refine tq_istore (M := mX11_compareAt) (pc := 6) dX11_compareAt_6 (L2 := [(5, .int x2), (0, .ref t), (1, .int a1), (2, .int a2), (3, .int a3), (4, .int a4)]) (by decide) rfl ?_
  refine tq_aload_n (M := mX11_compareAt) (pc := 8) dX11_compareAt_8 rfl ?_
  obtain ⟨k3, ek3, hf⟩ := tq_be hf
  refine tq_getR (M := mX11_compareAt) (pc := 9) tk_c11 (by decide) dX11_compareAt_9 tk_RX11_150 rfl ek3 ?_
  refine tq_bipush (M := mX11_compareAt) (pc := 12) dX11_compareAt_12 tk_kb_61 ?_
  refine tq_iload_n (M := mX11_compareAt) (pc := 14) dX11_compareAt_14 rfl ?_
  refine tq_iadd (M := mX11_compareAt) (pc := 15) dX11_compareAt_15 ?_
  obtain ⟨x4, ex4, hf⟩ := tq_be hf
  refine tq_ialdF (M := mX11_compareAt) (pc := 16) dX11_compareAt_16 ex4 ?_
  refine tq_istore (M := mX11_compareAt) (pc := 17) dX11_compareAt_17 (L2 := [(6, .int x4), (5, .int x2), (0, .ref t), (1, .int a1), (2, .int a2), (3, .int a3), (4, .int a4)]) (by decide) rfl ?_
  refine tq_aload_n (M := mX11_compareAt) (pc := 19) dX11_compareAt_19 rfl ?_
  obtain ⟨k5, ek5, hf⟩ := tq_be hf
  refine tq_getR (M := mX11_compareAt) (pc := 20) tk_c11 (by decide) dX11_compareAt_20 tk_RX11_156 rfl ek5 ?_
  refine tq_bipush (M := mX11_compareAt) (pc := 23) dX11_compareAt_23 tk_kb_61 ?_
  refine tq_iload (M := mX11_compareAt) (pc := 25) dX11_compareAt_25 rfl ?_
  refine tq_iconst (M := mX11_compareAt) (pc := 27) dX11_compareAt_27 tk_ki_1 ?_
  refine tq_isub (M := mX11_compareAt) (pc := 28) dX11_compareAt_28 ?_
  refine tq_imul (M := mX11_compareAt) (pc := 29) dX11_compareAt_29 ?_
  refine tq_iload (M := mX11_compareAt) (pc := 30) dX11_compareAt_30 rfl ?_
  refine tq_iadd (M := mX11_compareAt) (pc := 32) dX11_compareAt_32 ?_
  refine tq_iconst (M := mX11_compareAt) (pc := 33) dX11_compareAt_33 tk_ki_1 ?_
  refine tq_isub (M := mX11_compareAt) (pc := 34) dX11_compareAt_34 ?_
  refine tq_iconst (M := mX11_compareAt) (pc := 35) dX11_compareAt_35 tk_ki_0 ?_
  obtain ⟨w6, ew6, hf⟩ := tq_be hf
  refine tq_iastF (M := mX11_compareAt) (pc := 36) dX11_compareAt_36 ew6 ?_
  refine tq_iload (M := mX11_compareAt) (pc := 37) dX11_compareAt_37 rfl ?_
  refine tq_istore (M := mX11_compareAt) (pc := 39) dX11_compareAt_39 (L2 := [(7, .int x2), (6, .int x4), (5, .int x2), (0, .ref t), (1, .int a1), (2, .int a2), (3, .int a3), (4, .int a4)]) (by decide) rfl ?_
  obtain ⟨o12, eo12, hf⟩ := tq_be hf
  refine tq_pick (L2 := [(0, .ref t), (1, .int a1), (2, .int a2), (3, .int a3), (4, .int a4), (5, .int x2), (6, .int x4), (7, .int x2)]) [3, 4, 5, 6, 7, 2, 1, 0] rfl ?_
  refine l_X11_compareAt_41 (by omega) t a1 a2 a3 a4 x2 x4 _ x2 w6 _ eo12 ?_
  refine tq_iload (M := mX11_compareAt) (pc := 87) dX11_compareAt_87 rfl ?_
  refine tq_istore (M := mX11_compareAt) (pc := 89) dX11_compareAt_89 (L2 := [(7, .int x4), (0, .ref t), (1, .int a1), (2, .int a2), (3, .int a3), (4, .int a4), (5, .int x2), (6, .int x4)]) (by decide) rfl ?_
  obtain ⟨o18, eo18, hf⟩ := tq_be hf
  refine tq_pick (L2 := [(0, .ref t), (1, .int a1), (2, .int a2), (3, .int a3), (4, .int a4), (5, .int x2), (6, .int x4), (7, .int x4)]) [1, 2, 3, 4, 5, 6, 7, 0] rfl ?_
  refine l_X11_compareAt_91 (by omega) t a1 a2 a3 a4 x2 x4 _ x4 o12 _ eo18 ?_
  refine tq_iload (M := mX11_compareAt) (pc := 137) dX11_compareAt_137 rfl ?_
  refine tq_istore (M := mX11_compareAt) (pc := 139) dX11_compareAt_139 (L2 := [(7, .int x2), (0, .ref t), (1, .int a1), (2, .int a2), (3, .int a3), (4, .int a4), (5, .int x2), (6, .int x4)]) (by decide) rfl ?_
  obtain ⟨o61, eo61, hf⟩ := tq_be hf
  refine tq_pick (L2 := [(0, .ref t), (1, .int a1), (2, .int a2), (3, .int a3), (4, .int a4), (5, .int x2), (6, .int x4), (7, .int x2)]) [1, 2, 3, 4, 5, 6, 7, 0] rfl ?_
  refine l_X11_compareAt_141 (by omega) t a1 a2 a3 a4 x2 x4 _ x2 o18 _ eo61 ?_
  refine tq_vret (M := mX11_compareAt) (pc := 414) dX11_compareAt_414 rfl ?_
  cases (Option.some.inj hf)
  exact hQ _ _ ⟨rfl, rfl⟩
abbrev mX11_distance : tq_M := (RX11, cX11_distance, 5, (some .int), false, [], none)
def f_X11_distance_b61 (i0 : Nat) (i1 : Int32) (i2 : Int32) (i3 : Int32) (s : Int32 × tq_H) : Option ((Int32 × tq_H) ⊕ (tq_H)) := match s with
  | (y4, hh) =>
    (tq_gr hh i0 11 56).bind fun k16 =>
    (tq_ai hh k16 (1 : Int32)).bind fun x17 =>
    if y4 > x17 then
      some (.inr hh)
    else
      (tq_is hh i0 11).bind fun _ =>
      (f_X11_isKey i0 (0 : Int32) i3 hh).bind fun v18 =>
      (if v18 = 0 then
        some hh
      else
        (tq_is hh i0 11).bind fun _ =>
        (f_X11_isKey i0 (1 : Int32) y4 hh).bind fun v20 =>
        if v20 = 0 then
          some hh
        else
          (tq_is hh i0 11).bind fun _ =>
          (f_X11_compareAt i0 i3 y4 i1 i2 hh).bind fun v22 =>
          some v22).bind fun p24 =>
      tq_let (y4 + (1 : Int32)) fun x25 =>
      some (.inl (x25, p24))
def f_X11_distance_b48 (i0 : Nat) (i1 : Int32) (i2 : Int32) (s : Int32 × tq_H) : Option ((Int32 × tq_H) ⊕ (tq_H)) := match s with
  | (y3, hh) =>
    (tq_gr hh i0 11 56).bind fun k14 =>
    (tq_ai hh k14 (0 : Int32)).bind fun x15 =>
    if y3 > x15 then
      some (.inr hh)
    else
      (tq_loop (f_X11_distance_b61 i0 i1 i2 y3) tq_N ((1 : Int32), hh)).bind fun o26 =>
      tq_let (y3 + (1 : Int32)) fun x27 =>
      some (.inl (x27, o26))
def f_X11_distance (t : Nat) (a1 : Int32) (a2 : Int32) (h : tq_H) : Option (Int32 × tq_H) :=
  (tq_is h t 11).bind fun _ =>
  (f_X11_isVersion t a1 h).bind fun v1 =>
  (if v1 = 0 then
    some (1 : Int32)
  else
    (tq_is h t 11).bind fun _ =>
    (f_X11_isVersion t a2 h).bind fun v3 =>
    if v3 = 0 then
      some (1 : Int32)
    else
      some (0 : Int32)).bind fun p5 =>
  (tq_is h t 11).bind fun _ =>
  (f_X11_refused t p5 h).bind fun v6 =>
  if v6.1 = 0 then
    (tq_is v6.2 t 11).bind fun _ =>
    (f_X11_remember t v6.2).bind fun v8 =>
    (tq_is v8 t 11).bind fun _ =>
    (f_X11_layOut t (0 : Int32) a1 v8).bind fun v10 =>
    (tq_is v10 t 11).bind fun _ =>
    (f_X11_layOut t (1 : Int32) a2 v10).bind fun v12 =>
    (tq_loop (f_X11_distance_b48 t a1 a2) tq_N ((1 : Int32), v12)).bind fun o28 =>
    (tq_is o28 t 11).bind fun _ =>
    (f_X11_comeBack t o28).bind fun v29 =>
    (tq_is v29 t 11).bind fun _ =>
    (f_X11_arrange t v29).bind fun v31 =>
    (tq_gr v31 t 11 59).bind fun k33 =>
    (tq_gr v31 t 11 56).bind fun k34 =>
    (tq_ai v31 k34 (0 : Int32)).bind fun x35 =>
    (tq_gr v31 t 11 56).bind fun k36 =>
    (tq_ai v31 k36 (1 : Int32)).bind fun x37 =>
    (tq_ai v31 k33 (((61 : Int32) * x35) + x37)).bind fun x38 =>
    some (x38, v31)
  else
    some ((0 : Int32), v6.2)
set_option maxHeartbeats 4000000 in
theorem l_X11_distance_61 {l : Launch} {d : Nat} {Q : tq_R → tq_H → Prop} (hd9 : 4 ≤ d) (i0 : Nat) (i1 : Int32) (i2 : Int32) (i3 : Int32) : ∀ (n : Nat) (y4 : Int32) (hh : tq_H) (o : tq_H), tq_loop (f_X11_distance_b61 i0 i1 i2 i3) n (y4, hh) = some o → tq_W l mX11_distance d 0 0 Q 106 [(0, .ref i0), (1, .int i1), (2, .int i2), (3, .int i3)] [] o → tq_W l mX11_distance d 0 0 Q 61 [(0, .ref i0), (1, .int i1), (2, .int i2), (3, .int i3), (4, .int y4)] [] hh := by
  intro n
  induction n with
  | zero => intro y4 hh o hl; cases hl
  | succ n ih =>
    intro y4 hh o hl hk
    obtain ⟨oo, hf, ho⟩ := tq_loop_s hl
    refine tq_iload (M := mX11_distance) (pc := 61) dX11_distance_61 rfl ?_
    refine tq_aload_n (M := mX11_distance) (pc := 63) dX11_distance_63 rfl ?_
    obtain ⟨k16, ek16, hf⟩ := tq_be hf
    refine tq_getR (M := mX11_distance) (pc := 64) tk_c11 (by decide) dX11_distance_64 tk_RX11_144 rfl ek16 ?_
    refine tq_iconst (M := mX11_distance) (pc := 67) dX11_distance_67 tk_ki_1 ?_
    obtain ⟨x17, ex17, hf⟩ := tq_be hf
    refine tq_ialdF (M := mX11_distance) (pc := 68) dX11_distance_68 ex17 ?_
    refine tq_icmp_gt (M := mX11_distance) (pc := 69) (tgt := 106) dX11_distance_69 (by decide) (fun cc => ?_) (fun cc => ?_)
    · have hf := tq_ifp hf cc
      refine tq_pick (L2 := [(0, .ref i0), (1, .int i1), (2, .int i2), (3, .int i3)]) [0, 1, 2, 3] rfl ?_
      cases (Option.some.inj hf)
      cases (tq_lx ho)
      exact hk
    · have hf := tq_ifn hf cc
      refine tq_aload_n (M := mX11_distance) (pc := 72) dX11_distance_72 rfl ?_
      refine tq_iconst (M := mX11_distance) (pc := 73) dX11_distance_73 tk_ki_0 ?_
      refine tq_iload_n (M := mX11_distance) (pc := 74) dX11_distance_74 rfl ?_
      obtain ⟨⟨⟩, eu19, hf⟩ := tq_be hf
      obtain ⟨fsu19, eu19⟩ := tq_is_s eu19
      obtain ⟨v18, ev18, hf⟩ := tq_be hf
      refine tq_calV (M := mX11_distance) (pc := 75) (S := []) tk_y_X11_isKey tk_v_X11_isKey tk_RX11_436 dX11_distance_75 [.int (0 : Int32), .int i3] rfl (S0 := _) rfl eu19 rfl (Nat.le_of_ble_eq_true rfl) (d1 := d - 1) (b1 := 0) (s1 := 0) (bc' := 0) (bs' := 0) (Q1 := fun r h9 => r = .inl (some (.int v18)) ∧ hh = h9) (by omega) rfl rfl (w_X11_isKey (by omega) ev18 (fun _ _ q => q)) (fun E h9 q => nomatch (show (Sum.inr E : tq_R) = Sum.inl _ from q.1)) (fun r9 h9 q => ?_)
      obtain ⟨q1, rfl⟩ := q
      cases (show (Sum.inl r9 : tq_R) = Sum.inl (some (.int v18)) from q1)
      obtain ⟨p24, ep24, hf⟩ := tq_be hf
      have HJ78 : tq_W l mX11_distance d 0 0 Q 100 [(0, .ref i0), (1, .int i1), (2, .int i2), (3, .int i3), (4, .int y4)] [] p24 := by
        obtain ⟨x25, ex25, hf⟩ := tq_le hf
        refine tq_iinc (M := mX11_distance) (pc := 100) (v := x25) (L2 := [(4, .int x25), (0, .ref i0), (1, .int i1), (2, .int i2), (3, .int i3)]) dX11_distance_100 rfl (by rw [ex25, tk_ki_1]) (by decide) rfl ?_
        refine tq_goto (M := mX11_distance) (pc := 103) (tgt := 61) dX11_distance_103 (by decide) ?_
        refine tq_pick (L2 := [(0, .ref i0), (1, .int i1), (2, .int i2), (3, .int i3), (4, .int x25)]) [1, 2, 3, 4, 0] rfl ?_
        cases (Option.some.inj hf)
        exact ih _ _ o (tq_lc ho) hk
      refine tq_if_eq (M := mX11_distance) (pc := 78) (tgt := 100) dX11_distance_78 (by decide) (fun cc => ?_) (fun cc => ?_)
      · have hf := tq_ifp ep24 cc
        cases (Option.some.inj hf)
        exact HJ78
      · have hf := tq_ifn ep24 cc
        refine tq_aload_n (M := mX11_distance) (pc := 81) dX11_distance_81 rfl ?_
        refine tq_iconst (M := mX11_distance) (pc := 82) dX11_distance_82 tk_ki_1 ?_
        refine tq_iload (M := mX11_distance) (pc := 83) dX11_distance_83 rfl ?_
        obtain ⟨⟨⟩, eu21, hf⟩ := tq_be hf
        obtain ⟨fsu21, eu21⟩ := tq_is_s eu21
        obtain ⟨v20, ev20, hf⟩ := tq_be hf
        refine tq_calV (M := mX11_distance) (pc := 85) (S := []) tk_y_X11_isKey tk_v_X11_isKey tk_RX11_436 dX11_distance_85 [.int (1 : Int32), .int y4] rfl (S0 := _) rfl eu21 rfl (Nat.le_of_ble_eq_true rfl) (d1 := d - 1) (b1 := 0) (s1 := 0) (bc' := 0) (bs' := 0) (Q1 := fun r h9 => r = .inl (some (.int v20)) ∧ hh = h9) (by omega) rfl rfl (w_X11_isKey (by omega) ev20 (fun _ _ q => q)) (fun E h9 q => nomatch (show (Sum.inr E : tq_R) = Sum.inl _ from q.1)) (fun r9 h9 q => ?_)
        obtain ⟨q1, rfl⟩ := q
        cases (show (Sum.inl r9 : tq_R) = Sum.inl (some (.int v20)) from q1)
        refine tq_if_eq (M := mX11_distance) (pc := 88) (tgt := 100) dX11_distance_88 (by decide) (fun cc => ?_) (fun cc => ?_)
        · have hf := tq_ifp hf cc
          cases (Option.some.inj hf)
          exact HJ78
        · have hf := tq_ifn hf cc
          refine tq_aload_n (M := mX11_distance) (pc := 91) dX11_distance_91 rfl ?_
          refine tq_iload_n (M := mX11_distance) (pc := 92) dX11_distance_92 rfl ?_
          refine tq_iload (M := mX11_distance) (pc := 93) dX11_distance_93 rfl ?_
          refine tq_iload_n (M := mX11_distance) (pc := 95) dX11_distance_95 rfl ?_
          refine tq_iload_n (M := mX11_distance) (pc := 96) dX11_distance_96 rfl ?_
          obtain ⟨⟨⟩, eu23, hf⟩ := tq_be hf
          obtain ⟨fsu23, eu23⟩ := tq_is_s eu23
          obtain ⟨v22, ev22, hf⟩ := tq_be hf
          refine tq_calV (M := mX11_distance) (pc := 97) (S := []) tk_y_X11_compareAt tk_v_X11_compareAt tk_RX11_439 dX11_distance_97 [.int i3, .int y4, .int i1, .int i2] rfl (S0 := _) rfl eu23 rfl (Nat.le_of_ble_eq_true rfl) (d1 := d - 1) (b1 := 0) (s1 := 0) (bc' := 0) (bs' := 0) (Q1 := fun r h9 => r = .inl none ∧ v22 = h9) (by omega) rfl rfl (w_X11_compareAt (by omega) ev22 (fun _ _ q => q)) (fun E h9 q => nomatch (show (Sum.inr E : tq_R) = Sum.inl _ from q.1)) (fun r9 h9 q => ?_)
          obtain ⟨q1, rfl⟩ := q
          cases (show (Sum.inl r9 : tq_R) = Sum.inl (none) from q1)
          cases (Option.some.inj hf)
          exact HJ78
set_option maxHeartbeats 4000000 in
theorem l_X11_distance_48 {l : Launch} {d : Nat} {Q : tq_R → tq_H → Prop} (hd9 : 4 ≤ d) (i0 : Nat) (i1 : Int32) (i2 : Int32) : ∀ (n : Nat) (y3 : Int32) (hh : tq_H) (o : tq_H), tq_loop (f_X11_distance_b48 i0 i1 i2) n (y3, hh) = some o → tq_W l mX11_distance d 0 0 Q 112 [(0, .ref i0)] [] o → tq_W l mX11_distance d 0 0 Q 48 [(0, .ref i0), (1, .int i1), (2, .int i2), (3, .int y3)] [] hh := by
  intro n
  induction n with
  | zero => intro y3 hh o hl; cases hl
  | succ n ih =>
    intro y3 hh o hl hk
    obtain ⟨oo, hf, ho⟩ := tq_loop_s hl
    refine tq_iload_n (M := mX11_distance) (pc := 48) dX11_distance_48 rfl ?_
    refine tq_aload_n (M := mX11_distance) (pc := 49) dX11_distance_49 rfl ?_
    obtain ⟨k14, ek14, hf⟩ := tq_be hf
    refine tq_getR (M := mX11_distance) (pc := 50) tk_c11 (by decide) dX11_distance_50 tk_RX11_144 rfl ek14 ?_
    refine tq_iconst (M := mX11_distance) (pc := 53) dX11_distance_53 tk_ki_0 ?_
    obtain ⟨x15, ex15, hf⟩ := tq_be hf
    refine tq_ialdF (M := mX11_distance) (pc := 54) dX11_distance_54 ex15 ?_
    refine tq_icmp_gt (M := mX11_distance) (pc := 55) (tgt := 112) dX11_distance_55 (by decide) (fun cc => ?_) (fun cc => ?_)
    · have hf := tq_ifp hf cc
      refine tq_pick (L2 := [(0, .ref i0)]) [0] rfl ?_
      cases (Option.some.inj hf)
      cases (tq_lx ho)
      exact hk
    · have hf := tq_ifn hf cc
      refine tq_iconst (M := mX11_distance) (pc := 58) dX11_distance_58 tk_ki_1 ?_
      refine tq_istore (M := mX11_distance) (pc := 59) dX11_distance_59 (L2 := [(4, .int (1 : Int32)), (0, .ref i0), (1, .int i1), (2, .int i2), (3, .int y3)]) (by decide) rfl ?_
      obtain ⟨o26, eo26, hf⟩ := tq_be hf
      refine tq_pick (L2 := [(0, .ref i0), (1, .int i1), (2, .int i2), (3, .int y3), (4, .int (1 : Int32))]) [1, 2, 3, 4, 0] rfl ?_
      refine l_X11_distance_61 (by omega) i0 i1 i2 y3 _ (1 : Int32) hh _ eo26 ?_
      obtain ⟨x27, ex27, hf⟩ := tq_le hf
      refine tq_iinc (M := mX11_distance) (pc := 106) (v := x27) (L2 := [(3, .int x27), (0, .ref i0), (1, .int i1), (2, .int i2)]) dX11_distance_106 rfl (by rw [ex27, tk_ki_1]) (by decide) rfl ?_
      refine tq_goto (M := mX11_distance) (pc := 109) (tgt := 48) dX11_distance_109 (by decide) ?_
      refine tq_pick (L2 := [(0, .ref i0), (1, .int i1), (2, .int i2), (3, .int x27)]) [1, 2, 3, 0] rfl ?_
      cases (Option.some.inj hf)
      exact ih _ _ o (tq_lc ho) hk
set_option maxHeartbeats 4000000 in
set_option maxRecDepth 20000 in
theorem w_X11_distance {l : Launch} {d : Nat} (hd9 : 4 ≤ d) {t : Nat} {a1 : Int32} {a2 : Int32} {h : tq_H} {o : Int32 × tq_H} {Q : tq_R → tq_H → Prop} (hf : f_X11_distance t a1 a2 h = some o) (hQ : ∀ r h9, r = .inl (some (.int o.1)) ∧ o.2 = h9 → Q r h9) : tq_C l yX11_distance cX11_distance 5 (some .int) d 0 0 [.ref t, .int a1, .int a2] h Q := by
  refine tq_body (y := yX11_distance) false (by decide +kernel) (fun z => by cases z) (Nat.le_of_ble_eq_true rfl) ?_
  show tq_W l mX11_distance d 0 0 Q 0 [(0, .ref t), (1, .int a1), (2, .int a2)] [] h
  refine tq_aload_n (M := mX11_distance) (pc := 0) dX11_distance_0 rfl ?_
  refine tq_aload_n (M := mX11_distance) (pc := 1) dX11_distance_1 rfl ?_
  refine tq_iload_n (M := mX11_distance) (pc := 2) dX11_distance_2 rfl ?_
  obtain ⟨⟨⟩, eu2, hf⟩ := tq_be hf
  obtain ⟨fsu2, eu2⟩ := tq_is_s eu2
  obtain ⟨v1, ev1, hf⟩ := tq_be hf
  refine tq_calV (M := mX11_distance) (pc := 3) (S := [.ref t]) tk_y_X11_isVersion tk_v_X11_isVersion tk_RX11_419 dX11_distance_3 [.int a1] rfl (S0 := _) rfl eu2 rfl (Nat.le_of_ble_eq_true rfl) (d1 := d - 1) (b1 := 0) (s1 := 0) (bc' := 0) (bs' := 0) (Q1 := fun r h9 => r = .inl (some (.int v1)) ∧ h = h9) (by omega) rfl rfl (w_X11_isVersion (by omega) ev1 (fun _ _ q => q)) (fun E h9 q => nomatch (show (Sum.inr E : tq_R) = Sum.inl _ from q.1)) (fun r9 h9 q => ?_)
  obtain ⟨q1, rfl⟩ := q
  cases (show (Sum.inl r9 : tq_R) = Sum.inl (some (.int v1)) from q1)
  obtain ⟨p5, ep5, hf⟩ := tq_be hf
  have HJ6 : tq_W l mX11_distance d 0 0 Q 22 [(0, .ref t), (1, .int a1), (2, .int a2)] [.int p5, .ref t] h := by
    obtain ⟨⟨⟩, eu7, hf⟩ := tq_be hf
    obtain ⟨fsu7, eu7⟩ := tq_is_s eu7
    obtain ⟨v6, ev6, hf⟩ := tq_be hf
    refine tq_calV (M := mX11_distance) (pc := 22) (S := []) tk_y_X11_refused tk_v_X11_refused tk_RX11_204 dX11_distance_22 [.int p5] rfl (S0 := _) rfl eu7 rfl (Nat.le_of_ble_eq_true rfl) (d1 := d - 1) (b1 := 0) (s1 := 0) (bc' := 0) (bs' := 0) (Q1 := fun r h9 => r = .inl (some (.int v6.1)) ∧ v6.2 = h9) (by omega) rfl rfl (w_X11_refused (by omega) ev6 (fun _ _ q => q)) (fun E h9 q => nomatch (show (Sum.inr E : tq_R) = Sum.inl _ from q.1)) (fun r9 h9 q => ?_)
    obtain ⟨q1, rfl⟩ := q
    cases (show (Sum.inl r9 : tq_R) = Sum.inl (some (.int v6.1)) from q1)
    refine tq_if_eq (M := mX11_distance) (pc := 25) (tgt := 30) dX11_distance_25 (by decide) (fun cc => ?_) (fun cc => ?_)
    · have hf := tq_ifp hf cc
      refine tq_aload_n (M := mX11_distance) (pc := 30) dX11_distance_30 rfl ?_
      obtain ⟨⟨⟩, eu9, hf⟩ := tq_be hf
      obtain ⟨fsu9, eu9⟩ := tq_is_s eu9
      obtain ⟨v8, ev8, hf⟩ := tq_be hf
      refine tq_calV (M := mX11_distance) (pc := 31) (S := []) tk_y_X11_remember tk_v_X11_remember tk_RX11_225 dX11_distance_31 [] rfl (S0 := _) rfl eu9 rfl (Nat.le_of_ble_eq_true rfl) (d1 := d - 1) (b1 := 0) (s1 := 0) (bc' := 0) (bs' := 0) (Q1 := fun r h9 => r = .inl none ∧ v8 = h9) (by omega) rfl rfl (w_X11_remember (by omega) ev8 (fun _ _ q => q)) (fun E h9 q => nomatch (show (Sum.inr E : tq_R) = Sum.inl _ from q.1)) (fun r9 h9 q => ?_)
      obtain ⟨q1, rfl⟩ := q
      cases (show (Sum.inl r9 : tq_R) = Sum.inl (none) from q1)
      refine tq_aload_n (M := mX11_distance) (pc := 34) dX11_distance_34 rfl ?_
      refine tq_iconst (M := mX11_distance) (pc := 35) dX11_distance_35 tk_ki_0 ?_
      refine tq_iload_n (M := mX11_distance) (pc := 36) dX11_distance_36 rfl ?_
      obtain ⟨⟨⟩, eu11, hf⟩ := tq_be hf
      obtain ⟨fsu11, eu11⟩ := tq_is_s eu11
      obtain ⟨v10, ev10, hf⟩ := tq_be hf
      refine tq_calV (M := mX11_distance) (pc := 37) (S := []) tk_y_X11_layOut tk_v_X11_layOut tk_RX11_433 dX11_distance_37 [.int (0 : Int32), .int a1] rfl (S0 := _) rfl eu11 rfl (Nat.le_of_ble_eq_true rfl) (d1 := d - 1) (b1 := 0) (s1 := 0) (bc' := 0) (bs' := 0) (Q1 := fun r h9 => r = .inl none ∧ v10 = h9) (by omega) rfl rfl (w_X11_layOut (by omega) ev10 (fun _ _ q => q)) (fun E h9 q => nomatch (show (Sum.inr E : tq_R) = Sum.inl _ from q.1)) (fun r9 h9 q => ?_)
      obtain ⟨q1, rfl⟩ := q
      cases (show (Sum.inl r9 : tq_R) = Sum.inl (none) from q1)
      refine tq_aload_n (M := mX11_distance) (pc := 40) dX11_distance_40 rfl ?_
      refine tq_iconst (M := mX11_distance) (pc := 41) dX11_distance_41 tk_ki_1 ?_
      refine tq_iload_n (M := mX11_distance) (pc := 42) dX11_distance_42 rfl ?_
      obtain ⟨⟨⟩, eu13, hf⟩ := tq_be hf
      obtain ⟨fsu13, eu13⟩ := tq_is_s eu13
      obtain ⟨v12, ev12, hf⟩ := tq_be hf
      refine tq_calV (M := mX11_distance) (pc := 43) (S := []) tk_y_X11_layOut tk_v_X11_layOut tk_RX11_433 dX11_distance_43 [.int (1 : Int32), .int a2] rfl (S0 := _) rfl eu13 rfl (Nat.le_of_ble_eq_true rfl) (d1 := d - 1) (b1 := 0) (s1 := 0) (bc' := 0) (bs' := 0) (Q1 := fun r h9 => r = .inl none ∧ v12 = h9) (by omega) rfl rfl (w_X11_layOut (by omega) ev12 (fun _ _ q => q)) (fun E h9 q => nomatch (show (Sum.inr E : tq_R) = Sum.inl _ from q.1)) (fun r9 h9 q => ?_)
      obtain ⟨q1, rfl⟩ := q
      cases (show (Sum.inl r9 : tq_R) = Sum.inl (none) from q1)
      refine tq_iconst (M := mX11_distance) (pc := 46) dX11_distance_46 tk_ki_1 ?_
      refine tq_istore_n (M := mX11_distance) (pc := 47) rfl dX11_distance_47 (L2 := [(3, .int (1 : Int32)), (0, .ref t), (1, .int a1), (2, .int a2)]) (by decide) rfl ?_
      obtain ⟨o28, eo28, hf⟩ := tq_be hf
      refine tq_pick (L2 := [(0, .ref t), (1, .int a1), (2, .int a2), (3, .int (1 : Int32))]) [1, 2, 3, 0] rfl ?_
      refine l_X11_distance_48 (by omega) t a1 a2 _ (1 : Int32) v12 _ eo28 ?_
      refine tq_aload_n (M := mX11_distance) (pc := 112) dX11_distance_112 rfl ?_
      obtain ⟨⟨⟩, eu30, hf⟩ := tq_be hf
      obtain ⟨fsu30, eu30⟩ := tq_is_s eu30
      obtain ⟨v29, ev29, hf⟩ := tq_be hf
      refine tq_calV (M := mX11_distance) (pc := 113) (S := []) tk_y_X11_comeBack tk_v_X11_comeBack tk_RX11_251 dX11_distance_113 [] rfl (S0 := _) rfl eu30 rfl (Nat.le_of_ble_eq_true rfl) (d1 := d - 1) (b1 := 0) (s1 := 0) (bc' := 0) (bs' := 0) (Q1 := fun r h9 => r = .inl none ∧ v29 = h9) (by omega) rfl rfl (w_X11_comeBack (by omega) ev29 (fun _ _ q => q)) (fun E h9 q => nomatch (show (Sum.inr E : tq_R) = Sum.inl _ from q.1)) (fun r9 h9 q => ?_)
      obtain ⟨q1, rfl⟩ := q
      cases (show (Sum.inl r9 : tq_R) = Sum.inl (none) from q1)
      refine tq_aload_n (M := mX11_distance) (pc := 116) dX11_distance_116 rfl ?_
      obtain ⟨⟨⟩, eu32, hf⟩ := tq_be hf
      obtain ⟨fsu32, eu32⟩ := tq_is_s eu32
      obtain ⟨v31, ev31, hf⟩ := tq_be hf
      refine tq_calV (M := mX11_distance) (pc := 117) (S := []) tk_y_X11_arrange tk_v_X11_arrange tk_RX11_163 dX11_distance_117 [] rfl (S0 := _) rfl eu32 rfl (Nat.le_of_ble_eq_true rfl) (d1 := d - 1) (b1 := 0) (s1 := 0) (bc' := 0) (bs' := 0) (Q1 := fun r h9 => r = .inl none ∧ v31 = h9) (by omega) rfl rfl (w_X11_arrange (by omega) ev31 (fun _ _ q => q)) (fun E h9 q => nomatch (show (Sum.inr E : tq_R) = Sum.inl _ from q.1)) (fun r9 h9 q => ?_)
      obtain ⟨q1, rfl⟩ := q
      cases (show (Sum.inl r9 : tq_R) = Sum.inl (none) from q1)
      refine tq_aload_n (M := mX11_distance) (pc := 120) dX11_distance_120 rfl ?_
      obtain ⟨k33, ek33, hf⟩ := tq_be hf
      refine tq_getR (M := mX11_distance) (pc := 121) tk_c11 (by decide) dX11_distance_121 tk_RX11_153 rfl ek33 ?_
      refine tq_bipush (M := mX11_distance) (pc := 124) dX11_distance_124 tk_kb_61 ?_
      refine tq_aload_n (M := mX11_distance) (pc := 126) dX11_distance_126 rfl ?_
      obtain ⟨k34, ek34, hf⟩ := tq_be hf
      refine tq_getR (M := mX11_distance) (pc := 127) tk_c11 (by decide) dX11_distance_127 tk_RX11_144 rfl ek34 ?_
      refine tq_iconst (M := mX11_distance) (pc := 130) dX11_distance_130 tk_ki_0 ?_
      obtain ⟨x35, ex35, hf⟩ := tq_be hf
      refine tq_ialdF (M := mX11_distance) (pc := 131) dX11_distance_131 ex35 ?_
      refine tq_imul (M := mX11_distance) (pc := 132) dX11_distance_132 ?_
      refine tq_aload_n (M := mX11_distance) (pc := 133) dX11_distance_133 rfl ?_
      obtain ⟨k36, ek36, hf⟩ := tq_be hf
      refine tq_getR (M := mX11_distance) (pc := 134) tk_c11 (by decide) dX11_distance_134 tk_RX11_144 rfl ek36 ?_
      refine tq_iconst (M := mX11_distance) (pc := 137) dX11_distance_137 tk_ki_1 ?_
      obtain ⟨x37, ex37, hf⟩ := tq_be hf
      refine tq_ialdF (M := mX11_distance) (pc := 138) dX11_distance_138 ex37 ?_
      refine tq_iadd (M := mX11_distance) (pc := 139) dX11_distance_139 ?_
      obtain ⟨x38, ex38, hf⟩ := tq_be hf
      refine tq_ialdF (M := mX11_distance) (pc := 140) dX11_distance_140 ex38 ?_
      refine tq_iret (M := mX11_distance) (pc := 141) dX11_distance_141 rfl ?_
      cases (Option.some.inj hf)
      exact hQ _ _ ⟨rfl, rfl⟩
    · have hf := tq_ifn hf cc
      refine tq_iconst (M := mX11_distance) (pc := 28) dX11_distance_28 tk_ki_0 ?_
      refine tq_iret (M := mX11_distance) (pc := 29) dX11_distance_29 rfl ?_
      cases (Option.some.inj hf)
      exact hQ _ _ ⟨rfl, rfl⟩
  refine tq_if_eq (M := mX11_distance) (pc := 6) (tgt := 21) dX11_distance_6 (by decide) (fun cc => ?_) (fun cc => ?_)
  · have hf := tq_ifp ep5 cc
    refine tq_iconst (M := mX11_distance) (pc := 21) dX11_distance_21 tk_ki_1 ?_
    cases (Option.some.inj hf)
    exact HJ6
  · have hf := tq_ifn ep5 cc
    refine tq_aload_n (M := mX11_distance) (pc := 9) dX11_distance_9 rfl ?_
    refine tq_iload_n (M := mX11_distance) (pc := 10) dX11_distance_10 rfl ?_
    obtain ⟨⟨⟩, eu4, hf⟩ := tq_be hf
    obtain ⟨fsu4, eu4⟩ := tq_is_s eu4
    obtain ⟨v3, ev3, hf⟩ := tq_be hf
    refine tq_calV (M := mX11_distance) (pc := 11) (S := [.ref t]) tk_y_X11_isVersion tk_v_X11_isVersion tk_RX11_419 dX11_distance_11 [.int a2] rfl (S0 := _) rfl eu4 rfl (Nat.le_of_ble_eq_true rfl) (d1 := d - 1) (b1 := 0) (s1 := 0) (bc' := 0) (bs' := 0) (Q1 := fun r h9 => r = .inl (some (.int v3)) ∧ h = h9) (by omega) rfl rfl (w_X11_isVersion (by omega) ev3 (fun _ _ q => q)) (fun E h9 q => nomatch (show (Sum.inr E : tq_R) = Sum.inl _ from q.1)) (fun r9 h9 q => ?_)
    obtain ⟨q1, rfl⟩ := q
    cases (show (Sum.inl r9 : tq_R) = Sum.inl (some (.int v3)) from q1)
    refine tq_if_eq (M := mX11_distance) (pc := 14) (tgt := 21) dX11_distance_14 (by decide) (fun cc => ?_) (fun cc => ?_)
    · have hf := tq_ifp hf cc
      refine tq_iconst (M := mX11_distance) (pc := 21) dX11_distance_21 tk_ki_1 ?_
      cases (Option.some.inj hf)
      exact HJ6
    · have hf := tq_ifn hf cc
      refine tq_iconst (M := mX11_distance) (pc := 17) dX11_distance_17 tk_ki_0 ?_
      refine tq_goto (M := mX11_distance) (pc := 18) (tgt := 22) dX11_distance_18 (by decide) ?_
      cases (Option.some.inj hf)
      exact HJ6
abbrev mX11_differ : tq_M := (RX11, cX11_differ, 4, (some .boolean), false, [], none)
def f_X11_differ (t : Nat) (a1 : Int32) (a2 : Int32) (h : tq_H) : Option (Int32) :=
  (tq_gr h t 11 54).bind fun k1 =>
  (tq_ai h k1 a1).bind fun x2 =>
  (tq_gr h t 11 54).bind fun k3 =>
  (tq_ai h k3 a2).bind fun x4 =>
  (if x2 = x4 then
    (tq_gr h t 11 51).bind fun k5 =>
    (tq_ai h k5 a1).bind fun x6 =>
    (tq_gr h t 11 51).bind fun k7 =>
    (tq_ai h k7 a2).bind fun x8 =>
    if x6 = x8 then
      (tq_gr h t 11 52).bind fun k9 =>
      (tq_ai h k9 a1).bind fun x10 =>
      (tq_gr h t 11 52).bind fun k11 =>
      (tq_ai h k11 a2).bind fun x12 =>
      if x10 = x12 then
        (tq_gr h t 11 53).bind fun k13 =>
        (tq_ai h k13 a1).bind fun x14 =>
        (tq_gr h t 11 53).bind fun k15 =>
        (tq_ai h k15 a2).bind fun x16 =>
        if x14 = x16 then
          some (0 : Int32)
        else
          some (1 : Int32)
      else
        some (1 : Int32)
    else
      some (1 : Int32)
  else
    some (1 : Int32)).bind fun p17 =>
  (tq_gr h t 11 50).bind fun k18 =>
  (tq_az h k18 a1).bind fun x19 =>
  (tq_gr h t 11 50).bind fun k20 =>
  (tq_az h k20 a2).bind fun x21 =>
  (if x19 = x21 then
    (tq_gr h t 11 50).bind fun k22 =>
    (tq_az h k22 a1).bind fun x23 =>
    if x23 = 0 then
      some (0 : Int32)
    else
      if p17 = 0 then
        some (0 : Int32)
      else
        some (1 : Int32)
  else
    some (1 : Int32)).bind fun p24 =>
  (tq_bz p24).bind fun z25 =>
  some z25
set_option maxHeartbeats 4000000 in
set_option maxRecDepth 20000 in
theorem w_X11_differ {l : Launch} {d : Nat} (hd9 : 0 ≤ d) {t : Nat} {a1 : Int32} {a2 : Int32} {h : tq_H} {o : Int32} {Q : tq_R → tq_H → Prop} (hf : f_X11_differ t a1 a2 h = some o) (hQ : ∀ r h9, r = .inl (some (.int o)) ∧ h = h9 → Q r h9) : tq_C l yX11_differ cX11_differ 4 (some .boolean) d 0 0 [.ref t, .int a1, .int a2] h Q := by
  refine tq_body (y := yX11_differ) false (by decide +kernel) (fun z => by cases z) (Nat.le_of_ble_eq_true rfl) ?_
  show tq_W l mX11_differ d 0 0 Q 0 [(0, .ref t), (1, .int a1), (2, .int a2)] [] h
  refine tq_aload_n (M := mX11_differ) (pc := 0) dX11_differ_0 rfl ?_
  obtain ⟨k1, ek1, hf⟩ := tq_be hf
  refine tq_getR (M := mX11_differ) (pc := 1) tk_c11 (by decide) dX11_differ_1 tk_RX11_138 rfl ek1 ?_
  refine tq_iload_n (M := mX11_differ) (pc := 4) dX11_differ_4 rfl ?_
  obtain ⟨x2, ex2, hf⟩ := tq_be hf
  refine tq_ialdF (M := mX11_differ) (pc := 5) dX11_differ_5 ex2 ?_
  refine tq_aload_n (M := mX11_differ) (pc := 6) dX11_differ_6 rfl ?_
  obtain ⟨k3, ek3, hf⟩ := tq_be hf
  refine tq_getR (M := mX11_differ) (pc := 7) tk_c11 (by decide) dX11_differ_7 tk_RX11_138 rfl ek3 ?_
  refine tq_iload_n (M := mX11_differ) (pc := 10) dX11_differ_10 rfl ?_
  obtain ⟨x4, ex4, hf⟩ := tq_be hf
  refine tq_ialdF (M := mX11_differ) (pc := 11) dX11_differ_11 ex4 ?_
  obtain ⟨p17, ep17, hf⟩ := tq_be hf
  have HJ12 : tq_W l mX11_differ d 0 0 Q 65 [(0, .ref t), (1, .int a1), (2, .int a2)] [.int p17] h := by
    refine tq_istore_n (M := mX11_differ) (pc := 65) rfl dX11_differ_65 (L2 := [(3, .int p17), (0, .ref t), (1, .int a1), (2, .int a2)]) (by decide) rfl ?_
    refine tq_aload_n (M := mX11_differ) (pc := 66) dX11_differ_66 rfl ?_
    obtain ⟨k18, ek18, hf⟩ := tq_be hf
    refine tq_getR (M := mX11_differ) (pc := 67) tk_c11 (by decide) dX11_differ_67 tk_RX11_126 rfl ek18 ?_
    refine tq_iload_n (M := mX11_differ) (pc := 70) dX11_differ_70 rfl ?_
    obtain ⟨x19, ex19, hf⟩ := tq_be hf
    refine tq_zaldF (M := mX11_differ) (pc := 71) dX11_differ_71 ex19 ?_
    refine tq_aload_n (M := mX11_differ) (pc := 72) dX11_differ_72 rfl ?_
    obtain ⟨k20, ek20, hf⟩ := tq_be hf
    refine tq_getR (M := mX11_differ) (pc := 73) tk_c11 (by decide) dX11_differ_73 tk_RX11_126 rfl ek20 ?_
    refine tq_iload_n (M := mX11_differ) (pc := 76) dX11_differ_76 rfl ?_
    obtain ⟨x21, ex21, hf⟩ := tq_be hf
    refine tq_zaldF (M := mX11_differ) (pc := 77) dX11_differ_77 ex21 ?_
    obtain ⟨p24, ep24, hf⟩ := tq_be hf
    have HJ78 : tq_W l mX11_differ d 0 0 Q 99 [] [.int p24] h := by
      obtain ⟨z25, ez25, hf⟩ := tq_be hf
      refine tq_zretB (M := mX11_differ) (pc := 99) dX11_differ_99 rfl ez25 ?_
      cases (Option.some.inj hf)
      exact hQ _ _ ⟨rfl, rfl⟩
    refine tq_icmp_ne (M := mX11_differ) (pc := 78) (tgt := 94) dX11_differ_78 (by decide) (fun cc => ?_) (fun cc => ?_)
    · have hf := tq_ifn ep24 cc
      refine tq_iconst (M := mX11_differ) (pc := 94) dX11_differ_94 tk_ki_1 ?_
      refine tq_goto (M := mX11_differ) (pc := 95) (tgt := 99) dX11_differ_95 (by decide) ?_
      refine tq_pick (L2 := []) [] rfl ?_
      cases (Option.some.inj hf)
      exact HJ78
    · have hf := tq_ifp ep24 cc
      refine tq_aload_n (M := mX11_differ) (pc := 81) dX11_differ_81 rfl ?_
      obtain ⟨k22, ek22, hf⟩ := tq_be hf
      refine tq_getR (M := mX11_differ) (pc := 82) tk_c11 (by decide) dX11_differ_82 tk_RX11_126 rfl ek22 ?_
      refine tq_iload_n (M := mX11_differ) (pc := 85) dX11_differ_85 rfl ?_
      obtain ⟨x23, ex23, hf⟩ := tq_be hf
      refine tq_zaldF (M := mX11_differ) (pc := 86) dX11_differ_86 ex23 ?_
      refine tq_if_eq (M := mX11_differ) (pc := 87) (tgt := 98) dX11_differ_87 (by decide) (fun cc => ?_) (fun cc => ?_)
      · have hf := tq_ifp hf cc
        refine tq_iconst (M := mX11_differ) (pc := 98) dX11_differ_98 tk_ki_0 ?_
        refine tq_pick (L2 := []) [] rfl ?_
        cases (Option.some.inj hf)
        exact HJ78
      · have hf := tq_ifn hf cc
        refine tq_iload_n (M := mX11_differ) (pc := 90) dX11_differ_90 rfl ?_
        refine tq_if_eq (M := mX11_differ) (pc := 91) (tgt := 98) dX11_differ_91 (by decide) (fun cc => ?_) (fun cc => ?_)
        · have hf := tq_ifp hf cc
          refine tq_iconst (M := mX11_differ) (pc := 98) dX11_differ_98 tk_ki_0 ?_
          refine tq_pick (L2 := []) [] rfl ?_
          cases (Option.some.inj hf)
          exact HJ78
        · have hf := tq_ifn hf cc
          refine tq_iconst (M := mX11_differ) (pc := 94) dX11_differ_94 tk_ki_1 ?_
          refine tq_goto (M := mX11_differ) (pc := 95) (tgt := 99) dX11_differ_95 (by decide) ?_
          refine tq_pick (L2 := []) [] rfl ?_
          cases (Option.some.inj hf)
          exact HJ78
  refine tq_icmp_ne (M := mX11_differ) (pc := 12) (tgt := 60) dX11_differ_12 (by decide) (fun cc => ?_) (fun cc => ?_)
  · have hf := tq_ifn ep17 cc
    refine tq_iconst (M := mX11_differ) (pc := 60) dX11_differ_60 tk_ki_1 ?_
    refine tq_goto (M := mX11_differ) (pc := 61) (tgt := 65) dX11_differ_61 (by decide) ?_
    cases (Option.some.inj hf)
    exact HJ12
  · have hf := tq_ifp ep17 cc
    refine tq_aload_n (M := mX11_differ) (pc := 15) dX11_differ_15 rfl ?_
    obtain ⟨k5, ek5, hf⟩ := tq_be hf
    refine tq_getR (M := mX11_differ) (pc := 16) tk_c11 (by decide) dX11_differ_16 tk_RX11_129 rfl ek5 ?_
    refine tq_iload_n (M := mX11_differ) (pc := 19) dX11_differ_19 rfl ?_
    obtain ⟨x6, ex6, hf⟩ := tq_be hf
    refine tq_ialdF (M := mX11_differ) (pc := 20) dX11_differ_20 ex6 ?_
    refine tq_aload_n (M := mX11_differ) (pc := 21) dX11_differ_21 rfl ?_
    obtain ⟨k7, ek7, hf⟩ := tq_be hf
    refine tq_getR (M := mX11_differ) (pc := 22) tk_c11 (by decide) dX11_differ_22 tk_RX11_129 rfl ek7 ?_
    refine tq_iload_n (M := mX11_differ) (pc := 25) dX11_differ_25 rfl ?_
    obtain ⟨x8, ex8, hf⟩ := tq_be hf
    refine tq_ialdF (M := mX11_differ) (pc := 26) dX11_differ_26 ex8 ?_
    refine tq_icmp_ne (M := mX11_differ) (pc := 27) (tgt := 60) dX11_differ_27 (by decide) (fun cc => ?_) (fun cc => ?_)
    · have hf := tq_ifn hf cc
      refine tq_iconst (M := mX11_differ) (pc := 60) dX11_differ_60 tk_ki_1 ?_
      refine tq_goto (M := mX11_differ) (pc := 61) (tgt := 65) dX11_differ_61 (by decide) ?_
      cases (Option.some.inj hf)
      exact HJ12
    · have hf := tq_ifp hf cc
      refine tq_aload_n (M := mX11_differ) (pc := 30) dX11_differ_30 rfl ?_
      obtain ⟨k9, ek9, hf⟩ := tq_be hf
      refine tq_getR (M := mX11_differ) (pc := 31) tk_c11 (by decide) dX11_differ_31 tk_RX11_132 rfl ek9 ?_
      refine tq_iload_n (M := mX11_differ) (pc := 34) dX11_differ_34 rfl ?_
      obtain ⟨x10, ex10, hf⟩ := tq_be hf
      refine tq_ialdF (M := mX11_differ) (pc := 35) dX11_differ_35 ex10 ?_
      refine tq_aload_n (M := mX11_differ) (pc := 36) dX11_differ_36 rfl ?_
      obtain ⟨k11, ek11, hf⟩ := tq_be hf
      refine tq_getR (M := mX11_differ) (pc := 37) tk_c11 (by decide) dX11_differ_37 tk_RX11_132 rfl ek11 ?_
      refine tq_iload_n (M := mX11_differ) (pc := 40) dX11_differ_40 rfl ?_
      obtain ⟨x12, ex12, hf⟩ := tq_be hf
      refine tq_ialdF (M := mX11_differ) (pc := 41) dX11_differ_41 ex12 ?_
      refine tq_icmp_ne (M := mX11_differ) (pc := 42) (tgt := 60) dX11_differ_42 (by decide) (fun cc => ?_) (fun cc => ?_)
      · have hf := tq_ifn hf cc
        refine tq_iconst (M := mX11_differ) (pc := 60) dX11_differ_60 tk_ki_1 ?_
        refine tq_goto (M := mX11_differ) (pc := 61) (tgt := 65) dX11_differ_61 (by decide) ?_
        cases (Option.some.inj hf)
        exact HJ12
      · have hf := tq_ifp hf cc
        refine tq_aload_n (M := mX11_differ) (pc := 45) dX11_differ_45 rfl ?_
        obtain ⟨k13, ek13, hf⟩ := tq_be hf
        refine tq_getR (M := mX11_differ) (pc := 46) tk_c11 (by decide) dX11_differ_46 tk_RX11_135 rfl ek13 ?_
        refine tq_iload_n (M := mX11_differ) (pc := 49) dX11_differ_49 rfl ?_
        obtain ⟨x14, ex14, hf⟩ := tq_be hf
        refine tq_ialdF (M := mX11_differ) (pc := 50) dX11_differ_50 ex14 ?_
        refine tq_aload_n (M := mX11_differ) (pc := 51) dX11_differ_51 rfl ?_
        obtain ⟨k15, ek15, hf⟩ := tq_be hf
        refine tq_getR (M := mX11_differ) (pc := 52) tk_c11 (by decide) dX11_differ_52 tk_RX11_135 rfl ek15 ?_
        refine tq_iload_n (M := mX11_differ) (pc := 55) dX11_differ_55 rfl ?_
        obtain ⟨x16, ex16, hf⟩ := tq_be hf
        refine tq_ialdF (M := mX11_differ) (pc := 56) dX11_differ_56 ex16 ?_
        refine tq_icmp_eq (M := mX11_differ) (pc := 57) (tgt := 64) dX11_differ_57 (by decide) (fun cc => ?_) (fun cc => ?_)
        · have hf := tq_ifp hf cc
          refine tq_iconst (M := mX11_differ) (pc := 64) dX11_differ_64 tk_ki_0 ?_
          cases (Option.some.inj hf)
          exact HJ12
        · have hf := tq_ifn hf cc
          refine tq_iconst (M := mX11_differ) (pc := 60) dX11_differ_60 tk_ki_1 ?_
          refine tq_goto (M := mX11_differ) (pc := 61) (tgt := 65) dX11_differ_61 (by decide) ?_
          cases (Option.some.inj hf)
          exact HJ12
abbrev mX11_odds : tq_M := (RX11, cX11_odds, 10, (some .int), false, [], none)
def f_X11_odds_b56 (i0 : Nat) (i1 : Int32) (i2 : Int32) (i3 : Int32) (hh : tq_H) (s : Int32 × Int32) : Option ((Int32 × Int32) ⊕ (Int32)) := match s with
  | (y5, y6) =>
    (tq_gi hh i0 11 1).bind fun x11 =>
    if y6 ≥ x11 then
      some (.inr y5)
    else
      tq_let ((((60 : Int32) * i1) + y6)) fun x12 =>
      tq_let ((((60 : Int32) * i2) + y6)) fun x13 =>
      tq_let ((((60 : Int32) * i3) + y6)) fun x14 =>
      (tq_is hh i0 11).bind fun _ =>
      (f_X11_differ i0 x12 x13 hh).bind fun v15 =>
      (if v15 = 0 then
        some (0 : Int32)
      else
        (tq_is hh i0 11).bind fun _ =>
        (f_X11_differ i0 x12 x14 hh).bind fun v17 =>
        if v17 = 0 then
          some (0 : Int32)
        else
          (tq_is hh i0 11).bind fun _ =>
          (f_X11_differ i0 x13 x14 hh).bind fun v19 =>
          if v19 = 0 then
            some (0 : Int32)
          else
            some (1 : Int32)).bind fun p21 =>
      tq_let ((y5 + p21)) fun x22 =>
      tq_let (y6 + (1 : Int32)) fun x23 =>
      some (.inl (x22, x23))
def f_X11_odds (t : Nat) (a1 : Int32) (a2 : Int32) (a3 : Int32) (h : tq_H) : Option (Int32 × tq_H) :=
  (tq_is h t 11).bind fun _ =>
  (f_X11_isVersion t a1 h).bind fun v1 =>
  (if v1 = 0 then
    some (0 : Int32)
  else
    (tq_is h t 11).bind fun _ =>
    (f_X11_isVersion t a2 h).bind fun v3 =>
    if v3 = 0 then
      some (0 : Int32)
    else
      (tq_is h t 11).bind fun _ =>
      (f_X11_isVersion t a3 h).bind fun v5 =>
      if v5 = 0 then
        some (0 : Int32)
      else
        some (1 : Int32)).bind fun p7 =>
  tq_let (if p7 = 0 then (1 : Int32) else (0 : Int32)) fun p8 =>
  (tq_is h t 11).bind fun _ =>
  (f_X11_refused t p8 h).bind fun v9 =>
  if v9.1 = 0 then
    (tq_loop (f_X11_odds_b56 t a1 a2 a3 v9.2) tq_N ((0 : Int32), (0 : Int32))).bind fun o24 =>
    some (o24, v9.2)
  else
    some ((0 : Int32), v9.2)
set_option maxHeartbeats 4000000 in
theorem l_X11_odds_56 {l : Launch} {d : Nat} {Q : tq_R → tq_H → Prop} (hd9 : 2 ≤ d) (i0 : Nat) (i1 : Int32) (i2 : Int32) (i3 : Int32) (hh : tq_H) : ∀ (n : Nat) (y5 : Int32) (y6 : Int32) (o : Int32), tq_loop (f_X11_odds_b56 i0 i1 i2 i3 hh) n (y5, y6) = some o → tq_W l mX11_odds d 0 0 Q 141 [(5, .int o)] [] hh → tq_W l mX11_odds d 0 0 Q 56 [(0, .ref i0), (1, .int i1), (2, .int i2), (3, .int i3), (5, .int y5), (6, .int y6)] [] hh := by
  intro n
  induction n with
  | zero => intro y5 y6 o hl; cases hl
  | succ n ih =>
    intro y5 y6 o hl hk
    obtain ⟨oo, hf, ho⟩ := tq_loop_s hl
    refine tq_iload (M := mX11_odds) (pc := 56) dX11_odds_56 rfl ?_
    refine tq_aload_n (M := mX11_odds) (pc := 58) dX11_odds_58 rfl ?_
    obtain ⟨x11, ex11, hf⟩ := tq_be hf
    refine tq_getI (M := mX11_odds) (pc := 59) tk_c11 (by decide) dX11_odds_59 tk_RX11_159 rfl ex11 ?_
    refine tq_icmp_ge (M := mX11_odds) (pc := 62) (tgt := 141) dX11_odds_62 (by decide) (fun cc => ?_) (fun cc => ?_)
    · have hf := tq_ifp hf cc
      refine tq_pick (L2 := [(5, .int y5)]) [4] rfl ?_
      cases (Option.some.inj hf)
      cases (tq_lx ho)
      exact hk
    · have hf := tq_ifn hf cc
      refine tq_bipush (M := mX11_odds) (pc := 65) dX11_odds_65 tk_kb_60 ?_
      refine tq_iload_n (M := mX11_odds) (pc := 67) dX11_odds_67 rfl ?_
      refine tq_imul (M := mX11_odds) (pc := 68) dX11_odds_68 ?_
      refine tq_iload (M := mX11_odds) (pc := 69) dX11_odds_69 rfl ?_
      refine tq_iadd (M := mX11_odds) (pc := 71) dX11_odds_71 ?_
      obtain ⟨x12, ex12, hf⟩ := tq_le hf
      refine tq_istore (M := mX11_odds) (pc := 72) dX11_odds_72 (L2 := [(7, .int x12), (0, .ref i0), (1, .int i1), (2, .int i2), (3, .int i3), (5, .int y5), (6, .int y6)]) (by decide) (by rw [ex12]; rfl) ?_
      refine tq_bipush (M := mX11_odds) (pc := 74) dX11_odds_74 tk_kb_60 ?_
      refine tq_iload_n (M := mX11_odds) (pc := 76) dX11_odds_76 rfl ?_
      refine tq_imul (M := mX11_odds) (pc := 77) dX11_odds_77 ?_
      refine tq_iload (M := mX11_odds) (pc := 78) dX11_odds_78 rfl ?_
      refine tq_iadd (M := mX11_odds) (pc := 80) dX11_odds_80 ?_
      obtain ⟨x13, ex13, hf⟩ := tq_le hf
      refine tq_istore (M := mX11_odds) (pc := 81) dX11_odds_81 (L2 := [(8, .int x13), (7, .int x12), (0, .ref i0), (1, .int i1), (2, .int i2), (3, .int i3), (5, .int y5), (6, .int y6)]) (by decide) (by rw [ex13]; rfl) ?_
      refine tq_bipush (M := mX11_odds) (pc := 83) dX11_odds_83 tk_kb_60 ?_
      refine tq_iload_n (M := mX11_odds) (pc := 85) dX11_odds_85 rfl ?_
      refine tq_imul (M := mX11_odds) (pc := 86) dX11_odds_86 ?_
      refine tq_iload (M := mX11_odds) (pc := 87) dX11_odds_87 rfl ?_
      refine tq_iadd (M := mX11_odds) (pc := 89) dX11_odds_89 ?_
      obtain ⟨x14, ex14, hf⟩ := tq_le hf
      refine tq_istore (M := mX11_odds) (pc := 90) dX11_odds_90 (L2 := [(9, .int x14), (8, .int x13), (7, .int x12), (0, .ref i0), (1, .int i1), (2, .int i2), (3, .int i3), (5, .int y5), (6, .int y6)]) (by decide) (by rw [ex14]; rfl) ?_
      refine tq_iload (M := mX11_odds) (pc := 92) dX11_odds_92 rfl ?_
      refine tq_aload_n (M := mX11_odds) (pc := 94) dX11_odds_94 rfl ?_
      refine tq_iload (M := mX11_odds) (pc := 95) dX11_odds_95 rfl ?_
      refine tq_iload (M := mX11_odds) (pc := 97) dX11_odds_97 rfl ?_
      obtain ⟨⟨⟩, eu16, hf⟩ := tq_be hf
      obtain ⟨fsu16, eu16⟩ := tq_is_s eu16
      obtain ⟨v15, ev15, hf⟩ := tq_be hf
      refine tq_calV (M := mX11_odds) (pc := 99) (S := [.int y5]) tk_y_X11_differ tk_v_X11_differ tk_RX11_443 dX11_odds_99 [.int x12, .int x13] rfl (S0 := _) rfl eu16 rfl (Nat.le_of_ble_eq_true rfl) (d1 := d - 1) (b1 := 0) (s1 := 0) (bc' := 0) (bs' := 0) (Q1 := fun r h9 => r = .inl (some (.int v15)) ∧ hh = h9) (by omega) rfl rfl (w_X11_differ (by omega) ev15 (fun _ _ q => q)) (fun E h9 q => nomatch (show (Sum.inr E : tq_R) = Sum.inl _ from q.1)) (fun r9 h9 q => ?_)
      obtain ⟨q1, rfl⟩ := q
      cases (show (Sum.inl r9 : tq_R) = Sum.inl (some (.int v15)) from q1)
      obtain ⟨p21, ep21, hf⟩ := tq_be hf
      have HJ102 : tq_W l mX11_odds d 0 0 Q 132 [(0, .ref i0), (1, .int i1), (2, .int i2), (3, .int i3), (6, .int y6)] [.int p21, .int y5] hh := by
        refine tq_iadd (M := mX11_odds) (pc := 132) dX11_odds_132 ?_
        obtain ⟨x22, ex22, hf⟩ := tq_le hf
        refine tq_istore (M := mX11_odds) (pc := 133) dX11_odds_133 (L2 := [(5, .int x22), (0, .ref i0), (1, .int i1), (2, .int i2), (3, .int i3), (6, .int y6)]) (by decide) (by rw [ex22]; rfl) ?_
        obtain ⟨x23, ex23, hf⟩ := tq_le hf
        refine tq_iinc (M := mX11_odds) (pc := 135) (v := x23) (L2 := [(6, .int x23), (5, .int x22), (0, .ref i0), (1, .int i1), (2, .int i2), (3, .int i3)]) dX11_odds_135 rfl (by rw [ex23, tk_ki_1]) (by decide) rfl ?_
        refine tq_goto (M := mX11_odds) (pc := 138) (tgt := 56) dX11_odds_138 (by decide) ?_
        refine tq_pick (L2 := [(0, .ref i0), (1, .int i1), (2, .int i2), (3, .int i3), (5, .int x22), (6, .int x23)]) [2, 3, 4, 5, 1, 0] rfl ?_
        cases (Option.some.inj hf)
        exact ih _ _ o (tq_lc ho) hk
      refine tq_if_eq (M := mX11_odds) (pc := 102) (tgt := 131) dX11_odds_102 (by decide) (fun cc => ?_) (fun cc => ?_)
      · have hf := tq_ifp ep21 cc
        refine tq_iconst (M := mX11_odds) (pc := 131) dX11_odds_131 tk_ki_0 ?_
        refine tq_pick (L2 := [(0, .ref i0), (1, .int i1), (2, .int i2), (3, .int i3), (6, .int y6)]) [3, 4, 5, 6, 8] rfl ?_
        cases (Option.some.inj hf)
        exact HJ102
      · have hf := tq_ifn ep21 cc
        refine tq_aload_n (M := mX11_odds) (pc := 105) dX11_odds_105 rfl ?_
        refine tq_iload (M := mX11_odds) (pc := 106) dX11_odds_106 rfl ?_
        refine tq_iload (M := mX11_odds) (pc := 108) dX11_odds_108 rfl ?_
        obtain ⟨⟨⟩, eu18, hf⟩ := tq_be hf
        obtain ⟨fsu18, eu18⟩ := tq_is_s eu18
        obtain ⟨v17, ev17, hf⟩ := tq_be hf
        refine tq_calV (M := mX11_odds) (pc := 110) (S := [.int y5]) tk_y_X11_differ tk_v_X11_differ tk_RX11_443 dX11_odds_110 [.int x12, .int x14] rfl (S0 := _) rfl eu18 rfl (Nat.le_of_ble_eq_true rfl) (d1 := d - 1) (b1 := 0) (s1 := 0) (bc' := 0) (bs' := 0) (Q1 := fun r h9 => r = .inl (some (.int v17)) ∧ hh = h9) (by omega) rfl rfl (w_X11_differ (by omega) ev17 (fun _ _ q => q)) (fun E h9 q => nomatch (show (Sum.inr E : tq_R) = Sum.inl _ from q.1)) (fun r9 h9 q => ?_)
        obtain ⟨q1, rfl⟩ := q
        cases (show (Sum.inl r9 : tq_R) = Sum.inl (some (.int v17)) from q1)
        refine tq_if_eq (M := mX11_odds) (pc := 113) (tgt := 131) dX11_odds_113 (by decide) (fun cc => ?_) (fun cc => ?_)
        · have hf := tq_ifp hf cc
          refine tq_iconst (M := mX11_odds) (pc := 131) dX11_odds_131 tk_ki_0 ?_
          refine tq_pick (L2 := [(0, .ref i0), (1, .int i1), (2, .int i2), (3, .int i3), (6, .int y6)]) [3, 4, 5, 6, 8] rfl ?_
          cases (Option.some.inj hf)
          exact HJ102
        · have hf := tq_ifn hf cc
          refine tq_aload_n (M := mX11_odds) (pc := 116) dX11_odds_116 rfl ?_
          refine tq_iload (M := mX11_odds) (pc := 117) dX11_odds_117 rfl ?_
          refine tq_iload (M := mX11_odds) (pc := 119) dX11_odds_119 rfl ?_
          obtain ⟨⟨⟩, eu20, hf⟩ := tq_be hf
          obtain ⟨fsu20, eu20⟩ := tq_is_s eu20
          obtain ⟨v19, ev19, hf⟩ := tq_be hf
          refine tq_calV (M := mX11_odds) (pc := 121) (S := [.int y5]) tk_y_X11_differ tk_v_X11_differ tk_RX11_443 dX11_odds_121 [.int x13, .int x14] rfl (S0 := _) rfl eu20 rfl (Nat.le_of_ble_eq_true rfl) (d1 := d - 1) (b1 := 0) (s1 := 0) (bc' := 0) (bs' := 0) (Q1 := fun r h9 => r = .inl (some (.int v19)) ∧ hh = h9) (by omega) rfl rfl (w_X11_differ (by omega) ev19 (fun _ _ q => q)) (fun E h9 q => nomatch (show (Sum.inr E : tq_R) = Sum.inl _ from q.1)) (fun r9 h9 q => ?_)
          obtain ⟨q1, rfl⟩ := q
          cases (show (Sum.inl r9 : tq_R) = Sum.inl (some (.int v19)) from q1)
          refine tq_if_eq (M := mX11_odds) (pc := 124) (tgt := 131) dX11_odds_124 (by decide) (fun cc => ?_) (fun cc => ?_)
          · have hf := tq_ifp hf cc
            refine tq_iconst (M := mX11_odds) (pc := 131) dX11_odds_131 tk_ki_0 ?_
            refine tq_pick (L2 := [(0, .ref i0), (1, .int i1), (2, .int i2), (3, .int i3), (6, .int y6)]) [3, 4, 5, 6, 8] rfl ?_
            cases (Option.some.inj hf)
            exact HJ102
          · have hf := tq_ifn hf cc
            refine tq_iconst (M := mX11_odds) (pc := 127) dX11_odds_127 tk_ki_1 ?_
            refine tq_goto (M := mX11_odds) (pc := 128) (tgt := 132) dX11_odds_128 (by decide) ?_
            refine tq_pick (L2 := [(0, .ref i0), (1, .int i1), (2, .int i2), (3, .int i3), (6, .int y6)]) [3, 4, 5, 6, 8] rfl ?_
            cases (Option.some.inj hf)
            exact HJ102
set_option maxHeartbeats 4000000 in
set_option maxRecDepth 20000 in
theorem w_X11_odds {l : Launch} {d : Nat} (hd9 : 2 ≤ d) {t : Nat} {a1 : Int32} {a2 : Int32} {a3 : Int32} {h : tq_H} {o : Int32 × tq_H} {Q : tq_R → tq_H → Prop} (hf : f_X11_odds t a1 a2 a3 h = some o) (hQ : ∀ r h9, r = .inl (some (.int o.1)) ∧ o.2 = h9 → Q r h9) : tq_C l yX11_odds cX11_odds 10 (some .int) d 0 0 [.ref t, .int a1, .int a2, .int a3] h Q := by
  refine tq_body (y := yX11_odds) false (by decide +kernel) (fun z => by cases z) (Nat.le_of_ble_eq_true rfl) ?_
  show tq_W l mX11_odds d 0 0 Q 0 [(0, .ref t), (1, .int a1), (2, .int a2), (3, .int a3)] [] h
  refine tq_aload_n (M := mX11_odds) (pc := 0) dX11_odds_0 rfl ?_
  refine tq_iload_n (M := mX11_odds) (pc := 1) dX11_odds_1 rfl ?_
  obtain ⟨⟨⟩, eu2, hf⟩ := tq_be hf
  obtain ⟨fsu2, eu2⟩ := tq_is_s eu2
  obtain ⟨v1, ev1, hf⟩ := tq_be hf
  refine tq_calV (M := mX11_odds) (pc := 2) (S := []) tk_y_X11_isVersion tk_v_X11_isVersion tk_RX11_419 dX11_odds_2 [.int a1] rfl (S0 := _) rfl eu2 rfl (Nat.le_of_ble_eq_true rfl) (d1 := d - 1) (b1 := 0) (s1 := 0) (bc' := 0) (bs' := 0) (Q1 := fun r h9 => r = .inl (some (.int v1)) ∧ h = h9) (by omega) rfl rfl (w_X11_isVersion (by omega) ev1 (fun _ _ q => q)) (fun E h9 q => nomatch (show (Sum.inr E : tq_R) = Sum.inl _ from q.1)) (fun r9 h9 q => ?_)
  obtain ⟨q1, rfl⟩ := q
  cases (show (Sum.inl r9 : tq_R) = Sum.inl (some (.int v1)) from q1)
  obtain ⟨p7, ep7, hf⟩ := tq_be hf
  have HJ5 : tq_W l mX11_odds d 0 0 Q 29 [(0, .ref t), (1, .int a1), (2, .int a2), (3, .int a3)] [.int p7] h := by
    refine tq_istore (M := mX11_odds) (pc := 29) dX11_odds_29 (L2 := [(4, .int p7), (0, .ref t), (1, .int a1), (2, .int a2), (3, .int a3)]) (by decide) rfl ?_
    refine tq_aload_n (M := mX11_odds) (pc := 31) dX11_odds_31 rfl ?_
    refine tq_iload (M := mX11_odds) (pc := 32) dX11_odds_32 rfl ?_
    obtain ⟨p8, ep8, hf⟩ := tq_le hf
    have HJ34 : tq_W l mX11_odds d 0 0 Q 42 [(0, .ref t), (1, .int a1), (2, .int a2), (3, .int a3)] [.int p8, .ref t] h := by
      obtain ⟨⟨⟩, eu10, hf⟩ := tq_be hf
      obtain ⟨fsu10, eu10⟩ := tq_is_s eu10
      obtain ⟨v9, ev9, hf⟩ := tq_be hf
      refine tq_calV (M := mX11_odds) (pc := 42) (S := []) tk_y_X11_refused tk_v_X11_refused tk_RX11_204 dX11_odds_42 [.int p8] rfl (S0 := _) rfl eu10 rfl (Nat.le_of_ble_eq_true rfl) (d1 := d - 1) (b1 := 0) (s1 := 0) (bc' := 0) (bs' := 0) (Q1 := fun r h9 => r = .inl (some (.int v9.1)) ∧ v9.2 = h9) (by omega) rfl rfl (w_X11_refused (by omega) ev9 (fun _ _ q => q)) (fun E h9 q => nomatch (show (Sum.inr E : tq_R) = Sum.inl _ from q.1)) (fun r9 h9 q => ?_)
      obtain ⟨q1, rfl⟩ := q
      cases (show (Sum.inl r9 : tq_R) = Sum.inl (some (.int v9.1)) from q1)
      refine tq_if_eq (M := mX11_odds) (pc := 45) (tgt := 50) dX11_odds_45 (by decide) (fun cc => ?_) (fun cc => ?_)
      · have hf := tq_ifp hf cc
        refine tq_iconst (M := mX11_odds) (pc := 50) dX11_odds_50 tk_ki_0 ?_
        refine tq_istore (M := mX11_odds) (pc := 51) dX11_odds_51 (L2 := [(5, .int (0 : Int32)), (0, .ref t), (1, .int a1), (2, .int a2), (3, .int a3)]) (by decide) rfl ?_
        refine tq_iconst (M := mX11_odds) (pc := 53) dX11_odds_53 tk_ki_0 ?_
        refine tq_istore (M := mX11_odds) (pc := 54) dX11_odds_54 (L2 := [(6, .int (0 : Int32)), (5, .int (0 : Int32)), (0, .ref t), (1, .int a1), (2, .int a2), (3, .int a3)]) (by decide) rfl ?_
        obtain ⟨o24, eo24, hf⟩ := tq_be hf
        refine tq_pick (L2 := [(0, .ref t), (1, .int a1), (2, .int a2), (3, .int a3), (5, .int (0 : Int32)), (6, .int (0 : Int32))]) [2, 3, 4, 5, 1, 0] rfl ?_
        refine l_X11_odds_56 (by omega) t a1 a2 a3 v9.2 _ (0 : Int32) (0 : Int32) _ eo24 ?_
        refine tq_iload (M := mX11_odds) (pc := 141) dX11_odds_141 rfl ?_
        refine tq_iret (M := mX11_odds) (pc := 143) dX11_odds_143 rfl ?_
        cases (Option.some.inj hf)
        exact hQ _ _ ⟨rfl, rfl⟩
      · have hf := tq_ifn hf cc
        refine tq_iconst (M := mX11_odds) (pc := 48) dX11_odds_48 tk_ki_0 ?_
        refine tq_iret (M := mX11_odds) (pc := 49) dX11_odds_49 rfl ?_
        cases (Option.some.inj hf)
        exact hQ _ _ ⟨rfl, rfl⟩
    refine tq_if_eq (M := mX11_odds) (pc := 34) (tgt := 41) dX11_odds_34 (by decide) (fun cc => ?_) (fun cc => ?_)
    · have hf := tq_ifp ep8.symm cc
      refine tq_iconst (M := mX11_odds) (pc := 41) dX11_odds_41 tk_ki_1 ?_
      refine tq_pick (L2 := [(0, .ref t), (1, .int a1), (2, .int a2), (3, .int a3)]) [1, 2, 3, 4] rfl ?_
      cases hf
      exact HJ34
    · have hf := tq_ifn ep8.symm cc
      refine tq_iconst (M := mX11_odds) (pc := 37) dX11_odds_37 tk_ki_0 ?_
      refine tq_goto (M := mX11_odds) (pc := 38) (tgt := 42) dX11_odds_38 (by decide) ?_
      refine tq_pick (L2 := [(0, .ref t), (1, .int a1), (2, .int a2), (3, .int a3)]) [1, 2, 3, 4] rfl ?_
      cases hf
      exact HJ34
  refine tq_if_eq (M := mX11_odds) (pc := 5) (tgt := 28) dX11_odds_5 (by decide) (fun cc => ?_) (fun cc => ?_)
  · have hf := tq_ifp ep7 cc
    refine tq_iconst (M := mX11_odds) (pc := 28) dX11_odds_28 tk_ki_0 ?_
    cases (Option.some.inj hf)
    exact HJ5
  · have hf := tq_ifn ep7 cc
    refine tq_aload_n (M := mX11_odds) (pc := 8) dX11_odds_8 rfl ?_
    refine tq_iload_n (M := mX11_odds) (pc := 9) dX11_odds_9 rfl ?_
    obtain ⟨⟨⟩, eu4, hf⟩ := tq_be hf
    obtain ⟨fsu4, eu4⟩ := tq_is_s eu4
    obtain ⟨v3, ev3, hf⟩ := tq_be hf
    refine tq_calV (M := mX11_odds) (pc := 10) (S := []) tk_y_X11_isVersion tk_v_X11_isVersion tk_RX11_419 dX11_odds_10 [.int a2] rfl (S0 := _) rfl eu4 rfl (Nat.le_of_ble_eq_true rfl) (d1 := d - 1) (b1 := 0) (s1 := 0) (bc' := 0) (bs' := 0) (Q1 := fun r h9 => r = .inl (some (.int v3)) ∧ h = h9) (by omega) rfl rfl (w_X11_isVersion (by omega) ev3 (fun _ _ q => q)) (fun E h9 q => nomatch (show (Sum.inr E : tq_R) = Sum.inl _ from q.1)) (fun r9 h9 q => ?_)
    obtain ⟨q1, rfl⟩ := q
    cases (show (Sum.inl r9 : tq_R) = Sum.inl (some (.int v3)) from q1)
    refine tq_if_eq (M := mX11_odds) (pc := 13) (tgt := 28) dX11_odds_13 (by decide) (fun cc => ?_) (fun cc => ?_)
    · have hf := tq_ifp hf cc
      refine tq_iconst (M := mX11_odds) (pc := 28) dX11_odds_28 tk_ki_0 ?_
      cases (Option.some.inj hf)
      exact HJ5
    · have hf := tq_ifn hf cc
      refine tq_aload_n (M := mX11_odds) (pc := 16) dX11_odds_16 rfl ?_
      refine tq_iload_n (M := mX11_odds) (pc := 17) dX11_odds_17 rfl ?_
      obtain ⟨⟨⟩, eu6, hf⟩ := tq_be hf
      obtain ⟨fsu6, eu6⟩ := tq_is_s eu6
      obtain ⟨v5, ev5, hf⟩ := tq_be hf
      refine tq_calV (M := mX11_odds) (pc := 18) (S := []) tk_y_X11_isVersion tk_v_X11_isVersion tk_RX11_419 dX11_odds_18 [.int a3] rfl (S0 := _) rfl eu6 rfl (Nat.le_of_ble_eq_true rfl) (d1 := d - 1) (b1 := 0) (s1 := 0) (bc' := 0) (bs' := 0) (Q1 := fun r h9 => r = .inl (some (.int v5)) ∧ h = h9) (by omega) rfl rfl (w_X11_isVersion (by omega) ev5 (fun _ _ q => q)) (fun E h9 q => nomatch (show (Sum.inr E : tq_R) = Sum.inl _ from q.1)) (fun r9 h9 q => ?_)
      obtain ⟨q1, rfl⟩ := q
      cases (show (Sum.inl r9 : tq_R) = Sum.inl (some (.int v5)) from q1)
      refine tq_if_eq (M := mX11_odds) (pc := 21) (tgt := 28) dX11_odds_21 (by decide) (fun cc => ?_) (fun cc => ?_)
      · have hf := tq_ifp hf cc
        refine tq_iconst (M := mX11_odds) (pc := 28) dX11_odds_28 tk_ki_0 ?_
        cases (Option.some.inj hf)
        exact HJ5
      · have hf := tq_ifn hf cc
        refine tq_iconst (M := mX11_odds) (pc := 24) dX11_odds_24 tk_ki_1 ?_
        refine tq_goto (M := mX11_odds) (pc := 25) (tgt := 29) dX11_odds_25 (by decide) ?_
        cases (Option.some.inj hf)
        exact HJ5
abbrev mX11_hide : tq_M := (RX11, cX11_hide, 4, (some .boolean), false, [], none)
def f_X11_hide_b4 (i0 : Nat) (i1 : Int32) (hh : tq_H) (s : Int32 × Int32) : Option ((Int32 × Int32) ⊕ (Int32)) := match s with
  | (y2, y3) =>
    (tq_gi hh i0 11 33).bind fun x1 =>
    if y3 ≥ x1 then
      some (.inr y2)
    else
      (tq_gr hh i0 11 34).bind fun k2 =>
      (tq_ai hh k2 y3).bind fun x3 =>
      tq_let (if x3 = i1 then y3 else y2) fun p4 =>
      tq_let (y3 + (1 : Int32)) fun x5 =>
      some (.inl (p4, x5))
def f_X11_hide (t : Nat) (a1 : Int32) (h : tq_H) : Option (Int32 × tq_H) :=
  (tq_loop (f_X11_hide_b4 t a1 h) tq_N ((-1 : Int32), (0 : Int32))).bind fun o6 =>
  (tq_is h t 11).bind fun _ =>
  (f_X11_isPath t a1 h).bind fun v7 =>
  (if v7 = 0 then
    some (1 : Int32)
  else
    if o6 = (-1 : Int32) then
      (tq_gi h t 11 33).bind fun x9 =>
      if x9 = (3 : Int32) then
        some (2 : Int32)
      else
        some (0 : Int32)
    else
      some (0 : Int32)).bind fun p10 =>
  (tq_is h t 11).bind fun _ =>
  (f_X11_refused t p10 h).bind fun v11 =>
  if v11.1 = 0 then
    if o6 = (-1 : Int32) then
      (tq_gr v11.2 t 11 34).bind fun k20 =>
      (tq_gi v11.2 t 11 33).bind fun x21 =>
      (tq_si v11.2 k20 x21 a1).bind fun w22 =>
      (tq_gi w22 t 11 33).bind fun x23 =>
      (tq_pf w22 t 11 33 (.int ((x23 + (1 : Int32))))).bind fun w24 =>
      some ((1 : Int32), w24)
    else
      (tq_gi v11.2 t 11 33).bind fun x13 =>
      (tq_pf v11.2 t 11 33 (.int ((x13 - (1 : Int32))))).bind fun w14 =>
      (tq_gr w14 t 11 34).bind fun k15 =>
      (tq_gr w14 t 11 34).bind fun k16 =>
      (tq_gi w14 t 11 33).bind fun x17 =>
      (tq_ai w14 k16 x17).bind fun x18 =>
      (tq_si w14 k15 o6 x18).bind fun w19 =>
      some ((0 : Int32), w19)
  else
    some ((0 : Int32), v11.2)
set_option maxHeartbeats 4000000 in
theorem l_X11_hide_4 {l : Launch} {d : Nat} {Q : tq_R → tq_H → Prop} (hd9 : 2 ≤ d) (i0 : Nat) (i1 : Int32) (hh : tq_H) : ∀ (n : Nat) (y2 : Int32) (y3 : Int32) (o : Int32), tq_loop (f_X11_hide_b4 i0 i1 hh) n (y2, y3) = some o → tq_W l mX11_hide d 0 0 Q 34 [(0, .ref i0), (1, .int i1), (2, .int o)] [] hh → tq_W l mX11_hide d 0 0 Q 4 [(0, .ref i0), (1, .int i1), (2, .int y2), (3, .int y3)] [] hh := by
  intro n
  induction n with
  | zero => intro y2 y3 o hl; cases hl
  | succ n ih =>
    intro y2 y3 o hl hk
    obtain ⟨oo, hf, ho⟩ := tq_loop_s hl
    refine tq_iload_n (M := mX11_hide) (pc := 4) dX11_hide_4 rfl ?_
    refine tq_aload_n (M := mX11_hide) (pc := 5) dX11_hide_5 rfl ?_
    obtain ⟨x1, ex1, hf⟩ := tq_be hf
    refine tq_getI (M := mX11_hide) (pc := 6) tk_c11 (by decide) dX11_hide_6 tk_RX11_352 rfl ex1 ?_
    refine tq_icmp_ge (M := mX11_hide) (pc := 9) (tgt := 34) dX11_hide_9 (by decide) (fun cc => ?_) (fun cc => ?_)
    · have hf := tq_ifp hf cc
      refine tq_pick (L2 := [(0, .ref i0), (1, .int i1), (2, .int y2)]) [0, 1, 2] rfl ?_
      cases (Option.some.inj hf)
      cases (tq_lx ho)
      exact hk
    · have hf := tq_ifn hf cc
      refine tq_aload_n (M := mX11_hide) (pc := 12) dX11_hide_12 rfl ?_
      obtain ⟨k2, ek2, hf⟩ := tq_be hf
      refine tq_getR (M := mX11_hide) (pc := 13) tk_c11 (by decide) dX11_hide_13 tk_RX11_87 rfl ek2 ?_
      refine tq_iload_n (M := mX11_hide) (pc := 16) dX11_hide_16 rfl ?_
      obtain ⟨x3, ex3, hf⟩ := tq_be hf
      refine tq_ialdF (M := mX11_hide) (pc := 17) dX11_hide_17 ex3 ?_
      refine tq_iload_n (M := mX11_hide) (pc := 18) dX11_hide_18 rfl ?_
      obtain ⟨p4, ep4, hf⟩ := tq_le hf
      have HJ19 : tq_W l mX11_hide d 0 0 Q 27 [(0, .ref i0), (1, .int i1), (3, .int y3)] [.int p4] hh := by
        refine tq_istore_n (M := mX11_hide) (pc := 27) rfl dX11_hide_27 (L2 := [(2, .int p4), (0, .ref i0), (1, .int i1), (3, .int y3)]) (by decide) rfl ?_
        obtain ⟨x5, ex5, hf⟩ := tq_le hf
        refine tq_iinc (M := mX11_hide) (pc := 28) (v := x5) (L2 := [(3, .int x5), (2, .int p4), (0, .ref i0), (1, .int i1)]) dX11_hide_28 rfl (by rw [ex5, tk_ki_1]) (by decide) rfl ?_
        refine tq_goto (M := mX11_hide) (pc := 31) (tgt := 4) dX11_hide_31 (by decide) ?_
        refine tq_pick (L2 := [(0, .ref i0), (1, .int i1), (2, .int p4), (3, .int x5)]) [2, 3, 1, 0] rfl ?_
        cases (Option.some.inj hf)
        exact ih _ _ o (tq_lc ho) hk
      refine tq_icmp_ne (M := mX11_hide) (pc := 19) (tgt := 26) dX11_hide_19 (by decide) (fun cc => ?_) (fun cc => ?_)
      · have hf := tq_ifn ep4.symm cc
        refine tq_iload_n (M := mX11_hide) (pc := 26) dX11_hide_26 rfl ?_
        refine tq_pick (L2 := [(0, .ref i0), (1, .int i1), (3, .int y3)]) [0, 1, 3] rfl ?_
        cases hf
        exact HJ19
      · have hf := tq_ifp ep4.symm cc
        refine tq_iload_n (M := mX11_hide) (pc := 22) dX11_hide_22 rfl ?_
        refine tq_goto (M := mX11_hide) (pc := 23) (tgt := 27) dX11_hide_23 (by decide) ?_
        refine tq_pick (L2 := [(0, .ref i0), (1, .int i1), (3, .int y3)]) [0, 1, 3] rfl ?_
        cases hf
        exact HJ19
set_option maxHeartbeats 4000000 in
set_option maxRecDepth 20000 in
theorem w_X11_hide {l : Launch} {d : Nat} (hd9 : 2 ≤ d) {t : Nat} {a1 : Int32} {h : tq_H} {o : Int32 × tq_H} {Q : tq_R → tq_H → Prop} (hf : f_X11_hide t a1 h = some o) (hQ : ∀ r h9, r = .inl (some (.int o.1)) ∧ o.2 = h9 → Q r h9) : tq_C l yX11_hide cX11_hide 4 (some .boolean) d 0 0 [.ref t, .int a1] h Q := by
  refine tq_body (y := yX11_hide) false (by decide +kernel) (fun z => by cases z) (Nat.le_of_ble_eq_true rfl) ?_
  show tq_W l mX11_hide d 0 0 Q 0 [(0, .ref t), (1, .int a1)] [] h
  refine tq_iconst (M := mX11_hide) (pc := 0) dX11_hide_0 tk_ki_m1 ?_
  refine tq_istore_n (M := mX11_hide) (pc := 1) rfl dX11_hide_1 (L2 := [(2, .int (-1 : Int32)), (0, .ref t), (1, .int a1)]) (by decide) rfl ?_
  refine tq_iconst (M := mX11_hide) (pc := 2) dX11_hide_2 tk_ki_0 ?_
  refine tq_istore_n (M := mX11_hide) (pc := 3) rfl dX11_hide_3 (L2 := [(3, .int (0 : Int32)), (2, .int (-1 : Int32)), (0, .ref t), (1, .int a1)]) (by decide) rfl ?_
  obtain ⟨o6, eo6, hf⟩ := tq_be hf
  refine tq_pick (L2 := [(0, .ref t), (1, .int a1), (2, .int (-1 : Int32)), (3, .int (0 : Int32))]) [2, 3, 1, 0] rfl ?_
  refine l_X11_hide_4 (by omega) t a1 h _ (-1 : Int32) (0 : Int32) _ eo6 ?_
  refine tq_aload_n (M := mX11_hide) (pc := 34) dX11_hide_34 rfl ?_
  refine tq_aload_n (M := mX11_hide) (pc := 35) dX11_hide_35 rfl ?_
  refine tq_iload_n (M := mX11_hide) (pc := 36) dX11_hide_36 rfl ?_
  obtain ⟨⟨⟩, eu8, hf⟩ := tq_be hf
  obtain ⟨fsu8, eu8⟩ := tq_is_s eu8
  obtain ⟨v7, ev7, hf⟩ := tq_be hf
  refine tq_calV (M := mX11_hide) (pc := 37) (S := [.ref t]) tk_y_X11_isPath tk_v_X11_isPath tk_RX11_305 dX11_hide_37 [.int a1] rfl (S0 := _) rfl eu8 rfl (Nat.le_of_ble_eq_true rfl) (d1 := d - 1) (b1 := 0) (s1 := 0) (bc' := 0) (bs' := 0) (Q1 := fun r h9 => r = .inl (some (.int v7)) ∧ h = h9) (by omega) rfl rfl (w_X11_isPath (by omega) ev7 (fun _ _ q => q)) (fun E h9 q => nomatch (show (Sum.inr E : tq_R) = Sum.inl _ from q.1)) (fun r9 h9 q => ?_)
  obtain ⟨q1, rfl⟩ := q
  cases (show (Sum.inl r9 : tq_R) = Sum.inl (some (.int v7)) from q1)
  obtain ⟨p10, ep10, hf⟩ := tq_be hf
  have HJ40 : tq_W l mX11_hide d 0 0 Q 65 [(0, .ref t), (1, .int a1), (2, .int o6)] [.int p10, .ref t] h := by
    obtain ⟨⟨⟩, eu12, hf⟩ := tq_be hf
    obtain ⟨fsu12, eu12⟩ := tq_is_s eu12
    obtain ⟨v11, ev11, hf⟩ := tq_be hf
    refine tq_calV (M := mX11_hide) (pc := 65) (S := []) tk_y_X11_refused tk_v_X11_refused tk_RX11_204 dX11_hide_65 [.int p10] rfl (S0 := _) rfl eu12 rfl (Nat.le_of_ble_eq_true rfl) (d1 := d - 1) (b1 := 0) (s1 := 0) (bc' := 0) (bs' := 0) (Q1 := fun r h9 => r = .inl (some (.int v11.1)) ∧ v11.2 = h9) (by omega) rfl rfl (w_X11_refused (by omega) ev11 (fun _ _ q => q)) (fun E h9 q => nomatch (show (Sum.inr E : tq_R) = Sum.inl _ from q.1)) (fun r9 h9 q => ?_)
    obtain ⟨q1, rfl⟩ := q
    cases (show (Sum.inl r9 : tq_R) = Sum.inl (some (.int v11.1)) from q1)
    refine tq_if_eq (M := mX11_hide) (pc := 68) (tgt := 73) dX11_hide_68 (by decide) (fun cc => ?_) (fun cc => ?_)
    · have hf := tq_ifp hf cc
      refine tq_iload_n (M := mX11_hide) (pc := 73) dX11_hide_73 rfl ?_
      refine tq_iconst (M := mX11_hide) (pc := 74) dX11_hide_74 tk_ki_m1 ?_
      refine tq_icmp_ne (M := mX11_hide) (pc := 75) (tgt := 100) dX11_hide_75 (by decide) (fun cc => ?_) (fun cc => ?_)
      · have hf := tq_ifn hf cc
        refine tq_aload_n (M := mX11_hide) (pc := 100) dX11_hide_100 rfl ?_
        refine tq_dup (M := mX11_hide) (pc := 101) dX11_hide_101 rfl ?_
        obtain ⟨x13, ex13, hf⟩ := tq_be hf
        refine tq_getI (M := mX11_hide) (pc := 102) tk_c11 (by decide) dX11_hide_102 tk_RX11_352 rfl ex13 ?_
        refine tq_iconst (M := mX11_hide) (pc := 105) dX11_hide_105 tk_ki_1 ?_
        refine tq_isub (M := mX11_hide) (pc := 106) dX11_hide_106 ?_
        obtain ⟨w14, ew14, hf⟩ := tq_be hf
        refine tq_putv (M := mX11_hide) (pc := 107) tk_c11 (by decide) dX11_hide_107 tk_RX11_352 rfl (Or.inl rfl) ew14 (tq_nI _) ?_
        refine tq_aload_n (M := mX11_hide) (pc := 110) dX11_hide_110 rfl ?_
        obtain ⟨k15, ek15, hf⟩ := tq_be hf
        refine tq_getR (M := mX11_hide) (pc := 111) tk_c11 (by decide) dX11_hide_111 tk_RX11_87 rfl ek15 ?_
        refine tq_iload_n (M := mX11_hide) (pc := 114) dX11_hide_114 rfl ?_
        refine tq_aload_n (M := mX11_hide) (pc := 115) dX11_hide_115 rfl ?_
        obtain ⟨k16, ek16, hf⟩ := tq_be hf
        refine tq_getR (M := mX11_hide) (pc := 116) tk_c11 (by decide) dX11_hide_116 tk_RX11_87 rfl ek16 ?_
        refine tq_aload_n (M := mX11_hide) (pc := 119) dX11_hide_119 rfl ?_
        obtain ⟨x17, ex17, hf⟩ := tq_be hf
        refine tq_getI (M := mX11_hide) (pc := 120) tk_c11 (by decide) dX11_hide_120 tk_RX11_352 rfl ex17 ?_
        obtain ⟨x18, ex18, hf⟩ := tq_be hf
        refine tq_ialdF (M := mX11_hide) (pc := 123) dX11_hide_123 ex18 ?_
        obtain ⟨w19, ew19, hf⟩ := tq_be hf
        refine tq_iastF (M := mX11_hide) (pc := 124) dX11_hide_124 ew19 ?_
        refine tq_iconst (M := mX11_hide) (pc := 125) dX11_hide_125 tk_ki_0 ?_
        refine tq_zret (M := mX11_hide) (pc := 126) dX11_hide_126 rfl (Or.inl rfl) ?_
        cases (Option.some.inj hf)
        exact hQ _ _ ⟨rfl, rfl⟩
      · have hf := tq_ifp hf cc
        refine tq_aload_n (M := mX11_hide) (pc := 78) dX11_hide_78 rfl ?_
        obtain ⟨k20, ek20, hf⟩ := tq_be hf
        refine tq_getR (M := mX11_hide) (pc := 79) tk_c11 (by decide) dX11_hide_79 tk_RX11_87 rfl ek20 ?_
        refine tq_aload_n (M := mX11_hide) (pc := 82) dX11_hide_82 rfl ?_
        obtain ⟨x21, ex21, hf⟩ := tq_be hf
        refine tq_getI (M := mX11_hide) (pc := 83) tk_c11 (by decide) dX11_hide_83 tk_RX11_352 rfl ex21 ?_
        refine tq_iload_n (M := mX11_hide) (pc := 86) dX11_hide_86 rfl ?_
        obtain ⟨w22, ew22, hf⟩ := tq_be hf
        refine tq_iastF (M := mX11_hide) (pc := 87) dX11_hide_87 ew22 ?_
        refine tq_aload_n (M := mX11_hide) (pc := 88) dX11_hide_88 rfl ?_
        refine tq_dup (M := mX11_hide) (pc := 89) dX11_hide_89 rfl ?_
        obtain ⟨x23, ex23, hf⟩ := tq_be hf
        refine tq_getI (M := mX11_hide) (pc := 90) tk_c11 (by decide) dX11_hide_90 tk_RX11_352 rfl ex23 ?_
        refine tq_iconst (M := mX11_hide) (pc := 93) dX11_hide_93 tk_ki_1 ?_
        refine tq_iadd (M := mX11_hide) (pc := 94) dX11_hide_94 ?_
        obtain ⟨w24, ew24, hf⟩ := tq_be hf
        refine tq_putv (M := mX11_hide) (pc := 95) tk_c11 (by decide) dX11_hide_95 tk_RX11_352 rfl (Or.inl rfl) ew24 (tq_nI _) ?_
        refine tq_iconst (M := mX11_hide) (pc := 98) dX11_hide_98 tk_ki_1 ?_
        refine tq_zret (M := mX11_hide) (pc := 99) dX11_hide_99 rfl (Or.inr rfl) ?_
        cases (Option.some.inj hf)
        exact hQ _ _ ⟨rfl, rfl⟩
    · have hf := tq_ifn hf cc
      refine tq_iconst (M := mX11_hide) (pc := 71) dX11_hide_71 tk_ki_0 ?_
      refine tq_zret (M := mX11_hide) (pc := 72) dX11_hide_72 rfl (Or.inl rfl) ?_
      cases (Option.some.inj hf)
      exact hQ _ _ ⟨rfl, rfl⟩
  refine tq_if_ne (M := mX11_hide) (pc := 40) (tgt := 47) dX11_hide_40 (by decide) (fun cc => ?_) (fun cc => ?_)
  · have hf := tq_ifn ep10 cc
    refine tq_iload_n (M := mX11_hide) (pc := 47) dX11_hide_47 rfl ?_
    refine tq_iconst (M := mX11_hide) (pc := 48) dX11_hide_48 tk_ki_m1 ?_
    refine tq_icmp_ne (M := mX11_hide) (pc := 49) (tgt := 64) dX11_hide_49 (by decide) (fun cc => ?_) (fun cc => ?_)
    · have hf := tq_ifn hf cc
      refine tq_iconst (M := mX11_hide) (pc := 64) dX11_hide_64 tk_ki_0 ?_
      cases (Option.some.inj hf)
      exact HJ40
    · have hf := tq_ifp hf cc
      refine tq_aload_n (M := mX11_hide) (pc := 52) dX11_hide_52 rfl ?_
      obtain ⟨x9, ex9, hf⟩ := tq_be hf
      refine tq_getI (M := mX11_hide) (pc := 53) tk_c11 (by decide) dX11_hide_53 tk_RX11_352 rfl ex9 ?_
      refine tq_iconst (M := mX11_hide) (pc := 56) dX11_hide_56 tk_ki_3 ?_
      refine tq_icmp_ne (M := mX11_hide) (pc := 57) (tgt := 64) dX11_hide_57 (by decide) (fun cc => ?_) (fun cc => ?_)
      · have hf := tq_ifn hf cc
        refine tq_iconst (M := mX11_hide) (pc := 64) dX11_hide_64 tk_ki_0 ?_
        cases (Option.some.inj hf)
        exact HJ40
      · have hf := tq_ifp hf cc
        refine tq_iconst (M := mX11_hide) (pc := 60) dX11_hide_60 tk_ki_2 ?_
        refine tq_goto (M := mX11_hide) (pc := 61) (tgt := 65) dX11_hide_61 (by decide) ?_
        cases (Option.some.inj hf)
        exact HJ40
  · have hf := tq_ifp ep10 cc
    refine tq_iconst (M := mX11_hide) (pc := 43) dX11_hide_43 tk_ki_1 ?_
    refine tq_goto (M := mX11_hide) (pc := 44) (tgt := 65) dX11_hide_44 (by decide) ?_
    cases (Option.some.inj hf)
    exact HJ40
abbrev mX11_isSeen : tq_M := (RX11, cX11_isSeen, 2, (some .boolean), false, [], none)
def f_X11_isSeen (t : Nat) (a1 : Int32) (h : tq_H) : Option (Int32 × tq_H) :=
  (tq_is h t 11).bind fun _ =>
  (f_X11_noNode t a1 h).bind fun v1 =>
  (if v1.1 = 0 then
    (tq_is v1.2 t 11).bind fun _ =>
    (f_X11_seen t v1.2).bind fun v3 =>
    if (lg_cmp ((v3.1 >>> (a1.toInt64 &&& 63)) &&& (1 : Int64)) (1 : Int64)) = 0 then
      some ((1 : Int32), v3.2)
    else
      some ((0 : Int32), v3.2)
  else
    some ((0 : Int32), v1.2)).bind fun p5 =>
  (tq_bz p5.1).bind fun z6 =>
  some (z6, p5.2)
set_option maxHeartbeats 4000000 in
set_option maxRecDepth 20000 in
theorem w_X11_isSeen {l : Launch} {d : Nat} (hd9 : 6 ≤ d) {t : Nat} {a1 : Int32} {h : tq_H} {o : Int32 × tq_H} {Q : tq_R → tq_H → Prop} (hf : f_X11_isSeen t a1 h = some o) (hQ : ∀ r h9, r = .inl (some (.int o.1)) ∧ o.2 = h9 → Q r h9) : tq_C l yX11_isSeen cX11_isSeen 2 (some .boolean) d 0 0 [.ref t, .int a1] h Q := by
  refine tq_body (y := yX11_isSeen) false (by decide +kernel) (fun z => by cases z) (Nat.le_of_ble_eq_true rfl) ?_
  show tq_W l mX11_isSeen d 0 0 Q 0 [(0, .ref t), (1, .int a1)] [] h
  refine tq_aload_n (M := mX11_isSeen) (pc := 0) dX11_isSeen_0 rfl ?_
  refine tq_iload_n (M := mX11_isSeen) (pc := 1) dX11_isSeen_1 rfl ?_
  obtain ⟨⟨⟩, eu2, hf⟩ := tq_be hf
  obtain ⟨fsu2, eu2⟩ := tq_is_s eu2
  obtain ⟨v1, ev1, hf⟩ := tq_be hf
  refine tq_calV (M := mX11_isSeen) (pc := 2) (S := []) tk_y_X11_noNode tk_v_X11_noNode tk_RX11_286 dX11_isSeen_2 [.int a1] rfl (S0 := _) rfl eu2 rfl (Nat.le_of_ble_eq_true rfl) (d1 := d - 1) (b1 := 0) (s1 := 0) (bc' := 0) (bs' := 0) (Q1 := fun r h9 => r = .inl (some (.int v1.1)) ∧ v1.2 = h9) (by omega) rfl rfl (w_X11_noNode (by omega) ev1 (fun _ _ q => q)) (fun E h9 q => nomatch (show (Sum.inr E : tq_R) = Sum.inl _ from q.1)) (fun r9 h9 q => ?_)
  obtain ⟨q1, rfl⟩ := q
  cases (show (Sum.inl r9 : tq_R) = Sum.inl (some (.int v1.1)) from q1)
  obtain ⟨p5, ep5, hf⟩ := tq_be hf
  have HJ5 : tq_W l mX11_isSeen d 0 0 Q 26 [] [.int p5.1] p5.2 := by
    obtain ⟨z6, ez6, hf⟩ := tq_be hf
    refine tq_zretB (M := mX11_isSeen) (pc := 26) dX11_isSeen_26 rfl ez6 ?_
    cases (Option.some.inj hf)
    exact hQ _ _ ⟨rfl, rfl⟩
  refine tq_if_ne (M := mX11_isSeen) (pc := 5) (tgt := 25) dX11_isSeen_5 (by decide) (fun cc => ?_) (fun cc => ?_)
  · have hf := tq_ifn ep5 cc
    refine tq_iconst (M := mX11_isSeen) (pc := 25) dX11_isSeen_25 tk_ki_0 ?_
    refine tq_pick (L2 := []) [] rfl ?_
    cases (Option.some.inj hf)
    exact HJ5
  · have hf := tq_ifp ep5 cc
    refine tq_aload_n (M := mX11_isSeen) (pc := 8) dX11_isSeen_8 rfl ?_
    obtain ⟨⟨⟩, eu4, hf⟩ := tq_be hf
    obtain ⟨fsu4, eu4⟩ := tq_is_s eu4
    obtain ⟨v3, ev3, hf⟩ := tq_be hf
    refine tq_calV (M := mX11_isSeen) (pc := 9) (S := []) tk_y_X11_seen tk_v_X11_seen tk_RX11_355 dX11_isSeen_9 [] rfl (S0 := _) rfl eu4 rfl (Nat.le_of_ble_eq_true rfl) (d1 := d - 1) (b1 := 0) (s1 := 0) (bc' := 0) (bs' := 0) (Q1 := fun r h9 => r = .inl (some (.long v3.1)) ∧ v3.2 = h9) (by omega) rfl rfl (w_X11_seen (by omega) ev3 (fun _ _ q => q)) (fun E h9 q => nomatch (show (Sum.inr E : tq_R) = Sum.inl _ from q.1)) (fun r9 h9 q => ?_)
    obtain ⟨q1, rfl⟩ := q
    cases (show (Sum.inl r9 : tq_R) = Sum.inl (some (.long v3.1)) from q1)
    refine tq_iload_n (M := mX11_isSeen) (pc := 12) dX11_isSeen_12 rfl ?_
    refine tq_lshr (M := mX11_isSeen) (pc := 13) dX11_isSeen_13 ?_
    refine tq_lconst (M := mX11_isSeen) (pc := 14) dX11_isSeen_14 tk_kl_1 ?_
    refine tq_land (M := mX11_isSeen) (pc := 15) dX11_isSeen_15 ?_
    refine tq_lconst (M := mX11_isSeen) (pc := 16) dX11_isSeen_16 tk_kl_1 ?_
    refine tq_lcmp (M := mX11_isSeen) (pc := 17) dX11_isSeen_17 ?_
    refine tq_if_ne (M := mX11_isSeen) (pc := 18) (tgt := 25) dX11_isSeen_18 (by decide) (fun cc => ?_) (fun cc => ?_)
    · have hf := tq_ifn hf cc
      refine tq_iconst (M := mX11_isSeen) (pc := 25) dX11_isSeen_25 tk_ki_0 ?_
      refine tq_pick (L2 := []) [] rfl ?_
      cases (Option.some.inj hf)
      exact HJ5
    · have hf := tq_ifp hf cc
      refine tq_iconst (M := mX11_isSeen) (pc := 21) dX11_isSeen_21 tk_ki_1 ?_
      refine tq_goto (M := mX11_isSeen) (pc := 22) (tgt := 26) dX11_isSeen_22 (by decide) ?_
      refine tq_pick (L2 := []) [] rfl ?_
      cases (Option.some.inj hf)
      exact HJ5
