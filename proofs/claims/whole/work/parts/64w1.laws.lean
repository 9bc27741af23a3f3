/-! ===== printed by wip/whole/tools: the law: calls that may throw ===== -/
abbrev cL_insertElement : ByteArray := method_3_code
def yL_insertElement : MethodName := ⟨RL, "insertElement", "(LTreequery;III[J)I"⟩
theorem dL_insertElement_0 : decode cL_insertElement 0 = .ok (.aload 4, 2) := by decide +kernel
theorem dL_insertElement_2 : decode cL_insertElement 2 = .ok (.iconst 0, 1) := by decide +kernel
theorem dL_insertElement_3 : decode cL_insertElement 3 = .ok (.aload_n 0, 1) := by decide +kernel
theorem dL_insertElement_4 : decode cL_insertElement 4 = .ok (.iload_n 1, 1) := by decide +kernel
theorem dL_insertElement_5 : decode cL_insertElement 5 = .ok (.iload_n 2, 1) := by decide +kernel
theorem dL_insertElement_6 : decode cL_insertElement 6 = .ok (.iload_n 3, 1) := by decide +kernel
theorem dL_insertElement_7 : decode cL_insertElement 7 = .ok (.invokevirtual 7, 3) := by decide +kernel
theorem dL_insertElement_10 : decode cL_insertElement 10 = .ok (.i2l, 1) := by decide +kernel
theorem dL_insertElement_11 : decode cL_insertElement 11 = .ok (.lastore, 1) := by decide +kernel
theorem dL_insertElement_12 : decode cL_insertElement 12 = .ok (.goto 15, 3) := by decide +kernel
theorem dL_insertElement_15 : decode cL_insertElement 15 = .ok (.astore 5, 2) := by decide +kernel
theorem dL_insertElement_17 : decode cL_insertElement 17 = .ok (.iconst 1, 1) := by decide +kernel
theorem dL_insertElement_18 : decode cL_insertElement 18 = .ok (.ireturn, 1) := by decide +kernel
theorem dL_insertElement_19 : decode cL_insertElement 19 = .ok (.astore 5, 2) := by decide +kernel
theorem dL_insertElement_21 : decode cL_insertElement 21 = .ok (.iconst 2, 1) := by decide +kernel
theorem dL_insertElement_22 : decode cL_insertElement 22 = .ok (.ireturn, 1) := by decide +kernel
theorem dL_insertElement_23 : decode cL_insertElement 23 = .ok (.astore 5, 2) := by decide +kernel
theorem dL_insertElement_25 : decode cL_insertElement 25 = .ok (.iconst 3, 1) := by decide +kernel
theorem dL_insertElement_26 : decode cL_insertElement 26 = .ok (.ireturn, 1) := by decide +kernel
theorem dL_insertElement_27 : decode cL_insertElement 27 = .ok (.iconst 0, 1) := by decide +kernel
theorem dL_insertElement_28 : decode cL_insertElement 28 = .ok (.ireturn, 1) := by decide +kernel
abbrev cL_insertText : ByteArray := method_4_code
def yL_insertText : MethodName := ⟨RL, "insertText", "(LTreequery;III[J)I"⟩
theorem dL_insertText_0 : decode cL_insertText 0 = .ok (.aload 4, 2) := by decide +kernel
theorem dL_insertText_2 : decode cL_insertText 2 = .ok (.iconst 0, 1) := by decide +kernel
theorem dL_insertText_3 : decode cL_insertText 3 = .ok (.aload_n 0, 1) := by decide +kernel
theorem dL_insertText_4 : decode cL_insertText 4 = .ok (.iload_n 1, 1) := by decide +kernel
theorem dL_insertText_5 : decode cL_insertText 5 = .ok (.iload_n 2, 1) := by decide +kernel
theorem dL_insertText_6 : decode cL_insertText 6 = .ok (.iload_n 3, 1) := by decide +kernel
theorem dL_insertText_7 : decode cL_insertText 7 = .ok (.invokevirtual 19, 3) := by decide +kernel
theorem dL_insertText_10 : decode cL_insertText 10 = .ok (.i2l, 1) := by decide +kernel
theorem dL_insertText_11 : decode cL_insertText 11 = .ok (.lastore, 1) := by decide +kernel
theorem dL_insertText_12 : decode cL_insertText 12 = .ok (.goto 15, 3) := by decide +kernel
theorem dL_insertText_15 : decode cL_insertText 15 = .ok (.astore 5, 2) := by decide +kernel
theorem dL_insertText_17 : decode cL_insertText 17 = .ok (.iconst 1, 1) := by decide +kernel
theorem dL_insertText_18 : decode cL_insertText 18 = .ok (.ireturn, 1) := by decide +kernel
theorem dL_insertText_19 : decode cL_insertText 19 = .ok (.astore 5, 2) := by decide +kernel
theorem dL_insertText_21 : decode cL_insertText 21 = .ok (.iconst 2, 1) := by decide +kernel
theorem dL_insertText_22 : decode cL_insertText 22 = .ok (.ireturn, 1) := by decide +kernel
theorem dL_insertText_23 : decode cL_insertText 23 = .ok (.astore 5, 2) := by decide +kernel
theorem dL_insertText_25 : decode cL_insertText 25 = .ok (.iconst 3, 1) := by decide +kernel
theorem dL_insertText_26 : decode cL_insertText 26 = .ok (.ireturn, 1) := by decide +kernel
theorem dL_insertText_27 : decode cL_insertText 27 = .ok (.iconst 0, 1) := by decide +kernel
theorem dL_insertText_28 : decode cL_insertText 28 = .ok (.ireturn, 1) := by decide +kernel
abbrev cL_insertAttribute : ByteArray := method_5_code
def yL_insertAttribute : MethodName := ⟨RL, "insertAttribute", "(LTreequery;III[J)I"⟩
theorem dL_insertAttribute_0 : decode cL_insertAttribute 0 = .ok (.aload 4, 2) := by decide +kernel
theorem dL_insertAttribute_2 : decode cL_insertAttribute 2 = .ok (.iconst 0, 1) := by decide +kernel
theorem dL_insertAttribute_3 : decode cL_insertAttribute 3 = .ok (.aload_n 0, 1) := by decide +kernel
theorem dL_insertAttribute_4 : decode cL_insertAttribute 4 = .ok (.iload_n 1, 1) := by decide +kernel
theorem dL_insertAttribute_5 : decode cL_insertAttribute 5 = .ok (.iload_n 2, 1) := by decide +kernel
theorem dL_insertAttribute_6 : decode cL_insertAttribute 6 = .ok (.iload_n 3, 1) := by decide +kernel
theorem dL_insertAttribute_7 : decode cL_insertAttribute 7 = .ok (.invokevirtual 22, 3) := by decide +kernel
theorem dL_insertAttribute_10 : decode cL_insertAttribute 10 = .ok (.i2l, 1) := by decide +kernel
theorem dL_insertAttribute_11 : decode cL_insertAttribute 11 = .ok (.lastore, 1) := by decide +kernel
theorem dL_insertAttribute_12 : decode cL_insertAttribute 12 = .ok (.goto 15, 3) := by decide +kernel
theorem dL_insertAttribute_15 : decode cL_insertAttribute 15 = .ok (.astore 5, 2) := by decide +kernel
theorem dL_insertAttribute_17 : decode cL_insertAttribute 17 = .ok (.iconst 1, 1) := by decide +kernel
theorem dL_insertAttribute_18 : decode cL_insertAttribute 18 = .ok (.ireturn, 1) := by decide +kernel
theorem dL_insertAttribute_19 : decode cL_insertAttribute 19 = .ok (.astore 5, 2) := by decide +kernel
theorem dL_insertAttribute_21 : decode cL_insertAttribute 21 = .ok (.iconst 2, 1) := by decide +kernel
theorem dL_insertAttribute_22 : decode cL_insertAttribute 22 = .ok (.ireturn, 1) := by decide +kernel
theorem dL_insertAttribute_23 : decode cL_insertAttribute 23 = .ok (.astore 5, 2) := by decide +kernel
theorem dL_insertAttribute_25 : decode cL_insertAttribute 25 = .ok (.iconst 3, 1) := by decide +kernel
theorem dL_insertAttribute_26 : decode cL_insertAttribute 26 = .ok (.ireturn, 1) := by decide +kernel
theorem dL_insertAttribute_27 : decode cL_insertAttribute 27 = .ok (.iconst 0, 1) := by decide +kernel
theorem dL_insertAttribute_28 : decode cL_insertAttribute 28 = .ok (.ireturn, 1) := by decide +kernel
abbrev cL_remove : ByteArray := method_6_code
def yL_remove : MethodName := ⟨RL, "remove", "(LTreequery;I[J)I"⟩
theorem dL_remove_0 : decode cL_remove 0 = .ok (.aload_n 2, 1) := by decide +kernel
theorem dL_remove_1 : decode cL_remove 1 = .ok (.iconst 0, 1) := by decide +kernel
theorem dL_remove_2 : decode cL_remove 2 = .ok (.aload_n 0, 1) := by decide +kernel
theorem dL_remove_3 : decode cL_remove 3 = .ok (.iload_n 1, 1) := by decide +kernel
theorem dL_remove_4 : decode cL_remove 4 = .ok (.invokevirtual 25, 3) := by decide +kernel
theorem dL_remove_7 : decode cL_remove 7 = .ok (.i2l, 1) := by decide +kernel
theorem dL_remove_8 : decode cL_remove 8 = .ok (.lastore, 1) := by decide +kernel
theorem dL_remove_9 : decode cL_remove 9 = .ok (.goto 9, 3) := by decide +kernel
theorem dL_remove_12 : decode cL_remove 12 = .ok (.astore_n 3, 1) := by decide +kernel
theorem dL_remove_13 : decode cL_remove 13 = .ok (.iconst 1, 1) := by decide +kernel
theorem dL_remove_14 : decode cL_remove 14 = .ok (.ireturn, 1) := by decide +kernel
theorem dL_remove_15 : decode cL_remove 15 = .ok (.astore_n 3, 1) := by decide +kernel
theorem dL_remove_16 : decode cL_remove 16 = .ok (.iconst 2, 1) := by decide +kernel
theorem dL_remove_17 : decode cL_remove 17 = .ok (.ireturn, 1) := by decide +kernel
theorem dL_remove_18 : decode cL_remove 18 = .ok (.iconst 0, 1) := by decide +kernel
theorem dL_remove_19 : decode cL_remove 19 = .ok (.ireturn, 1) := by decide +kernel
abbrev cL_rename : ByteArray := method_7_code
def yL_rename : MethodName := ⟨RL, "rename", "(LTreequery;II[J)I"⟩
theorem dL_rename_0 : decode cL_rename 0 = .ok (.aload_n 3, 1) := by decide +kernel
theorem dL_rename_1 : decode cL_rename 1 = .ok (.iconst 0, 1) := by decide +kernel
theorem dL_rename_2 : decode cL_rename 2 = .ok (.aload_n 0, 1) := by decide +kernel
theorem dL_rename_3 : decode cL_rename 3 = .ok (.iload_n 1, 1) := by decide +kernel
theorem dL_rename_4 : decode cL_rename 4 = .ok (.iload_n 2, 1) := by decide +kernel
theorem dL_rename_5 : decode cL_rename 5 = .ok (.invokevirtual 29, 3) := by decide +kernel
theorem dL_rename_8 : decode cL_rename 8 = .ok (.i2l, 1) := by decide +kernel
theorem dL_rename_9 : decode cL_rename 9 = .ok (.lastore, 1) := by decide +kernel
theorem dL_rename_10 : decode cL_rename 10 = .ok (.goto 15, 3) := by decide +kernel
theorem dL_rename_13 : decode cL_rename 13 = .ok (.astore 4, 2) := by decide +kernel
theorem dL_rename_15 : decode cL_rename 15 = .ok (.iconst 1, 1) := by decide +kernel
theorem dL_rename_16 : decode cL_rename 16 = .ok (.ireturn, 1) := by decide +kernel
theorem dL_rename_17 : decode cL_rename 17 = .ok (.astore 4, 2) := by decide +kernel
theorem dL_rename_19 : decode cL_rename 19 = .ok (.iconst 2, 1) := by decide +kernel
theorem dL_rename_20 : decode cL_rename 20 = .ok (.ireturn, 1) := by decide +kernel
theorem dL_rename_21 : decode cL_rename 21 = .ok (.astore 4, 2) := by decide +kernel
theorem dL_rename_23 : decode cL_rename 23 = .ok (.iconst 3, 1) := by decide +kernel
theorem dL_rename_24 : decode cL_rename 24 = .ok (.ireturn, 1) := by decide +kernel
theorem dL_rename_25 : decode cL_rename 25 = .ok (.iconst 0, 1) := by decide +kernel
theorem dL_rename_26 : decode cL_rename 26 = .ok (.ireturn, 1) := by decide +kernel
abbrev cL_setValue : ByteArray := method_8_code
def yL_setValue : MethodName := ⟨RL, "setValue", "(LTreequery;II[J)I"⟩
theorem dL_setValue_0 : decode cL_setValue 0 = .ok (.aload_n 3, 1) := by decide +kernel
theorem dL_setValue_1 : decode cL_setValue 1 = .ok (.iconst 0, 1) := by decide +kernel
theorem dL_setValue_2 : decode cL_setValue 2 = .ok (.aload_n 0, 1) := by decide +kernel
theorem dL_setValue_3 : decode cL_setValue 3 = .ok (.iload_n 1, 1) := by decide +kernel
theorem dL_setValue_4 : decode cL_setValue 4 = .ok (.iload_n 2, 1) := by decide +kernel
theorem dL_setValue_5 : decode cL_setValue 5 = .ok (.invokevirtual 33, 3) := by decide +kernel
theorem dL_setValue_8 : decode cL_setValue 8 = .ok (.i2l, 1) := by decide +kernel
theorem dL_setValue_9 : decode cL_setValue 9 = .ok (.lastore, 1) := by decide +kernel
theorem dL_setValue_10 : decode cL_setValue 10 = .ok (.goto 15, 3) := by decide +kernel
theorem dL_setValue_13 : decode cL_setValue 13 = .ok (.astore 4, 2) := by decide +kernel
theorem dL_setValue_15 : decode cL_setValue 15 = .ok (.iconst 1, 1) := by decide +kernel
theorem dL_setValue_16 : decode cL_setValue 16 = .ok (.ireturn, 1) := by decide +kernel
theorem dL_setValue_17 : decode cL_setValue 17 = .ok (.astore 4, 2) := by decide +kernel
theorem dL_setValue_19 : decode cL_setValue 19 = .ok (.iconst 2, 1) := by decide +kernel
theorem dL_setValue_20 : decode cL_setValue 20 = .ok (.ireturn, 1) := by decide +kernel
theorem dL_setValue_21 : decode cL_setValue 21 = .ok (.astore 4, 2) := by decide +kernel
theorem dL_setValue_23 : decode cL_setValue 23 = .ok (.iconst 3, 1) := by decide +kernel
theorem dL_setValue_24 : decode cL_setValue 24 = .ok (.ireturn, 1) := by decide +kernel
theorem dL_setValue_25 : decode cL_setValue 25 = .ok (.iconst 0, 1) := by decide +kernel
theorem dL_setValue_26 : decode cL_setValue 26 = .ok (.ireturn, 1) := by decide +kernel
abbrev cL_move : ByteArray := method_9_code
def yL_move : MethodName := ⟨RL, "move", "(LTreequery;III[J)I"⟩
theorem dL_move_0 : decode cL_move 0 = .ok (.aload 4, 2) := by decide +kernel
theorem dL_move_2 : decode cL_move 2 = .ok (.iconst 0, 1) := by decide +kernel
theorem dL_move_3 : decode cL_move 3 = .ok (.aload_n 0, 1) := by decide +kernel
theorem dL_move_4 : decode cL_move 4 = .ok (.iload_n 1, 1) := by decide +kernel
theorem dL_move_5 : decode cL_move 5 = .ok (.iload_n 2, 1) := by decide +kernel
theorem dL_move_6 : decode cL_move 6 = .ok (.iload_n 3, 1) := by decide +kernel
theorem dL_move_7 : decode cL_move 7 = .ok (.invokevirtual 36, 3) := by decide +kernel
theorem dL_move_10 : decode cL_move 10 = .ok (.i2l, 1) := by decide +kernel
theorem dL_move_11 : decode cL_move 11 = .ok (.lastore, 1) := by decide +kernel
theorem dL_move_12 : decode cL_move 12 = .ok (.goto 11, 3) := by decide +kernel
theorem dL_move_15 : decode cL_move 15 = .ok (.astore 5, 2) := by decide +kernel
theorem dL_move_17 : decode cL_move 17 = .ok (.iconst 1, 1) := by decide +kernel
theorem dL_move_18 : decode cL_move 18 = .ok (.ireturn, 1) := by decide +kernel
theorem dL_move_19 : decode cL_move 19 = .ok (.astore 5, 2) := by decide +kernel
theorem dL_move_21 : decode cL_move 21 = .ok (.iconst 2, 1) := by decide +kernel
theorem dL_move_22 : decode cL_move 22 = .ok (.ireturn, 1) := by decide +kernel
theorem dL_move_23 : decode cL_move 23 = .ok (.iconst 0, 1) := by decide +kernel
theorem dL_move_24 : decode cL_move 24 = .ok (.ireturn, 1) := by decide +kernel
abbrev cL_declare : ByteArray := method_10_code
def yL_declare : MethodName := ⟨RL, "declare", "(LTreequery;II[J)I"⟩
theorem dL_declare_0 : decode cL_declare 0 = .ok (.aload_n 3, 1) := by decide +kernel
theorem dL_declare_1 : decode cL_declare 1 = .ok (.iconst 0, 1) := by decide +kernel
theorem dL_declare_2 : decode cL_declare 2 = .ok (.aload_n 0, 1) := by decide +kernel
theorem dL_declare_3 : decode cL_declare 3 = .ok (.iload_n 1, 1) := by decide +kernel
theorem dL_declare_4 : decode cL_declare 4 = .ok (.iload_n 2, 1) := by decide +kernel
theorem dL_declare_5 : decode cL_declare 5 = .ok (.invokevirtual 39, 3) := by decide +kernel
theorem dL_declare_8 : decode cL_declare 8 = .ok (.i2l, 1) := by decide +kernel
theorem dL_declare_9 : decode cL_declare 9 = .ok (.lastore, 1) := by decide +kernel
theorem dL_declare_10 : decode cL_declare 10 = .ok (.goto 15, 3) := by decide +kernel
theorem dL_declare_13 : decode cL_declare 13 = .ok (.astore 4, 2) := by decide +kernel
theorem dL_declare_15 : decode cL_declare 15 = .ok (.iconst 1, 1) := by decide +kernel
theorem dL_declare_16 : decode cL_declare 16 = .ok (.ireturn, 1) := by decide +kernel
theorem dL_declare_17 : decode cL_declare 17 = .ok (.astore 4, 2) := by decide +kernel
theorem dL_declare_19 : decode cL_declare 19 = .ok (.iconst 2, 1) := by decide +kernel
theorem dL_declare_20 : decode cL_declare 20 = .ok (.ireturn, 1) := by decide +kernel
theorem dL_declare_21 : decode cL_declare 21 = .ok (.astore 4, 2) := by decide +kernel
theorem dL_declare_23 : decode cL_declare 23 = .ok (.iconst 3, 1) := by decide +kernel
theorem dL_declare_24 : decode cL_declare 24 = .ok (.ireturn, 1) := by decide +kernel
theorem dL_declare_25 : decode cL_declare 25 = .ok (.iconst 0, 1) := by decide +kernel
theorem dL_declare_26 : decode cL_declare 26 = .ok (.ireturn, 1) := by decide +kernel
abbrev cL_apply : ByteArray := method_11_code
def yL_apply : MethodName := ⟨RL, "apply", "(LTreequery;[J)I"⟩
theorem dL_apply_0 : decode cL_apply 0 = .ok (.aload_n 1, 1) := by decide +kernel
theorem dL_apply_1 : decode cL_apply 1 = .ok (.iconst 0, 1) := by decide +kernel
theorem dL_apply_2 : decode cL_apply 2 = .ok (.aload_n 0, 1) := by decide +kernel
theorem dL_apply_3 : decode cL_apply 3 = .ok (.invokevirtual 42, 3) := by decide +kernel
theorem dL_apply_6 : decode cL_apply 6 = .ok (.i2l, 1) := by decide +kernel
theorem dL_apply_7 : decode cL_apply 7 = .ok (.lastore, 1) := by decide +kernel
theorem dL_apply_8 : decode cL_apply 8 = .ok (.goto 6, 3) := by decide +kernel
theorem dL_apply_11 : decode cL_apply 11 = .ok (.astore_n 2, 1) := by decide +kernel
theorem dL_apply_12 : decode cL_apply 12 = .ok (.iconst 1, 1) := by decide +kernel
theorem dL_apply_13 : decode cL_apply 13 = .ok (.ireturn, 1) := by decide +kernel
theorem dL_apply_14 : decode cL_apply 14 = .ok (.iconst 0, 1) := by decide +kernel
theorem dL_apply_15 : decode cL_apply 15 = .ok (.ireturn, 1) := by decide +kernel
abbrev cL_kind : ByteArray := method_12_code
def yL_kind : MethodName := ⟨RL, "kind", "(LTreequery;I[J)I"⟩
theorem dL_kind_0 : decode cL_kind 0 = .ok (.aload_n 2, 1) := by decide +kernel
theorem dL_kind_1 : decode cL_kind 1 = .ok (.iconst 0, 1) := by decide +kernel
theorem dL_kind_2 : decode cL_kind 2 = .ok (.aload_n 0, 1) := by decide +kernel
theorem dL_kind_3 : decode cL_kind 3 = .ok (.iload_n 1, 1) := by decide +kernel
theorem dL_kind_4 : decode cL_kind 4 = .ok (.invokevirtual 46, 3) := by decide +kernel
theorem dL_kind_7 : decode cL_kind 7 = .ok (.i2l, 1) := by decide +kernel
theorem dL_kind_8 : decode cL_kind 8 = .ok (.lastore, 1) := by decide +kernel
theorem dL_kind_9 : decode cL_kind 9 = .ok (.goto 6, 3) := by decide +kernel
theorem dL_kind_12 : decode cL_kind 12 = .ok (.astore_n 3, 1) := by decide +kernel
theorem dL_kind_13 : decode cL_kind 13 = .ok (.iconst 1, 1) := by decide +kernel
theorem dL_kind_14 : decode cL_kind 14 = .ok (.ireturn, 1) := by decide +kernel
theorem dL_kind_15 : decode cL_kind 15 = .ok (.iconst 0, 1) := by decide +kernel
theorem dL_kind_16 : decode cL_kind 16 = .ok (.ireturn, 1) := by decide +kernel
abbrev cL_name : ByteArray := method_13_code
def yL_name : MethodName := ⟨RL, "name", "(LTreequery;I[J)I"⟩
theorem dL_name_0 : decode cL_name 0 = .ok (.aload_n 2, 1) := by decide +kernel
theorem dL_name_1 : decode cL_name 1 = .ok (.iconst 0, 1) := by decide +kernel
theorem dL_name_2 : decode cL_name 2 = .ok (.aload_n 0, 1) := by decide +kernel
theorem dL_name_3 : decode cL_name 3 = .ok (.iload_n 1, 1) := by decide +kernel
theorem dL_name_4 : decode cL_name 4 = .ok (.invokevirtual 49, 3) := by decide +kernel
theorem dL_name_7 : decode cL_name 7 = .ok (.i2l, 1) := by decide +kernel
theorem dL_name_8 : decode cL_name 8 = .ok (.lastore, 1) := by decide +kernel
theorem dL_name_9 : decode cL_name 9 = .ok (.goto 6, 3) := by decide +kernel
theorem dL_name_12 : decode cL_name 12 = .ok (.astore_n 3, 1) := by decide +kernel
theorem dL_name_13 : decode cL_name 13 = .ok (.iconst 1, 1) := by decide +kernel
theorem dL_name_14 : decode cL_name 14 = .ok (.ireturn, 1) := by decide +kernel
theorem dL_name_15 : decode cL_name 15 = .ok (.iconst 0, 1) := by decide +kernel
theorem dL_name_16 : decode cL_name 16 = .ok (.ireturn, 1) := by decide +kernel
abbrev cL_value : ByteArray := method_14_code
def yL_value : MethodName := ⟨RL, "value", "(LTreequery;I[J)I"⟩
theorem dL_value_0 : decode cL_value 0 = .ok (.aload_n 2, 1) := by decide +kernel
theorem dL_value_1 : decode cL_value 1 = .ok (.iconst 0, 1) := by decide +kernel
theorem dL_value_2 : decode cL_value 2 = .ok (.aload_n 0, 1) := by decide +kernel
theorem dL_value_3 : decode cL_value 3 = .ok (.iload_n 1, 1) := by decide +kernel
theorem dL_value_4 : decode cL_value 4 = .ok (.invokevirtual 52, 3) := by decide +kernel
theorem dL_value_7 : decode cL_value 7 = .ok (.i2l, 1) := by decide +kernel
theorem dL_value_8 : decode cL_value 8 = .ok (.lastore, 1) := by decide +kernel
theorem dL_value_9 : decode cL_value 9 = .ok (.goto 6, 3) := by decide +kernel
theorem dL_value_12 : decode cL_value 12 = .ok (.astore_n 3, 1) := by decide +kernel
theorem dL_value_13 : decode cL_value 13 = .ok (.iconst 1, 1) := by decide +kernel
theorem dL_value_14 : decode cL_value 14 = .ok (.ireturn, 1) := by decide +kernel
theorem dL_value_15 : decode cL_value 15 = .ok (.iconst 0, 1) := by decide +kernel
theorem dL_value_16 : decode cL_value 16 = .ok (.ireturn, 1) := by decide +kernel
abbrev cL_parent : ByteArray := method_15_code
def yL_parent : MethodName := ⟨RL, "parent", "(LTreequery;I[J)I"⟩
theorem dL_parent_0 : decode cL_parent 0 = .ok (.aload_n 2, 1) := by decide +kernel
theorem dL_parent_1 : decode cL_parent 1 = .ok (.iconst 0, 1) := by decide +kernel
theorem dL_parent_2 : decode cL_parent 2 = .ok (.aload_n 0, 1) := by decide +kernel
theorem dL_parent_3 : decode cL_parent 3 = .ok (.iload_n 1, 1) := by decide +kernel
theorem dL_parent_4 : decode cL_parent 4 = .ok (.invokevirtual 55, 3) := by decide +kernel
theorem dL_parent_7 : decode cL_parent 7 = .ok (.i2l, 1) := by decide +kernel
theorem dL_parent_8 : decode cL_parent 8 = .ok (.lastore, 1) := by decide +kernel
theorem dL_parent_9 : decode cL_parent 9 = .ok (.goto 6, 3) := by decide +kernel
theorem dL_parent_12 : decode cL_parent 12 = .ok (.astore_n 3, 1) := by decide +kernel
theorem dL_parent_13 : decode cL_parent 13 = .ok (.iconst 1, 1) := by decide +kernel
theorem dL_parent_14 : decode cL_parent 14 = .ok (.ireturn, 1) := by decide +kernel
theorem dL_parent_15 : decode cL_parent 15 = .ok (.iconst 0, 1) := by decide +kernel
theorem dL_parent_16 : decode cL_parent 16 = .ok (.ireturn, 1) := by decide +kernel
abbrev cL_child : ByteArray := method_16_code
def yL_child : MethodName := ⟨RL, "child", "(LTreequery;II[J)I"⟩
theorem dL_child_0 : decode cL_child 0 = .ok (.aload_n 3, 1) := by decide +kernel
theorem dL_child_1 : decode cL_child 1 = .ok (.iconst 0, 1) := by decide +kernel
theorem dL_child_2 : decode cL_child 2 = .ok (.aload_n 0, 1) := by decide +kernel
theorem dL_child_3 : decode cL_child 3 = .ok (.iload_n 1, 1) := by decide +kernel
theorem dL_child_4 : decode cL_child 4 = .ok (.iload_n 2, 1) := by decide +kernel
theorem dL_child_5 : decode cL_child 5 = .ok (.invokevirtual 58, 3) := by decide +kernel
theorem dL_child_8 : decode cL_child 8 = .ok (.i2l, 1) := by decide +kernel
theorem dL_child_9 : decode cL_child 9 = .ok (.lastore, 1) := by decide +kernel
theorem dL_child_10 : decode cL_child 10 = .ok (.goto 7, 3) := by decide +kernel
theorem dL_child_13 : decode cL_child 13 = .ok (.astore 4, 2) := by decide +kernel
theorem dL_child_15 : decode cL_child 15 = .ok (.iconst 1, 1) := by decide +kernel
theorem dL_child_16 : decode cL_child 16 = .ok (.ireturn, 1) := by decide +kernel
theorem dL_child_17 : decode cL_child 17 = .ok (.iconst 0, 1) := by decide +kernel
theorem dL_child_18 : decode cL_child 18 = .ok (.ireturn, 1) := by decide +kernel
abbrev cL_space : ByteArray := method_17_code
def yL_space : MethodName := ⟨RL, "space", "(LTreequery;I[J)I"⟩
theorem dL_space_0 : decode cL_space 0 = .ok (.aload_n 2, 1) := by decide +kernel
theorem dL_space_1 : decode cL_space 1 = .ok (.iconst 0, 1) := by decide +kernel
theorem dL_space_2 : decode cL_space 2 = .ok (.aload_n 0, 1) := by decide +kernel
theorem dL_space_3 : decode cL_space 3 = .ok (.iload_n 1, 1) := by decide +kernel
theorem dL_space_4 : decode cL_space 4 = .ok (.invokevirtual 61, 3) := by decide +kernel
theorem dL_space_7 : decode cL_space 7 = .ok (.i2l, 1) := by decide +kernel
theorem dL_space_8 : decode cL_space 8 = .ok (.lastore, 1) := by decide +kernel
theorem dL_space_9 : decode cL_space 9 = .ok (.goto 6, 3) := by decide +kernel
theorem dL_space_12 : decode cL_space 12 = .ok (.astore_n 3, 1) := by decide +kernel
theorem dL_space_13 : decode cL_space 13 = .ok (.iconst 1, 1) := by decide +kernel
theorem dL_space_14 : decode cL_space 14 = .ok (.ireturn, 1) := by decide +kernel
theorem dL_space_15 : decode cL_space 15 = .ok (.iconst 0, 1) := by decide +kernel
theorem dL_space_16 : decode cL_space 16 = .ok (.ireturn, 1) := by decide +kernel
abbrev cL_number : ByteArray := method_18_code
def yL_number : MethodName := ⟨RL, "number", "(LTreequery;I[J)I"⟩
theorem dL_number_0 : decode cL_number 0 = .ok (.aload_n 2, 1) := by decide +kernel
theorem dL_number_1 : decode cL_number 1 = .ok (.iconst 0, 1) := by decide +kernel
theorem dL_number_2 : decode cL_number 2 = .ok (.aload_n 0, 1) := by decide +kernel
theorem dL_number_3 : decode cL_number 3 = .ok (.iload_n 1, 1) := by decide +kernel
theorem dL_number_4 : decode cL_number 4 = .ok (.invokevirtual 64, 3) := by decide +kernel
theorem dL_number_7 : decode cL_number 7 = .ok (.i2l, 1) := by decide +kernel
theorem dL_number_8 : decode cL_number 8 = .ok (.lastore, 1) := by decide +kernel
theorem dL_number_9 : decode cL_number 9 = .ok (.goto 6, 3) := by decide +kernel
theorem dL_number_12 : decode cL_number 12 = .ok (.astore_n 3, 1) := by decide +kernel
theorem dL_number_13 : decode cL_number 13 = .ok (.iconst 1, 1) := by decide +kernel
theorem dL_number_14 : decode cL_number 14 = .ok (.ireturn, 1) := by decide +kernel
theorem dL_number_15 : decode cL_number 15 = .ok (.iconst 0, 1) := by decide +kernel
theorem dL_number_16 : decode cL_number 16 = .ok (.ireturn, 1) := by decide +kernel
abbrev cL_path : ByteArray := method_19_code
def yL_path : MethodName := ⟨RL, "path", "(LTreequery;[J)I"⟩
theorem dL_path_0 : decode cL_path 0 = .ok (.aload_n 1, 1) := by decide +kernel
theorem dL_path_1 : decode cL_path 1 = .ok (.iconst 0, 1) := by decide +kernel
theorem dL_path_2 : decode cL_path 2 = .ok (.aload_n 0, 1) := by decide +kernel
theorem dL_path_3 : decode cL_path 3 = .ok (.invokevirtual 67, 3) := by decide +kernel
theorem dL_path_6 : decode cL_path 6 = .ok (.i2l, 1) := by decide +kernel
theorem dL_path_7 : decode cL_path 7 = .ok (.lastore, 1) := by decide +kernel
theorem dL_path_8 : decode cL_path 8 = .ok (.goto 6, 3) := by decide +kernel
theorem dL_path_11 : decode cL_path 11 = .ok (.astore_n 2, 1) := by decide +kernel
theorem dL_path_12 : decode cL_path 12 = .ok (.iconst 1, 1) := by decide +kernel
theorem dL_path_13 : decode cL_path 13 = .ok (.ireturn, 1) := by decide +kernel
theorem dL_path_14 : decode cL_path 14 = .ok (.iconst 0, 1) := by decide +kernel
theorem dL_path_15 : decode cL_path 15 = .ok (.ireturn, 1) := by decide +kernel
abbrev cL_step : ByteArray := method_20_code
def yL_step : MethodName := ⟨RL, "step", "(LTreequery;IIII[J)I"⟩
theorem dL_step_0 : decode cL_step 0 = .ok (.aload 5, 2) := by decide +kernel
theorem dL_step_2 : decode cL_step 2 = .ok (.iconst 0, 1) := by decide +kernel
theorem dL_step_3 : decode cL_step 3 = .ok (.aload_n 0, 1) := by decide +kernel
theorem dL_step_4 : decode cL_step 4 = .ok (.iload_n 1, 1) := by decide +kernel
theorem dL_step_5 : decode cL_step 5 = .ok (.iload_n 2, 1) := by decide +kernel
theorem dL_step_6 : decode cL_step 6 = .ok (.iload_n 3, 1) := by decide +kernel
theorem dL_step_7 : decode cL_step 7 = .ok (.iload 4, 2) := by decide +kernel
theorem dL_step_9 : decode cL_step 9 = .ok (.invokevirtual 70, 3) := by decide +kernel
theorem dL_step_12 : decode cL_step 12 = .ok (.i2l, 1) := by decide +kernel
theorem dL_step_13 : decode cL_step 13 = .ok (.lastore, 1) := by decide +kernel
theorem dL_step_14 : decode cL_step 14 = .ok (.goto 15, 3) := by decide +kernel
theorem dL_step_17 : decode cL_step 17 = .ok (.astore 6, 2) := by decide +kernel
theorem dL_step_19 : decode cL_step 19 = .ok (.iconst 1, 1) := by decide +kernel
theorem dL_step_20 : decode cL_step 20 = .ok (.ireturn, 1) := by decide +kernel
theorem dL_step_21 : decode cL_step 21 = .ok (.astore 6, 2) := by decide +kernel
theorem dL_step_23 : decode cL_step 23 = .ok (.iconst 2, 1) := by decide +kernel
theorem dL_step_24 : decode cL_step 24 = .ok (.ireturn, 1) := by decide +kernel
theorem dL_step_25 : decode cL_step 25 = .ok (.astore 6, 2) := by decide +kernel
theorem dL_step_27 : decode cL_step 27 = .ok (.iconst 3, 1) := by decide +kernel
theorem dL_step_28 : decode cL_step 28 = .ok (.ireturn, 1) := by decide +kernel
theorem dL_step_29 : decode cL_step 29 = .ok (.iconst 0, 1) := by decide +kernel
theorem dL_step_30 : decode cL_step 30 = .ok (.ireturn, 1) := by decide +kernel
abbrev cL_place : ByteArray := method_21_code
def yL_place : MethodName := ⟨RL, "place", "(LTreequery;III[J)I"⟩
theorem dL_place_0 : decode cL_place 0 = .ok (.aload 4, 2) := by decide +kernel
theorem dL_place_2 : decode cL_place 2 = .ok (.iconst 0, 1) := by decide +kernel
theorem dL_place_3 : decode cL_place 3 = .ok (.aload_n 0, 1) := by decide +kernel
theorem dL_place_4 : decode cL_place 4 = .ok (.iload_n 1, 1) := by decide +kernel
theorem dL_place_5 : decode cL_place 5 = .ok (.iload_n 2, 1) := by decide +kernel
theorem dL_place_6 : decode cL_place 6 = .ok (.iload_n 3, 1) := by decide +kernel
theorem dL_place_7 : decode cL_place 7 = .ok (.invokevirtual 74, 3) := by decide +kernel
theorem dL_place_10 : decode cL_place 10 = .ok (.i2l, 1) := by decide +kernel
theorem dL_place_11 : decode cL_place 11 = .ok (.lastore, 1) := by decide +kernel
theorem dL_place_12 : decode cL_place 12 = .ok (.goto 15, 3) := by decide +kernel
theorem dL_place_15 : decode cL_place 15 = .ok (.astore 5, 2) := by decide +kernel
theorem dL_place_17 : decode cL_place 17 = .ok (.iconst 1, 1) := by decide +kernel
theorem dL_place_18 : decode cL_place 18 = .ok (.ireturn, 1) := by decide +kernel
theorem dL_place_19 : decode cL_place 19 = .ok (.astore 5, 2) := by decide +kernel
theorem dL_place_21 : decode cL_place 21 = .ok (.iconst 2, 1) := by decide +kernel
theorem dL_place_22 : decode cL_place 22 = .ok (.ireturn, 1) := by decide +kernel
theorem dL_place_23 : decode cL_place 23 = .ok (.astore 5, 2) := by decide +kernel
theorem dL_place_25 : decode cL_place 25 = .ok (.iconst 3, 1) := by decide +kernel
theorem dL_place_26 : decode cL_place 26 = .ok (.ireturn, 1) := by decide +kernel
theorem dL_place_27 : decode cL_place 27 = .ok (.iconst 0, 1) := by decide +kernel
theorem dL_place_28 : decode cL_place 28 = .ok (.ireturn, 1) := by decide +kernel
abbrev cL_last : ByteArray := method_22_code
def yL_last : MethodName := ⟨RL, "last", "(LTreequery;I[J)I"⟩
theorem dL_last_0 : decode cL_last 0 = .ok (.aload_n 2, 1) := by decide +kernel
theorem dL_last_1 : decode cL_last 1 = .ok (.iconst 0, 1) := by decide +kernel
theorem dL_last_2 : decode cL_last 2 = .ok (.aload_n 0, 1) := by decide +kernel
theorem dL_last_3 : decode cL_last 3 = .ok (.iload_n 1, 1) := by decide +kernel
theorem dL_last_4 : decode cL_last 4 = .ok (.invokevirtual 77, 3) := by decide +kernel
theorem dL_last_7 : decode cL_last 7 = .ok (.i2l, 1) := by decide +kernel
theorem dL_last_8 : decode cL_last 8 = .ok (.lastore, 1) := by decide +kernel
theorem dL_last_9 : decode cL_last 9 = .ok (.goto 9, 3) := by decide +kernel
theorem dL_last_12 : decode cL_last 12 = .ok (.astore_n 3, 1) := by decide +kernel
theorem dL_last_13 : decode cL_last 13 = .ok (.iconst 1, 1) := by decide +kernel
theorem dL_last_14 : decode cL_last 14 = .ok (.ireturn, 1) := by decide +kernel
theorem dL_last_15 : decode cL_last 15 = .ok (.astore_n 3, 1) := by decide +kernel
theorem dL_last_16 : decode cL_last 16 = .ok (.iconst 2, 1) := by decide +kernel
theorem dL_last_17 : decode cL_last 17 = .ok (.ireturn, 1) := by decide +kernel
theorem dL_last_18 : decode cL_last 18 = .ok (.iconst 0, 1) := by decide +kernel
theorem dL_last_19 : decode cL_last 19 = .ok (.ireturn, 1) := by decide +kernel
abbrev cL_has : ByteArray := method_23_code
def yL_has : MethodName := ⟨RL, "has", "(LTreequery;IIZ[J)I"⟩
theorem dL_has_0 : decode cL_has 0 = .ok (.aload 4, 2) := by decide +kernel
theorem dL_has_2 : decode cL_has 2 = .ok (.iconst 0, 1) := by decide +kernel
theorem dL_has_3 : decode cL_has 3 = .ok (.aload_n 0, 1) := by decide +kernel
theorem dL_has_4 : decode cL_has 4 = .ok (.iload_n 1, 1) := by decide +kernel
theorem dL_has_5 : decode cL_has 5 = .ok (.iload_n 2, 1) := by decide +kernel
theorem dL_has_6 : decode cL_has 6 = .ok (.iload_n 3, 1) := by decide +kernel
theorem dL_has_7 : decode cL_has 7 = .ok (.invokevirtual 80, 3) := by decide +kernel
theorem dL_has_10 : decode cL_has 10 = .ok (.i2l, 1) := by decide +kernel
theorem dL_has_11 : decode cL_has 11 = .ok (.lastore, 1) := by decide +kernel
theorem dL_has_12 : decode cL_has 12 = .ok (.goto 11, 3) := by decide +kernel
theorem dL_has_15 : decode cL_has 15 = .ok (.astore 5, 2) := by decide +kernel
theorem dL_has_17 : decode cL_has 17 = .ok (.iconst 1, 1) := by decide +kernel
theorem dL_has_18 : decode cL_has 18 = .ok (.ireturn, 1) := by decide +kernel
theorem dL_has_19 : decode cL_has 19 = .ok (.astore 5, 2) := by decide +kernel
theorem dL_has_21 : decode cL_has 21 = .ok (.iconst 2, 1) := by decide +kernel
theorem dL_has_22 : decode cL_has 22 = .ok (.ireturn, 1) := by decide +kernel
theorem dL_has_23 : decode cL_has 23 = .ok (.iconst 0, 1) := by decide +kernel
theorem dL_has_24 : decode cL_has 24 = .ok (.ireturn, 1) := by decide +kernel
abbrev cL_worth : ByteArray := method_24_code
def yL_worth : MethodName := ⟨RL, "worth", "(LTreequery;IIII[J)I"⟩
theorem dL_worth_0 : decode cL_worth 0 = .ok (.aload 5, 2) := by decide +kernel
theorem dL_worth_2 : decode cL_worth 2 = .ok (.iconst 0, 1) := by decide +kernel
theorem dL_worth_3 : decode cL_worth 3 = .ok (.aload_n 0, 1) := by decide +kernel
theorem dL_worth_4 : decode cL_worth 4 = .ok (.iload_n 1, 1) := by decide +kernel
theorem dL_worth_5 : decode cL_worth 5 = .ok (.iload_n 2, 1) := by decide +kernel
theorem dL_worth_6 : decode cL_worth 6 = .ok (.iload_n 3, 1) := by decide +kernel
theorem dL_worth_7 : decode cL_worth 7 = .ok (.iload 4, 2) := by decide +kernel
theorem dL_worth_9 : decode cL_worth 9 = .ok (.invokevirtual 84, 3) := by decide +kernel
theorem dL_worth_12 : decode cL_worth 12 = .ok (.i2l, 1) := by decide +kernel
theorem dL_worth_13 : decode cL_worth 13 = .ok (.lastore, 1) := by decide +kernel
theorem dL_worth_14 : decode cL_worth 14 = .ok (.goto 15, 3) := by decide +kernel
theorem dL_worth_17 : decode cL_worth 17 = .ok (.astore 6, 2) := by decide +kernel
theorem dL_worth_19 : decode cL_worth 19 = .ok (.iconst 1, 1) := by decide +kernel
theorem dL_worth_20 : decode cL_worth 20 = .ok (.ireturn, 1) := by decide +kernel
theorem dL_worth_21 : decode cL_worth 21 = .ok (.astore 6, 2) := by decide +kernel
theorem dL_worth_23 : decode cL_worth 23 = .ok (.iconst 2, 1) := by decide +kernel
theorem dL_worth_24 : decode cL_worth 24 = .ok (.ireturn, 1) := by decide +kernel
theorem dL_worth_25 : decode cL_worth 25 = .ok (.astore 6, 2) := by decide +kernel
theorem dL_worth_27 : decode cL_worth 27 = .ok (.iconst 3, 1) := by decide +kernel
theorem dL_worth_28 : decode cL_worth 28 = .ok (.ireturn, 1) := by decide +kernel
theorem dL_worth_29 : decode cL_worth 29 = .ok (.iconst 0, 1) := by decide +kernel
theorem dL_worth_30 : decode cL_worth 30 = .ok (.ireturn, 1) := by decide +kernel
abbrev cL_found : ByteArray := method_25_code
def yL_found : MethodName := ⟨RL, "found", "(LTreequery;II[J)I"⟩
theorem dL_found_0 : decode cL_found 0 = .ok (.aload_n 3, 1) := by decide +kernel
theorem dL_found_1 : decode cL_found 1 = .ok (.iconst 0, 1) := by decide +kernel
theorem dL_found_2 : decode cL_found 2 = .ok (.aload_n 0, 1) := by decide +kernel
theorem dL_found_3 : decode cL_found 3 = .ok (.iload_n 1, 1) := by decide +kernel
theorem dL_found_4 : decode cL_found 4 = .ok (.iload_n 2, 1) := by decide +kernel
theorem dL_found_5 : decode cL_found 5 = .ok (.invokevirtual 87, 3) := by decide +kernel
theorem dL_found_8 : decode cL_found 8 = .ok (.i2l, 1) := by decide +kernel
theorem dL_found_9 : decode cL_found 9 = .ok (.lastore, 1) := by decide +kernel
theorem dL_found_10 : decode cL_found 10 = .ok (.goto 7, 3) := by decide +kernel
theorem dL_found_13 : decode cL_found 13 = .ok (.astore 4, 2) := by decide +kernel
theorem dL_found_15 : decode cL_found 15 = .ok (.iconst 1, 1) := by decide +kernel
theorem dL_found_16 : decode cL_found 16 = .ok (.ireturn, 1) := by decide +kernel
theorem dL_found_17 : decode cL_found 17 = .ok (.iconst 0, 1) := by decide +kernel
theorem dL_found_18 : decode cL_found 18 = .ok (.ireturn, 1) := by decide +kernel
abbrev cL_foundAnew : ByteArray := method_26_code
def yL_foundAnew : MethodName := ⟨RL, "foundAnew", "(LTreequery;II[J)I"⟩
theorem dL_foundAnew_0 : decode cL_foundAnew 0 = .ok (.aload_n 3, 1) := by decide +kernel
theorem dL_foundAnew_1 : decode cL_foundAnew 1 = .ok (.iconst 0, 1) := by decide +kernel
theorem dL_foundAnew_2 : decode cL_foundAnew 2 = .ok (.aload_n 0, 1) := by decide +kernel
theorem dL_foundAnew_3 : decode cL_foundAnew 3 = .ok (.iload_n 1, 1) := by decide +kernel
theorem dL_foundAnew_4 : decode cL_foundAnew 4 = .ok (.iload_n 2, 1) := by decide +kernel
theorem dL_foundAnew_5 : decode cL_foundAnew 5 = .ok (.invokevirtual 90, 3) := by decide +kernel
theorem dL_foundAnew_8 : decode cL_foundAnew 8 = .ok (.i2l, 1) := by decide +kernel
theorem dL_foundAnew_9 : decode cL_foundAnew 9 = .ok (.lastore, 1) := by decide +kernel
theorem dL_foundAnew_10 : decode cL_foundAnew 10 = .ok (.goto 7, 3) := by decide +kernel
theorem dL_foundAnew_13 : decode cL_foundAnew 13 = .ok (.astore 4, 2) := by decide +kernel
theorem dL_foundAnew_15 : decode cL_foundAnew 15 = .ok (.iconst 1, 1) := by decide +kernel
theorem dL_foundAnew_16 : decode cL_foundAnew 16 = .ok (.ireturn, 1) := by decide +kernel
theorem dL_foundAnew_17 : decode cL_foundAnew 17 = .ok (.iconst 0, 1) := by decide +kernel
theorem dL_foundAnew_18 : decode cL_foundAnew 18 = .ok (.ireturn, 1) := by decide +kernel
abbrev cL_foundAt : ByteArray := method_27_code
def yL_foundAt : MethodName := ⟨RL, "foundAt", "(LTreequery;II[J)I"⟩
theorem dL_foundAt_0 : decode cL_foundAt 0 = .ok (.aload_n 3, 1) := by decide +kernel
theorem dL_foundAt_1 : decode cL_foundAt 1 = .ok (.iconst 0, 1) := by decide +kernel
theorem dL_foundAt_2 : decode cL_foundAt 2 = .ok (.aload_n 0, 1) := by decide +kernel
theorem dL_foundAt_3 : decode cL_foundAt 3 = .ok (.iload_n 1, 1) := by decide +kernel
theorem dL_foundAt_4 : decode cL_foundAt 4 = .ok (.iload_n 2, 1) := by decide +kernel
theorem dL_foundAt_5 : decode cL_foundAt 5 = .ok (.invokevirtual 93, 3) := by decide +kernel
theorem dL_foundAt_8 : decode cL_foundAt 8 = .ok (.i2l, 1) := by decide +kernel
theorem dL_foundAt_9 : decode cL_foundAt 9 = .ok (.lastore, 1) := by decide +kernel
theorem dL_foundAt_10 : decode cL_foundAt 10 = .ok (.goto 7, 3) := by decide +kernel
theorem dL_foundAt_13 : decode cL_foundAt 13 = .ok (.astore 4, 2) := by decide +kernel
theorem dL_foundAt_15 : decode cL_foundAt 15 = .ok (.iconst 1, 1) := by decide +kernel
theorem dL_foundAt_16 : decode cL_foundAt 16 = .ok (.ireturn, 1) := by decide +kernel
theorem dL_foundAt_17 : decode cL_foundAt 17 = .ok (.iconst 0, 1) := by decide +kernel
theorem dL_foundAt_18 : decode cL_foundAt 18 = .ok (.ireturn, 1) := by decide +kernel
abbrev cL_ordered : ByteArray := method_28_code
def yL_ordered : MethodName := ⟨RL, "ordered", "(LTreequery;II[J)I"⟩
theorem dL_ordered_0 : decode cL_ordered 0 = .ok (.aload_n 3, 1) := by decide +kernel
theorem dL_ordered_1 : decode cL_ordered 1 = .ok (.iconst 0, 1) := by decide +kernel
theorem dL_ordered_2 : decode cL_ordered 2 = .ok (.aload_n 0, 1) := by decide +kernel
theorem dL_ordered_3 : decode cL_ordered 3 = .ok (.iload_n 1, 1) := by decide +kernel
theorem dL_ordered_4 : decode cL_ordered 4 = .ok (.iload_n 2, 1) := by decide +kernel
theorem dL_ordered_5 : decode cL_ordered 5 = .ok (.invokevirtual 96, 3) := by decide +kernel
theorem dL_ordered_8 : decode cL_ordered 8 = .ok (.i2l, 1) := by decide +kernel
theorem dL_ordered_9 : decode cL_ordered 9 = .ok (.lastore, 1) := by decide +kernel
theorem dL_ordered_10 : decode cL_ordered 10 = .ok (.goto 7, 3) := by decide +kernel
theorem dL_ordered_13 : decode cL_ordered 13 = .ok (.astore 4, 2) := by decide +kernel
theorem dL_ordered_15 : decode cL_ordered 15 = .ok (.iconst 1, 1) := by decide +kernel
theorem dL_ordered_16 : decode cL_ordered 16 = .ok (.ireturn, 1) := by decide +kernel
theorem dL_ordered_17 : decode cL_ordered 17 = .ok (.iconst 0, 1) := by decide +kernel
theorem dL_ordered_18 : decode cL_ordered 18 = .ok (.ireturn, 1) := by decide +kernel
abbrev cL_groups : ByteArray := method_29_code
def yL_groups : MethodName := ⟨RL, "groups", "(LTreequery;I[J)I"⟩
theorem dL_groups_0 : decode cL_groups 0 = .ok (.aload_n 2, 1) := by decide +kernel
theorem dL_groups_1 : decode cL_groups 1 = .ok (.iconst 0, 1) := by decide +kernel
theorem dL_groups_2 : decode cL_groups 2 = .ok (.aload_n 0, 1) := by decide +kernel
theorem dL_groups_3 : decode cL_groups 3 = .ok (.iload_n 1, 1) := by decide +kernel
theorem dL_groups_4 : decode cL_groups 4 = .ok (.invokevirtual 99, 3) := by decide +kernel
theorem dL_groups_7 : decode cL_groups 7 = .ok (.i2l, 1) := by decide +kernel
theorem dL_groups_8 : decode cL_groups 8 = .ok (.lastore, 1) := by decide +kernel
theorem dL_groups_9 : decode cL_groups 9 = .ok (.goto 6, 3) := by decide +kernel
theorem dL_groups_12 : decode cL_groups 12 = .ok (.astore_n 3, 1) := by decide +kernel
theorem dL_groups_13 : decode cL_groups 13 = .ok (.iconst 1, 1) := by decide +kernel
theorem dL_groups_14 : decode cL_groups 14 = .ok (.ireturn, 1) := by decide +kernel
theorem dL_groups_15 : decode cL_groups 15 = .ok (.iconst 0, 1) := by decide +kernel
theorem dL_groups_16 : decode cL_groups 16 = .ok (.ireturn, 1) := by decide +kernel
abbrev cL_nameType : ByteArray := method_30_code
def yL_nameType : MethodName := ⟨RL, "nameType", "(LTreequery;II[J)I"⟩
theorem dL_nameType_0 : decode cL_nameType 0 = .ok (.aload_n 3, 1) := by decide +kernel
theorem dL_nameType_1 : decode cL_nameType 1 = .ok (.iconst 0, 1) := by decide +kernel
theorem dL_nameType_2 : decode cL_nameType 2 = .ok (.aload_n 0, 1) := by decide +kernel
theorem dL_nameType_3 : decode cL_nameType 3 = .ok (.iload_n 1, 1) := by decide +kernel
theorem dL_nameType_4 : decode cL_nameType 4 = .ok (.iload_n 2, 1) := by decide +kernel
theorem dL_nameType_5 : decode cL_nameType 5 = .ok (.invokevirtual 102, 3) := by decide +kernel
theorem dL_nameType_8 : decode cL_nameType 8 = .ok (.i2l, 1) := by decide +kernel
theorem dL_nameType_9 : decode cL_nameType 9 = .ok (.lastore, 1) := by decide +kernel
theorem dL_nameType_10 : decode cL_nameType 10 = .ok (.goto 15, 3) := by decide +kernel
theorem dL_nameType_13 : decode cL_nameType 13 = .ok (.astore 4, 2) := by decide +kernel
theorem dL_nameType_15 : decode cL_nameType 15 = .ok (.iconst 1, 1) := by decide +kernel
theorem dL_nameType_16 : decode cL_nameType 16 = .ok (.ireturn, 1) := by decide +kernel
theorem dL_nameType_17 : decode cL_nameType 17 = .ok (.astore 4, 2) := by decide +kernel
theorem dL_nameType_19 : decode cL_nameType 19 = .ok (.iconst 2, 1) := by decide +kernel
theorem dL_nameType_20 : decode cL_nameType 20 = .ok (.ireturn, 1) := by decide +kernel
theorem dL_nameType_21 : decode cL_nameType 21 = .ok (.astore 4, 2) := by decide +kernel
theorem dL_nameType_23 : decode cL_nameType 23 = .ok (.iconst 3, 1) := by decide +kernel
theorem dL_nameType_24 : decode cL_nameType 24 = .ok (.ireturn, 1) := by decide +kernel
theorem dL_nameType_25 : decode cL_nameType 25 = .ok (.iconst 0, 1) := by decide +kernel
theorem dL_nameType_26 : decode cL_nameType 26 = .ok (.ireturn, 1) := by decide +kernel
abbrev cL_arc : ByteArray := method_31_code
def yL_arc : MethodName := ⟨RL, "arc", "(LTreequery;IIII[J)I"⟩
theorem dL_arc_0 : decode cL_arc 0 = .ok (.aload 5, 2) := by decide +kernel
theorem dL_arc_2 : decode cL_arc 2 = .ok (.iconst 0, 1) := by decide +kernel
theorem dL_arc_3 : decode cL_arc 3 = .ok (.aload_n 0, 1) := by decide +kernel
theorem dL_arc_4 : decode cL_arc 4 = .ok (.iload_n 1, 1) := by decide +kernel
theorem dL_arc_5 : decode cL_arc 5 = .ok (.iload_n 2, 1) := by decide +kernel
theorem dL_arc_6 : decode cL_arc 6 = .ok (.iload_n 3, 1) := by decide +kernel
theorem dL_arc_7 : decode cL_arc 7 = .ok (.iload 4, 2) := by decide +kernel
theorem dL_arc_9 : decode cL_arc 9 = .ok (.invokevirtual 105, 3) := by decide +kernel
theorem dL_arc_12 : decode cL_arc 12 = .ok (.ifCond .eq 7, 3) := by decide +kernel
theorem dL_arc_15 : decode cL_arc 15 = .ok (.lconst 1, 1) := by decide +kernel
theorem dL_arc_16 : decode cL_arc 16 = .ok (.goto 4, 3) := by decide +kernel
theorem dL_arc_19 : decode cL_arc 19 = .ok (.lconst 0, 1) := by decide +kernel
theorem dL_arc_20 : decode cL_arc 20 = .ok (.lastore, 1) := by decide +kernel
theorem dL_arc_21 : decode cL_arc 21 = .ok (.goto 11, 3) := by decide +kernel
theorem dL_arc_24 : decode cL_arc 24 = .ok (.astore 6, 2) := by decide +kernel
theorem dL_arc_26 : decode cL_arc 26 = .ok (.iconst 1, 1) := by decide +kernel
theorem dL_arc_27 : decode cL_arc 27 = .ok (.ireturn, 1) := by decide +kernel
theorem dL_arc_28 : decode cL_arc 28 = .ok (.astore 6, 2) := by decide +kernel
theorem dL_arc_30 : decode cL_arc 30 = .ok (.iconst 2, 1) := by decide +kernel
theorem dL_arc_31 : decode cL_arc 31 = .ok (.ireturn, 1) := by decide +kernel
theorem dL_arc_32 : decode cL_arc 32 = .ok (.iconst 0, 1) := by decide +kernel
theorem dL_arc_33 : decode cL_arc 33 = .ok (.ireturn, 1) := by decide +kernel
abbrev cL_setFinal : ByteArray := method_32_code
def yL_setFinal : MethodName := ⟨RL, "setFinal", "(LTreequery;IIZ[J)I"⟩
theorem dL_setFinal_0 : decode cL_setFinal 0 = .ok (.aload 4, 2) := by decide +kernel
theorem dL_setFinal_2 : decode cL_setFinal 2 = .ok (.iconst 0, 1) := by decide +kernel
theorem dL_setFinal_3 : decode cL_setFinal 3 = .ok (.aload_n 0, 1) := by decide +kernel
theorem dL_setFinal_4 : decode cL_setFinal 4 = .ok (.iload_n 1, 1) := by decide +kernel
theorem dL_setFinal_5 : decode cL_setFinal 5 = .ok (.iload_n 2, 1) := by decide +kernel
theorem dL_setFinal_6 : decode cL_setFinal 6 = .ok (.iload_n 3, 1) := by decide +kernel
theorem dL_setFinal_7 : decode cL_setFinal 7 = .ok (.invokevirtual 109, 3) := by decide +kernel
theorem dL_setFinal_10 : decode cL_setFinal 10 = .ok (.ifCond .eq 7, 3) := by decide +kernel
theorem dL_setFinal_13 : decode cL_setFinal 13 = .ok (.lconst 1, 1) := by decide +kernel
theorem dL_setFinal_14 : decode cL_setFinal 14 = .ok (.goto 4, 3) := by decide +kernel
theorem dL_setFinal_17 : decode cL_setFinal 17 = .ok (.lconst 0, 1) := by decide +kernel
theorem dL_setFinal_18 : decode cL_setFinal 18 = .ok (.lastore, 1) := by decide +kernel
theorem dL_setFinal_19 : decode cL_setFinal 19 = .ok (.goto 11, 3) := by decide +kernel
theorem dL_setFinal_22 : decode cL_setFinal 22 = .ok (.astore 5, 2) := by decide +kernel
theorem dL_setFinal_24 : decode cL_setFinal 24 = .ok (.iconst 1, 1) := by decide +kernel
theorem dL_setFinal_25 : decode cL_setFinal 25 = .ok (.ireturn, 1) := by decide +kernel
theorem dL_setFinal_26 : decode cL_setFinal 26 = .ok (.astore 5, 2) := by decide +kernel
theorem dL_setFinal_28 : decode cL_setFinal 28 = .ok (.iconst 2, 1) := by decide +kernel
theorem dL_setFinal_29 : decode cL_setFinal 29 = .ok (.ireturn, 1) := by decide +kernel
theorem dL_setFinal_30 : decode cL_setFinal 30 = .ok (.iconst 0, 1) := by decide +kernel
theorem dL_setFinal_31 : decode cL_setFinal 31 = .ok (.ireturn, 1) := by decide +kernel
abbrev cL_allowTexts : ByteArray := method_33_code
def yL_allowTexts : MethodName := ⟨RL, "allowTexts", "(LTreequery;IZ[J)I"⟩
theorem dL_allowTexts_0 : decode cL_allowTexts 0 = .ok (.aload_n 3, 1) := by decide +kernel
theorem dL_allowTexts_1 : decode cL_allowTexts 1 = .ok (.iconst 0, 1) := by decide +kernel
theorem dL_allowTexts_2 : decode cL_allowTexts 2 = .ok (.aload_n 0, 1) := by decide +kernel
theorem dL_allowTexts_3 : decode cL_allowTexts 3 = .ok (.iload_n 1, 1) := by decide +kernel
theorem dL_allowTexts_4 : decode cL_allowTexts 4 = .ok (.iload_n 2, 1) := by decide +kernel
theorem dL_allowTexts_5 : decode cL_allowTexts 5 = .ok (.invokevirtual 113, 3) := by decide +kernel
theorem dL_allowTexts_8 : decode cL_allowTexts 8 = .ok (.ifCond .eq 7, 3) := by decide +kernel
theorem dL_allowTexts_11 : decode cL_allowTexts 11 = .ok (.lconst 1, 1) := by decide +kernel
theorem dL_allowTexts_12 : decode cL_allowTexts 12 = .ok (.goto 4, 3) := by decide +kernel
theorem dL_allowTexts_15 : decode cL_allowTexts 15 = .ok (.lconst 0, 1) := by decide +kernel
theorem dL_allowTexts_16 : decode cL_allowTexts 16 = .ok (.lastore, 1) := by decide +kernel
theorem dL_allowTexts_17 : decode cL_allowTexts 17 = .ok (.goto 11, 3) := by decide +kernel
theorem dL_allowTexts_20 : decode cL_allowTexts 20 = .ok (.astore 4, 2) := by decide +kernel
theorem dL_allowTexts_22 : decode cL_allowTexts 22 = .ok (.iconst 1, 1) := by decide +kernel
theorem dL_allowTexts_23 : decode cL_allowTexts 23 = .ok (.ireturn, 1) := by decide +kernel
theorem dL_allowTexts_24 : decode cL_allowTexts 24 = .ok (.astore 4, 2) := by decide +kernel
theorem dL_allowTexts_26 : decode cL_allowTexts 26 = .ok (.iconst 2, 1) := by decide +kernel
theorem dL_allowTexts_27 : decode cL_allowTexts 27 = .ok (.ireturn, 1) := by decide +kernel
theorem dL_allowTexts_28 : decode cL_allowTexts 28 = .ok (.iconst 0, 1) := by decide +kernel
theorem dL_allowTexts_29 : decode cL_allowTexts 29 = .ok (.ireturn, 1) := by decide +kernel
abbrev cL_attribute : ByteArray := method_34_code
def yL_attribute : MethodName := ⟨RL, "attribute", "(LTreequery;III[J)I"⟩
theorem dL_attribute_0 : decode cL_attribute 0 = .ok (.aload 4, 2) := by decide +kernel
theorem dL_attribute_2 : decode cL_attribute 2 = .ok (.iconst 0, 1) := by decide +kernel
theorem dL_attribute_3 : decode cL_attribute 3 = .ok (.aload_n 0, 1) := by decide +kernel
theorem dL_attribute_4 : decode cL_attribute 4 = .ok (.iload_n 1, 1) := by decide +kernel
theorem dL_attribute_5 : decode cL_attribute 5 = .ok (.iload_n 2, 1) := by decide +kernel
theorem dL_attribute_6 : decode cL_attribute 6 = .ok (.iload_n 3, 1) := by decide +kernel
theorem dL_attribute_7 : decode cL_attribute 7 = .ok (.invokevirtual 117, 3) := by decide +kernel
theorem dL_attribute_10 : decode cL_attribute 10 = .ok (.i2l, 1) := by decide +kernel
theorem dL_attribute_11 : decode cL_attribute 11 = .ok (.lastore, 1) := by decide +kernel
theorem dL_attribute_12 : decode cL_attribute 12 = .ok (.goto 15, 3) := by decide +kernel
theorem dL_attribute_15 : decode cL_attribute 15 = .ok (.astore 5, 2) := by decide +kernel
theorem dL_attribute_17 : decode cL_attribute 17 = .ok (.iconst 1, 1) := by decide +kernel
theorem dL_attribute_18 : decode cL_attribute 18 = .ok (.ireturn, 1) := by decide +kernel
theorem dL_attribute_19 : decode cL_attribute 19 = .ok (.astore 5, 2) := by decide +kernel
theorem dL_attribute_21 : decode cL_attribute 21 = .ok (.iconst 2, 1) := by decide +kernel
theorem dL_attribute_22 : decode cL_attribute 22 = .ok (.ireturn, 1) := by decide +kernel
theorem dL_attribute_23 : decode cL_attribute 23 = .ok (.astore 5, 2) := by decide +kernel
theorem dL_attribute_25 : decode cL_attribute 25 = .ok (.iconst 3, 1) := by decide +kernel
theorem dL_attribute_26 : decode cL_attribute 26 = .ok (.ireturn, 1) := by decide +kernel
theorem dL_attribute_27 : decode cL_attribute 27 = .ok (.iconst 0, 1) := by decide +kernel
theorem dL_attribute_28 : decode cL_attribute 28 = .ok (.ireturn, 1) := by decide +kernel
abbrev cL_setStrict : ByteArray := method_35_code
def yL_setStrict : MethodName := ⟨RL, "setStrict", "(LTreequery;Z[J)I"⟩
theorem dL_setStrict_0 : decode cL_setStrict 0 = .ok (.aload_n 2, 1) := by decide +kernel
theorem dL_setStrict_1 : decode cL_setStrict 1 = .ok (.iconst 0, 1) := by decide +kernel
theorem dL_setStrict_2 : decode cL_setStrict 2 = .ok (.aload_n 0, 1) := by decide +kernel
theorem dL_setStrict_3 : decode cL_setStrict 3 = .ok (.iload_n 1, 1) := by decide +kernel
theorem dL_setStrict_4 : decode cL_setStrict 4 = .ok (.invokevirtual 120, 3) := by decide +kernel
theorem dL_setStrict_7 : decode cL_setStrict 7 = .ok (.ifCond .eq 7, 3) := by decide +kernel
theorem dL_setStrict_10 : decode cL_setStrict 10 = .ok (.lconst 1, 1) := by decide +kernel
theorem dL_setStrict_11 : decode cL_setStrict 11 = .ok (.goto 4, 3) := by decide +kernel
theorem dL_setStrict_14 : decode cL_setStrict 14 = .ok (.lconst 0, 1) := by decide +kernel
theorem dL_setStrict_15 : decode cL_setStrict 15 = .ok (.lastore, 1) := by decide +kernel
theorem dL_setStrict_16 : decode cL_setStrict 16 = .ok (.goto 6, 3) := by decide +kernel
theorem dL_setStrict_19 : decode cL_setStrict 19 = .ok (.astore_n 3, 1) := by decide +kernel
theorem dL_setStrict_20 : decode cL_setStrict 20 = .ok (.iconst 1, 1) := by decide +kernel
theorem dL_setStrict_21 : decode cL_setStrict 21 = .ok (.ireturn, 1) := by decide +kernel
theorem dL_setStrict_22 : decode cL_setStrict 22 = .ok (.iconst 0, 1) := by decide +kernel
theorem dL_setStrict_23 : decode cL_setStrict 23 = .ok (.ireturn, 1) := by decide +kernel
abbrev cL_types : ByteArray := method_36_code
def yL_types : MethodName := ⟨RL, "types", "(LTreequery;I[J)I"⟩
theorem dL_types_0 : decode cL_types 0 = .ok (.aload_n 2, 1) := by decide +kernel
theorem dL_types_1 : decode cL_types 1 = .ok (.iconst 0, 1) := by decide +kernel
theorem dL_types_2 : decode cL_types 2 = .ok (.aload_n 0, 1) := by decide +kernel
theorem dL_types_3 : decode cL_types 3 = .ok (.iload_n 1, 1) := by decide +kernel
theorem dL_types_4 : decode cL_types 4 = .ok (.invokevirtual 124, 3) := by decide +kernel
theorem dL_types_7 : decode cL_types 7 = .ok (.i2l, 1) := by decide +kernel
theorem dL_types_8 : decode cL_types 8 = .ok (.lastore, 1) := by decide +kernel
theorem dL_types_9 : decode cL_types 9 = .ok (.goto 6, 3) := by decide +kernel
theorem dL_types_12 : decode cL_types 12 = .ok (.astore_n 3, 1) := by decide +kernel
theorem dL_types_13 : decode cL_types 13 = .ok (.iconst 1, 1) := by decide +kernel
theorem dL_types_14 : decode cL_types 14 = .ok (.ireturn, 1) := by decide +kernel
theorem dL_types_15 : decode cL_types 15 = .ok (.iconst 0, 1) := by decide +kernel
theorem dL_types_16 : decode cL_types 16 = .ok (.ireturn, 1) := by decide +kernel
abbrev cL_infer : ByteArray := method_37_code
def yL_infer : MethodName := ⟨RL, "infer", "(LTreequery;I[J)I"⟩
theorem dL_infer_0 : decode cL_infer 0 = .ok (.aload_n 2, 1) := by decide +kernel
theorem dL_infer_1 : decode cL_infer 1 = .ok (.iconst 0, 1) := by decide +kernel
theorem dL_infer_2 : decode cL_infer 2 = .ok (.aload_n 0, 1) := by decide +kernel
theorem dL_infer_3 : decode cL_infer 3 = .ok (.iload_n 1, 1) := by decide +kernel
theorem dL_infer_4 : decode cL_infer 4 = .ok (.invokevirtual 127, 3) := by decide +kernel
theorem dL_infer_7 : decode cL_infer 7 = .ok (.i2l, 1) := by decide +kernel
theorem dL_infer_8 : decode cL_infer 8 = .ok (.lastore, 1) := by decide +kernel
theorem dL_infer_9 : decode cL_infer 9 = .ok (.goto 6, 3) := by decide +kernel
theorem dL_infer_12 : decode cL_infer 12 = .ok (.astore_n 3, 1) := by decide +kernel
theorem dL_infer_13 : decode cL_infer 13 = .ok (.iconst 1, 1) := by decide +kernel
theorem dL_infer_14 : decode cL_infer 14 = .ok (.ireturn, 1) := by decide +kernel
theorem dL_infer_15 : decode cL_infer 15 = .ok (.iconst 0, 1) := by decide +kernel
theorem dL_infer_16 : decode cL_infer 16 = .ok (.ireturn, 1) := by decide +kernel
abbrev cL_index : ByteArray := method_38_code
def yL_index : MethodName := ⟨RL, "index", "(LTreequery;I[J)I"⟩
theorem dL_index_0 : decode cL_index 0 = .ok (.aload_n 2, 1) := by decide +kernel
theorem dL_index_1 : decode cL_index 1 = .ok (.iconst 0, 1) := by decide +kernel
theorem dL_index_2 : decode cL_index 2 = .ok (.aload_n 0, 1) := by decide +kernel
theorem dL_index_3 : decode cL_index 3 = .ok (.iload_n 1, 1) := by decide +kernel
theorem dL_index_4 : decode cL_index 4 = .ok (.invokevirtual 130, 3) := by decide +kernel
theorem dL_index_7 : decode cL_index 7 = .ok (.ifCond .eq 7, 3) := by decide +kernel
theorem dL_index_10 : decode cL_index 10 = .ok (.lconst 1, 1) := by decide +kernel
theorem dL_index_11 : decode cL_index 11 = .ok (.goto 4, 3) := by decide +kernel
theorem dL_index_14 : decode cL_index 14 = .ok (.lconst 0, 1) := by decide +kernel
theorem dL_index_15 : decode cL_index 15 = .ok (.lastore, 1) := by decide +kernel
theorem dL_index_16 : decode cL_index 16 = .ok (.goto 6, 3) := by decide +kernel
theorem dL_index_19 : decode cL_index 19 = .ok (.astore_n 3, 1) := by decide +kernel
theorem dL_index_20 : decode cL_index 20 = .ok (.iconst 1, 1) := by decide +kernel
theorem dL_index_21 : decode cL_index 21 = .ok (.ireturn, 1) := by decide +kernel
theorem dL_index_22 : decode cL_index 22 = .ok (.iconst 0, 1) := by decide +kernel
theorem dL_index_23 : decode cL_index 23 = .ok (.ireturn, 1) := by decide +kernel
abbrev cL_plan : ByteArray := method_39_code
def yL_plan : MethodName := ⟨RL, "plan", "(LTreequery;I[J)I"⟩
theorem dL_plan_0 : decode cL_plan 0 = .ok (.aload_n 2, 1) := by decide +kernel
theorem dL_plan_1 : decode cL_plan 1 = .ok (.iconst 0, 1) := by decide +kernel
theorem dL_plan_2 : decode cL_plan 2 = .ok (.aload_n 0, 1) := by decide +kernel
theorem dL_plan_3 : decode cL_plan 3 = .ok (.iload_n 1, 1) := by decide +kernel
theorem dL_plan_4 : decode cL_plan 4 = .ok (.invokevirtual 134, 3) := by decide +kernel
theorem dL_plan_7 : decode cL_plan 7 = .ok (.i2l, 1) := by decide +kernel
theorem dL_plan_8 : decode cL_plan 8 = .ok (.lastore, 1) := by decide +kernel
theorem dL_plan_9 : decode cL_plan 9 = .ok (.goto 6, 3) := by decide +kernel
theorem dL_plan_12 : decode cL_plan 12 = .ok (.astore_n 3, 1) := by decide +kernel
theorem dL_plan_13 : decode cL_plan 13 = .ok (.iconst 1, 1) := by decide +kernel
theorem dL_plan_14 : decode cL_plan 14 = .ok (.ireturn, 1) := by decide +kernel
theorem dL_plan_15 : decode cL_plan 15 = .ok (.iconst 0, 1) := by decide +kernel
theorem dL_plan_16 : decode cL_plan 16 = .ok (.ireturn, 1) := by decide +kernel
abbrev cL_view : ByteArray := method_40_code
def yL_view : MethodName := ⟨RL, "view", "(LTreequery;I[J)I"⟩
theorem dL_view_0 : decode cL_view 0 = .ok (.aload_n 2, 1) := by decide +kernel
theorem dL_view_1 : decode cL_view 1 = .ok (.iconst 0, 1) := by decide +kernel
theorem dL_view_2 : decode cL_view 2 = .ok (.aload_n 0, 1) := by decide +kernel
theorem dL_view_3 : decode cL_view 3 = .ok (.iload_n 1, 1) := by decide +kernel
theorem dL_view_4 : decode cL_view 4 = .ok (.invokevirtual 137, 3) := by decide +kernel
theorem dL_view_7 : decode cL_view 7 = .ok (.i2l, 1) := by decide +kernel
theorem dL_view_8 : decode cL_view 8 = .ok (.lastore, 1) := by decide +kernel
theorem dL_view_9 : decode cL_view 9 = .ok (.goto 9, 3) := by decide +kernel
theorem dL_view_12 : decode cL_view 12 = .ok (.astore_n 3, 1) := by decide +kernel
theorem dL_view_13 : decode cL_view 13 = .ok (.iconst 1, 1) := by decide +kernel
theorem dL_view_14 : decode cL_view 14 = .ok (.ireturn, 1) := by decide +kernel
theorem dL_view_15 : decode cL_view 15 = .ok (.astore_n 3, 1) := by decide +kernel
theorem dL_view_16 : decode cL_view 16 = .ok (.iconst 2, 1) := by decide +kernel
theorem dL_view_17 : decode cL_view 17 = .ok (.ireturn, 1) := by decide +kernel
theorem dL_view_18 : decode cL_view 18 = .ok (.iconst 0, 1) := by decide +kernel
theorem dL_view_19 : decode cL_view 19 = .ok (.ireturn, 1) := by decide +kernel
abbrev cL_viewed : ByteArray := method_41_code
def yL_viewed : MethodName := ⟨RL, "viewed", "(LTreequery;II[J)I"⟩
theorem dL_viewed_0 : decode cL_viewed 0 = .ok (.aload_n 3, 1) := by decide +kernel
theorem dL_viewed_1 : decode cL_viewed 1 = .ok (.iconst 0, 1) := by decide +kernel
theorem dL_viewed_2 : decode cL_viewed 2 = .ok (.aload_n 0, 1) := by decide +kernel
theorem dL_viewed_3 : decode cL_viewed 3 = .ok (.iload_n 1, 1) := by decide +kernel
theorem dL_viewed_4 : decode cL_viewed 4 = .ok (.iload_n 2, 1) := by decide +kernel
theorem dL_viewed_5 : decode cL_viewed 5 = .ok (.invokevirtual 140, 3) := by decide +kernel
theorem dL_viewed_8 : decode cL_viewed 8 = .ok (.i2l, 1) := by decide +kernel
theorem dL_viewed_9 : decode cL_viewed 9 = .ok (.lastore, 1) := by decide +kernel
theorem dL_viewed_10 : decode cL_viewed 10 = .ok (.goto 7, 3) := by decide +kernel
theorem dL_viewed_13 : decode cL_viewed 13 = .ok (.astore 4, 2) := by decide +kernel
theorem dL_viewed_15 : decode cL_viewed 15 = .ok (.iconst 1, 1) := by decide +kernel
theorem dL_viewed_16 : decode cL_viewed 16 = .ok (.ireturn, 1) := by decide +kernel
theorem dL_viewed_17 : decode cL_viewed 17 = .ok (.iconst 0, 1) := by decide +kernel
theorem dL_viewed_18 : decode cL_viewed 18 = .ok (.ireturn, 1) := by decide +kernel
abbrev cL_changed : ByteArray := method_42_code
def yL_changed : MethodName := ⟨RL, "changed", "(LTreequery;I[J)I"⟩
theorem dL_changed_0 : decode cL_changed 0 = .ok (.aload_n 2, 1) := by decide +kernel
theorem dL_changed_1 : decode cL_changed 1 = .ok (.iconst 0, 1) := by decide +kernel
theorem dL_changed_2 : decode cL_changed 2 = .ok (.aload_n 0, 1) := by decide +kernel
theorem dL_changed_3 : decode cL_changed 3 = .ok (.iload_n 1, 1) := by decide +kernel
theorem dL_changed_4 : decode cL_changed 4 = .ok (.invokevirtual 143, 3) := by decide +kernel
theorem dL_changed_7 : decode cL_changed 7 = .ok (.i2l, 1) := by decide +kernel
theorem dL_changed_8 : decode cL_changed 8 = .ok (.lastore, 1) := by decide +kernel
theorem dL_changed_9 : decode cL_changed 9 = .ok (.goto 6, 3) := by decide +kernel
theorem dL_changed_12 : decode cL_changed 12 = .ok (.astore_n 3, 1) := by decide +kernel
theorem dL_changed_13 : decode cL_changed 13 = .ok (.iconst 1, 1) := by decide +kernel
theorem dL_changed_14 : decode cL_changed 14 = .ok (.ireturn, 1) := by decide +kernel
theorem dL_changed_15 : decode cL_changed 15 = .ok (.iconst 0, 1) := by decide +kernel
theorem dL_changed_16 : decode cL_changed 16 = .ok (.ireturn, 1) := by decide +kernel
abbrev cL_ranked : ByteArray := method_43_code
def yL_ranked : MethodName := ⟨RL, "ranked", "(LTreequery;II[J)I"⟩
theorem dL_ranked_0 : decode cL_ranked 0 = .ok (.aload_n 3, 1) := by decide +kernel
theorem dL_ranked_1 : decode cL_ranked 1 = .ok (.iconst 0, 1) := by decide +kernel
theorem dL_ranked_2 : decode cL_ranked 2 = .ok (.aload_n 0, 1) := by decide +kernel
theorem dL_ranked_3 : decode cL_ranked 3 = .ok (.iload_n 1, 1) := by decide +kernel
theorem dL_ranked_4 : decode cL_ranked 4 = .ok (.iload_n 2, 1) := by decide +kernel
theorem dL_ranked_5 : decode cL_ranked 5 = .ok (.invokevirtual 146, 3) := by decide +kernel
theorem dL_ranked_8 : decode cL_ranked 8 = .ok (.i2l, 1) := by decide +kernel
theorem dL_ranked_9 : decode cL_ranked 9 = .ok (.lastore, 1) := by decide +kernel
theorem dL_ranked_10 : decode cL_ranked 10 = .ok (.goto 11, 3) := by decide +kernel
theorem dL_ranked_13 : decode cL_ranked 13 = .ok (.astore 4, 2) := by decide +kernel
theorem dL_ranked_15 : decode cL_ranked 15 = .ok (.iconst 1, 1) := by decide +kernel
theorem dL_ranked_16 : decode cL_ranked 16 = .ok (.ireturn, 1) := by decide +kernel
theorem dL_ranked_17 : decode cL_ranked 17 = .ok (.astore 4, 2) := by decide +kernel
theorem dL_ranked_19 : decode cL_ranked 19 = .ok (.iconst 2, 1) := by decide +kernel
theorem dL_ranked_20 : decode cL_ranked 20 = .ok (.ireturn, 1) := by decide +kernel
theorem dL_ranked_21 : decode cL_ranked 21 = .ok (.iconst 0, 1) := by decide +kernel
theorem dL_ranked_22 : decode cL_ranked 22 = .ok (.ireturn, 1) := by decide +kernel
abbrev cL_keep : ByteArray := method_44_code
def yL_keep : MethodName := ⟨RL, "keep", "(LTreequery;[J)I"⟩
theorem dL_keep_0 : decode cL_keep 0 = .ok (.aload_n 1, 1) := by decide +kernel
theorem dL_keep_1 : decode cL_keep 1 = .ok (.iconst 0, 1) := by decide +kernel
theorem dL_keep_2 : decode cL_keep 2 = .ok (.aload_n 0, 1) := by decide +kernel
theorem dL_keep_3 : decode cL_keep 3 = .ok (.invokevirtual 149, 3) := by decide +kernel
theorem dL_keep_6 : decode cL_keep 6 = .ok (.i2l, 1) := by decide +kernel
theorem dL_keep_7 : decode cL_keep 7 = .ok (.lastore, 1) := by decide +kernel
theorem dL_keep_8 : decode cL_keep 8 = .ok (.goto 6, 3) := by decide +kernel
theorem dL_keep_11 : decode cL_keep 11 = .ok (.astore_n 2, 1) := by decide +kernel
theorem dL_keep_12 : decode cL_keep 12 = .ok (.iconst 1, 1) := by decide +kernel
theorem dL_keep_13 : decode cL_keep 13 = .ok (.ireturn, 1) := by decide +kernel
theorem dL_keep_14 : decode cL_keep 14 = .ok (.iconst 0, 1) := by decide +kernel
theorem dL_keep_15 : decode cL_keep 15 = .ok (.ireturn, 1) := by decide +kernel
abbrev cL_take : ByteArray := method_45_code
def yL_take : MethodName := ⟨RL, "take", "(LTreequery;I[J)I"⟩
theorem dL_take_0 : decode cL_take 0 = .ok (.aload_n 2, 1) := by decide +kernel
theorem dL_take_1 : decode cL_take 1 = .ok (.iconst 0, 1) := by decide +kernel
theorem dL_take_2 : decode cL_take 2 = .ok (.aload_n 0, 1) := by decide +kernel
theorem dL_take_3 : decode cL_take 3 = .ok (.iload_n 1, 1) := by decide +kernel
theorem dL_take_4 : decode cL_take 4 = .ok (.invokevirtual 152, 3) := by decide +kernel
theorem dL_take_7 : decode cL_take 7 = .ok (.i2l, 1) := by decide +kernel
theorem dL_take_8 : decode cL_take 8 = .ok (.lastore, 1) := by decide +kernel
theorem dL_take_9 : decode cL_take 9 = .ok (.goto 9, 3) := by decide +kernel
theorem dL_take_12 : decode cL_take 12 = .ok (.astore_n 3, 1) := by decide +kernel
theorem dL_take_13 : decode cL_take 13 = .ok (.iconst 1, 1) := by decide +kernel
theorem dL_take_14 : decode cL_take 14 = .ok (.ireturn, 1) := by decide +kernel
theorem dL_take_15 : decode cL_take 15 = .ok (.astore_n 3, 1) := by decide +kernel
theorem dL_take_16 : decode cL_take 16 = .ok (.iconst 2, 1) := by decide +kernel
theorem dL_take_17 : decode cL_take 17 = .ok (.ireturn, 1) := by decide +kernel
theorem dL_take_18 : decode cL_take 18 = .ok (.iconst 0, 1) := by decide +kernel
theorem dL_take_19 : decode cL_take 19 = .ok (.ireturn, 1) := by decide +kernel
abbrev cL_distance : ByteArray := method_46_code
def yL_distance : MethodName := ⟨RL, "distance", "(LTreequery;II[J)I"⟩
theorem dL_distance_0 : decode cL_distance 0 = .ok (.aload_n 3, 1) := by decide +kernel
theorem dL_distance_1 : decode cL_distance 1 = .ok (.iconst 0, 1) := by decide +kernel
theorem dL_distance_2 : decode cL_distance 2 = .ok (.aload_n 0, 1) := by decide +kernel
theorem dL_distance_3 : decode cL_distance 3 = .ok (.iload_n 1, 1) := by decide +kernel
theorem dL_distance_4 : decode cL_distance 4 = .ok (.iload_n 2, 1) := by decide +kernel
theorem dL_distance_5 : decode cL_distance 5 = .ok (.invokevirtual 155, 3) := by decide +kernel
theorem dL_distance_8 : decode cL_distance 8 = .ok (.i2l, 1) := by decide +kernel
theorem dL_distance_9 : decode cL_distance 9 = .ok (.lastore, 1) := by decide +kernel
theorem dL_distance_10 : decode cL_distance 10 = .ok (.goto 7, 3) := by decide +kernel
theorem dL_distance_13 : decode cL_distance 13 = .ok (.astore 4, 2) := by decide +kernel
theorem dL_distance_15 : decode cL_distance 15 = .ok (.iconst 1, 1) := by decide +kernel
theorem dL_distance_16 : decode cL_distance 16 = .ok (.ireturn, 1) := by decide +kernel
theorem dL_distance_17 : decode cL_distance 17 = .ok (.iconst 0, 1) := by decide +kernel
theorem dL_distance_18 : decode cL_distance 18 = .ok (.ireturn, 1) := by decide +kernel
abbrev cL_odds : ByteArray := method_47_code
def yL_odds : MethodName := ⟨RL, "odds", "(LTreequery;III[J)I"⟩
theorem dL_odds_0 : decode cL_odds 0 = .ok (.aload 4, 2) := by decide +kernel
theorem dL_odds_2 : decode cL_odds 2 = .ok (.iconst 0, 1) := by decide +kernel
theorem dL_odds_3 : decode cL_odds 3 = .ok (.aload_n 0, 1) := by decide +kernel
theorem dL_odds_4 : decode cL_odds 4 = .ok (.iload_n 1, 1) := by decide +kernel
theorem dL_odds_5 : decode cL_odds 5 = .ok (.iload_n 2, 1) := by decide +kernel
theorem dL_odds_6 : decode cL_odds 6 = .ok (.iload_n 3, 1) := by decide +kernel
theorem dL_odds_7 : decode cL_odds 7 = .ok (.invokevirtual 158, 3) := by decide +kernel
theorem dL_odds_10 : decode cL_odds 10 = .ok (.i2l, 1) := by decide +kernel
theorem dL_odds_11 : decode cL_odds 11 = .ok (.lastore, 1) := by decide +kernel
theorem dL_odds_12 : decode cL_odds 12 = .ok (.goto 7, 3) := by decide +kernel
theorem dL_odds_15 : decode cL_odds 15 = .ok (.astore 5, 2) := by decide +kernel
theorem dL_odds_17 : decode cL_odds 17 = .ok (.iconst 1, 1) := by decide +kernel
theorem dL_odds_18 : decode cL_odds 18 = .ok (.ireturn, 1) := by decide +kernel
theorem dL_odds_19 : decode cL_odds 19 = .ok (.iconst 0, 1) := by decide +kernel
theorem dL_odds_20 : decode cL_odds 20 = .ok (.ireturn, 1) := by decide +kernel
abbrev cL_hide : ByteArray := method_48_code
def yL_hide : MethodName := ⟨RL, "hide", "(LTreequery;I[J)I"⟩
theorem dL_hide_0 : decode cL_hide 0 = .ok (.aload_n 2, 1) := by decide +kernel
theorem dL_hide_1 : decode cL_hide 1 = .ok (.iconst 0, 1) := by decide +kernel
theorem dL_hide_2 : decode cL_hide 2 = .ok (.aload_n 0, 1) := by decide +kernel
theorem dL_hide_3 : decode cL_hide 3 = .ok (.iload_n 1, 1) := by decide +kernel
theorem dL_hide_4 : decode cL_hide 4 = .ok (.invokevirtual 161, 3) := by decide +kernel
theorem dL_hide_7 : decode cL_hide 7 = .ok (.ifCond .eq 7, 3) := by decide +kernel
theorem dL_hide_10 : decode cL_hide 10 = .ok (.lconst 1, 1) := by decide +kernel
theorem dL_hide_11 : decode cL_hide 11 = .ok (.goto 4, 3) := by decide +kernel
theorem dL_hide_14 : decode cL_hide 14 = .ok (.lconst 0, 1) := by decide +kernel
theorem dL_hide_15 : decode cL_hide 15 = .ok (.lastore, 1) := by decide +kernel
theorem dL_hide_16 : decode cL_hide 16 = .ok (.goto 9, 3) := by decide +kernel
theorem dL_hide_19 : decode cL_hide 19 = .ok (.astore_n 3, 1) := by decide +kernel
theorem dL_hide_20 : decode cL_hide 20 = .ok (.iconst 1, 1) := by decide +kernel
theorem dL_hide_21 : decode cL_hide 21 = .ok (.ireturn, 1) := by decide +kernel
theorem dL_hide_22 : decode cL_hide 22 = .ok (.astore_n 3, 1) := by decide +kernel
theorem dL_hide_23 : decode cL_hide 23 = .ok (.iconst 2, 1) := by decide +kernel
theorem dL_hide_24 : decode cL_hide 24 = .ok (.ireturn, 1) := by decide +kernel
theorem dL_hide_25 : decode cL_hide 25 = .ok (.iconst 0, 1) := by decide +kernel
theorem dL_hide_26 : decode cL_hide 26 = .ok (.ireturn, 1) := by decide +kernel
abbrev cL_isSeen : ByteArray := method_49_code
def yL_isSeen : MethodName := ⟨RL, "isSeen", "(LTreequery;I[J)I"⟩
theorem dL_isSeen_0 : decode cL_isSeen 0 = .ok (.aload_n 2, 1) := by decide +kernel
theorem dL_isSeen_1 : decode cL_isSeen 1 = .ok (.iconst 0, 1) := by decide +kernel
theorem dL_isSeen_2 : decode cL_isSeen 2 = .ok (.aload_n 0, 1) := by decide +kernel
theorem dL_isSeen_3 : decode cL_isSeen 3 = .ok (.iload_n 1, 1) := by decide +kernel
theorem dL_isSeen_4 : decode cL_isSeen 4 = .ok (.invokevirtual 164, 3) := by decide +kernel
theorem dL_isSeen_7 : decode cL_isSeen 7 = .ok (.ifCond .eq 7, 3) := by decide +kernel
theorem dL_isSeen_10 : decode cL_isSeen 10 = .ok (.lconst 1, 1) := by decide +kernel
theorem dL_isSeen_11 : decode cL_isSeen 11 = .ok (.goto 4, 3) := by decide +kernel
theorem dL_isSeen_14 : decode cL_isSeen 14 = .ok (.lconst 0, 1) := by decide +kernel
theorem dL_isSeen_15 : decode cL_isSeen 15 = .ok (.lastore, 1) := by decide +kernel
theorem dL_isSeen_16 : decode cL_isSeen 16 = .ok (.goto 6, 3) := by decide +kernel
theorem dL_isSeen_19 : decode cL_isSeen 19 = .ok (.astore_n 3, 1) := by decide +kernel
theorem dL_isSeen_20 : decode cL_isSeen 20 = .ok (.iconst 1, 1) := by decide +kernel
theorem dL_isSeen_21 : decode cL_isSeen 21 = .ok (.ireturn, 1) := by decide +kernel
theorem dL_isSeen_22 : decode cL_isSeen 22 = .ok (.iconst 0, 1) := by decide +kernel
theorem dL_isSeen_23 : decode cL_isSeen 23 = .ok (.ireturn, 1) := by decide +kernel
theorem tk_RL_7 : Cond.methodLink RL 7 yX10_insertElement ∈ tq_G := tq_g (i := 735) (by decide +kernel) rfl
theorem tk_RL_13 : Cond.classLink RL 13 "java/lang/IndexOutOfBoundsException" ∈ tq_G := tq_g (i := 732) (by decide +kernel) rfl
theorem tk_RL_15 : Cond.classLink RL 15 "java/lang/IllegalArgumentException" ∈ tq_G := tq_g (i := 733) (by decide +kernel) rfl
theorem tk_cast_IllegalStateException : Cond.castable "java/lang/IllegalStateException" "java/lang/IllegalStateException" ∈ tq_B := List.mem_filter.mpr ⟨List.mem_of_getElem? (i := 848) (by decide +kernel), rfl⟩
theorem tk_pass_L_insertElement_2 : ∀ z ∈ ([⟨0, 12, 15, 13⟩, ⟨0, 12, 19, 15⟩] : List ExceptionTableEntry), z.catchType ≠ 0 ∧ ∃ nm : String, Cond.classLink RL z.catchType nm ∈ tq_G ∧ ("java/lang/IllegalStateException", nm) ∈ tq_nc := by
  intro z hz
  simp only [List.mem_cons, List.not_mem_nil, or_false] at hz
  rcases hz with rfl | rfl
  · exact ⟨by decide, _, tk_RL_13, by decide +kernel⟩
  · exact ⟨by decide, _, tk_RL_15, by decide +kernel⟩
theorem tk_y_X10_insertElement : tq_yok yX10_insertElement cX10_insertElement 4 (some .int) 3 := ⟨tq_g (i := 738) (by decide +kernel) rfl, tq_g (i := 120) (by decide +kernel) rfl, ⟨by decide +kernel, by decide +kernel⟩, by decide +kernel, by decide⟩
theorem tk_v_X10_insertElement : tq_vok yX10_insertElement := ⟨tq_g (i := 736) (by decide +kernel) rfl, tq_g (i := 737) (by decide +kernel) rfl⟩
theorem tk_RL_17 : Cond.classLink RL 17 "java/lang/IllegalStateException" ∈ tq_G := tq_g (i := 734) (by decide +kernel) rfl
theorem tk_cast_IllegalArgumentException : Cond.castable "java/lang/IllegalArgumentException" "java/lang/IllegalArgumentException" ∈ tq_B := List.mem_filter.mpr ⟨List.mem_of_getElem? (i := 827) (by decide +kernel), rfl⟩
theorem tk_pass_L_insertElement_1 : ∀ z ∈ ([⟨0, 12, 15, 13⟩] : List ExceptionTableEntry), z.catchType ≠ 0 ∧ ∃ nm : String, Cond.classLink RL z.catchType nm ∈ tq_G ∧ ("java/lang/IllegalArgumentException", nm) ∈ tq_nc := by
  intro z hz
  simp only [List.mem_cons, List.not_mem_nil, or_false] at hz
  rcases hz with rfl
  · exact ⟨by decide, _, tk_RL_13, by decide +kernel⟩
theorem tk_cast_IndexOutOfBoundsException : Cond.castable "java/lang/IndexOutOfBoundsException" "java/lang/IndexOutOfBoundsException" ∈ tq_B := List.mem_filter.mpr ⟨List.mem_of_getElem? (i := 749) (by decide +kernel), rfl⟩
theorem tk_pass_L_insertElement_0 : ∀ z ∈ ([] : List ExceptionTableEntry), z.catchType ≠ 0 ∧ ∃ nm : String, Cond.classLink RL z.catchType nm ∈ tq_G ∧ ("java/lang/IndexOutOfBoundsException", nm) ∈ tq_nc := by
  intro z hz
  cases hz
theorem tk_RL_19 : Cond.methodLink RL 19 yX10_insertText ∈ tq_G := tq_g (i := 883) (by decide +kernel) rfl
theorem tk_pass_L_insertText_2 : ∀ z ∈ ([⟨0, 12, 15, 13⟩, ⟨0, 12, 19, 15⟩] : List ExceptionTableEntry), z.catchType ≠ 0 ∧ ∃ nm : String, Cond.classLink RL z.catchType nm ∈ tq_G ∧ ("java/lang/IllegalStateException", nm) ∈ tq_nc := by
  intro z hz
  simp only [List.mem_cons, List.not_mem_nil, or_false] at hz
  rcases hz with rfl | rfl
  · exact ⟨by decide, _, tk_RL_13, by decide +kernel⟩
  · exact ⟨by decide, _, tk_RL_15, by decide +kernel⟩
theorem tk_y_X10_insertText : tq_yok yX10_insertText cX10_insertText 4 (some .int) 3 := ⟨tq_g (i := 886) (by decide +kernel) rfl, tq_g (i := 120) (by decide +kernel) rfl, ⟨by decide +kernel, by decide +kernel⟩, by decide +kernel, by decide⟩
theorem tk_v_X10_insertText : tq_vok yX10_insertText := ⟨tq_g (i := 884) (by decide +kernel) rfl, tq_g (i := 885) (by decide +kernel) rfl⟩
theorem tk_pass_L_insertText_1 : ∀ z ∈ ([⟨0, 12, 15, 13⟩] : List ExceptionTableEntry), z.catchType ≠ 0 ∧ ∃ nm : String, Cond.classLink RL z.catchType nm ∈ tq_G ∧ ("java/lang/IllegalArgumentException", nm) ∈ tq_nc := by
  intro z hz
  simp only [List.mem_cons, List.not_mem_nil, or_false] at hz
  rcases hz with rfl
  · exact ⟨by decide, _, tk_RL_13, by decide +kernel⟩
theorem tk_pass_L_insertText_0 : ∀ z ∈ ([] : List ExceptionTableEntry), z.catchType ≠ 0 ∧ ∃ nm : String, Cond.classLink RL z.catchType nm ∈ tq_G ∧ ("java/lang/IndexOutOfBoundsException", nm) ∈ tq_nc := by
  intro z hz
  cases hz
theorem tk_RL_22 : Cond.methodLink RL 22 yX10_insertAttribute ∈ tq_G := tq_g (i := 890) (by decide +kernel) rfl
theorem tk_pass_L_insertAttribute_2 : ∀ z ∈ ([⟨0, 12, 15, 13⟩, ⟨0, 12, 19, 15⟩] : List ExceptionTableEntry), z.catchType ≠ 0 ∧ ∃ nm : String, Cond.classLink RL z.catchType nm ∈ tq_G ∧ ("java/lang/IllegalStateException", nm) ∈ tq_nc := by
  intro z hz
  simp only [List.mem_cons, List.not_mem_nil, or_false] at hz
  rcases hz with rfl | rfl
  · exact ⟨by decide, _, tk_RL_13, by decide +kernel⟩
  · exact ⟨by decide, _, tk_RL_15, by decide +kernel⟩
theorem tk_y_X10_insertAttribute : tq_yok yX10_insertAttribute cX10_insertAttribute 4 (some .int) 3 := ⟨tq_g (i := 893) (by decide +kernel) rfl, tq_g (i := 120) (by decide +kernel) rfl, ⟨by decide +kernel, by decide +kernel⟩, by decide +kernel, by decide⟩
theorem tk_v_X10_insertAttribute : tq_vok yX10_insertAttribute := ⟨tq_g (i := 891) (by decide +kernel) rfl, tq_g (i := 892) (by decide +kernel) rfl⟩
theorem tk_pass_L_insertAttribute_1 : ∀ z ∈ ([⟨0, 12, 15, 13⟩] : List ExceptionTableEntry), z.catchType ≠ 0 ∧ ∃ nm : String, Cond.classLink RL z.catchType nm ∈ tq_G ∧ ("java/lang/IllegalArgumentException", nm) ∈ tq_nc := by
  intro z hz
  simp only [List.mem_cons, List.not_mem_nil, or_false] at hz
  rcases hz with rfl
  · exact ⟨by decide, _, tk_RL_13, by decide +kernel⟩
theorem tk_pass_L_insertAttribute_0 : ∀ z ∈ ([] : List ExceptionTableEntry), z.catchType ≠ 0 ∧ ∃ nm : String, Cond.classLink RL z.catchType nm ∈ tq_G ∧ ("java/lang/IndexOutOfBoundsException", nm) ∈ tq_nc := by
  intro z hz
  cases hz
theorem tk_RL_25 : Cond.methodLink RL 25 yX10_remove ∈ tq_G := tq_g (i := 897) (by decide +kernel) rfl
theorem tk_pass_L_remove_1 : ∀ z ∈ ([⟨0, 9, 12, 13⟩] : List ExceptionTableEntry), z.catchType ≠ 0 ∧ ∃ nm : String, Cond.classLink RL z.catchType nm ∈ tq_G ∧ ("java/lang/IllegalStateException", nm) ∈ tq_nc := by
  intro z hz
  simp only [List.mem_cons, List.not_mem_nil, or_false] at hz
  rcases hz with rfl
  · exact ⟨by decide, _, tk_RL_13, by decide +kernel⟩
theorem tk_y_X10_remove : tq_yok yX10_remove cX10_remove 2 (some .int) 1 := ⟨tq_g (i := 900) (by decide +kernel) rfl, tq_g (i := 120) (by decide +kernel) rfl, ⟨by decide +kernel, by decide +kernel⟩, by decide +kernel, by decide⟩
theorem tk_v_X10_remove : tq_vok yX10_remove := ⟨tq_g (i := 898) (by decide +kernel) rfl, tq_g (i := 899) (by decide +kernel) rfl⟩
theorem tk_pass_L_remove_0 : ∀ z ∈ ([] : List ExceptionTableEntry), z.catchType ≠ 0 ∧ ∃ nm : String, Cond.classLink RL z.catchType nm ∈ tq_G ∧ ("java/lang/IndexOutOfBoundsException", nm) ∈ tq_nc := by
  intro z hz
  cases hz
theorem tk_RL_29 : Cond.methodLink RL 29 yX10_rename ∈ tq_G := tq_g (i := 909) (by decide +kernel) rfl
theorem tk_pass_L_rename_2 : ∀ z ∈ ([⟨0, 10, 13, 13⟩, ⟨0, 10, 17, 15⟩] : List ExceptionTableEntry), z.catchType ≠ 0 ∧ ∃ nm : String, Cond.classLink RL z.catchType nm ∈ tq_G ∧ ("java/lang/IllegalStateException", nm) ∈ tq_nc := by
  intro z hz
  simp only [List.mem_cons, List.not_mem_nil, or_false] at hz
  rcases hz with rfl | rfl
  · exact ⟨by decide, _, tk_RL_13, by decide +kernel⟩
  · exact ⟨by decide, _, tk_RL_15, by decide +kernel⟩
theorem tk_y_X10_rename : tq_yok yX10_rename cX10_rename 3 (some .int) 2 := ⟨tq_g (i := 912) (by decide +kernel) rfl, tq_g (i := 120) (by decide +kernel) rfl, ⟨by decide +kernel, by decide +kernel⟩, by decide +kernel, by decide⟩
theorem tk_v_X10_rename : tq_vok yX10_rename := ⟨tq_g (i := 910) (by decide +kernel) rfl, tq_g (i := 911) (by decide +kernel) rfl⟩
theorem tk_pass_L_rename_1 : ∀ z ∈ ([⟨0, 10, 13, 13⟩] : List ExceptionTableEntry), z.catchType ≠ 0 ∧ ∃ nm : String, Cond.classLink RL z.catchType nm ∈ tq_G ∧ ("java/lang/IllegalArgumentException", nm) ∈ tq_nc := by
  intro z hz
  simp only [List.mem_cons, List.not_mem_nil, or_false] at hz
  rcases hz with rfl
  · exact ⟨by decide, _, tk_RL_13, by decide +kernel⟩
theorem tk_pass_L_rename_0 : ∀ z ∈ ([] : List ExceptionTableEntry), z.catchType ≠ 0 ∧ ∃ nm : String, Cond.classLink RL z.catchType nm ∈ tq_G ∧ ("java/lang/IndexOutOfBoundsException", nm) ∈ tq_nc := by
  intro z hz
  cases hz
theorem tk_RL_33 : Cond.methodLink RL 33 yX10_setValue ∈ tq_G := tq_g (i := 917) (by decide +kernel) rfl
theorem tk_pass_L_setValue_2 : ∀ z ∈ ([⟨0, 10, 13, 13⟩, ⟨0, 10, 17, 15⟩] : List ExceptionTableEntry), z.catchType ≠ 0 ∧ ∃ nm : String, Cond.classLink RL z.catchType nm ∈ tq_G ∧ ("java/lang/IllegalStateException", nm) ∈ tq_nc := by
  intro z hz
  simp only [List.mem_cons, List.not_mem_nil, or_false] at hz
  rcases hz with rfl | rfl
  · exact ⟨by decide, _, tk_RL_13, by decide +kernel⟩
  · exact ⟨by decide, _, tk_RL_15, by decide +kernel⟩
theorem tk_y_X10_setValue : tq_yok yX10_setValue cX10_setValue 3 (some .int) 2 := ⟨tq_g (i := 920) (by decide +kernel) rfl, tq_g (i := 120) (by decide +kernel) rfl, ⟨by decide +kernel, by decide +kernel⟩, by decide +kernel, by decide⟩
theorem tk_v_X10_setValue : tq_vok yX10_setValue := ⟨tq_g (i := 918) (by decide +kernel) rfl, tq_g (i := 919) (by decide +kernel) rfl⟩
theorem tk_pass_L_setValue_1 : ∀ z ∈ ([⟨0, 10, 13, 13⟩] : List ExceptionTableEntry), z.catchType ≠ 0 ∧ ∃ nm : String, Cond.classLink RL z.catchType nm ∈ tq_G ∧ ("java/lang/IllegalArgumentException", nm) ∈ tq_nc := by
  intro z hz
  simp only [List.mem_cons, List.not_mem_nil, or_false] at hz
  rcases hz with rfl
  · exact ⟨by decide, _, tk_RL_13, by decide +kernel⟩
theorem tk_pass_L_setValue_0 : ∀ z ∈ ([] : List ExceptionTableEntry), z.catchType ≠ 0 ∧ ∃ nm : String, Cond.classLink RL z.catchType nm ∈ tq_G ∧ ("java/lang/IndexOutOfBoundsException", nm) ∈ tq_nc := by
  intro z hz
  cases hz
theorem tk_RL_36 : Cond.methodLink RL 36 yX10_move ∈ tq_G := tq_g (i := 925) (by decide +kernel) rfl
theorem tk_pass_L_move_1 : ∀ z ∈ ([⟨0, 12, 15, 13⟩] : List ExceptionTableEntry), z.catchType ≠ 0 ∧ ∃ nm : String, Cond.classLink RL z.catchType nm ∈ tq_G ∧ ("java/lang/IllegalStateException", nm) ∈ tq_nc := by
  intro z hz
  simp only [List.mem_cons, List.not_mem_nil, or_false] at hz
  rcases hz with rfl
  · exact ⟨by decide, _, tk_RL_13, by decide +kernel⟩
theorem tk_y_X10_move : tq_yok yX10_move cX10_move 4 (some .int) 3 := ⟨tq_g (i := 928) (by decide +kernel) rfl, tq_g (i := 120) (by decide +kernel) rfl, ⟨by decide +kernel, by decide +kernel⟩, by decide +kernel, by decide⟩
theorem tk_v_X10_move : tq_vok yX10_move := ⟨tq_g (i := 926) (by decide +kernel) rfl, tq_g (i := 927) (by decide +kernel) rfl⟩
theorem tk_pass_L_move_0 : ∀ z ∈ ([] : List ExceptionTableEntry), z.catchType ≠ 0 ∧ ∃ nm : String, Cond.classLink RL z.catchType nm ∈ tq_G ∧ ("java/lang/IndexOutOfBoundsException", nm) ∈ tq_nc := by
  intro z hz
  cases hz
theorem tk_RL_39 : Cond.methodLink RL 39 yX10_declare ∈ tq_G := tq_g (i := 937) (by decide +kernel) rfl
theorem tk_pass_L_declare_2 : ∀ z ∈ ([⟨0, 10, 13, 13⟩, ⟨0, 10, 17, 15⟩] : List ExceptionTableEntry), z.catchType ≠ 0 ∧ ∃ nm : String, Cond.classLink RL z.catchType nm ∈ tq_G ∧ ("java/lang/IllegalStateException", nm) ∈ tq_nc := by
  intro z hz
  simp only [List.mem_cons, List.not_mem_nil, or_false] at hz
  rcases hz with rfl | rfl
  · exact ⟨by decide, _, tk_RL_13, by decide +kernel⟩
  · exact ⟨by decide, _, tk_RL_15, by decide +kernel⟩
theorem tk_y_X10_declare : tq_yok yX10_declare cX10_declare 3 (some .int) 2 := ⟨tq_g (i := 940) (by decide +kernel) rfl, tq_g (i := 120) (by decide +kernel) rfl, ⟨by decide +kernel, by decide +kernel⟩, by decide +kernel, by decide⟩
theorem tk_v_X10_declare : tq_vok yX10_declare := ⟨tq_g (i := 938) (by decide +kernel) rfl, tq_g (i := 939) (by decide +kernel) rfl⟩
theorem tk_pass_L_declare_1 : ∀ z ∈ ([⟨0, 10, 13, 13⟩] : List ExceptionTableEntry), z.catchType ≠ 0 ∧ ∃ nm : String, Cond.classLink RL z.catchType nm ∈ tq_G ∧ ("java/lang/IllegalArgumentException", nm) ∈ tq_nc := by
  intro z hz
  simp only [List.mem_cons, List.not_mem_nil, or_false] at hz
  rcases hz with rfl
  · exact ⟨by decide, _, tk_RL_13, by decide +kernel⟩
theorem tk_pass_L_declare_0 : ∀ z ∈ ([] : List ExceptionTableEntry), z.catchType ≠ 0 ∧ ∃ nm : String, Cond.classLink RL z.catchType nm ∈ tq_G ∧ ("java/lang/IndexOutOfBoundsException", nm) ∈ tq_nc := by
  intro z hz
  cases hz
theorem tk_RL_42 : Cond.methodLink RL 42 yX10_apply ∈ tq_G := tq_g (i := 944) (by decide +kernel) rfl
theorem tk_pass_L_apply_0 : ∀ z ∈ ([] : List ExceptionTableEntry), z.catchType ≠ 0 ∧ ∃ nm : String, Cond.classLink RL z.catchType nm ∈ tq_G ∧ ("java/lang/IllegalStateException", nm) ∈ tq_nc := by
  intro z hz
  cases hz
theorem tk_y_X10_apply : tq_yok yX10_apply cX10_apply 1 (some .int) 0 := ⟨tq_g (i := 947) (by decide +kernel) rfl, tq_g (i := 120) (by decide +kernel) rfl, ⟨by decide +kernel, by decide +kernel⟩, by decide +kernel, by decide⟩
theorem tk_v_X10_apply : tq_vok yX10_apply := ⟨tq_g (i := 945) (by decide +kernel) rfl, tq_g (i := 946) (by decide +kernel) rfl⟩
theorem tk_RL_46 : Cond.methodLink RL 46 yX10_kind ∈ tq_G := tq_g (i := 1185) (by decide +kernel) rfl
theorem tk_pass_L_kind_0 : ∀ z ∈ ([] : List ExceptionTableEntry), z.catchType ≠ 0 ∧ ∃ nm : String, Cond.classLink RL z.catchType nm ∈ tq_G ∧ ("java/lang/IndexOutOfBoundsException", nm) ∈ tq_nc := by
  intro z hz
  cases hz
theorem tk_y_X10_kind : tq_yok yX10_kind cX10_kind 2 (some .int) 1 := ⟨tq_g (i := 1188) (by decide +kernel) rfl, tq_g (i := 120) (by decide +kernel) rfl, ⟨by decide +kernel, by decide +kernel⟩, by decide +kernel, by decide⟩
theorem tk_v_X10_kind : tq_vok yX10_kind := ⟨tq_g (i := 1186) (by decide +kernel) rfl, tq_g (i := 1187) (by decide +kernel) rfl⟩
theorem tk_RL_49 : Cond.methodLink RL 49 yX10_name ∈ tq_G := tq_g (i := 1192) (by decide +kernel) rfl
theorem tk_pass_L_name_0 : ∀ z ∈ ([] : List ExceptionTableEntry), z.catchType ≠ 0 ∧ ∃ nm : String, Cond.classLink RL z.catchType nm ∈ tq_G ∧ ("java/lang/IndexOutOfBoundsException", nm) ∈ tq_nc := by
  intro z hz
  cases hz
theorem tk_y_X10_name : tq_yok yX10_name cX10_name 2 (some .int) 1 := ⟨tq_g (i := 1195) (by decide +kernel) rfl, tq_g (i := 120) (by decide +kernel) rfl, ⟨by decide +kernel, by decide +kernel⟩, by decide +kernel, by decide⟩
theorem tk_v_X10_name : tq_vok yX10_name := ⟨tq_g (i := 1193) (by decide +kernel) rfl, tq_g (i := 1194) (by decide +kernel) rfl⟩
theorem tk_RL_52 : Cond.methodLink RL 52 yX10_value ∈ tq_G := tq_g (i := 1199) (by decide +kernel) rfl
theorem tk_pass_L_value_0 : ∀ z ∈ ([] : List ExceptionTableEntry), z.catchType ≠ 0 ∧ ∃ nm : String, Cond.classLink RL z.catchType nm ∈ tq_G ∧ ("java/lang/IndexOutOfBoundsException", nm) ∈ tq_nc := by
  intro z hz
  cases hz
theorem tk_y_X10_value : tq_yok yX10_value cX10_value 2 (some .int) 1 := ⟨tq_g (i := 1202) (by decide +kernel) rfl, tq_g (i := 120) (by decide +kernel) rfl, ⟨by decide +kernel, by decide +kernel⟩, by decide +kernel, by decide⟩
theorem tk_v_X10_value : tq_vok yX10_value := ⟨tq_g (i := 1200) (by decide +kernel) rfl, tq_g (i := 1201) (by decide +kernel) rfl⟩
theorem tk_RL_55 : Cond.methodLink RL 55 yX10_parent ∈ tq_G := tq_g (i := 1208) (by decide +kernel) rfl
theorem tk_pass_L_parent_0 : ∀ z ∈ ([] : List ExceptionTableEntry), z.catchType ≠ 0 ∧ ∃ nm : String, Cond.classLink RL z.catchType nm ∈ tq_G ∧ ("java/lang/IndexOutOfBoundsException", nm) ∈ tq_nc := by
  intro z hz
  cases hz
theorem tk_y_X10_parent : tq_yok yX10_parent cX10_parent 2 (some .int) 1 := ⟨tq_g (i := 1211) (by decide +kernel) rfl, tq_g (i := 120) (by decide +kernel) rfl, ⟨by decide +kernel, by decide +kernel⟩, by decide +kernel, by decide⟩
theorem tk_v_X10_parent : tq_vok yX10_parent := ⟨tq_g (i := 1209) (by decide +kernel) rfl, tq_g (i := 1210) (by decide +kernel) rfl⟩
theorem tk_RL_58 : Cond.methodLink RL 58 yX10_child ∈ tq_G := tq_g (i := 1215) (by decide +kernel) rfl
theorem tk_pass_L_child_0 : ∀ z ∈ ([] : List ExceptionTableEntry), z.catchType ≠ 0 ∧ ∃ nm : String, Cond.classLink RL z.catchType nm ∈ tq_G ∧ ("java/lang/IndexOutOfBoundsException", nm) ∈ tq_nc := by
  intro z hz
  cases hz
theorem tk_y_X10_child : tq_yok yX10_child cX10_child 3 (some .int) 2 := ⟨tq_g (i := 1218) (by decide +kernel) rfl, tq_g (i := 120) (by decide +kernel) rfl, ⟨by decide +kernel, by decide +kernel⟩, by decide +kernel, by decide⟩
theorem tk_v_X10_child : tq_vok yX10_child := ⟨tq_g (i := 1216) (by decide +kernel) rfl, tq_g (i := 1217) (by decide +kernel) rfl⟩
theorem tk_RL_61 : Cond.methodLink RL 61 yX10_space ∈ tq_G := tq_g (i := 1229) (by decide +kernel) rfl
theorem tk_pass_L_space_0 : ∀ z ∈ ([] : List ExceptionTableEntry), z.catchType ≠ 0 ∧ ∃ nm : String, Cond.classLink RL z.catchType nm ∈ tq_G ∧ ("java/lang/IndexOutOfBoundsException", nm) ∈ tq_nc := by
  intro z hz
  cases hz
theorem tk_y_X10_space : tq_yok yX10_space cX10_space 2 (some .int) 1 := ⟨tq_g (i := 1232) (by decide +kernel) rfl, tq_g (i := 120) (by decide +kernel) rfl, ⟨by decide +kernel, by decide +kernel⟩, by decide +kernel, by decide⟩
theorem tk_v_X10_space : tq_vok yX10_space := ⟨tq_g (i := 1230) (by decide +kernel) rfl, tq_g (i := 1231) (by decide +kernel) rfl⟩
theorem tk_RL_64 : Cond.methodLink RL 64 yX10_number ∈ tq_G := tq_g (i := 1240) (by decide +kernel) rfl
theorem tk_pass_L_number_0 : ∀ z ∈ ([] : List ExceptionTableEntry), z.catchType ≠ 0 ∧ ∃ nm : String, Cond.classLink RL z.catchType nm ∈ tq_G ∧ ("java/lang/IndexOutOfBoundsException", nm) ∈ tq_nc := by
  intro z hz
  cases hz
theorem tk_y_X10_number : tq_yok yX10_number cX10_number 2 (some .int) 1 := ⟨tq_g (i := 1243) (by decide +kernel) rfl, tq_g (i := 120) (by decide +kernel) rfl, ⟨by decide +kernel, by decide +kernel⟩, by decide +kernel, by decide⟩
theorem tk_v_X10_number : tq_vok yX10_number := ⟨tq_g (i := 1241) (by decide +kernel) rfl, tq_g (i := 1242) (by decide +kernel) rfl⟩
theorem tk_RL_67 : Cond.methodLink RL 67 yX10_path ∈ tq_G := tq_g (i := 1247) (by decide +kernel) rfl
theorem tk_pass_L_path_0 : ∀ z ∈ ([] : List ExceptionTableEntry), z.catchType ≠ 0 ∧ ∃ nm : String, Cond.classLink RL z.catchType nm ∈ tq_G ∧ ("java/lang/IllegalStateException", nm) ∈ tq_nc := by
  intro z hz
  cases hz
theorem tk_y_X10_path : tq_yok yX10_path cX10_path 1 (some .int) 0 := ⟨tq_g (i := 1250) (by decide +kernel) rfl, tq_g (i := 120) (by decide +kernel) rfl, ⟨by decide +kernel, by decide +kernel⟩, by decide +kernel, by decide⟩
theorem tk_v_X10_path : tq_vok yX10_path := ⟨tq_g (i := 1248) (by decide +kernel) rfl, tq_g (i := 1249) (by decide +kernel) rfl⟩
theorem tk_RL_70 : Cond.methodLink RL 70 yX10_step ∈ tq_G := tq_g (i := 1259) (by decide +kernel) rfl
theorem tk_pass_L_step_2 : ∀ z ∈ ([⟨0, 14, 17, 13⟩, ⟨0, 14, 21, 15⟩] : List ExceptionTableEntry), z.catchType ≠ 0 ∧ ∃ nm : String, Cond.classLink RL z.catchType nm ∈ tq_G ∧ ("java/lang/IllegalStateException", nm) ∈ tq_nc := by
  intro z hz
  simp only [List.mem_cons, List.not_mem_nil, or_false] at hz
  rcases hz with rfl | rfl
  · exact ⟨by decide, _, tk_RL_13, by decide +kernel⟩
  · exact ⟨by decide, _, tk_RL_15, by decide +kernel⟩
theorem tk_y_X10_step : tq_yok yX10_step cX10_step 5 (some .int) 4 := ⟨tq_g (i := 1262) (by decide +kernel) rfl, tq_g (i := 120) (by decide +kernel) rfl, ⟨by decide +kernel, by decide +kernel⟩, by decide +kernel, by decide⟩
theorem tk_v_X10_step : tq_vok yX10_step := ⟨tq_g (i := 1260) (by decide +kernel) rfl, tq_g (i := 1261) (by decide +kernel) rfl⟩
theorem tk_pass_L_step_1 : ∀ z ∈ ([⟨0, 14, 17, 13⟩] : List ExceptionTableEntry), z.catchType ≠ 0 ∧ ∃ nm : String, Cond.classLink RL z.catchType nm ∈ tq_G ∧ ("java/lang/IllegalArgumentException", nm) ∈ tq_nc := by
  intro z hz
  simp only [List.mem_cons, List.not_mem_nil, or_false] at hz
  rcases hz with rfl
  · exact ⟨by decide, _, tk_RL_13, by decide +kernel⟩
theorem tk_pass_L_step_0 : ∀ z ∈ ([] : List ExceptionTableEntry), z.catchType ≠ 0 ∧ ∃ nm : String, Cond.classLink RL z.catchType nm ∈ tq_G ∧ ("java/lang/IndexOutOfBoundsException", nm) ∈ tq_nc := by
  intro z hz
  cases hz
theorem tk_RL_74 : Cond.methodLink RL 74 yX10_place ∈ tq_G := tq_g (i := 1301) (by decide +kernel) rfl
theorem tk_pass_L_place_2 : ∀ z ∈ ([⟨0, 12, 15, 13⟩, ⟨0, 12, 19, 15⟩] : List ExceptionTableEntry), z.catchType ≠ 0 ∧ ∃ nm : String, Cond.classLink RL z.catchType nm ∈ tq_G ∧ ("java/lang/IllegalStateException", nm) ∈ tq_nc := by
  intro z hz
  simp only [List.mem_cons, List.not_mem_nil, or_false] at hz
  rcases hz with rfl | rfl
  · exact ⟨by decide, _, tk_RL_13, by decide +kernel⟩
  · exact ⟨by decide, _, tk_RL_15, by decide +kernel⟩
theorem tk_y_X10_place : tq_yok yX10_place cX10_place 4 (some .int) 3 := ⟨tq_g (i := 1304) (by decide +kernel) rfl, tq_g (i := 120) (by decide +kernel) rfl, ⟨by decide +kernel, by decide +kernel⟩, by decide +kernel, by decide⟩
theorem tk_v_X10_place : tq_vok yX10_place := ⟨tq_g (i := 1302) (by decide +kernel) rfl, tq_g (i := 1303) (by decide +kernel) rfl⟩
theorem tk_pass_L_place_1 : ∀ z ∈ ([⟨0, 12, 15, 13⟩] : List ExceptionTableEntry), z.catchType ≠ 0 ∧ ∃ nm : String, Cond.classLink RL z.catchType nm ∈ tq_G ∧ ("java/lang/IllegalArgumentException", nm) ∈ tq_nc := by
  intro z hz
  simp only [List.mem_cons, List.not_mem_nil, or_false] at hz
  rcases hz with rfl
  · exact ⟨by decide, _, tk_RL_13, by decide +kernel⟩
theorem tk_pass_L_place_0 : ∀ z ∈ ([] : List ExceptionTableEntry), z.catchType ≠ 0 ∧ ∃ nm : String, Cond.classLink RL z.catchType nm ∈ tq_G ∧ ("java/lang/IndexOutOfBoundsException", nm) ∈ tq_nc := by
  intro z hz
  cases hz
theorem tk_RL_77 : Cond.methodLink RL 77 yX10_last ∈ tq_G := tq_g (i := 1323) (by decide +kernel) rfl
theorem tk_pass_L_last_1 : ∀ z ∈ ([⟨0, 9, 12, 13⟩] : List ExceptionTableEntry), z.catchType ≠ 0 ∧ ∃ nm : String, Cond.classLink RL z.catchType nm ∈ tq_G ∧ ("java/lang/IllegalStateException", nm) ∈ tq_nc := by
  intro z hz
  simp only [List.mem_cons, List.not_mem_nil, or_false] at hz
  rcases hz with rfl
  · exact ⟨by decide, _, tk_RL_13, by decide +kernel⟩
theorem tk_y_X10_last : tq_yok yX10_last cX10_last 2 (some .int) 1 := ⟨tq_g (i := 1326) (by decide +kernel) rfl, tq_g (i := 120) (by decide +kernel) rfl, ⟨by decide +kernel, by decide +kernel⟩, by decide +kernel, by decide⟩
theorem tk_v_X10_last : tq_vok yX10_last := ⟨tq_g (i := 1324) (by decide +kernel) rfl, tq_g (i := 1325) (by decide +kernel) rfl⟩
theorem tk_pass_L_last_0 : ∀ z ∈ ([] : List ExceptionTableEntry), z.catchType ≠ 0 ∧ ∃ nm : String, Cond.classLink RL z.catchType nm ∈ tq_G ∧ ("java/lang/IndexOutOfBoundsException", nm) ∈ tq_nc := by
  intro z hz
  cases hz
theorem tk_RL_80 : Cond.methodLink RL 80 yX10_has ∈ tq_G := tq_g (i := 1330) (by decide +kernel) rfl
theorem tk_pass_L_has_1 : ∀ z ∈ ([⟨0, 12, 15, 13⟩] : List ExceptionTableEntry), z.catchType ≠ 0 ∧ ∃ nm : String, Cond.classLink RL z.catchType nm ∈ tq_G ∧ ("java/lang/IllegalStateException", nm) ∈ tq_nc := by
  intro z hz
  simp only [List.mem_cons, List.not_mem_nil, or_false] at hz
  rcases hz with rfl
  · exact ⟨by decide, _, tk_RL_13, by decide +kernel⟩
theorem tk_y_X10_has : tq_yok yX10_has cX10_has 4 (some .int) 3 := ⟨tq_g (i := 1333) (by decide +kernel) rfl, tq_g (i := 120) (by decide +kernel) rfl, ⟨by decide +kernel, by decide +kernel⟩, by decide +kernel, by decide⟩
theorem tk_v_X10_has : tq_vok yX10_has := ⟨tq_g (i := 1331) (by decide +kernel) rfl, tq_g (i := 1332) (by decide +kernel) rfl⟩
theorem tk_pass_L_has_0 : ∀ z ∈ ([] : List ExceptionTableEntry), z.catchType ≠ 0 ∧ ∃ nm : String, Cond.classLink RL z.catchType nm ∈ tq_G ∧ ("java/lang/IndexOutOfBoundsException", nm) ∈ tq_nc := by
  intro z hz
  cases hz
theorem tk_RL_84 : Cond.methodLink RL 84 yX10_worth ∈ tq_G := tq_g (i := 1337) (by decide +kernel) rfl
theorem tk_pass_L_worth_2 : ∀ z ∈ ([⟨0, 14, 17, 13⟩, ⟨0, 14, 21, 15⟩] : List ExceptionTableEntry), z.catchType ≠ 0 ∧ ∃ nm : String, Cond.classLink RL z.catchType nm ∈ tq_G ∧ ("java/lang/IllegalStateException", nm) ∈ tq_nc := by
  intro z hz
  simp only [List.mem_cons, List.not_mem_nil, or_false] at hz
  rcases hz with rfl | rfl
  · exact ⟨by decide, _, tk_RL_13, by decide +kernel⟩
  · exact ⟨by decide, _, tk_RL_15, by decide +kernel⟩
theorem tk_y_X10_worth : tq_yok yX10_worth cX10_worth 5 (some .int) 4 := ⟨tq_g (i := 1340) (by decide +kernel) rfl, tq_g (i := 120) (by decide +kernel) rfl, ⟨by decide +kernel, by decide +kernel⟩, by decide +kernel, by decide⟩
theorem tk_v_X10_worth : tq_vok yX10_worth := ⟨tq_g (i := 1338) (by decide +kernel) rfl, tq_g (i := 1339) (by decide +kernel) rfl⟩
theorem tk_pass_L_worth_1 : ∀ z ∈ ([⟨0, 14, 17, 13⟩] : List ExceptionTableEntry), z.catchType ≠ 0 ∧ ∃ nm : String, Cond.classLink RL z.catchType nm ∈ tq_G ∧ ("java/lang/IllegalArgumentException", nm) ∈ tq_nc := by
  intro z hz
  simp only [List.mem_cons, List.not_mem_nil, or_false] at hz
  rcases hz with rfl
  · exact ⟨by decide, _, tk_RL_13, by decide +kernel⟩
theorem tk_pass_L_worth_0 : ∀ z ∈ ([] : List ExceptionTableEntry), z.catchType ≠ 0 ∧ ∃ nm : String, Cond.classLink RL z.catchType nm ∈ tq_G ∧ ("java/lang/IndexOutOfBoundsException", nm) ∈ tq_nc := by
  intro z hz
  cases hz
theorem tk_RL_87 : Cond.methodLink RL 87 yX10_found ∈ tq_G := tq_g (i := 1344) (by decide +kernel) rfl
theorem tk_pass_L_found_0 : ∀ z ∈ ([] : List ExceptionTableEntry), z.catchType ≠ 0 ∧ ∃ nm : String, Cond.classLink RL z.catchType nm ∈ tq_G ∧ ("java/lang/IndexOutOfBoundsException", nm) ∈ tq_nc := by
  intro z hz
  cases hz
theorem tk_y_X10_found : tq_yok yX10_found cX10_found 4 (some .int) 2 := ⟨tq_g (i := 1347) (by decide +kernel) rfl, tq_g (i := 120) (by decide +kernel) rfl, ⟨by decide +kernel, by decide +kernel⟩, by decide +kernel, by decide⟩
theorem tk_v_X10_found : tq_vok yX10_found := ⟨tq_g (i := 1345) (by decide +kernel) rfl, tq_g (i := 1346) (by decide +kernel) rfl⟩
theorem tk_RL_90 : Cond.methodLink RL 90 yX10_foundAnew ∈ tq_G := tq_g (i := 1368) (by decide +kernel) rfl
theorem tk_pass_L_foundAnew_0 : ∀ z ∈ ([] : List ExceptionTableEntry), z.catchType ≠ 0 ∧ ∃ nm : String, Cond.classLink RL z.catchType nm ∈ tq_G ∧ ("java/lang/IndexOutOfBoundsException", nm) ∈ tq_nc := by
  intro z hz
  cases hz
theorem tk_y_X10_foundAnew : tq_yok yX10_foundAnew cX10_foundAnew 8 (some .int) 2 := ⟨tq_g (i := 1371) (by decide +kernel) rfl, tq_g (i := 120) (by decide +kernel) rfl, ⟨by decide +kernel, by decide +kernel⟩, by decide +kernel, by decide⟩
theorem tk_v_X10_foundAnew : tq_vok yX10_foundAnew := ⟨tq_g (i := 1369) (by decide +kernel) rfl, tq_g (i := 1370) (by decide +kernel) rfl⟩
theorem tk_RL_93 : Cond.methodLink RL 93 yX10_foundAt ∈ tq_G := tq_g (i := 1375) (by decide +kernel) rfl
theorem tk_pass_L_foundAt_0 : ∀ z ∈ ([] : List ExceptionTableEntry), z.catchType ≠ 0 ∧ ∃ nm : String, Cond.classLink RL z.catchType nm ∈ tq_G ∧ ("java/lang/IndexOutOfBoundsException", nm) ∈ tq_nc := by
  intro z hz
  cases hz
theorem tk_y_X10_foundAt : tq_yok yX10_foundAt cX10_foundAt 6 (some .int) 2 := ⟨tq_g (i := 1378) (by decide +kernel) rfl, tq_g (i := 120) (by decide +kernel) rfl, ⟨by decide +kernel, by decide +kernel⟩, by decide +kernel, by decide⟩
theorem tk_v_X10_foundAt : tq_vok yX10_foundAt := ⟨tq_g (i := 1376) (by decide +kernel) rfl, tq_g (i := 1377) (by decide +kernel) rfl⟩
theorem tk_RL_96 : Cond.methodLink RL 96 yX10_ordered ∈ tq_G := tq_g (i := 1387) (by decide +kernel) rfl
theorem tk_pass_L_ordered_0 : ∀ z ∈ ([] : List ExceptionTableEntry), z.catchType ≠ 0 ∧ ∃ nm : String, Cond.classLink RL z.catchType nm ∈ tq_G ∧ ("java/lang/IndexOutOfBoundsException", nm) ∈ tq_nc := by
  intro z hz
  cases hz
theorem tk_y_X10_ordered : tq_yok yX10_ordered cX10_ordered 4 (some .int) 2 := ⟨tq_g (i := 1390) (by decide +kernel) rfl, tq_g (i := 120) (by decide +kernel) rfl, ⟨by decide +kernel, by decide +kernel⟩, by decide +kernel, by decide⟩
theorem tk_v_X10_ordered : tq_vok yX10_ordered := ⟨tq_g (i := 1388) (by decide +kernel) rfl, tq_g (i := 1389) (by decide +kernel) rfl⟩
theorem tk_RL_99 : Cond.methodLink RL 99 yX10_groups ∈ tq_G := tq_g (i := 1405) (by decide +kernel) rfl
theorem tk_pass_L_groups_0 : ∀ z ∈ ([] : List ExceptionTableEntry), z.catchType ≠ 0 ∧ ∃ nm : String, Cond.classLink RL z.catchType nm ∈ tq_G ∧ ("java/lang/IndexOutOfBoundsException", nm) ∈ tq_nc := by
  intro z hz
  cases hz
theorem tk_y_X10_groups : tq_yok yX10_groups cX10_groups 3 (some .int) 1 := ⟨tq_g (i := 1408) (by decide +kernel) rfl, tq_g (i := 120) (by decide +kernel) rfl, ⟨by decide +kernel, by decide +kernel⟩, by decide +kernel, by decide⟩
theorem tk_v_X10_groups : tq_vok yX10_groups := ⟨tq_g (i := 1406) (by decide +kernel) rfl, tq_g (i := 1407) (by decide +kernel) rfl⟩
theorem tk_RL_102 : Cond.methodLink RL 102 yX10_nameType ∈ tq_G := tq_g (i := 1420) (by decide +kernel) rfl
theorem tk_pass_L_nameType_2 : ∀ z ∈ ([⟨0, 10, 13, 13⟩, ⟨0, 10, 17, 15⟩] : List ExceptionTableEntry), z.catchType ≠ 0 ∧ ∃ nm : String, Cond.classLink RL z.catchType nm ∈ tq_G ∧ ("java/lang/IllegalStateException", nm) ∈ tq_nc := by
  intro z hz
  simp only [List.mem_cons, List.not_mem_nil, or_false] at hz
  rcases hz with rfl | rfl
  · exact ⟨by decide, _, tk_RL_13, by decide +kernel⟩
  · exact ⟨by decide, _, tk_RL_15, by decide +kernel⟩
theorem tk_y_X10_nameType : tq_yok yX10_nameType cX10_nameType 3 (some .int) 2 := ⟨tq_g (i := 1423) (by decide +kernel) rfl, tq_g (i := 120) (by decide +kernel) rfl, ⟨by decide +kernel, by decide +kernel⟩, by decide +kernel, by decide⟩
theorem tk_v_X10_nameType : tq_vok yX10_nameType := ⟨tq_g (i := 1421) (by decide +kernel) rfl, tq_g (i := 1422) (by decide +kernel) rfl⟩
theorem tk_pass_L_nameType_1 : ∀ z ∈ ([⟨0, 10, 13, 13⟩] : List ExceptionTableEntry), z.catchType ≠ 0 ∧ ∃ nm : String, Cond.classLink RL z.catchType nm ∈ tq_G ∧ ("java/lang/IllegalArgumentException", nm) ∈ tq_nc := by
  intro z hz
  simp only [List.mem_cons, List.not_mem_nil, or_false] at hz
  rcases hz with rfl
  · exact ⟨by decide, _, tk_RL_13, by decide +kernel⟩
theorem tk_pass_L_nameType_0 : ∀ z ∈ ([] : List ExceptionTableEntry), z.catchType ≠ 0 ∧ ∃ nm : String, Cond.classLink RL z.catchType nm ∈ tq_G ∧ ("java/lang/IndexOutOfBoundsException", nm) ∈ tq_nc := by
  intro z hz
  cases hz
theorem tk_RL_105 : Cond.methodLink RL 105 yX10_arc ∈ tq_G := tq_g (i := 1441) (by decide +kernel) rfl
theorem tk_pass_L_arc_1 : ∀ z ∈ ([⟨0, 21, 24, 13⟩] : List ExceptionTableEntry), z.catchType ≠ 0 ∧ ∃ nm : String, Cond.classLink RL z.catchType nm ∈ tq_G ∧ ("java/lang/IllegalStateException", nm) ∈ tq_nc := by
  intro z hz
  simp only [List.mem_cons, List.not_mem_nil, or_false] at hz
  rcases hz with rfl
  · exact ⟨by decide, _, tk_RL_13, by decide +kernel⟩
theorem tk_y_X10_arc : tq_yok yX10_arc cX10_arc 5 (some .boolean) 4 := ⟨tq_g (i := 1444) (by decide +kernel) rfl, tq_g (i := 120) (by decide +kernel) rfl, ⟨by decide +kernel, by decide +kernel⟩, by decide +kernel, by decide⟩
theorem tk_v_X10_arc : tq_vok yX10_arc := ⟨tq_g (i := 1442) (by decide +kernel) rfl, tq_g (i := 1443) (by decide +kernel) rfl⟩
theorem tk_pass_L_arc_0 : ∀ z ∈ ([] : List ExceptionTableEntry), z.catchType ≠ 0 ∧ ∃ nm : String, Cond.classLink RL z.catchType nm ∈ tq_G ∧ ("java/lang/IndexOutOfBoundsException", nm) ∈ tq_nc := by
  intro z hz
  cases hz
theorem tk_RL_109 : Cond.methodLink RL 109 yX10_setFinal ∈ tq_G := tq_g (i := 1452) (by decide +kernel) rfl
theorem tk_pass_L_setFinal_1 : ∀ z ∈ ([⟨0, 19, 22, 13⟩] : List ExceptionTableEntry), z.catchType ≠ 0 ∧ ∃ nm : String, Cond.classLink RL z.catchType nm ∈ tq_G ∧ ("java/lang/IllegalStateException", nm) ∈ tq_nc := by
  intro z hz
  simp only [List.mem_cons, List.not_mem_nil, or_false] at hz
  rcases hz with rfl
  · exact ⟨by decide, _, tk_RL_13, by decide +kernel⟩
theorem tk_y_X10_setFinal : tq_yok yX10_setFinal cX10_setFinal 4 (some .boolean) 3 := ⟨tq_g (i := 1455) (by decide +kernel) rfl, tq_g (i := 120) (by decide +kernel) rfl, ⟨by decide +kernel, by decide +kernel⟩, by decide +kernel, by decide⟩
theorem tk_v_X10_setFinal : tq_vok yX10_setFinal := ⟨tq_g (i := 1453) (by decide +kernel) rfl, tq_g (i := 1454) (by decide +kernel) rfl⟩
theorem tk_pass_L_setFinal_0 : ∀ z ∈ ([] : List ExceptionTableEntry), z.catchType ≠ 0 ∧ ∃ nm : String, Cond.classLink RL z.catchType nm ∈ tq_G ∧ ("java/lang/IndexOutOfBoundsException", nm) ∈ tq_nc := by
  intro z hz
  cases hz
theorem tk_RL_113 : Cond.methodLink RL 113 yX10_allowTexts ∈ tq_G := tq_g (i := 1463) (by decide +kernel) rfl
theorem tk_pass_L_allowTexts_1 : ∀ z ∈ ([⟨0, 17, 20, 13⟩] : List ExceptionTableEntry), z.catchType ≠ 0 ∧ ∃ nm : String, Cond.classLink RL z.catchType nm ∈ tq_G ∧ ("java/lang/IllegalStateException", nm) ∈ tq_nc := by
  intro z hz
  simp only [List.mem_cons, List.not_mem_nil, or_false] at hz
  rcases hz with rfl
  · exact ⟨by decide, _, tk_RL_13, by decide +kernel⟩
theorem tk_y_X10_allowTexts : tq_yok yX10_allowTexts cX10_allowTexts 3 (some .boolean) 2 := ⟨tq_g (i := 1466) (by decide +kernel) rfl, tq_g (i := 120) (by decide +kernel) rfl, ⟨by decide +kernel, by decide +kernel⟩, by decide +kernel, by decide⟩
theorem tk_v_X10_allowTexts : tq_vok yX10_allowTexts := ⟨tq_g (i := 1464) (by decide +kernel) rfl, tq_g (i := 1465) (by decide +kernel) rfl⟩
theorem tk_pass_L_allowTexts_0 : ∀ z ∈ ([] : List ExceptionTableEntry), z.catchType ≠ 0 ∧ ∃ nm : String, Cond.classLink RL z.catchType nm ∈ tq_G ∧ ("java/lang/IndexOutOfBoundsException", nm) ∈ tq_nc := by
  intro z hz
  cases hz
theorem tk_RL_117 : Cond.methodLink RL 117 yX10_attribute ∈ tq_G := tq_g (i := 1474) (by decide +kernel) rfl
theorem tk_pass_L_attribute_2 : ∀ z ∈ ([⟨0, 12, 15, 13⟩, ⟨0, 12, 19, 15⟩] : List ExceptionTableEntry), z.catchType ≠ 0 ∧ ∃ nm : String, Cond.classLink RL z.catchType nm ∈ tq_G ∧ ("java/lang/IllegalStateException", nm) ∈ tq_nc := by
  intro z hz
  simp only [List.mem_cons, List.not_mem_nil, or_false] at hz
  rcases hz with rfl | rfl
  · exact ⟨by decide, _, tk_RL_13, by decide +kernel⟩
  · exact ⟨by decide, _, tk_RL_15, by decide +kernel⟩
theorem tk_y_X10_attribute : tq_yok yX10_attribute cX10_attribute 4 (some .int) 3 := ⟨tq_g (i := 1477) (by decide +kernel) rfl, tq_g (i := 120) (by decide +kernel) rfl, ⟨by decide +kernel, by decide +kernel⟩, by decide +kernel, by decide⟩
theorem tk_v_X10_attribute : tq_vok yX10_attribute := ⟨tq_g (i := 1475) (by decide +kernel) rfl, tq_g (i := 1476) (by decide +kernel) rfl⟩
theorem tk_pass_L_attribute_1 : ∀ z ∈ ([⟨0, 12, 15, 13⟩] : List ExceptionTableEntry), z.catchType ≠ 0 ∧ ∃ nm : String, Cond.classLink RL z.catchType nm ∈ tq_G ∧ ("java/lang/IllegalArgumentException", nm) ∈ tq_nc := by
  intro z hz
  simp only [List.mem_cons, List.not_mem_nil, or_false] at hz
  rcases hz with rfl
  · exact ⟨by decide, _, tk_RL_13, by decide +kernel⟩
theorem tk_pass_L_attribute_0 : ∀ z ∈ ([] : List ExceptionTableEntry), z.catchType ≠ 0 ∧ ∃ nm : String, Cond.classLink RL z.catchType nm ∈ tq_G ∧ ("java/lang/IndexOutOfBoundsException", nm) ∈ tq_nc := by
  intro z hz
  cases hz
theorem tk_RL_120 : Cond.methodLink RL 120 yX10_setStrict ∈ tq_G := tq_g (i := 1485) (by decide +kernel) rfl
theorem tk_pass_L_setStrict_0 : ∀ z ∈ ([] : List ExceptionTableEntry), z.catchType ≠ 0 ∧ ∃ nm : String, Cond.classLink RL z.catchType nm ∈ tq_G ∧ ("java/lang/IllegalStateException", nm) ∈ tq_nc := by
  intro z hz
  cases hz
theorem tk_y_X10_setStrict : tq_yok yX10_setStrict cX10_setStrict 2 (some .boolean) 1 := ⟨tq_g (i := 1488) (by decide +kernel) rfl, tq_g (i := 120) (by decide +kernel) rfl, ⟨by decide +kernel, by decide +kernel⟩, by decide +kernel, by decide⟩
theorem tk_v_X10_setStrict : tq_vok yX10_setStrict := ⟨tq_g (i := 1486) (by decide +kernel) rfl, tq_g (i := 1487) (by decide +kernel) rfl⟩
theorem tk_RL_124 : Cond.methodLink RL 124 yX10_types ∈ tq_G := tq_g (i := 1497) (by decide +kernel) rfl
theorem tk_pass_L_types_0 : ∀ z ∈ ([] : List ExceptionTableEntry), z.catchType ≠ 0 ∧ ∃ nm : String, Cond.classLink RL z.catchType nm ∈ tq_G ∧ ("java/lang/IndexOutOfBoundsException", nm) ∈ tq_nc := by
  intro z hz
  cases hz
theorem tk_y_X10_types : tq_yok yX10_types cX10_types 2 (some .int) 1 := ⟨tq_g (i := 1500) (by decide +kernel) rfl, tq_g (i := 120) (by decide +kernel) rfl, ⟨by decide +kernel, by decide +kernel⟩, by decide +kernel, by decide⟩
theorem tk_v_X10_types : tq_vok yX10_types := ⟨tq_g (i := 1498) (by decide +kernel) rfl, tq_g (i := 1499) (by decide +kernel) rfl⟩
theorem tk_RL_127 : Cond.methodLink RL 127 yX10_infer ∈ tq_G := tq_g (i := 1505) (by decide +kernel) rfl
theorem tk_pass_L_infer_0 : ∀ z ∈ ([] : List ExceptionTableEntry), z.catchType ≠ 0 ∧ ∃ nm : String, Cond.classLink RL z.catchType nm ∈ tq_G ∧ ("java/lang/IndexOutOfBoundsException", nm) ∈ tq_nc := by
  intro z hz
  cases hz
theorem tk_y_X10_infer : tq_yok yX10_infer cX10_infer 2 (some .int) 1 := ⟨tq_g (i := 1508) (by decide +kernel) rfl, tq_g (i := 120) (by decide +kernel) rfl, ⟨by decide +kernel, by decide +kernel⟩, by decide +kernel, by decide⟩
theorem tk_v_X10_infer : tq_vok yX10_infer := ⟨tq_g (i := 1506) (by decide +kernel) rfl, tq_g (i := 1507) (by decide +kernel) rfl⟩
theorem tk_RL_130 : Cond.methodLink RL 130 yX10_index ∈ tq_G := tq_g (i := 1547) (by decide +kernel) rfl
theorem tk_pass_L_index_0 : ∀ z ∈ ([] : List ExceptionTableEntry), z.catchType ≠ 0 ∧ ∃ nm : String, Cond.classLink RL z.catchType nm ∈ tq_G ∧ ("java/lang/IllegalArgumentException", nm) ∈ tq_nc := by
  intro z hz
  cases hz
theorem tk_y_X10_index : tq_yok yX10_index cX10_index 2 (some .boolean) 1 := ⟨tq_g (i := 1550) (by decide +kernel) rfl, tq_g (i := 120) (by decide +kernel) rfl, ⟨by decide +kernel, by decide +kernel⟩, by decide +kernel, by decide⟩
theorem tk_v_X10_index : tq_vok yX10_index := ⟨tq_g (i := 1548) (by decide +kernel) rfl, tq_g (i := 1549) (by decide +kernel) rfl⟩
theorem tk_RL_134 : Cond.methodLink RL 134 yX10_plan ∈ tq_G := tq_g (i := 1554) (by decide +kernel) rfl
theorem tk_pass_L_plan_0 : ∀ z ∈ ([] : List ExceptionTableEntry), z.catchType ≠ 0 ∧ ∃ nm : String, Cond.classLink RL z.catchType nm ∈ tq_G ∧ ("java/lang/IndexOutOfBoundsException", nm) ∈ tq_nc := by
  intro z hz
  cases hz
theorem tk_y_X10_plan : tq_yok yX10_plan cX10_plan 5 (some .int) 1 := ⟨tq_g (i := 1557) (by decide +kernel) rfl, tq_g (i := 120) (by decide +kernel) rfl, ⟨by decide +kernel, by decide +kernel⟩, by decide +kernel, by decide⟩
theorem tk_v_X10_plan : tq_vok yX10_plan := ⟨tq_g (i := 1555) (by decide +kernel) rfl, tq_g (i := 1556) (by decide +kernel) rfl⟩
theorem tk_RL_137 : Cond.methodLink RL 137 yX10_view ∈ tq_G := tq_g (i := 1583) (by decide +kernel) rfl
theorem tk_pass_L_view_1 : ∀ z ∈ ([⟨0, 9, 12, 13⟩] : List ExceptionTableEntry), z.catchType ≠ 0 ∧ ∃ nm : String, Cond.classLink RL z.catchType nm ∈ tq_G ∧ ("java/lang/IllegalStateException", nm) ∈ tq_nc := by
  intro z hz
  simp only [List.mem_cons, List.not_mem_nil, or_false] at hz
  rcases hz with rfl
  · exact ⟨by decide, _, tk_RL_13, by decide +kernel⟩
theorem tk_y_X10_view : tq_yok yX10_view cX10_view 2 (some .int) 1 := ⟨tq_g (i := 1586) (by decide +kernel) rfl, tq_g (i := 120) (by decide +kernel) rfl, ⟨by decide +kernel, by decide +kernel⟩, by decide +kernel, by decide⟩
theorem tk_v_X10_view : tq_vok yX10_view := ⟨tq_g (i := 1584) (by decide +kernel) rfl, tq_g (i := 1585) (by decide +kernel) rfl⟩
theorem tk_pass_L_view_0 : ∀ z ∈ ([] : List ExceptionTableEntry), z.catchType ≠ 0 ∧ ∃ nm : String, Cond.classLink RL z.catchType nm ∈ tq_G ∧ ("java/lang/IndexOutOfBoundsException", nm) ∈ tq_nc := by
  intro z hz
  cases hz
theorem tk_RL_140 : Cond.methodLink RL 140 yX10_viewed ∈ tq_G := tq_g (i := 1591) (by decide +kernel) rfl
theorem tk_pass_L_viewed_0 : ∀ z ∈ ([] : List ExceptionTableEntry), z.catchType ≠ 0 ∧ ∃ nm : String, Cond.classLink RL z.catchType nm ∈ tq_G ∧ ("java/lang/IndexOutOfBoundsException", nm) ∈ tq_nc := by
  intro z hz
  cases hz
theorem tk_y_X10_viewed : tq_yok yX10_viewed cX10_viewed 4 (some .int) 2 := ⟨tq_g (i := 1594) (by decide +kernel) rfl, tq_g (i := 120) (by decide +kernel) rfl, ⟨by decide +kernel, by decide +kernel⟩, by decide +kernel, by decide⟩
theorem tk_v_X10_viewed : tq_vok yX10_viewed := ⟨tq_g (i := 1592) (by decide +kernel) rfl, tq_g (i := 1593) (by decide +kernel) rfl⟩
theorem tk_RL_143 : Cond.methodLink RL 143 yX10_changed ∈ tq_G := tq_g (i := 1598) (by decide +kernel) rfl
theorem tk_pass_L_changed_0 : ∀ z ∈ ([] : List ExceptionTableEntry), z.catchType ≠ 0 ∧ ∃ nm : String, Cond.classLink RL z.catchType nm ∈ tq_G ∧ ("java/lang/IndexOutOfBoundsException", nm) ∈ tq_nc := by
  intro z hz
  cases hz
theorem tk_y_X10_changed : tq_yok yX10_changed cX10_changed 2 (some .int) 1 := ⟨tq_g (i := 1601) (by decide +kernel) rfl, tq_g (i := 120) (by decide +kernel) rfl, ⟨by decide +kernel, by decide +kernel⟩, by decide +kernel, by decide⟩
theorem tk_v_X10_changed : tq_vok yX10_changed := ⟨tq_g (i := 1599) (by decide +kernel) rfl, tq_g (i := 1600) (by decide +kernel) rfl⟩
theorem tk_RL_146 : Cond.methodLink RL 146 yX10_ranked ∈ tq_G := tq_g (i := 1605) (by decide +kernel) rfl
theorem tk_pass_L_ranked_1 : ∀ z ∈ ([⟨0, 10, 13, 13⟩] : List ExceptionTableEntry), z.catchType ≠ 0 ∧ ∃ nm : String, Cond.classLink RL z.catchType nm ∈ tq_G ∧ ("java/lang/IllegalArgumentException", nm) ∈ tq_nc := by
  intro z hz
  simp only [List.mem_cons, List.not_mem_nil, or_false] at hz
  rcases hz with rfl
  · exact ⟨by decide, _, tk_RL_13, by decide +kernel⟩
theorem tk_y_X10_ranked : tq_yok yX10_ranked cX10_ranked 3 (some .int) 2 := ⟨tq_g (i := 1608) (by decide +kernel) rfl, tq_g (i := 120) (by decide +kernel) rfl, ⟨by decide +kernel, by decide +kernel⟩, by decide +kernel, by decide⟩
theorem tk_v_X10_ranked : tq_vok yX10_ranked := ⟨tq_g (i := 1606) (by decide +kernel) rfl, tq_g (i := 1607) (by decide +kernel) rfl⟩
theorem tk_pass_L_ranked_0 : ∀ z ∈ ([] : List ExceptionTableEntry), z.catchType ≠ 0 ∧ ∃ nm : String, Cond.classLink RL z.catchType nm ∈ tq_G ∧ ("java/lang/IndexOutOfBoundsException", nm) ∈ tq_nc := by
  intro z hz
  cases hz
theorem tk_RL_149 : Cond.methodLink RL 149 yX10_keep ∈ tq_G := tq_g (i := 1633) (by decide +kernel) rfl
theorem tk_pass_L_keep_0 : ∀ z ∈ ([] : List ExceptionTableEntry), z.catchType ≠ 0 ∧ ∃ nm : String, Cond.classLink RL z.catchType nm ∈ tq_G ∧ ("java/lang/IllegalStateException", nm) ∈ tq_nc := by
  intro z hz
  cases hz
theorem tk_y_X10_keep : tq_yok yX10_keep cX10_keep 2 (some .int) 0 := ⟨tq_g (i := 1636) (by decide +kernel) rfl, tq_g (i := 120) (by decide +kernel) rfl, ⟨by decide +kernel, by decide +kernel⟩, by decide +kernel, by decide⟩
theorem tk_v_X10_keep : tq_vok yX10_keep := ⟨tq_g (i := 1634) (by decide +kernel) rfl, tq_g (i := 1635) (by decide +kernel) rfl⟩
theorem tk_RL_152 : Cond.methodLink RL 152 yX10_take ∈ tq_G := tq_g (i := 1641) (by decide +kernel) rfl
theorem tk_pass_L_take_1 : ∀ z ∈ ([⟨0, 9, 12, 13⟩] : List ExceptionTableEntry), z.catchType ≠ 0 ∧ ∃ nm : String, Cond.classLink RL z.catchType nm ∈ tq_G ∧ ("java/lang/IllegalStateException", nm) ∈ tq_nc := by
  intro z hz
  simp only [List.mem_cons, List.not_mem_nil, or_false] at hz
  rcases hz with rfl
  · exact ⟨by decide, _, tk_RL_13, by decide +kernel⟩
theorem tk_y_X10_take : tq_yok yX10_take cX10_take 3 (some .int) 1 := ⟨tq_g (i := 1644) (by decide +kernel) rfl, tq_g (i := 120) (by decide +kernel) rfl, ⟨by decide +kernel, by decide +kernel⟩, by decide +kernel, by decide⟩
theorem tk_v_X10_take : tq_vok yX10_take := ⟨tq_g (i := 1642) (by decide +kernel) rfl, tq_g (i := 1643) (by decide +kernel) rfl⟩
theorem tk_pass_L_take_0 : ∀ z ∈ ([] : List ExceptionTableEntry), z.catchType ≠ 0 ∧ ∃ nm : String, Cond.classLink RL z.catchType nm ∈ tq_G ∧ ("java/lang/IndexOutOfBoundsException", nm) ∈ tq_nc := by
  intro z hz
  cases hz
theorem tk_RL_155 : Cond.methodLink RL 155 yX10_distance ∈ tq_G := tq_g (i := 1659) (by decide +kernel) rfl
theorem tk_pass_L_distance_0 : ∀ z ∈ ([] : List ExceptionTableEntry), z.catchType ≠ 0 ∧ ∃ nm : String, Cond.classLink RL z.catchType nm ∈ tq_G ∧ ("java/lang/IndexOutOfBoundsException", nm) ∈ tq_nc := by
  intro z hz
  cases hz
theorem tk_y_X10_distance : tq_yok yX10_distance cX10_distance 7 (some .int) 2 := ⟨tq_g (i := 1662) (by decide +kernel) rfl, tq_g (i := 120) (by decide +kernel) rfl, ⟨by decide +kernel, by decide +kernel⟩, by decide +kernel, by decide⟩
theorem tk_v_X10_distance : tq_vok yX10_distance := ⟨tq_g (i := 1660) (by decide +kernel) rfl, tq_g (i := 1661) (by decide +kernel) rfl⟩
theorem tk_RL_158 : Cond.methodLink RL 158 yX10_odds ∈ tq_G := tq_g (i := 1741) (by decide +kernel) rfl
theorem tk_pass_L_odds_0 : ∀ z ∈ ([] : List ExceptionTableEntry), z.catchType ≠ 0 ∧ ∃ nm : String, Cond.classLink RL z.catchType nm ∈ tq_G ∧ ("java/lang/IndexOutOfBoundsException", nm) ∈ tq_nc := by
  intro z hz
  cases hz
theorem tk_y_X10_odds : tq_yok yX10_odds cX10_odds 9 (some .int) 3 := ⟨tq_g (i := 1744) (by decide +kernel) rfl, tq_g (i := 120) (by decide +kernel) rfl, ⟨by decide +kernel, by decide +kernel⟩, by decide +kernel, by decide⟩
theorem tk_v_X10_odds : tq_vok yX10_odds := ⟨tq_g (i := 1742) (by decide +kernel) rfl, tq_g (i := 1743) (by decide +kernel) rfl⟩
theorem tk_RL_161 : Cond.methodLink RL 161 yX10_hide ∈ tq_G := tq_g (i := 1753) (by decide +kernel) rfl
theorem tk_pass_L_hide_1 : ∀ z ∈ ([⟨0, 16, 19, 13⟩] : List ExceptionTableEntry), z.catchType ≠ 0 ∧ ∃ nm : String, Cond.classLink RL z.catchType nm ∈ tq_G ∧ ("java/lang/IllegalStateException", nm) ∈ tq_nc := by
  intro z hz
  simp only [List.mem_cons, List.not_mem_nil, or_false] at hz
  rcases hz with rfl
  · exact ⟨by decide, _, tk_RL_13, by decide +kernel⟩
theorem tk_y_X10_hide : tq_yok yX10_hide cX10_hide 2 (some .boolean) 1 := ⟨tq_g (i := 1756) (by decide +kernel) rfl, tq_g (i := 120) (by decide +kernel) rfl, ⟨by decide +kernel, by decide +kernel⟩, by decide +kernel, by decide⟩
theorem tk_v_X10_hide : tq_vok yX10_hide := ⟨tq_g (i := 1754) (by decide +kernel) rfl, tq_g (i := 1755) (by decide +kernel) rfl⟩
theorem tk_pass_L_hide_0 : ∀ z ∈ ([] : List ExceptionTableEntry), z.catchType ≠ 0 ∧ ∃ nm : String, Cond.classLink RL z.catchType nm ∈ tq_G ∧ ("java/lang/IndexOutOfBoundsException", nm) ∈ tq_nc := by
  intro z hz
  cases hz
theorem tk_RL_164 : Cond.methodLink RL 164 yX10_isSeen ∈ tq_G := tq_g (i := 1761) (by decide +kernel) rfl
theorem tk_pass_L_isSeen_0 : ∀ z ∈ ([] : List ExceptionTableEntry), z.catchType ≠ 0 ∧ ∃ nm : String, Cond.classLink RL z.catchType nm ∈ tq_G ∧ ("java/lang/IndexOutOfBoundsException", nm) ∈ tq_nc := by
  intro z hz
  cases hz
theorem tk_y_X10_isSeen : tq_yok yX10_isSeen cX10_isSeen 2 (some .boolean) 1 := ⟨tq_g (i := 1764) (by decide +kernel) rfl, tq_g (i := 120) (by decide +kernel) rfl, ⟨by decide +kernel, by decide +kernel⟩, by decide +kernel, by decide⟩
theorem tk_v_X10_isSeen : tq_vok yX10_isSeen := ⟨tq_g (i := 1762) (by decide +kernel) rfl, tq_g (i := 1763) (by decide +kernel) rfl⟩
abbrev mL_insertElement : tq_M := (RL, cL_insertElement, 6, (some .int), false, [(0, 12, 15, 13), (0, 12, 19, 15), (0, 12, 23, 17)], none)
def f_L_insertElement (a0 : Nat) (a1 : Int32) (a2 : Int32) (a3 : Int32) (a4 : Nat) (h : tq_H) : Option (Int32 × tq_H) :=
  (tq_is h a0 10).bind fun _ =>
  (f_X10_insertElement a0 a1 a2 a3 h).bind fun v1 => match v1 with
  | (.inl E1, w3) =>
    if E1 = "java/lang/IndexOutOfBoundsException" then
      some ((1 : Int32), w3)
    else
      if E1 = "java/lang/IllegalArgumentException" then
        some ((2 : Int32), w3)
      else
        if E1 = "java/lang/IllegalStateException" then
          some ((3 : Int32), w3)
        else
          none
  | (.inr v4, w3) =>
    (tq_sl w3 a4 (0 : Int32) (v4).toInt64).bind fun w5 =>
    some ((0 : Int32), w5)
set_option maxHeartbeats 4000000 in
set_option maxRecDepth 20000 in
theorem w_L_insertElement {l : Launch} {d : Nat} (hd9 : 9 ≤ d) {a0 : Nat} {a1 : Int32} {a2 : Int32} {a3 : Int32} {a4 : Nat} {h : tq_H} {o : Int32 × tq_H} {Q : tq_R → tq_H → Prop} (hf : f_L_insertElement a0 a1 a2 a3 a4 h = some o) (hQ : ∀ r h9, r = .inl (some (.int o.1)) ∧ o.2 = h9 → Q r h9) : tq_CW l yL_insertElement cL_insertElement 6 (some .int) [(0, 12, 15, 13), (0, 12, 19, 15), (0, 12, 23, 17)] d 5 30 [.ref a0, .int a1, .int a2, .int a3, .ref a4] h Q := by
  refine tq_bodyW (y := yL_insertElement) (by decide +kernel) (Nat.le_of_ble_eq_true rfl) ?_
  show tq_W l mL_insertElement d 5 30 Q 0 [(0, .ref a0), (1, .int a1), (2, .int a2), (3, .int a3), (4, .ref a4)] [] h
  refine tq_aload (M := mL_insertElement) (pc := 0) dL_insertElement_0 rfl ?_
  refine tq_iconst (M := mL_insertElement) (pc := 2) dL_insertElement_2 tk_ki_0 ?_
  refine tq_aload_n (M := mL_insertElement) (pc := 3) dL_insertElement_3 rfl ?_
  refine tq_iload_n (M := mL_insertElement) (pc := 4) dL_insertElement_4 rfl ?_
  refine tq_iload_n (M := mL_insertElement) (pc := 5) dL_insertElement_5 rfl ?_
  refine tq_iload_n (M := mL_insertElement) (pc := 6) dL_insertElement_6 rfl ?_
  obtain ⟨⟨⟩, eu2, hf⟩ := tq_be hf
  obtain ⟨fsu2, eu2⟩ := tq_is_s eu2
  obtain ⟨⟨E1 | v4, w3⟩, ev1, hf⟩ := tq_be hf
  · skip
    by_cases c0 : E1 = "java/lang/IndexOutOfBoundsException"
    · have hf := tq_ifp hf c0
      subst c0
      refine tq_calV (M := mL_insertElement) (pc := 7) (S := [.int (0 : Int32), .ref a4]) tk_y_X10_insertElement tk_v_X10_insertElement tk_RL_7 dL_insertElement_7 [.int a1, .int a2, .int a3] rfl (S0 := _) rfl eu2 rfl (Nat.le_of_ble_eq_true rfl) (d1 := d - 1) (b1 := 5) (s1 := 30) (bc' := 0) (bs' := 0) (Q1 := fun r h9 => r = tq_enI ((.inl "java/lang/IndexOutOfBoundsException", w3) : (String ⊕ Int32) × tq_H).1 ∧ ((.inl "java/lang/IndexOutOfBoundsException", w3) : (String ⊕ Int32) × tq_H).2 = h9) (by omega) rfl rfl (w_X10_insertElement (by omega) ev1 (fun _ _ q => q)) (fun E h9 q => ?_) (fun r9 h9 q => nomatch (show (Sum.inl r9 : tq_R) = Sum.inr _ from q.1))
      obtain ⟨q1, rfl⟩ := q
      cases (show (Sum.inr E : tq_R) = Sum.inr "java/lang/IndexOutOfBoundsException" from q1)
      refine tq_catch (M := mL_insertElement) (pc := 7) (name := "java/lang/IndexOutOfBoundsException") [] ⟨0, 12, 15, 13⟩ [⟨0, 12, 19, 15⟩, ⟨0, 12, 23, 17⟩] rfl tk_pass_L_insertElement_0 (by decide) (by decide) tk_RL_13 tk_cast_IndexOutOfBoundsException ?_
      refine tq_xstore (M := mL_insertElement) (pc := 15) dL_insertElement_15 (L2 := [(5, .float 0), (0, .ref a0), (1, .int a1), (2, .int a2), (3, .int a3), (4, .ref a4)]) (by decide) rfl ?_
      refine tq_iconst (M := mL_insertElement) (pc := 17) dL_insertElement_17 tk_ki_1 ?_
      refine tq_iret (M := mL_insertElement) (pc := 18) dL_insertElement_18 rfl ?_
      cases (Option.some.inj hf)
      exact hQ _ _ ⟨rfl, rfl⟩
    have hf := tq_ifn hf c0
    by_cases c1 : E1 = "java/lang/IllegalArgumentException"
    · have hf := tq_ifp hf c1
      subst c1
      refine tq_calV (M := mL_insertElement) (pc := 7) (S := [.int (0 : Int32), .ref a4]) tk_y_X10_insertElement tk_v_X10_insertElement tk_RL_7 dL_insertElement_7 [.int a1, .int a2, .int a3] rfl (S0 := _) rfl eu2 rfl (Nat.le_of_ble_eq_true rfl) (d1 := d - 1) (b1 := 5) (s1 := 30) (bc' := 0) (bs' := 0) (Q1 := fun r h9 => r = tq_enI ((.inl "java/lang/IllegalArgumentException", w3) : (String ⊕ Int32) × tq_H).1 ∧ ((.inl "java/lang/IllegalArgumentException", w3) : (String ⊕ Int32) × tq_H).2 = h9) (by omega) rfl rfl (w_X10_insertElement (by omega) ev1 (fun _ _ q => q)) (fun E h9 q => ?_) (fun r9 h9 q => nomatch (show (Sum.inl r9 : tq_R) = Sum.inr _ from q.1))
      obtain ⟨q1, rfl⟩ := q
      cases (show (Sum.inr E : tq_R) = Sum.inr "java/lang/IllegalArgumentException" from q1)
      refine tq_catch (M := mL_insertElement) (pc := 7) (name := "java/lang/IllegalArgumentException") [⟨0, 12, 15, 13⟩] ⟨0, 12, 19, 15⟩ [⟨0, 12, 23, 17⟩] rfl tk_pass_L_insertElement_1 (by decide) (by decide) tk_RL_15 tk_cast_IllegalArgumentException ?_
      refine tq_xstore (M := mL_insertElement) (pc := 19) dL_insertElement_19 (L2 := [(5, .float 0), (0, .ref a0), (1, .int a1), (2, .int a2), (3, .int a3), (4, .ref a4)]) (by decide) rfl ?_
      refine tq_iconst (M := mL_insertElement) (pc := 21) dL_insertElement_21 tk_ki_2 ?_
      refine tq_iret (M := mL_insertElement) (pc := 22) dL_insertElement_22 rfl ?_
      cases (Option.some.inj hf)
      exact hQ _ _ ⟨rfl, rfl⟩
    have hf := tq_ifn hf c1
    by_cases c2 : E1 = "java/lang/IllegalStateException"
    · have hf := tq_ifp hf c2
      subst c2
      refine tq_calV (M := mL_insertElement) (pc := 7) (S := [.int (0 : Int32), .ref a4]) tk_y_X10_insertElement tk_v_X10_insertElement tk_RL_7 dL_insertElement_7 [.int a1, .int a2, .int a3] rfl (S0 := _) rfl eu2 rfl (Nat.le_of_ble_eq_true rfl) (d1 := d - 1) (b1 := 5) (s1 := 30) (bc' := 0) (bs' := 0) (Q1 := fun r h9 => r = tq_enI ((.inl "java/lang/IllegalStateException", w3) : (String ⊕ Int32) × tq_H).1 ∧ ((.inl "java/lang/IllegalStateException", w3) : (String ⊕ Int32) × tq_H).2 = h9) (by omega) rfl rfl (w_X10_insertElement (by omega) ev1 (fun _ _ q => q)) (fun E h9 q => ?_) (fun r9 h9 q => nomatch (show (Sum.inl r9 : tq_R) = Sum.inr _ from q.1))
      obtain ⟨q1, rfl⟩ := q
      cases (show (Sum.inr E : tq_R) = Sum.inr "java/lang/IllegalStateException" from q1)
      refine tq_catch (M := mL_insertElement) (pc := 7) (name := "java/lang/IllegalStateException") [⟨0, 12, 15, 13⟩, ⟨0, 12, 19, 15⟩] ⟨0, 12, 23, 17⟩ [] rfl tk_pass_L_insertElement_2 (by decide) (by decide) tk_RL_17 tk_cast_IllegalStateException ?_
      refine tq_xstore (M := mL_insertElement) (pc := 23) dL_insertElement_23 (L2 := [(5, .float 0), (0, .ref a0), (1, .int a1), (2, .int a2), (3, .int a3), (4, .ref a4)]) (by decide) rfl ?_
      refine tq_iconst (M := mL_insertElement) (pc := 25) dL_insertElement_25 tk_ki_3 ?_
      refine tq_iret (M := mL_insertElement) (pc := 26) dL_insertElement_26 rfl ?_
      cases (Option.some.inj hf)
      exact hQ _ _ ⟨rfl, rfl⟩
    have hf := tq_ifn hf c2
    cases hf
  · refine tq_calV (M := mL_insertElement) (pc := 7) (S := [.int (0 : Int32), .ref a4]) tk_y_X10_insertElement tk_v_X10_insertElement tk_RL_7 dL_insertElement_7 [.int a1, .int a2, .int a3] rfl (S0 := _) rfl eu2 rfl (Nat.le_of_ble_eq_true rfl) (d1 := d - 1) (b1 := 5) (s1 := 30) (bc' := 0) (bs' := 0) (Q1 := fun r h9 => r = tq_enI ((.inr v4, w3) : (String ⊕ Int32) × tq_H).1 ∧ ((.inr v4, w3) : (String ⊕ Int32) × tq_H).2 = h9) (by omega) rfl rfl (w_X10_insertElement (by omega) ev1 (fun _ _ q => q)) (fun E h9 q => nomatch (show (Sum.inr E : tq_R) = Sum.inl _ from q.1)) (fun r9 h9 q => ?_)
    obtain ⟨q1, rfl⟩ := q
    cases (show (Sum.inl r9 : tq_R) = Sum.inl (some (.int v4)) from q1)
    refine tq_i2l (M := mL_insertElement) (pc := 10) dL_insertElement_10 ?_
    obtain ⟨w5, ew5, hf⟩ := tq_be hf
    refine tq_lastF (M := mL_insertElement) (pc := 11) dL_insertElement_11 ew5 ?_
    refine tq_goto (M := mL_insertElement) (pc := 12) (tgt := 27) dL_insertElement_12 (by decide) ?_
    refine tq_iconst (M := mL_insertElement) (pc := 27) dL_insertElement_27 tk_ki_0 ?_
    refine tq_iret (M := mL_insertElement) (pc := 28) dL_insertElement_28 rfl ?_
    cases (Option.some.inj hf)
    exact hQ _ _ ⟨rfl, rfl⟩
abbrev mL_insertText : tq_M := (RL, cL_insertText, 6, (some .int), false, [(0, 12, 15, 13), (0, 12, 19, 15), (0, 12, 23, 17)], none)
def f_L_insertText (a0 : Nat) (a1 : Int32) (a2 : Int32) (a3 : Int32) (a4 : Nat) (h : tq_H) : Option (Int32 × tq_H) :=
  (tq_is h a0 10).bind fun _ =>
  (f_X10_insertText a0 a1 a2 a3 h).bind fun v1 => match v1 with
  | (.inl E1, w3) =>
    if E1 = "java/lang/IndexOutOfBoundsException" then
      some ((1 : Int32), w3)
    else
      if E1 = "java/lang/IllegalArgumentException" then
        some ((2 : Int32), w3)
      else
        if E1 = "java/lang/IllegalStateException" then
          some ((3 : Int32), w3)
        else
          none
  | (.inr v4, w3) =>
    (tq_sl w3 a4 (0 : Int32) (v4).toInt64).bind fun w5 =>
    some ((0 : Int32), w5)
set_option maxHeartbeats 4000000 in
set_option maxRecDepth 20000 in
theorem w_L_insertText {l : Launch} {d : Nat} (hd9 : 9 ≤ d) {a0 : Nat} {a1 : Int32} {a2 : Int32} {a3 : Int32} {a4 : Nat} {h : tq_H} {o : Int32 × tq_H} {Q : tq_R → tq_H → Prop} (hf : f_L_insertText a0 a1 a2 a3 a4 h = some o) (hQ : ∀ r h9, r = .inl (some (.int o.1)) ∧ o.2 = h9 → Q r h9) : tq_CW l yL_insertText cL_insertText 6 (some .int) [(0, 12, 15, 13), (0, 12, 19, 15), (0, 12, 23, 17)] d 5 30 [.ref a0, .int a1, .int a2, .int a3, .ref a4] h Q := by
  refine tq_bodyW (y := yL_insertText) (by decide +kernel) (Nat.le_of_ble_eq_true rfl) ?_
  show tq_W l mL_insertText d 5 30 Q 0 [(0, .ref a0), (1, .int a1), (2, .int a2), (3, .int a3), (4, .ref a4)] [] h
  refine tq_aload (M := mL_insertText) (pc := 0) dL_insertText_0 rfl ?_
  refine tq_iconst (M := mL_insertText) (pc := 2) dL_insertText_2 tk_ki_0 ?_
  refine tq_aload_n (M := mL_insertText) (pc := 3) dL_insertText_3 rfl ?_
  refine tq_iload_n (M := mL_insertText) (pc := 4) dL_insertText_4 rfl ?_
  refine tq_iload_n (M := mL_insertText) (pc := 5) dL_insertText_5 rfl ?_
  refine tq_iload_n (M := mL_insertText) (pc := 6) dL_insertText_6 rfl ?_
  obtain ⟨⟨⟩, eu2, hf⟩ := tq_be hf
  obtain ⟨fsu2, eu2⟩ := tq_is_s eu2
  obtain ⟨⟨E1 | v4, w3⟩, ev1, hf⟩ := tq_be hf
  · skip
    by_cases c0 : E1 = "java/lang/IndexOutOfBoundsException"
    · have hf := tq_ifp hf c0
      subst c0
      refine tq_calV (M := mL_insertText) (pc := 7) (S := [.int (0 : Int32), .ref a4]) tk_y_X10_insertText tk_v_X10_insertText tk_RL_19 dL_insertText_7 [.int a1, .int a2, .int a3] rfl (S0 := _) rfl eu2 rfl (Nat.le_of_ble_eq_true rfl) (d1 := d - 1) (b1 := 5) (s1 := 30) (bc' := 0) (bs' := 0) (Q1 := fun r h9 => r = tq_enI ((.inl "java/lang/IndexOutOfBoundsException", w3) : (String ⊕ Int32) × tq_H).1 ∧ ((.inl "java/lang/IndexOutOfBoundsException", w3) : (String ⊕ Int32) × tq_H).2 = h9) (by omega) rfl rfl (w_X10_insertText (by omega) ev1 (fun _ _ q => q)) (fun E h9 q => ?_) (fun r9 h9 q => nomatch (show (Sum.inl r9 : tq_R) = Sum.inr _ from q.1))
      obtain ⟨q1, rfl⟩ := q
      cases (show (Sum.inr E : tq_R) = Sum.inr "java/lang/IndexOutOfBoundsException" from q1)
      refine tq_catch (M := mL_insertText) (pc := 7) (name := "java/lang/IndexOutOfBoundsException") [] ⟨0, 12, 15, 13⟩ [⟨0, 12, 19, 15⟩, ⟨0, 12, 23, 17⟩] rfl tk_pass_L_insertText_0 (by decide) (by decide) tk_RL_13 tk_cast_IndexOutOfBoundsException ?_
      refine tq_xstore (M := mL_insertText) (pc := 15) dL_insertText_15 (L2 := [(5, .float 0), (0, .ref a0), (1, .int a1), (2, .int a2), (3, .int a3), (4, .ref a4)]) (by decide) rfl ?_
      refine tq_iconst (M := mL_insertText) (pc := 17) dL_insertText_17 tk_ki_1 ?_
      refine tq_iret (M := mL_insertText) (pc := 18) dL_insertText_18 rfl ?_
      cases (Option.some.inj hf)
      exact hQ _ _ ⟨rfl, rfl⟩
    have hf := tq_ifn hf c0
    by_cases c1 : E1 = "java/lang/IllegalArgumentException"
    · have hf := tq_ifp hf c1
      subst c1
      refine tq_calV (M := mL_insertText) (pc := 7) (S := [.int (0 : Int32), .ref a4]) tk_y_X10_insertText tk_v_X10_insertText tk_RL_19 dL_insertText_7 [.int a1, .int a2, .int a3] rfl (S0 := _) rfl eu2 rfl (Nat.le_of_ble_eq_true rfl) (d1 := d - 1) (b1 := 5) (s1 := 30) (bc' := 0) (bs' := 0) (Q1 := fun r h9 => r = tq_enI ((.inl "java/lang/IllegalArgumentException", w3) : (String ⊕ Int32) × tq_H).1 ∧ ((.inl "java/lang/IllegalArgumentException", w3) : (String ⊕ Int32) × tq_H).2 = h9) (by omega) rfl rfl (w_X10_insertText (by omega) ev1 (fun _ _ q => q)) (fun E h9 q => ?_) (fun r9 h9 q => nomatch (show (Sum.inl r9 : tq_R) = Sum.inr _ from q.1))
      obtain ⟨q1, rfl⟩ := q
      cases (show (Sum.inr E : tq_R) = Sum.inr "java/lang/IllegalArgumentException" from q1)
      refine tq_catch (M := mL_insertText) (pc := 7) (name := "java/lang/IllegalArgumentException") [⟨0, 12, 15, 13⟩] ⟨0, 12, 19, 15⟩ [⟨0, 12, 23, 17⟩] rfl tk_pass_L_insertText_1 (by decide) (by decide) tk_RL_15 tk_cast_IllegalArgumentException ?_
      refine tq_xstore (M := mL_insertText) (pc := 19) dL_insertText_19 (L2 := [(5, .float 0), (0, .ref a0), (1, .int a1), (2, .int a2), (3, .int a3), (4, .ref a4)]) (by decide) rfl ?_
      refine tq_iconst (M := mL_insertText) (pc := 21) dL_insertText_21 tk_ki_2 ?_
      refine tq_iret (M := mL_insertText) (pc := 22) dL_insertText_22 rfl ?_
      cases (Option.some.inj hf)
      exact hQ _ _ ⟨rfl, rfl⟩
    have hf := tq_ifn hf c1
    by_cases c2 : E1 = "java/lang/IllegalStateException"
    · have hf := tq_ifp hf c2
      subst c2
      refine tq_calV (M := mL_insertText) (pc := 7) (S := [.int (0 : Int32), .ref a4]) tk_y_X10_insertText tk_v_X10_insertText tk_RL_19 dL_insertText_7 [.int a1, .int a2, .int a3] rfl (S0 := _) rfl eu2 rfl (Nat.le_of_ble_eq_true rfl) (d1 := d - 1) (b1 := 5) (s1 := 30) (bc' := 0) (bs' := 0) (Q1 := fun r h9 => r = tq_enI ((.inl "java/lang/IllegalStateException", w3) : (String ⊕ Int32) × tq_H).1 ∧ ((.inl "java/lang/IllegalStateException", w3) : (String ⊕ Int32) × tq_H).2 = h9) (by omega) rfl rfl (w_X10_insertText (by omega) ev1 (fun _ _ q => q)) (fun E h9 q => ?_) (fun r9 h9 q => nomatch (show (Sum.inl r9 : tq_R) = Sum.inr _ from q.1))
      obtain ⟨q1, rfl⟩ := q
      cases (show (Sum.inr E : tq_R) = Sum.inr "java/lang/IllegalStateException" from q1)
      refine tq_catch (M := mL_insertText) (pc := 7) (name := "java/lang/IllegalStateException") [⟨0, 12, 15, 13⟩, ⟨0, 12, 19, 15⟩] ⟨0, 12, 23, 17⟩ [] rfl tk_pass_L_insertText_2 (by decide) (by decide) tk_RL_17 tk_cast_IllegalStateException ?_
      refine tq_xstore (M := mL_insertText) (pc := 23) dL_insertText_23 (L2 := [(5, .float 0), (0, .ref a0), (1, .int a1), (2, .int a2), (3, .int a3), (4, .ref a4)]) (by decide) rfl ?_
      refine tq_iconst (M := mL_insertText) (pc := 25) dL_insertText_25 tk_ki_3 ?_
      refine tq_iret (M := mL_insertText) (pc := 26) dL_insertText_26 rfl ?_
      cases (Option.some.inj hf)
      exact hQ _ _ ⟨rfl, rfl⟩
    have hf := tq_ifn hf c2
    cases hf
  · refine tq_calV (M := mL_insertText) (pc := 7) (S := [.int (0 : Int32), .ref a4]) tk_y_X10_insertText tk_v_X10_insertText tk_RL_19 dL_insertText_7 [.int a1, .int a2, .int a3] rfl (S0 := _) rfl eu2 rfl (Nat.le_of_ble_eq_true rfl) (d1 := d - 1) (b1 := 5) (s1 := 30) (bc' := 0) (bs' := 0) (Q1 := fun r h9 => r = tq_enI ((.inr v4, w3) : (String ⊕ Int32) × tq_H).1 ∧ ((.inr v4, w3) : (String ⊕ Int32) × tq_H).2 = h9) (by omega) rfl rfl (w_X10_insertText (by omega) ev1 (fun _ _ q => q)) (fun E h9 q => nomatch (show (Sum.inr E : tq_R) = Sum.inl _ from q.1)) (fun r9 h9 q => ?_)
    obtain ⟨q1, rfl⟩ := q
    cases (show (Sum.inl r9 : tq_R) = Sum.inl (some (.int v4)) from q1)
    refine tq_i2l (M := mL_insertText) (pc := 10) dL_insertText_10 ?_
    obtain ⟨w5, ew5, hf⟩ := tq_be hf
    refine tq_lastF (M := mL_insertText) (pc := 11) dL_insertText_11 ew5 ?_
    refine tq_goto (M := mL_insertText) (pc := 12) (tgt := 27) dL_insertText_12 (by decide) ?_
    refine tq_iconst (M := mL_insertText) (pc := 27) dL_insertText_27 tk_ki_0 ?_
    refine tq_iret (M := mL_insertText) (pc := 28) dL_insertText_28 rfl ?_
    cases (Option.some.inj hf)
    exact hQ _ _ ⟨rfl, rfl⟩
abbrev mL_insertAttribute : tq_M := (RL, cL_insertAttribute, 6, (some .int), false, [(0, 12, 15, 13), (0, 12, 19, 15), (0, 12, 23, 17)], none)
def f_L_insertAttribute (a0 : Nat) (a1 : Int32) (a2 : Int32) (a3 : Int32) (a4 : Nat) (h : tq_H) : Option (Int32 × tq_H) :=
  (tq_is h a0 10).bind fun _ =>
  (f_X10_insertAttribute a0 a1 a2 a3 h).bind fun v1 => match v1 with
  | (.inl E1, w3) =>
    if E1 = "java/lang/IndexOutOfBoundsException" then
      some ((1 : Int32), w3)
    else
      if E1 = "java/lang/IllegalArgumentException" then
        some ((2 : Int32), w3)
      else
        if E1 = "java/lang/IllegalStateException" then
          some ((3 : Int32), w3)
        else
          none
  | (.inr v4, w3) =>
    (tq_sl w3 a4 (0 : Int32) (v4).toInt64).bind fun w5 =>
    some ((0 : Int32), w5)
set_option maxHeartbeats 4000000 in
set_option maxRecDepth 20000 in
theorem w_L_insertAttribute {l : Launch} {d : Nat} (hd9 : 8 ≤ d) {a0 : Nat} {a1 : Int32} {a2 : Int32} {a3 : Int32} {a4 : Nat} {h : tq_H} {o : Int32 × tq_H} {Q : tq_R → tq_H → Prop} (hf : f_L_insertAttribute a0 a1 a2 a3 a4 h = some o) (hQ : ∀ r h9, r = .inl (some (.int o.1)) ∧ o.2 = h9 → Q r h9) : tq_CW l yL_insertAttribute cL_insertAttribute 6 (some .int) [(0, 12, 15, 13), (0, 12, 19, 15), (0, 12, 23, 17)] d 5 30 [.ref a0, .int a1, .int a2, .int a3, .ref a4] h Q := by
  refine tq_bodyW (y := yL_insertAttribute) (by decide +kernel) (Nat.le_of_ble_eq_true rfl) ?_
  show tq_W l mL_insertAttribute d 5 30 Q 0 [(0, .ref a0), (1, .int a1), (2, .int a2), (3, .int a3), (4, .ref a4)] [] h
  refine tq_aload (M := mL_insertAttribute) (pc := 0) dL_insertAttribute_0 rfl ?_
  refine tq_iconst (M := mL_insertAttribute) (pc := 2) dL_insertAttribute_2 tk_ki_0 ?_
  refine tq_aload_n (M := mL_insertAttribute) (pc := 3) dL_insertAttribute_3 rfl ?_
  refine tq_iload_n (M := mL_insertAttribute) (pc := 4) dL_insertAttribute_4 rfl ?_
  refine tq_iload_n (M := mL_insertAttribute) (pc := 5) dL_insertAttribute_5 rfl ?_
  refine tq_iload_n (M := mL_insertAttribute) (pc := 6) dL_insertAttribute_6 rfl ?_
  obtain ⟨⟨⟩, eu2, hf⟩ := tq_be hf
  obtain ⟨fsu2, eu2⟩ := tq_is_s eu2
  obtain ⟨⟨E1 | v4, w3⟩, ev1, hf⟩ := tq_be hf
  · skip
    by_cases c0 : E1 = "java/lang/IndexOutOfBoundsException"
    · have hf := tq_ifp hf c0
      subst c0
      refine tq_calV (M := mL_insertAttribute) (pc := 7) (S := [.int (0 : Int32), .ref a4]) tk_y_X10_insertAttribute tk_v_X10_insertAttribute tk_RL_22 dL_insertAttribute_7 [.int a1, .int a2, .int a3] rfl (S0 := _) rfl eu2 rfl (Nat.le_of_ble_eq_true rfl) (d1 := d - 1) (b1 := 5) (s1 := 30) (bc' := 0) (bs' := 0) (Q1 := fun r h9 => r = tq_enI ((.inl "java/lang/IndexOutOfBoundsException", w3) : (String ⊕ Int32) × tq_H).1 ∧ ((.inl "java/lang/IndexOutOfBoundsException", w3) : (String ⊕ Int32) × tq_H).2 = h9) (by omega) rfl rfl (w_X10_insertAttribute (by omega) ev1 (fun _ _ q => q)) (fun E h9 q => ?_) (fun r9 h9 q => nomatch (show (Sum.inl r9 : tq_R) = Sum.inr _ from q.1))
      obtain ⟨q1, rfl⟩ := q
      cases (show (Sum.inr E : tq_R) = Sum.inr "java/lang/IndexOutOfBoundsException" from q1)
      refine tq_catch (M := mL_insertAttribute) (pc := 7) (name := "java/lang/IndexOutOfBoundsException") [] ⟨0, 12, 15, 13⟩ [⟨0, 12, 19, 15⟩, ⟨0, 12, 23, 17⟩] rfl tk_pass_L_insertAttribute_0 (by decide) (by decide) tk_RL_13 tk_cast_IndexOutOfBoundsException ?_
      refine tq_xstore (M := mL_insertAttribute) (pc := 15) dL_insertAttribute_15 (L2 := [(5, .float 0), (0, .ref a0), (1, .int a1), (2, .int a2), (3, .int a3), (4, .ref a4)]) (by decide) rfl ?_
      refine tq_iconst (M := mL_insertAttribute) (pc := 17) dL_insertAttribute_17 tk_ki_1 ?_
      refine tq_iret (M := mL_insertAttribute) (pc := 18) dL_insertAttribute_18 rfl ?_
      cases (Option.some.inj hf)
      exact hQ _ _ ⟨rfl, rfl⟩
    have hf := tq_ifn hf c0
    by_cases c1 : E1 = "java/lang/IllegalArgumentException"
    · have hf := tq_ifp hf c1
      subst c1
      refine tq_calV (M := mL_insertAttribute) (pc := 7) (S := [.int (0 : Int32), .ref a4]) tk_y_X10_insertAttribute tk_v_X10_insertAttribute tk_RL_22 dL_insertAttribute_7 [.int a1, .int a2, .int a3] rfl (S0 := _) rfl eu2 rfl (Nat.le_of_ble_eq_true rfl) (d1 := d - 1) (b1 := 5) (s1 := 30) (bc' := 0) (bs' := 0) (Q1 := fun r h9 => r = tq_enI ((.inl "java/lang/IllegalArgumentException", w3) : (String ⊕ Int32) × tq_H).1 ∧ ((.inl "java/lang/IllegalArgumentException", w3) : (String ⊕ Int32) × tq_H).2 = h9) (by omega) rfl rfl (w_X10_insertAttribute (by omega) ev1 (fun _ _ q => q)) (fun E h9 q => ?_) (fun r9 h9 q => nomatch (show (Sum.inl r9 : tq_R) = Sum.inr _ from q.1))
      obtain ⟨q1, rfl⟩ := q
      cases (show (Sum.inr E : tq_R) = Sum.inr "java/lang/IllegalArgumentException" from q1)
      refine tq_catch (M := mL_insertAttribute) (pc := 7) (name := "java/lang/IllegalArgumentException") [⟨0, 12, 15, 13⟩] ⟨0, 12, 19, 15⟩ [⟨0, 12, 23, 17⟩] rfl tk_pass_L_insertAttribute_1 (by decide) (by decide) tk_RL_15 tk_cast_IllegalArgumentException ?_
      refine tq_xstore (M := mL_insertAttribute) (pc := 19) dL_insertAttribute_19 (L2 := [(5, .float 0), (0, .ref a0), (1, .int a1), (2, .int a2), (3, .int a3), (4, .ref a4)]) (by decide) rfl ?_
      refine tq_iconst (M := mL_insertAttribute) (pc := 21) dL_insertAttribute_21 tk_ki_2 ?_
      refine tq_iret (M := mL_insertAttribute) (pc := 22) dL_insertAttribute_22 rfl ?_
      cases (Option.some.inj hf)
      exact hQ _ _ ⟨rfl, rfl⟩
    have hf := tq_ifn hf c1
    by_cases c2 : E1 = "java/lang/IllegalStateException"
    · have hf := tq_ifp hf c2
      subst c2
      refine tq_calV (M := mL_insertAttribute) (pc := 7) (S := [.int (0 : Int32), .ref a4]) tk_y_X10_insertAttribute tk_v_X10_insertAttribute tk_RL_22 dL_insertAttribute_7 [.int a1, .int a2, .int a3] rfl (S0 := _) rfl eu2 rfl (Nat.le_of_ble_eq_true rfl) (d1 := d - 1) (b1 := 5) (s1 := 30) (bc' := 0) (bs' := 0) (Q1 := fun r h9 => r = tq_enI ((.inl "java/lang/IllegalStateException", w3) : (String ⊕ Int32) × tq_H).1 ∧ ((.inl "java/lang/IllegalStateException", w3) : (String ⊕ Int32) × tq_H).2 = h9) (by omega) rfl rfl (w_X10_insertAttribute (by omega) ev1 (fun _ _ q => q)) (fun E h9 q => ?_) (fun r9 h9 q => nomatch (show (Sum.inl r9 : tq_R) = Sum.inr _ from q.1))
      obtain ⟨q1, rfl⟩ := q
      cases (show (Sum.inr E : tq_R) = Sum.inr "java/lang/IllegalStateException" from q1)
      refine tq_catch (M := mL_insertAttribute) (pc := 7) (name := "java/lang/IllegalStateException") [⟨0, 12, 15, 13⟩, ⟨0, 12, 19, 15⟩] ⟨0, 12, 23, 17⟩ [] rfl tk_pass_L_insertAttribute_2 (by decide) (by decide) tk_RL_17 tk_cast_IllegalStateException ?_
      refine tq_xstore (M := mL_insertAttribute) (pc := 23) dL_insertAttribute_23 (L2 := [(5, .float 0), (0, .ref a0), (1, .int a1), (2, .int a2), (3, .int a3), (4, .ref a4)]) (by decide) rfl ?_
      refine tq_iconst (M := mL_insertAttribute) (pc := 25) dL_insertAttribute_25 tk_ki_3 ?_
      refine tq_iret (M := mL_insertAttribute) (pc := 26) dL_insertAttribute_26 rfl ?_
      cases (Option.some.inj hf)
      exact hQ _ _ ⟨rfl, rfl⟩
    have hf := tq_ifn hf c2
    cases hf
  · refine tq_calV (M := mL_insertAttribute) (pc := 7) (S := [.int (0 : Int32), .ref a4]) tk_y_X10_insertAttribute tk_v_X10_insertAttribute tk_RL_22 dL_insertAttribute_7 [.int a1, .int a2, .int a3] rfl (S0 := _) rfl eu2 rfl (Nat.le_of_ble_eq_true rfl) (d1 := d - 1) (b1 := 5) (s1 := 30) (bc' := 0) (bs' := 0) (Q1 := fun r h9 => r = tq_enI ((.inr v4, w3) : (String ⊕ Int32) × tq_H).1 ∧ ((.inr v4, w3) : (String ⊕ Int32) × tq_H).2 = h9) (by omega) rfl rfl (w_X10_insertAttribute (by omega) ev1 (fun _ _ q => q)) (fun E h9 q => nomatch (show (Sum.inr E : tq_R) = Sum.inl _ from q.1)) (fun r9 h9 q => ?_)
    obtain ⟨q1, rfl⟩ := q
    cases (show (Sum.inl r9 : tq_R) = Sum.inl (some (.int v4)) from q1)
    refine tq_i2l (M := mL_insertAttribute) (pc := 10) dL_insertAttribute_10 ?_
    obtain ⟨w5, ew5, hf⟩ := tq_be hf
    refine tq_lastF (M := mL_insertAttribute) (pc := 11) dL_insertAttribute_11 ew5 ?_
    refine tq_goto (M := mL_insertAttribute) (pc := 12) (tgt := 27) dL_insertAttribute_12 (by decide) ?_
    refine tq_iconst (M := mL_insertAttribute) (pc := 27) dL_insertAttribute_27 tk_ki_0 ?_
    refine tq_iret (M := mL_insertAttribute) (pc := 28) dL_insertAttribute_28 rfl ?_
    cases (Option.some.inj hf)
    exact hQ _ _ ⟨rfl, rfl⟩
abbrev mL_remove : tq_M := (RL, cL_remove, 4, (some .int), false, [(0, 9, 12, 13), (0, 9, 15, 17)], none)
def f_L_remove (a0 : Nat) (a1 : Int32) (a2 : Nat) (h : tq_H) : Option (Int32 × tq_H) :=
  (tq_is h a0 10).bind fun _ =>
  (f_X10_remove a0 a1 h).bind fun v1 => match v1 with
  | (.inl E1, w3) =>
    if E1 = "java/lang/IndexOutOfBoundsException" then
      some ((1 : Int32), w3)
    else
      if E1 = "java/lang/IllegalStateException" then
        some ((2 : Int32), w3)
      else
        none
  | (.inr v4, w3) =>
    (tq_sl w3 a2 (0 : Int32) (v4).toInt64).bind fun w5 =>
    some ((0 : Int32), w5)
set_option maxHeartbeats 4000000 in
set_option maxRecDepth 20000 in
theorem w_L_remove {l : Launch} {d : Nat} (hd9 : 8 ≤ d) {a0 : Nat} {a1 : Int32} {a2 : Nat} {h : tq_H} {o : Int32 × tq_H} {Q : tq_R → tq_H → Prop} (hf : f_L_remove a0 a1 a2 h = some o) (hQ : ∀ r h9, r = .inl (some (.int o.1)) ∧ o.2 = h9 → Q r h9) : tq_CW l yL_remove cL_remove 4 (some .int) [(0, 9, 12, 13), (0, 9, 15, 17)] d 3 18 [.ref a0, .int a1, .ref a2] h Q := by
  refine tq_bodyW (y := yL_remove) (by decide +kernel) (Nat.le_of_ble_eq_true rfl) ?_
  show tq_W l mL_remove d 3 18 Q 0 [(0, .ref a0), (1, .int a1), (2, .ref a2)] [] h
  refine tq_aload_n (M := mL_remove) (pc := 0) dL_remove_0 rfl ?_
  refine tq_iconst (M := mL_remove) (pc := 1) dL_remove_1 tk_ki_0 ?_
  refine tq_aload_n (M := mL_remove) (pc := 2) dL_remove_2 rfl ?_
  refine tq_iload_n (M := mL_remove) (pc := 3) dL_remove_3 rfl ?_
  obtain ⟨⟨⟩, eu2, hf⟩ := tq_be hf
  obtain ⟨fsu2, eu2⟩ := tq_is_s eu2
  obtain ⟨⟨E1 | v4, w3⟩, ev1, hf⟩ := tq_be hf
  · skip
    by_cases c0 : E1 = "java/lang/IndexOutOfBoundsException"
    · have hf := tq_ifp hf c0
      subst c0
      refine tq_calV (M := mL_remove) (pc := 4) (S := [.int (0 : Int32), .ref a2]) tk_y_X10_remove tk_v_X10_remove tk_RL_25 dL_remove_4 [.int a1] rfl (S0 := _) rfl eu2 rfl (Nat.le_of_ble_eq_true rfl) (d1 := d - 1) (b1 := 3) (s1 := 18) (bc' := 0) (bs' := 0) (Q1 := fun r h9 => r = tq_enI ((.inl "java/lang/IndexOutOfBoundsException", w3) : (String ⊕ Int32) × tq_H).1 ∧ ((.inl "java/lang/IndexOutOfBoundsException", w3) : (String ⊕ Int32) × tq_H).2 = h9) (by omega) rfl rfl (w_X10_remove (by omega) ev1 (fun _ _ q => q)) (fun E h9 q => ?_) (fun r9 h9 q => nomatch (show (Sum.inl r9 : tq_R) = Sum.inr _ from q.1))
      obtain ⟨q1, rfl⟩ := q
      cases (show (Sum.inr E : tq_R) = Sum.inr "java/lang/IndexOutOfBoundsException" from q1)
      refine tq_catch (M := mL_remove) (pc := 4) (name := "java/lang/IndexOutOfBoundsException") [] ⟨0, 9, 12, 13⟩ [⟨0, 9, 15, 17⟩] rfl tk_pass_L_remove_0 (by decide) (by decide) tk_RL_13 tk_cast_IndexOutOfBoundsException ?_
      refine tq_xstore_n (M := mL_remove) (pc := 12) rfl dL_remove_12 (L2 := [(3, .float 0), (0, .ref a0), (1, .int a1), (2, .ref a2)]) (by decide) rfl ?_
      refine tq_iconst (M := mL_remove) (pc := 13) dL_remove_13 tk_ki_1 ?_
      refine tq_iret (M := mL_remove) (pc := 14) dL_remove_14 rfl ?_
      cases (Option.some.inj hf)
      exact hQ _ _ ⟨rfl, rfl⟩
    have hf := tq_ifn hf c0
    by_cases c1 : E1 = "java/lang/IllegalStateException"
    · have hf := tq_ifp hf c1
      subst c1
      refine tq_calV (M := mL_remove) (pc := 4) (S := [.int (0 : Int32), .ref a2]) tk_y_X10_remove tk_v_X10_remove tk_RL_25 dL_remove_4 [.int a1] rfl (S0 := _) rfl eu2 rfl (Nat.le_of_ble_eq_true rfl) (d1 := d - 1) (b1 := 3) (s1 := 18) (bc' := 0) (bs' := 0) (Q1 := fun r h9 => r = tq_enI ((.inl "java/lang/IllegalStateException", w3) : (String ⊕ Int32) × tq_H).1 ∧ ((.inl "java/lang/IllegalStateException", w3) : (String ⊕ Int32) × tq_H).2 = h9) (by omega) rfl rfl (w_X10_remove (by omega) ev1 (fun _ _ q => q)) (fun E h9 q => ?_) (fun r9 h9 q => nomatch (show (Sum.inl r9 : tq_R) = Sum.inr _ from q.1))
      obtain ⟨q1, rfl⟩ := q
      cases (show (Sum.inr E : tq_R) = Sum.inr "java/lang/IllegalStateException" from q1)
      refine tq_catch (M := mL_remove) (pc := 4) (name := "java/lang/IllegalStateException") [⟨0, 9, 12, 13⟩] ⟨0, 9, 15, 17⟩ [] rfl tk_pass_L_remove_1 (by decide) (by decide) tk_RL_17 tk_cast_IllegalStateException ?_
      refine tq_xstore_n (M := mL_remove) (pc := 15) rfl dL_remove_15 (L2 := [(3, .float 0), (0, .ref a0), (1, .int a1), (2, .ref a2)]) (by decide) rfl ?_
      refine tq_iconst (M := mL_remove) (pc := 16) dL_remove_16 tk_ki_2 ?_
      refine tq_iret (M := mL_remove) (pc := 17) dL_remove_17 rfl ?_
      cases (Option.some.inj hf)
      exact hQ _ _ ⟨rfl, rfl⟩
    have hf := tq_ifn hf c1
    cases hf
  · refine tq_calV (M := mL_remove) (pc := 4) (S := [.int (0 : Int32), .ref a2]) tk_y_X10_remove tk_v_X10_remove tk_RL_25 dL_remove_4 [.int a1] rfl (S0 := _) rfl eu2 rfl (Nat.le_of_ble_eq_true rfl) (d1 := d - 1) (b1 := 3) (s1 := 18) (bc' := 0) (bs' := 0) (Q1 := fun r h9 => r = tq_enI ((.inr v4, w3) : (String ⊕ Int32) × tq_H).1 ∧ ((.inr v4, w3) : (String ⊕ Int32) × tq_H).2 = h9) (by omega) rfl rfl (w_X10_remove (by omega) ev1 (fun _ _ q => q)) (fun E h9 q => nomatch (show (Sum.inr E : tq_R) = Sum.inl _ from q.1)) (fun r9 h9 q => ?_)
    obtain ⟨q1, rfl⟩ := q
    cases (show (Sum.inl r9 : tq_R) = Sum.inl (some (.int v4)) from q1)
    refine tq_i2l (M := mL_remove) (pc := 7) dL_remove_7 ?_
    obtain ⟨w5, ew5, hf⟩ := tq_be hf
    refine tq_lastF (M := mL_remove) (pc := 8) dL_remove_8 ew5 ?_
    refine tq_goto (M := mL_remove) (pc := 9) (tgt := 18) dL_remove_9 (by decide) ?_
    refine tq_iconst (M := mL_remove) (pc := 18) dL_remove_18 tk_ki_0 ?_
    refine tq_iret (M := mL_remove) (pc := 19) dL_remove_19 rfl ?_
    cases (Option.some.inj hf)
    exact hQ _ _ ⟨rfl, rfl⟩
abbrev mL_rename : tq_M := (RL, cL_rename, 5, (some .int), false, [(0, 10, 13, 13), (0, 10, 17, 15), (0, 10, 21, 17)], none)
def f_L_rename (a0 : Nat) (a1 : Int32) (a2 : Int32) (a3 : Nat) (h : tq_H) : Option (Int32 × tq_H) :=
  (tq_is h a0 10).bind fun _ =>
  (f_X10_rename a0 a1 a2 h).bind fun v1 => match v1 with
  | (.inl E1, w3) =>
    if E1 = "java/lang/IndexOutOfBoundsException" then
      some ((1 : Int32), w3)
    else
      if E1 = "java/lang/IllegalArgumentException" then
        some ((2 : Int32), w3)
      else
        if E1 = "java/lang/IllegalStateException" then
          some ((3 : Int32), w3)
        else
          none
  | (.inr v4, w3) =>
    (tq_sl w3 a3 (0 : Int32) (v4).toInt64).bind fun w5 =>
    some ((0 : Int32), w5)
set_option maxHeartbeats 4000000 in
set_option maxRecDepth 20000 in
theorem w_L_rename {l : Launch} {d : Nat} (hd9 : 8 ≤ d) {a0 : Nat} {a1 : Int32} {a2 : Int32} {a3 : Nat} {h : tq_H} {o : Int32 × tq_H} {Q : tq_R → tq_H → Prop} (hf : f_L_rename a0 a1 a2 a3 h = some o) (hQ : ∀ r h9, r = .inl (some (.int o.1)) ∧ o.2 = h9 → Q r h9) : tq_CW l yL_rename cL_rename 5 (some .int) [(0, 10, 13, 13), (0, 10, 17, 15), (0, 10, 21, 17)] d 4 24 [.ref a0, .int a1, .int a2, .ref a3] h Q := by
  refine tq_bodyW (y := yL_rename) (by decide +kernel) (Nat.le_of_ble_eq_true rfl) ?_
  show tq_W l mL_rename d 4 24 Q 0 [(0, .ref a0), (1, .int a1), (2, .int a2), (3, .ref a3)] [] h
  refine tq_aload_n (M := mL_rename) (pc := 0) dL_rename_0 rfl ?_
  refine tq_iconst (M := mL_rename) (pc := 1) dL_rename_1 tk_ki_0 ?_
  refine tq_aload_n (M := mL_rename) (pc := 2) dL_rename_2 rfl ?_
  refine tq_iload_n (M := mL_rename) (pc := 3) dL_rename_3 rfl ?_
  refine tq_iload_n (M := mL_rename) (pc := 4) dL_rename_4 rfl ?_
  obtain ⟨⟨⟩, eu2, hf⟩ := tq_be hf
  obtain ⟨fsu2, eu2⟩ := tq_is_s eu2
  obtain ⟨⟨E1 | v4, w3⟩, ev1, hf⟩ := tq_be hf
  · skip
    by_cases c0 : E1 = "java/lang/IndexOutOfBoundsException"
    · have hf := tq_ifp hf c0
      subst c0
      refine tq_calV (M := mL_rename) (pc := 5) (S := [.int (0 : Int32), .ref a3]) tk_y_X10_rename tk_v_X10_rename tk_RL_29 dL_rename_5 [.int a1, .int a2] rfl (S0 := _) rfl eu2 rfl (Nat.le_of_ble_eq_true rfl) (d1 := d - 1) (b1 := 4) (s1 := 24) (bc' := 0) (bs' := 0) (Q1 := fun r h9 => r = tq_enI ((.inl "java/lang/IndexOutOfBoundsException", w3) : (String ⊕ Int32) × tq_H).1 ∧ ((.inl "java/lang/IndexOutOfBoundsException", w3) : (String ⊕ Int32) × tq_H).2 = h9) (by omega) rfl rfl (w_X10_rename (by omega) ev1 (fun _ _ q => q)) (fun E h9 q => ?_) (fun r9 h9 q => nomatch (show (Sum.inl r9 : tq_R) = Sum.inr _ from q.1))
      obtain ⟨q1, rfl⟩ := q
      cases (show (Sum.inr E : tq_R) = Sum.inr "java/lang/IndexOutOfBoundsException" from q1)
      refine tq_catch (M := mL_rename) (pc := 5) (name := "java/lang/IndexOutOfBoundsException") [] ⟨0, 10, 13, 13⟩ [⟨0, 10, 17, 15⟩, ⟨0, 10, 21, 17⟩] rfl tk_pass_L_rename_0 (by decide) (by decide) tk_RL_13 tk_cast_IndexOutOfBoundsException ?_
      refine tq_xstore (M := mL_rename) (pc := 13) dL_rename_13 (L2 := [(4, .float 0), (0, .ref a0), (1, .int a1), (2, .int a2), (3, .ref a3)]) (by decide) rfl ?_
      refine tq_iconst (M := mL_rename) (pc := 15) dL_rename_15 tk_ki_1 ?_
      refine tq_iret (M := mL_rename) (pc := 16) dL_rename_16 rfl ?_
      cases (Option.some.inj hf)
      exact hQ _ _ ⟨rfl, rfl⟩
    have hf := tq_ifn hf c0
    by_cases c1 : E1 = "java/lang/IllegalArgumentException"
    · have hf := tq_ifp hf c1
      subst c1
      refine tq_calV (M := mL_rename) (pc := 5) (S := [.int (0 : Int32), .ref a3]) tk_y_X10_rename tk_v_X10_rename tk_RL_29 dL_rename_5 [.int a1, .int a2] rfl (S0 := _) rfl eu2 rfl (Nat.le_of_ble_eq_true rfl) (d1 := d - 1) (b1 := 4) (s1 := 24) (bc' := 0) (bs' := 0) (Q1 := fun r h9 => r = tq_enI ((.inl "java/lang/IllegalArgumentException", w3) : (String ⊕ Int32) × tq_H).1 ∧ ((.inl "java/lang/IllegalArgumentException", w3) : (String ⊕ Int32) × tq_H).2 = h9) (by omega) rfl rfl (w_X10_rename (by omega) ev1 (fun _ _ q => q)) (fun E h9 q => ?_) (fun r9 h9 q => nomatch (show (Sum.inl r9 : tq_R) = Sum.inr _ from q.1))
      obtain ⟨q1, rfl⟩ := q
      cases (show (Sum.inr E : tq_R) = Sum.inr "java/lang/IllegalArgumentException" from q1)
      refine tq_catch (M := mL_rename) (pc := 5) (name := "java/lang/IllegalArgumentException") [⟨0, 10, 13, 13⟩] ⟨0, 10, 17, 15⟩ [⟨0, 10, 21, 17⟩] rfl tk_pass_L_rename_1 (by decide) (by decide) tk_RL_15 tk_cast_IllegalArgumentException ?_
      refine tq_xstore (M := mL_rename) (pc := 17) dL_rename_17 (L2 := [(4, .float 0), (0, .ref a0), (1, .int a1), (2, .int a2), (3, .ref a3)]) (by decide) rfl ?_
      refine tq_iconst (M := mL_rename) (pc := 19) dL_rename_19 tk_ki_2 ?_
      refine tq_iret (M := mL_rename) (pc := 20) dL_rename_20 rfl ?_
      cases (Option.some.inj hf)
      exact hQ _ _ ⟨rfl, rfl⟩
    have hf := tq_ifn hf c1
    by_cases c2 : E1 = "java/lang/IllegalStateException"
    · have hf := tq_ifp hf c2
      subst c2
      refine tq_calV (M := mL_rename) (pc := 5) (S := [.int (0 : Int32), .ref a3]) tk_y_X10_rename tk_v_X10_rename tk_RL_29 dL_rename_5 [.int a1, .int a2] rfl (S0 := _) rfl eu2 rfl (Nat.le_of_ble_eq_true rfl) (d1 := d - 1) (b1 := 4) (s1 := 24) (bc' := 0) (bs' := 0) (Q1 := fun r h9 => r = tq_enI ((.inl "java/lang/IllegalStateException", w3) : (String ⊕ Int32) × tq_H).1 ∧ ((.inl "java/lang/IllegalStateException", w3) : (String ⊕ Int32) × tq_H).2 = h9) (by omega) rfl rfl (w_X10_rename (by omega) ev1 (fun _ _ q => q)) (fun E h9 q => ?_) (fun r9 h9 q => nomatch (show (Sum.inl r9 : tq_R) = Sum.inr _ from q.1))
      obtain ⟨q1, rfl⟩ := q
      cases (show (Sum.inr E : tq_R) = Sum.inr "java/lang/IllegalStateException" from q1)
      refine tq_catch (M := mL_rename) (pc := 5) (name := "java/lang/IllegalStateException") [⟨0, 10, 13, 13⟩, ⟨0, 10, 17, 15⟩] ⟨0, 10, 21, 17⟩ [] rfl tk_pass_L_rename_2 (by decide) (by decide) tk_RL_17 tk_cast_IllegalStateException ?_
      refine tq_xstore (M := mL_rename) (pc := 21) dL_rename_21 (L2 := [(4, .float 0), (0, .ref a0), (1, .int a1), (2, .int a2), (3, .ref a3)]) (by decide) rfl ?_
      refine tq_iconst (M := mL_rename) (pc := 23) dL_rename_23 tk_ki_3 ?_
      refine tq_iret (M := mL_rename) (pc := 24) dL_rename_24 rfl ?_
      cases (Option.some.inj hf)
      exact hQ _ _ ⟨rfl, rfl⟩
    have hf := tq_ifn hf c2
    cases hf
  · refine tq_calV (M := mL_rename) (pc := 5) (S := [.int (0 : Int32), .ref a3]) tk_y_X10_rename tk_v_X10_rename tk_RL_29 dL_rename_5 [.int a1, .int a2] rfl (S0 := _) rfl eu2 rfl (Nat.le_of_ble_eq_true rfl) (d1 := d - 1) (b1 := 4) (s1 := 24) (bc' := 0) (bs' := 0) (Q1 := fun r h9 => r = tq_enI ((.inr v4, w3) : (String ⊕ Int32) × tq_H).1 ∧ ((.inr v4, w3) : (String ⊕ Int32) × tq_H).2 = h9) (by omega) rfl rfl (w_X10_rename (by omega) ev1 (fun _ _ q => q)) (fun E h9 q => nomatch (show (Sum.inr E : tq_R) = Sum.inl _ from q.1)) (fun r9 h9 q => ?_)
    obtain ⟨q1, rfl⟩ := q
    cases (show (Sum.inl r9 : tq_R) = Sum.inl (some (.int v4)) from q1)
    refine tq_i2l (M := mL_rename) (pc := 8) dL_rename_8 ?_
    obtain ⟨w5, ew5, hf⟩ := tq_be hf
    refine tq_lastF (M := mL_rename) (pc := 9) dL_rename_9 ew5 ?_
    refine tq_goto (M := mL_rename) (pc := 10) (tgt := 25) dL_rename_10 (by decide) ?_
    refine tq_iconst (M := mL_rename) (pc := 25) dL_rename_25 tk_ki_0 ?_
    refine tq_iret (M := mL_rename) (pc := 26) dL_rename_26 rfl ?_
    cases (Option.some.inj hf)
    exact hQ _ _ ⟨rfl, rfl⟩
abbrev mL_setValue : tq_M := (RL, cL_setValue, 5, (some .int), false, [(0, 10, 13, 13), (0, 10, 17, 15), (0, 10, 21, 17)], none)
def f_L_setValue (a0 : Nat) (a1 : Int32) (a2 : Int32) (a3 : Nat) (h : tq_H) : Option (Int32 × tq_H) :=
  (tq_is h a0 10).bind fun _ =>
  (f_X10_setValue a0 a1 a2 h).bind fun v1 => match v1 with
  | (.inl E1, w3) =>
    if E1 = "java/lang/IndexOutOfBoundsException" then
      some ((1 : Int32), w3)
    else
      if E1 = "java/lang/IllegalArgumentException" then
        some ((2 : Int32), w3)
      else
        if E1 = "java/lang/IllegalStateException" then
          some ((3 : Int32), w3)
        else
          none
  | (.inr v4, w3) =>
    (tq_sl w3 a3 (0 : Int32) (v4).toInt64).bind fun w5 =>
    some ((0 : Int32), w5)
set_option maxHeartbeats 4000000 in
set_option maxRecDepth 20000 in
theorem w_L_setValue {l : Launch} {d : Nat} (hd9 : 8 ≤ d) {a0 : Nat} {a1 : Int32} {a2 : Int32} {a3 : Nat} {h : tq_H} {o : Int32 × tq_H} {Q : tq_R → tq_H → Prop} (hf : f_L_setValue a0 a1 a2 a3 h = some o) (hQ : ∀ r h9, r = .inl (some (.int o.1)) ∧ o.2 = h9 → Q r h9) : tq_CW l yL_setValue cL_setValue 5 (some .int) [(0, 10, 13, 13), (0, 10, 17, 15), (0, 10, 21, 17)] d 4 24 [.ref a0, .int a1, .int a2, .ref a3] h Q := by
  refine tq_bodyW (y := yL_setValue) (by decide +kernel) (Nat.le_of_ble_eq_true rfl) ?_
  show tq_W l mL_setValue d 4 24 Q 0 [(0, .ref a0), (1, .int a1), (2, .int a2), (3, .ref a3)] [] h
  refine tq_aload_n (M := mL_setValue) (pc := 0) dL_setValue_0 rfl ?_
  refine tq_iconst (M := mL_setValue) (pc := 1) dL_setValue_1 tk_ki_0 ?_
  refine tq_aload_n (M := mL_setValue) (pc := 2) dL_setValue_2 rfl ?_
  refine tq_iload_n (M := mL_setValue) (pc := 3) dL_setValue_3 rfl ?_
  refine tq_iload_n (M := mL_setValue) (pc := 4) dL_setValue_4 rfl ?_
  obtain ⟨⟨⟩, eu2, hf⟩ := tq_be hf
  obtain ⟨fsu2, eu2⟩ := tq_is_s eu2
  obtain ⟨⟨E1 | v4, w3⟩, ev1, hf⟩ := tq_be hf
  · skip
    by_cases c0 : E1 = "java/lang/IndexOutOfBoundsException"
    · have hf := tq_ifp hf c0
      subst c0
      refine tq_calV (M := mL_setValue) (pc := 5) (S := [.int (0 : Int32), .ref a3]) tk_y_X10_setValue tk_v_X10_setValue tk_RL_33 dL_setValue_5 [.int a1, .int a2] rfl (S0 := _) rfl eu2 rfl (Nat.le_of_ble_eq_true rfl) (d1 := d - 1) (b1 := 4) (s1 := 24) (bc' := 0) (bs' := 0) (Q1 := fun r h9 => r = tq_enI ((.inl "java/lang/IndexOutOfBoundsException", w3) : (String ⊕ Int32) × tq_H).1 ∧ ((.inl "java/lang/IndexOutOfBoundsException", w3) : (String ⊕ Int32) × tq_H).2 = h9) (by omega) rfl rfl (w_X10_setValue (by omega) ev1 (fun _ _ q => q)) (fun E h9 q => ?_) (fun r9 h9 q => nomatch (show (Sum.inl r9 : tq_R) = Sum.inr _ from q.1))
      obtain ⟨q1, rfl⟩ := q
      cases (show (Sum.inr E : tq_R) = Sum.inr "java/lang/IndexOutOfBoundsException" from q1)
      refine tq_catch (M := mL_setValue) (pc := 5) (name := "java/lang/IndexOutOfBoundsException") [] ⟨0, 10, 13, 13⟩ [⟨0, 10, 17, 15⟩, ⟨0, 10, 21, 17⟩] rfl tk_pass_L_setValue_0 (by decide) (by decide) tk_RL_13 tk_cast_IndexOutOfBoundsException ?_
      refine tq_xstore (M := mL_setValue) (pc := 13) dL_setValue_13 (L2 := [(4, .float 0), (0, .ref a0), (1, .int a1), (2, .int a2), (3, .ref a3)]) (by decide) rfl ?_
      refine tq_iconst (M := mL_setValue) (pc := 15) dL_setValue_15 tk_ki_1 ?_
      refine tq_iret (M := mL_setValue) (pc := 16) dL_setValue_16 rfl ?_
      cases (Option.some.inj hf)
      exact hQ _ _ ⟨rfl, rfl⟩
    have hf := tq_ifn hf c0
    by_cases c1 : E1 = "java/lang/IllegalArgumentException"
    · have hf := tq_ifp hf c1
      subst c1
      refine tq_calV (M := mL_setValue) (pc := 5) (S := [.int (0 : Int32), .ref a3]) tk_y_X10_setValue tk_v_X10_setValue tk_RL_33 dL_setValue_5 [.int a1, .int a2] rfl (S0 := _) rfl eu2 rfl (Nat.le_of_ble_eq_true rfl) (d1 := d - 1) (b1 := 4) (s1 := 24) (bc' := 0) (bs' := 0) (Q1 := fun r h9 => r = tq_enI ((.inl "java/lang/IllegalArgumentException", w3) : (String ⊕ Int32) × tq_H).1 ∧ ((.inl "java/lang/IllegalArgumentException", w3) : (String ⊕ Int32) × tq_H).2 = h9) (by omega) rfl rfl (w_X10_setValue (by omega) ev1 (fun _ _ q => q)) (fun E h9 q => ?_) (fun r9 h9 q => nomatch (show (Sum.inl r9 : tq_R) = Sum.inr _ from q.1))
      obtain ⟨q1, rfl⟩ := q
      cases (show (Sum.inr E : tq_R) = Sum.inr "java/lang/IllegalArgumentException" from q1)
      refine tq_catch (M := mL_setValue) (pc := 5) (name := "java/lang/IllegalArgumentException") [⟨0, 10, 13, 13⟩] ⟨0, 10, 17, 15⟩ [⟨0, 10, 21, 17⟩] rfl tk_pass_L_setValue_1 (by decide) (by decide) tk_RL_15 tk_cast_IllegalArgumentException ?_
      refine tq_xstore (M := mL_setValue) (pc := 17) dL_setValue_17 (L2 := [(4, .float 0), (0, .ref a0), (1, .int a1), (2, .int a2), (3, .ref a3)]) (by decide) rfl ?_
      refine tq_iconst (M := mL_setValue) (pc := 19) dL_setValue_19 tk_ki_2 ?_
      refine tq_iret (M := mL_setValue) (pc := 20) dL_setValue_20 rfl ?_
      cases (Option.some.inj hf)
      exact hQ _ _ ⟨rfl, rfl⟩
    have hf := tq_ifn hf c1
    by_cases c2 : E1 = "java/lang/IllegalStateException"
    · have hf := tq_ifp hf c2
      subst c2
      refine tq_calV (M := mL_setValue) (pc := 5) (S := [.int (0 : Int32), .ref a3]) tk_y_X10_setValue tk_v_X10_setValue tk_RL_33 dL_setValue_5 [.int a1, .int a2] rfl (S0 := _) rfl eu2 rfl (Nat.le_of_ble_eq_true rfl) (d1 := d - 1) (b1 := 4) (s1 := 24) (bc' := 0) (bs' := 0) (Q1 := fun r h9 => r = tq_enI ((.inl "java/lang/IllegalStateException", w3) : (String ⊕ Int32) × tq_H).1 ∧ ((.inl "java/lang/IllegalStateException", w3) : (String ⊕ Int32) × tq_H).2 = h9) (by omega) rfl rfl (w_X10_setValue (by omega) ev1 (fun _ _ q => q)) (fun E h9 q => ?_) (fun r9 h9 q => nomatch (show (Sum.inl r9 : tq_R) = Sum.inr _ from q.1))
      obtain ⟨q1, rfl⟩ := q
      cases (show (Sum.inr E : tq_R) = Sum.inr "java/lang/IllegalStateException" from q1)
      refine tq_catch (M := mL_setValue) (pc := 5) (name := "java/lang/IllegalStateException") [⟨0, 10, 13, 13⟩, ⟨0, 10, 17, 15⟩] ⟨0, 10, 21, 17⟩ [] rfl tk_pass_L_setValue_2 (by decide) (by decide) tk_RL_17 tk_cast_IllegalStateException ?_
      refine tq_xstore (M := mL_setValue) (pc := 21) dL_setValue_21 (L2 := [(4, .float 0), (0, .ref a0), (1, .int a1), (2, .int a2), (3, .ref a3)]) (by decide) rfl ?_
      refine tq_iconst (M := mL_setValue) (pc := 23) dL_setValue_23 tk_ki_3 ?_
      refine tq_iret (M := mL_setValue) (pc := 24) dL_setValue_24 rfl ?_
      cases (Option.some.inj hf)
      exact hQ _ _ ⟨rfl, rfl⟩
    have hf := tq_ifn hf c2
    cases hf
  · refine tq_calV (M := mL_setValue) (pc := 5) (S := [.int (0 : Int32), .ref a3]) tk_y_X10_setValue tk_v_X10_setValue tk_RL_33 dL_setValue_5 [.int a1, .int a2] rfl (S0 := _) rfl eu2 rfl (Nat.le_of_ble_eq_true rfl) (d1 := d - 1) (b1 := 4) (s1 := 24) (bc' := 0) (bs' := 0) (Q1 := fun r h9 => r = tq_enI ((.inr v4, w3) : (String ⊕ Int32) × tq_H).1 ∧ ((.inr v4, w3) : (String ⊕ Int32) × tq_H).2 = h9) (by omega) rfl rfl (w_X10_setValue (by omega) ev1 (fun _ _ q => q)) (fun E h9 q => nomatch (show (Sum.inr E : tq_R) = Sum.inl _ from q.1)) (fun r9 h9 q => ?_)
    obtain ⟨q1, rfl⟩ := q
    cases (show (Sum.inl r9 : tq_R) = Sum.inl (some (.int v4)) from q1)
    refine tq_i2l (M := mL_setValue) (pc := 8) dL_setValue_8 ?_
    obtain ⟨w5, ew5, hf⟩ := tq_be hf
    refine tq_lastF (M := mL_setValue) (pc := 9) dL_setValue_9 ew5 ?_
    refine tq_goto (M := mL_setValue) (pc := 10) (tgt := 25) dL_setValue_10 (by decide) ?_
    refine tq_iconst (M := mL_setValue) (pc := 25) dL_setValue_25 tk_ki_0 ?_
    refine tq_iret (M := mL_setValue) (pc := 26) dL_setValue_26 rfl ?_
    cases (Option.some.inj hf)
    exact hQ _ _ ⟨rfl, rfl⟩
abbrev mL_move : tq_M := (RL, cL_move, 6, (some .int), false, [(0, 12, 15, 13), (0, 12, 19, 17)], none)
def f_L_move (a0 : Nat) (a1 : Int32) (a2 : Int32) (a3 : Int32) (a4 : Nat) (h : tq_H) : Option (Int32 × tq_H) :=
  (tq_is h a0 10).bind fun _ =>
  (f_X10_move a0 a1 a2 a3 h).bind fun v1 => match v1 with
  | (.inl E1, w3) =>
    if E1 = "java/lang/IndexOutOfBoundsException" then
      some ((1 : Int32), w3)
    else
      if E1 = "java/lang/IllegalStateException" then
        some ((2 : Int32), w3)
      else
        none
  | (.inr v4, w3) =>
    (tq_sl w3 a4 (0 : Int32) (v4).toInt64).bind fun w5 =>
    some ((0 : Int32), w5)
set_option maxHeartbeats 4000000 in
set_option maxRecDepth 20000 in
theorem w_L_move {l : Launch} {d : Nat} (hd9 : 9 ≤ d) {a0 : Nat} {a1 : Int32} {a2 : Int32} {a3 : Int32} {a4 : Nat} {h : tq_H} {o : Int32 × tq_H} {Q : tq_R → tq_H → Prop} (hf : f_L_move a0 a1 a2 a3 a4 h = some o) (hQ : ∀ r h9, r = .inl (some (.int o.1)) ∧ o.2 = h9 → Q r h9) : tq_CW l yL_move cL_move 6 (some .int) [(0, 12, 15, 13), (0, 12, 19, 17)] d 6 36 [.ref a0, .int a1, .int a2, .int a3, .ref a4] h Q := by
  refine tq_bodyW (y := yL_move) (by decide +kernel) (Nat.le_of_ble_eq_true rfl) ?_
  show tq_W l mL_move d 6 36 Q 0 [(0, .ref a0), (1, .int a1), (2, .int a2), (3, .int a3), (4, .ref a4)] [] h
  refine tq_aload (M := mL_move) (pc := 0) dL_move_0 rfl ?_
  refine tq_iconst (M := mL_move) (pc := 2) dL_move_2 tk_ki_0 ?_
  refine tq_aload_n (M := mL_move) (pc := 3) dL_move_3 rfl ?_
  refine tq_iload_n (M := mL_move) (pc := 4) dL_move_4 rfl ?_
  refine tq_iload_n (M := mL_move) (pc := 5) dL_move_5 rfl ?_
  refine tq_iload_n (M := mL_move) (pc := 6) dL_move_6 rfl ?_
  obtain ⟨⟨⟩, eu2, hf⟩ := tq_be hf
  obtain ⟨fsu2, eu2⟩ := tq_is_s eu2
  obtain ⟨⟨E1 | v4, w3⟩, ev1, hf⟩ := tq_be hf
  · skip
    by_cases c0 : E1 = "java/lang/IndexOutOfBoundsException"
    · have hf := tq_ifp hf c0
      subst c0
      refine tq_calV (M := mL_move) (pc := 7) (S := [.int (0 : Int32), .ref a4]) tk_y_X10_move tk_v_X10_move tk_RL_36 dL_move_7 [.int a1, .int a2, .int a3] rfl (S0 := _) rfl eu2 rfl (Nat.le_of_ble_eq_true rfl) (d1 := d - 1) (b1 := 6) (s1 := 36) (bc' := 0) (bs' := 0) (Q1 := fun r h9 => r = tq_enI ((.inl "java/lang/IndexOutOfBoundsException", w3) : (String ⊕ Int32) × tq_H).1 ∧ ((.inl "java/lang/IndexOutOfBoundsException", w3) : (String ⊕ Int32) × tq_H).2 = h9) (by omega) rfl rfl (w_X10_move (by omega) ev1 (fun _ _ q => q)) (fun E h9 q => ?_) (fun r9 h9 q => nomatch (show (Sum.inl r9 : tq_R) = Sum.inr _ from q.1))
      obtain ⟨q1, rfl⟩ := q
      cases (show (Sum.inr E : tq_R) = Sum.inr "java/lang/IndexOutOfBoundsException" from q1)
      refine tq_catch (M := mL_move) (pc := 7) (name := "java/lang/IndexOutOfBoundsException") [] ⟨0, 12, 15, 13⟩ [⟨0, 12, 19, 17⟩] rfl tk_pass_L_move_0 (by decide) (by decide) tk_RL_13 tk_cast_IndexOutOfBoundsException ?_
      refine tq_xstore (M := mL_move) (pc := 15) dL_move_15 (L2 := [(5, .float 0), (0, .ref a0), (1, .int a1), (2, .int a2), (3, .int a3), (4, .ref a4)]) (by decide) rfl ?_
      refine tq_iconst (M := mL_move) (pc := 17) dL_move_17 tk_ki_1 ?_
      refine tq_iret (M := mL_move) (pc := 18) dL_move_18 rfl ?_
      cases (Option.some.inj hf)
      exact hQ _ _ ⟨rfl, rfl⟩
    have hf := tq_ifn hf c0
    by_cases c1 : E1 = "java/lang/IllegalStateException"
    · have hf := tq_ifp hf c1
      subst c1
      refine tq_calV (M := mL_move) (pc := 7) (S := [.int (0 : Int32), .ref a4]) tk_y_X10_move tk_v_X10_move tk_RL_36 dL_move_7 [.int a1, .int a2, .int a3] rfl (S0 := _) rfl eu2 rfl (Nat.le_of_ble_eq_true rfl) (d1 := d - 1) (b1 := 6) (s1 := 36) (bc' := 0) (bs' := 0) (Q1 := fun r h9 => r = tq_enI ((.inl "java/lang/IllegalStateException", w3) : (String ⊕ Int32) × tq_H).1 ∧ ((.inl "java/lang/IllegalStateException", w3) : (String ⊕ Int32) × tq_H).2 = h9) (by omega) rfl rfl (w_X10_move (by omega) ev1 (fun _ _ q => q)) (fun E h9 q => ?_) (fun r9 h9 q => nomatch (show (Sum.inl r9 : tq_R) = Sum.inr _ from q.1))
      obtain ⟨q1, rfl⟩ := q
      cases (show (Sum.inr E : tq_R) = Sum.inr "java/lang/IllegalStateException" from q1)
      refine tq_catch (M := mL_move) (pc := 7) (name := "java/lang/IllegalStateException") [⟨0, 12, 15, 13⟩] ⟨0, 12, 19, 17⟩ [] rfl tk_pass_L_move_1 (by decide) (by decide) tk_RL_17 tk_cast_IllegalStateException ?_
      refine tq_xstore (M := mL_move) (pc := 19) dL_move_19 (L2 := [(5, .float 0), (0, .ref a0), (1, .int a1), (2, .int a2), (3, .int a3), (4, .ref a4)]) (by decide) rfl ?_
      refine tq_iconst (M := mL_move) (pc := 21) dL_move_21 tk_ki_2 ?_
      refine tq_iret (M := mL_move) (pc := 22) dL_move_22 rfl ?_
      cases (Option.some.inj hf)
      exact hQ _ _ ⟨rfl, rfl⟩
    have hf := tq_ifn hf c1
    cases hf
  · refine tq_calV (M := mL_move) (pc := 7) (S := [.int (0 : Int32), .ref a4]) tk_y_X10_move tk_v_X10_move tk_RL_36 dL_move_7 [.int a1, .int a2, .int a3] rfl (S0 := _) rfl eu2 rfl (Nat.le_of_ble_eq_true rfl) (d1 := d - 1) (b1 := 6) (s1 := 36) (bc' := 0) (bs' := 0) (Q1 := fun r h9 => r = tq_enI ((.inr v4, w3) : (String ⊕ Int32) × tq_H).1 ∧ ((.inr v4, w3) : (String ⊕ Int32) × tq_H).2 = h9) (by omega) rfl rfl (w_X10_move (by omega) ev1 (fun _ _ q => q)) (fun E h9 q => nomatch (show (Sum.inr E : tq_R) = Sum.inl _ from q.1)) (fun r9 h9 q => ?_)
    obtain ⟨q1, rfl⟩ := q
    cases (show (Sum.inl r9 : tq_R) = Sum.inl (some (.int v4)) from q1)
    refine tq_i2l (M := mL_move) (pc := 10) dL_move_10 ?_
    obtain ⟨w5, ew5, hf⟩ := tq_be hf
    refine tq_lastF (M := mL_move) (pc := 11) dL_move_11 ew5 ?_
    refine tq_goto (M := mL_move) (pc := 12) (tgt := 23) dL_move_12 (by decide) ?_
    refine tq_iconst (M := mL_move) (pc := 23) dL_move_23 tk_ki_0 ?_
    refine tq_iret (M := mL_move) (pc := 24) dL_move_24 rfl ?_
    cases (Option.some.inj hf)
    exact hQ _ _ ⟨rfl, rfl⟩
abbrev mL_declare : tq_M := (RL, cL_declare, 5, (some .int), false, [(0, 10, 13, 13), (0, 10, 17, 15), (0, 10, 21, 17)], none)
def f_L_declare (a0 : Nat) (a1 : Int32) (a2 : Int32) (a3 : Nat) (h : tq_H) : Option (Int32 × tq_H) :=
  (tq_is h a0 10).bind fun _ =>
  (f_X10_declare a0 a1 a2 h).bind fun v1 => match v1 with
  | (.inl E1, w3) =>
    if E1 = "java/lang/IndexOutOfBoundsException" then
      some ((1 : Int32), w3)
    else
      if E1 = "java/lang/IllegalArgumentException" then
        some ((2 : Int32), w3)
      else
        if E1 = "java/lang/IllegalStateException" then
          some ((3 : Int32), w3)
        else
          none
  | (.inr v4, w3) =>
    (tq_sl w3 a3 (0 : Int32) (v4).toInt64).bind fun w5 =>
    some ((0 : Int32), w5)
set_option maxHeartbeats 4000000 in
set_option maxRecDepth 20000 in
theorem w_L_declare {l : Launch} {d : Nat} (hd9 : 8 ≤ d) {a0 : Nat} {a1 : Int32} {a2 : Int32} {a3 : Nat} {h : tq_H} {o : Int32 × tq_H} {Q : tq_R → tq_H → Prop} (hf : f_L_declare a0 a1 a2 a3 h = some o) (hQ : ∀ r h9, r = .inl (some (.int o.1)) ∧ o.2 = h9 → Q r h9) : tq_CW l yL_declare cL_declare 5 (some .int) [(0, 10, 13, 13), (0, 10, 17, 15), (0, 10, 21, 17)] d 4 24 [.ref a0, .int a1, .int a2, .ref a3] h Q := by
  refine tq_bodyW (y := yL_declare) (by decide +kernel) (Nat.le_of_ble_eq_true rfl) ?_
  show tq_W l mL_declare d 4 24 Q 0 [(0, .ref a0), (1, .int a1), (2, .int a2), (3, .ref a3)] [] h
  refine tq_aload_n (M := mL_declare) (pc := 0) dL_declare_0 rfl ?_
  refine tq_iconst (M := mL_declare) (pc := 1) dL_declare_1 tk_ki_0 ?_
  refine tq_aload_n (M := mL_declare) (pc := 2) dL_declare_2 rfl ?_
  refine tq_iload_n (M := mL_declare) (pc := 3) dL_declare_3 rfl ?_
  refine tq_iload_n (M := mL_declare) (pc := 4) dL_declare_4 rfl ?_
  obtain ⟨⟨⟩, eu2, hf⟩ := tq_be hf
  obtain ⟨fsu2, eu2⟩ := tq_is_s eu2
  obtain ⟨⟨E1 | v4, w3⟩, ev1, hf⟩ := tq_be hf
  · skip
    by_cases c0 : E1 = "java/lang/IndexOutOfBoundsException"
    · have hf := tq_ifp hf c0
      subst c0
      refine tq_calV (M := mL_declare) (pc := 5) (S := [.int (0 : Int32), .ref a3]) tk_y_X10_declare tk_v_X10_declare tk_RL_39 dL_declare_5 [.int a1, .int a2] rfl (S0 := _) rfl eu2 rfl (Nat.le_of_ble_eq_true rfl) (d1 := d - 1) (b1 := 4) (s1 := 24) (bc' := 0) (bs' := 0) (Q1 := fun r h9 => r = tq_enI ((.inl "java/lang/IndexOutOfBoundsException", w3) : (String ⊕ Int32) × tq_H).1 ∧ ((.inl "java/lang/IndexOutOfBoundsException", w3) : (String ⊕ Int32) × tq_H).2 = h9) (by omega) rfl rfl (w_X10_declare (by omega) ev1 (fun _ _ q => q)) (fun E h9 q => ?_) (fun r9 h9 q => nomatch (show (Sum.inl r9 : tq_R) = Sum.inr _ from q.1))
      obtain ⟨q1, rfl⟩ := q
      cases (show (Sum.inr E : tq_R) = Sum.inr "java/lang/IndexOutOfBoundsException" from q1)
      refine tq_catch (M := mL_declare) (pc := 5) (name := "java/lang/IndexOutOfBoundsException") [] ⟨0, 10, 13, 13⟩ [⟨0, 10, 17, 15⟩, ⟨0, 10, 21, 17⟩] rfl tk_pass_L_declare_0 (by decide) (by decide) tk_RL_13 tk_cast_IndexOutOfBoundsException ?_
      refine tq_xstore (M := mL_declare) (pc := 13) dL_declare_13 (L2 := [(4, .float 0), (0, .ref a0), (1, .int a1), (2, .int a2), (3, .ref a3)]) (by decide) rfl ?_
      refine tq_iconst (M := mL_declare) (pc := 15) dL_declare_15 tk_ki_1 ?_
      refine tq_iret (M := mL_declare) (pc := 16) dL_declare_16 rfl ?_
      cases (Option.some.inj hf)
      exact hQ _ _ ⟨rfl, rfl⟩
    have hf := tq_ifn hf c0
    by_cases c1 : E1 = "java/lang/IllegalArgumentException"
    · have hf := tq_ifp hf c1
      subst c1
      refine tq_calV (M := mL_declare) (pc := 5) (S := [.int (0 : Int32), .ref a3]) tk_y_X10_declare tk_v_X10_declare tk_RL_39 dL_declare_5 [.int a1, .int a2] rfl (S0 := _) rfl eu2 rfl (Nat.le_of_ble_eq_true rfl) (d1 := d - 1) (b1 := 4) (s1 := 24) (bc' := 0) (bs' := 0) (Q1 := fun r h9 => r = tq_enI ((.inl "java/lang/IllegalArgumentException", w3) : (String ⊕ Int32) × tq_H).1 ∧ ((.inl "java/lang/IllegalArgumentException", w3) : (String ⊕ Int32) × tq_H).2 = h9) (by omega) rfl rfl (w_X10_declare (by omega) ev1 (fun _ _ q => q)) (fun E h9 q => ?_) (fun r9 h9 q => nomatch (show (Sum.inl r9 : tq_R) = Sum.inr _ from q.1))
      obtain ⟨q1, rfl⟩ := q
      cases (show (Sum.inr E : tq_R) = Sum.inr "java/lang/IllegalArgumentException" from q1)
      refine tq_catch (M := mL_declare) (pc := 5) (name := "java/lang/IllegalArgumentException") [⟨0, 10, 13, 13⟩] ⟨0, 10, 17, 15⟩ [⟨0, 10, 21, 17⟩] rfl tk_pass_L_declare_1 (by decide) (by decide) tk_RL_15 tk_cast_IllegalArgumentException ?_
      refine tq_xstore (M := mL_declare) (pc := 17) dL_declare_17 (L2 := [(4, .float 0), (0, .ref a0), (1, .int a1), (2, .int a2), (3, .ref a3)]) (by decide) rfl ?_
      refine tq_iconst (M := mL_declare) (pc := 19) dL_declare_19 tk_ki_2 ?_
      refine tq_iret (M := mL_declare) (pc := 20) dL_declare_20 rfl ?_
      cases (Option.some.inj hf)
      exact hQ _ _ ⟨rfl, rfl⟩
    have hf := tq_ifn hf c1
    by_cases c2 : E1 = "java/lang/IllegalStateException"
    · have hf := tq_ifp hf c2
      subst c2
      refine tq_calV (M := mL_declare) (pc := 5) (S := [.int (0 : Int32), .ref a3]) tk_y_X10_declare tk_v_X10_declare tk_RL_39 dL_declare_5 [.int a1, .int a2] rfl (S0 := _) rfl eu2 rfl (Nat.le_of_ble_eq_true rfl) (d1 := d - 1) (b1 := 4) (s1 := 24) (bc' := 0) (bs' := 0) (Q1 := fun r h9 => r = tq_enI ((.inl "java/lang/IllegalStateException", w3) : (String ⊕ Int32) × tq_H).1 ∧ ((.inl "java/lang/IllegalStateException", w3) : (String ⊕ Int32) × tq_H).2 = h9) (by omega) rfl rfl (w_X10_declare (by omega) ev1 (fun _ _ q => q)) (fun E h9 q => ?_) (fun r9 h9 q => nomatch (show (Sum.inl r9 : tq_R) = Sum.inr _ from q.1))
      obtain ⟨q1, rfl⟩ := q
      cases (show (Sum.inr E : tq_R) = Sum.inr "java/lang/IllegalStateException" from q1)
      refine tq_catch (M := mL_declare) (pc := 5) (name := "java/lang/IllegalStateException") [⟨0, 10, 13, 13⟩, ⟨0, 10, 17, 15⟩] ⟨0, 10, 21, 17⟩ [] rfl tk_pass_L_declare_2 (by decide) (by decide) tk_RL_17 tk_cast_IllegalStateException ?_
      refine tq_xstore (M := mL_declare) (pc := 21) dL_declare_21 (L2 := [(4, .float 0), (0, .ref a0), (1, .int a1), (2, .int a2), (3, .ref a3)]) (by decide) rfl ?_
      refine tq_iconst (M := mL_declare) (pc := 23) dL_declare_23 tk_ki_3 ?_
      refine tq_iret (M := mL_declare) (pc := 24) dL_declare_24 rfl ?_
      cases (Option.some.inj hf)
      exact hQ _ _ ⟨rfl, rfl⟩
    have hf := tq_ifn hf c2
    cases hf
  · refine tq_calV (M := mL_declare) (pc := 5) (S := [.int (0 : Int32), .ref a3]) tk_y_X10_declare tk_v_X10_declare tk_RL_39 dL_declare_5 [.int a1, .int a2] rfl (S0 := _) rfl eu2 rfl (Nat.le_of_ble_eq_true rfl) (d1 := d - 1) (b1 := 4) (s1 := 24) (bc' := 0) (bs' := 0) (Q1 := fun r h9 => r = tq_enI ((.inr v4, w3) : (String ⊕ Int32) × tq_H).1 ∧ ((.inr v4, w3) : (String ⊕ Int32) × tq_H).2 = h9) (by omega) rfl rfl (w_X10_declare (by omega) ev1 (fun _ _ q => q)) (fun E h9 q => nomatch (show (Sum.inr E : tq_R) = Sum.inl _ from q.1)) (fun r9 h9 q => ?_)
    obtain ⟨q1, rfl⟩ := q
    cases (show (Sum.inl r9 : tq_R) = Sum.inl (some (.int v4)) from q1)
    refine tq_i2l (M := mL_declare) (pc := 8) dL_declare_8 ?_
    obtain ⟨w5, ew5, hf⟩ := tq_be hf
    refine tq_lastF (M := mL_declare) (pc := 9) dL_declare_9 ew5 ?_
    refine tq_goto (M := mL_declare) (pc := 10) (tgt := 25) dL_declare_10 (by decide) ?_
    refine tq_iconst (M := mL_declare) (pc := 25) dL_declare_25 tk_ki_0 ?_
    refine tq_iret (M := mL_declare) (pc := 26) dL_declare_26 rfl ?_
    cases (Option.some.inj hf)
    exact hQ _ _ ⟨rfl, rfl⟩
abbrev mL_apply : tq_M := (RL, cL_apply, 3, (some .int), false, [(0, 8, 11, 17)], none)
def f_L_apply (a0 : Nat) (a1 : Nat) (h : tq_H) : Option (Int32 × tq_H) :=
  (tq_is h a0 10).bind fun _ =>
  (f_X10_apply a0 h).bind fun v1 => match v1 with
  | (.inl E1, w3) =>
    if E1 = "java/lang/IllegalStateException" then
      some ((1 : Int32), w3)
    else
      none
  | (.inr v4, w3) =>
    (tq_sl w3 a1 (0 : Int32) (v4).toInt64).bind fun w5 =>
    some ((0 : Int32), w5)
set_option maxHeartbeats 4000000 in
set_option maxRecDepth 20000 in
theorem w_L_apply {l : Launch} {d : Nat} (hd9 : 8 ≤ d) {a0 : Nat} {a1 : Nat} {h : tq_H} {o : Int32 × tq_H} {Q : tq_R → tq_H → Prop} (hf : f_L_apply a0 a1 h = some o) (hQ : ∀ r h9, r = .inl (some (.int o.1)) ∧ o.2 = h9 → Q r h9) : tq_CW l yL_apply cL_apply 3 (some .int) [(0, 8, 11, 17)] d 1 6 [.ref a0, .ref a1] h Q := by
  refine tq_bodyW (y := yL_apply) (by decide +kernel) (Nat.le_of_ble_eq_true rfl) ?_
  show tq_W l mL_apply d 1 6 Q 0 [(0, .ref a0), (1, .ref a1)] [] h
  refine tq_aload_n (M := mL_apply) (pc := 0) dL_apply_0 rfl ?_
  refine tq_iconst (M := mL_apply) (pc := 1) dL_apply_1 tk_ki_0 ?_
  refine tq_aload_n (M := mL_apply) (pc := 2) dL_apply_2 rfl ?_
  obtain ⟨⟨⟩, eu2, hf⟩ := tq_be hf
  obtain ⟨fsu2, eu2⟩ := tq_is_s eu2
  obtain ⟨⟨E1 | v4, w3⟩, ev1, hf⟩ := tq_be hf
  · skip
    by_cases c0 : E1 = "java/lang/IllegalStateException"
    · have hf := tq_ifp hf c0
      subst c0
      refine tq_calV (M := mL_apply) (pc := 3) (S := [.int (0 : Int32), .ref a1]) tk_y_X10_apply tk_v_X10_apply tk_RL_42 dL_apply_3 [] rfl (S0 := _) rfl eu2 rfl (Nat.le_of_ble_eq_true rfl) (d1 := d - 1) (b1 := 1) (s1 := 6) (bc' := 0) (bs' := 0) (Q1 := fun r h9 => r = tq_enI ((.inl "java/lang/IllegalStateException", w3) : (String ⊕ Int32) × tq_H).1 ∧ ((.inl "java/lang/IllegalStateException", w3) : (String ⊕ Int32) × tq_H).2 = h9) (by omega) rfl rfl (w_X10_apply (by omega) ev1 (fun _ _ q => q)) (fun E h9 q => ?_) (fun r9 h9 q => nomatch (show (Sum.inl r9 : tq_R) = Sum.inr _ from q.1))
      obtain ⟨q1, rfl⟩ := q
      cases (show (Sum.inr E : tq_R) = Sum.inr "java/lang/IllegalStateException" from q1)
      refine tq_catch (M := mL_apply) (pc := 3) (name := "java/lang/IllegalStateException") [] ⟨0, 8, 11, 17⟩ [] rfl tk_pass_L_apply_0 (by decide) (by decide) tk_RL_17 tk_cast_IllegalStateException ?_
      refine tq_xstore_n (M := mL_apply) (pc := 11) rfl dL_apply_11 (L2 := [(2, .float 0), (0, .ref a0), (1, .ref a1)]) (by decide) rfl ?_
      refine tq_iconst (M := mL_apply) (pc := 12) dL_apply_12 tk_ki_1 ?_
      refine tq_iret (M := mL_apply) (pc := 13) dL_apply_13 rfl ?_
      cases (Option.some.inj hf)
      exact hQ _ _ ⟨rfl, rfl⟩
    have hf := tq_ifn hf c0
    cases hf
  · refine tq_calV (M := mL_apply) (pc := 3) (S := [.int (0 : Int32), .ref a1]) tk_y_X10_apply tk_v_X10_apply tk_RL_42 dL_apply_3 [] rfl (S0 := _) rfl eu2 rfl (Nat.le_of_ble_eq_true rfl) (d1 := d - 1) (b1 := 1) (s1 := 6) (bc' := 0) (bs' := 0) (Q1 := fun r h9 => r = tq_enI ((.inr v4, w3) : (String ⊕ Int32) × tq_H).1 ∧ ((.inr v4, w3) : (String ⊕ Int32) × tq_H).2 = h9) (by omega) rfl rfl (w_X10_apply (by omega) ev1 (fun _ _ q => q)) (fun E h9 q => nomatch (show (Sum.inr E : tq_R) = Sum.inl _ from q.1)) (fun r9 h9 q => ?_)
    obtain ⟨q1, rfl⟩ := q
    cases (show (Sum.inl r9 : tq_R) = Sum.inl (some (.int v4)) from q1)
    refine tq_i2l (M := mL_apply) (pc := 6) dL_apply_6 ?_
    obtain ⟨w5, ew5, hf⟩ := tq_be hf
    refine tq_lastF (M := mL_apply) (pc := 7) dL_apply_7 ew5 ?_
    refine tq_goto (M := mL_apply) (pc := 8) (tgt := 14) dL_apply_8 (by decide) ?_
    refine tq_iconst (M := mL_apply) (pc := 14) dL_apply_14 tk_ki_0 ?_
    refine tq_iret (M := mL_apply) (pc := 15) dL_apply_15 rfl ?_
    cases (Option.some.inj hf)
    exact hQ _ _ ⟨rfl, rfl⟩
abbrev mL_kind : tq_M := (RL, cL_kind, 4, (some .int), false, [(0, 9, 12, 13)], none)
def f_L_kind (a0 : Nat) (a1 : Int32) (a2 : Nat) (h : tq_H) : Option (Int32 × tq_H) :=
  (tq_is h a0 10).bind fun _ =>
  (f_X10_kind a0 a1 h).bind fun v1 => match v1 with
  | (.inl E1, w3) =>
    if E1 = "java/lang/IndexOutOfBoundsException" then
      some ((1 : Int32), w3)
    else
      none
  | (.inr v4, w3) =>
    (tq_sl w3 a2 (0 : Int32) (v4).toInt64).bind fun w5 =>
    some ((0 : Int32), w5)
set_option maxHeartbeats 4000000 in
set_option maxRecDepth 20000 in
theorem w_L_kind {l : Launch} {d : Nat} (hd9 : 8 ≤ d) {a0 : Nat} {a1 : Int32} {a2 : Nat} {h : tq_H} {o : Int32 × tq_H} {Q : tq_R → tq_H → Prop} (hf : f_L_kind a0 a1 a2 h = some o) (hQ : ∀ r h9, r = .inl (some (.int o.1)) ∧ o.2 = h9 → Q r h9) : tq_CW l yL_kind cL_kind 4 (some .int) [(0, 9, 12, 13)] d 1 6 [.ref a0, .int a1, .ref a2] h Q := by
  refine tq_bodyW (y := yL_kind) (by decide +kernel) (Nat.le_of_ble_eq_true rfl) ?_
  show tq_W l mL_kind d 1 6 Q 0 [(0, .ref a0), (1, .int a1), (2, .ref a2)] [] h
  refine tq_aload_n (M := mL_kind) (pc := 0) dL_kind_0 rfl ?_
  refine tq_iconst (M := mL_kind) (pc := 1) dL_kind_1 tk_ki_0 ?_
  refine tq_aload_n (M := mL_kind) (pc := 2) dL_kind_2 rfl ?_
  refine tq_iload_n (M := mL_kind) (pc := 3) dL_kind_3 rfl ?_
  obtain ⟨⟨⟩, eu2, hf⟩ := tq_be hf
  obtain ⟨fsu2, eu2⟩ := tq_is_s eu2
  obtain ⟨⟨E1 | v4, w3⟩, ev1, hf⟩ := tq_be hf
  · skip
    by_cases c0 : E1 = "java/lang/IndexOutOfBoundsException"
    · have hf := tq_ifp hf c0
      subst c0
      refine tq_calV (M := mL_kind) (pc := 4) (S := [.int (0 : Int32), .ref a2]) tk_y_X10_kind tk_v_X10_kind tk_RL_46 dL_kind_4 [.int a1] rfl (S0 := _) rfl eu2 rfl (Nat.le_of_ble_eq_true rfl) (d1 := d - 1) (b1 := 1) (s1 := 6) (bc' := 0) (bs' := 0) (Q1 := fun r h9 => r = tq_enI ((.inl "java/lang/IndexOutOfBoundsException", w3) : (String ⊕ Int32) × tq_H).1 ∧ ((.inl "java/lang/IndexOutOfBoundsException", w3) : (String ⊕ Int32) × tq_H).2 = h9) (by omega) rfl rfl (w_X10_kind (by omega) ev1 (fun _ _ q => q)) (fun E h9 q => ?_) (fun r9 h9 q => nomatch (show (Sum.inl r9 : tq_R) = Sum.inr _ from q.1))
      obtain ⟨q1, rfl⟩ := q
      cases (show (Sum.inr E : tq_R) = Sum.inr "java/lang/IndexOutOfBoundsException" from q1)
      refine tq_catch (M := mL_kind) (pc := 4) (name := "java/lang/IndexOutOfBoundsException") [] ⟨0, 9, 12, 13⟩ [] rfl tk_pass_L_kind_0 (by decide) (by decide) tk_RL_13 tk_cast_IndexOutOfBoundsException ?_
      refine tq_xstore_n (M := mL_kind) (pc := 12) rfl dL_kind_12 (L2 := [(3, .float 0), (0, .ref a0), (1, .int a1), (2, .ref a2)]) (by decide) rfl ?_
      refine tq_iconst (M := mL_kind) (pc := 13) dL_kind_13 tk_ki_1 ?_
      refine tq_iret (M := mL_kind) (pc := 14) dL_kind_14 rfl ?_
      cases (Option.some.inj hf)
      exact hQ _ _ ⟨rfl, rfl⟩
    have hf := tq_ifn hf c0
    cases hf
  · refine tq_calV (M := mL_kind) (pc := 4) (S := [.int (0 : Int32), .ref a2]) tk_y_X10_kind tk_v_X10_kind tk_RL_46 dL_kind_4 [.int a1] rfl (S0 := _) rfl eu2 rfl (Nat.le_of_ble_eq_true rfl) (d1 := d - 1) (b1 := 1) (s1 := 6) (bc' := 0) (bs' := 0) (Q1 := fun r h9 => r = tq_enI ((.inr v4, w3) : (String ⊕ Int32) × tq_H).1 ∧ ((.inr v4, w3) : (String ⊕ Int32) × tq_H).2 = h9) (by omega) rfl rfl (w_X10_kind (by omega) ev1 (fun _ _ q => q)) (fun E h9 q => nomatch (show (Sum.inr E : tq_R) = Sum.inl _ from q.1)) (fun r9 h9 q => ?_)
    obtain ⟨q1, rfl⟩ := q
    cases (show (Sum.inl r9 : tq_R) = Sum.inl (some (.int v4)) from q1)
    refine tq_i2l (M := mL_kind) (pc := 7) dL_kind_7 ?_
    obtain ⟨w5, ew5, hf⟩ := tq_be hf
    refine tq_lastF (M := mL_kind) (pc := 8) dL_kind_8 ew5 ?_
    refine tq_goto (M := mL_kind) (pc := 9) (tgt := 15) dL_kind_9 (by decide) ?_
    refine tq_iconst (M := mL_kind) (pc := 15) dL_kind_15 tk_ki_0 ?_
    refine tq_iret (M := mL_kind) (pc := 16) dL_kind_16 rfl ?_
    cases (Option.some.inj hf)
    exact hQ _ _ ⟨rfl, rfl⟩
abbrev mL_name : tq_M := (RL, cL_name, 4, (some .int), false, [(0, 9, 12, 13)], none)
def f_L_name (a0 : Nat) (a1 : Int32) (a2 : Nat) (h : tq_H) : Option (Int32 × tq_H) :=
  (tq_is h a0 10).bind fun _ =>
  (f_X10_name a0 a1 h).bind fun v1 => match v1 with
  | (.inl E1, w3) =>
    if E1 = "java/lang/IndexOutOfBoundsException" then
      some ((1 : Int32), w3)
    else
      none
  | (.inr v4, w3) =>
    (tq_sl w3 a2 (0 : Int32) (v4).toInt64).bind fun w5 =>
    some ((0 : Int32), w5)
set_option maxHeartbeats 4000000 in
set_option maxRecDepth 20000 in
theorem w_L_name {l : Launch} {d : Nat} (hd9 : 8 ≤ d) {a0 : Nat} {a1 : Int32} {a2 : Nat} {h : tq_H} {o : Int32 × tq_H} {Q : tq_R → tq_H → Prop} (hf : f_L_name a0 a1 a2 h = some o) (hQ : ∀ r h9, r = .inl (some (.int o.1)) ∧ o.2 = h9 → Q r h9) : tq_CW l yL_name cL_name 4 (some .int) [(0, 9, 12, 13)] d 1 6 [.ref a0, .int a1, .ref a2] h Q := by
  refine tq_bodyW (y := yL_name) (by decide +kernel) (Nat.le_of_ble_eq_true rfl) ?_
  show tq_W l mL_name d 1 6 Q 0 [(0, .ref a0), (1, .int a1), (2, .ref a2)] [] h
  refine tq_aload_n (M := mL_name) (pc := 0) dL_name_0 rfl ?_
  refine tq_iconst (M := mL_name) (pc := 1) dL_name_1 tk_ki_0 ?_
  refine tq_aload_n (M := mL_name) (pc := 2) dL_name_2 rfl ?_
  refine tq_iload_n (M := mL_name) (pc := 3) dL_name_3 rfl ?_
  obtain ⟨⟨⟩, eu2, hf⟩ := tq_be hf
  obtain ⟨fsu2, eu2⟩ := tq_is_s eu2
  obtain ⟨⟨E1 | v4, w3⟩, ev1, hf⟩ := tq_be hf
  · skip
    by_cases c0 : E1 = "java/lang/IndexOutOfBoundsException"
    · have hf := tq_ifp hf c0
      subst c0
      refine tq_calV (M := mL_name) (pc := 4) (S := [.int (0 : Int32), .ref a2]) tk_y_X10_name tk_v_X10_name tk_RL_49 dL_name_4 [.int a1] rfl (S0 := _) rfl eu2 rfl (Nat.le_of_ble_eq_true rfl) (d1 := d - 1) (b1 := 1) (s1 := 6) (bc' := 0) (bs' := 0) (Q1 := fun r h9 => r = tq_enI ((.inl "java/lang/IndexOutOfBoundsException", w3) : (String ⊕ Int32) × tq_H).1 ∧ ((.inl "java/lang/IndexOutOfBoundsException", w3) : (String ⊕ Int32) × tq_H).2 = h9) (by omega) rfl rfl (w_X10_name (by omega) ev1 (fun _ _ q => q)) (fun E h9 q => ?_) (fun r9 h9 q => nomatch (show (Sum.inl r9 : tq_R) = Sum.inr _ from q.1))
      obtain ⟨q1, rfl⟩ := q
      cases (show (Sum.inr E : tq_R) = Sum.inr "java/lang/IndexOutOfBoundsException" from q1)
      refine tq_catch (M := mL_name) (pc := 4) (name := "java/lang/IndexOutOfBoundsException") [] ⟨0, 9, 12, 13⟩ [] rfl tk_pass_L_name_0 (by decide) (by decide) tk_RL_13 tk_cast_IndexOutOfBoundsException ?_
      refine tq_xstore_n (M := mL_name) (pc := 12) rfl dL_name_12 (L2 := [(3, .float 0), (0, .ref a0), (1, .int a1), (2, .ref a2)]) (by decide) rfl ?_
      refine tq_iconst (M := mL_name) (pc := 13) dL_name_13 tk_ki_1 ?_
      refine tq_iret (M := mL_name) (pc := 14) dL_name_14 rfl ?_
      cases (Option.some.inj hf)
      exact hQ _ _ ⟨rfl, rfl⟩
    have hf := tq_ifn hf c0
    cases hf
  · refine tq_calV (M := mL_name) (pc := 4) (S := [.int (0 : Int32), .ref a2]) tk_y_X10_name tk_v_X10_name tk_RL_49 dL_name_4 [.int a1] rfl (S0 := _) rfl eu2 rfl (Nat.le_of_ble_eq_true rfl) (d1 := d - 1) (b1 := 1) (s1 := 6) (bc' := 0) (bs' := 0) (Q1 := fun r h9 => r = tq_enI ((.inr v4, w3) : (String ⊕ Int32) × tq_H).1 ∧ ((.inr v4, w3) : (String ⊕ Int32) × tq_H).2 = h9) (by omega) rfl rfl (w_X10_name (by omega) ev1 (fun _ _ q => q)) (fun E h9 q => nomatch (show (Sum.inr E : tq_R) = Sum.inl _ from q.1)) (fun r9 h9 q => ?_)
    obtain ⟨q1, rfl⟩ := q
    cases (show (Sum.inl r9 : tq_R) = Sum.inl (some (.int v4)) from q1)
    refine tq_i2l (M := mL_name) (pc := 7) dL_name_7 ?_
    obtain ⟨w5, ew5, hf⟩ := tq_be hf
    refine tq_lastF (M := mL_name) (pc := 8) dL_name_8 ew5 ?_
    refine tq_goto (M := mL_name) (pc := 9) (tgt := 15) dL_name_9 (by decide) ?_
    refine tq_iconst (M := mL_name) (pc := 15) dL_name_15 tk_ki_0 ?_
    refine tq_iret (M := mL_name) (pc := 16) dL_name_16 rfl ?_
    cases (Option.some.inj hf)
    exact hQ _ _ ⟨rfl, rfl⟩
abbrev mL_value : tq_M := (RL, cL_value, 4, (some .int), false, [(0, 9, 12, 13)], none)
def f_L_value (a0 : Nat) (a1 : Int32) (a2 : Nat) (h : tq_H) : Option (Int32 × tq_H) :=
  (tq_is h a0 10).bind fun _ =>
  (f_X10_value a0 a1 h).bind fun v1 => match v1 with
  | (.inl E1, w3) =>
    if E1 = "java/lang/IndexOutOfBoundsException" then
      some ((1 : Int32), w3)
    else
      none
  | (.inr v4, w3) =>
    (tq_sl w3 a2 (0 : Int32) (v4).toInt64).bind fun w5 =>
    some ((0 : Int32), w5)
set_option maxHeartbeats 4000000 in
set_option maxRecDepth 20000 in
theorem w_L_value {l : Launch} {d : Nat} (hd9 : 8 ≤ d) {a0 : Nat} {a1 : Int32} {a2 : Nat} {h : tq_H} {o : Int32 × tq_H} {Q : tq_R → tq_H → Prop} (hf : f_L_value a0 a1 a2 h = some o) (hQ : ∀ r h9, r = .inl (some (.int o.1)) ∧ o.2 = h9 → Q r h9) : tq_CW l yL_value cL_value 4 (some .int) [(0, 9, 12, 13)] d 1 6 [.ref a0, .int a1, .ref a2] h Q := by
  refine tq_bodyW (y := yL_value) (by decide +kernel) (Nat.le_of_ble_eq_true rfl) ?_
  show tq_W l mL_value d 1 6 Q 0 [(0, .ref a0), (1, .int a1), (2, .ref a2)] [] h
  refine tq_aload_n (M := mL_value) (pc := 0) dL_value_0 rfl ?_
  refine tq_iconst (M := mL_value) (pc := 1) dL_value_1 tk_ki_0 ?_
  refine tq_aload_n (M := mL_value) (pc := 2) dL_value_2 rfl ?_
  refine tq_iload_n (M := mL_value) (pc := 3) dL_value_3 rfl ?_
  obtain ⟨⟨⟩, eu2, hf⟩ := tq_be hf
  obtain ⟨fsu2, eu2⟩ := tq_is_s eu2
  obtain ⟨⟨E1 | v4, w3⟩, ev1, hf⟩ := tq_be hf
  · skip
    by_cases c0 : E1 = "java/lang/IndexOutOfBoundsException"
    · have hf := tq_ifp hf c0
      subst c0
      refine tq_calV (M := mL_value) (pc := 4) (S := [.int (0 : Int32), .ref a2]) tk_y_X10_value tk_v_X10_value tk_RL_52 dL_value_4 [.int a1] rfl (S0 := _) rfl eu2 rfl (Nat.le_of_ble_eq_true rfl) (d1 := d - 1) (b1 := 1) (s1 := 6) (bc' := 0) (bs' := 0) (Q1 := fun r h9 => r = tq_enI ((.inl "java/lang/IndexOutOfBoundsException", w3) : (String ⊕ Int32) × tq_H).1 ∧ ((.inl "java/lang/IndexOutOfBoundsException", w3) : (String ⊕ Int32) × tq_H).2 = h9) (by omega) rfl rfl (w_X10_value (by omega) ev1 (fun _ _ q => q)) (fun E h9 q => ?_) (fun r9 h9 q => nomatch (show (Sum.inl r9 : tq_R) = Sum.inr _ from q.1))
      obtain ⟨q1, rfl⟩ := q
      cases (show (Sum.inr E : tq_R) = Sum.inr "java/lang/IndexOutOfBoundsException" from q1)
      refine tq_catch (M := mL_value) (pc := 4) (name := "java/lang/IndexOutOfBoundsException") [] ⟨0, 9, 12, 13⟩ [] rfl tk_pass_L_value_0 (by decide) (by decide) tk_RL_13 tk_cast_IndexOutOfBoundsException ?_
      refine tq_xstore_n (M := mL_value) (pc := 12) rfl dL_value_12 (L2 := [(3, .float 0), (0, .ref a0), (1, .int a1), (2, .ref a2)]) (by decide) rfl ?_
      refine tq_iconst (M := mL_value) (pc := 13) dL_value_13 tk_ki_1 ?_
      refine tq_iret (M := mL_value) (pc := 14) dL_value_14 rfl ?_
      cases (Option.some.inj hf)
      exact hQ _ _ ⟨rfl, rfl⟩
    have hf := tq_ifn hf c0
    cases hf
  · refine tq_calV (M := mL_value) (pc := 4) (S := [.int (0 : Int32), .ref a2]) tk_y_X10_value tk_v_X10_value tk_RL_52 dL_value_4 [.int a1] rfl (S0 := _) rfl eu2 rfl (Nat.le_of_ble_eq_true rfl) (d1 := d - 1) (b1 := 1) (s1 := 6) (bc' := 0) (bs' := 0) (Q1 := fun r h9 => r = tq_enI ((.inr v4, w3) : (String ⊕ Int32) × tq_H).1 ∧ ((.inr v4, w3) : (String ⊕ Int32) × tq_H).2 = h9) (by omega) rfl rfl (w_X10_value (by omega) ev1 (fun _ _ q => q)) (fun E h9 q => nomatch (show (Sum.inr E : tq_R) = Sum.inl _ from q.1)) (fun r9 h9 q => ?_)
    obtain ⟨q1, rfl⟩ := q
    cases (show (Sum.inl r9 : tq_R) = Sum.inl (some (.int v4)) from q1)
    refine tq_i2l (M := mL_value) (pc := 7) dL_value_7 ?_
    obtain ⟨w5, ew5, hf⟩ := tq_be hf
    refine tq_lastF (M := mL_value) (pc := 8) dL_value_8 ew5 ?_
    refine tq_goto (M := mL_value) (pc := 9) (tgt := 15) dL_value_9 (by decide) ?_
    refine tq_iconst (M := mL_value) (pc := 15) dL_value_15 tk_ki_0 ?_
    refine tq_iret (M := mL_value) (pc := 16) dL_value_16 rfl ?_
    cases (Option.some.inj hf)
    exact hQ _ _ ⟨rfl, rfl⟩
abbrev mL_parent : tq_M := (RL, cL_parent, 4, (some .int), false, [(0, 9, 12, 13)], none)
def f_L_parent (a0 : Nat) (a1 : Int32) (a2 : Nat) (h : tq_H) : Option (Int32 × tq_H) :=
  (tq_is h a0 10).bind fun _ =>
  (f_X10_parent a0 a1 h).bind fun v1 => match v1 with
  | (.inl E1, w3) =>
    if E1 = "java/lang/IndexOutOfBoundsException" then
      some ((1 : Int32), w3)
    else
      none
  | (.inr v4, w3) =>
    (tq_sl w3 a2 (0 : Int32) (v4).toInt64).bind fun w5 =>
    some ((0 : Int32), w5)
set_option maxHeartbeats 4000000 in
set_option maxRecDepth 20000 in
theorem w_L_parent {l : Launch} {d : Nat} (hd9 : 8 ≤ d) {a0 : Nat} {a1 : Int32} {a2 : Nat} {h : tq_H} {o : Int32 × tq_H} {Q : tq_R → tq_H → Prop} (hf : f_L_parent a0 a1 a2 h = some o) (hQ : ∀ r h9, r = .inl (some (.int o.1)) ∧ o.2 = h9 → Q r h9) : tq_CW l yL_parent cL_parent 4 (some .int) [(0, 9, 12, 13)] d 1 6 [.ref a0, .int a1, .ref a2] h Q := by
  refine tq_bodyW (y := yL_parent) (by decide +kernel) (Nat.le_of_ble_eq_true rfl) ?_
  show tq_W l mL_parent d 1 6 Q 0 [(0, .ref a0), (1, .int a1), (2, .ref a2)] [] h
  refine tq_aload_n (M := mL_parent) (pc := 0) dL_parent_0 rfl ?_
  refine tq_iconst (M := mL_parent) (pc := 1) dL_parent_1 tk_ki_0 ?_
  refine tq_aload_n (M := mL_parent) (pc := 2) dL_parent_2 rfl ?_
  refine tq_iload_n (M := mL_parent) (pc := 3) dL_parent_3 rfl ?_
  obtain ⟨⟨⟩, eu2, hf⟩ := tq_be hf
  obtain ⟨fsu2, eu2⟩ := tq_is_s eu2
  obtain ⟨⟨E1 | v4, w3⟩, ev1, hf⟩ := tq_be hf
  · skip
    by_cases c0 : E1 = "java/lang/IndexOutOfBoundsException"
    · have hf := tq_ifp hf c0
      subst c0
      refine tq_calV (M := mL_parent) (pc := 4) (S := [.int (0 : Int32), .ref a2]) tk_y_X10_parent tk_v_X10_parent tk_RL_55 dL_parent_4 [.int a1] rfl (S0 := _) rfl eu2 rfl (Nat.le_of_ble_eq_true rfl) (d1 := d - 1) (b1 := 1) (s1 := 6) (bc' := 0) (bs' := 0) (Q1 := fun r h9 => r = tq_enI ((.inl "java/lang/IndexOutOfBoundsException", w3) : (String ⊕ Int32) × tq_H).1 ∧ ((.inl "java/lang/IndexOutOfBoundsException", w3) : (String ⊕ Int32) × tq_H).2 = h9) (by omega) rfl rfl (w_X10_parent (by omega) ev1 (fun _ _ q => q)) (fun E h9 q => ?_) (fun r9 h9 q => nomatch (show (Sum.inl r9 : tq_R) = Sum.inr _ from q.1))
      obtain ⟨q1, rfl⟩ := q
      cases (show (Sum.inr E : tq_R) = Sum.inr "java/lang/IndexOutOfBoundsException" from q1)
      refine tq_catch (M := mL_parent) (pc := 4) (name := "java/lang/IndexOutOfBoundsException") [] ⟨0, 9, 12, 13⟩ [] rfl tk_pass_L_parent_0 (by decide) (by decide) tk_RL_13 tk_cast_IndexOutOfBoundsException ?_
      refine tq_xstore_n (M := mL_parent) (pc := 12) rfl dL_parent_12 (L2 := [(3, .float 0), (0, .ref a0), (1, .int a1), (2, .ref a2)]) (by decide) rfl ?_
      refine tq_iconst (M := mL_parent) (pc := 13) dL_parent_13 tk_ki_1 ?_
      refine tq_iret (M := mL_parent) (pc := 14) dL_parent_14 rfl ?_
      cases (Option.some.inj hf)
      exact hQ _ _ ⟨rfl, rfl⟩
    have hf := tq_ifn hf c0
    cases hf
  · refine tq_calV (M := mL_parent) (pc := 4) (S := [.int (0 : Int32), .ref a2]) tk_y_X10_parent tk_v_X10_parent tk_RL_55 dL_parent_4 [.int a1] rfl (S0 := _) rfl eu2 rfl (Nat.le_of_ble_eq_true rfl) (d1 := d - 1) (b1 := 1) (s1 := 6) (bc' := 0) (bs' := 0) (Q1 := fun r h9 => r = tq_enI ((.inr v4, w3) : (String ⊕ Int32) × tq_H).1 ∧ ((.inr v4, w3) : (String ⊕ Int32) × tq_H).2 = h9) (by omega) rfl rfl (w_X10_parent (by omega) ev1 (fun _ _ q => q)) (fun E h9 q => nomatch (show (Sum.inr E : tq_R) = Sum.inl _ from q.1)) (fun r9 h9 q => ?_)
    obtain ⟨q1, rfl⟩ := q
    cases (show (Sum.inl r9 : tq_R) = Sum.inl (some (.int v4)) from q1)
    refine tq_i2l (M := mL_parent) (pc := 7) dL_parent_7 ?_
    obtain ⟨w5, ew5, hf⟩ := tq_be hf
    refine tq_lastF (M := mL_parent) (pc := 8) dL_parent_8 ew5 ?_
    refine tq_goto (M := mL_parent) (pc := 9) (tgt := 15) dL_parent_9 (by decide) ?_
    refine tq_iconst (M := mL_parent) (pc := 15) dL_parent_15 tk_ki_0 ?_
    refine tq_iret (M := mL_parent) (pc := 16) dL_parent_16 rfl ?_
    cases (Option.some.inj hf)
    exact hQ _ _ ⟨rfl, rfl⟩
abbrev mL_child : tq_M := (RL, cL_child, 5, (some .int), false, [(0, 10, 13, 13)], none)
def f_L_child (a0 : Nat) (a1 : Int32) (a2 : Int32) (a3 : Nat) (h : tq_H) : Option (Int32 × tq_H) :=
  (tq_is h a0 10).bind fun _ =>
  (f_X10_child a0 a1 a2 h).bind fun v1 => match v1 with
  | (.inl E1, w3) =>
    if E1 = "java/lang/IndexOutOfBoundsException" then
      some ((1 : Int32), w3)
    else
      none
  | (.inr v4, w3) =>
    (tq_sl w3 a3 (0 : Int32) (v4).toInt64).bind fun w5 =>
    some ((0 : Int32), w5)
set_option maxHeartbeats 4000000 in
set_option maxRecDepth 20000 in
theorem w_L_child {l : Launch} {d : Nat} (hd9 : 8 ≤ d) {a0 : Nat} {a1 : Int32} {a2 : Int32} {a3 : Nat} {h : tq_H} {o : Int32 × tq_H} {Q : tq_R → tq_H → Prop} (hf : f_L_child a0 a1 a2 a3 h = some o) (hQ : ∀ r h9, r = .inl (some (.int o.1)) ∧ o.2 = h9 → Q r h9) : tq_CW l yL_child cL_child 5 (some .int) [(0, 10, 13, 13)] d 2 12 [.ref a0, .int a1, .int a2, .ref a3] h Q := by
  refine tq_bodyW (y := yL_child) (by decide +kernel) (Nat.le_of_ble_eq_true rfl) ?_
  show tq_W l mL_child d 2 12 Q 0 [(0, .ref a0), (1, .int a1), (2, .int a2), (3, .ref a3)] [] h
  refine tq_aload_n (M := mL_child) (pc := 0) dL_child_0 rfl ?_
  refine tq_iconst (M := mL_child) (pc := 1) dL_child_1 tk_ki_0 ?_
  refine tq_aload_n (M := mL_child) (pc := 2) dL_child_2 rfl ?_
  refine tq_iload_n (M := mL_child) (pc := 3) dL_child_3 rfl ?_
  refine tq_iload_n (M := mL_child) (pc := 4) dL_child_4 rfl ?_
  obtain ⟨⟨⟩, eu2, hf⟩ := tq_be hf
  obtain ⟨fsu2, eu2⟩ := tq_is_s eu2
  obtain ⟨⟨E1 | v4, w3⟩, ev1, hf⟩ := tq_be hf
  · skip
    by_cases c0 : E1 = "java/lang/IndexOutOfBoundsException"
    · have hf := tq_ifp hf c0
      subst c0
      refine tq_calV (M := mL_child) (pc := 5) (S := [.int (0 : Int32), .ref a3]) tk_y_X10_child tk_v_X10_child tk_RL_58 dL_child_5 [.int a1, .int a2] rfl (S0 := _) rfl eu2 rfl (Nat.le_of_ble_eq_true rfl) (d1 := d - 1) (b1 := 2) (s1 := 12) (bc' := 0) (bs' := 0) (Q1 := fun r h9 => r = tq_enI ((.inl "java/lang/IndexOutOfBoundsException", w3) : (String ⊕ Int32) × tq_H).1 ∧ ((.inl "java/lang/IndexOutOfBoundsException", w3) : (String ⊕ Int32) × tq_H).2 = h9) (by omega) rfl rfl (w_X10_child (by omega) ev1 (fun _ _ q => q)) (fun E h9 q => ?_) (fun r9 h9 q => nomatch (show (Sum.inl r9 : tq_R) = Sum.inr _ from q.1))
      obtain ⟨q1, rfl⟩ := q
      cases (show (Sum.inr E : tq_R) = Sum.inr "java/lang/IndexOutOfBoundsException" from q1)
      refine tq_catch (M := mL_child) (pc := 5) (name := "java/lang/IndexOutOfBoundsException") [] ⟨0, 10, 13, 13⟩ [] rfl tk_pass_L_child_0 (by decide) (by decide) tk_RL_13 tk_cast_IndexOutOfBoundsException ?_
      refine tq_xstore (M := mL_child) (pc := 13) dL_child_13 (L2 := [(4, .float 0), (0, .ref a0), (1, .int a1), (2, .int a2), (3, .ref a3)]) (by decide) rfl ?_
      refine tq_iconst (M := mL_child) (pc := 15) dL_child_15 tk_ki_1 ?_
      refine tq_iret (M := mL_child) (pc := 16) dL_child_16 rfl ?_
      cases (Option.some.inj hf)
      exact hQ _ _ ⟨rfl, rfl⟩
    have hf := tq_ifn hf c0
    cases hf
  · refine tq_calV (M := mL_child) (pc := 5) (S := [.int (0 : Int32), .ref a3]) tk_y_X10_child tk_v_X10_child tk_RL_58 dL_child_5 [.int a1, .int a2] rfl (S0 := _) rfl eu2 rfl (Nat.le_of_ble_eq_true rfl) (d1 := d - 1) (b1 := 2) (s1 := 12) (bc' := 0) (bs' := 0) (Q1 := fun r h9 => r = tq_enI ((.inr v4, w3) : (String ⊕ Int32) × tq_H).1 ∧ ((.inr v4, w3) : (String ⊕ Int32) × tq_H).2 = h9) (by omega) rfl rfl (w_X10_child (by omega) ev1 (fun _ _ q => q)) (fun E h9 q => nomatch (show (Sum.inr E : tq_R) = Sum.inl _ from q.1)) (fun r9 h9 q => ?_)
    obtain ⟨q1, rfl⟩ := q
    cases (show (Sum.inl r9 : tq_R) = Sum.inl (some (.int v4)) from q1)
    refine tq_i2l (M := mL_child) (pc := 8) dL_child_8 ?_
    obtain ⟨w5, ew5, hf⟩ := tq_be hf
    refine tq_lastF (M := mL_child) (pc := 9) dL_child_9 ew5 ?_
    refine tq_goto (M := mL_child) (pc := 10) (tgt := 17) dL_child_10 (by decide) ?_
    refine tq_iconst (M := mL_child) (pc := 17) dL_child_17 tk_ki_0 ?_
    refine tq_iret (M := mL_child) (pc := 18) dL_child_18 rfl ?_
    cases (Option.some.inj hf)
    exact hQ _ _ ⟨rfl, rfl⟩
abbrev mL_space : tq_M := (RL, cL_space, 4, (some .int), false, [(0, 9, 12, 13)], none)
def f_L_space (a0 : Nat) (a1 : Int32) (a2 : Nat) (h : tq_H) : Option (Int32 × tq_H) :=
  (tq_is h a0 10).bind fun _ =>
  (f_X10_space a0 a1 h).bind fun v1 => match v1 with
  | (.inl E1, w3) =>
    if E1 = "java/lang/IndexOutOfBoundsException" then
      some ((1 : Int32), w3)
    else
      none
  | (.inr v4, w3) =>
    (tq_sl w3 a2 (0 : Int32) (v4).toInt64).bind fun w5 =>
    some ((0 : Int32), w5)
set_option maxHeartbeats 4000000 in
set_option maxRecDepth 20000 in
theorem w_L_space {l : Launch} {d : Nat} (hd9 : 8 ≤ d) {a0 : Nat} {a1 : Int32} {a2 : Nat} {h : tq_H} {o : Int32 × tq_H} {Q : tq_R → tq_H → Prop} (hf : f_L_space a0 a1 a2 h = some o) (hQ : ∀ r h9, r = .inl (some (.int o.1)) ∧ o.2 = h9 → Q r h9) : tq_CW l yL_space cL_space 4 (some .int) [(0, 9, 12, 13)] d 1 6 [.ref a0, .int a1, .ref a2] h Q := by
  refine tq_bodyW (y := yL_space) (by decide +kernel) (Nat.le_of_ble_eq_true rfl) ?_
  show tq_W l mL_space d 1 6 Q 0 [(0, .ref a0), (1, .int a1), (2, .ref a2)] [] h
  refine tq_aload_n (M := mL_space) (pc := 0) dL_space_0 rfl ?_
  refine tq_iconst (M := mL_space) (pc := 1) dL_space_1 tk_ki_0 ?_
  refine tq_aload_n (M := mL_space) (pc := 2) dL_space_2 rfl ?_
  refine tq_iload_n (M := mL_space) (pc := 3) dL_space_3 rfl ?_
  obtain ⟨⟨⟩, eu2, hf⟩ := tq_be hf
  obtain ⟨fsu2, eu2⟩ := tq_is_s eu2
  obtain ⟨⟨E1 | v4, w3⟩, ev1, hf⟩ := tq_be hf
  · skip
    by_cases c0 : E1 = "java/lang/IndexOutOfBoundsException"
    · have hf := tq_ifp hf c0
      subst c0
      refine tq_calV (M := mL_space) (pc := 4) (S := [.int (0 : Int32), .ref a2]) tk_y_X10_space tk_v_X10_space tk_RL_61 dL_space_4 [.int a1] rfl (S0 := _) rfl eu2 rfl (Nat.le_of_ble_eq_true rfl) (d1 := d - 1) (b1 := 1) (s1 := 6) (bc' := 0) (bs' := 0) (Q1 := fun r h9 => r = tq_enI ((.inl "java/lang/IndexOutOfBoundsException", w3) : (String ⊕ Int32) × tq_H).1 ∧ ((.inl "java/lang/IndexOutOfBoundsException", w3) : (String ⊕ Int32) × tq_H).2 = h9) (by omega) rfl rfl (w_X10_space (by omega) ev1 (fun _ _ q => q)) (fun E h9 q => ?_) (fun r9 h9 q => nomatch (show (Sum.inl r9 : tq_R) = Sum.inr _ from q.1))
      obtain ⟨q1, rfl⟩ := q
      cases (show (Sum.inr E : tq_R) = Sum.inr "java/lang/IndexOutOfBoundsException" from q1)
      refine tq_catch (M := mL_space) (pc := 4) (name := "java/lang/IndexOutOfBoundsException") [] ⟨0, 9, 12, 13⟩ [] rfl tk_pass_L_space_0 (by decide) (by decide) tk_RL_13 tk_cast_IndexOutOfBoundsException ?_
      refine tq_xstore_n (M := mL_space) (pc := 12) rfl dL_space_12 (L2 := [(3, .float 0), (0, .ref a0), (1, .int a1), (2, .ref a2)]) (by decide) rfl ?_
      refine tq_iconst (M := mL_space) (pc := 13) dL_space_13 tk_ki_1 ?_
      refine tq_iret (M := mL_space) (pc := 14) dL_space_14 rfl ?_
      cases (Option.some.inj hf)
      exact hQ _ _ ⟨rfl, rfl⟩
    have hf := tq_ifn hf c0
    cases hf
  · refine tq_calV (M := mL_space) (pc := 4) (S := [.int (0 : Int32), .ref a2]) tk_y_X10_space tk_v_X10_space tk_RL_61 dL_space_4 [.int a1] rfl (S0 := _) rfl eu2 rfl (Nat.le_of_ble_eq_true rfl) (d1 := d - 1) (b1 := 1) (s1 := 6) (bc' := 0) (bs' := 0) (Q1 := fun r h9 => r = tq_enI ((.inr v4, w3) : (String ⊕ Int32) × tq_H).1 ∧ ((.inr v4, w3) : (String ⊕ Int32) × tq_H).2 = h9) (by omega) rfl rfl (w_X10_space (by omega) ev1 (fun _ _ q => q)) (fun E h9 q => nomatch (show (Sum.inr E : tq_R) = Sum.inl _ from q.1)) (fun r9 h9 q => ?_)
    obtain ⟨q1, rfl⟩ := q
    cases (show (Sum.inl r9 : tq_R) = Sum.inl (some (.int v4)) from q1)
    refine tq_i2l (M := mL_space) (pc := 7) dL_space_7 ?_
    obtain ⟨w5, ew5, hf⟩ := tq_be hf
    refine tq_lastF (M := mL_space) (pc := 8) dL_space_8 ew5 ?_
    refine tq_goto (M := mL_space) (pc := 9) (tgt := 15) dL_space_9 (by decide) ?_
    refine tq_iconst (M := mL_space) (pc := 15) dL_space_15 tk_ki_0 ?_
    refine tq_iret (M := mL_space) (pc := 16) dL_space_16 rfl ?_
    cases (Option.some.inj hf)
    exact hQ _ _ ⟨rfl, rfl⟩
abbrev mL_number : tq_M := (RL, cL_number, 4, (some .int), false, [(0, 9, 12, 13)], none)
def f_L_number (a0 : Nat) (a1 : Int32) (a2 : Nat) (h : tq_H) : Option (Int32 × tq_H) :=
  (tq_is h a0 10).bind fun _ =>
  (f_X10_number a0 a1 h).bind fun v1 => match v1 with
  | (.inl E1, w3) =>
    if E1 = "java/lang/IndexOutOfBoundsException" then
      some ((1 : Int32), w3)
    else
      none
  | (.inr v4, w3) =>
    (tq_sl w3 a2 (0 : Int32) (v4).toInt64).bind fun w5 =>
    some ((0 : Int32), w5)
set_option maxHeartbeats 4000000 in
set_option maxRecDepth 20000 in
theorem w_L_number {l : Launch} {d : Nat} (hd9 : 8 ≤ d) {a0 : Nat} {a1 : Int32} {a2 : Nat} {h : tq_H} {o : Int32 × tq_H} {Q : tq_R → tq_H → Prop} (hf : f_L_number a0 a1 a2 h = some o) (hQ : ∀ r h9, r = .inl (some (.int o.1)) ∧ o.2 = h9 → Q r h9) : tq_CW l yL_number cL_number 4 (some .int) [(0, 9, 12, 13)] d 1 6 [.ref a0, .int a1, .ref a2] h Q := by
  refine tq_bodyW (y := yL_number) (by decide +kernel) (Nat.le_of_ble_eq_true rfl) ?_
  show tq_W l mL_number d 1 6 Q 0 [(0, .ref a0), (1, .int a1), (2, .ref a2)] [] h
  refine tq_aload_n (M := mL_number) (pc := 0) dL_number_0 rfl ?_
  refine tq_iconst (M := mL_number) (pc := 1) dL_number_1 tk_ki_0 ?_
  refine tq_aload_n (M := mL_number) (pc := 2) dL_number_2 rfl ?_
  refine tq_iload_n (M := mL_number) (pc := 3) dL_number_3 rfl ?_
  obtain ⟨⟨⟩, eu2, hf⟩ := tq_be hf
  obtain ⟨fsu2, eu2⟩ := tq_is_s eu2
  obtain ⟨⟨E1 | v4, w3⟩, ev1, hf⟩ := tq_be hf
  · skip
    by_cases c0 : E1 = "java/lang/IndexOutOfBoundsException"
    · have hf := tq_ifp hf c0
      subst c0
      refine tq_calV (M := mL_number) (pc := 4) (S := [.int (0 : Int32), .ref a2]) tk_y_X10_number tk_v_X10_number tk_RL_64 dL_number_4 [.int a1] rfl (S0 := _) rfl eu2 rfl (Nat.le_of_ble_eq_true rfl) (d1 := d - 1) (b1 := 1) (s1 := 6) (bc' := 0) (bs' := 0) (Q1 := fun r h9 => r = tq_enI ((.inl "java/lang/IndexOutOfBoundsException", w3) : (String ⊕ Int32) × tq_H).1 ∧ ((.inl "java/lang/IndexOutOfBoundsException", w3) : (String ⊕ Int32) × tq_H).2 = h9) (by omega) rfl rfl (w_X10_number (by omega) ev1 (fun _ _ q => q)) (fun E h9 q => ?_) (fun r9 h9 q => nomatch (show (Sum.inl r9 : tq_R) = Sum.inr _ from q.1))
      obtain ⟨q1, rfl⟩ := q
      cases (show (Sum.inr E : tq_R) = Sum.inr "java/lang/IndexOutOfBoundsException" from q1)
      refine tq_catch (M := mL_number) (pc := 4) (name := "java/lang/IndexOutOfBoundsException") [] ⟨0, 9, 12, 13⟩ [] rfl tk_pass_L_number_0 (by decide) (by decide) tk_RL_13 tk_cast_IndexOutOfBoundsException ?_
      refine tq_xstore_n (M := mL_number) (pc := 12) rfl dL_number_12 (L2 := [(3, .float 0), (0, .ref a0), (1, .int a1), (2, .ref a2)]) (by decide) rfl ?_
      refine tq_iconst (M := mL_number) (pc := 13) dL_number_13 tk_ki_1 ?_
      refine tq_iret (M := mL_number) (pc := 14) dL_number_14 rfl ?_
      cases (Option.some.inj hf)
      exact hQ _ _ ⟨rfl, rfl⟩
    have hf := tq_ifn hf c0
    cases hf
  · refine tq_calV (M := mL_number) (pc := 4) (S := [.int (0 : Int32), .ref a2]) tk_y_X10_number tk_v_X10_number tk_RL_64 dL_number_4 [.int a1] rfl (S0 := _) rfl eu2 rfl (Nat.le_of_ble_eq_true rfl) (d1 := d - 1) (b1 := 1) (s1 := 6) (bc' := 0) (bs' := 0) (Q1 := fun r h9 => r = tq_enI ((.inr v4, w3) : (String ⊕ Int32) × tq_H).1 ∧ ((.inr v4, w3) : (String ⊕ Int32) × tq_H).2 = h9) (by omega) rfl rfl (w_X10_number (by omega) ev1 (fun _ _ q => q)) (fun E h9 q => nomatch (show (Sum.inr E : tq_R) = Sum.inl _ from q.1)) (fun r9 h9 q => ?_)
    obtain ⟨q1, rfl⟩ := q
    cases (show (Sum.inl r9 : tq_R) = Sum.inl (some (.int v4)) from q1)
    refine tq_i2l (M := mL_number) (pc := 7) dL_number_7 ?_
    obtain ⟨w5, ew5, hf⟩ := tq_be hf
    refine tq_lastF (M := mL_number) (pc := 8) dL_number_8 ew5 ?_
    refine tq_goto (M := mL_number) (pc := 9) (tgt := 15) dL_number_9 (by decide) ?_
    refine tq_iconst (M := mL_number) (pc := 15) dL_number_15 tk_ki_0 ?_
    refine tq_iret (M := mL_number) (pc := 16) dL_number_16 rfl ?_
    cases (Option.some.inj hf)
    exact hQ _ _ ⟨rfl, rfl⟩
abbrev mL_path : tq_M := (RL, cL_path, 3, (some .int), false, [(0, 8, 11, 17)], none)
def f_L_path (a0 : Nat) (a1 : Nat) (h : tq_H) : Option (Int32 × tq_H) :=
  (tq_is h a0 10).bind fun _ =>
  (f_X10_path a0 h).bind fun v1 => match v1 with
  | (.inl E1, w3) =>
    if E1 = "java/lang/IllegalStateException" then
      some ((1 : Int32), w3)
    else
      none
  | (.inr v4, w3) =>
    (tq_sl w3 a1 (0 : Int32) (v4).toInt64).bind fun w5 =>
    some ((0 : Int32), w5)
set_option maxHeartbeats 4000000 in
set_option maxRecDepth 20000 in
theorem w_L_path {l : Launch} {d : Nat} (hd9 : 7 ≤ d) {a0 : Nat} {a1 : Nat} {h : tq_H} {o : Int32 × tq_H} {Q : tq_R → tq_H → Prop} (hf : f_L_path a0 a1 h = some o) (hQ : ∀ r h9, r = .inl (some (.int o.1)) ∧ o.2 = h9 → Q r h9) : tq_CW l yL_path cL_path 3 (some .int) [(0, 8, 11, 17)] d 1 6 [.ref a0, .ref a1] h Q := by
  refine tq_bodyW (y := yL_path) (by decide +kernel) (Nat.le_of_ble_eq_true rfl) ?_
  show tq_W l mL_path d 1 6 Q 0 [(0, .ref a0), (1, .ref a1)] [] h
  refine tq_aload_n (M := mL_path) (pc := 0) dL_path_0 rfl ?_
  refine tq_iconst (M := mL_path) (pc := 1) dL_path_1 tk_ki_0 ?_
  refine tq_aload_n (M := mL_path) (pc := 2) dL_path_2 rfl ?_
  obtain ⟨⟨⟩, eu2, hf⟩ := tq_be hf
  obtain ⟨fsu2, eu2⟩ := tq_is_s eu2
  obtain ⟨⟨E1 | v4, w3⟩, ev1, hf⟩ := tq_be hf
  · skip
    by_cases c0 : E1 = "java/lang/IllegalStateException"
    · have hf := tq_ifp hf c0
      subst c0
      refine tq_calV (M := mL_path) (pc := 3) (S := [.int (0 : Int32), .ref a1]) tk_y_X10_path tk_v_X10_path tk_RL_67 dL_path_3 [] rfl (S0 := _) rfl eu2 rfl (Nat.le_of_ble_eq_true rfl) (d1 := d - 1) (b1 := 1) (s1 := 6) (bc' := 0) (bs' := 0) (Q1 := fun r h9 => r = tq_enI ((.inl "java/lang/IllegalStateException", w3) : (String ⊕ Int32) × tq_H).1 ∧ ((.inl "java/lang/IllegalStateException", w3) : (String ⊕ Int32) × tq_H).2 = h9) (by omega) rfl rfl (w_X10_path (by omega) ev1 (fun _ _ q => q)) (fun E h9 q => ?_) (fun r9 h9 q => nomatch (show (Sum.inl r9 : tq_R) = Sum.inr _ from q.1))
      obtain ⟨q1, rfl⟩ := q
      cases (show (Sum.inr E : tq_R) = Sum.inr "java/lang/IllegalStateException" from q1)
      refine tq_catch (M := mL_path) (pc := 3) (name := "java/lang/IllegalStateException") [] ⟨0, 8, 11, 17⟩ [] rfl tk_pass_L_path_0 (by decide) (by decide) tk_RL_17 tk_cast_IllegalStateException ?_
      refine tq_xstore_n (M := mL_path) (pc := 11) rfl dL_path_11 (L2 := [(2, .float 0), (0, .ref a0), (1, .ref a1)]) (by decide) rfl ?_
      refine tq_iconst (M := mL_path) (pc := 12) dL_path_12 tk_ki_1 ?_
      refine tq_iret (M := mL_path) (pc := 13) dL_path_13 rfl ?_
      cases (Option.some.inj hf)
      exact hQ _ _ ⟨rfl, rfl⟩
    have hf := tq_ifn hf c0
    cases hf
  · refine tq_calV (M := mL_path) (pc := 3) (S := [.int (0 : Int32), .ref a1]) tk_y_X10_path tk_v_X10_path tk_RL_67 dL_path_3 [] rfl (S0 := _) rfl eu2 rfl (Nat.le_of_ble_eq_true rfl) (d1 := d - 1) (b1 := 1) (s1 := 6) (bc' := 0) (bs' := 0) (Q1 := fun r h9 => r = tq_enI ((.inr v4, w3) : (String ⊕ Int32) × tq_H).1 ∧ ((.inr v4, w3) : (String ⊕ Int32) × tq_H).2 = h9) (by omega) rfl rfl (w_X10_path (by omega) ev1 (fun _ _ q => q)) (fun E h9 q => nomatch (show (Sum.inr E : tq_R) = Sum.inl _ from q.1)) (fun r9 h9 q => ?_)
    obtain ⟨q1, rfl⟩ := q
    cases (show (Sum.inl r9 : tq_R) = Sum.inl (some (.int v4)) from q1)
    refine tq_i2l (M := mL_path) (pc := 6) dL_path_6 ?_
    obtain ⟨w5, ew5, hf⟩ := tq_be hf
    refine tq_lastF (M := mL_path) (pc := 7) dL_path_7 ew5 ?_
    refine tq_goto (M := mL_path) (pc := 8) (tgt := 14) dL_path_8 (by decide) ?_
    refine tq_iconst (M := mL_path) (pc := 14) dL_path_14 tk_ki_0 ?_
    refine tq_iret (M := mL_path) (pc := 15) dL_path_15 rfl ?_
    cases (Option.some.inj hf)
    exact hQ _ _ ⟨rfl, rfl⟩
abbrev mL_step : tq_M := (RL, cL_step, 7, (some .int), false, [(0, 14, 17, 13), (0, 14, 21, 15), (0, 14, 25, 17)], none)
def f_L_step (a0 : Nat) (a1 : Int32) (a2 : Int32) (a3 : Int32) (a4 : Int32) (a5 : Nat) (h : tq_H) : Option (Int32 × tq_H) :=
  (tq_is h a0 10).bind fun _ =>
  (f_X10_step a0 a1 a2 a3 a4 h).bind fun v1 => match v1 with
  | (.inl E1, w3) =>
    if E1 = "java/lang/IndexOutOfBoundsException" then
      some ((1 : Int32), w3)
    else
      if E1 = "java/lang/IllegalArgumentException" then
        some ((2 : Int32), w3)
      else
        if E1 = "java/lang/IllegalStateException" then
          some ((3 : Int32), w3)
        else
          none
  | (.inr v4, w3) =>
    (tq_sl w3 a5 (0 : Int32) (v4).toInt64).bind fun w5 =>
    some ((0 : Int32), w5)
set_option maxHeartbeats 4000000 in
set_option maxRecDepth 20000 in
theorem w_L_step {l : Launch} {d : Nat} (hd9 : 8 ≤ d) {a0 : Nat} {a1 : Int32} {a2 : Int32} {a3 : Int32} {a4 : Int32} {a5 : Nat} {h : tq_H} {o : Int32 × tq_H} {Q : tq_R → tq_H → Prop} (hf : f_L_step a0 a1 a2 a3 a4 a5 h = some o) (hQ : ∀ r h9, r = .inl (some (.int o.1)) ∧ o.2 = h9 → Q r h9) : tq_CW l yL_step cL_step 7 (some .int) [(0, 14, 17, 13), (0, 14, 21, 15), (0, 14, 25, 17)] d 6 36 [.ref a0, .int a1, .int a2, .int a3, .int a4, .ref a5] h Q := by
  refine tq_bodyW (y := yL_step) (by decide +kernel) (Nat.le_of_ble_eq_true rfl) ?_
  show tq_W l mL_step d 6 36 Q 0 [(0, .ref a0), (1, .int a1), (2, .int a2), (3, .int a3), (4, .int a4), (5, .ref a5)] [] h
  refine tq_aload (M := mL_step) (pc := 0) dL_step_0 rfl ?_
  refine tq_iconst (M := mL_step) (pc := 2) dL_step_2 tk_ki_0 ?_
  refine tq_aload_n (M := mL_step) (pc := 3) dL_step_3 rfl ?_
  refine tq_iload_n (M := mL_step) (pc := 4) dL_step_4 rfl ?_
  refine tq_iload_n (M := mL_step) (pc := 5) dL_step_5 rfl ?_
  refine tq_iload_n (M := mL_step) (pc := 6) dL_step_6 rfl ?_
  refine tq_iload (M := mL_step) (pc := 7) dL_step_7 rfl ?_
  obtain ⟨⟨⟩, eu2, hf⟩ := tq_be hf
  obtain ⟨fsu2, eu2⟩ := tq_is_s eu2
  obtain ⟨⟨E1 | v4, w3⟩, ev1, hf⟩ := tq_be hf
  · skip
    by_cases c0 : E1 = "java/lang/IndexOutOfBoundsException"
    · have hf := tq_ifp hf c0
      subst c0
      refine tq_calV (M := mL_step) (pc := 9) (S := [.int (0 : Int32), .ref a5]) tk_y_X10_step tk_v_X10_step tk_RL_70 dL_step_9 [.int a1, .int a2, .int a3, .int a4] rfl (S0 := _) rfl eu2 rfl (Nat.le_of_ble_eq_true rfl) (d1 := d - 1) (b1 := 6) (s1 := 36) (bc' := 0) (bs' := 0) (Q1 := fun r h9 => r = tq_enI ((.inl "java/lang/IndexOutOfBoundsException", w3) : (String ⊕ Int32) × tq_H).1 ∧ ((.inl "java/lang/IndexOutOfBoundsException", w3) : (String ⊕ Int32) × tq_H).2 = h9) (by omega) rfl rfl (w_X10_step (by omega) ev1 (fun _ _ q => q)) (fun E h9 q => ?_) (fun r9 h9 q => nomatch (show (Sum.inl r9 : tq_R) = Sum.inr _ from q.1))
      obtain ⟨q1, rfl⟩ := q
      cases (show (Sum.inr E : tq_R) = Sum.inr "java/lang/IndexOutOfBoundsException" from q1)
      refine tq_catch (M := mL_step) (pc := 9) (name := "java/lang/IndexOutOfBoundsException") [] ⟨0, 14, 17, 13⟩ [⟨0, 14, 21, 15⟩, ⟨0, 14, 25, 17⟩] rfl tk_pass_L_step_0 (by decide) (by decide) tk_RL_13 tk_cast_IndexOutOfBoundsException ?_
      refine tq_xstore (M := mL_step) (pc := 17) dL_step_17 (L2 := [(6, .float 0), (0, .ref a0), (1, .int a1), (2, .int a2), (3, .int a3), (4, .int a4), (5, .ref a5)]) (by decide) rfl ?_
      refine tq_iconst (M := mL_step) (pc := 19) dL_step_19 tk_ki_1 ?_
      refine tq_iret (M := mL_step) (pc := 20) dL_step_20 rfl ?_
      cases (Option.some.inj hf)
      exact hQ _ _ ⟨rfl, rfl⟩
    have hf := tq_ifn hf c0
    by_cases c1 : E1 = "java/lang/IllegalArgumentException"
    · have hf := tq_ifp hf c1
      subst c1
      refine tq_calV (M := mL_step) (pc := 9) (S := [.int (0 : Int32), .ref a5]) tk_y_X10_step tk_v_X10_step tk_RL_70 dL_step_9 [.int a1, .int a2, .int a3, .int a4] rfl (S0 := _) rfl eu2 rfl (Nat.le_of_ble_eq_true rfl) (d1 := d - 1) (b1 := 6) (s1 := 36) (bc' := 0) (bs' := 0) (Q1 := fun r h9 => r = tq_enI ((.inl "java/lang/IllegalArgumentException", w3) : (String ⊕ Int32) × tq_H).1 ∧ ((.inl "java/lang/IllegalArgumentException", w3) : (String ⊕ Int32) × tq_H).2 = h9) (by omega) rfl rfl (w_X10_step (by omega) ev1 (fun _ _ q => q)) (fun E h9 q => ?_) (fun r9 h9 q => nomatch (show (Sum.inl r9 : tq_R) = Sum.inr _ from q.1))
      obtain ⟨q1, rfl⟩ := q
      cases (show (Sum.inr E : tq_R) = Sum.inr "java/lang/IllegalArgumentException" from q1)
      refine tq_catch (M := mL_step) (pc := 9) (name := "java/lang/IllegalArgumentException") [⟨0, 14, 17, 13⟩] ⟨0, 14, 21, 15⟩ [⟨0, 14, 25, 17⟩] rfl tk_pass_L_step_1 (by decide) (by decide) tk_RL_15 tk_cast_IllegalArgumentException ?_
      refine tq_xstore (M := mL_step) (pc := 21) dL_step_21 (L2 := [(6, .float 0), (0, .ref a0), (1, .int a1), (2, .int a2), (3, .int a3), (4, .int a4), (5, .ref a5)]) (by decide) rfl ?_
      refine tq_iconst (M := mL_step) (pc := 23) dL_step_23 tk_ki_2 ?_
      refine tq_iret (M := mL_step) (pc := 24) dL_step_24 rfl ?_
      cases (Option.some.inj hf)
      exact hQ _ _ ⟨rfl, rfl⟩
    have hf := tq_ifn hf c1
    by_cases c2 : E1 = "java/lang/IllegalStateException"
    · have hf := tq_ifp hf c2
      subst c2
      refine tq_calV (M := mL_step) (pc := 9) (S := [.int (0 : Int32), .ref a5]) tk_y_X10_step tk_v_X10_step tk_RL_70 dL_step_9 [.int a1, .int a2, .int a3, .int a4] rfl (S0 := _) rfl eu2 rfl (Nat.le_of_ble_eq_true rfl) (d1 := d - 1) (b1 := 6) (s1 := 36) (bc' := 0) (bs' := 0) (Q1 := fun r h9 => r = tq_enI ((.inl "java/lang/IllegalStateException", w3) : (String ⊕ Int32) × tq_H).1 ∧ ((.inl "java/lang/IllegalStateException", w3) : (String ⊕ Int32) × tq_H).2 = h9) (by omega) rfl rfl (w_X10_step (by omega) ev1 (fun _ _ q => q)) (fun E h9 q => ?_) (fun r9 h9 q => nomatch (show (Sum.inl r9 : tq_R) = Sum.inr _ from q.1))
      obtain ⟨q1, rfl⟩ := q
      cases (show (Sum.inr E : tq_R) = Sum.inr "java/lang/IllegalStateException" from q1)
      refine tq_catch (M := mL_step) (pc := 9) (name := "java/lang/IllegalStateException") [⟨0, 14, 17, 13⟩, ⟨0, 14, 21, 15⟩] ⟨0, 14, 25, 17⟩ [] rfl tk_pass_L_step_2 (by decide) (by decide) tk_RL_17 tk_cast_IllegalStateException ?_
      refine tq_xstore (M := mL_step) (pc := 25) dL_step_25 (L2 := [(6, .float 0), (0, .ref a0), (1, .int a1), (2, .int a2), (3, .int a3), (4, .int a4), (5, .ref a5)]) (by decide) rfl ?_
      refine tq_iconst (M := mL_step) (pc := 27) dL_step_27 tk_ki_3 ?_
      refine tq_iret (M := mL_step) (pc := 28) dL_step_28 rfl ?_
      cases (Option.some.inj hf)
      exact hQ _ _ ⟨rfl, rfl⟩
    have hf := tq_ifn hf c2
    cases hf
  · refine tq_calV (M := mL_step) (pc := 9) (S := [.int (0 : Int32), .ref a5]) tk_y_X10_step tk_v_X10_step tk_RL_70 dL_step_9 [.int a1, .int a2, .int a3, .int a4] rfl (S0 := _) rfl eu2 rfl (Nat.le_of_ble_eq_true rfl) (d1 := d - 1) (b1 := 6) (s1 := 36) (bc' := 0) (bs' := 0) (Q1 := fun r h9 => r = tq_enI ((.inr v4, w3) : (String ⊕ Int32) × tq_H).1 ∧ ((.inr v4, w3) : (String ⊕ Int32) × tq_H).2 = h9) (by omega) rfl rfl (w_X10_step (by omega) ev1 (fun _ _ q => q)) (fun E h9 q => nomatch (show (Sum.inr E : tq_R) = Sum.inl _ from q.1)) (fun r9 h9 q => ?_)
    obtain ⟨q1, rfl⟩ := q
    cases (show (Sum.inl r9 : tq_R) = Sum.inl (some (.int v4)) from q1)
    refine tq_i2l (M := mL_step) (pc := 12) dL_step_12 ?_
    obtain ⟨w5, ew5, hf⟩ := tq_be hf
    refine tq_lastF (M := mL_step) (pc := 13) dL_step_13 ew5 ?_
    refine tq_goto (M := mL_step) (pc := 14) (tgt := 29) dL_step_14 (by decide) ?_
    refine tq_iconst (M := mL_step) (pc := 29) dL_step_29 tk_ki_0 ?_
    refine tq_iret (M := mL_step) (pc := 30) dL_step_30 rfl ?_
    cases (Option.some.inj hf)
    exact hQ _ _ ⟨rfl, rfl⟩
abbrev mL_place : tq_M := (RL, cL_place, 6, (some .int), false, [(0, 12, 15, 13), (0, 12, 19, 15), (0, 12, 23, 17)], none)
def f_L_place (a0 : Nat) (a1 : Int32) (a2 : Int32) (a3 : Int32) (a4 : Nat) (h : tq_H) : Option (Int32 × tq_H) :=
  (tq_is h a0 10).bind fun _ =>
  (f_X10_place a0 a1 a2 a3 h).bind fun v1 => match v1 with
  | (.inl E1, w3) =>
    if E1 = "java/lang/IndexOutOfBoundsException" then
      some ((1 : Int32), w3)
    else
      if E1 = "java/lang/IllegalArgumentException" then
        some ((2 : Int32), w3)
      else
        if E1 = "java/lang/IllegalStateException" then
          some ((3 : Int32), w3)
        else
          none
  | (.inr v4, w3) =>
    (tq_sl w3 a4 (0 : Int32) (v4).toInt64).bind fun w5 =>
    some ((0 : Int32), w5)
set_option maxHeartbeats 4000000 in
set_option maxRecDepth 20000 in
theorem w_L_place {l : Launch} {d : Nat} (hd9 : 9 ≤ d) {a0 : Nat} {a1 : Int32} {a2 : Int32} {a3 : Int32} {a4 : Nat} {h : tq_H} {o : Int32 × tq_H} {Q : tq_R → tq_H → Prop} (hf : f_L_place a0 a1 a2 a3 a4 h = some o) (hQ : ∀ r h9, r = .inl (some (.int o.1)) ∧ o.2 = h9 → Q r h9) : tq_CW l yL_place cL_place 6 (some .int) [(0, 12, 15, 13), (0, 12, 19, 15), (0, 12, 23, 17)] d 5 30 [.ref a0, .int a1, .int a2, .int a3, .ref a4] h Q := by
  refine tq_bodyW (y := yL_place) (by decide +kernel) (Nat.le_of_ble_eq_true rfl) ?_
  show tq_W l mL_place d 5 30 Q 0 [(0, .ref a0), (1, .int a1), (2, .int a2), (3, .int a3), (4, .ref a4)] [] h
  refine tq_aload (M := mL_place) (pc := 0) dL_place_0 rfl ?_
  refine tq_iconst (M := mL_place) (pc := 2) dL_place_2 tk_ki_0 ?_
  refine tq_aload_n (M := mL_place) (pc := 3) dL_place_3 rfl ?_
  refine tq_iload_n (M := mL_place) (pc := 4) dL_place_4 rfl ?_
  refine tq_iload_n (M := mL_place) (pc := 5) dL_place_5 rfl ?_
  refine tq_iload_n (M := mL_place) (pc := 6) dL_place_6 rfl ?_
  obtain ⟨⟨⟩, eu2, hf⟩ := tq_be hf
  obtain ⟨fsu2, eu2⟩ := tq_is_s eu2
  obtain ⟨⟨E1 | v4, w3⟩, ev1, hf⟩ := tq_be hf
  · skip
    by_cases c0 : E1 = "java/lang/IndexOutOfBoundsException"
    · have hf := tq_ifp hf c0
      subst c0
      refine tq_calV (M := mL_place) (pc := 7) (S := [.int (0 : Int32), .ref a4]) tk_y_X10_place tk_v_X10_place tk_RL_74 dL_place_7 [.int a1, .int a2, .int a3] rfl (S0 := _) rfl eu2 rfl (Nat.le_of_ble_eq_true rfl) (d1 := d - 1) (b1 := 5) (s1 := 30) (bc' := 0) (bs' := 0) (Q1 := fun r h9 => r = tq_enI ((.inl "java/lang/IndexOutOfBoundsException", w3) : (String ⊕ Int32) × tq_H).1 ∧ ((.inl "java/lang/IndexOutOfBoundsException", w3) : (String ⊕ Int32) × tq_H).2 = h9) (by omega) rfl rfl (w_X10_place (by omega) ev1 (fun _ _ q => q)) (fun E h9 q => ?_) (fun r9 h9 q => nomatch (show (Sum.inl r9 : tq_R) = Sum.inr _ from q.1))
      obtain ⟨q1, rfl⟩ := q
      cases (show (Sum.inr E : tq_R) = Sum.inr "java/lang/IndexOutOfBoundsException" from q1)
      refine tq_catch (M := mL_place) (pc := 7) (name := "java/lang/IndexOutOfBoundsException") [] ⟨0, 12, 15, 13⟩ [⟨0, 12, 19, 15⟩, ⟨0, 12, 23, 17⟩] rfl tk_pass_L_place_0 (by decide) (by decide) tk_RL_13 tk_cast_IndexOutOfBoundsException ?_
      refine tq_xstore (M := mL_place) (pc := 15) dL_place_15 (L2 := [(5, .float 0), (0, .ref a0), (1, .int a1), (2, .int a2), (3, .int a3), (4, .ref a4)]) (by decide) rfl ?_
      refine tq_iconst (M := mL_place) (pc := 17) dL_place_17 tk_ki_1 ?_
      refine tq_iret (M := mL_place) (pc := 18) dL_place_18 rfl ?_
      cases (Option.some.inj hf)
      exact hQ _ _ ⟨rfl, rfl⟩
    have hf := tq_ifn hf c0
    by_cases c1 : E1 = "java/lang/IllegalArgumentException"
    · have hf := tq_ifp hf c1
      subst c1
      refine tq_calV (M := mL_place) (pc := 7) (S := [.int (0 : Int32), .ref a4]) tk_y_X10_place tk_v_X10_place tk_RL_74 dL_place_7 [.int a1, .int a2, .int a3] rfl (S0 := _) rfl eu2 rfl (Nat.le_of_ble_eq_true rfl) (d1 := d - 1) (b1 := 5) (s1 := 30) (bc' := 0) (bs' := 0) (Q1 := fun r h9 => r = tq_enI ((.inl "java/lang/IllegalArgumentException", w3) : (String ⊕ Int32) × tq_H).1 ∧ ((.inl "java/lang/IllegalArgumentException", w3) : (String ⊕ Int32) × tq_H).2 = h9) (by omega) rfl rfl (w_X10_place (by omega) ev1 (fun _ _ q => q)) (fun E h9 q => ?_) (fun r9 h9 q => nomatch (show (Sum.inl r9 : tq_R) = Sum.inr _ from q.1))
      obtain ⟨q1, rfl⟩ := q
      cases (show (Sum.inr E : tq_R) = Sum.inr "java/lang/IllegalArgumentException" from q1)
      refine tq_catch (M := mL_place) (pc := 7) (name := "java/lang/IllegalArgumentException") [⟨0, 12, 15, 13⟩] ⟨0, 12, 19, 15⟩ [⟨0, 12, 23, 17⟩] rfl tk_pass_L_place_1 (by decide) (by decide) tk_RL_15 tk_cast_IllegalArgumentException ?_
      refine tq_xstore (M := mL_place) (pc := 19) dL_place_19 (L2 := [(5, .float 0), (0, .ref a0), (1, .int a1), (2, .int a2), (3, .int a3), (4, .ref a4)]) (by decide) rfl ?_
      refine tq_iconst (M := mL_place) (pc := 21) dL_place_21 tk_ki_2 ?_
      refine tq_iret (M := mL_place) (pc := 22) dL_place_22 rfl ?_
      cases (Option.some.inj hf)
      exact hQ _ _ ⟨rfl, rfl⟩
    have hf := tq_ifn hf c1
    by_cases c2 : E1 = "java/lang/IllegalStateException"
    · have hf := tq_ifp hf c2
      subst c2
      refine tq_calV (M := mL_place) (pc := 7) (S := [.int (0 : Int32), .ref a4]) tk_y_X10_place tk_v_X10_place tk_RL_74 dL_place_7 [.int a1, .int a2, .int a3] rfl (S0 := _) rfl eu2 rfl (Nat.le_of_ble_eq_true rfl) (d1 := d - 1) (b1 := 5) (s1 := 30) (bc' := 0) (bs' := 0) (Q1 := fun r h9 => r = tq_enI ((.inl "java/lang/IllegalStateException", w3) : (String ⊕ Int32) × tq_H).1 ∧ ((.inl "java/lang/IllegalStateException", w3) : (String ⊕ Int32) × tq_H).2 = h9) (by omega) rfl rfl (w_X10_place (by omega) ev1 (fun _ _ q => q)) (fun E h9 q => ?_) (fun r9 h9 q => nomatch (show (Sum.inl r9 : tq_R) = Sum.inr _ from q.1))
      obtain ⟨q1, rfl⟩ := q
      cases (show (Sum.inr E : tq_R) = Sum.inr "java/lang/IllegalStateException" from q1)
      refine tq_catch (M := mL_place) (pc := 7) (name := "java/lang/IllegalStateException") [⟨0, 12, 15, 13⟩, ⟨0, 12, 19, 15⟩] ⟨0, 12, 23, 17⟩ [] rfl tk_pass_L_place_2 (by decide) (by decide) tk_RL_17 tk_cast_IllegalStateException ?_
      refine tq_xstore (M := mL_place) (pc := 23) dL_place_23 (L2 := [(5, .float 0), (0, .ref a0), (1, .int a1), (2, .int a2), (3, .int a3), (4, .ref a4)]) (by decide) rfl ?_
      refine tq_iconst (M := mL_place) (pc := 25) dL_place_25 tk_ki_3 ?_
      refine tq_iret (M := mL_place) (pc := 26) dL_place_26 rfl ?_
      cases (Option.some.inj hf)
      exact hQ _ _ ⟨rfl, rfl⟩
    have hf := tq_ifn hf c2
    cases hf
  · refine tq_calV (M := mL_place) (pc := 7) (S := [.int (0 : Int32), .ref a4]) tk_y_X10_place tk_v_X10_place tk_RL_74 dL_place_7 [.int a1, .int a2, .int a3] rfl (S0 := _) rfl eu2 rfl (Nat.le_of_ble_eq_true rfl) (d1 := d - 1) (b1 := 5) (s1 := 30) (bc' := 0) (bs' := 0) (Q1 := fun r h9 => r = tq_enI ((.inr v4, w3) : (String ⊕ Int32) × tq_H).1 ∧ ((.inr v4, w3) : (String ⊕ Int32) × tq_H).2 = h9) (by omega) rfl rfl (w_X10_place (by omega) ev1 (fun _ _ q => q)) (fun E h9 q => nomatch (show (Sum.inr E : tq_R) = Sum.inl _ from q.1)) (fun r9 h9 q => ?_)
    obtain ⟨q1, rfl⟩ := q
    cases (show (Sum.inl r9 : tq_R) = Sum.inl (some (.int v4)) from q1)
    refine tq_i2l (M := mL_place) (pc := 10) dL_place_10 ?_
    obtain ⟨w5, ew5, hf⟩ := tq_be hf
    refine tq_lastF (M := mL_place) (pc := 11) dL_place_11 ew5 ?_
    refine tq_goto (M := mL_place) (pc := 12) (tgt := 27) dL_place_12 (by decide) ?_
    refine tq_iconst (M := mL_place) (pc := 27) dL_place_27 tk_ki_0 ?_
    refine tq_iret (M := mL_place) (pc := 28) dL_place_28 rfl ?_
    cases (Option.some.inj hf)
    exact hQ _ _ ⟨rfl, rfl⟩
abbrev mL_last : tq_M := (RL, cL_last, 4, (some .int), false, [(0, 9, 12, 13), (0, 9, 15, 17)], none)
def f_L_last (a0 : Nat) (a1 : Int32) (a2 : Nat) (h : tq_H) : Option (Int32 × tq_H) :=
  (tq_is h a0 10).bind fun _ =>
  (f_X10_last a0 a1 h).bind fun v1 => match v1 with
  | (.inl E1, w3) =>
    if E1 = "java/lang/IndexOutOfBoundsException" then
      some ((1 : Int32), w3)
    else
      if E1 = "java/lang/IllegalStateException" then
        some ((2 : Int32), w3)
      else
        none
  | (.inr v4, w3) =>
    (tq_sl w3 a2 (0 : Int32) (v4).toInt64).bind fun w5 =>
    some ((0 : Int32), w5)
set_option maxHeartbeats 4000000 in
set_option maxRecDepth 20000 in
theorem w_L_last {l : Launch} {d : Nat} (hd9 : 9 ≤ d) {a0 : Nat} {a1 : Int32} {a2 : Nat} {h : tq_H} {o : Int32 × tq_H} {Q : tq_R → tq_H → Prop} (hf : f_L_last a0 a1 a2 h = some o) (hQ : ∀ r h9, r = .inl (some (.int o.1)) ∧ o.2 = h9 → Q r h9) : tq_CW l yL_last cL_last 4 (some .int) [(0, 9, 12, 13), (0, 9, 15, 17)] d 3 18 [.ref a0, .int a1, .ref a2] h Q := by
  refine tq_bodyW (y := yL_last) (by decide +kernel) (Nat.le_of_ble_eq_true rfl) ?_
  show tq_W l mL_last d 3 18 Q 0 [(0, .ref a0), (1, .int a1), (2, .ref a2)] [] h
  refine tq_aload_n (M := mL_last) (pc := 0) dL_last_0 rfl ?_
  refine tq_iconst (M := mL_last) (pc := 1) dL_last_1 tk_ki_0 ?_
  refine tq_aload_n (M := mL_last) (pc := 2) dL_last_2 rfl ?_
  refine tq_iload_n (M := mL_last) (pc := 3) dL_last_3 rfl ?_
  obtain ⟨⟨⟩, eu2, hf⟩ := tq_be hf
  obtain ⟨fsu2, eu2⟩ := tq_is_s eu2
  obtain ⟨⟨E1 | v4, w3⟩, ev1, hf⟩ := tq_be hf
  · skip
    by_cases c0 : E1 = "java/lang/IndexOutOfBoundsException"
    · have hf := tq_ifp hf c0
      subst c0
      refine tq_calV (M := mL_last) (pc := 4) (S := [.int (0 : Int32), .ref a2]) tk_y_X10_last tk_v_X10_last tk_RL_77 dL_last_4 [.int a1] rfl (S0 := _) rfl eu2 rfl (Nat.le_of_ble_eq_true rfl) (d1 := d - 1) (b1 := 3) (s1 := 18) (bc' := 0) (bs' := 0) (Q1 := fun r h9 => r = tq_enI ((.inl "java/lang/IndexOutOfBoundsException", w3) : (String ⊕ Int32) × tq_H).1 ∧ ((.inl "java/lang/IndexOutOfBoundsException", w3) : (String ⊕ Int32) × tq_H).2 = h9) (by omega) rfl rfl (w_X10_last (by omega) ev1 (fun _ _ q => q)) (fun E h9 q => ?_) (fun r9 h9 q => nomatch (show (Sum.inl r9 : tq_R) = Sum.inr _ from q.1))
      obtain ⟨q1, rfl⟩ := q
      cases (show (Sum.inr E : tq_R) = Sum.inr "java/lang/IndexOutOfBoundsException" from q1)
      refine tq_catch (M := mL_last) (pc := 4) (name := "java/lang/IndexOutOfBoundsException") [] ⟨0, 9, 12, 13⟩ [⟨0, 9, 15, 17⟩] rfl tk_pass_L_last_0 (by decide) (by decide) tk_RL_13 tk_cast_IndexOutOfBoundsException ?_
      refine tq_xstore_n (M := mL_last) (pc := 12) rfl dL_last_12 (L2 := [(3, .float 0), (0, .ref a0), (1, .int a1), (2, .ref a2)]) (by decide) rfl ?_
      refine tq_iconst (M := mL_last) (pc := 13) dL_last_13 tk_ki_1 ?_
      refine tq_iret (M := mL_last) (pc := 14) dL_last_14 rfl ?_
      cases (Option.some.inj hf)
      exact hQ _ _ ⟨rfl, rfl⟩
    have hf := tq_ifn hf c0
    by_cases c1 : E1 = "java/lang/IllegalStateException"
    · have hf := tq_ifp hf c1
      subst c1
      refine tq_calV (M := mL_last) (pc := 4) (S := [.int (0 : Int32), .ref a2]) tk_y_X10_last tk_v_X10_last tk_RL_77 dL_last_4 [.int a1] rfl (S0 := _) rfl eu2 rfl (Nat.le_of_ble_eq_true rfl) (d1 := d - 1) (b1 := 3) (s1 := 18) (bc' := 0) (bs' := 0) (Q1 := fun r h9 => r = tq_enI ((.inl "java/lang/IllegalStateException", w3) : (String ⊕ Int32) × tq_H).1 ∧ ((.inl "java/lang/IllegalStateException", w3) : (String ⊕ Int32) × tq_H).2 = h9) (by omega) rfl rfl (w_X10_last (by omega) ev1 (fun _ _ q => q)) (fun E h9 q => ?_) (fun r9 h9 q => nomatch (show (Sum.inl r9 : tq_R) = Sum.inr _ from q.1))
      obtain ⟨q1, rfl⟩ := q
      cases (show (Sum.inr E : tq_R) = Sum.inr "java/lang/IllegalStateException" from q1)
      refine tq_catch (M := mL_last) (pc := 4) (name := "java/lang/IllegalStateException") [⟨0, 9, 12, 13⟩] ⟨0, 9, 15, 17⟩ [] rfl tk_pass_L_last_1 (by decide) (by decide) tk_RL_17 tk_cast_IllegalStateException ?_
      refine tq_xstore_n (M := mL_last) (pc := 15) rfl dL_last_15 (L2 := [(3, .float 0), (0, .ref a0), (1, .int a1), (2, .ref a2)]) (by decide) rfl ?_
      refine tq_iconst (M := mL_last) (pc := 16) dL_last_16 tk_ki_2 ?_
      refine tq_iret (M := mL_last) (pc := 17) dL_last_17 rfl ?_
      cases (Option.some.inj hf)
      exact hQ _ _ ⟨rfl, rfl⟩
    have hf := tq_ifn hf c1
    cases hf
  · refine tq_calV (M := mL_last) (pc := 4) (S := [.int (0 : Int32), .ref a2]) tk_y_X10_last tk_v_X10_last tk_RL_77 dL_last_4 [.int a1] rfl (S0 := _) rfl eu2 rfl (Nat.le_of_ble_eq_true rfl) (d1 := d - 1) (b1 := 3) (s1 := 18) (bc' := 0) (bs' := 0) (Q1 := fun r h9 => r = tq_enI ((.inr v4, w3) : (String ⊕ Int32) × tq_H).1 ∧ ((.inr v4, w3) : (String ⊕ Int32) × tq_H).2 = h9) (by omega) rfl rfl (w_X10_last (by omega) ev1 (fun _ _ q => q)) (fun E h9 q => nomatch (show (Sum.inr E : tq_R) = Sum.inl _ from q.1)) (fun r9 h9 q => ?_)
    obtain ⟨q1, rfl⟩ := q
    cases (show (Sum.inl r9 : tq_R) = Sum.inl (some (.int v4)) from q1)
    refine tq_i2l (M := mL_last) (pc := 7) dL_last_7 ?_
    obtain ⟨w5, ew5, hf⟩ := tq_be hf
    refine tq_lastF (M := mL_last) (pc := 8) dL_last_8 ew5 ?_
    refine tq_goto (M := mL_last) (pc := 9) (tgt := 18) dL_last_9 (by decide) ?_
    refine tq_iconst (M := mL_last) (pc := 18) dL_last_18 tk_ki_0 ?_
    refine tq_iret (M := mL_last) (pc := 19) dL_last_19 rfl ?_
    cases (Option.some.inj hf)
    exact hQ _ _ ⟨rfl, rfl⟩
abbrev mL_has : tq_M := (RL, cL_has, 6, (some .int), false, [(0, 12, 15, 13), (0, 12, 19, 17)], none)
def f_L_has (a0 : Nat) (a1 : Int32) (a2 : Int32) (a3 : Int32) (a4 : Nat) (h : tq_H) : Option (Int32 × tq_H) :=
  (tq_is h a0 10).bind fun _ =>
  (f_X10_has a0 a1 a2 a3 h).bind fun v1 => match v1 with
  | (.inl E1, w3) =>
    if E1 = "java/lang/IndexOutOfBoundsException" then
      some ((1 : Int32), w3)
    else
      if E1 = "java/lang/IllegalStateException" then
        some ((2 : Int32), w3)
      else
        none
  | (.inr v4, w3) =>
    (tq_sl w3 a4 (0 : Int32) (v4).toInt64).bind fun w5 =>
    some ((0 : Int32), w5)
set_option maxHeartbeats 4000000 in
set_option maxRecDepth 20000 in
theorem w_L_has {l : Launch} {d : Nat} (hd9 : 9 ≤ d) {a0 : Nat} {a1 : Int32} {a2 : Int32} {a3 : Int32} {a4 : Nat} {h : tq_H} {o : Int32 × tq_H} {Q : tq_R → tq_H → Prop} (hf : f_L_has a0 a1 a2 a3 a4 h = some o) (hQ : ∀ r h9, r = .inl (some (.int o.1)) ∧ o.2 = h9 → Q r h9) : tq_CW l yL_has cL_has 6 (some .int) [(0, 12, 15, 13), (0, 12, 19, 17)] d 4 24 [.ref a0, .int a1, .int a2, .int a3, .ref a4] h Q := by
  refine tq_bodyW (y := yL_has) (by decide +kernel) (Nat.le_of_ble_eq_true rfl) ?_
  show tq_W l mL_has d 4 24 Q 0 [(0, .ref a0), (1, .int a1), (2, .int a2), (3, .int a3), (4, .ref a4)] [] h
  refine tq_aload (M := mL_has) (pc := 0) dL_has_0 rfl ?_
  refine tq_iconst (M := mL_has) (pc := 2) dL_has_2 tk_ki_0 ?_
  refine tq_aload_n (M := mL_has) (pc := 3) dL_has_3 rfl ?_
  refine tq_iload_n (M := mL_has) (pc := 4) dL_has_4 rfl ?_
  refine tq_iload_n (M := mL_has) (pc := 5) dL_has_5 rfl ?_
  refine tq_iload_n (M := mL_has) (pc := 6) dL_has_6 rfl ?_
  obtain ⟨⟨⟩, eu2, hf⟩ := tq_be hf
  obtain ⟨fsu2, eu2⟩ := tq_is_s eu2
  obtain ⟨⟨E1 | v4, w3⟩, ev1, hf⟩ := tq_be hf
  · skip
    by_cases c0 : E1 = "java/lang/IndexOutOfBoundsException"
    · have hf := tq_ifp hf c0
      subst c0
      refine tq_calV (M := mL_has) (pc := 7) (S := [.int (0 : Int32), .ref a4]) tk_y_X10_has tk_v_X10_has tk_RL_80 dL_has_7 [.int a1, .int a2, .int a3] rfl (S0 := _) rfl eu2 rfl (Nat.le_of_ble_eq_true rfl) (d1 := d - 1) (b1 := 4) (s1 := 24) (bc' := 0) (bs' := 0) (Q1 := fun r h9 => r = tq_enI ((.inl "java/lang/IndexOutOfBoundsException", w3) : (String ⊕ Int32) × tq_H).1 ∧ ((.inl "java/lang/IndexOutOfBoundsException", w3) : (String ⊕ Int32) × tq_H).2 = h9) (by omega) rfl rfl (w_X10_has (by omega) ev1 (fun _ _ q => q)) (fun E h9 q => ?_) (fun r9 h9 q => nomatch (show (Sum.inl r9 : tq_R) = Sum.inr _ from q.1))
      obtain ⟨q1, rfl⟩ := q
      cases (show (Sum.inr E : tq_R) = Sum.inr "java/lang/IndexOutOfBoundsException" from q1)
      refine tq_catch (M := mL_has) (pc := 7) (name := "java/lang/IndexOutOfBoundsException") [] ⟨0, 12, 15, 13⟩ [⟨0, 12, 19, 17⟩] rfl tk_pass_L_has_0 (by decide) (by decide) tk_RL_13 tk_cast_IndexOutOfBoundsException ?_
      refine tq_xstore (M := mL_has) (pc := 15) dL_has_15 (L2 := [(5, .float 0), (0, .ref a0), (1, .int a1), (2, .int a2), (3, .int a3), (4, .ref a4)]) (by decide) rfl ?_
      refine tq_iconst (M := mL_has) (pc := 17) dL_has_17 tk_ki_1 ?_
      refine tq_iret (M := mL_has) (pc := 18) dL_has_18 rfl ?_
      cases (Option.some.inj hf)
      exact hQ _ _ ⟨rfl, rfl⟩
    have hf := tq_ifn hf c0
    by_cases c1 : E1 = "java/lang/IllegalStateException"
    · have hf := tq_ifp hf c1
      subst c1
      refine tq_calV (M := mL_has) (pc := 7) (S := [.int (0 : Int32), .ref a4]) tk_y_X10_has tk_v_X10_has tk_RL_80 dL_has_7 [.int a1, .int a2, .int a3] rfl (S0 := _) rfl eu2 rfl (Nat.le_of_ble_eq_true rfl) (d1 := d - 1) (b1 := 4) (s1 := 24) (bc' := 0) (bs' := 0) (Q1 := fun r h9 => r = tq_enI ((.inl "java/lang/IllegalStateException", w3) : (String ⊕ Int32) × tq_H).1 ∧ ((.inl "java/lang/IllegalStateException", w3) : (String ⊕ Int32) × tq_H).2 = h9) (by omega) rfl rfl (w_X10_has (by omega) ev1 (fun _ _ q => q)) (fun E h9 q => ?_) (fun r9 h9 q => nomatch (show (Sum.inl r9 : tq_R) = Sum.inr _ from q.1))
      obtain ⟨q1, rfl⟩ := q
      cases (show (Sum.inr E : tq_R) = Sum.inr "java/lang/IllegalStateException" from q1)
      refine tq_catch (M := mL_has) (pc := 7) (name := "java/lang/IllegalStateException") [⟨0, 12, 15, 13⟩] ⟨0, 12, 19, 17⟩ [] rfl tk_pass_L_has_1 (by decide) (by decide) tk_RL_17 tk_cast_IllegalStateException ?_
      refine tq_xstore (M := mL_has) (pc := 19) dL_has_19 (L2 := [(5, .float 0), (0, .ref a0), (1, .int a1), (2, .int a2), (3, .int a3), (4, .ref a4)]) (by decide) rfl ?_
      refine tq_iconst (M := mL_has) (pc := 21) dL_has_21 tk_ki_2 ?_
      refine tq_iret (M := mL_has) (pc := 22) dL_has_22 rfl ?_
      cases (Option.some.inj hf)
      exact hQ _ _ ⟨rfl, rfl⟩
    have hf := tq_ifn hf c1
    cases hf
  · refine tq_calV (M := mL_has) (pc := 7) (S := [.int (0 : Int32), .ref a4]) tk_y_X10_has tk_v_X10_has tk_RL_80 dL_has_7 [.int a1, .int a2, .int a3] rfl (S0 := _) rfl eu2 rfl (Nat.le_of_ble_eq_true rfl) (d1 := d - 1) (b1 := 4) (s1 := 24) (bc' := 0) (bs' := 0) (Q1 := fun r h9 => r = tq_enI ((.inr v4, w3) : (String ⊕ Int32) × tq_H).1 ∧ ((.inr v4, w3) : (String ⊕ Int32) × tq_H).2 = h9) (by omega) rfl rfl (w_X10_has (by omega) ev1 (fun _ _ q => q)) (fun E h9 q => nomatch (show (Sum.inr E : tq_R) = Sum.inl _ from q.1)) (fun r9 h9 q => ?_)
    obtain ⟨q1, rfl⟩ := q
    cases (show (Sum.inl r9 : tq_R) = Sum.inl (some (.int v4)) from q1)
    refine tq_i2l (M := mL_has) (pc := 10) dL_has_10 ?_
    obtain ⟨w5, ew5, hf⟩ := tq_be hf
    refine tq_lastF (M := mL_has) (pc := 11) dL_has_11 ew5 ?_
    refine tq_goto (M := mL_has) (pc := 12) (tgt := 23) dL_has_12 (by decide) ?_
    refine tq_iconst (M := mL_has) (pc := 23) dL_has_23 tk_ki_0 ?_
    refine tq_iret (M := mL_has) (pc := 24) dL_has_24 rfl ?_
    cases (Option.some.inj hf)
    exact hQ _ _ ⟨rfl, rfl⟩
abbrev mL_worth : tq_M := (RL, cL_worth, 7, (some .int), false, [(0, 14, 17, 13), (0, 14, 21, 15), (0, 14, 25, 17)], none)
def f_L_worth (a0 : Nat) (a1 : Int32) (a2 : Int32) (a3 : Int32) (a4 : Int32) (a5 : Nat) (h : tq_H) : Option (Int32 × tq_H) :=
  (tq_is h a0 10).bind fun _ =>
  (f_X10_worth a0 a1 a2 a3 a4 h).bind fun v1 => match v1 with
  | (.inl E1, w3) =>
    if E1 = "java/lang/IndexOutOfBoundsException" then
      some ((1 : Int32), w3)
    else
      if E1 = "java/lang/IllegalArgumentException" then
        some ((2 : Int32), w3)
      else
        if E1 = "java/lang/IllegalStateException" then
          some ((3 : Int32), w3)
        else
          none
  | (.inr v4, w3) =>
    (tq_sl w3 a5 (0 : Int32) (v4).toInt64).bind fun w5 =>
    some ((0 : Int32), w5)
set_option maxHeartbeats 4000000 in
set_option maxRecDepth 20000 in
theorem w_L_worth {l : Launch} {d : Nat} (hd9 : 9 ≤ d) {a0 : Nat} {a1 : Int32} {a2 : Int32} {a3 : Int32} {a4 : Int32} {a5 : Nat} {h : tq_H} {o : Int32 × tq_H} {Q : tq_R → tq_H → Prop} (hf : f_L_worth a0 a1 a2 a3 a4 a5 h = some o) (hQ : ∀ r h9, r = .inl (some (.int o.1)) ∧ o.2 = h9 → Q r h9) : tq_CW l yL_worth cL_worth 7 (some .int) [(0, 14, 17, 13), (0, 14, 21, 15), (0, 14, 25, 17)] d 6 36 [.ref a0, .int a1, .int a2, .int a3, .int a4, .ref a5] h Q := by
  refine tq_bodyW (y := yL_worth) (by decide +kernel) (Nat.le_of_ble_eq_true rfl) ?_
  show tq_W l mL_worth d 6 36 Q 0 [(0, .ref a0), (1, .int a1), (2, .int a2), (3, .int a3), (4, .int a4), (5, .ref a5)] [] h
  refine tq_aload (M := mL_worth) (pc := 0) dL_worth_0 rfl ?_
  refine tq_iconst (M := mL_worth) (pc := 2) dL_worth_2 tk_ki_0 ?_
  refine tq_aload_n (M := mL_worth) (pc := 3) dL_worth_3 rfl ?_
  refine tq_iload_n (M := mL_worth) (pc := 4) dL_worth_4 rfl ?_
  refine tq_iload_n (M := mL_worth) (pc := 5) dL_worth_5 rfl ?_
  refine tq_iload_n (M := mL_worth) (pc := 6) dL_worth_6 rfl ?_
  refine tq_iload (M := mL_worth) (pc := 7) dL_worth_7 rfl ?_
  obtain ⟨⟨⟩, eu2, hf⟩ := tq_be hf
  obtain ⟨fsu2, eu2⟩ := tq_is_s eu2
  obtain ⟨⟨E1 | v4, w3⟩, ev1, hf⟩ := tq_be hf
  · skip
    by_cases c0 : E1 = "java/lang/IndexOutOfBoundsException"
    · have hf := tq_ifp hf c0
      subst c0
      refine tq_calV (M := mL_worth) (pc := 9) (S := [.int (0 : Int32), .ref a5]) tk_y_X10_worth tk_v_X10_worth tk_RL_84 dL_worth_9 [.int a1, .int a2, .int a3, .int a4] rfl (S0 := _) rfl eu2 rfl (Nat.le_of_ble_eq_true rfl) (d1 := d - 1) (b1 := 6) (s1 := 36) (bc' := 0) (bs' := 0) (Q1 := fun r h9 => r = tq_enI ((.inl "java/lang/IndexOutOfBoundsException", w3) : (String ⊕ Int32) × tq_H).1 ∧ ((.inl "java/lang/IndexOutOfBoundsException", w3) : (String ⊕ Int32) × tq_H).2 = h9) (by omega) rfl rfl (w_X10_worth (by omega) ev1 (fun _ _ q => q)) (fun E h9 q => ?_) (fun r9 h9 q => nomatch (show (Sum.inl r9 : tq_R) = Sum.inr _ from q.1))
      obtain ⟨q1, rfl⟩ := q
      cases (show (Sum.inr E : tq_R) = Sum.inr "java/lang/IndexOutOfBoundsException" from q1)
      refine tq_catch (M := mL_worth) (pc := 9) (name := "java/lang/IndexOutOfBoundsException") [] ⟨0, 14, 17, 13⟩ [⟨0, 14, 21, 15⟩, ⟨0, 14, 25, 17⟩] rfl tk_pass_L_worth_0 (by decide) (by decide) tk_RL_13 tk_cast_IndexOutOfBoundsException ?_
      refine tq_xstore (M := mL_worth) (pc := 17) dL_worth_17 (L2 := [(6, .float 0), (0, .ref a0), (1, .int a1), (2, .int a2), (3, .int a3), (4, .int a4), (5, .ref a5)]) (by decide) rfl ?_
      refine tq_iconst (M := mL_worth) (pc := 19) dL_worth_19 tk_ki_1 ?_
      refine tq_iret (M := mL_worth) (pc := 20) dL_worth_20 rfl ?_
      cases (Option.some.inj hf)
      exact hQ _ _ ⟨rfl, rfl⟩
    have hf := tq_ifn hf c0
    by_cases c1 : E1 = "java/lang/IllegalArgumentException"
    · have hf := tq_ifp hf c1
      subst c1
      refine tq_calV (M := mL_worth) (pc := 9) (S := [.int (0 : Int32), .ref a5]) tk_y_X10_worth tk_v_X10_worth tk_RL_84 dL_worth_9 [.int a1, .int a2, .int a3, .int a4] rfl (S0 := _) rfl eu2 rfl (Nat.le_of_ble_eq_true rfl) (d1 := d - 1) (b1 := 6) (s1 := 36) (bc' := 0) (bs' := 0) (Q1 := fun r h9 => r = tq_enI ((.inl "java/lang/IllegalArgumentException", w3) : (String ⊕ Int32) × tq_H).1 ∧ ((.inl "java/lang/IllegalArgumentException", w3) : (String ⊕ Int32) × tq_H).2 = h9) (by omega) rfl rfl (w_X10_worth (by omega) ev1 (fun _ _ q => q)) (fun E h9 q => ?_) (fun r9 h9 q => nomatch (show (Sum.inl r9 : tq_R) = Sum.inr _ from q.1))
      obtain ⟨q1, rfl⟩ := q
      cases (show (Sum.inr E : tq_R) = Sum.inr "java/lang/IllegalArgumentException" from q1)
      refine tq_catch (M := mL_worth) (pc := 9) (name := "java/lang/IllegalArgumentException") [⟨0, 14, 17, 13⟩] ⟨0, 14, 21, 15⟩ [⟨0, 14, 25, 17⟩] rfl tk_pass_L_worth_1 (by decide) (by decide) tk_RL_15 tk_cast_IllegalArgumentException ?_
      refine tq_xstore (M := mL_worth) (pc := 21) dL_worth_21 (L2 := [(6, .float 0), (0, .ref a0), (1, .int a1), (2, .int a2), (3, .int a3), (4, .int a4), (5, .ref a5)]) (by decide) rfl ?_
      refine tq_iconst (M := mL_worth) (pc := 23) dL_worth_23 tk_ki_2 ?_
      refine tq_iret (M := mL_worth) (pc := 24) dL_worth_24 rfl ?_
      cases (Option.some.inj hf)
      exact hQ _ _ ⟨rfl, rfl⟩
    have hf := tq_ifn hf c1
    by_cases c2 : E1 = "java/lang/IllegalStateException"
    · have hf := tq_ifp hf c2
      subst c2
      refine tq_calV (M := mL_worth) (pc := 9) (S := [.int (0 : Int32), .ref a5]) tk_y_X10_worth tk_v_X10_worth tk_RL_84 dL_worth_9 [.int a1, .int a2, .int a3, .int a4] rfl (S0 := _) rfl eu2 rfl (Nat.le_of_ble_eq_true rfl) (d1 := d - 1) (b1 := 6) (s1 := 36) (bc' := 0) (bs' := 0) (Q1 := fun r h9 => r = tq_enI ((.inl "java/lang/IllegalStateException", w3) : (String ⊕ Int32) × tq_H).1 ∧ ((.inl "java/lang/IllegalStateException", w3) : (String ⊕ Int32) × tq_H).2 = h9) (by omega) rfl rfl (w_X10_worth (by omega) ev1 (fun _ _ q => q)) (fun E h9 q => ?_) (fun r9 h9 q => nomatch (show (Sum.inl r9 : tq_R) = Sum.inr _ from q.1))
      obtain ⟨q1, rfl⟩ := q
      cases (show (Sum.inr E : tq_R) = Sum.inr "java/lang/IllegalStateException" from q1)
      refine tq_catch (M := mL_worth) (pc := 9) (name := "java/lang/IllegalStateException") [⟨0, 14, 17, 13⟩, ⟨0, 14, 21, 15⟩] ⟨0, 14, 25, 17⟩ [] rfl tk_pass_L_worth_2 (by decide) (by decide) tk_RL_17 tk_cast_IllegalStateException ?_
      refine tq_xstore (M := mL_worth) (pc := 25) dL_worth_25 (L2 := [(6, .float 0), (0, .ref a0), (1, .int a1), (2, .int a2), (3, .int a3), (4, .int a4), (5, .ref a5)]) (by decide) rfl ?_
      refine tq_iconst (M := mL_worth) (pc := 27) dL_worth_27 tk_ki_3 ?_
      refine tq_iret (M := mL_worth) (pc := 28) dL_worth_28 rfl ?_
      cases (Option.some.inj hf)
      exact hQ _ _ ⟨rfl, rfl⟩
    have hf := tq_ifn hf c2
    cases hf
  · refine tq_calV (M := mL_worth) (pc := 9) (S := [.int (0 : Int32), .ref a5]) tk_y_X10_worth tk_v_X10_worth tk_RL_84 dL_worth_9 [.int a1, .int a2, .int a3, .int a4] rfl (S0 := _) rfl eu2 rfl (Nat.le_of_ble_eq_true rfl) (d1 := d - 1) (b1 := 6) (s1 := 36) (bc' := 0) (bs' := 0) (Q1 := fun r h9 => r = tq_enI ((.inr v4, w3) : (String ⊕ Int32) × tq_H).1 ∧ ((.inr v4, w3) : (String ⊕ Int32) × tq_H).2 = h9) (by omega) rfl rfl (w_X10_worth (by omega) ev1 (fun _ _ q => q)) (fun E h9 q => nomatch (show (Sum.inr E : tq_R) = Sum.inl _ from q.1)) (fun r9 h9 q => ?_)
    obtain ⟨q1, rfl⟩ := q
    cases (show (Sum.inl r9 : tq_R) = Sum.inl (some (.int v4)) from q1)
    refine tq_i2l (M := mL_worth) (pc := 12) dL_worth_12 ?_
    obtain ⟨w5, ew5, hf⟩ := tq_be hf
    refine tq_lastF (M := mL_worth) (pc := 13) dL_worth_13 ew5 ?_
    refine tq_goto (M := mL_worth) (pc := 14) (tgt := 29) dL_worth_14 (by decide) ?_
    refine tq_iconst (M := mL_worth) (pc := 29) dL_worth_29 tk_ki_0 ?_
    refine tq_iret (M := mL_worth) (pc := 30) dL_worth_30 rfl ?_
    cases (Option.some.inj hf)
    exact hQ _ _ ⟨rfl, rfl⟩
abbrev mL_found : tq_M := (RL, cL_found, 5, (some .int), false, [(0, 10, 13, 13)], none)
def f_L_found (a0 : Nat) (a1 : Int32) (a2 : Int32) (a3 : Nat) (h : tq_H) : Option (Int32 × tq_H) :=
  (tq_is h a0 10).bind fun _ =>
  (f_X10_found a0 a1 a2 h).bind fun v1 => match v1 with
  | (.inl E1, w3) =>
    if E1 = "java/lang/IndexOutOfBoundsException" then
      some ((1 : Int32), w3)
    else
      none
  | (.inr v4, w3) =>
    (tq_sl w3 a3 (0 : Int32) (v4).toInt64).bind fun w5 =>
    some ((0 : Int32), w5)
set_option maxHeartbeats 4000000 in
set_option maxRecDepth 20000 in
theorem w_L_found {l : Launch} {d : Nat} (hd9 : 9 ≤ d) {a0 : Nat} {a1 : Int32} {a2 : Int32} {a3 : Nat} {h : tq_H} {o : Int32 × tq_H} {Q : tq_R → tq_H → Prop} (hf : f_L_found a0 a1 a2 a3 h = some o) (hQ : ∀ r h9, r = .inl (some (.int o.1)) ∧ o.2 = h9 → Q r h9) : tq_CW l yL_found cL_found 5 (some .int) [(0, 10, 13, 13)] d 3 18 [.ref a0, .int a1, .int a2, .ref a3] h Q := by
  refine tq_bodyW (y := yL_found) (by decide +kernel) (Nat.le_of_ble_eq_true rfl) ?_
  show tq_W l mL_found d 3 18 Q 0 [(0, .ref a0), (1, .int a1), (2, .int a2), (3, .ref a3)] [] h
  refine tq_aload_n (M := mL_found) (pc := 0) dL_found_0 rfl ?_
  refine tq_iconst (M := mL_found) (pc := 1) dL_found_1 tk_ki_0 ?_
  refine tq_aload_n (M := mL_found) (pc := 2) dL_found_2 rfl ?_
  refine tq_iload_n (M := mL_found) (pc := 3) dL_found_3 rfl ?_
  refine tq_iload_n (M := mL_found) (pc := 4) dL_found_4 rfl ?_
  obtain ⟨⟨⟩, eu2, hf⟩ := tq_be hf
  obtain ⟨fsu2, eu2⟩ := tq_is_s eu2
  obtain ⟨⟨E1 | v4, w3⟩, ev1, hf⟩ := tq_be hf
  · skip
    by_cases c0 : E1 = "java/lang/IndexOutOfBoundsException"
    · have hf := tq_ifp hf c0
      subst c0
      refine tq_calV (M := mL_found) (pc := 5) (S := [.int (0 : Int32), .ref a3]) tk_y_X10_found tk_v_X10_found tk_RL_87 dL_found_5 [.int a1, .int a2] rfl (S0 := _) rfl eu2 rfl (Nat.le_of_ble_eq_true rfl) (d1 := d - 1) (b1 := 3) (s1 := 18) (bc' := 0) (bs' := 0) (Q1 := fun r h9 => r = tq_enI ((.inl "java/lang/IndexOutOfBoundsException", w3) : (String ⊕ Int32) × tq_H).1 ∧ ((.inl "java/lang/IndexOutOfBoundsException", w3) : (String ⊕ Int32) × tq_H).2 = h9) (by omega) rfl rfl (w_X10_found (by omega) ev1 (fun _ _ q => q)) (fun E h9 q => ?_) (fun r9 h9 q => nomatch (show (Sum.inl r9 : tq_R) = Sum.inr _ from q.1))
      obtain ⟨q1, rfl⟩ := q
      cases (show (Sum.inr E : tq_R) = Sum.inr "java/lang/IndexOutOfBoundsException" from q1)
      refine tq_catch (M := mL_found) (pc := 5) (name := "java/lang/IndexOutOfBoundsException") [] ⟨0, 10, 13, 13⟩ [] rfl tk_pass_L_found_0 (by decide) (by decide) tk_RL_13 tk_cast_IndexOutOfBoundsException ?_
      refine tq_xstore (M := mL_found) (pc := 13) dL_found_13 (L2 := [(4, .float 0), (0, .ref a0), (1, .int a1), (2, .int a2), (3, .ref a3)]) (by decide) rfl ?_
      refine tq_iconst (M := mL_found) (pc := 15) dL_found_15 tk_ki_1 ?_
      refine tq_iret (M := mL_found) (pc := 16) dL_found_16 rfl ?_
      cases (Option.some.inj hf)
      exact hQ _ _ ⟨rfl, rfl⟩
    have hf := tq_ifn hf c0
    cases hf
  · refine tq_calV (M := mL_found) (pc := 5) (S := [.int (0 : Int32), .ref a3]) tk_y_X10_found tk_v_X10_found tk_RL_87 dL_found_5 [.int a1, .int a2] rfl (S0 := _) rfl eu2 rfl (Nat.le_of_ble_eq_true rfl) (d1 := d - 1) (b1 := 3) (s1 := 18) (bc' := 0) (bs' := 0) (Q1 := fun r h9 => r = tq_enI ((.inr v4, w3) : (String ⊕ Int32) × tq_H).1 ∧ ((.inr v4, w3) : (String ⊕ Int32) × tq_H).2 = h9) (by omega) rfl rfl (w_X10_found (by omega) ev1 (fun _ _ q => q)) (fun E h9 q => nomatch (show (Sum.inr E : tq_R) = Sum.inl _ from q.1)) (fun r9 h9 q => ?_)
    obtain ⟨q1, rfl⟩ := q
    cases (show (Sum.inl r9 : tq_R) = Sum.inl (some (.int v4)) from q1)
    refine tq_i2l (M := mL_found) (pc := 8) dL_found_8 ?_
    obtain ⟨w5, ew5, hf⟩ := tq_be hf
    refine tq_lastF (M := mL_found) (pc := 9) dL_found_9 ew5 ?_
    refine tq_goto (M := mL_found) (pc := 10) (tgt := 17) dL_found_10 (by decide) ?_
    refine tq_iconst (M := mL_found) (pc := 17) dL_found_17 tk_ki_0 ?_
    refine tq_iret (M := mL_found) (pc := 18) dL_found_18 rfl ?_
    cases (Option.some.inj hf)
    exact hQ _ _ ⟨rfl, rfl⟩
abbrev mL_foundAnew : tq_M := (RL, cL_foundAnew, 5, (some .int), false, [(0, 10, 13, 13)], none)
def f_L_foundAnew (a0 : Nat) (a1 : Int32) (a2 : Int32) (a3 : Nat) (h : tq_H) : Option (Int32 × tq_H) :=
  (tq_is h a0 10).bind fun _ =>
  (f_X10_foundAnew a0 a1 a2 h).bind fun v1 => match v1 with
  | (.inl E1, w3) =>
    if E1 = "java/lang/IndexOutOfBoundsException" then
      some ((1 : Int32), w3)
    else
      none
  | (.inr v4, w3) =>
    (tq_sl w3 a3 (0 : Int32) (v4).toInt64).bind fun w5 =>
    some ((0 : Int32), w5)
set_option maxHeartbeats 4000000 in
set_option maxRecDepth 20000 in
theorem w_L_foundAnew {l : Launch} {d : Nat} (hd9 : 9 ≤ d) {a0 : Nat} {a1 : Int32} {a2 : Int32} {a3 : Nat} {h : tq_H} {o : Int32 × tq_H} {Q : tq_R → tq_H → Prop} (hf : f_L_foundAnew a0 a1 a2 a3 h = some o) (hQ : ∀ r h9, r = .inl (some (.int o.1)) ∧ o.2 = h9 → Q r h9) : tq_CW l yL_foundAnew cL_foundAnew 5 (some .int) [(0, 10, 13, 13)] d 3 18 [.ref a0, .int a1, .int a2, .ref a3] h Q := by
  refine tq_bodyW (y := yL_foundAnew) (by decide +kernel) (Nat.le_of_ble_eq_true rfl) ?_
  show tq_W l mL_foundAnew d 3 18 Q 0 [(0, .ref a0), (1, .int a1), (2, .int a2), (3, .ref a3)] [] h
  refine tq_aload_n (M := mL_foundAnew) (pc := 0) dL_foundAnew_0 rfl ?_
  refine tq_iconst (M := mL_foundAnew) (pc := 1) dL_foundAnew_1 tk_ki_0 ?_
  refine tq_aload_n (M := mL_foundAnew) (pc := 2) dL_foundAnew_2 rfl ?_
  refine tq_iload_n (M := mL_foundAnew) (pc := 3) dL_foundAnew_3 rfl ?_
  refine tq_iload_n (M := mL_foundAnew) (pc := 4) dL_foundAnew_4 rfl ?_
  obtain ⟨⟨⟩, eu2, hf⟩ := tq_be hf
  obtain ⟨fsu2, eu2⟩ := tq_is_s eu2
  obtain ⟨⟨E1 | v4, w3⟩, ev1, hf⟩ := tq_be hf
  · skip
    by_cases c0 : E1 = "java/lang/IndexOutOfBoundsException"
    · have hf := tq_ifp hf c0
      subst c0
      refine tq_calV (M := mL_foundAnew) (pc := 5) (S := [.int (0 : Int32), .ref a3]) tk_y_X10_foundAnew tk_v_X10_foundAnew tk_RL_90 dL_foundAnew_5 [.int a1, .int a2] rfl (S0 := _) rfl eu2 rfl (Nat.le_of_ble_eq_true rfl) (d1 := d - 1) (b1 := 3) (s1 := 18) (bc' := 0) (bs' := 0) (Q1 := fun r h9 => r = tq_enI ((.inl "java/lang/IndexOutOfBoundsException", w3) : (String ⊕ Int32) × tq_H).1 ∧ ((.inl "java/lang/IndexOutOfBoundsException", w3) : (String ⊕ Int32) × tq_H).2 = h9) (by omega) rfl rfl (w_X10_foundAnew (by omega) ev1 (fun _ _ q => q)) (fun E h9 q => ?_) (fun r9 h9 q => nomatch (show (Sum.inl r9 : tq_R) = Sum.inr _ from q.1))
      obtain ⟨q1, rfl⟩ := q
      cases (show (Sum.inr E : tq_R) = Sum.inr "java/lang/IndexOutOfBoundsException" from q1)
      refine tq_catch (M := mL_foundAnew) (pc := 5) (name := "java/lang/IndexOutOfBoundsException") [] ⟨0, 10, 13, 13⟩ [] rfl tk_pass_L_foundAnew_0 (by decide) (by decide) tk_RL_13 tk_cast_IndexOutOfBoundsException ?_
      refine tq_xstore (M := mL_foundAnew) (pc := 13) dL_foundAnew_13 (L2 := [(4, .float 0), (0, .ref a0), (1, .int a1), (2, .int a2), (3, .ref a3)]) (by decide) rfl ?_
      refine tq_iconst (M := mL_foundAnew) (pc := 15) dL_foundAnew_15 tk_ki_1 ?_
      refine tq_iret (M := mL_foundAnew) (pc := 16) dL_foundAnew_16 rfl ?_
      cases (Option.some.inj hf)
      exact hQ _ _ ⟨rfl, rfl⟩
    have hf := tq_ifn hf c0
    cases hf
  · refine tq_calV (M := mL_foundAnew) (pc := 5) (S := [.int (0 : Int32), .ref a3]) tk_y_X10_foundAnew tk_v_X10_foundAnew tk_RL_90 dL_foundAnew_5 [.int a1, .int a2] rfl (S0 := _) rfl eu2 rfl (Nat.le_of_ble_eq_true rfl) (d1 := d - 1) (b1 := 3) (s1 := 18) (bc' := 0) (bs' := 0) (Q1 := fun r h9 => r = tq_enI ((.inr v4, w3) : (String ⊕ Int32) × tq_H).1 ∧ ((.inr v4, w3) : (String ⊕ Int32) × tq_H).2 = h9) (by omega) rfl rfl (w_X10_foundAnew (by omega) ev1 (fun _ _ q => q)) (fun E h9 q => nomatch (show (Sum.inr E : tq_R) = Sum.inl _ from q.1)) (fun r9 h9 q => ?_)
    obtain ⟨q1, rfl⟩ := q
    cases (show (Sum.inl r9 : tq_R) = Sum.inl (some (.int v4)) from q1)
    refine tq_i2l (M := mL_foundAnew) (pc := 8) dL_foundAnew_8 ?_
    obtain ⟨w5, ew5, hf⟩ := tq_be hf
    refine tq_lastF (M := mL_foundAnew) (pc := 9) dL_foundAnew_9 ew5 ?_
    refine tq_goto (M := mL_foundAnew) (pc := 10) (tgt := 17) dL_foundAnew_10 (by decide) ?_
    refine tq_iconst (M := mL_foundAnew) (pc := 17) dL_foundAnew_17 tk_ki_0 ?_
    refine tq_iret (M := mL_foundAnew) (pc := 18) dL_foundAnew_18 rfl ?_
    cases (Option.some.inj hf)
    exact hQ _ _ ⟨rfl, rfl⟩
abbrev mL_foundAt : tq_M := (RL, cL_foundAt, 5, (some .int), false, [(0, 10, 13, 13)], none)
def f_L_foundAt (a0 : Nat) (a1 : Int32) (a2 : Int32) (a3 : Nat) (h : tq_H) : Option (Int32 × tq_H) :=
  (tq_is h a0 10).bind fun _ =>
  (f_X10_foundAt a0 a1 a2 h).bind fun v1 => match v1 with
  | (.inl E1, w3) =>
    if E1 = "java/lang/IndexOutOfBoundsException" then
      some ((1 : Int32), w3)
    else
      none
  | (.inr v4, w3) =>
    (tq_sl w3 a3 (0 : Int32) (v4).toInt64).bind fun w5 =>
    some ((0 : Int32), w5)
set_option maxHeartbeats 4000000 in
set_option maxRecDepth 20000 in
theorem w_L_foundAt {l : Launch} {d : Nat} (hd9 : 8 ≤ d) {a0 : Nat} {a1 : Int32} {a2 : Int32} {a3 : Nat} {h : tq_H} {o : Int32 × tq_H} {Q : tq_R → tq_H → Prop} (hf : f_L_foundAt a0 a1 a2 a3 h = some o) (hQ : ∀ r h9, r = .inl (some (.int o.1)) ∧ o.2 = h9 → Q r h9) : tq_CW l yL_foundAt cL_foundAt 5 (some .int) [(0, 10, 13, 13)] d 2 12 [.ref a0, .int a1, .int a2, .ref a3] h Q := by
  refine tq_bodyW (y := yL_foundAt) (by decide +kernel) (Nat.le_of_ble_eq_true rfl) ?_
  show tq_W l mL_foundAt d 2 12 Q 0 [(0, .ref a0), (1, .int a1), (2, .int a2), (3, .ref a3)] [] h
  refine tq_aload_n (M := mL_foundAt) (pc := 0) dL_foundAt_0 rfl ?_
  refine tq_iconst (M := mL_foundAt) (pc := 1) dL_foundAt_1 tk_ki_0 ?_
  refine tq_aload_n (M := mL_foundAt) (pc := 2) dL_foundAt_2 rfl ?_
  refine tq_iload_n (M := mL_foundAt) (pc := 3) dL_foundAt_3 rfl ?_
  refine tq_iload_n (M := mL_foundAt) (pc := 4) dL_foundAt_4 rfl ?_
  obtain ⟨⟨⟩, eu2, hf⟩ := tq_be hf
  obtain ⟨fsu2, eu2⟩ := tq_is_s eu2
  obtain ⟨⟨E1 | v4, w3⟩, ev1, hf⟩ := tq_be hf
  · skip
    by_cases c0 : E1 = "java/lang/IndexOutOfBoundsException"
    · have hf := tq_ifp hf c0
      subst c0
      refine tq_calV (M := mL_foundAt) (pc := 5) (S := [.int (0 : Int32), .ref a3]) tk_y_X10_foundAt tk_v_X10_foundAt tk_RL_93 dL_foundAt_5 [.int a1, .int a2] rfl (S0 := _) rfl eu2 rfl (Nat.le_of_ble_eq_true rfl) (d1 := d - 1) (b1 := 2) (s1 := 12) (bc' := 0) (bs' := 0) (Q1 := fun r h9 => r = tq_enI ((.inl "java/lang/IndexOutOfBoundsException", w3) : (String ⊕ Int32) × tq_H).1 ∧ ((.inl "java/lang/IndexOutOfBoundsException", w3) : (String ⊕ Int32) × tq_H).2 = h9) (by omega) rfl rfl (w_X10_foundAt (by omega) ev1 (fun _ _ q => q)) (fun E h9 q => ?_) (fun r9 h9 q => nomatch (show (Sum.inl r9 : tq_R) = Sum.inr _ from q.1))
      obtain ⟨q1, rfl⟩ := q
      cases (show (Sum.inr E : tq_R) = Sum.inr "java/lang/IndexOutOfBoundsException" from q1)
      refine tq_catch (M := mL_foundAt) (pc := 5) (name := "java/lang/IndexOutOfBoundsException") [] ⟨0, 10, 13, 13⟩ [] rfl tk_pass_L_foundAt_0 (by decide) (by decide) tk_RL_13 tk_cast_IndexOutOfBoundsException ?_
      refine tq_xstore (M := mL_foundAt) (pc := 13) dL_foundAt_13 (L2 := [(4, .float 0), (0, .ref a0), (1, .int a1), (2, .int a2), (3, .ref a3)]) (by decide) rfl ?_
      refine tq_iconst (M := mL_foundAt) (pc := 15) dL_foundAt_15 tk_ki_1 ?_
      refine tq_iret (M := mL_foundAt) (pc := 16) dL_foundAt_16 rfl ?_
      cases (Option.some.inj hf)
      exact hQ _ _ ⟨rfl, rfl⟩
    have hf := tq_ifn hf c0
    cases hf
  · refine tq_calV (M := mL_foundAt) (pc := 5) (S := [.int (0 : Int32), .ref a3]) tk_y_X10_foundAt tk_v_X10_foundAt tk_RL_93 dL_foundAt_5 [.int a1, .int a2] rfl (S0 := _) rfl eu2 rfl (Nat.le_of_ble_eq_true rfl) (d1 := d - 1) (b1 := 2) (s1 := 12) (bc' := 0) (bs' := 0) (Q1 := fun r h9 => r = tq_enI ((.inr v4, w3) : (String ⊕ Int32) × tq_H).1 ∧ ((.inr v4, w3) : (String ⊕ Int32) × tq_H).2 = h9) (by omega) rfl rfl (w_X10_foundAt (by omega) ev1 (fun _ _ q => q)) (fun E h9 q => nomatch (show (Sum.inr E : tq_R) = Sum.inl _ from q.1)) (fun r9 h9 q => ?_)
    obtain ⟨q1, rfl⟩ := q
    cases (show (Sum.inl r9 : tq_R) = Sum.inl (some (.int v4)) from q1)
    refine tq_i2l (M := mL_foundAt) (pc := 8) dL_foundAt_8 ?_
    obtain ⟨w5, ew5, hf⟩ := tq_be hf
    refine tq_lastF (M := mL_foundAt) (pc := 9) dL_foundAt_9 ew5 ?_
    refine tq_goto (M := mL_foundAt) (pc := 10) (tgt := 17) dL_foundAt_10 (by decide) ?_
    refine tq_iconst (M := mL_foundAt) (pc := 17) dL_foundAt_17 tk_ki_0 ?_
    refine tq_iret (M := mL_foundAt) (pc := 18) dL_foundAt_18 rfl ?_
    cases (Option.some.inj hf)
    exact hQ _ _ ⟨rfl, rfl⟩
abbrev mL_ordered : tq_M := (RL, cL_ordered, 5, (some .int), false, [(0, 10, 13, 13)], none)
def f_L_ordered (a0 : Nat) (a1 : Int32) (a2 : Int32) (a3 : Nat) (h : tq_H) : Option (Int32 × tq_H) :=
  (tq_is h a0 10).bind fun _ =>
  (f_X10_ordered a0 a1 a2 h).bind fun v1 => match v1 with
  | (.inl E1, w3) =>
    if E1 = "java/lang/IndexOutOfBoundsException" then
      some ((1 : Int32), w3)
    else
      none
  | (.inr v4, w3) =>
    (tq_sl w3 a3 (0 : Int32) (v4).toInt64).bind fun w5 =>
    some ((0 : Int32), w5)
set_option maxHeartbeats 4000000 in
set_option maxRecDepth 20000 in
theorem w_L_ordered {l : Launch} {d : Nat} (hd9 : 8 ≤ d) {a0 : Nat} {a1 : Int32} {a2 : Int32} {a3 : Nat} {h : tq_H} {o : Int32 × tq_H} {Q : tq_R → tq_H → Prop} (hf : f_L_ordered a0 a1 a2 a3 h = some o) (hQ : ∀ r h9, r = .inl (some (.int o.1)) ∧ o.2 = h9 → Q r h9) : tq_CW l yL_ordered cL_ordered 5 (some .int) [(0, 10, 13, 13)] d 2 12 [.ref a0, .int a1, .int a2, .ref a3] h Q := by
  refine tq_bodyW (y := yL_ordered) (by decide +kernel) (Nat.le_of_ble_eq_true rfl) ?_
  show tq_W l mL_ordered d 2 12 Q 0 [(0, .ref a0), (1, .int a1), (2, .int a2), (3, .ref a3)] [] h
  refine tq_aload_n (M := mL_ordered) (pc := 0) dL_ordered_0 rfl ?_
  refine tq_iconst (M := mL_ordered) (pc := 1) dL_ordered_1 tk_ki_0 ?_
  refine tq_aload_n (M := mL_ordered) (pc := 2) dL_ordered_2 rfl ?_
  refine tq_iload_n (M := mL_ordered) (pc := 3) dL_ordered_3 rfl ?_
  refine tq_iload_n (M := mL_ordered) (pc := 4) dL_ordered_4 rfl ?_
  obtain ⟨⟨⟩, eu2, hf⟩ := tq_be hf
  obtain ⟨fsu2, eu2⟩ := tq_is_s eu2
  obtain ⟨⟨E1 | v4, w3⟩, ev1, hf⟩ := tq_be hf
  · skip
    by_cases c0 : E1 = "java/lang/IndexOutOfBoundsException"
    · have hf := tq_ifp hf c0
      subst c0
      refine tq_calV (M := mL_ordered) (pc := 5) (S := [.int (0 : Int32), .ref a3]) tk_y_X10_ordered tk_v_X10_ordered tk_RL_96 dL_ordered_5 [.int a1, .int a2] rfl (S0 := _) rfl eu2 rfl (Nat.le_of_ble_eq_true rfl) (d1 := d - 1) (b1 := 2) (s1 := 12) (bc' := 0) (bs' := 0) (Q1 := fun r h9 => r = tq_enI ((.inl "java/lang/IndexOutOfBoundsException", w3) : (String ⊕ Int32) × tq_H).1 ∧ ((.inl "java/lang/IndexOutOfBoundsException", w3) : (String ⊕ Int32) × tq_H).2 = h9) (by omega) rfl rfl (w_X10_ordered (by omega) ev1 (fun _ _ q => q)) (fun E h9 q => ?_) (fun r9 h9 q => nomatch (show (Sum.inl r9 : tq_R) = Sum.inr _ from q.1))
      obtain ⟨q1, rfl⟩ := q
      cases (show (Sum.inr E : tq_R) = Sum.inr "java/lang/IndexOutOfBoundsException" from q1)
      refine tq_catch (M := mL_ordered) (pc := 5) (name := "java/lang/IndexOutOfBoundsException") [] ⟨0, 10, 13, 13⟩ [] rfl tk_pass_L_ordered_0 (by decide) (by decide) tk_RL_13 tk_cast_IndexOutOfBoundsException ?_
      refine tq_xstore (M := mL_ordered) (pc := 13) dL_ordered_13 (L2 := [(4, .float 0), (0, .ref a0), (1, .int a1), (2, .int a2), (3, .ref a3)]) (by decide) rfl ?_
      refine tq_iconst (M := mL_ordered) (pc := 15) dL_ordered_15 tk_ki_1 ?_
      refine tq_iret (M := mL_ordered) (pc := 16) dL_ordered_16 rfl ?_
      cases (Option.some.inj hf)
      exact hQ _ _ ⟨rfl, rfl⟩
    have hf := tq_ifn hf c0
    cases hf
  · refine tq_calV (M := mL_ordered) (pc := 5) (S := [.int (0 : Int32), .ref a3]) tk_y_X10_ordered tk_v_X10_ordered tk_RL_96 dL_ordered_5 [.int a1, .int a2] rfl (S0 := _) rfl eu2 rfl (Nat.le_of_ble_eq_true rfl) (d1 := d - 1) (b1 := 2) (s1 := 12) (bc' := 0) (bs' := 0) (Q1 := fun r h9 => r = tq_enI ((.inr v4, w3) : (String ⊕ Int32) × tq_H).1 ∧ ((.inr v4, w3) : (String ⊕ Int32) × tq_H).2 = h9) (by omega) rfl rfl (w_X10_ordered (by omega) ev1 (fun _ _ q => q)) (fun E h9 q => nomatch (show (Sum.inr E : tq_R) = Sum.inl _ from q.1)) (fun r9 h9 q => ?_)
    obtain ⟨q1, rfl⟩ := q
    cases (show (Sum.inl r9 : tq_R) = Sum.inl (some (.int v4)) from q1)
    refine tq_i2l (M := mL_ordered) (pc := 8) dL_ordered_8 ?_
    obtain ⟨w5, ew5, hf⟩ := tq_be hf
    refine tq_lastF (M := mL_ordered) (pc := 9) dL_ordered_9 ew5 ?_
    refine tq_goto (M := mL_ordered) (pc := 10) (tgt := 17) dL_ordered_10 (by decide) ?_
    refine tq_iconst (M := mL_ordered) (pc := 17) dL_ordered_17 tk_ki_0 ?_
    refine tq_iret (M := mL_ordered) (pc := 18) dL_ordered_18 rfl ?_
    cases (Option.some.inj hf)
    exact hQ _ _ ⟨rfl, rfl⟩
abbrev mL_groups : tq_M := (RL, cL_groups, 4, (some .int), false, [(0, 9, 12, 13)], none)
def f_L_groups (a0 : Nat) (a1 : Int32) (a2 : Nat) (h : tq_H) : Option (Int32 × tq_H) :=
  (tq_is h a0 10).bind fun _ =>
  (f_X10_groups a0 a1 h).bind fun v1 => match v1 with
  | (.inl E1, w3) =>
    if E1 = "java/lang/IndexOutOfBoundsException" then
      some ((1 : Int32), w3)
    else
      none
  | (.inr v4, w3) =>
    (tq_sl w3 a2 (0 : Int32) (v4).toInt64).bind fun w5 =>
    some ((0 : Int32), w5)
set_option maxHeartbeats 4000000 in
set_option maxRecDepth 20000 in
theorem w_L_groups {l : Launch} {d : Nat} (hd9 : 8 ≤ d) {a0 : Nat} {a1 : Int32} {a2 : Nat} {h : tq_H} {o : Int32 × tq_H} {Q : tq_R → tq_H → Prop} (hf : f_L_groups a0 a1 a2 h = some o) (hQ : ∀ r h9, r = .inl (some (.int o.1)) ∧ o.2 = h9 → Q r h9) : tq_CW l yL_groups cL_groups 4 (some .int) [(0, 9, 12, 13)] d 1 6 [.ref a0, .int a1, .ref a2] h Q := by
  refine tq_bodyW (y := yL_groups) (by decide +kernel) (Nat.le_of_ble_eq_true rfl) ?_
  show tq_W l mL_groups d 1 6 Q 0 [(0, .ref a0), (1, .int a1), (2, .ref a2)] [] h
  refine tq_aload_n (M := mL_groups) (pc := 0) dL_groups_0 rfl ?_
  refine tq_iconst (M := mL_groups) (pc := 1) dL_groups_1 tk_ki_0 ?_
  refine tq_aload_n (M := mL_groups) (pc := 2) dL_groups_2 rfl ?_
  refine tq_iload_n (M := mL_groups) (pc := 3) dL_groups_3 rfl ?_
  obtain ⟨⟨⟩, eu2, hf⟩ := tq_be hf
  obtain ⟨fsu2, eu2⟩ := tq_is_s eu2
  obtain ⟨⟨E1 | v4, w3⟩, ev1, hf⟩ := tq_be hf
  · skip
    by_cases c0 : E1 = "java/lang/IndexOutOfBoundsException"
    · have hf := tq_ifp hf c0
      subst c0
      refine tq_calV (M := mL_groups) (pc := 4) (S := [.int (0 : Int32), .ref a2]) tk_y_X10_groups tk_v_X10_groups tk_RL_99 dL_groups_4 [.int a1] rfl (S0 := _) rfl eu2 rfl (Nat.le_of_ble_eq_true rfl) (d1 := d - 1) (b1 := 1) (s1 := 6) (bc' := 0) (bs' := 0) (Q1 := fun r h9 => r = tq_enI ((.inl "java/lang/IndexOutOfBoundsException", w3) : (String ⊕ Int32) × tq_H).1 ∧ ((.inl "java/lang/IndexOutOfBoundsException", w3) : (String ⊕ Int32) × tq_H).2 = h9) (by omega) rfl rfl (w_X10_groups (by omega) ev1 (fun _ _ q => q)) (fun E h9 q => ?_) (fun r9 h9 q => nomatch (show (Sum.inl r9 : tq_R) = Sum.inr _ from q.1))
      obtain ⟨q1, rfl⟩ := q
      cases (show (Sum.inr E : tq_R) = Sum.inr "java/lang/IndexOutOfBoundsException" from q1)
      refine tq_catch (M := mL_groups) (pc := 4) (name := "java/lang/IndexOutOfBoundsException") [] ⟨0, 9, 12, 13⟩ [] rfl tk_pass_L_groups_0 (by decide) (by decide) tk_RL_13 tk_cast_IndexOutOfBoundsException ?_
      refine tq_xstore_n (M := mL_groups) (pc := 12) rfl dL_groups_12 (L2 := [(3, .float 0), (0, .ref a0), (1, .int a1), (2, .ref a2)]) (by decide) rfl ?_
      refine tq_iconst (M := mL_groups) (pc := 13) dL_groups_13 tk_ki_1 ?_
      refine tq_iret (M := mL_groups) (pc := 14) dL_groups_14 rfl ?_
      cases (Option.some.inj hf)
      exact hQ _ _ ⟨rfl, rfl⟩
    have hf := tq_ifn hf c0
    cases hf
  · refine tq_calV (M := mL_groups) (pc := 4) (S := [.int (0 : Int32), .ref a2]) tk_y_X10_groups tk_v_X10_groups tk_RL_99 dL_groups_4 [.int a1] rfl (S0 := _) rfl eu2 rfl (Nat.le_of_ble_eq_true rfl) (d1 := d - 1) (b1 := 1) (s1 := 6) (bc' := 0) (bs' := 0) (Q1 := fun r h9 => r = tq_enI ((.inr v4, w3) : (String ⊕ Int32) × tq_H).1 ∧ ((.inr v4, w3) : (String ⊕ Int32) × tq_H).2 = h9) (by omega) rfl rfl (w_X10_groups (by omega) ev1 (fun _ _ q => q)) (fun E h9 q => nomatch (show (Sum.inr E : tq_R) = Sum.inl _ from q.1)) (fun r9 h9 q => ?_)
    obtain ⟨q1, rfl⟩ := q
    cases (show (Sum.inl r9 : tq_R) = Sum.inl (some (.int v4)) from q1)
    refine tq_i2l (M := mL_groups) (pc := 7) dL_groups_7 ?_
    obtain ⟨w5, ew5, hf⟩ := tq_be hf
    refine tq_lastF (M := mL_groups) (pc := 8) dL_groups_8 ew5 ?_
    refine tq_goto (M := mL_groups) (pc := 9) (tgt := 15) dL_groups_9 (by decide) ?_
    refine tq_iconst (M := mL_groups) (pc := 15) dL_groups_15 tk_ki_0 ?_
    refine tq_iret (M := mL_groups) (pc := 16) dL_groups_16 rfl ?_
    cases (Option.some.inj hf)
    exact hQ _ _ ⟨rfl, rfl⟩
abbrev mL_nameType : tq_M := (RL, cL_nameType, 5, (some .int), false, [(0, 10, 13, 13), (0, 10, 17, 15), (0, 10, 21, 17)], none)
def f_L_nameType (a0 : Nat) (a1 : Int32) (a2 : Int32) (a3 : Nat) (h : tq_H) : Option (Int32 × tq_H) :=
  (tq_is h a0 10).bind fun _ =>
  (f_X10_nameType a0 a1 a2 h).bind fun v1 => match v1 with
  | (.inl E1, w3) =>
    if E1 = "java/lang/IndexOutOfBoundsException" then
      some ((1 : Int32), w3)
    else
      if E1 = "java/lang/IllegalArgumentException" then
        some ((2 : Int32), w3)
      else
        if E1 = "java/lang/IllegalStateException" then
          some ((3 : Int32), w3)
        else
          none
  | (.inr v4, w3) =>
    (tq_sl w3 a3 (0 : Int32) (v4).toInt64).bind fun w5 =>
    some ((0 : Int32), w5)
set_option maxHeartbeats 4000000 in
set_option maxRecDepth 20000 in
theorem w_L_nameType {l : Launch} {d : Nat} (hd9 : 8 ≤ d) {a0 : Nat} {a1 : Int32} {a2 : Int32} {a3 : Nat} {h : tq_H} {o : Int32 × tq_H} {Q : tq_R → tq_H → Prop} (hf : f_L_nameType a0 a1 a2 a3 h = some o) (hQ : ∀ r h9, r = .inl (some (.int o.1)) ∧ o.2 = h9 → Q r h9) : tq_CW l yL_nameType cL_nameType 5 (some .int) [(0, 10, 13, 13), (0, 10, 17, 15), (0, 10, 21, 17)] d 3 18 [.ref a0, .int a1, .int a2, .ref a3] h Q := by
  refine tq_bodyW (y := yL_nameType) (by decide +kernel) (Nat.le_of_ble_eq_true rfl) ?_
  show tq_W l mL_nameType d 3 18 Q 0 [(0, .ref a0), (1, .int a1), (2, .int a2), (3, .ref a3)] [] h
  refine tq_aload_n (M := mL_nameType) (pc := 0) dL_nameType_0 rfl ?_
  refine tq_iconst (M := mL_nameType) (pc := 1) dL_nameType_1 tk_ki_0 ?_
  refine tq_aload_n (M := mL_nameType) (pc := 2) dL_nameType_2 rfl ?_
  refine tq_iload_n (M := mL_nameType) (pc := 3) dL_nameType_3 rfl ?_
  refine tq_iload_n (M := mL_nameType) (pc := 4) dL_nameType_4 rfl ?_
  obtain ⟨⟨⟩, eu2, hf⟩ := tq_be hf
  obtain ⟨fsu2, eu2⟩ := tq_is_s eu2
  obtain ⟨⟨E1 | v4, w3⟩, ev1, hf⟩ := tq_be hf
  · skip
    by_cases c0 : E1 = "java/lang/IndexOutOfBoundsException"
    · have hf := tq_ifp hf c0
      subst c0
      refine tq_calV (M := mL_nameType) (pc := 5) (S := [.int (0 : Int32), .ref a3]) tk_y_X10_nameType tk_v_X10_nameType tk_RL_102 dL_nameType_5 [.int a1, .int a2] rfl (S0 := _) rfl eu2 rfl (Nat.le_of_ble_eq_true rfl) (d1 := d - 1) (b1 := 3) (s1 := 18) (bc' := 0) (bs' := 0) (Q1 := fun r h9 => r = tq_enI ((.inl "java/lang/IndexOutOfBoundsException", w3) : (String ⊕ Int32) × tq_H).1 ∧ ((.inl "java/lang/IndexOutOfBoundsException", w3) : (String ⊕ Int32) × tq_H).2 = h9) (by omega) rfl rfl (w_X10_nameType (by omega) ev1 (fun _ _ q => q)) (fun E h9 q => ?_) (fun r9 h9 q => nomatch (show (Sum.inl r9 : tq_R) = Sum.inr _ from q.1))
      obtain ⟨q1, rfl⟩ := q
      cases (show (Sum.inr E : tq_R) = Sum.inr "java/lang/IndexOutOfBoundsException" from q1)
      refine tq_catch (M := mL_nameType) (pc := 5) (name := "java/lang/IndexOutOfBoundsException") [] ⟨0, 10, 13, 13⟩ [⟨0, 10, 17, 15⟩, ⟨0, 10, 21, 17⟩] rfl tk_pass_L_nameType_0 (by decide) (by decide) tk_RL_13 tk_cast_IndexOutOfBoundsException ?_
      refine tq_xstore (M := mL_nameType) (pc := 13) dL_nameType_13 (L2 := [(4, .float 0), (0, .ref a0), (1, .int a1), (2, .int a2), (3, .ref a3)]) (by decide) rfl ?_
      refine tq_iconst (M := mL_nameType) (pc := 15) dL_nameType_15 tk_ki_1 ?_
      refine tq_iret (M := mL_nameType) (pc := 16) dL_nameType_16 rfl ?_
      cases (Option.some.inj hf)
      exact hQ _ _ ⟨rfl, rfl⟩
    have hf := tq_ifn hf c0
    by_cases c1 : E1 = "java/lang/IllegalArgumentException"
    · have hf := tq_ifp hf c1
      subst c1
      refine tq_calV (M := mL_nameType) (pc := 5) (S := [.int (0 : Int32), .ref a3]) tk_y_X10_nameType tk_v_X10_nameType tk_RL_102 dL_nameType_5 [.int a1, .int a2] rfl (S0 := _) rfl eu2 rfl (Nat.le_of_ble_eq_true rfl) (d1 := d - 1) (b1 := 3) (s1 := 18) (bc' := 0) (bs' := 0) (Q1 := fun r h9 => r = tq_enI ((.inl "java/lang/IllegalArgumentException", w3) : (String ⊕ Int32) × tq_H).1 ∧ ((.inl "java/lang/IllegalArgumentException", w3) : (String ⊕ Int32) × tq_H).2 = h9) (by omega) rfl rfl (w_X10_nameType (by omega) ev1 (fun _ _ q => q)) (fun E h9 q => ?_) (fun r9 h9 q => nomatch (show (Sum.inl r9 : tq_R) = Sum.inr _ from q.1))
      obtain ⟨q1, rfl⟩ := q
      cases (show (Sum.inr E : tq_R) = Sum.inr "java/lang/IllegalArgumentException" from q1)
      refine tq_catch (M := mL_nameType) (pc := 5) (name := "java/lang/IllegalArgumentException") [⟨0, 10, 13, 13⟩] ⟨0, 10, 17, 15⟩ [⟨0, 10, 21, 17⟩] rfl tk_pass_L_nameType_1 (by decide) (by decide) tk_RL_15 tk_cast_IllegalArgumentException ?_
      refine tq_xstore (M := mL_nameType) (pc := 17) dL_nameType_17 (L2 := [(4, .float 0), (0, .ref a0), (1, .int a1), (2, .int a2), (3, .ref a3)]) (by decide) rfl ?_
      refine tq_iconst (M := mL_nameType) (pc := 19) dL_nameType_19 tk_ki_2 ?_
      refine tq_iret (M := mL_nameType) (pc := 20) dL_nameType_20 rfl ?_
      cases (Option.some.inj hf)
      exact hQ _ _ ⟨rfl, rfl⟩
    have hf := tq_ifn hf c1
    by_cases c2 : E1 = "java/lang/IllegalStateException"
    · have hf := tq_ifp hf c2
      subst c2
      refine tq_calV (M := mL_nameType) (pc := 5) (S := [.int (0 : Int32), .ref a3]) tk_y_X10_nameType tk_v_X10_nameType tk_RL_102 dL_nameType_5 [.int a1, .int a2] rfl (S0 := _) rfl eu2 rfl (Nat.le_of_ble_eq_true rfl) (d1 := d - 1) (b1 := 3) (s1 := 18) (bc' := 0) (bs' := 0) (Q1 := fun r h9 => r = tq_enI ((.inl "java/lang/IllegalStateException", w3) : (String ⊕ Int32) × tq_H).1 ∧ ((.inl "java/lang/IllegalStateException", w3) : (String ⊕ Int32) × tq_H).2 = h9) (by omega) rfl rfl (w_X10_nameType (by omega) ev1 (fun _ _ q => q)) (fun E h9 q => ?_) (fun r9 h9 q => nomatch (show (Sum.inl r9 : tq_R) = Sum.inr _ from q.1))
      obtain ⟨q1, rfl⟩ := q
      cases (show (Sum.inr E : tq_R) = Sum.inr "java/lang/IllegalStateException" from q1)
      refine tq_catch (M := mL_nameType) (pc := 5) (name := "java/lang/IllegalStateException") [⟨0, 10, 13, 13⟩, ⟨0, 10, 17, 15⟩] ⟨0, 10, 21, 17⟩ [] rfl tk_pass_L_nameType_2 (by decide) (by decide) tk_RL_17 tk_cast_IllegalStateException ?_
      refine tq_xstore (M := mL_nameType) (pc := 21) dL_nameType_21 (L2 := [(4, .float 0), (0, .ref a0), (1, .int a1), (2, .int a2), (3, .ref a3)]) (by decide) rfl ?_
      refine tq_iconst (M := mL_nameType) (pc := 23) dL_nameType_23 tk_ki_3 ?_
      refine tq_iret (M := mL_nameType) (pc := 24) dL_nameType_24 rfl ?_
      cases (Option.some.inj hf)
      exact hQ _ _ ⟨rfl, rfl⟩
    have hf := tq_ifn hf c2
    cases hf
  · refine tq_calV (M := mL_nameType) (pc := 5) (S := [.int (0 : Int32), .ref a3]) tk_y_X10_nameType tk_v_X10_nameType tk_RL_102 dL_nameType_5 [.int a1, .int a2] rfl (S0 := _) rfl eu2 rfl (Nat.le_of_ble_eq_true rfl) (d1 := d - 1) (b1 := 3) (s1 := 18) (bc' := 0) (bs' := 0) (Q1 := fun r h9 => r = tq_enI ((.inr v4, w3) : (String ⊕ Int32) × tq_H).1 ∧ ((.inr v4, w3) : (String ⊕ Int32) × tq_H).2 = h9) (by omega) rfl rfl (w_X10_nameType (by omega) ev1 (fun _ _ q => q)) (fun E h9 q => nomatch (show (Sum.inr E : tq_R) = Sum.inl _ from q.1)) (fun r9 h9 q => ?_)
    obtain ⟨q1, rfl⟩ := q
    cases (show (Sum.inl r9 : tq_R) = Sum.inl (some (.int v4)) from q1)
    refine tq_i2l (M := mL_nameType) (pc := 8) dL_nameType_8 ?_
    obtain ⟨w5, ew5, hf⟩ := tq_be hf
    refine tq_lastF (M := mL_nameType) (pc := 9) dL_nameType_9 ew5 ?_
    refine tq_goto (M := mL_nameType) (pc := 10) (tgt := 25) dL_nameType_10 (by decide) ?_
    refine tq_iconst (M := mL_nameType) (pc := 25) dL_nameType_25 tk_ki_0 ?_
    refine tq_iret (M := mL_nameType) (pc := 26) dL_nameType_26 rfl ?_
    cases (Option.some.inj hf)
    exact hQ _ _ ⟨rfl, rfl⟩
abbrev mL_arc : tq_M := (RL, cL_arc, 7, (some .int), false, [(0, 21, 24, 13), (0, 21, 28, 17)], none)
def f_L_arc (a0 : Nat) (a1 : Int32) (a2 : Int32) (a3 : Int32) (a4 : Int32) (a5 : Nat) (h : tq_H) : Option (Int32 × tq_H) :=
  (tq_is h a0 10).bind fun _ =>
  (f_X10_arc a0 a1 a2 a3 a4 h).bind fun v1 => match v1 with
  | (.inl E1, w3) =>
    if E1 = "java/lang/IndexOutOfBoundsException" then
      some ((1 : Int32), w3)
    else
      if E1 = "java/lang/IllegalStateException" then
        some ((2 : Int32), w3)
      else
        none
  | (.inr v4, w3) =>
    tq_let (if v4 = 0 then (0 : Int64) else (1 : Int64)) fun p5 =>
    (tq_sl w3 a5 (0 : Int32) p5).bind fun w6 =>
    some ((0 : Int32), w6)
set_option maxHeartbeats 4000000 in
set_option maxRecDepth 20000 in
theorem w_L_arc {l : Launch} {d : Nat} (hd9 : 8 ≤ d) {a0 : Nat} {a1 : Int32} {a2 : Int32} {a3 : Int32} {a4 : Int32} {a5 : Nat} {h : tq_H} {o : Int32 × tq_H} {Q : tq_R → tq_H → Prop} (hf : f_L_arc a0 a1 a2 a3 a4 a5 h = some o) (hQ : ∀ r h9, r = .inl (some (.int o.1)) ∧ o.2 = h9 → Q r h9) : tq_CW l yL_arc cL_arc 7 (some .int) [(0, 21, 24, 13), (0, 21, 28, 17)] d 5 30 [.ref a0, .int a1, .int a2, .int a3, .int a4, .ref a5] h Q := by
  refine tq_bodyW (y := yL_arc) (by decide +kernel) (Nat.le_of_ble_eq_true rfl) ?_
  show tq_W l mL_arc d 5 30 Q 0 [(0, .ref a0), (1, .int a1), (2, .int a2), (3, .int a3), (4, .int a4), (5, .ref a5)] [] h
  refine tq_aload (M := mL_arc) (pc := 0) dL_arc_0 rfl ?_
  refine tq_iconst (M := mL_arc) (pc := 2) dL_arc_2 tk_ki_0 ?_
  refine tq_aload_n (M := mL_arc) (pc := 3) dL_arc_3 rfl ?_
  refine tq_iload_n (M := mL_arc) (pc := 4) dL_arc_4 rfl ?_
  refine tq_iload_n (M := mL_arc) (pc := 5) dL_arc_5 rfl ?_
  refine tq_iload_n (M := mL_arc) (pc := 6) dL_arc_6 rfl ?_
  refine tq_iload (M := mL_arc) (pc := 7) dL_arc_7 rfl ?_
  obtain ⟨⟨⟩, eu2, hf⟩ := tq_be hf
  obtain ⟨fsu2, eu2⟩ := tq_is_s eu2
  obtain ⟨⟨E1 | v4, w3⟩, ev1, hf⟩ := tq_be hf
  · skip
    by_cases c0 : E1 = "java/lang/IndexOutOfBoundsException"
    · have hf := tq_ifp hf c0
      subst c0
      refine tq_calV (M := mL_arc) (pc := 9) (S := [.int (0 : Int32), .ref a5]) tk_y_X10_arc tk_v_X10_arc tk_RL_105 dL_arc_9 [.int a1, .int a2, .int a3, .int a4] rfl (S0 := _) rfl eu2 rfl (Nat.le_of_ble_eq_true rfl) (d1 := d - 1) (b1 := 5) (s1 := 30) (bc' := 0) (bs' := 0) (Q1 := fun r h9 => r = tq_enI ((.inl "java/lang/IndexOutOfBoundsException", w3) : (String ⊕ Int32) × tq_H).1 ∧ ((.inl "java/lang/IndexOutOfBoundsException", w3) : (String ⊕ Int32) × tq_H).2 = h9) (by omega) rfl rfl (w_X10_arc (by omega) ev1 (fun _ _ q => q)) (fun E h9 q => ?_) (fun r9 h9 q => nomatch (show (Sum.inl r9 : tq_R) = Sum.inr _ from q.1))
      obtain ⟨q1, rfl⟩ := q
      cases (show (Sum.inr E : tq_R) = Sum.inr "java/lang/IndexOutOfBoundsException" from q1)
      refine tq_catch (M := mL_arc) (pc := 9) (name := "java/lang/IndexOutOfBoundsException") [] ⟨0, 21, 24, 13⟩ [⟨0, 21, 28, 17⟩] rfl tk_pass_L_arc_0 (by decide) (by decide) tk_RL_13 tk_cast_IndexOutOfBoundsException ?_
      refine tq_xstore (M := mL_arc) (pc := 24) dL_arc_24 (L2 := [(6, .float 0), (0, .ref a0), (1, .int a1), (2, .int a2), (3, .int a3), (4, .int a4), (5, .ref a5)]) (by decide) rfl ?_
      refine tq_iconst (M := mL_arc) (pc := 26) dL_arc_26 tk_ki_1 ?_
      refine tq_iret (M := mL_arc) (pc := 27) dL_arc_27 rfl ?_
      cases (Option.some.inj hf)
      exact hQ _ _ ⟨rfl, rfl⟩
    have hf := tq_ifn hf c0
    by_cases c1 : E1 = "java/lang/IllegalStateException"
    · have hf := tq_ifp hf c1
      subst c1
      refine tq_calV (M := mL_arc) (pc := 9) (S := [.int (0 : Int32), .ref a5]) tk_y_X10_arc tk_v_X10_arc tk_RL_105 dL_arc_9 [.int a1, .int a2, .int a3, .int a4] rfl (S0 := _) rfl eu2 rfl (Nat.le_of_ble_eq_true rfl) (d1 := d - 1) (b1 := 5) (s1 := 30) (bc' := 0) (bs' := 0) (Q1 := fun r h9 => r = tq_enI ((.inl "java/lang/IllegalStateException", w3) : (String ⊕ Int32) × tq_H).1 ∧ ((.inl "java/lang/IllegalStateException", w3) : (String ⊕ Int32) × tq_H).2 = h9) (by omega) rfl rfl (w_X10_arc (by omega) ev1 (fun _ _ q => q)) (fun E h9 q => ?_) (fun r9 h9 q => nomatch (show (Sum.inl r9 : tq_R) = Sum.inr _ from q.1))
      obtain ⟨q1, rfl⟩ := q
      cases (show (Sum.inr E : tq_R) = Sum.inr "java/lang/IllegalStateException" from q1)
      refine tq_catch (M := mL_arc) (pc := 9) (name := "java/lang/IllegalStateException") [⟨0, 21, 24, 13⟩] ⟨0, 21, 28, 17⟩ [] rfl tk_pass_L_arc_1 (by decide) (by decide) tk_RL_17 tk_cast_IllegalStateException ?_
      refine tq_xstore (M := mL_arc) (pc := 28) dL_arc_28 (L2 := [(6, .float 0), (0, .ref a0), (1, .int a1), (2, .int a2), (3, .int a3), (4, .int a4), (5, .ref a5)]) (by decide) rfl ?_
      refine tq_iconst (M := mL_arc) (pc := 30) dL_arc_30 tk_ki_2 ?_
      refine tq_iret (M := mL_arc) (pc := 31) dL_arc_31 rfl ?_
      cases (Option.some.inj hf)
      exact hQ _ _ ⟨rfl, rfl⟩
    have hf := tq_ifn hf c1
    cases hf
  · refine tq_calV (M := mL_arc) (pc := 9) (S := [.int (0 : Int32), .ref a5]) tk_y_X10_arc tk_v_X10_arc tk_RL_105 dL_arc_9 [.int a1, .int a2, .int a3, .int a4] rfl (S0 := _) rfl eu2 rfl (Nat.le_of_ble_eq_true rfl) (d1 := d - 1) (b1 := 5) (s1 := 30) (bc' := 0) (bs' := 0) (Q1 := fun r h9 => r = tq_enI ((.inr v4, w3) : (String ⊕ Int32) × tq_H).1 ∧ ((.inr v4, w3) : (String ⊕ Int32) × tq_H).2 = h9) (by omega) rfl rfl (w_X10_arc (by omega) ev1 (fun _ _ q => q)) (fun E h9 q => nomatch (show (Sum.inr E : tq_R) = Sum.inl _ from q.1)) (fun r9 h9 q => ?_)
    obtain ⟨q1, rfl⟩ := q
    cases (show (Sum.inl r9 : tq_R) = Sum.inl (some (.int v4)) from q1)
    obtain ⟨p5, ep5, hf⟩ := tq_le hf
    have HJ12 : tq_W l mL_arc d 0 0 Q 20 [] [.long p5, .int (0 : Int32), .ref a5] w3 := by
      obtain ⟨w6, ew6, hf⟩ := tq_be hf
      refine tq_lastF (M := mL_arc) (pc := 20) dL_arc_20 ew6 ?_
      refine tq_goto (M := mL_arc) (pc := 21) (tgt := 32) dL_arc_21 (by decide) ?_
      refine tq_iconst (M := mL_arc) (pc := 32) dL_arc_32 tk_ki_0 ?_
      refine tq_iret (M := mL_arc) (pc := 33) dL_arc_33 rfl ?_
      cases (Option.some.inj hf)
      exact hQ _ _ ⟨rfl, rfl⟩
    refine tq_if_eq (M := mL_arc) (pc := 12) (tgt := 19) dL_arc_12 (by decide) (fun cc => ?_) (fun cc => ?_)
    · have hf := tq_ifp ep5.symm cc
      refine tq_lconst (M := mL_arc) (pc := 19) dL_arc_19 tk_kl_0 ?_
      refine tq_pick (L2 := []) [] rfl ?_
      cases hf
      exact HJ12
    · have hf := tq_ifn ep5.symm cc
      refine tq_lconst (M := mL_arc) (pc := 15) dL_arc_15 tk_kl_1 ?_
      refine tq_goto (M := mL_arc) (pc := 16) (tgt := 20) dL_arc_16 (by decide) ?_
      refine tq_pick (L2 := []) [] rfl ?_
      cases hf
      exact HJ12
abbrev mL_setFinal : tq_M := (RL, cL_setFinal, 6, (some .int), false, [(0, 19, 22, 13), (0, 19, 26, 17)], none)
def f_L_setFinal (a0 : Nat) (a1 : Int32) (a2 : Int32) (a3 : Int32) (a4 : Nat) (h : tq_H) : Option (Int32 × tq_H) :=
  (tq_is h a0 10).bind fun _ =>
  (f_X10_setFinal a0 a1 a2 a3 h).bind fun v1 => match v1 with
  | (.inl E1, w3) =>
    if E1 = "java/lang/IndexOutOfBoundsException" then
      some ((1 : Int32), w3)
    else
      if E1 = "java/lang/IllegalStateException" then
        some ((2 : Int32), w3)
      else
        none
  | (.inr v4, w3) =>
    tq_let (if v4 = 0 then (0 : Int64) else (1 : Int64)) fun p5 =>
    (tq_sl w3 a4 (0 : Int32) p5).bind fun w6 =>
    some ((0 : Int32), w6)
set_option maxHeartbeats 4000000 in
set_option maxRecDepth 20000 in
theorem w_L_setFinal {l : Launch} {d : Nat} (hd9 : 8 ≤ d) {a0 : Nat} {a1 : Int32} {a2 : Int32} {a3 : Int32} {a4 : Nat} {h : tq_H} {o : Int32 × tq_H} {Q : tq_R → tq_H → Prop} (hf : f_L_setFinal a0 a1 a2 a3 a4 h = some o) (hQ : ∀ r h9, r = .inl (some (.int o.1)) ∧ o.2 = h9 → Q r h9) : tq_CW l yL_setFinal cL_setFinal 6 (some .int) [(0, 19, 22, 13), (0, 19, 26, 17)] d 3 18 [.ref a0, .int a1, .int a2, .int a3, .ref a4] h Q := by
  refine tq_bodyW (y := yL_setFinal) (by decide +kernel) (Nat.le_of_ble_eq_true rfl) ?_
  show tq_W l mL_setFinal d 3 18 Q 0 [(0, .ref a0), (1, .int a1), (2, .int a2), (3, .int a3), (4, .ref a4)] [] h
  refine tq_aload (M := mL_setFinal) (pc := 0) dL_setFinal_0 rfl ?_
  refine tq_iconst (M := mL_setFinal) (pc := 2) dL_setFinal_2 tk_ki_0 ?_
  refine tq_aload_n (M := mL_setFinal) (pc := 3) dL_setFinal_3 rfl ?_
  refine tq_iload_n (M := mL_setFinal) (pc := 4) dL_setFinal_4 rfl ?_
  refine tq_iload_n (M := mL_setFinal) (pc := 5) dL_setFinal_5 rfl ?_
  refine tq_iload_n (M := mL_setFinal) (pc := 6) dL_setFinal_6 rfl ?_
  obtain ⟨⟨⟩, eu2, hf⟩ := tq_be hf
  obtain ⟨fsu2, eu2⟩ := tq_is_s eu2
  obtain ⟨⟨E1 | v4, w3⟩, ev1, hf⟩ := tq_be hf
  · skip
    by_cases c0 : E1 = "java/lang/IndexOutOfBoundsException"
    · have hf := tq_ifp hf c0
      subst c0
      refine tq_calV (M := mL_setFinal) (pc := 7) (S := [.int (0 : Int32), .ref a4]) tk_y_X10_setFinal tk_v_X10_setFinal tk_RL_109 dL_setFinal_7 [.int a1, .int a2, .int a3] rfl (S0 := _) rfl eu2 rfl (Nat.le_of_ble_eq_true rfl) (d1 := d - 1) (b1 := 3) (s1 := 18) (bc' := 0) (bs' := 0) (Q1 := fun r h9 => r = tq_enI ((.inl "java/lang/IndexOutOfBoundsException", w3) : (String ⊕ Int32) × tq_H).1 ∧ ((.inl "java/lang/IndexOutOfBoundsException", w3) : (String ⊕ Int32) × tq_H).2 = h9) (by omega) rfl rfl (w_X10_setFinal (by omega) ev1 (fun _ _ q => q)) (fun E h9 q => ?_) (fun r9 h9 q => nomatch (show (Sum.inl r9 : tq_R) = Sum.inr _ from q.1))
      obtain ⟨q1, rfl⟩ := q
      cases (show (Sum.inr E : tq_R) = Sum.inr "java/lang/IndexOutOfBoundsException" from q1)
      refine tq_catch (M := mL_setFinal) (pc := 7) (name := "java/lang/IndexOutOfBoundsException") [] ⟨0, 19, 22, 13⟩ [⟨0, 19, 26, 17⟩] rfl tk_pass_L_setFinal_0 (by decide) (by decide) tk_RL_13 tk_cast_IndexOutOfBoundsException ?_
      refine tq_xstore (M := mL_setFinal) (pc := 22) dL_setFinal_22 (L2 := [(5, .float 0), (0, .ref a0), (1, .int a1), (2, .int a2), (3, .int a3), (4, .ref a4)]) (by decide) rfl ?_
      refine tq_iconst (M := mL_setFinal) (pc := 24) dL_setFinal_24 tk_ki_1 ?_
      refine tq_iret (M := mL_setFinal) (pc := 25) dL_setFinal_25 rfl ?_
      cases (Option.some.inj hf)
      exact hQ _ _ ⟨rfl, rfl⟩
    have hf := tq_ifn hf c0
    by_cases c1 : E1 = "java/lang/IllegalStateException"
    · have hf := tq_ifp hf c1
      subst c1
      refine tq_calV (M := mL_setFinal) (pc := 7) (S := [.int (0 : Int32), .ref a4]) tk_y_X10_setFinal tk_v_X10_setFinal tk_RL_109 dL_setFinal_7 [.int a1, .int a2, .int a3] rfl (S0 := _) rfl eu2 rfl (Nat.le_of_ble_eq_true rfl) (d1 := d - 1) (b1 := 3) (s1 := 18) (bc' := 0) (bs' := 0) (Q1 := fun r h9 => r = tq_enI ((.inl "java/lang/IllegalStateException", w3) : (String ⊕ Int32) × tq_H).1 ∧ ((.inl "java/lang/IllegalStateException", w3) : (String ⊕ Int32) × tq_H).2 = h9) (by omega) rfl rfl (w_X10_setFinal (by omega) ev1 (fun _ _ q => q)) (fun E h9 q => ?_) (fun r9 h9 q => nomatch (show (Sum.inl r9 : tq_R) = Sum.inr _ from q.1))
      obtain ⟨q1, rfl⟩ := q
      cases (show (Sum.inr E : tq_R) = Sum.inr "java/lang/IllegalStateException" from q1)
      refine tq_catch (M := mL_setFinal) (pc := 7) (name := "java/lang/IllegalStateException") [⟨0, 19, 22, 13⟩] ⟨0, 19, 26, 17⟩ [] rfl tk_pass_L_setFinal_1 (by decide) (by decide) tk_RL_17 tk_cast_IllegalStateException ?_
      refine tq_xstore (M := mL_setFinal) (pc := 26) dL_setFinal_26 (L2 := [(5, .float 0), (0, .ref a0), (1, .int a1), (2, .int a2), (3, .int a3), (4, .ref a4)]) (by decide) rfl ?_
      refine tq_iconst (M := mL_setFinal) (pc := 28) dL_setFinal_28 tk_ki_2 ?_
      refine tq_iret (M := mL_setFinal) (pc := 29) dL_setFinal_29 rfl ?_
      cases (Option.some.inj hf)
      exact hQ _ _ ⟨rfl, rfl⟩
    have hf := tq_ifn hf c1
    cases hf
  · refine tq_calV (M := mL_setFinal) (pc := 7) (S := [.int (0 : Int32), .ref a4]) tk_y_X10_setFinal tk_v_X10_setFinal tk_RL_109 dL_setFinal_7 [.int a1, .int a2, .int a3] rfl (S0 := _) rfl eu2 rfl (Nat.le_of_ble_eq_true rfl) (d1 := d - 1) (b1 := 3) (s1 := 18) (bc' := 0) (bs' := 0) (Q1 := fun r h9 => r = tq_enI ((.inr v4, w3) : (String ⊕ Int32) × tq_H).1 ∧ ((.inr v4, w3) : (String ⊕ Int32) × tq_H).2 = h9) (by omega) rfl rfl (w_X10_setFinal (by omega) ev1 (fun _ _ q => q)) (fun E h9 q => nomatch (show (Sum.inr E : tq_R) = Sum.inl _ from q.1)) (fun r9 h9 q => ?_)
    obtain ⟨q1, rfl⟩ := q
    cases (show (Sum.inl r9 : tq_R) = Sum.inl (some (.int v4)) from q1)
    obtain ⟨p5, ep5, hf⟩ := tq_le hf
    have HJ10 : tq_W l mL_setFinal d 0 0 Q 18 [] [.long p5, .int (0 : Int32), .ref a4] w3 := by
      obtain ⟨w6, ew6, hf⟩ := tq_be hf
      refine tq_lastF (M := mL_setFinal) (pc := 18) dL_setFinal_18 ew6 ?_
      refine tq_goto (M := mL_setFinal) (pc := 19) (tgt := 30) dL_setFinal_19 (by decide) ?_
      refine tq_iconst (M := mL_setFinal) (pc := 30) dL_setFinal_30 tk_ki_0 ?_
      refine tq_iret (M := mL_setFinal) (pc := 31) dL_setFinal_31 rfl ?_
      cases (Option.some.inj hf)
      exact hQ _ _ ⟨rfl, rfl⟩
    refine tq_if_eq (M := mL_setFinal) (pc := 10) (tgt := 17) dL_setFinal_10 (by decide) (fun cc => ?_) (fun cc => ?_)
    · have hf := tq_ifp ep5.symm cc
      refine tq_lconst (M := mL_setFinal) (pc := 17) dL_setFinal_17 tk_kl_0 ?_
      refine tq_pick (L2 := []) [] rfl ?_
      cases hf
      exact HJ10
    · have hf := tq_ifn ep5.symm cc
      refine tq_lconst (M := mL_setFinal) (pc := 13) dL_setFinal_13 tk_kl_1 ?_
      refine tq_goto (M := mL_setFinal) (pc := 14) (tgt := 18) dL_setFinal_14 (by decide) ?_
      refine tq_pick (L2 := []) [] rfl ?_
      cases hf
      exact HJ10
abbrev mL_allowTexts : tq_M := (RL, cL_allowTexts, 5, (some .int), false, [(0, 17, 20, 13), (0, 17, 24, 17)], none)
def f_L_allowTexts (a0 : Nat) (a1 : Int32) (a2 : Int32) (a3 : Nat) (h : tq_H) : Option (Int32 × tq_H) :=
  (tq_is h a0 10).bind fun _ =>
  (f_X10_allowTexts a0 a1 a2 h).bind fun v1 => match v1 with
  | (.inl E1, w3) =>
    if E1 = "java/lang/IndexOutOfBoundsException" then
      some ((1 : Int32), w3)
    else
      if E1 = "java/lang/IllegalStateException" then
        some ((2 : Int32), w3)
      else
        none
  | (.inr v4, w3) =>
    tq_let (if v4 = 0 then (0 : Int64) else (1 : Int64)) fun p5 =>
    (tq_sl w3 a3 (0 : Int32) p5).bind fun w6 =>
    some ((0 : Int32), w6)
set_option maxHeartbeats 4000000 in
set_option maxRecDepth 20000 in
theorem w_L_allowTexts {l : Launch} {d : Nat} (hd9 : 8 ≤ d) {a0 : Nat} {a1 : Int32} {a2 : Int32} {a3 : Nat} {h : tq_H} {o : Int32 × tq_H} {Q : tq_R → tq_H → Prop} (hf : f_L_allowTexts a0 a1 a2 a3 h = some o) (hQ : ∀ r h9, r = .inl (some (.int o.1)) ∧ o.2 = h9 → Q r h9) : tq_CW l yL_allowTexts cL_allowTexts 5 (some .int) [(0, 17, 20, 13), (0, 17, 24, 17)] d 2 12 [.ref a0, .int a1, .int a2, .ref a3] h Q := by
  refine tq_bodyW (y := yL_allowTexts) (by decide +kernel) (Nat.le_of_ble_eq_true rfl) ?_
  show tq_W l mL_allowTexts d 2 12 Q 0 [(0, .ref a0), (1, .int a1), (2, .int a2), (3, .ref a3)] [] h
  refine tq_aload_n (M := mL_allowTexts) (pc := 0) dL_allowTexts_0 rfl ?_
  refine tq_iconst (M := mL_allowTexts) (pc := 1) dL_allowTexts_1 tk_ki_0 ?_
  refine tq_aload_n (M := mL_allowTexts) (pc := 2) dL_allowTexts_2 rfl ?_
  refine tq_iload_n (M := mL_allowTexts) (pc := 3) dL_allowTexts_3 rfl ?_
  refine tq_iload_n (M := mL_allowTexts) (pc := 4) dL_allowTexts_4 rfl ?_
  obtain ⟨⟨⟩, eu2, hf⟩ := tq_be hf
  obtain ⟨fsu2, eu2⟩ := tq_is_s eu2
  obtain ⟨⟨E1 | v4, w3⟩, ev1, hf⟩ := tq_be hf
  · skip
    by_cases c0 : E1 = "java/lang/IndexOutOfBoundsException"
    · have hf := tq_ifp hf c0
      subst c0
      refine tq_calV (M := mL_allowTexts) (pc := 5) (S := [.int (0 : Int32), .ref a3]) tk_y_X10_allowTexts tk_v_X10_allowTexts tk_RL_113 dL_allowTexts_5 [.int a1, .int a2] rfl (S0 := _) rfl eu2 rfl (Nat.le_of_ble_eq_true rfl) (d1 := d - 1) (b1 := 2) (s1 := 12) (bc' := 0) (bs' := 0) (Q1 := fun r h9 => r = tq_enI ((.inl "java/lang/IndexOutOfBoundsException", w3) : (String ⊕ Int32) × tq_H).1 ∧ ((.inl "java/lang/IndexOutOfBoundsException", w3) : (String ⊕ Int32) × tq_H).2 = h9) (by omega) rfl rfl (w_X10_allowTexts (by omega) ev1 (fun _ _ q => q)) (fun E h9 q => ?_) (fun r9 h9 q => nomatch (show (Sum.inl r9 : tq_R) = Sum.inr _ from q.1))
      obtain ⟨q1, rfl⟩ := q
      cases (show (Sum.inr E : tq_R) = Sum.inr "java/lang/IndexOutOfBoundsException" from q1)
      refine tq_catch (M := mL_allowTexts) (pc := 5) (name := "java/lang/IndexOutOfBoundsException") [] ⟨0, 17, 20, 13⟩ [⟨0, 17, 24, 17⟩] rfl tk_pass_L_allowTexts_0 (by decide) (by decide) tk_RL_13 tk_cast_IndexOutOfBoundsException ?_
      refine tq_xstore (M := mL_allowTexts) (pc := 20) dL_allowTexts_20 (L2 := [(4, .float 0), (0, .ref a0), (1, .int a1), (2, .int a2), (3, .ref a3)]) (by decide) rfl ?_
      refine tq_iconst (M := mL_allowTexts) (pc := 22) dL_allowTexts_22 tk_ki_1 ?_
      refine tq_iret (M := mL_allowTexts) (pc := 23) dL_allowTexts_23 rfl ?_
      cases (Option.some.inj hf)
      exact hQ _ _ ⟨rfl, rfl⟩
    have hf := tq_ifn hf c0
    by_cases c1 : E1 = "java/lang/IllegalStateException"
    · have hf := tq_ifp hf c1
      subst c1
      refine tq_calV (M := mL_allowTexts) (pc := 5) (S := [.int (0 : Int32), .ref a3]) tk_y_X10_allowTexts tk_v_X10_allowTexts tk_RL_113 dL_allowTexts_5 [.int a1, .int a2] rfl (S0 := _) rfl eu2 rfl (Nat.le_of_ble_eq_true rfl) (d1 := d - 1) (b1 := 2) (s1 := 12) (bc' := 0) (bs' := 0) (Q1 := fun r h9 => r = tq_enI ((.inl "java/lang/IllegalStateException", w3) : (String ⊕ Int32) × tq_H).1 ∧ ((.inl "java/lang/IllegalStateException", w3) : (String ⊕ Int32) × tq_H).2 = h9) (by omega) rfl rfl (w_X10_allowTexts (by omega) ev1 (fun _ _ q => q)) (fun E h9 q => ?_) (fun r9 h9 q => nomatch (show (Sum.inl r9 : tq_R) = Sum.inr _ from q.1))
      obtain ⟨q1, rfl⟩ := q
      cases (show (Sum.inr E : tq_R) = Sum.inr "java/lang/IllegalStateException" from q1)
      refine tq_catch (M := mL_allowTexts) (pc := 5) (name := "java/lang/IllegalStateException") [⟨0, 17, 20, 13⟩] ⟨0, 17, 24, 17⟩ [] rfl tk_pass_L_allowTexts_1 (by decide) (by decide) tk_RL_17 tk_cast_IllegalStateException ?_
      refine tq_xstore (M := mL_allowTexts) (pc := 24) dL_allowTexts_24 (L2 := [(4, .float 0), (0, .ref a0), (1, .int a1), (2, .int a2), (3, .ref a3)]) (by decide) rfl ?_
      refine tq_iconst (M := mL_allowTexts) (pc := 26) dL_allowTexts_26 tk_ki_2 ?_
      refine tq_iret (M := mL_allowTexts) (pc := 27) dL_allowTexts_27 rfl ?_
      cases (Option.some.inj hf)
      exact hQ _ _ ⟨rfl, rfl⟩
    have hf := tq_ifn hf c1
    cases hf
  · refine tq_calV (M := mL_allowTexts) (pc := 5) (S := [.int (0 : Int32), .ref a3]) tk_y_X10_allowTexts tk_v_X10_allowTexts tk_RL_113 dL_allowTexts_5 [.int a1, .int a2] rfl (S0 := _) rfl eu2 rfl (Nat.le_of_ble_eq_true rfl) (d1 := d - 1) (b1 := 2) (s1 := 12) (bc' := 0) (bs' := 0) (Q1 := fun r h9 => r = tq_enI ((.inr v4, w3) : (String ⊕ Int32) × tq_H).1 ∧ ((.inr v4, w3) : (String ⊕ Int32) × tq_H).2 = h9) (by omega) rfl rfl (w_X10_allowTexts (by omega) ev1 (fun _ _ q => q)) (fun E h9 q => nomatch (show (Sum.inr E : tq_R) = Sum.inl _ from q.1)) (fun r9 h9 q => ?_)
    obtain ⟨q1, rfl⟩ := q
    cases (show (Sum.inl r9 : tq_R) = Sum.inl (some (.int v4)) from q1)
    obtain ⟨p5, ep5, hf⟩ := tq_le hf
    have HJ8 : tq_W l mL_allowTexts d 0 0 Q 16 [] [.long p5, .int (0 : Int32), .ref a3] w3 := by
      obtain ⟨w6, ew6, hf⟩ := tq_be hf
      refine tq_lastF (M := mL_allowTexts) (pc := 16) dL_allowTexts_16 ew6 ?_
      refine tq_goto (M := mL_allowTexts) (pc := 17) (tgt := 28) dL_allowTexts_17 (by decide) ?_
      refine tq_iconst (M := mL_allowTexts) (pc := 28) dL_allowTexts_28 tk_ki_0 ?_
      refine tq_iret (M := mL_allowTexts) (pc := 29) dL_allowTexts_29 rfl ?_
      cases (Option.some.inj hf)
      exact hQ _ _ ⟨rfl, rfl⟩
    refine tq_if_eq (M := mL_allowTexts) (pc := 8) (tgt := 15) dL_allowTexts_8 (by decide) (fun cc => ?_) (fun cc => ?_)
    · have hf := tq_ifp ep5.symm cc
      refine tq_lconst (M := mL_allowTexts) (pc := 15) dL_allowTexts_15 tk_kl_0 ?_
      refine tq_pick (L2 := []) [] rfl ?_
      cases hf
      exact HJ8
    · have hf := tq_ifn ep5.symm cc
      refine tq_lconst (M := mL_allowTexts) (pc := 11) dL_allowTexts_11 tk_kl_1 ?_
      refine tq_goto (M := mL_allowTexts) (pc := 12) (tgt := 16) dL_allowTexts_12 (by decide) ?_
      refine tq_pick (L2 := []) [] rfl ?_
      cases hf
      exact HJ8
abbrev mL_attribute : tq_M := (RL, cL_attribute, 6, (some .int), false, [(0, 12, 15, 13), (0, 12, 19, 15), (0, 12, 23, 17)], none)
def f_L_attribute (a0 : Nat) (a1 : Int32) (a2 : Int32) (a3 : Int32) (a4 : Nat) (h : tq_H) : Option (Int32 × tq_H) :=
  (tq_is h a0 10).bind fun _ =>
  (f_X10_attribute a0 a1 a2 a3 h).bind fun v1 => match v1 with
  | (.inl E1, w3) =>
    if E1 = "java/lang/IndexOutOfBoundsException" then
      some ((1 : Int32), w3)
    else
      if E1 = "java/lang/IllegalArgumentException" then
        some ((2 : Int32), w3)
      else
        if E1 = "java/lang/IllegalStateException" then
          some ((3 : Int32), w3)
        else
          none
  | (.inr v4, w3) =>
    (tq_sl w3 a4 (0 : Int32) (v4).toInt64).bind fun w5 =>
    some ((0 : Int32), w5)
set_option maxHeartbeats 4000000 in
set_option maxRecDepth 20000 in
theorem w_L_attribute {l : Launch} {d : Nat} (hd9 : 8 ≤ d) {a0 : Nat} {a1 : Int32} {a2 : Int32} {a3 : Int32} {a4 : Nat} {h : tq_H} {o : Int32 × tq_H} {Q : tq_R → tq_H → Prop} (hf : f_L_attribute a0 a1 a2 a3 a4 h = some o) (hQ : ∀ r h9, r = .inl (some (.int o.1)) ∧ o.2 = h9 → Q r h9) : tq_CW l yL_attribute cL_attribute 6 (some .int) [(0, 12, 15, 13), (0, 12, 19, 15), (0, 12, 23, 17)] d 4 24 [.ref a0, .int a1, .int a2, .int a3, .ref a4] h Q := by
  refine tq_bodyW (y := yL_attribute) (by decide +kernel) (Nat.le_of_ble_eq_true rfl) ?_
  show tq_W l mL_attribute d 4 24 Q 0 [(0, .ref a0), (1, .int a1), (2, .int a2), (3, .int a3), (4, .ref a4)] [] h
  refine tq_aload (M := mL_attribute) (pc := 0) dL_attribute_0 rfl ?_
  refine tq_iconst (M := mL_attribute) (pc := 2) dL_attribute_2 tk_ki_0 ?_
  refine tq_aload_n (M := mL_attribute) (pc := 3) dL_attribute_3 rfl ?_
  refine tq_iload_n (M := mL_attribute) (pc := 4) dL_attribute_4 rfl ?_
  refine tq_iload_n (M := mL_attribute) (pc := 5) dL_attribute_5 rfl ?_
  refine tq_iload_n (M := mL_attribute) (pc := 6) dL_attribute_6 rfl ?_
  obtain ⟨⟨⟩, eu2, hf⟩ := tq_be hf
  obtain ⟨fsu2, eu2⟩ := tq_is_s eu2
  obtain ⟨⟨E1 | v4, w3⟩, ev1, hf⟩ := tq_be hf
  · skip
    by_cases c0 : E1 = "java/lang/IndexOutOfBoundsException"
    · have hf := tq_ifp hf c0
      subst c0
      refine tq_calV (M := mL_attribute) (pc := 7) (S := [.int (0 : Int32), .ref a4]) tk_y_X10_attribute tk_v_X10_attribute tk_RL_117 dL_attribute_7 [.int a1, .int a2, .int a3] rfl (S0 := _) rfl eu2 rfl (Nat.le_of_ble_eq_true rfl) (d1 := d - 1) (b1 := 4) (s1 := 24) (bc' := 0) (bs' := 0) (Q1 := fun r h9 => r = tq_enI ((.inl "java/lang/IndexOutOfBoundsException", w3) : (String ⊕ Int32) × tq_H).1 ∧ ((.inl "java/lang/IndexOutOfBoundsException", w3) : (String ⊕ Int32) × tq_H).2 = h9) (by omega) rfl rfl (w_X10_attribute (by omega) ev1 (fun _ _ q => q)) (fun E h9 q => ?_) (fun r9 h9 q => nomatch (show (Sum.inl r9 : tq_R) = Sum.inr _ from q.1))
      obtain ⟨q1, rfl⟩ := q
      cases (show (Sum.inr E : tq_R) = Sum.inr "java/lang/IndexOutOfBoundsException" from q1)
      refine tq_catch (M := mL_attribute) (pc := 7) (name := "java/lang/IndexOutOfBoundsException") [] ⟨0, 12, 15, 13⟩ [⟨0, 12, 19, 15⟩, ⟨0, 12, 23, 17⟩] rfl tk_pass_L_attribute_0 (by decide) (by decide) tk_RL_13 tk_cast_IndexOutOfBoundsException ?_
      refine tq_xstore (M := mL_attribute) (pc := 15) dL_attribute_15 (L2 := [(5, .float 0), (0, .ref a0), (1, .int a1), (2, .int a2), (3, .int a3), (4, .ref a4)]) (by decide) rfl ?_
      refine tq_iconst (M := mL_attribute) (pc := 17) dL_attribute_17 tk_ki_1 ?_
      refine tq_iret (M := mL_attribute) (pc := 18) dL_attribute_18 rfl ?_
      cases (Option.some.inj hf)
      exact hQ _ _ ⟨rfl, rfl⟩
    have hf := tq_ifn hf c0
    by_cases c1 : E1 = "java/lang/IllegalArgumentException"
    · have hf := tq_ifp hf c1
      subst c1
      refine tq_calV (M := mL_attribute) (pc := 7) (S := [.int (0 : Int32), .ref a4]) tk_y_X10_attribute tk_v_X10_attribute tk_RL_117 dL_attribute_7 [.int a1, .int a2, .int a3] rfl (S0 := _) rfl eu2 rfl (Nat.le_of_ble_eq_true rfl) (d1 := d - 1) (b1 := 4) (s1 := 24) (bc' := 0) (bs' := 0) (Q1 := fun r h9 => r = tq_enI ((.inl "java/lang/IllegalArgumentException", w3) : (String ⊕ Int32) × tq_H).1 ∧ ((.inl "java/lang/IllegalArgumentException", w3) : (String ⊕ Int32) × tq_H).2 = h9) (by omega) rfl rfl (w_X10_attribute (by omega) ev1 (fun _ _ q => q)) (fun E h9 q => ?_) (fun r9 h9 q => nomatch (show (Sum.inl r9 : tq_R) = Sum.inr _ from q.1))
      obtain ⟨q1, rfl⟩ := q
      cases (show (Sum.inr E : tq_R) = Sum.inr "java/lang/IllegalArgumentException" from q1)
      refine tq_catch (M := mL_attribute) (pc := 7) (name := "java/lang/IllegalArgumentException") [⟨0, 12, 15, 13⟩] ⟨0, 12, 19, 15⟩ [⟨0, 12, 23, 17⟩] rfl tk_pass_L_attribute_1 (by decide) (by decide) tk_RL_15 tk_cast_IllegalArgumentException ?_
      refine tq_xstore (M := mL_attribute) (pc := 19) dL_attribute_19 (L2 := [(5, .float 0), (0, .ref a0), (1, .int a1), (2, .int a2), (3, .int a3), (4, .ref a4)]) (by decide) rfl ?_
      refine tq_iconst (M := mL_attribute) (pc := 21) dL_attribute_21 tk_ki_2 ?_
      refine tq_iret (M := mL_attribute) (pc := 22) dL_attribute_22 rfl ?_
      cases (Option.some.inj hf)
      exact hQ _ _ ⟨rfl, rfl⟩
    have hf := tq_ifn hf c1
    by_cases c2 : E1 = "java/lang/IllegalStateException"
    · have hf := tq_ifp hf c2
      subst c2
      refine tq_calV (M := mL_attribute) (pc := 7) (S := [.int (0 : Int32), .ref a4]) tk_y_X10_attribute tk_v_X10_attribute tk_RL_117 dL_attribute_7 [.int a1, .int a2, .int a3] rfl (S0 := _) rfl eu2 rfl (Nat.le_of_ble_eq_true rfl) (d1 := d - 1) (b1 := 4) (s1 := 24) (bc' := 0) (bs' := 0) (Q1 := fun r h9 => r = tq_enI ((.inl "java/lang/IllegalStateException", w3) : (String ⊕ Int32) × tq_H).1 ∧ ((.inl "java/lang/IllegalStateException", w3) : (String ⊕ Int32) × tq_H).2 = h9) (by omega) rfl rfl (w_X10_attribute (by omega) ev1 (fun _ _ q => q)) (fun E h9 q => ?_) (fun r9 h9 q => nomatch (show (Sum.inl r9 : tq_R) = Sum.inr _ from q.1))
      obtain ⟨q1, rfl⟩ := q
      cases (show (Sum.inr E : tq_R) = Sum.inr "java/lang/IllegalStateException" from q1)
      refine tq_catch (M := mL_attribute) (pc := 7) (name := "java/lang/IllegalStateException") [⟨0, 12, 15, 13⟩, ⟨0, 12, 19, 15⟩] ⟨0, 12, 23, 17⟩ [] rfl tk_pass_L_attribute_2 (by decide) (by decide) tk_RL_17 tk_cast_IllegalStateException ?_
      refine tq_xstore (M := mL_attribute) (pc := 23) dL_attribute_23 (L2 := [(5, .float 0), (0, .ref a0), (1, .int a1), (2, .int a2), (3, .int a3), (4, .ref a4)]) (by decide) rfl ?_
      refine tq_iconst (M := mL_attribute) (pc := 25) dL_attribute_25 tk_ki_3 ?_
      refine tq_iret (M := mL_attribute) (pc := 26) dL_attribute_26 rfl ?_
      cases (Option.some.inj hf)
      exact hQ _ _ ⟨rfl, rfl⟩
    have hf := tq_ifn hf c2
    cases hf
  · refine tq_calV (M := mL_attribute) (pc := 7) (S := [.int (0 : Int32), .ref a4]) tk_y_X10_attribute tk_v_X10_attribute tk_RL_117 dL_attribute_7 [.int a1, .int a2, .int a3] rfl (S0 := _) rfl eu2 rfl (Nat.le_of_ble_eq_true rfl) (d1 := d - 1) (b1 := 4) (s1 := 24) (bc' := 0) (bs' := 0) (Q1 := fun r h9 => r = tq_enI ((.inr v4, w3) : (String ⊕ Int32) × tq_H).1 ∧ ((.inr v4, w3) : (String ⊕ Int32) × tq_H).2 = h9) (by omega) rfl rfl (w_X10_attribute (by omega) ev1 (fun _ _ q => q)) (fun E h9 q => nomatch (show (Sum.inr E : tq_R) = Sum.inl _ from q.1)) (fun r9 h9 q => ?_)
    obtain ⟨q1, rfl⟩ := q
    cases (show (Sum.inl r9 : tq_R) = Sum.inl (some (.int v4)) from q1)
    refine tq_i2l (M := mL_attribute) (pc := 10) dL_attribute_10 ?_
    obtain ⟨w5, ew5, hf⟩ := tq_be hf
    refine tq_lastF (M := mL_attribute) (pc := 11) dL_attribute_11 ew5 ?_
    refine tq_goto (M := mL_attribute) (pc := 12) (tgt := 27) dL_attribute_12 (by decide) ?_
    refine tq_iconst (M := mL_attribute) (pc := 27) dL_attribute_27 tk_ki_0 ?_
    refine tq_iret (M := mL_attribute) (pc := 28) dL_attribute_28 rfl ?_
    cases (Option.some.inj hf)
    exact hQ _ _ ⟨rfl, rfl⟩
abbrev mL_setStrict : tq_M := (RL, cL_setStrict, 4, (some .int), false, [(0, 16, 19, 17)], none)
def f_L_setStrict (a0 : Nat) (a1 : Int32) (a2 : Nat) (h : tq_H) : Option (Int32 × tq_H) :=
  (tq_is h a0 10).bind fun _ =>
  (f_X10_setStrict a0 a1 h).bind fun v1 => match v1 with
  | (.inl E1, w3) =>
    if E1 = "java/lang/IllegalStateException" then
      some ((1 : Int32), w3)
    else
      none
  | (.inr v4, w3) =>
    tq_let (if v4 = 0 then (0 : Int64) else (1 : Int64)) fun p5 =>
    (tq_sl w3 a2 (0 : Int32) p5).bind fun w6 =>
    some ((0 : Int32), w6)
set_option maxHeartbeats 4000000 in
set_option maxRecDepth 20000 in
theorem w_L_setStrict {l : Launch} {d : Nat} (hd9 : 7 ≤ d) {a0 : Nat} {a1 : Int32} {a2 : Nat} {h : tq_H} {o : Int32 × tq_H} {Q : tq_R → tq_H → Prop} (hf : f_L_setStrict a0 a1 a2 h = some o) (hQ : ∀ r h9, r = .inl (some (.int o.1)) ∧ o.2 = h9 → Q r h9) : tq_CW l yL_setStrict cL_setStrict 4 (some .int) [(0, 16, 19, 17)] d 1 6 [.ref a0, .int a1, .ref a2] h Q := by
  refine tq_bodyW (y := yL_setStrict) (by decide +kernel) (Nat.le_of_ble_eq_true rfl) ?_
  show tq_W l mL_setStrict d 1 6 Q 0 [(0, .ref a0), (1, .int a1), (2, .ref a2)] [] h
  refine tq_aload_n (M := mL_setStrict) (pc := 0) dL_setStrict_0 rfl ?_
  refine tq_iconst (M := mL_setStrict) (pc := 1) dL_setStrict_1 tk_ki_0 ?_
  refine tq_aload_n (M := mL_setStrict) (pc := 2) dL_setStrict_2 rfl ?_
  refine tq_iload_n (M := mL_setStrict) (pc := 3) dL_setStrict_3 rfl ?_
  obtain ⟨⟨⟩, eu2, hf⟩ := tq_be hf
  obtain ⟨fsu2, eu2⟩ := tq_is_s eu2
  obtain ⟨⟨E1 | v4, w3⟩, ev1, hf⟩ := tq_be hf
  · skip
    by_cases c0 : E1 = "java/lang/IllegalStateException"
    · have hf := tq_ifp hf c0
      subst c0
      refine tq_calV (M := mL_setStrict) (pc := 4) (S := [.int (0 : Int32), .ref a2]) tk_y_X10_setStrict tk_v_X10_setStrict tk_RL_120 dL_setStrict_4 [.int a1] rfl (S0 := _) rfl eu2 rfl (Nat.le_of_ble_eq_true rfl) (d1 := d - 1) (b1 := 1) (s1 := 6) (bc' := 0) (bs' := 0) (Q1 := fun r h9 => r = tq_enI ((.inl "java/lang/IllegalStateException", w3) : (String ⊕ Int32) × tq_H).1 ∧ ((.inl "java/lang/IllegalStateException", w3) : (String ⊕ Int32) × tq_H).2 = h9) (by omega) rfl rfl (w_X10_setStrict (by omega) ev1 (fun _ _ q => q)) (fun E h9 q => ?_) (fun r9 h9 q => nomatch (show (Sum.inl r9 : tq_R) = Sum.inr _ from q.1))
      obtain ⟨q1, rfl⟩ := q
      cases (show (Sum.inr E : tq_R) = Sum.inr "java/lang/IllegalStateException" from q1)
      refine tq_catch (M := mL_setStrict) (pc := 4) (name := "java/lang/IllegalStateException") [] ⟨0, 16, 19, 17⟩ [] rfl tk_pass_L_setStrict_0 (by decide) (by decide) tk_RL_17 tk_cast_IllegalStateException ?_
      refine tq_xstore_n (M := mL_setStrict) (pc := 19) rfl dL_setStrict_19 (L2 := [(3, .float 0), (0, .ref a0), (1, .int a1), (2, .ref a2)]) (by decide) rfl ?_
      refine tq_iconst (M := mL_setStrict) (pc := 20) dL_setStrict_20 tk_ki_1 ?_
      refine tq_iret (M := mL_setStrict) (pc := 21) dL_setStrict_21 rfl ?_
      cases (Option.some.inj hf)
      exact hQ _ _ ⟨rfl, rfl⟩
    have hf := tq_ifn hf c0
    cases hf
  · refine tq_calV (M := mL_setStrict) (pc := 4) (S := [.int (0 : Int32), .ref a2]) tk_y_X10_setStrict tk_v_X10_setStrict tk_RL_120 dL_setStrict_4 [.int a1] rfl (S0 := _) rfl eu2 rfl (Nat.le_of_ble_eq_true rfl) (d1 := d - 1) (b1 := 1) (s1 := 6) (bc' := 0) (bs' := 0) (Q1 := fun r h9 => r = tq_enI ((.inr v4, w3) : (String ⊕ Int32) × tq_H).1 ∧ ((.inr v4, w3) : (String ⊕ Int32) × tq_H).2 = h9) (by omega) rfl rfl (w_X10_setStrict (by omega) ev1 (fun _ _ q => q)) (fun E h9 q => nomatch (show (Sum.inr E : tq_R) = Sum.inl _ from q.1)) (fun r9 h9 q => ?_)
    obtain ⟨q1, rfl⟩ := q
    cases (show (Sum.inl r9 : tq_R) = Sum.inl (some (.int v4)) from q1)
    obtain ⟨p5, ep5, hf⟩ := tq_le hf
    have HJ7 : tq_W l mL_setStrict d 0 0 Q 15 [] [.long p5, .int (0 : Int32), .ref a2] w3 := by
      obtain ⟨w6, ew6, hf⟩ := tq_be hf
      refine tq_lastF (M := mL_setStrict) (pc := 15) dL_setStrict_15 ew6 ?_
      refine tq_goto (M := mL_setStrict) (pc := 16) (tgt := 22) dL_setStrict_16 (by decide) ?_
      refine tq_iconst (M := mL_setStrict) (pc := 22) dL_setStrict_22 tk_ki_0 ?_
      refine tq_iret (M := mL_setStrict) (pc := 23) dL_setStrict_23 rfl ?_
      cases (Option.some.inj hf)
      exact hQ _ _ ⟨rfl, rfl⟩
    refine tq_if_eq (M := mL_setStrict) (pc := 7) (tgt := 14) dL_setStrict_7 (by decide) (fun cc => ?_) (fun cc => ?_)
    · have hf := tq_ifp ep5.symm cc
      refine tq_lconst (M := mL_setStrict) (pc := 14) dL_setStrict_14 tk_kl_0 ?_
      refine tq_pick (L2 := []) [] rfl ?_
      cases hf
      exact HJ7
    · have hf := tq_ifn ep5.symm cc
      refine tq_lconst (M := mL_setStrict) (pc := 10) dL_setStrict_10 tk_kl_1 ?_
      refine tq_goto (M := mL_setStrict) (pc := 11) (tgt := 15) dL_setStrict_11 (by decide) ?_
      refine tq_pick (L2 := []) [] rfl ?_
      cases hf
      exact HJ7
abbrev mL_types : tq_M := (RL, cL_types, 4, (some .int), false, [(0, 9, 12, 13)], none)
def f_L_types (a0 : Nat) (a1 : Int32) (a2 : Nat) (h : tq_H) : Option (Int32 × tq_H) :=
  (tq_is h a0 10).bind fun _ =>
  (f_X10_types a0 a1 h).bind fun v1 => match v1 with
  | (.inl E1, w3) =>
    if E1 = "java/lang/IndexOutOfBoundsException" then
      some ((1 : Int32), w3)
    else
      none
  | (.inr v4, w3) =>
    (tq_sl w3 a2 (0 : Int32) (v4).toInt64).bind fun w5 =>
    some ((0 : Int32), w5)
set_option maxHeartbeats 4000000 in
set_option maxRecDepth 20000 in
theorem w_L_types {l : Launch} {d : Nat} (hd9 : 8 ≤ d) {a0 : Nat} {a1 : Int32} {a2 : Nat} {h : tq_H} {o : Int32 × tq_H} {Q : tq_R → tq_H → Prop} (hf : f_L_types a0 a1 a2 h = some o) (hQ : ∀ r h9, r = .inl (some (.int o.1)) ∧ o.2 = h9 → Q r h9) : tq_CW l yL_types cL_types 4 (some .int) [(0, 9, 12, 13)] d 1 6 [.ref a0, .int a1, .ref a2] h Q := by
  refine tq_bodyW (y := yL_types) (by decide +kernel) (Nat.le_of_ble_eq_true rfl) ?_
  show tq_W l mL_types d 1 6 Q 0 [(0, .ref a0), (1, .int a1), (2, .ref a2)] [] h
  refine tq_aload_n (M := mL_types) (pc := 0) dL_types_0 rfl ?_
  refine tq_iconst (M := mL_types) (pc := 1) dL_types_1 tk_ki_0 ?_
  refine tq_aload_n (M := mL_types) (pc := 2) dL_types_2 rfl ?_
  refine tq_iload_n (M := mL_types) (pc := 3) dL_types_3 rfl ?_
  obtain ⟨⟨⟩, eu2, hf⟩ := tq_be hf
  obtain ⟨fsu2, eu2⟩ := tq_is_s eu2
  obtain ⟨⟨E1 | v4, w3⟩, ev1, hf⟩ := tq_be hf
  · skip
    by_cases c0 : E1 = "java/lang/IndexOutOfBoundsException"
    · have hf := tq_ifp hf c0
      subst c0
      refine tq_calV (M := mL_types) (pc := 4) (S := [.int (0 : Int32), .ref a2]) tk_y_X10_types tk_v_X10_types tk_RL_124 dL_types_4 [.int a1] rfl (S0 := _) rfl eu2 rfl (Nat.le_of_ble_eq_true rfl) (d1 := d - 1) (b1 := 1) (s1 := 6) (bc' := 0) (bs' := 0) (Q1 := fun r h9 => r = tq_enI ((.inl "java/lang/IndexOutOfBoundsException", w3) : (String ⊕ Int32) × tq_H).1 ∧ ((.inl "java/lang/IndexOutOfBoundsException", w3) : (String ⊕ Int32) × tq_H).2 = h9) (by omega) rfl rfl (w_X10_types (by omega) ev1 (fun _ _ q => q)) (fun E h9 q => ?_) (fun r9 h9 q => nomatch (show (Sum.inl r9 : tq_R) = Sum.inr _ from q.1))
      obtain ⟨q1, rfl⟩ := q
      cases (show (Sum.inr E : tq_R) = Sum.inr "java/lang/IndexOutOfBoundsException" from q1)
      refine tq_catch (M := mL_types) (pc := 4) (name := "java/lang/IndexOutOfBoundsException") [] ⟨0, 9, 12, 13⟩ [] rfl tk_pass_L_types_0 (by decide) (by decide) tk_RL_13 tk_cast_IndexOutOfBoundsException ?_
      refine tq_xstore_n (M := mL_types) (pc := 12) rfl dL_types_12 (L2 := [(3, .float 0), (0, .ref a0), (1, .int a1), (2, .ref a2)]) (by decide) rfl ?_
      refine tq_iconst (M := mL_types) (pc := 13) dL_types_13 tk_ki_1 ?_
      refine tq_iret (M := mL_types) (pc := 14) dL_types_14 rfl ?_
      cases (Option.some.inj hf)
      exact hQ _ _ ⟨rfl, rfl⟩
    have hf := tq_ifn hf c0
    cases hf
  · refine tq_calV (M := mL_types) (pc := 4) (S := [.int (0 : Int32), .ref a2]) tk_y_X10_types tk_v_X10_types tk_RL_124 dL_types_4 [.int a1] rfl (S0 := _) rfl eu2 rfl (Nat.le_of_ble_eq_true rfl) (d1 := d - 1) (b1 := 1) (s1 := 6) (bc' := 0) (bs' := 0) (Q1 := fun r h9 => r = tq_enI ((.inr v4, w3) : (String ⊕ Int32) × tq_H).1 ∧ ((.inr v4, w3) : (String ⊕ Int32) × tq_H).2 = h9) (by omega) rfl rfl (w_X10_types (by omega) ev1 (fun _ _ q => q)) (fun E h9 q => nomatch (show (Sum.inr E : tq_R) = Sum.inl _ from q.1)) (fun r9 h9 q => ?_)
    obtain ⟨q1, rfl⟩ := q
    cases (show (Sum.inl r9 : tq_R) = Sum.inl (some (.int v4)) from q1)
    refine tq_i2l (M := mL_types) (pc := 7) dL_types_7 ?_
    obtain ⟨w5, ew5, hf⟩ := tq_be hf
    refine tq_lastF (M := mL_types) (pc := 8) dL_types_8 ew5 ?_
    refine tq_goto (M := mL_types) (pc := 9) (tgt := 15) dL_types_9 (by decide) ?_
    refine tq_iconst (M := mL_types) (pc := 15) dL_types_15 tk_ki_0 ?_
    refine tq_iret (M := mL_types) (pc := 16) dL_types_16 rfl ?_
    cases (Option.some.inj hf)
    exact hQ _ _ ⟨rfl, rfl⟩
abbrev mL_infer : tq_M := (RL, cL_infer, 4, (some .int), false, [(0, 9, 12, 13)], none)
def f_L_infer (a0 : Nat) (a1 : Int32) (a2 : Nat) (h : tq_H) : Option (Int32 × tq_H) :=
  (tq_is h a0 10).bind fun _ =>
  (f_X10_infer a0 a1 h).bind fun v1 => match v1 with
  | (.inl E1, w3) =>
    if E1 = "java/lang/IndexOutOfBoundsException" then
      some ((1 : Int32), w3)
    else
      none
  | (.inr v4, w3) =>
    (tq_sl w3 a2 (0 : Int32) (v4).toInt64).bind fun w5 =>
    some ((0 : Int32), w5)
set_option maxHeartbeats 4000000 in
set_option maxRecDepth 20000 in
theorem w_L_infer {l : Launch} {d : Nat} (hd9 : 8 ≤ d) {a0 : Nat} {a1 : Int32} {a2 : Nat} {h : tq_H} {o : Int32 × tq_H} {Q : tq_R → tq_H → Prop} (hf : f_L_infer a0 a1 a2 h = some o) (hQ : ∀ r h9, r = .inl (some (.int o.1)) ∧ o.2 = h9 → Q r h9) : tq_CW l yL_infer cL_infer 4 (some .int) [(0, 9, 12, 13)] d 1 6 [.ref a0, .int a1, .ref a2] h Q := by
  refine tq_bodyW (y := yL_infer) (by decide +kernel) (Nat.le_of_ble_eq_true rfl) ?_
  show tq_W l mL_infer d 1 6 Q 0 [(0, .ref a0), (1, .int a1), (2, .ref a2)] [] h
  refine tq_aload_n (M := mL_infer) (pc := 0) dL_infer_0 rfl ?_
  refine tq_iconst (M := mL_infer) (pc := 1) dL_infer_1 tk_ki_0 ?_
  refine tq_aload_n (M := mL_infer) (pc := 2) dL_infer_2 rfl ?_
  refine tq_iload_n (M := mL_infer) (pc := 3) dL_infer_3 rfl ?_
  obtain ⟨⟨⟩, eu2, hf⟩ := tq_be hf
  obtain ⟨fsu2, eu2⟩ := tq_is_s eu2
  obtain ⟨⟨E1 | v4, w3⟩, ev1, hf⟩ := tq_be hf
  · skip
    by_cases c0 : E1 = "java/lang/IndexOutOfBoundsException"
    · have hf := tq_ifp hf c0
      subst c0
      refine tq_calV (M := mL_infer) (pc := 4) (S := [.int (0 : Int32), .ref a2]) tk_y_X10_infer tk_v_X10_infer tk_RL_127 dL_infer_4 [.int a1] rfl (S0 := _) rfl eu2 rfl (Nat.le_of_ble_eq_true rfl) (d1 := d - 1) (b1 := 1) (s1 := 6) (bc' := 0) (bs' := 0) (Q1 := fun r h9 => r = tq_enI ((.inl "java/lang/IndexOutOfBoundsException", w3) : (String ⊕ Int32) × tq_H).1 ∧ ((.inl "java/lang/IndexOutOfBoundsException", w3) : (String ⊕ Int32) × tq_H).2 = h9) (by omega) rfl rfl (w_X10_infer (by omega) ev1 (fun _ _ q => q)) (fun E h9 q => ?_) (fun r9 h9 q => nomatch (show (Sum.inl r9 : tq_R) = Sum.inr _ from q.1))
      obtain ⟨q1, rfl⟩ := q
      cases (show (Sum.inr E : tq_R) = Sum.inr "java/lang/IndexOutOfBoundsException" from q1)
      refine tq_catch (M := mL_infer) (pc := 4) (name := "java/lang/IndexOutOfBoundsException") [] ⟨0, 9, 12, 13⟩ [] rfl tk_pass_L_infer_0 (by decide) (by decide) tk_RL_13 tk_cast_IndexOutOfBoundsException ?_
      refine tq_xstore_n (M := mL_infer) (pc := 12) rfl dL_infer_12 (L2 := [(3, .float 0), (0, .ref a0), (1, .int a1), (2, .ref a2)]) (by decide) rfl ?_
      refine tq_iconst (M := mL_infer) (pc := 13) dL_infer_13 tk_ki_1 ?_
      refine tq_iret (M := mL_infer) (pc := 14) dL_infer_14 rfl ?_
      cases (Option.some.inj hf)
      exact hQ _ _ ⟨rfl, rfl⟩
    have hf := tq_ifn hf c0
    cases hf
  · refine tq_calV (M := mL_infer) (pc := 4) (S := [.int (0 : Int32), .ref a2]) tk_y_X10_infer tk_v_X10_infer tk_RL_127 dL_infer_4 [.int a1] rfl (S0 := _) rfl eu2 rfl (Nat.le_of_ble_eq_true rfl) (d1 := d - 1) (b1 := 1) (s1 := 6) (bc' := 0) (bs' := 0) (Q1 := fun r h9 => r = tq_enI ((.inr v4, w3) : (String ⊕ Int32) × tq_H).1 ∧ ((.inr v4, w3) : (String ⊕ Int32) × tq_H).2 = h9) (by omega) rfl rfl (w_X10_infer (by omega) ev1 (fun _ _ q => q)) (fun E h9 q => nomatch (show (Sum.inr E : tq_R) = Sum.inl _ from q.1)) (fun r9 h9 q => ?_)
    obtain ⟨q1, rfl⟩ := q
    cases (show (Sum.inl r9 : tq_R) = Sum.inl (some (.int v4)) from q1)
    refine tq_i2l (M := mL_infer) (pc := 7) dL_infer_7 ?_
    obtain ⟨w5, ew5, hf⟩ := tq_be hf
    refine tq_lastF (M := mL_infer) (pc := 8) dL_infer_8 ew5 ?_
    refine tq_goto (M := mL_infer) (pc := 9) (tgt := 15) dL_infer_9 (by decide) ?_
    refine tq_iconst (M := mL_infer) (pc := 15) dL_infer_15 tk_ki_0 ?_
    refine tq_iret (M := mL_infer) (pc := 16) dL_infer_16 rfl ?_
    cases (Option.some.inj hf)
    exact hQ _ _ ⟨rfl, rfl⟩
abbrev mL_index : tq_M := (RL, cL_index, 4, (some .int), false, [(0, 16, 19, 15)], none)
def f_L_index (a0 : Nat) (a1 : Int32) (a2 : Nat) (h : tq_H) : Option (Int32 × tq_H) :=
  (tq_is h a0 10).bind fun _ =>
  (f_X10_index a0 a1 h).bind fun v1 => match v1 with
  | (.inl E1, w3) =>
    if E1 = "java/lang/IllegalArgumentException" then
      some ((1 : Int32), w3)
    else
      none
  | (.inr v4, w3) =>
    tq_let (if v4 = 0 then (0 : Int64) else (1 : Int64)) fun p5 =>
    (tq_sl w3 a2 (0 : Int32) p5).bind fun w6 =>
    some ((0 : Int32), w6)
set_option maxHeartbeats 4000000 in
set_option maxRecDepth 20000 in
theorem w_L_index {l : Launch} {d : Nat} (hd9 : 8 ≤ d) {a0 : Nat} {a1 : Int32} {a2 : Nat} {h : tq_H} {o : Int32 × tq_H} {Q : tq_R → tq_H → Prop} (hf : f_L_index a0 a1 a2 h = some o) (hQ : ∀ r h9, r = .inl (some (.int o.1)) ∧ o.2 = h9 → Q r h9) : tq_CW l yL_index cL_index 4 (some .int) [(0, 16, 19, 15)] d 1 6 [.ref a0, .int a1, .ref a2] h Q := by
  refine tq_bodyW (y := yL_index) (by decide +kernel) (Nat.le_of_ble_eq_true rfl) ?_
  show tq_W l mL_index d 1 6 Q 0 [(0, .ref a0), (1, .int a1), (2, .ref a2)] [] h
  refine tq_aload_n (M := mL_index) (pc := 0) dL_index_0 rfl ?_
  refine tq_iconst (M := mL_index) (pc := 1) dL_index_1 tk_ki_0 ?_
  refine tq_aload_n (M := mL_index) (pc := 2) dL_index_2 rfl ?_
  refine tq_iload_n (M := mL_index) (pc := 3) dL_index_3 rfl ?_
  obtain ⟨⟨⟩, eu2, hf⟩ := tq_be hf
  obtain ⟨fsu2, eu2⟩ := tq_is_s eu2
  obtain ⟨⟨E1 | v4, w3⟩, ev1, hf⟩ := tq_be hf
  · skip
    by_cases c0 : E1 = "java/lang/IllegalArgumentException"
    · have hf := tq_ifp hf c0
      subst c0
      refine tq_calV (M := mL_index) (pc := 4) (S := [.int (0 : Int32), .ref a2]) tk_y_X10_index tk_v_X10_index tk_RL_130 dL_index_4 [.int a1] rfl (S0 := _) rfl eu2 rfl (Nat.le_of_ble_eq_true rfl) (d1 := d - 1) (b1 := 1) (s1 := 6) (bc' := 0) (bs' := 0) (Q1 := fun r h9 => r = tq_enI ((.inl "java/lang/IllegalArgumentException", w3) : (String ⊕ Int32) × tq_H).1 ∧ ((.inl "java/lang/IllegalArgumentException", w3) : (String ⊕ Int32) × tq_H).2 = h9) (by omega) rfl rfl (w_X10_index (by omega) ev1 (fun _ _ q => q)) (fun E h9 q => ?_) (fun r9 h9 q => nomatch (show (Sum.inl r9 : tq_R) = Sum.inr _ from q.1))
      obtain ⟨q1, rfl⟩ := q
      cases (show (Sum.inr E : tq_R) = Sum.inr "java/lang/IllegalArgumentException" from q1)
      refine tq_catch (M := mL_index) (pc := 4) (name := "java/lang/IllegalArgumentException") [] ⟨0, 16, 19, 15⟩ [] rfl tk_pass_L_index_0 (by decide) (by decide) tk_RL_15 tk_cast_IllegalArgumentException ?_
      refine tq_xstore_n (M := mL_index) (pc := 19) rfl dL_index_19 (L2 := [(3, .float 0), (0, .ref a0), (1, .int a1), (2, .ref a2)]) (by decide) rfl ?_
      refine tq_iconst (M := mL_index) (pc := 20) dL_index_20 tk_ki_1 ?_
      refine tq_iret (M := mL_index) (pc := 21) dL_index_21 rfl ?_
      cases (Option.some.inj hf)
      exact hQ _ _ ⟨rfl, rfl⟩
    have hf := tq_ifn hf c0
    cases hf
  · refine tq_calV (M := mL_index) (pc := 4) (S := [.int (0 : Int32), .ref a2]) tk_y_X10_index tk_v_X10_index tk_RL_130 dL_index_4 [.int a1] rfl (S0 := _) rfl eu2 rfl (Nat.le_of_ble_eq_true rfl) (d1 := d - 1) (b1 := 1) (s1 := 6) (bc' := 0) (bs' := 0) (Q1 := fun r h9 => r = tq_enI ((.inr v4, w3) : (String ⊕ Int32) × tq_H).1 ∧ ((.inr v4, w3) : (String ⊕ Int32) × tq_H).2 = h9) (by omega) rfl rfl (w_X10_index (by omega) ev1 (fun _ _ q => q)) (fun E h9 q => nomatch (show (Sum.inr E : tq_R) = Sum.inl _ from q.1)) (fun r9 h9 q => ?_)
    obtain ⟨q1, rfl⟩ := q
    cases (show (Sum.inl r9 : tq_R) = Sum.inl (some (.int v4)) from q1)
    obtain ⟨p5, ep5, hf⟩ := tq_le hf
    have HJ7 : tq_W l mL_index d 0 0 Q 15 [] [.long p5, .int (0 : Int32), .ref a2] w3 := by
      obtain ⟨w6, ew6, hf⟩ := tq_be hf
      refine tq_lastF (M := mL_index) (pc := 15) dL_index_15 ew6 ?_
      refine tq_goto (M := mL_index) (pc := 16) (tgt := 22) dL_index_16 (by decide) ?_
      refine tq_iconst (M := mL_index) (pc := 22) dL_index_22 tk_ki_0 ?_
      refine tq_iret (M := mL_index) (pc := 23) dL_index_23 rfl ?_
      cases (Option.some.inj hf)
      exact hQ _ _ ⟨rfl, rfl⟩
    refine tq_if_eq (M := mL_index) (pc := 7) (tgt := 14) dL_index_7 (by decide) (fun cc => ?_) (fun cc => ?_)
    · have hf := tq_ifp ep5.symm cc
      refine tq_lconst (M := mL_index) (pc := 14) dL_index_14 tk_kl_0 ?_
      refine tq_pick (L2 := []) [] rfl ?_
      cases hf
      exact HJ7
    · have hf := tq_ifn ep5.symm cc
      refine tq_lconst (M := mL_index) (pc := 10) dL_index_10 tk_kl_1 ?_
      refine tq_goto (M := mL_index) (pc := 11) (tgt := 15) dL_index_11 (by decide) ?_
      refine tq_pick (L2 := []) [] rfl ?_
      cases hf
      exact HJ7
abbrev mL_plan : tq_M := (RL, cL_plan, 4, (some .int), false, [(0, 9, 12, 13)], none)
def f_L_plan (a0 : Nat) (a1 : Int32) (a2 : Nat) (h : tq_H) : Option (Int32 × tq_H) :=
  (tq_is h a0 10).bind fun _ =>
  (f_X10_plan a0 a1 h).bind fun v1 => match v1 with
  | (.inl E1, w3) =>
    if E1 = "java/lang/IndexOutOfBoundsException" then
      some ((1 : Int32), w3)
    else
      none
  | (.inr v4, w3) =>
    (tq_sl w3 a2 (0 : Int32) (v4).toInt64).bind fun w5 =>
    some ((0 : Int32), w5)
set_option maxHeartbeats 4000000 in
set_option maxRecDepth 20000 in
theorem w_L_plan {l : Launch} {d : Nat} (hd9 : 8 ≤ d) {a0 : Nat} {a1 : Int32} {a2 : Nat} {h : tq_H} {o : Int32 × tq_H} {Q : tq_R → tq_H → Prop} (hf : f_L_plan a0 a1 a2 h = some o) (hQ : ∀ r h9, r = .inl (some (.int o.1)) ∧ o.2 = h9 → Q r h9) : tq_CW l yL_plan cL_plan 4 (some .int) [(0, 9, 12, 13)] d 1 6 [.ref a0, .int a1, .ref a2] h Q := by
  refine tq_bodyW (y := yL_plan) (by decide +kernel) (Nat.le_of_ble_eq_true rfl) ?_
  show tq_W l mL_plan d 1 6 Q 0 [(0, .ref a0), (1, .int a1), (2, .ref a2)] [] h
  refine tq_aload_n (M := mL_plan) (pc := 0) dL_plan_0 rfl ?_
  refine tq_iconst (M := mL_plan) (pc := 1) dL_plan_1 tk_ki_0 ?_
  refine tq_aload_n (M := mL_plan) (pc := 2) dL_plan_2 rfl ?_
  refine tq_iload_n (M := mL_plan) (pc := 3) dL_plan_3 rfl ?_
  obtain ⟨⟨⟩, eu2, hf⟩ := tq_be hf
  obtain ⟨fsu2, eu2⟩ := tq_is_s eu2
  obtain ⟨⟨E1 | v4, w3⟩, ev1, hf⟩ := tq_be hf
  · skip
    by_cases c0 : E1 = "java/lang/IndexOutOfBoundsException"
    · have hf := tq_ifp hf c0
      subst c0
      refine tq_calV (M := mL_plan) (pc := 4) (S := [.int (0 : Int32), .ref a2]) tk_y_X10_plan tk_v_X10_plan tk_RL_134 dL_plan_4 [.int a1] rfl (S0 := _) rfl eu2 rfl (Nat.le_of_ble_eq_true rfl) (d1 := d - 1) (b1 := 1) (s1 := 6) (bc' := 0) (bs' := 0) (Q1 := fun r h9 => r = tq_enI ((.inl "java/lang/IndexOutOfBoundsException", w3) : (String ⊕ Int32) × tq_H).1 ∧ ((.inl "java/lang/IndexOutOfBoundsException", w3) : (String ⊕ Int32) × tq_H).2 = h9) (by omega) rfl rfl (w_X10_plan (by omega) ev1 (fun _ _ q => q)) (fun E h9 q => ?_) (fun r9 h9 q => nomatch (show (Sum.inl r9 : tq_R) = Sum.inr _ from q.1))
      obtain ⟨q1, rfl⟩ := q
      cases (show (Sum.inr E : tq_R) = Sum.inr "java/lang/IndexOutOfBoundsException" from q1)
      refine tq_catch (M := mL_plan) (pc := 4) (name := "java/lang/IndexOutOfBoundsException") [] ⟨0, 9, 12, 13⟩ [] rfl tk_pass_L_plan_0 (by decide) (by decide) tk_RL_13 tk_cast_IndexOutOfBoundsException ?_
      refine tq_xstore_n (M := mL_plan) (pc := 12) rfl dL_plan_12 (L2 := [(3, .float 0), (0, .ref a0), (1, .int a1), (2, .ref a2)]) (by decide) rfl ?_
      refine tq_iconst (M := mL_plan) (pc := 13) dL_plan_13 tk_ki_1 ?_
      refine tq_iret (M := mL_plan) (pc := 14) dL_plan_14 rfl ?_
      cases (Option.some.inj hf)
      exact hQ _ _ ⟨rfl, rfl⟩
    have hf := tq_ifn hf c0
    cases hf
  · refine tq_calV (M := mL_plan) (pc := 4) (S := [.int (0 : Int32), .ref a2]) tk_y_X10_plan tk_v_X10_plan tk_RL_134 dL_plan_4 [.int a1] rfl (S0 := _) rfl eu2 rfl (Nat.le_of_ble_eq_true rfl) (d1 := d - 1) (b1 := 1) (s1 := 6) (bc' := 0) (bs' := 0) (Q1 := fun r h9 => r = tq_enI ((.inr v4, w3) : (String ⊕ Int32) × tq_H).1 ∧ ((.inr v4, w3) : (String ⊕ Int32) × tq_H).2 = h9) (by omega) rfl rfl (w_X10_plan (by omega) ev1 (fun _ _ q => q)) (fun E h9 q => nomatch (show (Sum.inr E : tq_R) = Sum.inl _ from q.1)) (fun r9 h9 q => ?_)
    obtain ⟨q1, rfl⟩ := q
    cases (show (Sum.inl r9 : tq_R) = Sum.inl (some (.int v4)) from q1)
    refine tq_i2l (M := mL_plan) (pc := 7) dL_plan_7 ?_
    obtain ⟨w5, ew5, hf⟩ := tq_be hf
    refine tq_lastF (M := mL_plan) (pc := 8) dL_plan_8 ew5 ?_
    refine tq_goto (M := mL_plan) (pc := 9) (tgt := 15) dL_plan_9 (by decide) ?_
    refine tq_iconst (M := mL_plan) (pc := 15) dL_plan_15 tk_ki_0 ?_
    refine tq_iret (M := mL_plan) (pc := 16) dL_plan_16 rfl ?_
    cases (Option.some.inj hf)
    exact hQ _ _ ⟨rfl, rfl⟩
abbrev mL_view : tq_M := (RL, cL_view, 4, (some .int), false, [(0, 9, 12, 13), (0, 9, 15, 17)], none)
def f_L_view (a0 : Nat) (a1 : Int32) (a2 : Nat) (h : tq_H) : Option (Int32 × tq_H) :=
  (tq_is h a0 10).bind fun _ =>
  (f_X10_view a0 a1 h).bind fun v1 => match v1 with
  | (.inl E1, w3) =>
    if E1 = "java/lang/IndexOutOfBoundsException" then
      some ((1 : Int32), w3)
    else
      if E1 = "java/lang/IllegalStateException" then
        some ((2 : Int32), w3)
      else
        none
  | (.inr v4, w3) =>
    (tq_sl w3 a2 (0 : Int32) (v4).toInt64).bind fun w5 =>
    some ((0 : Int32), w5)
set_option maxHeartbeats 4000000 in
set_option maxRecDepth 20000 in
theorem w_L_view {l : Launch} {d : Nat} (hd9 : 8 ≤ d) {a0 : Nat} {a1 : Int32} {a2 : Nat} {h : tq_H} {o : Int32 × tq_H} {Q : tq_R → tq_H → Prop} (hf : f_L_view a0 a1 a2 h = some o) (hQ : ∀ r h9, r = .inl (some (.int o.1)) ∧ o.2 = h9 → Q r h9) : tq_CW l yL_view cL_view 4 (some .int) [(0, 9, 12, 13), (0, 9, 15, 17)] d 2 12 [.ref a0, .int a1, .ref a2] h Q := by
  refine tq_bodyW (y := yL_view) (by decide +kernel) (Nat.le_of_ble_eq_true rfl) ?_
  show tq_W l mL_view d 2 12 Q 0 [(0, .ref a0), (1, .int a1), (2, .ref a2)] [] h
  refine tq_aload_n (M := mL_view) (pc := 0) dL_view_0 rfl ?_
  refine tq_iconst (M := mL_view) (pc := 1) dL_view_1 tk_ki_0 ?_
  refine tq_aload_n (M := mL_view) (pc := 2) dL_view_2 rfl ?_
  refine tq_iload_n (M := mL_view) (pc := 3) dL_view_3 rfl ?_
  obtain ⟨⟨⟩, eu2, hf⟩ := tq_be hf
  obtain ⟨fsu2, eu2⟩ := tq_is_s eu2
  obtain ⟨⟨E1 | v4, w3⟩, ev1, hf⟩ := tq_be hf
  · skip
    by_cases c0 : E1 = "java/lang/IndexOutOfBoundsException"
    · have hf := tq_ifp hf c0
      subst c0
      refine tq_calV (M := mL_view) (pc := 4) (S := [.int (0 : Int32), .ref a2]) tk_y_X10_view tk_v_X10_view tk_RL_137 dL_view_4 [.int a1] rfl (S0 := _) rfl eu2 rfl (Nat.le_of_ble_eq_true rfl) (d1 := d - 1) (b1 := 2) (s1 := 12) (bc' := 0) (bs' := 0) (Q1 := fun r h9 => r = tq_enI ((.inl "java/lang/IndexOutOfBoundsException", w3) : (String ⊕ Int32) × tq_H).1 ∧ ((.inl "java/lang/IndexOutOfBoundsException", w3) : (String ⊕ Int32) × tq_H).2 = h9) (by omega) rfl rfl (w_X10_view (by omega) ev1 (fun _ _ q => q)) (fun E h9 q => ?_) (fun r9 h9 q => nomatch (show (Sum.inl r9 : tq_R) = Sum.inr _ from q.1))
      obtain ⟨q1, rfl⟩ := q
      cases (show (Sum.inr E : tq_R) = Sum.inr "java/lang/IndexOutOfBoundsException" from q1)
      refine tq_catch (M := mL_view) (pc := 4) (name := "java/lang/IndexOutOfBoundsException") [] ⟨0, 9, 12, 13⟩ [⟨0, 9, 15, 17⟩] rfl tk_pass_L_view_0 (by decide) (by decide) tk_RL_13 tk_cast_IndexOutOfBoundsException ?_
      refine tq_xstore_n (M := mL_view) (pc := 12) rfl dL_view_12 (L2 := [(3, .float 0), (0, .ref a0), (1, .int a1), (2, .ref a2)]) (by decide) rfl ?_
      refine tq_iconst (M := mL_view) (pc := 13) dL_view_13 tk_ki_1 ?_
      refine tq_iret (M := mL_view) (pc := 14) dL_view_14 rfl ?_
      cases (Option.some.inj hf)
      exact hQ _ _ ⟨rfl, rfl⟩
    have hf := tq_ifn hf c0
    by_cases c1 : E1 = "java/lang/IllegalStateException"
    · have hf := tq_ifp hf c1
      subst c1
      refine tq_calV (M := mL_view) (pc := 4) (S := [.int (0 : Int32), .ref a2]) tk_y_X10_view tk_v_X10_view tk_RL_137 dL_view_4 [.int a1] rfl (S0 := _) rfl eu2 rfl (Nat.le_of_ble_eq_true rfl) (d1 := d - 1) (b1 := 2) (s1 := 12) (bc' := 0) (bs' := 0) (Q1 := fun r h9 => r = tq_enI ((.inl "java/lang/IllegalStateException", w3) : (String ⊕ Int32) × tq_H).1 ∧ ((.inl "java/lang/IllegalStateException", w3) : (String ⊕ Int32) × tq_H).2 = h9) (by omega) rfl rfl (w_X10_view (by omega) ev1 (fun _ _ q => q)) (fun E h9 q => ?_) (fun r9 h9 q => nomatch (show (Sum.inl r9 : tq_R) = Sum.inr _ from q.1))
      obtain ⟨q1, rfl⟩ := q
      cases (show (Sum.inr E : tq_R) = Sum.inr "java/lang/IllegalStateException" from q1)
      refine tq_catch (M := mL_view) (pc := 4) (name := "java/lang/IllegalStateException") [⟨0, 9, 12, 13⟩] ⟨0, 9, 15, 17⟩ [] rfl tk_pass_L_view_1 (by decide) (by decide) tk_RL_17 tk_cast_IllegalStateException ?_
      refine tq_xstore_n (M := mL_view) (pc := 15) rfl dL_view_15 (L2 := [(3, .float 0), (0, .ref a0), (1, .int a1), (2, .ref a2)]) (by decide) rfl ?_
      refine tq_iconst (M := mL_view) (pc := 16) dL_view_16 tk_ki_2 ?_
      refine tq_iret (M := mL_view) (pc := 17) dL_view_17 rfl ?_
      cases (Option.some.inj hf)
      exact hQ _ _ ⟨rfl, rfl⟩
    have hf := tq_ifn hf c1
    cases hf
  · refine tq_calV (M := mL_view) (pc := 4) (S := [.int (0 : Int32), .ref a2]) tk_y_X10_view tk_v_X10_view tk_RL_137 dL_view_4 [.int a1] rfl (S0 := _) rfl eu2 rfl (Nat.le_of_ble_eq_true rfl) (d1 := d - 1) (b1 := 2) (s1 := 12) (bc' := 0) (bs' := 0) (Q1 := fun r h9 => r = tq_enI ((.inr v4, w3) : (String ⊕ Int32) × tq_H).1 ∧ ((.inr v4, w3) : (String ⊕ Int32) × tq_H).2 = h9) (by omega) rfl rfl (w_X10_view (by omega) ev1 (fun _ _ q => q)) (fun E h9 q => nomatch (show (Sum.inr E : tq_R) = Sum.inl _ from q.1)) (fun r9 h9 q => ?_)
    obtain ⟨q1, rfl⟩ := q
    cases (show (Sum.inl r9 : tq_R) = Sum.inl (some (.int v4)) from q1)
    refine tq_i2l (M := mL_view) (pc := 7) dL_view_7 ?_
    obtain ⟨w5, ew5, hf⟩ := tq_be hf
    refine tq_lastF (M := mL_view) (pc := 8) dL_view_8 ew5 ?_
    refine tq_goto (M := mL_view) (pc := 9) (tgt := 18) dL_view_9 (by decide) ?_
    refine tq_iconst (M := mL_view) (pc := 18) dL_view_18 tk_ki_0 ?_
    refine tq_iret (M := mL_view) (pc := 19) dL_view_19 rfl ?_
    cases (Option.some.inj hf)
    exact hQ _ _ ⟨rfl, rfl⟩
abbrev mL_viewed : tq_M := (RL, cL_viewed, 5, (some .int), false, [(0, 10, 13, 13)], none)
def f_L_viewed (a0 : Nat) (a1 : Int32) (a2 : Int32) (a3 : Nat) (h : tq_H) : Option (Int32 × tq_H) :=
  (tq_is h a0 10).bind fun _ =>
  (f_X10_viewed a0 a1 a2 h).bind fun v1 => match v1 with
  | (.inl E1, w3) =>
    if E1 = "java/lang/IndexOutOfBoundsException" then
      some ((1 : Int32), w3)
    else
      none
  | (.inr v4, w3) =>
    (tq_sl w3 a3 (0 : Int32) (v4).toInt64).bind fun w5 =>
    some ((0 : Int32), w5)
set_option maxHeartbeats 4000000 in
set_option maxRecDepth 20000 in
theorem w_L_viewed {l : Launch} {d : Nat} (hd9 : 8 ≤ d) {a0 : Nat} {a1 : Int32} {a2 : Int32} {a3 : Nat} {h : tq_H} {o : Int32 × tq_H} {Q : tq_R → tq_H → Prop} (hf : f_L_viewed a0 a1 a2 a3 h = some o) (hQ : ∀ r h9, r = .inl (some (.int o.1)) ∧ o.2 = h9 → Q r h9) : tq_CW l yL_viewed cL_viewed 5 (some .int) [(0, 10, 13, 13)] d 2 12 [.ref a0, .int a1, .int a2, .ref a3] h Q := by
  refine tq_bodyW (y := yL_viewed) (by decide +kernel) (Nat.le_of_ble_eq_true rfl) ?_
  show tq_W l mL_viewed d 2 12 Q 0 [(0, .ref a0), (1, .int a1), (2, .int a2), (3, .ref a3)] [] h
  refine tq_aload_n (M := mL_viewed) (pc := 0) dL_viewed_0 rfl ?_
  refine tq_iconst (M := mL_viewed) (pc := 1) dL_viewed_1 tk_ki_0 ?_
  refine tq_aload_n (M := mL_viewed) (pc := 2) dL_viewed_2 rfl ?_
  refine tq_iload_n (M := mL_viewed) (pc := 3) dL_viewed_3 rfl ?_
  refine tq_iload_n (M := mL_viewed) (pc := 4) dL_viewed_4 rfl ?_
  obtain ⟨⟨⟩, eu2, hf⟩ := tq_be hf
  obtain ⟨fsu2, eu2⟩ := tq_is_s eu2
  obtain ⟨⟨E1 | v4, w3⟩, ev1, hf⟩ := tq_be hf
  · skip
    by_cases c0 : E1 = "java/lang/IndexOutOfBoundsException"
    · have hf := tq_ifp hf c0
      subst c0
      refine tq_calV (M := mL_viewed) (pc := 5) (S := [.int (0 : Int32), .ref a3]) tk_y_X10_viewed tk_v_X10_viewed tk_RL_140 dL_viewed_5 [.int a1, .int a2] rfl (S0 := _) rfl eu2 rfl (Nat.le_of_ble_eq_true rfl) (d1 := d - 1) (b1 := 2) (s1 := 12) (bc' := 0) (bs' := 0) (Q1 := fun r h9 => r = tq_enI ((.inl "java/lang/IndexOutOfBoundsException", w3) : (String ⊕ Int32) × tq_H).1 ∧ ((.inl "java/lang/IndexOutOfBoundsException", w3) : (String ⊕ Int32) × tq_H).2 = h9) (by omega) rfl rfl (w_X10_viewed (by omega) ev1 (fun _ _ q => q)) (fun E h9 q => ?_) (fun r9 h9 q => nomatch (show (Sum.inl r9 : tq_R) = Sum.inr _ from q.1))
      obtain ⟨q1, rfl⟩ := q
      cases (show (Sum.inr E : tq_R) = Sum.inr "java/lang/IndexOutOfBoundsException" from q1)
      refine tq_catch (M := mL_viewed) (pc := 5) (name := "java/lang/IndexOutOfBoundsException") [] ⟨0, 10, 13, 13⟩ [] rfl tk_pass_L_viewed_0 (by decide) (by decide) tk_RL_13 tk_cast_IndexOutOfBoundsException ?_
      refine tq_xstore (M := mL_viewed) (pc := 13) dL_viewed_13 (L2 := [(4, .float 0), (0, .ref a0), (1, .int a1), (2, .int a2), (3, .ref a3)]) (by decide) rfl ?_
      refine tq_iconst (M := mL_viewed) (pc := 15) dL_viewed_15 tk_ki_1 ?_
      refine tq_iret (M := mL_viewed) (pc := 16) dL_viewed_16 rfl ?_
      cases (Option.some.inj hf)
      exact hQ _ _ ⟨rfl, rfl⟩
    have hf := tq_ifn hf c0
    cases hf
  · refine tq_calV (M := mL_viewed) (pc := 5) (S := [.int (0 : Int32), .ref a3]) tk_y_X10_viewed tk_v_X10_viewed tk_RL_140 dL_viewed_5 [.int a1, .int a2] rfl (S0 := _) rfl eu2 rfl (Nat.le_of_ble_eq_true rfl) (d1 := d - 1) (b1 := 2) (s1 := 12) (bc' := 0) (bs' := 0) (Q1 := fun r h9 => r = tq_enI ((.inr v4, w3) : (String ⊕ Int32) × tq_H).1 ∧ ((.inr v4, w3) : (String ⊕ Int32) × tq_H).2 = h9) (by omega) rfl rfl (w_X10_viewed (by omega) ev1 (fun _ _ q => q)) (fun E h9 q => nomatch (show (Sum.inr E : tq_R) = Sum.inl _ from q.1)) (fun r9 h9 q => ?_)
    obtain ⟨q1, rfl⟩ := q
    cases (show (Sum.inl r9 : tq_R) = Sum.inl (some (.int v4)) from q1)
    refine tq_i2l (M := mL_viewed) (pc := 8) dL_viewed_8 ?_
    obtain ⟨w5, ew5, hf⟩ := tq_be hf
    refine tq_lastF (M := mL_viewed) (pc := 9) dL_viewed_9 ew5 ?_
    refine tq_goto (M := mL_viewed) (pc := 10) (tgt := 17) dL_viewed_10 (by decide) ?_
    refine tq_iconst (M := mL_viewed) (pc := 17) dL_viewed_17 tk_ki_0 ?_
    refine tq_iret (M := mL_viewed) (pc := 18) dL_viewed_18 rfl ?_
    cases (Option.some.inj hf)
    exact hQ _ _ ⟨rfl, rfl⟩
abbrev mL_changed : tq_M := (RL, cL_changed, 4, (some .int), false, [(0, 9, 12, 13)], none)
def f_L_changed (a0 : Nat) (a1 : Int32) (a2 : Nat) (h : tq_H) : Option (Int32 × tq_H) :=
  (tq_is h a0 10).bind fun _ =>
  (f_X10_changed a0 a1 h).bind fun v1 => match v1 with
  | (.inl E1, w3) =>
    if E1 = "java/lang/IndexOutOfBoundsException" then
      some ((1 : Int32), w3)
    else
      none
  | (.inr v4, w3) =>
    (tq_sl w3 a2 (0 : Int32) (v4).toInt64).bind fun w5 =>
    some ((0 : Int32), w5)
set_option maxHeartbeats 4000000 in
set_option maxRecDepth 20000 in
theorem w_L_changed {l : Launch} {d : Nat} (hd9 : 8 ≤ d) {a0 : Nat} {a1 : Int32} {a2 : Nat} {h : tq_H} {o : Int32 × tq_H} {Q : tq_R → tq_H → Prop} (hf : f_L_changed a0 a1 a2 h = some o) (hQ : ∀ r h9, r = .inl (some (.int o.1)) ∧ o.2 = h9 → Q r h9) : tq_CW l yL_changed cL_changed 4 (some .int) [(0, 9, 12, 13)] d 1 6 [.ref a0, .int a1, .ref a2] h Q := by
  refine tq_bodyW (y := yL_changed) (by decide +kernel) (Nat.le_of_ble_eq_true rfl) ?_
  show tq_W l mL_changed d 1 6 Q 0 [(0, .ref a0), (1, .int a1), (2, .ref a2)] [] h
  refine tq_aload_n (M := mL_changed) (pc := 0) dL_changed_0 rfl ?_
  refine tq_iconst (M := mL_changed) (pc := 1) dL_changed_1 tk_ki_0 ?_
  refine tq_aload_n (M := mL_changed) (pc := 2) dL_changed_2 rfl ?_
  refine tq_iload_n (M := mL_changed) (pc := 3) dL_changed_3 rfl ?_
  obtain ⟨⟨⟩, eu2, hf⟩ := tq_be hf
  obtain ⟨fsu2, eu2⟩ := tq_is_s eu2
  obtain ⟨⟨E1 | v4, w3⟩, ev1, hf⟩ := tq_be hf
  · skip
    by_cases c0 : E1 = "java/lang/IndexOutOfBoundsException"
    · have hf := tq_ifp hf c0
      subst c0
      refine tq_calV (M := mL_changed) (pc := 4) (S := [.int (0 : Int32), .ref a2]) tk_y_X10_changed tk_v_X10_changed tk_RL_143 dL_changed_4 [.int a1] rfl (S0 := _) rfl eu2 rfl (Nat.le_of_ble_eq_true rfl) (d1 := d - 1) (b1 := 1) (s1 := 6) (bc' := 0) (bs' := 0) (Q1 := fun r h9 => r = tq_enI ((.inl "java/lang/IndexOutOfBoundsException", w3) : (String ⊕ Int32) × tq_H).1 ∧ ((.inl "java/lang/IndexOutOfBoundsException", w3) : (String ⊕ Int32) × tq_H).2 = h9) (by omega) rfl rfl (w_X10_changed (by omega) ev1 (fun _ _ q => q)) (fun E h9 q => ?_) (fun r9 h9 q => nomatch (show (Sum.inl r9 : tq_R) = Sum.inr _ from q.1))
      obtain ⟨q1, rfl⟩ := q
      cases (show (Sum.inr E : tq_R) = Sum.inr "java/lang/IndexOutOfBoundsException" from q1)
      refine tq_catch (M := mL_changed) (pc := 4) (name := "java/lang/IndexOutOfBoundsException") [] ⟨0, 9, 12, 13⟩ [] rfl tk_pass_L_changed_0 (by decide) (by decide) tk_RL_13 tk_cast_IndexOutOfBoundsException ?_
      refine tq_xstore_n (M := mL_changed) (pc := 12) rfl dL_changed_12 (L2 := [(3, .float 0), (0, .ref a0), (1, .int a1), (2, .ref a2)]) (by decide) rfl ?_
      refine tq_iconst (M := mL_changed) (pc := 13) dL_changed_13 tk_ki_1 ?_
      refine tq_iret (M := mL_changed) (pc := 14) dL_changed_14 rfl ?_
      cases (Option.some.inj hf)
      exact hQ _ _ ⟨rfl, rfl⟩
    have hf := tq_ifn hf c0
    cases hf
  · refine tq_calV (M := mL_changed) (pc := 4) (S := [.int (0 : Int32), .ref a2]) tk_y_X10_changed tk_v_X10_changed tk_RL_143 dL_changed_4 [.int a1] rfl (S0 := _) rfl eu2 rfl (Nat.le_of_ble_eq_true rfl) (d1 := d - 1) (b1 := 1) (s1 := 6) (bc' := 0) (bs' := 0) (Q1 := fun r h9 => r = tq_enI ((.inr v4, w3) : (String ⊕ Int32) × tq_H).1 ∧ ((.inr v4, w3) : (String ⊕ Int32) × tq_H).2 = h9) (by omega) rfl rfl (w_X10_changed (by omega) ev1 (fun _ _ q => q)) (fun E h9 q => nomatch (show (Sum.inr E : tq_R) = Sum.inl _ from q.1)) (fun r9 h9 q => ?_)
    obtain ⟨q1, rfl⟩ := q
    cases (show (Sum.inl r9 : tq_R) = Sum.inl (some (.int v4)) from q1)
    refine tq_i2l (M := mL_changed) (pc := 7) dL_changed_7 ?_
    obtain ⟨w5, ew5, hf⟩ := tq_be hf
    refine tq_lastF (M := mL_changed) (pc := 8) dL_changed_8 ew5 ?_
    refine tq_goto (M := mL_changed) (pc := 9) (tgt := 15) dL_changed_9 (by decide) ?_
    refine tq_iconst (M := mL_changed) (pc := 15) dL_changed_15 tk_ki_0 ?_
    refine tq_iret (M := mL_changed) (pc := 16) dL_changed_16 rfl ?_
    cases (Option.some.inj hf)
    exact hQ _ _ ⟨rfl, rfl⟩
abbrev mL_ranked : tq_M := (RL, cL_ranked, 5, (some .int), false, [(0, 10, 13, 13), (0, 10, 17, 15)], none)
def f_L_ranked (a0 : Nat) (a1 : Int32) (a2 : Int32) (a3 : Nat) (h : tq_H) : Option (Int32 × tq_H) :=
  (tq_is h a0 10).bind fun _ =>
  (f_X10_ranked a0 a1 a2 h).bind fun v1 => match v1 with
  | (.inl E1, w3) =>
    if E1 = "java/lang/IndexOutOfBoundsException" then
      some ((1 : Int32), w3)
    else
      if E1 = "java/lang/IllegalArgumentException" then
        some ((2 : Int32), w3)
      else
        none
  | (.inr v4, w3) =>
    (tq_sl w3 a3 (0 : Int32) (v4).toInt64).bind fun w5 =>
    some ((0 : Int32), w5)
set_option maxHeartbeats 4000000 in
set_option maxRecDepth 20000 in
theorem w_L_ranked {l : Launch} {d : Nat} (hd9 : 8 ≤ d) {a0 : Nat} {a1 : Int32} {a2 : Int32} {a3 : Nat} {h : tq_H} {o : Int32 × tq_H} {Q : tq_R → tq_H → Prop} (hf : f_L_ranked a0 a1 a2 a3 h = some o) (hQ : ∀ r h9, r = .inl (some (.int o.1)) ∧ o.2 = h9 → Q r h9) : tq_CW l yL_ranked cL_ranked 5 (some .int) [(0, 10, 13, 13), (0, 10, 17, 15)] d 2 12 [.ref a0, .int a1, .int a2, .ref a3] h Q := by
  refine tq_bodyW (y := yL_ranked) (by decide +kernel) (Nat.le_of_ble_eq_true rfl) ?_
  show tq_W l mL_ranked d 2 12 Q 0 [(0, .ref a0), (1, .int a1), (2, .int a2), (3, .ref a3)] [] h
  refine tq_aload_n (M := mL_ranked) (pc := 0) dL_ranked_0 rfl ?_
  refine tq_iconst (M := mL_ranked) (pc := 1) dL_ranked_1 tk_ki_0 ?_
  refine tq_aload_n (M := mL_ranked) (pc := 2) dL_ranked_2 rfl ?_
  refine tq_iload_n (M := mL_ranked) (pc := 3) dL_ranked_3 rfl ?_
  refine tq_iload_n (M := mL_ranked) (pc := 4) dL_ranked_4 rfl ?_
  obtain ⟨⟨⟩, eu2, hf⟩ := tq_be hf
  obtain ⟨fsu2, eu2⟩ := tq_is_s eu2
  obtain ⟨⟨E1 | v4, w3⟩, ev1, hf⟩ := tq_be hf
  · skip
    by_cases c0 : E1 = "java/lang/IndexOutOfBoundsException"
    · have hf := tq_ifp hf c0
      subst c0
      refine tq_calV (M := mL_ranked) (pc := 5) (S := [.int (0 : Int32), .ref a3]) tk_y_X10_ranked tk_v_X10_ranked tk_RL_146 dL_ranked_5 [.int a1, .int a2] rfl (S0 := _) rfl eu2 rfl (Nat.le_of_ble_eq_true rfl) (d1 := d - 1) (b1 := 2) (s1 := 12) (bc' := 0) (bs' := 0) (Q1 := fun r h9 => r = tq_enI ((.inl "java/lang/IndexOutOfBoundsException", w3) : (String ⊕ Int32) × tq_H).1 ∧ ((.inl "java/lang/IndexOutOfBoundsException", w3) : (String ⊕ Int32) × tq_H).2 = h9) (by omega) rfl rfl (w_X10_ranked (by omega) ev1 (fun _ _ q => q)) (fun E h9 q => ?_) (fun r9 h9 q => nomatch (show (Sum.inl r9 : tq_R) = Sum.inr _ from q.1))
      obtain ⟨q1, rfl⟩ := q
      cases (show (Sum.inr E : tq_R) = Sum.inr "java/lang/IndexOutOfBoundsException" from q1)
      refine tq_catch (M := mL_ranked) (pc := 5) (name := "java/lang/IndexOutOfBoundsException") [] ⟨0, 10, 13, 13⟩ [⟨0, 10, 17, 15⟩] rfl tk_pass_L_ranked_0 (by decide) (by decide) tk_RL_13 tk_cast_IndexOutOfBoundsException ?_
      refine tq_xstore (M := mL_ranked) (pc := 13) dL_ranked_13 (L2 := [(4, .float 0), (0, .ref a0), (1, .int a1), (2, .int a2), (3, .ref a3)]) (by decide) rfl ?_
      refine tq_iconst (M := mL_ranked) (pc := 15) dL_ranked_15 tk_ki_1 ?_
      refine tq_iret (M := mL_ranked) (pc := 16) dL_ranked_16 rfl ?_
      cases (Option.some.inj hf)
      exact hQ _ _ ⟨rfl, rfl⟩
    have hf := tq_ifn hf c0
    by_cases c1 : E1 = "java/lang/IllegalArgumentException"
    · have hf := tq_ifp hf c1
      subst c1
      refine tq_calV (M := mL_ranked) (pc := 5) (S := [.int (0 : Int32), .ref a3]) tk_y_X10_ranked tk_v_X10_ranked tk_RL_146 dL_ranked_5 [.int a1, .int a2] rfl (S0 := _) rfl eu2 rfl (Nat.le_of_ble_eq_true rfl) (d1 := d - 1) (b1 := 2) (s1 := 12) (bc' := 0) (bs' := 0) (Q1 := fun r h9 => r = tq_enI ((.inl "java/lang/IllegalArgumentException", w3) : (String ⊕ Int32) × tq_H).1 ∧ ((.inl "java/lang/IllegalArgumentException", w3) : (String ⊕ Int32) × tq_H).2 = h9) (by omega) rfl rfl (w_X10_ranked (by omega) ev1 (fun _ _ q => q)) (fun E h9 q => ?_) (fun r9 h9 q => nomatch (show (Sum.inl r9 : tq_R) = Sum.inr _ from q.1))
      obtain ⟨q1, rfl⟩ := q
      cases (show (Sum.inr E : tq_R) = Sum.inr "java/lang/IllegalArgumentException" from q1)
      refine tq_catch (M := mL_ranked) (pc := 5) (name := "java/lang/IllegalArgumentException") [⟨0, 10, 13, 13⟩] ⟨0, 10, 17, 15⟩ [] rfl tk_pass_L_ranked_1 (by decide) (by decide) tk_RL_15 tk_cast_IllegalArgumentException ?_
      refine tq_xstore (M := mL_ranked) (pc := 17) dL_ranked_17 (L2 := [(4, .float 0), (0, .ref a0), (1, .int a1), (2, .int a2), (3, .ref a3)]) (by decide) rfl ?_
      refine tq_iconst (M := mL_ranked) (pc := 19) dL_ranked_19 tk_ki_2 ?_
      refine tq_iret (M := mL_ranked) (pc := 20) dL_ranked_20 rfl ?_
      cases (Option.some.inj hf)
      exact hQ _ _ ⟨rfl, rfl⟩
    have hf := tq_ifn hf c1
    cases hf
  · refine tq_calV (M := mL_ranked) (pc := 5) (S := [.int (0 : Int32), .ref a3]) tk_y_X10_ranked tk_v_X10_ranked tk_RL_146 dL_ranked_5 [.int a1, .int a2] rfl (S0 := _) rfl eu2 rfl (Nat.le_of_ble_eq_true rfl) (d1 := d - 1) (b1 := 2) (s1 := 12) (bc' := 0) (bs' := 0) (Q1 := fun r h9 => r = tq_enI ((.inr v4, w3) : (String ⊕ Int32) × tq_H).1 ∧ ((.inr v4, w3) : (String ⊕ Int32) × tq_H).2 = h9) (by omega) rfl rfl (w_X10_ranked (by omega) ev1 (fun _ _ q => q)) (fun E h9 q => nomatch (show (Sum.inr E : tq_R) = Sum.inl _ from q.1)) (fun r9 h9 q => ?_)
    obtain ⟨q1, rfl⟩ := q
    cases (show (Sum.inl r9 : tq_R) = Sum.inl (some (.int v4)) from q1)
    refine tq_i2l (M := mL_ranked) (pc := 8) dL_ranked_8 ?_
    obtain ⟨w5, ew5, hf⟩ := tq_be hf
    refine tq_lastF (M := mL_ranked) (pc := 9) dL_ranked_9 ew5 ?_
    refine tq_goto (M := mL_ranked) (pc := 10) (tgt := 21) dL_ranked_10 (by decide) ?_
    refine tq_iconst (M := mL_ranked) (pc := 21) dL_ranked_21 tk_ki_0 ?_
    refine tq_iret (M := mL_ranked) (pc := 22) dL_ranked_22 rfl ?_
    cases (Option.some.inj hf)
    exact hQ _ _ ⟨rfl, rfl⟩
abbrev mL_keep : tq_M := (RL, cL_keep, 3, (some .int), false, [(0, 8, 11, 17)], none)
def f_L_keep (a0 : Nat) (a1 : Nat) (h : tq_H) : Option (Int32 × tq_H) :=
  (tq_is h a0 10).bind fun _ =>
  (f_X10_keep a0 h).bind fun v1 => match v1 with
  | (.inl E1, w3) =>
    if E1 = "java/lang/IllegalStateException" then
      some ((1 : Int32), w3)
    else
      none
  | (.inr v4, w3) =>
    (tq_sl w3 a1 (0 : Int32) (v4).toInt64).bind fun w5 =>
    some ((0 : Int32), w5)
set_option maxHeartbeats 4000000 in
set_option maxRecDepth 20000 in
theorem w_L_keep {l : Launch} {d : Nat} (hd9 : 7 ≤ d) {a0 : Nat} {a1 : Nat} {h : tq_H} {o : Int32 × tq_H} {Q : tq_R → tq_H → Prop} (hf : f_L_keep a0 a1 h = some o) (hQ : ∀ r h9, r = .inl (some (.int o.1)) ∧ o.2 = h9 → Q r h9) : tq_CW l yL_keep cL_keep 3 (some .int) [(0, 8, 11, 17)] d 41 1143 [.ref a0, .ref a1] h Q := by
  refine tq_bodyW (y := yL_keep) (by decide +kernel) (Nat.le_of_ble_eq_true rfl) ?_
  show tq_W l mL_keep d 41 1143 Q 0 [(0, .ref a0), (1, .ref a1)] [] h
  refine tq_aload_n (M := mL_keep) (pc := 0) dL_keep_0 rfl ?_
  refine tq_iconst (M := mL_keep) (pc := 1) dL_keep_1 tk_ki_0 ?_
  refine tq_aload_n (M := mL_keep) (pc := 2) dL_keep_2 rfl ?_
  obtain ⟨⟨⟩, eu2, hf⟩ := tq_be hf
  obtain ⟨fsu2, eu2⟩ := tq_is_s eu2
  obtain ⟨⟨E1 | v4, w3⟩, ev1, hf⟩ := tq_be hf
  · skip
    by_cases c0 : E1 = "java/lang/IllegalStateException"
    · have hf := tq_ifp hf c0
      subst c0
      refine tq_calV (M := mL_keep) (pc := 3) (S := [.int (0 : Int32), .ref a1]) tk_y_X10_keep tk_v_X10_keep tk_RL_149 dL_keep_3 [] rfl (S0 := _) rfl eu2 rfl (Nat.le_of_ble_eq_true rfl) (d1 := d - 1) (b1 := 41) (s1 := 1143) (bc' := 0) (bs' := 0) (Q1 := fun r h9 => r = tq_enI ((.inl "java/lang/IllegalStateException", w3) : (String ⊕ Int32) × tq_H).1 ∧ ((.inl "java/lang/IllegalStateException", w3) : (String ⊕ Int32) × tq_H).2 = h9) (by omega) rfl rfl (w_X10_keep (by omega) ev1 (fun _ _ q => q)) (fun E h9 q => ?_) (fun r9 h9 q => nomatch (show (Sum.inl r9 : tq_R) = Sum.inr _ from q.1))
      obtain ⟨q1, rfl⟩ := q
      cases (show (Sum.inr E : tq_R) = Sum.inr "java/lang/IllegalStateException" from q1)
      refine tq_catch (M := mL_keep) (pc := 3) (name := "java/lang/IllegalStateException") [] ⟨0, 8, 11, 17⟩ [] rfl tk_pass_L_keep_0 (by decide) (by decide) tk_RL_17 tk_cast_IllegalStateException ?_
      refine tq_xstore_n (M := mL_keep) (pc := 11) rfl dL_keep_11 (L2 := [(2, .float 0), (0, .ref a0), (1, .ref a1)]) (by decide) rfl ?_
      refine tq_iconst (M := mL_keep) (pc := 12) dL_keep_12 tk_ki_1 ?_
      refine tq_iret (M := mL_keep) (pc := 13) dL_keep_13 rfl ?_
      cases (Option.some.inj hf)
      exact hQ _ _ ⟨rfl, rfl⟩
    have hf := tq_ifn hf c0
    cases hf
  · refine tq_calV (M := mL_keep) (pc := 3) (S := [.int (0 : Int32), .ref a1]) tk_y_X10_keep tk_v_X10_keep tk_RL_149 dL_keep_3 [] rfl (S0 := _) rfl eu2 rfl (Nat.le_of_ble_eq_true rfl) (d1 := d - 1) (b1 := 41) (s1 := 1143) (bc' := 0) (bs' := 0) (Q1 := fun r h9 => r = tq_enI ((.inr v4, w3) : (String ⊕ Int32) × tq_H).1 ∧ ((.inr v4, w3) : (String ⊕ Int32) × tq_H).2 = h9) (by omega) rfl rfl (w_X10_keep (by omega) ev1 (fun _ _ q => q)) (fun E h9 q => nomatch (show (Sum.inr E : tq_R) = Sum.inl _ from q.1)) (fun r9 h9 q => ?_)
    obtain ⟨q1, rfl⟩ := q
    cases (show (Sum.inl r9 : tq_R) = Sum.inl (some (.int v4)) from q1)
    refine tq_i2l (M := mL_keep) (pc := 6) dL_keep_6 ?_
    obtain ⟨w5, ew5, hf⟩ := tq_be hf
    refine tq_lastF (M := mL_keep) (pc := 7) dL_keep_7 ew5 ?_
    refine tq_goto (M := mL_keep) (pc := 8) (tgt := 14) dL_keep_8 (by decide) ?_
    refine tq_iconst (M := mL_keep) (pc := 14) dL_keep_14 tk_ki_0 ?_
    refine tq_iret (M := mL_keep) (pc := 15) dL_keep_15 rfl ?_
    cases (Option.some.inj hf)
    exact hQ _ _ ⟨rfl, rfl⟩
abbrev mL_take : tq_M := (RL, cL_take, 4, (some .int), false, [(0, 9, 12, 13), (0, 9, 15, 17)], none)
def f_L_take (a0 : Nat) (a1 : Int32) (a2 : Nat) (h : tq_H) : Option (Int32 × tq_H) :=
  (tq_is h a0 10).bind fun _ =>
  (f_X10_take a0 a1 h).bind fun v1 => match v1 with
  | (.inl E1, w3) =>
    if E1 = "java/lang/IndexOutOfBoundsException" then
      some ((1 : Int32), w3)
    else
      if E1 = "java/lang/IllegalStateException" then
        some ((2 : Int32), w3)
      else
        none
  | (.inr v4, w3) =>
    (tq_sl w3 a2 (0 : Int32) (v4).toInt64).bind fun w5 =>
    some ((0 : Int32), w5)
set_option maxHeartbeats 4000000 in
set_option maxRecDepth 20000 in
theorem w_L_take {l : Launch} {d : Nat} (hd9 : 8 ≤ d) {a0 : Nat} {a1 : Int32} {a2 : Nat} {h : tq_H} {o : Int32 × tq_H} {Q : tq_R → tq_H → Prop} (hf : f_L_take a0 a1 a2 h = some o) (hQ : ∀ r h9, r = .inl (some (.int o.1)) ∧ o.2 = h9 → Q r h9) : tq_CW l yL_take cL_take 4 (some .int) [(0, 9, 12, 13), (0, 9, 15, 17)] d 2 12 [.ref a0, .int a1, .ref a2] h Q := by
  refine tq_bodyW (y := yL_take) (by decide +kernel) (Nat.le_of_ble_eq_true rfl) ?_
  show tq_W l mL_take d 2 12 Q 0 [(0, .ref a0), (1, .int a1), (2, .ref a2)] [] h
  refine tq_aload_n (M := mL_take) (pc := 0) dL_take_0 rfl ?_
  refine tq_iconst (M := mL_take) (pc := 1) dL_take_1 tk_ki_0 ?_
  refine tq_aload_n (M := mL_take) (pc := 2) dL_take_2 rfl ?_
  refine tq_iload_n (M := mL_take) (pc := 3) dL_take_3 rfl ?_
  obtain ⟨⟨⟩, eu2, hf⟩ := tq_be hf
  obtain ⟨fsu2, eu2⟩ := tq_is_s eu2
  obtain ⟨⟨E1 | v4, w3⟩, ev1, hf⟩ := tq_be hf
  · skip
    by_cases c0 : E1 = "java/lang/IndexOutOfBoundsException"
    · have hf := tq_ifp hf c0
      subst c0
      refine tq_calV (M := mL_take) (pc := 4) (S := [.int (0 : Int32), .ref a2]) tk_y_X10_take tk_v_X10_take tk_RL_152 dL_take_4 [.int a1] rfl (S0 := _) rfl eu2 rfl (Nat.le_of_ble_eq_true rfl) (d1 := d - 1) (b1 := 2) (s1 := 12) (bc' := 0) (bs' := 0) (Q1 := fun r h9 => r = tq_enI ((.inl "java/lang/IndexOutOfBoundsException", w3) : (String ⊕ Int32) × tq_H).1 ∧ ((.inl "java/lang/IndexOutOfBoundsException", w3) : (String ⊕ Int32) × tq_H).2 = h9) (by omega) rfl rfl (w_X10_take (by omega) ev1 (fun _ _ q => q)) (fun E h9 q => ?_) (fun r9 h9 q => nomatch (show (Sum.inl r9 : tq_R) = Sum.inr _ from q.1))
      obtain ⟨q1, rfl⟩ := q
      cases (show (Sum.inr E : tq_R) = Sum.inr "java/lang/IndexOutOfBoundsException" from q1)
      refine tq_catch (M := mL_take) (pc := 4) (name := "java/lang/IndexOutOfBoundsException") [] ⟨0, 9, 12, 13⟩ [⟨0, 9, 15, 17⟩] rfl tk_pass_L_take_0 (by decide) (by decide) tk_RL_13 tk_cast_IndexOutOfBoundsException ?_
      refine tq_xstore_n (M := mL_take) (pc := 12) rfl dL_take_12 (L2 := [(3, .float 0), (0, .ref a0), (1, .int a1), (2, .ref a2)]) (by decide) rfl ?_
      refine tq_iconst (M := mL_take) (pc := 13) dL_take_13 tk_ki_1 ?_
      refine tq_iret (M := mL_take) (pc := 14) dL_take_14 rfl ?_
      cases (Option.some.inj hf)
      exact hQ _ _ ⟨rfl, rfl⟩
    have hf := tq_ifn hf c0
    by_cases c1 : E1 = "java/lang/IllegalStateException"
    · have hf := tq_ifp hf c1
      subst c1
      refine tq_calV (M := mL_take) (pc := 4) (S := [.int (0 : Int32), .ref a2]) tk_y_X10_take tk_v_X10_take tk_RL_152 dL_take_4 [.int a1] rfl (S0 := _) rfl eu2 rfl (Nat.le_of_ble_eq_true rfl) (d1 := d - 1) (b1 := 2) (s1 := 12) (bc' := 0) (bs' := 0) (Q1 := fun r h9 => r = tq_enI ((.inl "java/lang/IllegalStateException", w3) : (String ⊕ Int32) × tq_H).1 ∧ ((.inl "java/lang/IllegalStateException", w3) : (String ⊕ Int32) × tq_H).2 = h9) (by omega) rfl rfl (w_X10_take (by omega) ev1 (fun _ _ q => q)) (fun E h9 q => ?_) (fun r9 h9 q => nomatch (show (Sum.inl r9 : tq_R) = Sum.inr _ from q.1))
      obtain ⟨q1, rfl⟩ := q
      cases (show (Sum.inr E : tq_R) = Sum.inr "java/lang/IllegalStateException" from q1)
      refine tq_catch (M := mL_take) (pc := 4) (name := "java/lang/IllegalStateException") [⟨0, 9, 12, 13⟩] ⟨0, 9, 15, 17⟩ [] rfl tk_pass_L_take_1 (by decide) (by decide) tk_RL_17 tk_cast_IllegalStateException ?_
      refine tq_xstore_n (M := mL_take) (pc := 15) rfl dL_take_15 (L2 := [(3, .float 0), (0, .ref a0), (1, .int a1), (2, .ref a2)]) (by decide) rfl ?_
      refine tq_iconst (M := mL_take) (pc := 16) dL_take_16 tk_ki_2 ?_
      refine tq_iret (M := mL_take) (pc := 17) dL_take_17 rfl ?_
      cases (Option.some.inj hf)
      exact hQ _ _ ⟨rfl, rfl⟩
    have hf := tq_ifn hf c1
    cases hf
  · refine tq_calV (M := mL_take) (pc := 4) (S := [.int (0 : Int32), .ref a2]) tk_y_X10_take tk_v_X10_take tk_RL_152 dL_take_4 [.int a1] rfl (S0 := _) rfl eu2 rfl (Nat.le_of_ble_eq_true rfl) (d1 := d - 1) (b1 := 2) (s1 := 12) (bc' := 0) (bs' := 0) (Q1 := fun r h9 => r = tq_enI ((.inr v4, w3) : (String ⊕ Int32) × tq_H).1 ∧ ((.inr v4, w3) : (String ⊕ Int32) × tq_H).2 = h9) (by omega) rfl rfl (w_X10_take (by omega) ev1 (fun _ _ q => q)) (fun E h9 q => nomatch (show (Sum.inr E : tq_R) = Sum.inl _ from q.1)) (fun r9 h9 q => ?_)
    obtain ⟨q1, rfl⟩ := q
    cases (show (Sum.inl r9 : tq_R) = Sum.inl (some (.int v4)) from q1)
    refine tq_i2l (M := mL_take) (pc := 7) dL_take_7 ?_
    obtain ⟨w5, ew5, hf⟩ := tq_be hf
    refine tq_lastF (M := mL_take) (pc := 8) dL_take_8 ew5 ?_
    refine tq_goto (M := mL_take) (pc := 9) (tgt := 18) dL_take_9 (by decide) ?_
    refine tq_iconst (M := mL_take) (pc := 18) dL_take_18 tk_ki_0 ?_
    refine tq_iret (M := mL_take) (pc := 19) dL_take_19 rfl ?_
    cases (Option.some.inj hf)
    exact hQ _ _ ⟨rfl, rfl⟩
abbrev mL_distance : tq_M := (RL, cL_distance, 5, (some .int), false, [(0, 10, 13, 13)], none)
def f_L_distance (a0 : Nat) (a1 : Int32) (a2 : Int32) (a3 : Nat) (h : tq_H) : Option (Int32 × tq_H) :=
  (tq_is h a0 10).bind fun _ =>
  (f_X10_distance a0 a1 a2 h).bind fun v1 => match v1 with
  | (.inl E1, w3) =>
    if E1 = "java/lang/IndexOutOfBoundsException" then
      some ((1 : Int32), w3)
    else
      none
  | (.inr v4, w3) =>
    (tq_sl w3 a3 (0 : Int32) (v4).toInt64).bind fun w5 =>
    some ((0 : Int32), w5)
set_option maxHeartbeats 4000000 in
set_option maxRecDepth 20000 in
theorem w_L_distance {l : Launch} {d : Nat} (hd9 : 8 ≤ d) {a0 : Nat} {a1 : Int32} {a2 : Int32} {a3 : Nat} {h : tq_H} {o : Int32 × tq_H} {Q : tq_R → tq_H → Prop} (hf : f_L_distance a0 a1 a2 a3 h = some o) (hQ : ∀ r h9, r = .inl (some (.int o.1)) ∧ o.2 = h9 → Q r h9) : tq_CW l yL_distance cL_distance 5 (some .int) [(0, 10, 13, 13)] d 17 7744 [.ref a0, .int a1, .int a2, .ref a3] h Q := by
  refine tq_bodyW (y := yL_distance) (by decide +kernel) (Nat.le_of_ble_eq_true rfl) ?_
  show tq_W l mL_distance d 17 7744 Q 0 [(0, .ref a0), (1, .int a1), (2, .int a2), (3, .ref a3)] [] h
  refine tq_aload_n (M := mL_distance) (pc := 0) dL_distance_0 rfl ?_
  refine tq_iconst (M := mL_distance) (pc := 1) dL_distance_1 tk_ki_0 ?_
  refine tq_aload_n (M := mL_distance) (pc := 2) dL_distance_2 rfl ?_
  refine tq_iload_n (M := mL_distance) (pc := 3) dL_distance_3 rfl ?_
  refine tq_iload_n (M := mL_distance) (pc := 4) dL_distance_4 rfl ?_
  obtain ⟨⟨⟩, eu2, hf⟩ := tq_be hf
  obtain ⟨fsu2, eu2⟩ := tq_is_s eu2
  obtain ⟨⟨E1 | v4, w3⟩, ev1, hf⟩ := tq_be hf
  · skip
    by_cases c0 : E1 = "java/lang/IndexOutOfBoundsException"
    · have hf := tq_ifp hf c0
      subst c0
      refine tq_calV (M := mL_distance) (pc := 5) (S := [.int (0 : Int32), .ref a3]) tk_y_X10_distance tk_v_X10_distance tk_RL_155 dL_distance_5 [.int a1, .int a2] rfl (S0 := _) rfl eu2 rfl (Nat.le_of_ble_eq_true rfl) (d1 := d - 1) (b1 := 17) (s1 := 7744) (bc' := 0) (bs' := 0) (Q1 := fun r h9 => r = tq_enI ((.inl "java/lang/IndexOutOfBoundsException", w3) : (String ⊕ Int32) × tq_H).1 ∧ ((.inl "java/lang/IndexOutOfBoundsException", w3) : (String ⊕ Int32) × tq_H).2 = h9) (by omega) rfl rfl (w_X10_distance (by omega) ev1 (fun _ _ q => q)) (fun E h9 q => ?_) (fun r9 h9 q => nomatch (show (Sum.inl r9 : tq_R) = Sum.inr _ from q.1))
      obtain ⟨q1, rfl⟩ := q
      cases (show (Sum.inr E : tq_R) = Sum.inr "java/lang/IndexOutOfBoundsException" from q1)
      refine tq_catch (M := mL_distance) (pc := 5) (name := "java/lang/IndexOutOfBoundsException") [] ⟨0, 10, 13, 13⟩ [] rfl tk_pass_L_distance_0 (by decide) (by decide) tk_RL_13 tk_cast_IndexOutOfBoundsException ?_
      refine tq_xstore (M := mL_distance) (pc := 13) dL_distance_13 (L2 := [(4, .float 0), (0, .ref a0), (1, .int a1), (2, .int a2), (3, .ref a3)]) (by decide) rfl ?_
      refine tq_iconst (M := mL_distance) (pc := 15) dL_distance_15 tk_ki_1 ?_
      refine tq_iret (M := mL_distance) (pc := 16) dL_distance_16 rfl ?_
      cases (Option.some.inj hf)
      exact hQ _ _ ⟨rfl, rfl⟩
    have hf := tq_ifn hf c0
    cases hf
  · refine tq_calV (M := mL_distance) (pc := 5) (S := [.int (0 : Int32), .ref a3]) tk_y_X10_distance tk_v_X10_distance tk_RL_155 dL_distance_5 [.int a1, .int a2] rfl (S0 := _) rfl eu2 rfl (Nat.le_of_ble_eq_true rfl) (d1 := d - 1) (b1 := 17) (s1 := 7744) (bc' := 0) (bs' := 0) (Q1 := fun r h9 => r = tq_enI ((.inr v4, w3) : (String ⊕ Int32) × tq_H).1 ∧ ((.inr v4, w3) : (String ⊕ Int32) × tq_H).2 = h9) (by omega) rfl rfl (w_X10_distance (by omega) ev1 (fun _ _ q => q)) (fun E h9 q => nomatch (show (Sum.inr E : tq_R) = Sum.inl _ from q.1)) (fun r9 h9 q => ?_)
    obtain ⟨q1, rfl⟩ := q
    cases (show (Sum.inl r9 : tq_R) = Sum.inl (some (.int v4)) from q1)
    refine tq_i2l (M := mL_distance) (pc := 8) dL_distance_8 ?_
    obtain ⟨w5, ew5, hf⟩ := tq_be hf
    refine tq_lastF (M := mL_distance) (pc := 9) dL_distance_9 ew5 ?_
    refine tq_goto (M := mL_distance) (pc := 10) (tgt := 17) dL_distance_10 (by decide) ?_
    refine tq_iconst (M := mL_distance) (pc := 17) dL_distance_17 tk_ki_0 ?_
    refine tq_iret (M := mL_distance) (pc := 18) dL_distance_18 rfl ?_
    cases (Option.some.inj hf)
    exact hQ _ _ ⟨rfl, rfl⟩
abbrev mL_odds : tq_M := (RL, cL_odds, 6, (some .int), false, [(0, 12, 15, 13)], none)
def f_L_odds (a0 : Nat) (a1 : Int32) (a2 : Int32) (a3 : Int32) (a4 : Nat) (h : tq_H) : Option (Int32 × tq_H) :=
  (tq_is h a0 10).bind fun _ =>
  (f_X10_odds a0 a1 a2 a3 h).bind fun v1 => match v1 with
  | (.inl E1, w3) =>
    if E1 = "java/lang/IndexOutOfBoundsException" then
      some ((1 : Int32), w3)
    else
      none
  | (.inr v4, w3) =>
    (tq_sl w3 a4 (0 : Int32) (v4).toInt64).bind fun w5 =>
    some ((0 : Int32), w5)
set_option maxHeartbeats 4000000 in
set_option maxRecDepth 20000 in
theorem w_L_odds {l : Launch} {d : Nat} (hd9 : 8 ≤ d) {a0 : Nat} {a1 : Int32} {a2 : Int32} {a3 : Int32} {a4 : Nat} {h : tq_H} {o : Int32 × tq_H} {Q : tq_R → tq_H → Prop} (hf : f_L_odds a0 a1 a2 a3 a4 h = some o) (hQ : ∀ r h9, r = .inl (some (.int o.1)) ∧ o.2 = h9 → Q r h9) : tq_CW l yL_odds cL_odds 6 (some .int) [(0, 12, 15, 13)] d 3 18 [.ref a0, .int a1, .int a2, .int a3, .ref a4] h Q := by
  refine tq_bodyW (y := yL_odds) (by decide +kernel) (Nat.le_of_ble_eq_true rfl) ?_
  show tq_W l mL_odds d 3 18 Q 0 [(0, .ref a0), (1, .int a1), (2, .int a2), (3, .int a3), (4, .ref a4)] [] h
  refine tq_aload (M := mL_odds) (pc := 0) dL_odds_0 rfl ?_
  refine tq_iconst (M := mL_odds) (pc := 2) dL_odds_2 tk_ki_0 ?_
  refine tq_aload_n (M := mL_odds) (pc := 3) dL_odds_3 rfl ?_
  refine tq_iload_n (M := mL_odds) (pc := 4) dL_odds_4 rfl ?_
  refine tq_iload_n (M := mL_odds) (pc := 5) dL_odds_5 rfl ?_
  refine tq_iload_n (M := mL_odds) (pc := 6) dL_odds_6 rfl ?_
  obtain ⟨⟨⟩, eu2, hf⟩ := tq_be hf
  obtain ⟨fsu2, eu2⟩ := tq_is_s eu2
  obtain ⟨⟨E1 | v4, w3⟩, ev1, hf⟩ := tq_be hf
  · skip
    by_cases c0 : E1 = "java/lang/IndexOutOfBoundsException"
    · have hf := tq_ifp hf c0
      subst c0
      refine tq_calV (M := mL_odds) (pc := 7) (S := [.int (0 : Int32), .ref a4]) tk_y_X10_odds tk_v_X10_odds tk_RL_158 dL_odds_7 [.int a1, .int a2, .int a3] rfl (S0 := _) rfl eu2 rfl (Nat.le_of_ble_eq_true rfl) (d1 := d - 1) (b1 := 3) (s1 := 18) (bc' := 0) (bs' := 0) (Q1 := fun r h9 => r = tq_enI ((.inl "java/lang/IndexOutOfBoundsException", w3) : (String ⊕ Int32) × tq_H).1 ∧ ((.inl "java/lang/IndexOutOfBoundsException", w3) : (String ⊕ Int32) × tq_H).2 = h9) (by omega) rfl rfl (w_X10_odds (by omega) ev1 (fun _ _ q => q)) (fun E h9 q => ?_) (fun r9 h9 q => nomatch (show (Sum.inl r9 : tq_R) = Sum.inr _ from q.1))
      obtain ⟨q1, rfl⟩ := q
      cases (show (Sum.inr E : tq_R) = Sum.inr "java/lang/IndexOutOfBoundsException" from q1)
      refine tq_catch (M := mL_odds) (pc := 7) (name := "java/lang/IndexOutOfBoundsException") [] ⟨0, 12, 15, 13⟩ [] rfl tk_pass_L_odds_0 (by decide) (by decide) tk_RL_13 tk_cast_IndexOutOfBoundsException ?_
      refine tq_xstore (M := mL_odds) (pc := 15) dL_odds_15 (L2 := [(5, .float 0), (0, .ref a0), (1, .int a1), (2, .int a2), (3, .int a3), (4, .ref a4)]) (by decide) rfl ?_
      refine tq_iconst (M := mL_odds) (pc := 17) dL_odds_17 tk_ki_1 ?_
      refine tq_iret (M := mL_odds) (pc := 18) dL_odds_18 rfl ?_
      cases (Option.some.inj hf)
      exact hQ _ _ ⟨rfl, rfl⟩
    have hf := tq_ifn hf c0
    cases hf
  · refine tq_calV (M := mL_odds) (pc := 7) (S := [.int (0 : Int32), .ref a4]) tk_y_X10_odds tk_v_X10_odds tk_RL_158 dL_odds_7 [.int a1, .int a2, .int a3] rfl (S0 := _) rfl eu2 rfl (Nat.le_of_ble_eq_true rfl) (d1 := d - 1) (b1 := 3) (s1 := 18) (bc' := 0) (bs' := 0) (Q1 := fun r h9 => r = tq_enI ((.inr v4, w3) : (String ⊕ Int32) × tq_H).1 ∧ ((.inr v4, w3) : (String ⊕ Int32) × tq_H).2 = h9) (by omega) rfl rfl (w_X10_odds (by omega) ev1 (fun _ _ q => q)) (fun E h9 q => nomatch (show (Sum.inr E : tq_R) = Sum.inl _ from q.1)) (fun r9 h9 q => ?_)
    obtain ⟨q1, rfl⟩ := q
    cases (show (Sum.inl r9 : tq_R) = Sum.inl (some (.int v4)) from q1)
    refine tq_i2l (M := mL_odds) (pc := 10) dL_odds_10 ?_
    obtain ⟨w5, ew5, hf⟩ := tq_be hf
    refine tq_lastF (M := mL_odds) (pc := 11) dL_odds_11 ew5 ?_
    refine tq_goto (M := mL_odds) (pc := 12) (tgt := 19) dL_odds_12 (by decide) ?_
    refine tq_iconst (M := mL_odds) (pc := 19) dL_odds_19 tk_ki_0 ?_
    refine tq_iret (M := mL_odds) (pc := 20) dL_odds_20 rfl ?_
    cases (Option.some.inj hf)
    exact hQ _ _ ⟨rfl, rfl⟩
abbrev mL_hide : tq_M := (RL, cL_hide, 4, (some .int), false, [(0, 16, 19, 13), (0, 16, 22, 17)], none)
def f_L_hide (a0 : Nat) (a1 : Int32) (a2 : Nat) (h : tq_H) : Option (Int32 × tq_H) :=
  (tq_is h a0 10).bind fun _ =>
  (f_X10_hide a0 a1 h).bind fun v1 => match v1 with
  | (.inl E1, w3) =>
    if E1 = "java/lang/IndexOutOfBoundsException" then
      some ((1 : Int32), w3)
    else
      if E1 = "java/lang/IllegalStateException" then
        some ((2 : Int32), w3)
      else
        none
  | (.inr v4, w3) =>
    tq_let (if v4 = 0 then (0 : Int64) else (1 : Int64)) fun p5 =>
    (tq_sl w3 a2 (0 : Int32) p5).bind fun w6 =>
    some ((0 : Int32), w6)
set_option maxHeartbeats 4000000 in
set_option maxRecDepth 20000 in
theorem w_L_hide {l : Launch} {d : Nat} (hd9 : 8 ≤ d) {a0 : Nat} {a1 : Int32} {a2 : Nat} {h : tq_H} {o : Int32 × tq_H} {Q : tq_R → tq_H → Prop} (hf : f_L_hide a0 a1 a2 h = some o) (hQ : ∀ r h9, r = .inl (some (.int o.1)) ∧ o.2 = h9 → Q r h9) : tq_CW l yL_hide cL_hide 4 (some .int) [(0, 16, 19, 13), (0, 16, 22, 17)] d 2 12 [.ref a0, .int a1, .ref a2] h Q := by
  refine tq_bodyW (y := yL_hide) (by decide +kernel) (Nat.le_of_ble_eq_true rfl) ?_
  show tq_W l mL_hide d 2 12 Q 0 [(0, .ref a0), (1, .int a1), (2, .ref a2)] [] h
  refine tq_aload_n (M := mL_hide) (pc := 0) dL_hide_0 rfl ?_
  refine tq_iconst (M := mL_hide) (pc := 1) dL_hide_1 tk_ki_0 ?_
  refine tq_aload_n (M := mL_hide) (pc := 2) dL_hide_2 rfl ?_
  refine tq_iload_n (M := mL_hide) (pc := 3) dL_hide_3 rfl ?_
  obtain ⟨⟨⟩, eu2, hf⟩ := tq_be hf
  obtain ⟨fsu2, eu2⟩ := tq_is_s eu2
  obtain ⟨⟨E1 | v4, w3⟩, ev1, hf⟩ := tq_be hf
  · skip
    by_cases c0 : E1 = "java/lang/IndexOutOfBoundsException"
    · have hf := tq_ifp hf c0
      subst c0
      refine tq_calV (M := mL_hide) (pc := 4) (S := [.int (0 : Int32), .ref a2]) tk_y_X10_hide tk_v_X10_hide tk_RL_161 dL_hide_4 [.int a1] rfl (S0 := _) rfl eu2 rfl (Nat.le_of_ble_eq_true rfl) (d1 := d - 1) (b1 := 2) (s1 := 12) (bc' := 0) (bs' := 0) (Q1 := fun r h9 => r = tq_enI ((.inl "java/lang/IndexOutOfBoundsException", w3) : (String ⊕ Int32) × tq_H).1 ∧ ((.inl "java/lang/IndexOutOfBoundsException", w3) : (String ⊕ Int32) × tq_H).2 = h9) (by omega) rfl rfl (w_X10_hide (by omega) ev1 (fun _ _ q => q)) (fun E h9 q => ?_) (fun r9 h9 q => nomatch (show (Sum.inl r9 : tq_R) = Sum.inr _ from q.1))
      obtain ⟨q1, rfl⟩ := q
      cases (show (Sum.inr E : tq_R) = Sum.inr "java/lang/IndexOutOfBoundsException" from q1)
      refine tq_catch (M := mL_hide) (pc := 4) (name := "java/lang/IndexOutOfBoundsException") [] ⟨0, 16, 19, 13⟩ [⟨0, 16, 22, 17⟩] rfl tk_pass_L_hide_0 (by decide) (by decide) tk_RL_13 tk_cast_IndexOutOfBoundsException ?_
      refine tq_xstore_n (M := mL_hide) (pc := 19) rfl dL_hide_19 (L2 := [(3, .float 0), (0, .ref a0), (1, .int a1), (2, .ref a2)]) (by decide) rfl ?_
      refine tq_iconst (M := mL_hide) (pc := 20) dL_hide_20 tk_ki_1 ?_
      refine tq_iret (M := mL_hide) (pc := 21) dL_hide_21 rfl ?_
      cases (Option.some.inj hf)
      exact hQ _ _ ⟨rfl, rfl⟩
    have hf := tq_ifn hf c0
    by_cases c1 : E1 = "java/lang/IllegalStateException"
    · have hf := tq_ifp hf c1
      subst c1
      refine tq_calV (M := mL_hide) (pc := 4) (S := [.int (0 : Int32), .ref a2]) tk_y_X10_hide tk_v_X10_hide tk_RL_161 dL_hide_4 [.int a1] rfl (S0 := _) rfl eu2 rfl (Nat.le_of_ble_eq_true rfl) (d1 := d - 1) (b1 := 2) (s1 := 12) (bc' := 0) (bs' := 0) (Q1 := fun r h9 => r = tq_enI ((.inl "java/lang/IllegalStateException", w3) : (String ⊕ Int32) × tq_H).1 ∧ ((.inl "java/lang/IllegalStateException", w3) : (String ⊕ Int32) × tq_H).2 = h9) (by omega) rfl rfl (w_X10_hide (by omega) ev1 (fun _ _ q => q)) (fun E h9 q => ?_) (fun r9 h9 q => nomatch (show (Sum.inl r9 : tq_R) = Sum.inr _ from q.1))
      obtain ⟨q1, rfl⟩ := q
      cases (show (Sum.inr E : tq_R) = Sum.inr "java/lang/IllegalStateException" from q1)
      refine tq_catch (M := mL_hide) (pc := 4) (name := "java/lang/IllegalStateException") [⟨0, 16, 19, 13⟩] ⟨0, 16, 22, 17⟩ [] rfl tk_pass_L_hide_1 (by decide) (by decide) tk_RL_17 tk_cast_IllegalStateException ?_
      refine tq_xstore_n (M := mL_hide) (pc := 22) rfl dL_hide_22 (L2 := [(3, .float 0), (0, .ref a0), (1, .int a1), (2, .ref a2)]) (by decide) rfl ?_
      refine tq_iconst (M := mL_hide) (pc := 23) dL_hide_23 tk_ki_2 ?_
      refine tq_iret (M := mL_hide) (pc := 24) dL_hide_24 rfl ?_
      cases (Option.some.inj hf)
      exact hQ _ _ ⟨rfl, rfl⟩
    have hf := tq_ifn hf c1
    cases hf
  · refine tq_calV (M := mL_hide) (pc := 4) (S := [.int (0 : Int32), .ref a2]) tk_y_X10_hide tk_v_X10_hide tk_RL_161 dL_hide_4 [.int a1] rfl (S0 := _) rfl eu2 rfl (Nat.le_of_ble_eq_true rfl) (d1 := d - 1) (b1 := 2) (s1 := 12) (bc' := 0) (bs' := 0) (Q1 := fun r h9 => r = tq_enI ((.inr v4, w3) : (String ⊕ Int32) × tq_H).1 ∧ ((.inr v4, w3) : (String ⊕ Int32) × tq_H).2 = h9) (by omega) rfl rfl (w_X10_hide (by omega) ev1 (fun _ _ q => q)) (fun E h9 q => nomatch (show (Sum.inr E : tq_R) = Sum.inl _ from q.1)) (fun r9 h9 q => ?_)
    obtain ⟨q1, rfl⟩ := q
    cases (show (Sum.inl r9 : tq_R) = Sum.inl (some (.int v4)) from q1)
    obtain ⟨p5, ep5, hf⟩ := tq_le hf
    have HJ7 : tq_W l mL_hide d 0 0 Q 15 [] [.long p5, .int (0 : Int32), .ref a2] w3 := by
      obtain ⟨w6, ew6, hf⟩ := tq_be hf
      refine tq_lastF (M := mL_hide) (pc := 15) dL_hide_15 ew6 ?_
      refine tq_goto (M := mL_hide) (pc := 16) (tgt := 25) dL_hide_16 (by decide) ?_
      refine tq_iconst (M := mL_hide) (pc := 25) dL_hide_25 tk_ki_0 ?_
      refine tq_iret (M := mL_hide) (pc := 26) dL_hide_26 rfl ?_
      cases (Option.some.inj hf)
      exact hQ _ _ ⟨rfl, rfl⟩
    refine tq_if_eq (M := mL_hide) (pc := 7) (tgt := 14) dL_hide_7 (by decide) (fun cc => ?_) (fun cc => ?_)
    · have hf := tq_ifp ep5.symm cc
      refine tq_lconst (M := mL_hide) (pc := 14) dL_hide_14 tk_kl_0 ?_
      refine tq_pick (L2 := []) [] rfl ?_
      cases hf
      exact HJ7
    · have hf := tq_ifn ep5.symm cc
      refine tq_lconst (M := mL_hide) (pc := 10) dL_hide_10 tk_kl_1 ?_
      refine tq_goto (M := mL_hide) (pc := 11) (tgt := 15) dL_hide_11 (by decide) ?_
      refine tq_pick (L2 := []) [] rfl ?_
      cases hf
      exact HJ7
abbrev mL_isSeen : tq_M := (RL, cL_isSeen, 4, (some .int), false, [(0, 16, 19, 13)], none)
def f_L_isSeen (a0 : Nat) (a1 : Int32) (a2 : Nat) (h : tq_H) : Option (Int32 × tq_H) :=
  (tq_is h a0 10).bind fun _ =>
  (f_X10_isSeen a0 a1 h).bind fun v1 => match v1 with
  | (.inl E1, w3) =>
    if E1 = "java/lang/IndexOutOfBoundsException" then
      some ((1 : Int32), w3)
    else
      none
  | (.inr v4, w3) =>
    tq_let (if v4 = 0 then (0 : Int64) else (1 : Int64)) fun p5 =>
    (tq_sl w3 a2 (0 : Int32) p5).bind fun w6 =>
    some ((0 : Int32), w6)
set_option maxHeartbeats 4000000 in
set_option maxRecDepth 20000 in
theorem w_L_isSeen {l : Launch} {d : Nat} (hd9 : 8 ≤ d) {a0 : Nat} {a1 : Int32} {a2 : Nat} {h : tq_H} {o : Int32 × tq_H} {Q : tq_R → tq_H → Prop} (hf : f_L_isSeen a0 a1 a2 h = some o) (hQ : ∀ r h9, r = .inl (some (.int o.1)) ∧ o.2 = h9 → Q r h9) : tq_CW l yL_isSeen cL_isSeen 4 (some .int) [(0, 16, 19, 13)] d 1 6 [.ref a0, .int a1, .ref a2] h Q := by
  refine tq_bodyW (y := yL_isSeen) (by decide +kernel) (Nat.le_of_ble_eq_true rfl) ?_
  show tq_W l mL_isSeen d 1 6 Q 0 [(0, .ref a0), (1, .int a1), (2, .ref a2)] [] h
  refine tq_aload_n (M := mL_isSeen) (pc := 0) dL_isSeen_0 rfl ?_
  refine tq_iconst (M := mL_isSeen) (pc := 1) dL_isSeen_1 tk_ki_0 ?_
  refine tq_aload_n (M := mL_isSeen) (pc := 2) dL_isSeen_2 rfl ?_
  refine tq_iload_n (M := mL_isSeen) (pc := 3) dL_isSeen_3 rfl ?_
  obtain ⟨⟨⟩, eu2, hf⟩ := tq_be hf
  obtain ⟨fsu2, eu2⟩ := tq_is_s eu2
  obtain ⟨⟨E1 | v4, w3⟩, ev1, hf⟩ := tq_be hf
  · skip
    by_cases c0 : E1 = "java/lang/IndexOutOfBoundsException"
    · have hf := tq_ifp hf c0
      subst c0
      refine tq_calV (M := mL_isSeen) (pc := 4) (S := [.int (0 : Int32), .ref a2]) tk_y_X10_isSeen tk_v_X10_isSeen tk_RL_164 dL_isSeen_4 [.int a1] rfl (S0 := _) rfl eu2 rfl (Nat.le_of_ble_eq_true rfl) (d1 := d - 1) (b1 := 1) (s1 := 6) (bc' := 0) (bs' := 0) (Q1 := fun r h9 => r = tq_enI ((.inl "java/lang/IndexOutOfBoundsException", w3) : (String ⊕ Int32) × tq_H).1 ∧ ((.inl "java/lang/IndexOutOfBoundsException", w3) : (String ⊕ Int32) × tq_H).2 = h9) (by omega) rfl rfl (w_X10_isSeen (by omega) ev1 (fun _ _ q => q)) (fun E h9 q => ?_) (fun r9 h9 q => nomatch (show (Sum.inl r9 : tq_R) = Sum.inr _ from q.1))
      obtain ⟨q1, rfl⟩ := q
      cases (show (Sum.inr E : tq_R) = Sum.inr "java/lang/IndexOutOfBoundsException" from q1)
      refine tq_catch (M := mL_isSeen) (pc := 4) (name := "java/lang/IndexOutOfBoundsException") [] ⟨0, 16, 19, 13⟩ [] rfl tk_pass_L_isSeen_0 (by decide) (by decide) tk_RL_13 tk_cast_IndexOutOfBoundsException ?_
      refine tq_xstore_n (M := mL_isSeen) (pc := 19) rfl dL_isSeen_19 (L2 := [(3, .float 0), (0, .ref a0), (1, .int a1), (2, .ref a2)]) (by decide) rfl ?_
      refine tq_iconst (M := mL_isSeen) (pc := 20) dL_isSeen_20 tk_ki_1 ?_
      refine tq_iret (M := mL_isSeen) (pc := 21) dL_isSeen_21 rfl ?_
      cases (Option.some.inj hf)
      exact hQ _ _ ⟨rfl, rfl⟩
    have hf := tq_ifn hf c0
    cases hf
  · refine tq_calV (M := mL_isSeen) (pc := 4) (S := [.int (0 : Int32), .ref a2]) tk_y_X10_isSeen tk_v_X10_isSeen tk_RL_164 dL_isSeen_4 [.int a1] rfl (S0 := _) rfl eu2 rfl (Nat.le_of_ble_eq_true rfl) (d1 := d - 1) (b1 := 1) (s1 := 6) (bc' := 0) (bs' := 0) (Q1 := fun r h9 => r = tq_enI ((.inr v4, w3) : (String ⊕ Int32) × tq_H).1 ∧ ((.inr v4, w3) : (String ⊕ Int32) × tq_H).2 = h9) (by omega) rfl rfl (w_X10_isSeen (by omega) ev1 (fun _ _ q => q)) (fun E h9 q => nomatch (show (Sum.inr E : tq_R) = Sum.inl _ from q.1)) (fun r9 h9 q => ?_)
    obtain ⟨q1, rfl⟩ := q
    cases (show (Sum.inl r9 : tq_R) = Sum.inl (some (.int v4)) from q1)
    obtain ⟨p5, ep5, hf⟩ := tq_le hf
    have HJ7 : tq_W l mL_isSeen d 0 0 Q 15 [] [.long p5, .int (0 : Int32), .ref a2] w3 := by
      obtain ⟨w6, ew6, hf⟩ := tq_be hf
      refine tq_lastF (M := mL_isSeen) (pc := 15) dL_isSeen_15 ew6 ?_
      refine tq_goto (M := mL_isSeen) (pc := 16) (tgt := 22) dL_isSeen_16 (by decide) ?_
      refine tq_iconst (M := mL_isSeen) (pc := 22) dL_isSeen_22 tk_ki_0 ?_
      refine tq_iret (M := mL_isSeen) (pc := 23) dL_isSeen_23 rfl ?_
      cases (Option.some.inj hf)
      exact hQ _ _ ⟨rfl, rfl⟩
    refine tq_if_eq (M := mL_isSeen) (pc := 7) (tgt := 14) dL_isSeen_7 (by decide) (fun cc => ?_) (fun cc => ?_)
    · have hf := tq_ifp ep5.symm cc
      refine tq_lconst (M := mL_isSeen) (pc := 14) dL_isSeen_14 tk_kl_0 ?_
      refine tq_pick (L2 := []) [] rfl ?_
      cases hf
      exact HJ7
    · have hf := tq_ifn ep5.symm cc
      refine tq_lconst (M := mL_isSeen) (pc := 10) dL_isSeen_10 tk_kl_1 ?_
      refine tq_goto (M := mL_isSeen) (pc := 11) (tgt := 15) dL_isSeen_11 (by decide) ?_
      refine tq_pick (L2 := []) [] rfl ?_
      cases hf
      exact HJ7
