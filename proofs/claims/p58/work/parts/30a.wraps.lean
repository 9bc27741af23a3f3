/-! ===== printed by wip/p58/tools: p58's law: calls that may throw ===== -/
abbrev cL_element : ByteArray := method_2_code
def yL_element : MethodName := ⟨RL, "element", "(LTreequery;III)I"⟩
theorem dL_element_0 : decode cL_element 0 = .ok (.aload_n 0, 1) := by decide +kernel
theorem dL_element_1 : decode cL_element 1 = .ok (.iload_n 1, 1) := by decide +kernel
theorem dL_element_2 : decode cL_element 2 = .ok (.iload_n 2, 1) := by decide +kernel
theorem dL_element_3 : decode cL_element 3 = .ok (.iload_n 3, 1) := by decide +kernel
theorem dL_element_4 : decode cL_element 4 = .ok (.invokevirtual 7, 3) := by decide +kernel
theorem dL_element_7 : decode cL_element 7 = .ok (.ireturn, 1) := by decide +kernel
theorem dL_element_8 : decode cL_element 8 = .ok (.astore 4, 2) := by decide +kernel
theorem dL_element_10 : decode cL_element 10 = .ok (.ldc 15, 2) := by decide +kernel
theorem dL_element_12 : decode cL_element 12 = .ok (.ireturn, 1) := by decide +kernel
theorem dL_element_13 : decode cL_element 13 = .ok (.astore 4, 2) := by decide +kernel
theorem dL_element_15 : decode cL_element 15 = .ok (.ldc 18, 2) := by decide +kernel
theorem dL_element_17 : decode cL_element 17 = .ok (.ireturn, 1) := by decide +kernel
theorem dL_element_18 : decode cL_element 18 = .ok (.astore 4, 2) := by decide +kernel
theorem dL_element_20 : decode cL_element 20 = .ok (.ldc 21, 2) := by decide +kernel
theorem dL_element_22 : decode cL_element 22 = .ok (.ireturn, 1) := by decide +kernel
abbrev cL_text : ByteArray := method_3_code
def yL_text : MethodName := ⟨RL, "text", "(LTreequery;III)I"⟩
theorem dL_text_0 : decode cL_text 0 = .ok (.aload_n 0, 1) := by decide +kernel
theorem dL_text_1 : decode cL_text 1 = .ok (.iload_n 1, 1) := by decide +kernel
theorem dL_text_2 : decode cL_text 2 = .ok (.iload_n 2, 1) := by decide +kernel
theorem dL_text_3 : decode cL_text 3 = .ok (.iload_n 3, 1) := by decide +kernel
theorem dL_text_4 : decode cL_text 4 = .ok (.invokevirtual 22, 3) := by decide +kernel
theorem dL_text_7 : decode cL_text 7 = .ok (.ireturn, 1) := by decide +kernel
theorem dL_text_8 : decode cL_text 8 = .ok (.astore 4, 2) := by decide +kernel
theorem dL_text_10 : decode cL_text 10 = .ok (.ldc 15, 2) := by decide +kernel
theorem dL_text_12 : decode cL_text 12 = .ok (.ireturn, 1) := by decide +kernel
theorem dL_text_13 : decode cL_text 13 = .ok (.astore 4, 2) := by decide +kernel
theorem dL_text_15 : decode cL_text 15 = .ok (.ldc 18, 2) := by decide +kernel
theorem dL_text_17 : decode cL_text 17 = .ok (.ireturn, 1) := by decide +kernel
theorem dL_text_18 : decode cL_text 18 = .ok (.astore 4, 2) := by decide +kernel
theorem dL_text_20 : decode cL_text 20 = .ok (.ldc 21, 2) := by decide +kernel
theorem dL_text_22 : decode cL_text 22 = .ok (.ireturn, 1) := by decide +kernel
abbrev cL_attribute : ByteArray := method_4_code
def yL_attribute : MethodName := ⟨RL, "attribute", "(LTreequery;III)I"⟩
theorem dL_attribute_0 : decode cL_attribute 0 = .ok (.aload_n 0, 1) := by decide +kernel
theorem dL_attribute_1 : decode cL_attribute 1 = .ok (.iload_n 1, 1) := by decide +kernel
theorem dL_attribute_2 : decode cL_attribute 2 = .ok (.iload_n 2, 1) := by decide +kernel
theorem dL_attribute_3 : decode cL_attribute 3 = .ok (.iload_n 3, 1) := by decide +kernel
theorem dL_attribute_4 : decode cL_attribute 4 = .ok (.invokevirtual 25, 3) := by decide +kernel
theorem dL_attribute_7 : decode cL_attribute 7 = .ok (.ireturn, 1) := by decide +kernel
theorem dL_attribute_8 : decode cL_attribute 8 = .ok (.astore 4, 2) := by decide +kernel
theorem dL_attribute_10 : decode cL_attribute 10 = .ok (.ldc 15, 2) := by decide +kernel
theorem dL_attribute_12 : decode cL_attribute 12 = .ok (.ireturn, 1) := by decide +kernel
theorem dL_attribute_13 : decode cL_attribute 13 = .ok (.astore 4, 2) := by decide +kernel
theorem dL_attribute_15 : decode cL_attribute 15 = .ok (.ldc 18, 2) := by decide +kernel
theorem dL_attribute_17 : decode cL_attribute 17 = .ok (.ireturn, 1) := by decide +kernel
theorem dL_attribute_18 : decode cL_attribute 18 = .ok (.astore 4, 2) := by decide +kernel
theorem dL_attribute_20 : decode cL_attribute 20 = .ok (.ldc 21, 2) := by decide +kernel
theorem dL_attribute_22 : decode cL_attribute 22 = .ok (.ireturn, 1) := by decide +kernel
abbrev cL_remove : ByteArray := method_5_code
def yL_remove : MethodName := ⟨RL, "remove", "(LTreequery;I)I"⟩
theorem dL_remove_0 : decode cL_remove 0 = .ok (.aload_n 0, 1) := by decide +kernel
theorem dL_remove_1 : decode cL_remove 1 = .ok (.iload_n 1, 1) := by decide +kernel
theorem dL_remove_2 : decode cL_remove 2 = .ok (.invokevirtual 28, 3) := by decide +kernel
theorem dL_remove_5 : decode cL_remove 5 = .ok (.ireturn, 1) := by decide +kernel
theorem dL_remove_6 : decode cL_remove 6 = .ok (.astore_n 2, 1) := by decide +kernel
theorem dL_remove_7 : decode cL_remove 7 = .ok (.ldc 15, 2) := by decide +kernel
theorem dL_remove_9 : decode cL_remove 9 = .ok (.ireturn, 1) := by decide +kernel
theorem dL_remove_10 : decode cL_remove 10 = .ok (.astore_n 2, 1) := by decide +kernel
theorem dL_remove_11 : decode cL_remove 11 = .ok (.ldc 21, 2) := by decide +kernel
theorem dL_remove_13 : decode cL_remove 13 = .ok (.ireturn, 1) := by decide +kernel
abbrev cL_rename : ByteArray := method_6_code
def yL_rename : MethodName := ⟨RL, "rename", "(LTreequery;II)I"⟩
theorem dL_rename_0 : decode cL_rename 0 = .ok (.aload_n 0, 1) := by decide +kernel
theorem dL_rename_1 : decode cL_rename 1 = .ok (.iload_n 1, 1) := by decide +kernel
theorem dL_rename_2 : decode cL_rename 2 = .ok (.iload_n 2, 1) := by decide +kernel
theorem dL_rename_3 : decode cL_rename 3 = .ok (.invokevirtual 32, 3) := by decide +kernel
theorem dL_rename_6 : decode cL_rename 6 = .ok (.ireturn, 1) := by decide +kernel
theorem dL_rename_7 : decode cL_rename 7 = .ok (.astore_n 3, 1) := by decide +kernel
theorem dL_rename_8 : decode cL_rename 8 = .ok (.ldc 15, 2) := by decide +kernel
theorem dL_rename_10 : decode cL_rename 10 = .ok (.ireturn, 1) := by decide +kernel
theorem dL_rename_11 : decode cL_rename 11 = .ok (.astore_n 3, 1) := by decide +kernel
theorem dL_rename_12 : decode cL_rename 12 = .ok (.ldc 18, 2) := by decide +kernel
theorem dL_rename_14 : decode cL_rename 14 = .ok (.ireturn, 1) := by decide +kernel
theorem dL_rename_15 : decode cL_rename 15 = .ok (.astore_n 3, 1) := by decide +kernel
theorem dL_rename_16 : decode cL_rename 16 = .ok (.ldc 21, 2) := by decide +kernel
theorem dL_rename_18 : decode cL_rename 18 = .ok (.ireturn, 1) := by decide +kernel
abbrev cL_revalue : ByteArray := method_7_code
def yL_revalue : MethodName := ⟨RL, "revalue", "(LTreequery;II)I"⟩
theorem dL_revalue_0 : decode cL_revalue 0 = .ok (.aload_n 0, 1) := by decide +kernel
theorem dL_revalue_1 : decode cL_revalue 1 = .ok (.iload_n 1, 1) := by decide +kernel
theorem dL_revalue_2 : decode cL_revalue 2 = .ok (.iload_n 2, 1) := by decide +kernel
theorem dL_revalue_3 : decode cL_revalue 3 = .ok (.invokevirtual 36, 3) := by decide +kernel
theorem dL_revalue_6 : decode cL_revalue 6 = .ok (.ireturn, 1) := by decide +kernel
theorem dL_revalue_7 : decode cL_revalue 7 = .ok (.astore_n 3, 1) := by decide +kernel
theorem dL_revalue_8 : decode cL_revalue 8 = .ok (.ldc 15, 2) := by decide +kernel
theorem dL_revalue_10 : decode cL_revalue 10 = .ok (.ireturn, 1) := by decide +kernel
theorem dL_revalue_11 : decode cL_revalue 11 = .ok (.astore_n 3, 1) := by decide +kernel
theorem dL_revalue_12 : decode cL_revalue 12 = .ok (.ldc 18, 2) := by decide +kernel
theorem dL_revalue_14 : decode cL_revalue 14 = .ok (.ireturn, 1) := by decide +kernel
theorem dL_revalue_15 : decode cL_revalue 15 = .ok (.astore_n 3, 1) := by decide +kernel
theorem dL_revalue_16 : decode cL_revalue 16 = .ok (.ldc 21, 2) := by decide +kernel
theorem dL_revalue_18 : decode cL_revalue 18 = .ok (.ireturn, 1) := by decide +kernel
abbrev cL_move : ByteArray := method_8_code
def yL_move : MethodName := ⟨RL, "move", "(LTreequery;III)I"⟩
theorem dL_move_0 : decode cL_move 0 = .ok (.aload_n 0, 1) := by decide +kernel
theorem dL_move_1 : decode cL_move 1 = .ok (.iload_n 1, 1) := by decide +kernel
theorem dL_move_2 : decode cL_move 2 = .ok (.iload_n 2, 1) := by decide +kernel
theorem dL_move_3 : decode cL_move 3 = .ok (.iload_n 3, 1) := by decide +kernel
theorem dL_move_4 : decode cL_move 4 = .ok (.invokevirtual 39, 3) := by decide +kernel
theorem dL_move_7 : decode cL_move 7 = .ok (.ireturn, 1) := by decide +kernel
theorem dL_move_8 : decode cL_move 8 = .ok (.astore 4, 2) := by decide +kernel
theorem dL_move_10 : decode cL_move 10 = .ok (.ldc 15, 2) := by decide +kernel
theorem dL_move_12 : decode cL_move 12 = .ok (.ireturn, 1) := by decide +kernel
theorem dL_move_13 : decode cL_move 13 = .ok (.astore 4, 2) := by decide +kernel
theorem dL_move_15 : decode cL_move 15 = .ok (.ldc 21, 2) := by decide +kernel
theorem dL_move_17 : decode cL_move 17 = .ok (.ireturn, 1) := by decide +kernel
abbrev cL_declare : ByteArray := method_9_code
def yL_declare : MethodName := ⟨RL, "declare", "(LTreequery;II)I"⟩
theorem dL_declare_0 : decode cL_declare 0 = .ok (.aload_n 0, 1) := by decide +kernel
theorem dL_declare_1 : decode cL_declare 1 = .ok (.iload_n 1, 1) := by decide +kernel
theorem dL_declare_2 : decode cL_declare 2 = .ok (.iload_n 2, 1) := by decide +kernel
theorem dL_declare_3 : decode cL_declare 3 = .ok (.invokevirtual 42, 3) := by decide +kernel
theorem dL_declare_6 : decode cL_declare 6 = .ok (.ireturn, 1) := by decide +kernel
theorem dL_declare_7 : decode cL_declare 7 = .ok (.astore_n 3, 1) := by decide +kernel
theorem dL_declare_8 : decode cL_declare 8 = .ok (.ldc 15, 2) := by decide +kernel
theorem dL_declare_10 : decode cL_declare 10 = .ok (.ireturn, 1) := by decide +kernel
theorem dL_declare_11 : decode cL_declare 11 = .ok (.astore_n 3, 1) := by decide +kernel
theorem dL_declare_12 : decode cL_declare 12 = .ok (.ldc 18, 2) := by decide +kernel
theorem dL_declare_14 : decode cL_declare 14 = .ok (.ireturn, 1) := by decide +kernel
theorem dL_declare_15 : decode cL_declare 15 = .ok (.astore_n 3, 1) := by decide +kernel
theorem dL_declare_16 : decode cL_declare 16 = .ok (.ldc 21, 2) := by decide +kernel
theorem dL_declare_18 : decode cL_declare 18 = .ok (.ireturn, 1) := by decide +kernel
abbrev cL_apply : ByteArray := method_10_code
def yL_apply : MethodName := ⟨RL, "apply", "(LTreequery;)I"⟩
theorem dL_apply_0 : decode cL_apply 0 = .ok (.aload_n 0, 1) := by decide +kernel
theorem dL_apply_1 : decode cL_apply 1 = .ok (.invokevirtual 45, 3) := by decide +kernel
theorem dL_apply_4 : decode cL_apply 4 = .ok (.ireturn, 1) := by decide +kernel
theorem dL_apply_5 : decode cL_apply 5 = .ok (.astore_n 1, 1) := by decide +kernel
theorem dL_apply_6 : decode cL_apply 6 = .ok (.ldc 21, 2) := by decide +kernel
theorem dL_apply_8 : decode cL_apply 8 = .ok (.ireturn, 1) := by decide +kernel
abbrev cL_kind : ByteArray := method_11_code
def yL_kind : MethodName := ⟨RL, "kind", "(LTreequery;I)I"⟩
theorem dL_kind_0 : decode cL_kind 0 = .ok (.aload_n 0, 1) := by decide +kernel
theorem dL_kind_1 : decode cL_kind 1 = .ok (.iload_n 1, 1) := by decide +kernel
theorem dL_kind_2 : decode cL_kind 2 = .ok (.invokevirtual 49, 3) := by decide +kernel
theorem dL_kind_5 : decode cL_kind 5 = .ok (.ireturn, 1) := by decide +kernel
theorem dL_kind_6 : decode cL_kind 6 = .ok (.astore_n 2, 1) := by decide +kernel
theorem dL_kind_7 : decode cL_kind 7 = .ok (.ldc 15, 2) := by decide +kernel
theorem dL_kind_9 : decode cL_kind 9 = .ok (.ireturn, 1) := by decide +kernel
abbrev cL_name : ByteArray := method_12_code
def yL_name : MethodName := ⟨RL, "name", "(LTreequery;I)I"⟩
theorem dL_name_0 : decode cL_name 0 = .ok (.aload_n 0, 1) := by decide +kernel
theorem dL_name_1 : decode cL_name 1 = .ok (.iload_n 1, 1) := by decide +kernel
theorem dL_name_2 : decode cL_name 2 = .ok (.invokevirtual 52, 3) := by decide +kernel
theorem dL_name_5 : decode cL_name 5 = .ok (.ireturn, 1) := by decide +kernel
theorem dL_name_6 : decode cL_name 6 = .ok (.astore_n 2, 1) := by decide +kernel
theorem dL_name_7 : decode cL_name 7 = .ok (.ldc 15, 2) := by decide +kernel
theorem dL_name_9 : decode cL_name 9 = .ok (.ireturn, 1) := by decide +kernel
abbrev cL_value : ByteArray := method_13_code
def yL_value : MethodName := ⟨RL, "value", "(LTreequery;I)I"⟩
theorem dL_value_0 : decode cL_value 0 = .ok (.aload_n 0, 1) := by decide +kernel
theorem dL_value_1 : decode cL_value 1 = .ok (.iload_n 1, 1) := by decide +kernel
theorem dL_value_2 : decode cL_value 2 = .ok (.invokevirtual 55, 3) := by decide +kernel
theorem dL_value_5 : decode cL_value 5 = .ok (.ireturn, 1) := by decide +kernel
theorem dL_value_6 : decode cL_value 6 = .ok (.astore_n 2, 1) := by decide +kernel
theorem dL_value_7 : decode cL_value 7 = .ok (.ldc 15, 2) := by decide +kernel
theorem dL_value_9 : decode cL_value 9 = .ok (.ireturn, 1) := by decide +kernel
abbrev cL_parent : ByteArray := method_14_code
def yL_parent : MethodName := ⟨RL, "parent", "(LTreequery;I)I"⟩
theorem dL_parent_0 : decode cL_parent 0 = .ok (.aload_n 0, 1) := by decide +kernel
theorem dL_parent_1 : decode cL_parent 1 = .ok (.iload_n 1, 1) := by decide +kernel
theorem dL_parent_2 : decode cL_parent 2 = .ok (.invokevirtual 58, 3) := by decide +kernel
theorem dL_parent_5 : decode cL_parent 5 = .ok (.ireturn, 1) := by decide +kernel
theorem dL_parent_6 : decode cL_parent 6 = .ok (.astore_n 2, 1) := by decide +kernel
theorem dL_parent_7 : decode cL_parent 7 = .ok (.ldc 15, 2) := by decide +kernel
theorem dL_parent_9 : decode cL_parent 9 = .ok (.ireturn, 1) := by decide +kernel
abbrev cL_child : ByteArray := method_15_code
def yL_child : MethodName := ⟨RL, "child", "(LTreequery;II)I"⟩
theorem dL_child_0 : decode cL_child 0 = .ok (.aload_n 0, 1) := by decide +kernel
theorem dL_child_1 : decode cL_child 1 = .ok (.iload_n 1, 1) := by decide +kernel
theorem dL_child_2 : decode cL_child 2 = .ok (.iload_n 2, 1) := by decide +kernel
theorem dL_child_3 : decode cL_child 3 = .ok (.invokevirtual 61, 3) := by decide +kernel
theorem dL_child_6 : decode cL_child 6 = .ok (.ireturn, 1) := by decide +kernel
theorem dL_child_7 : decode cL_child 7 = .ok (.astore_n 3, 1) := by decide +kernel
theorem dL_child_8 : decode cL_child 8 = .ok (.ldc 15, 2) := by decide +kernel
theorem dL_child_10 : decode cL_child 10 = .ok (.ireturn, 1) := by decide +kernel
abbrev cL_space : ByteArray := method_16_code
def yL_space : MethodName := ⟨RL, "space", "(LTreequery;I)I"⟩
theorem dL_space_0 : decode cL_space 0 = .ok (.aload_n 0, 1) := by decide +kernel
theorem dL_space_1 : decode cL_space 1 = .ok (.iload_n 1, 1) := by decide +kernel
theorem dL_space_2 : decode cL_space 2 = .ok (.invokevirtual 64, 3) := by decide +kernel
theorem dL_space_5 : decode cL_space 5 = .ok (.ireturn, 1) := by decide +kernel
theorem dL_space_6 : decode cL_space 6 = .ok (.astore_n 2, 1) := by decide +kernel
theorem dL_space_7 : decode cL_space 7 = .ok (.ldc 15, 2) := by decide +kernel
theorem dL_space_9 : decode cL_space 9 = .ok (.ireturn, 1) := by decide +kernel
abbrev cL_number : ByteArray := method_17_code
def yL_number : MethodName := ⟨RL, "number", "(LTreequery;I)I"⟩
theorem dL_number_0 : decode cL_number 0 = .ok (.aload_n 0, 1) := by decide +kernel
theorem dL_number_1 : decode cL_number 1 = .ok (.iload_n 1, 1) := by decide +kernel
theorem dL_number_2 : decode cL_number 2 = .ok (.invokevirtual 67, 3) := by decide +kernel
theorem dL_number_5 : decode cL_number 5 = .ok (.ireturn, 1) := by decide +kernel
theorem dL_number_6 : decode cL_number 6 = .ok (.astore_n 2, 1) := by decide +kernel
theorem dL_number_7 : decode cL_number 7 = .ok (.ldc 15, 2) := by decide +kernel
theorem dL_number_9 : decode cL_number 9 = .ok (.ireturn, 1) := by decide +kernel
abbrev cL_path : ByteArray := method_18_code
def yL_path : MethodName := ⟨RL, "path", "(LTreequery;)I"⟩
theorem dL_path_0 : decode cL_path 0 = .ok (.aload_n 0, 1) := by decide +kernel
theorem dL_path_1 : decode cL_path 1 = .ok (.invokevirtual 70, 3) := by decide +kernel
theorem dL_path_4 : decode cL_path 4 = .ok (.ireturn, 1) := by decide +kernel
theorem dL_path_5 : decode cL_path 5 = .ok (.astore_n 1, 1) := by decide +kernel
theorem dL_path_6 : decode cL_path 6 = .ok (.ldc 21, 2) := by decide +kernel
theorem dL_path_8 : decode cL_path 8 = .ok (.ireturn, 1) := by decide +kernel
abbrev cL_step : ByteArray := method_19_code
def yL_step : MethodName := ⟨RL, "step", "(LTreequery;IIII)I"⟩
theorem dL_step_0 : decode cL_step 0 = .ok (.aload_n 0, 1) := by decide +kernel
theorem dL_step_1 : decode cL_step 1 = .ok (.iload_n 1, 1) := by decide +kernel
theorem dL_step_2 : decode cL_step 2 = .ok (.iload_n 2, 1) := by decide +kernel
theorem dL_step_3 : decode cL_step 3 = .ok (.iload_n 3, 1) := by decide +kernel
theorem dL_step_4 : decode cL_step 4 = .ok (.iload 4, 2) := by decide +kernel
theorem dL_step_6 : decode cL_step 6 = .ok (.invokevirtual 73, 3) := by decide +kernel
theorem dL_step_9 : decode cL_step 9 = .ok (.ireturn, 1) := by decide +kernel
theorem dL_step_10 : decode cL_step 10 = .ok (.astore 5, 2) := by decide +kernel
theorem dL_step_12 : decode cL_step 12 = .ok (.ldc 15, 2) := by decide +kernel
theorem dL_step_14 : decode cL_step 14 = .ok (.ireturn, 1) := by decide +kernel
theorem dL_step_15 : decode cL_step 15 = .ok (.astore 5, 2) := by decide +kernel
theorem dL_step_17 : decode cL_step 17 = .ok (.ldc 18, 2) := by decide +kernel
theorem dL_step_19 : decode cL_step 19 = .ok (.ireturn, 1) := by decide +kernel
theorem dL_step_20 : decode cL_step 20 = .ok (.astore 5, 2) := by decide +kernel
theorem dL_step_22 : decode cL_step 22 = .ok (.ldc 21, 2) := by decide +kernel
theorem dL_step_24 : decode cL_step 24 = .ok (.ireturn, 1) := by decide +kernel
abbrev cL_place : ByteArray := method_20_code
def yL_place : MethodName := ⟨RL, "place", "(LTreequery;III)I"⟩
theorem dL_place_0 : decode cL_place 0 = .ok (.aload_n 0, 1) := by decide +kernel
theorem dL_place_1 : decode cL_place 1 = .ok (.iload_n 1, 1) := by decide +kernel
theorem dL_place_2 : decode cL_place 2 = .ok (.iload_n 2, 1) := by decide +kernel
theorem dL_place_3 : decode cL_place 3 = .ok (.iload_n 3, 1) := by decide +kernel
theorem dL_place_4 : decode cL_place 4 = .ok (.invokevirtual 77, 3) := by decide +kernel
theorem dL_place_7 : decode cL_place 7 = .ok (.ireturn, 1) := by decide +kernel
theorem dL_place_8 : decode cL_place 8 = .ok (.astore 4, 2) := by decide +kernel
theorem dL_place_10 : decode cL_place 10 = .ok (.ldc 15, 2) := by decide +kernel
theorem dL_place_12 : decode cL_place 12 = .ok (.ireturn, 1) := by decide +kernel
theorem dL_place_13 : decode cL_place 13 = .ok (.astore 4, 2) := by decide +kernel
theorem dL_place_15 : decode cL_place 15 = .ok (.ldc 18, 2) := by decide +kernel
theorem dL_place_17 : decode cL_place 17 = .ok (.ireturn, 1) := by decide +kernel
theorem dL_place_18 : decode cL_place 18 = .ok (.astore 4, 2) := by decide +kernel
theorem dL_place_20 : decode cL_place 20 = .ok (.ldc 21, 2) := by decide +kernel
theorem dL_place_22 : decode cL_place 22 = .ok (.ireturn, 1) := by decide +kernel
abbrev cL_last : ByteArray := method_21_code
def yL_last : MethodName := ⟨RL, "last", "(LTreequery;I)I"⟩
theorem dL_last_0 : decode cL_last 0 = .ok (.aload_n 0, 1) := by decide +kernel
theorem dL_last_1 : decode cL_last 1 = .ok (.iload_n 1, 1) := by decide +kernel
theorem dL_last_2 : decode cL_last 2 = .ok (.invokevirtual 80, 3) := by decide +kernel
theorem dL_last_5 : decode cL_last 5 = .ok (.ireturn, 1) := by decide +kernel
theorem dL_last_6 : decode cL_last 6 = .ok (.astore_n 2, 1) := by decide +kernel
theorem dL_last_7 : decode cL_last 7 = .ok (.ldc 15, 2) := by decide +kernel
theorem dL_last_9 : decode cL_last 9 = .ok (.ireturn, 1) := by decide +kernel
theorem dL_last_10 : decode cL_last 10 = .ok (.astore_n 2, 1) := by decide +kernel
theorem dL_last_11 : decode cL_last 11 = .ok (.ldc 21, 2) := by decide +kernel
theorem dL_last_13 : decode cL_last 13 = .ok (.ireturn, 1) := by decide +kernel
abbrev cL_has : ByteArray := method_22_code
def yL_has : MethodName := ⟨RL, "has", "(LTreequery;IIZ)I"⟩
theorem dL_has_0 : decode cL_has 0 = .ok (.aload_n 0, 1) := by decide +kernel
theorem dL_has_1 : decode cL_has 1 = .ok (.iload_n 1, 1) := by decide +kernel
theorem dL_has_2 : decode cL_has 2 = .ok (.iload_n 2, 1) := by decide +kernel
theorem dL_has_3 : decode cL_has 3 = .ok (.iload_n 3, 1) := by decide +kernel
theorem dL_has_4 : decode cL_has 4 = .ok (.invokevirtual 83, 3) := by decide +kernel
theorem dL_has_7 : decode cL_has 7 = .ok (.ireturn, 1) := by decide +kernel
theorem dL_has_8 : decode cL_has 8 = .ok (.astore 4, 2) := by decide +kernel
theorem dL_has_10 : decode cL_has 10 = .ok (.ldc 15, 2) := by decide +kernel
theorem dL_has_12 : decode cL_has 12 = .ok (.ireturn, 1) := by decide +kernel
theorem dL_has_13 : decode cL_has 13 = .ok (.astore 4, 2) := by decide +kernel
theorem dL_has_15 : decode cL_has 15 = .ok (.ldc 21, 2) := by decide +kernel
theorem dL_has_17 : decode cL_has 17 = .ok (.ireturn, 1) := by decide +kernel
abbrev cL_worth : ByteArray := method_23_code
def yL_worth : MethodName := ⟨RL, "worth", "(LTreequery;IIII)I"⟩
theorem dL_worth_0 : decode cL_worth 0 = .ok (.aload_n 0, 1) := by decide +kernel
theorem dL_worth_1 : decode cL_worth 1 = .ok (.iload_n 1, 1) := by decide +kernel
theorem dL_worth_2 : decode cL_worth 2 = .ok (.iload_n 2, 1) := by decide +kernel
theorem dL_worth_3 : decode cL_worth 3 = .ok (.iload_n 3, 1) := by decide +kernel
theorem dL_worth_4 : decode cL_worth 4 = .ok (.iload 4, 2) := by decide +kernel
theorem dL_worth_6 : decode cL_worth 6 = .ok (.invokevirtual 87, 3) := by decide +kernel
theorem dL_worth_9 : decode cL_worth 9 = .ok (.ireturn, 1) := by decide +kernel
theorem dL_worth_10 : decode cL_worth 10 = .ok (.astore 5, 2) := by decide +kernel
theorem dL_worth_12 : decode cL_worth 12 = .ok (.ldc 15, 2) := by decide +kernel
theorem dL_worth_14 : decode cL_worth 14 = .ok (.ireturn, 1) := by decide +kernel
theorem dL_worth_15 : decode cL_worth 15 = .ok (.astore 5, 2) := by decide +kernel
theorem dL_worth_17 : decode cL_worth 17 = .ok (.ldc 18, 2) := by decide +kernel
theorem dL_worth_19 : decode cL_worth 19 = .ok (.ireturn, 1) := by decide +kernel
theorem dL_worth_20 : decode cL_worth 20 = .ok (.astore 5, 2) := by decide +kernel
theorem dL_worth_22 : decode cL_worth 22 = .ok (.ldc 21, 2) := by decide +kernel
theorem dL_worth_24 : decode cL_worth 24 = .ok (.ireturn, 1) := by decide +kernel
abbrev cL_found : ByteArray := method_24_code
def yL_found : MethodName := ⟨RL, "found", "(LTreequery;II)I"⟩
theorem dL_found_0 : decode cL_found 0 = .ok (.aload_n 0, 1) := by decide +kernel
theorem dL_found_1 : decode cL_found 1 = .ok (.iload_n 1, 1) := by decide +kernel
theorem dL_found_2 : decode cL_found 2 = .ok (.iload_n 2, 1) := by decide +kernel
theorem dL_found_3 : decode cL_found 3 = .ok (.invokevirtual 90, 3) := by decide +kernel
theorem dL_found_6 : decode cL_found 6 = .ok (.ireturn, 1) := by decide +kernel
theorem dL_found_7 : decode cL_found 7 = .ok (.astore_n 3, 1) := by decide +kernel
theorem dL_found_8 : decode cL_found 8 = .ok (.ldc 15, 2) := by decide +kernel
theorem dL_found_10 : decode cL_found 10 = .ok (.ireturn, 1) := by decide +kernel
abbrev cL_foundAnew : ByteArray := method_25_code
def yL_foundAnew : MethodName := ⟨RL, "foundAnew", "(LTreequery;II)I"⟩
theorem dL_foundAnew_0 : decode cL_foundAnew 0 = .ok (.aload_n 0, 1) := by decide +kernel
theorem dL_foundAnew_1 : decode cL_foundAnew 1 = .ok (.iload_n 1, 1) := by decide +kernel
theorem dL_foundAnew_2 : decode cL_foundAnew 2 = .ok (.iload_n 2, 1) := by decide +kernel
theorem dL_foundAnew_3 : decode cL_foundAnew 3 = .ok (.invokevirtual 93, 3) := by decide +kernel
theorem dL_foundAnew_6 : decode cL_foundAnew 6 = .ok (.ireturn, 1) := by decide +kernel
theorem dL_foundAnew_7 : decode cL_foundAnew 7 = .ok (.astore_n 3, 1) := by decide +kernel
theorem dL_foundAnew_8 : decode cL_foundAnew 8 = .ok (.ldc 15, 2) := by decide +kernel
theorem dL_foundAnew_10 : decode cL_foundAnew 10 = .ok (.ireturn, 1) := by decide +kernel
abbrev cL_foundAt : ByteArray := method_26_code
def yL_foundAt : MethodName := ⟨RL, "foundAt", "(LTreequery;II)I"⟩
theorem dL_foundAt_0 : decode cL_foundAt 0 = .ok (.aload_n 0, 1) := by decide +kernel
theorem dL_foundAt_1 : decode cL_foundAt 1 = .ok (.iload_n 1, 1) := by decide +kernel
theorem dL_foundAt_2 : decode cL_foundAt 2 = .ok (.iload_n 2, 1) := by decide +kernel
theorem dL_foundAt_3 : decode cL_foundAt 3 = .ok (.invokevirtual 96, 3) := by decide +kernel
theorem dL_foundAt_6 : decode cL_foundAt 6 = .ok (.ireturn, 1) := by decide +kernel
theorem dL_foundAt_7 : decode cL_foundAt 7 = .ok (.astore_n 3, 1) := by decide +kernel
theorem dL_foundAt_8 : decode cL_foundAt 8 = .ok (.ldc 15, 2) := by decide +kernel
theorem dL_foundAt_10 : decode cL_foundAt 10 = .ok (.ireturn, 1) := by decide +kernel
abbrev cL_ordered : ByteArray := method_27_code
def yL_ordered : MethodName := ⟨RL, "ordered", "(LTreequery;II)I"⟩
theorem dL_ordered_0 : decode cL_ordered 0 = .ok (.aload_n 0, 1) := by decide +kernel
theorem dL_ordered_1 : decode cL_ordered 1 = .ok (.iload_n 1, 1) := by decide +kernel
theorem dL_ordered_2 : decode cL_ordered 2 = .ok (.iload_n 2, 1) := by decide +kernel
theorem dL_ordered_3 : decode cL_ordered 3 = .ok (.invokevirtual 99, 3) := by decide +kernel
theorem dL_ordered_6 : decode cL_ordered 6 = .ok (.ireturn, 1) := by decide +kernel
theorem dL_ordered_7 : decode cL_ordered 7 = .ok (.astore_n 3, 1) := by decide +kernel
theorem dL_ordered_8 : decode cL_ordered 8 = .ok (.ldc 15, 2) := by decide +kernel
theorem dL_ordered_10 : decode cL_ordered 10 = .ok (.ireturn, 1) := by decide +kernel
abbrev cL_groups : ByteArray := method_28_code
def yL_groups : MethodName := ⟨RL, "groups", "(LTreequery;I)I"⟩
theorem dL_groups_0 : decode cL_groups 0 = .ok (.aload_n 0, 1) := by decide +kernel
theorem dL_groups_1 : decode cL_groups 1 = .ok (.iload_n 1, 1) := by decide +kernel
theorem dL_groups_2 : decode cL_groups 2 = .ok (.invokevirtual 102, 3) := by decide +kernel
theorem dL_groups_5 : decode cL_groups 5 = .ok (.ireturn, 1) := by decide +kernel
theorem dL_groups_6 : decode cL_groups 6 = .ok (.astore_n 2, 1) := by decide +kernel
theorem dL_groups_7 : decode cL_groups 7 = .ok (.ldc 15, 2) := by decide +kernel
theorem dL_groups_9 : decode cL_groups 9 = .ok (.ireturn, 1) := by decide +kernel
abbrev cL_nameType : ByteArray := method_29_code
def yL_nameType : MethodName := ⟨RL, "nameType", "(LTreequery;II)I"⟩
theorem dL_nameType_0 : decode cL_nameType 0 = .ok (.aload_n 0, 1) := by decide +kernel
theorem dL_nameType_1 : decode cL_nameType 1 = .ok (.iload_n 1, 1) := by decide +kernel
theorem dL_nameType_2 : decode cL_nameType 2 = .ok (.iload_n 2, 1) := by decide +kernel
theorem dL_nameType_3 : decode cL_nameType 3 = .ok (.invokevirtual 105, 3) := by decide +kernel
theorem dL_nameType_6 : decode cL_nameType 6 = .ok (.ireturn, 1) := by decide +kernel
theorem dL_nameType_7 : decode cL_nameType 7 = .ok (.astore_n 3, 1) := by decide +kernel
theorem dL_nameType_8 : decode cL_nameType 8 = .ok (.ldc 15, 2) := by decide +kernel
theorem dL_nameType_10 : decode cL_nameType 10 = .ok (.ireturn, 1) := by decide +kernel
theorem dL_nameType_11 : decode cL_nameType 11 = .ok (.astore_n 3, 1) := by decide +kernel
theorem dL_nameType_12 : decode cL_nameType 12 = .ok (.ldc 18, 2) := by decide +kernel
theorem dL_nameType_14 : decode cL_nameType 14 = .ok (.ireturn, 1) := by decide +kernel
theorem dL_nameType_15 : decode cL_nameType 15 = .ok (.astore_n 3, 1) := by decide +kernel
theorem dL_nameType_16 : decode cL_nameType 16 = .ok (.ldc 21, 2) := by decide +kernel
theorem dL_nameType_18 : decode cL_nameType 18 = .ok (.ireturn, 1) := by decide +kernel
abbrev cL_arc : ByteArray := method_30_code
def yL_arc : MethodName := ⟨RL, "arc", "(LTreequery;IIII)I"⟩
theorem dL_arc_0 : decode cL_arc 0 = .ok (.aload_n 0, 1) := by decide +kernel
theorem dL_arc_1 : decode cL_arc 1 = .ok (.iload_n 1, 1) := by decide +kernel
theorem dL_arc_2 : decode cL_arc 2 = .ok (.iload_n 2, 1) := by decide +kernel
theorem dL_arc_3 : decode cL_arc 3 = .ok (.iload_n 3, 1) := by decide +kernel
theorem dL_arc_4 : decode cL_arc 4 = .ok (.iload 4, 2) := by decide +kernel
theorem dL_arc_6 : decode cL_arc 6 = .ok (.invokevirtual 108, 3) := by decide +kernel
theorem dL_arc_9 : decode cL_arc 9 = .ok (.ifCond .eq 7, 3) := by decide +kernel
theorem dL_arc_12 : decode cL_arc 12 = .ok (.iconst 1, 1) := by decide +kernel
theorem dL_arc_13 : decode cL_arc 13 = .ok (.goto 4, 3) := by decide +kernel
theorem dL_arc_16 : decode cL_arc 16 = .ok (.iconst 0, 1) := by decide +kernel
theorem dL_arc_17 : decode cL_arc 17 = .ok (.ireturn, 1) := by decide +kernel
theorem dL_arc_18 : decode cL_arc 18 = .ok (.astore 5, 2) := by decide +kernel
theorem dL_arc_20 : decode cL_arc 20 = .ok (.ldc 15, 2) := by decide +kernel
theorem dL_arc_22 : decode cL_arc 22 = .ok (.ireturn, 1) := by decide +kernel
theorem dL_arc_23 : decode cL_arc 23 = .ok (.astore 5, 2) := by decide +kernel
theorem dL_arc_25 : decode cL_arc 25 = .ok (.ldc 21, 2) := by decide +kernel
theorem dL_arc_27 : decode cL_arc 27 = .ok (.ireturn, 1) := by decide +kernel
abbrev cL_fin : ByteArray := method_31_code
def yL_fin : MethodName := ⟨RL, "fin", "(LTreequery;IIZ)I"⟩
theorem dL_fin_0 : decode cL_fin 0 = .ok (.aload_n 0, 1) := by decide +kernel
theorem dL_fin_1 : decode cL_fin 1 = .ok (.iload_n 1, 1) := by decide +kernel
theorem dL_fin_2 : decode cL_fin 2 = .ok (.iload_n 2, 1) := by decide +kernel
theorem dL_fin_3 : decode cL_fin 3 = .ok (.iload_n 3, 1) := by decide +kernel
theorem dL_fin_4 : decode cL_fin 4 = .ok (.invokevirtual 112, 3) := by decide +kernel
theorem dL_fin_7 : decode cL_fin 7 = .ok (.ifCond .eq 7, 3) := by decide +kernel
theorem dL_fin_10 : decode cL_fin 10 = .ok (.iconst 1, 1) := by decide +kernel
theorem dL_fin_11 : decode cL_fin 11 = .ok (.goto 4, 3) := by decide +kernel
theorem dL_fin_14 : decode cL_fin 14 = .ok (.iconst 0, 1) := by decide +kernel
theorem dL_fin_15 : decode cL_fin 15 = .ok (.ireturn, 1) := by decide +kernel
theorem dL_fin_16 : decode cL_fin 16 = .ok (.astore 4, 2) := by decide +kernel
theorem dL_fin_18 : decode cL_fin 18 = .ok (.ldc 15, 2) := by decide +kernel
theorem dL_fin_20 : decode cL_fin 20 = .ok (.ireturn, 1) := by decide +kernel
theorem dL_fin_21 : decode cL_fin 21 = .ok (.astore 4, 2) := by decide +kernel
theorem dL_fin_23 : decode cL_fin 23 = .ok (.ldc 21, 2) := by decide +kernel
theorem dL_fin_25 : decode cL_fin 25 = .ok (.ireturn, 1) := by decide +kernel
abbrev cL_texts : ByteArray := method_32_code
def yL_texts : MethodName := ⟨RL, "texts", "(LTreequery;IZ)I"⟩
theorem dL_texts_0 : decode cL_texts 0 = .ok (.aload_n 0, 1) := by decide +kernel
theorem dL_texts_1 : decode cL_texts 1 = .ok (.iload_n 1, 1) := by decide +kernel
theorem dL_texts_2 : decode cL_texts 2 = .ok (.iload_n 2, 1) := by decide +kernel
theorem dL_texts_3 : decode cL_texts 3 = .ok (.invokevirtual 116, 3) := by decide +kernel
theorem dL_texts_6 : decode cL_texts 6 = .ok (.ifCond .eq 7, 3) := by decide +kernel
theorem dL_texts_9 : decode cL_texts 9 = .ok (.iconst 1, 1) := by decide +kernel
theorem dL_texts_10 : decode cL_texts 10 = .ok (.goto 4, 3) := by decide +kernel
theorem dL_texts_13 : decode cL_texts 13 = .ok (.iconst 0, 1) := by decide +kernel
theorem dL_texts_14 : decode cL_texts 14 = .ok (.ireturn, 1) := by decide +kernel
theorem dL_texts_15 : decode cL_texts 15 = .ok (.astore_n 3, 1) := by decide +kernel
theorem dL_texts_16 : decode cL_texts 16 = .ok (.ldc 15, 2) := by decide +kernel
theorem dL_texts_18 : decode cL_texts 18 = .ok (.ireturn, 1) := by decide +kernel
theorem dL_texts_19 : decode cL_texts 19 = .ok (.astore_n 3, 1) := by decide +kernel
theorem dL_texts_20 : decode cL_texts 20 = .ok (.ldc 21, 2) := by decide +kernel
theorem dL_texts_22 : decode cL_texts 22 = .ok (.ireturn, 1) := by decide +kernel
abbrev cL_says : ByteArray := method_33_code
def yL_says : MethodName := ⟨RL, "says", "(LTreequery;III)I"⟩
theorem dL_says_0 : decode cL_says 0 = .ok (.aload_n 0, 1) := by decide +kernel
theorem dL_says_1 : decode cL_says 1 = .ok (.iload_n 1, 1) := by decide +kernel
theorem dL_says_2 : decode cL_says 2 = .ok (.iload_n 2, 1) := by decide +kernel
theorem dL_says_3 : decode cL_says 3 = .ok (.iload_n 3, 1) := by decide +kernel
theorem dL_says_4 : decode cL_says 4 = .ok (.invokevirtual 120, 3) := by decide +kernel
theorem dL_says_7 : decode cL_says 7 = .ok (.ireturn, 1) := by decide +kernel
theorem dL_says_8 : decode cL_says 8 = .ok (.astore 4, 2) := by decide +kernel
theorem dL_says_10 : decode cL_says 10 = .ok (.ldc 15, 2) := by decide +kernel
theorem dL_says_12 : decode cL_says 12 = .ok (.ireturn, 1) := by decide +kernel
theorem dL_says_13 : decode cL_says 13 = .ok (.astore 4, 2) := by decide +kernel
theorem dL_says_15 : decode cL_says 15 = .ok (.ldc 18, 2) := by decide +kernel
theorem dL_says_17 : decode cL_says 17 = .ok (.ireturn, 1) := by decide +kernel
theorem dL_says_18 : decode cL_says 18 = .ok (.astore 4, 2) := by decide +kernel
theorem dL_says_20 : decode cL_says 20 = .ok (.ldc 21, 2) := by decide +kernel
theorem dL_says_22 : decode cL_says 22 = .ok (.ireturn, 1) := by decide +kernel
abbrev cL_strict : ByteArray := method_34_code
def yL_strict : MethodName := ⟨RL, "strict", "(LTreequery;Z)I"⟩
theorem dL_strict_0 : decode cL_strict 0 = .ok (.aload_n 0, 1) := by decide +kernel
theorem dL_strict_1 : decode cL_strict 1 = .ok (.iload_n 1, 1) := by decide +kernel
theorem dL_strict_2 : decode cL_strict 2 = .ok (.invokevirtual 123, 3) := by decide +kernel
theorem dL_strict_5 : decode cL_strict 5 = .ok (.ifCond .eq 7, 3) := by decide +kernel
theorem dL_strict_8 : decode cL_strict 8 = .ok (.iconst 1, 1) := by decide +kernel
theorem dL_strict_9 : decode cL_strict 9 = .ok (.goto 4, 3) := by decide +kernel
theorem dL_strict_12 : decode cL_strict 12 = .ok (.iconst 0, 1) := by decide +kernel
theorem dL_strict_13 : decode cL_strict 13 = .ok (.ireturn, 1) := by decide +kernel
theorem dL_strict_14 : decode cL_strict 14 = .ok (.astore_n 2, 1) := by decide +kernel
theorem dL_strict_15 : decode cL_strict 15 = .ok (.ldc 21, 2) := by decide +kernel
theorem dL_strict_17 : decode cL_strict 17 = .ok (.ireturn, 1) := by decide +kernel
abbrev cL_types : ByteArray := method_35_code
def yL_types : MethodName := ⟨RL, "types", "(LTreequery;I)I"⟩
theorem dL_types_0 : decode cL_types 0 = .ok (.aload_n 0, 1) := by decide +kernel
theorem dL_types_1 : decode cL_types 1 = .ok (.iload_n 1, 1) := by decide +kernel
theorem dL_types_2 : decode cL_types 2 = .ok (.invokevirtual 127, 3) := by decide +kernel
theorem dL_types_5 : decode cL_types 5 = .ok (.ireturn, 1) := by decide +kernel
theorem dL_types_6 : decode cL_types 6 = .ok (.astore_n 2, 1) := by decide +kernel
theorem dL_types_7 : decode cL_types 7 = .ok (.ldc 15, 2) := by decide +kernel
theorem dL_types_9 : decode cL_types 9 = .ok (.ireturn, 1) := by decide +kernel
abbrev cL_infer : ByteArray := method_36_code
def yL_infer : MethodName := ⟨RL, "infer", "(LTreequery;I)I"⟩
theorem dL_infer_0 : decode cL_infer 0 = .ok (.aload_n 0, 1) := by decide +kernel
theorem dL_infer_1 : decode cL_infer 1 = .ok (.iload_n 1, 1) := by decide +kernel
theorem dL_infer_2 : decode cL_infer 2 = .ok (.invokevirtual 130, 3) := by decide +kernel
theorem dL_infer_5 : decode cL_infer 5 = .ok (.ireturn, 1) := by decide +kernel
theorem dL_infer_6 : decode cL_infer 6 = .ok (.astore_n 2, 1) := by decide +kernel
theorem dL_infer_7 : decode cL_infer 7 = .ok (.ldc 15, 2) := by decide +kernel
theorem dL_infer_9 : decode cL_infer 9 = .ok (.ireturn, 1) := by decide +kernel
abbrev cL_index : ByteArray := method_37_code
def yL_index : MethodName := ⟨RL, "index", "(LTreequery;I)I"⟩
theorem dL_index_0 : decode cL_index 0 = .ok (.aload_n 0, 1) := by decide +kernel
theorem dL_index_1 : decode cL_index 1 = .ok (.iload_n 1, 1) := by decide +kernel
theorem dL_index_2 : decode cL_index 2 = .ok (.invokevirtual 133, 3) := by decide +kernel
theorem dL_index_5 : decode cL_index 5 = .ok (.ifCond .eq 7, 3) := by decide +kernel
theorem dL_index_8 : decode cL_index 8 = .ok (.iconst 1, 1) := by decide +kernel
theorem dL_index_9 : decode cL_index 9 = .ok (.goto 4, 3) := by decide +kernel
theorem dL_index_12 : decode cL_index 12 = .ok (.iconst 0, 1) := by decide +kernel
theorem dL_index_13 : decode cL_index 13 = .ok (.ireturn, 1) := by decide +kernel
theorem dL_index_14 : decode cL_index 14 = .ok (.astore_n 2, 1) := by decide +kernel
theorem dL_index_15 : decode cL_index 15 = .ok (.ldc 18, 2) := by decide +kernel
theorem dL_index_17 : decode cL_index 17 = .ok (.ireturn, 1) := by decide +kernel
abbrev cL_plan : ByteArray := method_38_code
def yL_plan : MethodName := ⟨RL, "plan", "(LTreequery;I)I"⟩
theorem dL_plan_0 : decode cL_plan 0 = .ok (.aload_n 0, 1) := by decide +kernel
theorem dL_plan_1 : decode cL_plan 1 = .ok (.iload_n 1, 1) := by decide +kernel
theorem dL_plan_2 : decode cL_plan 2 = .ok (.invokevirtual 137, 3) := by decide +kernel
theorem dL_plan_5 : decode cL_plan 5 = .ok (.ireturn, 1) := by decide +kernel
theorem dL_plan_6 : decode cL_plan 6 = .ok (.astore_n 2, 1) := by decide +kernel
theorem dL_plan_7 : decode cL_plan 7 = .ok (.ldc 15, 2) := by decide +kernel
theorem dL_plan_9 : decode cL_plan 9 = .ok (.ireturn, 1) := by decide +kernel
abbrev cL_view : ByteArray := method_39_code
def yL_view : MethodName := ⟨RL, "view", "(LTreequery;I)I"⟩
theorem dL_view_0 : decode cL_view 0 = .ok (.aload_n 0, 1) := by decide +kernel
theorem dL_view_1 : decode cL_view 1 = .ok (.iload_n 1, 1) := by decide +kernel
theorem dL_view_2 : decode cL_view 2 = .ok (.invokevirtual 140, 3) := by decide +kernel
theorem dL_view_5 : decode cL_view 5 = .ok (.ireturn, 1) := by decide +kernel
theorem dL_view_6 : decode cL_view 6 = .ok (.astore_n 2, 1) := by decide +kernel
theorem dL_view_7 : decode cL_view 7 = .ok (.ldc 15, 2) := by decide +kernel
theorem dL_view_9 : decode cL_view 9 = .ok (.ireturn, 1) := by decide +kernel
theorem dL_view_10 : decode cL_view 10 = .ok (.astore_n 2, 1) := by decide +kernel
theorem dL_view_11 : decode cL_view 11 = .ok (.ldc 21, 2) := by decide +kernel
theorem dL_view_13 : decode cL_view 13 = .ok (.ireturn, 1) := by decide +kernel
abbrev cL_viewed : ByteArray := method_40_code
def yL_viewed : MethodName := ⟨RL, "viewed", "(LTreequery;II)I"⟩
theorem dL_viewed_0 : decode cL_viewed 0 = .ok (.aload_n 0, 1) := by decide +kernel
theorem dL_viewed_1 : decode cL_viewed 1 = .ok (.iload_n 1, 1) := by decide +kernel
theorem dL_viewed_2 : decode cL_viewed 2 = .ok (.iload_n 2, 1) := by decide +kernel
theorem dL_viewed_3 : decode cL_viewed 3 = .ok (.invokevirtual 143, 3) := by decide +kernel
theorem dL_viewed_6 : decode cL_viewed 6 = .ok (.ireturn, 1) := by decide +kernel
theorem dL_viewed_7 : decode cL_viewed 7 = .ok (.astore_n 3, 1) := by decide +kernel
theorem dL_viewed_8 : decode cL_viewed 8 = .ok (.ldc 15, 2) := by decide +kernel
theorem dL_viewed_10 : decode cL_viewed 10 = .ok (.ireturn, 1) := by decide +kernel
abbrev cL_changed : ByteArray := method_41_code
def yL_changed : MethodName := ⟨RL, "changed", "(LTreequery;I)I"⟩
theorem dL_changed_0 : decode cL_changed 0 = .ok (.aload_n 0, 1) := by decide +kernel
theorem dL_changed_1 : decode cL_changed 1 = .ok (.iload_n 1, 1) := by decide +kernel
theorem dL_changed_2 : decode cL_changed 2 = .ok (.invokevirtual 146, 3) := by decide +kernel
theorem dL_changed_5 : decode cL_changed 5 = .ok (.ireturn, 1) := by decide +kernel
theorem dL_changed_6 : decode cL_changed 6 = .ok (.astore_n 2, 1) := by decide +kernel
theorem dL_changed_7 : decode cL_changed 7 = .ok (.ldc 15, 2) := by decide +kernel
theorem dL_changed_9 : decode cL_changed 9 = .ok (.ireturn, 1) := by decide +kernel
abbrev cL_ranked : ByteArray := method_42_code
def yL_ranked : MethodName := ⟨RL, "ranked", "(LTreequery;II)I"⟩
theorem dL_ranked_0 : decode cL_ranked 0 = .ok (.aload_n 0, 1) := by decide +kernel
theorem dL_ranked_1 : decode cL_ranked 1 = .ok (.iload_n 1, 1) := by decide +kernel
theorem dL_ranked_2 : decode cL_ranked 2 = .ok (.iload_n 2, 1) := by decide +kernel
theorem dL_ranked_3 : decode cL_ranked 3 = .ok (.invokevirtual 149, 3) := by decide +kernel
theorem dL_ranked_6 : decode cL_ranked 6 = .ok (.ireturn, 1) := by decide +kernel
theorem dL_ranked_7 : decode cL_ranked 7 = .ok (.astore_n 3, 1) := by decide +kernel
theorem dL_ranked_8 : decode cL_ranked 8 = .ok (.ldc 15, 2) := by decide +kernel
theorem dL_ranked_10 : decode cL_ranked 10 = .ok (.ireturn, 1) := by decide +kernel
theorem dL_ranked_11 : decode cL_ranked 11 = .ok (.astore_n 3, 1) := by decide +kernel
theorem dL_ranked_12 : decode cL_ranked 12 = .ok (.ldc 18, 2) := by decide +kernel
theorem dL_ranked_14 : decode cL_ranked 14 = .ok (.ireturn, 1) := by decide +kernel
abbrev cL_keep : ByteArray := method_43_code
def yL_keep : MethodName := ⟨RL, "keep", "(LTreequery;)I"⟩
theorem dL_keep_0 : decode cL_keep 0 = .ok (.aload_n 0, 1) := by decide +kernel
theorem dL_keep_1 : decode cL_keep 1 = .ok (.invokevirtual 152, 3) := by decide +kernel
theorem dL_keep_4 : decode cL_keep 4 = .ok (.ireturn, 1) := by decide +kernel
theorem dL_keep_5 : decode cL_keep 5 = .ok (.astore_n 1, 1) := by decide +kernel
theorem dL_keep_6 : decode cL_keep 6 = .ok (.ldc 21, 2) := by decide +kernel
theorem dL_keep_8 : decode cL_keep 8 = .ok (.ireturn, 1) := by decide +kernel
abbrev cL_take : ByteArray := method_44_code
def yL_take : MethodName := ⟨RL, "take", "(LTreequery;I)I"⟩
theorem dL_take_0 : decode cL_take 0 = .ok (.aload_n 0, 1) := by decide +kernel
theorem dL_take_1 : decode cL_take 1 = .ok (.iload_n 1, 1) := by decide +kernel
theorem dL_take_2 : decode cL_take 2 = .ok (.invokevirtual 155, 3) := by decide +kernel
theorem dL_take_5 : decode cL_take 5 = .ok (.ireturn, 1) := by decide +kernel
theorem dL_take_6 : decode cL_take 6 = .ok (.astore_n 2, 1) := by decide +kernel
theorem dL_take_7 : decode cL_take 7 = .ok (.ldc 15, 2) := by decide +kernel
theorem dL_take_9 : decode cL_take 9 = .ok (.ireturn, 1) := by decide +kernel
theorem dL_take_10 : decode cL_take 10 = .ok (.astore_n 2, 1) := by decide +kernel
theorem dL_take_11 : decode cL_take 11 = .ok (.ldc 21, 2) := by decide +kernel
theorem dL_take_13 : decode cL_take 13 = .ok (.ireturn, 1) := by decide +kernel
abbrev cL_distance : ByteArray := method_45_code
def yL_distance : MethodName := ⟨RL, "distance", "(LTreequery;II)I"⟩
theorem dL_distance_0 : decode cL_distance 0 = .ok (.aload_n 0, 1) := by decide +kernel
theorem dL_distance_1 : decode cL_distance 1 = .ok (.iload_n 1, 1) := by decide +kernel
theorem dL_distance_2 : decode cL_distance 2 = .ok (.iload_n 2, 1) := by decide +kernel
theorem dL_distance_3 : decode cL_distance 3 = .ok (.invokevirtual 158, 3) := by decide +kernel
theorem dL_distance_6 : decode cL_distance 6 = .ok (.ireturn, 1) := by decide +kernel
theorem dL_distance_7 : decode cL_distance 7 = .ok (.astore_n 3, 1) := by decide +kernel
theorem dL_distance_8 : decode cL_distance 8 = .ok (.ldc 15, 2) := by decide +kernel
theorem dL_distance_10 : decode cL_distance 10 = .ok (.ireturn, 1) := by decide +kernel
abbrev cL_odds : ByteArray := method_46_code
def yL_odds : MethodName := ⟨RL, "odds", "(LTreequery;III)I"⟩
theorem dL_odds_0 : decode cL_odds 0 = .ok (.aload_n 0, 1) := by decide +kernel
theorem dL_odds_1 : decode cL_odds 1 = .ok (.iload_n 1, 1) := by decide +kernel
theorem dL_odds_2 : decode cL_odds 2 = .ok (.iload_n 2, 1) := by decide +kernel
theorem dL_odds_3 : decode cL_odds 3 = .ok (.iload_n 3, 1) := by decide +kernel
theorem dL_odds_4 : decode cL_odds 4 = .ok (.invokevirtual 161, 3) := by decide +kernel
theorem dL_odds_7 : decode cL_odds 7 = .ok (.ireturn, 1) := by decide +kernel
theorem dL_odds_8 : decode cL_odds 8 = .ok (.astore 4, 2) := by decide +kernel
theorem dL_odds_10 : decode cL_odds 10 = .ok (.ldc 15, 2) := by decide +kernel
theorem dL_odds_12 : decode cL_odds 12 = .ok (.ireturn, 1) := by decide +kernel
abbrev cL_hide : ByteArray := method_47_code
def yL_hide : MethodName := ⟨RL, "hide", "(LTreequery;I)I"⟩
theorem dL_hide_0 : decode cL_hide 0 = .ok (.aload_n 0, 1) := by decide +kernel
theorem dL_hide_1 : decode cL_hide 1 = .ok (.iload_n 1, 1) := by decide +kernel
theorem dL_hide_2 : decode cL_hide 2 = .ok (.invokevirtual 164, 3) := by decide +kernel
theorem dL_hide_5 : decode cL_hide 5 = .ok (.ifCond .eq 7, 3) := by decide +kernel
theorem dL_hide_8 : decode cL_hide 8 = .ok (.iconst 1, 1) := by decide +kernel
theorem dL_hide_9 : decode cL_hide 9 = .ok (.goto 4, 3) := by decide +kernel
theorem dL_hide_12 : decode cL_hide 12 = .ok (.iconst 0, 1) := by decide +kernel
theorem dL_hide_13 : decode cL_hide 13 = .ok (.ireturn, 1) := by decide +kernel
theorem dL_hide_14 : decode cL_hide 14 = .ok (.astore_n 2, 1) := by decide +kernel
theorem dL_hide_15 : decode cL_hide 15 = .ok (.ldc 15, 2) := by decide +kernel
theorem dL_hide_17 : decode cL_hide 17 = .ok (.ireturn, 1) := by decide +kernel
theorem dL_hide_18 : decode cL_hide 18 = .ok (.astore_n 2, 1) := by decide +kernel
theorem dL_hide_19 : decode cL_hide 19 = .ok (.ldc 21, 2) := by decide +kernel
theorem dL_hide_21 : decode cL_hide 21 = .ok (.ireturn, 1) := by decide +kernel
abbrev cL_seen : ByteArray := method_48_code
def yL_seen : MethodName := ⟨RL, "seen", "(LTreequery;I)I"⟩
theorem dL_seen_0 : decode cL_seen 0 = .ok (.aload_n 0, 1) := by decide +kernel
theorem dL_seen_1 : decode cL_seen 1 = .ok (.iload_n 1, 1) := by decide +kernel
theorem dL_seen_2 : decode cL_seen 2 = .ok (.invokevirtual 167, 3) := by decide +kernel
theorem dL_seen_5 : decode cL_seen 5 = .ok (.ifCond .eq 7, 3) := by decide +kernel
theorem dL_seen_8 : decode cL_seen 8 = .ok (.iconst 1, 1) := by decide +kernel
theorem dL_seen_9 : decode cL_seen 9 = .ok (.goto 4, 3) := by decide +kernel
theorem dL_seen_12 : decode cL_seen 12 = .ok (.iconst 0, 1) := by decide +kernel
theorem dL_seen_13 : decode cL_seen 13 = .ok (.ireturn, 1) := by decide +kernel
theorem dL_seen_14 : decode cL_seen 14 = .ok (.astore_n 2, 1) := by decide +kernel
theorem dL_seen_15 : decode cL_seen 15 = .ok (.ldc 15, 2) := by decide +kernel
theorem dL_seen_17 : decode cL_seen 17 = .ok (.ireturn, 1) := by decide +kernel
abbrev cL_drawn : ByteArray := method_49_code
def yL_drawn : MethodName := ⟨RL, "drawn", "([II)I"⟩
theorem dL_drawn_0 : decode cL_drawn 0 = .ok (.iload_n 1, 1) := by decide +kernel
theorem dL_drawn_1 : decode cL_drawn 1 = .ok (.aload_n 0, 1) := by decide +kernel
theorem dL_drawn_2 : decode cL_drawn 2 = .ok (.arraylength, 1) := by decide +kernel
theorem dL_drawn_3 : decode cL_drawn 3 = .ok (.if_icmp .ge 9, 3) := by decide +kernel
theorem dL_drawn_6 : decode cL_drawn 6 = .ok (.aload_n 0, 1) := by decide +kernel
theorem dL_drawn_7 : decode cL_drawn 7 = .ok (.iload_n 1, 1) := by decide +kernel
theorem dL_drawn_8 : decode cL_drawn 8 = .ok (.iaload, 1) := by decide +kernel
theorem dL_drawn_9 : decode cL_drawn 9 = .ok (.goto 13, 3) := by decide +kernel
theorem dL_drawn_12 : decode cL_drawn 12 = .ok (.ldc 170, 2) := by decide +kernel
theorem dL_drawn_14 : decode cL_drawn 14 = .ok (.iload_n 1, 1) := by decide +kernel
theorem dL_drawn_15 : decode cL_drawn 15 = .ok (.iconst 3, 1) := by decide +kernel
theorem dL_drawn_16 : decode cL_drawn 16 = .ok (.iadd, 1) := by decide +kernel
theorem dL_drawn_17 : decode cL_drawn 17 = .ok (.imul, 1) := by decide +kernel
theorem dL_drawn_18 : decode cL_drawn 18 = .ok (.sipush 14249, 3) := by decide +kernel
theorem dL_drawn_21 : decode cL_drawn 21 = .ok (.iadd, 1) := by decide +kernel
theorem dL_drawn_22 : decode cL_drawn 22 = .ok (.ldc 171, 2) := by decide +kernel
theorem dL_drawn_24 : decode cL_drawn 24 = .ok (.iand, 1) := by decide +kernel
theorem dL_drawn_25 : decode cL_drawn 25 = .ok (.ireturn, 1) := by decide +kernel
theorem tk_RL_7 : Cond.methodLink RL 7 yX10_insertElement ∈ tq_G := tq_g (i := 590) (by decide +kernel) rfl
theorem tk_RL_21 : Cond.constant RL 21 (-2000000003) ∈ tq_G := tq_g (i := 741) (by decide +kernel) rfl
theorem tk_RL_13 : Cond.classLink RL 13 "java/lang/IndexOutOfBoundsException" ∈ tq_G := tq_g (i := 587) (by decide +kernel) rfl
theorem tk_RL_16 : Cond.classLink RL 16 "java/lang/IllegalArgumentException" ∈ tq_G := tq_g (i := 588) (by decide +kernel) rfl
theorem tk_cast_IllegalStateException : Cond.castable "java/lang/IllegalStateException" "java/lang/IllegalStateException" ∈ tq_B := List.mem_filter.mpr ⟨List.mem_of_getElem? (i := 707) (by decide +kernel), rfl⟩
theorem tk_pass_L_element_2 : ∀ z ∈ ([⟨0, 7, 8, 13⟩, ⟨0, 7, 13, 16⟩] : List ExceptionTableEntry), z.catchType ≠ 0 ∧ ∃ nm : String, Cond.classLink RL z.catchType nm ∈ tq_G ∧ ("java/lang/IllegalStateException", nm) ∈ tq_nc := by
  intro z hz
  simp only [List.mem_cons, List.not_mem_nil, or_false] at hz
  rcases hz with rfl | rfl
  · exact ⟨by decide, _, tk_RL_13, by decide +kernel⟩
  · exact ⟨by decide, _, tk_RL_16, by decide +kernel⟩
theorem tk_y_X10_insertElement : tq_yok yX10_insertElement cX10_insertElement 4 (some .int) 3 := ⟨tq_g (i := 593) (by decide +kernel) rfl, tq_g (i := 53) (by decide +kernel) rfl, ⟨by decide +kernel, by decide +kernel⟩, by decide +kernel, by decide⟩
theorem tk_v_X10_insertElement : tq_vok yX10_insertElement := ⟨tq_g (i := 591) (by decide +kernel) rfl, tq_g (i := 592) (by decide +kernel) rfl⟩
theorem tk_RL_19 : Cond.classLink RL 19 "java/lang/IllegalStateException" ∈ tq_G := tq_g (i := 589) (by decide +kernel) rfl
theorem tk_RL_18 : Cond.constant RL 18 (-2000000002) ∈ tq_G := tq_g (i := 740) (by decide +kernel) rfl
theorem tk_cast_IllegalArgumentException : Cond.castable "java/lang/IllegalArgumentException" "java/lang/IllegalArgumentException" ∈ tq_B := List.mem_filter.mpr ⟨List.mem_of_getElem? (i := 686) (by decide +kernel), rfl⟩
theorem tk_pass_L_element_1 : ∀ z ∈ ([⟨0, 7, 8, 13⟩] : List ExceptionTableEntry), z.catchType ≠ 0 ∧ ∃ nm : String, Cond.classLink RL z.catchType nm ∈ tq_G ∧ ("java/lang/IllegalArgumentException", nm) ∈ tq_nc := by
  intro z hz
  simp only [List.mem_cons, List.not_mem_nil, or_false] at hz
  rcases hz with rfl
  · exact ⟨by decide, _, tk_RL_13, by decide +kernel⟩
theorem tk_RL_15 : Cond.constant RL 15 (-2000000001) ∈ tq_G := tq_g (i := 739) (by decide +kernel) rfl
theorem tk_cast_IndexOutOfBoundsException : Cond.castable "java/lang/IndexOutOfBoundsException" "java/lang/IndexOutOfBoundsException" ∈ tq_B := List.mem_filter.mpr ⟨List.mem_of_getElem? (i := 608) (by decide +kernel), rfl⟩
theorem tk_pass_L_element_0 : ∀ z ∈ ([] : List ExceptionTableEntry), z.catchType ≠ 0 ∧ ∃ nm : String, Cond.classLink RL z.catchType nm ∈ tq_G ∧ ("java/lang/IndexOutOfBoundsException", nm) ∈ tq_nc := by
  intro z hz
  cases hz
theorem tk_RL_22 : Cond.methodLink RL 22 yX10_insertText ∈ tq_G := tq_g (i := 1074) (by decide +kernel) rfl
theorem tk_pass_L_text_2 : ∀ z ∈ ([⟨0, 7, 8, 13⟩, ⟨0, 7, 13, 16⟩] : List ExceptionTableEntry), z.catchType ≠ 0 ∧ ∃ nm : String, Cond.classLink RL z.catchType nm ∈ tq_G ∧ ("java/lang/IllegalStateException", nm) ∈ tq_nc := by
  intro z hz
  simp only [List.mem_cons, List.not_mem_nil, or_false] at hz
  rcases hz with rfl | rfl
  · exact ⟨by decide, _, tk_RL_13, by decide +kernel⟩
  · exact ⟨by decide, _, tk_RL_16, by decide +kernel⟩
theorem tk_y_X10_insertText : tq_yok yX10_insertText cX10_insertText 4 (some .int) 3 := ⟨tq_g (i := 1077) (by decide +kernel) rfl, tq_g (i := 53) (by decide +kernel) rfl, ⟨by decide +kernel, by decide +kernel⟩, by decide +kernel, by decide⟩
theorem tk_v_X10_insertText : tq_vok yX10_insertText := ⟨tq_g (i := 1075) (by decide +kernel) rfl, tq_g (i := 1076) (by decide +kernel) rfl⟩
theorem tk_pass_L_text_1 : ∀ z ∈ ([⟨0, 7, 8, 13⟩] : List ExceptionTableEntry), z.catchType ≠ 0 ∧ ∃ nm : String, Cond.classLink RL z.catchType nm ∈ tq_G ∧ ("java/lang/IllegalArgumentException", nm) ∈ tq_nc := by
  intro z hz
  simp only [List.mem_cons, List.not_mem_nil, or_false] at hz
  rcases hz with rfl
  · exact ⟨by decide, _, tk_RL_13, by decide +kernel⟩
theorem tk_pass_L_text_0 : ∀ z ∈ ([] : List ExceptionTableEntry), z.catchType ≠ 0 ∧ ∃ nm : String, Cond.classLink RL z.catchType nm ∈ tq_G ∧ ("java/lang/IndexOutOfBoundsException", nm) ∈ tq_nc := by
  intro z hz
  cases hz
theorem tk_RL_25 : Cond.methodLink RL 25 yX10_insertAttribute ∈ tq_G := tq_g (i := 1081) (by decide +kernel) rfl
theorem tk_pass_L_attribute_2 : ∀ z ∈ ([⟨0, 7, 8, 13⟩, ⟨0, 7, 13, 16⟩] : List ExceptionTableEntry), z.catchType ≠ 0 ∧ ∃ nm : String, Cond.classLink RL z.catchType nm ∈ tq_G ∧ ("java/lang/IllegalStateException", nm) ∈ tq_nc := by
  intro z hz
  simp only [List.mem_cons, List.not_mem_nil, or_false] at hz
  rcases hz with rfl | rfl
  · exact ⟨by decide, _, tk_RL_13, by decide +kernel⟩
  · exact ⟨by decide, _, tk_RL_16, by decide +kernel⟩
theorem tk_y_X10_insertAttribute : tq_yok yX10_insertAttribute cX10_insertAttribute 4 (some .int) 3 := ⟨tq_g (i := 1084) (by decide +kernel) rfl, tq_g (i := 53) (by decide +kernel) rfl, ⟨by decide +kernel, by decide +kernel⟩, by decide +kernel, by decide⟩
theorem tk_v_X10_insertAttribute : tq_vok yX10_insertAttribute := ⟨tq_g (i := 1082) (by decide +kernel) rfl, tq_g (i := 1083) (by decide +kernel) rfl⟩
theorem tk_pass_L_attribute_1 : ∀ z ∈ ([⟨0, 7, 8, 13⟩] : List ExceptionTableEntry), z.catchType ≠ 0 ∧ ∃ nm : String, Cond.classLink RL z.catchType nm ∈ tq_G ∧ ("java/lang/IllegalArgumentException", nm) ∈ tq_nc := by
  intro z hz
  simp only [List.mem_cons, List.not_mem_nil, or_false] at hz
  rcases hz with rfl
  · exact ⟨by decide, _, tk_RL_13, by decide +kernel⟩
theorem tk_pass_L_attribute_0 : ∀ z ∈ ([] : List ExceptionTableEntry), z.catchType ≠ 0 ∧ ∃ nm : String, Cond.classLink RL z.catchType nm ∈ tq_G ∧ ("java/lang/IndexOutOfBoundsException", nm) ∈ tq_nc := by
  intro z hz
  cases hz
theorem tk_RL_28 : Cond.methodLink RL 28 yX10_remove ∈ tq_G := tq_g (i := 1107) (by decide +kernel) rfl
theorem tk_pass_L_remove_1 : ∀ z ∈ ([⟨0, 5, 6, 13⟩] : List ExceptionTableEntry), z.catchType ≠ 0 ∧ ∃ nm : String, Cond.classLink RL z.catchType nm ∈ tq_G ∧ ("java/lang/IllegalStateException", nm) ∈ tq_nc := by
  intro z hz
  simp only [List.mem_cons, List.not_mem_nil, or_false] at hz
  rcases hz with rfl
  · exact ⟨by decide, _, tk_RL_13, by decide +kernel⟩
theorem tk_y_X10_remove : tq_yok yX10_remove cX10_remove 2 (some .int) 1 := ⟨tq_g (i := 1110) (by decide +kernel) rfl, tq_g (i := 53) (by decide +kernel) rfl, ⟨by decide +kernel, by decide +kernel⟩, by decide +kernel, by decide⟩
theorem tk_v_X10_remove : tq_vok yX10_remove := ⟨tq_g (i := 1108) (by decide +kernel) rfl, tq_g (i := 1109) (by decide +kernel) rfl⟩
theorem tk_pass_L_remove_0 : ∀ z ∈ ([] : List ExceptionTableEntry), z.catchType ≠ 0 ∧ ∃ nm : String, Cond.classLink RL z.catchType nm ∈ tq_G ∧ ("java/lang/IndexOutOfBoundsException", nm) ∈ tq_nc := by
  intro z hz
  cases hz
theorem tk_RL_32 : Cond.methodLink RL 32 yX10_rename ∈ tq_G := tq_g (i := 1088) (by decide +kernel) rfl
theorem tk_pass_L_rename_2 : ∀ z ∈ ([⟨0, 6, 7, 13⟩, ⟨0, 6, 11, 16⟩] : List ExceptionTableEntry), z.catchType ≠ 0 ∧ ∃ nm : String, Cond.classLink RL z.catchType nm ∈ tq_G ∧ ("java/lang/IllegalStateException", nm) ∈ tq_nc := by
  intro z hz
  simp only [List.mem_cons, List.not_mem_nil, or_false] at hz
  rcases hz with rfl | rfl
  · exact ⟨by decide, _, tk_RL_13, by decide +kernel⟩
  · exact ⟨by decide, _, tk_RL_16, by decide +kernel⟩
theorem tk_y_X10_rename : tq_yok yX10_rename cX10_rename 3 (some .int) 2 := ⟨tq_g (i := 1091) (by decide +kernel) rfl, tq_g (i := 53) (by decide +kernel) rfl, ⟨by decide +kernel, by decide +kernel⟩, by decide +kernel, by decide⟩
theorem tk_v_X10_rename : tq_vok yX10_rename := ⟨tq_g (i := 1089) (by decide +kernel) rfl, tq_g (i := 1090) (by decide +kernel) rfl⟩
theorem tk_pass_L_rename_1 : ∀ z ∈ ([⟨0, 6, 7, 13⟩] : List ExceptionTableEntry), z.catchType ≠ 0 ∧ ∃ nm : String, Cond.classLink RL z.catchType nm ∈ tq_G ∧ ("java/lang/IllegalArgumentException", nm) ∈ tq_nc := by
  intro z hz
  simp only [List.mem_cons, List.not_mem_nil, or_false] at hz
  rcases hz with rfl
  · exact ⟨by decide, _, tk_RL_13, by decide +kernel⟩
theorem tk_pass_L_rename_0 : ∀ z ∈ ([] : List ExceptionTableEntry), z.catchType ≠ 0 ∧ ∃ nm : String, Cond.classLink RL z.catchType nm ∈ tq_G ∧ ("java/lang/IndexOutOfBoundsException", nm) ∈ tq_nc := by
  intro z hz
  cases hz
theorem tk_RL_36 : Cond.methodLink RL 36 yX10_setValue ∈ tq_G := tq_g (i := 1115) (by decide +kernel) rfl
theorem tk_pass_L_revalue_2 : ∀ z ∈ ([⟨0, 6, 7, 13⟩, ⟨0, 6, 11, 16⟩] : List ExceptionTableEntry), z.catchType ≠ 0 ∧ ∃ nm : String, Cond.classLink RL z.catchType nm ∈ tq_G ∧ ("java/lang/IllegalStateException", nm) ∈ tq_nc := by
  intro z hz
  simp only [List.mem_cons, List.not_mem_nil, or_false] at hz
  rcases hz with rfl | rfl
  · exact ⟨by decide, _, tk_RL_13, by decide +kernel⟩
  · exact ⟨by decide, _, tk_RL_16, by decide +kernel⟩
theorem tk_y_X10_setValue : tq_yok yX10_setValue cX10_setValue 3 (some .int) 2 := ⟨tq_g (i := 1118) (by decide +kernel) rfl, tq_g (i := 53) (by decide +kernel) rfl, ⟨by decide +kernel, by decide +kernel⟩, by decide +kernel, by decide⟩
theorem tk_v_X10_setValue : tq_vok yX10_setValue := ⟨tq_g (i := 1116) (by decide +kernel) rfl, tq_g (i := 1117) (by decide +kernel) rfl⟩
theorem tk_pass_L_revalue_1 : ∀ z ∈ ([⟨0, 6, 7, 13⟩] : List ExceptionTableEntry), z.catchType ≠ 0 ∧ ∃ nm : String, Cond.classLink RL z.catchType nm ∈ tq_G ∧ ("java/lang/IllegalArgumentException", nm) ∈ tq_nc := by
  intro z hz
  simp only [List.mem_cons, List.not_mem_nil, or_false] at hz
  rcases hz with rfl
  · exact ⟨by decide, _, tk_RL_13, by decide +kernel⟩
theorem tk_pass_L_revalue_0 : ∀ z ∈ ([] : List ExceptionTableEntry), z.catchType ≠ 0 ∧ ∃ nm : String, Cond.classLink RL z.catchType nm ∈ tq_G ∧ ("java/lang/IndexOutOfBoundsException", nm) ∈ tq_nc := by
  intro z hz
  cases hz
theorem tk_RL_39 : Cond.methodLink RL 39 yX10_move ∈ tq_G := tq_g (i := 1123) (by decide +kernel) rfl
theorem tk_pass_L_move_1 : ∀ z ∈ ([⟨0, 7, 8, 13⟩] : List ExceptionTableEntry), z.catchType ≠ 0 ∧ ∃ nm : String, Cond.classLink RL z.catchType nm ∈ tq_G ∧ ("java/lang/IllegalStateException", nm) ∈ tq_nc := by
  intro z hz
  simp only [List.mem_cons, List.not_mem_nil, or_false] at hz
  rcases hz with rfl
  · exact ⟨by decide, _, tk_RL_13, by decide +kernel⟩
theorem tk_y_X10_move : tq_yok yX10_move cX10_move 4 (some .int) 3 := ⟨tq_g (i := 1126) (by decide +kernel) rfl, tq_g (i := 53) (by decide +kernel) rfl, ⟨by decide +kernel, by decide +kernel⟩, by decide +kernel, by decide⟩
theorem tk_v_X10_move : tq_vok yX10_move := ⟨tq_g (i := 1124) (by decide +kernel) rfl, tq_g (i := 1125) (by decide +kernel) rfl⟩
theorem tk_pass_L_move_0 : ∀ z ∈ ([] : List ExceptionTableEntry), z.catchType ≠ 0 ∧ ∃ nm : String, Cond.classLink RL z.catchType nm ∈ tq_G ∧ ("java/lang/IndexOutOfBoundsException", nm) ∈ tq_nc := by
  intro z hz
  cases hz
theorem tk_RL_42 : Cond.methodLink RL 42 yX10_declare ∈ tq_G := tq_g (i := 1100) (by decide +kernel) rfl
theorem tk_pass_L_declare_2 : ∀ z ∈ ([⟨0, 6, 7, 13⟩, ⟨0, 6, 11, 16⟩] : List ExceptionTableEntry), z.catchType ≠ 0 ∧ ∃ nm : String, Cond.classLink RL z.catchType nm ∈ tq_G ∧ ("java/lang/IllegalStateException", nm) ∈ tq_nc := by
  intro z hz
  simp only [List.mem_cons, List.not_mem_nil, or_false] at hz
  rcases hz with rfl | rfl
  · exact ⟨by decide, _, tk_RL_13, by decide +kernel⟩
  · exact ⟨by decide, _, tk_RL_16, by decide +kernel⟩
theorem tk_y_X10_declare : tq_yok yX10_declare cX10_declare 3 (some .int) 2 := ⟨tq_g (i := 1103) (by decide +kernel) rfl, tq_g (i := 53) (by decide +kernel) rfl, ⟨by decide +kernel, by decide +kernel⟩, by decide +kernel, by decide⟩
theorem tk_v_X10_declare : tq_vok yX10_declare := ⟨tq_g (i := 1101) (by decide +kernel) rfl, tq_g (i := 1102) (by decide +kernel) rfl⟩
theorem tk_pass_L_declare_1 : ∀ z ∈ ([⟨0, 6, 7, 13⟩] : List ExceptionTableEntry), z.catchType ≠ 0 ∧ ∃ nm : String, Cond.classLink RL z.catchType nm ∈ tq_G ∧ ("java/lang/IllegalArgumentException", nm) ∈ tq_nc := by
  intro z hz
  simp only [List.mem_cons, List.not_mem_nil, or_false] at hz
  rcases hz with rfl
  · exact ⟨by decide, _, tk_RL_13, by decide +kernel⟩
theorem tk_pass_L_declare_0 : ∀ z ∈ ([] : List ExceptionTableEntry), z.catchType ≠ 0 ∧ ∃ nm : String, Cond.classLink RL z.catchType nm ∈ tq_G ∧ ("java/lang/IndexOutOfBoundsException", nm) ∈ tq_nc := by
  intro z hz
  cases hz
theorem tk_RL_45 : Cond.methodLink RL 45 yX10_apply ∈ tq_G := tq_g (i := 1581) (by decide +kernel) rfl
theorem tk_pass_L_apply_0 : ∀ z ∈ ([] : List ExceptionTableEntry), z.catchType ≠ 0 ∧ ∃ nm : String, Cond.classLink RL z.catchType nm ∈ tq_G ∧ ("java/lang/IllegalStateException", nm) ∈ tq_nc := by
  intro z hz
  cases hz
theorem tk_y_X10_apply : tq_yok yX10_apply cX10_apply 1 (some .int) 0 := ⟨tq_g (i := 1584) (by decide +kernel) rfl, tq_g (i := 53) (by decide +kernel) rfl, ⟨by decide +kernel, by decide +kernel⟩, by decide +kernel, by decide⟩
theorem tk_v_X10_apply : tq_vok yX10_apply := ⟨tq_g (i := 1582) (by decide +kernel) rfl, tq_g (i := 1583) (by decide +kernel) rfl⟩
theorem tk_RL_49 : Cond.methodLink RL 49 yX10_kind ∈ tq_G := tq_g (i := 1135) (by decide +kernel) rfl
theorem tk_pass_L_kind_0 : ∀ z ∈ ([] : List ExceptionTableEntry), z.catchType ≠ 0 ∧ ∃ nm : String, Cond.classLink RL z.catchType nm ∈ tq_G ∧ ("java/lang/IndexOutOfBoundsException", nm) ∈ tq_nc := by
  intro z hz
  cases hz
theorem tk_y_X10_kind : tq_yok yX10_kind cX10_kind 2 (some .int) 1 := ⟨tq_g (i := 1138) (by decide +kernel) rfl, tq_g (i := 53) (by decide +kernel) rfl, ⟨by decide +kernel, by decide +kernel⟩, by decide +kernel, by decide⟩
theorem tk_v_X10_kind : tq_vok yX10_kind := ⟨tq_g (i := 1136) (by decide +kernel) rfl, tq_g (i := 1137) (by decide +kernel) rfl⟩
theorem tk_RL_52 : Cond.methodLink RL 52 yX10_name ∈ tq_G := tq_g (i := 1142) (by decide +kernel) rfl
theorem tk_pass_L_name_0 : ∀ z ∈ ([] : List ExceptionTableEntry), z.catchType ≠ 0 ∧ ∃ nm : String, Cond.classLink RL z.catchType nm ∈ tq_G ∧ ("java/lang/IndexOutOfBoundsException", nm) ∈ tq_nc := by
  intro z hz
  cases hz
theorem tk_y_X10_name : tq_yok yX10_name cX10_name 2 (some .int) 1 := ⟨tq_g (i := 1145) (by decide +kernel) rfl, tq_g (i := 53) (by decide +kernel) rfl, ⟨by decide +kernel, by decide +kernel⟩, by decide +kernel, by decide⟩
theorem tk_v_X10_name : tq_vok yX10_name := ⟨tq_g (i := 1143) (by decide +kernel) rfl, tq_g (i := 1144) (by decide +kernel) rfl⟩
theorem tk_RL_55 : Cond.methodLink RL 55 yX10_value ∈ tq_G := tq_g (i := 1149) (by decide +kernel) rfl
theorem tk_pass_L_value_0 : ∀ z ∈ ([] : List ExceptionTableEntry), z.catchType ≠ 0 ∧ ∃ nm : String, Cond.classLink RL z.catchType nm ∈ tq_G ∧ ("java/lang/IndexOutOfBoundsException", nm) ∈ tq_nc := by
  intro z hz
  cases hz
theorem tk_y_X10_value : tq_yok yX10_value cX10_value 2 (some .int) 1 := ⟨tq_g (i := 1152) (by decide +kernel) rfl, tq_g (i := 53) (by decide +kernel) rfl, ⟨by decide +kernel, by decide +kernel⟩, by decide +kernel, by decide⟩
theorem tk_v_X10_value : tq_vok yX10_value := ⟨tq_g (i := 1150) (by decide +kernel) rfl, tq_g (i := 1151) (by decide +kernel) rfl⟩
theorem tk_RL_58 : Cond.methodLink RL 58 yX10_parent ∈ tq_G := tq_g (i := 1158) (by decide +kernel) rfl
theorem tk_pass_L_parent_0 : ∀ z ∈ ([] : List ExceptionTableEntry), z.catchType ≠ 0 ∧ ∃ nm : String, Cond.classLink RL z.catchType nm ∈ tq_G ∧ ("java/lang/IndexOutOfBoundsException", nm) ∈ tq_nc := by
  intro z hz
  cases hz
theorem tk_y_X10_parent : tq_yok yX10_parent cX10_parent 2 (some .int) 1 := ⟨tq_g (i := 1161) (by decide +kernel) rfl, tq_g (i := 53) (by decide +kernel) rfl, ⟨by decide +kernel, by decide +kernel⟩, by decide +kernel, by decide⟩
theorem tk_v_X10_parent : tq_vok yX10_parent := ⟨tq_g (i := 1159) (by decide +kernel) rfl, tq_g (i := 1160) (by decide +kernel) rfl⟩
theorem tk_RL_61 : Cond.methodLink RL 61 yX10_child ∈ tq_G := tq_g (i := 1165) (by decide +kernel) rfl
theorem tk_pass_L_child_0 : ∀ z ∈ ([] : List ExceptionTableEntry), z.catchType ≠ 0 ∧ ∃ nm : String, Cond.classLink RL z.catchType nm ∈ tq_G ∧ ("java/lang/IndexOutOfBoundsException", nm) ∈ tq_nc := by
  intro z hz
  cases hz
theorem tk_y_X10_child : tq_yok yX10_child cX10_child 3 (some .int) 2 := ⟨tq_g (i := 1168) (by decide +kernel) rfl, tq_g (i := 53) (by decide +kernel) rfl, ⟨by decide +kernel, by decide +kernel⟩, by decide +kernel, by decide⟩
theorem tk_v_X10_child : tq_vok yX10_child := ⟨tq_g (i := 1166) (by decide +kernel) rfl, tq_g (i := 1167) (by decide +kernel) rfl⟩
theorem tk_RL_64 : Cond.methodLink RL 64 yX10_space ∈ tq_G := tq_g (i := 1179) (by decide +kernel) rfl
theorem tk_pass_L_space_0 : ∀ z ∈ ([] : List ExceptionTableEntry), z.catchType ≠ 0 ∧ ∃ nm : String, Cond.classLink RL z.catchType nm ∈ tq_G ∧ ("java/lang/IndexOutOfBoundsException", nm) ∈ tq_nc := by
  intro z hz
  cases hz
theorem tk_y_X10_space : tq_yok yX10_space cX10_space 2 (some .int) 1 := ⟨tq_g (i := 1182) (by decide +kernel) rfl, tq_g (i := 53) (by decide +kernel) rfl, ⟨by decide +kernel, by decide +kernel⟩, by decide +kernel, by decide⟩
theorem tk_v_X10_space : tq_vok yX10_space := ⟨tq_g (i := 1180) (by decide +kernel) rfl, tq_g (i := 1181) (by decide +kernel) rfl⟩
theorem tk_RL_67 : Cond.methodLink RL 67 yX10_number ∈ tq_G := tq_g (i := 1190) (by decide +kernel) rfl
theorem tk_pass_L_number_0 : ∀ z ∈ ([] : List ExceptionTableEntry), z.catchType ≠ 0 ∧ ∃ nm : String, Cond.classLink RL z.catchType nm ∈ tq_G ∧ ("java/lang/IndexOutOfBoundsException", nm) ∈ tq_nc := by
  intro z hz
  cases hz
theorem tk_y_X10_number : tq_yok yX10_number cX10_number 2 (some .int) 1 := ⟨tq_g (i := 1193) (by decide +kernel) rfl, tq_g (i := 53) (by decide +kernel) rfl, ⟨by decide +kernel, by decide +kernel⟩, by decide +kernel, by decide⟩
theorem tk_v_X10_number : tq_vok yX10_number := ⟨tq_g (i := 1191) (by decide +kernel) rfl, tq_g (i := 1192) (by decide +kernel) rfl⟩
theorem tk_RL_70 : Cond.methodLink RL 70 yX10_path ∈ tq_G := tq_g (i := 1674) (by decide +kernel) rfl
theorem tk_pass_L_path_0 : ∀ z ∈ ([] : List ExceptionTableEntry), z.catchType ≠ 0 ∧ ∃ nm : String, Cond.classLink RL z.catchType nm ∈ tq_G ∧ ("java/lang/IllegalStateException", nm) ∈ tq_nc := by
  intro z hz
  cases hz
theorem tk_y_X10_path : tq_yok yX10_path cX10_path 1 (some .int) 0 := ⟨tq_g (i := 1677) (by decide +kernel) rfl, tq_g (i := 53) (by decide +kernel) rfl, ⟨by decide +kernel, by decide +kernel⟩, by decide +kernel, by decide⟩
theorem tk_v_X10_path : tq_vok yX10_path := ⟨tq_g (i := 1675) (by decide +kernel) rfl, tq_g (i := 1676) (by decide +kernel) rfl⟩
theorem tk_RL_73 : Cond.methodLink RL 73 yX10_step ∈ tq_G := tq_g (i := 1228) (by decide +kernel) rfl
theorem tk_pass_L_step_2 : ∀ z ∈ ([⟨0, 9, 10, 13⟩, ⟨0, 9, 15, 16⟩] : List ExceptionTableEntry), z.catchType ≠ 0 ∧ ∃ nm : String, Cond.classLink RL z.catchType nm ∈ tq_G ∧ ("java/lang/IllegalStateException", nm) ∈ tq_nc := by
  intro z hz
  simp only [List.mem_cons, List.not_mem_nil, or_false] at hz
  rcases hz with rfl | rfl
  · exact ⟨by decide, _, tk_RL_13, by decide +kernel⟩
  · exact ⟨by decide, _, tk_RL_16, by decide +kernel⟩
theorem tk_y_X10_step : tq_yok yX10_step cX10_step 5 (some .int) 4 := ⟨tq_g (i := 1231) (by decide +kernel) rfl, tq_g (i := 53) (by decide +kernel) rfl, ⟨by decide +kernel, by decide +kernel⟩, by decide +kernel, by decide⟩
theorem tk_v_X10_step : tq_vok yX10_step := ⟨tq_g (i := 1229) (by decide +kernel) rfl, tq_g (i := 1230) (by decide +kernel) rfl⟩
theorem tk_pass_L_step_1 : ∀ z ∈ ([⟨0, 9, 10, 13⟩] : List ExceptionTableEntry), z.catchType ≠ 0 ∧ ∃ nm : String, Cond.classLink RL z.catchType nm ∈ tq_G ∧ ("java/lang/IllegalArgumentException", nm) ∈ tq_nc := by
  intro z hz
  simp only [List.mem_cons, List.not_mem_nil, or_false] at hz
  rcases hz with rfl
  · exact ⟨by decide, _, tk_RL_13, by decide +kernel⟩
theorem tk_pass_L_step_0 : ∀ z ∈ ([] : List ExceptionTableEntry), z.catchType ≠ 0 ∧ ∃ nm : String, Cond.classLink RL z.catchType nm ∈ tq_G ∧ ("java/lang/IndexOutOfBoundsException", nm) ∈ tq_nc := by
  intro z hz
  cases hz
theorem tk_RL_77 : Cond.methodLink RL 77 yX10_place ∈ tq_G := tq_g (i := 1269) (by decide +kernel) rfl
theorem tk_pass_L_place_2 : ∀ z ∈ ([⟨0, 7, 8, 13⟩, ⟨0, 7, 13, 16⟩] : List ExceptionTableEntry), z.catchType ≠ 0 ∧ ∃ nm : String, Cond.classLink RL z.catchType nm ∈ tq_G ∧ ("java/lang/IllegalStateException", nm) ∈ tq_nc := by
  intro z hz
  simp only [List.mem_cons, List.not_mem_nil, or_false] at hz
  rcases hz with rfl | rfl
  · exact ⟨by decide, _, tk_RL_13, by decide +kernel⟩
  · exact ⟨by decide, _, tk_RL_16, by decide +kernel⟩
theorem tk_y_X10_place : tq_yok yX10_place cX10_place 4 (some .int) 3 := ⟨tq_g (i := 1272) (by decide +kernel) rfl, tq_g (i := 53) (by decide +kernel) rfl, ⟨by decide +kernel, by decide +kernel⟩, by decide +kernel, by decide⟩
theorem tk_v_X10_place : tq_vok yX10_place := ⟨tq_g (i := 1270) (by decide +kernel) rfl, tq_g (i := 1271) (by decide +kernel) rfl⟩
theorem tk_pass_L_place_1 : ∀ z ∈ ([⟨0, 7, 8, 13⟩] : List ExceptionTableEntry), z.catchType ≠ 0 ∧ ∃ nm : String, Cond.classLink RL z.catchType nm ∈ tq_G ∧ ("java/lang/IllegalArgumentException", nm) ∈ tq_nc := by
  intro z hz
  simp only [List.mem_cons, List.not_mem_nil, or_false] at hz
  rcases hz with rfl
  · exact ⟨by decide, _, tk_RL_13, by decide +kernel⟩
theorem tk_pass_L_place_0 : ∀ z ∈ ([] : List ExceptionTableEntry), z.catchType ≠ 0 ∧ ∃ nm : String, Cond.classLink RL z.catchType nm ∈ tq_G ∧ ("java/lang/IndexOutOfBoundsException", nm) ∈ tq_nc := by
  intro z hz
  cases hz
theorem tk_RL_80 : Cond.methodLink RL 80 yX10_last ∈ tq_G := tq_g (i := 1291) (by decide +kernel) rfl
theorem tk_pass_L_last_1 : ∀ z ∈ ([⟨0, 5, 6, 13⟩] : List ExceptionTableEntry), z.catchType ≠ 0 ∧ ∃ nm : String, Cond.classLink RL z.catchType nm ∈ tq_G ∧ ("java/lang/IllegalStateException", nm) ∈ tq_nc := by
  intro z hz
  simp only [List.mem_cons, List.not_mem_nil, or_false] at hz
  rcases hz with rfl
  · exact ⟨by decide, _, tk_RL_13, by decide +kernel⟩
theorem tk_y_X10_last : tq_yok yX10_last cX10_last 2 (some .int) 1 := ⟨tq_g (i := 1294) (by decide +kernel) rfl, tq_g (i := 53) (by decide +kernel) rfl, ⟨by decide +kernel, by decide +kernel⟩, by decide +kernel, by decide⟩
theorem tk_v_X10_last : tq_vok yX10_last := ⟨tq_g (i := 1292) (by decide +kernel) rfl, tq_g (i := 1293) (by decide +kernel) rfl⟩
theorem tk_pass_L_last_0 : ∀ z ∈ ([] : List ExceptionTableEntry), z.catchType ≠ 0 ∧ ∃ nm : String, Cond.classLink RL z.catchType nm ∈ tq_G ∧ ("java/lang/IndexOutOfBoundsException", nm) ∈ tq_nc := by
  intro z hz
  cases hz
theorem tk_RL_83 : Cond.methodLink RL 83 yX10_has ∈ tq_G := tq_g (i := 1298) (by decide +kernel) rfl
theorem tk_pass_L_has_1 : ∀ z ∈ ([⟨0, 7, 8, 13⟩] : List ExceptionTableEntry), z.catchType ≠ 0 ∧ ∃ nm : String, Cond.classLink RL z.catchType nm ∈ tq_G ∧ ("java/lang/IllegalStateException", nm) ∈ tq_nc := by
  intro z hz
  simp only [List.mem_cons, List.not_mem_nil, or_false] at hz
  rcases hz with rfl
  · exact ⟨by decide, _, tk_RL_13, by decide +kernel⟩
theorem tk_y_X10_has : tq_yok yX10_has cX10_has 4 (some .int) 3 := ⟨tq_g (i := 1301) (by decide +kernel) rfl, tq_g (i := 53) (by decide +kernel) rfl, ⟨by decide +kernel, by decide +kernel⟩, by decide +kernel, by decide⟩
theorem tk_v_X10_has : tq_vok yX10_has := ⟨tq_g (i := 1299) (by decide +kernel) rfl, tq_g (i := 1300) (by decide +kernel) rfl⟩
theorem tk_pass_L_has_0 : ∀ z ∈ ([] : List ExceptionTableEntry), z.catchType ≠ 0 ∧ ∃ nm : String, Cond.classLink RL z.catchType nm ∈ tq_G ∧ ("java/lang/IndexOutOfBoundsException", nm) ∈ tq_nc := by
  intro z hz
  cases hz
theorem tk_RL_87 : Cond.methodLink RL 87 yX10_worth ∈ tq_G := tq_g (i := 1305) (by decide +kernel) rfl
theorem tk_pass_L_worth_2 : ∀ z ∈ ([⟨0, 9, 10, 13⟩, ⟨0, 9, 15, 16⟩] : List ExceptionTableEntry), z.catchType ≠ 0 ∧ ∃ nm : String, Cond.classLink RL z.catchType nm ∈ tq_G ∧ ("java/lang/IllegalStateException", nm) ∈ tq_nc := by
  intro z hz
  simp only [List.mem_cons, List.not_mem_nil, or_false] at hz
  rcases hz with rfl | rfl
  · exact ⟨by decide, _, tk_RL_13, by decide +kernel⟩
  · exact ⟨by decide, _, tk_RL_16, by decide +kernel⟩
theorem tk_y_X10_worth : tq_yok yX10_worth cX10_worth 5 (some .int) 4 := ⟨tq_g (i := 1308) (by decide +kernel) rfl, tq_g (i := 53) (by decide +kernel) rfl, ⟨by decide +kernel, by decide +kernel⟩, by decide +kernel, by decide⟩
theorem tk_v_X10_worth : tq_vok yX10_worth := ⟨tq_g (i := 1306) (by decide +kernel) rfl, tq_g (i := 1307) (by decide +kernel) rfl⟩
theorem tk_pass_L_worth_1 : ∀ z ∈ ([⟨0, 9, 10, 13⟩] : List ExceptionTableEntry), z.catchType ≠ 0 ∧ ∃ nm : String, Cond.classLink RL z.catchType nm ∈ tq_G ∧ ("java/lang/IllegalArgumentException", nm) ∈ tq_nc := by
  intro z hz
  simp only [List.mem_cons, List.not_mem_nil, or_false] at hz
  rcases hz with rfl
  · exact ⟨by decide, _, tk_RL_13, by decide +kernel⟩
theorem tk_pass_L_worth_0 : ∀ z ∈ ([] : List ExceptionTableEntry), z.catchType ≠ 0 ∧ ∃ nm : String, Cond.classLink RL z.catchType nm ∈ tq_G ∧ ("java/lang/IndexOutOfBoundsException", nm) ∈ tq_nc := by
  intro z hz
  cases hz
theorem tk_RL_90 : Cond.methodLink RL 90 yX10_found ∈ tq_G := tq_g (i := 1312) (by decide +kernel) rfl
theorem tk_pass_L_found_0 : ∀ z ∈ ([] : List ExceptionTableEntry), z.catchType ≠ 0 ∧ ∃ nm : String, Cond.classLink RL z.catchType nm ∈ tq_G ∧ ("java/lang/IndexOutOfBoundsException", nm) ∈ tq_nc := by
  intro z hz
  cases hz
theorem tk_y_X10_found : tq_yok yX10_found cX10_found 4 (some .int) 2 := ⟨tq_g (i := 1315) (by decide +kernel) rfl, tq_g (i := 53) (by decide +kernel) rfl, ⟨by decide +kernel, by decide +kernel⟩, by decide +kernel, by decide⟩
theorem tk_v_X10_found : tq_vok yX10_found := ⟨tq_g (i := 1313) (by decide +kernel) rfl, tq_g (i := 1314) (by decide +kernel) rfl⟩
theorem tk_RL_93 : Cond.methodLink RL 93 yX10_foundAnew ∈ tq_G := tq_g (i := 1324) (by decide +kernel) rfl
theorem tk_pass_L_foundAnew_0 : ∀ z ∈ ([] : List ExceptionTableEntry), z.catchType ≠ 0 ∧ ∃ nm : String, Cond.classLink RL z.catchType nm ∈ tq_G ∧ ("java/lang/IndexOutOfBoundsException", nm) ∈ tq_nc := by
  intro z hz
  cases hz
theorem tk_y_X10_foundAnew : tq_yok yX10_foundAnew cX10_foundAnew 8 (some .int) 2 := ⟨tq_g (i := 1327) (by decide +kernel) rfl, tq_g (i := 53) (by decide +kernel) rfl, ⟨by decide +kernel, by decide +kernel⟩, by decide +kernel, by decide⟩
theorem tk_v_X10_foundAnew : tq_vok yX10_foundAnew := ⟨tq_g (i := 1325) (by decide +kernel) rfl, tq_g (i := 1326) (by decide +kernel) rfl⟩
theorem tk_RL_96 : Cond.methodLink RL 96 yX10_foundAt ∈ tq_G := tq_g (i := 1331) (by decide +kernel) rfl
theorem tk_pass_L_foundAt_0 : ∀ z ∈ ([] : List ExceptionTableEntry), z.catchType ≠ 0 ∧ ∃ nm : String, Cond.classLink RL z.catchType nm ∈ tq_G ∧ ("java/lang/IndexOutOfBoundsException", nm) ∈ tq_nc := by
  intro z hz
  cases hz
theorem tk_y_X10_foundAt : tq_yok yX10_foundAt cX10_foundAt 6 (some .int) 2 := ⟨tq_g (i := 1334) (by decide +kernel) rfl, tq_g (i := 53) (by decide +kernel) rfl, ⟨by decide +kernel, by decide +kernel⟩, by decide +kernel, by decide⟩
theorem tk_v_X10_foundAt : tq_vok yX10_foundAt := ⟨tq_g (i := 1332) (by decide +kernel) rfl, tq_g (i := 1333) (by decide +kernel) rfl⟩
theorem tk_RL_99 : Cond.methodLink RL 99 yX10_ordered ∈ tq_G := tq_g (i := 1343) (by decide +kernel) rfl
theorem tk_pass_L_ordered_0 : ∀ z ∈ ([] : List ExceptionTableEntry), z.catchType ≠ 0 ∧ ∃ nm : String, Cond.classLink RL z.catchType nm ∈ tq_G ∧ ("java/lang/IndexOutOfBoundsException", nm) ∈ tq_nc := by
  intro z hz
  cases hz
theorem tk_y_X10_ordered : tq_yok yX10_ordered cX10_ordered 4 (some .int) 2 := ⟨tq_g (i := 1346) (by decide +kernel) rfl, tq_g (i := 53) (by decide +kernel) rfl, ⟨by decide +kernel, by decide +kernel⟩, by decide +kernel, by decide⟩
theorem tk_v_X10_ordered : tq_vok yX10_ordered := ⟨tq_g (i := 1344) (by decide +kernel) rfl, tq_g (i := 1345) (by decide +kernel) rfl⟩
theorem tk_RL_102 : Cond.methodLink RL 102 yX10_groups ∈ tq_G := tq_g (i := 1361) (by decide +kernel) rfl
theorem tk_pass_L_groups_0 : ∀ z ∈ ([] : List ExceptionTableEntry), z.catchType ≠ 0 ∧ ∃ nm : String, Cond.classLink RL z.catchType nm ∈ tq_G ∧ ("java/lang/IndexOutOfBoundsException", nm) ∈ tq_nc := by
  intro z hz
  cases hz
theorem tk_y_X10_groups : tq_yok yX10_groups cX10_groups 3 (some .int) 1 := ⟨tq_g (i := 1364) (by decide +kernel) rfl, tq_g (i := 53) (by decide +kernel) rfl, ⟨by decide +kernel, by decide +kernel⟩, by decide +kernel, by decide⟩
theorem tk_v_X10_groups : tq_vok yX10_groups := ⟨tq_g (i := 1362) (by decide +kernel) rfl, tq_g (i := 1363) (by decide +kernel) rfl⟩
theorem tk_RL_105 : Cond.methodLink RL 105 yX10_nameType ∈ tq_G := tq_g (i := 1482) (by decide +kernel) rfl
theorem tk_pass_L_nameType_2 : ∀ z ∈ ([⟨0, 6, 7, 13⟩, ⟨0, 6, 11, 16⟩] : List ExceptionTableEntry), z.catchType ≠ 0 ∧ ∃ nm : String, Cond.classLink RL z.catchType nm ∈ tq_G ∧ ("java/lang/IllegalStateException", nm) ∈ tq_nc := by
  intro z hz
  simp only [List.mem_cons, List.not_mem_nil, or_false] at hz
  rcases hz with rfl | rfl
  · exact ⟨by decide, _, tk_RL_13, by decide +kernel⟩
  · exact ⟨by decide, _, tk_RL_16, by decide +kernel⟩
theorem tk_y_X10_nameType : tq_yok yX10_nameType cX10_nameType 3 (some .int) 2 := ⟨tq_g (i := 1485) (by decide +kernel) rfl, tq_g (i := 53) (by decide +kernel) rfl, ⟨by decide +kernel, by decide +kernel⟩, by decide +kernel, by decide⟩
theorem tk_v_X10_nameType : tq_vok yX10_nameType := ⟨tq_g (i := 1483) (by decide +kernel) rfl, tq_g (i := 1484) (by decide +kernel) rfl⟩
theorem tk_pass_L_nameType_1 : ∀ z ∈ ([⟨0, 6, 7, 13⟩] : List ExceptionTableEntry), z.catchType ≠ 0 ∧ ∃ nm : String, Cond.classLink RL z.catchType nm ∈ tq_G ∧ ("java/lang/IllegalArgumentException", nm) ∈ tq_nc := by
  intro z hz
  simp only [List.mem_cons, List.not_mem_nil, or_false] at hz
  rcases hz with rfl
  · exact ⟨by decide, _, tk_RL_13, by decide +kernel⟩
theorem tk_pass_L_nameType_0 : ∀ z ∈ ([] : List ExceptionTableEntry), z.catchType ≠ 0 ∧ ∃ nm : String, Cond.classLink RL z.catchType nm ∈ tq_G ∧ ("java/lang/IndexOutOfBoundsException", nm) ∈ tq_nc := by
  intro z hz
  cases hz
theorem tk_RL_108 : Cond.methodLink RL 108 yX10_arc ∈ tq_G := tq_g (i := 1498) (by decide +kernel) rfl
theorem tk_pass_L_arc_1 : ∀ z ∈ ([⟨0, 17, 18, 13⟩] : List ExceptionTableEntry), z.catchType ≠ 0 ∧ ∃ nm : String, Cond.classLink RL z.catchType nm ∈ tq_G ∧ ("java/lang/IllegalStateException", nm) ∈ tq_nc := by
  intro z hz
  simp only [List.mem_cons, List.not_mem_nil, or_false] at hz
  rcases hz with rfl
  · exact ⟨by decide, _, tk_RL_13, by decide +kernel⟩
theorem tk_y_X10_arc : tq_yok yX10_arc cX10_arc 5 (some .boolean) 4 := ⟨tq_g (i := 1501) (by decide +kernel) rfl, tq_g (i := 53) (by decide +kernel) rfl, ⟨by decide +kernel, by decide +kernel⟩, by decide +kernel, by decide⟩
theorem tk_v_X10_arc : tq_vok yX10_arc := ⟨tq_g (i := 1499) (by decide +kernel) rfl, tq_g (i := 1500) (by decide +kernel) rfl⟩
theorem tk_pass_L_arc_0 : ∀ z ∈ ([] : List ExceptionTableEntry), z.catchType ≠ 0 ∧ ∃ nm : String, Cond.classLink RL z.catchType nm ∈ tq_G ∧ ("java/lang/IndexOutOfBoundsException", nm) ∈ tq_nc := by
  intro z hz
  cases hz
theorem tk_RL_112 : Cond.methodLink RL 112 yX10_setFinal ∈ tq_G := tq_g (i := 1509) (by decide +kernel) rfl
theorem tk_pass_L_fin_1 : ∀ z ∈ ([⟨0, 15, 16, 13⟩] : List ExceptionTableEntry), z.catchType ≠ 0 ∧ ∃ nm : String, Cond.classLink RL z.catchType nm ∈ tq_G ∧ ("java/lang/IllegalStateException", nm) ∈ tq_nc := by
  intro z hz
  simp only [List.mem_cons, List.not_mem_nil, or_false] at hz
  rcases hz with rfl
  · exact ⟨by decide, _, tk_RL_13, by decide +kernel⟩
theorem tk_y_X10_setFinal : tq_yok yX10_setFinal cX10_setFinal 4 (some .boolean) 3 := ⟨tq_g (i := 1512) (by decide +kernel) rfl, tq_g (i := 53) (by decide +kernel) rfl, ⟨by decide +kernel, by decide +kernel⟩, by decide +kernel, by decide⟩
theorem tk_v_X10_setFinal : tq_vok yX10_setFinal := ⟨tq_g (i := 1510) (by decide +kernel) rfl, tq_g (i := 1511) (by decide +kernel) rfl⟩
theorem tk_pass_L_fin_0 : ∀ z ∈ ([] : List ExceptionTableEntry), z.catchType ≠ 0 ∧ ∃ nm : String, Cond.classLink RL z.catchType nm ∈ tq_G ∧ ("java/lang/IndexOutOfBoundsException", nm) ∈ tq_nc := by
  intro z hz
  cases hz
theorem tk_RL_116 : Cond.methodLink RL 116 yX10_allowTexts ∈ tq_G := tq_g (i := 1520) (by decide +kernel) rfl
theorem tk_pass_L_texts_1 : ∀ z ∈ ([⟨0, 14, 15, 13⟩] : List ExceptionTableEntry), z.catchType ≠ 0 ∧ ∃ nm : String, Cond.classLink RL z.catchType nm ∈ tq_G ∧ ("java/lang/IllegalStateException", nm) ∈ tq_nc := by
  intro z hz
  simp only [List.mem_cons, List.not_mem_nil, or_false] at hz
  rcases hz with rfl
  · exact ⟨by decide, _, tk_RL_13, by decide +kernel⟩
theorem tk_y_X10_allowTexts : tq_yok yX10_allowTexts cX10_allowTexts 3 (some .boolean) 2 := ⟨tq_g (i := 1523) (by decide +kernel) rfl, tq_g (i := 53) (by decide +kernel) rfl, ⟨by decide +kernel, by decide +kernel⟩, by decide +kernel, by decide⟩
theorem tk_v_X10_allowTexts : tq_vok yX10_allowTexts := ⟨tq_g (i := 1521) (by decide +kernel) rfl, tq_g (i := 1522) (by decide +kernel) rfl⟩
theorem tk_pass_L_texts_0 : ∀ z ∈ ([] : List ExceptionTableEntry), z.catchType ≠ 0 ∧ ∃ nm : String, Cond.classLink RL z.catchType nm ∈ tq_G ∧ ("java/lang/IndexOutOfBoundsException", nm) ∈ tq_nc := by
  intro z hz
  cases hz
theorem tk_RL_120 : Cond.methodLink RL 120 yX10_attribute ∈ tq_G := tq_g (i := 1531) (by decide +kernel) rfl
theorem tk_pass_L_says_2 : ∀ z ∈ ([⟨0, 7, 8, 13⟩, ⟨0, 7, 13, 16⟩] : List ExceptionTableEntry), z.catchType ≠ 0 ∧ ∃ nm : String, Cond.classLink RL z.catchType nm ∈ tq_G ∧ ("java/lang/IllegalStateException", nm) ∈ tq_nc := by
  intro z hz
  simp only [List.mem_cons, List.not_mem_nil, or_false] at hz
  rcases hz with rfl | rfl
  · exact ⟨by decide, _, tk_RL_13, by decide +kernel⟩
  · exact ⟨by decide, _, tk_RL_16, by decide +kernel⟩
theorem tk_y_X10_attribute : tq_yok yX10_attribute cX10_attribute 4 (some .int) 3 := ⟨tq_g (i := 1534) (by decide +kernel) rfl, tq_g (i := 53) (by decide +kernel) rfl, ⟨by decide +kernel, by decide +kernel⟩, by decide +kernel, by decide⟩
theorem tk_v_X10_attribute : tq_vok yX10_attribute := ⟨tq_g (i := 1532) (by decide +kernel) rfl, tq_g (i := 1533) (by decide +kernel) rfl⟩
theorem tk_pass_L_says_1 : ∀ z ∈ ([⟨0, 7, 8, 13⟩] : List ExceptionTableEntry), z.catchType ≠ 0 ∧ ∃ nm : String, Cond.classLink RL z.catchType nm ∈ tq_G ∧ ("java/lang/IllegalArgumentException", nm) ∈ tq_nc := by
  intro z hz
  simp only [List.mem_cons, List.not_mem_nil, or_false] at hz
  rcases hz with rfl
  · exact ⟨by decide, _, tk_RL_13, by decide +kernel⟩
theorem tk_pass_L_says_0 : ∀ z ∈ ([] : List ExceptionTableEntry), z.catchType ≠ 0 ∧ ∃ nm : String, Cond.classLink RL z.catchType nm ∈ tq_G ∧ ("java/lang/IndexOutOfBoundsException", nm) ∈ tq_nc := by
  intro z hz
  cases hz
theorem tk_RL_123 : Cond.methodLink RL 123 yX10_setStrict ∈ tq_G := tq_g (i := 1686) (by decide +kernel) rfl
theorem tk_pass_L_strict_0 : ∀ z ∈ ([] : List ExceptionTableEntry), z.catchType ≠ 0 ∧ ∃ nm : String, Cond.classLink RL z.catchType nm ∈ tq_G ∧ ("java/lang/IllegalStateException", nm) ∈ tq_nc := by
  intro z hz
  cases hz
theorem tk_y_X10_setStrict : tq_yok yX10_setStrict cX10_setStrict 2 (some .boolean) 1 := ⟨tq_g (i := 1689) (by decide +kernel) rfl, tq_g (i := 53) (by decide +kernel) rfl, ⟨by decide +kernel, by decide +kernel⟩, by decide +kernel, by decide⟩
theorem tk_v_X10_setStrict : tq_vok yX10_setStrict := ⟨tq_g (i := 1687) (by decide +kernel) rfl, tq_g (i := 1688) (by decide +kernel) rfl⟩
theorem tk_RL_127 : Cond.methodLink RL 127 yX10_types ∈ tq_G := tq_g (i := 1220) (by decide +kernel) rfl
theorem tk_pass_L_types_0 : ∀ z ∈ ([] : List ExceptionTableEntry), z.catchType ≠ 0 ∧ ∃ nm : String, Cond.classLink RL z.catchType nm ∈ tq_G ∧ ("java/lang/IndexOutOfBoundsException", nm) ∈ tq_nc := by
  intro z hz
  cases hz
theorem tk_y_X10_types : tq_yok yX10_types cX10_types 2 (some .int) 1 := ⟨tq_g (i := 1223) (by decide +kernel) rfl, tq_g (i := 53) (by decide +kernel) rfl, ⟨by decide +kernel, by decide +kernel⟩, by decide +kernel, by decide⟩
theorem tk_v_X10_types : tq_vok yX10_types := ⟨tq_g (i := 1221) (by decide +kernel) rfl, tq_g (i := 1222) (by decide +kernel) rfl⟩
theorem tk_RL_130 : Cond.methodLink RL 130 yX10_infer ∈ tq_G := tq_g (i := 1376) (by decide +kernel) rfl
theorem tk_pass_L_infer_0 : ∀ z ∈ ([] : List ExceptionTableEntry), z.catchType ≠ 0 ∧ ∃ nm : String, Cond.classLink RL z.catchType nm ∈ tq_G ∧ ("java/lang/IndexOutOfBoundsException", nm) ∈ tq_nc := by
  intro z hz
  cases hz
theorem tk_y_X10_infer : tq_yok yX10_infer cX10_infer 2 (some .int) 1 := ⟨tq_g (i := 1379) (by decide +kernel) rfl, tq_g (i := 53) (by decide +kernel) rfl, ⟨by decide +kernel, by decide +kernel⟩, by decide +kernel, by decide⟩
theorem tk_v_X10_infer : tq_vok yX10_infer := ⟨tq_g (i := 1377) (by decide +kernel) rfl, tq_g (i := 1378) (by decide +kernel) rfl⟩
theorem tk_RL_133 : Cond.methodLink RL 133 yX10_index ∈ tq_G := tq_g (i := 1542) (by decide +kernel) rfl
theorem tk_pass_L_index_0 : ∀ z ∈ ([] : List ExceptionTableEntry), z.catchType ≠ 0 ∧ ∃ nm : String, Cond.classLink RL z.catchType nm ∈ tq_G ∧ ("java/lang/IllegalArgumentException", nm) ∈ tq_nc := by
  intro z hz
  cases hz
theorem tk_y_X10_index : tq_yok yX10_index cX10_index 2 (some .boolean) 1 := ⟨tq_g (i := 1545) (by decide +kernel) rfl, tq_g (i := 53) (by decide +kernel) rfl, ⟨by decide +kernel, by decide +kernel⟩, by decide +kernel, by decide⟩
theorem tk_v_X10_index : tq_vok yX10_index := ⟨tq_g (i := 1543) (by decide +kernel) rfl, tq_g (i := 1544) (by decide +kernel) rfl⟩
theorem tk_RL_137 : Cond.methodLink RL 137 yX10_plan ∈ tq_G := tq_g (i := 1418) (by decide +kernel) rfl
theorem tk_pass_L_plan_0 : ∀ z ∈ ([] : List ExceptionTableEntry), z.catchType ≠ 0 ∧ ∃ nm : String, Cond.classLink RL z.catchType nm ∈ tq_G ∧ ("java/lang/IndexOutOfBoundsException", nm) ∈ tq_nc := by
  intro z hz
  cases hz
theorem tk_y_X10_plan : tq_yok yX10_plan cX10_plan 5 (some .int) 1 := ⟨tq_g (i := 1421) (by decide +kernel) rfl, tq_g (i := 53) (by decide +kernel) rfl, ⟨by decide +kernel, by decide +kernel⟩, by decide +kernel, by decide⟩
theorem tk_v_X10_plan : tq_vok yX10_plan := ⟨tq_g (i := 1419) (by decide +kernel) rfl, tq_g (i := 1420) (by decide +kernel) rfl⟩
theorem tk_RL_140 : Cond.methodLink RL 140 yX10_view ∈ tq_G := tq_g (i := 1447) (by decide +kernel) rfl
theorem tk_pass_L_view_1 : ∀ z ∈ ([⟨0, 5, 6, 13⟩] : List ExceptionTableEntry), z.catchType ≠ 0 ∧ ∃ nm : String, Cond.classLink RL z.catchType nm ∈ tq_G ∧ ("java/lang/IllegalStateException", nm) ∈ tq_nc := by
  intro z hz
  simp only [List.mem_cons, List.not_mem_nil, or_false] at hz
  rcases hz with rfl
  · exact ⟨by decide, _, tk_RL_13, by decide +kernel⟩
theorem tk_y_X10_view : tq_yok yX10_view cX10_view 2 (some .int) 1 := ⟨tq_g (i := 1450) (by decide +kernel) rfl, tq_g (i := 53) (by decide +kernel) rfl, ⟨by decide +kernel, by decide +kernel⟩, by decide +kernel, by decide⟩
theorem tk_v_X10_view : tq_vok yX10_view := ⟨tq_g (i := 1448) (by decide +kernel) rfl, tq_g (i := 1449) (by decide +kernel) rfl⟩
theorem tk_pass_L_view_0 : ∀ z ∈ ([] : List ExceptionTableEntry), z.catchType ≠ 0 ∧ ∃ nm : String, Cond.classLink RL z.catchType nm ∈ tq_G ∧ ("java/lang/IndexOutOfBoundsException", nm) ∈ tq_nc := by
  intro z hz
  cases hz
theorem tk_RL_143 : Cond.methodLink RL 143 yX10_viewed ∈ tq_G := tq_g (i := 1463) (by decide +kernel) rfl
theorem tk_pass_L_viewed_0 : ∀ z ∈ ([] : List ExceptionTableEntry), z.catchType ≠ 0 ∧ ∃ nm : String, Cond.classLink RL z.catchType nm ∈ tq_G ∧ ("java/lang/IndexOutOfBoundsException", nm) ∈ tq_nc := by
  intro z hz
  cases hz
theorem tk_y_X10_viewed : tq_yok yX10_viewed cX10_viewed 4 (some .int) 2 := ⟨tq_g (i := 1466) (by decide +kernel) rfl, tq_g (i := 53) (by decide +kernel) rfl, ⟨by decide +kernel, by decide +kernel⟩, by decide +kernel, by decide⟩
theorem tk_v_X10_viewed : tq_vok yX10_viewed := ⟨tq_g (i := 1464) (by decide +kernel) rfl, tq_g (i := 1465) (by decide +kernel) rfl⟩
theorem tk_RL_146 : Cond.methodLink RL 146 yX10_changed ∈ tq_G := tq_g (i := 1475) (by decide +kernel) rfl
theorem tk_pass_L_changed_0 : ∀ z ∈ ([] : List ExceptionTableEntry), z.catchType ≠ 0 ∧ ∃ nm : String, Cond.classLink RL z.catchType nm ∈ tq_G ∧ ("java/lang/IndexOutOfBoundsException", nm) ∈ tq_nc := by
  intro z hz
  cases hz
theorem tk_y_X10_changed : tq_yok yX10_changed cX10_changed 2 (some .int) 1 := ⟨tq_g (i := 1478) (by decide +kernel) rfl, tq_g (i := 53) (by decide +kernel) rfl, ⟨by decide +kernel, by decide +kernel⟩, by decide +kernel, by decide⟩
theorem tk_v_X10_changed : tq_vok yX10_changed := ⟨tq_g (i := 1476) (by decide +kernel) rfl, tq_g (i := 1477) (by decide +kernel) rfl⟩
theorem tk_RL_149 : Cond.methodLink RL 149 yX10_ranked ∈ tq_G := tq_g (i := 1549) (by decide +kernel) rfl
theorem tk_pass_L_ranked_1 : ∀ z ∈ ([⟨0, 6, 7, 13⟩] : List ExceptionTableEntry), z.catchType ≠ 0 ∧ ∃ nm : String, Cond.classLink RL z.catchType nm ∈ tq_G ∧ ("java/lang/IllegalArgumentException", nm) ∈ tq_nc := by
  intro z hz
  simp only [List.mem_cons, List.not_mem_nil, or_false] at hz
  rcases hz with rfl
  · exact ⟨by decide, _, tk_RL_13, by decide +kernel⟩
theorem tk_y_X10_ranked : tq_yok yX10_ranked cX10_ranked 3 (some .int) 2 := ⟨tq_g (i := 1552) (by decide +kernel) rfl, tq_g (i := 53) (by decide +kernel) rfl, ⟨by decide +kernel, by decide +kernel⟩, by decide +kernel, by decide⟩
theorem tk_v_X10_ranked : tq_vok yX10_ranked := ⟨tq_g (i := 1550) (by decide +kernel) rfl, tq_g (i := 1551) (by decide +kernel) rfl⟩
theorem tk_pass_L_ranked_0 : ∀ z ∈ ([] : List ExceptionTableEntry), z.catchType ≠ 0 ∧ ∃ nm : String, Cond.classLink RL z.catchType nm ∈ tq_G ∧ ("java/lang/IndexOutOfBoundsException", nm) ∈ tq_nc := by
  intro z hz
  cases hz
theorem tk_RL_152 : Cond.methodLink RL 152 yX10_keep ∈ tq_G := tq_g (i := 745) (by decide +kernel) rfl
theorem tk_pass_L_keep_0 : ∀ z ∈ ([] : List ExceptionTableEntry), z.catchType ≠ 0 ∧ ∃ nm : String, Cond.classLink RL z.catchType nm ∈ tq_G ∧ ("java/lang/IllegalStateException", nm) ∈ tq_nc := by
  intro z hz
  cases hz
theorem tk_y_X10_keep : tq_yok yX10_keep cX10_keep 2 (some .int) 0 := ⟨tq_g (i := 748) (by decide +kernel) rfl, tq_g (i := 53) (by decide +kernel) rfl, ⟨by decide +kernel, by decide +kernel⟩, by decide +kernel, by decide⟩
theorem tk_v_X10_keep : tq_vok yX10_keep := ⟨tq_g (i := 746) (by decide +kernel) rfl, tq_g (i := 747) (by decide +kernel) rfl⟩
theorem tk_RL_155 : Cond.methodLink RL 155 yX10_take ∈ tq_G := tq_g (i := 773) (by decide +kernel) rfl
theorem tk_pass_L_take_1 : ∀ z ∈ ([⟨0, 5, 6, 13⟩] : List ExceptionTableEntry), z.catchType ≠ 0 ∧ ∃ nm : String, Cond.classLink RL z.catchType nm ∈ tq_G ∧ ("java/lang/IllegalStateException", nm) ∈ tq_nc := by
  intro z hz
  simp only [List.mem_cons, List.not_mem_nil, or_false] at hz
  rcases hz with rfl
  · exact ⟨by decide, _, tk_RL_13, by decide +kernel⟩
theorem tk_y_X10_take : tq_yok yX10_take cX10_take 3 (some .int) 1 := ⟨tq_g (i := 776) (by decide +kernel) rfl, tq_g (i := 53) (by decide +kernel) rfl, ⟨by decide +kernel, by decide +kernel⟩, by decide +kernel, by decide⟩
theorem tk_v_X10_take : tq_vok yX10_take := ⟨tq_g (i := 774) (by decide +kernel) rfl, tq_g (i := 775) (by decide +kernel) rfl⟩
theorem tk_pass_L_take_0 : ∀ z ∈ ([] : List ExceptionTableEntry), z.catchType ≠ 0 ∧ ∃ nm : String, Cond.classLink RL z.catchType nm ∈ tq_G ∧ ("java/lang/IndexOutOfBoundsException", nm) ∈ tq_nc := by
  intro z hz
  cases hz
theorem tk_RL_158 : Cond.methodLink RL 158 yX10_distance ∈ tq_G := tq_g (i := 960) (by decide +kernel) rfl
theorem tk_pass_L_distance_0 : ∀ z ∈ ([] : List ExceptionTableEntry), z.catchType ≠ 0 ∧ ∃ nm : String, Cond.classLink RL z.catchType nm ∈ tq_G ∧ ("java/lang/IndexOutOfBoundsException", nm) ∈ tq_nc := by
  intro z hz
  cases hz
theorem tk_y_X10_distance : tq_yok yX10_distance cX10_distance 7 (some .int) 2 := ⟨tq_g (i := 963) (by decide +kernel) rfl, tq_g (i := 53) (by decide +kernel) rfl, ⟨by decide +kernel, by decide +kernel⟩, by decide +kernel, by decide⟩
theorem tk_v_X10_distance : tq_vok yX10_distance := ⟨tq_g (i := 961) (by decide +kernel) rfl, tq_g (i := 962) (by decide +kernel) rfl⟩
theorem tk_RL_161 : Cond.methodLink RL 161 yX10_odds ∈ tq_G := tq_g (i := 1042) (by decide +kernel) rfl
theorem tk_pass_L_odds_0 : ∀ z ∈ ([] : List ExceptionTableEntry), z.catchType ≠ 0 ∧ ∃ nm : String, Cond.classLink RL z.catchType nm ∈ tq_G ∧ ("java/lang/IndexOutOfBoundsException", nm) ∈ tq_nc := by
  intro z hz
  cases hz
theorem tk_y_X10_odds : tq_yok yX10_odds cX10_odds 9 (some .int) 3 := ⟨tq_g (i := 1045) (by decide +kernel) rfl, tq_g (i := 53) (by decide +kernel) rfl, ⟨by decide +kernel, by decide +kernel⟩, by decide +kernel, by decide⟩
theorem tk_v_X10_odds : tq_vok yX10_odds := ⟨tq_g (i := 1043) (by decide +kernel) rfl, tq_g (i := 1044) (by decide +kernel) rfl⟩
theorem tk_RL_164 : Cond.methodLink RL 164 yX10_hide ∈ tq_G := tq_g (i := 1455) (by decide +kernel) rfl
theorem tk_pass_L_hide_1 : ∀ z ∈ ([⟨0, 13, 14, 13⟩] : List ExceptionTableEntry), z.catchType ≠ 0 ∧ ∃ nm : String, Cond.classLink RL z.catchType nm ∈ tq_G ∧ ("java/lang/IllegalStateException", nm) ∈ tq_nc := by
  intro z hz
  simp only [List.mem_cons, List.not_mem_nil, or_false] at hz
  rcases hz with rfl
  · exact ⟨by decide, _, tk_RL_13, by decide +kernel⟩
theorem tk_y_X10_hide : tq_yok yX10_hide cX10_hide 2 (some .boolean) 1 := ⟨tq_g (i := 1458) (by decide +kernel) rfl, tq_g (i := 53) (by decide +kernel) rfl, ⟨by decide +kernel, by decide +kernel⟩, by decide +kernel, by decide⟩
theorem tk_v_X10_hide : tq_vok yX10_hide := ⟨tq_g (i := 1456) (by decide +kernel) rfl, tq_g (i := 1457) (by decide +kernel) rfl⟩
theorem tk_pass_L_hide_0 : ∀ z ∈ ([] : List ExceptionTableEntry), z.catchType ≠ 0 ∧ ∃ nm : String, Cond.classLink RL z.catchType nm ∈ tq_G ∧ ("java/lang/IndexOutOfBoundsException", nm) ∈ tq_nc := by
  intro z hz
  cases hz
theorem tk_RL_167 : Cond.methodLink RL 167 yX10_isSeen ∈ tq_G := tq_g (i := 1197) (by decide +kernel) rfl
theorem tk_pass_L_seen_0 : ∀ z ∈ ([] : List ExceptionTableEntry), z.catchType ≠ 0 ∧ ∃ nm : String, Cond.classLink RL z.catchType nm ∈ tq_G ∧ ("java/lang/IndexOutOfBoundsException", nm) ∈ tq_nc := by
  intro z hz
  cases hz
theorem tk_y_X10_isSeen : tq_yok yX10_isSeen cX10_isSeen 2 (some .boolean) 1 := ⟨tq_g (i := 1200) (by decide +kernel) rfl, tq_g (i := 53) (by decide +kernel) rfl, ⟨by decide +kernel, by decide +kernel⟩, by decide +kernel, by decide⟩
theorem tk_v_X10_isSeen : tq_vok yX10_isSeen := ⟨tq_g (i := 1198) (by decide +kernel) rfl, tq_g (i := 1199) (by decide +kernel) rfl⟩
theorem tk_RL_170 : Cond.constant RL 170 (15526249) ∈ tq_G := tq_g (i := 1054) (by decide +kernel) rfl
theorem tk_ks_14249 : (Int16.ofInt (14249)).toInt32 = (14249 : Int32) := by decide +kernel
theorem tk_RL_171 : Cond.constant RL 171 (2147483647) ∈ tq_G := tq_g (i := 1055) (by decide +kernel) rfl
abbrev mL_element : tq_M := (RL, cL_element, 5, (some .int), false, [(0, 7, 8, 13), (0, 7, 13, 16), (0, 7, 18, 19)], none)
def f_L_element (a0 : Nat) (a1 : Int32) (a2 : Int32) (a3 : Int32) (h : tq_H) : Option (Int32 × tq_H) :=
  (tq_is h a0 10).bind fun _ =>
  (f_X10_insertElement a0 a1 a2 a3 h).bind fun v1 => match v1 with
  | (.inl E1, w3) =>
    if E1 = "java/lang/IndexOutOfBoundsException" then
      some ((-2000000001 : Int32), w3)
    else
      if E1 = "java/lang/IllegalArgumentException" then
        some ((-2000000002 : Int32), w3)
      else
        if E1 = "java/lang/IllegalStateException" then
          some ((-2000000003 : Int32), w3)
        else
          none
  | (.inr v4, w3) =>
    some (v4, w3)
set_option maxHeartbeats 4000000 in
set_option maxRecDepth 20000 in
theorem w_L_element {l : Launch} {d : Nat} (hd9 : 9 ≤ d) {a0 : Nat} {a1 : Int32} {a2 : Int32} {a3 : Int32} {bc bs : Nat} {h : tq_H} {o : Int32 × tq_H} {Q : tq_R → tq_H → Prop} (hf : f_L_element a0 a1 a2 a3 h = some o) (hb : ∀ E g, f_X10_insertElement a0 a1 a2 a3 h = some (.inl E, g) → 1 ≤ bc ∧ 6 ≤ bs) (hQ : ∀ r h9, r = .inl (some (.int o.1)) ∧ o.2 = h9 → Q r h9) : tq_CW l yL_element cL_element 5 (some .int) [(0, 7, 8, 13), (0, 7, 13, 16), (0, 7, 18, 19)] d (0 + bc) (0 + bs) [.ref a0, .int a1, .int a2, .int a3] h Q := by
  refine tq_bodyW (y := yL_element) (by decide +kernel) (Nat.le_of_ble_eq_true rfl) ?_
  show tq_W l mL_element d (0 + bc) (0 + bs) Q 0 [(0, .ref a0), (1, .int a1), (2, .int a2), (3, .int a3)] [] h
  refine tq_more (bc := bc) (bs := bs) (by omega) (by omega) ?_
  refine tq_aload_n (M := mL_element) (pc := 0) dL_element_0 rfl ?_
  refine tq_iload_n (M := mL_element) (pc := 1) dL_element_1 rfl ?_
  refine tq_iload_n (M := mL_element) (pc := 2) dL_element_2 rfl ?_
  refine tq_iload_n (M := mL_element) (pc := 3) dL_element_3 rfl ?_
  obtain ⟨⟨⟩, eu2, hf⟩ := tq_be hf
  obtain ⟨fsu2, eu2⟩ := tq_is_s eu2
  obtain ⟨⟨E1 | v4, w3⟩, ev1, hf⟩ := tq_be hf
  · skip
    by_cases c0 : E1 = "java/lang/IndexOutOfBoundsException"
    · have hf := tq_ifp hf c0
      subst c0
      have hb9 := hb _ _ ev1
      refine tq_calV (M := mL_element) (pc := 4) (S := []) tk_y_X10_insertElement tk_v_X10_insertElement tk_RL_7 dL_element_4 [.int a1, .int a2, .int a3] rfl (S0 := _) rfl eu2 rfl (Nat.le_of_ble_eq_true rfl) (d1 := d - 1) (b1 := 0 + bc) (s1 := 0 + bs) (bc' := 0) (bs' := 0) (Q1 := fun r h9 => r = tq_enI ((.inl "java/lang/IndexOutOfBoundsException", w3) : (String ⊕ Int32) × tq_H).1 ∧ ((.inl "java/lang/IndexOutOfBoundsException", w3) : (String ⊕ Int32) × tq_H).2 = h9) (by omega) (by omega) (by omega) (w_X10_insertElement (bc := bc) (bs := bs) (by omega) ev1 (fun _ _ _ => hb9) (fun _ _ q => q)) (fun E h9 q => ?_) (fun r9 h9 q => nomatch (show (Sum.inl r9 : tq_R) = Sum.inr _ from q.1))
      obtain ⟨q1, rfl⟩ := q
      cases (show (Sum.inr E : tq_R) = Sum.inr "java/lang/IndexOutOfBoundsException" from q1)
      refine tq_catch (M := mL_element) (pc := 4) (name := "java/lang/IndexOutOfBoundsException") [] ⟨0, 7, 8, 13⟩ [⟨0, 7, 13, 16⟩, ⟨0, 7, 18, 19⟩] rfl tk_pass_L_element_0 (by decide) (by decide) tk_RL_13 tk_cast_IndexOutOfBoundsException ?_
      refine tq_xstore (M := mL_element) (pc := 8) dL_element_8 (L2 := [(4, .float 0), (0, .ref a0), (1, .int a1), (2, .int a2), (3, .int a3)]) (by decide) rfl ?_
      refine tq_ldc (M := mL_element) (pc := 10) dL_element_10 tk_RL_15 ?_
      refine tq_iret (M := mL_element) (pc := 12) dL_element_12 rfl ?_
      cases (Option.some.inj hf)
      exact hQ _ _ ⟨rfl, rfl⟩
    have hf := tq_ifn hf c0
    by_cases c1 : E1 = "java/lang/IllegalArgumentException"
    · have hf := tq_ifp hf c1
      subst c1
      have hb9 := hb _ _ ev1
      refine tq_calV (M := mL_element) (pc := 4) (S := []) tk_y_X10_insertElement tk_v_X10_insertElement tk_RL_7 dL_element_4 [.int a1, .int a2, .int a3] rfl (S0 := _) rfl eu2 rfl (Nat.le_of_ble_eq_true rfl) (d1 := d - 1) (b1 := 0 + bc) (s1 := 0 + bs) (bc' := 0) (bs' := 0) (Q1 := fun r h9 => r = tq_enI ((.inl "java/lang/IllegalArgumentException", w3) : (String ⊕ Int32) × tq_H).1 ∧ ((.inl "java/lang/IllegalArgumentException", w3) : (String ⊕ Int32) × tq_H).2 = h9) (by omega) (by omega) (by omega) (w_X10_insertElement (bc := bc) (bs := bs) (by omega) ev1 (fun _ _ _ => hb9) (fun _ _ q => q)) (fun E h9 q => ?_) (fun r9 h9 q => nomatch (show (Sum.inl r9 : tq_R) = Sum.inr _ from q.1))
      obtain ⟨q1, rfl⟩ := q
      cases (show (Sum.inr E : tq_R) = Sum.inr "java/lang/IllegalArgumentException" from q1)
      refine tq_catch (M := mL_element) (pc := 4) (name := "java/lang/IllegalArgumentException") [⟨0, 7, 8, 13⟩] ⟨0, 7, 13, 16⟩ [⟨0, 7, 18, 19⟩] rfl tk_pass_L_element_1 (by decide) (by decide) tk_RL_16 tk_cast_IllegalArgumentException ?_
      refine tq_xstore (M := mL_element) (pc := 13) dL_element_13 (L2 := [(4, .float 0), (0, .ref a0), (1, .int a1), (2, .int a2), (3, .int a3)]) (by decide) rfl ?_
      refine tq_ldc (M := mL_element) (pc := 15) dL_element_15 tk_RL_18 ?_
      refine tq_iret (M := mL_element) (pc := 17) dL_element_17 rfl ?_
      cases (Option.some.inj hf)
      exact hQ _ _ ⟨rfl, rfl⟩
    have hf := tq_ifn hf c1
    by_cases c2 : E1 = "java/lang/IllegalStateException"
    · have hf := tq_ifp hf c2
      subst c2
      have hb9 := hb _ _ ev1
      refine tq_calV (M := mL_element) (pc := 4) (S := []) tk_y_X10_insertElement tk_v_X10_insertElement tk_RL_7 dL_element_4 [.int a1, .int a2, .int a3] rfl (S0 := _) rfl eu2 rfl (Nat.le_of_ble_eq_true rfl) (d1 := d - 1) (b1 := 0 + bc) (s1 := 0 + bs) (bc' := 0) (bs' := 0) (Q1 := fun r h9 => r = tq_enI ((.inl "java/lang/IllegalStateException", w3) : (String ⊕ Int32) × tq_H).1 ∧ ((.inl "java/lang/IllegalStateException", w3) : (String ⊕ Int32) × tq_H).2 = h9) (by omega) (by omega) (by omega) (w_X10_insertElement (bc := bc) (bs := bs) (by omega) ev1 (fun _ _ _ => hb9) (fun _ _ q => q)) (fun E h9 q => ?_) (fun r9 h9 q => nomatch (show (Sum.inl r9 : tq_R) = Sum.inr _ from q.1))
      obtain ⟨q1, rfl⟩ := q
      cases (show (Sum.inr E : tq_R) = Sum.inr "java/lang/IllegalStateException" from q1)
      refine tq_catch (M := mL_element) (pc := 4) (name := "java/lang/IllegalStateException") [⟨0, 7, 8, 13⟩, ⟨0, 7, 13, 16⟩] ⟨0, 7, 18, 19⟩ [] rfl tk_pass_L_element_2 (by decide) (by decide) tk_RL_19 tk_cast_IllegalStateException ?_
      refine tq_xstore (M := mL_element) (pc := 18) dL_element_18 (L2 := [(4, .float 0), (0, .ref a0), (1, .int a1), (2, .int a2), (3, .int a3)]) (by decide) rfl ?_
      refine tq_ldc (M := mL_element) (pc := 20) dL_element_20 tk_RL_21 ?_
      refine tq_iret (M := mL_element) (pc := 22) dL_element_22 rfl ?_
      cases (Option.some.inj hf)
      exact hQ _ _ ⟨rfl, rfl⟩
    have hf := tq_ifn hf c2
    cases hf
  · refine tq_calV (M := mL_element) (pc := 4) (S := []) tk_y_X10_insertElement tk_v_X10_insertElement tk_RL_7 dL_element_4 [.int a1, .int a2, .int a3] rfl (S0 := _) rfl eu2 rfl (Nat.le_of_ble_eq_true rfl) (d1 := d - 1) (b1 := 0 + 0) (s1 := 0 + 0) (bc' := bc) (bs' := bs) (Q1 := fun r h9 => r = tq_enI ((.inr v4, w3) : (String ⊕ Int32) × tq_H).1 ∧ ((.inr v4, w3) : (String ⊕ Int32) × tq_H).2 = h9) (by omega) (by omega) (by omega) (w_X10_insertElement (bc := 0) (bs := 0) (by omega) ev1 (fun E g z => by cases z) (fun _ _ q => q)) (fun E h9 q => nomatch (show (Sum.inr E : tq_R) = Sum.inl _ from q.1)) (fun r9 h9 q => ?_)
    obtain ⟨q1, rfl⟩ := q
    cases (show (Sum.inl r9 : tq_R) = Sum.inl (some (.int v4)) from q1)
    refine tq_iret (M := mL_element) (pc := 7) dL_element_7 rfl ?_
    cases (Option.some.inj hf)
    exact hQ _ _ ⟨rfl, rfl⟩
abbrev mL_text : tq_M := (RL, cL_text, 5, (some .int), false, [(0, 7, 8, 13), (0, 7, 13, 16), (0, 7, 18, 19)], none)
def f_L_text (a0 : Nat) (a1 : Int32) (a2 : Int32) (a3 : Int32) (h : tq_H) : Option (Int32 × tq_H) :=
  (tq_is h a0 10).bind fun _ =>
  (f_X10_insertText a0 a1 a2 a3 h).bind fun v1 => match v1 with
  | (.inl E1, w3) =>
    if E1 = "java/lang/IndexOutOfBoundsException" then
      some ((-2000000001 : Int32), w3)
    else
      if E1 = "java/lang/IllegalArgumentException" then
        some ((-2000000002 : Int32), w3)
      else
        if E1 = "java/lang/IllegalStateException" then
          some ((-2000000003 : Int32), w3)
        else
          none
  | (.inr v4, w3) =>
    some (v4, w3)
set_option maxHeartbeats 4000000 in
set_option maxRecDepth 20000 in
theorem w_L_text {l : Launch} {d : Nat} (hd9 : 9 ≤ d) {a0 : Nat} {a1 : Int32} {a2 : Int32} {a3 : Int32} {bc bs : Nat} {h : tq_H} {o : Int32 × tq_H} {Q : tq_R → tq_H → Prop} (hf : f_L_text a0 a1 a2 a3 h = some o) (hb : ∀ E g, f_X10_insertText a0 a1 a2 a3 h = some (.inl E, g) → 1 ≤ bc ∧ 6 ≤ bs) (hQ : ∀ r h9, r = .inl (some (.int o.1)) ∧ o.2 = h9 → Q r h9) : tq_CW l yL_text cL_text 5 (some .int) [(0, 7, 8, 13), (0, 7, 13, 16), (0, 7, 18, 19)] d (0 + bc) (0 + bs) [.ref a0, .int a1, .int a2, .int a3] h Q := by
  refine tq_bodyW (y := yL_text) (by decide +kernel) (Nat.le_of_ble_eq_true rfl) ?_
  show tq_W l mL_text d (0 + bc) (0 + bs) Q 0 [(0, .ref a0), (1, .int a1), (2, .int a2), (3, .int a3)] [] h
  refine tq_more (bc := bc) (bs := bs) (by omega) (by omega) ?_
  refine tq_aload_n (M := mL_text) (pc := 0) dL_text_0 rfl ?_
  refine tq_iload_n (M := mL_text) (pc := 1) dL_text_1 rfl ?_
  refine tq_iload_n (M := mL_text) (pc := 2) dL_text_2 rfl ?_
  refine tq_iload_n (M := mL_text) (pc := 3) dL_text_3 rfl ?_
  obtain ⟨⟨⟩, eu2, hf⟩ := tq_be hf
  obtain ⟨fsu2, eu2⟩ := tq_is_s eu2
  obtain ⟨⟨E1 | v4, w3⟩, ev1, hf⟩ := tq_be hf
  · skip
    by_cases c0 : E1 = "java/lang/IndexOutOfBoundsException"
    · have hf := tq_ifp hf c0
      subst c0
      have hb9 := hb _ _ ev1
      refine tq_calV (M := mL_text) (pc := 4) (S := []) tk_y_X10_insertText tk_v_X10_insertText tk_RL_22 dL_text_4 [.int a1, .int a2, .int a3] rfl (S0 := _) rfl eu2 rfl (Nat.le_of_ble_eq_true rfl) (d1 := d - 1) (b1 := 0 + bc) (s1 := 0 + bs) (bc' := 0) (bs' := 0) (Q1 := fun r h9 => r = tq_enI ((.inl "java/lang/IndexOutOfBoundsException", w3) : (String ⊕ Int32) × tq_H).1 ∧ ((.inl "java/lang/IndexOutOfBoundsException", w3) : (String ⊕ Int32) × tq_H).2 = h9) (by omega) (by omega) (by omega) (w_X10_insertText (bc := bc) (bs := bs) (by omega) ev1 (fun _ _ _ => hb9) (fun _ _ q => q)) (fun E h9 q => ?_) (fun r9 h9 q => nomatch (show (Sum.inl r9 : tq_R) = Sum.inr _ from q.1))
      obtain ⟨q1, rfl⟩ := q
      cases (show (Sum.inr E : tq_R) = Sum.inr "java/lang/IndexOutOfBoundsException" from q1)
      refine tq_catch (M := mL_text) (pc := 4) (name := "java/lang/IndexOutOfBoundsException") [] ⟨0, 7, 8, 13⟩ [⟨0, 7, 13, 16⟩, ⟨0, 7, 18, 19⟩] rfl tk_pass_L_text_0 (by decide) (by decide) tk_RL_13 tk_cast_IndexOutOfBoundsException ?_
      refine tq_xstore (M := mL_text) (pc := 8) dL_text_8 (L2 := [(4, .float 0), (0, .ref a0), (1, .int a1), (2, .int a2), (3, .int a3)]) (by decide) rfl ?_
      refine tq_ldc (M := mL_text) (pc := 10) dL_text_10 tk_RL_15 ?_
      refine tq_iret (M := mL_text) (pc := 12) dL_text_12 rfl ?_
      cases (Option.some.inj hf)
      exact hQ _ _ ⟨rfl, rfl⟩
    have hf := tq_ifn hf c0
    by_cases c1 : E1 = "java/lang/IllegalArgumentException"
    · have hf := tq_ifp hf c1
      subst c1
      have hb9 := hb _ _ ev1
      refine tq_calV (M := mL_text) (pc := 4) (S := []) tk_y_X10_insertText tk_v_X10_insertText tk_RL_22 dL_text_4 [.int a1, .int a2, .int a3] rfl (S0 := _) rfl eu2 rfl (Nat.le_of_ble_eq_true rfl) (d1 := d - 1) (b1 := 0 + bc) (s1 := 0 + bs) (bc' := 0) (bs' := 0) (Q1 := fun r h9 => r = tq_enI ((.inl "java/lang/IllegalArgumentException", w3) : (String ⊕ Int32) × tq_H).1 ∧ ((.inl "java/lang/IllegalArgumentException", w3) : (String ⊕ Int32) × tq_H).2 = h9) (by omega) (by omega) (by omega) (w_X10_insertText (bc := bc) (bs := bs) (by omega) ev1 (fun _ _ _ => hb9) (fun _ _ q => q)) (fun E h9 q => ?_) (fun r9 h9 q => nomatch (show (Sum.inl r9 : tq_R) = Sum.inr _ from q.1))
      obtain ⟨q1, rfl⟩ := q
      cases (show (Sum.inr E : tq_R) = Sum.inr "java/lang/IllegalArgumentException" from q1)
      refine tq_catch (M := mL_text) (pc := 4) (name := "java/lang/IllegalArgumentException") [⟨0, 7, 8, 13⟩] ⟨0, 7, 13, 16⟩ [⟨0, 7, 18, 19⟩] rfl tk_pass_L_text_1 (by decide) (by decide) tk_RL_16 tk_cast_IllegalArgumentException ?_
      refine tq_xstore (M := mL_text) (pc := 13) dL_text_13 (L2 := [(4, .float 0), (0, .ref a0), (1, .int a1), (2, .int a2), (3, .int a3)]) (by decide) rfl ?_
      refine tq_ldc (M := mL_text) (pc := 15) dL_text_15 tk_RL_18 ?_
      refine tq_iret (M := mL_text) (pc := 17) dL_text_17 rfl ?_
      cases (Option.some.inj hf)
      exact hQ _ _ ⟨rfl, rfl⟩
    have hf := tq_ifn hf c1
    by_cases c2 : E1 = "java/lang/IllegalStateException"
    · have hf := tq_ifp hf c2
      subst c2
      have hb9 := hb _ _ ev1
      refine tq_calV (M := mL_text) (pc := 4) (S := []) tk_y_X10_insertText tk_v_X10_insertText tk_RL_22 dL_text_4 [.int a1, .int a2, .int a3] rfl (S0 := _) rfl eu2 rfl (Nat.le_of_ble_eq_true rfl) (d1 := d - 1) (b1 := 0 + bc) (s1 := 0 + bs) (bc' := 0) (bs' := 0) (Q1 := fun r h9 => r = tq_enI ((.inl "java/lang/IllegalStateException", w3) : (String ⊕ Int32) × tq_H).1 ∧ ((.inl "java/lang/IllegalStateException", w3) : (String ⊕ Int32) × tq_H).2 = h9) (by omega) (by omega) (by omega) (w_X10_insertText (bc := bc) (bs := bs) (by omega) ev1 (fun _ _ _ => hb9) (fun _ _ q => q)) (fun E h9 q => ?_) (fun r9 h9 q => nomatch (show (Sum.inl r9 : tq_R) = Sum.inr _ from q.1))
      obtain ⟨q1, rfl⟩ := q
      cases (show (Sum.inr E : tq_R) = Sum.inr "java/lang/IllegalStateException" from q1)
      refine tq_catch (M := mL_text) (pc := 4) (name := "java/lang/IllegalStateException") [⟨0, 7, 8, 13⟩, ⟨0, 7, 13, 16⟩] ⟨0, 7, 18, 19⟩ [] rfl tk_pass_L_text_2 (by decide) (by decide) tk_RL_19 tk_cast_IllegalStateException ?_
      refine tq_xstore (M := mL_text) (pc := 18) dL_text_18 (L2 := [(4, .float 0), (0, .ref a0), (1, .int a1), (2, .int a2), (3, .int a3)]) (by decide) rfl ?_
      refine tq_ldc (M := mL_text) (pc := 20) dL_text_20 tk_RL_21 ?_
      refine tq_iret (M := mL_text) (pc := 22) dL_text_22 rfl ?_
      cases (Option.some.inj hf)
      exact hQ _ _ ⟨rfl, rfl⟩
    have hf := tq_ifn hf c2
    cases hf
  · refine tq_calV (M := mL_text) (pc := 4) (S := []) tk_y_X10_insertText tk_v_X10_insertText tk_RL_22 dL_text_4 [.int a1, .int a2, .int a3] rfl (S0 := _) rfl eu2 rfl (Nat.le_of_ble_eq_true rfl) (d1 := d - 1) (b1 := 0 + 0) (s1 := 0 + 0) (bc' := bc) (bs' := bs) (Q1 := fun r h9 => r = tq_enI ((.inr v4, w3) : (String ⊕ Int32) × tq_H).1 ∧ ((.inr v4, w3) : (String ⊕ Int32) × tq_H).2 = h9) (by omega) (by omega) (by omega) (w_X10_insertText (bc := 0) (bs := 0) (by omega) ev1 (fun E g z => by cases z) (fun _ _ q => q)) (fun E h9 q => nomatch (show (Sum.inr E : tq_R) = Sum.inl _ from q.1)) (fun r9 h9 q => ?_)
    obtain ⟨q1, rfl⟩ := q
    cases (show (Sum.inl r9 : tq_R) = Sum.inl (some (.int v4)) from q1)
    refine tq_iret (M := mL_text) (pc := 7) dL_text_7 rfl ?_
    cases (Option.some.inj hf)
    exact hQ _ _ ⟨rfl, rfl⟩
abbrev mL_attribute : tq_M := (RL, cL_attribute, 5, (some .int), false, [(0, 7, 8, 13), (0, 7, 13, 16), (0, 7, 18, 19)], none)
def f_L_attribute (a0 : Nat) (a1 : Int32) (a2 : Int32) (a3 : Int32) (h : tq_H) : Option (Int32 × tq_H) :=
  (tq_is h a0 10).bind fun _ =>
  (f_X10_insertAttribute a0 a1 a2 a3 h).bind fun v1 => match v1 with
  | (.inl E1, w3) =>
    if E1 = "java/lang/IndexOutOfBoundsException" then
      some ((-2000000001 : Int32), w3)
    else
      if E1 = "java/lang/IllegalArgumentException" then
        some ((-2000000002 : Int32), w3)
      else
        if E1 = "java/lang/IllegalStateException" then
          some ((-2000000003 : Int32), w3)
        else
          none
  | (.inr v4, w3) =>
    some (v4, w3)
set_option maxHeartbeats 4000000 in
set_option maxRecDepth 20000 in
theorem w_L_attribute {l : Launch} {d : Nat} (hd9 : 8 ≤ d) {a0 : Nat} {a1 : Int32} {a2 : Int32} {a3 : Int32} {bc bs : Nat} {h : tq_H} {o : Int32 × tq_H} {Q : tq_R → tq_H → Prop} (hf : f_L_attribute a0 a1 a2 a3 h = some o) (hb : ∀ E g, f_X10_insertAttribute a0 a1 a2 a3 h = some (.inl E, g) → 1 ≤ bc ∧ 6 ≤ bs) (hQ : ∀ r h9, r = .inl (some (.int o.1)) ∧ o.2 = h9 → Q r h9) : tq_CW l yL_attribute cL_attribute 5 (some .int) [(0, 7, 8, 13), (0, 7, 13, 16), (0, 7, 18, 19)] d (0 + bc) (0 + bs) [.ref a0, .int a1, .int a2, .int a3] h Q := by
  refine tq_bodyW (y := yL_attribute) (by decide +kernel) (Nat.le_of_ble_eq_true rfl) ?_
  show tq_W l mL_attribute d (0 + bc) (0 + bs) Q 0 [(0, .ref a0), (1, .int a1), (2, .int a2), (3, .int a3)] [] h
  refine tq_more (bc := bc) (bs := bs) (by omega) (by omega) ?_
  refine tq_aload_n (M := mL_attribute) (pc := 0) dL_attribute_0 rfl ?_
  refine tq_iload_n (M := mL_attribute) (pc := 1) dL_attribute_1 rfl ?_
  refine tq_iload_n (M := mL_attribute) (pc := 2) dL_attribute_2 rfl ?_
  refine tq_iload_n (M := mL_attribute) (pc := 3) dL_attribute_3 rfl ?_
  obtain ⟨⟨⟩, eu2, hf⟩ := tq_be hf
  obtain ⟨fsu2, eu2⟩ := tq_is_s eu2
  obtain ⟨⟨E1 | v4, w3⟩, ev1, hf⟩ := tq_be hf
  · skip
    by_cases c0 : E1 = "java/lang/IndexOutOfBoundsException"
    · have hf := tq_ifp hf c0
      subst c0
      have hb9 := hb _ _ ev1
      refine tq_calV (M := mL_attribute) (pc := 4) (S := []) tk_y_X10_insertAttribute tk_v_X10_insertAttribute tk_RL_25 dL_attribute_4 [.int a1, .int a2, .int a3] rfl (S0 := _) rfl eu2 rfl (Nat.le_of_ble_eq_true rfl) (d1 := d - 1) (b1 := 0 + bc) (s1 := 0 + bs) (bc' := 0) (bs' := 0) (Q1 := fun r h9 => r = tq_enI ((.inl "java/lang/IndexOutOfBoundsException", w3) : (String ⊕ Int32) × tq_H).1 ∧ ((.inl "java/lang/IndexOutOfBoundsException", w3) : (String ⊕ Int32) × tq_H).2 = h9) (by omega) (by omega) (by omega) (w_X10_insertAttribute (bc := bc) (bs := bs) (by omega) ev1 (fun _ _ _ => hb9) (fun _ _ q => q)) (fun E h9 q => ?_) (fun r9 h9 q => nomatch (show (Sum.inl r9 : tq_R) = Sum.inr _ from q.1))
      obtain ⟨q1, rfl⟩ := q
      cases (show (Sum.inr E : tq_R) = Sum.inr "java/lang/IndexOutOfBoundsException" from q1)
      refine tq_catch (M := mL_attribute) (pc := 4) (name := "java/lang/IndexOutOfBoundsException") [] ⟨0, 7, 8, 13⟩ [⟨0, 7, 13, 16⟩, ⟨0, 7, 18, 19⟩] rfl tk_pass_L_attribute_0 (by decide) (by decide) tk_RL_13 tk_cast_IndexOutOfBoundsException ?_
      refine tq_xstore (M := mL_attribute) (pc := 8) dL_attribute_8 (L2 := [(4, .float 0), (0, .ref a0), (1, .int a1), (2, .int a2), (3, .int a3)]) (by decide) rfl ?_
      refine tq_ldc (M := mL_attribute) (pc := 10) dL_attribute_10 tk_RL_15 ?_
      refine tq_iret (M := mL_attribute) (pc := 12) dL_attribute_12 rfl ?_
      cases (Option.some.inj hf)
      exact hQ _ _ ⟨rfl, rfl⟩
    have hf := tq_ifn hf c0
    by_cases c1 : E1 = "java/lang/IllegalArgumentException"
    · have hf := tq_ifp hf c1
      subst c1
      have hb9 := hb _ _ ev1
      refine tq_calV (M := mL_attribute) (pc := 4) (S := []) tk_y_X10_insertAttribute tk_v_X10_insertAttribute tk_RL_25 dL_attribute_4 [.int a1, .int a2, .int a3] rfl (S0 := _) rfl eu2 rfl (Nat.le_of_ble_eq_true rfl) (d1 := d - 1) (b1 := 0 + bc) (s1 := 0 + bs) (bc' := 0) (bs' := 0) (Q1 := fun r h9 => r = tq_enI ((.inl "java/lang/IllegalArgumentException", w3) : (String ⊕ Int32) × tq_H).1 ∧ ((.inl "java/lang/IllegalArgumentException", w3) : (String ⊕ Int32) × tq_H).2 = h9) (by omega) (by omega) (by omega) (w_X10_insertAttribute (bc := bc) (bs := bs) (by omega) ev1 (fun _ _ _ => hb9) (fun _ _ q => q)) (fun E h9 q => ?_) (fun r9 h9 q => nomatch (show (Sum.inl r9 : tq_R) = Sum.inr _ from q.1))
      obtain ⟨q1, rfl⟩ := q
      cases (show (Sum.inr E : tq_R) = Sum.inr "java/lang/IllegalArgumentException" from q1)
      refine tq_catch (M := mL_attribute) (pc := 4) (name := "java/lang/IllegalArgumentException") [⟨0, 7, 8, 13⟩] ⟨0, 7, 13, 16⟩ [⟨0, 7, 18, 19⟩] rfl tk_pass_L_attribute_1 (by decide) (by decide) tk_RL_16 tk_cast_IllegalArgumentException ?_
      refine tq_xstore (M := mL_attribute) (pc := 13) dL_attribute_13 (L2 := [(4, .float 0), (0, .ref a0), (1, .int a1), (2, .int a2), (3, .int a3)]) (by decide) rfl ?_
      refine tq_ldc (M := mL_attribute) (pc := 15) dL_attribute_15 tk_RL_18 ?_
      refine tq_iret (M := mL_attribute) (pc := 17) dL_attribute_17 rfl ?_
      cases (Option.some.inj hf)
      exact hQ _ _ ⟨rfl, rfl⟩
    have hf := tq_ifn hf c1
    by_cases c2 : E1 = "java/lang/IllegalStateException"
    · have hf := tq_ifp hf c2
      subst c2
      have hb9 := hb _ _ ev1
      refine tq_calV (M := mL_attribute) (pc := 4) (S := []) tk_y_X10_insertAttribute tk_v_X10_insertAttribute tk_RL_25 dL_attribute_4 [.int a1, .int a2, .int a3] rfl (S0 := _) rfl eu2 rfl (Nat.le_of_ble_eq_true rfl) (d1 := d - 1) (b1 := 0 + bc) (s1 := 0 + bs) (bc' := 0) (bs' := 0) (Q1 := fun r h9 => r = tq_enI ((.inl "java/lang/IllegalStateException", w3) : (String ⊕ Int32) × tq_H).1 ∧ ((.inl "java/lang/IllegalStateException", w3) : (String ⊕ Int32) × tq_H).2 = h9) (by omega) (by omega) (by omega) (w_X10_insertAttribute (bc := bc) (bs := bs) (by omega) ev1 (fun _ _ _ => hb9) (fun _ _ q => q)) (fun E h9 q => ?_) (fun r9 h9 q => nomatch (show (Sum.inl r9 : tq_R) = Sum.inr _ from q.1))
      obtain ⟨q1, rfl⟩ := q
      cases (show (Sum.inr E : tq_R) = Sum.inr "java/lang/IllegalStateException" from q1)
      refine tq_catch (M := mL_attribute) (pc := 4) (name := "java/lang/IllegalStateException") [⟨0, 7, 8, 13⟩, ⟨0, 7, 13, 16⟩] ⟨0, 7, 18, 19⟩ [] rfl tk_pass_L_attribute_2 (by decide) (by decide) tk_RL_19 tk_cast_IllegalStateException ?_
      refine tq_xstore (M := mL_attribute) (pc := 18) dL_attribute_18 (L2 := [(4, .float 0), (0, .ref a0), (1, .int a1), (2, .int a2), (3, .int a3)]) (by decide) rfl ?_
      refine tq_ldc (M := mL_attribute) (pc := 20) dL_attribute_20 tk_RL_21 ?_
      refine tq_iret (M := mL_attribute) (pc := 22) dL_attribute_22 rfl ?_
      cases (Option.some.inj hf)
      exact hQ _ _ ⟨rfl, rfl⟩
    have hf := tq_ifn hf c2
    cases hf
  · refine tq_calV (M := mL_attribute) (pc := 4) (S := []) tk_y_X10_insertAttribute tk_v_X10_insertAttribute tk_RL_25 dL_attribute_4 [.int a1, .int a2, .int a3] rfl (S0 := _) rfl eu2 rfl (Nat.le_of_ble_eq_true rfl) (d1 := d - 1) (b1 := 0 + 0) (s1 := 0 + 0) (bc' := bc) (bs' := bs) (Q1 := fun r h9 => r = tq_enI ((.inr v4, w3) : (String ⊕ Int32) × tq_H).1 ∧ ((.inr v4, w3) : (String ⊕ Int32) × tq_H).2 = h9) (by omega) (by omega) (by omega) (w_X10_insertAttribute (bc := 0) (bs := 0) (by omega) ev1 (fun E g z => by cases z) (fun _ _ q => q)) (fun E h9 q => nomatch (show (Sum.inr E : tq_R) = Sum.inl _ from q.1)) (fun r9 h9 q => ?_)
    obtain ⟨q1, rfl⟩ := q
    cases (show (Sum.inl r9 : tq_R) = Sum.inl (some (.int v4)) from q1)
    refine tq_iret (M := mL_attribute) (pc := 7) dL_attribute_7 rfl ?_
    cases (Option.some.inj hf)
    exact hQ _ _ ⟨rfl, rfl⟩
abbrev mL_remove : tq_M := (RL, cL_remove, 3, (some .int), false, [(0, 5, 6, 13), (0, 5, 10, 19)], none)
def f_L_remove (a0 : Nat) (a1 : Int32) (h : tq_H) : Option (Int32 × tq_H) :=
  (tq_is h a0 10).bind fun _ =>
  (f_X10_remove a0 a1 h).bind fun v1 => match v1 with
  | (.inl E1, w3) =>
    if E1 = "java/lang/IndexOutOfBoundsException" then
      some ((-2000000001 : Int32), w3)
    else
      if E1 = "java/lang/IllegalStateException" then
        some ((-2000000003 : Int32), w3)
      else
        none
  | (.inr v4, w3) =>
    some (v4, w3)
set_option maxHeartbeats 4000000 in
set_option maxRecDepth 20000 in
theorem w_L_remove {l : Launch} {d : Nat} (hd9 : 8 ≤ d) {a0 : Nat} {a1 : Int32} {bc bs : Nat} {h : tq_H} {o : Int32 × tq_H} {Q : tq_R → tq_H → Prop} (hf : f_L_remove a0 a1 h = some o) (hb : ∀ E g, f_X10_remove a0 a1 h = some (.inl E, g) → 1 ≤ bc ∧ 6 ≤ bs) (hQ : ∀ r h9, r = .inl (some (.int o.1)) ∧ o.2 = h9 → Q r h9) : tq_CW l yL_remove cL_remove 3 (some .int) [(0, 5, 6, 13), (0, 5, 10, 19)] d (0 + bc) (0 + bs) [.ref a0, .int a1] h Q := by
  refine tq_bodyW (y := yL_remove) (by decide +kernel) (Nat.le_of_ble_eq_true rfl) ?_
  show tq_W l mL_remove d (0 + bc) (0 + bs) Q 0 [(0, .ref a0), (1, .int a1)] [] h
  refine tq_more (bc := bc) (bs := bs) (by omega) (by omega) ?_
  refine tq_aload_n (M := mL_remove) (pc := 0) dL_remove_0 rfl ?_
  refine tq_iload_n (M := mL_remove) (pc := 1) dL_remove_1 rfl ?_
  obtain ⟨⟨⟩, eu2, hf⟩ := tq_be hf
  obtain ⟨fsu2, eu2⟩ := tq_is_s eu2
  obtain ⟨⟨E1 | v4, w3⟩, ev1, hf⟩ := tq_be hf
  · skip
    by_cases c0 : E1 = "java/lang/IndexOutOfBoundsException"
    · have hf := tq_ifp hf c0
      subst c0
      have hb9 := hb _ _ ev1
      refine tq_calV (M := mL_remove) (pc := 2) (S := []) tk_y_X10_remove tk_v_X10_remove tk_RL_28 dL_remove_2 [.int a1] rfl (S0 := _) rfl eu2 rfl (Nat.le_of_ble_eq_true rfl) (d1 := d - 1) (b1 := 0 + bc) (s1 := 0 + bs) (bc' := 0) (bs' := 0) (Q1 := fun r h9 => r = tq_enI ((.inl "java/lang/IndexOutOfBoundsException", w3) : (String ⊕ Int32) × tq_H).1 ∧ ((.inl "java/lang/IndexOutOfBoundsException", w3) : (String ⊕ Int32) × tq_H).2 = h9) (by omega) (by omega) (by omega) (w_X10_remove (bc := bc) (bs := bs) (by omega) ev1 (fun _ _ _ => hb9) (fun _ _ q => q)) (fun E h9 q => ?_) (fun r9 h9 q => nomatch (show (Sum.inl r9 : tq_R) = Sum.inr _ from q.1))
      obtain ⟨q1, rfl⟩ := q
      cases (show (Sum.inr E : tq_R) = Sum.inr "java/lang/IndexOutOfBoundsException" from q1)
      refine tq_catch (M := mL_remove) (pc := 2) (name := "java/lang/IndexOutOfBoundsException") [] ⟨0, 5, 6, 13⟩ [⟨0, 5, 10, 19⟩] rfl tk_pass_L_remove_0 (by decide) (by decide) tk_RL_13 tk_cast_IndexOutOfBoundsException ?_
      refine tq_xstore_n (M := mL_remove) (pc := 6) rfl dL_remove_6 (L2 := [(2, .float 0), (0, .ref a0), (1, .int a1)]) (by decide) rfl ?_
      refine tq_ldc (M := mL_remove) (pc := 7) dL_remove_7 tk_RL_15 ?_
      refine tq_iret (M := mL_remove) (pc := 9) dL_remove_9 rfl ?_
      cases (Option.some.inj hf)
      exact hQ _ _ ⟨rfl, rfl⟩
    have hf := tq_ifn hf c0
    by_cases c1 : E1 = "java/lang/IllegalStateException"
    · have hf := tq_ifp hf c1
      subst c1
      have hb9 := hb _ _ ev1
      refine tq_calV (M := mL_remove) (pc := 2) (S := []) tk_y_X10_remove tk_v_X10_remove tk_RL_28 dL_remove_2 [.int a1] rfl (S0 := _) rfl eu2 rfl (Nat.le_of_ble_eq_true rfl) (d1 := d - 1) (b1 := 0 + bc) (s1 := 0 + bs) (bc' := 0) (bs' := 0) (Q1 := fun r h9 => r = tq_enI ((.inl "java/lang/IllegalStateException", w3) : (String ⊕ Int32) × tq_H).1 ∧ ((.inl "java/lang/IllegalStateException", w3) : (String ⊕ Int32) × tq_H).2 = h9) (by omega) (by omega) (by omega) (w_X10_remove (bc := bc) (bs := bs) (by omega) ev1 (fun _ _ _ => hb9) (fun _ _ q => q)) (fun E h9 q => ?_) (fun r9 h9 q => nomatch (show (Sum.inl r9 : tq_R) = Sum.inr _ from q.1))
      obtain ⟨q1, rfl⟩ := q
      cases (show (Sum.inr E : tq_R) = Sum.inr "java/lang/IllegalStateException" from q1)
      refine tq_catch (M := mL_remove) (pc := 2) (name := "java/lang/IllegalStateException") [⟨0, 5, 6, 13⟩] ⟨0, 5, 10, 19⟩ [] rfl tk_pass_L_remove_1 (by decide) (by decide) tk_RL_19 tk_cast_IllegalStateException ?_
      refine tq_xstore_n (M := mL_remove) (pc := 10) rfl dL_remove_10 (L2 := [(2, .float 0), (0, .ref a0), (1, .int a1)]) (by decide) rfl ?_
      refine tq_ldc (M := mL_remove) (pc := 11) dL_remove_11 tk_RL_21 ?_
      refine tq_iret (M := mL_remove) (pc := 13) dL_remove_13 rfl ?_
      cases (Option.some.inj hf)
      exact hQ _ _ ⟨rfl, rfl⟩
    have hf := tq_ifn hf c1
    cases hf
  · refine tq_calV (M := mL_remove) (pc := 2) (S := []) tk_y_X10_remove tk_v_X10_remove tk_RL_28 dL_remove_2 [.int a1] rfl (S0 := _) rfl eu2 rfl (Nat.le_of_ble_eq_true rfl) (d1 := d - 1) (b1 := 0 + 0) (s1 := 0 + 0) (bc' := bc) (bs' := bs) (Q1 := fun r h9 => r = tq_enI ((.inr v4, w3) : (String ⊕ Int32) × tq_H).1 ∧ ((.inr v4, w3) : (String ⊕ Int32) × tq_H).2 = h9) (by omega) (by omega) (by omega) (w_X10_remove (bc := 0) (bs := 0) (by omega) ev1 (fun E g z => by cases z) (fun _ _ q => q)) (fun E h9 q => nomatch (show (Sum.inr E : tq_R) = Sum.inl _ from q.1)) (fun r9 h9 q => ?_)
    obtain ⟨q1, rfl⟩ := q
    cases (show (Sum.inl r9 : tq_R) = Sum.inl (some (.int v4)) from q1)
    refine tq_iret (M := mL_remove) (pc := 5) dL_remove_5 rfl ?_
    cases (Option.some.inj hf)
    exact hQ _ _ ⟨rfl, rfl⟩
abbrev mL_rename : tq_M := (RL, cL_rename, 4, (some .int), false, [(0, 6, 7, 13), (0, 6, 11, 16), (0, 6, 15, 19)], none)
def f_L_rename (a0 : Nat) (a1 : Int32) (a2 : Int32) (h : tq_H) : Option (Int32 × tq_H) :=
  (tq_is h a0 10).bind fun _ =>
  (f_X10_rename a0 a1 a2 h).bind fun v1 => match v1 with
  | (.inl E1, w3) =>
    if E1 = "java/lang/IndexOutOfBoundsException" then
      some ((-2000000001 : Int32), w3)
    else
      if E1 = "java/lang/IllegalArgumentException" then
        some ((-2000000002 : Int32), w3)
      else
        if E1 = "java/lang/IllegalStateException" then
          some ((-2000000003 : Int32), w3)
        else
          none
  | (.inr v4, w3) =>
    some (v4, w3)
set_option maxHeartbeats 4000000 in
set_option maxRecDepth 20000 in
theorem w_L_rename {l : Launch} {d : Nat} (hd9 : 8 ≤ d) {a0 : Nat} {a1 : Int32} {a2 : Int32} {bc bs : Nat} {h : tq_H} {o : Int32 × tq_H} {Q : tq_R → tq_H → Prop} (hf : f_L_rename a0 a1 a2 h = some o) (hb : ∀ E g, f_X10_rename a0 a1 a2 h = some (.inl E, g) → 1 ≤ bc ∧ 6 ≤ bs) (hQ : ∀ r h9, r = .inl (some (.int o.1)) ∧ o.2 = h9 → Q r h9) : tq_CW l yL_rename cL_rename 4 (some .int) [(0, 6, 7, 13), (0, 6, 11, 16), (0, 6, 15, 19)] d (0 + bc) (0 + bs) [.ref a0, .int a1, .int a2] h Q := by
  refine tq_bodyW (y := yL_rename) (by decide +kernel) (Nat.le_of_ble_eq_true rfl) ?_
  show tq_W l mL_rename d (0 + bc) (0 + bs) Q 0 [(0, .ref a0), (1, .int a1), (2, .int a2)] [] h
  refine tq_more (bc := bc) (bs := bs) (by omega) (by omega) ?_
  refine tq_aload_n (M := mL_rename) (pc := 0) dL_rename_0 rfl ?_
  refine tq_iload_n (M := mL_rename) (pc := 1) dL_rename_1 rfl ?_
  refine tq_iload_n (M := mL_rename) (pc := 2) dL_rename_2 rfl ?_
  obtain ⟨⟨⟩, eu2, hf⟩ := tq_be hf
  obtain ⟨fsu2, eu2⟩ := tq_is_s eu2
  obtain ⟨⟨E1 | v4, w3⟩, ev1, hf⟩ := tq_be hf
  · skip
    by_cases c0 : E1 = "java/lang/IndexOutOfBoundsException"
    · have hf := tq_ifp hf c0
      subst c0
      have hb9 := hb _ _ ev1
      refine tq_calV (M := mL_rename) (pc := 3) (S := []) tk_y_X10_rename tk_v_X10_rename tk_RL_32 dL_rename_3 [.int a1, .int a2] rfl (S0 := _) rfl eu2 rfl (Nat.le_of_ble_eq_true rfl) (d1 := d - 1) (b1 := 0 + bc) (s1 := 0 + bs) (bc' := 0) (bs' := 0) (Q1 := fun r h9 => r = tq_enI ((.inl "java/lang/IndexOutOfBoundsException", w3) : (String ⊕ Int32) × tq_H).1 ∧ ((.inl "java/lang/IndexOutOfBoundsException", w3) : (String ⊕ Int32) × tq_H).2 = h9) (by omega) (by omega) (by omega) (w_X10_rename (bc := bc) (bs := bs) (by omega) ev1 (fun _ _ _ => hb9) (fun _ _ q => q)) (fun E h9 q => ?_) (fun r9 h9 q => nomatch (show (Sum.inl r9 : tq_R) = Sum.inr _ from q.1))
      obtain ⟨q1, rfl⟩ := q
      cases (show (Sum.inr E : tq_R) = Sum.inr "java/lang/IndexOutOfBoundsException" from q1)
      refine tq_catch (M := mL_rename) (pc := 3) (name := "java/lang/IndexOutOfBoundsException") [] ⟨0, 6, 7, 13⟩ [⟨0, 6, 11, 16⟩, ⟨0, 6, 15, 19⟩] rfl tk_pass_L_rename_0 (by decide) (by decide) tk_RL_13 tk_cast_IndexOutOfBoundsException ?_
      refine tq_xstore_n (M := mL_rename) (pc := 7) rfl dL_rename_7 (L2 := [(3, .float 0), (0, .ref a0), (1, .int a1), (2, .int a2)]) (by decide) rfl ?_
      refine tq_ldc (M := mL_rename) (pc := 8) dL_rename_8 tk_RL_15 ?_
      refine tq_iret (M := mL_rename) (pc := 10) dL_rename_10 rfl ?_
      cases (Option.some.inj hf)
      exact hQ _ _ ⟨rfl, rfl⟩
    have hf := tq_ifn hf c0
    by_cases c1 : E1 = "java/lang/IllegalArgumentException"
    · have hf := tq_ifp hf c1
      subst c1
      have hb9 := hb _ _ ev1
      refine tq_calV (M := mL_rename) (pc := 3) (S := []) tk_y_X10_rename tk_v_X10_rename tk_RL_32 dL_rename_3 [.int a1, .int a2] rfl (S0 := _) rfl eu2 rfl (Nat.le_of_ble_eq_true rfl) (d1 := d - 1) (b1 := 0 + bc) (s1 := 0 + bs) (bc' := 0) (bs' := 0) (Q1 := fun r h9 => r = tq_enI ((.inl "java/lang/IllegalArgumentException", w3) : (String ⊕ Int32) × tq_H).1 ∧ ((.inl "java/lang/IllegalArgumentException", w3) : (String ⊕ Int32) × tq_H).2 = h9) (by omega) (by omega) (by omega) (w_X10_rename (bc := bc) (bs := bs) (by omega) ev1 (fun _ _ _ => hb9) (fun _ _ q => q)) (fun E h9 q => ?_) (fun r9 h9 q => nomatch (show (Sum.inl r9 : tq_R) = Sum.inr _ from q.1))
      obtain ⟨q1, rfl⟩ := q
      cases (show (Sum.inr E : tq_R) = Sum.inr "java/lang/IllegalArgumentException" from q1)
      refine tq_catch (M := mL_rename) (pc := 3) (name := "java/lang/IllegalArgumentException") [⟨0, 6, 7, 13⟩] ⟨0, 6, 11, 16⟩ [⟨0, 6, 15, 19⟩] rfl tk_pass_L_rename_1 (by decide) (by decide) tk_RL_16 tk_cast_IllegalArgumentException ?_
      refine tq_xstore_n (M := mL_rename) (pc := 11) rfl dL_rename_11 (L2 := [(3, .float 0), (0, .ref a0), (1, .int a1), (2, .int a2)]) (by decide) rfl ?_
      refine tq_ldc (M := mL_rename) (pc := 12) dL_rename_12 tk_RL_18 ?_
      refine tq_iret (M := mL_rename) (pc := 14) dL_rename_14 rfl ?_
      cases (Option.some.inj hf)
      exact hQ _ _ ⟨rfl, rfl⟩
    have hf := tq_ifn hf c1
    by_cases c2 : E1 = "java/lang/IllegalStateException"
    · have hf := tq_ifp hf c2
      subst c2
      have hb9 := hb _ _ ev1
      refine tq_calV (M := mL_rename) (pc := 3) (S := []) tk_y_X10_rename tk_v_X10_rename tk_RL_32 dL_rename_3 [.int a1, .int a2] rfl (S0 := _) rfl eu2 rfl (Nat.le_of_ble_eq_true rfl) (d1 := d - 1) (b1 := 0 + bc) (s1 := 0 + bs) (bc' := 0) (bs' := 0) (Q1 := fun r h9 => r = tq_enI ((.inl "java/lang/IllegalStateException", w3) : (String ⊕ Int32) × tq_H).1 ∧ ((.inl "java/lang/IllegalStateException", w3) : (String ⊕ Int32) × tq_H).2 = h9) (by omega) (by omega) (by omega) (w_X10_rename (bc := bc) (bs := bs) (by omega) ev1 (fun _ _ _ => hb9) (fun _ _ q => q)) (fun E h9 q => ?_) (fun r9 h9 q => nomatch (show (Sum.inl r9 : tq_R) = Sum.inr _ from q.1))
      obtain ⟨q1, rfl⟩ := q
      cases (show (Sum.inr E : tq_R) = Sum.inr "java/lang/IllegalStateException" from q1)
      refine tq_catch (M := mL_rename) (pc := 3) (name := "java/lang/IllegalStateException") [⟨0, 6, 7, 13⟩, ⟨0, 6, 11, 16⟩] ⟨0, 6, 15, 19⟩ [] rfl tk_pass_L_rename_2 (by decide) (by decide) tk_RL_19 tk_cast_IllegalStateException ?_
      refine tq_xstore_n (M := mL_rename) (pc := 15) rfl dL_rename_15 (L2 := [(3, .float 0), (0, .ref a0), (1, .int a1), (2, .int a2)]) (by decide) rfl ?_
      refine tq_ldc (M := mL_rename) (pc := 16) dL_rename_16 tk_RL_21 ?_
      refine tq_iret (M := mL_rename) (pc := 18) dL_rename_18 rfl ?_
      cases (Option.some.inj hf)
      exact hQ _ _ ⟨rfl, rfl⟩
    have hf := tq_ifn hf c2
    cases hf
  · refine tq_calV (M := mL_rename) (pc := 3) (S := []) tk_y_X10_rename tk_v_X10_rename tk_RL_32 dL_rename_3 [.int a1, .int a2] rfl (S0 := _) rfl eu2 rfl (Nat.le_of_ble_eq_true rfl) (d1 := d - 1) (b1 := 0 + 0) (s1 := 0 + 0) (bc' := bc) (bs' := bs) (Q1 := fun r h9 => r = tq_enI ((.inr v4, w3) : (String ⊕ Int32) × tq_H).1 ∧ ((.inr v4, w3) : (String ⊕ Int32) × tq_H).2 = h9) (by omega) (by omega) (by omega) (w_X10_rename (bc := 0) (bs := 0) (by omega) ev1 (fun E g z => by cases z) (fun _ _ q => q)) (fun E h9 q => nomatch (show (Sum.inr E : tq_R) = Sum.inl _ from q.1)) (fun r9 h9 q => ?_)
    obtain ⟨q1, rfl⟩ := q
    cases (show (Sum.inl r9 : tq_R) = Sum.inl (some (.int v4)) from q1)
    refine tq_iret (M := mL_rename) (pc := 6) dL_rename_6 rfl ?_
    cases (Option.some.inj hf)
    exact hQ _ _ ⟨rfl, rfl⟩
abbrev mL_revalue : tq_M := (RL, cL_revalue, 4, (some .int), false, [(0, 6, 7, 13), (0, 6, 11, 16), (0, 6, 15, 19)], none)
def f_L_revalue (a0 : Nat) (a1 : Int32) (a2 : Int32) (h : tq_H) : Option (Int32 × tq_H) :=
  (tq_is h a0 10).bind fun _ =>
  (f_X10_setValue a0 a1 a2 h).bind fun v1 => match v1 with
  | (.inl E1, w3) =>
    if E1 = "java/lang/IndexOutOfBoundsException" then
      some ((-2000000001 : Int32), w3)
    else
      if E1 = "java/lang/IllegalArgumentException" then
        some ((-2000000002 : Int32), w3)
      else
        if E1 = "java/lang/IllegalStateException" then
          some ((-2000000003 : Int32), w3)
        else
          none
  | (.inr v4, w3) =>
    some (v4, w3)
set_option maxHeartbeats 4000000 in
set_option maxRecDepth 20000 in
theorem w_L_revalue {l : Launch} {d : Nat} (hd9 : 8 ≤ d) {a0 : Nat} {a1 : Int32} {a2 : Int32} {bc bs : Nat} {h : tq_H} {o : Int32 × tq_H} {Q : tq_R → tq_H → Prop} (hf : f_L_revalue a0 a1 a2 h = some o) (hb : ∀ E g, f_X10_setValue a0 a1 a2 h = some (.inl E, g) → 1 ≤ bc ∧ 6 ≤ bs) (hQ : ∀ r h9, r = .inl (some (.int o.1)) ∧ o.2 = h9 → Q r h9) : tq_CW l yL_revalue cL_revalue 4 (some .int) [(0, 6, 7, 13), (0, 6, 11, 16), (0, 6, 15, 19)] d (0 + bc) (0 + bs) [.ref a0, .int a1, .int a2] h Q := by
  refine tq_bodyW (y := yL_revalue) (by decide +kernel) (Nat.le_of_ble_eq_true rfl) ?_
  show tq_W l mL_revalue d (0 + bc) (0 + bs) Q 0 [(0, .ref a0), (1, .int a1), (2, .int a2)] [] h
  refine tq_more (bc := bc) (bs := bs) (by omega) (by omega) ?_
  refine tq_aload_n (M := mL_revalue) (pc := 0) dL_revalue_0 rfl ?_
  refine tq_iload_n (M := mL_revalue) (pc := 1) dL_revalue_1 rfl ?_
  refine tq_iload_n (M := mL_revalue) (pc := 2) dL_revalue_2 rfl ?_
  obtain ⟨⟨⟩, eu2, hf⟩ := tq_be hf
  obtain ⟨fsu2, eu2⟩ := tq_is_s eu2
  obtain ⟨⟨E1 | v4, w3⟩, ev1, hf⟩ := tq_be hf
  · skip
    by_cases c0 : E1 = "java/lang/IndexOutOfBoundsException"
    · have hf := tq_ifp hf c0
      subst c0
      have hb9 := hb _ _ ev1
      refine tq_calV (M := mL_revalue) (pc := 3) (S := []) tk_y_X10_setValue tk_v_X10_setValue tk_RL_36 dL_revalue_3 [.int a1, .int a2] rfl (S0 := _) rfl eu2 rfl (Nat.le_of_ble_eq_true rfl) (d1 := d - 1) (b1 := 0 + bc) (s1 := 0 + bs) (bc' := 0) (bs' := 0) (Q1 := fun r h9 => r = tq_enI ((.inl "java/lang/IndexOutOfBoundsException", w3) : (String ⊕ Int32) × tq_H).1 ∧ ((.inl "java/lang/IndexOutOfBoundsException", w3) : (String ⊕ Int32) × tq_H).2 = h9) (by omega) (by omega) (by omega) (w_X10_setValue (bc := bc) (bs := bs) (by omega) ev1 (fun _ _ _ => hb9) (fun _ _ q => q)) (fun E h9 q => ?_) (fun r9 h9 q => nomatch (show (Sum.inl r9 : tq_R) = Sum.inr _ from q.1))
      obtain ⟨q1, rfl⟩ := q
      cases (show (Sum.inr E : tq_R) = Sum.inr "java/lang/IndexOutOfBoundsException" from q1)
      refine tq_catch (M := mL_revalue) (pc := 3) (name := "java/lang/IndexOutOfBoundsException") [] ⟨0, 6, 7, 13⟩ [⟨0, 6, 11, 16⟩, ⟨0, 6, 15, 19⟩] rfl tk_pass_L_revalue_0 (by decide) (by decide) tk_RL_13 tk_cast_IndexOutOfBoundsException ?_
      refine tq_xstore_n (M := mL_revalue) (pc := 7) rfl dL_revalue_7 (L2 := [(3, .float 0), (0, .ref a0), (1, .int a1), (2, .int a2)]) (by decide) rfl ?_
      refine tq_ldc (M := mL_revalue) (pc := 8) dL_revalue_8 tk_RL_15 ?_
      refine tq_iret (M := mL_revalue) (pc := 10) dL_revalue_10 rfl ?_
      cases (Option.some.inj hf)
      exact hQ _ _ ⟨rfl, rfl⟩
    have hf := tq_ifn hf c0
    by_cases c1 : E1 = "java/lang/IllegalArgumentException"
    · have hf := tq_ifp hf c1
      subst c1
      have hb9 := hb _ _ ev1
      refine tq_calV (M := mL_revalue) (pc := 3) (S := []) tk_y_X10_setValue tk_v_X10_setValue tk_RL_36 dL_revalue_3 [.int a1, .int a2] rfl (S0 := _) rfl eu2 rfl (Nat.le_of_ble_eq_true rfl) (d1 := d - 1) (b1 := 0 + bc) (s1 := 0 + bs) (bc' := 0) (bs' := 0) (Q1 := fun r h9 => r = tq_enI ((.inl "java/lang/IllegalArgumentException", w3) : (String ⊕ Int32) × tq_H).1 ∧ ((.inl "java/lang/IllegalArgumentException", w3) : (String ⊕ Int32) × tq_H).2 = h9) (by omega) (by omega) (by omega) (w_X10_setValue (bc := bc) (bs := bs) (by omega) ev1 (fun _ _ _ => hb9) (fun _ _ q => q)) (fun E h9 q => ?_) (fun r9 h9 q => nomatch (show (Sum.inl r9 : tq_R) = Sum.inr _ from q.1))
      obtain ⟨q1, rfl⟩ := q
      cases (show (Sum.inr E : tq_R) = Sum.inr "java/lang/IllegalArgumentException" from q1)
      refine tq_catch (M := mL_revalue) (pc := 3) (name := "java/lang/IllegalArgumentException") [⟨0, 6, 7, 13⟩] ⟨0, 6, 11, 16⟩ [⟨0, 6, 15, 19⟩] rfl tk_pass_L_revalue_1 (by decide) (by decide) tk_RL_16 tk_cast_IllegalArgumentException ?_
      refine tq_xstore_n (M := mL_revalue) (pc := 11) rfl dL_revalue_11 (L2 := [(3, .float 0), (0, .ref a0), (1, .int a1), (2, .int a2)]) (by decide) rfl ?_
      refine tq_ldc (M := mL_revalue) (pc := 12) dL_revalue_12 tk_RL_18 ?_
      refine tq_iret (M := mL_revalue) (pc := 14) dL_revalue_14 rfl ?_
      cases (Option.some.inj hf)
      exact hQ _ _ ⟨rfl, rfl⟩
    have hf := tq_ifn hf c1
    by_cases c2 : E1 = "java/lang/IllegalStateException"
    · have hf := tq_ifp hf c2
      subst c2
      have hb9 := hb _ _ ev1
      refine tq_calV (M := mL_revalue) (pc := 3) (S := []) tk_y_X10_setValue tk_v_X10_setValue tk_RL_36 dL_revalue_3 [.int a1, .int a2] rfl (S0 := _) rfl eu2 rfl (Nat.le_of_ble_eq_true rfl) (d1 := d - 1) (b1 := 0 + bc) (s1 := 0 + bs) (bc' := 0) (bs' := 0) (Q1 := fun r h9 => r = tq_enI ((.inl "java/lang/IllegalStateException", w3) : (String ⊕ Int32) × tq_H).1 ∧ ((.inl "java/lang/IllegalStateException", w3) : (String ⊕ Int32) × tq_H).2 = h9) (by omega) (by omega) (by omega) (w_X10_setValue (bc := bc) (bs := bs) (by omega) ev1 (fun _ _ _ => hb9) (fun _ _ q => q)) (fun E h9 q => ?_) (fun r9 h9 q => nomatch (show (Sum.inl r9 : tq_R) = Sum.inr _ from q.1))
      obtain ⟨q1, rfl⟩ := q
      cases (show (Sum.inr E : tq_R) = Sum.inr "java/lang/IllegalStateException" from q1)
      refine tq_catch (M := mL_revalue) (pc := 3) (name := "java/lang/IllegalStateException") [⟨0, 6, 7, 13⟩, ⟨0, 6, 11, 16⟩] ⟨0, 6, 15, 19⟩ [] rfl tk_pass_L_revalue_2 (by decide) (by decide) tk_RL_19 tk_cast_IllegalStateException ?_
      refine tq_xstore_n (M := mL_revalue) (pc := 15) rfl dL_revalue_15 (L2 := [(3, .float 0), (0, .ref a0), (1, .int a1), (2, .int a2)]) (by decide) rfl ?_
      refine tq_ldc (M := mL_revalue) (pc := 16) dL_revalue_16 tk_RL_21 ?_
      refine tq_iret (M := mL_revalue) (pc := 18) dL_revalue_18 rfl ?_
      cases (Option.some.inj hf)
      exact hQ _ _ ⟨rfl, rfl⟩
    have hf := tq_ifn hf c2
    cases hf
  · refine tq_calV (M := mL_revalue) (pc := 3) (S := []) tk_y_X10_setValue tk_v_X10_setValue tk_RL_36 dL_revalue_3 [.int a1, .int a2] rfl (S0 := _) rfl eu2 rfl (Nat.le_of_ble_eq_true rfl) (d1 := d - 1) (b1 := 0 + 0) (s1 := 0 + 0) (bc' := bc) (bs' := bs) (Q1 := fun r h9 => r = tq_enI ((.inr v4, w3) : (String ⊕ Int32) × tq_H).1 ∧ ((.inr v4, w3) : (String ⊕ Int32) × tq_H).2 = h9) (by omega) (by omega) (by omega) (w_X10_setValue (bc := 0) (bs := 0) (by omega) ev1 (fun E g z => by cases z) (fun _ _ q => q)) (fun E h9 q => nomatch (show (Sum.inr E : tq_R) = Sum.inl _ from q.1)) (fun r9 h9 q => ?_)
    obtain ⟨q1, rfl⟩ := q
    cases (show (Sum.inl r9 : tq_R) = Sum.inl (some (.int v4)) from q1)
    refine tq_iret (M := mL_revalue) (pc := 6) dL_revalue_6 rfl ?_
    cases (Option.some.inj hf)
    exact hQ _ _ ⟨rfl, rfl⟩
abbrev mL_move : tq_M := (RL, cL_move, 5, (some .int), false, [(0, 7, 8, 13), (0, 7, 13, 19)], none)
def f_L_move (a0 : Nat) (a1 : Int32) (a2 : Int32) (a3 : Int32) (h : tq_H) : Option (Int32 × tq_H) :=
  (tq_is h a0 10).bind fun _ =>
  (f_X10_move a0 a1 a2 a3 h).bind fun v1 => match v1 with
  | (.inl E1, w3) =>
    if E1 = "java/lang/IndexOutOfBoundsException" then
      some ((-2000000001 : Int32), w3)
    else
      if E1 = "java/lang/IllegalStateException" then
        some ((-2000000003 : Int32), w3)
      else
        none
  | (.inr v4, w3) =>
    some (v4, w3)
set_option maxHeartbeats 4000000 in
set_option maxRecDepth 20000 in
theorem w_L_move {l : Launch} {d : Nat} (hd9 : 9 ≤ d) {a0 : Nat} {a1 : Int32} {a2 : Int32} {a3 : Int32} {bc bs : Nat} {h : tq_H} {o : Int32 × tq_H} {Q : tq_R → tq_H → Prop} (hf : f_L_move a0 a1 a2 a3 h = some o) (hb : ∀ E g, f_X10_move a0 a1 a2 a3 h = some (.inl E, g) → 1 ≤ bc ∧ 6 ≤ bs) (hQ : ∀ r h9, r = .inl (some (.int o.1)) ∧ o.2 = h9 → Q r h9) : tq_CW l yL_move cL_move 5 (some .int) [(0, 7, 8, 13), (0, 7, 13, 19)] d (0 + bc) (0 + bs) [.ref a0, .int a1, .int a2, .int a3] h Q := by
  refine tq_bodyW (y := yL_move) (by decide +kernel) (Nat.le_of_ble_eq_true rfl) ?_
  show tq_W l mL_move d (0 + bc) (0 + bs) Q 0 [(0, .ref a0), (1, .int a1), (2, .int a2), (3, .int a3)] [] h
  refine tq_more (bc := bc) (bs := bs) (by omega) (by omega) ?_
  refine tq_aload_n (M := mL_move) (pc := 0) dL_move_0 rfl ?_
  refine tq_iload_n (M := mL_move) (pc := 1) dL_move_1 rfl ?_
  refine tq_iload_n (M := mL_move) (pc := 2) dL_move_2 rfl ?_
  refine tq_iload_n (M := mL_move) (pc := 3) dL_move_3 rfl ?_
  obtain ⟨⟨⟩, eu2, hf⟩ := tq_be hf
  obtain ⟨fsu2, eu2⟩ := tq_is_s eu2
  obtain ⟨⟨E1 | v4, w3⟩, ev1, hf⟩ := tq_be hf
  · skip
    by_cases c0 : E1 = "java/lang/IndexOutOfBoundsException"
    · have hf := tq_ifp hf c0
      subst c0
      have hb9 := hb _ _ ev1
      refine tq_calV (M := mL_move) (pc := 4) (S := []) tk_y_X10_move tk_v_X10_move tk_RL_39 dL_move_4 [.int a1, .int a2, .int a3] rfl (S0 := _) rfl eu2 rfl (Nat.le_of_ble_eq_true rfl) (d1 := d - 1) (b1 := 0 + bc) (s1 := 0 + bs) (bc' := 0) (bs' := 0) (Q1 := fun r h9 => r = tq_enI ((.inl "java/lang/IndexOutOfBoundsException", w3) : (String ⊕ Int32) × tq_H).1 ∧ ((.inl "java/lang/IndexOutOfBoundsException", w3) : (String ⊕ Int32) × tq_H).2 = h9) (by omega) (by omega) (by omega) (w_X10_move (bc := bc) (bs := bs) (by omega) ev1 (fun _ _ _ => hb9) (fun _ _ q => q)) (fun E h9 q => ?_) (fun r9 h9 q => nomatch (show (Sum.inl r9 : tq_R) = Sum.inr _ from q.1))
      obtain ⟨q1, rfl⟩ := q
      cases (show (Sum.inr E : tq_R) = Sum.inr "java/lang/IndexOutOfBoundsException" from q1)
      refine tq_catch (M := mL_move) (pc := 4) (name := "java/lang/IndexOutOfBoundsException") [] ⟨0, 7, 8, 13⟩ [⟨0, 7, 13, 19⟩] rfl tk_pass_L_move_0 (by decide) (by decide) tk_RL_13 tk_cast_IndexOutOfBoundsException ?_
      refine tq_xstore (M := mL_move) (pc := 8) dL_move_8 (L2 := [(4, .float 0), (0, .ref a0), (1, .int a1), (2, .int a2), (3, .int a3)]) (by decide) rfl ?_
      refine tq_ldc (M := mL_move) (pc := 10) dL_move_10 tk_RL_15 ?_
      refine tq_iret (M := mL_move) (pc := 12) dL_move_12 rfl ?_
      cases (Option.some.inj hf)
      exact hQ _ _ ⟨rfl, rfl⟩
    have hf := tq_ifn hf c0
    by_cases c1 : E1 = "java/lang/IllegalStateException"
    · have hf := tq_ifp hf c1
      subst c1
      have hb9 := hb _ _ ev1
      refine tq_calV (M := mL_move) (pc := 4) (S := []) tk_y_X10_move tk_v_X10_move tk_RL_39 dL_move_4 [.int a1, .int a2, .int a3] rfl (S0 := _) rfl eu2 rfl (Nat.le_of_ble_eq_true rfl) (d1 := d - 1) (b1 := 0 + bc) (s1 := 0 + bs) (bc' := 0) (bs' := 0) (Q1 := fun r h9 => r = tq_enI ((.inl "java/lang/IllegalStateException", w3) : (String ⊕ Int32) × tq_H).1 ∧ ((.inl "java/lang/IllegalStateException", w3) : (String ⊕ Int32) × tq_H).2 = h9) (by omega) (by omega) (by omega) (w_X10_move (bc := bc) (bs := bs) (by omega) ev1 (fun _ _ _ => hb9) (fun _ _ q => q)) (fun E h9 q => ?_) (fun r9 h9 q => nomatch (show (Sum.inl r9 : tq_R) = Sum.inr _ from q.1))
      obtain ⟨q1, rfl⟩ := q
      cases (show (Sum.inr E : tq_R) = Sum.inr "java/lang/IllegalStateException" from q1)
      refine tq_catch (M := mL_move) (pc := 4) (name := "java/lang/IllegalStateException") [⟨0, 7, 8, 13⟩] ⟨0, 7, 13, 19⟩ [] rfl tk_pass_L_move_1 (by decide) (by decide) tk_RL_19 tk_cast_IllegalStateException ?_
      refine tq_xstore (M := mL_move) (pc := 13) dL_move_13 (L2 := [(4, .float 0), (0, .ref a0), (1, .int a1), (2, .int a2), (3, .int a3)]) (by decide) rfl ?_
      refine tq_ldc (M := mL_move) (pc := 15) dL_move_15 tk_RL_21 ?_
      refine tq_iret (M := mL_move) (pc := 17) dL_move_17 rfl ?_
      cases (Option.some.inj hf)
      exact hQ _ _ ⟨rfl, rfl⟩
    have hf := tq_ifn hf c1
    cases hf
  · refine tq_calV (M := mL_move) (pc := 4) (S := []) tk_y_X10_move tk_v_X10_move tk_RL_39 dL_move_4 [.int a1, .int a2, .int a3] rfl (S0 := _) rfl eu2 rfl (Nat.le_of_ble_eq_true rfl) (d1 := d - 1) (b1 := 0 + 0) (s1 := 0 + 0) (bc' := bc) (bs' := bs) (Q1 := fun r h9 => r = tq_enI ((.inr v4, w3) : (String ⊕ Int32) × tq_H).1 ∧ ((.inr v4, w3) : (String ⊕ Int32) × tq_H).2 = h9) (by omega) (by omega) (by omega) (w_X10_move (bc := 0) (bs := 0) (by omega) ev1 (fun E g z => by cases z) (fun _ _ q => q)) (fun E h9 q => nomatch (show (Sum.inr E : tq_R) = Sum.inl _ from q.1)) (fun r9 h9 q => ?_)
    obtain ⟨q1, rfl⟩ := q
    cases (show (Sum.inl r9 : tq_R) = Sum.inl (some (.int v4)) from q1)
    refine tq_iret (M := mL_move) (pc := 7) dL_move_7 rfl ?_
    cases (Option.some.inj hf)
    exact hQ _ _ ⟨rfl, rfl⟩
abbrev mL_declare : tq_M := (RL, cL_declare, 4, (some .int), false, [(0, 6, 7, 13), (0, 6, 11, 16), (0, 6, 15, 19)], none)
def f_L_declare (a0 : Nat) (a1 : Int32) (a2 : Int32) (h : tq_H) : Option (Int32 × tq_H) :=
  (tq_is h a0 10).bind fun _ =>
  (f_X10_declare a0 a1 a2 h).bind fun v1 => match v1 with
  | (.inl E1, w3) =>
    if E1 = "java/lang/IndexOutOfBoundsException" then
      some ((-2000000001 : Int32), w3)
    else
      if E1 = "java/lang/IllegalArgumentException" then
        some ((-2000000002 : Int32), w3)
      else
        if E1 = "java/lang/IllegalStateException" then
          some ((-2000000003 : Int32), w3)
        else
          none
  | (.inr v4, w3) =>
    some (v4, w3)
set_option maxHeartbeats 4000000 in
set_option maxRecDepth 20000 in
theorem w_L_declare {l : Launch} {d : Nat} (hd9 : 8 ≤ d) {a0 : Nat} {a1 : Int32} {a2 : Int32} {bc bs : Nat} {h : tq_H} {o : Int32 × tq_H} {Q : tq_R → tq_H → Prop} (hf : f_L_declare a0 a1 a2 h = some o) (hb : ∀ E g, f_X10_declare a0 a1 a2 h = some (.inl E, g) → 1 ≤ bc ∧ 6 ≤ bs) (hQ : ∀ r h9, r = .inl (some (.int o.1)) ∧ o.2 = h9 → Q r h9) : tq_CW l yL_declare cL_declare 4 (some .int) [(0, 6, 7, 13), (0, 6, 11, 16), (0, 6, 15, 19)] d (0 + bc) (0 + bs) [.ref a0, .int a1, .int a2] h Q := by
  refine tq_bodyW (y := yL_declare) (by decide +kernel) (Nat.le_of_ble_eq_true rfl) ?_
  show tq_W l mL_declare d (0 + bc) (0 + bs) Q 0 [(0, .ref a0), (1, .int a1), (2, .int a2)] [] h
  refine tq_more (bc := bc) (bs := bs) (by omega) (by omega) ?_
  refine tq_aload_n (M := mL_declare) (pc := 0) dL_declare_0 rfl ?_
  refine tq_iload_n (M := mL_declare) (pc := 1) dL_declare_1 rfl ?_
  refine tq_iload_n (M := mL_declare) (pc := 2) dL_declare_2 rfl ?_
  obtain ⟨⟨⟩, eu2, hf⟩ := tq_be hf
  obtain ⟨fsu2, eu2⟩ := tq_is_s eu2
  obtain ⟨⟨E1 | v4, w3⟩, ev1, hf⟩ := tq_be hf
  · skip
    by_cases c0 : E1 = "java/lang/IndexOutOfBoundsException"
    · have hf := tq_ifp hf c0
      subst c0
      have hb9 := hb _ _ ev1
      refine tq_calV (M := mL_declare) (pc := 3) (S := []) tk_y_X10_declare tk_v_X10_declare tk_RL_42 dL_declare_3 [.int a1, .int a2] rfl (S0 := _) rfl eu2 rfl (Nat.le_of_ble_eq_true rfl) (d1 := d - 1) (b1 := 0 + bc) (s1 := 0 + bs) (bc' := 0) (bs' := 0) (Q1 := fun r h9 => r = tq_enI ((.inl "java/lang/IndexOutOfBoundsException", w3) : (String ⊕ Int32) × tq_H).1 ∧ ((.inl "java/lang/IndexOutOfBoundsException", w3) : (String ⊕ Int32) × tq_H).2 = h9) (by omega) (by omega) (by omega) (w_X10_declare (bc := bc) (bs := bs) (by omega) ev1 (fun _ _ _ => hb9) (fun _ _ q => q)) (fun E h9 q => ?_) (fun r9 h9 q => nomatch (show (Sum.inl r9 : tq_R) = Sum.inr _ from q.1))
      obtain ⟨q1, rfl⟩ := q
      cases (show (Sum.inr E : tq_R) = Sum.inr "java/lang/IndexOutOfBoundsException" from q1)
      refine tq_catch (M := mL_declare) (pc := 3) (name := "java/lang/IndexOutOfBoundsException") [] ⟨0, 6, 7, 13⟩ [⟨0, 6, 11, 16⟩, ⟨0, 6, 15, 19⟩] rfl tk_pass_L_declare_0 (by decide) (by decide) tk_RL_13 tk_cast_IndexOutOfBoundsException ?_
      refine tq_xstore_n (M := mL_declare) (pc := 7) rfl dL_declare_7 (L2 := [(3, .float 0), (0, .ref a0), (1, .int a1), (2, .int a2)]) (by decide) rfl ?_
      refine tq_ldc (M := mL_declare) (pc := 8) dL_declare_8 tk_RL_15 ?_
      refine tq_iret (M := mL_declare) (pc := 10) dL_declare_10 rfl ?_
      cases (Option.some.inj hf)
      exact hQ _ _ ⟨rfl, rfl⟩
    have hf := tq_ifn hf c0
    by_cases c1 : E1 = "java/lang/IllegalArgumentException"
    · have hf := tq_ifp hf c1
      subst c1
      have hb9 := hb _ _ ev1
      refine tq_calV (M := mL_declare) (pc := 3) (S := []) tk_y_X10_declare tk_v_X10_declare tk_RL_42 dL_declare_3 [.int a1, .int a2] rfl (S0 := _) rfl eu2 rfl (Nat.le_of_ble_eq_true rfl) (d1 := d - 1) (b1 := 0 + bc) (s1 := 0 + bs) (bc' := 0) (bs' := 0) (Q1 := fun r h9 => r = tq_enI ((.inl "java/lang/IllegalArgumentException", w3) : (String ⊕ Int32) × tq_H).1 ∧ ((.inl "java/lang/IllegalArgumentException", w3) : (String ⊕ Int32) × tq_H).2 = h9) (by omega) (by omega) (by omega) (w_X10_declare (bc := bc) (bs := bs) (by omega) ev1 (fun _ _ _ => hb9) (fun _ _ q => q)) (fun E h9 q => ?_) (fun r9 h9 q => nomatch (show (Sum.inl r9 : tq_R) = Sum.inr _ from q.1))
      obtain ⟨q1, rfl⟩ := q
      cases (show (Sum.inr E : tq_R) = Sum.inr "java/lang/IllegalArgumentException" from q1)
      refine tq_catch (M := mL_declare) (pc := 3) (name := "java/lang/IllegalArgumentException") [⟨0, 6, 7, 13⟩] ⟨0, 6, 11, 16⟩ [⟨0, 6, 15, 19⟩] rfl tk_pass_L_declare_1 (by decide) (by decide) tk_RL_16 tk_cast_IllegalArgumentException ?_
      refine tq_xstore_n (M := mL_declare) (pc := 11) rfl dL_declare_11 (L2 := [(3, .float 0), (0, .ref a0), (1, .int a1), (2, .int a2)]) (by decide) rfl ?_
      refine tq_ldc (M := mL_declare) (pc := 12) dL_declare_12 tk_RL_18 ?_
      refine tq_iret (M := mL_declare) (pc := 14) dL_declare_14 rfl ?_
      cases (Option.some.inj hf)
      exact hQ _ _ ⟨rfl, rfl⟩
    have hf := tq_ifn hf c1
    by_cases c2 : E1 = "java/lang/IllegalStateException"
    · have hf := tq_ifp hf c2
      subst c2
      have hb9 := hb _ _ ev1
      refine tq_calV (M := mL_declare) (pc := 3) (S := []) tk_y_X10_declare tk_v_X10_declare tk_RL_42 dL_declare_3 [.int a1, .int a2] rfl (S0 := _) rfl eu2 rfl (Nat.le_of_ble_eq_true rfl) (d1 := d - 1) (b1 := 0 + bc) (s1 := 0 + bs) (bc' := 0) (bs' := 0) (Q1 := fun r h9 => r = tq_enI ((.inl "java/lang/IllegalStateException", w3) : (String ⊕ Int32) × tq_H).1 ∧ ((.inl "java/lang/IllegalStateException", w3) : (String ⊕ Int32) × tq_H).2 = h9) (by omega) (by omega) (by omega) (w_X10_declare (bc := bc) (bs := bs) (by omega) ev1 (fun _ _ _ => hb9) (fun _ _ q => q)) (fun E h9 q => ?_) (fun r9 h9 q => nomatch (show (Sum.inl r9 : tq_R) = Sum.inr _ from q.1))
      obtain ⟨q1, rfl⟩ := q
      cases (show (Sum.inr E : tq_R) = Sum.inr "java/lang/IllegalStateException" from q1)
      refine tq_catch (M := mL_declare) (pc := 3) (name := "java/lang/IllegalStateException") [⟨0, 6, 7, 13⟩, ⟨0, 6, 11, 16⟩] ⟨0, 6, 15, 19⟩ [] rfl tk_pass_L_declare_2 (by decide) (by decide) tk_RL_19 tk_cast_IllegalStateException ?_
      refine tq_xstore_n (M := mL_declare) (pc := 15) rfl dL_declare_15 (L2 := [(3, .float 0), (0, .ref a0), (1, .int a1), (2, .int a2)]) (by decide) rfl ?_
      refine tq_ldc (M := mL_declare) (pc := 16) dL_declare_16 tk_RL_21 ?_
      refine tq_iret (M := mL_declare) (pc := 18) dL_declare_18 rfl ?_
      cases (Option.some.inj hf)
      exact hQ _ _ ⟨rfl, rfl⟩
    have hf := tq_ifn hf c2
    cases hf
  · refine tq_calV (M := mL_declare) (pc := 3) (S := []) tk_y_X10_declare tk_v_X10_declare tk_RL_42 dL_declare_3 [.int a1, .int a2] rfl (S0 := _) rfl eu2 rfl (Nat.le_of_ble_eq_true rfl) (d1 := d - 1) (b1 := 0 + 0) (s1 := 0 + 0) (bc' := bc) (bs' := bs) (Q1 := fun r h9 => r = tq_enI ((.inr v4, w3) : (String ⊕ Int32) × tq_H).1 ∧ ((.inr v4, w3) : (String ⊕ Int32) × tq_H).2 = h9) (by omega) (by omega) (by omega) (w_X10_declare (bc := 0) (bs := 0) (by omega) ev1 (fun E g z => by cases z) (fun _ _ q => q)) (fun E h9 q => nomatch (show (Sum.inr E : tq_R) = Sum.inl _ from q.1)) (fun r9 h9 q => ?_)
    obtain ⟨q1, rfl⟩ := q
    cases (show (Sum.inl r9 : tq_R) = Sum.inl (some (.int v4)) from q1)
    refine tq_iret (M := mL_declare) (pc := 6) dL_declare_6 rfl ?_
    cases (Option.some.inj hf)
    exact hQ _ _ ⟨rfl, rfl⟩
abbrev mL_apply : tq_M := (RL, cL_apply, 2, (some .int), false, [(0, 4, 5, 19)], none)
def f_L_apply (a0 : Nat) (h : tq_H) : Option (Int32 × tq_H) :=
  (tq_is h a0 10).bind fun _ =>
  (f_X10_apply a0 h).bind fun v1 => match v1 with
  | (.inl E1, w3) =>
    if E1 = "java/lang/IllegalStateException" then
      some ((-2000000003 : Int32), w3)
    else
      none
  | (.inr v4, w3) =>
    some (v4, w3)
set_option maxHeartbeats 4000000 in
set_option maxRecDepth 20000 in
theorem w_L_apply {l : Launch} {d : Nat} (hd9 : 8 ≤ d) {a0 : Nat} {bc bs : Nat} {h : tq_H} {o : Int32 × tq_H} {Q : tq_R → tq_H → Prop} (hf : f_L_apply a0 h = some o) (hb : ∀ E g, f_X10_apply a0 h = some (.inl E, g) → 1 ≤ bc ∧ 6 ≤ bs) (hQ : ∀ r h9, r = .inl (some (.int o.1)) ∧ o.2 = h9 → Q r h9) : tq_CW l yL_apply cL_apply 2 (some .int) [(0, 4, 5, 19)] d (0 + bc) (0 + bs) [.ref a0] h Q := by
  refine tq_bodyW (y := yL_apply) (by decide +kernel) (Nat.le_of_ble_eq_true rfl) ?_
  show tq_W l mL_apply d (0 + bc) (0 + bs) Q 0 [(0, .ref a0)] [] h
  refine tq_more (bc := bc) (bs := bs) (by omega) (by omega) ?_
  refine tq_aload_n (M := mL_apply) (pc := 0) dL_apply_0 rfl ?_
  obtain ⟨⟨⟩, eu2, hf⟩ := tq_be hf
  obtain ⟨fsu2, eu2⟩ := tq_is_s eu2
  obtain ⟨⟨E1 | v4, w3⟩, ev1, hf⟩ := tq_be hf
  · skip
    by_cases c0 : E1 = "java/lang/IllegalStateException"
    · have hf := tq_ifp hf c0
      subst c0
      have hb9 := hb _ _ ev1
      refine tq_calV (M := mL_apply) (pc := 1) (S := []) tk_y_X10_apply tk_v_X10_apply tk_RL_45 dL_apply_1 [] rfl (S0 := _) rfl eu2 rfl (Nat.le_of_ble_eq_true rfl) (d1 := d - 1) (b1 := 0 + bc) (s1 := 0 + bs) (bc' := 0) (bs' := 0) (Q1 := fun r h9 => r = tq_enI ((.inl "java/lang/IllegalStateException", w3) : (String ⊕ Int32) × tq_H).1 ∧ ((.inl "java/lang/IllegalStateException", w3) : (String ⊕ Int32) × tq_H).2 = h9) (by omega) (by omega) (by omega) (w_X10_apply (bc := bc) (bs := bs) (by omega) ev1 (fun _ _ _ => hb9) (fun _ _ q => q)) (fun E h9 q => ?_) (fun r9 h9 q => nomatch (show (Sum.inl r9 : tq_R) = Sum.inr _ from q.1))
      obtain ⟨q1, rfl⟩ := q
      cases (show (Sum.inr E : tq_R) = Sum.inr "java/lang/IllegalStateException" from q1)
      refine tq_catch (M := mL_apply) (pc := 1) (name := "java/lang/IllegalStateException") [] ⟨0, 4, 5, 19⟩ [] rfl tk_pass_L_apply_0 (by decide) (by decide) tk_RL_19 tk_cast_IllegalStateException ?_
      refine tq_xstore_n (M := mL_apply) (pc := 5) rfl dL_apply_5 (L2 := [(1, .float 0), (0, .ref a0)]) (by decide) rfl ?_
      refine tq_ldc (M := mL_apply) (pc := 6) dL_apply_6 tk_RL_21 ?_
      refine tq_iret (M := mL_apply) (pc := 8) dL_apply_8 rfl ?_
      cases (Option.some.inj hf)
      exact hQ _ _ ⟨rfl, rfl⟩
    have hf := tq_ifn hf c0
    cases hf
  · refine tq_calV (M := mL_apply) (pc := 1) (S := []) tk_y_X10_apply tk_v_X10_apply tk_RL_45 dL_apply_1 [] rfl (S0 := _) rfl eu2 rfl (Nat.le_of_ble_eq_true rfl) (d1 := d - 1) (b1 := 0 + 0) (s1 := 0 + 0) (bc' := bc) (bs' := bs) (Q1 := fun r h9 => r = tq_enI ((.inr v4, w3) : (String ⊕ Int32) × tq_H).1 ∧ ((.inr v4, w3) : (String ⊕ Int32) × tq_H).2 = h9) (by omega) (by omega) (by omega) (w_X10_apply (bc := 0) (bs := 0) (by omega) ev1 (fun E g z => by cases z) (fun _ _ q => q)) (fun E h9 q => nomatch (show (Sum.inr E : tq_R) = Sum.inl _ from q.1)) (fun r9 h9 q => ?_)
    obtain ⟨q1, rfl⟩ := q
    cases (show (Sum.inl r9 : tq_R) = Sum.inl (some (.int v4)) from q1)
    refine tq_iret (M := mL_apply) (pc := 4) dL_apply_4 rfl ?_
    cases (Option.some.inj hf)
    exact hQ _ _ ⟨rfl, rfl⟩
abbrev mL_kind : tq_M := (RL, cL_kind, 3, (some .int), false, [(0, 5, 6, 13)], none)
def f_L_kind (a0 : Nat) (a1 : Int32) (h : tq_H) : Option (Int32 × tq_H) :=
  (tq_is h a0 10).bind fun _ =>
  (f_X10_kind a0 a1 h).bind fun v1 => match v1 with
  | (.inl E1, w3) =>
    if E1 = "java/lang/IndexOutOfBoundsException" then
      some ((-2000000001 : Int32), w3)
    else
      none
  | (.inr v4, w3) =>
    some (v4, w3)
set_option maxHeartbeats 4000000 in
set_option maxRecDepth 20000 in
theorem w_L_kind {l : Launch} {d : Nat} (hd9 : 8 ≤ d) {a0 : Nat} {a1 : Int32} {bc bs : Nat} {h : tq_H} {o : Int32 × tq_H} {Q : tq_R → tq_H → Prop} (hf : f_L_kind a0 a1 h = some o) (hb : ∀ E g, f_X10_kind a0 a1 h = some (.inl E, g) → 1 ≤ bc ∧ 6 ≤ bs) (hQ : ∀ r h9, r = .inl (some (.int o.1)) ∧ o.2 = h9 → Q r h9) : tq_CW l yL_kind cL_kind 3 (some .int) [(0, 5, 6, 13)] d (0 + bc) (0 + bs) [.ref a0, .int a1] h Q := by
  refine tq_bodyW (y := yL_kind) (by decide +kernel) (Nat.le_of_ble_eq_true rfl) ?_
  show tq_W l mL_kind d (0 + bc) (0 + bs) Q 0 [(0, .ref a0), (1, .int a1)] [] h
  refine tq_more (bc := bc) (bs := bs) (by omega) (by omega) ?_
  refine tq_aload_n (M := mL_kind) (pc := 0) dL_kind_0 rfl ?_
  refine tq_iload_n (M := mL_kind) (pc := 1) dL_kind_1 rfl ?_
  obtain ⟨⟨⟩, eu2, hf⟩ := tq_be hf
  obtain ⟨fsu2, eu2⟩ := tq_is_s eu2
  obtain ⟨⟨E1 | v4, w3⟩, ev1, hf⟩ := tq_be hf
  · skip
    by_cases c0 : E1 = "java/lang/IndexOutOfBoundsException"
    · have hf := tq_ifp hf c0
      subst c0
      have hb9 := hb _ _ ev1
      refine tq_calV (M := mL_kind) (pc := 2) (S := []) tk_y_X10_kind tk_v_X10_kind tk_RL_49 dL_kind_2 [.int a1] rfl (S0 := _) rfl eu2 rfl (Nat.le_of_ble_eq_true rfl) (d1 := d - 1) (b1 := 0 + bc) (s1 := 0 + bs) (bc' := 0) (bs' := 0) (Q1 := fun r h9 => r = tq_enI ((.inl "java/lang/IndexOutOfBoundsException", w3) : (String ⊕ Int32) × tq_H).1 ∧ ((.inl "java/lang/IndexOutOfBoundsException", w3) : (String ⊕ Int32) × tq_H).2 = h9) (by omega) (by omega) (by omega) (w_X10_kind (bc := bc) (bs := bs) (by omega) ev1 (fun _ _ _ => hb9) (fun _ _ q => q)) (fun E h9 q => ?_) (fun r9 h9 q => nomatch (show (Sum.inl r9 : tq_R) = Sum.inr _ from q.1))
      obtain ⟨q1, rfl⟩ := q
      cases (show (Sum.inr E : tq_R) = Sum.inr "java/lang/IndexOutOfBoundsException" from q1)
      refine tq_catch (M := mL_kind) (pc := 2) (name := "java/lang/IndexOutOfBoundsException") [] ⟨0, 5, 6, 13⟩ [] rfl tk_pass_L_kind_0 (by decide) (by decide) tk_RL_13 tk_cast_IndexOutOfBoundsException ?_
      refine tq_xstore_n (M := mL_kind) (pc := 6) rfl dL_kind_6 (L2 := [(2, .float 0), (0, .ref a0), (1, .int a1)]) (by decide) rfl ?_
      refine tq_ldc (M := mL_kind) (pc := 7) dL_kind_7 tk_RL_15 ?_
      refine tq_iret (M := mL_kind) (pc := 9) dL_kind_9 rfl ?_
      cases (Option.some.inj hf)
      exact hQ _ _ ⟨rfl, rfl⟩
    have hf := tq_ifn hf c0
    cases hf
  · refine tq_calV (M := mL_kind) (pc := 2) (S := []) tk_y_X10_kind tk_v_X10_kind tk_RL_49 dL_kind_2 [.int a1] rfl (S0 := _) rfl eu2 rfl (Nat.le_of_ble_eq_true rfl) (d1 := d - 1) (b1 := 0 + 0) (s1 := 0 + 0) (bc' := bc) (bs' := bs) (Q1 := fun r h9 => r = tq_enI ((.inr v4, w3) : (String ⊕ Int32) × tq_H).1 ∧ ((.inr v4, w3) : (String ⊕ Int32) × tq_H).2 = h9) (by omega) (by omega) (by omega) (w_X10_kind (bc := 0) (bs := 0) (by omega) ev1 (fun E g z => by cases z) (fun _ _ q => q)) (fun E h9 q => nomatch (show (Sum.inr E : tq_R) = Sum.inl _ from q.1)) (fun r9 h9 q => ?_)
    obtain ⟨q1, rfl⟩ := q
    cases (show (Sum.inl r9 : tq_R) = Sum.inl (some (.int v4)) from q1)
    refine tq_iret (M := mL_kind) (pc := 5) dL_kind_5 rfl ?_
    cases (Option.some.inj hf)
    exact hQ _ _ ⟨rfl, rfl⟩
def f_N_kind (a0 : Nat) (a1 : Int32) (h : tq_H) : Option (Int32 × tq_H) :=
  (tq_is h a0 10).bind fun _ =>
  (f_X10_kind a0 a1 h).bind fun v1 => match v1 with
  | (.inl _, _) =>
    none
  | (.inr v4, w3) =>
    some (v4, w3)
theorem n_L_kind {a0 : Nat} {a1 : Int32} {h : tq_H} {o : Int32 × tq_H} (e : f_N_kind a0 a1 h = some o) : f_L_kind a0 a1 h = some o ∧ ∀ E g, f_X10_kind a0 a1 h = some (.inl E, g) → 1 ≤ 0 ∧ 6 ≤ 0 := by
  obtain ⟨u, e1, e2⟩ := tq_be e
  obtain ⟨v, e3, e4⟩ := tq_be e2
  obtain ⟨v1, v2⟩ := v
  cases v1 with
  | inl E => cases e4
  | inr v =>
    refine ⟨?_, fun E g z => by rw [e3] at z; cases z⟩
    unfold f_L_kind
    rw [e1, Option.bind_some, e3, Option.bind_some]
    exact e4
abbrev mL_name : tq_M := (RL, cL_name, 3, (some .int), false, [(0, 5, 6, 13)], none)
def f_L_name (a0 : Nat) (a1 : Int32) (h : tq_H) : Option (Int32 × tq_H) :=
  (tq_is h a0 10).bind fun _ =>
  (f_X10_name a0 a1 h).bind fun v1 => match v1 with
  | (.inl E1, w3) =>
    if E1 = "java/lang/IndexOutOfBoundsException" then
      some ((-2000000001 : Int32), w3)
    else
      none
  | (.inr v4, w3) =>
    some (v4, w3)
set_option maxHeartbeats 4000000 in
set_option maxRecDepth 20000 in
theorem w_L_name {l : Launch} {d : Nat} (hd9 : 8 ≤ d) {a0 : Nat} {a1 : Int32} {bc bs : Nat} {h : tq_H} {o : Int32 × tq_H} {Q : tq_R → tq_H → Prop} (hf : f_L_name a0 a1 h = some o) (hb : ∀ E g, f_X10_name a0 a1 h = some (.inl E, g) → 1 ≤ bc ∧ 6 ≤ bs) (hQ : ∀ r h9, r = .inl (some (.int o.1)) ∧ o.2 = h9 → Q r h9) : tq_CW l yL_name cL_name 3 (some .int) [(0, 5, 6, 13)] d (0 + bc) (0 + bs) [.ref a0, .int a1] h Q := by
  refine tq_bodyW (y := yL_name) (by decide +kernel) (Nat.le_of_ble_eq_true rfl) ?_
  show tq_W l mL_name d (0 + bc) (0 + bs) Q 0 [(0, .ref a0), (1, .int a1)] [] h
  refine tq_more (bc := bc) (bs := bs) (by omega) (by omega) ?_
  refine tq_aload_n (M := mL_name) (pc := 0) dL_name_0 rfl ?_
  refine tq_iload_n (M := mL_name) (pc := 1) dL_name_1 rfl ?_
  obtain ⟨⟨⟩, eu2, hf⟩ := tq_be hf
  obtain ⟨fsu2, eu2⟩ := tq_is_s eu2
  obtain ⟨⟨E1 | v4, w3⟩, ev1, hf⟩ := tq_be hf
  · skip
    by_cases c0 : E1 = "java/lang/IndexOutOfBoundsException"
    · have hf := tq_ifp hf c0
      subst c0
      have hb9 := hb _ _ ev1
      refine tq_calV (M := mL_name) (pc := 2) (S := []) tk_y_X10_name tk_v_X10_name tk_RL_52 dL_name_2 [.int a1] rfl (S0 := _) rfl eu2 rfl (Nat.le_of_ble_eq_true rfl) (d1 := d - 1) (b1 := 0 + bc) (s1 := 0 + bs) (bc' := 0) (bs' := 0) (Q1 := fun r h9 => r = tq_enI ((.inl "java/lang/IndexOutOfBoundsException", w3) : (String ⊕ Int32) × tq_H).1 ∧ ((.inl "java/lang/IndexOutOfBoundsException", w3) : (String ⊕ Int32) × tq_H).2 = h9) (by omega) (by omega) (by omega) (w_X10_name (bc := bc) (bs := bs) (by omega) ev1 (fun _ _ _ => hb9) (fun _ _ q => q)) (fun E h9 q => ?_) (fun r9 h9 q => nomatch (show (Sum.inl r9 : tq_R) = Sum.inr _ from q.1))
      obtain ⟨q1, rfl⟩ := q
      cases (show (Sum.inr E : tq_R) = Sum.inr "java/lang/IndexOutOfBoundsException" from q1)
      refine tq_catch (M := mL_name) (pc := 2) (name := "java/lang/IndexOutOfBoundsException") [] ⟨0, 5, 6, 13⟩ [] rfl tk_pass_L_name_0 (by decide) (by decide) tk_RL_13 tk_cast_IndexOutOfBoundsException ?_
      refine tq_xstore_n (M := mL_name) (pc := 6) rfl dL_name_6 (L2 := [(2, .float 0), (0, .ref a0), (1, .int a1)]) (by decide) rfl ?_
      refine tq_ldc (M := mL_name) (pc := 7) dL_name_7 tk_RL_15 ?_
      refine tq_iret (M := mL_name) (pc := 9) dL_name_9 rfl ?_
      cases (Option.some.inj hf)
      exact hQ _ _ ⟨rfl, rfl⟩
    have hf := tq_ifn hf c0
    cases hf
  · refine tq_calV (M := mL_name) (pc := 2) (S := []) tk_y_X10_name tk_v_X10_name tk_RL_52 dL_name_2 [.int a1] rfl (S0 := _) rfl eu2 rfl (Nat.le_of_ble_eq_true rfl) (d1 := d - 1) (b1 := 0 + 0) (s1 := 0 + 0) (bc' := bc) (bs' := bs) (Q1 := fun r h9 => r = tq_enI ((.inr v4, w3) : (String ⊕ Int32) × tq_H).1 ∧ ((.inr v4, w3) : (String ⊕ Int32) × tq_H).2 = h9) (by omega) (by omega) (by omega) (w_X10_name (bc := 0) (bs := 0) (by omega) ev1 (fun E g z => by cases z) (fun _ _ q => q)) (fun E h9 q => nomatch (show (Sum.inr E : tq_R) = Sum.inl _ from q.1)) (fun r9 h9 q => ?_)
    obtain ⟨q1, rfl⟩ := q
    cases (show (Sum.inl r9 : tq_R) = Sum.inl (some (.int v4)) from q1)
    refine tq_iret (M := mL_name) (pc := 5) dL_name_5 rfl ?_
    cases (Option.some.inj hf)
    exact hQ _ _ ⟨rfl, rfl⟩
def f_N_name (a0 : Nat) (a1 : Int32) (h : tq_H) : Option (Int32 × tq_H) :=
  (tq_is h a0 10).bind fun _ =>
  (f_X10_name a0 a1 h).bind fun v1 => match v1 with
  | (.inl _, _) =>
    none
  | (.inr v4, w3) =>
    some (v4, w3)
theorem n_L_name {a0 : Nat} {a1 : Int32} {h : tq_H} {o : Int32 × tq_H} (e : f_N_name a0 a1 h = some o) : f_L_name a0 a1 h = some o ∧ ∀ E g, f_X10_name a0 a1 h = some (.inl E, g) → 1 ≤ 0 ∧ 6 ≤ 0 := by
  obtain ⟨u, e1, e2⟩ := tq_be e
  obtain ⟨v, e3, e4⟩ := tq_be e2
  obtain ⟨v1, v2⟩ := v
  cases v1 with
  | inl E => cases e4
  | inr v =>
    refine ⟨?_, fun E g z => by rw [e3] at z; cases z⟩
    unfold f_L_name
    rw [e1, Option.bind_some, e3, Option.bind_some]
    exact e4
abbrev mL_value : tq_M := (RL, cL_value, 3, (some .int), false, [(0, 5, 6, 13)], none)
def f_L_value (a0 : Nat) (a1 : Int32) (h : tq_H) : Option (Int32 × tq_H) :=
  (tq_is h a0 10).bind fun _ =>
  (f_X10_value a0 a1 h).bind fun v1 => match v1 with
  | (.inl E1, w3) =>
    if E1 = "java/lang/IndexOutOfBoundsException" then
      some ((-2000000001 : Int32), w3)
    else
      none
  | (.inr v4, w3) =>
    some (v4, w3)
set_option maxHeartbeats 4000000 in
set_option maxRecDepth 20000 in
theorem w_L_value {l : Launch} {d : Nat} (hd9 : 8 ≤ d) {a0 : Nat} {a1 : Int32} {bc bs : Nat} {h : tq_H} {o : Int32 × tq_H} {Q : tq_R → tq_H → Prop} (hf : f_L_value a0 a1 h = some o) (hb : ∀ E g, f_X10_value a0 a1 h = some (.inl E, g) → 1 ≤ bc ∧ 6 ≤ bs) (hQ : ∀ r h9, r = .inl (some (.int o.1)) ∧ o.2 = h9 → Q r h9) : tq_CW l yL_value cL_value 3 (some .int) [(0, 5, 6, 13)] d (0 + bc) (0 + bs) [.ref a0, .int a1] h Q := by
  refine tq_bodyW (y := yL_value) (by decide +kernel) (Nat.le_of_ble_eq_true rfl) ?_
  show tq_W l mL_value d (0 + bc) (0 + bs) Q 0 [(0, .ref a0), (1, .int a1)] [] h
  refine tq_more (bc := bc) (bs := bs) (by omega) (by omega) ?_
  refine tq_aload_n (M := mL_value) (pc := 0) dL_value_0 rfl ?_
  refine tq_iload_n (M := mL_value) (pc := 1) dL_value_1 rfl ?_
  obtain ⟨⟨⟩, eu2, hf⟩ := tq_be hf
  obtain ⟨fsu2, eu2⟩ := tq_is_s eu2
  obtain ⟨⟨E1 | v4, w3⟩, ev1, hf⟩ := tq_be hf
  · skip
    by_cases c0 : E1 = "java/lang/IndexOutOfBoundsException"
    · have hf := tq_ifp hf c0
      subst c0
      have hb9 := hb _ _ ev1
      refine tq_calV (M := mL_value) (pc := 2) (S := []) tk_y_X10_value tk_v_X10_value tk_RL_55 dL_value_2 [.int a1] rfl (S0 := _) rfl eu2 rfl (Nat.le_of_ble_eq_true rfl) (d1 := d - 1) (b1 := 0 + bc) (s1 := 0 + bs) (bc' := 0) (bs' := 0) (Q1 := fun r h9 => r = tq_enI ((.inl "java/lang/IndexOutOfBoundsException", w3) : (String ⊕ Int32) × tq_H).1 ∧ ((.inl "java/lang/IndexOutOfBoundsException", w3) : (String ⊕ Int32) × tq_H).2 = h9) (by omega) (by omega) (by omega) (w_X10_value (bc := bc) (bs := bs) (by omega) ev1 (fun _ _ _ => hb9) (fun _ _ q => q)) (fun E h9 q => ?_) (fun r9 h9 q => nomatch (show (Sum.inl r9 : tq_R) = Sum.inr _ from q.1))
      obtain ⟨q1, rfl⟩ := q
      cases (show (Sum.inr E : tq_R) = Sum.inr "java/lang/IndexOutOfBoundsException" from q1)
      refine tq_catch (M := mL_value) (pc := 2) (name := "java/lang/IndexOutOfBoundsException") [] ⟨0, 5, 6, 13⟩ [] rfl tk_pass_L_value_0 (by decide) (by decide) tk_RL_13 tk_cast_IndexOutOfBoundsException ?_
      refine tq_xstore_n (M := mL_value) (pc := 6) rfl dL_value_6 (L2 := [(2, .float 0), (0, .ref a0), (1, .int a1)]) (by decide) rfl ?_
      refine tq_ldc (M := mL_value) (pc := 7) dL_value_7 tk_RL_15 ?_
      refine tq_iret (M := mL_value) (pc := 9) dL_value_9 rfl ?_
      cases (Option.some.inj hf)
      exact hQ _ _ ⟨rfl, rfl⟩
    have hf := tq_ifn hf c0
    cases hf
  · refine tq_calV (M := mL_value) (pc := 2) (S := []) tk_y_X10_value tk_v_X10_value tk_RL_55 dL_value_2 [.int a1] rfl (S0 := _) rfl eu2 rfl (Nat.le_of_ble_eq_true rfl) (d1 := d - 1) (b1 := 0 + 0) (s1 := 0 + 0) (bc' := bc) (bs' := bs) (Q1 := fun r h9 => r = tq_enI ((.inr v4, w3) : (String ⊕ Int32) × tq_H).1 ∧ ((.inr v4, w3) : (String ⊕ Int32) × tq_H).2 = h9) (by omega) (by omega) (by omega) (w_X10_value (bc := 0) (bs := 0) (by omega) ev1 (fun E g z => by cases z) (fun _ _ q => q)) (fun E h9 q => nomatch (show (Sum.inr E : tq_R) = Sum.inl _ from q.1)) (fun r9 h9 q => ?_)
    obtain ⟨q1, rfl⟩ := q
    cases (show (Sum.inl r9 : tq_R) = Sum.inl (some (.int v4)) from q1)
    refine tq_iret (M := mL_value) (pc := 5) dL_value_5 rfl ?_
    cases (Option.some.inj hf)
    exact hQ _ _ ⟨rfl, rfl⟩
def f_N_value (a0 : Nat) (a1 : Int32) (h : tq_H) : Option (Int32 × tq_H) :=
  (tq_is h a0 10).bind fun _ =>
  (f_X10_value a0 a1 h).bind fun v1 => match v1 with
  | (.inl _, _) =>
    none
  | (.inr v4, w3) =>
    some (v4, w3)
theorem n_L_value {a0 : Nat} {a1 : Int32} {h : tq_H} {o : Int32 × tq_H} (e : f_N_value a0 a1 h = some o) : f_L_value a0 a1 h = some o ∧ ∀ E g, f_X10_value a0 a1 h = some (.inl E, g) → 1 ≤ 0 ∧ 6 ≤ 0 := by
  obtain ⟨u, e1, e2⟩ := tq_be e
  obtain ⟨v, e3, e4⟩ := tq_be e2
  obtain ⟨v1, v2⟩ := v
  cases v1 with
  | inl E => cases e4
  | inr v =>
    refine ⟨?_, fun E g z => by rw [e3] at z; cases z⟩
    unfold f_L_value
    rw [e1, Option.bind_some, e3, Option.bind_some]
    exact e4
abbrev mL_parent : tq_M := (RL, cL_parent, 3, (some .int), false, [(0, 5, 6, 13)], none)
def f_L_parent (a0 : Nat) (a1 : Int32) (h : tq_H) : Option (Int32 × tq_H) :=
  (tq_is h a0 10).bind fun _ =>
  (f_X10_parent a0 a1 h).bind fun v1 => match v1 with
  | (.inl E1, w3) =>
    if E1 = "java/lang/IndexOutOfBoundsException" then
      some ((-2000000001 : Int32), w3)
    else
      none
  | (.inr v4, w3) =>
    some (v4, w3)
set_option maxHeartbeats 4000000 in
set_option maxRecDepth 20000 in
theorem w_L_parent {l : Launch} {d : Nat} (hd9 : 8 ≤ d) {a0 : Nat} {a1 : Int32} {bc bs : Nat} {h : tq_H} {o : Int32 × tq_H} {Q : tq_R → tq_H → Prop} (hf : f_L_parent a0 a1 h = some o) (hb : ∀ E g, f_X10_parent a0 a1 h = some (.inl E, g) → 1 ≤ bc ∧ 6 ≤ bs) (hQ : ∀ r h9, r = .inl (some (.int o.1)) ∧ o.2 = h9 → Q r h9) : tq_CW l yL_parent cL_parent 3 (some .int) [(0, 5, 6, 13)] d (0 + bc) (0 + bs) [.ref a0, .int a1] h Q := by
  refine tq_bodyW (y := yL_parent) (by decide +kernel) (Nat.le_of_ble_eq_true rfl) ?_
  show tq_W l mL_parent d (0 + bc) (0 + bs) Q 0 [(0, .ref a0), (1, .int a1)] [] h
  refine tq_more (bc := bc) (bs := bs) (by omega) (by omega) ?_
  refine tq_aload_n (M := mL_parent) (pc := 0) dL_parent_0 rfl ?_
  refine tq_iload_n (M := mL_parent) (pc := 1) dL_parent_1 rfl ?_
  obtain ⟨⟨⟩, eu2, hf⟩ := tq_be hf
  obtain ⟨fsu2, eu2⟩ := tq_is_s eu2
  obtain ⟨⟨E1 | v4, w3⟩, ev1, hf⟩ := tq_be hf
  · skip
    by_cases c0 : E1 = "java/lang/IndexOutOfBoundsException"
    · have hf := tq_ifp hf c0
      subst c0
      have hb9 := hb _ _ ev1
      refine tq_calV (M := mL_parent) (pc := 2) (S := []) tk_y_X10_parent tk_v_X10_parent tk_RL_58 dL_parent_2 [.int a1] rfl (S0 := _) rfl eu2 rfl (Nat.le_of_ble_eq_true rfl) (d1 := d - 1) (b1 := 0 + bc) (s1 := 0 + bs) (bc' := 0) (bs' := 0) (Q1 := fun r h9 => r = tq_enI ((.inl "java/lang/IndexOutOfBoundsException", w3) : (String ⊕ Int32) × tq_H).1 ∧ ((.inl "java/lang/IndexOutOfBoundsException", w3) : (String ⊕ Int32) × tq_H).2 = h9) (by omega) (by omega) (by omega) (w_X10_parent (bc := bc) (bs := bs) (by omega) ev1 (fun _ _ _ => hb9) (fun _ _ q => q)) (fun E h9 q => ?_) (fun r9 h9 q => nomatch (show (Sum.inl r9 : tq_R) = Sum.inr _ from q.1))
      obtain ⟨q1, rfl⟩ := q
      cases (show (Sum.inr E : tq_R) = Sum.inr "java/lang/IndexOutOfBoundsException" from q1)
      refine tq_catch (M := mL_parent) (pc := 2) (name := "java/lang/IndexOutOfBoundsException") [] ⟨0, 5, 6, 13⟩ [] rfl tk_pass_L_parent_0 (by decide) (by decide) tk_RL_13 tk_cast_IndexOutOfBoundsException ?_
      refine tq_xstore_n (M := mL_parent) (pc := 6) rfl dL_parent_6 (L2 := [(2, .float 0), (0, .ref a0), (1, .int a1)]) (by decide) rfl ?_
      refine tq_ldc (M := mL_parent) (pc := 7) dL_parent_7 tk_RL_15 ?_
      refine tq_iret (M := mL_parent) (pc := 9) dL_parent_9 rfl ?_
      cases (Option.some.inj hf)
      exact hQ _ _ ⟨rfl, rfl⟩
    have hf := tq_ifn hf c0
    cases hf
  · refine tq_calV (M := mL_parent) (pc := 2) (S := []) tk_y_X10_parent tk_v_X10_parent tk_RL_58 dL_parent_2 [.int a1] rfl (S0 := _) rfl eu2 rfl (Nat.le_of_ble_eq_true rfl) (d1 := d - 1) (b1 := 0 + 0) (s1 := 0 + 0) (bc' := bc) (bs' := bs) (Q1 := fun r h9 => r = tq_enI ((.inr v4, w3) : (String ⊕ Int32) × tq_H).1 ∧ ((.inr v4, w3) : (String ⊕ Int32) × tq_H).2 = h9) (by omega) (by omega) (by omega) (w_X10_parent (bc := 0) (bs := 0) (by omega) ev1 (fun E g z => by cases z) (fun _ _ q => q)) (fun E h9 q => nomatch (show (Sum.inr E : tq_R) = Sum.inl _ from q.1)) (fun r9 h9 q => ?_)
    obtain ⟨q1, rfl⟩ := q
    cases (show (Sum.inl r9 : tq_R) = Sum.inl (some (.int v4)) from q1)
    refine tq_iret (M := mL_parent) (pc := 5) dL_parent_5 rfl ?_
    cases (Option.some.inj hf)
    exact hQ _ _ ⟨rfl, rfl⟩
def f_N_parent (a0 : Nat) (a1 : Int32) (h : tq_H) : Option (Int32 × tq_H) :=
  (tq_is h a0 10).bind fun _ =>
  (f_X10_parent a0 a1 h).bind fun v1 => match v1 with
  | (.inl _, _) =>
    none
  | (.inr v4, w3) =>
    some (v4, w3)
theorem n_L_parent {a0 : Nat} {a1 : Int32} {h : tq_H} {o : Int32 × tq_H} (e : f_N_parent a0 a1 h = some o) : f_L_parent a0 a1 h = some o ∧ ∀ E g, f_X10_parent a0 a1 h = some (.inl E, g) → 1 ≤ 0 ∧ 6 ≤ 0 := by
  obtain ⟨u, e1, e2⟩ := tq_be e
  obtain ⟨v, e3, e4⟩ := tq_be e2
  obtain ⟨v1, v2⟩ := v
  cases v1 with
  | inl E => cases e4
  | inr v =>
    refine ⟨?_, fun E g z => by rw [e3] at z; cases z⟩
    unfold f_L_parent
    rw [e1, Option.bind_some, e3, Option.bind_some]
    exact e4
abbrev mL_child : tq_M := (RL, cL_child, 4, (some .int), false, [(0, 6, 7, 13)], none)
def f_L_child (a0 : Nat) (a1 : Int32) (a2 : Int32) (h : tq_H) : Option (Int32 × tq_H) :=
  (tq_is h a0 10).bind fun _ =>
  (f_X10_child a0 a1 a2 h).bind fun v1 => match v1 with
  | (.inl E1, w3) =>
    if E1 = "java/lang/IndexOutOfBoundsException" then
      some ((-2000000001 : Int32), w3)
    else
      none
  | (.inr v4, w3) =>
    some (v4, w3)
set_option maxHeartbeats 4000000 in
set_option maxRecDepth 20000 in
theorem w_L_child {l : Launch} {d : Nat} (hd9 : 8 ≤ d) {a0 : Nat} {a1 : Int32} {a2 : Int32} {bc bs : Nat} {h : tq_H} {o : Int32 × tq_H} {Q : tq_R → tq_H → Prop} (hf : f_L_child a0 a1 a2 h = some o) (hb : ∀ E g, f_X10_child a0 a1 a2 h = some (.inl E, g) → 1 ≤ bc ∧ 6 ≤ bs) (hQ : ∀ r h9, r = .inl (some (.int o.1)) ∧ o.2 = h9 → Q r h9) : tq_CW l yL_child cL_child 4 (some .int) [(0, 6, 7, 13)] d (0 + bc) (0 + bs) [.ref a0, .int a1, .int a2] h Q := by
  refine tq_bodyW (y := yL_child) (by decide +kernel) (Nat.le_of_ble_eq_true rfl) ?_
  show tq_W l mL_child d (0 + bc) (0 + bs) Q 0 [(0, .ref a0), (1, .int a1), (2, .int a2)] [] h
  refine tq_more (bc := bc) (bs := bs) (by omega) (by omega) ?_
  refine tq_aload_n (M := mL_child) (pc := 0) dL_child_0 rfl ?_
  refine tq_iload_n (M := mL_child) (pc := 1) dL_child_1 rfl ?_
  refine tq_iload_n (M := mL_child) (pc := 2) dL_child_2 rfl ?_
  obtain ⟨⟨⟩, eu2, hf⟩ := tq_be hf
  obtain ⟨fsu2, eu2⟩ := tq_is_s eu2
  obtain ⟨⟨E1 | v4, w3⟩, ev1, hf⟩ := tq_be hf
  · skip
    by_cases c0 : E1 = "java/lang/IndexOutOfBoundsException"
    · have hf := tq_ifp hf c0
      subst c0
      have hb9 := hb _ _ ev1
      refine tq_calV (M := mL_child) (pc := 3) (S := []) tk_y_X10_child tk_v_X10_child tk_RL_61 dL_child_3 [.int a1, .int a2] rfl (S0 := _) rfl eu2 rfl (Nat.le_of_ble_eq_true rfl) (d1 := d - 1) (b1 := 0 + bc) (s1 := 0 + bs) (bc' := 0) (bs' := 0) (Q1 := fun r h9 => r = tq_enI ((.inl "java/lang/IndexOutOfBoundsException", w3) : (String ⊕ Int32) × tq_H).1 ∧ ((.inl "java/lang/IndexOutOfBoundsException", w3) : (String ⊕ Int32) × tq_H).2 = h9) (by omega) (by omega) (by omega) (w_X10_child (bc := bc) (bs := bs) (by omega) ev1 (fun _ _ _ => hb9) (fun _ _ q => q)) (fun E h9 q => ?_) (fun r9 h9 q => nomatch (show (Sum.inl r9 : tq_R) = Sum.inr _ from q.1))
      obtain ⟨q1, rfl⟩ := q
      cases (show (Sum.inr E : tq_R) = Sum.inr "java/lang/IndexOutOfBoundsException" from q1)
      refine tq_catch (M := mL_child) (pc := 3) (name := "java/lang/IndexOutOfBoundsException") [] ⟨0, 6, 7, 13⟩ [] rfl tk_pass_L_child_0 (by decide) (by decide) tk_RL_13 tk_cast_IndexOutOfBoundsException ?_
      refine tq_xstore_n (M := mL_child) (pc := 7) rfl dL_child_7 (L2 := [(3, .float 0), (0, .ref a0), (1, .int a1), (2, .int a2)]) (by decide) rfl ?_
      refine tq_ldc (M := mL_child) (pc := 8) dL_child_8 tk_RL_15 ?_
      refine tq_iret (M := mL_child) (pc := 10) dL_child_10 rfl ?_
      cases (Option.some.inj hf)
      exact hQ _ _ ⟨rfl, rfl⟩
    have hf := tq_ifn hf c0
    cases hf
  · refine tq_calV (M := mL_child) (pc := 3) (S := []) tk_y_X10_child tk_v_X10_child tk_RL_61 dL_child_3 [.int a1, .int a2] rfl (S0 := _) rfl eu2 rfl (Nat.le_of_ble_eq_true rfl) (d1 := d - 1) (b1 := 0 + 0) (s1 := 0 + 0) (bc' := bc) (bs' := bs) (Q1 := fun r h9 => r = tq_enI ((.inr v4, w3) : (String ⊕ Int32) × tq_H).1 ∧ ((.inr v4, w3) : (String ⊕ Int32) × tq_H).2 = h9) (by omega) (by omega) (by omega) (w_X10_child (bc := 0) (bs := 0) (by omega) ev1 (fun E g z => by cases z) (fun _ _ q => q)) (fun E h9 q => nomatch (show (Sum.inr E : tq_R) = Sum.inl _ from q.1)) (fun r9 h9 q => ?_)
    obtain ⟨q1, rfl⟩ := q
    cases (show (Sum.inl r9 : tq_R) = Sum.inl (some (.int v4)) from q1)
    refine tq_iret (M := mL_child) (pc := 6) dL_child_6 rfl ?_
    cases (Option.some.inj hf)
    exact hQ _ _ ⟨rfl, rfl⟩
def f_N_child (a0 : Nat) (a1 : Int32) (a2 : Int32) (h : tq_H) : Option (Int32 × tq_H) :=
  (tq_is h a0 10).bind fun _ =>
  (f_X10_child a0 a1 a2 h).bind fun v1 => match v1 with
  | (.inl _, _) =>
    none
  | (.inr v4, w3) =>
    some (v4, w3)
theorem n_L_child {a0 : Nat} {a1 : Int32} {a2 : Int32} {h : tq_H} {o : Int32 × tq_H} (e : f_N_child a0 a1 a2 h = some o) : f_L_child a0 a1 a2 h = some o ∧ ∀ E g, f_X10_child a0 a1 a2 h = some (.inl E, g) → 1 ≤ 0 ∧ 6 ≤ 0 := by
  obtain ⟨u, e1, e2⟩ := tq_be e
  obtain ⟨v, e3, e4⟩ := tq_be e2
  obtain ⟨v1, v2⟩ := v
  cases v1 with
  | inl E => cases e4
  | inr v =>
    refine ⟨?_, fun E g z => by rw [e3] at z; cases z⟩
    unfold f_L_child
    rw [e1, Option.bind_some, e3, Option.bind_some]
    exact e4
abbrev mL_space : tq_M := (RL, cL_space, 3, (some .int), false, [(0, 5, 6, 13)], none)
def f_L_space (a0 : Nat) (a1 : Int32) (h : tq_H) : Option (Int32 × tq_H) :=
  (tq_is h a0 10).bind fun _ =>
  (f_X10_space a0 a1 h).bind fun v1 => match v1 with
  | (.inl E1, w3) =>
    if E1 = "java/lang/IndexOutOfBoundsException" then
      some ((-2000000001 : Int32), w3)
    else
      none
  | (.inr v4, w3) =>
    some (v4, w3)
set_option maxHeartbeats 4000000 in
set_option maxRecDepth 20000 in
theorem w_L_space {l : Launch} {d : Nat} (hd9 : 8 ≤ d) {a0 : Nat} {a1 : Int32} {bc bs : Nat} {h : tq_H} {o : Int32 × tq_H} {Q : tq_R → tq_H → Prop} (hf : f_L_space a0 a1 h = some o) (hb : ∀ E g, f_X10_space a0 a1 h = some (.inl E, g) → 1 ≤ bc ∧ 6 ≤ bs) (hQ : ∀ r h9, r = .inl (some (.int o.1)) ∧ o.2 = h9 → Q r h9) : tq_CW l yL_space cL_space 3 (some .int) [(0, 5, 6, 13)] d (0 + bc) (0 + bs) [.ref a0, .int a1] h Q := by
  refine tq_bodyW (y := yL_space) (by decide +kernel) (Nat.le_of_ble_eq_true rfl) ?_
  show tq_W l mL_space d (0 + bc) (0 + bs) Q 0 [(0, .ref a0), (1, .int a1)] [] h
  refine tq_more (bc := bc) (bs := bs) (by omega) (by omega) ?_
  refine tq_aload_n (M := mL_space) (pc := 0) dL_space_0 rfl ?_
  refine tq_iload_n (M := mL_space) (pc := 1) dL_space_1 rfl ?_
  obtain ⟨⟨⟩, eu2, hf⟩ := tq_be hf
  obtain ⟨fsu2, eu2⟩ := tq_is_s eu2
  obtain ⟨⟨E1 | v4, w3⟩, ev1, hf⟩ := tq_be hf
  · skip
    by_cases c0 : E1 = "java/lang/IndexOutOfBoundsException"
    · have hf := tq_ifp hf c0
      subst c0
      have hb9 := hb _ _ ev1
      refine tq_calV (M := mL_space) (pc := 2) (S := []) tk_y_X10_space tk_v_X10_space tk_RL_64 dL_space_2 [.int a1] rfl (S0 := _) rfl eu2 rfl (Nat.le_of_ble_eq_true rfl) (d1 := d - 1) (b1 := 0 + bc) (s1 := 0 + bs) (bc' := 0) (bs' := 0) (Q1 := fun r h9 => r = tq_enI ((.inl "java/lang/IndexOutOfBoundsException", w3) : (String ⊕ Int32) × tq_H).1 ∧ ((.inl "java/lang/IndexOutOfBoundsException", w3) : (String ⊕ Int32) × tq_H).2 = h9) (by omega) (by omega) (by omega) (w_X10_space (bc := bc) (bs := bs) (by omega) ev1 (fun _ _ _ => hb9) (fun _ _ q => q)) (fun E h9 q => ?_) (fun r9 h9 q => nomatch (show (Sum.inl r9 : tq_R) = Sum.inr _ from q.1))
      obtain ⟨q1, rfl⟩ := q
      cases (show (Sum.inr E : tq_R) = Sum.inr "java/lang/IndexOutOfBoundsException" from q1)
      refine tq_catch (M := mL_space) (pc := 2) (name := "java/lang/IndexOutOfBoundsException") [] ⟨0, 5, 6, 13⟩ [] rfl tk_pass_L_space_0 (by decide) (by decide) tk_RL_13 tk_cast_IndexOutOfBoundsException ?_
      refine tq_xstore_n (M := mL_space) (pc := 6) rfl dL_space_6 (L2 := [(2, .float 0), (0, .ref a0), (1, .int a1)]) (by decide) rfl ?_
      refine tq_ldc (M := mL_space) (pc := 7) dL_space_7 tk_RL_15 ?_
      refine tq_iret (M := mL_space) (pc := 9) dL_space_9 rfl ?_
      cases (Option.some.inj hf)
      exact hQ _ _ ⟨rfl, rfl⟩
    have hf := tq_ifn hf c0
    cases hf
  · refine tq_calV (M := mL_space) (pc := 2) (S := []) tk_y_X10_space tk_v_X10_space tk_RL_64 dL_space_2 [.int a1] rfl (S0 := _) rfl eu2 rfl (Nat.le_of_ble_eq_true rfl) (d1 := d - 1) (b1 := 0 + 0) (s1 := 0 + 0) (bc' := bc) (bs' := bs) (Q1 := fun r h9 => r = tq_enI ((.inr v4, w3) : (String ⊕ Int32) × tq_H).1 ∧ ((.inr v4, w3) : (String ⊕ Int32) × tq_H).2 = h9) (by omega) (by omega) (by omega) (w_X10_space (bc := 0) (bs := 0) (by omega) ev1 (fun E g z => by cases z) (fun _ _ q => q)) (fun E h9 q => nomatch (show (Sum.inr E : tq_R) = Sum.inl _ from q.1)) (fun r9 h9 q => ?_)
    obtain ⟨q1, rfl⟩ := q
    cases (show (Sum.inl r9 : tq_R) = Sum.inl (some (.int v4)) from q1)
    refine tq_iret (M := mL_space) (pc := 5) dL_space_5 rfl ?_
    cases (Option.some.inj hf)
    exact hQ _ _ ⟨rfl, rfl⟩
def f_N_space (a0 : Nat) (a1 : Int32) (h : tq_H) : Option (Int32 × tq_H) :=
  (tq_is h a0 10).bind fun _ =>
  (f_X10_space a0 a1 h).bind fun v1 => match v1 with
  | (.inl _, _) =>
    none
  | (.inr v4, w3) =>
    some (v4, w3)
theorem n_L_space {a0 : Nat} {a1 : Int32} {h : tq_H} {o : Int32 × tq_H} (e : f_N_space a0 a1 h = some o) : f_L_space a0 a1 h = some o ∧ ∀ E g, f_X10_space a0 a1 h = some (.inl E, g) → 1 ≤ 0 ∧ 6 ≤ 0 := by
  obtain ⟨u, e1, e2⟩ := tq_be e
  obtain ⟨v, e3, e4⟩ := tq_be e2
  obtain ⟨v1, v2⟩ := v
  cases v1 with
  | inl E => cases e4
  | inr v =>
    refine ⟨?_, fun E g z => by rw [e3] at z; cases z⟩
    unfold f_L_space
    rw [e1, Option.bind_some, e3, Option.bind_some]
    exact e4
abbrev mL_number : tq_M := (RL, cL_number, 3, (some .int), false, [(0, 5, 6, 13)], none)
def f_L_number (a0 : Nat) (a1 : Int32) (h : tq_H) : Option (Int32 × tq_H) :=
  (tq_is h a0 10).bind fun _ =>
  (f_X10_number a0 a1 h).bind fun v1 => match v1 with
  | (.inl E1, w3) =>
    if E1 = "java/lang/IndexOutOfBoundsException" then
      some ((-2000000001 : Int32), w3)
    else
      none
  | (.inr v4, w3) =>
    some (v4, w3)
set_option maxHeartbeats 4000000 in
set_option maxRecDepth 20000 in
theorem w_L_number {l : Launch} {d : Nat} (hd9 : 8 ≤ d) {a0 : Nat} {a1 : Int32} {bc bs : Nat} {h : tq_H} {o : Int32 × tq_H} {Q : tq_R → tq_H → Prop} (hf : f_L_number a0 a1 h = some o) (hb : ∀ E g, f_X10_number a0 a1 h = some (.inl E, g) → 1 ≤ bc ∧ 6 ≤ bs) (hQ : ∀ r h9, r = .inl (some (.int o.1)) ∧ o.2 = h9 → Q r h9) : tq_CW l yL_number cL_number 3 (some .int) [(0, 5, 6, 13)] d (0 + bc) (0 + bs) [.ref a0, .int a1] h Q := by
  refine tq_bodyW (y := yL_number) (by decide +kernel) (Nat.le_of_ble_eq_true rfl) ?_
  show tq_W l mL_number d (0 + bc) (0 + bs) Q 0 [(0, .ref a0), (1, .int a1)] [] h
  refine tq_more (bc := bc) (bs := bs) (by omega) (by omega) ?_
  refine tq_aload_n (M := mL_number) (pc := 0) dL_number_0 rfl ?_
  refine tq_iload_n (M := mL_number) (pc := 1) dL_number_1 rfl ?_
  obtain ⟨⟨⟩, eu2, hf⟩ := tq_be hf
  obtain ⟨fsu2, eu2⟩ := tq_is_s eu2
  obtain ⟨⟨E1 | v4, w3⟩, ev1, hf⟩ := tq_be hf
  · skip
    by_cases c0 : E1 = "java/lang/IndexOutOfBoundsException"
    · have hf := tq_ifp hf c0
      subst c0
      have hb9 := hb _ _ ev1
      refine tq_calV (M := mL_number) (pc := 2) (S := []) tk_y_X10_number tk_v_X10_number tk_RL_67 dL_number_2 [.int a1] rfl (S0 := _) rfl eu2 rfl (Nat.le_of_ble_eq_true rfl) (d1 := d - 1) (b1 := 0 + bc) (s1 := 0 + bs) (bc' := 0) (bs' := 0) (Q1 := fun r h9 => r = tq_enI ((.inl "java/lang/IndexOutOfBoundsException", w3) : (String ⊕ Int32) × tq_H).1 ∧ ((.inl "java/lang/IndexOutOfBoundsException", w3) : (String ⊕ Int32) × tq_H).2 = h9) (by omega) (by omega) (by omega) (w_X10_number (bc := bc) (bs := bs) (by omega) ev1 (fun _ _ _ => hb9) (fun _ _ q => q)) (fun E h9 q => ?_) (fun r9 h9 q => nomatch (show (Sum.inl r9 : tq_R) = Sum.inr _ from q.1))
      obtain ⟨q1, rfl⟩ := q
      cases (show (Sum.inr E : tq_R) = Sum.inr "java/lang/IndexOutOfBoundsException" from q1)
      refine tq_catch (M := mL_number) (pc := 2) (name := "java/lang/IndexOutOfBoundsException") [] ⟨0, 5, 6, 13⟩ [] rfl tk_pass_L_number_0 (by decide) (by decide) tk_RL_13 tk_cast_IndexOutOfBoundsException ?_
      refine tq_xstore_n (M := mL_number) (pc := 6) rfl dL_number_6 (L2 := [(2, .float 0), (0, .ref a0), (1, .int a1)]) (by decide) rfl ?_
      refine tq_ldc (M := mL_number) (pc := 7) dL_number_7 tk_RL_15 ?_
      refine tq_iret (M := mL_number) (pc := 9) dL_number_9 rfl ?_
      cases (Option.some.inj hf)
      exact hQ _ _ ⟨rfl, rfl⟩
    have hf := tq_ifn hf c0
    cases hf
  · refine tq_calV (M := mL_number) (pc := 2) (S := []) tk_y_X10_number tk_v_X10_number tk_RL_67 dL_number_2 [.int a1] rfl (S0 := _) rfl eu2 rfl (Nat.le_of_ble_eq_true rfl) (d1 := d - 1) (b1 := 0 + 0) (s1 := 0 + 0) (bc' := bc) (bs' := bs) (Q1 := fun r h9 => r = tq_enI ((.inr v4, w3) : (String ⊕ Int32) × tq_H).1 ∧ ((.inr v4, w3) : (String ⊕ Int32) × tq_H).2 = h9) (by omega) (by omega) (by omega) (w_X10_number (bc := 0) (bs := 0) (by omega) ev1 (fun E g z => by cases z) (fun _ _ q => q)) (fun E h9 q => nomatch (show (Sum.inr E : tq_R) = Sum.inl _ from q.1)) (fun r9 h9 q => ?_)
    obtain ⟨q1, rfl⟩ := q
    cases (show (Sum.inl r9 : tq_R) = Sum.inl (some (.int v4)) from q1)
    refine tq_iret (M := mL_number) (pc := 5) dL_number_5 rfl ?_
    cases (Option.some.inj hf)
    exact hQ _ _ ⟨rfl, rfl⟩
def f_N_number (a0 : Nat) (a1 : Int32) (h : tq_H) : Option (Int32 × tq_H) :=
  (tq_is h a0 10).bind fun _ =>
  (f_X10_number a0 a1 h).bind fun v1 => match v1 with
  | (.inl _, _) =>
    none
  | (.inr v4, w3) =>
    some (v4, w3)
theorem n_L_number {a0 : Nat} {a1 : Int32} {h : tq_H} {o : Int32 × tq_H} (e : f_N_number a0 a1 h = some o) : f_L_number a0 a1 h = some o ∧ ∀ E g, f_X10_number a0 a1 h = some (.inl E, g) → 1 ≤ 0 ∧ 6 ≤ 0 := by
  obtain ⟨u, e1, e2⟩ := tq_be e
  obtain ⟨v, e3, e4⟩ := tq_be e2
  obtain ⟨v1, v2⟩ := v
  cases v1 with
  | inl E => cases e4
  | inr v =>
    refine ⟨?_, fun E g z => by rw [e3] at z; cases z⟩
    unfold f_L_number
    rw [e1, Option.bind_some, e3, Option.bind_some]
    exact e4
abbrev mL_path : tq_M := (RL, cL_path, 2, (some .int), false, [(0, 4, 5, 19)], none)
def f_L_path (a0 : Nat) (h : tq_H) : Option (Int32 × tq_H) :=
  (tq_is h a0 10).bind fun _ =>
  (f_X10_path a0 h).bind fun v1 => match v1 with
  | (.inl E1, w3) =>
    if E1 = "java/lang/IllegalStateException" then
      some ((-2000000003 : Int32), w3)
    else
      none
  | (.inr v4, w3) =>
    some (v4, w3)
set_option maxHeartbeats 4000000 in
set_option maxRecDepth 20000 in
theorem w_L_path {l : Launch} {d : Nat} (hd9 : 7 ≤ d) {a0 : Nat} {bc bs : Nat} {h : tq_H} {o : Int32 × tq_H} {Q : tq_R → tq_H → Prop} (hf : f_L_path a0 h = some o) (hb : ∀ E g, f_X10_path a0 h = some (.inl E, g) → 1 ≤ bc ∧ 6 ≤ bs) (hQ : ∀ r h9, r = .inl (some (.int o.1)) ∧ o.2 = h9 → Q r h9) : tq_CW l yL_path cL_path 2 (some .int) [(0, 4, 5, 19)] d (0 + bc) (0 + bs) [.ref a0] h Q := by
  refine tq_bodyW (y := yL_path) (by decide +kernel) (Nat.le_of_ble_eq_true rfl) ?_
  show tq_W l mL_path d (0 + bc) (0 + bs) Q 0 [(0, .ref a0)] [] h
  refine tq_more (bc := bc) (bs := bs) (by omega) (by omega) ?_
  refine tq_aload_n (M := mL_path) (pc := 0) dL_path_0 rfl ?_
  obtain ⟨⟨⟩, eu2, hf⟩ := tq_be hf
  obtain ⟨fsu2, eu2⟩ := tq_is_s eu2
  obtain ⟨⟨E1 | v4, w3⟩, ev1, hf⟩ := tq_be hf
  · skip
    by_cases c0 : E1 = "java/lang/IllegalStateException"
    · have hf := tq_ifp hf c0
      subst c0
      have hb9 := hb _ _ ev1
      refine tq_calV (M := mL_path) (pc := 1) (S := []) tk_y_X10_path tk_v_X10_path tk_RL_70 dL_path_1 [] rfl (S0 := _) rfl eu2 rfl (Nat.le_of_ble_eq_true rfl) (d1 := d - 1) (b1 := 0 + bc) (s1 := 0 + bs) (bc' := 0) (bs' := 0) (Q1 := fun r h9 => r = tq_enI ((.inl "java/lang/IllegalStateException", w3) : (String ⊕ Int32) × tq_H).1 ∧ ((.inl "java/lang/IllegalStateException", w3) : (String ⊕ Int32) × tq_H).2 = h9) (by omega) (by omega) (by omega) (w_X10_path (bc := bc) (bs := bs) (by omega) ev1 (fun _ _ _ => hb9) (fun _ _ q => q)) (fun E h9 q => ?_) (fun r9 h9 q => nomatch (show (Sum.inl r9 : tq_R) = Sum.inr _ from q.1))
      obtain ⟨q1, rfl⟩ := q
      cases (show (Sum.inr E : tq_R) = Sum.inr "java/lang/IllegalStateException" from q1)
      refine tq_catch (M := mL_path) (pc := 1) (name := "java/lang/IllegalStateException") [] ⟨0, 4, 5, 19⟩ [] rfl tk_pass_L_path_0 (by decide) (by decide) tk_RL_19 tk_cast_IllegalStateException ?_
      refine tq_xstore_n (M := mL_path) (pc := 5) rfl dL_path_5 (L2 := [(1, .float 0), (0, .ref a0)]) (by decide) rfl ?_
      refine tq_ldc (M := mL_path) (pc := 6) dL_path_6 tk_RL_21 ?_
      refine tq_iret (M := mL_path) (pc := 8) dL_path_8 rfl ?_
      cases (Option.some.inj hf)
      exact hQ _ _ ⟨rfl, rfl⟩
    have hf := tq_ifn hf c0
    cases hf
  · refine tq_calV (M := mL_path) (pc := 1) (S := []) tk_y_X10_path tk_v_X10_path tk_RL_70 dL_path_1 [] rfl (S0 := _) rfl eu2 rfl (Nat.le_of_ble_eq_true rfl) (d1 := d - 1) (b1 := 0 + 0) (s1 := 0 + 0) (bc' := bc) (bs' := bs) (Q1 := fun r h9 => r = tq_enI ((.inr v4, w3) : (String ⊕ Int32) × tq_H).1 ∧ ((.inr v4, w3) : (String ⊕ Int32) × tq_H).2 = h9) (by omega) (by omega) (by omega) (w_X10_path (bc := 0) (bs := 0) (by omega) ev1 (fun E g z => by cases z) (fun _ _ q => q)) (fun E h9 q => nomatch (show (Sum.inr E : tq_R) = Sum.inl _ from q.1)) (fun r9 h9 q => ?_)
    obtain ⟨q1, rfl⟩ := q
    cases (show (Sum.inl r9 : tq_R) = Sum.inl (some (.int v4)) from q1)
    refine tq_iret (M := mL_path) (pc := 4) dL_path_4 rfl ?_
    cases (Option.some.inj hf)
    exact hQ _ _ ⟨rfl, rfl⟩
abbrev mL_step : tq_M := (RL, cL_step, 6, (some .int), false, [(0, 9, 10, 13), (0, 9, 15, 16), (0, 9, 20, 19)], none)
def f_L_step (a0 : Nat) (a1 : Int32) (a2 : Int32) (a3 : Int32) (a4 : Int32) (h : tq_H) : Option (Int32 × tq_H) :=
  (tq_is h a0 10).bind fun _ =>
  (f_X10_step a0 a1 a2 a3 a4 h).bind fun v1 => match v1 with
  | (.inl E1, w3) =>
    if E1 = "java/lang/IndexOutOfBoundsException" then
      some ((-2000000001 : Int32), w3)
    else
      if E1 = "java/lang/IllegalArgumentException" then
        some ((-2000000002 : Int32), w3)
      else
        if E1 = "java/lang/IllegalStateException" then
          some ((-2000000003 : Int32), w3)
        else
          none
  | (.inr v4, w3) =>
    some (v4, w3)
set_option maxHeartbeats 4000000 in
set_option maxRecDepth 20000 in
theorem w_L_step {l : Launch} {d : Nat} (hd9 : 8 ≤ d) {a0 : Nat} {a1 : Int32} {a2 : Int32} {a3 : Int32} {a4 : Int32} {bc bs : Nat} {h : tq_H} {o : Int32 × tq_H} {Q : tq_R → tq_H → Prop} (hf : f_L_step a0 a1 a2 a3 a4 h = some o) (hb : ∀ E g, f_X10_step a0 a1 a2 a3 a4 h = some (.inl E, g) → 1 ≤ bc ∧ 6 ≤ bs) (hQ : ∀ r h9, r = .inl (some (.int o.1)) ∧ o.2 = h9 → Q r h9) : tq_CW l yL_step cL_step 6 (some .int) [(0, 9, 10, 13), (0, 9, 15, 16), (0, 9, 20, 19)] d (0 + bc) (0 + bs) [.ref a0, .int a1, .int a2, .int a3, .int a4] h Q := by
  refine tq_bodyW (y := yL_step) (by decide +kernel) (Nat.le_of_ble_eq_true rfl) ?_
  show tq_W l mL_step d (0 + bc) (0 + bs) Q 0 [(0, .ref a0), (1, .int a1), (2, .int a2), (3, .int a3), (4, .int a4)] [] h
  refine tq_more (bc := bc) (bs := bs) (by omega) (by omega) ?_
  refine tq_aload_n (M := mL_step) (pc := 0) dL_step_0 rfl ?_
  refine tq_iload_n (M := mL_step) (pc := 1) dL_step_1 rfl ?_
  refine tq_iload_n (M := mL_step) (pc := 2) dL_step_2 rfl ?_
  refine tq_iload_n (M := mL_step) (pc := 3) dL_step_3 rfl ?_
  refine tq_iload (M := mL_step) (pc := 4) dL_step_4 rfl ?_
  obtain ⟨⟨⟩, eu2, hf⟩ := tq_be hf
  obtain ⟨fsu2, eu2⟩ := tq_is_s eu2
  obtain ⟨⟨E1 | v4, w3⟩, ev1, hf⟩ := tq_be hf
  · skip
    by_cases c0 : E1 = "java/lang/IndexOutOfBoundsException"
    · have hf := tq_ifp hf c0
      subst c0
      have hb9 := hb _ _ ev1
      refine tq_calV (M := mL_step) (pc := 6) (S := []) tk_y_X10_step tk_v_X10_step tk_RL_73 dL_step_6 [.int a1, .int a2, .int a3, .int a4] rfl (S0 := _) rfl eu2 rfl (Nat.le_of_ble_eq_true rfl) (d1 := d - 1) (b1 := 0 + bc) (s1 := 0 + bs) (bc' := 0) (bs' := 0) (Q1 := fun r h9 => r = tq_enI ((.inl "java/lang/IndexOutOfBoundsException", w3) : (String ⊕ Int32) × tq_H).1 ∧ ((.inl "java/lang/IndexOutOfBoundsException", w3) : (String ⊕ Int32) × tq_H).2 = h9) (by omega) (by omega) (by omega) (w_X10_step (bc := bc) (bs := bs) (by omega) ev1 (fun _ _ _ => hb9) (fun _ _ q => q)) (fun E h9 q => ?_) (fun r9 h9 q => nomatch (show (Sum.inl r9 : tq_R) = Sum.inr _ from q.1))
      obtain ⟨q1, rfl⟩ := q
      cases (show (Sum.inr E : tq_R) = Sum.inr "java/lang/IndexOutOfBoundsException" from q1)
      refine tq_catch (M := mL_step) (pc := 6) (name := "java/lang/IndexOutOfBoundsException") [] ⟨0, 9, 10, 13⟩ [⟨0, 9, 15, 16⟩, ⟨0, 9, 20, 19⟩] rfl tk_pass_L_step_0 (by decide) (by decide) tk_RL_13 tk_cast_IndexOutOfBoundsException ?_
      refine tq_xstore (M := mL_step) (pc := 10) dL_step_10 (L2 := [(5, .float 0), (0, .ref a0), (1, .int a1), (2, .int a2), (3, .int a3), (4, .int a4)]) (by decide) rfl ?_
      refine tq_ldc (M := mL_step) (pc := 12) dL_step_12 tk_RL_15 ?_
      refine tq_iret (M := mL_step) (pc := 14) dL_step_14 rfl ?_
      cases (Option.some.inj hf)
      exact hQ _ _ ⟨rfl, rfl⟩
    have hf := tq_ifn hf c0
    by_cases c1 : E1 = "java/lang/IllegalArgumentException"
    · have hf := tq_ifp hf c1
      subst c1
      have hb9 := hb _ _ ev1
      refine tq_calV (M := mL_step) (pc := 6) (S := []) tk_y_X10_step tk_v_X10_step tk_RL_73 dL_step_6 [.int a1, .int a2, .int a3, .int a4] rfl (S0 := _) rfl eu2 rfl (Nat.le_of_ble_eq_true rfl) (d1 := d - 1) (b1 := 0 + bc) (s1 := 0 + bs) (bc' := 0) (bs' := 0) (Q1 := fun r h9 => r = tq_enI ((.inl "java/lang/IllegalArgumentException", w3) : (String ⊕ Int32) × tq_H).1 ∧ ((.inl "java/lang/IllegalArgumentException", w3) : (String ⊕ Int32) × tq_H).2 = h9) (by omega) (by omega) (by omega) (w_X10_step (bc := bc) (bs := bs) (by omega) ev1 (fun _ _ _ => hb9) (fun _ _ q => q)) (fun E h9 q => ?_) (fun r9 h9 q => nomatch (show (Sum.inl r9 : tq_R) = Sum.inr _ from q.1))
      obtain ⟨q1, rfl⟩ := q
      cases (show (Sum.inr E : tq_R) = Sum.inr "java/lang/IllegalArgumentException" from q1)
      refine tq_catch (M := mL_step) (pc := 6) (name := "java/lang/IllegalArgumentException") [⟨0, 9, 10, 13⟩] ⟨0, 9, 15, 16⟩ [⟨0, 9, 20, 19⟩] rfl tk_pass_L_step_1 (by decide) (by decide) tk_RL_16 tk_cast_IllegalArgumentException ?_
      refine tq_xstore (M := mL_step) (pc := 15) dL_step_15 (L2 := [(5, .float 0), (0, .ref a0), (1, .int a1), (2, .int a2), (3, .int a3), (4, .int a4)]) (by decide) rfl ?_
      refine tq_ldc (M := mL_step) (pc := 17) dL_step_17 tk_RL_18 ?_
      refine tq_iret (M := mL_step) (pc := 19) dL_step_19 rfl ?_
      cases (Option.some.inj hf)
      exact hQ _ _ ⟨rfl, rfl⟩
    have hf := tq_ifn hf c1
    by_cases c2 : E1 = "java/lang/IllegalStateException"
    · have hf := tq_ifp hf c2
      subst c2
      have hb9 := hb _ _ ev1
      refine tq_calV (M := mL_step) (pc := 6) (S := []) tk_y_X10_step tk_v_X10_step tk_RL_73 dL_step_6 [.int a1, .int a2, .int a3, .int a4] rfl (S0 := _) rfl eu2 rfl (Nat.le_of_ble_eq_true rfl) (d1 := d - 1) (b1 := 0 + bc) (s1 := 0 + bs) (bc' := 0) (bs' := 0) (Q1 := fun r h9 => r = tq_enI ((.inl "java/lang/IllegalStateException", w3) : (String ⊕ Int32) × tq_H).1 ∧ ((.inl "java/lang/IllegalStateException", w3) : (String ⊕ Int32) × tq_H).2 = h9) (by omega) (by omega) (by omega) (w_X10_step (bc := bc) (bs := bs) (by omega) ev1 (fun _ _ _ => hb9) (fun _ _ q => q)) (fun E h9 q => ?_) (fun r9 h9 q => nomatch (show (Sum.inl r9 : tq_R) = Sum.inr _ from q.1))
      obtain ⟨q1, rfl⟩ := q
      cases (show (Sum.inr E : tq_R) = Sum.inr "java/lang/IllegalStateException" from q1)
      refine tq_catch (M := mL_step) (pc := 6) (name := "java/lang/IllegalStateException") [⟨0, 9, 10, 13⟩, ⟨0, 9, 15, 16⟩] ⟨0, 9, 20, 19⟩ [] rfl tk_pass_L_step_2 (by decide) (by decide) tk_RL_19 tk_cast_IllegalStateException ?_
      refine tq_xstore (M := mL_step) (pc := 20) dL_step_20 (L2 := [(5, .float 0), (0, .ref a0), (1, .int a1), (2, .int a2), (3, .int a3), (4, .int a4)]) (by decide) rfl ?_
      refine tq_ldc (M := mL_step) (pc := 22) dL_step_22 tk_RL_21 ?_
      refine tq_iret (M := mL_step) (pc := 24) dL_step_24 rfl ?_
      cases (Option.some.inj hf)
      exact hQ _ _ ⟨rfl, rfl⟩
    have hf := tq_ifn hf c2
    cases hf
  · refine tq_calV (M := mL_step) (pc := 6) (S := []) tk_y_X10_step tk_v_X10_step tk_RL_73 dL_step_6 [.int a1, .int a2, .int a3, .int a4] rfl (S0 := _) rfl eu2 rfl (Nat.le_of_ble_eq_true rfl) (d1 := d - 1) (b1 := 0 + 0) (s1 := 0 + 0) (bc' := bc) (bs' := bs) (Q1 := fun r h9 => r = tq_enI ((.inr v4, w3) : (String ⊕ Int32) × tq_H).1 ∧ ((.inr v4, w3) : (String ⊕ Int32) × tq_H).2 = h9) (by omega) (by omega) (by omega) (w_X10_step (bc := 0) (bs := 0) (by omega) ev1 (fun E g z => by cases z) (fun _ _ q => q)) (fun E h9 q => nomatch (show (Sum.inr E : tq_R) = Sum.inl _ from q.1)) (fun r9 h9 q => ?_)
    obtain ⟨q1, rfl⟩ := q
    cases (show (Sum.inl r9 : tq_R) = Sum.inl (some (.int v4)) from q1)
    refine tq_iret (M := mL_step) (pc := 9) dL_step_9 rfl ?_
    cases (Option.some.inj hf)
    exact hQ _ _ ⟨rfl, rfl⟩
abbrev mL_place : tq_M := (RL, cL_place, 5, (some .int), false, [(0, 7, 8, 13), (0, 7, 13, 16), (0, 7, 18, 19)], none)
def f_L_place (a0 : Nat) (a1 : Int32) (a2 : Int32) (a3 : Int32) (h : tq_H) : Option (Int32 × tq_H) :=
  (tq_is h a0 10).bind fun _ =>
  (f_X10_place a0 a1 a2 a3 h).bind fun v1 => match v1 with
  | (.inl E1, w3) =>
    if E1 = "java/lang/IndexOutOfBoundsException" then
      some ((-2000000001 : Int32), w3)
    else
      if E1 = "java/lang/IllegalArgumentException" then
        some ((-2000000002 : Int32), w3)
      else
        if E1 = "java/lang/IllegalStateException" then
          some ((-2000000003 : Int32), w3)
        else
          none
  | (.inr v4, w3) =>
    some (v4, w3)
set_option maxHeartbeats 4000000 in
set_option maxRecDepth 20000 in
theorem w_L_place {l : Launch} {d : Nat} (hd9 : 9 ≤ d) {a0 : Nat} {a1 : Int32} {a2 : Int32} {a3 : Int32} {bc bs : Nat} {h : tq_H} {o : Int32 × tq_H} {Q : tq_R → tq_H → Prop} (hf : f_L_place a0 a1 a2 a3 h = some o) (hb : ∀ E g, f_X10_place a0 a1 a2 a3 h = some (.inl E, g) → 1 ≤ bc ∧ 6 ≤ bs) (hQ : ∀ r h9, r = .inl (some (.int o.1)) ∧ o.2 = h9 → Q r h9) : tq_CW l yL_place cL_place 5 (some .int) [(0, 7, 8, 13), (0, 7, 13, 16), (0, 7, 18, 19)] d (0 + bc) (0 + bs) [.ref a0, .int a1, .int a2, .int a3] h Q := by
  refine tq_bodyW (y := yL_place) (by decide +kernel) (Nat.le_of_ble_eq_true rfl) ?_
  show tq_W l mL_place d (0 + bc) (0 + bs) Q 0 [(0, .ref a0), (1, .int a1), (2, .int a2), (3, .int a3)] [] h
  refine tq_more (bc := bc) (bs := bs) (by omega) (by omega) ?_
  refine tq_aload_n (M := mL_place) (pc := 0) dL_place_0 rfl ?_
  refine tq_iload_n (M := mL_place) (pc := 1) dL_place_1 rfl ?_
  refine tq_iload_n (M := mL_place) (pc := 2) dL_place_2 rfl ?_
  refine tq_iload_n (M := mL_place) (pc := 3) dL_place_3 rfl ?_
  obtain ⟨⟨⟩, eu2, hf⟩ := tq_be hf
  obtain ⟨fsu2, eu2⟩ := tq_is_s eu2
  obtain ⟨⟨E1 | v4, w3⟩, ev1, hf⟩ := tq_be hf
  · skip
    by_cases c0 : E1 = "java/lang/IndexOutOfBoundsException"
    · have hf := tq_ifp hf c0
      subst c0
      have hb9 := hb _ _ ev1
      refine tq_calV (M := mL_place) (pc := 4) (S := []) tk_y_X10_place tk_v_X10_place tk_RL_77 dL_place_4 [.int a1, .int a2, .int a3] rfl (S0 := _) rfl eu2 rfl (Nat.le_of_ble_eq_true rfl) (d1 := d - 1) (b1 := 0 + bc) (s1 := 0 + bs) (bc' := 0) (bs' := 0) (Q1 := fun r h9 => r = tq_enI ((.inl "java/lang/IndexOutOfBoundsException", w3) : (String ⊕ Int32) × tq_H).1 ∧ ((.inl "java/lang/IndexOutOfBoundsException", w3) : (String ⊕ Int32) × tq_H).2 = h9) (by omega) (by omega) (by omega) (w_X10_place (bc := bc) (bs := bs) (by omega) ev1 (fun _ _ _ => hb9) (fun _ _ q => q)) (fun E h9 q => ?_) (fun r9 h9 q => nomatch (show (Sum.inl r9 : tq_R) = Sum.inr _ from q.1))
      obtain ⟨q1, rfl⟩ := q
      cases (show (Sum.inr E : tq_R) = Sum.inr "java/lang/IndexOutOfBoundsException" from q1)
      refine tq_catch (M := mL_place) (pc := 4) (name := "java/lang/IndexOutOfBoundsException") [] ⟨0, 7, 8, 13⟩ [⟨0, 7, 13, 16⟩, ⟨0, 7, 18, 19⟩] rfl tk_pass_L_place_0 (by decide) (by decide) tk_RL_13 tk_cast_IndexOutOfBoundsException ?_
      refine tq_xstore (M := mL_place) (pc := 8) dL_place_8 (L2 := [(4, .float 0), (0, .ref a0), (1, .int a1), (2, .int a2), (3, .int a3)]) (by decide) rfl ?_
      refine tq_ldc (M := mL_place) (pc := 10) dL_place_10 tk_RL_15 ?_
      refine tq_iret (M := mL_place) (pc := 12) dL_place_12 rfl ?_
      cases (Option.some.inj hf)
      exact hQ _ _ ⟨rfl, rfl⟩
    have hf := tq_ifn hf c0
    by_cases c1 : E1 = "java/lang/IllegalArgumentException"
    · have hf := tq_ifp hf c1
      subst c1
      have hb9 := hb _ _ ev1
      refine tq_calV (M := mL_place) (pc := 4) (S := []) tk_y_X10_place tk_v_X10_place tk_RL_77 dL_place_4 [.int a1, .int a2, .int a3] rfl (S0 := _) rfl eu2 rfl (Nat.le_of_ble_eq_true rfl) (d1 := d - 1) (b1 := 0 + bc) (s1 := 0 + bs) (bc' := 0) (bs' := 0) (Q1 := fun r h9 => r = tq_enI ((.inl "java/lang/IllegalArgumentException", w3) : (String ⊕ Int32) × tq_H).1 ∧ ((.inl "java/lang/IllegalArgumentException", w3) : (String ⊕ Int32) × tq_H).2 = h9) (by omega) (by omega) (by omega) (w_X10_place (bc := bc) (bs := bs) (by omega) ev1 (fun _ _ _ => hb9) (fun _ _ q => q)) (fun E h9 q => ?_) (fun r9 h9 q => nomatch (show (Sum.inl r9 : tq_R) = Sum.inr _ from q.1))
      obtain ⟨q1, rfl⟩ := q
      cases (show (Sum.inr E : tq_R) = Sum.inr "java/lang/IllegalArgumentException" from q1)
      refine tq_catch (M := mL_place) (pc := 4) (name := "java/lang/IllegalArgumentException") [⟨0, 7, 8, 13⟩] ⟨0, 7, 13, 16⟩ [⟨0, 7, 18, 19⟩] rfl tk_pass_L_place_1 (by decide) (by decide) tk_RL_16 tk_cast_IllegalArgumentException ?_
      refine tq_xstore (M := mL_place) (pc := 13) dL_place_13 (L2 := [(4, .float 0), (0, .ref a0), (1, .int a1), (2, .int a2), (3, .int a3)]) (by decide) rfl ?_
      refine tq_ldc (M := mL_place) (pc := 15) dL_place_15 tk_RL_18 ?_
      refine tq_iret (M := mL_place) (pc := 17) dL_place_17 rfl ?_
      cases (Option.some.inj hf)
      exact hQ _ _ ⟨rfl, rfl⟩
    have hf := tq_ifn hf c1
    by_cases c2 : E1 = "java/lang/IllegalStateException"
    · have hf := tq_ifp hf c2
      subst c2
      have hb9 := hb _ _ ev1
      refine tq_calV (M := mL_place) (pc := 4) (S := []) tk_y_X10_place tk_v_X10_place tk_RL_77 dL_place_4 [.int a1, .int a2, .int a3] rfl (S0 := _) rfl eu2 rfl (Nat.le_of_ble_eq_true rfl) (d1 := d - 1) (b1 := 0 + bc) (s1 := 0 + bs) (bc' := 0) (bs' := 0) (Q1 := fun r h9 => r = tq_enI ((.inl "java/lang/IllegalStateException", w3) : (String ⊕ Int32) × tq_H).1 ∧ ((.inl "java/lang/IllegalStateException", w3) : (String ⊕ Int32) × tq_H).2 = h9) (by omega) (by omega) (by omega) (w_X10_place (bc := bc) (bs := bs) (by omega) ev1 (fun _ _ _ => hb9) (fun _ _ q => q)) (fun E h9 q => ?_) (fun r9 h9 q => nomatch (show (Sum.inl r9 : tq_R) = Sum.inr _ from q.1))
      obtain ⟨q1, rfl⟩ := q
      cases (show (Sum.inr E : tq_R) = Sum.inr "java/lang/IllegalStateException" from q1)
      refine tq_catch (M := mL_place) (pc := 4) (name := "java/lang/IllegalStateException") [⟨0, 7, 8, 13⟩, ⟨0, 7, 13, 16⟩] ⟨0, 7, 18, 19⟩ [] rfl tk_pass_L_place_2 (by decide) (by decide) tk_RL_19 tk_cast_IllegalStateException ?_
      refine tq_xstore (M := mL_place) (pc := 18) dL_place_18 (L2 := [(4, .float 0), (0, .ref a0), (1, .int a1), (2, .int a2), (3, .int a3)]) (by decide) rfl ?_
      refine tq_ldc (M := mL_place) (pc := 20) dL_place_20 tk_RL_21 ?_
      refine tq_iret (M := mL_place) (pc := 22) dL_place_22 rfl ?_
      cases (Option.some.inj hf)
      exact hQ _ _ ⟨rfl, rfl⟩
    have hf := tq_ifn hf c2
    cases hf
  · refine tq_calV (M := mL_place) (pc := 4) (S := []) tk_y_X10_place tk_v_X10_place tk_RL_77 dL_place_4 [.int a1, .int a2, .int a3] rfl (S0 := _) rfl eu2 rfl (Nat.le_of_ble_eq_true rfl) (d1 := d - 1) (b1 := 0 + 0) (s1 := 0 + 0) (bc' := bc) (bs' := bs) (Q1 := fun r h9 => r = tq_enI ((.inr v4, w3) : (String ⊕ Int32) × tq_H).1 ∧ ((.inr v4, w3) : (String ⊕ Int32) × tq_H).2 = h9) (by omega) (by omega) (by omega) (w_X10_place (bc := 0) (bs := 0) (by omega) ev1 (fun E g z => by cases z) (fun _ _ q => q)) (fun E h9 q => nomatch (show (Sum.inr E : tq_R) = Sum.inl _ from q.1)) (fun r9 h9 q => ?_)
    obtain ⟨q1, rfl⟩ := q
    cases (show (Sum.inl r9 : tq_R) = Sum.inl (some (.int v4)) from q1)
    refine tq_iret (M := mL_place) (pc := 7) dL_place_7 rfl ?_
    cases (Option.some.inj hf)
    exact hQ _ _ ⟨rfl, rfl⟩
abbrev mL_last : tq_M := (RL, cL_last, 3, (some .int), false, [(0, 5, 6, 13), (0, 5, 10, 19)], none)
def f_L_last (a0 : Nat) (a1 : Int32) (h : tq_H) : Option (Int32 × tq_H) :=
  (tq_is h a0 10).bind fun _ =>
  (f_X10_last a0 a1 h).bind fun v1 => match v1 with
  | (.inl E1, w3) =>
    if E1 = "java/lang/IndexOutOfBoundsException" then
      some ((-2000000001 : Int32), w3)
    else
      if E1 = "java/lang/IllegalStateException" then
        some ((-2000000003 : Int32), w3)
      else
        none
  | (.inr v4, w3) =>
    some (v4, w3)
set_option maxHeartbeats 4000000 in
set_option maxRecDepth 20000 in
theorem w_L_last {l : Launch} {d : Nat} (hd9 : 9 ≤ d) {a0 : Nat} {a1 : Int32} {bc bs : Nat} {h : tq_H} {o : Int32 × tq_H} {Q : tq_R → tq_H → Prop} (hf : f_L_last a0 a1 h = some o) (hb : ∀ E g, f_X10_last a0 a1 h = some (.inl E, g) → 1 ≤ bc ∧ 6 ≤ bs) (hQ : ∀ r h9, r = .inl (some (.int o.1)) ∧ o.2 = h9 → Q r h9) : tq_CW l yL_last cL_last 3 (some .int) [(0, 5, 6, 13), (0, 5, 10, 19)] d (0 + bc) (0 + bs) [.ref a0, .int a1] h Q := by
  refine tq_bodyW (y := yL_last) (by decide +kernel) (Nat.le_of_ble_eq_true rfl) ?_
  show tq_W l mL_last d (0 + bc) (0 + bs) Q 0 [(0, .ref a0), (1, .int a1)] [] h
  refine tq_more (bc := bc) (bs := bs) (by omega) (by omega) ?_
  refine tq_aload_n (M := mL_last) (pc := 0) dL_last_0 rfl ?_
  refine tq_iload_n (M := mL_last) (pc := 1) dL_last_1 rfl ?_
  obtain ⟨⟨⟩, eu2, hf⟩ := tq_be hf
  obtain ⟨fsu2, eu2⟩ := tq_is_s eu2
  obtain ⟨⟨E1 | v4, w3⟩, ev1, hf⟩ := tq_be hf
  · skip
    by_cases c0 : E1 = "java/lang/IndexOutOfBoundsException"
    · have hf := tq_ifp hf c0
      subst c0
      have hb9 := hb _ _ ev1
      refine tq_calV (M := mL_last) (pc := 2) (S := []) tk_y_X10_last tk_v_X10_last tk_RL_80 dL_last_2 [.int a1] rfl (S0 := _) rfl eu2 rfl (Nat.le_of_ble_eq_true rfl) (d1 := d - 1) (b1 := 0 + bc) (s1 := 0 + bs) (bc' := 0) (bs' := 0) (Q1 := fun r h9 => r = tq_enI ((.inl "java/lang/IndexOutOfBoundsException", w3) : (String ⊕ Int32) × tq_H).1 ∧ ((.inl "java/lang/IndexOutOfBoundsException", w3) : (String ⊕ Int32) × tq_H).2 = h9) (by omega) (by omega) (by omega) (w_X10_last (bc := bc) (bs := bs) (by omega) ev1 (fun _ _ _ => hb9) (fun _ _ q => q)) (fun E h9 q => ?_) (fun r9 h9 q => nomatch (show (Sum.inl r9 : tq_R) = Sum.inr _ from q.1))
      obtain ⟨q1, rfl⟩ := q
      cases (show (Sum.inr E : tq_R) = Sum.inr "java/lang/IndexOutOfBoundsException" from q1)
      refine tq_catch (M := mL_last) (pc := 2) (name := "java/lang/IndexOutOfBoundsException") [] ⟨0, 5, 6, 13⟩ [⟨0, 5, 10, 19⟩] rfl tk_pass_L_last_0 (by decide) (by decide) tk_RL_13 tk_cast_IndexOutOfBoundsException ?_
      refine tq_xstore_n (M := mL_last) (pc := 6) rfl dL_last_6 (L2 := [(2, .float 0), (0, .ref a0), (1, .int a1)]) (by decide) rfl ?_
      refine tq_ldc (M := mL_last) (pc := 7) dL_last_7 tk_RL_15 ?_
      refine tq_iret (M := mL_last) (pc := 9) dL_last_9 rfl ?_
      cases (Option.some.inj hf)
      exact hQ _ _ ⟨rfl, rfl⟩
    have hf := tq_ifn hf c0
    by_cases c1 : E1 = "java/lang/IllegalStateException"
    · have hf := tq_ifp hf c1
      subst c1
      have hb9 := hb _ _ ev1
      refine tq_calV (M := mL_last) (pc := 2) (S := []) tk_y_X10_last tk_v_X10_last tk_RL_80 dL_last_2 [.int a1] rfl (S0 := _) rfl eu2 rfl (Nat.le_of_ble_eq_true rfl) (d1 := d - 1) (b1 := 0 + bc) (s1 := 0 + bs) (bc' := 0) (bs' := 0) (Q1 := fun r h9 => r = tq_enI ((.inl "java/lang/IllegalStateException", w3) : (String ⊕ Int32) × tq_H).1 ∧ ((.inl "java/lang/IllegalStateException", w3) : (String ⊕ Int32) × tq_H).2 = h9) (by omega) (by omega) (by omega) (w_X10_last (bc := bc) (bs := bs) (by omega) ev1 (fun _ _ _ => hb9) (fun _ _ q => q)) (fun E h9 q => ?_) (fun r9 h9 q => nomatch (show (Sum.inl r9 : tq_R) = Sum.inr _ from q.1))
      obtain ⟨q1, rfl⟩ := q
      cases (show (Sum.inr E : tq_R) = Sum.inr "java/lang/IllegalStateException" from q1)
      refine tq_catch (M := mL_last) (pc := 2) (name := "java/lang/IllegalStateException") [⟨0, 5, 6, 13⟩] ⟨0, 5, 10, 19⟩ [] rfl tk_pass_L_last_1 (by decide) (by decide) tk_RL_19 tk_cast_IllegalStateException ?_
      refine tq_xstore_n (M := mL_last) (pc := 10) rfl dL_last_10 (L2 := [(2, .float 0), (0, .ref a0), (1, .int a1)]) (by decide) rfl ?_
      refine tq_ldc (M := mL_last) (pc := 11) dL_last_11 tk_RL_21 ?_
      refine tq_iret (M := mL_last) (pc := 13) dL_last_13 rfl ?_
      cases (Option.some.inj hf)
      exact hQ _ _ ⟨rfl, rfl⟩
    have hf := tq_ifn hf c1
    cases hf
  · refine tq_calV (M := mL_last) (pc := 2) (S := []) tk_y_X10_last tk_v_X10_last tk_RL_80 dL_last_2 [.int a1] rfl (S0 := _) rfl eu2 rfl (Nat.le_of_ble_eq_true rfl) (d1 := d - 1) (b1 := 0 + 0) (s1 := 0 + 0) (bc' := bc) (bs' := bs) (Q1 := fun r h9 => r = tq_enI ((.inr v4, w3) : (String ⊕ Int32) × tq_H).1 ∧ ((.inr v4, w3) : (String ⊕ Int32) × tq_H).2 = h9) (by omega) (by omega) (by omega) (w_X10_last (bc := 0) (bs := 0) (by omega) ev1 (fun E g z => by cases z) (fun _ _ q => q)) (fun E h9 q => nomatch (show (Sum.inr E : tq_R) = Sum.inl _ from q.1)) (fun r9 h9 q => ?_)
    obtain ⟨q1, rfl⟩ := q
    cases (show (Sum.inl r9 : tq_R) = Sum.inl (some (.int v4)) from q1)
    refine tq_iret (M := mL_last) (pc := 5) dL_last_5 rfl ?_
    cases (Option.some.inj hf)
    exact hQ _ _ ⟨rfl, rfl⟩
abbrev mL_has : tq_M := (RL, cL_has, 5, (some .int), false, [(0, 7, 8, 13), (0, 7, 13, 19)], none)
def f_L_has (a0 : Nat) (a1 : Int32) (a2 : Int32) (a3 : Int32) (h : tq_H) : Option (Int32 × tq_H) :=
  (tq_is h a0 10).bind fun _ =>
  (f_X10_has a0 a1 a2 a3 h).bind fun v1 => match v1 with
  | (.inl E1, w3) =>
    if E1 = "java/lang/IndexOutOfBoundsException" then
      some ((-2000000001 : Int32), w3)
    else
      if E1 = "java/lang/IllegalStateException" then
        some ((-2000000003 : Int32), w3)
      else
        none
  | (.inr v4, w3) =>
    some (v4, w3)
set_option maxHeartbeats 4000000 in
set_option maxRecDepth 20000 in
theorem w_L_has {l : Launch} {d : Nat} (hd9 : 9 ≤ d) {a0 : Nat} {a1 : Int32} {a2 : Int32} {a3 : Int32} {bc bs : Nat} {h : tq_H} {o : Int32 × tq_H} {Q : tq_R → tq_H → Prop} (hf : f_L_has a0 a1 a2 a3 h = some o) (hb : ∀ E g, f_X10_has a0 a1 a2 a3 h = some (.inl E, g) → 1 ≤ bc ∧ 6 ≤ bs) (hQ : ∀ r h9, r = .inl (some (.int o.1)) ∧ o.2 = h9 → Q r h9) : tq_CW l yL_has cL_has 5 (some .int) [(0, 7, 8, 13), (0, 7, 13, 19)] d (0 + bc) (0 + bs) [.ref a0, .int a1, .int a2, .int a3] h Q := by
  refine tq_bodyW (y := yL_has) (by decide +kernel) (Nat.le_of_ble_eq_true rfl) ?_
  show tq_W l mL_has d (0 + bc) (0 + bs) Q 0 [(0, .ref a0), (1, .int a1), (2, .int a2), (3, .int a3)] [] h
  refine tq_more (bc := bc) (bs := bs) (by omega) (by omega) ?_
  refine tq_aload_n (M := mL_has) (pc := 0) dL_has_0 rfl ?_
  refine tq_iload_n (M := mL_has) (pc := 1) dL_has_1 rfl ?_
  refine tq_iload_n (M := mL_has) (pc := 2) dL_has_2 rfl ?_
  refine tq_iload_n (M := mL_has) (pc := 3) dL_has_3 rfl ?_
  obtain ⟨⟨⟩, eu2, hf⟩ := tq_be hf
  obtain ⟨fsu2, eu2⟩ := tq_is_s eu2
  obtain ⟨⟨E1 | v4, w3⟩, ev1, hf⟩ := tq_be hf
  · skip
    by_cases c0 : E1 = "java/lang/IndexOutOfBoundsException"
    · have hf := tq_ifp hf c0
      subst c0
      have hb9 := hb _ _ ev1
      refine tq_calV (M := mL_has) (pc := 4) (S := []) tk_y_X10_has tk_v_X10_has tk_RL_83 dL_has_4 [.int a1, .int a2, .int a3] rfl (S0 := _) rfl eu2 rfl (Nat.le_of_ble_eq_true rfl) (d1 := d - 1) (b1 := 0 + bc) (s1 := 0 + bs) (bc' := 0) (bs' := 0) (Q1 := fun r h9 => r = tq_enI ((.inl "java/lang/IndexOutOfBoundsException", w3) : (String ⊕ Int32) × tq_H).1 ∧ ((.inl "java/lang/IndexOutOfBoundsException", w3) : (String ⊕ Int32) × tq_H).2 = h9) (by omega) (by omega) (by omega) (w_X10_has (bc := bc) (bs := bs) (by omega) ev1 (fun _ _ _ => hb9) (fun _ _ q => q)) (fun E h9 q => ?_) (fun r9 h9 q => nomatch (show (Sum.inl r9 : tq_R) = Sum.inr _ from q.1))
      obtain ⟨q1, rfl⟩ := q
      cases (show (Sum.inr E : tq_R) = Sum.inr "java/lang/IndexOutOfBoundsException" from q1)
      refine tq_catch (M := mL_has) (pc := 4) (name := "java/lang/IndexOutOfBoundsException") [] ⟨0, 7, 8, 13⟩ [⟨0, 7, 13, 19⟩] rfl tk_pass_L_has_0 (by decide) (by decide) tk_RL_13 tk_cast_IndexOutOfBoundsException ?_
      refine tq_xstore (M := mL_has) (pc := 8) dL_has_8 (L2 := [(4, .float 0), (0, .ref a0), (1, .int a1), (2, .int a2), (3, .int a3)]) (by decide) rfl ?_
      refine tq_ldc (M := mL_has) (pc := 10) dL_has_10 tk_RL_15 ?_
      refine tq_iret (M := mL_has) (pc := 12) dL_has_12 rfl ?_
      cases (Option.some.inj hf)
      exact hQ _ _ ⟨rfl, rfl⟩
    have hf := tq_ifn hf c0
    by_cases c1 : E1 = "java/lang/IllegalStateException"
    · have hf := tq_ifp hf c1
      subst c1
      have hb9 := hb _ _ ev1
      refine tq_calV (M := mL_has) (pc := 4) (S := []) tk_y_X10_has tk_v_X10_has tk_RL_83 dL_has_4 [.int a1, .int a2, .int a3] rfl (S0 := _) rfl eu2 rfl (Nat.le_of_ble_eq_true rfl) (d1 := d - 1) (b1 := 0 + bc) (s1 := 0 + bs) (bc' := 0) (bs' := 0) (Q1 := fun r h9 => r = tq_enI ((.inl "java/lang/IllegalStateException", w3) : (String ⊕ Int32) × tq_H).1 ∧ ((.inl "java/lang/IllegalStateException", w3) : (String ⊕ Int32) × tq_H).2 = h9) (by omega) (by omega) (by omega) (w_X10_has (bc := bc) (bs := bs) (by omega) ev1 (fun _ _ _ => hb9) (fun _ _ q => q)) (fun E h9 q => ?_) (fun r9 h9 q => nomatch (show (Sum.inl r9 : tq_R) = Sum.inr _ from q.1))
      obtain ⟨q1, rfl⟩ := q
      cases (show (Sum.inr E : tq_R) = Sum.inr "java/lang/IllegalStateException" from q1)
      refine tq_catch (M := mL_has) (pc := 4) (name := "java/lang/IllegalStateException") [⟨0, 7, 8, 13⟩] ⟨0, 7, 13, 19⟩ [] rfl tk_pass_L_has_1 (by decide) (by decide) tk_RL_19 tk_cast_IllegalStateException ?_
      refine tq_xstore (M := mL_has) (pc := 13) dL_has_13 (L2 := [(4, .float 0), (0, .ref a0), (1, .int a1), (2, .int a2), (3, .int a3)]) (by decide) rfl ?_
      refine tq_ldc (M := mL_has) (pc := 15) dL_has_15 tk_RL_21 ?_
      refine tq_iret (M := mL_has) (pc := 17) dL_has_17 rfl ?_
      cases (Option.some.inj hf)
      exact hQ _ _ ⟨rfl, rfl⟩
    have hf := tq_ifn hf c1
    cases hf
  · refine tq_calV (M := mL_has) (pc := 4) (S := []) tk_y_X10_has tk_v_X10_has tk_RL_83 dL_has_4 [.int a1, .int a2, .int a3] rfl (S0 := _) rfl eu2 rfl (Nat.le_of_ble_eq_true rfl) (d1 := d - 1) (b1 := 0 + 0) (s1 := 0 + 0) (bc' := bc) (bs' := bs) (Q1 := fun r h9 => r = tq_enI ((.inr v4, w3) : (String ⊕ Int32) × tq_H).1 ∧ ((.inr v4, w3) : (String ⊕ Int32) × tq_H).2 = h9) (by omega) (by omega) (by omega) (w_X10_has (bc := 0) (bs := 0) (by omega) ev1 (fun E g z => by cases z) (fun _ _ q => q)) (fun E h9 q => nomatch (show (Sum.inr E : tq_R) = Sum.inl _ from q.1)) (fun r9 h9 q => ?_)
    obtain ⟨q1, rfl⟩ := q
    cases (show (Sum.inl r9 : tq_R) = Sum.inl (some (.int v4)) from q1)
    refine tq_iret (M := mL_has) (pc := 7) dL_has_7 rfl ?_
    cases (Option.some.inj hf)
    exact hQ _ _ ⟨rfl, rfl⟩
abbrev mL_worth : tq_M := (RL, cL_worth, 6, (some .int), false, [(0, 9, 10, 13), (0, 9, 15, 16), (0, 9, 20, 19)], none)
def f_L_worth (a0 : Nat) (a1 : Int32) (a2 : Int32) (a3 : Int32) (a4 : Int32) (h : tq_H) : Option (Int32 × tq_H) :=
  (tq_is h a0 10).bind fun _ =>
  (f_X10_worth a0 a1 a2 a3 a4 h).bind fun v1 => match v1 with
  | (.inl E1, w3) =>
    if E1 = "java/lang/IndexOutOfBoundsException" then
      some ((-2000000001 : Int32), w3)
    else
      if E1 = "java/lang/IllegalArgumentException" then
        some ((-2000000002 : Int32), w3)
      else
        if E1 = "java/lang/IllegalStateException" then
          some ((-2000000003 : Int32), w3)
        else
          none
  | (.inr v4, w3) =>
    some (v4, w3)
set_option maxHeartbeats 4000000 in
set_option maxRecDepth 20000 in
theorem w_L_worth {l : Launch} {d : Nat} (hd9 : 9 ≤ d) {a0 : Nat} {a1 : Int32} {a2 : Int32} {a3 : Int32} {a4 : Int32} {bc bs : Nat} {h : tq_H} {o : Int32 × tq_H} {Q : tq_R → tq_H → Prop} (hf : f_L_worth a0 a1 a2 a3 a4 h = some o) (hb : ∀ E g, f_X10_worth a0 a1 a2 a3 a4 h = some (.inl E, g) → 1 ≤ bc ∧ 6 ≤ bs) (hQ : ∀ r h9, r = .inl (some (.int o.1)) ∧ o.2 = h9 → Q r h9) : tq_CW l yL_worth cL_worth 6 (some .int) [(0, 9, 10, 13), (0, 9, 15, 16), (0, 9, 20, 19)] d (0 + bc) (0 + bs) [.ref a0, .int a1, .int a2, .int a3, .int a4] h Q := by
  refine tq_bodyW (y := yL_worth) (by decide +kernel) (Nat.le_of_ble_eq_true rfl) ?_
  show tq_W l mL_worth d (0 + bc) (0 + bs) Q 0 [(0, .ref a0), (1, .int a1), (2, .int a2), (3, .int a3), (4, .int a4)] [] h
  refine tq_more (bc := bc) (bs := bs) (by omega) (by omega) ?_
  refine tq_aload_n (M := mL_worth) (pc := 0) dL_worth_0 rfl ?_
  refine tq_iload_n (M := mL_worth) (pc := 1) dL_worth_1 rfl ?_
  refine tq_iload_n (M := mL_worth) (pc := 2) dL_worth_2 rfl ?_
  refine tq_iload_n (M := mL_worth) (pc := 3) dL_worth_3 rfl ?_
  refine tq_iload (M := mL_worth) (pc := 4) dL_worth_4 rfl ?_
  obtain ⟨⟨⟩, eu2, hf⟩ := tq_be hf
  obtain ⟨fsu2, eu2⟩ := tq_is_s eu2
  obtain ⟨⟨E1 | v4, w3⟩, ev1, hf⟩ := tq_be hf
  · skip
    by_cases c0 : E1 = "java/lang/IndexOutOfBoundsException"
    · have hf := tq_ifp hf c0
      subst c0
      have hb9 := hb _ _ ev1
      refine tq_calV (M := mL_worth) (pc := 6) (S := []) tk_y_X10_worth tk_v_X10_worth tk_RL_87 dL_worth_6 [.int a1, .int a2, .int a3, .int a4] rfl (S0 := _) rfl eu2 rfl (Nat.le_of_ble_eq_true rfl) (d1 := d - 1) (b1 := 0 + bc) (s1 := 0 + bs) (bc' := 0) (bs' := 0) (Q1 := fun r h9 => r = tq_enI ((.inl "java/lang/IndexOutOfBoundsException", w3) : (String ⊕ Int32) × tq_H).1 ∧ ((.inl "java/lang/IndexOutOfBoundsException", w3) : (String ⊕ Int32) × tq_H).2 = h9) (by omega) (by omega) (by omega) (w_X10_worth (bc := bc) (bs := bs) (by omega) ev1 (fun _ _ _ => hb9) (fun _ _ q => q)) (fun E h9 q => ?_) (fun r9 h9 q => nomatch (show (Sum.inl r9 : tq_R) = Sum.inr _ from q.1))
      obtain ⟨q1, rfl⟩ := q
      cases (show (Sum.inr E : tq_R) = Sum.inr "java/lang/IndexOutOfBoundsException" from q1)
      refine tq_catch (M := mL_worth) (pc := 6) (name := "java/lang/IndexOutOfBoundsException") [] ⟨0, 9, 10, 13⟩ [⟨0, 9, 15, 16⟩, ⟨0, 9, 20, 19⟩] rfl tk_pass_L_worth_0 (by decide) (by decide) tk_RL_13 tk_cast_IndexOutOfBoundsException ?_
      refine tq_xstore (M := mL_worth) (pc := 10) dL_worth_10 (L2 := [(5, .float 0), (0, .ref a0), (1, .int a1), (2, .int a2), (3, .int a3), (4, .int a4)]) (by decide) rfl ?_
      refine tq_ldc (M := mL_worth) (pc := 12) dL_worth_12 tk_RL_15 ?_
      refine tq_iret (M := mL_worth) (pc := 14) dL_worth_14 rfl ?_
      cases (Option.some.inj hf)
      exact hQ _ _ ⟨rfl, rfl⟩
    have hf := tq_ifn hf c0
    by_cases c1 : E1 = "java/lang/IllegalArgumentException"
    · have hf := tq_ifp hf c1
      subst c1
      have hb9 := hb _ _ ev1
      refine tq_calV (M := mL_worth) (pc := 6) (S := []) tk_y_X10_worth tk_v_X10_worth tk_RL_87 dL_worth_6 [.int a1, .int a2, .int a3, .int a4] rfl (S0 := _) rfl eu2 rfl (Nat.le_of_ble_eq_true rfl) (d1 := d - 1) (b1 := 0 + bc) (s1 := 0 + bs) (bc' := 0) (bs' := 0) (Q1 := fun r h9 => r = tq_enI ((.inl "java/lang/IllegalArgumentException", w3) : (String ⊕ Int32) × tq_H).1 ∧ ((.inl "java/lang/IllegalArgumentException", w3) : (String ⊕ Int32) × tq_H).2 = h9) (by omega) (by omega) (by omega) (w_X10_worth (bc := bc) (bs := bs) (by omega) ev1 (fun _ _ _ => hb9) (fun _ _ q => q)) (fun E h9 q => ?_) (fun r9 h9 q => nomatch (show (Sum.inl r9 : tq_R) = Sum.inr _ from q.1))
      obtain ⟨q1, rfl⟩ := q
      cases (show (Sum.inr E : tq_R) = Sum.inr "java/lang/IllegalArgumentException" from q1)
      refine tq_catch (M := mL_worth) (pc := 6) (name := "java/lang/IllegalArgumentException") [⟨0, 9, 10, 13⟩] ⟨0, 9, 15, 16⟩ [⟨0, 9, 20, 19⟩] rfl tk_pass_L_worth_1 (by decide) (by decide) tk_RL_16 tk_cast_IllegalArgumentException ?_
      refine tq_xstore (M := mL_worth) (pc := 15) dL_worth_15 (L2 := [(5, .float 0), (0, .ref a0), (1, .int a1), (2, .int a2), (3, .int a3), (4, .int a4)]) (by decide) rfl ?_
      refine tq_ldc (M := mL_worth) (pc := 17) dL_worth_17 tk_RL_18 ?_
      refine tq_iret (M := mL_worth) (pc := 19) dL_worth_19 rfl ?_
      cases (Option.some.inj hf)
      exact hQ _ _ ⟨rfl, rfl⟩
    have hf := tq_ifn hf c1
    by_cases c2 : E1 = "java/lang/IllegalStateException"
    · have hf := tq_ifp hf c2
      subst c2
      have hb9 := hb _ _ ev1
      refine tq_calV (M := mL_worth) (pc := 6) (S := []) tk_y_X10_worth tk_v_X10_worth tk_RL_87 dL_worth_6 [.int a1, .int a2, .int a3, .int a4] rfl (S0 := _) rfl eu2 rfl (Nat.le_of_ble_eq_true rfl) (d1 := d - 1) (b1 := 0 + bc) (s1 := 0 + bs) (bc' := 0) (bs' := 0) (Q1 := fun r h9 => r = tq_enI ((.inl "java/lang/IllegalStateException", w3) : (String ⊕ Int32) × tq_H).1 ∧ ((.inl "java/lang/IllegalStateException", w3) : (String ⊕ Int32) × tq_H).2 = h9) (by omega) (by omega) (by omega) (w_X10_worth (bc := bc) (bs := bs) (by omega) ev1 (fun _ _ _ => hb9) (fun _ _ q => q)) (fun E h9 q => ?_) (fun r9 h9 q => nomatch (show (Sum.inl r9 : tq_R) = Sum.inr _ from q.1))
      obtain ⟨q1, rfl⟩ := q
      cases (show (Sum.inr E : tq_R) = Sum.inr "java/lang/IllegalStateException" from q1)
      refine tq_catch (M := mL_worth) (pc := 6) (name := "java/lang/IllegalStateException") [⟨0, 9, 10, 13⟩, ⟨0, 9, 15, 16⟩] ⟨0, 9, 20, 19⟩ [] rfl tk_pass_L_worth_2 (by decide) (by decide) tk_RL_19 tk_cast_IllegalStateException ?_
      refine tq_xstore (M := mL_worth) (pc := 20) dL_worth_20 (L2 := [(5, .float 0), (0, .ref a0), (1, .int a1), (2, .int a2), (3, .int a3), (4, .int a4)]) (by decide) rfl ?_
      refine tq_ldc (M := mL_worth) (pc := 22) dL_worth_22 tk_RL_21 ?_
      refine tq_iret (M := mL_worth) (pc := 24) dL_worth_24 rfl ?_
      cases (Option.some.inj hf)
      exact hQ _ _ ⟨rfl, rfl⟩
    have hf := tq_ifn hf c2
    cases hf
  · refine tq_calV (M := mL_worth) (pc := 6) (S := []) tk_y_X10_worth tk_v_X10_worth tk_RL_87 dL_worth_6 [.int a1, .int a2, .int a3, .int a4] rfl (S0 := _) rfl eu2 rfl (Nat.le_of_ble_eq_true rfl) (d1 := d - 1) (b1 := 0 + 0) (s1 := 0 + 0) (bc' := bc) (bs' := bs) (Q1 := fun r h9 => r = tq_enI ((.inr v4, w3) : (String ⊕ Int32) × tq_H).1 ∧ ((.inr v4, w3) : (String ⊕ Int32) × tq_H).2 = h9) (by omega) (by omega) (by omega) (w_X10_worth (bc := 0) (bs := 0) (by omega) ev1 (fun E g z => by cases z) (fun _ _ q => q)) (fun E h9 q => nomatch (show (Sum.inr E : tq_R) = Sum.inl _ from q.1)) (fun r9 h9 q => ?_)
    obtain ⟨q1, rfl⟩ := q
    cases (show (Sum.inl r9 : tq_R) = Sum.inl (some (.int v4)) from q1)
    refine tq_iret (M := mL_worth) (pc := 9) dL_worth_9 rfl ?_
    cases (Option.some.inj hf)
    exact hQ _ _ ⟨rfl, rfl⟩
abbrev mL_found : tq_M := (RL, cL_found, 4, (some .int), false, [(0, 6, 7, 13)], none)
def f_L_found (a0 : Nat) (a1 : Int32) (a2 : Int32) (h : tq_H) : Option (Int32 × tq_H) :=
  (tq_is h a0 10).bind fun _ =>
  (f_X10_found a0 a1 a2 h).bind fun v1 => match v1 with
  | (.inl E1, w3) =>
    if E1 = "java/lang/IndexOutOfBoundsException" then
      some ((-2000000001 : Int32), w3)
    else
      none
  | (.inr v4, w3) =>
    some (v4, w3)
set_option maxHeartbeats 4000000 in
set_option maxRecDepth 20000 in
theorem w_L_found {l : Launch} {d : Nat} (hd9 : 9 ≤ d) {a0 : Nat} {a1 : Int32} {a2 : Int32} {bc bs : Nat} {h : tq_H} {o : Int32 × tq_H} {Q : tq_R → tq_H → Prop} (hf : f_L_found a0 a1 a2 h = some o) (hb : ∀ E g, f_X10_found a0 a1 a2 h = some (.inl E, g) → 1 ≤ bc ∧ 6 ≤ bs) (hQ : ∀ r h9, r = .inl (some (.int o.1)) ∧ o.2 = h9 → Q r h9) : tq_CW l yL_found cL_found 4 (some .int) [(0, 6, 7, 13)] d (0 + bc) (0 + bs) [.ref a0, .int a1, .int a2] h Q := by
  refine tq_bodyW (y := yL_found) (by decide +kernel) (Nat.le_of_ble_eq_true rfl) ?_
  show tq_W l mL_found d (0 + bc) (0 + bs) Q 0 [(0, .ref a0), (1, .int a1), (2, .int a2)] [] h
  refine tq_more (bc := bc) (bs := bs) (by omega) (by omega) ?_
  refine tq_aload_n (M := mL_found) (pc := 0) dL_found_0 rfl ?_
  refine tq_iload_n (M := mL_found) (pc := 1) dL_found_1 rfl ?_
  refine tq_iload_n (M := mL_found) (pc := 2) dL_found_2 rfl ?_
  obtain ⟨⟨⟩, eu2, hf⟩ := tq_be hf
  obtain ⟨fsu2, eu2⟩ := tq_is_s eu2
  obtain ⟨⟨E1 | v4, w3⟩, ev1, hf⟩ := tq_be hf
  · skip
    by_cases c0 : E1 = "java/lang/IndexOutOfBoundsException"
    · have hf := tq_ifp hf c0
      subst c0
      have hb9 := hb _ _ ev1
      refine tq_calV (M := mL_found) (pc := 3) (S := []) tk_y_X10_found tk_v_X10_found tk_RL_90 dL_found_3 [.int a1, .int a2] rfl (S0 := _) rfl eu2 rfl (Nat.le_of_ble_eq_true rfl) (d1 := d - 1) (b1 := 0 + bc) (s1 := 0 + bs) (bc' := 0) (bs' := 0) (Q1 := fun r h9 => r = tq_enI ((.inl "java/lang/IndexOutOfBoundsException", w3) : (String ⊕ Int32) × tq_H).1 ∧ ((.inl "java/lang/IndexOutOfBoundsException", w3) : (String ⊕ Int32) × tq_H).2 = h9) (by omega) (by omega) (by omega) (w_X10_found (bc := bc) (bs := bs) (by omega) ev1 (fun _ _ _ => hb9) (fun _ _ q => q)) (fun E h9 q => ?_) (fun r9 h9 q => nomatch (show (Sum.inl r9 : tq_R) = Sum.inr _ from q.1))
      obtain ⟨q1, rfl⟩ := q
      cases (show (Sum.inr E : tq_R) = Sum.inr "java/lang/IndexOutOfBoundsException" from q1)
      refine tq_catch (M := mL_found) (pc := 3) (name := "java/lang/IndexOutOfBoundsException") [] ⟨0, 6, 7, 13⟩ [] rfl tk_pass_L_found_0 (by decide) (by decide) tk_RL_13 tk_cast_IndexOutOfBoundsException ?_
      refine tq_xstore_n (M := mL_found) (pc := 7) rfl dL_found_7 (L2 := [(3, .float 0), (0, .ref a0), (1, .int a1), (2, .int a2)]) (by decide) rfl ?_
      refine tq_ldc (M := mL_found) (pc := 8) dL_found_8 tk_RL_15 ?_
      refine tq_iret (M := mL_found) (pc := 10) dL_found_10 rfl ?_
      cases (Option.some.inj hf)
      exact hQ _ _ ⟨rfl, rfl⟩
    have hf := tq_ifn hf c0
    cases hf
  · refine tq_calV (M := mL_found) (pc := 3) (S := []) tk_y_X10_found tk_v_X10_found tk_RL_90 dL_found_3 [.int a1, .int a2] rfl (S0 := _) rfl eu2 rfl (Nat.le_of_ble_eq_true rfl) (d1 := d - 1) (b1 := 0 + 0) (s1 := 0 + 0) (bc' := bc) (bs' := bs) (Q1 := fun r h9 => r = tq_enI ((.inr v4, w3) : (String ⊕ Int32) × tq_H).1 ∧ ((.inr v4, w3) : (String ⊕ Int32) × tq_H).2 = h9) (by omega) (by omega) (by omega) (w_X10_found (bc := 0) (bs := 0) (by omega) ev1 (fun E g z => by cases z) (fun _ _ q => q)) (fun E h9 q => nomatch (show (Sum.inr E : tq_R) = Sum.inl _ from q.1)) (fun r9 h9 q => ?_)
    obtain ⟨q1, rfl⟩ := q
    cases (show (Sum.inl r9 : tq_R) = Sum.inl (some (.int v4)) from q1)
    refine tq_iret (M := mL_found) (pc := 6) dL_found_6 rfl ?_
    cases (Option.some.inj hf)
    exact hQ _ _ ⟨rfl, rfl⟩
def f_N_found (a0 : Nat) (a1 : Int32) (a2 : Int32) (h : tq_H) : Option (Int32 × tq_H) :=
  (tq_is h a0 10).bind fun _ =>
  (f_X10_found a0 a1 a2 h).bind fun v1 => match v1 with
  | (.inl _, _) =>
    none
  | (.inr v4, w3) =>
    some (v4, w3)
theorem n_L_found {a0 : Nat} {a1 : Int32} {a2 : Int32} {h : tq_H} {o : Int32 × tq_H} (e : f_N_found a0 a1 a2 h = some o) : f_L_found a0 a1 a2 h = some o ∧ ∀ E g, f_X10_found a0 a1 a2 h = some (.inl E, g) → 1 ≤ 0 ∧ 6 ≤ 0 := by
  obtain ⟨u, e1, e2⟩ := tq_be e
  obtain ⟨v, e3, e4⟩ := tq_be e2
  obtain ⟨v1, v2⟩ := v
  cases v1 with
  | inl E => cases e4
  | inr v =>
    refine ⟨?_, fun E g z => by rw [e3] at z; cases z⟩
    unfold f_L_found
    rw [e1, Option.bind_some, e3, Option.bind_some]
    exact e4
abbrev mL_foundAnew : tq_M := (RL, cL_foundAnew, 4, (some .int), false, [(0, 6, 7, 13)], none)
def f_L_foundAnew (a0 : Nat) (a1 : Int32) (a2 : Int32) (h : tq_H) : Option (Int32 × tq_H) :=
  (tq_is h a0 10).bind fun _ =>
  (f_X10_foundAnew a0 a1 a2 h).bind fun v1 => match v1 with
  | (.inl E1, w3) =>
    if E1 = "java/lang/IndexOutOfBoundsException" then
      some ((-2000000001 : Int32), w3)
    else
      none
  | (.inr v4, w3) =>
    some (v4, w3)
set_option maxHeartbeats 4000000 in
set_option maxRecDepth 20000 in
theorem w_L_foundAnew {l : Launch} {d : Nat} (hd9 : 9 ≤ d) {a0 : Nat} {a1 : Int32} {a2 : Int32} {bc bs : Nat} {h : tq_H} {o : Int32 × tq_H} {Q : tq_R → tq_H → Prop} (hf : f_L_foundAnew a0 a1 a2 h = some o) (hb : ∀ E g, f_X10_foundAnew a0 a1 a2 h = some (.inl E, g) → 1 ≤ bc ∧ 6 ≤ bs) (hQ : ∀ r h9, r = .inl (some (.int o.1)) ∧ o.2 = h9 → Q r h9) : tq_CW l yL_foundAnew cL_foundAnew 4 (some .int) [(0, 6, 7, 13)] d (0 + bc) (0 + bs) [.ref a0, .int a1, .int a2] h Q := by
  refine tq_bodyW (y := yL_foundAnew) (by decide +kernel) (Nat.le_of_ble_eq_true rfl) ?_
  show tq_W l mL_foundAnew d (0 + bc) (0 + bs) Q 0 [(0, .ref a0), (1, .int a1), (2, .int a2)] [] h
  refine tq_more (bc := bc) (bs := bs) (by omega) (by omega) ?_
  refine tq_aload_n (M := mL_foundAnew) (pc := 0) dL_foundAnew_0 rfl ?_
  refine tq_iload_n (M := mL_foundAnew) (pc := 1) dL_foundAnew_1 rfl ?_
  refine tq_iload_n (M := mL_foundAnew) (pc := 2) dL_foundAnew_2 rfl ?_
  obtain ⟨⟨⟩, eu2, hf⟩ := tq_be hf
  obtain ⟨fsu2, eu2⟩ := tq_is_s eu2
  obtain ⟨⟨E1 | v4, w3⟩, ev1, hf⟩ := tq_be hf
  · skip
    by_cases c0 : E1 = "java/lang/IndexOutOfBoundsException"
    · have hf := tq_ifp hf c0
      subst c0
      have hb9 := hb _ _ ev1
      refine tq_calV (M := mL_foundAnew) (pc := 3) (S := []) tk_y_X10_foundAnew tk_v_X10_foundAnew tk_RL_93 dL_foundAnew_3 [.int a1, .int a2] rfl (S0 := _) rfl eu2 rfl (Nat.le_of_ble_eq_true rfl) (d1 := d - 1) (b1 := 0 + bc) (s1 := 0 + bs) (bc' := 0) (bs' := 0) (Q1 := fun r h9 => r = tq_enI ((.inl "java/lang/IndexOutOfBoundsException", w3) : (String ⊕ Int32) × tq_H).1 ∧ ((.inl "java/lang/IndexOutOfBoundsException", w3) : (String ⊕ Int32) × tq_H).2 = h9) (by omega) (by omega) (by omega) (w_X10_foundAnew (bc := bc) (bs := bs) (by omega) ev1 (fun _ _ _ => hb9) (fun _ _ q => q)) (fun E h9 q => ?_) (fun r9 h9 q => nomatch (show (Sum.inl r9 : tq_R) = Sum.inr _ from q.1))
      obtain ⟨q1, rfl⟩ := q
      cases (show (Sum.inr E : tq_R) = Sum.inr "java/lang/IndexOutOfBoundsException" from q1)
      refine tq_catch (M := mL_foundAnew) (pc := 3) (name := "java/lang/IndexOutOfBoundsException") [] ⟨0, 6, 7, 13⟩ [] rfl tk_pass_L_foundAnew_0 (by decide) (by decide) tk_RL_13 tk_cast_IndexOutOfBoundsException ?_
      refine tq_xstore_n (M := mL_foundAnew) (pc := 7) rfl dL_foundAnew_7 (L2 := [(3, .float 0), (0, .ref a0), (1, .int a1), (2, .int a2)]) (by decide) rfl ?_
      refine tq_ldc (M := mL_foundAnew) (pc := 8) dL_foundAnew_8 tk_RL_15 ?_
      refine tq_iret (M := mL_foundAnew) (pc := 10) dL_foundAnew_10 rfl ?_
      cases (Option.some.inj hf)
      exact hQ _ _ ⟨rfl, rfl⟩
    have hf := tq_ifn hf c0
    cases hf
  · refine tq_calV (M := mL_foundAnew) (pc := 3) (S := []) tk_y_X10_foundAnew tk_v_X10_foundAnew tk_RL_93 dL_foundAnew_3 [.int a1, .int a2] rfl (S0 := _) rfl eu2 rfl (Nat.le_of_ble_eq_true rfl) (d1 := d - 1) (b1 := 0 + 0) (s1 := 0 + 0) (bc' := bc) (bs' := bs) (Q1 := fun r h9 => r = tq_enI ((.inr v4, w3) : (String ⊕ Int32) × tq_H).1 ∧ ((.inr v4, w3) : (String ⊕ Int32) × tq_H).2 = h9) (by omega) (by omega) (by omega) (w_X10_foundAnew (bc := 0) (bs := 0) (by omega) ev1 (fun E g z => by cases z) (fun _ _ q => q)) (fun E h9 q => nomatch (show (Sum.inr E : tq_R) = Sum.inl _ from q.1)) (fun r9 h9 q => ?_)
    obtain ⟨q1, rfl⟩ := q
    cases (show (Sum.inl r9 : tq_R) = Sum.inl (some (.int v4)) from q1)
    refine tq_iret (M := mL_foundAnew) (pc := 6) dL_foundAnew_6 rfl ?_
    cases (Option.some.inj hf)
    exact hQ _ _ ⟨rfl, rfl⟩
def f_N_foundAnew (a0 : Nat) (a1 : Int32) (a2 : Int32) (h : tq_H) : Option (Int32 × tq_H) :=
  (tq_is h a0 10).bind fun _ =>
  (f_X10_foundAnew a0 a1 a2 h).bind fun v1 => match v1 with
  | (.inl _, _) =>
    none
  | (.inr v4, w3) =>
    some (v4, w3)
theorem n_L_foundAnew {a0 : Nat} {a1 : Int32} {a2 : Int32} {h : tq_H} {o : Int32 × tq_H} (e : f_N_foundAnew a0 a1 a2 h = some o) : f_L_foundAnew a0 a1 a2 h = some o ∧ ∀ E g, f_X10_foundAnew a0 a1 a2 h = some (.inl E, g) → 1 ≤ 0 ∧ 6 ≤ 0 := by
  obtain ⟨u, e1, e2⟩ := tq_be e
  obtain ⟨v, e3, e4⟩ := tq_be e2
  obtain ⟨v1, v2⟩ := v
  cases v1 with
  | inl E => cases e4
  | inr v =>
    refine ⟨?_, fun E g z => by rw [e3] at z; cases z⟩
    unfold f_L_foundAnew
    rw [e1, Option.bind_some, e3, Option.bind_some]
    exact e4
abbrev mL_foundAt : tq_M := (RL, cL_foundAt, 4, (some .int), false, [(0, 6, 7, 13)], none)
def f_L_foundAt (a0 : Nat) (a1 : Int32) (a2 : Int32) (h : tq_H) : Option (Int32 × tq_H) :=
  (tq_is h a0 10).bind fun _ =>
  (f_X10_foundAt a0 a1 a2 h).bind fun v1 => match v1 with
  | (.inl E1, w3) =>
    if E1 = "java/lang/IndexOutOfBoundsException" then
      some ((-2000000001 : Int32), w3)
    else
      none
  | (.inr v4, w3) =>
    some (v4, w3)
set_option maxHeartbeats 4000000 in
set_option maxRecDepth 20000 in
theorem w_L_foundAt {l : Launch} {d : Nat} (hd9 : 8 ≤ d) {a0 : Nat} {a1 : Int32} {a2 : Int32} {bc bs : Nat} {h : tq_H} {o : Int32 × tq_H} {Q : tq_R → tq_H → Prop} (hf : f_L_foundAt a0 a1 a2 h = some o) (hb : ∀ E g, f_X10_foundAt a0 a1 a2 h = some (.inl E, g) → 1 ≤ bc ∧ 6 ≤ bs) (hQ : ∀ r h9, r = .inl (some (.int o.1)) ∧ o.2 = h9 → Q r h9) : tq_CW l yL_foundAt cL_foundAt 4 (some .int) [(0, 6, 7, 13)] d (0 + bc) (0 + bs) [.ref a0, .int a1, .int a2] h Q := by
  refine tq_bodyW (y := yL_foundAt) (by decide +kernel) (Nat.le_of_ble_eq_true rfl) ?_
  show tq_W l mL_foundAt d (0 + bc) (0 + bs) Q 0 [(0, .ref a0), (1, .int a1), (2, .int a2)] [] h
  refine tq_more (bc := bc) (bs := bs) (by omega) (by omega) ?_
  refine tq_aload_n (M := mL_foundAt) (pc := 0) dL_foundAt_0 rfl ?_
  refine tq_iload_n (M := mL_foundAt) (pc := 1) dL_foundAt_1 rfl ?_
  refine tq_iload_n (M := mL_foundAt) (pc := 2) dL_foundAt_2 rfl ?_
  obtain ⟨⟨⟩, eu2, hf⟩ := tq_be hf
  obtain ⟨fsu2, eu2⟩ := tq_is_s eu2
  obtain ⟨⟨E1 | v4, w3⟩, ev1, hf⟩ := tq_be hf
  · skip
    by_cases c0 : E1 = "java/lang/IndexOutOfBoundsException"
    · have hf := tq_ifp hf c0
      subst c0
      have hb9 := hb _ _ ev1
      refine tq_calV (M := mL_foundAt) (pc := 3) (S := []) tk_y_X10_foundAt tk_v_X10_foundAt tk_RL_96 dL_foundAt_3 [.int a1, .int a2] rfl (S0 := _) rfl eu2 rfl (Nat.le_of_ble_eq_true rfl) (d1 := d - 1) (b1 := 0 + bc) (s1 := 0 + bs) (bc' := 0) (bs' := 0) (Q1 := fun r h9 => r = tq_enI ((.inl "java/lang/IndexOutOfBoundsException", w3) : (String ⊕ Int32) × tq_H).1 ∧ ((.inl "java/lang/IndexOutOfBoundsException", w3) : (String ⊕ Int32) × tq_H).2 = h9) (by omega) (by omega) (by omega) (w_X10_foundAt (bc := bc) (bs := bs) (by omega) ev1 (fun _ _ _ => hb9) (fun _ _ q => q)) (fun E h9 q => ?_) (fun r9 h9 q => nomatch (show (Sum.inl r9 : tq_R) = Sum.inr _ from q.1))
      obtain ⟨q1, rfl⟩ := q
      cases (show (Sum.inr E : tq_R) = Sum.inr "java/lang/IndexOutOfBoundsException" from q1)
      refine tq_catch (M := mL_foundAt) (pc := 3) (name := "java/lang/IndexOutOfBoundsException") [] ⟨0, 6, 7, 13⟩ [] rfl tk_pass_L_foundAt_0 (by decide) (by decide) tk_RL_13 tk_cast_IndexOutOfBoundsException ?_
      refine tq_xstore_n (M := mL_foundAt) (pc := 7) rfl dL_foundAt_7 (L2 := [(3, .float 0), (0, .ref a0), (1, .int a1), (2, .int a2)]) (by decide) rfl ?_
      refine tq_ldc (M := mL_foundAt) (pc := 8) dL_foundAt_8 tk_RL_15 ?_
      refine tq_iret (M := mL_foundAt) (pc := 10) dL_foundAt_10 rfl ?_
      cases (Option.some.inj hf)
      exact hQ _ _ ⟨rfl, rfl⟩
    have hf := tq_ifn hf c0
    cases hf
  · refine tq_calV (M := mL_foundAt) (pc := 3) (S := []) tk_y_X10_foundAt tk_v_X10_foundAt tk_RL_96 dL_foundAt_3 [.int a1, .int a2] rfl (S0 := _) rfl eu2 rfl (Nat.le_of_ble_eq_true rfl) (d1 := d - 1) (b1 := 0 + 0) (s1 := 0 + 0) (bc' := bc) (bs' := bs) (Q1 := fun r h9 => r = tq_enI ((.inr v4, w3) : (String ⊕ Int32) × tq_H).1 ∧ ((.inr v4, w3) : (String ⊕ Int32) × tq_H).2 = h9) (by omega) (by omega) (by omega) (w_X10_foundAt (bc := 0) (bs := 0) (by omega) ev1 (fun E g z => by cases z) (fun _ _ q => q)) (fun E h9 q => nomatch (show (Sum.inr E : tq_R) = Sum.inl _ from q.1)) (fun r9 h9 q => ?_)
    obtain ⟨q1, rfl⟩ := q
    cases (show (Sum.inl r9 : tq_R) = Sum.inl (some (.int v4)) from q1)
    refine tq_iret (M := mL_foundAt) (pc := 6) dL_foundAt_6 rfl ?_
    cases (Option.some.inj hf)
    exact hQ _ _ ⟨rfl, rfl⟩
def f_N_foundAt (a0 : Nat) (a1 : Int32) (a2 : Int32) (h : tq_H) : Option (Int32 × tq_H) :=
  (tq_is h a0 10).bind fun _ =>
  (f_X10_foundAt a0 a1 a2 h).bind fun v1 => match v1 with
  | (.inl _, _) =>
    none
  | (.inr v4, w3) =>
    some (v4, w3)
theorem n_L_foundAt {a0 : Nat} {a1 : Int32} {a2 : Int32} {h : tq_H} {o : Int32 × tq_H} (e : f_N_foundAt a0 a1 a2 h = some o) : f_L_foundAt a0 a1 a2 h = some o ∧ ∀ E g, f_X10_foundAt a0 a1 a2 h = some (.inl E, g) → 1 ≤ 0 ∧ 6 ≤ 0 := by
  obtain ⟨u, e1, e2⟩ := tq_be e
  obtain ⟨v, e3, e4⟩ := tq_be e2
  obtain ⟨v1, v2⟩ := v
  cases v1 with
  | inl E => cases e4
  | inr v =>
    refine ⟨?_, fun E g z => by rw [e3] at z; cases z⟩
    unfold f_L_foundAt
    rw [e1, Option.bind_some, e3, Option.bind_some]
    exact e4
abbrev mL_ordered : tq_M := (RL, cL_ordered, 4, (some .int), false, [(0, 6, 7, 13)], none)
def f_L_ordered (a0 : Nat) (a1 : Int32) (a2 : Int32) (h : tq_H) : Option (Int32 × tq_H) :=
  (tq_is h a0 10).bind fun _ =>
  (f_X10_ordered a0 a1 a2 h).bind fun v1 => match v1 with
  | (.inl E1, w3) =>
    if E1 = "java/lang/IndexOutOfBoundsException" then
      some ((-2000000001 : Int32), w3)
    else
      none
  | (.inr v4, w3) =>
    some (v4, w3)
set_option maxHeartbeats 4000000 in
set_option maxRecDepth 20000 in
theorem w_L_ordered {l : Launch} {d : Nat} (hd9 : 8 ≤ d) {a0 : Nat} {a1 : Int32} {a2 : Int32} {bc bs : Nat} {h : tq_H} {o : Int32 × tq_H} {Q : tq_R → tq_H → Prop} (hf : f_L_ordered a0 a1 a2 h = some o) (hb : ∀ E g, f_X10_ordered a0 a1 a2 h = some (.inl E, g) → 1 ≤ bc ∧ 6 ≤ bs) (hQ : ∀ r h9, r = .inl (some (.int o.1)) ∧ o.2 = h9 → Q r h9) : tq_CW l yL_ordered cL_ordered 4 (some .int) [(0, 6, 7, 13)] d (0 + bc) (0 + bs) [.ref a0, .int a1, .int a2] h Q := by
  refine tq_bodyW (y := yL_ordered) (by decide +kernel) (Nat.le_of_ble_eq_true rfl) ?_
  show tq_W l mL_ordered d (0 + bc) (0 + bs) Q 0 [(0, .ref a0), (1, .int a1), (2, .int a2)] [] h
  refine tq_more (bc := bc) (bs := bs) (by omega) (by omega) ?_
  refine tq_aload_n (M := mL_ordered) (pc := 0) dL_ordered_0 rfl ?_
  refine tq_iload_n (M := mL_ordered) (pc := 1) dL_ordered_1 rfl ?_
  refine tq_iload_n (M := mL_ordered) (pc := 2) dL_ordered_2 rfl ?_
  obtain ⟨⟨⟩, eu2, hf⟩ := tq_be hf
  obtain ⟨fsu2, eu2⟩ := tq_is_s eu2
  obtain ⟨⟨E1 | v4, w3⟩, ev1, hf⟩ := tq_be hf
  · skip
    by_cases c0 : E1 = "java/lang/IndexOutOfBoundsException"
    · have hf := tq_ifp hf c0
      subst c0
      have hb9 := hb _ _ ev1
      refine tq_calV (M := mL_ordered) (pc := 3) (S := []) tk_y_X10_ordered tk_v_X10_ordered tk_RL_99 dL_ordered_3 [.int a1, .int a2] rfl (S0 := _) rfl eu2 rfl (Nat.le_of_ble_eq_true rfl) (d1 := d - 1) (b1 := 0 + bc) (s1 := 0 + bs) (bc' := 0) (bs' := 0) (Q1 := fun r h9 => r = tq_enI ((.inl "java/lang/IndexOutOfBoundsException", w3) : (String ⊕ Int32) × tq_H).1 ∧ ((.inl "java/lang/IndexOutOfBoundsException", w3) : (String ⊕ Int32) × tq_H).2 = h9) (by omega) (by omega) (by omega) (w_X10_ordered (bc := bc) (bs := bs) (by omega) ev1 (fun _ _ _ => hb9) (fun _ _ q => q)) (fun E h9 q => ?_) (fun r9 h9 q => nomatch (show (Sum.inl r9 : tq_R) = Sum.inr _ from q.1))
      obtain ⟨q1, rfl⟩ := q
      cases (show (Sum.inr E : tq_R) = Sum.inr "java/lang/IndexOutOfBoundsException" from q1)
      refine tq_catch (M := mL_ordered) (pc := 3) (name := "java/lang/IndexOutOfBoundsException") [] ⟨0, 6, 7, 13⟩ [] rfl tk_pass_L_ordered_0 (by decide) (by decide) tk_RL_13 tk_cast_IndexOutOfBoundsException ?_
      refine tq_xstore_n (M := mL_ordered) (pc := 7) rfl dL_ordered_7 (L2 := [(3, .float 0), (0, .ref a0), (1, .int a1), (2, .int a2)]) (by decide) rfl ?_
      refine tq_ldc (M := mL_ordered) (pc := 8) dL_ordered_8 tk_RL_15 ?_
      refine tq_iret (M := mL_ordered) (pc := 10) dL_ordered_10 rfl ?_
      cases (Option.some.inj hf)
      exact hQ _ _ ⟨rfl, rfl⟩
    have hf := tq_ifn hf c0
    cases hf
  · refine tq_calV (M := mL_ordered) (pc := 3) (S := []) tk_y_X10_ordered tk_v_X10_ordered tk_RL_99 dL_ordered_3 [.int a1, .int a2] rfl (S0 := _) rfl eu2 rfl (Nat.le_of_ble_eq_true rfl) (d1 := d - 1) (b1 := 0 + 0) (s1 := 0 + 0) (bc' := bc) (bs' := bs) (Q1 := fun r h9 => r = tq_enI ((.inr v4, w3) : (String ⊕ Int32) × tq_H).1 ∧ ((.inr v4, w3) : (String ⊕ Int32) × tq_H).2 = h9) (by omega) (by omega) (by omega) (w_X10_ordered (bc := 0) (bs := 0) (by omega) ev1 (fun E g z => by cases z) (fun _ _ q => q)) (fun E h9 q => nomatch (show (Sum.inr E : tq_R) = Sum.inl _ from q.1)) (fun r9 h9 q => ?_)
    obtain ⟨q1, rfl⟩ := q
    cases (show (Sum.inl r9 : tq_R) = Sum.inl (some (.int v4)) from q1)
    refine tq_iret (M := mL_ordered) (pc := 6) dL_ordered_6 rfl ?_
    cases (Option.some.inj hf)
    exact hQ _ _ ⟨rfl, rfl⟩
abbrev mL_groups : tq_M := (RL, cL_groups, 3, (some .int), false, [(0, 5, 6, 13)], none)
def f_L_groups (a0 : Nat) (a1 : Int32) (h : tq_H) : Option (Int32 × tq_H) :=
  (tq_is h a0 10).bind fun _ =>
  (f_X10_groups a0 a1 h).bind fun v1 => match v1 with
  | (.inl E1, w3) =>
    if E1 = "java/lang/IndexOutOfBoundsException" then
      some ((-2000000001 : Int32), w3)
    else
      none
  | (.inr v4, w3) =>
    some (v4, w3)
set_option maxHeartbeats 4000000 in
set_option maxRecDepth 20000 in
theorem w_L_groups {l : Launch} {d : Nat} (hd9 : 8 ≤ d) {a0 : Nat} {a1 : Int32} {bc bs : Nat} {h : tq_H} {o : Int32 × tq_H} {Q : tq_R → tq_H → Prop} (hf : f_L_groups a0 a1 h = some o) (hb : ∀ E g, f_X10_groups a0 a1 h = some (.inl E, g) → 1 ≤ bc ∧ 6 ≤ bs) (hQ : ∀ r h9, r = .inl (some (.int o.1)) ∧ o.2 = h9 → Q r h9) : tq_CW l yL_groups cL_groups 3 (some .int) [(0, 5, 6, 13)] d (0 + bc) (0 + bs) [.ref a0, .int a1] h Q := by
  refine tq_bodyW (y := yL_groups) (by decide +kernel) (Nat.le_of_ble_eq_true rfl) ?_
  show tq_W l mL_groups d (0 + bc) (0 + bs) Q 0 [(0, .ref a0), (1, .int a1)] [] h
  refine tq_more (bc := bc) (bs := bs) (by omega) (by omega) ?_
  refine tq_aload_n (M := mL_groups) (pc := 0) dL_groups_0 rfl ?_
  refine tq_iload_n (M := mL_groups) (pc := 1) dL_groups_1 rfl ?_
  obtain ⟨⟨⟩, eu2, hf⟩ := tq_be hf
  obtain ⟨fsu2, eu2⟩ := tq_is_s eu2
  obtain ⟨⟨E1 | v4, w3⟩, ev1, hf⟩ := tq_be hf
  · skip
    by_cases c0 : E1 = "java/lang/IndexOutOfBoundsException"
    · have hf := tq_ifp hf c0
      subst c0
      have hb9 := hb _ _ ev1
      refine tq_calV (M := mL_groups) (pc := 2) (S := []) tk_y_X10_groups tk_v_X10_groups tk_RL_102 dL_groups_2 [.int a1] rfl (S0 := _) rfl eu2 rfl (Nat.le_of_ble_eq_true rfl) (d1 := d - 1) (b1 := 0 + bc) (s1 := 0 + bs) (bc' := 0) (bs' := 0) (Q1 := fun r h9 => r = tq_enI ((.inl "java/lang/IndexOutOfBoundsException", w3) : (String ⊕ Int32) × tq_H).1 ∧ ((.inl "java/lang/IndexOutOfBoundsException", w3) : (String ⊕ Int32) × tq_H).2 = h9) (by omega) (by omega) (by omega) (w_X10_groups (bc := bc) (bs := bs) (by omega) ev1 (fun _ _ _ => hb9) (fun _ _ q => q)) (fun E h9 q => ?_) (fun r9 h9 q => nomatch (show (Sum.inl r9 : tq_R) = Sum.inr _ from q.1))
      obtain ⟨q1, rfl⟩ := q
      cases (show (Sum.inr E : tq_R) = Sum.inr "java/lang/IndexOutOfBoundsException" from q1)
      refine tq_catch (M := mL_groups) (pc := 2) (name := "java/lang/IndexOutOfBoundsException") [] ⟨0, 5, 6, 13⟩ [] rfl tk_pass_L_groups_0 (by decide) (by decide) tk_RL_13 tk_cast_IndexOutOfBoundsException ?_
      refine tq_xstore_n (M := mL_groups) (pc := 6) rfl dL_groups_6 (L2 := [(2, .float 0), (0, .ref a0), (1, .int a1)]) (by decide) rfl ?_
      refine tq_ldc (M := mL_groups) (pc := 7) dL_groups_7 tk_RL_15 ?_
      refine tq_iret (M := mL_groups) (pc := 9) dL_groups_9 rfl ?_
      cases (Option.some.inj hf)
      exact hQ _ _ ⟨rfl, rfl⟩
    have hf := tq_ifn hf c0
    cases hf
  · refine tq_calV (M := mL_groups) (pc := 2) (S := []) tk_y_X10_groups tk_v_X10_groups tk_RL_102 dL_groups_2 [.int a1] rfl (S0 := _) rfl eu2 rfl (Nat.le_of_ble_eq_true rfl) (d1 := d - 1) (b1 := 0 + 0) (s1 := 0 + 0) (bc' := bc) (bs' := bs) (Q1 := fun r h9 => r = tq_enI ((.inr v4, w3) : (String ⊕ Int32) × tq_H).1 ∧ ((.inr v4, w3) : (String ⊕ Int32) × tq_H).2 = h9) (by omega) (by omega) (by omega) (w_X10_groups (bc := 0) (bs := 0) (by omega) ev1 (fun E g z => by cases z) (fun _ _ q => q)) (fun E h9 q => nomatch (show (Sum.inr E : tq_R) = Sum.inl _ from q.1)) (fun r9 h9 q => ?_)
    obtain ⟨q1, rfl⟩ := q
    cases (show (Sum.inl r9 : tq_R) = Sum.inl (some (.int v4)) from q1)
    refine tq_iret (M := mL_groups) (pc := 5) dL_groups_5 rfl ?_
    cases (Option.some.inj hf)
    exact hQ _ _ ⟨rfl, rfl⟩
def f_N_groups (a0 : Nat) (a1 : Int32) (h : tq_H) : Option (Int32 × tq_H) :=
  (tq_is h a0 10).bind fun _ =>
  (f_X10_groups a0 a1 h).bind fun v1 => match v1 with
  | (.inl _, _) =>
    none
  | (.inr v4, w3) =>
    some (v4, w3)
theorem n_L_groups {a0 : Nat} {a1 : Int32} {h : tq_H} {o : Int32 × tq_H} (e : f_N_groups a0 a1 h = some o) : f_L_groups a0 a1 h = some o ∧ ∀ E g, f_X10_groups a0 a1 h = some (.inl E, g) → 1 ≤ 0 ∧ 6 ≤ 0 := by
  obtain ⟨u, e1, e2⟩ := tq_be e
  obtain ⟨v, e3, e4⟩ := tq_be e2
  obtain ⟨v1, v2⟩ := v
  cases v1 with
  | inl E => cases e4
  | inr v =>
    refine ⟨?_, fun E g z => by rw [e3] at z; cases z⟩
    unfold f_L_groups
    rw [e1, Option.bind_some, e3, Option.bind_some]
    exact e4
abbrev mL_nameType : tq_M := (RL, cL_nameType, 4, (some .int), false, [(0, 6, 7, 13), (0, 6, 11, 16), (0, 6, 15, 19)], none)
def f_L_nameType (a0 : Nat) (a1 : Int32) (a2 : Int32) (h : tq_H) : Option (Int32 × tq_H) :=
  (tq_is h a0 10).bind fun _ =>
  (f_X10_nameType a0 a1 a2 h).bind fun v1 => match v1 with
  | (.inl E1, w3) =>
    if E1 = "java/lang/IndexOutOfBoundsException" then
      some ((-2000000001 : Int32), w3)
    else
      if E1 = "java/lang/IllegalArgumentException" then
        some ((-2000000002 : Int32), w3)
      else
        if E1 = "java/lang/IllegalStateException" then
          some ((-2000000003 : Int32), w3)
        else
          none
  | (.inr v4, w3) =>
    some (v4, w3)
set_option maxHeartbeats 4000000 in
set_option maxRecDepth 20000 in
theorem w_L_nameType {l : Launch} {d : Nat} (hd9 : 8 ≤ d) {a0 : Nat} {a1 : Int32} {a2 : Int32} {bc bs : Nat} {h : tq_H} {o : Int32 × tq_H} {Q : tq_R → tq_H → Prop} (hf : f_L_nameType a0 a1 a2 h = some o) (hb : ∀ E g, f_X10_nameType a0 a1 a2 h = some (.inl E, g) → 1 ≤ bc ∧ 6 ≤ bs) (hQ : ∀ r h9, r = .inl (some (.int o.1)) ∧ o.2 = h9 → Q r h9) : tq_CW l yL_nameType cL_nameType 4 (some .int) [(0, 6, 7, 13), (0, 6, 11, 16), (0, 6, 15, 19)] d (0 + bc) (0 + bs) [.ref a0, .int a1, .int a2] h Q := by
  refine tq_bodyW (y := yL_nameType) (by decide +kernel) (Nat.le_of_ble_eq_true rfl) ?_
  show tq_W l mL_nameType d (0 + bc) (0 + bs) Q 0 [(0, .ref a0), (1, .int a1), (2, .int a2)] [] h
  refine tq_more (bc := bc) (bs := bs) (by omega) (by omega) ?_
  refine tq_aload_n (M := mL_nameType) (pc := 0) dL_nameType_0 rfl ?_
  refine tq_iload_n (M := mL_nameType) (pc := 1) dL_nameType_1 rfl ?_
  refine tq_iload_n (M := mL_nameType) (pc := 2) dL_nameType_2 rfl ?_
  obtain ⟨⟨⟩, eu2, hf⟩ := tq_be hf
  obtain ⟨fsu2, eu2⟩ := tq_is_s eu2
  obtain ⟨⟨E1 | v4, w3⟩, ev1, hf⟩ := tq_be hf
  · skip
    by_cases c0 : E1 = "java/lang/IndexOutOfBoundsException"
    · have hf := tq_ifp hf c0
      subst c0
      have hb9 := hb _ _ ev1
      refine tq_calV (M := mL_nameType) (pc := 3) (S := []) tk_y_X10_nameType tk_v_X10_nameType tk_RL_105 dL_nameType_3 [.int a1, .int a2] rfl (S0 := _) rfl eu2 rfl (Nat.le_of_ble_eq_true rfl) (d1 := d - 1) (b1 := 0 + bc) (s1 := 0 + bs) (bc' := 0) (bs' := 0) (Q1 := fun r h9 => r = tq_enI ((.inl "java/lang/IndexOutOfBoundsException", w3) : (String ⊕ Int32) × tq_H).1 ∧ ((.inl "java/lang/IndexOutOfBoundsException", w3) : (String ⊕ Int32) × tq_H).2 = h9) (by omega) (by omega) (by omega) (w_X10_nameType (bc := bc) (bs := bs) (by omega) ev1 (fun _ _ _ => hb9) (fun _ _ q => q)) (fun E h9 q => ?_) (fun r9 h9 q => nomatch (show (Sum.inl r9 : tq_R) = Sum.inr _ from q.1))
      obtain ⟨q1, rfl⟩ := q
      cases (show (Sum.inr E : tq_R) = Sum.inr "java/lang/IndexOutOfBoundsException" from q1)
      refine tq_catch (M := mL_nameType) (pc := 3) (name := "java/lang/IndexOutOfBoundsException") [] ⟨0, 6, 7, 13⟩ [⟨0, 6, 11, 16⟩, ⟨0, 6, 15, 19⟩] rfl tk_pass_L_nameType_0 (by decide) (by decide) tk_RL_13 tk_cast_IndexOutOfBoundsException ?_
      refine tq_xstore_n (M := mL_nameType) (pc := 7) rfl dL_nameType_7 (L2 := [(3, .float 0), (0, .ref a0), (1, .int a1), (2, .int a2)]) (by decide) rfl ?_
      refine tq_ldc (M := mL_nameType) (pc := 8) dL_nameType_8 tk_RL_15 ?_
      refine tq_iret (M := mL_nameType) (pc := 10) dL_nameType_10 rfl ?_
      cases (Option.some.inj hf)
      exact hQ _ _ ⟨rfl, rfl⟩
    have hf := tq_ifn hf c0
    by_cases c1 : E1 = "java/lang/IllegalArgumentException"
    · have hf := tq_ifp hf c1
      subst c1
      have hb9 := hb _ _ ev1
      refine tq_calV (M := mL_nameType) (pc := 3) (S := []) tk_y_X10_nameType tk_v_X10_nameType tk_RL_105 dL_nameType_3 [.int a1, .int a2] rfl (S0 := _) rfl eu2 rfl (Nat.le_of_ble_eq_true rfl) (d1 := d - 1) (b1 := 0 + bc) (s1 := 0 + bs) (bc' := 0) (bs' := 0) (Q1 := fun r h9 => r = tq_enI ((.inl "java/lang/IllegalArgumentException", w3) : (String ⊕ Int32) × tq_H).1 ∧ ((.inl "java/lang/IllegalArgumentException", w3) : (String ⊕ Int32) × tq_H).2 = h9) (by omega) (by omega) (by omega) (w_X10_nameType (bc := bc) (bs := bs) (by omega) ev1 (fun _ _ _ => hb9) (fun _ _ q => q)) (fun E h9 q => ?_) (fun r9 h9 q => nomatch (show (Sum.inl r9 : tq_R) = Sum.inr _ from q.1))
      obtain ⟨q1, rfl⟩ := q
      cases (show (Sum.inr E : tq_R) = Sum.inr "java/lang/IllegalArgumentException" from q1)
      refine tq_catch (M := mL_nameType) (pc := 3) (name := "java/lang/IllegalArgumentException") [⟨0, 6, 7, 13⟩] ⟨0, 6, 11, 16⟩ [⟨0, 6, 15, 19⟩] rfl tk_pass_L_nameType_1 (by decide) (by decide) tk_RL_16 tk_cast_IllegalArgumentException ?_
      refine tq_xstore_n (M := mL_nameType) (pc := 11) rfl dL_nameType_11 (L2 := [(3, .float 0), (0, .ref a0), (1, .int a1), (2, .int a2)]) (by decide) rfl ?_
      refine tq_ldc (M := mL_nameType) (pc := 12) dL_nameType_12 tk_RL_18 ?_
      refine tq_iret (M := mL_nameType) (pc := 14) dL_nameType_14 rfl ?_
      cases (Option.some.inj hf)
      exact hQ _ _ ⟨rfl, rfl⟩
    have hf := tq_ifn hf c1
    by_cases c2 : E1 = "java/lang/IllegalStateException"
    · have hf := tq_ifp hf c2
      subst c2
      have hb9 := hb _ _ ev1
      refine tq_calV (M := mL_nameType) (pc := 3) (S := []) tk_y_X10_nameType tk_v_X10_nameType tk_RL_105 dL_nameType_3 [.int a1, .int a2] rfl (S0 := _) rfl eu2 rfl (Nat.le_of_ble_eq_true rfl) (d1 := d - 1) (b1 := 0 + bc) (s1 := 0 + bs) (bc' := 0) (bs' := 0) (Q1 := fun r h9 => r = tq_enI ((.inl "java/lang/IllegalStateException", w3) : (String ⊕ Int32) × tq_H).1 ∧ ((.inl "java/lang/IllegalStateException", w3) : (String ⊕ Int32) × tq_H).2 = h9) (by omega) (by omega) (by omega) (w_X10_nameType (bc := bc) (bs := bs) (by omega) ev1 (fun _ _ _ => hb9) (fun _ _ q => q)) (fun E h9 q => ?_) (fun r9 h9 q => nomatch (show (Sum.inl r9 : tq_R) = Sum.inr _ from q.1))
      obtain ⟨q1, rfl⟩ := q
      cases (show (Sum.inr E : tq_R) = Sum.inr "java/lang/IllegalStateException" from q1)
      refine tq_catch (M := mL_nameType) (pc := 3) (name := "java/lang/IllegalStateException") [⟨0, 6, 7, 13⟩, ⟨0, 6, 11, 16⟩] ⟨0, 6, 15, 19⟩ [] rfl tk_pass_L_nameType_2 (by decide) (by decide) tk_RL_19 tk_cast_IllegalStateException ?_
      refine tq_xstore_n (M := mL_nameType) (pc := 15) rfl dL_nameType_15 (L2 := [(3, .float 0), (0, .ref a0), (1, .int a1), (2, .int a2)]) (by decide) rfl ?_
      refine tq_ldc (M := mL_nameType) (pc := 16) dL_nameType_16 tk_RL_21 ?_
      refine tq_iret (M := mL_nameType) (pc := 18) dL_nameType_18 rfl ?_
      cases (Option.some.inj hf)
      exact hQ _ _ ⟨rfl, rfl⟩
    have hf := tq_ifn hf c2
    cases hf
  · refine tq_calV (M := mL_nameType) (pc := 3) (S := []) tk_y_X10_nameType tk_v_X10_nameType tk_RL_105 dL_nameType_3 [.int a1, .int a2] rfl (S0 := _) rfl eu2 rfl (Nat.le_of_ble_eq_true rfl) (d1 := d - 1) (b1 := 0 + 0) (s1 := 0 + 0) (bc' := bc) (bs' := bs) (Q1 := fun r h9 => r = tq_enI ((.inr v4, w3) : (String ⊕ Int32) × tq_H).1 ∧ ((.inr v4, w3) : (String ⊕ Int32) × tq_H).2 = h9) (by omega) (by omega) (by omega) (w_X10_nameType (bc := 0) (bs := 0) (by omega) ev1 (fun E g z => by cases z) (fun _ _ q => q)) (fun E h9 q => nomatch (show (Sum.inr E : tq_R) = Sum.inl _ from q.1)) (fun r9 h9 q => ?_)
    obtain ⟨q1, rfl⟩ := q
    cases (show (Sum.inl r9 : tq_R) = Sum.inl (some (.int v4)) from q1)
    refine tq_iret (M := mL_nameType) (pc := 6) dL_nameType_6 rfl ?_
    cases (Option.some.inj hf)
    exact hQ _ _ ⟨rfl, rfl⟩
abbrev mL_arc : tq_M := (RL, cL_arc, 6, (some .int), false, [(0, 17, 18, 13), (0, 17, 23, 19)], none)
def f_L_arc (a0 : Nat) (a1 : Int32) (a2 : Int32) (a3 : Int32) (a4 : Int32) (h : tq_H) : Option (Int32 × tq_H) :=
  (tq_is h a0 10).bind fun _ =>
  (f_X10_arc a0 a1 a2 a3 a4 h).bind fun v1 => match v1 with
  | (.inl E1, w3) =>
    if E1 = "java/lang/IndexOutOfBoundsException" then
      some ((-2000000001 : Int32), w3)
    else
      if E1 = "java/lang/IllegalStateException" then
        some ((-2000000003 : Int32), w3)
      else
        none
  | (.inr v4, w3) =>
    tq_let (if v4 = 0 then (0 : Int32) else (1 : Int32)) fun p5 =>
    some (p5, w3)
set_option maxHeartbeats 4000000 in
set_option maxRecDepth 20000 in
theorem w_L_arc {l : Launch} {d : Nat} (hd9 : 8 ≤ d) {a0 : Nat} {a1 : Int32} {a2 : Int32} {a3 : Int32} {a4 : Int32} {bc bs : Nat} {h : tq_H} {o : Int32 × tq_H} {Q : tq_R → tq_H → Prop} (hf : f_L_arc a0 a1 a2 a3 a4 h = some o) (hb : ∀ E g, f_X10_arc a0 a1 a2 a3 a4 h = some (.inl E, g) → 1 ≤ bc ∧ 6 ≤ bs) (hQ : ∀ r h9, r = .inl (some (.int o.1)) ∧ o.2 = h9 → Q r h9) : tq_CW l yL_arc cL_arc 6 (some .int) [(0, 17, 18, 13), (0, 17, 23, 19)] d (0 + bc) (0 + bs) [.ref a0, .int a1, .int a2, .int a3, .int a4] h Q := by
  refine tq_bodyW (y := yL_arc) (by decide +kernel) (Nat.le_of_ble_eq_true rfl) ?_
  show tq_W l mL_arc d (0 + bc) (0 + bs) Q 0 [(0, .ref a0), (1, .int a1), (2, .int a2), (3, .int a3), (4, .int a4)] [] h
  refine tq_more (bc := bc) (bs := bs) (by omega) (by omega) ?_
  refine tq_aload_n (M := mL_arc) (pc := 0) dL_arc_0 rfl ?_
  refine tq_iload_n (M := mL_arc) (pc := 1) dL_arc_1 rfl ?_
  refine tq_iload_n (M := mL_arc) (pc := 2) dL_arc_2 rfl ?_
  refine tq_iload_n (M := mL_arc) (pc := 3) dL_arc_3 rfl ?_
  refine tq_iload (M := mL_arc) (pc := 4) dL_arc_4 rfl ?_
  obtain ⟨⟨⟩, eu2, hf⟩ := tq_be hf
  obtain ⟨fsu2, eu2⟩ := tq_is_s eu2
  obtain ⟨⟨E1 | v4, w3⟩, ev1, hf⟩ := tq_be hf
  · skip
    by_cases c0 : E1 = "java/lang/IndexOutOfBoundsException"
    · have hf := tq_ifp hf c0
      subst c0
      have hb9 := hb _ _ ev1
      refine tq_calV (M := mL_arc) (pc := 6) (S := []) tk_y_X10_arc tk_v_X10_arc tk_RL_108 dL_arc_6 [.int a1, .int a2, .int a3, .int a4] rfl (S0 := _) rfl eu2 rfl (Nat.le_of_ble_eq_true rfl) (d1 := d - 1) (b1 := 0 + bc) (s1 := 0 + bs) (bc' := 0) (bs' := 0) (Q1 := fun r h9 => r = tq_enI ((.inl "java/lang/IndexOutOfBoundsException", w3) : (String ⊕ Int32) × tq_H).1 ∧ ((.inl "java/lang/IndexOutOfBoundsException", w3) : (String ⊕ Int32) × tq_H).2 = h9) (by omega) (by omega) (by omega) (w_X10_arc (bc := bc) (bs := bs) (by omega) ev1 (fun _ _ _ => hb9) (fun _ _ q => q)) (fun E h9 q => ?_) (fun r9 h9 q => nomatch (show (Sum.inl r9 : tq_R) = Sum.inr _ from q.1))
      obtain ⟨q1, rfl⟩ := q
      cases (show (Sum.inr E : tq_R) = Sum.inr "java/lang/IndexOutOfBoundsException" from q1)
      refine tq_catch (M := mL_arc) (pc := 6) (name := "java/lang/IndexOutOfBoundsException") [] ⟨0, 17, 18, 13⟩ [⟨0, 17, 23, 19⟩] rfl tk_pass_L_arc_0 (by decide) (by decide) tk_RL_13 tk_cast_IndexOutOfBoundsException ?_
      refine tq_xstore (M := mL_arc) (pc := 18) dL_arc_18 (L2 := [(5, .float 0), (0, .ref a0), (1, .int a1), (2, .int a2), (3, .int a3), (4, .int a4)]) (by decide) rfl ?_
      refine tq_ldc (M := mL_arc) (pc := 20) dL_arc_20 tk_RL_15 ?_
      refine tq_iret (M := mL_arc) (pc := 22) dL_arc_22 rfl ?_
      cases (Option.some.inj hf)
      exact hQ _ _ ⟨rfl, rfl⟩
    have hf := tq_ifn hf c0
    by_cases c1 : E1 = "java/lang/IllegalStateException"
    · have hf := tq_ifp hf c1
      subst c1
      have hb9 := hb _ _ ev1
      refine tq_calV (M := mL_arc) (pc := 6) (S := []) tk_y_X10_arc tk_v_X10_arc tk_RL_108 dL_arc_6 [.int a1, .int a2, .int a3, .int a4] rfl (S0 := _) rfl eu2 rfl (Nat.le_of_ble_eq_true rfl) (d1 := d - 1) (b1 := 0 + bc) (s1 := 0 + bs) (bc' := 0) (bs' := 0) (Q1 := fun r h9 => r = tq_enI ((.inl "java/lang/IllegalStateException", w3) : (String ⊕ Int32) × tq_H).1 ∧ ((.inl "java/lang/IllegalStateException", w3) : (String ⊕ Int32) × tq_H).2 = h9) (by omega) (by omega) (by omega) (w_X10_arc (bc := bc) (bs := bs) (by omega) ev1 (fun _ _ _ => hb9) (fun _ _ q => q)) (fun E h9 q => ?_) (fun r9 h9 q => nomatch (show (Sum.inl r9 : tq_R) = Sum.inr _ from q.1))
      obtain ⟨q1, rfl⟩ := q
      cases (show (Sum.inr E : tq_R) = Sum.inr "java/lang/IllegalStateException" from q1)
      refine tq_catch (M := mL_arc) (pc := 6) (name := "java/lang/IllegalStateException") [⟨0, 17, 18, 13⟩] ⟨0, 17, 23, 19⟩ [] rfl tk_pass_L_arc_1 (by decide) (by decide) tk_RL_19 tk_cast_IllegalStateException ?_
      refine tq_xstore (M := mL_arc) (pc := 23) dL_arc_23 (L2 := [(5, .float 0), (0, .ref a0), (1, .int a1), (2, .int a2), (3, .int a3), (4, .int a4)]) (by decide) rfl ?_
      refine tq_ldc (M := mL_arc) (pc := 25) dL_arc_25 tk_RL_21 ?_
      refine tq_iret (M := mL_arc) (pc := 27) dL_arc_27 rfl ?_
      cases (Option.some.inj hf)
      exact hQ _ _ ⟨rfl, rfl⟩
    have hf := tq_ifn hf c1
    cases hf
  · refine tq_calV (M := mL_arc) (pc := 6) (S := []) tk_y_X10_arc tk_v_X10_arc tk_RL_108 dL_arc_6 [.int a1, .int a2, .int a3, .int a4] rfl (S0 := _) rfl eu2 rfl (Nat.le_of_ble_eq_true rfl) (d1 := d - 1) (b1 := 0 + 0) (s1 := 0 + 0) (bc' := bc) (bs' := bs) (Q1 := fun r h9 => r = tq_enI ((.inr v4, w3) : (String ⊕ Int32) × tq_H).1 ∧ ((.inr v4, w3) : (String ⊕ Int32) × tq_H).2 = h9) (by omega) (by omega) (by omega) (w_X10_arc (bc := 0) (bs := 0) (by omega) ev1 (fun E g z => by cases z) (fun _ _ q => q)) (fun E h9 q => nomatch (show (Sum.inr E : tq_R) = Sum.inl _ from q.1)) (fun r9 h9 q => ?_)
    obtain ⟨q1, rfl⟩ := q
    cases (show (Sum.inl r9 : tq_R) = Sum.inl (some (.int v4)) from q1)
    obtain ⟨p5, ep5, hf⟩ := tq_le hf
    have HJ9 : tq_W l mL_arc d bc bs Q 17 [] [.int p5] w3 := by
      refine tq_iret (M := mL_arc) (pc := 17) dL_arc_17 rfl ?_
      cases (Option.some.inj hf)
      exact hQ _ _ ⟨rfl, rfl⟩
    refine tq_if_eq (M := mL_arc) (pc := 9) (tgt := 16) dL_arc_9 (by decide) (fun cc => ?_) (fun cc => ?_)
    · have hf := tq_ifp ep5.symm cc
      refine tq_iconst (M := mL_arc) (pc := 16) dL_arc_16 tk_ki_0 ?_
      refine tq_pick (L2 := []) [] rfl ?_
      cases hf
      exact HJ9
    · have hf := tq_ifn ep5.symm cc
      refine tq_iconst (M := mL_arc) (pc := 12) dL_arc_12 tk_ki_1 ?_
      refine tq_goto (M := mL_arc) (pc := 13) (tgt := 17) dL_arc_13 (by decide) ?_
      refine tq_pick (L2 := []) [] rfl ?_
      cases hf
      exact HJ9
abbrev mL_fin : tq_M := (RL, cL_fin, 5, (some .int), false, [(0, 15, 16, 13), (0, 15, 21, 19)], none)
def f_L_fin (a0 : Nat) (a1 : Int32) (a2 : Int32) (a3 : Int32) (h : tq_H) : Option (Int32 × tq_H) :=
  (tq_is h a0 10).bind fun _ =>
  (f_X10_setFinal a0 a1 a2 a3 h).bind fun v1 => match v1 with
  | (.inl E1, w3) =>
    if E1 = "java/lang/IndexOutOfBoundsException" then
      some ((-2000000001 : Int32), w3)
    else
      if E1 = "java/lang/IllegalStateException" then
        some ((-2000000003 : Int32), w3)
      else
        none
  | (.inr v4, w3) =>
    tq_let (if v4 = 0 then (0 : Int32) else (1 : Int32)) fun p5 =>
    some (p5, w3)
set_option maxHeartbeats 4000000 in
set_option maxRecDepth 20000 in
theorem w_L_fin {l : Launch} {d : Nat} (hd9 : 8 ≤ d) {a0 : Nat} {a1 : Int32} {a2 : Int32} {a3 : Int32} {bc bs : Nat} {h : tq_H} {o : Int32 × tq_H} {Q : tq_R → tq_H → Prop} (hf : f_L_fin a0 a1 a2 a3 h = some o) (hb : ∀ E g, f_X10_setFinal a0 a1 a2 a3 h = some (.inl E, g) → 1 ≤ bc ∧ 6 ≤ bs) (hQ : ∀ r h9, r = .inl (some (.int o.1)) ∧ o.2 = h9 → Q r h9) : tq_CW l yL_fin cL_fin 5 (some .int) [(0, 15, 16, 13), (0, 15, 21, 19)] d (0 + bc) (0 + bs) [.ref a0, .int a1, .int a2, .int a3] h Q := by
  refine tq_bodyW (y := yL_fin) (by decide +kernel) (Nat.le_of_ble_eq_true rfl) ?_
  show tq_W l mL_fin d (0 + bc) (0 + bs) Q 0 [(0, .ref a0), (1, .int a1), (2, .int a2), (3, .int a3)] [] h
  refine tq_more (bc := bc) (bs := bs) (by omega) (by omega) ?_
  refine tq_aload_n (M := mL_fin) (pc := 0) dL_fin_0 rfl ?_
  refine tq_iload_n (M := mL_fin) (pc := 1) dL_fin_1 rfl ?_
  refine tq_iload_n (M := mL_fin) (pc := 2) dL_fin_2 rfl ?_
  refine tq_iload_n (M := mL_fin) (pc := 3) dL_fin_3 rfl ?_
  obtain ⟨⟨⟩, eu2, hf⟩ := tq_be hf
  obtain ⟨fsu2, eu2⟩ := tq_is_s eu2
  obtain ⟨⟨E1 | v4, w3⟩, ev1, hf⟩ := tq_be hf
  · skip
    by_cases c0 : E1 = "java/lang/IndexOutOfBoundsException"
    · have hf := tq_ifp hf c0
      subst c0
      have hb9 := hb _ _ ev1
      refine tq_calV (M := mL_fin) (pc := 4) (S := []) tk_y_X10_setFinal tk_v_X10_setFinal tk_RL_112 dL_fin_4 [.int a1, .int a2, .int a3] rfl (S0 := _) rfl eu2 rfl (Nat.le_of_ble_eq_true rfl) (d1 := d - 1) (b1 := 0 + bc) (s1 := 0 + bs) (bc' := 0) (bs' := 0) (Q1 := fun r h9 => r = tq_enI ((.inl "java/lang/IndexOutOfBoundsException", w3) : (String ⊕ Int32) × tq_H).1 ∧ ((.inl "java/lang/IndexOutOfBoundsException", w3) : (String ⊕ Int32) × tq_H).2 = h9) (by omega) (by omega) (by omega) (w_X10_setFinal (bc := bc) (bs := bs) (by omega) ev1 (fun _ _ _ => hb9) (fun _ _ q => q)) (fun E h9 q => ?_) (fun r9 h9 q => nomatch (show (Sum.inl r9 : tq_R) = Sum.inr _ from q.1))
      obtain ⟨q1, rfl⟩ := q
      cases (show (Sum.inr E : tq_R) = Sum.inr "java/lang/IndexOutOfBoundsException" from q1)
      refine tq_catch (M := mL_fin) (pc := 4) (name := "java/lang/IndexOutOfBoundsException") [] ⟨0, 15, 16, 13⟩ [⟨0, 15, 21, 19⟩] rfl tk_pass_L_fin_0 (by decide) (by decide) tk_RL_13 tk_cast_IndexOutOfBoundsException ?_
      refine tq_xstore (M := mL_fin) (pc := 16) dL_fin_16 (L2 := [(4, .float 0), (0, .ref a0), (1, .int a1), (2, .int a2), (3, .int a3)]) (by decide) rfl ?_
      refine tq_ldc (M := mL_fin) (pc := 18) dL_fin_18 tk_RL_15 ?_
      refine tq_iret (M := mL_fin) (pc := 20) dL_fin_20 rfl ?_
      cases (Option.some.inj hf)
      exact hQ _ _ ⟨rfl, rfl⟩
    have hf := tq_ifn hf c0
    by_cases c1 : E1 = "java/lang/IllegalStateException"
    · have hf := tq_ifp hf c1
      subst c1
      have hb9 := hb _ _ ev1
      refine tq_calV (M := mL_fin) (pc := 4) (S := []) tk_y_X10_setFinal tk_v_X10_setFinal tk_RL_112 dL_fin_4 [.int a1, .int a2, .int a3] rfl (S0 := _) rfl eu2 rfl (Nat.le_of_ble_eq_true rfl) (d1 := d - 1) (b1 := 0 + bc) (s1 := 0 + bs) (bc' := 0) (bs' := 0) (Q1 := fun r h9 => r = tq_enI ((.inl "java/lang/IllegalStateException", w3) : (String ⊕ Int32) × tq_H).1 ∧ ((.inl "java/lang/IllegalStateException", w3) : (String ⊕ Int32) × tq_H).2 = h9) (by omega) (by omega) (by omega) (w_X10_setFinal (bc := bc) (bs := bs) (by omega) ev1 (fun _ _ _ => hb9) (fun _ _ q => q)) (fun E h9 q => ?_) (fun r9 h9 q => nomatch (show (Sum.inl r9 : tq_R) = Sum.inr _ from q.1))
      obtain ⟨q1, rfl⟩ := q
      cases (show (Sum.inr E : tq_R) = Sum.inr "java/lang/IllegalStateException" from q1)
      refine tq_catch (M := mL_fin) (pc := 4) (name := "java/lang/IllegalStateException") [⟨0, 15, 16, 13⟩] ⟨0, 15, 21, 19⟩ [] rfl tk_pass_L_fin_1 (by decide) (by decide) tk_RL_19 tk_cast_IllegalStateException ?_
      refine tq_xstore (M := mL_fin) (pc := 21) dL_fin_21 (L2 := [(4, .float 0), (0, .ref a0), (1, .int a1), (2, .int a2), (3, .int a3)]) (by decide) rfl ?_
      refine tq_ldc (M := mL_fin) (pc := 23) dL_fin_23 tk_RL_21 ?_
      refine tq_iret (M := mL_fin) (pc := 25) dL_fin_25 rfl ?_
      cases (Option.some.inj hf)
      exact hQ _ _ ⟨rfl, rfl⟩
    have hf := tq_ifn hf c1
    cases hf
  · refine tq_calV (M := mL_fin) (pc := 4) (S := []) tk_y_X10_setFinal tk_v_X10_setFinal tk_RL_112 dL_fin_4 [.int a1, .int a2, .int a3] rfl (S0 := _) rfl eu2 rfl (Nat.le_of_ble_eq_true rfl) (d1 := d - 1) (b1 := 0 + 0) (s1 := 0 + 0) (bc' := bc) (bs' := bs) (Q1 := fun r h9 => r = tq_enI ((.inr v4, w3) : (String ⊕ Int32) × tq_H).1 ∧ ((.inr v4, w3) : (String ⊕ Int32) × tq_H).2 = h9) (by omega) (by omega) (by omega) (w_X10_setFinal (bc := 0) (bs := 0) (by omega) ev1 (fun E g z => by cases z) (fun _ _ q => q)) (fun E h9 q => nomatch (show (Sum.inr E : tq_R) = Sum.inl _ from q.1)) (fun r9 h9 q => ?_)
    obtain ⟨q1, rfl⟩ := q
    cases (show (Sum.inl r9 : tq_R) = Sum.inl (some (.int v4)) from q1)
    obtain ⟨p5, ep5, hf⟩ := tq_le hf
    have HJ7 : tq_W l mL_fin d bc bs Q 15 [] [.int p5] w3 := by
      refine tq_iret (M := mL_fin) (pc := 15) dL_fin_15 rfl ?_
      cases (Option.some.inj hf)
      exact hQ _ _ ⟨rfl, rfl⟩
    refine tq_if_eq (M := mL_fin) (pc := 7) (tgt := 14) dL_fin_7 (by decide) (fun cc => ?_) (fun cc => ?_)
    · have hf := tq_ifp ep5.symm cc
      refine tq_iconst (M := mL_fin) (pc := 14) dL_fin_14 tk_ki_0 ?_
      refine tq_pick (L2 := []) [] rfl ?_
      cases hf
      exact HJ7
    · have hf := tq_ifn ep5.symm cc
      refine tq_iconst (M := mL_fin) (pc := 10) dL_fin_10 tk_ki_1 ?_
      refine tq_goto (M := mL_fin) (pc := 11) (tgt := 15) dL_fin_11 (by decide) ?_
      refine tq_pick (L2 := []) [] rfl ?_
      cases hf
      exact HJ7
abbrev mL_texts : tq_M := (RL, cL_texts, 4, (some .int), false, [(0, 14, 15, 13), (0, 14, 19, 19)], none)
def f_L_texts (a0 : Nat) (a1 : Int32) (a2 : Int32) (h : tq_H) : Option (Int32 × tq_H) :=
  (tq_is h a0 10).bind fun _ =>
  (f_X10_allowTexts a0 a1 a2 h).bind fun v1 => match v1 with
  | (.inl E1, w3) =>
    if E1 = "java/lang/IndexOutOfBoundsException" then
      some ((-2000000001 : Int32), w3)
    else
      if E1 = "java/lang/IllegalStateException" then
        some ((-2000000003 : Int32), w3)
      else
        none
  | (.inr v4, w3) =>
    tq_let (if v4 = 0 then (0 : Int32) else (1 : Int32)) fun p5 =>
    some (p5, w3)
set_option maxHeartbeats 4000000 in
set_option maxRecDepth 20000 in
theorem w_L_texts {l : Launch} {d : Nat} (hd9 : 8 ≤ d) {a0 : Nat} {a1 : Int32} {a2 : Int32} {bc bs : Nat} {h : tq_H} {o : Int32 × tq_H} {Q : tq_R → tq_H → Prop} (hf : f_L_texts a0 a1 a2 h = some o) (hb : ∀ E g, f_X10_allowTexts a0 a1 a2 h = some (.inl E, g) → 1 ≤ bc ∧ 6 ≤ bs) (hQ : ∀ r h9, r = .inl (some (.int o.1)) ∧ o.2 = h9 → Q r h9) : tq_CW l yL_texts cL_texts 4 (some .int) [(0, 14, 15, 13), (0, 14, 19, 19)] d (0 + bc) (0 + bs) [.ref a0, .int a1, .int a2] h Q := by
  refine tq_bodyW (y := yL_texts) (by decide +kernel) (Nat.le_of_ble_eq_true rfl) ?_
  show tq_W l mL_texts d (0 + bc) (0 + bs) Q 0 [(0, .ref a0), (1, .int a1), (2, .int a2)] [] h
  refine tq_more (bc := bc) (bs := bs) (by omega) (by omega) ?_
  refine tq_aload_n (M := mL_texts) (pc := 0) dL_texts_0 rfl ?_
  refine tq_iload_n (M := mL_texts) (pc := 1) dL_texts_1 rfl ?_
  refine tq_iload_n (M := mL_texts) (pc := 2) dL_texts_2 rfl ?_
  obtain ⟨⟨⟩, eu2, hf⟩ := tq_be hf
  obtain ⟨fsu2, eu2⟩ := tq_is_s eu2
  obtain ⟨⟨E1 | v4, w3⟩, ev1, hf⟩ := tq_be hf
  · skip
    by_cases c0 : E1 = "java/lang/IndexOutOfBoundsException"
    · have hf := tq_ifp hf c0
      subst c0
      have hb9 := hb _ _ ev1
      refine tq_calV (M := mL_texts) (pc := 3) (S := []) tk_y_X10_allowTexts tk_v_X10_allowTexts tk_RL_116 dL_texts_3 [.int a1, .int a2] rfl (S0 := _) rfl eu2 rfl (Nat.le_of_ble_eq_true rfl) (d1 := d - 1) (b1 := 0 + bc) (s1 := 0 + bs) (bc' := 0) (bs' := 0) (Q1 := fun r h9 => r = tq_enI ((.inl "java/lang/IndexOutOfBoundsException", w3) : (String ⊕ Int32) × tq_H).1 ∧ ((.inl "java/lang/IndexOutOfBoundsException", w3) : (String ⊕ Int32) × tq_H).2 = h9) (by omega) (by omega) (by omega) (w_X10_allowTexts (bc := bc) (bs := bs) (by omega) ev1 (fun _ _ _ => hb9) (fun _ _ q => q)) (fun E h9 q => ?_) (fun r9 h9 q => nomatch (show (Sum.inl r9 : tq_R) = Sum.inr _ from q.1))
      obtain ⟨q1, rfl⟩ := q
      cases (show (Sum.inr E : tq_R) = Sum.inr "java/lang/IndexOutOfBoundsException" from q1)
      refine tq_catch (M := mL_texts) (pc := 3) (name := "java/lang/IndexOutOfBoundsException") [] ⟨0, 14, 15, 13⟩ [⟨0, 14, 19, 19⟩] rfl tk_pass_L_texts_0 (by decide) (by decide) tk_RL_13 tk_cast_IndexOutOfBoundsException ?_
      refine tq_xstore_n (M := mL_texts) (pc := 15) rfl dL_texts_15 (L2 := [(3, .float 0), (0, .ref a0), (1, .int a1), (2, .int a2)]) (by decide) rfl ?_
      refine tq_ldc (M := mL_texts) (pc := 16) dL_texts_16 tk_RL_15 ?_
      refine tq_iret (M := mL_texts) (pc := 18) dL_texts_18 rfl ?_
      cases (Option.some.inj hf)
      exact hQ _ _ ⟨rfl, rfl⟩
    have hf := tq_ifn hf c0
    by_cases c1 : E1 = "java/lang/IllegalStateException"
    · have hf := tq_ifp hf c1
      subst c1
      have hb9 := hb _ _ ev1
      refine tq_calV (M := mL_texts) (pc := 3) (S := []) tk_y_X10_allowTexts tk_v_X10_allowTexts tk_RL_116 dL_texts_3 [.int a1, .int a2] rfl (S0 := _) rfl eu2 rfl (Nat.le_of_ble_eq_true rfl) (d1 := d - 1) (b1 := 0 + bc) (s1 := 0 + bs) (bc' := 0) (bs' := 0) (Q1 := fun r h9 => r = tq_enI ((.inl "java/lang/IllegalStateException", w3) : (String ⊕ Int32) × tq_H).1 ∧ ((.inl "java/lang/IllegalStateException", w3) : (String ⊕ Int32) × tq_H).2 = h9) (by omega) (by omega) (by omega) (w_X10_allowTexts (bc := bc) (bs := bs) (by omega) ev1 (fun _ _ _ => hb9) (fun _ _ q => q)) (fun E h9 q => ?_) (fun r9 h9 q => nomatch (show (Sum.inl r9 : tq_R) = Sum.inr _ from q.1))
      obtain ⟨q1, rfl⟩ := q
      cases (show (Sum.inr E : tq_R) = Sum.inr "java/lang/IllegalStateException" from q1)
      refine tq_catch (M := mL_texts) (pc := 3) (name := "java/lang/IllegalStateException") [⟨0, 14, 15, 13⟩] ⟨0, 14, 19, 19⟩ [] rfl tk_pass_L_texts_1 (by decide) (by decide) tk_RL_19 tk_cast_IllegalStateException ?_
      refine tq_xstore_n (M := mL_texts) (pc := 19) rfl dL_texts_19 (L2 := [(3, .float 0), (0, .ref a0), (1, .int a1), (2, .int a2)]) (by decide) rfl ?_
      refine tq_ldc (M := mL_texts) (pc := 20) dL_texts_20 tk_RL_21 ?_
      refine tq_iret (M := mL_texts) (pc := 22) dL_texts_22 rfl ?_
      cases (Option.some.inj hf)
      exact hQ _ _ ⟨rfl, rfl⟩
    have hf := tq_ifn hf c1
    cases hf
  · refine tq_calV (M := mL_texts) (pc := 3) (S := []) tk_y_X10_allowTexts tk_v_X10_allowTexts tk_RL_116 dL_texts_3 [.int a1, .int a2] rfl (S0 := _) rfl eu2 rfl (Nat.le_of_ble_eq_true rfl) (d1 := d - 1) (b1 := 0 + 0) (s1 := 0 + 0) (bc' := bc) (bs' := bs) (Q1 := fun r h9 => r = tq_enI ((.inr v4, w3) : (String ⊕ Int32) × tq_H).1 ∧ ((.inr v4, w3) : (String ⊕ Int32) × tq_H).2 = h9) (by omega) (by omega) (by omega) (w_X10_allowTexts (bc := 0) (bs := 0) (by omega) ev1 (fun E g z => by cases z) (fun _ _ q => q)) (fun E h9 q => nomatch (show (Sum.inr E : tq_R) = Sum.inl _ from q.1)) (fun r9 h9 q => ?_)
    obtain ⟨q1, rfl⟩ := q
    cases (show (Sum.inl r9 : tq_R) = Sum.inl (some (.int v4)) from q1)
    obtain ⟨p5, ep5, hf⟩ := tq_le hf
    have HJ6 : tq_W l mL_texts d bc bs Q 14 [] [.int p5] w3 := by
      refine tq_iret (M := mL_texts) (pc := 14) dL_texts_14 rfl ?_
      cases (Option.some.inj hf)
      exact hQ _ _ ⟨rfl, rfl⟩
    refine tq_if_eq (M := mL_texts) (pc := 6) (tgt := 13) dL_texts_6 (by decide) (fun cc => ?_) (fun cc => ?_)
    · have hf := tq_ifp ep5.symm cc
      refine tq_iconst (M := mL_texts) (pc := 13) dL_texts_13 tk_ki_0 ?_
      refine tq_pick (L2 := []) [] rfl ?_
      cases hf
      exact HJ6
    · have hf := tq_ifn ep5.symm cc
      refine tq_iconst (M := mL_texts) (pc := 9) dL_texts_9 tk_ki_1 ?_
      refine tq_goto (M := mL_texts) (pc := 10) (tgt := 14) dL_texts_10 (by decide) ?_
      refine tq_pick (L2 := []) [] rfl ?_
      cases hf
      exact HJ6
abbrev mL_says : tq_M := (RL, cL_says, 5, (some .int), false, [(0, 7, 8, 13), (0, 7, 13, 16), (0, 7, 18, 19)], none)
def f_L_says (a0 : Nat) (a1 : Int32) (a2 : Int32) (a3 : Int32) (h : tq_H) : Option (Int32 × tq_H) :=
  (tq_is h a0 10).bind fun _ =>
  (f_X10_attribute a0 a1 a2 a3 h).bind fun v1 => match v1 with
  | (.inl E1, w3) =>
    if E1 = "java/lang/IndexOutOfBoundsException" then
      some ((-2000000001 : Int32), w3)
    else
      if E1 = "java/lang/IllegalArgumentException" then
        some ((-2000000002 : Int32), w3)
      else
        if E1 = "java/lang/IllegalStateException" then
          some ((-2000000003 : Int32), w3)
        else
          none
  | (.inr v4, w3) =>
    some (v4, w3)
set_option maxHeartbeats 4000000 in
set_option maxRecDepth 20000 in
theorem w_L_says {l : Launch} {d : Nat} (hd9 : 8 ≤ d) {a0 : Nat} {a1 : Int32} {a2 : Int32} {a3 : Int32} {bc bs : Nat} {h : tq_H} {o : Int32 × tq_H} {Q : tq_R → tq_H → Prop} (hf : f_L_says a0 a1 a2 a3 h = some o) (hb : ∀ E g, f_X10_attribute a0 a1 a2 a3 h = some (.inl E, g) → 1 ≤ bc ∧ 6 ≤ bs) (hQ : ∀ r h9, r = .inl (some (.int o.1)) ∧ o.2 = h9 → Q r h9) : tq_CW l yL_says cL_says 5 (some .int) [(0, 7, 8, 13), (0, 7, 13, 16), (0, 7, 18, 19)] d (0 + bc) (0 + bs) [.ref a0, .int a1, .int a2, .int a3] h Q := by
  refine tq_bodyW (y := yL_says) (by decide +kernel) (Nat.le_of_ble_eq_true rfl) ?_
  show tq_W l mL_says d (0 + bc) (0 + bs) Q 0 [(0, .ref a0), (1, .int a1), (2, .int a2), (3, .int a3)] [] h
  refine tq_more (bc := bc) (bs := bs) (by omega) (by omega) ?_
  refine tq_aload_n (M := mL_says) (pc := 0) dL_says_0 rfl ?_
  refine tq_iload_n (M := mL_says) (pc := 1) dL_says_1 rfl ?_
  refine tq_iload_n (M := mL_says) (pc := 2) dL_says_2 rfl ?_
  refine tq_iload_n (M := mL_says) (pc := 3) dL_says_3 rfl ?_
  obtain ⟨⟨⟩, eu2, hf⟩ := tq_be hf
  obtain ⟨fsu2, eu2⟩ := tq_is_s eu2
  obtain ⟨⟨E1 | v4, w3⟩, ev1, hf⟩ := tq_be hf
  · skip
    by_cases c0 : E1 = "java/lang/IndexOutOfBoundsException"
    · have hf := tq_ifp hf c0
      subst c0
      have hb9 := hb _ _ ev1
      refine tq_calV (M := mL_says) (pc := 4) (S := []) tk_y_X10_attribute tk_v_X10_attribute tk_RL_120 dL_says_4 [.int a1, .int a2, .int a3] rfl (S0 := _) rfl eu2 rfl (Nat.le_of_ble_eq_true rfl) (d1 := d - 1) (b1 := 0 + bc) (s1 := 0 + bs) (bc' := 0) (bs' := 0) (Q1 := fun r h9 => r = tq_enI ((.inl "java/lang/IndexOutOfBoundsException", w3) : (String ⊕ Int32) × tq_H).1 ∧ ((.inl "java/lang/IndexOutOfBoundsException", w3) : (String ⊕ Int32) × tq_H).2 = h9) (by omega) (by omega) (by omega) (w_X10_attribute (bc := bc) (bs := bs) (by omega) ev1 (fun _ _ _ => hb9) (fun _ _ q => q)) (fun E h9 q => ?_) (fun r9 h9 q => nomatch (show (Sum.inl r9 : tq_R) = Sum.inr _ from q.1))
      obtain ⟨q1, rfl⟩ := q
      cases (show (Sum.inr E : tq_R) = Sum.inr "java/lang/IndexOutOfBoundsException" from q1)
      refine tq_catch (M := mL_says) (pc := 4) (name := "java/lang/IndexOutOfBoundsException") [] ⟨0, 7, 8, 13⟩ [⟨0, 7, 13, 16⟩, ⟨0, 7, 18, 19⟩] rfl tk_pass_L_says_0 (by decide) (by decide) tk_RL_13 tk_cast_IndexOutOfBoundsException ?_
      refine tq_xstore (M := mL_says) (pc := 8) dL_says_8 (L2 := [(4, .float 0), (0, .ref a0), (1, .int a1), (2, .int a2), (3, .int a3)]) (by decide) rfl ?_
      refine tq_ldc (M := mL_says) (pc := 10) dL_says_10 tk_RL_15 ?_
      refine tq_iret (M := mL_says) (pc := 12) dL_says_12 rfl ?_
      cases (Option.some.inj hf)
      exact hQ _ _ ⟨rfl, rfl⟩
    have hf := tq_ifn hf c0
    by_cases c1 : E1 = "java/lang/IllegalArgumentException"
    · have hf := tq_ifp hf c1
      subst c1
      have hb9 := hb _ _ ev1
      refine tq_calV (M := mL_says) (pc := 4) (S := []) tk_y_X10_attribute tk_v_X10_attribute tk_RL_120 dL_says_4 [.int a1, .int a2, .int a3] rfl (S0 := _) rfl eu2 rfl (Nat.le_of_ble_eq_true rfl) (d1 := d - 1) (b1 := 0 + bc) (s1 := 0 + bs) (bc' := 0) (bs' := 0) (Q1 := fun r h9 => r = tq_enI ((.inl "java/lang/IllegalArgumentException", w3) : (String ⊕ Int32) × tq_H).1 ∧ ((.inl "java/lang/IllegalArgumentException", w3) : (String ⊕ Int32) × tq_H).2 = h9) (by omega) (by omega) (by omega) (w_X10_attribute (bc := bc) (bs := bs) (by omega) ev1 (fun _ _ _ => hb9) (fun _ _ q => q)) (fun E h9 q => ?_) (fun r9 h9 q => nomatch (show (Sum.inl r9 : tq_R) = Sum.inr _ from q.1))
      obtain ⟨q1, rfl⟩ := q
      cases (show (Sum.inr E : tq_R) = Sum.inr "java/lang/IllegalArgumentException" from q1)
      refine tq_catch (M := mL_says) (pc := 4) (name := "java/lang/IllegalArgumentException") [⟨0, 7, 8, 13⟩] ⟨0, 7, 13, 16⟩ [⟨0, 7, 18, 19⟩] rfl tk_pass_L_says_1 (by decide) (by decide) tk_RL_16 tk_cast_IllegalArgumentException ?_
      refine tq_xstore (M := mL_says) (pc := 13) dL_says_13 (L2 := [(4, .float 0), (0, .ref a0), (1, .int a1), (2, .int a2), (3, .int a3)]) (by decide) rfl ?_
      refine tq_ldc (M := mL_says) (pc := 15) dL_says_15 tk_RL_18 ?_
      refine tq_iret (M := mL_says) (pc := 17) dL_says_17 rfl ?_
      cases (Option.some.inj hf)
      exact hQ _ _ ⟨rfl, rfl⟩
    have hf := tq_ifn hf c1
    by_cases c2 : E1 = "java/lang/IllegalStateException"
    · have hf := tq_ifp hf c2
      subst c2
      have hb9 := hb _ _ ev1
      refine tq_calV (M := mL_says) (pc := 4) (S := []) tk_y_X10_attribute tk_v_X10_attribute tk_RL_120 dL_says_4 [.int a1, .int a2, .int a3] rfl (S0 := _) rfl eu2 rfl (Nat.le_of_ble_eq_true rfl) (d1 := d - 1) (b1 := 0 + bc) (s1 := 0 + bs) (bc' := 0) (bs' := 0) (Q1 := fun r h9 => r = tq_enI ((.inl "java/lang/IllegalStateException", w3) : (String ⊕ Int32) × tq_H).1 ∧ ((.inl "java/lang/IllegalStateException", w3) : (String ⊕ Int32) × tq_H).2 = h9) (by omega) (by omega) (by omega) (w_X10_attribute (bc := bc) (bs := bs) (by omega) ev1 (fun _ _ _ => hb9) (fun _ _ q => q)) (fun E h9 q => ?_) (fun r9 h9 q => nomatch (show (Sum.inl r9 : tq_R) = Sum.inr _ from q.1))
      obtain ⟨q1, rfl⟩ := q
      cases (show (Sum.inr E : tq_R) = Sum.inr "java/lang/IllegalStateException" from q1)
      refine tq_catch (M := mL_says) (pc := 4) (name := "java/lang/IllegalStateException") [⟨0, 7, 8, 13⟩, ⟨0, 7, 13, 16⟩] ⟨0, 7, 18, 19⟩ [] rfl tk_pass_L_says_2 (by decide) (by decide) tk_RL_19 tk_cast_IllegalStateException ?_
      refine tq_xstore (M := mL_says) (pc := 18) dL_says_18 (L2 := [(4, .float 0), (0, .ref a0), (1, .int a1), (2, .int a2), (3, .int a3)]) (by decide) rfl ?_
      refine tq_ldc (M := mL_says) (pc := 20) dL_says_20 tk_RL_21 ?_
      refine tq_iret (M := mL_says) (pc := 22) dL_says_22 rfl ?_
      cases (Option.some.inj hf)
      exact hQ _ _ ⟨rfl, rfl⟩
    have hf := tq_ifn hf c2
    cases hf
  · refine tq_calV (M := mL_says) (pc := 4) (S := []) tk_y_X10_attribute tk_v_X10_attribute tk_RL_120 dL_says_4 [.int a1, .int a2, .int a3] rfl (S0 := _) rfl eu2 rfl (Nat.le_of_ble_eq_true rfl) (d1 := d - 1) (b1 := 0 + 0) (s1 := 0 + 0) (bc' := bc) (bs' := bs) (Q1 := fun r h9 => r = tq_enI ((.inr v4, w3) : (String ⊕ Int32) × tq_H).1 ∧ ((.inr v4, w3) : (String ⊕ Int32) × tq_H).2 = h9) (by omega) (by omega) (by omega) (w_X10_attribute (bc := 0) (bs := 0) (by omega) ev1 (fun E g z => by cases z) (fun _ _ q => q)) (fun E h9 q => nomatch (show (Sum.inr E : tq_R) = Sum.inl _ from q.1)) (fun r9 h9 q => ?_)
    obtain ⟨q1, rfl⟩ := q
    cases (show (Sum.inl r9 : tq_R) = Sum.inl (some (.int v4)) from q1)
    refine tq_iret (M := mL_says) (pc := 7) dL_says_7 rfl ?_
    cases (Option.some.inj hf)
    exact hQ _ _ ⟨rfl, rfl⟩
abbrev mL_strict : tq_M := (RL, cL_strict, 3, (some .int), false, [(0, 13, 14, 19)], none)
def f_L_strict (a0 : Nat) (a1 : Int32) (h : tq_H) : Option (Int32 × tq_H) :=
  (tq_is h a0 10).bind fun _ =>
  (f_X10_setStrict a0 a1 h).bind fun v1 => match v1 with
  | (.inl E1, w3) =>
    if E1 = "java/lang/IllegalStateException" then
      some ((-2000000003 : Int32), w3)
    else
      none
  | (.inr v4, w3) =>
    tq_let (if v4 = 0 then (0 : Int32) else (1 : Int32)) fun p5 =>
    some (p5, w3)
set_option maxHeartbeats 4000000 in
set_option maxRecDepth 20000 in
theorem w_L_strict {l : Launch} {d : Nat} (hd9 : 7 ≤ d) {a0 : Nat} {a1 : Int32} {bc bs : Nat} {h : tq_H} {o : Int32 × tq_H} {Q : tq_R → tq_H → Prop} (hf : f_L_strict a0 a1 h = some o) (hb : ∀ E g, f_X10_setStrict a0 a1 h = some (.inl E, g) → 1 ≤ bc ∧ 6 ≤ bs) (hQ : ∀ r h9, r = .inl (some (.int o.1)) ∧ o.2 = h9 → Q r h9) : tq_CW l yL_strict cL_strict 3 (some .int) [(0, 13, 14, 19)] d (0 + bc) (0 + bs) [.ref a0, .int a1] h Q := by
  refine tq_bodyW (y := yL_strict) (by decide +kernel) (Nat.le_of_ble_eq_true rfl) ?_
  show tq_W l mL_strict d (0 + bc) (0 + bs) Q 0 [(0, .ref a0), (1, .int a1)] [] h
  refine tq_more (bc := bc) (bs := bs) (by omega) (by omega) ?_
  refine tq_aload_n (M := mL_strict) (pc := 0) dL_strict_0 rfl ?_
  refine tq_iload_n (M := mL_strict) (pc := 1) dL_strict_1 rfl ?_
  obtain ⟨⟨⟩, eu2, hf⟩ := tq_be hf
  obtain ⟨fsu2, eu2⟩ := tq_is_s eu2
  obtain ⟨⟨E1 | v4, w3⟩, ev1, hf⟩ := tq_be hf
  · skip
    by_cases c0 : E1 = "java/lang/IllegalStateException"
    · have hf := tq_ifp hf c0
      subst c0
      have hb9 := hb _ _ ev1
      refine tq_calV (M := mL_strict) (pc := 2) (S := []) tk_y_X10_setStrict tk_v_X10_setStrict tk_RL_123 dL_strict_2 [.int a1] rfl (S0 := _) rfl eu2 rfl (Nat.le_of_ble_eq_true rfl) (d1 := d - 1) (b1 := 0 + bc) (s1 := 0 + bs) (bc' := 0) (bs' := 0) (Q1 := fun r h9 => r = tq_enI ((.inl "java/lang/IllegalStateException", w3) : (String ⊕ Int32) × tq_H).1 ∧ ((.inl "java/lang/IllegalStateException", w3) : (String ⊕ Int32) × tq_H).2 = h9) (by omega) (by omega) (by omega) (w_X10_setStrict (bc := bc) (bs := bs) (by omega) ev1 (fun _ _ _ => hb9) (fun _ _ q => q)) (fun E h9 q => ?_) (fun r9 h9 q => nomatch (show (Sum.inl r9 : tq_R) = Sum.inr _ from q.1))
      obtain ⟨q1, rfl⟩ := q
      cases (show (Sum.inr E : tq_R) = Sum.inr "java/lang/IllegalStateException" from q1)
      refine tq_catch (M := mL_strict) (pc := 2) (name := "java/lang/IllegalStateException") [] ⟨0, 13, 14, 19⟩ [] rfl tk_pass_L_strict_0 (by decide) (by decide) tk_RL_19 tk_cast_IllegalStateException ?_
      refine tq_xstore_n (M := mL_strict) (pc := 14) rfl dL_strict_14 (L2 := [(2, .float 0), (0, .ref a0), (1, .int a1)]) (by decide) rfl ?_
      refine tq_ldc (M := mL_strict) (pc := 15) dL_strict_15 tk_RL_21 ?_
      refine tq_iret (M := mL_strict) (pc := 17) dL_strict_17 rfl ?_
      cases (Option.some.inj hf)
      exact hQ _ _ ⟨rfl, rfl⟩
    have hf := tq_ifn hf c0
    cases hf
  · refine tq_calV (M := mL_strict) (pc := 2) (S := []) tk_y_X10_setStrict tk_v_X10_setStrict tk_RL_123 dL_strict_2 [.int a1] rfl (S0 := _) rfl eu2 rfl (Nat.le_of_ble_eq_true rfl) (d1 := d - 1) (b1 := 0 + 0) (s1 := 0 + 0) (bc' := bc) (bs' := bs) (Q1 := fun r h9 => r = tq_enI ((.inr v4, w3) : (String ⊕ Int32) × tq_H).1 ∧ ((.inr v4, w3) : (String ⊕ Int32) × tq_H).2 = h9) (by omega) (by omega) (by omega) (w_X10_setStrict (bc := 0) (bs := 0) (by omega) ev1 (fun E g z => by cases z) (fun _ _ q => q)) (fun E h9 q => nomatch (show (Sum.inr E : tq_R) = Sum.inl _ from q.1)) (fun r9 h9 q => ?_)
    obtain ⟨q1, rfl⟩ := q
    cases (show (Sum.inl r9 : tq_R) = Sum.inl (some (.int v4)) from q1)
    obtain ⟨p5, ep5, hf⟩ := tq_le hf
    have HJ5 : tq_W l mL_strict d bc bs Q 13 [] [.int p5] w3 := by
      refine tq_iret (M := mL_strict) (pc := 13) dL_strict_13 rfl ?_
      cases (Option.some.inj hf)
      exact hQ _ _ ⟨rfl, rfl⟩
    refine tq_if_eq (M := mL_strict) (pc := 5) (tgt := 12) dL_strict_5 (by decide) (fun cc => ?_) (fun cc => ?_)
    · have hf := tq_ifp ep5.symm cc
      refine tq_iconst (M := mL_strict) (pc := 12) dL_strict_12 tk_ki_0 ?_
      refine tq_pick (L2 := []) [] rfl ?_
      cases hf
      exact HJ5
    · have hf := tq_ifn ep5.symm cc
      refine tq_iconst (M := mL_strict) (pc := 8) dL_strict_8 tk_ki_1 ?_
      refine tq_goto (M := mL_strict) (pc := 9) (tgt := 13) dL_strict_9 (by decide) ?_
      refine tq_pick (L2 := []) [] rfl ?_
      cases hf
      exact HJ5
abbrev mL_types : tq_M := (RL, cL_types, 3, (some .int), false, [(0, 5, 6, 13)], none)
def f_L_types (a0 : Nat) (a1 : Int32) (h : tq_H) : Option (Int32 × tq_H) :=
  (tq_is h a0 10).bind fun _ =>
  (f_X10_types a0 a1 h).bind fun v1 => match v1 with
  | (.inl E1, w3) =>
    if E1 = "java/lang/IndexOutOfBoundsException" then
      some ((-2000000001 : Int32), w3)
    else
      none
  | (.inr v4, w3) =>
    some (v4, w3)
set_option maxHeartbeats 4000000 in
set_option maxRecDepth 20000 in
theorem w_L_types {l : Launch} {d : Nat} (hd9 : 8 ≤ d) {a0 : Nat} {a1 : Int32} {bc bs : Nat} {h : tq_H} {o : Int32 × tq_H} {Q : tq_R → tq_H → Prop} (hf : f_L_types a0 a1 h = some o) (hb : ∀ E g, f_X10_types a0 a1 h = some (.inl E, g) → 1 ≤ bc ∧ 6 ≤ bs) (hQ : ∀ r h9, r = .inl (some (.int o.1)) ∧ o.2 = h9 → Q r h9) : tq_CW l yL_types cL_types 3 (some .int) [(0, 5, 6, 13)] d (0 + bc) (0 + bs) [.ref a0, .int a1] h Q := by
  refine tq_bodyW (y := yL_types) (by decide +kernel) (Nat.le_of_ble_eq_true rfl) ?_
  show tq_W l mL_types d (0 + bc) (0 + bs) Q 0 [(0, .ref a0), (1, .int a1)] [] h
  refine tq_more (bc := bc) (bs := bs) (by omega) (by omega) ?_
  refine tq_aload_n (M := mL_types) (pc := 0) dL_types_0 rfl ?_
  refine tq_iload_n (M := mL_types) (pc := 1) dL_types_1 rfl ?_
  obtain ⟨⟨⟩, eu2, hf⟩ := tq_be hf
  obtain ⟨fsu2, eu2⟩ := tq_is_s eu2
  obtain ⟨⟨E1 | v4, w3⟩, ev1, hf⟩ := tq_be hf
  · skip
    by_cases c0 : E1 = "java/lang/IndexOutOfBoundsException"
    · have hf := tq_ifp hf c0
      subst c0
      have hb9 := hb _ _ ev1
      refine tq_calV (M := mL_types) (pc := 2) (S := []) tk_y_X10_types tk_v_X10_types tk_RL_127 dL_types_2 [.int a1] rfl (S0 := _) rfl eu2 rfl (Nat.le_of_ble_eq_true rfl) (d1 := d - 1) (b1 := 0 + bc) (s1 := 0 + bs) (bc' := 0) (bs' := 0) (Q1 := fun r h9 => r = tq_enI ((.inl "java/lang/IndexOutOfBoundsException", w3) : (String ⊕ Int32) × tq_H).1 ∧ ((.inl "java/lang/IndexOutOfBoundsException", w3) : (String ⊕ Int32) × tq_H).2 = h9) (by omega) (by omega) (by omega) (w_X10_types (bc := bc) (bs := bs) (by omega) ev1 (fun _ _ _ => hb9) (fun _ _ q => q)) (fun E h9 q => ?_) (fun r9 h9 q => nomatch (show (Sum.inl r9 : tq_R) = Sum.inr _ from q.1))
      obtain ⟨q1, rfl⟩ := q
      cases (show (Sum.inr E : tq_R) = Sum.inr "java/lang/IndexOutOfBoundsException" from q1)
      refine tq_catch (M := mL_types) (pc := 2) (name := "java/lang/IndexOutOfBoundsException") [] ⟨0, 5, 6, 13⟩ [] rfl tk_pass_L_types_0 (by decide) (by decide) tk_RL_13 tk_cast_IndexOutOfBoundsException ?_
      refine tq_xstore_n (M := mL_types) (pc := 6) rfl dL_types_6 (L2 := [(2, .float 0), (0, .ref a0), (1, .int a1)]) (by decide) rfl ?_
      refine tq_ldc (M := mL_types) (pc := 7) dL_types_7 tk_RL_15 ?_
      refine tq_iret (M := mL_types) (pc := 9) dL_types_9 rfl ?_
      cases (Option.some.inj hf)
      exact hQ _ _ ⟨rfl, rfl⟩
    have hf := tq_ifn hf c0
    cases hf
  · refine tq_calV (M := mL_types) (pc := 2) (S := []) tk_y_X10_types tk_v_X10_types tk_RL_127 dL_types_2 [.int a1] rfl (S0 := _) rfl eu2 rfl (Nat.le_of_ble_eq_true rfl) (d1 := d - 1) (b1 := 0 + 0) (s1 := 0 + 0) (bc' := bc) (bs' := bs) (Q1 := fun r h9 => r = tq_enI ((.inr v4, w3) : (String ⊕ Int32) × tq_H).1 ∧ ((.inr v4, w3) : (String ⊕ Int32) × tq_H).2 = h9) (by omega) (by omega) (by omega) (w_X10_types (bc := 0) (bs := 0) (by omega) ev1 (fun E g z => by cases z) (fun _ _ q => q)) (fun E h9 q => nomatch (show (Sum.inr E : tq_R) = Sum.inl _ from q.1)) (fun r9 h9 q => ?_)
    obtain ⟨q1, rfl⟩ := q
    cases (show (Sum.inl r9 : tq_R) = Sum.inl (some (.int v4)) from q1)
    refine tq_iret (M := mL_types) (pc := 5) dL_types_5 rfl ?_
    cases (Option.some.inj hf)
    exact hQ _ _ ⟨rfl, rfl⟩
abbrev mL_infer : tq_M := (RL, cL_infer, 3, (some .int), false, [(0, 5, 6, 13)], none)
def f_L_infer (a0 : Nat) (a1 : Int32) (h : tq_H) : Option (Int32 × tq_H) :=
  (tq_is h a0 10).bind fun _ =>
  (f_X10_infer a0 a1 h).bind fun v1 => match v1 with
  | (.inl E1, w3) =>
    if E1 = "java/lang/IndexOutOfBoundsException" then
      some ((-2000000001 : Int32), w3)
    else
      none
  | (.inr v4, w3) =>
    some (v4, w3)
set_option maxHeartbeats 4000000 in
set_option maxRecDepth 20000 in
theorem w_L_infer {l : Launch} {d : Nat} (hd9 : 8 ≤ d) {a0 : Nat} {a1 : Int32} {bc bs : Nat} {h : tq_H} {o : Int32 × tq_H} {Q : tq_R → tq_H → Prop} (hf : f_L_infer a0 a1 h = some o) (hb : ∀ E g, f_X10_infer a0 a1 h = some (.inl E, g) → 1 ≤ bc ∧ 6 ≤ bs) (hQ : ∀ r h9, r = .inl (some (.int o.1)) ∧ o.2 = h9 → Q r h9) : tq_CW l yL_infer cL_infer 3 (some .int) [(0, 5, 6, 13)] d (0 + bc) (0 + bs) [.ref a0, .int a1] h Q := by
  refine tq_bodyW (y := yL_infer) (by decide +kernel) (Nat.le_of_ble_eq_true rfl) ?_
  show tq_W l mL_infer d (0 + bc) (0 + bs) Q 0 [(0, .ref a0), (1, .int a1)] [] h
  refine tq_more (bc := bc) (bs := bs) (by omega) (by omega) ?_
  refine tq_aload_n (M := mL_infer) (pc := 0) dL_infer_0 rfl ?_
  refine tq_iload_n (M := mL_infer) (pc := 1) dL_infer_1 rfl ?_
  obtain ⟨⟨⟩, eu2, hf⟩ := tq_be hf
  obtain ⟨fsu2, eu2⟩ := tq_is_s eu2
  obtain ⟨⟨E1 | v4, w3⟩, ev1, hf⟩ := tq_be hf
  · skip
    by_cases c0 : E1 = "java/lang/IndexOutOfBoundsException"
    · have hf := tq_ifp hf c0
      subst c0
      have hb9 := hb _ _ ev1
      refine tq_calV (M := mL_infer) (pc := 2) (S := []) tk_y_X10_infer tk_v_X10_infer tk_RL_130 dL_infer_2 [.int a1] rfl (S0 := _) rfl eu2 rfl (Nat.le_of_ble_eq_true rfl) (d1 := d - 1) (b1 := 0 + bc) (s1 := 0 + bs) (bc' := 0) (bs' := 0) (Q1 := fun r h9 => r = tq_enI ((.inl "java/lang/IndexOutOfBoundsException", w3) : (String ⊕ Int32) × tq_H).1 ∧ ((.inl "java/lang/IndexOutOfBoundsException", w3) : (String ⊕ Int32) × tq_H).2 = h9) (by omega) (by omega) (by omega) (w_X10_infer (bc := bc) (bs := bs) (by omega) ev1 (fun _ _ _ => hb9) (fun _ _ q => q)) (fun E h9 q => ?_) (fun r9 h9 q => nomatch (show (Sum.inl r9 : tq_R) = Sum.inr _ from q.1))
      obtain ⟨q1, rfl⟩ := q
      cases (show (Sum.inr E : tq_R) = Sum.inr "java/lang/IndexOutOfBoundsException" from q1)
      refine tq_catch (M := mL_infer) (pc := 2) (name := "java/lang/IndexOutOfBoundsException") [] ⟨0, 5, 6, 13⟩ [] rfl tk_pass_L_infer_0 (by decide) (by decide) tk_RL_13 tk_cast_IndexOutOfBoundsException ?_
      refine tq_xstore_n (M := mL_infer) (pc := 6) rfl dL_infer_6 (L2 := [(2, .float 0), (0, .ref a0), (1, .int a1)]) (by decide) rfl ?_
      refine tq_ldc (M := mL_infer) (pc := 7) dL_infer_7 tk_RL_15 ?_
      refine tq_iret (M := mL_infer) (pc := 9) dL_infer_9 rfl ?_
      cases (Option.some.inj hf)
      exact hQ _ _ ⟨rfl, rfl⟩
    have hf := tq_ifn hf c0
    cases hf
  · refine tq_calV (M := mL_infer) (pc := 2) (S := []) tk_y_X10_infer tk_v_X10_infer tk_RL_130 dL_infer_2 [.int a1] rfl (S0 := _) rfl eu2 rfl (Nat.le_of_ble_eq_true rfl) (d1 := d - 1) (b1 := 0 + 0) (s1 := 0 + 0) (bc' := bc) (bs' := bs) (Q1 := fun r h9 => r = tq_enI ((.inr v4, w3) : (String ⊕ Int32) × tq_H).1 ∧ ((.inr v4, w3) : (String ⊕ Int32) × tq_H).2 = h9) (by omega) (by omega) (by omega) (w_X10_infer (bc := 0) (bs := 0) (by omega) ev1 (fun E g z => by cases z) (fun _ _ q => q)) (fun E h9 q => nomatch (show (Sum.inr E : tq_R) = Sum.inl _ from q.1)) (fun r9 h9 q => ?_)
    obtain ⟨q1, rfl⟩ := q
    cases (show (Sum.inl r9 : tq_R) = Sum.inl (some (.int v4)) from q1)
    refine tq_iret (M := mL_infer) (pc := 5) dL_infer_5 rfl ?_
    cases (Option.some.inj hf)
    exact hQ _ _ ⟨rfl, rfl⟩
abbrev mL_index : tq_M := (RL, cL_index, 3, (some .int), false, [(0, 13, 14, 16)], none)
def f_L_index (a0 : Nat) (a1 : Int32) (h : tq_H) : Option (Int32 × tq_H) :=
  (tq_is h a0 10).bind fun _ =>
  (f_X10_index a0 a1 h).bind fun v1 => match v1 with
  | (.inl E1, w3) =>
    if E1 = "java/lang/IllegalArgumentException" then
      some ((-2000000002 : Int32), w3)
    else
      none
  | (.inr v4, w3) =>
    tq_let (if v4 = 0 then (0 : Int32) else (1 : Int32)) fun p5 =>
    some (p5, w3)
set_option maxHeartbeats 4000000 in
set_option maxRecDepth 20000 in
theorem w_L_index {l : Launch} {d : Nat} (hd9 : 8 ≤ d) {a0 : Nat} {a1 : Int32} {bc bs : Nat} {h : tq_H} {o : Int32 × tq_H} {Q : tq_R → tq_H → Prop} (hf : f_L_index a0 a1 h = some o) (hb : ∀ E g, f_X10_index a0 a1 h = some (.inl E, g) → 1 ≤ bc ∧ 6 ≤ bs) (hQ : ∀ r h9, r = .inl (some (.int o.1)) ∧ o.2 = h9 → Q r h9) : tq_CW l yL_index cL_index 3 (some .int) [(0, 13, 14, 16)] d (0 + bc) (0 + bs) [.ref a0, .int a1] h Q := by
  refine tq_bodyW (y := yL_index) (by decide +kernel) (Nat.le_of_ble_eq_true rfl) ?_
  show tq_W l mL_index d (0 + bc) (0 + bs) Q 0 [(0, .ref a0), (1, .int a1)] [] h
  refine tq_more (bc := bc) (bs := bs) (by omega) (by omega) ?_
  refine tq_aload_n (M := mL_index) (pc := 0) dL_index_0 rfl ?_
  refine tq_iload_n (M := mL_index) (pc := 1) dL_index_1 rfl ?_
  obtain ⟨⟨⟩, eu2, hf⟩ := tq_be hf
  obtain ⟨fsu2, eu2⟩ := tq_is_s eu2
  obtain ⟨⟨E1 | v4, w3⟩, ev1, hf⟩ := tq_be hf
  · skip
    by_cases c0 : E1 = "java/lang/IllegalArgumentException"
    · have hf := tq_ifp hf c0
      subst c0
      have hb9 := hb _ _ ev1
      refine tq_calV (M := mL_index) (pc := 2) (S := []) tk_y_X10_index tk_v_X10_index tk_RL_133 dL_index_2 [.int a1] rfl (S0 := _) rfl eu2 rfl (Nat.le_of_ble_eq_true rfl) (d1 := d - 1) (b1 := 0 + bc) (s1 := 0 + bs) (bc' := 0) (bs' := 0) (Q1 := fun r h9 => r = tq_enI ((.inl "java/lang/IllegalArgumentException", w3) : (String ⊕ Int32) × tq_H).1 ∧ ((.inl "java/lang/IllegalArgumentException", w3) : (String ⊕ Int32) × tq_H).2 = h9) (by omega) (by omega) (by omega) (w_X10_index (bc := bc) (bs := bs) (by omega) ev1 (fun _ _ _ => hb9) (fun _ _ q => q)) (fun E h9 q => ?_) (fun r9 h9 q => nomatch (show (Sum.inl r9 : tq_R) = Sum.inr _ from q.1))
      obtain ⟨q1, rfl⟩ := q
      cases (show (Sum.inr E : tq_R) = Sum.inr "java/lang/IllegalArgumentException" from q1)
      refine tq_catch (M := mL_index) (pc := 2) (name := "java/lang/IllegalArgumentException") [] ⟨0, 13, 14, 16⟩ [] rfl tk_pass_L_index_0 (by decide) (by decide) tk_RL_16 tk_cast_IllegalArgumentException ?_
      refine tq_xstore_n (M := mL_index) (pc := 14) rfl dL_index_14 (L2 := [(2, .float 0), (0, .ref a0), (1, .int a1)]) (by decide) rfl ?_
      refine tq_ldc (M := mL_index) (pc := 15) dL_index_15 tk_RL_18 ?_
      refine tq_iret (M := mL_index) (pc := 17) dL_index_17 rfl ?_
      cases (Option.some.inj hf)
      exact hQ _ _ ⟨rfl, rfl⟩
    have hf := tq_ifn hf c0
    cases hf
  · refine tq_calV (M := mL_index) (pc := 2) (S := []) tk_y_X10_index tk_v_X10_index tk_RL_133 dL_index_2 [.int a1] rfl (S0 := _) rfl eu2 rfl (Nat.le_of_ble_eq_true rfl) (d1 := d - 1) (b1 := 0 + 0) (s1 := 0 + 0) (bc' := bc) (bs' := bs) (Q1 := fun r h9 => r = tq_enI ((.inr v4, w3) : (String ⊕ Int32) × tq_H).1 ∧ ((.inr v4, w3) : (String ⊕ Int32) × tq_H).2 = h9) (by omega) (by omega) (by omega) (w_X10_index (bc := 0) (bs := 0) (by omega) ev1 (fun E g z => by cases z) (fun _ _ q => q)) (fun E h9 q => nomatch (show (Sum.inr E : tq_R) = Sum.inl _ from q.1)) (fun r9 h9 q => ?_)
    obtain ⟨q1, rfl⟩ := q
    cases (show (Sum.inl r9 : tq_R) = Sum.inl (some (.int v4)) from q1)
    obtain ⟨p5, ep5, hf⟩ := tq_le hf
    have HJ5 : tq_W l mL_index d bc bs Q 13 [] [.int p5] w3 := by
      refine tq_iret (M := mL_index) (pc := 13) dL_index_13 rfl ?_
      cases (Option.some.inj hf)
      exact hQ _ _ ⟨rfl, rfl⟩
    refine tq_if_eq (M := mL_index) (pc := 5) (tgt := 12) dL_index_5 (by decide) (fun cc => ?_) (fun cc => ?_)
    · have hf := tq_ifp ep5.symm cc
      refine tq_iconst (M := mL_index) (pc := 12) dL_index_12 tk_ki_0 ?_
      refine tq_pick (L2 := []) [] rfl ?_
      cases hf
      exact HJ5
    · have hf := tq_ifn ep5.symm cc
      refine tq_iconst (M := mL_index) (pc := 8) dL_index_8 tk_ki_1 ?_
      refine tq_goto (M := mL_index) (pc := 9) (tgt := 13) dL_index_9 (by decide) ?_
      refine tq_pick (L2 := []) [] rfl ?_
      cases hf
      exact HJ5
abbrev mL_plan : tq_M := (RL, cL_plan, 3, (some .int), false, [(0, 5, 6, 13)], none)
def f_L_plan (a0 : Nat) (a1 : Int32) (h : tq_H) : Option (Int32 × tq_H) :=
  (tq_is h a0 10).bind fun _ =>
  (f_X10_plan a0 a1 h).bind fun v1 => match v1 with
  | (.inl E1, w3) =>
    if E1 = "java/lang/IndexOutOfBoundsException" then
      some ((-2000000001 : Int32), w3)
    else
      none
  | (.inr v4, w3) =>
    some (v4, w3)
set_option maxHeartbeats 4000000 in
set_option maxRecDepth 20000 in
theorem w_L_plan {l : Launch} {d : Nat} (hd9 : 8 ≤ d) {a0 : Nat} {a1 : Int32} {bc bs : Nat} {h : tq_H} {o : Int32 × tq_H} {Q : tq_R → tq_H → Prop} (hf : f_L_plan a0 a1 h = some o) (hb : ∀ E g, f_X10_plan a0 a1 h = some (.inl E, g) → 1 ≤ bc ∧ 6 ≤ bs) (hQ : ∀ r h9, r = .inl (some (.int o.1)) ∧ o.2 = h9 → Q r h9) : tq_CW l yL_plan cL_plan 3 (some .int) [(0, 5, 6, 13)] d (0 + bc) (0 + bs) [.ref a0, .int a1] h Q := by
  refine tq_bodyW (y := yL_plan) (by decide +kernel) (Nat.le_of_ble_eq_true rfl) ?_
  show tq_W l mL_plan d (0 + bc) (0 + bs) Q 0 [(0, .ref a0), (1, .int a1)] [] h
  refine tq_more (bc := bc) (bs := bs) (by omega) (by omega) ?_
  refine tq_aload_n (M := mL_plan) (pc := 0) dL_plan_0 rfl ?_
  refine tq_iload_n (M := mL_plan) (pc := 1) dL_plan_1 rfl ?_
  obtain ⟨⟨⟩, eu2, hf⟩ := tq_be hf
  obtain ⟨fsu2, eu2⟩ := tq_is_s eu2
  obtain ⟨⟨E1 | v4, w3⟩, ev1, hf⟩ := tq_be hf
  · skip
    by_cases c0 : E1 = "java/lang/IndexOutOfBoundsException"
    · have hf := tq_ifp hf c0
      subst c0
      have hb9 := hb _ _ ev1
      refine tq_calV (M := mL_plan) (pc := 2) (S := []) tk_y_X10_plan tk_v_X10_plan tk_RL_137 dL_plan_2 [.int a1] rfl (S0 := _) rfl eu2 rfl (Nat.le_of_ble_eq_true rfl) (d1 := d - 1) (b1 := 0 + bc) (s1 := 0 + bs) (bc' := 0) (bs' := 0) (Q1 := fun r h9 => r = tq_enI ((.inl "java/lang/IndexOutOfBoundsException", w3) : (String ⊕ Int32) × tq_H).1 ∧ ((.inl "java/lang/IndexOutOfBoundsException", w3) : (String ⊕ Int32) × tq_H).2 = h9) (by omega) (by omega) (by omega) (w_X10_plan (bc := bc) (bs := bs) (by omega) ev1 (fun _ _ _ => hb9) (fun _ _ q => q)) (fun E h9 q => ?_) (fun r9 h9 q => nomatch (show (Sum.inl r9 : tq_R) = Sum.inr _ from q.1))
      obtain ⟨q1, rfl⟩ := q
      cases (show (Sum.inr E : tq_R) = Sum.inr "java/lang/IndexOutOfBoundsException" from q1)
      refine tq_catch (M := mL_plan) (pc := 2) (name := "java/lang/IndexOutOfBoundsException") [] ⟨0, 5, 6, 13⟩ [] rfl tk_pass_L_plan_0 (by decide) (by decide) tk_RL_13 tk_cast_IndexOutOfBoundsException ?_
      refine tq_xstore_n (M := mL_plan) (pc := 6) rfl dL_plan_6 (L2 := [(2, .float 0), (0, .ref a0), (1, .int a1)]) (by decide) rfl ?_
      refine tq_ldc (M := mL_plan) (pc := 7) dL_plan_7 tk_RL_15 ?_
      refine tq_iret (M := mL_plan) (pc := 9) dL_plan_9 rfl ?_
      cases (Option.some.inj hf)
      exact hQ _ _ ⟨rfl, rfl⟩
    have hf := tq_ifn hf c0
    cases hf
  · refine tq_calV (M := mL_plan) (pc := 2) (S := []) tk_y_X10_plan tk_v_X10_plan tk_RL_137 dL_plan_2 [.int a1] rfl (S0 := _) rfl eu2 rfl (Nat.le_of_ble_eq_true rfl) (d1 := d - 1) (b1 := 0 + 0) (s1 := 0 + 0) (bc' := bc) (bs' := bs) (Q1 := fun r h9 => r = tq_enI ((.inr v4, w3) : (String ⊕ Int32) × tq_H).1 ∧ ((.inr v4, w3) : (String ⊕ Int32) × tq_H).2 = h9) (by omega) (by omega) (by omega) (w_X10_plan (bc := 0) (bs := 0) (by omega) ev1 (fun E g z => by cases z) (fun _ _ q => q)) (fun E h9 q => nomatch (show (Sum.inr E : tq_R) = Sum.inl _ from q.1)) (fun r9 h9 q => ?_)
    obtain ⟨q1, rfl⟩ := q
    cases (show (Sum.inl r9 : tq_R) = Sum.inl (some (.int v4)) from q1)
    refine tq_iret (M := mL_plan) (pc := 5) dL_plan_5 rfl ?_
    cases (Option.some.inj hf)
    exact hQ _ _ ⟨rfl, rfl⟩
abbrev mL_view : tq_M := (RL, cL_view, 3, (some .int), false, [(0, 5, 6, 13), (0, 5, 10, 19)], none)
def f_L_view (a0 : Nat) (a1 : Int32) (h : tq_H) : Option (Int32 × tq_H) :=
  (tq_is h a0 10).bind fun _ =>
  (f_X10_view a0 a1 h).bind fun v1 => match v1 with
  | (.inl E1, w3) =>
    if E1 = "java/lang/IndexOutOfBoundsException" then
      some ((-2000000001 : Int32), w3)
    else
      if E1 = "java/lang/IllegalStateException" then
        some ((-2000000003 : Int32), w3)
      else
        none
  | (.inr v4, w3) =>
    some (v4, w3)
set_option maxHeartbeats 4000000 in
set_option maxRecDepth 20000 in
theorem w_L_view {l : Launch} {d : Nat} (hd9 : 8 ≤ d) {a0 : Nat} {a1 : Int32} {bc bs : Nat} {h : tq_H} {o : Int32 × tq_H} {Q : tq_R → tq_H → Prop} (hf : f_L_view a0 a1 h = some o) (hb : ∀ E g, f_X10_view a0 a1 h = some (.inl E, g) → 1 ≤ bc ∧ 6 ≤ bs) (hQ : ∀ r h9, r = .inl (some (.int o.1)) ∧ o.2 = h9 → Q r h9) : tq_CW l yL_view cL_view 3 (some .int) [(0, 5, 6, 13), (0, 5, 10, 19)] d (0 + bc) (0 + bs) [.ref a0, .int a1] h Q := by
  refine tq_bodyW (y := yL_view) (by decide +kernel) (Nat.le_of_ble_eq_true rfl) ?_
  show tq_W l mL_view d (0 + bc) (0 + bs) Q 0 [(0, .ref a0), (1, .int a1)] [] h
  refine tq_more (bc := bc) (bs := bs) (by omega) (by omega) ?_
  refine tq_aload_n (M := mL_view) (pc := 0) dL_view_0 rfl ?_
  refine tq_iload_n (M := mL_view) (pc := 1) dL_view_1 rfl ?_
  obtain ⟨⟨⟩, eu2, hf⟩ := tq_be hf
  obtain ⟨fsu2, eu2⟩ := tq_is_s eu2
  obtain ⟨⟨E1 | v4, w3⟩, ev1, hf⟩ := tq_be hf
  · skip
    by_cases c0 : E1 = "java/lang/IndexOutOfBoundsException"
    · have hf := tq_ifp hf c0
      subst c0
      have hb9 := hb _ _ ev1
      refine tq_calV (M := mL_view) (pc := 2) (S := []) tk_y_X10_view tk_v_X10_view tk_RL_140 dL_view_2 [.int a1] rfl (S0 := _) rfl eu2 rfl (Nat.le_of_ble_eq_true rfl) (d1 := d - 1) (b1 := 0 + bc) (s1 := 0 + bs) (bc' := 0) (bs' := 0) (Q1 := fun r h9 => r = tq_enI ((.inl "java/lang/IndexOutOfBoundsException", w3) : (String ⊕ Int32) × tq_H).1 ∧ ((.inl "java/lang/IndexOutOfBoundsException", w3) : (String ⊕ Int32) × tq_H).2 = h9) (by omega) (by omega) (by omega) (w_X10_view (bc := bc) (bs := bs) (by omega) ev1 (fun _ _ _ => hb9) (fun _ _ q => q)) (fun E h9 q => ?_) (fun r9 h9 q => nomatch (show (Sum.inl r9 : tq_R) = Sum.inr _ from q.1))
      obtain ⟨q1, rfl⟩ := q
      cases (show (Sum.inr E : tq_R) = Sum.inr "java/lang/IndexOutOfBoundsException" from q1)
      refine tq_catch (M := mL_view) (pc := 2) (name := "java/lang/IndexOutOfBoundsException") [] ⟨0, 5, 6, 13⟩ [⟨0, 5, 10, 19⟩] rfl tk_pass_L_view_0 (by decide) (by decide) tk_RL_13 tk_cast_IndexOutOfBoundsException ?_
      refine tq_xstore_n (M := mL_view) (pc := 6) rfl dL_view_6 (L2 := [(2, .float 0), (0, .ref a0), (1, .int a1)]) (by decide) rfl ?_
      refine tq_ldc (M := mL_view) (pc := 7) dL_view_7 tk_RL_15 ?_
      refine tq_iret (M := mL_view) (pc := 9) dL_view_9 rfl ?_
      cases (Option.some.inj hf)
      exact hQ _ _ ⟨rfl, rfl⟩
    have hf := tq_ifn hf c0
    by_cases c1 : E1 = "java/lang/IllegalStateException"
    · have hf := tq_ifp hf c1
      subst c1
      have hb9 := hb _ _ ev1
      refine tq_calV (M := mL_view) (pc := 2) (S := []) tk_y_X10_view tk_v_X10_view tk_RL_140 dL_view_2 [.int a1] rfl (S0 := _) rfl eu2 rfl (Nat.le_of_ble_eq_true rfl) (d1 := d - 1) (b1 := 0 + bc) (s1 := 0 + bs) (bc' := 0) (bs' := 0) (Q1 := fun r h9 => r = tq_enI ((.inl "java/lang/IllegalStateException", w3) : (String ⊕ Int32) × tq_H).1 ∧ ((.inl "java/lang/IllegalStateException", w3) : (String ⊕ Int32) × tq_H).2 = h9) (by omega) (by omega) (by omega) (w_X10_view (bc := bc) (bs := bs) (by omega) ev1 (fun _ _ _ => hb9) (fun _ _ q => q)) (fun E h9 q => ?_) (fun r9 h9 q => nomatch (show (Sum.inl r9 : tq_R) = Sum.inr _ from q.1))
      obtain ⟨q1, rfl⟩ := q
      cases (show (Sum.inr E : tq_R) = Sum.inr "java/lang/IllegalStateException" from q1)
      refine tq_catch (M := mL_view) (pc := 2) (name := "java/lang/IllegalStateException") [⟨0, 5, 6, 13⟩] ⟨0, 5, 10, 19⟩ [] rfl tk_pass_L_view_1 (by decide) (by decide) tk_RL_19 tk_cast_IllegalStateException ?_
      refine tq_xstore_n (M := mL_view) (pc := 10) rfl dL_view_10 (L2 := [(2, .float 0), (0, .ref a0), (1, .int a1)]) (by decide) rfl ?_
      refine tq_ldc (M := mL_view) (pc := 11) dL_view_11 tk_RL_21 ?_
      refine tq_iret (M := mL_view) (pc := 13) dL_view_13 rfl ?_
      cases (Option.some.inj hf)
      exact hQ _ _ ⟨rfl, rfl⟩
    have hf := tq_ifn hf c1
    cases hf
  · refine tq_calV (M := mL_view) (pc := 2) (S := []) tk_y_X10_view tk_v_X10_view tk_RL_140 dL_view_2 [.int a1] rfl (S0 := _) rfl eu2 rfl (Nat.le_of_ble_eq_true rfl) (d1 := d - 1) (b1 := 0 + 0) (s1 := 0 + 0) (bc' := bc) (bs' := bs) (Q1 := fun r h9 => r = tq_enI ((.inr v4, w3) : (String ⊕ Int32) × tq_H).1 ∧ ((.inr v4, w3) : (String ⊕ Int32) × tq_H).2 = h9) (by omega) (by omega) (by omega) (w_X10_view (bc := 0) (bs := 0) (by omega) ev1 (fun E g z => by cases z) (fun _ _ q => q)) (fun E h9 q => nomatch (show (Sum.inr E : tq_R) = Sum.inl _ from q.1)) (fun r9 h9 q => ?_)
    obtain ⟨q1, rfl⟩ := q
    cases (show (Sum.inl r9 : tq_R) = Sum.inl (some (.int v4)) from q1)
    refine tq_iret (M := mL_view) (pc := 5) dL_view_5 rfl ?_
    cases (Option.some.inj hf)
    exact hQ _ _ ⟨rfl, rfl⟩
abbrev mL_viewed : tq_M := (RL, cL_viewed, 4, (some .int), false, [(0, 6, 7, 13)], none)
def f_L_viewed (a0 : Nat) (a1 : Int32) (a2 : Int32) (h : tq_H) : Option (Int32 × tq_H) :=
  (tq_is h a0 10).bind fun _ =>
  (f_X10_viewed a0 a1 a2 h).bind fun v1 => match v1 with
  | (.inl E1, w3) =>
    if E1 = "java/lang/IndexOutOfBoundsException" then
      some ((-2000000001 : Int32), w3)
    else
      none
  | (.inr v4, w3) =>
    some (v4, w3)
set_option maxHeartbeats 4000000 in
set_option maxRecDepth 20000 in
theorem w_L_viewed {l : Launch} {d : Nat} (hd9 : 8 ≤ d) {a0 : Nat} {a1 : Int32} {a2 : Int32} {bc bs : Nat} {h : tq_H} {o : Int32 × tq_H} {Q : tq_R → tq_H → Prop} (hf : f_L_viewed a0 a1 a2 h = some o) (hb : ∀ E g, f_X10_viewed a0 a1 a2 h = some (.inl E, g) → 1 ≤ bc ∧ 6 ≤ bs) (hQ : ∀ r h9, r = .inl (some (.int o.1)) ∧ o.2 = h9 → Q r h9) : tq_CW l yL_viewed cL_viewed 4 (some .int) [(0, 6, 7, 13)] d (0 + bc) (0 + bs) [.ref a0, .int a1, .int a2] h Q := by
  refine tq_bodyW (y := yL_viewed) (by decide +kernel) (Nat.le_of_ble_eq_true rfl) ?_
  show tq_W l mL_viewed d (0 + bc) (0 + bs) Q 0 [(0, .ref a0), (1, .int a1), (2, .int a2)] [] h
  refine tq_more (bc := bc) (bs := bs) (by omega) (by omega) ?_
  refine tq_aload_n (M := mL_viewed) (pc := 0) dL_viewed_0 rfl ?_
  refine tq_iload_n (M := mL_viewed) (pc := 1) dL_viewed_1 rfl ?_
  refine tq_iload_n (M := mL_viewed) (pc := 2) dL_viewed_2 rfl ?_
  obtain ⟨⟨⟩, eu2, hf⟩ := tq_be hf
  obtain ⟨fsu2, eu2⟩ := tq_is_s eu2
  obtain ⟨⟨E1 | v4, w3⟩, ev1, hf⟩ := tq_be hf
  · skip
    by_cases c0 : E1 = "java/lang/IndexOutOfBoundsException"
    · have hf := tq_ifp hf c0
      subst c0
      have hb9 := hb _ _ ev1
      refine tq_calV (M := mL_viewed) (pc := 3) (S := []) tk_y_X10_viewed tk_v_X10_viewed tk_RL_143 dL_viewed_3 [.int a1, .int a2] rfl (S0 := _) rfl eu2 rfl (Nat.le_of_ble_eq_true rfl) (d1 := d - 1) (b1 := 0 + bc) (s1 := 0 + bs) (bc' := 0) (bs' := 0) (Q1 := fun r h9 => r = tq_enI ((.inl "java/lang/IndexOutOfBoundsException", w3) : (String ⊕ Int32) × tq_H).1 ∧ ((.inl "java/lang/IndexOutOfBoundsException", w3) : (String ⊕ Int32) × tq_H).2 = h9) (by omega) (by omega) (by omega) (w_X10_viewed (bc := bc) (bs := bs) (by omega) ev1 (fun _ _ _ => hb9) (fun _ _ q => q)) (fun E h9 q => ?_) (fun r9 h9 q => nomatch (show (Sum.inl r9 : tq_R) = Sum.inr _ from q.1))
      obtain ⟨q1, rfl⟩ := q
      cases (show (Sum.inr E : tq_R) = Sum.inr "java/lang/IndexOutOfBoundsException" from q1)
      refine tq_catch (M := mL_viewed) (pc := 3) (name := "java/lang/IndexOutOfBoundsException") [] ⟨0, 6, 7, 13⟩ [] rfl tk_pass_L_viewed_0 (by decide) (by decide) tk_RL_13 tk_cast_IndexOutOfBoundsException ?_
      refine tq_xstore_n (M := mL_viewed) (pc := 7) rfl dL_viewed_7 (L2 := [(3, .float 0), (0, .ref a0), (1, .int a1), (2, .int a2)]) (by decide) rfl ?_
      refine tq_ldc (M := mL_viewed) (pc := 8) dL_viewed_8 tk_RL_15 ?_
      refine tq_iret (M := mL_viewed) (pc := 10) dL_viewed_10 rfl ?_
      cases (Option.some.inj hf)
      exact hQ _ _ ⟨rfl, rfl⟩
    have hf := tq_ifn hf c0
    cases hf
  · refine tq_calV (M := mL_viewed) (pc := 3) (S := []) tk_y_X10_viewed tk_v_X10_viewed tk_RL_143 dL_viewed_3 [.int a1, .int a2] rfl (S0 := _) rfl eu2 rfl (Nat.le_of_ble_eq_true rfl) (d1 := d - 1) (b1 := 0 + 0) (s1 := 0 + 0) (bc' := bc) (bs' := bs) (Q1 := fun r h9 => r = tq_enI ((.inr v4, w3) : (String ⊕ Int32) × tq_H).1 ∧ ((.inr v4, w3) : (String ⊕ Int32) × tq_H).2 = h9) (by omega) (by omega) (by omega) (w_X10_viewed (bc := 0) (bs := 0) (by omega) ev1 (fun E g z => by cases z) (fun _ _ q => q)) (fun E h9 q => nomatch (show (Sum.inr E : tq_R) = Sum.inl _ from q.1)) (fun r9 h9 q => ?_)
    obtain ⟨q1, rfl⟩ := q
    cases (show (Sum.inl r9 : tq_R) = Sum.inl (some (.int v4)) from q1)
    refine tq_iret (M := mL_viewed) (pc := 6) dL_viewed_6 rfl ?_
    cases (Option.some.inj hf)
    exact hQ _ _ ⟨rfl, rfl⟩
abbrev mL_changed : tq_M := (RL, cL_changed, 3, (some .int), false, [(0, 5, 6, 13)], none)
def f_L_changed (a0 : Nat) (a1 : Int32) (h : tq_H) : Option (Int32 × tq_H) :=
  (tq_is h a0 10).bind fun _ =>
  (f_X10_changed a0 a1 h).bind fun v1 => match v1 with
  | (.inl E1, w3) =>
    if E1 = "java/lang/IndexOutOfBoundsException" then
      some ((-2000000001 : Int32), w3)
    else
      none
  | (.inr v4, w3) =>
    some (v4, w3)
set_option maxHeartbeats 4000000 in
set_option maxRecDepth 20000 in
theorem w_L_changed {l : Launch} {d : Nat} (hd9 : 8 ≤ d) {a0 : Nat} {a1 : Int32} {bc bs : Nat} {h : tq_H} {o : Int32 × tq_H} {Q : tq_R → tq_H → Prop} (hf : f_L_changed a0 a1 h = some o) (hb : ∀ E g, f_X10_changed a0 a1 h = some (.inl E, g) → 1 ≤ bc ∧ 6 ≤ bs) (hQ : ∀ r h9, r = .inl (some (.int o.1)) ∧ o.2 = h9 → Q r h9) : tq_CW l yL_changed cL_changed 3 (some .int) [(0, 5, 6, 13)] d (0 + bc) (0 + bs) [.ref a0, .int a1] h Q := by
  refine tq_bodyW (y := yL_changed) (by decide +kernel) (Nat.le_of_ble_eq_true rfl) ?_
  show tq_W l mL_changed d (0 + bc) (0 + bs) Q 0 [(0, .ref a0), (1, .int a1)] [] h
  refine tq_more (bc := bc) (bs := bs) (by omega) (by omega) ?_
  refine tq_aload_n (M := mL_changed) (pc := 0) dL_changed_0 rfl ?_
  refine tq_iload_n (M := mL_changed) (pc := 1) dL_changed_1 rfl ?_
  obtain ⟨⟨⟩, eu2, hf⟩ := tq_be hf
  obtain ⟨fsu2, eu2⟩ := tq_is_s eu2
  obtain ⟨⟨E1 | v4, w3⟩, ev1, hf⟩ := tq_be hf
  · skip
    by_cases c0 : E1 = "java/lang/IndexOutOfBoundsException"
    · have hf := tq_ifp hf c0
      subst c0
      have hb9 := hb _ _ ev1
      refine tq_calV (M := mL_changed) (pc := 2) (S := []) tk_y_X10_changed tk_v_X10_changed tk_RL_146 dL_changed_2 [.int a1] rfl (S0 := _) rfl eu2 rfl (Nat.le_of_ble_eq_true rfl) (d1 := d - 1) (b1 := 0 + bc) (s1 := 0 + bs) (bc' := 0) (bs' := 0) (Q1 := fun r h9 => r = tq_enI ((.inl "java/lang/IndexOutOfBoundsException", w3) : (String ⊕ Int32) × tq_H).1 ∧ ((.inl "java/lang/IndexOutOfBoundsException", w3) : (String ⊕ Int32) × tq_H).2 = h9) (by omega) (by omega) (by omega) (w_X10_changed (bc := bc) (bs := bs) (by omega) ev1 (fun _ _ _ => hb9) (fun _ _ q => q)) (fun E h9 q => ?_) (fun r9 h9 q => nomatch (show (Sum.inl r9 : tq_R) = Sum.inr _ from q.1))
      obtain ⟨q1, rfl⟩ := q
      cases (show (Sum.inr E : tq_R) = Sum.inr "java/lang/IndexOutOfBoundsException" from q1)
      refine tq_catch (M := mL_changed) (pc := 2) (name := "java/lang/IndexOutOfBoundsException") [] ⟨0, 5, 6, 13⟩ [] rfl tk_pass_L_changed_0 (by decide) (by decide) tk_RL_13 tk_cast_IndexOutOfBoundsException ?_
      refine tq_xstore_n (M := mL_changed) (pc := 6) rfl dL_changed_6 (L2 := [(2, .float 0), (0, .ref a0), (1, .int a1)]) (by decide) rfl ?_
      refine tq_ldc (M := mL_changed) (pc := 7) dL_changed_7 tk_RL_15 ?_
      refine tq_iret (M := mL_changed) (pc := 9) dL_changed_9 rfl ?_
      cases (Option.some.inj hf)
      exact hQ _ _ ⟨rfl, rfl⟩
    have hf := tq_ifn hf c0
    cases hf
  · refine tq_calV (M := mL_changed) (pc := 2) (S := []) tk_y_X10_changed tk_v_X10_changed tk_RL_146 dL_changed_2 [.int a1] rfl (S0 := _) rfl eu2 rfl (Nat.le_of_ble_eq_true rfl) (d1 := d - 1) (b1 := 0 + 0) (s1 := 0 + 0) (bc' := bc) (bs' := bs) (Q1 := fun r h9 => r = tq_enI ((.inr v4, w3) : (String ⊕ Int32) × tq_H).1 ∧ ((.inr v4, w3) : (String ⊕ Int32) × tq_H).2 = h9) (by omega) (by omega) (by omega) (w_X10_changed (bc := 0) (bs := 0) (by omega) ev1 (fun E g z => by cases z) (fun _ _ q => q)) (fun E h9 q => nomatch (show (Sum.inr E : tq_R) = Sum.inl _ from q.1)) (fun r9 h9 q => ?_)
    obtain ⟨q1, rfl⟩ := q
    cases (show (Sum.inl r9 : tq_R) = Sum.inl (some (.int v4)) from q1)
    refine tq_iret (M := mL_changed) (pc := 5) dL_changed_5 rfl ?_
    cases (Option.some.inj hf)
    exact hQ _ _ ⟨rfl, rfl⟩
abbrev mL_ranked : tq_M := (RL, cL_ranked, 4, (some .int), false, [(0, 6, 7, 13), (0, 6, 11, 16)], none)
def f_L_ranked (a0 : Nat) (a1 : Int32) (a2 : Int32) (h : tq_H) : Option (Int32 × tq_H) :=
  (tq_is h a0 10).bind fun _ =>
  (f_X10_ranked a0 a1 a2 h).bind fun v1 => match v1 with
  | (.inl E1, w3) =>
    if E1 = "java/lang/IndexOutOfBoundsException" then
      some ((-2000000001 : Int32), w3)
    else
      if E1 = "java/lang/IllegalArgumentException" then
        some ((-2000000002 : Int32), w3)
      else
        none
  | (.inr v4, w3) =>
    some (v4, w3)
set_option maxHeartbeats 4000000 in
set_option maxRecDepth 20000 in
theorem w_L_ranked {l : Launch} {d : Nat} (hd9 : 8 ≤ d) {a0 : Nat} {a1 : Int32} {a2 : Int32} {bc bs : Nat} {h : tq_H} {o : Int32 × tq_H} {Q : tq_R → tq_H → Prop} (hf : f_L_ranked a0 a1 a2 h = some o) (hb : ∀ E g, f_X10_ranked a0 a1 a2 h = some (.inl E, g) → 1 ≤ bc ∧ 6 ≤ bs) (hQ : ∀ r h9, r = .inl (some (.int o.1)) ∧ o.2 = h9 → Q r h9) : tq_CW l yL_ranked cL_ranked 4 (some .int) [(0, 6, 7, 13), (0, 6, 11, 16)] d (0 + bc) (0 + bs) [.ref a0, .int a1, .int a2] h Q := by
  refine tq_bodyW (y := yL_ranked) (by decide +kernel) (Nat.le_of_ble_eq_true rfl) ?_
  show tq_W l mL_ranked d (0 + bc) (0 + bs) Q 0 [(0, .ref a0), (1, .int a1), (2, .int a2)] [] h
  refine tq_more (bc := bc) (bs := bs) (by omega) (by omega) ?_
  refine tq_aload_n (M := mL_ranked) (pc := 0) dL_ranked_0 rfl ?_
  refine tq_iload_n (M := mL_ranked) (pc := 1) dL_ranked_1 rfl ?_
  refine tq_iload_n (M := mL_ranked) (pc := 2) dL_ranked_2 rfl ?_
  obtain ⟨⟨⟩, eu2, hf⟩ := tq_be hf
  obtain ⟨fsu2, eu2⟩ := tq_is_s eu2
  obtain ⟨⟨E1 | v4, w3⟩, ev1, hf⟩ := tq_be hf
  · skip
    by_cases c0 : E1 = "java/lang/IndexOutOfBoundsException"
    · have hf := tq_ifp hf c0
      subst c0
      have hb9 := hb _ _ ev1
      refine tq_calV (M := mL_ranked) (pc := 3) (S := []) tk_y_X10_ranked tk_v_X10_ranked tk_RL_149 dL_ranked_3 [.int a1, .int a2] rfl (S0 := _) rfl eu2 rfl (Nat.le_of_ble_eq_true rfl) (d1 := d - 1) (b1 := 0 + bc) (s1 := 0 + bs) (bc' := 0) (bs' := 0) (Q1 := fun r h9 => r = tq_enI ((.inl "java/lang/IndexOutOfBoundsException", w3) : (String ⊕ Int32) × tq_H).1 ∧ ((.inl "java/lang/IndexOutOfBoundsException", w3) : (String ⊕ Int32) × tq_H).2 = h9) (by omega) (by omega) (by omega) (w_X10_ranked (bc := bc) (bs := bs) (by omega) ev1 (fun _ _ _ => hb9) (fun _ _ q => q)) (fun E h9 q => ?_) (fun r9 h9 q => nomatch (show (Sum.inl r9 : tq_R) = Sum.inr _ from q.1))
      obtain ⟨q1, rfl⟩ := q
      cases (show (Sum.inr E : tq_R) = Sum.inr "java/lang/IndexOutOfBoundsException" from q1)
      refine tq_catch (M := mL_ranked) (pc := 3) (name := "java/lang/IndexOutOfBoundsException") [] ⟨0, 6, 7, 13⟩ [⟨0, 6, 11, 16⟩] rfl tk_pass_L_ranked_0 (by decide) (by decide) tk_RL_13 tk_cast_IndexOutOfBoundsException ?_
      refine tq_xstore_n (M := mL_ranked) (pc := 7) rfl dL_ranked_7 (L2 := [(3, .float 0), (0, .ref a0), (1, .int a1), (2, .int a2)]) (by decide) rfl ?_
      refine tq_ldc (M := mL_ranked) (pc := 8) dL_ranked_8 tk_RL_15 ?_
      refine tq_iret (M := mL_ranked) (pc := 10) dL_ranked_10 rfl ?_
      cases (Option.some.inj hf)
      exact hQ _ _ ⟨rfl, rfl⟩
    have hf := tq_ifn hf c0
    by_cases c1 : E1 = "java/lang/IllegalArgumentException"
    · have hf := tq_ifp hf c1
      subst c1
      have hb9 := hb _ _ ev1
      refine tq_calV (M := mL_ranked) (pc := 3) (S := []) tk_y_X10_ranked tk_v_X10_ranked tk_RL_149 dL_ranked_3 [.int a1, .int a2] rfl (S0 := _) rfl eu2 rfl (Nat.le_of_ble_eq_true rfl) (d1 := d - 1) (b1 := 0 + bc) (s1 := 0 + bs) (bc' := 0) (bs' := 0) (Q1 := fun r h9 => r = tq_enI ((.inl "java/lang/IllegalArgumentException", w3) : (String ⊕ Int32) × tq_H).1 ∧ ((.inl "java/lang/IllegalArgumentException", w3) : (String ⊕ Int32) × tq_H).2 = h9) (by omega) (by omega) (by omega) (w_X10_ranked (bc := bc) (bs := bs) (by omega) ev1 (fun _ _ _ => hb9) (fun _ _ q => q)) (fun E h9 q => ?_) (fun r9 h9 q => nomatch (show (Sum.inl r9 : tq_R) = Sum.inr _ from q.1))
      obtain ⟨q1, rfl⟩ := q
      cases (show (Sum.inr E : tq_R) = Sum.inr "java/lang/IllegalArgumentException" from q1)
      refine tq_catch (M := mL_ranked) (pc := 3) (name := "java/lang/IllegalArgumentException") [⟨0, 6, 7, 13⟩] ⟨0, 6, 11, 16⟩ [] rfl tk_pass_L_ranked_1 (by decide) (by decide) tk_RL_16 tk_cast_IllegalArgumentException ?_
      refine tq_xstore_n (M := mL_ranked) (pc := 11) rfl dL_ranked_11 (L2 := [(3, .float 0), (0, .ref a0), (1, .int a1), (2, .int a2)]) (by decide) rfl ?_
      refine tq_ldc (M := mL_ranked) (pc := 12) dL_ranked_12 tk_RL_18 ?_
      refine tq_iret (M := mL_ranked) (pc := 14) dL_ranked_14 rfl ?_
      cases (Option.some.inj hf)
      exact hQ _ _ ⟨rfl, rfl⟩
    have hf := tq_ifn hf c1
    cases hf
  · refine tq_calV (M := mL_ranked) (pc := 3) (S := []) tk_y_X10_ranked tk_v_X10_ranked tk_RL_149 dL_ranked_3 [.int a1, .int a2] rfl (S0 := _) rfl eu2 rfl (Nat.le_of_ble_eq_true rfl) (d1 := d - 1) (b1 := 0 + 0) (s1 := 0 + 0) (bc' := bc) (bs' := bs) (Q1 := fun r h9 => r = tq_enI ((.inr v4, w3) : (String ⊕ Int32) × tq_H).1 ∧ ((.inr v4, w3) : (String ⊕ Int32) × tq_H).2 = h9) (by omega) (by omega) (by omega) (w_X10_ranked (bc := 0) (bs := 0) (by omega) ev1 (fun E g z => by cases z) (fun _ _ q => q)) (fun E h9 q => nomatch (show (Sum.inr E : tq_R) = Sum.inl _ from q.1)) (fun r9 h9 q => ?_)
    obtain ⟨q1, rfl⟩ := q
    cases (show (Sum.inl r9 : tq_R) = Sum.inl (some (.int v4)) from q1)
    refine tq_iret (M := mL_ranked) (pc := 6) dL_ranked_6 rfl ?_
    cases (Option.some.inj hf)
    exact hQ _ _ ⟨rfl, rfl⟩
abbrev mL_keep : tq_M := (RL, cL_keep, 2, (some .int), false, [(0, 4, 5, 19)], none)
def f_L_keep (a0 : Nat) (h : tq_H) : Option (Int32 × tq_H) :=
  (tq_is h a0 10).bind fun _ =>
  (f_X10_keep a0 h).bind fun v1 => match v1 with
  | (.inl E1, w3) =>
    if E1 = "java/lang/IllegalStateException" then
      some ((-2000000003 : Int32), w3)
    else
      none
  | (.inr v4, w3) =>
    some (v4, w3)
set_option maxHeartbeats 4000000 in
set_option maxRecDepth 20000 in
theorem w_L_keep {l : Launch} {d : Nat} (hd9 : 7 ≤ d) {a0 : Nat} {bc bs : Nat} {h : tq_H} {o : Int32 × tq_H} {Q : tq_R → tq_H → Prop} (hf : f_L_keep a0 h = some o) (hb : ∀ E g, f_X10_keep a0 h = some (.inl E, g) → 1 ≤ bc ∧ 6 ≤ bs) (hQ : ∀ r h9, r = .inl (some (.int o.1)) ∧ o.2 = h9 → Q r h9) : tq_CW l yL_keep cL_keep 2 (some .int) [(0, 4, 5, 19)] d (40 + bc) (1137 + bs) [.ref a0] h Q := by
  refine tq_bodyW (y := yL_keep) (by decide +kernel) (Nat.le_of_ble_eq_true rfl) ?_
  show tq_W l mL_keep d (40 + bc) (1137 + bs) Q 0 [(0, .ref a0)] [] h
  refine tq_more (bc := (40 + bc)) (bs := (1137 + bs)) (by omega) (by omega) ?_
  refine tq_aload_n (M := mL_keep) (pc := 0) dL_keep_0 rfl ?_
  obtain ⟨⟨⟩, eu2, hf⟩ := tq_be hf
  obtain ⟨fsu2, eu2⟩ := tq_is_s eu2
  obtain ⟨⟨E1 | v4, w3⟩, ev1, hf⟩ := tq_be hf
  · skip
    by_cases c0 : E1 = "java/lang/IllegalStateException"
    · have hf := tq_ifp hf c0
      subst c0
      have hb9 := hb _ _ ev1
      refine tq_calV (M := mL_keep) (pc := 1) (S := []) tk_y_X10_keep tk_v_X10_keep tk_RL_152 dL_keep_1 [] rfl (S0 := _) rfl eu2 rfl (Nat.le_of_ble_eq_true rfl) (d1 := d - 1) (b1 := 40 + bc) (s1 := 1137 + bs) (bc' := 0) (bs' := 0) (Q1 := fun r h9 => r = tq_enI ((.inl "java/lang/IllegalStateException", w3) : (String ⊕ Int32) × tq_H).1 ∧ ((.inl "java/lang/IllegalStateException", w3) : (String ⊕ Int32) × tq_H).2 = h9) (by omega) (by omega) (by omega) (w_X10_keep (bc := bc) (bs := bs) (by omega) ev1 (fun _ _ _ => hb9) (fun _ _ q => q)) (fun E h9 q => ?_) (fun r9 h9 q => nomatch (show (Sum.inl r9 : tq_R) = Sum.inr _ from q.1))
      obtain ⟨q1, rfl⟩ := q
      cases (show (Sum.inr E : tq_R) = Sum.inr "java/lang/IllegalStateException" from q1)
      refine tq_catch (M := mL_keep) (pc := 1) (name := "java/lang/IllegalStateException") [] ⟨0, 4, 5, 19⟩ [] rfl tk_pass_L_keep_0 (by decide) (by decide) tk_RL_19 tk_cast_IllegalStateException ?_
      refine tq_xstore_n (M := mL_keep) (pc := 5) rfl dL_keep_5 (L2 := [(1, .float 0), (0, .ref a0)]) (by decide) rfl ?_
      refine tq_ldc (M := mL_keep) (pc := 6) dL_keep_6 tk_RL_21 ?_
      refine tq_iret (M := mL_keep) (pc := 8) dL_keep_8 rfl ?_
      cases (Option.some.inj hf)
      exact hQ _ _ ⟨rfl, rfl⟩
    have hf := tq_ifn hf c0
    cases hf
  · refine tq_calV (M := mL_keep) (pc := 1) (S := []) tk_y_X10_keep tk_v_X10_keep tk_RL_152 dL_keep_1 [] rfl (S0 := _) rfl eu2 rfl (Nat.le_of_ble_eq_true rfl) (d1 := d - 1) (b1 := 40 + 0) (s1 := 1137 + 0) (bc' := bc) (bs' := bs) (Q1 := fun r h9 => r = tq_enI ((.inr v4, w3) : (String ⊕ Int32) × tq_H).1 ∧ ((.inr v4, w3) : (String ⊕ Int32) × tq_H).2 = h9) (by omega) (by omega) (by omega) (w_X10_keep (bc := 0) (bs := 0) (by omega) ev1 (fun E g z => by cases z) (fun _ _ q => q)) (fun E h9 q => nomatch (show (Sum.inr E : tq_R) = Sum.inl _ from q.1)) (fun r9 h9 q => ?_)
    obtain ⟨q1, rfl⟩ := q
    cases (show (Sum.inl r9 : tq_R) = Sum.inl (some (.int v4)) from q1)
    refine tq_iret (M := mL_keep) (pc := 4) dL_keep_4 rfl ?_
    cases (Option.some.inj hf)
    exact hQ _ _ ⟨rfl, rfl⟩
abbrev mL_take : tq_M := (RL, cL_take, 3, (some .int), false, [(0, 5, 6, 13), (0, 5, 10, 19)], none)
def f_L_take (a0 : Nat) (a1 : Int32) (h : tq_H) : Option (Int32 × tq_H) :=
  (tq_is h a0 10).bind fun _ =>
  (f_X10_take a0 a1 h).bind fun v1 => match v1 with
  | (.inl E1, w3) =>
    if E1 = "java/lang/IndexOutOfBoundsException" then
      some ((-2000000001 : Int32), w3)
    else
      if E1 = "java/lang/IllegalStateException" then
        some ((-2000000003 : Int32), w3)
      else
        none
  | (.inr v4, w3) =>
    some (v4, w3)
set_option maxHeartbeats 4000000 in
set_option maxRecDepth 20000 in
theorem w_L_take {l : Launch} {d : Nat} (hd9 : 8 ≤ d) {a0 : Nat} {a1 : Int32} {bc bs : Nat} {h : tq_H} {o : Int32 × tq_H} {Q : tq_R → tq_H → Prop} (hf : f_L_take a0 a1 h = some o) (hb : ∀ E g, f_X10_take a0 a1 h = some (.inl E, g) → 1 ≤ bc ∧ 6 ≤ bs) (hQ : ∀ r h9, r = .inl (some (.int o.1)) ∧ o.2 = h9 → Q r h9) : tq_CW l yL_take cL_take 3 (some .int) [(0, 5, 6, 13), (0, 5, 10, 19)] d (0 + bc) (0 + bs) [.ref a0, .int a1] h Q := by
  refine tq_bodyW (y := yL_take) (by decide +kernel) (Nat.le_of_ble_eq_true rfl) ?_
  show tq_W l mL_take d (0 + bc) (0 + bs) Q 0 [(0, .ref a0), (1, .int a1)] [] h
  refine tq_more (bc := bc) (bs := bs) (by omega) (by omega) ?_
  refine tq_aload_n (M := mL_take) (pc := 0) dL_take_0 rfl ?_
  refine tq_iload_n (M := mL_take) (pc := 1) dL_take_1 rfl ?_
  obtain ⟨⟨⟩, eu2, hf⟩ := tq_be hf
  obtain ⟨fsu2, eu2⟩ := tq_is_s eu2
  obtain ⟨⟨E1 | v4, w3⟩, ev1, hf⟩ := tq_be hf
  · skip
    by_cases c0 : E1 = "java/lang/IndexOutOfBoundsException"
    · have hf := tq_ifp hf c0
      subst c0
      have hb9 := hb _ _ ev1
      refine tq_calV (M := mL_take) (pc := 2) (S := []) tk_y_X10_take tk_v_X10_take tk_RL_155 dL_take_2 [.int a1] rfl (S0 := _) rfl eu2 rfl (Nat.le_of_ble_eq_true rfl) (d1 := d - 1) (b1 := 0 + bc) (s1 := 0 + bs) (bc' := 0) (bs' := 0) (Q1 := fun r h9 => r = tq_enI ((.inl "java/lang/IndexOutOfBoundsException", w3) : (String ⊕ Int32) × tq_H).1 ∧ ((.inl "java/lang/IndexOutOfBoundsException", w3) : (String ⊕ Int32) × tq_H).2 = h9) (by omega) (by omega) (by omega) (w_X10_take (bc := bc) (bs := bs) (by omega) ev1 (fun _ _ _ => hb9) (fun _ _ q => q)) (fun E h9 q => ?_) (fun r9 h9 q => nomatch (show (Sum.inl r9 : tq_R) = Sum.inr _ from q.1))
      obtain ⟨q1, rfl⟩ := q
      cases (show (Sum.inr E : tq_R) = Sum.inr "java/lang/IndexOutOfBoundsException" from q1)
      refine tq_catch (M := mL_take) (pc := 2) (name := "java/lang/IndexOutOfBoundsException") [] ⟨0, 5, 6, 13⟩ [⟨0, 5, 10, 19⟩] rfl tk_pass_L_take_0 (by decide) (by decide) tk_RL_13 tk_cast_IndexOutOfBoundsException ?_
      refine tq_xstore_n (M := mL_take) (pc := 6) rfl dL_take_6 (L2 := [(2, .float 0), (0, .ref a0), (1, .int a1)]) (by decide) rfl ?_
      refine tq_ldc (M := mL_take) (pc := 7) dL_take_7 tk_RL_15 ?_
      refine tq_iret (M := mL_take) (pc := 9) dL_take_9 rfl ?_
      cases (Option.some.inj hf)
      exact hQ _ _ ⟨rfl, rfl⟩
    have hf := tq_ifn hf c0
    by_cases c1 : E1 = "java/lang/IllegalStateException"
    · have hf := tq_ifp hf c1
      subst c1
      have hb9 := hb _ _ ev1
      refine tq_calV (M := mL_take) (pc := 2) (S := []) tk_y_X10_take tk_v_X10_take tk_RL_155 dL_take_2 [.int a1] rfl (S0 := _) rfl eu2 rfl (Nat.le_of_ble_eq_true rfl) (d1 := d - 1) (b1 := 0 + bc) (s1 := 0 + bs) (bc' := 0) (bs' := 0) (Q1 := fun r h9 => r = tq_enI ((.inl "java/lang/IllegalStateException", w3) : (String ⊕ Int32) × tq_H).1 ∧ ((.inl "java/lang/IllegalStateException", w3) : (String ⊕ Int32) × tq_H).2 = h9) (by omega) (by omega) (by omega) (w_X10_take (bc := bc) (bs := bs) (by omega) ev1 (fun _ _ _ => hb9) (fun _ _ q => q)) (fun E h9 q => ?_) (fun r9 h9 q => nomatch (show (Sum.inl r9 : tq_R) = Sum.inr _ from q.1))
      obtain ⟨q1, rfl⟩ := q
      cases (show (Sum.inr E : tq_R) = Sum.inr "java/lang/IllegalStateException" from q1)
      refine tq_catch (M := mL_take) (pc := 2) (name := "java/lang/IllegalStateException") [⟨0, 5, 6, 13⟩] ⟨0, 5, 10, 19⟩ [] rfl tk_pass_L_take_1 (by decide) (by decide) tk_RL_19 tk_cast_IllegalStateException ?_
      refine tq_xstore_n (M := mL_take) (pc := 10) rfl dL_take_10 (L2 := [(2, .float 0), (0, .ref a0), (1, .int a1)]) (by decide) rfl ?_
      refine tq_ldc (M := mL_take) (pc := 11) dL_take_11 tk_RL_21 ?_
      refine tq_iret (M := mL_take) (pc := 13) dL_take_13 rfl ?_
      cases (Option.some.inj hf)
      exact hQ _ _ ⟨rfl, rfl⟩
    have hf := tq_ifn hf c1
    cases hf
  · refine tq_calV (M := mL_take) (pc := 2) (S := []) tk_y_X10_take tk_v_X10_take tk_RL_155 dL_take_2 [.int a1] rfl (S0 := _) rfl eu2 rfl (Nat.le_of_ble_eq_true rfl) (d1 := d - 1) (b1 := 0 + 0) (s1 := 0 + 0) (bc' := bc) (bs' := bs) (Q1 := fun r h9 => r = tq_enI ((.inr v4, w3) : (String ⊕ Int32) × tq_H).1 ∧ ((.inr v4, w3) : (String ⊕ Int32) × tq_H).2 = h9) (by omega) (by omega) (by omega) (w_X10_take (bc := 0) (bs := 0) (by omega) ev1 (fun E g z => by cases z) (fun _ _ q => q)) (fun E h9 q => nomatch (show (Sum.inr E : tq_R) = Sum.inl _ from q.1)) (fun r9 h9 q => ?_)
    obtain ⟨q1, rfl⟩ := q
    cases (show (Sum.inl r9 : tq_R) = Sum.inl (some (.int v4)) from q1)
    refine tq_iret (M := mL_take) (pc := 5) dL_take_5 rfl ?_
    cases (Option.some.inj hf)
    exact hQ _ _ ⟨rfl, rfl⟩
abbrev mL_distance : tq_M := (RL, cL_distance, 4, (some .int), false, [(0, 6, 7, 13)], none)
def f_L_distance (a0 : Nat) (a1 : Int32) (a2 : Int32) (h : tq_H) : Option (Int32 × tq_H) :=
  (tq_is h a0 10).bind fun _ =>
  (f_X10_distance a0 a1 a2 h).bind fun v1 => match v1 with
  | (.inl E1, w3) =>
    if E1 = "java/lang/IndexOutOfBoundsException" then
      some ((-2000000001 : Int32), w3)
    else
      none
  | (.inr v4, w3) =>
    some (v4, w3)
set_option maxHeartbeats 4000000 in
set_option maxRecDepth 20000 in
theorem w_L_distance {l : Launch} {d : Nat} (hd9 : 8 ≤ d) {a0 : Nat} {a1 : Int32} {a2 : Int32} {bc bs : Nat} {h : tq_H} {o : Int32 × tq_H} {Q : tq_R → tq_H → Prop} (hf : f_L_distance a0 a1 a2 h = some o) (hb : ∀ E g, f_X10_distance a0 a1 a2 h = some (.inl E, g) → 1 ≤ bc ∧ 6 ≤ bs) (hQ : ∀ r h9, r = .inl (some (.int o.1)) ∧ o.2 = h9 → Q r h9) : tq_CW l yL_distance cL_distance 4 (some .int) [(0, 6, 7, 13)] d (15 + bc) (7732 + bs) [.ref a0, .int a1, .int a2] h Q := by
  refine tq_bodyW (y := yL_distance) (by decide +kernel) (Nat.le_of_ble_eq_true rfl) ?_
  show tq_W l mL_distance d (15 + bc) (7732 + bs) Q 0 [(0, .ref a0), (1, .int a1), (2, .int a2)] [] h
  refine tq_more (bc := (15 + bc)) (bs := (7732 + bs)) (by omega) (by omega) ?_
  refine tq_aload_n (M := mL_distance) (pc := 0) dL_distance_0 rfl ?_
  refine tq_iload_n (M := mL_distance) (pc := 1) dL_distance_1 rfl ?_
  refine tq_iload_n (M := mL_distance) (pc := 2) dL_distance_2 rfl ?_
  obtain ⟨⟨⟩, eu2, hf⟩ := tq_be hf
  obtain ⟨fsu2, eu2⟩ := tq_is_s eu2
  obtain ⟨⟨E1 | v4, w3⟩, ev1, hf⟩ := tq_be hf
  · skip
    by_cases c0 : E1 = "java/lang/IndexOutOfBoundsException"
    · have hf := tq_ifp hf c0
      subst c0
      have hb9 := hb _ _ ev1
      refine tq_calV (M := mL_distance) (pc := 3) (S := []) tk_y_X10_distance tk_v_X10_distance tk_RL_158 dL_distance_3 [.int a1, .int a2] rfl (S0 := _) rfl eu2 rfl (Nat.le_of_ble_eq_true rfl) (d1 := d - 1) (b1 := 15 + bc) (s1 := 7732 + bs) (bc' := 0) (bs' := 0) (Q1 := fun r h9 => r = tq_enI ((.inl "java/lang/IndexOutOfBoundsException", w3) : (String ⊕ Int32) × tq_H).1 ∧ ((.inl "java/lang/IndexOutOfBoundsException", w3) : (String ⊕ Int32) × tq_H).2 = h9) (by omega) (by omega) (by omega) (w_X10_distance (bc := bc) (bs := bs) (by omega) ev1 (fun _ _ _ => hb9) (fun _ _ q => q)) (fun E h9 q => ?_) (fun r9 h9 q => nomatch (show (Sum.inl r9 : tq_R) = Sum.inr _ from q.1))
      obtain ⟨q1, rfl⟩ := q
      cases (show (Sum.inr E : tq_R) = Sum.inr "java/lang/IndexOutOfBoundsException" from q1)
      refine tq_catch (M := mL_distance) (pc := 3) (name := "java/lang/IndexOutOfBoundsException") [] ⟨0, 6, 7, 13⟩ [] rfl tk_pass_L_distance_0 (by decide) (by decide) tk_RL_13 tk_cast_IndexOutOfBoundsException ?_
      refine tq_xstore_n (M := mL_distance) (pc := 7) rfl dL_distance_7 (L2 := [(3, .float 0), (0, .ref a0), (1, .int a1), (2, .int a2)]) (by decide) rfl ?_
      refine tq_ldc (M := mL_distance) (pc := 8) dL_distance_8 tk_RL_15 ?_
      refine tq_iret (M := mL_distance) (pc := 10) dL_distance_10 rfl ?_
      cases (Option.some.inj hf)
      exact hQ _ _ ⟨rfl, rfl⟩
    have hf := tq_ifn hf c0
    cases hf
  · refine tq_calV (M := mL_distance) (pc := 3) (S := []) tk_y_X10_distance tk_v_X10_distance tk_RL_158 dL_distance_3 [.int a1, .int a2] rfl (S0 := _) rfl eu2 rfl (Nat.le_of_ble_eq_true rfl) (d1 := d - 1) (b1 := 15 + 0) (s1 := 7732 + 0) (bc' := bc) (bs' := bs) (Q1 := fun r h9 => r = tq_enI ((.inr v4, w3) : (String ⊕ Int32) × tq_H).1 ∧ ((.inr v4, w3) : (String ⊕ Int32) × tq_H).2 = h9) (by omega) (by omega) (by omega) (w_X10_distance (bc := 0) (bs := 0) (by omega) ev1 (fun E g z => by cases z) (fun _ _ q => q)) (fun E h9 q => nomatch (show (Sum.inr E : tq_R) = Sum.inl _ from q.1)) (fun r9 h9 q => ?_)
    obtain ⟨q1, rfl⟩ := q
    cases (show (Sum.inl r9 : tq_R) = Sum.inl (some (.int v4)) from q1)
    refine tq_iret (M := mL_distance) (pc := 6) dL_distance_6 rfl ?_
    cases (Option.some.inj hf)
    exact hQ _ _ ⟨rfl, rfl⟩
abbrev mL_odds : tq_M := (RL, cL_odds, 5, (some .int), false, [(0, 7, 8, 13)], none)
def f_L_odds (a0 : Nat) (a1 : Int32) (a2 : Int32) (a3 : Int32) (h : tq_H) : Option (Int32 × tq_H) :=
  (tq_is h a0 10).bind fun _ =>
  (f_X10_odds a0 a1 a2 a3 h).bind fun v1 => match v1 with
  | (.inl E1, w3) =>
    if E1 = "java/lang/IndexOutOfBoundsException" then
      some ((-2000000001 : Int32), w3)
    else
      none
  | (.inr v4, w3) =>
    some (v4, w3)
set_option maxHeartbeats 4000000 in
set_option maxRecDepth 20000 in
theorem w_L_odds {l : Launch} {d : Nat} (hd9 : 8 ≤ d) {a0 : Nat} {a1 : Int32} {a2 : Int32} {a3 : Int32} {bc bs : Nat} {h : tq_H} {o : Int32 × tq_H} {Q : tq_R → tq_H → Prop} (hf : f_L_odds a0 a1 a2 a3 h = some o) (hb : ∀ E g, f_X10_odds a0 a1 a2 a3 h = some (.inl E, g) → 1 ≤ bc ∧ 6 ≤ bs) (hQ : ∀ r h9, r = .inl (some (.int o.1)) ∧ o.2 = h9 → Q r h9) : tq_CW l yL_odds cL_odds 5 (some .int) [(0, 7, 8, 13)] d (0 + bc) (0 + bs) [.ref a0, .int a1, .int a2, .int a3] h Q := by
  refine tq_bodyW (y := yL_odds) (by decide +kernel) (Nat.le_of_ble_eq_true rfl) ?_
  show tq_W l mL_odds d (0 + bc) (0 + bs) Q 0 [(0, .ref a0), (1, .int a1), (2, .int a2), (3, .int a3)] [] h
  refine tq_more (bc := bc) (bs := bs) (by omega) (by omega) ?_
  refine tq_aload_n (M := mL_odds) (pc := 0) dL_odds_0 rfl ?_
  refine tq_iload_n (M := mL_odds) (pc := 1) dL_odds_1 rfl ?_
  refine tq_iload_n (M := mL_odds) (pc := 2) dL_odds_2 rfl ?_
  refine tq_iload_n (M := mL_odds) (pc := 3) dL_odds_3 rfl ?_
  obtain ⟨⟨⟩, eu2, hf⟩ := tq_be hf
  obtain ⟨fsu2, eu2⟩ := tq_is_s eu2
  obtain ⟨⟨E1 | v4, w3⟩, ev1, hf⟩ := tq_be hf
  · skip
    by_cases c0 : E1 = "java/lang/IndexOutOfBoundsException"
    · have hf := tq_ifp hf c0
      subst c0
      have hb9 := hb _ _ ev1
      refine tq_calV (M := mL_odds) (pc := 4) (S := []) tk_y_X10_odds tk_v_X10_odds tk_RL_161 dL_odds_4 [.int a1, .int a2, .int a3] rfl (S0 := _) rfl eu2 rfl (Nat.le_of_ble_eq_true rfl) (d1 := d - 1) (b1 := 0 + bc) (s1 := 0 + bs) (bc' := 0) (bs' := 0) (Q1 := fun r h9 => r = tq_enI ((.inl "java/lang/IndexOutOfBoundsException", w3) : (String ⊕ Int32) × tq_H).1 ∧ ((.inl "java/lang/IndexOutOfBoundsException", w3) : (String ⊕ Int32) × tq_H).2 = h9) (by omega) (by omega) (by omega) (w_X10_odds (bc := bc) (bs := bs) (by omega) ev1 (fun _ _ _ => hb9) (fun _ _ q => q)) (fun E h9 q => ?_) (fun r9 h9 q => nomatch (show (Sum.inl r9 : tq_R) = Sum.inr _ from q.1))
      obtain ⟨q1, rfl⟩ := q
      cases (show (Sum.inr E : tq_R) = Sum.inr "java/lang/IndexOutOfBoundsException" from q1)
      refine tq_catch (M := mL_odds) (pc := 4) (name := "java/lang/IndexOutOfBoundsException") [] ⟨0, 7, 8, 13⟩ [] rfl tk_pass_L_odds_0 (by decide) (by decide) tk_RL_13 tk_cast_IndexOutOfBoundsException ?_
      refine tq_xstore (M := mL_odds) (pc := 8) dL_odds_8 (L2 := [(4, .float 0), (0, .ref a0), (1, .int a1), (2, .int a2), (3, .int a3)]) (by decide) rfl ?_
      refine tq_ldc (M := mL_odds) (pc := 10) dL_odds_10 tk_RL_15 ?_
      refine tq_iret (M := mL_odds) (pc := 12) dL_odds_12 rfl ?_
      cases (Option.some.inj hf)
      exact hQ _ _ ⟨rfl, rfl⟩
    have hf := tq_ifn hf c0
    cases hf
  · refine tq_calV (M := mL_odds) (pc := 4) (S := []) tk_y_X10_odds tk_v_X10_odds tk_RL_161 dL_odds_4 [.int a1, .int a2, .int a3] rfl (S0 := _) rfl eu2 rfl (Nat.le_of_ble_eq_true rfl) (d1 := d - 1) (b1 := 0 + 0) (s1 := 0 + 0) (bc' := bc) (bs' := bs) (Q1 := fun r h9 => r = tq_enI ((.inr v4, w3) : (String ⊕ Int32) × tq_H).1 ∧ ((.inr v4, w3) : (String ⊕ Int32) × tq_H).2 = h9) (by omega) (by omega) (by omega) (w_X10_odds (bc := 0) (bs := 0) (by omega) ev1 (fun E g z => by cases z) (fun _ _ q => q)) (fun E h9 q => nomatch (show (Sum.inr E : tq_R) = Sum.inl _ from q.1)) (fun r9 h9 q => ?_)
    obtain ⟨q1, rfl⟩ := q
    cases (show (Sum.inl r9 : tq_R) = Sum.inl (some (.int v4)) from q1)
    refine tq_iret (M := mL_odds) (pc := 7) dL_odds_7 rfl ?_
    cases (Option.some.inj hf)
    exact hQ _ _ ⟨rfl, rfl⟩
abbrev mL_hide : tq_M := (RL, cL_hide, 3, (some .int), false, [(0, 13, 14, 13), (0, 13, 18, 19)], none)
def f_L_hide (a0 : Nat) (a1 : Int32) (h : tq_H) : Option (Int32 × tq_H) :=
  (tq_is h a0 10).bind fun _ =>
  (f_X10_hide a0 a1 h).bind fun v1 => match v1 with
  | (.inl E1, w3) =>
    if E1 = "java/lang/IndexOutOfBoundsException" then
      some ((-2000000001 : Int32), w3)
    else
      if E1 = "java/lang/IllegalStateException" then
        some ((-2000000003 : Int32), w3)
      else
        none
  | (.inr v4, w3) =>
    tq_let (if v4 = 0 then (0 : Int32) else (1 : Int32)) fun p5 =>
    some (p5, w3)
set_option maxHeartbeats 4000000 in
set_option maxRecDepth 20000 in
theorem w_L_hide {l : Launch} {d : Nat} (hd9 : 8 ≤ d) {a0 : Nat} {a1 : Int32} {bc bs : Nat} {h : tq_H} {o : Int32 × tq_H} {Q : tq_R → tq_H → Prop} (hf : f_L_hide a0 a1 h = some o) (hb : ∀ E g, f_X10_hide a0 a1 h = some (.inl E, g) → 1 ≤ bc ∧ 6 ≤ bs) (hQ : ∀ r h9, r = .inl (some (.int o.1)) ∧ o.2 = h9 → Q r h9) : tq_CW l yL_hide cL_hide 3 (some .int) [(0, 13, 14, 13), (0, 13, 18, 19)] d (0 + bc) (0 + bs) [.ref a0, .int a1] h Q := by
  refine tq_bodyW (y := yL_hide) (by decide +kernel) (Nat.le_of_ble_eq_true rfl) ?_
  show tq_W l mL_hide d (0 + bc) (0 + bs) Q 0 [(0, .ref a0), (1, .int a1)] [] h
  refine tq_more (bc := bc) (bs := bs) (by omega) (by omega) ?_
  refine tq_aload_n (M := mL_hide) (pc := 0) dL_hide_0 rfl ?_
  refine tq_iload_n (M := mL_hide) (pc := 1) dL_hide_1 rfl ?_
  obtain ⟨⟨⟩, eu2, hf⟩ := tq_be hf
  obtain ⟨fsu2, eu2⟩ := tq_is_s eu2
  obtain ⟨⟨E1 | v4, w3⟩, ev1, hf⟩ := tq_be hf
  · skip
    by_cases c0 : E1 = "java/lang/IndexOutOfBoundsException"
    · have hf := tq_ifp hf c0
      subst c0
      have hb9 := hb _ _ ev1
      refine tq_calV (M := mL_hide) (pc := 2) (S := []) tk_y_X10_hide tk_v_X10_hide tk_RL_164 dL_hide_2 [.int a1] rfl (S0 := _) rfl eu2 rfl (Nat.le_of_ble_eq_true rfl) (d1 := d - 1) (b1 := 0 + bc) (s1 := 0 + bs) (bc' := 0) (bs' := 0) (Q1 := fun r h9 => r = tq_enI ((.inl "java/lang/IndexOutOfBoundsException", w3) : (String ⊕ Int32) × tq_H).1 ∧ ((.inl "java/lang/IndexOutOfBoundsException", w3) : (String ⊕ Int32) × tq_H).2 = h9) (by omega) (by omega) (by omega) (w_X10_hide (bc := bc) (bs := bs) (by omega) ev1 (fun _ _ _ => hb9) (fun _ _ q => q)) (fun E h9 q => ?_) (fun r9 h9 q => nomatch (show (Sum.inl r9 : tq_R) = Sum.inr _ from q.1))
      obtain ⟨q1, rfl⟩ := q
      cases (show (Sum.inr E : tq_R) = Sum.inr "java/lang/IndexOutOfBoundsException" from q1)
      refine tq_catch (M := mL_hide) (pc := 2) (name := "java/lang/IndexOutOfBoundsException") [] ⟨0, 13, 14, 13⟩ [⟨0, 13, 18, 19⟩] rfl tk_pass_L_hide_0 (by decide) (by decide) tk_RL_13 tk_cast_IndexOutOfBoundsException ?_
      refine tq_xstore_n (M := mL_hide) (pc := 14) rfl dL_hide_14 (L2 := [(2, .float 0), (0, .ref a0), (1, .int a1)]) (by decide) rfl ?_
      refine tq_ldc (M := mL_hide) (pc := 15) dL_hide_15 tk_RL_15 ?_
      refine tq_iret (M := mL_hide) (pc := 17) dL_hide_17 rfl ?_
      cases (Option.some.inj hf)
      exact hQ _ _ ⟨rfl, rfl⟩
    have hf := tq_ifn hf c0
    by_cases c1 : E1 = "java/lang/IllegalStateException"
    · have hf := tq_ifp hf c1
      subst c1
      have hb9 := hb _ _ ev1
      refine tq_calV (M := mL_hide) (pc := 2) (S := []) tk_y_X10_hide tk_v_X10_hide tk_RL_164 dL_hide_2 [.int a1] rfl (S0 := _) rfl eu2 rfl (Nat.le_of_ble_eq_true rfl) (d1 := d - 1) (b1 := 0 + bc) (s1 := 0 + bs) (bc' := 0) (bs' := 0) (Q1 := fun r h9 => r = tq_enI ((.inl "java/lang/IllegalStateException", w3) : (String ⊕ Int32) × tq_H).1 ∧ ((.inl "java/lang/IllegalStateException", w3) : (String ⊕ Int32) × tq_H).2 = h9) (by omega) (by omega) (by omega) (w_X10_hide (bc := bc) (bs := bs) (by omega) ev1 (fun _ _ _ => hb9) (fun _ _ q => q)) (fun E h9 q => ?_) (fun r9 h9 q => nomatch (show (Sum.inl r9 : tq_R) = Sum.inr _ from q.1))
      obtain ⟨q1, rfl⟩ := q
      cases (show (Sum.inr E : tq_R) = Sum.inr "java/lang/IllegalStateException" from q1)
      refine tq_catch (M := mL_hide) (pc := 2) (name := "java/lang/IllegalStateException") [⟨0, 13, 14, 13⟩] ⟨0, 13, 18, 19⟩ [] rfl tk_pass_L_hide_1 (by decide) (by decide) tk_RL_19 tk_cast_IllegalStateException ?_
      refine tq_xstore_n (M := mL_hide) (pc := 18) rfl dL_hide_18 (L2 := [(2, .float 0), (0, .ref a0), (1, .int a1)]) (by decide) rfl ?_
      refine tq_ldc (M := mL_hide) (pc := 19) dL_hide_19 tk_RL_21 ?_
      refine tq_iret (M := mL_hide) (pc := 21) dL_hide_21 rfl ?_
      cases (Option.some.inj hf)
      exact hQ _ _ ⟨rfl, rfl⟩
    have hf := tq_ifn hf c1
    cases hf
  · refine tq_calV (M := mL_hide) (pc := 2) (S := []) tk_y_X10_hide tk_v_X10_hide tk_RL_164 dL_hide_2 [.int a1] rfl (S0 := _) rfl eu2 rfl (Nat.le_of_ble_eq_true rfl) (d1 := d - 1) (b1 := 0 + 0) (s1 := 0 + 0) (bc' := bc) (bs' := bs) (Q1 := fun r h9 => r = tq_enI ((.inr v4, w3) : (String ⊕ Int32) × tq_H).1 ∧ ((.inr v4, w3) : (String ⊕ Int32) × tq_H).2 = h9) (by omega) (by omega) (by omega) (w_X10_hide (bc := 0) (bs := 0) (by omega) ev1 (fun E g z => by cases z) (fun _ _ q => q)) (fun E h9 q => nomatch (show (Sum.inr E : tq_R) = Sum.inl _ from q.1)) (fun r9 h9 q => ?_)
    obtain ⟨q1, rfl⟩ := q
    cases (show (Sum.inl r9 : tq_R) = Sum.inl (some (.int v4)) from q1)
    obtain ⟨p5, ep5, hf⟩ := tq_le hf
    have HJ5 : tq_W l mL_hide d bc bs Q 13 [] [.int p5] w3 := by
      refine tq_iret (M := mL_hide) (pc := 13) dL_hide_13 rfl ?_
      cases (Option.some.inj hf)
      exact hQ _ _ ⟨rfl, rfl⟩
    refine tq_if_eq (M := mL_hide) (pc := 5) (tgt := 12) dL_hide_5 (by decide) (fun cc => ?_) (fun cc => ?_)
    · have hf := tq_ifp ep5.symm cc
      refine tq_iconst (M := mL_hide) (pc := 12) dL_hide_12 tk_ki_0 ?_
      refine tq_pick (L2 := []) [] rfl ?_
      cases hf
      exact HJ5
    · have hf := tq_ifn ep5.symm cc
      refine tq_iconst (M := mL_hide) (pc := 8) dL_hide_8 tk_ki_1 ?_
      refine tq_goto (M := mL_hide) (pc := 9) (tgt := 13) dL_hide_9 (by decide) ?_
      refine tq_pick (L2 := []) [] rfl ?_
      cases hf
      exact HJ5
abbrev mL_seen : tq_M := (RL, cL_seen, 3, (some .int), false, [(0, 13, 14, 13)], none)
def f_L_seen (a0 : Nat) (a1 : Int32) (h : tq_H) : Option (Int32 × tq_H) :=
  (tq_is h a0 10).bind fun _ =>
  (f_X10_isSeen a0 a1 h).bind fun v1 => match v1 with
  | (.inl E1, w3) =>
    if E1 = "java/lang/IndexOutOfBoundsException" then
      some ((-2000000001 : Int32), w3)
    else
      none
  | (.inr v4, w3) =>
    tq_let (if v4 = 0 then (0 : Int32) else (1 : Int32)) fun p5 =>
    some (p5, w3)
set_option maxHeartbeats 4000000 in
set_option maxRecDepth 20000 in
theorem w_L_seen {l : Launch} {d : Nat} (hd9 : 8 ≤ d) {a0 : Nat} {a1 : Int32} {bc bs : Nat} {h : tq_H} {o : Int32 × tq_H} {Q : tq_R → tq_H → Prop} (hf : f_L_seen a0 a1 h = some o) (hb : ∀ E g, f_X10_isSeen a0 a1 h = some (.inl E, g) → 1 ≤ bc ∧ 6 ≤ bs) (hQ : ∀ r h9, r = .inl (some (.int o.1)) ∧ o.2 = h9 → Q r h9) : tq_CW l yL_seen cL_seen 3 (some .int) [(0, 13, 14, 13)] d (0 + bc) (0 + bs) [.ref a0, .int a1] h Q := by
  refine tq_bodyW (y := yL_seen) (by decide +kernel) (Nat.le_of_ble_eq_true rfl) ?_
  show tq_W l mL_seen d (0 + bc) (0 + bs) Q 0 [(0, .ref a0), (1, .int a1)] [] h
  refine tq_more (bc := bc) (bs := bs) (by omega) (by omega) ?_
  refine tq_aload_n (M := mL_seen) (pc := 0) dL_seen_0 rfl ?_
  refine tq_iload_n (M := mL_seen) (pc := 1) dL_seen_1 rfl ?_
  obtain ⟨⟨⟩, eu2, hf⟩ := tq_be hf
  obtain ⟨fsu2, eu2⟩ := tq_is_s eu2
  obtain ⟨⟨E1 | v4, w3⟩, ev1, hf⟩ := tq_be hf
  · skip
    by_cases c0 : E1 = "java/lang/IndexOutOfBoundsException"
    · have hf := tq_ifp hf c0
      subst c0
      have hb9 := hb _ _ ev1
      refine tq_calV (M := mL_seen) (pc := 2) (S := []) tk_y_X10_isSeen tk_v_X10_isSeen tk_RL_167 dL_seen_2 [.int a1] rfl (S0 := _) rfl eu2 rfl (Nat.le_of_ble_eq_true rfl) (d1 := d - 1) (b1 := 0 + bc) (s1 := 0 + bs) (bc' := 0) (bs' := 0) (Q1 := fun r h9 => r = tq_enI ((.inl "java/lang/IndexOutOfBoundsException", w3) : (String ⊕ Int32) × tq_H).1 ∧ ((.inl "java/lang/IndexOutOfBoundsException", w3) : (String ⊕ Int32) × tq_H).2 = h9) (by omega) (by omega) (by omega) (w_X10_isSeen (bc := bc) (bs := bs) (by omega) ev1 (fun _ _ _ => hb9) (fun _ _ q => q)) (fun E h9 q => ?_) (fun r9 h9 q => nomatch (show (Sum.inl r9 : tq_R) = Sum.inr _ from q.1))
      obtain ⟨q1, rfl⟩ := q
      cases (show (Sum.inr E : tq_R) = Sum.inr "java/lang/IndexOutOfBoundsException" from q1)
      refine tq_catch (M := mL_seen) (pc := 2) (name := "java/lang/IndexOutOfBoundsException") [] ⟨0, 13, 14, 13⟩ [] rfl tk_pass_L_seen_0 (by decide) (by decide) tk_RL_13 tk_cast_IndexOutOfBoundsException ?_
      refine tq_xstore_n (M := mL_seen) (pc := 14) rfl dL_seen_14 (L2 := [(2, .float 0), (0, .ref a0), (1, .int a1)]) (by decide) rfl ?_
      refine tq_ldc (M := mL_seen) (pc := 15) dL_seen_15 tk_RL_15 ?_
      refine tq_iret (M := mL_seen) (pc := 17) dL_seen_17 rfl ?_
      cases (Option.some.inj hf)
      exact hQ _ _ ⟨rfl, rfl⟩
    have hf := tq_ifn hf c0
    cases hf
  · refine tq_calV (M := mL_seen) (pc := 2) (S := []) tk_y_X10_isSeen tk_v_X10_isSeen tk_RL_167 dL_seen_2 [.int a1] rfl (S0 := _) rfl eu2 rfl (Nat.le_of_ble_eq_true rfl) (d1 := d - 1) (b1 := 0 + 0) (s1 := 0 + 0) (bc' := bc) (bs' := bs) (Q1 := fun r h9 => r = tq_enI ((.inr v4, w3) : (String ⊕ Int32) × tq_H).1 ∧ ((.inr v4, w3) : (String ⊕ Int32) × tq_H).2 = h9) (by omega) (by omega) (by omega) (w_X10_isSeen (bc := 0) (bs := 0) (by omega) ev1 (fun E g z => by cases z) (fun _ _ q => q)) (fun E h9 q => nomatch (show (Sum.inr E : tq_R) = Sum.inl _ from q.1)) (fun r9 h9 q => ?_)
    obtain ⟨q1, rfl⟩ := q
    cases (show (Sum.inl r9 : tq_R) = Sum.inl (some (.int v4)) from q1)
    obtain ⟨p5, ep5, hf⟩ := tq_le hf
    have HJ5 : tq_W l mL_seen d bc bs Q 13 [] [.int p5] w3 := by
      refine tq_iret (M := mL_seen) (pc := 13) dL_seen_13 rfl ?_
      cases (Option.some.inj hf)
      exact hQ _ _ ⟨rfl, rfl⟩
    refine tq_if_eq (M := mL_seen) (pc := 5) (tgt := 12) dL_seen_5 (by decide) (fun cc => ?_) (fun cc => ?_)
    · have hf := tq_ifp ep5.symm cc
      refine tq_iconst (M := mL_seen) (pc := 12) dL_seen_12 tk_ki_0 ?_
      refine tq_pick (L2 := []) [] rfl ?_
      cases hf
      exact HJ5
    · have hf := tq_ifn ep5.symm cc
      refine tq_iconst (M := mL_seen) (pc := 8) dL_seen_8 tk_ki_1 ?_
      refine tq_goto (M := mL_seen) (pc := 9) (tgt := 13) dL_seen_9 (by decide) ?_
      refine tq_pick (L2 := []) [] rfl ?_
      cases hf
      exact HJ5
abbrev mL_drawn (b sn : Nat) (xs : Nat → Int32) : tq_M := (RL, cL_drawn, 2, (some .int), false, [], some (b, sn, xs))
def f_L_drawn (sn : Nat) (xs : Nat → Int32) (a1 : Int32) : Option (Int32) :=
  (if a1 ≥ (Int32.ofNat sn) then
    some (((15526249 : Int32) * (a1 + (3 : Int32))) + (14249 : Int32))
  else
    (tq_sx sn xs a1).bind fun x1 =>
    some x1).bind fun p2 =>
  some (p2 &&& (2147483647 : Int32))
set_option maxHeartbeats 4000000 in
set_option maxRecDepth 20000 in
theorem w_L_drawn {l : Launch} {d : Nat} (hd9 : 0 ≤ d) {b sn : Nat} {xs : Nat → Int32} {a1 : Int32} {h : tq_H} {o : Int32} {Q : tq_R → tq_H → Prop} (hf : f_L_drawn sn xs a1 = some o) (hQ : ∀ r h9, r = .inl (some (.int o)) ∧ h = h9 → Q r h9) : tq_CX l yL_drawn cL_drawn 2 (some .int) d 0 0 [.retAddr b, .int a1] h Q b sn xs := by
  refine tq_bodyX (y := yL_drawn) (by decide +kernel) (Nat.le_of_ble_eq_true rfl) ?_
  show tq_W l (mL_drawn b sn xs) d 0 0 Q 0 [(0, .retAddr b), (1, .int a1)] [] h
  refine tq_iload_n (M := mL_drawn b sn xs) (pc := 0) dL_drawn_0 rfl ?_
  refine tq_xload (M := mL_drawn b sn xs) (pc := 1) dL_drawn_1 rfl ?_
  refine tq_xlen (M := mL_drawn b sn xs) (pc := 2) dL_drawn_2 (n := sn) (xs := xs) rfl ?_
  obtain ⟨p2, ep2, hf⟩ := tq_be hf
  have HJ3 : tq_W l (mL_drawn b sn xs) d 0 0 Q 22 [] [.int p2] h := by
    refine tq_ldc (M := mL_drawn b sn xs) (pc := 22) dL_drawn_22 tk_RL_171 ?_
    refine tq_iand (M := mL_drawn b sn xs) (pc := 24) dL_drawn_24 ?_
    refine tq_iret (M := mL_drawn b sn xs) (pc := 25) dL_drawn_25 rfl ?_
    cases (Option.some.inj hf)
    exact hQ _ _ ⟨rfl, rfl⟩
  refine tq_icmp_ge (M := mL_drawn b sn xs) (pc := 3) (tgt := 12) dL_drawn_3 (by decide) (fun cc => ?_) (fun cc => ?_)
  · have hf := tq_ifp ep2 cc
    refine tq_ldc (M := mL_drawn b sn xs) (pc := 12) dL_drawn_12 tk_RL_170 ?_
    refine tq_iload_n (M := mL_drawn b sn xs) (pc := 14) dL_drawn_14 rfl ?_
    refine tq_iconst (M := mL_drawn b sn xs) (pc := 15) dL_drawn_15 tk_ki_3 ?_
    refine tq_iadd (M := mL_drawn b sn xs) (pc := 16) dL_drawn_16 ?_
    refine tq_imul (M := mL_drawn b sn xs) (pc := 17) dL_drawn_17 ?_
    refine tq_sipush (M := mL_drawn b sn xs) (pc := 18) dL_drawn_18 tk_ks_14249 ?_
    refine tq_iadd (M := mL_drawn b sn xs) (pc := 21) dL_drawn_21 ?_
    refine tq_pick (L2 := []) [] rfl ?_
    cases (Option.some.inj hf)
    exact HJ3
  · have hf := tq_ifn ep2 cc
    refine tq_xload (M := mL_drawn b sn xs) (pc := 6) dL_drawn_6 rfl ?_
    refine tq_iload_n (M := mL_drawn b sn xs) (pc := 7) dL_drawn_7 rfl ?_
    obtain ⟨x1, ex1, hf⟩ := tq_be hf
    refine tq_xld (M := mL_drawn b sn xs) (pc := 8) dL_drawn_8 (n := sn) (xs := xs) rfl ex1 ?_
    refine tq_goto (M := mL_drawn b sn xs) (pc := 9) (tgt := 22) dL_drawn_9 (by decide) ?_
    refine tq_pick (L2 := []) [] rfl ?_
    cases (Option.some.inj hf)
    exact HJ3
