/-! ===== the class's object at the start ===== -/
def H0 : tq_H := (0, fun _ => .inl (0, []))
def rest10 (w36 : tq_H) : Option tq_H :=
  (tq_pf w36 0 10 11 (.null)).bind fun w37 =>
  (tq_pf w37 0 10 12 (.int (0 : Int32))).bind fun w38 =>
  (tq_pf w38 0 10 13 (.int (0 : Int32))).bind fun w39 =>
  (tq_pf w39 0 10 14 (.int (0 : Int32))).bind fun w40 =>
  (tq_pf w40 0 10 15 (.long (0 : Int64))).bind fun w41 =>
  (tq_pf w41 0 10 16 (.long (0 : Int64))).bind fun w42 =>
  (tq_pf w42 0 10 17 (.int (0 : Int32))).bind fun w43 =>
  (tq_pf w43 0 10 18 (.int (1 : Int32))).bind fun w44 =>
  (tq_gr w44 0 10 0).bind fun k45 =>
  (tq_is w44 k45 8).bind fun _ =>
  (f_X8_make k45 (0 : Int32) (0 : Int32) (-1 : Int32) w44).bind fun v46 =>
  (tq_gr v46.2 0 10 0).bind fun k48 =>
  (tq_is v46.2 k48 8).bind fun _ =>
  (f_X8_layOut k48 v46.2).bind fun v49 =>
  (tq_gr v49 0 10 0).bind fun k51 =>
  (tq_is v49 k51 8).bind fun _ =>
  (f_X8_numberAnew k51 v49).bind fun v52 =>
  (tq_gr v52 0 10 4).bind fun k54 =>
  (tq_gr v52 0 10 0).bind fun k55 =>
  (tq_gr v52 k55 8 0).bind fun k56 =>
  (tq_is v52 k56 3).bind fun _ =>
  (f_X3_everything k56 v52).bind fun v57 =>
  (tq_is v52 k54 2).bind fun _ =>
  (f_X2_start k54 v57 v52).bind fun v59 =>
  some v59
def tqT : List tq_O := treeB 1 ++ treeB 41 ++ updB 81 ++ pthB 98 ++ fndB 117 1 2 98 ++ fndB 124 1 2 98 ++ schB 131 ++ [.inr (3, (6, .inr (.inr (.inr (.inr (fun _ => none))))))] ++ rowB 149 5 (-1) ++ rowB 151 5 0 ++ setB 153 5
section TQM
theorem H0_1 : H0.1 = 0 := rfl
theorem row_len (b n : Nat) (x : Int32) : (rowB b n x).length = 2 := rfl
theorem set_len (b n : Nat) : (setB b n).length = 2 := rfl
theorem upd_len (b : Nat) : (updB b).length = 17 := by simp only [updB, List.length_append, row_len, List.length_cons]
theorem pth_len (b : Nat) : (pthB b).length = 19 := by simp only [pthB, List.length_append, row_len, List.length_cons]
theorem sch_len (b : Nat) : (schB b).length = 17 := by simp only [schB, List.length_append, row_len, List.length_cons]
theorem fnd_len (b a l p : Nat) : (fndB b a l p).length = 7 := by simp only [fndB, List.length_append, row_len, set_len, List.length_cons]
theorem gr_1 (o : tq_O) (B : List tq_O) : tq_gr (hl H0 (o :: (treeB 1 ++ B))) 1 8 0 = some 2 := by
  have e : (hl H0 (o :: (treeB 1 ++ B))).2 (H0.1 + 1) = _ := hl_at (i := 1) rfl
  have e : (hl H0 (o :: (treeB 1 ++ B))).2 1 = _ := e
  unfold tq_gr
  rw [e]
  rfl
theorem tq_made : f_X10_init H0.1 (hl H0 [.inl (10, [.null, .null, .null, .null, .null, .null, .null, .null, .null, .null, .null, .null, .int 0, .int 0, .int 0, .long 0, .long 0, .int 0, .int 0])]) = rest10 (hl H0 (.inl (10, [.ref 1, .ref 41, .ref 81, .ref 98, .ref 117, .ref 124, .ref 131, .ref 148, .ref 149, .ref 151, .ref 153, .null, .int 0, .int 0, .int 0, .long 0, .long 0, .int 0, .int 0]) :: tqT)) := by
  unfold f_X10_init
  rw [st_sub mk_tree 1 (by simp) (by simp only [H0_1, List.length_append, tree_len, upd_len, pth_len, fnd_len, sch_len, row_len, set_len, List.length_cons, List.length_nil]), st_sub mk_tree 41 (by simp) (by simp only [H0_1, List.length_append, tree_len, upd_len, pth_len, fnd_len, sch_len, row_len, set_len, List.length_cons, List.length_nil]), st_sub mk_upd 81 (by simp) (by simp only [H0_1, List.length_append, tree_len, upd_len, pth_len, fnd_len, sch_len, row_len, set_len, List.length_cons, List.length_nil]), st_sub mk_pth 98 (by simp) (by simp only [H0_1, List.length_append, tree_len, upd_len, pth_len, fnd_len, sch_len, row_len, set_len, List.length_cons, List.length_nil])]
  rw [st_fnd (a := 1) (l := 2) (p := 98) (N := 117) (by simp) (by simp only [H0_1, List.length_append, tree_len, upd_len, pth_len, fnd_len, sch_len, row_len, set_len, List.length_cons, List.length_nil]) rfl rfl (by simp only [H0_1, List.length_append, tree_len, upd_len, pth_len, fnd_len, sch_len, row_len, set_len, List.length_cons, List.length_nil]; decide) (by simp only [List.nil_append, List.append_assoc]; exact gr_1 _ _)]
  rw [st_fnd (a := 1) (l := 2) (p := 98) (N := 124) (by simp) (by simp only [H0_1, List.length_append, tree_len, upd_len, pth_len, fnd_len, sch_len, row_len, set_len, List.length_cons, List.length_nil]) rfl rfl (by simp only [H0_1, List.length_append, tree_len, upd_len, pth_len, fnd_len, sch_len, row_len, set_len, List.length_cons, List.length_nil]; decide) (by simp only [List.nil_append, List.append_assoc]; exact gr_1 _ _)]
  rw [st_sub mk_sch 131 (by simp) (by simp only [H0_1, List.length_append, tree_len, upd_len, pth_len, fnd_len, sch_len, row_len, set_len, List.length_cons, List.length_nil]), st_arr 148 (by simp) (by simp only [H0_1, List.length_append, tree_len, upd_len, pth_len, fnd_len, sch_len, row_len, set_len, List.length_cons, List.length_nil])]
  rw [st_row (a := 5) 5 149 (by decide) rfl (by simp) (by simp only [H0_1, List.length_append, tree_len, upd_len, pth_len, fnd_len, sch_len, row_len, set_len, List.length_cons, List.length_nil]), st_row (a := 5) 5 151 (by decide) rfl (by simp) (by simp only [H0_1, List.length_append, tree_len, upd_len, pth_len, fnd_len, sch_len, row_len, set_len, List.length_cons, List.length_nil]), st_set (a := 5) 5 153 (by decide) rfl (by simp) (by simp only [H0_1, List.length_append, tree_len, upd_len, pth_len, fnd_len, sch_len, row_len, set_len, List.length_cons, List.length_nil])]
  rfl
end TQM
