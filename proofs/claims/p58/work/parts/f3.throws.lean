/-! ===== printed by wip/p58/tools/gen_ref.py: calls that throw ===== -/
section RFS
variable {S : tq_H} {c c' : tc_C} {di : DI} {D : Doc} {m : Nat} {U : Ups} {P : Pat} {H : Nat → Bool} {Z : Sma} {X : Nat → Bool} {nw : Nat} {ed : Option Nat} {nv : Nat} {vt mv : Nat → Nat} {Dv : Nat → Doc} {i j k p : Nat} {v x x1 x2 x3 x4 : Int32}
theorem ng_element_n (hC : Cor S c di D m U P H Z X nw ed nv vt mv Dv) (hi : ∀ i, ¬ D.At v i) : f_L_element 0 v x2 x3 (tc_mk S c) = some ((-2000000001 : Int32), tc_mk S c) := by
  have c1 := hC.plc_n (x := x2) hi
  have e : f_X10_insertElement 0 v x2 x3 (tc_mk S c) = some (.inl "java/lang/IndexOutOfBoundsException", tc_mk S c) := by simp (maxSteps := 3000000) (disch := omega) only [Option.bind_some, tc_bs, tq_let, tc_I1, tc_I2, tc_J1, tc_J2, tc_J3, tc_F1, tc_F2, tc_F3, tc_F4, tc_G1, tc_G2, tc_G3, tc_G4, tc_G5, tc_us, tc_un, s_one, s_holds, s_J13_bitCount, bz_bI, f_X10_insertElement, hC.tq.f, c1, tb_r, tb_l, if_true, if_false]
  simp only [f_L_element, rd_is hC, e, Option.bind_some, nAI, nSI, nSA, if_true, if_false]
theorem ng_element_p (hC : Cor S c di D m U P H Z X nw ed nv vt mv Dv) (hi : D.At 0 0) (q : ¬ (0 ≤ x2 ∧ x2 ≤ nI (fb_ct (D.ax 1 0) 64))) : f_L_element 0 0 x2 x3 (tc_mk S c) = some ((-2000000001 : Int32), tc_mk S c) := by
  have c1 := (hC.plc hi).2 q
  have e : f_X10_insertElement 0 0 x2 x3 (tc_mk S c) = some (.inl "java/lang/IndexOutOfBoundsException", tc_mk S c) := by simp (maxSteps := 3000000) (disch := omega) only [Option.bind_some, tc_bs, tq_let, tc_I1, tc_I2, tc_J1, tc_J2, tc_J3, tc_F1, tc_F2, tc_F3, tc_F4, tc_G1, tc_G2, tc_G3, tc_G4, tc_G5, tc_us, tc_un, s_one, s_holds, s_J13_bitCount, bz_bI, f_X10_insertElement, hC.tq.f, c1, tb_r, tb_l, if_true, if_false]
  simp only [f_L_element, rd_is hC, e, Option.bind_some, nAI, nSI, nSA, if_true, if_false]
theorem ng_element_a (hC : Cor S c di D m U P H Z X nw ed nv vt mv Dv) (hi : D.At 0 0) (q : ¬ (0 ≤ x3 ∧ x3 ≤ 7)) : f_L_element 0 0 0 x3 (tc_mk S c) = some ((-2000000002 : Int32), tc_mk S c) := by
  have c1 := (hC.plc (x := 0) hi).1 ⟨Int32.le_refl _, nI_pos' (by have := fb_ct_le (D.ax 1 0) 64; omega)⟩
  have c2 := rng_no (h := tc_mk S c) q
  have e : f_X10_insertElement 0 0 0 x3 (tc_mk S c) = some (.inl "java/lang/IllegalArgumentException", tc_mk S c) := by simp (maxSteps := 3000000) (disch := omega) only [Option.bind_some, tc_bs, tq_let, tc_I1, tc_I2, tc_J1, tc_J2, tc_J3, tc_F1, tc_F2, tc_F3, tc_F4, tc_G1, tc_G2, tc_G3, tc_G4, tc_G5, tc_us, tc_un, s_one, s_holds, s_J13_bitCount, bz_bI, f_X10_insertElement, hC.tq.f, c1, c2, tb_r, tb_l, if_true, if_false]
  simp only [f_L_element, rd_is hC, e, Option.bind_some, nAI, nSI, nSA, if_true, if_false]
theorem ng_text_a (hC : Cor S c di D m U P H Z X nw ed nv vt mv Dv) (hi : D.At 0 0) (q : ¬ (0 ≤ x3 ∧ x3 ≤ 999)) : f_L_text 0 0 0 x3 (tc_mk S c) = some ((-2000000002 : Int32), tc_mk S c) := by
  have c1 := (hC.plc (x := 0) hi).1 ⟨Int32.le_refl _, nI_pos' (by have := fb_ct_le (D.ax 1 0) 64; omega)⟩
  have c2 := rng_no (h := tc_mk S c) q
  have e : f_X10_insertText 0 0 0 x3 (tc_mk S c) = some (.inl "java/lang/IllegalArgumentException", tc_mk S c) := by simp (maxSteps := 3000000) (disch := omega) only [Option.bind_some, tc_bs, tq_let, tc_I1, tc_I2, tc_J1, tc_J2, tc_J3, tc_F1, tc_F2, tc_F3, tc_F4, tc_G1, tc_G2, tc_G3, tc_G4, tc_G5, tc_us, tc_un, s_one, s_holds, s_J13_bitCount, bz_bI, f_X10_insertText, hC.tq.f, c1, c2, tb_r, tb_l, if_true, if_false]
  simp only [f_L_text, rd_is hC, e, Option.bind_some, nAI, nSI, nSA, if_true, if_false]
theorem ng_attribute_a (hC : Cor S c di D m U P H Z X nw ed nv vt mv Dv) (hi : D.At 0 0) (q : ¬ (0 ≤ x2 ∧ x2 ≤ 7)) : f_L_attribute 0 0 x2 x3 (tc_mk S c) = some ((-2000000002 : Int32), tc_mk S c) := by
  have cn := hC.need hi
  have c2 := rng_no (h := tc_mk S c) q
  have e : f_X10_insertAttribute 0 0 x2 x3 (tc_mk S c) = some (.inl "java/lang/IllegalArgumentException", tc_mk S c) := by simp (maxSteps := 3000000) (disch := omega) only [Option.bind_some, tc_bs, tq_let, tc_I1, tc_I2, tc_J1, tc_J2, tc_J3, tc_F1, tc_F2, tc_F3, tc_F4, tc_G1, tc_G2, tc_G3, tc_G4, tc_G5, tc_us, tc_un, s_one, s_holds, s_J13_bitCount, bz_bI, f_X10_insertAttribute, hC.tq.f, hC.t1.f, cn, c2, tb_r, tb_l, if_true, if_false]
  simp only [f_L_attribute, rd_is hC, e, Option.bind_some, nAI, nSI, nSA, if_true, if_false]
theorem ng_attribute_n (hC : Cor S c di D m U P H Z X nw ed nv vt mv Dv) (hi : ∀ i, ¬ D.At v i) : f_L_attribute 0 v x2 x3 (tc_mk S c) = some ((-2000000001 : Int32), tc_mk S c) := by
  have cn := hC.need_n hi
  have e : f_X10_insertAttribute 0 v x2 x3 (tc_mk S c) = some (.inl "java/lang/IndexOutOfBoundsException", tc_mk S c) := by simp (maxSteps := 3000000) (disch := omega) only [Option.bind_some, tc_bs, tq_let, tc_I1, tc_I2, tc_J1, tc_J2, tc_J3, tc_F1, tc_F2, tc_F3, tc_F4, tc_G1, tc_G2, tc_G3, tc_G4, tc_G5, tc_us, tc_un, s_one, s_holds, s_J13_bitCount, bz_bI, f_X10_insertAttribute, hC.tq.f, hC.t1.f, cn, tb_r, tb_l, if_true, if_false]
  simp only [f_L_attribute, rd_is hC, e, Option.bind_some, nAI, nSI, nSA, if_true, if_false]
theorem ng_attribute_f (hC : Cor S c di D m U P H Z X nw ed nv vt mv Dv) (hi : D.At 0 0) (q : ¬ U.n < 20) : f_L_attribute 0 0 0 0 (tc_mk S c) = some ((-2000000003 : Int32), tc_mk S c) := by
  have cn := hC.need hi
  have c2 := rng_ok (h := tc_mk S c) (show (0 : Int32) ≤ 0 by decide) (show (0 : Int32) ≤ 7 by decide)
  have c5 := rng_ok (h := tc_mk S c) (show (0 : Int32) ≤ 0 by decide) (show (0 : Int32) ≤ 999 by decide)
  have c3 := (hC.elem hi).1 (D.kd_0 hC.gt.1.1)
  have c4 := hC.room.2 q
  have e : f_X10_insertAttribute 0 0 0 0 (tc_mk S c) = some (.inl "java/lang/IllegalStateException", tc_mk S c) := by simp (maxSteps := 3000000) (disch := omega) only [Option.bind_some, tc_bs, tq_let, tc_I1, tc_I2, tc_J1, tc_J2, tc_J3, tc_F1, tc_F2, tc_F3, tc_F4, tc_G1, tc_G2, tc_G3, tc_G4, tc_G5, tc_us, tc_un, s_one, s_holds, s_J13_bitCount, bz_bI, f_X10_insertAttribute, hC.tq.f, hC.t1.f, cn, c2, c5, c3, c4, tb_r, tb_l, if_true, if_false]
  simp only [f_L_attribute, rd_is hC, e, Option.bind_some, nAI, nSI, nSA, if_true, if_false]
theorem ng_rename_f (hC : Cor S c di D m U P H Z X nw ed nv vt mv Dv) (hi : D.At 0 0) (q : ¬ U.n < 20) : f_L_rename 0 0 0 (tc_mk S c) = some ((-2000000003 : Int32), tc_mk S c) := by
  have cn := hC.need hi
  have c2 := rng_ok (h := tc_mk S c) (show (0 : Int32) ≤ 0 by decide) (show (0 : Int32) ≤ 7 by decide)
  have c4 := hC.room.2 q
  obtain ⟨-, ck⟩ := hC.rkd hi
  rw [D.kd_0 hC.gt.1.1] at ck
  have n01 : ¬ (0 : Int32) = 1 := by decide
  have e : f_X10_rename 0 0 0 (tc_mk S c) = some (.inl "java/lang/IllegalStateException", tc_mk S c) := by simp (maxSteps := 3000000) (disch := omega) only [Option.bind_some, tc_bs, tq_let, tc_I1, tc_I2, tc_J1, tc_J2, tc_J3, tc_F1, tc_F2, tc_F3, tc_F4, tc_G1, tc_G2, tc_G3, tc_G4, tc_G5, tc_us, tc_un, s_one, s_holds, s_J13_bitCount, bz_bI, f_X10_rename, hC.tq.f, hC.t1.f, cn, c2, ck, n01, c4, tb_r, tb_l, if_true, if_false]
  simp only [f_L_rename, rd_is hC, e, Option.bind_some, nAI, nSI, nSA, if_true, if_false]
theorem ng_declare_f (hC : Cor S c di D m U P H Z X nw ed nv vt mv Dv) (hi : D.At 0 0) (q : ¬ U.n < 20) : f_L_declare 0 0 0 (tc_mk S c) = some ((-2000000003 : Int32), tc_mk S c) := by
  have cn := hC.need hi
  have c2 := rng_ok (h := tc_mk S c) (show (-1 : Int32) ≤ 0 by decide) (show (0 : Int32) ≤ 3 by decide)
  have c3 := (hC.elem hi).1 (D.kd_0 hC.gt.1.1)
  have c4 := hC.room.2 q
  have e : f_X10_declare 0 0 0 (tc_mk S c) = some (.inl "java/lang/IllegalStateException", tc_mk S c) := by simp (maxSteps := 3000000) (disch := omega) only [Option.bind_some, tc_bs, tq_let, tc_I1, tc_I2, tc_J1, tc_J2, tc_J3, tc_F1, tc_F2, tc_F3, tc_F4, tc_G1, tc_G2, tc_G3, tc_G4, tc_G5, tc_us, tc_un, s_one, s_holds, s_J13_bitCount, bz_bI, f_X10_declare, hC.tq.f, hC.t1.f, cn, c2, c3, c4, tb_r, tb_l, if_true, if_false]
  simp only [f_L_declare, rd_is hC, e, Option.bind_some, nAI, nSI, nSA, if_true, if_false]
theorem ng_remove_n (hC : Cor S c di D m U P H Z X nw ed nv vt mv Dv) (hi : ∀ i, ¬ D.At v i) : f_L_remove 0 v (tc_mk S c) = some ((-2000000001 : Int32), tc_mk S c) := by
  have cn := hC.need_n hi
  have e : f_X10_remove 0 v (tc_mk S c) = some (.inl "java/lang/IndexOutOfBoundsException", tc_mk S c) := by simp (maxSteps := 3000000) (disch := omega) only [Option.bind_some, tc_bs, tq_let, tc_I1, tc_I2, tc_J1, tc_J2, tc_J3, tc_F1, tc_F2, tc_F3, tc_F4, tc_G1, tc_G2, tc_G3, tc_G4, tc_G5, tc_us, tc_un, s_one, s_holds, s_J13_bitCount, bz_bI, f_X10_remove, hC.tq.f, hC.t1.f, cn, tb_r, tb_l, if_true, if_false]
  simp only [f_L_remove, rd_is hC, e, Option.bind_some, nAI, nSI, nSA, if_true, if_false]
theorem ng_remove_0 (hC : Cor S c di D m U P H Z X nw ed nv vt mv Dv) (hi : D.At 0 0) : f_L_remove 0 0 (tc_mk S c) = some ((-2000000003 : Int32), tc_mk S c) := by
  have cn := hC.need hi
  have e : f_X10_remove 0 0 (tc_mk S c) = some (.inl "java/lang/IllegalStateException", tc_mk S c) := by simp (maxSteps := 3000000) (disch := omega) only [Option.bind_some, tc_bs, tq_let, tc_I1, tc_I2, tc_J1, tc_J2, tc_J3, tc_F1, tc_F2, tc_F3, tc_F4, tc_G1, tc_G2, tc_G3, tc_G4, tc_G5, tc_us, tc_un, s_one, s_holds, s_J13_bitCount, bz_bI, f_X10_remove, hC.tq.f, hC.t1.f, cn, tb_r, tb_l, if_true, if_false]
  simp only [f_L_remove, rd_is hC, e, Option.bind_some, nAI, nSI, nSA, if_true, if_false]
theorem ng_rename_n (hC : Cor S c di D m U P H Z X nw ed nv vt mv Dv) (hi : ∀ i, ¬ D.At v i) : f_L_rename 0 v x2 (tc_mk S c) = some ((-2000000001 : Int32), tc_mk S c) := by
  have cn := hC.need_n hi
  have e : f_X10_rename 0 v x2 (tc_mk S c) = some (.inl "java/lang/IndexOutOfBoundsException", tc_mk S c) := by simp (maxSteps := 3000000) (disch := omega) only [Option.bind_some, tc_bs, tq_let, tc_I1, tc_I2, tc_J1, tc_J2, tc_J3, tc_F1, tc_F2, tc_F3, tc_F4, tc_G1, tc_G2, tc_G3, tc_G4, tc_G5, tc_us, tc_un, s_one, s_holds, s_J13_bitCount, bz_bI, f_X10_rename, hC.tq.f, hC.t1.f, cn, tb_r, tb_l, if_true, if_false]
  simp only [f_L_rename, rd_is hC, e, Option.bind_some, nAI, nSI, nSA, if_true, if_false]
theorem ng_rename_a (hC : Cor S c di D m U P H Z X nw ed nv vt mv Dv) (hi : D.At 0 0) (q : ¬ (0 ≤ x2 ∧ x2 ≤ 7)) : f_L_rename 0 0 x2 (tc_mk S c) = some ((-2000000002 : Int32), tc_mk S c) := by
  have cn := hC.need hi
  have c2 := rng_no (h := tc_mk S c) q
  have e : f_X10_rename 0 0 x2 (tc_mk S c) = some (.inl "java/lang/IllegalArgumentException", tc_mk S c) := by simp (maxSteps := 3000000) (disch := omega) only [Option.bind_some, tc_bs, tq_let, tc_I1, tc_I2, tc_J1, tc_J2, tc_J3, tc_F1, tc_F2, tc_F3, tc_F4, tc_G1, tc_G2, tc_G3, tc_G4, tc_G5, tc_us, tc_un, s_one, s_holds, s_J13_bitCount, bz_bI, f_X10_rename, hC.tq.f, hC.t1.f, cn, c2, tb_r, tb_l, if_true, if_false]
  simp only [f_L_rename, rd_is hC, e, Option.bind_some, nAI, nSI, nSA, if_true, if_false]
theorem ng_revalue_n (hC : Cor S c di D m U P H Z X nw ed nv vt mv Dv) (hi : ∀ i, ¬ D.At v i) : f_L_revalue 0 v x2 (tc_mk S c) = some ((-2000000001 : Int32), tc_mk S c) := by
  have cn := hC.need_n hi
  have e : f_X10_setValue 0 v x2 (tc_mk S c) = some (.inl "java/lang/IndexOutOfBoundsException", tc_mk S c) := by simp (maxSteps := 3000000) (disch := omega) only [Option.bind_some, tc_bs, tq_let, tc_I1, tc_I2, tc_J1, tc_J2, tc_J3, tc_F1, tc_F2, tc_F3, tc_F4, tc_G1, tc_G2, tc_G3, tc_G4, tc_G5, tc_us, tc_un, s_one, s_holds, s_J13_bitCount, bz_bI, f_X10_setValue, hC.tq.f, hC.t1.f, cn, tb_r, tb_l, if_true, if_false]
  simp only [f_L_revalue, rd_is hC, e, Option.bind_some, nAI, nSI, nSA, if_true, if_false]
theorem ng_revalue_a (hC : Cor S c di D m U P H Z X nw ed nv vt mv Dv) (hi : D.At 0 0) (q : ¬ (0 ≤ x2 ∧ x2 ≤ 999)) : f_L_revalue 0 0 x2 (tc_mk S c) = some ((-2000000002 : Int32), tc_mk S c) := by
  have cn := hC.need hi
  have c2 := rng_no (h := tc_mk S c) q
  have e : f_X10_setValue 0 0 x2 (tc_mk S c) = some (.inl "java/lang/IllegalArgumentException", tc_mk S c) := by simp (maxSteps := 3000000) (disch := omega) only [Option.bind_some, tc_bs, tq_let, tc_I1, tc_I2, tc_J1, tc_J2, tc_J3, tc_F1, tc_F2, tc_F3, tc_F4, tc_G1, tc_G2, tc_G3, tc_G4, tc_G5, tc_us, tc_un, s_one, s_holds, s_J13_bitCount, bz_bI, f_X10_setValue, hC.tq.f, hC.t1.f, cn, c2, tb_r, tb_l, if_true, if_false]
  simp only [f_L_revalue, rd_is hC, e, Option.bind_some, nAI, nSI, nSA, if_true, if_false]
theorem ng_revalue_0 (hC : Cor S c di D m U P H Z X nw ed nv vt mv Dv) (hi : D.At 0 0) (q : 0 ≤ x2 ∧ x2 ≤ 999) : f_L_revalue 0 0 x2 (tc_mk S c) = some ((-2000000003 : Int32), tc_mk S c) := by
  have cn := hC.need hi
  have c2 := rng_ok (h := tc_mk S c) q.1 q.2
  obtain ⟨-, ck⟩ := hC.rkd hi
  rw [D.kd_0 hC.gt.1.1] at ck
  have e : f_X10_setValue 0 0 x2 (tc_mk S c) = some (.inl "java/lang/IllegalStateException", tc_mk S c) := by simp (maxSteps := 3000000) (disch := omega) only [Option.bind_some, tc_bs, tq_let, tc_I1, tc_I2, tc_J1, tc_J2, tc_J3, tc_F1, tc_F2, tc_F3, tc_F4, tc_G1, tc_G2, tc_G3, tc_G4, tc_G5, tc_us, tc_un, s_one, s_holds, s_J13_bitCount, bz_bI, f_X10_setValue, hC.tq.f, hC.t1.f, cn, c2, ck, tb_r, tb_l, if_true, if_false]
  simp only [f_L_revalue, rd_is hC, e, Option.bind_some, nAI, nSI, nSA, if_true, if_false]
theorem ng_move_n (hC : Cor S c di D m U P H Z X nw ed nv vt mv Dv) (hi : ∀ i, ¬ D.At v i) : f_L_move 0 v x2 x3 (tc_mk S c) = some ((-2000000001 : Int32), tc_mk S c) := by
  have cn := hC.need_n hi
  have e : f_X10_move 0 v x2 x3 (tc_mk S c) = some (.inl "java/lang/IndexOutOfBoundsException", tc_mk S c) := by simp (maxSteps := 3000000) (disch := omega) only [Option.bind_some, tc_bs, tq_let, tc_I1, tc_I2, tc_J1, tc_J2, tc_J3, tc_F1, tc_F2, tc_F3, tc_F4, tc_G1, tc_G2, tc_G3, tc_G4, tc_G5, tc_us, tc_un, s_one, s_holds, s_J13_bitCount, bz_bI, f_X10_move, hC.tq.f, hC.t1.f, cn, tb_r, tb_l, if_true, if_false]
  simp only [f_L_move, rd_is hC, e, Option.bind_some, nAI, nSI, nSA, if_true, if_false]
theorem ng_move_p (hC : Cor S c di D m U P H Z X nw ed nv vt mv Dv) (hi : D.At 0 0) (hj : ∀ i, ¬ D.At v i) : f_L_move 0 0 v x3 (tc_mk S c) = some ((-2000000001 : Int32), tc_mk S c) := by
  have cn := hC.need hi
  have c1 := hC.plc_n (x := x3) hj
  have e : f_X10_move 0 0 v x3 (tc_mk S c) = some (.inl "java/lang/IndexOutOfBoundsException", tc_mk S c) := by simp (maxSteps := 3000000) (disch := omega) only [Option.bind_some, tc_bs, tq_let, tc_I1, tc_I2, tc_J1, tc_J2, tc_J3, tc_F1, tc_F2, tc_F3, tc_F4, tc_G1, tc_G2, tc_G3, tc_G4, tc_G5, tc_us, tc_un, s_one, s_holds, s_J13_bitCount, bz_bI, f_X10_move, hC.tq.f, hC.t1.f, cn, c1, tb_r, tb_l, if_true, if_false]
  simp only [f_L_move, rd_is hC, e, Option.bind_some, nAI, nSI, nSA, if_true, if_false]
theorem ng_move_0 (hC : Cor S c di D m U P H Z X nw ed nv vt mv Dv) (hi : D.At 0 0) : f_L_move 0 0 0 0 (tc_mk S c) = some ((-2000000003 : Int32), tc_mk S c) := by
  have cn := hC.need hi
  have c1 := (hC.plc (x := 0) hi).1 ⟨Int32.le_refl _, nI_pos' (by have := fb_ct_le (D.ax 1 0) 64; omega)⟩
  have e : f_X10_move 0 0 0 0 (tc_mk S c) = some (.inl "java/lang/IllegalStateException", tc_mk S c) := by simp (maxSteps := 3000000) (disch := omega) only [Option.bind_some, tc_bs, tq_let, tc_I1, tc_I2, tc_J1, tc_J2, tc_J3, tc_F1, tc_F2, tc_F3, tc_F4, tc_G1, tc_G2, tc_G3, tc_G4, tc_G5, tc_us, tc_un, s_one, s_holds, s_J13_bitCount, bz_bI, f_X10_move, hC.tq.f, hC.t1.f, cn, c1, tb_r, tb_l, if_true, if_false]
  simp only [f_L_move, rd_is hC, e, Option.bind_some, nAI, nSI, nSA, if_true, if_false]
theorem ng_declare_n (hC : Cor S c di D m U P H Z X nw ed nv vt mv Dv) (hi : ∀ i, ¬ D.At v i) : f_L_declare 0 v x2 (tc_mk S c) = some ((-2000000001 : Int32), tc_mk S c) := by
  have cn := hC.need_n hi
  have e : f_X10_declare 0 v x2 (tc_mk S c) = some (.inl "java/lang/IndexOutOfBoundsException", tc_mk S c) := by simp (maxSteps := 3000000) (disch := omega) only [Option.bind_some, tc_bs, tq_let, tc_I1, tc_I2, tc_J1, tc_J2, tc_J3, tc_F1, tc_F2, tc_F3, tc_F4, tc_G1, tc_G2, tc_G3, tc_G4, tc_G5, tc_us, tc_un, s_one, s_holds, s_J13_bitCount, bz_bI, f_X10_declare, hC.tq.f, hC.t1.f, cn, tb_r, tb_l, if_true, if_false]
  simp only [f_L_declare, rd_is hC, e, Option.bind_some, nAI, nSI, nSA, if_true, if_false]
theorem ng_declare_a (hC : Cor S c di D m U P H Z X nw ed nv vt mv Dv) (hi : D.At 0 0) (q : ¬ (-1 ≤ x2 ∧ x2 ≤ 3)) : f_L_declare 0 0 x2 (tc_mk S c) = some ((-2000000002 : Int32), tc_mk S c) := by
  have cn := hC.need hi
  have c2 := rng_no (h := tc_mk S c) q
  have e : f_X10_declare 0 0 x2 (tc_mk S c) = some (.inl "java/lang/IllegalArgumentException", tc_mk S c) := by simp (maxSteps := 3000000) (disch := omega) only [Option.bind_some, tc_bs, tq_let, tc_I1, tc_I2, tc_J1, tc_J2, tc_J3, tc_F1, tc_F2, tc_F3, tc_F4, tc_G1, tc_G2, tc_G3, tc_G4, tc_G5, tc_us, tc_un, s_one, s_holds, s_J13_bitCount, bz_bI, f_X10_declare, hC.tq.f, hC.t1.f, cn, c2, tb_r, tb_l, if_true, if_false]
  simp only [f_L_declare, rd_is hC, e, Option.bind_some, nAI, nSI, nSA, if_true, if_false]
theorem ng_kind_n (hC : Cor S c di D m U P H Z X nw ed nv vt mv Dv) (hi : ∀ i, ¬ D.At v i) : f_L_kind 0 v (tc_mk S c) = some ((-2000000001 : Int32), tc_mk S c) := by
  have cn := hC.need_n hi
  have e : f_X10_kind 0 v (tc_mk S c) = some (.inl "java/lang/IndexOutOfBoundsException", tc_mk S c) := by simp (maxSteps := 3000000) (disch := omega) only [Option.bind_some, tc_bs, tq_let, tc_I1, tc_I2, tc_J1, tc_J2, tc_J3, tc_F1, tc_F2, tc_F3, tc_F4, tc_G1, tc_G2, tc_G3, tc_G4, tc_G5, tc_us, tc_un, s_one, s_holds, s_J13_bitCount, bz_bI, f_X10_kind, hC.tq.f, hC.t1.f, cn, tb_r, tb_l, if_true, if_false]
  simp only [f_L_kind, rd_is hC, e, Option.bind_some, nAI, nSI, nSA, if_true, if_false]
theorem ng_name_n (hC : Cor S c di D m U P H Z X nw ed nv vt mv Dv) (hi : ∀ i, ¬ D.At v i) : f_L_name 0 v (tc_mk S c) = some ((-2000000001 : Int32), tc_mk S c) := by
  have cn := hC.need_n hi
  have e : f_X10_name 0 v (tc_mk S c) = some (.inl "java/lang/IndexOutOfBoundsException", tc_mk S c) := by simp (maxSteps := 3000000) (disch := omega) only [Option.bind_some, tc_bs, tq_let, tc_I1, tc_I2, tc_J1, tc_J2, tc_J3, tc_F1, tc_F2, tc_F3, tc_F4, tc_G1, tc_G2, tc_G3, tc_G4, tc_G5, tc_us, tc_un, s_one, s_holds, s_J13_bitCount, bz_bI, f_X10_name, hC.tq.f, hC.t1.f, cn, tb_r, tb_l, if_true, if_false]
  simp only [f_L_name, rd_is hC, e, Option.bind_some, nAI, nSI, nSA, if_true, if_false]
theorem ng_value_n (hC : Cor S c di D m U P H Z X nw ed nv vt mv Dv) (hi : ∀ i, ¬ D.At v i) : f_L_value 0 v (tc_mk S c) = some ((-2000000001 : Int32), tc_mk S c) := by
  have cn := hC.need_n hi
  have e : f_X10_value 0 v (tc_mk S c) = some (.inl "java/lang/IndexOutOfBoundsException", tc_mk S c) := by simp (maxSteps := 3000000) (disch := omega) only [Option.bind_some, tc_bs, tq_let, tc_I1, tc_I2, tc_J1, tc_J2, tc_J3, tc_F1, tc_F2, tc_F3, tc_F4, tc_G1, tc_G2, tc_G3, tc_G4, tc_G5, tc_us, tc_un, s_one, s_holds, s_J13_bitCount, bz_bI, f_X10_value, hC.tq.f, hC.t1.f, cn, tb_r, tb_l, if_true, if_false]
  simp only [f_L_value, rd_is hC, e, Option.bind_some, nAI, nSI, nSA, if_true, if_false]
theorem ng_parent_n (hC : Cor S c di D m U P H Z X nw ed nv vt mv Dv) (hi : ∀ i, ¬ D.At v i) : f_L_parent 0 v (tc_mk S c) = some ((-2000000001 : Int32), tc_mk S c) := by
  have cn := hC.need_n hi
  have e : f_X10_parent 0 v (tc_mk S c) = some (.inl "java/lang/IndexOutOfBoundsException", tc_mk S c) := by simp (maxSteps := 3000000) (disch := omega) only [Option.bind_some, tc_bs, tq_let, tc_I1, tc_I2, tc_J1, tc_J2, tc_J3, tc_F1, tc_F2, tc_F3, tc_F4, tc_G1, tc_G2, tc_G3, tc_G4, tc_G5, tc_us, tc_un, s_one, s_holds, s_J13_bitCount, bz_bI, f_X10_parent, hC.tq.f, hC.t1.f, cn, tb_r, tb_l, if_true, if_false]
  simp only [f_L_parent, rd_is hC, e, Option.bind_some, nAI, nSI, nSA, if_true, if_false]
theorem ng_space_n (hC : Cor S c di D m U P H Z X nw ed nv vt mv Dv) (hi : ∀ i, ¬ D.At v i) : f_L_space 0 v (tc_mk S c) = some ((-2000000001 : Int32), tc_mk S c) := by
  have cn := hC.need_n hi
  have e : f_X10_space 0 v (tc_mk S c) = some (.inl "java/lang/IndexOutOfBoundsException", tc_mk S c) := by simp (maxSteps := 3000000) (disch := omega) only [Option.bind_some, tc_bs, tq_let, tc_I1, tc_I2, tc_J1, tc_J2, tc_J3, tc_F1, tc_F2, tc_F3, tc_F4, tc_G1, tc_G2, tc_G3, tc_G4, tc_G5, tc_us, tc_un, s_one, s_holds, s_J13_bitCount, bz_bI, f_X10_space, hC.tq.f, hC.t1.f, cn, tb_r, tb_l, if_true, if_false]
  simp only [f_L_space, rd_is hC, e, Option.bind_some, nAI, nSI, nSA, if_true, if_false]
theorem ng_number_n (hC : Cor S c di D m U P H Z X nw ed nv vt mv Dv) (hi : ∀ i, ¬ D.At v i) : f_L_number 0 v (tc_mk S c) = some ((-2000000001 : Int32), tc_mk S c) := by
  have cn := hC.need_n hi
  have e : f_X10_number 0 v (tc_mk S c) = some (.inl "java/lang/IndexOutOfBoundsException", tc_mk S c) := by simp (maxSteps := 3000000) (disch := omega) only [Option.bind_some, tc_bs, tq_let, tc_I1, tc_I2, tc_J1, tc_J2, tc_J3, tc_F1, tc_F2, tc_F3, tc_F4, tc_G1, tc_G2, tc_G3, tc_G4, tc_G5, tc_us, tc_un, s_one, s_holds, s_J13_bitCount, bz_bI, f_X10_number, hC.tq.f, hC.t1.f, cn, tb_r, tb_l, if_true, if_false]
  simp only [f_L_number, rd_is hC, e, Option.bind_some, nAI, nSI, nSA, if_true, if_false]
theorem ng_seen_n (hC : Cor S c di D m U P H Z X nw ed nv vt mv Dv) (hi : ∀ i, ¬ D.At v i) : f_L_seen 0 v (tc_mk S c) = some ((-2000000001 : Int32), tc_mk S c) := by
  have cn := hC.need_n hi
  have e : f_X10_isSeen 0 v (tc_mk S c) = some (.inl "java/lang/IndexOutOfBoundsException", tc_mk S c) := by simp (maxSteps := 3000000) (disch := omega) only [Option.bind_some, tc_bs, tq_let, tc_I1, tc_I2, tc_J1, tc_J2, tc_J3, tc_F1, tc_F2, tc_F3, tc_F4, tc_G1, tc_G2, tc_G3, tc_G4, tc_G5, tc_us, tc_un, s_one, s_holds, s_J13_bitCount, bz_bI, f_X10_isSeen, hC.tq.f, hC.t1.f, cn, tb_r, tb_l, if_true, if_false]
  simp only [f_L_seen, rd_is hC, e, Option.bind_some, nAI, nSI, nSA, if_true, if_false]
theorem ng_types_n (hC : Cor S c di D m U P H Z X nw ed nv vt mv Dv) (hi : ∀ i, ¬ D.At v i) : f_L_types 0 v (tc_mk S c) = some ((-2000000001 : Int32), tc_mk S c) := by
  have cn := hC.need_n hi
  have e : f_X10_types 0 v (tc_mk S c) = some (.inl "java/lang/IndexOutOfBoundsException", tc_mk S c) := by simp (maxSteps := 3000000) (disch := omega) only [Option.bind_some, tc_bs, tq_let, tc_I1, tc_I2, tc_J1, tc_J2, tc_J3, tc_F1, tc_F2, tc_F3, tc_F4, tc_G1, tc_G2, tc_G3, tc_G4, tc_G5, tc_us, tc_un, s_one, s_holds, s_J13_bitCount, bz_bI, f_X10_types, hC.tq.f, hC.t1.f, cn, tb_r, tb_l, if_true, if_false]
  simp only [f_L_types, rd_is hC, e, Option.bind_some, nAI, nSI, nSA, if_true, if_false]
theorem ng_child_n (hC : Cor S c di D m U P H Z X nw ed nv vt mv Dv) (hi : ∀ i, ¬ D.At v i) : f_L_child 0 v x2 (tc_mk S c) = some ((-2000000001 : Int32), tc_mk S c) := by
  have cn := hC.need_n hi
  have e : f_X10_child 0 v x2 (tc_mk S c) = some (.inl "java/lang/IndexOutOfBoundsException", tc_mk S c) := by simp (maxSteps := 3000000) (disch := omega) only [Option.bind_some, tc_bs, tq_let, tc_I1, tc_I2, tc_J1, tc_J2, tc_J3, tc_F1, tc_F2, tc_F3, tc_F4, tc_G1, tc_G2, tc_G3, tc_G4, tc_G5, tc_us, tc_un, s_one, s_holds, s_J13_bitCount, bz_bI, f_X10_child, hC.tq.f, cn, tb_r, tb_l, if_true, if_false]
  simp only [f_L_child, rd_is hC, e, Option.bind_some, nAI, nSI, nSA, if_true, if_false]
theorem ng_child_0 (hC : Cor S c di D m U P H Z X nw ed nv vt mv Dv) (hi : D.At 0 0) (q : ¬ x2 ≥ 0) : f_L_child 0 0 x2 (tc_mk S c) = some ((-2000000001 : Int32), tc_mk S c) := by
  have cn := hC.need hi
  have e : f_X10_child 0 0 x2 (tc_mk S c) = some (.inl "java/lang/IndexOutOfBoundsException", tc_mk S c) := by simp (maxSteps := 3000000) (disch := omega) only [Option.bind_some, tc_bs, tq_let, tc_I1, tc_I2, tc_J1, tc_J2, tc_J3, tc_F1, tc_F2, tc_F3, tc_F4, tc_G1, tc_G2, tc_G3, tc_G4, tc_G5, tc_us, tc_un, s_one, s_holds, s_J13_bitCount, bz_bI, f_X10_child, hC.tq.f, f_X10_needNotNegative, cn, q, tb_r, tb_l, if_true, if_false]
  simp only [f_L_child, rd_is hC, e, Option.bind_some, nAI, nSI, nSA, if_true, if_false]
theorem ng_step_q (hC : Cor S c di D m U P H Z X nw ed nv vt mv Dv) (q : ¬ (0 ≤ x1 ∧ x1 < nI P.n)) : f_L_step 0 x1 x2 x3 x4 (tc_mk S c) = some ((-2000000001 : Int32), tc_mk S c) := by
  have cn := (hC.npath x1).2 q
  have i98 : ∀ c, tq_is (tc_mk S c) 98 4 = some () := fun c => by simp (maxSteps := 3000000) (disch := omega) only [Option.bind_some, tc_bs, tq_let, tc_I1, tc_I2, tc_J1, tc_J2, tc_J3, tc_F1, tc_F2, tc_F3, tc_F4, tc_G1, tc_G2, tc_G3, tc_G4, tc_G5, tc_us, tc_un, s_one, s_holds, s_J13_bitCount, bz_bI, hC.pth.f]
  have e : f_X10_step 0 x1 x2 x3 x4 (tc_mk S c) = some (.inl "java/lang/IndexOutOfBoundsException", tc_mk S c) := by simp (maxSteps := 3000000) (disch := omega) only [Option.bind_some, tc_bs, tq_let, tc_I1, tc_I2, tc_J1, tc_J2, tc_J3, tc_F1, tc_F2, tc_F3, tc_F4, tc_G1, tc_G2, tc_G3, tc_G4, tc_G5, tc_us, tc_un, s_one, s_holds, s_J13_bitCount, bz_bI, f_X10_step, hC.tq.f, i98, cn, tb_r, tb_l, if_true, if_false]
  simp only [f_L_step, rd_is hC, e, Option.bind_some, nAI, nSI, nSA, if_true, if_false]
theorem ng_place_q (hC : Cor S c di D m U P H Z X nw ed nv vt mv Dv) (q : ¬ (0 ≤ x1 ∧ x1 < nI P.n)) : f_L_place 0 x1 x2 x3 (tc_mk S c) = some ((-2000000001 : Int32), tc_mk S c) := by
  have cn := (hC.npath x1).2 q
  have i98 : ∀ c, tq_is (tc_mk S c) 98 4 = some () := fun c => by simp (maxSteps := 3000000) (disch := omega) only [Option.bind_some, tc_bs, tq_let, tc_I1, tc_I2, tc_J1, tc_J2, tc_J3, tc_F1, tc_F2, tc_F3, tc_F4, tc_G1, tc_G2, tc_G3, tc_G4, tc_G5, tc_us, tc_un, s_one, s_holds, s_J13_bitCount, bz_bI, hC.pth.f]
  have e : f_X10_place 0 x1 x2 x3 (tc_mk S c) = some (.inl "java/lang/IndexOutOfBoundsException", tc_mk S c) := by simp (maxSteps := 3000000) (disch := omega) only [Option.bind_some, tc_bs, tq_let, tc_I1, tc_I2, tc_J1, tc_J2, tc_J3, tc_F1, tc_F2, tc_F3, tc_F4, tc_G1, tc_G2, tc_G3, tc_G4, tc_G5, tc_us, tc_un, s_one, s_holds, s_J13_bitCount, bz_bI, f_X10_place, hC.tq.f, i98, cn, tb_r, tb_l, if_true, if_false]
  simp only [f_L_place, rd_is hC, e, Option.bind_some, nAI, nSI, nSA, if_true, if_false]
theorem ng_last_q (hC : Cor S c di D m U P H Z X nw ed nv vt mv Dv) (q : ¬ (0 ≤ x1 ∧ x1 < nI P.n)) : f_L_last 0 x1 (tc_mk S c) = some ((-2000000001 : Int32), tc_mk S c) := by
  have cn := (hC.npath x1).2 q
  have i98 : ∀ c, tq_is (tc_mk S c) 98 4 = some () := fun c => by simp (maxSteps := 3000000) (disch := omega) only [Option.bind_some, tc_bs, tq_let, tc_I1, tc_I2, tc_J1, tc_J2, tc_J3, tc_F1, tc_F2, tc_F3, tc_F4, tc_G1, tc_G2, tc_G3, tc_G4, tc_G5, tc_us, tc_un, s_one, s_holds, s_J13_bitCount, bz_bI, hC.pth.f]
  have e : f_X10_last 0 x1 (tc_mk S c) = some (.inl "java/lang/IndexOutOfBoundsException", tc_mk S c) := by simp (maxSteps := 3000000) (disch := omega) only [Option.bind_some, tc_bs, tq_let, tc_I1, tc_I2, tc_J1, tc_J2, tc_J3, tc_F1, tc_F2, tc_F3, tc_F4, tc_G1, tc_G2, tc_G3, tc_G4, tc_G5, tc_us, tc_un, s_one, s_holds, s_J13_bitCount, bz_bI, f_X10_last, hC.tq.f, i98, cn, tb_r, tb_l, if_true, if_false]
  simp only [f_L_last, rd_is hC, e, Option.bind_some, nAI, nSI, nSA, if_true, if_false]
theorem ng_has_q (hC : Cor S c di D m U P H Z X nw ed nv vt mv Dv) (q : ¬ (0 ≤ x1 ∧ x1 < nI P.n)) : f_L_has 0 x1 x2 1 (tc_mk S c) = some ((-2000000001 : Int32), tc_mk S c) := by
  have cn := (hC.npath x1).2 q
  have i98 : ∀ c, tq_is (tc_mk S c) 98 4 = some () := fun c => by simp (maxSteps := 3000000) (disch := omega) only [Option.bind_some, tc_bs, tq_let, tc_I1, tc_I2, tc_J1, tc_J2, tc_J3, tc_F1, tc_F2, tc_F3, tc_F4, tc_G1, tc_G2, tc_G3, tc_G4, tc_G5, tc_us, tc_un, s_one, s_holds, s_J13_bitCount, bz_bI, hC.pth.f]
  have e : f_X10_has 0 x1 x2 1 (tc_mk S c) = some (.inl "java/lang/IndexOutOfBoundsException", tc_mk S c) := by simp (maxSteps := 3000000) (disch := omega) only [Option.bind_some, tc_bs, tq_let, tc_I1, tc_I2, tc_J1, tc_J2, tc_J3, tc_F1, tc_F2, tc_F3, tc_F4, tc_G1, tc_G2, tc_G3, tc_G4, tc_G5, tc_us, tc_un, s_one, s_holds, s_J13_bitCount, bz_bI, f_X10_has, hC.tq.f, i98, cn, tb_r, tb_l, if_true, if_false]
  simp only [f_L_has, rd_is hC, e, Option.bind_some, nAI, nSI, nSA, if_true, if_false]
theorem ng_worth_q (hC : Cor S c di D m U P H Z X nw ed nv vt mv Dv) (q : ¬ (0 ≤ x1 ∧ x1 < nI P.n)) : f_L_worth 0 x1 x2 x3 x4 (tc_mk S c) = some ((-2000000001 : Int32), tc_mk S c) := by
  have cn := (hC.npath x1).2 q
  have i98 : ∀ c, tq_is (tc_mk S c) 98 4 = some () := fun c => by simp (maxSteps := 3000000) (disch := omega) only [Option.bind_some, tc_bs, tq_let, tc_I1, tc_I2, tc_J1, tc_J2, tc_J3, tc_F1, tc_F2, tc_F3, tc_F4, tc_G1, tc_G2, tc_G3, tc_G4, tc_G5, tc_us, tc_un, s_one, s_holds, s_J13_bitCount, bz_bI, hC.pth.f]
  have e : f_X10_worth 0 x1 x2 x3 x4 (tc_mk S c) = some (.inl "java/lang/IndexOutOfBoundsException", tc_mk S c) := by simp (maxSteps := 3000000) (disch := omega) only [Option.bind_some, tc_bs, tq_let, tc_I1, tc_I2, tc_J1, tc_J2, tc_J3, tc_F1, tc_F2, tc_F3, tc_F4, tc_G1, tc_G2, tc_G3, tc_G4, tc_G5, tc_us, tc_un, s_one, s_holds, s_J13_bitCount, bz_bI, f_X10_worth, hC.tq.f, i98, cn, tb_r, tb_l, if_true, if_false]
  simp only [f_L_worth, rd_is hC, e, Option.bind_some, nAI, nSI, nSA, if_true, if_false]
theorem ng_infer_q (hC : Cor S c di D m U P H Z X nw ed nv vt mv Dv) (q : ¬ (0 ≤ x1 ∧ x1 < nI P.n)) : f_L_infer 0 x1 (tc_mk S c) = some ((-2000000001 : Int32), tc_mk S c) := by
  have cn := (hC.npath x1).2 q
  have e : f_X10_infer 0 x1 (tc_mk S c) = some (.inl "java/lang/IndexOutOfBoundsException", tc_mk S c) := by simp (maxSteps := 3000000) (disch := omega) only [Option.bind_some, tc_bs, tq_let, tc_I1, tc_I2, tc_J1, tc_J2, tc_J3, tc_F1, tc_F2, tc_F3, tc_F4, tc_G1, tc_G2, tc_G3, tc_G4, tc_G5, tc_us, tc_un, s_one, s_holds, s_J13_bitCount, bz_bI, f_X10_infer, hC.tq.f, cn, tb_r, tb_l, if_true, if_false]
  simp only [f_L_infer, rd_is hC, e, Option.bind_some, nAI, nSI, nSA, if_true, if_false]
theorem ng_plan_q (hC : Cor S c di D m U P H Z X nw ed nv vt mv Dv) (q : ¬ (0 ≤ x1 ∧ x1 < nI P.n)) : f_L_plan 0 x1 (tc_mk S c) = some ((-2000000001 : Int32), tc_mk S c) := by
  have cn := (hC.npath x1).2 q
  have e : f_X10_plan 0 x1 (tc_mk S c) = some (.inl "java/lang/IndexOutOfBoundsException", tc_mk S c) := by simp (maxSteps := 3000000) (disch := omega) only [Option.bind_some, tc_bs, tq_let, tc_I1, tc_I2, tc_J1, tc_J2, tc_J3, tc_F1, tc_F2, tc_F3, tc_F4, tc_G1, tc_G2, tc_G3, tc_G4, tc_G5, tc_us, tc_un, s_one, s_holds, s_J13_bitCount, bz_bI, f_X10_plan, hC.tq.f, cn, tb_r, tb_l, if_true, if_false]
  simp only [f_L_plan, rd_is hC, e, Option.bind_some, nAI, nSI, nSA, if_true, if_false]
theorem ng_view_q (hC : Cor S c di D m U P H Z X nw ed nv vt mv Dv) (q : ¬ (0 ≤ x1 ∧ x1 < nI P.n)) : f_L_view 0 x1 (tc_mk S c) = some ((-2000000001 : Int32), tc_mk S c) := by
  have cn := (hC.npath x1).2 q
  have e : f_X10_view 0 x1 (tc_mk S c) = some (.inl "java/lang/IndexOutOfBoundsException", tc_mk S c) := by simp (maxSteps := 3000000) (disch := omega) only [Option.bind_some, tc_bs, tq_let, tc_I1, tc_I2, tc_J1, tc_J2, tc_J3, tc_F1, tc_F2, tc_F3, tc_F4, tc_G1, tc_G2, tc_G3, tc_G4, tc_G5, tc_us, tc_un, s_one, s_holds, s_J13_bitCount, bz_bI, f_X10_view, hC.tq.f, cn, tb_r, tb_l, if_true, if_false]
  simp only [f_L_view, rd_is hC, e, Option.bind_some, nAI, nSI, nSA, if_true, if_false]
theorem ng_hide_q (hC : Cor S c di D m U P H Z X nw ed nv vt mv Dv) (q : ¬ (0 ≤ x1 ∧ x1 < nI P.n)) : f_L_hide 0 x1 (tc_mk S c) = some ((-2000000001 : Int32), tc_mk S c) := by
  have cn := (hC.npath x1).2 q
  have e : f_X10_hide 0 x1 (tc_mk S c) = some (.inl "java/lang/IndexOutOfBoundsException", tc_mk S c) := by simp (maxSteps := 3000000) (disch := omega) only [Option.bind_some, tc_bs, tq_let, tc_I1, tc_I2, tc_J1, tc_J2, tc_J3, tc_F1, tc_F2, tc_F3, tc_F4, tc_G1, tc_G2, tc_G3, tc_G4, tc_G5, tc_us, tc_un, s_one, s_holds, s_J13_bitCount, bz_bI, f_X10_hide, hC.tq.f, cn, tb_r, tb_l, if_true, if_false]
  simp only [f_L_hide, rd_is hC, e, Option.bind_some, nAI, nSI, nSA, if_true, if_false]
theorem ng_step_l (hC : Cor S c di D m U P H Z X nw ed nv vt mv Dv) (hp : p < P.n) : f_L_step 0 (nI p) 12 x3 (nI p) (tc_mk S c) = some ((-2000000001 : Int32), tc_mk S c) := by
  have h20 := hC.gp.2.2.1
  have cn := (hC.npath (nI p)).1 ⟨nI_pos' (by omega), nI_lt hp (by omega)⟩
  have i98 : ∀ c, tq_is (tc_mk S c) 98 4 = some () := fun c => by simp (maxSteps := 3000000) (disch := omega) only [Option.bind_some, tc_bs, tq_let, tc_I1, tc_I2, tc_J1, tc_J2, tc_J3, tc_F1, tc_F2, tc_F3, tc_F4, tc_G1, tc_G2, tc_G3, tc_G4, tc_G5, tc_us, tc_un, s_one, s_holds, s_J13_bitCount, bz_bI, hC.pth.f]
  have cl := (nlower (tc_mk S c) (nI p) (nI p)).2 (fun z => absurd z.2 Int32.lt_irrefl)
  have e : f_X10_step 0 (nI p) 12 x3 (nI p) (tc_mk S c) = some (.inl "java/lang/IndexOutOfBoundsException", tc_mk S c) := by simp (maxSteps := 3000000) (disch := omega) only [Option.bind_some, tc_bs, tq_let, tc_I1, tc_I2, tc_J1, tc_J2, tc_J3, tc_F1, tc_F2, tc_F3, tc_F4, tc_G1, tc_G2, tc_G3, tc_G4, tc_G5, tc_us, tc_un, s_one, s_holds, s_J13_bitCount, bz_bI, f_X10_step, hC.tq.f, i98, cn, cl, tb_r, tb_l, if_true, if_false]
  simp only [f_L_step, rd_is hC, e, Option.bind_some, nAI, nSI, nSA, if_true, if_false]
theorem ng_step_a (hC : Cor S c di D m U P H Z X nw ed nv vt mv Dv) (hp : p < P.n) (q12 : ¬ x2 = 12) (q : ¬ (0 ≤ x2 ∧ x2 ≤ 12)) : f_L_step 0 (nI p) x2 x3 x4 (tc_mk S c) = some ((-2000000002 : Int32), tc_mk S c) := by
  have h20 := hC.gp.2.2.1
  have cn := (hC.npath (nI p)).1 ⟨nI_pos' (by omega), nI_lt hp (by omega)⟩
  have i98 : ∀ c, tq_is (tc_mk S c) 98 4 = some () := fun c => by simp (maxSteps := 3000000) (disch := omega) only [Option.bind_some, tc_bs, tq_let, tc_I1, tc_I2, tc_J1, tc_J2, tc_J3, tc_F1, tc_F2, tc_F3, tc_F4, tc_G1, tc_G2, tc_G3, tc_G4, tc_G5, tc_us, tc_un, s_one, s_holds, s_J13_bitCount, bz_bI, hC.pth.f]
  have c2 := rng_no (h := tc_mk S c) q
  have e : f_X10_step 0 (nI p) x2 x3 x4 (tc_mk S c) = some (.inl "java/lang/IllegalArgumentException", tc_mk S c) := by simp (maxSteps := 3000000) (disch := omega) only [Option.bind_some, tc_bs, tq_let, tc_I1, tc_I2, tc_J1, tc_J2, tc_J3, tc_F1, tc_F2, tc_F3, tc_F4, tc_G1, tc_G2, tc_G3, tc_G4, tc_G5, tc_us, tc_un, s_one, s_holds, s_J13_bitCount, bz_bI, f_X10_step, hC.tq.f, i98, cn, q12, c2, tb_r, tb_l, if_true, if_false]
  simp only [f_L_step, rd_is hC, e, Option.bind_some, nAI, nSI, nSA, if_true, if_false]
theorem ng_step_t (hC : Cor S c di D m U P H Z X nw ed nv vt mv Dv) (hp : p < P.n) (q : ¬ (0 ≤ x3 ∧ x3 ≤ 13)) : f_L_step 0 (nI p) 0 x3 x4 (tc_mk S c) = some ((-2000000002 : Int32), tc_mk S c) := by
  have h20 := hC.gp.2.2.1
  have cn := (hC.npath (nI p)).1 ⟨nI_pos' (by omega), nI_lt hp (by omega)⟩
  have i98 : ∀ c, tq_is (tc_mk S c) 98 4 = some () := fun c => by simp (maxSteps := 3000000) (disch := omega) only [Option.bind_some, tc_bs, tq_let, tc_I1, tc_I2, tc_J1, tc_J2, tc_J3, tc_F1, tc_F2, tc_F3, tc_F4, tc_G1, tc_G2, tc_G3, tc_G4, tc_G5, tc_us, tc_un, s_one, s_holds, s_J13_bitCount, bz_bI, hC.pth.f]
  have q12 : ¬ (0 : Int32) = 12 := by decide
  have c2 := rng_ok (h := tc_mk S c) (show (0 : Int32) ≤ 0 by decide) (show (0 : Int32) ≤ 12 by decide)
  have c3 := rng_no (h := tc_mk S c) q
  have e : f_X10_step 0 (nI p) 0 x3 x4 (tc_mk S c) = some (.inl "java/lang/IllegalArgumentException", tc_mk S c) := by simp (maxSteps := 3000000) (disch := omega) only [Option.bind_some, tc_bs, tq_let, tc_I1, tc_I2, tc_J1, tc_J2, tc_J3, tc_F1, tc_F2, tc_F3, tc_F4, tc_G1, tc_G2, tc_G3, tc_G4, tc_G5, tc_us, tc_un, s_one, s_holds, s_J13_bitCount, bz_bI, f_X10_step, hC.tq.f, i98, cn, q12, c2, c3, tb_r, tb_l, if_true, if_false]
  simp only [f_L_step, rd_is hC, e, Option.bind_some, nAI, nSI, nSA, if_true, if_false]
theorem ng_step_b (hC : Cor S c di D m U P H Z X nw ed nv vt mv Dv) (hp : p < P.n) : f_L_step 0 (nI p) 0 8 0 (tc_mk S c) = some ((-2000000002 : Int32), tc_mk S c) := by
  have h20 := hC.gp.2.2.1
  have cn := (hC.npath (nI p)).1 ⟨nI_pos' (by omega), nI_lt hp (by omega)⟩
  have i98 : ∀ c, tq_is (tc_mk S c) 98 4 = some () := fun c => by simp (maxSteps := 3000000) (disch := omega) only [Option.bind_some, tc_bs, tq_let, tc_I1, tc_I2, tc_J1, tc_J2, tc_J3, tc_F1, tc_F2, tc_F3, tc_F4, tc_G1, tc_G2, tc_G3, tc_G4, tc_G5, tc_us, tc_un, s_one, s_holds, s_J13_bitCount, bz_bI, hC.pth.f]
  have q12 : ¬ (0 : Int32) = 12 := by decide
  have c2 := rng_ok (h := tc_mk S c) (show (0 : Int32) ≤ 0 by decide) (show (0 : Int32) ≤ 12 by decide)
  have c3 := rng_ok (h := tc_mk S c) (show (0 : Int32) ≤ 8 by decide) (show (8 : Int32) ≤ 13 by decide)
  have q4 : ¬ (0 : Int32) = -1 := by decide
  have e : f_X10_step 0 (nI p) 0 8 0 (tc_mk S c) = some (.inl "java/lang/IllegalArgumentException", tc_mk S c) := by simp (maxSteps := 3000000) (disch := omega) only [Option.bind_some, tc_bs, tq_let, tc_I1, tc_I2, tc_J1, tc_J2, tc_J3, tc_F1, tc_F2, tc_F3, tc_F4, tc_G1, tc_G2, tc_G3, tc_G4, tc_G5, tc_us, tc_un, s_one, s_holds, s_J13_bitCount, bz_bI, f_X10_step, hC.tq.f, i98, cn, q12, c2, c3, q4, tb_r, tb_l, if_true, if_false]
  simp only [f_L_step, rd_is hC, e, Option.bind_some, nAI, nSI, nSA, if_true, if_false]
theorem ng_step_s (hC : Cor S c di D m U P H Z X nw ed nv vt mv Dv) (hp : p < P.n) (q : ¬ p + 1 = P.n) : f_L_step 0 (nI p) 0 8 (-1) (tc_mk S c) = some ((-2000000003 : Int32), tc_mk S c) := by
  have h20 := hC.gp.2.2.1
  have cn := (hC.npath (nI p)).1 ⟨nI_pos' (by omega), nI_lt hp (by omega)⟩
  have i98 : ∀ c, tq_is (tc_mk S c) 98 4 = some () := fun c => by simp (maxSteps := 3000000) (disch := omega) only [Option.bind_some, tc_bs, tq_let, tc_I1, tc_I2, tc_J1, tc_J2, tc_J3, tc_F1, tc_F2, tc_F3, tc_F4, tc_G1, tc_G2, tc_G3, tc_G4, tc_G5, tc_us, tc_un, s_one, s_holds, s_J13_bitCount, bz_bI, hC.pth.f]
  have q12 : ¬ (0 : Int32) = 12 := by decide
  have c2 := rng_ok (h := tc_mk S c) (show (0 : Int32) ≤ 0 by decide) (show (0 : Int32) ≤ 12 by decide)
  have c3 := rng_ok (h := tc_mk S c) (show (0 : Int32) ≤ 8 by decide) (show (8 : Int32) ≤ 13 by decide)
  have c8 := (hC.nopen hp).2 (fun z => q z.1)
  have e : f_X10_step 0 (nI p) 0 8 (-1) (tc_mk S c) = some (.inl "java/lang/IllegalStateException", tc_mk S c) := by simp (maxSteps := 3000000) (disch := omega) only [Option.bind_some, tc_bs, tq_let, tc_I1, tc_I2, tc_J1, tc_J2, tc_J3, tc_F1, tc_F2, tc_F3, tc_F4, tc_G1, tc_G2, tc_G3, tc_G4, tc_G5, tc_us, tc_un, s_one, s_holds, s_J13_bitCount, bz_bI, f_X10_step, hC.tq.f, i98, cn, q12, c2, c3, c8, tb_r, tb_l, if_true, if_false]
  simp only [f_L_step, rd_is hC, e, Option.bind_some, nAI, nSI, nSA, if_true, if_false]
theorem ng_last_s (hC : Cor S c di D m U P H Z X nw ed nv vt mv Dv) (hp : p < P.n) (q : ¬ p + 1 = P.n) : f_L_last 0 (nI p) (tc_mk S c) = some ((-2000000003 : Int32), tc_mk S c) := by
  have h20 := hC.gp.2.2.1
  have cn := (hC.npath (nI p)).1 ⟨nI_pos' (by omega), nI_lt hp (by omega)⟩
  have i98 : ∀ c, tq_is (tc_mk S c) 98 4 = some () := fun c => by simp (maxSteps := 3000000) (disch := omega) only [Option.bind_some, tc_bs, tq_let, tc_I1, tc_I2, tc_J1, tc_J2, tc_J3, tc_F1, tc_F2, tc_F3, tc_F4, tc_G1, tc_G2, tc_G3, tc_G4, tc_G5, tc_us, tc_un, s_one, s_holds, s_J13_bitCount, bz_bI, hC.pth.f]
  have c9 := (hC.nostep hp).2 (fun z => q z.1.1)
  have e : f_X10_last 0 (nI p) (tc_mk S c) = some (.inl "java/lang/IllegalStateException", tc_mk S c) := by simp (maxSteps := 3000000) (disch := omega) only [Option.bind_some, tc_bs, tq_let, tc_I1, tc_I2, tc_J1, tc_J2, tc_J3, tc_F1, tc_F2, tc_F3, tc_F4, tc_G1, tc_G2, tc_G3, tc_G4, tc_G5, tc_us, tc_un, s_one, s_holds, s_J13_bitCount, bz_bI, f_X10_last, hC.tq.f, i98, cn, c9, tb_r, tb_l, if_true, if_false]
  simp only [f_L_last, rd_is hC, e, Option.bind_some, nAI, nSI, nSA, if_true, if_false]
theorem ng_place_a (hC : Cor S c di D m U P H Z X nw ed nv vt mv Dv) (hp : p < P.n) (q : ¬ (0 ≤ x2 ∧ x2 ≤ 2)) : f_L_place 0 (nI p) x2 x3 (tc_mk S c) = some ((-2000000002 : Int32), tc_mk S c) := by
  have h20 := hC.gp.2.2.1
  have cn := (hC.npath (nI p)).1 ⟨nI_pos' (by omega), nI_lt hp (by omega)⟩
  have i98 : ∀ c, tq_is (tc_mk S c) 98 4 = some () := fun c => by simp (maxSteps := 3000000) (disch := omega) only [Option.bind_some, tc_bs, tq_let, tc_I1, tc_I2, tc_J1, tc_J2, tc_J3, tc_F1, tc_F2, tc_F3, tc_F4, tc_G1, tc_G2, tc_G3, tc_G4, tc_G5, tc_us, tc_un, s_one, s_holds, s_J13_bitCount, bz_bI, hC.pth.f]
  have c2 := rng_no (h := tc_mk S c) q
  have e : f_X10_place 0 (nI p) x2 x3 (tc_mk S c) = some (.inl "java/lang/IllegalArgumentException", tc_mk S c) := by simp (maxSteps := 3000000) (disch := omega) only [Option.bind_some, tc_bs, tq_let, tc_I1, tc_I2, tc_J1, tc_J2, tc_J3, tc_F1, tc_F2, tc_F3, tc_F4, tc_G1, tc_G2, tc_G3, tc_G4, tc_G5, tc_us, tc_un, s_one, s_holds, s_J13_bitCount, bz_bI, f_X10_place, hC.tq.f, i98, cn, c2, tb_r, tb_l, if_true, if_false]
  simp only [f_L_place, rd_is hC, e, Option.bind_some, nAI, nSI, nSA, if_true, if_false]
theorem ng_place_b (hC : Cor S c di D m U P H Z X nw ed nv vt mv Dv) (hp : p < P.n) (q : ¬ (0 ≤ x3 ∧ x3 ≤ 99)) : f_L_place 0 (nI p) 0 x3 (tc_mk S c) = some ((-2000000002 : Int32), tc_mk S c) := by
  have h20 := hC.gp.2.2.1
  have cn := (hC.npath (nI p)).1 ⟨nI_pos' (by omega), nI_lt hp (by omega)⟩
  have i98 : ∀ c, tq_is (tc_mk S c) 98 4 = some () := fun c => by simp (maxSteps := 3000000) (disch := omega) only [Option.bind_some, tc_bs, tq_let, tc_I1, tc_I2, tc_J1, tc_J2, tc_J3, tc_F1, tc_F2, tc_F3, tc_F4, tc_G1, tc_G2, tc_G3, tc_G4, tc_G5, tc_us, tc_un, s_one, s_holds, s_J13_bitCount, bz_bI, hC.pth.f]
  have c2 := rng_ok (h := tc_mk S c) (show (0 : Int32) ≤ 0 by decide) (show (0 : Int32) ≤ 2 by decide)
  have c3 := rng_no (h := tc_mk S c) q
  have e : f_X10_place 0 (nI p) 0 x3 (tc_mk S c) = some (.inl "java/lang/IllegalArgumentException", tc_mk S c) := by simp (maxSteps := 3000000) (disch := omega) only [Option.bind_some, tc_bs, tq_let, tc_I1, tc_I2, tc_J1, tc_J2, tc_J3, tc_F1, tc_F2, tc_F3, tc_F4, tc_G1, tc_G2, tc_G3, tc_G4, tc_G5, tc_us, tc_un, s_one, s_holds, s_J13_bitCount, bz_bI, f_X10_place, hC.tq.f, i98, cn, c2, c3, tb_r, tb_l, if_true, if_false]
  simp only [f_L_place, rd_is hC, e, Option.bind_some, nAI, nSI, nSA, if_true, if_false]
theorem ng_has_l (hC : Cor S c di D m U P H Z X nw ed nv vt mv Dv) (hp : p < P.n) : f_L_has 0 (nI p) (nI p) 1 (tc_mk S c) = some ((-2000000001 : Int32), tc_mk S c) := by
  have h20 := hC.gp.2.2.1
  have cn := (hC.npath (nI p)).1 ⟨nI_pos' (by omega), nI_lt hp (by omega)⟩
  have i98 : ∀ c, tq_is (tc_mk S c) 98 4 = some () := fun c => by simp (maxSteps := 3000000) (disch := omega) only [Option.bind_some, tc_bs, tq_let, tc_I1, tc_I2, tc_J1, tc_J2, tc_J3, tc_F1, tc_F2, tc_F3, tc_F4, tc_G1, tc_G2, tc_G3, tc_G4, tc_G5, tc_us, tc_un, s_one, s_holds, s_J13_bitCount, bz_bI, hC.pth.f]
  have cl := (nlower (tc_mk S c) (nI p) (nI p)).2 (fun z => absurd z.2 Int32.lt_irrefl)
  have e : f_X10_has 0 (nI p) (nI p) 1 (tc_mk S c) = some (.inl "java/lang/IndexOutOfBoundsException", tc_mk S c) := by simp (maxSteps := 3000000) (disch := omega) only [Option.bind_some, tc_bs, tq_let, tc_I1, tc_I2, tc_J1, tc_J2, tc_J3, tc_F1, tc_F2, tc_F3, tc_F4, tc_G1, tc_G2, tc_G3, tc_G4, tc_G5, tc_us, tc_un, s_one, s_holds, s_J13_bitCount, bz_bI, f_X10_has, hC.tq.f, i98, cn, cl, tb_r, tb_l, if_true, if_false]
  simp only [f_L_has, rd_is hC, e, Option.bind_some, nAI, nSI, nSA, if_true, if_false]
theorem ng_worth_l (hC : Cor S c di D m U P H Z X nw ed nv vt mv Dv) (hp : p < P.n) : f_L_worth 0 (nI p) (nI p) x3 x4 (tc_mk S c) = some ((-2000000001 : Int32), tc_mk S c) := by
  have h20 := hC.gp.2.2.1
  have cn := (hC.npath (nI p)).1 ⟨nI_pos' (by omega), nI_lt hp (by omega)⟩
  have i98 : ∀ c, tq_is (tc_mk S c) 98 4 = some () := fun c => by simp (maxSteps := 3000000) (disch := omega) only [Option.bind_some, tc_bs, tq_let, tc_I1, tc_I2, tc_J1, tc_J2, tc_J3, tc_F1, tc_F2, tc_F3, tc_F4, tc_G1, tc_G2, tc_G3, tc_G4, tc_G5, tc_us, tc_un, s_one, s_holds, s_J13_bitCount, bz_bI, hC.pth.f]
  have cl := (nlower (tc_mk S c) (nI p) (nI p)).2 (fun z => absurd z.2 Int32.lt_irrefl)
  have e : f_X10_worth 0 (nI p) (nI p) x3 x4 (tc_mk S c) = some (.inl "java/lang/IndexOutOfBoundsException", tc_mk S c) := by simp (maxSteps := 3000000) (disch := omega) only [Option.bind_some, tc_bs, tq_let, tc_I1, tc_I2, tc_J1, tc_J2, tc_J3, tc_F1, tc_F2, tc_F3, tc_F4, tc_G1, tc_G2, tc_G3, tc_G4, tc_G5, tc_us, tc_un, s_one, s_holds, s_J13_bitCount, bz_bI, f_X10_worth, hC.tq.f, i98, cn, cl, tb_r, tb_l, if_true, if_false]
  simp only [f_L_worth, rd_is hC, e, Option.bind_some, nAI, nSI, nSA, if_true, if_false]
theorem ng_viewed_q (hC : Cor S c di D m U P H Z X nw ed nv vt mv Dv) (q : ¬ (0 ≤ x1 ∧ x1 < nI nw)) : f_L_viewed 0 x1 x2 (tc_mk S c) = some ((-2000000001 : Int32), tc_mk S c) := by
  have g1 := hC.gv.1
  have c1 : f_X10_needIndex 0 x1 (nI nw) (tc_mk S c) = _ := idx_no q
  have e : f_X10_viewed 0 x1 x2 (tc_mk S c) = some (.inl "java/lang/IndexOutOfBoundsException", tc_mk S c) := by simp (maxSteps := 3000000) (disch := omega) only [Option.bind_some, tc_bs, tq_let, tc_I1, tc_I2, tc_J1, tc_J2, tc_J3, tc_F1, tc_F2, tc_F3, tc_F4, tc_G1, tc_G2, tc_G3, tc_G4, tc_G5, tc_us, tc_un, s_one, s_holds, s_J13_bitCount, bz_bI, f_X10_viewed, hC.tq.f, g1, c1, tb_r, tb_l, if_true, if_false]
  simp only [f_L_viewed, rd_is hC, e, Option.bind_some, nAI, nSI, nSA, if_true, if_false]
theorem ng_changed_q (hC : Cor S c di D m U P H Z X nw ed nv vt mv Dv) (q : ¬ (0 ≤ x1 ∧ x1 < nI nw)) : f_L_changed 0 x1 (tc_mk S c) = some ((-2000000001 : Int32), tc_mk S c) := by
  have g1 := hC.gv.1
  have c1 : f_X10_needIndex 0 x1 (nI nw) (tc_mk S c) = _ := idx_no q
  have e : f_X10_changed 0 x1 (tc_mk S c) = some (.inl "java/lang/IndexOutOfBoundsException", tc_mk S c) := by simp (maxSteps := 3000000) (disch := omega) only [Option.bind_some, tc_bs, tq_let, tc_I1, tc_I2, tc_J1, tc_J2, tc_J3, tc_F1, tc_F2, tc_F3, tc_F4, tc_G1, tc_G2, tc_G3, tc_G4, tc_G5, tc_us, tc_un, s_one, s_holds, s_J13_bitCount, bz_bI, f_X10_changed, hC.tq.f, g1, c1, tb_r, tb_l, if_true, if_false]
  simp only [f_L_changed, rd_is hC, e, Option.bind_some, nAI, nSI, nSA, if_true, if_false]
theorem ng_nameType_q (hC : Cor S c di D m U P H Z X nw ed nv vt mv Dv) (q : ¬ (0 ≤ x1 ∧ x1 < 6)) : f_L_nameType 0 x1 x2 (tc_mk S c) = some ((-2000000001 : Int32), tc_mk S c) := by
  have i1 := (typ_no q).1
  have e : f_X10_nameType 0 x1 x2 (tc_mk S c) = some (.inl "java/lang/IndexOutOfBoundsException", tc_mk S c) := by simp (maxSteps := 3000000) (disch := omega) only [Option.bind_some, tc_bs, tq_let, tc_I1, tc_I2, tc_J1, tc_J2, tc_J3, tc_F1, tc_F2, tc_F3, tc_F4, tc_G1, tc_G2, tc_G3, tc_G4, tc_G5, tc_us, tc_un, s_one, s_holds, s_J13_bitCount, bz_bI, f_X10_nameType, hC.tq.f, i1, tb_r, tb_l, if_true, if_false]
  simp only [f_L_nameType, rd_is hC, e, Option.bind_some, nAI, nSI, nSA, if_true, if_false]
theorem ng_nameType_a (hC : Cor S c di D m U P H Z X nw ed nv vt mv Dv) (q1 : 0 ≤ x1 ∧ x1 < 6) (q : ¬ (-1 ≤ x2 ∧ x2 ≤ 7)) : f_L_nameType 0 x1 x2 (tc_mk S c) = some ((-2000000002 : Int32), tc_mk S c) := by
  have i1 : ∀ h, f_X10_needIndex 0 x1 6 h = some (.inr (), h) := fun h => idx_ok q1.1 q1.2
  have c2 := rng_no (h := tc_mk S c) q
  have e : f_X10_nameType 0 x1 x2 (tc_mk S c) = some (.inl "java/lang/IllegalArgumentException", tc_mk S c) := by simp (maxSteps := 3000000) (disch := omega) only [Option.bind_some, tc_bs, tq_let, tc_I1, tc_I2, tc_J1, tc_J2, tc_J3, tc_F1, tc_F2, tc_F3, tc_F4, tc_G1, tc_G2, tc_G3, tc_G4, tc_G5, tc_us, tc_un, s_one, s_holds, s_J13_bitCount, bz_bI, f_X10_nameType, hC.tq.f, i1, c2, tb_r, tb_l, if_true, if_false]
  simp only [f_L_nameType, rd_is hC, e, Option.bind_some, nAI, nSI, nSA, if_true, if_false]
theorem ng_arc_q (hC : Cor S c di D m U P H Z X nw ed nv vt mv Dv) (q : ¬ (0 ≤ x1 ∧ x1 < 6)) : f_L_arc 0 x1 x2 x3 x4 (tc_mk S c) = some ((-2000000001 : Int32), tc_mk S c) := by
  have i1 := (typ_no q).1
  have e : f_X10_arc 0 x1 x2 x3 x4 (tc_mk S c) = some (.inl "java/lang/IndexOutOfBoundsException", tc_mk S c) := by simp (maxSteps := 3000000) (disch := omega) only [Option.bind_some, tc_bs, tq_let, tc_I1, tc_I2, tc_J1, tc_J2, tc_J3, tc_F1, tc_F2, tc_F3, tc_F4, tc_G1, tc_G2, tc_G3, tc_G4, tc_G5, tc_us, tc_un, s_one, s_holds, s_J13_bitCount, bz_bI, f_X10_arc, hC.tq.f, i1, tb_r, tb_l, if_true, if_false]
  simp only [f_L_arc, rd_is hC, e, Option.bind_some, nAI, nSI, nSA, if_true, if_false]
theorem ng_arc_s (hC : Cor S c di D m U P H Z X nw ed nv vt mv Dv) (q : ¬ (0 ≤ x2 ∧ x2 < 4)) : f_L_arc 0 0 x2 x3 x4 (tc_mk S c) = some ((-2000000001 : Int32), tc_mk S c) := by
  have i1 : ∀ h, f_X10_needIndex 0 0 6 h = some (.inr (), h) := fun h => idx_ok (by decide) (by decide)
  have i2 := (sta_no q).1
  have e : f_X10_arc 0 0 x2 x3 x4 (tc_mk S c) = some (.inl "java/lang/IndexOutOfBoundsException", tc_mk S c) := by simp (maxSteps := 3000000) (disch := omega) only [Option.bind_some, tc_bs, tq_let, tc_I1, tc_I2, tc_J1, tc_J2, tc_J3, tc_F1, tc_F2, tc_F3, tc_F4, tc_G1, tc_G2, tc_G3, tc_G4, tc_G5, tc_us, tc_un, s_one, s_holds, s_J13_bitCount, bz_bI, f_X10_arc, hC.tq.f, i1, i2, tb_r, tb_l, if_true, if_false]
  simp only [f_L_arc, rd_is hC, e, Option.bind_some, nAI, nSI, nSA, if_true, if_false]
theorem ng_fin_q (hC : Cor S c di D m U P H Z X nw ed nv vt mv Dv) (q : ¬ (0 ≤ x1 ∧ x1 < 6)) : f_L_fin 0 x1 x2 x3 (tc_mk S c) = some ((-2000000001 : Int32), tc_mk S c) := by
  have i1 := (typ_no q).1
  have e : f_X10_setFinal 0 x1 x2 x3 (tc_mk S c) = some (.inl "java/lang/IndexOutOfBoundsException", tc_mk S c) := by simp (maxSteps := 3000000) (disch := omega) only [Option.bind_some, tc_bs, tq_let, tc_I1, tc_I2, tc_J1, tc_J2, tc_J3, tc_F1, tc_F2, tc_F3, tc_F4, tc_G1, tc_G2, tc_G3, tc_G4, tc_G5, tc_us, tc_un, s_one, s_holds, s_J13_bitCount, bz_bI, f_X10_setFinal, hC.tq.f, i1, tb_r, tb_l, if_true, if_false]
  simp only [f_L_fin, rd_is hC, e, Option.bind_some, nAI, nSI, nSA, if_true, if_false]
theorem ng_texts_q (hC : Cor S c di D m U P H Z X nw ed nv vt mv Dv) (q : ¬ (0 ≤ x1 ∧ x1 < 6)) : f_L_texts 0 x1 x2 (tc_mk S c) = some ((-2000000001 : Int32), tc_mk S c) := by
  have i1 := (typ_no q).1
  have e : f_X10_allowTexts 0 x1 x2 (tc_mk S c) = some (.inl "java/lang/IndexOutOfBoundsException", tc_mk S c) := by simp (maxSteps := 3000000) (disch := omega) only [Option.bind_some, tc_bs, tq_let, tc_I1, tc_I2, tc_J1, tc_J2, tc_J3, tc_F1, tc_F2, tc_F3, tc_F4, tc_G1, tc_G2, tc_G3, tc_G4, tc_G5, tc_us, tc_un, s_one, s_holds, s_J13_bitCount, bz_bI, f_X10_allowTexts, hC.tq.f, i1, tb_r, tb_l, if_true, if_false]
  simp only [f_L_texts, rd_is hC, e, Option.bind_some, nAI, nSI, nSA, if_true, if_false]
theorem ng_says_q (hC : Cor S c di D m U P H Z X nw ed nv vt mv Dv) (q : ¬ (0 ≤ x1 ∧ x1 < 6)) : f_L_says 0 x1 x2 x3 (tc_mk S c) = some ((-2000000001 : Int32), tc_mk S c) := by
  have i1 := (typ_no q).1
  have e : f_X10_attribute 0 x1 x2 x3 (tc_mk S c) = some (.inl "java/lang/IndexOutOfBoundsException", tc_mk S c) := by simp (maxSteps := 3000000) (disch := omega) only [Option.bind_some, tc_bs, tq_let, tc_I1, tc_I2, tc_J1, tc_J2, tc_J3, tc_F1, tc_F2, tc_F3, tc_F4, tc_G1, tc_G2, tc_G3, tc_G4, tc_G5, tc_us, tc_un, s_one, s_holds, s_J13_bitCount, bz_bI, f_X10_attribute, hC.tq.f, i1, tb_r, tb_l, if_true, if_false]
  simp only [f_L_says, rd_is hC, e, Option.bind_some, nAI, nSI, nSA, if_true, if_false]
theorem ng_says_a (hC : Cor S c di D m U P H Z X nw ed nv vt mv Dv) (q1 : 0 ≤ x1 ∧ x1 < 6) (q : ¬ (0 ≤ x2 ∧ x2 ≤ 7)) : f_L_says 0 x1 x2 x3 (tc_mk S c) = some ((-2000000002 : Int32), tc_mk S c) := by
  have i1 : ∀ h, f_X10_needIndex 0 x1 6 h = some (.inr (), h) := fun h => idx_ok q1.1 q1.2
  have c2 := rng_no (h := tc_mk S c) q
  have e : f_X10_attribute 0 x1 x2 x3 (tc_mk S c) = some (.inl "java/lang/IllegalArgumentException", tc_mk S c) := by simp (maxSteps := 3000000) (disch := omega) only [Option.bind_some, tc_bs, tq_let, tc_I1, tc_I2, tc_J1, tc_J2, tc_J3, tc_F1, tc_F2, tc_F3, tc_F4, tc_G1, tc_G2, tc_G3, tc_G4, tc_G5, tc_us, tc_un, s_one, s_holds, s_J13_bitCount, bz_bI, f_X10_attribute, hC.tq.f, i1, c2, tb_r, tb_l, if_true, if_false]
  simp only [f_L_says, rd_is hC, e, Option.bind_some, nAI, nSI, nSA, if_true, if_false]
theorem ng_says_b (hC : Cor S c di D m U P H Z X nw ed nv vt mv Dv) (q1 : 0 ≤ x1 ∧ x1 < 6) (q : ¬ (0 ≤ x3 ∧ x3 ≤ 2)) : f_L_says 0 x1 0 x3 (tc_mk S c) = some ((-2000000002 : Int32), tc_mk S c) := by
  have i1 : ∀ h, f_X10_needIndex 0 x1 6 h = some (.inr (), h) := fun h => idx_ok q1.1 q1.2
  have c2 := rng_ok (h := tc_mk S c) (show (0 : Int32) ≤ 0 by decide) (show (0 : Int32) ≤ 7 by decide)
  have c3 := rng_no (h := tc_mk S c) q
  have e : f_X10_attribute 0 x1 0 x3 (tc_mk S c) = some (.inl "java/lang/IllegalArgumentException", tc_mk S c) := by simp (maxSteps := 3000000) (disch := omega) only [Option.bind_some, tc_bs, tq_let, tc_I1, tc_I2, tc_J1, tc_J2, tc_J3, tc_F1, tc_F2, tc_F3, tc_F4, tc_G1, tc_G2, tc_G3, tc_G4, tc_G5, tc_us, tc_un, s_one, s_holds, s_J13_bitCount, bz_bI, f_X10_attribute, hC.tq.f, i1, c2, c3, tb_r, tb_l, if_true, if_false]
  simp only [f_L_says, rd_is hC, e, Option.bind_some, nAI, nSI, nSA, if_true, if_false]
theorem ng_index_a (hC : Cor S c di D m U P H Z X nw ed nv vt mv Dv) (q : ¬ (0 ≤ x1 ∧ x1 ≤ 7)) : f_L_index 0 x1 (tc_mk S c) = some ((-2000000002 : Int32), tc_mk S c) := by
  have c2 := rng_no (h := tc_mk S c) q
  have e : f_X10_index 0 x1 (tc_mk S c) = some (.inl "java/lang/IllegalArgumentException", tc_mk S c) := by simp (maxSteps := 3000000) (disch := omega) only [Option.bind_some, tc_bs, tq_let, tc_I1, tc_I2, tc_J1, tc_J2, tc_J3, tc_F1, tc_F2, tc_F3, tc_F4, tc_G1, tc_G2, tc_G3, tc_G4, tc_G5, tc_us, tc_un, s_one, s_holds, s_J13_bitCount, bz_bI, f_X10_index, hC.tq.f, c2, tb_r, tb_l, if_true, if_false]
  simp only [f_L_index, rd_is hC, e, Option.bind_some, nAI, nSI, nSA, if_true, if_false]
theorem ng_ranked_n (hC : Cor S c di D m U P H Z X nw ed nv vt mv Dv) (q : ¬ 0 ≤ x2) : f_L_ranked 0 x1 x2 (tc_mk S c) = some ((-2000000001 : Int32), tc_mk S c) := by
  have c2 := nneg_no (h := tc_mk S c) q
  have e : f_X10_ranked 0 x1 x2 (tc_mk S c) = some (.inl "java/lang/IndexOutOfBoundsException", tc_mk S c) := by simp (maxSteps := 3000000) (disch := omega) only [Option.bind_some, tc_bs, tq_let, tc_I1, tc_I2, tc_J1, tc_J2, tc_J3, tc_F1, tc_F2, tc_F3, tc_F4, tc_G1, tc_G2, tc_G3, tc_G4, tc_G5, tc_us, tc_un, s_one, s_holds, s_J13_bitCount, bz_bI, f_X10_ranked, hC.tq.f, c2, tb_r, tb_l, if_true, if_false]
  simp only [f_L_ranked, rd_is hC, e, Option.bind_some, nAI, nSI, nSA, if_true, if_false]
theorem ng_ranked_a (hC : Cor S c di D m U P H Z X nw ed nv vt mv Dv) (q : ¬ (0 ≤ x1 ∧ x1 ≤ 999)) : f_L_ranked 0 x1 0 (tc_mk S c) = some ((-2000000002 : Int32), tc_mk S c) := by
  have c2 := nneg_ok (x := 0) (h := tc_mk S c) (Int32.le_refl _)
  have c1 := rng_no (h := tc_mk S c) q
  have e : f_X10_ranked 0 x1 0 (tc_mk S c) = some (.inl "java/lang/IllegalArgumentException", tc_mk S c) := by simp (maxSteps := 3000000) (disch := omega) only [Option.bind_some, tc_bs, tq_let, tc_I1, tc_I2, tc_J1, tc_J2, tc_J3, tc_F1, tc_F2, tc_F3, tc_F4, tc_G1, tc_G2, tc_G3, tc_G4, tc_G5, tc_us, tc_un, s_one, s_holds, s_J13_bitCount, bz_bI, f_X10_ranked, hC.tq.f, c1, c2, tb_r, tb_l, if_true, if_false]
  simp only [f_L_ranked, rd_is hC, e, Option.bind_some, nAI, nSI, nSA, if_true, if_false]
theorem ng_take_q (hC : Cor S c di D m U P H Z X nw ed nv vt mv Dv) (q : ¬ (0 ≤ x1 ∧ x1 < nI nv)) : f_L_take 0 x1 (tc_mk S c) = some ((-2000000001 : Int32), tc_mk S c) := by
  have l1 := (hC.ver_n q).1
  have e : f_X10_take 0 x1 (tc_mk S c) = some (.inl "java/lang/IndexOutOfBoundsException", tc_mk S c) := by simp (maxSteps := 3000000) (disch := omega) only [Option.bind_some, tc_bs, tq_let, tc_I1, tc_I2, tc_J1, tc_J2, tc_J3, tc_F1, tc_F2, tc_F3, tc_F4, tc_G1, tc_G2, tc_G3, tc_G4, tc_G5, tc_us, tc_un, s_one, s_holds, s_J13_bitCount, bz_bI, f_X10_take, hC.tq.f, l1, tb_r, tb_l, if_true, if_false]
  simp only [f_L_take, rd_is hC, e, Option.bind_some, nAI, nSI, nSA, if_true, if_false]
theorem ng_distance_q (hC : Cor S c di D m U P H Z X nw ed nv vt mv Dv) (q : ¬ (0 ≤ x1 ∧ x1 < nI nv)) : f_L_distance 0 x1 x2 (tc_mk S c) = some ((-2000000001 : Int32), tc_mk S c) := by
  have l1 := (hC.ver_n q).1
  have e : f_X10_distance 0 x1 x2 (tc_mk S c) = some (.inl "java/lang/IndexOutOfBoundsException", tc_mk S c) := by simp (maxSteps := 3000000) (disch := omega) only [Option.bind_some, tc_bs, tq_let, tc_I1, tc_I2, tc_J1, tc_J2, tc_J3, tc_F1, tc_F2, tc_F3, tc_F4, tc_G1, tc_G2, tc_G3, tc_G4, tc_G5, tc_us, tc_un, s_one, s_holds, s_J13_bitCount, bz_bI, f_X10_distance, hC.tq.f, l1, tb_r, tb_l, if_true, if_false]
  simp only [f_L_distance, rd_is hC, e, Option.bind_some, nAI, nSI, nSA, if_true, if_false]
theorem ng_odds_q (hC : Cor S c di D m U P H Z X nw ed nv vt mv Dv) (q : ¬ (0 ≤ x1 ∧ x1 < nI nv)) : f_L_odds 0 x1 x2 x3 (tc_mk S c) = some ((-2000000001 : Int32), tc_mk S c) := by
  have l1 := (hC.ver_n q).1
  have e : f_X10_odds 0 x1 x2 x3 (tc_mk S c) = some (.inl "java/lang/IndexOutOfBoundsException", tc_mk S c) := by simp (maxSteps := 3000000) (disch := omega) only [Option.bind_some, tc_bs, tq_let, tc_I1, tc_I2, tc_J1, tc_J2, tc_J3, tc_F1, tc_F2, tc_F3, tc_F4, tc_G1, tc_G2, tc_G3, tc_G4, tc_G5, tc_us, tc_un, s_one, s_holds, s_J13_bitCount, bz_bI, f_X10_odds, hC.tq.f, l1, tb_r, tb_l, if_true, if_false]
  simp only [f_L_odds, rd_is hC, e, Option.bind_some, nAI, nSI, nSA, if_true, if_false]
theorem ng_found_q (hC : Cor S c di D m U P H Z X nw ed nv vt mv Dv) (hF : GF c D P H) (q : ¬ (0 ≤ x1 ∧ x1 < nI P.n)) : ∃ c', f_L_found 0 x1 x2 (tc_mk S c) = some ((-2000000001 : Int32), tc_mk S c') ∧ Cor S c' di D m U P H Z X nw ed nv vt mv Dv ∧ GF c' D P H := by
  obtain ⟨b, c', Q, r, ee1, hC', hF', hfb, hQ, hr, hft, hQe, hprep⟩ := hC.fnd hF
  have e17 := hC.e17
  have ib : ∀ c, tq_is (tc_mk S c) b 2 = some () := fun c => by simp (maxSteps := 3000000) (disch := omega) only [Option.bind_some, tc_bs, tq_let, tc_I1, tc_I2, tc_J1, tc_J2, tc_J3, tc_F1, tc_F2, tc_F3, tc_F4, tc_G1, tc_G2, tc_G3, tc_G4, tc_G5, tc_us, tc_un, s_one, s_holds, s_J13_bitCount, bz_bI, hfb.f]
  have cn := (hC'.npath x1).2 q
  have e : f_X10_found 0 x1 x2 (tc_mk S c) = some (.inl "java/lang/IndexOutOfBoundsException", tc_mk S c') := by
    unfold f_X10_found
    rw [e17, Option.bind_some, ee1]
    simp (maxSteps := 3000000) (disch := omega) only [Option.bind_some, tc_bs, tq_let, tc_I1, tc_I2, tc_J1, tc_J2, tc_J3, tc_F1, tc_F2, tc_F3, tc_F4, tc_G1, tc_G2, tc_G3, tc_G4, tc_G5, tc_us, tc_un, s_one, s_holds, s_J13_bitCount, bz_bI, hC.tq.f, cn, tb_l]
  refine ⟨c', ?_, hC', hF'⟩
  simp only [f_L_found, rd_is hC, e, Option.bind_some, if_true]
theorem ng_foundAnew_q (hC : Cor S c di D m U P H Z X nw ed nv vt mv Dv) (hF : GF c D P H) (q : ¬ (0 ≤ x1 ∧ x1 < nI P.n)) : ∃ c', f_L_foundAnew 0 x1 x2 (tc_mk S c) = some ((-2000000001 : Int32), tc_mk S c') ∧ Cor S c' di D m U P H Z X nw ed nv vt mv Dv ∧ GF c' D P H := by
  obtain ⟨b, c', Q, r, ee1, hC', hF', hfb, hQ, hr, hft, hQe, hprep⟩ := hC.fnd hF
  have e17 := hC.e17
  have ib : ∀ c, tq_is (tc_mk S c) b 2 = some () := fun c => by simp (maxSteps := 3000000) (disch := omega) only [Option.bind_some, tc_bs, tq_let, tc_I1, tc_I2, tc_J1, tc_J2, tc_J3, tc_F1, tc_F2, tc_F3, tc_F4, tc_G1, tc_G2, tc_G3, tc_G4, tc_G5, tc_us, tc_un, s_one, s_holds, s_J13_bitCount, bz_bI, hfb.f]
  have cn := (hC'.npath x1).2 q
  have e : f_X10_foundAnew 0 x1 x2 (tc_mk S c) = some (.inl "java/lang/IndexOutOfBoundsException", tc_mk S c') := by
    unfold f_X10_foundAnew
    rw [e17, Option.bind_some, ee1]
    simp (maxSteps := 3000000) (disch := omega) only [Option.bind_some, tc_bs, tq_let, tc_I1, tc_I2, tc_J1, tc_J2, tc_J3, tc_F1, tc_F2, tc_F3, tc_F4, tc_G1, tc_G2, tc_G3, tc_G4, tc_G5, tc_us, tc_un, s_one, s_holds, s_J13_bitCount, bz_bI, hC.tq.f, cn, tb_l]
  refine ⟨c', ?_, hC', hF'⟩
  simp only [f_L_foundAnew, rd_is hC, e, Option.bind_some, if_true]
theorem ng_foundAt_q (hC : Cor S c di D m U P H Z X nw ed nv vt mv Dv) (hF : GF c D P H) (q : ¬ (0 ≤ x1 ∧ x1 < nI P.n)) : ∃ c', f_L_foundAt 0 x1 x2 (tc_mk S c) = some ((-2000000001 : Int32), tc_mk S c') ∧ Cor S c' di D m U P H Z X nw ed nv vt mv Dv ∧ GF c' D P H := by
  obtain ⟨b, c', Q, r, ee1, hC', hF', hfb, hQ, hr, hft, hQe, hprep⟩ := hC.fnd hF
  have e17 := hC.e17
  have ib : ∀ c, tq_is (tc_mk S c) b 2 = some () := fun c => by simp (maxSteps := 3000000) (disch := omega) only [Option.bind_some, tc_bs, tq_let, tc_I1, tc_I2, tc_J1, tc_J2, tc_J3, tc_F1, tc_F2, tc_F3, tc_F4, tc_G1, tc_G2, tc_G3, tc_G4, tc_G5, tc_us, tc_un, s_one, s_holds, s_J13_bitCount, bz_bI, hfb.f]
  have cn := (hC'.npath x1).2 q
  have e : f_X10_foundAt 0 x1 x2 (tc_mk S c) = some (.inl "java/lang/IndexOutOfBoundsException", tc_mk S c') := by
    unfold f_X10_foundAt
    rw [e17, Option.bind_some, ee1]
    simp (maxSteps := 3000000) (disch := omega) only [Option.bind_some, tc_bs, tq_let, tc_I1, tc_I2, tc_J1, tc_J2, tc_J3, tc_F1, tc_F2, tc_F3, tc_F4, tc_G1, tc_G2, tc_G3, tc_G4, tc_G5, tc_us, tc_un, s_one, s_holds, s_J13_bitCount, bz_bI, hC.tq.f, cn, tb_l]
  refine ⟨c', ?_, hC', hF'⟩
  simp only [f_L_foundAt, rd_is hC, e, Option.bind_some, if_true]
theorem ng_ordered_q (hC : Cor S c di D m U P H Z X nw ed nv vt mv Dv) (hF : GF c D P H) (q : ¬ (0 ≤ x1 ∧ x1 < nI P.n)) : ∃ c', f_L_ordered 0 x1 x2 (tc_mk S c) = some ((-2000000001 : Int32), tc_mk S c') ∧ Cor S c' di D m U P H Z X nw ed nv vt mv Dv ∧ GF c' D P H := by
  obtain ⟨b, c', Q, r, ee1, hC', hF', hfb, hQ, hr, hft, hQe, hprep⟩ := hC.fnd hF
  have e17 := hC.e17
  have ib : ∀ c, tq_is (tc_mk S c) b 2 = some () := fun c => by simp (maxSteps := 3000000) (disch := omega) only [Option.bind_some, tc_bs, tq_let, tc_I1, tc_I2, tc_J1, tc_J2, tc_J3, tc_F1, tc_F2, tc_F3, tc_F4, tc_G1, tc_G2, tc_G3, tc_G4, tc_G5, tc_us, tc_un, s_one, s_holds, s_J13_bitCount, bz_bI, hfb.f]
  have cn := (hC'.npath x1).2 q
  have e : f_X10_ordered 0 x1 x2 (tc_mk S c) = some (.inl "java/lang/IndexOutOfBoundsException", tc_mk S c') := by
    unfold f_X10_ordered
    rw [e17, Option.bind_some, ee1]
    simp (maxSteps := 3000000) (disch := omega) only [Option.bind_some, tc_bs, tq_let, tc_I1, tc_I2, tc_J1, tc_J2, tc_J3, tc_F1, tc_F2, tc_F3, tc_F4, tc_G1, tc_G2, tc_G3, tc_G4, tc_G5, tc_us, tc_un, s_one, s_holds, s_J13_bitCount, bz_bI, hC.tq.f, cn, tb_l]
  refine ⟨c', ?_, hC', hF'⟩
  simp only [f_L_ordered, rd_is hC, e, Option.bind_some, if_true]
theorem ng_groups_q (hC : Cor S c di D m U P H Z X nw ed nv vt mv Dv) (hF : GF c D P H) (q : ¬ (0 ≤ x1 ∧ x1 < nI P.n)) : ∃ c', f_L_groups 0 x1 (tc_mk S c) = some ((-2000000001 : Int32), tc_mk S c') ∧ Cor S c' di D m U P H Z X nw ed nv vt mv Dv ∧ GF c' D P H := by
  obtain ⟨b, c', Q, r, ee1, hC', hF', hfb, hQ, hr, hft, hQe, hprep⟩ := hC.fnd hF
  have e17 := hC.e17
  have ib : ∀ c, tq_is (tc_mk S c) b 2 = some () := fun c => by simp (maxSteps := 3000000) (disch := omega) only [Option.bind_some, tc_bs, tq_let, tc_I1, tc_I2, tc_J1, tc_J2, tc_J3, tc_F1, tc_F2, tc_F3, tc_F4, tc_G1, tc_G2, tc_G3, tc_G4, tc_G5, tc_us, tc_un, s_one, s_holds, s_J13_bitCount, bz_bI, hfb.f]
  have cn := (hC'.npath x1).2 q
  have e : f_X10_groups 0 x1 (tc_mk S c) = some (.inl "java/lang/IndexOutOfBoundsException", tc_mk S c') := by
    unfold f_X10_groups
    rw [e17, Option.bind_some, ee1]
    simp (maxSteps := 3000000) (disch := omega) only [Option.bind_some, tc_bs, tq_let, tc_I1, tc_I2, tc_J1, tc_J2, tc_J3, tc_F1, tc_F2, tc_F3, tc_F4, tc_G1, tc_G2, tc_G3, tc_G4, tc_G5, tc_us, tc_un, s_one, s_holds, s_J13_bitCount, bz_bI, hC.tq.f, cn, tb_l]
  refine ⟨c', ?_, hC', hF'⟩
  simp only [f_L_groups, rd_is hC, e, Option.bind_some, if_true]
theorem ng_foundAt_p (hC : Cor S c di D m U P H Z X nw ed nv vt mv Dv) (hF : GF c D P H) (hp : p < P.n) (q : ¬ (0 ≤ x2 ∧ x2 < nI 60)) : ∃ c', f_L_foundAt 0 (nI p) x2 (tc_mk S c) = some ((-2000000001 : Int32), tc_mk S c') ∧ Cor S c' di D m U P H Z X nw ed nv vt mv Dv ∧ GF c' D P H := by
  obtain ⟨b, c', Q, r, ee1, hC', hF', hfb, hQ, hr, hft, hQe, hprep⟩ := hC.fnd hF
  have e17 := hC.e17
  have ib : ∀ c, tq_is (tc_mk S c) b 2 = some () := fun c => by simp (maxSteps := 3000000) (disch := omega) only [Option.bind_some, tc_bs, tq_let, tc_I1, tc_I2, tc_J1, tc_J2, tc_J3, tc_F1, tc_F2, tc_F3, tc_F4, tc_G1, tc_G2, tc_G3, tc_G4, tc_G5, tc_us, tc_un, s_one, s_holds, s_J13_bitCount, bz_bI, hfb.f]
  have hw := hC'.gt.1.1
  have hn60 := D.n_le hw
  have h20 := hC'.gp.2.2.1
  have cn := (hC'.npath (nI p)).1 ⟨nI_pos' (by omega), nI_lt hp (by omega)⟩
  obtain ⟨d, u1, u2, u3, u4, u5, r', hr1, hr2, hft'⟩ := hprep p c' hp hC' hF' rfl
  have ef : f_X2_foundFrom b (nI p) 0 (tc_mk S d) = some (mkS (D.fnd P Q p 0)) := s_X2_foundFrom (S := S) hfb hw hft' hr1 (by omega) (D.n_pos hw)
  have hX : ∀ j, D.fnd P Q p 0 j = true → j < D.n := fun j h => (Doc.fnd_in hQ h).1
  have h6 : fb_ct (D.fnd P Q p 0) 64 ≤ 60 := by
    have h1 := fb_ct_split (D.fnd P Q p 0) 60 4
    have h2 := fb_ct_le (D.fnd P Q p 0) 60
    have h3 : fb_ct (fun k => D.fnd P Q p 0 (60 + k)) 4 = 0 := fb_ct_zero.mpr fun k _ => by
      cases e : D.fnd P Q p 0 (60 + k) with
      | false => rfl
      | true => have := hX _ e; omega
    have h4 : fb_ct (D.fnd P Q p 0) 64 = fb_ct (D.fnd P Q p 0) (60 + 4) := rfl
    omega
  have c2 := place_no (F := D.fnd P Q p 0) (x := x2) (fun z => q ⟨z.1, Int32.lt_of_lt_of_le z.2 (nI_le h6 (by decide))⟩) (tc_mk S d)
  have e : f_X10_foundAt 0 (nI p) x2 (tc_mk S c) = some (.inl "java/lang/IndexOutOfBoundsException", tc_mk S d) := by
    unfold f_X10_foundAt
    rw [e17, Option.bind_some, ee1]
    simp (maxSteps := 3000000) (disch := omega) only [Option.bind_some, tc_bs, tq_let, tc_I1, tc_I2, tc_J1, tc_J2, tc_J3, tc_F1, tc_F2, tc_F3, tc_F4, tc_G1, tc_G2, tc_G3, tc_G4, tc_G5, tc_us, tc_un, s_one, s_holds, s_J13_bitCount, bz_bI, hC.tq.f, cn, tb_r, tb_l, ib, u1, ef, c2]
  refine ⟨d, ?_, u2, u3⟩
  simp only [f_L_foundAt, rd_is hC, e, Option.bind_some, if_true]
theorem ng_ordered_p (hC : Cor S c di D m U P H Z X nw ed nv vt mv Dv) (hF : GF c D P H) (hp : p < P.n) (q : ¬ (0 ≤ x2 ∧ x2 < nI 60)) : ∃ c', f_L_ordered 0 (nI p) x2 (tc_mk S c) = some ((-2000000001 : Int32), tc_mk S c') ∧ Cor S c' di D m U P H Z X nw ed nv vt mv Dv ∧ GF c' D P H := by
  obtain ⟨b, c', Q, r, ee1, hC', hF', hfb, hQ, hr, hft, hQe, hprep⟩ := hC.fnd hF
  have e17 := hC.e17
  have ib : ∀ c, tq_is (tc_mk S c) b 2 = some () := fun c => by simp (maxSteps := 3000000) (disch := omega) only [Option.bind_some, tc_bs, tq_let, tc_I1, tc_I2, tc_J1, tc_J2, tc_J3, tc_F1, tc_F2, tc_F3, tc_F4, tc_G1, tc_G2, tc_G3, tc_G4, tc_G5, tc_us, tc_un, s_one, s_holds, s_J13_bitCount, bz_bI, hfb.f]
  have hw := hC'.gt.1.1
  have hn60 := D.n_le hw
  have h20 := hC'.gp.2.2.1
  have cn := (hC'.npath (nI p)).1 ⟨nI_pos' (by omega), nI_lt hp (by omega)⟩
  obtain ⟨d, u1, u2, u3, u4, u5, r', hr1, hr2, hft'⟩ := hprep p c' hp hC' hF' rfl
  have ef : f_X2_foundFrom b (nI p) 0 (tc_mk S d) = some (mkS (D.fnd P Q p 0)) := s_X2_foundFrom (S := S) hfb hw hft' hr1 (by omega) (D.n_pos hw)
  have hX : ∀ j, D.fnd P Q p 0 j = true → j < D.n := fun j h => (Doc.fnd_in hQ h).1
  have h6 : fb_ct (D.fnd P Q p 0) 64 ≤ 60 := by
    have h1 := fb_ct_split (D.fnd P Q p 0) 60 4
    have h2 := fb_ct_le (D.fnd P Q p 0) 60
    have h3 : fb_ct (fun k => D.fnd P Q p 0 (60 + k)) 4 = 0 := fb_ct_zero.mpr fun k _ => by
      cases e : D.fnd P Q p 0 (60 + k) with
      | false => rfl
      | true => have := hX _ e; omega
    have h4 : fb_ct (D.fnd P Q p 0) 64 = fb_ct (D.fnd P Q p 0) (60 + 4) := rfl
    omega
  have c2 := place_no (F := D.fnd P Q p 0) (x := x2) (fun z => q ⟨z.1, Int32.lt_of_lt_of_le z.2 (nI_le h6 (by decide))⟩) (tc_mk S d)
  have e : f_X10_ordered 0 (nI p) x2 (tc_mk S c) = some (.inl "java/lang/IndexOutOfBoundsException", tc_mk S d) := by
    unfold f_X10_ordered
    rw [e17, Option.bind_some, ee1]
    simp (maxSteps := 3000000) (disch := omega) only [Option.bind_some, tc_bs, tq_let, tc_I1, tc_I2, tc_J1, tc_J2, tc_J3, tc_F1, tc_F2, tc_F3, tc_F4, tc_G1, tc_G2, tc_G3, tc_G4, tc_G5, tc_us, tc_un, s_one, s_holds, s_J13_bitCount, bz_bI, hC.tq.f, cn, tb_r, tb_l, ib, u1, ef, c2]
  refine ⟨d, ?_, u2, u3⟩
  simp only [f_L_ordered, rd_is hC, e, Option.bind_some, if_true]
theorem ng_found_n (hC : Cor S c di D m U P H Z X nw ed nv vt mv Dv) (hF : GF c D P H) (hp : p < P.n) (hi : ∀ i, ¬ D.At v i) : ∃ c', f_L_found 0 (nI p) v (tc_mk S c) = some ((-2000000001 : Int32), tc_mk S c') ∧ Cor S c' di D m U P H Z X nw ed nv vt mv Dv ∧ GF c' D P H := by
  obtain ⟨b, c', Q, r, ee1, hC', hF', hfb, hQ, hr, hft, hQe, hprep⟩ := hC.fnd hF
  have e17 := hC.e17
  have ib : ∀ c, tq_is (tc_mk S c) b 2 = some () := fun c => by simp (maxSteps := 3000000) (disch := omega) only [Option.bind_some, tc_bs, tq_let, tc_I1, tc_I2, tc_J1, tc_J2, tc_J3, tc_F1, tc_F2, tc_F3, tc_F4, tc_G1, tc_G2, tc_G3, tc_G4, tc_G5, tc_us, tc_un, s_one, s_holds, s_J13_bitCount, bz_bI, hfb.f]
  have h20 := hC'.gp.2.2.1
  have cn := (hC'.npath (nI p)).1 ⟨nI_pos' (by omega), nI_lt hp (by omega)⟩
  have cs := hC'.need_n hi
  have e : f_X10_found 0 (nI p) v (tc_mk S c) = some (.inl "java/lang/IndexOutOfBoundsException", tc_mk S c') := by
    unfold f_X10_found
    rw [e17, Option.bind_some, ee1]
    simp (maxSteps := 3000000) (disch := omega) only [Option.bind_some, tc_bs, tq_let, tc_I1, tc_I2, tc_J1, tc_J2, tc_J3, tc_F1, tc_F2, tc_F3, tc_F4, tc_G1, tc_G2, tc_G3, tc_G4, tc_G5, tc_us, tc_un, s_one, s_holds, s_J13_bitCount, bz_bI, hC.tq.f, cn, tb_r, tb_l, ib, f_X10_needStart, cs]
  refine ⟨c', ?_, hC', hF'⟩
  simp only [f_L_found, rd_is hC, e, Option.bind_some, if_true]
end RFS
