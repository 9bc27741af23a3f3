/-! ===== calls that only read: the tree ===== -/
section RDB
variable {S S1 S2 : tq_H} {c c1 c2 c' : tc_C} {di : DI} {D : Doc} {m : Nat} {U : Ups} {P : Pat} {H : Nat → Bool} {Z : Sma} {X : Nat → Bool} {nw : Nat} {ed ed2 : Option Nat} {nv z z2 : Nat} {vt mv : Nat → Nat} {Dv : Nat → Doc} {i j : Nat} {v a k y4 x1 x2 x3 x4 : Int32} {n : Nat} {xs : Nat → Int32} {h0 : tq_H}
theorem arm_name (h : InvE di h0) (e1 : tq_sx n xs (y4 + 1) = some x1) : ∃ h', f_V_law_c1016 n xs 0 155 205 y4 h0 = some (.inl (y4 + 5, h')) ∧ InvE di h' := by
  obtain ⟨S, c, D, m, U, P, H, Z, X, nw, ed, nv, vt, mv, Dv, rfl, hC, hF⟩ := h
  have e0 : f_V_law_c1016 n xs 0 155 205 y4 (tc_mk S c) = armI (f_V_name 0 x1 205 (tc_mk S c)) (f_X11_name 155 x1) y4 := by
    unfold f_V_law_c1016; rw [e1]; rfl
  rw [e0]
  refine arm_read hC hF ?_
  rcases D.at_or x1 with ⟨i, hi⟩ | hi
  · left
    have hg := hC.gt
    have hw := hg.1.1
    have hn60 := D.n_le hw
    obtain ⟨hin, rfl⟩ := id hi
    have h60 := D.ord_lt hg.1.1 hin
    have e2 : rg 60 (c.1 26) (nI (D.ord i)) = D.nm i := by rw [rg_in _ h60 (by decide)]; exact hg.2.2.1.2.2.2.2.1 i hin
    refine ⟨D.nm i, ?_, ?_⟩
    · have e3 : f_X10_name 0 (nI (D.ord i)) (tc_mk S c) = some (.inr (D.nm i), tc_mk S c) := by
        simp (maxSteps := 3000000) (disch := omega) only [Option.bind_some, tc_bs, tq_let, tc_I1, tc_I2, tc_J1, tc_J2, tc_J3, tc_F1, tc_F2, tc_F3, tc_F4, tc_G1, tc_G2, tc_G3, tc_G4, tc_G5, tc_us, tc_un, s_one, s_holds, s_J13_bitCount, bz_bI, f_X10_name, hC.tq.f, hC.t1.f, hC.need hi, tb_r, e2]
      simp (maxSteps := 3000000) (disch := omega) only [Option.bind_some, tc_bs, tq_let, tc_I1, tc_I2, tc_J1, tc_J2, tc_J3, tc_F1, tc_F2, tc_F3, tc_F4, tc_G1, tc_G2, tc_G3, tc_G4, tc_G5, tc_us, tc_un, s_one, s_holds, s_J13_bitCount, bz_bI, f_V_name, hC.tq.f, e3]; rfl
    · have hC2 := hC.sc (ans_sc c (D.nm i).toInt64)
      have e4 := hC2.noN hi
      have hg2 := hC2.gt
      have e5 := hg2.2.2.2.1.2.2.2.2.1 i hin
      have e6 := hg2.2.2.2.1.2.2.2.2.2.1 i hin
      generalize ansC c (D.nm i).toInt64 = c2 at *
      have n00 : (0 : Int32) = 0 := rfl
      by_cases q : D.kd i = 1
      · have e7 : D.nm i = -1 := by
          rcases D.nm_of hw hin with ⟨-, z⟩ | ⟨z, -⟩
          · exact z
          · exact absurd q z
        simp (maxSteps := 3000000) (disch := omega) only [Option.bind_some, tc_bs, tq_let, tc_I1, tc_I2, tc_J1, tc_J2, tc_J3, tc_F1, tc_F2, tc_F3, tc_F4, tc_G1, tc_G2, tc_G3, tc_G4, tc_G5, tc_us, tc_un, s_one, s_holds, s_J13_bitCount, bz_bI, f_X11_name, hC.mod.f, e4, e5, q, e7, if_true]
      · simp (maxSteps := 3000000) (disch := omega) only [Option.bind_some, tc_bs, tq_let, tc_I1, tc_I2, tc_J1, tc_J2, tc_J3, tc_F1, tc_F2, tc_F3, tc_F4, tc_G1, tc_G2, tc_G3, tc_G4, tc_G5, tc_us, tc_un, s_one, s_holds, s_J13_bitCount, bz_bI, f_X11_name, hC.mod.f, e4, e5, e6, q, if_true, if_false]
  · right
    have e3 : f_X10_name 0 x1 (tc_mk S c) = some (.inl "java/lang/IndexOutOfBoundsException", tc_mk S c) := by
      simp (maxSteps := 3000000) (disch := omega) only [Option.bind_some, tc_bs, tq_let, tc_I1, tc_I2, tc_J1, tc_J2, tc_J3, tc_F1, tc_F2, tc_F3, tc_F4, tc_G1, tc_G2, tc_G3, tc_G4, tc_G5, tc_us, tc_un, s_one, s_holds, s_J13_bitCount, bz_bI, f_X10_name, hC.tq.f, hC.t1.f, hC.need_n hi, tb_l]
    refine ⟨1, 0, by decide, ?_, ?_⟩
    · simp (maxSteps := 3000000) (disch := omega) only [Option.bind_some, tc_bs, tq_let, tc_I1, tc_I2, tc_J1, tc_J2, tc_J3, tc_F1, tc_F2, tc_F3, tc_F4, tc_G1, tc_G2, tc_G3, tc_G4, tc_G5, tc_us, tc_un, s_one, s_holds, s_J13_bitCount, bz_bI, f_V_name, hC.tq.f, e3, if_true]
    · have n10 : ¬ (1 : Int32) = 0 := by decide
      simp (maxSteps := 3000000) (disch := omega) only [Option.bind_some, tc_bs, tq_let, tc_I1, tc_I2, tc_J1, tc_J2, tc_J3, tc_F1, tc_F2, tc_F3, tc_F4, tc_G1, tc_G2, tc_G3, tc_G4, tc_G5, tc_us, tc_un, s_one, s_holds, s_J13_bitCount, bz_bI, f_X11_name, hC.mod.f, hC.noN_n hi, n10, if_false]
theorem arm_value (h : InvE di h0) (e1 : tq_sx n xs (y4 + 1) = some x1) : ∃ h', f_V_law_c1072 n xs 0 155 205 y4 h0 = some (.inl (y4 + 5, h')) ∧ InvE di h' := by
  obtain ⟨S, c, D, m, U, P, H, Z, X, nw, ed, nv, vt, mv, Dv, rfl, hC, hF⟩ := h
  have e0 : f_V_law_c1072 n xs 0 155 205 y4 (tc_mk S c) = armI (f_V_value 0 x1 205 (tc_mk S c)) (f_X11_value 155 x1) y4 := by
    unfold f_V_law_c1072; rw [e1]; rfl
  rw [e0]
  refine arm_read hC hF ?_
  rcases D.at_or x1 with ⟨i, hi⟩ | hi
  · left
    have hg := hC.gt
    have hw := hg.1.1
    have hn60 := D.n_le hw
    obtain ⟨hin, rfl⟩ := id hi
    have h60 := D.ord_lt hg.1.1 hin
    have e2 : rg 60 (c.1 6) (nI (D.ord i)) = nI i := by rw [rg_in _ h60 (by decide)]; exact lay_spot hg.2.1 hin
    have f1 := s_X3_spotOf (c := c) hC.t1 (nI (D.ord i))
    have f1 : f_X3_spotOf 2 (nI (D.ord i)) (tc_mk S c) = some (nI i) := by rw [← e2]; exact f1
    have f2 : f_X3_everything 2 (tc_mk S c) = _ := s_X3_everything (c := c) hC.t1 hw hg.2.1
    have f3 := s_X8_valueAt (c := c) hC.t1 hw hg.2.1 hg.2.2.1 (fun j => decide (j < D.n)) hin
    have g0 : tq_gr (tc_mk S c) 1 8 0 = some 2 := by simp (maxSteps := 3000000) (disch := omega) only [Option.bind_some, tc_bs, tq_let, tc_I1, tc_I2, tc_J1, tc_J2, tc_J3, tc_F1, tc_F2, tc_F3, tc_F4, tc_G1, tc_G2, tc_G3, tc_G4, tc_G5, tc_us, tc_un, s_one, s_holds, s_J13_bitCount, bz_bI, hC.t1.f]
    have g1 : tq_is (tc_mk S c) 2 3 = some () := by simp (maxSteps := 3000000) (disch := omega) only [Option.bind_some, tc_bs, tq_let, tc_I1, tc_I2, tc_J1, tc_J2, tc_J3, tc_F1, tc_F2, tc_F3, tc_F4, tc_G1, tc_G2, tc_G3, tc_G4, tc_G5, tc_us, tc_un, s_one, s_holds, s_J13_bitCount, bz_bI, hC.t1.f]
    refine ⟨D.val (fun j => decide (j < D.n)) i, ?_, ?_⟩
    · have e3 : f_X10_value 0 (nI (D.ord i)) (tc_mk S c) = some (.inr (D.val (fun j => decide (j < D.n)) i), tc_mk S c) := by
        simp (maxSteps := 3000000) (disch := omega) only [Option.bind_some, tc_bs, tq_let, tc_I1, tc_I2, tc_J1, tc_J2, tc_J3, tc_F1, tc_F2, tc_F3, tc_F4, tc_G1, tc_G2, tc_G3, tc_G4, tc_G5, tc_us, tc_un, s_one, s_holds, s_J13_bitCount, bz_bI, f_X10_value, hC.tq.f, hC.t1.f, hC.need hi, tb_r, g0, g1, f1, f2, f3]
      simp (maxSteps := 3000000) (disch := omega) only [Option.bind_some, tc_bs, tq_let, tc_I1, tc_I2, tc_J1, tc_J2, tc_J3, tc_F1, tc_F2, tc_F3, tc_F4, tc_G1, tc_G2, tc_G3, tc_G4, tc_G5, tc_us, tc_un, s_one, s_holds, s_J13_bitCount, bz_bI, f_V_value, hC.tq.f, e3]; rfl
    · have hC2 := hC.sc (ans_sc c (D.val (fun j => decide (j < D.n)) i).toInt64)
      have e4 := hC2.noN hi
      have hg2 := hC2.gt
      have f4 := s_X11_all (S := S) hC.mod hw hg2.2.2.2.2
      have f5 : D.nodesOf (fun _ => true) = D.nodesOf (fun j => decide (j < D.n)) := D.nodesOf_cong fun j hj => by simp [hj]
      have f6 := s_X11_valueOf (S := S) hC.mod hw hg2.2.2.2.1 hg2.2.2.2.2 hin (fun j => decide (j < D.n))
      have k4 := (hC2.sc (thr_sc _ 0)).gt
      have f4 := s_X11_all (S := S) hC.mod hw k4.2.2.2.2
      have f6 := s_X11_valueOf (S := S) hC.mod hw k4.2.2.2.1 k4.2.2.2.2 hin (fun j => decide (j < D.n))
      rw [f5] at f4
      generalize ansC c (D.val (fun j => decide (j < D.n)) i).toInt64 = c2 at *
      have n00 : (0 : Int32) = 0 := rfl
      simp (maxSteps := 3000000) (disch := omega) only [Option.bind_some, tc_bs, tq_let, tc_I1, tc_I2, tc_J1, tc_J2, tc_J3, tc_F1, tc_F2, tc_F3, tc_F4, tc_G1, tc_G2, tc_G3, tc_G4, tc_G5, tc_us, tc_un, s_one, s_holds, s_J13_bitCount, bz_bI, f_X11_value, hC.mod.f, e4, f4, f6, if_true]
  · right
    have e3 : f_X10_value 0 x1 (tc_mk S c) = some (.inl "java/lang/IndexOutOfBoundsException", tc_mk S c) := by
      simp (maxSteps := 3000000) (disch := omega) only [Option.bind_some, tc_bs, tq_let, tc_I1, tc_I2, tc_J1, tc_J2, tc_J3, tc_F1, tc_F2, tc_F3, tc_F4, tc_G1, tc_G2, tc_G3, tc_G4, tc_G5, tc_us, tc_un, s_one, s_holds, s_J13_bitCount, bz_bI, f_X10_value, hC.tq.f, hC.t1.f, hC.need_n hi, tb_l]
    refine ⟨1, 0, by decide, ?_, ?_⟩
    · simp (maxSteps := 3000000) (disch := omega) only [Option.bind_some, tc_bs, tq_let, tc_I1, tc_I2, tc_J1, tc_J2, tc_J3, tc_F1, tc_F2, tc_F3, tc_F4, tc_G1, tc_G2, tc_G3, tc_G4, tc_G5, tc_us, tc_un, s_one, s_holds, s_J13_bitCount, bz_bI, f_V_value, hC.tq.f, e3, if_true]
    · have n10 : ¬ (1 : Int32) = 0 := by decide
      simp (maxSteps := 3000000) (disch := omega) only [Option.bind_some, tc_bs, tq_let, tc_I1, tc_I2, tc_J1, tc_J2, tc_J3, tc_F1, tc_F2, tc_F3, tc_F4, tc_G1, tc_G2, tc_G3, tc_G4, tc_G5, tc_us, tc_un, s_one, s_holds, s_J13_bitCount, bz_bI, f_X11_value, hC.mod.f, hC.noN_n hi, n10, if_false]
theorem arm_parent (h : InvE di h0) (e1 : tq_sx n xs (y4 + 1) = some x1) : ∃ h', f_V_law_c1128 n xs 0 155 205 y4 h0 = some (.inl (y4 + 5, h')) ∧ InvE di h' := by
  obtain ⟨S, c, D, m, U, P, H, Z, X, nw, ed, nv, vt, mv, Dv, rfl, hC, hF⟩ := h
  have e0 : f_V_law_c1128 n xs 0 155 205 y4 (tc_mk S c) = armI (f_V_parent 0 x1 205 (tc_mk S c)) (f_X11_parent 155 x1) y4 := by
    unfold f_V_law_c1128; rw [e1]; rfl
  rw [e0]
  refine arm_read hC hF ?_
  rcases D.at_or x1 with ⟨i, hi⟩ | hi
  · left
    have hg := hC.gt
    have hw := hg.1.1
    have hn60 := D.n_le hw
    obtain ⟨hin, rfl⟩ := id hi
    have h60 := D.ord_lt hg.1.1 hin
    have e2 : rg 60 (c.1 32) (nI (D.ord i)) = D.upN i := by rw [rg_in _ h60 (by decide)]; exact hg.2.2.1.2.2.2.2.2.2.2.1 i hin
    refine ⟨D.upN i, ?_, ?_⟩
    · have e3 : f_X10_parent 0 (nI (D.ord i)) (tc_mk S c) = some (.inr (D.upN i), tc_mk S c) := by
        simp (maxSteps := 3000000) (disch := omega) only [Option.bind_some, tc_bs, tq_let, tc_I1, tc_I2, tc_J1, tc_J2, tc_J3, tc_F1, tc_F2, tc_F3, tc_F4, tc_G1, tc_G2, tc_G3, tc_G4, tc_G5, tc_us, tc_un, s_one, s_holds, s_J13_bitCount, bz_bI, f_X10_parent, hC.tq.f, hC.t1.f, hC.need hi, tb_r, e2]
      simp (maxSteps := 3000000) (disch := omega) only [Option.bind_some, tc_bs, tq_let, tc_I1, tc_I2, tc_J1, tc_J2, tc_J3, tc_F1, tc_F2, tc_F3, tc_F4, tc_G1, tc_G2, tc_G3, tc_G4, tc_G5, tc_us, tc_un, s_one, s_holds, s_J13_bitCount, bz_bI, f_V_parent, hC.tq.f, e3]; rfl
    · have hC2 := hC.sc (ans_sc c (D.upN i).toInt64)
      have e4 := hC2.noN hi
      have hg2 := hC2.gt
      have e5 := hg2.2.2.2.1.2.2.2.2.2.2.2.2.1 i hin
      generalize ansC c (D.upN i).toInt64 = c2 at *
      have n00 : (0 : Int32) = 0 := rfl
      simp (maxSteps := 3000000) (disch := omega) only [Option.bind_some, tc_bs, tq_let, tc_I1, tc_I2, tc_J1, tc_J2, tc_J3, tc_F1, tc_F2, tc_F3, tc_F4, tc_G1, tc_G2, tc_G3, tc_G4, tc_G5, tc_us, tc_un, s_one, s_holds, s_J13_bitCount, bz_bI, f_X11_parent, hC.mod.f, e4, e5, if_true]
  · right
    have e3 : f_X10_parent 0 x1 (tc_mk S c) = some (.inl "java/lang/IndexOutOfBoundsException", tc_mk S c) := by
      simp (maxSteps := 3000000) (disch := omega) only [Option.bind_some, tc_bs, tq_let, tc_I1, tc_I2, tc_J1, tc_J2, tc_J3, tc_F1, tc_F2, tc_F3, tc_F4, tc_G1, tc_G2, tc_G3, tc_G4, tc_G5, tc_us, tc_un, s_one, s_holds, s_J13_bitCount, bz_bI, f_X10_parent, hC.tq.f, hC.t1.f, hC.need_n hi, tb_l]
    refine ⟨1, 0, by decide, ?_, ?_⟩
    · simp (maxSteps := 3000000) (disch := omega) only [Option.bind_some, tc_bs, tq_let, tc_I1, tc_I2, tc_J1, tc_J2, tc_J3, tc_F1, tc_F2, tc_F3, tc_F4, tc_G1, tc_G2, tc_G3, tc_G4, tc_G5, tc_us, tc_un, s_one, s_holds, s_J13_bitCount, bz_bI, f_V_parent, hC.tq.f, e3, if_true]
    · have n10 : ¬ (1 : Int32) = 0 := by decide
      simp (maxSteps := 3000000) (disch := omega) only [Option.bind_some, tc_bs, tq_let, tc_I1, tc_I2, tc_J1, tc_J2, tc_J3, tc_F1, tc_F2, tc_F3, tc_F4, tc_G1, tc_G2, tc_G3, tc_G4, tc_G5, tc_us, tc_un, s_one, s_holds, s_J13_bitCount, bz_bI, f_X11_parent, hC.mod.f, hC.noN_n hi, n10, if_false]
theorem arm_space (h : InvE di h0) (e1 : tq_sx n xs (y4 + 1) = some x1) : ∃ h', f_V_law_c1252 n xs 0 155 205 y4 h0 = some (.inl (y4 + 5, h')) ∧ InvE di h' := by
  obtain ⟨S, c, D, m, U, P, H, Z, X, nw, ed, nv, vt, mv, Dv, rfl, hC, hF⟩ := h
  have e0 : f_V_law_c1252 n xs 0 155 205 y4 (tc_mk S c) = armI (f_V_space 0 x1 205 (tc_mk S c)) (f_X11_space 155 x1) y4 := by
    unfold f_V_law_c1252; rw [e1]; rfl
  rw [e0]
  refine arm_read hC hF ?_
  rcases D.at_or x1 with ⟨i, hi⟩ | hi
  · left
    have hg := hC.gt
    have hw := hg.1.1
    have hn60 := D.n_le hw
    obtain ⟨hin, rfl⟩ := id hi
    have h60 := D.ord_lt hg.1.1 hin
    have e2 : rg 60 (c.1 6) (nI (D.ord i)) = nI i := by rw [rg_in _ h60 (by decide)]; exact lay_spot hg.2.1 hin
    have f1 := s_X3_spotOf (c := c) hC.t1 (nI (D.ord i))
    have f1 : f_X3_spotOf 2 (nI (D.ord i)) (tc_mk S c) = some (nI i) := by rw [← e2]; exact f1
    have f2 : f_X3_spaceAt 2 (nI i) (tc_mk S c) = _ := s_X3_spaceAt (c := c) hC.t1 hw hg.2.1 hin
    have g0 : tq_gr (tc_mk S c) 1 8 0 = some 2 := by simp (maxSteps := 3000000) (disch := omega) only [Option.bind_some, tc_bs, tq_let, tc_I1, tc_I2, tc_J1, tc_J2, tc_J3, tc_F1, tc_F2, tc_F3, tc_F4, tc_G1, tc_G2, tc_G3, tc_G4, tc_G5, tc_us, tc_un, s_one, s_holds, s_J13_bitCount, bz_bI, hC.t1.f]
    have g1 : tq_is (tc_mk S c) 2 3 = some () := by simp (maxSteps := 3000000) (disch := omega) only [Option.bind_some, tc_bs, tq_let, tc_I1, tc_I2, tc_J1, tc_J2, tc_J3, tc_F1, tc_F2, tc_F3, tc_F4, tc_G1, tc_G2, tc_G3, tc_G4, tc_G5, tc_us, tc_un, s_one, s_holds, s_J13_bitCount, bz_bI, hC.t1.f]
    refine ⟨if D.kd i = 0 then D.sp i else -1, ?_, ?_⟩
    · have e3 : f_X10_space 0 (nI (D.ord i)) (tc_mk S c) = some (.inr (if D.kd i = 0 then D.sp i else -1), tc_mk S c) := by
        simp (maxSteps := 3000000) (disch := omega) only [Option.bind_some, tc_bs, tq_let, tc_I1, tc_I2, tc_J1, tc_J2, tc_J3, tc_F1, tc_F2, tc_F3, tc_F4, tc_G1, tc_G2, tc_G3, tc_G4, tc_G5, tc_us, tc_un, s_one, s_holds, s_J13_bitCount, bz_bI, f_X10_space, hC.tq.f, hC.t1.f, hC.need hi, tb_r, g0, g1, f1, f2]
      simp (maxSteps := 3000000) (disch := omega) only [Option.bind_some, tc_bs, tq_let, tc_I1, tc_I2, tc_J1, tc_J2, tc_J3, tc_F1, tc_F2, tc_F3, tc_F4, tc_G1, tc_G2, tc_G3, tc_G4, tc_G5, tc_us, tc_un, s_one, s_holds, s_J13_bitCount, bz_bI, f_V_space, hC.tq.f, e3]; rfl
    · have hC2 := hC.sc (ans_sc c (if D.kd i = 0 then D.sp i else -1).toInt64)
      have e4 := hC2.noN hi
      have hg2 := hC2.gt
      have e5 := hg2.2.2.2.1.2.2.2.2.1 i hin
      have k4 := (hC2.sc (thr_sc _ 0)).gt
      have f6 := s_X11_spaceOf (S := S) hC.mod hw k4.2.2.2.1 hin
      generalize ansC c (if D.kd i = 0 then D.sp i else -1).toInt64 = c2 at *
      have n00 : (0 : Int32) = 0 := rfl
      by_cases q : D.kd i = 0
      · rw [if_pos q]
        simp (maxSteps := 3000000) (disch := omega) only [Option.bind_some, tc_bs, tq_let, tc_I1, tc_I2, tc_J1, tc_J2, tc_J3, tc_F1, tc_F2, tc_F3, tc_F4, tc_G1, tc_G2, tc_G3, tc_G4, tc_G5, tc_us, tc_un, s_one, s_holds, s_J13_bitCount, bz_bI, f_X11_space, hC.mod.f, e4, e5, f6, q, if_true]
      · rw [if_neg q]
        simp (maxSteps := 3000000) (disch := omega) only [Option.bind_some, tc_bs, tq_let, tc_I1, tc_I2, tc_J1, tc_J2, tc_J3, tc_F1, tc_F2, tc_F3, tc_F4, tc_G1, tc_G2, tc_G3, tc_G4, tc_G5, tc_us, tc_un, s_one, s_holds, s_J13_bitCount, bz_bI, f_X11_space, hC.mod.f, e4, e5, q, if_true, if_false]
  · right
    have e3 : f_X10_space 0 x1 (tc_mk S c) = some (.inl "java/lang/IndexOutOfBoundsException", tc_mk S c) := by
      simp (maxSteps := 3000000) (disch := omega) only [Option.bind_some, tc_bs, tq_let, tc_I1, tc_I2, tc_J1, tc_J2, tc_J3, tc_F1, tc_F2, tc_F3, tc_F4, tc_G1, tc_G2, tc_G3, tc_G4, tc_G5, tc_us, tc_un, s_one, s_holds, s_J13_bitCount, bz_bI, f_X10_space, hC.tq.f, hC.t1.f, hC.need_n hi, tb_l]
    refine ⟨1, 0, by decide, ?_, ?_⟩
    · simp (maxSteps := 3000000) (disch := omega) only [Option.bind_some, tc_bs, tq_let, tc_I1, tc_I2, tc_J1, tc_J2, tc_J3, tc_F1, tc_F2, tc_F3, tc_F4, tc_G1, tc_G2, tc_G3, tc_G4, tc_G5, tc_us, tc_un, s_one, s_holds, s_J13_bitCount, bz_bI, f_V_space, hC.tq.f, e3, if_true]
    · have n10 : ¬ (1 : Int32) = 0 := by decide
      simp (maxSteps := 3000000) (disch := omega) only [Option.bind_some, tc_bs, tq_let, tc_I1, tc_I2, tc_J1, tc_J2, tc_J3, tc_F1, tc_F2, tc_F3, tc_F4, tc_G1, tc_G2, tc_G3, tc_G4, tc_G5, tc_us, tc_un, s_one, s_holds, s_J13_bitCount, bz_bI, f_X11_space, hC.mod.f, hC.noN_n hi, n10, if_false]
theorem arm_number (h : InvE di h0) (e1 : tq_sx n xs (y4 + 1) = some x1) : ∃ h', f_V_law_c1308 n xs 0 155 205 y4 h0 = some (.inl (y4 + 5, h')) ∧ InvE di h' := by
  obtain ⟨S, c, D, m, U, P, H, Z, X, nw, ed, nv, vt, mv, Dv, rfl, hC, hF⟩ := h
  have e0 : f_V_law_c1308 n xs 0 155 205 y4 (tc_mk S c) = armI (f_V_number 0 x1 205 (tc_mk S c)) (f_X11_number_ 155 x1) y4 := by
    unfold f_V_law_c1308; rw [e1]; rfl
  rw [e0]
  refine arm_read hC hF ?_
  rcases D.at_or x1 with ⟨i, hi⟩ | hi
  · left
    have hg := hC.gt
    have hw := hg.1.1
    have hn60 := D.n_le hw
    obtain ⟨hin, rfl⟩ := id hi
    have h60 := D.ord_lt hg.1.1 hin
    have e2 : rg 60 (c.1 34) (nI (D.ord i)) = c.1 34 (D.ord i) := rg_in _ h60 (by decide)
    obtain ⟨n1, n2, -⟩ := hC.2.2.1
    refine ⟨c.1 34 (D.ord i), ?_, ?_⟩
    · have e3 : f_X10_number 0 (nI (D.ord i)) (tc_mk S c) = some (.inr (c.1 34 (D.ord i)), tc_mk S c) := by
        simp (maxSteps := 3000000) (disch := omega) only [Option.bind_some, tc_bs, tq_let, tc_I1, tc_I2, tc_J1, tc_J2, tc_J3, tc_F1, tc_F2, tc_F3, tc_F4, tc_G1, tc_G2, tc_G3, tc_G4, tc_G5, tc_us, tc_un, s_one, s_holds, s_J13_bitCount, bz_bI, f_X10_number, hC.tq.f, hC.t1.f, hC.need hi, tb_r, e2]
      simp (maxSteps := 3000000) (disch := omega) only [Option.bind_some, tc_bs, tq_let, tc_I1, tc_I2, tc_J1, tc_J2, tc_J3, tc_F1, tc_F2, tc_F3, tc_F4, tc_G1, tc_G2, tc_G3, tc_G4, tc_G5, tc_us, tc_un, s_one, s_holds, s_J13_bitCount, bz_bI, f_V_number, hC.tq.f, e3]; rfl
    · have hC2 := hC.sc (ans_sc c (c.1 34 (D.ord i)).toInt64)
      have e4 := hC2.noN hi
      have hg2 := hC2.gt
      have e5 := hg2.2.2.2.1.2.2.2.2.1 i hin
      have e8 : (ansC c (c.1 34 (D.ord i)).toInt64).1 162 = c.1 162 := rfl
      generalize ansC c (c.1 34 (D.ord i)).toInt64 = c2 at *
      have n00 : (0 : Int32) = 0 := rfl
      by_cases q : D.kd i = 2
      · rw [n2 i hin q]
        simp (maxSteps := 3000000) (disch := omega) only [Option.bind_some, tc_bs, tq_let, tc_I1, tc_I2, tc_J1, tc_J2, tc_J3, tc_F1, tc_F2, tc_F3, tc_F4, tc_G1, tc_G2, tc_G3, tc_G4, tc_G5, tc_us, tc_un, s_one, s_holds, s_J13_bitCount, bz_bI, f_X11_number_, hC.mod.f, e4, e5, q, if_true]
      · rw [n1 i hin q]
        simp (maxSteps := 3000000) (disch := omega) only [Option.bind_some, tc_bs, tq_let, tc_I1, tc_I2, tc_J1, tc_J2, tc_J3, tc_F1, tc_F2, tc_F3, tc_F4, tc_G1, tc_G2, tc_G3, tc_G4, tc_G5, tc_us, tc_un, s_one, s_holds, s_J13_bitCount, bz_bI, f_X11_number_, hC.mod.f, e4, e5, e8, q, if_true, if_false]
  · right
    have e3 : f_X10_number 0 x1 (tc_mk S c) = some (.inl "java/lang/IndexOutOfBoundsException", tc_mk S c) := by
      simp (maxSteps := 3000000) (disch := omega) only [Option.bind_some, tc_bs, tq_let, tc_I1, tc_I2, tc_J1, tc_J2, tc_J3, tc_F1, tc_F2, tc_F3, tc_F4, tc_G1, tc_G2, tc_G3, tc_G4, tc_G5, tc_us, tc_un, s_one, s_holds, s_J13_bitCount, bz_bI, f_X10_number, hC.tq.f, hC.t1.f, hC.need_n hi, tb_l]
    refine ⟨1, 0, by decide, ?_, ?_⟩
    · simp (maxSteps := 3000000) (disch := omega) only [Option.bind_some, tc_bs, tq_let, tc_I1, tc_I2, tc_J1, tc_J2, tc_J3, tc_F1, tc_F2, tc_F3, tc_F4, tc_G1, tc_G2, tc_G3, tc_G4, tc_G5, tc_us, tc_un, s_one, s_holds, s_J13_bitCount, bz_bI, f_V_number, hC.tq.f, e3, if_true]
    · have n10 : ¬ (1 : Int32) = 0 := by decide
      simp (maxSteps := 3000000) (disch := omega) only [Option.bind_some, tc_bs, tq_let, tc_I1, tc_I2, tc_J1, tc_J2, tc_J3, tc_F1, tc_F2, tc_F3, tc_F4, tc_G1, tc_G2, tc_G3, tc_G4, tc_G5, tc_us, tc_un, s_one, s_holds, s_J13_bitCount, bz_bI, f_X11_number_, hC.mod.f, hC.noN_n hi, n10, if_false]
theorem arm_child (h : InvE di h0) (e1 : tq_sx n xs (y4 + 1) = some x1) (e2 : tq_sx n xs (y4 + 2) = some x2) : ∃ h', f_V_law_c1184 n xs 0 155 205 y4 h0 = some (.inl (y4 + 5, h')) ∧ InvE di h' := by
  obtain ⟨S, c, D, m, U, P, H, Z, X, nw, ed, nv, vt, mv, Dv, rfl, hC, hF⟩ := h
  have e0 : f_V_law_c1184 n xs 0 155 205 y4 (tc_mk S c) = armI (f_V_child 0 x1 x2 205 (tc_mk S c)) (f_X11_child 155 x1 x2) y4 := by
    unfold f_V_law_c1184; rw [e1, e2]; rfl
  rw [e0]
  refine arm_read hC hF ?_
  have hg := hC.gt
  have hw := hg.1.1
  have hn60 := D.n_le hw
  have n10 : ¬ (1 : Int32) = 0 := by decide
  have z1 : tq_bz 1 = some 1 := rfl
  have z0 : tq_bz 0 = some 0 := rfl
  rcases D.at_or x1 with ⟨i, hi⟩ | hi
  · obtain ⟨hin, rfl⟩ := id hi
    have h60 := D.ord_lt hg.1.1 hin
    by_cases q : x2 ≥ 0
    · left
      have q2 : ¬ x2 < 0 := Int32.not_lt.mpr q
      have e2 : rg 60 (c.1 6) (nI (D.ord i)) = nI i := by rw [rg_in _ h60 (by decide)]; exact lay_spot hg.2.1 hin
      have f1 := s_X3_spotOf (c := c) hC.t1 (nI (D.ord i))
      have f1 : f_X3_spotOf 2 (nI (D.ord i)) (tc_mk S c) = some (nI i) := by rw [← e2]; exact f1
      have f2 : f_X3_children 2 (nI i) (tc_mk S c) = _ := s_X3_children (c := c) hC.t1 hw hg.2.1 hin
      have f3 : f_X3_nodeOfSet 2 (mkS (D.ax 1 i)) x2 (tc_mk S c) = _ := s_X3_nodeOfSet (c := c) hC.t1 hw hg.2.1 (D.ax_lt 1 i) x2
      have g0 : tq_gr (tc_mk S c) 1 8 0 = some 2 := by simp (maxSteps := 3000000) (disch := omega) only [Option.bind_some, tc_bs, tq_let, tc_I1, tc_I2, tc_J1, tc_J2, tc_J3, tc_F1, tc_F2, tc_F3, tc_F4, tc_G1, tc_G2, tc_G3, tc_G4, tc_G5, tc_us, tc_un, s_one, s_holds, s_J13_bitCount, bz_bI, hC.t1.f]
      have g1 : tq_is (tc_mk S c) 2 3 = some () := by simp (maxSteps := 3000000) (disch := omega) only [Option.bind_some, tc_bs, tq_let, tc_I1, tc_I2, tc_J1, tc_J2, tc_J3, tc_F1, tc_F2, tc_F3, tc_F4, tc_G1, tc_G2, tc_G3, tc_G4, tc_G5, tc_us, tc_un, s_one, s_holds, s_J13_bitCount, bz_bI, hC.t1.f]
      have e3 : f_X10_child 0 (nI (D.ord i)) x2 (tc_mk S c) = some (.inr (D.nd (pk (D.ax 1 i) x2)), tc_mk S c) := by
        simp (maxSteps := 3000000) (disch := omega) only [Option.bind_some, tc_bs, tq_let, tc_I1, tc_I2, tc_J1, tc_J2, tc_J3, tc_F1, tc_F2, tc_F3, tc_F4, tc_G1, tc_G2, tc_G3, tc_G4, tc_G5, tc_us, tc_un, s_one, s_holds, s_J13_bitCount, bz_bI, f_X10_child, f_X10_needNotNegative, hC.tq.f, hC.need hi, tb_r, q, if_true, g0, g1, f1, f2, f3]
      refine ⟨D.nd (pk (D.ax 1 i) x2), ?_, ?_⟩
      · simp (maxSteps := 3000000) (disch := omega) only [Option.bind_some, tc_bs, tq_let, tc_I1, tc_I2, tc_J1, tc_J2, tc_J3, tc_F1, tc_F2, tc_F3, tc_F4, tc_G1, tc_G2, tc_G3, tc_G4, tc_G5, tc_us, tc_un, s_one, s_holds, s_J13_bitCount, bz_bI, f_V_child, hC.tq.f, e3]; rfl
      · have hC2 := hC.sc (ans_sc c (D.nd (pk (D.ax 1 i) x2)).toInt64)
        have hg2 := hC2.gt
        have k4 := (hC2.sc (thr_sc _ 0)).gt
        have f5 := s_X11_isNode (S := S) hC.mod hw hg2.2.2.2.1 hi
        have f6 := s_X11_childAt (S := S) hC.mod hw k4.2.2.2.1 hin x2
        generalize ansC c (D.nd (pk (D.ax 1 i) x2)).toInt64 = c2 at *
        simp (maxSteps := 3000000) (disch := omega) only [Option.bind_some, tc_bs, tq_let, tc_I1, tc_I2, tc_J1, tc_J2, tc_J3, tc_F1, tc_F2, tc_F3, tc_F4, tc_G1, tc_G2, tc_G3, tc_G4, tc_G5, tc_us, tc_un, s_one, s_holds, s_J13_bitCount, bz_bI, f_X11_child, f_X11_refused, hC.mod.f, f5, n10, q2, f6, z0, if_true, if_false]
    · right
      have q2 : x2 < 0 := Int32.not_le.mp q
      have e3 : f_X10_child 0 (nI (D.ord i)) x2 (tc_mk S c) = some (.inl "java/lang/IndexOutOfBoundsException", tc_mk S c) := by
        simp (maxSteps := 3000000) (disch := omega) only [Option.bind_some, tc_bs, tq_let, tc_I1, tc_I2, tc_J1, tc_J2, tc_J3, tc_F1, tc_F2, tc_F3, tc_F4, tc_G1, tc_G2, tc_G3, tc_G4, tc_G5, tc_us, tc_un, s_one, s_holds, s_J13_bitCount, bz_bI, f_X10_child, f_X10_needNotNegative, hC.tq.f, hC.need hi, tb_r, tb_l, q, if_false]
      refine ⟨1, 0, by decide, ?_, ?_⟩
      · simp (maxSteps := 3000000) (disch := omega) only [Option.bind_some, tc_bs, tq_let, tc_I1, tc_I2, tc_J1, tc_J2, tc_J3, tc_F1, tc_F2, tc_F3, tc_F4, tc_G1, tc_G2, tc_G3, tc_G4, tc_G5, tc_us, tc_un, s_one, s_holds, s_J13_bitCount, bz_bI, f_V_child, hC.tq.f, e3, if_true]
      · have f5 := s_X11_isNode (S := S) hC.mod hw hg.2.2.2.1 hi
        simp (maxSteps := 3000000) (disch := omega) only [Option.bind_some, tc_bs, tq_let, tc_I1, tc_I2, tc_J1, tc_J2, tc_J3, tc_F1, tc_F2, tc_F3, tc_F4, tc_G1, tc_G2, tc_G3, tc_G4, tc_G5, tc_us, tc_un, s_one, s_holds, s_J13_bitCount, bz_bI, f_X11_child, f_X11_refused, hC.mod.f, f5, n10, q2, z1, if_true, if_false]
  · right
    have e3 : f_X10_child 0 x1 x2 (tc_mk S c) = some (.inl "java/lang/IndexOutOfBoundsException", tc_mk S c) := by
      simp (maxSteps := 3000000) (disch := omega) only [Option.bind_some, tc_bs, tq_let, tc_I1, tc_I2, tc_J1, tc_J2, tc_J3, tc_F1, tc_F2, tc_F3, tc_F4, tc_G1, tc_G2, tc_G3, tc_G4, tc_G5, tc_us, tc_un, s_one, s_holds, s_J13_bitCount, bz_bI, f_X10_child, hC.tq.f, hC.need_n hi, tb_l]
    refine ⟨1, 0, by decide, ?_, ?_⟩
    · simp (maxSteps := 3000000) (disch := omega) only [Option.bind_some, tc_bs, tq_let, tc_I1, tc_I2, tc_J1, tc_J2, tc_J3, tc_F1, tc_F2, tc_F3, tc_F4, tc_G1, tc_G2, tc_G3, tc_G4, tc_G5, tc_us, tc_un, s_one, s_holds, s_J13_bitCount, bz_bI, f_V_child, hC.tq.f, e3, if_true]
    · have f5 := s_X11_isNode_n (S := S) hC.mod hw hg.2.2.2.1 hi
      simp (maxSteps := 3000000) (disch := omega) only [Option.bind_some, tc_bs, tq_let, tc_I1, tc_I2, tc_J1, tc_J2, tc_J3, tc_F1, tc_F2, tc_F3, tc_F4, tc_G1, tc_G2, tc_G3, tc_G4, tc_G5, tc_us, tc_un, s_one, s_holds, s_J13_bitCount, bz_bI, f_X11_child, f_X11_refused, hC.mod.f, f5, n10, z1, if_true, if_false]
/-- a case whose two calls have no exceptions -/
theorem arm_made (h : InvE di h0) : ∃ h', f_V_law_c909 n xs 0 155 205 y4 h0 = some (.inl (y4 + 5, h')) ∧ InvE di h' := by
  obtain ⟨S, c, D, m, U, P, H, Z, X, nw, ed, nv, vt, mv, Dv, rfl, hC, hF⟩ := h
  have hg := hC.gt
  have e1 : c.2.2.1 1 10 = nI m := hg.2.2.1.2.2.1
  have e2 : c.2.2.1 155 1 = nI m := hg.2.2.2.1.1
  refine ⟨_, ?_, hC.fin hF 0⟩
  simp (maxSteps := 3000000) (disch := omega) only [Option.bind_some, tc_bs, tq_let, tc_I1, tc_I2, tc_J1, tc_J2, tc_J3, tc_F1, tc_F2, tc_F3, tc_F4, tc_G1, tc_G2, tc_G3, tc_G4, tc_G5, tc_us, tc_un, s_one, s_holds, s_J13_bitCount, bz_bI, f_V_law_c909, f_X10_made, f_X8_madeCount, f_X11_made, f_X11_fine, hC.tq.f, hC.t1.f, hC.mod.f, e1, e2, if_true]
theorem arm_nodes (h : InvE di h0) : ∃ h', f_V_law_c922 n xs 0 155 205 y4 h0 = some (.inl (y4 + 5, h')) ∧ InvE di h' := by
  obtain ⟨S, c, D, m, U, P, H, Z, X, nw, ed, nv, vt, mv, Dv, rfl, hC, hF⟩ := h
  have hg := hC.gt
  have e1 : f_X3_count 2 (tc_mk S c) = _ := s_X3_count (c := c) hC.t1 hg.2.1
  have e2 : c.2.2.1 155 11 = nI D.n := hg.2.2.2.2.1
  have g0 : tq_gr (tc_mk S c) 1 8 0 = some 2 := by simp (maxSteps := 3000000) (disch := omega) only [Option.bind_some, tc_bs, tq_let, tc_I1, tc_I2, tc_J1, tc_J2, tc_J3, tc_F1, tc_F2, tc_F3, tc_F4, tc_G1, tc_G2, tc_G3, tc_G4, tc_G5, tc_us, tc_un, s_one, s_holds, s_J13_bitCount, bz_bI, hC.t1.f]
  have g1 : tq_is (tc_mk S c) 2 3 = some () := by simp (maxSteps := 3000000) (disch := omega) only [Option.bind_some, tc_bs, tq_let, tc_I1, tc_I2, tc_J1, tc_J2, tc_J3, tc_F1, tc_F2, tc_F3, tc_F4, tc_G1, tc_G2, tc_G3, tc_G4, tc_G5, tc_us, tc_un, s_one, s_holds, s_J13_bitCount, bz_bI, hC.t1.f]
  refine ⟨_, ?_, hC.fin hF 0⟩
  simp (maxSteps := 3000000) (disch := omega) only [Option.bind_some, tc_bs, tq_let, tc_I1, tc_I2, tc_J1, tc_J2, tc_J3, tc_F1, tc_F2, tc_F3, tc_F4, tc_G1, tc_G2, tc_G3, tc_G4, tc_G5, tc_us, tc_un, s_one, s_holds, s_J13_bitCount, bz_bI, f_V_law_c922, f_X10_nodes, f_X11_nodes, f_X11_fine, hC.tq.f, g0, g1, hC.mod.f, e1, e2, if_true]
theorem arm_numbered (h : InvE di h0) : ∃ h', f_V_law_c1364 n xs 0 155 205 y4 h0 = some (.inl (y4 + 5, h')) ∧ InvE di h' := by
  obtain ⟨S, c, D, m, U, P, H, Z, X, nw, ed, nv, vt, mv, Dv, rfl, hC, hF⟩ := h
  have e1 := hC.2.2.1.2.2
  refine ⟨_, ?_, hC.fin hF 0⟩
  simp (maxSteps := 3000000) (disch := omega) only [Option.bind_some, tc_bs, tq_let, tc_I1, tc_I2, tc_J1, tc_J2, tc_J3, tc_F1, tc_F2, tc_F3, tc_F4, tc_G1, tc_G2, tc_G3, tc_G4, tc_G5, tc_us, tc_un, s_one, s_holds, s_J13_bitCount, bz_bI, f_V_law_c1364, f_X10_numbered, f_X11_numbered, f_X11_fine, hC.tq.f, hC.mod.f, e1, if_true]
theorem arm_isThere (h : InvE di h0) (e1 : tq_sx n xs (y4 + 1) = some x1) : ∃ h', f_V_law_c935 n xs 0 155 205 y4 h0 = some (.inl (y4 + 5, h')) ∧ InvE di h' := by
  obtain ⟨S, c, D, m, U, P, H, Z, X, nw, ed, nv, vt, mv, Dv, rfl, hC, hF⟩ := h
  have hg := hC.gt
  have hw := hg.1.1
  have g0 : tq_gr (tc_mk S c) 1 8 0 = some 2 := by simp (maxSteps := 3000000) (disch := omega) only [Option.bind_some, tc_bs, tq_let, tc_I1, tc_I2, tc_J1, tc_J2, tc_J3, tc_F1, tc_F2, tc_F3, tc_F4, tc_G1, tc_G2, tc_G3, tc_G4, tc_G5, tc_us, tc_un, s_one, s_holds, s_J13_bitCount, bz_bI, hC.t1.f]
  have g1 : tq_is (tc_mk S c) 2 3 = some () := by simp (maxSteps := 3000000) (disch := omega) only [Option.bind_some, tc_bs, tq_let, tc_I1, tc_I2, tc_J1, tc_J2, tc_J3, tc_F1, tc_F2, tc_F3, tc_F4, tc_G1, tc_G2, tc_G3, tc_G4, tc_G5, tc_us, tc_un, s_one, s_holds, s_J13_bitCount, bz_bI, hC.t1.f]
  have k4 := (hC.sc (thr_sc c 0)).gt
  refine ⟨_, ?_, hC.fin hF 0⟩
  have e2 : f_X3_holds 2 x1 (tc_mk S c) = _ := s_X3_holds (c := c) hC.t1 x1
  rcases D.at_or x1 with ⟨i, hi⟩ | hi
  · have e3 := lay_at hw hg.2.1 hi
    have e3 : rg 60 (c.1 (1 + 5)) x1 = nI i := e3
    rw [e3, decide_eq_true (nI_nm1 (by have := hi.1; have := D.n_le hw; omega))] at e2
    have f5 := s_X11_isNode (S := S) hC.mod hw k4.2.2.2.1 hi
    have z1 : tq_bz 1 = some 1 := rfl
    have b1 : bI true = 1 := rfl
    simp (maxSteps := 3000000) (disch := omega) only [Option.bind_some, tc_bs, tq_let, tc_I1, tc_I2, tc_J1, tc_J2, tc_J3, tc_F1, tc_F2, tc_F3, tc_F4, tc_G1, tc_G2, tc_G3, tc_G4, tc_G5, tc_us, tc_un, s_one, s_holds, s_J13_bitCount, bz_bI, f_V_law_c935, f_X10_isThere, f_X11_isThere, e1, hC.tq.f, g0, g1, hC.mod.f, e2, f5, b1, z1, if_true]
  · have e3 := lay_noat hw hg.2.1 hi
    rw [e3, decide_eq_false (fun z => z rfl)] at e2
    have f5 := s_X11_isNode_n (S := S) hC.mod hw k4.2.2.2.1 hi
    have z0 : tq_bz 0 = some 0 := rfl
    have b0 : bI false = 0 := rfl
    simp (maxSteps := 3000000) (disch := omega) only [Option.bind_some, tc_bs, tq_let, tc_I1, tc_I2, tc_J1, tc_J2, tc_J3, tc_F1, tc_F2, tc_F3, tc_F4, tc_G1, tc_G2, tc_G3, tc_G4, tc_G5, tc_us, tc_un, s_one, s_holds, s_J13_bitCount, bz_bI, f_V_law_c935, f_X10_isThere, f_X11_isThere, e1, hC.tq.f, g0, g1, hC.mod.f, e2, f5, b0, z0, if_true]
end RDB
