/-! ===== what the class reads, on a ghost ===== -/
section RD1
variable {S : tq_H} {c c' : tc_C} {di : DI} {D : Doc} {m : Nat} {U : Ups} {P : Pat} {H : Nat → Bool} {Z : Sma} {X : Nat → Bool} {nw : Nat} {ed : Option Nat} {nv : Nat} {vt mv : Nat → Nat} {Dv : Nat → Doc} {i j k : Nat} {v x : Int32}
theorem rd_is (hC : Cor S c di D m U P H Z X nw ed nv vt mv Dv) : tq_is (tc_mk S c) 0 10 = some () := by simp (maxSteps := 3000000) (disch := omega) only [Option.bind_some, tc_bs, tq_let, tc_I1, tc_I2, tc_J1, tc_J2, tc_J3, tc_F1, tc_F2, tc_F3, tc_F4, tc_G1, tc_G2, tc_G3, tc_G4, tc_G5, tc_us, tc_un, s_one, s_holds, s_J13_bitCount, bz_bI, hC.tq.f]
theorem rd_made (hC : Cor S c di D m U P H Z X nw ed nv vt mv Dv) : f_X10_made 0 (tc_mk S c) = some (nI m) := by
  have e1 : c.2.2.1 1 10 = nI m := hC.gt.2.2.1.2.2.1
  simp (maxSteps := 3000000) (disch := omega) only [Option.bind_some, tc_bs, tq_let, tc_I1, tc_I2, tc_J1, tc_J2, tc_J3, tc_F1, tc_F2, tc_F3, tc_F4, tc_G1, tc_G2, tc_G3, tc_G4, tc_G5, tc_us, tc_un, s_one, s_holds, s_J13_bitCount, bz_bI, f_X10_made, f_X8_madeCount, hC.tq.f, hC.t1.f, e1]
theorem rd_g0 (hC : Cor S c di D m U P H Z X nw ed nv vt mv Dv) : tq_gr (tc_mk S c) 1 8 0 = some 2 ∧ tq_is (tc_mk S c) 2 3 = some () := ⟨by simp (maxSteps := 3000000) (disch := omega) only [Option.bind_some, tc_bs, tq_let, tc_I1, tc_I2, tc_J1, tc_J2, tc_J3, tc_F1, tc_F2, tc_F3, tc_F4, tc_G1, tc_G2, tc_G3, tc_G4, tc_G5, tc_us, tc_un, s_one, s_holds, s_J13_bitCount, bz_bI, hC.t1.f], by simp (maxSteps := 3000000) (disch := omega) only [Option.bind_some, tc_bs, tq_let, tc_I1, tc_I2, tc_J1, tc_J2, tc_J3, tc_F1, tc_F2, tc_F3, tc_F4, tc_G1, tc_G2, tc_G3, tc_G4, tc_G5, tc_us, tc_un, s_one, s_holds, s_J13_bitCount, bz_bI, hC.t1.f]⟩
theorem rd_nodes (hC : Cor S c di D m U P H Z X nw ed nv vt mv Dv) : f_X10_nodes 0 (tc_mk S c) = some (nI D.n) := by
  have e1 : f_X3_count 2 (tc_mk S c) = _ := s_X3_count (c := c) hC.t1 hC.gt.2.1
  obtain ⟨g0, g1⟩ := rd_g0 hC
  simp (maxSteps := 3000000) (disch := omega) only [Option.bind_some, tc_bs, tq_let, tc_I1, tc_I2, tc_J1, tc_J2, tc_J3, tc_F1, tc_F2, tc_F3, tc_F4, tc_G1, tc_G2, tc_G3, tc_G4, tc_G5, tc_us, tc_un, s_one, s_holds, s_J13_bitCount, bz_bI, f_X10_nodes, hC.tq.f, g0, g1, e1]
theorem rd_numbered (hC : Cor S c di D m U P H Z X nw ed nv vt mv Dv) : f_X10_numbered 0 (tc_mk S c) = some (c.2.2.1 155 10) := by
  have e1 := hC.2.2.1.2.2
  simp (maxSteps := 3000000) (disch := omega) only [Option.bind_some, tc_bs, tq_let, tc_I1, tc_I2, tc_J1, tc_J2, tc_J3, tc_F1, tc_F2, tc_F3, tc_F4, tc_G1, tc_G2, tc_G3, tc_G4, tc_G5, tc_us, tc_un, s_one, s_holds, s_J13_bitCount, bz_bI, f_X10_numbered, hC.tq.f, e1]
theorem rd_paths (hC : Cor S c di D m U P H Z X nw ed nv vt mv Dv) : f_X10_paths 0 (tc_mk S c) = some (nI P.n) := by
  have e1 : c.2.2.1 98 9 = nI P.n := hC.gp.1.1
  simp (maxSteps := 3000000) (disch := omega) only [Option.bind_some, tc_bs, tq_let, tc_I1, tc_I2, tc_J1, tc_J2, tc_J3, tc_F1, tc_F2, tc_F3, tc_F4, tc_G1, tc_G2, tc_G3, tc_G4, tc_G5, tc_us, tc_un, s_one, s_holds, s_J13_bitCount, bz_bI, f_X10_paths, f_X4_count, hC.tq.f, hC.pth.f, e1]
theorem rd_there (hC : Cor S c di D m U P H Z X nw ed nv vt mv Dv) (hi : D.At v i) : f_X10_isThere 0 v (tc_mk S c) = some 1 := by
  obtain ⟨g0, g1⟩ := rd_g0 hC
  have hw := hC.gt.1.1
  have e2 : f_X3_holds 2 v (tc_mk S c) = _ := s_X3_holds (c := c) hC.t1 v
  have e3 : rg 60 (c.1 (1 + 5)) v = nI i := lay_at hw hC.gt.2.1 hi
  rw [e3, decide_eq_true (nI_nm1 (by have := hi.1; have := D.n_le hw; omega))] at e2
  have b1 : bI true = 1 := rfl
  simp (maxSteps := 3000000) (disch := omega) only [Option.bind_some, tc_bs, tq_let, tc_I1, tc_I2, tc_J1, tc_J2, tc_J3, tc_F1, tc_F2, tc_F3, tc_F4, tc_G1, tc_G2, tc_G3, tc_G4, tc_G5, tc_us, tc_un, s_one, s_holds, s_J13_bitCount, bz_bI, f_X10_isThere, hC.tq.f, g0, g1, e2, b1]
  rfl
theorem rd_there_n (hC : Cor S c di D m U P H Z X nw ed nv vt mv Dv) (hi : ∀ i, ¬ D.At v i) : f_X10_isThere 0 v (tc_mk S c) = some 0 := by
  obtain ⟨g0, g1⟩ := rd_g0 hC
  have hw := hC.gt.1.1
  have e2 : f_X3_holds 2 v (tc_mk S c) = _ := s_X3_holds (c := c) hC.t1 v
  have e3 := lay_noat hw hC.gt.2.1 hi
  rw [e3, decide_eq_false (fun z => z rfl)] at e2
  have b0 : bI false = 0 := rfl
  simp (maxSteps := 3000000) (disch := omega) only [Option.bind_some, tc_bs, tq_let, tc_I1, tc_I2, tc_J1, tc_J2, tc_J3, tc_F1, tc_F2, tc_F3, tc_F4, tc_G1, tc_G2, tc_G3, tc_G4, tc_G5, tc_us, tc_un, s_one, s_holds, s_J13_bitCount, bz_bI, f_X10_isThere, hC.tq.f, g0, g1, e2, b0]
  rfl
theorem rd_kind (hC : Cor S c di D m U P H Z X nw ed nv vt mv Dv) (hi : i < D.n) : f_X10_kind 0 (nI (D.ord i)) (tc_mk S c) = some (.inr (D.kd i), tc_mk S c) := by
  have hn := hC.need (v := nI (D.ord i)) ⟨hi, rfl⟩
  have h60 := D.ord_lt hC.gt.1.1 hi
  have e2 : rg 60 (c.1 24) (nI (D.ord i)) = D.kd i := by rw [rg_in _ h60 (by decide)]; exact hC.gt.2.2.1.2.2.2.1 i hi
  simp (maxSteps := 3000000) (disch := omega) only [Option.bind_some, tc_bs, tq_let, tc_I1, tc_I2, tc_J1, tc_J2, tc_J3, tc_F1, tc_F2, tc_F3, tc_F4, tc_G1, tc_G2, tc_G3, tc_G4, tc_G5, tc_us, tc_un, s_one, s_holds, s_J13_bitCount, bz_bI, f_X10_kind, hC.tq.f, hC.t1.f, hn, tb_r, e2]
theorem rd_name (hC : Cor S c di D m U P H Z X nw ed nv vt mv Dv) (hi : i < D.n) : f_X10_name 0 (nI (D.ord i)) (tc_mk S c) = some (.inr (D.nm i), tc_mk S c) := by
  have hn := hC.need (v := nI (D.ord i)) ⟨hi, rfl⟩
  have h60 := D.ord_lt hC.gt.1.1 hi
  have e2 : rg 60 (c.1 26) (nI (D.ord i)) = D.nm i := by rw [rg_in _ h60 (by decide)]; exact hC.gt.2.2.1.2.2.2.2.1 i hi
  simp (maxSteps := 3000000) (disch := omega) only [Option.bind_some, tc_bs, tq_let, tc_I1, tc_I2, tc_J1, tc_J2, tc_J3, tc_F1, tc_F2, tc_F3, tc_F4, tc_G1, tc_G2, tc_G3, tc_G4, tc_G5, tc_us, tc_un, s_one, s_holds, s_J13_bitCount, bz_bI, f_X10_name, hC.tq.f, hC.t1.f, hn, tb_r, e2]
theorem rd_parent (hC : Cor S c di D m U P H Z X nw ed nv vt mv Dv) (hi : i < D.n) : f_X10_parent 0 (nI (D.ord i)) (tc_mk S c) = some (.inr (D.upN i), tc_mk S c) := by
  have hn := hC.need (v := nI (D.ord i)) ⟨hi, rfl⟩
  have h60 := D.ord_lt hC.gt.1.1 hi
  have e2 : rg 60 (c.1 32) (nI (D.ord i)) = D.upN i := by rw [rg_in _ h60 (by decide)]; exact hC.gt.2.2.1.2.2.2.2.2.2.2.1 i hi
  simp (maxSteps := 3000000) (disch := omega) only [Option.bind_some, tc_bs, tq_let, tc_I1, tc_I2, tc_J1, tc_J2, tc_J3, tc_F1, tc_F2, tc_F3, tc_F4, tc_G1, tc_G2, tc_G3, tc_G4, tc_G5, tc_us, tc_un, s_one, s_holds, s_J13_bitCount, bz_bI, f_X10_parent, hC.tq.f, hC.t1.f, hn, tb_r, e2]
theorem rd_number (hC : Cor S c di D m U P H Z X nw ed nv vt mv Dv) (hi : i < D.n) : f_X10_number 0 (nI (D.ord i)) (tc_mk S c) = some (.inr (c.1 34 (D.ord i)), tc_mk S c) := by
  have hn := hC.need (v := nI (D.ord i)) ⟨hi, rfl⟩
  have h60 := D.ord_lt hC.gt.1.1 hi
  have e2 : rg 60 (c.1 34) (nI (D.ord i)) = c.1 34 (D.ord i) := rg_in _ h60 (by decide)
  simp (maxSteps := 3000000) (disch := omega) only [Option.bind_some, tc_bs, tq_let, tc_I1, tc_I2, tc_J1, tc_J2, tc_J3, tc_F1, tc_F2, tc_F3, tc_F4, tc_G1, tc_G2, tc_G3, tc_G4, tc_G5, tc_us, tc_un, s_one, s_holds, s_J13_bitCount, bz_bI, f_X10_number, hC.tq.f, hC.t1.f, hn, tb_r, e2]
theorem rd_spot (hC : Cor S c di D m U P H Z X nw ed nv vt mv Dv) (hi : i < D.n) : f_X3_spotOf 2 (nI (D.ord i)) (tc_mk S c) = some (nI i) := by
  have h60 := D.ord_lt hC.gt.1.1 hi
  have e2 : rg 60 (c.1 6) (nI (D.ord i)) = nI i := by rw [rg_in _ h60 (by decide)]; exact lay_spot hC.gt.2.1 hi
  have f1 := s_X3_spotOf (c := c) hC.t1 (nI (D.ord i))
  rw [← e2]; exact f1
theorem rd_space (hC : Cor S c di D m U P H Z X nw ed nv vt mv Dv) (hi : i < D.n) : f_X10_space 0 (nI (D.ord i)) (tc_mk S c) = some (.inr (if D.kd i = 0 then D.sp i else -1), tc_mk S c) := by
  have hn := hC.need (v := nI (D.ord i)) ⟨hi, rfl⟩
  obtain ⟨g0, g1⟩ := rd_g0 hC
  have f1 := rd_spot hC hi
  have f2 : f_X3_spaceAt 2 (nI i) (tc_mk S c) = _ := s_X3_spaceAt (c := c) hC.t1 hC.gt.1.1 hC.gt.2.1 hi
  simp (maxSteps := 3000000) (disch := omega) only [Option.bind_some, tc_bs, tq_let, tc_I1, tc_I2, tc_J1, tc_J2, tc_J3, tc_F1, tc_F2, tc_F3, tc_F4, tc_G1, tc_G2, tc_G3, tc_G4, tc_G5, tc_us, tc_un, s_one, s_holds, s_J13_bitCount, bz_bI, f_X10_space, hC.tq.f, hC.t1.f, hn, tb_r, g0, g1, f1, f2]
theorem rd_child (hC : Cor S c di D m U P H Z X nw ed nv vt mv Dv) (hi : i < D.n) (q : x ≥ 0) : f_X10_child 0 (nI (D.ord i)) x (tc_mk S c) = some (.inr (D.nd (pk (D.ax 1 i) x)), tc_mk S c) := by
  have hn := hC.need (v := nI (D.ord i)) ⟨hi, rfl⟩
  obtain ⟨g0, g1⟩ := rd_g0 hC
  have f1 := rd_spot hC hi
  have hw := hC.gt.1.1
  have f2 : f_X3_children 2 (nI i) (tc_mk S c) = _ := s_X3_children (c := c) hC.t1 hw hC.gt.2.1 hi
  have f3 : f_X3_nodeOfSet 2 (mkS (D.ax 1 i)) x (tc_mk S c) = _ := s_X3_nodeOfSet (c := c) hC.t1 hw hC.gt.2.1 (D.ax_lt 1 i) x
  simp (maxSteps := 3000000) (disch := omega) only [Option.bind_some, tc_bs, tq_let, tc_I1, tc_I2, tc_J1, tc_J2, tc_J3, tc_F1, tc_F2, tc_F3, tc_F4, tc_G1, tc_G2, tc_G3, tc_G4, tc_G5, tc_us, tc_un, s_one, s_holds, s_J13_bitCount, bz_bI, f_X10_child, f_X10_needNotNegative, hC.tq.f, hn, tb_r, q, if_true, g0, g1, f1, f2, f3]
theorem rd_value (hC : Cor S c di D m U P H Z X nw ed nv vt mv Dv) (hi : i < D.n) : f_X10_value 0 (nI (D.ord i)) (tc_mk S c) = some (.inr (D.val (fun j => decide (j < D.n)) i), tc_mk S c) := by
  have hn := hC.need (v := nI (D.ord i)) ⟨hi, rfl⟩
  obtain ⟨g0, g1⟩ := rd_g0 hC
  have f1 := rd_spot hC hi
  have hw := hC.gt.1.1
  have f2 : f_X3_everything 2 (tc_mk S c) = _ := s_X3_everything (c := c) hC.t1 hw hC.gt.2.1
  have f3 := s_X8_valueAt (c := c) hC.t1 hw hC.gt.2.1 hC.gt.2.2.1 (fun j => decide (j < D.n)) hi
  simp (maxSteps := 3000000) (disch := omega) only [Option.bind_some, tc_bs, tq_let, tc_I1, tc_I2, tc_J1, tc_J2, tc_J3, tc_F1, tc_F2, tc_F3, tc_F4, tc_G1, tc_G2, tc_G3, tc_G4, tc_G5, tc_us, tc_un, s_one, s_holds, s_J13_bitCount, bz_bI, f_X10_value, hC.tq.f, hC.t1.f, hn, tb_r, g0, g1, f1, f2, f3]
-- the law's own, where nothing is thrown
theorem nr_kind (hC : Cor S c di D m U P H Z X nw ed nv vt mv Dv) (hi : i < D.n) : f_N_kind 0 (nI (D.ord i)) (tc_mk S c) = some (D.kd i, tc_mk S c) := by
  simp only [f_N_kind, rd_is hC, rd_kind hC hi, Option.bind_some]
theorem nr_name (hC : Cor S c di D m U P H Z X nw ed nv vt mv Dv) (hi : i < D.n) : f_N_name 0 (nI (D.ord i)) (tc_mk S c) = some (D.nm i, tc_mk S c) := by
  simp only [f_N_name, rd_is hC, rd_name hC hi, Option.bind_some]
theorem nr_value (hC : Cor S c di D m U P H Z X nw ed nv vt mv Dv) (hi : i < D.n) : f_N_value 0 (nI (D.ord i)) (tc_mk S c) = some (D.val (fun j => decide (j < D.n)) i, tc_mk S c) := by
  simp only [f_N_value, rd_is hC, rd_value hC hi, Option.bind_some]
theorem nr_parent (hC : Cor S c di D m U P H Z X nw ed nv vt mv Dv) (hi : i < D.n) : f_N_parent 0 (nI (D.ord i)) (tc_mk S c) = some (D.upN i, tc_mk S c) := by
  simp only [f_N_parent, rd_is hC, rd_parent hC hi, Option.bind_some]
theorem nr_number (hC : Cor S c di D m U P H Z X nw ed nv vt mv Dv) (hi : i < D.n) : f_N_number 0 (nI (D.ord i)) (tc_mk S c) = some (c.1 34 (D.ord i), tc_mk S c) := by
  simp only [f_N_number, rd_is hC, rd_number hC hi, Option.bind_some]
theorem nr_space (hC : Cor S c di D m U P H Z X nw ed nv vt mv Dv) (hi : i < D.n) : f_N_space 0 (nI (D.ord i)) (tc_mk S c) = some (if D.kd i = 0 then D.sp i else -1, tc_mk S c) := by
  simp only [f_N_space, rd_is hC, rd_space hC hi, Option.bind_some]
theorem nr_child (hC : Cor S c di D m U P H Z X nw ed nv vt mv Dv) (hi : i < D.n) (q : x ≥ 0) : f_N_child 0 (nI (D.ord i)) x (tc_mk S c) = some (D.nd (pk (D.ax 1 i) x), tc_mk S c) := by
  simp only [f_N_child, rd_is hC, rd_child hC hi q, Option.bind_some]
end RD1
