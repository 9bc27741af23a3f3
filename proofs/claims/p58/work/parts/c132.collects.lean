/-! ===== the other calls that collect an update ===== -/
section CO2
variable {S S1 S2 : tq_H} {c c1 c2 c' : tc_C} {di : DI} {D : Doc} {m : Nat} {U : Ups} {P : Pat} {H : Nat → Bool} {Z : Sma} {X : Nat → Bool} {nw : Nat} {ed ed2 : Option Nat} {nv z z2 : Nat} {vt mv : Nat → Nat} {Dv : Nat → Doc} {i j : Nat} {v a k y4 x x1 x2 x3 x4 lo hi : Int32} {n : Nat} {xs : Nat → Int32} {h0 : tq_H} {w t p l kd q : Nat} {nm ct : Int32} {h : tq_H}
theorem Cor.cnt (h : Cor S c di D m U P H Z X nw ed nv vt mv Dv) : c.2.2.1 155 15 = nI U.n ∧ (U.n < 20 → ¬ nI U.n = 20) ∧ (¬ U.n < 20 → nI U.n = 20) := by
  have hn := h.gu.1.2.1
  refine ⟨h.gu.2.1.1, fun q e => ?_, fun q => ?_⟩
  · have := (nI_eq (show U.n < 2 ^ 31 by omega) (show 20 < 2 ^ 31 by decide)).mp e
    omega
  · rw [show U.n = 20 by omega]; rfl
theorem Doc.at_0 (hw : D.wf) (hi : D.At v i) : v = 0 ↔ i = 0 := by
  obtain ⟨hin, rfl⟩ := hi
  constructor
  · intro h
    have h : nI (D.ord i) = nI 0 := h
    have := (nI_eq (by have := D.ord_lt hw hin; omega) (by omega)).mp h
    exact D.ord_inj hw hin (D.n_pos hw) (by rw [this, D.ord_0 hw])
  · intro h; rw [h, D.ord_0 hw]; rfl
theorem Cor.rkd (h : Cor S c di D m U P H Z X nw ed nv vt mv Dv) (hi : D.At v i) : (∀ d, GT d D m → tq_ai (tc_mk S d) 156 v = some (D.kd i)) ∧ rg 60 (c.1 24) v = D.kd i := by
  obtain ⟨hin, rfl⟩ := hi
  have h60 := D.ord_lt h.gt.1.1 hin
  refine ⟨fun d hd => ?_, by rw [rg_in _ h60 (by decide)]; exact h.gt.2.2.1.2.2.2.1 i hin⟩
  have e1 := hd.2.2.2.1.2.2.2.2.1 i hin
  have hm := h.mod
  simp (maxSteps := 3000000) (disch := omega) only [Option.bind_some, tc_bs, tq_let, tc_I1, tc_I2, tc_J1, tc_J2, tc_J3, tc_F1, tc_F2, tc_F3, tc_F4, tc_G1, tc_G2, tc_G3, tc_G4, tc_G5, tc_us, tc_un, s_one, s_holds, s_J13_bitCount, bz_bI, hm.f, e1]
theorem arm_remove (h : InvE di h0) (e1 : tq_sx n xs (y4 + 1) = some x1) : ∃ h' u, f_V_law_c512 n xs 0 155 205 y4 h0 = some (.inl (y4 + 5, h')) ∧ InvE (di.1, di.2.1, u) h' ∧ EXp di.2.2 u h' := by
  obtain ⟨S, c, D, m, U, P, H, Z, X, nw, ed, nv, vt, mv, Dv, rfl, hC, hF⟩ := h
  have e0 : f_V_law_c512 n xs 0 155 205 y4 (tc_mk S c) = armI (f_V_remove 0 x1 205 (tc_mk S c)) (f_X11_remove 155 x1) y4 := by
    unfold f_V_law_c512; rw [e1]; rfl
  rw [e0]
  have hg := hC.gt
  have hw := hg.1.1
  have n10 : ¬ (1 : Int32) = 0 := by decide
  have n20 : ¬ (2 : Int32) = 0 := by decide
  have n30 : ¬ (3 : Int32) = 0 := by decide
  have z0 : tq_bz 0 = some 0 := rfl
  have z1 : tq_bz 1 = some 1 := rfl
  have b1 : ¬ bI true = 0 := by decide
  have b0 : bI false = 0 := rfl
  obtain ⟨ct1, ct2, ct3⟩ := hC.cnt
  rcases D.at_or x1 with ⟨i, hi⟩ | hi
  · have ri := s_X11_isNode (S := S) hC.mod hw hg.2.2.2.1 hi
    have cn := hC.need hi
    by_cases q0 : x1 = 0
    · subst q0
      refine arm_no hC hF (k := 2) (b := 0) (by decide) ?_ ?_
      · have e5 : f_X10_remove 0 0 (tc_mk S c) = some (.inl "java/lang/IllegalStateException", tc_mk S c) := by simp (maxSteps := 3000000) (disch := omega) only [Option.bind_some, tc_bs, tq_let, tc_I1, tc_I2, tc_J1, tc_J2, tc_J3, tc_F1, tc_F2, tc_F3, tc_F4, tc_G1, tc_G2, tc_G3, tc_G4, tc_G5, tc_us, tc_un, s_one, s_holds, s_J13_bitCount, bz_bI, f_X10_remove, hC.tq.f, hC.t1.f, cn, tb_r, tb_l, if_true, if_false]
        simp (maxSteps := 3000000) (disch := omega) only [Option.bind_some, tc_bs, tq_let, tc_I1, tc_I2, tc_J1, tc_J2, tc_J3, tc_F1, tc_F2, tc_F3, tc_F4, tc_G1, tc_G2, tc_G3, tc_G4, tc_G5, tc_us, tc_un, s_one, s_holds, s_J13_bitCount, bz_bI, f_V_remove, hC.tq.f, e5, nSI, nSA, if_true, if_false]
      · simp (maxSteps := 3000000) (disch := omega) only [Option.bind_some, tc_bs, tq_let, tc_I1, tc_I2, tc_J1, tc_J2, tc_J3, tc_F1, tc_F2, tc_F3, tc_F4, tc_G1, tc_G2, tc_G3, tc_G4, tc_G5, tc_us, tc_un, s_one, s_holds, s_J13_bitCount, bz_bI, f_X11_remove, f_X11_refused, hC.mod.f, ri, n10, n20, n30, z1, if_true, if_false]
    · have i0 : i ≠ 0 := fun z => q0 ((D.at_0 hw hi).mpr z)
      by_cases q4 : U.n < 20
      · have c4 := hC.room.1 q4
        have r4 := ct2 q4
        obtain ⟨hin, rfl⟩ := id hi
        obtain ⟨c1', g1, g2, g3⟩ := s_addChange (c := c) (w := 1) (t := D.ord i) (ct := -1) hC.upc hC.gu.1 q4 (.inl rfl)
        have g1 : f_X9_addChange 81 1 (nI (D.ord i)) (-1) (tc_mk S c) = some (nI (U.n + 1), tc_mk S c1') := g1
        have e5 : f_X10_remove 0 (nI (D.ord i)) (tc_mk S c) = some (.inr (nI (U.n + 1)), tc_mk S c1') := by
          simp (maxSteps := 3000000) (disch := omega) only [Option.bind_some, tc_bs, tq_let, tc_I1, tc_I2, tc_J1, tc_J2, tc_J3, tc_F1, tc_F2, tc_F3, tc_F4, tc_G1, tc_G2, tc_G3, tc_G4, tc_G5, tc_us, tc_un, s_one, s_holds, s_J13_bitCount, bz_bI, f_X10_remove, hC.tq.f, hC.upc.f, cn, q0, c4, tb_r, g1, if_false]
        refine hC.acc hF q4 (c1 := c1') (w := 1) (t := D.ord i) (p := 0) (l := 0) (kd := 0) (nm := 0) (ct := -1) (by simp (maxSteps := 3000000) (disch := omega) only [Option.bind_some, tc_bs, tq_let, tc_I1, tc_I2, tc_J1, tc_J2, tc_J3, tc_F1, tc_F2, tc_F3, tc_F4, tc_G1, tc_G2, tc_G3, tc_G4, tc_G5, tc_us, tc_un, s_one, s_holds, s_J13_bitCount, bz_bI, f_V_remove, hC.tq.f, e5]; rfl) g2 g3 (wf_push hC.gu.2.2 q4 (by decide) (fun _ => ⟨i, hin, rfl, fun _ => Nat.pos_of_ne_zero i0, fun z => (by cases z), fun z => (by cases z), fun z => (by cases z), fun z => (by cases z)⟩) (fun z => (by rcases z with z | z <;> cases z)) (fun z => (by cases z)) (fun z => (by cases z)) (fun z => (by cases z)) (fun z => (by cases z))) (a1 := 1) (a2 := nI (D.ord i)) (a3 := -1) (a4 := 0) (a5 := 0) (a6 := 0) (a7 := 0) (fun k1 k2 => ?_) rfl rfl (fun z => (by rcases z with z | z <;> cases z)) (fun z => (by rcases z with z | ⟨z, _⟩ <;> cases z)) (fun z => (by cases z)) (fun z => (by cases z)) (fun z => (by rcases z with z | z <;> cases z))
        have ri' := s_X11_isNode (S := S) hC.mod hw k1.2.2.2.1 hi
        have ct1' := k2.1
        generalize ansC c1' (nI (U.n + 1)).toInt64 = d at *
        simp (maxSteps := 3000000) (disch := omega) only [Option.bind_some, tc_bs, tq_let, tc_I1, tc_I2, tc_J1, tc_J2, tc_J3, tc_F1, tc_F2, tc_F3, tc_F4, tc_G1, tc_G2, tc_G3, tc_G4, tc_G5, tc_us, tc_un, s_one, s_holds, s_J13_bitCount, bz_bI, f_X11_remove, f_X11_refused, hC.mod.f, ri', n10, q0, ct1', r4, z0, bs2, if_true, if_false]
      · have c4 := hC.room.2 q4
        have r4 := ct3 q4
        refine arm_no hC hF (k := 2) (b := 0) (by decide) ?_ ?_
        · have e5 : f_X10_remove 0 x1 (tc_mk S c) = some (.inl "java/lang/IllegalStateException", tc_mk S c) := by simp (maxSteps := 3000000) (disch := omega) only [Option.bind_some, tc_bs, tq_let, tc_I1, tc_I2, tc_J1, tc_J2, tc_J3, tc_F1, tc_F2, tc_F3, tc_F4, tc_G1, tc_G2, tc_G3, tc_G4, tc_G5, tc_us, tc_un, s_one, s_holds, s_J13_bitCount, bz_bI, f_X10_remove, hC.tq.f, hC.t1.f, cn, q0, c4, tb_r, tb_l, if_true, if_false]
          simp (maxSteps := 3000000) (disch := omega) only [Option.bind_some, tc_bs, tq_let, tc_I1, tc_I2, tc_J1, tc_J2, tc_J3, tc_F1, tc_F2, tc_F3, tc_F4, tc_G1, tc_G2, tc_G3, tc_G4, tc_G5, tc_us, tc_un, s_one, s_holds, s_J13_bitCount, bz_bI, f_V_remove, hC.tq.f, e5, nSI, nSA, if_true, if_false]
        · simp (maxSteps := 3000000) (disch := omega) only [Option.bind_some, tc_bs, tq_let, tc_I1, tc_I2, tc_J1, tc_J2, tc_J3, tc_F1, tc_F2, tc_F3, tc_F4, tc_G1, tc_G2, tc_G3, tc_G4, tc_G5, tc_us, tc_un, s_one, s_holds, s_J13_bitCount, bz_bI, f_X11_remove, f_X11_refused, hC.mod.f, ri, q0, ct1, r4, n10, n20, n30, z1, if_true, if_false]
  · have ri := s_X11_isNode_n (S := S) hC.mod hw hg.2.2.2.1 hi
    have cn := hC.need_n hi
    refine arm_no hC hF (k := 1) (b := 0) (by decide) ?_ ?_
    · have e5 : f_X10_remove 0 x1 (tc_mk S c) = some (.inl "java/lang/IndexOutOfBoundsException", tc_mk S c) := by simp (maxSteps := 3000000) (disch := omega) only [Option.bind_some, tc_bs, tq_let, tc_I1, tc_I2, tc_J1, tc_J2, tc_J3, tc_F1, tc_F2, tc_F3, tc_F4, tc_G1, tc_G2, tc_G3, tc_G4, tc_G5, tc_us, tc_un, s_one, s_holds, s_J13_bitCount, bz_bI, f_X10_remove, hC.tq.f, hC.t1.f, cn, tb_r, tb_l, if_true, if_false]
      simp (maxSteps := 3000000) (disch := omega) only [Option.bind_some, tc_bs, tq_let, tc_I1, tc_I2, tc_J1, tc_J2, tc_J3, tc_F1, tc_F2, tc_F3, tc_F4, tc_G1, tc_G2, tc_G3, tc_G4, tc_G5, tc_us, tc_un, s_one, s_holds, s_J13_bitCount, bz_bI, f_V_remove, hC.tq.f, e5, if_true]
    · simp (maxSteps := 3000000) (disch := omega) only [Option.bind_some, tc_bs, tq_let, tc_I1, tc_I2, tc_J1, tc_J2, tc_J3, tc_F1, tc_F2, tc_F3, tc_F4, tc_G1, tc_G2, tc_G3, tc_G4, tc_G5, tc_us, tc_un, s_one, s_holds, s_J13_bitCount, bz_bI, f_X11_remove, f_X11_refused, hC.mod.f, ri, n10, n20, n30, z1, if_true, if_false]
theorem arm_rename (h : InvE di h0) (e1 : tq_sx n xs (y4 + 1) = some x1) (e2 : tq_sx n xs (y4 + 2) = some x2) : ∃ h' u, f_V_law_c568 n xs 0 155 205 y4 h0 = some (.inl (y4 + 5, h')) ∧ InvE (di.1, di.2.1, u) h' ∧ EXp di.2.2 u h' := by
  obtain ⟨S, c, D, m, U, P, H, Z, X, nw, ed, nv, vt, mv, Dv, rfl, hC, hF⟩ := h
  have e0 : f_V_law_c568 n xs 0 155 205 y4 (tc_mk S c) = armI (f_V_rename 0 x1 x2 205 (tc_mk S c)) (f_X11_rename 155 x1 x2) y4 := by
    unfold f_V_law_c568; rw [e1, e2]; rfl
  rw [e0]
  have hg := hC.gt
  have hw := hg.1.1
  have n10 : ¬ (1 : Int32) = 0 := by decide
  have n20 : ¬ (2 : Int32) = 0 := by decide
  have n30 : ¬ (3 : Int32) = 0 := by decide
  have z0 : tq_bz 0 = some 0 := rfl
  have z1 : tq_bz 1 = some 1 := rfl
  have b1 : ¬ bI true = 0 := by decide
  have b0 : bI false = 0 := rfl
  obtain ⟨ct1, ct2, ct3⟩ := hC.cnt
  rcases D.at_or x1 with ⟨i, hi⟩ | hi
  · have ri := s_X11_isNode (S := S) hC.mod hw hg.2.2.2.1 hi
    have cn := hC.need hi
    obtain ⟨rk0, ck⟩ := hC.rkd hi
    have rk := rk0 c hg
    by_cases q2 : 0 ≤ x2 ∧ x2 ≤ 7
    · have c2 := rng_ok (h := tc_mk S c) q2.1 q2.2
      have r2 := in_ok (h := tc_mk S c) q2.1 q2.2
      by_cases q3 : D.kd i = 1
      · refine arm_no hC hF (k := 3) (b := 0) (by decide) ?_ ?_
        · have e5 : f_X10_rename 0 x1 x2 (tc_mk S c) = some (.inl "java/lang/IllegalStateException", tc_mk S c) := by simp (maxSteps := 3000000) (disch := omega) only [Option.bind_some, tc_bs, tq_let, tc_I1, tc_I2, tc_J1, tc_J2, tc_J3, tc_F1, tc_F2, tc_F3, tc_F4, tc_G1, tc_G2, tc_G3, tc_G4, tc_G5, tc_us, tc_un, s_one, s_holds, s_J13_bitCount, bz_bI, f_X10_rename, hC.tq.f, hC.t1.f, cn, c2, ck, q3, tb_r, tb_l, if_true, if_false]
          simp (maxSteps := 3000000) (disch := omega) only [Option.bind_some, tc_bs, tq_let, tc_I1, tc_I2, tc_J1, tc_J2, tc_J3, tc_F1, tc_F2, tc_F3, tc_F4, tc_G1, tc_G2, tc_G3, tc_G4, tc_G5, tc_us, tc_un, s_one, s_holds, s_J13_bitCount, bz_bI, f_V_rename, hC.tq.f, e5, nSI, nSA, if_true, if_false]
        · simp (maxSteps := 3000000) (disch := omega) only [Option.bind_some, tc_bs, tq_let, tc_I1, tc_I2, tc_J1, tc_J2, tc_J3, tc_F1, tc_F2, tc_F3, tc_F4, tc_G1, tc_G2, tc_G3, tc_G4, tc_G5, tc_us, tc_un, s_one, s_holds, s_J13_bitCount, bz_bI, f_X11_rename, f_X11_refused, hC.mod.f, ri, r2, rk, q3, n10, n20, n30, z1, if_true, if_false]
      · by_cases q4 : U.n < 20
        · have c4 := hC.room.1 q4
          have r4 := ct2 q4
          obtain ⟨hin, rfl⟩ := id hi
          obtain ⟨w3, w31, w32⟩ := x_nat (N := 7) (by decide) q2.1 q2.2
          obtain ⟨c1', g1, g2, g3⟩ := s_addChange (c := c) (w := 2) (t := D.ord i) (ct := x2) hC.upc hC.gu.1 q4 (.inr (.inl rfl))
          have g1 : f_X9_addChange 81 2 (nI (D.ord i)) x2 (tc_mk S c) = some (nI (U.n + 1), tc_mk S c1') := g1
          have e5 : f_X10_rename 0 (nI (D.ord i)) x2 (tc_mk S c) = some (.inr (nI (U.n + 1)), tc_mk S c1') := by
            simp (maxSteps := 3000000) (disch := omega) only [Option.bind_some, tc_bs, tq_let, tc_I1, tc_I2, tc_J1, tc_J2, tc_J3, tc_F1, tc_F2, tc_F3, tc_F4, tc_G1, tc_G2, tc_G3, tc_G4, tc_G5, tc_us, tc_un, s_one, s_holds, s_J13_bitCount, bz_bI, f_X10_rename, hC.tq.f, hC.t1.f, hC.upc.f, cn, c2, ck, q3, c4, tb_r, g1, if_false]
          refine hC.acc hF q4 (c1 := c1') (w := 2) (t := D.ord i) (p := 0) (l := 0) (kd := 0) (nm := 0) (ct := x2) (by simp (maxSteps := 3000000) (disch := omega) only [Option.bind_some, tc_bs, tq_let, tc_I1, tc_I2, tc_J1, tc_J2, tc_J3, tc_F1, tc_F2, tc_F3, tc_F4, tc_G1, tc_G2, tc_G3, tc_G4, tc_G5, tc_us, tc_un, s_one, s_holds, s_J13_bitCount, bz_bI, f_V_rename, hC.tq.f, e5]; rfl) g2 g3 (wf_push hC.gu.2.2 q4 (by decide) (fun _ => ⟨i, hin, rfl, fun z => (by cases z), fun z => (by cases z), fun _ => q3, fun z => (by cases z), fun z => (by cases z)⟩) (fun z => (by rcases z with z | z <;> cases z)) (fun z => (by cases z)) (fun _ => ⟨w3, by omega, w32⟩) (fun z => (by cases z)) (fun z => (by cases z))) (a1 := 2) (a2 := nI (D.ord i)) (a3 := -1) (a4 := 0) (a5 := 0) (a6 := x2) (a7 := 0) (fun k1 k2 => ?_) rfl rfl (fun z => (by rcases z with z | z <;> cases z)) (fun z => (by rcases z with z | ⟨z, _⟩ <;> cases z)) (fun z => (by cases z)) (fun _ => rfl) (fun z => (by rcases z with z | z <;> cases z))
          have ri' := s_X11_isNode (S := S) hC.mod hw k1.2.2.2.1 hi
          have ct1' := k2.1
          have rk' := rk0 _ k1
          generalize ansC c1' (nI (U.n + 1)).toInt64 = d at *
          have r2' := in_ok (h := tc_mk S d) q2.1 q2.2
          simp (maxSteps := 3000000) (disch := omega) only [Option.bind_some, tc_bs, tq_let, tc_I1, tc_I2, tc_J1, tc_J2, tc_J3, tc_F1, tc_F2, tc_F3, tc_F4, tc_G1, tc_G2, tc_G3, tc_G4, tc_G5, tc_us, tc_un, s_one, s_holds, s_J13_bitCount, bz_bI, f_X11_rename, f_X11_refused, hC.mod.f, ri', n10, r2', rk', q3, ct1', r4, z0, bs2, if_true, if_false]
        · have c4 := hC.room.2 q4
          have r4 := ct3 q4
          refine arm_no hC hF (k := 3) (b := 0) (by decide) ?_ ?_
          · have e5 : f_X10_rename 0 x1 x2 (tc_mk S c) = some (.inl "java/lang/IllegalStateException", tc_mk S c) := by simp (maxSteps := 3000000) (disch := omega) only [Option.bind_some, tc_bs, tq_let, tc_I1, tc_I2, tc_J1, tc_J2, tc_J3, tc_F1, tc_F2, tc_F3, tc_F4, tc_G1, tc_G2, tc_G3, tc_G4, tc_G5, tc_us, tc_un, s_one, s_holds, s_J13_bitCount, bz_bI, f_X10_rename, hC.tq.f, hC.t1.f, cn, c2, ck, q3, c4, tb_r, tb_l, if_true, if_false]
            simp (maxSteps := 3000000) (disch := omega) only [Option.bind_some, tc_bs, tq_let, tc_I1, tc_I2, tc_J1, tc_J2, tc_J3, tc_F1, tc_F2, tc_F3, tc_F4, tc_G1, tc_G2, tc_G3, tc_G4, tc_G5, tc_us, tc_un, s_one, s_holds, s_J13_bitCount, bz_bI, f_V_rename, hC.tq.f, e5, nSI, nSA, if_true, if_false]
          · simp (maxSteps := 3000000) (disch := omega) only [Option.bind_some, tc_bs, tq_let, tc_I1, tc_I2, tc_J1, tc_J2, tc_J3, tc_F1, tc_F2, tc_F3, tc_F4, tc_G1, tc_G2, tc_G3, tc_G4, tc_G5, tc_us, tc_un, s_one, s_holds, s_J13_bitCount, bz_bI, f_X11_rename, f_X11_refused, hC.mod.f, ri, r2, rk, q3, ct1, r4, n10, n20, n30, z1, if_true, if_false]
    · have c2 := rng_no (h := tc_mk S c) q2
      have r2 := in_no (h := tc_mk S c) q2
      refine arm_no hC hF (k := 2) (b := 0) (by decide) ?_ ?_
      · have e5 : f_X10_rename 0 x1 x2 (tc_mk S c) = some (.inl "java/lang/IllegalArgumentException", tc_mk S c) := by simp (maxSteps := 3000000) (disch := omega) only [Option.bind_some, tc_bs, tq_let, tc_I1, tc_I2, tc_J1, tc_J2, tc_J3, tc_F1, tc_F2, tc_F3, tc_F4, tc_G1, tc_G2, tc_G3, tc_G4, tc_G5, tc_us, tc_un, s_one, s_holds, s_J13_bitCount, bz_bI, f_X10_rename, hC.tq.f, hC.t1.f, cn, c2, tb_r, tb_l, if_true, if_false]
        simp (maxSteps := 3000000) (disch := omega) only [Option.bind_some, tc_bs, tq_let, tc_I1, tc_I2, tc_J1, tc_J2, tc_J3, tc_F1, tc_F2, tc_F3, tc_F4, tc_G1, tc_G2, tc_G3, tc_G4, tc_G5, tc_us, tc_un, s_one, s_holds, s_J13_bitCount, bz_bI, f_V_rename, hC.tq.f, e5, nAI, if_true, if_false]
      · simp (maxSteps := 3000000) (disch := omega) only [Option.bind_some, tc_bs, tq_let, tc_I1, tc_I2, tc_J1, tc_J2, tc_J3, tc_F1, tc_F2, tc_F3, tc_F4, tc_G1, tc_G2, tc_G3, tc_G4, tc_G5, tc_us, tc_un, s_one, s_holds, s_J13_bitCount, bz_bI, f_X11_rename, f_X11_refused, hC.mod.f, ri, r2, n10, n20, n30, z1, if_true, if_false]
  · have ri := s_X11_isNode_n (S := S) hC.mod hw hg.2.2.2.1 hi
    have cn := hC.need_n hi
    refine arm_no hC hF (k := 1) (b := 0) (by decide) ?_ ?_
    · have e5 : f_X10_rename 0 x1 x2 (tc_mk S c) = some (.inl "java/lang/IndexOutOfBoundsException", tc_mk S c) := by simp (maxSteps := 3000000) (disch := omega) only [Option.bind_some, tc_bs, tq_let, tc_I1, tc_I2, tc_J1, tc_J2, tc_J3, tc_F1, tc_F2, tc_F3, tc_F4, tc_G1, tc_G2, tc_G3, tc_G4, tc_G5, tc_us, tc_un, s_one, s_holds, s_J13_bitCount, bz_bI, f_X10_rename, hC.tq.f, hC.t1.f, cn, tb_r, tb_l, if_true, if_false]
      simp (maxSteps := 3000000) (disch := omega) only [Option.bind_some, tc_bs, tq_let, tc_I1, tc_I2, tc_J1, tc_J2, tc_J3, tc_F1, tc_F2, tc_F3, tc_F4, tc_G1, tc_G2, tc_G3, tc_G4, tc_G5, tc_us, tc_un, s_one, s_holds, s_J13_bitCount, bz_bI, f_V_rename, hC.tq.f, e5, if_true]
    · simp (maxSteps := 3000000) (disch := omega) only [Option.bind_some, tc_bs, tq_let, tc_I1, tc_I2, tc_J1, tc_J2, tc_J3, tc_F1, tc_F2, tc_F3, tc_F4, tc_G1, tc_G2, tc_G3, tc_G4, tc_G5, tc_us, tc_un, s_one, s_holds, s_J13_bitCount, bz_bI, f_X11_rename, f_X11_refused, hC.mod.f, ri, n10, n20, n30, z1, if_true, if_false]
theorem arm_setValue (h : InvE di h0) (e1 : tq_sx n xs (y4 + 1) = some x1) (e2 : tq_sx n xs (y4 + 2) = some x2) : ∃ h' u, f_V_law_c636 n xs 0 155 205 y4 h0 = some (.inl (y4 + 5, h')) ∧ InvE (di.1, di.2.1, u) h' ∧ EXp di.2.2 u h' := by
  obtain ⟨S, c, D, m, U, P, H, Z, X, nw, ed, nv, vt, mv, Dv, rfl, hC, hF⟩ := h
  have e0 : f_V_law_c636 n xs 0 155 205 y4 (tc_mk S c) = armI (f_V_setValue 0 x1 x2 205 (tc_mk S c)) (f_X11_setValue 155 x1 x2) y4 := by
    unfold f_V_law_c636; rw [e1, e2]; rfl
  rw [e0]
  have hg := hC.gt
  have hw := hg.1.1
  have n10 : ¬ (1 : Int32) = 0 := by decide
  have n20 : ¬ (2 : Int32) = 0 := by decide
  have n30 : ¬ (3 : Int32) = 0 := by decide
  have z0 : tq_bz 0 = some 0 := rfl
  have z1 : tq_bz 1 = some 1 := rfl
  have b1 : ¬ bI true = 0 := by decide
  have b0 : bI false = 0 := rfl
  obtain ⟨ct1, ct2, ct3⟩ := hC.cnt
  rcases D.at_or x1 with ⟨i, hi⟩ | hi
  · have ri := s_X11_isNode (S := S) hC.mod hw hg.2.2.2.1 hi
    have cn := hC.need hi
    obtain ⟨rk0, ck⟩ := hC.rkd hi
    have rk := rk0 c hg
    by_cases q2 : 0 ≤ x2 ∧ x2 ≤ 999
    · have c2 := rng_ok (h := tc_mk S c) q2.1 q2.2
      have r2 := in_ok (h := tc_mk S c) q2.1 q2.2
      by_cases q3 : D.kd i = 0
      · refine arm_no hC hF (k := 3) (b := 0) (by decide) ?_ ?_
        · have e5 : f_X10_setValue 0 x1 x2 (tc_mk S c) = some (.inl "java/lang/IllegalStateException", tc_mk S c) := by simp (maxSteps := 3000000) (disch := omega) only [Option.bind_some, tc_bs, tq_let, tc_I1, tc_I2, tc_J1, tc_J2, tc_J3, tc_F1, tc_F2, tc_F3, tc_F4, tc_G1, tc_G2, tc_G3, tc_G4, tc_G5, tc_us, tc_un, s_one, s_holds, s_J13_bitCount, bz_bI, f_X10_setValue, hC.tq.f, hC.t1.f, cn, c2, ck, q3, tb_r, tb_l, if_true, if_false]
          simp (maxSteps := 3000000) (disch := omega) only [Option.bind_some, tc_bs, tq_let, tc_I1, tc_I2, tc_J1, tc_J2, tc_J3, tc_F1, tc_F2, tc_F3, tc_F4, tc_G1, tc_G2, tc_G3, tc_G4, tc_G5, tc_us, tc_un, s_one, s_holds, s_J13_bitCount, bz_bI, f_V_setValue, hC.tq.f, e5, nSI, nSA, if_true, if_false]
        · simp (maxSteps := 3000000) (disch := omega) only [Option.bind_some, tc_bs, tq_let, tc_I1, tc_I2, tc_J1, tc_J2, tc_J3, tc_F1, tc_F2, tc_F3, tc_F4, tc_G1, tc_G2, tc_G3, tc_G4, tc_G5, tc_us, tc_un, s_one, s_holds, s_J13_bitCount, bz_bI, f_X11_setValue, f_X11_refused, hC.mod.f, ri, r2, rk, q3, n10, n20, n30, z1, if_true, if_false]
      · by_cases q4 : U.n < 20
        · have c4 := hC.room.1 q4
          have r4 := ct2 q4
          obtain ⟨hin, rfl⟩ := id hi
          obtain ⟨w3, w31, w32⟩ := x_nat (N := 999) (by decide) q2.1 q2.2
          obtain ⟨c1', g1, g2, g3⟩ := s_addChange (c := c) (w := 3) (t := D.ord i) (ct := x2) hC.upc hC.gu.1 q4 (.inr (.inr (.inl rfl)))
          have g1 : f_X9_addChange 81 3 (nI (D.ord i)) x2 (tc_mk S c) = some (nI (U.n + 1), tc_mk S c1') := g1
          have e5 : f_X10_setValue 0 (nI (D.ord i)) x2 (tc_mk S c) = some (.inr (nI (U.n + 1)), tc_mk S c1') := by
            simp (maxSteps := 3000000) (disch := omega) only [Option.bind_some, tc_bs, tq_let, tc_I1, tc_I2, tc_J1, tc_J2, tc_J3, tc_F1, tc_F2, tc_F3, tc_F4, tc_G1, tc_G2, tc_G3, tc_G4, tc_G5, tc_us, tc_un, s_one, s_holds, s_J13_bitCount, bz_bI, f_X10_setValue, hC.tq.f, hC.t1.f, hC.upc.f, cn, c2, ck, q3, c4, tb_r, g1, if_false]
          refine hC.acc hF q4 (c1 := c1') (w := 3) (t := D.ord i) (p := 0) (l := 0) (kd := 0) (nm := 0) (ct := x2) (by simp (maxSteps := 3000000) (disch := omega) only [Option.bind_some, tc_bs, tq_let, tc_I1, tc_I2, tc_J1, tc_J2, tc_J3, tc_F1, tc_F2, tc_F3, tc_F4, tc_G1, tc_G2, tc_G3, tc_G4, tc_G5, tc_us, tc_un, s_one, s_holds, s_J13_bitCount, bz_bI, f_V_setValue, hC.tq.f, e5]; rfl) g2 g3 (wf_push hC.gu.2.2 q4 (by decide) (fun _ => ⟨i, hin, rfl, fun z => (by cases z), fun z => (by cases z), fun z => (by cases z), fun _ => q3, fun z => (by cases z)⟩) (fun z => (by rcases z with z | z <;> cases z)) (fun z => (by cases z)) (fun z => (by cases z)) (fun _ => ⟨w3, by omega, w32⟩) (fun z => (by cases z))) (a1 := 3) (a2 := nI (D.ord i)) (a3 := -1) (a4 := 0) (a5 := 0) (a6 := 0) (a7 := x2) (fun k1 k2 => ?_) rfl rfl (fun z => (by rcases z with z | z <;> cases z)) (fun z => (by rcases z with z | ⟨z, _⟩ <;> cases z)) (fun z => (by cases z)) (fun z => (by cases z)) (fun _ => rfl)
          have ri' := s_X11_isNode (S := S) hC.mod hw k1.2.2.2.1 hi
          have ct1' := k2.1
          have rk' := rk0 _ k1
          generalize ansC c1' (nI (U.n + 1)).toInt64 = d at *
          have r2' := in_ok (h := tc_mk S d) q2.1 q2.2
          simp (maxSteps := 3000000) (disch := omega) only [Option.bind_some, tc_bs, tq_let, tc_I1, tc_I2, tc_J1, tc_J2, tc_J3, tc_F1, tc_F2, tc_F3, tc_F4, tc_G1, tc_G2, tc_G3, tc_G4, tc_G5, tc_us, tc_un, s_one, s_holds, s_J13_bitCount, bz_bI, f_X11_setValue, f_X11_refused, hC.mod.f, ri', n10, r2', rk', q3, ct1', r4, z0, bs2, if_true, if_false]
        · have c4 := hC.room.2 q4
          have r4 := ct3 q4
          refine arm_no hC hF (k := 3) (b := 0) (by decide) ?_ ?_
          · have e5 : f_X10_setValue 0 x1 x2 (tc_mk S c) = some (.inl "java/lang/IllegalStateException", tc_mk S c) := by simp (maxSteps := 3000000) (disch := omega) only [Option.bind_some, tc_bs, tq_let, tc_I1, tc_I2, tc_J1, tc_J2, tc_J3, tc_F1, tc_F2, tc_F3, tc_F4, tc_G1, tc_G2, tc_G3, tc_G4, tc_G5, tc_us, tc_un, s_one, s_holds, s_J13_bitCount, bz_bI, f_X10_setValue, hC.tq.f, hC.t1.f, cn, c2, ck, q3, c4, tb_r, tb_l, if_true, if_false]
            simp (maxSteps := 3000000) (disch := omega) only [Option.bind_some, tc_bs, tq_let, tc_I1, tc_I2, tc_J1, tc_J2, tc_J3, tc_F1, tc_F2, tc_F3, tc_F4, tc_G1, tc_G2, tc_G3, tc_G4, tc_G5, tc_us, tc_un, s_one, s_holds, s_J13_bitCount, bz_bI, f_V_setValue, hC.tq.f, e5, nSI, nSA, if_true, if_false]
          · simp (maxSteps := 3000000) (disch := omega) only [Option.bind_some, tc_bs, tq_let, tc_I1, tc_I2, tc_J1, tc_J2, tc_J3, tc_F1, tc_F2, tc_F3, tc_F4, tc_G1, tc_G2, tc_G3, tc_G4, tc_G5, tc_us, tc_un, s_one, s_holds, s_J13_bitCount, bz_bI, f_X11_setValue, f_X11_refused, hC.mod.f, ri, r2, rk, q3, ct1, r4, n10, n20, n30, z1, if_true, if_false]
    · have c2 := rng_no (h := tc_mk S c) q2
      have r2 := in_no (h := tc_mk S c) q2
      refine arm_no hC hF (k := 2) (b := 0) (by decide) ?_ ?_
      · have e5 : f_X10_setValue 0 x1 x2 (tc_mk S c) = some (.inl "java/lang/IllegalArgumentException", tc_mk S c) := by simp (maxSteps := 3000000) (disch := omega) only [Option.bind_some, tc_bs, tq_let, tc_I1, tc_I2, tc_J1, tc_J2, tc_J3, tc_F1, tc_F2, tc_F3, tc_F4, tc_G1, tc_G2, tc_G3, tc_G4, tc_G5, tc_us, tc_un, s_one, s_holds, s_J13_bitCount, bz_bI, f_X10_setValue, hC.tq.f, hC.t1.f, cn, c2, tb_r, tb_l, if_true, if_false]
        simp (maxSteps := 3000000) (disch := omega) only [Option.bind_some, tc_bs, tq_let, tc_I1, tc_I2, tc_J1, tc_J2, tc_J3, tc_F1, tc_F2, tc_F3, tc_F4, tc_G1, tc_G2, tc_G3, tc_G4, tc_G5, tc_us, tc_un, s_one, s_holds, s_J13_bitCount, bz_bI, f_V_setValue, hC.tq.f, e5, nAI, if_true, if_false]
      · simp (maxSteps := 3000000) (disch := omega) only [Option.bind_some, tc_bs, tq_let, tc_I1, tc_I2, tc_J1, tc_J2, tc_J3, tc_F1, tc_F2, tc_F3, tc_F4, tc_G1, tc_G2, tc_G3, tc_G4, tc_G5, tc_us, tc_un, s_one, s_holds, s_J13_bitCount, bz_bI, f_X11_setValue, f_X11_refused, hC.mod.f, ri, r2, n10, n20, n30, z1, if_true, if_false]
  · have ri := s_X11_isNode_n (S := S) hC.mod hw hg.2.2.2.1 hi
    have cn := hC.need_n hi
    refine arm_no hC hF (k := 1) (b := 0) (by decide) ?_ ?_
    · have e5 : f_X10_setValue 0 x1 x2 (tc_mk S c) = some (.inl "java/lang/IndexOutOfBoundsException", tc_mk S c) := by simp (maxSteps := 3000000) (disch := omega) only [Option.bind_some, tc_bs, tq_let, tc_I1, tc_I2, tc_J1, tc_J2, tc_J3, tc_F1, tc_F2, tc_F3, tc_F4, tc_G1, tc_G2, tc_G3, tc_G4, tc_G5, tc_us, tc_un, s_one, s_holds, s_J13_bitCount, bz_bI, f_X10_setValue, hC.tq.f, hC.t1.f, cn, tb_r, tb_l, if_true, if_false]
      simp (maxSteps := 3000000) (disch := omega) only [Option.bind_some, tc_bs, tq_let, tc_I1, tc_I2, tc_J1, tc_J2, tc_J3, tc_F1, tc_F2, tc_F3, tc_F4, tc_G1, tc_G2, tc_G3, tc_G4, tc_G5, tc_us, tc_un, s_one, s_holds, s_J13_bitCount, bz_bI, f_V_setValue, hC.tq.f, e5, if_true]
    · simp (maxSteps := 3000000) (disch := omega) only [Option.bind_some, tc_bs, tq_let, tc_I1, tc_I2, tc_J1, tc_J2, tc_J3, tc_F1, tc_F2, tc_F3, tc_F4, tc_G1, tc_G2, tc_G3, tc_G4, tc_G5, tc_us, tc_un, s_one, s_holds, s_J13_bitCount, bz_bI, f_X11_setValue, f_X11_refused, hC.mod.f, ri, n10, n20, n30, z1, if_true, if_false]
theorem arm_declare (h : InvE di h0) (e1 : tq_sx n xs (y4 + 1) = some x1) (e2 : tq_sx n xs (y4 + 2) = some x2) : ∃ h' u, f_V_law_c784 n xs 0 155 205 y4 h0 = some (.inl (y4 + 5, h')) ∧ InvE (di.1, di.2.1, u) h' ∧ EXp di.2.2 u h' := by
  obtain ⟨S, c, D, m, U, P, H, Z, X, nw, ed, nv, vt, mv, Dv, rfl, hC, hF⟩ := h
  have e0 : f_V_law_c784 n xs 0 155 205 y4 (tc_mk S c) = armI (f_V_declare 0 x1 x2 205 (tc_mk S c)) (f_X11_declare 155 x1 x2) y4 := by
    unfold f_V_law_c784; rw [e1, e2]; rfl
  rw [e0]
  have hg := hC.gt
  have hw := hg.1.1
  have n10 : ¬ (1 : Int32) = 0 := by decide
  have n20 : ¬ (2 : Int32) = 0 := by decide
  have n30 : ¬ (3 : Int32) = 0 := by decide
  have z0 : tq_bz 0 = some 0 := rfl
  have z1 : tq_bz 1 = some 1 := rfl
  have b1 : ¬ bI true = 0 := by decide
  have b0 : bI false = 0 := rfl
  obtain ⟨ct1, ct2, ct3⟩ := hC.cnt
  rcases D.at_or x1 with ⟨i, hi⟩ | hi
  · have ri := s_X11_isNode (S := S) hC.mod hw hg.2.2.2.1 hi
    have cn := hC.need hi
    obtain ⟨rk0, ck⟩ := hC.rkd hi
    have rk := rk0 c hg
    by_cases q2 : -1 ≤ x2 ∧ x2 ≤ 3
    · have c2 := rng_ok (h := tc_mk S c) q2.1 q2.2
      have r2 := in_ok (h := tc_mk S c) q2.1 q2.2
      by_cases q3 : D.kd i = 0
      · have c3 := (hC.elem hi).1 q3
        by_cases q4 : U.n < 20
        · have c4 := hC.room.1 q4
          have r4 := ct2 q4
          obtain ⟨hin, rfl⟩ := id hi
          obtain ⟨c1', g1, g2, g3⟩ := s_addChange (c := c) (w := 5) (t := D.ord i) (ct := x2) hC.upc hC.gu.1 q4 (.inr (.inr (.inr rfl)))
          have g1 : f_X9_addChange 81 5 (nI (D.ord i)) x2 (tc_mk S c) = some (nI (U.n + 1), tc_mk S c1') := g1
          have e5 : f_X10_declare 0 (nI (D.ord i)) x2 (tc_mk S c) = some (.inr (nI (U.n + 1)), tc_mk S c1') := by
            simp (maxSteps := 3000000) (disch := omega) only [Option.bind_some, tc_bs, tq_let, tc_I1, tc_I2, tc_J1, tc_J2, tc_J3, tc_F1, tc_F2, tc_F3, tc_F4, tc_G1, tc_G2, tc_G3, tc_G4, tc_G5, tc_us, tc_un, s_one, s_holds, s_J13_bitCount, bz_bI, f_X10_declare, hC.tq.f, hC.t1.f, hC.upc.f, cn, c2, c3, c4, tb_r, g1]
          have hsp : x2 = -1 ∨ spv x2 := by
            by_cases q5 : x2 < 0
            · left
              have h1 : x2 < 0 := q5
              have h2 := q2.1
              rw [Int32.lt_iff_toInt_lt] at h1
              rw [Int32.le_iff_toInt_le] at h2
              have a1 : (0 : Int32).toInt = 0 := by decide
              have a2 : (-1 : Int32).toInt = -1 := by decide
              rw [a1] at h1
              rw [a2] at h2
              exact Int32.toInt_inj.mp (by rw [a2]; omega)
            · right
              obtain ⟨w3, w31, w32⟩ := x_nat (N := 3) (by decide) (Int32.not_lt.mp q5) q2.2
              exact ⟨w3, by omega, w32⟩
          refine hC.acc hF q4 (c1 := c1') (w := 5) (t := D.ord i) (p := 0) (l := 0) (kd := 0) (nm := 0) (ct := x2) (by simp (maxSteps := 3000000) (disch := omega) only [Option.bind_some, tc_bs, tq_let, tc_I1, tc_I2, tc_J1, tc_J2, tc_J3, tc_F1, tc_F2, tc_F3, tc_F4, tc_G1, tc_G2, tc_G3, tc_G4, tc_G5, tc_us, tc_un, s_one, s_holds, s_J13_bitCount, bz_bI, f_V_declare, hC.tq.f, e5]; rfl) g2 g3 (wf_push hC.gu.2.2 q4 (by decide) (fun _ => ⟨i, hin, rfl, fun z => (by cases z), fun z => (by cases z), fun z => (by cases z), fun z => (by cases z), fun _ => q3⟩) (fun z => (by rcases z with z | z <;> cases z)) (fun z => (by cases z)) (fun z => (by cases z)) (fun z => (by cases z)) (fun _ => hsp)) (a1 := 5) (a2 := nI (D.ord i)) (a3 := -1) (a4 := 0) (a5 := 0) (a6 := 0) (a7 := x2) (fun k1 k2 => ?_) rfl rfl (fun z => (by rcases z with z | z <;> cases z)) (fun z => (by rcases z with z | ⟨z, _⟩ <;> cases z)) (fun z => (by cases z)) (fun z => (by cases z)) (fun _ => rfl)
          have ri' := s_X11_isNode (S := S) hC.mod hw k1.2.2.2.1 hi
          have ct1' := k2.1
          have rk' := rk0 _ k1
          generalize ansC c1' (nI (U.n + 1)).toInt64 = d at *
          have r2' := in_ok (h := tc_mk S d) q2.1 q2.2
          simp (maxSteps := 3000000) (disch := omega) only [Option.bind_some, tc_bs, tq_let, tc_I1, tc_I2, tc_J1, tc_J2, tc_J3, tc_F1, tc_F2, tc_F3, tc_F4, tc_G1, tc_G2, tc_G3, tc_G4, tc_G5, tc_us, tc_un, s_one, s_holds, s_J13_bitCount, bz_bI, f_X11_declare, f_X11_refused, hC.mod.f, ri', n10, r2', rk', q3, ct1', r4, z0, bs2, if_true, if_false]
        · have c4 := hC.room.2 q4
          have r4 := ct3 q4
          refine arm_no hC hF (k := 3) (b := 0) (by decide) ?_ ?_
          · have e5 : f_X10_declare 0 x1 x2 (tc_mk S c) = some (.inl "java/lang/IllegalStateException", tc_mk S c) := by simp (maxSteps := 3000000) (disch := omega) only [Option.bind_some, tc_bs, tq_let, tc_I1, tc_I2, tc_J1, tc_J2, tc_J3, tc_F1, tc_F2, tc_F3, tc_F4, tc_G1, tc_G2, tc_G3, tc_G4, tc_G5, tc_us, tc_un, s_one, s_holds, s_J13_bitCount, bz_bI, f_X10_declare, hC.tq.f, hC.t1.f, cn, c2, c3, c4, tb_r, tb_l, if_true, if_false]
            simp (maxSteps := 3000000) (disch := omega) only [Option.bind_some, tc_bs, tq_let, tc_I1, tc_I2, tc_J1, tc_J2, tc_J3, tc_F1, tc_F2, tc_F3, tc_F4, tc_G1, tc_G2, tc_G3, tc_G4, tc_G5, tc_us, tc_un, s_one, s_holds, s_J13_bitCount, bz_bI, f_V_declare, hC.tq.f, e5, nSI, nSA, if_true, if_false]
          · simp (maxSteps := 3000000) (disch := omega) only [Option.bind_some, tc_bs, tq_let, tc_I1, tc_I2, tc_J1, tc_J2, tc_J3, tc_F1, tc_F2, tc_F3, tc_F4, tc_G1, tc_G2, tc_G3, tc_G4, tc_G5, tc_us, tc_un, s_one, s_holds, s_J13_bitCount, bz_bI, f_X11_declare, f_X11_refused, hC.mod.f, ri, r2, rk, q3, ct1, r4, n10, n20, n30, z1, if_true, if_false]
      · have c3 := (hC.elem hi).2 q3
        refine arm_no hC hF (k := 3) (b := 0) (by decide) ?_ ?_
        · have e5 : f_X10_declare 0 x1 x2 (tc_mk S c) = some (.inl "java/lang/IllegalStateException", tc_mk S c) := by simp (maxSteps := 3000000) (disch := omega) only [Option.bind_some, tc_bs, tq_let, tc_I1, tc_I2, tc_J1, tc_J2, tc_J3, tc_F1, tc_F2, tc_F3, tc_F4, tc_G1, tc_G2, tc_G3, tc_G4, tc_G5, tc_us, tc_un, s_one, s_holds, s_J13_bitCount, bz_bI, f_X10_declare, hC.tq.f, hC.t1.f, cn, c2, c3, tb_r, tb_l, if_true, if_false]
          simp (maxSteps := 3000000) (disch := omega) only [Option.bind_some, tc_bs, tq_let, tc_I1, tc_I2, tc_J1, tc_J2, tc_J3, tc_F1, tc_F2, tc_F3, tc_F4, tc_G1, tc_G2, tc_G3, tc_G4, tc_G5, tc_us, tc_un, s_one, s_holds, s_J13_bitCount, bz_bI, f_V_declare, hC.tq.f, e5, nSI, nSA, if_true, if_false]
        · simp (maxSteps := 3000000) (disch := omega) only [Option.bind_some, tc_bs, tq_let, tc_I1, tc_I2, tc_J1, tc_J2, tc_J3, tc_F1, tc_F2, tc_F3, tc_F4, tc_G1, tc_G2, tc_G3, tc_G4, tc_G5, tc_us, tc_un, s_one, s_holds, s_J13_bitCount, bz_bI, f_X11_declare, f_X11_refused, hC.mod.f, ri, r2, rk, q3, n10, n20, n30, z1, if_true, if_false]
    · have c2 := rng_no (h := tc_mk S c) q2
      have r2 := in_no (h := tc_mk S c) q2
      refine arm_no hC hF (k := 2) (b := 0) (by decide) ?_ ?_
      · have e5 : f_X10_declare 0 x1 x2 (tc_mk S c) = some (.inl "java/lang/IllegalArgumentException", tc_mk S c) := by simp (maxSteps := 3000000) (disch := omega) only [Option.bind_some, tc_bs, tq_let, tc_I1, tc_I2, tc_J1, tc_J2, tc_J3, tc_F1, tc_F2, tc_F3, tc_F4, tc_G1, tc_G2, tc_G3, tc_G4, tc_G5, tc_us, tc_un, s_one, s_holds, s_J13_bitCount, bz_bI, f_X10_declare, hC.tq.f, hC.t1.f, cn, c2, tb_r, tb_l, if_true, if_false]
        simp (maxSteps := 3000000) (disch := omega) only [Option.bind_some, tc_bs, tq_let, tc_I1, tc_I2, tc_J1, tc_J2, tc_J3, tc_F1, tc_F2, tc_F3, tc_F4, tc_G1, tc_G2, tc_G3, tc_G4, tc_G5, tc_us, tc_un, s_one, s_holds, s_J13_bitCount, bz_bI, f_V_declare, hC.tq.f, e5, nAI, if_true, if_false]
      · simp (maxSteps := 3000000) (disch := omega) only [Option.bind_some, tc_bs, tq_let, tc_I1, tc_I2, tc_J1, tc_J2, tc_J3, tc_F1, tc_F2, tc_F3, tc_F4, tc_G1, tc_G2, tc_G3, tc_G4, tc_G5, tc_us, tc_un, s_one, s_holds, s_J13_bitCount, bz_bI, f_X11_declare, f_X11_refused, hC.mod.f, ri, r2, n10, n20, n30, z1, if_true, if_false]
  · have ri := s_X11_isNode_n (S := S) hC.mod hw hg.2.2.2.1 hi
    have cn := hC.need_n hi
    refine arm_no hC hF (k := 1) (b := 0) (by decide) ?_ ?_
    · have e5 : f_X10_declare 0 x1 x2 (tc_mk S c) = some (.inl "java/lang/IndexOutOfBoundsException", tc_mk S c) := by simp (maxSteps := 3000000) (disch := omega) only [Option.bind_some, tc_bs, tq_let, tc_I1, tc_I2, tc_J1, tc_J2, tc_J3, tc_F1, tc_F2, tc_F3, tc_F4, tc_G1, tc_G2, tc_G3, tc_G4, tc_G5, tc_us, tc_un, s_one, s_holds, s_J13_bitCount, bz_bI, f_X10_declare, hC.tq.f, hC.t1.f, cn, tb_r, tb_l, if_true, if_false]
      simp (maxSteps := 3000000) (disch := omega) only [Option.bind_some, tc_bs, tq_let, tc_I1, tc_I2, tc_J1, tc_J2, tc_J3, tc_F1, tc_F2, tc_F3, tc_F4, tc_G1, tc_G2, tc_G3, tc_G4, tc_G5, tc_us, tc_un, s_one, s_holds, s_J13_bitCount, bz_bI, f_V_declare, hC.tq.f, e5, if_true]
    · simp (maxSteps := 3000000) (disch := omega) only [Option.bind_some, tc_bs, tq_let, tc_I1, tc_I2, tc_J1, tc_J2, tc_J3, tc_F1, tc_F2, tc_F3, tc_F4, tc_G1, tc_G2, tc_G3, tc_G4, tc_G5, tc_us, tc_un, s_one, s_holds, s_J13_bitCount, bz_bI, f_X11_declare, f_X11_refused, hC.mod.f, ri, n10, n20, n30, z1, if_true, if_false]
theorem arm_insertAttribute (h : InvE di h0) (e1 : tq_sx n xs (y4 + 1) = some x1) (e2 : tq_sx n xs (y4 + 2) = some x2) (e3 : tq_sx n xs (y4 + 3) = some x3) : ∃ h' u, f_V_law_c432 n xs 0 155 205 y4 h0 = some (.inl (y4 + 5, h')) ∧ InvE (di.1, di.2.1, u) h' ∧ EXp di.2.2 u h' := by
  obtain ⟨S, c, D, m, U, P, H, Z, X, nw, ed, nv, vt, mv, Dv, rfl, hC, hF⟩ := h
  have e0 : f_V_law_c432 n xs 0 155 205 y4 (tc_mk S c) = armI (f_V_insertAttribute 0 x1 x2 x3 205 (tc_mk S c)) (f_X11_insertAttribute 155 x1 x2 x3) y4 := by
    unfold f_V_law_c432; rw [e1, e2, e3]; rfl
  rw [e0]
  have hg := hC.gt
  have hw := hg.1.1
  have n10 : ¬ (1 : Int32) = 0 := by decide
  have n20 : ¬ (2 : Int32) = 0 := by decide
  have n30 : ¬ (3 : Int32) = 0 := by decide
  have z0 : tq_bz 0 = some 0 := rfl
  have z1 : tq_bz 1 = some 1 := rfl
  have b1 : ¬ bI true = 0 := by decide
  have b0 : bI false = 0 := rfl
  obtain ⟨ct1, ct2, ct3⟩ := hC.cnt
  rcases D.at_or x1 with ⟨i, hi⟩ | hi
  · have ri := s_X11_isNode (S := S) hC.mod hw hg.2.2.2.1 hi
    have cn := hC.need hi
    have rt := r_takes hC.mod hg hC.gu.2.1 hi
    by_cases q2 : 0 ≤ x2 ∧ x2 ≤ 7
    · have c2 := rng_ok (h := tc_mk S c) q2.1 q2.2
      have r2 := in_ok (h := tc_mk S c) q2.1 q2.2
      by_cases q5 : 0 ≤ x3 ∧ x3 ≤ 999
      · have c5 := rng_ok (h := tc_mk S c) q5.1 q5.2
        have r5 := in_ok (h := tc_mk S c) q5.1 q5.2
        by_cases q3 : D.kd i = 0
        · have c3 := (hC.elem hi).1 q3
          by_cases q4 : U.n < 20
          · have c4 := hC.room.1 q4
            obtain ⟨hin, rfl⟩ := id hi
            obtain ⟨w2, w21, w22⟩ := x_nat (N := 7) (by decide) q2.1 q2.2
            obtain ⟨w3, w31, w32⟩ := x_nat (N := 999) (by decide) q5.1 q5.2
            obtain ⟨c1', g1, g2, g3⟩ := s_addInsert (c := c) (kd := 2) (p := D.ord i) (l := 0) (nm := x2) (ct := x3) hC.upc hC.gu.1 q4 (-1) rfl
            have g1 : f_X9_addInsert 81 2 (nI (D.ord i)) (-1) x2 x3 (tc_mk S c) = some (nI (U.n + 1), tc_mk S c1') := g1
            have e5 : f_X10_insertAttribute 0 (nI (D.ord i)) x2 x3 (tc_mk S c) = some (.inr (nI (U.n + 1)), tc_mk S c1') := by
              simp (maxSteps := 3000000) (disch := omega) only [Option.bind_some, tc_bs, tq_let, tc_I1, tc_I2, tc_J1, tc_J2, tc_J3, tc_F1, tc_F2, tc_F3, tc_F4, tc_G1, tc_G2, tc_G3, tc_G4, tc_G5, tc_us, tc_un, s_one, s_holds, s_J13_bitCount, bz_bI, f_X10_insertAttribute, hC.tq.f, hC.upc.f, cn, c2, c5, c3, c4, tb_r, g1]
            refine hC.acc hF q4 (c1 := c1') (w := 0) (t := 0) (p := D.ord i) (l := 0) (kd := 2) (nm := x2) (ct := x3) (by simp (maxSteps := 3000000) (disch := omega) only [Option.bind_some, tc_bs, tq_let, tc_I1, tc_I2, tc_J1, tc_J2, tc_J3, tc_F1, tc_F2, tc_F3, tc_F4, tc_G1, tc_G2, tc_G3, tc_G4, tc_G5, tc_us, tc_un, s_one, s_holds, s_J13_bitCount, bz_bI, f_V_insertAttribute, hC.tq.f, e5]; rfl) g2 g3 (wf_push hC.gu.2.2 q4 (by decide) (fun z => absurd rfl z) (fun _ => ⟨i, hin, rfl, q3, .inl ⟨rfl, rfl⟩⟩) (fun _ => .inr (.inr ⟨rfl, ⟨w2, by omega, w22⟩, ⟨w3, by omega, w32⟩⟩)) (fun z => (by cases z)) (fun z => (by cases z)) (fun z => (by cases z))) (a1 := 0) (a2 := -1) (a3 := nI (D.ord i)) (a4 := 0) (a5 := 2) (a6 := x2) (a7 := x3) (fun k1 k2 => ?_) rfl rfl (fun _ => rfl) (fun z => by exfalso; omega) (fun _ => ⟨rfl, rfl, rfl⟩) (fun z => (by cases z)) (fun z => (by rcases z with z | z <;> cases z))
            have ri' := s_X11_isNode (S := S) hC.mod hw k1.2.2.2.1 hi
            have rt' := r_takes hC.mod k1 k2 hi
            rw [decide_eq_true ⟨q3, q4⟩] at rt'
            generalize ansC c1' (nI (U.n + 1)).toInt64 = d at *
            have r2' := in_ok (h := tc_mk S d) q2.1 q2.2
            have r5' := in_ok (h := tc_mk S d) q5.1 q5.2
            simp (maxSteps := 3000000) (disch := omega) only [Option.bind_some, tc_bs, tq_let, tc_I1, tc_I2, tc_J1, tc_J2, tc_J3, tc_F1, tc_F2, tc_F3, tc_F4, tc_G1, tc_G2, tc_G3, tc_G4, tc_G5, tc_us, tc_un, s_one, s_holds, s_J13_bitCount, bz_bI, f_X11_insertAttribute, f_X11_refused, hC.mod.f, ri', n10, r2', r5', rt', b1, z0, bs2, if_true, if_false]
          · have c4 := hC.room.2 q4
            rw [decide_eq_false fun z => q4 z.2] at rt
            refine arm_no hC hF (k := 3) (b := 0) (by decide) ?_ ?_
            · have e5 : f_X10_insertAttribute 0 x1 x2 x3 (tc_mk S c) = some (.inl "java/lang/IllegalStateException", tc_mk S c) := by simp (maxSteps := 3000000) (disch := omega) only [Option.bind_some, tc_bs, tq_let, tc_I1, tc_I2, tc_J1, tc_J2, tc_J3, tc_F1, tc_F2, tc_F3, tc_F4, tc_G1, tc_G2, tc_G3, tc_G4, tc_G5, tc_us, tc_un, s_one, s_holds, s_J13_bitCount, bz_bI, f_X10_insertAttribute, hC.tq.f, hC.t1.f, cn, c2, c5, c3, c4, tb_r, tb_l, if_true, if_false]
              simp (maxSteps := 3000000) (disch := omega) only [Option.bind_some, tc_bs, tq_let, tc_I1, tc_I2, tc_J1, tc_J2, tc_J3, tc_F1, tc_F2, tc_F3, tc_F4, tc_G1, tc_G2, tc_G3, tc_G4, tc_G5, tc_us, tc_un, s_one, s_holds, s_J13_bitCount, bz_bI, f_V_insertAttribute, hC.tq.f, e5, nSI, nSA, if_true, if_false]
            · simp (maxSteps := 3000000) (disch := omega) only [Option.bind_some, tc_bs, tq_let, tc_I1, tc_I2, tc_J1, tc_J2, tc_J3, tc_F1, tc_F2, tc_F3, tc_F4, tc_G1, tc_G2, tc_G3, tc_G4, tc_G5, tc_us, tc_un, s_one, s_holds, s_J13_bitCount, bz_bI, f_X11_insertAttribute, f_X11_refused, hC.mod.f, ri, r2, r5, rt, b0, n10, n20, n30, z1, if_true, if_false]
        · have c3 := (hC.elem hi).2 q3
          rw [decide_eq_false fun z => q3 z.1] at rt
          refine arm_no hC hF (k := 3) (b := 0) (by decide) ?_ ?_
          · have e5 : f_X10_insertAttribute 0 x1 x2 x3 (tc_mk S c) = some (.inl "java/lang/IllegalStateException", tc_mk S c) := by simp (maxSteps := 3000000) (disch := omega) only [Option.bind_some, tc_bs, tq_let, tc_I1, tc_I2, tc_J1, tc_J2, tc_J3, tc_F1, tc_F2, tc_F3, tc_F4, tc_G1, tc_G2, tc_G3, tc_G4, tc_G5, tc_us, tc_un, s_one, s_holds, s_J13_bitCount, bz_bI, f_X10_insertAttribute, hC.tq.f, hC.t1.f, cn, c2, c5, c3, tb_r, tb_l, if_true, if_false]
            simp (maxSteps := 3000000) (disch := omega) only [Option.bind_some, tc_bs, tq_let, tc_I1, tc_I2, tc_J1, tc_J2, tc_J3, tc_F1, tc_F2, tc_F3, tc_F4, tc_G1, tc_G2, tc_G3, tc_G4, tc_G5, tc_us, tc_un, s_one, s_holds, s_J13_bitCount, bz_bI, f_V_insertAttribute, hC.tq.f, e5, nSI, nSA, if_true, if_false]
          · simp (maxSteps := 3000000) (disch := omega) only [Option.bind_some, tc_bs, tq_let, tc_I1, tc_I2, tc_J1, tc_J2, tc_J3, tc_F1, tc_F2, tc_F3, tc_F4, tc_G1, tc_G2, tc_G3, tc_G4, tc_G5, tc_us, tc_un, s_one, s_holds, s_J13_bitCount, bz_bI, f_X11_insertAttribute, f_X11_refused, hC.mod.f, ri, r2, r5, rt, b0, n10, n20, n30, z1, if_true, if_false]
      · have c5 := rng_no (h := tc_mk S c) q5
        have r5 := in_no (h := tc_mk S c) q5
        refine arm_no hC hF (k := 2) (b := 0) (by decide) ?_ ?_
        · have e5 : f_X10_insertAttribute 0 x1 x2 x3 (tc_mk S c) = some (.inl "java/lang/IllegalArgumentException", tc_mk S c) := by simp (maxSteps := 3000000) (disch := omega) only [Option.bind_some, tc_bs, tq_let, tc_I1, tc_I2, tc_J1, tc_J2, tc_J3, tc_F1, tc_F2, tc_F3, tc_F4, tc_G1, tc_G2, tc_G3, tc_G4, tc_G5, tc_us, tc_un, s_one, s_holds, s_J13_bitCount, bz_bI, f_X10_insertAttribute, hC.tq.f, hC.t1.f, cn, c2, c5, tb_r, tb_l, if_true, if_false]
          simp (maxSteps := 3000000) (disch := omega) only [Option.bind_some, tc_bs, tq_let, tc_I1, tc_I2, tc_J1, tc_J2, tc_J3, tc_F1, tc_F2, tc_F3, tc_F4, tc_G1, tc_G2, tc_G3, tc_G4, tc_G5, tc_us, tc_un, s_one, s_holds, s_J13_bitCount, bz_bI, f_V_insertAttribute, hC.tq.f, e5, nAI, if_true, if_false]
        · simp (maxSteps := 3000000) (disch := omega) only [Option.bind_some, tc_bs, tq_let, tc_I1, tc_I2, tc_J1, tc_J2, tc_J3, tc_F1, tc_F2, tc_F3, tc_F4, tc_G1, tc_G2, tc_G3, tc_G4, tc_G5, tc_us, tc_un, s_one, s_holds, s_J13_bitCount, bz_bI, f_X11_insertAttribute, f_X11_refused, hC.mod.f, ri, r2, r5, n10, n20, n30, z1, if_true, if_false]
    · have c2 := rng_no (h := tc_mk S c) q2
      have r2 := in_no (h := tc_mk S c) q2
      refine arm_no hC hF (k := 2) (b := 0) (by decide) ?_ ?_
      · have e5 : f_X10_insertAttribute 0 x1 x2 x3 (tc_mk S c) = some (.inl "java/lang/IllegalArgumentException", tc_mk S c) := by simp (maxSteps := 3000000) (disch := omega) only [Option.bind_some, tc_bs, tq_let, tc_I1, tc_I2, tc_J1, tc_J2, tc_J3, tc_F1, tc_F2, tc_F3, tc_F4, tc_G1, tc_G2, tc_G3, tc_G4, tc_G5, tc_us, tc_un, s_one, s_holds, s_J13_bitCount, bz_bI, f_X10_insertAttribute, hC.tq.f, hC.t1.f, cn, c2, tb_r, tb_l, if_true, if_false]
        simp (maxSteps := 3000000) (disch := omega) only [Option.bind_some, tc_bs, tq_let, tc_I1, tc_I2, tc_J1, tc_J2, tc_J3, tc_F1, tc_F2, tc_F3, tc_F4, tc_G1, tc_G2, tc_G3, tc_G4, tc_G5, tc_us, tc_un, s_one, s_holds, s_J13_bitCount, bz_bI, f_V_insertAttribute, hC.tq.f, e5, nAI, if_true, if_false]
      · simp (maxSteps := 3000000) (disch := omega) only [Option.bind_some, tc_bs, tq_let, tc_I1, tc_I2, tc_J1, tc_J2, tc_J3, tc_F1, tc_F2, tc_F3, tc_F4, tc_G1, tc_G2, tc_G3, tc_G4, tc_G5, tc_us, tc_un, s_one, s_holds, s_J13_bitCount, bz_bI, f_X11_insertAttribute, f_X11_refused, hC.mod.f, ri, r2, n10, n20, n30, z1, if_true, if_false]
  · have ri := s_X11_isNode_n (S := S) hC.mod hw hg.2.2.2.1 hi
    have cn := hC.need_n hi
    by_cases q2 : 0 ≤ x2 ∧ x2 ≤ 7
    · have r2 := in_ok (h := tc_mk S c) q2.1 q2.2
      by_cases q5 : 0 ≤ x3 ∧ x3 ≤ 999
      · have r5 := in_ok (h := tc_mk S c) q5.1 q5.2
        refine arm_no hC hF (k := 1) (b := 0) (by decide) ?_ ?_
        · have e5 : f_X10_insertAttribute 0 x1 x2 x3 (tc_mk S c) = some (.inl "java/lang/IndexOutOfBoundsException", tc_mk S c) := by simp (maxSteps := 3000000) (disch := omega) only [Option.bind_some, tc_bs, tq_let, tc_I1, tc_I2, tc_J1, tc_J2, tc_J3, tc_F1, tc_F2, tc_F3, tc_F4, tc_G1, tc_G2, tc_G3, tc_G4, tc_G5, tc_us, tc_un, s_one, s_holds, s_J13_bitCount, bz_bI, f_X10_insertAttribute, hC.tq.f, hC.t1.f, cn, tb_r, tb_l, if_true, if_false]
          simp (maxSteps := 3000000) (disch := omega) only [Option.bind_some, tc_bs, tq_let, tc_I1, tc_I2, tc_J1, tc_J2, tc_J3, tc_F1, tc_F2, tc_F3, tc_F4, tc_G1, tc_G2, tc_G3, tc_G4, tc_G5, tc_us, tc_un, s_one, s_holds, s_J13_bitCount, bz_bI, f_V_insertAttribute, hC.tq.f, e5, if_true]
        · simp (maxSteps := 3000000) (disch := omega) only [Option.bind_some, tc_bs, tq_let, tc_I1, tc_I2, tc_J1, tc_J2, tc_J3, tc_F1, tc_F2, tc_F3, tc_F4, tc_G1, tc_G2, tc_G3, tc_G4, tc_G5, tc_us, tc_un, s_one, s_holds, s_J13_bitCount, bz_bI, f_X11_insertAttribute, f_X11_refused, hC.mod.f, ri, r2, r5, n10, n20, n30, z1, if_true, if_false]
      · have r5 := in_no (h := tc_mk S c) q5
        refine arm_no hC hF (k := 1) (b := 0) (by decide) ?_ ?_
        · have e5 : f_X10_insertAttribute 0 x1 x2 x3 (tc_mk S c) = some (.inl "java/lang/IndexOutOfBoundsException", tc_mk S c) := by simp (maxSteps := 3000000) (disch := omega) only [Option.bind_some, tc_bs, tq_let, tc_I1, tc_I2, tc_J1, tc_J2, tc_J3, tc_F1, tc_F2, tc_F3, tc_F4, tc_G1, tc_G2, tc_G3, tc_G4, tc_G5, tc_us, tc_un, s_one, s_holds, s_J13_bitCount, bz_bI, f_X10_insertAttribute, hC.tq.f, hC.t1.f, cn, tb_r, tb_l, if_true, if_false]
          simp (maxSteps := 3000000) (disch := omega) only [Option.bind_some, tc_bs, tq_let, tc_I1, tc_I2, tc_J1, tc_J2, tc_J3, tc_F1, tc_F2, tc_F3, tc_F4, tc_G1, tc_G2, tc_G3, tc_G4, tc_G5, tc_us, tc_un, s_one, s_holds, s_J13_bitCount, bz_bI, f_V_insertAttribute, hC.tq.f, e5, if_true]
        · simp (maxSteps := 3000000) (disch := omega) only [Option.bind_some, tc_bs, tq_let, tc_I1, tc_I2, tc_J1, tc_J2, tc_J3, tc_F1, tc_F2, tc_F3, tc_F4, tc_G1, tc_G2, tc_G3, tc_G4, tc_G5, tc_us, tc_un, s_one, s_holds, s_J13_bitCount, bz_bI, f_X11_insertAttribute, f_X11_refused, hC.mod.f, ri, r2, r5, n10, n20, n30, z1, if_true, if_false]
    · have r2 := in_no (h := tc_mk S c) q2
      refine arm_no hC hF (k := 1) (b := 0) (by decide) ?_ ?_
      · have e5 : f_X10_insertAttribute 0 x1 x2 x3 (tc_mk S c) = some (.inl "java/lang/IndexOutOfBoundsException", tc_mk S c) := by simp (maxSteps := 3000000) (disch := omega) only [Option.bind_some, tc_bs, tq_let, tc_I1, tc_I2, tc_J1, tc_J2, tc_J3, tc_F1, tc_F2, tc_F3, tc_F4, tc_G1, tc_G2, tc_G3, tc_G4, tc_G5, tc_us, tc_un, s_one, s_holds, s_J13_bitCount, bz_bI, f_X10_insertAttribute, hC.tq.f, hC.t1.f, cn, tb_r, tb_l, if_true, if_false]
        simp (maxSteps := 3000000) (disch := omega) only [Option.bind_some, tc_bs, tq_let, tc_I1, tc_I2, tc_J1, tc_J2, tc_J3, tc_F1, tc_F2, tc_F3, tc_F4, tc_G1, tc_G2, tc_G3, tc_G4, tc_G5, tc_us, tc_un, s_one, s_holds, s_J13_bitCount, bz_bI, f_V_insertAttribute, hC.tq.f, e5, if_true]
      · simp (maxSteps := 3000000) (disch := omega) only [Option.bind_some, tc_bs, tq_let, tc_I1, tc_I2, tc_J1, tc_J2, tc_J3, tc_F1, tc_F2, tc_F3, tc_F4, tc_G1, tc_G2, tc_G3, tc_G4, tc_G5, tc_us, tc_un, s_one, s_holds, s_J13_bitCount, bz_bI, f_X11_insertAttribute, f_X11_refused, hC.mod.f, ri, r2, n10, n20, n30, z1, if_true, if_false]
theorem arm_move (h : InvE di h0) (e1 : tq_sx n xs (y4 + 1) = some x1) (e2 : tq_sx n xs (y4 + 2) = some x2) (e3 : tq_sx n xs (y4 + 3) = some x3) : ∃ h' u, f_V_law_c704 n xs 0 155 205 y4 h0 = some (.inl (y4 + 5, h')) ∧ InvE (di.1, di.2.1, u) h' ∧ EXp di.2.2 u h' := by
  obtain ⟨S, c, D, m, U, P, H, Z, X, nw, ed, nv, vt, mv, Dv, rfl, hC, hF⟩ := h
  have e0 : f_V_law_c704 n xs 0 155 205 y4 (tc_mk S c) = armI (f_V_move 0 x1 x2 x3 205 (tc_mk S c)) (f_X11_move 155 x1 x2 x3) y4 := by
    unfold f_V_law_c704; rw [e1, e2, e3]; rfl
  rw [e0]
  have hg := hC.gt
  have hw := hg.1.1
  have n10 : ¬ (1 : Int32) = 0 := by decide
  have n20 : ¬ (2 : Int32) = 0 := by decide
  have n30 : ¬ (3 : Int32) = 0 := by decide
  have z0 : tq_bz 0 = some 0 := rfl
  have z1 : tq_bz 1 = some 1 := rfl
  have b1 : ¬ bI true = 0 := by decide
  have b0 : bI false = 0 := rfl
  obtain ⟨ct1, ct2, ct3⟩ := hC.cnt
  rcases D.at_or x1 with ⟨i, hi⟩ | hi
  · have ri := s_X11_isNode (S := S) hC.mod hw hg.2.2.2.1 hi
    have cn := hC.need hi
    obtain ⟨rk0, ck⟩ := hC.rkd hi
    have rk := rk0 c hg
    rcases D.at_or x2 with ⟨j, hj⟩ | hj
    · have rs := r_spot (x := x3) hC.mod hg hj
      have rt := r_takes hC.mod hg hC.gu.2.1 hj
      by_cases q1 : 0 ≤ x3 ∧ x3 ≤ nI (fb_ct (D.ax 1 j) 64)
      · rw [decide_eq_true q1] at rs
        have c1 := (hC.plc hj).1 q1
        by_cases q0 : x1 = 0
        · subst q0
          refine arm_no hC hF (k := 2) (b := 0) (by decide) ?_ ?_
          · have e5 : f_X10_move 0 0 x2 x3 (tc_mk S c) = some (.inl "java/lang/IllegalStateException", tc_mk S c) := by simp (maxSteps := 3000000) (disch := omega) only [Option.bind_some, tc_bs, tq_let, tc_I1, tc_I2, tc_J1, tc_J2, tc_J3, tc_F1, tc_F2, tc_F3, tc_F4, tc_G1, tc_G2, tc_G3, tc_G4, tc_G5, tc_us, tc_un, s_one, s_holds, s_J13_bitCount, bz_bI, f_X10_move, hC.tq.f, hC.t1.f, cn, c1, tb_r, tb_l, if_true, if_false]
            simp (maxSteps := 3000000) (disch := omega) only [Option.bind_some, tc_bs, tq_let, tc_I1, tc_I2, tc_J1, tc_J2, tc_J3, tc_F1, tc_F2, tc_F3, tc_F4, tc_G1, tc_G2, tc_G3, tc_G4, tc_G5, tc_us, tc_un, s_one, s_holds, s_J13_bitCount, bz_bI, f_V_move, hC.tq.f, e5, nSI, nSA, if_true, if_false]
          · simp (maxSteps := 3000000) (disch := omega) only [Option.bind_some, tc_bs, tq_let, tc_I1, tc_I2, tc_J1, tc_J2, tc_J3, tc_F1, tc_F2, tc_F3, tc_F4, tc_G1, tc_G2, tc_G3, tc_G4, tc_G5, tc_us, tc_un, s_one, s_holds, s_J13_bitCount, bz_bI, f_X11_move, f_X11_refused, hC.mod.f, ri, rs, b1, n10, n20, n30, z1, if_true, if_false]
        · have i0 : i ≠ 0 := fun z => q0 ((D.at_0 hw hi).mpr z)
          by_cases q2 : D.kd i = 2
          · refine arm_no hC hF (k := 2) (b := 0) (by decide) ?_ ?_
            · have e5 : f_X10_move 0 x1 x2 x3 (tc_mk S c) = some (.inl "java/lang/IllegalStateException", tc_mk S c) := by simp (maxSteps := 3000000) (disch := omega) only [Option.bind_some, tc_bs, tq_let, tc_I1, tc_I2, tc_J1, tc_J2, tc_J3, tc_F1, tc_F2, tc_F3, tc_F4, tc_G1, tc_G2, tc_G3, tc_G4, tc_G5, tc_us, tc_un, s_one, s_holds, s_J13_bitCount, bz_bI, f_X10_move, hC.tq.f, hC.t1.f, cn, c1, q0, ck, q2, tb_r, tb_l, if_true, if_false]
              simp (maxSteps := 3000000) (disch := omega) only [Option.bind_some, tc_bs, tq_let, tc_I1, tc_I2, tc_J1, tc_J2, tc_J3, tc_F1, tc_F2, tc_F3, tc_F4, tc_G1, tc_G2, tc_G3, tc_G4, tc_G5, tc_us, tc_un, s_one, s_holds, s_J13_bitCount, bz_bI, f_V_move, hC.tq.f, e5, nSI, nSA, if_true, if_false]
            · simp (maxSteps := 3000000) (disch := omega) only [Option.bind_some, tc_bs, tq_let, tc_I1, tc_I2, tc_J1, tc_J2, tc_J3, tc_F1, tc_F2, tc_F3, tc_F4, tc_G1, tc_G2, tc_G3, tc_G4, tc_G5, tc_us, tc_un, s_one, s_holds, s_J13_bitCount, bz_bI, f_X11_move, f_X11_refused, hC.mod.f, ri, rs, b1, q0, rk, q2, n10, n20, n30, z1, if_true, if_false]
          · by_cases q3 : D.kd j = 0
            · have c3 := (hC.elem hj).1 q3
              by_cases q4 : U.n < 20
              · have c4 := hC.room.1 q4
                obtain ⟨hin, rfl⟩ := id hi
                obtain ⟨hjn, rfl⟩ := id hj
                obtain ⟨l, l1, rfl⟩ := x_nat (by have := fb_ct_le (D.ax 1 j) 64; omega) q1.1 q1.2
                obtain ⟨c1', g1, g2, g3⟩ := s_addMove (c := c) (t := D.ord i) (p := D.ord j) (l := l) hC.upc hC.gu.1 q4
                have e5 : f_X10_move 0 (nI (D.ord i)) (nI (D.ord j)) (nI l) (tc_mk S c) = some (.inr (nI (U.n + 1)), tc_mk S c1') := by
                  simp (maxSteps := 3000000) (disch := omega) only [Option.bind_some, tc_bs, tq_let, tc_I1, tc_I2, tc_J1, tc_J2, tc_J3, tc_F1, tc_F2, tc_F3, tc_F4, tc_G1, tc_G2, tc_G3, tc_G4, tc_G5, tc_us, tc_un, s_one, s_holds, s_J13_bitCount, bz_bI, f_X10_move, hC.tq.f, hC.t1.f, hC.upc.f, cn, c1, q0, ck, q2, c3, c4, tb_r, g1, if_false]
                refine hC.acc hF q4 (c1 := c1') (w := 4) (t := D.ord i) (p := D.ord j) (l := l) (kd := 0) (nm := 0) (ct := 0) (by simp (maxSteps := 3000000) (disch := omega) only [Option.bind_some, tc_bs, tq_let, tc_I1, tc_I2, tc_J1, tc_J2, tc_J3, tc_F1, tc_F2, tc_F3, tc_F4, tc_G1, tc_G2, tc_G3, tc_G4, tc_G5, tc_us, tc_un, s_one, s_holds, s_J13_bitCount, bz_bI, f_V_move, hC.tq.f, e5]; rfl) g2 g3 (wf_push hC.gu.2.2 q4 (by decide) (fun _ => ⟨i, hin, rfl, fun z => (by cases z), fun _ => ⟨Nat.pos_of_ne_zero i0, q2⟩, fun z => (by cases z), fun z => (by cases z), fun z => (by cases z)⟩) (fun _ => ⟨j, hjn, rfl, q3, .inr l1⟩) (fun z => (by cases z)) (fun z => (by cases z)) (fun z => (by cases z)) (fun z => (by cases z))) (a1 := 4) (a2 := nI (D.ord i)) (a3 := nI (D.ord j)) (a4 := nI l) (a5 := 0) (a6 := 0) (a7 := 0) (fun k1 k2 => ?_) rfl rfl (fun _ => rfl) (fun _ => rfl) (fun z => (by cases z)) (fun z => (by cases z)) (fun z => (by rcases z with z | z <;> cases z))
                have ri' := s_X11_isNode (S := S) hC.mod hw k1.2.2.2.1 hi
                have rk' := rk0 _ k1
                have rs' := r_spot (x := nI l) hC.mod k1 hj
                have rt' := r_takes hC.mod k1 k2 hj
                rw [decide_eq_true q1] at rs'
                rw [decide_eq_true ⟨q3, q4⟩] at rt'
                generalize ansC c1' (nI (U.n + 1)).toInt64 = d at *
                simp (maxSteps := 3000000) (disch := omega) only [Option.bind_some, tc_bs, tq_let, tc_I1, tc_I2, tc_J1, tc_J2, tc_J3, tc_F1, tc_F2, tc_F3, tc_F4, tc_G1, tc_G2, tc_G3, tc_G4, tc_G5, tc_us, tc_un, s_one, s_holds, s_J13_bitCount, bz_bI, f_X11_move, f_X11_refused, hC.mod.f, ri', n10, rs', b1, q0, rk', q2, rt', z0, bs2, if_true, if_false]
              · have c4 := hC.room.2 q4
                rw [decide_eq_false fun z => q4 z.2] at rt
                refine arm_no hC hF (k := 2) (b := 0) (by decide) ?_ ?_
                · have e5 : f_X10_move 0 x1 x2 x3 (tc_mk S c) = some (.inl "java/lang/IllegalStateException", tc_mk S c) := by simp (maxSteps := 3000000) (disch := omega) only [Option.bind_some, tc_bs, tq_let, tc_I1, tc_I2, tc_J1, tc_J2, tc_J3, tc_F1, tc_F2, tc_F3, tc_F4, tc_G1, tc_G2, tc_G3, tc_G4, tc_G5, tc_us, tc_un, s_one, s_holds, s_J13_bitCount, bz_bI, f_X10_move, hC.tq.f, hC.t1.f, cn, c1, q0, ck, q2, c3, c4, tb_r, tb_l, if_true, if_false]
                  simp (maxSteps := 3000000) (disch := omega) only [Option.bind_some, tc_bs, tq_let, tc_I1, tc_I2, tc_J1, tc_J2, tc_J3, tc_F1, tc_F2, tc_F3, tc_F4, tc_G1, tc_G2, tc_G3, tc_G4, tc_G5, tc_us, tc_un, s_one, s_holds, s_J13_bitCount, bz_bI, f_V_move, hC.tq.f, e5, nSI, nSA, if_true, if_false]
                · simp (maxSteps := 3000000) (disch := omega) only [Option.bind_some, tc_bs, tq_let, tc_I1, tc_I2, tc_J1, tc_J2, tc_J3, tc_F1, tc_F2, tc_F3, tc_F4, tc_G1, tc_G2, tc_G3, tc_G4, tc_G5, tc_us, tc_un, s_one, s_holds, s_J13_bitCount, bz_bI, f_X11_move, f_X11_refused, hC.mod.f, ri, rs, b1, q0, rk, q2, rt, b0, n10, n20, n30, z1, if_true, if_false]
            · have c3 := (hC.elem hj).2 q3
              rw [decide_eq_false fun z => q3 z.1] at rt
              refine arm_no hC hF (k := 2) (b := 0) (by decide) ?_ ?_
              · have e5 : f_X10_move 0 x1 x2 x3 (tc_mk S c) = some (.inl "java/lang/IllegalStateException", tc_mk S c) := by simp (maxSteps := 3000000) (disch := omega) only [Option.bind_some, tc_bs, tq_let, tc_I1, tc_I2, tc_J1, tc_J2, tc_J3, tc_F1, tc_F2, tc_F3, tc_F4, tc_G1, tc_G2, tc_G3, tc_G4, tc_G5, tc_us, tc_un, s_one, s_holds, s_J13_bitCount, bz_bI, f_X10_move, hC.tq.f, hC.t1.f, cn, c1, q0, ck, q2, c3, tb_r, tb_l, if_true, if_false]
                simp (maxSteps := 3000000) (disch := omega) only [Option.bind_some, tc_bs, tq_let, tc_I1, tc_I2, tc_J1, tc_J2, tc_J3, tc_F1, tc_F2, tc_F3, tc_F4, tc_G1, tc_G2, tc_G3, tc_G4, tc_G5, tc_us, tc_un, s_one, s_holds, s_J13_bitCount, bz_bI, f_V_move, hC.tq.f, e5, nSI, nSA, if_true, if_false]
              · simp (maxSteps := 3000000) (disch := omega) only [Option.bind_some, tc_bs, tq_let, tc_I1, tc_I2, tc_J1, tc_J2, tc_J3, tc_F1, tc_F2, tc_F3, tc_F4, tc_G1, tc_G2, tc_G3, tc_G4, tc_G5, tc_us, tc_un, s_one, s_holds, s_J13_bitCount, bz_bI, f_X11_move, f_X11_refused, hC.mod.f, ri, rs, b1, q0, rk, q2, rt, b0, n10, n20, n30, z1, if_true, if_false]
      · rw [decide_eq_false q1] at rs
        have c1 := (hC.plc hj).2 q1
        refine arm_no hC hF (k := 1) (b := 0) (by decide) ?_ ?_
        · have e5 : f_X10_move 0 x1 x2 x3 (tc_mk S c) = some (.inl "java/lang/IndexOutOfBoundsException", tc_mk S c) := by simp (maxSteps := 3000000) (disch := omega) only [Option.bind_some, tc_bs, tq_let, tc_I1, tc_I2, tc_J1, tc_J2, tc_J3, tc_F1, tc_F2, tc_F3, tc_F4, tc_G1, tc_G2, tc_G3, tc_G4, tc_G5, tc_us, tc_un, s_one, s_holds, s_J13_bitCount, bz_bI, f_X10_move, hC.tq.f, hC.t1.f, cn, c1, tb_r, tb_l, if_true, if_false]
          simp (maxSteps := 3000000) (disch := omega) only [Option.bind_some, tc_bs, tq_let, tc_I1, tc_I2, tc_J1, tc_J2, tc_J3, tc_F1, tc_F2, tc_F3, tc_F4, tc_G1, tc_G2, tc_G3, tc_G4, tc_G5, tc_us, tc_un, s_one, s_holds, s_J13_bitCount, bz_bI, f_V_move, hC.tq.f, e5, if_true]
        · simp (maxSteps := 3000000) (disch := omega) only [Option.bind_some, tc_bs, tq_let, tc_I1, tc_I2, tc_J1, tc_J2, tc_J3, tc_F1, tc_F2, tc_F3, tc_F4, tc_G1, tc_G2, tc_G3, tc_G4, tc_G5, tc_us, tc_un, s_one, s_holds, s_J13_bitCount, bz_bI, f_X11_move, f_X11_refused, hC.mod.f, ri, rs, b0, n10, n20, n30, z1, if_true, if_false]
    · have rs := r_spot_n (x := x3) hC.mod hg hj
      have c1 := hC.plc_n (x := x3) hj
      refine arm_no hC hF (k := 1) (b := 0) (by decide) ?_ ?_
      · have e5 : f_X10_move 0 x1 x2 x3 (tc_mk S c) = some (.inl "java/lang/IndexOutOfBoundsException", tc_mk S c) := by simp (maxSteps := 3000000) (disch := omega) only [Option.bind_some, tc_bs, tq_let, tc_I1, tc_I2, tc_J1, tc_J2, tc_J3, tc_F1, tc_F2, tc_F3, tc_F4, tc_G1, tc_G2, tc_G3, tc_G4, tc_G5, tc_us, tc_un, s_one, s_holds, s_J13_bitCount, bz_bI, f_X10_move, hC.tq.f, hC.t1.f, cn, c1, tb_r, tb_l, if_true, if_false]
        simp (maxSteps := 3000000) (disch := omega) only [Option.bind_some, tc_bs, tq_let, tc_I1, tc_I2, tc_J1, tc_J2, tc_J3, tc_F1, tc_F2, tc_F3, tc_F4, tc_G1, tc_G2, tc_G3, tc_G4, tc_G5, tc_us, tc_un, s_one, s_holds, s_J13_bitCount, bz_bI, f_V_move, hC.tq.f, e5, if_true]
      · simp (maxSteps := 3000000) (disch := omega) only [Option.bind_some, tc_bs, tq_let, tc_I1, tc_I2, tc_J1, tc_J2, tc_J3, tc_F1, tc_F2, tc_F3, tc_F4, tc_G1, tc_G2, tc_G3, tc_G4, tc_G5, tc_us, tc_un, s_one, s_holds, s_J13_bitCount, bz_bI, f_X11_move, f_X11_refused, hC.mod.f, ri, rs, n10, n20, n30, z1, if_true, if_false]
  · have ri := s_X11_isNode_n (S := S) hC.mod hw hg.2.2.2.1 hi
    have cn := hC.need_n hi
    refine arm_no hC hF (k := 1) (b := 0) (by decide) ?_ ?_
    · have e5 : f_X10_move 0 x1 x2 x3 (tc_mk S c) = some (.inl "java/lang/IndexOutOfBoundsException", tc_mk S c) := by simp (maxSteps := 3000000) (disch := omega) only [Option.bind_some, tc_bs, tq_let, tc_I1, tc_I2, tc_J1, tc_J2, tc_J3, tc_F1, tc_F2, tc_F3, tc_F4, tc_G1, tc_G2, tc_G3, tc_G4, tc_G5, tc_us, tc_un, s_one, s_holds, s_J13_bitCount, bz_bI, f_X10_move, hC.tq.f, hC.t1.f, cn, tb_r, tb_l, if_true, if_false]
      simp (maxSteps := 3000000) (disch := omega) only [Option.bind_some, tc_bs, tq_let, tc_I1, tc_I2, tc_J1, tc_J2, tc_J3, tc_F1, tc_F2, tc_F3, tc_F4, tc_G1, tc_G2, tc_G3, tc_G4, tc_G5, tc_us, tc_un, s_one, s_holds, s_J13_bitCount, bz_bI, f_V_move, hC.tq.f, e5, if_true]
    · simp (maxSteps := 3000000) (disch := omega) only [Option.bind_some, tc_bs, tq_let, tc_I1, tc_I2, tc_J1, tc_J2, tc_J3, tc_F1, tc_F2, tc_F3, tc_F4, tc_G1, tc_G2, tc_G3, tc_G4, tc_G5, tc_us, tc_un, s_one, s_holds, s_J13_bitCount, bz_bI, f_X11_move, f_X11_refused, hC.mod.f, ri, n10, n20, n30, z1, if_true, if_false]
theorem arm_forget (h : InvE di h0) : ∃ h', f_V_law_c896 n xs 0 155 205 y4 h0 = some (.inl (y4 + 5, h')) ∧ InvE (di.1, di.2.1, 0) h' := by
  obtain ⟨S, c, D, m, U, P, H, Z, X, nw, ed, nv, vt, mv, Dv, rfl, hC, hF⟩ := h
  have e1 := hC.gu.1.1
  have e2 := hC.gu.2.1.1
  have hu := hC.gu.2.2
  obtain ⟨g1, g2⟩ := hC.upd (U' := (0, U.2)) hF (c' := tc_F (tc_F (tc_F c 81 11 0) 155 15 0) 155 0 0) (((Wr.F _ (by omega)).trans (Wr.F _ (by omega))).trans (Wr.F _ (by omega))) ⟨⟨by simp (maxSteps := 3000000) (disch := omega) only [Option.bind_some, tc_bs, tq_let, tc_I1, tc_I2, tc_J1, tc_J2, tc_J3, tc_F1, tc_F2, tc_F3, tc_F4, tc_G1, tc_G2, tc_G3, tc_G4, tc_G5, tc_us, tc_un, s_one, s_holds, s_J13_bitCount, bz_bI, if_true]; rfl, Nat.zero_le _, fun k hk => absurd hk (Nat.not_lt_zero _), fun k hk => absurd hk (Nat.not_lt_zero _), fun k hk => absurd hk (Nat.not_lt_zero _), fun k hk => absurd hk (Nat.not_lt_zero _), fun k hk => absurd hk (Nat.not_lt_zero _), fun k hk => absurd hk (Nat.not_lt_zero _)⟩,
    ⟨by simp (maxSteps := 3000000) (disch := omega) only [Option.bind_some, tc_bs, tq_let, tc_I1, tc_I2, tc_J1, tc_J2, tc_J3, tc_F1, tc_F2, tc_F3, tc_F4, tc_G1, tc_G2, tc_G3, tc_G4, tc_G5, tc_us, tc_un, s_one, s_holds, s_J13_bitCount, bz_bI, if_true]; rfl, Nat.zero_le _, fun k hk => absurd hk (Nat.not_lt_zero _), fun k hk => absurd hk (Nat.not_lt_zero _), fun k hk => absurd hk (Nat.not_lt_zero _), fun k hk => absurd hk (Nat.not_lt_zero _), fun k hk => absurd hk (Nat.not_lt_zero _), fun k hk => absurd hk (Nat.not_lt_zero _), fun k hk => absurd hk (Nat.not_lt_zero _)⟩,
    ⟨⟨Nat.zero_le _, hu.1.2⟩, fun k hk => absurd hk (Nat.not_lt_zero _), fun k hk => absurd hk (Nat.not_lt_zero _), fun k hk => absurd hk (Nat.not_lt_zero _), fun k hk => absurd hk (Nat.not_lt_zero _), fun k hk => absurd hk (Nat.not_lt_zero _), fun k hk => absurd hk (Nat.not_lt_zero _), fun k hk => absurd hk (Nat.not_lt_zero _)⟩⟩
  refine ⟨_, ?_, S, _, D, m, _, P, H, Z, X, nw, ed, nv, vt, mv, Dv, rfl, g1, g2⟩
  simp (maxSteps := 3000000) (disch := omega) only [Option.bind_some, tc_bs, tq_let, tc_I1, tc_I2, tc_J1, tc_J2, tc_J3, tc_F1, tc_F2, tc_F3, tc_F4, tc_G1, tc_G2, tc_G3, tc_G4, tc_G5, tc_us, tc_un, s_one, s_holds, s_J13_bitCount, bz_bI, f_V_law_c896, f_X10_forget, f_X9_empty, f_X11_forget, f_X11_fine, hC.tq.f, hC.upc.f, hC.mod.f, e1, e2, if_true]
end CO2
