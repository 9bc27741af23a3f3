/-! ===== more calls that make paths grow ===== -/
section PTB
variable {S : tq_H} {c c' c1 c2 : tc_C} {di : DI} {D : Doc} {m : Nat} {U : Ups} {P P' : Pat} {H : Nat → Bool} {Z : Sma} {X : Nat → Bool} {nw : Nat} {ed : Option Nat} {nv : Nat} {vt mv : Nat → Nat} {Dv : Nat → Doc} {p q r k z w o mm nn n : Nat} {x x1 x2 x3 x4 y v y4 A : Int32} {xs : Nat → Int32} {h0 : tq_H}
theorem has_3 (hC : Cor S c di D m U P H Z X nw ed nv vt mv Dv) (hF : GF c D P H) : ∃ h', armI (f_V_has 0 x1 x2 0 205 (tc_mk S c)) (f_X11_has 155 x1 x2 0) y4 = some (.inl (y4 + 5, h')) ∧ InvE di h' := by
  classical
  have n10 : ¬ (1 : Int32) = 0 := by decide
  have n20 : ¬ (2 : Int32) = 0 := by decide
  have n30 : ¬ (3 : Int32) = 0 := by decide
  have z0 : tq_bz 0 = some 0 := rfl
  have z1 : tq_bz 1 = some 1 := rfl
  have b1 : ¬ bI true = 0 := by decide
  have b0 : bI false = 0 := rfl
  obtain ⟨pc, pr, hP⟩ := hC.gp
  have h20 := hP.1
  have isp := s_X11_isPath (S := S) hC.mod pr.1 hP x1
  have i98 : ∀ c, tq_is (tc_mk S c) 98 4 = some () := fun c => by have := hC.pth; simp (maxSteps := 3000000) (disch := omega) only [Option.bind_some, tc_bs, tq_let, tc_I1, tc_I2, tc_J1, tc_J2, tc_J3, tc_F1, tc_F2, tc_F3, tc_F4, tc_G1, tc_G2, tc_G3, tc_G4, tc_G5, tc_us, tc_un, s_one, s_holds, s_J13_bitCount, bz_bI, this.f]
  by_cases qp : 0 ≤ x1 ∧ x1 < nI P.n
  · rw [decide_eq_true qp] at isp
    have cn := (hC.npath x1).1 qp
    obtain ⟨p, hp31, rfl⟩ := nI_of (Int32.not_lt.mpr qp.1)
    have hp : p < P.n := (nI_ltI hp31 (by omega)).mp qp.2
    have rl : f_X11_in x2 0 (nI p - 1) (tc_mk S c) = some (bI (decide (0 ≤ x2 ∧ x2 < nI p))) := by
      rw [s_X11_in, show decide (0 ≤ x2 ∧ x2 ≤ nI p - 1) = decide (0 ≤ x2 ∧ x2 < nI p) from Bool.ext_iff (by rw [decide_eq_true_iff, decide_eq_true_iff]; exact low_iff (by omega) x2)]
    by_cases q1 : 0 ≤ x2 ∧ x2 < nI p
    · have cl := (nlower (tc_mk S c) (nI p) x2).1 q1
      rw [decide_eq_true q1] at rl
      have rt := hC.rtakes hp pr hC.gv (fun _ _ => rfl)
      by_cases q9 : ok4 c nw P p
      · have c9 := (hC.nostep hp).1 q9
        obtain ⟨o, ho31, rfl⟩ := nI_of (Int32.not_lt.mpr q1.1)
        have ho : o < p := (nI_ltI ho31 (by omega)).mp q1.2
        obtain ⟨c0, c1, g1, g2, g3, g4, g5, g6, g7⟩ := hC.condC (w := 3) (o := o) (mm := 0) (nn := 0) hp q9 (nI o) (-1) (-1) (fun _ => rfl) (fun z => (by omega))
        have g2 : f_X4_addCondition 98 (nI p) 3 (nI o) (-1) (-1) (tc_mk S c0) = some (nI (P.cc (P.ls p) + 1), tc_mk S c1) := g2
        have e5 : f_X10_has 0 (nI p) (nI o) 0 (tc_mk S c) = some (.inr (nI (P.cc (P.ls p) + 1)), tc_mk S c1) := by
          simp (maxSteps := 3000000) (disch := omega) only [Option.bind_some, tc_bs, tq_let, tc_I1, tc_I2, tc_J1, tc_J2, tc_J3, tc_F1, tc_F2, tc_F3, tc_F4, tc_G1, tc_G2, tc_G3, tc_G4, tc_G5, tc_us, tc_un, s_one, s_holds, s_J13_bitCount, bz_bI, f_X10_has, hC.tq.f, i98, cn, cl, c9, tb_r, g1, g2, n10, if_true, if_false]
        refine hC.accP (P' := P.addC p 3 o 0 0) (q := p) (A := nI (P.cc (P.ls p) + 1)) hF (by omega) (Nat.le_refl _) (addC_wf hP hp q9.2.1 q9.2.2 (by decide) (fun _ => ho) (fun z => (by omega))) (fun r hr => addC_agr hP hp q9.2.1 q9.2.2 (by omega) (by omega)) (hC.above q9.1.1 q9.1.2) g3 g4 g5 g6 g7 (by simp (maxSteps := 3000000) (disch := omega) only [Option.bind_some, tc_bs, tq_let, tc_I1, tc_I2, tc_J1, tc_J2, tc_J3, tc_F1, tc_F2, tc_F3, tc_F4, tc_G1, tc_G2, tc_G3, tc_G4, tc_G5, tc_us, tc_un, s_one, s_holds, s_J13_bitCount, bz_bI, f_V_has, hC.tq.f, e5]; rfl) (fun k1 k2 k3 => ?_)
        have rt' := hC.rtakes hp k1 k2 k3
        have isp' := s_X11_isPath (S := S) hC.mod k1.1 hP (nI p)
        rw [decide_eq_true q9] at rt'
        rw [decide_eq_true qp] at isp'
        have k4 : PR (tc_F (ansC c1 (nI (P.cc (P.ls p) + 1)).toInt64) 155 0 0) P := by
          unfold PR at k1 ⊢
          rw [tc_F3, tc_us, tc_un _ _ (by decide)]; exact k1
        generalize ansC c1 (nI (P.cc (P.ls p) + 1)).toInt64 = d at *
        obtain ⟨c2, f1, f2, f3⟩ := s_X11_condition (w := 3) (o := o) (m := 0) (n := 0) hC.mod k4 hP hp q9.2.1 q9.2.2 (nI o) 0 0 (fun _ => rfl) (fun z => (by omega))
        have f1 : f_X11_condition 155 (nI p) 3 (nI o) 0 0 (tc_mk S (tc_F d 155 0 0)) = some (nI (P.cc (P.ls p) + 1), tc_mk S c2) := f1
        refine ⟨c2, ?_, f2, f3⟩
        have rl' : f_X11_in (nI o) 0 (nI p - 1) (tc_mk S d) = some (bI true) := by
          rw [s_X11_in, decide_eq_true ((low_iff (by omega) (nI o)).mpr q1)]
        simp (maxSteps := 3000000) (disch := omega) only [Option.bind_some, tc_bs, tq_let, tc_I1, tc_I2, tc_J1, tc_J2, tc_J3, tc_F1, tc_F2, tc_F3, tc_F4, tc_G1, tc_G2, tc_G3, tc_G4, tc_G5, tc_us, tc_un, s_one, s_holds, s_J13_bitCount, bz_bI, f_X11_has, f_X11_refused, hC.mod.f, isp', rl', rt', b1, n10, z0, f1, if_true, if_false]
      · have c9 := (hC.nostep hp).2 q9
        rw [decide_eq_false q9] at rt
        refine arm_read hC hF (.inr ⟨2, 0, by decide, ?_, ?_⟩)
        · have e5 : f_X10_has 0 (nI p) x2 0 (tc_mk S c) = some (.inl "java/lang/IllegalStateException", tc_mk S c) := by simp (maxSteps := 3000000) (disch := omega) only [Option.bind_some, tc_bs, tq_let, tc_I1, tc_I2, tc_J1, tc_J2, tc_J3, tc_F1, tc_F2, tc_F3, tc_F4, tc_G1, tc_G2, tc_G3, tc_G4, tc_G5, tc_us, tc_un, s_one, s_holds, s_J13_bitCount, bz_bI, f_X10_has, hC.tq.f, i98, cn, cl, c9, tb_r, tb_l, if_true, if_false]
          simp (maxSteps := 3000000) (disch := omega) only [Option.bind_some, tc_bs, tq_let, tc_I1, tc_I2, tc_J1, tc_J2, tc_J3, tc_F1, tc_F2, tc_F3, tc_F4, tc_G1, tc_G2, tc_G3, tc_G4, tc_G5, tc_us, tc_un, s_one, s_holds, s_J13_bitCount, bz_bI, f_V_has, hC.tq.f, e5, nSI, nSA, if_true, if_false]
        · simp (maxSteps := 3000000) (disch := omega) only [Option.bind_some, tc_bs, tq_let, tc_I1, tc_I2, tc_J1, tc_J2, tc_J3, tc_F1, tc_F2, tc_F3, tc_F4, tc_G1, tc_G2, tc_G3, tc_G4, tc_G5, tc_us, tc_un, s_one, s_holds, s_J13_bitCount, bz_bI, f_X11_has, f_X11_refused, hC.mod.f, isp, b1, rl, rt, b0, n10, n20, n30, z1, if_true, if_false]
    · have cl := (nlower (tc_mk S c) (nI p) x2).2 q1
      rw [decide_eq_false q1] at rl
      refine arm_read hC hF (.inr ⟨1, 0, by decide, ?_, ?_⟩)
      · have e5 : f_X10_has 0 (nI p) x2 0 (tc_mk S c) = some (.inl "java/lang/IndexOutOfBoundsException", tc_mk S c) := by simp (maxSteps := 3000000) (disch := omega) only [Option.bind_some, tc_bs, tq_let, tc_I1, tc_I2, tc_J1, tc_J2, tc_J3, tc_F1, tc_F2, tc_F3, tc_F4, tc_G1, tc_G2, tc_G3, tc_G4, tc_G5, tc_us, tc_un, s_one, s_holds, s_J13_bitCount, bz_bI, f_X10_has, hC.tq.f, i98, cn, cl, tb_r, tb_l, if_true, if_false]
        simp (maxSteps := 3000000) (disch := omega) only [Option.bind_some, tc_bs, tq_let, tc_I1, tc_I2, tc_J1, tc_J2, tc_J3, tc_F1, tc_F2, tc_F3, tc_F4, tc_G1, tc_G2, tc_G3, tc_G4, tc_G5, tc_us, tc_un, s_one, s_holds, s_J13_bitCount, bz_bI, f_V_has, hC.tq.f, e5, if_true]
      · simp (maxSteps := 3000000) (disch := omega) only [Option.bind_some, tc_bs, tq_let, tc_I1, tc_I2, tc_J1, tc_J2, tc_J3, tc_F1, tc_F2, tc_F3, tc_F4, tc_G1, tc_G2, tc_G3, tc_G4, tc_G5, tc_us, tc_un, s_one, s_holds, s_J13_bitCount, bz_bI, f_X11_has, f_X11_refused, hC.mod.f, isp, b1, rl, b0, n10, n20, n30, z1, if_true, if_false]
  · rw [decide_eq_false qp] at isp
    have cn := (hC.npath x1).2 qp
    refine arm_read hC hF (.inr ⟨1, 0, by decide, ?_, ?_⟩)
    · have e5 : f_X10_has 0 x1 x2 0 (tc_mk S c) = some (.inl "java/lang/IndexOutOfBoundsException", tc_mk S c) := by simp (maxSteps := 3000000) (disch := omega) only [Option.bind_some, tc_bs, tq_let, tc_I1, tc_I2, tc_J1, tc_J2, tc_J3, tc_F1, tc_F2, tc_F3, tc_F4, tc_G1, tc_G2, tc_G3, tc_G4, tc_G5, tc_us, tc_un, s_one, s_holds, s_J13_bitCount, bz_bI, f_X10_has, hC.tq.f, i98, cn, tb_r, tb_l, if_true, if_false]
      simp (maxSteps := 3000000) (disch := omega) only [Option.bind_some, tc_bs, tq_let, tc_I1, tc_I2, tc_J1, tc_J2, tc_J3, tc_F1, tc_F2, tc_F3, tc_F4, tc_G1, tc_G2, tc_G3, tc_G4, tc_G5, tc_us, tc_un, s_one, s_holds, s_J13_bitCount, bz_bI, f_V_has, hC.tq.f, e5, if_true]
    · simp (maxSteps := 3000000) (disch := omega) only [Option.bind_some, tc_bs, tq_let, tc_I1, tc_I2, tc_J1, tc_J2, tc_J3, tc_F1, tc_F2, tc_F3, tc_F4, tc_G1, tc_G2, tc_G3, tc_G4, tc_G5, tc_us, tc_un, s_one, s_holds, s_J13_bitCount, bz_bI, f_X11_has, f_X11_refused, hC.mod.f, isp, b0, n10, n20, n30, z1, if_true, if_false]
theorem has_2 (hC : Cor S c di D m U P H Z X nw ed nv vt mv Dv) (hF : GF c D P H) : ∃ h', armI (f_V_has 0 x1 x2 1 205 (tc_mk S c)) (f_X11_has 155 x1 x2 1) y4 = some (.inl (y4 + 5, h')) ∧ InvE di h' := by
  classical
  have n10 : ¬ (1 : Int32) = 0 := by decide
  have n20 : ¬ (2 : Int32) = 0 := by decide
  have n30 : ¬ (3 : Int32) = 0 := by decide
  have z0 : tq_bz 0 = some 0 := rfl
  have z1 : tq_bz 1 = some 1 := rfl
  have b1 : ¬ bI true = 0 := by decide
  have b0 : bI false = 0 := rfl
  obtain ⟨pc, pr, hP⟩ := hC.gp
  have h20 := hP.1
  have isp := s_X11_isPath (S := S) hC.mod pr.1 hP x1
  have i98 : ∀ c, tq_is (tc_mk S c) 98 4 = some () := fun c => by have := hC.pth; simp (maxSteps := 3000000) (disch := omega) only [Option.bind_some, tc_bs, tq_let, tc_I1, tc_I2, tc_J1, tc_J2, tc_J3, tc_F1, tc_F2, tc_F3, tc_F4, tc_G1, tc_G2, tc_G3, tc_G4, tc_G5, tc_us, tc_un, s_one, s_holds, s_J13_bitCount, bz_bI, this.f]
  by_cases qp : 0 ≤ x1 ∧ x1 < nI P.n
  · rw [decide_eq_true qp] at isp
    have cn := (hC.npath x1).1 qp
    obtain ⟨p, hp31, rfl⟩ := nI_of (Int32.not_lt.mpr qp.1)
    have hp : p < P.n := (nI_ltI hp31 (by omega)).mp qp.2
    have rl : f_X11_in x2 0 (nI p - 1) (tc_mk S c) = some (bI (decide (0 ≤ x2 ∧ x2 < nI p))) := by
      rw [s_X11_in, show decide (0 ≤ x2 ∧ x2 ≤ nI p - 1) = decide (0 ≤ x2 ∧ x2 < nI p) from Bool.ext_iff (by rw [decide_eq_true_iff, decide_eq_true_iff]; exact low_iff (by omega) x2)]
    by_cases q1 : 0 ≤ x2 ∧ x2 < nI p
    · have cl := (nlower (tc_mk S c) (nI p) x2).1 q1
      rw [decide_eq_true q1] at rl
      have rt := hC.rtakes hp pr hC.gv (fun _ _ => rfl)
      by_cases q9 : ok4 c nw P p
      · have c9 := (hC.nostep hp).1 q9
        obtain ⟨o, ho31, rfl⟩ := nI_of (Int32.not_lt.mpr q1.1)
        have ho : o < p := (nI_ltI ho31 (by omega)).mp q1.2
        obtain ⟨c0, c1, g1, g2, g3, g4, g5, g6, g7⟩ := hC.condC (w := 2) (o := o) (mm := 0) (nn := 0) hp q9 (nI o) (-1) (-1) (fun _ => rfl) (fun z => (by omega))
        have g2 : f_X4_addCondition 98 (nI p) 2 (nI o) (-1) (-1) (tc_mk S c0) = some (nI (P.cc (P.ls p) + 1), tc_mk S c1) := g2
        have e5 : f_X10_has 0 (nI p) (nI o) 1 (tc_mk S c) = some (.inr (nI (P.cc (P.ls p) + 1)), tc_mk S c1) := by
          simp (maxSteps := 3000000) (disch := omega) only [Option.bind_some, tc_bs, tq_let, tc_I1, tc_I2, tc_J1, tc_J2, tc_J3, tc_F1, tc_F2, tc_F3, tc_F4, tc_G1, tc_G2, tc_G3, tc_G4, tc_G5, tc_us, tc_un, s_one, s_holds, s_J13_bitCount, bz_bI, f_X10_has, hC.tq.f, i98, cn, cl, c9, tb_r, g1, g2, n10, if_true, if_false]
        refine hC.accP (P' := P.addC p 2 o 0 0) (q := p) (A := nI (P.cc (P.ls p) + 1)) hF (by omega) (Nat.le_refl _) (addC_wf hP hp q9.2.1 q9.2.2 (by decide) (fun _ => ho) (fun z => (by omega))) (fun r hr => addC_agr hP hp q9.2.1 q9.2.2 (by omega) (by omega)) (hC.above q9.1.1 q9.1.2) g3 g4 g5 g6 g7 (by simp (maxSteps := 3000000) (disch := omega) only [Option.bind_some, tc_bs, tq_let, tc_I1, tc_I2, tc_J1, tc_J2, tc_J3, tc_F1, tc_F2, tc_F3, tc_F4, tc_G1, tc_G2, tc_G3, tc_G4, tc_G5, tc_us, tc_un, s_one, s_holds, s_J13_bitCount, bz_bI, f_V_has, hC.tq.f, e5]; rfl) (fun k1 k2 k3 => ?_)
        have rt' := hC.rtakes hp k1 k2 k3
        have isp' := s_X11_isPath (S := S) hC.mod k1.1 hP (nI p)
        rw [decide_eq_true q9] at rt'
        rw [decide_eq_true qp] at isp'
        have k4 : PR (tc_F (ansC c1 (nI (P.cc (P.ls p) + 1)).toInt64) 155 0 0) P := by
          unfold PR at k1 ⊢
          rw [tc_F3, tc_us, tc_un _ _ (by decide)]; exact k1
        generalize ansC c1 (nI (P.cc (P.ls p) + 1)).toInt64 = d at *
        obtain ⟨c2, f1, f2, f3⟩ := s_X11_condition (w := 2) (o := o) (m := 0) (n := 0) hC.mod k4 hP hp q9.2.1 q9.2.2 (nI o) 0 0 (fun _ => rfl) (fun z => (by omega))
        have f1 : f_X11_condition 155 (nI p) 2 (nI o) 0 0 (tc_mk S (tc_F d 155 0 0)) = some (nI (P.cc (P.ls p) + 1), tc_mk S c2) := f1
        refine ⟨c2, ?_, f2, f3⟩
        have rl' : f_X11_in (nI o) 0 (nI p - 1) (tc_mk S d) = some (bI true) := by
          rw [s_X11_in, decide_eq_true ((low_iff (by omega) (nI o)).mpr q1)]
        simp (maxSteps := 3000000) (disch := omega) only [Option.bind_some, tc_bs, tq_let, tc_I1, tc_I2, tc_J1, tc_J2, tc_J3, tc_F1, tc_F2, tc_F3, tc_F4, tc_G1, tc_G2, tc_G3, tc_G4, tc_G5, tc_us, tc_un, s_one, s_holds, s_J13_bitCount, bz_bI, f_X11_has, f_X11_refused, hC.mod.f, isp', rl', rt', b1, n10, z0, f1, if_true, if_false]
      · have c9 := (hC.nostep hp).2 q9
        rw [decide_eq_false q9] at rt
        refine arm_read hC hF (.inr ⟨2, 0, by decide, ?_, ?_⟩)
        · have e5 : f_X10_has 0 (nI p) x2 1 (tc_mk S c) = some (.inl "java/lang/IllegalStateException", tc_mk S c) := by simp (maxSteps := 3000000) (disch := omega) only [Option.bind_some, tc_bs, tq_let, tc_I1, tc_I2, tc_J1, tc_J2, tc_J3, tc_F1, tc_F2, tc_F3, tc_F4, tc_G1, tc_G2, tc_G3, tc_G4, tc_G5, tc_us, tc_un, s_one, s_holds, s_J13_bitCount, bz_bI, f_X10_has, hC.tq.f, i98, cn, cl, c9, tb_r, tb_l, if_true, if_false]
          simp (maxSteps := 3000000) (disch := omega) only [Option.bind_some, tc_bs, tq_let, tc_I1, tc_I2, tc_J1, tc_J2, tc_J3, tc_F1, tc_F2, tc_F3, tc_F4, tc_G1, tc_G2, tc_G3, tc_G4, tc_G5, tc_us, tc_un, s_one, s_holds, s_J13_bitCount, bz_bI, f_V_has, hC.tq.f, e5, nSI, nSA, if_true, if_false]
        · simp (maxSteps := 3000000) (disch := omega) only [Option.bind_some, tc_bs, tq_let, tc_I1, tc_I2, tc_J1, tc_J2, tc_J3, tc_F1, tc_F2, tc_F3, tc_F4, tc_G1, tc_G2, tc_G3, tc_G4, tc_G5, tc_us, tc_un, s_one, s_holds, s_J13_bitCount, bz_bI, f_X11_has, f_X11_refused, hC.mod.f, isp, b1, rl, rt, b0, n10, n20, n30, z1, if_true, if_false]
    · have cl := (nlower (tc_mk S c) (nI p) x2).2 q1
      rw [decide_eq_false q1] at rl
      refine arm_read hC hF (.inr ⟨1, 0, by decide, ?_, ?_⟩)
      · have e5 : f_X10_has 0 (nI p) x2 1 (tc_mk S c) = some (.inl "java/lang/IndexOutOfBoundsException", tc_mk S c) := by simp (maxSteps := 3000000) (disch := omega) only [Option.bind_some, tc_bs, tq_let, tc_I1, tc_I2, tc_J1, tc_J2, tc_J3, tc_F1, tc_F2, tc_F3, tc_F4, tc_G1, tc_G2, tc_G3, tc_G4, tc_G5, tc_us, tc_un, s_one, s_holds, s_J13_bitCount, bz_bI, f_X10_has, hC.tq.f, i98, cn, cl, tb_r, tb_l, if_true, if_false]
        simp (maxSteps := 3000000) (disch := omega) only [Option.bind_some, tc_bs, tq_let, tc_I1, tc_I2, tc_J1, tc_J2, tc_J3, tc_F1, tc_F2, tc_F3, tc_F4, tc_G1, tc_G2, tc_G3, tc_G4, tc_G5, tc_us, tc_un, s_one, s_holds, s_J13_bitCount, bz_bI, f_V_has, hC.tq.f, e5, if_true]
      · simp (maxSteps := 3000000) (disch := omega) only [Option.bind_some, tc_bs, tq_let, tc_I1, tc_I2, tc_J1, tc_J2, tc_J3, tc_F1, tc_F2, tc_F3, tc_F4, tc_G1, tc_G2, tc_G3, tc_G4, tc_G5, tc_us, tc_un, s_one, s_holds, s_J13_bitCount, bz_bI, f_X11_has, f_X11_refused, hC.mod.f, isp, b1, rl, b0, n10, n20, n30, z1, if_true, if_false]
  · rw [decide_eq_false qp] at isp
    have cn := (hC.npath x1).2 qp
    refine arm_read hC hF (.inr ⟨1, 0, by decide, ?_, ?_⟩)
    · have e5 : f_X10_has 0 x1 x2 1 (tc_mk S c) = some (.inl "java/lang/IndexOutOfBoundsException", tc_mk S c) := by simp (maxSteps := 3000000) (disch := omega) only [Option.bind_some, tc_bs, tq_let, tc_I1, tc_I2, tc_J1, tc_J2, tc_J3, tc_F1, tc_F2, tc_F3, tc_F4, tc_G1, tc_G2, tc_G3, tc_G4, tc_G5, tc_us, tc_un, s_one, s_holds, s_J13_bitCount, bz_bI, f_X10_has, hC.tq.f, i98, cn, tb_r, tb_l, if_true, if_false]
      simp (maxSteps := 3000000) (disch := omega) only [Option.bind_some, tc_bs, tq_let, tc_I1, tc_I2, tc_J1, tc_J2, tc_J3, tc_F1, tc_F2, tc_F3, tc_F4, tc_G1, tc_G2, tc_G3, tc_G4, tc_G5, tc_us, tc_un, s_one, s_holds, s_J13_bitCount, bz_bI, f_V_has, hC.tq.f, e5, if_true]
    · simp (maxSteps := 3000000) (disch := omega) only [Option.bind_some, tc_bs, tq_let, tc_I1, tc_I2, tc_J1, tc_J2, tc_J3, tc_F1, tc_F2, tc_F3, tc_F4, tc_G1, tc_G2, tc_G3, tc_G4, tc_G5, tc_us, tc_un, s_one, s_holds, s_J13_bitCount, bz_bI, f_X11_has, f_X11_refused, hC.mod.f, isp, b0, n10, n20, n30, z1, if_true, if_false]
theorem arm_has (h : InvE di h0) (e1 : tq_sx n xs (y4 + 1) = some x1) (e2 : tq_sx n xs (y4 + 2) = some x2) (e3 : tq_sx n xs (y4 + 3) = some x3) : ∃ h', f_V_law_c1649 n xs 0 155 205 y4 h0 = some (.inl (y4 + 5, h')) ∧ InvE di h' := by
  obtain ⟨S, c, D, m, U, P, H, Z, X, nw, ed, nv, vt, mv, Dv, rfl, hC, hF⟩ := h
  by_cases q : x3 = 0
  · have e0 : f_V_law_c1649 n xs 0 155 205 y4 (tc_mk S c) = armI (f_V_has 0 x1 x2 0 205 (tc_mk S c)) (f_X11_has 155 x1 x2 0) y4 := by
      unfold f_V_law_c1649; rw [e1, e2, e3, q]; rfl
    rw [e0]; exact has_3 hC hF
  · have e0 : f_V_law_c1649 n xs 0 155 205 y4 (tc_mk S c) = armI (f_V_has 0 x1 x2 1 205 (tc_mk S c)) (f_X11_has 155 x1 x2 1) y4 := by
      unfold f_V_law_c1649; rw [e1, e2, e3]
      simp only [Option.bind_some, tq_let, if_neg q]; rfl
    rw [e0]; exact has_2 hC hF
theorem arm_worth (h : InvE di h0) (e1 : tq_sx n xs (y4 + 1) = some x1) (e2 : tq_sx n xs (y4 + 2) = some x2) (e3 : tq_sx n xs (y4 + 3) = some x3) (e4 : tq_sx n xs (y4 + 4) = some x4) : ∃ h', f_V_law_c1745 n xs 0 155 205 y4 h0 = some (.inl (y4 + 5, h')) ∧ InvE di h' := by
  classical
  obtain ⟨S, c, D, m, U, P, H, Z, X, nw, ed, nv, vt, mv, Dv, rfl, hC, hF⟩ := h
  have e0 : f_V_law_c1745 n xs 0 155 205 y4 (tc_mk S c) = armI (f_V_worth 0 x1 x2 x3 x4 205 (tc_mk S c)) (f_X11_worth 155 x1 x2 x3 x4) y4 := by
    unfold f_V_law_c1745; rw [e1, e2, e3, e4]; rfl
  rw [e0]
  have n10 : ¬ (1 : Int32) = 0 := by decide
  have n20 : ¬ (2 : Int32) = 0 := by decide
  have n30 : ¬ (3 : Int32) = 0 := by decide
  have z0 : tq_bz 0 = some 0 := rfl
  have z1 : tq_bz 1 = some 1 := rfl
  have b1 : ¬ bI true = 0 := by decide
  have b0 : bI false = 0 := rfl
  obtain ⟨pc, pr, hP⟩ := hC.gp
  have h20 := hP.1
  have isp := s_X11_isPath (S := S) hC.mod pr.1 hP x1
  have i98 : ∀ c, tq_is (tc_mk S c) 98 4 = some () := fun c => by have := hC.pth; simp (maxSteps := 3000000) (disch := omega) only [Option.bind_some, tc_bs, tq_let, tc_I1, tc_I2, tc_J1, tc_J2, tc_J3, tc_F1, tc_F2, tc_F3, tc_F4, tc_G1, tc_G2, tc_G3, tc_G4, tc_G5, tc_us, tc_un, s_one, s_holds, s_J13_bitCount, bz_bI, this.f]
  have rr : ∃ u, ((f_X11_in x3 0 2 (tc_mk S c) = some 0 ∧ u = 0) ∨ (f_X11_in x3 0 2 (tc_mk S c) = some 1 ∧ f_X11_in x4 0 999 (tc_mk S c) = some u)) ∧ ((u = 1 ∧ (0 ≤ x3 ∧ x3 ≤ 2) ∧ (0 ≤ x4 ∧ x4 ≤ 999)) ∨ (u = 0 ∧ ¬ ((0 ≤ x3 ∧ x3 ≤ 2) ∧ (0 ≤ x4 ∧ x4 ≤ 999)))) := by
    by_cases q3 : 0 ≤ x3 ∧ x3 ≤ 2
    · by_cases q4 : 0 ≤ x4 ∧ x4 ≤ 999
      · exact ⟨1, .inr ⟨in_ok q3.1 q3.2, in_ok q4.1 q4.2⟩, .inl ⟨rfl, q3, q4⟩⟩
      · exact ⟨0, .inr ⟨in_ok q3.1 q3.2, in_no q4⟩, .inr ⟨rfl, fun z => q4 z.2⟩⟩
    · exact ⟨0, .inl ⟨in_no q3, rfl⟩, .inr ⟨rfl, fun z => q3 z.1⟩⟩
  by_cases qp : 0 ≤ x1 ∧ x1 < nI P.n
  · rw [decide_eq_true qp] at isp
    have cn := (hC.npath x1).1 qp
    obtain ⟨p, hp31, rfl⟩ := nI_of (Int32.not_lt.mpr qp.1)
    have hp : p < P.n := (nI_ltI hp31 (by omega)).mp qp.2
    have rl : f_X11_in x2 0 (nI p - 1) (tc_mk S c) = some (bI (decide (0 ≤ x2 ∧ x2 < nI p))) := by
      rw [s_X11_in, show decide (0 ≤ x2 ∧ x2 ≤ nI p - 1) = decide (0 ≤ x2 ∧ x2 < nI p) from Bool.ext_iff (by rw [decide_eq_true_iff, decide_eq_true_iff]; exact low_iff (by omega) x2)]
    by_cases q1 : 0 ≤ x2 ∧ x2 < nI p
    · have cl := (nlower (tc_mk S c) (nI p) x2).1 q1
      rw [decide_eq_true q1] at rl
      by_cases q3 : 0 ≤ x3 ∧ x3 ≤ 2
      · have c3 := rng_ok (h := tc_mk S c) q3.1 q3.2
        have r3 := in_ok (h := tc_mk S c) q3.1 q3.2
        by_cases q4 : 0 ≤ x4 ∧ x4 ≤ 999
        · have c4 := rng_ok (h := tc_mk S c) q4.1 q4.2
          have r4 := in_ok (h := tc_mk S c) q4.1 q4.2
          have rt := hC.rtakes hp pr hC.gv (fun _ _ => rfl)
          by_cases q9 : ok4 c nw P p
          · have c9 := (hC.nostep hp).1 q9
            obtain ⟨o, ho31, rfl⟩ := nI_of (Int32.not_lt.mpr q1.1)
            have ho : o < p := (nI_ltI ho31 (by omega)).mp q1.2
            obtain ⟨u3, u31, rfl⟩ := x_nat (N := 2) (by decide) q3.1 q3.2
            obtain ⟨u4, u41, rfl⟩ := x_nat (N := 999) (by decide) q4.1 q4.2
            obtain ⟨c0, c1, g1, g2, g3, g4, g5, g6, g7⟩ := hC.condC (w := 4) (o := o) (mm := u3) (nn := u4) hp q9 (nI o) (nI u3) (nI u4) (fun _ => rfl) (fun _ => ⟨rfl, rfl⟩)
            have g2 : f_X4_addCondition 98 (nI p) 4 (nI o) (nI u3) (nI u4) (tc_mk S c0) = some (nI (P.cc (P.ls p) + 1), tc_mk S c1) := g2
            have e5 : f_X10_worth 0 (nI p) (nI o) (nI u3) (nI u4) (tc_mk S c) = some (.inr (nI (P.cc (P.ls p) + 1)), tc_mk S c1) := by
              simp (maxSteps := 3000000) (disch := omega) only [Option.bind_some, tc_bs, tq_let, tc_I1, tc_I2, tc_J1, tc_J2, tc_J3, tc_F1, tc_F2, tc_F3, tc_F4, tc_G1, tc_G2, tc_G3, tc_G4, tc_G5, tc_us, tc_un, s_one, s_holds, s_J13_bitCount, bz_bI, f_X10_worth, hC.tq.f, i98, cn, cl, c3, c4, c9, tb_r, g1, g2, n10, if_true, if_false]
            refine hC.accP (P' := P.addC p 4 o u3 u4) (q := p) (A := nI (P.cc (P.ls p) + 1)) hF (by omega) (Nat.le_refl _) (addC_wf hP hp q9.2.1 q9.2.2 (by decide) (fun _ => ho) (fun _ => ⟨by omega, by omega⟩)) (fun r hr => addC_agr hP hp q9.2.1 q9.2.2 (by omega) (by omega)) (hC.above q9.1.1 q9.1.2) g3 g4 g5 g6 g7 (by simp (maxSteps := 3000000) (disch := omega) only [Option.bind_some, tc_bs, tq_let, tc_I1, tc_I2, tc_J1, tc_J2, tc_J3, tc_F1, tc_F2, tc_F3, tc_F4, tc_G1, tc_G2, tc_G3, tc_G4, tc_G5, tc_us, tc_un, s_one, s_holds, s_J13_bitCount, bz_bI, f_V_worth, hC.tq.f, e5]; rfl) (fun k1 k2 k3 => ?_)
            have rt' := hC.rtakes hp k1 k2 k3
            have isp' := s_X11_isPath (S := S) hC.mod k1.1 hP (nI p)
            rw [decide_eq_true q9] at rt'
            rw [decide_eq_true qp] at isp'
            have k4 : PR (tc_F (ansC c1 (nI (P.cc (P.ls p) + 1)).toInt64) 155 0 0) P := by
              unfold PR at k1 ⊢
              rw [tc_F3, tc_us, tc_un _ _ (by decide)]; exact k1
            generalize ansC c1 (nI (P.cc (P.ls p) + 1)).toInt64 = d at *
            obtain ⟨c2, f1, f2, f3⟩ := s_X11_condition (w := 4) (o := o) (m := u3) (n := u4) hC.mod k4 hP hp q9.2.1 q9.2.2 (nI o) (nI u3) (nI u4) (fun _ => rfl) (fun _ => ⟨rfl, rfl⟩)
            have f1 : f_X11_condition 155 (nI p) 4 (nI o) (nI u3) (nI u4) (tc_mk S (tc_F d 155 0 0)) = some (nI (P.cc (P.ls p) + 1), tc_mk S c2) := f1
            refine ⟨c2, ?_, f2, f3⟩
            have rl' : f_X11_in (nI o) 0 (nI p - 1) (tc_mk S d) = some (bI true) := by
              rw [s_X11_in, decide_eq_true ((low_iff (by omega) (nI o)).mpr q1)]
            have r3' := in_ok (h := tc_mk S d) q3.1 q3.2
            have r4' := in_ok (h := tc_mk S d) q4.1 q4.2
            simp (maxSteps := 3000000) (disch := omega) only [Option.bind_some, tc_bs, tq_let, tc_I1, tc_I2, tc_J1, tc_J2, tc_J3, tc_F1, tc_F2, tc_F3, tc_F4, tc_G1, tc_G2, tc_G3, tc_G4, tc_G5, tc_us, tc_un, s_one, s_holds, s_J13_bitCount, bz_bI, f_X11_worth, f_X11_refused, hC.mod.f, isp', rl', r3', r4', rt', b1, n10, z0, f1, if_true, if_false]
          · have c9 := (hC.nostep hp).2 q9
            rw [decide_eq_false q9] at rt
            refine arm_read hC hF (.inr ⟨3, 0, by decide, ?_, ?_⟩)
            · have e5 : f_X10_worth 0 (nI p) x2 x3 x4 (tc_mk S c) = some (.inl "java/lang/IllegalStateException", tc_mk S c) := by simp (maxSteps := 3000000) (disch := omega) only [Option.bind_some, tc_bs, tq_let, tc_I1, tc_I2, tc_J1, tc_J2, tc_J3, tc_F1, tc_F2, tc_F3, tc_F4, tc_G1, tc_G2, tc_G3, tc_G4, tc_G5, tc_us, tc_un, s_one, s_holds, s_J13_bitCount, bz_bI, f_X10_worth, hC.tq.f, i98, cn, cl, c3, c4, c9, tb_r, tb_l, if_true, if_false]
              simp (maxSteps := 3000000) (disch := omega) only [Option.bind_some, tc_bs, tq_let, tc_I1, tc_I2, tc_J1, tc_J2, tc_J3, tc_F1, tc_F2, tc_F3, tc_F4, tc_G1, tc_G2, tc_G3, tc_G4, tc_G5, tc_us, tc_un, s_one, s_holds, s_J13_bitCount, bz_bI, f_V_worth, hC.tq.f, e5, nSI, nSA, if_true, if_false]
            · simp (maxSteps := 3000000) (disch := omega) only [Option.bind_some, tc_bs, tq_let, tc_I1, tc_I2, tc_J1, tc_J2, tc_J3, tc_F1, tc_F2, tc_F3, tc_F4, tc_G1, tc_G2, tc_G3, tc_G4, tc_G5, tc_us, tc_un, s_one, s_holds, s_J13_bitCount, bz_bI, f_X11_worth, f_X11_refused, hC.mod.f, isp, b1, rl, r3, r4, rt, b0, n10, n20, n30, z1, if_true, if_false]
        · have c4 := rng_no (h := tc_mk S c) q4
          have r4 := in_no (h := tc_mk S c) q4
          refine arm_read hC hF (.inr ⟨2, 0, by decide, ?_, ?_⟩)
          · have e5 : f_X10_worth 0 (nI p) x2 x3 x4 (tc_mk S c) = some (.inl "java/lang/IllegalArgumentException", tc_mk S c) := by simp (maxSteps := 3000000) (disch := omega) only [Option.bind_some, tc_bs, tq_let, tc_I1, tc_I2, tc_J1, tc_J2, tc_J3, tc_F1, tc_F2, tc_F3, tc_F4, tc_G1, tc_G2, tc_G3, tc_G4, tc_G5, tc_us, tc_un, s_one, s_holds, s_J13_bitCount, bz_bI, f_X10_worth, hC.tq.f, i98, cn, cl, c3, c4, tb_r, tb_l, if_true, if_false]
            simp (maxSteps := 3000000) (disch := omega) only [Option.bind_some, tc_bs, tq_let, tc_I1, tc_I2, tc_J1, tc_J2, tc_J3, tc_F1, tc_F2, tc_F3, tc_F4, tc_G1, tc_G2, tc_G3, tc_G4, tc_G5, tc_us, tc_un, s_one, s_holds, s_J13_bitCount, bz_bI, f_V_worth, hC.tq.f, e5, nAI, if_true, if_false]
          · simp (maxSteps := 3000000) (disch := omega) only [Option.bind_some, tc_bs, tq_let, tc_I1, tc_I2, tc_J1, tc_J2, tc_J3, tc_F1, tc_F2, tc_F3, tc_F4, tc_G1, tc_G2, tc_G3, tc_G4, tc_G5, tc_us, tc_un, s_one, s_holds, s_J13_bitCount, bz_bI, f_X11_worth, f_X11_refused, hC.mod.f, isp, b1, rl, r3, r4, n10, n20, n30, z1, if_true, if_false]
      · have c3 := rng_no (h := tc_mk S c) q3
        have r3 := in_no (h := tc_mk S c) q3
        refine arm_read hC hF (.inr ⟨2, 0, by decide, ?_, ?_⟩)
        · have e5 : f_X10_worth 0 (nI p) x2 x3 x4 (tc_mk S c) = some (.inl "java/lang/IllegalArgumentException", tc_mk S c) := by simp (maxSteps := 3000000) (disch := omega) only [Option.bind_some, tc_bs, tq_let, tc_I1, tc_I2, tc_J1, tc_J2, tc_J3, tc_F1, tc_F2, tc_F3, tc_F4, tc_G1, tc_G2, tc_G3, tc_G4, tc_G5, tc_us, tc_un, s_one, s_holds, s_J13_bitCount, bz_bI, f_X10_worth, hC.tq.f, i98, cn, cl, c3, tb_r, tb_l, if_true, if_false]
          simp (maxSteps := 3000000) (disch := omega) only [Option.bind_some, tc_bs, tq_let, tc_I1, tc_I2, tc_J1, tc_J2, tc_J3, tc_F1, tc_F2, tc_F3, tc_F4, tc_G1, tc_G2, tc_G3, tc_G4, tc_G5, tc_us, tc_un, s_one, s_holds, s_J13_bitCount, bz_bI, f_V_worth, hC.tq.f, e5, nAI, if_true, if_false]
        · simp (maxSteps := 3000000) (disch := omega) only [Option.bind_some, tc_bs, tq_let, tc_I1, tc_I2, tc_J1, tc_J2, tc_J3, tc_F1, tc_F2, tc_F3, tc_F4, tc_G1, tc_G2, tc_G3, tc_G4, tc_G5, tc_us, tc_un, s_one, s_holds, s_J13_bitCount, bz_bI, f_X11_worth, f_X11_refused, hC.mod.f, isp, b1, rl, r3, n10, n20, n30, z1, if_true, if_false]
    · have cl := (nlower (tc_mk S c) (nI p) x2).2 q1
      rw [decide_eq_false q1] at rl
      obtain ⟨u, ⟨ru, rfl⟩ | ⟨ru, ru2⟩, hu⟩ := rr
      · refine arm_read hC hF (.inr ⟨1, 0, by decide, ?_, ?_⟩)
        · have e5 : f_X10_worth 0 (nI p) x2 x3 x4 (tc_mk S c) = some (.inl "java/lang/IndexOutOfBoundsException", tc_mk S c) := by simp (maxSteps := 3000000) (disch := omega) only [Option.bind_some, tc_bs, tq_let, tc_I1, tc_I2, tc_J1, tc_J2, tc_J3, tc_F1, tc_F2, tc_F3, tc_F4, tc_G1, tc_G2, tc_G3, tc_G4, tc_G5, tc_us, tc_un, s_one, s_holds, s_J13_bitCount, bz_bI, f_X10_worth, hC.tq.f, i98, cn, cl, tb_r, tb_l, if_true, if_false]
          simp (maxSteps := 3000000) (disch := omega) only [Option.bind_some, tc_bs, tq_let, tc_I1, tc_I2, tc_J1, tc_J2, tc_J3, tc_F1, tc_F2, tc_F3, tc_F4, tc_G1, tc_G2, tc_G3, tc_G4, tc_G5, tc_us, tc_un, s_one, s_holds, s_J13_bitCount, bz_bI, f_V_worth, hC.tq.f, e5, if_true]
        · simp (maxSteps := 3000000) (disch := omega) only [Option.bind_some, tc_bs, tq_let, tc_I1, tc_I2, tc_J1, tc_J2, tc_J3, tc_F1, tc_F2, tc_F3, tc_F4, tc_G1, tc_G2, tc_G3, tc_G4, tc_G5, tc_us, tc_un, s_one, s_holds, s_J13_bitCount, bz_bI, f_X11_worth, f_X11_refused, hC.mod.f, isp, b1, rl, b0, ru, n10, n20, n30, z1, if_true, if_false]
      · rcases hu with ⟨rfl, _⟩ | ⟨rfl, _⟩
        · refine arm_read hC hF (.inr ⟨1, 0, by decide, ?_, ?_⟩)
          · have e5 : f_X10_worth 0 (nI p) x2 x3 x4 (tc_mk S c) = some (.inl "java/lang/IndexOutOfBoundsException", tc_mk S c) := by simp (maxSteps := 3000000) (disch := omega) only [Option.bind_some, tc_bs, tq_let, tc_I1, tc_I2, tc_J1, tc_J2, tc_J3, tc_F1, tc_F2, tc_F3, tc_F4, tc_G1, tc_G2, tc_G3, tc_G4, tc_G5, tc_us, tc_un, s_one, s_holds, s_J13_bitCount, bz_bI, f_X10_worth, hC.tq.f, i98, cn, cl, tb_r, tb_l, if_true, if_false]
            simp (maxSteps := 3000000) (disch := omega) only [Option.bind_some, tc_bs, tq_let, tc_I1, tc_I2, tc_J1, tc_J2, tc_J3, tc_F1, tc_F2, tc_F3, tc_F4, tc_G1, tc_G2, tc_G3, tc_G4, tc_G5, tc_us, tc_un, s_one, s_holds, s_J13_bitCount, bz_bI, f_V_worth, hC.tq.f, e5, if_true]
          · simp (maxSteps := 3000000) (disch := omega) only [Option.bind_some, tc_bs, tq_let, tc_I1, tc_I2, tc_J1, tc_J2, tc_J3, tc_F1, tc_F2, tc_F3, tc_F4, tc_G1, tc_G2, tc_G3, tc_G4, tc_G5, tc_us, tc_un, s_one, s_holds, s_J13_bitCount, bz_bI, f_X11_worth, f_X11_refused, hC.mod.f, isp, b1, rl, b0, ru, ru2, n10, n20, n30, z1, if_true, if_false]
        · refine arm_read hC hF (.inr ⟨1, 0, by decide, ?_, ?_⟩)
          · have e5 : f_X10_worth 0 (nI p) x2 x3 x4 (tc_mk S c) = some (.inl "java/lang/IndexOutOfBoundsException", tc_mk S c) := by simp (maxSteps := 3000000) (disch := omega) only [Option.bind_some, tc_bs, tq_let, tc_I1, tc_I2, tc_J1, tc_J2, tc_J3, tc_F1, tc_F2, tc_F3, tc_F4, tc_G1, tc_G2, tc_G3, tc_G4, tc_G5, tc_us, tc_un, s_one, s_holds, s_J13_bitCount, bz_bI, f_X10_worth, hC.tq.f, i98, cn, cl, tb_r, tb_l, if_true, if_false]
            simp (maxSteps := 3000000) (disch := omega) only [Option.bind_some, tc_bs, tq_let, tc_I1, tc_I2, tc_J1, tc_J2, tc_J3, tc_F1, tc_F2, tc_F3, tc_F4, tc_G1, tc_G2, tc_G3, tc_G4, tc_G5, tc_us, tc_un, s_one, s_holds, s_J13_bitCount, bz_bI, f_V_worth, hC.tq.f, e5, if_true]
          · simp (maxSteps := 3000000) (disch := omega) only [Option.bind_some, tc_bs, tq_let, tc_I1, tc_I2, tc_J1, tc_J2, tc_J3, tc_F1, tc_F2, tc_F3, tc_F4, tc_G1, tc_G2, tc_G3, tc_G4, tc_G5, tc_us, tc_un, s_one, s_holds, s_J13_bitCount, bz_bI, f_X11_worth, f_X11_refused, hC.mod.f, isp, b1, rl, b0, ru, ru2, n10, n20, n30, z1, if_true, if_false]
  · rw [decide_eq_false qp] at isp
    have cn := (hC.npath x1).2 qp
    obtain ⟨u, ⟨ru, rfl⟩ | ⟨ru, ru2⟩, hu⟩ := rr
    · refine arm_read hC hF (.inr ⟨1, 0, by decide, ?_, ?_⟩)
      · have e5 : f_X10_worth 0 x1 x2 x3 x4 (tc_mk S c) = some (.inl "java/lang/IndexOutOfBoundsException", tc_mk S c) := by simp (maxSteps := 3000000) (disch := omega) only [Option.bind_some, tc_bs, tq_let, tc_I1, tc_I2, tc_J1, tc_J2, tc_J3, tc_F1, tc_F2, tc_F3, tc_F4, tc_G1, tc_G2, tc_G3, tc_G4, tc_G5, tc_us, tc_un, s_one, s_holds, s_J13_bitCount, bz_bI, f_X10_worth, hC.tq.f, i98, cn, tb_r, tb_l, if_true, if_false]
        simp (maxSteps := 3000000) (disch := omega) only [Option.bind_some, tc_bs, tq_let, tc_I1, tc_I2, tc_J1, tc_J2, tc_J3, tc_F1, tc_F2, tc_F3, tc_F4, tc_G1, tc_G2, tc_G3, tc_G4, tc_G5, tc_us, tc_un, s_one, s_holds, s_J13_bitCount, bz_bI, f_V_worth, hC.tq.f, e5, if_true]
      · simp (maxSteps := 3000000) (disch := omega) only [Option.bind_some, tc_bs, tq_let, tc_I1, tc_I2, tc_J1, tc_J2, tc_J3, tc_F1, tc_F2, tc_F3, tc_F4, tc_G1, tc_G2, tc_G3, tc_G4, tc_G5, tc_us, tc_un, s_one, s_holds, s_J13_bitCount, bz_bI, f_X11_worth, f_X11_refused, hC.mod.f, isp, b0, ru, n10, n20, n30, z1, if_true, if_false]
    · rcases hu with ⟨rfl, _⟩ | ⟨rfl, _⟩
      · refine arm_read hC hF (.inr ⟨1, 0, by decide, ?_, ?_⟩)
        · have e5 : f_X10_worth 0 x1 x2 x3 x4 (tc_mk S c) = some (.inl "java/lang/IndexOutOfBoundsException", tc_mk S c) := by simp (maxSteps := 3000000) (disch := omega) only [Option.bind_some, tc_bs, tq_let, tc_I1, tc_I2, tc_J1, tc_J2, tc_J3, tc_F1, tc_F2, tc_F3, tc_F4, tc_G1, tc_G2, tc_G3, tc_G4, tc_G5, tc_us, tc_un, s_one, s_holds, s_J13_bitCount, bz_bI, f_X10_worth, hC.tq.f, i98, cn, tb_r, tb_l, if_true, if_false]
          simp (maxSteps := 3000000) (disch := omega) only [Option.bind_some, tc_bs, tq_let, tc_I1, tc_I2, tc_J1, tc_J2, tc_J3, tc_F1, tc_F2, tc_F3, tc_F4, tc_G1, tc_G2, tc_G3, tc_G4, tc_G5, tc_us, tc_un, s_one, s_holds, s_J13_bitCount, bz_bI, f_V_worth, hC.tq.f, e5, if_true]
        · simp (maxSteps := 3000000) (disch := omega) only [Option.bind_some, tc_bs, tq_let, tc_I1, tc_I2, tc_J1, tc_J2, tc_J3, tc_F1, tc_F2, tc_F3, tc_F4, tc_G1, tc_G2, tc_G3, tc_G4, tc_G5, tc_us, tc_un, s_one, s_holds, s_J13_bitCount, bz_bI, f_X11_worth, f_X11_refused, hC.mod.f, isp, b0, ru, ru2, n10, n20, n30, z1, if_true, if_false]
      · refine arm_read hC hF (.inr ⟨1, 0, by decide, ?_, ?_⟩)
        · have e5 : f_X10_worth 0 x1 x2 x3 x4 (tc_mk S c) = some (.inl "java/lang/IndexOutOfBoundsException", tc_mk S c) := by simp (maxSteps := 3000000) (disch := omega) only [Option.bind_some, tc_bs, tq_let, tc_I1, tc_I2, tc_J1, tc_J2, tc_J3, tc_F1, tc_F2, tc_F3, tc_F4, tc_G1, tc_G2, tc_G3, tc_G4, tc_G5, tc_us, tc_un, s_one, s_holds, s_J13_bitCount, bz_bI, f_X10_worth, hC.tq.f, i98, cn, tb_r, tb_l, if_true, if_false]
          simp (maxSteps := 3000000) (disch := omega) only [Option.bind_some, tc_bs, tq_let, tc_I1, tc_I2, tc_J1, tc_J2, tc_J3, tc_F1, tc_F2, tc_F3, tc_F4, tc_G1, tc_G2, tc_G3, tc_G4, tc_G5, tc_us, tc_un, s_one, s_holds, s_J13_bitCount, bz_bI, f_V_worth, hC.tq.f, e5, if_true]
        · simp (maxSteps := 3000000) (disch := omega) only [Option.bind_some, tc_bs, tq_let, tc_I1, tc_I2, tc_J1, tc_J2, tc_J3, tc_F1, tc_F2, tc_F3, tc_F4, tc_G1, tc_G2, tc_G3, tc_G4, tc_G5, tc_us, tc_un, s_one, s_holds, s_J13_bitCount, bz_bI, f_X11_worth, f_X11_refused, hC.mod.f, isp, b0, ru, ru2, n10, n20, n30, z1, if_true, if_false]
theorem arm_paths (h : InvE di h0) : ∃ h', f_V_law_c1837 n xs 0 155 205 y4 h0 = some (.inl (y4 + 5, h')) ∧ InvE di h' := by
  obtain ⟨S, c, D, m, U, P, H, Z, X, nw, ed, nv, vt, mv, Dv, rfl, hC, hF⟩ := h
  have e1 := hC.gp.1.1
  have e2 := hC.gp.2.1.1
  refine ⟨_, ?_, hC.fin hF 0⟩
  simp (maxSteps := 3000000) (disch := omega) only [Option.bind_some, tc_bs, tq_let, tc_I1, tc_I2, tc_J1, tc_J2, tc_J3, tc_F1, tc_F2, tc_F3, tc_F4, tc_G1, tc_G2, tc_G3, tc_G4, tc_G5, tc_us, tc_un, s_one, s_holds, s_J13_bitCount, bz_bI, f_V_law_c1837, f_X10_paths, f_X4_count, f_X11_paths, f_X11_fine, hC.tq.f, hC.pth.f, hC.mod.f, e1, e2, if_true]
theorem arm_path (h : InvE di h0) : ∃ h', f_V_law_c1377 n xs 0 155 205 y4 h0 = some (.inl (y4 + 5, h')) ∧ InvE di h' := by
  obtain ⟨S, c, D, m, U, P, H, Z, X, nw, ed, nv, vt, mv, Dv, rfl, hC, hF⟩ := h
  have e0 : f_V_law_c1377 n xs 0 155 205 y4 (tc_mk S c) = armI (f_V_path 0 205 (tc_mk S c)) (f_X11_path 155) y4 := by
    unfold f_V_law_c1377; rfl
  rw [e0]
  obtain ⟨pc, pr, hP⟩ := hC.gp
  have h20 := hP.1
  have n10 : ¬ (1 : Int32) = 0 := by decide
  have z0 : tq_bz 0 = some 0 := rfl
  have z1 : tq_bz 1 = some 1 := rfl
  have c1 := pc.1
  have r1 := pr.1
  by_cases q : P.n < 20
  · have c2 : nI P.n < 20 := nI_lt q (by decide)
    obtain ⟨c', g1, g2, g3⟩ := s_addPath (c := c) hC.pth pc
    have e5 : f_X10_path 0 (tc_mk S c) = some (.inr (nI P.n), tc_mk S c') := by
      simp (maxSteps := 3000000) (disch := omega) only [Option.bind_some, tc_bs, tq_let, tc_I1, tc_I2, tc_J1, tc_J2, tc_J3, tc_F1, tc_F2, tc_F3, tc_F4, tc_G1, tc_G2, tc_G3, tc_G4, tc_G5, tc_us, tc_un, s_one, s_holds, s_J13_bitCount, bz_bI, f_X10_path, f_X4_count, hC.tq.f, hC.pth.f, c1, c2, if_true, g1]
    refine hC.accP (P' := P.addP) (q := P.n) (A := nI P.n) hF (Nat.le_refl _) (Nat.le_succ _) (addP_wf hP q) (fun r hr => addP_agr hr) (fun k r hk hr e => hr) (g3.mono (fun a z => by omega) (fun _ z => z) (fun q k z => by omega) (fun _ _ z => z)) g2 (fun r hr e => by rw [g3.2.2.1 117 7 (by omega), e, Nat.min_eq_left hr]) (fun r hr e => by rw [g3.2.2.1 124 7 (by omega), e, Nat.min_eq_left hr]) (.inl ⟨hC.2.2.2.2.2.1.2.1, g3.2.2.1 0 18 (by omega)⟩) (by simp (maxSteps := 3000000) (disch := omega) only [Option.bind_some, tc_bs, tq_let, tc_I1, tc_I2, tc_J1, tc_J2, tc_J3, tc_F1, tc_F2, tc_F3, tc_F4, tc_G1, tc_G2, tc_G3, tc_G4, tc_G5, tc_us, tc_un, s_one, s_holds, s_J13_bitCount, bz_bI, f_V_path, hC.tq.f, e5]; rfl) (fun k1 k2 k3 => ?_)
    have r2 := k1.1
    generalize ansC c' (nI P.n).toInt64 = d at *
    have n20 : ¬ nI P.n = 20 := fun z => by have := (nI_eq (show P.n < 2 ^ 31 by omega) (show 20 < 2 ^ 31 by decide)).mp z; omega
    have e6 : nI (P.n + 1) - 1 = nI P.n := nI_pred _
    refine ⟨tc_F (tc_I (tc_F d 155 0 0) 175 (upd (d.1 175) P.n 0)) 155 24 (nI (P.n + 1)), ?_, k1.addP ?_ ?_ ?_ ?_ ?_, (Wr.I _ (by omega)).trans (Wr.F _ (by omega))⟩
    · simp (maxSteps := 3000000) (disch := omega) only [Option.bind_some, tc_bs, tq_let, tc_I1, tc_I2, tc_J1, tc_J2, tc_J3, tc_F1, tc_F2, tc_F3, tc_F4, tc_G1, tc_G2, tc_G3, tc_G4, tc_G5, tc_us, tc_un, s_one, s_holds, s_J13_bitCount, bz_bI, f_X11_path, f_X11_refused, hC.mod.f, r2, n20, z0, nI_1, e6, if_true, if_false]
    · simp (maxSteps := 3000000) (disch := omega) only [Option.bind_some, tc_bs, tq_let, tc_I1, tc_I2, tc_J1, tc_J2, tc_J3, tc_F1, tc_F2, tc_F3, tc_F4, tc_G1, tc_G2, tc_G3, tc_G4, tc_G5, tc_us, tc_un, s_one, s_holds, s_J13_bitCount, bz_bI, if_true]
    · simp (maxSteps := 3000000) (disch := omega) only [Option.bind_some, tc_bs, tq_let, tc_I1, tc_I2, tc_J1, tc_J2, tc_J3, tc_F1, tc_F2, tc_F3, tc_F4, tc_G1, tc_G2, tc_G3, tc_G4, tc_G5, tc_us, tc_un, s_one, s_holds, s_J13_bitCount, bz_bI, if_true]
    · simp (maxSteps := 3000000) (disch := omega) only [Option.bind_some, tc_bs, tq_let, tc_I1, tc_I2, tc_J1, tc_J2, tc_J3, tc_F1, tc_F2, tc_F3, tc_F4, tc_G1, tc_G2, tc_G3, tc_G4, tc_G5, tc_us, tc_un, s_one, s_holds, s_J13_bitCount, bz_bI, if_true]
    · simp (maxSteps := 3000000) (disch := omega) only [Option.bind_some, tc_bs, tq_let, tc_I1, tc_I2, tc_J1, tc_J2, tc_J3, tc_F1, tc_F2, tc_F3, tc_F4, tc_G1, tc_G2, tc_G3, tc_G4, tc_G5, tc_us, tc_un, s_one, s_holds, s_J13_bitCount, bz_bI, if_true]
    · simp (maxSteps := 3000000) (disch := omega) only [Option.bind_some, tc_bs, tq_let, tc_I1, tc_I2, tc_J1, tc_J2, tc_J3, tc_F1, tc_F2, tc_F3, tc_F4, tc_G1, tc_G2, tc_G3, tc_G4, tc_G5, tc_us, tc_un, s_one, s_holds, s_J13_bitCount, bz_bI, if_true]
  · have h20' : P.n = 20 := by omega
    have c2 : ¬ nI P.n < 20 := by rw [h20']; decide
    have n20 : nI P.n = 20 := by rw [h20']; rfl
    refine arm_read hC hF (.inr ⟨1, 0, by decide, ?_, ?_⟩)
    · have e5 : f_X10_path 0 (tc_mk S c) = some (.inl "java/lang/IllegalStateException", tc_mk S c) := by
        simp (maxSteps := 3000000) (disch := omega) only [Option.bind_some, tc_bs, tq_let, tc_I1, tc_I2, tc_J1, tc_J2, tc_J3, tc_F1, tc_F2, tc_F3, tc_F4, tc_G1, tc_G2, tc_G3, tc_G4, tc_G5, tc_us, tc_un, s_one, s_holds, s_J13_bitCount, bz_bI, f_X10_path, f_X4_count, hC.tq.f, hC.pth.f, c1, c2, if_false]
      simp (maxSteps := 3000000) (disch := omega) only [Option.bind_some, tc_bs, tq_let, tc_I1, tc_I2, tc_J1, tc_J2, tc_J3, tc_F1, tc_F2, tc_F3, tc_F4, tc_G1, tc_G2, tc_G3, tc_G4, tc_G5, tc_us, tc_un, s_one, s_holds, s_J13_bitCount, bz_bI, f_V_path, hC.tq.f, e5, if_true]
    · simp (maxSteps := 3000000) (disch := omega) only [Option.bind_some, tc_bs, tq_let, tc_I1, tc_I2, tc_J1, tc_J2, tc_J3, tc_F1, tc_F2, tc_F3, tc_F4, tc_G1, tc_G2, tc_G3, tc_G4, tc_G5, tc_us, tc_un, s_one, s_holds, s_J13_bitCount, bz_bI, f_X11_path, f_X11_refused, hC.mod.f, r1, n20, z1, n10, if_true, if_false]
abbrev rd3 (q k : Nat) : Prop := (q = 0 ∧ k = 17) ∨ (q = 155 ∧ (k = 32 ∨ k = 0))
theorem arm_reader (h : InvE di h0) (e1 : tq_sx n xs (y4 + 1) = some x1) : ∃ h', f_V_law_c1850 n xs 0 155 205 y4 h0 = some (.inl (y4 + 5, h')) ∧ InvE di h' := by
  obtain ⟨S, c, D, m, U, P, H, Z, X, nw, ed, nv, vt, mv, Dv, rfl, hC, hF⟩ := h
  obtain ⟨r1, r2, r3, rd, r4, r5⟩ := hC.2.2.2.2.2.1
  have key : ∀ (b : Bool), ∃ h', (f_X10_readAsReader 0 (bI b) (tc_mk S c) = some (bI rd, tc_mk S (tc_F c 0 17 (bI b))) ∧ f_X11_readAsReader 155 (bI b) (tc_mk S (tc_F c 0 17 (bI b))) = some (bI rd, h')) ∧ InvE di h' := fun b => by
    have zb : ∀ b, tq_bz (bI b) = some (bI b) := bz_bI
    have k : Wr uc2 uc2 rd3 u4 c (tc_F (tc_F (tc_F c 0 17 (bI b)) 155 0 0) 155 32 (bI b)) := ((Wr.F _ (by omega)).trans (Wr.F _ (by omega))).trans (Wr.F _ (by omega))
    obtain ⟨h0, h1, h2, h3, h4, h5, h6, h7, h8, h9, h10⟩ := id hC
    have g1 := h1.wr k (fun _ _ z => z) (fun _ _ z => z) (fun q k _ => by omega) (fun _ _ _ z => z)
    have g4 := h4.wr k (fun _ _ z => z) (fun q k _ => by omega)
    have g5 : GR (tc_F (tc_F (tc_F c 0 17 (bI b)) 155 0 0) 155 32 (bI b)) P H := by
      refine ⟨r1, r2, ?_, b, by simp (maxSteps := 3000000) (disch := omega) only [Option.bind_some, tc_bs, tq_let, tc_I1, tc_I2, tc_J1, tc_J2, tc_J3, tc_F1, tc_F2, tc_F3, tc_F4, tc_G1, tc_G2, tc_G3, tc_G4, tc_G5, tc_us, tc_un, s_one, s_holds, s_J13_bitCount, bz_bI, if_true], by simp (maxSteps := 3000000) (disch := omega) only [Option.bind_some, tc_bs, tq_let, tc_I1, tc_I2, tc_J1, tc_J2, tc_J3, tc_F1, tc_F2, tc_F3, tc_F4, tc_G1, tc_G2, tc_G3, tc_G4, tc_G5, tc_us, tc_un, s_one, s_holds, s_J13_bitCount, bz_bI, if_true]⟩
      obtain ⟨j, j1, j2, j3⟩ := r3
      exact ⟨j, j1, by simp (maxSteps := 3000000) (disch := omega) only [Option.bind_some, tc_bs, tq_let, tc_I1, tc_I2, tc_J1, tc_J2, tc_J3, tc_F1, tc_F2, tc_F3, tc_F4, tc_G1, tc_G2, tc_G3, tc_G4, tc_G5, tc_us, tc_un, s_one, s_holds, s_J13_bitCount, bz_bI, if_true]; exact j2, j3⟩
    refine ⟨_, ⟨?_, ?_⟩, S, _, D, m, U, P, H, Z, X, nw, ed, nv, vt, mv, Dv, rfl, ⟨h0, g1, h2.wr k (fun _ _ z => z) (fun q k _ => by omega), h3.wr k (fun _ _ z => z) (fun q k _ => by omega), g4, g5, h6.wr k (fun _ _ z => z) (fun q k _ => by omega), h7.wr k (fun _ _ z => z) (fun _ _ _ z => z), h8.wr k (fun _ _ z => z) (fun _ _ z => z) (fun q k _ => by omega), h9.wr h0 k (fun _ _ z => z) (fun _ _ z => z) (fun q k _ => by omega) (fun _ _ _ z => z), h10.wr h0 k (fun _ _ z => z) (fun q k _ => by omega)⟩, hF.wr g1.2.1 g4.1 k (fun _ _ z => z) (fun _ _ z => z) (fun q k _ => by omega) (fun _ _ _ z => z)⟩
    · simp (maxSteps := 3000000) (disch := omega) only [Option.bind_some, tc_bs, tq_let, tc_I1, tc_I2, tc_J1, tc_J2, tc_J3, tc_F1, tc_F2, tc_F3, tc_F4, tc_G1, tc_G2, tc_G3, tc_G4, tc_G5, tc_us, tc_un, s_one, s_holds, s_J13_bitCount, bz_bI, f_X10_readAsReader, hC.tq.f, r4, zb]
    · simp (maxSteps := 3000000) (disch := omega) only [Option.bind_some, tc_bs, tq_let, tc_I1, tc_I2, tc_J1, tc_J2, tc_J3, tc_F1, tc_F2, tc_F3, tc_F4, tc_G1, tc_G2, tc_G3, tc_G4, tc_G5, tc_us, tc_un, s_one, s_holds, s_J13_bitCount, bz_bI, f_X11_readAsReader, hC.mod.f, r5, zb]
  by_cases q : x1 = 0
  · obtain ⟨h', ⟨k1, k2⟩, k3⟩ := key false
    refine ⟨h', ?_, k3⟩
    have k1 : f_X10_readAsReader 0 0 (tc_mk S c) = some (bI rd, tc_mk S (tc_F c 0 17 (bI false))) := k1
    have k2 : f_X11_readAsReader 155 0 (tc_mk S (tc_F c 0 17 (bI false))) = some (bI rd, h') := k2
    simp (maxSteps := 3000000) (disch := omega) only [Option.bind_some, tc_bs, tq_let, tc_I1, tc_I2, tc_J1, tc_J2, tc_J3, tc_F1, tc_F2, tc_F3, tc_F4, tc_G1, tc_G2, tc_G3, tc_G4, tc_G5, tc_us, tc_un, s_one, s_holds, s_J13_bitCount, bz_bI, f_V_law_c1850, e1, q, hC.tq.f, hC.mod.f, k1, k2, if_true]
  · obtain ⟨h', ⟨k1, k2⟩, k3⟩ := key true
    refine ⟨h', ?_, k3⟩
    have k1 : f_X10_readAsReader 0 1 (tc_mk S c) = some (bI rd, tc_mk S (tc_F c 0 17 (bI true))) := k1
    have k2 : f_X11_readAsReader 155 1 (tc_mk S (tc_F c 0 17 (bI true))) = some (bI rd, h') := k2
    simp (maxSteps := 3000000) (disch := omega) only [Option.bind_some, tc_bs, tq_let, tc_I1, tc_I2, tc_J1, tc_J2, tc_J3, tc_F1, tc_F2, tc_F3, tc_F4, tc_G1, tc_G2, tc_G3, tc_G4, tc_G5, tc_us, tc_un, s_one, s_holds, s_J13_bitCount, bz_bI, f_V_law_c1850, e1, q, hC.tq.f, hC.mod.f, k1, k2, if_true, if_false]
end PTB
