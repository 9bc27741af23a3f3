/-! ===== a step comes to a path ===== -/
section PTS
variable {S : tq_H} {c c' c1 c2 : tc_C} {di : DI} {D : Doc} {m : Nat} {U : Ups} {P P' : Pat} {H : Nat → Bool} {Z : Sma} {X : Nat → Bool} {nw : Nat} {ed : Option Nat} {nv : Nat} {vt mv : Nat → Nat} {Dv : Nat → Doc} {p q r k z w o mm nn n a t s : Nat} {x x1 x2 x3 x4 y v y4 A : Int32} {xs : Nat → Int32} {h0 : tq_H}
theorem Cor.stepC (h : Cor S c di D m U P H Z X nw ed nv vt mv Dv) (hp : p < P.n) (hok : p + 1 = P.n ∧ vwB c nw p = false) (h5 : P.sc p < 5) (yI : Int32) (hy : a = 12 → yI = nI s) :
    ∃ c0 c1, f_X10_noteChangeOf 0 (nI p) (tc_mk S c) = some (tc_mk S c0) ∧ f_X4_addStep 98 (nI p) (nI a) (nI t) yI (tc_mk S c0) = some (nI (P.sc p + 1), tc_mk S c1) ∧ Wr p1c uc2 p3c u4 c c1 ∧ PC c1 98 (P.addS p a t s) ∧
    (∀ r, r ≤ P.n → c.2.2.1 117 7 = nI r → c1.2.2.1 117 7 = nI (min r p)) ∧ (∀ r, r ≤ P.n → c.2.2.1 124 7 = nI r → c1.2.2.1 124 7 = nI (min r p)) ∧ (((∀ q, H q = true → q < p) ∧ c1.2.2.1 0 18 = c.2.2.1 0 18) ∨ c1.2.2.1 0 18 = 1) := by
  obtain ⟨pc, pr, hP⟩ := h.gp
  obtain ⟨c0, n1, n2, n3, n4, n5, n6⟩ := h.note hp
  have pc0 : PC c0 98 P := by
    obtain ⟨g1, -⟩ := n2
    unfold PC at pc ⊢
    rw [n6 98 9 (.inr rfl), g1 (98 + 2) id, g1 (98 + 4) id, g1 (98 + 6) id, g1 (98 + 8) id, g1 (98 + 10) id, g1 (98 + 12) id, g1 (98 + 14) id, g1 (98 + 16) id, g1 (98 + 18) id]
    exact pc
  obtain ⟨c1, a1, a2, a3⟩ := s_addStep (a := a) (t := t) (y := s) h.pth pc0 hP hp h5 yI hy
  have f3 : ∀ q k, q ≠ 98 → c1.2.2.1 q k = c0.2.2.1 q k := fun q k hq => a3.2.2.1 q k (by omega)
  have k0 : Wr p1c uc2 p3c u4 c c0 := by
    obtain ⟨g1, g2, g3, g4, g5⟩ := n2
    refine ⟨fun a _ => g1 a id, g2, fun q k hqk => ?_, g4, g5⟩
    by_cases e : q = 155 ∨ q = 98
    · exact n6 q k e
    · exact g3 q k (by omega)
  refine ⟨c0, c1, n1, a1, k0.trans (a3.mono (fun a z => z) (fun _ z => z) (fun q k z => by omega) (fun _ _ z => z)), a2, fun r hr e => by rw [f3 _ _ (by decide)]; exact n3 r hr e, fun r hr e => by rw [f3 _ _ (by decide)]; exact n4 r hr e, ?_⟩
  rw [f3 _ _ (by decide)]
  rcases n5 with ⟨z1, z2⟩ | z
  · refine .inl ⟨fun q hq => ?_, z2⟩
    have := h.2.2.2.2.2.1.2.1 q hq
    have h1 := hok.1
    by_cases e : q = p
    · rw [e, z1] at hq; cases hq
    · omega
  · exact .inr z
theorem step_r (hC : Cor S c di D m U P H Z X nw ed nv vt mv Dv) (hF : GF c D P H) : ∃ h', armI (f_V_step 0 x1 12 x3 x4 205 (tc_mk S c)) (f_X11_step 155 x1 12 x3 x4) y4 = some (.inl (y4 + 5, h')) ∧ InvE di h' := by
  classical
  have n10 : ¬ (1 : Int32) = 0 := by decide
  have n20 : ¬ (2 : Int32) = 0 := by decide
  have n30 : ¬ (3 : Int32) = 0 := by decide
  have z0 : tq_bz 0 = some 0 := rfl
  have z1 : tq_bz 1 = some 1 := rfl
  have b1 : ¬ bI true = 0 := by decide
  have b0 : bI false = 0 := rfl
  obtain ⟨pc, pr, hP⟩ := hC.gp
  have h20 := hP.1
  have isp := s_X11_isPath (S := S) hC.mod pr.1 hP x1
  have i98 : ∀ c, tq_is (tc_mk S c) 98 4 = some () := fun c => by have := hC.pth; simp (maxSteps := 3000000) (disch := omega) only [Option.bind_some, tc_bs, tq_let, tc_I1, tc_I2, tc_J1, tc_J2, tc_J3, tc_F1, tc_F2, tc_F3, tc_F4, tc_G1, tc_G2, tc_G3, tc_G4, tc_G5, tc_us, tc_un, s_one, s_holds, s_J13_bitCount, bz_bI, this.f]
  have c2 := rng_ok (h := tc_mk S c) (show (0 : Int32) ≤ 12 by decide) (show (12 : Int32) ≤ 12 by decide)
  have r2 := in_ok (h := tc_mk S c) (show (0 : Int32) ≤ 12 by decide) (show (12 : Int32) ≤ 12 by decide)
  obtain ⟨u, ru⟩ : ∃ u, f_X11_in x3 0 13 (tc_mk S c) = some u ∧ (u = 0 ∨ u = 1) := by
    by_cases q3 : 0 ≤ x3 ∧ x3 ≤ 13
    · exact ⟨1, in_ok q3.1 q3.2, .inr rfl⟩
    · exact ⟨0, in_no q3, .inl rfl⟩
  by_cases qp : 0 ≤ x1 ∧ x1 < nI P.n
  · rw [decide_eq_true qp] at isp
    have cn := (hC.npath x1).1 qp
    obtain ⟨p, hp31, rfl⟩ := nI_of (Int32.not_lt.mpr qp.1)
    have hp : p < P.n := (nI_ltI hp31 (by omega)).mp qp.2
    have h5 := hP.2.1 p hp
    have so := s_X4_stepsOf (c := c) hC.pth pc hP hp
    have e175 : c.1 175 p = nI (P.sc p) := pr.2.1 p hp
    have ro := hC.ropen hp pr hP hC.gv (fun _ _ => rfl)
    have rl : f_X11_in x4 0 (nI p - 1) (tc_mk S c) = some (bI (decide (0 ≤ x4 ∧ x4 < nI p))) := by
      rw [s_X11_in, show decide (0 ≤ x4 ∧ x4 ≤ nI p - 1) = decide (0 ≤ x4 ∧ x4 < nI p) from Bool.ext_iff (by rw [decide_eq_true_iff, decide_eq_true_iff]; exact low_iff (by omega) x4)]
    by_cases q1 : 0 ≤ x4 ∧ x4 < nI p
    · have cl := (nlower (tc_mk S c) (nI p) x4).1 q1
      rw [decide_eq_true q1] at rl
      by_cases q3 : 0 ≤ x3 ∧ x3 ≤ 13
      · have c3 := rng_ok (h := tc_mk S c) q3.1 q3.2
        have r3 := in_ok (h := tc_mk S c) q3.1 q3.2
        by_cases q8 : p + 1 = P.n ∧ vwB c nw p = false
        · have c8 := (hC.nopen hp).1 q8
          rw [decide_eq_true q8] at ro
          by_cases q9 : P.sc p < 5
          · have c9 : nI (P.sc p) < 5 := nI_lt q9 (by decide)
            have r9 : ¬ nI (P.sc p) = 5 := fun z => by have := (nI_eq (show P.sc p < 2 ^ 31 by omega) (show 5 < 2 ^ 31 by decide)).mp z; omega
            obtain ⟨o, ho31, rfl⟩ := nI_of (Int32.not_lt.mpr q1.1)
            have ho : o < p := (nI_ltI ho31 (by omega)).mp q1.2
            obtain ⟨u3, u31, rfl⟩ := x_nat (N := 13) (by decide) q3.1 q3.2
            obtain ⟨c0, c1, g1, g2, g3, g4, g5, g6, g7⟩ := hC.stepC (a := 12) (t := u3) (s := o) hp q8 q9 (nI o) (fun _ => rfl)
            have g2 : f_X4_addStep 98 (nI p) 12 (nI u3) (nI o) (tc_mk S c0) = some (nI (P.sc p + 1), tc_mk S c1) := g2
            have e5 : f_X10_step 0 (nI p) 12 (nI u3) (nI o) (tc_mk S c) = some (.inr (nI (P.sc p + 1)), tc_mk S c1) := by
              simp (maxSteps := 3000000) (disch := omega) only [Option.bind_some, tc_bs, tq_let, tc_I1, tc_I2, tc_J1, tc_J2, tc_J3, tc_F1, tc_F2, tc_F3, tc_F4, tc_G1, tc_G2, tc_G3, tc_G4, tc_G5, tc_us, tc_un, s_one, s_holds, s_J13_bitCount, bz_bI, f_X10_step, hC.tq.f, i98, cn, cl, c2, c3, c8, so, c9, tb_r, g1, g2, if_true, if_false]
            refine hC.accP (P' := P.addS p 12 u3 o) (q := p) (A := nI (P.sc p + 1)) hF (by omega) (Nat.le_refl _) (addS_wf hP hp q9 (by decide) (by omega) (fun _ => ho)) (fun r hr => addS_agr hP hp q9 (by omega) (by omega)) (hC.above q8.1 q8.2) g3 g4 g5 g6 g7 (by simp (maxSteps := 3000000) (disch := omega) only [Option.bind_some, tc_bs, tq_let, tc_I1, tc_I2, tc_J1, tc_J2, tc_J3, tc_F1, tc_F2, tc_F3, tc_F4, tc_G1, tc_G2, tc_G3, tc_G4, tc_G5, tc_us, tc_un, s_one, s_holds, s_J13_bitCount, bz_bI, f_V_step, hC.tq.f, e5]; rfl) (fun k1 k2 k3 => ?_)
            have ro' := hC.ropen hp k1 hP k2 k3
            have isp' := s_X11_isPath (S := S) hC.mod k1.1 hP (nI p)
            rw [decide_eq_true q8] at ro'
            rw [decide_eq_true qp] at isp'
            have e175' := k1.2.1 p hp
            generalize ansC c1 (nI (P.sc p + 1)).toInt64 = d at *
            have rl' : f_X11_in (nI o) 0 (nI p - 1) (tc_mk S d) = some (bI true) := by
              rw [s_X11_in, decide_eq_true ((low_iff (by omega) (nI o)).mpr q1)]
            have r2' := in_ok (h := tc_mk S d) (show (0 : Int32) ≤ 12 by decide) (show (12 : Int32) ≤ 12 by decide)
            have r3' := in_ok (h := tc_mk S d) q3.1 q3.2
            have m1 : (5 : Int32) * nI p + nI (P.sc p) = nI (5 * p + P.sc p) := by rw [show (5 : Int32) * nI p = nI (5 * p) from nI_mul 5 p, nI_add]
            have m2 : (3 : Int32) * nI (5 * p + P.sc p) = nI (3 * (5 * p + P.sc p)) := nI_mul 3 _
            have m3 : nI (3 * (5 * p + P.sc p)) + 1 = nI (3 * (5 * p + P.sc p) + 1) := nI_add _ 1
            have m4 : nI (3 * (5 * p + P.sc p)) + 2 = nI (3 * (5 * p + P.sc p) + 2) := nI_add _ 2
            have m5 : nI (P.sc p) + 1 = nI (P.sc p + 1) := nI_1 _
            refine ⟨_, by simp (maxSteps := 3000000) (disch := omega) only [Option.bind_some, tc_bs, tq_let, tc_I1, tc_I2, tc_J1, tc_J2, tc_J3, tc_F1, tc_F2, tc_F3, tc_F4, tc_G1, tc_G2, tc_G3, tc_G4, tc_G5, tc_us, tc_un, s_one, s_holds, s_J13_bitCount, bz_bI, f_X11_step, f_X11_refused, hC.mod.f, isp', rl', r2', r3', e175', r9, ro', b1, n10, z0, m1, m2, m3, m4, m5, upd_s, if_true, if_false]; rfl, k1.addS (yI := (nI o)) hP hp q9 ?_ ?_ ?_ (fun _ => rfl) ?_ ?_, ?_⟩
            · simp (maxSteps := 3000000) (disch := omega) only [Option.bind_some, tc_bs, tq_let, tc_I1, tc_I2, tc_J1, tc_J2, tc_J3, tc_F1, tc_F2, tc_F3, tc_F4, tc_G1, tc_G2, tc_G3, tc_G4, tc_G5, tc_us, tc_un, s_one, s_holds, s_J13_bitCount, bz_bI, if_true]
            · simp (maxSteps := 3000000) (disch := omega) only [Option.bind_some, tc_bs, tq_let, tc_I1, tc_I2, tc_J1, tc_J2, tc_J3, tc_F1, tc_F2, tc_F3, tc_F4, tc_G1, tc_G2, tc_G3, tc_G4, tc_G5, tc_us, tc_un, s_one, s_holds, s_J13_bitCount, bz_bI, if_true]
            · simp (maxSteps := 3000000) (disch := omega) only [Option.bind_some, tc_bs, tq_let, tc_I1, tc_I2, tc_J1, tc_J2, tc_J3, tc_F1, tc_F2, tc_F3, tc_F4, tc_G1, tc_G2, tc_G3, tc_G4, tc_G5, tc_us, tc_un, s_one, s_holds, s_J13_bitCount, bz_bI, if_true]; rfl
            · simp (maxSteps := 3000000) (disch := omega) only [Option.bind_some, tc_bs, tq_let, tc_I1, tc_I2, tc_J1, tc_J2, tc_J3, tc_F1, tc_F2, tc_F3, tc_F4, tc_G1, tc_G2, tc_G3, tc_G4, tc_G5, tc_us, tc_un, s_one, s_holds, s_J13_bitCount, bz_bI, if_true]
            · simp (maxSteps := 3000000) (disch := omega) only [Option.bind_some, tc_bs, tq_let, tc_I1, tc_I2, tc_J1, tc_J2, tc_J3, tc_F1, tc_F2, tc_F3, tc_F4, tc_G1, tc_G2, tc_G3, tc_G4, tc_G5, tc_us, tc_un, s_one, s_holds, s_J13_bitCount, bz_bI, if_true]
            · exact ((((Wr.I _ (by omega)).trans (Wr.I _ (by omega))).trans (Wr.I _ (by omega))).trans (Wr.I _ (by omega))).trans (Wr.I _ (by omega))
          · have c9 : ¬ nI (P.sc p) < 5 := nI_nlt (show 5 ≤ P.sc p by omega) (by omega)
            have r9 : nI (P.sc p) = 5 := by rw [show P.sc p = 5 by omega]; rfl
            refine arm_read hC hF (.inr ⟨3, 0, by decide, ?_, ?_⟩)
            · have e5 : f_X10_step 0 (nI p) 12 x3 x4 (tc_mk S c) = some (.inl "java/lang/IllegalStateException", tc_mk S c) := by simp (maxSteps := 3000000) (disch := omega) only [Option.bind_some, tc_bs, tq_let, tc_I1, tc_I2, tc_J1, tc_J2, tc_J3, tc_F1, tc_F2, tc_F3, tc_F4, tc_G1, tc_G2, tc_G3, tc_G4, tc_G5, tc_us, tc_un, s_one, s_holds, s_J13_bitCount, bz_bI, f_X10_step, hC.tq.f, i98, cn, cl, c2, c3, c8, so, c9, tb_r, tb_l, if_true, if_false]
              simp (maxSteps := 3000000) (disch := omega) only [Option.bind_some, tc_bs, tq_let, tc_I1, tc_I2, tc_J1, tc_J2, tc_J3, tc_F1, tc_F2, tc_F3, tc_F4, tc_G1, tc_G2, tc_G3, tc_G4, tc_G5, tc_us, tc_un, s_one, s_holds, s_J13_bitCount, bz_bI, f_V_step, hC.tq.f, e5, nSI, nSA, if_true, if_false]
            · simp (maxSteps := 3000000) (disch := omega) only [Option.bind_some, tc_bs, tq_let, tc_I1, tc_I2, tc_J1, tc_J2, tc_J3, tc_F1, tc_F2, tc_F3, tc_F4, tc_G1, tc_G2, tc_G3, tc_G4, tc_G5, tc_us, tc_un, s_one, s_holds, s_J13_bitCount, bz_bI, f_X11_step, f_X11_refused, hC.mod.f, isp, b1, rl, r2, r3, e175, r9, n10, n20, n30, z1, if_true, if_false]
        · have c8 := (hC.nopen hp).2 q8
          rw [decide_eq_false q8] at ro
          by_cases q9 : P.sc p < 5
          · have r9 : ¬ nI (P.sc p) = 5 := fun z => by have := (nI_eq (show P.sc p < 2 ^ 31 by omega) (show 5 < 2 ^ 31 by decide)).mp z; omega
            refine arm_read hC hF (.inr ⟨3, 0, by decide, ?_, ?_⟩)
            · have e5 : f_X10_step 0 (nI p) 12 x3 x4 (tc_mk S c) = some (.inl "java/lang/IllegalStateException", tc_mk S c) := by simp (maxSteps := 3000000) (disch := omega) only [Option.bind_some, tc_bs, tq_let, tc_I1, tc_I2, tc_J1, tc_J2, tc_J3, tc_F1, tc_F2, tc_F3, tc_F4, tc_G1, tc_G2, tc_G3, tc_G4, tc_G5, tc_us, tc_un, s_one, s_holds, s_J13_bitCount, bz_bI, f_X10_step, hC.tq.f, i98, cn, cl, c2, c3, c8, tb_r, tb_l, if_true, if_false]
              simp (maxSteps := 3000000) (disch := omega) only [Option.bind_some, tc_bs, tq_let, tc_I1, tc_I2, tc_J1, tc_J2, tc_J3, tc_F1, tc_F2, tc_F3, tc_F4, tc_G1, tc_G2, tc_G3, tc_G4, tc_G5, tc_us, tc_un, s_one, s_holds, s_J13_bitCount, bz_bI, f_V_step, hC.tq.f, e5, nSI, nSA, if_true, if_false]
            · simp (maxSteps := 3000000) (disch := omega) only [Option.bind_some, tc_bs, tq_let, tc_I1, tc_I2, tc_J1, tc_J2, tc_J3, tc_F1, tc_F2, tc_F3, tc_F4, tc_G1, tc_G2, tc_G3, tc_G4, tc_G5, tc_us, tc_un, s_one, s_holds, s_J13_bitCount, bz_bI, f_X11_step, f_X11_refused, hC.mod.f, isp, b1, rl, r2, r3, e175, r9, ro, b0, n10, n20, n30, z1, if_true, if_false]
          · have r9 : nI (P.sc p) = 5 := by rw [show P.sc p = 5 by omega]; rfl
            refine arm_read hC hF (.inr ⟨3, 0, by decide, ?_, ?_⟩)
            · have e5 : f_X10_step 0 (nI p) 12 x3 x4 (tc_mk S c) = some (.inl "java/lang/IllegalStateException", tc_mk S c) := by simp (maxSteps := 3000000) (disch := omega) only [Option.bind_some, tc_bs, tq_let, tc_I1, tc_I2, tc_J1, tc_J2, tc_J3, tc_F1, tc_F2, tc_F3, tc_F4, tc_G1, tc_G2, tc_G3, tc_G4, tc_G5, tc_us, tc_un, s_one, s_holds, s_J13_bitCount, bz_bI, f_X10_step, hC.tq.f, i98, cn, cl, c2, c3, c8, tb_r, tb_l, if_true, if_false]
              simp (maxSteps := 3000000) (disch := omega) only [Option.bind_some, tc_bs, tq_let, tc_I1, tc_I2, tc_J1, tc_J2, tc_J3, tc_F1, tc_F2, tc_F3, tc_F4, tc_G1, tc_G2, tc_G3, tc_G4, tc_G5, tc_us, tc_un, s_one, s_holds, s_J13_bitCount, bz_bI, f_V_step, hC.tq.f, e5, nSI, nSA, if_true, if_false]
            · simp (maxSteps := 3000000) (disch := omega) only [Option.bind_some, tc_bs, tq_let, tc_I1, tc_I2, tc_J1, tc_J2, tc_J3, tc_F1, tc_F2, tc_F3, tc_F4, tc_G1, tc_G2, tc_G3, tc_G4, tc_G5, tc_us, tc_un, s_one, s_holds, s_J13_bitCount, bz_bI, f_X11_step, f_X11_refused, hC.mod.f, isp, b1, rl, r2, r3, e175, r9, n10, n20, n30, z1, if_true, if_false]
      · have c3 := rng_no (h := tc_mk S c) q3
        have r3 := in_no (h := tc_mk S c) q3
        refine arm_read hC hF (.inr ⟨2, 0, by decide, ?_, ?_⟩)
        · have e5 : f_X10_step 0 (nI p) 12 x3 x4 (tc_mk S c) = some (.inl "java/lang/IllegalArgumentException", tc_mk S c) := by simp (maxSteps := 3000000) (disch := omega) only [Option.bind_some, tc_bs, tq_let, tc_I1, tc_I2, tc_J1, tc_J2, tc_J3, tc_F1, tc_F2, tc_F3, tc_F4, tc_G1, tc_G2, tc_G3, tc_G4, tc_G5, tc_us, tc_un, s_one, s_holds, s_J13_bitCount, bz_bI, f_X10_step, hC.tq.f, i98, cn, cl, c2, c3, tb_r, tb_l, if_true, if_false]
          simp (maxSteps := 3000000) (disch := omega) only [Option.bind_some, tc_bs, tq_let, tc_I1, tc_I2, tc_J1, tc_J2, tc_J3, tc_F1, tc_F2, tc_F3, tc_F4, tc_G1, tc_G2, tc_G3, tc_G4, tc_G5, tc_us, tc_un, s_one, s_holds, s_J13_bitCount, bz_bI, f_V_step, hC.tq.f, e5, nAI, if_true, if_false]
        · simp (maxSteps := 3000000) (disch := omega) only [Option.bind_some, tc_bs, tq_let, tc_I1, tc_I2, tc_J1, tc_J2, tc_J3, tc_F1, tc_F2, tc_F3, tc_F4, tc_G1, tc_G2, tc_G3, tc_G4, tc_G5, tc_us, tc_un, s_one, s_holds, s_J13_bitCount, bz_bI, f_X11_step, f_X11_refused, hC.mod.f, isp, b1, rl, r2, r3, n10, n20, n30, z1, if_true, if_false]
    · have cl := (nlower (tc_mk S c) (nI p) x4).2 q1
      rw [decide_eq_false q1] at rl
      obtain ⟨ru, rfl | rfl⟩ := ru
      · refine arm_read hC hF (.inr ⟨1, 0, by decide, ?_, ?_⟩)
        · have e5 : f_X10_step 0 (nI p) 12 x3 x4 (tc_mk S c) = some (.inl "java/lang/IndexOutOfBoundsException", tc_mk S c) := by simp (maxSteps := 3000000) (disch := omega) only [Option.bind_some, tc_bs, tq_let, tc_I1, tc_I2, tc_J1, tc_J2, tc_J3, tc_F1, tc_F2, tc_F3, tc_F4, tc_G1, tc_G2, tc_G3, tc_G4, tc_G5, tc_us, tc_un, s_one, s_holds, s_J13_bitCount, bz_bI, f_X10_step, hC.tq.f, i98, cn, cl, tb_r, tb_l, if_true, if_false]
          simp (maxSteps := 3000000) (disch := omega) only [Option.bind_some, tc_bs, tq_let, tc_I1, tc_I2, tc_J1, tc_J2, tc_J3, tc_F1, tc_F2, tc_F3, tc_F4, tc_G1, tc_G2, tc_G3, tc_G4, tc_G5, tc_us, tc_un, s_one, s_holds, s_J13_bitCount, bz_bI, f_V_step, hC.tq.f, e5, if_true]
        · simp (maxSteps := 3000000) (disch := omega) only [Option.bind_some, tc_bs, tq_let, tc_I1, tc_I2, tc_J1, tc_J2, tc_J3, tc_F1, tc_F2, tc_F3, tc_F4, tc_G1, tc_G2, tc_G3, tc_G4, tc_G5, tc_us, tc_un, s_one, s_holds, s_J13_bitCount, bz_bI, f_X11_step, f_X11_refused, hC.mod.f, isp, b1, rl, b0, r2, ru, n10, n20, n30, z1, if_true, if_false]
      · refine arm_read hC hF (.inr ⟨1, 0, by decide, ?_, ?_⟩)
        · have e5 : f_X10_step 0 (nI p) 12 x3 x4 (tc_mk S c) = some (.inl "java/lang/IndexOutOfBoundsException", tc_mk S c) := by simp (maxSteps := 3000000) (disch := omega) only [Option.bind_some, tc_bs, tq_let, tc_I1, tc_I2, tc_J1, tc_J2, tc_J3, tc_F1, tc_F2, tc_F3, tc_F4, tc_G1, tc_G2, tc_G3, tc_G4, tc_G5, tc_us, tc_un, s_one, s_holds, s_J13_bitCount, bz_bI, f_X10_step, hC.tq.f, i98, cn, cl, tb_r, tb_l, if_true, if_false]
          simp (maxSteps := 3000000) (disch := omega) only [Option.bind_some, tc_bs, tq_let, tc_I1, tc_I2, tc_J1, tc_J2, tc_J3, tc_F1, tc_F2, tc_F3, tc_F4, tc_G1, tc_G2, tc_G3, tc_G4, tc_G5, tc_us, tc_un, s_one, s_holds, s_J13_bitCount, bz_bI, f_V_step, hC.tq.f, e5, if_true]
        · simp (maxSteps := 3000000) (disch := omega) only [Option.bind_some, tc_bs, tq_let, tc_I1, tc_I2, tc_J1, tc_J2, tc_J3, tc_F1, tc_F2, tc_F3, tc_F4, tc_G1, tc_G2, tc_G3, tc_G4, tc_G5, tc_us, tc_un, s_one, s_holds, s_J13_bitCount, bz_bI, f_X11_step, f_X11_refused, hC.mod.f, isp, b1, rl, b0, r2, ru, n10, n20, n30, z1, if_true, if_false]
  · rw [decide_eq_false qp] at isp
    have cn := (hC.npath x1).2 qp
    obtain ⟨ru, rfl | rfl⟩ := ru
    · refine arm_read hC hF (.inr ⟨1, 0, by decide, ?_, ?_⟩)
      · have e5 : f_X10_step 0 x1 12 x3 x4 (tc_mk S c) = some (.inl "java/lang/IndexOutOfBoundsException", tc_mk S c) := by simp (maxSteps := 3000000) (disch := omega) only [Option.bind_some, tc_bs, tq_let, tc_I1, tc_I2, tc_J1, tc_J2, tc_J3, tc_F1, tc_F2, tc_F3, tc_F4, tc_G1, tc_G2, tc_G3, tc_G4, tc_G5, tc_us, tc_un, s_one, s_holds, s_J13_bitCount, bz_bI, f_X10_step, hC.tq.f, i98, cn, tb_r, tb_l, if_true, if_false]
        simp (maxSteps := 3000000) (disch := omega) only [Option.bind_some, tc_bs, tq_let, tc_I1, tc_I2, tc_J1, tc_J2, tc_J3, tc_F1, tc_F2, tc_F3, tc_F4, tc_G1, tc_G2, tc_G3, tc_G4, tc_G5, tc_us, tc_un, s_one, s_holds, s_J13_bitCount, bz_bI, f_V_step, hC.tq.f, e5, if_true]
      · simp (maxSteps := 3000000) (disch := omega) only [Option.bind_some, tc_bs, tq_let, tc_I1, tc_I2, tc_J1, tc_J2, tc_J3, tc_F1, tc_F2, tc_F3, tc_F4, tc_G1, tc_G2, tc_G3, tc_G4, tc_G5, tc_us, tc_un, s_one, s_holds, s_J13_bitCount, bz_bI, f_X11_step, f_X11_refused, hC.mod.f, isp, b0, r2, ru, n10, n20, n30, z1, if_true, if_false]
    · refine arm_read hC hF (.inr ⟨1, 0, by decide, ?_, ?_⟩)
      · have e5 : f_X10_step 0 x1 12 x3 x4 (tc_mk S c) = some (.inl "java/lang/IndexOutOfBoundsException", tc_mk S c) := by simp (maxSteps := 3000000) (disch := omega) only [Option.bind_some, tc_bs, tq_let, tc_I1, tc_I2, tc_J1, tc_J2, tc_J3, tc_F1, tc_F2, tc_F3, tc_F4, tc_G1, tc_G2, tc_G3, tc_G4, tc_G5, tc_us, tc_un, s_one, s_holds, s_J13_bitCount, bz_bI, f_X10_step, hC.tq.f, i98, cn, tb_r, tb_l, if_true, if_false]
        simp (maxSteps := 3000000) (disch := omega) only [Option.bind_some, tc_bs, tq_let, tc_I1, tc_I2, tc_J1, tc_J2, tc_J3, tc_F1, tc_F2, tc_F3, tc_F4, tc_G1, tc_G2, tc_G3, tc_G4, tc_G5, tc_us, tc_un, s_one, s_holds, s_J13_bitCount, bz_bI, f_V_step, hC.tq.f, e5, if_true]
      · simp (maxSteps := 3000000) (disch := omega) only [Option.bind_some, tc_bs, tq_let, tc_I1, tc_I2, tc_J1, tc_J2, tc_J3, tc_F1, tc_F2, tc_F3, tc_F4, tc_G1, tc_G2, tc_G3, tc_G4, tc_G5, tc_us, tc_un, s_one, s_holds, s_J13_bitCount, bz_bI, f_X11_step, f_X11_refused, hC.mod.f, isp, b0, r2, ru, n10, n20, n30, z1, if_true, if_false]
theorem step_n (hC : Cor S c di D m U P H Z X nw ed nv vt mv Dv) (hF : GF c D P H) (q12 : ¬ x2 = 12) : ∃ h', armI (f_V_step 0 x1 x2 x3 x4 205 (tc_mk S c)) (f_X11_step 155 x1 x2 x3 x4) y4 = some (.inl (y4 + 5, h')) ∧ InvE di h' := by
  classical
  have n10 : ¬ (1 : Int32) = 0 := by decide
  have n20 : ¬ (2 : Int32) = 0 := by decide
  have n30 : ¬ (3 : Int32) = 0 := by decide
  have z0 : tq_bz 0 = some 0 := rfl
  have z1 : tq_bz 1 = some 1 := rfl
  have b1 : ¬ bI true = 0 := by decide
  have b0 : bI false = 0 := rfl
  obtain ⟨pc, pr, hP⟩ := hC.gp
  have h20 := hP.1
  have isp := s_X11_isPath (S := S) hC.mod pr.1 hP x1
  have i98 : ∀ c, tq_is (tc_mk S c) 98 4 = some () := fun c => by have := hC.pth; simp (maxSteps := 3000000) (disch := omega) only [Option.bind_some, tc_bs, tq_let, tc_I1, tc_I2, tc_J1, tc_J2, tc_J3, tc_F1, tc_F2, tc_F3, tc_F4, tc_G1, tc_G2, tc_G3, tc_G4, tc_G5, tc_us, tc_un, s_one, s_holds, s_J13_bitCount, bz_bI, this.f]
  by_cases qp : 0 ≤ x1 ∧ x1 < nI P.n
  · rw [decide_eq_true qp] at isp
    have cn := (hC.npath x1).1 qp
    obtain ⟨p, hp31, rfl⟩ := nI_of (Int32.not_lt.mpr qp.1)
    have hp : p < P.n := (nI_ltI hp31 (by omega)).mp qp.2
    have h5 := hP.2.1 p hp
    have so := s_X4_stepsOf (c := c) hC.pth pc hP hp
    have e175 : c.1 175 p = nI (P.sc p) := pr.2.1 p hp
    have ro := hC.ropen hp pr hP hC.gv (fun _ _ => rfl)
    by_cases q2 : 0 ≤ x2 ∧ x2 ≤ 12
    · have c2 := rng_ok (h := tc_mk S c) q2.1 q2.2
      have r2 := in_ok (h := tc_mk S c) q2.1 q2.2
      by_cases q3 : 0 ≤ x3 ∧ x3 ≤ 13
      · have c3 := rng_ok (h := tc_mk S c) q3.1 q3.2
        have r3 := in_ok (h := tc_mk S c) q3.1 q3.2
        by_cases q4 : x4 = -1
        · subst q4
          by_cases q8 : p + 1 = P.n ∧ vwB c nw p = false
          · have c8 := (hC.nopen hp).1 q8
            rw [decide_eq_true q8] at ro
            by_cases q9 : P.sc p < 5
            · have c9 : nI (P.sc p) < 5 := nI_lt q9 (by decide)
              have r9 : ¬ nI (P.sc p) = 5 := fun z => by have := (nI_eq (show P.sc p < 2 ^ 31 by omega) (show 5 < 2 ^ 31 by decide)).mp z; omega
              obtain ⟨u2, u21, rfl⟩ := x_nat (N := 12) (by decide) q2.1 q2.2
              have hu2 : u2 ≠ 12 := fun z => q12 (by rw [z]; rfl)
              obtain ⟨u3, u31, rfl⟩ := x_nat (N := 13) (by decide) q3.1 q3.2
              obtain ⟨c0, c1, g1, g2, g3, g4, g5, g6, g7⟩ := hC.stepC (a := u2) (t := u3) (s := 0) hp q8 q9 (-1) (fun z => absurd z hu2)
              have g2 : f_X4_addStep 98 (nI p) (nI u2) (nI u3) (-1) (tc_mk S c0) = some (nI (P.sc p + 1), tc_mk S c1) := g2
              have e5 : f_X10_step 0 (nI p) (nI u2) (nI u3) (-1) (tc_mk S c) = some (.inr (nI (P.sc p + 1)), tc_mk S c1) := by
                simp (maxSteps := 3000000) (disch := omega) only [Option.bind_some, tc_bs, tq_let, tc_I1, tc_I2, tc_J1, tc_J2, tc_J3, tc_F1, tc_F2, tc_F3, tc_F4, tc_G1, tc_G2, tc_G3, tc_G4, tc_G5, tc_us, tc_un, s_one, s_holds, s_J13_bitCount, bz_bI, f_X10_step, hC.tq.f, i98, cn, q12, c2, c3, c8, so, c9, tb_r, g1, g2, if_true, if_false]
              refine hC.accP (P' := P.addS p u2 u3 0) (q := p) (A := nI (P.sc p + 1)) hF (by omega) (Nat.le_refl _) (addS_wf hP hp q9 (by omega) (by omega) (fun z => absurd z hu2)) (fun r hr => addS_agr hP hp q9 (by omega) (by omega)) (hC.above q8.1 q8.2) g3 g4 g5 g6 g7 (by simp (maxSteps := 3000000) (disch := omega) only [Option.bind_some, tc_bs, tq_let, tc_I1, tc_I2, tc_J1, tc_J2, tc_J3, tc_F1, tc_F2, tc_F3, tc_F4, tc_G1, tc_G2, tc_G3, tc_G4, tc_G5, tc_us, tc_un, s_one, s_holds, s_J13_bitCount, bz_bI, f_V_step, hC.tq.f, e5]; rfl) (fun k1 k2 k3 => ?_)
              have ro' := hC.ropen hp k1 hP k2 k3
              have isp' := s_X11_isPath (S := S) hC.mod k1.1 hP (nI p)
              rw [decide_eq_true q8] at ro'
              rw [decide_eq_true qp] at isp'
              have e175' := k1.2.1 p hp
              generalize ansC c1 (nI (P.sc p + 1)).toInt64 = d at *
              have r2' := in_ok (h := tc_mk S d) q2.1 q2.2
              have r3' := in_ok (h := tc_mk S d) q3.1 q3.2
              have m1 : (5 : Int32) * nI p + nI (P.sc p) = nI (5 * p + P.sc p) := by rw [show (5 : Int32) * nI p = nI (5 * p) from nI_mul 5 p, nI_add]
              have m2 : (3 : Int32) * nI (5 * p + P.sc p) = nI (3 * (5 * p + P.sc p)) := nI_mul 3 _
              have m3 : nI (3 * (5 * p + P.sc p)) + 1 = nI (3 * (5 * p + P.sc p) + 1) := nI_add _ 1
              have m4 : nI (3 * (5 * p + P.sc p)) + 2 = nI (3 * (5 * p + P.sc p) + 2) := nI_add _ 2
              have m5 : nI (P.sc p) + 1 = nI (P.sc p + 1) := nI_1 _
              refine ⟨_, by simp (maxSteps := 3000000) (disch := omega) only [Option.bind_some, tc_bs, tq_let, tc_I1, tc_I2, tc_J1, tc_J2, tc_J3, tc_F1, tc_F2, tc_F3, tc_F4, tc_G1, tc_G2, tc_G3, tc_G4, tc_G5, tc_us, tc_un, s_one, s_holds, s_J13_bitCount, bz_bI, f_X11_step, f_X11_refused, hC.mod.f, isp', q12, r2', r3', e175', r9, ro', b1, n10, z0, m1, m2, m3, m4, m5, upd_s, if_true, if_false]; rfl, k1.addS (yI := (-1)) hP hp q9 ?_ ?_ ?_ (fun z => absurd z hu2) ?_ ?_, ?_⟩
              · simp (maxSteps := 3000000) (disch := omega) only [Option.bind_some, tc_bs, tq_let, tc_I1, tc_I2, tc_J1, tc_J2, tc_J3, tc_F1, tc_F2, tc_F3, tc_F4, tc_G1, tc_G2, tc_G3, tc_G4, tc_G5, tc_us, tc_un, s_one, s_holds, s_J13_bitCount, bz_bI, if_true]
              · simp (maxSteps := 3000000) (disch := omega) only [Option.bind_some, tc_bs, tq_let, tc_I1, tc_I2, tc_J1, tc_J2, tc_J3, tc_F1, tc_F2, tc_F3, tc_F4, tc_G1, tc_G2, tc_G3, tc_G4, tc_G5, tc_us, tc_un, s_one, s_holds, s_J13_bitCount, bz_bI, if_true]
              · simp (maxSteps := 3000000) (disch := omega) only [Option.bind_some, tc_bs, tq_let, tc_I1, tc_I2, tc_J1, tc_J2, tc_J3, tc_F1, tc_F2, tc_F3, tc_F4, tc_G1, tc_G2, tc_G3, tc_G4, tc_G5, tc_us, tc_un, s_one, s_holds, s_J13_bitCount, bz_bI, if_true]
              · simp (maxSteps := 3000000) (disch := omega) only [Option.bind_some, tc_bs, tq_let, tc_I1, tc_I2, tc_J1, tc_J2, tc_J3, tc_F1, tc_F2, tc_F3, tc_F4, tc_G1, tc_G2, tc_G3, tc_G4, tc_G5, tc_us, tc_un, s_one, s_holds, s_J13_bitCount, bz_bI, if_true]
              · simp (maxSteps := 3000000) (disch := omega) only [Option.bind_some, tc_bs, tq_let, tc_I1, tc_I2, tc_J1, tc_J2, tc_J3, tc_F1, tc_F2, tc_F3, tc_F4, tc_G1, tc_G2, tc_G3, tc_G4, tc_G5, tc_us, tc_un, s_one, s_holds, s_J13_bitCount, bz_bI, if_true]
              · exact ((((Wr.I _ (by omega)).trans (Wr.I _ (by omega))).trans (Wr.I _ (by omega))).trans (Wr.I _ (by omega))).trans (Wr.I _ (by omega))
            · have c9 : ¬ nI (P.sc p) < 5 := nI_nlt (show 5 ≤ P.sc p by omega) (by omega)
              have r9 : nI (P.sc p) = 5 := by rw [show P.sc p = 5 by omega]; rfl
              refine arm_read hC hF (.inr ⟨3, 0, by decide, ?_, ?_⟩)
              · have e5 : f_X10_step 0 (nI p) x2 x3 (-1) (tc_mk S c) = some (.inl "java/lang/IllegalStateException", tc_mk S c) := by simp (maxSteps := 3000000) (disch := omega) only [Option.bind_some, tc_bs, tq_let, tc_I1, tc_I2, tc_J1, tc_J2, tc_J3, tc_F1, tc_F2, tc_F3, tc_F4, tc_G1, tc_G2, tc_G3, tc_G4, tc_G5, tc_us, tc_un, s_one, s_holds, s_J13_bitCount, bz_bI, f_X10_step, hC.tq.f, i98, cn, q12, c2, c3, c8, so, c9, tb_r, tb_l, if_true, if_false]
                simp (maxSteps := 3000000) (disch := omega) only [Option.bind_some, tc_bs, tq_let, tc_I1, tc_I2, tc_J1, tc_J2, tc_J3, tc_F1, tc_F2, tc_F3, tc_F4, tc_G1, tc_G2, tc_G3, tc_G4, tc_G5, tc_us, tc_un, s_one, s_holds, s_J13_bitCount, bz_bI, f_V_step, hC.tq.f, e5, nSI, nSA, if_true, if_false]
              · simp (maxSteps := 3000000) (disch := omega) only [Option.bind_some, tc_bs, tq_let, tc_I1, tc_I2, tc_J1, tc_J2, tc_J3, tc_F1, tc_F2, tc_F3, tc_F4, tc_G1, tc_G2, tc_G3, tc_G4, tc_G5, tc_us, tc_un, s_one, s_holds, s_J13_bitCount, bz_bI, f_X11_step, f_X11_refused, hC.mod.f, isp, b1, q12, r2, r3, e175, r9, n10, n20, n30, z1, if_true, if_false]
          · have c8 := (hC.nopen hp).2 q8
            rw [decide_eq_false q8] at ro
            by_cases q9 : P.sc p < 5
            · have r9 : ¬ nI (P.sc p) = 5 := fun z => by have := (nI_eq (show P.sc p < 2 ^ 31 by omega) (show 5 < 2 ^ 31 by decide)).mp z; omega
              refine arm_read hC hF (.inr ⟨3, 0, by decide, ?_, ?_⟩)
              · have e5 : f_X10_step 0 (nI p) x2 x3 (-1) (tc_mk S c) = some (.inl "java/lang/IllegalStateException", tc_mk S c) := by simp (maxSteps := 3000000) (disch := omega) only [Option.bind_some, tc_bs, tq_let, tc_I1, tc_I2, tc_J1, tc_J2, tc_J3, tc_F1, tc_F2, tc_F3, tc_F4, tc_G1, tc_G2, tc_G3, tc_G4, tc_G5, tc_us, tc_un, s_one, s_holds, s_J13_bitCount, bz_bI, f_X10_step, hC.tq.f, i98, cn, q12, c2, c3, c8, tb_r, tb_l, if_true, if_false]
                simp (maxSteps := 3000000) (disch := omega) only [Option.bind_some, tc_bs, tq_let, tc_I1, tc_I2, tc_J1, tc_J2, tc_J3, tc_F1, tc_F2, tc_F3, tc_F4, tc_G1, tc_G2, tc_G3, tc_G4, tc_G5, tc_us, tc_un, s_one, s_holds, s_J13_bitCount, bz_bI, f_V_step, hC.tq.f, e5, nSI, nSA, if_true, if_false]
              · simp (maxSteps := 3000000) (disch := omega) only [Option.bind_some, tc_bs, tq_let, tc_I1, tc_I2, tc_J1, tc_J2, tc_J3, tc_F1, tc_F2, tc_F3, tc_F4, tc_G1, tc_G2, tc_G3, tc_G4, tc_G5, tc_us, tc_un, s_one, s_holds, s_J13_bitCount, bz_bI, f_X11_step, f_X11_refused, hC.mod.f, isp, b1, q12, r2, r3, e175, r9, ro, b0, n10, n20, n30, z1, if_true, if_false]
            · have r9 : nI (P.sc p) = 5 := by rw [show P.sc p = 5 by omega]; rfl
              refine arm_read hC hF (.inr ⟨3, 0, by decide, ?_, ?_⟩)
              · have e5 : f_X10_step 0 (nI p) x2 x3 (-1) (tc_mk S c) = some (.inl "java/lang/IllegalStateException", tc_mk S c) := by simp (maxSteps := 3000000) (disch := omega) only [Option.bind_some, tc_bs, tq_let, tc_I1, tc_I2, tc_J1, tc_J2, tc_J3, tc_F1, tc_F2, tc_F3, tc_F4, tc_G1, tc_G2, tc_G3, tc_G4, tc_G5, tc_us, tc_un, s_one, s_holds, s_J13_bitCount, bz_bI, f_X10_step, hC.tq.f, i98, cn, q12, c2, c3, c8, tb_r, tb_l, if_true, if_false]
                simp (maxSteps := 3000000) (disch := omega) only [Option.bind_some, tc_bs, tq_let, tc_I1, tc_I2, tc_J1, tc_J2, tc_J3, tc_F1, tc_F2, tc_F3, tc_F4, tc_G1, tc_G2, tc_G3, tc_G4, tc_G5, tc_us, tc_un, s_one, s_holds, s_J13_bitCount, bz_bI, f_V_step, hC.tq.f, e5, nSI, nSA, if_true, if_false]
              · simp (maxSteps := 3000000) (disch := omega) only [Option.bind_some, tc_bs, tq_let, tc_I1, tc_I2, tc_J1, tc_J2, tc_J3, tc_F1, tc_F2, tc_F3, tc_F4, tc_G1, tc_G2, tc_G3, tc_G4, tc_G5, tc_us, tc_un, s_one, s_holds, s_J13_bitCount, bz_bI, f_X11_step, f_X11_refused, hC.mod.f, isp, b1, q12, r2, r3, e175, r9, n10, n20, n30, z1, if_true, if_false]
        · refine arm_read hC hF (.inr ⟨2, 0, by decide, ?_, ?_⟩)
          · have e5 : f_X10_step 0 (nI p) x2 x3 x4 (tc_mk S c) = some (.inl "java/lang/IllegalArgumentException", tc_mk S c) := by simp (maxSteps := 3000000) (disch := omega) only [Option.bind_some, tc_bs, tq_let, tc_I1, tc_I2, tc_J1, tc_J2, tc_J3, tc_F1, tc_F2, tc_F3, tc_F4, tc_G1, tc_G2, tc_G3, tc_G4, tc_G5, tc_us, tc_un, s_one, s_holds, s_J13_bitCount, bz_bI, f_X10_step, hC.tq.f, i98, cn, q12, c2, c3, q4, tb_r, tb_l, if_true, if_false]
            simp (maxSteps := 3000000) (disch := omega) only [Option.bind_some, tc_bs, tq_let, tc_I1, tc_I2, tc_J1, tc_J2, tc_J3, tc_F1, tc_F2, tc_F3, tc_F4, tc_G1, tc_G2, tc_G3, tc_G4, tc_G5, tc_us, tc_un, s_one, s_holds, s_J13_bitCount, bz_bI, f_V_step, hC.tq.f, e5, nAI, if_true, if_false]
          · simp (maxSteps := 3000000) (disch := omega) only [Option.bind_some, tc_bs, tq_let, tc_I1, tc_I2, tc_J1, tc_J2, tc_J3, tc_F1, tc_F2, tc_F3, tc_F4, tc_G1, tc_G2, tc_G3, tc_G4, tc_G5, tc_us, tc_un, s_one, s_holds, s_J13_bitCount, bz_bI, f_X11_step, f_X11_refused, hC.mod.f, isp, b1, q12, r2, r3, q4, n10, n20, n30, z1, if_true, if_false]
      · have c3 := rng_no (h := tc_mk S c) q3
        have r3 := in_no (h := tc_mk S c) q3
        refine arm_read hC hF (.inr ⟨2, 0, by decide, ?_, ?_⟩)
        · have e5 : f_X10_step 0 (nI p) x2 x3 x4 (tc_mk S c) = some (.inl "java/lang/IllegalArgumentException", tc_mk S c) := by simp (maxSteps := 3000000) (disch := omega) only [Option.bind_some, tc_bs, tq_let, tc_I1, tc_I2, tc_J1, tc_J2, tc_J3, tc_F1, tc_F2, tc_F3, tc_F4, tc_G1, tc_G2, tc_G3, tc_G4, tc_G5, tc_us, tc_un, s_one, s_holds, s_J13_bitCount, bz_bI, f_X10_step, hC.tq.f, i98, cn, q12, c2, c3, tb_r, tb_l, if_true, if_false]
          simp (maxSteps := 3000000) (disch := omega) only [Option.bind_some, tc_bs, tq_let, tc_I1, tc_I2, tc_J1, tc_J2, tc_J3, tc_F1, tc_F2, tc_F3, tc_F4, tc_G1, tc_G2, tc_G3, tc_G4, tc_G5, tc_us, tc_un, s_one, s_holds, s_J13_bitCount, bz_bI, f_V_step, hC.tq.f, e5, nAI, if_true, if_false]
        · simp (maxSteps := 3000000) (disch := omega) only [Option.bind_some, tc_bs, tq_let, tc_I1, tc_I2, tc_J1, tc_J2, tc_J3, tc_F1, tc_F2, tc_F3, tc_F4, tc_G1, tc_G2, tc_G3, tc_G4, tc_G5, tc_us, tc_un, s_one, s_holds, s_J13_bitCount, bz_bI, f_X11_step, f_X11_refused, hC.mod.f, isp, b1, q12, r2, r3, n10, n20, n30, z1, if_true, if_false]
    · have c2 := rng_no (h := tc_mk S c) q2
      have r2 := in_no (h := tc_mk S c) q2
      refine arm_read hC hF (.inr ⟨2, 0, by decide, ?_, ?_⟩)
      · have e5 : f_X10_step 0 (nI p) x2 x3 x4 (tc_mk S c) = some (.inl "java/lang/IllegalArgumentException", tc_mk S c) := by simp (maxSteps := 3000000) (disch := omega) only [Option.bind_some, tc_bs, tq_let, tc_I1, tc_I2, tc_J1, tc_J2, tc_J3, tc_F1, tc_F2, tc_F3, tc_F4, tc_G1, tc_G2, tc_G3, tc_G4, tc_G5, tc_us, tc_un, s_one, s_holds, s_J13_bitCount, bz_bI, f_X10_step, hC.tq.f, i98, cn, q12, c2, tb_r, tb_l, if_true, if_false]
        simp (maxSteps := 3000000) (disch := omega) only [Option.bind_some, tc_bs, tq_let, tc_I1, tc_I2, tc_J1, tc_J2, tc_J3, tc_F1, tc_F2, tc_F3, tc_F4, tc_G1, tc_G2, tc_G3, tc_G4, tc_G5, tc_us, tc_un, s_one, s_holds, s_J13_bitCount, bz_bI, f_V_step, hC.tq.f, e5, nAI, if_true, if_false]
      · simp (maxSteps := 3000000) (disch := omega) only [Option.bind_some, tc_bs, tq_let, tc_I1, tc_I2, tc_J1, tc_J2, tc_J3, tc_F1, tc_F2, tc_F3, tc_F4, tc_G1, tc_G2, tc_G3, tc_G4, tc_G5, tc_us, tc_un, s_one, s_holds, s_J13_bitCount, bz_bI, f_X11_step, f_X11_refused, hC.mod.f, isp, b1, q12, r2, n10, n20, n30, z1, if_true, if_false]
  · rw [decide_eq_false qp] at isp
    have cn := (hC.npath x1).2 qp
    by_cases q2 : 0 ≤ x2 ∧ x2 ≤ 12
    · have r2 := in_ok (h := tc_mk S c) q2.1 q2.2
      by_cases q3 : 0 ≤ x3 ∧ x3 ≤ 13
      · have r3 := in_ok (h := tc_mk S c) q3.1 q3.2
        by_cases q4 : x4 = -1
        · subst q4
          refine arm_read hC hF (.inr ⟨1, 0, by decide, ?_, ?_⟩)
          · have e5 : f_X10_step 0 x1 x2 x3 (-1) (tc_mk S c) = some (.inl "java/lang/IndexOutOfBoundsException", tc_mk S c) := by simp (maxSteps := 3000000) (disch := omega) only [Option.bind_some, tc_bs, tq_let, tc_I1, tc_I2, tc_J1, tc_J2, tc_J3, tc_F1, tc_F2, tc_F3, tc_F4, tc_G1, tc_G2, tc_G3, tc_G4, tc_G5, tc_us, tc_un, s_one, s_holds, s_J13_bitCount, bz_bI, f_X10_step, hC.tq.f, i98, cn, tb_r, tb_l, if_true, if_false]
            simp (maxSteps := 3000000) (disch := omega) only [Option.bind_some, tc_bs, tq_let, tc_I1, tc_I2, tc_J1, tc_J2, tc_J3, tc_F1, tc_F2, tc_F3, tc_F4, tc_G1, tc_G2, tc_G3, tc_G4, tc_G5, tc_us, tc_un, s_one, s_holds, s_J13_bitCount, bz_bI, f_V_step, hC.tq.f, e5, if_true]
          · simp (maxSteps := 3000000) (disch := omega) only [Option.bind_some, tc_bs, tq_let, tc_I1, tc_I2, tc_J1, tc_J2, tc_J3, tc_F1, tc_F2, tc_F3, tc_F4, tc_G1, tc_G2, tc_G3, tc_G4, tc_G5, tc_us, tc_un, s_one, s_holds, s_J13_bitCount, bz_bI, f_X11_step, f_X11_refused, hC.mod.f, isp, b0, q12, r2, r3, n10, n20, n30, z1, if_true, if_false]
        · refine arm_read hC hF (.inr ⟨1, 0, by decide, ?_, ?_⟩)
          · have e5 : f_X10_step 0 x1 x2 x3 x4 (tc_mk S c) = some (.inl "java/lang/IndexOutOfBoundsException", tc_mk S c) := by simp (maxSteps := 3000000) (disch := omega) only [Option.bind_some, tc_bs, tq_let, tc_I1, tc_I2, tc_J1, tc_J2, tc_J3, tc_F1, tc_F2, tc_F3, tc_F4, tc_G1, tc_G2, tc_G3, tc_G4, tc_G5, tc_us, tc_un, s_one, s_holds, s_J13_bitCount, bz_bI, f_X10_step, hC.tq.f, i98, cn, tb_r, tb_l, if_true, if_false]
            simp (maxSteps := 3000000) (disch := omega) only [Option.bind_some, tc_bs, tq_let, tc_I1, tc_I2, tc_J1, tc_J2, tc_J3, tc_F1, tc_F2, tc_F3, tc_F4, tc_G1, tc_G2, tc_G3, tc_G4, tc_G5, tc_us, tc_un, s_one, s_holds, s_J13_bitCount, bz_bI, f_V_step, hC.tq.f, e5, if_true]
          · simp (maxSteps := 3000000) (disch := omega) only [Option.bind_some, tc_bs, tq_let, tc_I1, tc_I2, tc_J1, tc_J2, tc_J3, tc_F1, tc_F2, tc_F3, tc_F4, tc_G1, tc_G2, tc_G3, tc_G4, tc_G5, tc_us, tc_un, s_one, s_holds, s_J13_bitCount, bz_bI, f_X11_step, f_X11_refused, hC.mod.f, isp, b0, q12, r2, r3, q4, n10, n20, n30, z1, if_true, if_false]
      · have r3 := in_no (h := tc_mk S c) q3
        refine arm_read hC hF (.inr ⟨1, 0, by decide, ?_, ?_⟩)
        · have e5 : f_X10_step 0 x1 x2 x3 x4 (tc_mk S c) = some (.inl "java/lang/IndexOutOfBoundsException", tc_mk S c) := by simp (maxSteps := 3000000) (disch := omega) only [Option.bind_some, tc_bs, tq_let, tc_I1, tc_I2, tc_J1, tc_J2, tc_J3, tc_F1, tc_F2, tc_F3, tc_F4, tc_G1, tc_G2, tc_G3, tc_G4, tc_G5, tc_us, tc_un, s_one, s_holds, s_J13_bitCount, bz_bI, f_X10_step, hC.tq.f, i98, cn, tb_r, tb_l, if_true, if_false]
          simp (maxSteps := 3000000) (disch := omega) only [Option.bind_some, tc_bs, tq_let, tc_I1, tc_I2, tc_J1, tc_J2, tc_J3, tc_F1, tc_F2, tc_F3, tc_F4, tc_G1, tc_G2, tc_G3, tc_G4, tc_G5, tc_us, tc_un, s_one, s_holds, s_J13_bitCount, bz_bI, f_V_step, hC.tq.f, e5, if_true]
        · simp (maxSteps := 3000000) (disch := omega) only [Option.bind_some, tc_bs, tq_let, tc_I1, tc_I2, tc_J1, tc_J2, tc_J3, tc_F1, tc_F2, tc_F3, tc_F4, tc_G1, tc_G2, tc_G3, tc_G4, tc_G5, tc_us, tc_un, s_one, s_holds, s_J13_bitCount, bz_bI, f_X11_step, f_X11_refused, hC.mod.f, isp, b0, q12, r2, r3, n10, n20, n30, z1, if_true, if_false]
    · have r2 := in_no (h := tc_mk S c) q2
      refine arm_read hC hF (.inr ⟨1, 0, by decide, ?_, ?_⟩)
      · have e5 : f_X10_step 0 x1 x2 x3 x4 (tc_mk S c) = some (.inl "java/lang/IndexOutOfBoundsException", tc_mk S c) := by simp (maxSteps := 3000000) (disch := omega) only [Option.bind_some, tc_bs, tq_let, tc_I1, tc_I2, tc_J1, tc_J2, tc_J3, tc_F1, tc_F2, tc_F3, tc_F4, tc_G1, tc_G2, tc_G3, tc_G4, tc_G5, tc_us, tc_un, s_one, s_holds, s_J13_bitCount, bz_bI, f_X10_step, hC.tq.f, i98, cn, tb_r, tb_l, if_true, if_false]
        simp (maxSteps := 3000000) (disch := omega) only [Option.bind_some, tc_bs, tq_let, tc_I1, tc_I2, tc_J1, tc_J2, tc_J3, tc_F1, tc_F2, tc_F3, tc_F4, tc_G1, tc_G2, tc_G3, tc_G4, tc_G5, tc_us, tc_un, s_one, s_holds, s_J13_bitCount, bz_bI, f_V_step, hC.tq.f, e5, if_true]
      · simp (maxSteps := 3000000) (disch := omega) only [Option.bind_some, tc_bs, tq_let, tc_I1, tc_I2, tc_J1, tc_J2, tc_J3, tc_F1, tc_F2, tc_F3, tc_F4, tc_G1, tc_G2, tc_G3, tc_G4, tc_G5, tc_us, tc_un, s_one, s_holds, s_J13_bitCount, bz_bI, f_X11_step, f_X11_refused, hC.mod.f, isp, b0, q12, r2, n10, n20, n30, z1, if_true, if_false]
theorem arm_step (h : InvE di h0) (e1 : tq_sx n xs (y4 + 1) = some x1) (e2 : tq_sx n xs (y4 + 2) = some x2) (e3 : tq_sx n xs (y4 + 3) = some x3) (e4 : tq_sx n xs (y4 + 4) = some x4) : ∃ h', f_V_law_c1421 n xs 0 155 205 y4 h0 = some (.inl (y4 + 5, h')) ∧ InvE di h' := by
  obtain ⟨S, c, D, m, U, P, H, Z, X, nw, ed, nv, vt, mv, Dv, rfl, hC, hF⟩ := h
  have e0 : f_V_law_c1421 n xs 0 155 205 y4 (tc_mk S c) = armI (f_V_step 0 x1 x2 x3 x4 205 (tc_mk S c)) (f_X11_step 155 x1 x2 x3 x4) y4 := by
    unfold f_V_law_c1421; rw [e1, e2, e3, e4]; rfl
  rw [e0]
  by_cases q : x2 = 12
  · subst q; exact step_r hC hF
  · exact step_n hC hF q
end PTS
