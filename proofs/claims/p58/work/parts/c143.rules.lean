/-! ===== calls that change the schema ===== -/
section SMD
variable {S : tq_H} {c c' c1 c2 : tc_C} {di : DI} {D : Doc} {m : Nat} {U : Ups} {P : Pat} {H : Nat → Bool} {Z Z' : Sma} {X : Nat → Bool} {nw : Nat} {ed : Option Nat} {nv : Nat} {vt mv : Nat → Nat} {Dv : Nat → Doc} {t n s : Nat} {x x1 x2 x3 x4 y4 : Int32} {xs : Nat → Int32} {h0 : tq_H}
theorem ans1 (c : tc_C) (x : Int64) : (ansC c x).1 = c.1 := rfl
theorem ans2 (c : tc_C) (x : Int64) : (ansC c x).2.2 = c.2.2 := rfl
theorem arm_nameType (h : InvE di h0) (e1 : tq_sx n xs (y4 + 1) = some x1) (e2 : tq_sx n xs (y4 + 2) = some x2) : ∃ h', f_V_law_c2219 n xs 0 155 205 y4 h0 = some (.inl (y4 + 5, h')) ∧ InvE di h' := by
  obtain ⟨S, c, D, m, U, P, H, Z, X, nw, ed, nv, vt, mv, Dv, rfl, hC, hF⟩ := h
  have e0 : f_V_law_c2219 n xs 0 155 205 y4 (tc_mk S c) = armI (f_V_nameType 0 x1 x2 205 (tc_mk S c)) (f_X11_nameType 155 x1 x2) y4 := by
    unfold f_V_law_c2219; rw [e1, e2]; rfl
  rw [e0]
  have n10 : ¬ (1 : Int32) = 0 := by decide
  have n20 : ¬ (2 : Int32) = 0 := by decide
  have n30 : ¬ (3 : Int32) = 0 := by decide
  have z0 : tq_bz 0 = some 0 := rfl
  have z1 : tq_bz 1 = some 1 := rfl
  have i6 : ∀ c, tq_is (tc_mk S c) 131 6 = some () := hC.sch.is
  by_cases q1 : 0 ≤ x1 ∧ x1 < 6
  · obtain ⟨i1, i2, t, ht, rfl⟩ := typ_ok q1
    by_cases q2 : -1 ≤ x2 ∧ x2 ≤ 7
    · have c2 : ∀ h, f_X10_needRange 0 x2 (-1) 7 h = some (.inr (), h) := fun h => rng_ok q2.1 q2.2
      have r2 : ∀ h, f_X11_in x2 (-1) 7 h = some 1 := fun h => in_ok q2.1 q2.2
      rcases hC.loose with ⟨s1, s2, s3⟩ | ⟨s1, s2, s3⟩
      · have hs := hC.gs
        have v1 : c.1 133 t = Z.nm t := hs.1.1 t ht
        have v2 : c.1 183 t = Z.nm t := hs.2.1.1 t ht
        have e5 : f_X10_nameType 0 (nI t) x2 (tc_mk S c) = some (.inr (Z.nm t), tc_mk S (tc_I c 133 (upd (c.1 133) t x2))) := by
          simp (maxSteps := 3000000) (disch := omega) only [Option.bind_some, tc_bs, tq_let, tc_I1, tc_I2, tc_J1, tc_J2, tc_J3, tc_F1, tc_F2, tc_F3, tc_F4, tc_G1, tc_G2, tc_G3, tc_G4, tc_G5, tc_us, tc_un, s_one, s_holds, s_J13_bitCount, bz_bI, f_X10_nameType, f_X6_giveName, hC.tq.f, i1, c2, s3, tb_r, hC.sch.f, i6, rg_in (c.1 133) ht (show 6 < 2 ^ 31 by decide), rs_in (c.1 133) x2 ht (show 6 < 2 ^ 31 by decide), v1]
        refine armI_any hC.mod hC.tq (.inl ⟨Z.nm t, tc_I c 133 (upd (c.1 133) t x2), tc_I (tc_F (ansC (tc_I c 133 (upd (c.1 133) t x2)) (Z.nm t).toInt64) 155 0 0) 183 (upd (c.1 183) t x2), by simp (maxSteps := 3000000) (disch := omega) only [Option.bind_some, tc_bs, tq_let, tc_I1, tc_I2, tc_J1, tc_J2, tc_J3, tc_F1, tc_F2, tc_F3, tc_F4, tc_G1, tc_G2, tc_G3, tc_G4, tc_G5, tc_us, tc_un, s_one, s_holds, s_J13_bitCount, bz_bI, f_V_nameType, hC.tq.f, e5]; rfl, ?_, ?_, ?_, ?_⟩)
        · simp (maxSteps := 3000000) (disch := omega) only [Option.bind_some, tc_bs, tq_let, tc_I1, tc_I2, tc_J1, tc_J2, tc_J3, tc_F1, tc_F2, tc_F3, tc_F4, tc_G1, tc_G2, tc_G3, tc_G4, tc_G5, tc_us, tc_un, s_one, s_holds, s_J13_bitCount, bz_bI, f_X11_nameType, f_X11_refused, i2, r2, hC.mod.f, ans1, ans2, s2, z0, v2, n10, if_true, if_false]
        · exact hC.smaL hF s1 rfl (Wr.trans (Wr.trans (Wr.trans (Wr.I _ (by omega)) (Wr.A _ rfl)) (Wr.F _ (by omega))) (Wr.I _ (by omega))) (hs.all (Z' := Z.sN t x2) (fun j hj => upd_eq hs.1.1 j hj) hs.1.2.1 hs.1.2.2.1 hs.1.2.2.2.1 hs.1.2.2.2.2 (fun j hj => upd_eq hs.2.1.1 j hj) hs.2.1.2.1 hs.2.1.2.2.1 hs.2.1.2.2.2.1 hs.2.1.2.2.2.2 rfl rfl)
        · rfl
        · rfl
      · have e5 : f_X10_nameType 0 (nI t) x2 (tc_mk S c) = some (.inl "java/lang/IllegalStateException", tc_mk S c) := by
          simp (maxSteps := 3000000) (disch := omega) only [Option.bind_some, tc_bs, tq_let, tc_I1, tc_I2, tc_J1, tc_J2, tc_J3, tc_F1, tc_F2, tc_F3, tc_F4, tc_G1, tc_G2, tc_G3, tc_G4, tc_G5, tc_us, tc_un, s_one, s_holds, s_J13_bitCount, bz_bI, f_X10_nameType, hC.tq.f, i1, c2, s3, tb_r, tb_l]
        refine arm_read hC hF (.inr ⟨3, 0, by decide, by simp (maxSteps := 3000000) (disch := omega) only [Option.bind_some, tc_bs, tq_let, tc_I1, tc_I2, tc_J1, tc_J2, tc_J3, tc_F1, tc_F2, tc_F3, tc_F4, tc_G1, tc_G2, tc_G3, tc_G4, tc_G5, tc_us, tc_un, s_one, s_holds, s_J13_bitCount, bz_bI, f_V_nameType, hC.tq.f, e5, nSI, nSA, if_true, if_false], ?_⟩)
        simp (maxSteps := 3000000) (disch := omega) only [Option.bind_some, tc_bs, tq_let, tc_I1, tc_I2, tc_J1, tc_J2, tc_J3, tc_F1, tc_F2, tc_F3, tc_F4, tc_G1, tc_G2, tc_G3, tc_G4, tc_G5, tc_us, tc_un, s_one, s_holds, s_J13_bitCount, bz_bI, f_X11_nameType, f_X11_refused, i2, r2, hC.mod.f, s2, z1, n10, n30, if_true, if_false]
    · have c2 : ∀ h, f_X10_needRange 0 x2 (-1) 7 h = some (.inl "java/lang/IllegalArgumentException", h) := fun h => rng_no q2
      have r2 : ∀ h, f_X11_in x2 (-1) 7 h = some 0 := fun h => in_no q2
      have e5 : f_X10_nameType 0 (nI t) x2 (tc_mk S c) = some (.inl "java/lang/IllegalArgumentException", tc_mk S c) := by
        simp (maxSteps := 3000000) (disch := omega) only [Option.bind_some, tc_bs, tq_let, tc_I1, tc_I2, tc_J1, tc_J2, tc_J3, tc_F1, tc_F2, tc_F3, tc_F4, tc_G1, tc_G2, tc_G3, tc_G4, tc_G5, tc_us, tc_un, s_one, s_holds, s_J13_bitCount, bz_bI, f_X10_nameType, hC.tq.f, i1, c2, tb_r, tb_l]
      refine arm_read hC hF (.inr ⟨2, 0, by decide, by simp (maxSteps := 3000000) (disch := omega) only [Option.bind_some, tc_bs, tq_let, tc_I1, tc_I2, tc_J1, tc_J2, tc_J3, tc_F1, tc_F2, tc_F3, tc_F4, tc_G1, tc_G2, tc_G3, tc_G4, tc_G5, tc_us, tc_un, s_one, s_holds, s_J13_bitCount, bz_bI, f_V_nameType, hC.tq.f, e5, nAI, if_true, if_false], ?_⟩)
      simp (maxSteps := 3000000) (disch := omega) only [Option.bind_some, tc_bs, tq_let, tc_I1, tc_I2, tc_J1, tc_J2, tc_J3, tc_F1, tc_F2, tc_F3, tc_F4, tc_G1, tc_G2, tc_G3, tc_G4, tc_G5, tc_us, tc_un, s_one, s_holds, s_J13_bitCount, bz_bI, f_X11_nameType, f_X11_refused, i2, r2, hC.mod.f, z1, n10, n20, if_true, if_false]
  · obtain ⟨i1, i2⟩ := typ_no q1
    have e5 : f_X10_nameType 0 x1 x2 (tc_mk S c) = some (.inl "java/lang/IndexOutOfBoundsException", tc_mk S c) := by
      simp (maxSteps := 3000000) (disch := omega) only [Option.bind_some, tc_bs, tq_let, tc_I1, tc_I2, tc_J1, tc_J2, tc_J3, tc_F1, tc_F2, tc_F3, tc_F4, tc_G1, tc_G2, tc_G3, tc_G4, tc_G5, tc_us, tc_un, s_one, s_holds, s_J13_bitCount, bz_bI, f_X10_nameType, hC.tq.f, i1, tb_l]
    refine arm_read hC hF (.inr ⟨1, 0, by decide, by simp (maxSteps := 3000000) (disch := omega) only [Option.bind_some, tc_bs, tq_let, tc_I1, tc_I2, tc_J1, tc_J2, tc_J3, tc_F1, tc_F2, tc_F3, tc_F4, tc_G1, tc_G2, tc_G3, tc_G4, tc_G5, tc_us, tc_un, s_one, s_holds, s_J13_bitCount, bz_bI, f_V_nameType, hC.tq.f, e5, if_true], ?_⟩)
    simp (maxSteps := 3000000) (disch := omega) only [Option.bind_some, tc_bs, tq_let, tc_I1, tc_I2, tc_J1, tc_J2, tc_J3, tc_F1, tc_F2, tc_F3, tc_F4, tc_G1, tc_G2, tc_G3, tc_G4, tc_G5, tc_us, tc_un, s_one, s_holds, s_J13_bitCount, bz_bI, f_X11_nameType, f_X11_refused, i2, hC.mod.f, z1, n10, if_true, if_false]
theorem arm_attribute (h : InvE di h0) (e1 : tq_sx n xs (y4 + 1) = some x1) (e2 : tq_sx n xs (y4 + 2) = some x2) (e3 : tq_sx n xs (y4 + 3) = some x3) : ∃ h', f_V_law_c2580 n xs 0 155 205 y4 h0 = some (.inl (y4 + 5, h')) ∧ InvE di h' := by
  obtain ⟨S, c, D, m, U, P, H, Z, X, nw, ed, nv, vt, mv, Dv, rfl, hC, hF⟩ := h
  have e0 : f_V_law_c2580 n xs 0 155 205 y4 (tc_mk S c) = armI (f_V_attribute 0 x1 x2 x3 205 (tc_mk S c)) (f_X11_attribute 155 x1 x2 x3) y4 := by
    unfold f_V_law_c2580; rw [e1, e2, e3]; rfl
  rw [e0]
  have n10 : ¬ (1 : Int32) = 0 := by decide
  have n20 : ¬ (2 : Int32) = 0 := by decide
  have n30 : ¬ (3 : Int32) = 0 := by decide
  have z0 : tq_bz 0 = some 0 := rfl
  have z1 : tq_bz 1 = some 1 := rfl
  have i6 : ∀ c, tq_is (tc_mk S c) 131 6 = some () := hC.sch.is
  by_cases q1 : 0 ≤ x1 ∧ x1 < 6
  · obtain ⟨i1, i2, t, ht, rfl⟩ := typ_ok q1
    by_cases q2 : 0 ≤ x2 ∧ x2 ≤ 7
    · have c2 : ∀ h, f_X10_needRange 0 x2 0 7 h = some (.inr (), h) := fun h => rng_ok q2.1 q2.2
      have r2 : ∀ h, f_X11_in x2 0 7 h = some 1 := fun h => in_ok q2.1 q2.2
      by_cases q3 : 0 ≤ x3 ∧ x3 ≤ 2
      · have c3 : ∀ h, f_X10_needRange 0 x3 0 2 h = some (.inr (), h) := fun h => rng_ok q3.1 q3.2
        have r3 : ∀ h, f_X11_in x3 0 2 h = some 1 := fun h => in_ok q3.1 q3.2
        rcases hC.loose with ⟨s1, s2, s3⟩ | ⟨s1, s2, s3⟩
        · have hs := hC.gs
          obtain ⟨a, ha, rfl⟩ := x_nat (N := 7) (by decide) q2.1 q2.2
          have hk : 8 * t + a < 48 := by omega
          have v1 : c.1 137 (8 * t + a) = Z.ru (8 * t + a) := hs.1.2.2.1 _ hk
          have v2 : c.1 185 (8 * t + a) = Z.ru (8 * t + a) := hs.2.1.2.2.1 _ hk
          have ix1 : nI t * (8 : Int32) + nI a = nI (8 * t + a) := by rw [show nI t * (8 : Int32) = nI (t * 8) from nI_mul t 8, nI_add, Nat.mul_comm]
          have ix2 : (8 : Int32) * nI t + nI a = nI (8 * t + a) := by rw [show (8 : Int32) * nI t = nI (8 * t) from nI_mul 8 t, nI_add]
          have e5 : f_X10_attribute 0 (nI t) (nI a) x3 (tc_mk S c) = some (.inr (Z.ru (8 * t + a)), tc_mk S (tc_I c 137 (upd (c.1 137) (8 * t + a) x3))) := by
            simp (maxSteps := 3000000) (disch := omega) only [Option.bind_some, tc_bs, tq_let, tc_I1, tc_I2, tc_J1, tc_J2, tc_J3, tc_F1, tc_F2, tc_F3, tc_F4, tc_G1, tc_G2, tc_G3, tc_G4, tc_G5, tc_us, tc_un, s_one, s_holds, s_J13_bitCount, bz_bI, f_X10_attribute, f_X6_giveRule, hC.tq.f, i1, c2, c3, s3, tb_r, hC.sch.f, i6, ix1, rg_in (c.1 137) hk (show 48 < 2 ^ 31 by decide), rs_in (c.1 137) x3 hk (show 48 < 2 ^ 31 by decide), v1]
          refine armI_any hC.mod hC.tq (.inl ⟨Z.ru (8 * t + a), tc_I c 137 (upd (c.1 137) (8 * t + a) x3), tc_I (tc_F (ansC (tc_I c 137 (upd (c.1 137) (8 * t + a) x3)) (Z.ru (8 * t + a)).toInt64) 155 0 0) 185 (upd (c.1 185) (8 * t + a) x3), by simp (maxSteps := 3000000) (disch := omega) only [Option.bind_some, tc_bs, tq_let, tc_I1, tc_I2, tc_J1, tc_J2, tc_J3, tc_F1, tc_F2, tc_F3, tc_F4, tc_G1, tc_G2, tc_G3, tc_G4, tc_G5, tc_us, tc_un, s_one, s_holds, s_J13_bitCount, bz_bI, f_V_attribute, hC.tq.f, e5]; rfl, ?_, ?_, ?_, ?_⟩)
          · simp (maxSteps := 3000000) (disch := omega) only [Option.bind_some, tc_bs, tq_let, tc_I1, tc_I2, tc_J1, tc_J2, tc_J3, tc_F1, tc_F2, tc_F3, tc_F4, tc_G1, tc_G2, tc_G3, tc_G4, tc_G5, tc_us, tc_un, s_one, s_holds, s_J13_bitCount, bz_bI, f_X11_attribute, f_X11_refused, i2, r2, r3, hC.mod.f, ans1, ans2, s2, z0, ix2, v2, n10, if_true, if_false]
          · exact hC.smaL hF s1 rfl (Wr.trans (Wr.trans (Wr.trans (Wr.I _ (by omega)) (Wr.A _ rfl)) (Wr.F _ (by omega))) (Wr.I _ (by omega))) (hs.all (Z' := Z.sR (8 * t + a) x3) hs.1.1 hs.1.2.1 (fun j hj => upd_eq hs.1.2.2.1 j hj) hs.1.2.2.2.1 hs.1.2.2.2.2 hs.2.1.1 hs.2.1.2.1 (fun j hj => upd_eq hs.2.1.2.2.1 j hj) hs.2.1.2.2.2.1 hs.2.1.2.2.2.2 rfl rfl)
          · rfl
          · rfl
        · have e5 : f_X10_attribute 0 (nI t) x2 x3 (tc_mk S c) = some (.inl "java/lang/IllegalStateException", tc_mk S c) := by
            simp (maxSteps := 3000000) (disch := omega) only [Option.bind_some, tc_bs, tq_let, tc_I1, tc_I2, tc_J1, tc_J2, tc_J3, tc_F1, tc_F2, tc_F3, tc_F4, tc_G1, tc_G2, tc_G3, tc_G4, tc_G5, tc_us, tc_un, s_one, s_holds, s_J13_bitCount, bz_bI, f_X10_attribute, hC.tq.f, i1, c2, c3, s3, tb_r, tb_l]
          refine arm_read hC hF (.inr ⟨3, 0, by decide, by simp (maxSteps := 3000000) (disch := omega) only [Option.bind_some, tc_bs, tq_let, tc_I1, tc_I2, tc_J1, tc_J2, tc_J3, tc_F1, tc_F2, tc_F3, tc_F4, tc_G1, tc_G2, tc_G3, tc_G4, tc_G5, tc_us, tc_un, s_one, s_holds, s_J13_bitCount, bz_bI, f_V_attribute, hC.tq.f, e5, nSI, nSA, if_true, if_false], ?_⟩)
          simp (maxSteps := 3000000) (disch := omega) only [Option.bind_some, tc_bs, tq_let, tc_I1, tc_I2, tc_J1, tc_J2, tc_J3, tc_F1, tc_F2, tc_F3, tc_F4, tc_G1, tc_G2, tc_G3, tc_G4, tc_G5, tc_us, tc_un, s_one, s_holds, s_J13_bitCount, bz_bI, f_X11_attribute, f_X11_refused, i2, r2, r3, hC.mod.f, s2, z1, n10, n30, if_true, if_false]
      · have c3 : ∀ h, f_X10_needRange 0 x3 0 2 h = some (.inl "java/lang/IllegalArgumentException", h) := fun h => rng_no q3
        have r3 : ∀ h, f_X11_in x3 0 2 h = some 0 := fun h => in_no q3
        have e5 : f_X10_attribute 0 (nI t) x2 x3 (tc_mk S c) = some (.inl "java/lang/IllegalArgumentException", tc_mk S c) := by
          simp (maxSteps := 3000000) (disch := omega) only [Option.bind_some, tc_bs, tq_let, tc_I1, tc_I2, tc_J1, tc_J2, tc_J3, tc_F1, tc_F2, tc_F3, tc_F4, tc_G1, tc_G2, tc_G3, tc_G4, tc_G5, tc_us, tc_un, s_one, s_holds, s_J13_bitCount, bz_bI, f_X10_attribute, hC.tq.f, i1, c2, c3, tb_r, tb_l]
        refine arm_read hC hF (.inr ⟨2, 0, by decide, by simp (maxSteps := 3000000) (disch := omega) only [Option.bind_some, tc_bs, tq_let, tc_I1, tc_I2, tc_J1, tc_J2, tc_J3, tc_F1, tc_F2, tc_F3, tc_F4, tc_G1, tc_G2, tc_G3, tc_G4, tc_G5, tc_us, tc_un, s_one, s_holds, s_J13_bitCount, bz_bI, f_V_attribute, hC.tq.f, e5, nAI, if_true, if_false], ?_⟩)
        simp (maxSteps := 3000000) (disch := omega) only [Option.bind_some, tc_bs, tq_let, tc_I1, tc_I2, tc_J1, tc_J2, tc_J3, tc_F1, tc_F2, tc_F3, tc_F4, tc_G1, tc_G2, tc_G3, tc_G4, tc_G5, tc_us, tc_un, s_one, s_holds, s_J13_bitCount, bz_bI, f_X11_attribute, f_X11_refused, i2, r2, r3, hC.mod.f, z1, n10, n20, if_true, if_false]
    · have c2 : ∀ h, f_X10_needRange 0 x2 0 7 h = some (.inl "java/lang/IllegalArgumentException", h) := fun h => rng_no q2
      have r2 : ∀ h, f_X11_in x2 0 7 h = some 0 := fun h => in_no q2
      have e5 : f_X10_attribute 0 (nI t) x2 x3 (tc_mk S c) = some (.inl "java/lang/IllegalArgumentException", tc_mk S c) := by
        simp (maxSteps := 3000000) (disch := omega) only [Option.bind_some, tc_bs, tq_let, tc_I1, tc_I2, tc_J1, tc_J2, tc_J3, tc_F1, tc_F2, tc_F3, tc_F4, tc_G1, tc_G2, tc_G3, tc_G4, tc_G5, tc_us, tc_un, s_one, s_holds, s_J13_bitCount, bz_bI, f_X10_attribute, hC.tq.f, i1, c2, tb_r, tb_l]
      refine arm_read hC hF (.inr ⟨2, 0, by decide, by simp (maxSteps := 3000000) (disch := omega) only [Option.bind_some, tc_bs, tq_let, tc_I1, tc_I2, tc_J1, tc_J2, tc_J3, tc_F1, tc_F2, tc_F3, tc_F4, tc_G1, tc_G2, tc_G3, tc_G4, tc_G5, tc_us, tc_un, s_one, s_holds, s_J13_bitCount, bz_bI, f_V_attribute, hC.tq.f, e5, nAI, if_true, if_false], ?_⟩)
      simp (maxSteps := 3000000) (disch := omega) only [Option.bind_some, tc_bs, tq_let, tc_I1, tc_I2, tc_J1, tc_J2, tc_J3, tc_F1, tc_F2, tc_F3, tc_F4, tc_G1, tc_G2, tc_G3, tc_G4, tc_G5, tc_us, tc_un, s_one, s_holds, s_J13_bitCount, bz_bI, f_X11_attribute, f_X11_refused, i2, r2, hC.mod.f, z1, n10, n20, if_true, if_false]
  · obtain ⟨i1, i2⟩ := typ_no q1
    have e5 : f_X10_attribute 0 x1 x2 x3 (tc_mk S c) = some (.inl "java/lang/IndexOutOfBoundsException", tc_mk S c) := by
      simp (maxSteps := 3000000) (disch := omega) only [Option.bind_some, tc_bs, tq_let, tc_I1, tc_I2, tc_J1, tc_J2, tc_J3, tc_F1, tc_F2, tc_F3, tc_F4, tc_G1, tc_G2, tc_G3, tc_G4, tc_G5, tc_us, tc_un, s_one, s_holds, s_J13_bitCount, bz_bI, f_X10_attribute, hC.tq.f, i1, tb_l]
    refine arm_read hC hF (.inr ⟨1, 0, by decide, by simp (maxSteps := 3000000) (disch := omega) only [Option.bind_some, tc_bs, tq_let, tc_I1, tc_I2, tc_J1, tc_J2, tc_J3, tc_F1, tc_F2, tc_F3, tc_F4, tc_G1, tc_G2, tc_G3, tc_G4, tc_G5, tc_us, tc_un, s_one, s_holds, s_J13_bitCount, bz_bI, f_V_attribute, hC.tq.f, e5, if_true], ?_⟩)
    by_cases q2 : 0 ≤ x2 ∧ x2 ≤ 7
    · have r2 : ∀ h, f_X11_in x2 0 7 h = some 1 := fun h => in_ok q2.1 q2.2
      obtain ⟨r, r3⟩ : ∃ r, ∀ h, f_X11_in x3 0 2 h = some (bI r) := ⟨_, fun h => s_X11_in _ _ _ h⟩
      cases r with
      | true => have b1 : ¬ bI true = 0 := by decide
                simp (maxSteps := 3000000) (disch := omega) only [Option.bind_some, tc_bs, tq_let, tc_I1, tc_I2, tc_J1, tc_J2, tc_J3, tc_F1, tc_F2, tc_F3, tc_F4, tc_G1, tc_G2, tc_G3, tc_G4, tc_G5, tc_us, tc_un, s_one, s_holds, s_J13_bitCount, bz_bI, f_X11_attribute, f_X11_refused, i2, r2, r3, b1, hC.mod.f, z1, n10, if_true, if_false]
      | false => have b0 : bI false = 0 := rfl
                 simp (maxSteps := 3000000) (disch := omega) only [Option.bind_some, tc_bs, tq_let, tc_I1, tc_I2, tc_J1, tc_J2, tc_J3, tc_F1, tc_F2, tc_F3, tc_F4, tc_G1, tc_G2, tc_G3, tc_G4, tc_G5, tc_us, tc_un, s_one, s_holds, s_J13_bitCount, bz_bI, f_X11_attribute, f_X11_refused, i2, r2, r3, b0, hC.mod.f, z1, n10, if_true, if_false]
    · have r2 : ∀ h, f_X11_in x2 0 7 h = some 0 := fun h => in_no q2
      simp (maxSteps := 3000000) (disch := omega) only [Option.bind_some, tc_bs, tq_let, tc_I1, tc_I2, tc_J1, tc_J2, tc_J3, tc_F1, tc_F2, tc_F3, tc_F4, tc_G1, tc_G2, tc_G3, tc_G4, tc_G5, tc_us, tc_un, s_one, s_holds, s_J13_bitCount, bz_bI, f_X11_attribute, f_X11_refused, i2, r2, hC.mod.f, z1, n10, if_true, if_false]
end SMD
