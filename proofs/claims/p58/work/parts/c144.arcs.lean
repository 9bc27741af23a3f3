/-! ===== more calls that change the schema ===== -/
section SME
variable {S : tq_H} {c c' c1 c2 : tc_C} {di : DI} {D : Doc} {m : Nat} {U : Ups} {P : Pat} {H : Nat → Bool} {Z Z' : Sma} {X : Nat → Bool} {nw : Nat} {ed : Option Nat} {nv : Nat} {vt mv : Nat → Nat} {Dv : Nat → Doc} {t n s : Nat} {x x1 x2 x3 x4 y4 p : Int32} {xs : Nat → Int32} {h0 : tq_H}
/-- a bit told one way and another -/
theorem bit_two (x : Int32) {k : Nat} (hk : k < 32) : (if ((x >>> (nI k &&& 31)) &&& (1 : Int32)) = 0 then (0 : Int32) else (1 : Int32)) = bI (bt x k) ∧ (if ((x >>> (nI k &&& 31)) &&& (1 : Int32)) = (1 : Int32) then (1 : Int32) else (0 : Int32)) = bI (bt x k) := by
  cases h : bt x k with
  | true => exact ⟨by rw [if_neg (by rw [bt_sh x hk, h]; decide)]; rfl, by rw [if_pos ((bt_sh1 x hk).mpr h)]; rfl⟩
  | false => exact ⟨by rw [if_pos ((bt_sh x hk).mpr h)]; rfl, by rw [if_neg (by rw [bt_sh1 x hk, h]; decide)]; rfl⟩
theorem arm_arc (h : InvE di h0) (e1 : tq_sx n xs (y4 + 1) = some x1) (e2 : tq_sx n xs (y4 + 2) = some x2) (e3 : tq_sx n xs (y4 + 3) = some x3) (e4 : tq_sx n xs (y4 + 4) = some x4) : ∃ h', f_V_law_c2287 n xs 0 155 205 y4 h0 = some (.inl (y4 + 5, h')) ∧ InvE di h' := by
  obtain ⟨S, c, D, m, U, P, H, Z, X, nw, ed, nv, vt, mv, Dv, rfl, hC, hF⟩ := h
  have e0 : f_V_law_c2287 n xs 0 155 205 y4 (tc_mk S c) = armB (f_V_arc 0 x1 x2 x3 x4 205 (tc_mk S c)) (f_X11_arc 155 x1 x2 x3 x4) y4 := by
    unfold f_V_law_c2287; rw [e1, e2, e3, e4]; rfl
  rw [e0]
  have n10 : ¬ (1 : Int32) = 0 := by decide
  have n20 : ¬ (2 : Int32) = 0 := by decide
  have z0 : tq_bz 0 = some 0 := rfl
  have z1 : tq_bz 1 = some 1 := rfl
  have i6 : ∀ c, tq_is (tc_mk S c) 131 6 = some () := hC.sch.is
  by_cases q1 : 0 ≤ x1 ∧ x1 < 6
  · obtain ⟨i1, r1, t, ht, rfl⟩ := typ_ok q1
    by_cases q2 : 0 ≤ x2 ∧ x2 < 4
    · obtain ⟨i2, r2, f, hf, rfl⟩ := sta_ok q2
      by_cases q3 : 0 ≤ x3 ∧ x3 < 6
      · obtain ⟨i3, r3, b, hb, rfl⟩ := typ_ok q3
        by_cases q4 : 0 ≤ x4 ∧ x4 < 4
        · obtain ⟨i4, r4, s, hs4, rfl⟩ := sta_ok q4
          rcases hC.loose with ⟨s1, s2, s3⟩ | ⟨s1, s2, s3⟩
          · have hs := hC.gs
            obtain ⟨k, ek⟩ : ∃ k, k = 24 * t + 6 * f + b := ⟨_, rfl⟩
            have hk : k < 144 := by omega
            obtain ⟨w, ew⟩ : ∃ w, w = Z.ar k ^^^ ((1 : Int32) <<< (nI s &&& 31)) := ⟨_, rfl⟩
            have v1 : c.1 139 k = Z.ar k := hs.1.2.2.2.1 _ hk
            have v2 : c.1 187 k = Z.ar k := hs.2.1.2.2.2.1 _ hk
            have ix1 : (nI t * (4 : Int32) + nI f) * (6 : Int32) + nI b = nI k := by rw [show nI t * (4 : Int32) = nI (t * 4) from nI_mul t 4, nI_add, show nI (t * 4 + f) * (6 : Int32) = nI ((t * 4 + f) * 6) from nI_mul _ 6, nI_add, ek]; congr 1; omega
            have ix2 : (24 : Int32) * nI t + (6 : Int32) * nI f + nI b = nI k := by rw [show (24 : Int32) * nI t = nI (24 * t) from nI_mul 24 t, show (6 : Int32) * nI f = nI (6 * f) from nI_mul 6 f, nI_add, nI_add, ek]
            have hb2 := bit_two w (show s < 32 by omega)
            have e5 : f_X10_arc 0 (nI t) (nI f) (nI b) (nI s) (tc_mk S c) = some (.inr (bI (bt w s)), tc_mk S (tc_I c 139 (upd (c.1 139) k w))) := by
              simp (maxSteps := 3000000) (disch := omega) only [Option.bind_some, tc_bs, tq_let, tc_I1, tc_I2, tc_J1, tc_J2, tc_J3, tc_F1, tc_F2, tc_F3, tc_F4, tc_G1, tc_G2, tc_G3, tc_G4, tc_G5, tc_us, tc_un, s_one, s_holds, s_J13_bitCount, bz_bI, f_X10_arc, f_X6_toggleArc, f_X6_arcAt, hC.tq.f, i1, i2, i3, i4, s3, tb_r, hC.sch.f, i6, ix1, rg_in (c.1 139) hk (show 144 < 2 ^ 31 by decide), rs_in (c.1 139) w hk (show 144 < 2 ^ 31 by decide), rg_in (upd (c.1 139) k w) hk (show 144 < 2 ^ 31 by decide), v1, ← ew, upd_s, hb2.1]
            refine armB_any hC.mod hC.tq (.inl ⟨bI (bt w s), tc_I c 139 (upd (c.1 139) k w), tc_I (tc_F (ansC (tc_I c 139 (upd (c.1 139) k w)) (bL (bI (bt w s)))) 155 0 0) 187 (upd (c.1 187) k w), by simp (maxSteps := 3000000) (disch := omega) only [Option.bind_some, tc_bs, tq_let, tc_I1, tc_I2, tc_J1, tc_J2, tc_J3, tc_F1, tc_F2, tc_F3, tc_F4, tc_G1, tc_G2, tc_G3, tc_G4, tc_G5, tc_us, tc_un, s_one, s_holds, s_J13_bitCount, bz_bI, f_V_arc, hC.tq.f, e5, bL_bI]; rfl, ?_, ?_, ?_, ?_⟩)
            · simp (maxSteps := 3000000) (disch := omega) only [Option.bind_some, tc_bs, tq_let, tc_I1, tc_I2, tc_J1, tc_J2, tc_J3, tc_F1, tc_F2, tc_F3, tc_F4, tc_G1, tc_G2, tc_G3, tc_G4, tc_G5, tc_us, tc_un, s_one, s_holds, s_J13_bitCount, bz_bI, f_X11_arc, f_X11_refused, r1, r2, r3, r4, hC.mod.f, ans1, ans2, s2, z0, ix2, v2, ← ew, upd_s, hb2.2, n10, if_true, if_false]
            · exact hC.smaL hF s1 rfl (Wr.trans (Wr.trans (Wr.trans (Wr.I _ (by omega)) (Wr.A _ rfl)) (Wr.F _ (by omega))) (Wr.I _ (by omega))) (hs.all (Z' := Z.sA k w) hs.1.1 hs.1.2.1 hs.1.2.2.1 (fun j hj => upd_eq hs.1.2.2.2.1 j hj) hs.1.2.2.2.2 hs.2.1.1 hs.2.1.2.1 hs.2.1.2.2.1 (fun j hj => upd_eq hs.2.1.2.2.2.1 j hj) hs.2.1.2.2.2.2 rfl rfl)
            · rfl
            · rfl
          · have e5 : f_X10_arc 0 (nI t) (nI f) (nI b) (nI s) (tc_mk S c) = some (.inl "java/lang/IllegalStateException", tc_mk S c) := by
              simp (maxSteps := 3000000) (disch := omega) only [Option.bind_some, tc_bs, tq_let, tc_I1, tc_I2, tc_J1, tc_J2, tc_J3, tc_F1, tc_F2, tc_F3, tc_F4, tc_G1, tc_G2, tc_G3, tc_G4, tc_G5, tc_us, tc_un, s_one, s_holds, s_J13_bitCount, bz_bI, f_X10_arc, hC.tq.f, i1, i2, i3, i4, s3, tb_r, tb_l]
            refine armB_any hC.mod hC.tq (.inr ⟨2, 0, c, tc_F c 155 0 2, by decide, by simp (maxSteps := 3000000) (disch := omega) only [Option.bind_some, tc_bs, tq_let, tc_I1, tc_I2, tc_J1, tc_J2, tc_J3, tc_F1, tc_F2, tc_F3, tc_F4, tc_G1, tc_G2, tc_G3, tc_G4, tc_G5, tc_us, tc_un, s_one, s_holds, s_J13_bitCount, bz_bI, f_V_arc, hC.tq.f, e5, nSI, if_true, if_false], ?_, hC.fin hF 2, rfl⟩)
            simp (maxSteps := 3000000) (disch := omega) only [Option.bind_some, tc_bs, tq_let, tc_I1, tc_I2, tc_J1, tc_J2, tc_J3, tc_F1, tc_F2, tc_F3, tc_F4, tc_G1, tc_G2, tc_G3, tc_G4, tc_G5, tc_us, tc_un, s_one, s_holds, s_J13_bitCount, bz_bI, f_X11_arc, f_X11_refused, r1, r2, r3, r4, hC.mod.f, s2, z1, n10, n20, if_true, if_false]
        · obtain ⟨i4, r4⟩ := sta_no q4
          have e5 : f_X10_arc 0 (nI t) (nI f) (nI b) x4 (tc_mk S c) = some (.inl "java/lang/IndexOutOfBoundsException", tc_mk S c) := by
            simp (maxSteps := 3000000) (disch := omega) only [Option.bind_some, tc_bs, tq_let, tc_I1, tc_I2, tc_J1, tc_J2, tc_J3, tc_F1, tc_F2, tc_F3, tc_F4, tc_G1, tc_G2, tc_G3, tc_G4, tc_G5, tc_us, tc_un, s_one, s_holds, s_J13_bitCount, bz_bI, f_X10_arc, hC.tq.f, i1, i2, i3, i4, tb_r, tb_l]
          refine armB_any hC.mod hC.tq (.inr ⟨1, 0, c, tc_F c 155 0 1, by decide, by simp (maxSteps := 3000000) (disch := omega) only [Option.bind_some, tc_bs, tq_let, tc_I1, tc_I2, tc_J1, tc_J2, tc_J3, tc_F1, tc_F2, tc_F3, tc_F4, tc_G1, tc_G2, tc_G3, tc_G4, tc_G5, tc_us, tc_un, s_one, s_holds, s_J13_bitCount, bz_bI, f_V_arc, hC.tq.f, e5, if_true], ?_, hC.fin hF 1, rfl⟩)
          simp (maxSteps := 3000000) (disch := omega) only [Option.bind_some, tc_bs, tq_let, tc_I1, tc_I2, tc_J1, tc_J2, tc_J3, tc_F1, tc_F2, tc_F3, tc_F4, tc_G1, tc_G2, tc_G3, tc_G4, tc_G5, tc_us, tc_un, s_one, s_holds, s_J13_bitCount, bz_bI, f_X11_arc, f_X11_refused, r1, r2, r3, r4, hC.mod.f, z1, n10, if_true, if_false]
      · obtain ⟨i3, r3⟩ := typ_no q3
        have e5 : f_X10_arc 0 (nI t) (nI f) x3 x4 (tc_mk S c) = some (.inl "java/lang/IndexOutOfBoundsException", tc_mk S c) := by
          simp (maxSteps := 3000000) (disch := omega) only [Option.bind_some, tc_bs, tq_let, tc_I1, tc_I2, tc_J1, tc_J2, tc_J3, tc_F1, tc_F2, tc_F3, tc_F4, tc_G1, tc_G2, tc_G3, tc_G4, tc_G5, tc_us, tc_un, s_one, s_holds, s_J13_bitCount, bz_bI, f_X10_arc, hC.tq.f, i1, i2, i3, tb_r, tb_l]
        refine armB_any hC.mod hC.tq (.inr ⟨1, 0, c, tc_F c 155 0 1, by decide, by simp (maxSteps := 3000000) (disch := omega) only [Option.bind_some, tc_bs, tq_let, tc_I1, tc_I2, tc_J1, tc_J2, tc_J3, tc_F1, tc_F2, tc_F3, tc_F4, tc_G1, tc_G2, tc_G3, tc_G4, tc_G5, tc_us, tc_un, s_one, s_holds, s_J13_bitCount, bz_bI, f_V_arc, hC.tq.f, e5, if_true], ?_, hC.fin hF 1, rfl⟩)
        simp (maxSteps := 3000000) (disch := omega) only [Option.bind_some, tc_bs, tq_let, tc_I1, tc_I2, tc_J1, tc_J2, tc_J3, tc_F1, tc_F2, tc_F3, tc_F4, tc_G1, tc_G2, tc_G3, tc_G4, tc_G5, tc_us, tc_un, s_one, s_holds, s_J13_bitCount, bz_bI, f_X11_arc, f_X11_refused, r1, r2, r3, hC.mod.f, z1, n10, if_true, if_false]
    · obtain ⟨i2, r2⟩ := sta_no q2
      have e5 : f_X10_arc 0 (nI t) x2 x3 x4 (tc_mk S c) = some (.inl "java/lang/IndexOutOfBoundsException", tc_mk S c) := by
        simp (maxSteps := 3000000) (disch := omega) only [Option.bind_some, tc_bs, tq_let, tc_I1, tc_I2, tc_J1, tc_J2, tc_J3, tc_F1, tc_F2, tc_F3, tc_F4, tc_G1, tc_G2, tc_G3, tc_G4, tc_G5, tc_us, tc_un, s_one, s_holds, s_J13_bitCount, bz_bI, f_X10_arc, hC.tq.f, i1, i2, tb_r, tb_l]
      refine armB_any hC.mod hC.tq (.inr ⟨1, 0, c, tc_F c 155 0 1, by decide, by simp (maxSteps := 3000000) (disch := omega) only [Option.bind_some, tc_bs, tq_let, tc_I1, tc_I2, tc_J1, tc_J2, tc_J3, tc_F1, tc_F2, tc_F3, tc_F4, tc_G1, tc_G2, tc_G3, tc_G4, tc_G5, tc_us, tc_un, s_one, s_holds, s_J13_bitCount, bz_bI, f_V_arc, hC.tq.f, e5, if_true], ?_, hC.fin hF 1, rfl⟩)
      simp (maxSteps := 3000000) (disch := omega) only [Option.bind_some, tc_bs, tq_let, tc_I1, tc_I2, tc_J1, tc_J2, tc_J3, tc_F1, tc_F2, tc_F3, tc_F4, tc_G1, tc_G2, tc_G3, tc_G4, tc_G5, tc_us, tc_un, s_one, s_holds, s_J13_bitCount, bz_bI, f_X11_arc, f_X11_refused, r1, r2, hC.mod.f, z1, n10, if_true, if_false]
  · obtain ⟨i1, r1⟩ := typ_no q1
    have e5 : f_X10_arc 0 x1 x2 x3 x4 (tc_mk S c) = some (.inl "java/lang/IndexOutOfBoundsException", tc_mk S c) := by
      simp (maxSteps := 3000000) (disch := omega) only [Option.bind_some, tc_bs, tq_let, tc_I1, tc_I2, tc_J1, tc_J2, tc_J3, tc_F1, tc_F2, tc_F3, tc_F4, tc_G1, tc_G2, tc_G3, tc_G4, tc_G5, tc_us, tc_un, s_one, s_holds, s_J13_bitCount, bz_bI, f_X10_arc, hC.tq.f, i1, tb_l]
    refine armB_any hC.mod hC.tq (.inr ⟨1, 0, c, tc_F c 155 0 1, by decide, by simp (maxSteps := 3000000) (disch := omega) only [Option.bind_some, tc_bs, tq_let, tc_I1, tc_I2, tc_J1, tc_J2, tc_J3, tc_F1, tc_F2, tc_F3, tc_F4, tc_G1, tc_G2, tc_G3, tc_G4, tc_G5, tc_us, tc_un, s_one, s_holds, s_J13_bitCount, bz_bI, f_V_arc, hC.tq.f, e5, if_true], ?_, hC.fin hF 1, rfl⟩)
    simp (maxSteps := 3000000) (disch := omega) only [Option.bind_some, tc_bs, tq_let, tc_I1, tc_I2, tc_J1, tc_J2, tc_J3, tc_F1, tc_F2, tc_F3, tc_F4, tc_G1, tc_G2, tc_G3, tc_G4, tc_G5, tc_us, tc_un, s_one, s_holds, s_J13_bitCount, bz_bI, f_X11_arc, f_X11_refused, r1, hC.mod.f, z1, n10, if_true, if_false]
theorem setFinal_C (hC : Cor S c di D m U P H Z X nw ed nv vt mv Dv) (hF : GF c D P H) (x1 x2 p : Int32) : ∃ h', armB (f_V_setFinal 0 x1 x2 p 205 (tc_mk S c)) (f_X11_setFinal 155 x1 x2 p) y4 = some (.inl (y4 + 5, h')) ∧ InvE di h' := by
  have n10 : ¬ (1 : Int32) = 0 := by decide
  have n20 : ¬ (2 : Int32) = 0 := by decide
  have z0 : tq_bz 0 = some 0 := rfl
  have z1 : tq_bz 1 = some 1 := rfl
  have i6 : ∀ c, tq_is (tc_mk S c) 131 6 = some () := hC.sch.is
  by_cases q1 : 0 ≤ x1 ∧ x1 < 6
  · obtain ⟨i1, r1, t, ht, rfl⟩ := typ_ok q1
    by_cases q2 : 0 ≤ x2 ∧ x2 < 4
    · obtain ⟨i2, r2, s, hs4, rfl⟩ := sta_ok q2
      rcases hC.loose with ⟨s1, s2, s3⟩ | ⟨s1, s2, s3⟩
      · have hs := hC.gs
        have v1 : c.1 135 t = Z.fi t := hs.1.2.1 t ht
        have v2 : c.1 186 t = Z.fi t := hs.2.1.2.1 t ht
        have hb2 := bit_two (Z.fi t) (show s < 32 by omega)
        have key : ∃ w, f_X10_setFinal 0 (nI t) (nI s) p (tc_mk S c) = some (.inr (bI (bt (Z.fi t) s)), tc_mk S (tc_I c 135 (upd (c.1 135) t w))) ∧
            ∀ d, d.1 186 = c.1 186 → d.2.2.1 155 42 = 0 → f_X11_setFinal 155 (nI t) (nI s) p (tc_mk S d) = some (bI (bt (Z.fi t) s), tc_mk S (tc_I (tc_F d 155 0 0) 186 (upd (c.1 186) t w))) := by
          by_cases q3 : p = 0
          · obtain ⟨w, ew⟩ : ∃ w, w = Z.fi t &&& (((1 : Int32) <<< (nI s &&& 31)) ^^^ (-1 : Int32)) := ⟨_, rfl⟩
            refine ⟨w, ?_, fun d d1 d2 => ?_⟩
            · simp (maxSteps := 3000000) (disch := omega) only [Option.bind_some, tc_bs, tq_let, tc_I1, tc_I2, tc_J1, tc_J2, tc_J3, tc_F1, tc_F2, tc_F3, tc_F4, tc_G1, tc_G2, tc_G3, tc_G4, tc_G5, tc_us, tc_un, s_one, s_holds, s_J13_bitCount, bz_bI, f_X10_setFinal, f_X6_markFinal, hC.tq.f, i1, i2, s3, tb_r, hC.sch.f, i6, rg_in (c.1 135) ht (show 6 < 2 ^ 31 by decide), rs_in (c.1 135) w ht (show 6 < 2 ^ 31 by decide), v1, q3, if_true, ← ew, hb2.1]
            · simp (maxSteps := 3000000) (disch := omega) only [Option.bind_some, tc_bs, tq_let, tc_I1, tc_I2, tc_J1, tc_J2, tc_J3, tc_F1, tc_F2, tc_F3, tc_F4, tc_G1, tc_G2, tc_G3, tc_G4, tc_G5, tc_us, tc_un, s_one, s_holds, s_J13_bitCount, bz_bI, f_X11_setFinal, f_X11_refused, r1, r2, hC.mod.f, d1, d2, z0, v2, q3, ← ew, hb2.2, n10, if_true, if_false]
          · obtain ⟨w, ew⟩ : ∃ w, w = Z.fi t ||| ((1 : Int32) <<< (nI s &&& 31)) := ⟨_, rfl⟩
            refine ⟨w, ?_, fun d d1 d2 => ?_⟩
            · simp (maxSteps := 3000000) (disch := omega) only [Option.bind_some, tc_bs, tq_let, tc_I1, tc_I2, tc_J1, tc_J2, tc_J3, tc_F1, tc_F2, tc_F3, tc_F4, tc_G1, tc_G2, tc_G3, tc_G4, tc_G5, tc_us, tc_un, s_one, s_holds, s_J13_bitCount, bz_bI, f_X10_setFinal, f_X6_markFinal, hC.tq.f, i1, i2, s3, tb_r, hC.sch.f, i6, rg_in (c.1 135) ht (show 6 < 2 ^ 31 by decide), rs_in (c.1 135) w ht (show 6 < 2 ^ 31 by decide), v1, q3, if_false, ← ew, hb2.1]
            · simp (maxSteps := 3000000) (disch := omega) only [Option.bind_some, tc_bs, tq_let, tc_I1, tc_I2, tc_J1, tc_J2, tc_J3, tc_F1, tc_F2, tc_F3, tc_F4, tc_G1, tc_G2, tc_G3, tc_G4, tc_G5, tc_us, tc_un, s_one, s_holds, s_J13_bitCount, bz_bI, f_X11_setFinal, f_X11_refused, r1, r2, hC.mod.f, d1, d2, z0, v2, q3, ← ew, hb2.2, n10, if_true, if_false]
        obtain ⟨w, e5, e6⟩ := key
        refine armB_any hC.mod hC.tq (.inl ⟨bI (bt (Z.fi t) s), tc_I c 135 (upd (c.1 135) t w), tc_I (tc_F (ansC (tc_I c 135 (upd (c.1 135) t w)) (bL (bI (bt (Z.fi t) s)))) 155 0 0) 186 (upd (c.1 186) t w), by simp (maxSteps := 3000000) (disch := omega) only [Option.bind_some, tc_bs, tq_let, tc_I1, tc_I2, tc_J1, tc_J2, tc_J3, tc_F1, tc_F2, tc_F3, tc_F4, tc_G1, tc_G2, tc_G3, tc_G4, tc_G5, tc_us, tc_un, s_one, s_holds, s_J13_bitCount, bz_bI, f_V_setFinal, hC.tq.f, e5, bL_bI]; rfl, e6 _ rfl s2, ?_, ?_, ?_⟩)
        · exact hC.smaL hF s1 rfl (Wr.trans (Wr.trans (Wr.trans (Wr.I _ (by omega)) (Wr.A _ rfl)) (Wr.F _ (by omega))) (Wr.I _ (by omega))) (hs.all (Z' := Z.sF t w) hs.1.1 (fun j hj => upd_eq hs.1.2.1 j hj) hs.1.2.2.1 hs.1.2.2.2.1 hs.1.2.2.2.2 hs.2.1.1 (fun j hj => upd_eq hs.2.1.2.1 j hj) hs.2.1.2.2.1 hs.2.1.2.2.2.1 hs.2.1.2.2.2.2 rfl rfl)
        · rfl
        · rfl
      · have e5 : f_X10_setFinal 0 (nI t) (nI s) p (tc_mk S c) = some (.inl "java/lang/IllegalStateException", tc_mk S c) := by
          simp (maxSteps := 3000000) (disch := omega) only [Option.bind_some, tc_bs, tq_let, tc_I1, tc_I2, tc_J1, tc_J2, tc_J3, tc_F1, tc_F2, tc_F3, tc_F4, tc_G1, tc_G2, tc_G3, tc_G4, tc_G5, tc_us, tc_un, s_one, s_holds, s_J13_bitCount, bz_bI, f_X10_setFinal, hC.tq.f, i1, i2, s3, tb_r, tb_l]
        refine armB_any hC.mod hC.tq (.inr ⟨2, 0, c, tc_F c 155 0 2, by decide, by simp (maxSteps := 3000000) (disch := omega) only [Option.bind_some, tc_bs, tq_let, tc_I1, tc_I2, tc_J1, tc_J2, tc_J3, tc_F1, tc_F2, tc_F3, tc_F4, tc_G1, tc_G2, tc_G3, tc_G4, tc_G5, tc_us, tc_un, s_one, s_holds, s_J13_bitCount, bz_bI, f_V_setFinal, hC.tq.f, e5, nSI, if_true, if_false], ?_, hC.fin hF 2, rfl⟩)
        simp (maxSteps := 3000000) (disch := omega) only [Option.bind_some, tc_bs, tq_let, tc_I1, tc_I2, tc_J1, tc_J2, tc_J3, tc_F1, tc_F2, tc_F3, tc_F4, tc_G1, tc_G2, tc_G3, tc_G4, tc_G5, tc_us, tc_un, s_one, s_holds, s_J13_bitCount, bz_bI, f_X11_setFinal, f_X11_refused, r1, r2, hC.mod.f, s2, z1, n10, n20, if_true, if_false]
    · obtain ⟨i2, r2⟩ := sta_no q2
      have e5 : f_X10_setFinal 0 (nI t) x2 p (tc_mk S c) = some (.inl "java/lang/IndexOutOfBoundsException", tc_mk S c) := by
        simp (maxSteps := 3000000) (disch := omega) only [Option.bind_some, tc_bs, tq_let, tc_I1, tc_I2, tc_J1, tc_J2, tc_J3, tc_F1, tc_F2, tc_F3, tc_F4, tc_G1, tc_G2, tc_G3, tc_G4, tc_G5, tc_us, tc_un, s_one, s_holds, s_J13_bitCount, bz_bI, f_X10_setFinal, hC.tq.f, i1, i2, tb_r, tb_l]
      refine armB_any hC.mod hC.tq (.inr ⟨1, 0, c, tc_F c 155 0 1, by decide, by simp (maxSteps := 3000000) (disch := omega) only [Option.bind_some, tc_bs, tq_let, tc_I1, tc_I2, tc_J1, tc_J2, tc_J3, tc_F1, tc_F2, tc_F3, tc_F4, tc_G1, tc_G2, tc_G3, tc_G4, tc_G5, tc_us, tc_un, s_one, s_holds, s_J13_bitCount, bz_bI, f_V_setFinal, hC.tq.f, e5, if_true], ?_, hC.fin hF 1, rfl⟩)
      simp (maxSteps := 3000000) (disch := omega) only [Option.bind_some, tc_bs, tq_let, tc_I1, tc_I2, tc_J1, tc_J2, tc_J3, tc_F1, tc_F2, tc_F3, tc_F4, tc_G1, tc_G2, tc_G3, tc_G4, tc_G5, tc_us, tc_un, s_one, s_holds, s_J13_bitCount, bz_bI, f_X11_setFinal, f_X11_refused, r1, r2, hC.mod.f, z1, n10, if_true, if_false]
  · obtain ⟨i1, r1⟩ := typ_no q1
    have e5 : f_X10_setFinal 0 x1 x2 p (tc_mk S c) = some (.inl "java/lang/IndexOutOfBoundsException", tc_mk S c) := by
      simp (maxSteps := 3000000) (disch := omega) only [Option.bind_some, tc_bs, tq_let, tc_I1, tc_I2, tc_J1, tc_J2, tc_J3, tc_F1, tc_F2, tc_F3, tc_F4, tc_G1, tc_G2, tc_G3, tc_G4, tc_G5, tc_us, tc_un, s_one, s_holds, s_J13_bitCount, bz_bI, f_X10_setFinal, hC.tq.f, i1, tb_l]
    refine armB_any hC.mod hC.tq (.inr ⟨1, 0, c, tc_F c 155 0 1, by decide, by simp (maxSteps := 3000000) (disch := omega) only [Option.bind_some, tc_bs, tq_let, tc_I1, tc_I2, tc_J1, tc_J2, tc_J3, tc_F1, tc_F2, tc_F3, tc_F4, tc_G1, tc_G2, tc_G3, tc_G4, tc_G5, tc_us, tc_un, s_one, s_holds, s_J13_bitCount, bz_bI, f_V_setFinal, hC.tq.f, e5, if_true], ?_, hC.fin hF 1, rfl⟩)
    simp (maxSteps := 3000000) (disch := omega) only [Option.bind_some, tc_bs, tq_let, tc_I1, tc_I2, tc_J1, tc_J2, tc_J3, tc_F1, tc_F2, tc_F3, tc_F4, tc_G1, tc_G2, tc_G3, tc_G4, tc_G5, tc_us, tc_un, s_one, s_holds, s_J13_bitCount, bz_bI, f_X11_setFinal, f_X11_refused, r1, hC.mod.f, z1, n10, if_true, if_false]
theorem arm_setFinal (h : InvE di h0) (e1 : tq_sx n xs (y4 + 1) = some x1) (e2 : tq_sx n xs (y4 + 2) = some x2) (e3 : tq_sx n xs (y4 + 3) = some x3) : ∃ h', f_V_law_c2386 n xs 0 155 205 y4 h0 = some (.inl (y4 + 5, h')) ∧ InvE di h' := by
  obtain ⟨S, c, D, m, U, P, H, Z, X, nw, ed, nv, vt, mv, Dv, rfl, hC, hF⟩ := h
  have e0 : f_V_law_c2386 n xs 0 155 205 y4 (tc_mk S c) = armB (f_V_setFinal 0 x1 x2 (if x3 = 0 then 0 else 1) 205 (tc_mk S c)) (f_X11_setFinal 155 x1 x2 (if x3 = 0 then 0 else 1)) y4 := by
    unfold f_V_law_c2386; rw [e1, e2, e3]; rfl
  rw [e0]
  exact setFinal_C hC hF _ _ _
/-- the bit of a type, set or taken away -/
theorem bt_put (x : Int32) {k : Nat} (hk : k < 6) {j : Nat} (hj : j < 6) (b : Bool) : bt (if b = false then x &&& (((1 : Int32) <<< (nI k &&& 31)) ^^^ (-1 : Int32)) else x ||| ((1 : Int32) <<< (nI k &&& 31))) j = if j = k then b else bt x j := by
  have hp : ∀ k, k < 6 → 2 ^ k < 2 ^ 32 := by decide
  rw [sh1 k (by omega)]
  have e1 : bt (nI (2 ^ k)) j = decide (j = k) := by
    rw [bt_nI (hp k hk), Nat.testBit_two_pow]
    by_cases e : j = k
    · subst e; simp
    · simp [e, Ne.symm e]
  cases b with
  | true => rw [if_neg (by decide), b_or, e1]; by_cases e : j = k <;> simp [e]
  | false => rw [if_pos rfl, b_and, b_xor, b_m1 j (by omega), e1]; by_cases e : j = k <;> simp [e]
theorem allowTexts_C (hC : Cor S c di D m U P H Z X nw ed nv vt mv Dv) (hF : GF c D P H) (x1 : Int32) (b : Bool) : ∃ h', armB (f_V_allowTexts 0 x1 (bI b) 205 (tc_mk S c)) (f_X11_allowTexts 155 x1 (bI b)) y4 = some (.inl (y4 + 5, h')) ∧ InvE di h' := by
  have n10 : ¬ (1 : Int32) = 0 := by decide
  have n20 : ¬ (2 : Int32) = 0 := by decide
  have z1 : tq_bz 1 = some 1 := rfl
  have z0 : tq_bz 0 = some 0 := rfl
  have i6 : ∀ c, tq_is (tc_mk S c) 131 6 = some () := hC.sch.is
  by_cases q1 : 0 ≤ x1 ∧ x1 < 6
  · obtain ⟨i1, r1, t, ht, rfl⟩ := typ_ok q1
    rcases hC.loose with ⟨s1, s2, s3⟩ | ⟨s1, s2, s3⟩
    · have hs := hC.gs
      have v1 : bt (c.2.2.1 131 8) t = Z.tx t := hs.1.2.2.2.2 t ht
      have v2 : c.1 184 t = bI (Z.tx t) := hs.2.1.2.2.2.2 t ht
      have hb2 := bit_two (c.2.2.1 131 8) (show t < 32 by omega)
      rw [v1] at hb2
      obtain ⟨w, ew⟩ : ∃ w, w = (if b = false then c.2.2.1 131 8 &&& (((1 : Int32) <<< (nI t &&& 31)) ^^^ (-1 : Int32)) else c.2.2.1 131 8 ||| ((1 : Int32) <<< (nI t &&& 31))) := ⟨_, rfl⟩
      have hw : ∀ j, j < 6 → bt w j = if j = t then b else bt (c.2.2.1 131 8) j := fun j hj => by rw [ew]; exact bt_put _ ht hj b
      have e5 : f_X10_allowTexts 0 (nI t) (bI b) (tc_mk S c) = some (.inr (bI (Z.tx t)), tc_mk S (tc_F c 131 8 w)) := by
        simp (maxSteps := 3000000) (disch := omega) only [Option.bind_some, tc_bs, tq_let, tc_I1, tc_I2, tc_J1, tc_J2, tc_J3, tc_F1, tc_F2, tc_F3, tc_F4, tc_G1, tc_G2, tc_G3, tc_G4, tc_G5, tc_us, tc_un, s_one, s_holds, s_J13_bitCount, bz_bI, f_X10_allowTexts, f_X6_markTexts, hC.tq.f, i1, s3, tb_r, hC.sch.f, i6, bI_0, ← ew, hb2.1]
      refine armB_any hC.mod hC.tq (.inl ⟨bI (Z.tx t), tc_F c 131 8 w, tc_I (tc_F (ansC (tc_F c 131 8 w) (bL (bI (Z.tx t)))) 155 0 0) 184 (upd (c.1 184) t (bI b)), by simp (maxSteps := 3000000) (disch := omega) only [Option.bind_some, tc_bs, tq_let, tc_I1, tc_I2, tc_J1, tc_J2, tc_J3, tc_F1, tc_F2, tc_F3, tc_F4, tc_G1, tc_G2, tc_G3, tc_G4, tc_G5, tc_us, tc_un, s_one, s_holds, s_J13_bitCount, bz_bI, f_V_allowTexts, hC.tq.f, e5, bL_bI]; rfl, ?_, ?_, ?_, ?_⟩)
      · have s2' : (tc_F c 131 8 w).2.2.1 155 42 = 0 := s2
        simp (maxSteps := 3000000) (disch := omega) only [Option.bind_some, tc_bs, tq_let, tc_I1, tc_I2, tc_J1, tc_J2, tc_J3, tc_F1, tc_F2, tc_F3, tc_F4, tc_G1, tc_G2, tc_G3, tc_G4, tc_G5, tc_us, tc_un, s_one, s_holds, s_J13_bitCount, bz_bI, f_X11_allowTexts, f_X11_refused, r1, hC.mod.f, ans1, ans2, s2', s2, z0, v2, n10, if_true, if_false]
      · refine hC.smaL hF s1 rfl (Wr.trans (Wr.trans (Wr.trans (Wr.F _ (by omega)) (Wr.A _ rfl)) (Wr.F _ (by omega))) (Wr.I _ (by omega))) (hs.all (Z' := Z.sT t b) hs.1.1 hs.1.2.1 hs.1.2.2.1 hs.1.2.2.2.1 (fun j hj => ?_) hs.2.1.1 hs.2.1.2.1 hs.2.1.2.2.1 hs.2.1.2.2.2.1 (fun j hj => ?_) rfl rfl)
        · show bt w j = if j = t then b else Z.tx j
          rw [hw j hj, hs.1.2.2.2.2 j hj]
        · show upd (c.1 184) t (bI b) j = bI (if j = t then b else Z.tx j)
          by_cases e : j = t
          · subst e; rw [upd_s, if_pos rfl]
          · rw [upd_n _ _ e, if_neg e]; exact hs.2.1.2.2.2.2 j hj
      · rfl
      · rfl
    · have e5 : f_X10_allowTexts 0 (nI t) (bI b) (tc_mk S c) = some (.inl "java/lang/IllegalStateException", tc_mk S c) := by
        simp (maxSteps := 3000000) (disch := omega) only [Option.bind_some, tc_bs, tq_let, tc_I1, tc_I2, tc_J1, tc_J2, tc_J3, tc_F1, tc_F2, tc_F3, tc_F4, tc_G1, tc_G2, tc_G3, tc_G4, tc_G5, tc_us, tc_un, s_one, s_holds, s_J13_bitCount, bz_bI, f_X10_allowTexts, hC.tq.f, i1, s3, tb_r, tb_l]
      refine armB_any hC.mod hC.tq (.inr ⟨2, 0, c, tc_F c 155 0 2, by decide, by simp (maxSteps := 3000000) (disch := omega) only [Option.bind_some, tc_bs, tq_let, tc_I1, tc_I2, tc_J1, tc_J2, tc_J3, tc_F1, tc_F2, tc_F3, tc_F4, tc_G1, tc_G2, tc_G3, tc_G4, tc_G5, tc_us, tc_un, s_one, s_holds, s_J13_bitCount, bz_bI, f_V_allowTexts, hC.tq.f, e5, nSI, if_true, if_false], ?_, hC.fin hF 2, rfl⟩)
      simp (maxSteps := 3000000) (disch := omega) only [Option.bind_some, tc_bs, tq_let, tc_I1, tc_I2, tc_J1, tc_J2, tc_J3, tc_F1, tc_F2, tc_F3, tc_F4, tc_G1, tc_G2, tc_G3, tc_G4, tc_G5, tc_us, tc_un, s_one, s_holds, s_J13_bitCount, bz_bI, f_X11_allowTexts, f_X11_refused, r1, hC.mod.f, s2, z1, n10, n20, if_true, if_false]
  · obtain ⟨i1, r1⟩ := typ_no q1
    have e5 : f_X10_allowTexts 0 x1 (bI b) (tc_mk S c) = some (.inl "java/lang/IndexOutOfBoundsException", tc_mk S c) := by
      simp (maxSteps := 3000000) (disch := omega) only [Option.bind_some, tc_bs, tq_let, tc_I1, tc_I2, tc_J1, tc_J2, tc_J3, tc_F1, tc_F2, tc_F3, tc_F4, tc_G1, tc_G2, tc_G3, tc_G4, tc_G5, tc_us, tc_un, s_one, s_holds, s_J13_bitCount, bz_bI, f_X10_allowTexts, hC.tq.f, i1, tb_l]
    refine armB_any hC.mod hC.tq (.inr ⟨1, 0, c, tc_F c 155 0 1, by decide, by simp (maxSteps := 3000000) (disch := omega) only [Option.bind_some, tc_bs, tq_let, tc_I1, tc_I2, tc_J1, tc_J2, tc_J3, tc_F1, tc_F2, tc_F3, tc_F4, tc_G1, tc_G2, tc_G3, tc_G4, tc_G5, tc_us, tc_un, s_one, s_holds, s_J13_bitCount, bz_bI, f_V_allowTexts, hC.tq.f, e5, if_true], ?_, hC.fin hF 1, rfl⟩)
    simp (maxSteps := 3000000) (disch := omega) only [Option.bind_some, tc_bs, tq_let, tc_I1, tc_I2, tc_J1, tc_J2, tc_J3, tc_F1, tc_F2, tc_F3, tc_F4, tc_G1, tc_G2, tc_G3, tc_G4, tc_G5, tc_us, tc_un, s_one, s_holds, s_J13_bitCount, bz_bI, f_X11_allowTexts, f_X11_refused, r1, hC.mod.f, z1, n10, if_true, if_false]
theorem if_bI (x : Int32) : (if x = 0 then (0 : Int32) else 1) = bI (decide (x ≠ 0)) := by
  by_cases q : x = 0 <;> simp [q, bI]
theorem arm_allowTexts (h : InvE di h0) (e1 : tq_sx n xs (y4 + 1) = some x1) (e2 : tq_sx n xs (y4 + 2) = some x2) : ∃ h', f_V_law_c2489 n xs 0 155 205 y4 h0 = some (.inl (y4 + 5, h')) ∧ InvE di h' := by
  obtain ⟨S, c, D, m, U, P, H, Z, X, nw, ed, nv, vt, mv, Dv, rfl, hC, hF⟩ := h
  have e0 : f_V_law_c2489 n xs 0 155 205 y4 (tc_mk S c) = armB (f_V_allowTexts 0 x1 (if x2 = 0 then 0 else 1) 205 (tc_mk S c)) (f_X11_allowTexts 155 x1 (if x2 = 0 then 0 else 1)) y4 := by
    unfold f_V_law_c2489; rw [e1, e2]; rfl
  rw [e0, if_bI]
  exact allowTexts_C hC hF _ _
end SME
