/-! ===== calls that find ===== -/
def Qr (c : tc_C) (D : Doc) (P : Pat) (H : Nat → Bool) : Nat → Bool := if c.2.2.1 155 32 = 0 then D.al else D.sn P H
section FND
variable {S : tq_H} {c c' c1 c2 : tc_C} {di : DI} {D : Doc} {m : Nat} {U : Ups} {P : Pat} {H Q : Nat → Bool} {Z : Sma} {X : Nat → Bool} {nw : Nat} {ed : Option Nat} {nv : Nat} {vt mv : Nat → Nat} {Dv : Nat → Doc} {p q r k b i n : Nat} {x x1 x2 y y4 a v : Int32} {xs : Nat → Int32} {h0 : tq_H}
theorem Cor.rread (h : Cor S c di D m U P H Z X nw ed nv vt mv Dv) (hF : GF c D P H) :
    ∃ c', f_X11_read 155 (tc_mk S c) = some (tc_mk S c') ∧ Cor S c' di D m U P H Z X nw ed nv vt mv Dv ∧ GF c' D P H ∧ c'.2.2.1 = c.2.2.1 ∧ c'.2.1 205 = c.2.1 205 ∧ RW c' D m P (Qr c D P H) ∧ RT c' D (D.fnd P (Qr c D P H)) P.n := by
  obtain ⟨c', v1, v2, v3, v4⟩ := s_X11_read h.mod h.gt.1.1 h.gt.2.2.2.1 h.gt.2.2.2.2 h.gp.2.1 h.gp.2.2 h.2.2.2.2.2.1.2.2.1
  exact ⟨c', v1, h.sc (Rf.sc v2), hF.rf h v2, v2.2.2.1, v2.2.1 205 (by omega), v3, v4⟩
theorem Cor.e17 (h : Cor S c di D m U P H Z X nw ed nv vt mv Dv) : tq_gi (tc_mk S c) 0 10 17 = some (c.2.2.1 0 17) := by simp (maxSteps := 3000000) (disch := omega) only [Option.bind_some, tc_bs, tq_let, tc_I1, tc_I2, tc_J1, tc_J2, tc_J3, tc_F1, tc_F2, tc_F3, tc_F4, tc_G1, tc_G2, tc_G3, tc_G4, tc_G5, tc_us, tc_un, s_one, s_holds, s_J13_bitCount, bz_bI, h.tq.f]
theorem Cor.spot (h : Cor S c di D m U P H Z X nw ed nv vt mv Dv) (hi : D.At v i) : f_X3_spotOf 2 v (tc_mk S c) = some (nI i) := by
  have e := s_X3_spotOf (c := c) h.t1 v
  rw [lay_at h.gt.1.1 h.gt.2.1 hi] at e
  exact e
theorem Cor.aj179 (h : Cor S c di D m U P H Z X nw ed nv vt mv Dv) (hp : p < P.n) (hi : i < D.n) : ((60 : Int32) * nI p + nI (D.ord i) = nI (60 * p + D.ord i)) ∧ tq_aj (tc_mk S c) 179 (nI (60 * p + D.ord i)) = some (c.2.1 179 (60 * p + D.ord i)) := by
  have h20 := h.gp.2.2.1
  have h60 := D.ord_lt h.gt.1.1 hi
  refine ⟨?_, by simp (maxSteps := 3000000) (disch := omega) only [Option.bind_some, tc_bs, tq_let, tc_I1, tc_I2, tc_J1, tc_J2, tc_J3, tc_F1, tc_F2, tc_F3, tc_F4, tc_G1, tc_G2, tc_G3, tc_G4, tc_G5, tc_us, tc_un, s_one, s_holds, s_J13_bitCount, bz_bI, h.mod.f]⟩
  rw [show (60 : Int32) * nI p = nI (60 * p) from nI_mul 60 p, nI_add]
theorem Cor.found_L (hC : Cor S c di D m U P H Z X nw ed nv vt mv Dv) (hF : GF c D P H) : ∃ h', armI (f_V_found 0 x1 x2 205 (tc_mk S c)) (f_X11_found 155 x1 x2) y4 = some (.inl (y4 + 5, h')) ∧ InvE di h' := by
  have n10 : ¬ (1 : Int32) = 0 := by decide
  have z0 : tq_bz 0 = some 0 := rfl
  have z1 : tq_bz 1 = some 1 := rfl
  have b1 : ¬ bI true = 0 := by decide
  have b0 : bI false = 0 := rfl
  obtain ⟨b, c', Q, r, e1, hC', hF', hfb, hQ, hr, hft, hQe, hprep⟩ := hC.fnd hF
  have e17 := hC.e17
  obtain ⟨pc, pr, hP⟩ := hC'.gp
  have h20 := hP.1
  have hg := hC'.gt
  have hw := hg.1.1
  have isp := s_X11_isPath (S := S) hC'.mod pr.1 hP x1
  have ib : ∀ c, tq_is (tc_mk S c) b 2 = some () := fun c => by simp (maxSteps := 3000000) (disch := omega) only [Option.bind_some, tc_bs, tq_let, tc_I1, tc_I2, tc_J1, tc_J2, tc_J3, tc_F1, tc_F2, tc_F3, tc_F4, tc_G1, tc_G2, tc_G3, tc_G4, tc_G5, tc_us, tc_un, s_one, s_holds, s_J13_bitCount, bz_bI, hfb.f]
  by_cases qp : 0 ≤ x1 ∧ x1 < nI P.n
  · rw [decide_eq_true qp] at isp
    have cn := (hC'.npath x1).1 qp
    obtain ⟨p, hp31, rfl⟩ := nI_of (Int32.not_lt.mpr qp.1)
    have hp : p < P.n := (nI_ltI hp31 (by omega)).mp qp.2
    rcases D.at_or x2 with ⟨i, hi⟩ | hi
    · obtain ⟨hin, rfl⟩ := id hi
      have es := hC'.spot hi
      have ese := s_X2_sees (S := S) hfb hw hft.1 hin
      have isn := s_X11_isNode hC'.mod hw hg.2.2.2.1 hi
      cases hQi : Q i with
      | true =>
        rw [hQi] at ese
        have cs : f_X10_needStart 0 b (nI (D.ord i)) (tc_mk S c') = some (.inr (), tc_mk S c') := by
          simp (maxSteps := 3000000) (disch := omega) only [Option.bind_some, tc_bs, tq_let, tc_I1, tc_I2, tc_J1, tc_J2, tc_J3, tc_F1, tc_F2, tc_F3, tc_F4, tc_G1, tc_G2, tc_G3, tc_G4, tc_G5, tc_us, tc_un, s_one, s_holds, s_J13_bitCount, bz_bI, f_X10_needStart, hC'.tq.f, hC'.t1.f, hC'.need hi, tb_r, es, ib, ese, b1, if_false]
        obtain ⟨d, u1, u2, u3, u4, u5, r', hr1, hr2, hft'⟩ := hprep p c' hp hC' hF' rfl
        have es' := u2.spot hi
        have ef := s_X2_foundFrom (S := S) hfb hw hft' hr1 (by omega) hin
        have hX : ∀ j, D.fnd P Q p i j = true → j < D.n := fun j h => (Doc.fnd_in hQ h).1
        have e5 : f_X10_found 0 (nI p) (nI (D.ord i)) (tc_mk S c) = some (.inr (nI (fb_ct (D.fnd P Q p i) 64)), tc_mk S d) := by
          unfold f_X10_found
          rw [e17, Option.bind_some, e1]
          simp (maxSteps := 3000000) (disch := omega) only [Option.bind_some, tc_bs, tq_let, tc_I1, tc_I2, tc_J1, tc_J2, tc_J3, tc_F1, tc_F2, tc_F3, tc_F4, tc_G1, tc_G2, tc_G3, tc_G4, tc_G5, tc_us, tc_un, s_one, s_holds, s_J13_bitCount, bz_bI, hC.tq.f, cn, tb_r, cs, ib, u1, hC.t1.f, es', ef, ct_mkS]
        have hCa := u2.sc (ans_sc d (nI (fb_ct (D.fnd P Q p i) 64)).toInt64)
        have hFa := u3.ans u2 (nI (fb_ct (D.fnd P Q p i) 64)).toInt64
        obtain ⟨w, w1, w2, w3, w4, w5, w6, w7⟩ := hCa.rread hFa
        have hq : Qr (ansC d (nI (fb_ct (D.fnd P Q p i) 64)).toInt64) D P H = Q := by
          rw [hQe, ← u4]; rfl
        rw [hq] at w6 w7
        have isp' := s_X11_isPath (S := S) hCa.mod hCa.gp.2.1.1 hP (nI p)
        rw [decide_eq_true qp] at isp'
        have isn' := s_X11_isNode hCa.mod hw hCa.gt.2.2.2.1 hi
        refine arm_gen u2 u3 (.inl ⟨nI (fb_ct (D.fnd P Q p i) 64), tc_F w 155 0 0, by simp (maxSteps := 3000000) (disch := omega) only [Option.bind_some, tc_bs, tq_let, tc_I1, tc_I2, tc_J1, tc_J2, tc_J3, tc_F1, tc_F2, tc_F3, tc_F4, tc_G1, tc_G2, tc_G3, tc_G4, tc_G5, tc_us, tc_un, s_one, s_holds, s_J13_bitCount, bz_bI, f_V_found, hC.tq.f, e5]; rfl, ?_, w2.sc (thr_sc w 0), w3.thr w2 0, by rw [tc_F3, tc_us, tc_us], w5⟩)
        generalize ansC d (nI (fb_ct (D.fnd P Q p i) 64)).toInt64 = dd at *
        have ebit := nodes_if hw Q (1 : Int32) 0 hin
        rw [hQi, if_pos (show (true = true) from rfl)] at ebit
        have e31 := w6.2.2.2
        have w2' := w2.sc (thr_sc w 0)
        obtain ⟨ea, eb⟩ := w2'.aj179 hp hin
        have ec : (tc_F w 155 0 0).2.1 179 (60 * p + D.ord i) = mkS (D.nodesOf (D.fnd P Q p i)) := w7 p i hp hin
        rw [ec] at eb
        have ed := s_X11_bitsN hw hX (tc_mk S (tc_F w 155 0 0))
        simp (maxSteps := 3000000) (disch := omega) only [Option.bind_some, tc_bs, tq_let, tc_I1, tc_I2, tc_J1, tc_J2, tc_J3, tc_F1, tc_F2, tc_F3, tc_F4, tc_G1, tc_G2, tc_G3, tc_G4, tc_G5, tc_us, tc_un, s_one, s_holds, s_J13_bitCount, bz_bI, f_X11_found, f_X11_refused, hC.mod.f, isp', isn', b1, n10, w1, e31, ebit, z0, ea, eb, ed, if_true, if_false]
      | false =>
        rw [hQi] at ese
        have cs : f_X10_needStart 0 b (nI (D.ord i)) (tc_mk S c') = some (.inl "java/lang/IndexOutOfBoundsException", tc_mk S c') := by
          simp (maxSteps := 3000000) (disch := omega) only [Option.bind_some, tc_bs, tq_let, tc_I1, tc_I2, tc_J1, tc_J2, tc_J3, tc_F1, tc_F2, tc_F3, tc_F4, tc_G1, tc_G2, tc_G3, tc_G4, tc_G5, tc_us, tc_un, s_one, s_holds, s_J13_bitCount, bz_bI, f_X10_needStart, hC'.tq.f, hC'.t1.f, hC'.need hi, tb_r, es, ib, ese, b0, if_true]
        have e5 : f_X10_found 0 (nI p) (nI (D.ord i)) (tc_mk S c) = some (.inl "java/lang/IndexOutOfBoundsException", tc_mk S c') := by
          unfold f_X10_found
          rw [e17, Option.bind_some, e1]
          simp (maxSteps := 3000000) (disch := omega) only [Option.bind_some, tc_bs, tq_let, tc_I1, tc_I2, tc_J1, tc_J2, tc_J3, tc_F1, tc_F2, tc_F3, tc_F4, tc_G1, tc_G2, tc_G3, tc_G4, tc_G5, tc_us, tc_un, s_one, s_holds, s_J13_bitCount, bz_bI, hC.tq.f, cn, tb_r, tb_l, cs]
        obtain ⟨w, w1, w2, w3, w4, w5, w6, w7⟩ := hC'.rread hF'
        have hq : Qr c' D P H = Q := hQe.symm
        rw [hq] at w6 w7
        have ebit := nodes_if hw Q (1 : Int32) 0 hin
        rw [hQi, if_neg (show ¬ (false = true) by decide)] at ebit
        have e31 := w6.2.2.2
        refine arm_gen hC' hF' (.inr ⟨1, 0, tc_F w 155 0 1, by decide, by simp (maxSteps := 3000000) (disch := omega) only [Option.bind_some, tc_bs, tq_let, tc_I1, tc_I2, tc_J1, tc_J2, tc_J3, tc_F1, tc_F2, tc_F3, tc_F4, tc_G1, tc_G2, tc_G3, tc_G4, tc_G5, tc_us, tc_un, s_one, s_holds, s_J13_bitCount, bz_bI, f_V_found, hC.tq.f, e5, if_true], ?_, w2.sc (thr_sc w 1), w3.thr w2 1, by rw [tc_F3, tc_us, tc_us]⟩)
        simp (maxSteps := 3000000) (disch := omega) only [Option.bind_some, tc_bs, tq_let, tc_I1, tc_I2, tc_J1, tc_J2, tc_J3, tc_F1, tc_F2, tc_F3, tc_F4, tc_G1, tc_G2, tc_G3, tc_G4, tc_G5, tc_us, tc_un, s_one, s_holds, s_J13_bitCount, bz_bI, f_X11_found, f_X11_refused, hC.mod.f, isp, isn, b1, n10, w1, e31, ebit, z1, if_true, if_false]
    · have cs : f_X10_needStart 0 b x2 (tc_mk S c') = some (.inl "java/lang/IndexOutOfBoundsException", tc_mk S c') := by
        simp (maxSteps := 3000000) (disch := omega) only [Option.bind_some, tc_bs, tq_let, tc_I1, tc_I2, tc_J1, tc_J2, tc_J3, tc_F1, tc_F2, tc_F3, tc_F4, tc_G1, tc_G2, tc_G3, tc_G4, tc_G5, tc_us, tc_un, s_one, s_holds, s_J13_bitCount, bz_bI, f_X10_needStart, hC'.tq.f, hC'.need_n hi, tb_l]
      have isn := s_X11_isNode_n hC'.mod hw hg.2.2.2.1 hi
      have e5 : f_X10_found 0 (nI p) x2 (tc_mk S c) = some (.inl "java/lang/IndexOutOfBoundsException", tc_mk S c') := by
        unfold f_X10_found
        rw [e17, Option.bind_some, e1]
        simp (maxSteps := 3000000) (disch := omega) only [Option.bind_some, tc_bs, tq_let, tc_I1, tc_I2, tc_J1, tc_J2, tc_J3, tc_F1, tc_F2, tc_F3, tc_F4, tc_G1, tc_G2, tc_G3, tc_G4, tc_G5, tc_us, tc_un, s_one, s_holds, s_J13_bitCount, bz_bI, hC.tq.f, cn, tb_r, tb_l, cs]
      refine arm_gen hC' hF' (.inr ⟨1, 0, tc_F c' 155 0 1, by decide, by simp (maxSteps := 3000000) (disch := omega) only [Option.bind_some, tc_bs, tq_let, tc_I1, tc_I2, tc_J1, tc_J2, tc_J3, tc_F1, tc_F2, tc_F3, tc_F4, tc_G1, tc_G2, tc_G3, tc_G4, tc_G5, tc_us, tc_un, s_one, s_holds, s_J13_bitCount, bz_bI, f_V_found, hC.tq.f, e5, if_true], ?_, hC'.sc (thr_sc c' 1), hF'.thr hC' 1, by rw [tc_F3, tc_us, tc_us]⟩)
      simp (maxSteps := 3000000) (disch := omega) only [Option.bind_some, tc_bs, tq_let, tc_I1, tc_I2, tc_J1, tc_J2, tc_J3, tc_F1, tc_F2, tc_F3, tc_F4, tc_G1, tc_G2, tc_G3, tc_G4, tc_G5, tc_us, tc_un, s_one, s_holds, s_J13_bitCount, bz_bI, f_X11_found, f_X11_refused, hC.mod.f, isp, isn, b1, n10, z1, if_true, if_false]
  · rw [decide_eq_false qp] at isp
    have cn := (hC'.npath x1).2 qp
    have e5 : f_X10_found 0 x1 x2 (tc_mk S c) = some (.inl "java/lang/IndexOutOfBoundsException", tc_mk S c') := by
      unfold f_X10_found
      rw [e17, Option.bind_some, e1]
      simp (maxSteps := 3000000) (disch := omega) only [Option.bind_some, tc_bs, tq_let, tc_I1, tc_I2, tc_J1, tc_J2, tc_J3, tc_F1, tc_F2, tc_F3, tc_F4, tc_G1, tc_G2, tc_G3, tc_G4, tc_G5, tc_us, tc_un, s_one, s_holds, s_J13_bitCount, bz_bI, hC.tq.f, cn, tb_l]
    refine arm_gen hC' hF' (.inr ⟨1, 0, tc_F c' 155 0 1, by decide, by simp (maxSteps := 3000000) (disch := omega) only [Option.bind_some, tc_bs, tq_let, tc_I1, tc_I2, tc_J1, tc_J2, tc_J3, tc_F1, tc_F2, tc_F3, tc_F4, tc_G1, tc_G2, tc_G3, tc_G4, tc_G5, tc_us, tc_un, s_one, s_holds, s_J13_bitCount, bz_bI, f_V_found, hC.tq.f, e5, if_true], ?_, hC'.sc (thr_sc c' 1), hF'.thr hC' 1, by rw [tc_F3, tc_us, tc_us]⟩)
    simp (maxSteps := 3000000) (disch := omega) only [Option.bind_some, tc_bs, tq_let, tc_I1, tc_I2, tc_J1, tc_J2, tc_J3, tc_F1, tc_F2, tc_F3, tc_F4, tc_G1, tc_G2, tc_G3, tc_G4, tc_G5, tc_us, tc_un, s_one, s_holds, s_J13_bitCount, bz_bI, f_X11_found, f_X11_refused, hC.mod.f, isp, b0, n10, z1, if_true, if_false]
theorem arm_found (h : InvE di h0) (e1 : tq_sx n xs (y4 + 1) = some x1) (e2 : tq_sx n xs (y4 + 2) = some x2) : ∃ h', f_V_law_c1891 n xs 0 155 205 y4 h0 = some (.inl (y4 + 5, h')) ∧ InvE di h' := by
  obtain ⟨S, c, D, m, U, P, H, Z, X, nw, ed, nv, vt, mv, Dv, rfl, hC, hF⟩ := h
  have e0 : f_V_law_c1891 n xs 0 155 205 y4 (tc_mk S c) = armI (f_V_found 0 x1 x2 205 (tc_mk S c)) (f_X11_found 155 x1 x2) y4 := by
    unfold f_V_law_c1891; rw [e1, e2]; rfl
  rw [e0]
  exact hC.found_L hF
theorem ct_s0 {p : Nat → Bool} {n : Nat} (h : p n = false) : fb_ct p (n + 1) = fb_ct p n := by rw [fb_ct_succ, h]; rfl
theorem ct_s1 {p : Nat → Bool} {n : Nat} (h : p n = true) : fb_ct p (n + 1) = fb_ct p n + 1 := by rw [fb_ct_succ, h]; rfl
/-- the class counts what is found one by one: the same -/
theorem anew_loop (hT : tc_Tree S 1) (hq : tc_Tq S ed) (hw : D.wf) (hL : Lay c 1 D) {F : Nat → Bool} (hFn : ∀ j, F j = true → j < D.n) : tq_loop (f_X10_foundAnew_b59 0 (mkS F) (tc_mk S c)) tq_N ((0 : Int32), (0 : Int32)) = some (nI (fb_ct F 64)) := by
  have hn := D.n_le hw
  have e1 : f_X3_count 2 (tc_mk S c) = some (nI D.n) := s_X3_count hT hL
  have e0 : fb_ct F 64 = fb_ct F D.n := ct_cut 64 (fun j hj => by cases h : F j with | false => rfl | true => have := hFn j h; omega) (by omega)
  rw [e0]
  refine tc_scan (B := f_X10_foundAnew_b59 0 (mkS F) (tc_mk S c)) D.n (fun i => nI (fb_ct F i)) (by omega) (fun i hi => ?_) ?_
  · have e2 : ¬ nI i ≥ nI D.n := nI_ge hi (by omega)
    have e3 : hasI (mkS F) (nI i) = F i := hasI_mkS F (by omega)
    cases hFi : F i with
    | true =>
      rw [hFi] at e3
      have e4 := ct_s1 hFi
      have b1 : ¬ bI true = 0 := by decide
      simp (maxSteps := 3000000) (disch := omega) only [Option.bind_some, tc_bs, tq_let, tc_I1, tc_I2, tc_J1, tc_J2, tc_J3, tc_F1, tc_F2, tc_F3, tc_F4, tc_G1, tc_G2, tc_G3, tc_G4, tc_G5, tc_us, tc_un, s_one, s_holds, s_J13_bitCount, bz_bI, f_X10_foundAnew_b59, hq.f, hT.f, hT.is, e1, e2, e3, b1, if_false, nI_1, e4]
    | false =>
      rw [hFi] at e3
      have e4 := ct_s0 hFi
      have b0 : bI false = 0 := rfl
      simp (maxSteps := 3000000) (disch := omega) only [Option.bind_some, tc_bs, tq_let, tc_I1, tc_I2, tc_J1, tc_J2, tc_J3, tc_F1, tc_F2, tc_F3, tc_F4, tc_G1, tc_G2, tc_G3, tc_G4, tc_G5, tc_us, tc_un, s_one, s_holds, s_J13_bitCount, bz_bI, f_X10_foundAnew_b59, hq.f, hT.f, hT.is, e1, e2, e3, b0, if_true, if_false, nI_1, e4]
  · have e2 : nI D.n ≥ nI D.n := Int32.le_refl _
    simp (maxSteps := 3000000) (disch := omega) only [Option.bind_some, tc_bs, tq_let, tc_I1, tc_I2, tc_J1, tc_J2, tc_J3, tc_F1, tc_F2, tc_F3, tc_F4, tc_G1, tc_G2, tc_G3, tc_G4, tc_G5, tc_us, tc_un, s_one, s_holds, s_J13_bitCount, bz_bI, f_X10_foundAnew_b59, hq.f, hT.f, hT.is, e1, e2, if_true]
end FND
