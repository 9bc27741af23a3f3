/-! ===== found anew, at a place, ordered, groups ===== -/
section FND2
variable {S : tq_H} {c c' c1 c2 : tc_C} {di : DI} {D : Doc} {m : Nat} {U : Ups} {P : Pat} {H Q F : Nat → Bool} {Z : Sma} {X : Nat → Bool} {nw : Nat} {ed : Option Nat} {nv : Nat} {vt mv : Nat → Nat} {Dv : Nat → Doc} {p q r k b i n z : Nat} {x x1 x2 y y4 a v : Int32} {xs : Nat → Int32} {h0 : tq_H}
theorem Cor.foundAnew_L (hC : Cor S c di D m U P H Z X nw ed nv vt mv Dv) (hF : GF c D P H) : ∃ h', armI (f_V_foundAnew 0 x1 x2 205 (tc_mk S c)) (f_X11_foundAnew 155 x1 x2) y4 = some (.inl (y4 + 5, h')) ∧ InvE di h' := by
  -- the same as found
  obtain ⟨h', e, hI⟩ := hC.found_L (x1 := x1) (x2 := x2) (y4 := y4) hF
  refine ⟨h', ?_, hI⟩
  rw [← e]
  have hR : f_X11_foundAnew 155 x1 x2 = fun h => (tq_is h 155 11).bind fun _ => f_X11_found 155 x1 x2 h := by
    funext h
    unfold f_X11_foundAnew
    congr 1
    funext _
    cases f_X11_found 155 x1 x2 h <;> rfl
  have hfi : ∀ h, (tq_is h 155 11).bind (fun _ => f_X11_found 155 x1 x2 h) = f_X11_found 155 x1 x2 h := by
    intro h
    unfold f_X11_found
    cases tq_is h 155 11 <;> rfl
  have hR2 : f_X11_foundAnew 155 x1 x2 = f_X11_found 155 x1 x2 := by rw [hR]; funext h; exact hfi h
  have hX : f_X10_foundAnew 0 x1 x2 (tc_mk S c) = f_X10_found 0 x1 x2 (tc_mk S c) := by
    obtain ⟨b, c', Q, r, e1, hC', hF', hfb, hQ, hr, hft, hQe, hprep⟩ := hC.fnd hF
    have e17 := hC.e17
    have hw := hC'.gt.1.1
    have h20 := hC'.gp.2.2.1
    have ib : ∀ c, tq_is (tc_mk S c) b 2 = some () := fun c => by simp (maxSteps := 3000000) (disch := omega) only [Option.bind_some, tc_bs, tq_let, tc_I1, tc_I2, tc_J1, tc_J2, tc_J3, tc_F1, tc_F2, tc_F3, tc_F4, tc_G1, tc_G2, tc_G3, tc_G4, tc_G5, tc_us, tc_un, s_one, s_holds, s_J13_bitCount, bz_bI, hfb.f]
    unfold f_X10_foundAnew f_X10_found
    rw [e17]
    simp only [Option.bind_some]
    rw [e1]
    simp only [Option.bind_some]
    by_cases qp : 0 ≤ x1 ∧ x1 < nI P.n
    · have cn := (hC'.npath x1).1 qp
      obtain ⟨p, hp31, rfl⟩ := nI_of (Int32.not_lt.mpr qp.1)
      have hp : p < P.n := (nI_ltI hp31 (by omega)).mp qp.2
      rcases D.at_or x2 with ⟨i, hi⟩ | hi
      · obtain ⟨hin, rfl⟩ := id hi
        have es := hC'.spot hi
        have ese := s_X2_sees (S := S) hfb hw hft.1 hin
        cases hQi : Q i with
        | true =>
          rw [hQi] at ese
          have b1 : ¬ bI true = 0 := by decide
          have cs : f_X10_needStart 0 b (nI (D.ord i)) (tc_mk S c') = some (.inr (), tc_mk S c') := by
            simp (maxSteps := 3000000) (disch := omega) only [Option.bind_some, tc_bs, tq_let, tc_I1, tc_I2, tc_J1, tc_J2, tc_J3, tc_F1, tc_F2, tc_F3, tc_F4, tc_G1, tc_G2, tc_G3, tc_G4, tc_G5, tc_us, tc_un, s_one, s_holds, s_J13_bitCount, bz_bI, f_X10_needStart, hC'.tq.f, hC'.t1.f, hC'.need hi, tb_r, es, ib, ese, b1, if_false]
          obtain ⟨d, u1, u2, u3, u4, u5, r', hr1, hr2, hft'⟩ := hprep p c' hp hC' hF' rfl
          have es' := u2.spot hi
          have ef := s_X2_foundFrom (S := S) hfb hw hft' hr1 (by omega) hin
          have hX : ∀ j, D.fnd P Q p i j = true → j < D.n := fun j h => (Doc.fnd_in hQ h).1
          have el := anew_loop (S := S) (ed := ed) u2.t1 u2.tq hw u2.gt.2.1 hX
          simp (maxSteps := 3000000) (disch := omega) only [Option.bind_some, tc_bs, tq_let, tc_I1, tc_I2, tc_J1, tc_J2, tc_J3, tc_F1, tc_F2, tc_F3, tc_F4, tc_G1, tc_G2, tc_G3, tc_G4, tc_G5, tc_us, tc_un, s_one, s_holds, s_J13_bitCount, bz_bI, hC.tq.f, cn, tb_r, cs, ib, u1, hC.t1.f, es', ef, el, ct_mkS]
        | false =>
          rw [hQi] at ese
          have b0 : bI false = 0 := rfl
          have cs : f_X10_needStart 0 b (nI (D.ord i)) (tc_mk S c') = some (.inl "java/lang/IndexOutOfBoundsException", tc_mk S c') := by
            simp (maxSteps := 3000000) (disch := omega) only [Option.bind_some, tc_bs, tq_let, tc_I1, tc_I2, tc_J1, tc_J2, tc_J3, tc_F1, tc_F2, tc_F3, tc_F4, tc_G1, tc_G2, tc_G3, tc_G4, tc_G5, tc_us, tc_un, s_one, s_holds, s_J13_bitCount, bz_bI, f_X10_needStart, hC'.tq.f, hC'.t1.f, hC'.need hi, tb_r, es, ib, ese, b0, if_true]
          simp (maxSteps := 3000000) (disch := omega) only [Option.bind_some, tc_bs, tq_let, tc_I1, tc_I2, tc_J1, tc_J2, tc_J3, tc_F1, tc_F2, tc_F3, tc_F4, tc_G1, tc_G2, tc_G3, tc_G4, tc_G5, tc_us, tc_un, s_one, s_holds, s_J13_bitCount, bz_bI, hC.tq.f, cn, tb_r, tb_l, cs]
      · have cs : f_X10_needStart 0 b x2 (tc_mk S c') = some (.inl "java/lang/IndexOutOfBoundsException", tc_mk S c') := by
          simp (maxSteps := 3000000) (disch := omega) only [Option.bind_some, tc_bs, tq_let, tc_I1, tc_I2, tc_J1, tc_J2, tc_J3, tc_F1, tc_F2, tc_F3, tc_F4, tc_G1, tc_G2, tc_G3, tc_G4, tc_G5, tc_us, tc_un, s_one, s_holds, s_J13_bitCount, bz_bI, f_X10_needStart, hC'.tq.f, hC'.need_n hi, tb_l]
        simp (maxSteps := 3000000) (disch := omega) only [Option.bind_some, tc_bs, tq_let, tc_I1, tc_I2, tc_J1, tc_J2, tc_J3, tc_F1, tc_F2, tc_F3, tc_F4, tc_G1, tc_G2, tc_G3, tc_G4, tc_G5, tc_us, tc_un, s_one, s_holds, s_J13_bitCount, bz_bI, hC.tq.f, cn, tb_r, tb_l, cs]
    · have cn := (hC'.npath x1).2 qp
      simp (maxSteps := 3000000) (disch := omega) only [Option.bind_some, tc_bs, tq_let, tc_I1, tc_I2, tc_J1, tc_J2, tc_J3, tc_F1, tc_F2, tc_F3, tc_F4, tc_G1, tc_G2, tc_G3, tc_G4, tc_G5, tc_us, tc_un, s_one, s_holds, s_J13_bitCount, bz_bI, hC.tq.f, cn, tb_l]
  have hL : f_V_foundAnew 0 x1 x2 205 (tc_mk S c) = f_V_found 0 x1 x2 205 (tc_mk S c) := by
    unfold f_V_foundAnew f_V_found
    rw [hX]
  rw [hL, hR2]
theorem arm_foundAnew (h : InvE di h0) (e1 : tq_sx n xs (y4 + 1) = some x1) (e2 : tq_sx n xs (y4 + 2) = some x2) : ∃ h', f_V_law_c1959 n xs 0 155 205 y4 h0 = some (.inl (y4 + 5, h')) ∧ InvE di h' := by
  obtain ⟨S, c, D, m, U, P, H, Z, X, nw, ed, nv, vt, mv, Dv, rfl, hC, hF⟩ := h
  have e0 : f_V_law_c1959 n xs 0 155 205 y4 (tc_mk S c) = armI (f_V_foundAnew 0 x1 x2 205 (tc_mk S c)) (f_X11_foundAnew 155 x1 x2) y4 := by
    unfold f_V_law_c1959; rw [e1, e2]; rfl
  rw [e0]
  exact hC.foundAnew_L hF
theorem place_ok (q : 0 ≤ x ∧ x < nI (fb_ct F 64)) (h : tq_H) : f_X10_needPlaceOf 0 (mkS F) x h = some (.inr (), h) := by
  have q1 : ¬ x < 0 := Int32.not_lt.mpr q.1
  simp (maxSteps := 3000000) (disch := omega) only [Option.bind_some, tc_bs, tq_let, tc_I1, tc_I2, tc_J1, tc_J2, tc_J3, tc_F1, tc_F2, tc_F3, tc_F4, tc_G1, tc_G2, tc_G3, tc_G4, tc_G5, tc_us, tc_un, s_one, s_holds, s_J13_bitCount, bz_bI, f_X10_needPlaceOf, q1, ct_mkS, q.2, if_true, if_false]
theorem place_no (q : ¬ (0 ≤ x ∧ x < nI (fb_ct F 64))) (h : tq_H) : f_X10_needPlaceOf 0 (mkS F) x h = some (.inl "java/lang/IndexOutOfBoundsException", h) := by
  by_cases q1 : x < 0
  · simp (maxSteps := 3000000) (disch := omega) only [Option.bind_some, tc_bs, tq_let, tc_I1, tc_I2, tc_J1, tc_J2, tc_J3, tc_F1, tc_F2, tc_F3, tc_F4, tc_G1, tc_G2, tc_G3, tc_G4, tc_G5, tc_us, tc_un, s_one, s_holds, s_J13_bitCount, bz_bI, f_X10_needPlaceOf, q1, if_true]
  · have q2 : ¬ x < nI (fb_ct F 64) := fun z => q ⟨Int32.not_lt.mp q1, z⟩
    simp (maxSteps := 3000000) (disch := omega) only [Option.bind_some, tc_bs, tq_let, tc_I1, tc_I2, tc_J1, tc_J2, tc_J3, tc_F1, tc_F2, tc_F3, tc_F4, tc_G1, tc_G2, tc_G3, tc_G4, tc_G5, tc_us, tc_un, s_one, s_holds, s_J13_bitCount, bz_bI, f_X10_needPlaceOf, q1, ct_mkS, q2, if_false]
/-- what a path finds from the root, by the reference -/
theorem Cor.fby (h : Cor S c di D m U P H Z X nw ed nv vt mv Dv) (hF : GF c D P H) (hp : p < P.n) :
    ∃ c', f_X11_foundBy 155 (nI p) (tc_mk S c) = some (mkS (D.nodesOf (D.fnd P (Qr c D P H) p 0)), tc_mk S c') ∧ Cor S c' di D m U P H Z X nw ed nv vt mv Dv ∧ GF c' D P H ∧ c'.2.2.1 = c.2.2.1 ∧ c'.2.1 205 = c.2.1 205 ∧ RW c' D m P (Qr c D P H) := by
  obtain ⟨w, w1, w2, w3, w4, w5, w6, w7⟩ := h.rread hF
  have h20 := h.gp.2.2.1
  have isp := s_X11_isPath (S := S) h.mod h.gp.2.1.1 h.gp.2.2 (nI p)
  rw [decide_eq_true (show 0 ≤ nI p ∧ nI p < nI P.n from ⟨nI_pos' (by omega), nI_lt hp (by omega)⟩)] at isp
  have b1 : ¬ bI true = 0 := by decide
  obtain ⟨m1, m2⟩ := w2.aj179r hp
  have e := w7 p 0 hp (D.n_pos h.gt.1.1)
  rw [D.ord_0 h.gt.1.1, Nat.add_zero] at e
  exact ⟨w, by simp (maxSteps := 3000000) (disch := omega) only [Option.bind_some, tc_bs, tq_let, tc_I1, tc_I2, tc_J1, tc_J2, tc_J3, tc_F1, tc_F2, tc_F3, tc_F4, tc_G1, tc_G2, tc_G3, tc_G4, tc_G5, tc_us, tc_un, s_one, s_holds, s_J13_bitCount, bz_bI, f_X11_foundBy, h.mod.f, isp, b1, w1, m1, m2, e, if_false], w2, w3, w4, w5, w6⟩
theorem Cor.fby_n (h : Cor S c di D m U P H Z X nw ed nv vt mv Dv) (qp : ¬ (0 ≤ x ∧ x < nI P.n)) : f_X11_foundBy 155 x (tc_mk S c) = some (0, tc_mk S c) := by
  have isp := s_X11_isPath (S := S) h.mod h.gp.2.1.1 h.gp.2.2 x
  rw [decide_eq_false qp] at isp
  have b0 : bI false = 0 := rfl
  simp (maxSteps := 3000000) (disch := omega) only [Option.bind_some, tc_bs, tq_let, tc_I1, tc_I2, tc_J1, tc_J2, tc_J3, tc_F1, tc_F2, tc_F3, tc_F4, tc_G1, tc_G2, tc_G3, tc_G4, tc_G5, tc_us, tc_un, s_one, s_holds, s_J13_bitCount, bz_bI, f_X11_foundBy, h.mod.f, isp, b0, if_true]
theorem bits_0 (h : tq_H) : f_X11_bits 0 h = some 0 := by
  rw [s_X11_bits, show fb_ct (tb 0) 64 = 0 from fb_ct_zero.mpr fun k _ => tb_0 k]; rfl
theorem in_none (x : Int32) (h : tq_H) : f_X11_in x 0 (0 - 1) h = some 0 := in_no fun z => absurd (Int32.le_trans z.1 z.2) (by decide)
theorem arm_foundAt (h : InvE di h0) (e1 : tq_sx n xs (y4 + 1) = some x1) (e2 : tq_sx n xs (y4 + 2) = some x2) : ∃ h', f_V_law_c2027 n xs 0 155 205 y4 h0 = some (.inl (y4 + 5, h')) ∧ InvE di h' := by
  obtain ⟨S, c, D, m, U, P, H, Z, X, nw, ed, nv, vt, mv, Dv, rfl, hC, hF⟩ := h
  have e0 : f_V_law_c2027 n xs 0 155 205 y4 (tc_mk S c) = armI (f_V_foundAt 0 x1 x2 205 (tc_mk S c)) (f_X11_foundAt 155 x1 x2) y4 := by
    unfold f_V_law_c2027; rw [e1, e2]; rfl
  rw [e0]
  have n10 : ¬ (1 : Int32) = 0 := by decide
  have z0 : tq_bz 0 = some 0 := rfl
  have z1 : tq_bz 1 = some 1 := rfl
  obtain ⟨b, c', Q, r, ee1, hC', hF', hfb, hQ, hr, hft, hQe, hprep⟩ := hC.fnd hF
  have hQe : Q = Qr c' D P H := hQe
  have e17 := hC.e17
  have hw := hC'.gt.1.1
  have h20 := hC'.gp.2.2.1
  have ib : ∀ c, tq_is (tc_mk S c) b 2 = some () := fun c => by simp (maxSteps := 3000000) (disch := omega) only [Option.bind_some, tc_bs, tq_let, tc_I1, tc_I2, tc_J1, tc_J2, tc_J3, tc_F1, tc_F2, tc_F3, tc_F4, tc_G1, tc_G2, tc_G3, tc_G4, tc_G5, tc_us, tc_un, s_one, s_holds, s_J13_bitCount, bz_bI, hfb.f]
  by_cases qp : 0 ≤ x1 ∧ x1 < nI P.n
  · have cn := (hC'.npath x1).1 qp
    obtain ⟨p, hp31, rfl⟩ := nI_of (Int32.not_lt.mpr qp.1)
    have hp : p < P.n := (nI_ltI hp31 (by omega)).mp qp.2
    obtain ⟨d, u1, u2, u3, u4, u5, r', hr1, hr2, hft'⟩ := hprep p c' hp hC' hF' rfl
    have ef : f_X2_foundFrom b (nI p) 0 (tc_mk S d) = some (mkS (D.fnd P Q p 0)) := s_X2_foundFrom (S := S) hfb hw hft' hr1 (by omega) (D.n_pos hw)
    have hX : ∀ j, D.fnd P Q p 0 j = true → j < D.n := fun j h => (Doc.fnd_in hQ h).1
    have hN : fb_ct (D.fnd P Q p 0) 64 < 1000 := by have := fb_ct_le (D.fnd P Q p 0) 64; omega
    have hqd : ∀ d', d'.2.2.1 155 32 = d.2.2.1 155 32 → Qr d' D P H = Q := fun d' e => by rw [hQe, show Qr d' D P H = Qr c' D P H by unfold Qr; rw [e, u4]]
    by_cases q2 : 0 ≤ x2 ∧ x2 < nI (fb_ct (D.fnd P Q p 0) 64)
    · have c2 := place_ok q2 (tc_mk S d)
      have r2 : ∀ h, f_X11_in x2 0 (nI (fb_ct (D.fnd P Q p 0) 64) - 1) h = some 1 := fun h => in_ok ((lt_sub hN).mpr q2).1 ((lt_sub hN).mpr q2).2
      have f2 : f_X3_nodeOfSet 2 (mkS (D.fnd P Q p 0)) x2 (tc_mk S d) = _ := s_X3_nodeOfSet (S := S) u2.t1 hw u2.gt.2.1 hX x2
      have e5 : f_X10_foundAt 0 (nI p) x2 (tc_mk S c) = some (.inr (D.nd (pk (D.fnd P Q p 0) x2)), tc_mk S d) := by
        unfold f_X10_foundAt
        rw [e17, Option.bind_some, ee1]
        simp (maxSteps := 3000000) (disch := omega) only [Option.bind_some, tc_bs, tq_let, tc_I1, tc_I2, tc_J1, tc_J2, tc_J3, tc_F1, tc_F2, tc_F3, tc_F4, tc_G1, tc_G2, tc_G3, tc_G4, tc_G5, tc_us, tc_un, s_one, s_holds, s_J13_bitCount, bz_bI, hC.tq.f, cn, tb_r, ib, u1, ef, c2, hC.t1.f, hC.t1.is, f2]
      have hCa := u2.sc (ans_sc _ (D.nd (pk (D.fnd P Q p 0) x2)).toInt64)
      have hFa := u3.ans u2 (D.nd (pk (D.fnd P Q p 0) x2)).toInt64
      obtain ⟨w, w1, w2, w3, w4, w5, w6⟩ := hCa.fby hFa hp
      rw [hqd (ansC d _) rfl] at w1 w6
      have f3 := s_X11_pick (S := S) (w2.sc (thr_sc w 0)).mod hw (w2.sc (thr_sc w 0)).gt.2.2.2.2 hX x2
      have f4 := s_X11_bitsN hw hX (tc_mk S w)
      refine arm_gen u2 u3 (.inl ⟨D.nd (pk (D.fnd P Q p 0) x2), tc_F w 155 0 0, by simp (maxSteps := 3000000) (disch := omega) only [Option.bind_some, tc_bs, tq_let, tc_I1, tc_I2, tc_J1, tc_J2, tc_J3, tc_F1, tc_F2, tc_F3, tc_F4, tc_G1, tc_G2, tc_G3, tc_G4, tc_G5, tc_us, tc_un, s_one, s_holds, s_J13_bitCount, bz_bI, f_V_foundAt, hC.tq.f, e5]; rfl, ?_, w2.sc (thr_sc w 0), w3.thr w2 0, by rw [tc_F3, tc_us, tc_us], w5⟩)
      simp (maxSteps := 3000000) (disch := omega) only [Option.bind_some, tc_bs, tq_let, tc_I1, tc_I2, tc_J1, tc_J2, tc_J3, tc_F1, tc_F2, tc_F3, tc_F4, tc_G1, tc_G2, tc_G3, tc_G4, tc_G5, tc_us, tc_un, s_one, s_holds, s_J13_bitCount, bz_bI, f_X11_foundAt, f_X11_refused, hC.mod.f, w1, f4, r2, n10, z0, f3, if_true, if_false]
    · have c2 := place_no q2 (tc_mk S d)
      have r2 : ∀ h, f_X11_in x2 0 (nI (fb_ct (D.fnd P Q p 0) 64) - 1) h = some 0 := fun h => in_no (mt (lt_sub hN).mp q2)
      have e5 : f_X10_foundAt 0 (nI p) x2 (tc_mk S c) = some (.inl "java/lang/IndexOutOfBoundsException", tc_mk S d) := by
        unfold f_X10_foundAt
        rw [e17, Option.bind_some, ee1]
        simp (maxSteps := 3000000) (disch := omega) only [Option.bind_some, tc_bs, tq_let, tc_I1, tc_I2, tc_J1, tc_J2, tc_J3, tc_F1, tc_F2, tc_F3, tc_F4, tc_G1, tc_G2, tc_G3, tc_G4, tc_G5, tc_us, tc_un, s_one, s_holds, s_J13_bitCount, bz_bI, hC.tq.f, cn, tb_r, tb_l, ib, u1, ef, c2]
      obtain ⟨w, w1, w2, w3, w4, w5, w6⟩ := u2.fby u3 hp
      rw [hqd d rfl] at w1 w6
      have f4 := s_X11_bitsN hw hX (tc_mk S w)
      refine arm_gen u2 u3 (.inr ⟨1, 0, tc_F w 155 0 1, by decide, by simp (maxSteps := 3000000) (disch := omega) only [Option.bind_some, tc_bs, tq_let, tc_I1, tc_I2, tc_J1, tc_J2, tc_J3, tc_F1, tc_F2, tc_F3, tc_F4, tc_G1, tc_G2, tc_G3, tc_G4, tc_G5, tc_us, tc_un, s_one, s_holds, s_J13_bitCount, bz_bI, f_V_foundAt, hC.tq.f, e5, if_true], ?_, w2.sc (thr_sc w 1), w3.thr w2 1, by rw [tc_F3, tc_us, tc_us]⟩)
      simp (maxSteps := 3000000) (disch := omega) only [Option.bind_some, tc_bs, tq_let, tc_I1, tc_I2, tc_J1, tc_J2, tc_J3, tc_F1, tc_F2, tc_F3, tc_F4, tc_G1, tc_G2, tc_G3, tc_G4, tc_G5, tc_us, tc_un, s_one, s_holds, s_J13_bitCount, bz_bI, f_X11_foundAt, f_X11_refused, hC.mod.f, w1, f4, r2, n10, z1, if_true, if_false]
  · have cn := (hC'.npath x1).2 qp
    have e5 : f_X10_foundAt 0 x1 x2 (tc_mk S c) = some (.inl "java/lang/IndexOutOfBoundsException", tc_mk S c') := by
      unfold f_X10_foundAt
      rw [e17, Option.bind_some, ee1]
      simp (maxSteps := 3000000) (disch := omega) only [Option.bind_some, tc_bs, tq_let, tc_I1, tc_I2, tc_J1, tc_J2, tc_J3, tc_F1, tc_F2, tc_F3, tc_F4, tc_G1, tc_G2, tc_G3, tc_G4, tc_G5, tc_us, tc_un, s_one, s_holds, s_J13_bitCount, bz_bI, hC.tq.f, cn, tb_l]
    refine arm_gen hC' hF' (.inr ⟨1, 0, tc_F c' 155 0 1, by decide, by simp (maxSteps := 3000000) (disch := omega) only [Option.bind_some, tc_bs, tq_let, tc_I1, tc_I2, tc_J1, tc_J2, tc_J3, tc_F1, tc_F2, tc_F3, tc_F4, tc_G1, tc_G2, tc_G3, tc_G4, tc_G5, tc_us, tc_un, s_one, s_holds, s_J13_bitCount, bz_bI, f_V_foundAt, hC.tq.f, e5, if_true], ?_, hC'.sc (thr_sc c' 1), hF'.thr hC' 1, by rw [tc_F3, tc_us, tc_us]⟩)
    have f1 := hC'.fby_n qp
    have f2 := in_none x2
    simp (maxSteps := 3000000) (disch := omega) only [Option.bind_some, tc_bs, tq_let, tc_I1, tc_I2, tc_J1, tc_J2, tc_J3, tc_F1, tc_F2, tc_F3, tc_F4, tc_G1, tc_G2, tc_G3, tc_G4, tc_G5, tc_us, tc_un, s_one, s_holds, s_J13_bitCount, bz_bI, f_X11_foundAt, f_X11_refused, hC.mod.f, f1, bits_0, f2, n10, z1, if_true, if_false]
theorem arm_ordered (h : InvE di h0) (e1 : tq_sx n xs (y4 + 1) = some x1) (e2 : tq_sx n xs (y4 + 2) = some x2) : ∃ h', f_V_law_c2095 n xs 0 155 205 y4 h0 = some (.inl (y4 + 5, h')) ∧ InvE di h' := by
  obtain ⟨S, c, D, m, U, P, H, Z, X, nw, ed, nv, vt, mv, Dv, rfl, hC, hF⟩ := h
  have e0 : f_V_law_c2095 n xs 0 155 205 y4 (tc_mk S c) = armI (f_V_ordered 0 x1 x2 205 (tc_mk S c)) (f_X11_ordered 155 x1 x2) y4 := by
    unfold f_V_law_c2095; rw [e1, e2]; rfl
  rw [e0]
  have n10 : ¬ (1 : Int32) = 0 := by decide
  have z0 : tq_bz 0 = some 0 := rfl
  have z1 : tq_bz 1 = some 1 := rfl
  obtain ⟨b, c', Q, r, ee1, hC', hF', hfb, hQ, hr, hft, hQe, hprep⟩ := hC.fnd hF
  have hQe : Q = Qr c' D P H := hQe
  have e17 := hC.e17
  have hw := hC'.gt.1.1
  have h20 := hC'.gp.2.2.1
  have ib : ∀ c, tq_is (tc_mk S c) b 2 = some () := fun c => by simp (maxSteps := 3000000) (disch := omega) only [Option.bind_some, tc_bs, tq_let, tc_I1, tc_I2, tc_J1, tc_J2, tc_J3, tc_F1, tc_F2, tc_F3, tc_F4, tc_G1, tc_G2, tc_G3, tc_G4, tc_G5, tc_us, tc_un, s_one, s_holds, s_J13_bitCount, bz_bI, hfb.f]
  by_cases qp : 0 ≤ x1 ∧ x1 < nI P.n
  · have cn := (hC'.npath x1).1 qp
    obtain ⟨p, hp31, rfl⟩ := nI_of (Int32.not_lt.mpr qp.1)
    have hp : p < P.n := (nI_ltI hp31 (by omega)).mp qp.2
    obtain ⟨d, u1, u2, u3, u4, u5, r', hr1, hr2, hft'⟩ := hprep p c' hp hC' hF' rfl
    have ef : f_X2_foundFrom b (nI p) 0 (tc_mk S d) = some (mkS (D.fnd P Q p 0)) := s_X2_foundFrom (S := S) hfb hw hft' hr1 (by omega) (D.n_pos hw)
    have hX : ∀ j, D.fnd P Q p 0 j = true → j < D.n := fun j h => (Doc.fnd_in hQ h).1
    have hNle := fb_ct_le (D.fnd P Q p 0) 64
    have hN : fb_ct (D.fnd P Q p 0) 64 < 1000 := by omega
    have hqd : ∀ d', d'.2.2.1 155 32 = d.2.2.1 155 32 → Qr d' D P H = Q := fun d' e => by rw [hQe, show Qr d' D P H = Qr c' D P H by unfold Qr; rw [e, u4]]
    by_cases q2 : 0 ≤ x2 ∧ x2 < nI (fb_ct (D.fnd P Q p 0) 64)
    · have c2 := place_ok q2 (tc_mk S d)
      have r2 : ∀ h, f_X11_in x2 0 (nI (fb_ct (D.fnd P Q p 0) 64) - 1) h = some 1 := fun h => in_ok ((lt_sub hN).mpr q2).1 ((lt_sub hN).mpr q2).2
      obtain ⟨t, t1, rfl⟩ := nI_of (Int32.not_lt.mpr q2.1)
      have ht : t < fb_ct (D.fnd P Q p 0) 64 := (nI_ltI t1 (by omega)).mp q2.2
      obtain ⟨i, i1, i2⟩ := Doc.oa_ex (Q := Q) hX (by have := D.n_le hw; omega) ht
      have hin := hX i i1
      have f1 := s_X2_orderedSpot (S := S) hfb u2.t1 hw hft' hQ hr1 (by omega) (show t < 64 by omega) i1 i2
      have f2 : f_X3_nodeAt 2 (nI i) (tc_mk S d) = _ := s_X3_nodeAt (S := S) u2.t1 hw u2.gt.2.1 hin
      have e5 : f_X10_ordered 0 (nI p) (nI t) (tc_mk S c) = some (.inr (nI (D.ord i)), tc_mk S d) := by
        unfold f_X10_ordered
        rw [e17, Option.bind_some, ee1]
        simp (maxSteps := 3000000) (disch := omega) only [Option.bind_some, tc_bs, tq_let, tc_I1, tc_I2, tc_J1, tc_J2, tc_J3, tc_F1, tc_F2, tc_F3, tc_F4, tc_G1, tc_G2, tc_G3, tc_G4, tc_G5, tc_us, tc_un, s_one, s_holds, s_J13_bitCount, bz_bI, hC.tq.f, cn, tb_r, ib, u1, ef, c2, hC.t1.f, f1, hC.t1.is, f2]
      have hCa := u2.sc (ans_sc _ (nI (D.ord i)).toInt64)
      have hFa := u3.ans u2 (nI (D.ord i)).toInt64
      obtain ⟨w, w1, w2, w3, w4, w5, w6⟩ := hCa.fby hFa hp
      rw [hqd (ansC d _) rfl] at w1 w6
      have hD := w2.sc (thr_sc w 0)
      have hrw : RW (tc_F w 155 0 0) D m P Q := ⟨hD.gt.2.2.2.1, hD.gt.2.2.2.2, hD.gp.2.1, w6.2.2.2⟩
      have f3 := ordered_loop (S := S) hD.mod hw hrw hX (show t < 64 by omega) i1 i2
      have f4 := s_X11_bitsN hw hX (tc_mk S w)
      refine arm_gen u2 u3 (.inl ⟨nI (D.ord i), tc_F w 155 0 0, by simp (maxSteps := 3000000) (disch := omega) only [Option.bind_some, tc_bs, tq_let, tc_I1, tc_I2, tc_J1, tc_J2, tc_J3, tc_F1, tc_F2, tc_F3, tc_F4, tc_G1, tc_G2, tc_G3, tc_G4, tc_G5, tc_us, tc_un, s_one, s_holds, s_J13_bitCount, bz_bI, f_V_ordered, hC.tq.f, e5]; rfl, ?_, hD, w3.thr w2 0, by rw [tc_F3, tc_us, tc_us], w5⟩)
      simp (maxSteps := 3000000) (disch := omega) only [Option.bind_some, tc_bs, tq_let, tc_I1, tc_I2, tc_J1, tc_J2, tc_J3, tc_F1, tc_F2, tc_F3, tc_F4, tc_G1, tc_G2, tc_G3, tc_G4, tc_G5, tc_us, tc_un, s_one, s_holds, s_J13_bitCount, bz_bI, f_X11_ordered, f_X11_refused, hC.mod.f, w1, f4, r2, n10, z0, f3, if_true, if_false]
    · have c2 := place_no q2 (tc_mk S d)
      have r2 : ∀ h, f_X11_in x2 0 (nI (fb_ct (D.fnd P Q p 0) 64) - 1) h = some 0 := fun h => in_no (mt (lt_sub hN).mp q2)
      have e5 : f_X10_ordered 0 (nI p) x2 (tc_mk S c) = some (.inl "java/lang/IndexOutOfBoundsException", tc_mk S d) := by
        unfold f_X10_ordered
        rw [e17, Option.bind_some, ee1]
        simp (maxSteps := 3000000) (disch := omega) only [Option.bind_some, tc_bs, tq_let, tc_I1, tc_I2, tc_J1, tc_J2, tc_J3, tc_F1, tc_F2, tc_F3, tc_F4, tc_G1, tc_G2, tc_G3, tc_G4, tc_G5, tc_us, tc_un, s_one, s_holds, s_J13_bitCount, bz_bI, hC.tq.f, cn, tb_r, tb_l, ib, u1, ef, c2]
      obtain ⟨w, w1, w2, w3, w4, w5, w6⟩ := u2.fby u3 hp
      rw [hqd d rfl] at w1 w6
      have f4 := s_X11_bitsN hw hX (tc_mk S w)
      refine arm_gen u2 u3 (.inr ⟨1, 0, tc_F w 155 0 1, by decide, by simp (maxSteps := 3000000) (disch := omega) only [Option.bind_some, tc_bs, tq_let, tc_I1, tc_I2, tc_J1, tc_J2, tc_J3, tc_F1, tc_F2, tc_F3, tc_F4, tc_G1, tc_G2, tc_G3, tc_G4, tc_G5, tc_us, tc_un, s_one, s_holds, s_J13_bitCount, bz_bI, f_V_ordered, hC.tq.f, e5, if_true], ?_, w2.sc (thr_sc w 1), w3.thr w2 1, by rw [tc_F3, tc_us, tc_us]⟩)
      simp (maxSteps := 3000000) (disch := omega) only [Option.bind_some, tc_bs, tq_let, tc_I1, tc_I2, tc_J1, tc_J2, tc_J3, tc_F1, tc_F2, tc_F3, tc_F4, tc_G1, tc_G2, tc_G3, tc_G4, tc_G5, tc_us, tc_un, s_one, s_holds, s_J13_bitCount, bz_bI, f_X11_ordered, f_X11_refused, hC.mod.f, w1, f4, r2, n10, z1, if_true, if_false]
  · have cn := (hC'.npath x1).2 qp
    have e5 : f_X10_ordered 0 x1 x2 (tc_mk S c) = some (.inl "java/lang/IndexOutOfBoundsException", tc_mk S c') := by
      unfold f_X10_ordered
      rw [e17, Option.bind_some, ee1]
      simp (maxSteps := 3000000) (disch := omega) only [Option.bind_some, tc_bs, tq_let, tc_I1, tc_I2, tc_J1, tc_J2, tc_J3, tc_F1, tc_F2, tc_F3, tc_F4, tc_G1, tc_G2, tc_G3, tc_G4, tc_G5, tc_us, tc_un, s_one, s_holds, s_J13_bitCount, bz_bI, hC.tq.f, cn, tb_l]
    refine arm_gen hC' hF' (.inr ⟨1, 0, tc_F c' 155 0 1, by decide, by simp (maxSteps := 3000000) (disch := omega) only [Option.bind_some, tc_bs, tq_let, tc_I1, tc_I2, tc_J1, tc_J2, tc_J3, tc_F1, tc_F2, tc_F3, tc_F4, tc_G1, tc_G2, tc_G3, tc_G4, tc_G5, tc_us, tc_un, s_one, s_holds, s_J13_bitCount, bz_bI, f_V_ordered, hC.tq.f, e5, if_true], ?_, hC'.sc (thr_sc c' 1), hF'.thr hC' 1, by rw [tc_F3, tc_us, tc_us]⟩)
    have f1 := hC'.fby_n qp
    have f2 := in_none x2
    simp (maxSteps := 3000000) (disch := omega) only [Option.bind_some, tc_bs, tq_let, tc_I1, tc_I2, tc_J1, tc_J2, tc_J3, tc_F1, tc_F2, tc_F3, tc_F4, tc_G1, tc_G2, tc_G3, tc_G4, tc_G5, tc_us, tc_un, s_one, s_holds, s_J13_bitCount, bz_bI, f_X11_ordered, f_X11_refused, hC.mod.f, f1, bits_0, f2, n10, z1, if_true, if_false]
theorem arm_groups (h : InvE di h0) (e1 : tq_sx n xs (y4 + 1) = some x1) : ∃ h', f_V_law_c2163 n xs 0 155 205 y4 h0 = some (.inl (y4 + 5, h')) ∧ InvE di h' := by
  obtain ⟨S, c, D, m, U, P, H, Z, X, nw, ed, nv, vt, mv, Dv, rfl, hC, hF⟩ := h
  have e0 : f_V_law_c2163 n xs 0 155 205 y4 (tc_mk S c) = armI (f_V_groups 0 x1 205 (tc_mk S c)) (f_X11_groups 155 x1) y4 := by
    unfold f_V_law_c2163; rw [e1]; rfl
  rw [e0]
  have n10 : ¬ (1 : Int32) = 0 := by decide
  have z0 : tq_bz 0 = some 0 := rfl
  have z1 : tq_bz 1 = some 1 := rfl
  have b0 : bI false = 0 := rfl
  have b1 : ¬ bI true = 0 := by decide
  obtain ⟨b, c', Q, r, ee1, hC', hF', hfb, hQ, hr, hft, hQe, hprep⟩ := hC.fnd hF
  have hQe : Q = Qr c' D P H := hQe
  have e17 := hC.e17
  have hw := hC'.gt.1.1
  have h20 := hC'.gp.2.2.1
  have ib : ∀ c, tq_is (tc_mk S c) b 2 = some () := fun c => by simp (maxSteps := 3000000) (disch := omega) only [Option.bind_some, tc_bs, tq_let, tc_I1, tc_I2, tc_J1, tc_J2, tc_J3, tc_F1, tc_F2, tc_F3, tc_F4, tc_G1, tc_G2, tc_G3, tc_G4, tc_G5, tc_us, tc_un, s_one, s_holds, s_J13_bitCount, bz_bI, hfb.f]
  by_cases qp : 0 ≤ x1 ∧ x1 < nI P.n
  · have cn := (hC'.npath x1).1 qp
    obtain ⟨p, hp31, rfl⟩ := nI_of (Int32.not_lt.mpr qp.1)
    have hp : p < P.n := (nI_ltI hp31 (by omega)).mp qp.2
    obtain ⟨d, u1, u2, u3, u4, u5, r', hr1, hr2, hft'⟩ := hprep p c' hp hC' hF' rfl
    have f1 := s_X2_countValues (S := S) hfb u2.t1 hw hft' hQ hr1 (by omega)
    have e5 : f_X10_groups 0 (nI p) (tc_mk S c) = some (.inr (nI (fb_ct (D.gr Q (D.fnd P Q p 0)) D.n)), tc_mk S d) := by
      unfold f_X10_groups
      rw [e17, Option.bind_some, ee1]
      simp (maxSteps := 3000000) (disch := omega) only [Option.bind_some, tc_bs, tq_let, tc_I1, tc_I2, tc_J1, tc_J2, tc_J3, tc_F1, tc_F2, tc_F3, tc_F4, tc_G1, tc_G2, tc_G3, tc_G4, tc_G5, tc_us, tc_un, s_one, s_holds, s_J13_bitCount, bz_bI, hC.tq.f, cn, tb_r, ib, u1, f1]
    have hCa := u2.sc (ans_sc _ (nI (fb_ct (D.gr Q (D.fnd P Q p 0)) D.n)).toInt64)
    have hFa := u3.ans u2 (nI (fb_ct (D.gr Q (D.fnd P Q p 0)) D.n)).toInt64
    have hC2 := hCa.sc (thr_sc _ 0)
    have hF2 := hFa.thr hCa 0
    obtain ⟨w, w1, w2, w3, w4, w5, w6⟩ := hC2.fby hF2 hp
    have hq : Qr (tc_F (ansC d (nI (fb_ct (D.gr Q (D.fnd P Q p 0)) D.n)).toInt64) 155 0 0) D P H = Q := by
      rw [hQe]; unfold Qr; rw [← u4]; rfl
    rw [hq] at w1 w6
    have f3 := groups_loop (S := S) (X := D.fnd P Q p 0) w2.mod hw w6
    have isp := s_X11_isPath (S := S) (P := P) hCa.mod hCa.gp.2.1.1 hCa.gp.2.2 (nI p)
    rw [decide_eq_true qp] at isp
    refine arm_gen u2 u3 (.inl ⟨nI (fb_ct (D.gr Q (D.fnd P Q p 0)) D.n), w, by simp (maxSteps := 3000000) (disch := omega) only [Option.bind_some, tc_bs, tq_let, tc_I1, tc_I2, tc_J1, tc_J2, tc_J3, tc_F1, tc_F2, tc_F3, tc_F4, tc_G1, tc_G2, tc_G3, tc_G4, tc_G5, tc_us, tc_un, s_one, s_holds, s_J13_bitCount, bz_bI, f_V_groups, hC.tq.f, e5]; rfl, ?_, w2, w3, by rw [w4, tc_F3, tc_us, tc_us], by rw [w5]; rfl⟩)
    simp (maxSteps := 3000000) (disch := omega) only [Option.bind_some, tc_bs, tq_let, tc_I1, tc_I2, tc_J1, tc_J2, tc_J3, tc_F1, tc_F2, tc_F3, tc_F4, tc_G1, tc_G2, tc_G3, tc_G4, tc_G5, tc_us, tc_un, s_one, s_holds, s_J13_bitCount, bz_bI, f_X11_groups, f_X11_refused, hC.mod.f, isp, b1, n10, z0, w1, f3, if_true, if_false]
  · have cn := (hC'.npath x1).2 qp
    have isp := s_X11_isPath (S := S) (P := P) hC'.mod hC'.gp.2.1.1 hC'.gp.2.2 x1
    rw [decide_eq_false qp] at isp
    have e5 : f_X10_groups 0 x1 (tc_mk S c) = some (.inl "java/lang/IndexOutOfBoundsException", tc_mk S c') := by
      unfold f_X10_groups
      rw [e17, Option.bind_some, ee1]
      simp (maxSteps := 3000000) (disch := omega) only [Option.bind_some, tc_bs, tq_let, tc_I1, tc_I2, tc_J1, tc_J2, tc_J3, tc_F1, tc_F2, tc_F3, tc_F4, tc_G1, tc_G2, tc_G3, tc_G4, tc_G5, tc_us, tc_un, s_one, s_holds, s_J13_bitCount, bz_bI, hC.tq.f, cn, tb_l]
    refine arm_gen hC' hF' (.inr ⟨1, 0, tc_F c' 155 0 1, by decide, by simp (maxSteps := 3000000) (disch := omega) only [Option.bind_some, tc_bs, tq_let, tc_I1, tc_I2, tc_J1, tc_J2, tc_J3, tc_F1, tc_F2, tc_F3, tc_F4, tc_G1, tc_G2, tc_G3, tc_G4, tc_G5, tc_us, tc_un, s_one, s_holds, s_J13_bitCount, bz_bI, f_V_groups, hC.tq.f, e5, if_true], ?_, hC'.sc (thr_sc c' 1), hF'.thr hC' 1, by rw [tc_F3, tc_us, tc_us]⟩)
    simp (maxSteps := 3000000) (disch := omega) only [Option.bind_some, tc_bs, tq_let, tc_I1, tc_I2, tc_J1, tc_J2, tc_J3, tc_F1, tc_F2, tc_F3, tc_F4, tc_G1, tc_G2, tc_G3, tc_G4, tc_G5, tc_us, tc_un, s_one, s_holds, s_J13_bitCount, bz_bI, f_X11_groups, f_X11_refused, hC.mod.f, isp, b0, n10, z1, if_true, if_false]
end FND2
