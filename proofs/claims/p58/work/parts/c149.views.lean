/-! ===== views; found at a place, ordered, groups ===== -/
section VIW
variable {S : tq_H} {c c' c1 c2 : tc_C} {di : DI} {D : Doc} {m : Nat} {U : Ups} {P : Pat} {H H' Q : Nat → Bool} {Z Z' : Sma} {X Y : Nat → Bool} {nw nw' : Nat} {ed : Option Nat} {nv : Nat} {vt mv : Nat → Nat} {Dv : Nat → Doc} {t n s i p k v z r : Nat} {x x1 x2 x3 x4 y4 : Int32} {xs : Nat → Int32} {h0 : tq_H}
theorem Cor.vie (h : Cor S c di D m U P H Z X nw ed nv vt mv Dv) (hF : GF c D P H) (k : Wr v1w v2w v3w v4w c c') (hv : GV c' D P nw') : InvE di (tc_mk S c') := by
  obtain ⟨h0, h1, h2, h3, h4, h5, h6, h7, h8, h9, h10⟩ := h
  have g1 := h1.wr k (fun a _ => by omega) (fun a _ => by omega) (fun q k _ => by omega) (fun q k _ => by omega)
  have g4 := h4.wr k (fun a _ => by omega) (fun q k _ => by omega)
  exact ⟨S, c', D, m, U, P, H, Z, X, nw', ed, nv, vt, mv, Dv, rfl, ⟨h0, g1, h2.wr k (fun a _ => by omega) (fun q k _ => by omega), h3.wr k (fun a _ => by omega) (fun q k _ => by omega), g4, h5.wr k (fun a _ => by omega) (fun q k _ => by omega) (fun q k _ => by omega), h6.wr k (fun a _ => by omega) (fun q k _ => by omega), h7.wr k (fun a _ => by omega) (fun q k _ => by omega), hv, h9.wr h0 k (fun a _ => by omega) (fun a _ => by omega) (fun q k _ => by omega) (fun q k _ => by omega), h10.wr h0 k (fun a _ => by omega) (fun q k _ => by omega)⟩,
    hF.wr g1.2.1 g4.1 k (fun a _ => by omega) (fun a _ => by omega) (fun q k _ => by omega) (fun q k _ => by omega)⟩
theorem Cor.aj179r (h : Cor S c di D m U P H Z X nw ed nv vt mv Dv) (hp : p < P.n) : (60 : Int32) * nI p = nI (60 * p) ∧ tq_aj (tc_mk S c) 179 (nI (60 * p)) = some (c.2.1 179 (60 * p)) := by
  have h20 := h.gp.2.2.1
  exact ⟨nI_mul 60 p, by simp (maxSteps := 3000000) (disch := omega) only [Option.bind_some, tc_bs, tq_let, tc_I1, tc_I2, tc_J1, tc_J2, tc_J3, tc_F1, tc_F2, tc_F3, tc_F4, tc_G1, tc_G2, tc_G3, tc_G4, tc_G5, tc_us, tc_un, s_one, s_holds, s_J13_bitCount, bz_bI, h.mod.f]⟩
theorem arm_viewed (h : InvE di h0) (e1 : tq_sx n xs (y4 + 1) = some x1) (e2 : tq_sx n xs (y4 + 2) = some x2) : ∃ h', f_V_law_c3039 n xs 0 155 205 y4 h0 = some (.inl (y4 + 5, h')) ∧ InvE di h' := by
  obtain ⟨S, c, D, m, U, P, H, Z, X, nw, ed, nv, vt, mv, Dv, rfl, hC, hF⟩ := h
  have e0 : f_V_law_c3039 n xs 0 155 205 y4 (tc_mk S c) = armI (f_V_viewed 0 x1 x2 205 (tc_mk S c)) (f_X11_viewed 155 x1 x2) y4 := by
    unfold f_V_law_c3039; rw [e1, e2]; rfl
  rw [e0]
  have n10 : ¬ (1 : Int32) = 0 := by decide
  have z1 : tq_bz 1 = some 1 := rfl
  have z0 : tq_bz 0 = some 0 := rfl
  obtain ⟨g1, g2, g3, g4, g5⟩ := hC.gv
  have hw := hC.gt.1.1
  have i117 : ∀ c, tq_is (tc_mk S c) 117 2 = some () := fun c => by have := hC.fa.1; simp (maxSteps := 3000000) (disch := omega) only [Option.bind_some, tc_bs, tq_let, tc_I1, tc_I2, tc_J1, tc_J2, tc_J3, tc_F1, tc_F2, tc_F3, tc_F4, tc_G1, tc_G2, tc_G3, tc_G4, tc_G5, tc_us, tc_un, s_one, s_holds, s_J13_bitCount, bz_bI, this.f]
  by_cases q1 : 0 ≤ x1 ∧ x1 < nI nw
  · have c1 : ∀ h, f_X10_needIndex 0 x1 (nI nw) h = some (.inr (), h) := fun h => idx_ok q1.1 q1.2
    have r1 : ∀ h, f_X11_in x1 0 (nI nw - 1) h = some 1 := fun h => in_ok ((lt_sub (by omega)).mpr q1).1 ((lt_sub (by omega)).mpr q1).2
    obtain ⟨k, k1, rfl⟩ := nI_of (Int32.not_lt.mpr q1.1)
    have hk : k < nw := (nI_ltI k1 (by omega)).mp q1.2
    have hk5 : k < 5 := by omega
    by_cases q2 : 0 ≤ x2
    · have c2 : ∀ h, f_X10_needNotNegative 0 x2 h = some (.inr (), h) := fun h => nneg_ok q2
      have q2' : ¬ x2 < 0 := Int32.not_lt.mpr q2
      obtain ⟨p, p1, p2, p3, p4⟩ := g4 k hk
      obtain ⟨d, u1, u2, u3, u4, u5, u6, u7, r, u8, u9, u10⟩ := hC.prepA hF p1
      have f1 := s_X2_foundFrom (S := S) u2.fa.1 hw u10 u8 (by have := hC.gp.2.2.1; omega) (D.n_pos hw)
      have f1 : f_X2_foundFrom 117 (nI p) 0 (tc_mk S d) = some (mkS (D.fnd P D.al p 0)) := f1
      have hX : ∀ j, D.fnd P D.al p 0 j = true → j < D.n := fun j h => (Doc.fnd_in (fun j h => D.al_in h) h).1
      have f2 : f_X3_nodeOfSet 2 (mkS (D.fnd P D.al p 0)) x2 (tc_mk S d) = _ := s_X3_nodeOfSet (S := S) u2.t1 hw u2.gt.2.1 hX x2
      have e5 : f_X10_viewed 0 (nI k) x2 (tc_mk S c) = some (.inr (D.nd (pk (D.fnd P D.al p 0) x2)), tc_mk S d) := by
        simp (maxSteps := 3000000) (disch := omega) only [Option.bind_some, tc_bs, tq_let, tc_I1, tc_I2, tc_J1, tc_J2, tc_J3, tc_F1, tc_F2, tc_F3, tc_F4, tc_G1, tc_G2, tc_G3, tc_G4, tc_G5, tc_us, tc_un, s_one, s_holds, s_J13_bitCount, bz_bI, f_X10_viewed, hC.tq.f, hC.t1.f, g1, c1, c2, tb_r, rg_in (c.1 150) hk5 (show 5 < 2 ^ 31 by decide), p2, i117, u1, f1, hC.t1.is, f2]
      have hCa := u2.sc (ans_sc _ (D.nd (pk (D.fnd P D.al p 0) x2)).toInt64)
      have hFa := u3.ans u2 (D.nd (pk (D.fnd P D.al p 0) x2)).toInt64
      have hC2 := hCa.sc (thr_sc _ 0)
      have hF2 := hFa.thr hCa 0
      have f3 := s_X11_pick (S := S) hC2.mod hw hC2.gt.2.2.2.2 hX x2
      have g2' : d.2.2.1 155 45 = nI nw := by rw [u6]; exact g2
      have p4' : d.2.1 193 k = mkS (D.nodesOf (D.fnd P D.al p 0)) := by rw [u4.2.1 193 (by omega)]; exact p4
      have p5' : (ansC d (D.nd (pk (D.fnd P D.al p 0) x2)).toInt64).2.1 193 k = mkS (D.nodesOf (D.fnd P D.al p 0)) := p4'
      refine armI_any hC.mod hC.tq (.inl ⟨_, d, _, by simp (maxSteps := 3000000) (disch := omega) only [Option.bind_some, tc_bs, tq_let, tc_I1, tc_I2, tc_J1, tc_J2, tc_J3, tc_F1, tc_F2, tc_F3, tc_F4, tc_G1, tc_G2, tc_G3, tc_G4, tc_G5, tc_us, tc_un, s_one, s_holds, s_J13_bitCount, bz_bI, f_V_viewed, hC.tq.f, e5]; rfl, ?_, ⟨S, _, D, m, U, P, H, Z, X, nw, ed, nv, vt, mv, Dv, rfl, hC2, hF2⟩, rfl, rfl⟩)
      simp (maxSteps := 3000000) (disch := omega) only [Option.bind_some, tc_bs, tq_let, tc_I1, tc_I2, tc_J1, tc_J2, tc_J3, tc_F1, tc_F2, tc_F3, tc_F4, tc_G1, tc_G2, tc_G3, tc_G4, tc_G5, tc_us, tc_un, s_one, s_holds, s_J13_bitCount, bz_bI, f_X11_viewed, f_X11_refused, hC.mod.f, ans2, g2', r1, q2', n10, z0, p5', f3, if_true, if_false]
    · have c2 : ∀ h, f_X10_needNotNegative 0 x2 h = some (.inl "java/lang/IndexOutOfBoundsException", h) := fun h => nneg_no q2
      have q2' : x2 < 0 := by
        by_cases z : x2 < 0
        · exact z
        · exact absurd (Int32.not_lt.mp z) q2
      have e5 : f_X10_viewed 0 (nI k) x2 (tc_mk S c) = some (.inl "java/lang/IndexOutOfBoundsException", tc_mk S c) := by
        simp (maxSteps := 3000000) (disch := omega) only [Option.bind_some, tc_bs, tq_let, tc_I1, tc_I2, tc_J1, tc_J2, tc_J3, tc_F1, tc_F2, tc_F3, tc_F4, tc_G1, tc_G2, tc_G3, tc_G4, tc_G5, tc_us, tc_un, s_one, s_holds, s_J13_bitCount, bz_bI, f_X10_viewed, hC.tq.f, g1, c1, c2, tb_r, tb_l]
      refine arm_read hC hF (.inr ⟨1, 0, by decide, by simp (maxSteps := 3000000) (disch := omega) only [Option.bind_some, tc_bs, tq_let, tc_I1, tc_I2, tc_J1, tc_J2, tc_J3, tc_F1, tc_F2, tc_F3, tc_F4, tc_G1, tc_G2, tc_G3, tc_G4, tc_G5, tc_us, tc_un, s_one, s_holds, s_J13_bitCount, bz_bI, f_V_viewed, hC.tq.f, e5, if_true], ?_⟩)
      simp (maxSteps := 3000000) (disch := omega) only [Option.bind_some, tc_bs, tq_let, tc_I1, tc_I2, tc_J1, tc_J2, tc_J3, tc_F1, tc_F2, tc_F3, tc_F4, tc_G1, tc_G2, tc_G3, tc_G4, tc_G5, tc_us, tc_un, s_one, s_holds, s_J13_bitCount, bz_bI, f_X11_viewed, f_X11_refused, hC.mod.f, g2, r1, q2', n10, z1, if_true, if_false]
  · have c1 : ∀ h, f_X10_needIndex 0 x1 (nI nw) h = some (.inl "java/lang/IndexOutOfBoundsException", h) := fun h => idx_no q1
    have r1 : ∀ h, f_X11_in x1 0 (nI nw - 1) h = some 0 := fun h => in_no (mt (lt_sub (by omega)).mp q1)
    have e5 : f_X10_viewed 0 x1 x2 (tc_mk S c) = some (.inl "java/lang/IndexOutOfBoundsException", tc_mk S c) := by
      simp (maxSteps := 3000000) (disch := omega) only [Option.bind_some, tc_bs, tq_let, tc_I1, tc_I2, tc_J1, tc_J2, tc_J3, tc_F1, tc_F2, tc_F3, tc_F4, tc_G1, tc_G2, tc_G3, tc_G4, tc_G5, tc_us, tc_un, s_one, s_holds, s_J13_bitCount, bz_bI, f_X10_viewed, hC.tq.f, g1, c1, tb_l]
    refine arm_read hC hF (.inr ⟨1, 0, by decide, by simp (maxSteps := 3000000) (disch := omega) only [Option.bind_some, tc_bs, tq_let, tc_I1, tc_I2, tc_J1, tc_J2, tc_J3, tc_F1, tc_F2, tc_F3, tc_F4, tc_G1, tc_G2, tc_G3, tc_G4, tc_G5, tc_us, tc_un, s_one, s_holds, s_J13_bitCount, bz_bI, f_V_viewed, hC.tq.f, e5, if_true], ?_⟩)
    simp (maxSteps := 3000000) (disch := omega) only [Option.bind_some, tc_bs, tq_let, tc_I1, tc_I2, tc_J1, tc_J2, tc_J3, tc_F1, tc_F2, tc_F3, tc_F4, tc_G1, tc_G2, tc_G3, tc_G4, tc_G5, tc_us, tc_un, s_one, s_holds, s_J13_bitCount, bz_bI, f_X11_viewed, f_X11_refused, hC.mod.f, g2, r1, n10, z1, if_true, if_false]
theorem arm_view (h : InvE di h0) (e1 : tq_sx n xs (y4 + 1) = some x1) : ∃ h', f_V_law_c2983 n xs 0 155 205 y4 h0 = some (.inl (y4 + 5, h')) ∧ InvE di h' := by
  obtain ⟨S, c, D, m, U, P, H, Z, X, nw, ed, nv, vt, mv, Dv, rfl, hC, hF⟩ := h
  have e0 : f_V_law_c2983 n xs 0 155 205 y4 (tc_mk S c) = armI (f_V_view 0 x1 205 (tc_mk S c)) (f_X11_view 155 x1) y4 := by
    unfold f_V_law_c2983; rw [e1]; rfl
  rw [e0]
  have n10 : ¬ (1 : Int32) = 0 := by decide
  have n20 : ¬ (2 : Int32) = 0 := by decide
  have z1 : tq_bz 1 = some 1 := rfl
  have z0 : tq_bz 0 = some 0 := rfl
  have b0 : bI false = 0 := rfl
  have b1 : ¬ bI true = 0 := by decide
  obtain ⟨pc, pr, hP⟩ := hC.gp
  have h20 := hP.1
  have hw := hC.gt.1.1
  obtain ⟨g1, g2, g3, g4, g5⟩ := hC.gv
  have isp := s_X11_isPath (S := S) hC.mod pr.1 hP x1
  by_cases qp : 0 ≤ x1 ∧ x1 < nI P.n
  · rw [decide_eq_true qp] at isp
    have cn := (hC.npath x1).1 qp
    obtain ⟨p, hp31, rfl⟩ := nI_of (Int32.not_lt.mpr qp.1)
    have hp : p < P.n := (nI_ltI hp31 (by omega)).mp qp.2
    by_cases q5 : nw < 5
    · have q5' : nI nw < 5 := nI_lt q5 (by decide)
      have q5n : ¬ nI nw = 5 := fun z => by have := (nI_eq (show nw < 2 ^ 31 by omega) (show 5 < 2 ^ 31 by decide)).mp z; omega
      have m1 : nI (nw + 1) - 1 = nI nw := by rw [← nI_1]; exact Int32.add_sub_cancel _ _
      have e5 : f_X10_view 0 (nI p) (tc_mk S c) = some (.inr (nI nw), tc_mk S (tc_F (tc_I (tc_I c 150 (upd (c.1 150) nw (nI p))) 152 (upd (c.1 152) nw 0)) 0 13 (nI (nw + 1)))) := by
        simp (maxSteps := 3000000) (disch := omega) only [Option.bind_some, tc_bs, tq_let, tc_I1, tc_I2, tc_J1, tc_J2, tc_J3, tc_F1, tc_F2, tc_F3, tc_F4, tc_G1, tc_G2, tc_G3, tc_G4, tc_G5, tc_us, tc_un, s_one, s_holds, s_J13_bitCount, bz_bI, f_X10_view, hC.tq.f, cn, tb_r, g1, q5', rs_in (c.1 150) (nI p) q5 (show 5 < 2 ^ 31 by decide), rs_in (c.1 152) 0 q5 (show 5 < 2 ^ 31 by decide), nI_1, m1, if_true]
      obtain ⟨c1, ec1⟩ : ∃ c1, c1 = tc_F (tc_I (tc_I c 150 (upd (c.1 150) nw (nI p))) 152 (upd (c.1 152) nw 0)) 0 13 (nI (nw + 1)) := ⟨_, rfl⟩
      rw [← ec1] at e5
      have kL : Wr v1w v2w v3w v4w c (ansC c1 (nI nw).toInt64) := by rw [ec1]; exact (((Wr.I _ (by omega)).trans (Wr.I _ (by omega))).trans (Wr.F _ (by omega))).trans (Wr.A _ (by omega))
      have a1 : (ansC c1 (nI nw).toInt64).1 191 = c.1 191 := by rw [ec1]; rfl
      have a2 : (ansC c1 (nI nw).toInt64).1 192 = c.1 192 := by rw [ec1]; rfl
      have a3 : (ansC c1 (nI nw).toInt64).2.1 193 = c.2.1 193 := by rw [ec1]; rfl
      have a4 : (ansC c1 (nI nw).toInt64).2.2.1 155 45 = nI nw := by rw [ec1]; exact g2
      have a5 : (ansC c1 (nI nw).toInt64).1 150 = upd (c.1 150) nw (nI p) := by rw [ec1]; rfl
      have a6 : (ansC c1 (nI nw).toInt64).1 152 = upd (c.1 152) nw 0 := by rw [ec1]; rfl
      have a7 : (ansC c1 (nI nw).toInt64).2.2.1 0 13 = nI (nw + 1) := by rw [ec1]; rfl
      have hL : f_V_view 0 (nI p) 205 (tc_mk S c) = some (0, tc_mk S (ansC c1 (nI nw).toInt64)) := by simp (maxSteps := 3000000) (disch := omega) only [Option.bind_some, tc_bs, tq_let, tc_I1, tc_I2, tc_J1, tc_J2, tc_J3, tc_F1, tc_F2, tc_F3, tc_F4, tc_G1, tc_G2, tc_G3, tc_G4, tc_G5, tc_us, tc_un, s_one, s_holds, s_J13_bitCount, bz_bI, f_V_view, hC.tq.f, e5]; rfl
      clear ec1
      obtain ⟨d, ed0⟩ : ∃ d, d = ansC c1 (nI nw).toInt64 := ⟨_, rfl⟩
      rw [← ed0] at kL a1 a2 a3 a4 a5 a6 a7
      have isp' : f_X11_isPath 155 (nI p) (tc_mk S d) = some (bI true) := by
        have hpn : d.2.2.1 155 24 = nI P.n := by rw [kL.2.2.1 155 24 (by omega)]; exact pr.1
        rw [s_X11_isPath (S := S) hC.mod hpn hP, decide_eq_true qp]
      obtain ⟨d2, ed2⟩ : ∃ d2, d2 = tc_I (tc_I (tc_F d 155 0 0) 191 (upd (c.1 191) nw (nI p))) 192 (upd (c.1 192) nw 0) := ⟨_, rfl⟩
      have k2 : Wr v1w v2w v3w v4w c d2 := by rw [ed2]; exact kL.trans (((Wr.F _ (by omega)).trans (Wr.I _ (by omega))).trans (Wr.I _ (by omega)))
      have hg2 := hC.gt.wr k2 (fun a _ => by omega) (fun a _ => by omega) (fun q k _ => by omega) (fun q k _ => by omega)
      have hp2 := hC.gp.wr k2 (fun a _ => by omega) (fun q k _ => by omega)
      have f1 := s_X11_all (S := S) (c := d2) hC.mod hw hg2.2.2.2.2
      have f1 : f_X11_all 155 (tc_mk S d2) = some (mkS (D.nodesOf D.al)) := by
        rw [f1]; congr 2; exact Doc.nodesOf_cong fun i hi => (decide_eq_true hi).symm
      obtain ⟨d3, f2, k3, -, f3⟩ := s_X11_findAll (S := S) (Q := D.al) hC.mod hw hg2.2.2.2.1 hg2.2.2.2.2 hp2.2.1 hP (fun j h => D.al_in h)
      obtain ⟨t1, t2, t3, t4, t5⟩ := k3
      have d45 : d3.2.2.1 155 45 = nI nw := by rw [t3, ed2]; exact a4
      have hgC2 : GP d3 P := by
        refine ⟨?_, hp2.2.1.rf ⟨t1, t2, t3, t4, t5⟩, hP⟩
        have := hp2.1
        unfold PC at this ⊢
        rw [t3, t1 (98 + 2) (by omega), t1 (98 + 4) (by omega), t1 (98 + 6) (by omega), t1 (98 + 8) (by omega), t1 (98 + 10) (by omega), t1 (98 + 12) (by omega), t1 (98 + 14) (by omega), t1 (98 + 16) (by omega), t1 (98 + 18) (by omega)]
        exact this
      have m60 : (60 : Int32) * nI p = nI (60 * p) := nI_mul 60 p
      have v179 : d3.2.1 179 (60 * p) = mkS (D.nodesOf (D.fnd P D.al p 0)) := by
        have := f3 p 0 hp (D.n_pos hw)
        rwa [D.ord_0 hw, Nat.add_zero] at this
      have d193 : d3.2.1 193 = c.2.1 193 := by rw [t2 193 (by omega), ed2]; exact a3
      obtain ⟨d4, ed4⟩ : ∃ d4, d4 = tc_F (tc_J d3 193 (vp_updL (c.2.1 193) nw (mkS (D.nodesOf (D.fnd P D.al p 0))))) 155 45 (nI (nw + 1)) := ⟨_, rfl⟩
      have hR : f_X11_view 155 (nI p) (tc_mk S d) = some (nI nw, tc_mk S d4) := by
        have e2 : tq_is (tc_mk S d2) 155 11 = some () := by simp (maxSteps := 3000000) (disch := omega) only [Option.bind_some, tc_bs, tq_let, tc_I1, tc_I2, tc_J1, tc_J2, tc_J3, tc_F1, tc_F2, tc_F3, tc_F4, tc_G1, tc_G2, tc_G3, tc_G4, tc_G5, tc_us, tc_un, s_one, s_holds, s_J13_bitCount, bz_bI, hC.mod.f]
        have hh : f_X11_view 155 (nI p) (tc_mk S d) = (f_X11_all 155 (tc_mk S d2)).bind fun v13 => (tq_is (tc_mk S d2) 155 11).bind fun _ => (f_X11_findAll 155 v13 (tc_mk S d2)).bind fun v15 =>
            (tq_gr v15 155 11 48).bind fun k17 => (tq_gi v15 155 11 45).bind fun x18 => (tq_gr v15 155 11 29).bind fun k19 => (tq_aj v15 k19 ((60 : Int32) * nI p)).bind fun x20 => (tq_sl v15 k17 x18 x20).bind fun w21 =>
            (tq_gi w21 155 11 45).bind fun x22 => (tq_pf w21 155 11 45 (.int ((x22 + (1 : Int32))))).bind fun w23 => (tq_gi w23 155 11 45).bind fun x24 => some ((x24 - (1 : Int32)), w23) := by
          rw [ed2]
          simp (maxSteps := 3000000) (disch := omega) only [Option.bind_some, tc_bs, tq_let, tc_I1, tc_I2, tc_J1, tc_J2, tc_J3, tc_F1, tc_F2, tc_F3, tc_F4, tc_G1, tc_G2, tc_G3, tc_G4, tc_G5, tc_us, tc_un, s_one, s_holds, s_J13_bitCount, bz_bI, f_X11_view, isp', b1, hC.mod.f, a4, q5n, f_X11_refused, n10, z0, a1, a2, if_true, if_false]
        rw [hh, f1, Option.bind_some, e2, Option.bind_some, f2, Option.bind_some, ed4]
        simp (maxSteps := 3000000) (disch := omega) only [Option.bind_some, tc_bs, tq_let, tc_I1, tc_I2, tc_J1, tc_J2, tc_J3, tc_F1, tc_F2, tc_F3, tc_F4, tc_G1, tc_G2, tc_G3, tc_G4, tc_G5, tc_us, tc_un, s_one, s_holds, s_J13_bitCount, bz_bI, hC.mod.f, d45, m60, v179, d193, nI_1, m1]
      refine armI_any hC.mod hC.tq (.inl ⟨nI nw, c1, d4, hL, by rw [← ed0]; exact hR, ?_, ?_, ?_⟩)
      · -- the relation behind it
        have k4 : Wr v1w v2w v3w v4w d3 d4 := by rw [ed4]; exact (Wr.J _ (by omega)).trans (Wr.F _ (by omega))
        have kf : Wr v1w v2w v3w v4w d2 d3 := ⟨fun a ha => t1 a (by omega), fun a ha => t2 a (by omega), fun q k _ => by rw [t3], fun q k hq => by rw [t4 q (by omega)], t5⟩
        refine hC.vie (nw' := nw + 1) hF ((k2.trans kf).trans k4) ⟨?_, ?_, by omega, fun k hk => ?_, fun k hk => ?_⟩
        · rw [ed4]; show d3.2.2.1 0 13 = _; rw [t3, ed2]; exact a7
        · rw [ed4]; rfl
        · have b150 : d4.1 150 = upd (c.1 150) nw (nI p) := by rw [ed4]; show d3.1 150 = _; rw [t1 150 (by omega), ed2]; exact a5
          have b191 : d4.1 191 = upd (c.1 191) nw (nI p) := by rw [ed4]; show d3.1 191 = _; rw [t1 191 (by omega), ed2]; rfl
          have b193 : d4.2.1 193 = vp_updL (c.2.1 193) nw (mkS (D.nodesOf (D.fnd P D.al p 0))) := by rw [ed4]; rfl
          rw [b150, b191, b193]
          by_cases e : k = nw
          · subst e
            exact ⟨p, hp, by rw [upd_s], by rw [upd_s], by rw [updL_s]⟩
          · obtain ⟨p', p1, p2, p3, p4⟩ := g4 k (by omega)
            exact ⟨p', p1, by rw [upd_n _ _ e]; exact p2, by rw [upd_n _ _ e]; exact p3, by show (if k = nw then _ else _) = _; rw [if_neg e]; exact p4⟩
        · have b152 : d4.1 152 = upd (c.1 152) nw 0 := by rw [ed4]; show d3.1 152 = _; rw [t1 152 (by omega), ed2]; exact a6
          have b192 : d4.1 192 = upd (c.1 192) nw 0 := by rw [ed4]; show d3.1 192 = _; rw [t1 192 (by omega), ed2]; rfl
          rw [b152, b192]
          by_cases e : k = nw
          · subst e; rw [upd_s, upd_s]
          · rw [upd_n _ _ e, upd_n _ _ e]; exact g5 k (by omega)
      · rw [ed4]; show d3.2.2.1 155 0 = 0; rw [t3, ed2]; rfl
      · rw [ed4]; show d3.2.1 205 = _; rw [t2 205 (by omega), ed2, ← ed0]; rfl
    · have q5' : ¬ nI nw < 5 := nI_nlt (show 5 ≤ nw by omega) (by omega)
      have q5n : nI nw = 5 := by rw [show nw = 5 by omega]; rfl
      have e5 : f_X10_view 0 (nI p) (tc_mk S c) = some (.inl "java/lang/IllegalStateException", tc_mk S c) := by
        simp (maxSteps := 3000000) (disch := omega) only [Option.bind_some, tc_bs, tq_let, tc_I1, tc_I2, tc_J1, tc_J2, tc_J3, tc_F1, tc_F2, tc_F3, tc_F4, tc_G1, tc_G2, tc_G3, tc_G4, tc_G5, tc_us, tc_un, s_one, s_holds, s_J13_bitCount, bz_bI, f_X10_view, hC.tq.f, cn, tb_r, g1, q5', if_false]
      refine arm_read hC hF (.inr ⟨2, 0, by decide, by simp (maxSteps := 3000000) (disch := omega) only [Option.bind_some, tc_bs, tq_let, tc_I1, tc_I2, tc_J1, tc_J2, tc_J3, tc_F1, tc_F2, tc_F3, tc_F4, tc_G1, tc_G2, tc_G3, tc_G4, tc_G5, tc_us, tc_un, s_one, s_holds, s_J13_bitCount, bz_bI, f_V_view, hC.tq.f, e5, nSI, if_true, if_false], ?_⟩)
      simp (maxSteps := 3000000) (disch := omega) only [Option.bind_some, tc_bs, tq_let, tc_I1, tc_I2, tc_J1, tc_J2, tc_J3, tc_F1, tc_F2, tc_F3, tc_F4, tc_G1, tc_G2, tc_G3, tc_G4, tc_G5, tc_us, tc_un, s_one, s_holds, s_J13_bitCount, bz_bI, f_X11_view, f_X11_refused, hC.mod.f, isp, b1, g2, q5n, n10, n20, z1, if_true, if_false]
  · rw [decide_eq_false qp] at isp
    have cn := (hC.npath x1).2 qp
    have e5 : f_X10_view 0 x1 (tc_mk S c) = some (.inl "java/lang/IndexOutOfBoundsException", tc_mk S c) := by
      simp (maxSteps := 3000000) (disch := omega) only [Option.bind_some, tc_bs, tq_let, tc_I1, tc_I2, tc_J1, tc_J2, tc_J3, tc_F1, tc_F2, tc_F3, tc_F4, tc_G1, tc_G2, tc_G3, tc_G4, tc_G5, tc_us, tc_un, s_one, s_holds, s_J13_bitCount, bz_bI, f_X10_view, hC.tq.f, cn, tb_l]
    refine arm_read hC hF (.inr ⟨1, 0, by decide, by simp (maxSteps := 3000000) (disch := omega) only [Option.bind_some, tc_bs, tq_let, tc_I1, tc_I2, tc_J1, tc_J2, tc_J3, tc_F1, tc_F2, tc_F3, tc_F4, tc_G1, tc_G2, tc_G3, tc_G4, tc_G5, tc_us, tc_un, s_one, s_holds, s_J13_bitCount, bz_bI, f_V_view, hC.tq.f, e5, if_true], ?_⟩)
    simp (maxSteps := 3000000) (disch := omega) only [Option.bind_some, tc_bs, tq_let, tc_I1, tc_I2, tc_J1, tc_J2, tc_J3, tc_F1, tc_F2, tc_F3, tc_F4, tc_G1, tc_G2, tc_G3, tc_G4, tc_G5, tc_us, tc_un, s_one, s_holds, s_J13_bitCount, bz_bI, f_X11_view, f_X11_refused, hC.mod.f, isp, b0, n10, z1, if_true, if_false]
end VIW
