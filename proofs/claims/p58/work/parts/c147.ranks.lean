/-! ===== words, odds, what readers see, changes of views ===== -/
section RKO
variable {S : tq_H} {c c' c1 c2 : tc_C} {di : DI} {D : Doc} {m : Nat} {U : Ups} {P : Pat} {H : Nat → Bool} {Z Z' : Sma} {X Y : Nat → Bool} {nw : Nat} {ed : Option Nat} {nv : Nat} {vt mv : Nat → Nat} {Dv : Nat → Doc} {t n s i p k v : Nat} {x x1 x2 x3 x4 y4 : Int32} {xs : Nat → Int32} {h0 : tq_H}
theorem arm_ranked (h : InvE di h0) (e1 : tq_sx n xs (y4 + 1) = some x1) (e2 : tq_sx n xs (y4 + 2) = some x2) : ∃ h', f_V_law_c3163 n xs 0 155 205 y4 h0 = some (.inl (y4 + 5, h')) ∧ InvE di h' := by
  obtain ⟨S, c, D, m, U, P, H, Z, X, nw, ed, nv, vt, mv, Dv, rfl, hC, hF⟩ := h
  have e0 : f_V_law_c3163 n xs 0 155 205 y4 (tc_mk S c) = armI (f_V_ranked 0 x1 x2 205 (tc_mk S c)) (f_X11_ranked 155 x1 x2) y4 := by
    unfold f_V_law_c3163; rw [e1, e2]; rfl
  rw [e0]
  have n10 : ¬ (1 : Int32) = 0 := by decide
  have n20 : ¬ (2 : Int32) = 0 := by decide
  have z1 : tq_bz 1 = some 1 := rfl
  have z0 : tq_bz 0 = some 0 := rfl
  have hw := hC.gt.1.1
  by_cases q2 : 0 ≤ x2
  · have q2' : x2 ≥ 0 := q2
    have c2 : ∀ h, f_X10_needNotNegative 0 x2 h = some (.inr (), h) := fun h => nneg_ok q2
    by_cases q1 : 0 ≤ x1 ∧ x1 ≤ 999
    · have c1 : ∀ h, f_X10_needRange 0 x1 0 999 h = some (.inr (), h) := fun h => rng_ok q1.1 q1.2
      have r1 : ∀ h, f_X11_in x1 0 999 h = some 1 := fun h => in_ok q1.1 q1.2
      have hn1 : x1 ≠ -1 := fun z => by rw [z] at q1; exact absurd q1.1 (by decide)
      have f1 := s_textsWorth (S := S) (w := x1) hC.t1 hw hC.gt.2.1 hC.gt.2.2.1
      obtain ⟨x, f2, f3⟩ := s_rankedSpot (S := S) (w := x1) hC.t1 hw hC.gt.2.1 x2
      have f3 : f_X3_nodeAt 2 x (tc_mk S c) = some (D.rkAt x1 x2 D.n) := f3
      have e5 : f_X10_ranked 0 x1 x2 (tc_mk S c) = some (.inr (D.rkAt x1 x2 D.n), tc_mk S c) := by
        simp (maxSteps := 3000000) (disch := omega) only [Option.bind_some, tc_bs, tq_let, tc_I1, tc_I2, tc_J1, tc_J2, tc_J3, tc_F1, tc_F2, tc_F3, tc_F4, tc_G1, tc_G2, tc_G3, tc_G4, tc_G5, tc_us, tc_un, s_one, s_holds, s_J13_bitCount, bz_bI, f_X10_ranked, hC.tq.f, hC.t1.f, c1, c2, tb_r, f1, f2, f3]
      have hD := (hC.sc (ans_sc c (D.rkAt x1 x2 D.n).toInt64)).sc (thr_sc _ 0)
      have f4 := ranked_loop (S := S) (w := x1) hD.mod hw hD.gt.2.2.2.1 hD.gt.2.2.2.2 hn1 x2
      refine arm_read hC hF (.inl ⟨_, by simp (maxSteps := 3000000) (disch := omega) only [Option.bind_some, tc_bs, tq_let, tc_I1, tc_I2, tc_J1, tc_J2, tc_J3, tc_F1, tc_F2, tc_F3, tc_F4, tc_G1, tc_G2, tc_G3, tc_G4, tc_G5, tc_us, tc_un, s_one, s_holds, s_J13_bitCount, bz_bI, f_V_ranked, hC.tq.f, e5]; rfl, ?_⟩)
      simp (maxSteps := 3000000) (disch := omega) only [Option.bind_some, tc_bs, tq_let, tc_I1, tc_I2, tc_J1, tc_J2, tc_J3, tc_F1, tc_F2, tc_F3, tc_F4, tc_G1, tc_G2, tc_G3, tc_G4, tc_G5, tc_us, tc_un, s_one, s_holds, s_J13_bitCount, bz_bI, f_X11_ranked, f_X11_refused, hC.mod.f, q2', r1, n10, z0, f4, if_true, if_false]
    · have c1 : ∀ h, f_X10_needRange 0 x1 0 999 h = some (.inl "java/lang/IllegalArgumentException", h) := fun h => rng_no q1
      have r1 : ∀ h, f_X11_in x1 0 999 h = some 0 := fun h => in_no q1
      have e5 : f_X10_ranked 0 x1 x2 (tc_mk S c) = some (.inl "java/lang/IllegalArgumentException", tc_mk S c) := by
        simp (maxSteps := 3000000) (disch := omega) only [Option.bind_some, tc_bs, tq_let, tc_I1, tc_I2, tc_J1, tc_J2, tc_J3, tc_F1, tc_F2, tc_F3, tc_F4, tc_G1, tc_G2, tc_G3, tc_G4, tc_G5, tc_us, tc_un, s_one, s_holds, s_J13_bitCount, bz_bI, f_X10_ranked, hC.tq.f, c1, c2, tb_r, tb_l]
      refine arm_read hC hF (.inr ⟨2, 0, by decide, by simp (maxSteps := 3000000) (disch := omega) only [Option.bind_some, tc_bs, tq_let, tc_I1, tc_I2, tc_J1, tc_J2, tc_J3, tc_F1, tc_F2, tc_F3, tc_F4, tc_G1, tc_G2, tc_G3, tc_G4, tc_G5, tc_us, tc_un, s_one, s_holds, s_J13_bitCount, bz_bI, f_V_ranked, hC.tq.f, e5, nAI, if_true, if_false], ?_⟩)
      simp (maxSteps := 3000000) (disch := omega) only [Option.bind_some, tc_bs, tq_let, tc_I1, tc_I2, tc_J1, tc_J2, tc_J3, tc_F1, tc_F2, tc_F3, tc_F4, tc_G1, tc_G2, tc_G3, tc_G4, tc_G5, tc_us, tc_un, s_one, s_holds, s_J13_bitCount, bz_bI, f_X11_ranked, f_X11_refused, hC.mod.f, q2', r1, n10, n20, z1, if_true, if_false]
  · have q2' : ¬ x2 ≥ 0 := q2
    have c2 : ∀ h, f_X10_needNotNegative 0 x2 h = some (.inl "java/lang/IndexOutOfBoundsException", h) := fun h => nneg_no q2
    have e5 : f_X10_ranked 0 x1 x2 (tc_mk S c) = some (.inl "java/lang/IndexOutOfBoundsException", tc_mk S c) := by
      simp (maxSteps := 3000000) (disch := omega) only [Option.bind_some, tc_bs, tq_let, tc_I1, tc_I2, tc_J1, tc_J2, tc_J3, tc_F1, tc_F2, tc_F3, tc_F4, tc_G1, tc_G2, tc_G3, tc_G4, tc_G5, tc_us, tc_un, s_one, s_holds, s_J13_bitCount, bz_bI, f_X10_ranked, hC.tq.f, c2, tb_l]
    refine arm_read hC hF (.inr ⟨1, 0, by decide, by simp (maxSteps := 3000000) (disch := omega) only [Option.bind_some, tc_bs, tq_let, tc_I1, tc_I2, tc_J1, tc_J2, tc_J3, tc_F1, tc_F2, tc_F3, tc_F4, tc_G1, tc_G2, tc_G3, tc_G4, tc_G5, tc_us, tc_un, s_one, s_holds, s_J13_bitCount, bz_bI, f_V_ranked, hC.tq.f, e5, if_true], ?_⟩)
    simp (maxSteps := 3000000) (disch := omega) only [Option.bind_some, tc_bs, tq_let, tc_I1, tc_I2, tc_J1, tc_J2, tc_J3, tc_F1, tc_F2, tc_F3, tc_F4, tc_G1, tc_G2, tc_G3, tc_G4, tc_G5, tc_us, tc_un, s_one, s_holds, s_J13_bitCount, bz_bI, f_X11_ranked, f_X11_refused, hC.mod.f, q2', n10, z1, if_true, if_false]
theorem Cor.gk (h : Cor S c di D m U P H Z X nw ed nv vt mv Dv) : GK c m nv vt mv Dv := h.2.2.2.2.2.2.2.2.2.1
theorem lt_sub {x : Int32} {N : Nat} (hN : N < 1000) : (0 ≤ x ∧ x ≤ nI N - 1) ↔ (0 ≤ x ∧ x < nI N) := low_iff hN x
/-- versions: both sides -/
theorem Cor.ver (h : Cor S c di D m U P H Z X nw ed nv vt mv Dv) (q : 0 ≤ x ∧ x < nI nv) : ∃ k, k < nv ∧ k < 6 ∧ x = nI k ∧ f_X10_neededVersion 0 x (tc_mk S c) = some (.inr (vt k), tc_mk S c) ∧ ∀ d, d.2.2.1 155 49 = nI nv → f_X11_isVersion 155 x (tc_mk S d) = some 1 := by
  obtain ⟨g1, g2, g3, g4, g5⟩ := h.gk
  obtain ⟨k, k1, rfl⟩ := nI_of (Int32.not_lt.mpr q.1)
  have hk : k < nv := (nI_ltI k1 (by omega)).mp q.2
  have hk6 : k < 6 := by omega
  have q0 : ¬ nI k < 0 := Int32.not_lt.mpr q.1
  have q6 : nI k < 6 := nI_lt hk6 (by decide)
  obtain ⟨g, hg⟩ := h.tq.2.1
  have a1 : tq_an (tc_mk S c) 148 = some 6 := tc_an hg (by decide)
  have a2 : tq_aq (tc_mk S c) 148 (nI k) = some (some (vt k)) := by
    rw [tc_aq hg, nI_clamp (by omega), if_neg (by rintro (z | z); exact q0 z; omega), (g5 k hk).1]
  have z1 : tq_bz 1 = some 1 := rfl
  refine ⟨k, hk, hk6, rfl, by simp (maxSteps := 3000000) (disch := omega) only [Option.bind_some, tc_bs, tq_let, tc_I1, tc_I2, tc_J1, tc_J2, tc_J3, tc_F1, tc_F2, tc_F3, tc_F4, tc_G1, tc_G2, tc_G3, tc_G4, tc_G5, tc_us, tc_un, s_one, s_holds, s_J13_bitCount, bz_bI, f_X10_neededVersion, h.tq.f, q0, a1, q6, a2, if_true, if_false], fun d hd => ?_⟩
  have r1 : ∀ h, f_X11_in (nI k) 0 (nI nv - 1) h = some 1 := fun h => in_ok ((lt_sub (by omega)).mpr q).1 ((lt_sub (by omega)).mpr q).2
  simp (maxSteps := 3000000) (disch := omega) only [Option.bind_some, tc_bs, tq_let, tc_I1, tc_I2, tc_J1, tc_J2, tc_J3, tc_F1, tc_F2, tc_F3, tc_F4, tc_G1, tc_G2, tc_G3, tc_G4, tc_G5, tc_us, tc_un, s_one, s_holds, s_J13_bitCount, bz_bI, f_X11_isVersion, h.mod.f, hd, r1, z1]
theorem Cor.ver_n (h : Cor S c di D m U P H Z X nw ed nv vt mv Dv) (q : ¬ (0 ≤ x ∧ x < nI nv)) : f_X10_neededVersion 0 x (tc_mk S c) = some (.inl "java/lang/IndexOutOfBoundsException", tc_mk S c) ∧ ∀ d, d.2.2.1 155 49 = nI nv → f_X11_isVersion 155 x (tc_mk S d) = some 0 := by
  obtain ⟨g1, g2, g3, g4, g5⟩ := h.gk
  have z0 : tq_bz 0 = some 0 := rfl
  refine ⟨?_, fun d hd => ?_⟩
  · by_cases q0 : x < 0
    · simp (maxSteps := 3000000) (disch := omega) only [Option.bind_some, tc_bs, tq_let, tc_I1, tc_I2, tc_J1, tc_J2, tc_J3, tc_F1, tc_F2, tc_F3, tc_F4, tc_G1, tc_G2, tc_G3, tc_G4, tc_G5, tc_us, tc_un, s_one, s_holds, s_J13_bitCount, bz_bI, f_X10_neededVersion, q0, if_true]
    · obtain ⟨k, k1, rfl⟩ := nI_of q0
      obtain ⟨g, hg⟩ := h.tq.2.1
      have a1 : tq_an (tc_mk S c) 148 = some 6 := tc_an hg (by decide)
      by_cases q6 : nI k < 6
      · have hk6 : k < 6 := (nI_ltI k1 (show 6 < 2 ^ 31 by decide)).mp q6
        have hk : nv ≤ k := by
          rcases Nat.lt_or_ge k nv with w | w
          · exact absurd ⟨Int32.not_lt.mp q0, nI_lt w (by omega)⟩ q
          · exact w
        have a2 : tq_aq (tc_mk S c) 148 (nI k) = some none := by
          rw [tc_aq hg, nI_clamp (by omega), if_neg (by rintro (z | z); exact q0 z; omega), g4 k hk hk6]
        simp (maxSteps := 3000000) (disch := omega) only [Option.bind_some, tc_bs, tq_let, tc_I1, tc_I2, tc_J1, tc_J2, tc_J3, tc_F1, tc_F2, tc_F3, tc_F4, tc_G1, tc_G2, tc_G3, tc_G4, tc_G5, tc_us, tc_un, s_one, s_holds, s_J13_bitCount, bz_bI, f_X10_neededVersion, h.tq.f, q0, a1, q6, a2, if_true, if_false]
      · simp (maxSteps := 3000000) (disch := omega) only [Option.bind_some, tc_bs, tq_let, tc_I1, tc_I2, tc_J1, tc_J2, tc_J3, tc_F1, tc_F2, tc_F3, tc_F4, tc_G1, tc_G2, tc_G3, tc_G4, tc_G5, tc_us, tc_un, s_one, s_holds, s_J13_bitCount, bz_bI, f_X10_neededVersion, h.tq.f, q0, a1, q6, if_false]
  · have r1 : ∀ h, f_X11_in x 0 (nI nv - 1) h = some 0 := fun h => in_no (mt (lt_sub (by omega)).mp q)
    simp (maxSteps := 3000000) (disch := omega) only [Option.bind_some, tc_bs, tq_let, tc_I1, tc_I2, tc_J1, tc_J2, tc_J3, tc_F1, tc_F2, tc_F3, tc_F4, tc_G1, tc_G2, tc_G3, tc_G4, tc_G5, tc_us, tc_un, s_one, s_holds, s_J13_bitCount, bz_bI, f_X11_isVersion, h.mod.f, hd, r1, z0]
def odB (D E F : Doc) (v : Nat) : Bool := D.dif E v && (E.dif F v && F.dif D v)
theorem dif_out {D E : Doc} {v : Nat} (h1 : D.has v = false) (h2 : E.has v = false) : D.dif E v = false := by
  unfold Doc.dif; rw [h1, h2]; rfl
theorem arm_odds (h : InvE di h0) (e1 : tq_sx n xs (y4 + 1) = some x1) (e2 : tq_sx n xs (y4 + 2) = some x2) (e3 : tq_sx n xs (y4 + 3) = some x3) : ∃ h', f_V_law_c3399 n xs 0 155 205 y4 h0 = some (.inl (y4 + 5, h')) ∧ InvE di h' := by
  obtain ⟨S, c, D, m, U, P, H, Z, X, nw, ed, nv, vt, mv, Dv, rfl, hC, hF⟩ := h
  have e0 : f_V_law_c3399 n xs 0 155 205 y4 (tc_mk S c) = armI (f_V_odds 0 x1 x2 x3 205 (tc_mk S c)) (f_X11_odds 155 x1 x2 x3) y4 := by
    unfold f_V_law_c3399; rw [e1, e2, e3]; rfl
  rw [e0]
  have n10 : ¬ (1 : Int32) = 0 := by decide
  have z1 : tq_bz 1 = some 1 := rfl
  have z0 : tq_bz 0 = some 0 := rfl
  obtain ⟨g1, g2, g3, g4, g5⟩ := hC.gk
  by_cases q1 : 0 ≤ x1 ∧ x1 < nI nv
  · obtain ⟨k1, a1, b1, rfl, l1, r1⟩ := hC.ver q1
    by_cases q2 : 0 ≤ x2 ∧ x2 < nI nv
    · obtain ⟨k2, a2, b2, rfl, l2, r2⟩ := hC.ver q2
      by_cases q3 : 0 ≤ x3 ∧ x3 < nI nv
      · obtain ⟨k3, a3, b3, rfl, l3, r3⟩ := hC.ver q3
        obtain ⟨-, -, -, -, -, -, -, -, hv, -⟩ := hC.1
        have T1 := (hv k1 a1).1
        have T2 := (hv k2 a2).1
        have T3 := (hv k3 a3).1
        have G1 := g5 k1 a1
        have G2 := g5 k2 a2
        have G3 := g5 k3 a3
        have hm60 : m ≤ 60 := hC.gt.2.2.1.1
        have ef : ∀ v, (if bI ((Dv k1).dif (Dv k2) v) = 0 then (0 : Int32) else if bI ((Dv k2).dif (Dv k3) v) = 0 then 0 else if bI ((Dv k3).dif (Dv k1) v) = 0 then 0 else 1) = bI (odB (Dv k1) (Dv k2) (Dv k3) v) := fun v => by
          unfold odB; cases (Dv k1).dif (Dv k2) v <;> cases (Dv k2).dif (Dv k3) v <;> cases (Dv k3).dif (Dv k1) v <;> rfl
        -- the class
        have L : tq_loop (f_X10_odds_b27 (vt k1) (vt k2) (vt k3) (tc_mk S c)) tq_N ((0 : Int32), (0 : Int32)) = some (nI (fb_ct (odB (Dv k1) (Dv k2) (Dv k3)) 60)) := by
          refine tc_scan (B := f_X10_odds_b27 (vt k1) (vt k2) (vt k3) (tc_mk S c)) 60 (fun i => nI (fb_ct (odB (Dv k1) (Dv k2) (Dv k3)) i)) (by omega) (fun v hv => ?_) ?_
          · have d0 : ¬ nI v ≥ 60 := nI_ge hv (by decide)
            have d1 := s_differs (S := S) T1 T2 G1.2.1.1 G2.2.1.1 G1.2.2.1 G2.2.2.1 G1.2.2.2.1 G2.2.2.2.1 hv
            have d2 := s_differs (S := S) T2 T3 G2.2.1.1 G3.2.1.1 G2.2.2.1 G3.2.2.1 G2.2.2.2.1 G3.2.2.2.1 hv
            have d3 := s_differs (S := S) T3 T1 G3.2.1.1 G1.2.1.1 G3.2.2.1 G1.2.2.1 G3.2.2.2.1 G1.2.2.2.1 hv
            have i1 : tq_is (tc_mk S c) (vt k1) 8 = some () := by simp (maxSteps := 3000000) (disch := omega) only [Option.bind_some, tc_bs, tq_let, tc_I1, tc_I2, tc_J1, tc_J2, tc_J3, tc_F1, tc_F2, tc_F3, tc_F4, tc_G1, tc_G2, tc_G3, tc_G4, tc_G5, tc_us, tc_un, s_one, s_holds, s_J13_bitCount, bz_bI, T1.f]
            have i2 : tq_is (tc_mk S c) (vt k2) 8 = some () := by simp (maxSteps := 3000000) (disch := omega) only [Option.bind_some, tc_bs, tq_let, tc_I1, tc_I2, tc_J1, tc_J2, tc_J3, tc_F1, tc_F2, tc_F3, tc_F4, tc_G1, tc_G2, tc_G3, tc_G4, tc_G5, tc_us, tc_un, s_one, s_holds, s_J13_bitCount, bz_bI, T2.f]
            have i3 : tq_is (tc_mk S c) (vt k3) 8 = some () := by simp (maxSteps := 3000000) (disch := omega) only [Option.bind_some, tc_bs, tq_let, tc_I1, tc_I2, tc_J1, tc_J2, tc_J3, tc_F1, tc_F2, tc_F3, tc_F4, tc_G1, tc_G2, tc_G3, tc_G4, tc_G5, tc_us, tc_un, s_one, s_holds, s_J13_bitCount, bz_bI, T3.f]
            cases w1 : (Dv k1).dif (Dv k2) v with
            | false =>
              have b0 : bI false = 0 := rfl
              rw [w1] at d1
              have e4 := ct_s0 (p := odB (Dv k1) (Dv k2) (Dv k3)) (n := v) (by unfold odB; simp [w1])
              simp (maxSteps := 3000000) (disch := omega) only [Option.bind_some, tc_bs, tq_let, tc_I1, tc_I2, tc_J1, tc_J2, tc_J3, tc_F1, tc_F2, tc_F3, tc_F4, tc_G1, tc_G2, tc_G3, tc_G4, tc_G5, tc_us, tc_un, s_one, s_holds, s_J13_bitCount, bz_bI, f_X10_odds_b27, d0, i1, d1, b0, if_true, if_false, nI_1, e4]
            | true =>
              have b1 : ¬ bI true = 0 := by decide
              rw [w1] at d1
              cases w2 : (Dv k2).dif (Dv k3) v with
              | false =>
                have b0 : bI false = 0 := rfl
                rw [w2] at d2
                have e4 := ct_s0 (p := odB (Dv k1) (Dv k2) (Dv k3)) (n := v) (by unfold odB; simp [w1, w2])
                simp (maxSteps := 3000000) (disch := omega) only [Option.bind_some, tc_bs, tq_let, tc_I1, tc_I2, tc_J1, tc_J2, tc_J3, tc_F1, tc_F2, tc_F3, tc_F4, tc_G1, tc_G2, tc_G3, tc_G4, tc_G5, tc_us, tc_un, s_one, s_holds, s_J13_bitCount, bz_bI, f_X10_odds_b27, d0, i1, d1, b1, i2, d2, b0, if_true, if_false, nI_1, e4]
              | true =>
                rw [w2] at d2
                cases w3 : (Dv k3).dif (Dv k1) v with
                | false =>
                  have b0 : bI false = 0 := rfl
                  rw [w3] at d3
                  have e4 := ct_s0 (p := odB (Dv k1) (Dv k2) (Dv k3)) (n := v) (by unfold odB; simp [w1, w2, w3])
                  simp (maxSteps := 3000000) (disch := omega) only [Option.bind_some, tc_bs, tq_let, tc_I1, tc_I2, tc_J1, tc_J2, tc_J3, tc_F1, tc_F2, tc_F3, tc_F4, tc_G1, tc_G2, tc_G3, tc_G4, tc_G5, tc_us, tc_un, s_one, s_holds, s_J13_bitCount, bz_bI, f_X10_odds_b27, d0, i1, d1, b1, i2, d2, i3, d3, b0, if_true, if_false, nI_1, e4]
                | true =>
                  rw [w3] at d3
                  have e4 := ct_s1 (p := odB (Dv k1) (Dv k2) (Dv k3)) (n := v) (by unfold odB; simp [w1, w2, w3])
                  simp (maxSteps := 3000000) (disch := omega) only [Option.bind_some, tc_bs, tq_let, tc_I1, tc_I2, tc_J1, tc_J2, tc_J3, tc_F1, tc_F2, tc_F3, tc_F4, tc_G1, tc_G2, tc_G3, tc_G4, tc_G5, tc_us, tc_un, s_one, s_holds, s_J13_bitCount, bz_bI, f_X10_odds_b27, d0, i1, d1, b1, i2, d2, i3, d3, if_true, if_false, nI_1, e4]
          · have d0 : nI 60 ≥ 60 := Int32.le_refl _
            simp (maxSteps := 3000000) (disch := omega) only [Option.bind_some, tc_bs, tq_let, tc_I1, tc_I2, tc_J1, tc_J2, tc_J3, tc_F1, tc_F2, tc_F3, tc_F4, tc_G1, tc_G2, tc_G3, tc_G4, tc_G5, tc_us, tc_un, s_one, s_holds, s_J13_bitCount, bz_bI, f_X10_odds_b27, d0, if_true]
        -- the reference
        have ec : fb_ct (odB (Dv k1) (Dv k2) (Dv k3)) 60 = fb_ct (odB (Dv k1) (Dv k2) (Dv k3)) m := by
          refine ct_cut 60 (fun v hv => ?_) hm60
          have out : ∀ k, k < nv → (Dv k).has v = false := fun k hk => by
            cases hh : (Dv k).has v with
            | false => rfl
            | true =>
              obtain ⟨i, i1, i2⟩ := Doc.has_iff.mp hh
              have := (g5 k hk).2.2.2.1.2.1 i i1
              have := (g5 k hk).2.2.2.2.2.2.1
              omega
          unfold odB
          rw [dif_out (out k1 a1) (out k2 a2)]; rfl
        have e5 : f_X10_odds 0 (nI k1) (nI k2) (nI k3) (tc_mk S c) = some (.inr (nI (fb_ct (odB (Dv k1) (Dv k2) (Dv k3)) m)), tc_mk S c) := by
          simp (maxSteps := 3000000) (disch := omega) only [Option.bind_some, tc_bs, tq_let, tc_I1, tc_I2, tc_J1, tc_J2, tc_J3, tc_F1, tc_F2, tc_F3, tc_F4, tc_G1, tc_G2, tc_G3, tc_G4, tc_G5, tc_us, tc_un, s_one, s_holds, s_J13_bitCount, bz_bI, f_X10_odds, hC.tq.f, l1, l2, l3, tb_r, L, ec]
        have hD := (hC.sc (ans_sc c (nI (fb_ct (odB (Dv k1) (Dv k2) (Dv k3)) m)).toInt64)).sc (thr_sc _ 0)
        have R : tq_loop (f_X11_odds_b56 155 (nI k1) (nI k2) (nI k3) (tc_mk S (tc_F (ansC c (nI (fb_ct (odB (Dv k1) (Dv k2) (Dv k3)) m)).toInt64) 155 0 0))) tq_N ((0 : Int32), (0 : Int32)) = some (nI (fb_ct (odB (Dv k1) (Dv k2) (Dv k3)) m)) := by
          obtain ⟨-, -, -, -, g5'⟩ := hD.gk
          have hm1 := hD.gt.2.2.2.1.1
          generalize tc_F (ansC c (nI (fb_ct (odB (Dv k1) (Dv k2) (Dv k3)) m)).toInt64) 155 0 0 = d at *
          refine tc_scan (B := f_X11_odds_b56 155 (nI k1) (nI k2) (nI k3) (tc_mk S d)) m (fun i => nI (fb_ct (odB (Dv k1) (Dv k2) (Dv k3)) i)) (by omega) (fun v hv => ?_) ?_
          · have d0 : ¬ nI v ≥ nI m := nI_ge hv (by omega)
            have u1 : ((60 : Int32) * nI k1) + nI v = nI (60 * k1 + v) := by rw [show (60 : Int32) * nI k1 = nI (60 * k1) from nI_mul 60 k1, nI_add]
            have u2 : ((60 : Int32) * nI k2) + nI v = nI (60 * k2 + v) := by rw [show (60 : Int32) * nI k2 = nI (60 * k2) from nI_mul 60 k2, nI_add]
            have u3 : ((60 : Int32) * nI k3) + nI v = nI (60 * k3 + v) := by rw [show (60 : Int32) * nI k3 = nI (60 * k3) from nI_mul 60 k3, nI_add]
            have K1 := (g5' k1 a1).2.2.2.2.2.1
            have K2 := (g5' k2 a2).2.2.2.2.2.1
            have K3 := (g5' k3 a3).2.2.2.2.2.1
            have d1 := s_X11_differ (S := S) hC.mod G1.2.1.1 G2.2.1.1 b1 b2 K1 K2 (show v < 60 by omega)
            have d2 := s_X11_differ (S := S) hC.mod G1.2.1.1 G3.2.1.1 b1 b3 K1 K3 (show v < 60 by omega)
            have d3 := s_X11_differ (S := S) hC.mod G2.2.1.1 G3.2.1.1 b2 b3 K2 K3 (show v < 60 by omega)
            rw [Doc.dif_comm] at d2
            have p0 : ∀ a, nI a + 0 = nI a := fun a => nI_add a 0
            cases w1 : (Dv k1).dif (Dv k2) v with
            | false =>
              have b0 : bI false = 0 := rfl
              rw [w1] at d1
              have e4 := ct_s0 (p := odB (Dv k1) (Dv k2) (Dv k3)) (n := v) (by unfold odB; simp [w1])
              simp (maxSteps := 3000000) (disch := omega) only [Option.bind_some, tc_bs, tq_let, tc_I1, tc_I2, tc_J1, tc_J2, tc_J3, tc_F1, tc_F2, tc_F3, tc_F4, tc_G1, tc_G2, tc_G3, tc_G4, tc_G5, tc_us, tc_un, s_one, s_holds, s_J13_bitCount, bz_bI, f_X11_odds_b56, hC.mod.f, hm1, d0, u1, u2, u3, d1, b0, if_true, if_false, nI_1, p0, e4]
            | true =>
              have b1 : ¬ bI true = 0 := by decide
              rw [w1] at d1
              cases w3 : (Dv k3).dif (Dv k1) v with
              | false =>
                have b0 : bI false = 0 := rfl
                rw [w3] at d2
                have e4 := ct_s0 (p := odB (Dv k1) (Dv k2) (Dv k3)) (n := v) (by unfold odB; simp [w1, w3])
                simp (maxSteps := 3000000) (disch := omega) only [Option.bind_some, tc_bs, tq_let, tc_I1, tc_I2, tc_J1, tc_J2, tc_J3, tc_F1, tc_F2, tc_F3, tc_F4, tc_G1, tc_G2, tc_G3, tc_G4, tc_G5, tc_us, tc_un, s_one, s_holds, s_J13_bitCount, bz_bI, f_X11_odds_b56, hC.mod.f, hm1, d0, u1, u2, u3, d1, b1, d2, b0, if_true, if_false, nI_1, p0, e4]
              | true =>
                rw [w3] at d2
                cases w2 : (Dv k2).dif (Dv k3) v with
                | false =>
                  have b0 : bI false = 0 := rfl
                  rw [w2] at d3
                  have e4 := ct_s0 (p := odB (Dv k1) (Dv k2) (Dv k3)) (n := v) (by unfold odB; simp [w1, w2, w3])
                  simp (maxSteps := 3000000) (disch := omega) only [Option.bind_some, tc_bs, tq_let, tc_I1, tc_I2, tc_J1, tc_J2, tc_J3, tc_F1, tc_F2, tc_F3, tc_F4, tc_G1, tc_G2, tc_G3, tc_G4, tc_G5, tc_us, tc_un, s_one, s_holds, s_J13_bitCount, bz_bI, f_X11_odds_b56, hC.mod.f, hm1, d0, u1, u2, u3, d1, b1, d2, d3, b0, if_true, if_false, nI_1, p0, e4]
                | true =>
                  rw [w2] at d3
                  have e4 := ct_s1 (p := odB (Dv k1) (Dv k2) (Dv k3)) (n := v) (by unfold odB; simp [w1, w2, w3])
                  simp (maxSteps := 3000000) (disch := omega) only [Option.bind_some, tc_bs, tq_let, tc_I1, tc_I2, tc_J1, tc_J2, tc_J3, tc_F1, tc_F2, tc_F3, tc_F4, tc_G1, tc_G2, tc_G3, tc_G4, tc_G5, tc_us, tc_un, s_one, s_holds, s_J13_bitCount, bz_bI, f_X11_odds_b56, hC.mod.f, hm1, d0, u1, u2, u3, d1, b1, d2, d3, if_true, if_false, nI_1, e4]
          · have d0 : nI m ≥ nI m := Int32.le_refl _
            simp (maxSteps := 3000000) (disch := omega) only [Option.bind_some, tc_bs, tq_let, tc_I1, tc_I2, tc_J1, tc_J2, tc_J3, tc_F1, tc_F2, tc_F3, tc_F4, tc_G1, tc_G2, tc_G3, tc_G4, tc_G5, tc_us, tc_un, s_one, s_holds, s_J13_bitCount, bz_bI, f_X11_odds_b56, hC.mod.f, hm1, d0, if_true]
        refine arm_read hC hF (.inl ⟨_, by simp (maxSteps := 3000000) (disch := omega) only [Option.bind_some, tc_bs, tq_let, tc_I1, tc_I2, tc_J1, tc_J2, tc_J3, tc_F1, tc_F2, tc_F3, tc_F4, tc_G1, tc_G2, tc_G3, tc_G4, tc_G5, tc_us, tc_un, s_one, s_holds, s_J13_bitCount, bz_bI, f_V_odds, hC.tq.f, e5]; rfl, ?_⟩)
        simp (maxSteps := 3000000) (disch := omega) only [Option.bind_some, tc_bs, tq_let, tc_I1, tc_I2, tc_J1, tc_J2, tc_J3, tc_F1, tc_F2, tc_F3, tc_F4, tc_G1, tc_G2, tc_G3, tc_G4, tc_G5, tc_us, tc_un, s_one, s_holds, s_J13_bitCount, bz_bI, f_X11_odds, f_X11_refused, hC.mod.f, r1 (ansC c (nI (fb_ct (odB (Dv k1) (Dv k2) (Dv k3)) m)).toInt64) g2, r2 (ansC c (nI (fb_ct (odB (Dv k1) (Dv k2) (Dv k3)) m)).toInt64) g2, r3 (ansC c (nI (fb_ct (odB (Dv k1) (Dv k2) (Dv k3)) m)).toInt64) g2, n10, z0, R, if_true, if_false]
      · obtain ⟨l3, r3⟩ := hC.ver_n q3
        have e5 : f_X10_odds 0 (nI k1) (nI k2) x3 (tc_mk S c) = some (.inl "java/lang/IndexOutOfBoundsException", tc_mk S c) := by
          simp (maxSteps := 3000000) (disch := omega) only [Option.bind_some, tc_bs, tq_let, tc_I1, tc_I2, tc_J1, tc_J2, tc_J3, tc_F1, tc_F2, tc_F3, tc_F4, tc_G1, tc_G2, tc_G3, tc_G4, tc_G5, tc_us, tc_un, s_one, s_holds, s_J13_bitCount, bz_bI, f_X10_odds, hC.tq.f, l1, l2, l3, tb_r, tb_l]
        refine arm_read hC hF (.inr ⟨1, 0, by decide, by simp (maxSteps := 3000000) (disch := omega) only [Option.bind_some, tc_bs, tq_let, tc_I1, tc_I2, tc_J1, tc_J2, tc_J3, tc_F1, tc_F2, tc_F3, tc_F4, tc_G1, tc_G2, tc_G3, tc_G4, tc_G5, tc_us, tc_un, s_one, s_holds, s_J13_bitCount, bz_bI, f_V_odds, hC.tq.f, e5, if_true], ?_⟩)
        simp (maxSteps := 3000000) (disch := omega) only [Option.bind_some, tc_bs, tq_let, tc_I1, tc_I2, tc_J1, tc_J2, tc_J3, tc_F1, tc_F2, tc_F3, tc_F4, tc_G1, tc_G2, tc_G3, tc_G4, tc_G5, tc_us, tc_un, s_one, s_holds, s_J13_bitCount, bz_bI, f_X11_odds, f_X11_refused, hC.mod.f, r1 c g2, r2 c g2, r3 c g2, n10, z1, if_true, if_false]
    · obtain ⟨l2, r2⟩ := hC.ver_n q2
      have e5 : f_X10_odds 0 (nI k1) x2 x3 (tc_mk S c) = some (.inl "java/lang/IndexOutOfBoundsException", tc_mk S c) := by
        simp (maxSteps := 3000000) (disch := omega) only [Option.bind_some, tc_bs, tq_let, tc_I1, tc_I2, tc_J1, tc_J2, tc_J3, tc_F1, tc_F2, tc_F3, tc_F4, tc_G1, tc_G2, tc_G3, tc_G4, tc_G5, tc_us, tc_un, s_one, s_holds, s_J13_bitCount, bz_bI, f_X10_odds, hC.tq.f, l1, l2, tb_r, tb_l]
      refine arm_read hC hF (.inr ⟨1, 0, by decide, by simp (maxSteps := 3000000) (disch := omega) only [Option.bind_some, tc_bs, tq_let, tc_I1, tc_I2, tc_J1, tc_J2, tc_J3, tc_F1, tc_F2, tc_F3, tc_F4, tc_G1, tc_G2, tc_G3, tc_G4, tc_G5, tc_us, tc_un, s_one, s_holds, s_J13_bitCount, bz_bI, f_V_odds, hC.tq.f, e5, if_true], ?_⟩)
      simp (maxSteps := 3000000) (disch := omega) only [Option.bind_some, tc_bs, tq_let, tc_I1, tc_I2, tc_J1, tc_J2, tc_J3, tc_F1, tc_F2, tc_F3, tc_F4, tc_G1, tc_G2, tc_G3, tc_G4, tc_G5, tc_us, tc_un, s_one, s_holds, s_J13_bitCount, bz_bI, f_X11_odds, f_X11_refused, hC.mod.f, r1 c g2, r2 c g2, n10, z1, if_true, if_false]
  · obtain ⟨l1, r1⟩ := hC.ver_n q1
    have e5 : f_X10_odds 0 x1 x2 x3 (tc_mk S c) = some (.inl "java/lang/IndexOutOfBoundsException", tc_mk S c) := by
      simp (maxSteps := 3000000) (disch := omega) only [Option.bind_some, tc_bs, tq_let, tc_I1, tc_I2, tc_J1, tc_J2, tc_J3, tc_F1, tc_F2, tc_F3, tc_F4, tc_G1, tc_G2, tc_G3, tc_G4, tc_G5, tc_us, tc_un, s_one, s_holds, s_J13_bitCount, bz_bI, f_X10_odds, hC.tq.f, l1, tb_l]
    refine arm_read hC hF (.inr ⟨1, 0, by decide, by simp (maxSteps := 3000000) (disch := omega) only [Option.bind_some, tc_bs, tq_let, tc_I1, tc_I2, tc_J1, tc_J2, tc_J3, tc_F1, tc_F2, tc_F3, tc_F4, tc_G1, tc_G2, tc_G3, tc_G4, tc_G5, tc_us, tc_un, s_one, s_holds, s_J13_bitCount, bz_bI, f_V_odds, hC.tq.f, e5, if_true], ?_⟩)
    simp (maxSteps := 3000000) (disch := omega) only [Option.bind_some, tc_bs, tq_let, tc_I1, tc_I2, tc_J1, tc_J2, tc_J3, tc_F1, tc_F2, tc_F3, tc_F4, tc_G1, tc_G2, tc_G3, tc_G4, tc_G5, tc_us, tc_un, s_one, s_holds, s_J13_bitCount, bz_bI, f_X11_odds, f_X11_refused, hC.mod.f, r1 c g2, n10, z1, if_true, if_false]
theorem arm_isSeen (h : InvE di h0) (e1 : tq_sx n xs (y4 + 1) = some x1) : ∃ h', f_V_law_c3542 n xs 0 155 205 y4 h0 = some (.inl (y4 + 5, h')) ∧ InvE di h' := by
  obtain ⟨S, c, D, m, U, P, H, Z, X, nw, ed, nv, vt, mv, Dv, rfl, hC, hF⟩ := h
  have e0 : f_V_law_c3542 n xs 0 155 205 y4 (tc_mk S c) = armB (f_V_isSeen 0 x1 205 (tc_mk S c)) (f_X11_isSeen 155 x1) y4 := by
    unfold f_V_law_c3542; rw [e1]; rfl
  rw [e0]
  have n10 : ¬ (1 : Int32) = 0 := by decide
  have z0 : tq_bz 0 = some 0 := rfl
  rcases D.at_or x1 with ⟨i, hi⟩ | hi
  · obtain ⟨hin, rfl⟩ := id hi
    obtain ⟨c1, u1, u2, u3, u4, u5, u6, r, u7, u8⟩ := hC.refr hF
    have hw := hC.gt.1.1
    have f1 := s_X2_sees (S := S) u2.fa.2 hw u8.1 hin
    have i124 : ∀ c, tq_is (tc_mk S c) 124 2 = some () := fun c => by have := hC.fa.2; simp (maxSteps := 3000000) (disch := omega) only [Option.bind_some, tc_bs, tq_let, tc_I1, tc_I2, tc_J1, tc_J2, tc_J3, tc_F1, tc_F2, tc_F3, tc_F4, tc_G1, tc_G2, tc_G3, tc_G4, tc_G5, tc_us, tc_un, s_one, s_holds, s_J13_bitCount, bz_bI, this.f]
    have e5 : f_X10_isSeen 0 (nI (D.ord i)) (tc_mk S c) = some (.inr (bI (D.sn P H i)), tc_mk S c1) := by
      simp (maxSteps := 3000000) (disch := omega) only [Option.bind_some, tc_bs, tq_let, tc_I1, tc_I2, tc_J1, tc_J2, tc_J3, tc_F1, tc_F2, tc_F3, tc_F4, tc_G1, tc_G2, tc_G3, tc_G4, tc_G5, tc_us, tc_un, s_one, s_holds, s_J13_bitCount, bz_bI, f_X10_isSeen, hC.tq.f, hC.t1.f, hC.need hi, tb_r, u1, u2.spot hi, i124, f1]
    have hCa := u2.sc (ans_sc _ (bL (bI (D.sn P H i))))
    have hFa := u3.ans u2 (bL (bI (D.sn P H i)))
    have hC2 := hCa.sc (thr_sc _ 0)
    have hF2 := hFa.thr hCa 0
    obtain ⟨w, w1, w2⟩ := s_X11_seen (S := S) hC2.mod hw hC2.gt.2.2.2.1 hC2.gt.2.2.2.2 hC2.gp.2.1 hC2.gp.2.2 hC2.2.2.2.2.2.1.2.2.1
    have ebit := nodes_if hw (D.sn P H) (some ((1 : Int32), tc_mk S w)) (some ((0 : Int32), tc_mk S w)) hin
    refine armB_any hC.mod hC.tq (.inl ⟨bI (D.sn P H i), c1, w, by simp (maxSteps := 3000000) (disch := omega) only [Option.bind_some, tc_bs, tq_let, tc_I1, tc_I2, tc_J1, tc_J2, tc_J3, tc_F1, tc_F2, tc_F3, tc_F4, tc_G1, tc_G2, tc_G3, tc_G4, tc_G5, tc_us, tc_un, s_one, s_holds, s_J13_bitCount, bz_bI, f_V_isSeen, hC.tq.f, e5, bL_bI]; rfl, ?_, ⟨S, _, D, m, U, P, H, Z, X, nw, ed, nv, vt, mv, Dv, rfl, hC2.sc (Rf.sc w2), hF2.rf hC2 w2⟩, by rw [w2.2.2.1]; rfl, by rw [w2.2.1 205 (by omega)]; rfl⟩)
    have e7 := hCa.noN hi
    cases hs : D.sn P H i with
    | true =>
      rw [hs, if_pos (show (true = true) from rfl)] at ebit
      rw [hs] at e7 w1
      have z1 : tq_bz 1 = some 1 := rfl
      simp (maxSteps := 3000000) (disch := omega) only [Option.bind_some, tc_bs, tq_let, tc_I1, tc_I2, tc_J1, tc_J2, tc_J3, tc_F1, tc_F2, tc_F3, tc_F4, tc_G1, tc_G2, tc_G3, tc_G4, tc_G5, tc_us, tc_un, s_one, s_holds, s_J13_bitCount, bz_bI, f_X11_isSeen, hC.mod.f, e7, w1, ebit, z1, if_true]; rfl
    | false =>
      rw [hs, if_neg (show ¬ (false = true) by decide)] at ebit
      rw [hs] at e7 w1
      simp (maxSteps := 3000000) (disch := omega) only [Option.bind_some, tc_bs, tq_let, tc_I1, tc_I2, tc_J1, tc_J2, tc_J3, tc_F1, tc_F2, tc_F3, tc_F4, tc_G1, tc_G2, tc_G3, tc_G4, tc_G5, tc_us, tc_un, s_one, s_holds, s_J13_bitCount, bz_bI, f_X11_isSeen, hC.mod.f, e7, w1, ebit, z0, if_true]; rfl
  · have e5 : f_X10_isSeen 0 x1 (tc_mk S c) = some (.inl "java/lang/IndexOutOfBoundsException", tc_mk S c) := by
      simp (maxSteps := 3000000) (disch := omega) only [Option.bind_some, tc_bs, tq_let, tc_I1, tc_I2, tc_J1, tc_J2, tc_J3, tc_F1, tc_F2, tc_F3, tc_F4, tc_G1, tc_G2, tc_G3, tc_G4, tc_G5, tc_us, tc_un, s_one, s_holds, s_J13_bitCount, bz_bI, f_X10_isSeen, hC.tq.f, hC.need_n hi, tb_l]
    refine armB_any hC.mod hC.tq (.inr ⟨1, 0, c, tc_F c 155 0 1, by decide, by simp (maxSteps := 3000000) (disch := omega) only [Option.bind_some, tc_bs, tq_let, tc_I1, tc_I2, tc_J1, tc_J2, tc_J3, tc_F1, tc_F2, tc_F3, tc_F4, tc_G1, tc_G2, tc_G3, tc_G4, tc_G5, tc_us, tc_un, s_one, s_holds, s_J13_bitCount, bz_bI, f_V_isSeen, hC.tq.f, e5, if_true], ?_, hC.fin hF 1, rfl⟩)
    simp (maxSteps := 3000000) (disch := omega) only [Option.bind_some, tc_bs, tq_let, tc_I1, tc_I2, tc_J1, tc_J2, tc_J3, tc_F1, tc_F2, tc_F3, tc_F4, tc_G1, tc_G2, tc_G3, tc_G4, tc_G5, tc_us, tc_un, s_one, s_holds, s_J13_bitCount, bz_bI, f_X11_isSeen, hC.mod.f, hC.noN_n hi, n10, z0, if_false]
theorem arm_changed (h : InvE di h0) (e1 : tq_sx n xs (y4 + 1) = some x1) : ∃ h', f_V_law_c3107 n xs 0 155 205 y4 h0 = some (.inl (y4 + 5, h')) ∧ InvE di h' := by
  obtain ⟨S, c, D, m, U, P, H, Z, X, nw, ed, nv, vt, mv, Dv, rfl, hC, hF⟩ := h
  have e0 : f_V_law_c3107 n xs 0 155 205 y4 (tc_mk S c) = armI (f_V_changed 0 x1 205 (tc_mk S c)) (f_X11_changed 155 x1) y4 := by
    unfold f_V_law_c3107; rw [e1]; rfl
  rw [e0]
  have n10 : ¬ (1 : Int32) = 0 := by decide
  have z1 : tq_bz 1 = some 1 := rfl
  have z0 : tq_bz 0 = some 0 := rfl
  obtain ⟨g1, g2, g3, g4, g5⟩ := hC.gv
  by_cases q1 : 0 ≤ x1 ∧ x1 < nI nw
  · have c1 : ∀ h, f_X10_needIndex 0 x1 (nI nw) h = some (.inr (), h) := fun h => idx_ok q1.1 q1.2
    have r1 : ∀ h, f_X11_in x1 0 (nI nw - 1) h = some 1 := fun h => in_ok ((lt_sub (by omega)).mpr q1).1 ((lt_sub (by omega)).mpr q1).2
    obtain ⟨k, k1, rfl⟩ := nI_of (Int32.not_lt.mpr q1.1)
    have hk : k < nw := (nI_ltI k1 (by omega)).mp q1.2
    have hk5 : k < 5 := by omega
    have e5 : f_X10_changed 0 (nI k) (tc_mk S c) = some (.inr (c.1 192 k), tc_mk S c) := by
      simp (maxSteps := 3000000) (disch := omega) only [Option.bind_some, tc_bs, tq_let, tc_I1, tc_I2, tc_J1, tc_J2, tc_J3, tc_F1, tc_F2, tc_F3, tc_F4, tc_G1, tc_G2, tc_G3, tc_G4, tc_G5, tc_us, tc_un, s_one, s_holds, s_J13_bitCount, bz_bI, f_X10_changed, hC.tq.f, g1, c1, tb_r, rg_in (c.1 152) hk5 (show 5 < 2 ^ 31 by decide), g5 k hk]
    refine arm_read hC hF (.inl ⟨c.1 192 k, by simp (maxSteps := 3000000) (disch := omega) only [Option.bind_some, tc_bs, tq_let, tc_I1, tc_I2, tc_J1, tc_J2, tc_J3, tc_F1, tc_F2, tc_F3, tc_F4, tc_G1, tc_G2, tc_G3, tc_G4, tc_G5, tc_us, tc_un, s_one, s_holds, s_J13_bitCount, bz_bI, f_V_changed, hC.tq.f, e5]; rfl, ?_⟩)
    simp (maxSteps := 3000000) (disch := omega) only [Option.bind_some, tc_bs, tq_let, tc_I1, tc_I2, tc_J1, tc_J2, tc_J3, tc_F1, tc_F2, tc_F3, tc_F4, tc_G1, tc_G2, tc_G3, tc_G4, tc_G5, tc_us, tc_un, s_one, s_holds, s_J13_bitCount, bz_bI, f_X11_changed, f_X11_refused, hC.mod.f, ans1, ans2, g2, r1, n10, z0, if_true, if_false]
  · have c1 : ∀ h, f_X10_needIndex 0 x1 (nI nw) h = some (.inl "java/lang/IndexOutOfBoundsException", h) := fun h => idx_no q1
    have r1 : ∀ h, f_X11_in x1 0 (nI nw - 1) h = some 0 := fun h => in_no (mt (lt_sub (by omega)).mp q1)
    have e5 : f_X10_changed 0 x1 (tc_mk S c) = some (.inl "java/lang/IndexOutOfBoundsException", tc_mk S c) := by
      simp (maxSteps := 3000000) (disch := omega) only [Option.bind_some, tc_bs, tq_let, tc_I1, tc_I2, tc_J1, tc_J2, tc_J3, tc_F1, tc_F2, tc_F3, tc_F4, tc_G1, tc_G2, tc_G3, tc_G4, tc_G5, tc_us, tc_un, s_one, s_holds, s_J13_bitCount, bz_bI, f_X10_changed, hC.tq.f, g1, c1, tb_l]
    refine arm_read hC hF (.inr ⟨1, 0, by decide, by simp (maxSteps := 3000000) (disch := omega) only [Option.bind_some, tc_bs, tq_let, tc_I1, tc_I2, tc_J1, tc_J2, tc_J3, tc_F1, tc_F2, tc_F3, tc_F4, tc_G1, tc_G2, tc_G3, tc_G4, tc_G5, tc_us, tc_un, s_one, s_holds, s_J13_bitCount, bz_bI, f_V_changed, hC.tq.f, e5, if_true], ?_⟩)
    simp (maxSteps := 3000000) (disch := omega) only [Option.bind_some, tc_bs, tq_let, tc_I1, tc_I2, tc_J1, tc_J2, tc_J3, tc_F1, tc_F2, tc_F3, tc_F4, tc_G1, tc_G2, tc_G3, tc_G4, tc_G5, tc_us, tc_un, s_one, s_holds, s_J13_bitCount, bz_bI, f_X11_changed, f_X11_refused, hC.mod.f, g2, r1, n10, z1, if_true, if_false]
end RKO
