/-! ===== indexes and plans ===== -/
abbrev x1w (a : Nat) : Prop := a = 190
abbrev x3w (q k : Nat) : Prop := q = 155 ∧ k = 0
abbrev x4w (q k : Nat) : Prop := q = 0 ∧ k = 16
section IXP
variable {S : tq_H} {c c' c1 c2 : tc_C} {di : DI} {D : Doc} {m : Nat} {U : Ups} {P : Pat} {H : Nat → Bool} {Z Z' : Sma} {X Y : Nat → Bool} {nw : Nat} {ed : Option Nat} {nv : Nat} {vt mv : Nat → Nat} {Dv : Nat → Doc} {t n s i p : Nat} {x x1 x2 x3 x4 y4 v : Int32} {xs : Nat → Int32} {h0 : tq_H}
theorem Cor.gx (h : Cor S c di D m U P H Z X nw ed nv vt mv Dv) : GX c X := h.2.2.2.2.2.2.2.1
theorem Cor.idx (h : Cor S c di D m U P H Z X nw ed nv vt mv Dv) (hF : GF c D P H) (k : Wr x1w u2 x3w x4w c c') (hx : GX c' Y) : InvE di (tc_mk S c') := by
  obtain ⟨h0, h1, h2, h3, h4, h5, h6, h7, h8, h9, h10⟩ := h
  have g1 := h1.wr k (fun a _ => by omega) (fun a _ => by omega) (fun q k _ => by omega) (fun q k _ => by omega)
  have g4 := h4.wr k (fun a _ => by omega) (fun q k _ => by omega)
  exact ⟨S, c', D, m, U, P, H, Z, Y, nw, ed, nv, vt, mv, Dv, rfl, ⟨h0, g1, h2.wr k (fun a _ => by omega) (fun q k _ => by omega), h3.wr k (fun a _ => by omega) (fun q k _ => by omega), g4, h5.wr k (fun a _ => by omega) (fun q k _ => by omega) (fun q k _ => by omega), h6.wr k (fun a _ => by omega) (fun q k _ => by omega), hx, h8.wr k (fun a _ => by omega) (fun a _ => by omega) (fun q k _ => by omega), h9.wr h0 k (fun a _ => by omega) (fun a _ => by omega) (fun q k _ => by omega) (fun q k _ => by omega), h10.wr h0 k (fun a _ => by omega) (fun q k _ => by omega)⟩,
    hF.wr g1.2.1 g4.1 k (fun a _ => by omega) (fun a _ => by omega) (fun q k _ => by omega) (fun q k _ => by omega)⟩
theorem arm_index (h : InvE di h0) (e1 : tq_sx n xs (y4 + 1) = some x1) : ∃ h', f_V_law_c2864 n xs 0 155 205 y4 h0 = some (.inl (y4 + 5, h')) ∧ InvE di h' := by
  obtain ⟨S, c, D, m, U, P, H, Z, X, nw, ed, nv, vt, mv, Dv, rfl, hC, hF⟩ := h
  have e0 : f_V_law_c2864 n xs 0 155 205 y4 (tc_mk S c) = armB (f_V_index 0 x1 205 (tc_mk S c)) (f_X11_index 155 x1) y4 := by
    unfold f_V_law_c2864; rw [e1]; rfl
  rw [e0]
  have n10 : ¬ (1 : Int32) = 0 := by decide
  have z1 : tq_bz 1 = some 1 := rfl
  have z0 : tq_bz 0 = some 0 := rfl
  by_cases q2 : 0 ≤ x1 ∧ x1 ≤ 7
  · have c2 : ∀ h, f_X10_needRange 0 x1 0 7 h = some (.inr (), h) := fun h => rng_ok q2.1 q2.2
    have r2 : ∀ h, f_X11_in x1 0 7 h = some 1 := fun h => in_ok q2.1 q2.2
    obtain ⟨a, ha, rfl⟩ := x_nat (N := 7) (by decide) q2.1 q2.2
    obtain ⟨g1, g2, g3⟩ := hC.gx
    have ha8 : a < 8 := by omega
    let Y : Nat → Bool := fun j => X j ^^ decide (j = a)
    have ew : mkS X ^^^ oneI (nI a) = mkS Y := by rw [oneI_in (by omega), mkS_b1, mkS_xor]
    have eh : hasI (mkS Y) (nI a) = !X a := by rw [hasI_mkS Y (by omega)]; show (X a ^^ decide (a = a)) = _; simp
    have ep : (if bI (X a) = 0 then (1 : Int32) else 0) = bI (!X a) := by cases X a <;> rfl
    have e5 : f_X10_index 0 (nI a) (tc_mk S c) = some (.inr (bI (!X a)), tc_mk S (tc_G c 0 16 (mkS Y))) := by
      simp (maxSteps := 3000000) (disch := omega) only [Option.bind_some, tc_bs, tq_let, tc_I1, tc_I2, tc_J1, tc_J2, tc_J3, tc_F1, tc_F2, tc_F3, tc_F4, tc_G1, tc_G2, tc_G3, tc_G4, tc_G5, tc_us, tc_un, s_one, s_holds, s_J13_bitCount, bz_bI, f_X10_index, hC.tq.f, c2, tb_r, g1, ew, eh]
    refine armB_any hC.mod hC.tq (.inl ⟨bI (!X a), tc_G c 0 16 (mkS Y), tc_I (tc_F (ansC (tc_G c 0 16 (mkS Y)) (bL (bI (!X a)))) 155 0 0) 190 (upd (c.1 190) a (bI (!X a))), by simp (maxSteps := 3000000) (disch := omega) only [Option.bind_some, tc_bs, tq_let, tc_I1, tc_I2, tc_J1, tc_J2, tc_J3, tc_F1, tc_F2, tc_F3, tc_F4, tc_G1, tc_G2, tc_G3, tc_G4, tc_G5, tc_us, tc_un, s_one, s_holds, s_J13_bitCount, bz_bI, f_V_index, hC.tq.f, e5, bL_bI]; rfl, ?_, ?_, ?_, ?_⟩)
    · simp (maxSteps := 3000000) (disch := omega) only [Option.bind_some, tc_bs, tq_let, tc_I1, tc_I2, tc_J1, tc_J2, tc_J3, tc_F1, tc_F2, tc_F3, tc_F4, tc_G1, tc_G2, tc_G3, tc_G4, tc_G5, tc_us, tc_un, s_one, s_holds, s_J13_bitCount, bz_bI, f_X11_index, f_X11_refused, r2, hC.mod.f, ans1, ans2, g3 a ha8, ep, upd_s, z0, n10, if_true, if_false]
    · refine hC.idx (Y := Y) hF (Wr.trans (Wr.trans (Wr.trans (Wr.G _ ⟨rfl, rfl⟩) (Wr.A _ rfl)) (Wr.F _ ⟨rfl, rfl⟩)) (Wr.I _ rfl)) ⟨rfl, fun j hj => ?_, fun j hj => ?_⟩
      · change (X j ^^ decide (j = a)) = true at hj
        by_cases e : j = a
        · omega
        · exact g2 j (by simpa [e] using hj)
      · show upd (c.1 190) a (bI (!X a)) j = bI (X j ^^ decide (j = a))
        by_cases e : j = a
        · subst e; rw [upd_s]; simp
        · rw [upd_n _ _ e, g3 j hj]; simp [e]
    · rfl
    · rfl
  · have c2 : ∀ h, f_X10_needRange 0 x1 0 7 h = some (.inl "java/lang/IllegalArgumentException", h) := fun h => rng_no q2
    have r2 : ∀ h, f_X11_in x1 0 7 h = some 0 := fun h => in_no q2
    have e5 : f_X10_index 0 x1 (tc_mk S c) = some (.inl "java/lang/IllegalArgumentException", tc_mk S c) := by
      simp (maxSteps := 3000000) (disch := omega) only [Option.bind_some, tc_bs, tq_let, tc_I1, tc_I2, tc_J1, tc_J2, tc_J3, tc_F1, tc_F2, tc_F3, tc_F4, tc_G1, tc_G2, tc_G3, tc_G4, tc_G5, tc_us, tc_un, s_one, s_holds, s_J13_bitCount, bz_bI, f_X10_index, hC.tq.f, c2, tb_l]
    refine armB_any hC.mod hC.tq (.inr ⟨1, 0, c, tc_F c 155 0 1, by decide, by simp (maxSteps := 3000000) (disch := omega) only [Option.bind_some, tc_bs, tq_let, tc_I1, tc_I2, tc_J1, tc_J2, tc_J3, tc_F1, tc_F2, tc_F3, tc_F4, tc_G1, tc_G2, tc_G3, tc_G4, tc_G5, tc_us, tc_un, s_one, s_holds, s_J13_bitCount, bz_bI, f_V_index, hC.tq.f, e5, if_true], ?_, hC.fin hF 1, rfl⟩)
    simp (maxSteps := 3000000) (disch := omega) only [Option.bind_some, tc_bs, tq_let, tc_I1, tc_I2, tc_J1, tc_J2, tc_J3, tc_F1, tc_F2, tc_F3, tc_F4, tc_G1, tc_G2, tc_G3, tc_G4, tc_G5, tc_us, tc_un, s_one, s_holds, s_J13_bitCount, bz_bI, f_X11_index, f_X11_refused, r2, hC.mod.f, z1, n10, if_true, if_false]
theorem Doc.nmd_cl (D : Doc) {t : Nat} (ht : t < 8) : mkS (fun j => decide (j < D.n) && D.tst t j) &&& mkS (fun j => decide (j < D.n ∧ D.kd j = 0)) = mkS (fun j => decide (j < D.n ∧ D.kd j = 0 ∧ D.nm j = nI t)) := by
  rw [mkS_and]
  refine mkS_cong fun j _ => ?_
  unfold Doc.tst
  rw [if_pos ht]
  by_cases a : j < D.n <;> by_cases b : D.kd j = 0 <;> by_cases d : D.nm j = nI t <;> simp [a, b, d]
theorem arm_plan (h : InvE di h0) (e1 : tq_sx n xs (y4 + 1) = some x1) : ∃ h', f_V_law_c2927 n xs 0 155 205 y4 h0 = some (.inl (y4 + 5, h')) ∧ InvE di h' := by
  obtain ⟨S, c, D, m, U, P, H, Z, X, nw, ed, nv, vt, mv, Dv, rfl, hC, hF⟩ := h
  have e0 : f_V_law_c2927 n xs 0 155 205 y4 (tc_mk S c) = armI (f_V_plan 0 x1 205 (tc_mk S c)) (f_X11_plan 155 x1) y4 := by
    unfold f_V_law_c2927; rw [e1]; rfl
  rw [e0]
  have n10 : ¬ (1 : Int32) = 0 := by decide
  have z1 : tq_bz 1 = some 1 := rfl
  have b0 : bI false = 0 := rfl
  have b1 : ¬ bI true = 0 := by decide
  obtain ⟨pc, pr, hP⟩ := hC.gp
  have h20 := hP.1
  have i98 : ∀ c, tq_is (tc_mk S c) 98 4 = some () := hC.pth.is
  have isp := s_X11_isPath (S := S) hC.mod pr.1 hP x1
  by_cases qp : 0 ≤ x1 ∧ x1 < nI P.n
  · have cn := (hC.npath x1).1 qp
    obtain ⟨p, hp31, rfl⟩ := nI_of (Int32.not_lt.mpr qp.1)
    have hp : p < P.n := (nI_ltI hp31 (by omega)).mp qp.2
    have hw := hC.gt.1.1
    have hn60 := D.n_le hw
    obtain ⟨g1, g2, g3⟩ := hC.gx
    have f1 : f_X3_solids 2 (tc_mk S c) = _ := s_X3_solids (c := c) hC.t1 hw hC.gt.2.1
    have f2 : f_X3_elements 2 (tc_mk S c) = _ := s_X3_elements (c := c) hC.t1 hC.gt.2.1
    have f3 := s_nameBelow (S := S) hC.pth pc hP hp
    have f4 := s_canStream (S := S) hC.pth pc hP hp
    have es : fb_ct (fun j => decide (j < D.n ∧ D.kd j ≠ 2)) 64 = D.slds := rfl
    have hsl : D.slds ≤ 64 := fb_ct_le _ _
    -- the reference's side, at any state that agrees
    have R : ∀ A : Int32, ∀ w : Nat, (0 < P.sc p → P.ax (5 * p) = 3 → w = P.ts (5 * p)) → (¬ (0 < P.sc p ∧ P.ax (5 * p) = 3) → w = 8) →
        (A = if w < 8 ∧ X w = true ∧ D.nmd (nI w) < D.slds then (1000 : Int32) + nI (D.nmd (nI w)) else (1000 : Int32) * (if bI (P.strm p) = 0 then 0 else 2) + nI D.slds) →
        f_X11_plan 155 (nI p) (tc_mk S (ansC c A.toInt64)) = some (A, tc_mk S (tc_F (ansC c A.toInt64) 155 0 0)) := by
      intro A w w1 w2 w3
      have hD := (hC.sc (ans_sc c A.toInt64)).sc (thr_sc _ 0)
      have isp' := s_X11_isPath (S := S) hC.mod (hC.sc (ans_sc c A.toInt64)).gp.2.1.1 hP (nI p)
      rw [decide_eq_true qp] at isp'
      have r1 := r_plan (S := S) hD.mod hD.gt.1.1 hD.gt.2.2.2.1 hD.gt.2.2.2.2 (nI p) (nI w)
      have r2 := r_stream (S := S) hD.mod hD.gp.2.1 hP hp
      have hr190 : ∀ x, x < 8 → (tc_F (ansC c A.toInt64) 155 0 0).1 190 x = bI (X x) := g3
      have hr175 : (tc_F (ansC c A.toInt64) 155 0 0).1 175 p = nI (P.sc p) := pr.2.1 p hp
      generalize hd : tc_F (ansC c A.toInt64) 155 0 0 = d at *
      have rf : ∀ x, f_X11_refused 155 x (tc_mk S (ansC c A.toInt64)) = some (bI (decide (x ≠ 0)), tc_mk S (tc_F (ansC c A.toInt64) 155 0 x)) := fun x => s_X11_refused hC.mod x
      have rf0 : f_X11_refused 155 0 (tc_mk S (ansC c A.toInt64)) = some (0, tc_mk S d) := by rw [rf, hd]; rfl
      have hwt : w < 14 := by
        by_cases q : 0 < P.sc p ∧ P.ax (5 * p) = 3
        · rw [w1 q.1 q.2]
          exact (hP.2.2 p 0 hp q.1).2.1
        · rw [w2 q]; omega
      -- the test of the first step
      have hp12 : (if nI (P.sc p) ≤ 0 then some (8 : Int32) else (tq_gr (tc_mk S d) 155 11 26).bind fun k8 => (tq_ai (tc_mk S d) k8 ((15 : Int32) * nI p)).bind fun x9 => if x9 = (3 : Int32) then (tq_gr (tc_mk S d) 155 11 26).bind fun k10 => (tq_ai (tc_mk S d) k10 (((15 : Int32) * nI p) + (1 : Int32))).bind fun x11 => some x11 else some (8 : Int32)) = some (nI w) := by
        by_cases q : 0 < P.sc p
        · have q1 : ¬ nI (P.sc p) ≤ 0 := nI_nle q (by have := hP.2.1 p hp; omega)
          have m1 : (15 : Int32) * nI p = nI (15 * p) := nI_mul 15 p
          have m2 : nI (15 * p) + 1 = nI (15 * p + 1) := nI_add _ 1
          obtain ⟨k1, k2, -⟩ := hD.gp.2.1.2.2.1 p 0 hp q
          have k1 : d.1 176 (15 * p) = nI (P.ax (5 * p)) := by rw [← show 3 * (5 * p + 0) = 15 * p by omega]; exact k1
          have k2 : d.1 176 (15 * p + 1) = nI (P.ts (5 * p)) := by rw [← show 3 * (5 * p + 0) + 1 = 15 * p + 1 by omega]; exact k2
          have hax := (hP.2.2 p 0 hp q).1
          by_cases q3 : P.ax (5 * p) = 3
          · have q4 : nI (P.ax (5 * p)) = 3 := by rw [q3]; rfl
            rw [← w1 q q3] at k2
            simp (maxSteps := 3000000) (disch := omega) only [Option.bind_some, tc_bs, tq_let, tc_I1, tc_I2, tc_J1, tc_J2, tc_J3, tc_F1, tc_F2, tc_F3, tc_F4, tc_G1, tc_G2, tc_G3, tc_G4, tc_G5, tc_us, tc_un, s_one, s_holds, s_J13_bitCount, bz_bI, q1, m1, m2, hC.mod.f, k1, k2, q4, if_true, if_false]
          · have q4 : ¬ nI (P.ax (5 * p)) = 3 := fun z => q3 ((nI_eq (show P.ax (5 * p) < 2 ^ 31 by rw [Nat.add_zero] at hax; omega) (show 3 < 2 ^ 31 by decide)).mp z)
            have := w2 (fun z => q3 z.2)
            simp (maxSteps := 3000000) (disch := omega) only [Option.bind_some, tc_bs, tq_let, tc_I1, tc_I2, tc_J1, tc_J2, tc_J3, tc_F1, tc_F2, tc_F3, tc_F4, tc_G1, tc_G2, tc_G3, tc_G4, tc_G5, tc_us, tc_un, s_one, s_holds, s_J13_bitCount, bz_bI, q1, m1, hC.mod.f, k1, q4, if_false]
            rw [this]; rfl
        · have q1 : nI (P.sc p) ≤ 0 := by rw [show P.sc p = 0 by omega]; decide
          rw [if_pos q1, w2 (fun z => q z.1)]; rfl
      have hai : tq_ai (tc_mk S d) 175 (nI p) = some (nI (P.sc p)) := by simp (maxSteps := 3000000) (disch := omega) only [Option.bind_some, tc_bs, tq_let, tc_I1, tc_I2, tc_J1, tc_J2, tc_J3, tc_F1, tc_F2, tc_F3, tc_F4, tc_G1, tc_G2, tc_G3, tc_G4, tc_G5, tc_us, tc_un, s_one, s_holds, s_J13_bitCount, bz_bI, hC.mod.f, hr175]
      unfold f_X11_plan
      rw [show tq_is (tc_mk S (ansC c A.toInt64)) 155 11 = some () by simp (maxSteps := 3000000) (disch := omega) only [Option.bind_some, tc_bs, tq_let, tc_I1, tc_I2, tc_J1, tc_J2, tc_J3, tc_F1, tc_F2, tc_F3, tc_F4, tc_G1, tc_G2, tc_G3, tc_G4, tc_G5, tc_us, tc_un, s_one, s_holds, s_J13_bitCount, bz_bI, hC.mod.f], Option.bind_some, isp', Option.bind_some]
      have b1' : (if bI true = 0 then (1 : Int32) else 0) = 0 := rfl
      rw [tq_let, b1', Option.bind_some, rf0, Option.bind_some]
      dsimp only
      rw [if_pos rfl, show tq_gr (tc_mk S d) 155 11 25 = some 175 by simp (maxSteps := 3000000) (disch := omega) only [Option.bind_some, tc_bs, tq_let, tc_I1, tc_I2, tc_J1, tc_J2, tc_J3, tc_F1, tc_F2, tc_F3, tc_F4, tc_G1, tc_G2, tc_G3, tc_G4, tc_G5, tc_us, tc_un, s_one, s_holds, s_J13_bitCount, bz_bI, hC.mod.f], Option.bind_some, hai, Option.bind_some, hp12, Option.bind_some, r1, Option.bind_some]
      by_cases q8 : w < 8
      · have q9 : ¬ nI w ≥ 8 := nI_ge q8 (by decide)
        have k9 := hr190 w q8
        cases hX : X w with
        | true =>
          rw [hX] at k9
          by_cases q10 : D.nmd (nI w) < D.slds
          · replace w3 := w3.trans (if_pos ⟨q8, hX, q10⟩)
            have q11 : ¬ nI (D.nmd (nI w)) ≥ nI D.slds := nI_ge q10 (by omega)
            rw [if_neg q9, w3]
            simp (maxSteps := 3000000) (disch := omega) only [Option.bind_some, tc_bs, tq_let, tc_I1, tc_I2, tc_J1, tc_J2, tc_J3, tc_F1, tc_F2, tc_F3, tc_F4, tc_G1, tc_G2, tc_G3, tc_G4, tc_G5, tc_us, tc_un, s_one, s_holds, s_J13_bitCount, bz_bI, hC.mod.f, k9, b1, q11, if_false]
          · replace w3 := w3.trans (if_neg (fun z => q10 z.2.2))
            have q11 : nI (D.nmd (nI w)) ≥ nI D.slds := nI_le (by omega) (by have : D.nmd (nI w) ≤ 64 := fb_ct_le _ _; omega)
            rw [if_neg q9, w3]
            simp (maxSteps := 3000000) (disch := omega) only [Option.bind_some, tc_bs, tq_let, tc_I1, tc_I2, tc_J1, tc_J2, tc_J3, tc_F1, tc_F2, tc_F3, tc_F4, tc_G1, tc_G2, tc_G3, tc_G4, tc_G5, tc_us, tc_un, s_one, s_holds, s_J13_bitCount, bz_bI, hC.mod.f, k9, b1, q11, r2, if_true, if_false]
        | false =>
          rw [hX] at k9
          replace w3 := w3.trans (if_neg (fun z => by rw [hX] at z; exact absurd z.2.1 (by decide)))
          rw [if_neg q9, w3]
          simp (maxSteps := 3000000) (disch := omega) only [Option.bind_some, tc_bs, tq_let, tc_I1, tc_I2, tc_J1, tc_J2, tc_J3, tc_F1, tc_F2, tc_F3, tc_F4, tc_G1, tc_G2, tc_G3, tc_G4, tc_G5, tc_us, tc_un, s_one, s_holds, s_J13_bitCount, bz_bI, hC.mod.f, k9, b0, r2, if_true]
      · replace w3 := w3.trans (if_neg (fun z => q8 z.1))
        have q9 : nI w ≥ 8 := nI_le (show 8 ≤ w by omega) (by omega)
        rw [if_pos q9, w3]
        simp (maxSteps := 3000000) (disch := omega) only [Option.bind_some, tc_bs, tq_let, tc_I1, tc_I2, tc_J1, tc_J2, tc_J3, tc_F1, tc_F2, tc_F3, tc_F4, tc_G1, tc_G2, tc_G3, tc_G4, tc_G5, tc_us, tc_un, s_one, s_holds, s_J13_bitCount, bz_bI, hC.mod.f, r2]
    -- the class's side
    by_cases B : 0 < P.sc p ∧ P.ax (5 * p) = 3 ∧ P.ts (5 * p) < 8
    · rw [if_pos B] at f3
      obtain ⟨t, et⟩ : ∃ t, t = P.ts (5 * p) := ⟨_, rfl⟩
      rw [← et] at f3
      have ht : t < 8 := by rw [et]; exact B.2.2
      have f5 : f_X3_passing 2 (nI t) (tc_mk S c) = _ := s_X3_passing (c := c) hC.t1 hC.gt.2.1 (by omega)
      have fh : hasI (mkS X) (nI t) = X t := hasI_mkS X (by omega)
      have fc := D.nmd_cl ht
      have hnm : fb_ct (fun j => decide (j < D.n ∧ D.kd j = 0 ∧ D.nm j = nI t)) 64 = D.nmd (nI t) := rfl
      have hnl : D.nmd (nI t) ≤ 64 := fb_ct_le _ _
      cases hX : X t with
      | true =>
        rw [hX] at fh
        by_cases q10 : D.nmd (nI t) < D.slds
        · have q11 : ¬ nI (D.nmd (nI t)) ≥ nI D.slds := nI_ge q10 (by omega)
          have e5 : f_X10_plan 0 (nI p) (tc_mk S c) = some (.inr ((1000 : Int32) + nI (D.nmd (nI t))), tc_mk S c) := by
            simp (maxSteps := 3000000) (disch := omega) only [Option.bind_some, tc_bs, tq_let, tc_I1, tc_I2, tc_J1, tc_J2, tc_J3, tc_F1, tc_F2, tc_F3, tc_F4, tc_G1, tc_G2, tc_G3, tc_G4, tc_G5, tc_us, tc_un, s_one, s_holds, s_J13_bitCount, bz_bI, f_X10_plan, hC.tq.f, hC.t1.f, cn, tb_r, f1, ct_mkS, es, i98, f3, g1, fh, b1, f5, f2, fc, hnm, q11, if_false]
          refine arm_read hC hF (.inl ⟨(1000 : Int32) + nI (D.nmd (nI t)), by simp (maxSteps := 3000000) (disch := omega) only [Option.bind_some, tc_bs, tq_let, tc_I1, tc_I2, tc_J1, tc_J2, tc_J3, tc_F1, tc_F2, tc_F3, tc_F4, tc_G1, tc_G2, tc_G3, tc_G4, tc_G5, tc_us, tc_un, s_one, s_holds, s_J13_bitCount, bz_bI, f_V_plan, hC.tq.f, e5]; rfl, R _ t (fun _ _ => et) (fun z => absurd ⟨B.1, B.2.1⟩ z) ?_⟩)
          exact (if_pos ⟨ht, hX, q10⟩).symm
        · have q11 : nI (D.nmd (nI t)) ≥ nI D.slds := nI_le (by omega) (by omega)
          have e5 : f_X10_plan 0 (nI p) (tc_mk S c) = some (.inr ((1000 : Int32) * (if bI (P.strm p) = 0 then 0 else 2) + nI D.slds), tc_mk S c) := by
            simp (maxSteps := 3000000) (disch := omega) only [Option.bind_some, tc_bs, tq_let, tc_I1, tc_I2, tc_J1, tc_J2, tc_J3, tc_F1, tc_F2, tc_F3, tc_F4, tc_G1, tc_G2, tc_G3, tc_G4, tc_G5, tc_us, tc_un, s_one, s_holds, s_J13_bitCount, bz_bI, f_X10_plan, hC.tq.f, hC.t1.f, cn, tb_r, f1, ct_mkS, es, i98, f3, g1, fh, b1, f5, f2, fc, hnm, q11, f4, if_true, if_false]
          refine arm_read hC hF (.inl ⟨_, by simp (maxSteps := 3000000) (disch := omega) only [Option.bind_some, tc_bs, tq_let, tc_I1, tc_I2, tc_J1, tc_J2, tc_J3, tc_F1, tc_F2, tc_F3, tc_F4, tc_G1, tc_G2, tc_G3, tc_G4, tc_G5, tc_us, tc_un, s_one, s_holds, s_J13_bitCount, bz_bI, f_V_plan, hC.tq.f, e5]; rfl, R _ t (fun _ _ => et) (fun z => absurd ⟨B.1, B.2.1⟩ z) ?_⟩)
          exact (if_neg (fun z => q10 z.2.2)).symm
      | false =>
        rw [hX] at fh
        have e5 : f_X10_plan 0 (nI p) (tc_mk S c) = some (.inr ((1000 : Int32) * (if bI (P.strm p) = 0 then 0 else 2) + nI D.slds), tc_mk S c) := by
          simp (maxSteps := 3000000) (disch := omega) only [Option.bind_some, tc_bs, tq_let, tc_I1, tc_I2, tc_J1, tc_J2, tc_J3, tc_F1, tc_F2, tc_F3, tc_F4, tc_G1, tc_G2, tc_G3, tc_G4, tc_G5, tc_us, tc_un, s_one, s_holds, s_J13_bitCount, bz_bI, f_X10_plan, hC.tq.f, hC.t1.f, cn, tb_r, f1, ct_mkS, es, i98, f3, g1, fh, b0, f4, if_true]
        refine arm_read hC hF (.inl ⟨_, by simp (maxSteps := 3000000) (disch := omega) only [Option.bind_some, tc_bs, tq_let, tc_I1, tc_I2, tc_J1, tc_J2, tc_J3, tc_F1, tc_F2, tc_F3, tc_F4, tc_G1, tc_G2, tc_G3, tc_G4, tc_G5, tc_us, tc_un, s_one, s_holds, s_J13_bitCount, bz_bI, f_V_plan, hC.tq.f, e5]; rfl, R _ t (fun _ _ => et) (fun z => absurd ⟨B.1, B.2.1⟩ z) ?_⟩)
        exact (if_neg (fun z => by rw [hX] at z; exact absurd z.2.1 (by decide))).symm
    · rw [if_neg B] at f3
      have fh : hasI (mkS X) (-1) = false := hasI_n _
      have e5 : f_X10_plan 0 (nI p) (tc_mk S c) = some (.inr ((1000 : Int32) * (if bI (P.strm p) = 0 then 0 else 2) + nI D.slds), tc_mk S c) := by
        simp (maxSteps := 3000000) (disch := omega) only [Option.bind_some, tc_bs, tq_let, tc_I1, tc_I2, tc_J1, tc_J2, tc_J3, tc_F1, tc_F2, tc_F3, tc_F4, tc_G1, tc_G2, tc_G3, tc_G4, tc_G5, tc_us, tc_un, s_one, s_holds, s_J13_bitCount, bz_bI, f_X10_plan, hC.tq.f, hC.t1.f, cn, tb_r, f1, ct_mkS, es, i98, f3, g1, fh, b0, f4, if_true]
      by_cases B2 : 0 < P.sc p ∧ P.ax (5 * p) = 3
      · refine arm_read hC hF (.inl ⟨_, by simp (maxSteps := 3000000) (disch := omega) only [Option.bind_some, tc_bs, tq_let, tc_I1, tc_I2, tc_J1, tc_J2, tc_J3, tc_F1, tc_F2, tc_F3, tc_F4, tc_G1, tc_G2, tc_G3, tc_G4, tc_G5, tc_us, tc_un, s_one, s_holds, s_J13_bitCount, bz_bI, f_V_plan, hC.tq.f, e5]; rfl, R _ (P.ts (5 * p)) (fun _ _ => rfl) (fun z => absurd B2 z) ?_⟩)
        exact (if_neg (fun z => B ⟨B2.1, B2.2, z.1⟩)).symm
      · refine arm_read hC hF (.inl ⟨_, by simp (maxSteps := 3000000) (disch := omega) only [Option.bind_some, tc_bs, tq_let, tc_I1, tc_I2, tc_J1, tc_J2, tc_J3, tc_F1, tc_F2, tc_F3, tc_F4, tc_G1, tc_G2, tc_G3, tc_G4, tc_G5, tc_us, tc_un, s_one, s_holds, s_J13_bitCount, bz_bI, f_V_plan, hC.tq.f, e5]; rfl, R _ 8 (fun a b => absurd ⟨a, b⟩ B2) (fun _ => rfl) ?_⟩)
        exact (if_neg (fun z => absurd z.1 (by decide))).symm
  · have cn := (hC.npath x1).2 qp
    rw [decide_eq_false qp] at isp
    have e5 : f_X10_plan 0 x1 (tc_mk S c) = some (.inl "java/lang/IndexOutOfBoundsException", tc_mk S c) := by
      simp (maxSteps := 3000000) (disch := omega) only [Option.bind_some, tc_bs, tq_let, tc_I1, tc_I2, tc_J1, tc_J2, tc_J3, tc_F1, tc_F2, tc_F3, tc_F4, tc_G1, tc_G2, tc_G3, tc_G4, tc_G5, tc_us, tc_un, s_one, s_holds, s_J13_bitCount, bz_bI, f_X10_plan, hC.tq.f, cn, tb_l]
    refine arm_read hC hF (.inr ⟨1, 0, by decide, by simp (maxSteps := 3000000) (disch := omega) only [Option.bind_some, tc_bs, tq_let, tc_I1, tc_I2, tc_J1, tc_J2, tc_J3, tc_F1, tc_F2, tc_F3, tc_F4, tc_G1, tc_G2, tc_G3, tc_G4, tc_G5, tc_us, tc_un, s_one, s_holds, s_J13_bitCount, bz_bI, f_V_plan, hC.tq.f, e5, if_true], ?_⟩)
    simp (maxSteps := 3000000) (disch := omega) only [Option.bind_some, tc_bs, tq_let, tc_I1, tc_I2, tc_J1, tc_J2, tc_J3, tc_F1, tc_F2, tc_F3, tc_F4, tc_G1, tc_G2, tc_G3, tc_G4, tc_G5, tc_us, tc_un, s_one, s_holds, s_J13_bitCount, bz_bI, f_X11_plan, f_X11_refused, hC.mod.f, isp, b0, z1, n10, if_true, if_false]
end IXP
