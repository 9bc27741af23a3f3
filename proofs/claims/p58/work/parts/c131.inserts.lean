/-! ===== calls that collect an update ===== -/
section COL
variable {S S1 S2 : tq_H} {c c1 c2 c' : tc_C} {di : DI} {D : Doc} {m : Nat} {U : Ups} {P : Pat} {H : Nat → Bool} {Z : Sma} {X : Nat → Bool} {nw : Nat} {ed ed2 : Option Nat} {nv z z2 : Nat} {vt mv : Nat → Nat} {Dv : Nat → Doc} {i j : Nat} {v a k y4 x x1 x2 x3 x4 lo hi : Int32} {n : Nat} {xs : Nat → Int32} {h0 : tq_H} {w t p l kd q : Nat} {nm ct : Int32} {h : tq_H}
theorem rng_ok (h1 : lo ≤ x) (h2 : x ≤ hi) : f_X10_needRange 0 x lo hi h = some (.inr (), h) := by
  unfold f_X10_needRange
  rw [if_neg (Int32.not_lt.mpr h1), if_pos h2]
theorem rng_no (h1 : ¬ (lo ≤ x ∧ x ≤ hi)) : f_X10_needRange 0 x lo hi h = some (.inl "java/lang/IllegalArgumentException", h) := by
  unfold f_X10_needRange
  by_cases q : x < lo
  · rw [if_pos q]
  · rw [if_neg q, if_neg fun z => h1 ⟨Int32.not_lt.mp q, z⟩]
theorem in_ok (h1 : lo ≤ x) (h2 : x ≤ hi) : f_X11_in x lo hi h = some 1 := by rw [s_X11_in, decide_eq_true ⟨h1, h2⟩]; rfl
theorem in_no (h1 : ¬ (lo ≤ x ∧ x ≤ hi)) : f_X11_in x lo hi h = some 0 := by rw [s_X11_in, decide_eq_false h1]; rfl
theorem Cor.elem (h : Cor S c di D m U P H Z X nw ed nv vt mv Dv) (hi : D.At v i) : (D.kd i = 0 → f_X10_needElement 0 v (tc_mk S c) = some (.inr (), tc_mk S c)) ∧ (D.kd i ≠ 0 → f_X10_needElement 0 v (tc_mk S c) = some (.inl "java/lang/IllegalStateException", tc_mk S c)) := by
  obtain ⟨hin, rfl⟩ := hi
  have e2 : rg 60 (c.1 24) (nI (D.ord i)) = D.kd i := by rw [rg_in _ (D.ord_lt h.gt.1.1 hin) (by decide)]; exact h.gt.2.2.1.2.2.2.1 i hin
  constructor
  · intro q; simp (maxSteps := 3000000) (disch := omega) only [Option.bind_some, tc_bs, tq_let, tc_I1, tc_I2, tc_J1, tc_J2, tc_J3, tc_F1, tc_F2, tc_F3, tc_F4, tc_G1, tc_G2, tc_G3, tc_G4, tc_G5, tc_us, tc_un, s_one, s_holds, s_J13_bitCount, bz_bI, f_X10_needElement, h.tq.f, h.t1.f, e2, q, if_true]
  · intro q; simp (maxSteps := 3000000) (disch := omega) only [Option.bind_some, tc_bs, tq_let, tc_I1, tc_I2, tc_J1, tc_J2, tc_J3, tc_F1, tc_F2, tc_F3, tc_F4, tc_G1, tc_G2, tc_G3, tc_G4, tc_G5, tc_us, tc_un, s_one, s_holds, s_J13_bitCount, bz_bI, f_X10_needElement, h.tq.f, h.t1.f, e2, q, if_false]
theorem Cor.upc (h : Cor S c di D m U P H Z X nw ed nv vt mv Dv) : tc_Upd S 81 := h.1.2.2.1
theorem Cor.gu (h : Cor S c di D m U P H Z X nw ed nv vt mv Dv) : GU c D m U := h.2.2.2.1
theorem Cor.room (h : Cor S c di D m U P H Z X nw ed nv vt mv Dv) : (U.n < 20 → f_X10_needRoom 0 (tc_mk S c) = some (.inr (), tc_mk S c)) ∧ (¬ U.n < 20 → f_X10_needRoom 0 (tc_mk S c) = some (.inl "java/lang/IllegalStateException", tc_mk S c)) := by
  have e1 := h.gu.1.1
  have hn := h.gu.1.2.1
  constructor
  · intro q
    have e2 : nI U.n < 20 := nI_lt q (by decide)
    simp (maxSteps := 3000000) (disch := omega) only [Option.bind_some, tc_bs, tq_let, tc_I1, tc_I2, tc_J1, tc_J2, tc_J3, tc_F1, tc_F2, tc_F3, tc_F4, tc_G1, tc_G2, tc_G3, tc_G4, tc_G5, tc_us, tc_un, s_one, s_holds, s_J13_bitCount, bz_bI, f_X10_needRoom, f_X9_count, h.tq.f, h.upc.f, e1, e2, if_true]
  · intro q
    have e2 : ¬ nI U.n < 20 := nI_nlt (show 20 ≤ U.n by omega) (by omega)
    simp (maxSteps := 3000000) (disch := omega) only [Option.bind_some, tc_bs, tq_let, tc_I1, tc_I2, tc_J1, tc_J2, tc_J3, tc_F1, tc_F2, tc_F3, tc_F4, tc_G1, tc_G2, tc_G3, tc_G4, tc_G5, tc_us, tc_un, s_one, s_holds, s_J13_bitCount, bz_bI, f_X10_needRoom, f_X9_count, h.tq.f, h.upc.f, e1, e2, if_false]
theorem Cor.plc (h : Cor S c di D m U P H Z X nw ed nv vt mv Dv) (hi : D.At v i) : ((0 ≤ x ∧ x ≤ nI (fb_ct (D.ax 1 i) 64)) → f_X10_needPlaceIn 0 v x (tc_mk S c) = some (.inr (), tc_mk S c)) ∧ (¬ (0 ≤ x ∧ x ≤ nI (fb_ct (D.ax 1 i) 64)) → f_X10_needPlaceIn 0 v x (tc_mk S c) = some (.inl "java/lang/IndexOutOfBoundsException", tc_mk S c)) := by
  have e1 := h.need hi
  obtain ⟨hin, rfl⟩ := hi
  have e2 : f_X3_childCount 2 (nI (D.ord i)) (tc_mk S c) = _ := s_X3_childCount (c := c) h.t1 h.gt.1.1 h.gt.2.1 hin
  have g0 : tq_gr (tc_mk S c) 1 8 0 = some 2 := by simp (maxSteps := 3000000) (disch := omega) only [Option.bind_some, tc_bs, tq_let, tc_I1, tc_I2, tc_J1, tc_J2, tc_J3, tc_F1, tc_F2, tc_F3, tc_F4, tc_G1, tc_G2, tc_G3, tc_G4, tc_G5, tc_us, tc_un, s_one, s_holds, s_J13_bitCount, bz_bI, h.t1.f]
  have g1 : tq_is (tc_mk S c) 2 3 = some () := by simp (maxSteps := 3000000) (disch := omega) only [Option.bind_some, tc_bs, tq_let, tc_I1, tc_I2, tc_J1, tc_J2, tc_J3, tc_F1, tc_F2, tc_F3, tc_F4, tc_G1, tc_G2, tc_G3, tc_G4, tc_G5, tc_us, tc_un, s_one, s_holds, s_J13_bitCount, bz_bI, h.t1.f]
  constructor
  · rintro ⟨q1, q2⟩
    have q1 : ¬ x < 0 := Int32.not_lt.mpr q1
    simp (maxSteps := 3000000) (disch := omega) only [Option.bind_some, tc_bs, tq_let, tc_I1, tc_I2, tc_J1, tc_J2, tc_J3, tc_F1, tc_F2, tc_F3, tc_F4, tc_G1, tc_G2, tc_G3, tc_G4, tc_G5, tc_us, tc_un, s_one, s_holds, s_J13_bitCount, bz_bI, f_X10_needPlaceIn, h.tq.f, e1, tb_r, g0, g1, e2, q1, q2, if_true, if_false]
  · intro q
    by_cases q1 : x < 0
    · simp (maxSteps := 3000000) (disch := omega) only [Option.bind_some, tc_bs, tq_let, tc_I1, tc_I2, tc_J1, tc_J2, tc_J3, tc_F1, tc_F2, tc_F3, tc_F4, tc_G1, tc_G2, tc_G3, tc_G4, tc_G5, tc_us, tc_un, s_one, s_holds, s_J13_bitCount, bz_bI, f_X10_needPlaceIn, h.tq.f, e1, tb_r, g0, g1, e2, q1, if_true]
    · have q2 : ¬ x ≤ nI (fb_ct (D.ax 1 i) 64) := fun z => q ⟨Int32.not_lt.mp q1, z⟩
      simp (maxSteps := 3000000) (disch := omega) only [Option.bind_some, tc_bs, tq_let, tc_I1, tc_I2, tc_J1, tc_J2, tc_J3, tc_F1, tc_F2, tc_F3, tc_F4, tc_G1, tc_G2, tc_G3, tc_G4, tc_G5, tc_us, tc_un, s_one, s_holds, s_J13_bitCount, bz_bI, f_X10_needPlaceIn, h.tq.f, e1, tb_r, g0, g1, e2, q1, q2, if_true, if_false]
theorem Cor.plc_n (h : Cor S c di D m U P H Z X nw ed nv vt mv Dv) (hi : ∀ i, ¬ D.At v i) : f_X10_needPlaceIn 0 v x (tc_mk S c) = some (.inl "java/lang/IndexOutOfBoundsException", tc_mk S c) := by
  simp (maxSteps := 3000000) (disch := omega) only [Option.bind_some, tc_bs, tq_let, tc_I1, tc_I2, tc_J1, tc_J2, tc_J3, tc_F1, tc_F2, tc_F3, tc_F4, tc_G1, tc_G2, tc_G3, tc_G4, tc_G5, tc_us, tc_un, s_one, s_holds, s_J13_bitCount, bz_bI, f_X10_needPlaceIn, h.tq.f, h.need_n hi, tb_l]
theorem Doc.cc_0 (hw : D.wf) (hi : i < D.n) (hk : D.kd i ≠ 0) : fb_ct (D.ax 1 i) 64 = 0 := by
  rw [fb_ct_zero]
  intro j _
  cases e : D.ax 1 i j with
  | false => rfl
  | true =>
    exfalso
    obtain ⟨a1, a2, a3, a4⟩ := Doc.ax1.mp e
    have := D.kd_up hw a2 a1
    rw [a3] at this; exact hk this
theorem r_spot (hM : tc_Mod S z) (h : GT c D m) (hi : D.At v i) : f_X11_isSpot 155 v x (tc_mk S c) = some (bI (decide (0 ≤ x ∧ x ≤ nI (fb_ct (D.ax 1 i) 64)))) := by
  have hw := h.1.1
  have f5 := s_X11_isNode (S := S) hM hw h.2.2.2.1 hi
  obtain ⟨hin, rfl⟩ := hi
  have f6 := s_X11_childCount (S := S) hM hw h.2.2.2.1 hin
  have f7 := h.2.2.2.1.2.2.2.2.1 i hin
  have h60 := D.ord_lt hw hin
  have n10 : ¬ (1 : Int32) = 0 := by decide
  have hin2 := s_X11_in x 0 (nI (fb_ct (D.ax 1 i) 64)) (tc_mk S c)
  have z1 : tq_bz 1 = some 1 := rfl
  have z0 : tq_bz 0 = some 0 := rfl
  by_cases q : D.kd i = 0
  · by_cases q2 : 0 ≤ x ∧ x ≤ nI (fb_ct (D.ax 1 i) 64)
    · rw [decide_eq_true q2] at hin2 ⊢
      have b1 : ¬ bI true = 0 := by decide
      simp (maxSteps := 3000000) (disch := omega) only [Option.bind_some, tc_bs, tq_let, tc_I1, tc_I2, tc_J1, tc_J2, tc_J3, tc_F1, tc_F2, tc_F3, tc_F4, tc_G1, tc_G2, tc_G3, tc_G4, tc_G5, tc_us, tc_un, s_one, s_holds, s_J13_bitCount, bz_bI, f_X11_isSpot, hM.f, f5, n10, f7, q, f6, hin2, b1, z1, if_true, if_false]; rfl
    · rw [decide_eq_false q2] at hin2 ⊢
      have b0 : bI false = 0 := rfl
      simp (maxSteps := 3000000) (disch := omega) only [Option.bind_some, tc_bs, tq_let, tc_I1, tc_I2, tc_J1, tc_J2, tc_J3, tc_F1, tc_F2, tc_F3, tc_F4, tc_G1, tc_G2, tc_G3, tc_G4, tc_G5, tc_us, tc_un, s_one, s_holds, s_J13_bitCount, bz_bI, f_X11_isSpot, hM.f, f5, n10, f7, q, f6, hin2, b0, z0, if_true, if_false]
  · rw [Doc.cc_0 hw hin q] at hin2 ⊢
    have hin2 : f_X11_in x 0 0 (tc_mk S c) = _ := hin2
    by_cases q2 : 0 ≤ x ∧ x ≤ nI 0
    · rw [decide_eq_true q2] at hin2 ⊢
      have b1 : ¬ bI true = 0 := by decide
      simp (maxSteps := 3000000) (disch := omega) only [Option.bind_some, tc_bs, tq_let, tc_I1, tc_I2, tc_J1, tc_J2, tc_J3, tc_F1, tc_F2, tc_F3, tc_F4, tc_G1, tc_G2, tc_G3, tc_G4, tc_G5, tc_us, tc_un, s_one, s_holds, s_J13_bitCount, bz_bI, f_X11_isSpot, hM.f, f5, n10, f7, q, hin2, b1, z1, if_true, if_false]; rfl
    · rw [decide_eq_false q2] at hin2 ⊢
      have b0 : bI false = 0 := rfl
      simp (maxSteps := 3000000) (disch := omega) only [Option.bind_some, tc_bs, tq_let, tc_I1, tc_I2, tc_J1, tc_J2, tc_J3, tc_F1, tc_F2, tc_F3, tc_F4, tc_G1, tc_G2, tc_G3, tc_G4, tc_G5, tc_us, tc_un, s_one, s_holds, s_J13_bitCount, bz_bI, f_X11_isSpot, hM.f, f5, n10, f7, q, hin2, b0, z0, if_true, if_false]
theorem r_spot_n (hM : tc_Mod S z) (h : GT c D m) (hi : ∀ i, ¬ D.At v i) : f_X11_isSpot 155 v x (tc_mk S c) = some 0 := by
  have f5 := s_X11_isNode_n (S := S) hM h.1.1 h.2.2.2.1 hi
  have z0 : tq_bz 0 = some 0 := rfl
  simp (maxSteps := 3000000) (disch := omega) only [Option.bind_some, tc_bs, tq_let, tc_I1, tc_I2, tc_J1, tc_J2, tc_J3, tc_F1, tc_F2, tc_F3, tc_F4, tc_G1, tc_G2, tc_G3, tc_G4, tc_G5, tc_us, tc_un, s_one, s_holds, s_J13_bitCount, bz_bI, f_X11_isSpot, hM.f, f5, z0, if_true]
theorem r_takes (hM : tc_Mod S z) (h : GT c D m) (hu : UR c U) (hi : D.At v i) : f_X11_takes 155 v (tc_mk S c) = some (bI (decide (D.kd i = 0 ∧ U.n < 20))) := by
  obtain ⟨hin, rfl⟩ := hi
  have f7 := h.2.2.2.1.2.2.2.2.1 i hin
  have h60 := D.ord_lt h.1.1 hin
  have e1 := hu.1
  have hn := hu.2.1
  have z1 : tq_bz 1 = some 1 := rfl
  have z0 : tq_bz 0 = some 0 := rfl
  by_cases q : D.kd i = 0
  · by_cases q2 : U.n < 20
    · rw [decide_eq_true ⟨q, q2⟩]
      have e2 : ¬ nI U.n ≥ 20 := nI_ge q2 (by decide)
      simp (maxSteps := 3000000) (disch := omega) only [Option.bind_some, tc_bs, tq_let, tc_I1, tc_I2, tc_J1, tc_J2, tc_J3, tc_F1, tc_F2, tc_F3, tc_F4, tc_G1, tc_G2, tc_G3, tc_G4, tc_G5, tc_us, tc_un, s_one, s_holds, s_J13_bitCount, bz_bI, f_X11_takes, hM.f, f7, q, e1, e2, z1, if_true, if_false]; rfl
    · rw [decide_eq_false fun z => q2 z.2]
      have e2 : nI U.n ≥ 20 := nI_le (show 20 ≤ U.n by omega) (by omega)
      simp (maxSteps := 3000000) (disch := omega) only [Option.bind_some, tc_bs, tq_let, tc_I1, tc_I2, tc_J1, tc_J2, tc_J3, tc_F1, tc_F2, tc_F3, tc_F4, tc_G1, tc_G2, tc_G3, tc_G4, tc_G5, tc_us, tc_un, s_one, s_holds, s_J13_bitCount, bz_bI, f_X11_takes, hM.f, f7, q, e1, e2, z0, if_true, if_false]; rfl
  · rw [decide_eq_false fun z => q z.1]
    simp (maxSteps := 3000000) (disch := omega) only [Option.bind_some, tc_bs, tq_let, tc_I1, tc_I2, tc_J1, tc_J2, tc_J3, tc_F1, tc_F2, tc_F3, tc_F4, tc_G1, tc_G2, tc_G3, tc_G4, tc_G5, tc_us, tc_un, s_one, s_holds, s_J13_bitCount, bz_bI, f_X11_takes, hM.f, f7, q, z0, if_true, if_false]; rfl
/-- an update is taken -/
theorem Cor.acc {L : Option (Int32 × tq_H)} {R : tq_H → Option (Int32 × tq_H)} {a1 a2 a3 a4 a5 a6 a7 : Int32} (h : Cor S c di D m U P H Z X nw ed nv vt mv Dv) (hF : GF c D P H) (hn : U.n < 20)
    (hL : L = some (0, tc_mk S (ansC c1 (nI (U.n + 1)).toInt64))) (k1 : Wr uc1 uc2 uc3 u4 c c1) (huc : UC c1 81 (U.push w t p l kd nm ct)) (hwf : (U.push w t p l kd nm ct).wf m D)
    (hR : GT (ansC c1 (nI (U.n + 1)).toInt64) D m → UR (ansC c1 (nI (U.n + 1)).toInt64) U → R (tc_mk S (ansC c1 (nI (U.n + 1)).toInt64)) = f_X11_collect 155 a1 a2 a3 a4 a5 a6 a7 (tc_mk S (tc_F (ansC c1 (nI (U.n + 1)).toInt64) 155 0 0)))
    (h1 : a1 = nI w) (h2 : a2 = if w = 0 then -1 else nI t) (h3 : w = 0 ∨ w = 4 → a3 = nI p) (h4 : w = 4 ∨ (w = 0 ∧ kd ≠ 2) → a4 = nI l) (h5 : w = 0 → a5 = nI kd ∧ a6 = nm ∧ a7 = ct) (h6 : w = 2 → a6 = ct) (h7 : w = 3 ∨ w = 5 → a7 = ct) :
    ∃ h' u, armI L R y4 = some (.inl (y4 + 5, h')) ∧ InvE (di.1, di.2.1, u) h' ∧ EXp di.2.2 u h' := by
  have km : Wr u1 u2 u3 u4 c c1 := k1.mono (fun a z => by omega) (fun _ z => z.elim) (fun q k z => by omega) (fun _ _ z => z)
  have ka : Wr u1 u2 u3 u4 c (ansC c1 (nI (U.n + 1)).toInt64) := km.trans (Wr.J _ rfl)
  have hgt := h.gt.wr ka (fun a _ => by omega) (fun a _ => by omega) (fun q k _ => by omega) (fun _ _ _ z => z)
  have hur : UR (ansC c1 (nI (U.n + 1)).toInt64) U := by
    obtain ⟨k1, k2, k3, -⟩ := k1
    unfold UR
    rw [show (ansC c1 (nI (U.n + 1)).toInt64).1 167 = c1.1 167 from rfl, show (ansC c1 (nI (U.n + 1)).toInt64).2.2.1 155 15 = c1.2.2.1 155 15 from rfl, k1 167 (by omega), k3 155 15 (by omega)]
    exact h.gu.2.1
  have hr := hR hgt hur
  have hur2 : UR (tc_F (ansC c1 (nI (U.n + 1)).toInt64) 155 0 0) U := by
    unfold UR
    rw [tc_F1, tc_F3, tc_us, tc_un _ _ (by decide)]
    exact hur
  obtain ⟨c2, g1, g2, g3, g4, g5, g6, g7⟩ := s_collect (w := w) (t := t) (p := p) (l := l) (kd := kd) (nm := nm) (ct := ct) (z := 205) h.mod hur2 hn h1 h2 h3 h4 h5 h6 h7
  rw [g1] at hr
  have kall : Wr u1 u2 u3 u4 c c2 := (ka.trans (Wr.F _ (by omega))).trans g2
  have huc2 : UC c2 81 (U.push w t p l kd nm ct) := by
    unfold UC
    rw [g7 81 11 (by decide), g6 (81 + 2) (by decide), g6 (81 + 4) (by decide), g6 (81 + 6) (by decide), g6 (81 + 8) (by decide), g6 (81 + 10) (by decide), g6 (81 + 12) (by decide), g6 (81 + 14) (by decide), tc_F3, tc_un _ _ (by decide)]
    exact huc
  obtain ⟨hC, hF2⟩ := h.upd hF kall ⟨huc2, g3, hwf⟩
  have h205 : c2.2.1 205 0 = (nI (U.n + 1)).toInt64 := by
    rw [g5]
    show (ansC c1 (nI (U.n + 1)).toInt64).2.1 205 0 = _
    unfold ansC
    rw [tc_J2, tc_us, updL_s]
  have h00 : c2.2.2.1 155 0 = 0 := by rw [g4, tc_F3, tc_us, tc_us]
  exact ⟨_, U.n + 1, armI_ok h.mod h.mod h.tq hL hr h00 (fun _ => h205), ⟨S, c2, D, m, _, P, H, Z, X, nw, ed, nv, vt, mv, Dv, rfl, hC, hF2⟩, Or.inr ⟨by rw [h.un], thr_at h.mod h00, aj_at h.tq h205⟩⟩
theorem bs2 {α β : Type} (o : Option (α × β)) : (o.bind fun v => some (v.1, v.2)) = o := by cases o <;> rfl
theorem x_nat {N : Nat} (hN : N < 2 ^ 31) (h1 : 0 ≤ x) (h2 : x ≤ nI N) : ∃ j, j ≤ N ∧ x = nI j := nI_of2 (nI_toInt hN) (Int32.not_lt.mpr h1) h2
theorem arm_insertElement (h : InvE di h0) (e1 : tq_sx n xs (y4 + 1) = some x1) (e2 : tq_sx n xs (y4 + 2) = some x2) (e3 : tq_sx n xs (y4 + 3) = some x3) : ∃ h' u, f_V_law_c272 n xs 0 155 205 y4 h0 = some (.inl (y4 + 5, h')) ∧ InvE (di.1, di.2.1, u) h' ∧ EXp di.2.2 u h' := by
  obtain ⟨S, c, D, m, U, P, H, Z, X, nw, ed, nv, vt, mv, Dv, rfl, hC, hF⟩ := h
  have e0 : f_V_law_c272 n xs 0 155 205 y4 (tc_mk S c) = armI (f_V_insertElement 0 x1 x2 x3 205 (tc_mk S c)) (f_X11_insertElement 155 x1 x2 x3) y4 := by
    unfold f_V_law_c272; rw [e1, e2, e3]; rfl
  rw [e0]
  have hg := hC.gt
  have hw := hg.1.1
  have n10 : ¬ (1 : Int32) = 0 := by decide
  have n20 : ¬ (2 : Int32) = 0 := by decide
  have n30 : ¬ (3 : Int32) = 0 := by decide
  have z0 : tq_bz 0 = some 0 := rfl
  have z1 : tq_bz 1 = some 1 := rfl
  have b1 : ¬ bI true = 0 := by decide
  have b0 : bI false = 0 := rfl
  rcases D.at_or x1 with ⟨i, hi⟩ | hi
  · have rs := r_spot (x := x2) hC.mod hg hi
    have rt := r_takes hC.mod hg hC.gu.2.1 hi
    by_cases q1 : 0 ≤ x2 ∧ x2 ≤ nI (fb_ct (D.ax 1 i) 64)
    · rw [decide_eq_true q1] at rs
      have c1 := (hC.plc hi).1 q1
      by_cases q2 : 0 ≤ x3 ∧ x3 ≤ 7
      · have c2 := rng_ok (h := tc_mk S c) q2.1 q2.2
        have r2 := in_ok (h := tc_mk S c) q2.1 q2.2
        by_cases q3 : D.kd i = 0
        · have c3 := (hC.elem hi).1 q3
          by_cases q4 : U.n < 20
          · have c4 := hC.room.1 q4
            obtain ⟨hin, rfl⟩ := id hi
            obtain ⟨l, l1, rfl⟩ := x_nat (by have := fb_ct_le (D.ax 1 i) 64; omega) q1.1 q1.2
            have hx3 : 7 = nI 7 := rfl
            obtain ⟨w3, w31, w32⟩ := x_nat (N := 7) (by decide) q2.1 q2.2
            obtain ⟨c1', g1, g2, g3⟩ := s_addInsert (c := c) (kd := 0) (p := D.ord i) (l := l) (nm := x3) (ct := -1) hC.upc hC.gu.1 q4 (nI l) rfl
            have g1 : f_X9_addInsert 81 0 (nI (D.ord i)) (nI l) x3 (-1) (tc_mk S c) = some (nI (U.n + 1), tc_mk S c1') := g1
            have e5 : f_X10_insertElement 0 (nI (D.ord i)) (nI l) x3 (tc_mk S c) = some (.inr (nI (U.n + 1)), tc_mk S c1') := by
              simp (maxSteps := 3000000) (disch := omega) only [Option.bind_some, tc_bs, tq_let, tc_I1, tc_I2, tc_J1, tc_J2, tc_J3, tc_F1, tc_F2, tc_F3, tc_F4, tc_G1, tc_G2, tc_G3, tc_G4, tc_G5, tc_us, tc_un, s_one, s_holds, s_J13_bitCount, bz_bI, f_X10_insertElement, hC.tq.f, hC.upc.f, c1, c2, c3, c4, tb_r, g1]
            refine hC.acc hF q4 (c1 := c1') (w := 0) (t := 0) (p := D.ord i) (l := l) (kd := 0) (nm := x3) (ct := -1) (by simp (maxSteps := 3000000) (disch := omega) only [Option.bind_some, tc_bs, tq_let, tc_I1, tc_I2, tc_J1, tc_J2, tc_J3, tc_F1, tc_F2, tc_F3, tc_F4, tc_G1, tc_G2, tc_G3, tc_G4, tc_G5, tc_us, tc_un, s_one, s_holds, s_J13_bitCount, bz_bI, f_V_insertElement, hC.tq.f, e5]; rfl) g2 g3 (wf_push hC.gu.2.2 q4 (by decide) (fun z => absurd rfl z) (fun _ => ⟨i, hin, rfl, q3, .inr l1⟩) (fun _ => .inl ⟨rfl, ⟨w3, by omega, w32⟩, rfl⟩) (fun z => by cases z) (fun z => by cases z) (fun z => by cases z)) (fun k1 k2 => ?_) rfl rfl (fun _ => rfl) (fun _ => rfl) (fun _ => ⟨rfl, rfl, rfl⟩) (fun z => by cases z) (fun z => by rcases z with z | z <;> cases z)
            have rs' := r_spot (x := nI l) hC.mod k1 hi
            have rt' := r_takes hC.mod k1 k2 hi
            rw [decide_eq_true q1] at rs'
            rw [decide_eq_true ⟨q3, q4⟩] at rt'
            generalize ansC c1' (nI (U.n + 1)).toInt64 = d at *
            have r2' := in_ok (h := tc_mk S d) q2.1 q2.2
            simp (maxSteps := 3000000) (disch := omega) only [Option.bind_some, tc_bs, tq_let, tc_I1, tc_I2, tc_J1, tc_J2, tc_J3, tc_F1, tc_F2, tc_F3, tc_F4, tc_G1, tc_G2, tc_G3, tc_G4, tc_G5, tc_us, tc_un, s_one, s_holds, s_J13_bitCount, bz_bI, f_X11_insertElement, f_X11_refused, hC.mod.f, rs', b1, r2', n10, rt', z0, bs2, if_true, if_false]; rfl
          · have c4 := hC.room.2 q4
            rw [decide_eq_false fun z => q4 z.2] at rt
            refine arm_no hC hF (k := 3) (b := 0) (by decide) ?_ ?_
            · have e5 : f_X10_insertElement 0 x1 x2 x3 (tc_mk S c) = some (.inl "java/lang/IllegalStateException", tc_mk S c) := by simp (maxSteps := 3000000) (disch := omega) only [Option.bind_some, tc_bs, tq_let, tc_I1, tc_I2, tc_J1, tc_J2, tc_J3, tc_F1, tc_F2, tc_F3, tc_F4, tc_G1, tc_G2, tc_G3, tc_G4, tc_G5, tc_us, tc_un, s_one, s_holds, s_J13_bitCount, bz_bI, f_X10_insertElement, hC.tq.f, c1, c2, c3, c4, tb_r, tb_l]
              simp (maxSteps := 3000000) (disch := omega) only [Option.bind_some, tc_bs, tq_let, tc_I1, tc_I2, tc_J1, tc_J2, tc_J3, tc_F1, tc_F2, tc_F3, tc_F4, tc_G1, tc_G2, tc_G3, tc_G4, tc_G5, tc_us, tc_un, s_one, s_holds, s_J13_bitCount, bz_bI, f_V_insertElement, hC.tq.f, e5, nSI, nSA, if_true, if_false]
            · simp (maxSteps := 3000000) (disch := omega) only [Option.bind_some, tc_bs, tq_let, tc_I1, tc_I2, tc_J1, tc_J2, tc_J3, tc_F1, tc_F2, tc_F3, tc_F4, tc_G1, tc_G2, tc_G3, tc_G4, tc_G5, tc_us, tc_un, s_one, s_holds, s_J13_bitCount, bz_bI, f_X11_insertElement, f_X11_refused, hC.mod.f, rs, b1, r2, n10, rt, b0, n30, z1, if_true, if_false]
        · have c3 := (hC.elem hi).2 q3
          rw [decide_eq_false fun z => q3 z.1] at rt
          refine arm_no hC hF (k := 3) (b := 0) (by decide) ?_ ?_
          · have e5 : f_X10_insertElement 0 x1 x2 x3 (tc_mk S c) = some (.inl "java/lang/IllegalStateException", tc_mk S c) := by simp (maxSteps := 3000000) (disch := omega) only [Option.bind_some, tc_bs, tq_let, tc_I1, tc_I2, tc_J1, tc_J2, tc_J3, tc_F1, tc_F2, tc_F3, tc_F4, tc_G1, tc_G2, tc_G3, tc_G4, tc_G5, tc_us, tc_un, s_one, s_holds, s_J13_bitCount, bz_bI, f_X10_insertElement, hC.tq.f, c1, c2, c3, tb_r, tb_l]
            simp (maxSteps := 3000000) (disch := omega) only [Option.bind_some, tc_bs, tq_let, tc_I1, tc_I2, tc_J1, tc_J2, tc_J3, tc_F1, tc_F2, tc_F3, tc_F4, tc_G1, tc_G2, tc_G3, tc_G4, tc_G5, tc_us, tc_un, s_one, s_holds, s_J13_bitCount, bz_bI, f_V_insertElement, hC.tq.f, e5, nSI, nSA, if_true, if_false]
          · simp (maxSteps := 3000000) (disch := omega) only [Option.bind_some, tc_bs, tq_let, tc_I1, tc_I2, tc_J1, tc_J2, tc_J3, tc_F1, tc_F2, tc_F3, tc_F4, tc_G1, tc_G2, tc_G3, tc_G4, tc_G5, tc_us, tc_un, s_one, s_holds, s_J13_bitCount, bz_bI, f_X11_insertElement, f_X11_refused, hC.mod.f, rs, b1, r2, n10, rt, b0, n30, z1, if_true, if_false]
      · have c2 := rng_no (h := tc_mk S c) q2
        have r2 := in_no (h := tc_mk S c) q2
        refine arm_no hC hF (k := 2) (b := 0) (by decide) ?_ ?_
        · have e5 : f_X10_insertElement 0 x1 x2 x3 (tc_mk S c) = some (.inl "java/lang/IllegalArgumentException", tc_mk S c) := by simp (maxSteps := 3000000) (disch := omega) only [Option.bind_some, tc_bs, tq_let, tc_I1, tc_I2, tc_J1, tc_J2, tc_J3, tc_F1, tc_F2, tc_F3, tc_F4, tc_G1, tc_G2, tc_G3, tc_G4, tc_G5, tc_us, tc_un, s_one, s_holds, s_J13_bitCount, bz_bI, f_X10_insertElement, hC.tq.f, c1, c2, tb_r, tb_l]
          simp (maxSteps := 3000000) (disch := omega) only [Option.bind_some, tc_bs, tq_let, tc_I1, tc_I2, tc_J1, tc_J2, tc_J3, tc_F1, tc_F2, tc_F3, tc_F4, tc_G1, tc_G2, tc_G3, tc_G4, tc_G5, tc_us, tc_un, s_one, s_holds, s_J13_bitCount, bz_bI, f_V_insertElement, hC.tq.f, e5, nAI, if_true, if_false]
        · simp (maxSteps := 3000000) (disch := omega) only [Option.bind_some, tc_bs, tq_let, tc_I1, tc_I2, tc_J1, tc_J2, tc_J3, tc_F1, tc_F2, tc_F3, tc_F4, tc_G1, tc_G2, tc_G3, tc_G4, tc_G5, tc_us, tc_un, s_one, s_holds, s_J13_bitCount, bz_bI, f_X11_insertElement, f_X11_refused, hC.mod.f, rs, b1, r2, n10, n20, z1, if_true, if_false]
    · rw [decide_eq_false q1] at rs
      have c1 := (hC.plc hi).2 q1
      refine arm_no hC hF (k := 1) (b := 0) (by decide) ?_ ?_
      · have e5 : f_X10_insertElement 0 x1 x2 x3 (tc_mk S c) = some (.inl "java/lang/IndexOutOfBoundsException", tc_mk S c) := by simp (maxSteps := 3000000) (disch := omega) only [Option.bind_some, tc_bs, tq_let, tc_I1, tc_I2, tc_J1, tc_J2, tc_J3, tc_F1, tc_F2, tc_F3, tc_F4, tc_G1, tc_G2, tc_G3, tc_G4, tc_G5, tc_us, tc_un, s_one, s_holds, s_J13_bitCount, bz_bI, f_X10_insertElement, hC.tq.f, c1, tb_l]
        simp (maxSteps := 3000000) (disch := omega) only [Option.bind_some, tc_bs, tq_let, tc_I1, tc_I2, tc_J1, tc_J2, tc_J3, tc_F1, tc_F2, tc_F3, tc_F4, tc_G1, tc_G2, tc_G3, tc_G4, tc_G5, tc_us, tc_un, s_one, s_holds, s_J13_bitCount, bz_bI, f_V_insertElement, hC.tq.f, e5, if_true]
      · simp (maxSteps := 3000000) (disch := omega) only [Option.bind_some, tc_bs, tq_let, tc_I1, tc_I2, tc_J1, tc_J2, tc_J3, tc_F1, tc_F2, tc_F3, tc_F4, tc_G1, tc_G2, tc_G3, tc_G4, tc_G5, tc_us, tc_un, s_one, s_holds, s_J13_bitCount, bz_bI, f_X11_insertElement, f_X11_refused, hC.mod.f, rs, b0, n10, z1, if_true, if_false]
  · have rs := r_spot_n (x := x2) hC.mod hg hi
    have c1 := hC.plc_n (x := x2) hi
    refine arm_no hC hF (k := 1) (b := 0) (by decide) ?_ ?_
    · have e5 : f_X10_insertElement 0 x1 x2 x3 (tc_mk S c) = some (.inl "java/lang/IndexOutOfBoundsException", tc_mk S c) := by simp (maxSteps := 3000000) (disch := omega) only [Option.bind_some, tc_bs, tq_let, tc_I1, tc_I2, tc_J1, tc_J2, tc_J3, tc_F1, tc_F2, tc_F3, tc_F4, tc_G1, tc_G2, tc_G3, tc_G4, tc_G5, tc_us, tc_un, s_one, s_holds, s_J13_bitCount, bz_bI, f_X10_insertElement, hC.tq.f, c1, tb_l]
      simp (maxSteps := 3000000) (disch := omega) only [Option.bind_some, tc_bs, tq_let, tc_I1, tc_I2, tc_J1, tc_J2, tc_J3, tc_F1, tc_F2, tc_F3, tc_F4, tc_G1, tc_G2, tc_G3, tc_G4, tc_G5, tc_us, tc_un, s_one, s_holds, s_J13_bitCount, bz_bI, f_V_insertElement, hC.tq.f, e5, if_true]
    · simp (maxSteps := 3000000) (disch := omega) only [Option.bind_some, tc_bs, tq_let, tc_I1, tc_I2, tc_J1, tc_J2, tc_J3, tc_F1, tc_F2, tc_F3, tc_F4, tc_G1, tc_G2, tc_G3, tc_G4, tc_G5, tc_us, tc_un, s_one, s_holds, s_J13_bitCount, bz_bI, f_X11_insertElement, f_X11_refused, hC.mod.f, rs, n10, z1, if_true, if_false]
theorem arm_insertText (h : InvE di h0) (e1 : tq_sx n xs (y4 + 1) = some x1) (e2 : tq_sx n xs (y4 + 2) = some x2) (e3 : tq_sx n xs (y4 + 3) = some x3) : ∃ h' u, f_V_law_c352 n xs 0 155 205 y4 h0 = some (.inl (y4 + 5, h')) ∧ InvE (di.1, di.2.1, u) h' ∧ EXp di.2.2 u h' := by
  obtain ⟨S, c, D, m, U, P, H, Z, X, nw, ed, nv, vt, mv, Dv, rfl, hC, hF⟩ := h
  have e0 : f_V_law_c352 n xs 0 155 205 y4 (tc_mk S c) = armI (f_V_insertText 0 x1 x2 x3 205 (tc_mk S c)) (f_X11_insertText 155 x1 x2 x3) y4 := by
    unfold f_V_law_c352; rw [e1, e2, e3]; rfl
  rw [e0]
  have hg := hC.gt
  have hw := hg.1.1
  have n10 : ¬ (1 : Int32) = 0 := by decide
  have n20 : ¬ (2 : Int32) = 0 := by decide
  have n30 : ¬ (3 : Int32) = 0 := by decide
  have z0 : tq_bz 0 = some 0 := rfl
  have z1 : tq_bz 1 = some 1 := rfl
  have b1 : ¬ bI true = 0 := by decide
  have b0 : bI false = 0 := rfl
  rcases D.at_or x1 with ⟨i, hi⟩ | hi
  · have rs := r_spot (x := x2) hC.mod hg hi
    have rt := r_takes hC.mod hg hC.gu.2.1 hi
    by_cases q1 : 0 ≤ x2 ∧ x2 ≤ nI (fb_ct (D.ax 1 i) 64)
    · rw [decide_eq_true q1] at rs
      have c1 := (hC.plc hi).1 q1
      by_cases q2 : 0 ≤ x3 ∧ x3 ≤ 999
      · have c2 := rng_ok (h := tc_mk S c) q2.1 q2.2
        have r2 := in_ok (h := tc_mk S c) q2.1 q2.2
        by_cases q3 : D.kd i = 0
        · have c3 := (hC.elem hi).1 q3
          by_cases q4 : U.n < 20
          · have c4 := hC.room.1 q4
            obtain ⟨hin, rfl⟩ := id hi
            obtain ⟨l, l1, rfl⟩ := x_nat (by have := fb_ct_le (D.ax 1 i) 64; omega) q1.1 q1.2
            have hx3 : 999 = nI 999 := rfl
            obtain ⟨w3, w31, w32⟩ := x_nat (N := 999) (by decide) q2.1 q2.2
            obtain ⟨c1', g1, g2, g3⟩ := s_addInsert (c := c) (kd := 1) (p := D.ord i) (l := l) (nm := -1) (ct := x3) hC.upc hC.gu.1 q4 (nI l) rfl
            have g1 : f_X9_addInsert 81 1 (nI (D.ord i)) (nI l) (-1) x3 (tc_mk S c) = some (nI (U.n + 1), tc_mk S c1') := g1
            have e5 : f_X10_insertText 0 (nI (D.ord i)) (nI l) x3 (tc_mk S c) = some (.inr (nI (U.n + 1)), tc_mk S c1') := by
              simp (maxSteps := 3000000) (disch := omega) only [Option.bind_some, tc_bs, tq_let, tc_I1, tc_I2, tc_J1, tc_J2, tc_J3, tc_F1, tc_F2, tc_F3, tc_F4, tc_G1, tc_G2, tc_G3, tc_G4, tc_G5, tc_us, tc_un, s_one, s_holds, s_J13_bitCount, bz_bI, f_X10_insertText, hC.tq.f, hC.upc.f, c1, c2, c3, c4, tb_r, g1]
            refine hC.acc hF q4 (c1 := c1') (w := 0) (t := 0) (p := D.ord i) (l := l) (kd := 1) (nm := -1) (ct := x3) (by simp (maxSteps := 3000000) (disch := omega) only [Option.bind_some, tc_bs, tq_let, tc_I1, tc_I2, tc_J1, tc_J2, tc_J3, tc_F1, tc_F2, tc_F3, tc_F4, tc_G1, tc_G2, tc_G3, tc_G4, tc_G5, tc_us, tc_un, s_one, s_holds, s_J13_bitCount, bz_bI, f_V_insertText, hC.tq.f, e5]; rfl) g2 g3 (wf_push hC.gu.2.2 q4 (by decide) (fun z => absurd rfl z) (fun _ => ⟨i, hin, rfl, q3, .inr l1⟩) (fun _ => .inr (.inl ⟨rfl, rfl, ⟨w3, by omega, w32⟩⟩)) (fun z => by cases z) (fun z => by cases z) (fun z => by cases z)) (fun k1 k2 => ?_) rfl rfl (fun _ => rfl) (fun _ => rfl) (fun _ => ⟨rfl, rfl, rfl⟩) (fun z => by cases z) (fun z => by rcases z with z | z <;> cases z)
            have rs' := r_spot (x := nI l) hC.mod k1 hi
            have rt' := r_takes hC.mod k1 k2 hi
            rw [decide_eq_true q1] at rs'
            rw [decide_eq_true ⟨q3, q4⟩] at rt'
            generalize ansC c1' (nI (U.n + 1)).toInt64 = d at *
            have r2' := in_ok (h := tc_mk S d) q2.1 q2.2
            simp (maxSteps := 3000000) (disch := omega) only [Option.bind_some, tc_bs, tq_let, tc_I1, tc_I2, tc_J1, tc_J2, tc_J3, tc_F1, tc_F2, tc_F3, tc_F4, tc_G1, tc_G2, tc_G3, tc_G4, tc_G5, tc_us, tc_un, s_one, s_holds, s_J13_bitCount, bz_bI, f_X11_insertText, f_X11_refused, hC.mod.f, rs', b1, r2', n10, rt', z0, bs2, if_true, if_false]; rfl
          · have c4 := hC.room.2 q4
            rw [decide_eq_false fun z => q4 z.2] at rt
            refine arm_no hC hF (k := 3) (b := 0) (by decide) ?_ ?_
            · have e5 : f_X10_insertText 0 x1 x2 x3 (tc_mk S c) = some (.inl "java/lang/IllegalStateException", tc_mk S c) := by simp (maxSteps := 3000000) (disch := omega) only [Option.bind_some, tc_bs, tq_let, tc_I1, tc_I2, tc_J1, tc_J2, tc_J3, tc_F1, tc_F2, tc_F3, tc_F4, tc_G1, tc_G2, tc_G3, tc_G4, tc_G5, tc_us, tc_un, s_one, s_holds, s_J13_bitCount, bz_bI, f_X10_insertText, hC.tq.f, c1, c2, c3, c4, tb_r, tb_l]
              simp (maxSteps := 3000000) (disch := omega) only [Option.bind_some, tc_bs, tq_let, tc_I1, tc_I2, tc_J1, tc_J2, tc_J3, tc_F1, tc_F2, tc_F3, tc_F4, tc_G1, tc_G2, tc_G3, tc_G4, tc_G5, tc_us, tc_un, s_one, s_holds, s_J13_bitCount, bz_bI, f_V_insertText, hC.tq.f, e5, nSI, nSA, if_true, if_false]
            · simp (maxSteps := 3000000) (disch := omega) only [Option.bind_some, tc_bs, tq_let, tc_I1, tc_I2, tc_J1, tc_J2, tc_J3, tc_F1, tc_F2, tc_F3, tc_F4, tc_G1, tc_G2, tc_G3, tc_G4, tc_G5, tc_us, tc_un, s_one, s_holds, s_J13_bitCount, bz_bI, f_X11_insertText, f_X11_refused, hC.mod.f, rs, b1, r2, n10, rt, b0, n30, z1, if_true, if_false]
        · have c3 := (hC.elem hi).2 q3
          rw [decide_eq_false fun z => q3 z.1] at rt
          refine arm_no hC hF (k := 3) (b := 0) (by decide) ?_ ?_
          · have e5 : f_X10_insertText 0 x1 x2 x3 (tc_mk S c) = some (.inl "java/lang/IllegalStateException", tc_mk S c) := by simp (maxSteps := 3000000) (disch := omega) only [Option.bind_some, tc_bs, tq_let, tc_I1, tc_I2, tc_J1, tc_J2, tc_J3, tc_F1, tc_F2, tc_F3, tc_F4, tc_G1, tc_G2, tc_G3, tc_G4, tc_G5, tc_us, tc_un, s_one, s_holds, s_J13_bitCount, bz_bI, f_X10_insertText, hC.tq.f, c1, c2, c3, tb_r, tb_l]
            simp (maxSteps := 3000000) (disch := omega) only [Option.bind_some, tc_bs, tq_let, tc_I1, tc_I2, tc_J1, tc_J2, tc_J3, tc_F1, tc_F2, tc_F3, tc_F4, tc_G1, tc_G2, tc_G3, tc_G4, tc_G5, tc_us, tc_un, s_one, s_holds, s_J13_bitCount, bz_bI, f_V_insertText, hC.tq.f, e5, nSI, nSA, if_true, if_false]
          · simp (maxSteps := 3000000) (disch := omega) only [Option.bind_some, tc_bs, tq_let, tc_I1, tc_I2, tc_J1, tc_J2, tc_J3, tc_F1, tc_F2, tc_F3, tc_F4, tc_G1, tc_G2, tc_G3, tc_G4, tc_G5, tc_us, tc_un, s_one, s_holds, s_J13_bitCount, bz_bI, f_X11_insertText, f_X11_refused, hC.mod.f, rs, b1, r2, n10, rt, b0, n30, z1, if_true, if_false]
      · have c2 := rng_no (h := tc_mk S c) q2
        have r2 := in_no (h := tc_mk S c) q2
        refine arm_no hC hF (k := 2) (b := 0) (by decide) ?_ ?_
        · have e5 : f_X10_insertText 0 x1 x2 x3 (tc_mk S c) = some (.inl "java/lang/IllegalArgumentException", tc_mk S c) := by simp (maxSteps := 3000000) (disch := omega) only [Option.bind_some, tc_bs, tq_let, tc_I1, tc_I2, tc_J1, tc_J2, tc_J3, tc_F1, tc_F2, tc_F3, tc_F4, tc_G1, tc_G2, tc_G3, tc_G4, tc_G5, tc_us, tc_un, s_one, s_holds, s_J13_bitCount, bz_bI, f_X10_insertText, hC.tq.f, c1, c2, tb_r, tb_l]
          simp (maxSteps := 3000000) (disch := omega) only [Option.bind_some, tc_bs, tq_let, tc_I1, tc_I2, tc_J1, tc_J2, tc_J3, tc_F1, tc_F2, tc_F3, tc_F4, tc_G1, tc_G2, tc_G3, tc_G4, tc_G5, tc_us, tc_un, s_one, s_holds, s_J13_bitCount, bz_bI, f_V_insertText, hC.tq.f, e5, nAI, if_true, if_false]
        · simp (maxSteps := 3000000) (disch := omega) only [Option.bind_some, tc_bs, tq_let, tc_I1, tc_I2, tc_J1, tc_J2, tc_J3, tc_F1, tc_F2, tc_F3, tc_F4, tc_G1, tc_G2, tc_G3, tc_G4, tc_G5, tc_us, tc_un, s_one, s_holds, s_J13_bitCount, bz_bI, f_X11_insertText, f_X11_refused, hC.mod.f, rs, b1, r2, n10, n20, z1, if_true, if_false]
    · rw [decide_eq_false q1] at rs
      have c1 := (hC.plc hi).2 q1
      refine arm_no hC hF (k := 1) (b := 0) (by decide) ?_ ?_
      · have e5 : f_X10_insertText 0 x1 x2 x3 (tc_mk S c) = some (.inl "java/lang/IndexOutOfBoundsException", tc_mk S c) := by simp (maxSteps := 3000000) (disch := omega) only [Option.bind_some, tc_bs, tq_let, tc_I1, tc_I2, tc_J1, tc_J2, tc_J3, tc_F1, tc_F2, tc_F3, tc_F4, tc_G1, tc_G2, tc_G3, tc_G4, tc_G5, tc_us, tc_un, s_one, s_holds, s_J13_bitCount, bz_bI, f_X10_insertText, hC.tq.f, c1, tb_l]
        simp (maxSteps := 3000000) (disch := omega) only [Option.bind_some, tc_bs, tq_let, tc_I1, tc_I2, tc_J1, tc_J2, tc_J3, tc_F1, tc_F2, tc_F3, tc_F4, tc_G1, tc_G2, tc_G3, tc_G4, tc_G5, tc_us, tc_un, s_one, s_holds, s_J13_bitCount, bz_bI, f_V_insertText, hC.tq.f, e5, if_true]
      · simp (maxSteps := 3000000) (disch := omega) only [Option.bind_some, tc_bs, tq_let, tc_I1, tc_I2, tc_J1, tc_J2, tc_J3, tc_F1, tc_F2, tc_F3, tc_F4, tc_G1, tc_G2, tc_G3, tc_G4, tc_G5, tc_us, tc_un, s_one, s_holds, s_J13_bitCount, bz_bI, f_X11_insertText, f_X11_refused, hC.mod.f, rs, b0, n10, z1, if_true, if_false]
  · have rs := r_spot_n (x := x2) hC.mod hg hi
    have c1 := hC.plc_n (x := x2) hi
    refine arm_no hC hF (k := 1) (b := 0) (by decide) ?_ ?_
    · have e5 : f_X10_insertText 0 x1 x2 x3 (tc_mk S c) = some (.inl "java/lang/IndexOutOfBoundsException", tc_mk S c) := by simp (maxSteps := 3000000) (disch := omega) only [Option.bind_some, tc_bs, tq_let, tc_I1, tc_I2, tc_J1, tc_J2, tc_J3, tc_F1, tc_F2, tc_F3, tc_F4, tc_G1, tc_G2, tc_G3, tc_G4, tc_G5, tc_us, tc_un, s_one, s_holds, s_J13_bitCount, bz_bI, f_X10_insertText, hC.tq.f, c1, tb_l]
      simp (maxSteps := 3000000) (disch := omega) only [Option.bind_some, tc_bs, tq_let, tc_I1, tc_I2, tc_J1, tc_J2, tc_J3, tc_F1, tc_F2, tc_F3, tc_F4, tc_G1, tc_G2, tc_G3, tc_G4, tc_G5, tc_us, tc_un, s_one, s_holds, s_J13_bitCount, bz_bI, f_V_insertText, hC.tq.f, e5, if_true]
    · simp (maxSteps := 3000000) (disch := omega) only [Option.bind_some, tc_bs, tq_let, tc_I1, tc_I2, tc_J1, tc_J2, tc_J3, tc_F1, tc_F2, tc_F3, tc_F4, tc_G1, tc_G2, tc_G3, tc_G4, tc_G5, tc_us, tc_un, s_one, s_holds, s_J13_bitCount, bz_bI, f_X11_insertText, f_X11_refused, hC.mod.f, rs, n10, z1, if_true, if_false]
end COL
