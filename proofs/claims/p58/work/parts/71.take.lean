/-! ===== the class finds: a step, a path, all paths up to one ===== -/
section FP
variable {S : tq_H} {c c' : tc_C} {b p k d m r : Nat} {D : Doc} {P : Pat} {Q : Nat → Bool} {T : Nat → Nat → Nat → Bool} {G : Nat → Nat → Bool}
theorem Doc.bas_lt {s i j : Nat} (h : D.bas P Q T s i j = true) : j < D.n := (Doc.bas_in h).1
theorem Doc.cds_lt {s i j e : Nat} (h : D.cds P Q T s (D.bas P Q T s i) e j = true) : j < D.n := Doc.bas_lt (Doc.cds_sub h)
/-- what a finder holds while it works -/
def FW (c : tc_C) (b : Nat) (D : Doc) (P : Pat) (Q : Nat → Bool) : Prop := Lay c 1 D ∧ PC c 98 P ∧ c.2.2.2.1 b 6 = mkS Q ∧ ∀ i, i < D.n → c.1 (b + 6) i = D.val Q i
theorem FW.kp (h : FW c b D P Q) (hb : 117 ≤ b) {lo hi : Nat} (k : Kp lo hi c c') (h1 : b + 1 ≤ lo) (h2 : hi ≤ b + 6) : FW c' b D P Q := by
  obtain ⟨f1, f2, f3, f4⟩ := h
  refine ⟨f1.kp k (by omega), f2.kp k (by omega), ?_, ?_⟩
  · rw [k.2.2.2.1 b (by omega)]; exact f3
  · rw [k.1 (b + 6) (by omega)]; exact f4
theorem s_cond_step (hS : tc_Fnd S b) (hb : 117 ≤ b) (hTr : tc_Tree S 1) (hPs : tc_Pth S 98) (hw : D.wf) (hF : FW c b D P Q) (hP : P.wf) (hp : p < P.n) (hk : k < P.sc p) (hTb : Tb c b D T p) (hTn : ∀ q i j, T q i j = true → j < D.n) (hd : d < P.cc (5 * p + k)) (hg : Lp c b D (fun i => D.cds P Q T (5 * p + k) (D.bas P Q T (5 * p + k) i) d)) :
    ∃ c', f_X2_takeStep_b68 b (nI p) (nI (5 * p + k)) (nI (P.ax (5 * p + k))) (nI d, tc_mk S c) = some (.inl (nI (d + 1), tc_mk S c')) ∧ Lp c' b D (fun i => D.cds P Q T (5 * p + k) (D.bas P Q T (5 * p + k) i) (d + 1)) ∧ Kp (b + 4) (b + 5) c c' := by
  obtain ⟨hL, hC, hQ, hv⟩ := hF
  have hcc := (hP.2.2 p k hp hk).2.2.2.1
  have hax := (hP.2.2 p k hp hk).1
  have hcw := ((hP.2.2 p k hp hk).2.2.2.2 d hd).1
  have e : ∀ u, u < 5 → ((nI (P.cw (2 * (5 * p + k) + d)) = nI u) ↔ P.cw (2 * (5 * p + k) + d) = u) := fun u hu => nI_eq (by omega) (by omega)
  have e0 : (nI (P.cw (2 * (5 * p + k) + d)) = 0) ↔ P.cw (2 * (5 * p + k) + d) = 0 := e 0 (by decide)
  have e1 : (nI (P.cw (2 * (5 * p + k) + d)) = 1) ↔ P.cw (2 * (5 * p + k) + d) = 1 := e 1 (by decide)
  have e4 : (nI (P.cw (2 * (5 * p + k) + d)) = 4) ↔ P.cw (2 * (5 * p + k) + d) = 4 := e 4 (by decide)
  have hlt : ¬ nI d ≥ nI (P.cc (5 * p + k)) := nI_ge hd (by omega)
  dsimp only [f_X2_takeStep_b68]
  by_cases h2 : P.cw (2 * (5 * p + k) + d) < 2
  · obtain ⟨c1, g1, g2, g3⟩ := s_siftByPlace (Q := Q) (T := T) hS hb hTr hPs hw hL hC hP hp hk hd hg (bck (P.ax (5 * p + k))) h2
    refine ⟨c1, ?_, g2, g3⟩
    simp (maxSteps := 3000000) (disch := omega) only [Option.bind_some, tc_bs, tq_let, tc_I1, tc_I2, tc_J1, tc_J2, tc_J3, tc_F1, tc_F2, tc_F3, tc_F4, tc_G1, tc_G2, tc_G3, tc_G4, tc_G5, tc_us, tc_un, s_one, s_holds, s_J13_bitCount, bz_bI, hS.f, hPs.is, s_X4_conditionsOf hPs hC hP hp hk, hlt, if_false, s_X4_conditionAt, s_X4_whatOf hPs hC hP hp hk hd, s_X2_goesBack (show P.ax (5 * p + k) < 13 by omega), g1, nI_1]
    by_cases h0 : P.cw (2 * (5 * p + k) + d) = 0
    · rw [if_pos (e0.mpr h0)]; rfl
    · rw [if_neg (fun w => h0 (e0.mp w)), if_pos (e1.mpr (by omega))]; rfl
  · have hwh : 2 ≤ P.cw (2 * (5 * p + k) + d) := by omega
    have n0 : ¬ nI (P.cw (2 * (5 * p + k) + d)) = 0 := fun w => by have := (e 0 (by decide)).mp w; omega
    have n1 : ¬ nI (P.cw (2 * (5 * p + k) + d)) = 1 := fun w => by have := (e 1 (by decide)).mp w; omega
    by_cases h4 : P.cw (2 * (5 * p + k) + d) = 4
    · have hz : ∀ j, j < D.n → tb (mkS (fun l => decide (l < D.n) && D.cq P Q (2 * (5 * p + k) + d) l)) j = D.cq P Q (2 * (5 * p + k) + d) j := fun j hj => by
        have := D.n_le hw
        rw [tb_mkS]; simp [hj]; omega
      obtain ⟨c1, g1, g2, g3⟩ := s_siftByTruth hS hb hTr hPs hw hL hC hP hp hk hd hg (bck (P.ax (5 * p + k))) hwh hTb hTn (fun i j h => Doc.cds_lt h) hz
      refine ⟨c1, ?_, g2, g3⟩
      simp (maxSteps := 3000000) (disch := omega) only [Option.bind_some, tc_bs, tq_let, tc_I1, tc_I2, tc_J1, tc_J2, tc_J3, tc_F1, tc_F2, tc_F3, tc_F4, tc_G1, tc_G2, tc_G3, tc_G4, tc_G5, tc_us, tc_un, s_one, s_holds, s_J13_bitCount, bz_bI, hS.f, hPs.is, s_X4_conditionsOf hPs hC hP hp hk, hlt, if_false, s_X4_conditionAt, s_X4_whatOf hPs hC hP hp hk hd, n0, n1, s_worthy hS hTr hPs hw hL hC hP hp hk hd hv h4]
      rw [if_pos (e4.mpr h4), Option.bind_some, g1, Option.bind_some, nI_1]
    · have hz : ∀ j, j < D.n → tb (-1) j = D.cq P Q (2 * (5 * p + k) + d) j := fun j hj => by
        have := D.n_le hw
        unfold Doc.cq
        rw [tb_m1, if_neg h4]; simp; omega
      obtain ⟨c1, g1, g2, g3⟩ := s_siftByTruth hS hb hTr hPs hw hL hC hP hp hk hd hg (bck (P.ax (5 * p + k))) hwh hTb hTn (fun i j h => Doc.cds_lt h) hz
      refine ⟨c1, ?_, g2, g3⟩
      simp (maxSteps := 3000000) (disch := omega) only [Option.bind_some, tc_bs, tq_let, tc_I1, tc_I2, tc_J1, tc_J2, tc_J3, tc_F1, tc_F2, tc_F3, tc_F4, tc_G1, tc_G2, tc_G3, tc_G4, tc_G5, tc_us, tc_un, s_one, s_holds, s_J13_bitCount, bz_bI, hS.f, hPs.is, s_X4_conditionsOf hPs hC hP hp hk, hlt, if_false, s_X4_conditionAt, s_X4_whatOf hPs hC hP hp hk hd, n0, n1]
      rw [if_neg (fun w => h4 (e4.mp w)), Option.bind_some, g1, Option.bind_some, nI_1]
theorem s_takeStep (hS : tc_Fnd S b) (hb : 117 ≤ b) (hTr : tc_Tree S 1) (hPs : tc_Pth S 98) (hw : D.wf) (hF : FW c b D P Q) (hP : P.wf) (hp : p < P.n) (hk : k < P.sc p) (hTb : Tb c b D T p) (hTn : ∀ q i j, T q i j = true → j < D.n) (hG : ∀ i, i < D.n → c.2.1 (b + 2) (60 * p + i) = mkS (G i)) (hGn : ∀ i j, G i j = true → j < D.n) :
    ∃ c', f_X2_takeStep b (nI p) (nI (5 * p + k)) (tc_mk S c) = some (tc_mk S c') ∧ Kp (b + 2) (b + 5) c c' ∧ Tb c' b D T p ∧ ∀ i, i < D.n → c'.2.1 (b + 2) (60 * p + i) = mkS (fun j => anyB (fun s => G i s && D.stp P Q T (5 * p + k) s j) D.n) := by
  have hF' := hF
  obtain ⟨hL, hC, hQ, hv⟩ := hF'
  have hn := D.n_le hw
  have h20 := hP.1
  obtain ⟨hax, hts, hby, hcc, -⟩ := hP.2.2 p k hp hk
  have e12 : (nI (P.ax (5 * p + k)) = 12) ↔ P.ax (5 * p + k) = 12 := by rw [show (12 : Int32) = nI 12 from rfl, nI_eq (by omega) (by decide)]
  have hpass : f_X3_passing 2 (nI (P.ts (5 * p + k))) (tc_mk S c) = some (mkS (fun j => decide (j < D.n) && D.tst (P.ts (5 * p + k)) j)) := s_X3_passing hTr hL hts
  -- the axis
  have A1 : ∃ c1, f_X2_takeStep b (nI p) (nI (5 * p + k)) (tc_mk S c) = (tq_loop (f_X2_takeStep_b68 b (nI p) (nI (5 * p + k)) (nI (P.ax (5 * p + k)))) tq_N (0, tc_mk S c1)).bind (fun o => (tq_loop (f_X2_takeStep_b161 b (nI p)) tq_N (0, o)).bind fun o61 => some o61) ∧ Lp c1 b D (fun i => D.bas P Q T (5 * p + k) i) ∧ Kp (b + 4) (b + 5) c c1 := by
    by_cases h12 : P.ax (5 * p + k) = 12
    · obtain ⟨c1, g1, g2, g3⟩ := s_reachByPath hS hb hTr hw hL hQ hTb (hby h12) (by omega) (hTn _) (fun j => decide (j < D.n) && D.tst (P.ts (5 * p + k)) j)
      refine ⟨c1, ?_, lp_cong g2 (fun i hi => mkS_cong fun j hj => ?_), g3⟩
      · unfold f_X2_takeStep
        simp (maxSteps := 3000000) (disch := omega) only [Option.bind_some, tc_bs, tq_let, tc_I1, tc_I2, tc_J1, tc_J2, tc_J3, tc_F1, tc_F2, tc_F3, tc_F4, tc_G1, tc_G2, tc_G3, tc_G4, tc_G5, tc_us, tc_un, s_one, s_holds, s_J13_bitCount, bz_bI, hS.f, hPs.is, s_X4_axisOf hPs hC hP hp hk, s_X4_repeatOf hPs hC hP hp hk h12, s_X4_testOf hPs hC hP hp hk, hTr.is, hpass, g1]
        rw [if_pos (e12.mpr h12)]
        simp (maxSteps := 3000000) (disch := omega) only [Option.bind_some, tc_bs, tq_let, tc_I1, tc_I2, tc_J1, tc_J2, tc_J3, tc_F1, tc_F2, tc_F3, tc_F4, tc_G1, tc_G2, tc_G3, tc_G4, tc_G5, tc_us, tc_un, s_one, s_holds, s_J13_bitCount, bz_bI, hTr.is, hpass, g1]
      · unfold Doc.bas; rw [if_pos h12]
    · obtain ⟨c1, g1, g2, g3⟩ := s_reachByAxis hS hb hTr hw hL hQ (show P.ax (5 * p + k) < 12 by omega) (fun j => decide (j < D.n) && D.tst (P.ts (5 * p + k)) j)
      refine ⟨c1, ?_, lp_cong g2 (fun i hi => mkS_cong fun j hj => ?_), g3⟩
      · unfold f_X2_takeStep
        simp (maxSteps := 3000000) (disch := omega) only [Option.bind_some, tc_bs, tq_let, tc_I1, tc_I2, tc_J1, tc_J2, tc_J3, tc_F1, tc_F2, tc_F3, tc_F4, tc_G1, tc_G2, tc_G3, tc_G4, tc_G5, tc_us, tc_un, s_one, s_holds, s_J13_bitCount, bz_bI, hS.f, hPs.is, s_X4_axisOf hPs hC hP hp hk, s_X4_testOf hPs hC hP hp hk, hTr.is, hpass, g1]
        rw [if_neg (fun w => h12 (e12.mp w))]
        simp (maxSteps := 3000000) (disch := omega) only [Option.bind_some, tc_bs, tq_let, tc_I1, tc_I2, tc_J1, tc_J2, tc_J3, tc_F1, tc_F2, tc_F3, tc_F4, tc_G1, tc_G2, tc_G3, tc_G4, tc_G5, tc_us, tc_un, s_one, s_holds, s_J13_bitCount, bz_bI, hTr.is, hpass, g1]
      · unfold Doc.bas; rw [if_neg h12]
  obtain ⟨c1, a1, a2, a3⟩ := A1
  -- the conditions
  obtain ⟨c2, b1', b2, b3⟩ := tc_run (B := f_X2_takeStep_b68 b (nI p) (nI (5 * p + k)) (nI (P.ax (5 * p + k)))) (P.cc (5 * p + k)) (fun d x => (nI d, tc_mk S x)) (fun d x => Lp x b D (fun i => D.cds P Q T (5 * p + k) (D.bas P Q T (5 * p + k) i) d) ∧ Kp (b + 4) (b + 5) c x) (fun x => tc_mk S x) (by omega) (fun d x hd hx => by
      obtain ⟨y, y1, y2, y3⟩ := s_cond_step hS hb hTr hPs hw (hF.kp hb hx.2 (by omega) (by omega)) hP hp hk (hTb.kp hx.2 (by omega)) hTn hd hx.1
      exact ⟨y, y1, y2, hx.2.trans y3⟩) (fun x hx => by
      have hC' := (hF.kp hb hx.2 (by omega) (by omega)).2.1
      dsimp only [f_X2_takeStep_b68]
      simp (maxSteps := 3000000) (disch := omega) only [Option.bind_some, tc_bs, tq_let, tc_I1, tc_I2, tc_J1, tc_J2, tc_J3, tc_F1, tc_F2, tc_F3, tc_F4, tc_G1, tc_G2, tc_G3, tc_G4, tc_G5, tc_us, tc_un, s_one, s_holds, s_J13_bitCount, bz_bI, hS.f, hPs.is, s_X4_conditionsOf hPs hC' hP hp hk]
      rw [if_pos (Int32.le_refl _)]) (x := c1) ⟨a2, a3⟩
  -- the tables
  have e60 : nI p * 60 = nI (60 * p) := by rw [show (60 : Int32) = nI 60 from rfl, nI_mul, Nat.mul_comm]
  have hF2 := hF.kp hb b3 (by omega) (by omega)
  have W := tc_row (S := S) (c := c2) (a := b + 2) (o := 60 * p) (n := D.n) (B := f_X2_takeStep_b161 b (nI p)) (fun i => mkS (fun j => anyB (fun s => G i s && D.stp P Q T (5 * p + k) s j) D.n)) (by omega) (fun i g hi hgi => ?_) (fun g => ?_)
  · obtain ⟨c3, w1, w2, w3, w4⟩ := W
    refine ⟨c3, ?_, (b3.mono (by omega) (by omega)).trans (w4.mono (by omega) (by omega)), fun q i hq hi => ?_, w2⟩
    · rw [a1, show ((0 : Int32), tc_mk S c1) = (nI 0, tc_mk S c1) from rfl, b1', Option.bind_some, show ((0 : Int32), tc_mk S c2) = (0, tc_mk S c2) from rfl, w1, Option.bind_some]
    · rw [w3 _ (by omega), b3.2.1 (b + 2) (by omega)]
      exact hTb q i hq hi
  · have kk := Kp.J (c := c2) (a := b + 2) (lo := b + 2) (hi := b + 3) g (by omega) (by omega)
    have hL' := (hF2.kp hb kk (by omega) (by omega)).1
    have hgi2 : g (60 * p + i) = mkS (G i) := by rw [hgi _ (by omega), b3.2.1 (b + 2) (by omega)]; exact hG i hi
    dsimp only [f_X2_takeStep_b161]
    have hun : ∀ g, f_X7_union (b + 3) 0 (mkS (G i)) (tc_mk S (tc_J c2 (b + 2) g)) = some (mkS (fun j => anyB (fun s => G i s && D.stp P Q T (5 * p + k) s j) D.n)) := fun g => by
      rw [show (0 : Int32) = nI 0 from rfl, s_X7_union hS.2.2.1 (show 0 < 2 ^ 30 by decide)]
      congr 1
      refine orTo_mkS (by omega) (hGn i) (fun m hm => ?_)
      rw [Nat.zero_add, sg_in _ (show m < 60 by omega) (by decide), tc_J2, tc_un _ _ (by omega)]
      exact b2 m hm
    simp (maxSteps := 3000000) (disch := omega) only [Option.bind_some, tc_bs, tq_let, tc_I1, tc_I2, tc_J1, tc_J2, tc_J3, tc_F1, tc_F2, tc_F3, tc_F4, tc_G1, tc_G2, tc_G3, tc_G4, tc_G5, tc_us, tc_un, s_one, s_holds, s_J13_bitCount, bz_bI, hS.f, hTr.is, s_X3_count hTr hL', e60, nI_add, sg_in _ (show 60 * p + i < 1200 by omega) (show 1200 < 2 ^ 31 by decide), hgi2, hun, nI_1]
    rw [if_neg (show ¬ nI i ≥ nI D.n from nI_ge hi (by omega)), tc_J_J, ss_in _ _ (show 60 * p + i < 1200 by omega) (by decide)]
  · have hL' := (hF2.kp hb (Kp.J (c := c2) (a := b + 2) (lo := b + 2) (hi := b + 3) g (by omega) (by omega)) (by omega) (by omega)).1
    dsimp only [f_X2_takeStep_b161]
    simp (maxSteps := 3000000) (disch := omega) only [Option.bind_some, tc_bs, tq_let, tc_I1, tc_I2, tc_J1, tc_J2, tc_J3, tc_F1, tc_F2, tc_F3, tc_F4, tc_G1, tc_G2, tc_G3, tc_G4, tc_G5, tc_us, tc_un, s_one, s_holds, s_J13_bitCount, bz_bI, hS.f, hTr.is, s_X3_count hTr hL']
    rw [if_pos (Int32.le_refl _)]
end FP
