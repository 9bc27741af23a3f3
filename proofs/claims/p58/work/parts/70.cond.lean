/-! ===== the class finds: conditions ===== -/
section FC
variable {S : tq_H} {c c' : tc_C} {b p k d m r : Nat} {D : Doc} {P : Pat} {Q : Nat → Bool} {T : Nat → Nat → Nat → Bool} {G : Nat → Nat → Bool}
theorem lp_cong {G' : Nat → Nat → Bool} (h : Lp c b D G) (e : ∀ i, i < D.n → mkS (G i) = mkS (G' i)) : Lp c b D G' := fun i hi => by rw [h i hi, e i hi]
theorem s_siftByPlace (hS : tc_Fnd S b) (hb : 117 ≤ b) (hTr : tc_Tree S 1) (hPs : tc_Pth S 98) (hw : D.wf) (hL : Lay c 1 D) (hC : PC c 98 P) (hP : P.wf) (hp : p < P.n) (hk : k < P.sc p) (hd : d < P.cc (5 * p + k)) (hg : Lp c b D G) (back : Bool) (hwh : P.cw (2 * (5 * p + k) + d) < 2) :
    ∃ c', f_X2_siftByPlace b (nI (2 * (5 * p + k) + d)) (bI back) (tc_mk S c) = some (tc_mk S c') ∧ Lp c' b D (fun i => D.cnd P Q T back (2 * (5 * p + k) + d) (G i)) ∧ Kp (b + 4) (b + 5) c c' := by
  have hn := D.n_le hw
  have e1 : (1 : Int32) = nI 1 := rfl
  have hwo := fun c (h : PC c 98 P) => s_X4_whatOf (S := S) (c := c) hPs h hP hp hk hd
  have hco := fun c (h : PC c 98 P) => s_X4_comparisonOf (S := S) (c := c) hPs h hP hp hk hd
  have hnu := fun c (h : PC c 98 P) => s_X4_numberOf (S := S) (c := c) hPs h hP hp hk hd
  generalize 2 * (5 * p + k) + d = x at *
  have W := tc_row (S := S) (c := c) (a := b + 4) (o := 0) (n := D.n) (B := f_X2_siftByPlace_b21 b (nI x) (bI back) (if P.cw x = 1 then 1 else 0)) (fun i => mkS (D.cnd P Q T back x (G i))) (by omega) (fun i g hi hgi => ?_) (fun g => ?_)
  · obtain ⟨c1, w1, w2, -, w4⟩ := W
    refine ⟨c1, ?_, fun i hi => by have := w2 i hi; rwa [Nat.zero_add] at this, w4⟩
    have e2 : (nI (P.cw x) = 1) ↔ P.cw x = 1 := by rw [e1, nI_eq (by omega) (by decide)]
    unfold f_X2_siftByPlace
    simp (maxSteps := 3000000) (disch := omega) only [Option.bind_some, tc_bs, tq_let, tc_I1, tc_I2, tc_J1, tc_J2, tc_J3, tc_F1, tc_F2, tc_F3, tc_F4, tc_G1, tc_G2, tc_G3, tc_G4, tc_G5, tc_us, tc_un, s_one, s_holds, s_J13_bitCount, bz_bI, hS.f, hPs.is, hwo c hC, e2]
    rw [w1]
  · have kk := Kp.J (c := c) (a := b + 4) (lo := b + 4) (hi := b + 5) g (by omega) (by omega)
    have hL' := hL.kp kk (by omega)
    have hC' := hC.kp kk (by omega)
    have hgi2 : g i = mkS (G i) := by rw [hgi i (by omega)]; exact hg i hi
    by_cases hc : P.cw x = 1
    · have hz : ¬ P.cw x = 0 := by omega
      have h10 : ¬ (1 : Int32) = 0 := by decide
      rw [if_pos hc]
      dsimp only [f_X2_siftByPlace_b21]
      simp (maxSteps := 3000000) (disch := omega) only [Option.bind_some, tc_bs, tq_let, tc_I1, tc_I2, tc_J1, tc_J2, tc_J3, tc_F1, tc_F2, tc_F3, tc_F4, tc_G1, tc_G2, tc_G3, tc_G4, tc_G5, tc_us, tc_un, s_one, s_holds, s_J13_bitCount, bz_bI, ↓reduceIte, h10, hS.f, hTr.is, s_X3_count hTr hL', sg_in _ (show i < 60 by omega) (show 60 < 2 ^ 31 by decide), hgi2, ct_mkS, s_keepPlaced, nI_1, (show ¬ nI i ≥ nI D.n from nI_ge hi (by omega))]
      rw [tc_J_J, Nat.zero_add, ss_in _ _ (show i < 60 by omega) (by decide)]
      have : D.cnd P Q T back x (G i) = fun j => G i j && agr (nI (plc back (G i) j)) 0 (nI (fb_ct (G i) 64)) := by
        funext j; unfold Doc.cnd; rw [if_neg hz, if_pos hc]
      rw [this]
    · have hz : P.cw x = 0 := by omega
      rw [if_neg hc]
      dsimp only [f_X2_siftByPlace_b21]
      simp (maxSteps := 3000000) (disch := omega) only [Option.bind_some, tc_bs, tq_let, tc_I1, tc_I2, tc_J1, tc_J2, tc_J3, tc_F1, tc_F2, tc_F3, tc_F4, tc_G1, tc_G2, tc_G3, tc_G4, tc_G5, tc_us, tc_un, s_one, s_holds, s_J13_bitCount, bz_bI, ↓reduceIte, hS.f, hPs.is, hTr.is, s_X3_count hTr hL', sg_in _ (show i < 60 by omega) (show 60 < 2 ^ 31 by decide), hgi2, hco _ hC' (.inl hz), hnu _ hC' (.inl hz), s_keepPlaced, nI_1, (show ¬ nI i ≥ nI D.n from nI_ge hi (by omega))]
      rw [tc_J_J, Nat.zero_add, ss_in _ _ (show i < 60 by omega) (by decide)]
      have : D.cnd P Q T back x (G i) = fun j => G i j && agr (nI (plc back (G i) j)) (nI (P.cm x)) (nI (P.cn x)) := by
        funext j; unfold Doc.cnd; rw [if_pos hz]
      rw [this]
  · have hL' := hL.kp (Kp.J (c := c) (a := b + 4) (lo := b + 4) (hi := b + 5) g (by omega) (by omega)) (by omega)
    dsimp only [f_X2_siftByPlace_b21]
    simp (maxSteps := 3000000) (disch := omega) only [Option.bind_some, tc_bs, tq_let, tc_I1, tc_I2, tc_J1, tc_J2, tc_J3, tc_F1, tc_F2, tc_F3, tc_F4, tc_G1, tc_G2, tc_G3, tc_G4, tc_G5, tc_us, tc_un, s_one, s_holds, s_J13_bitCount, bz_bI, hS.f, hTr.is, s_X3_count hTr hL']
    rw [if_pos (Int32.le_refl _)]
/-- the nodes whose values are as asked -/
theorem s_worthy (hS : tc_Fnd S b) (hTr : tc_Tree S 1) (hPs : tc_Pth S 98) (hw : D.wf) (hL : Lay c 1 D) (hC : PC c 98 P) (hP : P.wf) (hp : p < P.n) (hk : k < P.sc p) (hd : d < P.cc (5 * p + k)) (hv : ∀ i, i < D.n → c.1 (b + 6) i = D.val Q i) (hwh : P.cw (2 * (5 * p + k) + d) = 4) :
    f_X2_worthy b (nI (2 * (5 * p + k) + d)) (tc_mk S c) = some (mkS (fun l => decide (l < D.n) && D.cq P Q (2 * (5 * p + k) + d) l)) := by
  have hn := D.n_le hw
  have hco := s_X4_comparisonOf (S := S) (c := c) hPs hC hP hp hk hd (.inr hwh)
  have hnu := s_X4_numberOf (S := S) (c := c) hPs hC hP hp hk hd (.inr hwh)
  generalize 2 * (5 * p + k) + d = x at *
  have hcq : ∀ l, D.cq P Q x l = (decide (D.val Q l ≠ -1) && agr (D.val Q l) (nI (P.cm x)) (nI (P.cn x))) := fun l => by unfold Doc.cq; rw [if_pos hwh]
  have W := tc_scan (B := f_X2_worthy_b5 b (nI x) (tc_mk S c)) D.n (fun i => mkS (fun l => decide (l < i) && D.cq P Q x l)) (e := mkS (fun l => decide (l < D.n) && D.cq P Q x l)) (by omega) (fun i hi => ?_) ?_
  · have e0 : mkS (fun l => decide (l < 0) && D.cq P Q x l) = 0 := by rw [mkS_0]; exact mkS_cong fun j _ => by simp
    rw [e0] at W
    unfold f_X2_worthy
    rw [W]; rfl
  · dsimp only [f_X2_worthy_b5]
    simp (maxSteps := 3000000) (disch := omega) only [Option.bind_some, tc_bs, tq_let, tc_I1, tc_I2, tc_J1, tc_J2, tc_J3, tc_F1, tc_F2, tc_F3, tc_F4, tc_G1, tc_G2, tc_G3, tc_G4, tc_G5, tc_us, tc_un, s_one, s_holds, s_J13_bitCount, bz_bI, hS.f, hPs.is, hTr.is, s_X3_count hTr hL, rg_in _ (show i < 60 by omega) (show 60 < 2 ^ 31 by decide), hv i hi, hco, hnu, s_X0_agrees, nI_1, oneI_in (show i < 2 ^ 31 by omega), mkS_b1, mkS_or]
    rw [if_neg (show ¬ nI i ≥ nI D.n from nI_ge hi (by omega))]
    have hnx : ∀ bb, D.cq P Q x i = bb → mkS (fun l => decide (l < i + 1) && D.cq P Q x l) = mkS (fun l => (decide (l < i) && D.cq P Q x l) || (bb && decide (l = i))) := by
      intro bb hbb
      apply mkS_cong
      intro l _
      by_cases e : l = i
      · subst e; simp [hbb]
      · simp [e, show (l < i + 1) ↔ l < i by omega]
    by_cases h1 : D.val Q i = -1
    · rw [if_pos h1, Option.bind_some, hnx false (by rw [hcq, h1]; rfl)]; simp
    · rw [if_neg h1]
      cases h2 : agr (D.val Q i) (nI (P.cm x)) (nI (P.cn x)) with
      | false => rw [if_pos (by decide), Option.bind_some, hnx false (by rw [hcq, h2]; simp)]; simp
      | true => rw [if_neg (by decide), Option.bind_some, hnx true (by rw [hcq, h2]; simp [h1])]; simp
  · dsimp only [f_X2_worthy_b5]
    simp (maxSteps := 3000000) (disch := omega) only [Option.bind_some, tc_bs, tq_let, tc_I1, tc_I2, tc_J1, tc_J2, tc_J3, tc_F1, tc_F2, tc_F3, tc_F4, tc_G1, tc_G2, tc_G3, tc_G4, tc_G5, tc_us, tc_un, s_one, s_holds, s_J13_bitCount, bz_bI, hS.f, hTr.is, s_X3_count hTr hL]
    rw [if_pos (Int32.le_refl _)]
theorem any_and (T' : Nat → Bool) (U : Nat → Bool) {z : Int64} {n : Nat} (hn : n ≤ 64) (hT : ∀ j, T' j = true → j < n) (hz : ∀ j, j < n → tb z j = U j) : (lg_cmp (mkS T' &&& z) 0 = 0) ↔ anyB (fun l => T' l && U l) n = false := by
  rw [lg_cmp_0, tb_zero]
  constructor
  · intro h
    cases e : anyB (fun l => T' l && U l) n with
    | false => rfl
    | true =>
      obtain ⟨l, hl, h2⟩ := anyB_iff.mp e
      have := h l (by omega)
      rw [Bool.and_eq_true] at h2
      rw [tb_and, tb_mkS, hz l hl, h2.1, h2.2] at this
      simp at this; omega
  · intro h j hj
    cases e : tb (mkS T' &&& z) j with
    | false => rfl
    | true =>
      rw [tb_and, tb_mkS] at e
      simp only [Bool.and_eq_true, decide_eq_true_eq] at e
      have hj2 := hT j e.1.2
      have : anyB (fun l => T' l && U l) n = true := anyB_iff.mpr ⟨j, hj2, by rw [e.1.2, ← hz j hj2, e.2]; rfl⟩
      rw [h] at this; cases this
theorem s_siftByTruth (hS : tc_Fnd S b) (hb : 117 ≤ b) (hTr : tc_Tree S 1) (hPs : tc_Pth S 98) (hw : D.wf) (hL : Lay c 1 D) (hC : PC c 98 P) (hP : P.wf) (hp : p < P.n) (hk : k < P.sc p) (hd : d < P.cc (5 * p + k)) (hg : Lp c b D G) (back : Bool) (hwh : 2 ≤ P.cw (2 * (5 * p + k) + d)) (hTb : Tb c b D T p) (hTn : ∀ q i j, T q i j = true → j < D.n) (hGn : ∀ i j, G i j = true → j < D.n) {z : Int64} (hz : ∀ j, j < D.n → tb z j = D.cq P Q (2 * (5 * p + k) + d) j) :
    ∃ c', f_X2_siftByTruth b (nI (2 * (5 * p + k) + d)) z (tc_mk S c) = some (tc_mk S c') ∧ Lp c' b D (fun i => D.cnd P Q T back (2 * (5 * p + k) + d) (G i)) ∧ Kp (b + 4) (b + 5) c c' := by
  have hn := D.n_le hw
  have h20 := hP.1
  have hwo := s_X4_whatOf (S := S) (c := c) hPs hC hP hp hk hd
  have hot := s_X4_otherOf (S := S) (c := c) hPs hC hP hp hk hd hwh
  have hlt := (hP.2.2 p k hp hk).2.2.2.2 d hd
  have hco := hlt.2.1 hwh
  have hcw := hlt.1
  generalize 2 * (5 * p + k) + d = x at *
  have e2 : (nI (P.cw x) = 3) ↔ P.cw x = 3 := by rw [show (3 : Int32) = nI 3 from rfl, nI_eq (by omega) (by decide)]
  have due : (if P.cw x = 3 then (0 : Int32) else 1) = bI (decide (P.cw x ≠ 3)) := by by_cases e : P.cw x = 3 <;> simp [e, bI]
  let hit := fun i => anyB (fun l => T (P.co x) i l && D.cq P Q x l) D.n == decide (P.cw x ≠ 3)
  have W1 := tc_scan (B := f_X2_siftByTruth_b25 b (nI x) z (bI (decide (P.cw x ≠ 3))) (tc_mk S c)) D.n (fun i => mkS (fun l => decide (l < i) && hit l)) (e := mkS (fun l => decide (l < D.n) && hit l)) (by omega) (fun i hi => ?_) ?_
  · have e0 : mkS (fun l => decide (l < 0) && hit l) = 0 := by rw [mkS_0]; exact mkS_cong fun j _ => by simp
    rw [e0] at W1
    have W := tc_row (S := S) (c := c) (a := b + 4) (o := 0) (n := D.n) (B := f_X2_siftByTruth_b102 b (mkS (fun l => decide (l < D.n) && hit l))) (fun i => mkS (fun j => G i j && hit j)) (by omega) (fun i g hi hgi => ?_) (fun g => ?_)
    · obtain ⟨c1, w1, w2, -, w4⟩ := W
      refine ⟨c1, ?_, fun i hi => ?_, w4⟩
      · unfold f_X2_siftByTruth
        simp (maxSteps := 3000000) (disch := omega) only [Option.bind_some, tc_bs, tq_let, tc_I1, tc_I2, tc_J1, tc_J2, tc_J3, tc_F1, tc_F2, tc_F3, tc_F4, tc_G1, tc_G2, tc_G3, tc_G4, tc_G5, tc_us, tc_un, s_one, s_holds, s_J13_bitCount, bz_bI, hS.f, hPs.is, hwo, e2, due, W1]
        rw [w1]
      · have := w2 i hi
        rw [Nat.zero_add] at this
        rw [this]
        refine congrArg mkS (funext fun j => ?_)
        show _ = D.cnd P Q T back x (G i) j
        unfold Doc.cnd
        rw [if_neg (show ¬ P.cw x = 0 by omega), if_neg (show ¬ P.cw x = 1 by omega)]
    · have kk := Kp.J (c := c) (a := b + 4) (lo := b + 4) (hi := b + 5) g (by omega) (by omega)
      have hL' := hL.kp kk (by omega)
      have hgi2 : g i = mkS (G i) := by rw [hgi i (by omega)]; exact hg i hi
      dsimp only [f_X2_siftByTruth_b102]
      simp (maxSteps := 3000000) (disch := omega) only [Option.bind_some, tc_bs, tq_let, tc_I1, tc_I2, tc_J1, tc_J2, tc_J3, tc_F1, tc_F2, tc_F3, tc_F4, tc_G1, tc_G2, tc_G3, tc_G4, tc_G5, tc_us, tc_un, s_one, s_holds, s_J13_bitCount, bz_bI, hS.f, hTr.is, s_X3_count hTr hL', sg_in _ (show i < 60 by omega) (show 60 < 2 ^ 31 by decide), hgi2, mkS_and, nI_1]
      rw [if_neg (show ¬ nI i ≥ nI D.n from nI_ge hi (by omega)), tc_J_J, Nat.zero_add, ss_in _ _ (show i < 60 by omega) (by decide)]
      congr 6
      apply mkS_cong
      intro j _
      cases e : G i j with
      | false => rfl
      | true => simp [hGn i j e]
    · have hL' := hL.kp (Kp.J (c := c) (a := b + 4) (lo := b + 4) (hi := b + 5) g (by omega) (by omega)) (by omega)
      dsimp only [f_X2_siftByTruth_b102]
      simp (maxSteps := 3000000) (disch := omega) only [Option.bind_some, tc_bs, tq_let, tc_I1, tc_I2, tc_J1, tc_J2, tc_J3, tc_F1, tc_F2, tc_F3, tc_F4, tc_G1, tc_G2, tc_G3, tc_G4, tc_G5, tc_us, tc_un, s_one, s_holds, s_J13_bitCount, bz_bI, hS.f, hTr.is, s_X3_count hTr hL']
      rw [if_pos (Int32.le_refl _)]
  · have hTi := hTb (P.co x) i hco hi
    have e60 : nI (P.co x) * 60 = nI (60 * P.co x) := by rw [show (60 : Int32) = nI 60 from rfl, nI_mul, Nat.mul_comm]
    dsimp only [f_X2_siftByTruth_b25]
    simp (maxSteps := 3000000) (disch := omega) only [Option.bind_some, tc_bs, tq_let, tc_I1, tc_I2, tc_J1, tc_J2, tc_J3, tc_F1, tc_F2, tc_F3, tc_F4, tc_G1, tc_G2, tc_G3, tc_G4, tc_G5, tc_us, tc_un, s_one, s_holds, s_J13_bitCount, bz_bI, hS.f, hPs.is, hTr.is, s_X3_count hTr hL, hot, e60, nI_add, sg_in _ (show 60 * P.co x + i < 1200 by omega) (show 1200 < 2 ^ 31 by decide), hTi, nI_1, oneI_in (show i < 2 ^ 31 by omega), mkS_b1]
    rw [if_neg (show ¬ nI i ≥ nI D.n from nI_ge hi (by omega))]
    have ha := any_and (T (P.co x) i) (D.cq P Q x) (show D.n ≤ 64 by omega) (fun j hj => hTn _ i j hj) hz
    have e3 : (if lg_cmp (mkS (T (P.co x) i) &&& z) 0 = 0 then (0 : Int32) else 1) = bI (anyB (fun l => T (P.co x) i l && D.cq P Q x l) D.n) := by
      by_cases e : lg_cmp (mkS (T (P.co x) i) &&& z) 0 = 0
      · rw [if_pos e, ha.mp e]; rfl
      · rw [if_neg e]
        cases q : anyB (fun l => T (P.co x) i l && D.cq P Q x l) D.n with
        | false => exact absurd (ha.mpr q) e
        | true => rfl
    have e4 : ∀ u v : Bool, (bI u = bI v) ↔ (u == v) = true := by decide
    rw [e3]
    by_cases e : (anyB (fun l => T (P.co x) i l && D.cq P Q x l) D.n == decide (P.cw x ≠ 3)) = true
    · rw [if_pos ((e4 _ _).mpr e), Option.bind_some, mkS_or]
      refine congrArg (fun y => some (Sum.inl (y, nI (i + 1)))) (mkS_cong fun l _ => ?_)
      by_cases q : l = i
      · subst q
        have e5 : hit l = true := e
        rw [e5]; simp
      · simp [q, show (l < i + 1) ↔ l < i by omega]
    · rw [if_neg (fun w => e ((e4 _ _).mp w)), Option.bind_some, mkS_0, mkS_or]
      refine congrArg (fun y => some (Sum.inl (y, nI (i + 1)))) (mkS_cong fun l _ => ?_)
      by_cases q : l = i
      · subst q
        have e5 : hit l = false := Bool.eq_false_iff.mpr e
        rw [e5]; simp
      · simp [show (l < i + 1) ↔ l < i by omega]
  · dsimp only [f_X2_siftByTruth_b25]
    simp (maxSteps := 3000000) (disch := omega) only [Option.bind_some, tc_bs, tq_let, tc_I1, tc_I2, tc_J1, tc_J2, tc_J3, tc_F1, tc_F2, tc_F3, tc_F4, tc_G1, tc_G2, tc_G3, tc_G4, tc_G5, tc_us, tc_un, s_one, s_holds, s_J13_bitCount, bz_bI, hS.f, hTr.is, s_X3_count hTr hL]
    rw [if_pos (Int32.le_refl _)]
end FC
