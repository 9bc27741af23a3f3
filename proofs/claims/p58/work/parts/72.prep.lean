/-! ===== the class finds: all paths up to one ===== -/
/-- a finder's tables hold what the paths below r find among Q -/
def FT (c : tc_C) (b : Nat) (D : Doc) (P : Pat) (Q : Nat → Bool) (r : Nat) : Prop := FW c b D P Q ∧ c.2.2.1 b 7 = nI r ∧ Tb c b D (D.fnd P Q) r
section FA
variable {S : tq_H} {c c' : tc_C} {b p k d m r : Nat} {D : Doc} {P : Pat} {Q : Nat → Bool}
theorem prep_one (hS : tc_Fnd S b) (hb : 117 ≤ b) (hTr : tc_Tree S 1) (hPs : tc_Pth S 98) (hw : D.wf) (hF : FW c b D P Q) (hP : P.wf) (hQ : ∀ j, Q j = true → j < D.n) (hp : p < P.n) (hTb : Tb c b D (D.fnd P Q) p) (w : Int32) :
    ∃ c1 c2, tq_loop (f_X2_prepare_b12 b w (nI p)) tq_N (0, tc_mk S c) = some (tc_mk S c1) ∧ tq_loop (f_X2_prepare_b53 b w (nI p)) tq_N (0, tc_mk S c1) = some (tc_mk S c2) ∧ Kp (b + 2) (b + 5) c c2 ∧ Tb c2 b D (D.fnd P Q) (p + 1) := by
  have hn := D.n_le hw
  have h20 := hP.1
  have h5 := hP.2.1 p hp
  have e60 : nI p * 60 = nI (60 * p) := by rw [show (60 : Int32) = nI 60 from rfl, nI_mul, Nat.mul_comm]
  obtain ⟨c1, w1, w2, w3, w4⟩ := tc_row (S := S) (c := c) (a := b + 2) (o := 60 * p) (n := D.n) (B := f_X2_prepare_b12 b w (nI p)) (fun i => mkS (D.fr P Q (D.fnd P Q) p i 0)) (by omega) (fun i g hi hgi => by
    have kk := Kp.J (c := c) (a := b + 2) (lo := b + 2) (hi := b + 3) g (by omega) (by omega)
    have hF' := hF.kp hb kk (by omega) (by omega)
    have hl : ¬ nI i ≥ nI D.n := nI_ge hi (by omega)
    dsimp only [f_X2_prepare_b12]
    simp (maxSteps := 3000000) (disch := omega) only [Option.bind_some, tc_bs, tq_let, tc_I1, tc_I2, tc_J1, tc_J2, tc_J3, tc_F1, tc_F2, tc_F3, tc_F4, tc_G1, tc_G2, tc_G3, tc_G4, tc_G5, tc_us, tc_un, s_one, s_holds, s_J13_bitCount, bz_bI, ↓reduceIte, hS.f, hTr.is, s_X3_count hTr hF'.1, hl, e60, nI_add, hF.2.2.1, oneI_in (show i < 2 ^ 31 by omega), mkS_b1, mkS_and, nI_1]
    rw [tc_J_J, ss_in _ _ (show 60 * p + i < 1200 by omega) (by decide)]
    rfl) (fun g => by
    have kk := Kp.J (c := c) (a := b + 2) (lo := b + 2) (hi := b + 3) g (by omega) (by omega)
    have hF' := hF.kp hb kk (by omega) (by omega)
    dsimp only [f_X2_prepare_b12]
    simp (maxSteps := 3000000) (disch := omega) only [Option.bind_some, tc_bs, tq_let, tc_I1, tc_I2, tc_J1, tc_J2, tc_J3, tc_F1, tc_F2, tc_F3, tc_F4, tc_G1, tc_G2, tc_G3, tc_G4, tc_G5, tc_us, tc_un, s_one, s_holds, s_J13_bitCount, bz_bI, hS.f, hTr.is, s_X3_count hTr hF'.1]
    rw [if_pos (Int32.le_refl _)])
  have hF1 := hF.kp hb w4 (by omega) (by omega)
  have hT1 : Tb c1 b D (D.fnd P Q) p := fun q i hq hi => by rw [w3 _ (by omega)]; exact hTb q i hq hi
  obtain ⟨c2, v1, v2, v3, v4⟩ := tc_run (B := f_X2_prepare_b53 b w (nI p)) (P.sc p) (fun k x => (nI k, tc_mk S x)) (fun k x => Kp (b + 2) (b + 5) c1 x ∧ Tb x b D (D.fnd P Q) p ∧ ∀ i, i < D.n → x.2.1 (b + 2) (60 * p + i) = mkS (D.fr P Q (D.fnd P Q) p i k)) (fun x => tc_mk S x) (by omega) (fun k x hk hx => by
    obtain ⟨x1, x2, x3⟩ := hx
    have hFx := hF1.kp hb x1 (by omega) (by omega)
    obtain ⟨y, y1, y2, y3, y4⟩ := s_takeStep (G := fun i => D.fr P Q (D.fnd P Q) p i k) hS hb hTr hPs hw hFx hP hp hk x2 (fun q i j h => (Doc.fnd_in hQ h).1) x3 (fun i j h => (Doc.fr_in hQ h).1)
    refine ⟨y, ?_, x1.trans y2, y3, y4⟩
    have hl : ¬ nI k ≥ nI (P.sc p) := nI_ge hk (by omega)
    have his : tq_is (tc_mk S x) b 2 = some () := tc_is hS.1
    dsimp only [f_X2_prepare_b53]
    simp (maxSteps := 3000000) (disch := omega) only [Option.bind_some, tc_bs, tq_let, tc_I1, tc_I2, tc_J1, tc_J2, tc_J3, tc_F1, tc_F2, tc_F3, tc_F4, tc_G1, tc_G2, tc_G3, tc_G4, tc_G5, tc_us, tc_un, s_one, s_holds, s_J13_bitCount, bz_bI, ↓reduceIte, hS.f, hPs.is, s_X4_stepsOf hPs hFx.2.1 hP hp, hl, s_X4_stepAt, y1, nI_1]) (fun x hx => by
    have hFx := hF1.kp hb hx.1 (by omega) (by omega)
    dsimp only [f_X2_prepare_b53]
    simp (maxSteps := 3000000) (disch := omega) only [Option.bind_some, tc_bs, tq_let, tc_I1, tc_I2, tc_J1, tc_J2, tc_J3, tc_F1, tc_F2, tc_F3, tc_F4, tc_G1, tc_G2, tc_G3, tc_G4, tc_G5, tc_us, tc_un, s_one, s_holds, s_J13_bitCount, bz_bI, hS.f, hPs.is, s_X4_stepsOf hPs hFx.2.1 hP hp]
    rw [if_pos (Int32.le_refl _)]) (x := c1) ⟨Kp.refl _ _ _, hT1, w2⟩
  refine ⟨c1, c2, w1, v1, (w4.mono (by omega) (by omega)).trans v2, fun q i hq hi => ?_⟩
  by_cases e : q = p
  · subst e
    rw [v4 i hi, Doc.fnd_fr hP hp]
  · exact v3 q i (by omega) hi
theorem s_X2_prepare (hS : tc_Fnd S b) (hb : 117 ≤ b) (hTr : tc_Tree S 1) (hPs : tc_Pth S 98) (hw : D.wf) (hF : FT c b D P Q r) (hr : r ≤ P.n) (hP : P.wf) (hQ : ∀ j, Q j = true → j < D.n) (hp : p < P.n) :
    ∃ c', f_X2_prepare b (nI p) (tc_mk S c) = some (tc_mk S c') ∧ FT c' b D P Q (max r (p + 1)) ∧ Kp b (b + 5) c c' := by
  obtain ⟨f1, f2, f3⟩ := hF
  have h20 := hP.1
  obtain ⟨c2, v1, v2, v3, v4⟩ := tc_run (B := f_X2_prepare_b5 b (nI p)) (p + 1 - r) (fun k x => (nI (r + k), tc_mk S x)) (fun k x => Kp (b + 2) (b + 5) c x ∧ Tb x b D (D.fnd P Q) (r + k) ∧ True) (fun x => tc_mk S x) (by omega) (fun k x hk hx => by
    obtain ⟨x1, x2, -⟩ := hx
    obtain ⟨y1, y2, z1, z2, z3, z4⟩ := prep_one hS hb hTr hPs hw (f1.kp hb x1 (by omega) (by omega)) hP hQ (show r + k < P.n by omega) x2 (nI p)
    refine ⟨y2, ?_, x1.trans z3, z4, trivial⟩
    dsimp only [f_X2_prepare_b5]
    rw [if_neg (show ¬ nI (r + k) > nI p from nI_nlt (by omega) (by omega)), z1, Option.bind_some, z2, Option.bind_some]
    simp only [tq_let, nI_1]
    rfl) (fun x hx => by
    dsimp only [f_X2_prepare_b5]
    rw [if_pos (show nI (r + (p + 1 - r)) > nI p from nI_lt (by omega) (by omega))]) (x := c) ⟨Kp.refl _ _ _, f3, trivial⟩
  have e7 : c2.2.2.1 b 7 = nI r := by rw [v2.2.2.1 b (by omega)]; exact f2
  have em : (if nI r < nI p + 1 then nI p + 1 else nI r) = nI (max r (p + 1)) := by
    rw [nI_1]
    by_cases h : r < p + 1
    · rw [if_pos (nI_lt h (by omega)), Nat.max_eq_right (by omega)]
    · rw [if_neg (nI_nlt (by omega) (by omega)), Nat.max_eq_left (by omega)]
  have hF2 := f1.kp hb v2 (by omega) (by omega)
  refine ⟨tc_F c2 b 7 (nI (max r (p + 1))), ?_, ⟨?_, ?_, ?_⟩, ?_⟩
  · unfold f_X2_prepare
    simp (maxSteps := 3000000) (disch := omega) only [Option.bind_some, tc_bs, tq_let, tc_I1, tc_I2, tc_J1, tc_J2, tc_J3, tc_F1, tc_F2, tc_F3, tc_F4, tc_G1, tc_G2, tc_G3, tc_G4, tc_G5, tc_us, tc_un, s_one, s_holds, s_J13_bitCount, bz_bI, hS.f, f2]
    rw [show ((nI r, tc_mk S c) : Int32 × tq_H) = (nI (r + 0), tc_mk S c) from rfl, v1, Option.bind_some]
    simp (maxSteps := 3000000) (disch := omega) only [Option.bind_some, tc_bs, tq_let, tc_I1, tc_I2, tc_J1, tc_J2, tc_J3, tc_F1, tc_F2, tc_F3, tc_F4, tc_G1, tc_G2, tc_G3, tc_G4, tc_G5, tc_us, tc_un, s_one, s_holds, s_J13_bitCount, bz_bI, hS.f, e7]
    rw [em]
  · obtain ⟨g1, g2, g3, g4⟩ := hF2
    refine ⟨g1.kp (Kp.F (lo := b) (hi := b + 1) _ (Nat.le_refl _) (Nat.lt_succ_self _)) (by omega), g2.kp (Kp.F (lo := b) (hi := b + 1) _ (Nat.le_refl _) (Nat.lt_succ_self _)) (by omega), g3, g4⟩
  · rw [tc_F3, tc_us, tc_us]
  · intro q i hq hi
    exact v3 q i (by omega) hi
  · exact (v2.mono (by omega) (by omega)).trans (Kp.F _ (Nat.le_refl _) (by omega))
theorem s_X2_foundFrom (hS : tc_Fnd S b) (hw : D.wf) (hF : FT c b D P Q r) (hp : p < r) (hr : r ≤ 20) {i : Nat} (hi : i < D.n) : f_X2_foundFrom b (nI p) (nI i) (tc_mk S c) = some (mkS (D.fnd P Q p i)) := by
  have hn := D.n_le hw
  have e60 : nI p * 60 = nI (60 * p) := by rw [show (60 : Int32) = nI 60 from rfl, nI_mul, Nat.mul_comm]
  simp (maxSteps := 3000000) (disch := omega) only [Option.bind_some, tc_bs, tq_let, tc_I1, tc_I2, tc_J1, tc_J2, tc_J3, tc_F1, tc_F2, tc_F3, tc_F4, tc_G1, tc_G2, tc_G3, tc_G4, tc_G5, tc_us, tc_un, s_one, s_holds, s_J13_bitCount, bz_bI, f_X2_foundFrom, hS.f, e60, nI_add, sg_in _ (show 60 * p + i < 1200 by omega) (show 1200 < 2 ^ 31 by decide)]
  rw [hF.2.2 p i hp hi]
theorem s_X2_sees (hS : tc_Fnd S b) (hw : D.wf) (hF : FW c b D P Q) {i : Nat} (hi : i < D.n) : f_X2_sees b (nI i) (tc_mk S c) = some (bI (Q i)) := by
  have hn := D.n_le hw
  simp (maxSteps := 3000000) (disch := omega) only [Option.bind_some, tc_bs, tq_let, tc_I1, tc_I2, tc_J1, tc_J2, tc_J3, tc_F1, tc_F2, tc_F3, tc_F4, tc_G1, tc_G2, tc_G3, tc_G4, tc_G5, tc_us, tc_un, s_one, s_holds, s_J13_bitCount, bz_bI, f_X2_sees, hS.f, hF.2.2.1, hasI_mkS Q (show i < 64 by omega)]
theorem s_X2_dropFrom (hS : tc_Fnd S b) {x : Nat} (hx : c.2.2.1 b 7 = nI x) (hx2 : x < 100) (hp : p < 100) : f_X2_dropFrom b (nI p) (tc_mk S c) = some (tc_mk S (tc_F c b 7 (nI (min x p)))) := by
  have em : (if nI p < nI x then nI p else nI x) = nI (min x p) := by
    by_cases h : p < x
    · rw [if_pos (nI_lt h (by omega)), Nat.min_eq_right (by omega)]
    · rw [if_neg (nI_nlt (by omega) (by omega)), Nat.min_eq_left (by omega)]
  simp (maxSteps := 3000000) (disch := omega) only [Option.bind_some, tc_bs, tq_let, tc_I1, tc_I2, tc_J1, tc_J2, tc_J3, tc_F1, tc_F2, tc_F3, tc_F4, tc_G1, tc_G2, tc_G3, tc_G4, tc_G5, tc_us, tc_un, s_one, s_holds, s_J13_bitCount, bz_bI, f_X2_dropFrom, hS.f, hx]
  rw [em]
theorem s_X2_start (hS : tc_Fnd S b) (hb : 117 ≤ b) (hTr : tc_Tree S 1) (hw : D.wf) (hL : Lay c 1 D) (hN : Nod c 1 D m) (hC : PC c 98 P) (Q : Nat → Bool) :
    ∃ c', f_X2_start b (mkS Q) (tc_mk S c) = some (tc_mk S c') ∧ FT c' b D P Q 0 ∧ Kp b (b + 7) c c' := by
  have hn := D.n_le hw
  let c0 := tc_F (tc_G c b 6 (mkS Q)) b 7 (nI 0)
  have k0 : Kp b (b + 1) c c0 := (Kp.G (c := c) (lo := b) (hi := b + 1) (mkS Q) (Nat.le_refl _) (Nat.lt_succ_self _)).trans (Kp.F _ (Nat.le_refl _) (Nat.lt_succ_self _))
  have hL0 := hL.kp k0 (by omega)
  have hN0 := hN.kp k0 (by omega)
  have W := tc_run (B := f_X2_start_b12 b) D.n (fun i x => (nI i, tc_mk S (tc_I c0 (b + 6) x))) (fun i x => ∀ j, j < i → x j = D.val Q j) (fun x => tc_mk S (tc_I c0 (b + 6) x)) (by omega) (fun i x hi hx => by
    have kk := Kp.I (c := c0) (a := b + 6) (lo := b + 6) (hi := b + 7) x (by omega) (by omega)
    have hL' := hL0.kp kk (by omega)
    have hN' := hN0.kp kk (by omega)
    have hl : ¬ nI i ≥ nI D.n := nI_ge hi (by omega)
    have h6 : c0.2.2.2.1 b 6 = mkS Q := by
      show (tc_G c b 6 (mkS Q)).2.2.2.1 b 6 = mkS Q
      rw [tc_G4, tc_us, tc_us]
    have ht : tq_is (tc_mk S (tc_I c0 (b + 6) x)) 1 8 = some () := tc_is hTr.1
    refine ⟨rs 60 x (nI i) (D.val Q i), ?_, fun j hj => ?_⟩
    · dsimp only [f_X2_start_b12]
      simp (maxSteps := 3000000) (disch := omega) only [Option.bind_some, tc_bs, tq_let, tc_I1, tc_I2, tc_J1, tc_J2, tc_J3, tc_F1, tc_F2, tc_F3, tc_F4, tc_G1, tc_G2, tc_G3, tc_G4, tc_G5, tc_us, tc_un, s_one, s_holds, s_J13_bitCount, bz_bI, ↓reduceIte, hS.f, hTr.is, s_X3_count hTr hL', hl, h6, ht, s_X8_valueAt hTr hw hL' hN' Q hi, nI_1]
      rw [tc_I_I]
    · rw [rs_at _ _ (show i < 60 by omega) (by decide)]
      by_cases e : j = i
      · rw [if_pos e, e]
      · rw [if_neg e]; exact hx j (by omega)) (fun x hx => by
    have kk := Kp.I (c := c0) (a := b + 6) (lo := b + 6) (hi := b + 7) x (by omega) (by omega)
    have hL' := hL0.kp kk (by omega)
    dsimp only [f_X2_start_b12]
    simp (maxSteps := 3000000) (disch := omega) only [Option.bind_some, tc_bs, tq_let, tc_I1, tc_I2, tc_J1, tc_J2, tc_J3, tc_F1, tc_F2, tc_F3, tc_F4, tc_G1, tc_G2, tc_G3, tc_G4, tc_G5, tc_us, tc_un, s_one, s_holds, s_J13_bitCount, bz_bI, hS.f, hTr.is, s_X3_count hTr hL']
    rw [if_pos (Int32.le_refl _)]) (x := c0.1 (b + 6)) (fun j hj => by omega)
  obtain ⟨x, w1, w2⟩ := W
  rw [tc_I_self] at w1
  have kk := Kp.I (c := c0) (a := b + 6) (lo := b + 6) (hi := b + 7) x (by omega) (by omega)
  refine ⟨tc_I c0 (b + 6) x, ?_, ⟨⟨hL0.kp kk (by omega), (hC.kp k0 (by omega)).kp kk (by omega), ?_, fun i hi => ?_⟩, ?_, fun q i hq hi => by omega⟩, (k0.mono (by omega) (by omega)).trans (kk.mono (by omega) (by omega))⟩
  · unfold f_X2_start
    simp (maxSteps := 3000000) (disch := omega) only [Option.bind_some, tc_bs, tq_let, tc_I1, tc_I2, tc_J1, tc_J2, tc_J3, tc_F1, tc_F2, tc_F3, tc_F4, tc_G1, tc_G2, tc_G3, tc_G4, tc_G5, tc_us, tc_un, s_one, s_holds, s_J13_bitCount, bz_bI, hS.f]
    rw [show ((0, tc_mk S (tc_F (tc_G c b 6 (mkS Q)) b 7 0)) : Int32 × tq_H) = (nI 0, tc_mk S c0) from rfl, w1]
  · show (tc_G c b 6 (mkS Q)).2.2.2.1 b 6 = mkS Q
    rw [tc_G4, tc_us, tc_us]
  · rw [tc_I1, tc_us]; exact w2 i hi
  · show (tc_F (tc_G c b 6 (mkS Q)) b 7 (nI 0)).2.2.1 b 7 = nI 0
    rw [tc_F3, tc_us, tc_us]
end FA
