/-! ===== numbers anew ===== -/
def Doc.sol (D : Doc) (k : Nat) : Bool := decide (D.kd k ≠ 2)
/-- the numbers once the spots below i have theirs -/
def Doc.numF (D : Doc) (f : Nat → Int32) : Nat → Nat → Int32
  | 0 => f
  | i + 1 => if D.kd i = 2 then D.numF f i else upd (D.numF f i) (D.ord i) (nI (16 * fb_ct D.sol (i + 1)))
section NUM
variable {S : tq_H} {c : tc_C} {b i : Nat} {D : Doc}
theorem Doc.numF_at (hw : D.wf) (f : Nat → Int32) {j : Nat} (hj : j < D.n) : ∀ i, i ≤ D.n → D.numF f i (D.ord j) = if j < i ∧ D.kd j ≠ 2 then nI (16 * fb_ct D.sol (j + 1)) else f (D.ord j)
  | 0, _ => by simp [Doc.numF]
  | i + 1, h => by
    have ih := Doc.numF_at hw f hj i (by omega)
    unfold Doc.numF
    by_cases k : D.kd i = 2
    · rw [if_pos k, ih]
      by_cases e : j = i
      · subst e; simp [k]
      · simp [show (j < i + 1) ↔ j < i by omega]
    · rw [if_neg k]
      by_cases e : j = i
      · subst e
        simp [upd, k]
      · have : D.ord j ≠ D.ord i := fun z => e (D.ord_inj hw hj (by omega) z)
        simp only [upd, this, if_false, ih]
        simp [show (j < i + 1) ↔ j < i by omega]
theorem Doc.numF_off (f : Nat → Int32) {v : Nat} (hv : ∀ j, j < D.n → D.ord j ≠ v) : ∀ i, i ≤ D.n → D.numF f i v = f v
  | 0, _ => rfl
  | i + 1, h => by
    unfold Doc.numF
    split
    · exact Doc.numF_off f hv i (by omega)
    · have := hv i (by omega)
      simp only [upd, Ne.symm this, if_false]
      exact Doc.numF_off f hv i (by omega)
theorem s_X8_numberAnew (hT : tc_Tree S b) (hw : D.wf) (hL : Lay c b D) : f_X8_numberAnew b (tc_mk S c) = some (tc_mk S (tc_I c (b + 33) (D.numF (c.1 (b + 33)) D.n))) := by
  have hn := D.n_le hw
  have hL' : ∀ g, Lay (tc_I c (b + 33) g) b D := fun g => by
    unfold Lay
    simp (maxSteps := 3000000) (disch := omega) only [Option.bind_some, tc_bs, tq_let, tc_I1, tc_I2, tc_J1, tc_J2, tc_J3, tc_F1, tc_F2, tc_F3, tc_F4, tc_G1, tc_G2, tc_G3, tc_G4, tc_G5, tc_us, tc_un, s_one, s_holds, s_J13_bitCount, bz_bI, tc_I1]
    exact hL
  have W := tc_iter (B := f_X8_numberAnew_b4 b) D.n (fun i => (nI (16 * fb_ct D.sol i), nI i, tc_mk S (tc_I c (b + 33) (D.numF (c.1 (b + 33)) i)))) (e := tc_mk S (tc_I c (b + 33) (D.numF (c.1 (b + 33)) D.n))) (fun i hi => ?_) ?_ (by unfold tq_N; omega)
  · simp (maxSteps := 3000000) (disch := omega) only [Option.bind_some, tc_bs, tq_let, tc_I1, tc_I2, tc_J1, tc_J2, tc_J3, tc_F1, tc_F2, tc_F3, tc_F4, tc_G1, tc_G2, tc_G3, tc_G4, tc_G5, tc_us, tc_un, s_one, s_holds, s_J13_bitCount, bz_bI, f_X8_numberAnew]
    have e0 : tc_I c (b + 33) (D.numF (c.1 (b + 33)) 0) = c := tc_I_self c (b + 33)
    simp only [e0] at W
    exact W
  · have ho := D.ord_lt hw hi
    have hc := fb_ct_le D.sol i
    show Option.bind (tq_gr (tc_mk S _) b 8 0) _ = _
    simp (maxSteps := 3000000) (disch := omega) only [Option.bind_some, tc_bs, tq_let, tc_I1, tc_I2, tc_J1, tc_J2, tc_J3, tc_F1, tc_F2, tc_F3, tc_F4, tc_G1, tc_G2, tc_G3, tc_G4, tc_G5, tc_us, tc_un, s_one, s_holds, s_J13_bitCount, bz_bI, hT.f, s_X3_count hT (hL' _), s_X3_solids hT hw (hL' _), s_X3_nodeAt hT hw (hL' _) hi, hasI_mkS _ (show i < 64 by omega), nI_1]
    rw [if_neg (show ¬ nI i ≥ nI D.n from nI_ge hi (by omega))]
    by_cases k : D.kd i = 2
    · have hb : bI (decide (i < D.n ∧ D.kd i ≠ 2)) = 0 := by simp [k, bI]
      rw [if_pos hb, Option.bind_some]
      have h1 : fb_ct D.sol (i + 1) = fb_ct D.sol i := by rw [fb_ct_succ]; simp [Doc.sol, k]
      have h2 : D.numF (c.1 (b + 33)) (i + 1) = D.numF (c.1 (b + 33)) i := if_pos k
      rw [h1, h2]
    · have hb : ¬ bI (decide (i < D.n ∧ D.kd i ≠ 2)) = 0 := by simp [k, hi, bI]
      rw [if_neg hb]
      have h1 : fb_ct D.sol (i + 1) = fb_ct D.sol i + 1 := by rw [fb_ct_succ]; simp [Doc.sol, k]
      have h2 : D.numF (c.1 (b + 33)) (i + 1) = upd (D.numF (c.1 (b + 33)) i) (D.ord i) (nI (16 * fb_ct D.sol (i + 1))) := if_neg k
      have h3 : nI (16 * fb_ct D.sol i) + 16 = nI (16 * fb_ct D.sol (i + 1)) := by
        rw [h1, show (16 : Int32) = nI 16 from rfl, nI_add]; rfl
      simp (maxSteps := 3000000) (disch := omega) only [Option.bind_some, tc_bs, tq_let, tc_I1, tc_I2, tc_J1, tc_J2, tc_J3, tc_F1, tc_F2, tc_F3, tc_F4, tc_G1, tc_G2, tc_G3, tc_G4, tc_G5, tc_us, tc_un, s_one, s_holds, s_J13_bitCount, bz_bI, hT.f]
      rw [h3, h2, tc_I_I, rs_in _ _ ho (by decide)]
  · show Option.bind (tq_gr (tc_mk S _) b 8 0) _ = _
    simp (maxSteps := 3000000) (disch := omega) only [Option.bind_some, tc_bs, tq_let, tc_I1, tc_I2, tc_J1, tc_J2, tc_J3, tc_F1, tc_F2, tc_F3, tc_F4, tc_G1, tc_G2, tc_G3, tc_G4, tc_G5, tc_us, tc_un, s_one, s_holds, s_J13_bitCount, bz_bI, hT.f, s_X3_count hT (hL' _)]
    rw [if_pos (Int32.le_refl _)]
end NUM
