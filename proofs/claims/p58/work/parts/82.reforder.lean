/-! ===== ordered by values; how many values: the reference ===== -/
section ORR
variable {S : tq_H} {c c' : tc_C} {b p k d m r z : Nat} {D : Doc} {P : Pat} {Q X : Nat → Bool}
theorem ahead_loop (hM : tc_Mod S z) (hw : D.wf) (hW : RW c D m P Q) (hX : ∀ j, X j = true → j < D.n) {i : Nat} (hi : i < D.n) (w1 w2 : Int32) :
    tq_loop (f_X11_ordered_b72 155 w1 (mkS (D.nodesOf X)) w2 (nI i) (D.val Q i) (tc_mk S c)) tq_N (0, 0) = some (nI (D.oa Q X i)) := by
  have hn := D.n_le hw
  have hgn : tq_gi (tc_mk S c) 155 11 11 = some (nI D.n) := by simp (maxSteps := 3000000) (disch := omega) only [Option.bind_some, tc_bs, tq_let, tc_I1, tc_I2, tc_J1, tc_J2, tc_J3, tc_F1, tc_F2, tc_F3, tc_F4, tc_G1, tc_G2, tc_G3, tc_G4, tc_G5, tc_us, tc_un, s_one, s_holds, s_J13_bitCount, bz_bI, hM.f, hW.2.1.1]
  have hg12 : tq_gr (tc_mk S c) 155 11 12 = some 164 := by simp (maxSteps := 3000000) (disch := omega) only [Option.bind_some, tc_bs, tq_let, tc_I1, tc_I2, tc_J1, tc_J2, tc_J3, tc_F1, tc_F2, tc_F3, tc_F4, tc_G1, tc_G2, tc_G3, tc_G4, tc_G5, tc_us, tc_un, s_one, s_holds, s_J13_bitCount, bz_bI, hM.f]
  have hgl : tq_gl (tc_mk S c) 155 11 31 = some (mkS (D.nodesOf Q)) := by simp (maxSteps := 3000000) (disch := omega) only [Option.bind_some, tc_bs, tq_let, tc_I1, tc_I2, tc_J1, tc_J2, tc_J3, tc_F1, tc_F2, tc_F3, tc_F4, tc_G1, tc_G2, tc_G3, tc_G4, tc_G5, tc_us, tc_un, s_one, s_holds, s_J13_bitCount, bz_bI, hM.f, hW.2.2.2]
  have his : tq_is (tc_mk S c) 155 11 = some () := by simp (maxSteps := 3000000) (disch := omega) only [Option.bind_some, tc_bs, tq_let, tc_I1, tc_I2, tc_J1, tc_J2, tc_J3, tc_F1, tc_F2, tc_F3, tc_F4, tc_G1, tc_G2, tc_G3, tc_G4, tc_G5, tc_us, tc_un, s_one, s_holds, s_J13_bitCount, bz_bI, hM.f]
  have e64 : D.oa Q X i = fb_ct (fun j => X j && D.lead Q i j) D.n := by
    refine ct_cut 64 (fun j hj => ?_) (by omega)
    cases h : X j with
    | false => rfl
    | true => have := hX j h; omega
  rw [e64]
  refine tc_scan (B := f_X11_ordered_b72 155 w1 (mkS (D.nodesOf X)) w2 (nI i) (D.val Q i) (tc_mk S c)) D.n (fun t => nI (fb_ct (fun j => X j && D.lead Q i j) t)) (by omega) (fun t ht => ?_) ?_
  · have ot := D.ord_lt hw ht
    have ho : tq_ai (tc_mk S c) 164 (nI t) = some (nI (D.ord t)) := by simp (maxSteps := 3000000) (disch := omega) only [Option.bind_some, tc_bs, tq_let, tc_I1, tc_I2, tc_J1, tc_J2, tc_J3, tc_F1, tc_F2, tc_F3, tc_F4, tc_G1, tc_G2, tc_G3, tc_G4, tc_G5, tc_us, tc_un, s_one, s_holds, s_J13_bitCount, bz_bI, hM.f, show t < 60 from by omega, hW.2.1.2.1 t ht]
    dsimp only [f_X11_ordered_b72]
    rw [hgn, Option.bind_some, if_neg (show ¬ nI t ≥ nI D.n from nI_ge ht (by omega))]
    simp only [hg12, ho, hgl, his, s_X11_valueOf hM hw hW.1 hW.2.1 ht Q, Option.bind_some, tq_let]
    rw [nodes_if hw _ _ _ ht, fb_ct_succ]
    have hge : (nI t ≥ nI i) ↔ i ≤ t := nI_leI (by omega) (by omega)
    have hlt := D.val_lt (Q := Q) hw ht hi
    have heq := D.val_eq (Q := Q) hw ht hi
    have hl : (if D.val Q t < D.val Q i then (1 : Int32) else if D.val Q t = D.val Q i then if nI t ≥ nI i then 0 else 1 else 0) = if D.lead Q i t = true then 1 else 0 := by
      unfold Doc.lead
      by_cases q : D.vN Q t < D.vN Q i
      · rw [if_pos (hlt.mpr q)]; simp [q]
      · rw [if_neg (fun w => q (hlt.mp w))]
        by_cases q2 : D.vN Q t = D.vN Q i
        · rw [if_pos (heq.mpr q2)]
          by_cases q3 : i ≤ t
          · rw [if_pos (hge.mpr q3)]; simp [q2, show ¬ t < i by omega]
          · rw [if_neg (fun w => q3 (hge.mp w))]; simp [q2, show t < i by omega]
        · rw [if_neg (fun w => q2 (heq.mp w))]; simp [q, q2]
    rw [hl]
    cases X t with
    | false => simp [nI_1]
    | true =>
      simp only [if_true, Bool.true_and]
      by_cases q : D.lead Q i t = true
      · rw [if_pos q, if_pos q, nI_1, nI_1]
      · rw [if_neg q, if_neg q, nI_1]; simp
  · dsimp only [f_X11_ordered_b72]
    rw [hgn, Option.bind_some, if_pos (Int32.le_refl _)]
theorem ordered_loop (hM : tc_Mod S z) (hw : D.wf) (hW : RW c D m P Q) (hX : ∀ j, X j = true → j < D.n) {i t : Nat} (ht : t < 64) (h1 : X i = true) (h2 : D.oa Q X i = t) :
    tq_loop (f_X11_ordered_b40 155 (nI t) (mkS (D.nodesOf X)) (tc_mk S c)) tq_N (0, 0) = some (nI (D.ord i)) := by
  have hn := D.n_le hw
  have hin := hX i h1
  have hgn : tq_gi (tc_mk S c) 155 11 11 = some (nI D.n) := by simp (maxSteps := 3000000) (disch := omega) only [Option.bind_some, tc_bs, tq_let, tc_I1, tc_I2, tc_J1, tc_J2, tc_J3, tc_F1, tc_F2, tc_F3, tc_F4, tc_G1, tc_G2, tc_G3, tc_G4, tc_G5, tc_us, tc_un, s_one, s_holds, s_J13_bitCount, bz_bI, hM.f, hW.2.1.1]
  have hg12 : tq_gr (tc_mk S c) 155 11 12 = some 164 := by simp (maxSteps := 3000000) (disch := omega) only [Option.bind_some, tc_bs, tq_let, tc_I1, tc_I2, tc_J1, tc_J2, tc_J3, tc_F1, tc_F2, tc_F3, tc_F4, tc_G1, tc_G2, tc_G3, tc_G4, tc_G5, tc_us, tc_un, s_one, s_holds, s_J13_bitCount, bz_bI, hM.f]
  have hgl : tq_gl (tc_mk S c) 155 11 31 = some (mkS (D.nodesOf Q)) := by simp (maxSteps := 3000000) (disch := omega) only [Option.bind_some, tc_bs, tq_let, tc_I1, tc_I2, tc_J1, tc_J2, tc_J3, tc_F1, tc_F2, tc_F3, tc_F4, tc_G1, tc_G2, tc_G3, tc_G4, tc_G5, tc_us, tc_un, s_one, s_holds, s_J13_bitCount, bz_bI, hM.f, hW.2.2.2]
  have his : tq_is (tc_mk S c) 155 11 = some () := by simp (maxSteps := 3000000) (disch := omega) only [Option.bind_some, tc_bs, tq_let, tc_I1, tc_I2, tc_J1, tc_J2, tc_J3, tc_F1, tc_F2, tc_F3, tc_F4, tc_G1, tc_G2, tc_G3, tc_G4, tc_G5, tc_us, tc_un, s_one, s_holds, s_J13_bitCount, bz_bI, hM.f]
  have hoa : ∀ j, D.oa Q X j ≤ 64 := fun j => fb_ct_le _ 64
  have W := tc_scan (B := f_X11_ordered_b40 155 (nI t) (mkS (D.nodesOf X)) (tc_mk S c)) D.n (fun l => if i < l then nI (D.ord i) else 0) (e := nI (D.ord i)) (by omega) (fun l hl => by
    have ol := D.ord_lt hw hl
    have ho : tq_ai (tc_mk S c) 164 (nI l) = some (nI (D.ord l)) := by simp (maxSteps := 3000000) (disch := omega) only [Option.bind_some, tc_bs, tq_let, tc_I1, tc_I2, tc_J1, tc_J2, tc_J3, tc_F1, tc_F2, tc_F3, tc_F4, tc_G1, tc_G2, tc_G3, tc_G4, tc_G5, tc_us, tc_un, s_one, s_holds, s_J13_bitCount, bz_bI, hM.f, show l < 60 from by omega, hW.2.1.2.1 l hl]
    dsimp only [f_X11_ordered_b40]
    rw [hgn, Option.bind_some, if_neg (show ¬ nI l ≥ nI D.n from nI_ge hl (by omega))]
    simp only [hg12, ho, hgl, his, s_X11_valueOf hM hw hW.1 hW.2.1 hl Q, ahead_loop hM hw hW hX hl, Option.bind_some, tq_let]
    rw [nodes_if hw _ _ _ hl]
    have hq : (nI (D.oa Q X l) = nI t) ↔ D.oa Q X l = t := nI_eq (by have := hoa l; omega) (by omega)
    by_cases e : X l = true
    · rw [if_pos e]
      by_cases q : D.oa Q X l = t
      · have : l = i := D.oa_inj hX (by omega) e h1 (q.trans h2.symm)
        subst this
        rw [if_pos (hq.mpr q), Option.bind_some, if_pos (by omega), nI_1]
      · have : l ≠ i := fun w => q (by rw [w]; exact h2)
        rw [if_neg (fun w => q (hq.mp w)), Option.bind_some, nI_1]
        simp only [show (i < l + 1) ↔ i < l by omega]
    · have : l ≠ i := fun w => e (by rw [w]; exact h1)
      rw [if_neg e, Option.bind_some, nI_1]
      simp only [show (i < l + 1) ↔ i < l by omega]) (by
    dsimp only [f_X11_ordered_b40]
    rw [hgn, Option.bind_some, if_pos (Int32.le_refl _), if_pos hin])
  rw [if_neg (by omega)] at W
  exact W
theorem groups_loop (hM : tc_Mod S z) (hw : D.wf) (hW : RW c D m P Q) :
    tq_loop (f_X11_groups_b34 155 (mkS (D.nodesOf X)) (tc_mk S c)) tq_N (0, 0) = some (nI (fb_ct (D.gr Q X) D.n)) := by
  have hn := D.n_le hw
  have hgn : tq_gi (tc_mk S c) 155 11 11 = some (nI D.n) := by simp (maxSteps := 3000000) (disch := omega) only [Option.bind_some, tc_bs, tq_let, tc_I1, tc_I2, tc_J1, tc_J2, tc_J3, tc_F1, tc_F2, tc_F3, tc_F4, tc_G1, tc_G2, tc_G3, tc_G4, tc_G5, tc_us, tc_un, s_one, s_holds, s_J13_bitCount, bz_bI, hM.f, hW.2.1.1]
  have hg12 : tq_gr (tc_mk S c) 155 11 12 = some 164 := by simp (maxSteps := 3000000) (disch := omega) only [Option.bind_some, tc_bs, tq_let, tc_I1, tc_I2, tc_J1, tc_J2, tc_J3, tc_F1, tc_F2, tc_F3, tc_F4, tc_G1, tc_G2, tc_G3, tc_G4, tc_G5, tc_us, tc_un, s_one, s_holds, s_J13_bitCount, bz_bI, hM.f]
  have hgl : tq_gl (tc_mk S c) 155 11 31 = some (mkS (D.nodesOf Q)) := by simp (maxSteps := 3000000) (disch := omega) only [Option.bind_some, tc_bs, tq_let, tc_I1, tc_I2, tc_J1, tc_J2, tc_J3, tc_F1, tc_F2, tc_F3, tc_F4, tc_G1, tc_G2, tc_G3, tc_G4, tc_G5, tc_us, tc_un, s_one, s_holds, s_J13_bitCount, bz_bI, hM.f, hW.2.2.2]
  have his : tq_is (tc_mk S c) 155 11 = some () := by simp (maxSteps := 3000000) (disch := omega) only [Option.bind_some, tc_bs, tq_let, tc_I1, tc_I2, tc_J1, tc_J2, tc_J3, tc_F1, tc_F2, tc_F3, tc_F4, tc_G1, tc_G2, tc_G3, tc_G4, tc_G5, tc_us, tc_un, s_one, s_holds, s_J13_bitCount, bz_bI, hM.f]
  have hoo : ∀ l, l < D.n → tq_ai (tc_mk S c) 164 (nI l) = some (nI (D.ord l)) := fun l hl => by simp (maxSteps := 3000000) (disch := omega) only [Option.bind_some, tc_bs, tq_let, tc_I1, tc_I2, tc_J1, tc_J2, tc_J3, tc_F1, tc_F2, tc_F3, tc_F4, tc_G1, tc_G2, tc_G3, tc_G4, tc_G5, tc_us, tc_un, s_one, s_holds, s_J13_bitCount, bz_bI, hM.f, show l < 60 from by omega, hW.2.1.2.1 l hl]
  have first : ∀ i, i < D.n → ∀ w1 : Int32, ∃ b : Bool, tq_loop (f_X11_groups_b69 155 (mkS (D.nodesOf X)) w1 (nI i) (tc_mk S c)) tq_N (bI (X i), 0) = some (bI b) ∧ b = D.gr Q X i := by
    intro i hi w1
    have W := tc_run2 (B := f_X11_groups_b69 155 (mkS (D.nodesOf X)) w1 (nI i) (tc_mk S c)) i (fun l (b : Bool) => (bI b, nI l)) (fun l b => b = (X i && !anyB (fun j => X j && decide (D.vN Q j = D.vN Q i)) l)) (fun e => e = bI (D.gr Q X i)) (by omega) (fun l b hl hI => by
      dsimp only [f_X11_groups_b69]
      rw [if_neg (show ¬ nI l ≥ nI i from nI_ge hl (by omega))]
      cases b with
      | false =>
        right
        refine ⟨_, if_pos (by decide), ?_⟩
        unfold Doc.gr
        cases hx : X i with
        | false => rfl
        | true =>
          rw [hx, Bool.true_and] at hI
          have h2 : anyB (fun j => X j && decide (D.vN Q j = D.vN Q i)) l = true := by
            cases e : anyB (fun j => X j && decide (D.vN Q j = D.vN Q i)) l with
            | true => rfl
            | false => rw [e] at hI; cases hI
          obtain ⟨j, hj, h3⟩ := anyB_iff.mp h2
          have : anyB (fun j => X j && decide (D.vN Q j = D.vN Q i)) i = true := anyB_iff.mpr ⟨j, by omega, h3⟩
          rw [this]; rfl
      | true =>
        left
        have ol := D.ord_lt hw (show l < D.n by omega)
        have hxi : X i = true := by
          cases hx : X i with
          | true => rfl
          | false => rw [hx] at hI; cases hI
        have hb := nbit0 (mkS (D.nodesOf X)) (show D.ord l < 64 by omega)
        rw [tb_mkS, D.nodesOf_at hw _ (by omega)] at hb
        rw [if_neg (by decide)]
        simp only [hg12, hoo l (by omega), hoo i hi, hgl, his, s_X11_valueOf hM hw hW.1 hW.2.1 (show l < D.n by omega) Q, s_X11_valueOf hM hw hW.1 hW.2.1 hi Q, Option.bind_some, tq_let, nI_1]
        refine ⟨!(X l && decide (D.vN Q l = D.vN Q i)), ?_, ?_⟩
        · have heq := D.val_eq (Q := Q) hw (show l < D.n by omega) hi
          cases hx : X l with
          | false => rw [if_pos (hb.mpr (by simp [hx])), Option.bind_some]; rfl
          | true =>
            rw [if_neg (fun w => by have := hb.mp w; simp [hx] at this; omega)]
            by_cases v : D.vN Q l = D.vN Q i
            · rw [if_pos (heq.mpr v), Option.bind_some]; simp [v, bI]
            · rw [if_neg (fun w => v (heq.mp w)), Option.bind_some]; simp [v, bI]
        · rw [anyB]
          rw [hxi, Bool.true_and] at hI ⊢
          have : anyB (fun j => X j && decide (D.vN Q j = D.vN Q i)) l = false := by
            cases e : anyB (fun j => X j && decide (D.vN Q j = D.vN Q i)) l with
            | false => rfl
            | true => rw [e] at hI; cases hI
          rw [this]; simp) (fun b hI => by
      dsimp only [f_X11_groups_b69]
      rw [if_pos (Int32.le_refl _)]
      exact ⟨_, rfl, by rw [hI]; rfl⟩) (x := X i) (by simp [anyB])
    obtain ⟨e, w1, w2⟩ := W
    exact ⟨_, by rw [show (0 : Int32) = nI 0 from rfl, w1, w2], rfl⟩
  refine tc_scan (B := f_X11_groups_b34 155 (mkS (D.nodesOf X)) (tc_mk S c)) D.n (fun i => nI (fb_ct (D.gr Q X) i)) (by omega) (fun i hi => ?_) ?_
  · obtain ⟨b, f1, f2⟩ := first i hi (nI (fb_ct (D.gr Q X) i))
    dsimp only [f_X11_groups_b34]
    rw [hgn, Option.bind_some, if_neg (show ¬ nI i ≥ nI D.n from nI_ge hi (by omega))]
    simp only [hg12, hoo i hi, Option.bind_some, tq_let]
    rw [nodes_if hw _ _ _ hi]
    have e1 : (if X i = true then (1 : Int32) else 0) = bI (X i) := rfl
    rw [e1, f1, Option.bind_some, fb_ct_succ, f2]
    cases D.gr Q X i with
    | false => rw [if_pos (by decide)]; simp [nI_1]
    | true => rw [if_neg (by decide)]; simp [nI_1]
  · dsimp only [f_X11_groups_b34]
    rw [hgn, Option.bind_some, if_pos (Int32.le_refl _)]
end ORR
