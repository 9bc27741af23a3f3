/-! ===== the reference's tests and values ===== -/
section RVA
variable {S : tq_H} {c : tc_C} {m i j z k : Nat} {D : Doc}
theorem Doc.nodesOf_at (hw : D.wf) (P : Nat → Bool) (hi : i < D.n) : D.nodesOf P (D.ord i) = P i := by
  apply Bool.ext_iff
  unfold Doc.nodesOf
  rw [anyB_iff]
  constructor
  · rintro ⟨s, hs, h⟩
    simp only [Bool.and_eq_true, decide_eq_true_eq] at h
    rw [D.ord_inj hw hi hs h.2]; exact h.1
  · intro h; exact ⟨i, hi, by simp [h]⟩
theorem Doc.nodesOf_in (P : Nat → Bool) {v : Nat} (h : D.nodesOf P v = true) : ∃ i, i < D.n ∧ v = D.ord i ∧ P i = true := by
  obtain ⟨s, hs, h⟩ := anyB_iff.mp h
  simp only [Bool.and_eq_true, decide_eq_true_eq] at h
  exact ⟨s, hs, h.2, h.1⟩
theorem Doc.nodesOf_cong {P Q : Nat → Bool} (h : ∀ i, i < D.n → P i = Q i) : D.nodesOf P = D.nodesOf Q := funext fun v => anyB_cong fun s hs => by rw [h s hs]
theorem mkS_nodes_and (hw : D.wf) (P Q : Nat → Bool) : mkS (D.nodesOf P) &&& mkS (D.nodesOf Q) = mkS (D.nodesOf (fun j => P j && Q j)) := by
  rw [mkS_and]
  apply mkS_cong
  intro v _
  apply Bool.ext_iff
  rw [Bool.and_eq_true]
  constructor
  · rintro ⟨h1, h2⟩
    obtain ⟨i, hi, rfl, h3⟩ := D.nodesOf_in P h1
    rw [D.nodesOf_at hw _ hi] at h2
    rw [D.nodesOf_at hw _ hi, h3, h2]; rfl
  · intro h
    obtain ⟨i, hi, rfl, h3⟩ := D.nodesOf_in _ h
    rw [D.nodesOf_at hw _ hi, D.nodesOf_at hw _ hi]
    simpa using h3
theorem mkS_nodes_or (P Q : Nat → Bool) : mkS (D.nodesOf P) ||| mkS (D.nodesOf Q) = mkS (D.nodesOf (fun j => P j || Q j)) := by
  rw [mkS_or]
  apply mkS_cong
  intro v _
  apply Bool.ext_iff
  rw [Bool.or_eq_true]
  unfold Doc.nodesOf
  rw [anyB_iff, anyB_iff, anyB_iff]
  constructor
  · rintro (⟨s, h1, h2⟩ | ⟨s, h1, h2⟩)
    · exact ⟨s, h1, by simp at h2 ⊢; exact ⟨.inl h2.1, h2.2⟩⟩
    · exact ⟨s, h1, by simp at h2 ⊢; exact ⟨.inr h2.1, h2.2⟩⟩
  · rintro ⟨s, h1, h2⟩
    simp at h2
    rcases h2.1 with q | q
    · exact .inl ⟨s, h1, by simp [q, h2.2]⟩
    · exact .inr ⟨s, h1, by simp [q, h2.2]⟩
theorem s_X11_passes (hM : tc_Mod S z) (hw : D.wf) (hR : RTree c D m) (hi : i < D.n) {t : Nat} (ht : t < 14) : f_X11_passes 155 (nI t) (nI (D.ord i)) (tc_mk S c) = some (bI (D.tst t i)) := by
  have hR' := hR
  obtain ⟨-, -, -, -, r5, r6, -, -, -, -⟩ := hR'
  have oi := D.ord_lt hw hi
  unfold f_X11_passes Doc.tst
  by_cases a : t < 8
  · rw [if_neg (show ¬ nI t ≥ 8 from nI_ge a (by decide)), if_pos a]
    simp (maxSteps := 3000000) (disch := omega) only [Option.bind_some, tc_bs, tq_let, tc_I1, tc_I2, tc_J1, tc_J2, tc_J3, tc_F1, tc_F2, tc_F3, tc_F4, tc_G1, tc_G2, tc_G3, tc_G4, tc_G5, tc_us, tc_un, s_one, s_holds, s_J13_bitCount, bz_bI, hM.f]
    rw [r5 i hi, r6 i hi]
    by_cases d : D.kd i = 1
    · simp [d, bI, tq_bz]
    · by_cases e : D.nm i = nI t <;> simp [d, e, bI, tq_bz]
  · rw [if_pos (show nI t ≥ 8 from nI_le (show 8 ≤ t by omega) (by omega)), if_neg a]
    by_cases q : t = 8
    · subst q
      rw [if_pos (by decide)]; simp [bI, tq_bz]
    · rw [if_neg (show ¬ nI t = 8 from fun w => q ((nI_eq (by omega) (show 8 < 2 ^ 31 by decide)).mp w)), if_neg q]
      by_cases r : t = 9
      · subst r
        rw [if_pos (by decide)]
        simp (maxSteps := 3000000) (disch := omega) only [Option.bind_some, tc_bs, tq_let, tc_I1, tc_I2, tc_J1, tc_J2, tc_J3, tc_F1, tc_F2, tc_F3, tc_F4, tc_G1, tc_G2, tc_G3, tc_G4, tc_G5, tc_us, tc_un, s_one, s_holds, s_J13_bitCount, bz_bI, hM.f]
        rw [r5 i hi]
        by_cases d : D.kd i = 1 <;> simp [d, bI, tq_bz]
      · rw [if_neg (show ¬ nI t = 9 from fun w => r ((nI_eq (by omega) (show 9 < 2 ^ 31 by decide)).mp w)), if_neg r]
        simp (maxSteps := 3000000) (disch := omega) only [Option.bind_some, tc_bs, tq_let, tc_I1, tc_I2, tc_J1, tc_J2, tc_J3, tc_F1, tc_F2, tc_F3, tc_F4, tc_G1, tc_G2, tc_G3, tc_G4, tc_G5, tc_us, tc_un, s_one, s_holds, s_J13_bitCount, bz_bI, hM.f, s_X11_spaceOf hM hw hR hi]
        have e10 : nI t - 10 = nI (t - 10) := pk_sub (show 10 ≤ t by omega)
        rw [r5 i hi, e10]
        by_cases d : D.kd i = 0
        · by_cases e : D.sp i = nI (t - 10) <;> simp [d, e, bI, tq_bz]
        · simp [d, bI, tq_bz]
/-- the value of the first of the last t spots that are asked for -/
def Doc.vw (D : Doc) (P : Nat → Bool) : Nat → Int32
  | 0 => -1
  | t + 1 => if P (D.n - (t + 1)) = true then D.vl (D.n - (t + 1)) else D.vw P t
theorem Doc.vw_no (P : Nat → Bool) : ∀ t, t ≤ D.n → (∀ j, D.n - t ≤ j → j < D.n → P j = false) → D.vw P t = -1
  | 0, _, _ => rfl
  | t + 1, ht, h => by
    rw [Doc.vw, h (D.n - (t + 1)) (Nat.le_refl _) (by omega), if_neg (by decide)]
    exact Doc.vw_no P t (by omega) (fun j a b => h j (by omega) b)
theorem Doc.vw_yes (P : Nat → Bool) {s : Nat} (hs : s < D.n) (hp : P s = true) (hl : ∀ j, j < s → P j = false) : ∀ t, t ≤ D.n → D.n - t ≤ s → D.vw P t = D.vl s
  | 0, _, h => by omega
  | t + 1, ht, h => by
    rw [Doc.vw]
    by_cases e : D.n - (t + 1) = s
    · rw [e, if_pos hp]
    · rw [hl _ (by omega), if_neg (by decide)]
      exact Doc.vw_yes P hs hp hl t (by omega) (by omega)
theorem s_X11_valueOf (hM : tc_Mod S z) (hw : D.wf) (hR : RTree c D m) (hO : ROrd c D) (hi : i < D.n) (Q : Nat → Bool) : f_X11_valueOf 155 (nI (D.ord i)) (mkS (D.nodesOf Q)) (tc_mk S c) = some (D.val Q i) := by
  have hR' := hR
  obtain ⟨-, -, -, -, r5, -, r7, -, -, -⟩ := hR'
  obtain ⟨o1, o2, -⟩ := hO
  have hn := D.n_le hw
  have h0 := D.n_pos hw
  have oi := D.ord_lt hw hi
  unfold Doc.val
  by_cases d : D.kd i = 0
  · rw [if_pos d]
    simp (maxSteps := 3000000) (disch := omega) only [Option.bind_some, tc_bs, tq_let, tc_I1, tc_I2, tc_J1, tc_J2, tc_J3, tc_F1, tc_F2, tc_F3, tc_F4, tc_G1, tc_G2, tc_G3, tc_G4, tc_G5, tc_us, tc_un, s_one, s_holds, s_J13_bitCount, bz_bI, f_X11_valueOf, hM.f]
    rw [r5 i hi, if_pos d, o1]
    have W := tc_iter (B := f_X11_valueOf_b27 155 (nI (D.ord i)) (mkS (D.nodesOf Q)) (tc_mk S c)) D.n (fun t => (D.vw (fun j => (decide (i < j ∧ j < D.en i) && (decide (j < D.n) && decide (D.kd j = 1))) && Q j) t, nI (D.n - t) + (-1))) (e := D.vw (fun j => (decide (i < j ∧ j < D.en i) && (decide (j < D.n) && decide (D.kd j = 1))) && Q j) D.n) (fun t ht => ?_) ?_ (by unfold tq_N; omega)
    · have e1 : nI D.n - 1 = nI (D.n - 0) + (-1) := by rw [Nat.sub_zero, Int32.sub_eq_add_neg]
      rw [Doc.vw] at W
      rw [e1, W]
      refine congrArg some ?_
      rcases pk_cases (fun j => (decide (i < j ∧ j < D.en i) && (decide (j < D.n) && decide (D.kd j = 1))) && Q j) 0 with ⟨s, k, h1, h2, h3, h4, h5⟩ | ⟨h1, h2⟩
      · have hk : k = 0 := by
          have := fb_ct_le (fun j => (decide (i < j ∧ j < D.en i) && (decide (j < D.n) && decide (D.kd j = 1))) && Q j) s
          have e2 : nI 0 = nI k := h4
          exact ((nI_eq (by decide) (by omega)).mp e2).symm
        rw [hk] at h3
        have hs : s < D.n := by simp at h2; exact h2.1.2.1
        rw [h5]
        simp only [nI_nm1 (show s < 2 ^ 31 by omega), if_false, nI_clamp (show s < 2 ^ 31 by omega)]
        exact D.vw_yes _ hs h2 (fun j hj => fb_ct_zero.mp h3 j hj) D.n (Nat.le_refl _) (by omega)
      · rw [h2]
        simp only [if_true]
        rcases h1 with w | w
        · exact absurd w (by decide)
        · have w2 : fb_ct (fun j => (decide (i < j ∧ j < D.en i) && (decide (j < D.n) && decide (D.kd j = 1))) && Q j) 64 = 0 := Nat.le_zero.mp w
          exact D.vw_no _ D.n (Nat.le_refl _) (fun j _ hj => fb_ct_zero.mp w2 j (by omega))
    · have hs : D.n - (t + 1) < D.n := by omega
      have os := D.ord_lt hw hs
      have e1 : nI (D.n - t) + (-1) = nI (D.n - (t + 1)) := by rw [show D.n - t = (D.n - (t + 1)) + 1 by omega, pk_m1]
      dsimp only [f_X11_valueOf_b27]
      rw [e1, if_neg (nI_pos (by omega))]
      simp (maxSteps := 3000000) (disch := omega) only [Option.bind_some, tc_bs, tq_let, tc_I1, tc_I2, tc_J1, tc_J2, tc_J3, tc_F1, tc_F2, tc_F3, tc_F4, tc_G1, tc_G2, tc_G3, tc_G4, tc_G5, tc_us, tc_un, s_one, s_holds, s_J13_bitCount, bz_bI, hM.f]
      rw [o2 _ hs]
      simp (maxSteps := 3000000) (disch := omega) only [Option.bind_some, tc_bs, tq_let, tc_I1, tc_I2, tc_J1, tc_J2, tc_J3, tc_F1, tc_F2, tc_F3, tc_F4, tc_G1, tc_G2, tc_G3, tc_G4, tc_G5, tc_us, tc_un, s_one, s_holds, s_J13_bitCount, bz_bI, hM.f, s_X11_isBelow hM hw hR hi hs]
      rw [r5 _ hs, Doc.vw]
      have hq := rbit_mkS (D.nodesOf Q) (show D.ord (D.n - (t + 1)) < 64 by omega)
      rw [D.nodesOf_at hw _ hs] at hq
      by_cases a : D.kd (D.n - (t + 1)) = 1
      · rw [if_pos a]
        by_cases b : Q (D.n - (t + 1)) = true
        · rw [if_pos (hq.mpr b)]
          by_cases e : i < D.n - (t + 1) ∧ D.n - (t + 1) < D.en i
          · rw [if_neg (by simp [e, bI]), r7 _ hs]
            simp [a, b, e, hs]
          · rw [if_pos (by simp [e, bI])]
            simp [e]
        · rw [if_neg (fun w => b (hq.mp w))]
          simp [b]
      · rw [if_neg a]; simp [a]
    · dsimp only [f_X11_valueOf_b27]
      rw [Nat.sub_self, if_pos (by decide +kernel)]
  · rw [if_neg d]
    simp (maxSteps := 3000000) (disch := omega) only [Option.bind_some, tc_bs, tq_let, tc_I1, tc_I2, tc_J1, tc_J2, tc_J3, tc_F1, tc_F2, tc_F3, tc_F4, tc_G1, tc_G2, tc_G3, tc_G4, tc_G5, tc_us, tc_un, s_one, s_holds, s_J13_bitCount, bz_bI, f_X11_valueOf, hM.f]
    rw [r5 i hi, if_neg d, r7 i hi]
end RVA
