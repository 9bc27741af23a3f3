/-! ===== the reference's attributes, spaces, values ===== -/
section RAT
variable {S : tq_H} {c : tc_C} {m i j z k : Nat} {D : Doc} {v : Int32}
theorem Doc.att_uq (hw : D.wf) (ha : D.ao) {j j' : Nat} (h : D.ax 11 i j = true) (h' : D.ax 11 i j' = true) (e : D.nm j = D.nm j') : j = j' := by
  have hj := D.ax_lt 11 i j h
  have hj' := D.ax_lt 11 i j' h'
  simp [Doc.ax] at h h'
  rcases Nat.lt_trichotomy j j' with q | q | q
  · obtain ⟨-, k, l, h1, h2, h3, h4⟩ := ha j j' h.2.1 q hj' (by rw [h.2.2.1, h'.2.2.1]) h'.2.2.2
    rw [h3, h4, nI_eq (by omega) (by omega)] at e; omega
  · exact q
  · obtain ⟨-, k, l, h1, h2, h3, h4⟩ := ha j' j h'.2.1 q hj (by rw [h.2.2.1, h'.2.2.1]) h.2.2.2
    rw [h3, h4, nI_eq (by omega) (by omega)] at e; omega
theorem s_X11_attributeOf (hM : tc_Mod S z) (hw : D.wf) (hR : RTree c D m) (ha : D.ao) (h : D.ax 11 i j = true) (hi : i < D.n) (hk : D.nm j = v) : f_X11_attributeOf 155 (nI (D.ord i)) v (tc_mk S c) = some (nI (D.ord j)) := by
  have hR' := hR
  obtain ⟨r1, ⟨r2, r2'⟩, -, -, -, r6, -⟩ := hR'
  have hj := D.ax_lt 11 i j h
  rw [s_attributeOf' hM r2 r1]
  congr 1
  refine lastN_one (v := D.ord j) ?_ (r2' j hj) (fun k' hk' h2 => ?_)
  · rw [isAtt_sp hw hR hi hj, h, r6 j hj, hk]; simp
  · simp only [Bool.and_eq_true, decide_eq_true_eq] at h2
    obtain ⟨l, hl, rfl⟩ := isAtt_in hw hR _ k' hk' h2.1
    have h3 := h2.1
    rw [isAtt_sp hw hR hi hl] at h3
    rw [r6 l hl] at h2
    rw [D.att_uq hw ha h3 h (by rw [h2.2, hk])]
theorem s_X11_attributeOf_n (hM : tc_Mod S z) (hw : D.wf) (hR : RTree c D m) (hi : i < D.n) (hk : ∀ j, D.ax 11 i j = true → D.nm j ≠ v) : f_X11_attributeOf 155 (nI (D.ord i)) v (tc_mk S c) = some (-1) := by
  have hR' := hR
  obtain ⟨r1, ⟨r2, r2'⟩, -, -, -, r6, -⟩ := hR'
  rw [s_attributeOf' hM r2 r1]
  congr 1
  refine lastN_no fun k' hk' => ?_
  cases hq : isAtt c (nI (D.ord i)) k' with
  | false => rfl
  | true =>
    obtain ⟨l, hl, rfl⟩ := isAtt_in hw hR _ k' hk' hq
    rw [isAtt_sp hw hR hi hl] at hq
    rw [r6 l hl]
    simp [hk l hq]
theorem Doc.ps_m1 (hw : D.wf) : ∀ k, k ≤ D.n → D.ps (-1) k = 0 := by
  intro k
  induction k with
  | zero => intro _; rfl
  | succ k ih =>
    intro hk
    unfold Doc.ps
    rw [if_neg (fun w => nI_nm1 (by have := D.ord_lt hw (show k < D.n by omega); omega) w.symm), ih (by omega)]
theorem Doc.ps_le (D : Doc) (v : Int32) : ∀ k, D.ps v k ≤ k := by
  intro k
  induction k with
  | zero => exact Nat.le_refl _
  | succ k ih => unfold Doc.ps; split <;> omega
theorem s_X11_spaceOf (hM : tc_Mod S z) (hw : D.wf) (hR : RTree c D m) (hi : i < D.n) : f_X11_spaceOf 155 (nI (D.ord i)) (tc_mk S c) = some (D.sp i) := by
  obtain ⟨-, -, -, -, -, -, -, r8, r9, -⟩ := hR
  have hn := D.n_le hw
  have W := tc_while (B := f_X11_spaceOf_b2 155 (tc_mk S c)) (fun s => (∃ a, a < D.n ∧ s = nI (D.ord a) ∧ D.sp a = D.sp i) ∨ (s = -1 ∧ D.sp i = 0)) (fun s => D.ps s D.n) (fun e => (∃ a, a < D.n ∧ e = nI (D.ord a) ∧ D.dc a ≠ -1 ∧ D.dc a = D.sp i) ∨ (e = -1 ∧ D.sp i = 0)) (s := nI (D.ord i)) ?_ (.inl ⟨i, hi, rfl, rfl⟩) (by have := D.ps_le (nI (D.ord i)) D.n; unfold tq_N; omega)
  · obtain ⟨e, h1, h2⟩ := W
    simp (maxSteps := 3000000) (disch := omega) only [Option.bind_some, tc_bs, tq_let, tc_I1, tc_I2, tc_J1, tc_J2, tc_J3, tc_F1, tc_F2, tc_F3, tc_F4, tc_G1, tc_G2, tc_G3, tc_G4, tc_G5, tc_us, tc_un, s_one, s_holds, s_J13_bitCount, bz_bI, f_X11_spaceOf]
    rw [h1, Option.bind_some]
    rcases h2 with ⟨a, ha, rfl, h3, h4⟩ | ⟨rfl, h3⟩
    · have oa := D.ord_lt hw ha
      rw [if_neg (nI_nm1 (by omega))]
      simp (maxSteps := 3000000) (disch := omega) only [Option.bind_some, tc_bs, tq_let, tc_I1, tc_I2, tc_J1, tc_J2, tc_J3, tc_F1, tc_F2, tc_F3, tc_F4, tc_G1, tc_G2, tc_G3, tc_G4, tc_G5, tc_us, tc_un, s_one, s_holds, s_J13_bitCount, bz_bI, hM.f]
      rw [r8 a ha, h4]
    · rw [if_pos rfl, h3]
  · rintro s (⟨a, ha, rfl, hq⟩ | ⟨rfl, hq⟩)
    · have oa := D.ord_lt hw ha
      have hB : f_X11_spaceOf_b2 155 (tc_mk S c) (nI (D.ord a)) = if D.dc a = -1 then some (.inl (D.upN a)) else some (.inr (nI (D.ord a))) := by
        show (if nI (D.ord a) = -1 then _ else _) = _
        rw [if_neg (nI_nm1 (by omega))]
        simp (maxSteps := 3000000) (disch := omega) only [Option.bind_some, tc_bs, tq_let, tc_I1, tc_I2, tc_J1, tc_J2, tc_J3, tc_F1, tc_F2, tc_F3, tc_F4, tc_G1, tc_G2, tc_G3, tc_G4, tc_G5, tc_us, tc_un, s_one, s_holds, s_J13_bitCount, bz_bI, hM.f]
        rw [r8 a ha, r9 a ha]
      rw [hB]
      have hs := D.sp_eq hw ha
      by_cases d : D.dc a = -1
      · left
        have d2 : ¬ (D.dc a ≠ -1) := fun w => w d
        rw [if_neg d2] at hs
        refine ⟨D.upN a, if_pos d, ?_, ?_⟩
        · unfold Doc.upN
          by_cases y : a = 0
          · rw [if_pos y] at hs
            rw [if_pos y]
            exact .inr ⟨rfl, by rw [← hq, hs]⟩
          · rw [if_neg y] at hs
            rw [if_neg y]
            have hu := D.up_lt hw (Nat.pos_of_ne_zero y) ha
            exact .inl ⟨D.up a, by omega, rfl, by rw [← hq, hs]⟩
        · rw [Doc.ps_in hw ha D.n (Nat.le_refl _) ha]
          unfold Doc.upN
          by_cases y : a = 0
          · rw [if_pos y, D.ps_m1 hw D.n (Nat.le_refl _)]; omega
          · have hu := D.up_lt hw (Nat.pos_of_ne_zero y) ha
            rw [if_neg y, Doc.ps_in hw (by omega) D.n (Nat.le_refl _) (by omega)]; omega
      · right
        rw [if_pos d] at hs
        exact ⟨nI (D.ord a), if_neg d, .inl ⟨a, ha, rfl, d, by rw [← hq, hs]⟩⟩
    · exact .inr ⟨-1, rfl, .inr ⟨rfl, hq⟩⟩
theorem s_X11_all (hM : tc_Mod S z) (hw : D.wf) (hO : ROrd c D) : f_X11_all 155 (tc_mk S c) = some (mkS (D.nodesOf (fun _ => true))) := by
  obtain ⟨o1, o2, -⟩ := hO
  have hn := D.n_le hw
  simp (maxSteps := 3000000) (disch := omega) only [Option.bind_some, tc_bs, tq_let, tc_I1, tc_I2, tc_J1, tc_J2, tc_J3, tc_F1, tc_F2, tc_F3, tc_F4, tc_G1, tc_G2, tc_G3, tc_G4, tc_G5, tc_us, tc_un, s_one, s_holds, s_J13_bitCount, bz_bI, f_X11_all]
  have W := tc_scan (B := f_X11_all_b4 155 (tc_mk S c)) D.n (fun i => mkS (fun v => anyB (fun s => true && decide (v = D.ord s)) i)) (e := mkS (D.nodesOf (fun _ => true))) (by omega) (fun i hi => ?_) ?_
  · have e0 : mkS (fun v => anyB (fun s => true && decide (v = D.ord s)) 0) = 0 := by rw [mkS_0]; exact mkS_cong fun j _ => by simp [anyB]
    rw [e0] at W
    exact W
  · have oi := D.ord_lt hw hi
    show Option.bind (tq_gi (tc_mk S c) 155 11 11) _ = _
    simp (maxSteps := 3000000) (disch := omega) only [Option.bind_some, tc_bs, tq_let, tc_I1, tc_I2, tc_J1, tc_J2, tc_J3, tc_F1, tc_F2, tc_F3, tc_F4, tc_G1, tc_G2, tc_G3, tc_G4, tc_G5, tc_us, tc_un, s_one, s_holds, s_J13_bitCount, bz_bI, hM.f, o1, nI_1]
    rw [if_neg (show ¬ nI i ≥ nI D.n from nI_ge hi (by omega)), o2 i hi, b1_sh (show D.ord i < 64 by omega), mkS_b1, mkS_or]
    rfl
  · show Option.bind (tq_gi (tc_mk S c) 155 11 11) _ = _
    simp (maxSteps := 3000000) (disch := omega) only [Option.bind_some, tc_bs, tq_let, tc_I1, tc_I2, tc_J1, tc_J2, tc_J3, tc_F1, tc_F2, tc_F3, tc_F4, tc_G1, tc_G2, tc_G3, tc_G4, tc_G5, tc_us, tc_un, s_one, s_holds, s_J13_bitCount, bz_bI, hM.f, o1]
    rw [if_pos (Int32.le_refl _)]
    rfl
end RAT
