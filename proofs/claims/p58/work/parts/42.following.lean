/-! ===== the next node of the order by the links ===== -/
theorem nI_nm1 {k : Nat} (h : k < 2 ^ 31) : ¬ nI k = -1 := fun z => nI_pos h (by rw [z]; decide)
section FOL
variable {S : tq_H} {c : tc_C} {b m : Nat} {D : Doc}
theorem rg_ord {q : Nat} (hw : D.wf) {i : Nat} (hi : i < D.n) : rg 60 (c.1 q) (nI (D.ord i)) = c.1 q (D.ord i) := rg_in _ (D.ord_lt hw hi) (by decide)
theorem s_X8_following (hT : tc_Tree S b) (hw : D.wf) (hN : Nod c b D m) {i : Nat} (hi : i < D.n) : f_X8_following b (nI (D.ord i)) (tc_mk S c) = some (if i + 1 < D.n then nI (D.ord (i + 1)) else -1) := by
  obtain ⟨-, -, -, -, -, -, -, hP, hF, hX⟩ := hN
  have hn := D.n_le hw
  have hle := D.en_le hw hi
  simp (maxSteps := 3000000) (disch := omega) only [Option.bind_some, tc_bs, tq_let, tc_I1, tc_I2, tc_J1, tc_J2, tc_J3, tc_F1, tc_F2, tc_F3, tc_F4, tc_G1, tc_G2, tc_G3, tc_G4, tc_G5, tc_us, tc_un, s_one, s_holds, s_J13_bitCount, bz_bI, f_X8_following, hT.f]
  rw [rg_ord hw hi, hF i hi]
  by_cases q : i + 1 < D.en i
  · have q2 : i + 1 < D.n := by omega
    rw [if_pos q, if_neg (nI_nm1 (by have := D.ord_lt hw q2; omega)), if_pos q2]
  · rw [if_neg q, if_pos rfl]
    have hen : D.en i = i + 1 := by have := D.en_gt hw hi; omega
    have W := tc_while (B := f_X8_following_b25 b (tc_mk S c)) (fun s => (∃ a k, s = (nI (D.ord a), nI k) ∧ a ≤ i ∧ D.en a = i + 1 ∧ k + a ≤ i) ∨ (∃ k, s = (-1, nI k) ∧ k ≤ 60 ∧ D.n = i + 1)) (fun s => 100 - s.2.toNatClampNeg) (fun e => (e = .inl () ∧ D.n = i + 1) ∨ (e = .inr (nI (D.ord (i + 1))) ∧ i + 1 < D.n)) (s := (nI (D.ord i), 0)) ?_ (Or.inl ⟨i, 0, rfl, Nat.le_refl _, hen, by omega⟩) (by unfold tq_N; omega)
    · obtain ⟨e, h1, h2⟩ := W
      rw [h1, Option.bind_some]
      rcases h2 with ⟨rfl, z⟩ | ⟨rfl, z⟩
      · rw [if_neg (by omega)]
      · rw [if_pos z]
    · rintro s (⟨a, k, rfl, ha, hea, hk⟩ | ⟨k, rfl, hk, hz⟩)
      · have han : a < D.n := by omega
        have ho := D.ord_lt hw han
        have c1 : ¬ nI k ≥ 60 := nI_ge (show k < 60 by omega) (by decide)
        have c2 := nI_nm1 (show D.ord a < 2 ^ 31 by omega)
        have hB : f_X8_following_b25 b (tc_mk S c) (nI (D.ord a), nI k) = if 0 < a ∧ D.en a < D.en (D.up a) then some (.inr (.inr (nI (D.ord (i + 1))))) else some (.inl (if a = 0 then -1 else nI (D.ord (D.up a)), nI (k + 1))) := by
          show (if nI k ≥ 60 then _ else if nI (D.ord a) = -1 then _ else _) = _
          rw [if_neg c1, if_neg c2]
          simp (maxSteps := 3000000) (disch := omega) only [Option.bind_some, tc_bs, tq_let, tc_I1, tc_I2, tc_J1, tc_J2, tc_J3, tc_F1, tc_F2, tc_F3, tc_F4, tc_G1, tc_G2, tc_G3, tc_G4, tc_G5, tc_us, tc_un, s_one, s_holds, s_J13_bitCount, bz_bI, hT.f]
          rw [rg_ord hw han, rg_ord hw han, hX a han, hP a han, nI_1]
          by_cases z : 0 < a ∧ D.en a < D.en (D.up a)
          · have hu := D.up_lt hw z.1 han
            have := D.en_le hw (show D.up a < D.n by omega)
            rw [if_pos z, if_pos z, hea, if_neg (nI_nm1 (by have := D.ord_lt hw (show i + 1 < D.n by omega); omega))]
          · rw [if_neg z, if_pos rfl, if_neg z]
        rw [hB]
        by_cases z : 0 < a ∧ D.en a < D.en (D.up a)
        · right
          have hu := D.up_lt hw z.1 han
          have := D.en_le hw (show D.up a < D.n by omega)
          exact ⟨.inr (nI (D.ord (i + 1))), if_pos z, Or.inr ⟨rfl, by omega⟩⟩
        · left
          refine ⟨_, if_neg z, ?_, ?_⟩
          · by_cases a0 : a = 0
            · right
              refine ⟨k + 1, ?_, by omega, ?_⟩
              · rw [if_pos a0]
              · subst a0
                rw [← D.en_0 hw]; exact hea
            · left
              have hu := D.up_lt hw (Nat.pos_of_ne_zero a0) han
              have h3 := D.en_in hw hu (D.up_sp hw (Nat.pos_of_ne_zero a0) han) (by omega)
              refine ⟨D.up a, k + 1, ?_, by omega, ?_, by omega⟩
              · rw [if_neg a0]
              · have : ¬ D.en a < D.en (D.up a) := fun w => z ⟨Nat.pos_of_ne_zero a0, w⟩
                omega
          · show 100 - (nI (k + 1)).toNatClampNeg < 100 - (nI k).toNatClampNeg
            rw [nI_clamp (by omega), nI_clamp (by omega)]
            omega
      · right
        refine ⟨.inl (), ?_, Or.inl ⟨rfl, hz⟩⟩
        show (if nI k ≥ 60 then _ else if (-1 : Int32) = -1 then _ else _) = _
        by_cases w : nI k ≥ 60
        · rw [if_pos w]
        · rw [if_neg w, if_pos rfl]
end FOL
