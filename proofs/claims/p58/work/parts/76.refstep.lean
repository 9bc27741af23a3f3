/-! ===== the reference finds: a step ===== -/
section RS
variable {S : tq_H} {c c' : tc_C} {p k d m r z : Nat} {D : Doc} {P : Pat} {Q : Nat → Bool} {T : Nat → Nat → Nat → Bool}
theorem pr_step (hM : tc_Mod S z) (hC : PR c P) (hP : P.wf) (hp : p < P.n) (hk : k < P.sc p) : tq_ai (tc_mk S c) 176 ((3 : Int32) * nI (5 * p + k)) = some (nI (P.ax (5 * p + k))) ∧ tq_ai (tc_mk S c) 176 ((3 : Int32) * nI (5 * p + k) + 1) = some (nI (P.ts (5 * p + k))) ∧ (P.ax (5 * p + k) = 12 → tq_ai (tc_mk S c) 176 ((3 : Int32) * nI (5 * p + k) + 2) = some (nI (P.by (5 * p + k)))) ∧ tq_ai (tc_mk S c) 177 (nI (5 * p + k)) = some (nI (P.cc (5 * p + k))) ∧ ∃ x, tq_ai (tc_mk S c) 176 ((3 : Int32) * nI (5 * p + k) + 2) = some x := by
  have h20 := hP.1
  have h5 := hP.2.1 p hp
  obtain ⟨q1, q2, q3, q4⟩ := hC.2.2.1 p k hp hk
  have e3 : (3 : Int32) * nI (5 * p + k) = nI (3 * (5 * p + k)) := by rw [show (3 : Int32) = nI 3 from rfl, nI_mul]
  have a1 : nI (3 * (5 * p + k)) + 1 = nI (3 * (5 * p + k) + 1) := nI_1 _
  have a2 : nI (3 * (5 * p + k)) + 2 = nI (3 * (5 * p + k) + 2) := nI_add _ 2
  rw [e3, a1, a2]
  refine ⟨?_, ?_, fun h => ?_, ?_, c.1 176 (3 * (5 * p + k) + 2), ?_⟩
  · simp (maxSteps := 3000000) (disch := omega) only [Option.bind_some, tc_bs, tq_let, tc_I1, tc_I2, tc_J1, tc_J2, tc_J3, tc_F1, tc_F2, tc_F3, tc_F4, tc_G1, tc_G2, tc_G3, tc_G4, tc_G5, tc_us, tc_un, s_one, s_holds, s_J13_bitCount, bz_bI, hM.f, q1]
  · simp (maxSteps := 3000000) (disch := omega) only [Option.bind_some, tc_bs, tq_let, tc_I1, tc_I2, tc_J1, tc_J2, tc_J3, tc_F1, tc_F2, tc_F3, tc_F4, tc_G1, tc_G2, tc_G3, tc_G4, tc_G5, tc_us, tc_un, s_one, s_holds, s_J13_bitCount, bz_bI, hM.f, q2]
  · simp (maxSteps := 3000000) (disch := omega) only [Option.bind_some, tc_bs, tq_let, tc_I1, tc_I2, tc_J1, tc_J2, tc_J3, tc_F1, tc_F2, tc_F3, tc_F4, tc_G1, tc_G2, tc_G3, tc_G4, tc_G5, tc_us, tc_un, s_one, s_holds, s_J13_bitCount, bz_bI, hM.f, q3 h]
  · simp (maxSteps := 3000000) (disch := omega) only [Option.bind_some, tc_bs, tq_let, tc_I1, tc_I2, tc_J1, tc_J2, tc_J3, tc_F1, tc_F2, tc_F3, tc_F4, tc_G1, tc_G2, tc_G3, tc_G4, tc_G5, tc_us, tc_un, s_one, s_holds, s_J13_bitCount, bz_bI, hM.f, q4]
  · simp (maxSteps := 3000000) (disch := omega) only [Option.bind_some, tc_bs, tq_let, tc_I1, tc_I2, tc_J1, tc_J2, tc_J3, tc_F1, tc_F2, tc_F3, tc_F4, tc_G1, tc_G2, tc_G3, tc_G4, tc_G5, tc_us, tc_un, s_one, s_holds, s_J13_bitCount, bz_bI, hM.f]
theorem s_X11_axisQ (hM : tc_Mod S z) (hw : D.wf) (hR : RTree c D m) (hO : ROrd c D) {i : Nat} (hi : i < D.n) (hQ : c.2.2.2.1 155 31 = mkS (D.nodesOf Q)) (hT : RT c D T p) (hp20 : p ≤ 20) (hTn : ∀ q i j, T q i j = true → j < D.n) {a b : Nat} (ha : a < 13) (hb : a = 12 → b < p) {y : Int32} (hy : a = 12 → y = nI b) :
    f_X11_axis 155 (nI a) y (nI (D.ord i)) (tc_mk S c) = some (mkS (D.nodesOf (fun j => (if a = 12 then D.rep (T b) i j else D.ax a i j) && Q j))) := by
  by_cases h : a = 12
  · subst h
    unfold f_X11_axis
    rw [axis_loop hM hw hR hO hi (show 12 < 13 by decide), Option.bind_some, if_pos (show nI 12 = 12 from rfl), hy rfl]
    have his : tq_is (tc_mk S c) 155 11 = some () := by simp (maxSteps := 3000000) (disch := omega) only [Option.bind_some, tc_bs, tq_let, tc_I1, tc_I2, tc_J1, tc_J2, tc_J3, tc_F1, tc_F2, tc_F3, tc_F4, tc_G1, tc_G2, tc_G3, tc_G4, tc_G5, tc_us, tc_un, s_one, s_holds, s_J13_bitCount, bz_bI, hM.f]
    rw [his]
    simp only [Option.bind_some]
    rw [s_X11_repeated hM hw hO hT (hb rfl) hp20 (hTn _) hi, Option.bind_some]
    simp (maxSteps := 3000000) (disch := omega) only [Option.bind_some, tc_bs, tq_let, tc_I1, tc_I2, tc_J1, tc_J2, tc_J3, tc_F1, tc_F2, tc_F3, tc_F4, tc_G1, tc_G2, tc_G3, tc_G4, tc_G5, tc_us, tc_un, s_one, s_holds, s_J13_bitCount, bz_bI, hM.f]
    rw [hQ, mkS_nodes_and hw]
    refine congrArg some (congrArg mkS (D.nodesOf_cong fun j _ => ?_))
    simp
  · rw [s_X11_axis hM hw hR hO hi (show a < 12 by omega) y hQ]
    refine congrArg some (congrArg mkS (D.nodesOf_cong fun j _ => ?_))
    rw [if_neg h]
theorem test_loop (hM : tc_Mod S z) (hw : D.wf) (hR : RTree c D m) (hO : ROrd c D) (hC : PR c P) (hP : P.wf) (hp : p < P.n) (hk : k < P.sc p) (X : Nat → Bool) (w : Int32) :
    tq_loop (f_X11_stepped_b30 155 (nI (5 * p + k)) w (tc_mk S c)) tq_N (mkS (D.nodesOf X), 0) = some (mkS (D.nodesOf (fun j => X j && D.tst (P.ts (5 * p + k)) j))) := by
  have hn := D.n_le hw
  have hts := (hP.2.2 p k hp hk).2.1
  obtain ⟨-, g2, -⟩ := pr_step hM hC hP hp hk
  obtain ⟨o1, o2, -⟩ := hO
  have W := tc_scan (B := f_X11_stepped_b30 155 (nI (5 * p + k)) w (tc_mk S c)) D.n (fun l => mkS (D.nodesOf (fun j => X j && (decide (l ≤ j) || D.tst (P.ts (5 * p + k)) j)))) (e := mkS (D.nodesOf (fun j => X j && D.tst (P.ts (5 * p + k)) j))) (by omega) (fun l hl => ?_) ?_
  · have e0 : (fun j => X j && (decide (0 ≤ j) || D.tst (P.ts (5 * p + k)) j)) = X := by funext j; simp
    rw [e0] at W
    exact W
  · have ol := D.ord_lt hw hl
    have hl2 : ¬ nI l ≥ nI D.n := nI_ge hl (by omega)
    dsimp only [f_X11_stepped_b30]
    simp (maxSteps := 3000000) (disch := omega) only [Option.bind_some, tc_bs, tq_let, tc_I1, tc_I2, tc_J1, tc_J2, tc_J3, tc_F1, tc_F2, tc_F3, tc_F4, tc_G1, tc_G2, tc_G3, tc_G4, tc_G5, tc_us, tc_un, s_one, s_holds, s_J13_bitCount, bz_bI, ↓reduceIte, hM.f, o1, o2 l hl, hl2, g2, s_X11_passes hM hw hR hl hts, nI_1, b1_sh (show D.ord l < 64 by omega)]
    cases ht : D.tst (P.ts (5 * p + k)) l with
    | false =>
      rw [if_pos (by decide), Option.bind_some]
      have e1 : b1 (D.ord l) ^^^ (-1) = mkS (fun v => !decide (v = D.ord l)) := by rw [mkS_b1, mkS_not]
      rw [e1, mkS_and]
      refine congrArg (fun y => (some (Sum.inl (y, nI (l + 1))) : Option ((Int64 × Int32) ⊕ Int64))) (mkS_cong fun v _ => ?_)
      apply Bool.ext_iff
      rw [Bool.and_eq_true]
      constructor
      · rintro ⟨h1, h2⟩
        obtain ⟨s, hs, rfl, h3⟩ := D.nodesOf_in _ h1
        rw [D.nodesOf_at hw _ hs]
        have : s ≠ l := fun q => by subst q; simp at h2
        simp only [Bool.and_eq_true, Bool.or_eq_true, decide_eq_true_eq] at h3 ⊢
        exact ⟨h3.1, h3.2.imp (fun q => by omega) id⟩
      · intro h
        obtain ⟨s, hs, rfl, h3⟩ := D.nodesOf_in _ h
        rw [D.nodesOf_at hw _ hs]
        have : s ≠ l := fun q => by
          subst q
          rw [ht] at h3; simp at h3; omega
        have hne : D.ord s ≠ D.ord l := fun q => this (D.ord_inj hw hs hl q)
        simp only [Bool.and_eq_true, Bool.or_eq_true, decide_eq_true_eq] at h3 ⊢
        exact ⟨⟨h3.1, h3.2.imp (fun q => by omega) id⟩, by simp [hne]⟩
    | true =>
      rw [if_neg (by decide), Option.bind_some]
      have e1 : ∀ x : Int64, x &&& (-1) = x := fun x => tb_ext fun j hj => by rw [tb_and, tb_m1]; simp [hj]
      rw [e1]
      refine congrArg (fun y => (some (Sum.inl (y, nI (l + 1))) : Option ((Int64 × Int32) ⊕ Int64))) (congrArg mkS (D.nodesOf_cong fun j _ => ?_))
      by_cases q : j = l
      · subst q; simp [ht]
      · simp [show (l + 1 ≤ j) ↔ (l ≤ j) by omega]
  · dsimp only [f_X11_stepped_b30]
    have e1 : tq_gi (tc_mk S c) 155 11 11 = some (nI D.n) := by simp (maxSteps := 3000000) (disch := omega) only [Option.bind_some, tc_bs, tq_let, tc_I1, tc_I2, tc_J1, tc_J2, tc_J3, tc_F1, tc_F2, tc_F3, tc_F4, tc_G1, tc_G2, tc_G3, tc_G4, tc_G5, tc_us, tc_un, s_one, s_holds, s_J13_bitCount, bz_bI, hM.f, o1]
    rw [e1, Option.bind_some, if_pos (Int32.le_refl _)]
    refine congrArg (fun y => (some (Sum.inr y) : Option ((Int64 × Int32) ⊕ Int64))) (congrArg mkS (D.nodesOf_cong fun j hj => ?_))
    have : ¬ D.n ≤ j := by omega
    simp [this]
end RS
