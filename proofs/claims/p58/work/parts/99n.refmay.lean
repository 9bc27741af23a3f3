/-! ===== the reference: may the updates be done? ===== -/
/-- the reference's list is the updates -/
def UR (c : tc_C) (U : Ups) : Prop :=
  c.2.2.1 155 15 = nI U.n ∧ U.n ≤ 20 ∧ (∀ k, k < U.n → c.1 167 (7 * k) = nI (U.uw k)) ∧ (∀ k, k < U.n → c.1 167 (7 * k + 1) = if U.uw k = 0 then -1 else nI (U.ut k)) ∧
  (∀ k, k < U.n → U.uw k = 0 ∨ U.uw k = 4 → c.1 167 (7 * k + 2) = nI (U.up k)) ∧
  (∀ k, k < U.n → U.uw k = 4 ∨ (U.uw k = 0 ∧ U.uk k ≠ 2) → c.1 167 (7 * k + 3) = nI (U.ul k)) ∧
  (∀ k, k < U.n → U.uw k = 0 → c.1 167 (7 * k + 4) = nI (U.uk k) ∧ c.1 167 (7 * k + 5) = U.un k ∧ c.1 167 (7 * k + 6) = U.uc k) ∧
  (∀ k, k < U.n → U.uw k = 2 → c.1 167 (7 * k + 5) = U.uc k) ∧ (∀ k, k < U.n → U.uw k = 3 ∨ U.uw k = 5 → c.1 167 (7 * k + 6) = U.uc k)
/-- what undoes each other -/
def Ups.od (U : Ups) (i j : Nat) : Bool := decide (i ≠ j ∧ U.uw i ≠ 0 ∧ U.uw j ≠ 0 ∧ U.ut i = U.ut j ∧ ((2 ≤ U.uw i ∧ U.uw i = U.uw j) ∨ (U.uw i = 4 ∧ U.uw j = 1)))
section RUP
variable {S : tq_H} {c c' : tc_C} {z m i j k v w : Nat} {U : Ups} {D : Doc}
theorem u7 (k : Nat) : (7 : Int32) * nI k = nI (7 * k) ∧ nI (7 * k) + 1 = nI (7 * k + 1) ∧ nI (7 * k) + 2 = nI (7 * k + 2) ∧ nI (7 * k) + 3 = nI (7 * k + 3) ∧ nI (7 * k) + 4 = nI (7 * k + 4) ∧ nI (7 * k) + 5 = nI (7 * k + 5) ∧ nI (7 * k) + 6 = nI (7 * k + 6) :=
  ⟨nI_mul 7 k, nI_add _ 1, nI_add _ 2, nI_add _ 3, nI_add _ 4, nI_add _ 5, nI_add _ 6⟩
theorem Ups.od_ok : (anyB (fun i => anyB (U.od i) U.n) U.n = false) ↔ U.ok := by
  constructor
  · intro h j k hjk hk hc
    have hex : anyB (fun i => anyB (U.od i) U.n) U.n = true := by
      rw [anyB_iff]
      obtain ⟨h1, h2, h3, h4⟩ := hc
      by_cases q : U.uw j = U.uw k ∧ U.uw j ≠ 1
      · exact ⟨j, by omega, anyB_iff.mpr ⟨k, hk, decide_eq_true ⟨by omega, h1, h2, h3, .inl ⟨by omega, q.1⟩⟩⟩⟩
      · by_cases q2 : U.uw j = 1
        · exact ⟨k, hk, anyB_iff.mpr ⟨j, by omega, decide_eq_true ⟨by omega, h2, h1, h3.symm, .inr ⟨by omega, q2⟩⟩⟩⟩
        · exact ⟨j, by omega, anyB_iff.mpr ⟨k, hk, decide_eq_true ⟨by omega, h1, h2, h3, .inr ⟨by omega, by omega⟩⟩⟩⟩
    rw [h] at hex; cases hex
  · intro h
    cases e : anyB (fun i => anyB (U.od i) U.n) U.n with
    | false => rfl
    | true =>
      exfalso
      obtain ⟨i, i1, i2⟩ := anyB_iff.mp e
      obtain ⟨j, j1, j2⟩ := anyB_iff.mp i2
      obtain ⟨h0, h1, h2, h3, h4⟩ := of_decide_eq_true j2
      rcases Nat.lt_or_ge i j with q | q
      · exact h i j q j1 ⟨h1, h2, h3, by omega⟩
      · exact h j i (by omega) i1 ⟨h2, h1, h3.symm, by omega⟩
theorem s_X11_isAtOdds (hM : tc_Mod S z) (hw : D.wf) (hu : U.wf m D) (hUR : UR c U) :
    ∃ r, f_X11_isAtOdds 155 (tc_mk S c) = some (bI r) ∧ (r = false ↔ U.ok) := by
  refine ⟨_, ?_, U.od_ok⟩
  obtain ⟨u1, u2, u3, u4, -⟩ := hUR
  have h5 := hu.2.1
  have inner : ∀ i, i < U.n → ∀ a, tq_loop (f_X11_isAtOdds_b14 155 (nI i) (tc_mk S c)) tq_N (bI a, (0 : Int32)) = some (bI (a || anyB (U.od i) U.n)) := fun i hi a => by
    have W := tc_iter (B := f_X11_isAtOdds_b14 155 (nI i) (tc_mk S c)) U.n (fun j => (bI (a || anyB (U.od i) j), nI j)) (e := bI (a || anyB (U.od i) U.n)) (fun j hj => ?_) ?_ (by unfold tq_N; omega)
    · have e0 : (bI (a || anyB (U.od i) 0), nI 0) = (bI a, (0 : Int32)) := by rw [anyB, Bool.or_false]; rfl
      rw [← e0]; exact W
    · obtain ⟨x0, x1, -⟩ := u7 i
      obtain ⟨y0, y1, -⟩ := u7 j
      have a1 := u3 i hi
      have a2 := u4 i hi
      have b1 := u3 j hj
      have b2 := u4 j hj
      have w1 := h5 i hi
      have w2 := h5 j hj
      have e1 : ¬ nI j ≥ nI U.n := nI_ge hj (by omega)
      have hb : ∀ r, (bI r = 0) = (r = false) := fun r => propext (bI_0 r)
      have o1 : (1 : Int32) = bI true := rfl
      have o0 : (0 : Int32) = bI false := rfl
      rw [anyB]
      generalize anyB (U.od i) j = p
      have hor : (a || (p || U.od i j)) = ((a || p) || U.od i j) := by cases a <;> cases p <;> rfl
      rw [hor]
      generalize (a || p) = q
      -- what the body adds
      have h0 : U.od i j = false → f_X11_isAtOdds_b14 155 (nI i) (tc_mk S c) (bI q, nI j) = some (.inl (bI q, nI (j + 1))) := fun ho => by
        have ho := of_decide_eq_false ho
        by_cases q1 : i = j
        · subst q1
          cases q
          · have e2 : bI false = 0 := rfl
            simp (maxSteps := 3000000) (disch := omega) only [Option.bind_some, tc_bs, tq_let, tc_I1, tc_I2, tc_J1, tc_J2, tc_J3, tc_F1, tc_F2, tc_F3, tc_F4, tc_G1, tc_G2, tc_G3, tc_G4, tc_G5, tc_us, tc_un, s_one, s_holds, s_J13_bitCount, bz_bI, f_X11_isAtOdds_b14, hM.f, u1, e1, e2, if_true, if_false, nI_1]
          · have e2 : ¬ bI true = 0 := by decide
            simp (maxSteps := 3000000) (disch := omega) only [Option.bind_some, tc_bs, tq_let, tc_I1, tc_I2, tc_J1, tc_J2, tc_J3, tc_F1, tc_F2, tc_F3, tc_F4, tc_G1, tc_G2, tc_G3, tc_G4, tc_G5, tc_us, tc_un, s_one, s_holds, s_J13_bitCount, bz_bI, f_X11_isAtOdds_b14, hM.f, u1, e1, e2, if_true, if_false, nI_1]; rfl
        · have n1 : ¬ nI i = nI j := fun z => q1 ((nI_eq (by omega) (by omega)).mp z)
          by_cases q0 : U.uw i = 0
          · rw [if_pos q0] at a2
            by_cases p0 : U.uw j = 0
            · rw [if_pos p0] at b2
              cases q
              · have e2 : bI false = 0 := rfl
                simp (maxSteps := 3000000) (disch := omega) only [Option.bind_some, tc_bs, tq_let, tc_I1, tc_I2, tc_J1, tc_J2, tc_J3, tc_F1, tc_F2, tc_F3, tc_F4, tc_G1, tc_G2, tc_G3, tc_G4, tc_G5, tc_us, tc_un, s_one, s_holds, s_J13_bitCount, bz_bI, f_X11_isAtOdds_b14, hM.f, u1, e1, e2, n1, x0, x1, y0, y1, a2, b2, if_true, if_false, nI_1]
              · have e2 : ¬ bI true = 0 := by decide
                simp (maxSteps := 3000000) (disch := omega) only [Option.bind_some, tc_bs, tq_let, tc_I1, tc_I2, tc_J1, tc_J2, tc_J3, tc_F1, tc_F2, tc_F3, tc_F4, tc_G1, tc_G2, tc_G3, tc_G4, tc_G5, tc_us, tc_un, s_one, s_holds, s_J13_bitCount, bz_bI, f_X11_isAtOdds_b14, hM.f, u1, e1, e2, n1, x0, x1, y0, y1, a2, b2, if_true, if_false, nI_1]; rfl
            · rw [if_neg p0] at b2
              have ht2 := Ups.ut_lt hw hu hj p0
              have n2 : ¬ (-1 : Int32) = nI (U.ut j) := fun z => nI_nm1 (show U.ut j < 2 ^ 31 by omega) z.symm
              cases q
              · have e2 : bI false = 0 := rfl
                simp (maxSteps := 3000000) (disch := omega) only [Option.bind_some, tc_bs, tq_let, tc_I1, tc_I2, tc_J1, tc_J2, tc_J3, tc_F1, tc_F2, tc_F3, tc_F4, tc_G1, tc_G2, tc_G3, tc_G4, tc_G5, tc_us, tc_un, s_one, s_holds, s_J13_bitCount, bz_bI, f_X11_isAtOdds_b14, hM.f, u1, e1, e2, n1, n2, x0, x1, y0, y1, a2, b2, if_true, if_false, nI_1]
              · have e2 : ¬ bI true = 0 := by decide
                simp (maxSteps := 3000000) (disch := omega) only [Option.bind_some, tc_bs, tq_let, tc_I1, tc_I2, tc_J1, tc_J2, tc_J3, tc_F1, tc_F2, tc_F3, tc_F4, tc_G1, tc_G2, tc_G3, tc_G4, tc_G5, tc_us, tc_un, s_one, s_holds, s_J13_bitCount, bz_bI, f_X11_isAtOdds_b14, hM.f, u1, e1, e2, n1, n2, x0, x1, y0, y1, a2, b2, if_true, if_false, nI_1]; rfl
          · rw [if_neg q0] at a2
            have ht := Ups.ut_lt hw hu hi q0
            have n3 : ¬ nI (U.ut i) = (-1 : Int32) := nI_nm1 (by omega)
            by_cases p0 : U.uw j = 0
            · rw [if_pos p0] at b2
              cases q
              · have e2 : bI false = 0 := rfl
                simp (maxSteps := 3000000) (disch := omega) only [Option.bind_some, tc_bs, tq_let, tc_I1, tc_I2, tc_J1, tc_J2, tc_J3, tc_F1, tc_F2, tc_F3, tc_F4, tc_G1, tc_G2, tc_G3, tc_G4, tc_G5, tc_us, tc_un, s_one, s_holds, s_J13_bitCount, bz_bI, f_X11_isAtOdds_b14, hM.f, u1, e1, e2, n1, n3, x0, x1, y0, y1, a2, b2, if_true, if_false, nI_1]
              · have e2 : ¬ bI true = 0 := by decide
                simp (maxSteps := 3000000) (disch := omega) only [Option.bind_some, tc_bs, tq_let, tc_I1, tc_I2, tc_J1, tc_J2, tc_J3, tc_F1, tc_F2, tc_F3, tc_F4, tc_G1, tc_G2, tc_G3, tc_G4, tc_G5, tc_us, tc_un, s_one, s_holds, s_J13_bitCount, bz_bI, f_X11_isAtOdds_b14, hM.f, u1, e1, e2, n1, n3, x0, x1, y0, y1, a2, b2, if_true, if_false, nI_1]; rfl
            · rw [if_neg p0] at b2
              have ht2 := Ups.ut_lt hw hu hj p0
              by_cases q4 : U.ut i = U.ut j
              · rw [← q4] at b2
                have n4 : ¬ (1 : Int32) = 0 := by decide
                have f1 : ∀ t, t ≤ 5 → ∀ s, s ≤ 5 → (nI t = nI s ↔ t = s) := fun t _ s _ => nI_eq (by omega) (by omega)
                cases q
                · have e2 : bI false = 0 := rfl
                  by_cases r1 : U.uw i < 2
                  · have e3 : nI (U.uw i) < 2 := nI_lt r1 (by decide)
                    have e4 : ¬ nI (U.uw i) = 4 := fun z => by have := (f1 _ w1 4 (by decide)).mp z; omega
                    simp (maxSteps := 3000000) (disch := omega) only [Option.bind_some, tc_bs, tq_let, tc_I1, tc_I2, tc_J1, tc_J2, tc_J3, tc_F1, tc_F2, tc_F3, tc_F4, tc_G1, tc_G2, tc_G3, tc_G4, tc_G5, tc_us, tc_un, s_one, s_holds, s_J13_bitCount, bz_bI, f_X11_isAtOdds_b14, hM.f, u1, e1, e2, n1, n3, n4, e3, e4, x0, x1, y0, y1, a1, b1, a2, b2, if_true, if_false, nI_1]
                  · have e3 : ¬ nI (U.uw i) < 2 := nI_nlt (show 2 ≤ U.uw i by omega) (by omega)
                    have r2 : ¬ U.uw i = U.uw j := fun z => ho ⟨q1, q0, p0, q4, .inl ⟨by omega, z⟩⟩
                    have e5 : ¬ nI (U.uw i) = nI (U.uw j) := fun z => r2 ((f1 _ w1 _ w2).mp z)
                    by_cases r3 : U.uw i = 4
                    · have r4 : ¬ U.uw j = 1 := fun z => ho ⟨q1, q0, p0, q4, .inr ⟨r3, z⟩⟩
                      have e6 : ¬ nI (U.uw j) = 1 := fun z => r4 ((f1 _ w2 1 (by decide)).mp z)
                      rw [r3] at a1 e3 e5
                      have e4 : nI 4 = (4 : Int32) := rfl
                      simp (maxSteps := 3000000) (disch := omega) only [Option.bind_some, tc_bs, tq_let, tc_I1, tc_I2, tc_J1, tc_J2, tc_J3, tc_F1, tc_F2, tc_F3, tc_F4, tc_G1, tc_G2, tc_G3, tc_G4, tc_G5, tc_us, tc_un, s_one, s_holds, s_J13_bitCount, bz_bI, f_X11_isAtOdds_b14, hM.f, u1, e1, e2, n1, n3, n4, e3, e4, e5, e6, x0, x1, y0, y1, a1, b1, a2, b2, if_true, if_false, nI_1]
                      rw [e4] at e5 e3
                      simp only [if_neg e5, if_neg e3, Option.bind_some, if_false]
                    · have e4 : ¬ nI (U.uw i) = 4 := fun z => r3 ((f1 _ w1 4 (by decide)).mp z)
                      simp (maxSteps := 3000000) (disch := omega) only [Option.bind_some, tc_bs, tq_let, tc_I1, tc_I2, tc_J1, tc_J2, tc_J3, tc_F1, tc_F2, tc_F3, tc_F4, tc_G1, tc_G2, tc_G3, tc_G4, tc_G5, tc_us, tc_un, s_one, s_holds, s_J13_bitCount, bz_bI, f_X11_isAtOdds_b14, hM.f, u1, e1, e2, n1, n3, n4, e3, e4, e5, x0, x1, y0, y1, a1, b1, a2, b2, if_true, if_false, nI_1]
                · have e2 : ¬ bI true = 0 := by decide
                  simp (maxSteps := 3000000) (disch := omega) only [Option.bind_some, tc_bs, tq_let, tc_I1, tc_I2, tc_J1, tc_J2, tc_J3, tc_F1, tc_F2, tc_F3, tc_F4, tc_G1, tc_G2, tc_G3, tc_G4, tc_G5, tc_us, tc_un, s_one, s_holds, s_J13_bitCount, bz_bI, f_X11_isAtOdds_b14, hM.f, u1, e1, e2, n1, n3, n4, x0, x1, y0, y1, a1, b1, a2, b2, if_true, if_false, nI_1]; rfl
              · have n2 : ¬ nI (U.ut i) = nI (U.ut j) := fun z => q4 ((nI_eq (by omega) (by omega)).mp z)
                cases q
                · have e2 : bI false = 0 := rfl
                  simp (maxSteps := 3000000) (disch := omega) only [Option.bind_some, tc_bs, tq_let, tc_I1, tc_I2, tc_J1, tc_J2, tc_J3, tc_F1, tc_F2, tc_F3, tc_F4, tc_G1, tc_G2, tc_G3, tc_G4, tc_G5, tc_us, tc_un, s_one, s_holds, s_J13_bitCount, bz_bI, f_X11_isAtOdds_b14, hM.f, u1, e1, e2, n1, n2, n3, x0, x1, y0, y1, a2, b2, if_true, if_false, nI_1]
                · have e2 : ¬ bI true = 0 := by decide
                  simp (maxSteps := 3000000) (disch := omega) only [Option.bind_some, tc_bs, tq_let, tc_I1, tc_I2, tc_J1, tc_J2, tc_J3, tc_F1, tc_F2, tc_F3, tc_F4, tc_G1, tc_G2, tc_G3, tc_G4, tc_G5, tc_us, tc_un, s_one, s_holds, s_J13_bitCount, bz_bI, f_X11_isAtOdds_b14, hM.f, u1, e1, e2, n1, n2, n3, x0, x1, y0, y1, a2, b2, if_true, if_false, nI_1]; rfl
      have h1 : U.od i j = true → f_X11_isAtOdds_b14 155 (nI i) (tc_mk S c) (bI q, nI j) = some (.inl (bI true, nI (j + 1))) := fun ho => by
        obtain ⟨q1, q0, p0, q4, ho⟩ := of_decide_eq_true ho
        have n1 : ¬ nI i = nI j := fun z => q1 ((nI_eq (by omega) (by omega)).mp z)
        rw [if_neg q0] at a2
        rw [if_neg p0, ← q4] at b2
        have ht := Ups.ut_lt hw hu hi q0
        have n3 : ¬ nI (U.ut i) = (-1 : Int32) := nI_nm1 (by omega)
        have n4 : ¬ (1 : Int32) = 0 := by decide
        have f1 : ∀ t, t ≤ 5 → ∀ s, s ≤ 5 → (nI t = nI s ↔ t = s) := fun t _ s _ => nI_eq (by omega) (by omega)
        cases q
        · have e2 : bI false = 0 := rfl
          have e3 : ¬ nI (U.uw i) < 2 := nI_nlt (show 2 ≤ U.uw i by omega) (by omega)
          by_cases r2 : U.uw i = U.uw j
          · rw [← r2] at b1
            simp (maxSteps := 3000000) (disch := omega) only [Option.bind_some, tc_bs, tq_let, tc_I1, tc_I2, tc_J1, tc_J2, tc_J3, tc_F1, tc_F2, tc_F3, tc_F4, tc_G1, tc_G2, tc_G3, tc_G4, tc_G5, tc_us, tc_un, s_one, s_holds, s_J13_bitCount, bz_bI, f_X11_isAtOdds_b14, hM.f, u1, e1, e2, n1, n3, n4, e3, x0, x1, y0, y1, a1, b1, a2, b2, if_true, if_false, nI_1]; rfl
          · have e5 : ¬ nI (U.uw i) = nI (U.uw j) := fun z => r2 ((f1 _ w1 _ w2).mp z)
            have r3 : U.uw i = 4 ∧ U.uw j = 1 := by omega
            rw [r3.1] at a1
            rw [r3.2] at b1
            have a1 : c.1 167 (7 * i) = 4 := a1
            have b1 : c.1 167 (7 * j) = 1 := b1
            have e6 : ¬ (4 : Int32) < 2 := by decide
            have e7 : ¬ (4 : Int32) = 1 := by decide
            simp (maxSteps := 3000000) (disch := omega) only [Option.bind_some, tc_bs, tq_let, tc_I1, tc_I2, tc_J1, tc_J2, tc_J3, tc_F1, tc_F2, tc_F3, tc_F4, tc_G1, tc_G2, tc_G3, tc_G4, tc_G5, tc_us, tc_un, s_one, s_holds, s_J13_bitCount, bz_bI, f_X11_isAtOdds_b14, hM.f, u1, e1, e2, n1, n3, n4, e6, e7, x0, x1, y0, y1, a1, b1, a2, b2, if_true, if_false, nI_1]; rfl
        · have e2 : ¬ bI true = 0 := by decide
          simp (maxSteps := 3000000) (disch := omega) only [Option.bind_some, tc_bs, tq_let, tc_I1, tc_I2, tc_J1, tc_J2, tc_J3, tc_F1, tc_F2, tc_F3, tc_F4, tc_G1, tc_G2, tc_G3, tc_G4, tc_G5, tc_us, tc_un, s_one, s_holds, s_J13_bitCount, bz_bI, f_X11_isAtOdds_b14, hM.f, u1, e1, e2, n1, n3, n4, x0, x1, y0, y1, a1, b1, a2, b2, if_true, if_false, nI_1]; rfl
      cases ho : U.od i j with
      | false => rw [h0 ho, Bool.or_false]
      | true => rw [h1 ho, Bool.or_true]
    · have e1 : nI U.n ≥ nI U.n := Int32.le_refl _
      simp (maxSteps := 3000000) (disch := omega) only [Option.bind_some, tc_bs, tq_let, tc_I1, tc_I2, tc_J1, tc_J2, tc_J3, tc_F1, tc_F2, tc_F3, tc_F4, tc_G1, tc_G2, tc_G3, tc_G4, tc_G5, tc_us, tc_un, s_one, s_holds, s_J13_bitCount, bz_bI, f_X11_isAtOdds_b14, hM.f, u1, e1, if_true]
  have W := tc_iter (B := f_X11_isAtOdds_b4 155 (tc_mk S c)) U.n (fun i => (bI (anyB (fun i => anyB (U.od i) U.n) i), nI i)) (e := bI (anyB (fun i => anyB (U.od i) U.n) U.n)) (fun i hi => ?_) ?_ (by unfold tq_N; omega)
  · have W : tq_loop (f_X11_isAtOdds_b4 155 (tc_mk S c)) tq_N ((0 : Int32), (0 : Int32)) = some (bI (anyB (fun i => anyB (U.od i) U.n) U.n)) := W
    unfold f_X11_isAtOdds
    rw [W, Option.bind_some, bz_bI, Option.bind_some]
  · have e1 : ¬ nI i ≥ nI U.n := nI_ge hi (by omega)
    have e2 := inner i hi (anyB (fun i => anyB (U.od i) U.n) i)
    simp (maxSteps := 3000000) (disch := omega) only [Option.bind_some, tc_bs, tq_let, tc_I1, tc_I2, tc_J1, tc_J2, tc_J3, tc_F1, tc_F2, tc_F3, tc_F4, tc_G1, tc_G2, tc_G3, tc_G4, tc_G5, tc_us, tc_un, s_one, s_holds, s_J13_bitCount, bz_bI, f_X11_isAtOdds_b4, hM.f, u1, e1, e2, if_false, nI_1]
    rfl
  · have e1 : nI U.n ≥ nI U.n := Int32.le_refl _
    simp (maxSteps := 3000000) (disch := omega) only [Option.bind_some, tc_bs, tq_let, tc_I1, tc_I2, tc_J1, tc_J2, tc_J3, tc_F1, tc_F2, tc_F3, tc_F4, tc_G1, tc_G2, tc_G3, tc_G4, tc_G5, tc_us, tc_un, s_one, s_holds, s_J13_bitCount, bz_bI, f_X11_isAtOdds_b4, hM.f, u1, e1, if_true]
theorem s_X11_madeBehind (hM : tc_Mod S z) (h1 : c.2.2.1 155 1 = nI m) (hu : U.wf m D) (hUR : UR c U) : f_X11_madeBehind 155 (tc_mk S c) = some (nI (m + U.ins U.n)) := by
  obtain ⟨u1, u2, u3, u4, -⟩ := hUR
  have W := tc_iter (B := f_X11_madeBehind_b7 155 (tc_mk S c)) U.n (fun k => (nI (m + U.ins k), nI k)) (e := nI (m + U.ins U.n)) (fun k hk => ?_) ?_ (by unfold tq_N; omega)
  · have W : tq_loop (f_X11_madeBehind_b7 155 (tc_mk S c)) tq_N (nI m, (0 : Int32)) = some (nI (m + U.ins U.n)) := W
    simp (maxSteps := 3000000) (disch := omega) only [Option.bind_some, tc_bs, tq_let, tc_I1, tc_I2, tc_J1, tc_J2, tc_J3, tc_F1, tc_F2, tc_F3, tc_F4, tc_G1, tc_G2, tc_G3, tc_G4, tc_G5, tc_us, tc_un, s_one, s_holds, s_J13_bitCount, bz_bI, f_X11_madeBehind, hM.f, h1, W]
  · obtain ⟨x0, -⟩ := u7 k
    have a1 := u3 k hk
    have w1 := hu.2.1 k hk
    have e1 : ¬ nI k ≥ nI U.n := nI_ge hk (by omega)
    rw [U.ins_s]
    by_cases q : U.uw k = 0
    · rw [if_pos q]
      rw [q] at a1
      have a1 : c.1 167 (7 * k) = 0 := a1
      simp (maxSteps := 3000000) (disch := omega) only [Option.bind_some, tc_bs, tq_let, tc_I1, tc_I2, tc_J1, tc_J2, tc_J3, tc_F1, tc_F2, tc_F3, tc_F4, tc_G1, tc_G2, tc_G3, tc_G4, tc_G5, tc_us, tc_un, s_one, s_holds, s_J13_bitCount, bz_bI, f_X11_madeBehind_b7, hM.f, u1, e1, x0, a1, if_true, if_false, nI_1]; rfl
    · rw [if_neg q]
      have e2 : ¬ nI (U.uw k) = 0 := nI_ne0 (by omega) (by omega)
      have e3 : nI (m + U.ins k) + 0 = nI (m + U.ins k) := by rw [show (0 : Int32) = nI 0 from rfl, nI_add]; rfl
      simp (maxSteps := 3000000) (disch := omega) only [Option.bind_some, tc_bs, tq_let, tc_I1, tc_I2, tc_J1, tc_J2, tc_J3, tc_F1, tc_F2, tc_F3, tc_F4, tc_G1, tc_G2, tc_G3, tc_G4, tc_G5, tc_us, tc_un, s_one, s_holds, s_J13_bitCount, bz_bI, f_X11_madeBehind_b7, hM.f, u1, e1, x0, a1, e2, e3, if_true, if_false, nI_1]; rfl
  · have e1 : nI U.n ≥ nI U.n := Int32.le_refl _
    simp (maxSteps := 3000000) (disch := omega) only [Option.bind_some, tc_bs, tq_let, tc_I1, tc_I2, tc_J1, tc_J2, tc_J3, tc_F1, tc_F2, tc_F3, tc_F4, tc_G1, tc_G2, tc_G3, tc_G4, tc_G5, tc_us, tc_un, s_one, s_holds, s_J13_bitCount, bz_bI, f_X11_madeBehind_b7, hM.f, u1, e1, if_true]
/-- the old rows are remembered -/
def RMem (c : tc_C) (D : Doc) : Prop :=
  (∀ i, i < D.n → c.1 168 (D.ord i) = D.nm i ∧ c.1 169 (D.ord i) = D.vl i ∧ c.1 170 (D.ord i) = D.dc i ∧ c.1 171 (D.ord i) = D.upN i ∧ c.1 173 (D.ord i) = 1) ∧
  (∀ i, 0 < i → i < D.n → D.kd i ≠ 2 → c.1 172 (D.ord i) = nI (D.rk i)) ∧ ∀ v, v < 60 → (∀ i, i < D.n → D.ord i ≠ v) → c.1 173 v = 0
theorem s_X11_remember (hM : tc_Mod S z) (hb : ∀ v, v < 60 → ∃ r, c.1 163 v = bI r) : ∃ c', f_X11_remember 155 (tc_mk S c) = some (tc_mk S c') ∧ (∀ v, v < 60 → c'.1 168 v = c.1 157 v ∧ c'.1 169 v = c.1 158 v ∧ c'.1 170 v = c.1 159 v ∧ c'.1 171 v = c.1 160 v ∧ c'.1 172 v = c.1 161 v ∧ c'.1 173 v = c.1 163 v) ∧
    (∀ a, a < 168 ∨ 173 < a → c'.1 a = c.1 a) ∧ c'.2 = c.2 := by
  obtain ⟨y, y1, y2, y3, y4⟩ := tc_run (B := f_X11_remember_b2 155) 60 (fun k y => (nI k, tc_mk S y)) (fun k y => (∀ v, v < k → y.1 168 v = c.1 157 v ∧ y.1 169 v = c.1 158 v ∧ y.1 170 v = c.1 159 v ∧ y.1 171 v = c.1 160 v ∧ y.1 172 v = c.1 161 v ∧ y.1 173 v = c.1 163 v) ∧
    (∀ a, a < 168 ∨ 173 < a → y.1 a = c.1 a) ∧ y.2 = c.2) (fun y => tc_mk S y) (by omega) (fun k y hk hy => by
      obtain ⟨h1, h2, h3⟩ := hy
      have e1 : ¬ nI k ≥ 60 := nI_ge hk (by decide)
      obtain ⟨r, hr⟩ := hb k hk
      have e2 : y.1 163 k = bI r := by rw [h2 163 (by omega)]; exact hr
      refine ⟨_, by simp (maxSteps := 3000000) (disch := omega) only [Option.bind_some, tc_bs, tq_let, tc_I1, tc_I2, tc_J1, tc_J2, tc_J3, tc_F1, tc_F2, tc_F3, tc_F4, tc_G1, tc_G2, tc_G3, tc_G4, tc_G5, tc_us, tc_un, s_one, s_holds, s_J13_bitCount, bz_bI, f_X11_remember_b2, hM.f, e1, e2, if_false, nI_1]; rfl, fun v hv => ?_, fun a ha => ?_, ?_⟩
      · simp (maxSteps := 3000000) (disch := omega) only [Option.bind_some, tc_bs, tq_let, tc_I1, tc_I2, tc_J1, tc_J2, tc_J3, tc_F1, tc_F2, tc_F3, tc_F4, tc_G1, tc_G2, tc_G3, tc_G4, tc_G5, tc_us, tc_un, s_one, s_holds, s_J13_bitCount, bz_bI, if_true]
        rw [h2 157 (by omega), h2 158 (by omega), h2 159 (by omega), h2 160 (by omega), h2 161 (by omega), ← hr]
        by_cases q : v = k
        · subst q
          simp only [upd_s]
          exact ⟨trivial, trivial, trivial, trivial, trivial, trivial⟩
        · simp only [upd_n _ _ q]
          exact h1 v (by omega)
      · simp (maxSteps := 3000000) (disch := omega) only [Option.bind_some, tc_bs, tq_let, tc_I1, tc_I2, tc_J1, tc_J2, tc_J3, tc_F1, tc_F2, tc_F3, tc_F4, tc_G1, tc_G2, tc_G3, tc_G4, tc_G5, tc_us, tc_un, s_one, s_holds, s_J13_bitCount, bz_bI, if_true]
        exact h2 a ha
      · exact h3) (fun y hy => by
      have e1 : nI 60 ≥ (60 : Int32) := Int32.le_refl _
      simp only [f_X11_remember_b2, ↓reduceIte, e1]) (x := c) ⟨fun v hv => absurd hv (Nat.not_lt_zero _), fun a _ => rfl, rfl⟩
  refine ⟨y, ?_, y2, y3, y4⟩
  have y1 : tq_loop (f_X11_remember_b2 155) tq_N ((0 : Int32), tc_mk S c) = some (tc_mk S y) := y1
  unfold f_X11_remember
  rw [y1, Option.bind_some]
theorem RTree.bool (hR : RTree c D m) : ∀ v, v < 60 → ∃ r, c.1 163 v = bI r := fun v hv => by
  obtain ⟨-, -, r3, r4, -⟩ := hR
  by_cases q : ∃ i, i < D.n ∧ D.ord i = v
  · obtain ⟨i, hi, rfl⟩ := q
    exact ⟨true, r3 i hi⟩
  · exact ⟨false, r4 v hv fun i hi e => q ⟨i, hi, e⟩⟩
end RUP
