/-! ===== types of paths: the class ===== -/
section TLL
variable {S : tq_H} {c c' : tc_C} {p k d m r t : Nat} {Z : Sma} {P : Pat} {T : Nat → Nat → Nat → Bool}
theorem Sma.H_of (Z : Sma) {t x : Nat} (h : Z.H t x = true) : t < 6 ∧ x < 8 := by
  unfold Sma.H at h
  rw [Bool.and_eq_true, decide_eq_true_eq] at h
  refine ⟨h.1, ?_⟩
  have h2 := h.2
  by_cases a : x < 6
  · omega
  · rw [if_neg a] at h2
    by_cases b : x = 6
    · omega
    · rw [if_neg b] at h2
      by_cases e : x = 7
      · omega
      · rw [if_neg e] at h2; cases h2
theorem s_possible (hS : tc_Sch S 131) (hC : SC c Z) (ht : t < 6) : f_X6_possible 131 (nI t) (tc_mk S c) = some (tI (Z.H t) 8) := by
  have hg3 : tq_gr (tc_mk S c) 131 6 3 = some 138 := by simp (maxSteps := 3000000) (disch := omega) only [Option.bind_some, tc_bs, tq_let, tc_I1, tc_I2, tc_J1, tc_J2, tc_J3, tc_F1, tc_F2, tc_F3, tc_F4, tc_G1, tc_G2, tc_G3, tc_G4, tc_G5, tc_us, tc_un, s_one, s_holds, s_J13_bitCount, bz_bI, hS.f]
  have hi3 : tq_is (tc_mk S c) 138 5 = some () := by simp (maxSteps := 3000000) (disch := omega) only [Option.bind_some, tc_bs, tq_let, tc_I1, tc_I2, tc_J1, tc_J2, tc_J3, tc_F1, tc_F2, tc_F3, tc_F4, tc_G1, tc_G2, tc_G3, tc_G4, tc_G5, tc_us, tc_un, s_one, s_holds, s_J13_bitCount, bz_bI, hS.f]
  have hg2 : tq_gr (tc_mk S c) 131 6 2 = some 136 := by simp (maxSteps := 3000000) (disch := omega) only [Option.bind_some, tc_bs, tq_let, tc_I1, tc_I2, tc_J1, tc_J2, tc_J3, tc_F1, tc_F2, tc_F3, tc_F4, tc_G1, tc_G2, tc_G3, tc_G4, tc_G5, tc_us, tc_un, s_one, s_holds, s_J13_bitCount, bz_bI, hS.f]
  have hi2 : tq_is (tc_mk S c) 136 5 = some () := by simp (maxSteps := 3000000) (disch := omega) only [Option.bind_some, tc_bs, tq_let, tc_I1, tc_I2, tc_J1, tc_J2, tc_J3, tc_F1, tc_F2, tc_F3, tc_F4, tc_G1, tc_G2, tc_G3, tc_G4, tc_G5, tc_us, tc_un, s_one, s_holds, s_J13_bitCount, bz_bI, hS.f]
  have hgx : tq_gi (tc_mk S c) 131 6 8 = some (c.2.2.1 131 8) := by simp (maxSteps := 3000000) (disch := omega) only [Option.bind_some, tc_bs, tq_let, tc_I1, tc_I2, tc_J1, tc_J2, tc_J3, tc_F1, tc_F2, tc_F3, tc_F4, tc_G1, tc_G2, tc_G3, tc_G4, tc_G5, tc_us, tc_un, s_one, s_holds, s_J13_bitCount, bz_bI, hS.f]
  have or0 : ∀ x : Int32, x ||| 0 = x := fun x => b_ext fun j _ => by rw [b_or, bt_0, Bool.or_false]
  let A : Nat → Nat → Nat → Bool := fun f b x => (decide (x < 6) && (anyB (fun f => decide (Z.ar (24 * t + 6 * f + x) ≠ 0)) f || (decide (x < b) && decide (Z.ar (24 * t + 6 * f + x) ≠ 0)))) || (decide (x = 6) && Z.tx t)
  have e6 : ((c.2.2.1 131 8 >>> (nI t &&& 31)) &&& 1) <<< ((6 : Int32) &&& 31) = tI (A 0 0) 8 := by
    have h1 : ((c.2.2.1 131 8 >>> (nI t &&& 31)) &&& 1) = bI (Z.tx t) := by
      cases q : Z.tx t with
      | true => exact (bt_sh1 _ (show t < 32 by omega)).mpr (by rw [hC.2.2.2.2 t ht]; exact q)
      | false => exact (bt_sh _ (show t < 32 by omega)).mpr (by rw [hC.2.2.2.2 t ht]; exact q)
    rw [h1]
    cases q : Z.tx t with
    | true =>
      rw [show bI true <<< ((6 : Int32) &&& 31) = tI (fun x => decide (x = 6)) 8 by decide]
      refine t8_cong fun j hj => ?_
      simp [A, q, anyB]
    | false =>
      rw [show bI false <<< ((6 : Int32) &&& 31) = tI (fun x => false) 8 by decide]
      refine t8_cong fun j hj => ?_
      simp [A, q, anyB]
  have inner : ∀ f, f < 4 → tq_loop (f_X6_possible_b22 131 (nI t) (nI f) (tc_mk S c)) tq_N (tI (A f 0) 8, 0) = some (tI (A (f + 1) 0) 8) := fun f hf => by
    have W := tc_scan (B := f_X6_possible_b22 131 (nI t) (nI f) (tc_mk S c)) 6 (fun b => tI (A f b) 8) (e := tI (A (f + 1) 0) 8) (by omega) (fun b hb => by
      have hat : f_X6_arcAt (nI t) (nI f) (nI b) (tc_mk S c) = some (nI (24 * t + 6 * f + b)) := by
        unfold f_X6_arcAt
        rw [show (4 : Int32) = nI 4 from rfl, nI_mul, nI_add, show (6 : Int32) = nI 6 from rfl, nI_mul, nI_add]
        congr 2; omega
      have hgt : f_X5_get 138 (nI (24 * t + 6 * f + b)) (tc_mk S c) = some (Z.ar (24 * t + 6 * f + b)) := by
        simp (maxSteps := 3000000) (disch := omega) only [Option.bind_some, tc_bs, tq_let, tc_I1, tc_I2, tc_J1, tc_J2, tc_J3, tc_F1, tc_F2, tc_F3, tc_F4, tc_G1, tc_G2, tc_G3, tc_G4, tc_G5, tc_us, tc_un, s_one, s_holds, s_J13_bitCount, bz_bI, hS.f, rg_in _ (show 24 * t + 6 * f + b < 144 by omega) (show 144 < 2 ^ 31 by decide)]
        rw [hC.2.2.2.1 _ (by omega)]
      dsimp only [f_X6_possible_b22]
      rw [if_neg (show ¬ nI b ≥ 6 from nI_ge hb (by decide))]
      simp only [hg3, hat, hi3, hgt, Option.bind_some, tq_let, sh1 b (by omega), nI_1]
      have hb1 : nI (2 ^ b) = tI (fun x => decide (x = b)) 8 := t8_of fun j _ => by
        have hp : ∀ k, k < 6 → 2 ^ k < 2 ^ 32 := by decide
        rw [bt_nI (hp b hb), Nat.testBit_two_pow]
        by_cases q : j = b
        · subst q; simp; omega
        · simp [q, Ne.symm q]
      refine congrArg (fun y => (some (Sum.inl (y, nI (b + 1))) : Option ((Int32 × Int32) ⊕ Int32))) ?_
      by_cases q : Z.ar (24 * t + 6 * f + b) = 0
      · rw [if_pos q, or0]
        refine t8_cong fun j hj => ?_
        show ((_ && (_ || (decide (j < b) && _))) || _) = ((_ && (_ || (decide (j < b + 1) && _))) || _)
        by_cases e : j = b
        · subst e; simp [q]
        · simp [show (j < b + 1) ↔ j < b by omega]
      · rw [if_neg q, hb1, t8_or]
        refine t8_cong fun j hj => ?_
        show (((_ && (_ || (decide (j < b) && _))) || _) || decide (j = b)) = ((_ && (_ || (decide (j < b + 1) && _))) || _)
        by_cases e : j = b
        · subst e; simp [q, hb]
        · simp [e, show (j < b + 1) ↔ j < b by omega]) (by
      show some (Sum.inr (tI (A f 6) 8)) = some (Sum.inr (tI (A (f + 1) 0) 8))
      refine congrArg (fun y => (some (Sum.inr y) : Option ((Int32 × Int32) ⊕ Int32))) (t8_cong fun j hj => ?_)
      show ((_ && (_ || (decide (j < 6) && _))) || _) = ((_ && (anyB _ (f + 1) || (decide (j < 0) && _))) || _)
      rw [anyB]
      by_cases e : j < 6 <;> simp [e])
    exact W
  have W1 := tc_scan (B := f_X6_possible_b14 131 (nI t) (tc_mk S c)) 4 (fun f => tI (A f 0) 8) (e := tI (A 4 0) 8) (by omega) (fun f hf => by
    dsimp only [f_X6_possible_b14]
    rw [if_neg (show ¬ nI f ≥ 4 from nI_ge hf (by decide)), inner f hf, Option.bind_some]
    simp only [tq_let, nI_1]) (by rfl)
  have W2 := tc_scan (B := f_X6_possible_b71 131 (nI t) (tc_mk S c)) 8 (fun a => tI (fun x => A 4 0 x || (decide (x = 7) && anyB (fun a => decide (Z.ru (8 * t + a) ≠ 0)) a)) 8) (e := tI (Z.H t) 8) (by omega) (fun a ha => by
    have e1 : nI t * 8 + nI a = nI (8 * t + a) := by rw [show (8 : Int32) = nI 8 from rfl, nI_mul, nI_add, Nat.mul_comm]
    have hgt : f_X5_get 136 (nI (8 * t + a)) (tc_mk S c) = some (Z.ru (8 * t + a)) := by
      simp (maxSteps := 3000000) (disch := omega) only [Option.bind_some, tc_bs, tq_let, tc_I1, tc_I2, tc_J1, tc_J2, tc_J3, tc_F1, tc_F2, tc_F3, tc_F4, tc_G1, tc_G2, tc_G3, tc_G4, tc_G5, tc_us, tc_un, s_one, s_holds, s_J13_bitCount, bz_bI, hS.f, rg_in _ (show 8 * t + a < 48 by omega) (show 48 < 2 ^ 31 by decide)]
      rw [hC.2.2.1 _ (by omega)]
    dsimp only [f_X6_possible_b71]
    rw [if_neg (show ¬ nI a ≥ 8 from nI_ge ha (by decide)), e1]
    simp only [hg2, hi2, hgt, Option.bind_some, tq_let, nI_1]
    have h7 : (128 : Int32) = tI (fun x => decide (x = 7)) 8 := by decide
    refine congrArg (fun y => (some (Sum.inl (y, nI (a + 1))) : Option ((Int32 × Int32) ⊕ Int32))) ?_
    by_cases q : Z.ru (8 * t + a) = 0
    · rw [if_pos q, or0]
      refine t8_cong fun j hj => ?_
      show (_ || (_ && anyB _ a)) = (_ || (_ && anyB _ (a + 1)))
      rw [anyB]; simp [q]
    · rw [if_neg q, h7, t8_or]
      refine t8_cong fun j hj => ?_
      show ((_ || (_ && anyB _ a)) || _) = (_ || (_ && anyB _ (a + 1)))
      rw [anyB]
      simp only [q, ne_eq, not_false_eq_true, decide_true, Bool.or_true, Bool.and_true]
      cases A 4 0 j <;> cases decide (j = 7) <;> cases anyB (fun a => decide (Z.ru (8 * t + a) ≠ 0)) a <;> rfl) (by
    dsimp only [f_X6_possible_b71]
    rw [if_pos (show nI 8 ≥ 8 by decide)]
    refine congrArg (fun y => (some (Sum.inr y) : Option ((Int32 × Int32) ⊕ Int32))) (t8_cong fun j hj => ?_)
    unfold Sma.H
    rw [decide_eq_true ht, Bool.true_and]
    show (((decide (j < 6) && (_ || (decide (j < 0) && _))) || _) || _) = _
    by_cases e6 : j < 6
    · have h6 : j ≠ 6 := by omega
      have h7 : j ≠ 7 := by omega
      rw [if_pos e6]; simp [e6, h6, h7]
    · rw [if_neg e6]
      by_cases e : j = 6
      · subst e; simp
      · have : j = 7 := by omega
        subst this; simp)
  have e0 : tI (fun x => A 4 0 x || (decide (x = 7) && anyB (fun a => decide (Z.ru (8 * t + a) ≠ 0)) 0)) 8 = tI (A 4 0) 8 := t8_cong fun j _ => by simp [anyB]
  rw [e0] at W2
  unfold f_X6_possible
  simp only [hgx, Option.bind_some, tq_let]
  rw [e6, W1, Option.bind_some, W2]
  rfl
/-- what telling changes -/
def Sf (c c' : tc_C) : Prop :=
  (∀ a, a < 143 ∨ 147 < a → c'.1 a = c.1 a) ∧ c'.2.1 = c.2.1 ∧ (∀ a, a ≠ 131 → c'.2.2.1 a = c.2.2.1 a) ∧ (∀ k, k ≠ 9 → c'.2.2.1 131 k = c.2.2.1 131 k) ∧ c'.2.2.2.1 = c.2.2.2.1 ∧ c'.2.2.2.2 = c.2.2.2.2
theorem Sf.refl (c : tc_C) : Sf c c := ⟨fun _ _ => rfl, rfl, fun _ _ => rfl, fun _ _ => rfl, rfl, rfl⟩
theorem Sf.trans {c'' : tc_C} (h : Sf c c') (g : Sf c' c'') : Sf c c'' := ⟨fun a z => (g.1 a z).trans (h.1 a z), g.2.1.trans h.2.1, fun a z => (g.2.2.1 a z).trans (h.2.2.1 a z), fun a z => (g.2.2.2.1 a z).trans (h.2.2.2.1 a z), g.2.2.2.2.1.trans h.2.2.2.2.1, g.2.2.2.2.2.trans h.2.2.2.2.2⟩
theorem Sf.I {a : Nat} (f : Nat → Int32) (h1 : 143 ≤ a) (h2 : a ≤ 147) : Sf c (tc_I c a f) := ⟨fun x hx => by rw [tc_I1, tc_un _ _ (by omega)], rfl, fun _ _ => rfl, fun _ _ => rfl, rfl, rfl⟩
theorem Sf.F (x : Int32) : Sf c (tc_F c 131 9 x) := ⟨fun _ _ => rfl, rfl, fun a h => by rw [tc_F3, tc_un _ _ h], fun k h => by rw [tc_F3, tc_us, tc_un _ _ h], rfl, rfl⟩
theorem SC.sf (h : SC c Z) (k : Sf c c') : SC c' Z := by
  obtain ⟨k1, k2, k3, k4, -⟩ := k
  unfold SC
  rw [k1 133 (by omega), k1 135 (by omega), k1 137 (by omega), k1 139 (by omega), k4 8 (by omega)]
  exact h
theorem PC.sf (h : PC c 98 P) (k : Sf c c') : PC c' 98 P := by
  obtain ⟨k1, k2, k3, k4, -⟩ := k
  unfold PC at h ⊢
  rw [k1 (98 + 2) (by omega), k1 (98 + 4) (by omega), k1 (98 + 6) (by omega), k1 (98 + 8) (by omega), k1 (98 + 10) (by omega), k1 (98 + 12) (by omega), k1 (98 + 14) (by omega), k1 (98 + 16) (by omega), k1 (98 + 18) (by omega), k3 98 (by omega)]
  exact h
/-- what has been learnt -/
def Lrn (c : tc_C) (Z : Sma) : Prop := (∀ t, t < 8 → c.1 143 t = tI (Z.H t) 8) ∧ (∀ t, t < 8 → c.1 145 t = tI (Z.Hv t) 8) ∧ c.2.2.1 131 9 = tI Z.al 8
end TLL
