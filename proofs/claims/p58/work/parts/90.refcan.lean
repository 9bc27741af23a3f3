/-! ===== types of paths: the reference ===== -/
section INR
variable {S : tq_H} {c c' : tc_C} {p k d m r t z : Nat} {Z : Sma} {P : Pat} {A B : Nat → Bool}
theorem or0 (x : Int32) : x ||| 0 = x := b_ext fun j _ => by rw [b_or, bt_0, Bool.or_false]
theorem t8_bit1 (E : Nat → Bool) {m : Nat} (hm : m < 8) : ((tI E 8 >>> (nI m &&& 31)) &&& 1 = 1) ↔ E m = true := by
  rw [bt_sh1 _ (show m < 32 by omega), bt_t8 E 8 (Nat.le_refl _)]; simp [hm]
theorem s_X11_canHave (hM : tc_Mod S z) (hC : SR c Z) (A : Nat → Bool) : f_X11_canHave 155 (tI A 8) (tc_mk S c) = some (tI (st8 Z.H A) 8) := by
  have hg40 : tq_gr (tc_mk S c) 155 11 40 = some 187 := by simp (maxSteps := 3000000) (disch := omega) only [Option.bind_some, tc_bs, tq_let, tc_I1, tc_I2, tc_J1, tc_J2, tc_J3, tc_F1, tc_F2, tc_F3, tc_F4, tc_G1, tc_G2, tc_G3, tc_G4, tc_G5, tc_us, tc_un, s_one, s_holds, s_J13_bitCount, bz_bI, hM.f]
  have hg38 : tq_gr (tc_mk S c) 155 11 38 = some 185 := by simp (maxSteps := 3000000) (disch := omega) only [Option.bind_some, tc_bs, tq_let, tc_I1, tc_I2, tc_J1, tc_J2, tc_J3, tc_F1, tc_F2, tc_F3, tc_F4, tc_G1, tc_G2, tc_G3, tc_G4, tc_G5, tc_us, tc_un, s_one, s_holds, s_J13_bitCount, bz_bI, hM.f]
  have hg37 : tq_gr (tc_mk S c) 155 11 37 = some 184 := by simp (maxSteps := 3000000) (disch := omega) only [Option.bind_some, tc_bs, tq_let, tc_I1, tc_I2, tc_J1, tc_J2, tc_J3, tc_F1, tc_F2, tc_F3, tc_F4, tc_G1, tc_G2, tc_G3, tc_G4, tc_G5, tc_us, tc_un, s_one, s_holds, s_J13_bitCount, bz_bI, hM.f]
  let X : Nat → Nat → Bool := fun t x => anyB (fun y => A y && Z.H y x) t
  let M1 : Nat → Nat → Nat → Bool := fun t k x => decide (x < 6) && anyB (fun j => decide (j % 6 = x) && decide (Z.ar (24 * t + j) ≠ 0)) k
  have i1 : ∀ t, t < 6 → tq_loop (f_X11_canHave_b13 155 (tI A 8) (nI t) (tc_mk S c)) tq_N (tI (X t) 8, 0) = some (tI (fun x => X t x || (A t && M1 t 24 x)) 8) := fun t ht => by
    have hb := t8_bit1 A (show t < 8 by omega)
    cases q : A t with
    | false =>
      have : tI (fun x => X t x || (false && M1 t 24 x)) 8 = tI (X t) 8 := t8_cong fun x _ => by simp
      rw [this]
      refine tc_iter (B := f_X11_canHave_b13 155 (tI A 8) (nI t) (tc_mk S c)) 0 (fun _ => (tI (X t) 8, 0)) (fun _ h => by omega) ?_ (by unfold tq_N; omega)
      dsimp only [f_X11_canHave_b13]
      rw [if_neg (by decide), if_neg (fun w => by rw [hb.mp w] at q; cases q)]
    | true =>
      have W := tc_scan (B := f_X11_canHave_b13 155 (tI A 8) (nI t) (tc_mk S c)) 24 (fun k => tI (fun x => X t x || M1 t k x) 8) (e := tI (fun x => X t x || (true && M1 t 24 x)) 8) (by omega) (fun k hk => by
        have e3 : (24 : Int32) * nI t + nI k = nI (24 * t + k) := by rw [show (24 : Int32) = nI 24 from rfl, nI_mul, nI_add]
        have e2 : nI k - nI k / 6 * 6 = nI (k % 6) := pk_rem (d := 6) (by omega) (by decide) (by decide)
        have har : tq_ai (tc_mk S c) 187 (nI (24 * t + k)) = some (Z.ar (24 * t + k)) := by
          simp (maxSteps := 3000000) (disch := omega) only [Option.bind_some, tc_bs, tq_let, tc_I1, tc_I2, tc_J1, tc_J2, tc_J3, tc_F1, tc_F2, tc_F3, tc_F4, tc_G1, tc_G2, tc_G3, tc_G4, tc_G5, tc_us, tc_un, s_one, s_holds, s_J13_bitCount, bz_bI, hM.f, show 24 * t + k < 144 from by omega]
          rw [hC.2.2.2.1 _ (by omega)]
        dsimp only [f_X11_canHave_b13]
        rw [if_neg (show ¬ nI k ≥ 24 from nI_ge hk (by decide)), if_pos (hb.mpr q)]
        simp only [hg40, e3, har, e2, Option.bind_some, tq_let, nI_1, sh1 (k % 6) (by omega)]
        refine congrArg (fun y => (some (Sum.inl (y, nI (k + 1))) : Option ((Int32 × Int32) ⊕ Int32))) ?_
        by_cases w : Z.ar (24 * t + k) = 0
        · rw [if_pos w, or0]
          refine t8_cong fun x _ => ?_
          show (_ || (_ && anyB _ k)) = (_ || (_ && anyB _ (k + 1)))
          rw [anyB]; simp [w]
        · rw [if_neg w, t8_1 (by omega), t8_or]
          refine t8_cong fun x _ => ?_
          show ((_ || (_ && anyB _ k)) || decide (x = k % 6)) = (_ || (_ && anyB _ (k + 1)))
          rw [anyB]
          by_cases e : x = k % 6
          · subst e; simp [w, show k % 6 < 6 by omega]
          · simp [w, e, Ne.symm e]) (by
        dsimp only [f_X11_canHave_b13]
        rw [if_pos (show nI 24 ≥ 24 by decide)]
        exact congrArg (fun y => (some (Sum.inr y) : Option ((Int32 × Int32) ⊕ Int32))) (t8_cong fun x _ => by simp))
      have e0 : tI (fun x => X t x || M1 t 0 x) 8 = tI (X t) 8 := t8_cong fun x _ => by simp [M1, anyB]
      rw [e0] at W
      exact W
  let M2 : Nat → Nat → Nat → Bool := fun t a x => decide (x = 7) && anyB (fun a => decide (Z.ru (8 * t + a) ≠ 0)) a
  have i2 : ∀ t, t < 6 → ∀ Y : Nat → Bool, tq_loop (f_X11_canHave_b67 155 (tI A 8) (nI t) (tc_mk S c)) tq_N (tI Y 8, 0) = some (tI (fun x => Y x || (A t && M2 t 8 x)) 8) := fun t ht Y => by
    have hb := t8_bit1 A (show t < 8 by omega)
    cases q : A t with
    | false =>
      have : tI (fun x => Y x || (false && M2 t 8 x)) 8 = tI Y 8 := t8_cong fun x _ => by simp
      rw [this]
      refine tc_iter (B := f_X11_canHave_b67 155 (tI A 8) (nI t) (tc_mk S c)) 0 (fun _ => (tI Y 8, 0)) (fun _ h => by omega) ?_ (by unfold tq_N; omega)
      dsimp only [f_X11_canHave_b67]
      rw [if_neg (by decide), if_neg (fun w => by rw [hb.mp w] at q; cases q)]
    | true =>
      have W := tc_scan (B := f_X11_canHave_b67 155 (tI A 8) (nI t) (tc_mk S c)) 8 (fun k => tI (fun x => Y x || M2 t k x) 8) (e := tI (fun x => Y x || (true && M2 t 8 x)) 8) (by omega) (fun k hk => by
        have e3 : (8 : Int32) * nI t + nI k = nI (8 * t + k) := by rw [show (8 : Int32) = nI 8 from rfl, nI_mul, nI_add]
        have hru : tq_ai (tc_mk S c) 185 (nI (8 * t + k)) = some (Z.ru (8 * t + k)) := by
          simp (maxSteps := 3000000) (disch := omega) only [Option.bind_some, tc_bs, tq_let, tc_I1, tc_I2, tc_J1, tc_J2, tc_J3, tc_F1, tc_F2, tc_F3, tc_F4, tc_G1, tc_G2, tc_G3, tc_G4, tc_G5, tc_us, tc_un, s_one, s_holds, s_J13_bitCount, bz_bI, hM.f, show 8 * t + k < 48 from by omega]
          rw [hC.2.2.1 _ (by omega)]
        dsimp only [f_X11_canHave_b67]
        rw [if_neg (show ¬ nI k ≥ 8 from nI_ge hk (by decide)), if_pos (hb.mpr q)]
        simp only [hg38, e3, hru, Option.bind_some, tq_let, nI_1]
        refine congrArg (fun y => (some (Sum.inl (y, nI (k + 1))) : Option ((Int32 × Int32) ⊕ Int32))) ?_
        by_cases w : Z.ru (8 * t + k) = 0
        · rw [if_pos w, or0]
          refine t8_cong fun x _ => ?_
          show (_ || (_ && anyB _ k)) = (_ || (_ && anyB _ (k + 1)))
          rw [anyB]; simp [w]
        · rw [if_neg w, show (128 : Int32) = tI (fun x => decide (x = 7)) 8 by decide, t8_or]
          refine t8_cong fun x _ => ?_
          show ((_ || (_ && anyB _ k)) || decide (x = 7)) = (_ || (_ && anyB _ (k + 1)))
          rw [anyB]
          by_cases e : x = 7
          · subst e; simp [w]
          · simp [e]) (by
        dsimp only [f_X11_canHave_b67]
        rw [if_pos (show nI 8 ≥ 8 by decide)]
        exact congrArg (fun y => (some (Sum.inr y) : Option ((Int32 × Int32) ⊕ Int32))) (t8_cong fun x _ => by simp))
      have e0 : tI (fun x => Y x || M2 t 0 x) 8 = tI Y 8 := t8_cong fun x _ => by simp [M2, anyB]
      rw [e0] at W
      exact W
  have hHx : ∀ t, t < 6 → ∀ x, x < 8 → Z.H t x = ((M1 t 24 x || M2 t 8 x) || (decide (x = 6) && Z.tx t)) := fun t ht x hx => by
    unfold Sma.H
    rw [decide_eq_true ht, Bool.true_and]
    by_cases h6 : x < 6
    · rw [if_pos h6]
      have a6 : x ≠ 6 := by omega
      have a7 : x ≠ 7 := by omega
      have : anyB (fun f => decide (Z.ar (24 * t + 6 * f + x) ≠ 0)) 4 = M1 t 24 x := by
        show _ = (decide (x < 6) && anyB _ 24)
        rw [decide_eq_true h6, Bool.true_and]
        apply Bool.ext_iff
        rw [anyB_iff, anyB_iff]
        constructor
        · rintro ⟨f, hf, h⟩
          refine ⟨6 * f + x, by omega, ?_⟩
          rw [show (6 * f + x) % 6 = x by omega, show 24 * t + (6 * f + x) = 24 * t + 6 * f + x by omega, h]; simp
        · rintro ⟨j, hj, h⟩
          rw [Bool.and_eq_true, decide_eq_true_eq] at h
          refine ⟨j / 6, by omega, ?_⟩
          rw [show 24 * t + 6 * (j / 6) + x = 24 * t + j by omega]; exact h.2
      rw [this]
      show _ = ((M1 t 24 x || (decide (x = 7) && _)) || _)
      simp [a6, a7]
    · rw [if_neg h6]
      have m1 : M1 t 24 x = false := by show (decide (x < 6) && _) = false; simp [h6]
      rw [m1]
      by_cases e6 : x = 6
      · subst e6
        show Z.tx t = ((false || (decide (6 = 7) && _)) || _)
        simp
      · have e7 : x = 7 := by omega
        subst e7
        show anyB _ 8 = ((false || (decide (7 = 7) && anyB _ 8)) || _)
        simp
  have W := tc_scan (B := f_X11_canHave_b4 155 (tI A 8) (tc_mk S c)) 6 (fun t => tI (X t) 8) (e := tI (st8 Z.H A) 8) (by omega) (fun t ht => by
    have htx : tq_az (tc_mk S c) 184 (nI t) = some (bI (Z.tx t)) := by simp (maxSteps := 3000000) (disch := omega) only [Option.bind_some, tc_bs, tq_let, tc_I1, tc_I2, tc_J1, tc_J2, tc_J3, tc_F1, tc_F2, tc_F3, tc_F4, tc_G1, tc_G2, tc_G3, tc_G4, tc_G5, tc_us, tc_un, s_one, s_holds, s_J13_bitCount, bz_bI, hM.f, hC.2.2.2.2 t ht]
    have hb := t8_bit1 A (show t < 8 by omega)
    dsimp only [f_X11_canHave_b4]
    rw [if_neg (show ¬ nI t ≥ 6 from nI_ge ht (by decide)), i1 t ht, Option.bind_some, i2 t ht, Option.bind_some]
    have hp : (if (tI A 8 >>> (nI t &&& 31)) &&& 1 = 1 then (tq_gr (tc_mk S c) 155 11 37).bind fun k13 => (tq_az (tc_mk S c) k13 (nI t)).bind fun x14 => if x14 = 0 then some (0 : Int32) else some (64 : Int32) else some (0 : Int32)) = some (tI (fun x => A t && (decide (x = 6) && Z.tx t)) 8) := by
      cases q : A t with
      | false =>
        rw [if_neg (fun w => by rw [hb.mp w] at q; cases q), t8_0]; rfl
      | true =>
        rw [if_pos (hb.mpr q), hg37, Option.bind_some, htx, Option.bind_some]
        cases q2 : Z.tx t with
        | false => rw [if_pos (by decide), t8_0]; exact congrArg some (t8_cong fun x _ => by simp)
        | true => rw [if_neg (by decide), show (64 : Int32) = tI (fun x => decide (x = 6)) 8 by decide]; exact congrArg some (t8_cong fun x _ => by simp)
    rw [hp, Option.bind_some]
    simp only [tq_let, nI_1, t8_or]
    refine congrArg (fun y => (some (Sum.inl (y, nI (t + 1))) : Option ((Int32 × Int32) ⊕ Int32))) (t8_cong fun x hx => ?_)
    show (((X t x || (A t && M1 t 24 x)) || (A t && M2 t 8 x)) || (A t && (decide (x = 6) && Z.tx t))) = (X t x || (A t && Z.H t x))
    rw [hHx t ht x hx]
    cases A t <;> cases X t x <;> simp) (by
    dsimp only [f_X11_canHave_b4]
    rw [if_pos (show nI 6 ≥ 6 by decide)]
    refine congrArg (fun y => (some (Sum.inr y) : Option ((Int32 × Int32) ⊕ Int32))) (t8_cong fun x _ => ?_)
    apply Bool.ext_iff
    show anyB _ 6 = true ↔ anyB _ 8 = true
    rw [anyB_iff, anyB_iff]
    constructor
    · rintro ⟨y, hy, h⟩; exact ⟨y, by omega, h⟩
    · rintro ⟨y, hy, h⟩
      rw [Bool.and_eq_true] at h
      exact ⟨y, (Z.H_of h.2).1, by rw [h.1, h.2]; rfl⟩)
  have e0 : tI (X 0) 8 = 0 := by rw [t8_0]; rfl
  rw [e0] at W
  unfold f_X11_canHave
  rw [W]; rfl
theorem s_X11_allTypes (hM : tc_Mod S z) (hC : SR c Z) : f_X11_allTypes 155 (tc_mk S c) = some (tI Z.al 8) := by
  have his : tq_is (tc_mk S c) 155 11 = some () := by simp (maxSteps := 3000000) (disch := omega) only [Option.bind_some, tc_bs, tq_let, tc_I1, tc_I2, tc_J1, tc_J2, tc_J3, tc_F1, tc_F2, tc_F3, tc_F4, tc_G1, tc_G2, tc_G3, tc_G4, tc_G5, tc_us, tc_un, s_one, s_holds, s_J13_bitCount, bz_bI, hM.f]
  have W := tc_scan (B := f_X11_allTypes_b4 155 (tc_mk S c)) 7 (fun k => tI (itF (st8 Z.H) (fun x => decide (x = 0)) k) 8) (e := tI Z.al 8) (by omega) (fun k hk => by
    dsimp only [f_X11_allTypes_b4]
    rw [if_neg (show ¬ nI k > 6 from nI_nlt (show k ≤ 6 by omega) (by decide))]
    simp only [his, s_X11_canHave hM hC, Option.bind_some, tq_let, nI_1, t8_or]
    rfl) (by
    dsimp only [f_X11_allTypes_b4]
    rw [if_pos (show nI 7 > 6 by decide)]
    rfl)
  unfold f_X11_allTypes
  rw [show (1 : Int32) = tI (itF (st8 Z.H) (fun x => decide (x = 0)) 0) 8 from (show (1 : Int32) = tI (fun x => decide (x = 0)) 8 by decide), W]; rfl
theorem s_X11_childrenOf (hM : tc_Mod S z) (hC : SR c Z) (A : Nat → Bool) : f_X11_childrenOf 155 (tI A 8) (tc_mk S c) = some (tI (Z.chd A) 8) := by
  have his : tq_is (tc_mk S c) 155 11 = some () := by simp (maxSteps := 3000000) (disch := omega) only [Option.bind_some, tc_bs, tq_let, tc_I1, tc_I2, tc_J1, tc_J2, tc_J3, tc_F1, tc_F2, tc_F3, tc_F4, tc_G1, tc_G2, tc_G3, tc_G4, tc_G5, tc_us, tc_un, s_one, s_holds, s_J13_bitCount, bz_bI, hM.f]
  unfold f_X11_childrenOf
  simp only [his, s_X11_canHave hM hC, Option.bind_some]
  refine congrArg some (t8_of fun j hj => ?_)
  have : ∀ j, j < 32 → bt (-129) j = decide (j ≠ 7) := by decide +kernel
  rw [b_and, bt_t8 _ 8 (Nat.le_refl _), this j hj]
  unfold Sma.chd
  cases decide (j < 8) <;> rfl
theorem s_X11_parentsOf (hM : tc_Mod S z) (hC : SR c Z) (A : Nat → Bool) : f_X11_parentsOf 155 (tI A 8) (tI Z.al 8) (tc_mk S c) = some (tI (Z.par A) 8) := by
  have his : tq_is (tc_mk S c) 155 11 = some () := by simp (maxSteps := 3000000) (disch := omega) only [Option.bind_some, tc_bs, tq_let, tc_I1, tc_I2, tc_J1, tc_J2, tc_J3, tc_F1, tc_F2, tc_F3, tc_F4, tc_G1, tc_G2, tc_G3, tc_G4, tc_G5, tc_us, tc_un, s_one, s_holds, s_J13_bitCount, bz_bI, hM.f]
  have W := tc_scan (B := f_X11_parentsOf_b5 155 (tI A 8) (tI Z.al 8) (tc_mk S c)) 6 (fun t => tI (fun u => decide (u < t) && Z.par A u) 8) (e := tI (Z.par A) 8) (by omega) (fun t ht => by
    have hb := t8_bit1 Z.al (show t < 8 by omega)
    have hst : st8 Z.H (fun x => decide (x = t)) = Z.H t := funext fun x => by
      unfold st8
      apply Bool.ext_iff
      rw [anyB_iff]
      constructor
      · rintro ⟨y, hy, h⟩
        rw [Bool.and_eq_true, decide_eq_true_eq] at h
        rw [← h.1]; exact h.2
      · intro h; exact ⟨t, by omega, by rw [h]; simp⟩
    dsimp only [f_X11_parentsOf_b5]
    rw [if_neg (show ¬ nI t ≥ 6 from nI_ge ht (by decide)), sh1 t (by omega), t8_1 (show t < 8 by omega)]
    have hp : (if (tI Z.al 8 >>> (nI t &&& 31)) &&& 1 = 1 then (tq_is (tc_mk S c) 155 11).bind fun _ => (f_X11_canHave 155 (tI (fun x => decide (x = t)) 8) (tc_mk S c)).bind fun v1 => if (v1 &&& tI A 8) = 0 then some (0 : Int32) else some (tI (fun x => decide (x = t)) 8) else some (0 : Int32)) = some (tI (fun u => decide (u = t) && Z.par A u) 8) := by
      cases q : Z.al t with
      | false =>
        rw [if_neg (fun w => by rw [hb.mp w] at q; cases q), t8_0]
        refine congrArg some (t8_cong fun u _ => ?_)
        by_cases e : u = t
        · subst e; unfold Sma.par; simp [q]
        · simp [e]
      | true =>
        rw [if_pos (hb.mpr q), his, Option.bind_some, s_X11_canHave hM hC, Option.bind_some, hst, t8_and]
        cases q2 : anyB (fun x => Z.H t x && A x) 8 with
        | false =>
          rw [if_pos ((t8_z _).mpr q2), t8_0]
          refine congrArg some (t8_cong fun u _ => ?_)
          by_cases e : u = t
          · subst e
            have : anyB (fun x => A x && Z.H u x) 8 = false := by rw [← q2]; exact anyB_cong fun x _ => Bool.and_comm _ _
            unfold Sma.par; simp [this]
          · simp [e]
        | true =>
          rw [if_neg (fun w => by rw [(t8_z _).mp w] at q2; cases q2)]
          refine congrArg some (t8_cong fun u _ => ?_)
          by_cases e : u = t
          · subst e
            have : anyB (fun x => A x && Z.H u x) 8 = true := by rw [← q2]; exact anyB_cong fun x _ => Bool.and_comm _ _
            unfold Sma.par; simp [this, q]
          · simp [e]
    rw [hp, Option.bind_some]
    simp only [tq_let, nI_1, t8_or]
    refine congrArg (fun y => (some (Sum.inl (y, nI (t + 1))) : Option ((Int32 × Int32) ⊕ Int32))) (t8_cong fun u _ => ?_)
    by_cases e : u = t
    · subst e; simp
    · simp [e, show (u < t + 1) ↔ u < t by omega]) (by
    dsimp only [f_X11_parentsOf_b5]
    rw [if_pos (show nI 6 ≥ 6 by decide)]
    refine congrArg (fun y => (some (Sum.inr y) : Option ((Int32 × Int32) ⊕ Int32))) (t8_cong fun u _ => ?_)
    cases q : Z.par A u with
    | false => simp
    | true =>
      unfold Sma.par at q
      rw [Bool.and_eq_true] at q
      obtain ⟨y, _, h⟩ := anyB_iff.mp q.2
      rw [Bool.and_eq_true] at h
      have := (Z.H_of h.2).1
      simp [this])
  have e0 : tI (fun u => decide (u < 0) && Z.par A u) 8 = 0 := by rw [t8_0]; exact t8_cong fun u _ => by simp
  rw [e0] at W
  unfold f_X11_parentsOf
  rw [W]; rfl
theorem s_X11_left (hM : tc_Mod S z) (hC : SR c Z) (ht : t < 14) (A : Nat → Bool) : f_X11_left 155 (nI t) (tI A 8) (tc_mk S c) = some (tI (fun x => A x && Z.tst t x) 8) := by
  have hg36 : tq_gr (tc_mk S c) 155 11 36 = some 183 := by simp (maxSteps := 3000000) (disch := omega) only [Option.bind_some, tc_bs, tq_let, tc_I1, tc_I2, tc_J1, tc_J2, tc_J3, tc_F1, tc_F2, tc_F3, tc_F4, tc_G1, tc_G2, tc_G3, tc_G4, tc_G5, tc_us, tc_un, s_one, s_holds, s_J13_bitCount, bz_bI, hM.f]
  have h8 : (nI t ≥ 8) ↔ 8 ≤ t := nI_leI (show 8 < 2 ^ 31 by decide) (by omega)
  have W := tc_scan (B := f_X11_left_b5 155 (nI t) (tI A 8) (tc_mk S c)) 6 (fun k => tI (fun x => decide (x < k) && (decide (8 ≤ t) || decide (Z.nm x = nI t))) 8) (e := tI (fun x => decide (x < 6) && (decide (8 ≤ t) || decide (Z.nm x = nI t))) 8) (by omega) (fun k hk => by
    have hnm : tq_ai (tc_mk S c) 183 (nI k) = some (Z.nm k) := by simp (maxSteps := 3000000) (disch := omega) only [Option.bind_some, tc_bs, tq_let, tc_I1, tc_I2, tc_J1, tc_J2, tc_J3, tc_F1, tc_F2, tc_F3, tc_F4, tc_G1, tc_G2, tc_G3, tc_G4, tc_G5, tc_us, tc_un, s_one, s_holds, s_J13_bitCount, bz_bI, hM.f, hC.1 k hk]
    dsimp only [f_X11_left_b5]
    rw [if_neg (show ¬ nI k ≥ 6 from nI_ge hk (by decide)), sh1 k (by omega), t8_1 (show k < 8 by omega)]
    have hp : (if nI t ≥ 8 then some (tI (fun x => decide (x = k)) 8) else (tq_gr (tc_mk S c) 155 11 36).bind fun k1 => (tq_ai (tc_mk S c) k1 (nI k)).bind fun x2 => if x2 = nI t then some (tI (fun x => decide (x = k)) 8) else some (0 : Int32)) = some (tI (fun x => decide (x = k) && (decide (8 ≤ t) || decide (Z.nm x = nI t))) 8) := by
      by_cases q : 8 ≤ t
      · rw [if_pos (h8.mpr q)]
        exact congrArg some (t8_cong fun x _ => by simp [q])
      · rw [if_neg (fun w => q (h8.mp w)), hg36, Option.bind_some, hnm, Option.bind_some]
        by_cases w : Z.nm k = nI t
        · rw [if_pos w]
          refine congrArg some (t8_cong fun x _ => ?_)
          by_cases e : x = k
          · subst e; simp [w]
          · simp [e]
        · rw [if_neg w, t8_0]
          refine congrArg some (t8_cong fun x _ => ?_)
          by_cases e : x = k
          · subst e; simp [w, q]
          · simp [e]
    rw [hp, Option.bind_some]
    simp only [tq_let, nI_1, t8_or]
    refine congrArg (fun y => (some (Sum.inl (y, nI (k + 1))) : Option ((Int32 × Int32) ⊕ Int32))) (t8_cong fun x _ => ?_)
    by_cases e : x = k
    · subst e; simp
    · simp [e, show (x < k + 1) ↔ x < k by omega]) (by
    dsimp only [f_X11_left_b5]
    rw [if_pos (show nI 6 ≥ 6 by decide)])
  have e0 : tI (fun x => decide (x < 0) && (decide (8 ≤ t) || decide (Z.nm x = nI t))) 8 = 0 := by rw [t8_0]; exact t8_cong fun u _ => by simp
  rw [e0] at W
  unfold f_X11_left
  rw [W, Option.bind_some]
  simp only [tq_let]
  by_cases q : 8 ≤ t
  · rw [if_pos (h8.mpr q)]
    by_cases q8 : t = 8
    · subst q8
      rw [if_pos (show nI 8 = 8 from rfl)]
      exact congrArg some (t8_cong fun x hx => by simp [Sma.tst, hx])
    · rw [if_neg (show ¬ nI t = 8 from fun w => q8 ((nI_eq (by omega) (show 8 < 2 ^ 31 by decide)).mp w))]
      by_cases q9 : t = 9
      · subst q9
        rw [if_pos (show nI 9 = 9 from rfl), show (64 : Int32) = tI (fun x => decide (x = 6)) 8 by decide, t8_and]
        exact congrArg some (t8_cong fun x hx => by simp [Sma.tst])
      · rw [if_neg (show ¬ nI t = 9 from fun w => q9 ((nI_eq (by omega) (show 9 < 2 ^ 31 by decide)).mp w)), t8_and]
        refine congrArg some (t8_cong fun x hx => ?_)
        unfold Sma.tst
        rw [if_neg (by omega), if_neg q8, if_neg q9]; simp [q]
  · rw [if_neg (fun w => q (h8.mp w)), show (128 : Int32) = tI (fun x => decide (x = 7)) 8 by decide, t8_or, t8_and]
    refine congrArg some (t8_cong fun x hx => ?_)
    unfold Sma.tst
    rw [if_pos (by omega)]
    simp [q, Bool.or_comm]
end INR
