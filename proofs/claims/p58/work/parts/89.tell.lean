/-! ===== types of paths: the class, done ===== -/
section TEL
variable {S : tq_H} {c c' : tc_C} {p k d m r t : Nat} {Z : Sma} {P : Pat} {T : Nat → Nat → Nat → Bool} {A : Nat → Bool}
theorem t8_1 {b : Nat} (hb : b < 8) : nI (2 ^ b) = tI (fun x => decide (x = b)) 8 := t8_of fun j _ => by
  have hp : ∀ k, k < 8 → 2 ^ k < 2 ^ 32 := by decide
  rw [bt_nI (hp b hb), Nat.testBit_two_pow]
  by_cases q : j = b
  · subst q; simp; omega
  · simp [q, Ne.symm q]
theorem t8_0 : (0 : Int32) = tI (fun _ => false) 8 := by decide
theorem t8_bit (E : Nat → Bool) {m : Nat} (hm : m < 8) : ((tI E 8 >>> (nI m &&& 31)) &&& 1 = 0) ↔ E m = false := by
  rw [bt_sh _ (show m < 32 by omega), bt_t8 E 8 (Nat.le_refl _)]; simp [hm]
theorem s_learn (hS : tc_Sch S 131) (hC : SC c Z) : ∃ c', f_X6_learn 131 (tc_mk S c) = some (tc_mk S c') ∧ Sf c c' ∧ Lrn c' Z := by
  have hg5 : ∀ x, tq_gr (tc_mk S x) 131 6 5 = some 142 := fun x => by simp (maxSteps := 3000000) (disch := omega) only [Option.bind_some, tc_bs, tq_let, tc_I1, tc_I2, tc_J1, tc_J2, tc_J3, tc_F1, tc_F2, tc_F3, tc_F4, tc_G1, tc_G2, tc_G3, tc_G4, tc_G5, tc_us, tc_un, s_one, s_holds, s_J13_bitCount, bz_bI, hS.f]
  have hi5 : ∀ x, tq_is (tc_mk S x) 142 5 = some () := fun x => by simp (maxSteps := 3000000) (disch := omega) only [Option.bind_some, tc_bs, tq_let, tc_I1, tc_I2, tc_J1, tc_J2, tc_J3, tc_F1, tc_F2, tc_F3, tc_F4, tc_G1, tc_G2, tc_G3, tc_G4, tc_G5, tc_us, tc_un, s_one, s_holds, s_J13_bitCount, bz_bI, hS.f]
  have hg6 : ∀ x, tq_gr (tc_mk S x) 131 6 6 = some 144 := fun x => by simp (maxSteps := 3000000) (disch := omega) only [Option.bind_some, tc_bs, tq_let, tc_I1, tc_I2, tc_J1, tc_J2, tc_J3, tc_F1, tc_F2, tc_F3, tc_F4, tc_G1, tc_G2, tc_G3, tc_G4, tc_G5, tc_us, tc_un, s_one, s_holds, s_J13_bitCount, bz_bI, hS.f]
  have hi6 : ∀ x, tq_is (tc_mk S x) 144 5 = some () := fun x => by simp (maxSteps := 3000000) (disch := omega) only [Option.bind_some, tc_bs, tq_let, tc_I1, tc_I2, tc_J1, tc_J2, tc_J3, tc_F1, tc_F2, tc_F3, tc_F4, tc_G1, tc_G2, tc_G3, tc_G4, tc_G5, tc_us, tc_un, s_one, s_holds, s_J13_bitCount, bz_bI, hS.f]
  have ha5 : ∀ x y, f_X5_setAll 142 y (tc_mk S x) = some (tc_mk S (tc_I x 143 (fun j => if j < 8 then y else x.1 143 j))) := fun x y => by simp (maxSteps := 3000000) (disch := omega) only [Option.bind_some, tc_bs, tq_let, tc_I1, tc_I2, tc_J1, tc_J2, tc_J3, tc_F1, tc_F2, tc_F3, tc_F4, tc_G1, tc_G2, tc_G3, tc_G4, tc_G5, tc_us, tc_un, s_one, s_holds, s_J13_bitCount, bz_bI, hS.f]
  have ha6 : ∀ x y, f_X5_setAll 144 y (tc_mk S x) = some (tc_mk S (tc_I x 145 (fun j => if j < 8 then y else x.1 145 j))) := fun x y => by simp (maxSteps := 3000000) (disch := omega) only [Option.bind_some, tc_bs, tq_let, tc_I1, tc_I2, tc_J1, tc_J2, tc_J3, tc_F1, tc_F2, tc_F3, tc_F4, tc_G1, tc_G2, tc_G3, tc_G4, tc_G5, tc_us, tc_un, s_one, s_holds, s_J13_bitCount, bz_bI, hS.f]
  have hs5 : ∀ x i y, i < 8 → f_X5_set 142 (nI i) y (tc_mk S x) = some (tc_mk S (tc_I x 143 (upd (x.1 143) i y))) := fun x i y hi => by
    simp (maxSteps := 3000000) (disch := omega) only [Option.bind_some, tc_bs, tq_let, tc_I1, tc_I2, tc_J1, tc_J2, tc_J3, tc_F1, tc_F2, tc_F3, tc_F4, tc_G1, tc_G2, tc_G3, tc_G4, tc_G5, tc_us, tc_un, s_one, s_holds, s_J13_bitCount, bz_bI, hS.f]; rw [rs_in _ _ hi (by decide)]
  have hs6 : ∀ x i y, i < 8 → f_X5_set 144 (nI i) y (tc_mk S x) = some (tc_mk S (tc_I x 145 (upd (x.1 145) i y))) := fun x i y hi => by
    simp (maxSteps := 3000000) (disch := omega) only [Option.bind_some, tc_bs, tq_let, tc_I1, tc_I2, tc_J1, tc_J2, tc_J3, tc_F1, tc_F2, tc_F3, tc_F4, tc_G1, tc_G2, tc_G3, tc_G4, tc_G5, tc_us, tc_un, s_one, s_holds, s_J13_bitCount, bz_bI, hS.f]; rw [rs_in _ _ hi (by decide)]
  have hr5 : ∀ x i, i < 8 → f_X5_get 142 (nI i) (tc_mk S x) = some (x.1 143 i) := fun x i hi => by
    simp (maxSteps := 3000000) (disch := omega) only [Option.bind_some, tc_bs, tq_let, tc_I1, tc_I2, tc_J1, tc_J2, tc_J3, tc_F1, tc_F2, tc_F3, tc_F4, tc_G1, tc_G2, tc_G3, tc_G4, tc_G5, tc_us, tc_un, s_one, s_holds, s_J13_bitCount, bz_bI, hS.f]; rw [rg_in _ hi (by decide)]
  have hr6 : ∀ x i, i < 8 → f_X5_get 144 (nI i) (tc_mk S x) = some (x.1 145 i) := fun x i hi => by
    simp (maxSteps := 3000000) (disch := omega) only [Option.bind_some, tc_bs, tq_let, tc_I1, tc_I2, tc_J1, tc_J2, tc_J3, tc_F1, tc_F2, tc_F3, tc_F4, tc_G1, tc_G2, tc_G3, tc_G4, tc_G5, tc_us, tc_un, s_one, s_holds, s_J13_bitCount, bz_bI, hS.f]; rw [rg_in _ hi (by decide)]
  have hg9 : ∀ x, tq_gi (tc_mk S x) 131 6 9 = some (x.2.2.1 131 9) := fun x => by simp (maxSteps := 3000000) (disch := omega) only [Option.bind_some, tc_bs, tq_let, tc_I1, tc_I2, tc_J1, tc_J2, tc_J3, tc_F1, tc_F2, tc_F3, tc_F4, tc_G1, tc_G2, tc_G3, tc_G4, tc_G5, tc_us, tc_un, s_one, s_holds, s_J13_bitCount, bz_bI, hS.f]
  have hp9 : ∀ x y, tq_pf (tc_mk S x) 131 6 9 (.int y) = some (tc_mk S (tc_F x 131 9 y)) := fun x y => by simp (maxSteps := 3000000) (disch := omega) only [Option.bind_some, tc_bs, tq_let, tc_I1, tc_I2, tc_J1, tc_J2, tc_J3, tc_F1, tc_F2, tc_F3, tc_F4, tc_G1, tc_G2, tc_G3, tc_G4, tc_G5, tc_us, tc_un, s_one, s_holds, s_J13_bitCount, bz_bI, hS.f]
  let c1 := tc_I c 143 (fun j => if j < 8 then 0 else c.1 143 j)
  let c2 := tc_I c1 145 (fun j => if j < 8 then 0 else c1.1 145 j)
  have f2 : Sf c c2 := (Sf.I _ (by omega) (by omega)).trans (Sf.I _ (by omega) (by omega))
  have hC2 := hC.sf f2
  -- what types can have
  obtain ⟨g, v1, v2⟩ := tc_run (B := f_X6_learn_b18 131) 6 (fun t g => (nI t, tc_mk S (tc_I c2 143 g))) (fun t g => ∀ m, m < 8 → g m = if m < t then tI (Z.H m) 8 else 0) (fun g => tc_mk S (tc_I c2 143 g)) (by omega) (fun t g ht hg => by
    have hpo := s_possible (S := S) hS (hC2.sf (Sf.I (c := c2) (a := 143) g (by omega) (by omega))) ht
    refine ⟨upd g t (tI (Z.H t) 8), ?_, fun m hm => ?_⟩
    · dsimp only [f_X6_learn_b18]
      rw [if_neg (show ¬ nI t ≥ 6 from nI_ge ht (by decide))]
      simp only [hg5, hS.is, hpo, hi5, hs5 _ t _ (show t < 8 by omega), Option.bind_some, tq_let, nI_1, tc_I_I, tc_I_at]
    · unfold upd
      by_cases e : m = t
      · rw [if_pos e, e, if_pos (by omega)]
      · rw [if_neg e, hg m hm]
        simp only [show (m < t + 1) ↔ m < t by omega]) (fun g hg => by
    dsimp only [f_X6_learn_b18]
    rw [if_pos (show nI 6 ≥ 6 by decide)]) (x := c2.1 143) (fun m hm => by
      show (if m < 8 then (0 : Int32) else c.1 143 m) = _
      rw [if_pos hm, if_neg (by omega)])
  rw [tc_I_self] at v1
  have hH : ∀ m, m < 8 → g m = tI (Z.H m) 8 := fun m hm => by
    rw [v2 m hm]
    by_cases e : m < 6
    · rw [if_pos e]
    · rw [if_neg e, tI_none 8 (fun t ht => by
        cases q : Z.H m t with
        | false => rfl
        | true => exact absurd (Z.H_of q).1 e)]
  let c3 := tc_I c2 143 g
  have hrow5 : tc_Row S 142 143 8 := hS.2.2.2.2.2.2.1
  have hcl : f_X5_closure 142 0 1 (tc_mk S c3) = some (tI (clo (st8 Z.H) (fun x => decide (x = 0))) 8) := by
    have h1 : (1 : Int32) = tI (fun x => decide (x = 0)) 8 := by decide
    rw [show (0 : Int32) = nI 0 from rfl, s_X5_closure hrow5 (show 0 < 2 ^ 30 by decide), h1]
    refine congrArg some (clI_t8 (R := Z.H) (fun m hm => ?_) 8)
    rw [Nat.zero_add, rz_in _ hm (by decide), tc_I_at]
    exact hH m hm
  have hal : tI (clo (st8 Z.H) (fun x => decide (x = 0))) 8 ||| 1 = tI Z.al 8 := by
    have h1 : (1 : Int32) = tI (fun x => decide (x = 0)) 8 := by decide
    rw [h1, t8_or, al_clo]
  let c4 := tc_F c3 131 9 (tI Z.al 8)
  have c4_9 : ∀ f, (tc_I c4 145 f).2.2.1 131 9 = tI Z.al 8 := fun f => by
    show (tc_F c3 131 9 (tI Z.al 8)).2.2.1 131 9 = _
    rw [tc_F3, tc_us, tc_us]
  have c4_143 : ∀ f m, m < 8 → (tc_I c4 145 f).1 143 m = tI (Z.H m) 8 := fun f m hm => by
    rw [tc_I1, tc_un _ _ (by decide)]
    show (tc_I c2 143 g).1 143 m = _
    rw [tc_I_at]; exact hH m hm
  have inner : ∀ t, t < 6 → ∀ f, (∀ m, m < 8 → f m = tI (fun u => decide (u < t) && Z.Hv m u) 8) → ∃ f', tq_loop (f_X6_learn_b100 131 (nI t) (tI (fun x => Z.H t x && Z.al x) 8) (bI (Z.al t))) tq_N (0, tc_mk S (tc_I c4 145 f)) = some (tc_mk S (tc_I c4 145 f')) ∧ ∀ m, m < 8 → f' m = tI (fun u => decide (u < t + 1) && Z.Hv m u) 8 := by
    intro t ht f hf
    obtain ⟨f', w1, w2⟩ := tc_run (B := f_X6_learn_b100 131 (nI t) (tI (fun x => Z.H t x && Z.al x) 8) (bI (Z.al t))) 8 (fun y f => (nI y, tc_mk S (tc_I c4 145 f))) (fun y f => ∀ m, m < 8 → f m = tI (fun u => (decide (u < t) || (decide (u = t) && decide (m < y))) && Z.Hv m u) 8) (fun f => tc_mk S (tc_I c4 145 f)) (by omega) (fun y f hy hf => by
      have hstep : Z.Hv y t = (Z.al t && (Z.H t y && Z.al y)) := rfl
      refine ⟨if Z.Hv y t then upd f y (f y ||| nI (2 ^ t)) else f, ?_, fun m hm => ?_⟩
      · dsimp only [f_X6_learn_b100]
        rw [if_neg (show ¬ nI y ≥ 8 from nI_ge hy (by decide))]
        have hb := t8_bit (fun x => Z.H t x && Z.al x) hy
        cases q1 : Z.al t with
        | false =>
          rw [if_pos (by decide), Option.bind_some]
          simp only [tq_let, nI_1]
          rw [hstep, q1]; rfl
        | true =>
          rw [if_neg (by decide)]
          cases q2 : (Z.H t y && Z.al y) with
          | false =>
            rw [if_pos (hb.mpr q2), Option.bind_some]
            simp only [tq_let, nI_1]
            rw [hstep, q1, q2]; rfl
          | true =>
            rw [if_neg (fun w => by rw [hb.mp w] at q2; cases q2)]
            simp only [hg6, hi6, hr6 _ y hy, hs6 _ y _ hy, Option.bind_some, tq_let, nI_1, sh1 t (by omega), tc_I_I, tc_I_at]
            rw [hstep, q1, q2]; rfl
      · cases q : Z.Hv y t with
        | false =>
          rw [if_neg (by decide), hf m hm]
          refine t8_cong fun u hu => ?_
          by_cases e : m = y
          · subst e
            by_cases e2 : u = t
            · subst e2; simp [q]
            · simp [e2]
          · simp [show (m < y + 1) ↔ m < y by omega]
        | true =>
          rw [if_pos rfl]
          unfold upd
          by_cases e : m = y
          · subst e
            rw [if_pos rfl, hf m hm, t8_1 (show t < 8 by omega), t8_or]
            refine t8_cong fun u hu => ?_
            by_cases e2 : u = t
            · subst e2; simp [q]
            · simp [e2]
          · rw [if_neg e, hf m hm]
            refine t8_cong fun u hu => ?_
            simp [show (m < y + 1) ↔ m < y by omega]) (fun f hf => by
      dsimp only [f_X6_learn_b100]
      rw [if_pos (show nI 8 ≥ 8 by decide)]) (x := f) (fun m hm => by
        rw [hf m hm]
        exact t8_cong fun u _ => by simp)
    refine ⟨f', w1, fun m hm => ?_⟩
    rw [w2 m hm]
    refine t8_cong fun u _ => ?_
    by_cases e : u = t
    · subst e; simp [hm]
    · simp [e, show (u < t + 1) ↔ u < t by omega]
  obtain ⟨f, u1, u2⟩ := tc_run (B := f_X6_learn_b60 131) 6 (fun t f => (nI t, tc_mk S (tc_I c4 145 f))) (fun t f => ∀ m, m < 8 → f m = tI (fun u => decide (u < t) && Z.Hv m u) 8) (fun f => tc_mk S (tc_I c4 145 f)) (by omega) (fun t f ht hf => by
    obtain ⟨f', w1, w2⟩ := inner t ht f hf
    refine ⟨f', ?_, w2⟩
    have hb := t8_bit Z.al (show t < 8 by omega)
    have hp : (if (tI Z.al 8 >>> (nI t &&& 31)) &&& 1 = 0 then (0 : Int32) else 1) = bI (Z.al t) := by
      cases q : Z.al t with
      | false => rw [if_pos (hb.mpr q)]; rfl
      | true => rw [if_neg (fun w => by rw [hb.mp w] at q; cases q)]; rfl
    dsimp only [f_X6_learn_b60]
    rw [if_neg (show ¬ nI t ≥ 6 from nI_ge ht (by decide))]
    simp only [hg5, hi5, hr5 _ t (show t < 8 by omega), hg9, Option.bind_some, tq_let]
    rw [c4_143 f t (by omega), c4_9 f, hp, t8_and, w1, Option.bind_some, nI_1]) (fun f hf => by
    dsimp only [f_X6_learn_b60]
    rw [if_pos (show nI 6 ≥ 6 by decide)]) (x := c4.1 145) (fun m hm => by
      show (if m < 8 then (0 : Int32) else c1.1 145 m) = _
      rw [if_pos hm, tI_none 8 (fun t _ => by simp)])
  rw [tc_I_self] at u1
  refine ⟨tc_I c4 145 f, ?_, ((f2.trans (Sf.I _ (by omega) (by omega))).trans (Sf.F _)).trans (Sf.I _ (by omega) (by omega)), fun t ht => c4_143 f t ht, fun t ht => ?_, c4_9 f⟩
  · unfold f_X6_learn
    simp only [hg5, hi5, ha5, hg6, hi6, ha6, Option.bind_some]
    rw [show ((0 : Int32), tc_mk S (tc_I (tc_I c 143 (fun j => if j < 8 then 0 else c.1 143 j)) 145 (fun j => if j < 8 then 0 else (tc_I c 143 (fun j => if j < 8 then 0 else c.1 143 j)).1 145 j))) = (nI 0, tc_mk S c2) from rfl, v1]
    simp only [hg5, hi5, Option.bind_some]
    rw [hcl, Option.bind_some, hal, hp9, Option.bind_some]
    exact (congrArg (fun o => Option.bind o fun o35 => some o35) u1).trans rfl
  · rw [tc_I_at, u2 t ht]
    refine t8_cong fun u _ => ?_
    cases q : Z.Hv t u with
    | false => simp
    | true =>
      unfold Sma.Hv at q
      simp only [Bool.and_eq_true] at q
      have := (Z.H_of q.2.1).1
      simp [this]
theorem s_tellAxis (hS : tc_Sch S 131) (hL : Lrn c Z) {a : Nat} (ha : a < 12) : f_X6_tellAxis 131 (nI a) (tI A 8) (tc_mk S c) = some (tI (Z.cax a (T 0) A) 8) := by
  have hg5 : tq_gr (tc_mk S c) 131 6 5 = some 142 := by simp (maxSteps := 3000000) (disch := omega) only [Option.bind_some, tc_bs, tq_let, tc_I1, tc_I2, tc_J1, tc_J2, tc_J3, tc_F1, tc_F2, tc_F3, tc_F4, tc_G1, tc_G2, tc_G3, tc_G4, tc_G5, tc_us, tc_un, s_one, s_holds, s_J13_bitCount, bz_bI, hS.f]
  have hi5 : tq_is (tc_mk S c) 142 5 = some () := by simp (maxSteps := 3000000) (disch := omega) only [Option.bind_some, tc_bs, tq_let, tc_I1, tc_I2, tc_J1, tc_J2, tc_J3, tc_F1, tc_F2, tc_F3, tc_F4, tc_G1, tc_G2, tc_G3, tc_G4, tc_G5, tc_us, tc_un, s_one, s_holds, s_J13_bitCount, bz_bI, hS.f]
  have hg6 : tq_gr (tc_mk S c) 131 6 6 = some 144 := by simp (maxSteps := 3000000) (disch := omega) only [Option.bind_some, tc_bs, tq_let, tc_I1, tc_I2, tc_J1, tc_J2, tc_J3, tc_F1, tc_F2, tc_F3, tc_F4, tc_G1, tc_G2, tc_G3, tc_G4, tc_G5, tc_us, tc_un, s_one, s_holds, s_J13_bitCount, bz_bI, hS.f]
  have hi6 : tq_is (tc_mk S c) 144 5 = some () := by simp (maxSteps := 3000000) (disch := omega) only [Option.bind_some, tc_bs, tq_let, tc_I1, tc_I2, tc_J1, tc_J2, tc_J3, tc_F1, tc_F2, tc_F3, tc_F4, tc_G1, tc_G2, tc_G3, tc_G4, tc_G5, tc_us, tc_un, s_one, s_holds, s_J13_bitCount, bz_bI, hS.f]
  have hg9 : tq_gi (tc_mk S c) 131 6 9 = some (tI Z.al 8) := by simp (maxSteps := 3000000) (disch := omega) only [Option.bind_some, tc_bs, tq_let, tc_I1, tc_I2, tc_J1, tc_J2, tc_J3, tc_F1, tc_F2, tc_F3, tc_F4, tc_G1, tc_G2, tc_G3, tc_G4, tc_G5, tc_us, tc_un, s_one, s_holds, s_J13_bitCount, bz_bI, hS.f, hL.2.2]
  have hrow5 : tc_Row S 142 143 8 := hS.2.2.2.2.2.2.1
  have hrow6 : tc_Row S 144 145 8 := hS.2.2.2.2.2.2.2.1
  have gH : ∀ m, m < 8 → (fun m => rz 8 (c.1 143) (nI (0 + m))) m = tI (Z.H m) 8 := fun m hm => by
    show rz 8 (c.1 143) (nI (0 + m)) = _
    rw [Nat.zero_add, rz_in _ hm (by decide), hL.1 m hm]
  have gV : ∀ m, m < 8 → (fun m => rz 8 (c.1 145) (nI (0 + m))) m = tI (Z.Hv m) 8 := fun m hm => by
    show rz 8 (c.1 145) (nI (0 + m)) = _
    rw [Nat.zero_add, rz_in _ hm (by decide), hL.2.1 m hm]
  have uH : ∀ B, f_X5_union 142 0 (tI B 8) (tc_mk S c) = some (tI (st8 Z.H B) 8) := fun B => by
    rw [show (0 : Int32) = nI 0 from rfl, s_X5_union hrow5 (show 0 < 2 ^ 30 by decide), orI_t8 gH]
  have uV : ∀ B, f_X5_union 144 0 (tI B 8) (tc_mk S c) = some (tI (st8 Z.Hv B) 8) := fun B => by
    rw [show (0 : Int32) = nI 0 from rfl, s_X5_union hrow6 (show 0 < 2 ^ 30 by decide), orI_t8 gV]
  have kH : ∀ B, f_X5_closure 142 0 (tI B 8) (tc_mk S c) = some (tI (clo (st8 Z.H) B) 8) := fun B => by
    rw [show (0 : Int32) = nI 0 from rfl, s_X5_closure hrow5 (show 0 < 2 ^ 30 by decide), clI_t8 gH 8]; rfl
  have kV : ∀ B, f_X5_closure 144 0 (tI B 8) (tc_mk S c) = some (tI (clo (st8 Z.Hv) B) 8) := fun B => by
    rw [show (0 : Int32) = nI 0 from rfl, s_X5_closure hrow6 (show 0 < 2 ^ 30 by decide), clI_t8 gV 8]; rfl
  have h127 : (127 : Int32) = tI (fun x => decide (x ≠ 7)) 8 := by decide
  have h128 : (128 : Int32) = tI (fun x => decide (x = 7)) 8 := by decide
  have he : ∀ x : Int32, (if tI A 8 = 0 then some (0 : Int32) else some (tI (fun x => Z.al x && decide (x ≠ 7)) 8)) = some (tI (fun x => anyB A 8 && (Z.al x && decide (x ≠ 7))) 8) := fun _ => by
    cases q : anyB A 8 with
    | false => rw [if_pos ((t8_z A).mpr q), t8_0]; rfl
    | true => rw [if_neg (fun w => by rw [(t8_z A).mp w] at q; cases q)]; rfl
  have hc : a = 0 ∨ a = 1 ∨ a = 2 ∨ a = 3 ∨ a = 4 ∨ a = 5 ∨ a = 6 ∨ a = 7 ∨ a = 8 ∨ a = 9 ∨ a = 10 ∨ a = 11 := by omega
  rcases hc with rfl | rfl | rfl | rfl | rfl | rfl | rfl | rfl | rfl | rfl | rfl | rfl
  all_goals
    unfold f_X6_tellAxis
    simp (decide := true) only [↓reduceIte, hg5, hi5, hg6, hi6, hg9, uH, uV, kH, kV, Option.bind_some, h127, h128, t8_and, t8_or]
  all_goals first | rfl | skip
  · rw [he 0]; rfl
  · rw [he 0]; rfl
theorem s_tellTest (hS : tc_Sch S 131) (hC : SC c Z) (ht : t < 14) : f_X6_tellTest 131 (nI t) (tc_mk S c) = some (tI (Z.tst t) 8) := by
  have hg0 : tq_gr (tc_mk S c) 131 6 0 = some 132 := by simp (maxSteps := 3000000) (disch := omega) only [Option.bind_some, tc_bs, tq_let, tc_I1, tc_I2, tc_J1, tc_J2, tc_J3, tc_F1, tc_F2, tc_F3, tc_F4, tc_G1, tc_G2, tc_G3, tc_G4, tc_G5, tc_us, tc_un, s_one, s_holds, s_J13_bitCount, bz_bI, hS.f]
  have hi0 : tq_is (tc_mk S c) 132 5 = some () := by simp (maxSteps := 3000000) (disch := omega) only [Option.bind_some, tc_bs, tq_let, tc_I1, tc_I2, tc_J1, tc_J2, tc_J3, tc_F1, tc_F2, tc_F3, tc_F4, tc_G1, tc_G2, tc_G3, tc_G4, tc_G5, tc_us, tc_un, s_one, s_holds, s_J13_bitCount, bz_bI, hS.f]
  have or0 : ∀ x : Int32, x ||| 0 = x := fun x => b_ext fun j _ => by rw [b_or, bt_0, Bool.or_false]
  unfold f_X6_tellTest
  by_cases h8 : t = 8
  · subst h8
    rw [if_pos (show nI 8 = 8 from rfl), show (255 : Int32) = tI (fun x => decide (x < 8)) 8 by decide]
    refine congrArg some (t8_cong fun x _ => ?_)
    simp [Sma.tst]
  · rw [if_neg (show ¬ nI t = 8 from fun w => h8 ((nI_eq (by omega) (show 8 < 2 ^ 31 by decide)).mp w))]
    by_cases h9 : t = 9
    · subst h9
      rw [if_pos (show nI 9 = 9 from rfl), show (64 : Int32) = tI (fun x => decide (x = 6)) 8 by decide]
      refine congrArg some (t8_cong fun x _ => ?_)
      simp [Sma.tst]
    · rw [if_neg (show ¬ nI t = 9 from fun w => h9 ((nI_eq (by omega) (show 9 < 2 ^ 31 by decide)).mp w))]
      by_cases h10 : t < 10
      · have ht8 : t < 8 := by omega
        rw [if_pos (show nI t < 10 from nI_lt h10 (by decide))]
        have W := tc_scan (B := f_X6_tellTest_b34 131 (nI t) (tc_mk S c)) 6 (fun k => tI (fun x => decide (x = 7) || (decide (x < k) && decide (Z.nm x = nI t))) 8) (e := tI (Z.tst t) 8) (by omega) (fun k hk => by
          have hgt : f_X5_get 132 (nI k) (tc_mk S c) = some (Z.nm k) := by
            simp (maxSteps := 3000000) (disch := omega) only [Option.bind_some, tc_bs, tq_let, tc_I1, tc_I2, tc_J1, tc_J2, tc_J3, tc_F1, tc_F2, tc_F3, tc_F4, tc_G1, tc_G2, tc_G3, tc_G4, tc_G5, tc_us, tc_un, s_one, s_holds, s_J13_bitCount, bz_bI, hS.f, rg_in _ hk (show 6 < 2 ^ 31 by decide)]
            rw [hC.1 k hk]
          dsimp only [f_X6_tellTest_b34]
          rw [if_neg (show ¬ nI k ≥ 6 from nI_ge hk (by decide))]
          simp only [hg0, hi0, hgt, Option.bind_some, tq_let, nI_1, sh1 k (by omega)]
          refine congrArg (fun y => (some (Sum.inl (y, nI (k + 1))) : Option ((Int32 × Int32) ⊕ Int32))) ?_
          by_cases q : Z.nm k = nI t
          · rw [if_pos q, t8_1 (by omega), t8_or]
            refine t8_cong fun x _ => ?_
            by_cases e : x = k
            · subst e; simp [q]
            · simp [e, show (x < k + 1) ↔ x < k by omega]
          · rw [if_neg q, or0]
            refine t8_cong fun x _ => ?_
            by_cases e : x = k
            · subst e; simp [q]
            · simp [show (x < k + 1) ↔ x < k by omega]) (by
          dsimp only [f_X6_tellTest_b34]
          rw [if_pos (show nI 6 ≥ 6 by decide)]
          refine congrArg (fun y => (some (Sum.inr y) : Option ((Int32 × Int32) ⊕ Int32))) (t8_cong fun x _ => ?_)
          unfold Sma.tst
          rw [if_pos ht8])
        have e0 : tI (fun x => decide (x = 7) || (decide (x < 0) && decide (Z.nm x = nI t))) 8 = 128 := by
          rw [show (128 : Int32) = tI (fun x => decide (x = 7)) 8 by decide]
          exact t8_cong fun x _ => by simp
        rw [e0] at W
        rw [W]; rfl
      · rw [if_neg (show ¬ nI t < 10 from nI_nlt (show 10 ≤ t by omega) (by omega)), show (63 : Int32) = tI (fun x => decide (x < 6)) 8 by decide]
        refine congrArg some (t8_cong fun x _ => ?_)
        unfold Sma.tst
        rw [if_neg (by omega), if_neg h8, if_neg h9]
/-- what has been told of the paths below p -/
def TD (c : tc_C) (Z : Sma) (P : Pat) (p : Nat) : Prop := ∀ q a, q < p → a < 8 → c.1 147 (8 * q + a) = tI (Z.CF P q a) 8
theorem s_tellStep (hS : tc_Sch S 131) (hPs : tc_Pth S 98) (hL : Lrn c Z) (hC : SC c Z) (hPC : PC c 98 P) (hP : P.wf) (hp : p < P.n) (hk : k < P.sc p) (hT : TD c Z P p) :
    f_X6_tellStep 131 98 (nI (5 * p + k)) (tI A 8) (tc_mk S c) = some (tI (Z.cst P (Z.CF P) (5 * p + k) A) 8) := by
  obtain ⟨hax, hts, hby, -, -⟩ := hP.2.2 p k hp hk
  have h20 := hP.1
  have e12 : (nI (P.ax (5 * p + k)) = 12) ↔ P.ax (5 * p + k) = 12 := nI_eq (by omega) (show 12 < 2 ^ 31 by decide)
  unfold f_X6_tellStep
  simp only [hPs.is, s_X4_axisOf hPs hPC hP hp hk, Option.bind_some, tq_let]
  by_cases h : P.ax (5 * p + k) = 12
  · have hg7 : tq_gr (tc_mk S c) 131 6 7 = some 146 := by simp (maxSteps := 3000000) (disch := omega) only [Option.bind_some, tc_bs, tq_let, tc_I1, tc_I2, tc_J1, tc_J2, tc_J3, tc_F1, tc_F2, tc_F3, tc_F4, tc_G1, tc_G2, tc_G3, tc_G4, tc_G5, tc_us, tc_un, s_one, s_holds, s_J13_bitCount, bz_bI, hS.f]
    have hi7 : tq_is (tc_mk S c) 146 5 = some () := by simp (maxSteps := 3000000) (disch := omega) only [Option.bind_some, tc_bs, tq_let, tc_I1, tc_I2, tc_J1, tc_J2, tc_J3, tc_F1, tc_F2, tc_F3, tc_F4, tc_G1, tc_G2, tc_G3, tc_G4, tc_G5, tc_us, tc_un, s_one, s_holds, s_J13_bitCount, bz_bI, hS.f]
    have hrow : tc_Row S 146 147 160 := hS.2.2.2.2.2.2.2.2
    have hlt := hby h
    have e8 : nI (P.by (5 * p + k)) * 8 = nI (8 * P.by (5 * p + k)) := by rw [show (8 : Int32) = nI 8 from rfl, nI_mul, Nat.mul_comm]
    have hcl : f_X5_closure 146 (nI (8 * P.by (5 * p + k))) (tI A 8) (tc_mk S c) = some (tI (clo (st8 (Z.CF P (P.by (5 * p + k)))) A) 8) := by
      rw [s_X5_closure hrow (show 8 * P.by (5 * p + k) < 2 ^ 30 by omega)]
      refine congrArg some (clI_t8 (fun m hm => ?_) 8)
      rw [rz_in _ (show 8 * P.by (5 * p + k) + m < 160 by omega) (by decide)]
      exact hT _ m hlt hm
    rw [if_pos (e12.mpr h), if_neg (show ¬ (1 : Int32) = 0 by decide)]
    simp only [hg7, hPs.is, hi7, s_X4_repeatOf hPs hPC hP hp hk h, e8, hcl, s_X4_testOf hPs hPC hP hp hk, hS.is, s_tellTest hS hC hts, Option.bind_some, t8_and]
    refine congrArg some (t8_cong fun x _ => ?_)
    unfold Sma.cst Sma.cax
    simp [h]
  · rw [if_neg (fun w => h (e12.mp w)), if_pos rfl]
    simp only [hS.is, hPs.is, s_tellAxis (T := fun _ => Z.CF P (P.by (5 * p + k))) hS hL (show P.ax (5 * p + k) < 12 by omega), s_X4_testOf hPs hPC hP hp hk, s_tellTest hS hC hts, Option.bind_some, t8_and]
    rfl
theorem s_tell (hS : tc_Sch S 131) (hPs : tc_Pth S 98) (hC : SC c Z) (hPC : PC c 98 P) (hP : P.wf) (hp : p < P.n) :
    ∃ c', f_X6_tell 131 98 (nI p) (tc_mk S c) = some (tI (Z.CF P p 0) 8, tc_mk S c') ∧ Sf c c' := by
  have h20 := hP.1
  obtain ⟨c1, v1, v2, v3⟩ := s_learn (S := S) hS hC
  have hg7 : ∀ x, tq_gr (tc_mk S x) 131 6 7 = some 146 := fun x => by simp (maxSteps := 3000000) (disch := omega) only [Option.bind_some, tc_bs, tq_let, tc_I1, tc_I2, tc_J1, tc_J2, tc_J3, tc_F1, tc_F2, tc_F3, tc_F4, tc_G1, tc_G2, tc_G3, tc_G4, tc_G5, tc_us, tc_un, s_one, s_holds, s_J13_bitCount, bz_bI, hS.f]
  have hi7 : ∀ x, tq_is (tc_mk S x) 146 5 = some () := fun x => by simp (maxSteps := 3000000) (disch := omega) only [Option.bind_some, tc_bs, tq_let, tc_I1, tc_I2, tc_J1, tc_J2, tc_J3, tc_F1, tc_F2, tc_F3, tc_F4, tc_G1, tc_G2, tc_G3, tc_G4, tc_G5, tc_us, tc_un, s_one, s_holds, s_J13_bitCount, bz_bI, hS.f]
  have hg9 : ∀ f, tq_gi (tc_mk S (tc_I c1 147 f)) 131 6 9 = some (tI Z.al 8) := fun f => by simp (maxSteps := 3000000) (disch := omega) only [Option.bind_some, tc_bs, tq_let, tc_I1, tc_I2, tc_J1, tc_J2, tc_J3, tc_F1, tc_F2, tc_F3, tc_F4, tc_G1, tc_G2, tc_G3, tc_G4, tc_G5, tc_us, tc_un, s_one, s_holds, s_J13_bitCount, bz_bI, hS.f, v3.2.2]
  have hst : ∀ f i y, i < 160 → f_X5_set 146 (nI i) y (tc_mk S (tc_I c1 147 f)) = some (tc_mk S (tc_I c1 147 (upd f i y))) := fun f i y hi => by
    simp (maxSteps := 3000000) (disch := omega) only [Option.bind_some, tc_bs, tq_let, tc_I1, tc_I2, tc_J1, tc_J2, tc_J3, tc_F1, tc_F2, tc_F3, tc_F4, tc_G1, tc_G2, tc_G3, tc_G4, tc_G5, tc_us, tc_un, s_one, s_holds, s_J13_bitCount, bz_bI, hS.f]; rw [rs_in _ _ hi (by decide), tc_I_I]
  have sI := fun f => Sf.I (c := c1) (a := 147) f (by omega) (by omega)
  have hLI : ∀ f, Lrn (tc_I c1 147 f) Z := fun f => by
    obtain ⟨l1, l2, l3⟩ := v3
    refine ⟨?_, ?_, l3⟩ <;> rw [tc_I1, tc_un _ _ (by decide)] <;> assumption
  have steps : ∀ f q a, q < P.n → a < 8 → TD (tc_I c1 147 f) Z P q → ∀ w1 w2 : Int32, tq_loop (f_X6_tell_b35 131 98 w1 (nI q) w2 (tc_mk S (tc_I c1 147 f))) tq_N (tI (fun x => Z.al x && decide (x = a)) 8, 0) = some (tI (Z.CF P q a) 8) := by
    intro f q a hq ha hT w1 w2
    have h5 := hP.2.1 q hq
    rw [CF_eq Z hP hq]
    have hPCf := (hPC.sf v2).sf (sI f)
    refine tc_scan (B := f_X6_tell_b35 131 98 w1 (nI q) w2 (tc_mk S (tc_I c1 147 f))) (P.sc q) (fun k => tI (Z.cfo P (Z.CF P) q (fun x => Z.al x && decide (x = a)) k) 8) (by omega) (fun k hk => ?_) ?_
    · dsimp only [f_X6_tell_b35]
      simp only [hPs.is, s_X4_stepsOf hPs hPCf hP hq, Option.bind_some]
      rw [if_neg (show ¬ nI k ≥ nI (P.sc q) from nI_ge hk (by omega))]
      simp only [s_X4_stepAt, hS.is, s_tellStep hS hPs (hLI f) ((hC.sf v2).sf (sI f)) hPCf hP hq hk hT, Option.bind_some, tq_let, nI_1]
      rfl
    · dsimp only [f_X6_tell_b35]
      simp only [hPs.is, s_X4_stepsOf hPs hPCf hP hq, Option.bind_some]
      rw [if_pos (Int32.le_refl _)]
  obtain ⟨f, u1, u2⟩ := tc_run (B := f_X6_tell_b6 131 98 (nI p)) (p + 1) (fun q f => (nI q, tc_mk S (tc_I c1 147 f))) (fun q f => TD (tc_I c1 147 f) Z P q) (fun f => tc_mk S (tc_I c1 147 f)) (by omega) (fun q f hq hf => by
    obtain ⟨f', w1, w2⟩ := tc_run (B := f_X6_tell_b14 131 98 (nI p) (nI q)) 8 (fun a f => (nI a, tc_mk S (tc_I c1 147 f))) (fun a f => TD (tc_I c1 147 f) Z P q ∧ ∀ b, b < a → f (8 * q + b) = tI (Z.CF P q b) 8) (fun f => tc_mk S (tc_I c1 147 f)) (by omega) (fun a f ha hf => by
      obtain ⟨f1, f2⟩ := hf
      have e8 : nI q * 8 + nI a = nI (8 * q + a) := by rw [show (8 : Int32) = nI 8 from rfl, nI_mul, nI_add, Nat.mul_comm]
      refine ⟨upd f (8 * q + a) (tI (Z.CF P q a) 8), ?_, ?_, fun b hb => ?_⟩
      · dsimp only [f_X6_tell_b14]
        rw [if_neg (show ¬ nI a ≥ 8 from nI_ge ha (by decide)), hg9, Option.bind_some]
        simp only [tq_let, sh1 a (by omega)]
        rw [t8_1 ha, t8_and, steps f q a (by omega) ha f1]
        simp only [hg7, hi7, e8, hst _ _ _ (show 8 * q + a < 160 by omega), Option.bind_some, nI_1]
      · intro q' b hq' hb
        have := f1 q' b hq' hb
        rw [tc_I_at] at this ⊢
        unfold upd
        rw [if_neg (by omega)]
        exact this
      · unfold upd
        by_cases e : b = a
        · rw [e, if_pos rfl]
        · rw [if_neg (by omega)]
          exact f2 b (by omega)) (fun f hf => by
      dsimp only [f_X6_tell_b14]
      rw [if_pos (show nI 8 ≥ 8 by decide)]) (x := f) ⟨hf, fun b hb => by omega⟩
    refine ⟨f', ?_, fun q' b hq' hb => ?_⟩
    · dsimp only [f_X6_tell_b6]
      rw [if_neg (show ¬ nI q > nI p from nI_nlt (by omega) (by omega))]
      rw [show ((0 : Int32), tc_mk S (tc_I c1 147 f)) = (nI 0, tc_mk S (tc_I c1 147 f)) from rfl, w1, Option.bind_some]
      simp only [tq_let, nI_1]
    · by_cases e : q' = q
      · subst e; rw [tc_I_at]; exact w2.2 b hb
      · exact w2.1 q' b (by omega) hb) (fun f hf => by
    dsimp only [f_X6_tell_b6]
    rw [if_pos (show nI (p + 1) > nI p from nI_lt (by omega) (by omega))]) (x := c1.1 147) (fun q a hq => by omega)
  rw [tc_I_self] at u1
  refine ⟨tc_I c1 147 f, ?_, v2.trans (sI f)⟩
  have e8 : nI p * 8 = nI (8 * p + 0) := by rw [show (8 : Int32) = nI 8 from rfl, nI_mul, Nat.mul_comm, Nat.add_zero]
  have hgt : f_X5_get 146 (nI (8 * p + 0)) (tc_mk S (tc_I c1 147 f)) = some (tI (Z.CF P p 0) 8) := by
    simp (maxSteps := 3000000) (disch := omega) only [Option.bind_some, tc_bs, tq_let, tc_I1, tc_I2, tc_J1, tc_J2, tc_J3, tc_F1, tc_F2, tc_F3, tc_F4, tc_G1, tc_G2, tc_G3, tc_G4, tc_G5, tc_us, tc_un, s_one, s_holds, s_J13_bitCount, bz_bI, hS.f]
    rw [rg_in _ (show 8 * p + 0 < 160 by omega) (by decide)]
    have := u2 p 0 (by omega) (by decide)
    rw [tc_I_at] at this
    rw [this]
  unfold f_X6_tell
  rw [hS.is, Option.bind_some, v1, Option.bind_some, show ((0 : Int32), tc_mk S c1) = (nI 0, tc_mk S c1) from rfl, u1]
  simp only [hg7, hi7, e8, hgt, Option.bind_some]
end TEL
