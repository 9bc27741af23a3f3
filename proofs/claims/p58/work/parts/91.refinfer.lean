/-! ===== types of paths: the reference, done ===== -/
def xF (F : (Nat → Bool) → Nat → Bool) (A : Nat → Bool) : Nat → Nat → Bool
  | 0 => fun _ => false
  | k + 1 => itF F (F A) k
section INS
variable {S : tq_H} {c c' : tc_C} {p k d m r t z : Nat} {Z : Sma} {P : Pat} {A B : Nat → Bool}
theorem xF_s (F : (Nat → Bool) → Nat → Bool) (A : Nat → Bool) (k : Nat) : (fun x => xF F A k x || F (if k = 0 then A else xF F A k) x) = xF F A (k + 1) := by
  cases k with
  | zero => funext x; show (false || F A x) = F A x; rfl
  | succ k => rfl
theorem iF_s (F : (Nat → Bool) → Nat → Bool) (A : Nat → Bool) (k : Nat) : (fun x => itF F A k x || F (if k = 0 then A else itF F A k) x) = itF F A (k + 1) := by
  cases k with
  | zero => rfl
  | succ k => rfl
theorem dn_loop (hM : tc_Mod S z) (hC : SR c Z) (A : Nat → Bool) (w1 w2 : Int32) : tq_loop (f_X11_cameBy_b102 155 w1 w2 (tc_mk S c)) tq_N (0, 0, tI A 8) = some (tI (xF Z.chd A 9) 8) := by
  have his : tq_is (tc_mk S c) 155 11 = some () := by simp (maxSteps := 3000000) (disch := omega) only [Option.bind_some, tc_bs, tq_let, tc_I1, tc_I2, tc_J1, tc_J2, tc_J3, tc_F1, tc_F2, tc_F3, tc_F4, tc_G1, tc_G2, tc_G3, tc_G4, tc_G5, tc_us, tc_un, s_one, s_holds, s_J13_bitCount, bz_bI, hM.f]
  have W := tc_iter (B := f_X11_cameBy_b102 155 w1 w2 (tc_mk S c)) 9 (fun k => (tI (xF Z.chd A k) 8, nI k, tI (if k = 0 then A else xF Z.chd A k) 8)) (e := tI (xF Z.chd A 9) 8) (fun k hk => by
    dsimp only [f_X11_cameBy_b102]
    rw [if_neg (show ¬ nI k ≥ 9 from nI_ge hk (by decide))]
    simp only [his, s_X11_childrenOf hM hC, Option.bind_some, tq_let, nI_1, t8_or, xF_s]
    rw [if_neg (Nat.succ_ne_zero k)]) (by rfl) (by unfold tq_N; omega)
  rw [if_pos rfl] at W
  have e0 : tI (xF Z.chd A 0) 8 = 0 := by rw [t8_0]; rfl
  rw [e0] at W
  exact W
theorem dn_loop2 (hM : tc_Mod S z) (hC : SR c Z) (A : Nat → Bool) (w1 w2 : Int32) : tq_loop (f_X11_cameBy_b102_2 155 w1 w2 (tc_mk S c)) tq_N (tI A 8, 0, tI A 8) = some (tI (itF Z.chd A 9) 8) := by
  have his : tq_is (tc_mk S c) 155 11 = some () := by simp (maxSteps := 3000000) (disch := omega) only [Option.bind_some, tc_bs, tq_let, tc_I1, tc_I2, tc_J1, tc_J2, tc_J3, tc_F1, tc_F2, tc_F3, tc_F4, tc_G1, tc_G2, tc_G3, tc_G4, tc_G5, tc_us, tc_un, s_one, s_holds, s_J13_bitCount, bz_bI, hM.f]
  have W := tc_iter (B := f_X11_cameBy_b102_2 155 w1 w2 (tc_mk S c)) 9 (fun k => (tI (itF Z.chd A k) 8, nI k, tI (if k = 0 then A else itF Z.chd A k) 8)) (e := tI (itF Z.chd A 9) 8) (fun k hk => by
    dsimp only [f_X11_cameBy_b102_2]
    rw [if_neg (show ¬ nI k ≥ 9 from nI_ge hk (by decide))]
    simp only [his, s_X11_childrenOf hM hC, Option.bind_some, tq_let, nI_1, t8_or, iF_s]
    rw [if_neg (Nat.succ_ne_zero k)]) (by rfl) (by unfold tq_N; omega)
  rw [if_pos rfl] at W
  have e0 : tI (itF Z.chd A 0) 8 = tI A 8 := by rfl
  rw [e0] at W
  exact W
theorem up_loop (hM : tc_Mod S z) (hC : SR c Z) (A : Nat → Bool) : tq_loop (f_X11_cameBy_b167 155 (tI Z.al 8) (tc_mk S c)) tq_N (0, 0, tI A 8) = some (tI (xF Z.par A 9) 8) := by
  have his : tq_is (tc_mk S c) 155 11 = some () := by simp (maxSteps := 3000000) (disch := omega) only [Option.bind_some, tc_bs, tq_let, tc_I1, tc_I2, tc_J1, tc_J2, tc_J3, tc_F1, tc_F2, tc_F3, tc_F4, tc_G1, tc_G2, tc_G3, tc_G4, tc_G5, tc_us, tc_un, s_one, s_holds, s_J13_bitCount, bz_bI, hM.f]
  have W := tc_iter (B := f_X11_cameBy_b167 155 (tI Z.al 8) (tc_mk S c)) 9 (fun k => (tI (xF Z.par A k) 8, nI k, tI (if k = 0 then A else xF Z.par A k) 8)) (e := tI (xF Z.par A 9) 8) (fun k hk => by
    dsimp only [f_X11_cameBy_b167]
    rw [if_neg (show ¬ nI k ≥ 9 from nI_ge hk (by decide))]
    simp only [his, s_X11_parentsOf hM hC, Option.bind_some, tq_let, nI_1, t8_or, xF_s]
    rw [if_neg (Nat.succ_ne_zero k)]) (by rfl) (by unfold tq_N; omega)
  rw [if_pos rfl] at W
  have e0 : tI (xF Z.par A 0) 8 = 0 := by rw [t8_0]; rfl
  rw [e0] at W
  exact W
theorem up_loop2 (hM : tc_Mod S z) (hC : SR c Z) (A : Nat → Bool) : tq_loop (f_X11_cameBy_b167_2 155 (tI Z.al 8) (tc_mk S c)) tq_N (tI A 8, 0, tI A 8) = some (tI (itF Z.par A 9) 8) := by
  have his : tq_is (tc_mk S c) 155 11 = some () := by simp (maxSteps := 3000000) (disch := omega) only [Option.bind_some, tc_bs, tq_let, tc_I1, tc_I2, tc_J1, tc_J2, tc_J3, tc_F1, tc_F2, tc_F3, tc_F4, tc_G1, tc_G2, tc_G3, tc_G4, tc_G5, tc_us, tc_un, s_one, s_holds, s_J13_bitCount, bz_bI, hM.f]
  have W := tc_iter (B := f_X11_cameBy_b167_2 155 (tI Z.al 8) (tc_mk S c)) 9 (fun k => (tI (itF Z.par A k) 8, nI k, tI (if k = 0 then A else itF Z.par A k) 8)) (e := tI (itF Z.par A 9) 8) (fun k hk => by
    dsimp only [f_X11_cameBy_b167_2]
    rw [if_neg (show ¬ nI k ≥ 9 from nI_ge hk (by decide))]
    simp only [his, s_X11_parentsOf hM hC, Option.bind_some, tq_let, nI_1, t8_or, iF_s]
    rw [if_neg (Nat.succ_ne_zero k)]) (by rfl) (by unfold tq_N; omega)
  rw [if_pos rfl] at W
  have e0 : tI (itF Z.par A 0) 8 = tI A 8 := by rfl
  rw [e0] at W
  exact W
/-- what the reference has told of the paths below p -/
def RI (c : tc_C) (Z : Sma) (P : Pat) (p : Nat) : Prop := ∀ q n, q < p → n < 256 → c.1 189 (256 * q + n) = tI (Z.RF P q (fun x => n.testBit x)) 8
theorem bits_eN (hA : s8 A) : (fun x => (eN A 8).testBit x) = A := funext fun x => by
  rw [eN_bit]
  cases q : A x with
  | false => simp
  | true => simp [hA x q]
theorem RF_s8 (Z : Sma) (P : Pat) (hP : P.wf) {p : Nat} (hp : p < P.n) (hA : s8 A) : s8 (Z.RF P p A) := by
  rw [RF_eq Z hP hp]
  have : ∀ k, s8 (Z.rfo P (Z.RF P) p A k) := by
    intro k
    induction k with
    | zero => exact hA
    | succ k ih =>
      intro x h
      change Z.rst P (Z.RF P) (5 * p + k) (Z.rfo P (Z.RF P) p A k) x = true at h
      unfold Sma.rst at h
      simp only [Bool.and_eq_true] at h
      exact al_s8 Z x h.1.2
  exact this _
theorem rep_loopR (hM : tc_Mod S z) (hP : P.wf) {b : Nat} (hb : b < p) (hpn : p ≤ P.n) (hT : RI c Z P p) (hA : s8 A) :
    tq_loop (f_X11_cameBy_b247 155 (nI b) (tc_mk S c)) tq_N (0, 0, tI A 8) = some (tI (fun x => anyB (fun k => pwF (Z.RF P b) A k x) 256) 8) := by
  have h20 := hP.1
  have hg43 : tq_gr (tc_mk S c) 155 11 43 = some 189 := by simp (maxSteps := 3000000) (disch := omega) only [Option.bind_some, tc_bs, tq_let, tc_I1, tc_I2, tc_J1, tc_J2, tc_J3, tc_F1, tc_F2, tc_F3, tc_F4, tc_G1, tc_G2, tc_G3, tc_G4, tc_G5, tc_us, tc_un, s_one, s_holds, s_J13_bitCount, bz_bI, hM.f]
  have hat : ∀ k, s8 (if k = 0 then A else pwF (Z.RF P b) A (k - 1)) := by
    intro k
    cases k with
    | zero => exact hA
    | succ k =>
      show s8 (pwF (Z.RF P b) A k)
      induction k with
      | zero => exact RF_s8 Z P hP (by omega) hA
      | succ k ih => exact RF_s8 Z P hP (by omega) ih
  have W := tc_iter (B := f_X11_cameBy_b247 155 (nI b) (tc_mk S c)) 256 (fun k => (tI (fun x => anyB (fun j => pwF (Z.RF P b) A j x) k) 8, nI k, tI (if k = 0 then A else pwF (Z.RF P b) A (k - 1)) 8)) (e := tI (fun x => anyB (fun k => pwF (Z.RF P b) A k x) 256) 8) (fun k hk => by
    have hs := hat k
    have hl := eN_lt (if k = 0 then A else pwF (Z.RF P b) A (k - 1)) 8
    have hl2 : eN (if k = 0 then A else pwF (Z.RF P b) A (k - 1)) 8 < 256 := hl
    have hx : tq_ai (tc_mk S c) 189 ((256 : Int32) * nI b + tI (if k = 0 then A else pwF (Z.RF P b) A (k - 1)) 8) = some (tI (Z.RF P b (if k = 0 then A else pwF (Z.RF P b) A (k - 1))) 8) := by
      rw [t8_nI, show (256 : Int32) = nI 256 from rfl, nI_mul, nI_add]
      have := hT b _ hb hl2
      rw [bits_eN hs] at this
      simp (maxSteps := 3000000) (disch := omega) only [Option.bind_some, tc_bs, tq_let, tc_I1, tc_I2, tc_J1, tc_J2, tc_J3, tc_F1, tc_F2, tc_F3, tc_F4, tc_G1, tc_G2, tc_G3, tc_G4, tc_G5, tc_us, tc_un, s_one, s_holds, s_J13_bitCount, bz_bI, hM.f, show 256 * b + eN (if k = 0 then A else pwF (Z.RF P b) A (k - 1)) 8 < 5120 from by omega]
      rw [this]
    dsimp only [f_X11_cameBy_b247]
    rw [if_neg (show ¬ nI k ≥ 256 from nI_ge hk (by decide))]
    simp only [hg43, hx, Option.bind_some, tq_let, nI_1, t8_or]
    have e1 : Z.RF P b (if k = 0 then A else pwF (Z.RF P b) A (k - 1)) = pwF (Z.RF P b) A k := by
      cases k with
      | zero => rfl
      | succ k => rfl
    rw [e1]
    rfl) (by rfl) (by unfold tq_N; omega)
  have e0 : tI (fun x => anyB (fun j => pwF (Z.RF P b) A j x) 0) 8 = 0 := by rw [t8_0]; rfl
  rw [e0] at W
  exact W
theorem s_X11_cameBy (hM : tc_Mod S z) (hC : SR c Z) (hP : P.wf) (hpn : p ≤ P.n) (hT : RI c Z P p) {a b : Nat} (ha : a < 13) (hb : a = 12 → b < p) {y : Int32} (hy : a = 12 → y = nI b) (hA : s8 A) :
    ∃ X, f_X11_cameBy 155 (nI a) y (tI A 8) (tI Z.al 8) (tc_mk S c) = some (tI X 8) ∧ ∀ x, x < 8 → X x = Z.cam a (Z.RF P b) A x := by
  have his : tq_is (tc_mk S c) 155 11 = some () := by simp (maxSteps := 3000000) (disch := omega) only [Option.bind_some, tc_bs, tq_let, tc_I1, tc_I2, tc_J1, tc_J2, tc_J3, tc_F1, tc_F2, tc_F3, tc_F4, tc_G1, tc_G2, tc_G3, tc_G4, tc_G5, tc_us, tc_un, s_one, s_holds, s_J13_bitCount, bz_bI, hM.f]
  have hc : a = 0 ∨ a = 1 ∨ a = 2 ∨ a = 3 ∨ a = 4 ∨ a = 5 ∨ a = 6 ∨ a = 7 ∨ a = 8 ∨ a = 9 ∨ a = 10 ∨ a = 11 ∨ a = 12 := by omega
  have h127 : ∀ E : Nat → Bool, tI E 8 &&& -129 = tI (fun x => E x && decide (x ≠ 7)) 8 := fun E => t8_of fun j hj => by
    have : ∀ j, j < 32 → bt (-129) j = decide (j ≠ 7) := by decide +kernel
    rw [b_and, bt_t8 _ 8 (Nat.le_refl _), this j hj]
    cases decide (j < 8) <;> rfl
  have hm1 : ∀ x : Int32, x &&& -1 = x := fun x => b_ext fun j hj => by rw [b_and, b_m1 j hj, Bool.and_true]
  have he : (if tI A 8 = 0 then (0 : Int32) else tI (fun x => Z.al x && decide (x ≠ 7)) 8) = tI (fun x => anyB A 8 && (Z.al x && decide (x ≠ 7))) 8 := by
    cases q : anyB A 8 with
    | false => rw [if_pos ((t8_z A).mpr q), t8_0]; rfl
    | true => rw [if_neg (fun w => by rw [(t8_z A).mp w] at q; cases q)]; rfl
  have h128 : (128 : Int32) = tI (fun x => decide (x = 7)) 8 := by decide
  rcases hc with rfl | rfl | rfl | rfl | rfl | rfl | rfl | rfl | rfl | rfl | rfl | rfl | rfl
  · exact ⟨A, by unfold f_X11_cameBy; rw [if_pos (show nI 0 = 0 from rfl)], fun x _ => rfl⟩
  · refine ⟨Z.chd A, ?_, fun x _ => rfl⟩
    unfold f_X11_cameBy
    simp (decide := true) only [↓reduceIte, his, s_X11_childrenOf hM hC, Option.bind_some]
  · refine ⟨Z.par A, ?_, fun x _ => rfl⟩
    unfold f_X11_cameBy
    simp (decide := true) only [↓reduceIte, his, s_X11_parentsOf hM hC, Option.bind_some]
  · refine ⟨fun x => xF Z.chd A 9 x && Z.al x, ?_, fun x _ => rfl⟩
    unfold f_X11_cameBy
    simp (decide := true) only [↓reduceIte, dn_loop hM hC, tq_let, Option.bind_some, t8_and]
  · refine ⟨itF Z.chd A 9, ?_, fun x _ => rfl⟩
    unfold f_X11_cameBy
    simp (decide := true) only [↓reduceIte, dn_loop2 hM hC, tq_let, Option.bind_some, hm1]
  · refine ⟨xF Z.par A 9, ?_, fun x _ => rfl⟩
    unfold f_X11_cameBy
    simp (decide := true) only [↓reduceIte, up_loop hM hC, tq_let, Option.bind_some]
  · refine ⟨itF Z.par A 9, ?_, fun x _ => rfl⟩
    unfold f_X11_cameBy
    simp (decide := true) only [↓reduceIte, up_loop2 hM hC, tq_let, Option.bind_some]
  · refine ⟨fun x => anyB A 8 && (Z.al x && decide (x ≠ 7)), ?_, fun x _ => rfl⟩
    unfold f_X11_cameBy
    simp (decide := true) only [↓reduceIte, h127, tq_let, Option.bind_some, he]
  · refine ⟨fun x => anyB A 8 && (Z.al x && decide (x ≠ 7)), ?_, fun x _ => rfl⟩
    unfold f_X11_cameBy
    simp (decide := true) only [↓reduceIte, h127, tq_let, Option.bind_some, he]
  · refine ⟨Z.chd (Z.par A), ?_, fun x _ => rfl⟩
    unfold f_X11_cameBy
    simp (decide := true) only [↓reduceIte, his, s_X11_parentsOf hM hC, s_X11_childrenOf hM hC, Option.bind_some]
  · refine ⟨Z.chd (Z.par A), ?_, fun x _ => rfl⟩
    unfold f_X11_cameBy
    simp (decide := true) only [↓reduceIte, his, s_X11_parentsOf hM hC, s_X11_childrenOf hM hC, Option.bind_some]
  · refine ⟨fun x => st8 Z.H A x && decide (x = 7), ?_, fun x _ => rfl⟩
    unfold f_X11_cameBy
    simp (decide := true) only [↓reduceIte, his, s_X11_canHave hM hC, h128, t8_and, Option.bind_some]
  · refine ⟨fun x => anyB (fun k => pwF (Z.RF P b) A k x) 256, ?_, fun x _ => rfl⟩
    unfold f_X11_cameBy
    rw [hy rfl]
    simp (decide := true) only [↓reduceIte, rep_loopR hM hP (hb rfl) hpn hT hA, Option.bind_some]
theorem s_X11_isPath (hM : tc_Mod S z) (h : c.2.2.1 155 24 = nI P.n) (hP : P.wf) (x : Int32) : f_X11_isPath 155 x (tc_mk S c) = some (bI (decide (0 ≤ x ∧ x < nI P.n))) := by
  have h20 := hP.1
  have hg : tq_gi (tc_mk S c) 155 11 24 = some (nI P.n) := by simp (maxSteps := 3000000) (disch := omega) only [Option.bind_some, tc_bs, tq_let, tc_I1, tc_I2, tc_J1, tc_J2, tc_J3, tc_F1, tc_F2, tc_F3, tc_F4, tc_G1, tc_G2, tc_G3, tc_G4, tc_G5, tc_us, tc_un, s_one, s_holds, s_J13_bitCount, bz_bI, hM.f, h]
  unfold f_X11_isPath
  rw [hg, Option.bind_some, s_X11_in, Option.bind_some, bz_bI, Option.bind_some]
  refine congrArg some (congrArg bI (decide_eq_decide.mpr ?_))
  refine and_congr_right fun h0 => ?_
  obtain ⟨k, hk, rfl⟩ := nI_of (Int32.not_lt.mpr h0)
  rcases Nat.eq_zero_or_pos P.n with e | e
  · rw [e]
    constructor
    · intro w; exact absurd (Int32.lt_of_le_of_lt w (show nI 0 - 1 < 0 by decide)) (nI_pos hk)
    · intro w; exact absurd w (nI_pos hk)
  · have e1 : nI P.n - 1 = nI (P.n - 1) := pk_sub (show 1 ≤ P.n by omega)
    rw [e1, nI_leI hk (by omega), nI_ltI hk (by omega)]; omega
theorem s_X11_refused (hM : tc_Mod S z) (x : Int32) : f_X11_refused 155 x (tc_mk S c) = some (bI (decide (x ≠ 0)), tc_mk S (tc_F c 155 0 x)) := by
  have hp : tq_pf (tc_mk S c) 155 11 0 (.int x) = some (tc_mk S (tc_F c 155 0 x)) := by simp (maxSteps := 3000000) (disch := omega) only [Option.bind_some, tc_bs, tq_let, tc_I1, tc_I2, tc_J1, tc_J2, tc_J3, tc_F1, tc_F2, tc_F3, tc_F4, tc_G1, tc_G2, tc_G3, tc_G4, tc_G5, tc_us, tc_un, s_one, s_holds, s_J13_bitCount, bz_bI, hM.f]
  unfold f_X11_refused
  rw [hp, Option.bind_some]
  by_cases h : x = 0 <;> simp [h, tq_let, tq_bz, bI]
theorem s_infer (hM : tc_Mod S z) (hC : SR c Z) (hPR : PR c P) (hP : P.wf) (hp : p < P.n) :
    ∃ f, f_X11_infer 155 (nI p) (tc_mk S c) = some (tI (Z.CF P p 0) 8, tc_mk S (tc_I (tc_F c 155 0 0) 189 f)) := by
  have h20 := hP.1
  have his : ∀ x, tq_is (tc_mk S x) 155 11 = some () := fun x => by simp (maxSteps := 3000000) (disch := omega) only [Option.bind_some, tc_bs, tq_let, tc_I1, tc_I2, tc_J1, tc_J2, tc_J3, tc_F1, tc_F2, tc_F3, tc_F4, tc_G1, tc_G2, tc_G3, tc_G4, tc_G5, tc_us, tc_un, s_one, s_holds, s_J13_bitCount, bz_bI, hM.f]
  have hg25 : ∀ x, tq_gr (tc_mk S x) 155 11 25 = some 175 := fun x => by simp (maxSteps := 3000000) (disch := omega) only [Option.bind_some, tc_bs, tq_let, tc_I1, tc_I2, tc_J1, tc_J2, tc_J3, tc_F1, tc_F2, tc_F3, tc_F4, tc_G1, tc_G2, tc_G3, tc_G4, tc_G5, tc_us, tc_un, s_one, s_holds, s_J13_bitCount, bz_bI, hM.f]
  have hg26 : ∀ x, tq_gr (tc_mk S x) 155 11 26 = some 176 := fun x => by simp (maxSteps := 3000000) (disch := omega) only [Option.bind_some, tc_bs, tq_let, tc_I1, tc_I2, tc_J1, tc_J2, tc_J3, tc_F1, tc_F2, tc_F3, tc_F4, tc_G1, tc_G2, tc_G3, tc_G4, tc_G5, tc_us, tc_un, s_one, s_holds, s_J13_bitCount, bz_bI, hM.f]
  have hg43 : ∀ x, tq_gr (tc_mk S x) 155 11 43 = some 189 := fun x => by simp (maxSteps := 3000000) (disch := omega) only [Option.bind_some, tc_bs, tq_let, tc_I1, tc_I2, tc_J1, tc_J2, tc_J3, tc_F1, tc_F2, tc_F3, tc_F4, tc_G1, tc_G2, tc_G3, tc_G4, tc_G5, tc_us, tc_un, s_one, s_holds, s_J13_bitCount, bz_bI, hM.f]
  let c1 := tc_F c 155 0 0
  have hC1 : ∀ f, SR (tc_I c1 189 f) Z := fun f => by
    obtain ⟨h1, h2, h3, h4, h5⟩ := hC
    refine ⟨?_, ?_, ?_, ?_, ?_⟩ <;> rw [tc_I1, tc_un _ _ (by decide)] <;> assumption
  have hR1 : ∀ f, PR (tc_I c1 189 f) P := fun f => by
    obtain ⟨h1, h2, h3, h4⟩ := hPR
    refine ⟨?_, ?_, ?_, ?_⟩
    · show (tc_F c 155 0 0).2.2.1 155 24 = _
      rw [tc_F3, tc_us, tc_un _ _ (by decide)]; exact h1
    · rw [tc_I1, tc_un _ _ (by decide)]; exact h2
    · rw [tc_I1, tc_un _ _ (by decide), tc_un _ _ (by decide)]; exact h3
    · rw [tc_I1, tc_un _ _ (by decide)]; exact h4
  have hal : f_X11_allTypes 155 (tc_mk S c1) = some (tI Z.al 8) := by
    have := s_X11_allTypes (S := S) hM (hC1 (c1.1 189))
    rwa [tc_I_self] at this
  have steps : ∀ f q n, q < P.n → n < 256 → RI (tc_I c1 189 f) Z P q → ∀ w1 w2 : Int32, tq_loop (f_X11_infer_b54 155 w1 (tI Z.al 8) (nI q) w2 (tc_mk S (tc_I c1 189 f))) tq_N (nI n, (5 : Int32) * nI q) = some (tI (Z.RF P q (fun x => n.testBit x)) 8) := by
    intro f q n hq hn hT w1 w2
    have h5 := hP.2.1 q hq
    have hnb : s8 (fun x => n.testBit x) := fun x h => by
      rcases Nat.lt_or_ge x 8 with w | w
      · exact w
      · have : n.testBit x = false := Nat.testBit_lt_two_pow (Nat.lt_of_lt_of_le hn (Nat.pow_le_pow_right (n := 2) (i := 8) (by decide) w))
        change n.testBit x = true at h
        rw [this] at h; cases h
    rw [RF_eq Z hP hq]
    have hsc : tq_ai (tc_mk S (tc_I c1 189 f)) 175 (nI q) = some (nI (P.sc q)) := by simp (maxSteps := 3000000) (disch := omega) only [Option.bind_some, tc_bs, tq_let, tc_I1, tc_I2, tc_J1, tc_J2, tc_J3, tc_F1, tc_F2, tc_F3, tc_F4, tc_G1, tc_G2, tc_G3, tc_G4, tc_G5, tc_us, tc_un, s_one, s_holds, s_J13_bitCount, bz_bI, hM.f, show q < 20 from by omega, (hR1 f).2.1 q hq]
    have e5 : (5 : Int32) * nI q = nI (5 * q + 0) := by rw [show (5 : Int32) = nI 5 from rfl, nI_mul, Nat.add_zero]
    have hsx : ∀ k, s8 (Z.rfo P (Z.RF P) q (fun x => n.testBit x) k) := by
      intro k
      induction k with
      | zero => exact hnb
      | succ k ih =>
        intro x h
        change Z.rst P (Z.RF P) (5 * q + k) (Z.rfo P (Z.RF P) q (fun x => n.testBit x) k) x = true at h
        unfold Sma.rst at h
        simp only [Bool.and_eq_true] at h
        exact al_s8 Z x h.1.2
    have W := tc_iter (B := f_X11_infer_b54 155 w1 (tI Z.al 8) (nI q) w2 (tc_mk S (tc_I c1 189 f))) (P.sc q) (fun k => (tI (Z.rfo P (Z.RF P) q (fun x => n.testBit x) k) 8, nI (5 * q + k))) (e := tI (Z.rfo P (Z.RF P) q (fun x => n.testBit x) (P.sc q)) 8) (fun k hk => by
      obtain ⟨g1, g2, g3, -, y, g5⟩ := pr_step (S := S) (c := tc_I c1 189 f) hM (hR1 f) hP hq hk
      obtain ⟨hax, hts, hby, -, -⟩ := hP.2.2 q k hq hk
      have hy : P.ax (5 * q + k) = 12 → y = nI (P.by (5 * q + k)) := fun h => by
        have := g3 h
        rw [g5] at this
        exact Option.some.inj this
      obtain ⟨X, x1, x2⟩ := s_X11_cameBy (S := S) hM (hC1 f) hP (by omega) hT (show P.ax (5 * q + k) < 13 by omega) hby hy (hsx k)
      dsimp only [f_X11_infer_b54]
      simp only [hg25, hsc, Option.bind_some]
      rw [e5, nI_add, if_neg (show ¬ nI (5 * q + k) ≥ nI (5 * q + 0 + P.sc q) from nI_ge (by omega) (by omega))]
      simp only [hg26, g2, g1, g5, his, x1, t8_and, s_X11_left hM (hC1 f) hts, Option.bind_some, tq_let, nI_1]
      refine congrArg (fun y => (some (Sum.inl (y, nI (5 * q + k + 1))) : Option ((Int32 × Int32) ⊕ Int32))) (t8_cong fun x hx => ?_)
      show ((X x && Z.al x) && _) = Z.rst P (Z.RF P) (5 * q + k) _ x
      unfold Sma.rst
      rw [x2 x hx]) (by
      dsimp only [f_X11_infer_b54]
      simp only [hg25, hsc, Option.bind_some]
      rw [e5, nI_add, Nat.add_zero, if_pos (Int32.le_refl _)]) (by unfold tq_N; omega)
    rw [e5, nI_t8 hn]
    exact W
  obtain ⟨f, u1, u2⟩ := tc_run (B := f_X11_infer_b29 155 (nI p) (tI Z.al 8)) (p + 1) (fun q f => (nI q, tc_mk S (tc_I c1 189 f))) (fun q f => RI (tc_I c1 189 f) Z P q) (fun f => tc_mk S (tc_I c1 189 f)) (by omega) (fun q f hq hf => by
    obtain ⟨f', w1, w2⟩ := tc_run (B := f_X11_infer_b37 155 (nI p) (tI Z.al 8) (nI q)) 256 (fun n f => (nI n, tc_mk S (tc_I c1 189 f))) (fun n f => RI (tc_I c1 189 f) Z P q ∧ ∀ b, b < n → f (256 * q + b) = tI (Z.RF P q (fun x => b.testBit x)) 8) (fun f => tc_mk S (tc_I c1 189 f)) (by omega) (fun n f hn hf => by
      obtain ⟨f1, f2⟩ := hf
      have e8 : (256 : Int32) * nI q + nI n = nI (256 * q + n) := by rw [show (256 : Int32) = nI 256 from rfl, nI_mul, nI_add]
      have hst : ∀ v, tq_si (tc_mk S (tc_I c1 189 f)) 189 (nI (256 * q + n)) v = some (tc_mk S (tc_I c1 189 (upd f (256 * q + n) v))) := fun v => by
        simp (maxSteps := 3000000) (disch := omega) only [Option.bind_some, tc_bs, tq_let, tc_I1, tc_I2, tc_J1, tc_J2, tc_J3, tc_F1, tc_F2, tc_F3, tc_F4, tc_G1, tc_G2, tc_G3, tc_G4, tc_G5, tc_us, tc_un, s_one, s_holds, s_J13_bitCount, bz_bI, hM.f, show 256 * q + n < 5120 from by omega]
        rw [tc_I_I]
      refine ⟨upd f (256 * q + n) (tI (Z.RF P q (fun x => n.testBit x)) 8), ?_, ?_, fun b hb => ?_⟩
      · dsimp only [f_X11_infer_b37]
        rw [if_neg (show ¬ nI n ≥ 256 from nI_ge hn (by decide))]
        simp only [tq_let]
        rw [steps f q n (by omega) hn f1]
        simp only [hg43, e8, hst, Option.bind_some, nI_1]
      · intro q' b hq' hb
        have := f1 q' b hq' hb
        rw [tc_I_at] at this ⊢
        unfold upd
        rw [if_neg (by omega)]
        exact this
      · unfold upd
        by_cases e : b = n
        · rw [e, if_pos rfl]
        · rw [if_neg (by omega)]
          exact f2 b (by omega)) (fun f hf => by
      dsimp only [f_X11_infer_b37]
      rw [if_pos (show nI 256 ≥ 256 by decide)]) (x := f) ⟨hf, fun b hb => by omega⟩
    refine ⟨f', ?_, fun q' b hq' hb => ?_⟩
    · dsimp only [f_X11_infer_b29]
      rw [if_neg (show ¬ nI q > nI p from nI_nlt (by omega) (by omega))]
      rw [show ((0 : Int32), tc_mk S (tc_I c1 189 f)) = (nI 0, tc_mk S (tc_I c1 189 f)) from rfl, w1, Option.bind_some]
      simp only [tq_let, nI_1]
    · by_cases e : q' = q
      · subst e; rw [tc_I_at]; exact w2.2 b hb
      · exact w2.1 q' b (by omega) hb) (fun f hf => by
    dsimp only [f_X11_infer_b29]
    rw [if_pos (show nI (p + 1) > nI p from nI_lt (by omega) (by omega))]) (x := c1.1 189) (fun q a hq => by omega)
  rw [tc_I_self] at u1
  refine ⟨f, ?_⟩
  have e8 : (256 : Int32) * nI p + 1 = nI (256 * p + 1) := by rw [show (256 : Int32) = nI 256 from rfl, nI_mul]; exact nI_1 _
  have hrd : tq_ai (tc_mk S (tc_I c1 189 f)) 189 (nI (256 * p + 1)) = some (tI (Z.CF P p 0) 8) := by
    have h1 := u2 p 1 (by omega) (by decide)
    rw [tc_I_at] at h1
    simp (maxSteps := 3000000) (disch := omega) only [Option.bind_some, tc_bs, tq_let, tc_I1, tc_I2, tc_J1, tc_J2, tc_J3, tc_F1, tc_F2, tc_F3, tc_F4, tc_G1, tc_G2, tc_G3, tc_G4, tc_G5, tc_us, tc_un, s_one, s_holds, s_J13_bitCount, bz_bI, hM.f, show 256 * p + 1 < 5120 from by omega]
    rw [h1]
    have e1 : (fun x => Nat.testBit 1 x) = fun x => decide (x = 0) := funext fun x => by
      by_cases q : x = 0
      · subst q; rfl
      · obtain ⟨k, rfl⟩ : ∃ k, x = k + 1 := ⟨x - 1, by omega⟩
        rw [Nat.testBit_succ]; simp
    rw [e1, (RF_CF Z hP p hp).2 _ (fun x h => by rw [of_decide_eq_true h]; exact al_0 Z)]
    refine congrArg some (t8_cong fun x hx => ?_)
    unfold st8
    apply Bool.ext_iff
    rw [anyB_iff]
    constructor
    · rintro ⟨y, hy, h⟩
      rw [Bool.and_eq_true, decide_eq_true_eq] at h
      rw [← h.1]; exact h.2
    · intro h; exact ⟨0, by decide, by rw [h]; rfl⟩
  have hip : f_X11_isPath 155 (nI p) (tc_mk S c) = some 1 := by
    rw [s_X11_isPath hM hPR.1 hP, decide_eq_true (p := (0 : Int32) ≤ nI p ∧ nI p < nI P.n) ⟨nI_pos' (by omega), nI_lt hp (by omega)⟩]; rfl
  unfold f_X11_infer
  rw [his, Option.bind_some, hip, Option.bind_some]
  simp only [tq_let]
  rw [if_neg (show ¬ (1 : Int32) = 0 by decide), Option.bind_some, s_X11_refused hM, Option.bind_some]
  dsimp only
  rw [if_pos (show bI (decide ((0 : Int32) ≠ 0)) = 0 by decide), his, Option.bind_some, hal, Option.bind_some]
  rw [show ((0 : Int32), tc_mk S (tc_F c 155 0 0)) = (nI 0, tc_mk S c1) from rfl, u1]
  simp only [hg43, e8, hrd, Option.bind_some]
  rfl
end INS
