/-! ===== schemas: types of elements; the class, done ===== -/
section SCT
variable {S : tq_H} {c c' : tc_C} {b e p k d m r z i t : Nat} {D : Doc} {Z : Sma}
theorem atts_loop (hS : tc_Sch S 131) (hT : tc_Tree S e) (hw : D.wf) (hL : Lay c e D) (hC : SC c Z) (hi : i < D.n) (ht : t < 6) :
    tq_loop (f_X6_isOfType_b79 131 (nI i) (nI t) (e + 1) (tc_mk S c)) tq_N 0 = some (if D.atts Z i t 8 then .inl () else .inr 0) := by
  have hn := D.n_le hw
  have hg2 : tq_gr (tc_mk S c) 131 6 2 = some 136 := by simp (maxSteps := 3000000) (disch := omega) only [Option.bind_some, tc_bs, tq_let, tc_I1, tc_I2, tc_J1, tc_J2, tc_J3, tc_F1, tc_F2, tc_F3, tc_F4, tc_G1, tc_G2, tc_G3, tc_G4, tc_G5, tc_us, tc_un, s_one, s_holds, s_J13_bitCount, bz_bI, hS.f]
  have hi2 : tq_is (tc_mk S c) 136 5 = some () := by simp (maxSteps := 3000000) (disch := omega) only [Option.bind_some, tc_bs, tq_let, tc_I1, tc_I2, tc_J1, tc_J2, tc_J3, tc_F1, tc_F2, tc_F3, tc_F4, tc_G1, tc_G2, tc_G3, tc_G4, tc_G5, tc_us, tc_un, s_one, s_holds, s_J13_bitCount, bz_bI, hS.f]
  have hl : tq_is (tc_mk S c) (e + 1) 3 = some () := tc_is hT.2.1
  obtain ⟨r, w1, w2⟩ := tc_run2 (B := f_X6_isOfType_b79 131 (nI i) (nI t) (e + 1) (tc_mk S c)) 8 (fun a (_ : Unit) => nI a) (fun a _ => D.atts Z i t a = true) (fun r => r = if D.atts Z i t 8 then .inl () else .inr 0) (by omega) (fun a _ ha hI => by
    have hgt : f_X5_get 136 (nI t * 8 + nI a) (tc_mk S c) = some (Z.ru (8 * t + a)) := by
      have e1 : nI t * 8 + nI a = nI (8 * t + a) := by rw [show (8 : Int32) = nI 8 from rfl, nI_mul, nI_add, Nat.mul_comm]
      rw [e1]
      simp (maxSteps := 3000000) (disch := omega) only [Option.bind_some, tc_bs, tq_let, tc_I1, tc_I2, tc_J1, tc_J2, tc_J3, tc_F1, tc_F2, tc_F3, tc_F4, tc_G1, tc_G2, tc_G3, tc_G4, tc_G5, tc_us, tc_un, s_one, s_holds, s_J13_bitCount, bz_bI, hS.f, rg_in _ (show 8 * t + a < 48 by omega) (show 48 < 2 ^ 31 by decide)]
      rw [hC.2.2.1 _ (by omega)]
    dsimp only [f_X6_isOfType_b79]
    rw [if_neg (show ¬ nI a ≥ 8 from nI_ge ha (by decide))]
    simp only [hg2, hi2, hl, hgt, s_X3_attributesOf hT hw hL hi, s_X3_passing hT hL (show a < 14 by omega), Option.bind_some, tq_let]
    have hz : (lg_cmp (mkS (D.ax 11 i) &&& mkS (fun j => decide (j < D.n) && D.tst a j)) 0 = 0) ↔ D.hasA i a = false := by
      rw [lg_cmp_0, mkS_and, mkS_z]
      constructor
      · intro h
        cases q : D.hasA i a with
        | false => rfl
        | true =>
          obtain ⟨j, hj, hh⟩ := anyB_iff.mp q
          rw [Bool.and_eq_true, decide_eq_true_eq] at hh
          have := h j (by omega)
          have hk2 : D.kd j = 2 := by have := hh.1; simp [Doc.ax] at this; exact this.2.2.2
          have : D.tst a j = true := by unfold Doc.tst; rw [if_pos ha]; simp [hh.2, hk2]
          have := h j (by omega)
          simp [hh.1, hj] at this
          simp_all
      · intro h j _
        cases q : (D.ax 11 i j && (decide (j < D.n) && D.tst a j)) with
        | false => rfl
        | true =>
          simp only [Bool.and_eq_true, decide_eq_true_eq] at q
          have h3 := q.2.2
          unfold Doc.tst at h3
          rw [if_pos ha] at h3
          have : D.hasA i a = true := anyB_iff.mpr ⟨j, q.2.1, by rw [q.1]; simp at h3 ⊢; exact h3.2⟩
          rw [h] at this; cases this
    have hp : (if (if lg_cmp (mkS (D.ax 11 i) &&& mkS (fun j => decide (j < D.n) && D.tst a j)) 0 = 0 then (0 : Int32) else 1) = 0 then (2 : Int32) else 0) = if D.hasA i a then 0 else 2 := by
      cases q : D.hasA i a with
      | false => rw [if_pos (hz.mpr q)]; rfl
      | true =>
        have hz' : ¬ (lg_cmp (mkS (D.ax 11 i) &&& mkS (fun j => decide (j < D.n) && D.tst a j)) 0 = 0) := fun w => by rw [hz.mp w] at q; cases q
        rw [if_neg hz']; rfl
    rw [hp]
    by_cases q : Z.ru (8 * t + a) = if D.hasA i a then 0 else 2
    · right
      refine ⟨_, if_pos q, ?_⟩
      have h1 : D.atts Z i t (a + 1) = false := by
        show (D.atts Z i t a && decide (Z.ru (8 * t + a) ≠ if D.hasA i a then 0 else 2)) = false
        simp [q]
      have h2 : ∀ d, D.atts Z i t (a + 1 + d) = false := by
        intro d
        induction d with
        | zero => exact h1
        | succ d ih => show (D.atts Z i t (a + 1 + d) && _) = false; rw [ih]; rfl
      have := h2 (8 - (a + 1))
      rw [show a + 1 + (8 - (a + 1)) = 8 by omega] at this
      rw [this]; rfl
    · left
      refine ⟨(), by rw [if_neg q, nI_1], ?_⟩
      show (D.atts Z i t a && decide (Z.ru (8 * t + a) ≠ if D.hasA i a then 0 else 2)) = true
      rw [hI]; simp [q]) (fun _ hI => ⟨_, rfl, by rw [hI]; rfl⟩) (x := ()) rfl
  rw [w2] at w1
  exact w1
theorem atts_loop_2 (hS : tc_Sch S 131) (hT : tc_Tree S e) (hw : D.wf) (hL : Lay c e D) (hC : SC c Z) (hi : i < D.n) (ht : t < 6) :
    tq_loop (f_X6_isOfType_b79_2 131 (nI i) (nI t) (e + 1) (tc_mk S c)) tq_N 0 = some (if D.atts Z i t 8 then .inl () else .inr 0) := by
  have hn := D.n_le hw
  have hg2 : tq_gr (tc_mk S c) 131 6 2 = some 136 := by simp (maxSteps := 3000000) (disch := omega) only [Option.bind_some, tc_bs, tq_let, tc_I1, tc_I2, tc_J1, tc_J2, tc_J3, tc_F1, tc_F2, tc_F3, tc_F4, tc_G1, tc_G2, tc_G3, tc_G4, tc_G5, tc_us, tc_un, s_one, s_holds, s_J13_bitCount, bz_bI, hS.f]
  have hi2 : tq_is (tc_mk S c) 136 5 = some () := by simp (maxSteps := 3000000) (disch := omega) only [Option.bind_some, tc_bs, tq_let, tc_I1, tc_I2, tc_J1, tc_J2, tc_J3, tc_F1, tc_F2, tc_F3, tc_F4, tc_G1, tc_G2, tc_G3, tc_G4, tc_G5, tc_us, tc_un, s_one, s_holds, s_J13_bitCount, bz_bI, hS.f]
  have hl : tq_is (tc_mk S c) (e + 1) 3 = some () := tc_is hT.2.1
  obtain ⟨r, w1, w2⟩ := tc_run2 (B := f_X6_isOfType_b79_2 131 (nI i) (nI t) (e + 1) (tc_mk S c)) 8 (fun a (_ : Unit) => nI a) (fun a _ => D.atts Z i t a = true) (fun r => r = if D.atts Z i t 8 then .inl () else .inr 0) (by omega) (fun a _ ha hI => by
    have hgt : f_X5_get 136 (nI t * 8 + nI a) (tc_mk S c) = some (Z.ru (8 * t + a)) := by
      have e1 : nI t * 8 + nI a = nI (8 * t + a) := by rw [show (8 : Int32) = nI 8 from rfl, nI_mul, nI_add, Nat.mul_comm]
      rw [e1]
      simp (maxSteps := 3000000) (disch := omega) only [Option.bind_some, tc_bs, tq_let, tc_I1, tc_I2, tc_J1, tc_J2, tc_J3, tc_F1, tc_F2, tc_F3, tc_F4, tc_G1, tc_G2, tc_G3, tc_G4, tc_G5, tc_us, tc_un, s_one, s_holds, s_J13_bitCount, bz_bI, hS.f, rg_in _ (show 8 * t + a < 48 by omega) (show 48 < 2 ^ 31 by decide)]
      rw [hC.2.2.1 _ (by omega)]
    dsimp only [f_X6_isOfType_b79_2]
    rw [if_neg (show ¬ nI a ≥ 8 from nI_ge ha (by decide))]
    simp only [hg2, hi2, hl, hgt, s_X3_attributesOf hT hw hL hi, s_X3_passing hT hL (show a < 14 by omega), Option.bind_some, tq_let]
    have hz : (lg_cmp (mkS (D.ax 11 i) &&& mkS (fun j => decide (j < D.n) && D.tst a j)) 0 = 0) ↔ D.hasA i a = false := by
      rw [lg_cmp_0, mkS_and, mkS_z]
      constructor
      · intro h
        cases q : D.hasA i a with
        | false => rfl
        | true =>
          obtain ⟨j, hj, hh⟩ := anyB_iff.mp q
          rw [Bool.and_eq_true, decide_eq_true_eq] at hh
          have := h j (by omega)
          have hk2 : D.kd j = 2 := by have := hh.1; simp [Doc.ax] at this; exact this.2.2.2
          have : D.tst a j = true := by unfold Doc.tst; rw [if_pos ha]; simp [hh.2, hk2]
          have := h j (by omega)
          simp [hh.1, hj] at this
          simp_all
      · intro h j _
        cases q : (D.ax 11 i j && (decide (j < D.n) && D.tst a j)) with
        | false => rfl
        | true =>
          simp only [Bool.and_eq_true, decide_eq_true_eq] at q
          have h3 := q.2.2
          unfold Doc.tst at h3
          rw [if_pos ha] at h3
          have : D.hasA i a = true := anyB_iff.mpr ⟨j, q.2.1, by rw [q.1]; simp at h3 ⊢; exact h3.2⟩
          rw [h] at this; cases this
    have hp : (if (if lg_cmp (mkS (D.ax 11 i) &&& mkS (fun j => decide (j < D.n) && D.tst a j)) 0 = 0 then (0 : Int32) else 1) = 0 then (2 : Int32) else 0) = if D.hasA i a then 0 else 2 := by
      cases q : D.hasA i a with
      | false => rw [if_pos (hz.mpr q)]; rfl
      | true =>
        have hz' : ¬ (lg_cmp (mkS (D.ax 11 i) &&& mkS (fun j => decide (j < D.n) && D.tst a j)) 0 = 0) := fun w => by rw [hz.mp w] at q; cases q
        rw [if_neg hz']; rfl
    rw [hp]
    by_cases q : Z.ru (8 * t + a) = if D.hasA i a then 0 else 2
    · right
      refine ⟨_, if_pos q, ?_⟩
      have h1 : D.atts Z i t (a + 1) = false := by
        show (D.atts Z i t a && decide (Z.ru (8 * t + a) ≠ if D.hasA i a then 0 else 2)) = false
        simp [q]
      have h2 : ∀ d, D.atts Z i t (a + 1 + d) = false := by
        intro d
        induction d with
        | zero => exact h1
        | succ d ih => show (D.atts Z i t (a + 1 + d) && _) = false; rw [ih]; rfl
      have := h2 (8 - (a + 1))
      rw [show a + 1 + (8 - (a + 1)) = 8 by omega] at this
      rw [this]; rfl
    · left
      refine ⟨(), by rw [if_neg q, nI_1], ?_⟩
      show (D.atts Z i t a && decide (Z.ru (8 * t + a) ≠ if D.hasA i a then 0 else 2)) = true
      rw [hI]; simp [q]) (fun _ hI => ⟨_, rfl, by rw [hI]; rfl⟩) (x := ()) rfl
  rw [w2] at w1
  exact w1
theorem s_isOfType (hS : tc_Sch S 131) (hT : tc_Tree S e) (hw : D.wf) (hL : Lay c e D) (hN : Nod c e D m) (hC : SC c Z) (hi : i < D.n) (hk : D.kd i = 0) (ht : t < 6) (hE : ∀ j, i < j → j < D.n → c.1 141 j = tI (D.ty Z j) 6) :
    f_X6_isOfType 131 e (nI i) (nI t) (tc_mk S c) = some (bI (D.ty Z i t)) := by
  have hn := D.n_le hw
  have oi := D.ord_lt hw hi
  have hg0 : tq_gr (tc_mk S c) 131 6 0 = some 132 := by simp (maxSteps := 3000000) (disch := omega) only [Option.bind_some, tc_bs, tq_let, tc_I1, tc_I2, tc_J1, tc_J2, tc_J3, tc_F1, tc_F2, tc_F3, tc_F4, tc_G1, tc_G2, tc_G3, tc_G4, tc_G5, tc_us, tc_un, s_one, s_holds, s_J13_bitCount, bz_bI, hS.f]
  have hi0 : tq_is (tc_mk S c) 132 5 = some () := by simp (maxSteps := 3000000) (disch := omega) only [Option.bind_some, tc_bs, tq_let, tc_I1, tc_I2, tc_J1, tc_J2, tc_J3, tc_F1, tc_F2, tc_F3, tc_F4, tc_G1, tc_G2, tc_G3, tc_G4, tc_G5, tc_us, tc_un, s_one, s_holds, s_J13_bitCount, bz_bI, hS.f]
  have hgx : tq_gi (tc_mk S c) 131 6 8 = some (c.2.2.1 131 8) := by simp (maxSteps := 3000000) (disch := omega) only [Option.bind_some, tc_bs, tq_let, tc_I1, tc_I2, tc_J1, tc_J2, tc_J3, tc_F1, tc_F2, tc_F3, tc_F4, tc_G1, tc_G2, tc_G3, tc_G4, tc_G5, tc_us, tc_un, s_one, s_holds, s_J13_bitCount, bz_bI, hS.f]
  have he0 : tq_gr (tc_mk S c) e 8 0 = some (e + 1) := by simp (maxSteps := 3000000) (disch := omega) only [Option.bind_some, tc_bs, tq_let, tc_I1, tc_I2, tc_J1, tc_J2, tc_J3, tc_F1, tc_F2, tc_F3, tc_F4, tc_G1, tc_G2, tc_G3, tc_G4, tc_G5, tc_us, tc_un, s_one, s_holds, s_J13_bitCount, bz_bI, hT.f]
  have he2 : tq_gr (tc_mk S c) e 8 2 = some (e + 24) := by simp (maxSteps := 3000000) (disch := omega) only [Option.bind_some, tc_bs, tq_let, tc_I1, tc_I2, tc_J1, tc_J2, tc_J3, tc_F1, tc_F2, tc_F3, tc_F4, tc_G1, tc_G2, tc_G3, tc_G4, tc_G5, tc_us, tc_un, s_one, s_holds, s_J13_bitCount, bz_bI, hT.f]
  have hl : tq_is (tc_mk S c) (e + 1) 3 = some () := tc_is hT.2.1
  have hl5 : tq_is (tc_mk S c) (e + 24) 5 = some () := by simp (maxSteps := 3000000) (disch := omega) only [Option.bind_some, tc_bs, tq_let, tc_I1, tc_I2, tc_J1, tc_J2, tc_J3, tc_F1, tc_F2, tc_F3, tc_F4, tc_G1, tc_G2, tc_G3, tc_G4, tc_G5, tc_us, tc_un, s_one, s_holds, s_J13_bitCount, bz_bI, hT.f]
  have hnm : f_X5_get 132 (nI t) (tc_mk S c) = some (Z.nm t) := by
    simp (maxSteps := 3000000) (disch := omega) only [Option.bind_some, tc_bs, tq_let, tc_I1, tc_I2, tc_J1, tc_J2, tc_J3, tc_F1, tc_F2, tc_F3, tc_F4, tc_G1, tc_G2, tc_G3, tc_G4, tc_G5, tc_us, tc_un, s_one, s_holds, s_J13_bitCount, bz_bI, hS.f, rg_in _ ht (show 6 < 2 ^ 31 by decide)]
    rw [hC.1 t ht]
  have hnd : f_X5_get (e + 24) (nI (D.ord i)) (tc_mk S c) = some (D.nm i) := by
    simp (maxSteps := 3000000) (disch := omega) only [Option.bind_some, tc_bs, tq_let, tc_I1, tc_I2, tc_J1, tc_J2, tc_J3, tc_F1, tc_F2, tc_F3, tc_F4, tc_G1, tc_G2, tc_G3, tc_G4, tc_G5, tc_us, tc_un, s_one, s_holds, s_J13_bitCount, bz_bI, hT.f]
    rw [rg_ord hw hi, hN.2.2.2.2.1 i hi]
  have h9 : f_X3_passing (e + 1) 9 (tc_mk S c) = some (mkS (fun j => decide (j < D.n) && D.tst 9 j)) := s_X3_passing hT hL (show 9 < 14 by decide)
  have hz : (lg_cmp (mkS (D.ax 1 i) &&& mkS (fun j => decide (j < D.n) && D.tst 9 j)) 0 = 0) ↔ D.hasT i = false := by
    rw [lg_cmp_0, mkS_and, mkS_z]
    have h9t : ∀ j, D.tst 9 j = decide (D.kd j = 1) := fun j => by simp [Doc.tst]
    constructor
    · intro h
      cases q : D.hasT i with
      | false => rfl
      | true =>
        obtain ⟨j, hj, hh⟩ := anyB_iff.mp q
        rw [Bool.and_eq_true] at hh
        have := h j (by omega)
        rw [h9t, hh.1, hh.2] at this
        simp [hj] at this
    · intro h j _
      cases q : (D.ax 1 i j && (decide (j < D.n) && D.tst 9 j)) with
      | false => rfl
      | true =>
        simp only [Bool.and_eq_true, decide_eq_true_eq] at q
        have : D.hasT i = true := anyB_iff.mpr ⟨j, q.2.1, by rw [q.1, ← h9t, q.2.2]; rfl⟩
        rw [h] at this; cases this
  have hke : mkS (D.ax 1 i) &&& mkS (fun j => decide (j < D.n ∧ D.kd j = 0)) = mkS (D.ke i) := by
    rw [mkS_and]
    apply mkS_cong
    intro j _
    unfold Doc.ke
    cases q : D.ax 1 i j with
    | false => rfl
    | true => simp [D.ax_lt 1 i j q]
  have hacc := s_isAccepted hS hw hC ht hE
  rw [D.ty_eq hw hi t]
  unfold f_X6_isOfType Doc.own
  simp only [he0, hg0, hi0, hnm, he2, hl, s_X3_nodeAt hT hw hL hi, hl5, hnd, Option.bind_some]
  by_cases q1 : Z.nm t = D.nm i
  · rw [if_pos q1]
    simp only [s_X3_children hT hw hL hi, h9, Option.bind_some, tq_let]
    cases q2 : D.hasT i with
    | false =>
      rw [if_pos (hz.mpr q2), if_pos rfl, atts_loop hS hT hw hL hC hi ht, Option.bind_some]
      cases q3 : D.atts Z i t 8 with
      | false => simp [bI]
      | true =>
        simp only [s_X3_elements hT hL, hS.is, hke, hacc, Option.bind_some, if_true, bz_bI]
        simp [q1, hk]
    | true =>
      have hz' : ¬ (lg_cmp (mkS (D.ax 1 i) &&& mkS (fun j => decide (j < D.n) && D.tst 9 j)) 0 = 0) := fun w => by rw [hz.mp w] at q2; cases q2
      rw [if_neg hz', if_neg (show ¬ (1 : Int32) = 0 by decide), hgx, Option.bind_some]
      cases q4 : Z.tx t with
      | false =>
        rw [if_pos ((bt_sh _ (show t < 32 by omega)).mpr (by rw [hC.2.2.2.2 t ht]; exact q4))]
        simp [bI]
      | true =>
        rw [if_neg (fun w => by have := (bt_sh _ (show t < 32 by omega)).mp w; rw [hC.2.2.2.2 t ht, q4] at this; cases this), atts_loop_2 hS hT hw hL hC hi ht, Option.bind_some]
        cases q3 : D.atts Z i t 8 with
        | false => simp [bI]
        | true =>
          simp only [s_X3_elements hT hL, hS.is, hke, hacc, Option.bind_some, if_true, bz_bI]
          simp [q1, hk]
  · rw [if_neg q1]; simp [q1, bI]
theorem types_loop (hS : tc_Sch S 131) (hT : tc_Tree S e) (hw : D.wf) (hL : Lay c e D) (hN : Nod c e D m) (hC : SC c Z) (hi : i < D.n) (hE : ∀ j, i < j → j < D.n → c.1 141 j = tI (D.ty Z j) 6) (w1 : Int32) :
    tq_loop (f_X6_typesOf_b25 131 e w1 (nI i) (tc_mk S c)) tq_N (0, 0) = some (tI (D.ty Z i) 6) := by
  have hn := D.n_le hw
  have he0 : tq_gr (tc_mk S c) e 8 0 = some (e + 1) := by simp (maxSteps := 3000000) (disch := omega) only [Option.bind_some, tc_bs, tq_let, tc_I1, tc_I2, tc_J1, tc_J2, tc_J3, tc_F1, tc_F2, tc_F3, tc_F4, tc_G1, tc_G2, tc_G3, tc_G4, tc_G5, tc_us, tc_un, s_one, s_holds, s_J13_bitCount, bz_bI, hT.f]
  have hl : tq_is (tc_mk S c) (e + 1) 3 = some () := tc_is hT.2.1
  have W := tc_scan (B := f_X6_typesOf_b25 131 e w1 (nI i) (tc_mk S c)) 6 (fun t => tI (D.ty Z i) t) (e := tI (D.ty Z i) 6) (by omega) (fun t ht => by
    dsimp only [f_X6_typesOf_b25]
    rw [if_neg (show ¬ nI t ≥ 6 from nI_ge ht (by decide))]
    simp only [he0, hl, s_X3_elements hT hL, s_holds, hasI_mkS _ (show i < 64 by omega), Option.bind_some]
    by_cases hk : D.kd i = 0
    · rw [if_neg (by simp [hi, hk, bI])]
      simp only [hS.is, s_isOfType hS hT hw hL hN hC hi hk ht hE, Option.bind_some, tq_let, sh1 t (by omega), nI_1]
      show _ = some (Sum.inl (if D.ty Z i t then tI (D.ty Z i) t ||| nI (2 ^ t) else tI (D.ty Z i) t, nI (t + 1)))
      cases D.ty Z i t with
      | false => rw [if_pos (by decide)]; rfl
      | true => rw [if_neg (by decide)]; rfl
    · rw [if_pos (by simp [hk, bI]), Option.bind_some]
      have : D.ty Z i t = false := by
        rw [D.ty_eq hw hi t]; unfold Doc.own; simp [hk]
      simp only [tq_let, nI_1]
      show _ = some (Sum.inl (if D.ty Z i t then tI (D.ty Z i) t ||| nI (2 ^ t) else tI (D.ty Z i) t, nI (t + 1)))
      rw [this]; rfl) (by rfl)
  exact W
theorem SC.I (h : SC c Z) (f : Nat → Int32) : SC (tc_I c 141 f) Z := by
  obtain ⟨h1, h2, h3, h4, h5⟩ := h
  refine ⟨?_, ?_, ?_, ?_, h5⟩ <;> rw [tc_I1, tc_un _ _ (by decide)] <;> assumption
theorem s_typesOf (hS : tc_Sch S 131) (hT : tc_Tree S e) (he : e + 40 ≤ 131 ∨ 147 ≤ e) (hw : D.wf) (hL : Lay c e D) (hN : Nod c e D m) (hC : SC c Z) (hi : i < D.n) :
    ∃ f, f_X6_typesOf 131 e (nI i) (tc_mk S c) = some (tI (D.ty Z i) 6, tc_mk S (tc_I c 141 f)) := by
  have hn := D.n_le hw
  have kI := fun f => Kp.I (c := c) (a := 141) (lo := 141) (hi := 142) f (by omega) (by omega)
  have he0 : tq_gr (tc_mk S c) e 8 0 = some (e + 1) := by simp (maxSteps := 3000000) (disch := omega) only [Option.bind_some, tc_bs, tq_let, tc_I1, tc_I2, tc_J1, tc_J2, tc_J3, tc_F1, tc_F2, tc_F3, tc_F4, tc_G1, tc_G2, tc_G3, tc_G4, tc_G5, tc_us, tc_un, s_one, s_holds, s_J13_bitCount, bz_bI, hT.f]
  have hl : tq_is (tc_mk S c) (e + 1) 3 = some () := tc_is hT.2.1
  obtain ⟨f, v1, v2⟩ := tc_run (B := f_X6_typesOf_b10 131 e (nI i)) (D.n - i) (fun k f => (nI (D.n - k) + (-1), tc_mk S (tc_I c 141 f))) (fun k f => ∀ j, D.n - k ≤ j → j < D.n → f j = tI (D.ty Z j) 6) (fun f => tc_mk S (tc_I c 141 f)) (by omega) (fun k f hk hf => by
    have hL' := hL.kp (kI f) (by omega)
    have hN' := hN.kp (kI f) (by omega)
    have hC' := hC.I f
    have hkn : D.n - (k + 1) < D.n := by omega
    have e1 : nI (D.n - k) + (-1) = nI (D.n - (k + 1)) := by rw [show D.n - k = (D.n - (k + 1)) + 1 by omega, pk_m1]
    have hlp := types_loop (S := S) hS hT hw hL' hN' hC' hkn (fun j h1 h2 => by rw [tc_I1, tc_us]; exact hf j (by omega) h2) (nI i)
    have hg4 : tq_gr (tc_mk S (tc_I c 141 f)) 131 6 4 = some 140 := by simp (maxSteps := 3000000) (disch := omega) only [Option.bind_some, tc_bs, tq_let, tc_I1, tc_I2, tc_J1, tc_J2, tc_J3, tc_F1, tc_F2, tc_F3, tc_F4, tc_G1, tc_G2, tc_G3, tc_G4, tc_G5, tc_us, tc_un, s_one, s_holds, s_J13_bitCount, bz_bI, hS.f]
    have hi4 : tq_is (tc_mk S (tc_I c 141 f)) 140 5 = some () := by simp (maxSteps := 3000000) (disch := omega) only [Option.bind_some, tc_bs, tq_let, tc_I1, tc_I2, tc_J1, tc_J2, tc_J3, tc_F1, tc_F2, tc_F3, tc_F4, tc_G1, tc_G2, tc_G3, tc_G4, tc_G5, tc_us, tc_un, s_one, s_holds, s_J13_bitCount, bz_bI, hS.f]
    have hst : ∀ x, f_X5_set 140 (nI (D.n - (k + 1))) x (tc_mk S (tc_I c 141 f)) = some (tc_mk S (tc_I c 141 (upd f (D.n - (k + 1)) x))) := fun x => by
      simp (maxSteps := 3000000) (disch := omega) only [Option.bind_some, tc_bs, tq_let, tc_I1, tc_I2, tc_J1, tc_J2, tc_J3, tc_F1, tc_F2, tc_F3, tc_F4, tc_G1, tc_G2, tc_G3, tc_G4, tc_G5, tc_us, tc_un, s_one, s_holds, s_J13_bitCount, bz_bI, hS.f, rs_in _ _ (show D.n - (k + 1) < 60 by omega) (show 60 < 2 ^ 31 by decide)]
      rw [tc_I_I]
    refine ⟨upd f (D.n - (k + 1)) (tI (D.ty Z (D.n - (k + 1))) 6), ?_, fun j h1 h2 => ?_⟩
    · dsimp only [f_X6_typesOf_b10]
      rw [e1, if_neg (show ¬ nI (D.n - (k + 1)) < nI i from nI_nlt (by omega) (by omega)), if_neg (nI_pos (by omega)), hlp, Option.bind_some]
      simp only [hg4, hi4, hst, Option.bind_some, tq_let]
    · unfold upd
      by_cases q : j = D.n - (k + 1)
      · rw [if_pos q, q]
      · rw [if_neg q]; exact hf j (by omega) h2) (fun f hf => by
    dsimp only [f_X6_typesOf_b10]
    rw [show D.n - (D.n - i) = i by omega, if_pos]
    rcases Nat.eq_zero_or_pos i with rfl | h0
    · decide
    · rw [pk_m1' h0]; exact nI_lt (by omega) (by omega)) (x := c.1 141) (fun j h1 h2 => by omega)
  rw [tc_I_self, Nat.sub_zero] at v1
  refine ⟨f, ?_⟩
  have hg4 : tq_gr (tc_mk S (tc_I c 141 f)) 131 6 4 = some 140 := by simp (maxSteps := 3000000) (disch := omega) only [Option.bind_some, tc_bs, tq_let, tc_I1, tc_I2, tc_J1, tc_J2, tc_J3, tc_F1, tc_F2, tc_F3, tc_F4, tc_G1, tc_G2, tc_G3, tc_G4, tc_G5, tc_us, tc_un, s_one, s_holds, s_J13_bitCount, bz_bI, hS.f]
  have hi4 : tq_is (tc_mk S (tc_I c 141 f)) 140 5 = some () := by simp (maxSteps := 3000000) (disch := omega) only [Option.bind_some, tc_bs, tq_let, tc_I1, tc_I2, tc_J1, tc_J2, tc_J3, tc_F1, tc_F2, tc_F3, tc_F4, tc_G1, tc_G2, tc_G3, tc_G4, tc_G5, tc_us, tc_un, s_one, s_holds, s_J13_bitCount, bz_bI, hS.f]
  have hgt : f_X5_get 140 (nI i) (tc_mk S (tc_I c 141 f)) = some (tI (D.ty Z i) 6) := by
    simp (maxSteps := 3000000) (disch := omega) only [Option.bind_some, tc_bs, tq_let, tc_I1, tc_I2, tc_J1, tc_J2, tc_J3, tc_F1, tc_F2, tc_F3, tc_F4, tc_G1, tc_G2, tc_G3, tc_G4, tc_G5, tc_us, tc_un, s_one, s_holds, s_J13_bitCount, bz_bI, hS.f, rg_in _ (show i < 60 by omega) (show 60 < 2 ^ 31 by decide)]
    rw [v2 i (by omega) hi]
  have es : nI D.n - 1 = nI D.n + (-1) := Int32.sub_eq_add_neg _ _
  unfold f_X6_typesOf
  simp only [he0, hl, s_X3_count hT hL, Option.bind_some, tq_let, es]
  rw [v1]
  simp only [hg4, hi4, hgt, Option.bind_some]
theorem s_admits (hS : tc_Sch S 131) (hT : tc_Tree S e) (he : e + 40 ≤ 131 ∨ 147 ≤ e) (hw : D.wf) (hL : Lay c e D) (hN : Nod c e D m) (hC : SC c Z) :
    ∃ f, f_X6_admits 131 e (tc_mk S c) = some (bI (D.ty Z 0 0), tc_mk S (tc_I c 141 f)) := by
  obtain ⟨f, v1⟩ := s_typesOf hS hT he hw hL hN hC (D.n_pos hw)
  refine ⟨f, ?_⟩
  unfold f_X6_admits
  rw [hS.is, Option.bind_some, show (0 : Int32) = nI 0 from rfl, v1, Option.bind_some]
  simp only [tq_let]
  have hb : (tI (D.ty Z 0) 6 &&& 1 = 0) ↔ D.ty Z 0 0 = false := by
    rw [bt_and1, bt_tI _ 6 (Nat.le_refl _)]; simp
  cases q : D.ty Z 0 0 with
  | false => rw [if_pos (show tI (D.ty Z 0) 6 &&& 1 = nI 0 from hb.mpr q)]; rfl
  | true => rw [if_neg (fun w => by have := hb.mp w; rw [q] at this; cases this)]; rfl
end SCT
