/-! ===== ordered by values; how many values: the class ===== -/
def Doc.vN (D : Doc) (Q : Nat → Bool) (i : Nat) : Nat := (D.val Q i + 1).toNatClampNeg
def Doc.lead (D : Doc) (Q : Nat → Bool) (i j : Nat) : Bool := decide (D.vN Q j < D.vN Q i) || (decide (D.vN Q j = D.vN Q i) && decide (j < i))
/-- how many members stand ahead of a spot -/
def Doc.oa (D : Doc) (Q X : Nat → Bool) (i : Nat) : Nat := fb_ct (fun j => X j && D.lead Q i j) 64
def Doc.gr (D : Doc) (Q X : Nat → Bool) (i : Nat) : Bool := X i && !anyB (fun j => X j && decide (D.vN Q j = D.vN Q i)) i
section ORD
variable {S : tq_H} {c c' : tc_C} {b p k d m r z : Nat} {D : Doc} {P : Pat} {Q X : Nat → Bool}
theorem m1p1 (x : Int32) : x + (-1) + 1 = x := by rw [Int32.add_assoc]; exact Int32.add_zero x
theorem Doc.vN_eq (hw : D.wf) (Q : Nat → Bool) {i : Nat} (hi : i < D.n) : D.vN Q i < 1001 ∧ D.val Q i = nI (D.vN Q i) + (-1) := by
  have hn := D.n_le hw
  have key : ∀ x : Int32, (x = -1 ∨ ∃ k, k < 1000 ∧ x = nI k) → (x + 1).toNatClampNeg < 1001 ∧ x = nI (x + 1).toNatClampNeg + (-1) := by
    rintro x (rfl | ⟨k, hk, rfl⟩)
    · exact ⟨by decide, by decide⟩
    · rw [nI_1, nI_clamp (by omega)]
      exact ⟨by omega, (pk_m1 k).symm⟩
  refine key _ ?_
  have hv : ∀ j, j < D.n → D.vl j = -1 ∨ ∃ k, k < 1000 ∧ D.vl j = nI k := fun j hj => by
    rcases D.vl_of hw hj with ⟨-, h⟩ | ⟨-, h⟩
    · exact .inl h
    · exact .inr h
  unfold Doc.val
  by_cases h : D.kd i = 0
  · rw [if_pos h]
    rcases pk_cases (fun j => (decide (i < j ∧ j < D.en i) && (decide (j < D.n) && decide (D.kd j = 1))) && Q j) 0 with ⟨m, k, h1, h2, h3, h4, h5⟩ | ⟨h1, h2⟩
    · have hm : m < D.n := by simp at h2; exact h2.1.2.1
      rw [h5]
      simp only [nI_nm1 (show m < 2 ^ 31 by omega), if_false, nI_clamp (show m < 2 ^ 31 by omega)]
      exact hv m hm
    · rw [h2]; exact .inl (if_pos rfl)
  · rw [if_neg h]; exact hv i hi
theorem Doc.val_eq (hw : D.wf) {i j : Nat} (hi : i < D.n) (hj : j < D.n) : (D.val Q i = D.val Q j) ↔ D.vN Q i = D.vN Q j := by
  obtain ⟨a1, a2⟩ := D.vN_eq hw Q hi
  obtain ⟨b1, b2⟩ := D.vN_eq hw Q hj
  constructor
  · intro h; unfold Doc.vN; rw [h]
  · intro h; rw [a2, b2, h]
theorem Doc.val_lt (hw : D.wf) {i j : Nat} (hi : i < D.n) (hj : j < D.n) : (D.val Q i < D.val Q j) ↔ D.vN Q i < D.vN Q j := by
  obtain ⟨a1, a2⟩ := D.vN_eq hw Q hi
  obtain ⟨b1, b2⟩ := D.vN_eq hw Q hj
  have key : ∀ a, a < 1001 → ∀ b, b < 1001 → ((nI a + (-1) < nI b + (-1)) ↔ a < b) := by
    intro a ha b hb
    rcases Nat.eq_zero_or_pos a with rfl | ha0
    · rcases Nat.eq_zero_or_pos b with rfl | hb0
      · decide
      · rw [pk_m1' hb0]
        have : nI 0 + (-1) < nI (b - 1) := by
          have h1 : ¬ nI (b - 1) < 0 := nI_pos (by omega)
          refine Int32.lt_of_lt_of_le (show nI 0 + (-1) < 0 by decide) (Int32.not_lt.mp h1)
        simp [this, hb0]
    · rcases Nat.eq_zero_or_pos b with rfl | hb0
      · rw [pk_m1' ha0]
        have : ¬ nI (a - 1) < nI 0 + (-1) := fun w => nI_pos (show a - 1 < 2 ^ 31 by omega) (Int32.lt_trans w (by decide))
        simp [this]
      · rw [pk_m1' ha0, pk_m1' hb0, nI_ltI (by omega) (by omega)]; omega
  rw [a2, b2]
  exact key _ a1 _ b1
theorem Doc.oa_lt (hX : ∀ j, X j = true → j < D.n) {i j : Nat} (hi : X i = true) (hn : D.n ≤ 64) (h : D.lead Q j i = true) : D.oa Q X i < D.oa Q X j := by
  have hin := hX i hi
  unfold Doc.oa
  refine ct_lt (fun k hk hk2 => ?_) ⟨i, by omega, by rw [hi, h]; rfl, ?_⟩
  · rw [Bool.and_eq_true] at hk2 ⊢
    refine ⟨hk2.1, ?_⟩
    have h1 := hk2.2
    unfold Doc.lead at h1 h ⊢
    simp only [Bool.or_eq_true, Bool.and_eq_true, decide_eq_true_eq] at h1 h ⊢
    omega
  · unfold Doc.lead; simp
theorem Doc.oa_inj (hX : ∀ j, X j = true → j < D.n) (hn : D.n ≤ 64) {i j : Nat} (hi : X i = true) (hj : X j = true) (e : D.oa Q X i = D.oa Q X j) : i = j := by
  have h : i = j ∨ D.lead Q j i = true ∨ D.lead Q i j = true := by
    unfold Doc.lead
    simp only [Bool.or_eq_true, Bool.and_eq_true, decide_eq_true_eq]
    omega
  rcases h with h | h | h
  · exact h
  · have := Doc.oa_lt hX hi hn h; omega
  · have := Doc.oa_lt hX hj hn h; omega
theorem Doc.oa_ex (hX : ∀ j, X j = true → j < D.n) (hn : D.n ≤ 64) {t : Nat} (ht : t < fb_ct X 64) : ∃ i, X i = true ∧ D.oa Q X i = t := by
  refine Classical.byContradiction fun hx => ?_
  have hk : ∀ k, k < fb_ct X 64 → ∃ i, i < 64 ∧ X i = true ∧ fb_ct X i = k := fun k hk => fb_ct_kth hk
  let f : Nat → Nat := fun k => if h : k < fb_ct X 64 then Classical.choose (hk k h) else 0
  have hf : ∀ k, k < fb_ct X 64 → f k < 64 ∧ X (f k) = true ∧ fb_ct X (f k) = k := fun k h => by
    show (if h : k < fb_ct X 64 then Classical.choose (hk k h) else 0) < 64 ∧ X (if h : k < fb_ct X 64 then Classical.choose (hk k h) else 0) = true ∧ fb_ct X (if h : k < fb_ct X 64 then Classical.choose (hk k h) else 0) = k
    rw [dif_pos h]
    exact Classical.choose_spec (hk k h)
  have hlt : ∀ i, X i = true → D.oa Q X i < fb_ct X 64 := fun i hi => by
    unfold Doc.oa
    refine ct_lt (fun k _ h => by rw [Bool.and_eq_true] at h; exact h.1) ⟨i, by have := hX i hi; omega, hi, by unfold Doc.lead; simp⟩
  let g : Nat → Nat := fun k => if D.oa Q X (f k) < t then D.oa Q X (f k) else D.oa Q X (f k) - 1
  have hne : ∀ k, k < fb_ct X 64 → D.oa Q X (f k) ≠ t := fun k h w => hx ⟨f k, (hf k h).2.1, w⟩
  have := fb_holes (fb_ct X 64 - 1) (fb_ct X 64) g (fun k h => by
    have h1 := hlt _ (hf k h).2.1
    have h2 := hne k h
    show (if D.oa Q X (f k) < t then D.oa Q X (f k) else D.oa Q X (f k) - 1) < _
    split <;> omega) (fun i j hij hj w => by
    have h1 := hne i (by omega)
    have h2 := hne j hj
    have w' : (if D.oa Q X (f i) < t then D.oa Q X (f i) else D.oa Q X (f i) - 1) = (if D.oa Q X (f j) < t then D.oa Q X (f j) else D.oa Q X (f j) - 1) := w
    have e : D.oa Q X (f i) = D.oa Q X (f j) := by split at w' <;> split at w' <;> omega
    have := D.oa_inj hX hn (hf i (by omega)).2.1 (hf j hj).2.1 e
    have a1 := (hf i (by omega)).2.2
    have a2 := (hf j hj).2.2
    rw [this] at a1
    omega)
  omega
theorem s_X2_countAhead (hS : tc_Fnd S b) (hw : D.wf) (hv : ∀ i, i < D.n → c.1 (b + 6) i = D.val Q i) (hX : ∀ j, X j = true → j < D.n) {i : Nat} (hi : i < D.n) : f_X2_countAhead b (mkS X) (nI i) (tc_mk S c) = some (nI (D.oa Q X i)) := by
  have hn := D.n_le hw
  have hle := fb_ct_le X 64
  have hct : ∀ j, j ≤ 64 → fb_ct (tb (mkS X)) j = fb_ct X j := fun j hj => fb_ct_cong fun l hl => by rw [tb_mkS]; simp; omega
  let cn := fun t => fb_ct (fun j => (X j && decide (fb_ct X j < t)) && D.lead Q i j) 64
  have hcn : ∀ t, cn t ≤ 64 := fun t => fb_ct_le _ 64
  obtain ⟨y, v1, v2⟩ := tc_run (B := f_X2_countAhead_b12 b (nI i) (tc_mk S c)) (fb_ct X 64) (fun t y => (nI (cn t), y, nI (fb_ct X 64 - t))) (fun t y => Rest (mkS X) t y) (fun _ => nI (D.oa Q X i)) (by omega) (fun t y ht hR => by
    obtain ⟨m, h1, h2, h3⟩ := fb_ct_kth ht
    have hm := hX m h2
    have hm1 : tb (mkS X) m = true := by rw [tb_mkS, h2]; simp [h1]
    have hm2 : fb_ct (tb (mkS X)) m = t := by rw [hct m (by omega), h3]
    have hlow := rest_low hR h1 hm1 hm2
    refine ⟨y &&& (y - 1), ?_, rest_succ hR h1 hm1 hm2⟩
    have e7 : nI (fb_ct X 64 - t) + (-1) = nI (fb_ct X 64 - (t + 1)) := by
      rw [show fb_ct X 64 - t = (fb_ct X 64 - (t + 1)) + 1 by omega, pk_m1]
    have hstep : cn (t + 1) = cn t + (if D.lead Q i m = true then 1 else 0) := by
      have u := fb_ct_upd (fun j => (X j && decide (fb_ct X j < t)) && D.lead Q i j) (D.lead Q i m) h1
      have e1 : fb_ct (fun k => if k = m then D.lead Q i m else (X k && decide (fb_ct X k < t)) && D.lead Q i k) 64 = cn (t + 1) := fb_ct_cong fun j hj => by
        by_cases e : j = m
        · subst e; simp [h2, h3]
        · rw [if_neg e]
          cases hx : X j with
          | false => rfl
          | true =>
            have : (fb_ct X j < t + 1) ↔ fb_ct X j < t := by
              refine ⟨fun q => ?_, fun q => by omega⟩
              rcases Nat.lt_or_ge (fb_ct X j) t with r | r
              · exact r
              · exact absurd (fb_ct_kth_one hx h2 (by omega)) e
            simp [this]
      rw [e1] at u
      simp only [h3, Nat.lt_irrefl, decide_false, Bool.and_false, Bool.false_and] at u
      simpa using u
    have hlead : (if nI (D.vN Q i) - nI (D.vN Q m) > 0 then (1 : Int32) else if nI (D.vN Q i) - nI (D.vN Q m) = 0 then if nI m ≥ nI i then 0 else 1 else 0) = (if D.lead Q i m = true then 1 else 0) := by
      have a1 := (D.vN_eq hw Q hi).1
      have b1 := (D.vN_eq hw Q hm).1
      have hge : (nI m ≥ nI i) ↔ i ≤ m := nI_leI (by omega) (by omega)
      unfold Doc.lead
      rcases Nat.lt_trichotomy (D.vN Q m) (D.vN Q i) with q | q | q
      · rw [pk_sub (Nat.le_of_lt q), if_pos ((nI_gt0 (by omega)).mpr (by omega))]
        simp [q]
      · rw [q, pk_sub (Nat.le_refl _), Nat.sub_self, if_neg (by decide), if_pos (show nI 0 = 0 from rfl)]
        by_cases w : i ≤ m
        · rw [if_pos (hge.mpr w)]; simp [show ¬ m < i by omega]
        · rw [if_neg (fun z => w (hge.mp z))]; simp [show m < i by omega]
      · have h0 : nI (D.vN Q i) - nI (D.vN Q m) = -nI (D.vN Q m - D.vN Q i) := by
          rw [← pk_sub (Nat.le_of_lt q), Int32.neg_sub]
        have key : ∀ k, k < 1001 → 0 < k → ¬ (-nI k > 0) ∧ ¬ (-nI k = 0) := by decide +kernel
        obtain ⟨k1, k2⟩ := key (D.vN Q m - D.vN Q i) (by omega) (by omega)
        rw [h0, if_neg k1, if_neg k2]
        simp [show ¬ D.vN Q m < D.vN Q i by omega, show ¬ D.vN Q m = D.vN Q i by omega]
    have hd : ∀ x y : Int32, x + (-1) - (y + (-1)) = x - y := fun x y => by
      rw [Int32.sub_eq_add_neg, Int32.neg_add, Int32.sub_eq_add_neg, Int32.neg_neg, Int32.sub_eq_add_neg, Int32.add_assoc, Int32.add_comm (-1) _, Int32.add_assoc]
      show x + (-y + (1 + -1)) = _
      rw [show (1 : Int32) + -1 = 0 by decide, Int32.add_zero]
    have g1 : f_X5_get (b + 5) (nI i) (tc_mk S c) = some (nI (D.vN Q i) + (-1)) := by
      simp (maxSteps := 3000000) (disch := omega) only [Option.bind_some, tc_bs, tq_let, tc_I1, tc_I2, tc_J1, tc_J2, tc_J3, tc_F1, tc_F2, tc_F3, tc_F4, tc_G1, tc_G2, tc_G3, tc_G4, tc_G5, tc_us, tc_un, s_one, s_holds, s_J13_bitCount, bz_bI, hS.f, rg_in _ (show i < 60 by omega) (show 60 < 2 ^ 31 by decide)]
      rw [hv i hi, (D.vN_eq hw Q hi).2]
    have g2 : f_X5_get (b + 5) (nI m) (tc_mk S c) = some (nI (D.vN Q m) + (-1)) := by
      simp (maxSteps := 3000000) (disch := omega) only [Option.bind_some, tc_bs, tq_let, tc_I1, tc_I2, tc_J1, tc_J2, tc_J3, tc_F1, tc_F2, tc_F3, tc_F4, tc_G1, tc_G2, tc_G3, tc_G4, tc_G5, tc_us, tc_un, s_one, s_holds, s_J13_bitCount, bz_bI, hS.f, rg_in _ (show m < 60 by omega) (show 60 < 2 ^ 31 by decide)]
      rw [hv m hm, (D.vN_eq hw Q hm).2]
    have h5 : tq_gr (tc_mk S c) b 2 5 = some (b + 5) := by simp (maxSteps := 3000000) (disch := omega) only [Option.bind_some, tc_bs, tq_let, tc_I1, tc_I2, tc_J1, tc_J2, tc_J3, tc_F1, tc_F2, tc_F3, tc_F4, tc_G1, tc_G2, tc_G3, tc_G4, tc_G5, tc_us, tc_un, s_one, s_holds, s_J13_bitCount, bz_bI, hS.f]
    have h5i : tq_is (tc_mk S c) (b + 5) 5 = some () := by simp (maxSteps := 3000000) (disch := omega) only [Option.bind_some, tc_bs, tq_let, tc_I1, tc_I2, tc_J1, tc_J2, tc_J3, tc_F1, tc_F2, tc_F3, tc_F4, tc_G1, tc_G2, tc_G3, tc_G4, tc_G5, tc_us, tc_un, s_one, s_holds, s_J13_bitCount, bz_bI, hS.f]
    dsimp only [f_X2_countAhead_b12]
    rw [if_neg (nI_nle (show 0 < fb_ct X 64 - t by omega) (by omega)), s_X0_lowest hlow, Option.bind_some]
    simp only [h5, h5i, g1, g2, Option.bind_some, tq_let, hd, hlead, e7, hstep]
    refine congrArg (fun x => (some (Sum.inl (x, y &&& (y - 1), nI (fb_ct X 64 - (t + 1)))) : Option ((Int32 × Int64 × Int32) ⊕ Int32))) ?_
    by_cases q : D.lead Q i m = true
    · rw [if_pos q, if_pos q, nI_1]
    · rw [if_neg q, if_neg q]; exact Int32.add_zero _) (fun y hR => by
    dsimp only [f_X2_countAhead_b12]
    rw [Nat.sub_self, if_pos (show nI 0 ≤ 0 by decide)]
    congr 3
    refine fb_ct_cong fun j hj => ?_
    cases hx : X j with
    | false => rfl
    | true =>
      have := fb_ct_mono X (show j + 1 ≤ 64 by omega)
      rw [fb_ct_succ, if_pos hx] at this
      simp [show fb_ct X j < fb_ct X 64 by omega]) (x := mkS X) (rest_0 _)
  have e0 : cn 0 = 0 := fb_ct_zero.mpr (fun j _ => by simp)
  rw [e0, Nat.sub_zero] at v1
  unfold f_X2_countAhead
  rw [s_J13_bitCount, ct_mkS, Option.bind_some, show ((0 : Int32), mkS X, nI (fb_ct X 64)) = (nI 0, mkS X, nI (fb_ct X 64)) from rfl, v1]
  rfl
theorem s_X2_orderedSpot (hS : tc_Fnd S b) (hTr : tc_Tree S 1) (hw : D.wf) (hF : FT c b D P Q r) (hQ : ∀ j, Q j = true → j < D.n) (hp : p < r) (hr : r ≤ 20) {i t : Nat} (ht : t < 64) (h1 : D.fnd P Q p 0 i = true) (h2 : D.oa Q (D.fnd P Q p 0) i = t) :
    f_X2_orderedSpot b (nI p) (nI t) (tc_mk S c) = some (nI i) := by
  have hn := D.n_le hw
  have hX : ∀ j, D.fnd P Q p 0 j = true → j < D.n := fun j h => (Doc.fnd_in hQ h).1
  have hff := s_X2_foundFrom (S := S) hS hw hF hp hr (D.n_pos hw)
  have hin := hX i h1
  have his : tq_is (tc_mk S c) b 2 = some () := tc_is hS.1
  have hg1 : tq_gr (tc_mk S c) b 2 1 = some 2 := by simp (maxSteps := 3000000) (disch := omega) only [Option.bind_some, tc_bs, tq_let, tc_I1, tc_I2, tc_J1, tc_J2, tc_J3, tc_F1, tc_F2, tc_F3, tc_F4, tc_G1, tc_G2, tc_G3, tc_G4, tc_G5, tc_us, tc_un, s_one, s_holds, s_J13_bitCount, bz_bI, hS.f]
  have h23 := hTr.is c
  have hcnt : f_X3_count 2 (tc_mk S c) = some (nI D.n) := s_X3_count hTr hF.1.1
  have hoa : ∀ j, D.oa Q (D.fnd P Q p 0) j ≤ 64 := fun j => fb_ct_le _ 64
  have W := tc_iter (B := f_X2_orderedSpot_b10 b (nI t) (mkS (D.fnd P Q p 0)) (tc_mk S c)) i (fun l => nI l) (e := .inr (nI i)) (fun l hl => by
    dsimp only [f_X2_orderedSpot_b10]
    simp only [hg1, h23, hcnt, Option.bind_some]
    rw [if_neg (show ¬ nI l ≥ nI D.n from nI_ge (by omega) (by omega)), s_holds, hasI_mkS _ (show l < 64 by omega), Option.bind_some]
    cases e : D.fnd P Q p 0 l with
    | false => rw [if_pos (by decide)]; simp only [tq_let, nI_1]
    | true =>
      rw [if_neg (by decide), his, Option.bind_some, s_X2_countAhead hS hw hF.1.2.2.2 hX (show l < D.n by omega), Option.bind_some, if_neg]
      · simp only [tq_let, nI_1]
      · intro w
        have := (nI_eq (by have := hoa l; omega) (by omega)).mp w
        have := D.oa_inj hX (by omega) e h1 (this.trans h2.symm)
        omega) (by
    dsimp only [f_X2_orderedSpot_b10]
    simp only [hg1, h23, hcnt, Option.bind_some]
    rw [if_neg (show ¬ nI i ≥ nI D.n from nI_ge hin (by omega)), s_holds, hasI_mkS _ (show i < 64 by omega), Option.bind_some, h1, if_neg (by decide), his, Option.bind_some, s_X2_countAhead hS hw hF.1.2.2.2 hX hin, Option.bind_some, h2, if_pos rfl]) (by unfold tq_N; omega)
  unfold f_X2_orderedSpot
  rw [his, Option.bind_some, show (0 : Int32) = nI 0 from rfl, hff, Option.bind_some, W]
  rfl
theorem s_X2_countValues (hS : tc_Fnd S b) (hTr : tc_Tree S 1) (hw : D.wf) (hF : FT c b D P Q r) (hQ : ∀ j, Q j = true → j < D.n) (hp : p < r) (hr : r ≤ 20) :
    f_X2_countValues b (nI p) (tc_mk S c) = some (nI (fb_ct (D.gr Q (D.fnd P Q p 0)) D.n)) := by
  have hn := D.n_le hw
  have hX : ∀ j, D.fnd P Q p 0 j = true → j < D.n := fun j h => (Doc.fnd_in hQ h).1
  have hff := s_X2_foundFrom (S := S) hS hw hF hp hr (D.n_pos hw)
  have his : tq_is (tc_mk S c) b 2 = some () := tc_is hS.1
  have hg1 : tq_gr (tc_mk S c) b 2 1 = some 2 := by simp (maxSteps := 3000000) (disch := omega) only [Option.bind_some, tc_bs, tq_let, tc_I1, tc_I2, tc_J1, tc_J2, tc_J3, tc_F1, tc_F2, tc_F3, tc_F4, tc_G1, tc_G2, tc_G3, tc_G4, tc_G5, tc_us, tc_un, s_one, s_holds, s_J13_bitCount, bz_bI, hS.f]
  have h23 := hTr.is c
  have hcnt : f_X3_count 2 (tc_mk S c) = some (nI D.n) := s_X3_count hTr hF.1.1
  have h5 : tq_gr (tc_mk S c) b 2 5 = some (b + 5) := by simp (maxSteps := 3000000) (disch := omega) only [Option.bind_some, tc_bs, tq_let, tc_I1, tc_I2, tc_J1, tc_J2, tc_J3, tc_F1, tc_F2, tc_F3, tc_F4, tc_G1, tc_G2, tc_G3, tc_G4, tc_G5, tc_us, tc_un, s_one, s_holds, s_J13_bitCount, bz_bI, hS.f]
  have h5i : tq_is (tc_mk S c) (b + 5) 5 = some () := by simp (maxSteps := 3000000) (disch := omega) only [Option.bind_some, tc_bs, tq_let, tc_I1, tc_I2, tc_J1, tc_J2, tc_J3, tc_F1, tc_F2, tc_F3, tc_F4, tc_G1, tc_G2, tc_G3, tc_G4, tc_G5, tc_us, tc_un, s_one, s_holds, s_J13_bitCount, bz_bI, hS.f]
  have hg : ∀ i, i < D.n → f_X5_get (b + 5) (nI i) (tc_mk S c) = some (D.val Q i) := fun i hi => by
    simp (maxSteps := 3000000) (disch := omega) only [Option.bind_some, tc_bs, tq_let, tc_I1, tc_I2, tc_J1, tc_J2, tc_J3, tc_F1, tc_F2, tc_F3, tc_F4, tc_G1, tc_G2, tc_G3, tc_G4, tc_G5, tc_us, tc_un, s_one, s_holds, s_J13_bitCount, bz_bI, hS.f, rg_in _ (show i < 60 by omega) (show 60 < 2 ^ 31 by decide)]
    rw [hF.1.2.2.2 i hi]
  generalize D.fnd P Q p 0 = X at *
  have first : ∀ i, i < D.n → f_X2_isFirstOfValue b (mkS X) (nI i) (tc_mk S c) = some (bI (!anyB (fun j => X j && decide (D.vN Q j = D.vN Q i)) i)) := by
    intro i hi
    have W := tc_run2 (B := f_X2_isFirstOfValue_b3 b (mkS X) (nI i) (tc_mk S c)) i (fun l (_ : Unit) => nI l) (fun l _ => anyB (fun j => X j && decide (D.vN Q j = D.vN Q i)) l = false) (fun e => (e = .inl () ∧ anyB (fun j => X j && decide (D.vN Q j = D.vN Q i)) i = false) ∨ (e = .inr 0 ∧ anyB (fun j => X j && decide (D.vN Q j = D.vN Q i)) i = true)) (by omega) (fun l _ hl hI => by
      dsimp only [f_X2_isFirstOfValue_b3]
      rw [if_neg (show ¬ nI l ≥ nI i from nI_ge hl (by omega)), s_holds, hasI_mkS _ (show l < 64 by omega), Option.bind_some]
      cases e : X l with
      | false =>
        left
        refine ⟨(), by rw [if_pos (by decide)]; simp only [tq_let, nI_1], ?_⟩
        rw [anyB, hI, e]; rfl
      | true =>
        rw [if_neg (by decide)]
        simp only [h5, h5i, hg l (by omega), hg i hi, Option.bind_some]
        by_cases v : D.val Q l = D.val Q i
        · right
          refine ⟨_, if_pos v, .inr ⟨rfl, anyB_iff.mpr ⟨l, hl, ?_⟩⟩⟩
          rw [e]; simp [(D.val_eq hw (by omega) hi).mp v]
        · left
          refine ⟨(), by rw [if_neg v]; simp only [tq_let, nI_1], ?_⟩
          have : ¬ D.vN Q l = D.vN Q i := fun w => v ((D.val_eq hw (by omega) hi).mpr w)
          rw [anyB, hI, e]; simp [this]) (fun _ hI => by
      dsimp only [f_X2_isFirstOfValue_b3]
      rw [if_pos (Int32.le_refl _)]
      exact ⟨_, rfl, .inl ⟨rfl, hI⟩⟩) (x := ()) rfl
    obtain ⟨e, w1, w2⟩ := W
    unfold f_X2_isFirstOfValue
    rw [show (0 : Int32) = nI 0 from rfl, w1, Option.bind_some]
    rcases w2 with ⟨rfl, w⟩ | ⟨rfl, w⟩ <;> rw [w] <;> rfl
  have W := tc_scan (B := f_X2_countValues_b13 b (mkS X) (tc_mk S c)) D.n (fun i => nI (fb_ct (D.gr Q X) i)) (e := nI (fb_ct (D.gr Q X) D.n)) (by omega) (fun i hi => by
    dsimp only [f_X2_countValues_b13]
    simp only [hg1, h23, hcnt, Option.bind_some]
    rw [if_neg (show ¬ nI i ≥ nI D.n from nI_ge hi (by omega)), s_holds, hasI_mkS _ (show i < 64 by omega), Option.bind_some, fb_ct_succ]
    unfold Doc.gr
    cases e : X i with
    | false => rw [if_pos (by decide), Option.bind_some]; simp [tq_let, nI_1]
    | true =>
      rw [if_neg (by decide), his, Option.bind_some, first i hi, Option.bind_some]
      cases f : anyB (fun j => X j && decide (D.vN Q j = D.vN Q i)) i with
      | true => rw [if_pos (by decide), Option.bind_some]; simp [tq_let, nI_1]
      | false => rw [if_neg (by decide)]; simp [tq_let, nI_1]) (by
    dsimp only [f_X2_countValues_b13]
    simp only [hg1, h23, hcnt, Option.bind_some]
    rw [if_pos (Int32.le_refl _)])
  unfold f_X2_countValues
  rw [his, Option.bind_some, show (0 : Int32) = nI 0 from rfl, hff, Option.bind_some]
  exact (congrArg (fun o => Option.bind o fun o12 => some o12) W).trans rfl
end ORD
