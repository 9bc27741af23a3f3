/-! ===== ranked ===== -/
def Doc.tB (D : Doc) (i j : Nat) : Bool := decide (i < j ∧ j < D.en i) && (decide (j < D.n) && decide (D.kd j = 1))
def Doc.nT (D : Doc) (i : Nat) : Nat := fb_ct (D.tB i) 64
def Doc.nH (D : Doc) (w : Int32) (i : Nat) : Nat := fb_ct (fun j => D.tB i j && decide (D.vl j = w)) 64
def Doc.rkd (D : Doc) (w : Int32) (i : Nat) : Bool := decide (D.kd i = 0) && decide (0 < D.nH w i)
def Doc.ldR (D : Doc) (w : Int32) (i j : Nat) : Bool := decide (D.nH w i * D.nT j < D.nH w j * D.nT i) || (decide (D.nH w j * D.nT i = D.nH w i * D.nT j) && decide (j < i))
def Doc.ra (D : Doc) (w : Int32) (i : Nat) : Nat := fb_ct (fun j => D.rkd w j && D.ldR w i j) D.n
theorem nI_neg {k : Nat} (h0 : 0 < k) (hk : k < 2 ^ 31) : ¬ (-nI k > 0) ∧ ¬ (-nI k = 0) := by
  have key : ∀ j, j < 2 ^ 31 → -nI k ≠ nI j := fun j hj h => by
    have h1 : nI j + nI k = 0 := by rw [← h]; exact Int32.add_left_neg (nI k)
    rw [nI_add] at h1
    have h2 := congrArg (fun x : Int32 => x.toBitVec.toNat) h1
    simp only [show (nI (j + k)).toBitVec = BitVec.ofNat 32 (j + k) from rfl, BitVec.toNat_ofNat] at h2
    rw [Nat.mod_eq_of_lt (by omega)] at h2
    have h3 : (0 : Int32).toBitVec.toNat = 0 := by decide
    omega
  refine ⟨fun h => ?_, fun h => key 0 (by decide) h⟩
  obtain ⟨j, hj, e⟩ := nI_of (Int32.not_lt.mpr (Int32.le_of_lt h))
  exact key j hj e
section RKD
variable {S : tq_H} {c c' : tc_C} {b p k d m r z i j : Nat} {D : Doc} {w : Int32}
theorem Doc.nT_le (D : Doc) (i : Nat) : D.nT i ≤ 64 := fb_ct_le _ 64
theorem Doc.nH_le (D : Doc) (w : Int32) (i : Nat) : D.nH w i ≤ D.nT i := fb_ct_sub fun k _ h => by rw [Bool.and_eq_true] at h; exact h.1
theorem Doc.ld_tr {i j k : Nat} (ti : 0 < D.nT i) (hj : 0 < D.nH w j) (tk : 0 < D.nT k) (h1 : D.ldR w i j = true) (h2 : D.ldR w j k = true) : D.ldR w i k = true := by
  have tj : 0 < D.nT j := Nat.lt_of_lt_of_le hj (D.nH_le w j)
  unfold Doc.ldR at h1 h2 ⊢
  generalize D.nH w i = a, D.nT i = A, D.nH w j = b, D.nT j = B, D.nH w k = e, D.nT k = E at *
  simp only [Bool.or_eq_true, Bool.and_eq_true, decide_eq_true_eq] at h1 h2 ⊢
  -- a/A < b/B, or equal and j < i; b/B < e/E, or equal and k < j
  have k1 : a * B ≤ b * A := by omega
  have k2 : b * E ≤ e * B := by omega
  have c1 : (a * E) * B ≤ (e * A) * B := by
    calc (a * E) * B = (a * B) * E := by rw [Nat.mul_right_comm]
      _ ≤ (b * A) * E := Nat.mul_le_mul_right _ k1
      _ = (b * E) * A := by rw [Nat.mul_right_comm]
      _ ≤ (e * B) * A := Nat.mul_le_mul_right _ k2
      _ = (e * A) * B := by rw [Nat.mul_right_comm]
  have c2 : a * E ≤ e * A := Nat.le_of_mul_le_mul_right c1 tj
  rcases Nat.lt_or_ge (a * E) (e * A) with q | q
  · exact .inl q
  · right
    have q2 : e * A = a * E := by omega
    refine ⟨q2, ?_⟩
    -- all were equal
    have f1 : (a * B) * E = (b * A) * E := by
      have x1 : (a * B) * E ≤ (b * A) * E := Nat.mul_le_mul_right _ k1
      have x2 : (b * E) * A ≤ (e * B) * A := Nat.mul_le_mul_right _ k2
      have x3 : (a * B) * E = (e * A) * B := by rw [Nat.mul_right_comm, q2]
      have x4 : (e * A) * B = (e * B) * A := Nat.mul_right_comm _ _ _
      have x5 : (b * A) * E = (b * E) * A := Nat.mul_right_comm _ _ _
      omega
    have f2 : (b * E) * A = (e * B) * A := by
      have x3 : (a * B) * E = (e * A) * B := by rw [Nat.mul_right_comm, q2]
      have x4 : (e * A) * B = (e * B) * A := Nat.mul_right_comm _ _ _
      have x5 : (b * A) * E = (b * E) * A := Nat.mul_right_comm _ _ _
      omega
    have g1 : ¬ a * B < b * A := fun h => by
      have := Nat.mul_lt_mul_of_pos_right h tk; omega
    have g2 : ¬ b * E < e * B := fun h => by
      have := Nat.mul_lt_mul_of_pos_right h ti; omega
    omega
theorem Doc.rkd_pos {i : Nat} (h : D.rkd w i = true) : 0 < D.nH w i ∧ 0 < D.nT i := by
  unfold Doc.rkd at h
  rw [Bool.and_eq_true, decide_eq_true_eq, decide_eq_true_eq] at h
  exact ⟨h.2, Nat.lt_of_lt_of_le h.2 (D.nH_le w i)⟩
theorem Doc.ra_lt {i j : Nat} (hin : i < D.n) (hi : D.rkd w i = true) (hj : D.rkd w j = true) (h : D.ldR w j i = true) : D.ra w i < D.ra w j := by
  unfold Doc.ra
  refine ct_lt (fun k hk hk2 => ?_) ⟨i, hin, by rw [hi, h]; rfl, ?_⟩
  · rw [Bool.and_eq_true] at hk2 ⊢
    exact ⟨hk2.1, Doc.ld_tr (Doc.rkd_pos hj).2 (Doc.rkd_pos hi).1 (Doc.rkd_pos hk2.1).2 h hk2.2⟩
  · unfold Doc.ldR; simp
theorem Doc.ra_inj {i j : Nat} (hin : i < D.n) (hjn : j < D.n) (hi : D.rkd w i = true) (hj : D.rkd w j = true) (e : D.ra w i = D.ra w j) : i = j := by
  have h : i = j ∨ D.ldR w j i = true ∨ D.ldR w i j = true := by
    unfold Doc.ldR
    simp only [Bool.or_eq_true, Bool.and_eq_true, decide_eq_true_eq]
    omega
  rcases h with h | h | h
  · exact h
  · have := Doc.ra_lt hin hi hj h; omega
  · have := Doc.ra_lt hjn hj hi h; omega
theorem nI_mulT {a b : Nat} : nI a * nI b = nI (a * b) := nI_mul a b
/-- the class -/
theorem s_textsWorth (hT : tc_Tree S b) (hw : D.wf) (hL : Lay c b D) (hN : Nod c b D m) : f_X8_textsWorth b w (tc_mk S c) = some (mkS (fun j => (decide (j < D.n) && decide (D.kd j = 1)) && decide (D.vl j = w))) := by
  have hn := D.n_le hw
  have he0 : tq_gr (tc_mk S c) b 8 0 = some (b + 1) := by simp (maxSteps := 3000000) (disch := omega) only [Option.bind_some, tc_bs, tq_let, tc_I1, tc_I2, tc_J1, tc_J2, tc_J3, tc_F1, tc_F2, tc_F3, tc_F4, tc_G1, tc_G2, tc_G3, tc_G4, tc_G5, tc_us, tc_un, s_one, s_holds, s_J13_bitCount, bz_bI, hT.f]
  have he3 : tq_gr (tc_mk S c) b 8 3 = some (b + 26) := by simp (maxSteps := 3000000) (disch := omega) only [Option.bind_some, tc_bs, tq_let, tc_I1, tc_I2, tc_J1, tc_J2, tc_J3, tc_F1, tc_F2, tc_F3, tc_F4, tc_G1, tc_G2, tc_G3, tc_G4, tc_G5, tc_us, tc_un, s_one, s_holds, s_J13_bitCount, bz_bI, hT.f]
  have hl : tq_is (tc_mk S c) (b + 1) 3 = some () := tc_is hT.2.1
  have hl5 : tq_is (tc_mk S c) (b + 26) 5 = some () := by simp (maxSteps := 3000000) (disch := omega) only [Option.bind_some, tc_bs, tq_let, tc_I1, tc_I2, tc_J1, tc_J2, tc_J3, tc_F1, tc_F2, tc_F3, tc_F4, tc_G1, tc_G2, tc_G3, tc_G4, tc_G5, tc_us, tc_un, s_one, s_holds, s_J13_bitCount, bz_bI, hT.f]
  have h9t : ∀ j, D.tst 9 j = decide (D.kd j = 1) := fun j => by simp [Doc.tst]
  have h9 : f_X3_passing (b + 1) 9 (tc_mk S c) = some (mkS (fun j => decide (j < D.n) && decide (D.kd j = 1))) := by
    rw [show (9 : Int32) = nI 9 from rfl, s_X3_passing hT hL (by decide)]
    simp only [h9t]
  have hgt : ∀ i, i < D.n → f_X5_get (b + 26) (nI (D.ord i)) (tc_mk S c) = some (D.vl i) := fun i hi => by
    simp (maxSteps := 3000000) (disch := omega) only [Option.bind_some, tc_bs, tq_let, tc_I1, tc_I2, tc_J1, tc_J2, tc_J3, tc_F1, tc_F2, tc_F3, tc_F4, tc_G1, tc_G2, tc_G3, tc_G4, tc_G5, tc_us, tc_un, s_one, s_holds, s_J13_bitCount, bz_bI, hT.f]; rw [rg_ord hw hi, hN.2.2.2.2.2.1 i hi]
  have W := tc_scan (B := f_X8_textsWorth_b5 b w (tc_mk S c)) D.n (fun i => mkS (fun j => (decide (j < i) && decide (D.kd j = 1)) && decide (D.vl j = w))) (e := mkS (fun j => (decide (j < D.n) && decide (D.kd j = 1)) && decide (D.vl j = w))) (by omega) (fun i hi => by
    dsimp only [f_X8_textsWorth_b5]
    simp only [he0, hl, s_X3_count hT hL, Option.bind_some]
    rw [if_neg (show ¬ nI i ≥ nI D.n from nI_ge hi (by omega))]
    simp only [h9, s_holds, hasI_mkS _ (show i < 64 by omega), Option.bind_some, tq_let, nI_1]
    have hnx : ∀ bb, (decide (D.kd i = 1) && decide (D.vl i = w)) = bb → mkS (fun j => (decide (j < i + 1) && decide (D.kd j = 1)) && decide (D.vl j = w)) = mkS (fun j => ((decide (j < i) && decide (D.kd j = 1)) && decide (D.vl j = w)) || (bb && decide (j = i))) := fun bb hb => mkS_cong fun j _ => by
      by_cases e : j = i
      · subst e; rw [← hb]; simp
      · simp [e, show (j < i + 1) ↔ j < i by omega]
    by_cases hk : D.kd i = 1
    · rw [if_neg (by simp [hi, hk, bI])]
      simp only [he3, s_X3_nodeAt hT hw hL hi, hl5, hgt i hi, Option.bind_some]
      by_cases hv : D.vl i = w
      · rw [if_pos hv, s_one, oneI_in (show i < 2 ^ 31 by omega), Option.bind_some, Option.bind_some, mkS_b1, mkS_or, hnx true (by simp [hk, hv])]
        simp only [Bool.true_and]
      · rw [if_neg hv, Option.bind_some, hnx false (by simp [hv])]
        simp only [Bool.false_and, Bool.or_false]
    · rw [if_pos (by simp [hk, bI]), Option.bind_some, hnx false (by simp [hk])]
      simp only [Bool.false_and, Bool.or_false]) (by
    dsimp only [f_X8_textsWorth_b5]
    simp only [he0, hl, s_X3_count hT hL, Option.bind_some]
    rw [if_pos (Int32.le_refl _)])
  have e0 : mkS (fun j => (decide (j < 0) && decide (D.kd j = 1)) && decide (D.vl j = w)) = 0 := by rw [mkS_0]; exact mkS_cong fun j _ => by simp
  rw [e0] at W
  unfold f_X8_textsWorth
  rw [W]; rfl
theorem s_isRanked (hT : tc_Tree S b) (hw : D.wf) (hL : Lay c b D) (hi : i < D.n) : f_X8_isRanked b (mkS (fun j => (decide (j < D.n) && decide (D.kd j = 1)) && decide (D.vl j = w))) (nI i) (tc_mk S c) = some (bI (D.rkd w i)) := by
  have hn := D.n_le hw
  have he0 : tq_gr (tc_mk S c) b 8 0 = some (b + 1) := by simp (maxSteps := 3000000) (disch := omega) only [Option.bind_some, tc_bs, tq_let, tc_I1, tc_I2, tc_J1, tc_J2, tc_J3, tc_F1, tc_F2, tc_F3, tc_F4, tc_G1, tc_G2, tc_G3, tc_G4, tc_G5, tc_us, tc_un, s_one, s_holds, s_J13_bitCount, bz_bI, hT.f]
  have hl : tq_is (tc_mk S c) (b + 1) 3 = some () := tc_is hT.2.1
  unfold f_X8_isRanked Doc.rkd
  simp only [he0, hl, s_X3_elements hT hL, s_holds, hasI_mkS _ (show i < 64 by omega), s_X3_below hT hw hL hi, Option.bind_some]
  by_cases hk : D.kd i = 0
  · rw [if_neg (by simp [hi, hk, bI])]
    have hz : (lg_cmp (mkS (fun j => decide (i < j ∧ j < D.en i)) &&& mkS (fun j => (decide (j < D.n) && decide (D.kd j = 1)) && decide (D.vl j = w))) 0 = 0) ↔ D.nH w i = 0 := by
      rw [lg_cmp_0, mkS_and, mkS_z]
      unfold Doc.nH Doc.tB
      rw [fb_ct_zero]
      refine forall_congr' fun j => ?_
      simp only [Bool.and_assoc]
    by_cases q : D.nH w i = 0
    · rw [if_pos (hz.mpr q)]; simp [q, bI, tq_bz]
    · rw [if_neg (fun v => q (hz.mp v))]; simp [hk, bI, tq_bz]; omega
  · rw [if_pos (by simp [hk, bI])]; simp [hk, bI, tq_bz]
theorem s_lead (hT : tc_Tree S b) (hw : D.wf) (hL : Lay c b D) (hi : i < D.n) (hj : j < D.n) : f_X8_lead b (mkS (fun j => (decide (j < D.n) && decide (D.kd j = 1)) && decide (D.vl j = w))) (nI j) (nI i) (tc_mk S c) = some (nI (D.nH w j * D.nT i) - nI (D.nH w i * D.nT j)) := by
  have he0 : tq_gr (tc_mk S c) b 8 0 = some (b + 1) := by simp (maxSteps := 3000000) (disch := omega) only [Option.bind_some, tc_bs, tq_let, tc_I1, tc_I2, tc_J1, tc_J2, tc_J3, tc_F1, tc_F2, tc_F3, tc_F4, tc_G1, tc_G2, tc_G3, tc_G4, tc_G5, tc_us, tc_un, s_one, s_holds, s_J13_bitCount, bz_bI, hT.f]
  have hl : tq_is (tc_mk S c) (b + 1) 3 = some () := tc_is hT.2.1
  have h9t : ∀ j, D.tst 9 j = decide (D.kd j = 1) := fun j => by simp [Doc.tst]
  have h9 : f_X3_passing (b + 1) 9 (tc_mk S c) = some (mkS (fun j => decide (j < D.n) && decide (D.kd j = 1))) := by
    rw [show (9 : Int32) = nI 9 from rfl, s_X3_passing hT hL (by decide)]
    simp only [h9t]
  have a1 : ∀ i, fb_ct (fun j => decide (i < j ∧ j < D.en i) && ((decide (j < D.n) && decide (D.kd j = 1)) && decide (D.vl j = w))) 64 = D.nH w i := fun i => fb_ct_cong fun k _ => by unfold Doc.tB; simp only [Bool.and_assoc]
  unfold f_X8_lead
  simp only [he0, hl, h9, s_X3_below hT hw hL hi, s_X3_below hT hw hL hj, s_J13_bitCount, mkS_and, ct_mkS, a1, Option.bind_some, nI_mul]
  rfl
theorem s_countAhead (hT : tc_Tree S b) (hw : D.wf) (hL : Lay c b D) (hi : i < D.n) : f_X8_countAhead b (mkS (fun j => (decide (j < D.n) && decide (D.kd j = 1)) && decide (D.vl j = w))) (nI i) (tc_mk S c) = some (nI (D.ra w i)) := by
  have hn := D.n_le hw
  have he0 : tq_gr (tc_mk S c) b 8 0 = some (b + 1) := by simp (maxSteps := 3000000) (disch := omega) only [Option.bind_some, tc_bs, tq_let, tc_I1, tc_I2, tc_J1, tc_J2, tc_J3, tc_F1, tc_F2, tc_F3, tc_F4, tc_G1, tc_G2, tc_G3, tc_G4, tc_G5, tc_us, tc_un, s_one, s_holds, s_J13_bitCount, bz_bI, hT.f]
  have hl : tq_is (tc_mk S c) (b + 1) 3 = some () := tc_is hT.2.1
  have hb8 : tq_is (tc_mk S c) b 8 = some () := tc_is hT.1
  have W := tc_scan (B := f_X8_countAhead_b6 b (mkS (fun j => (decide (j < D.n) && decide (D.kd j = 1)) && decide (D.vl j = w))) (nI i) (tc_mk S c)) D.n (fun t => nI (fb_ct (fun j => D.rkd w j && D.ldR w i j) t)) (e := nI (D.ra w i)) (by omega) (fun t ht => by
    dsimp only [f_X8_countAhead_b6]
    simp only [he0, hl, s_X3_count hT hL, Option.bind_some]
    rw [if_neg (show ¬ nI t ≥ nI D.n from nI_ge ht (by omega))]
    simp only [hb8, s_isRanked hT hw hL ht, s_lead hT hw hL hi ht, Option.bind_some, tq_let, nI_1, fb_ct_succ]
    cases q : D.rkd w t with
    | false => rw [if_pos (by decide), Option.bind_some]; simp
    | true =>
      rw [if_neg (by decide)]
      have b1 : D.nH w t * D.nT i ≤ 64 * 64 := Nat.mul_le_mul (Nat.le_trans (D.nH_le w t) (D.nT_le t)) (D.nT_le i)
      have b2 : D.nH w i * D.nT t ≤ 64 * 64 := Nat.mul_le_mul (Nat.le_trans (D.nH_le w i) (D.nT_le i)) (D.nT_le t)
      have hge : (nI t ≥ nI i) ↔ i ≤ t := nI_leI (by omega) (by omega)
      have hld : (if nI (D.nH w t * D.nT i) - nI (D.nH w i * D.nT t) > 0 then (1 : Int32) else if nI (D.nH w t * D.nT i) - nI (D.nH w i * D.nT t) = 0 then if nI t ≥ nI i then 0 else 1 else 0) = if D.ldR w i t = true then 1 else 0 := by
        unfold Doc.ldR
        generalize D.nH w t * D.nT i = a, D.nH w i * D.nT t = e at *
        rcases Nat.lt_trichotomy e a with r | r | r
        · rw [pk_sub (Nat.le_of_lt r), if_pos ((nI_gt0 (by omega)).mpr (by omega))]; simp [r]
        · subst r
          rw [pk_sub (Nat.le_refl _), Nat.sub_self, if_neg (by decide), if_pos (show nI 0 = 0 from rfl)]
          by_cases g : i ≤ t
          · rw [if_pos (hge.mpr g)]; simp [show ¬ t < i by omega]
          · rw [if_neg (fun z => g (hge.mp z))]; simp [show t < i by omega]
        · have h0 : nI a - nI e = -nI (e - a) := by rw [← pk_sub (Nat.le_of_lt r), Int32.neg_sub]
          obtain ⟨k1, k2⟩ := nI_neg (show 0 < e - a by omega) (by omega)
          rw [h0, if_neg k1, if_neg k2]
          simp [show ¬ e < a by omega, show ¬ a = e by omega]
      rw [hld]
      by_cases g : D.ldR w i t = true
      · simp [g, nI_1]
      · simp [g]) (by
    dsimp only [f_X8_countAhead_b6]
    simp only [he0, hl, s_X3_count hT hL, Option.bind_some]
    rw [if_pos (Int32.le_refl _)]
    rfl)
  unfold f_X8_countAhead
  exact (congrArg (fun o => Option.bind o fun o12 => some o12) W).trans rfl
/-- the node that is ranked at a place: the class -/
def Doc.rkAt (D : Doc) (w y : Int32) : Nat → Int32
  | 0 => -1
  | k + 1 => if D.rkd w k = true ∧ nI (D.ra w k) = y then nI (D.ord k) else D.rkAt w y k
theorem Doc.rkAt_in (hw : D.wf) {y : Int32} (hin : i < D.n) (hr : D.rkd w i = true) (hy : nI (D.ra w i) = y) : ∀ n, n ≤ D.n → i < n → D.rkAt w y n = nI (D.ord i)
  | 0, _, h => by omega
  | n + 1, hn, h => by
    have hrl : ∀ j, D.ra w j < 2 ^ 31 := fun j => by have := fb_ct_le (fun l => D.rkd w l && D.ldR w j l) D.n; have := D.n_le hw; show fb_ct _ _ < _; omega
    unfold Doc.rkAt
    by_cases q : D.rkd w n = true ∧ nI (D.ra w n) = y
    · have : n = i := D.ra_inj (by omega) hin q.1 hr ((nI_eq (hrl _) (hrl _)).mp (q.2.trans hy.symm))
      rw [if_pos q, this]
    · rw [if_neg q]
      have : n ≠ i := fun e => q (by rw [e]; exact ⟨hr, hy⟩)
      exact Doc.rkAt_in hw hin hr hy n (by omega) (by omega)
theorem Doc.rkAt_out {y : Int32} : ∀ n, (∀ i, i < n → D.rkd w i = true → nI (D.ra w i) ≠ y) → D.rkAt w y n = -1
  | 0, _ => rfl
  | n + 1, h => by
    unfold Doc.rkAt
    rw [if_neg (fun q => h n (by omega) q.1 q.2)]
    exact Doc.rkAt_out n (fun i hi => h i (by omega))
theorem s_rankedSpot (hT : tc_Tree S b) (hw : D.wf) (hL : Lay c b D) (y : Int32) : ∃ x, f_X8_rankedSpot b (mkS (fun j => (decide (j < D.n) && decide (D.kd j = 1)) && decide (D.vl j = w))) y (tc_mk S c) = some x ∧ f_X3_nodeAt (b + 1) x (tc_mk S c) = some (D.rkAt w y D.n) := by
  have hn := D.n_le hw
  have he0 : tq_gr (tc_mk S c) b 8 0 = some (b + 1) := by simp (maxSteps := 3000000) (disch := omega) only [Option.bind_some, tc_bs, tq_let, tc_I1, tc_I2, tc_J1, tc_J2, tc_J3, tc_F1, tc_F2, tc_F3, tc_F4, tc_G1, tc_G2, tc_G3, tc_G4, tc_G5, tc_us, tc_un, s_one, s_holds, s_J13_bitCount, bz_bI, hT.f]
  have hl : tq_is (tc_mk S c) (b + 1) 3 = some () := tc_is hT.2.1
  have hb8 : tq_is (tc_mk S c) b 8 = some () := tc_is hT.1
  obtain ⟨e, w1, w2⟩ := tc_run2 (B := f_X8_rankedSpot_b3 b (mkS (fun j => (decide (j < D.n) && decide (D.kd j = 1)) && decide (D.vl j = w))) y (tc_mk S c)) D.n (fun l (_ : Unit) => nI l) (fun l _ => ∀ i, i < l → D.rkd w i = true → nI (D.ra w i) ≠ y) (fun e => (e = .inl () ∧ ∀ i, i < D.n → D.rkd w i = true → nI (D.ra w i) ≠ y) ∨ ∃ i, e = .inr (nI i) ∧ i < D.n ∧ D.rkd w i = true ∧ nI (D.ra w i) = y) (by omega) (fun l _ hl2 hI => by
    dsimp only [f_X8_rankedSpot_b3]
    simp only [he0, hl, s_X3_count hT hL, Option.bind_some]
    rw [if_neg (show ¬ nI l ≥ nI D.n from nI_ge hl2 (by omega))]
    simp only [hb8, s_isRanked hT hw hL hl2, s_countAhead hT hw hL hl2, Option.bind_some, tq_let, nI_1]
    cases q : D.rkd w l with
    | false =>
      left
      refine ⟨(), by rw [if_pos (by decide)], fun i hi hr => ?_⟩
      by_cases e : i = l
      · subst e; rw [q] at hr; cases hr
      · exact hI i (by omega) hr
    | true =>
      rw [if_neg (by decide)]
      by_cases g : nI (D.ra w l) = y
      · right; exact ⟨_, if_pos g, .inr ⟨l, rfl, hl2, q, g⟩⟩
      · left
        refine ⟨(), if_neg g, fun i hi hr => ?_⟩
        by_cases e : i = l
        · subst e; exact g
        · exact hI i (by omega) hr) (fun _ hI => by
    dsimp only [f_X8_rankedSpot_b3]
    simp only [he0, hl, s_X3_count hT hL, Option.bind_some]
    rw [if_pos (Int32.le_refl _)]
    exact ⟨_, rfl, .inl ⟨rfl, hI⟩⟩) (x := ()) (fun i hi => by omega)
  unfold f_X8_rankedSpot
  rw [show (0 : Int32) = nI 0 from rfl, w1, Option.bind_some]
  rcases w2 with ⟨rfl, h⟩ | ⟨i, rfl, hi, hr, hy⟩
  · exact ⟨-1, rfl, by rw [s_X3_nodeAt_n hT, D.rkAt_out D.n h]⟩
  · exact ⟨nI i, rfl, by rw [s_X3_nodeAt hT hw hL hi, D.rkAt_in hw hi hr hy D.n (Nat.le_refl _) hi]⟩
/-- the reference -/
theorem s_textsBelow (hM : tc_Mod S z) (hw : D.wf) (hR : RTree c D m) (hO : ROrd c D) (hi : i < D.n) (x : Int32) : f_X11_textsBelow 155 (nI (D.ord i)) x (tc_mk S c) = some (nI (if x = -1 then D.nT i else D.nH x i)) := by
  have hn := D.n_le hw
  have hR' := hR
  obtain ⟨-, -, -, -, r5, -, r7, -⟩ := hR'
  have hgn : tq_gi (tc_mk S c) 155 11 11 = some (nI D.n) := by simp (maxSteps := 3000000) (disch := omega) only [Option.bind_some, tc_bs, tq_let, tc_I1, tc_I2, tc_J1, tc_J2, tc_J3, tc_F1, tc_F2, tc_F3, tc_F4, tc_G1, tc_G2, tc_G3, tc_G4, tc_G5, tc_us, tc_un, s_one, s_holds, s_J13_bitCount, bz_bI, hM.f, hO.1]
  have hg12 : tq_gr (tc_mk S c) 155 11 12 = some 164 := by simp (maxSteps := 3000000) (disch := omega) only [Option.bind_some, tc_bs, tq_let, tc_I1, tc_I2, tc_J1, tc_J2, tc_J3, tc_F1, tc_F2, tc_F3, tc_F4, tc_G1, tc_G2, tc_G3, tc_G4, tc_G5, tc_us, tc_un, s_one, s_holds, s_J13_bitCount, bz_bI, hM.f]
  have hg2 : tq_gr (tc_mk S c) 155 11 2 = some 156 := by simp (maxSteps := 3000000) (disch := omega) only [Option.bind_some, tc_bs, tq_let, tc_I1, tc_I2, tc_J1, tc_J2, tc_J3, tc_F1, tc_F2, tc_F3, tc_F4, tc_G1, tc_G2, tc_G3, tc_G4, tc_G5, tc_us, tc_un, s_one, s_holds, s_J13_bitCount, bz_bI, hM.f]
  have hg4 : tq_gr (tc_mk S c) 155 11 4 = some 158 := by simp (maxSteps := 3000000) (disch := omega) only [Option.bind_some, tc_bs, tq_let, tc_I1, tc_I2, tc_J1, tc_J2, tc_J3, tc_F1, tc_F2, tc_F3, tc_F4, tc_G1, tc_G2, tc_G3, tc_G4, tc_G5, tc_us, tc_un, s_one, s_holds, s_J13_bitCount, bz_bI, hM.f]
  have his : tq_is (tc_mk S c) 155 11 = some () := by simp (maxSteps := 3000000) (disch := omega) only [Option.bind_some, tc_bs, tq_let, tc_I1, tc_I2, tc_J1, tc_J2, tc_J3, tc_F1, tc_F2, tc_F3, tc_F4, tc_G1, tc_G2, tc_G3, tc_G4, tc_G5, tc_us, tc_un, s_one, s_holds, s_J13_bitCount, bz_bI, hM.f]
  let q : Nat → Bool := fun j => D.tB i j && (decide (x = -1) || decide (D.vl j = x))
  have hq : fb_ct q D.n = if x = -1 then D.nT i else D.nH x i := by
    have h64 : fb_ct q 64 = fb_ct q D.n := ct_cut 64 (fun j hj => by show (D.tB i j && _) = false; unfold Doc.tB; simp [show ¬ j < D.n by omega]) (by omega)
    rw [← h64]
    by_cases e : x = -1
    · rw [if_pos e]; exact fb_ct_cong fun j _ => by show (_ && (decide (x = -1) || _)) = _; simp [e]
    · rw [if_neg e]; exact fb_ct_cong fun j _ => by show (_ && (decide (x = -1) || _)) = _; simp [e]
  rw [← hq]
  have W := tc_scan (B := f_X11_textsBelow_b5 155 (nI (D.ord i)) x (tc_mk S c)) D.n (fun t => nI (fb_ct q t)) (e := nI (fb_ct q D.n)) (by omega) (fun t ht => by
    have ot := D.ord_lt hw ht
    have ho : tq_ai (tc_mk S c) 164 (nI t) = some (nI (D.ord t)) := by simp (maxSteps := 3000000) (disch := omega) only [Option.bind_some, tc_bs, tq_let, tc_I1, tc_I2, tc_J1, tc_J2, tc_J3, tc_F1, tc_F2, tc_F3, tc_F4, tc_G1, tc_G2, tc_G3, tc_G4, tc_G5, tc_us, tc_un, s_one, s_holds, s_J13_bitCount, bz_bI, hM.f, show t < 60 from by omega, hO.2.1 t ht]
    have hk : tq_ai (tc_mk S c) 156 (nI (D.ord t)) = some (D.kd t) := by simp (maxSteps := 3000000) (disch := omega) only [Option.bind_some, tc_bs, tq_let, tc_I1, tc_I2, tc_J1, tc_J2, tc_J3, tc_F1, tc_F2, tc_F3, tc_F4, tc_G1, tc_G2, tc_G3, tc_G4, tc_G5, tc_us, tc_un, s_one, s_holds, s_J13_bitCount, bz_bI, hM.f, r5 t ht]
    have hv : tq_ai (tc_mk S c) 158 (nI (D.ord t)) = some (D.vl t) := by simp (maxSteps := 3000000) (disch := omega) only [Option.bind_some, tc_bs, tq_let, tc_I1, tc_I2, tc_J1, tc_J2, tc_J3, tc_F1, tc_F2, tc_F3, tc_F4, tc_G1, tc_G2, tc_G3, tc_G4, tc_G5, tc_us, tc_un, s_one, s_holds, s_J13_bitCount, bz_bI, hM.f, r7 t ht]
    dsimp only [f_X11_textsBelow_b5]
    rw [hgn, Option.bind_some, if_neg (show ¬ nI t ≥ nI D.n from nI_ge ht (by omega))]
    simp only [hg12, ho, hg2, hk, his, s_X11_isBelow hM hw hR hi ht, hg4, hv, Option.bind_some, tq_let, nI_1, fb_ct_succ]
    have hqt : q t = (decide (i < t ∧ t < D.en i) && decide (D.kd t = 1) && (decide (x = -1) || decide (D.vl t = x))) := by
      show (D.tB i t && _) = _
      unfold Doc.tB; simp [ht]
    rw [hqt]
    by_cases h1 : D.kd t = 1
    · rw [if_pos h1]
      by_cases h2 : i < t ∧ t < D.en i
      · rw [if_neg (by simp [h2, bI])]
        by_cases h3 : x = -1
        · rw [if_pos h3]; simp [h1, h2, h3, nI_1]
        · rw [if_neg h3]
          by_cases h4 : D.vl t = x
          · rw [if_pos h4]; simp [h1, h2, h4, nI_1]
          · rw [if_neg h4]; simp [h3, h4]
      · rw [if_pos (by simp [h2, bI])]; simp [h2]
    · rw [if_neg h1]; simp [h1]) (by
    dsimp only [f_X11_textsBelow_b5]
    rw [hgn, Option.bind_some, if_pos (Int32.le_refl _)])
  unfold f_X11_textsBelow
  exact (congrArg (fun o => Option.bind o fun o12 => some o12) W).trans rfl
theorem rahead_loop (hM : tc_Mod S z) (hw : D.wf) (hR : RTree c D m) (hO : ROrd c D) (hi : i < D.n) (hr : D.rkd w i = true) (hwv : w ≠ -1) (x y : Int32) :
    tq_loop (f_X11_ranked_b100 155 w x y (nI i) (nI (D.nH w i)) (nI (D.nT i)) (tc_mk S c)) tq_N (0, 0) = some (nI (D.ra w i)) := by
  have hn := D.n_le hw
  have hR' := hR
  obtain ⟨-, -, -, -, r5, -, r7, -⟩ := hR'
  have hgn : tq_gi (tc_mk S c) 155 11 11 = some (nI D.n) := by simp (maxSteps := 3000000) (disch := omega) only [Option.bind_some, tc_bs, tq_let, tc_I1, tc_I2, tc_J1, tc_J2, tc_J3, tc_F1, tc_F2, tc_F3, tc_F4, tc_G1, tc_G2, tc_G3, tc_G4, tc_G5, tc_us, tc_un, s_one, s_holds, s_J13_bitCount, bz_bI, hM.f, hO.1]
  have hg12 : tq_gr (tc_mk S c) 155 11 12 = some 164 := by simp (maxSteps := 3000000) (disch := omega) only [Option.bind_some, tc_bs, tq_let, tc_I1, tc_I2, tc_J1, tc_J2, tc_J3, tc_F1, tc_F2, tc_F3, tc_F4, tc_G1, tc_G2, tc_G3, tc_G4, tc_G5, tc_us, tc_un, s_one, s_holds, s_J13_bitCount, bz_bI, hM.f]
  have hg2 : tq_gr (tc_mk S c) 155 11 2 = some 156 := by simp (maxSteps := 3000000) (disch := omega) only [Option.bind_some, tc_bs, tq_let, tc_I1, tc_I2, tc_J1, tc_J2, tc_J3, tc_F1, tc_F2, tc_F3, tc_F4, tc_G1, tc_G2, tc_G3, tc_G4, tc_G5, tc_us, tc_un, s_one, s_holds, s_J13_bitCount, bz_bI, hM.f]
  have his : tq_is (tc_mk S c) 155 11 = some () := by simp (maxSteps := 3000000) (disch := omega) only [Option.bind_some, tc_bs, tq_let, tc_I1, tc_I2, tc_J1, tc_J2, tc_J3, tc_F1, tc_F2, tc_F3, tc_F4, tc_G1, tc_G2, tc_G3, tc_G4, tc_G5, tc_us, tc_un, s_one, s_holds, s_J13_bitCount, bz_bI, hM.f]
  have hpos := Doc.rkd_pos hr
  have hT64 := fun j => D.nT_le j
  have hHle := fun j => D.nH_le w j
  refine tc_scan (B := f_X11_ranked_b100 155 w x y (nI i) (nI (D.nH w i)) (nI (D.nT i)) (tc_mk S c)) D.n (fun t => nI (fb_ct (fun j => D.rkd w j && D.ldR w i j) t)) (e := nI (D.ra w i)) (by omega) (fun t ht => ?_) ?_
  · have ot := D.ord_lt hw ht
    have ho : tq_ai (tc_mk S c) 164 (nI t) = some (nI (D.ord t)) := by simp (maxSteps := 3000000) (disch := omega) only [Option.bind_some, tc_bs, tq_let, tc_I1, tc_I2, tc_J1, tc_J2, tc_J3, tc_F1, tc_F2, tc_F3, tc_F4, tc_G1, tc_G2, tc_G3, tc_G4, tc_G5, tc_us, tc_un, s_one, s_holds, s_J13_bitCount, bz_bI, hM.f, show t < 60 from by omega, hO.2.1 t ht]
    have hk : tq_ai (tc_mk S c) 156 (nI (D.ord t)) = some (D.kd t) := by simp (maxSteps := 3000000) (disch := omega) only [Option.bind_some, tc_bs, tq_let, tc_I1, tc_I2, tc_J1, tc_J2, tc_J3, tc_F1, tc_F2, tc_F3, tc_F4, tc_G1, tc_G2, tc_G3, tc_G4, tc_G5, tc_us, tc_un, s_one, s_holds, s_J13_bitCount, bz_bI, hM.f, r5 t ht]
    have e1 : (if D.kd t = 0 then some (nI (D.nH w t)) else some (0 : Int32)) = some (nI (if D.kd t = 0 then D.nH w t else 0)) := by split <;> rfl
    have b1 : ∀ a, a ≤ 64 → a * D.nT i ≤ 64 * 64 := fun a h => Nat.mul_le_mul h (hT64 i)
    have b2 : D.nH w i * D.nT t ≤ 64 * 64 := Nat.mul_le_mul (Nat.le_trans (hHle i) (hT64 i)) (hT64 t)
    have hge : (nI t ≥ nI i) ↔ i ≤ t := nI_leI (by omega) (by omega)
    dsimp only [f_X11_ranked_b100]
    rw [hgn, Option.bind_some, if_neg (show ¬ nI t ≥ nI D.n from nI_ge ht (by omega)), if_neg (nI_nle (show 0 < D.nH w i by omega) (by have := hHle i; have := hT64 i; omega))]
    simp only [hg12, ho, hg2, hk, his, s_textsBelow hM hw hR hO ht, if_true, if_neg hwv, e1, Option.bind_some, tq_let, nI_1, fb_ct_succ, nI_mul]
    have ho64 : (if D.kd t = 0 then D.nH w t else 0) ≤ 64 := by
      split
      · exact Nat.le_trans (hHle t) (hT64 t)
      · omega
    have hrk : D.rkd w t = decide (0 < (if D.kd t = 0 then D.nH w t else 0)) := by
      unfold Doc.rkd
      by_cases g : D.kd t = 0 <;> simp [g]
    have hld : D.rkd w t = true → D.ldR w i t = (decide (D.nH w i * D.nT t < (if D.kd t = 0 then D.nH w t else 0) * D.nT i) || (decide ((if D.kd t = 0 then D.nH w t else 0) * D.nT i = D.nH w i * D.nT t) && decide (t < i))) := fun h => by
      unfold Doc.rkd at h
      rw [Bool.and_eq_true, decide_eq_true_eq] at h
      rw [if_pos h.1]; rfl
    generalize (if D.kd t = 0 then D.nH w t else 0) = o at *
    have b3 := b1 o ho64
    have hz : o = 0 → o * D.nT i = 0 := fun h => by rw [h, Nat.zero_mul]
    generalize o * D.nT i = u, D.nH w i * D.nT t = v at *
    have c1 : (nI u > nI v) ↔ v < u := nI_ltI (by omega) (by omega)
    have c2 : (nI o ≤ 0) ↔ o ≤ 0 := nI_leI (b := 0) (by omega) (by decide)
    have c3 : (nI u = nI v) ↔ u = v := nI_eq (by omega) (by omega)
    refine congrArg (fun y => (some (Sum.inl (y, nI (t + 1))) : Option ((Int32 × Int32) ⊕ Int32))) ?_
    by_cases g0 : o = 0
    · have : ¬ v < u := by have := hz g0; omega
      rw [if_neg (fun q => this (c1.mp q)), if_pos (c2.mpr (by omega)), hrk]
      simp [g0]
    · have hrt : D.rkd w t = true := by rw [hrk]; simp; omega
      rw [hrt, hld hrt]
      by_cases g1 : v < u
      · rw [if_pos (c1.mpr g1)]; simp [g1, nI_1]
      · rw [if_neg (fun q => g1 (c1.mp q)), if_neg (fun q => g0 (by have := c2.mp q; omega))]
        by_cases g2 : u = v
        · rw [if_pos (c3.mpr g2)]
          by_cases g3 : i ≤ t
          · rw [if_pos (hge.mpr g3)]; simp [g2, show ¬ t < i by omega]
          · rw [if_neg (fun q => g3 (hge.mp q))]; simp [g2, show t < i by omega, nI_1]
        · rw [if_neg (fun q => g2 (c3.mp q))]; simp [g1, g2]
  · dsimp only [f_X11_ranked_b100]
    rw [hgn, Option.bind_some, if_pos (Int32.le_refl _)]
    rfl
theorem ranked_loop (hM : tc_Mod S z) (hw : D.wf) (hR : RTree c D m) (hO : ROrd c D) (hwv : w ≠ -1) (y : Int32) :
    tq_loop (f_X11_ranked_b38 155 w y (tc_mk S c)) tq_N (-1, 0) = some (D.rkAt w y D.n) := by
  have hn := D.n_le hw
  have hR' := hR
  obtain ⟨-, -, -, -, r5, -, r7, -⟩ := hR'
  have hgn : tq_gi (tc_mk S c) 155 11 11 = some (nI D.n) := by simp (maxSteps := 3000000) (disch := omega) only [Option.bind_some, tc_bs, tq_let, tc_I1, tc_I2, tc_J1, tc_J2, tc_J3, tc_F1, tc_F2, tc_F3, tc_F4, tc_G1, tc_G2, tc_G3, tc_G4, tc_G5, tc_us, tc_un, s_one, s_holds, s_J13_bitCount, bz_bI, hM.f, hO.1]
  have hg12 : tq_gr (tc_mk S c) 155 11 12 = some 164 := by simp (maxSteps := 3000000) (disch := omega) only [Option.bind_some, tc_bs, tq_let, tc_I1, tc_I2, tc_J1, tc_J2, tc_J3, tc_F1, tc_F2, tc_F3, tc_F4, tc_G1, tc_G2, tc_G3, tc_G4, tc_G5, tc_us, tc_un, s_one, s_holds, s_J13_bitCount, bz_bI, hM.f]
  have hg2 : tq_gr (tc_mk S c) 155 11 2 = some 156 := by simp (maxSteps := 3000000) (disch := omega) only [Option.bind_some, tc_bs, tq_let, tc_I1, tc_I2, tc_J1, tc_J2, tc_J3, tc_F1, tc_F2, tc_F3, tc_F4, tc_G1, tc_G2, tc_G3, tc_G4, tc_G5, tc_us, tc_un, s_one, s_holds, s_J13_bitCount, bz_bI, hM.f]
  have his : tq_is (tc_mk S c) 155 11 = some () := by simp (maxSteps := 3000000) (disch := omega) only [Option.bind_some, tc_bs, tq_let, tc_I1, tc_I2, tc_J1, tc_J2, tc_J3, tc_F1, tc_F2, tc_F3, tc_F4, tc_G1, tc_G2, tc_G3, tc_G4, tc_G5, tc_us, tc_un, s_one, s_holds, s_J13_bitCount, bz_bI, hM.f]
  have hT64 := fun j => D.nT_le j
  have hHle := fun j => D.nH_le w j
  refine tc_scan (B := f_X11_ranked_b38 155 w y (tc_mk S c)) D.n (fun t => D.rkAt w y t) (by omega) (fun t ht => ?_) ?_
  · have ot := D.ord_lt hw ht
    have ho : tq_ai (tc_mk S c) 164 (nI t) = some (nI (D.ord t)) := by simp (maxSteps := 3000000) (disch := omega) only [Option.bind_some, tc_bs, tq_let, tc_I1, tc_I2, tc_J1, tc_J2, tc_J3, tc_F1, tc_F2, tc_F3, tc_F4, tc_G1, tc_G2, tc_G3, tc_G4, tc_G5, tc_us, tc_un, s_one, s_holds, s_J13_bitCount, bz_bI, hM.f, show t < 60 from by omega, hO.2.1 t ht]
    have hk : tq_ai (tc_mk S c) 156 (nI (D.ord t)) = some (D.kd t) := by simp (maxSteps := 3000000) (disch := omega) only [Option.bind_some, tc_bs, tq_let, tc_I1, tc_I2, tc_J1, tc_J2, tc_J3, tc_F1, tc_F2, tc_F3, tc_F4, tc_G1, tc_G2, tc_G3, tc_G4, tc_G5, tc_us, tc_un, s_one, s_holds, s_J13_bitCount, bz_bI, hM.f, r5 t ht]
    have e1 : (if D.kd t = 0 then some (nI (D.nH w t)) else some (0 : Int32)) = some (nI (if D.kd t = 0 then D.nH w t else 0)) := by split <;> rfl
    dsimp only [f_X11_ranked_b38]
    rw [hgn, Option.bind_some, if_neg (show ¬ nI t ≥ nI D.n from nI_ge ht (by omega))]
    simp only [hg12, ho, hg2, hk, his, s_textsBelow hM hw hR hO ht, if_true, if_neg hwv, e1, Option.bind_some, tq_let, nI_1]
    by_cases hr : D.rkd w t = true
    · have hk0 : D.kd t = 0 := by unfold Doc.rkd at hr; rw [Bool.and_eq_true, decide_eq_true_eq] at hr; exact hr.1
      have hpos := Doc.rkd_pos hr
      rw [if_pos hk0, rahead_loop hM hw hR hO ht hr hwv, Option.bind_some, if_neg (nI_nle (show 0 < D.nH w t by omega) (by have := hHle t; have := hT64 t; omega))]
      show _ = some (Sum.inl (if D.rkd w t = true ∧ nI (D.ra w t) = y then nI (D.ord t) else D.rkAt w y t, nI (t + 1)))
      by_cases g : nI (D.ra w t) = y
      · rw [if_pos g, if_pos ⟨hr, g⟩]; rfl
      · rw [if_neg g, if_neg (fun q => g q.2)]; rfl
    · have hz : (if D.kd t = 0 then D.nH w t else 0) = 0 := by
        unfold Doc.rkd at hr
        simp only [Bool.and_eq_true, decide_eq_true_eq] at hr
        split
        · rename_i g
          rcases Nat.eq_zero_or_pos (D.nH w t) with q | q
          · exact q
          · exact absurd ⟨g, q⟩ hr
        · rfl
      rw [hz]
      have hl0 : tq_loop (f_X11_ranked_b100 155 w y (D.rkAt w y t) (nI t) (nI 0) (nI (D.nT t)) (tc_mk S c)) tq_N (0, 0) = some 0 := by
        refine tc_iter (B := f_X11_ranked_b100 155 w y (D.rkAt w y t) (nI t) (nI 0) (nI (D.nT t)) (tc_mk S c)) 0 (fun _ => (0, 0)) (fun _ h => by omega) ?_ (by unfold tq_N; omega)
        dsimp only [f_X11_ranked_b100]
        rw [hgn, Option.bind_some, if_neg (show ¬ (0 : Int32) ≥ nI D.n from nI_ge (D.n_pos hw) (by omega)), if_pos (by decide)]
      rw [hl0, Option.bind_some, if_pos (by decide), Option.bind_some]
      show _ = some (Sum.inl (if D.rkd w t = true ∧ nI (D.ra w t) = y then nI (D.ord t) else D.rkAt w y t, nI (t + 1)))
      rw [if_neg (fun q => hr q.1)]
  · dsimp only [f_X11_ranked_b38]
    rw [hgn, Option.bind_some, if_pos (Int32.le_refl _)]
end RKD
