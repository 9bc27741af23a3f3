/-! ===== tangles and twins ===== -/
/-- so many steps up -/
def clm (f : Nat → Int32) : Nat → Int32 → Int32
  | 0, x => x
  | k + 1, x => if x = -1 then -1 else clm f k (f x.toNatClampNeg)
def ParOk (f : Nat → Int32) (Old : Nat → Prop) : Prop := ∀ w, w < 60 → f w = -1 ∨ ∃ v, v < 60 ∧ Old v ∧ f w = nI v
def Doc.tw (D : Doc) : Prop := ∃ i j k, i < D.n ∧ j < k ∧ D.ax 11 i j = true ∧ D.ax 11 i k = true ∧ D.nm j = D.nm k
section TGL
variable {S : tq_H} {c : tc_C} {b e g m i j k v w M : Nat} {D : Doc} {f : Nat → Int32} {Old : Nat → Prop}
theorem clm_n (f : Nat → Int32) : ∀ k, clm f k (-1) = -1
  | 0 => rfl
  | _ + 1 => if_pos rfl
theorem clm_add (f : Nat → Int32) (b : Nat) : ∀ a x, clm f (a + b) x = clm f b (clm f a x) := by
  intro a
  induction a with
  | zero => intro x; rw [Nat.zero_add]; rfl
  | succ a ih =>
    intro x
    rw [show a + 1 + b = (a + b) + 1 by omega]
    by_cases q : x = -1
    · subst q; rw [clm_n, clm_n, clm_n]
    · show (if x = -1 then -1 else clm f (a + b) (f x.toNatClampNeg)) = clm f b (if x = -1 then -1 else clm f a (f x.toNatClampNeg))
      rw [if_neg q, if_neg q, ih]
theorem clm_1 (f : Nat → Int32) {w : Nat} (hw : w < 2 ^ 31) : clm f 1 (nI w) = f w := by
  show (if nI w = -1 then -1 else f (nI w).toNatClampNeg) = f w
  rw [if_neg (nI_nm1 hw), nI_clamp hw]
theorem clm_v (hp : ParOk f Old) (hw : w < 60) : ∀ k, clm f k (nI w) = -1 ∨ ∃ s, s < 60 ∧ (0 < k → Old s) ∧ clm f k (nI w) = nI s := by
  intro k
  induction k with
  | zero => exact .inr ⟨w, hw, fun z => absurd z (Nat.lt_irrefl _), rfl⟩
  | succ k ih =>
    rw [clm_add]
    rcases ih with h | ⟨s, s1, -, s3⟩
    · rw [h, clm_n]; exact .inl rfl
    · rw [s3, clm_1 f (by omega)]
      rcases hp s s1 with h | ⟨v, v1, v2, v3⟩
      · exact .inl h
      · exact .inr ⟨v, v1, fun _ => v2, v3⟩
theorem tangle (hp : ParOk f Old) (hM : M ≤ 60) (hO : ∀ w, Old w → w < M) : (∃ w, w < M ∧ clm f 61 (nI w) ≠ -1) ↔ ∃ w, Old w ∧ ∃ t, 1 ≤ t ∧ t ≤ 61 ∧ clm f t (nI w) = nI w := by
  constructor
  · rintro ⟨w, hw, hc⟩
    have hv : ∀ t, t ≤ 61 → ∃ s, s < 60 ∧ (0 < t → Old s) ∧ clm f t (nI w) = nI s := fun t ht => by
      rcases clm_v hp (show w < 60 by omega) t with h | h
      · exfalso; apply hc
        rw [show 61 = t + (61 - t) by omega, clm_add, h, clm_n]
      · exact h
    obtain ⟨i, j, hij, hj, e⟩ := fb_twice (m := 60) (n := 61) (f := fun t => (clm f (t + 1) (nI w)).toNatClampNeg) (fun t ht => by
      obtain ⟨s, s1, -, s3⟩ := hv (t + 1) (by omega)
      show (clm f (t + 1) (nI w)).toNatClampNeg < 60
      rw [s3, nI_clamp (by omega)]; exact s1) (by decide)
    obtain ⟨s, s1, s2, s3⟩ := hv (i + 1) (by omega)
    obtain ⟨r, r1, r2, r3⟩ := hv (j + 1) (by omega)
    rw [s3, r3, nI_clamp (by omega), nI_clamp (by omega)] at e
    subst e
    refine ⟨s, s2 (by omega), j - i, by omega, by omega, ?_⟩
    rw [← s3, ← clm_add, show i + 1 + (j - i) = j + 1 by omega, r3, s3]
  · rintro ⟨w, hw, t, t1, t2, e⟩
    have hw60 := hO w hw
    refine ⟨w, hw60, fun z => ?_⟩
    have key : ∀ n, clm f (n * t) (nI w) = nI w := fun n => by
      induction n with
      | zero => rw [Nat.zero_mul]; rfl
      | succ n ih => rw [Nat.succ_mul, clm_add, ih, e]
    have h1 := key 61
    have h61 : 61 ≤ 61 * t := by omega
    rw [show 61 * t = 61 + (61 * t - 61) by omega, clm_add, z, clm_n] at h1
    exact nI_nm1 (show w < 2 ^ 31 by omega) h1.symm
theorem s_X8_isTangled (hT : tc_Tree S b) (hm : c.2.2.1 b 10 = nI M) (hM : M ≤ 60) (hp : ParOk (c.1 (b + 31)) Old) :
    ∃ r, f_X8_isTangled b (tc_mk S c) = some (bI r) ∧ (r = true ↔ ∃ w, w < M ∧ clm (c.1 (b + 31)) 61 (nI w) ≠ -1) := by
  have inner : ∀ w, w < M → tq_loop (f_X8_isTangled_b14 b (nI w) (tc_mk S c)) tq_N (nI w, (0 : Int32)) = some (clm (c.1 (b + 31)) 61 (nI w)) := fun w hw => by
    obtain ⟨o, o1, o2⟩ := tc_run2 (B := f_X8_isTangled_b14 b (nI w) (tc_mk S c)) 61 (fun k (_ : Unit) => (clm (c.1 (b + 31)) k (nI w), nI k)) (fun _ _ => True)
      (fun o => o = clm (c.1 (b + 31)) 61 (nI w)) (by omega) (fun k _ hk _ => by
        have e1 : ¬ nI k > 60 := nI_nlt (show k ≤ 60 by omega) (by decide)
        rcases clm_v hp (show w < 60 by omega) k with h | ⟨s, s1, -, s3⟩
        · right
          refine ⟨-1, ?_, ?_⟩
          · rw [h]; simp (maxSteps := 3000000) (disch := omega) only [Option.bind_some, tc_bs, tq_let, tc_I1, tc_I2, tc_J1, tc_J2, tc_J3, tc_F1, tc_F2, tc_F3, tc_F4, tc_G1, tc_G2, tc_G3, tc_G4, tc_G5, tc_us, tc_un, s_one, s_holds, s_J13_bitCount, bz_bI, f_X8_isTangled_b14, e1, if_true, if_false]
          · rw [show 61 = k + (61 - k) by omega, clm_add, h, clm_n]
        · left
          refine ⟨(), ?_, trivial⟩
          have n1 : ¬ nI s = (-1 : Int32) := nI_nm1 (by omega)
          have e2 : rg 60 (c.1 (b + 31)) (nI s) = c.1 (b + 31) s := rg_in _ s1 (by decide)
          rw [clm_add, s3, clm_1 _ (by omega)]
          simp (maxSteps := 3000000) (disch := omega) only [Option.bind_some, tc_bs, tq_let, tc_I1, tc_I2, tc_J1, tc_J2, tc_J3, tc_F1, tc_F2, tc_F3, tc_F4, tc_G1, tc_G2, tc_G3, tc_G4, tc_G5, tc_us, tc_un, s_one, s_holds, s_J13_bitCount, bz_bI, f_X8_isTangled_b14, hT.f, e1, n1, e2, if_true, if_false, nI_1]) (fun _ _ => by
        have e1 : nI 61 > (60 : Int32) := by decide
        exact ⟨_, by simp (maxSteps := 3000000) (disch := omega) only [Option.bind_some, tc_bs, tq_let, tc_I1, tc_I2, tc_J1, tc_J2, tc_J3, tc_F1, tc_F2, tc_F3, tc_F4, tc_G1, tc_G2, tc_G3, tc_G4, tc_G5, tc_us, tc_un, s_one, s_holds, s_J13_bitCount, bz_bI, f_X8_isTangled_b14, e1, if_true], rfl⟩) (x := ()) trivial
    rw [← o2]; exact o1
  obtain ⟨o, o1, o2⟩ := tc_run2 (B := f_X8_isTangled_b2 b (tc_mk S c)) M (fun w (_ : Unit) => nI w) (fun k _ => ∀ w, w < k → clm (c.1 (b + 31)) 61 (nI w) = -1)
    (fun o => (o = .inl () ∧ ∀ w, w < M → clm (c.1 (b + 31)) 61 (nI w) = -1) ∨ (o = .inr 1 ∧ ∃ w, w < M ∧ clm (c.1 (b + 31)) 61 (nI w) ≠ -1)) (by omega) (fun w _ hw hI => by
      have e1 : ¬ nI w ≥ nI M := nI_ge hw (by omega)
      have e2 := inner w hw
      by_cases q : clm (c.1 (b + 31)) 61 (nI w) = -1
      · left
        refine ⟨(), ?_, fun v hv => ?_⟩
        · simp (maxSteps := 3000000) (disch := omega) only [Option.bind_some, tc_bs, tq_let, tc_I1, tc_I2, tc_J1, tc_J2, tc_J3, tc_F1, tc_F2, tc_F3, tc_F4, tc_G1, tc_G2, tc_G3, tc_G4, tc_G5, tc_us, tc_un, s_one, s_holds, s_J13_bitCount, bz_bI, f_X8_isTangled_b2, hT.f, hm, e1, e2, q, if_true, if_false, nI_1]
        · by_cases p : v = w
          · rw [p]; exact q
          · exact hI v (by omega)
      · right
        refine ⟨.inr 1, ?_, .inr ⟨rfl, w, hw, q⟩⟩
        simp (maxSteps := 3000000) (disch := omega) only [Option.bind_some, tc_bs, tq_let, tc_I1, tc_I2, tc_J1, tc_J2, tc_J3, tc_F1, tc_F2, tc_F3, tc_F4, tc_G1, tc_G2, tc_G3, tc_G4, tc_G5, tc_us, tc_un, s_one, s_holds, s_J13_bitCount, bz_bI, f_X8_isTangled_b2, hT.f, hm, e1, e2, q, if_false]) (fun _ hI => by
      have e1 : nI M ≥ nI M := Int32.le_refl _
      exact ⟨.inl (), by simp (maxSteps := 3000000) (disch := omega) only [Option.bind_some, tc_bs, tq_let, tc_I1, tc_I2, tc_J1, tc_J2, tc_J3, tc_F1, tc_F2, tc_F3, tc_F4, tc_G1, tc_G2, tc_G3, tc_G4, tc_G5, tc_us, tc_un, s_one, s_holds, s_J13_bitCount, bz_bI, f_X8_isTangled_b2, hT.f, hm, e1, if_true], .inl ⟨rfl, hI⟩⟩) (x := ()) (fun i hi => absurd hi (Nat.not_lt_zero _))
  have o1 : tq_loop (f_X8_isTangled_b2 b (tc_mk S c)) tq_N (0 : Int32) = some o := o1
  rcases o2 with ⟨rfl, o2⟩ | ⟨rfl, o2⟩
  · refine ⟨false, ?_, ⟨fun z => Bool.noConfusion z, fun ⟨w, w1, w2⟩ => absurd (o2 w w1) w2⟩⟩
    unfold f_X8_isTangled
    rw [o1]; rfl
  · refine ⟨true, ?_, ⟨fun _ => o2, fun _ => rfl⟩⟩
    unfold f_X8_isTangled
    rw [o1]; rfl
theorem ct_two {p : Nat → Bool} {n : Nat} (hj : p j = true) (hk : p k = true) (hjk : j < k) (hn : k < n) : 2 ≤ fb_ct p n := by
  have h1 := fb_ct_mono p (show j + 1 ≤ k from hjk)
  have h2 := fb_ct_mono p (show k + 1 ≤ n from hn)
  rw [fb_ct_succ, if_pos hj] at h1
  rw [fb_ct_succ, if_pos hk] at h2
  omega
theorem ct_pair {p : Nat → Bool} {n : Nat} (h : 2 ≤ fb_ct p n) : ∃ j k, j < k ∧ k < n ∧ p j = true ∧ p k = true := by
  obtain ⟨j, j1, j2, j3⟩ := fb_ct_kth (show 0 < fb_ct p n by omega)
  obtain ⟨k, k1, k2, k3⟩ := fb_ct_kth (show 1 < fb_ct p n by omega)
  refine ⟨j, k, ?_, k1, j2, k2⟩
  rcases Nat.lt_or_ge j k with q | q
  · exact q
  · have := fb_ct_mono p q; omega
theorem s_X8_hasTwins (hT : tc_Tree S b) (hw : D.wf) (hL : Lay c b D) : ∃ r, f_X8_hasTwins b (tc_mk S c) = some (bI r) ∧ (r = true ↔ D.tw) := by
  have hn := D.n_le hw
  have hax : ∀ i j, D.ax 11 i j = true → j < D.n ∧ D.kd j = 2 := fun i j h => by
    have := D.ax_lt _ _ _ h
    simp [Doc.ax] at h; exact ⟨this, h.2.2.2⟩
  have inner : ∀ i, i < D.n → ∃ o, tq_loop (f_X8_hasTwins_b25 b (nI i) (mkS (D.ax 11 i)) (tc_mk S c)) tq_N (0 : Int32) = some o ∧
      ((o = .inl () ∧ ¬ ∃ j k, j < k ∧ D.ax 11 i j = true ∧ D.ax 11 i k = true ∧ D.nm j = D.nm k) ∨ (o = .inr 1 ∧ ∃ j k, j < k ∧ D.ax 11 i j = true ∧ D.ax 11 i k = true ∧ D.nm j = D.nm k)) := fun i hi => by
    obtain ⟨o, o1, o2⟩ := tc_run2 (B := f_X8_hasTwins_b25 b (nI i) (mkS (D.ax 11 i)) (tc_mk S c)) 8 (fun x (_ : Unit) => nI x)
      (fun k _ => ∀ x, x < k → ¬ 2 ≤ fb_ct (fun j => D.ax 11 i j && (decide (j < D.n) && D.tst x j)) 64)
      (fun o => (o = .inl () ∧ ¬ ∃ j k, j < k ∧ D.ax 11 i j = true ∧ D.ax 11 i k = true ∧ D.nm j = D.nm k) ∨ (o = .inr 1 ∧ ∃ j k, j < k ∧ D.ax 11 i j = true ∧ D.ax 11 i k = true ∧ D.nm j = D.nm k)) (by omega) (fun x _ hx hI => by
        have e1 : ¬ nI x ≥ (8 : Int32) := nI_ge hx (by decide)
        by_cases q : mkS (D.ax 11 i) = 0
        · right
          have e2 : lg_cmp (mkS (D.ax 11 i)) 0 = 0 := (lg_cmp_0 _ _).mpr q
          refine ⟨.inl (), by simp (maxSteps := 3000000) (disch := omega) only [Option.bind_some, tc_bs, tq_let, tc_I1, tc_I2, tc_J1, tc_J2, tc_J3, tc_F1, tc_F2, tc_F3, tc_F4, tc_G1, tc_G2, tc_G3, tc_G4, tc_G5, tc_us, tc_un, s_one, s_holds, s_J13_bitCount, bz_bI, f_X8_hasTwins_b25, e1, e2, if_true, if_false], .inl ⟨rfl, fun ⟨j, k, _, h1, _⟩ => ?_⟩⟩
          have := (mkS_z _).mp q j (by have := (hax i j h1).1; omega)
          rw [h1] at this; cases this
        · have e2 : ¬ lg_cmp (mkS (D.ax 11 i)) 0 = 0 := fun z => q ((lg_cmp_0 _ _).mp z)
          have e3 := s_X3_passing (c := c) hT hL (show x < 14 by omega)
          have e4 : fb_ct (tb (mkS (D.ax 11 i) &&& mkS (fun j => decide (j < D.n) && D.tst x j))) 64 = fb_ct (fun j => D.ax 11 i j && (decide (j < D.n) && D.tst x j)) 64 := by rw [mkS_and, ct_mkS]
          have hle := fb_ct_le (fun j => D.ax 11 i j && (decide (j < D.n) && D.tst x j)) 64
          by_cases p : 2 ≤ fb_ct (fun j => D.ax 11 i j && (decide (j < D.n) && D.tst x j)) 64
          · right
            have e5 : ¬ nI (fb_ct (fun j => D.ax 11 i j && (decide (j < D.n) && D.tst x j)) 64) ≤ 1 := nI_ge (show 1 < _ from p) (by omega)
            refine ⟨.inr 1, by simp (maxSteps := 3000000) (disch := omega) only [Option.bind_some, tc_bs, tq_let, tc_I1, tc_I2, tc_J1, tc_J2, tc_J3, tc_F1, tc_F2, tc_F3, tc_F4, tc_G1, tc_G2, tc_G3, tc_G4, tc_G5, tc_us, tc_un, s_one, s_holds, s_J13_bitCount, bz_bI, f_X8_hasTwins_b25, hT.f, e1, e2, e3, e4, e5, if_true, if_false], .inr ⟨rfl, ?_⟩⟩
            obtain ⟨j, k, h1, h2, h3, h4⟩ := ct_pair p
            simp [Doc.tst, hx] at h3 h4
            exact ⟨j, k, h1, h3.1, h4.1, by rw [h3.2.2.2, h4.2.2.2]⟩
          · left
            have e5 : nI (fb_ct (fun j => D.ax 11 i j && (decide (j < D.n) && D.tst x j)) 64) ≤ 1 := nI_le (show _ ≤ 1 by omega) (by decide)
            refine ⟨(), by simp (maxSteps := 3000000) (disch := omega) only [Option.bind_some, tc_bs, tq_let, tc_I1, tc_I2, tc_J1, tc_J2, tc_J3, tc_F1, tc_F2, tc_F3, tc_F4, tc_G1, tc_G2, tc_G3, tc_G4, tc_G5, tc_us, tc_un, s_one, s_holds, s_J13_bitCount, bz_bI, f_X8_hasTwins_b25, hT.f, e1, e2, e3, e4, e5, if_true, if_false, nI_1], fun y hy => ?_⟩
            by_cases z : y = x
            · rw [z]; exact p
            · exact hI y (by omega)) (fun _ hI => by
        have e1 : nI 8 ≥ (8 : Int32) := Int32.le_refl _
        refine ⟨.inl (), by simp (maxSteps := 3000000) (disch := omega) only [Option.bind_some, tc_bs, tq_let, tc_I1, tc_I2, tc_J1, tc_J2, tc_J3, tc_F1, tc_F2, tc_F3, tc_F4, tc_G1, tc_G2, tc_G3, tc_G4, tc_G5, tc_us, tc_un, s_one, s_holds, s_J13_bitCount, bz_bI, f_X8_hasTwins_b25, e1, if_true], .inl ⟨rfl, fun ⟨j, k, h0, h1, h2, h3⟩ => ?_⟩⟩
        obtain ⟨j1, j2⟩ := hax i j h1
        obtain ⟨k1, k2⟩ := hax i k h2
        have hj : D.kd j ≠ 1 := by rw [j2]; decide
        have hk : D.kd k ≠ 1 := by rw [k2]; decide
        rcases D.nm_of hw j1 with ⟨z, -⟩ | ⟨-, x, x1, x2⟩
        · exact hj z
        · refine hI x x1 (ct_two (j := j) (k := k) ?_ ?_ h0 (by omega))
          · simp [Doc.tst, x1, h1, j1, hj, x2]
          · simp [Doc.tst, x1, h2, k1, hk, ← h3, x2]) (x := ()) (fun i hi => absurd hi (Nat.not_lt_zero _))
    exact ⟨o, o1, o2⟩
  obtain ⟨o, o1, o2⟩ := tc_run2 (B := f_X8_hasTwins_b2 b (tc_mk S c)) D.n (fun i (_ : Unit) => nI i) (fun k _ => ∀ i, i < k → ¬ ∃ j k, j < k ∧ D.ax 11 i j = true ∧ D.ax 11 i k = true ∧ D.nm j = D.nm k)
    (fun o => (o = .inl () ∧ ¬ D.tw) ∨ (o = .inr 1 ∧ D.tw)) (by omega) (fun i _ hi hI => by
      have e1 := s_X3_count (c := c) hT hL
      have e2 : ¬ nI i ≥ nI D.n := nI_ge hi (by omega)
      have e3 := s_X3_attributesOf (c := c) hT hw hL hi
      obtain ⟨o, p1, p2⟩ := inner i hi
      rcases p2 with ⟨rfl, p2⟩ | ⟨rfl, j, k, p2⟩
      · left
        refine ⟨(), by simp (maxSteps := 3000000) (disch := omega) only [Option.bind_some, tc_bs, tq_let, tc_I1, tc_I2, tc_J1, tc_J2, tc_J3, tc_F1, tc_F2, tc_F3, tc_F4, tc_G1, tc_G2, tc_G3, tc_G4, tc_G5, tc_us, tc_un, s_one, s_holds, s_J13_bitCount, bz_bI, f_X8_hasTwins_b2, hT.f, e1, e2, e3, p1, if_false, nI_1], fun v hv => ?_⟩
        by_cases z : v = i
        · rw [z]; exact p2
        · exact hI v (by omega)
      · right
        exact ⟨.inr 1, by simp (maxSteps := 3000000) (disch := omega) only [Option.bind_some, tc_bs, tq_let, tc_I1, tc_I2, tc_J1, tc_J2, tc_J3, tc_F1, tc_F2, tc_F3, tc_F4, tc_G1, tc_G2, tc_G3, tc_G4, tc_G5, tc_us, tc_un, s_one, s_holds, s_J13_bitCount, bz_bI, f_X8_hasTwins_b2, hT.f, e1, e2, e3, p1, if_false], .inr ⟨rfl, i, j, k, hi, p2⟩⟩) (fun _ hI => by
      have e1 := s_X3_count (c := c) hT hL
      have e2 : nI D.n ≥ nI D.n := Int32.le_refl _
      exact ⟨.inl (), by simp (maxSteps := 3000000) (disch := omega) only [Option.bind_some, tc_bs, tq_let, tc_I1, tc_I2, tc_J1, tc_J2, tc_J3, tc_F1, tc_F2, tc_F3, tc_F4, tc_G1, tc_G2, tc_G3, tc_G4, tc_G5, tc_us, tc_un, s_one, s_holds, s_J13_bitCount, bz_bI, f_X8_hasTwins_b2, hT.f, e1, e2, if_true], .inl ⟨rfl, fun ⟨i, j, k, h1, h2⟩ => hI i h1 ⟨j, k, h2⟩⟩⟩) (x := ()) (fun i hi => absurd hi (Nat.not_lt_zero _))
  have o1 : tq_loop (f_X8_hasTwins_b2 b (tc_mk S c)) tq_N (0 : Int32) = some o := o1
  rcases o2 with ⟨rfl, o2⟩ | ⟨rfl, o2⟩
  · refine ⟨false, ?_, ⟨fun z => Bool.noConfusion z, fun z => absurd z o2⟩⟩
    unfold f_X8_hasTwins
    rw [o1]; rfl
  · refine ⟨true, ?_, ⟨fun _ => o2, fun _ => rfl⟩⟩
    unfold f_X8_hasTwins
    rw [o1]; rfl
end TGL
