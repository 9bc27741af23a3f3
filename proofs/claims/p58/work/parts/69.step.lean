/-! ===== the class finds: a step ===== -/
/-- what stands before a step: the tables of the paths below r -/
def Tb (c : tc_C) (b : Nat) (D : Doc) (T : Nat → Nat → Nat → Bool) (r : Nat) : Prop := ∀ p i, p < r → i < D.n → c.2.1 (b + 2) (60 * p + i) = mkS (T p i)
def Lp (c : tc_C) (b : Nat) (D : Doc) (G : Nat → Nat → Bool) : Prop := ∀ i, i < D.n → c.2.1 (b + 4) i = mkS (G i)
/-- what is reached before round l, and what is new in it -/
def Doc.rq (D : Doc) (F : Nat → Nat → Bool) (i : Nat) : Nat → Nat → Bool
  | 0 => fun _ => false
  | l + 1 => D.rp F i l
def Doc.rn (D : Doc) (F : Nat → Nat → Bool) (i l j : Nat) : Bool := D.rp F i l j && !D.rq F i l j
section RQ
variable {D : Doc} {F : Nat → Nat → Bool} {i l k : Nat}
theorem Doc.rq_rp : ∀ {l j : Nat}, D.rq F i l j = true → D.rp F i l j = true
  | 0, _, h => by cases h
  | _ + 1, _, h => Doc.rp_mono h
theorem Doc.rq_step (j : Nat) : (D.rq F i l j || D.rn F i l j) = D.rq F i (l + 1) j := by
  show (D.rq F i l j || (D.rp F i l j && !D.rq F i l j)) = D.rp F i l j
  cases h : D.rq F i l j with
  | true => rw [Doc.rq_rp h]; rfl
  | false => cases D.rp F i l j <;> rfl
theorem Doc.rn_lt (hF : ∀ s j, F s j = true → j < D.n) {j : Nat} (h : D.rn F i l j = true) : j < D.n := by
  unfold Doc.rn at h
  rw [Bool.and_eq_true] at h
  exact Doc.rp_lt hF l j h.1
theorem Doc.rq_any {j : Nat} (h : anyB (fun m => D.rq F i l m && F m j) D.n = true) : D.rp F i l j = true := by
  cases l with
  | zero =>
    obtain ⟨s, _, h⟩ := anyB_iff.mp h
    cases h
  | succ l =>
    show (D.rp F i l j || anyB (fun m => D.rp F i l m && F m j) D.n) = true
    rw [show anyB (fun m => D.rp F i l m && F m j) D.n = true from h, Bool.or_true]
theorem Doc.rn_step (j : Nat) : (anyB (fun m => D.rn F i l m && F m j) D.n && !D.rq F i (l + 1) j) = D.rn F i (l + 1) j := by
  show (_ && !D.rp F i l j) = ((D.rp F i l j || anyB (fun m => D.rp F i l m && F m j) D.n) && !D.rp F i l j)
  cases h : D.rp F i l j with
  | true => rw [Bool.not_true, Bool.and_false, Bool.and_false]
  | false =>
    rw [Bool.not_false, Bool.and_true, Bool.and_true, Bool.false_or]
    rw [Bool.eq_iff_iff]
    constructor
    · intro w
      obtain ⟨s, h1, h2⟩ := anyB_iff.mp w
      rw [Bool.and_eq_true] at h2
      unfold Doc.rn at h2
      rw [Bool.and_eq_true] at h2
      exact anyB_iff.mpr ⟨s, h1, by rw [h2.1.1, h2.2]; rfl⟩
    · intro w
      obtain ⟨s, h1, h2⟩ := anyB_iff.mp w
      rw [Bool.and_eq_true] at h2
      refine anyB_iff.mpr ⟨s, h1, ?_⟩
      rw [Bool.and_eq_true]
      refine ⟨?_, h2.2⟩
      show (D.rp F i l s && !D.rq F i l s) = true
      cases e : D.rq F i l s with
      | false => rw [h2.1]; rfl
      | true =>
        have := Doc.rq_any (D := D) (F := F) (i := i) (l := l) (j := j) (anyB_iff.mpr ⟨s, h1, by rw [e, h2.2]; rfl⟩)
        rw [h] at this; cases this
theorem Doc.rn_first (D : Doc) (F : Nat → Nat → Bool) (i : Nat) : ∃ k, k ≤ D.n ∧ (∀ j, j < D.n → D.rn F i k j = false) ∧ ∀ l, l < k → ∃ j, j < D.n ∧ D.rn F i l j = true := by
  have ex : ∃ k, k ≤ D.n ∧ ∀ j, j < D.n → D.rn F i k j = false := by
    refine Classical.byContradiction fun hx => ?_
    have h2 : ∀ k, k ≤ D.n → ∃ j, j < D.n ∧ D.rn F i k j = true := fun k hk => by
      refine Classical.byContradiction fun hy => hx ⟨k, hk, fun j hj => ?_⟩
      cases e : D.rn F i k j with
      | false => rfl
      | true => exact absurd ⟨j, hj, e⟩ hy
    have key : ∀ k, k ≤ D.n + 1 → k ≤ fb_ct (D.rq F i k) D.n := by
      intro k
      induction k with
      | zero => intro _; exact Nat.zero_le _
      | succ k ih =>
        intro hk
        have h1 := ih (by omega)
        obtain ⟨j, hj, hj2⟩ := h2 k (by omega)
        unfold Doc.rn at hj2
        rw [Bool.and_eq_true, Bool.not_eq_true'] at hj2
        have := ct_lt (p := D.rq F i k) (q := D.rq F i (k + 1)) (n := D.n) (fun j _ hj => Doc.rq_rp hj) ⟨j, hj, hj2.1, hj2.2⟩
        omega
    have h1 := key (D.n + 1) (Nat.le_refl _)
    have h3 := fb_ct_le (D.rq F i (D.n + 1)) D.n
    omega
  obtain ⟨k, h1, h2⟩ := ex
  obtain ⟨l, a, b, d⟩ := least_ex (p := fun k => ∀ j, j < D.n → D.rn F i k j = false) k h2
  refine ⟨l, by omega, b, fun m hm => ?_⟩
  refine Classical.byContradiction fun hy => d m hm fun j hj => ?_
  cases e : D.rn F i m j with
  | false => rfl
  | true => exact absurd ⟨j, hj, e⟩ hy
theorem Doc.rq_rep (hw : D.wf) (h : ∀ j, j < D.n → D.rn F i k j = false) (hk : k ≤ 60) {j : Nat} (hj : j < D.n) : D.rq F i k j = D.rep F i j := by
  cases k with
  | zero =>
    have h0 : ∀ j, j < D.n → D.rp F i 0 j = false := fun j hj => by
      have := h j hj
      change (D.rp F i 0 j && !false) = false at this
      rwa [Bool.not_false, Bool.and_true] at this
    have st : D.still F i 0 := fun j hj => by
      show (D.rp F i 0 j || anyB (fun s => D.rp F i 0 s && F s j) D.n) = D.rp F i 0 j
      cases e : anyB (fun s => D.rp F i 0 s && F s j) D.n with
      | false => rw [Bool.or_false]
      | true =>
        obtain ⟨s, h1, h2⟩ := anyB_iff.mp e
        rw [h0 s h1] at h2; cases h2
    rw [← Doc.still_rep hw st (by omega) hj, h0 j hj]; rfl
  | succ k =>
    have st : D.still F i k := fun j hj => by
      have := h j hj
      change (D.rp F i (k + 1) j && !D.rp F i k j) = false at this
      cases e : D.rp F i k j with
      | true => exact Doc.rp_mono e
      | false => rwa [e, Bool.not_false, Bool.and_true] at this
    exact Doc.still_rep hw st (by omega) hj
end RQ
section FS
variable {S : tq_H} {c c' : tc_C} {b p k d m r : Nat} {D : Doc} {P : Pat} {Q : Nat → Bool} {T : Nat → Nat → Nat → Bool} {G : Nat → Nat → Bool}
theorem Tb.kp {lo hi : Nat} (h : Tb c b D T r) (k : Kp lo hi c c') (hd : hi ≤ b + 2 ∨ b + 3 ≤ lo) : Tb c' b D T r := by
  intro p i h1 h2
  rw [k.2.1 (b + 2) (by omega)]
  exact h p i h1 h2
theorem tb_union (hS : tc_Fnd S b) (hw : D.wf) (hT : Tb c b D T r) (hp : p < r) (hr : r ≤ 20) {X : Nat → Bool} (hX : ∀ m, X m = true → m < D.n) : f_X7_union (b + 1) (nI (60 * p)) (mkS X) (tc_mk S c) = some (mkS (fun j => anyB (fun m => X m && T p m j) D.n)) := by
  have hn := D.n_le hw
  rw [s_X7_union hS.2.1 (show 60 * p < 2 ^ 30 by omega)]
  congr 1
  refine orTo_mkS (by omega) hX (fun m hm => ?_)
  rw [sg_in _ (show 60 * p + m < 1200 by omega) (by decide)]
  exact hT p m hp hm
theorem s_reachByAxis (hS : tc_Fnd S b) (hb : 117 ≤ b) (hTr : tc_Tree S 1) (hw : D.wf) (hL : Lay c 1 D) (hQ : c.2.2.2.1 b 6 = mkS Q) {a : Nat} (ha : a < 12) (X : Nat → Bool) :
    ∃ c', f_X2_reachByAxis b (nI a) (mkS X) (tc_mk S c) = some (tc_mk S c') ∧ Lp c' b D (fun i j => (D.ax a i j && X j) && Q j) ∧ Kp (b + 4) (b + 5) c c' := by
  have hn := D.n_le hw
  have W := tc_row (S := S) (c := c) (a := b + 4) (o := 0) (n := D.n) (B := f_X2_reachByAxis_b3 b (nI a) (mkS X)) (fun i => mkS (fun j => (D.ax a i j && X j) && Q j)) (by omega) (fun i g hi _ => ?_) (fun g => ?_)
  · obtain ⟨c1, w1, w2, -, w4⟩ := W
    refine ⟨c1, ?_, fun i hi => by have := w2 i hi; rwa [Nat.zero_add] at this, w4⟩
    unfold f_X2_reachByAxis
    rw [w1]; rfl
  · have hL' := hL.kp (Kp.J (c := c) (a := b + 4) (lo := b + 4) (hi := b + 5) g (by omega) (by omega)) (by omega)
    dsimp only [f_X2_reachByAxis_b3]
    simp (maxSteps := 3000000) (disch := omega) only [Option.bind_some, tc_bs, tq_let, tc_I1, tc_I2, tc_J1, tc_J2, tc_J3, tc_F1, tc_F2, tc_F3, tc_F4, tc_G1, tc_G2, tc_G3, tc_G4, tc_G5, tc_us, tc_un, s_one, s_holds, s_J13_bitCount, bz_bI, hS.f, hTr.is, s_X3_count hTr hL', s_X3_reached hTr hw hL' hi ha, hQ, mkS_and, nI_1]
    rw [if_neg (show ¬ nI i ≥ nI D.n from nI_ge hi (by omega)), tc_J_J, Nat.zero_add, ss_in _ _ (show i < 60 by omega) (by decide)]
  · have hL' := hL.kp (Kp.J (c := c) (a := b + 4) (lo := b + 4) (hi := b + 5) g (by omega) (by omega)) (by omega)
    dsimp only [f_X2_reachByAxis_b3]
    simp (maxSteps := 3000000) (disch := omega) only [Option.bind_some, tc_bs, tq_let, tc_I1, tc_I2, tc_J1, tc_J2, tc_J3, tc_F1, tc_F2, tc_F3, tc_F4, tc_G1, tc_G2, tc_G3, tc_G4, tc_G5, tc_us, tc_un, s_one, s_holds, s_J13_bitCount, bz_bI, hS.f, hTr.is, s_X3_count hTr hL']
    rw [if_pos (Int32.le_refl _)]
theorem rep_loop (hS : tc_Fnd S b) (hw : D.wf) (hT : Tb c b D T r) (hp : p < r) (hr : r ≤ 20) (hTn : ∀ i j, T p i j = true → j < D.n) (i : Nat) (y : Int32) (z : Int64) :
    tq_loop (f_X2_reachByPath_b41 b z (nI (60 * p)) y (tc_mk S c)) tq_N (0, mkS (T p i), 0) = some (mkS (D.rep (T p) i)) := by
  have hn := D.n_le hw
  obtain ⟨k, h1, h2, h3⟩ := D.rn_first (T p) i
  have hk60 : k ≤ 60 := by omega
  have e0 : (0 : Int64) = mkS (D.rq (T p) i 0) := mkS_0
  have e00 : mkS (T p i) = mkS (D.rn (T p) i 0) := mkS_cong fun j _ => by
    show T p i j = (T p i j && !false)
    cases T p i j <;> rfl
  rw [show ((0 : Int64), mkS (T p i), (0 : Int32)) = (mkS (D.rq (T p) i 0), mkS (D.rn (T p) i 0), nI 0) from by rw [← e0, ← e00]; rfl]
  refine tc_iter (B := f_X2_reachByPath_b41 b z (nI (60 * p)) y (tc_mk S c)) k (fun l => (mkS (D.rq (T p) i l), mkS (D.rn (T p) i l), nI l)) (fun l hl => ?_) ?_ (by unfold tq_N; omega)
  · dsimp only [f_X2_reachByPath_b41]
    obtain ⟨j, hj, hj2⟩ := h3 l hl
    have hne : ¬ (lg_cmp (mkS (D.rn (T p) i l)) 0) = 0 := fun w => by
      have := (mkS_z _).mp ((lg_cmp_0 _ _).mp w) j (by omega)
      rw [hj2] at this; cases this
    rw [if_neg (show ¬ nI l ≥ 60 from nI_ge (show l < 60 by omega) (by decide)), if_neg hne]
    simp (maxSteps := 3000000) (disch := omega) only [Option.bind_some, tc_bs, tq_let, tc_I1, tc_I2, tc_J1, tc_J2, tc_J3, tc_F1, tc_F2, tc_F3, tc_F4, tc_G1, tc_G2, tc_G3, tc_G4, tc_G5, tc_us, tc_un, s_one, s_holds, s_J13_bitCount, bz_bI, hS.f, tb_union hS hw hT hp hr (X := D.rn (T p) i l) (fun m hm => Doc.rn_lt hTn hm), mkS_or, mkS_and, mkS_not, nI_1]
    refine congrArg (fun x : Int64 × Int64 × Int32 => (some (Sum.inl x) : Option ((Int64 × Int64 × Int32) ⊕ Int64))) ?_
    rw [show mkS (fun j => D.rq (T p) i l j || D.rn (T p) i l j) = mkS (D.rq (T p) i (l + 1)) from mkS_cong fun j _ => Doc.rq_step j]
    refine congrArg (fun x : Int64 => (mkS (D.rq (T p) i (l + 1)), x, nI (l + 1))) (mkS_cong fun j _ => ?_)
    rw [Doc.rq_step]
    exact Doc.rn_step j
  · dsimp only [f_X2_reachByPath_b41]
    have hz : mkS (D.rn (T p) i k) = 0 := (mkS_z _).mpr fun j _ => by
      by_cases hj2 : j < D.n
      · exact h2 j hj2
      · cases a : D.rn (T p) i k j with
        | false => rfl
        | true => exact absurd (Doc.rn_lt hTn a) hj2
    have e : mkS (D.rq (T p) i k) = mkS (D.rep (T p) i) := by
      apply mkS_cong
      intro j hj
      by_cases hj2 : j < D.n
      · exact D.rq_rep hw h2 hk60 hj2
      · have f : ∀ l, D.rp (T p) i l j = false := fun l => by
          cases a : D.rp (T p) i l j with
          | false => rfl
          | true => exact absurd (Doc.rp_lt hTn l j a) hj2
        cases k with
        | zero => exact (f 60).symm
        | succ k => exact (f k).trans (f 60).symm
    rw [if_pos ((lg_cmp_0 _ _).mpr hz), e]
    split <;> rfl
theorem s_reachByPath (hS : tc_Fnd S b) (hb : 117 ≤ b) (hTr : tc_Tree S 1) (hw : D.wf) (hL : Lay c 1 D) (hQ : c.2.2.2.1 b 6 = mkS Q) (hT : Tb c b D T r) (hp : p < r) (hr : r ≤ 20) (hTn : ∀ i j, T p i j = true → j < D.n) (X : Nat → Bool) :
    ∃ c', f_X2_reachByPath b (nI p) (mkS X) (tc_mk S c) = some (tc_mk S c') ∧ Lp c' b D (fun i j => (D.rep (T p) i j && X j) && Q j) ∧ Kp (b + 4) (b + 5) c c' := by
  have hn := D.n_le hw
  have e60 : nI p * 60 = nI (60 * p) := by rw [show (60 : Int32) = nI 60 from rfl, nI_mul, Nat.mul_comm]
  have W := tc_row (S := S) (c := c) (a := b + 4) (o := 0) (n := D.n) (B := f_X2_reachByPath_b9 b (mkS X) (nI (60 * p))) (fun i => mkS (fun j => (D.rep (T p) i j && X j) && Q j)) (by omega) (fun i g hi _ => ?_) (fun g => ?_)
  · obtain ⟨c1, w1, w2, -, w4⟩ := W
    refine ⟨c1, ?_, fun i hi => by have := w2 i hi; rwa [Nat.zero_add] at this, w4⟩
    unfold f_X2_reachByPath
    rw [e60]
    dsimp only [tq_let]
    rw [w1]; rfl
  · have kk := Kp.J (c := c) (a := b + 4) (lo := b + 4) (hi := b + 5) g (by omega) (by omega)
    have hL' := hL.kp kk (by omega)
    have hT' := hT.kp kk (by omega)
    have hTi := hT p i hp hi
    dsimp only [f_X2_reachByPath_b9]
    simp (maxSteps := 3000000) (disch := omega) only [Option.bind_some, tc_bs, tq_let, tc_I1, tc_I2, tc_J1, tc_J2, tc_J3, tc_F1, tc_F2, tc_F3, tc_F4, tc_G1, tc_G2, tc_G3, tc_G4, tc_G5, tc_us, tc_un, s_one, s_holds, s_J13_bitCount, bz_bI, hS.f, hTr.is, s_X3_count hTr hL', nI_add, sg_in _ (show 60 * p + i < 1200 by omega) (show 1200 < 2 ^ 31 by decide), hTi]
    rw [if_neg (show ¬ nI i ≥ nI D.n from nI_ge hi (by omega))]
    rw [rep_loop hS hw hT' hp hr hTn i (nI i) (mkS X)]
    simp (maxSteps := 3000000) (disch := omega) only [Option.bind_some, tc_bs, tq_let, tc_I1, tc_I2, tc_J1, tc_J2, tc_J3, tc_F1, tc_F2, tc_F3, tc_F4, tc_G1, tc_G2, tc_G3, tc_G4, tc_G5, tc_us, tc_un, s_one, s_holds, s_J13_bitCount, bz_bI, hS.f, hQ, mkS_and, nI_1]
    rw [tc_J_J, Nat.zero_add, ss_in _ _ (show i < 60 by omega) (by decide)]
  · have hL' := hL.kp (Kp.J (c := c) (a := b + 4) (lo := b + 4) (hi := b + 5) g (by omega) (by omega)) (by omega)
    dsimp only [f_X2_reachByPath_b9]
    simp (maxSteps := 3000000) (disch := omega) only [Option.bind_some, tc_bs, tq_let, tc_I1, tc_I2, tc_J1, tc_J2, tc_J3, tc_F1, tc_F2, tc_F3, tc_F4, tc_G1, tc_G2, tc_G3, tc_G4, tc_G5, tc_us, tc_un, s_one, s_holds, s_J13_bitCount, bz_bI, hS.f, hTr.is, s_X3_count hTr hL']
    rw [if_pos (Int32.le_refl _)]
end FS
