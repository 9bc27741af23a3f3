/-! ===== the lowest member, the members one after another ===== -/
theorem odd_part : ∀ X : Nat, 0 < X → ∃ m q, X = 2 ^ m * (2 * q + 1) := by
  intro X
  induction X using Nat.strongRecOn with
  | ind X ih =>
    intro h
    rcases Nat.mod_two_eq_zero_or_one X with e | e
    · obtain ⟨m, q, e2⟩ := ih (X / 2) (by omega) (by omega)
      refine ⟨m + 1, q, ?_⟩
      have : X = 2 * (X / 2) := by omega
      rw [this, e2, Nat.pow_succ, Nat.mul_comm (2 ^ m) 2, Nat.mul_assoc]
    · exact ⟨0, X / 2, by omega⟩
theorem tb_odd (m q j : Nat) : (2 ^ m * (2 * q + 1)).testBit j = (decide (m ≤ j) && (decide (j = m) || q.testBit (j - m - 1))) := by
  rw [Nat.testBit_two_pow_mul]
  by_cases h : m ≤ j
  · by_cases e : j = m
    · subst e; simp
    · obtain ⟨i, hi⟩ : ∃ i, j - m = i + 1 := ⟨j - m - 1, by omega⟩
      have : (2 * q + 1) / 2 = q := by omega
      simp [h, e, hi, Nat.testBit_succ, this]
  · simp [h]
theorem tb_odd1 (m q j : Nat) : (2 ^ m * (2 * q + 1) - 1).testBit j = (decide (j < m) || (decide (m < j) && q.testBit (j - m - 1))) := by
  have e : 2 ^ m * (2 * q + 1) - 1 = 2 ^ m * (2 * q) + (2 ^ m - 1) := by
    have := Nat.two_pow_pos m
    rw [Nat.mul_add]; omega
  rw [e, Nat.testBit_two_pow_mul_add _ (by have := Nat.two_pow_pos m; omega)]
  split
  · rename_i h; simp [Nat.testBit_two_pow_sub_one, h]
  · rename_i h
    by_cases z : j = m
    · subst z; simp
    · obtain ⟨i, hi⟩ : ∃ i, j - m = i + 1 := ⟨j - m - 1, by omega⟩
      have h2 : m < j := by omega
      have : (2 * q) / 2 = q := by omega
      simp [h, h2, hi, Nat.testBit_succ, this]
/-- m is the lowest member -/
def Low (x : Int64) (m : Nat) : Prop := m < 64 ∧ tb x m = true ∧ ∀ j, j < m → tb x j = false
theorem low_uq {x : Int64} {m k : Nat} (h : Low x m) (h2 : Low x k) : m = k := by
  rcases Nat.lt_trichotomy m k with q | q | q
  · have := h2.2.2 m q; rw [h.2.1] at this; cases this
  · exact q
  · have := h.2.2 k q; rw [h2.2.1] at this; cases this
theorem low_odd {x : Int64} (hx : x ≠ 0) : ∃ m q, Low x m ∧ x = lN (2 ^ m * (2 * q + 1)) ∧ 2 ^ m * (2 * q + 1) < 2 ^ 64 := by
  obtain ⟨X, hX, rfl⟩ := wb_of x
  have : 0 < X := Nat.pos_of_ne_zero (fun z => hx (by rw [z]; rfl))
  obtain ⟨m, q, rfl⟩ := odd_part X this
  have hm : m < 64 := by
    rcases Nat.lt_or_ge m 64 with z | z
    · exact z
    · have h1 : 2 ^ 64 ≤ 2 ^ m := Nat.pow_le_pow_right (by decide) z
      have h2 : 2 ^ m * 1 ≤ 2 ^ m * (2 * q + 1) := Nat.mul_le_mul_left _ (by omega)
      omega
  refine ⟨m, q, ⟨hm, ?_, fun j hj => ?_⟩, rfl, hX⟩
  · rw [tb_lN_lt hX, tb_odd]; simp
  · rw [tb_lN_lt hX, tb_odd]; simp; omega
theorem low_ex {x : Int64} (hx : x ≠ 0) : ∃ m, Low x m := by obtain ⟨m, q, h, -⟩ := low_odd hx; exact ⟨m, h⟩
theorem low_ne {x : Int64} {m : Nat} (h : Low x m) : x ≠ 0 := by
  rintro rfl
  have := h.2.1
  rw [tb_0] at this; cases this
theorem low_clear {x : Int64} {m : Nat} (h : Low x m) (j : Nat) : tb (x &&& (x - 1)) j = (tb x j && !decide (j = m)) := by
  obtain ⟨k, q, h1, rfl, hX⟩ := low_odd (low_ne h)
  obtain rfl := low_uq h h1
  have hp : 0 < 2 ^ m * (2 * q + 1) := Nat.mul_pos (Nat.two_pow_pos m) (by omega)
  rw [show (1 : Int64) = lN 1 from rfl, lN_sub hp, tb_and, tb_lN_lt hX, tb_lN_lt (by omega), tb_odd, tb_odd1]
  by_cases a : j = m
  · subst a; simp
  · by_cases b : m < j
    · simp [a, b, Nat.le_of_lt b]
      exact fun z => .inr z
    · have : j < m := by omega
      simp [a, b, this]
theorem low_iso {x : Int64} {m : Nat} (h : Low x m) : x &&& (-x) = b1 m := by
  obtain ⟨k, q, h1, rfl, hX⟩ := low_odd (low_ne h)
  obtain rfl := low_uq h h1
  have hm := h.1
  have hp : 0 < 2 ^ m * (2 * q + 1) := Nat.mul_pos (Nat.two_pow_pos m) (by omega)
  have e64 : 2 ^ 64 = 2 ^ m * (2 * 2 ^ (63 - m)) := by
    rw [← Nat.pow_succ', ← Nat.pow_add]; congr 1; omega
  have hq : q < 2 ^ (63 - m) := by
    rw [e64] at hX
    have := Nat.lt_of_mul_lt_mul_left hX
    omega
  have eneg : -(lN (2 ^ m * (2 * q + 1))) = lN (2 ^ m * (2 * (2 ^ (63 - m) - (q + 1)) + 1)) := by
    have e1 : 2 ^ m * (2 * (2 ^ (63 - m) - (q + 1)) + 1) = 2 ^ 64 - 2 ^ m * (2 * q + 1) := by
      rw [e64, ← Nat.mul_sub]; congr 1; omega
    rw [e1]
    apply wb_inj
    rw [Int64.toBitVec_neg, wb_tb, wb_tb]
    apply BitVec.eq_of_toNat_eq
    rw [BitVec.toNat_neg, BitVec.toNat_ofNat, BitVec.toNat_ofNat, Nat.mod_eq_of_lt hX]
  have hY : 2 ^ m * (2 * (2 ^ (63 - m) - (q + 1)) + 1) < 2 ^ 64 := by
    rw [e64]; exact Nat.mul_lt_mul_of_pos_left (by omega) (Nat.two_pow_pos m)
  rw [eneg]
  apply tb_ext
  intro j hj
  rw [tb_and, tb_lN_lt hX, tb_lN_lt hY, tb_odd, tb_odd, tb_b1, Nat.testBit_two_pow_sub_succ hq]
  by_cases a : j = m
  · subst a; simp [hj]
  · simp [a]
    intro _ h2 _ h3
    exact h2
theorem bb_b1 {m : Nat} (hm : m < 64) : b1 m - 1 = bb m := by
  unfold b1 bb
  rw [if_pos hm, if_pos hm, show (1 : Int64) = lN 1 from rfl, lN_sub (Nat.two_pow_pos m)]
theorem ct_bb {m : Nat} (hm : m ≤ 64) : fb_ct (tb (bb m)) 64 = m := by
  have h1 : fb_ct (tb (bb m)) (m + (64 - m)) = fb_ct (tb (bb m)) m + fb_ct (fun k => tb (bb m) (m + k)) (64 - m) := fb_ct_split _ _ _
  rw [show m + (64 - m) = 64 by omega] at h1
  rw [h1, fb_ct_all.mpr, fb_ct_zero.mpr]
  · omega
  · intro k hk; rw [tb_bb]; simp
  · intro k hk; rw [tb_bb]; simp [hk]; omega
theorem s_X0_lowest {x : Int64} {m : Nat} (h : Low x m) (w : tq_H) : f_X0_lowest x w = some (nI m) := by
  unfold f_X0_lowest
  rw [if_neg (fun z => low_ne h ((lg_cmp_0 _ _).mp z)), low_iso h, bb_b1 h.1, s_J13_bitCount, ct_bb (Nat.le_of_lt h.1)]
  rfl
theorem s_X0_lowest_0 (w : tq_H) : f_X0_lowest 0 w = some (-1) := by
  unfold f_X0_lowest
  rw [if_pos ((lg_cmp_0 _ _).mpr rfl)]
  rfl
/-- the set without its first k members -/
def Rest (x : Int64) (k : Nat) (y : Int64) : Prop := ∀ j, j < 64 → tb y j = (tb x j && decide (k ≤ fb_ct (tb x) j))
theorem rest_0 (x : Int64) : Rest x 0 x := fun j _ => by simp
theorem rest_low {x y : Int64} {k m : Nat} (hR : Rest x k y) (hm : m < 64) (h1 : tb x m = true) (h2 : fb_ct (tb x) m = k) : Low y m := by
  refine ⟨hm, ?_, fun j hj => ?_⟩
  · rw [hR m hm, h1, h2]; simp
  · rw [hR j (by omega)]
    cases e : tb x j with
    | false => rfl
    | true =>
      have := fb_ct_mono (tb x) (show j + 1 ≤ m by omega)
      rw [fb_ct_succ, e] at this
      simp at this ⊢
      omega
theorem rest_succ {x y : Int64} {k m : Nat} (hR : Rest x k y) (hm : m < 64) (h1 : tb x m = true) (h2 : fb_ct (tb x) m = k) : Rest x (k + 1) (y &&& (y - 1)) := by
  intro j hj
  rw [low_clear (rest_low hR hm h1 h2), hR j hj]
  cases e : tb x j with
  | false => rfl
  | true =>
    by_cases q : j = m
    · subst q; simp; omega
    · simp [q]
      have : fb_ct (tb x) j ≠ k := fun z => q (fb_ct_kth_one e h1 (by omega))
      omega
theorem rest_all {x y : Int64} (hR : Rest x (fb_ct (tb x) 64) y) : y = 0 := by
  rw [tb_zero]
  intro j hj
  rw [hR j hj]
  cases e : tb x j with
  | false => rfl
  | true =>
    have := fb_ct_mono (tb x) (show j + 1 ≤ 64 by omega)
    rw [fb_ct_succ, e] at this
    simp at this ⊢
    omega
theorem rest_ex (x : Int64) (k : Nat) : ∃ y, Rest x k y := by
  induction k with
  | zero => exact ⟨x, rest_0 x⟩
  | succ k ih =>
    obtain ⟨y, hy⟩ := ih
    by_cases q : k < fb_ct (tb x) 64
    · obtain ⟨m, a, b, e⟩ := fb_ct_kth q
      exact ⟨_, rest_succ hy a b e⟩
    · refine ⟨0, fun j hj => ?_⟩
      rw [tb_0]
      cases e : tb x j with
      | false => rfl
      | true =>
        have := fb_ct_mono (tb x) (show j + 1 ≤ 64 by omega)
        rw [fb_ct_succ, e] at this
        simp at this ⊢
        omega
theorem rest_uq {x y z : Int64} {k : Nat} (h : Rest x k y) (h2 : Rest x k z) : y = z := tb_ext fun j hj => by rw [h j hj, h2 j hj]
theorem s_X0_memberAt {x : Int64} {k m : Nat} (hm : m < 64) (h1 : tb x m = true) (h2 : fb_ct (tb x) m = k) (w : tq_H) : f_X0_memberAt x (nI k) w = some (nI m) := by
  have hk : k < fb_ct (tb x) 64 := by
    have := fb_ct_mono (tb x) (show m + 1 ≤ 64 by omega)
    rw [fb_ct_succ, h1] at this
    simp at this
    omega
  have h64 := fb_ct_le (tb x) 64
  unfold f_X0_memberAt
  rw [if_neg (nI_pos (by omega)), s_J13_bitCount, Option.bind_some, if_pos (nI_lt hk (by omega))]
  let st : Nat → Int64 × Int32 := fun i => (Classical.choose (rest_ex x i), nI i)
  have hst : ∀ i, Rest x i (st i).1 := fun i => Classical.choose_spec (rest_ex x i)
  have e0 : st 0 = (x, 0) := by
    show (_, nI 0) = _
    rw [rest_uq (Classical.choose_spec (rest_ex x 0)) (rest_0 x), nI_0]
  have := tc_iter (B := f_X0_memberAt_b19 (nI k) w) k st (e := (st k).1) (fun i hi => ?_) ?_ (by unfold tq_N; omega)
  · rw [← e0, this, Option.bind_some, s_X0_lowest (rest_low (hst k) hm h1 h2)]
    rfl
  · show (if nI i ≥ nI k then _ else _) = _
    rw [if_neg (nI_ge hi (by omega))]
    obtain ⟨j, a, b, e⟩ := fb_ct_kth (show i < fb_ct (tb x) 64 by omega)
    show some (Sum.inl ((st i).1 &&& ((st i).1 - 1), nI i + 1)) = some (Sum.inl ((st (i + 1)).1, nI (i + 1)))
    congr 2
    show ((st i).1 &&& ((st i).1 - 1), nI i + 1) = ((st (i + 1)).1, nI (i + 1))
    rw [rest_uq (hst (i + 1)) (rest_succ (hst i) a b e), nI_1]
  · show (if nI k ≥ nI k then _ else _) = _
    rw [if_pos (Int32.le_refl _)]
theorem s_X0_memberAt_n {x : Int64} {p : Int32} (hp : p < 0 ∨ fb_ct (tb x) 64 ≤ p.toNatClampNeg) (w : tq_H) : f_X0_memberAt x p w = some (-1) := by
  unfold f_X0_memberAt
  by_cases a : p < 0
  · rw [if_pos a]
  · rw [if_neg a, s_J13_bitCount, Option.bind_some]
    obtain ⟨j, hj, rfl⟩ := nI_of a
    rw [if_neg]
    apply nI_nlt _ hj
    rcases hp with z | z
    · exact absurd z a
    · rw [nI_clamp hj] at z; exact z
