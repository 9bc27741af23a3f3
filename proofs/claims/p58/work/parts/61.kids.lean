/-! ===== the reference's children ===== -/
theorem ct_img {p : Nat → Bool} {o : Nat → Nat} {m n : Nat} (hlt : ∀ i, i < n → o i < m) (hinj : ∀ i j, i < n → j < n → o i = o j → i = j) (hin : ∀ v, v < m → p v = true → ∃ i, i < n ∧ o i = v) : fb_ct p m = fb_ct (fun i => p (o i)) n := by
  have key : ∀ k, k ≤ n → fb_ct (fun v => p v && anyB (fun i => decide (o i = v)) k) m = fb_ct (fun i => p (o i)) k := by
    intro k
    induction k with
    | zero => intro _; exact fb_ct_zero.mpr (fun v _ => by simp [anyB])
    | succ k ih =>
      intro hk
      have e : fb_ct (fun v => p v && anyB (fun i => decide (o i = v)) (k + 1)) m = fb_ct (fun v => if v = o k then p (o k) else (p v && anyB (fun i => decide (o i = v)) k)) m := fb_ct_cong fun v _ => by
        rw [anyB]
        by_cases q : v = o k
        · subst q; simp
        · simp [q, Ne.symm q]
      have u := fb_ct_upd (fun v => p v && anyB (fun i => decide (o i = v)) k) (p (o k)) (hlt k (by omega))
      have f : (p (o k) && anyB (fun i => decide (o i = o k)) k) = false := by
        cases hq : anyB (fun i => decide (o i = o k)) k with
        | false => simp
        | true =>
          obtain ⟨i, h1, h2⟩ := anyB_iff.mp hq
          have := hinj i k (by omega) (by omega) (of_decide_eq_true h2)
          omega
      rw [e, fb_ct_succ, ← ih (by omega)]
      simp only [f] at u
      simpa using u
  rw [← key n (Nat.le_refl _)]
  refine fb_ct_cong fun v hv => ?_
  cases hp : p v with
  | false => rfl
  | true =>
    obtain ⟨i, h1, h2⟩ := hin v hv hp
    have : anyB (fun i => decide (o i = v)) n = true := anyB_iff.mpr ⟨i, h1, by simp [h2]⟩
    simp [this]
theorem ct_cut {p : Nat → Bool} {n : Nat} (k : Nat) (h : ∀ j, n ≤ j → p j = false) (hk : n ≤ k) : fb_ct p k = fb_ct p n := by
  obtain ⟨d, rfl⟩ : ∃ d, k = n + d := ⟨k - n, by omega⟩
  have z : fb_ct (fun k => p (n + k)) d = 0 := fb_ct_zero.mpr (fun j _ => h _ (by omega))
  rw [fb_ct_split, z, Nat.add_zero]
/-- the last one below an end; -1 for none -/
def lastN (p : Nat → Bool) : Nat → Int32
  | 0 => -1
  | k + 1 => if p k = true then nI k else lastN p k
theorem lastN_no {p : Nat → Bool} : ∀ {n : Nat}, (∀ k, k < n → p k = false) → lastN p n = -1
  | 0, _ => rfl
  | n + 1, h => by rw [lastN, h n (by omega)]; simp; exact lastN_no (fun k hk => h k (by omega))
theorem lastN_one {p : Nat → Bool} {v : Nat} (hv : p v = true) : ∀ {n : Nat}, v < n → (∀ k, k < n → p k = true → k = v) → lastN p n = nI v
  | 0, h, _ => by omega
  | n + 1, h, hu => by
    rw [lastN]
    by_cases e : p n = true
    · rw [if_pos e, hu n (by omega) e]
    · rw [if_neg e]
      have : v ≠ n := fun w => e (by rw [← w]; exact hv)
      exact lastN_one hv (by omega) (fun k hk => hu k (by omega))
section KID
variable {S : tq_H} {c : tc_C} {m i j z : Nat} {D : Doc} {v : Int32}
/-- what is a child of a node, by the reference's rows -/
def isKid (c : tc_C) (x : Int32) (k : Nat) : Bool := decide (c.1 163 k ≠ 0 ∧ c.1 160 k = x ∧ c.1 156 k ≠ 2)
def isAtt (c : tc_C) (x : Int32) (k : Nat) : Bool := decide (c.1 163 k ≠ 0 ∧ c.1 160 k = x ∧ c.1 156 k = 2)
theorem s_childCount' (hM : tc_Mod S z) (hm : m ≤ 60) (h1 : c.2.2.1 155 1 = nI m) (x : Int32) : f_X11_childCount 155 x (tc_mk S c) = some (nI (fb_ct (isKid c x) m)) := by
  simp (maxSteps := 3000000) (disch := omega) only [Option.bind_some, tc_bs, tq_let, tc_I1, tc_I2, tc_J1, tc_J2, tc_J3, tc_F1, tc_F2, tc_F3, tc_F4, tc_G1, tc_G2, tc_G3, tc_G4, tc_G5, tc_us, tc_un, s_one, s_holds, s_J13_bitCount, bz_bI, f_X11_childCount]
  have W := tc_iter (B := f_X11_childCount_b4 155 x (tc_mk S c)) m (fun k => (nI (fb_ct (isKid c x) k), nI k)) (e := nI (fb_ct (isKid c x) m)) (fun k hk => ?_) ?_ (by unfold tq_N; omega)
  · exact W
  · show Option.bind (tq_gi (tc_mk S c) 155 11 1) _ = _
    simp (maxSteps := 3000000) (disch := omega) only [Option.bind_some, tc_bs, tq_let, tc_I1, tc_I2, tc_J1, tc_J2, tc_J3, tc_F1, tc_F2, tc_F3, tc_F4, tc_G1, tc_G2, tc_G3, tc_G4, tc_G5, tc_us, tc_un, s_one, s_holds, s_J13_bitCount, bz_bI, hM.f, h1, nI_1]
    rw [if_neg (show ¬ nI k ≥ nI m from nI_ge hk (by omega))]
    have hc := fb_ct_le (isKid c x) k
    rw [fb_ct_succ]
    by_cases a : c.1 163 k = 0
    · have : isKid c x k = false := by simp [isKid, a]
      rw [if_pos a, this, Option.bind_some]; simp
    · rw [if_neg a]
      by_cases b : c.1 160 k = x
      · rw [if_pos b]
        by_cases d : c.1 156 k = 2
        · have : isKid c x k = false := by simp [isKid, d]
          rw [if_pos d, this, Option.bind_some]; simp
        · have : isKid c x k = true := by simp [isKid, a, b, d]
          rw [if_neg d, this, Option.bind_some, nI_1]; simp
      · have : isKid c x k = false := by simp [isKid, b]
        rw [if_neg b, this, Option.bind_some]; simp
  · show Option.bind (tq_gi (tc_mk S c) 155 11 1) _ = _
    simp (maxSteps := 3000000) (disch := omega) only [Option.bind_some, tc_bs, tq_let, tc_I1, tc_I2, tc_J1, tc_J2, tc_J3, tc_F1, tc_F2, tc_F3, tc_F4, tc_G1, tc_G2, tc_G3, tc_G4, tc_G5, tc_us, tc_un, s_one, s_holds, s_J13_bitCount, bz_bI, hM.f, h1]
    rw [if_pos (Int32.le_refl _)]
theorem s_childAt' (hM : tc_Mod S z) (hm : m ≤ 60) (h1 : c.2.2.1 155 1 = nI m) (x y : Int32) : f_X11_childAt 155 x y (tc_mk S c) = some (lastN (fun k => isKid c x k && decide (c.1 161 k = y)) m) := by
  simp (maxSteps := 3000000) (disch := omega) only [Option.bind_some, tc_bs, tq_let, tc_I1, tc_I2, tc_J1, tc_J2, tc_J3, tc_F1, tc_F2, tc_F3, tc_F4, tc_G1, tc_G2, tc_G3, tc_G4, tc_G5, tc_us, tc_un, s_one, s_holds, s_J13_bitCount, bz_bI, f_X11_childAt]
  have W := tc_iter (B := f_X11_childAt_b5 155 x y (tc_mk S c)) m (fun k => (lastN (fun k => isKid c x k && decide (c.1 161 k = y)) k, nI k)) (e := lastN (fun k => isKid c x k && decide (c.1 161 k = y)) m) (fun k hk => ?_) ?_ (by unfold tq_N; omega)
  · exact W
  · show Option.bind (tq_gi (tc_mk S c) 155 11 1) _ = _
    simp (maxSteps := 3000000) (disch := omega) only [Option.bind_some, tc_bs, tq_let, tc_I1, tc_I2, tc_J1, tc_J2, tc_J3, tc_F1, tc_F2, tc_F3, tc_F4, tc_G1, tc_G2, tc_G3, tc_G4, tc_G5, tc_us, tc_un, s_one, s_holds, s_J13_bitCount, bz_bI, hM.f, h1, nI_1]
    rw [if_neg (show ¬ nI k ≥ nI m from nI_ge hk (by omega)), lastN]
    by_cases a : c.1 163 k = 0
    · simp [isKid, a]
    · by_cases b : c.1 160 k = x
      · by_cases d : c.1 156 k = 2
        · simp [isKid, a, b, d]
        · by_cases e : c.1 161 k = y
          · simp [isKid, a, b, d, e]
          · simp [isKid, a, b, d, e]
      · simp [isKid, a, b]
  · show Option.bind (tq_gi (tc_mk S c) 155 11 1) _ = _
    simp (maxSteps := 3000000) (disch := omega) only [Option.bind_some, tc_bs, tq_let, tc_I1, tc_I2, tc_J1, tc_J2, tc_J3, tc_F1, tc_F2, tc_F3, tc_F4, tc_G1, tc_G2, tc_G3, tc_G4, tc_G5, tc_us, tc_un, s_one, s_holds, s_J13_bitCount, bz_bI, hM.f, h1]
    rw [if_pos (Int32.le_refl _)]
theorem s_attributeOf' (hM : tc_Mod S z) (hm : m ≤ 60) (h1 : c.2.2.1 155 1 = nI m) (x y : Int32) : f_X11_attributeOf 155 x y (tc_mk S c) = some (lastN (fun k => isAtt c x k && decide (c.1 157 k = y)) m) := by
  simp (maxSteps := 3000000) (disch := omega) only [Option.bind_some, tc_bs, tq_let, tc_I1, tc_I2, tc_J1, tc_J2, tc_J3, tc_F1, tc_F2, tc_F3, tc_F4, tc_G1, tc_G2, tc_G3, tc_G4, tc_G5, tc_us, tc_un, s_one, s_holds, s_J13_bitCount, bz_bI, f_X11_attributeOf]
  have W := tc_iter (B := f_X11_attributeOf_b5 155 x y (tc_mk S c)) m (fun k => (lastN (fun k => isAtt c x k && decide (c.1 157 k = y)) k, nI k)) (e := lastN (fun k => isAtt c x k && decide (c.1 157 k = y)) m) (fun k hk => ?_) ?_ (by unfold tq_N; omega)
  · exact W
  · show Option.bind (tq_gi (tc_mk S c) 155 11 1) _ = _
    simp (maxSteps := 3000000) (disch := omega) only [Option.bind_some, tc_bs, tq_let, tc_I1, tc_I2, tc_J1, tc_J2, tc_J3, tc_F1, tc_F2, tc_F3, tc_F4, tc_G1, tc_G2, tc_G3, tc_G4, tc_G5, tc_us, tc_un, s_one, s_holds, s_J13_bitCount, bz_bI, hM.f, h1, nI_1]
    rw [if_neg (show ¬ nI k ≥ nI m from nI_ge hk (by omega)), lastN]
    by_cases a : c.1 163 k = 0
    · simp [isAtt, a]
    · by_cases b : c.1 160 k = x
      · by_cases d : c.1 156 k = 2
        · by_cases e : c.1 157 k = y
          · simp [isAtt, a, b, d, e]
          · simp [isAtt, a, b, d, e]
        · simp [isAtt, a, b, d]
      · simp [isAtt, a, b]
  · show Option.bind (tq_gi (tc_mk S c) 155 11 1) _ = _
    simp (maxSteps := 3000000) (disch := omega) only [Option.bind_some, tc_bs, tq_let, tc_I1, tc_I2, tc_J1, tc_J2, tc_J3, tc_F1, tc_F2, tc_F3, tc_F4, tc_G1, tc_G2, tc_G3, tc_G4, tc_G5, tc_us, tc_un, s_one, s_holds, s_J13_bitCount, bz_bI, hM.f, h1]
    rw [if_pos (Int32.le_refl _)]
end KID
