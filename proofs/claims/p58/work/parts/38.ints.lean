/-! ===== rows of small sets (ints) ===== -/
theorem bt_0 (i : Nat) : bt 0 i = false := BitVec.getLsbD_zero
theorem bt_nI {n : Nat} (h : n < 2 ^ 32) (j : Nat) : bt (nI n) j = n.testBit j := by
  unfold bt
  rw [show (nI n).toBitVec = BitVec.ofNat 32 n from rfl, BitVec.getLsbD_ofNat]
  by_cases q : j < 32
  · simp [q]
  · have : n.testBit j = false := Nat.testBit_lt_two_pow (Nat.lt_of_lt_of_le h (Nat.pow_le_pow_right (by decide) (by omega)))
    simp [this]
theorem bt_and1 (x : Int32) : (x &&& 1 = 0) ↔ bt x 0 = false := by
  constructor
  · intro h
    have := congrArg (fun z => bt z 0) h
    simpa [b_and, bt_0, show bt 1 0 = true from by decide] using this
  · intro h
    apply b_ext
    intro i hi
    rw [b_and, bt_0]
    by_cases z : i = 0
    · subst z; rw [h]; rfl
    · rw [show (1 : Int32) = nI 1 from rfl, bt_nI (by decide)]
      have : Nat.testBit 1 i = false := by
        obtain ⟨k, rfl⟩ : ∃ k, i = k + 1 := ⟨i - 1, by omega⟩
        rw [Nat.testBit_succ]; simp
      rw [this, Bool.and_false]
theorem bt_sh (x : Int32) {m : Nat} (hm : m < 32) : ((x >>> (nI m &&& 31)) &&& 1 = 0) ↔ bt x m = false := by
  rw [bt_and1, b_sshr m hm x (by decide), if_pos (by omega)]
  rfl
/-- what stands at a place of a row; outside 0 -/
def rz (n : Nat) (f : Nat → Int32) (i : Int32) : Int32 := if i < 0 ∨ n ≤ i.toNatClampNeg then 0 else f i.toNatClampNeg
theorem rz_in {n k : Nat} (f : Nat → Int32) (hk : k < n) (hn : n < 2 ^ 31) : rz n f (nI k) = f k := by
  unfold rz
  rw [if_neg (nI_in hk hn), nI_clamp (Nat.lt_trans hk hn)]
def orI (g : Nat → Int32) (x : Int32) : Nat → Int32
  | 0 => 0
  | m + 1 => if bt x m then orI g x m ||| g m else orI g x m
theorem b_orI (g : Nat → Int32) (x : Int32) (j : Nat) : ∀ n, bt (orI g x n) j = true ↔ ∃ m, m < n ∧ bt x m = true ∧ bt (g m) j = true
  | 0 => by simp [orI, bt_0]
  | n + 1 => by
    unfold orI
    constructor
    · intro h
      by_cases e : bt x n = true
      · rw [if_pos e, b_or, Bool.or_eq_true] at h
        rcases h with h | h
        · obtain ⟨m, a, b⟩ := (b_orI g x j n).mp h
          exact ⟨m, by omega, b⟩
        · exact ⟨n, by omega, e, h⟩
      · rw [if_neg e] at h
        obtain ⟨m, a, b⟩ := (b_orI g x j n).mp h
        exact ⟨m, by omega, b⟩
    · rintro ⟨m, a, b, d⟩
      by_cases z : m = n
      · subst z
        rw [if_pos b, b_or, d, Bool.or_true]
      · have := (b_orI g x j n).mpr ⟨m, by omega, b, d⟩
        split
        · rw [b_or, this, Bool.true_or]
        · exact this
/-- what the members lead to in one step or more -/
def clI (g : Nat → Int32) (x : Int32) : Nat → Int32
  | 0 => orI g x 8
  | k + 1 => clI g x k ||| orI g (clI g x k) 8
section TC5
variable {S : tq_H} {c : tc_C} {q a n : Nat}
theorem s_X5_union (h : tc_Row S q a n) {s : Nat} (hs : s < 2 ^ 30) (x : Int32) : f_X5_union q (nI s) x (tc_mk S c) = some (orI (fun m => rz n (c.1 a) (nI (s + m))) x 8) := by
  obtain ⟨h1, h2, g, h3⟩ := h
  have e1 : tq_gr (tc_mk S c) q 5 0 = some a := tc_gr h1 rfl
  have e2 : tq_an (tc_mk S c) a = some (Int32.ofNat n) := tc_an h3 (by decide)
  unfold f_X5_union
  let gg := fun m => rz n (c.1 a) (nI (s + m))
  have := tc_iter (B := f_X5_union_b5 q (nI s) x (tc_mk S c)) 8 (fun i => (orI gg x i, nI i)) (e := orI gg x 8) (fun i hi => ?_) ?_ (by unfold tq_N; omega)
  · rw [nI_0] at this
    rw [show ((0 : Int32), (0 : Int32)) = (orI gg x 0, 0) from rfl, this]
    rfl
  · show (if nI i ≥ 8 then _ else _) = _
    rw [if_neg (show ¬ nI i ≥ 8 from nI_ge hi (by decide))]
    simp only [tq_let, nI_add, nI_1]
    have hp : ¬ nI (s + i) < 0 := nI_pos (by omega)
    have hcl : (nI (s + i)).toNatClampNeg = s + i := nI_clamp (by omega)
    by_cases b : bt x i = true
    · rw [if_neg (fun z => by have := (bt_sh x (show i < 32 by omega)).mp z; rw [b] at this; cases this), if_neg hp, e1, Option.bind_some, e2, Option.bind_some]
      rw [orI, if_pos b]
      by_cases z : n ≤ s + i
      · have z2 : nI (s + i) ≥ Int32.ofNat n := (tc_ge hp h2).mpr (by rw [hcl]; exact z)
        have z3 : gg i = 0 := by show rz _ _ _ = _; unfold rz; rw [if_pos (Or.inr (by rw [hcl]; exact z))]
        rw [if_pos z2, Option.bind_some, z3]
        congr 3
        apply b_ext; intro j _; rw [b_or, bt_0, Bool.or_false]
      · have z2 : ¬ nI (s + i) ≥ Int32.ofNat n := fun w => z (by have := (tc_ge hp h2).mp w; rw [hcl] at this; exact this)
        have z3 : gg i = c.1 a (s + i) := by show rz _ _ _ = _; unfold rz; rw [if_neg (by rw [hcl]; rintro (w | w); exact hp w; exact z w), hcl]
        rw [if_neg z2, Option.bind_some, tc_ai h3, hcl, if_neg (by rintro (w | w); exact hp w; exact z w), Option.bind_some, Option.bind_some, z3]
    · have b2 : bt x i = false := by cases e : bt x i; rfl; exact absurd e b
      rw [if_pos ((bt_sh x (show i < 32 by omega)).mpr b2), Option.bind_some, orI, b2]
      rfl
  · rfl
theorem s_X5_closure (h : tc_Row S q a n) {s : Nat} (hs : s < 2 ^ 30) (x : Int32) : f_X5_closure q (nI s) x (tc_mk S c) = some (clI (fun m => rz n (c.1 a) (nI (s + m))) x 8) := by
  have e0 : tq_is (tc_mk S c) q 5 = some () := tc_is h.1
  unfold f_X5_closure
  rw [e0, Option.bind_some, s_X5_union h hs, Option.bind_some]
  let gg := fun m => rz n (c.1 a) (nI (s + m))
  have := tc_iter (B := f_X5_closure_b10 q (nI s) (tc_mk S c)) 8 (fun i => (clI gg x i, nI i)) (e := clI gg x 8) (fun i hi => ?_) ?_ (by unfold tq_N; omega)
  · rw [nI_0] at this
    rw [show (orI gg x 8, (0 : Int32)) = (clI gg x 0, 0) from rfl, this]
    rfl
  · show (if nI i ≥ 8 then _ else _) = _
    rw [if_neg (show ¬ nI i ≥ 8 from nI_ge hi (by decide)), e0, Option.bind_some, s_X5_union h hs, Option.bind_some]
    simp only [tq_let, nI_1]
    rfl
  · rfl
end TC5
/-- whether a number is as a condition asks -/
def agr (x k y : Int32) : Bool := if k = 0 then decide (x = y) else if k = 1 then decide (x < y) else decide (y < x)
theorem s_X0_agrees (x k y : Int32) (h : tq_H) : f_X0_agrees x k y h = some (bI (agr x k y)) := by
  unfold f_X0_agrees agr tq_let
  by_cases a : k = 0
  · rw [if_pos a, if_pos a]
    by_cases b : x = y <;> simp [b, bI, tq_bz]
  · rw [if_neg a, if_neg a]
    by_cases d : k = 1
    · rw [if_pos d, if_pos d]
      by_cases b : x < y
      · have : ¬ x ≥ y := Int32.not_le.mpr b
        simp [b, bI, tq_bz, this]
      · have : x ≥ y := Int32.not_lt.mp b
        simp [b, bI, tq_bz, this]
    · rw [if_neg d, if_neg d]
      by_cases b : y < x
      · have : ¬ x ≤ y := Int32.not_le.mpr b
        simp [b, bI, tq_bz, this]
      · have : x ≤ y := Int32.not_lt.mp b
        simp [b, bI, tq_bz, this]
