/-! ===== sets of numbers as bits of a long ===== -/
def tb (x : Int64) (j : Nat) : Bool := x.toBitVec.getLsbD j
theorem tb_ext {x y : Int64} (h : ∀ j, j < 64 → tb x j = tb y j) : x = y := Int64.toBitVec_inj.mp (BitVec.eq_of_getLsbD_eq (fun i hi => h i hi))
theorem tb_or (x y : Int64) (j : Nat) : tb (x ||| y) j = (tb x j || tb y j) := by unfold tb; rw [Int64.toBitVec_or, BitVec.getLsbD_or]
theorem tb_and (x y : Int64) (j : Nat) : tb (x &&& y) j = (tb x j && tb y j) := by unfold tb; rw [Int64.toBitVec_and, BitVec.getLsbD_and]
theorem tb_xor (x y : Int64) (j : Nat) : tb (x ^^^ y) j = (tb x j ^^ tb y j) := by unfold tb; rw [Int64.toBitVec_xor, BitVec.getLsbD_xor]
theorem tb_big {x : Int64} {j : Nat} (h : 64 ≤ j) : tb x j = false := BitVec.getLsbD_of_ge _ _ h
theorem tb_0 (j : Nat) : tb 0 j = false := BitVec.getLsbD_zero
theorem tb_m1 (j : Nat) : tb (-1) j = decide (j < 64) := by
  unfold tb
  rw [show (-1 : Int64).toBitVec = BitVec.allOnes 64 from by decide +kernel, BitVec.getLsbD_allOnes]
theorem tb_lN (n j : Nat) : tb (lN n) j = (decide (j < 64) && n.testBit j) := by
  unfold tb
  rw [wb_tb, BitVec.getLsbD_ofNat]
theorem tb_lN_lt {n : Nat} (h : n < 2 ^ 64) (j : Nat) : tb (lN n) j = n.testBit j := by
  rw [tb_lN]
  by_cases q : j < 64
  · simp [q]
  · have : n.testBit j = false := Nat.testBit_lt_two_pow (Nat.lt_of_lt_of_le h (Nat.pow_le_pow_right (by decide) (by omega)))
    simp [this]
theorem tb_not (x : Int64) (j : Nat) : tb (x ^^^ (-1)) j = (decide (j < 64) && !tb x j) := by
  rw [tb_xor, tb_m1]
  by_cases q : j < 64
  · simp [q]
  · rw [tb_big (x := x) (by omega)]; simp [q]
theorem tb_zero {x : Int64} : x = 0 ↔ ∀ j, j < 64 → tb x j = false := by
  constructor
  · rintro rfl j _; exact tb_0 j
  · intro h; exact tb_ext fun j hj => by rw [h j hj, tb_0]
/-- the one-bit set of a member -/
def b1 (m : Nat) : Int64 := if m < 64 then lN (2 ^ m) else 0
theorem tb_b1 (m j : Nat) : tb (b1 m) j = (decide (j < 64) && decide (j = m)) := by
  unfold b1
  split
  · rename_i h
    rw [tb_lN, Nat.testBit_two_pow]
    by_cases q : j = m
    · simp [q]
    · simp [q, Ne.symm q]
  · rw [tb_0]
    by_cases q : j = m
    · subst q; simp; omega
    · simp [q]
theorem b1_sh {m : Nat} (hm : m < 64) : (1 : Int64) <<< ((nI m).toInt64 &&& 63) = b1 m := by
  have := wb_shl 1 hm
  rw [Nat.one_mul] at this
  unfold b1
  rw [if_pos hm, ← this]
  rfl
/-- the set of all below an end -/
def bb (e : Nat) : Int64 := if e < 64 then lN (2 ^ e - 1) else -1
theorem tb_bb (e j : Nat) : tb (bb e) j = (decide (j < 64) && decide (j < e)) := by
  unfold bb
  split
  · rename_i h
    rw [tb_lN, Nat.testBit_two_pow_sub_one]
  · rw [tb_m1]
    by_cases q : j < 64
    · simp [q]; omega
    · simp [q]
theorem nI_gt0 {m : Nat} (h : m < 2 ^ 31) : (nI m > 0) ↔ 0 < m := by
  rw [show (0 : Int32) = nI 0 from rfl]
  exact nI_ltI (by decide) h
theorem s_X0_one {m : Nat} (hm : m < 2 ^ 31) (h : tq_H) : f_X0_one (nI m) h = some (b1 m) := by
  unfold f_X0_one tq_let
  rw [if_neg (nI_pos hm)]
  by_cases q : m < 64
  · rw [if_neg (show ¬ nI m ≥ 64 from nI_ge q (by decide)), b1_sh q]
  · rw [if_pos (show nI m ≥ 64 from nI_le (Nat.not_lt.mp q) hm)]
    unfold b1
    rw [if_neg q]
theorem s_X0_one_n (h : tq_H) : f_X0_one (-1) h = some 0 := by
  unfold f_X0_one tq_let
  rw [if_pos (by decide)]
theorem s_X0_below {m : Nat} (hm : m < 2 ^ 31) (h : tq_H) : f_X0_below (nI m) h = some (bb m) := by
  unfold f_X0_below tq_let
  by_cases z : 0 < m
  · rw [if_pos ((nI_gt0 hm).mpr z)]
    by_cases q : m < 64
    · rw [if_pos (show nI m < 64 from nI_lt q (by decide)), b1_sh q]
      unfold bb b1
      rw [if_pos q, if_pos q]
      congr 1
      rw [show (1 : Int64) = lN 1 from rfl, lN_sub (Nat.two_pow_pos m)]
    · rw [if_neg (show ¬ nI m < 64 from nI_nlt (Nat.not_lt.mp q) hm)]
      unfold bb
      rw [if_neg q]
  · rw [if_neg (fun w => z ((nI_gt0 hm).mp w))]
    have : m = 0 := by omega
    subst this
    rfl
theorem lg_cmp_0 (x y : Int64) : (lg_cmp x y = 0) ↔ x = y := by
  unfold lg_cmp
  constructor
  · intro h
    by_cases a : x > y
    · rw [if_pos a] at h; exact absurd h (by decide)
    · rw [if_neg a] at h
      by_cases b : x = y
      · exact b
      · rw [if_neg b] at h; exact absurd h (by decide)
  · rintro rfl
    simp [Int64.lt_irrefl]
theorem tb_sh (x : Int64) {m : Nat} (hm : m < 64) : ((x.toUInt64 >>> ((nI m).toInt64.toUInt64 &&& Int64.toUInt64 63)).toInt64 &&& 1 = 0) ↔ tb x m = false := by
  rw [wb_cu m hm]
  unfold tb
  exact ts_bit hm (by show (BitVec.ofNat 64 m).toNat = m; rw [BitVec.toNat_ofNat, Nat.mod_eq_of_lt (by omega)])
def bI (b : Bool) : Int32 := if b then 1 else 0
theorem s_X0_holds (x : Int64) {m : Nat} (hm : m < 2 ^ 31) (h : tq_H) : f_X0_holds x (nI m) h = some (bI (tb x m)) := by
  unfold f_X0_holds tq_let
  rw [if_neg (nI_pos hm)]
  by_cases q : m < 64
  · rw [if_neg (show ¬ nI m ≥ 64 from nI_ge q (by decide))]
    by_cases e : tb x m = false
    · rw [if_pos ((lg_cmp_0 _ _).mpr ((tb_sh x q).mpr e)), e]; rfl
    · rw [if_neg (fun w => e ((tb_sh x q).mp ((lg_cmp_0 _ _).mp w)))]
      rw [Bool.not_eq_false _ |>.mp e]; rfl
  · rw [if_pos (show nI m ≥ 64 from nI_le (Nat.not_lt.mp q) hm), tb_big (Nat.not_lt.mp q)]; rfl
theorem s_X0_holds_n (x : Int64) (h : tq_H) : f_X0_holds x (-1) h = some 0 := by
  unfold f_X0_holds tq_let
  rw [if_pos (by decide)]
  rfl
