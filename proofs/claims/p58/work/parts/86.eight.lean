/-! ===== types of paths: sets of eight ===== -/
def st8 (R : Nat → Nat → Bool) (A : Nat → Bool) (x : Nat) : Bool := anyB (fun y => A y && R y x) 8
def itF (F : (Nat → Bool) → Nat → Bool) (A : Nat → Bool) : Nat → Nat → Bool
  | 0 => A
  | k + 1 => fun x => itF F A k x || F (itF F A k) x
def clo (F : (Nat → Bool) → Nat → Bool) (A : Nat → Bool) : Nat → Bool := itF F (F A) 8
def Sma.H (Z : Sma) (t x : Nat) : Bool := decide (t < 6) && (if x < 6 then anyB (fun f => decide (Z.ar (24 * t + 6 * f + x) ≠ 0)) 4 else if x = 6 then Z.tx t else if x = 7 then anyB (fun a => decide (Z.ru (8 * t + a) ≠ 0)) 8 else false)
def Sma.al (Z : Sma) : Nat → Bool := itF (st8 Z.H) (fun x => decide (x = 0)) 7
def Sma.Hv (Z : Sma) (x t : Nat) : Bool := Z.al t && (Z.H t x && Z.al x)
def Sma.chd (Z : Sma) (A : Nat → Bool) (x : Nat) : Bool := st8 Z.H A x && decide (x ≠ 7)
def Sma.par (Z : Sma) (A : Nat → Bool) (t : Nat) : Bool := Z.al t && anyB (fun x => A x && Z.H t x) 8
def pwF (F : (Nat → Bool) → Nat → Bool) (A : Nat → Bool) : Nat → Nat → Bool
  | 0 => F A
  | k + 1 => F (pwF F A k)
def Sma.tst (Z : Sma) (t x : Nat) : Bool := if t < 8 then decide (x = 7) || (decide (x < 6) && decide (Z.nm x = nI t)) else if t = 8 then decide (x < 8) else if t = 9 then decide (x = 6) else decide (x < 6)
/-- by an axis, as the reference goes -/
def Sma.cam (Z : Sma) (a : Nat) (F : (Nat → Bool) → Nat → Bool) (A : Nat → Bool) (x : Nat) : Bool :=
  if a = 0 then A x else if a = 1 then Z.chd A x else if a = 2 then Z.par A x else if a = 3 then clo Z.chd A x && Z.al x else if a = 4 then itF Z.chd A 9 x else
  if a = 5 then clo Z.par A x else if a = 6 then itF Z.par A 9 x else if a = 7 ∨ a = 8 then anyB A 8 && (Z.al x && decide (x ≠ 7)) else
  if a = 9 ∨ a = 10 then Z.chd (Z.par A) x else if a = 11 then st8 Z.H A x && decide (x = 7) else anyB (fun k => pwF F A k x) 256
/-- by an axis, as the class goes -/
def Sma.cax (Z : Sma) (a : Nat) (T : Nat → Nat → Bool) (A : Nat → Bool) (x : Nat) : Bool :=
  if a = 0 then A x else if a = 1 then st8 Z.H A x && decide (x ≠ 7) else if a = 2 then st8 Z.Hv A x else if a = 3 then clo (st8 Z.H) A x && decide (x ≠ 7) else if a = 4 then (clo (st8 Z.H) A x && decide (x ≠ 7)) || A x else
  if a = 5 then clo (st8 Z.Hv) A x else if a = 6 then clo (st8 Z.Hv) A x || A x else if a = 7 ∨ a = 8 then anyB A 8 && (Z.al x && decide (x ≠ 7)) else
  if a = 9 ∨ a = 10 then st8 Z.H (st8 Z.Hv A) x && decide (x ≠ 7) else if a = 11 then st8 Z.H A x && decide (x = 7) else clo (st8 T) A x
def Sma.rst (Z : Sma) (P : Pat) (F : Nat → (Nat → Bool) → Nat → Bool) (s : Nat) (A : Nat → Bool) (x : Nat) : Bool := (Z.cam (P.ax s) (F (P.by s)) A x && Z.al x) && Z.tst (P.ts s) x
def Sma.rfo (Z : Sma) (P : Pat) (F : Nat → (Nat → Bool) → Nat → Bool) (p : Nat) (A : Nat → Bool) : Nat → Nat → Bool
  | 0 => A
  | k + 1 => Z.rst P F (5 * p + k) (Z.rfo P F p A k)
def Sma.rfT (Z : Sma) (P : Pat) : Nat → Nat → (Nat → Bool) → Nat → Bool
  | 0 => fun _ _ _ => false
  | p + 1 => fun q A => if q = p then Z.rfo P (Z.rfT P p) p A (P.sc p) else Z.rfT P p q A
def Sma.RF (Z : Sma) (P : Pat) (q : Nat) : (Nat → Bool) → Nat → Bool := Z.rfT P (q + 1) q
def Sma.cst (Z : Sma) (P : Pat) (T : Nat → Nat → Nat → Bool) (s : Nat) (A : Nat → Bool) (x : Nat) : Bool := Z.cax (P.ax s) (T (P.by s)) A x && Z.tst (P.ts s) x
def Sma.cfo (Z : Sma) (P : Pat) (T : Nat → Nat → Nat → Bool) (p : Nat) (A : Nat → Bool) : Nat → Nat → Bool
  | 0 => A
  | k + 1 => Z.cst P T (5 * p + k) (Z.cfo P T p A k)
def Sma.cfT (Z : Sma) (P : Pat) : Nat → Nat → Nat → Nat → Bool
  | 0 => fun _ _ _ => false
  | p + 1 => fun q a => if q = p then Z.cfo P (Z.cfT P p) p (fun x => Z.al x && decide (x = a)) (P.sc p) else Z.cfT P p q a
def Sma.CF (Z : Sma) (P : Pat) (q : Nat) : Nat → Nat → Bool := Z.cfT P (q + 1) q
section INF
variable {Z : Sma} {P : Pat}
theorem bt_t8 (E : Nat → Bool) : ∀ k, k ≤ 8 → ∀ j, bt (tI E k) j = (decide (j < k) && E j)
  | 0, _, j => by simp [tI, bt_0]
  | k + 1, h, j => by
    have ih := bt_t8 E k (by omega) j
    have hp : ∀ k, k < 8 → 2 ^ k < 2 ^ 32 := by decide
    have e1 : bt (nI (2 ^ k)) j = decide (k = j) := by rw [bt_nI (hp k (by omega)), Nat.testBit_two_pow]
    unfold tI
    by_cases q : j = k
    · subst q
      cases hE : E j with
      | true => rw [if_pos rfl, b_or, e1]; simp
      | false => rw [if_neg (by decide), ih]; simp
    · split
      · rw [b_or, ih, e1]; simp [Ne.symm q, show (j < k + 1) ↔ j < k by omega]
      · rw [ih]; simp [show (j < k + 1) ↔ j < k by omega]
theorem t8_of {x : Int32} {E : Nat → Bool} (h : ∀ j, j < 32 → bt x j = (decide (j < 8) && E j)) : x = tI E 8 := b_ext fun j hj => by rw [h j hj, bt_t8 E 8 (Nat.le_refl _)]
theorem t8_cong {E F : Nat → Bool} (h : ∀ j, j < 8 → E j = F j) : tI E 8 = tI F 8 := t8_of fun j _ => by
  rw [bt_t8 E 8 (Nat.le_refl _)]
  by_cases q : j < 8
  · rw [h j q]
  · simp [q]
theorem t8_or (E F : Nat → Bool) : tI E 8 ||| tI F 8 = tI (fun x => E x || F x) 8 := t8_of fun j _ => by
  rw [b_or, bt_t8 E 8 (Nat.le_refl _), bt_t8 F 8 (Nat.le_refl _)]
  cases decide (j < 8) <;> rfl
theorem t8_and (E F : Nat → Bool) : tI E 8 &&& tI F 8 = tI (fun x => E x && F x) 8 := t8_of fun j _ => by
  rw [b_and, bt_t8 E 8 (Nat.le_refl _), bt_t8 F 8 (Nat.le_refl _)]
  cases decide (j < 8) <;> cases E j <;> rfl
theorem t8_z (E : Nat → Bool) : (tI E 8 = 0) ↔ anyB E 8 = false := by
  constructor
  · intro h
    cases q : anyB E 8 with
    | false => rfl
    | true =>
      obtain ⟨j, hj, hh⟩ := anyB_iff.mp q
      have := congrArg (fun x => bt x j) h
      simp only [bt_t8 E 8 (Nat.le_refl _), bt_0, hh] at this
      simp [hj] at this
  · intro h
    refine tI_none 8 (fun t ht => ?_)
    cases q : E t with
    | false => rfl
    | true => have := anyB_iff.mpr ⟨t, ht, q⟩; rw [h] at this; cases this
theorem nI_t8 {n : Nat} (h : n < 256) : nI n = tI (fun x => n.testBit x) 8 := t8_of fun j _ => by
  rw [bt_nI (by omega)]
  by_cases q : j < 8
  · simp [q]
  · have : n.testBit j = false := Nat.testBit_lt_two_pow (Nat.lt_of_lt_of_le h (Nat.pow_le_pow_right (n := 2) (i := 8) (by decide) (by omega)))
    simp [this]
/-- a set of eight as a number below 256 -/
def eN (E : Nat → Bool) : Nat → Nat
  | 0 => 0
  | k + 1 => eN E k + if E k then 2 ^ k else 0
theorem eN_lt (E : Nat → Bool) : ∀ k, eN E k < 2 ^ k
  | 0 => by show 0 < 1; decide
  | k + 1 => by
    have := eN_lt E k
    unfold eN
    rw [Nat.pow_succ]
    split <;> omega
theorem eN_bit (E : Nat → Bool) : ∀ k j, (eN E k).testBit j = (decide (j < k) && E j)
  | 0, j => by simp [eN]
  | k + 1, j => by
    have ih := eN_bit E k j
    have hl := eN_lt E k
    unfold eN
    cases hE : E k with
    | false =>
      rw [if_neg (by decide), Nat.add_zero, ih]
      by_cases q : j = k
      · subst q; simp [hE]
      · simp [show (j < k + 1) ↔ j < k by omega]
    | true =>
      rw [if_pos rfl, Nat.add_comm]
      by_cases q : j = k
      · subst q
        rw [Nat.testBit_two_pow_add_eq, ih]; simp [hE]
      · rcases Nat.lt_or_ge j k with r | r
        · rw [Nat.testBit_two_pow_add_gt r, ih]; simp [r, show j < k + 1 by omega]
        · have h1 : 2 ^ k + eN E k < 2 ^ (k + 1) := by rw [Nat.pow_succ]; omega
          have : (2 ^ k + eN E k).testBit j = false := Nat.testBit_lt_two_pow (Nat.lt_of_lt_of_le h1 (Nat.pow_le_pow_right (by decide) (by omega)))
          rw [this]; simp; omega
theorem t8_nI (E : Nat → Bool) : tI E 8 = nI (eN E 8) := by
  have hl := eN_lt E 8
  rw [nI_t8 hl]
  refine t8_cong fun j hj => ?_
  rw [eN_bit]; simp [hj]
theorem orI_t8 {g : Nat → Int32} {A : Nat → Bool} {R : Nat → Nat → Bool} (hg : ∀ m, m < 8 → g m = tI (R m) 8) : orI g (tI A 8) 8 = tI (st8 R A) 8 := t8_of fun j _ => by
  apply Bool.ext_iff
  rw [b_orI]
  unfold st8
  constructor
  · rintro ⟨m, hm, h1, h2⟩
    rw [bt_t8 A 8 (Nat.le_refl _), Bool.and_eq_true] at h1
    rw [hg m hm, bt_t8 _ 8 (Nat.le_refl _), Bool.and_eq_true] at h2
    rw [Bool.and_eq_true]
    exact ⟨h2.1, anyB_iff.mpr ⟨m, hm, by rw [h1.2, h2.2]; rfl⟩⟩
  · intro h
    rw [Bool.and_eq_true] at h
    obtain ⟨m, hm, hh⟩ := anyB_iff.mp h.2
    rw [Bool.and_eq_true] at hh
    exact ⟨m, hm, by rw [bt_t8 A 8 (Nat.le_refl _), hh.1]; simp [hm], by rw [hg m hm, bt_t8 _ 8 (Nat.le_refl _), hh.2, h.1]; rfl⟩
theorem clI_t8 {g : Nat → Int32} {A : Nat → Bool} {R : Nat → Nat → Bool} (hg : ∀ m, m < 8 → g m = tI (R m) 8) : ∀ k, clI g (tI A 8) k = tI (itF (st8 R) (st8 R A) k) 8
  | 0 => orI_t8 hg
  | k + 1 => by
    show clI g (tI A 8) k ||| orI g (clI g (tI A 8) k) 8 = _
    rw [clI_t8 hg k, orI_t8 hg, t8_or]
    rfl
end INF
