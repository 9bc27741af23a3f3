/-! ===== rows and sets: the other methods ===== -/
theorem rg_in {n k : Nat} (f : Nat → Int32) (hk : k < n) (hn : n < 2 ^ 31) : rg n f (nI k) = f k := by
  unfold rg
  rw [if_neg (nI_in hk hn), nI_clamp (Nat.lt_trans hk hn)]
theorem rg_out {n k : Nat} (f : Nat → Int32) (hk : n ≤ k) (h2 : k < 2 ^ 31) : rg n f (nI k) = -1 := by
  unfold rg
  rw [if_pos (Or.inr (by rw [nI_clamp h2]; exact hk))]
theorem rg_n (n : Nat) (f : Nat → Int32) : rg n f (-1) = -1 := by
  unfold rg
  rw [if_pos (Or.inl (by decide))]
theorem rs_in {n k : Nat} (f : Nat → Int32) (x : Int32) (hk : k < n) (hn : n < 2 ^ 31) : rs n f (nI k) x = upd f k x := by
  unfold rs
  rw [if_neg (nI_in hk hn), nI_clamp (Nat.lt_trans hk hn)]
theorem rs_n (n : Nat) (f : Nat → Int32) (x : Int32) : rs n f (-1) x = f := by
  unfold rs
  rw [if_pos (Or.inl (by decide))]
theorem rs_out {n k : Nat} (f : Nat → Int32) (x : Int32) (hk : n ≤ k) (h2 : k < 2 ^ 31) : rs n f (nI k) x = f := by
  unfold rs
  rw [if_pos (Or.inr (by rw [nI_clamp h2]; exact hk))]
theorem sg_in {n k : Nat} (f : Nat → Int64) (hk : k < n) (hn : n < 2 ^ 31) : sg n f (nI k) = f k := by
  unfold sg
  rw [if_neg (nI_in hk hn), nI_clamp (Nat.lt_trans hk hn)]
theorem sg_out {n k : Nat} (f : Nat → Int64) (hk : n ≤ k) (h2 : k < 2 ^ 31) : sg n f (nI k) = 0 := by
  unfold sg
  rw [if_pos (Or.inr (by rw [nI_clamp h2]; exact hk))]
theorem sg_n (n : Nat) (f : Nat → Int64) : sg n f (-1) = 0 := by
  unfold sg
  rw [if_pos (Or.inl (by decide))]
theorem ss_in {n k : Nat} (f : Nat → Int64) (x : Int64) (hk : k < n) (hn : n < 2 ^ 31) : ss n f (nI k) x = vp_updL f k x := by
  unfold ss
  rw [if_neg (nI_in hk hn), nI_clamp (Nat.lt_trans hk hn)]
theorem ss_n (n : Nat) (f : Nat → Int64) (x : Int64) : ss n f (-1) x = f := by
  unfold ss
  rw [if_pos (Or.inl (by decide))]
def oneI (m : Int32) : Int64 := if m < 0 then 0 else b1 m.toNatClampNeg
theorem oneI_in {m : Nat} (hm : m < 2 ^ 31) : oneI (nI m) = b1 m := by
  unfold oneI
  rw [if_neg (nI_pos hm), nI_clamp hm]
theorem oneI_n : oneI (-1) = 0 := by decide +kernel
theorem s_one (m : Int32) (h : tq_H) : f_X0_one m h = some (oneI m) := by
  by_cases a : m < 0
  · unfold f_X0_one oneI tq_let
    rw [if_pos a, if_pos a]
  · obtain ⟨k, hk, rfl⟩ := nI_of a
    rw [s_X0_one hk, oneI_in hk]
def hasI (x : Int64) (m : Int32) : Bool := if m < 0 then false else tb x m.toNatClampNeg
theorem hasI_in {m : Nat} (x : Int64) (hm : m < 2 ^ 31) : hasI x (nI m) = tb x m := by
  unfold hasI
  rw [if_neg (nI_pos hm), nI_clamp hm]
theorem hasI_n (x : Int64) : hasI x (-1) = false := by
  unfold hasI
  rw [if_pos (by decide)]
theorem s_holds (x : Int64) (m : Int32) (h : tq_H) : f_X0_holds x m h = some (bI (hasI x m)) := by
  by_cases a : m < 0
  · unfold f_X0_holds hasI tq_let
    rw [if_pos a, if_pos a]
    rfl
  · obtain ⟨k, hk, rfl⟩ := nI_of a
    rw [s_X0_holds x hk, hasI_in x hk]
theorem bI_0 (b : Bool) : (bI b = 0) ↔ b = false := by cases b <;> decide
theorem bz_bI (b : Bool) : tq_bz (bI b) = some (bI b) := by cases b <;> rfl
section TC3
variable {S : tq_H} {c : tc_C} {q a n : Nat}
theorem s_X7_add (h : tc_Set S q a n) (i m : Int32) : f_X7_add q i m (tc_mk S c) = some (tc_mk S (tc_J c a (ss n (c.2.1 a) i (sg n (c.2.1 a) i ||| oneI m)))) := by
  obtain ⟨h1, h2, g, h3⟩ := h
  unfold f_X7_add ss sg
  by_cases w0 : i < 0
  · simp [w0, tc_J_self]
  · have e1 : tq_gr (tc_mk S c) q 7 0 = some a := tc_gr h1 rfl
    have e2 : tq_an (tc_mk S c) a = some (Int32.ofNat n) := tc_an h3 (by decide)
    by_cases b : n ≤ i.toNatClampNeg
    · have b2 : i ≥ Int32.ofNat n := (tc_ge w0 h2).mpr b
      simp [w0, b, e1, e2, b2, tc_J_self]
    · have b2 : ¬ i ≥ Int32.ofNat n := fun z => b ((tc_ge w0 h2).mp z)
      simp only [w0, b, e1, e2, b2, if_false, Option.bind_some, tc_aj h3, tc_sl h3, or_self, s_one]
theorem tc_fillL {a : Nat} {n : Nat} {g : Nat → Int64} (h : S.2 a = .inr (2, (n, .inr (.inl g)))) (hn : n < 100000) (x : Int64) : f_J7_fill_d0a16 a x (tc_mk S c) = some (tc_mk S (tc_J c a (fun j => if j < n then x else c.2.1 a j))) := by
  unfold f_J7_fill_d0a16
  rw [tc_an h (by decide)]
  simp only [Option.bind_some]
  have := tc_iter (B := f_J7_fill_d0a16_b6 a x (Int32.ofNat n)) n (fun k => (nI k, tc_mk S (tc_J c a (fun j => if j < k then x else c.2.1 a j)))) (e := tc_mk S (tc_J c a (fun j => if j < n then x else c.2.1 a j))) (fun k hk => ?_) ?_ (by unfold tq_N; omega)
  · have e0 : tc_J c a (fun j => if j < 0 then x else c.2.1 a j) = c := by simp [tc_J_self]
    simp only [e0] at this
    rw [nI_0] at this
    rw [this]
    rfl
  · unfold f_J7_fill_d0a16_b6
    have b1 : ¬ nI k ≥ Int32.ofNat n := nI_ge hk (by omega)
    simp only [b1, if_false, tc_sl h, nI_clamp (show k < 2 ^ 31 by omega), Nat.not_le.mpr hk, or_false, nI_pos (show k < 2 ^ 31 by omega), Option.bind_some, tq_let, tc_J_at, tc_J_J, nI_1]
    congr 6
    funext j
    unfold vp_updL
    by_cases hj : j = k
    · subst hj; simp
    · simp only [hj, if_false]
      by_cases h2 : j < k
      · simp [h2, Nat.lt_succ_of_lt h2]
      · simp [h2, show ¬ j < k + 1 by omega]
  · unfold f_J7_fill_d0a16_b6
    have b1 : nI n ≥ Int32.ofNat n := Int32.le_refl _
    simp only [b1, if_true]
theorem s_X7_emptyAll (h : tc_Set S q a n) : f_X7_emptyAll q (tc_mk S c) = some (tc_mk S (tc_J c a (fun j => if j < n then 0 else c.2.1 a j))) := by
  obtain ⟨h1, h2, g, h3⟩ := h
  unfold f_X7_emptyAll
  rw [tc_gr h1 rfl]
  simp only [Option.bind_some, tc_fillL h3 h2]
end TC3
/-- the sets g m, for the members m of x below n, together -/
def orTo (g : Nat → Int64) (x : Int64) : Nat → Int64
  | 0 => 0
  | m + 1 => if tb x m then orTo g x m ||| g m else orTo g x m
theorem tb_orTo (g : Nat → Int64) (x : Int64) (j : Nat) : ∀ n, tb (orTo g x n) j = true ↔ ∃ m, m < n ∧ tb x m = true ∧ tb (g m) j = true
  | 0 => by simp [orTo, tb_0]
  | n + 1 => by
    unfold orTo
    constructor
    · intro h
      by_cases e : tb x n = true
      · rw [if_pos e, tb_or, Bool.or_eq_true] at h
        rcases h with h | h
        · obtain ⟨m, a, b⟩ := (tb_orTo g x j n).mp h
          exact ⟨m, by omega, b⟩
        · exact ⟨n, by omega, e, h⟩
      · rw [if_neg e] at h
        obtain ⟨m, a, b⟩ := (tb_orTo g x j n).mp h
        exact ⟨m, by omega, b⟩
    · rintro ⟨m, a, b, d⟩
      by_cases z : m = n
      · subst z
        rw [if_pos b, tb_or, d, Bool.or_true]
      · have := (tb_orTo g x j n).mpr ⟨m, by omega, b, d⟩
        split
        · rw [tb_or, this, Bool.true_or]
        · exact this
/-- the first k members -/
def Fst (x : Int64) (k : Nat) (y : Int64) : Prop := ∀ j, j < 64 → tb y j = (tb x j && decide (fb_ct (tb x) j < k))
theorem Bool.ext_iff {a b : Bool} (h : a = true ↔ b = true) : a = b := by cases a <;> cases b <;> simp_all
theorem fst_ex (x : Int64) (k : Nat) : ∃ y, Fst x k y := by
  obtain ⟨y, hy⟩ := rest_ex x k
  refine ⟨x &&& (y ^^^ (-1)), fun j hj => ?_⟩
  rw [tb_and, tb_not, hy j hj]
  cases tb x j with
  | false => rfl
  | true =>
    simp [hj]
    apply Bool.ext_iff
    simp
theorem orTo_fst {g : Nat → Int64} {x y z : Int64} {k m : Nat} (hy : Fst x k y) (hz : Fst x (k + 1) z) (hm : m < 64) (h1 : tb x m = true) (h2 : fb_ct (tb x) m = k) : orTo g z 64 = orTo g y 64 ||| g m := by
  apply tb_ext
  intro j hj
  apply Bool.ext_iff
  rw [tb_or, Bool.or_eq_true, tb_orTo, tb_orTo]
  constructor
  · rintro ⟨i, a, b, d⟩
    rw [hz i a, Bool.and_eq_true, decide_eq_true_eq] at b
    by_cases e : fb_ct (tb x) i < k
    · exact .inl ⟨i, a, by rw [hy i a, b.1]; simp [e], d⟩
    · right
      rw [← fb_ct_kth_one b.1 h1 (by omega)]
      exact d
  · rintro (⟨i, a, b, d⟩ | d)
    · rw [hy i a, Bool.and_eq_true, decide_eq_true_eq] at b
      exact ⟨i, a, by rw [hz i a, b.1]; simp; omega, d⟩
    · exact ⟨m, hm, by rw [hz m hm, h1, h2]; simp, d⟩
theorem fst_0 {x y : Int64} (h : Fst x 0 y) : y = 0 := by
  rw [tb_zero]
  intro j hj
  rw [h j hj]; simp
theorem fst_all {x y : Int64} (h : Fst x (fb_ct (tb x) 64) y) : y = x := by
  apply tb_ext
  intro j hj
  rw [h j hj]
  cases e : tb x j with
  | false => rfl
  | true =>
    have := fb_ct_mono (tb x) (show j + 1 ≤ 64 by omega)
    rw [fb_ct_succ, e] at this
    simp at this ⊢
    omega
theorem orTo_0 (g : Nat → Int64) : ∀ n, orTo g 0 n = 0
  | 0 => rfl
  | n + 1 => by rw [orTo, tb_0, orTo_0 g n]; rfl
section TC4
variable {S : tq_H} {c : tc_C} {q a n : Nat}
theorem s_X7_union (h : tc_Set S q a n) {s : Nat} (hs : s < 2 ^ 30) (x : Int64) : f_X7_union q (nI s) x (tc_mk S c) = some (orTo (fun m => sg n (c.2.1 a) (nI (s + m))) x 64) := by
  have hq := h
  obtain ⟨h1, h2, g, h3⟩ := h
  have e1 : tq_gr (tc_mk S c) q 7 0 = some a := tc_gr h1 rfl
  have e2 : tq_an (tc_mk S c) a = some (Int32.ofNat n) := tc_an h3 (by decide)
  have h64 := fb_ct_le (tb x) 64
  unfold f_X7_union
  rw [s_J13_bitCount, Option.bind_some]
  generalize hN : fb_ct (tb x) 64 = N at h64
  let gg := fun m => sg n (c.2.1 a) (nI (s + m))
  let st : Nat → Int64 × Int64 × Int32 := fun i => (orTo gg (Classical.choose (fst_ex x i)) 64, Classical.choose (rest_ex x i), nI (N - i))
  have hst : ∀ i, Rest x i (st i).2.1 := fun i => Classical.choose_spec (rest_ex x i)
  have e0 : st 0 = (0, x, nI N) := by
    show (orTo gg (Classical.choose (fst_ex x 0)) 64, Classical.choose (rest_ex x 0), nI N) = _
    rw [rest_uq (Classical.choose_spec (rest_ex x 0)) (rest_0 x), fst_0 (Classical.choose_spec (fst_ex x 0)), orTo_0]
  have := tc_iter (B := f_X7_union_b12 q (nI s) (tc_mk S c)) N st (e := (st N).1) (fun i hi => ?_) ?_ (by unfold tq_N; omega)
  · rw [← e0, this, Option.bind_some]
    show some (orTo gg (Classical.choose (fst_ex x N)) 64) = _
    subst hN
    rw [fst_all (Classical.choose_spec (fst_ex x _))]
  · obtain ⟨m, am, b, e⟩ := fb_ct_kth (show i < fb_ct (tb x) 64 by omega)
    have e5 : orTo gg (Classical.choose (fst_ex x (i + 1))) 64 = (st i).1 ||| gg m := orTo_fst (Classical.choose_spec (fst_ex x i)) (Classical.choose_spec (fst_ex x (i + 1))) am b e
    have e6 : (st (i + 1)).2.1 = ((st i).2.1 &&& ((st i).2.1 - 1)) := rest_uq (hst (i + 1)) (rest_succ (hst i) am b e)
    show (if nI (N - i) ≤ 0 then _ else _) = _
    rw [if_neg (nI_nle (by omega) (by omega))]
    show Option.bind (f_X0_lowest (st i).2.1 _) _ = _
    rw [s_X0_lowest (rest_low (hst i) am b e), Option.bind_some]
    simp only [tq_let, nI_add]
    have e7 : nI (N - i) + (-1) = nI (N - (i + 1)) := by
      rw [show N - i = (N - (i + 1)) + 1 by omega, pk_m1]
    have fin : some (Sum.inl ((st i).1 ||| gg m, ((st i).2.1 &&& ((st i).2.1 - 1)), nI (N - i) + (-1))) = (some (Sum.inl (st (i + 1))) : Option ((Int64 × Int64 × Int32) ⊕ Int64)) := by
      rw [← e5, ← e6, e7]
    have hp : ¬ nI (s + m) < 0 := nI_pos (by omega)
    have hcl : (nI (s + m)).toNatClampNeg = s + m := nI_clamp (by omega)
    by_cases z : n ≤ s + m
    · have z2 : nI (s + m) ≥ Int32.ofNat n := (tc_ge hp h2).mpr (by rw [hcl]; exact z)
      have z3 : gg m = 0 := sg_out _ z (by omega)
      rw [if_neg hp, e1, Option.bind_some, e2, Option.bind_some, if_pos z2, Option.bind_some, ← fin, z3]
    · have z2 : ¬ nI (s + m) ≥ Int32.ofNat n := fun w => z (by have := (tc_ge hp h2).mp w; rw [hcl] at this; exact this)
      have z3 : gg m = c.2.1 a (s + m) := sg_in _ (Nat.not_le.mp z) (by omega)
      rw [if_neg hp, e1, Option.bind_some, e2, Option.bind_some, if_neg z2, Option.bind_some, tc_aj h3, hcl, if_neg (by rintro (w | w); exact hp w; exact z w), Option.bind_some, Option.bind_some, ← fin, z3]
  · show (if nI (N - N) ≤ 0 then _ else _) = _
    rw [Nat.sub_self, if_pos (by decide)]
end TC4
