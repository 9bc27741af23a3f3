/-! ===== loops with a known course; Row, Sets, Bits over contents ===== -/
theorem tc_iter {σ ε : Type} {B : σ → Option (σ ⊕ ε)} (N : Nat) (st : Nat → σ) {e : ε} (hs : ∀ k, k < N → B (st k) = some (.inl (st (k + 1)))) (he : B (st N) = some (.inr e)) (hN : N < tq_N) : tq_loop B tq_N (st 0) = some e := by
  have key : ∀ (n m : Nat), m ≤ N → N - m < n → tq_loop B n (st m) = some e := by
    intro n
    induction n with
    | zero => intro m _ h; exact absurd h (Nat.not_lt_zero _)
    | succ n ih =>
      intro m hm hn
      unfold tq_loop
      rcases Nat.lt_or_ge m N with q | q
      · rw [hs m q]
        exact ih (m + 1) q (by omega)
      · have : m = N := by omega
        subst this
        rw [he]
  exact key tq_N 0 (Nat.zero_le _) (by omega)
/-- a loop by an invariant and a measure -/
theorem tc_while {σ ε : Type} {B : σ → Option (σ ⊕ ε)} (I : σ → Prop) (μ : σ → Nat) (P : ε → Prop) (hs : ∀ s, I s → (∃ s', B s = some (.inl s') ∧ I s' ∧ μ s' < μ s) ∨ ∃ e, B s = some (.inr e) ∧ P e) {s : σ} (h0 : I s) (hN : μ s < tq_N) : ∃ e, tq_loop B tq_N s = some e ∧ P e := by
  have key : ∀ (n : Nat) (s : σ), I s → μ s < n → ∃ e, tq_loop B n s = some e ∧ P e := by
    intro n
    induction n with
    | zero => intro s _ h; exact absurd h (Nat.not_lt_zero _)
    | succ n ih =>
      intro s hI hn
      unfold tq_loop
      rcases hs s hI with ⟨s', h1, h2, h3⟩ | ⟨e, h1, h2⟩
      · rw [h1]
        exact ih s' h2 (by omega)
      · rw [h1]
        exact ⟨e, rfl, h2⟩
  exact key tq_N s h0 hN
theorem tc_I_self (c : tc_C) (a : Nat) : tc_I c a (c.1 a) = c := by
  refine Prod.ext (funext fun j => ?_) rfl
  show tc_u c.1 a (c.1 a) j = c.1 j
  unfold tc_u
  split
  · rename_i h; rw [h]
  · rfl
theorem tc_J_self (c : tc_C) (a : Nat) : tc_J c a (c.2.1 a) = c := by
  refine Prod.ext rfl (Prod.ext (funext fun j => ?_) rfl)
  show tc_u c.2.1 a (c.2.1 a) j = c.2.1 j
  unfold tc_u
  split
  · rename_i h; rw [h]
  · rfl
theorem tc_uu {α : Type} (f : Nat → α) (k : Nat) (x y : α) : tc_u (tc_u f k x) k y = tc_u f k y := by
  funext j
  unfold tc_u
  split <;> rfl
theorem tc_I_I (c : tc_C) (a : Nat) (f g : Nat → Int32) : tc_I (tc_I c a f) a g = tc_I c a g := by
  unfold tc_I
  rw [tc_uu]
theorem tc_J_J (c : tc_C) (a : Nat) (f g : Nat → Int64) : tc_J (tc_J c a f) a g = tc_J c a g := by
  unfold tc_J
  rw [tc_uu]
theorem tc_I_at (c : tc_C) (a : Nat) (f : Nat → Int32) : (tc_I c a f).1 a = f := tc_us _ _ _
theorem tc_J_at (c : tc_C) (a : Nat) (f : Nat → Int64) : (tc_J c a f).2.1 a = f := tc_us _ _ _
/-- a Row of n cells at q, its cells at q + 1 -/
def tc_Row (S : tq_H) (q a n : Nat) : Prop := S.2 q = .inl (5, [.ref a]) ∧ n < 100000 ∧ ∃ g, S.2 a = .inr (0, (n, .inl g))
def tc_Set (S : tq_H) (q a n : Nat) : Prop := S.2 q = .inl (7, [.ref a]) ∧ n < 100000 ∧ ∃ g, S.2 a = .inr (2, (n, .inr (.inl g)))
/-- what stands at a place of a row; outside -1 -/
def rg (n : Nat) (f : Nat → Int32) (i : Int32) : Int32 := if i < 0 ∨ n ≤ i.toNatClampNeg then -1 else f i.toNatClampNeg
def rs (n : Nat) (f : Nat → Int32) (i x : Int32) : Nat → Int32 := if i < 0 ∨ n ≤ i.toNatClampNeg then f else upd f i.toNatClampNeg x
def sg (n : Nat) (f : Nat → Int64) (i : Int32) : Int64 := if i < 0 ∨ n ≤ i.toNatClampNeg then 0 else f i.toNatClampNeg
def ss (n : Nat) (f : Nat → Int64) (i : Int32) (x : Int64) : Nat → Int64 := if i < 0 ∨ n ≤ i.toNatClampNeg then f else vp_updL f i.toNatClampNeg x
theorem tc_ge {i : Int32} {n : Nat} (h0 : ¬ i < 0) (hn : n < 100000) : (i ≥ Int32.ofNat n) ↔ n ≤ i.toNatClampNeg := by
  obtain ⟨j, hj, rfl⟩ := nI_of h0
  rw [nI_clamp hj]
  exact nI_leI (a := n) (b := j) (by omega) hj
section TC2
variable {S : tq_H} {c : tc_C} {q a n : Nat}
theorem s_X5_get (h : tc_Row S q a n) (i : Int32) : f_X5_get q i (tc_mk S c) = some (rg n (c.1 a) i) := by
  obtain ⟨h1, h2, g, h3⟩ := h
  unfold f_X5_get rg
  by_cases w0 : i < 0
  · simp [w0]
  · have e1 : tq_gr (tc_mk S c) q 5 0 = some a := tc_gr h1 rfl
    have e2 : tq_an (tc_mk S c) a = some (Int32.ofNat n) := tc_an h3 (by decide)
    by_cases b : n ≤ i.toNatClampNeg
    · have b2 : i ≥ Int32.ofNat n := (tc_ge w0 h2).mpr b
      simp [w0, b, e1, e2, b2]
    · have b2 : ¬ i ≥ Int32.ofNat n := fun z => b ((tc_ge w0 h2).mp z)
      simp only [w0, b, e1, e2, b2, if_false, Option.bind_some, tc_ai h3, or_self]
theorem s_X5_set (h : tc_Row S q a n) (i x : Int32) : f_X5_set q i x (tc_mk S c) = some (tc_mk S (tc_I c a (rs n (c.1 a) i x))) := by
  obtain ⟨h1, h2, g, h3⟩ := h
  unfold f_X5_set rs
  by_cases w0 : i < 0
  · simp [w0, tc_I_self]
  · have e1 : tq_gr (tc_mk S c) q 5 0 = some a := tc_gr h1 rfl
    have e2 : tq_an (tc_mk S c) a = some (Int32.ofNat n) := tc_an h3 (by decide)
    by_cases b : n ≤ i.toNatClampNeg
    · have b2 : i ≥ Int32.ofNat n := (tc_ge w0 h2).mpr b
      simp [w0, b, e1, e2, b2, tc_I_self]
    · have b2 : ¬ i ≥ Int32.ofNat n := fun z => b ((tc_ge w0 h2).mp z)
      simp only [w0, b, e1, e2, b2, if_false, Option.bind_some, tc_si h3, or_self]
theorem s_X7_get (h : tc_Set S q a n) (i : Int32) : f_X7_get q i (tc_mk S c) = some (sg n (c.2.1 a) i) := by
  obtain ⟨h1, h2, g, h3⟩ := h
  unfold f_X7_get sg
  by_cases w0 : i < 0
  · simp [w0]
  · have e1 : tq_gr (tc_mk S c) q 7 0 = some a := tc_gr h1 rfl
    have e2 : tq_an (tc_mk S c) a = some (Int32.ofNat n) := tc_an h3 (by decide)
    by_cases b : n ≤ i.toNatClampNeg
    · have b2 : i ≥ Int32.ofNat n := (tc_ge w0 h2).mpr b
      simp [w0, b, e1, e2, b2]
    · have b2 : ¬ i ≥ Int32.ofNat n := fun z => b ((tc_ge w0 h2).mp z)
      simp only [w0, b, e1, e2, b2, if_false, Option.bind_some, tc_aj h3, or_self]
theorem s_X7_set (h : tc_Set S q a n) (i : Int32) (x : Int64) : f_X7_set q i x (tc_mk S c) = some (tc_mk S (tc_J c a (ss n (c.2.1 a) i x))) := by
  obtain ⟨h1, h2, g, h3⟩ := h
  unfold f_X7_set ss
  by_cases w0 : i < 0
  · simp [w0, tc_J_self]
  · have e1 : tq_gr (tc_mk S c) q 7 0 = some a := tc_gr h1 rfl
    have e2 : tq_an (tc_mk S c) a = some (Int32.ofNat n) := tc_an h3 (by decide)
    by_cases b : n ≤ i.toNatClampNeg
    · have b2 : i ≥ Int32.ofNat n := (tc_ge w0 h2).mpr b
      simp [w0, b, e1, e2, b2, tc_J_self]
    · have b2 : ¬ i ≥ Int32.ofNat n := fun z => b ((tc_ge w0 h2).mp z)
      simp only [w0, b, e1, e2, b2, if_false, Option.bind_some, tc_sl h3, or_self]
theorem tc_fillI {a : Nat} {n : Nat} {g : Nat → Int32} (h : S.2 a = .inr (0, (n, .inl g))) (hn : n < 100000) (x : Int32) : f_J7_fill_53178 a x (tc_mk S c) = some (tc_mk S (tc_I c a (fun j => if j < n then x else c.1 a j))) := by
  unfold f_J7_fill_53178
  rw [tc_an h (by decide)]
  simp only [Option.bind_some]
  have := tc_iter (B := f_J7_fill_53178_b5 a x (Int32.ofNat n)) n (fun k => (nI k, tc_mk S (tc_I c a (fun j => if j < k then x else c.1 a j)))) (e := tc_mk S (tc_I c a (fun j => if j < n then x else c.1 a j))) (fun k hk => ?_) ?_ (by unfold tq_N; omega)
  · have e0 : tc_I c a (fun j => if j < 0 then x else c.1 a j) = c := by simp [tc_I_self]
    simp only [e0] at this
    rw [nI_0] at this
    rw [this]
    rfl
  · unfold f_J7_fill_53178_b5
    have b1 : ¬ nI k ≥ Int32.ofNat n := nI_ge hk (by omega)
    simp only [b1, if_false, tc_si h, nI_clamp (show k < 2 ^ 31 by omega), Nat.not_le.mpr hk, or_false, nI_pos (show k < 2 ^ 31 by omega), Option.bind_some, tq_let, tc_I_at, tc_I_I, nI_1]
    congr 6
    funext j
    unfold upd
    by_cases hj : j = k
    · subst hj; simp
    · simp only [hj, if_false]
      by_cases h2 : j < k
      · simp [h2, Nat.lt_succ_of_lt h2]
      · simp [h2, show ¬ j < k + 1 by omega]
  · unfold f_J7_fill_53178_b5
    have b1 : nI n ≥ Int32.ofNat n := Int32.le_refl _
    simp only [b1, if_true]
theorem s_X5_setAll (h : tc_Row S q a n) (x : Int32) : f_X5_setAll q x (tc_mk S c) = some (tc_mk S (tc_I c a (fun j => if j < n then x else c.1 a j))) := by
  obtain ⟨h1, h2, g, h3⟩ := h
  unfold f_X5_setAll
  rw [tc_gr h1 rfl]
  simp only [Option.bind_some, tc_fillI h3 h2]
theorem s_X5_copy {p e : Nat} (h : tc_Row S q a n) (h' : tc_Row S p e n) : f_X5_copy q p (tc_mk S c) = some (tc_mk S (tc_I c a (fun j => if j < n then c.1 e j else c.1 a j))) := by
  obtain ⟨h1, h2, g, h3⟩ := h
  obtain ⟨h4, -, g', h5⟩ := h'
  unfold f_X5_copy
  have hc : (Int32.ofNat n).toNatClampNeg = n := nI_clamp (n := n) (by omega)
  have hp : ¬ Int32.ofNat n < 0 := nI_pos (n := n) (by omega)
  have r1 : tq_gr (tc_mk S c) q 5 0 = some a := tc_gr h1 rfl
  have r2 : tq_gr (tc_mk S c) p 5 0 = some e := tc_gr h4 rfl
  simp only [r1, r2, tc_an h3 (by decide), tc_an h5 (by decide), Option.bind_some, tq_let, Int32.lt_irrefl, if_false, tc_cp h5 h3, hc, hp]
  have z : (0 : Int32).toNatClampNeg = 0 := by decide
  have z2 : ¬ (0 : Int32) < 0 := by decide
  simp only [z, z2, Nat.zero_add, Nat.lt_irrefl, or_self, if_false, Option.bind_some]
  congr 3
  funext j
  unfold va_cpy
  by_cases hj : j < n <;> simp [hj]
end TC2
