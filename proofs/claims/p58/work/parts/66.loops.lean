/-! ===== loops with a ghost state; closures that stand still ===== -/
theorem tc_run {σ ε τ : Type} {B : σ → Option (σ ⊕ ε)} (n : Nat) (st : Nat → τ → σ) (I : Nat → τ → Prop) (E : τ → ε) (hn : n < 100000) (hs : ∀ i x, i < n → I i x → ∃ y, B (st i x) = some (.inl (st (i + 1) y)) ∧ I (i + 1) y) (he : ∀ x, I n x → B (st n x) = some (.inr (E x))) {x : τ} (h0 : I 0 x) : ∃ y, tq_loop B tq_N (st 0 x) = some (E y) ∧ I n y := by
  have key : ∀ (k : Nat) (m : Nat) (x : τ), m ≤ n → I m x → n - m < k → ∃ y, tq_loop B k (st m x) = some (E y) ∧ I n y := by
    intro k
    induction k with
    | zero => intro m x _ _ h; exact absurd h (Nat.not_lt_zero _)
    | succ k ih =>
      intro m x hm hI hk
      unfold tq_loop
      rcases Nat.lt_or_ge m n with q | q
      · obtain ⟨y, h1, h2⟩ := hs m x q hI
        rw [h1]
        exact ih (m + 1) y q h2 (by omega)
      · have : m = n := by omega
        subst this
        rw [he x hI]
        exact ⟨x, rfl, hI⟩
  exact key tq_N 0 x (Nat.zero_le _) h0 (by unfold tq_N; omega)
/-- the same, where the loop may end early -/
theorem tc_run2 {σ ε τ : Type} {B : σ → Option (σ ⊕ ε)} (n : Nat) (st : Nat → τ → σ) (I : Nat → τ → Prop) (P : ε → Prop) (hn : n < 100000) (hs : ∀ i x, i < n → I i x → (∃ y, B (st i x) = some (.inl (st (i + 1) y)) ∧ I (i + 1) y) ∨ ∃ e, B (st i x) = some (.inr e) ∧ P e) (he : ∀ x, I n x → ∃ e, B (st n x) = some (.inr e) ∧ P e) {x : τ} (h0 : I 0 x) : ∃ e, tq_loop B tq_N (st 0 x) = some e ∧ P e := by
  have key : ∀ (k : Nat) (m : Nat) (x : τ), m ≤ n → I m x → n - m < k → ∃ e, tq_loop B k (st m x) = some e ∧ P e := by
    intro k
    induction k with
    | zero => intro m x _ _ h; exact absurd h (Nat.not_lt_zero _)
    | succ k ih =>
      intro m x hm hI hk
      unfold tq_loop
      rcases Nat.lt_or_ge m n with q | q
      · rcases hs m x q hI with ⟨y, h1, h2⟩ | ⟨e, h1, h2⟩
        · rw [h1]
          exact ih (m + 1) y q h2 (by omega)
        · rw [h1]
          exact ⟨e, rfl, h2⟩
      · have : m = n := by omega
        subst this
        obtain ⟨e, h1, h2⟩ := he x hI
        rw [h1]
        exact ⟨e, rfl, h2⟩
  exact key tq_N 0 x (Nat.zero_le _) h0 (by unfold tq_N; omega)
theorem ct_lt {p q : Nat → Bool} : ∀ {n : Nat}, (∀ k, k < n → p k = true → q k = true) → (∃ j, j < n ∧ q j = true ∧ p j = false) → fb_ct p n < fb_ct q n
  | 0, _, h => by obtain ⟨j, hj, -⟩ := h; omega
  | n + 1, h, h2 => by
    obtain ⟨j, hj, a, b⟩ := h2
    rw [fb_ct_succ, fb_ct_succ]
    by_cases e : j = n
    · subst e
      have := fb_ct_sub (p := p) (q := q) (n := j) (fun k hk => h k (by omega))
      rw [a, b]; simp; omega
    · have := ct_lt (n := n) (p := p) (q := q) (fun k hk => h k (by omega)) ⟨j, by omega, a, b⟩
      have h3 := h n (by omega)
      cases hp : p n <;> cases hq : q n <;> simp_all <;> omega
theorem least_ex {p : Nat → Prop} : ∀ n, p n → ∃ k, k ≤ n ∧ p k ∧ ∀ j, j < k → ¬ p j := by
  intro n
  induction n using Nat.strongRecOn with
  | ind n ih =>
    intro h
    by_cases q : ∃ j, j < n ∧ p j
    · obtain ⟨j, h1, h2⟩ := q
      obtain ⟨k, a, b, d⟩ := ih j h1 h2
      exact ⟨k, by omega, b, d⟩
    · exact ⟨n, Nat.le_refl _, h, fun j hj hp => q ⟨j, hj, hp⟩⟩
/-- all that F leads to from i, and from each of those: round by round -/
def Doc.rp (D : Doc) (F : Nat → Nat → Bool) (i : Nat) : Nat → Nat → Bool
  | 0 => F i
  | k + 1 => fun j => D.rp F i k j || anyB (fun s => D.rp F i k s && F s j) D.n
def Doc.rep (D : Doc) (F : Nat → Nat → Bool) (i : Nat) : Nat → Bool := D.rp F i 60
def Doc.still (D : Doc) (F : Nat → Nat → Bool) (i k : Nat) : Prop := ∀ j, j < D.n → D.rp F i (k + 1) j = D.rp F i k j
section REP
variable {D : Doc} {F : Nat → Nat → Bool} {i k : Nat}
theorem Doc.still_on (h : D.still F i k) : ∀ m j, j < D.n → D.rp F i (k + m) j = D.rp F i k j
  | 0, j, _ => rfl
  | m + 1, j, hj => by
    have ih := Doc.still_on h m
    show (D.rp F i (k + m) j || anyB (fun s => D.rp F i (k + m) s && F s j) D.n) = _
    rw [ih j hj, anyB_cong (q := fun s => D.rp F i k s && F s j) (fun s hs => by rw [ih s hs])]
    exact h j hj
theorem Doc.rp_mono {j : Nat} (h : D.rp F i k j = true) : D.rp F i (k + 1) j = true := by
  show (D.rp F i k j || _) = true
  rw [h]; rfl
theorem Doc.still_ex (D : Doc) (F : Nat → Nat → Bool) (i : Nat) : ∃ k, k ≤ D.n ∧ D.still F i k := by
  refine Classical.byContradiction fun hx => ?_
  have key : ∀ k, k ≤ D.n + 1 → k ≤ fb_ct (D.rp F i k) D.n := by
    intro k
    induction k with
    | zero => intro _; exact Nat.zero_le _
    | succ k ih =>
      intro hk
      have h1 := ih (by omega)
      have h2 : ¬ D.still F i k := fun w => hx ⟨k, by omega, w⟩
      have h3 : ∃ j, j < D.n ∧ D.rp F i (k + 1) j = true ∧ D.rp F i k j = false := by
        refine Classical.byContradiction fun hy => h2 fun j hj => ?_
        cases e : D.rp F i k j with
        | true => exact Doc.rp_mono e
        | false =>
          cases e2 : D.rp F i (k + 1) j with
          | false => rfl
          | true => exact absurd ⟨j, hj, e2, e⟩ hy
      have := ct_lt (p := D.rp F i k) (q := D.rp F i (k + 1)) (fun j _ hj => Doc.rp_mono hj) h3
      omega
  have h1 := key (D.n + 1) (Nat.le_refl _)
  have h2 := fb_ct_le (D.rp F i (D.n + 1)) D.n
  omega
theorem Doc.still_rep (hw : D.wf) (h : D.still F i k) (hk : k ≤ 60) {j : Nat} (hj : j < D.n) : D.rp F i k j = D.rep F i j := by
  have := Doc.still_on h (60 - k) j hj
  rw [show k + (60 - k) = 60 by omega] at this
  exact this.symm
theorem Doc.rp_lt (hF : ∀ s j, F s j = true → j < D.n) : ∀ k j, D.rp F i k j = true → j < D.n
  | 0, j, h => hF i j h
  | k + 1, j, h => by
    change (D.rp F i k j || anyB (fun s => D.rp F i k s && F s j) D.n) = true at h
    rw [Bool.or_eq_true] at h
    rcases h with h | h
    · exact Doc.rp_lt hF k j h
    · obtain ⟨s, _, h⟩ := anyB_iff.mp h
      rw [Bool.and_eq_true] at h
      exact hF s j h.2
/-- the first round that stands still -/
theorem Doc.still_first (D : Doc) (F : Nat → Nat → Bool) (i : Nat) : ∃ k, k ≤ D.n ∧ D.still F i k ∧ ∀ j, j < k → ¬ D.still F i j := by
  obtain ⟨k, h1, h2⟩ := D.still_ex F i
  obtain ⟨l, a, b, d⟩ := least_ex (p := D.still F i) k h2
  exact ⟨l, by omega, b, d⟩
theorem Doc.rp_same (hw : D.wf) (hF : ∀ s j, F s j = true → j < D.n) : (mkS (D.rp F i (k + 1)) = mkS (D.rp F i k)) ↔ D.still F i k := by
  have hn := D.n_le hw
  rw [mkS_eq]
  constructor
  · intro h j hj
    exact h j (by omega)
  · intro h j _
    by_cases e : j < D.n
    · exact h j e
    · have f : ∀ k, D.rp F i k j = false := fun k => by
        cases a : D.rp F i k j with
        | false => rfl
        | true => exact absurd (Doc.rp_lt hF k j a) e
      rw [f, f]
end REP
/-- outside [lo, hi) nothing has changed -/
def Kp (lo hi : Nat) (c c' : tc_C) : Prop :=
  (∀ a, a < lo ∨ hi ≤ a → c'.1 a = c.1 a) ∧ (∀ a, a < lo ∨ hi ≤ a → c'.2.1 a = c.2.1 a) ∧ (∀ a, a < lo ∨ hi ≤ a → c'.2.2.1 a = c.2.2.1 a) ∧ (∀ a, a < lo ∨ hi ≤ a → c'.2.2.2.1 a = c.2.2.2.1 a) ∧ c'.2.2.2.2 = c.2.2.2.2
section KP
variable {c c' c'' : tc_C} {lo hi b m : Nat} {D : Doc}
theorem Kp.refl (lo hi : Nat) (c : tc_C) : Kp lo hi c c := ⟨fun _ _ => rfl, fun _ _ => rfl, fun _ _ => rfl, fun _ _ => rfl, rfl⟩
theorem Kp.trans (h : Kp lo hi c c') (g : Kp lo hi c' c'') : Kp lo hi c c'' := ⟨fun a z => (g.1 a z).trans (h.1 a z), fun a z => (g.2.1 a z).trans (h.2.1 a z), fun a z => (g.2.2.1 a z).trans (h.2.2.1 a z), fun a z => (g.2.2.2.1 a z).trans (h.2.2.2.1 a z), g.2.2.2.2.trans h.2.2.2.2⟩
theorem Kp.mono {lo' hi' : Nat} (h : Kp lo hi c c') (h1 : lo' ≤ lo) (h2 : hi ≤ hi') : Kp lo' hi' c c' := ⟨fun a z => h.1 a (by omega), fun a z => h.2.1 a (by omega), fun a z => h.2.2.1 a (by omega), fun a z => h.2.2.2.1 a (by omega), h.2.2.2.2⟩
theorem OffT.kp (h : OffT c c' b) : Kp b (b + 40) c c' := ⟨fun a z => h.1 a (by omega), fun a z => h.2.1 a (by omega), fun a z => h.2.2.1 a (by omega), fun a z => h.2.2.2.1 a (by omega), h.2.2.2.2⟩
theorem Kp.I {a : Nat} (f : Nat → Int32) (h1 : lo ≤ a) (h2 : a < hi) : Kp lo hi c (tc_I c a f) := by
  refine ⟨fun x hx => ?_, fun x hx => rfl, fun x hx => rfl, fun x hx => rfl, rfl⟩
  rw [tc_I1, tc_un _ _ (by omega)]
theorem Kp.J {a : Nat} (f : Nat → Int64) (h1 : lo ≤ a) (h2 : a < hi) : Kp lo hi c (tc_J c a f) := by
  refine ⟨fun x hx => rfl, fun x hx => ?_, fun x hx => rfl, fun x hx => rfl, rfl⟩
  rw [tc_J2, tc_un _ _ (by omega)]
theorem Kp.F {a k : Nat} (f : Int32) (h1 : lo ≤ a) (h2 : a < hi) : Kp lo hi c (tc_F c a k f) := by
  refine ⟨fun x hx => rfl, fun x hx => rfl, fun x hx => ?_, fun x hx => rfl, rfl⟩
  rw [tc_F3, tc_un _ _ (by omega)]
theorem Kp.G {a k : Nat} (f : Int64) (h1 : lo ≤ a) (h2 : a < hi) : Kp lo hi c (tc_G c a k f) := by
  refine ⟨fun x hx => rfl, fun x hx => rfl, fun x hx => rfl, fun x hx => ?_, rfl⟩
  rw [tc_G4, tc_un _ _ (by omega)]
theorem Lay.kp (h : Lay c b D) (k : Kp lo hi c c') (hd : b + 40 ≤ lo ∨ hi ≤ b) : Lay c' b D := by
  obtain ⟨k1, k2, k3, k4, -⟩ := k
  unfold Lay
  rw [k1 (b + 3) (by omega), k1 (b + 5) (by omega), k1 (b + 7) (by omega), k1 (b + 9) (by omega), k1 (b + 11) (by omega), k2 (b + 13) (by omega), k2 (b + 15) (by omega), k2 (b + 17) (by omega), k2 (b + 19) (by omega), k2 (b + 21) (by omega), k3 (b + 1) (by omega), k4 (b + 1) (by omega)]
  exact h
theorem Nod.kp (h : Nod c b D m) (k : Kp lo hi c c') (hd : b + 40 ≤ lo ∨ hi ≤ b) : Nod c' b D m := by
  obtain ⟨k1, k2, k3, k4, -⟩ := k
  unfold Nod
  rw [k1 (b + 23) (by omega), k1 (b + 25) (by omega), k1 (b + 27) (by omega), k1 (b + 29) (by omega), k1 (b + 31) (by omega), k1 (b + 35) (by omega), k1 (b + 37) (by omega), k3 b (by omega)]
  exact h
theorem RTree.kp (h : RTree c D m) (k : Kp lo hi c c') (hd : hi ≤ 155 ∨ 164 ≤ lo) : RTree c' D m := by
  obtain ⟨k1, k2, k3, k4, -⟩ := k
  unfold RTree
  rw [k1 163 (by omega), k1 156 (by omega), k1 157 (by omega), k1 158 (by omega), k1 159 (by omega), k1 160 (by omega), k1 161 (by omega), k3 155 (by omega)]
  exact h
theorem ROrd.kp (h : ROrd c D) (k : Kp lo hi c c') (hd : hi ≤ 155 ∨ 166 ≤ lo) : ROrd c' D := by
  obtain ⟨k1, k2, k3, k4, -⟩ := k
  unfold ROrd
  rw [k1 164 (by omega), k1 165 (by omega), k3 155 (by omega)]
  exact h
end KP
