/-! ===== laying out: a spot more ===== -/
section SPC
variable {D : Doc}
theorem Doc.spF_ge (h : D.wf) : ∀ i, i < D.n → ∀ f g, i < f → i < g → D.spF f i = D.spF g i := by
  intro i
  induction i using Nat.strongRecOn with
  | ind i ih =>
    intro hi f g hf hg
    obtain ⟨f, rfl⟩ : ∃ k, f = k + 1 := ⟨f - 1, by omega⟩
    obtain ⟨g, rfl⟩ : ∃ k, g = k + 1 := ⟨g - 1, by omega⟩
    unfold Doc.spF
    by_cases a : i = 0
    · rw [if_pos a, if_pos a]
    · have hu := D.up_lt h (Nat.pos_of_ne_zero a) hi
      rw [if_neg a, if_neg a, ih _ hu (by omega) f g (by omega) (by omega)]
theorem Doc.sp_eq (h : D.wf) {i : Nat} (hi : i < D.n) : D.sp i = if D.dc i ≠ -1 then D.dc i else if i = 0 then 0 else D.sp (D.up i) := by
  show D.spF (i + 1) i = _
  unfold Doc.spF
  by_cases a : i = 0
  · rw [if_pos a, if_pos a]
  · have hu := D.up_lt h (Nat.pos_of_ne_zero a) hi
    rw [if_neg a, if_neg a]
    unfold Doc.sp
    rw [D.spF_ge h (D.up i) (by omega) i (D.up i + 1) hu (by omega)]
theorem Doc.sp_of (h : D.wf) : ∀ i, i < D.n → ∃ s, s < 4 ∧ D.sp i = nI s := by
  intro i
  induction i using Nat.strongRecOn with
  | ind i ih =>
    intro hi
    rw [D.sp_eq h hi]
    by_cases d : D.dc i ≠ -1
    · rw [if_pos d]
      rcases D.dc_of h hi with z | ⟨-, k, hk, e⟩
      · exact absurd z d
      · exact ⟨k, hk, e⟩
    · rw [if_neg d]
      by_cases a : i = 0
      · rw [if_pos a]; exact ⟨0, by decide, rfl⟩
      · rw [if_neg a]
        have hu := D.up_lt h (Nat.pos_of_ne_zero a) hi
        exact ih _ hu (by omega)
end SPC
/-- off the layout of the tree at b nothing has changed -/
def Off (c c' : tc_C) (b : Nat) : Prop :=
  (∀ a, a < b + 2 ∨ b + 21 < a → c'.1 a = c.1 a) ∧ (∀ a, a < b + 2 ∨ b + 21 < a → c'.2.1 a = c.2.1 a) ∧ (∀ a, a ≠ b + 1 → c'.2.2.1 a = c.2.2.1 a) ∧ (∀ a, a ≠ b + 1 → c'.2.2.2.1 a = c.2.2.2.1 a) ∧ c'.2.2.2.2 = c.2.2.2.2
theorem Off.refl (c : tc_C) (b : Nat) : Off c c b := ⟨fun _ _ => rfl, fun _ _ => rfl, fun _ _ => rfl, fun _ _ => rfl, rfl⟩
theorem Off.trans {c c' c'' : tc_C} {b : Nat} (h : Off c c' b) (g : Off c' c'' b) : Off c c'' b := ⟨fun a z => (g.1 a z).trans (h.1 a z), fun a z => (g.2.1 a z).trans (h.2.1 a z), fun a z => (g.2.2.1 a z).trans (h.2.2.1 a z), fun a z => (g.2.2.2.1 a z).trans (h.2.2.2.1 a z), g.2.2.2.2.trans h.2.2.2.2⟩
def PLay (c : tc_C) (b : Nat) (D : Doc) (i : Nat) : Prop :=
  c.2.2.1 (b + 1) 12 = nI i ∧
  (∀ j, j < i → c.1 (b + 3) j = nI (D.ord j)) ∧
  (∀ j, j < i → c.1 (b + 5) (D.ord j) = nI j) ∧
  (∀ v, v < 60 → (∀ j, j < i → D.ord j ≠ v) → c.1 (b + 5) v = -1) ∧
  (∀ j, j < i → c.1 (b + 7) j = if j = 0 then -1 else nI (D.up j)) ∧
  (∀ j, j < i → c.1 (b + 9) j = nI (j + 1)) ∧
  (∀ j, j < i → c.1 (b + 11) j = if D.kd j = 0 then D.sp j else -1) ∧
  (∀ j, j < 60 → ∀ k, k < 64 → tb (c.2.1 (b + 13) j) k = decide (0 < k ∧ k < i ∧ D.up k = j)) ∧
  (∀ j, j < i → ∀ k, k < 64 → tb (c.2.1 (b + 17) j) k = decide (k < j ∧ j < D.en k)) ∧
  (∀ t, t < 14 → ∀ k, k < 64 → tb (c.2.1 (b + 21) t) k = (decide (k < i) && D.tst t k)) ∧
  (∀ k, k < 64 → tb (c.2.2.2.1 (b + 1) 10) k = decide (k < i ∧ D.kd k = 0)) ∧
  (∀ k, k < 64 → tb (c.2.2.2.1 (b + 1) 11) k = decide (k < i ∧ D.kd k = 2))
theorem rs_at {n k : Nat} (f : Nat → Int32) (x : Int32) (hk : k < n) (hn : n < 2 ^ 31) (j : Nat) : rs n f (nI k) x j = if j = k then x else f j := by
  rw [rs_in f x hk hn]; rfl
theorem ss_at {n k : Nat} (f : Nat → Int64) (x : Int64) (hk : k < n) (hn : n < 2 ^ 31) (j : Nat) : ss n f (nI k) x j = if j = k then x else f j := by
  rw [ss_in f x hk hn]; rfl
/-- the spot of the parent as it is told -/
def Doc.upI (D : Doc) (i : Nat) : Int32 := if i = 0 then -1 else nI (D.up i)
section ADD
variable {S : tq_H} {c : tc_C} {b i : Nat} {D : Doc}
theorem lay_0 {c : tc_C} {b : Nat} {D : Doc} (h1 : c.2.2.1 (b + 1) 12 = 0) (h2 : ∀ v, v < 60 → c.1 (b + 5) v = -1) (h3 : ∀ j, j < 60 → c.2.1 (b + 13) j = 0) (h4 : ∀ j, j < 14 → c.2.1 (b + 21) j = 0) (h5 : c.2.2.2.1 (b + 1) 10 = 0) (h6 : c.2.2.2.1 (b + 1) 11 = 0) : PLay c b D 0 := by
  refine ⟨h1, fun j z => by omega, fun j z => by omega, fun v z _ => h2 v z, fun j z => by omega, fun j z => by omega, fun j z => by omega, fun j z k _ => ?_, fun j z => by omega, fun t z k _ => ?_, fun k _ => ?_, fun k _ => ?_⟩
  · rw [h3 j z, tb_0]; simp
  · rw [h4 t z, tb_0]; simp
  · rw [h5, tb_0]; simp
  · rw [h6, tb_0]; simp
theorem s_X3_clear (hT : tc_Tree S b) : ∃ c', f_X3_clear (b + 1) (tc_mk S c) = some (tc_mk S c') ∧ PLay c' b D 0 ∧ Off c c' b := by
  simp (maxSteps := 3000000) (disch := omega) only [Option.bind_some, tc_bs, tq_let, tc_I1, tc_I2, tc_J1, tc_J2, tc_J3, tc_F1, tc_F2, tc_F3, tc_F4, tc_G1, tc_G2, tc_G3, tc_G4, tc_G5, tc_us, tc_un, s_one, s_holds, s_J13_bitCount, bz_bI, f_X3_clear, hT.f]
  refine ⟨_, rfl, lay_0 ?_ (fun v hv => ?_) (fun j hj => ?_) (fun j hj => ?_) ?_ ?_, fun a ha => ?_, fun a ha => ?_, fun a ha => ?_, fun a ha => ?_, ?_⟩
  all_goals simp (maxSteps := 3000000) (disch := omega) only [Option.bind_some, tc_bs, tq_let, tc_I1, tc_I2, tc_J1, tc_J2, tc_J3, tc_F1, tc_F2, tc_F3, tc_F4, tc_G1, tc_G2, tc_G3, tc_G4, tc_G5, tc_us, tc_un, s_one, s_holds, s_J13_bitCount, bz_bI, if_true]
  all_goals first | rw [if_pos hv] | rw [if_pos hj]
end ADD
