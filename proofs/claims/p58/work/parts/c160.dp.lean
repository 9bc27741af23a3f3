/-! ===== how far two documents are from each other ===== -/
/-- the distance of two pieces of two rows of nodes -/
def dpF (f g : Nat → Nat) (co : Nat → Nat → Nat) (l m a b : Nat) : Nat :=
  if a ≤ l then b - m else if b ≤ m then a - l else
  if h : l ≤ f (a - 1) ∧ f (a - 1) < a ∧ m ≤ g (b - 1) ∧ g (b - 1) < b then
    min (min (dpF f g co l m (a - 1) b) (dpF f g co l m a (b - 1)) + 1) (if f (a - 1) = l ∧ g (b - 1) = m then dpF f g co l m (a - 1) (b - 1) + co (a - 1) (b - 1) else dpF f g co l m (f (a - 1)) (g (b - 1)) + dpF f g co (f (a - 1)) (g (b - 1)) a b)
  else 0
termination_by (a - l) + (b - m)
decreasing_by all_goals omega
section DPP
variable {f g : Nat → Nat} {co : Nat → Nat → Nat} {l m a b i j k k1 k2 n n1 n2 p q v : Nat} {F F' t t' : Nat → Nat → Int32}
theorem dpF_0 (h : a ≤ l) : dpF f g co l m a b = b - m := by rw [dpF, if_pos h]
theorem dpF_1 (h : b ≤ m) : dpF f g co l m a b = a - l := by
  rw [dpF]
  by_cases q : a ≤ l
  · rw [if_pos q]; omega
  · rw [if_neg q, if_pos h]
theorem dpF_s (h1 : l ≤ i) (h2 : m ≤ j) (h3 : l ≤ f i ∧ f i ≤ i) (h4 : m ≤ g j ∧ g j ≤ j) : dpF f g co l m (i + 1) (j + 1) = min (min (dpF f g co l m i (j + 1)) (dpF f g co l m (i + 1) j) + 1) (if f i = l ∧ g j = m then dpF f g co l m i j + co i j else dpF f g co l m (f i) (g j) + dpF f g co (f i) (g j) (i + 1) (j + 1)) := by
  rw [dpF, if_neg (by omega), if_neg (by omega)]
  simp only [Nat.add_sub_cancel]
  rw [dif_pos (by omega)]
theorem dpF_le (f g : Nat → Nat) (co : Nat → Nat → Nat) (l m : Nat) : ∀ (k a b : Nat), (a - l) + (b - m) ≤ k → dpF f g co l m a b ≤ (a - l) + (b - m)
  | 0, a, b, h => by rw [dpF_0 (by omega)]; omega
  | k + 1, a, b, h => by
    rw [dpF]
    by_cases q1 : a ≤ l
    · rw [if_pos q1]; omega
    · rw [if_neg q1]
      by_cases q2 : b ≤ m
      · rw [if_pos q2]; omega
      · rw [if_neg q2]
        by_cases q3 : l ≤ f (a - 1) ∧ f (a - 1) < a ∧ m ≤ g (b - 1) ∧ g (b - 1) < b
        · rw [dif_pos q3]
          have := dpF_le f g co l m k (a - 1) b (by omega)
          omega
        · rw [dif_neg q3]; omega
theorem dpF_b (f g : Nat → Nat) (co : Nat → Nat → Nat) (l m a b : Nat) : dpF f g co l m a b ≤ (a - l) + (b - m) := dpF_le f g co l m _ a b (Nat.le_refl _)
theorem dpF_sym (f g : Nat → Nat) (co : Nat → Nat → Nat) : ∀ (k l m a b : Nat), (a - l) + (b - m) ≤ k → dpF f g co l m a b = dpF g f (fun x y => co y x) m l b a
  | 0, l, m, a, b, h => by rw [dpF_0 (show a ≤ l by omega), dpF_0 (show b ≤ m by omega)]; omega
  | k + 1, l, m, a, b, h => by
    by_cases q1 : a ≤ l
    · rw [dpF_0 q1, dpF_1 q1]
    · by_cases q2 : b ≤ m
      · rw [dpF_1 q2, dpF_0 q2]
      · rw [dpF, dpF.eq_def g f, if_neg q1, if_neg q2, if_neg q2, if_neg q1]
        by_cases q3 : l ≤ f (a - 1) ∧ f (a - 1) < a ∧ m ≤ g (b - 1) ∧ g (b - 1) < b
        · rw [dif_pos q3, dif_pos ⟨q3.2.2.1, q3.2.2.2, q3.1, q3.2.1⟩]
          rw [dpF_sym f g co k l m (a - 1) b (by omega), dpF_sym f g co k l m a (b - 1) (by omega)]
          rw [Nat.min_comm (dpF g f (fun x y => co y x) m l b (a - 1))]
          congr 1
          by_cases q4 : f (a - 1) = l ∧ g (b - 1) = m
          · rw [if_pos q4, if_pos ⟨q4.2, q4.1⟩, dpF_sym f g co k l m (a - 1) (b - 1) (by omega)]
          · rw [if_neg q4, if_neg (fun z => q4 ⟨z.2, z.1⟩), dpF_sym f g co k l m (f (a - 1)) (g (b - 1)) (by omega), dpF_sym f g co k (f (a - 1)) (g (b - 1)) a b (by omega)]
        · rw [dif_neg q3, dif_neg (fun z => q3 ⟨z.2.2.1, z.2.2.2, z.1, z.2.1⟩)]
/-- the first of what hangs below each of a row, children before their parents -/
def PoL (n : Nat) (f : Nat → Nat) : Prop := (∀ i, i < n → f i ≤ i) ∧ ∀ i j, i < j → j < n → i < f j ∨ f j ≤ f i
def zK (n : Nat) (f : Nat → Nat) (k : Nat) : Prop := ∀ q, k < q → q < n → f q ≠ f k
theorem PoL.in (h : PoL n f) (hk : k < n) (h1 : f k ≤ i) (h2 : i ≤ k) : f k ≤ f i ∧ f i ≤ i := by
  refine ⟨?_, h.1 i (by omega)⟩
  rcases Nat.lt_or_ge i k with w | w
  · rcases h.2 i k w hk with z | z <;> omega
  · have : i = k := by omega
    subst this; exact Nat.le_refl _
theorem last_k (n : Nat) (f : Nat → Nat) : ∀ (d i : Nat), i < n → n - i ≤ d → ∃ κ, i ≤ κ ∧ κ < n ∧ f κ = f i ∧ zK n f κ
  | 0, i, h, hd => by omega
  | d + 1, i, h, hd => by
    by_cases q : zK n f i
    · exact ⟨i, Nat.le_refl _, h, rfl, q⟩
    · unfold zK at q
      have : ∃ q, i < q ∧ q < n ∧ f q = f i := Classical.byContradiction fun z => q fun q h1 h2 h3 => z ⟨q, h1, h2, h3⟩
      obtain ⟨q, h1, h2, h3⟩ := this
      obtain ⟨κ, w1, w2, w3, w4⟩ := last_k n f d q h2 (by omega)
      exact ⟨κ, by omega, w2, w3.trans h3, w4⟩
theorem PoL.key (h : PoL n f) (hk : k < n) (h1 : f k ≤ i) (h2 : i ≤ k) (hK : zK n f k) : ∃ κ, i ≤ κ ∧ κ ≤ k ∧ f κ = f i ∧ zK n f κ ∧ (κ = k ↔ f i = f k) := by
  obtain ⟨κ, w1, w2, w3, w4⟩ := last_k n f n i (by omega) (by omega)
  refine ⟨κ, w1, ?_, w3, w4, fun z => by rw [← w3, z], fun z => ?_⟩
  · rcases Nat.lt_or_ge k κ with q | q
    · have e : f κ ≠ f k := hK κ q w2
      have p1 := (h.in hk h1 h2)
      rcases h.2 k κ q w2 with z | z <;> omega
    · exact q
  · rcases Nat.lt_trichotomy κ k with q | q | q
    · exact absurd (by rw [w3, z]) (w4 k q hk)
    · exact q
    · exact absurd (by rw [w3, z]) (hK κ q w2)
def zTD (f g : Nat → Nat) (co : Nat → Nat → Nat) (i j : Nat) : Nat := dpF f g co (f i) (g j) (i + 1) (j + 1)
/-- which pairs have been compared -/
def zDn (f g : Nat → Nat) (n1 n2 k1 k2 i j : Nat) : Prop := ∃ κ1 κ2, (zK n1 f κ1 ∧ κ1 < n1 ∧ f κ1 = f i ∧ i ≤ κ1) ∧ (zK n2 g κ2 ∧ κ2 < n2 ∧ g κ2 = g j ∧ j ≤ κ2) ∧ (κ1 < k1 ∨ (κ1 = k1 ∧ κ2 < k2))
def zRI (f g : Nat → Nat) (co : Nat → Nat → Nat) (n1 n2 k1 k2 : Nat) (t : Nat → Nat → Int32) : Prop := ∀ i j, i < n1 → j < n2 → zDn f g n1 n2 k1 k2 i j → t i j = nI (zTD f g co i j)
def zCI (f g : Nat → Nat) (co : Nat → Nat → Nat) (n1 n2 k1 k2 i j : Nat) (F t : Nat → Nat → Int32) : Prop :=
  (∀ a b, f k1 ≤ a → a ≤ k1 + 1 → g k2 ≤ b → b ≤ k2 + 1 → (a = f k1 ∨ b = g k2 ∨ a ≤ i ∨ (a = i + 1 ∧ b ≤ j)) → F a b = nI (dpF f g co (f k1) (g k2) a b)) ∧
  zRI f g co n1 n2 k1 k2 t ∧
  ∀ x y, f x = f k1 → f k1 ≤ x → x ≤ k1 → g y = g k2 → g k2 ≤ y → y ≤ k2 → (x < i ∨ (x = i ∧ y < j)) → t x y = nI (zTD f g co x y)
theorem zRI.row (h : zRI f g co n1 n2 k1 n2 t) : zRI f g co n1 n2 (k1 + 1) 0 t := fun i j hi hj ⟨κ1, κ2, w1, w2, w3⟩ => h i j hi hj ⟨κ1, κ2, w1, w2, by omega⟩
theorem zRI.skip (h : zRI f g co n1 n2 k1 k2 t) (hn : ¬ (zK n1 f k1 ∧ zK n2 g k2)) : zRI f g co n1 n2 k1 (k2 + 1) t := fun i j hi hj ⟨κ1, κ2, w1, w2, w3⟩ => h i j hi hj ⟨κ1, κ2, w1, w2, by
  rcases Nat.lt_or_ge κ1 k1 with z | z
  · exact .inl z
  · have e1 : κ1 = k1 := by omega
    rcases Nat.lt_or_ge κ2 k2 with y | y
    · exact .inr ⟨e1, y⟩
    · have e2 : κ2 = k2 := by omega
      subst e1; subst e2
      exact absurd ⟨w1.1, w2.1⟩ hn⟩
theorem zRI.beg : zRI f g co n1 n2 0 0 t := fun i j hi hj ⟨κ1, κ2, w1, w2, w3⟩ => by omega
theorem zRI.end (h : zRI f g co n1 n2 n1 0 t) (h1 : 0 < n1) (h2 : 0 < n2) (h3 : f (n1 - 1) = 0) (h4 : g (n2 - 1) = 0) : t (n1 - 1) (n2 - 1) = nI (dpF f g co 0 0 n1 n2) := by
  rw [h (n1 - 1) (n2 - 1) (by omega) (by omega) ⟨n1 - 1, n2 - 1, ⟨fun q a b => by omega, by omega, rfl, Nat.le_refl _⟩, ⟨fun q a b => by omega, by omega, rfl, Nat.le_refl _⟩, by omega⟩]
  unfold zTD
  rw [h3, h4, show n1 - 1 + 1 = n1 by omega, show n2 - 1 + 1 = n2 by omega]
theorem zCI.beg (h : zRI f g co n1 n2 k1 k2 t) (h1 : ∀ a, f k1 ≤ a → a ≤ k1 + 1 → F a (g k2) = nI (a - f k1)) (h2 : ∀ b, g k2 ≤ b → b ≤ k2 + 1 → F (f k1) b = nI (b - g k2)) : zCI f g co n1 n2 k1 k2 (f k1) (g k2) F t := by
  refine ⟨fun a b q1 q2 q3 q4 q5 => ?_, h, fun x y _ _ _ _ _ _ _ => by omega⟩
  have : a = f k1 ∨ b = g k2 := by omega
  rcases this with rfl | rfl
  · rw [h2 b q3 q4, dpF_0 (Nat.le_refl _)]
  · rw [h1 a q1 q2, dpF_1 (Nat.le_refl _)]
theorem zCI.row (h : zCI f g co n1 n2 k1 k2 i (k2 + 1) F t) : zCI f g co n1 n2 k1 k2 (i + 1) (g k2) F t :=
  ⟨fun a b q1 q2 q3 q4 q5 => h.1 a b q1 q2 q3 q4 (by omega), h.2.1, fun x y q1 q2 q3 q4 q5 q6 q7 => h.2.2 x y q1 q2 q3 q4 q5 q6 (by omega)⟩
theorem zCI.fin (h : zCI f g co n1 n2 k1 k2 (k1 + 1) j F t) (hP1 : PoL n1 f) (hP2 : PoL n2 g) (hk1 : k1 < n1) (hk2 : k2 < n2) : zRI f g co n1 n2 k1 (k2 + 1) t := fun i j hi hj ⟨κ1, κ2, w1, w2, w3⟩ => by
  rcases Nat.lt_or_ge κ1 k1 with z | z
  · exact h.2.1 i j hi hj ⟨κ1, κ2, w1, w2, .inl z⟩
  · have e1 : κ1 = k1 := by omega
    rcases Nat.lt_or_ge κ2 k2 with y | y
    · exact h.2.1 i j hi hj ⟨κ1, κ2, w1, w2, .inr ⟨e1, y⟩⟩
    · have e2 : κ2 = k2 := by omega
      subst e1; subst e2
      have p1 := hP1.1 i hi
      have p2 := hP2.1 j hj
      exact h.2.2 i j w1.2.2.1.symm (by omega) w1.2.2.2 w2.2.2.1.symm (by omega) w2.2.2.2 (by omega)
/-- what is read for one pair -/
theorem zCI.read (h : zCI f g co n1 n2 k1 k2 i j F t) (hP1 : PoL n1 f) (hP2 : PoL n2 g) (hk1 : k1 < n1) (hk2 : k2 < n2) (hK1 : zK n1 f k1) (hK2 : zK n2 g k2) (hi : f k1 ≤ i ∧ i ≤ k1) (hj : g k2 ≤ j ∧ j ≤ k2) :
    F i (j + 1) = nI (dpF f g co (f k1) (g k2) i (j + 1)) ∧ F (i + 1) j = nI (dpF f g co (f k1) (g k2) (i + 1) j) ∧ F i j = nI (dpF f g co (f k1) (g k2) i j) ∧ F (f i) (g j) = nI (dpF f g co (f k1) (g k2) (f i) (g j)) ∧ (¬ (f i = f k1 ∧ g j = g k2) → t i j = nI (zTD f g co i j)) := by
  have p1 := hP1.in hk1 hi.1 hi.2
  have p2 := hP2.in hk2 hj.1 hj.2
  obtain ⟨h1, h2, h3⟩ := h
  refine ⟨h1 _ _ (by omega) (by omega) (by omega) (by omega) (by omega), h1 _ _ (by omega) (by omega) (by omega) (by omega) (by omega), h1 _ _ (by omega) (by omega) (by omega) (by omega) (by omega), h1 _ _ (by omega) (by omega) (by omega) (by omega) (by omega), fun q => ?_⟩
  obtain ⟨κ1, w1, w2, w3, w4, w5⟩ := hP1.key hk1 hi.1 hi.2 hK1
  obtain ⟨κ2, x1, x2, x3, x4, x5⟩ := hP2.key hk2 hj.1 hj.2 hK2
  refine h2 i j (by omega) (by omega) ⟨κ1, κ2, ⟨w4, by omega, w3, w1⟩, ⟨x4, by omega, x3, x1⟩, ?_⟩
  by_cases z : f i = f k1
  · have z2 : ¬ g j = g k2 := fun y => q ⟨z, y⟩
    have e1 := w5.mpr z
    have e2 : ¬ κ2 = k2 := fun y => z2 (x5.mp y)
    omega
  · have e2 : ¬ κ1 = k1 := fun y => z (w5.mp y)
    omega
theorem zCI.step (h : zCI f g co n1 n2 k1 k2 i j F t) (hP1 : PoL n1 f) (hP2 : PoL n2 g) (hk1 : k1 < n1) (hk2 : k2 < n2) (hi : f k1 ≤ i ∧ i ≤ k1) (hj : g k2 ≤ j ∧ j ≤ k2)
    (e1 : F' (i + 1) (j + 1) = nI (dpF f g co (f k1) (g k2) (i + 1) (j + 1))) (e2 : ∀ a b, f k1 ≤ a → a ≤ k1 + 1 → g k2 ≤ b → b ≤ k2 + 1 → ¬ (a = i + 1 ∧ b = j + 1) → F' a b = F a b)
    (e3 : f i = f k1 ∧ g j = g k2 → t' i j = nI (dpF f g co (f k1) (g k2) (i + 1) (j + 1))) (e4 : ∀ a b, a < n1 → b < n2 → (¬ (a = i ∧ b = j) ∨ ¬ (f i = f k1 ∧ g j = g k2)) → t' a b = t a b) : zCI f g co n1 n2 k1 k2 i (j + 1) F' t' := by
  obtain ⟨h1, h2, h3⟩ := h
  refine ⟨fun a b q1 q2 q3 q4 q5 => ?_, fun x y hx hy hd => ?_, fun x y q1 q2 q3 q4 q5 q6 q7 => ?_⟩
  · by_cases z : a = i + 1 ∧ b = j + 1
    · obtain ⟨rfl, rfl⟩ := z; exact e1
    · rw [e2 a b q1 q2 q3 q4 z]; exact h1 a b q1 q2 q3 q4 (by omega)
  · by_cases z : x = i ∧ y = j
    · obtain ⟨rfl, rfl⟩ := z
      by_cases w : f x = f k1 ∧ g y = g k2
      · rw [e3 w]; unfold zTD; rw [w.1, w.2]
      · rw [e4 x y hx hy (.inr w)]; exact h2 x y hx hy hd
    · rw [e4 x y hx hy (.inl z)]; exact h2 x y hx hy hd
  · by_cases z : x = i ∧ y = j
    · obtain ⟨rfl, rfl⟩ := z
      rw [e3 ⟨q1, q4⟩]; unfold zTD; rw [q1, q4]
    · rw [e4 x y (by omega) (by omega) (.inl z)]; exact h3 x y q1 q2 q3 q4 q5 q6 (by omega)
end DPP
