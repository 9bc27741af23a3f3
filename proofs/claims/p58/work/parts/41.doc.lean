/-! ===== reading contents after writing them ===== -/
theorem tc_bs {α : Type} (o : Option α) : (o.bind fun x => some x) = o := by cases o <;> rfl
theorem tc_I1 (c : tc_C) (a : Nat) (f : Nat → Int32) : (tc_I c a f).1 = tc_u c.1 a f := rfl
theorem tc_I2 (c : tc_C) (a : Nat) (f : Nat → Int32) : (tc_I c a f).2 = c.2 := rfl
theorem tc_J1 (c : tc_C) (a : Nat) (f : Nat → Int64) : (tc_J c a f).1 = c.1 := rfl
theorem tc_J2 (c : tc_C) (a : Nat) (f : Nat → Int64) : (tc_J c a f).2.1 = tc_u c.2.1 a f := rfl
theorem tc_J3 (c : tc_C) (a : Nat) (f : Nat → Int64) : (tc_J c a f).2.2 = c.2.2 := rfl
theorem tc_F1 (c : tc_C) (a k : Nat) (x : Int32) : (tc_F c a k x).1 = c.1 := rfl
theorem tc_F2 (c : tc_C) (a k : Nat) (x : Int32) : (tc_F c a k x).2.1 = c.2.1 := rfl
theorem tc_F3 (c : tc_C) (a k : Nat) (x : Int32) : (tc_F c a k x).2.2.1 = tc_u c.2.2.1 a (tc_u (c.2.2.1 a) k x) := rfl
theorem tc_F4 (c : tc_C) (a k : Nat) (x : Int32) : (tc_F c a k x).2.2.2 = c.2.2.2 := rfl
theorem tc_G1 (c : tc_C) (a k : Nat) (x : Int64) : (tc_G c a k x).1 = c.1 := rfl
theorem tc_G2 (c : tc_C) (a k : Nat) (x : Int64) : (tc_G c a k x).2.1 = c.2.1 := rfl
theorem tc_G3 (c : tc_C) (a k : Nat) (x : Int64) : (tc_G c a k x).2.2.1 = c.2.2.1 := rfl
theorem tc_G4 (c : tc_C) (a k : Nat) (x : Int64) : (tc_G c a k x).2.2.2.1 = tc_u c.2.2.2.1 a (tc_u (c.2.2.2.1 a) k x) := rfl
theorem tc_G5 (c : tc_C) (a k : Nat) (x : Int64) : (tc_G c a k x).2.2.2.2 = c.2.2.2.2 := rfl
/-! ===== a document: its nodes by their spots in the order ===== -/
/-- how many; the node, the parent's spot, the end of what is below; kind, name, value, declared space; all by spots -/
def Doc : Type := Nat × (Nat → Nat) × (Nat → Nat) × (Nat → Nat) × (Nat → Int32) × (Nat → Int32) × (Nat → Int32) × (Nat → Int32)
def Doc.n (D : Doc) : Nat := D.1
def Doc.ord (D : Doc) : Nat → Nat := D.2.1
def Doc.up (D : Doc) : Nat → Nat := D.2.2.1
def Doc.en (D : Doc) : Nat → Nat := D.2.2.2.1
def Doc.kd (D : Doc) : Nat → Int32 := D.2.2.2.2.1
def Doc.nm (D : Doc) : Nat → Int32 := D.2.2.2.2.2.1
def Doc.vl (D : Doc) : Nat → Int32 := D.2.2.2.2.2.2.1
def Doc.dc (D : Doc) : Nat → Int32 := D.2.2.2.2.2.2.2
/-- a tree in preorder; parents are elements -/
def Doc.wf (D : Doc) : Prop :=
  (0 < D.n ∧ D.n ≤ 60) ∧ (∀ i, i < D.n → D.ord i < 60) ∧ (∀ i j, i < D.n → j < D.n → D.ord i = D.ord j → i = j) ∧ D.ord 0 = 0 ∧
  (∀ i, 0 < i → i < D.n → D.up i < i) ∧ (∀ i, i < D.n → i < D.en i ∧ D.en i ≤ D.n) ∧ D.en 0 = D.n ∧
  (∀ i j, i < j → j < D.n → (j < D.en i ↔ i ≤ D.up j ∧ D.up j < D.en i)) ∧
  (∀ i, i < D.n → D.kd i = 0 ∨ D.kd i = 1 ∨ D.kd i = 2) ∧ D.kd 0 = 0 ∧ (∀ i, 0 < i → i < D.n → D.kd (D.up i) = 0) ∧
  (∀ i, i < D.n → (D.kd i = 1 ∧ D.nm i = -1) ∨ (D.kd i ≠ 1 ∧ ∃ k, k < 8 ∧ D.nm i = nI k)) ∧
  (∀ i, i < D.n → (D.kd i = 0 ∧ D.vl i = -1) ∨ (D.kd i ≠ 0 ∧ ∃ k, k < 1000 ∧ D.vl i = nI k)) ∧
  (∀ i, i < D.n → D.dc i = -1 ∨ (D.kd i = 0 ∧ ∃ k, k < 4 ∧ D.dc i = nI k))
section DOC1
variable {D : Doc}
theorem Doc.n_pos (h : D.wf) : 0 < D.n := h.1.1
theorem Doc.n_le (h : D.wf) : D.n ≤ 60 := h.1.2
theorem Doc.ord_lt (h : D.wf) {i : Nat} (hi : i < D.n) : D.ord i < 60 := h.2.1 i hi
theorem Doc.ord_inj (h : D.wf) {i j : Nat} (hi : i < D.n) (hj : j < D.n) (e : D.ord i = D.ord j) : i = j := h.2.2.1 i j hi hj e
theorem Doc.ord_0 (h : D.wf) : D.ord 0 = 0 := h.2.2.2.1
theorem Doc.up_lt (h : D.wf) {i : Nat} (h0 : 0 < i) (hi : i < D.n) : D.up i < i := h.2.2.2.2.1 i h0 hi
theorem Doc.en_gt (h : D.wf) {i : Nat} (hi : i < D.n) : i < D.en i := (h.2.2.2.2.2.1 i hi).1
theorem Doc.en_le (h : D.wf) {i : Nat} (hi : i < D.n) : D.en i ≤ D.n := (h.2.2.2.2.2.1 i hi).2
theorem Doc.en_0 (h : D.wf) : D.en 0 = D.n := h.2.2.2.2.2.2.1
theorem Doc.en_up (h : D.wf) {i j : Nat} (hij : i < j) (hj : j < D.n) : j < D.en i ↔ i ≤ D.up j ∧ D.up j < D.en i := h.2.2.2.2.2.2.2.1 i j hij hj
theorem Doc.kd_of (h : D.wf) {i : Nat} (hi : i < D.n) : D.kd i = 0 ∨ D.kd i = 1 ∨ D.kd i = 2 := h.2.2.2.2.2.2.2.2.1 i hi
theorem Doc.kd_0 (h : D.wf) : D.kd 0 = 0 := h.2.2.2.2.2.2.2.2.2.1
theorem Doc.kd_up (h : D.wf) {i : Nat} (h0 : 0 < i) (hi : i < D.n) : D.kd (D.up i) = 0 := h.2.2.2.2.2.2.2.2.2.2.1 i h0 hi
theorem Doc.nm_of (h : D.wf) {i : Nat} (hi : i < D.n) : (D.kd i = 1 ∧ D.nm i = -1) ∨ (D.kd i ≠ 1 ∧ ∃ k, k < 8 ∧ D.nm i = nI k) := h.2.2.2.2.2.2.2.2.2.2.2.1 i hi
theorem Doc.vl_of (h : D.wf) {i : Nat} (hi : i < D.n) : (D.kd i = 0 ∧ D.vl i = -1) ∨ (D.kd i ≠ 0 ∧ ∃ k, k < 1000 ∧ D.vl i = nI k) := h.2.2.2.2.2.2.2.2.2.2.2.2.1 i hi
theorem Doc.dc_of (h : D.wf) {i : Nat} (hi : i < D.n) : D.dc i = -1 ∨ (D.kd i = 0 ∧ ∃ k, k < 4 ∧ D.dc i = nI k) := h.2.2.2.2.2.2.2.2.2.2.2.2.2 i hi
/-- the parent spans its child -/
theorem Doc.up_sp (h : D.wf) {j : Nat} (h0 : 0 < j) (hj : j < D.n) : j < D.en (D.up j) := by
  have := D.up_lt h h0 hj
  exact (D.en_up h this hj).mpr ⟨Nat.le_refl _, D.en_gt h (by omega)⟩
/-- spans lie one in the other or apart -/
theorem Doc.en_in (h : D.wf) {i j : Nat} (hij : i < j) (hj : j < D.en i) (hi : i < D.n) : D.en j ≤ D.en i := by
  have hen := D.en_le h hi
  rcases Nat.lt_or_ge (D.en i) (D.en j) with q | q
  · exfalso
    -- the spot at the end of i would be below j, hence its parent would lie from j on and below the end of i
    have hjn : j < D.n := by omega
    have hm : D.en i < D.n := Nat.lt_of_lt_of_le q (D.en_le h hjn)
    -- the least spot ≥ en i below j has a parent between j and en i
    have key : ∀ k, D.en i ≤ k → k < D.en j → False := by
      intro k
      induction k using Nat.strongRecOn with
      | ind k ih =>
        intro h1 h2
        have hk : k < D.n := Nat.lt_of_lt_of_le h2 (D.en_le h hjn)
        have := (D.en_up h (show j < k by omega) hk).mp h2
        have h3 := D.up_lt h (show 0 < k by omega) hk
        rcases Nat.lt_or_ge (D.up k) (D.en i) with z | z
        · have : k < D.en i := (D.en_up h (show i < k by omega) hk).mpr ⟨by omega, z⟩
          omega
        · exact ih _ h3 z this.2
    exact key (D.en i) (Nat.le_refl _) q
  · exact q
theorem Doc.leaf (h : D.wf) {i : Nat} (hi : i < D.n) (hk : D.kd i ≠ 0) : D.en i = i + 1 := by
  have h1 := D.en_gt h hi
  rcases Nat.lt_or_ge (i + 1) (D.en i) with q | q
  · have hn : i + 1 < D.n := Nat.lt_of_lt_of_le q (D.en_le h hi)
    have := (D.en_up h (show i < i + 1 by omega) hn).mp q
    have h2 := D.up_lt h (show 0 < i + 1 by omega) hn
    have h3 := D.kd_up h (show 0 < i + 1 by omega) hn
    rw [show D.up (i + 1) = i by omega] at h3
    exact absurd h3 hk
  · omega
end DOC1
/-- the space of an element: declared here, or above, or 0 -/
def Doc.spF (D : Doc) : Nat → Nat → Int32
  | 0, _ => 0
  | f + 1, i => if D.dc i ≠ -1 then D.dc i else if i = 0 then 0 else D.spF f (D.up i)
def Doc.sp (D : Doc) (i : Nat) : Int32 := D.spF (i + 1) i
/-- what a test passes -/
def Doc.tst (D : Doc) (t j : Nat) : Bool :=
  if t < 8 then decide (D.kd j ≠ 1 ∧ D.nm j = nI t) else if t = 8 then true else if t = 9 then decide (D.kd j = 1) else decide (D.kd j = 0 ∧ D.sp j = nI (t - 10))
/-- the layout of the tree at b is the document's -/
def Lay (c : tc_C) (b : Nat) (D : Doc) : Prop :=
  c.2.2.1 (b + 1) 12 = nI D.n ∧
  (∀ i, i < D.n → c.1 (b + 3) i = nI (D.ord i)) ∧
  (∀ i, i < D.n → c.1 (b + 5) (D.ord i) = nI i) ∧
  (∀ v, v < 60 → (∀ i, i < D.n → D.ord i ≠ v) → c.1 (b + 5) v = -1) ∧
  (∀ i, i < D.n → c.1 (b + 7) i = if i = 0 then -1 else nI (D.up i)) ∧
  (∀ i, i < D.n → c.1 (b + 9) i = nI (D.en i)) ∧
  (∀ i, i < D.n → c.1 (b + 11) i = if D.kd i = 0 then D.sp i else -1) ∧
  (∀ i, i < D.n → ∀ j, j < 64 → tb (c.2.1 (b + 13) i) j = decide (0 < j ∧ j < D.n ∧ D.up j = i)) ∧
  (∀ i, i < D.n → ∀ j, j < 64 → tb (c.2.1 (b + 15) i) j = decide (0 < i ∧ D.kd i ≠ 2 ∧ 0 < j ∧ j < D.n ∧ D.up j = D.up i ∧ D.kd j ≠ 2)) ∧
  (∀ i, i < D.n → ∀ j, j < 64 → tb (c.2.1 (b + 17) i) j = decide (j < i ∧ i < D.en j)) ∧
  (∀ i, i < D.n → ∀ j, j < 64 → tb (c.2.1 (b + 19) i) j = decide (i < j ∧ j < D.en i)) ∧
  (∀ t, t < 14 → ∀ j, j < 64 → tb (c.2.1 (b + 21) t) j = (decide (j < D.n) && D.tst t j)) ∧
  (∀ j, j < 64 → tb (c.2.2.2.1 (b + 1) 10) j = decide (j < D.n ∧ D.kd j = 0)) ∧
  (∀ j, j < 64 → tb (c.2.2.2.1 (b + 1) 11) j = decide (j < D.n ∧ D.kd j = 2))
/-- the nodes of the tree at b, with its links, are the document's; m were made -/
def Nod (c : tc_C) (b : Nat) (D : Doc) (m : Nat) : Prop :=
  m ≤ 60 ∧ (∀ i, i < D.n → D.ord i < m) ∧ c.2.2.1 b 10 = nI m ∧
  (∀ i, i < D.n → c.1 (b + 23) (D.ord i) = D.kd i) ∧
  (∀ i, i < D.n → c.1 (b + 25) (D.ord i) = D.nm i) ∧
  (∀ i, i < D.n → c.1 (b + 27) (D.ord i) = D.vl i) ∧
  (∀ i, i < D.n → c.1 (b + 29) (D.ord i) = D.dc i) ∧
  (∀ i, i < D.n → c.1 (b + 31) (D.ord i) = if i = 0 then -1 else nI (D.ord (D.up i))) ∧
  (∀ i, i < D.n → c.1 (b + 35) (D.ord i) = if i + 1 < D.en i then nI (D.ord (i + 1)) else -1) ∧
  (∀ i, i < D.n → c.1 (b + 37) (D.ord i) = if 0 < i ∧ D.en i < D.en (D.up i) then nI (D.ord (D.en i)) else -1)
