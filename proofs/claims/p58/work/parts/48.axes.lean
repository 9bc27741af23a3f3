/-! ===== sets by what is in them ===== -/
def mkS' (P : Nat → Bool) : Nat → Int64
  | 0 => 0
  | k + 1 => if P k then mkS' P k ||| b1 k else mkS' P k
def mkS (P : Nat → Bool) : Int64 := mkS' P 64
theorem tb_mkS' (P : Nat → Bool) (j : Nat) (hj : j < 64) : ∀ k, tb (mkS' P k) j = (decide (j < k) && P j)
  | 0 => by simp [mkS', tb_0]
  | k + 1 => by
    unfold mkS'
    by_cases e : j = k
    · subst e
      cases hp : P j with
      | true => rw [if_pos rfl, tb_or, tb_b1, tb_mkS' P j hj j]; simp [hj, hp]
      | false => rw [if_neg (by decide), tb_mkS' P j hj j]; simp [hp]
    · have h2 : (j < k + 1) ↔ j < k := by omega
      split
      · rw [tb_or, tb_b1, tb_mkS' P j hj k]; simp [e, h2]
      · rw [tb_mkS' P j hj k]; simp [h2]
theorem tb_mkS (P : Nat → Bool) (j : Nat) : tb (mkS P) j = (decide (j < 64) && P j) := by
  by_cases h : j < 64
  · rw [mkS, tb_mkS' P j h]
  · rw [tb_big (by omega)]; simp [h]
theorem mkS_of {x : Int64} {P : Nat → Bool} (h : ∀ j, j < 64 → tb x j = P j) : x = mkS P := tb_ext fun j hj => by rw [h j hj, tb_mkS]; simp [hj]
theorem mkS_cong {P Q : Nat → Bool} (h : ∀ j, j < 64 → P j = Q j) : mkS P = mkS Q := mkS_of fun j hj => by rw [tb_mkS, h j hj]; simp [hj]
theorem mkS_and (P Q : Nat → Bool) : mkS P &&& mkS Q = mkS (fun j => P j && Q j) := mkS_of fun j hj => by rw [tb_and, tb_mkS, tb_mkS]; simp [hj]
theorem mkS_or (P Q : Nat → Bool) : mkS P ||| mkS Q = mkS (fun j => P j || Q j) := mkS_of fun j hj => by rw [tb_or, tb_mkS, tb_mkS]; simp [hj]
theorem mkS_xor (P Q : Nat → Bool) : mkS P ^^^ mkS Q = mkS (fun j => P j ^^ Q j) := mkS_of fun j hj => by rw [tb_xor, tb_mkS, tb_mkS]; simp [hj]
theorem mkS_not (P : Nat → Bool) : mkS P ^^^ (-1) = mkS (fun j => !P j) := mkS_of fun j hj => by rw [tb_not, tb_mkS]; simp [hj]
theorem mkS_0 : (0 : Int64) = mkS (fun _ => false) := mkS_of fun j _ => by rw [tb_0]
theorem mkS_b1 (m : Nat) : b1 m = mkS (fun j => decide (j = m)) := mkS_of fun j hj => by rw [tb_b1]; simp [hj]
theorem mkS_bb (e : Nat) : bb e = mkS (fun j => decide (j < e)) := mkS_of fun j hj => by rw [tb_bb]; simp [hj]
theorem mkS_eq {P Q : Nat → Bool} : mkS P = mkS Q ↔ ∀ j, j < 64 → P j = Q j := by
  constructor
  · intro h j hj
    have := congrArg (fun x => tb x j) h
    simpa [tb_mkS, hj] using this
  · exact mkS_cong
theorem mkS_z (P : Nat → Bool) : mkS P = 0 ↔ ∀ j, j < 64 → P j = false := by rw [mkS_0]; exact mkS_eq
theorem ct_mkS (P : Nat → Bool) : fb_ct (tb (mkS P)) 64 = fb_ct P 64 := fb_ct_cong fun k hk => by rw [tb_mkS]; simp [hk]
/-! ===== the axes on spots ===== -/
def Doc.ax (D : Doc) (a i j : Nat) : Bool := decide (j < D.n) && (
  if a = 0 then decide (j = i) else
  if a = 1 then decide (0 < j ∧ D.up j = i ∧ D.kd j ≠ 2) else
  if a = 2 then decide (0 < i ∧ j = D.up i) else
  if a = 3 then decide (i < j ∧ j < D.en i ∧ D.kd j ≠ 2) else
  if a = 4 then decide ((i < j ∧ j < D.en i ∧ D.kd j ≠ 2) ∨ j = i) else
  if a = 5 then decide (j < i ∧ i < D.en j) else
  if a = 6 then decide ((j < i ∧ i < D.en j) ∨ j = i) else
  if a = 7 then decide (D.en i ≤ j ∧ D.kd j ≠ 2) else
  if a = 8 then decide (j < i ∧ D.kd j ≠ 2 ∧ ¬ i < D.en j) else
  if a = 9 then decide (0 < i ∧ D.kd i ≠ 2 ∧ 0 < j ∧ D.up j = D.up i ∧ D.kd j ≠ 2 ∧ i < j) else
  if a = 10 then decide (0 < i ∧ D.kd i ≠ 2 ∧ 0 < j ∧ D.up j = D.up i ∧ D.kd j ≠ 2 ∧ j < i) else
  if a = 11 then decide (0 < j ∧ D.up j = i ∧ D.kd j = 2) else false)
section RD
variable {S : tq_H} {c : tc_C} {b i : Nat} {D : Doc}
theorem lay_n (h : Lay c b D) : c.2.2.1 (b + 1) 12 = nI D.n := h.1
theorem lay_ord (h : Lay c b D) {i : Nat} (hi : i < D.n) : c.1 (b + 3) i = nI (D.ord i) := h.2.1 i hi
theorem lay_spot (h : Lay c b D) {i : Nat} (hi : i < D.n) : c.1 (b + 5) (D.ord i) = nI i := h.2.2.1 i hi
theorem lay_nospot (h : Lay c b D) {v : Nat} (hv : v < 60) (hz : ∀ i, i < D.n → D.ord i ≠ v) : c.1 (b + 5) v = -1 := h.2.2.2.1 v hv hz
theorem lay_up (h : Lay c b D) {i : Nat} (hi : i < D.n) : c.1 (b + 7) i = D.upI i := h.2.2.2.2.1 i hi
theorem lay_en (h : Lay c b D) {i : Nat} (hi : i < D.n) : c.1 (b + 9) i = nI (D.en i) := h.2.2.2.2.2.1 i hi
theorem lay_sp (h : Lay c b D) {i : Nat} (hi : i < D.n) : c.1 (b + 11) i = if D.kd i = 0 then D.sp i else -1 := h.2.2.2.2.2.2.1 i hi
theorem lay_inner (h : Lay c b D) {i : Nat} (hi : i < D.n) : c.2.1 (b + 13) i = mkS (fun j => decide (0 < j ∧ j < D.n ∧ D.up j = i)) := mkS_of (h.2.2.2.2.2.2.2.1 i hi)
theorem lay_beside (h : Lay c b D) {i : Nat} (hi : i < D.n) : c.2.1 (b + 15) i = mkS (fun j => decide (0 < i ∧ D.kd i ≠ 2 ∧ 0 < j ∧ j < D.n ∧ D.up j = D.up i ∧ D.kd j ≠ 2)) := mkS_of (h.2.2.2.2.2.2.2.2.1 i hi)
theorem lay_above (h : Lay c b D) {i : Nat} (hi : i < D.n) : c.2.1 (b + 17) i = mkS (fun j => decide (j < i ∧ i < D.en j)) := mkS_of (h.2.2.2.2.2.2.2.2.2.1 i hi)
theorem lay_below (h : Lay c b D) {i : Nat} (hi : i < D.n) : c.2.1 (b + 19) i = mkS (fun j => decide (i < j ∧ j < D.en i)) := mkS_of (h.2.2.2.2.2.2.2.2.2.2.1 i hi)
theorem lay_tests (h : Lay c b D) {t : Nat} (ht : t < 14) : c.2.1 (b + 21) t = mkS (fun j => decide (j < D.n) && D.tst t j) := mkS_of (h.2.2.2.2.2.2.2.2.2.2.2.1 t ht)
theorem lay_elems (h : Lay c b D) : c.2.2.2.1 (b + 1) 10 = mkS (fun j => decide (j < D.n ∧ D.kd j = 0)) := mkS_of h.2.2.2.2.2.2.2.2.2.2.2.2.1
theorem lay_attrs (h : Lay c b D) : c.2.2.2.1 (b + 1) 11 = mkS (fun j => decide (j < D.n ∧ D.kd j = 2)) := mkS_of h.2.2.2.2.2.2.2.2.2.2.2.2.2
theorem s_X3_reached (hT : tc_Tree S b) (hw : D.wf) (hL : Lay c b D) (hi : i < D.n) {a : Nat} (ha : a < 12) : f_X3_reached (b + 1) (nI a) (nI i) (tc_mk S c) = some (mkS (D.ax a i)) := by
  have hn := D.n_le hw
  have hi60 : i < 60 := by omega
  have g1 : ∀ f : Nat → Int64, sg 60 f (nI i) = f i := fun f => sg_in f hi60 (by decide)
  have g2 : ∀ f : Nat → Int32, rg 60 f (nI i) = f i := fun f => rg_in f hi60 (by decide)
  have g3 : nI i + 1 = nI (i + 1) := nI_1 i
  have g4 : oneI (nI i) = b1 i := oneI_in (by omega)
  have g5 : belI (nI i) = bb i := belI_in (by omega)
  have g6 : belI (nI (i + 1)) = bb (i + 1) := belI_in (by omega)
  have g7 : belI (nI D.n) = bb D.n := belI_in (by omega)
  have g8 : belI (nI (D.en i)) = bb (D.en i) := belI_in (by have := D.en_le hw hi; omega)
  have hc : a = 0 ∨ a = 1 ∨ a = 2 ∨ a = 3 ∨ a = 4 ∨ a = 5 ∨ a = 6 ∨ a = 7 ∨ a = 8 ∨ a = 9 ∨ a = 10 ∨ a = 11 := by omega
  have hu : 0 < i → D.up i < i := fun h => D.up_lt hw h hi
  have hen := D.en_le hw hi
  rcases hc with rfl | rfl | rfl | rfl | rfl | rfl | rfl | rfl | rfl | rfl | rfl | rfl
  all_goals
    unfold f_X3_reached
    simp (decide := true) only [↓reduceIte]
    simp (maxSteps := 3000000) (disch := omega) only [Option.bind_some, tc_bs, tq_let, tc_I1, tc_I2, tc_J1, tc_J2, tc_J3, tc_F1, tc_F2, tc_F3, tc_F4, tc_G1, tc_G2, tc_G3, tc_G4, tc_G5, tc_us, tc_un, s_one, s_holds, s_J13_bitCount, bz_bI, hT.f, s_below, g1, g2, g3, g4, g5, g6, g7, g8, lay_n hL, lay_up hL hi, lay_en hL hi, lay_inner hL hi, lay_beside hL hi, lay_above hL hi, lay_below hL hi, lay_attrs hL, mkS_b1, mkS_bb, mkS_not, mkS_and, mkS_or]
  -- PARENT has its own way
  rotate_left 2
  · unfold Doc.upI
    by_cases z : i = 0
    · rw [if_pos z, oneI_n, mkS_0]
      congr 1
      apply mkS_cong
      intro j hj
      unfold Doc.ax
      simp [z]
    · have := hu (Nat.pos_of_ne_zero z)
      rw [if_neg z, oneI_in (by omega), mkS_b1]
      congr 1
      apply mkS_cong
      intro j hj
      unfold Doc.ax
      apply Bool.ext_iff
      simp
      omega
  rotate_left 9
  all_goals
    congr 1
    apply mkS_cong
    intro j hj
    unfold Doc.ax
    apply Bool.ext_iff
    simp
  all_goals first | omega | grind
end RD
