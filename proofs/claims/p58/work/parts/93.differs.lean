/-! ===== two trees compared at a node ===== -/
def Doc.has (D : Doc) (v : Nat) : Bool := anyB (fun i => decide (D.ord i = v)) D.n
def Doc.ix (D : Doc) (v : Nat) : Nat := D.ps (nI v) D.n - 1
def Doc.sam (D E : Doc) (v : Nat) : Bool := decide (D.upN (D.ix v) = E.upN (E.ix v)) && (decide (D.nm (D.ix v) = E.nm (E.ix v)) && (decide (D.vl (D.ix v) = E.vl (E.ix v)) && decide (D.dc (D.ix v) = E.dc (E.ix v))))
def Doc.dif (D E : Doc) (v : Nat) : Bool := if D.has v = E.has v then D.has v && !D.sam E v else true
/-- what the reference keeps of a version -/
def KV (c : tc_C) (k : Nat) (D : Doc) : Prop :=
  (∀ i, i < D.n → c.1 194 (60 * k + D.ord i) = 1) ∧ (∀ v, v < 60 → D.has v = false → c.1 194 (60 * k + v) = 0) ∧
  (∀ i, i < D.n → c.1 195 (60 * k + D.ord i) = D.nm i) ∧ (∀ i, i < D.n → c.1 196 (60 * k + D.ord i) = D.vl i) ∧ (∀ i, i < D.n → c.1 197 (60 * k + D.ord i) = D.dc i) ∧
  (∀ i, i < D.n → c.1 198 (60 * k + D.ord i) = D.upN i) ∧ (∀ i, 0 < i → i < D.n → D.kd i ≠ 2 → c.1 199 (60 * k + D.ord i) = nI (D.rk i))
section DIF
variable {S : tq_H} {c c' : tc_C} {b e p k l m r z i j v mb : Nat} {D E : Doc}
theorem Doc.has_iff : D.has v = true ↔ ∃ i, i < D.n ∧ D.ord i = v := by
  unfold Doc.has
  rw [anyB_iff]
  constructor
  · rintro ⟨i, hi, h⟩; exact ⟨i, hi, of_decide_eq_true h⟩
  · rintro ⟨i, hi, h⟩; exact ⟨i, hi, decide_eq_true h⟩
theorem Doc.ix_in (hw : D.wf) (h : D.has v = true) : D.ix v < D.n ∧ D.ord (D.ix v) = v := by
  obtain ⟨i, hi, rfl⟩ := Doc.has_iff.mp h
  unfold Doc.ix
  rw [D.ps_in hw hi D.n (Nat.le_refl _) hi, Nat.add_sub_cancel]
  exact ⟨hi, rfl⟩
theorem Doc.ix_ord (hw : D.wf) (hi : i < D.n) : D.ix (D.ord i) = i := by
  unfold Doc.ix
  rw [D.ps_in hw hi D.n (Nat.le_refl _) hi, Nat.add_sub_cancel]
theorem Doc.has_ord (hi : i < D.n) : D.has (D.ord i) = true := Doc.has_iff.mpr ⟨i, hi, rfl⟩
theorem s_X3_hold (hT : tc_Tree S b) (hw : D.wf) (hL : Lay c b D) (hv : v < 60) : f_X3_holds (b + 1) (nI v) (tc_mk S c) = some (bI (D.has v)) := by
  rw [s_X3_holds hT]
  have hn := D.n_le hw
  refine congrArg some (congrArg bI ?_)
  cases h : D.has v with
  | true =>
    obtain ⟨h1, h2⟩ := D.ix_in hw h
    rw [lay_at hw hL (i := D.ix v) ⟨h1, by rw [h2]⟩]
    exact decide_eq_true (nI_nm1 (by omega))
  | false =>
    rw [lay_noat hw hL (fun i hA => by
      obtain ⟨h1, h2⟩ := hA
      have ho := D.ord_lt hw h1
      have : v = D.ord i := (nI_eq (by omega) (by omega)).mp h2
      rw [this, D.has_ord h1] at h; cases h)]
    simp
theorem s_differs (hT : tc_Tree S b) (hE : tc_Tree S e) (hw : D.wf) (hw2 : E.wf) (hL : Lay c b D) (hL2 : Lay c e E) (hN : Nod c b D m) (hN2 : Nod c e E mb) (hv : v < 60) : f_X8_differs b e (nI v) (tc_mk S c) = some (bI (D.dif E v)) := by
  have hb0 : tq_gr (tc_mk S c) b 8 0 = some (b + 1) := by simp (maxSteps := 3000000) (disch := omega) only [Option.bind_some, tc_bs, tq_let, tc_I1, tc_I2, tc_J1, tc_J2, tc_J3, tc_F1, tc_F2, tc_F3, tc_F4, tc_G1, tc_G2, tc_G3, tc_G4, tc_G5, tc_us, tc_un, s_one, s_holds, s_J13_bitCount, bz_bI, hT.f]
  have he0 : tq_gr (tc_mk S c) e 8 0 = some (e + 1) := by simp (maxSteps := 3000000) (disch := omega) only [Option.bind_some, tc_bs, tq_let, tc_I1, tc_I2, tc_J1, tc_J2, tc_J3, tc_F1, tc_F2, tc_F3, tc_F4, tc_G1, tc_G2, tc_G3, tc_G4, tc_G5, tc_us, tc_un, s_one, s_holds, s_J13_bitCount, bz_bI, hE.f]
  have hlb : tq_is (tc_mk S c) (b + 1) 3 = some () := tc_is hT.2.1
  have hle : tq_is (tc_mk S c) (e + 1) 3 = some () := tc_is hE.2.1
  unfold f_X8_differs Doc.dif
  simp only [hb0, he0, hlb, hle, s_X3_hold hT hw hL hv, s_X3_hold hE hw2 hL2 hv, Option.bind_some]
  have hbb : ∀ x y : Bool, (bI x = bI y) ↔ x = y := by decide
  by_cases h : D.has v = E.has v
  · rw [if_pos ((hbb _ _).mpr h), if_pos h]
    cases hd : D.has v with
    | false => rw [if_pos (by decide)]; rfl
    | true =>
      rw [hd] at h
      obtain ⟨i1, i2⟩ := D.ix_in hw hd
      obtain ⟨j1, j2⟩ := E.ix_in hw2 h.symm
      rw [if_neg (by decide)]
      have gb : ∀ t q, (t, q) ∈ [(5, b + 30), (2, b + 24), (3, b + 26), (4, b + 28)] → tq_gr (tc_mk S c) b 8 t = some q ∧ tq_is (tc_mk S c) q 5 = some () := by
        intro t q hq
        simp only [List.mem_cons, Prod.mk.injEq, List.not_mem_nil, or_false] at hq
        rcases hq with ⟨rfl, rfl⟩ | ⟨rfl, rfl⟩ | ⟨rfl, rfl⟩ | ⟨rfl, rfl⟩ <;> (constructor <;> simp (maxSteps := 3000000) (disch := omega) only [Option.bind_some, tc_bs, tq_let, tc_I1, tc_I2, tc_J1, tc_J2, tc_J3, tc_F1, tc_F2, tc_F3, tc_F4, tc_G1, tc_G2, tc_G3, tc_G4, tc_G5, tc_us, tc_un, s_one, s_holds, s_J13_bitCount, bz_bI, hT.f])
      have ge : ∀ t q, (t, q) ∈ [(5, e + 30), (2, e + 24), (3, e + 26), (4, e + 28)] → tq_gr (tc_mk S c) e 8 t = some q ∧ tq_is (tc_mk S c) q 5 = some () := by
        intro t q hq
        simp only [List.mem_cons, Prod.mk.injEq, List.not_mem_nil, or_false] at hq
        rcases hq with ⟨rfl, rfl⟩ | ⟨rfl, rfl⟩ | ⟨rfl, rfl⟩ | ⟨rfl, rfl⟩ <;> (constructor <;> simp (maxSteps := 3000000) (disch := omega) only [Option.bind_some, tc_bs, tq_let, tc_I1, tc_I2, tc_J1, tc_J2, tc_J3, tc_F1, tc_F2, tc_F3, tc_F4, tc_G1, tc_G2, tc_G3, tc_G4, tc_G5, tc_us, tc_un, s_one, s_holds, s_J13_bitCount, bz_bI, hE.f])
      have ro := rg_in (n := 60) (k := v)
      have b5 : f_X5_get (b + 30) (nI v) (tc_mk S c) = some (D.upN (D.ix v)) := by
        simp (maxSteps := 3000000) (disch := omega) only [Option.bind_some, tc_bs, tq_let, tc_I1, tc_I2, tc_J1, tc_J2, tc_J3, tc_F1, tc_F2, tc_F3, tc_F4, tc_G1, tc_G2, tc_G3, tc_G4, tc_G5, tc_us, tc_un, s_one, s_holds, s_J13_bitCount, bz_bI, hT.f, ro _ hv (by decide)]
        have := hN.2.2.2.2.2.2.2.1 _ i1
        rw [i2] at this; rw [this]; rfl
      have b2 : f_X5_get (b + 24) (nI v) (tc_mk S c) = some (D.nm (D.ix v)) := by
        simp (maxSteps := 3000000) (disch := omega) only [Option.bind_some, tc_bs, tq_let, tc_I1, tc_I2, tc_J1, tc_J2, tc_J3, tc_F1, tc_F2, tc_F3, tc_F4, tc_G1, tc_G2, tc_G3, tc_G4, tc_G5, tc_us, tc_un, s_one, s_holds, s_J13_bitCount, bz_bI, hT.f, ro _ hv (by decide)]
        have := hN.2.2.2.2.1 _ i1
        rw [i2] at this; rw [this]
      have b3 : f_X5_get (b + 26) (nI v) (tc_mk S c) = some (D.vl (D.ix v)) := by
        simp (maxSteps := 3000000) (disch := omega) only [Option.bind_some, tc_bs, tq_let, tc_I1, tc_I2, tc_J1, tc_J2, tc_J3, tc_F1, tc_F2, tc_F3, tc_F4, tc_G1, tc_G2, tc_G3, tc_G4, tc_G5, tc_us, tc_un, s_one, s_holds, s_J13_bitCount, bz_bI, hT.f, ro _ hv (by decide)]
        have := hN.2.2.2.2.2.1 _ i1
        rw [i2] at this; rw [this]
      have b4 : f_X5_get (b + 28) (nI v) (tc_mk S c) = some (D.dc (D.ix v)) := by
        simp (maxSteps := 3000000) (disch := omega) only [Option.bind_some, tc_bs, tq_let, tc_I1, tc_I2, tc_J1, tc_J2, tc_J3, tc_F1, tc_F2, tc_F3, tc_F4, tc_G1, tc_G2, tc_G3, tc_G4, tc_G5, tc_us, tc_un, s_one, s_holds, s_J13_bitCount, bz_bI, hT.f, ro _ hv (by decide)]
        have := hN.2.2.2.2.2.2.1 _ i1
        rw [i2] at this; rw [this]
      have e5 : f_X5_get (e + 30) (nI v) (tc_mk S c) = some (E.upN (E.ix v)) := by
        simp (maxSteps := 3000000) (disch := omega) only [Option.bind_some, tc_bs, tq_let, tc_I1, tc_I2, tc_J1, tc_J2, tc_J3, tc_F1, tc_F2, tc_F3, tc_F4, tc_G1, tc_G2, tc_G3, tc_G4, tc_G5, tc_us, tc_un, s_one, s_holds, s_J13_bitCount, bz_bI, hE.f, ro _ hv (by decide)]
        have := hN2.2.2.2.2.2.2.2.1 _ j1
        rw [j2] at this; rw [this]; rfl
      have e2 : f_X5_get (e + 24) (nI v) (tc_mk S c) = some (E.nm (E.ix v)) := by
        simp (maxSteps := 3000000) (disch := omega) only [Option.bind_some, tc_bs, tq_let, tc_I1, tc_I2, tc_J1, tc_J2, tc_J3, tc_F1, tc_F2, tc_F3, tc_F4, tc_G1, tc_G2, tc_G3, tc_G4, tc_G5, tc_us, tc_un, s_one, s_holds, s_J13_bitCount, bz_bI, hE.f, ro _ hv (by decide)]
        have := hN2.2.2.2.2.1 _ j1
        rw [j2] at this; rw [this]
      have e3 : f_X5_get (e + 26) (nI v) (tc_mk S c) = some (E.vl (E.ix v)) := by
        simp (maxSteps := 3000000) (disch := omega) only [Option.bind_some, tc_bs, tq_let, tc_I1, tc_I2, tc_J1, tc_J2, tc_J3, tc_F1, tc_F2, tc_F3, tc_F4, tc_G1, tc_G2, tc_G3, tc_G4, tc_G5, tc_us, tc_un, s_one, s_holds, s_J13_bitCount, bz_bI, hE.f, ro _ hv (by decide)]
        have := hN2.2.2.2.2.2.1 _ j1
        rw [j2] at this; rw [this]
      have e4 : f_X5_get (e + 28) (nI v) (tc_mk S c) = some (E.dc (E.ix v)) := by
        simp (maxSteps := 3000000) (disch := omega) only [Option.bind_some, tc_bs, tq_let, tc_I1, tc_I2, tc_J1, tc_J2, tc_J3, tc_F1, tc_F2, tc_F3, tc_F4, tc_G1, tc_G2, tc_G3, tc_G4, tc_G5, tc_us, tc_un, s_one, s_holds, s_J13_bitCount, bz_bI, hE.f, ro _ hv (by decide)]
        have := hN2.2.2.2.2.2.2.1 _ j1
        rw [j2] at this; rw [this]
      simp only [(gb 5 (b + 30) (by simp)).1, (gb 2 (b + 24) (by simp)).1, (gb 3 (b + 26) (by simp)).1, (gb 4 (b + 28) (by simp)).1, (ge 5 (e + 30) (by simp)).1, (ge 2 (e + 24) (by simp)).1, (ge 3 (e + 26) (by simp)).1, (ge 4 (e + 28) (by simp)).1,
        (gb 5 (b + 30) (by simp)).2, (gb 2 (b + 24) (by simp)).2, (gb 3 (b + 26) (by simp)).2, (gb 4 (b + 28) (by simp)).2, (ge 5 (e + 30) (by simp)).2, (ge 2 (e + 24) (by simp)).2, (ge 3 (e + 26) (by simp)).2, (ge 4 (e + 28) (by simp)).2, b5, b2, b3, b4, e5, e2, e3, e4, Option.bind_some]
      unfold Doc.sam
      by_cases q1 : D.upN (D.ix v) = E.upN (E.ix v)
      · rw [if_pos q1]
        by_cases q2 : D.nm (D.ix v) = E.nm (E.ix v)
        · rw [if_pos q2]
          by_cases q3 : D.vl (D.ix v) = E.vl (E.ix v)
          · rw [if_pos q3]
            by_cases q4 : D.dc (D.ix v) = E.dc (E.ix v)
            · rw [if_pos q4]; simp [q1, q2, q3, q4, bI, tq_bz]
            · rw [if_neg q4]; simp [q4, bI, tq_bz]
          · rw [if_neg q3]; simp [q3, bI, tq_bz]
        · rw [if_neg q2]; simp [q2, bI, tq_bz]
      · rw [if_neg q1]; simp [q1, bI, tq_bz]
  · rw [if_neg (fun w => h ((hbb _ _).mp w)), if_neg h]; rfl
theorem s_looksLike (hT : tc_Tree S b) (hE : tc_Tree S e) (hw : D.wf) (hw2 : E.wf) (hN : Nod c b D m) (hN2 : Nod c e E mb) (hi : i < D.n) (hj : j < E.n) : f_X8_looksLike b (nI (D.ord i)) e (nI (E.ord j)) (tc_mk S c) = some (bI (decide (D.kd i = E.kd j ∧ D.nm i = E.nm j ∧ D.vl i = E.vl j ∧ D.dc i = E.dc j))) := by
  have oi := D.ord_lt hw hi
  have oj := E.ord_lt hw2 hj
  have gb : ∀ t q, (t, q) ∈ [(1, b + 22), (2, b + 24), (3, b + 26), (4, b + 28)] → tq_gr (tc_mk S c) b 8 t = some q ∧ tq_is (tc_mk S c) q 5 = some () := by
    intro t q hq
    simp only [List.mem_cons, Prod.mk.injEq, List.not_mem_nil, or_false] at hq
    rcases hq with ⟨rfl, rfl⟩ | ⟨rfl, rfl⟩ | ⟨rfl, rfl⟩ | ⟨rfl, rfl⟩ <;> (constructor <;> simp (maxSteps := 3000000) (disch := omega) only [Option.bind_some, tc_bs, tq_let, tc_I1, tc_I2, tc_J1, tc_J2, tc_J3, tc_F1, tc_F2, tc_F3, tc_F4, tc_G1, tc_G2, tc_G3, tc_G4, tc_G5, tc_us, tc_un, s_one, s_holds, s_J13_bitCount, bz_bI, hT.f])
  have ge : ∀ t q, (t, q) ∈ [(1, e + 22), (2, e + 24), (3, e + 26), (4, e + 28)] → tq_gr (tc_mk S c) e 8 t = some q ∧ tq_is (tc_mk S c) q 5 = some () := by
    intro t q hq
    simp only [List.mem_cons, Prod.mk.injEq, List.not_mem_nil, or_false] at hq
    rcases hq with ⟨rfl, rfl⟩ | ⟨rfl, rfl⟩ | ⟨rfl, rfl⟩ | ⟨rfl, rfl⟩ <;> (constructor <;> simp (maxSteps := 3000000) (disch := omega) only [Option.bind_some, tc_bs, tq_let, tc_I1, tc_I2, tc_J1, tc_J2, tc_J3, tc_F1, tc_F2, tc_F3, tc_F4, tc_G1, tc_G2, tc_G3, tc_G4, tc_G5, tc_us, tc_un, s_one, s_holds, s_J13_bitCount, bz_bI, hE.f])
  obtain ⟨-, -, -, n1, n2, n3, n4, -⟩ := hN
  obtain ⟨-, -, -, p1, p2, p3, p4, -⟩ := hN2
  have b1 : f_X5_get (b + 22) (nI (D.ord i)) (tc_mk S c) = some (D.kd i) := by simp (maxSteps := 3000000) (disch := omega) only [Option.bind_some, tc_bs, tq_let, tc_I1, tc_I2, tc_J1, tc_J2, tc_J3, tc_F1, tc_F2, tc_F3, tc_F4, tc_G1, tc_G2, tc_G3, tc_G4, tc_G5, tc_us, tc_un, s_one, s_holds, s_J13_bitCount, bz_bI, hT.f]; rw [rg_ord hw hi, n1 i hi]
  have b2 : f_X5_get (b + 24) (nI (D.ord i)) (tc_mk S c) = some (D.nm i) := by simp (maxSteps := 3000000) (disch := omega) only [Option.bind_some, tc_bs, tq_let, tc_I1, tc_I2, tc_J1, tc_J2, tc_J3, tc_F1, tc_F2, tc_F3, tc_F4, tc_G1, tc_G2, tc_G3, tc_G4, tc_G5, tc_us, tc_un, s_one, s_holds, s_J13_bitCount, bz_bI, hT.f]; rw [rg_ord hw hi, n2 i hi]
  have b3 : f_X5_get (b + 26) (nI (D.ord i)) (tc_mk S c) = some (D.vl i) := by simp (maxSteps := 3000000) (disch := omega) only [Option.bind_some, tc_bs, tq_let, tc_I1, tc_I2, tc_J1, tc_J2, tc_J3, tc_F1, tc_F2, tc_F3, tc_F4, tc_G1, tc_G2, tc_G3, tc_G4, tc_G5, tc_us, tc_un, s_one, s_holds, s_J13_bitCount, bz_bI, hT.f]; rw [rg_ord hw hi, n3 i hi]
  have b4 : f_X5_get (b + 28) (nI (D.ord i)) (tc_mk S c) = some (D.dc i) := by simp (maxSteps := 3000000) (disch := omega) only [Option.bind_some, tc_bs, tq_let, tc_I1, tc_I2, tc_J1, tc_J2, tc_J3, tc_F1, tc_F2, tc_F3, tc_F4, tc_G1, tc_G2, tc_G3, tc_G4, tc_G5, tc_us, tc_un, s_one, s_holds, s_J13_bitCount, bz_bI, hT.f]; rw [rg_ord hw hi, n4 i hi]
  have e1 : f_X5_get (e + 22) (nI (E.ord j)) (tc_mk S c) = some (E.kd j) := by simp (maxSteps := 3000000) (disch := omega) only [Option.bind_some, tc_bs, tq_let, tc_I1, tc_I2, tc_J1, tc_J2, tc_J3, tc_F1, tc_F2, tc_F3, tc_F4, tc_G1, tc_G2, tc_G3, tc_G4, tc_G5, tc_us, tc_un, s_one, s_holds, s_J13_bitCount, bz_bI, hE.f]; rw [rg_ord hw2 hj, p1 j hj]
  have e2 : f_X5_get (e + 24) (nI (E.ord j)) (tc_mk S c) = some (E.nm j) := by simp (maxSteps := 3000000) (disch := omega) only [Option.bind_some, tc_bs, tq_let, tc_I1, tc_I2, tc_J1, tc_J2, tc_J3, tc_F1, tc_F2, tc_F3, tc_F4, tc_G1, tc_G2, tc_G3, tc_G4, tc_G5, tc_us, tc_un, s_one, s_holds, s_J13_bitCount, bz_bI, hE.f]; rw [rg_ord hw2 hj, p2 j hj]
  have e3 : f_X5_get (e + 26) (nI (E.ord j)) (tc_mk S c) = some (E.vl j) := by simp (maxSteps := 3000000) (disch := omega) only [Option.bind_some, tc_bs, tq_let, tc_I1, tc_I2, tc_J1, tc_J2, tc_J3, tc_F1, tc_F2, tc_F3, tc_F4, tc_G1, tc_G2, tc_G3, tc_G4, tc_G5, tc_us, tc_un, s_one, s_holds, s_J13_bitCount, bz_bI, hE.f]; rw [rg_ord hw2 hj, p3 j hj]
  have e4 : f_X5_get (e + 28) (nI (E.ord j)) (tc_mk S c) = some (E.dc j) := by simp (maxSteps := 3000000) (disch := omega) only [Option.bind_some, tc_bs, tq_let, tc_I1, tc_I2, tc_J1, tc_J2, tc_J3, tc_F1, tc_F2, tc_F3, tc_F4, tc_G1, tc_G2, tc_G3, tc_G4, tc_G5, tc_us, tc_un, s_one, s_holds, s_J13_bitCount, bz_bI, hE.f]; rw [rg_ord hw2 hj, p4 j hj]
  unfold f_X8_looksLike
  simp only [(gb 1 (b + 22) (by simp)).1, (gb 2 (b + 24) (by simp)).1, (gb 3 (b + 26) (by simp)).1, (gb 4 (b + 28) (by simp)).1, (ge 1 (e + 22) (by simp)).1, (ge 2 (e + 24) (by simp)).1, (ge 3 (e + 26) (by simp)).1, (ge 4 (e + 28) (by simp)).1,
    (gb 1 (b + 22) (by simp)).2, (gb 2 (b + 24) (by simp)).2, (gb 3 (b + 26) (by simp)).2, (gb 4 (b + 28) (by simp)).2, (ge 1 (e + 22) (by simp)).2, (ge 2 (e + 24) (by simp)).2, (ge 3 (e + 26) (by simp)).2, (ge 4 (e + 28) (by simp)).2, b1, b2, b3, b4, e1, e2, e3, e4, Option.bind_some]
  by_cases q1 : D.kd i = E.kd j
  · rw [if_pos q1]
    by_cases q2 : D.nm i = E.nm j
    · rw [if_pos q2]
      by_cases q3 : D.vl i = E.vl j
      · rw [if_pos q3]
        by_cases q4 : D.dc i = E.dc j
        · rw [if_pos q4]; simp [q1, q2, q3, q4, bI, tq_bz]
        · rw [if_neg q4]; simp [q4, bI, tq_bz]
      · rw [if_neg q3]; simp [q3, bI, tq_bz]
    · rw [if_neg q2]; simp [q2, bI, tq_bz]
  · rw [if_neg q1]; simp [q1, bI, tq_bz]
theorem s_X11_differ (hM : tc_Mod S z) (hw : D.wf) (hw2 : E.wf) (hk : k < 6) (hl : l < 6) (h1 : KV c k D) (h2 : KV c l E) (hv : v < 60) : f_X11_differ 155 (nI (60 * k + v)) (nI (60 * l + v)) (tc_mk S c) = some (bI (D.dif E v)) := by
  have gr : ∀ t q, (t, q) ∈ [(50, 194), (51, 195), (52, 196), (53, 197), (54, 198)] → tq_gr (tc_mk S c) 155 11 t = some q := by
    intro t q hq
    simp only [List.mem_cons, Prod.mk.injEq, List.not_mem_nil, or_false] at hq
    rcases hq with ⟨rfl, rfl⟩ | ⟨rfl, rfl⟩ | ⟨rfl, rfl⟩ | ⟨rfl, rfl⟩ | ⟨rfl, rfl⟩ <;> simp (maxSteps := 3000000) (disch := omega) only [Option.bind_some, tc_bs, tq_let, tc_I1, tc_I2, tc_J1, tc_J2, tc_J3, tc_F1, tc_F2, tc_F3, tc_F4, tc_G1, tc_G2, tc_G3, tc_G4, tc_G5, tc_us, tc_un, s_one, s_holds, s_J13_bitCount, bz_bI, hM.f]
  have gi : ∀ q x, (q = 195 ∨ q = 196 ∨ q = 197 ∨ q = 198) → x < 360 → tq_ai (tc_mk S c) q (nI x) = some (c.1 q x) := by
    rintro q x (rfl | rfl | rfl | rfl) hx <;> simp (maxSteps := 3000000) (disch := omega) only [Option.bind_some, tc_bs, tq_let, tc_I1, tc_I2, tc_J1, tc_J2, tc_J3, tc_F1, tc_F2, tc_F3, tc_F4, tc_G1, tc_G2, tc_G3, tc_G4, tc_G5, tc_us, tc_un, s_one, s_holds, s_J13_bitCount, bz_bI, hM.f]
  have gz : ∀ x, x < 360 → tq_az (tc_mk S c) 194 (nI x) = some (c.1 194 x) := fun x hx => by simp (maxSteps := 3000000) (disch := omega) only [Option.bind_some, tc_bs, tq_let, tc_I1, tc_I2, tc_J1, tc_J2, tc_J3, tc_F1, tc_F2, tc_F3, tc_F4, tc_G1, tc_G2, tc_G3, tc_G4, tc_G5, tc_us, tc_un, s_one, s_holds, s_J13_bitCount, bz_bI, hM.f]
  have a1 : 60 * k + v < 360 := by omega
  have a2 : 60 * l + v < 360 := by omega
  have hD : c.1 194 (60 * k + v) = bI (D.has v) := by
    cases h : D.has v with
    | true => obtain ⟨i1, i2⟩ := D.ix_in hw h; have := h1.1 _ i1; rw [i2] at this; exact this
    | false => exact h1.2.1 v hv h
  have hE : c.1 194 (60 * l + v) = bI (E.has v) := by
    cases h : E.has v with
    | true => obtain ⟨i1, i2⟩ := E.ix_in hw2 h; have := h2.1 _ i1; rw [i2] at this; exact this
    | false => exact h2.2.1 v hv h
  have hbb : ∀ x y : Bool, (bI x = bI y) ↔ x = y := by decide
  unfold f_X11_differ
  simp only [gr 50 194 (by simp), gr 51 195 (by simp), gr 52 196 (by simp), gr 53 197 (by simp), gr 54 198 (by simp), gi 195 _ (by simp) a1, gi 195 _ (by simp) a2, gi 196 _ (by simp) a1, gi 196 _ (by simp) a2, gi 197 _ (by simp) a1, gi 197 _ (by simp) a2, gi 198 _ (by simp) a1, gi 198 _ (by simp) a2, gz _ a1, gz _ a2, Option.bind_some, hD, hE]
  have hp : (if c.1 198 (60 * k + v) = c.1 198 (60 * l + v) then if c.1 195 (60 * k + v) = c.1 195 (60 * l + v) then if c.1 196 (60 * k + v) = c.1 196 (60 * l + v) then if c.1 197 (60 * k + v) = c.1 197 (60 * l + v) then some (0 : Int32) else some 1 else some 1 else some 1 else some 1) = some (bI (!decide (c.1 198 (60 * k + v) = c.1 198 (60 * l + v) ∧ c.1 195 (60 * k + v) = c.1 195 (60 * l + v) ∧ c.1 196 (60 * k + v) = c.1 196 (60 * l + v) ∧ c.1 197 (60 * k + v) = c.1 197 (60 * l + v)))) := by
    by_cases q1 : c.1 198 (60 * k + v) = c.1 198 (60 * l + v)
    · by_cases q2 : c.1 195 (60 * k + v) = c.1 195 (60 * l + v)
      · by_cases q3 : c.1 196 (60 * k + v) = c.1 196 (60 * l + v)
        · by_cases q4 : c.1 197 (60 * k + v) = c.1 197 (60 * l + v)
          · simp [q1, q2, q3, q4, bI]
          · simp [q1, q2, q3, q4, bI]
        · simp [q1, q2, q3, bI]
      · simp [q1, q2, bI]
    · simp [q1, bI]
  rw [hp, Option.bind_some]
  unfold Doc.dif
  by_cases h : D.has v = E.has v
  · rw [if_pos ((hbb _ _).mpr h), if_pos h]
    cases hd : D.has v with
    | false => rw [if_pos (by decide)]; rfl
    | true =>
      rw [hd] at h
      obtain ⟨i1, i2⟩ := D.ix_in hw hd
      obtain ⟨j1, j2⟩ := E.ix_in hw2 h.symm
      have d8 := h1.2.2.2.2.2.1 _ i1
      have d5 := h1.2.2.1 _ i1
      have d6 := h1.2.2.2.1 _ i1
      have d7 := h1.2.2.2.2.1 _ i1
      have f8 := h2.2.2.2.2.2.1 _ j1
      have f5 := h2.2.2.1 _ j1
      have f6 := h2.2.2.2.1 _ j1
      have f7 := h2.2.2.2.2.1 _ j1
      rw [i2] at d8 d5 d6 d7
      rw [j2] at f8 f5 f6 f7
      rw [if_neg (by decide), d8, d5, d6, d7, f8, f5, f6, f7]
      unfold Doc.sam
      have e : (decide (D.upN (D.ix v) = E.upN (E.ix v)) && (decide (D.nm (D.ix v) = E.nm (E.ix v)) && (decide (D.vl (D.ix v) = E.vl (E.ix v)) && decide (D.dc (D.ix v) = E.dc (E.ix v))))) = decide (D.upN (D.ix v) = E.upN (E.ix v) ∧ D.nm (D.ix v) = E.nm (E.ix v) ∧ D.vl (D.ix v) = E.vl (E.ix v) ∧ D.dc (D.ix v) = E.dc (E.ix v)) := by simp
      rw [e]
      cases decide (D.upN (D.ix v) = E.upN (E.ix v) ∧ D.nm (D.ix v) = E.nm (E.ix v) ∧ D.vl (D.ix v) = E.vl (E.ix v) ∧ D.dc (D.ix v) = E.dc (E.ix v)) <;> rfl
  · rw [if_neg (fun w => h ((hbb _ _).mp w)), if_neg h]; rfl
theorem Doc.dif_comm (D E : Doc) (v : Nat) : D.dif E v = E.dif D v := by
  unfold Doc.dif Doc.sam
  by_cases h : D.has v = E.has v
  · rw [if_pos h, if_pos h.symm, h]
    simp only [eq_comm]
  · rw [if_neg h, if_neg (fun w => h w.symm)]
end DIF
