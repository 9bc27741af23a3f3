/-! ===== the other readers of a layout ===== -/
/-- the member at a place; -1 if there are not so many -/
def pkN (P : Nat → Bool) (k : Nat) : Nat → Int32
  | 0 => -1
  | n + 1 => if P n = true ∧ fb_ct P n = k then nI n else pkN P k n
def pk (P : Nat → Bool) (p : Int32) : Int32 := if p < 0 then -1 else pkN P p.toNatClampNeg 64
theorem pkN_in {P : Nat → Bool} {k m : Nat} (h1 : P m = true) (h2 : fb_ct P m = k) : ∀ n, m < n → pkN P k n = nI m
  | 0, h => by omega
  | n + 1, h => by
    unfold pkN
    by_cases e : P n = true ∧ fb_ct P n = k
    · rw [if_pos e, fb_ct_kth_one e.1 h1 (by omega)]
    · rw [if_neg e]
      have : m ≠ n := fun z => e (by rw [← z]; exact ⟨h1, h2⟩)
      exact pkN_in h1 h2 n (by omega)
theorem pkN_out {P : Nat → Bool} {k : Nat} : ∀ n, fb_ct P n ≤ k → pkN P k n = -1
  | 0, _ => rfl
  | n + 1, h => by
    unfold pkN
    rw [fb_ct_succ] at h
    by_cases e : P n = true ∧ fb_ct P n = k
    · rw [if_pos e.1] at h; omega
    · rw [if_neg e]
      exact pkN_out n (by omega)
theorem pk_inn {P : Nat → Bool} {k m : Nat} (hm : m < 64) (h1 : P m = true) (h2 : fb_ct P m = k) : pk P (nI k) = nI m := by
  have := fb_ct_le P m
  unfold pk
  rw [if_neg (nI_pos (by omega)), nI_clamp (by omega)]
  exact pkN_in h1 h2 64 hm
theorem pk_out {P : Nat → Bool} {p : Int32} (h : p < 0 ∨ fb_ct P 64 ≤ p.toNatClampNeg) : pk P p = -1 := by
  unfold pk
  by_cases a : p < 0
  · rw [if_pos a]
  · rw [if_neg a]
    rcases h with h | h
    · exact absurd h a
    · exact pkN_out 64 h
/-- a place of a set: a member there, or none -/
theorem pk_cases (P : Nat → Bool) (p : Int32) : (∃ m k, m < 64 ∧ P m = true ∧ fb_ct P m = k ∧ p = nI k ∧ pk P p = nI m) ∨ ((p < 0 ∨ fb_ct P 64 ≤ p.toNatClampNeg) ∧ pk P p = -1) := by
  by_cases a : p < 0
  · exact .inr ⟨.inl a, pk_out (.inl a)⟩
  · by_cases b : fb_ct P 64 ≤ p.toNatClampNeg
    · exact .inr ⟨.inr b, pk_out (.inr b)⟩
    · obtain ⟨k, hk, rfl⟩ := nI_of a
      rw [nI_clamp hk] at b
      obtain ⟨m, h1, h2, h3⟩ := fb_ct_kth (Nat.not_le.mp b)
      exact .inl ⟨m, k, h1, h2, h3, rfl, pk_inn h1 h2 h3⟩
theorem s_memberAt (P : Nat → Bool) (p : Int32) (h : tq_H) : f_X0_memberAt (mkS P) p h = some (pk P p) := by
  have e : ∀ j, j ≤ 64 → fb_ct (tb (mkS P)) j = fb_ct P j := fun j hj => fb_ct_cong fun k hk => by rw [tb_mkS]; simp; omega
  rcases pk_cases P p with ⟨m, k, h1, h2, h3, rfl, h5⟩ | ⟨h1, h2⟩
  · rw [h5]
    exact s_X0_memberAt h1 (by rw [tb_mkS, h2]; simp [h1]) (by rw [e m (by omega)]; exact h3) h
  · rw [h2]
    exact s_X0_memberAt_n (by rw [e 64 (Nat.le_refl _)]; exact h1) h
theorem hasI_mkS (P : Nat → Bool) {m : Nat} (hm : m < 64) : hasI (mkS P) (nI m) = P m := by
  rw [hasI_in _ (by omega), tb_mkS]; simp [hm]
section RD2
variable {S : tq_H} {c : tc_C} {b i : Nat} {D : Doc}
/-- the node at a spot that is told -/
def Doc.nd (D : Doc) (x : Int32) : Int32 := if x < 0 ∨ D.n ≤ x.toNatClampNeg then -1 else nI (D.ord x.toNatClampNeg)
theorem Doc.nd_in (hw : D.wf) (hi : i < D.n) : D.nd (nI i) = nI (D.ord i) := by
  have hn := D.n_le hw
  unfold Doc.nd
  rw [if_neg (nI_in hi (by omega)), nI_clamp (by omega)]
theorem Doc.nd_n (D : Doc) : D.nd (-1) = -1 := by
  unfold Doc.nd
  rw [if_pos (.inl (by decide))]
theorem s_X3_count (hT : tc_Tree S b) (hL : Lay c b D) : f_X3_count (b + 1) (tc_mk S c) = some (nI D.n) := by
  simp (maxSteps := 3000000) (disch := omega) only [Option.bind_some, tc_bs, tq_let, tc_I1, tc_I2, tc_J1, tc_J2, tc_J3, tc_F1, tc_F2, tc_F3, tc_F4, tc_G1, tc_G2, tc_G3, tc_G4, tc_G5, tc_us, tc_un, s_one, s_holds, s_J13_bitCount, bz_bI, f_X3_count, hT.f, lay_n hL]
theorem s_X3_nodeAt (hT : tc_Tree S b) (hw : D.wf) (hL : Lay c b D) (hi : i < D.n) : f_X3_nodeAt (b + 1) (nI i) (tc_mk S c) = some (nI (D.ord i)) := by
  have hn := D.n_le hw
  simp (maxSteps := 3000000) (disch := omega) only [Option.bind_some, tc_bs, tq_let, tc_I1, tc_I2, tc_J1, tc_J2, tc_J3, tc_F1, tc_F2, tc_F3, tc_F4, tc_G1, tc_G2, tc_G3, tc_G4, tc_G5, tc_us, tc_un, s_one, s_holds, s_J13_bitCount, bz_bI, f_X3_nodeAt, hT.f, rg_in _ (show i < 60 by omega) (show 60 < 2 ^ 31 by decide), lay_ord hL hi]
theorem s_X3_nodeAt_n (hT : tc_Tree S b) : f_X3_nodeAt (b + 1) (-1) (tc_mk S c) = some (-1) := by
  simp (maxSteps := 3000000) (disch := omega) only [Option.bind_some, tc_bs, tq_let, tc_I1, tc_I2, tc_J1, tc_J2, tc_J3, tc_F1, tc_F2, tc_F3, tc_F4, tc_G1, tc_G2, tc_G3, tc_G4, tc_G5, tc_us, tc_un, s_one, s_holds, s_J13_bitCount, bz_bI, f_X3_nodeAt, hT.f, rg_n]
theorem s_X3_everything (hT : tc_Tree S b) (hw : D.wf) (hL : Lay c b D) : f_X3_everything (b + 1) (tc_mk S c) = some (mkS (fun j => decide (j < D.n))) := by
  have hn := D.n_le hw
  simp (maxSteps := 3000000) (disch := omega) only [Option.bind_some, tc_bs, tq_let, tc_I1, tc_I2, tc_J1, tc_J2, tc_J3, tc_F1, tc_F2, tc_F3, tc_F4, tc_G1, tc_G2, tc_G3, tc_G4, tc_G5, tc_us, tc_un, s_one, s_holds, s_J13_bitCount, bz_bI, f_X3_everything, hT.f, s_below, lay_n hL, belI_in (show D.n < 2 ^ 31 by omega), mkS_bb]
theorem s_X3_elements (hT : tc_Tree S b) (hL : Lay c b D) : f_X3_elements (b + 1) (tc_mk S c) = some (mkS (fun j => decide (j < D.n ∧ D.kd j = 0))) := by
  simp (maxSteps := 3000000) (disch := omega) only [Option.bind_some, tc_bs, tq_let, tc_I1, tc_I2, tc_J1, tc_J2, tc_J3, tc_F1, tc_F2, tc_F3, tc_F4, tc_G1, tc_G2, tc_G3, tc_G4, tc_G5, tc_us, tc_un, s_one, s_holds, s_J13_bitCount, bz_bI, f_X3_elements, hT.f, lay_elems hL]
theorem s_X3_solids (hT : tc_Tree S b) (hw : D.wf) (hL : Lay c b D) : f_X3_solids (b + 1) (tc_mk S c) = some (mkS (fun j => decide (j < D.n ∧ D.kd j ≠ 2))) := by
  have hn := D.n_le hw
  simp (maxSteps := 3000000) (disch := omega) only [Option.bind_some, tc_bs, tq_let, tc_I1, tc_I2, tc_J1, tc_J2, tc_J3, tc_F1, tc_F2, tc_F3, tc_F4, tc_G1, tc_G2, tc_G3, tc_G4, tc_G5, tc_us, tc_un, s_one, s_holds, s_J13_bitCount, bz_bI, f_X3_solids, hT.f, s_below, lay_n hL, belI_in (show D.n < 2 ^ 31 by omega), mkS_bb, lay_attrs hL, mkS_not, mkS_and]
  congr 1
  apply mkS_cong
  intro j hj
  apply Bool.ext_iff
  simp
  grind
theorem s_X3_passing (hT : tc_Tree S b) (hL : Lay c b D) {t : Nat} (ht : t < 14) : f_X3_passing (b + 1) (nI t) (tc_mk S c) = some (mkS (fun j => decide (j < D.n) && D.tst t j)) := by
  simp (maxSteps := 3000000) (disch := omega) only [Option.bind_some, tc_bs, tq_let, tc_I1, tc_I2, tc_J1, tc_J2, tc_J3, tc_F1, tc_F2, tc_F3, tc_F4, tc_G1, tc_G2, tc_G3, tc_G4, tc_G5, tc_us, tc_un, s_one, s_holds, s_J13_bitCount, bz_bI, f_X3_passing, hT.f, sg_in _ ht (show 14 < 2 ^ 31 by decide), lay_tests hL ht]
theorem s_X3_passing_n (hT : tc_Tree S b) : f_X3_passing (b + 1) (-1) (tc_mk S c) = some (mkS (fun _ => false)) := by
  simp (maxSteps := 3000000) (disch := omega) only [Option.bind_some, tc_bs, tq_let, tc_I1, tc_I2, tc_J1, tc_J2, tc_J3, tc_F1, tc_F2, tc_F3, tc_F4, tc_G1, tc_G2, tc_G3, tc_G4, tc_G5, tc_us, tc_un, s_one, s_holds, s_J13_bitCount, bz_bI, f_X3_passing, hT.f, sg_n, mkS_0]
theorem s_X3_children (hT : tc_Tree S b) (hw : D.wf) (hL : Lay c b D) (hi : i < D.n) : f_X3_children (b + 1) (nI i) (tc_mk S c) = some (mkS (D.ax 1 i)) := by
  have hn := D.n_le hw
  simp (maxSteps := 3000000) (disch := omega) only [Option.bind_some, tc_bs, tq_let, tc_I1, tc_I2, tc_J1, tc_J2, tc_J3, tc_F1, tc_F2, tc_F3, tc_F4, tc_G1, tc_G2, tc_G3, tc_G4, tc_G5, tc_us, tc_un, s_one, s_holds, s_J13_bitCount, bz_bI, f_X3_children, hT.f, sg_in _ (show i < 60 by omega) (show 60 < 2 ^ 31 by decide), lay_inner hL hi, lay_attrs hL, mkS_not, mkS_and]
  congr 1
  apply mkS_cong
  intro j hj
  apply Bool.ext_iff
  simp [Doc.ax]
  grind
theorem s_X3_attributesOf (hT : tc_Tree S b) (hw : D.wf) (hL : Lay c b D) (hi : i < D.n) : f_X3_attributesOf (b + 1) (nI i) (tc_mk S c) = some (mkS (D.ax 11 i)) := by
  have hn := D.n_le hw
  simp (maxSteps := 3000000) (disch := omega) only [Option.bind_some, tc_bs, tq_let, tc_I1, tc_I2, tc_J1, tc_J2, tc_J3, tc_F1, tc_F2, tc_F3, tc_F4, tc_G1, tc_G2, tc_G3, tc_G4, tc_G5, tc_us, tc_un, s_one, s_holds, s_J13_bitCount, bz_bI, f_X3_attributesOf, hT.f, sg_in _ (show i < 60 by omega) (show 60 < 2 ^ 31 by decide), lay_inner hL hi, lay_attrs hL, mkS_not, mkS_and]
  congr 1
  apply mkS_cong
  intro j hj
  apply Bool.ext_iff
  simp [Doc.ax]
  grind
theorem s_X3_below (hT : tc_Tree S b) (hw : D.wf) (hL : Lay c b D) (hi : i < D.n) : f_X3_below (b + 1) (nI i) (tc_mk S c) = some (mkS (fun j => decide (i < j ∧ j < D.en i))) := by
  have hn := D.n_le hw
  simp (maxSteps := 3000000) (disch := omega) only [Option.bind_some, tc_bs, tq_let, tc_I1, tc_I2, tc_J1, tc_J2, tc_J3, tc_F1, tc_F2, tc_F3, tc_F4, tc_G1, tc_G2, tc_G3, tc_G4, tc_G5, tc_us, tc_un, s_one, s_holds, s_J13_bitCount, bz_bI, f_X3_below, hT.f, sg_in _ (show i < 60 by omega) (show 60 < 2 ^ 31 by decide), lay_below hL hi]
theorem s_X3_sizeAt (hT : tc_Tree S b) (hw : D.wf) (hL : Lay c b D) (hi : i < D.n) : f_X3_sizeAt (b + 1) (nI i) (tc_mk S c) = some (nI (D.en i - i)) := by
  have hn := D.n_le hw
  have hg := D.en_gt hw hi
  simp (maxSteps := 3000000) (disch := omega) only [Option.bind_some, tc_bs, tq_let, tc_I1, tc_I2, tc_J1, tc_J2, tc_J3, tc_F1, tc_F2, tc_F3, tc_F4, tc_G1, tc_G2, tc_G3, tc_G4, tc_G5, tc_us, tc_un, s_one, s_holds, s_J13_bitCount, bz_bI, f_X3_sizeAt, hT.f, rg_in _ (show i < 60 by omega) (show 60 < 2 ^ 31 by decide), lay_en hL hi, pk_sub (Nat.le_of_lt hg)]
theorem s_X3_depthAt (hT : tc_Tree S b) (hw : D.wf) (hL : Lay c b D) (hi : i < D.n) : f_X3_depthAt (b + 1) (nI i) (tc_mk S c) = some (nI (fb_ct (fun j => decide (j < i ∧ i < D.en j)) 64)) := by
  have hn := D.n_le hw
  simp (maxSteps := 3000000) (disch := omega) only [Option.bind_some, tc_bs, tq_let, tc_I1, tc_I2, tc_J1, tc_J2, tc_J3, tc_F1, tc_F2, tc_F3, tc_F4, tc_G1, tc_G2, tc_G3, tc_G4, tc_G5, tc_us, tc_un, s_one, s_holds, s_J13_bitCount, bz_bI, f_X3_depthAt, hT.f, sg_in _ (show i < 60 by omega) (show 60 < 2 ^ 31 by decide), lay_above hL hi, ct_mkS]
theorem s_X3_spaceAt (hT : tc_Tree S b) (hw : D.wf) (hL : Lay c b D) (hi : i < D.n) : f_X3_spaceAt (b + 1) (nI i) (tc_mk S c) = some (if D.kd i = 0 then D.sp i else -1) := by
  have hn := D.n_le hw
  simp (maxSteps := 3000000) (disch := omega) only [Option.bind_some, tc_bs, tq_let, tc_I1, tc_I2, tc_J1, tc_J2, tc_J3, tc_F1, tc_F2, tc_F3, tc_F4, tc_G1, tc_G2, tc_G3, tc_G4, tc_G5, tc_us, tc_un, s_one, s_holds, s_J13_bitCount, bz_bI, f_X3_spaceAt, hT.f, rg_in _ (show i < 60 by omega) (show 60 < 2 ^ 31 by decide), lay_sp hL hi]
/-- the spot of a node that is told -/
def Doc.At (D : Doc) (v : Int32) (i : Nat) : Prop := i < D.n ∧ v = nI (D.ord i)
theorem lay_at (hw : D.wf) (hL : Lay c b D) {v : Int32} (h : D.At v i) : rg 60 (c.1 (b + 5)) v = nI i := by
  rw [h.2, rg_ord hw h.1, lay_spot hL h.1]
theorem lay_noat (hw : D.wf) (hL : Lay c b D) {v : Int32} (h : ∀ i, ¬ D.At v i) : rg 60 (c.1 (b + 5)) v = -1 := by
  by_cases a : v < 0
  · unfold rg; rw [if_pos (.inl a)]
  · obtain ⟨k, hk, rfl⟩ := nI_of a
    by_cases z : k < 60
    · rw [rg_in _ z (by decide)]
      exact lay_nospot hL z (fun i hi e => h i ⟨hi, by rw [e]⟩)
    · exact rg_out _ (by omega) hk
theorem s_X3_holds (hT : tc_Tree S b) (v : Int32) : f_X3_holds (b + 1) v (tc_mk S c) = some (bI (decide (rg 60 (c.1 (b + 5)) v ≠ -1))) := by
  simp (maxSteps := 3000000) (disch := omega) only [Option.bind_some, tc_bs, tq_let, tc_I1, tc_I2, tc_J1, tc_J2, tc_J3, tc_F1, tc_F2, tc_F3, tc_F4, tc_G1, tc_G2, tc_G3, tc_G4, tc_G5, tc_us, tc_un, s_one, s_holds, s_J13_bitCount, bz_bI, f_X3_holds, hT.f]
  by_cases e : rg 60 (c.1 (b + 5)) v = -1 <;> simp [e, bI, tq_bz]
theorem s_X3_nodeOfSet (hT : tc_Tree S b) (hw : D.wf) (hL : Lay c b D) {P : Nat → Bool} (hP : ∀ j, P j = true → j < D.n) (p : Int32) : f_X3_nodeOfSet (b + 1) (mkS P) p (tc_mk S c) = some (D.nd (pk P p)) := by
  have hn := D.n_le hw
  simp (maxSteps := 3000000) (disch := omega) only [Option.bind_some, tc_bs, tq_let, tc_I1, tc_I2, tc_J1, tc_J2, tc_J3, tc_F1, tc_F2, tc_F3, tc_F4, tc_G1, tc_G2, tc_G3, tc_G4, tc_G5, tc_us, tc_un, s_one, s_holds, s_J13_bitCount, bz_bI, f_X3_nodeOfSet, hT.f, s_memberAt]
  rcases pk_cases P p with ⟨m, k, h1, h2, h3, rfl, h5⟩ | ⟨h1, h2⟩
  · rw [h5, rg_in _ (show m < 60 by have := hP m h2; omega) (by decide), lay_ord hL (hP m h2), D.nd_in hw (hP m h2)]
  · rw [h2, rg_n, D.nd_n]
theorem Doc.ax_lt (D : Doc) (a i j : Nat) (h : D.ax a i j = true) : j < D.n := by
  unfold Doc.ax at h
  rw [Bool.and_eq_true, decide_eq_true_eq] at h
  exact h.1
theorem s_X3_childCount (hT : tc_Tree S b) (hw : D.wf) (hL : Lay c b D) (hi : i < D.n) : f_X3_childCount (b + 1) (nI (D.ord i)) (tc_mk S c) = some (nI (fb_ct (D.ax 1 i) 64)) := by
  simp (maxSteps := 3000000) (disch := omega) only [Option.bind_some, tc_bs, tq_let, tc_I1, tc_I2, tc_J1, tc_J2, tc_J3, tc_F1, tc_F2, tc_F3, tc_F4, tc_G1, tc_G2, tc_G3, tc_G4, tc_G5, tc_us, tc_un, s_one, s_holds, s_J13_bitCount, bz_bI, f_X3_childCount, hT.f, lay_at hw hL ⟨hi, rfl⟩, s_X3_children hT hw hL hi, ct_mkS]
end RD2
