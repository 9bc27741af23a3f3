/-! ===== the reference's tree on spots ===== -/
theorem tb_sshr (x : Int64) {k : Nat} (hk : k < 64) : tb (x >>> ((nI k).toInt64 &&& 63)) 0 = tb x k := by
  rw [wb_c k hk]
  unfold tb
  rw [Int64.toBitVec_shiftRight, wb_tb, wb_sm k hk]
  unfold BitVec.sshiftRight'
  rw [BitVec.getLsbD_sshiftRight, BitVec.toNat_ofNat, Nat.mod_eq_of_lt (show k < 2 ^ 64 by omega)]
  simp [hk]
theorem and1_1 (x : Int64) : (x &&& 1 = 1) ↔ tb x 0 = true := by
  constructor
  · intro h
    have := congrArg (fun y => tb y 0) h
    simp only [tb_and] at this
    rw [show tb 1 0 = true from by decide] at this
    simpa using this
  · intro h
    apply tb_ext
    intro j hj
    rw [tb_and]
    by_cases e : j = 0
    · subst e; rw [h]; rfl
    · have : tb 1 j = false := by
        rw [show (1 : Int64) = lN 1 from rfl, tb_lN_lt (by decide)]
        obtain ⟨k, rfl⟩ : ∃ k, j = k + 1 := ⟨j - 1, by omega⟩
        rw [Nat.testBit_succ]; simp
      rw [this]; simp
/-- the reference's way to ask for a member -/
theorem rbit (x : Int64) {k : Nat} (hk : k < 64) : (lg_cmp ((x >>> ((nI k).toInt64 &&& 63)) &&& 1) 1 = 0) ↔ tb x k = true := by
  rw [lg_cmp_0, and1_1, tb_sshr x hk]
theorem rbit_mkS (P : Nat → Bool) {k : Nat} (hk : k < 64) : (lg_cmp ((mkS P >>> ((nI k).toInt64 &&& 63)) &&& 1) 1 = 0) ↔ P k = true := by
  rw [rbit _ hk, tb_mkS]; simp [hk]
/-- attributes come first, by their names, one of each -/
def Doc.ao (D : Doc) : Prop := ∀ i j, 0 < i → i < j → j < D.n → D.up i = D.up j → D.kd j = 2 → D.kd i = 2 ∧ ∃ k l, k < l ∧ l < 8 ∧ D.nm i = nI k ∧ D.nm j = nI l
section RSP
variable {S : tq_H} {c : tc_C} {m i j z : Nat} {D : Doc} {v : Int32}
theorem Doc.upN_eq (hw : D.wf) (hi : i < D.n) (hj : j < D.n) : (D.upN j = nI (D.ord i)) ↔ (0 < j ∧ D.up j = i) := by
  have oi := D.ord_lt hw hi
  unfold Doc.upN
  by_cases y : j = 0
  · rw [if_pos y]
    constructor
    · intro h; exact absurd h.symm (nI_nm1 (by omega))
    · intro h; omega
  · have hu := D.up_lt hw (Nat.pos_of_ne_zero y) hj
    have ou := D.ord_lt hw (show D.up j < D.n by omega)
    rw [if_neg y, nI_eq (by omega) (by omega)]
    constructor
    · intro h; exact ⟨Nat.pos_of_ne_zero y, D.ord_inj hw (by omega) hi h⟩
    · rintro ⟨-, h⟩; rw [h]
theorem isKid_sp (hw : D.wf) (hR : RTree c D m) (hi : i < D.n) (hj : j < D.n) : isKid c (nI (D.ord i)) (D.ord j) = D.ax 1 i j := by
  obtain ⟨-, -, r3, -, r5, -, -, -, r9, -⟩ := hR
  unfold isKid
  rw [r3 j hj, r5 j hj, r9 j hj]
  apply Bool.ext_iff
  simp only [decide_eq_true_eq, D.upN_eq hw hi hj, Doc.ax, Bool.and_eq_true]
  constructor
  · rintro ⟨-, ⟨a, b⟩, d⟩; exact ⟨hj, by simp [a, b, d]⟩
  · rintro ⟨-, h⟩
    simp at h
    exact ⟨by decide, ⟨h.1, h.2.1⟩, h.2.2⟩
theorem isAtt_sp (hw : D.wf) (hR : RTree c D m) (hi : i < D.n) (hj : j < D.n) : isAtt c (nI (D.ord i)) (D.ord j) = D.ax 11 i j := by
  obtain ⟨-, -, r3, -, r5, -, -, -, r9, -⟩ := hR
  unfold isAtt
  rw [r3 j hj, r5 j hj, r9 j hj]
  apply Bool.ext_iff
  simp only [decide_eq_true_eq, D.upN_eq hw hi hj, Doc.ax, Bool.and_eq_true]
  constructor
  · rintro ⟨-, ⟨a, b⟩, d⟩; exact ⟨hj, by simp [a, b, d]⟩
  · rintro ⟨-, h⟩
    simp at h
    exact ⟨by decide, ⟨h.1, h.2.1⟩, h.2.2⟩
theorem isKid_in (hw : D.wf) (hR : RTree c D m) (x : Int32) (k : Nat) (hk : k < m) (h : isKid c x k = true) : ∃ i, i < D.n ∧ D.ord i = k := by
  obtain ⟨-, ⟨r2, -⟩, -, r4, -⟩ := hR
  refine Classical.byContradiction fun w => ?_
  have := r4 k (by omega) (fun i hi e => w ⟨i, hi, e⟩)
  simp [isKid, this] at h
theorem isAtt_in (hw : D.wf) (hR : RTree c D m) (x : Int32) (k : Nat) (hk : k < m) (h : isAtt c x k = true) : ∃ i, i < D.n ∧ D.ord i = k := by
  obtain ⟨-, ⟨r2, -⟩, -, r4, -⟩ := hR
  refine Classical.byContradiction fun w => ?_
  have := r4 k (by omega) (fun i hi e => w ⟨i, hi, e⟩)
  simp [isAtt, this] at h
theorem Doc.ax_cut (D : Doc) (hw : D.wf) (a i : Nat) : fb_ct (D.ax a i) 64 = fb_ct (D.ax a i) D.n := by
  have hn := D.n_le hw
  refine ct_cut 64 (fun j hj => ?_) (by omega)
  cases h : D.ax a i j with
  | false => rfl
  | true => have := D.ax_lt a i j h; omega
theorem s_X11_childCount (hM : tc_Mod S z) (hw : D.wf) (hR : RTree c D m) (hi : i < D.n) : f_X11_childCount 155 (nI (D.ord i)) (tc_mk S c) = some (nI (fb_ct (D.ax 1 i) 64)) := by
  have hR' := hR
  obtain ⟨r1, ⟨r2, r2'⟩, -⟩ := hR'
  rw [s_childCount' hM r2 r1, ct_img (o := D.ord) (n := D.n) r2' (fun a b ha hb e => D.ord_inj hw ha hb e) (fun k hk h => isKid_in hw hR _ k hk h), D.ax_cut hw]
  congr 2
  exact fb_ct_cong fun k hk => isKid_sp hw hR hi hk
theorem Doc.rk_ax (hw : D.wf) (hi : i < D.n) (h : D.ax 1 i j = true) : D.rk j = fb_ct (D.ax 1 i) j := by
  have hj := D.ax_lt 1 i j h
  simp [Doc.ax] at h
  unfold Doc.rk
  refine fb_ct_cong fun k hk => ?_
  apply Bool.ext_iff
  simp [Doc.ax, h]
  omega
theorem s_X11_childAt (hM : tc_Mod S z) (hw : D.wf) (hR : RTree c D m) (hi : i < D.n) (y : Int32) : f_X11_childAt 155 (nI (D.ord i)) y (tc_mk S c) = some (D.nd (pk (D.ax 1 i) y)) := by
  have hR' := hR
  have hn := D.n_le hw
  obtain ⟨r1, ⟨r2, r2'⟩, -, -, -, -, -, -, -, r10⟩ := hR'
  rw [s_childAt' hM r2 r1]
  congr 1
  have hpl : ∀ j, D.ax 1 i j = true → c.1 161 (D.ord j) = nI (fb_ct (D.ax 1 i) j) := fun j h => by
    rw [← D.rk_ax hw hi h]
    have hj := D.ax_lt 1 i j h
    simp [Doc.ax] at h
    exact r10 j h.2.1 hj h.2.2.2
  have hle : ∀ j, j < D.n → fb_ct (D.ax 1 i) j < 2 ^ 31 := fun j hj => by
    have := fb_ct_le (D.ax 1 i) j
    omega
  have hsp : ∀ k, k < m → isKid c (nI (D.ord i)) k = true → ∃ j, j < D.n ∧ D.ord j = k ∧ D.ax 1 i j = true := fun k hk h => by
    obtain ⟨j, hj, e⟩ := isKid_in hw hR _ k hk h
    subst e
    exact ⟨j, hj, rfl, by rw [← isKid_sp hw hR hi hj]; exact h⟩
  rcases pk_cases (D.ax 1 i) y with ⟨j, k, h1, h2, h3, rfl, h5⟩ | ⟨h1, h2⟩
  · have hj := D.ax_lt 1 i j h2
    rw [h5, D.nd_in hw hj]
    refine lastN_one (v := D.ord j) ?_ (r2' j hj) (fun k' hk' h => ?_)
    · rw [isKid_sp hw hR hi hj, h2, hpl j h2, h3]; simp
    · simp only [Bool.and_eq_true, decide_eq_true_eq] at h
      obtain ⟨l, hl, rfl, e2⟩ := hsp k' hk' h.1
      have := h.2
      rw [hpl l e2, nI_eq (hle l hl) (by rw [← h3]; exact hle j hj)] at this
      rw [fb_ct_kth_one e2 h2 (by omega)]
  · rw [h2, D.nd_n]
    refine lastN_no fun k hk => ?_
    cases hq : isKid c (nI (D.ord i)) k with
    | false => rfl
    | true =>
      obtain ⟨l, hl, rfl, e2⟩ := hsp k hk hq
      rw [hpl l e2]
      simp only [Bool.true_and, decide_eq_false_iff_not]
      rintro rfl
      have h3 := fb_ct_mono (D.ax 1 i) (show l + 1 ≤ 64 by omega)
      rw [fb_ct_succ, if_pos e2] at h3
      rcases h1 with w | w
      · exact nI_pos (hle l hl) w
      · rw [nI_clamp (hle l hl)] at w; omega
end RSP
