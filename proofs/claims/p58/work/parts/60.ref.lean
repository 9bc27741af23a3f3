/-! ===== the reference's tree ===== -/
/-- the node above, as a number; -1 above the root -/
def Doc.upN (D : Doc) (i : Nat) : Int32 := if i = 0 then -1 else nI (D.ord (D.up i))
/-- the rank of a child among its siblings -/
def Doc.rk (D : Doc) (i : Nat) : Nat := fb_ct (fun j => decide (0 < j ∧ D.up j = D.up i ∧ D.kd j ≠ 2)) i
def RTree (c : tc_C) (D : Doc) (m : Nat) : Prop :=
  c.2.2.1 155 1 = nI m ∧ (m ≤ 60 ∧ ∀ i, i < D.n → D.ord i < m) ∧
  (∀ i, i < D.n → c.1 163 (D.ord i) = 1) ∧ (∀ v, v < 60 → (∀ i, i < D.n → D.ord i ≠ v) → c.1 163 v = 0) ∧
  (∀ i, i < D.n → c.1 156 (D.ord i) = D.kd i) ∧
  (∀ i, i < D.n → c.1 157 (D.ord i) = D.nm i) ∧
  (∀ i, i < D.n → c.1 158 (D.ord i) = D.vl i) ∧
  (∀ i, i < D.n → c.1 159 (D.ord i) = D.dc i) ∧
  (∀ i, i < D.n → c.1 160 (D.ord i) = D.upN i) ∧
  (∀ i, 0 < i → i < D.n → D.kd i ≠ 2 → c.1 161 (D.ord i) = nI (D.rk i))
def ROrd (c : tc_C) (D : Doc) : Prop :=
  c.2.2.1 155 11 = nI D.n ∧ (∀ i, i < D.n → c.1 164 i = nI (D.ord i)) ∧ (∀ i, i < D.n → c.1 165 (D.ord i) = nI i) ∧ (∀ v, v < 60 → (∀ i, i < D.n → D.ord i ≠ v) → c.1 165 v = -1)
/-- a spot by its node, counted from 1; 0 for none -/
def Doc.ps (D : Doc) (v : Int32) : Nat → Nat
  | 0 => 0
  | n + 1 => if v = nI (D.ord n) then n + 1 else D.ps v n
section REF
variable {S : tq_H} {c : tc_C} {m i j z : Nat} {D : Doc} {v : Int32}
theorem Doc.ps_in (hw : D.wf) (hi : i < D.n) : ∀ n, n ≤ D.n → i < n → D.ps (nI (D.ord i)) n = i + 1
  | 0, _, h => by omega
  | n + 1, h, h2 => by
    unfold Doc.ps
    have a := D.ord_lt hw hi
    have b := D.ord_lt hw (show n < D.n by omega)
    by_cases e : i = n
    · subst e; rw [if_pos rfl]
    · rw [if_neg (fun w => e (D.ord_inj hw hi (by omega) ((nI_eq (by omega) (by omega)).mp w)))]
      exact Doc.ps_in hw hi n (by omega) (by omega)
theorem s_X11_in (a l u : Int32) (h : tq_H) : f_X11_in a l u h = some (bI (decide (l ≤ a ∧ a ≤ u))) := by
  unfold f_X11_in tq_let
  by_cases p : a < l
  · have : ¬ l ≤ a := Int32.not_le.mpr p
    simp [p, this, bI, tq_bz]
  · have p2 : l ≤ a := Int32.not_lt.mp p
    by_cases q : a > u
    · have : ¬ a ≤ u := Int32.not_le.mpr q
      simp [p, q, this, bI, tq_bz]
    · have : a ≤ u := Int32.not_lt.mp q
      simp [p, q, this, p2, bI, tq_bz]
theorem s_X11_isNode (hM : tc_Mod S z) (hw : D.wf) (hR : RTree c D m) (h : D.At v i) : f_X11_isNode 155 v (tc_mk S c) = some 1 := by
  obtain ⟨r1, ⟨r2, r2'⟩, r3, -⟩ := hR
  obtain ⟨hi, rfl⟩ := h
  have ho := D.ord_lt hw hi
  have hm := r2' i hi
  simp (maxSteps := 3000000) (disch := omega) only [Option.bind_some, tc_bs, tq_let, tc_I1, tc_I2, tc_J1, tc_J2, tc_J3, tc_F1, tc_F2, tc_F3, tc_F4, tc_G1, tc_G2, tc_G3, tc_G4, tc_G5, tc_us, tc_un, s_one, s_holds, s_J13_bitCount, bz_bI, f_X11_isNode, hM.f, s_X11_in]
  have e : nI m - 1 = nI (m - 1) := pk_sub (show 1 ≤ m by omega)
  have h1 : (0 : Int32) ≤ nI (D.ord i) ∧ nI (D.ord i) ≤ nI m - 1 := ⟨nI_pos' (by omega), by rw [e]; exact nI_le (by omega) (by omega)⟩
  rw [r1, r3 i hi, if_neg (by simp [h1, bI]), if_neg (by decide)]
  rfl
theorem s_X11_isNode_n (hM : tc_Mod S z) (hw : D.wf) (hR : RTree c D m) (h : ∀ i, ¬ D.At v i) : f_X11_isNode 155 v (tc_mk S c) = some 0 := by
  obtain ⟨r1, ⟨r2, r2'⟩, r3, r4, -⟩ := hR
  simp (maxSteps := 3000000) (disch := omega) only [Option.bind_some, tc_bs, tq_let, tc_I1, tc_I2, tc_J1, tc_J2, tc_J3, tc_F1, tc_F2, tc_F3, tc_F4, tc_G1, tc_G2, tc_G3, tc_G4, tc_G5, tc_us, tc_un, s_one, s_holds, s_J13_bitCount, bz_bI, f_X11_isNode, hM.f, s_X11_in]
  by_cases q : (0 : Int32) ≤ v ∧ v ≤ nI m - 1
  · obtain ⟨k, hk, rfl⟩ := nI_of (Int32.not_lt.mpr q.1)
    have hm0 : 0 < m := Nat.lt_of_le_of_lt (Nat.zero_le _) (r2' 0 (D.n_pos hw))
    have e : nI m - 1 = nI (m - 1) := pk_sub (show 1 ≤ m by omega)
    have hkm : k ≤ m - 1 := by
      have := q.2
      rw [e] at this
      exact (nI_leI hk (by omega)).mp this
    rw [r1, if_neg (by simp [q, bI])]
    simp (maxSteps := 3000000) (disch := omega) only [Option.bind_some, tc_bs, tq_let, tc_I1, tc_I2, tc_J1, tc_J2, tc_J3, tc_F1, tc_F2, tc_F3, tc_F4, tc_G1, tc_G2, tc_G3, tc_G4, tc_G5, tc_us, tc_un, s_one, s_holds, s_J13_bitCount, bz_bI, hM.f]
    rw [r4 k (by omega) (fun i hi w => h i ⟨hi, by rw [w]⟩), if_pos rfl]
    rfl
  · rw [r1, if_pos (by simp only [q, bI]; decide)]
    rfl
theorem s_X11_isBelow (hM : tc_Mod S z) (hw : D.wf) (hR : RTree c D m) (hi : i < D.n) (hj : j < D.n) : f_X11_isBelow 155 (nI (D.ord j)) (nI (D.ord i)) (tc_mk S c) = some (bI (decide (i < j ∧ j < D.en i))) := by
  obtain ⟨-, -, -, -, -, -, -, -, r9, -⟩ := hR
  have oi := D.ord_lt hw hi
  have oj := D.ord_lt hw hj
  have hn := D.n_le hw
  have step : ∀ a, a < D.n → ((i < a ∧ a < D.en i) ↔ (0 < a ∧ (D.up a = i ∨ (i < D.up a ∧ D.up a < D.en i)))) := by
    intro a ha
    constructor
    · rintro ⟨h1, h2⟩
      have := (D.en_up hw h1 ha).mp h2
      exact ⟨by omega, by omega⟩
    · rintro ⟨h0, h1⟩
      have hu := D.up_lt hw h0 ha
      have hg := D.en_gt hw hi
      have h2 : i < a := by omega
      exact ⟨h2, (D.en_up hw h2 ha).mpr (by omega)⟩
  have W := tc_while (B := f_X11_isBelow_b7 155 (nI (D.ord i)) (tc_mk S c)) (fun s => ∃ a, a < D.n ∧ s = D.upN a ∧ ((i < j ∧ j < D.en i) ↔ (i < a ∧ a < D.en i))) (fun s => D.ps s D.n) (fun e => ((i < j ∧ j < D.en i) ∧ e ≠ -1) ∨ (¬ (i < j ∧ j < D.en i) ∧ e = -1)) (s := D.upN j) ?_ ⟨j, hj, rfl, Iff.rfl⟩ ?_
  · obtain ⟨e, h1, h2⟩ := W
    simp (maxSteps := 3000000) (disch := omega) only [Option.bind_some, tc_bs, tq_let, tc_I1, tc_I2, tc_J1, tc_J2, tc_J3, tc_F1, tc_F2, tc_F3, tc_F4, tc_G1, tc_G2, tc_G3, tc_G4, tc_G5, tc_us, tc_un, s_one, s_holds, s_J13_bitCount, bz_bI, f_X11_isBelow, hM.f]
    rw [r9 j hj, h1, Option.bind_some]
    rcases h2 with ⟨h2, h3⟩ | ⟨h2, h3⟩
    · rw [if_neg h3]; simp [h2, bI, tq_bz]
    · rw [if_pos h3]; simp [h2, bI, tq_bz]
  · rintro s ⟨a, ha, rfl, hq⟩
    unfold Doc.upN
    by_cases z0 : a = 0
    · right
      rw [if_pos z0]
      refine ⟨-1, rfl, .inr ⟨?_, rfl⟩⟩
      rw [hq]; omega
    · have h0 := Nat.pos_of_ne_zero z0
      have hu := D.up_lt hw h0 ha
      have ou := D.ord_lt hw (show D.up a < D.n by omega)
      rw [if_neg z0]
      by_cases e : D.up a = i
      · right
        refine ⟨nI (D.ord (D.up a)), ?_, .inl ⟨?_, nI_nm1 (by omega)⟩⟩
        · show (if nI (D.ord (D.up a)) = -1 then _ else if nI (D.ord (D.up a)) = nI (D.ord i) then _ else _) = _
          rw [if_neg (nI_nm1 (by omega)), if_pos (by rw [e])]
        · rw [hq, step a ha]; exact ⟨h0, .inl e⟩
      · left
        refine ⟨D.upN (D.up a), ?_, ⟨D.up a, by omega, rfl, ?_⟩, ?_⟩
        · show (if nI (D.ord (D.up a)) = -1 then _ else if nI (D.ord (D.up a)) = nI (D.ord i) then _ else _) = _
          rw [if_neg (nI_nm1 (by omega)), if_neg (fun w => e (D.ord_inj hw (by omega) hi ((nI_eq (by omega) (by omega)).mp w)))]
          simp (maxSteps := 3000000) (disch := omega) only [Option.bind_some, tc_bs, tq_let, tc_I1, tc_I2, tc_J1, tc_J2, tc_J3, tc_F1, tc_F2, tc_F3, tc_F4, tc_G1, tc_G2, tc_G3, tc_G4, tc_G5, tc_us, tc_un, s_one, s_holds, s_J13_bitCount, bz_bI, hM.f]
          rw [r9 _ (by omega)]
        · rw [hq, step a ha]
          constructor
          · rintro ⟨-, w | w⟩
            · exact absurd w e
            · exact w
          · intro w; exact ⟨h0, .inr w⟩
        · rw [Doc.ps_in hw (show D.up a < D.n by omega) D.n (Nat.le_refl _) (by omega)]
          unfold Doc.upN
          by_cases y : D.up a = 0
          · rw [if_pos y]
            have : D.ps (-1) D.n = 0 := by
              have : ∀ k, k ≤ D.n → D.ps (-1) k = 0 := by
                intro k
                induction k with
                | zero => intro _; rfl
                | succ k ih =>
                  intro hk
                  unfold Doc.ps
                  rw [if_neg (fun w => nI_nm1 (by have := D.ord_lt hw (show k < D.n by omega); omega) w.symm), ih (by omega)]
              exact this D.n (Nat.le_refl _)
            omega
          · have hu2 := D.up_lt hw (Nat.pos_of_ne_zero y) (show D.up a < D.n by omega)
            rw [if_neg y, Doc.ps_in hw (by omega) D.n (Nat.le_refl _) (by omega)]
            omega
  · have : ∀ (v : Int32) k, D.ps v k ≤ k := by
      intro v k
      induction k with
      | zero => exact Nat.le_refl _
      | succ k ih => unfold Doc.ps; split <;> omega
    have := this (D.upN j) D.n
    unfold tq_N; omega
end REF
