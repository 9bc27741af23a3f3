/-! ===== the reference's axes ===== -/
section RAX
variable {S : tq_H} {c : tc_C} {m i j z k : Nat} {D : Doc}
theorem Doc.rk_lt {j k : Nat} (h0 : 0 < j) (hjk : j < k) (hu : D.up j = D.up k) (hk : D.kd j ≠ 2) : D.rk j < D.rk k := by
  have h1 := fb_ct_mono (fun l => decide (0 < l ∧ D.up l = D.up k ∧ D.kd l ≠ 2)) (show j + 1 ≤ k by omega)
  rw [fb_ct_succ] at h1
  have h2 : decide (0 < j ∧ D.up j = D.up k ∧ D.kd j ≠ 2) = true := by simp [h0, hu, hk]
  rw [if_pos h2] at h1
  unfold Doc.rk
  rw [hu]
  omega
theorem Doc.rk_le (D : Doc) (j : Nat) : D.rk j ≤ j := fb_ct_le _ j
theorem bind_k {α : Type} {X : Option Int32} {F : α} (h : X ≠ none) : (X.bind fun _ => some F) = some F := by
  cases X with
  | none => exact absurd rfl h
  | some v => rfl
theorem axis_step (hM : tc_Mod S z) (hw : D.wf) (hR : RTree c D m) (hO : ROrd c D) (hi : i < D.n) (hk : k < D.n) {a : Nat} (ha : a < 13) (by' : Int32) (y : Int64) :
    f_X11_axis_b6 155 (nI a) by' (nI (D.ord i)) (tc_mk S c) (y, nI k) = some (.inl (y ||| (if D.ax a i k = true then b1 (D.ord k) else 0), nI (k + 1))) := by
  have hR' := hR
  obtain ⟨-, -, -, -, r5, -, -, -, r9, r10⟩ := hR'
  obtain ⟨o1, o2, o3, -⟩ := hO
  have hn := D.n_le hw
  have oi := D.ord_lt hw hi
  have ok := D.ord_lt hw hk
  have hoo : (nI (D.ord k) = nI (D.ord i)) ↔ k = i := by
    rw [nI_eq (by omega) (by omega)]
    exact ⟨fun e => D.ord_inj hw hk hi e, fun e => by rw [e]⟩
  have hku := D.upN_eq hw hi hk
  have hiu : (D.upN i = nI (D.ord k)) ↔ (0 < i ∧ D.up i = k) := D.upN_eq hw hk hi
  have hk1 : (D.upN k = -1) ↔ k = 0 := by
    unfold Doc.upN
    by_cases e : k = 0
    · simp [e]
    · have hu := D.up_lt hw (Nat.pos_of_ne_zero e) hk
      rw [if_neg e]
      exact ⟨fun w => absurd w (nI_nm1 (by have := D.ord_lt hw (show D.up k < D.n by omega); omega)), fun w => absurd w e⟩
  have huu : (D.upN k = D.upN i) ↔ ((k = 0 ∧ i = 0) ∨ (0 < k ∧ 0 < i ∧ D.up k = D.up i)) := by
    by_cases e : i = 0
    · have : D.upN i = -1 := if_pos e
      rw [this, hk1]; omega
    · have hu := D.up_lt hw (Nat.pos_of_ne_zero e) hi
      have : D.upN i = nI (D.ord (D.up i)) := if_neg e
      rw [this, D.upN_eq hw (by omega) hk]; omega
  have hpos : (nI k ≤ nI i) ↔ k ≤ i := nI_leI (by omega) (by omega)
  have hpos2 : (nI k ≥ nI i) ↔ i ≤ k := nI_leI (by omega) (by omega)
  have hrk : ∀ x, x < D.n → D.rk x < 2 ^ 31 := fun x hx => by have := D.rk_le x; omega
  have hsib : 0 < k → 0 < i → D.up k = D.up i → D.kd k ≠ 2 → D.kd i ≠ 2 → (((nI (D.rk k) ≤ nI (D.rk i)) ↔ k ≤ i) ∧ ((nI (D.rk k) ≥ nI (D.rk i)) ↔ i ≤ k)) := by
    intro h1 h2 h3 h4 h5
    have e1 : (nI (D.rk k) ≤ nI (D.rk i)) ↔ D.rk k ≤ D.rk i := nI_leI (hrk k hk) (hrk i hi)
    have e2 : (nI (D.rk k) ≥ nI (D.rk i)) ↔ D.rk i ≤ D.rk k := nI_leI (hrk i hi) (hrk k hk)
    rw [e1, e2]
    rcases Nat.lt_trichotomy k i with q | q | q
    · have := D.rk_lt h1 q h3 h4; omega
    · subst q; omega
    · have := D.rk_lt h2 q h3.symm h5; omega
  have hu : 0 < i → D.up i < i := fun h => D.up_lt hw h hi
  have hu' : 0 < k → D.up k < k := fun h => D.up_lt hw h hk
  have hc : a = 0 ∨ a = 1 ∨ a = 2 ∨ a = 3 ∨ a = 4 ∨ a = 5 ∨ a = 6 ∨ a = 7 ∨ a = 8 ∨ a = 9 ∨ a = 10 ∨ a = 11 ∨ a = 12 := by omega
  have hb := b1_sh (show D.ord k < 64 by omega)
  have hlt : ¬ nI k ≥ nI D.n := nI_ge hk (by omega)
  have below1 := s_X11_isBelow hM hw hR hi hk
  have below2 := s_X11_isBelow hM hw hR hk hi
  have hX : (if (if D.kd k = 2 then (0 : Int32) else 1) = 0 then some (0 : Int32) else if D.kd i = 2 then some 0 else if k = i then some 0 else if k = 0 then some 0 else if k = 0 ∧ i = 0 ∨ 0 < k ∧ 0 < i ∧ D.up k = D.up i then some 1 else some 0) = some (if D.kd k ≠ 2 ∧ D.kd i ≠ 2 ∧ k ≠ i ∧ 0 < k ∧ 0 < i ∧ D.up k = D.up i then 1 else 0) := by
    by_cases h1 : D.kd k = 2
    · simp [h1]
    · by_cases h2 : D.kd i = 2
      · simp [h2]
      · by_cases h3 : k = i
        · simp [h3]
        · by_cases h4 : k = 0
          · simp [h4]
          · by_cases h5 : 0 < k ∧ 0 < i ∧ D.up k = D.up i
            · have h6 : 0 < k ∧ 0 < i ∧ D.up k = D.up i := h5
              simp [h1, h2, h3, h4, h5]
            · have h7 : ¬ (k = 0 ∧ i = 0 ∨ 0 < k ∧ 0 < i ∧ D.up k = D.up i) := by
                rintro (w | w)
                · exact h4 w.1
                · exact h5 w
              rw [if_neg (by simp [h1]), if_neg h2, if_neg h3, if_neg h4, if_neg h7, if_neg (fun w => h5 w.2.2.2)]
  rcases hc with rfl | rfl | rfl | rfl | rfl | rfl | rfl | rfl | rfl | rfl | rfl | rfl | rfl
  all_goals
    unfold f_X11_axis_b6
    simp (decide := true) only [↓reduceIte]
    simp (maxSteps := 3000000) (disch := omega) only [Option.bind_some, tc_bs, tq_let, tc_I1, tc_I2, tc_J1, tc_J2, tc_J3, tc_F1, tc_F2, tc_F3, tc_F4, tc_G1, tc_G2, tc_G3, tc_G4, tc_G5, tc_us, tc_un, s_one, s_holds, s_J13_bitCount, bz_bI, hM.f, o1, o2 k hk, hlt, if_false, below1, below2, r5 k hk, r5 i hi, r9 k hk, r9 i hi, o3 k hk, o3 i hi, nI_1, hoo, hku, hiu, hk1, huu, hpos, hpos2, hb]
  all_goals
    clear below1 below2 hM hR o1 o2 o3 r5 r9 hoo hku hiu hk1 huu hpos hpos2 hb hlt
    simp (decide := true) only [Doc.ax, bI, ↓reduceIte, hk, decide_true, Bool.true_and]
  all_goals rw [hX, Option.bind_some]
  · by_cases h3 : k = i <;> simp [h3]
  · by_cases h1 : D.kd k = 2
    · simp [h1]
    · by_cases h3 : 0 < k ∧ D.up k = i
      · simp [h1, h3]
      · simp [h1, h3]
  · by_cases h3 : 0 < i ∧ D.up i = k
    · rw [if_pos h3, if_neg (by decide), if_pos (by simp [h3.1, h3.2])]
    · rw [if_neg h3, if_pos rfl, if_neg (by simp; intro w e; exact h3 ⟨w, e.symm⟩)]
  · by_cases h1 : D.kd k = 2
    · simp [h1]
    · by_cases h3 : i < k ∧ k < D.en i
      · simp [h1, h3]
      · simp [h1, h3]
  · by_cases h1 : D.kd k = 2
    · by_cases h3 : k = i <;> simp [h1, h3]
    · by_cases h3 : i < k ∧ k < D.en i
      · simp [h1, h3]
      · by_cases h4 : k = i
        · simp [h1, h4]
        · simp [h1, h3, h4]
  · by_cases h3 : k < i ∧ i < D.en k <;> simp [h3]
  · by_cases h3 : k < i ∧ i < D.en k
    · simp [h3]
    · by_cases h4 : k = i
      · simp [h4]
      · simp [h3, h4]
  · -- FOLLOWING
    by_cases h1 : D.kd k = 2
    · simp [h1]
    · have hg := D.en_gt hw hi
      by_cases h3 : k ≤ i
      · have : ¬ D.en i ≤ k := by omega
        simp [h1, h3, this]
      · by_cases h4 : i < k ∧ k < D.en i
        · have : ¬ D.en i ≤ k := by omega
          simp [h1, h3, h4, this]
        · have : D.en i ≤ k := by omega
          simp [h1, h3, h4, this]
  · -- PRECEDING
    by_cases h1 : D.kd k = 2
    · simp [h1]
    · by_cases h3 : i ≤ k
      · have : ¬ k < i := by omega
        simp [h1, h3, this]
      · have h5 : k < i := by omega
        by_cases h4 : i < D.en k
        · simp [h1, h3, h4, h5]
        · simp [h1, h3, h4, h5]
  · -- FOLLOWING_SIBLING
    by_cases h5 : D.kd k ≠ 2 ∧ D.kd i ≠ 2 ∧ k ≠ i ∧ 0 < k ∧ 0 < i ∧ D.up k = D.up i
    · obtain ⟨g1, g2, g3, g4, g5, g6⟩ := h5
      have h6 := hsib g4 g5 g6 g1 g2
      have h7 : D.kd k ≠ 2 ∧ D.kd i ≠ 2 ∧ k ≠ i ∧ 0 < k ∧ 0 < i ∧ D.up k = D.up i := ⟨g1, g2, g3, g4, g5, g6⟩
      rw [if_pos h7, if_neg (by decide), r10 k g4 hk g1, r10 i g5 hi g2]
      by_cases h8 : k ≤ i
      · have : ¬ i < k := by omega
        rw [if_pos (h6.1.mpr h8)]
        simp [this]
      · have : i < k := by omega
        rw [if_neg (fun w => h8 (h6.1.mp w))]
        simp [this, g1, g2, g4, g5, g6]
    · rw [if_neg h5, if_pos rfl, Option.bind_some, if_pos rfl, if_neg (by rw [decide_eq_true_eq]; rintro ⟨w1, w2, w3, w4, w5, w6⟩; exact h5 ⟨w5, w2, by omega, w3, w1, w4⟩)]
  · -- PRECEDING_SIBLING
    by_cases h5 : D.kd k ≠ 2 ∧ D.kd i ≠ 2 ∧ k ≠ i ∧ 0 < k ∧ 0 < i ∧ D.up k = D.up i
    · obtain ⟨g1, g2, g3, g4, g5, g6⟩ := h5
      have h6 := hsib g4 g5 g6 g1 g2
      have h7 : D.kd k ≠ 2 ∧ D.kd i ≠ 2 ∧ k ≠ i ∧ 0 < k ∧ 0 < i ∧ D.up k = D.up i := ⟨g1, g2, g3, g4, g5, g6⟩
      rw [if_pos h7, if_neg (by decide), r10 k g4 hk g1, r10 i g5 hi g2]
      by_cases h8 : i ≤ k
      · have : ¬ k < i := by omega
        rw [if_pos (h6.2.mpr h8)]
        simp [this]
      · have : k < i := by omega
        rw [if_neg (fun w => h8 (h6.2.mp w))]
        simp [this, g1, g2, g4, g5, g6]
    · rw [if_neg h5, if_pos rfl, Option.bind_some, if_pos rfl, if_neg (by rw [decide_eq_true_eq]; rintro ⟨w1, w2, w3, w4, w5, w6⟩; exact h5 ⟨w5, w2, by omega, w3, w1, w4⟩)]
  · -- ATTRIBUTES
    by_cases h1 : D.kd k = 2
    · by_cases h3 : 0 < k ∧ D.up k = i
      · simp [h1, h3]
      · by_cases h4 : 0 < k
        · have : ¬ D.up k = i := fun w => h3 ⟨h4, w⟩
          simp [h1, h4, this]
        · simp [h1, h4]
    · simp [h1]
theorem b1_nodes (hw : D.wf) (hk : k < D.n) : b1 (D.ord k) = mkS (D.nodesOf (fun j => decide (j = k))) := by
  rw [mkS_b1]
  apply mkS_cong
  intro v _
  apply Bool.ext_iff
  rw [decide_eq_true_eq]
  constructor
  · rintro rfl
    rw [D.nodesOf_at hw _ hk]; simp
  · intro h
    obtain ⟨l, hl, rfl, h3⟩ := D.nodesOf_in _ h
    rw [of_decide_eq_true h3]
theorem nodes_0 (D : Doc) : (0 : Int64) = mkS (D.nodesOf (fun _ => false)) := by
  rw [mkS_0]
  apply mkS_cong
  intro v _
  cases h : D.nodesOf (fun _ => false) v with
  | false => rfl
  | true => obtain ⟨l, hl, e, h3⟩ := D.nodesOf_in _ h; cases h3
theorem axis_loop (hM : tc_Mod S z) (hw : D.wf) (hR : RTree c D m) (hO : ROrd c D) (hi : i < D.n) {a : Nat} (ha : a < 13) (by' : Int32) :
    tq_loop (f_X11_axis_b6 155 (nI a) by' (nI (D.ord i)) (tc_mk S c)) tq_N (0, 0) = some (mkS (D.nodesOf (D.ax a i))) := by
  have hn := D.n_le hw
  have W := tc_scan (B := f_X11_axis_b6 155 (nI a) by' (nI (D.ord i)) (tc_mk S c)) D.n (fun k => mkS (D.nodesOf (fun j => D.ax a i j && decide (j < k)))) (e := mkS (D.nodesOf (fun j => D.ax a i j))) (by omega) (fun k hk => ?_) ?_
  · have e0 : mkS (D.nodesOf (fun j => D.ax a i j && decide (j < 0))) = 0 := by
      rw [nodes_0 D]
      exact congrArg mkS (D.nodesOf_cong (fun j _ => by simp))
    rw [e0] at W
    exact W
  · rw [axis_step hM hw hR hO hi hk ha]
    congr 3
    by_cases e : D.ax a i k = true
    · rw [if_pos e, b1_nodes hw hk, mkS_nodes_or]
      refine congrArg mkS (D.nodesOf_cong (fun j _ => ?_))
      by_cases q : j = k
      · subst q; simp [e]
      · simp [q, show (j < k + 1) ↔ j < k by omega]
    · have e2 : D.ax a i k = false := by simpa using e
      rw [if_neg e, nodes_0 D, mkS_nodes_or]
      refine congrArg mkS (D.nodesOf_cong (fun j _ => ?_))
      by_cases q : j = k
      · subst q; simp [e2]
      · simp [show (j < k + 1) ↔ (j < k ∨ j = k) by omega, q]
  · dsimp only [f_X11_axis_b6]
    have e1 : tq_gi (tc_mk S c) 155 11 11 = some (nI D.n) := by simp (maxSteps := 3000000) (disch := omega) only [Option.bind_some, tc_bs, tq_let, tc_I1, tc_I2, tc_J1, tc_J2, tc_J3, tc_F1, tc_F2, tc_F3, tc_F4, tc_G1, tc_G2, tc_G3, tc_G4, tc_G5, tc_us, tc_un, s_one, s_holds, s_J13_bitCount, bz_bI, hM.f, hO.1]
    rw [e1, Option.bind_some, if_pos (Int32.le_refl _)]
    refine congrArg (fun x => (some (Sum.inr x) : Option ((Int64 × Int32) ⊕ Int64))) (congrArg mkS (D.nodesOf_cong (fun j hj => ?_)))
    simp [hj]
theorem s_X11_axis (hM : tc_Mod S z) (hw : D.wf) (hR : RTree c D m) (hO : ROrd c D) (hi : i < D.n) {a : Nat} (ha : a < 12) (by' : Int32) {Q : Nat → Bool} (hQ : c.2.2.2.1 155 31 = mkS (D.nodesOf Q)) :
    f_X11_axis 155 (nI a) by' (nI (D.ord i)) (tc_mk S c) = some (mkS (D.nodesOf (fun j => D.ax a i j && Q j))) := by
  have hn := D.n_le hw
  unfold f_X11_axis
  rw [axis_loop hM hw hR hO hi (show a < 13 by omega), Option.bind_some, if_neg (fun w => by have := (nI_eq (by omega) (show 12 < 2 ^ 31 by decide)).mp w; omega)]
  simp (maxSteps := 3000000) (disch := omega) only [Option.bind_some, tc_bs, tq_let, tc_I1, tc_I2, tc_J1, tc_J2, tc_J3, tc_F1, tc_F2, tc_F3, tc_F4, tc_G1, tc_G2, tc_G3, tc_G4, tc_G5, tc_us, tc_un, s_one, s_holds, s_J13_bitCount, bz_bI, hM.f]
  rw [hQ, mkS_nodes_and hw]
end RAX
