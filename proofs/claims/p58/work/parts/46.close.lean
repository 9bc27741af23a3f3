/-! ===== laying out: what hangs on what ===== -/
section CLO0
variable {D : Doc}
theorem Doc.no_kid (h : D.wf) {j : Nat} (hj : j < D.n) (hz : ∀ k, 0 < k → k < D.n → D.up k ≠ j) : D.en j = j + 1 := by
  have h1 := D.en_gt h hj
  rcases Nat.lt_or_ge (j + 1) (D.en j) with q | q
  · have hn : j + 1 < D.n := Nat.lt_of_lt_of_le q (D.en_le h hj)
    have := (D.en_up h (show j < j + 1 by omega) hn).mp q
    have h2 := D.up_lt h (show 0 < j + 1 by omega) hn
    exact absurd (show D.up (j + 1) = j by omega) (hz _ (by omega) hn)
  · omega
/-- behind a child comes the next child, if the parent goes on -/
theorem Doc.up_en (h : D.wf) {s : Nat} (h0 : 0 < s) (hs : s < D.n) (hlt : D.en s < D.en (D.up s)) : D.up (D.en s) = D.up s := by
  have hu := D.up_lt h h0 hs
  have hg := D.en_gt h hs
  have hn : D.en s < D.n := Nat.lt_of_lt_of_le hlt (D.en_le h (by omega))
  have h1 := (D.en_up h (show D.up s < D.en s by omega) hn).mp hlt
  have h2 := D.up_lt h (show 0 < D.en s by omega) hn
  have h3 := D.up_sp h (show 0 < D.en s by omega) hn
  rcases Nat.lt_or_ge (D.up s) (D.up (D.en s)) with q | q
  · exfalso
    rcases Nat.lt_or_ge (D.up (D.en s)) s with z | z
    · have := (D.en_up h z hs).mp (by omega)
      omega
    · have := (D.en_up h (show s < D.en s by omega) hn).mpr ⟨z, h2⟩
      omega
  · omega
end CLO0
/-- how far the ends are told once the spots from i on are done -/
def Doc.pe (D : Doc) (i j : Nat) : Nat := if fb_ct (fun k => decide (i ≤ k ∧ 0 < k ∧ D.up k = j)) D.n = 0 then j + 1 else D.en j
theorem Doc.pe_no {D : Doc} {i j : Nat} (h : ∀ k, i ≤ k → 0 < k → k < D.n → D.up k ≠ j) : D.pe i j = j + 1 := by
  unfold Doc.pe
  rw [if_pos (fb_ct_zero.mpr (fun k hk => by simp; intro a b; exact h k a b hk))]
theorem Doc.pe_yes {D : Doc} {i j k : Nat} (h1 : i ≤ k) (h2 : 0 < k) (h3 : k < D.n) (h4 : D.up k = j) : D.pe i j = D.en j := by
  unfold Doc.pe
  rw [if_neg]
  intro z
  have := fb_ct_zero.mp z k h3
  simp [h1, h2, h4] at this
theorem Doc.pe_ge {D : Doc} (hw : D.wf) {i j : Nat} (hij : i ≤ j + 1) (hj : j < D.n) : D.pe i j = D.en j := by
  by_cases z : ∀ k, 0 < k → k < D.n → D.up k ≠ j
  · rw [D.pe_no (fun k _ => z k), D.no_kid hw hj z]
  · obtain ⟨k, hk⟩ := Classical.not_forall.mp z
    simp only [not_imp, Classical.not_not] at hk
    obtain ⟨h0, h1, h2⟩ := hk
    have := D.up_lt hw h0 h1
    exact D.pe_yes (by omega) h0 h1 h2
theorem Doc.pe_off {D : Doc} {s j : Nat} (h : 0 < s → D.up s ≠ j) : D.pe s j = D.pe (s + 1) j := by
  unfold Doc.pe
  have : fb_ct (fun k => decide (s ≤ k ∧ 0 < k ∧ D.up k = j)) D.n = fb_ct (fun k => decide (s + 1 ≤ k ∧ 0 < k ∧ D.up k = j)) D.n := fb_ct_cong fun k hk => by
    apply decide_eq_decide.mpr
    constructor
    · rintro ⟨a, b, d⟩
      refine ⟨?_, b, d⟩
      rcases Nat.lt_or_ge s k with y | y
      · exact y
      · have : k = s := by omega
        subst this; exact absurd d (h b)
    · rintro ⟨a, b, d⟩; exact ⟨by omega, b, d⟩
  rw [this]
theorem Doc.pe_up {D : Doc} (hw : D.wf) {s : Nat} (h0 : 0 < s) (hs : s < D.n) : max (D.pe (s + 1) (D.up s)) (D.en s) = D.pe s (D.up s) := by
  have hu := D.up_lt hw h0 hs
  have hi := D.en_in hw hu (D.up_sp hw h0 hs) (by omega)
  rw [D.pe_yes (Nat.le_refl s) h0 hs rfl]
  by_cases z : ∀ k, s + 1 ≤ k → 0 < k → k < D.n → D.up k ≠ D.up s
  · rw [D.pe_no z]
    have hg := D.en_gt hw hs
    rcases Nat.lt_or_ge (D.en s) (D.en (D.up s)) with q | q
    · have := D.up_en hw h0 hs q
      have hn : D.en s < D.n := Nat.lt_of_lt_of_le q (D.en_le hw (by omega))
      exact absurd this (z _ (by omega) (by omega) hn)
    · omega
  · obtain ⟨k, hk⟩ := Classical.not_forall.mp z
    simp only [not_imp, Classical.not_not] at hk
    obtain ⟨h1, h2, h3, h4⟩ := hk
    rw [D.pe_yes h1 h2 h3 h4]
    omega
/-- the layout with the links of the spots from i on -/
def CLay (c : tc_C) (b : Nat) (D : Doc) (i : Nat) : Prop :=
  c.2.2.1 (b + 1) 12 = nI D.n ∧
  (∀ i, i < D.n → c.1 (b + 3) i = nI (D.ord i)) ∧
  (∀ i, i < D.n → c.1 (b + 5) (D.ord i) = nI i) ∧
  (∀ v, v < 60 → (∀ i, i < D.n → D.ord i ≠ v) → c.1 (b + 5) v = -1) ∧
  (∀ i, i < D.n → c.1 (b + 7) i = if i = 0 then -1 else nI (D.up i)) ∧
  (∀ j, j < D.n → c.1 (b + 9) j = nI (D.pe i j)) ∧
  (∀ i, i < D.n → c.1 (b + 11) i = if D.kd i = 0 then D.sp i else -1) ∧
  (∀ i, i < 60 → ∀ j, j < 64 → tb (c.2.1 (b + 13) i) j = decide (0 < j ∧ j < D.n ∧ D.up j = i)) ∧
  (∀ s, i ≤ s → s < D.n → ∀ j, j < 64 → tb (c.2.1 (b + 15) s) j = decide (0 < s ∧ D.kd s ≠ 2 ∧ 0 < j ∧ j < D.n ∧ D.up j = D.up s ∧ D.kd j ≠ 2)) ∧
  (∀ i, i < D.n → ∀ j, j < 64 → tb (c.2.1 (b + 17) i) j = decide (j < i ∧ i < D.en j)) ∧
  (∀ s, i ≤ s → s < D.n → ∀ j, j < 64 → tb (c.2.1 (b + 19) s) j = decide (s < j ∧ j < D.en s)) ∧
  (∀ t, t < 14 → ∀ j, j < 64 → tb (c.2.1 (b + 21) t) j = (decide (j < D.n) && D.tst t j)) ∧
  (∀ j, j < 64 → tb (c.2.2.2.1 (b + 1) 10) j = decide (j < D.n ∧ D.kd j = 0)) ∧
  (∀ j, j < 64 → tb (c.2.2.2.1 (b + 1) 11) j = decide (j < D.n ∧ D.kd j = 2))
section CLO
variable {S : tq_H} {c c' : tc_C} {b m i : Nat} {D : Doc}
theorem PLay.clo (h : PLay c b D D.n) : CLay c b D D.n := by
  obtain ⟨p1, p2, p3, p4, p5, p6, p7, p8, p9, p10, p11, p12⟩ := h
  exact ⟨p1, p2, p3, p4, p5, fun j hj => by rw [p6 j hj, D.pe_no (fun k a _ b => by omega)], p7, p8, fun s a b => by omega, p9, fun s a b => by omega, p10, p11, p12⟩
theorem CLay.lay (hw : D.wf) (h : CLay c b D 0) : Lay c b D := by
  obtain ⟨p1, p2, p3, p4, p5, p6, p7, p8, p9, p10, p11, p12, p13, p14⟩ := h
  exact ⟨p1, p2, p3, p4, p5, fun j hj => by rw [p6 j hj, D.pe_ge hw (by omega) hj], p7, fun s hs => p8 s (by have := D.n_le hw; omega), fun s hs => p9 s (by omega) hs, p10, fun s hs => p11 s (by omega) hs, p12, p13, p14⟩
def belI (x : Int32) : Int64 := if x > 0 then bb x.toNatClampNeg else 0
theorem belI_in {m : Nat} (h : m < 2 ^ 31) : belI (nI m) = bb m := by
  unfold belI
  by_cases z : 0 < m
  · rw [if_pos ((nI_gt0 h).mpr z), nI_clamp h]
  · rw [if_neg (fun w => z ((nI_gt0 h).mp w))]
    have : m = 0 := by omega
    subst this; rfl
theorem s_below (x : Int32) (h : tq_H) : f_X0_below x h = some (belI x) := by
  by_cases a : x > 0
  · have a2 : ¬ x < 0 := Int32.not_lt.mpr (Int32.le_of_lt a)
    obtain ⟨k, hk, rfl⟩ := nI_of a2
    rw [s_X0_below hk, belI_in hk]
  · unfold f_X0_below belI
    rw [if_neg a, if_neg a]
theorem s_X3_close_step (hT : tc_Tree S b) (hw : D.wf) {s : Nat} (hs : s < D.n) (h : CLay c b D (s + 1)) : ∃ c', f_X3_close_b7 (b + 1) (nI s, tc_mk S c) = some (.inl (nI s + (-1), tc_mk S c')) ∧ CLay c' b D s ∧ Off c c' b := by
  obtain ⟨p1, p2, p3, p4, p5, p6, p7, p8, p9, p10, p11, p12, p13, p14⟩ := h
  have hn := D.n_le hw
  have hs60 : s < 60 := by omega
  have hes := D.en_le hw hs
  have z1 : rg 60 (c.1 (b + 7)) (nI s) = D.upI s := by rw [rg_in _ hs60 (by decide), p5 s hs]; rfl
  have z2 : rg 60 (c.1 (b + 9)) (nI s) = nI (D.en s) := by rw [rg_in _ hs60 (by decide), p6 s hs, D.pe_ge hw (by omega) hs]
  -- the ends afterwards
  have z3 : ∀ j, j < D.n → rs 60 (c.1 (b + 9)) (D.upI s) (if rg 60 (c.1 (b + 9)) (D.upI s) < nI (D.en s) then nI (D.en s) else rg 60 (c.1 (b + 9)) (D.upI s)) j = nI (D.pe s j) := by
    intro j hj
    unfold Doc.upI
    by_cases z : s = 0
    · rw [if_pos z, rs_n, p6 j hj, ← D.pe_off (s := s) (fun w => by omega)]
    · have h0 := Nat.pos_of_ne_zero z
      have hu := D.up_lt hw h0 hs
      rw [if_neg z, rs_at _ _ (show D.up s < 60 by omega) (by decide), rg_in _ (show D.up s < 60 by omega) (by decide), p6 _ (by omega)]
      by_cases e : j = D.up s
      · rw [if_pos e, e, ← D.pe_up hw h0 hs]
        have h2 : D.pe (s + 1) (D.up s) < 2 ^ 31 := by
          unfold Doc.pe
          have := D.en_le hw (show D.up s < D.n by omega)
          split <;> omega
        by_cases y : D.pe (s + 1) (D.up s) < D.en s
        · rw [if_pos (nI_lt y (by omega)), Nat.max_eq_right (by omega)]
        · rw [if_neg (nI_nlt (by omega) h2), Nat.max_eq_left (by omega)]
      · rw [if_neg e, p6 j hj, ← D.pe_off (s := s) (fun _ w => e w.symm)]
  have z4 : rg 60 (rs 60 (c.1 (b + 9)) (D.upI s) (if rg 60 (c.1 (b + 9)) (D.upI s) < nI (D.en s) then nI (D.en s) else rg 60 (c.1 (b + 9)) (D.upI s))) (nI s) = nI (D.en s) := by
    rw [rg_in _ hs60 (by decide), z3 s hs, D.pe_ge hw (by omega) hs]
  have e1 : nI s + 1 = nI (s + 1) := nI_1 s
  have hlt : ¬ nI s < 0 := nI_pos (by omega)
  have hatt : hasI (c.2.2.2.1 (b + 1) 11) (nI s) = decide (D.kd s = 2) := by
    rw [hasI_in _ (by omega), p14 s (by omega)]; simp [hs]
  have hB : f_X3_close_b7 (b + 1) (nI s, tc_mk S c) = some (.inl (nI s + (-1), tc_mk S (tc_J (tc_J (tc_I c (b + 9) (rs 60 (c.1 (b + 9)) (D.upI s) (if rg 60 (c.1 (b + 9)) (D.upI s) < nI (D.en s) then nI (D.en s) else rg 60 (c.1 (b + 9)) (D.upI s)))) (b + 19) (ss 60 (c.2.1 (b + 19)) (nI s) (bb (D.en s) &&& (bb (s + 1) ^^^ (-1))))) (b + 15) (ss 60 (c.2.1 (b + 15)) (nI s) (if D.kd s = 2 then 0 else (sg 60 (c.2.1 (b + 13)) (D.upI s) &&& (c.2.2.2.1 (b + 1) 11 ^^^ (-1)))))))) := by
    show (if nI s < 0 then _ else _) = _
    rw [if_neg hlt]
    simp (maxSteps := 3000000) (disch := omega) only [Option.bind_some, tc_bs, tq_let, tc_I1, tc_I2, tc_J1, tc_J2, tc_J3, tc_F1, tc_F2, tc_F3, tc_F4, tc_G1, tc_G2, tc_G3, tc_G4, tc_G5, tc_us, tc_un, s_one, s_holds, s_J13_bitCount, bz_bI, hT.f, s_below, f_X3_children]
    simp only [z1, z2, z4, e1, belI_in (show D.en s < 2 ^ 31 by omega), belI_in (show s + 1 < 2 ^ 31 by omega), hatt]
    by_cases hk : D.kd s = 2
    · have : ¬ bI (decide (D.kd s = 2)) = 0 := by simp [hk, bI]
      rw [if_neg this, if_pos hk, Option.bind_some]
    · have : bI (decide (D.kd s = 2)) = 0 := by simp [hk, bI]
      rw [if_pos this, if_neg hk, Option.bind_some]
  refine ⟨_, hB, ⟨?_, ?_, ?_, ?_, ?_, ?_, ?_, ?_, ?_, ?_, ?_, ?_, ?_, ?_⟩, fun a ha => ?_, fun a ha => ?_, fun a ha => ?_, fun a ha => ?_, ?_⟩
  all_goals simp (maxSteps := 3000000) (disch := omega) only [Option.bind_some, tc_bs, tq_let, tc_I1, tc_I2, tc_J1, tc_J2, tc_J3, tc_F1, tc_F2, tc_F3, tc_F4, tc_G1, tc_G2, tc_G3, tc_G4, tc_G5, tc_us, tc_un, s_one, s_holds, s_J13_bitCount, bz_bI, tc_I1]
  · exact p1
  · exact p2
  · exact p3
  · exact p4
  · exact p5
  · exact z3
  · exact p7
  · exact p8
  · intro t h1 h2 j hj
    rw [ss_at _ _ hs60 (by decide)]
    by_cases e : t = s
    · subst e
      rw [if_pos rfl]
      by_cases hk : D.kd t = 2
      · rw [if_pos hk, tb_0]; simp [hk]
      · rw [if_neg hk, tb_and, tb_not, p14 j hj]
        unfold Doc.upI
        by_cases z : t = 0
        · rw [if_pos z, sg_n, tb_0]; simp [z]
        · have hu := D.up_lt hw (Nat.pos_of_ne_zero z) hs
          rw [if_neg z, sg_in _ (show D.up t < 60 by omega) (by decide), p8 _ (by omega) j hj]
          apply Bool.ext_iff
          simp only [Bool.and_eq_true, decide_eq_true_eq, Bool.not_eq_true', decide_eq_false_iff_not]
          constructor
          · rintro ⟨⟨a1, a2, a3⟩, -, a4⟩; exact ⟨Nat.pos_of_ne_zero z, hk, a1, a2, a3, fun w => a4 ⟨a2, w⟩⟩
          · rintro ⟨-, -, a1, a2, a3, a4⟩; exact ⟨⟨a1, a2, a3⟩, hj, fun w => a4 w.2⟩
    · rw [if_neg e, p9 t (by omega) h2 j hj]
  · exact p10
  · intro t h1 h2 j hj
    rw [ss_at _ _ hs60 (by decide)]
    by_cases e : t = s
    · subst e
      rw [if_pos rfl, tb_and, tb_not, tb_bb, tb_bb]
      apply Bool.ext_iff
      simp only [Bool.and_eq_true, decide_eq_true_eq, Bool.not_eq_true', Bool.and_eq_false_iff, decide_eq_false_iff_not]
      omega
    · rw [if_neg e, p11 t (by omega) h2 j hj]
  · exact p12
  · exact p13
  · exact p14
end CLO
