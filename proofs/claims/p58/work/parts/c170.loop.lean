/-! ===== the law's loop ===== -/
section LOO
variable {n j k : Nat} {xs : Nat → Int32} {h0 : tq_H}
theorem law_step (h : InvE dist h0) (hn : n ≤ 2560) (hj : 5 * j + 5 ≤ n) : ∃ h', f_V_law_b23 n xs 0 155 205 (nI (5 * j), h0) = some (.inl (nI (5 * (j + 1)), h')) ∧ InvE dist h' := by
  have key : nI (5 * j) + 5 = nI (5 * (j + 1)) := by rw [show (5 : Int32) = nI 5 from rfl, nI_add]; rfl
  have sx : ∀ d, d < 5 → tq_sx n xs (nI (5 * j + d)) = some (xs (5 * j + d)) := fun d hd => by
    unfold tq_sx
    rw [nI_clamp (by omega), if_neg (by rintro (w | w); exact nI_pos (by omega) w; omega)]
  have e0 : tq_sx n xs (nI (5 * j)) = some (xs (5 * j)) := sx 0 (by omega)
  have e1 : tq_sx n xs (nI (5 * j) + 1) = some (xs (5 * j + 1)) := by rw [show (1 : Int32) = nI 1 from rfl, nI_add]; exact sx 1 (by omega)
  have e2 : tq_sx n xs (nI (5 * j) + 2) = some (xs (5 * j + 2)) := by rw [show (2 : Int32) = nI 2 from rfl, nI_add]; exact sx 2 (by omega)
  have e3 : tq_sx n xs (nI (5 * j) + 3) = some (xs (5 * j + 3)) := by rw [show (3 : Int32) = nI 3 from rfl, nI_add]; exact sx 3 (by omega)
  have e4 : tq_sx n xs (nI (5 * j) + 4) = some (xs (5 * j + 4)) := by rw [show (4 : Int32) = nI 4 from rfl, nI_add]; exact sx 4 (by omega)
  have g : ¬ nI (5 * j) > Int32.ofNat n - 5 := by
    show ¬ nI (5 * j) > nI n - nI 5
    rw [pk_sub (by omega)]
    exact nI_nlt (by omega) (by omega)
  rw [← key]
  unfold f_V_law_b23
  simp only [g, if_false, e0, Option.bind_some]
  generalize xs (5 * j) &&& 63 = o
  by_cases c0 : o = 0
  · rw [if_pos c0]; exact arm_insertElement h e1 e2 e3
  rw [if_neg c0]
  by_cases c1 : o = 1
  · rw [if_pos c1]; exact arm_insertText h e1 e2 e3
  rw [if_neg c1]
  by_cases c2 : o = 2
  · rw [if_pos c2]; exact arm_insertAttribute h e1 e2 e3
  rw [if_neg c2]
  by_cases c3 : o = 3
  · rw [if_pos c3]; exact arm_remove h e1
  rw [if_neg c3]
  by_cases c4 : o = 4
  · rw [if_pos c4]; exact arm_rename h e1 e2
  rw [if_neg c4]
  by_cases c5 : o = 5
  · rw [if_pos c5]; exact arm_setValue h e1 e2
  rw [if_neg c5]
  by_cases c6 : o = 6
  · rw [if_pos c6]; exact arm_move h e1 e2 e3
  rw [if_neg c6]
  by_cases c7 : o = 7
  · rw [if_pos c7]; exact arm_declare h e1 e2
  rw [if_neg c7]
  by_cases c8 : o = 8
  · rw [if_pos c8]; exact arm_apply h
  rw [if_neg c8]
  by_cases c9 : o = 9
  · rw [if_pos c9]; exact arm_forget h
  rw [if_neg c9]
  by_cases c10 : o = 10
  · rw [if_pos c10]; exact arm_made h
  rw [if_neg c10]
  by_cases c11 : o = 11
  · rw [if_pos c11]; exact arm_nodes h
  rw [if_neg c11]
  by_cases c12 : o = 12
  · rw [if_pos c12]; exact arm_isThere h e1
  rw [if_neg c12]
  by_cases c13 : o = 13
  · rw [if_pos c13]; exact arm_kind h e1
  rw [if_neg c13]
  by_cases c14 : o = 14
  · rw [if_pos c14]; exact arm_name h e1
  rw [if_neg c14]
  by_cases c15 : o = 15
  · rw [if_pos c15]; exact arm_value h e1
  rw [if_neg c15]
  by_cases c16 : o = 16
  · rw [if_pos c16]; exact arm_parent h e1
  rw [if_neg c16]
  by_cases c17 : o = 17
  · rw [if_pos c17]; exact arm_child h e1 e2
  rw [if_neg c17]
  by_cases c18 : o = 18
  · rw [if_pos c18]; exact arm_space h e1
  rw [if_neg c18]
  by_cases c19 : o = 19
  · rw [if_pos c19]; exact arm_number h e1
  rw [if_neg c19]
  by_cases c20 : o = 20
  · rw [if_pos c20]; exact arm_numbered h
  rw [if_neg c20]
  by_cases c21 : o = 21
  · rw [if_pos c21]; exact arm_path h
  rw [if_neg c21]
  by_cases c22 : o = 22
  · rw [if_pos c22]; exact arm_step h e1 e2 e3 e4
  rw [if_neg c22]
  by_cases c23 : o = 23
  · rw [if_pos c23]; exact arm_place h e1 e2 e3
  rw [if_neg c23]
  by_cases c24 : o = 24
  · rw [if_pos c24]; exact arm_last h e1
  rw [if_neg c24]
  by_cases c25 : o = 25
  · rw [if_pos c25]; exact arm_has h e1 e2 e3
  rw [if_neg c25]
  by_cases c26 : o = 26
  · rw [if_pos c26]; exact arm_worth h e1 e2 e3 e4
  rw [if_neg c26]
  by_cases c27 : o = 27
  · rw [if_pos c27]; exact arm_paths h
  rw [if_neg c27]
  by_cases c28 : o = 28
  · rw [if_pos c28]; exact arm_reader h e1
  rw [if_neg c28]
  by_cases c29 : o = 29
  · rw [if_pos c29]; exact arm_found h e1 e2
  rw [if_neg c29]
  by_cases c30 : o = 30
  · rw [if_pos c30]; exact arm_foundAnew h e1 e2
  rw [if_neg c30]
  by_cases c31 : o = 31
  · rw [if_pos c31]; exact arm_foundAt h e1 e2
  rw [if_neg c31]
  by_cases c32 : o = 32
  · rw [if_pos c32]; exact arm_ordered h e1 e2
  rw [if_neg c32]
  by_cases c33 : o = 33
  · rw [if_pos c33]; exact arm_groups h e1
  rw [if_neg c33]
  by_cases c34 : o = 34
  · rw [if_pos c34]; exact arm_nameType h e1 e2
  rw [if_neg c34]
  by_cases c35 : o = 35
  · rw [if_pos c35]; exact arm_arc h e1 e2 e3 e4
  rw [if_neg c35]
  by_cases c36 : o = 36
  · rw [if_pos c36]; exact arm_setFinal h e1 e2 e3
  rw [if_neg c36]
  by_cases c37 : o = 37
  · rw [if_pos c37]; exact arm_allowTexts h e1 e2
  rw [if_neg c37]
  by_cases c38 : o = 38
  · rw [if_pos c38]; exact arm_attribute h e1 e2 e3
  rw [if_neg c38]
  by_cases c39 : o = 39
  · rw [if_pos c39]; exact arm_setStrict h e1
  rw [if_neg c39]
  by_cases c40 : o = 40
  · rw [if_pos c40]; exact arm_isValid h
  rw [if_neg c40]
  by_cases c41 : o = 41
  · rw [if_pos c41]; exact arm_types h e1
  rw [if_neg c41]
  by_cases c42 : o = 42
  · rw [if_pos c42]; exact arm_infer h e1
  rw [if_neg c42]
  by_cases c43 : o = 43
  · rw [if_pos c43]; exact arm_index h e1
  rw [if_neg c43]
  by_cases c44 : o = 44
  · rw [if_pos c44]; exact arm_plan h e1
  rw [if_neg c44]
  by_cases c45 : o = 45
  · rw [if_pos c45]; exact arm_view h e1
  rw [if_neg c45]
  by_cases c46 : o = 46
  · rw [if_pos c46]; exact arm_viewed h e1 e2
  rw [if_neg c46]
  by_cases c47 : o = 47
  · rw [if_pos c47]; exact arm_changed h e1
  rw [if_neg c47]
  by_cases c48 : o = 48
  · rw [if_pos c48]; exact arm_ranked h e1 e2
  rw [if_neg c48]
  by_cases c49 : o = 49
  · rw [if_pos c49]; exact arm_keep h
  rw [if_neg c49]
  by_cases c50 : o = 50
  · rw [if_pos c50]; exact arm_take h e1
  rw [if_neg c50]
  by_cases c51 : o = 51
  · rw [if_pos c51]; exact arm_distance h e1 e2
  rw [if_neg c51]
  by_cases c52 : o = 52
  · rw [if_pos c52]; exact arm_odds h e1 e2 e3
  rw [if_neg c52]
  by_cases c53 : o = 53
  · rw [if_pos c53]; exact arm_hide h e1
  rw [if_neg c53]
  by_cases c54 : o = 54
  · rw [if_pos c54]; exact arm_isSeen h e1
  rw [if_neg c54]
  exact ⟨h0, rfl, h⟩
theorem law_end (hn : n ≤ 2560) (hj : n < 5 * j + 5) (hj2 : j ≤ 600) : f_V_law_b23 n xs 0 155 205 (nI (5 * j), h0) = some (.inr (1, h0)) := by
  have g : nI (5 * j) > Int32.ofNat n - 5 := by
    show nI n - nI 5 < nI (5 * j)
    rcases Nat.lt_or_ge n 5 with w | w
    · have h1 : nI n - nI 5 < 0 := by
        have : n = 0 ∨ n = 1 ∨ n = 2 ∨ n = 3 ∨ n = 4 := by omega
        rcases this with rfl | rfl | rfl | rfl | rfl <;> decide
      have h2 : (0 : Int32) ≤ nI (5 * j) := nI_pos' (by omega)
      exact Int32.lt_of_lt_of_le h1 h2
    · rw [pk_sub w]; exact nI_lt (by omega) (by omega)
  unfold f_V_law_b23
  simp only [g, if_true]
theorem law_run (hn : n ≤ 2560) : ∀ (k j : Nat) (h0 : tq_H), InvE dist h0 → n < 5 * (j + k) + 5 → j + k ≤ 600 → ∃ h1, tq_loop (f_V_law_b23 n xs 0 155 205) (k + 1) (nI (5 * j), h0) = some (1, h1)
  | k, j, h0, h, hk, hk2 => by
    rcases Nat.lt_or_ge n (5 * j + 5) with w | w
    · refine ⟨h0, ?_⟩
      unfold tq_loop
      rw [law_end hn w (by omega)]
    · cases k with
      | zero => omega
      | succ k =>
        obtain ⟨h', e, i⟩ := law_step (xs := xs) h hn w
        unfold tq_loop
        rw [e]
        exact law_run hn k (j + 1) h' i (by omega) (by omega)
end LOO
