/-! ===== loops that write one row; rows of paths read ===== -/
theorem tc_rowJ {S : tq_H} {c : tc_C} {a o n : Nat} {B : Int32 × tq_H → Option ((Int32 × tq_H) ⊕ tq_H)} (V : Nat → Int64) (hn : n < 100000)
    (hs : ∀ i g, i < n → (∀ j, j < o ∨ o + i ≤ j → g j = c.2.1 a j) → B (nI i, tc_mk S (tc_J c a g)) = some (.inl (nI (i + 1), tc_mk S (tc_J c a (vp_updL g (o + i) (V i))))))
    (he : ∀ g, B (nI n, tc_mk S (tc_J c a g)) = some (.inr (tc_mk S (tc_J c a g)))) :
    tq_loop B tq_N (0, tc_mk S c) = some (tc_mk S (tc_J c a (fun j => if o ≤ j ∧ j < o + n then V (j - o) else c.2.1 a j))) := by
  have W := tc_iter (B := B) n (fun i => (nI i, tc_mk S (tc_J c a (fun j => if o ≤ j ∧ j < o + i then V (j - o) else c.2.1 a j)))) (e := tc_mk S (tc_J c a (fun j => if o ≤ j ∧ j < o + n then V (j - o) else c.2.1 a j))) (fun i hi => ?_) (he _) (by unfold tq_N; omega)
  · have e0 : tc_J c a (fun j => if o ≤ j ∧ j < o + 0 then V (j - o) else c.2.1 a j) = c := by
      have : (fun j => if o ≤ j ∧ j < o + 0 then V (j - o) else c.2.1 a j) = c.2.1 a := funext fun j => if_neg (by omega)
      rw [this, tc_J_self]
    simp only [e0] at W
    exact W
  · rw [hs i _ hi (fun j hj => if_neg (by omega))]
    congr 5
    funext j
    unfold vp_updL
    by_cases e : j = o + i
    · subst e
      rw [if_pos rfl, if_pos (by omega), Nat.add_sub_cancel_left]
    · rw [if_neg e]
      dsimp only
      by_cases h : o ≤ j ∧ j < o + i
      · rw [if_pos h, if_pos (by omega)]
      · rw [if_neg h, if_neg (by omega)]
/-- the same, in words -/
theorem tc_row {S : tq_H} {c : tc_C} {a o n : Nat} {B : Int32 × tq_H → Option ((Int32 × tq_H) ⊕ tq_H)} (V : Nat → Int64) (hn : n < 100000)
    (hs : ∀ i g, i < n → (∀ j, j < o ∨ o + i ≤ j → g j = c.2.1 a j) → B (nI i, tc_mk S (tc_J c a g)) = some (.inl (nI (i + 1), tc_mk S (tc_J c a (vp_updL g (o + i) (V i))))))
    (he : ∀ g, B (nI n, tc_mk S (tc_J c a g)) = some (.inr (tc_mk S (tc_J c a g)))) :
    ∃ c', tq_loop B tq_N (0, tc_mk S c) = some (tc_mk S c') ∧ (∀ i, i < n → c'.2.1 a (o + i) = V i) ∧ (∀ j, j < o ∨ o + n ≤ j → c'.2.1 a j = c.2.1 a j) ∧ Kp a (a + 1) c c' := by
  refine ⟨_, tc_rowJ V hn hs he, fun i hi => ?_, fun j hj => ?_, Kp.J _ (Nat.le_refl _) (Nat.lt_succ_self _)⟩
  · rw [tc_J2, tc_us, if_pos (by omega), Nat.add_sub_cancel_left]
  · rw [tc_J2, tc_us, if_neg (by omega)]
theorem orTo_mkS {g : Nat → Int64} {X : Nat → Bool} {T : Nat → Nat → Bool} {n : Nat} (hn : n ≤ 64) (hX : ∀ m, X m = true → m < n) (hg : ∀ m, m < n → g m = mkS (T m)) : orTo g (mkS X) 64 = mkS (fun j => anyB (fun m => X m && T m j) n) := by
  apply tb_ext
  intro j hj
  apply Bool.ext_iff
  rw [tb_orTo, tb_mkS, Bool.and_eq_true, anyB_iff]
  constructor
  · rintro ⟨m, h1, h2, h3⟩
    rw [tb_mkS, Bool.and_eq_true] at h2
    have hm := hX m h2.2
    rw [hg m hm, tb_mkS, Bool.and_eq_true] at h3
    exact ⟨by simp [hj], m, hm, by rw [h2.2, h3.2]; rfl⟩
  · rintro ⟨-, m, hm, h⟩
    rw [Bool.and_eq_true] at h
    exact ⟨m, by omega, by rw [tb_mkS, h.1]; simp; omega, by rw [hg m hm, tb_mkS, h.2]; simp [hj]⟩
section PCR
variable {S : tq_H} {c : tc_C} {p k d : Nat} {P : Pat}
theorem nI_mul (a b : Nat) : nI a * nI b = nI (a * b) := by
  unfold nI
  rw [← Int32.ofNat_mul]
theorem pc_n (h : PC c 98 P) : c.2.2.1 98 9 = nI P.n := h.1
theorem pc_sc (h : PC c 98 P) (hp : p < P.n) (h20 : P.n ≤ 20) : c.1 100 p = nI (P.sc p) := by
  have := h.2.1 p (by omega)
  rw [if_pos hp] at this
  exact this
theorem s_X4_stepsOf (hS : tc_Pth S 98) (h : PC c 98 P) (hP : P.wf) (hp : p < P.n) : f_X4_stepsOf 98 (nI p) (tc_mk S c) = some (nI (P.sc p)) := by
  have := hP.1
  simp (maxSteps := 3000000) (disch := omega) only [Option.bind_some, tc_bs, tq_let, tc_I1, tc_I2, tc_J1, tc_J2, tc_J3, tc_F1, tc_F2, tc_F3, tc_F4, tc_G1, tc_G2, tc_G3, tc_G4, tc_G5, tc_us, tc_un, s_one, s_holds, s_J13_bitCount, bz_bI, f_X4_stepsOf, hS.f, rg_in _ (show p < 20 by omega) (show 20 < 2 ^ 31 by decide), pc_sc h hp hP.1]
theorem tc_Pth.is (hS : tc_Pth S 98) (c : tc_C) : tq_is (tc_mk S c) 98 4 = some () := tc_is hS.1
theorem tc_Tree.is (hS : tc_Tree S 1) (c : tc_C) : tq_is (tc_mk S c) 2 3 = some () := tc_is hS.2.1
theorem s_X4_stepAt (t p k : Nat) (h : tq_H) : f_X4_stepAt t (nI p) (nI k) h = some (nI (5 * p + k)) := by
  unfold f_X4_stepAt
  rw [show (5 : Int32) = nI 5 from rfl, nI_mul, nI_add, Nat.mul_comm]
theorem s_X4_conditionAt (t p k : Nat) (h : tq_H) : f_X4_conditionAt t (nI p) (nI k) h = some (nI (2 * p + k)) := by
  unfold f_X4_conditionAt
  rw [show (2 : Int32) = nI 2 from rfl, nI_mul, nI_add, Nat.mul_comm]
theorem s_X4_axisOf (hS : tc_Pth S 98) (h : PC c 98 P) (hP : P.wf) (hp : p < P.n) (hk : k < P.sc p) : f_X4_axisOf 98 (nI (5 * p + k)) (tc_mk S c) = some (nI (P.ax (5 * p + k))) := by
  have := hP.1
  have := hP.2.1 p hp
  simp (maxSteps := 3000000) (disch := omega) only [Option.bind_some, tc_bs, tq_let, tc_I1, tc_I2, tc_J1, tc_J2, tc_J3, tc_F1, tc_F2, tc_F3, tc_F4, tc_G1, tc_G2, tc_G3, tc_G4, tc_G5, tc_us, tc_un, s_one, s_holds, s_J13_bitCount, bz_bI, f_X4_axisOf, hS.f, rg_in _ (show 5 * p + k < 100 by omega) (show 100 < 2 ^ 31 by decide)]
  rw [(h.2.2.1 p k hp hk).1]
theorem s_X4_testOf (hS : tc_Pth S 98) (h : PC c 98 P) (hP : P.wf) (hp : p < P.n) (hk : k < P.sc p) : f_X4_testOf 98 (nI (5 * p + k)) (tc_mk S c) = some (nI (P.ts (5 * p + k))) := by
  have := hP.1
  have := hP.2.1 p hp
  simp (maxSteps := 3000000) (disch := omega) only [Option.bind_some, tc_bs, tq_let, tc_I1, tc_I2, tc_J1, tc_J2, tc_J3, tc_F1, tc_F2, tc_F3, tc_F4, tc_G1, tc_G2, tc_G3, tc_G4, tc_G5, tc_us, tc_un, s_one, s_holds, s_J13_bitCount, bz_bI, f_X4_testOf, hS.f, rg_in _ (show 5 * p + k < 100 by omega) (show 100 < 2 ^ 31 by decide)]
  rw [(h.2.2.1 p k hp hk).2.1]
theorem s_X4_repeatOf (hS : tc_Pth S 98) (h : PC c 98 P) (hP : P.wf) (hp : p < P.n) (hk : k < P.sc p) (ha : P.ax (5 * p + k) = 12) : f_X4_repeatOf 98 (nI (5 * p + k)) (tc_mk S c) = some (nI (P.by (5 * p + k))) := by
  have := hP.1
  have := hP.2.1 p hp
  simp (maxSteps := 3000000) (disch := omega) only [Option.bind_some, tc_bs, tq_let, tc_I1, tc_I2, tc_J1, tc_J2, tc_J3, tc_F1, tc_F2, tc_F3, tc_F4, tc_G1, tc_G2, tc_G3, tc_G4, tc_G5, tc_us, tc_un, s_one, s_holds, s_J13_bitCount, bz_bI, f_X4_repeatOf, hS.f, rg_in _ (show 5 * p + k < 100 by omega) (show 100 < 2 ^ 31 by decide)]
  rw [(h.2.2.1 p k hp hk).2.2 ha]
theorem s_X4_conditionsOf (hS : tc_Pth S 98) (h : PC c 98 P) (hP : P.wf) (hp : p < P.n) (hk : k < P.sc p) : f_X4_conditionsOf 98 (nI (5 * p + k)) (tc_mk S c) = some (nI (P.cc (5 * p + k))) := by
  have h20 := hP.1
  have h5 := hP.2.1 p hp
  have := h.2.2.2.1 p k (by omega) (by omega)
  rw [if_pos ⟨hp, hk⟩] at this
  simp (maxSteps := 3000000) (disch := omega) only [Option.bind_some, tc_bs, tq_let, tc_I1, tc_I2, tc_J1, tc_J2, tc_J3, tc_F1, tc_F2, tc_F3, tc_F4, tc_G1, tc_G2, tc_G3, tc_G4, tc_G5, tc_us, tc_un, s_one, s_holds, s_J13_bitCount, bz_bI, f_X4_conditionsOf, hS.f, rg_in _ (show 5 * p + k < 100 by omega) (show 100 < 2 ^ 31 by decide)]
  rw [this]
theorem s_X4_whatOf (hS : tc_Pth S 98) (h : PC c 98 P) (hP : P.wf) (hp : p < P.n) (hk : k < P.sc p) (hd : d < P.cc (5 * p + k)) : f_X4_whatOf 98 (nI (2 * (5 * p + k) + d)) (tc_mk S c) = some (nI (P.cw (2 * (5 * p + k) + d))) := by
  have := hP.1
  have := hP.2.1 p hp
  have := (hP.2.2 p k hp hk).2.2.2.1
  simp (maxSteps := 3000000) (disch := omega) only [Option.bind_some, tc_bs, tq_let, tc_I1, tc_I2, tc_J1, tc_J2, tc_J3, tc_F1, tc_F2, tc_F3, tc_F4, tc_G1, tc_G2, tc_G3, tc_G4, tc_G5, tc_us, tc_un, s_one, s_holds, s_J13_bitCount, bz_bI, f_X4_whatOf, hS.f, rg_in _ (show 2 * (5 * p + k) + d < 200 by omega) (show 200 < 2 ^ 31 by decide)]
  rw [(h.2.2.2.2 p k d hp hk hd).1]
theorem s_X4_otherOf (hS : tc_Pth S 98) (h : PC c 98 P) (hP : P.wf) (hp : p < P.n) (hk : k < P.sc p) (hd : d < P.cc (5 * p + k)) (hw : 2 ≤ P.cw (2 * (5 * p + k) + d)) : f_X4_otherOf 98 (nI (2 * (5 * p + k) + d)) (tc_mk S c) = some (nI (P.co (2 * (5 * p + k) + d))) := by
  have := hP.1
  have := hP.2.1 p hp
  have := (hP.2.2 p k hp hk).2.2.2.1
  simp (maxSteps := 3000000) (disch := omega) only [Option.bind_some, tc_bs, tq_let, tc_I1, tc_I2, tc_J1, tc_J2, tc_J3, tc_F1, tc_F2, tc_F3, tc_F4, tc_G1, tc_G2, tc_G3, tc_G4, tc_G5, tc_us, tc_un, s_one, s_holds, s_J13_bitCount, bz_bI, f_X4_otherOf, hS.f, rg_in _ (show 2 * (5 * p + k) + d < 200 by omega) (show 200 < 2 ^ 31 by decide)]
  rw [(h.2.2.2.2 p k d hp hk hd).2.1 hw]
theorem s_X4_comparisonOf (hS : tc_Pth S 98) (h : PC c 98 P) (hP : P.wf) (hp : p < P.n) (hk : k < P.sc p) (hd : d < P.cc (5 * p + k)) (hw : P.cw (2 * (5 * p + k) + d) = 0 ∨ P.cw (2 * (5 * p + k) + d) = 4) : f_X4_comparisonOf 98 (nI (2 * (5 * p + k) + d)) (tc_mk S c) = some (nI (P.cm (2 * (5 * p + k) + d))) := by
  have := hP.1
  have := hP.2.1 p hp
  have := (hP.2.2 p k hp hk).2.2.2.1
  simp (maxSteps := 3000000) (disch := omega) only [Option.bind_some, tc_bs, tq_let, tc_I1, tc_I2, tc_J1, tc_J2, tc_J3, tc_F1, tc_F2, tc_F3, tc_F4, tc_G1, tc_G2, tc_G3, tc_G4, tc_G5, tc_us, tc_un, s_one, s_holds, s_J13_bitCount, bz_bI, f_X4_comparisonOf, hS.f, rg_in _ (show 2 * (5 * p + k) + d < 200 by omega) (show 200 < 2 ^ 31 by decide)]
  rw [((h.2.2.2.2 p k d hp hk hd).2.2 hw).1]
theorem s_X4_numberOf (hS : tc_Pth S 98) (h : PC c 98 P) (hP : P.wf) (hp : p < P.n) (hk : k < P.sc p) (hd : d < P.cc (5 * p + k)) (hw : P.cw (2 * (5 * p + k) + d) = 0 ∨ P.cw (2 * (5 * p + k) + d) = 4) : f_X4_numberOf 98 (nI (2 * (5 * p + k) + d)) (tc_mk S c) = some (nI (P.cn (2 * (5 * p + k) + d))) := by
  have := hP.1
  have := hP.2.1 p hp
  have := (hP.2.2 p k hp hk).2.2.2.1
  simp (maxSteps := 3000000) (disch := omega) only [Option.bind_some, tc_bs, tq_let, tc_I1, tc_I2, tc_J1, tc_J2, tc_J3, tc_F1, tc_F2, tc_F3, tc_F4, tc_G1, tc_G2, tc_G3, tc_G4, tc_G5, tc_us, tc_un, s_one, s_holds, s_J13_bitCount, bz_bI, f_X4_numberOf, hS.f, rg_in _ (show 2 * (5 * p + k) + d < 200 by omega) (show 200 < 2 ^ 31 by decide)]
  rw [((h.2.2.2.2 p k d hp hk hd).2.2 hw).2]
theorem PC.kp {c' : tc_C} {lo hi : Nat} (h : PC c 98 P) (k : Kp lo hi c c') (hd : hi ≤ 98 ∨ 117 ≤ lo) : PC c' 98 P := by
  obtain ⟨k1, k2, k3, k4, -⟩ := k
  unfold PC at h ⊢
  rw [k1 (98 + 2) (by omega), k1 (98 + 4) (by omega), k1 (98 + 6) (by omega), k1 (98 + 8) (by omega), k1 (98 + 10) (by omega), k1 (98 + 12) (by omega), k1 (98 + 14) (by omega), k1 (98 + 16) (by omega), k1 (98 + 18) (by omega), k3 98 (by omega)]
  exact h
end PCR
/-! ===== what of a set stands at a place as asked ===== -/
section KPL
theorem low_b1 {x : Int64} {m : Nat} (h : Low x m) : (x &&& (-x)) = mkS (fun j => decide (j = m)) := by rw [low_iso h, mkS_b1]
theorem s_keepPlaced (X : Nat → Bool) (back : Bool) (k y : Int32) (w : tq_H) : f_X2_keepPlaced (mkS X) (bI back) k y w = some (mkS (fun j => X j && agr (nI (plc back X j)) k y)) := by
  have hle := fb_ct_le X 64
  unfold f_X2_keepPlaced
  rw [s_J13_bitCount, ct_mkS, Option.bind_some]
  have hct : ∀ j, j ≤ 64 → fb_ct (tb (mkS X)) j = fb_ct X j := fun j hj => fb_ct_cong fun l hl => by rw [tb_mkS]; simp; omega
  have W := tc_run (B := f_X2_keepPlaced_b15 (bI back) k y (nI (fb_ct X 64)) w) (fb_ct X 64) (fun i z => (mkS (fun j => (X j && decide (fb_ct X j < i)) && agr (nI (plc back X j)) k y), z, nI (i + 1))) (fun i z => Rest (mkS X) i z) (fun _ => mkS (fun j => X j && agr (nI (plc back X j)) k y)) (by omega) (fun i z hi hR => ?_) (fun z hR => ?_) (x := mkS X) (rest_0 _)
  · obtain ⟨z, h1, -⟩ := W
    have e0 : mkS (fun j => (X j && decide (fb_ct X j < 0)) && agr (nI (plc back X j)) k y) = 0 := by
      rw [mkS_0]; exact mkS_cong fun j _ => by simp
    rw [e0] at h1
    rw [show (1 : Int32) = nI (0 + 1) from rfl, h1]
    rfl
  · obtain ⟨m, h1, h2, h3⟩ := fb_ct_kth hi
    have hm1 : tb (mkS X) m = true := by rw [tb_mkS, h2]; simp [h1]
    have hm2 : fb_ct (tb (mkS X)) m = i := by rw [hct m (by omega), h3]
    have hlow := rest_low hR h1 hm1 hm2
    refine ⟨z &&& (z - 1), ?_, rest_succ hR h1 hm1 hm2⟩
    dsimp only [f_X2_keepPlaced_b15]
    have hg : ¬ nI (i + 1) > nI (fb_ct X 64) := nI_nlt (by omega) (by omega)
    rw [if_neg hg]
    have hp : (if bI back = 0 then nI (i + 1) else nI (fb_ct X 64 + 1) - nI (i + 1)) = nI (plc back X m) := by
      unfold plc
      cases back with
      | false => rw [h3]; rfl
      | true =>
        rw [if_neg (by decide), if_pos rfl, h3, pk_sub (show i + 1 ≤ fb_ct X 64 + 1 by omega)]
        congr 1; omega
    simp only [tq_let, hp, s_X0_agrees, Option.bind_some, nI_1, low_b1 hlow, mkS_or]
    have hnext : ∀ b, agr (nI (plc back X m)) k y = b → mkS (fun j => (X j && decide (fb_ct X j < i + 1)) && agr (nI (plc back X j)) k y) = mkS (fun j => ((X j && decide (fb_ct X j < i)) && agr (nI (plc back X j)) k y) || (b && decide (j = m))) := by
      intro b hb
      apply mkS_cong
      intro j hj
      by_cases e : j = m
      · subst e; simp [h2, h3, hb]
      · cases hx : X j with
        | false => simp [e]
        | true =>
          have : (fb_ct X j < i + 1) ↔ fb_ct X j < i := by
            refine ⟨fun q => ?_, fun q => by omega⟩
            rcases Nat.lt_or_ge (fb_ct X j) i with r | r
            · exact r
            · exact absurd (fb_ct_kth_one hx h2 (by omega)) e
          simp [e, this]
    cases hb : agr (nI (plc back X m)) k y with
    | false =>
      rw [if_pos (by decide), hnext _ hb, Option.bind_some]
      simp
    | true =>
      rw [if_neg (by decide), hnext _ hb, Option.bind_some]
      simp
  · dsimp only [f_X2_keepPlaced_b15]
    have hg : nI (fb_ct X 64 + 1) > nI (fb_ct X 64) := nI_lt (by omega) (by omega)
    rw [if_pos hg]
    congr 2
    apply mkS_cong
    intro j hj
    cases hx : X j with
    | false => rfl
    | true =>
      have := fb_ct_mono X (show j + 1 ≤ 64 by omega)
      rw [fb_ct_succ, if_pos hx] at this
      simp [show fb_ct X j < fb_ct X 64 by omega]
theorem s_X2_goesBack {a : Nat} (ha : a < 13) (w : tq_H) : f_X2_goesBack (nI a) w = some (bI (bck a)) := by
  have hc : a = 0 ∨ a = 1 ∨ a = 2 ∨ a = 3 ∨ a = 4 ∨ a = 5 ∨ a = 6 ∨ a = 7 ∨ a = 8 ∨ a = 9 ∨ a = 10 ∨ a = 11 ∨ a = 12 := by omega
  rcases hc with rfl | rfl | rfl | rfl | rfl | rfl | rfl | rfl | rfl | rfl | rfl | rfl | rfl <;> rfl
end KPL
