/-! ===== the class numbers what is new ===== -/
/-- new solids: inserted or moved nodes, and what is below them -/
def Doc.frQ (D : Doc) (fr : Nat → Bool) (j : Nat) : Bool := D.spread (fun j => decide (j < D.n) && fr (D.ord j)) j && decide (j < D.n ∧ D.kd j ≠ 2)
/-- the numbers once what is new is numbered -/
def Nb (c : tc_C) (a : Nat) (D : Doc) (Q : Nat → Bool) (N : Nat → Int32) : Prop :=
  (∀ j, Q j = true → c.1 a (D.ord j) = D.nwN Q N j) ∧ (∀ v, (∀ j, Q j = true → D.ord j ≠ v) → c.1 a v = N v)
section NFR
variable {S : tq_H} {c c' : tc_C} {b i j k v m lo hi s : Nat} {D : Doc} {P Q : Nat → Bool} {N : Nat → Int32} {fr : Nat → Bool}
theorem Doc.kp_iff : D.kp Q j = true ↔ j < D.n ∧ D.kd j ≠ 2 ∧ Q j = false := by
  unfold Doc.kp Doc.sol
  rw [Bool.and_eq_true, Bool.and_eq_true, decide_eq_true_iff, decide_eq_true_iff, Bool.not_eq_true']
theorem Doc.kp_lo (h0 : D.kp Q 0 = true) (s : Nat) : D.kp Q (loK (D.kp Q) s) = true := by
  by_cases q : s = 0
  · subst q; exact h0
  · exact (loK_at h0 (Nat.pos_of_ne_zero q)).1
/-- where a new spot between two kept ones stands -/
theorem Doc.kp_in (h0 : D.kp Q 0 = true) (hQ : ∀ j, Q j = true → j < D.n ∧ D.kd j ≠ 2) (hs : s ≤ D.n) (hk : s < D.n → D.kp Q s = true) (hj : Q j = true) (h1 : loK (D.kp Q) s ≤ j) (h2 : j < s) :
    loK (D.kp Q) j = loK (D.kp Q) s ∧ hiK (D.kp Q) D.n j = s ∧ loK (D.kp Q) s < j := by
  obtain ⟨a, b, d⟩ := loK_at h0 (show 0 < s by omega)
  have hne : loK (D.kp Q) s ≠ j := fun z => by
    rw [z] at a
    have := (Doc.kp_iff.mp a).2.2
    rw [hj] at this; cases this
  refine ⟨loK_is a (by omega) fun k x y => d k x (by omega), hiK_is (Nat.le_of_lt h2) hs (fun k x y => d k (by omega) y) hk, by omega⟩
theorem ct_mid {lo hi : Nat} (h1 : lo ≤ j) (h2 : j < hi) : fb_ct (fun j => Q j && decide (lo ≤ j ∧ j < hi)) (j + 1) = fb_ct Q (j + 1) - fb_ct Q lo := by
  rw [ct_cutP]
  congr 2
  by_cases q : j + 1 < hi
  · rw [if_pos q, if_neg (by omega)]
  · rw [if_neg q, if_neg (by omega)]; omega
theorem ct_all {lo hi : Nat} (h1 : lo ≤ hi) (h2 : hi ≤ 64) : fb_ct (fun j => Q j && decide (lo ≤ j ∧ j < hi)) 64 = fb_ct Q hi - fb_ct Q lo := by
  rw [ct_cutP, if_neg (by omega), if_neg (by omega)]
theorem s_X8_numberFresh (hT : tc_Tree S b) (hw : D.wf) (hL : Lay c b D) (h0 : fr (D.ord 0) = false) (hN : c.1 (b + 33) = N) :
    ∃ r c', f_X8_numberFresh b (mkS fr) (tc_mk S c) = some (bI r, tc_mk S c') ∧ (r = true ↔ D.fitN (D.frQ fr) N) ∧ (r = true → Nb c' (b + 33) D (D.frQ fr) N) ∧
      (∀ v, (∀ j, j < D.n → D.kd j ≠ 2 → D.ord j ≠ v) → c'.1 (b + 33) v = N v) ∧ (∀ a, a ≠ b + 33 → c'.1 a = c.1 a) ∧ c'.2 = c.2 := by
  have hn := D.n_le hw
  have hQ : ∀ j, D.frQ fr j = true → j < D.n ∧ D.kd j ≠ 2 := fun j h => by
    unfold Doc.frQ at h
    rw [Bool.and_eq_true] at h
    exact of_decide_eq_true h.2
  have hk0 : D.kp (D.frQ fr) 0 = true := by
    refine Doc.kp_iff.mpr ⟨D.n_pos hw, by rw [D.kd_0 hw]; decide, ?_⟩
    unfold Doc.frQ Doc.spread
    dsimp only
    rw [h0]
    have : anyB (fun s => (decide (s < D.n) && fr (D.ord s)) && decide (s < 0 ∧ 0 < D.en s)) D.n = false := by
      cases e : anyB (fun s => (decide (s < D.n) && fr (D.ord s)) && decide (s < 0 ∧ 0 < D.en s)) D.n with
      | false => rfl
      | true =>
        obtain ⟨i, -, h⟩ := anyB_iff.mp e
        rw [Bool.and_eq_true, decide_eq_true_iff] at h
        omega
    rw [this]; simp
  have e3 : f_X3_spotsOf (b + 1) (mkS fr) (tc_mk S c) = some (mkS (fun j => decide (j < D.n) && fr (D.ord j))) := s_X3_spotsOf hT hw hL fr
  have e5 := s_X3_spread (c := c) hT hw hL (fun j => decide (j < D.n) && fr (D.ord j))
  have e8 := s_X3_solids (c := c) hT hw hL
  have e10 : mkS (D.spread fun j => decide (j < D.n) && fr (D.ord j)) &&& mkS (fun j => decide (j < D.n ∧ D.kd j ≠ 2)) = mkS (D.frQ fr) := mkS_and _ _
  generalize D.frQ fr = Q at *
  -- the loop over the kept spots
  obtain ⟨o, o1, o2⟩ := tc_run2 (B := f_X8_numberFresh_b30 b (mkS Q)) D.n (fun s y => (nI (loK (D.kp Q) s), nI s, tc_mk S y))
    (fun s y => (∀ j, Q j = true → j < loK (D.kp Q) s → y.1 (b + 33) (D.ord j) = D.nwN Q N j ∧ D.fitA Q N j) ∧ (∀ v, (∀ j, Q j = true → j < loK (D.kp Q) s → D.ord j ≠ v) → y.1 (b + 33) v = N v) ∧ (∀ a, a ≠ b + 33 → y.1 a = c.1 a) ∧ y.2 = c.2)
    (fun o => (∃ y, o = .inl (nI (loK (D.kp Q) D.n), tc_mk S y) ∧ (∀ j, Q j = true → j < loK (D.kp Q) D.n → y.1 (b + 33) (D.ord j) = D.nwN Q N j ∧ D.fitA Q N j) ∧ (∀ v, (∀ j, Q j = true → j < loK (D.kp Q) D.n → D.ord j ≠ v) → y.1 (b + 33) v = N v) ∧ (∀ a, a ≠ b + 33 → y.1 a = c.1 a) ∧ y.2 = c.2) ∨
      (∃ y, o = .inr (0, tc_mk S y) ∧ ¬ D.fitN Q N ∧ (∀ v, (∀ j, j < D.n → D.kd j ≠ 2 → D.ord j ≠ v) → y.1 (b + 33) v = N v) ∧ (∀ a, a ≠ b + 33 → y.1 a = c.1 a) ∧ y.2 = c.2)) (by omega) (fun s y hs hy => by
      obtain ⟨y1, y2, y3, y4⟩ := hy
      have hLy : Lay y b D := by
        unfold Lay
        rw [y4, y3 (b + 3) (by omega), y3 (b + 5) (by omega), y3 (b + 7) (by omega), y3 (b + 9) (by omega), y3 (b + 11) (by omega)]
        exact hL
      have f1 := s_X3_count (c := y) hT hLy
      have f2 : ¬ nI s ≥ nI D.n := nI_ge hs (by omega)
      have f3 := s_X3_solids (c := y) hT hw hLy
      have f4 : hasI (mkS (fun j => decide (j < D.n ∧ D.kd j ≠ 2)) &&& (mkS Q ^^^ (-1))) (nI s) = D.kp Q s := by
        rw [mkS_not, mkS_and, hasI_mkS _ (by omega)]
        unfold Doc.kp Doc.sol
        by_cases q : D.kd s = 2 <;> simp [q, hs]
      cases hks : D.kp Q s with
      | false =>
        left
        rw [hks] at f4
        have b0 : bI false = 0 := rfl
        have el : loK (D.kp Q) (s + 1) = loK (D.kp Q) s := by rw [loK, hks, if_neg (by decide)]
        rw [el]
        exact ⟨y, by simp (maxSteps := 3000000) (disch := omega) only [Option.bind_some, tc_bs, tq_let, tc_I1, tc_I2, tc_J1, tc_J2, tc_J3, tc_F1, tc_F2, tc_F3, tc_F4, tc_G1, tc_G2, tc_G3, tc_G4, tc_G5, tc_us, tc_un, s_one, s_holds, s_J13_bitCount, bz_bI, f_X8_numberFresh_b30, hT.f, f1, f2, f3, f4, b0, if_true, if_false, nI_1], y1, y2, y3, y4⟩
      | true =>
        rw [hks] at f4
        have b1 : ¬ bI true = 0 := by decide
        have el : loK (D.kp Q) (s + 1) = s := by rw [loK, hks, if_pos rfl]
        have hle := loK_le (K := D.kp Q) (j := s)
        have hlo := D.kp_lo hk0 s
        have f5 := s_X0_below (m := s) (by omega) (tc_mk S y)
        have f6 := s_X0_below (m := loK (D.kp Q) s) (by omega) (tc_mk S y)
        have f7 : (mkS Q &&& bb s) &&& (bb (loK (D.kp Q) s) ^^^ (-1)) = mkS (fun j => Q j && decide (loK (D.kp Q) s ≤ j ∧ j < s)) := by
          rw [mkS_bb, mkS_bb, mkS_not, mkS_and, mkS_and]
          refine mkS_cong fun j _ => ?_
          cases Q j <;> by_cases q1 : j < s <;> by_cases q2 : j < loK (D.kp Q) s <;> simp [q1, q2] <;> omega
        have hin := fun j (hj : Q j = true) => D.kp_in hk0 hQ (Nat.le_of_lt hs) (fun _ => hks) hj
        have yN : ∀ t, D.kp Q t = true → y.1 (b + 33) (D.ord t) = N (D.ord t) := fun t ht => by
          refine y2 _ fun j hj _ e => ?_
          obtain ⟨t1, t2, t3⟩ := Doc.kp_iff.mp ht
          have := D.ord_inj hw (hQ j hj).1 t1 e
          rw [this, t3] at hj; cases hj
        have hP : ∀ j, (Q j && decide (loK (D.kp Q) s ≤ j ∧ j < s)) = true → j < D.n := fun j h => by
          rw [Bool.and_eq_true] at h; exact (hQ j h.1).1
        have hct : fb_ct (fun j => Q j && decide (loK (D.kp Q) s ≤ j ∧ j < s)) 64 = fb_ct Q s - fb_ct Q (loK (D.kp Q) s) := ct_all hle (by omega)
        obtain ⟨m1, m2⟩ := s_X8_nrMid (c := y) hT hw hLy hP (Doc.kp_iff.mp hlo).1 hs
        rw [yN s hks, yN _ hlo] at m1 m2
        by_cases hfit : fb_ct (fun j => Q j && decide (loK (D.kp Q) s ≤ j ∧ j < s)) 64 = 0 ∨ N (D.ord s) - N (D.ord (loK (D.kp Q) s)) > nI (fb_ct (fun j => Q j && decide (loK (D.kp Q) s ≤ j ∧ j < s)) 64)
        · left
          obtain ⟨x, x1, x2, x3, x4, x5⟩ := m1 hfit
          have n10 : ¬ (1 : Int32) = 0 := by decide
          rw [el]
          refine ⟨x, by simp (maxSteps := 3000000) (disch := omega) only [Option.bind_some, tc_bs, tq_let, tc_I1, tc_I2, tc_J1, tc_J2, tc_J3, tc_F1, tc_F2, tc_F3, tc_F4, tc_G1, tc_G2, tc_G3, tc_G4, tc_G5, tc_us, tc_un, s_one, s_holds, s_J13_bitCount, bz_bI, f_X8_numberFresh_b30, hT.f, f1, f2, f3, f4, b1, f5, f6, f7, x1, n10, if_true, if_false, nI_1], fun j hj hjs => ?_, fun v hv => ?_, fun a ha => (x4 a ha).trans (y3 a ha), x5.trans y4⟩
          · by_cases q : j < loK (D.kp Q) s
            · rw [x3 (D.ord j) fun j' h' e => ?_]
              · exact y1 j hj q
              · rw [Bool.and_eq_true, decide_eq_true_iff] at h'
                have := D.ord_inj hw (hQ j' h'.1).1 (hQ j hj).1 e
                omega
            · obtain ⟨g1, g2, g3⟩ := hin j hj (by omega) hjs
              have hPj : (Q j && decide (loK (D.kp Q) s ≤ j ∧ j < s)) = true := by rw [Bool.and_eq_true, decide_eq_true_iff]; exact ⟨hj, by omega, hjs⟩
              constructor
              · rw [x2 j hPj, hct, ct_mid (by omega) hjs]
                unfold Doc.nwN
                rw [g1, g2, if_neg (by omega)]
              · right
                rw [g1, g2]
                rcases hfit with z | z
                · exfalso
                  have := fb_ct_zero.mp z j (by omega)
                  rw [hPj] at this; cases this
                · rw [hct] at z; exact z
          · rw [x3 v fun j h' => ?_]
            · exact y2 v fun j hj hlt => hv j hj (by omega)
            · rw [Bool.and_eq_true, decide_eq_true_iff] at h'
              exact hv j h'.1 h'.2.2
        · right
          have x1 := m2 hfit
          have n00 : (0 : Int32) = 0 := rfl
          refine ⟨.inr (0, tc_mk S y), by simp (maxSteps := 3000000) (disch := omega) only [Option.bind_some, tc_bs, tq_let, tc_I1, tc_I2, tc_J1, tc_J2, tc_J3, tc_F1, tc_F2, tc_F3, tc_F4, tc_G1, tc_G2, tc_G3, tc_G4, tc_G5, tc_us, tc_un, s_one, s_holds, s_J13_bitCount, bz_bI, f_X8_numberFresh_b30, hT.f, f1, f2, f3, f4, b1, f5, f6, f7, x1, if_true, if_false], .inr ⟨y, rfl, fun hall => ?_, fun v hv => y2 v fun j hj _ => hv j (hQ j hj).1 (hQ j hj).2, y3, y4⟩⟩
          rw [not_or] at hfit
          obtain ⟨j, j1, j2⟩ := fb_ct_pos.mp (Nat.pos_of_ne_zero hfit.1)
          rw [Bool.and_eq_true, decide_eq_true_iff] at j2
          obtain ⟨g1, g2, g3⟩ := hin j j2.1 j2.2.1 j2.2.2
          rcases hall j (hQ j j2.1).1 j2.1 with z | z
          · rw [g2] at z; omega
          · rw [g1, g2] at z
            rw [hct] at hfit
            exact hfit.2 z) (fun y hy => by
      obtain ⟨y1, y2, y3, y4⟩ := hy
      have hLy : Lay y b D := by
        unfold Lay
        rw [y4, y3 (b + 3) (by omega), y3 (b + 5) (by omega), y3 (b + 7) (by omega), y3 (b + 9) (by omega), y3 (b + 11) (by omega)]
        exact hL
      have f1 := s_X3_count (c := y) hT hLy
      have f2 : nI D.n ≥ nI D.n := Int32.le_refl _
      exact ⟨_, by simp (maxSteps := 3000000) (disch := omega) only [Option.bind_some, tc_bs, tq_let, tc_I1, tc_I2, tc_J1, tc_J2, tc_J3, tc_F1, tc_F2, tc_F3, tc_F4, tc_G1, tc_G2, tc_G3, tc_G4, tc_G5, tc_us, tc_un, s_one, s_holds, s_J13_bitCount, bz_bI, f_X8_numberFresh_b30, hT.f, f1, f2, if_true], .inl ⟨y, rfl, y1, y2, y3, y4⟩⟩) (x := c) ⟨fun j _ h => absurd h (Nat.not_lt_zero _), fun v _ => by rw [hN], fun _ _ => rfl, rfl⟩
  have o1 : tq_loop (f_X8_numberFresh_b30 b (mkS Q)) tq_N ((0 : Int32), (0 : Int32), tc_mk S c) = some o := o1
  rcases o2 with ⟨y, rfl, y1, y2, y3, y4⟩ | ⟨y, rfl, y1, y2, y3, y4⟩
  · have hLy : Lay y b D := by
      unfold Lay
      rw [y4, y3 (b + 3) (by omega), y3 (b + 5) (by omega), y3 (b + 7) (by omega), y3 (b + 9) (by omega), y3 (b + 11) (by omega)]
      exact hL
    have hle := loK_le (K := D.kp Q) (j := D.n)
    have hlo := D.kp_lo hk0 D.n
    have f6 := s_X0_below (m := loK (D.kp Q) D.n) (by omega) (tc_mk S y)
    have f7 : mkS Q &&& (bb (loK (D.kp Q) D.n) ^^^ (-1)) = mkS (fun j => Q j && decide (loK (D.kp Q) D.n ≤ j ∧ j < D.n)) := by
      rw [mkS_bb, mkS_not, mkS_and]
      refine mkS_cong fun j _ => ?_
      cases e : Q j with
      | false => simp
      | true =>
        have := (hQ j e).1
        by_cases q2 : j < loK (D.kp Q) D.n <;> simp [q2, this] <;> omega
    have hP : ∀ j, (Q j && decide (loK (D.kp Q) D.n ≤ j ∧ j < D.n)) = true → j < D.n := fun j h => by
      rw [Bool.and_eq_true] at h; exact (hQ j h.1).1
    obtain ⟨x, x1, x2, x3, x4, x5⟩ := s_X8_nrEnd (c := y) hT hw hLy hP (Doc.kp_iff.mp hlo).1
    have hin := fun j (hj : Q j = true) => D.kp_in hk0 hQ (Nat.le_refl D.n) (fun z => absurd z (Nat.lt_irrefl _)) hj
    have yN : y.1 (b + 33) (D.ord (loK (D.kp Q) D.n)) = N (D.ord (loK (D.kp Q) D.n)) := by
      refine y2 _ fun j hj _ e => ?_
      obtain ⟨t1, t2, t3⟩ := Doc.kp_iff.mp hlo
      have := D.ord_inj hw (hQ j hj).1 t1 e
      rw [this, t3] at hj; cases hj
    have hval : ∀ j, Q j = true → x.1 (b + 33) (D.ord j) = D.nwN Q N j ∧ D.fitA Q N j := fun j hj => by
      have hjn := (hQ j hj).1
      by_cases q : j < loK (D.kp Q) D.n
      · rw [x3 (D.ord j) fun j' h' e => ?_]
        · exact y1 j hj q
        · rw [Bool.and_eq_true, decide_eq_true_iff] at h'
          have := D.ord_inj hw (hQ j' h'.1).1 (hQ j hj).1 e
          omega
      · obtain ⟨g1, g2, g3⟩ := hin j hj (by omega) hjn
        have hPj : (Q j && decide (loK (D.kp Q) D.n ≤ j ∧ j < D.n)) = true := by rw [Bool.and_eq_true, decide_eq_true_iff]; exact ⟨hj, by omega, hjn⟩
        refine ⟨?_, .inl g2⟩
        rw [x2 j hPj, ct_mid (by omega) hjn, yN]
        unfold Doc.nwN
        rw [g1, g2, if_pos rfl]
    have hoth : ∀ v, (∀ j, Q j = true → D.ord j ≠ v) → x.1 (b + 33) v = N v := fun v hv => by
      rw [x3 v fun j h' => ?_]
      · exact y2 v fun j hj _ => hv j hj
      · rw [Bool.and_eq_true] at h'
        exact hv j h'.1
    refine ⟨true, x, ?_, ⟨fun _ j _ hj => (hval j hj).2, fun _ => rfl⟩, fun _ => ⟨fun j hj => (hval j hj).1, hoth⟩, fun v hv => hoth v fun j hj => hv j (hQ j hj).1 (hQ j hj).2, fun a ha => (x4 a ha).trans (y3 a ha), x5.trans y4⟩
    have z1 : tq_bz 1 = some 1 := rfl
    simp (maxSteps := 3000000) (disch := omega) only [Option.bind_some, tc_bs, tq_let, tc_I1, tc_I2, tc_J1, tc_J2, tc_J3, tc_F1, tc_F2, tc_F3, tc_F4, tc_G1, tc_G2, tc_G3, tc_G4, tc_G5, tc_us, tc_un, s_one, s_holds, s_J13_bitCount, bz_bI, f_X8_numberFresh, hT.f, e3, e5, e8, e10, o1, f6, f7, x1, z1]
    rfl
  · refine ⟨false, y, ?_, ⟨fun z => Bool.noConfusion z, fun z => absurd z y1⟩, fun z => Bool.noConfusion z, y2, y3, y4⟩
    simp (maxSteps := 3000000) (disch := omega) only [Option.bind_some, tc_bs, tq_let, tc_I1, tc_I2, tc_J1, tc_J2, tc_J3, tc_F1, tc_F2, tc_F3, tc_F4, tc_G1, tc_G2, tc_G3, tc_G4, tc_G5, tc_us, tc_un, s_one, s_holds, s_J13_bitCount, bz_bI, f_X8_numberFresh, hT.f, e3, e5, e8, e10, o1]
    rfl
end NFR
