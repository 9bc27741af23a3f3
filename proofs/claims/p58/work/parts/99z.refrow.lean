/-! ===== the reference numbers what is new ===== -/
/-- what stands while the reference numbers: rows, order, marks -/
abbrev RNm (S : tq_H) (c : tc_C) (z M : Nat) (D : Doc) (Q : Nat → Bool) : Prop :=
  tc_Mod S z ∧ D.wf ∧ RTree c D M ∧ ROrd c D ∧ (∀ j, Q j = true → j < D.n ∧ D.kd j ≠ 2) ∧ D.kp Q 0 = true ∧ ∀ j, j < D.n → ∃ r, c.1 174 (D.ord j) = bI r ∧ Q j = (r && decide (D.kd j ≠ 2))
section RNB
variable {S : tq_H} {c c' : tc_C} {z i j k v a h s m M : Nat} {D : Doc} {Q : Nat → Bool} {N : Nat → Int32}
theorem neg_nI {k : Nat} (h0 : 0 < k) (hk : k < 2 ^ 31) : ¬ (-nI k ≥ 0) := fun w => by
  obtain ⟨n1, n2⟩ := nI_neg h0 hk
  obtain ⟨j, hj, e⟩ := nI_of (Int32.not_lt.mpr w)
  by_cases q : j = 0
  · subst q; exact n2 e
  · exact n1 (by rw [e]; exact nI_lt (Nat.pos_of_ne_zero q) hj)
theorem ct_same {i a : Nat} (hai : a ≤ i) (hn : ∀ k, a ≤ k → k < i → Q k = false) : fb_ct Q i = fb_ct Q a := by
  obtain ⟨d, rfl⟩ := Nat.exists_eq_add_of_le hai
  rw [fb_ct_split, fb_ct_zero.mpr fun k hk => hn (a + k) (by omega) (by omega), Nat.add_zero]
theorem Doc.kp_no (hs : s < D.n) (h : D.kp Q s = false) : D.kd s = 2 ∨ Q s = true := by
  by_cases q : D.kd s = 2
  · exact .inl q
  · right
    cases e : Q s with
    | true => rfl
    | false => rw [Doc.kp_iff.mpr ⟨hs, q, e⟩] at h; cases h
theorem RNm.cg (hC : RNm S c z M D Q) (h1 : ∀ a, a ≠ 162 → c'.1 a = c.1 a) (h2 : c'.2 = c.2) : RNm S c' z M D Q := by
  obtain ⟨hM, hw, hR, hO, hQ, h0, hb⟩ := hC
  refine ⟨hM, hw, ?_, ?_, hQ, h0, ?_⟩
  · unfold RTree
    rw [h2, h1 163 (by decide), h1 156 (by decide), h1 157 (by decide), h1 158 (by decide), h1 159 (by decide), h1 160 (by decide), h1 161 (by decide)]
    exact hR
  · unfold ROrd
    rw [h2, h1 164 (by decide), h1 165 (by decide)]
    exact hO
  · rw [h1 174 (by decide)]; exact hb
/-- the number of the last kept spot -/
theorem s_nr4 (hC : RNm S c z M D Q) (hi : i ≤ D.n) (h0 : 0 < i) (hn : ∀ k, loK (D.kp Q) i < k → k < i → Q k = false) :
    tq_loop (f_X11_numberRow_b4 155 (nI i) (tc_mk S c)) tq_N ((0 : Int32), (0 : Int32)) = some (c.1 162 (D.ord (loK (D.kp Q) i))) := by
  obtain ⟨hM, hw, hR, hO, hQ, hk0, hb⟩ := hC
  have hn60 := D.n_le hw
  have hlast : loK D.sol i = loK (D.kp Q) i := by
    obtain ⟨a1, a2, a3⟩ := loK_at hk0 h0
    refine loK_is ?_ a2 fun k h1 h2 => ?_
    · have := (Doc.kp_iff.mp a1).2.1; unfold Doc.sol; exact decide_eq_true this
    · rcases Doc.kp_no (show k < D.n by omega) (a3 k h1 h2) with q | q
      · unfold Doc.sol; exact decide_eq_false fun z => z q
      · rw [hn k h1 h2] at q; cases q
  have W := tc_iter (B := f_X11_numberRow_b4 155 (nI i) (tc_mk S c)) i (fun k => ((if k = 0 then (0 : Int32) else c.1 162 (D.ord (loK D.sol k))), nI k)) (e := c.1 162 (D.ord (loK D.sol i))) (fun k hk => ?_) ?_ (by unfold tq_N; omega)
  · rw [hlast] at W; exact W
  · have e1 : ¬ nI k ≥ nI i := nI_ge hk (by omega)
    have hkn : k < D.n := by omega
    have e2 : c.1 164 k = nI (D.ord k) := hO.2.1 k hkn
    have e3 : c.1 156 (D.ord k) = D.kd k := hR.2.2.2.2.1 k hkn
    have hok := D.ord_lt hw hkn
    rw [if_neg (Nat.succ_ne_zero k), loK]
    by_cases q : D.kd k = 2
    · have q0 : k ≠ 0 := fun z => by rw [z, D.kd_0 hw] at q; exact absurd q (by decide)
      have hs : D.sol k = false := by unfold Doc.sol; exact decide_eq_false fun z => z q
      rw [if_neg q0, hs, if_neg (by decide)]
      simp (maxSteps := 3000000) (disch := omega) only [Option.bind_some, tc_bs, tq_let, tc_I1, tc_I2, tc_J1, tc_J2, tc_J3, tc_F1, tc_F2, tc_F3, tc_F4, tc_G1, tc_G2, tc_G3, tc_G4, tc_G5, tc_us, tc_un, s_one, s_holds, s_J13_bitCount, bz_bI, f_X11_numberRow_b4, hM.f, e1, e2, e3, q, if_true, if_false, nI_1]
    · have hs : D.sol k = true := by unfold Doc.sol; exact decide_eq_true q
      rw [hs, if_pos rfl]
      simp (maxSteps := 3000000) (disch := omega) only [Option.bind_some, tc_bs, tq_let, tc_I1, tc_I2, tc_J1, tc_J2, tc_J3, tc_F1, tc_F2, tc_F3, tc_F4, tc_G1, tc_G2, tc_G3, tc_G4, tc_G5, tc_us, tc_un, s_one, s_holds, s_J13_bitCount, bz_bI, f_X11_numberRow_b4, hM.f, e1, e2, e3, q, if_false, nI_1]
  · have e1 : nI i ≥ nI i := Int32.le_refl _
    rw [if_neg (show ¬ i = 0 by omega)]
    simp only [f_X11_numberRow_b4, ↓reduceIte, e1]
/-- how many new ones, and where they end -/
theorem s_nr51 (hC : RNm S c z M D Q) (hi : i < D.n) (x : Int32) :
    tq_loop (f_X11_numberRow_b51 155 (nI i) x (tc_mk S c)) tq_N ((0 : Int32), nI i) = some (nI (fb_ct Q (hiK (D.kp Q) D.n i) - fb_ct Q i), nI (hiK (D.kp Q) D.n i)) := by
  obtain ⟨hM, hw, hR, hO, hQ, hk0, hb⟩ := hC
  have hn60 := D.n_le hw
  obtain ⟨h1, h2, h3, h4⟩ := hiK_at (K := D.kp Q) (n := D.n) (j := i) (by omega)
  generalize hiK (D.kp Q) D.n i = h at *
  have W := tc_iter (B := f_X11_numberRow_b51 155 (nI i) x (tc_mk S c)) (h - i) (fun t => (nI (fb_ct Q (i + t) - fb_ct Q i), nI (i + t))) (e := (nI (fb_ct Q h - fb_ct Q i), nI h)) (fun t ht => ?_) ?_ (by unfold tq_N; omega)
  · have e0 : (nI (fb_ct Q (i + 0) - fb_ct Q i), nI (i + 0)) = ((0 : Int32), nI i) := by rw [Nat.add_zero, Nat.sub_self]; rfl
    rw [← e0]; exact W
  · have hsn : i + t < D.n := by omega
    have e0 : c.2.2.1 155 11 = nI D.n := hO.1
    have e1 : ¬ nI (i + t) ≥ nI D.n := nI_ge hsn (by omega)
    have e2 : c.1 164 (i + t) = nI (D.ord (i + t)) := hO.2.1 _ hsn
    have e3 : c.1 156 (D.ord (i + t)) = D.kd (i + t) := hR.2.2.2.2.1 _ hsn
    have hok := D.ord_lt hw hsn
    have hmono := fb_ct_mono Q (show i ≤ i + t by omega)
    obtain ⟨r, r1, r2⟩ := hb _ hsn
    rw [show i + (t + 1) = (i + t) + 1 by omega, fb_ct_succ]
    rcases Doc.kp_no hsn (h3 (i + t) (by omega) (by omega)) with q | q
    · have hq : Q (i + t) = false := by rw [r2, q]; simp
      rw [hq, if_neg (by decide), Nat.add_zero]
      have e9 : nI (fb_ct Q (i + t) - fb_ct Q i) + 0 = nI (fb_ct Q (i + t) - fb_ct Q i) := by rw [show (0 : Int32) = nI 0 from rfl, nI_add]; rfl
      simp (maxSteps := 3000000) (disch := omega) only [Option.bind_some, tc_bs, tq_let, tc_I1, tc_I2, tc_J1, tc_J2, tc_J3, tc_F1, tc_F2, tc_F3, tc_F4, tc_G1, tc_G2, tc_G3, tc_G4, tc_G5, tc_us, tc_un, s_one, s_holds, s_J13_bitCount, bz_bI, f_X11_numberRow_b51, hM.f, e0, e1, e2, e3, q, e9, if_true, if_false, nI_1]
    · have hk := (hQ _ q).2
      have hr : r = true := by rw [q] at r2; cases r with
        | true => rfl
        | false => cases r2
      rw [hr] at r1
      have b1 : ¬ bI true = 0 := by decide
      rw [q, if_pos rfl, show fb_ct Q (i + t) + 1 - fb_ct Q i = (fb_ct Q (i + t) - fb_ct Q i) + 1 by omega]
      simp (maxSteps := 3000000) (disch := omega) only [Option.bind_some, tc_bs, tq_let, tc_I1, tc_I2, tc_J1, tc_J2, tc_J3, tc_F1, tc_F2, tc_F3, tc_F4, tc_G1, tc_G2, tc_G3, tc_G4, tc_G5, tc_us, tc_un, s_one, s_holds, s_J13_bitCount, bz_bI, f_X11_numberRow_b51, hM.f, e0, e1, e2, e3, hk, r1, b1, if_true, if_false, nI_1]
  · have e0 : c.2.2.1 155 11 = nI D.n := hO.1
    rw [show i + (h - i) = h by omega]
    by_cases q : h = D.n
    · have e1 : nI h ≥ nI D.n := by rw [q]; exact Int32.le_refl _
      simp (maxSteps := 3000000) (disch := omega) only [Option.bind_some, tc_bs, tq_let, tc_I1, tc_I2, tc_J1, tc_J2, tc_J3, tc_F1, tc_F2, tc_F3, tc_F4, tc_G1, tc_G2, tc_G3, tc_G4, tc_G5, tc_us, tc_un, s_one, s_holds, s_J13_bitCount, bz_bI, f_X11_numberRow_b51, hM.f, e0, e1, if_true]
    · have hsn : h < D.n := by omega
      have e1 : ¬ nI h ≥ nI D.n := nI_ge hsn (by omega)
      have e2 : c.1 164 h = nI (D.ord h) := hO.2.1 _ hsn
      have e3 : c.1 156 (D.ord h) = D.kd h := hR.2.2.2.2.1 _ hsn
      have hok := D.ord_lt hw hsn
      obtain ⟨r, r1, r2⟩ := hb _ hsn
      obtain ⟨-, k1, k2⟩ := Doc.kp_iff.mp (h4 hsn)
      have hr : r = false := by
        rw [k2] at r2; cases r with
        | false => rfl
        | true => simp [k1] at r2
      rw [hr] at r1
      have b0 : bI false = 0 := rfl
      simp (maxSteps := 3000000) (disch := omega) only [Option.bind_some, tc_bs, tq_let, tc_I1, tc_I2, tc_J1, tc_J2, tc_J3, tc_F1, tc_F2, tc_F3, tc_F4, tc_G1, tc_G2, tc_G3, tc_G4, tc_G5, tc_us, tc_un, s_one, s_holds, s_J13_bitCount, bz_bI, f_X11_numberRow_b51, hM.f, e0, e1, e2, e3, k1, r1, b0, if_true, if_false]
theorem s_nr156 (hC : RNm S c z M D Q) (hi : i < D.n) (w x : Int32) (f : Nat → Int32) (hh1 : i ≤ h) (hh2 : h ≤ D.n) (hh3 : ∀ k, i ≤ k → k < h → D.kp Q k = false)
    (hf : ∀ k, k ≤ 60 → (if nI h ≥ nI D.n then some (w + 16 * nI k) else (tq_nz (nI (fb_ct Q h - fb_ct Q i) + 1)).bind fun _ => some (w + (nI k * x) / (nI (fb_ct Q h - fb_ct Q i) + 1))) = some (f k)) :
    ∃ c', tq_loop (f_X11_numberRow_b156 155 w (nI (fb_ct Q h - fb_ct Q i)) (nI h) x) tq_N ((0 : Int32), nI i, tc_mk S c) = some (tc_mk S c') ∧
      (∀ j, Q j = true → i ≤ j → j < h → c'.1 162 (D.ord j) = f (fb_ct Q (j + 1) - fb_ct Q i)) ∧ (∀ v, (∀ j, Q j = true → i ≤ j → j < h → D.ord j ≠ v) → c'.1 162 v = c.1 162 v) ∧ (∀ a, a ≠ 162 → c'.1 a = c.1 a) ∧ c'.2 = c.2 := by
  have hn60 := D.n_le hC.2.1
  obtain ⟨y, y1, y2, y3, y4, y5⟩ := tc_run (B := f_X11_numberRow_b156 155 w (nI (fb_ct Q h - fb_ct Q i)) (nI h) x) (h - i) (fun t y => (nI (fb_ct Q (i + t) - fb_ct Q i), nI (i + t), tc_mk S y))
    (fun t y => (∀ j, Q j = true → i ≤ j → j < i + t → y.1 162 (D.ord j) = f (fb_ct Q (j + 1) - fb_ct Q i)) ∧ (∀ v, (∀ j, Q j = true → i ≤ j → j < i + t → D.ord j ≠ v) → y.1 162 v = c.1 162 v) ∧ (∀ a, a ≠ 162 → y.1 a = c.1 a) ∧ y.2 = c.2) (fun y => tc_mk S y) (by omega) (fun t y ht hy => by
      obtain ⟨y1, y2, y3, y4⟩ := hy
      obtain ⟨hM, hw, hR, hO, hQ, hk0, hb⟩ := hC.cg y3 y4
      have hsn : i + t < D.n := by omega
      have e0 : y.2.2.1 155 11 = nI D.n := hO.1
      have e1 : ¬ nI (i + t) ≥ nI h := nI_ge (by omega) (by omega)
      have e2 : y.1 164 (i + t) = nI (D.ord (i + t)) := hO.2.1 _ hsn
      have e3 : y.1 156 (D.ord (i + t)) = D.kd (i + t) := hR.2.2.2.2.1 _ hsn
      have hok := D.ord_lt hw hsn
      have hmono := fb_ct_mono Q (show i ≤ i + t by omega)
      have hle := fb_ct_le Q (i + t)
      rw [show i + (t + 1) = (i + t) + 1 by omega, fb_ct_succ]
      rcases Doc.kp_no hsn (hh3 (i + t) (by omega) (by omega)) with q | q
      · obtain ⟨r, r1, r2⟩ := hb _ hsn
        have hq : Q (i + t) = false := by rw [r2, q]; simp
        rw [hq, if_neg (by decide), Nat.add_zero]
        refine ⟨y, by simp (maxSteps := 3000000) (disch := omega) only [Option.bind_some, tc_bs, tq_let, tc_I1, tc_I2, tc_J1, tc_J2, tc_J3, tc_F1, tc_F2, tc_F3, tc_F4, tc_G1, tc_G2, tc_G3, tc_G4, tc_G5, tc_us, tc_un, s_one, s_holds, s_J13_bitCount, bz_bI, f_X11_numberRow_b156, hM.f, e0, e1, e2, e3, q, if_true, if_false, nI_1], fun j hj j1 j2 => ?_, fun v hv => y2 v fun j hj j1 j2 => hv j hj j1 (by omega), y3, y4⟩
        have : j ≠ i + t := fun z => by rw [z, hq] at hj; cases hj
        exact y1 j hj j1 (by omega)
      · have hk := (hQ _ q).2
        have e5 := hf (fb_ct Q (i + t) - fb_ct Q i + 1) (by omega)
        have e9 : nI (fb_ct Q (i + t) - fb_ct Q i) + 1 = nI (fb_ct Q (i + t) - fb_ct Q i + 1) := nI_1 _
        have e8 : nI (i + t) + 1 = nI (i + t + 1) := nI_1 _
        rw [q, if_pos rfl, show fb_ct Q (i + t) + 1 - fb_ct Q i = (fb_ct Q (i + t) - fb_ct Q i) + 1 by omega]
        refine ⟨tc_I y 162 (upd (y.1 162) (D.ord (i + t)) (f (fb_ct Q (i + t) - fb_ct Q i + 1))), ?_, fun j hj j1 j2 => ?_, fun v hv => ?_, fun a ha => ?_, y4⟩
        · by_cases qh : nI h ≥ nI D.n
          · rw [if_pos qh] at e5
            have e5 := Option.some.inj e5
            simp (maxSteps := 3000000) (disch := omega) only [Option.bind_some, tc_bs, tq_let, tc_I1, tc_I2, tc_J1, tc_J2, tc_J3, tc_F1, tc_F2, tc_F3, tc_F4, tc_G1, tc_G2, tc_G3, tc_G4, tc_G5, tc_us, tc_un, s_one, s_holds, s_J13_bitCount, bz_bI, f_X11_numberRow_b156, hM.f, e0, e1, e2, e3, hk, e9, e8, qh, e5, if_true, if_false]
          · rw [if_neg qh] at e5
            have hz : ∃ u, tq_nz (nI (fb_ct Q h - fb_ct Q i) + 1) = some u := by
              cases z : tq_nz (nI (fb_ct Q h - fb_ct Q i) + 1) with
              | none => rw [z] at e5; cases e5
              | some u => exact ⟨u, rfl⟩
            obtain ⟨u, hz⟩ := hz
            rw [hz, Option.bind_some] at e5
            have e5 := Option.some.inj e5
            simp (maxSteps := 3000000) (disch := omega) only [Option.bind_some, tc_bs, tq_let, tc_I1, tc_I2, tc_J1, tc_J2, tc_J3, tc_F1, tc_F2, tc_F3, tc_F4, tc_G1, tc_G2, tc_G3, tc_G4, tc_G5, tc_us, tc_un, s_one, s_holds, s_J13_bitCount, bz_bI, f_X11_numberRow_b156, hM.f, e0, e1, e2, e3, hk, e9, e8, qh, hz, e5, if_true, if_false]
        · rw [tc_I1, tc_us]
          by_cases e : j = i + t
          · rw [e, upd_s, fb_ct_succ, q, if_pos rfl]
            congr 1; omega
          · rw [upd_n _ _ fun z => e (D.ord_inj hw (hQ j hj).1 hsn z)]
            exact y1 j hj j1 (by omega)
        · rw [tc_I1, tc_us, upd_n _ _ fun z => hv (i + t) q (by omega) (by omega) z.symm]
          exact y2 v fun j hj j1 j2 => hv j hj j1 (by omega)
        · rw [tc_I1, tc_un _ _ ha]; exact y3 a ha) (fun y hy => by
      have e1 : nI (i + (h - i)) ≥ nI h := by rw [show i + (h - i) = h by omega]; exact Int32.le_refl _
      simp only [f_X11_numberRow_b156, ↓reduceIte, e1]) (x := c) ⟨fun j _ h1 h2 => by omega, fun _ _ => rfl, fun _ _ => rfl, rfl⟩
  have e0 : (nI (fb_ct Q (i + 0) - fb_ct Q i), nI (i + 0), tc_mk S c) = ((0 : Int32), nI i, tc_mk S c) := by rw [Nat.add_zero, Nat.sub_self]; rfl
  rw [e0] at y1
  rw [show i + (h - i) = h by omega] at y2 y3
  exact ⟨y, y1, y2, y3, y4, y5⟩
/-- one row of numbers -/
theorem s_X11_numberRow (hC : RNm S c z M D Q) (hi : i < D.n) (hQi : Q i = true) (hn : ∀ k, loK (D.kp Q) i < k → k < i → Q k = false) :
    ∃ c', ((D.fitA Q (c.1 162) i → f_X11_numberRow 155 (nI i) (tc_mk S c) = some (nI (hiK (D.kp Q) D.n i), tc_mk S c')) ∧ (¬ D.fitA Q (c.1 162) i → f_X11_numberRow 155 (nI i) (tc_mk S c) = some (-nI (hiK (D.kp Q) D.n i), tc_mk S c'))) ∧
      (∀ j, Q j = true → i ≤ j → j < hiK (D.kp Q) D.n i → c'.1 162 (D.ord j) = D.nwN Q (c.1 162) j ∧ (D.fitA Q (c.1 162) j ↔ D.fitA Q (c.1 162) i)) ∧ (∀ v, (∀ j, Q j = true → i ≤ j → j < hiK (D.kp Q) D.n i → D.ord j ≠ v) → c'.1 162 v = c.1 162 v) ∧ (∀ a, a ≠ 162 → c'.1 a = c.1 a) ∧ c'.2 = c.2 := by
  have hC0 := hC
  obtain ⟨hM, hw, hR, hO, hQ, hk0, hb⟩ := hC
  have hn60 := D.n_le hw
  have hi0 : 0 < i := by
    refine Nat.pos_of_ne_zero fun e => ?_
    rw [e, (Doc.kp_iff.mp hk0).2.2] at hQi; cases hQi
  obtain ⟨h1, h2, h3, h4⟩ := hiK_at (K := D.kp Q) (n := D.n) (j := i) (by omega)
  obtain ⟨a1, a2, a3⟩ := loK_at hk0 hi0
  have hih : i < hiK (D.kp Q) D.n i := by
    rcases Nat.lt_or_ge i (hiK (D.kp Q) D.n i) with q | q
    · exact q
    · exfalso
      have e : hiK (D.kp Q) D.n i = i := by omega
      have := h4 (by omega)
      rw [e] at this
      rw [(Doc.kp_iff.mp this).2.2] at hQi; cases hQi
  have hinj : ∀ j, Q j = true → i ≤ j → j < hiK (D.kp Q) D.n i → loK (D.kp Q) j = loK (D.kp Q) i ∧ hiK (D.kp Q) D.n j = hiK (D.kp Q) D.n i := fun j hj j1 j2 => by
    refine ⟨loK_is a1 (by omega) fun k k1 k2 => ?_, hiK_is (Nat.le_of_lt j2) h2 (fun k k1 k2 => h3 k (by omega) k2) h4⟩
    rcases Nat.lt_or_ge k i with q | q
    · exact a3 k k1 q
    · exact h3 k q (by omega)
  have hcs : fb_ct Q i = fb_ct Q (loK (D.kp Q) i) := ct_same (by omega) fun k k1 k2 => by
    by_cases q : k = loK (D.kp Q) i
    · rw [q]; exact (Doc.kp_iff.mp a1).2.2
    · exact hn k (by omega) k2
  have e4 := s_nr4 hC0 (Nat.le_of_lt hi) hi0 hn
  have e51 := s_nr51 hC0 hi (c.1 162 (D.ord (loK (D.kp Q) i)))
  have e11 : c.2.2.1 155 11 = nI D.n := hO.1
  have hlo : loK (D.kp Q) i < D.n := by omega
  have hol := D.ord_lt hw hlo
  have hct60 := fb_ct_le Q (hiK (D.kp Q) D.n i)
  have hfa : D.fitA Q (c.1 162) i ↔ (hiK (D.kp Q) D.n i = D.n ∨ c.1 162 (D.ord (hiK (D.kp Q) D.n i)) - c.1 162 (D.ord (loK (D.kp Q) i)) > nI (fb_ct Q (hiK (D.kp Q) D.n i) - fb_ct Q i)) := by unfold Doc.fitA; rw [hcs]
  have hnw : ∀ j, Q j = true → i ≤ j → j < hiK (D.kp Q) D.n i → D.nwN Q (c.1 162) j = (if hiK (D.kp Q) D.n i = D.n then c.1 162 (D.ord (loK (D.kp Q) i)) + 16 * nI (fb_ct Q (j + 1) - fb_ct Q i) else c.1 162 (D.ord (loK (D.kp Q) i)) + (nI (fb_ct Q (j + 1) - fb_ct Q i) * (c.1 162 (D.ord (hiK (D.kp Q) D.n i)) - c.1 162 (D.ord (loK (D.kp Q) i)))) / (nI (fb_ct Q (hiK (D.kp Q) D.n i) - fb_ct Q i) + 1)) := fun j hj j1 j2 => by
    obtain ⟨g1, g2⟩ := hinj j hj j1 j2
    unfold Doc.nwN
    rw [g1, g2, hcs]
  have hff : ∀ j, Q j = true → i ≤ j → j < hiK (D.kp Q) D.n i → (D.fitA Q (c.1 162) j ↔ D.fitA Q (c.1 162) i) := fun j hj j1 j2 => by
    obtain ⟨g1, g2⟩ := hinj j hj j1 j2
    unfold Doc.fitA
    rw [g1, g2]
  generalize hiK (D.kp Q) D.n i = h at *
  by_cases q : h = D.n
  · have q1 : nI h ≥ nI D.n := by rw [q]; exact Int32.le_refl _
    obtain ⟨y, y1, y2, y3, y4, y5⟩ := s_nr156 hC0 hi (c.1 162 (D.ord (loK (D.kp Q) i))) 0 (fun k => c.1 162 (D.ord (loK (D.kp Q) i)) + 16 * nI k) h1 h2 h3 (fun k _ => if_pos q1)
    have e12 : y.2.2.1 155 11 = nI D.n := by rw [y5]; exact e11
    refine ⟨y, ⟨fun _ => ?_, fun z => absurd (hfa.mpr (.inl q)) z⟩, fun j hj j1 j2 => ⟨?_, hff j hj j1 j2⟩, y3, y4, y5⟩
    · simp (maxSteps := 3000000) (disch := omega) only [Option.bind_some, tc_bs, tq_let, tc_I1, tc_I2, tc_J1, tc_J2, tc_J3, tc_F1, tc_F2, tc_F3, tc_F4, tc_G1, tc_G2, tc_G3, tc_G4, tc_G5, tc_us, tc_un, s_one, s_holds, s_J13_bitCount, bz_bI, f_X11_numberRow, hM.f, e4, e51, e11, q1, y1, e12, if_true]
    · rw [y2 j hj j1 j2, hnw j hj j1 j2, if_pos q]
  · have hhn : h < D.n := by omega
    have q1 : ¬ nI h ≥ nI D.n := nI_ge hhn (by omega)
    have e14 : c.1 164 h = nI (D.ord h) := hO.2.1 h hhn
    have hoh := D.ord_lt hw hhn
    obtain ⟨y, y1, y2, y3, y4, y5⟩ := s_nr156 hC0 hi (c.1 162 (D.ord (loK (D.kp Q) i))) (c.1 162 (D.ord h) - c.1 162 (D.ord (loK (D.kp Q) i))) (fun k => c.1 162 (D.ord (loK (D.kp Q) i)) + (nI k * (c.1 162 (D.ord h) - c.1 162 (D.ord (loK (D.kp Q) i)))) / (nI (fb_ct Q h - fb_ct Q i) + 1)) h1 h2 h3 (fun k _ => by rw [if_neg q1, nz_1 (by omega), Option.bind_some])
    have e12 : y.2.2.1 155 11 = nI D.n := by rw [y5]; exact e11
    refine ⟨y, ⟨fun z => ?_, fun z => ?_⟩, fun j hj j1 j2 => ⟨?_, hff j hj j1 j2⟩, y3, y4, y5⟩
    · have q2 : c.1 162 (D.ord h) - c.1 162 (D.ord (loK (D.kp Q) i)) > nI (fb_ct Q h - fb_ct Q i) := by
        rcases hfa.mp z with z | z
        · exact absurd z q
        · exact z
      simp (maxSteps := 3000000) (disch := omega) only [Option.bind_some, tc_bs, tq_let, tc_I1, tc_I2, tc_J1, tc_J2, tc_J3, tc_F1, tc_F2, tc_F3, tc_F4, tc_G1, tc_G2, tc_G3, tc_G4, tc_G5, tc_us, tc_un, s_one, s_holds, s_J13_bitCount, bz_bI, f_X11_numberRow, hM.f, e4, e51, e11, q1, e14, y1, e12, q2, if_true, if_false]
    · have q2 : ¬ c.1 162 (D.ord h) - c.1 162 (D.ord (loK (D.kp Q) i)) > nI (fb_ct Q h - fb_ct Q i) := fun w => z (hfa.mpr (.inr w))
      simp (maxSteps := 3000000) (disch := omega) only [Option.bind_some, tc_bs, tq_let, tc_I1, tc_I2, tc_J1, tc_J2, tc_J3, tc_F1, tc_F2, tc_F3, tc_F4, tc_G1, tc_G2, tc_G3, tc_G4, tc_G5, tc_us, tc_un, s_one, s_holds, s_J13_bitCount, bz_bI, f_X11_numberRow, hM.f, e4, e51, e11, q1, e14, y1, e12, q2, if_true, if_false]
    · rw [y2 j hj j1 j2, hnw j hj j1 j2, if_neg q]
end RNB
