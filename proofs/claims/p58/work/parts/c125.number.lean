/-! ===== the reference numbers: all of it ===== -/
section RNC
variable {S : tq_H} {c c' : tc_C} {z i j k v a h s m M : Nat} {D : Doc} {Q : Nat → Bool} {N N' : Nat → Int32}
theorem Doc.nwN_cg (h0 : D.kp Q 0 = true) (hj : j ≤ D.n) (hN : ∀ t, D.kp Q t = true → N' (D.ord t) = N (D.ord t)) : D.nwN Q N' j = D.nwN Q N j ∧ (D.fitA Q N' j ↔ D.fitA Q N j) := by
  obtain ⟨h1, h2, h3, h4⟩ := hiK_at (K := D.kp Q) hj
  have e1 := hN _ (D.kp_lo h0 j)
  unfold Doc.nwN Doc.fitA
  rw [e1]
  by_cases q : hiK (D.kp Q) D.n j = D.n
  · rw [if_pos q, if_pos q]
    exact ⟨rfl, by simp [q]⟩
  · rw [if_neg q, if_neg q, hN _ (h4 (by omega))]
    exact ⟨rfl, Iff.rfl⟩
theorem s_X11_numberAll (hC : RNm S c z M D Q) : f_X11_numberAll 155 (tc_mk S c) = some (tc_mk S (tc_I c 162 (D.numF (c.1 162) D.n))) := by
  have hC0 := hC
  obtain ⟨hM, hw, -⟩ := hC
  have hn := D.n_le hw
  have W := tc_iter (B := f_X11_numberAll_b4 155) D.n (fun i => (nI (16 * fb_ct D.sol i), nI i, tc_mk S (tc_I c 162 (D.numF (c.1 162) i)))) (e := tc_mk S (tc_I c 162 (D.numF (c.1 162) D.n))) (fun i hi => ?_) ?_ (by unfold tq_N; omega)
  · have e0 : tc_I c 162 (D.numF (c.1 162) 0) = c := tc_I_self c 162
    simp only [e0] at W
    have W : tq_loop (f_X11_numberAll_b4 155) tq_N ((0 : Int32), (0 : Int32), tc_mk S c) = some (tc_mk S (tc_I c 162 (D.numF (c.1 162) D.n))) := W
    unfold f_X11_numberAll
    rw [W, Option.bind_some]
  · obtain ⟨-, -, hR, hO, -⟩ := hC0.cg (c' := tc_I c 162 (D.numF (c.1 162) i)) (fun a ha => by rw [tc_I1, tc_un _ _ ha]) rfl
    have ho := D.ord_lt hw hi
    have e0 : c.2.2.1 155 11 = nI D.n := hO.1
    have e1 : ¬ nI i ≥ nI D.n := nI_ge hi (by omega)
    have e2 : c.1 164 i = nI (D.ord i) := by have := hO.2.1 i hi; rw [tc_I1, tc_un _ _ (by decide)] at this; exact this
    have e3 : c.1 156 (D.ord i) = D.kd i := by have := hR.2.2.2.2.1 i hi; rw [tc_I1, tc_un _ _ (by decide)] at this; exact this
    by_cases k : D.kd i = 2
    · have h1 : fb_ct D.sol (i + 1) = fb_ct D.sol i := by rw [fb_ct_succ]; simp [Doc.sol, k]
      have h2 : D.numF (c.1 162) (i + 1) = D.numF (c.1 162) i := if_pos k
      rw [h1, h2]
      simp (maxSteps := 3000000) (disch := omega) only [Option.bind_some, tc_bs, tq_let, tc_I1, tc_I2, tc_J1, tc_J2, tc_J3, tc_F1, tc_F2, tc_F3, tc_F4, tc_G1, tc_G2, tc_G3, tc_G4, tc_G5, tc_us, tc_un, s_one, s_holds, s_J13_bitCount, bz_bI, f_X11_numberAll_b4, hM.f, e0, e1, e2, e3, k, if_true, if_false, nI_1]
    · have h1 : fb_ct D.sol (i + 1) = fb_ct D.sol i + 1 := by rw [fb_ct_succ]; simp [Doc.sol, k]
      have h2 : D.numF (c.1 162) (i + 1) = upd (D.numF (c.1 162) i) (D.ord i) (nI (16 * fb_ct D.sol (i + 1))) := if_neg k
      have h3 : nI (16 * fb_ct D.sol i) + 16 = nI (16 * fb_ct D.sol (i + 1)) := by rw [h1, show 16 * (fb_ct D.sol i + 1) = 16 * fb_ct D.sol i + 16 by omega, ← nI_add]; rfl
      have h4 : tc_I (tc_I c 162 (D.numF (c.1 162) i)) 162 (upd (D.numF (c.1 162) i) (D.ord i) (nI (16 * fb_ct D.sol (i + 1)))) = tc_I c 162 (upd (D.numF (c.1 162) i) (D.ord i) (nI (16 * fb_ct D.sol (i + 1)))) := by
        unfold tc_I
        congr 1
        funext j
        by_cases q : j = 162
        · rw [q, tc_us, tc_us]
        · rw [tc_un _ _ q, tc_un _ _ q]; exact tc_un _ _ q
      rw [h2]
      simp (maxSteps := 3000000) (disch := omega) only [Option.bind_some, tc_bs, tq_let, tc_I1, tc_I2, tc_J1, tc_J2, tc_J3, tc_F1, tc_F2, tc_F3, tc_F4, tc_G1, tc_G2, tc_G3, tc_G4, tc_G5, tc_us, tc_un, s_one, s_holds, s_J13_bitCount, bz_bI, f_X11_numberAll_b4, hM.f, e0, e1, e2, e3, k, h3, h4, if_true, if_false, nI_1]
  · obtain ⟨-, -, hR, hO, -⟩ := hC0.cg (c' := tc_I c 162 (D.numF (c.1 162) D.n)) (fun a ha => by rw [tc_I1, tc_un _ _ ha]) rfl
    have e0 : c.2.2.1 155 11 = nI D.n := hO.1
    have e1 : nI D.n ≥ nI D.n := Int32.le_refl _
    simp (maxSteps := 3000000) (disch := omega) only [Option.bind_some, tc_bs, tq_let, tc_I1, tc_I2, tc_J1, tc_J2, tc_J3, tc_F1, tc_F2, tc_F3, tc_F4, tc_G1, tc_G2, tc_G3, tc_G4, tc_G5, tc_us, tc_un, s_one, s_holds, s_J13_bitCount, bz_bI, f_X11_numberAll_b4, hM.f, e0, e1, if_true]
theorem s_num4 (hC : RNm S c z M D Q) :
    ∃ r c', tq_loop (f_X11_number_b4 155) tq_N ((0 : Int32), (0 : Int32), tc_mk S c) = some (bI r, tc_mk S c') ∧ (r = false ↔ D.fitN Q (c.1 162)) ∧ Nb c' 162 D Q (c.1 162) ∧ (∀ a, a ≠ 162 → c'.1 a = c.1 a) ∧ c'.2 = c.2 := by
  have hC0 := hC
  obtain ⟨hM, hw, hR, hO, hQ, hk0, hb⟩ := hC
  have hn60 := D.n_le hw
  obtain ⟨o, o1, o2⟩ := tc_gh (B := f_X11_number_b4 155)
    (fun n s => ∃ s0 r y, s = (bI r, nI s0, tc_mk S y) ∧ n = D.n - s0 ∧ s0 ≤ D.n ∧ (∀ j, Q j = true → j < s0 → y.1 162 (D.ord j) = D.nwN Q (c.1 162) j) ∧ (∀ v, (∀ j, Q j = true → j < s0 → D.ord j ≠ v) → y.1 162 v = c.1 162 v) ∧ (∀ j, Q j = true → j < s0 → hiK (D.kp Q) D.n j ≤ s0) ∧ (r = true ↔ ∃ j, Q j = true ∧ j < s0 ∧ ¬ D.fitA Q (c.1 162) j) ∧ (∀ a, a ≠ 162 → y.1 a = c.1 a) ∧ y.2 = c.2)
    (fun o => ∃ r y, o = (bI r, tc_mk S y) ∧ (r = false ↔ D.fitN Q (c.1 162)) ∧ Nb y 162 D Q (c.1 162) ∧ (∀ a, a ≠ 162 → y.1 a = c.1 a) ∧ y.2 = c.2) (fun n st hst => by
      obtain ⟨s, r, y, rfl, rfl, hs, y1, y2, y3, y4, y5, y6⟩ := hst
      have hCy := hC0.cg y5 y6
      have e0 : y.2.2.1 155 11 = nI D.n := by rw [y6]; exact hO.1
      by_cases hsn : s = D.n
      · right
        have e1 : nI s ≥ nI D.n := by rw [hsn]; exact Int32.le_refl _
        refine ⟨(bI r, tc_mk S y), by simp (maxSteps := 3000000) (disch := omega) only [Option.bind_some, tc_bs, tq_let, tc_I1, tc_I2, tc_J1, tc_J2, tc_J3, tc_F1, tc_F2, tc_F3, tc_F4, tc_G1, tc_G2, tc_G3, tc_G4, tc_G5, tc_us, tc_un, s_one, s_holds, s_J13_bitCount, bz_bI, f_X11_number_b4, hM.f, e0, e1, if_true], r, y, rfl, ?_, ⟨fun j hj => y1 j hj (by have := (hQ j hj).1; omega), fun v hv => y2 v fun j hj _ => hv j hj⟩, y5, y6⟩
        unfold Doc.fitN
        cases r with
        | true =>
          obtain ⟨j, j1, j2, j3⟩ := y4.mp rfl
          exact ⟨fun z => Bool.noConfusion z, fun z => absurd (z j (hQ j j1).1 j1) j3⟩
        | false =>
          refine ⟨fun _ j hj hq => Classical.byContradiction fun z => ?_, fun _ => rfl⟩
          exact Bool.noConfusion (y4.mpr ⟨j, hq, by omega, z⟩)
      · left
        have hsn : s < D.n := by omega
        have e1 : ¬ nI s ≥ nI D.n := nI_ge hsn (by omega)
        have e2 : y.1 164 s = nI (D.ord s) := by rw [y5 164 (by decide)]; exact hO.2.1 s hsn
        have e3 : y.1 156 (D.ord s) = D.kd s := by rw [y5 156 (by decide)]; exact hR.2.2.2.2.1 s hsn
        have hos := D.ord_lt hw hsn
        obtain ⟨u, u1, u2⟩ := hb s hsn
        rw [← y5 174 (by decide)] at u1
        have skip : Q s = false → f_X11_number_b4 155 (bI r, nI s, tc_mk S y) = some (.inl (bI r, nI (s + 1), tc_mk S y)) → ∃ s' n', f_X11_number_b4 155 (bI r, nI s, tc_mk S y) = some (.inl s') ∧ (∃ s0 r y, s' = (bI r, nI s0, tc_mk S y) ∧ n' = D.n - s0 ∧ s0 ≤ D.n ∧ (∀ j, Q j = true → j < s0 → y.1 162 (D.ord j) = D.nwN Q (c.1 162) j) ∧ (∀ v, (∀ j, Q j = true → j < s0 → D.ord j ≠ v) → y.1 162 v = c.1 162 v) ∧ (∀ j, Q j = true → j < s0 → hiK (D.kp Q) D.n j ≤ s0) ∧ (r = true ↔ ∃ j, Q j = true ∧ j < s0 ∧ ¬ D.fitA Q (c.1 162) j) ∧ (∀ a, a ≠ 162 → y.1 a = c.1 a) ∧ y.2 = c.2) ∧ n' < D.n - s := fun hq he => by
          have hlt : ∀ j, Q j = true → j < s + 1 → j < s := fun j hj h1 => by
            by_cases e : j = s
            · rw [e, hq] at hj; cases hj
            · omega
          refine ⟨_, _, he, ⟨s + 1, r, y, rfl, rfl, hsn, fun j hj h1 => y1 j hj (hlt j hj h1), fun v hv => y2 v fun j hj h1 => hv j hj (by omega), fun j hj h1 => Nat.le_succ_of_le (y3 j hj (hlt j hj h1)), ?_, y5, y6⟩, by omega⟩
          rw [y4]
          constructor
          · rintro ⟨j, j1, j2, j3⟩; exact ⟨j, j1, by omega, j3⟩
          · rintro ⟨j, j1, j2, j3⟩; exact ⟨j, j1, hlt j j1 j2, j3⟩
        by_cases qk : D.kd s = 2
        · refine skip (by rw [u2, qk]; simp) ?_
          simp (maxSteps := 3000000) (disch := omega) only [Option.bind_some, tc_bs, tq_let, tc_I1, tc_I2, tc_J1, tc_J2, tc_J3, tc_F1, tc_F2, tc_F3, tc_F4, tc_G1, tc_G2, tc_G3, tc_G4, tc_G5, tc_us, tc_un, s_one, s_holds, s_J13_bitCount, bz_bI, f_X11_number_b4, hM.f, e0, e1, e2, e3, qk, if_true, if_false, nI_1]
        · cases u with
          | false =>
            have b0 : bI false = 0 := rfl
            refine skip (by rw [u2]; rfl) ?_
            simp (maxSteps := 3000000) (disch := omega) only [Option.bind_some, tc_bs, tq_let, tc_I1, tc_I2, tc_J1, tc_J2, tc_J3, tc_F1, tc_F2, tc_F3, tc_F4, tc_G1, tc_G2, tc_G3, tc_G4, tc_G5, tc_us, tc_un, s_one, s_holds, s_J13_bitCount, bz_bI, f_X11_number_b4, hM.f, e0, e1, e2, e3, qk, u1, b0, if_true, if_false, nI_1]
          | true =>
            have b1 : ¬ bI true = 0 := by decide
            have hQs : Q s = true := by rw [u2]; simp [qk]
            have hgap : ∀ k, loK (D.kp Q) s < k → k < s → Q k = false := fun k k1 k2 => by
              cases e : Q k with
              | false => rfl
              | true =>
                exfalso
                have hh := y3 k e k2
                obtain ⟨g1, g2, g3, g4⟩ := hiK_at (K := D.kp Q) (n := D.n) (j := k) (by omega)
                have hkp := g4 (by omega)
                have hne : hiK (D.kp Q) D.n k ≠ s := fun z => by
                  rw [z, Doc.kp_iff] at hkp
                  rw [hkp.2.2] at hQs; cases hQs
                obtain ⟨l1, l2, l3⟩ := loK_at hk0 (show 0 < s by omega)
                rw [l3 _ (by omega) (by omega)] at hkp; cases hkp
            obtain ⟨x, ⟨x1, x2⟩, x3, x4, x5, x6⟩ := s_X11_numberRow hCy hsn hQs hgap
            have yN : ∀ t, D.kp Q t = true → y.1 162 (D.ord t) = c.1 162 (D.ord t) := fun t ht => by
              refine y2 _ fun j hj _ e => ?_
              obtain ⟨t1, t2, t3⟩ := Doc.kp_iff.mp ht
              have := D.ord_inj hw (hQ j hj).1 t1 e
              rw [this, t3] at hj; cases hj
            have ncg := fun j (hj : j ≤ D.n) => D.nwN_cg hk0 hj yN
            obtain ⟨g1, g2, g3, g4⟩ := hiK_at (K := D.kp Q) (n := D.n) (j := s) (by omega)
            have hsh : s < hiK (D.kp Q) D.n s := by
              rcases Nat.lt_or_ge s (hiK (D.kp Q) D.n s) with q | q
              · exact q
              · exfalso
                have e : hiK (D.kp Q) D.n s = s := by omega
                have hkp := g4 (by omega)
                rw [e, Doc.kp_iff] at hkp
                rw [hkp.2.2] at hQs; cases hQs
            have hhi : ∀ j, s ≤ j → j < hiK (D.kp Q) D.n s → hiK (D.kp Q) D.n j = hiK (D.kp Q) D.n s := fun j j1 j2 => hiK_is (Nat.le_of_lt j2) g2 (fun k k1 k2 => g3 k (by omega) k2) g4
            have fin : ∀ r', f_X11_number_b4 155 (bI r, nI s, tc_mk S y) = some (.inl (bI r', nI (hiK (D.kp Q) D.n s), tc_mk S x)) → (r' = true ↔ r = true ∨ ¬ D.fitA Q (c.1 162) s) → ∃ s' n', f_X11_number_b4 155 (bI r, nI s, tc_mk S y) = some (.inl s') ∧ (∃ s0 r y, s' = (bI r, nI s0, tc_mk S y) ∧ n' = D.n - s0 ∧ s0 ≤ D.n ∧ (∀ j, Q j = true → j < s0 → y.1 162 (D.ord j) = D.nwN Q (c.1 162) j) ∧ (∀ v, (∀ j, Q j = true → j < s0 → D.ord j ≠ v) → y.1 162 v = c.1 162 v) ∧ (∀ j, Q j = true → j < s0 → hiK (D.kp Q) D.n j ≤ s0) ∧ (r = true ↔ ∃ j, Q j = true ∧ j < s0 ∧ ¬ D.fitA Q (c.1 162) j) ∧ (∀ a, a ≠ 162 → y.1 a = c.1 a) ∧ y.2 = c.2) ∧ n' < D.n - s := fun r' he hr' => by
              refine ⟨_, _, he, ⟨hiK (D.kp Q) D.n s, r', x, rfl, rfl, g2, fun j hj h1 => ?_, fun v hv => ?_, fun j hj h1 => ?_, ?_, fun a ha => (x5 a ha).trans (y5 a ha), x6.trans y6⟩, by omega⟩
              · by_cases q : j < s
                · rw [x4 _ fun j' hj' a1 a2 e => ?_]
                  · exact y1 j hj q
                  · have := D.ord_inj hw (hQ j' hj').1 (hQ j hj).1 e; omega
                · rw [(x3 j hj (by omega) h1).1]
                  exact (ncg j (by have := (hQ j hj).1; omega)).1
              · rw [x4 v fun j hj _ a2 => hv j hj a2]
                exact y2 v fun j hj a2 => hv j hj (by omega)
              · by_cases q : j < s
                · have := y3 j hj q; omega
                · rw [hhi j (by omega) h1]; exact Nat.le_refl _
              · rw [hr', y4]
                constructor
                · rintro (⟨j, j1, j2, j3⟩ | h)
                  · exact ⟨j, j1, by omega, j3⟩
                  · exact ⟨s, hQs, hsh, h⟩
                · rintro ⟨j, j1, j2, j3⟩
                  by_cases q : j < s
                  · exact .inl ⟨j, j1, q, j3⟩
                  · right
                    intro w
                    have := (x3 j j1 (by omega) j2).2
                    rw [(ncg j (by have := (hQ j j1).1; omega)).2, (ncg s (by omega)).2] at this
                    exact j3 (this.mpr w)
            have hh0 : nI (hiK (D.kp Q) D.n s) ≥ 0 := nI_le (Nat.zero_le _) (by omega)
            by_cases hf : D.fitA Q (y.1 162) s
            · have v12 := x1 hf
              have hf' := (ncg s (by omega)).2.mp hf
              cases r with
              | true =>
                refine fin true ?_ ⟨fun _ => .inl rfl, fun _ => rfl⟩
                simp (maxSteps := 3000000) (disch := omega) only [Option.bind_some, tc_bs, tq_let, tc_I1, tc_I2, tc_J1, tc_J2, tc_J3, tc_F1, tc_F2, tc_F3, tc_F4, tc_G1, tc_G2, tc_G3, tc_G4, tc_G5, tc_us, tc_un, s_one, s_holds, s_J13_bitCount, bz_bI, f_X11_number_b4, hM.f, e0, e1, e2, e3, qk, u1, b1, v12, hh0, if_true, if_false]; rfl
              | false =>
                have b0 : bI false = 0 := rfl
                refine fin false ?_ ⟨fun z => Bool.noConfusion z, fun z => by rcases z with z | z; · cases z
                                                                              · exact absurd hf' z⟩
                simp (maxSteps := 3000000) (disch := omega) only [Option.bind_some, tc_bs, tq_let, tc_I1, tc_I2, tc_J1, tc_J2, tc_J3, tc_F1, tc_F2, tc_F3, tc_F4, tc_G1, tc_G2, tc_G3, tc_G4, tc_G5, tc_us, tc_un, s_one, s_holds, s_J13_bitCount, bz_bI, f_X11_number_b4, hM.f, e0, e1, e2, e3, qk, u1, b1, b0, v12, hh0, if_true, if_false]
            · have v12 := x2 hf
              have hf' : ¬ D.fitA Q (c.1 162) s := fun z => hf ((ncg s (by omega)).2.mpr z)
              have hh1 : ¬ -nI (hiK (D.kp Q) D.n s) ≥ 0 := neg_nI (by omega) (by omega)
              have hh2 : - -nI (hiK (D.kp Q) D.n s) = nI (hiK (D.kp Q) D.n s) := Int32.neg_neg
              cases r with
              | true =>
                refine fin true ?_ ⟨fun _ => .inl rfl, fun _ => rfl⟩
                simp (maxSteps := 3000000) (disch := omega) only [Option.bind_some, tc_bs, tq_let, tc_I1, tc_I2, tc_J1, tc_J2, tc_J3, tc_F1, tc_F2, tc_F3, tc_F4, tc_G1, tc_G2, tc_G3, tc_G4, tc_G5, tc_us, tc_un, s_one, s_holds, s_J13_bitCount, bz_bI, f_X11_number_b4, hM.f, e0, e1, e2, e3, qk, u1, b1, v12, hh1, hh2, if_true, if_false]; rfl
              | false =>
                have b0 : bI false = 0 := rfl
                refine fin true ?_ ⟨fun _ => .inr hf', fun _ => rfl⟩
                simp (maxSteps := 3000000) (disch := omega) only [Option.bind_some, tc_bs, tq_let, tc_I1, tc_I2, tc_J1, tc_J2, tc_J3, tc_F1, tc_F2, tc_F3, tc_F4, tc_G1, tc_G2, tc_G3, tc_G4, tc_G5, tc_us, tc_un, s_one, s_holds, s_J13_bitCount, bz_bI, f_X11_number_b4, hM.f, e0, e1, e2, e3, qk, u1, b1, b0, v12, hh1, hh2, if_true, if_false]; rfl)
    (n := D.n) (s := ((0 : Int32), (0 : Int32), tc_mk S c)) ⟨0, false, c, rfl, rfl, Nat.zero_le _, fun j _ h => absurd h (Nat.not_lt_zero _), fun _ _ => rfl, fun j _ h => absurd h (Nat.not_lt_zero _), ⟨fun z => Bool.noConfusion z, fun ⟨j, _, h, _⟩ => absurd h (Nat.not_lt_zero _)⟩, fun _ _ => rfl, rfl⟩ (by unfold tq_N; omega)
  obtain ⟨r, y, rfl, h2⟩ := o2
  exact ⟨r, y, o1, h2⟩
/-- the numbers after an update, where all is renumbered -/
def Na (c : tc_C) (a : Nat) (D : Doc) (N : Nat → Int32) : Prop :=
  (∀ j, j < D.n → D.kd j ≠ 2 → c.1 a (D.ord j) = nI (16 * fb_ct D.sol (j + 1))) ∧ (∀ v, (∀ j, j < D.n → D.kd j ≠ 2 → D.ord j ≠ v) → c.1 a v = N v)
theorem Doc.numF_na (hw : D.wf) (f : Nat → Int32) (hf : ∀ v, (∀ j, j < D.n → D.kd j ≠ 2 → D.ord j ≠ v) → f v = N v) : (∀ j, j < D.n → D.kd j ≠ 2 → D.numF f D.n (D.ord j) = nI (16 * fb_ct D.sol (j + 1))) ∧ (∀ v, (∀ j, j < D.n → D.kd j ≠ 2 → D.ord j ≠ v) → D.numF f D.n v = N v) := by
  refine ⟨fun j hj hk => by rw [D.numF_at hw f hj _ (Nat.le_refl _), if_pos ⟨hj, hk⟩], fun v hv => ?_⟩
  by_cases q : ∃ j, j < D.n ∧ D.ord j = v
  · obtain ⟨j, hj, rfl⟩ := q
    have hk : D.kd j = 2 := Classical.byContradiction fun z => hv j hj z rfl
    rw [D.numF_at hw f hj _ (Nat.le_refl _), if_neg (fun w => w.2 hk)]
    exact hf _ hv
  · rw [D.numF_off f (fun j hj e => q ⟨j, hj, e⟩) _ (Nat.le_refl _)]
    exact hf _ hv
theorem s_X11_number (hC : RNm S c z M D Q) :
    ∃ c', f_X11_number 155 (tc_mk S c) = some (tc_mk S c') ∧ (D.fitN Q (c.1 162) → Nb c' 162 D Q (c.1 162) ∧ c'.2 = c.2) ∧ (¬ D.fitN Q (c.1 162) → Na c' 162 D (c.1 162) ∧ c'.2 = (tc_F c 155 10 (c.2.2.1 155 10 + 1)).2) ∧ (∀ a, a ≠ 162 → c'.1 a = c.1 a) := by
  obtain ⟨r, y, y1, y2, y3, y4, y5⟩ := s_num4 hC
  obtain ⟨hM, hw, -, -, hQ, -⟩ := id hC
  cases r with
  | false =>
    have b0 : bI false = 0 := rfl
    refine ⟨y, ?_, fun _ => ⟨y3, y5⟩, fun z => absurd (y2.mp rfl) z, y4⟩
    simp (maxSteps := 3000000) (disch := omega) only [Option.bind_some, tc_bs, tq_let, tc_I1, tc_I2, tc_J1, tc_J2, tc_J3, tc_F1, tc_F2, tc_F3, tc_F4, tc_G1, tc_G2, tc_G3, tc_G4, tc_G5, tc_us, tc_un, s_one, s_holds, s_J13_bitCount, bz_bI, f_X11_number, y1, b0, if_true]
  | true =>
    have b1 : ¬ bI true = 0 := by decide
    have e1 := s_X11_numberAll (hC.cg y4 y5)
    have hno : ¬ D.fitN Q (c.1 162) := fun z => Bool.noConfusion (y2.mpr z)
    have hna := D.numF_na (N := c.1 162) hw (y.1 162) fun v hv => y3.2 v fun j hj => hv j (hQ j hj).1 (hQ j hj).2
    refine ⟨tc_F (tc_I y 162 (D.numF (y.1 162) D.n)) 155 10 (y.2.2.1 155 10 + 1), ?_, fun z => absurd z hno, fun _ => ⟨?_, ?_⟩, fun a ha => ?_⟩
    · simp (maxSteps := 3000000) (disch := omega) only [Option.bind_some, tc_bs, tq_let, tc_I1, tc_I2, tc_J1, tc_J2, tc_J3, tc_F1, tc_F2, tc_F3, tc_F4, tc_G1, tc_G2, tc_G3, tc_G4, tc_G5, tc_us, tc_un, s_one, s_holds, s_J13_bitCount, bz_bI, f_X11_number, hM.f, y1, b1, e1, if_false]
    · refine ⟨fun j hj hk => ?_, fun v hv => ?_⟩
      · rw [tc_F1, tc_I1, tc_us]; exact hna.1 j hj hk
      · rw [tc_F1, tc_I1, tc_us]; exact hna.2 v hv
    · show (tc_F y 155 10 (y.2.2.1 155 10 + 1)).2 = _
      unfold tc_F
      rw [y5]
    · rw [tc_F1, tc_I1, tc_un _ _ ha]; exact y4 a ha
end RNC
