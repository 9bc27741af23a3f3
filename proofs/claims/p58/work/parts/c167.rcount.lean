/-! ===== the reference compares two versions: all pieces ===== -/
section RPG
variable {S : tq_H} {c c' c'' : tc_C} {D E : Doc} {b e q i j k k1 k2 n m l z v1 v2 : Nat}
theorem r_rows (hM : tc_Mod S z) (hw : D.wf) (hw2 : E.wf) (hv1 : v1 < 6) (hv2 : v2 < 6) (hA : zRA D E c) (hL : zAL v1 v2 D E c) (hk1 : k1 < D.n) (hk2 : k2 < E.n) (hK1 : zK D.n D.lf k1) (hK2 : zK E.n E.lf k2) (h : zRC D E k1 k2 (D.lf k1) (E.lf k2) c) :
    ∃ c', tq_loop (f_X11_compareAt_b141 155 (nI (k1 + 1)) (nI (k2 + 1)) (nI v1) (nI v2) (nI (D.lf k1 + 1)) (nI (E.lf k2 + 1))) tq_N (nI (D.lf k1 + 1), tc_mk S c) = some (tc_mk S c') ∧ zRI D.lf E.lf (D.co E) D.n E.n k1 (k2 + 1) (zrT c') ∧ zRE c c' := by
  have hn := D.n_le hw
  have hn2 := E.n_le hw2
  have hf := (D.pol hw).1 k1 hk1
  have hg := (E.pol hw2).1 k2 hk2
  have row : ∀ i d, D.lf k1 ≤ i → i ≤ k1 → zRC D E k1 k2 i (E.lf k2) d → zRE c d → ∃ c', tq_loop (f_X11_compareAt_b151 155 (nI (k1 + 1)) (nI (k2 + 1)) (nI v1) (nI v2) (nI (D.lf k1 + 1)) (nI (E.lf k2 + 1)) (nI (i + 1))) tq_N (nI (E.lf k2 + 1), tc_mk S d) = some (tc_mk S c') ∧ zRC D E k1 k2 (i + 1) (E.lf k2) c' ∧ zRE c c' := fun i d h1 h2 hd ed => by
    obtain ⟨y, y1, y2, y3⟩ := tc_run (B := f_X11_compareAt_b151 155 (nI (k1 + 1)) (nI (k2 + 1)) (nI v1) (nI v2) (nI (D.lf k1 + 1)) (nI (E.lf k2 + 1)) (nI (i + 1))) (k2 + 1 - E.lf k2) (fun j y => (nI (E.lf k2 + j + 1), tc_mk S y)) (fun j y => zRC D E k1 k2 i (E.lf k2 + j) y ∧ zRE c y) (fun y => tc_mk S y) (by omega) (fun j y hj hy => by
      obtain ⟨g1, g2⟩ := hy
      obtain ⟨c', e1, e2, e3⟩ := r_step (S := S) hM hw hw2 hv1 hv2 (hA.eo g2) (hL.eo g2) hk1 hk2 hK1 hK2 ⟨h1, h2⟩ ⟨by omega, by omega⟩ g1
      exact ⟨c', e1, e2, g2.trans e3⟩) (fun y hy => by
      have e1 : nI (E.lf k2 + (k2 + 1 - E.lf k2) + 1) > nI (k2 + 1) := nI_lt (by omega) (by omega)
      simp only [f_X11_compareAt_b151, e1, if_true]) (x := d) ⟨hd, ed⟩
    refine ⟨y, y1, ?_, y3⟩
    rw [show E.lf k2 + (k2 + 1 - E.lf k2) = k2 + 1 by omega] at y2
    exact zCI.row y2
  obtain ⟨y, y1, y2, y3⟩ := tc_run (B := f_X11_compareAt_b141 155 (nI (k1 + 1)) (nI (k2 + 1)) (nI v1) (nI v2) (nI (D.lf k1 + 1)) (nI (E.lf k2 + 1))) (k1 + 1 - D.lf k1) (fun j y => (nI (D.lf k1 + j + 1), tc_mk S y)) (fun j y => zRC D E k1 k2 (D.lf k1 + j) (E.lf k2) y ∧ zRE c y) (fun y => tc_mk S y) (by omega) (fun j y hj hy => by
      obtain ⟨g1, g2⟩ := hy
      obtain ⟨c', e1, e2, e3⟩ := row (D.lf k1 + j) y (by omega) (by omega) g1 g2
      have e4 : ¬ nI (D.lf k1 + j + 1) > nI (k1 + 1) := nI_nlt (by omega) (by omega)
      refine ⟨c', ?_, e2, e3⟩
      simp only [f_X11_compareAt_b141, e4, if_false, e1, Option.bind_some, tq_let, nI_1]
      rfl) (fun y hy => by
      have e1 : nI (D.lf k1 + (k1 + 1 - D.lf k1) + 1) > nI (k1 + 1) := nI_lt (by omega) (by omega)
      simp only [f_X11_compareAt_b141, e1, if_true]) (x := c) ⟨h, zRE.refl c⟩
  refine ⟨y, y1, ?_, y3⟩
  rw [show D.lf k1 + (k1 + 1 - D.lf k1) = k1 + 1 by omega] at y2
  exact zCI.fin y2 (D.pol hw) (E.pol hw2) hk1 hk2
theorem r_compareAt (hM : tc_Mod S z) (hw : D.wf) (hw2 : E.wf) (hv1 : v1 < 6) (hv2 : v2 < 6) (hA : zRA D E c) (hL : zAL v1 v2 D E c) (hk1 : k1 < D.n) (hk2 : k2 < E.n) (hK1 : zK D.n D.lf k1) (hK2 : zK E.n E.lf k2) (h : zRI D.lf E.lf (D.co E) D.n E.n k1 k2 (zrT c)) :
    ∃ c', f_X11_compareAt 155 (nI (k1 + 1)) (nI (k2 + 1)) (nI v1) (nI v2) (tc_mk S c) = some (tc_mk S c') ∧ zRI D.lf E.lf (D.co E) D.n E.n k1 (k2 + 1) (zrT c') ∧ zRE c c' := by
  have hn := D.n_le hw
  have hn2 := E.n_le hw2
  have hf := (D.pol hw).1 k1 hk1
  have hg := (E.pol hw2).1 k2 hk2
  have x4 : ∀ a b, (61 : Int32) * nI a + nI b = nI (61 * a + b) := fun a b => by rw [show (61 : Int32) = nI 61 from rfl, nI_mul, nI_add]
  have x5 : ∀ a, (61 : Int32) + nI a = nI (61 + a) := fun a => by rw [show (61 : Int32) = nI 61 from rfl, nI_add]
  have m1 : ∀ a, nI (a + 1) - 1 = nI a := fun a => nI_m1 (by omega)
  have m2 : ∀ a b, nI (61 * a + (b + 1)) - 1 = nI (61 * a + b) := fun a b => nI_m1 (by omega)
  have a2 : c.1 202 (k1 + 1) = nI (D.lf k1 + 1) := (hA.1 k1 hk1).2
  have a4 : c.1 202 (61 + (k2 + 1)) = nI (E.lf k2 + 1) := (hA.2.1 k2 hk2).2
  obtain ⟨c0, ec0⟩ : ∃ c0, c0 = tc_I c 204 (upd (c.1 204) (61 * D.lf k1 + E.lf k2) 0) := ⟨_, rfl⟩
  obtain ⟨y, y1, y2, y3, y4⟩ := tc_run (B := f_X11_compareAt_b41 155 (nI (k1 + 1)) (nI (k2 + 1)) (nI v1) (nI v2) (nI (D.lf k1 + 1)) (nI (E.lf k2 + 1))) (k1 - D.lf k1 + 1) (fun j y => (nI (D.lf k1 + j + 1), tc_mk S y)) (fun j y => (∀ v, v ≤ j → y.1 204 (61 * (D.lf k1 + v) + E.lf k2) = nI v) ∧ (∀ a, a ≠ 204 → y.1 a = c.1 a) ∧ y.2 = c.2) (fun y => tc_mk S y) (by omega) (fun j y hj hy => by
      obtain ⟨g1, g2, g3⟩ := hy
      have e1 : ¬ nI (D.lf k1 + j + 1) > nI (k1 + 1) := nI_nlt (by omega) (by omega)
      have e2 : y.1 204 (61 * (D.lf k1 + j) + E.lf k2) = nI j := g1 j (Nat.le_refl _)
      have l1 : 61 * (D.lf k1 + j) + E.lf k2 < 3721 := by omega
      have l2 : 61 * (D.lf k1 + j + 1) + E.lf k2 < 3721 := by omega
      refine ⟨tc_I y 204 (upd (y.1 204) (61 * (D.lf k1 + j + 1) + E.lf k2) (nI (j + 1))), by simp (maxSteps := 3000000) (disch := omega) only [Option.bind_some, tc_bs, tq_let, tc_I1, tc_I2, tc_J1, tc_J2, tc_J3, tc_F1, tc_F2, tc_F3, tc_F4, tc_G1, tc_G2, tc_G3, tc_G4, tc_G5, tc_us, tc_un, s_one, s_holds, s_J13_bitCount, bz_bI, f_X11_compareAt_b41, e1, hM.f, m1, x4, m2, e2, if_false, nI_1]; rfl, fun v hv => ?_, fun a ha => ?_, ?_⟩
      · rw [tc_I1, tc_us]
        by_cases z : v = j + 1
        · subst z
          rw [show D.lf k1 + (j + 1) = D.lf k1 + j + 1 by omega, upd_s]
        · rw [upd_n _ _ (by omega)]; exact g1 v (by omega)
      · rw [tc_I1, tc_un _ _ ha]; exact g2 a ha
      · exact g3) (fun y hy => by
      have e1 : nI (D.lf k1 + (k1 - D.lf k1 + 1) + 1) > nI (k1 + 1) := nI_lt (by omega) (by omega)
      simp only [f_X11_compareAt_b41, e1, if_true]) (x := c0) ⟨fun v hv => by
      have : v = 0 := by omega
      subst this
      rw [ec0, tc_I1, tc_us, Nat.add_zero, upd_s]; rfl, fun a ha => by rw [ec0, tc_I1, tc_un _ _ ha], by rw [ec0]; rfl⟩
  have y1 : tq_loop (f_X11_compareAt_b41 155 (nI (k1 + 1)) (nI (k2 + 1)) (nI v1) (nI v2) (nI (D.lf k1 + 1)) (nI (E.lf k2 + 1))) tq_N (nI (D.lf k1 + 1), tc_mk S c0) = some (tc_mk S y) := y1
  obtain ⟨w, w1, w2, w5, w3, w4⟩ := tc_run (B := f_X11_compareAt_b91 155 (nI (k1 + 1)) (nI (k2 + 1)) (nI v1) (nI v2) (nI (D.lf k1 + 1)) (nI (E.lf k2 + 1))) (k2 - E.lf k2 + 1) (fun j y => (nI (E.lf k2 + j + 1), tc_mk S y)) (fun j z => (∀ v, v ≤ j → z.1 204 (61 * D.lf k1 + (E.lf k2 + v)) = nI v) ∧ (∀ v, v ≤ k1 - D.lf k1 + 1 → z.1 204 (61 * (D.lf k1 + v) + E.lf k2) = nI v) ∧ (∀ a, a ≠ 204 → z.1 a = c.1 a) ∧ z.2 = c.2) (fun y => tc_mk S y) (by omega) (fun j y hj hy => by
      obtain ⟨g1, g5, g2, g3⟩ := hy
      have e1 : ¬ nI (E.lf k2 + j + 1) > nI (k2 + 1) := nI_nlt (by omega) (by omega)
      have e2 : y.1 204 (61 * D.lf k1 + (E.lf k2 + j)) = nI j := g1 j (Nat.le_refl _)
      have l1 : 61 * D.lf k1 + (E.lf k2 + j) < 3721 := by omega
      have l2 : 61 * D.lf k1 + (E.lf k2 + j + 1) < 3721 := by omega
      refine ⟨tc_I y 204 (upd (y.1 204) (61 * D.lf k1 + (E.lf k2 + j + 1)) (nI (j + 1))), by simp (maxSteps := 3000000) (disch := omega) only [Option.bind_some, tc_bs, tq_let, tc_I1, tc_I2, tc_J1, tc_J2, tc_J3, tc_F1, tc_F2, tc_F3, tc_F4, tc_G1, tc_G2, tc_G3, tc_G4, tc_G5, tc_us, tc_un, s_one, s_holds, s_J13_bitCount, bz_bI, f_X11_compareAt_b91, e1, hM.f, m1, x4, m2, e2, if_false, nI_1]; rfl, fun v hv => ?_, fun v hv => ?_, fun a ha => ?_, ?_⟩
      · rw [tc_I1, tc_us]
        by_cases z : v = j + 1
        · subst z
          rw [show E.lf k2 + (j + 1) = E.lf k2 + j + 1 by omega, upd_s]
        · rw [upd_n _ _ (by omega)]; exact g1 v (by omega)
      · rw [tc_I1, tc_us, upd_n _ _ (by omega)]; exact g5 v hv
      · rw [tc_I1, tc_un _ _ ha]; exact g2 a ha
      · exact g3) (fun y hy => by
      have e1 : nI (E.lf k2 + (k2 - E.lf k2 + 1) + 1) > nI (k2 + 1) := nI_lt (by omega) (by omega)
      simp only [f_X11_compareAt_b91, e1, if_true]) (x := y) ⟨fun v hv => by
      have : v = 0 := by omega
      subst this
      exact y2 0 (Nat.zero_le _), y2, y3, y4⟩
  have w1 : tq_loop (f_X11_compareAt_b91 155 (nI (k1 + 1)) (nI (k2 + 1)) (nI v1) (nI v2) (nI (D.lf k1 + 1)) (nI (E.lf k2 + 1))) tq_N (nI (E.lf k2 + 1), tc_mk S y) = some (tc_mk S w) := w1
  have ew : zRE c w := ⟨fun a _ h2 => w3 a h2, w4⟩
  have hT : zrT w = zrT c := by
    funext i j
    show w.1 203 _ = c.1 203 _
    rw [w3 203 (by omega)]
  have beg : zRC D E k1 k2 (D.lf k1) (E.lf k2) w := zCI.beg (by rw [hT]; exact h) (fun a h1 h2 => by
      have := w5 (a - D.lf k1) (by omega)
      rw [show D.lf k1 + (a - D.lf k1) = a by omega] at this
      exact this) (fun b h1 h2 => by
      have := w2 (b - E.lf k2) (by omega)
      rw [show E.lf k2 + (b - E.lf k2) = b by omega] at this
      exact this)
  obtain ⟨u, u1, u2, u3⟩ := r_rows (S := S) hM hw hw2 hv1 hv2 (hA.eo ew) (hL.eo ew) hk1 hk2 hK1 hK2 beg
  refine ⟨u, ?_, u2, ew.trans u3⟩
  have l1 : 61 * D.lf k1 + E.lf k2 < 3721 := by omega
  simp (maxSteps := 3000000) (disch := omega) only [Option.bind_some, tc_bs, tq_let, tc_I1, tc_I2, tc_J1, tc_J2, tc_J3, tc_F1, tc_F2, tc_F3, tc_F4, tc_G1, tc_G2, tc_G3, tc_G4, tc_G5, tc_us, tc_un, s_one, s_holds, s_J13_bitCount, bz_bI, f_X11_compareAt, hM.f, a2, x5, a4, m1, x4, m2]
  rw [← ec0]
  simp (maxSteps := 3000000) (disch := omega) only [Option.bind_some, tc_bs, tq_let, tc_I1, tc_I2, tc_J1, tc_J2, tc_J3, tc_F1, tc_F2, tc_F3, tc_F4, tc_G1, tc_G2, tc_G3, tc_G4, tc_G5, tc_us, tc_un, s_one, s_holds, s_J13_bitCount, bz_bI, y1, w1, u1]
theorem r_pairs (hM : tc_Mod S z) (hw : D.wf) (hw2 : E.wf) (hv1 : v1 < 6) (hv2 : v2 < 6) (hA : zRA D E c) (hL : zAL v1 v2 D E c) :
    ∃ c', tq_loop (f_X11_distance_b48 155 (nI v1) (nI v2)) tq_N ((1 : Int32), tc_mk S c) = some (tc_mk S c') ∧ zRI D.lf E.lf (D.co E) D.n E.n D.n 0 (zrT c') ∧ zRE c c' := by
  have hn := D.n_le hw
  have hn2 := E.n_le hw2
  have is11 : ∀ c, tq_is (tc_mk S c) 155 11 = some () := fun c => by simp (maxSteps := 3000000) (disch := omega) only [Option.bind_some, tc_bs, tq_let, tc_I1, tc_I2, tc_J1, tc_J2, tc_J3, tc_F1, tc_F2, tc_F3, tc_F4, tc_G1, tc_G2, tc_G3, tc_G4, tc_G5, tc_us, tc_un, s_one, s_holds, s_J13_bitCount, bz_bI, hM.f]
  have b0 : bI false = 0 := rfl
  have b1 : ¬ bI true = 0 := by decide
  have inner : ∀ k1 d, k1 < D.n → zRI D.lf E.lf (D.co E) D.n E.n k1 0 (zrT d) → zRE c d → ∃ c', tq_loop (f_X11_distance_b61 155 (nI v1) (nI v2) (nI (k1 + 1))) tq_N ((1 : Int32), tc_mk S d) = some (tc_mk S c') ∧ zRI D.lf E.lf (D.co E) D.n E.n k1 E.n (zrT c') ∧ zRE c c' := fun k1 d hk1 hd ed => by
    obtain ⟨y, y1, y2⟩ := tc_run (B := f_X11_distance_b61 155 (nI v1) (nI v2) (nI (k1 + 1))) E.n (fun j y => (nI (j + 1), tc_mk S y)) (fun j y => zRI D.lf E.lf (D.co E) D.n E.n k1 j (zrT y) ∧ zRE c y) (fun y => tc_mk S y) (by omega) (fun j y hj hy => by
      obtain ⟨g1, g2⟩ := hy
      have hA' := hA.eo g2
      have a4 : y.1 200 1 = nI E.n := hA'.2.2.2
      have e1 : ¬ nI (j + 1) > nI E.n := nI_nlt (by omega) (by omega)
      obtain ⟨t1, h1, s1⟩ := r_isKey (S := S) (c := y) (s := 0) (f := D.lf) hM hn (by omega) hA'.2.2.1 (fun p hp => ⟨(D.pol hw).1 p hp, by rw [show 61 * 0 + (p + 1) = p + 1 by omega]; exact (hA'.1 p hp).2⟩) hk1
      obtain ⟨t2, h2, s2⟩ := r_isKey (S := S) (c := y) (s := 1) (f := E.lf) hM hn2 (by omega) hA'.2.2.2 (fun p hp => ⟨(E.pol hw2).1 p hp, by rw [show 61 * 1 + (p + 1) = 61 + (p + 1) by omega]; exact (hA'.2.1 p hp).2⟩) hj
      have h1 : f_X11_isKey 155 0 (nI (k1 + 1)) (tc_mk S y) = some (bI t1) := h1
      have h2 : f_X11_isKey 155 1 (nI (j + 1)) (tc_mk S y) = some (bI t2) := h2
      have q4 : tq_ai (tc_mk S y) 200 1 = some (nI E.n) := by
        have : tq_ai (tc_mk S y) 200 (nI 1) = some (y.1 200 1) := by simp (maxSteps := 3000000) (disch := omega) only [Option.bind_some, tc_bs, tq_let, tc_I1, tc_I2, tc_J1, tc_J2, tc_J3, tc_F1, tc_F2, tc_F3, tc_F4, tc_G1, tc_G2, tc_G3, tc_G4, tc_G5, tc_us, tc_un, s_one, s_holds, s_J13_bitCount, bz_bI, hM.f]
        rw [a4] at this; exact this
      cases t1 with
      | false =>
        refine ⟨y, ?_, g1.skip (fun z => ?_), g2⟩
        · simp (maxSteps := 3000000) (disch := omega) only [Option.bind_some, tc_bs, tq_let, tc_I1, tc_I2, tc_J1, tc_J2, tc_J3, tc_F1, tc_F2, tc_F3, tc_F4, tc_G1, tc_G2, tc_G3, tc_G4, tc_G5, tc_us, tc_un, s_one, s_holds, s_J13_bitCount, bz_bI, f_X11_distance_b61, hM.f, q4, e1, h1, b0, if_true, if_false, nI_1]
        · rw [← s1] at z; exact absurd z.1 (by decide)
      | true =>
        cases t2 with
        | false =>
          refine ⟨y, ?_, g1.skip (fun z => ?_), g2⟩
          · simp (maxSteps := 3000000) (disch := omega) only [Option.bind_some, tc_bs, tq_let, tc_I1, tc_I2, tc_J1, tc_J2, tc_J3, tc_F1, tc_F2, tc_F3, tc_F4, tc_G1, tc_G2, tc_G3, tc_G4, tc_G5, tc_us, tc_un, s_one, s_holds, s_J13_bitCount, bz_bI, f_X11_distance_b61, hM.f, q4, e1, h1, h2, b0, b1, if_true, if_false, nI_1]
          · rw [← s2] at z; exact absurd z.2 (by decide)
        | true =>
          obtain ⟨u, u1, u2, u3⟩ := r_compareAt (S := S) hM hw hw2 hv1 hv2 hA' (hL.eo g2) hk1 hj (s1.mp rfl) (s2.mp rfl) g1
          refine ⟨u, ?_, u2, g2.trans u3⟩
          simp (maxSteps := 3000000) (disch := omega) only [Option.bind_some, tc_bs, tq_let, tc_I1, tc_I2, tc_J1, tc_J2, tc_J3, tc_F1, tc_F2, tc_F3, tc_F4, tc_G1, tc_G2, tc_G3, tc_G4, tc_G5, tc_us, tc_un, s_one, s_holds, s_J13_bitCount, bz_bI, f_X11_distance_b61, hM.f, q4, e1, h1, h2, b1, u1, if_false, nI_1]) (fun y hy => by
      have a4 : y.1 200 1 = nI E.n := (hA.eo hy.2).2.2.2
      have q4 : tq_ai (tc_mk S y) 200 1 = some (nI E.n) := by
        have : tq_ai (tc_mk S y) 200 (nI 1) = some (y.1 200 1) := by simp (maxSteps := 3000000) (disch := omega) only [Option.bind_some, tc_bs, tq_let, tc_I1, tc_I2, tc_J1, tc_J2, tc_J3, tc_F1, tc_F2, tc_F3, tc_F4, tc_G1, tc_G2, tc_G3, tc_G4, tc_G5, tc_us, tc_un, s_one, s_holds, s_J13_bitCount, bz_bI, hM.f]
        rw [a4] at this; exact this
      have e1 : nI (E.n + 1) > nI E.n := nI_lt (by omega) (by omega)
      simp (maxSteps := 3000000) (disch := omega) only [Option.bind_some, tc_bs, tq_let, tc_I1, tc_I2, tc_J1, tc_J2, tc_J3, tc_F1, tc_F2, tc_F3, tc_F4, tc_G1, tc_G2, tc_G3, tc_G4, tc_G5, tc_us, tc_un, s_one, s_holds, s_J13_bitCount, bz_bI, f_X11_distance_b61, hM.f, q4, e1, if_true]) (x := d) ⟨hd, ed⟩
    exact ⟨y, y1, y2⟩
  obtain ⟨y, y1, y2⟩ := tc_run (B := f_X11_distance_b48 155 (nI v1) (nI v2)) D.n (fun j y => (nI (j + 1), tc_mk S y)) (fun j y => zRI D.lf E.lf (D.co E) D.n E.n j 0 (zrT y) ∧ zRE c y) (fun y => tc_mk S y) (by omega) (fun j y hj hy => by
      obtain ⟨g1, g2⟩ := hy
      have a4 : y.1 200 0 = nI D.n := (hA.eo g2).2.2.1
      have q4 : tq_ai (tc_mk S y) 200 0 = some (nI D.n) := by
        have : tq_ai (tc_mk S y) 200 (nI 0) = some (y.1 200 0) := by simp (maxSteps := 3000000) (disch := omega) only [Option.bind_some, tc_bs, tq_let, tc_I1, tc_I2, tc_J1, tc_J2, tc_J3, tc_F1, tc_F2, tc_F3, tc_F4, tc_G1, tc_G2, tc_G3, tc_G4, tc_G5, tc_us, tc_un, s_one, s_holds, s_J13_bitCount, bz_bI, hM.f]
        rw [a4] at this; exact this
      have e1 : ¬ nI (j + 1) > nI D.n := nI_nlt (by omega) (by omega)
      obtain ⟨u, u1, u2, u3⟩ := inner j y hj g1 g2
      refine ⟨u, ?_, u2.row, u3⟩
      simp (maxSteps := 3000000) (disch := omega) only [Option.bind_some, tc_bs, tq_let, tc_I1, tc_I2, tc_J1, tc_J2, tc_J3, tc_F1, tc_F2, tc_F3, tc_F4, tc_G1, tc_G2, tc_G3, tc_G4, tc_G5, tc_us, tc_un, s_one, s_holds, s_J13_bitCount, bz_bI, f_X11_distance_b48, hM.f, q4, e1, if_false, u1, nI_1]) (fun y hy => by
      have a4 : y.1 200 0 = nI D.n := (hA.eo hy.2).2.2.1
      have q4 : tq_ai (tc_mk S y) 200 0 = some (nI D.n) := by
        have : tq_ai (tc_mk S y) 200 (nI 0) = some (y.1 200 0) := by simp (maxSteps := 3000000) (disch := omega) only [Option.bind_some, tc_bs, tq_let, tc_I1, tc_I2, tc_J1, tc_J2, tc_J3, tc_F1, tc_F2, tc_F3, tc_F4, tc_G1, tc_G2, tc_G3, tc_G4, tc_G5, tc_us, tc_un, s_one, s_holds, s_J13_bitCount, bz_bI, hM.f]
        rw [a4] at this; exact this
      have e1 : nI (D.n + 1) > nI D.n := nI_lt (by omega) (by omega)
      simp (maxSteps := 3000000) (disch := omega) only [Option.bind_some, tc_bs, tq_let, tc_I1, tc_I2, tc_J1, tc_J2, tc_J3, tc_F1, tc_F2, tc_F3, tc_F4, tc_G1, tc_G2, tc_G3, tc_G4, tc_G5, tc_us, tc_un, s_one, s_holds, s_J13_bitCount, bz_bI, f_X11_distance_b48, hM.f, q4, e1, if_true]) (x := c) ⟨zRI.beg, zRE.refl c⟩
  exact ⟨y, y1, y2⟩
end RPG
