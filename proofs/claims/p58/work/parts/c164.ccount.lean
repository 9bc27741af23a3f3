/-! ===== the class compares two versions: all pieces ===== -/
section CPG
variable {S : tq_H} {c c' c'' : tc_C} {D E : Doc} {b e q i j k k1 k2 n m l mb me a1 a2 n1 n2 : Nat}
/-- off the scratch rows the versions stand -/
theorem Nod.eo (h : Nod c b D m) (g : Eo q c c') (ho : b + 40 ≤ q ∨ q + 15 ≤ b) : Nod c' b D m := h.pt (fun a _ _ => g.1 a (by omega) (by omega)) (by rw [g.2])
theorem s_cmp_row (hEd : tc_Edi S q) (hT1 : tc_Tree S b) (hT2 : tc_Tree S e) (hw : D.wf) (hw2 : E.wf) (ho1 : b + 40 ≤ q ∨ q + 15 ≤ b) (ho2 : e + 40 ≤ q ∨ q + 15 ≤ e) (hN1 : Nod c b D mb) (hN2 : Nod c e E me) (hA : EA q D E c) (hk1 : k1 < D.n) (hk2 : k2 < E.n) (hK1 : zK D.n D.lf k1) (hK2 : zK E.n E.lf k2) (hi : D.lf k1 ≤ i ∧ i ≤ k1) (h : zCC q D E k1 k2 i (E.lf k2) c) :
    ∃ c', tq_loop (f_X1_compare_b101 q b e (nI k1) (nI k2) (nI (D.lf k1)) (nI (E.lf k2)) (nI i)) tq_N (nI (E.lf k2), tc_mk S c) = some (tc_mk S c') ∧ zCC q D E k1 k2 (i + 1) (E.lf k2) c' ∧ Eo q c c' := by
  have hn := D.n_le hw
  have hn2 := E.n_le hw2
  have hg := (E.pol hw2).1 k2 hk2
  obtain ⟨y, y1, y2, y3⟩ := tc_run (B := f_X1_compare_b101 q b e (nI k1) (nI k2) (nI (D.lf k1)) (nI (E.lf k2)) (nI i)) (k2 + 1 - E.lf k2) (fun j y => (nI (E.lf k2 + j), tc_mk S y)) (fun j y => zCC q D E k1 k2 i (E.lf k2 + j) y ∧ Eo q c y) (fun y => tc_mk S y) (by omega) (fun j y hj hy => by
      obtain ⟨g1, g2⟩ := hy
      obtain ⟨p1, p2⟩ := D.ip_sp hw (show i < D.n by omega)
      obtain ⟨o1, o2⟩ := E.ip_sp hw2 (show E.lf k2 + j < E.n by omega)
      have hA' := hA.eo g2
      obtain ⟨c', e1, e2, e3⟩ := s_cmpF (S := S) hEd hw hw2 hA' hk1 hk2 hK1 hK2 hi ⟨by omega, by omega⟩ g1
      have e4 : ¬ nI (E.lf k2 + j) > nI k2 := nI_nlt (by omega) (by omega)
      have v1 : rg 60 (y.1 (q + 2)) (nI i) = nI (D.ord (D.ip i)) := by rw [rg_in _ (by omega) (by decide)]; exact (hA'.1 i (by omega)).1
      have v2 : rg 60 (y.1 (q + 6)) (nI (E.lf k2 + j)) = nI (E.ord (E.ip (E.lf k2 + j))) := by rw [rg_in _ (by omega) (by decide)]; exact (hA'.2 _ (by omega)).1
      have v3 := s_looksLike (S := S) hT1 hT2 hw hw2 (hN1.eo g2 ho1) (hN2.eo g2 ho2) p1 o1
      have v4 : (if bI (decide (D.kd (D.ip i) = E.kd (E.ip (E.lf k2 + j)) ∧ D.nm (D.ip i) = E.nm (E.ip (E.lf k2 + j)) ∧ D.vl (D.ip i) = E.vl (E.ip (E.lf k2 + j)) ∧ D.dc (D.ip i) = E.dc (E.ip (E.lf k2 + j)))) = 0 then (1 : Int32) else 0) = nI (D.co E i (E.lf k2 + j)) := by
        unfold Doc.co
        by_cases z : D.kd (D.ip i) = E.kd (E.ip (E.lf k2 + j)) ∧ D.nm (D.ip i) = E.nm (E.ip (E.lf k2 + j)) ∧ D.vl (D.ip i) = E.vl (E.ip (E.lf k2 + j)) ∧ D.dc (D.ip i) = E.dc (E.ip (E.lf k2 + j))
        · rw [if_pos z, decide_eq_true z]; rfl
        · rw [if_neg z, decide_eq_false z]; rfl
      have i8 : tq_is (tc_mk S y) b 8 = some () := by simp (maxSteps := 3000000) (disch := omega) only [Option.bind_some, tc_bs, tq_let, tc_I1, tc_I2, tc_J1, tc_J2, tc_J3, tc_F1, tc_F2, tc_F3, tc_F4, tc_G1, tc_G2, tc_G3, tc_G4, tc_G5, tc_us, tc_un, s_one, s_holds, s_J13_bitCount, bz_bI, hT1.f]
      refine ⟨c', ?_, e2, g2.trans e3⟩
      simp (maxSteps := 3000000) (disch := omega) only [Option.bind_some, tc_bs, tq_let, tc_I1, tc_I2, tc_J1, tc_J2, tc_J3, tc_F1, tc_F2, tc_F3, tc_F4, tc_G1, tc_G2, tc_G3, tc_G4, tc_G5, tc_us, tc_un, s_one, s_holds, s_J13_bitCount, bz_bI, f_X1_compare_b101, e4, hEd.f, v1, v2, i8, v3, v4, e1, if_false, nI_1]
      rfl) (fun y hy => by
      have e1 : nI (E.lf k2 + (k2 + 1 - E.lf k2)) > nI k2 := nI_lt (by omega) (by omega)
      simp only [f_X1_compare_b101, e1, if_true]) (x := c) ⟨h, Eo.refl q c⟩
  refine ⟨y, y1, ?_, y3⟩
  rw [show E.lf k2 + (k2 + 1 - E.lf k2) = k2 + 1 by omega] at y2
  exact zCI.row y2
theorem s_cmp_rows (hEd : tc_Edi S q) (hT1 : tc_Tree S b) (hT2 : tc_Tree S e) (hw : D.wf) (hw2 : E.wf) (ho1 : b + 40 ≤ q ∨ q + 15 ≤ b) (ho2 : e + 40 ≤ q ∨ q + 15 ≤ e) (hN1 : Nod c b D mb) (hN2 : Nod c e E me) (hA : EA q D E c) (hk1 : k1 < D.n) (hk2 : k2 < E.n) (hK1 : zK D.n D.lf k1) (hK2 : zK E.n E.lf k2) (h : zCC q D E k1 k2 (D.lf k1) (E.lf k2) c) :
    ∃ c', tq_loop (f_X1_compare_b91 q b e (nI k1) (nI k2) (nI (D.lf k1)) (nI (E.lf k2))) tq_N (nI (D.lf k1), tc_mk S c) = some (tc_mk S c') ∧ zRI D.lf E.lf (D.co E) D.n E.n k1 (k2 + 1) (clT q c') ∧ Eo q c c' := by
  have hn := D.n_le hw
  have hn2 := E.n_le hw2
  have hg := (D.pol hw).1 k1 hk1
  obtain ⟨y, y1, y2, y3⟩ := tc_run (B := f_X1_compare_b91 q b e (nI k1) (nI k2) (nI (D.lf k1)) (nI (E.lf k2))) (k1 + 1 - D.lf k1) (fun j y => (nI (D.lf k1 + j), tc_mk S y)) (fun j y => zCC q D E k1 k2 (D.lf k1 + j) (E.lf k2) y ∧ Eo q c y) (fun y => tc_mk S y) (by omega) (fun j y hj hy => by
      obtain ⟨g1, g2⟩ := hy
      obtain ⟨c', e1, e2, e3⟩ := s_cmp_row (S := S) hEd hT1 hT2 hw hw2 ho1 ho2 (hN1.eo g2 ho1) (hN2.eo g2 ho2) (hA.eo g2) hk1 hk2 hK1 hK2 ⟨by omega, by omega⟩ g1
      have e4 : ¬ nI (D.lf k1 + j) > nI k1 := nI_nlt (by omega) (by omega)
      refine ⟨c', ?_, e2, g2.trans e3⟩
      simp only [f_X1_compare_b91, e4, if_false, e1, Option.bind_some, tq_let, nI_1]
      rfl) (fun y hy => by
      have e1 : nI (D.lf k1 + (k1 + 1 - D.lf k1)) > nI k1 := nI_lt (by omega) (by omega)
      simp only [f_X1_compare_b91, e1, if_true]) (x := c) ⟨h, Eo.refl q c⟩
  refine ⟨y, y1, ?_, y3⟩
  rw [show D.lf k1 + (k1 + 1 - D.lf k1) = k1 + 1 by omega] at y2
  exact zCI.fin y2 (D.pol hw) (E.pol hw2) hk1 hk2
theorem s_compare (hEd : tc_Edi S q) (hT1 : tc_Tree S b) (hT2 : tc_Tree S e) (hw : D.wf) (hw2 : E.wf) (ho1 : b + 40 ≤ q ∨ q + 15 ≤ b) (ho2 : e + 40 ≤ q ∨ q + 15 ≤ e) (hN1 : Nod c b D mb) (hN2 : Nod c e E me) (hA : EA q D E c) (hk1 : k1 < D.n) (hk2 : k2 < E.n) (hK1 : zK D.n D.lf k1) (hK2 : zK E.n E.lf k2) (h : zRI D.lf E.lf (D.co E) D.n E.n k1 k2 (clT q c)) :
    ∃ c', f_X1_compare q b e (nI k1) (nI k2) (tc_mk S c) = some (tc_mk S c') ∧ zRI D.lf E.lf (D.co E) D.n E.n k1 (k2 + 1) (clT q c') ∧ Eo q c c' := by
  have hn := D.n_le hw
  have hn2 := E.n_le hw2
  have hf := (D.pol hw).1 k1 hk1
  have hg := (E.pol hw2).1 k2 hk2
  have x4 : ∀ a, nI a * 61 = nI (a * 61) := fun a => nI_mul a 61
  have x1 : nI k1 - nI (D.lf k1) + 1 = nI (k1 - D.lf k1 + 1) := by rw [pk_sub hf, nI_1]
  have x2 : nI k2 - nI (E.lf k2) + 1 = nI (k2 - E.lf k2 + 1) := by rw [pk_sub hg, nI_1]
  obtain ⟨y, y1, y2, y3, y4⟩ := tc_run (B := f_X1_compare_b24 q b e (nI k1) (nI k2) (nI (D.lf k1)) (nI (E.lf k2))) (k1 - D.lf k1 + 2) (fun j y => (nI j, tc_mk S y)) (fun j y => (∀ v, v < j → y.1 (q + 12) (v * 61) = nI v) ∧ (∀ a, a ≠ q + 12 → y.1 a = c.1 a) ∧ y.2 = c.2) (fun y => tc_mk S y) (by omega) (fun j y hj hy => by
      obtain ⟨g1, g2, g3⟩ := hy
      have e1 : ¬ nI j > nI (k1 - D.lf k1 + 1) := nI_nlt (by omega) (by omega)
      refine ⟨_, by simp (maxSteps := 3000000) (disch := omega) only [Option.bind_some, tc_bs, tq_let, tc_I1, tc_I2, tc_J1, tc_J2, tc_J3, tc_F1, tc_F2, tc_F3, tc_F4, tc_G1, tc_G2, tc_G3, tc_G4, tc_G5, tc_us, tc_un, s_one, s_holds, s_J13_bitCount, bz_bI, f_X1_compare_b24, x1, e1, hEd.f, x4, rs_in _ _ (show j * 61 < 3721 by omega) (show 3721 < 2 ^ 31 by decide), if_false, nI_1]; rfl, fun v hv => ?_, fun a ha => ?_, ?_⟩
      · rw [tc_I1, tc_us]
        by_cases z : v = j
        · subst z; rw [upd_s]
        · rw [upd_n _ _ (by omega)]; exact g1 v (by omega)
      · rw [tc_I1, tc_un _ _ ha]; exact g2 a ha
      · exact g3) (fun y hy => by
      have e1 : nI (k1 - D.lf k1 + 2) > nI (k1 - D.lf k1 + 1) := nI_lt (by omega) (by omega)
      simp only [f_X1_compare_b24, x1, e1, if_true]) (x := c) ⟨fun i hi => absurd hi (Nat.not_lt_zero _), fun a _ => rfl, rfl⟩
  have y1 : tq_loop (f_X1_compare_b24 q b e (nI k1) (nI k2) (nI (D.lf k1)) (nI (E.lf k2))) tq_N ((0 : Int32), tc_mk S c) = some (tc_mk S y) := y1
  obtain ⟨w, w1, w2, w5, w3, w4⟩ := tc_run (B := f_X1_compare_b58 q b e (nI k1) (nI k2) (nI (D.lf k1)) (nI (E.lf k2))) (k2 - E.lf k2 + 2) (fun j y => (nI j, tc_mk S y)) (fun j z => (∀ v, v < j → z.1 (q + 12) v = nI v) ∧ (∀ v, v < k1 - D.lf k1 + 2 → z.1 (q + 12) (v * 61) = nI v) ∧ (∀ a, a ≠ q + 12 → z.1 a = c.1 a) ∧ z.2 = c.2) (fun y => tc_mk S y) (by omega) (fun j y hj hy => by
      obtain ⟨g1, g5, g2, g3⟩ := hy
      have e1 : ¬ nI j > nI (k2 - E.lf k2 + 1) := nI_nlt (by omega) (by omega)
      refine ⟨_, by simp (maxSteps := 3000000) (disch := omega) only [Option.bind_some, tc_bs, tq_let, tc_I1, tc_I2, tc_J1, tc_J2, tc_J3, tc_F1, tc_F2, tc_F3, tc_F4, tc_G1, tc_G2, tc_G3, tc_G4, tc_G5, tc_us, tc_un, s_one, s_holds, s_J13_bitCount, bz_bI, f_X1_compare_b58, x2, e1, hEd.f, rs_in _ _ (show j < 3721 by omega) (show 3721 < 2 ^ 31 by decide), if_false, nI_1]; rfl, fun v hv => ?_, fun v hv => ?_, fun a ha => ?_, ?_⟩
      · rw [tc_I1, tc_us]
        by_cases z : v = j
        · subst z; rw [upd_s]
        · rw [upd_n _ _ (by omega)]; exact g1 v (by omega)
      · rw [tc_I1, tc_us]
        by_cases z : v * 61 = j
        · have : v = 0 := by omega
          subst this
          have : j = 0 := by omega
          subst this
          rw [upd_s]
        · rw [upd_n _ _ z]; exact g5 v hv
      · rw [tc_I1, tc_un _ _ ha]; exact g2 a ha
      · exact g3) (fun y hy => by
      have e1 : nI (k2 - E.lf k2 + 2) > nI (k2 - E.lf k2 + 1) := nI_lt (by omega) (by omega)
      simp only [f_X1_compare_b58, x2, e1, if_true]) (x := y) ⟨fun i hi => absurd hi (Nat.not_lt_zero _), y2, y3, y4⟩
  have w1 : tq_loop (f_X1_compare_b58 q b e (nI k1) (nI k2) (nI (D.lf k1)) (nI (E.lf k2))) tq_N ((0 : Int32), tc_mk S y) = some (tc_mk S w) := w1
  have ew : Eo q c w := ⟨fun a _ h2 => w3 a h2, w4⟩
  have hT : clT q w = clT q c := by
    funext i j
    show w.1 (q + 10) _ = c.1 (q + 10) _
    rw [w3 (q + 10) (by omega)]
  have beg : zCC q D E k1 k2 (D.lf k1) (E.lf k2) w := zCI.beg (by rw [hT]; exact h) (fun a h1 h2 => by
      show w.1 (q + 12) ((a - D.lf k1) * 61 + (E.lf k2 - E.lf k2)) = _
      rw [Nat.sub_self, Nat.add_zero]
      exact w5 (a - D.lf k1) (by omega)) (fun b h1 h2 => by
      show w.1 (q + 12) ((D.lf k1 - D.lf k1) * 61 + (b - E.lf k2)) = _
      rw [Nat.sub_self, Nat.zero_mul, Nat.zero_add]
      exact w2 (b - E.lf k2) (by omega))
  obtain ⟨u, u1, u2, u3⟩ := s_cmp_rows (S := S) hEd hT1 hT2 hw hw2 ho1 ho2 (hN1.eo ew ho1) (hN2.eo ew ho2) (hA.eo ew) hk1 hk2 hK1 hK2 beg
  refine ⟨u, ?_, u2, ew.trans u3⟩
  have v5 : rg 60 (c.1 (q + 4)) (nI k1) = nI (D.lf k1) := by rw [rg_in _ (by omega) (by decide), (hA.1 k1 hk1).2]
  have v6 : rg 60 (c.1 (q + 8)) (nI k2) = nI (E.lf k2) := by rw [rg_in _ (by omega) (by decide), (hA.2 k2 hk2).2]
  simp (maxSteps := 3000000) (disch := omega) only [Option.bind_some, tc_bs, tq_let, tc_I1, tc_I2, tc_J1, tc_J2, tc_J3, tc_F1, tc_F2, tc_F3, tc_F4, tc_G1, tc_G2, tc_G3, tc_G4, tc_G5, tc_us, tc_un, s_one, s_holds, s_J13_bitCount, bz_bI, f_X1_compare, hEd.f, v5, v6, y1, w1, u1]
/-- all pairs -/
theorem s_pairs (hEd : tc_Edi S q) (hT1 : tc_Tree S b) (hT2 : tc_Tree S e) (hw : D.wf) (hw2 : E.wf) (ho1 : b + 40 ≤ q ∨ q + 15 ≤ b) (ho2 : e + 40 ≤ q ∨ q + 15 ≤ e) (hN1 : Nod c b D mb) (hN2 : Nod c e E me) (hA : EA q D E c) {s1 s2 : Int64} (hs1 : ∀ p, p < D.n → (tb s1 p = true ↔ zK D.n D.lf p)) (hs2 : ∀ p, p < E.n → (tb s2 p = true ↔ zK E.n E.lf p)) :
    ∃ c', tq_loop (f_X1_count_b71 q b e (nI D.n) (nI E.n) s1 s2) tq_N ((0 : Int32), tc_mk S c) = some (tc_mk S c') ∧ zRI D.lf E.lf (D.co E) D.n E.n D.n 0 (clT q c') ∧ Eo q c c' := by
  have hn := D.n_le hw
  have hn2 := E.n_le hw2
  have i1 : ∀ c, tq_is (tc_mk S c) q 1 = some () := fun c => by simp (maxSteps := 3000000) (disch := omega) only [Option.bind_some, tc_bs, tq_let, tc_I1, tc_I2, tc_J1, tc_J2, tc_J3, tc_F1, tc_F2, tc_F3, tc_F4, tc_G1, tc_G2, tc_G3, tc_G4, tc_G5, tc_us, tc_un, s_one, s_holds, s_J13_bitCount, bz_bI, hEd.f]
  have inner : ∀ k1 d, k1 < D.n → zRI D.lf E.lf (D.co E) D.n E.n k1 0 (clT q d) → Eo q c d → ∃ c', tq_loop (f_X1_count_b80 q b e (nI D.n) (nI E.n) s1 s2 (nI k1)) tq_N ((0 : Int32), tc_mk S d) = some (tc_mk S c') ∧ zRI D.lf E.lf (D.co E) D.n E.n k1 E.n (clT q c') ∧ Eo q c c' := fun k1 d hk1 hd ed => by
    have hA' := hA.eo ed
    obtain ⟨y, y1, y2⟩ := tc_run (B := f_X1_count_b80 q b e (nI D.n) (nI E.n) s1 s2 (nI k1)) E.n (fun j y => (nI j, tc_mk S y)) (fun j y => zRI D.lf E.lf (D.co E) D.n E.n k1 j (clT q y) ∧ Eo q c y) (fun y => tc_mk S y) (by omega) (fun j y hj hy => by
      obtain ⟨g1, g2⟩ := hy
      have e1 : ¬ nI j ≥ nI E.n := nI_ge hj (by omega)
      have h1 : f_X0_holds s1 (nI k1) (tc_mk S y) = some (bI (tb s1 k1)) := s_X0_holds _ (by omega) _
      have h2 : f_X0_holds s2 (nI j) (tc_mk S y) = some (bI (tb s2 j)) := s_X0_holds _ (by omega) _
      have b0 : bI false = 0 := rfl
      have b1 : ¬ bI true = 0 := by decide
      cases t1 : tb s1 k1 with
      | false =>
        refine ⟨y, ?_, g1.skip (fun z => ?_), g2⟩
        · simp only [f_X1_count_b80, e1, if_false, h1, Option.bind_some, t1, b0, if_true, tq_let, nI_1]
        · rw [(hs1 k1 hk1).mpr z.1] at t1; cases t1
      | true =>
        cases t2 : tb s2 j with
        | false =>
          refine ⟨y, ?_, g1.skip (fun z => ?_), g2⟩
          · simp only [f_X1_count_b80, e1, if_false, h1, h2, Option.bind_some, t1, t2, b0, b1, if_true, tq_let, nI_1]
          · rw [(hs2 j hj).mpr z.2] at t2; cases t2
        | true =>
          obtain ⟨u, u1, u2, u3⟩ := s_compare (S := S) hEd hT1 hT2 hw hw2 ho1 ho2 (hN1.eo g2 ho1) (hN2.eo g2 ho2) (hA.eo g2) hk1 hj ((hs1 k1 hk1).mp t1) ((hs2 j hj).mp t2) g1
          refine ⟨u, ?_, u2, g2.trans u3⟩
          simp only [f_X1_count_b80, e1, if_false, h1, h2, Option.bind_some, t1, t2, b1, i1, u1, tq_let, nI_1]) (fun y hy => by
      have e1 : nI E.n ≥ nI E.n := Int32.le_refl _
      simp only [f_X1_count_b80, e1, if_true]) (x := d) ⟨hd, ed⟩
    exact ⟨y, y1, y2⟩
  obtain ⟨y, y1, y2⟩ := tc_run (B := f_X1_count_b71 q b e (nI D.n) (nI E.n) s1 s2) D.n (fun j y => (nI j, tc_mk S y)) (fun j y => zRI D.lf E.lf (D.co E) D.n E.n j 0 (clT q y) ∧ Eo q c y) (fun y => tc_mk S y) (by omega) (fun j y hj hy => by
      obtain ⟨g1, g2⟩ := hy
      have e1 : ¬ nI j ≥ nI D.n := nI_ge hj (by omega)
      obtain ⟨u, u1, u2, u3⟩ := inner j y hj g1 g2
      refine ⟨u, ?_, u2.row, u3⟩
      simp only [f_X1_count_b71, e1, if_false, u1, Option.bind_some, tq_let, nI_1]) (fun y hy => by
      have e1 : nI D.n ≥ nI D.n := Int32.le_refl _
      simp only [f_X1_count_b71, e1, if_true]) (x := c) ⟨zRI.beg, Eo.refl q c⟩
  exact ⟨y, y1, y2⟩
/-- the class counts -/
theorem s_count (hEd : tc_Edi S q) (hT1 : tc_Tree S b) (hT2 : tc_Tree S e) (hw : D.wf) (hw2 : E.wf) (ho1 : b + 40 ≤ q ∨ q + 15 ≤ b) (ho2 : e + 40 ≤ q ∨ q + 15 ≤ e) (hL1 : Lay c b D) (hL2 : Lay c e E) (hN1 : Nod c b D mb) (hN2 : Nod c e E me) :
    ∃ c', f_X1_count q b e (tc_mk S c) = some (dist D E, tc_mk S c') ∧ (∀ a, a < q + 2 ∨ q + 12 < a → c'.1 a = c.1 a) ∧ c'.2 = c.2 := by
  have hn := D.n_le hw
  have hn2 := E.n_le hw2
  have hp := D.n_pos hw
  have hp2 := E.n_pos hw2
  obtain ⟨h0, t1, t2, t3, t4, t5, t6, t7⟩ := id hEd
  obtain ⟨u, u1, u2, u3, u4⟩ := s_line (S := S) hT1 hw hL1 t1 t2 (by omega) (by omega) (by omega)
  obtain ⟨v, v1, v2, v3, v4⟩ := s_line (S := S) (c := u) hT2 hw2 (hL2.pt (fun a _ _ => u3 a (by omega) (by omega)) (fun a _ _ => by rw [u4]) (by rw [u4]) (by rw [u4]) (by rw [u4])) t3 t4 (by omega) (by omega) (by omega)
  have cv : ∀ a, a < q + 2 ∨ q + 12 < a → v.1 a = c.1 a := fun a ha => (v3 a (by omega) (by omega)).trans (u3 a (by omega) (by omega))
  have cv2 : v.2 = c.2 := v4.trans u4
  have hA : EA q D E v := ⟨fun i hi => by rw [v3 (q + 2) (by omega) (by omega), v3 (q + 4) (by omega) (by omega)]; exact u2 i hi, v2⟩
  obtain ⟨s1, x1, x2⟩ := s_outermost (S := S) (c := v) (f := D.lf) t2 hn (fun p hp => ⟨(D.pol hw).1 p hp, (hA.1 p hp).2⟩)
  obtain ⟨s2, x3, x4⟩ := s_outermost (S := S) (c := v) (f := E.lf) t4 hn2 (fun p hp => ⟨(E.pol hw2).1 p hp, (hA.2 p hp).2⟩)
  have Lv1 : Lay v b D := hL1.pt (fun a _ _ => cv a (by omega)) (fun a _ _ => by rw [cv2]) (by rw [cv2]) (by rw [cv2]) (by rw [cv2])
  have Lv2 : Lay v e E := hL2.pt (fun a _ _ => cv a (by omega)) (fun a _ _ => by rw [cv2]) (by rw [cv2]) (by rw [cv2]) (by rw [cv2])
  obtain ⟨w, w1, w2, w3, w4⟩ := s_pairs (S := S) hEd hT1 hT2 hw hw2 ho1 ho2 (hN1.pt (fun a _ _ => cv a (by omega)) (by rw [cv2])) (hN2.pt (fun a _ _ => cv a (by omega)) (by rw [cv2])) hA x2 x4
  have fin := zRI.end w2 hp hp2 (D.lf_end hw) (E.lf_end hw2)
  have fin : w.1 (q + 10) ((D.n - 1) * 61 + (E.n - 1)) = dist D E := fin
  have g1 : ∀ c, tq_gr (tc_mk S c) b 8 0 = some (b + 1) := fun c => by simp (maxSteps := 3000000) (disch := omega) only [Option.bind_some, tc_bs, tq_let, tc_I1, tc_I2, tc_J1, tc_J2, tc_J3, tc_F1, tc_F2, tc_F3, tc_F4, tc_G1, tc_G2, tc_G3, tc_G4, tc_G5, tc_us, tc_un, s_one, s_holds, s_J13_bitCount, bz_bI, hT1.f]
  have g2 : ∀ c, tq_gr (tc_mk S c) e 8 0 = some (e + 1) := fun c => by simp (maxSteps := 3000000) (disch := omega) only [Option.bind_some, tc_bs, tq_let, tc_I1, tc_I2, tc_J1, tc_J2, tc_J3, tc_F1, tc_F2, tc_F3, tc_F4, tc_G1, tc_G2, tc_G3, tc_G4, tc_G5, tc_us, tc_un, s_one, s_holds, s_J13_bitCount, bz_bI, hT2.f]
  have g3 : ∀ c, tq_is (tc_mk S c) (b + 1) 3 = some () := fun c => by simp (maxSteps := 3000000) (disch := omega) only [Option.bind_some, tc_bs, tq_let, tc_I1, tc_I2, tc_J1, tc_J2, tc_J3, tc_F1, tc_F2, tc_F3, tc_F4, tc_G1, tc_G2, tc_G3, tc_G4, tc_G5, tc_us, tc_un, s_one, s_holds, s_J13_bitCount, bz_bI, hT1.f]
  have g4 : ∀ c, tq_is (tc_mk S c) (e + 1) 3 = some () := fun c => by simp (maxSteps := 3000000) (disch := omega) only [Option.bind_some, tc_bs, tq_let, tc_I1, tc_I2, tc_J1, tc_J2, tc_J3, tc_F1, tc_F2, tc_F3, tc_F4, tc_G1, tc_G2, tc_G3, tc_G4, tc_G5, tc_us, tc_un, s_one, s_holds, s_J13_bitCount, bz_bI, hT2.f]
  have y1 : nI D.n - 1 = nI (D.n - 1) := nI_m1 hp
  have y2 : nI (D.n - 1) * 61 = nI ((D.n - 1) * 61) := nI_mul _ 61
  have y3 : nI ((D.n - 1) * 61) + nI E.n = nI ((D.n - 1) * 61 + E.n) := nI_add _ _
  have y4 : nI ((D.n - 1) * 61 + E.n) - 1 = nI ((D.n - 1) * 61 + (E.n - 1)) := by rw [nI_m1 (by omega)]; congr 1; omega
  refine ⟨w, ?_, fun a ha => (w3 a (by omega) (by omega)).trans (cv a ha), w4.trans cv2⟩
  have k1 := s_X3_count (S := S) hT1 Lv1
  have k2 := s_X3_count (S := S) hT2 Lv2
  simp (maxSteps := 3000000) (disch := omega) only [Option.bind_some, tc_bs, tq_let, tc_I1, tc_I2, tc_J1, tc_J2, tc_J3, tc_F1, tc_F2, tc_F3, tc_F4, tc_G1, tc_G2, tc_G3, tc_G4, tc_G5, tc_us, tc_un, s_one, s_holds, s_J13_bitCount, bz_bI, f_X1_count, g1, g2, g3, g4, hEd.f, u1, v1, k1, k2, x1, x3, w1, y1, y2, y3, y4, rg_in _ (show (D.n - 1) * 61 + (E.n - 1) < 3721 by omega) (show 3721 < 2 ^ 31 by decide), fin]
end CPG
