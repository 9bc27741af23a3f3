/-! ===== the class compares two versions: pieces ===== -/
abbrev clF (q l m : Nat) (c : tc_C) (a b : Nat) : Int32 := c.1 (q + 12) ((a - l) * 61 + (b - m))
abbrev clT (q : Nat) (c : tc_C) (i j : Nat) : Int32 := c.1 (q + 10) (i * 61 + j)
def EA (q : Nat) (D E : Doc) (c : tc_C) : Prop := (∀ i, i < D.n → c.1 (q + 2) i = nI (D.ord (D.ip i)) ∧ c.1 (q + 4) i = nI (D.lf i)) ∧ ∀ j, j < E.n → c.1 (q + 6) j = nI (E.ord (E.ip j)) ∧ c.1 (q + 8) j = nI (E.lf j)
abbrev zCC (q : Nat) (D E : Doc) (k1 k2 i j : Nat) (c : tc_C) : Prop := zCI D.lf E.lf (D.co E) D.n E.n k1 k2 i j (clF q (D.lf k1) (E.lf k2) c) (clT q c)
def Eo (q : Nat) (c c' : tc_C) : Prop := (∀ a, a ≠ q + 10 → a ≠ q + 12 → c'.1 a = c.1 a) ∧ c'.2 = c.2
section CPF
variable {S : tq_H} {c c' c'' : tc_C} {D E : Doc} {b e q i j k k1 k2 n m l mb me : Nat}
theorem Eo.refl (q : Nat) (c : tc_C) : Eo q c c := ⟨fun _ _ _ => rfl, rfl⟩
theorem Eo.trans (h : Eo q c c') (g : Eo q c' c'') : Eo q c c'' := ⟨fun a h1 h2 => (g.1 a h1 h2).trans (h.1 a h1 h2), g.2.trans h.2⟩
theorem EA.eo (h : EA q D E c) (g : Eo q c c') : EA q D E c' := by
  unfold EA
  rw [g.1 (q + 2) (by omega) (by omega), g.1 (q + 4) (by omega) (by omega), g.1 (q + 6) (by omega) (by omega), g.1 (q + 8) (by omega) (by omega)]
  exact h
theorem nI_min {a b : Nat} (ha : a < 2 ^ 31) (hb : b < 2 ^ 31) : (if nI a < nI b then nI a else nI b) = nI (min b a) := by
  by_cases q : a < b
  · rw [if_pos (nI_lt q hb), Nat.min_eq_right (by omega)]
  · rw [if_neg (nI_nlt (by omega) ha), Nat.min_eq_left (by omega)]
theorem s_cmpF (hEd : tc_Edi S q) (hw : D.wf) (hw2 : E.wf) (hA : EA q D E c) (hk1 : k1 < D.n) (hk2 : k2 < E.n) (hK1 : zK D.n D.lf k1) (hK2 : zK E.n E.lf k2) (hi : D.lf k1 ≤ i ∧ i ≤ k1) (hj : E.lf k2 ≤ j ∧ j ≤ k2) (h : zCC q D E k1 k2 i j c) :
    ∃ c', f_X1_compareForests q (nI i) (nI (D.lf k1)) (nI j) (nI (E.lf k2)) (nI (D.co E i j)) (tc_mk S c) = some (tc_mk S c') ∧ zCC q D E k1 k2 i (j + 1) c' ∧ Eo q c c' := by
  have hn := D.n_le hw
  have hn2 := E.n_le hw2
  obtain ⟨r1, r2, r3, r4, r5⟩ := h.read (D.pol hw) (E.pol hw2) hk1 hk2 hK1 hK2 hi hj
  obtain ⟨p1, p2⟩ := (D.pol hw).in hk1 hi.1 hi.2
  obtain ⟨o1, o2⟩ := (E.pol hw2).in hk2 hj.1 hj.2
  have hV := dpF_s (co := D.co E) hi.1 hj.1 ⟨p1, p2⟩ ⟨o1, o2⟩
  have stp := fun F' t' => h.step (F' := F') (t' := t') (D.pol hw) (E.pol hw2) hk1 hk2 hi hj
  have b1 := dpF_b D.lf E.lf (D.co E) (D.lf k1) (E.lf k2) i (j + 1)
  have b2 := dpF_b D.lf E.lf (D.co E) (D.lf k1) (E.lf k2) (i + 1) j
  have b3 := dpF_b D.lf E.lf (D.co E) (D.lf k1) (E.lf k2) i j
  have b4 := dpF_b D.lf E.lf (D.co E) (D.lf k1) (E.lf k2) (D.lf i) (E.lf j)
  have b5 := dpF_b D.lf E.lf (D.co E) (D.lf i) (E.lf j) (i + 1) (j + 1)
  have b6 := D.co_le E i j
  have f1 := (hA.1 i (by omega)).2
  have f2 := (hA.2 j (by omega)).2
  obtain ⟨V, eV⟩ : ∃ V, V = dpF D.lf E.lf (D.co E) (D.lf k1) (E.lf k2) (i + 1) (j + 1) := ⟨_, rfl⟩
  rw [← eV] at hV
  simp only [← eV] at stp
  unfold zTD at r5
  generalize dpF D.lf E.lf (D.co E) (D.lf k1) (E.lf k2) i (j + 1) = U at *
  generalize dpF D.lf E.lf (D.co E) (D.lf k1) (E.lf k2) (i + 1) j = L at *
  generalize dpF D.lf E.lf (D.co E) (D.lf k1) (E.lf k2) i j = G at *
  generalize dpF D.lf E.lf (D.co E) (D.lf k1) (E.lf k2) (D.lf i) (E.lf j) = X at *
  generalize dpF D.lf E.lf (D.co E) (D.lf i) (E.lf j) (i + 1) (j + 1) = T at *
  generalize D.co E i j = w at *
  have x1 : nI i - nI (D.lf k1) + 1 = nI (i - D.lf k1 + 1) := by rw [pk_sub hi.1, nI_1]
  have x2 : nI j - nI (E.lf k2) + 1 = nI (j - E.lf k2 + 1) := by rw [pk_sub hj.1, nI_1]
  have x3 : nI (i - D.lf k1 + 1) - 1 = nI (i - D.lf k1) := nI_m1 (by omega)
  have x4 : ∀ a b, nI a * 61 + nI b = nI (a * 61 + b) := fun a b => by rw [show (61 : Int32) = nI 61 from rfl, nI_mul, nI_add]
  have x5 : nI ((i - D.lf k1 + 1) * 61 + (j - E.lf k2 + 1)) - 1 = nI ((i - D.lf k1 + 1) * 61 + (j - E.lf k2)) := nI_m1 (by omega)
  have x6 : nI ((i - D.lf k1) * 61 + (j - E.lf k2 + 1)) - 1 = nI ((i - D.lf k1) * 61 + (j - E.lf k2)) := nI_m1 (by omega)
  have x7 : nI (D.lf i) - nI (D.lf k1) = nI (D.lf i - D.lf k1) := pk_sub p1
  have x8 : nI ((D.lf i - D.lf k1) * 61 + E.lf j) - nI (E.lf k2) = nI ((D.lf i - D.lf k1) * 61 + (E.lf j - E.lf k2)) := by
    rw [pk_sub (by omega)]; congr 1; omega
  have v1 : rg 3721 (c.1 (q + 12)) (nI ((i - D.lf k1) * 61 + (j - E.lf k2 + 1))) = nI U := by
    rw [rg_in _ (by omega) (by decide), ← r1, show j - E.lf k2 + 1 = j + 1 - E.lf k2 by omega]
  have v2 : rg 3721 (c.1 (q + 12)) (nI ((i - D.lf k1 + 1) * 61 + (j - E.lf k2))) = nI L := by
    rw [rg_in _ (by omega) (by decide), ← r2, show i - D.lf k1 + 1 = i + 1 - D.lf k1 by omega]
  have v3 : rg 3721 (c.1 (q + 12)) (nI ((i - D.lf k1) * 61 + (j - E.lf k2))) = nI G := by
    rw [rg_in _ (by omega) (by decide), ← r3]
  have v4 : rg 3721 (c.1 (q + 12)) (nI ((D.lf i - D.lf k1) * 61 + (E.lf j - E.lf k2))) = nI X := by
    rw [rg_in _ (by omega) (by decide), ← r4]
  have v5 : rg 60 (c.1 (q + 4)) (nI i) = nI (D.lf i) := by rw [rg_in _ (by omega) (by decide), f1]
  have v6 : rg 60 (c.1 (q + 8)) (nI j) = nI (E.lf j) := by rw [rg_in _ (by omega) (by decide), f2]
  have mn := nI_min (a := L) (b := U) (by omega) (by omega)
  have s1 : ∀ (c : tc_C) x, rs 3721 (c.1 (q + 12)) (nI ((i - D.lf k1 + 1) * 61 + (j - E.lf k2 + 1))) x = upd (c.1 (q + 12)) ((i - D.lf k1 + 1) * 61 + (j - E.lf k2 + 1)) x := fun c x => rs_in _ _ (by omega) (by decide)
  have s2 : ∀ (c : tc_C) x, rs 3721 (c.1 (q + 10)) (nI (i * 61 + j)) x = upd (c.1 (q + 10)) (i * 61 + j) x := fun c x => rs_in _ _ (by omega) (by decide)
  have iff1 := nI_eq (a := D.lf i) (b := D.lf k1) (by omega) (by omega)
  have iff2 := nI_eq (a := E.lf j) (b := E.lf k2) (by omega) (by omega)
  have is1 : ∀ c, tq_is (tc_mk S c) (q + 3) 5 = some () := fun c => by simp (maxSteps := 3000000) (disch := omega) only [Option.bind_some, tc_bs, tq_let, tc_I1, tc_I2, tc_J1, tc_J2, tc_J3, tc_F1, tc_F2, tc_F3, tc_F4, tc_G1, tc_G2, tc_G3, tc_G4, tc_G5, tc_us, tc_un, s_one, s_holds, s_J13_bitCount, bz_bI, hEd.f]
  have fin1 : ∀ (c' : tc_C), (c'.1 (q + 12) = upd (c.1 (q + 12)) ((i - D.lf k1 + 1) * 61 + (j - E.lf k2 + 1)) (nI V)) → clF q (D.lf k1) (E.lf k2) c' (i + 1) (j + 1) = nI V ∧ ∀ a b, D.lf k1 ≤ a → a ≤ k1 + 1 → E.lf k2 ≤ b → b ≤ k2 + 1 → ¬ (a = i + 1 ∧ b = j + 1) → clF q (D.lf k1) (E.lf k2) c' a b = clF q (D.lf k1) (E.lf k2) c a b := fun c' hc => by
    refine ⟨?_, fun a b h1 h2 h3 h4 h5 => ?_⟩
    · show c'.1 (q + 12) _ = _
      rw [hc, show i + 1 - D.lf k1 = i - D.lf k1 + 1 by omega, show j + 1 - E.lf k2 = j - E.lf k2 + 1 by omega, upd_s]
    · show c'.1 (q + 12) _ = _
      rw [hc, upd_n _ _ (by omega)]
  by_cases q1 : D.lf i = D.lf k1 ∧ E.lf j = E.lf k2
  · have y1 := iff1.mpr q1.1
    have y2 := iff2.mpr q1.2
    rw [if_pos q1] at hV
    have hv : (if nI G + nI w < nI (min U L + 1) then nI G + nI w else nI (min U L + 1)) = nI V := by
      rw [nI_add, nI_min (by omega) (by omega), hV]
    refine ⟨tc_I (tc_I c (q + 10) (upd (c.1 (q + 10)) (i * 61 + j) (nI V))) (q + 12) (upd (c.1 (q + 12)) ((i - D.lf k1 + 1) * 61 + (j - E.lf k2 + 1)) (nI V)), ?_, ?_, fun a h1 h2 => ?_, rfl⟩
    · simp (maxSteps := 3000000) (disch := omega) only [Option.bind_some, tc_bs, tq_let, tc_I1, tc_I2, tc_J1, tc_J2, tc_J3, tc_F1, tc_F2, tc_F3, tc_F4, tc_G1, tc_G2, tc_G3, tc_G4, tc_G5, tc_us, tc_un, s_one, s_holds, s_J13_bitCount, bz_bI, f_X1_compareForests, hEd.f, x1, x2, x3, x4, x5, x6, v1, v2, v3, v5, v6, mn, nI_1, y1, y2, hv, s1, s2, if_true]
    · obtain ⟨t1, t2⟩ := fin1 (tc_I (tc_I c (q + 10) (upd (c.1 (q + 10)) (i * 61 + j) (nI V))) (q + 12) (upd (c.1 (q + 12)) ((i - D.lf k1 + 1) * 61 + (j - E.lf k2 + 1)) (nI V))) (by rw [tc_I1, tc_us])
      refine stp _ _ t1 t2 (fun _ => ?_) (fun a b ha hb hn => ?_)
      · show (tc_I _ _ _).1 (q + 10) _ = _
        rw [tc_I1, tc_un _ _ (by omega), tc_I1, tc_us, upd_s]
      · show (tc_I _ _ _).1 (q + 10) _ = _
        rw [tc_I1, tc_un _ _ (by omega), tc_I1, tc_us, upd_n _ _ (by omega)]
    · rw [tc_I1, tc_un _ _ h2, tc_I1, tc_un _ _ h1]
  · rw [if_neg q1] at hV
    have v7 : rg 3721 (c.1 (q + 10)) (nI (i * 61 + j)) = nI T := by
      rw [rg_in _ (by omega) (by decide)]; exact r5 q1
    have hv : (if nI X + nI T < nI (min U L + 1) then nI X + nI T else nI (min U L + 1)) = nI V := by
      rw [nI_add, nI_min (by omega) (by omega), hV]
    have run : f_X1_compareForests q (nI i) (nI (D.lf k1)) (nI j) (nI (E.lf k2)) (nI w) (tc_mk S c) = some (tc_mk S (tc_I c (q + 12) (upd (c.1 (q + 12)) ((i - D.lf k1 + 1) * 61 + (j - E.lf k2 + 1)) (nI V)))) := by
      by_cases z : D.lf i = D.lf k1
      · have y1 := iff1.mpr z
        have y2 : ¬ nI (E.lf j) = nI (E.lf k2) := fun y => q1 ⟨z, iff2.mp y⟩
        rw [y1] at v5
        rw [z] at x7 x8 v4
        simp (maxSteps := 3000000) (disch := omega) only [Option.bind_some, tc_bs, tq_let, tc_I1, tc_I2, tc_J1, tc_J2, tc_J3, tc_F1, tc_F2, tc_F3, tc_F4, tc_G1, tc_G2, tc_G3, tc_G4, tc_G5, tc_us, tc_un, s_one, s_holds, s_J13_bitCount, bz_bI, f_X1_compareForests, hEd.f, x1, x2, x3, x4, x5, x6, x7, x8, v1, v2, v4, v5, v6, v7, mn, nI_1, y2, hv, s1, if_true, if_false]
      · have y1 : ¬ nI (D.lf i) = nI (D.lf k1) := fun y => z (iff1.mp y)
        simp (maxSteps := 3000000) (disch := omega) only [Option.bind_some, tc_bs, tq_let, tc_I1, tc_I2, tc_J1, tc_J2, tc_J3, tc_F1, tc_F2, tc_F3, tc_F4, tc_G1, tc_G2, tc_G3, tc_G4, tc_G5, tc_us, tc_un, s_one, s_holds, s_J13_bitCount, bz_bI, f_X1_compareForests, hEd.f, x1, x2, x3, x4, x5, x6, x7, x8, v1, v2, v4, v5, v6, v7, mn, nI_1, y1, hv, s1, if_false]
    refine ⟨_, run, ?_, fun a h1 h2 => ?_, rfl⟩
    · obtain ⟨t1, t2⟩ := fin1 (tc_I c (q + 12) (upd (c.1 (q + 12)) ((i - D.lf k1 + 1) * 61 + (j - E.lf k2 + 1)) (nI V))) (by rw [tc_I1, tc_us])
      refine stp _ _ t1 t2 (fun z => absurd z q1) (fun a b ha hb hn => ?_)
      show (tc_I _ _ _).1 (q + 10) _ = _
      rw [tc_I1, tc_un _ _ (by omega)]
    · rw [tc_I1, tc_un _ _ h2]
end CPF
