/-! ===== the class compares two versions: what it lays out ===== -/
section CPL
variable {S : tq_H} {c c' : tc_C} {D E : Doc} {b q i j k n m r1 r2 a1 a2 : Nat} {f : Nat → Nat}
theorem nI_m1 {a : Nat} (h : 1 ≤ a) : nI a - 1 = nI (a - 1) := pk_sub h
theorem s_line (hT : tc_Tree S b) (hw : D.wf) (hL : Lay c b D) (h1 : tc_Row S r1 a1 60) (h2 : tc_Row S r2 a2 60) (h12 : a1 ≠ a2) (o1 : a1 < b ∨ b + 40 ≤ a1) (o2 : a2 < b ∨ b + 40 ≤ a2) :
    ∃ c', f_X1_line (b + 1) r1 r2 (tc_mk S c) = some (tc_mk S c') ∧ (∀ p, p < D.n → c'.1 a1 p = nI (D.ord (D.ip p)) ∧ c'.1 a2 p = nI (D.lf p)) ∧ (∀ a, a ≠ a1 → a ≠ a2 → c'.1 a = c.1 a) ∧ c'.2 = c.2 := by
  have hn := D.n_le hw
  obtain ⟨y, y1, y2, y3, y4⟩ := tc_run (B := f_X1_line_b2 (b + 1) r1 r2) D.n (fun j y => (nI j, tc_mk S y)) (fun j y => (∀ i, i < j → y.1 a1 (D.po i) = nI (D.ord i) ∧ y.1 a2 (D.po i) = nI (i - D.dep i)) ∧ (∀ a, a ≠ a1 → a ≠ a2 → y.1 a = c.1 a) ∧ y.2 = c.2) (fun y => tc_mk S y) (by omega) (fun j y hj hy => by
      obtain ⟨g1, g2, g3⟩ := hy
      have hLy : Lay y b D := hL.pt (fun a _ _ => g2 a (by omega) (by omega)) (fun a _ _ => by rw [g3]) (by rw [g3]) (by rw [g3]) (by rw [g3])
      have e1 : ¬ nI j ≥ nI D.n := nI_ge hj (by omega)
      have d1 := D.dep_le hw hj
      have d2 := D.en_gt hw hj
      have d3 := D.en_le hw hj
      have e2 := s_X3_depthAt (S := S) hT hw hLy hj
      have e2 : f_X3_depthAt (b + 1) (nI j) (tc_mk S y) = some (nI (D.dep j)) := e2
      have e3 : nI j - nI (D.dep j) + nI (D.en j - j) - 1 = nI (D.po j) := by
        rw [pk_sub d1, nI_add, nI_m1 (by omega)]; unfold Doc.po; congr 1; omega
      have e4 := D.po_lt hw hj
      have i3 : tq_is (tc_mk S y) (b + 1) 3 = some () := by simp (maxSteps := 3000000) (disch := omega) only [Option.bind_some, tc_bs, tq_let, tc_I1, tc_I2, tc_J1, tc_J2, tc_J3, tc_F1, tc_F2, tc_F3, tc_F4, tc_G1, tc_G2, tc_G3, tc_G4, tc_G5, tc_us, tc_un, s_one, s_holds, s_J13_bitCount, bz_bI, hT.f]
      refine ⟨_, by simp (maxSteps := 3000000) (disch := omega) only [Option.bind_some, tc_bs, tq_let, tc_I1, tc_I2, tc_J1, tc_J2, tc_J3, tc_F1, tc_F2, tc_F3, tc_F4, tc_G1, tc_G2, tc_G3, tc_G4, tc_G5, tc_us, tc_un, s_one, s_holds, s_J13_bitCount, bz_bI, f_X1_line_b2, i3, s_X3_count hT hLy, e1, e2, s_X3_sizeAt hT hw hLy hj, s_X3_nodeAt hT hw hLy hj, e3, h1.f, h2.f, if_false, nI_1]; rfl, fun v hv => ?_, fun a ha ha2 => ?_, ?_⟩
      · simp (maxSteps := 3000000) (disch := omega) only [Option.bind_some, tc_bs, tq_let, tc_I1, tc_I2, tc_J1, tc_J2, tc_J3, tc_F1, tc_F2, tc_F3, tc_F4, tc_G1, tc_G2, tc_G3, tc_G4, tc_G5, tc_us, tc_un, s_one, s_holds, s_J13_bitCount, bz_bI, rs_in _ _ (show D.po j < 60 by omega) (show 60 < 2 ^ 31 by decide), pk_sub d1]
        by_cases z : v = j
        · subst z
          exact ⟨upd_s _ _ _, upd_s _ _ _⟩
        · have z2 : ¬ D.po v = D.po j := fun w => z (D.po_inj hw (by omega) hj w)
          rw [upd_n _ _ z2, upd_n _ _ z2]
          exact g1 v (by omega)
      · rw [tc_I1, tc_un _ _ ha2, tc_I1, tc_un _ _ ha]; exact g2 a ha ha2
      · exact g3) (fun y hy => by
      obtain ⟨g1, g2, g3⟩ := hy
      have hLy : Lay y b D := hL.pt (fun a _ _ => g2 a (by omega) (by omega)) (fun a _ _ => by rw [g3]) (by rw [g3]) (by rw [g3]) (by rw [g3])
      have e1 : nI D.n ≥ nI D.n := Int32.le_refl _
      have i3 : tq_is (tc_mk S y) (b + 1) 3 = some () := by simp (maxSteps := 3000000) (disch := omega) only [Option.bind_some, tc_bs, tq_let, tc_I1, tc_I2, tc_J1, tc_J2, tc_J3, tc_F1, tc_F2, tc_F3, tc_F4, tc_G1, tc_G2, tc_G3, tc_G4, tc_G5, tc_us, tc_un, s_one, s_holds, s_J13_bitCount, bz_bI, hT.f]
      simp (maxSteps := 3000000) (disch := omega) only [Option.bind_some, tc_bs, tq_let, tc_I1, tc_I2, tc_J1, tc_J2, tc_J3, tc_F1, tc_F2, tc_F3, tc_F4, tc_G1, tc_G2, tc_G3, tc_G4, tc_G5, tc_us, tc_un, s_one, s_holds, s_J13_bitCount, bz_bI, f_X1_line_b2, i3, s_X3_count hT hLy, e1, if_true]) (x := c) ⟨fun i hi => absurd hi (Nat.not_lt_zero _), fun a _ _ => rfl, rfl⟩
  have y1 : tq_loop (f_X1_line_b2 (b + 1) r1 r2) tq_N ((0 : Int32), tc_mk S c) = some (tc_mk S y) := y1
  refine ⟨y, by simp (maxSteps := 3000000) (disch := omega) only [Option.bind_some, tc_bs, tq_let, tc_I1, tc_I2, tc_J1, tc_J2, tc_J3, tc_F1, tc_F2, tc_F3, tc_F4, tc_G1, tc_G2, tc_G3, tc_G4, tc_G5, tc_us, tc_un, s_one, s_holds, s_J13_bitCount, bz_bI, f_X1_line, y1], fun p hp => ?_, y3, y4⟩
  obtain ⟨w1, w2⟩ := D.ip_sp hw hp
  have := y2 _ w1
  rw [w2] at this
  exact this
theorem s_outermost (h1 : tc_Row S r1 a1 60) (hn : n ≤ 60) (hf : ∀ p, p < n → f p ≤ p ∧ c.1 a1 p = nI (f p)) : ∃ x, f_X1_outermost r1 (nI n) (tc_mk S c) = some x ∧ ∀ p, p < n → (tb x p = true ↔ zK n f p) := by
  have n0 : ¬ (0 : Int32) = 1 := by decide
  obtain ⟨y, y1, y2, y3⟩ := tc_run (B := f_X1_outermost_b10 r1 (tc_mk S c)) n (fun j (y : Int64 × Int64) => (y.1, y.2, nI (n - j) - 1)) (fun j y => (∀ p, p < n → (tb y.1 p = true ↔ (n - j ≤ p ∧ zK n f p))) ∧ ∀ v, v < 64 → (tb y.2 v = true ↔ ∃ p, n - j ≤ p ∧ p < n ∧ f p = v)) (fun y => y.1) (by omega) (fun j y hj hy => by
      obtain ⟨g1, g2⟩ := hy
      obtain ⟨p0, hp0⟩ : ∃ p0, p0 = n - j - 1 := ⟨_, rfl⟩
      have hp : p0 < n := by omega
      obtain ⟨f1, f2⟩ := hf p0 hp
      have e0 : nI (n - j) - 1 = nI p0 := by rw [nI_m1 (by omega), hp0]
      have e1 : ¬ nI p0 < 0 := nI_pos (by omega)
      have e2 : nI p0 + -1 = nI (n - (j + 1)) - 1 := by
        rw [show n - (j + 1) = p0 by omega]; exact (Int32.sub_eq_add_neg _ _).symm
      have e3 : f_X5_get r1 (nI p0) (tc_mk S c) = some (nI (f p0)) := by rw [h1.f.2.1, rg_in _ (by omega) (by decide), f2]
      have e4 : f_X0_holds y.2 (nI (f p0)) (tc_mk S c) = some (bI (tb y.2 (f p0))) := s_X0_holds _ (by omega) _
      have i5 := h1.f.1 c
      have kp : zK n f p0 ↔ tb y.2 (f p0) = false := by
        constructor
        · intro z
          cases w : tb y.2 (f p0) with
          | false => rfl
          | true =>
            obtain ⟨p, p1, p2, p3⟩ := (g2 _ (by omega)).mp w
            exact absurd p3 (z p (by omega) p2)
        · intro z p p1 p2 p3
          rw [(g2 (f p0) (by omega)).mpr ⟨p, by omega, p2, p3⟩] at z
          cases z
      have s2 : ∀ v, v < 64 → (tb (y.2 ||| b1 (f p0)) v = true ↔ ∃ p, n - (j + 1) ≤ p ∧ p < n ∧ f p = v) := fun v hv => by
        rw [tb_or, Bool.or_eq_true, g2 v hv, tb_b1, Bool.and_eq_true, decide_eq_true_eq, decide_eq_true_eq]
        constructor
        · rintro (⟨p, p1, p2, p3⟩ | ⟨-, z⟩)
          · exact ⟨p, by omega, p2, p3⟩
          · exact ⟨p0, by omega, hp, z.symm⟩
        · rintro ⟨p, p1, p2, p3⟩
          by_cases w : p = p0
          · subst w; exact .inr ⟨hv, p3.symm⟩
          · exact .inl ⟨p, by omega, p2, p3⟩
      cases w : tb y.2 (f p0) with
      | false =>
        refine ⟨(y.1 ||| b1 p0, y.2 ||| b1 (f p0)), ?_, fun p hp' => ?_, s2⟩
        · have o1 := s_X0_one (m := p0) (by omega) (tc_mk S c)
          have o2 := s_X0_one (m := f p0) (by omega) (tc_mk S c)
          have b0 : bI false = 0 := rfl
          simp only [f_X1_outermost_b10, e0, e1, if_false, i5, Option.bind_some, e3, e4, w, b0, if_true, o1, o2, tq_let, e2]
        · show tb (y.1 ||| b1 p0) p = true ↔ _
          rw [tb_or, Bool.or_eq_true, g1 p hp', tb_b1, Bool.and_eq_true, decide_eq_true_eq, decide_eq_true_eq]
          constructor
          · rintro (⟨z1, z2⟩ | ⟨-, z⟩)
            · exact ⟨by omega, z2⟩
            · subst z; exact ⟨by omega, kp.mpr w⟩
          · rintro ⟨z1, z2⟩
            by_cases z : p = p0
            · exact .inr ⟨by omega, z⟩
            · exact .inl ⟨by omega, z2⟩
      | true =>
        refine ⟨(y.1, y.2 ||| b1 (f p0)), ?_, fun p hp' => ?_, s2⟩
        · have o2 := s_X0_one (m := f p0) (by omega) (tc_mk S c)
          have b0 : ¬ bI true = 0 := by decide
          simp only [f_X1_outermost_b10, e0, e1, if_false, i5, Option.bind_some, e3, e4, w, b0, o2, tq_let, e2]
        · show tb y.1 p = true ↔ _
          rw [g1 p hp']
          constructor
          · rintro ⟨z1, z2⟩; exact ⟨by omega, z2⟩
          · rintro ⟨z1, z2⟩
            by_cases z : p = p0
            · subst z; rw [kp, w] at z2; cases z2
            · exact ⟨by omega, z2⟩) (fun y hy => by
      have e1 : nI (n - n) - 1 < 0 := by rw [Nat.sub_self]; decide
      simp only [f_X1_outermost_b10, e1, if_true]) (x := ((0 : Int64), (0 : Int64))) ⟨fun p hp => by rw [tb_0]; constructor <;> intro z; cases z; omega, fun v hv => by rw [tb_0]; constructor; intro z; cases z; intro ⟨p, p1, p2, p3⟩; omega⟩
  have y1 : tq_loop (f_X1_outermost_b10 r1 (tc_mk S c)) tq_N ((0 : Int64), (0 : Int64), nI n - 1) = some y.1 := y1
  refine ⟨y.1, ?_, fun p hp => ?_⟩
  · unfold f_X1_outermost
    rw [tq_let, y1, Option.bind_some]
  · rw [y2 p hp]
    exact ⟨fun z => z.2, fun z => ⟨by omega, z⟩⟩
end CPL
