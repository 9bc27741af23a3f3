/-! ===== another tree becomes the tree: both sides, with the views ===== -/
abbrev t1w (a : Nat) : Prop := (1 ≤ a ∧ a ≤ 40) ∨ (117 ≤ a ∧ a ≤ 123) ∨ a = 152
abbrev t2w (a : Nat) : Prop := (1 ≤ a ∧ a ≤ 40) ∨ (117 ≤ a ∧ a ≤ 123) ∨ a = 154
abbrev t3w (q k : Nat) : Prop := (1 ≤ q ∧ q ≤ 40) ∨ (117 ≤ q ∧ q ≤ 123) ∨ (q = 0 ∧ k = 18)
abbrev t4w (q _k : Nat) : Prop := (1 ≤ q ∧ q ≤ 40) ∨ (117 ≤ q ∧ q ≤ 123)
abbrev l1w (a : Nat) : Prop := a = 182 ∨ a = 192
abbrev l2w (a : Nat) : Prop := a = 179 ∨ a = 180 ∨ a = 193
abbrev l3w (_q _k : Nat) : Prop := False
abbrev l4w (q _k : Nat) : Prop := q = 155
/-- what a view keeps -/
def Doc.V (D : Doc) (P : Pat) (p : Nat) : Int64 := mkS (D.nodesOf (D.fnd P D.al p 0))
section SET
variable {S : tq_H} {c c' c1 c2 : tc_C} {D E : Doc} {m M : Nat} {P : Pat} {nw : Nat} {ed : Option Nat} {p q r k b i n z : Nat}
theorem Wr.kp {w1 w2 : Nat → Prop} {w3 w4 : Nat → Nat → Prop} {lo hi : Nat} (h : Kp lo hi c c') (d1 : ∀ a, lo ≤ a → a < hi → w1 a) (d2 : ∀ a, lo ≤ a → a < hi → w2 a) (d3 : ∀ a k, lo ≤ a → a < hi → w3 a k) (d4 : ∀ a k, lo ≤ a → a < hi → w4 a k) : Wr w1 w2 w3 w4 c c' := by
  obtain ⟨h1, h2, h3, h4, h5⟩ := h
  refine ⟨fun a ha => h1 a ?_, fun a ha => h2 a ?_, fun q k hq => congrFun (h3 q ?_) k, fun q k hq => congrFun (h4 q ?_) k, h5⟩
  · rcases Nat.lt_or_ge a lo with w | w
    · exact .inl w
    · rcases Nat.lt_or_ge a hi with v | v
      · exact absurd (d1 a w v) ha
      · exact .inr v
  · rcases Nat.lt_or_ge a lo with w | w
    · exact .inl w
    · rcases Nat.lt_or_ge a hi with v | v
      · exact absurd (d2 a w v) ha
      · exact .inr v
  · rcases Nat.lt_or_ge q lo with w | w
    · exact .inl w
    · rcases Nat.lt_or_ge q hi with v | v
      · exact absurd (d3 q k w v) hq
      · exact .inr v
  · rcases Nat.lt_or_ge q lo with w | w
    · exact .inl w
    · rcases Nat.lt_or_ge q hi with v | v
      · exact absurd (d4 q k w v) hq
      · exact .inr v
theorem s_viewedNodes (hT : tc_Tree S 1) (hq : tc_Tq S ed) (hf : tc_Fnd S 117) (hw : D.wf) (hF : FT c 117 D P D.al r) (hr : r ≤ 20) (hk : k < 5) (hv : c.1 150 k = nI p) (hp : p < r) : f_X10_viewedNodes 0 (nI k) (tc_mk S c) = some (D.V P p) := by
  have i117 : tq_is (tc_mk S c) 117 2 = some () := by simp (maxSteps := 3000000) (disch := omega) only [Option.bind_some, tc_bs, tq_let, tc_I1, tc_I2, tc_J1, tc_J2, tc_J3, tc_F1, tc_F2, tc_F3, tc_F4, tc_G1, tc_G2, tc_G3, tc_G4, tc_G5, tc_us, tc_un, s_one, s_holds, s_J13_bitCount, bz_bI, hf.f]
  have f1 : f_X2_foundFrom 117 (nI p) 0 (tc_mk S c) = some (mkS (D.fnd P D.al p 0)) := s_X2_foundFrom (S := S) hf hw hF hp hr (D.n_pos hw)
  have f2 : f_X3_nodesOf 2 (mkS (D.fnd P D.al p 0)) (tc_mk S c) = _ := s_X3_nodesOf (S := S) hT hw hF.1.1 (D.fnd P D.al p 0)
  have e : mkS (D.nodesOf (D.fnd P D.al p 0)) = D.V P p := rfl
  simp (maxSteps := 3000000) (disch := omega) only [Option.bind_some, tc_bs, tq_let, tc_I1, tc_I2, tc_J1, tc_J2, tc_J3, tc_F1, tc_F2, tc_F3, tc_F4, tc_G1, tc_G2, tc_G3, tc_G4, tc_G5, tc_us, tc_un, s_one, s_holds, s_J13_bitCount, bz_bI, f_X10_viewedNodes, hq.f, hT.f, hT.is, rg_in (c.1 150) hk (show 5 < 2 ^ 31 by decide), hv, i117, f1, f2, e]
/-- a place of the views' sets, or of their changes, is filled -/
theorem FT.J {a : Nat} (f : Nat → Int64) (h : FT c 117 D P D.al r) (ha : a = 154) : FT (tc_J c a f) 117 D P D.al r := by
  obtain ⟨⟨f1, f2, f3, f4⟩, f5, f6⟩ := h
  exact ⟨⟨f1.pt (fun _ _ _ => rfl) (fun x _ _ => by rw [tc_J2, tc_un _ _ (by omega)]) rfl rfl rfl, f2, f3, f4⟩, f5, fun p i hp hi => by rw [tc_J2, tc_un _ _ (by omega)]; exact f6 p i hp hi⟩
theorem PC.w1 (h : PC c 98 P) (e1 : ∀ x, 99 ≤ x → x ≤ 116 → c'.1 x = c.1 x) (e2 : c'.2.2.1 98 9 = c.2.2.1 98 9) : PC c' 98 P := by
  unfold PC at h ⊢
  rw [e2, e1 (98 + 2) (by omega) (by omega), e1 (98 + 4) (by omega) (by omega), e1 (98 + 6) (by omega) (by omega), e1 (98 + 8) (by omega) (by omega), e1 (98 + 10) (by omega) (by omega), e1 (98 + 12) (by omega) (by omega), e1 (98 + 14) (by omega) (by omega), e1 (98 + 16) (by omega) (by omega), e1 (98 + 18) (by omega) (by omega)]
  exact h
theorem FT.I {a : Nat} (f : Nat → Int32) (h : FT c 117 D P D.al r) (ha : a = 152) : FT (tc_I c a f) 117 D P D.al r := by
  obtain ⟨⟨f1, f2, f3, f4⟩, f5, f6⟩ := h
  exact ⟨⟨f1.pt (fun x _ _ => by rw [tc_I1, tc_un _ _ (by omega)]) (fun _ _ _ => rfl) rfl rfl rfl, f2.w1 (fun x _ _ => by rw [tc_I1, tc_un _ _ (by omega)]) rfl, f3, fun i hi => by rw [tc_I1, tc_un _ _ (by omega)]; exact f4 i hi⟩, f5, f6⟩
theorem settle_1 (hT : tc_Tree S 1) (hq : tc_Tq S ed) (hf : tc_Fnd S 117) (hPs : tc_Pth S 98) (hw : D.wf) (hP : P.wf) (hF : FT c 117 D P D.al r) (hr : r ≤ P.n) (h13 : c.2.2.1 0 13 = nI nw) (hn : nw ≤ 5) (pv : Nat → Nat) (hpv : ∀ k, k < nw → pv k < P.n ∧ c.1 150 k = nI (pv k)) :
    ∃ c', tq_loop (f_X10_settle_b2 0) tq_N ((0 : Int32), tc_mk S c) = some (tc_mk S c') ∧ (∃ r, r ≤ P.n ∧ FT c' 117 D P D.al r) ∧ (∀ k, k < nw → c'.2.1 154 k = D.V P (pv k)) ∧ Wr t1w t2w t3w t4w c c' ∧ (∀ a, a < 117 ∨ 123 < a → c'.1 a = c.1 a) := by
  have h20 := hP.1
  obtain ⟨y, y1, y2, y3, y4, y5⟩ := tc_run (B := f_X10_settle_b2 0) nw (fun k y => (nI k, tc_mk S y))
    (fun k y => (∃ r, r ≤ P.n ∧ FT y 117 D P D.al r) ∧ (∀ j, j < k → y.2.1 154 j = D.V P (pv j)) ∧ Wr t1w t2w t3w t4w c y ∧ (∀ a, a < 117 ∨ 123 < a → y.1 a = c.1 a)) (fun y => tc_mk S y) (by omega) (fun k y hk hy => by
      obtain ⟨⟨r, r1, g1⟩, g2, g3, g4⟩ := hy
      obtain ⟨p1, p2⟩ := hpv k hk
      have e0 : ¬ nI k ≥ nI nw := nI_ge hk (by omega)
      have e1 : y.2.2.1 0 13 = nI nw := by rw [g3.2.2.1 0 13 (by omega)]; exact h13
      have e2 : y.1 150 k = nI (pv k) := by rw [g4 150 (by omega)]; exact p2
      have hk5 : k < 5 := by omega
      have i117 : ∀ c, tq_is (tc_mk S c) 117 2 = some () := fun c => by simp (maxSteps := 3000000) (disch := omega) only [Option.bind_some, tc_bs, tq_let, tc_I1, tc_I2, tc_J1, tc_J2, tc_J3, tc_F1, tc_F2, tc_F3, tc_F4, tc_G1, tc_G2, tc_G3, tc_G4, tc_G5, tc_us, tc_un, s_one, s_holds, s_J13_bitCount, bz_bI, hf.f]
      obtain ⟨d, u1, u2, u3⟩ := s_X2_prepare (S := S) hf (Nat.le_refl 117) hT hPs hw g1 r1 hP (fun j h => D.al_in h) p1
      have e3 : d.1 150 k = nI (pv k) := by rw [u3.1 150 (by omega)]; exact e2
      have f1 := s_viewedNodes (S := S) hT hq hf hw u2 (by omega) hk5 e3 (show pv k < max r (pv k + 1) by omega)
      have k1 : Wr t1w t2w t3w t4w y d := Wr.kp u3 (fun a _ _ => by omega) (fun a _ _ => by omega) (fun a _ _ _ => by omega) (fun a _ _ _ => by omega)
      refine ⟨tc_J d 154 (vp_updL (d.2.1 154) k (D.V P (pv k))), ?_, ⟨max r (pv k + 1), by omega, u2.J _ rfl⟩, fun j hj => ?_, (g3.trans k1).trans (Wr.J _ (by omega)), fun a ha => ?_⟩
      · simp (maxSteps := 3000000) (disch := omega) only [Option.bind_some, tc_bs, tq_let, tc_I1, tc_I2, tc_J1, tc_J2, tc_J3, tc_F1, tc_F2, tc_F3, tc_F4, tc_G1, tc_G2, tc_G3, tc_G4, tc_G5, tc_us, tc_un, s_one, s_holds, s_J13_bitCount, bz_bI, f_X10_settle_b2, hq.f, e1, e0, rg_in (y.1 150) hk5 (show 5 < 2 ^ 31 by decide), e2, i117, u1, f1, ss_in (d.2.1 154) (D.V P (pv k)) hk5 (show 5 < 2 ^ 31 by decide), nI_1, if_false]
      · rw [tc_J2, tc_us]
        by_cases e : j = k
        · subst e; rw [updL_s]
        · show (if j = k then _ else _) = _
          rw [if_neg e, u3.2.1 154 (by omega)]; exact g2 j (by omega)
      · show d.1 a = c.1 a
        rw [u3.1 a (by omega), g4 a ha]) (fun y hy => by
      have e0 : nI nw ≥ nI nw := Int32.le_refl _
      have e1 : y.2.2.1 0 13 = nI nw := by rw [hy.2.2.1.2.2.1 0 13 (by omega)]; exact h13
      simp (maxSteps := 3000000) (disch := omega) only [Option.bind_some, tc_bs, tq_let, tc_I1, tc_I2, tc_J1, tc_J2, tc_J3, tc_F1, tc_F2, tc_F3, tc_F4, tc_G1, tc_G2, tc_G3, tc_G4, tc_G5, tc_us, tc_un, s_one, s_holds, s_J13_bitCount, bz_bI, f_X10_settle_b2, hq.f, e1, e0, if_true]) (x := c) ⟨⟨r, hr, hF⟩, fun j hj => absurd hj (Nat.not_lt_zero _), Wr.refl c, fun _ _ => rfl⟩
  exact ⟨y, y1, y2, y3, y4, y5⟩
theorem settle_2 (hT : tc_Tree S 1) (hq : tc_Tq S ed) (hf : tc_Fnd S 117) (hPs : tc_Pth S 98) (hw : E.wf) (hP : P.wf) (hF : FT c 117 E P E.al r) (hr : r ≤ P.n) (h13 : c.2.2.1 0 13 = nI nw) (hn : nw ≤ 5) (pv : Nat → Nat) (hpv : ∀ k, k < nw → pv k < P.n ∧ c.1 150 k = nI (pv k)) (hs : ∀ k, k < nw → c.2.1 154 k = D.V P (pv k)) :
    ∃ c', tq_loop (f_X10_settle_b79 0) tq_N ((0 : Int32), tc_mk S c) = some (tc_mk S c') ∧ (∃ r, r ≤ P.n ∧ FT c' 117 E P E.al r) ∧ (∀ k, k < nw → c'.1 152 k = nI (fb_ct (tb (D.V P (pv k) ^^^ E.V P (pv k))) 64)) ∧ Wr t1w t2w t3w t4w c c' ∧ (∀ a, a < 117 → c'.1 a = c.1 a) ∧ Kp 117 153 c c' := by
  have h20 := hP.1
  obtain ⟨y, y1, y2, y3, y4, y5, y6, y7⟩ := tc_run (B := f_X10_settle_b79 0) nw (fun k y => (nI k, tc_mk S y))
    (fun k y => (∃ r, r ≤ P.n ∧ FT y 117 E P E.al r) ∧ (∀ j, j < k → y.1 152 j = nI (fb_ct (tb (D.V P (pv j) ^^^ E.V P (pv j))) 64)) ∧ Wr t1w t2w t3w t4w c y ∧ (∀ a, a < 117 → y.1 a = c.1 a) ∧ Kp 117 153 c y ∧ y.2.1 154 = c.2.1 154) (fun y => tc_mk S y) (by omega) (fun k y hk hy => by
      obtain ⟨⟨r, r1, g1⟩, g2, g3, g4, g5, g6⟩ := hy
      obtain ⟨p1, p2⟩ := hpv k hk
      have e0 : ¬ nI k ≥ nI nw := nI_ge hk (by omega)
      have e1 : y.2.2.1 0 13 = nI nw := by rw [g3.2.2.1 0 13 (by omega)]; exact h13
      have e2 : y.1 150 k = nI (pv k) := by rw [g3.1 150 (by omega)]; exact p2
      have hk5 : k < 5 := by omega
      have i117 : ∀ c, tq_is (tc_mk S c) 117 2 = some () := fun c => by simp (maxSteps := 3000000) (disch := omega) only [Option.bind_some, tc_bs, tq_let, tc_I1, tc_I2, tc_J1, tc_J2, tc_J3, tc_F1, tc_F2, tc_F3, tc_F4, tc_G1, tc_G2, tc_G3, tc_G4, tc_G5, tc_us, tc_un, s_one, s_holds, s_J13_bitCount, bz_bI, hf.f]
      obtain ⟨d, u1, u2, u3⟩ := s_X2_prepare (S := S) hf (Nat.le_refl 117) hT hPs hw g1 r1 hP (fun j h => E.al_in h) p1
      have e3 : d.1 150 k = nI (pv k) := by rw [u3.1 150 (by omega)]; exact e2
      have f1 := s_viewedNodes (S := S) hT hq hf hw u2 (by omega) hk5 e3 (show pv k < max r (pv k + 1) by omega)
      have e4 : d.2.1 154 k = D.V P (pv k) := by rw [u3.2.1 154 (by omega), g6]; exact hs k hk
      have k1 : Wr t1w t2w t3w t4w y d := Wr.kp u3 (fun a _ _ => by omega) (fun a _ _ => by omega) (fun a _ _ _ => by omega) (fun a _ _ _ => by omega)
      refine ⟨tc_I d 152 (upd (d.1 152) k (nI (fb_ct (tb (D.V P (pv k) ^^^ E.V P (pv k))) 64))), ?_, ⟨max r (pv k + 1), by omega, u2.I _ rfl⟩, fun j hj => ?_, (g3.trans k1).trans (Wr.I _ (by omega)), fun a ha => ?_, (g5.trans (u3.mono (by omega) (by omega))).trans (Kp.I _ (by omega) (by omega)), ?_⟩
      · simp (maxSteps := 3000000) (disch := omega) only [Option.bind_some, tc_bs, tq_let, tc_I1, tc_I2, tc_J1, tc_J2, tc_J3, tc_F1, tc_F2, tc_F3, tc_F4, tc_G1, tc_G2, tc_G3, tc_G4, tc_G5, tc_us, tc_un, s_one, s_holds, s_J13_bitCount, bz_bI, f_X10_settle_b79, hq.f, e1, e0, rg_in (y.1 150) hk5 (show 5 < 2 ^ 31 by decide), e2, i117, u1, f1, sg_in (d.2.1 154) hk5 (show 5 < 2 ^ 31 by decide), e4, rs_in (d.1 152) (nI (fb_ct (tb (D.V P (pv k) ^^^ E.V P (pv k))) 64)) hk5 (show 5 < 2 ^ 31 by decide), nI_1, if_false]
      · rw [tc_I1, tc_us]
        by_cases e : j = k
        · subst e; rw [upd_s]
        · rw [upd_n _ _ e, u3.1 152 (by omega)]; exact g2 j (by omega)
      · rw [tc_I1, tc_un _ _ (by omega), u3.1 a (by omega), g4 a ha]
      · show d.2.1 154 = _
        rw [u3.2.1 154 (by omega), g6]) (fun y hy => by
      have e0 : nI nw ≥ nI nw := Int32.le_refl _
      have e1 : y.2.2.1 0 13 = nI nw := by rw [hy.2.2.1.2.2.1 0 13 (by omega)]; exact h13
      simp (maxSteps := 3000000) (disch := omega) only [Option.bind_some, tc_bs, tq_let, tc_I1, tc_I2, tc_J1, tc_J2, tc_J3, tc_F1, tc_F2, tc_F3, tc_F4, tc_G1, tc_G2, tc_G3, tc_G4, tc_G5, tc_us, tc_un, s_one, s_holds, s_J13_bitCount, bz_bI, f_X10_settle_b79, hq.f, e1, e0, if_true]) (x := c) ⟨⟨r, hr, hF⟩, fun j hj => absurd hj (Nat.not_lt_zero _), Wr.refl c, fun _ _ => rfl, Kp.refl 117 153 c, rfl⟩
  exact ⟨y, y1, y2, y3, y4, y5, y6⟩
theorem s_settle (hT : tc_Tree S 1) (hT2 : tc_Tree S 41) (hq : tc_Tq S ed) (hf : tc_Fnd S 117) (hPs : tc_Pth S 98) (hw : D.wf) (hwE : E.wf) (hP : P.wf) (hF : FT c 117 D P D.al r) (hr : r ≤ P.n) (h13 : c.2.2.1 0 13 = nI nw) (hn : nw ≤ 5) (pv : Nat → Nat) (hpv : ∀ k, k < nw → pv k < P.n ∧ c.1 150 k = nI (pv k)) (hN : Nod c 41 E M) :
    ∃ c', f_X10_settle 0 (tc_mk S c) = some (tc_mk S c') ∧ Lay c' 1 E ∧ Nod c' 1 E M ∧ (∀ v, v < 60 → c'.1 34 v = c.1 74 v) ∧ (∃ r, r ≤ P.n ∧ FT c' 117 E P E.al r) ∧ c'.2.2.1 0 18 = 1 ∧ (∀ k, k < nw → c'.1 152 k = nI (fb_ct (tb (D.V P (pv k) ^^^ E.V P (pv k))) 64)) ∧ Wr t1w t2w t3w t4w c c' := by
  have h20 := hP.1
  obtain ⟨c1, a1, -, a3, a4, a5⟩ := settle_1 (nw := nw) hT hq hf hPs hw hP hF hr h13 hn pv hpv
  have hN1 : Nod c1 41 E M := hN.pt (fun x _ _ => a5 x (by omega)) (a4.2.2.1 41 10 (by omega))
  obtain ⟨c2, b1, b2, b3, b4, b5⟩ := s_X8_copy (S := S) hT hT2 (.inl (by omega)) hwE hN1
  have kc : Wr t1w t2w t3w t4w c1 c2 := Wr.kp b2.kp (fun a _ _ => by omega) (fun a _ _ => by omega) (fun a _ _ _ => by omega) (fun a _ _ _ => by omega)
  have hPC1 : PC c1 98 P := hF.1.2.1.w1 (fun x _ _ => a5 x (by omega)) (a4.2.2.1 98 9 (by omega))
  have hPC2 : PC c2 98 P := hPC1.w1 (fun x _ _ => b2.1 x (by omega)) (by rw [b2.2.2.1 98 (by omega)])
  obtain ⟨c3, d1, d2, d3⟩ := s_X2_start (S := S) hf (Nat.le_refl 117) hT hwE b3 b4 hPC2 E.al
  have ke : Wr t1w t2w t3w t4w c2 c3 := Wr.kp d3 (fun a _ _ => by omega) (fun a _ _ => by omega) (fun a _ _ _ => by omega) (fun a _ _ _ => by omega)
  have ev : f_X3_everything 2 (tc_mk S c2) = some (mkS E.al) := s_X3_everything (S := S) hT hwE b3
  have hF4 : FT (tc_F c3 0 18 1) 117 E P E.al 0 := by
    obtain ⟨⟨f1, f2, f3, f4⟩, f5, f6⟩ := d2
    exact ⟨⟨f1, f2, f3, f4⟩, f5, f6⟩
  have k4 : Wr t1w t2w t3w t4w c (tc_F c3 0 18 1) := ((a4.trans kc).trans ke).trans (Wr.F _ (by omega))
  have e150 : (tc_F c3 0 18 1).1 150 = c.1 150 := k4.1 150 (by omega)
  have e154 : (tc_F c3 0 18 1).2.1 154 = c1.2.1 154 := by
    show c3.2.1 154 = _
    rw [d3.2.1 154 (by omega), b2.2.1 154 (by omega)]
  have e13 : (tc_F c3 0 18 1).2.2.1 0 13 = nI nw := by rw [k4.2.2.1 0 13 (by omega)]; exact h13
  obtain ⟨c5, g1, g2, g3, g4, g5, g6⟩ := settle_2 (D := D) (nw := nw) hT hq hf hPs hwE hP hF4 (Nat.zero_le _) e13 hn pv (fun k hk => by rw [e150]; exact hpv k hk) (fun k hk => by rw [e154]; exact a3 k hk)
  have i117 : ∀ c, tq_is (tc_mk S c) 117 2 = some () := fun c => by simp (maxSteps := 3000000) (disch := omega) only [Option.bind_some, tc_bs, tq_let, tc_I1, tc_I2, tc_J1, tc_J2, tc_J3, tc_F1, tc_F2, tc_F3, tc_F4, tc_G1, tc_G2, tc_G3, tc_G4, tc_G5, tc_us, tc_un, s_one, s_holds, s_J13_bitCount, bz_bI, hf.f]
  refine ⟨c5, ?_, ?_, ?_, fun v hv => ?_, g2, ?_, g3, k4.trans g4⟩
  · simp (maxSteps := 3000000) (disch := omega) only [Option.bind_some, tc_bs, tq_let, tc_I1, tc_I2, tc_J1, tc_J2, tc_J3, tc_F1, tc_F2, tc_F3, tc_F4, tc_G1, tc_G2, tc_G3, tc_G4, tc_G5, tc_us, tc_un, s_one, s_holds, s_J13_bitCount, bz_bI, f_X10_settle, a1, hq.f, hT.f, hT.is, b1, ev, i117, d1, g1]
  · exact Lay.kp (c := tc_F c3 0 18 1) d2.1.1 g6 (by omega)
  · have : Nod (tc_F c3 0 18 1) 1 E M := (b4.kp d3 (by omega)).pt (fun _ _ _ => rfl) rfl
    exact Nod.kp (c := tc_F c3 0 18 1) this g6 (by omega)
  · rw [g5 34 (by omega)]
    show c3.1 34 v = _
    rw [d3.1 34 (by omega), b5 v hv, a5 74 (by omega)]
  · rw [g6.2.2.1 0 (by omega), tc_F3, tc_us, tc_us]
/-- the reference looks at its views -/
theorem s_lookAtViews (hM : tc_Mod S z) (hw : E.wf) (hR : RTree c E M) (hO : ROrd c E) (hC : PR c P) (hP : P.wf) (h45 : c.2.2.1 155 45 = nI nw) (hn : nw ≤ 5) (pv : Nat → Nat) (hpv : ∀ k, k < nw → pv k < P.n ∧ c.1 191 k = nI (pv k)) (hs : ∀ k, k < nw → c.2.1 193 k = D.V P (pv k)) :
    ∃ c', f_X11_lookAtViews 155 (tc_mk S c) = some (tc_mk S c') ∧ (∀ k, k < nw → c'.1 192 k = nI (fb_ct (tb (D.V P (pv k) ^^^ E.V P (pv k))) 64) ∧ c'.2.1 193 k = E.V P (pv k)) ∧ Wr l1w l2w l3w l4w c c' := by
  have h20 := hP.1
  have f1 := s_X11_all (S := S) (c := c) hM hw hO
  have f1 : f_X11_all 155 (tc_mk S c) = some (mkS (E.nodesOf E.al)) := by
    rw [f1]; congr 2; exact Doc.nodesOf_cong fun i hi => (decide_eq_true hi).symm
  obtain ⟨d, f2, kd, -, f3⟩ := s_X11_findAll (S := S) (Q := E.al) hM hw hR hO hC hP (fun j h => E.al_in h)
  have k0 : Wr l1w l2w l3w l4w c d := ⟨fun a ha => kd.1 a (by omega), fun a ha => kd.2.1 a (by omega), fun q k _ => by rw [kd.2.2.1], fun q k hq => by rw [kd.2.2.2.1 q (by omega)], kd.2.2.2.2⟩
  obtain ⟨y, y1, y2, y3, y4⟩ := tc_run (B := f_X11_lookAtViews_b10 155) nw (fun k y => (nI k, tc_mk S y))
    (fun k y => (∀ j, j < k → y.1 192 j = nI (fb_ct (tb (D.V P (pv j) ^^^ E.V P (pv j))) 64) ∧ y.2.1 193 j = E.V P (pv j)) ∧ (∀ j, k ≤ j → j < nw → y.2.1 193 j = D.V P (pv j)) ∧ Wr l1w l2w l3w l4w c y ∧ y.2.1 179 = d.2.1 179) (fun y => tc_mk S y) (by omega) (fun k y hk hy => by
      obtain ⟨g1, g2, g3, g4⟩ := hy
      obtain ⟨p1, p2⟩ := hpv k hk
      have e0 : ¬ nI k ≥ nI nw := nI_ge hk (by omega)
      have e1 : y.2.2.1 155 45 = nI nw := by rw [g3.2.2.1 155 45 (fun z => z)]; exact h45
      have e2 : y.1 191 k = nI (pv k) := by rw [g3.1 191 (by omega)]; exact p2
      have hk5 : k < 5 := by omega
      have m1 : (60 : Int32) * nI (pv k) = nI (60 * pv k) := nI_mul 60 _
      have hl : 60 * pv k < 1200 := by omega
      have e3 : y.2.1 179 (60 * pv k) = E.V P (pv k) := by
        have := f3 (pv k) 0 p1 (E.n_pos hw)
        rw [E.ord_0 hw, Nat.add_zero] at this
        rw [g4]; exact this
      have e4 : y.2.1 193 k = D.V P (pv k) := g2 k (Nat.le_refl _) hk
      have e5 : E.V P (pv k) ^^^ D.V P (pv k) = D.V P (pv k) ^^^ E.V P (pv k) := by unfold Doc.V; rw [mkS_xor, mkS_xor]; exact mkS_cong fun j _ => Bool.xor_comm _ _
      refine ⟨tc_J (tc_I y 192 (upd (y.1 192) k (nI (fb_ct (tb (D.V P (pv k) ^^^ E.V P (pv k))) 64)))) 193 (vp_updL (y.2.1 193) k (E.V P (pv k))), ?_, fun j hj => ?_, fun j hj hj2 => ?_, (g3.trans (Wr.I _ (by omega))).trans (Wr.J _ (by omega)), ?_⟩
      · simp (maxSteps := 3000000) (disch := omega) only [Option.bind_some, tc_bs, tq_let, tc_I1, tc_I2, tc_J1, tc_J2, tc_J3, tc_F1, tc_F2, tc_F3, tc_F4, tc_G1, tc_G2, tc_G3, tc_G4, tc_G5, tc_us, tc_un, s_one, s_holds, s_J13_bitCount, bz_bI, f_X11_lookAtViews_b10, hM.f, e1, e0, e2, m1, e3, e4, s_X11_bits, e5, nI_1, if_false]
      · by_cases e : j = k
        · subst e
          exact ⟨by show upd _ j _ j = _; rw [upd_s], by rw [tc_J2, tc_us, updL_s]⟩
        · refine ⟨?_, ?_⟩
          · show upd (y.1 192) k _ j = _
            rw [upd_n _ _ e]; exact (g1 j (by omega)).1
          · rw [tc_J2, tc_us]
            show (if j = k then _ else _) = _
            rw [if_neg e]; exact (g1 j (by omega)).2
      · rw [tc_J2, tc_us]
        show (if j = k then _ else _) = _
        rw [if_neg (by omega)]; exact g2 j (by omega) hj2
      · exact g4) (fun y hy => by
      have e0 : nI nw ≥ nI nw := Int32.le_refl _
      have e1 : y.2.2.1 155 45 = nI nw := by rw [hy.2.2.1.2.2.1 155 45 (fun z => z)]; exact h45
      simp (maxSteps := 3000000) (disch := omega) only [Option.bind_some, tc_bs, tq_let, tc_I1, tc_I2, tc_J1, tc_J2, tc_J3, tc_F1, tc_F2, tc_F3, tc_F4, tc_G1, tc_G2, tc_G3, tc_G4, tc_G5, tc_us, tc_un, s_one, s_holds, s_J13_bitCount, bz_bI, f_X11_lookAtViews_b10, hM.f, e1, e0, if_true]) (x := d) ⟨fun j hj => absurd hj (Nat.not_lt_zero _), fun j _ hj => by rw [kd.2.1 193 (by omega)]; exact hs j hj, k0, rfl⟩
  exact ⟨y, by simp (maxSteps := 3000000) (disch := omega) only [Option.bind_some, tc_bs, tq_let, tc_I1, tc_I2, tc_J1, tc_J2, tc_J3, tc_F1, tc_F2, tc_F3, tc_F4, tc_G1, tc_G2, tc_G3, tc_G4, tc_G5, tc_us, tc_un, s_one, s_holds, s_J13_bitCount, bz_bI, f_X11_lookAtViews, hM.f, f1, f2]; rw [show tq_loop (f_X11_lookAtViews_b10 155) tq_N ((0 : Int32), tc_mk S d) = _ from y1], fun k hk => y2 k hk, y4.1⟩
end SET
