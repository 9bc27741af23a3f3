/-! ===== laying out: done ===== -/
section LAYD
variable {S : tq_H} {c c' : tc_C} {b m i : Nat} {D : Doc}
theorem pk_m1' {n : Nat} (h : 0 < n) : nI n + (-1) = nI (n - 1) := by
  obtain ⟨k, rfl⟩ : ∃ k, n = k + 1 := ⟨n - 1, by omega⟩
  exact pk_m1 k
theorem s_X3_close (hT : tc_Tree S b) (hw : D.wf) (h : CLay c b D D.n) : ∃ c', f_X3_close (b + 1) (tc_mk S c) = some (tc_mk S c') ∧ Lay c' b D ∧ Off c c' b := by
  have hn := D.n_le hw
  have h0 := D.n_pos hw
  have W := tc_while (B := f_X3_close_b7 (b + 1)) (fun s => ∃ i c', s = (nI i + (-1), tc_mk S c') ∧ i ≤ D.n ∧ CLay c' b D i ∧ Off c c' b) (fun s => (s.1 + 1).toNatClampNeg) (fun e => ∃ c', e = tc_mk S c' ∧ Lay c' b D ∧ Off c c' b) (s := (nI D.n + (-1), tc_mk S c)) ?_ ⟨D.n, c, rfl, by omega, h, Off.refl c b⟩ ?_
  · obtain ⟨e, h1, c', rfl, h2⟩ := W
    refine ⟨c', ?_, h2⟩
    have e1 : c.2.2.1 (b + 1) 12 = nI D.n := h.1
    simp (maxSteps := 3000000) (disch := omega) only [Option.bind_some, tc_bs, tq_let, tc_I1, tc_I2, tc_J1, tc_J2, tc_J3, tc_F1, tc_F2, tc_F3, tc_F4, tc_G1, tc_G2, tc_G3, tc_G4, tc_G5, tc_us, tc_un, s_one, s_holds, s_J13_bitCount, bz_bI, f_X3_close, hT.f]
    rw [e1, Int32.sub_eq_add_neg, h1]
  · rintro s ⟨i, c', rfl, hi, hc, ho⟩
    by_cases q : i = 0
    · right
      subst q
      exact ⟨tc_mk S c', rfl, c', rfl, hc.lay hw, ho⟩
    · left
      obtain ⟨k, rfl⟩ : ∃ k, i = k + 1 := ⟨i - 1, by omega⟩
      obtain ⟨c2, e1, e2, e3⟩ := s_X3_close_step hT hw (show k < D.n by omega) hc
      refine ⟨(nI k + (-1), tc_mk S c2), ?_, ⟨k, c2, rfl, by omega, e2, ho.trans e3⟩, ?_⟩
      · rw [pk_m1 k]; exact e1
      · show (nI k + (-1) + 1).toNatClampNeg < (nI (k + 1) + (-1) + 1).toNatClampNeg
        have f : ∀ x : Int32, x + (-1) + 1 = x := fun x => by rw [Int32.add_assoc]; exact Int32.add_zero x
        rw [f, f, nI_clamp (by omega), nI_clamp (by omega)]
        omega
  · show (nI D.n + (-1) + 1).toNatClampNeg < tq_N
    have f : ∀ x : Int32, x + (-1) + 1 = x := fun x => by rw [Int32.add_assoc]; exact Int32.add_zero x
    rw [f, nI_clamp (by omega)]
    unfold tq_N; omega
/-- laying out a tree whose nodes are a document's -/
theorem s_X8_layOut (hT : tc_Tree S b) (hw : D.wf) (hN : Nod c b D m) : ∃ c', f_X8_layOut b (tc_mk S c) = some (tc_mk S c') ∧ Lay c' b D ∧ Nod c' b D m ∧ Off c c' b := by
  obtain ⟨c1, e1, p1, o1⟩ := s_X3_clear (D := D) (c := c) hT
  obtain ⟨c2, e2, p2, o2⟩ := lay_loop hT hw (hN.off o1) p1
  obtain ⟨c3, e3, p3, o3⟩ := s_X3_close hT hw p2.clo
  refine ⟨c3, ?_, p3, hN.off (o1.trans (o2.trans o3)), o1.trans (o2.trans o3)⟩
  simp (maxSteps := 3000000) (disch := omega) only [Option.bind_some, tc_bs, tq_let, tc_I1, tc_I2, tc_J1, tc_J2, tc_J3, tc_F1, tc_F2, tc_F3, tc_F4, tc_G1, tc_G2, tc_G3, tc_G4, tc_G5, tc_us, tc_un, s_one, s_holds, s_J13_bitCount, bz_bI, f_X8_layOut, hT.f, e1, e2, e3]
end LAYD
