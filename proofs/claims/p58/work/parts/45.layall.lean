/-! ===== laying out: all spots ===== -/
section LAY
variable {S : tq_H} {c c' : tc_C} {b m i : Nat} {D : Doc}
theorem Nod.off (h : Nod c b D m) (o : Off c c' b) : Nod c' b D m := by
  obtain ⟨h1, h2, h3, h4, h5, h6, h7, h8, h9, h10⟩ := h
  obtain ⟨o1, -, o3, -, -⟩ := o
  refine ⟨h1, h2, by rw [o3 b (by omega)]; exact h3, ?_, ?_, ?_, ?_, ?_, ?_, ?_⟩
  · rw [o1 (b + 23) (by omega)]; exact h4
  · rw [o1 (b + 25) (by omega)]; exact h5
  · rw [o1 (b + 27) (by omega)]; exact h6
  · rw [o1 (b + 29) (by omega)]; exact h7
  · rw [o1 (b + 31) (by omega)]; exact h8
  · rw [o1 (b + 35) (by omega)]; exact h9
  · rw [o1 (b + 37) (by omega)]; exact h10
theorem s_X3_spotOf (hT : tc_Tree S b) (x : Int32) : f_X3_spotOf (b + 1) x (tc_mk S c) = some (rg 60 (c.1 (b + 5)) x) := by
  simp (maxSteps := 3000000) (disch := omega) only [Option.bind_some, tc_bs, tq_let, tc_I1, tc_I2, tc_J1, tc_J2, tc_J3, tc_F1, tc_F2, tc_F3, tc_F4, tc_G1, tc_G2, tc_G3, tc_G4, tc_G5, tc_us, tc_un, s_one, s_holds, s_J13_bitCount, bz_bI, f_X3_spotOf, hT.f]
theorem lay_loop (hT : tc_Tree S b) (hw : D.wf) (hN : Nod c b D m) (hP : PLay c b D 0) : ∃ c', tq_loop (f_X8_layOut_b11 b) tq_N (0, 0, tc_mk S c) = some (tc_mk S c') ∧ PLay c' b D D.n ∧ Off c c' b := by
  have hn := D.n_le hw
  have W := tc_while (B := f_X8_layOut_b11 b) (fun s => ∃ i c', s = ((if i < D.n then nI (D.ord i) else -1), nI i, tc_mk S c') ∧ i ≤ D.n ∧ PLay c' b D i ∧ Off c c' b) (fun s => 100 - s.2.1.toNatClampNeg) (fun e => ∃ c', e = tc_mk S c' ∧ PLay c' b D D.n ∧ Off c c' b) (s := (0, 0, tc_mk S c)) ?_ ⟨0, c, by rw [if_pos (D.n_pos hw), D.ord_0 hw]; rfl, by omega, hP, Off.refl c b⟩ (by unfold tq_N; omega)
  · obtain ⟨e, h1, c', rfl, h2⟩ := W
    exact ⟨c', h1, h2⟩
  · rintro s ⟨i, c', rfl, hi, hp, ho⟩
    have hN' := hN.off ho
    by_cases q : i < D.n
    · left
      have hon := D.ord_lt hw q
      obtain ⟨-, -, -, n4, n5, n6, n7, n8, -, -⟩ := hN'
      obtain ⟨c2, e1, e2, e3⟩ := s_X3_add hT hw hp q
      have hup : rg 60 (c'.1 (b + 5)) (if i = 0 then -1 else nI (D.ord (D.up i))) = D.upI i := by
        unfold Doc.upI
        by_cases z : i = 0
        · rw [if_pos z, if_pos z, rg_n]
        · have hu := D.up_lt hw (Nat.pos_of_ne_zero z) q
          rw [if_neg z, if_neg z, rg_ord hw (by omega), hp.2.2.1 _ hu]
      have hB : f_X8_layOut_b11 b (nI (D.ord i), nI i, tc_mk S c') = some (.inl ((if i + 1 < D.n then nI (D.ord (i + 1)) else -1), nI (i + 1), tc_mk S c2)) := by
        show (if nI i ≥ 60 then _ else if nI (D.ord i) = -1 then _ else _) = _
        rw [if_neg (show ¬ nI i ≥ 60 from nI_ge (show i < 60 by omega) (by decide)), if_neg (nI_nm1 (by omega))]
        simp (maxSteps := 3000000) (disch := omega) only [Option.bind_some, tc_bs, tq_let, tc_I1, tc_I2, tc_J1, tc_J2, tc_J3, tc_F1, tc_F2, tc_F3, tc_F4, tc_G1, tc_G2, tc_G3, tc_G4, tc_G5, tc_us, tc_un, s_one, s_holds, s_J13_bitCount, bz_bI, hT.f, s_X3_spotOf hT]
        rw [rg_ord hw q, rg_ord hw q, rg_ord hw q, rg_ord hw q, n4 i q, n5 i q, n7 i q, n8 i q, hup, e1]
        simp (maxSteps := 3000000) (disch := omega) only [Option.bind_some, tc_bs, tq_let, tc_I1, tc_I2, tc_J1, tc_J2, tc_J3, tc_F1, tc_F2, tc_F3, tc_F4, tc_G1, tc_G2, tc_G3, tc_G4, tc_G5, tc_us, tc_un, s_one, s_holds, s_J13_bitCount, bz_bI, hT.f]
        rw [s_X8_following hT hw (hN.off (ho.trans e3)) q, Option.bind_some, nI_1]
      refine ⟨_, by rw [if_pos q]; exact hB, ⟨i + 1, c2, rfl, q, e2, ho.trans e3⟩, ?_⟩
      show 100 - (nI (i + 1)).toNatClampNeg < 100 - (nI i).toNatClampNeg
      rw [nI_clamp (by omega), nI_clamp (by omega)]
      omega
    · right
      obtain rfl : i = D.n := by omega
      refine ⟨tc_mk S c', ?_, c', rfl, hp, ho⟩
      rw [if_neg q]
      show (if nI D.n ≥ 60 then _ else if (-1 : Int32) = -1 then _ else _) = _
      by_cases z : nI D.n ≥ 60
      · rw [if_pos z]
      · rw [if_neg z, if_pos rfl]
end LAY
