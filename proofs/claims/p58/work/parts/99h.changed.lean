/-! ===== all updates done, nothing linked ===== -/
section CHG3
variable {S : tq_H} {c c1 c2 : tc_C} {b g m i j e k v K : Nat} {U : Ups} {D : Doc} {N0 : Nat → Int32}
theorem ch_step (hT : tc_Tree S b) (hU : tc_Upd S g) (hA : b + 40 ≤ g) (hw : D.wf) (hu : U.wf m D) (hr : m + U.ins U.n ≤ 60) (hC : UC c g U) (hK : K < U.n) (h : CH c b g m D U N0 K) :
    ∃ c', f_X9_change g b (nI K) (tc_mk S c) = some (tc_mk S c') ∧ CH c' b g m D U N0 (K + 1) ∧ Cf b g c c' := by
  have h5 := hu.2.1 K hK
  rcases Nat.lt_or_ge (U.uw K) 1 with q | q
  · exact ch_ins hT hU hA hw hu hr hC hK (by omega) h
  · rcases Nat.lt_or_ge (U.uw K) 2 with q | q
    · exact ch_rem hT hU hA hw hu hC hK (by omega) h
    · rcases Nat.lt_or_ge (U.uw K) 3 with q | q
      · exact ch_ren hT hU hA hw hu hC hK (by omega) h
      · rcases Nat.lt_or_ge (U.uw K) 4 with q | q
        · exact ch_val hT hU hA hw hu hC hK (by omega) h
        · rcases Nat.lt_or_ge (U.uw K) 5 with q | q
          · exact ch_mov hT hU hA hw hu hC hK (by omega) h
          · exact ch_dec hT hU hA hw hu hC hK (by omega) h
theorem ch_loop (hT : tc_Tree S b) (hU : tc_Upd S g) (hA : b + 40 ≤ g) (hw : D.wf) (hu : U.wf m D) (hr : m + U.ins U.n ≤ 60) (hC : UC c g U) (h : CH c b g m D U N0 0) :
    ∃ c', tq_loop (f_X9_build_b22 g e b) tq_N (0, tc_mk S c) = some (tc_mk S c') ∧ CH c' b g m D U N0 U.n ∧ Cf b g c c' := by
  have hn := hC.2.1
  obtain ⟨x, x1, x2⟩ := tc_run (B := f_X9_build_b22 g e b) U.n (fun k x => (nI k, tc_mk S x)) (fun k x => CH x b g m D U N0 k ∧ Cf b g c x) (fun x => tc_mk S x) (by omega) (fun k x hk hx => by
    have hC2 := hC.cf hA hx.2
    obtain ⟨y, y1, y2, y3⟩ := ch_step hT hU hA hw hu hr hC2 hk hx.1
    refine ⟨y, ?_, y2, hx.2.trans y3⟩
    have e1 := hC2.1
    have e2 : ¬ nI k ≥ nI U.n := nI_ge hk (by omega)
    simp (maxSteps := 3000000) (disch := omega) only [Option.bind_some, tc_bs, tq_let, tc_I1, tc_I2, tc_J1, tc_J2, tc_J3, tc_F1, tc_F2, tc_F3, tc_F4, tc_G1, tc_G2, tc_G3, tc_G4, tc_G5, tc_us, tc_un, s_one, s_holds, s_J13_bitCount, bz_bI, f_X9_build_b22, hU.f, e1, e2, if_false, y1, nI_1]) (fun x hx => by
    have e1 := (hC.cf hA hx.2).1
    have e2 : nI U.n ≥ nI U.n := Int32.le_refl _
    simp (maxSteps := 3000000) (disch := omega) only [Option.bind_some, tc_bs, tq_let, tc_I1, tc_I2, tc_J1, tc_J2, tc_J3, tc_F1, tc_F2, tc_F3, tc_F4, tc_G1, tc_G2, tc_G3, tc_G4, tc_G5, tc_us, tc_un, s_one, s_holds, s_J13_bitCount, bz_bI, f_X9_build_b22, hU.f, e1, e2, if_true]) (x := c) ⟨h, Cf.refl c⟩
  exact ⟨x, x1, x2⟩
/-- the start: the tree at e copied loose, no sets -/
theorem ch_start (hT : tc_Tree S b) (hE : tc_Tree S e) (hU : tc_Upd S g) (hA : e + 40 ≤ b ∧ b + 40 ≤ g) (hw : D.wf) (hN : Nod c e D m) :
    ∃ c', ((f_X8_copyLoose b e (tc_mk S c)).bind fun v1 => (tq_pf v1 g 9 8 (.long (0 : Int64))).bind fun w3 => (tq_pf w3 g 9 9 (.long (0 : Int64))).bind fun w4 => tq_pf w4 g 9 10 (.long (0 : Int64))) = some (tc_mk S c') ∧ CH c' b g m D U (c.1 (e + 33)) 0 ∧ Lnk c' b (fun _ => []) ∧
      (∀ a, a < b ∨ b + 39 < a → c'.1 a = c.1 a) ∧ (∀ a, a < b ∨ b + 39 < a → c'.2.1 a = c.2.1 a) ∧ (∀ a, a < b ∨ b + 39 < a → c'.2.2.1 a = c.2.2.1 a) ∧ (∀ a, (a < b ∨ b + 39 < a) → a ≠ g → c'.2.2.2.1 a = c.2.2.2.1 a) ∧ c'.2.2.2.2 = c.2.2.2.2 := by
  obtain ⟨x, x1, ⟨o1, o2, o3, o4, o5⟩, x2, q1, q2, q3, q4, q5, q6, q7, q8, q9⟩ := s_X8_copyLoose (c := c) hT hE (show Apart b e by unfold Apart; omega)
  obtain ⟨n1, n2, n3, n4, n5, n6, n7, n8⟩ := hN
  rw [x1, Option.bind_some]
  simp (maxSteps := 3000000) (disch := omega) only [Option.bind_some, tc_bs, tq_let, tc_I1, tc_I2, tc_J1, tc_J2, tc_J3, tc_F1, tc_F2, tc_F3, tc_F4, tc_G1, tc_G2, tc_G3, tc_G4, tc_G5, tc_us, tc_un, s_one, s_holds, s_J13_bitCount, bz_bI, hU.f]
  refine ⟨_, rfl, ⟨?_, fun v hv => ?_, fun i hi => ?_, fun k hk => absurd hk (Nat.not_lt_zero _), fun k hk => absurd hk (Nat.not_lt_zero _), ?_, ?_, ?_⟩, ⟨fun v w h => (by cases h), fun w hw _ => ?_, fun v hv => ?_, fun v hv => ?_, fun v X w Y h => ?_, fun w hw _ => ?_⟩, fun a ha => ?_, fun a ha => ?_, fun a ha => ?_, fun a ha hg => ?_, ?_⟩
  all_goals simp (maxSteps := 3000000) (disch := omega) only [Option.bind_some, tc_bs, tq_let, tc_I1, tc_I2, tc_J1, tc_J2, tc_J3, tc_F1, tc_F2, tc_F3, tc_F4, tc_G1, tc_G2, tc_G3, tc_G4, tc_G5, tc_us, tc_un, s_one, s_holds, s_J13_bitCount, bz_bI, if_true]
  · rw [x2, n3]; rfl
  · rcases hv with ⟨i, hi, rfl⟩ | ⟨k, hk, -⟩
    · have h60 := D.ord_lt hw hi
      obtain ⟨a1, a2, a3, a4⟩ := D.rws_at hw hi
      rw [q1 _ h60, q2 _ h60, q3 _ h60, q4 _ h60, n4 i hi, n5 i hi, n6 i hi, n7 i hi]
      exact ⟨a1.symm, a2.symm, a3.symm, a4.symm⟩
    · omega
  · exact q5 _ (D.ord_lt hw hi)
  · exact mkS_0
  · exact mkS_0
  · exact mkS_0
  · exact q6 w hw
  · exact q7 v hv
  · exact q9 v hv
  · cases X <;> cases h
  · exact q8 w hw
  · exact o1 a ha
  · exact o2 a ha
  · exact o3 a ha
  · exact o4 a ha
  · exact o5
end CHG3
