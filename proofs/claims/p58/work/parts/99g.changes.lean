/-! ===== the other updates ===== -/
section CHG2
variable {S : tq_H} {c c1 c2 : tc_C} {b g m i j e k v K : Nat} {U : Ups} {D : Doc} {N0 : Nat → Int32}
theorem ch_rem (hT : tc_Tree S b) (hU : tc_Upd S g) (hA : b + 40 ≤ g) (hw : D.wf) (hu : U.wf m D) (hC : UC c g U) (hK : K < U.n) (h0 : U.uw K = 1) (h : CH c b g m D U N0 K) :
    ∃ c', f_X9_change g b (nI K) (tc_mk S c) = some (tc_mk S c') ∧ CH c' b g m D U N0 (K + 1) ∧ Cf b g c c' := by
  obtain ⟨u1, u2, u3, u4, u5, u6, u7, u8⟩ := hC
  obtain ⟨p1, p2, p3, p4, p5, p6, p7, p8⟩ := h
  have a1 := u3 K hK
  have a2 := u4 K hK
  have a3 := u5 K hK
  rw [h0] at a1
  rw [if_neg (by omega)] at a2
  rw [if_neg (by omega)] at a3
  have a1 : c.1 (g + 2) K = 1 := a1
  obtain ⟨t, t1, t2, -⟩ := hu.2.2.1 K hK (by omega)
  have ht60 := D.ord_lt hw t1
  rw [← t2] at ht60
  have r20 : ∀ f : Nat → Int32, rg 20 f (nI K) = f K := fun f => rg_in f (by omega) (by decide)
  have s20 : ∀ (f : Nat → Int32) x, rs 20 f (nI K) x = upd f K x := fun f x => rs_in f x (by omega) (by decide)
  have s60 : ∀ (f : Nat → Int32) x, rs 60 f (nI (U.ut K)) x = upd f (U.ut K) x := fun f x => rs_in f x ht60 (by decide)
  have or0 : ∀ x : Int64, x ||| 0 = x := fun x => tb_ext fun j _ => by rw [tb_or, tb_0]; simp
  have hins : U.ins (K + 1) = U.ins K := by rw [U.ins_s, if_neg (by omega), Nat.add_zero]
  have hIn : ∀ v, U.In m D (K + 1) v → U.In m D K v := fun v hv => (In_s (by omega)).mp hv
  simp (maxSteps := 3000000) (disch := omega) only [Option.bind_some, tc_bs, tq_let, tc_I1, tc_I2, tc_J1, tc_J2, tc_J3, tc_F1, tc_F2, tc_F3, tc_F4, tc_G1, tc_G2, tc_G3, tc_G4, tc_G5, tc_us, tc_un, s_one, s_holds, s_J13_bitCount, bz_bI, f_X9_change, hT.f, hU.f, r20, s20, a1, a2, a3, s60, oneI_n, or0, if_true, if_false, show ¬ (1 : Int32) = 0 from by decide]
  refine ⟨_, rfl, ⟨?_, fun v hv => ?_, fun i hi => ?_, fun k hk hk0 => ?_, fun k hk hk0 => ?_, ?_, ?_, ?_⟩, ⟨fun a z1 z2 z3 z4 z5 z6 => ?_, ?_, fun a z => ?_, fun a z => ?_, ?_⟩⟩
  all_goals simp (maxSteps := 3000000) (disch := omega) only [Option.bind_some, tc_bs, tq_let, tc_I1, tc_I2, tc_J1, tc_J2, tc_J3, tc_F1, tc_F2, tc_F3, tc_F4, tc_G1, tc_G2, tc_G3, tc_G4, tc_G5, tc_us, tc_un, s_one, s_holds, s_J13_bitCount, bz_bI, if_true, upd_s]
  all_goals try exact True.intro
  · rw [hins]; exact p1
  · have hrw : U.rw m D.rws (K + 1) = U.rw m D.rws K := by
      rw [Ups.rw, if_neg (by omega), if_neg (by omega), if_neg (by omega), if_neg (by omega)]
    rw [hrw]; exact p2 v (hIn v hv)
  · exact p3 i hi
  · refine p4 k ?_ hk0
    rcases Nat.lt_or_ge k K with q | q
    · exact q
    · exfalso; rw [show k = K by omega] at hk0; omega
  · refine p5 k ?_ hk0
    rcases Nat.lt_or_ge k K with q | q
    · exact q
    · exfalso; rw [show k = K by omega] at hk0; omega
  · rw [p6]
    exact (any_not (P := fun j => U.uw j = 0 ∨ U.uw j = 4) (f := U.sj m) (by omega)).symm
  · rw [p7]
    exact any_add (P := fun j => U.uw j = 1 ∨ U.uw j = 4) (f := U.ut) (.inl h0) (by omega)
  · rw [p8]
    exact (any_not (P := fun j => U.uw j = 0 ∨ U.uw j = 4) (f := U.up) (by omega)).symm
theorem ch_ren (hT : tc_Tree S b) (hU : tc_Upd S g) (hA : b + 40 ≤ g) (hw : D.wf) (hu : U.wf m D) (hC : UC c g U) (hK : K < U.n) (h0 : U.uw K = 2) (h : CH c b g m D U N0 K) :
    ∃ c', f_X9_change g b (nI K) (tc_mk S c) = some (tc_mk S c') ∧ CH c' b g m D U N0 (K + 1) ∧ Cf b g c c' := by
  obtain ⟨u1, u2, u3, u4, u5, u6, u7, u8⟩ := hC
  obtain ⟨p1, p2, p3, p4, p5, p6, p7, p8⟩ := h
  have a1 := u3 K hK
  have a2 := u4 K hK
  have a3 := u5 K hK
  rw [h0] at a1
  rw [if_neg (by omega)] at a2
  rw [if_neg (by omega)] at a3
  have a1 : c.1 (g + 2) K = 2 := a1
  have a5 := u8 K hK (by omega) (by omega)
  obtain ⟨t, t1, t2, -⟩ := hu.2.2.1 K hK (by omega)
  have ht60 := D.ord_lt hw t1
  rw [← t2] at ht60
  have r20 : ∀ f : Nat → Int32, rg 20 f (nI K) = f K := fun f => rg_in f (by omega) (by decide)
  have s20 : ∀ (f : Nat → Int32) x, rs 20 f (nI K) x = upd f K x := fun f x => rs_in f x (by omega) (by decide)
  have s60 : ∀ (f : Nat → Int32) x, rs 60 f (nI (U.ut K)) x = upd f (U.ut K) x := fun f x => rs_in f x ht60 (by decide)
  have or0 : ∀ x : Int64, x ||| 0 = x := fun x => tb_ext fun j _ => by rw [tb_or, tb_0]; simp
  have hins : U.ins (K + 1) = U.ins K := by rw [U.ins_s, if_neg (by omega), Nat.add_zero]
  have hIn : ∀ v, U.In m D (K + 1) v → U.In m D K v := fun v hv => (In_s (by omega)).mp hv
  simp (maxSteps := 3000000) (disch := omega) only [Option.bind_some, tc_bs, tq_let, tc_I1, tc_I2, tc_J1, tc_J2, tc_J3, tc_F1, tc_F2, tc_F3, tc_F4, tc_G1, tc_G2, tc_G3, tc_G4, tc_G5, tc_us, tc_un, s_one, s_holds, s_J13_bitCount, bz_bI, f_X9_change, hT.f, hU.f, r20, s20, a1, a2, a3, a5, s60, oneI_n, or0, if_true, if_false, show ¬ (2 : Int32) = 0 from by decide, show ¬ (2 : Int32) = 1 from by decide]
  refine ⟨_, rfl, ⟨?_, fun v hv => ?_, fun i hi => ?_, fun k hk hk0 => ?_, fun k hk hk0 => ?_, ?_, ?_, ?_⟩, ⟨fun a z1 z2 z3 z4 z5 z6 => ?_, ?_, fun a z => ?_, fun a z => ?_, ?_⟩⟩
  all_goals simp (maxSteps := 3000000) (disch := omega) only [Option.bind_some, tc_bs, tq_let, tc_I1, tc_I2, tc_J1, tc_J2, tc_J3, tc_F1, tc_F2, tc_F3, tc_F4, tc_G1, tc_G2, tc_G3, tc_G4, tc_G5, tc_us, tc_un, s_one, s_holds, s_J13_bitCount, bz_bI, if_true, upd_s]
  all_goals try exact True.intro
  · rw [hins]; exact p1
  · have hrw : U.rw m D.rws (K + 1) = ((U.rw m D.rws K).1, upd (U.rw m D.rws K).2.1 (U.ut K) (U.uc K), (U.rw m D.rws K).2.2) := by rw [Ups.rw, if_neg (by omega), if_pos h0]
    rw [hrw]
    obtain ⟨v1, v2, v3, v4⟩ := p2 v (hIn v hv)
    by_cases q : v = U.ut K
    · subst q; simp only [upd_s, v1, v2, v3, v4, and_self]
    · simp only [upd_n _ _ q, v1, v2, v3, v4, and_self]
  · exact p3 i hi
  · refine p4 k ?_ hk0
    rcases Nat.lt_or_ge k K with q | q
    · exact q
    · exfalso; rw [show k = K by omega] at hk0; omega
  · refine p5 k ?_ hk0
    rcases Nat.lt_or_ge k K with q | q
    · exact q
    · exfalso; rw [show k = K by omega] at hk0; omega
  · rw [p6]
    exact (any_not (P := fun j => U.uw j = 0 ∨ U.uw j = 4) (f := U.sj m) (by omega)).symm
  · rw [p7]
    exact (any_not (P := fun j => U.uw j = 1 ∨ U.uw j = 4) (f := U.ut) (by omega)).symm
  · rw [p8]
    exact (any_not (P := fun j => U.uw j = 0 ∨ U.uw j = 4) (f := U.up) (by omega)).symm
theorem ch_val (hT : tc_Tree S b) (hU : tc_Upd S g) (hA : b + 40 ≤ g) (hw : D.wf) (hu : U.wf m D) (hC : UC c g U) (hK : K < U.n) (h0 : U.uw K = 3) (h : CH c b g m D U N0 K) :
    ∃ c', f_X9_change g b (nI K) (tc_mk S c) = some (tc_mk S c') ∧ CH c' b g m D U N0 (K + 1) ∧ Cf b g c c' := by
  obtain ⟨u1, u2, u3, u4, u5, u6, u7, u8⟩ := hC
  obtain ⟨p1, p2, p3, p4, p5, p6, p7, p8⟩ := h
  have a1 := u3 K hK
  have a2 := u4 K hK
  have a3 := u5 K hK
  rw [h0] at a1
  rw [if_neg (by omega)] at a2
  rw [if_neg (by omega)] at a3
  have a1 : c.1 (g + 2) K = 3 := a1
  have a5 := u8 K hK (by omega) (by omega)
  obtain ⟨t, t1, t2, -⟩ := hu.2.2.1 K hK (by omega)
  have ht60 := D.ord_lt hw t1
  rw [← t2] at ht60
  have r20 : ∀ f : Nat → Int32, rg 20 f (nI K) = f K := fun f => rg_in f (by omega) (by decide)
  have s20 : ∀ (f : Nat → Int32) x, rs 20 f (nI K) x = upd f K x := fun f x => rs_in f x (by omega) (by decide)
  have s60 : ∀ (f : Nat → Int32) x, rs 60 f (nI (U.ut K)) x = upd f (U.ut K) x := fun f x => rs_in f x ht60 (by decide)
  have or0 : ∀ x : Int64, x ||| 0 = x := fun x => tb_ext fun j _ => by rw [tb_or, tb_0]; simp
  have hins : U.ins (K + 1) = U.ins K := by rw [U.ins_s, if_neg (by omega), Nat.add_zero]
  have hIn : ∀ v, U.In m D (K + 1) v → U.In m D K v := fun v hv => (In_s (by omega)).mp hv
  simp (maxSteps := 3000000) (disch := omega) only [Option.bind_some, tc_bs, tq_let, tc_I1, tc_I2, tc_J1, tc_J2, tc_J3, tc_F1, tc_F2, tc_F3, tc_F4, tc_G1, tc_G2, tc_G3, tc_G4, tc_G5, tc_us, tc_un, s_one, s_holds, s_J13_bitCount, bz_bI, f_X9_change, hT.f, hU.f, r20, s20, a1, a2, a3, a5, s60, oneI_n, or0, if_true, if_false, show ¬ (3 : Int32) = 0 from by decide, show ¬ (3 : Int32) = 1 from by decide, show ¬ (3 : Int32) = 2 from by decide]
  refine ⟨_, rfl, ⟨?_, fun v hv => ?_, fun i hi => ?_, fun k hk hk0 => ?_, fun k hk hk0 => ?_, ?_, ?_, ?_⟩, ⟨fun a z1 z2 z3 z4 z5 z6 => ?_, ?_, fun a z => ?_, fun a z => ?_, ?_⟩⟩
  all_goals simp (maxSteps := 3000000) (disch := omega) only [Option.bind_some, tc_bs, tq_let, tc_I1, tc_I2, tc_J1, tc_J2, tc_J3, tc_F1, tc_F2, tc_F3, tc_F4, tc_G1, tc_G2, tc_G3, tc_G4, tc_G5, tc_us, tc_un, s_one, s_holds, s_J13_bitCount, bz_bI, if_true, upd_s]
  all_goals try exact True.intro
  · rw [hins]; exact p1
  · have hrw : U.rw m D.rws (K + 1) = ((U.rw m D.rws K).1, (U.rw m D.rws K).2.1, upd (U.rw m D.rws K).2.2.1 (U.ut K) (U.uc K), (U.rw m D.rws K).2.2.2) := by rw [Ups.rw, if_neg (by omega), if_neg (by omega), if_pos h0]
    rw [hrw]
    obtain ⟨v1, v2, v3, v4⟩ := p2 v (hIn v hv)
    by_cases q : v = U.ut K
    · subst q; simp only [upd_s, v1, v2, v3, v4, and_self]
    · simp only [upd_n _ _ q, v1, v2, v3, v4, and_self]
  · exact p3 i hi
  · refine p4 k ?_ hk0
    rcases Nat.lt_or_ge k K with q | q
    · exact q
    · exfalso; rw [show k = K by omega] at hk0; omega
  · refine p5 k ?_ hk0
    rcases Nat.lt_or_ge k K with q | q
    · exact q
    · exfalso; rw [show k = K by omega] at hk0; omega
  · rw [p6]
    exact (any_not (P := fun j => U.uw j = 0 ∨ U.uw j = 4) (f := U.sj m) (by omega)).symm
  · rw [p7]
    exact (any_not (P := fun j => U.uw j = 1 ∨ U.uw j = 4) (f := U.ut) (by omega)).symm
  · rw [p8]
    exact (any_not (P := fun j => U.uw j = 0 ∨ U.uw j = 4) (f := U.up) (by omega)).symm
theorem ch_mov (hT : tc_Tree S b) (hU : tc_Upd S g) (hA : b + 40 ≤ g) (hw : D.wf) (hu : U.wf m D) (hC : UC c g U) (hK : K < U.n) (h0 : U.uw K = 4) (h : CH c b g m D U N0 K) :
    ∃ c', f_X9_change g b (nI K) (tc_mk S c) = some (tc_mk S c') ∧ CH c' b g m D U N0 (K + 1) ∧ Cf b g c c' := by
  obtain ⟨u1, u2, u3, u4, u5, u6, u7, u8⟩ := hC
  obtain ⟨p1, p2, p3, p4, p5, p6, p7, p8⟩ := h
  have a1 := u3 K hK
  have a2 := u4 K hK
  have a3 := u5 K hK
  rw [h0] at a1
  rw [if_neg (by omega)] at a2
  rw [if_pos (.inr h0)] at a3
  have a1 : c.1 (g + 2) K = 4 := a1
  obtain ⟨t, t1, t2, -⟩ := hu.2.2.1 K hK (by omega)
  have ht60 := D.ord_lt hw t1
  rw [← t2] at ht60
  have hup : U.up K < 60 := by
    obtain ⟨i, i1, i2, -⟩ := hu.2.2.2.1 K hK (.inr h0)
    rw [i2]; exact D.ord_lt hw i1
  have r20 : ∀ f : Nat → Int32, rg 20 f (nI K) = f K := fun f => rg_in f (by omega) (by decide)
  have s20 : ∀ (f : Nat → Int32) x, rs 20 f (nI K) x = upd f K x := fun f x => rs_in f x (by omega) (by decide)
  have s60 : ∀ (f : Nat → Int32) x, rs 60 f (nI (U.ut K)) x = upd f (U.ut K) x := fun f x => rs_in f x ht60 (by decide)
  have or0 : ∀ x : Int64, x ||| 0 = x := fun x => tb_ext fun j _ => by rw [tb_or, tb_0]; simp
  have hins : U.ins (K + 1) = U.ins K := by rw [U.ins_s, if_neg (by omega), Nat.add_zero]
  have hIn : ∀ v, U.In m D (K + 1) v → U.In m D K v := fun v hv => (In_s (by omega)).mp hv
  simp (maxSteps := 3000000) (disch := omega) only [Option.bind_some, tc_bs, tq_let, tc_I1, tc_I2, tc_J1, tc_J2, tc_J3, tc_F1, tc_F2, tc_F3, tc_F4, tc_G1, tc_G2, tc_G3, tc_G4, tc_G5, tc_us, tc_un, s_one, s_holds, s_J13_bitCount, bz_bI, f_X9_change, hT.f, hU.f, r20, s20, a1, a2, a3, s60, oneI_n, or0, if_true, if_false, show ¬ (4 : Int32) = 0 from by decide, show ¬ (4 : Int32) = 1 from by decide, show ¬ (4 : Int32) = 2 from by decide, show ¬ (4 : Int32) = 3 from by decide]
  refine ⟨_, rfl, ⟨?_, fun v hv => ?_, fun i hi => ?_, fun k hk hk0 => ?_, fun k hk hk0 => ?_, ?_, ?_, ?_⟩, ⟨fun a z1 z2 z3 z4 z5 z6 => ?_, ?_, fun a z => ?_, fun a z => ?_, ?_⟩⟩
  all_goals simp (maxSteps := 3000000) (disch := omega) only [Option.bind_some, tc_bs, tq_let, tc_I1, tc_I2, tc_J1, tc_J2, tc_J3, tc_F1, tc_F2, tc_F3, tc_F4, tc_G1, tc_G2, tc_G3, tc_G4, tc_G5, tc_us, tc_un, s_one, s_holds, s_J13_bitCount, bz_bI, if_true, upd_s]
  all_goals try exact True.intro
  · rw [hins]; exact p1
  · have hrw : U.rw m D.rws (K + 1) = U.rw m D.rws K := by
      rw [Ups.rw, if_neg (by omega), if_neg (by omega), if_neg (by omega), if_neg (by omega)]
    rw [hrw]; exact p2 v (hIn v hv)
  · exact p3 i hi
  · refine p4 k ?_ hk0
    rcases Nat.lt_or_ge k K with q | q
    · exact q
    · exfalso; rw [show k = K by omega] at hk0; omega
  · have hs : U.sj m K = U.ut K := if_neg (by omega)
    by_cases q : k = K
    · subst q; rw [upd_s, hs]
    · rw [upd_n _ _ q]; exact p5 k (by omega) hk0
  · rw [p6]
    have hs : U.sj m K = U.ut K := if_neg (by omega)
    rw [← hs]
    exact any_add (P := fun j => U.uw j = 0 ∨ U.uw j = 4) (f := U.sj m) (.inr h0) (by rw [hs]; omega)
  · rw [p7]
    exact any_add (P := fun j => U.uw j = 1 ∨ U.uw j = 4) (f := U.ut) (.inr h0) (by omega)
  · rw [p8]
    exact any_add (P := fun j => U.uw j = 0 ∨ U.uw j = 4) (f := U.up) (.inr h0) (by omega)
theorem ch_dec (hT : tc_Tree S b) (hU : tc_Upd S g) (hA : b + 40 ≤ g) (hw : D.wf) (hu : U.wf m D) (hC : UC c g U) (hK : K < U.n) (h0 : U.uw K = 5) (h : CH c b g m D U N0 K) :
    ∃ c', f_X9_change g b (nI K) (tc_mk S c) = some (tc_mk S c') ∧ CH c' b g m D U N0 (K + 1) ∧ Cf b g c c' := by
  obtain ⟨u1, u2, u3, u4, u5, u6, u7, u8⟩ := hC
  obtain ⟨p1, p2, p3, p4, p5, p6, p7, p8⟩ := h
  have a1 := u3 K hK
  have a2 := u4 K hK
  have a3 := u5 K hK
  rw [h0] at a1
  rw [if_neg (by omega)] at a2
  rw [if_neg (by omega)] at a3
  have a1 : c.1 (g + 2) K = 5 := a1
  have a5 := u8 K hK (by omega) (by omega)
  obtain ⟨t, t1, t2, -⟩ := hu.2.2.1 K hK (by omega)
  have ht60 := D.ord_lt hw t1
  rw [← t2] at ht60
  have r20 : ∀ f : Nat → Int32, rg 20 f (nI K) = f K := fun f => rg_in f (by omega) (by decide)
  have s20 : ∀ (f : Nat → Int32) x, rs 20 f (nI K) x = upd f K x := fun f x => rs_in f x (by omega) (by decide)
  have s60 : ∀ (f : Nat → Int32) x, rs 60 f (nI (U.ut K)) x = upd f (U.ut K) x := fun f x => rs_in f x ht60 (by decide)
  have or0 : ∀ x : Int64, x ||| 0 = x := fun x => tb_ext fun j _ => by rw [tb_or, tb_0]; simp
  have hins : U.ins (K + 1) = U.ins K := by rw [U.ins_s, if_neg (by omega), Nat.add_zero]
  have hIn : ∀ v, U.In m D (K + 1) v → U.In m D K v := fun v hv => (In_s (by omega)).mp hv
  simp (maxSteps := 3000000) (disch := omega) only [Option.bind_some, tc_bs, tq_let, tc_I1, tc_I2, tc_J1, tc_J2, tc_J3, tc_F1, tc_F2, tc_F3, tc_F4, tc_G1, tc_G2, tc_G3, tc_G4, tc_G5, tc_us, tc_un, s_one, s_holds, s_J13_bitCount, bz_bI, f_X9_change, hT.f, hU.f, r20, s20, a1, a2, a3, a5, s60, oneI_n, or0, if_true, if_false, show ¬ (5 : Int32) = 0 from by decide, show ¬ (5 : Int32) = 1 from by decide, show ¬ (5 : Int32) = 2 from by decide, show ¬ (5 : Int32) = 3 from by decide, show ¬ (5 : Int32) = 4 from by decide]
  refine ⟨_, rfl, ⟨?_, fun v hv => ?_, fun i hi => ?_, fun k hk hk0 => ?_, fun k hk hk0 => ?_, ?_, ?_, ?_⟩, ⟨fun a z1 z2 z3 z4 z5 z6 => ?_, ?_, fun a z => ?_, fun a z => ?_, ?_⟩⟩
  all_goals simp (maxSteps := 3000000) (disch := omega) only [Option.bind_some, tc_bs, tq_let, tc_I1, tc_I2, tc_J1, tc_J2, tc_J3, tc_F1, tc_F2, tc_F3, tc_F4, tc_G1, tc_G2, tc_G3, tc_G4, tc_G5, tc_us, tc_un, s_one, s_holds, s_J13_bitCount, bz_bI, if_true, upd_s]
  all_goals try exact True.intro
  · rw [hins]; exact p1
  · have hrw : U.rw m D.rws (K + 1) = ((U.rw m D.rws K).1, (U.rw m D.rws K).2.1, (U.rw m D.rws K).2.2.1, upd (U.rw m D.rws K).2.2.2 (U.ut K) (U.uc K)) := by rw [Ups.rw, if_neg (by omega), if_neg (by omega), if_neg (by omega), if_pos h0]
    rw [hrw]
    obtain ⟨v1, v2, v3, v4⟩ := p2 v (hIn v hv)
    by_cases q : v = U.ut K
    · subst q; simp only [upd_s, v1, v2, v3, v4, and_self]
    · simp only [upd_n _ _ q, v1, v2, v3, v4, and_self]
  · exact p3 i hi
  · refine p4 k ?_ hk0
    rcases Nat.lt_or_ge k K with q | q
    · exact q
    · exfalso; rw [show k = K by omega] at hk0; omega
  · refine p5 k ?_ hk0
    rcases Nat.lt_or_ge k K with q | q
    · exact q
    · exfalso; rw [show k = K by omega] at hk0; omega
  · rw [p6]
    exact (any_not (P := fun j => U.uw j = 0 ∨ U.uw j = 4) (f := U.sj m) (by omega)).symm
  · rw [p7]
    exact (any_not (P := fun j => U.uw j = 1 ∨ U.uw j = 4) (f := U.ut) (by omega)).symm
  · rw [p8]
    exact (any_not (P := fun j => U.uw j = 0 ∨ U.uw j = 4) (f := U.up) (by omega)).symm
end CHG2
