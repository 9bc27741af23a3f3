/-! ===== calls that ask the schema ===== -/
section SMQ
variable {S : tq_H} {c c' c1 c2 : tc_C} {di : DI} {D : Doc} {m : Nat} {U : Ups} {P : Pat} {H : Nat → Bool} {Z Z' : Sma} {X : Nat → Bool} {nw : Nat} {ed : Option Nat} {nv : Nat} {vt mv : Nat → Nat} {Dv : Nat → Doc} {t n s i : Nat} {x x1 x2 x3 x4 y4 p v : Int32} {xs : Nat → Int32} {h0 : tq_H}
theorem Cor.i141 (h : Cor S c di D m U P H Z X nw ed nv vt mv Dv) (hF : GF c D P H) (f : Nat → Int32) : Cor S (tc_I c 141 f) di D m U P H Z X nw ed nv vt mv Dv ∧ GF (tc_I c 141 f) D P H :=
  ⟨h.sc (Sc.I f (by omega)), hF.of h (Sc.I f (by omega)) (fun a _ _ => by rw [tc_I1, tc_un _ _ (by omega)]) (fun _ _ _ => rfl) (fun _ _ _ _ => rfl) (fun _ _ _ _ => rfl) rfl⟩
theorem Cor.i188 (h : Cor S c di D m U P H Z X nw ed nv vt mv Dv) (hF : GF c D P H) (f : Nat → Int32) : Cor S (tc_I c 188 f) di D m U P H Z X nw ed nv vt mv Dv ∧ GF (tc_I c 188 f) D P H :=
  ⟨h.sc (Sc.I f (by omega)), hF.of h (Sc.I f (by omega)) (fun a _ _ => by rw [tc_I1, tc_un _ _ (by omega)]) (fun _ _ _ => rfl) (fun _ _ _ _ => rfl) (fun _ _ _ _ => rfl) rfl⟩
theorem Cor.i189 (h : Cor S c di D m U P H Z X nw ed nv vt mv Dv) (hF : GF c D P H) (f : Nat → Int32) : Cor S (tc_I c 189 f) di D m U P H Z X nw ed nv vt mv Dv ∧ GF (tc_I c 189 f) D P H :=
  ⟨h.sc (Sc.I f (by omega)), hF.of h (Sc.I f (by omega)) (fun a _ _ => by rw [tc_I1, tc_un _ _ (by omega)]) (fun _ _ _ => rfl) (fun _ _ _ _ => rfl) (fun _ _ _ _ => rfl) rfl⟩
theorem Sf.sc (h : Sf c c') : Sc c c' := by
  obtain ⟨h1, h2, h3, h4, h5, h6⟩ := h
  refine ⟨fun a ha => h1 a (by omega), fun a _ => by rw [h2], fun q k hq => ?_, fun q k _ => by rw [h5], h6⟩
  by_cases e : q = 131
  · subst e; exact h4 k (by omega)
  · rw [h3 q e]
theorem GF.sf (h : GF c D P H) (hq : Cor S c di D m U P H Z X nw ed nv vt mv Dv) (k : Sf c c') : GF c' D P H := by
  obtain ⟨h1, h2, h3, h4, h5, h6⟩ := id k
  exact h.of hq k.sc (fun a _ _ => h1 a (by omega)) (fun a _ _ => by rw [h2]) (fun q k _ _ => by rw [h3 q (by omega)]) (fun q k _ _ => by rw [h5]) (by rw [h3 0 (by omega)])
theorem Cor.grant (h : Cor S c di D m U P H Z X nw ed nv vt mv Dv) : ∃ f, f_X6_admits 131 1 (tc_mk S c) = some (bI (D.ty Z 0 0), tc_mk S (tc_I c 141 f)) :=
  s_admits h.sch h.t1 (.inl (by omega)) h.gt.1.1 h.gt.2.1 h.gt.2.2.1 h.gs.1
theorem Cor.right (h : Cor S c di D m U P H Z X nw ed nv vt mv Dv) : ∃ f, f_X11_isRight 155 (tc_mk S c) = some (bI (D.ty Z 0 0), tc_mk S (tc_I c 188 f)) :=
  s_X11_isRight h.mod h.gt.1.1 h.gt.2.2.2.1 h.gt.2.2.2.2 h.gt.1.2 h.gs.2.1
/-- both sides have noted whether the schema is strict -/
theorem Cor.strict (h : Cor S c di D m U P H Z X nw ed nv vt mv Dv) (hF : GF c D P H) (b : Bool) (A : Int64) (hq : b = true → D.ty Z 0 0 = true) : InvE di (tc_mk S (tc_F (tc_F (ansC (tc_F c 131 10 (bI b)) A) 155 0 0) 155 42 (bI b))) := by
  have hs := h.gs
  exact h.sma (Z' := Z) hF (Wr.trans (Wr.trans (Wr.trans (Wr.F _ (by omega)) (Wr.A _ rfl)) (Wr.F _ (by omega))) (Wr.F _ (by omega))) ⟨hs.1, hs.2.1, b, rfl, rfl⟩ (fun z => hq (by cases b with | true => rfl | false => exact absurd (show bI false = bI true from z) (by decide)))
theorem Cor.setStrict (hC : Cor S c di D m U P H Z X nw ed nv vt mv Dv) (hF : GF c D P H) (b : Bool) : ∃ h', armB (f_V_setStrict 0 (bI b) 205 (tc_mk S c)) (f_X11_setStrict 155 (bI b)) y4 = some (.inl (y4 + 5, h')) ∧ InvE di h' := by
  have n10 : ¬ (1 : Int32) = 0 := by decide
  have z1 : tq_bz 1 = some 1 := rfl
  have z0 : tq_bz 0 = some 0 := rfl
  have b1 : ¬ bI true = 0 := by decide
  have i6 : ∀ c, tq_is (tc_mk S c) 131 6 = some () := hC.sch.is
  obtain ⟨-, -, st, s1, s2⟩ := hC.gs
  have g6 : ∀ c, tq_gr (tc_mk S c) 0 10 6 = some 131 := fun c => by simp (maxSteps := 3000000) (disch := omega) only [Option.bind_some, tc_bs, tq_let, tc_I1, tc_I2, tc_J1, tc_J2, tc_J3, tc_F1, tc_F2, tc_F3, tc_F4, tc_G1, tc_G2, tc_G3, tc_G4, tc_G5, tc_us, tc_un, s_one, s_holds, s_J13_bitCount, bz_bI, hC.tq.f]
  have g0 : ∀ c, tq_gr (tc_mk S c) 0 10 0 = some 1 := fun c => by simp (maxSteps := 3000000) (disch := omega) only [Option.bind_some, tc_bs, tq_let, tc_I1, tc_I2, tc_J1, tc_J2, tc_J3, tc_F1, tc_F2, tc_F3, tc_F4, tc_G1, tc_G2, tc_G3, tc_G4, tc_G5, tc_us, tc_un, s_one, s_holds, s_J13_bitCount, bz_bI, hC.tq.f]
  cases b with
  | false =>
    have b0 : bI false = 0 := rfl
    have e5 : f_X10_setStrict 0 (bI false) (tc_mk S c) = some (.inr (bI st), tc_mk S (tc_F c 131 10 (bI false))) := by
      simp (maxSteps := 3000000) (disch := omega) only [Option.bind_some, tc_bs, tq_let, tc_I1, tc_I2, tc_J1, tc_J2, tc_J3, tc_F1, tc_F2, tc_F3, tc_F4, tc_G1, tc_G2, tc_G3, tc_G4, tc_G5, tc_us, tc_un, s_one, s_holds, s_J13_bitCount, bz_bI, f_X10_setStrict, f_X6_markStrict, g6, hC.sch.f, i6, bI_0, s1, if_true]
    refine armB_any hC.mod hC.tq (.inl ⟨bI st, _, _, by simp (maxSteps := 3000000) (disch := omega) only [Option.bind_some, tc_bs, tq_let, tc_I1, tc_I2, tc_J1, tc_J2, tc_J3, tc_F1, tc_F2, tc_F3, tc_F4, tc_G1, tc_G2, tc_G3, tc_G4, tc_G5, tc_us, tc_un, s_one, s_holds, s_J13_bitCount, bz_bI, f_V_setStrict, hC.tq.f, e5, bL_bI]; rfl, ?_, hC.strict hF false (bL (bI st)) (fun z => by cases z), rfl, rfl⟩)
    have s2' : (tc_F c 131 10 (bI false)).2.2.1 155 42 = bI st := s2
    simp (maxSteps := 3000000) (disch := omega) only [Option.bind_some, tc_bs, tq_let, tc_I1, tc_I2, tc_J1, tc_J2, tc_J3, tc_F1, tc_F2, tc_F3, tc_F4, tc_G1, tc_G2, tc_G3, tc_G4, tc_G5, tc_us, tc_un, s_one, s_holds, s_J13_bitCount, bz_bI, f_X11_setStrict, f_X11_refused, hC.mod.f, bI_0, ans2, s2', s2, z0, n10, if_true, if_false]
  | true =>
    obtain ⟨f, e1⟩ := hC.grant
    obtain ⟨hC1, hF1⟩ := hC.i141 hF f
    cases hv : D.ty Z 0 0 with
    | true =>
      rw [hv] at e1
      have e5 : f_X10_setStrict 0 (bI true) (tc_mk S c) = some (.inr (bI st), tc_mk S (tc_F (tc_I c 141 f) 131 10 (bI true))) := by
        simp (maxSteps := 3000000) (disch := omega) only [Option.bind_some, tc_bs, tq_let, tc_I1, tc_I2, tc_J1, tc_J2, tc_J3, tc_F1, tc_F2, tc_F3, tc_F4, tc_G1, tc_G2, tc_G3, tc_G4, tc_G5, tc_us, tc_un, s_one, s_holds, s_J13_bitCount, bz_bI, f_X10_setStrict, f_X6_markStrict, g6, g0, hC.sch.f, i6, b1, s1, e1, if_true, if_false]
      have k : Wr z1w u2 z3w u4 (tc_I c 141 f) (ansC (tc_F (tc_I c 141 f) 131 10 (bI true)) (bL (bI st))) := (Wr.F _ (by omega)).trans (Wr.A _ rfl)
      have hg := hC1.gt.wr k (fun a _ => by omega) (fun a _ => by omega) (fun q k _ => by omega) (fun _ _ _ z => z)
      obtain ⟨f2, e6⟩ := s_X11_isRight (S := S) (Z := Z) hC.mod hg.1.1 hg.2.2.2.1 hg.2.2.2.2 hg.1.2 hC.gs.2.1
      rw [hv] at e6
      obtain ⟨hC2, hF2⟩ := hC1.i188 hF1 f2
      refine armB_any hC.mod hC.tq (.inl ⟨bI st, tc_F (tc_I c 141 f) 131 10 (bI true), tc_F (tc_F (ansC (tc_F (tc_I (tc_I c 141 f) 188 f2) 131 10 (bI true)) (bL (bI st))) 155 0 0) 155 42 (bI true), by simp (maxSteps := 3000000) (disch := omega) only [Option.bind_some, tc_bs, tq_let, tc_I1, tc_I2, tc_J1, tc_J2, tc_J3, tc_F1, tc_F2, tc_F3, tc_F4, tc_G1, tc_G2, tc_G3, tc_G4, tc_G5, tc_us, tc_un, s_one, s_holds, s_J13_bitCount, bz_bI, f_V_setStrict, hC.tq.f, e5, bL_bI]; rfl, ?_, hC2.strict hF2 true (bL (bI st)) (fun _ => hv), rfl, rfl⟩)
      have s2' : (tc_F (tc_I c 141 f) 131 10 (bI true)).2.2.1 155 42 = bI st := s2
      have e6 : f_X11_isRight 155 (tc_mk S (ansC (tc_F (tc_I c 141 f) 131 10 (bI true)) (bL (bI st)))) = some (bI true, tc_mk S (ansC (tc_F (tc_I (tc_I c 141 f) 188 f2) 131 10 (bI true)) (bL (bI st)))) := e6
      have s3' : (tc_F (tc_I (tc_I c 141 f) 188 f2) 131 10 (bI true)).2.2.1 155 42 = bI st := s2
      simp (maxSteps := 3000000) (disch := omega) only [Option.bind_some, tc_bs, tq_let, tc_I1, tc_I2, tc_J1, tc_J2, tc_J3, tc_F1, tc_F2, tc_F3, tc_F4, tc_G1, tc_G2, tc_G3, tc_G4, tc_G5, tc_us, tc_un, s_one, s_holds, s_J13_bitCount, bz_bI, f_X11_setStrict, f_X11_refused, hC.mod.f, b1, e6, ans2, s3', s2, z0, n10, if_true, if_false]
    | false =>
      rw [hv] at e1
      have b0 : bI false = 0 := rfl
      have e5 : f_X10_setStrict 0 (bI true) (tc_mk S c) = some (.inl "java/lang/IllegalStateException", tc_mk S (tc_I c 141 f)) := by
        simp (maxSteps := 3000000) (disch := omega) only [Option.bind_some, tc_bs, tq_let, tc_I1, tc_I2, tc_J1, tc_J2, tc_J3, tc_F1, tc_F2, tc_F3, tc_F4, tc_G1, tc_G2, tc_G3, tc_G4, tc_G5, tc_us, tc_un, s_one, s_holds, s_J13_bitCount, bz_bI, f_X10_setStrict, g6, g0, i6, b1, e1, b0, if_true, if_false]
      obtain ⟨f2, e6⟩ := hC1.right
      rw [hv] at e6
      obtain ⟨hC2, hF2⟩ := hC1.i188 hF1 f2
      refine armB_any hC.mod hC.tq (.inr ⟨1, 0, tc_I c 141 f, _, by decide, by simp (maxSteps := 3000000) (disch := omega) only [Option.bind_some, tc_bs, tq_let, tc_I1, tc_I2, tc_J1, tc_J2, tc_J3, tc_F1, tc_F2, tc_F3, tc_F4, tc_G1, tc_G2, tc_G3, tc_G4, tc_G5, tc_us, tc_un, s_one, s_holds, s_J13_bitCount, bz_bI, f_V_setStrict, hC.tq.f, e5, if_true], ?_, hC2.fin hF2 1, rfl⟩)
      simp (maxSteps := 3000000) (disch := omega) only [Option.bind_some, tc_bs, tq_let, tc_I1, tc_I2, tc_J1, tc_J2, tc_J3, tc_F1, tc_F2, tc_F3, tc_F4, tc_G1, tc_G2, tc_G3, tc_G4, tc_G5, tc_us, tc_un, s_one, s_holds, s_J13_bitCount, bz_bI, f_X11_setStrict, f_X11_refused, hC.mod.f, b1, e6, b0, z1, n10, if_true, if_false]
theorem arm_setStrict (h : InvE di h0) (e1 : tq_sx n xs (y4 + 1) = some x1) : ∃ h', f_V_law_c2660 n xs 0 155 205 y4 h0 = some (.inl (y4 + 5, h')) ∧ InvE di h' := by
  obtain ⟨S, c, D, m, U, P, H, Z, X, nw, ed, nv, vt, mv, Dv, rfl, hC, hF⟩ := h
  have e0 : f_V_law_c2660 n xs 0 155 205 y4 (tc_mk S c) = armB (f_V_setStrict 0 (if x1 = 0 then 0 else 1) 205 (tc_mk S c)) (f_X11_setStrict 155 (if x1 = 0 then 0 else 1)) y4 := by
    unfold f_V_law_c2660; rw [e1]; rfl
  rw [e0, if_bI]
  exact hC.setStrict hF _
theorem arm_isValid (h : InvE di h0) : ∃ h', f_V_law_c2739 n xs 0 155 205 y4 h0 = some (.inl (y4 + 5, h')) ∧ InvE di h' := by
  obtain ⟨S, c, D, m, U, P, H, Z, X, nw, ed, nv, vt, mv, Dv, rfl, hC, hF⟩ := h
  obtain ⟨f, e1⟩ := hC.grant
  obtain ⟨hC1, hF1⟩ := hC.i141 hF f
  have hC2 := hC1.sc (thr_sc _ 0)
  have hF2 := hF1.thr hC1 0
  obtain ⟨f2, e2⟩ := hC2.right
  obtain ⟨hC3, hF3⟩ := hC2.i188 hF2 f2
  refine ⟨_, ?_, S, _, D, m, U, P, H, Z, X, nw, ed, nv, vt, mv, Dv, rfl, hC3, hF3⟩
  have i6 : ∀ c, tq_is (tc_mk S c) 131 6 = some () := hC.sch.is
  simp (maxSteps := 3000000) (disch := omega) only [Option.bind_some, tc_bs, tq_let, tc_I1, tc_I2, tc_J1, tc_J2, tc_J3, tc_F1, tc_F2, tc_F3, tc_F4, tc_G1, tc_G2, tc_G3, tc_G4, tc_G5, tc_us, tc_un, s_one, s_holds, s_J13_bitCount, bz_bI, f_V_law_c2739, f_X10_isValid, f_X11_isValid, hC.tq.f, hC.mod.f, i6, e1, e2, if_true]
theorem arm_types (h : InvE di h0) (e1 : tq_sx n xs (y4 + 1) = some x1) : ∃ h', f_V_law_c2752 n xs 0 155 205 y4 h0 = some (.inl (y4 + 5, h')) ∧ InvE di h' := by
  obtain ⟨S, c, D, m, U, P, H, Z, X, nw, ed, nv, vt, mv, Dv, rfl, hC, hF⟩ := h
  have e0 : f_V_law_c2752 n xs 0 155 205 y4 (tc_mk S c) = armI (f_V_types 0 x1 205 (tc_mk S c)) (f_X11_types 155 x1) y4 := by
    unfold f_V_law_c2752; rw [e1]; rfl
  rw [e0]
  have n10 : ¬ (1 : Int32) = 0 := by decide
  have i6 : ∀ c, tq_is (tc_mk S c) 131 6 = some () := hC.sch.is
  rcases D.at_or x1 with ⟨i, hi⟩ | hi
  · obtain ⟨hin, rfl⟩ := id hi
    have h60 := D.ord_lt hC.gt.1.1 hin
    obtain ⟨f, e2⟩ := s_typesOf (S := S) hC.sch hC.t1 (.inl (by omega)) hC.gt.1.1 hC.gt.2.1 hC.gt.2.2.1 hC.gs.1 hin
    obtain ⟨hC1, hF1⟩ := hC.i141 hF f
    have hCa := hC1.sc (ans_sc _ (tI (D.ty Z i) 6).toInt64)
    have hFa := hF1.ans hC1 (tI (D.ty Z i) 6).toInt64
    have hC2 := hCa.sc (thr_sc _ 0)
    have hF2 := hFa.thr hCa 0
    obtain ⟨f2, e3, e4⟩ := s_X11_findTypes (S := S) hC2.mod hC2.gt.1.1 hC2.gt.2.2.2.1 hC2.gt.2.2.2.2 hC2.gt.1.2 hC2.gs.2.1
    obtain ⟨hC3, hF3⟩ := hC2.i188 hF2 f2
    have e5 : f_X10_types 0 (nI (D.ord i)) (tc_mk S c) = some (.inr (tI (D.ty Z i) 6), tc_mk S (tc_I c 141 f)) := by
      simp (maxSteps := 3000000) (disch := omega) only [Option.bind_some, tc_bs, tq_let, tc_I1, tc_I2, tc_J1, tc_J2, tc_J3, tc_F1, tc_F2, tc_F3, tc_F4, tc_G1, tc_G2, tc_G3, tc_G4, tc_G5, tc_us, tc_un, s_one, s_holds, s_J13_bitCount, bz_bI, f_X10_types, hC.tq.f, hC.t1.f, hC.need hi, tb_r, i6, hC.spot hi, e2]
    refine armI_any hC.mod hC.tq (.inl ⟨tI (D.ty Z i) 6, _, _, by simp (maxSteps := 3000000) (disch := omega) only [Option.bind_some, tc_bs, tq_let, tc_I1, tc_I2, tc_J1, tc_J2, tc_J3, tc_F1, tc_F2, tc_F3, tc_F4, tc_G1, tc_G2, tc_G3, tc_G4, tc_G5, tc_us, tc_un, s_one, s_holds, s_J13_bitCount, bz_bI, f_V_types, hC.tq.f, e5]; rfl, ?_, ⟨S, _, D, m, U, P, H, Z, X, nw, ed, nv, vt, mv, Dv, rfl, hC3, hF3⟩, rfl, rfl⟩)
    have e6 := e4 i hin
    have e7 := hCa.noN hi
    simp (maxSteps := 3000000) (disch := omega) only [Option.bind_some, tc_bs, tq_let, tc_I1, tc_I2, tc_J1, tc_J2, tc_J3, tc_F1, tc_F2, tc_F3, tc_F4, tc_G1, tc_G2, tc_G3, tc_G4, tc_G5, tc_us, tc_un, s_one, s_holds, s_J13_bitCount, bz_bI, f_X11_types, hC.mod.f, e7, e3, e6, if_true]
  · have e5 : f_X10_types 0 x1 (tc_mk S c) = some (.inl "java/lang/IndexOutOfBoundsException", tc_mk S c) := by
      simp (maxSteps := 3000000) (disch := omega) only [Option.bind_some, tc_bs, tq_let, tc_I1, tc_I2, tc_J1, tc_J2, tc_J3, tc_F1, tc_F2, tc_F3, tc_F4, tc_G1, tc_G2, tc_G3, tc_G4, tc_G5, tc_us, tc_un, s_one, s_holds, s_J13_bitCount, bz_bI, f_X10_types, hC.tq.f, hC.need_n hi, tb_l]
    refine arm_read hC hF (.inr ⟨1, 0, by decide, by simp (maxSteps := 3000000) (disch := omega) only [Option.bind_some, tc_bs, tq_let, tc_I1, tc_I2, tc_J1, tc_J2, tc_J3, tc_F1, tc_F2, tc_F3, tc_F4, tc_G1, tc_G2, tc_G3, tc_G4, tc_G5, tc_us, tc_un, s_one, s_holds, s_J13_bitCount, bz_bI, f_V_types, hC.tq.f, e5, if_true], ?_⟩)
    simp (maxSteps := 3000000) (disch := omega) only [Option.bind_some, tc_bs, tq_let, tc_I1, tc_I2, tc_J1, tc_J2, tc_J3, tc_F1, tc_F2, tc_F3, tc_F4, tc_G1, tc_G2, tc_G3, tc_G4, tc_G5, tc_us, tc_un, s_one, s_holds, s_J13_bitCount, bz_bI, f_X11_types, hC.mod.f, hC.noN_n hi, n10, if_false]
theorem arm_infer (h : InvE di h0) (e1 : tq_sx n xs (y4 + 1) = some x1) : ∃ h', f_V_law_c2808 n xs 0 155 205 y4 h0 = some (.inl (y4 + 5, h')) ∧ InvE di h' := by
  obtain ⟨S, c, D, m, U, P, H, Z, X, nw, ed, nv, vt, mv, Dv, rfl, hC, hF⟩ := h
  have e0 : f_V_law_c2808 n xs 0 155 205 y4 (tc_mk S c) = armI (f_V_infer 0 x1 205 (tc_mk S c)) (f_X11_infer 155 x1) y4 := by
    unfold f_V_law_c2808; rw [e1]; rfl
  rw [e0]
  have n10 : ¬ (1 : Int32) = 0 := by decide
  have z1 : tq_bz 1 = some 1 := rfl
  have b0 : bI false = 0 := rfl
  have i6 : ∀ c, tq_is (tc_mk S c) 131 6 = some () := hC.sch.is
  obtain ⟨pc, pr, hP⟩ := hC.gp
  have h20 := hP.1
  by_cases qp : 0 ≤ x1 ∧ x1 < nI P.n
  · have cn := (hC.npath x1).1 qp
    obtain ⟨p, hp31, rfl⟩ := nI_of (Int32.not_lt.mpr qp.1)
    have hp : p < P.n := (nI_ltI hp31 (by omega)).mp qp.2
    obtain ⟨c1, e2, k2⟩ := s_tell (S := S) hC.sch hC.pth hC.gs.1 pc hP hp
    have hC1 := hC.sc k2.sc
    have hF1 := hF.sf hC k2
    have hCa := hC1.sc (ans_sc _ (tI (Z.CF P p 0) 8).toInt64)
    have hFa := hF1.ans hC1 (tI (Z.CF P p 0) 8).toInt64
    obtain ⟨f, e3⟩ := s_infer (S := S) hC.mod hCa.gs.2.1 hCa.gp.2.1 hP hp
    have hC2 := hCa.sc (thr_sc _ 0)
    have hF2 := hFa.thr hCa 0
    obtain ⟨hC3, hF3⟩ := hC2.i189 hF2 f
    have e5 : f_X10_infer 0 (nI p) (tc_mk S c) = some (.inr (tI (Z.CF P p 0) 8), tc_mk S c1) := by
      simp (maxSteps := 3000000) (disch := omega) only [Option.bind_some, tc_bs, tq_let, tc_I1, tc_I2, tc_J1, tc_J2, tc_J3, tc_F1, tc_F2, tc_F3, tc_F4, tc_G1, tc_G2, tc_G3, tc_G4, tc_G5, tc_us, tc_un, s_one, s_holds, s_J13_bitCount, bz_bI, f_X10_infer, hC.tq.f, cn, tb_r, i6, e2]
    exact armI_any hC.mod hC.tq (.inl ⟨tI (Z.CF P p 0) 8, _, _, by simp (maxSteps := 3000000) (disch := omega) only [Option.bind_some, tc_bs, tq_let, tc_I1, tc_I2, tc_J1, tc_J2, tc_J3, tc_F1, tc_F2, tc_F3, tc_F4, tc_G1, tc_G2, tc_G3, tc_G4, tc_G5, tc_us, tc_un, s_one, s_holds, s_J13_bitCount, bz_bI, f_V_infer, hC.tq.f, e5]; rfl, e3, ⟨S, _, D, m, U, P, H, Z, X, nw, ed, nv, vt, mv, Dv, rfl, hC3, hF3⟩, rfl, rfl⟩)
  · have cn := (hC.npath x1).2 qp
    have isp := s_X11_isPath (S := S) hC.mod pr.1 hP x1
    rw [decide_eq_false qp] at isp
    have e5 : f_X10_infer 0 x1 (tc_mk S c) = some (.inl "java/lang/IndexOutOfBoundsException", tc_mk S c) := by
      simp (maxSteps := 3000000) (disch := omega) only [Option.bind_some, tc_bs, tq_let, tc_I1, tc_I2, tc_J1, tc_J2, tc_J3, tc_F1, tc_F2, tc_F3, tc_F4, tc_G1, tc_G2, tc_G3, tc_G4, tc_G5, tc_us, tc_un, s_one, s_holds, s_J13_bitCount, bz_bI, f_X10_infer, hC.tq.f, cn, tb_l]
    refine arm_read hC hF (.inr ⟨1, 0, by decide, by simp (maxSteps := 3000000) (disch := omega) only [Option.bind_some, tc_bs, tq_let, tc_I1, tc_I2, tc_J1, tc_J2, tc_J3, tc_F1, tc_F2, tc_F3, tc_F4, tc_G1, tc_G2, tc_G3, tc_G4, tc_G5, tc_us, tc_un, s_one, s_holds, s_J13_bitCount, bz_bI, f_V_infer, hC.tq.f, e5, if_true], ?_⟩)
    simp (maxSteps := 3000000) (disch := omega) only [Option.bind_some, tc_bs, tq_let, tc_I1, tc_I2, tc_J1, tc_J2, tc_J3, tc_F1, tc_F2, tc_F3, tc_F4, tc_G1, tc_G2, tc_G3, tc_G4, tc_G5, tc_us, tc_un, s_one, s_holds, s_J13_bitCount, bz_bI, f_X11_infer, f_X11_refused, hC.mod.f, isp, b0, z1, n10, if_true, if_false]
end SMQ
