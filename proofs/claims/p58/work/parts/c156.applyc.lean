/-! ===== all updates are done: the class; the call ===== -/
abbrev bq1 (a : Nat) : Prop := (41 ≤ a ∧ a ≤ 80) ∨ a = 97 ∨ a = 141
abbrev bq2 (a : Nat) : Prop := 41 ≤ a ∧ a ≤ 80
abbrev bq3 (q _k : Nat) : Prop := 41 ≤ q ∧ q ≤ 80
abbrev bq4 (q _k : Nat) : Prop := 41 ≤ q ∧ q ≤ 81
section APC
variable {S : tq_H} {c c' c1 c2 d d1 e : tc_C} {di : Doc → Doc → Int32} {D E : Doc} {m M : Nat} {U U' : Ups} {P : Pat} {H : Nat → Bool} {Z : Sma} {X : Nat → Bool} {nw : Nat} {ed : Option Nat} {nv : Nat} {vt mv : Nat → Nat} {Dv : Nat → Doc} {p q r k b i j n z : Nat} {x1 y4 : Int32} {xs : Nat → Int32} {h0 : tq_H} {N N' : Nat → Int32} {Q : Nat → Bool}
theorem Bf.wr (h : Bf 41 81 c c') : Wr bq1 bq2 bq3 bq4 c c' := by
  obtain ⟨h1, h2, h3, h4, h5⟩ := h
  exact ⟨fun a ha => h1 a (by omega) (by omega), fun a ha => h2 a (by omega), fun q k hq => congrFun (h3 q (by omega)) k, fun q k hq => congrFun (h4 q (by omega) (by omega)) k, h5⟩
/-- the class has built the tree -/
theorem Cor.buildC (h : Cor S c di D m U P H Z X nw ed nv vt mv Dv) (hok : U.ok) (hr : m + U.ins U.n ≤ 60) :
    ∃ c1, f_X9_build 81 1 41 (tc_mk S c) = some (tc_mk S c1) ∧ Lay c1 41 (U.doc m D) ∧ Nod c1 41 (U.doc m D) (m + U.ins U.n) ∧ (∃ r, f_X8_isTangled 41 (tc_mk S c1) = some (bI r) ∧ (r = true ↔ U.cyc m D)) ∧ (∃ r, f_X8_hasTwins 41 (tc_mk S c1) = some (bI r) ∧ (r = true ↔ (U.doc m D).tw)) ∧
      (∀ i, i < D.n → c1.1 74 (D.ord i) = c.1 34 (D.ord i)) ∧ (∀ k, k < U.n → U.uw k = 0 → c1.1 74 (m + U.ins k) = -1) ∧ c1.2.2.2.1 81 8 = mkS (U.fr m U.n) ∧ Wr bq1 bq2 bq3 bq4 c c1 := by
  have hT := h.1.2.1.2
  have hw := h.gt.1.1
  obtain ⟨u1, u2, u3⟩ := h.gu
  obtain ⟨c1, b1, b2, b3, b4, b5, b6⟩ := s_X9_build (S := S) hT h.t1 h.upc ⟨by omega, by omega⟩ hw u3 hok hr h.gt.2.1 h.gt.2.2.1 u1
  have hwE := U.doc_wf hw u3 hok hr
  have t1 := s_tangled (S := S) hT hw u3 hok hr b3.2.2.1 b4
  have t2 := s_X8_hasTwins (S := S) hT hwE b2
  obtain ⟨-, -, v3, v4, -, v6, -⟩ := b5
  exact ⟨c1, b1, b2, b3, t1, t2, v3, v4, v6, b6.wr⟩
theorem Doc.fit_cg (h0 : D.kp Q 0 = true) (hN : ∀ t, D.kp Q t = true → N' (D.ord t) = N (D.ord t)) : D.fitN Q N' ↔ D.fitN Q N :=
  ⟨fun w j hj hq => ((Doc.nwN_cg h0 (Nat.le_of_lt hj) hN).2).mp (w j hj hq), fun w j hj hq => ((Doc.nwN_cg h0 (Nat.le_of_lt hj) hN).2).mpr (w j hj hq)⟩
/-- a node of the new document: old, or inserted -/
theorem Ups.doc_In (hw : D.wf) (hu : U.wf m D) (hok : U.ok) (hr : m + U.ins U.n ≤ 60) (hj : j < (U.doc m D).n) : U.In m D U.n ((U.doc m D).ord j) ∧ (U.doc m D).kd j = (U.new m D).1 ((U.doc m D).ord j) :=
  ⟨U.rch_In hw hu (mkF_rch (U.frs hw hu hok hr) hj), rfl⟩
/-- a kept solid is an old one -/
theorem Ups.kp_old (hw : D.wf) (hu : U.wf m D) (hok : U.ok) (hr : m + U.ins U.n ≤ 60) (hk : (U.doc m D).kp ((U.doc m D).frQ (U.fr m U.n)) j = true) : ∃ i, i < D.n ∧ (U.doc m D).ord j = D.ord i ∧ D.kd i ≠ 2 := by
  obtain ⟨k1, k2, k3⟩ := Doc.kp_iff.mp hk
  obtain ⟨a1, a2⟩ := U.doc_In hw hu hok hr k1
  rcases a1 with ⟨i, i1, i2⟩ | ⟨k, i1, i2, i3⟩
  · refine ⟨i, i1, i2, ?_⟩
    rw [a2, i2, U.new_old hw hu i1] at k2; exact k2
  · exfalso
    rw [Doc.frQ_an k1] at k3
    have hf : (U.doc m D).anB (U.fr m U.n) j = true := Doc.anB_iff.mpr ⟨j, k1, by
      rw [i3]
      exact anyB_iff.mpr ⟨k, i1, decide_eq_true ⟨.inl i2, by unfold Ups.sj; rw [if_pos i2]⟩⟩, .inl rfl⟩
    rw [hf, decide_eq_true k2] at k3; cases k3
/-- an attribute has no number -/
theorem Ups.att_old (hw : D.wf) (hu : U.wf m D) (hok : U.ok) (hr : m + U.ins U.n ≤ 60) (hj : j < (U.doc m D).n) (hk : (U.doc m D).kd j = 2) : (∃ i, i < D.n ∧ (U.doc m D).ord j = D.ord i ∧ D.kd i = 2) ∨ ∃ k, k < U.n ∧ U.uw k = 0 ∧ (U.doc m D).ord j = m + U.ins k := by
  obtain ⟨a1, a2⟩ := U.doc_In hw hu hok hr hj
  rcases a1 with ⟨i, i1, i2⟩ | ⟨k, i1, i2, i3⟩
  · exact .inl ⟨i, i1, i2, by rw [a2, i2, U.new_old hw hu i1] at hk; exact hk⟩
  · exact .inr ⟨k, i1, i2, i3⟩
/-- the class numbers the new tree -/
theorem Cor.numC (h : Cor S c di D m U P H Z X nw ed nv vt mv Dv) (hok : U.ok) (hr : m + U.ins U.n ≤ 60) (hT : tc_Tree S 41) (hL : Lay c2 41 (U.doc m D)) (n1 : ∀ i, i < D.n → c2.1 74 (D.ord i) = c.1 34 (D.ord i)) (n2 : ∀ k, k < U.n → U.uw k = 0 → c2.1 74 (m + U.ins k) = -1) (h14 : c2.2.2.1 0 14 = c.2.2.1 0 14) (hq : tc_Tq S ed) (tl : tq_H → Option tq_H) :
    ∃ r c3 c5, f_X8_numberFresh 41 (mkS (U.fr m U.n)) (tc_mk S c2) = some (bI r, tc_mk S c3) ∧ (r = true → c5 = c3) ∧ (r = false → ∃ c4, f_X8_numberAnew 41 (tc_mk S c3) = some (tc_mk S c4) ∧ c4.2.2.1 0 14 = c.2.2.1 0 14 ∧ c5 = tc_F c4 0 14 (c.2.2.1 0 14 + 1)) ∧
      (r = true ↔ (U.doc m D).fitN ((U.doc m D).frQ (U.fr m U.n)) (c.1 162)) ∧
      (r = true → ∀ f, Nb f 162 (U.doc m D) ((U.doc m D).frQ (U.fr m U.n)) (c.1 162) → ∀ j, j < (U.doc m D).n → (U.doc m D).kd j ≠ 2 → c5.1 74 ((U.doc m D).ord j) = f.1 162 ((U.doc m D).ord j)) ∧
      (r = false → ∀ f, Na f 162 (U.doc m D) (c.1 162) → ∀ j, j < (U.doc m D).n → (U.doc m D).kd j ≠ 2 → c5.1 74 ((U.doc m D).ord j) = f.1 162 ((U.doc m D).ord j)) ∧
      (∀ j, j < (U.doc m D).n → (U.doc m D).kd j = 2 → c5.1 74 ((U.doc m D).ord j) = -1) ∧
      c5.2.2.1 0 14 = (if r then c.2.2.1 0 14 else c.2.2.1 0 14 + 1) ∧ Wr (fun a => a = 74) uc2 (fun q k => q = 0 ∧ k = 14) u4 c2 c5 := by
  have hw := h.gt.1.1
  have hu := h.gu.2.2
  have hwE := U.doc_wf hw hu hok hr
  have hm60 := h.gt.2.2.1.1
  have f0 := U.fr0 hw hu
  have h0 := Doc.kp0 hwE f0
  obtain ⟨r, c3, a1, a2, a3, a4, a5, a6⟩ := s_X8_numberFresh (S := S) (N := c2.1 74) hT hwE hL (fr := U.fr m U.n) (by rw [(U.doc m D).ord_0 hwE]; exact f0) rfl
  have hN : ∀ t, (U.doc m D).kp ((U.doc m D).frQ (U.fr m U.n)) t = true → c2.1 74 ((U.doc m D).ord t) = c.1 162 ((U.doc m D).ord t) := fun t ht => by
    obtain ⟨i, i1, i2, i3⟩ := U.kp_old hw hu hok hr ht
    rw [i2, n1 i i1]
    exact h.2.2.1.1 i i1 i3
  have a2' : r = true ↔ (U.doc m D).fitN ((U.doc m D).frQ (U.fr m U.n)) (c.1 162) := a2.trans (Doc.fit_cg h0 hN)
  have k3 : Wr (fun a => a = 74) uc2 (fun q k => q = 0 ∧ k = 14) u4 c2 c3 := ⟨fun a ha => a5 a ha, fun a _ => by rw [a6], fun q k _ => by rw [a6], fun q k _ => by rw [a6], by rw [a6]⟩
  have hat : ∀ j, j < (U.doc m D).n → (U.doc m D).kd j = 2 → c3.1 74 ((U.doc m D).ord j) = -1 := fun j hj hk => by
    have e := a4 ((U.doc m D).ord j) (fun j' hj' hk' z => by
      have := (U.doc m D).ord_inj hwE hj' hj z
      subst this; exact hk' hk)
    rw [show c3.1 74 ((U.doc m D).ord j) = _ from e]
    rcases U.att_old hw hu hok hr hj hk with ⟨i, i1, i2, i3⟩ | ⟨k, i1, i2, i3⟩
    · rw [i2, n1 i i1]; exact h.2.2.1.2.1 i i1 i3
    · rw [i3]; exact n2 k i1 i2
  cases hr2 : r with
  | true =>
    rw [hr2] at a1 a2'
    refine ⟨true, c3, c3, a1, fun _ => rfl, (fun z => by cases z), a2', fun _ f hf j hj hk => ?_, (fun z => by cases z), hat, by rw [a6]; exact h14, k3⟩
    have hb := a3 hr2
    cases hq : (U.doc m D).frQ (U.fr m U.n) j with
    | true =>
      rw [show c3.1 74 ((U.doc m D).ord j) = _ from hb.1 j hq, hf.1 j hq]
      exact (Doc.nwN_cg h0 (Nat.le_of_lt hj) hN).1
    | false =>
      have hno : ∀ j', (U.doc m D).frQ (U.fr m U.n) j' = true → (U.doc m D).ord j' ≠ (U.doc m D).ord j := fun j' hj' z => by
        have hj2 : j' < (U.doc m D).n := by
          unfold Doc.frQ at hj'
          rw [Bool.and_eq_true] at hj'
          exact (of_decide_eq_true hj'.2).1
        have := (U.doc m D).ord_inj hwE hj2 hj z
        subst this; rw [hq] at hj'; cases hj'
      rw [show c3.1 74 ((U.doc m D).ord j) = _ from hb.2 _ hno, hf.2 _ hno]
      exact hN j (Doc.kp_iff.mpr ⟨hj, hk, hq⟩)
  | false =>
    rw [hr2] at a1 a2'
    have hL3 : Lay c3 41 (U.doc m D) := hL.pt (fun a _ _ => a5 a (by omega)) (fun a _ _ => by rw [a6]) (by rw [a6]) (by rw [a6]) (by rw [a6])
    have e4 : f_X8_numberAnew 41 (tc_mk S c3) = some (tc_mk S (tc_I c3 74 ((U.doc m D).numF (c3.1 74) (U.doc m D).n))) := s_X8_numberAnew (S := S) hT hwE hL3
    refine ⟨false, c3, tc_F (tc_I c3 74 ((U.doc m D).numF (c3.1 74) (U.doc m D).n)) 0 14 (c.2.2.1 0 14 + 1), a1, (fun z => by cases z), fun _ => ⟨_, e4, by show c3.2.2.1 0 14 = _; rw [a6]; exact h14, rfl⟩, a2', (fun z => by cases z), fun _ f hf j hj hk => ?_, fun j hj hk => ?_, by rw [tc_F3, tc_us, tc_us]; rfl, (k3.trans (Wr.I _ rfl)).trans (Wr.F _ ⟨rfl, rfl⟩)⟩
    · rw [tc_F1, tc_I1, tc_us, (U.doc m D).numF_at hwE _ hj _ (Nat.le_refl _), if_pos ⟨hj, hk⟩, hf.1 j hj hk]
    · rw [tc_F1, tc_I1, tc_us, (U.doc m D).numF_at hwE _ hj _ (Nat.le_refl _), if_neg (fun z => z.2 hk)]
      exact hat j hj hk
theorem Ups.mty (hn : U.n = 0) (hm : M ≤ 60) (ho : ∀ i, i < E.n → E.ord i < M) : U.wf M E := by
  refine ⟨⟨by omega, hm, ho⟩, ?_, ?_, ?_, ?_, ?_, ?_, ?_⟩ <;> intro j hj <;> omega
set_option maxHeartbeats 8000000 in
theorem arm_apply (h : InvE di h0) : ∃ h', f_V_law_c852 n xs 0 155 205 y4 h0 = some (.inl (y4 + 5, h')) ∧ InvE di h' := by
  obtain ⟨S, c, D, m, U, P, H, Z, X, nw, ed, nv, vt, mv, Dv, rfl, hC, hF⟩ := h
  have e0 : f_V_law_c852 n xs 0 155 205 y4 (tc_mk S c) = armI (f_V_apply 0 205 (tc_mk S c)) (f_X11_apply 155) y4 := rfl
  rw [e0]
  have n10 : ¬ (1 : Int32) = 0 := by decide
  have z0 : tq_bz 0 = some 0 := rfl
  have z1 : tq_bz 1 = some 1 := rfl
  have b0 : bI false = 0 := rfl
  have b1 : ¬ bI true = 0 := by decide
  have i6 : ∀ c, tq_is (tc_mk S c) 131 6 = some () := hC.sch.is
  have i81 : ∀ c, tq_is (tc_mk S c) 81 9 = some () := fun c => by simp (maxSteps := 3000000) (disch := omega) only [Option.bind_some, tc_bs, tq_let, tc_I1, tc_I2, tc_J1, tc_J2, tc_J3, tc_F1, tc_F2, tc_F3, tc_F4, tc_G1, tc_G2, tc_G3, tc_G4, tc_G5, tc_us, tc_un, s_one, s_holds, s_J13_bitCount, bz_bI, hC.upc.f]
  have hT := hC.1.2.1.2
  have i41 : ∀ c, tq_is (tc_mk S c) 41 8 = some () := fun c => by simp (maxSteps := 3000000) (disch := omega) only [Option.bind_some, tc_bs, tq_let, tc_I1, tc_I2, tc_J1, tc_J2, tc_J3, tc_F1, tc_F2, tc_F3, tc_F4, tc_G1, tc_G2, tc_G3, tc_G4, tc_G5, tc_us, tc_un, s_one, s_holds, s_J13_bitCount, bz_bI, hT.f]
  have hw := hC.gt.1.1
  have hu := hC.gu.2.2
  have hm60 := hC.gt.2.2.1.1
  obtain ⟨pv, hpv⟩ := hC.pv
  obtain ⟨r, l1, l2⟩ := s_X9_canBeDone (S := S) hC.t1 hC.upc hw hC.gt.2.1 hC.gt.2.2.1 hu hC.gu.1
  by_cases hdo : U.ok ∧ m + U.ins U.n ≤ 60
  · have hr1 : r = true := l2.mpr hdo
    rw [hr1] at l1
    obtain ⟨hok, hr⟩ := hdo
    have hwE := U.doc_wf hw hu hok hr
    obtain ⟨c1, b1', b2, b3, ⟨rt, t1, t2⟩, ⟨rw', w1, w2⟩, n1, n2, n8, kb⟩ := hC.buildC hok hr
    -- where the class throws
    have bad : ∀ d, Wr bq1 bq2 bq3 bq4 c d → (U.cyc m D ∨ (U.doc m D).tw ∨ (c.2.2.1 155 42 ≠ 0 ∧ (U.doc m D).ty Z 0 0 = false)) → f_X10_apply 0 (tc_mk S c) = some (.inl "java/lang/IllegalStateException", tc_mk S d) → ∃ h', armI (f_V_apply 0 205 (tc_mk S c)) (f_X11_apply 155) y4 = some (.inl (y4 + 5, h')) ∧ InvE di h' := by
      intro d kd hbad e5
      obtain ⟨e, a1, a2, a3, a4, a5, a6⟩ := (hC.applyR (e := d) (kd.mono (fun a z => by omega) (fun a z => by omega) (fun q k z => by omega) (fun q k z => by omega)) pv hpv).2.1 ⟨hok, hr⟩ hbad
      refine armI_any hC.mod hC.tq (.inr ⟨1, 0, d, e, by decide, by simp (maxSteps := 3000000) (disch := omega) only [Option.bind_some, tc_bs, tq_let, tc_I1, tc_I2, tc_J1, tc_J2, tc_J3, tc_F1, tc_F2, tc_F3, tc_F4, tc_G1, tc_G2, tc_G3, tc_G4, tc_G5, tc_us, tc_un, s_one, s_holds, s_J13_bitCount, bz_bI, f_V_apply, hC.tq.f, e5, if_true], a1, ?_, a4⟩)
      exact hC.back hF ((kd.mono (fun a z => by omega) (fun a z => by omega) (fun q k z => by omega) (fun q k z => by omega)).trans (a6.mono (fun a z => by omega) (fun _ z => z.elim) (fun q k z => by omega) (fun _ _ z => z.elim))) a2 a3 (fun v hv => by rw [a5 v hv, kd.1 156 (by omega)])
    -- where all is well
    have good : ∀ c2, Wr bq1 bq2 bq3 bq4 c c2 → Lay c2 41 (U.doc m D) → Nod c2 41 (U.doc m D) (m + U.ins U.n) → c2.1 74 = c1.1 74 → c2.2.2.2.1 81 8 = mkS (U.fr m U.n) → ¬ (U.cyc m D ∨ (U.doc m D).tw ∨ (c.2.2.1 155 42 ≠ 0 ∧ (U.doc m D).ty Z 0 0 = false)) →
        (∀ r c3 c5 c6, f_X8_numberFresh 41 (mkS (U.fr m U.n)) (tc_mk S c2) = some (bI r, tc_mk S c3) → (r = true → c5 = c3) → (r = false → ∃ c4, f_X8_numberAnew 41 (tc_mk S c3) = some (tc_mk S c4) ∧ c4.2.2.1 0 14 = c.2.2.1 0 14 ∧ c5 = tc_F c4 0 14 (c.2.2.1 0 14 + 1)) → f_X9_fresh 81 (tc_mk S c2) = some (mkS (U.fr m U.n)) → f_X10_settle 0 (tc_mk S c5) = some (tc_mk S c6) → f_X3_count 2 (tc_mk S (tc_F c6 81 11 0)) = some (nI (U.doc m D).n) → f_X10_apply 0 (tc_mk S c) = some (.inr (nI (U.doc m D).n), tc_mk S (tc_F c6 81 11 0))) →
        ∃ h', armI (f_V_apply 0 205 (tc_mk S c)) (f_X11_apply 155) y4 = some (.inl (y4 + 5, h')) ∧ InvE di h' := by
      intro c2 k2 hL2 hN2 h74 h81 hgood hL
      have h14 : c2.2.2.1 0 14 = c.2.2.1 0 14 := k2.2.2.1 0 14 (by omega)
      obtain ⟨r, c3, c5, g1, g2, g3, g4, g5, g6, g7, g8, g9⟩ := hC.numC hok hr hT hL2 (fun i hi => by rw [h74]; exact n1 i hi) (fun k hk h0 => by rw [h74]; exact n2 k hk h0) h14 hC.tq (fun _ => none)
      obtain ⟨⟨rr, rr1, f⟩, -⟩ := hF
      have k5 : Wr (fun a => bq1 a) bq2 (fun q k => bq3 q k ∨ (q = 0 ∧ k = 14)) bq4 c c5 := (k2.mono (fun a z => z) (fun a z => z) (fun q k z => .inl z) (fun q k z => z)).trans (g9.mono (fun a z => by omega) (fun _ z => z.elim) (fun q k z => .inr z) (fun _ _ z => z.elim))
      have hF5 : FT c5 117 D P D.al rr := by
        obtain ⟨⟨f1, f2, f3, f4⟩, f5, f6⟩ := f
        obtain ⟨x1, x2, x3, x4, x5⟩ := k5
        exact ⟨⟨f1.pt (fun x _ _ => x1 x (by omega)) (fun x _ _ => x2 x (by omega)) (x3 _ _ (by omega)) (x4 _ _ (by omega)) (x4 _ _ (by omega)), f2.w1 (fun x _ _ => x1 x (by omega)) (x3 _ _ (by omega)), by rw [x4 _ _ (by omega)]; exact f3, fun i hi => by rw [x1 _ (by omega)]; exact f4 i hi⟩, by rw [x3 _ _ (by omega)]; exact f5, fun p i hp hi => by rw [x2 _ (by omega)]; exact f6 p i hp hi⟩
      have hN5 : Nod c5 41 (U.doc m D) (m + U.ins U.n) := by
        obtain ⟨x1, x2, x3, x4, x5⟩ := g9
        obtain ⟨y1, y2, y3, y4, y5, y6, y7, y8, y9, y10⟩ := hN2
        refine ⟨y1, y2, by rw [x3 41 10 (by omega)]; exact y3, ?_, ?_, ?_, ?_, ?_, ?_, ?_⟩
        · rw [x1 (41 + 23) (by omega)]; exact y4
        · rw [x1 (41 + 25) (by omega)]; exact y5
        · rw [x1 (41 + 27) (by omega)]; exact y6
        · rw [x1 (41 + 29) (by omega)]; exact y7
        · rw [x1 (41 + 31) (by omega)]; exact y8
        · rw [x1 (41 + 35) (by omega)]; exact y9
        · rw [x1 (41 + 37) (by omega)]; exact y10
      obtain ⟨c6, s1, s2, s3, s4, s5, s6, s7, s8⟩ := s_settle (S := S) (ed := ed) (nw := nw) (E := U.doc m D) (M := m + U.ins U.n) hC.t1 hT hC.tq hC.fa.1 hC.pth hw hwE hC.gp.2.2 hF5 rr1 (by rw [k5.2.2.1 0 13 (by omega)]; exact hC.gv.1) hC.gv.2.2.1 pv (fun k hk => by rw [k5.1 150 (by omega)]; exact ⟨(hpv k hk).1, (hpv k hk).2.1⟩) hN5
      have hL6 : Lay (tc_F c6 81 11 0) 1 (U.doc m D) := s2.pt (fun _ _ _ => rfl) (fun _ _ _ => rfl) rfl rfl rfl
      have e5 := hL r c3 c5 c6 g1 g2 g3 (by simp (maxSteps := 3000000) (disch := omega) only [Option.bind_some, tc_bs, tq_let, tc_I1, tc_I2, tc_J1, tc_J2, tc_J3, tc_F1, tc_F2, tc_F3, tc_F4, tc_G1, tc_G2, tc_G3, tc_G4, tc_G5, tc_us, tc_un, s_one, s_holds, s_J13_bitCount, bz_bI, f_X9_fresh, hC.upc.f, h81]) s1 (s_X3_count (S := S) hC.t1 hL6)
      obtain ⟨c7, ec7⟩ : ∃ c7, c7 = tc_F c6 81 11 0 := ⟨_, rfl⟩
      rw [← ec7] at e5 hL6
      have k7 : Wr Y1 Y2 Y3 Y4 c c7 := by
        rw [ec7]
        exact Wr.trans (Wr.trans (k5.mono (fun a z => by omega) (fun a z => by omega) (fun q k z => by omega) (fun q k z => by omega)) (s8.mono (fun a z => by omega) (fun a z => by omega) (fun q k z => by omega) (fun q k z => by omega))) (Wr.F _ (by omega))
      have kw : Wr Y1 Y2 Y3 Y4 c (ansC c7 (nI (U.doc m D).n).toInt64) := k7.trans (Wr.A _ (by omega))
      obtain ⟨w, v1, v2, v3, v4, v5, v6, v7, v8, v9, v10⟩ := (hC.applyR kw pv hpv).2.2 ⟨hok, hr⟩ hgood
      have e162 : (ansC c7 (nI (U.doc m D).n).toInt64).1 162 = c.1 162 := kw.1 162 (by omega)
      have e10 : (ansC c7 (nI (U.doc m D).n).toInt64).2.2.1 155 10 = c.2.2.1 155 10 := kw.2.2.1 155 10 (by omega)
      rw [e162, e10] at v4 v5
      have kB : Wr B1 B2 B3 B4 c w := (kw.mono (fun a z => by omega) (fun a z => by omega) (fun q k z => by omega) (fun q k z => by omega)).trans (v10.mono (fun a z => by omega) (fun a z => by omega) (fun q k z => by omega) (fun q k z => by omega))
      obtain ⟨y1, y2, y3, y4', y5⟩ := v10
      have y2' : ∀ a, a ≠ 205 → ¬ X2 a → w.2.1 a = c7.2.1 a := fun a h1 h2 => by rw [y2 a h2]; unfold ansC; rw [tc_J2, tc_un _ _ h1]
      have x3 : ∀ q k, ¬ Xa3 q k → w.2.2.1 q k = c7.2.2.1 q k := fun q k h => y3 q k h
      have x4 : ∀ q k, ¬ X4 q k → w.2.2.2.1 q k = c7.2.2.2.1 q k := fun q k h => y4' q k h
      have x1 : ∀ a, ¬ Xa1 a → w.1 a = c7.1 a := fun a h => y1 a h
      have f63 : ∀ q k, q ≠ 81 → c7.2.2.1 q k = c6.2.2.1 q k := fun q k hq => by rw [ec7, tc_F3, tc_un _ _ hq]
      have f61 : c7.1 = c6.1 := by rw [ec7]; rfl
      have f62 : c7.2.1 = c6.2.1 := by rw [ec7]; rfl
      have f64 : c7.2.2.2.1 = c6.2.2.2.1 := by rw [ec7]; rfl
      have hntw : ¬ (U.doc m D).tw := fun z => hgood (.inr (.inl z))
      have h34 : ∀ j, j < (U.doc m D).n → w.1 34 ((U.doc m D).ord j) = c5.1 74 ((U.doc m D).ord j) := fun j hj => by
        rw [x1 34 (by omega), f61]; exact s4 _ ((U.doc m D).ord_lt hwE hj)
      have h014 : w.2.2.1 0 14 = c5.2.2.1 0 14 := by rw [x3 0 14 (by omega), f63 0 14 (by omega), s8.2.2.1 0 14 (by omega)]
      refine armI_any hC.mod hC.tq (.inl ⟨nI (U.doc m D).n, c7, w, by simp (maxSteps := 3000000) (disch := omega) only [Option.bind_some, tc_bs, tq_let, tc_I1, tc_I2, tc_J1, tc_J2, tc_J3, tc_F1, tc_F2, tc_F3, tc_F4, tc_G1, tc_G2, tc_G3, tc_G4, tc_G5, tc_us, tc_un, s_one, s_holds, s_J13_bitCount, bz_bI, f_V_apply, hC.tq.f, e5]; rfl, v1, ?_, v7, y2 205 (by omega)⟩)
      refine hC.tree (E := U.doc m D) (M := m + U.ins U.n) (U' := (0, U.2)) kB ⟨⟨hwE, U.doc_ao hw hu hok hr hntw⟩, hL6.pt (fun a _ _ => x1 a (by omega)) (fun a _ _ => y2' a (by omega) (by omega)) (x3 _ _ (by omega)) (x4 _ _ (by omega)) (x4 _ _ (by omega)), s3.pt (fun a _ _ => by rw [x1 a (by omega), f61]) (by rw [x3 _ _ (by omega), f63 _ _ (by omega)]), v2, v3⟩ ⟨fun j hj hj2 => ?_, fun j hj hj2 => ?_, ?_⟩ ?_ (by omega) (fun v hv => by rw [v9 v hv]; exact congrFun (kw.1 156 (by omega)) v) pv (fun k hk => ⟨(hpv k hk).1, (hpv k hk).2.1, (hpv k hk).2.2.1⟩) (fun j hj => (v6 j hj).2) (fun j hj => ?_) ?_ ?_
      · rw [h34 j hj]
        cases hr2 : r with
        | true => exact g5 hr2 w (v4 (g4.mp hr2)).1 j hj hj2
        | false => exact g6 hr2 w (v5 (fun z => by have := g4.mpr z; rw [hr2] at this; cases this)).1 j hj hj2
      · rw [h34 j hj]; exact g7 j hj hj2
      · rw [h014, g8]
        have hg := hC.2.2.1.2.2
        cases hr2 : r with
        | true => rw [if_pos rfl, (v4 (g4.mp hr2)).2]; exact hg
        | false => rw [if_neg (by decide), (v5 (fun z => by have := g4.mpr z; rw [hr2] at this; cases this)).2, hg]
      · refine ⟨⟨?_, Nat.zero_le _, fun k hk => absurd hk (Nat.not_lt_zero _), fun k hk => absurd hk (Nat.not_lt_zero _), fun k hk => absurd hk (Nat.not_lt_zero _), fun k hk => absurd hk (Nat.not_lt_zero _), fun k hk => absurd hk (Nat.not_lt_zero _), fun k hk => absurd hk (Nat.not_lt_zero _)⟩, ⟨v8, Nat.zero_le _, fun k hk => absurd hk (Nat.not_lt_zero _), fun k hk => absurd hk (Nat.not_lt_zero _), fun k hk => absurd hk (Nat.not_lt_zero _), fun k hk => absurd hk (Nat.not_lt_zero _), fun k hk => absurd hk (Nat.not_lt_zero _), fun k hk => absurd hk (Nat.not_lt_zero _), fun k hk => absurd hk (Nat.not_lt_zero _)⟩, Ups.mty rfl hr s3.2.1⟩
        rw [x3 81 11 (by omega), ec7]; rfl
      · rw [(v6 j hj).1, x1 152 (by omega), f61]; exact s7 j hj
      · obtain ⟨r', r1, f⟩ := s5
        obtain ⟨⟨f1, f2, f3, f4⟩, f5, f6⟩ := f
        exact ⟨r', r1, ⟨f1.pt (fun x _ _ => by rw [x1 x (by omega), f61]) (fun x _ _ => by rw [y2' x (by omega) (by omega), f62]) (by rw [x3 _ _ (by omega), f63 _ _ (by omega)]) (by rw [x4 _ _ (by omega), f64]) (by rw [x4 _ _ (by omega), f64]), f2.w1 (fun x _ _ => by rw [x1 x (by omega), f61]) (by rw [x3 _ _ (by omega), f63 _ _ (by omega)]), by rw [x4 _ _ (by omega), f64]; exact f3, fun i hi => by rw [x1 _ (by omega), f61]; exact f4 i hi⟩, by rw [x3 _ _ (by omega), f63 _ _ (by omega)]; exact f5, fun p i hp hi => by rw [y2' _ (by omega) (by omega), f62]; exact f6 p i hp hi⟩
      · rw [x3 0 18 (by omega), f63 0 18 (by omega)]; exact s6
    cases hrt : rt with
    | true =>
      rw [hrt] at t1
      exact bad c1 kb (.inl (t2.mp hrt)) (by simp (maxSteps := 3000000) (disch := omega) only [Option.bind_some, tc_bs, tq_let, tc_I1, tc_I2, tc_J1, tc_J2, tc_J3, tc_F1, tc_F2, tc_F3, tc_F4, tc_G1, tc_G2, tc_G3, tc_G4, tc_G5, tc_us, tc_un, s_one, s_holds, s_J13_bitCount, bz_bI, f_X10_apply, hC.tq.f, i81, l1, b1, b1', i41, t1, if_false])
    | false =>
      rw [hrt] at t1
      cases hrw : rw' with
      | true =>
        rw [hrw] at w1
        exact bad c1 kb (.inr (.inl (w2.mp hrw))) (by simp (maxSteps := 3000000) (disch := omega) only [Option.bind_some, tc_bs, tq_let, tc_I1, tc_I2, tc_J1, tc_J2, tc_J3, tc_F1, tc_F2, tc_F3, tc_F4, tc_G1, tc_G2, tc_G3, tc_G4, tc_G5, tc_us, tc_un, s_one, s_holds, s_J13_bitCount, bz_bI, f_X10_apply, hC.tq.f, i81, l1, b1, b1', i41, t1, b0, w1, if_true, if_false])
      | false =>
        rw [hrw] at w1
        have hncyc : ¬ U.cyc m D := fun z => by have := t2.mpr z; rw [hrt] at this; cases this
        have hntw : ¬ (U.doc m D).tw := fun z => by have := w2.mpr z; rw [hrw] at this; cases this
        have e131 : c1.2.2.1 131 10 = c.2.2.1 131 10 := kb.2.2.1 131 10 (by omega)
        rcases hC.loose with ⟨s1, s2, s3⟩ | ⟨s1, s2, s3⟩
        · have l3 : f_X6_isStrict 131 (tc_mk S c1) = some 0 := by simp (maxSteps := 3000000) (disch := omega) only [Option.bind_some, tc_bs, tq_let, tc_I1, tc_I2, tc_J1, tc_J2, tc_J3, tc_F1, tc_F2, tc_F3, tc_F4, tc_G1, tc_G2, tc_G3, tc_G4, tc_G5, tc_us, tc_un, s_one, s_holds, s_J13_bitCount, bz_bI, f_X6_isStrict, hC.sch.f, e131, s1, z0]
          refine good c1 kb b2 b3 rfl n8 (fun z => ?_) fun r c3 c5 c6 g1 g2 g3 g4 g5 g6 => ?_
          · rcases z with z | z | z
            · exact hncyc z
            · exact hntw z
            · exact z.1 s2
          · cases hr2 : r with
            | true =>
              rw [hr2] at g1
              rw [g2 hr2] at g5
              simp (maxSteps := 3000000) (disch := omega) only [Option.bind_some, tc_bs, tq_let, tc_I1, tc_I2, tc_J1, tc_J2, tc_J3, tc_F1, tc_F2, tc_F3, tc_F4, tc_G1, tc_G2, tc_G3, tc_G4, tc_G5, tc_us, tc_un, s_one, s_holds, s_J13_bitCount, bz_bI, f_X10_apply, hC.tq.f, i81, l1, b1, b1', i41, t1, b0, w1, i6, l3, g4, g1, g5, f_X9_empty, hC.upc.f, hC.t1.f, hC.t1.is, g6, if_true, if_false]
            | false =>
              rw [hr2] at g1
              obtain ⟨c4, a1, a2, a3⟩ := g3 hr2
              rw [a3] at g5
              simp (maxSteps := 3000000) (disch := omega) only [Option.bind_some, tc_bs, tq_let, tc_I1, tc_I2, tc_J1, tc_J2, tc_J3, tc_F1, tc_F2, tc_F3, tc_F4, tc_G1, tc_G2, tc_G3, tc_G4, tc_G5, tc_us, tc_un, s_one, s_holds, s_J13_bitCount, bz_bI, f_X10_apply, hC.tq.f, i81, l1, b1, b1', i41, t1, b0, w1, i6, l3, g4, g1, a1, a2, g5, f_X9_empty, hC.upc.f, hC.t1.f, hC.t1.is, g6, if_true, if_false]
        · have l3 : f_X6_isStrict 131 (tc_mk S c1) = some 1 := by simp (maxSteps := 3000000) (disch := omega) only [Option.bind_some, tc_bs, tq_let, tc_I1, tc_I2, tc_J1, tc_J2, tc_J3, tc_F1, tc_F2, tc_F3, tc_F4, tc_G1, tc_G2, tc_G3, tc_G4, tc_G5, tc_us, tc_un, s_one, s_holds, s_J13_bitCount, bz_bI, f_X6_isStrict, hC.sch.f, e131, s1, z1]
          have hgs : GS c1 Z := hC.gs.wr kb (fun a _ => by omega) (fun q k _ => by omega)
          obtain ⟨f, l4⟩ := s_admits (S := S) (Z := Z) hC.sch hT (.inl (by omega)) hwE b2 b3 hgs.1
          have k2 : Wr bq1 bq2 bq3 bq4 c (tc_I c1 141 f) := kb.trans (Wr.I _ (by omega))
          have n42 : c.2.2.1 155 42 ≠ 0 := by rw [s2]; exact n10
          cases hty : (U.doc m D).ty Z 0 0 with
          | false =>
            rw [hty] at l4
            exact bad (tc_I c1 141 f) k2 (.inr (.inr ⟨n42, hty⟩)) (by simp (maxSteps := 3000000) (disch := omega) only [Option.bind_some, tc_bs, tq_let, tc_I1, tc_I2, tc_J1, tc_J2, tc_J3, tc_F1, tc_F2, tc_F3, tc_F4, tc_G1, tc_G2, tc_G3, tc_G4, tc_G5, tc_us, tc_un, s_one, s_holds, s_J13_bitCount, bz_bI, f_X10_apply, hC.tq.f, i81, l1, b1, b1', i41, t1, b0, w1, i6, l3, n10, l4, if_true, if_false])
          | true =>
            rw [hty] at l4
            refine good (tc_I c1 141 f) k2 (b2.pt (fun a _ _ => by rw [tc_I1, tc_un _ _ (by omega)]) (fun _ _ _ => rfl) rfl rfl rfl) (b3.pt (fun a _ _ => by rw [tc_I1, tc_un _ _ (by omega)]) rfl) (by rw [tc_I1, tc_un _ _ (by omega)]) n8 (fun z => ?_) fun r c3 c5 c6 g1 g2 g3 g4 g5 g6 => ?_
            · rcases z with z | z | z
              · exact hncyc z
              · exact hntw z
              · rw [hty] at z; exact absurd z.2 (by decide)
            · cases hr2 : r with
              | true =>
                rw [hr2] at g1
                rw [g2 hr2] at g5
                simp (maxSteps := 3000000) (disch := omega) only [Option.bind_some, tc_bs, tq_let, tc_I1, tc_I2, tc_J1, tc_J2, tc_J3, tc_F1, tc_F2, tc_F3, tc_F4, tc_G1, tc_G2, tc_G3, tc_G4, tc_G5, tc_us, tc_un, s_one, s_holds, s_J13_bitCount, bz_bI, f_X10_apply, hC.tq.f, i81, l1, b1, b1', i41, t1, b0, w1, i6, l3, n10, l4, g4, g1, g5, f_X9_empty, hC.upc.f, hC.t1.f, hC.t1.is, g6, if_true, if_false]
              | false =>
                rw [hr2] at g1
                obtain ⟨c4, a1, a2, a3⟩ := g3 hr2
                rw [a3] at g5
                simp (maxSteps := 3000000) (disch := omega) only [Option.bind_some, tc_bs, tq_let, tc_I1, tc_I2, tc_J1, tc_J2, tc_J3, tc_F1, tc_F2, tc_F3, tc_F4, tc_G1, tc_G2, tc_G3, tc_G4, tc_G5, tc_us, tc_un, s_one, s_holds, s_J13_bitCount, bz_bI, f_X10_apply, hC.tq.f, i81, l1, b1, b1', i41, t1, b0, w1, i6, l3, n10, l4, g4, g1, a1, a2, g5, f_X9_empty, hC.upc.f, hC.t1.f, hC.t1.is, g6, if_true, if_false]
  · have hr0 : r = false := by
      cases hh : r with
      | false => rfl
      | true => exact absurd (l2.mp hh) hdo
    rw [hr0] at l1
    have e5 : f_X10_apply 0 (tc_mk S c) = some (.inl "java/lang/IllegalStateException", tc_mk S c) := by
      simp (maxSteps := 3000000) (disch := omega) only [Option.bind_some, tc_bs, tq_let, tc_I1, tc_I2, tc_J1, tc_J2, tc_J3, tc_F1, tc_F2, tc_F3, tc_F4, tc_G1, tc_G2, tc_G3, tc_G4, tc_G5, tc_us, tc_un, s_one, s_holds, s_J13_bitCount, bz_bI, f_X10_apply, hC.tq.f, i81, l1, b0, if_true]
    refine armI_any hC.mod hC.tq (.inr ⟨1, 0, c, tc_F c 155 0 1, by decide, by simp (maxSteps := 3000000) (disch := omega) only [Option.bind_some, tc_bs, tq_let, tc_I1, tc_I2, tc_J1, tc_J2, tc_J3, tc_F1, tc_F2, tc_F3, tc_F4, tc_G1, tc_G2, tc_G3, tc_G4, tc_G5, tc_us, tc_un, s_one, s_holds, s_J13_bitCount, bz_bI, f_V_apply, hC.tq.f, e5, if_true], (hC.applyR (Wr.refl c) pv hpv).1 hdo, hC.fin hF 1, rfl⟩)
end APC
