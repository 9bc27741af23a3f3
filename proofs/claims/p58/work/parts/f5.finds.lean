/-! ===== what paths find, one way and another ===== -/
/-- a ghost that lies somewhere, what its readers see, all else as it was -/
def FS (S : tq_H) (di : DI) (D : Doc) (m : Nat) (U : Ups) (P : Pat) (H : Nat → Bool) (Z : Sma) (X : Nat → Bool) (nw : Nat) (ed : Option Nat) (nv : Nat) (vt mv : Nat → Nat) (Dv : Nat → Doc) (Q : Nat → Bool) (c : tc_C) : Prop :=
  Cor S c di D m U P H Z X nw ed nv vt mv Dv ∧ GF c D P H ∧ Qr c D P H = Q ∧ ∃ r d H0, Rl r d (tc_mk S c) H0
section FND
variable {S : tq_H} {c c' d : tc_C} {di : DI} {D : Doc} {m : Nat} {U : Ups} {P : Pat} {H : Nat → Bool} {Z : Sma} {X : Nat → Bool} {nw : Nat} {ed : Option Nat} {nv : Nat} {vt mv : Nat → Nat} {Dv : Nat → Doc} {Q : Nat → Bool} {i j k p n : Nat} {v x x2 : Int32}
theorem FS.go {α : Type} {A : α → α → Prop} {G : tq_H → Option (α × tq_H)} {G' : Nat → tq_H → Option (α × tq_H)} {v : α} (h : FS S di D m U P H Z X nw ed nv vt mv Dv Q c)
    (yG : ∀ {r : Nat → Nat} {d : Nat → Prop} {W0 H0 W H : tq_H}, Em r d W0 H0 True W H → Rr r d 0 (r 0) → Sm (Rp A (Em r d W0 H0 True)) (G W) (G' (r 0) H))
    (e : G (tc_mk S c) = some (v, tc_mk S d)) (hC : Cor S d di D m U P H Z X nw ed nv vt mv Dv) (hF : GF d D P H) : FS S di D m U P H Z X nw ed nv vt mv Dv Q d := by
  obtain ⟨h1, h2, h3, r, dd, H0, hl⟩ := h
  obtain ⟨⟨v', H'⟩, e1, -, e3⟩ := yG hl.em ⟨Or.inl hl.1, rfl⟩ _ e
  have hb := hl.back e3 (D := Dw ed nv vt) (Or.inl (by omega)) hC.closed
  obtain ⟨-, o2, -, -⟩ := Em.off hl e3
  have o155 : (tc_mk S d).2 155 = (tc_mk S c).2 155 := o2 155 (by omega) (by omega)
  have g : tq_gi (tc_mk S d) 155 11 32 = tq_gi (tc_mk S c) 155 11 32 := by unfold tq_gi; rw [o155]
  rw [tc_gi (S := S) (c := d) hC.mod.1 rfl, tc_gi (S := S) (c := c) h1.mod.1 rfl] at g
  refine ⟨hC, hF, ?_, _, _, H', hb⟩
  rw [← h3]
  unfold Qr
  rw [Option.some.inj g]
theorem Q_0 (hw : D.wf) : Qr c D P H 0 = true := by
  have hn := D.n_pos hw
  unfold Qr
  by_cases q : c.2.2.1 155 32 = 0
  · rw [if_pos q]
    exact decide_eq_true hn
  · rw [if_neg q]
    unfold Doc.sn
    rw [Doc.spread_0, decide_eq_true hn]
    simp
theorem Q_in {j : Nat} (h : Qr c D P H j = true) : j < D.n := by
  unfold Qr at h
  by_cases q : c.2.2.1 155 32 = 0
  · rw [if_pos q] at h
    exact Doc.al_in h
  · rw [if_neg q] at h
    exact Doc.sn_in h
theorem FS.in' (h : FS S di D m U P H Z X nw ed nv vt mv Dv Q c) {p : Nat} (hj : D.fnd P Q p 0 j = true) : j < D.n := (Doc.fnd_in (fun j hq => Q_in (c := c) (P := P) (H := H) (by rw [h.2.2.1]; exact hq)) hj).1
/-- the class finds -/
theorem fs_found (h : FS S di D m U P H Z X nw ed nv vt mv Dv Q c) (hp : p < P.n) : ∃ d, f_X10_found 0 (nI p) 0 (tc_mk S c) = some (.inr (nI (fb_ct (D.fnd P Q p 0) 64)), tc_mk S d) ∧ FS S di D m U P H Z X nw ed nv vt mv Dv Q d := by
  obtain ⟨hC, hF, hq0, hrl⟩ := id h
  have b1 : ¬ bI true = 0 := by decide
  obtain ⟨b, c', Q', r, e1, hC', hF', hfb, hQ, hr, hft, hQe, hprep⟩ := hC.fnd hF
  have hQe : Q' = Qr c' D P H := hQe
  have e17 := hC.e17
  have hw := hC'.gt.1.1
  have h20 := hC'.gp.2.2.1
  have hn0 := D.n_pos hw
  have ib : ∀ c, tq_is (tc_mk S c) b 2 = some () := fun c => by simp (maxSteps := 3000000) (disch := omega) only [Option.bind_some, tc_bs, tq_let, tc_I1, tc_I2, tc_J1, tc_J2, tc_J3, tc_F1, tc_F2, tc_F3, tc_F4, tc_G1, tc_G2, tc_G3, tc_G4, tc_G5, tc_us, tc_un, s_one, s_holds, s_J13_bitCount, bz_bI, hfb.f]
  have cn := (hC'.npath (nI p)).1 ⟨nI_pos' (by omega), nI_lt hp (by omega)⟩
  have hi : D.At 0 0 := ⟨hn0, by rw [D.ord_0 hw]; rfl⟩
  have es := hC'.spot hi
  have ese := s_X2_sees (S := S) hfb hw hft.1 hn0
  have hQi : Q' 0 = true := by rw [hQe]; exact Q_0 hw
  rw [hQi] at ese
  have es0 : f_X3_spotOf 2 0 (tc_mk S c') = some (nI 0) := es
  have cs : f_X10_needStart 0 b 0 (tc_mk S c') = some (.inr (), tc_mk S c') := by
    simp (maxSteps := 3000000) (disch := omega) only [Option.bind_some, tc_bs, tq_let, tc_I1, tc_I2, tc_J1, tc_J2, tc_J3, tc_F1, tc_F2, tc_F3, tc_F4, tc_G1, tc_G2, tc_G3, tc_G4, tc_G5, tc_us, tc_un, s_one, s_holds, s_J13_bitCount, bz_bI, f_X10_needStart, hC'.tq.f, hC'.t1.f, hC'.need hi, tb_r, es0, ib, ese, b1, if_false]
  obtain ⟨d, u1, u2, u3, u4, u5, r', hr1, hr2, hft'⟩ := hprep p c' hp hC' hF' rfl
  have es' : f_X3_spotOf 2 0 (tc_mk S d) = some (nI 0) := u2.spot hi
  have ef := s_X2_foundFrom (S := S) hfb hw hft' hr1 (by omega) hn0
  have hX : ∀ j, D.fnd P Q' p 0 j = true → j < D.n := fun j h => (Doc.fnd_in hQ h).1
  have e5 : f_X10_found 0 (nI p) 0 (tc_mk S c) = some (.inr (nI (fb_ct (D.fnd P Q' p 0) 64)), tc_mk S d) := by
    unfold f_X10_found
    rw [e17, Option.bind_some, e1]
    simp (maxSteps := 3000000) (disch := omega) only [Option.bind_some, tc_bs, tq_let, tc_I1, tc_I2, tc_J1, tc_J2, tc_J3, tc_F1, tc_F2, tc_F3, tc_F4, tc_G1, tc_G2, tc_G3, tc_G4, tc_G5, tc_us, tc_un, s_one, s_holds, s_J13_bitCount, bz_bI, hC.tq.f, cn, tb_r, cs, ib, u1, hC.t1.f, es', ef, ct_mkS]
  have hd := h.go (G := fun W => f_X10_found 0 (nI p) 0 W) (G' := fun t H => f_X10_found t (nI p) 0 H) (fun hE ht => y_X10_found ht hE) e5 u2 u3
  have hQQ : Q' = Q := by
    rw [hQe, ← hd.2.2.1]
    unfold Qr
    rw [u4]
  rw [hQQ] at e5
  exact ⟨d, e5, hd⟩
theorem fs_foundAnew (h : FS S di D m U P H Z X nw ed nv vt mv Dv Q c) (hp : p < P.n) : ∃ d, f_X10_foundAnew 0 (nI p) 0 (tc_mk S c) = some (.inr (nI (fb_ct (D.fnd P Q p 0) 64)), tc_mk S d) ∧ FS S di D m U P H Z X nw ed nv vt mv Dv Q d := by
  obtain ⟨hC, hF, hq0, hrl⟩ := id h
  have b1 : ¬ bI true = 0 := by decide
  obtain ⟨b, c', Q', r, e1, hC', hF', hfb, hQ, hr, hft, hQe, hprep⟩ := hC.fnd hF
  have hQe : Q' = Qr c' D P H := hQe
  have e17 := hC.e17
  have hw := hC'.gt.1.1
  have h20 := hC'.gp.2.2.1
  have hn0 := D.n_pos hw
  have ib : ∀ c, tq_is (tc_mk S c) b 2 = some () := fun c => by simp (maxSteps := 3000000) (disch := omega) only [Option.bind_some, tc_bs, tq_let, tc_I1, tc_I2, tc_J1, tc_J2, tc_J3, tc_F1, tc_F2, tc_F3, tc_F4, tc_G1, tc_G2, tc_G3, tc_G4, tc_G5, tc_us, tc_un, s_one, s_holds, s_J13_bitCount, bz_bI, hfb.f]
  have cn := (hC'.npath (nI p)).1 ⟨nI_pos' (by omega), nI_lt hp (by omega)⟩
  have hi : D.At 0 0 := ⟨hn0, by rw [D.ord_0 hw]; rfl⟩
  have es := hC'.spot hi
  have ese := s_X2_sees (S := S) hfb hw hft.1 hn0
  have hQi : Q' 0 = true := by rw [hQe]; exact Q_0 hw
  rw [hQi] at ese
  have es0 : f_X3_spotOf 2 0 (tc_mk S c') = some (nI 0) := es
  have cs : f_X10_needStart 0 b 0 (tc_mk S c') = some (.inr (), tc_mk S c') := by
    simp (maxSteps := 3000000) (disch := omega) only [Option.bind_some, tc_bs, tq_let, tc_I1, tc_I2, tc_J1, tc_J2, tc_J3, tc_F1, tc_F2, tc_F3, tc_F4, tc_G1, tc_G2, tc_G3, tc_G4, tc_G5, tc_us, tc_un, s_one, s_holds, s_J13_bitCount, bz_bI, f_X10_needStart, hC'.tq.f, hC'.t1.f, hC'.need hi, tb_r, es0, ib, ese, b1, if_false]
  obtain ⟨d, u1, u2, u3, u4, u5, r', hr1, hr2, hft'⟩ := hprep p c' hp hC' hF' rfl
  have es' : f_X3_spotOf 2 0 (tc_mk S d) = some (nI 0) := u2.spot hi
  have ef := s_X2_foundFrom (S := S) hfb hw hft' hr1 (by omega) hn0
  have hX : ∀ j, D.fnd P Q' p 0 j = true → j < D.n := fun j h => (Doc.fnd_in hQ h).1
  have el := anew_loop (S := S) (ed := ed) u2.t1 u2.tq hw u2.gt.2.1 hX
  have e5 : f_X10_foundAnew 0 (nI p) 0 (tc_mk S c) = some (.inr (nI (fb_ct (D.fnd P Q' p 0) 64)), tc_mk S d) := by
    unfold f_X10_foundAnew
    rw [e17, Option.bind_some, e1]
    simp (maxSteps := 3000000) (disch := omega) only [Option.bind_some, tc_bs, tq_let, tc_I1, tc_I2, tc_J1, tc_J2, tc_J3, tc_F1, tc_F2, tc_F3, tc_F4, tc_G1, tc_G2, tc_G3, tc_G4, tc_G5, tc_us, tc_un, s_one, s_holds, s_J13_bitCount, bz_bI, hC.tq.f, cn, tb_r, cs, ib, u1, hC.t1.f, es', ef, el, ct_mkS]
  have hd := h.go (G := fun W => f_X10_foundAnew 0 (nI p) 0 W) (G' := fun t H => f_X10_foundAnew t (nI p) 0 H) (fun hE ht => y_X10_foundAnew ht hE) e5 u2 u3
  have hQQ : Q' = Q := by
    rw [hQe, ← hd.2.2.1]
    unfold Qr
    rw [u4]
  rw [hQQ] at e5
  exact ⟨d, e5, hd⟩
theorem fs_foundAt (h : FS S di D m U P H Z X nw ed nv vt mv Dv Q c) (hp : p < P.n) (x2 : Int32) : ∃ d, f_X10_foundAt 0 (nI p) x2 (tc_mk S c) = some (if 0 ≤ x2 ∧ x2 < nI (fb_ct (D.fnd P Q p 0) 64) then .inr (D.nd (pk (D.fnd P Q p 0) x2)) else .inl "java/lang/IndexOutOfBoundsException", tc_mk S d) ∧ FS S di D m U P H Z X nw ed nv vt mv Dv Q d := by
  obtain ⟨hC, hF, hq0, hrl⟩ := id h
  obtain ⟨b, c', Q', r, ee1, hC', hF', hfb, hQ, hr, hft, hQe, hprep⟩ := hC.fnd hF
  have hQe : Q' = Qr c' D P H := hQe
  have e17 := hC.e17
  have hw := hC'.gt.1.1
  have h20 := hC'.gp.2.2.1
  have ib : ∀ c, tq_is (tc_mk S c) b 2 = some () := fun c => by simp (maxSteps := 3000000) (disch := omega) only [Option.bind_some, tc_bs, tq_let, tc_I1, tc_I2, tc_J1, tc_J2, tc_J3, tc_F1, tc_F2, tc_F3, tc_F4, tc_G1, tc_G2, tc_G3, tc_G4, tc_G5, tc_us, tc_un, s_one, s_holds, s_J13_bitCount, bz_bI, hfb.f]
  have cn := (hC'.npath (nI p)).1 ⟨nI_pos' (by omega), nI_lt hp (by omega)⟩
  obtain ⟨d, u1, u2, u3, u4, u5, r', hr1, hr2, hft'⟩ := hprep p c' hp hC' hF' rfl
  have ef : f_X2_foundFrom b (nI p) 0 (tc_mk S d) = some (mkS (D.fnd P Q' p 0)) := s_X2_foundFrom (S := S) hfb hw hft' hr1 (by omega) (D.n_pos hw)
  have hX : ∀ j, D.fnd P Q' p 0 j = true → j < D.n := fun j h => (Doc.fnd_in hQ h).1
  have e5 : f_X10_foundAt 0 (nI p) x2 (tc_mk S c) = some (if 0 ≤ x2 ∧ x2 < nI (fb_ct (D.fnd P Q' p 0) 64) then .inr (D.nd (pk (D.fnd P Q' p 0) x2)) else .inl "java/lang/IndexOutOfBoundsException", tc_mk S d) := by
    by_cases q2 : 0 ≤ x2 ∧ x2 < nI (fb_ct (D.fnd P Q' p 0) 64)
    · have c2 := place_ok q2 (tc_mk S d)
      have f2 : f_X3_nodeOfSet 2 (mkS (D.fnd P Q' p 0)) x2 (tc_mk S d) = _ := s_X3_nodeOfSet (S := S) u2.t1 hw u2.gt.2.1 hX x2
      rw [if_pos q2]
      unfold f_X10_foundAt
      rw [e17, Option.bind_some, ee1]
      simp (maxSteps := 3000000) (disch := omega) only [Option.bind_some, tc_bs, tq_let, tc_I1, tc_I2, tc_J1, tc_J2, tc_J3, tc_F1, tc_F2, tc_F3, tc_F4, tc_G1, tc_G2, tc_G3, tc_G4, tc_G5, tc_us, tc_un, s_one, s_holds, s_J13_bitCount, bz_bI, hC.tq.f, cn, tb_r, ib, u1, ef, c2, hC.t1.f, hC.t1.is, f2]
    · have c2 := place_no q2 (tc_mk S d)
      rw [if_neg q2]
      unfold f_X10_foundAt
      rw [e17, Option.bind_some, ee1]
      simp (maxSteps := 3000000) (disch := omega) only [Option.bind_some, tc_bs, tq_let, tc_I1, tc_I2, tc_J1, tc_J2, tc_J3, tc_F1, tc_F2, tc_F3, tc_F4, tc_G1, tc_G2, tc_G3, tc_G4, tc_G5, tc_us, tc_un, s_one, s_holds, s_J13_bitCount, bz_bI, hC.tq.f, cn, tb_r, tb_l, ib, u1, ef, c2]
  have hd := h.go (G := fun W => f_X10_foundAt 0 (nI p) x2 W) (G' := fun t H => f_X10_foundAt t (nI p) x2 H) (fun hE ht => y_X10_foundAt ht hE) e5 u2 u3
  have hQQ : Q' = Q := by
    rw [hQe, ← hd.2.2.1]
    unfold Qr
    rw [u4]
  rw [hQQ] at e5
  exact ⟨d, e5, hd⟩
theorem fs_ordered (h : FS S di D m U P H Z X nw ed nv vt mv Dv Q c) (hp : p < P.n) : ∃ d, f_X10_ordered 0 (nI p) (nI (fb_ct (D.fnd P Q p 0) 64)) (tc_mk S c) = some (.inl "java/lang/IndexOutOfBoundsException", tc_mk S d) ∧ FS S di D m U P H Z X nw ed nv vt mv Dv Q d := by
  obtain ⟨hC, hF, hq0, hrl⟩ := id h
  obtain ⟨b, c', Q', r, ee1, hC', hF', hfb, hQ, hr, hft, hQe, hprep⟩ := hC.fnd hF
  have hQe : Q' = Qr c' D P H := hQe
  have e17 := hC.e17
  have hw := hC'.gt.1.1
  have h20 := hC'.gp.2.2.1
  have ib : ∀ c, tq_is (tc_mk S c) b 2 = some () := fun c => by simp (maxSteps := 3000000) (disch := omega) only [Option.bind_some, tc_bs, tq_let, tc_I1, tc_I2, tc_J1, tc_J2, tc_J3, tc_F1, tc_F2, tc_F3, tc_F4, tc_G1, tc_G2, tc_G3, tc_G4, tc_G5, tc_us, tc_un, s_one, s_holds, s_J13_bitCount, bz_bI, hfb.f]
  have cn := (hC'.npath (nI p)).1 ⟨nI_pos' (by omega), nI_lt hp (by omega)⟩
  obtain ⟨d, u1, u2, u3, u4, u5, r', hr1, hr2, hft'⟩ := hprep p c' hp hC' hF' rfl
  have ef : f_X2_foundFrom b (nI p) 0 (tc_mk S d) = some (mkS (D.fnd P Q' p 0)) := s_X2_foundFrom (S := S) hfb hw hft' hr1 (by omega) (D.n_pos hw)
  -- what is seen is the same as before: told by found
  obtain ⟨d0, g1, g2⟩ := fs_foundAt h hp (nI 0)
  have hE : ∀ x2, ¬ (0 ≤ x2 ∧ x2 < nI (fb_ct (D.fnd P Q' p 0) 64)) → f_X10_ordered 0 (nI p) x2 (tc_mk S c) = some (.inl "java/lang/IndexOutOfBoundsException", tc_mk S d) := fun x2 q => by
    have c2 := place_no q (tc_mk S d)
    unfold f_X10_ordered
    rw [e17, Option.bind_some, ee1]
    simp (maxSteps := 3000000) (disch := omega) only [Option.bind_some, tc_bs, tq_let, tc_I1, tc_I2, tc_J1, tc_J2, tc_J3, tc_F1, tc_F2, tc_F3, tc_F4, tc_G1, tc_G2, tc_G3, tc_G4, tc_G5, tc_us, tc_un, s_one, s_holds, s_J13_bitCount, bz_bI, hC.tq.f, cn, tb_r, tb_l, ib, u1, ef, c2]
  have e5 := hE (-1) (fun z => absurd z.1 (by decide))
  have hd := h.go (G := fun W => f_X10_ordered 0 (nI p) (-1) W) (G' := fun t H => f_X10_ordered t (nI p) (-1) H) (fun hE ht => y_X10_ordered ht hE) e5 u2 u3
  have hQQ : Q' = Q := by
    rw [hQe, ← hd.2.2.1]
    unfold Qr
    rw [u4]
  refine ⟨d, hE _ ?_, hd⟩
  rw [hQQ]
  exact fun z => absurd z.2 Int32.lt_irrefl
theorem fs_groups (h : FS S di D m U P H Z X nw ed nv vt mv Dv Q c) (hp : p < P.n) : ∃ d, f_X10_groups 0 (nI p) (tc_mk S c) = some (.inr (nI (fb_ct (D.gr Q (D.fnd P Q p 0)) D.n)), tc_mk S d) ∧ FS S di D m U P H Z X nw ed nv vt mv Dv Q d := by
  obtain ⟨hC, hF, hq0, hrl⟩ := id h
  obtain ⟨b, c', Q', r, ee1, hC', hF', hfb, hQ, hr, hft, hQe, hprep⟩ := hC.fnd hF
  have hQe : Q' = Qr c' D P H := hQe
  have e17 := hC.e17
  have hw := hC'.gt.1.1
  have h20 := hC'.gp.2.2.1
  have ib : ∀ c, tq_is (tc_mk S c) b 2 = some () := fun c => by simp (maxSteps := 3000000) (disch := omega) only [Option.bind_some, tc_bs, tq_let, tc_I1, tc_I2, tc_J1, tc_J2, tc_J3, tc_F1, tc_F2, tc_F3, tc_F4, tc_G1, tc_G2, tc_G3, tc_G4, tc_G5, tc_us, tc_un, s_one, s_holds, s_J13_bitCount, bz_bI, hfb.f]
  have cn := (hC'.npath (nI p)).1 ⟨nI_pos' (by omega), nI_lt hp (by omega)⟩
  obtain ⟨d, u1, u2, u3, u4, u5, r', hr1, hr2, hft'⟩ := hprep p c' hp hC' hF' rfl
  have f1 := s_X2_countValues (S := S) hfb u2.t1 hw hft' hQ hr1 (by omega)
  have e5 : f_X10_groups 0 (nI p) (tc_mk S c) = some (.inr (nI (fb_ct (D.gr Q' (D.fnd P Q' p 0)) D.n)), tc_mk S d) := by
    unfold f_X10_groups
    rw [e17, Option.bind_some, ee1]
    simp (maxSteps := 3000000) (disch := omega) only [Option.bind_some, tc_bs, tq_let, tc_I1, tc_I2, tc_J1, tc_J2, tc_J3, tc_F1, tc_F2, tc_F3, tc_F4, tc_G1, tc_G2, tc_G3, tc_G4, tc_G5, tc_us, tc_un, s_one, s_holds, s_J13_bitCount, bz_bI, hC.tq.f, cn, tb_r, ib, u1, f1]
  have hd := h.go (G := fun W => f_X10_groups 0 (nI p) W) (G' := fun t H => f_X10_groups t (nI p) H) (fun hE ht => y_X10_groups ht hE) e5 u2 u3
  have hQQ : Q' = Q := by
    rw [hQe, ← hd.2.2.1]
    unfold Qr
    rw [u4]
  rw [hQQ] at e5
  exact ⟨d, e5, hd⟩
/-- groups and what is found -/
theorem gr_le {Y : Nat → Bool} (hY : ∀ j, Y j = true → j < D.n) (hw : D.wf) : fb_ct (D.gr Q Y) D.n ≤ fb_ct Y 64 ∧ (fb_ct Y 64 = 0 ↔ fb_ct (D.gr Q Y) D.n = 0) := by
  have hn := D.n_le hw
  have h1 : fb_ct (D.gr Q Y) D.n ≤ fb_ct Y D.n := fb_ct_sub fun k _ h => by
    unfold Doc.gr at h
    rw [Bool.and_eq_true] at h
    exact h.1
  have h2 : fb_ct Y D.n ≤ fb_ct Y 64 := fb_ct_mono Y (by omega)
  refine ⟨by omega, fun h => by omega, fun h => ?_⟩
  rw [fb_ct_zero] at h ⊢
  intro k hk
  cases e : Y k with
  | false => rfl
  | true =>
    exfalso
    have key : ∀ s k, k ≤ s → Y k = true → False := by
      intro s
      induction s with
      | zero =>
        intro k hk hy
        have := h k (hY k hy)
        unfold Doc.gr at this
        rw [hy, show k = 0 by omega] at this
        simp [anyB] at this
      | succ s ih =>
        intro k hk hy
        have := h k (hY k hy)
        unfold Doc.gr at this
        rw [hy, Bool.true_and, Bool.not_eq_false'] at this
        obtain ⟨i, h1, h2⟩ := anyB_iff.mp this
        rw [Bool.and_eq_true] at h2
        exact ih i (by omega) h2.1
    exact key k k (Nat.le_refl _) e
theorem nI_negN (h : k < 2 ^ 31) : ¬ nI k < -1 := fun z => by
  have h1 : (0 : Int32) ≤ nI k := nI_pos' h
  exact absurd (Int32.lt_of_le_of_lt h1 z) (by decide)
theorem val_ge (hw : D.wf) (hi : i < D.n) : ¬ D.val Q i < -1 := by
  obtain ⟨h1, h2⟩ := D.vN_eq hw Q hi
  rw [h2]
  rcases Nat.eq_zero_or_pos (D.vN Q i) with z | z
  · rw [z]; decide
  · rw [show nI (D.vN Q i) + (-1) = nI (D.vN Q i) - 1 from (Int32.sub_eq_add_neg _ _).symm, show (1 : Int32) = nI 1 from rfl, pk_sub (by omega)]
    exact nI_negN (by omega)
theorem finds_in (hk : di.2.1 ≤ 1001) (hp : p < P.n) (h : FS S di D m U P H Z X nw ed nv vt mv Dv Q c) : ∃ d, tq_loop (f_L_finds_b102 0 (nI p) (nI (fb_ct (D.fnd P Q p 0) 64))) tq_N ((1 : Int32), (0 : Int32), tc_mk S c) = some ((1 : Int32), tc_mk S d) ∧ FS S di D m U P H Z X nw ed nv vt mv Dv Q d := by
  have n10 : ¬ (1 : Int32) = 0 := by decide
  have hct := fb_ct_le (D.fnd P Q p 0) 64
  refine tc_run (B := f_L_finds_b102 0 (nI p) (nI (fb_ct (D.fnd P Q p 0) 64))) (fb_ct (D.fnd P Q p 0) 64) (fun i y => ((1 : Int32), nI i, tc_mk S y)) (fun _ y => FS S di D m U P H Z X nw ed nv vt mv Dv Q y) (fun y => ((1 : Int32), tc_mk S y)) (by omega) (fun k y hk1 hy => ?_) (fun y hy => ?_) h
  · have q0 : ¬ nI k ≥ nI (fb_ct (D.fnd P Q p 0) 64) := nI_ge hk1 (by omega)
    obtain ⟨j, j1, j2, j3⟩ := fb_ct_kth hk1
    have jn := hy.in' j2
    obtain ⟨c1, e1, h1⟩ := fs_foundAt hy hp (nI k)
    rw [if_pos ⟨nI_pos' (by omega), nI_lt hk1 (by omega)⟩, pk_inn j1 j2 j3, Doc.nd_in hy.1.gt.1.1 jn] at e1
    have e1 : f_N_foundAt 0 (nI p) (nI k) (tc_mk S y) = some (nI (D.ord j), tc_mk S c1) := by
      simp only [f_N_foundAt, rd_is hy.1, e1, Option.bind_some]
    have x1 : nI k + 1 = nI (k + 1) := nI_1 k
    have hw := h1.1.gt.1.1
    have vz : ∀ {y : tc_C}, FS S di D m U P H Z X nw ed nv vt mv Dv Q y → f_N_value 0 0 (tc_mk S y) = some (D.val (fun j => decide (j < D.n)) 0, tc_mk S y) := fun hy => by
      have := nr_value hy.1 (D.n_pos hw)
      rw [D.ord_0 hw] at this
      exact this
    have vg : ¬ D.val (fun j => decide (j < D.n)) 0 < -1 := val_ge hw (D.n_pos hw)
    have fin : ∀ {y : tc_C}, FS S di D m U P H Z X nw ed nv vt mv Dv Q y → (if nI k = 0 then some ((1 : Int32), tc_mk S y) else (f_N_value 0 0 (tc_mk S y)).bind fun v20 => if v20.1 < (-1 : Int32) then some ((0 : Int32), v20.2) else some ((1 : Int32), v20.2)) = some ((1 : Int32), tc_mk S y) := fun hy => by
      rw [vz hy, Option.bind_some, if_neg vg]
      by_cases q : nI k = 0
      · rw [if_pos q]
      · rw [if_neg q]
    rcases Nat.lt_or_ge (k + 1) (fb_ct (D.fnd P Q p 0) 64) with z | z
    · have q1 : ¬ nI (k + 1) ≥ nI (fb_ct (D.fnd P Q p 0) 64) := nI_ge z (by omega)
      obtain ⟨t, t1, t2, t3⟩ := fb_ct_kth z
      have tn := h1.in' t2
      obtain ⟨c2, e2, h2⟩ := fs_foundAt h1 hp (nI (k + 1))
      rw [if_pos ⟨nI_pos' (by omega), nI_lt z (by omega)⟩, pk_inn t1 t2 t3, Doc.nd_in hw tn] at e2
      have e2 : f_N_foundAt 0 (nI p) (nI (k + 1)) (tc_mk S c1) = some (nI (D.ord t), tc_mk S c2) := by
        simp only [f_N_foundAt, rd_is h1.1, e2, Option.bind_some]
      have hjt : j < t := by
        rcases Nat.lt_or_ge j t with y | y
        · exact y
        · have := fb_ct_mono (D.fnd P Q p 0) y
          omega
      have q2 : ¬ nI (D.ord t) < 0 := nI_neg1 (by have := D.ord_lt hw tn; omega)
      have e3 := nr_number h2.1 jn
      have e4 := nr_number h2.1 tn
      have e5 := rd_there h2.1 (v := nI (D.ord j)) (i := j) ⟨jn, rfl⟩
      have i2 := rd_is h2.1
      have rise := h2.1.gq.2
      have ff := fin h2
      refine ⟨c2, ?_, h2⟩
      by_cases kj : D.kd j = 2
      · have nj := h2.1.2.2.1.2.1 j jn kj
        rw [nj] at e3
        simp only [f_L_finds_b102, q0, n10, e1, q1, e2, q2, e3, neg1_lt, i2, e5, ff, x1, tq_let, Option.bind_some, if_true, if_false]
      · obtain ⟨a, a1, a2, a3⟩ := rise.ge hk hw jn kj
        have qa : ¬ nI a < 0 := nI_neg1 a3
        by_cases kt : D.kd t = 2
        · have nt := h2.1.2.2.1.2.1 t tn kt
          rw [nt] at e4
          rw [a1] at e3
          simp only [f_L_finds_b102, q0, n10, e1, q1, e2, q2, e3, e4, qa, neg1_lt, i2, e5, ff, x1, tq_let, Option.bind_some, if_true, if_false]
        · obtain ⟨b, b1, b2, b3⟩ := rise.ge hk hw tn kt
          have qb : ¬ nI b < 0 := nI_neg1 b3
          have lt := rise.lt hk hjt tn kj kt
          rw [a1, b1] at lt
          have qq : ¬ nI a ≥ nI b := Int32.not_le.mpr lt
          rw [a1] at e3
          rw [b1] at e4
          simp only [f_L_finds_b102, q0, n10, e1, q1, e2, q2, e3, e4, qa, qb, qq, i2, e5, ff, x1, tq_let, Option.bind_some, if_true, if_false]
    · have q1 : nI (k + 1) ≥ nI (fb_ct (D.fnd P Q p 0) 64) := nI_le z (by omega)
      have e5 := rd_there h1.1 (v := nI (D.ord j)) (i := j) ⟨jn, rfl⟩
      have i1 := rd_is h1.1
      have ff := fin h1
      refine ⟨c1, ?_, h1⟩
      simp only [f_L_finds_b102, q0, n10, e1, q1, neg1_lt, i1, e5, ff, x1, tq_let, Option.bind_some, if_true, if_false]
  · have q0 : nI (fb_ct (D.fnd P Q p 0) 64) ≥ nI (fb_ct (D.fnd P Q p 0) 64) := Int32.le_refl _
    simp only [f_L_finds_b102, q0, if_true]
theorem finds_run (hk : di.2.1 ≤ 1001) : ∀ (k p : Nat) (c : tc_C), FS S di D m U P H Z X nw ed nv vt mv Dv Q c → P.n ≤ p + k → p ≤ P.n → ∃ d, tq_loop (f_L_finds_b4 0) (k + 1) ((1 : Int32), nI p, tc_mk S c) = some ((1 : Int32), tc_mk S d) ∧ FS S di D m U P H Z X nw ed nv vt mv Dv Q d := by
  have n10 : ¬ (1 : Int32) = 0 := by decide
  intro k
  induction k with
  | zero =>
    intro p c h h1 h2
    have i0 := rd_is h.1
    have pt := rd_paths h.1
    have h20 := h.1.gp.2.2.1
    have q : nI p ≥ nI P.n := nI_le (show P.n ≤ p by omega) (by omega)
    refine ⟨c, ?_, h⟩
    simp only [tq_loop, f_L_finds_b4, i0, pt, q, Option.bind_some, if_true]
  | succ k ih =>
    intro p c h h1 h2
    have i0 := rd_is h.1
    have pt := rd_paths h.1
    have h20 := h.1.gp.2.2.1
    have hw := h.1.gt.1.1
    have hn := D.n_le hw
    rcases Nat.lt_or_ge p P.n with y | y
    · have q : ¬ nI p ≥ nI P.n := nI_ge y (by omega)
      have x1 : nI p + 1 = nI (p + 1) := nI_1 p
      have hct := fb_ct_le (D.fnd P Q p 0) 64
      obtain ⟨g1, g2⟩ := gr_le (D := D) (Q := Q) (Y := D.fnd P Q p 0) (fun j hj => h.in' hj) hw
      have q1 : ¬ nI (fb_ct (D.fnd P Q p 0) 64) < 0 := nI_neg1 (by omega)
      have q2 : ¬ nI (fb_ct (D.gr Q (D.fnd P Q p 0)) D.n) > nI (fb_ct (D.fnd P Q p 0) 64) := Int32.not_lt.mpr (nI_le g1 (by omega))
      obtain ⟨c1, e1, a1⟩ := fs_found h y
      obtain ⟨c2, e2, a2⟩ := fs_foundAnew a1 y
      obtain ⟨c3, e3, a3⟩ := fs_foundAt a2 y (nI (fb_ct (D.fnd P Q p 0) 64))
      rw [if_neg (fun z => absurd z.2 Int32.lt_irrefl)] at e3
      obtain ⟨c4, e4, a4⟩ := fs_ordered a3 y
      obtain ⟨c5, e5, a5⟩ := fs_groups a4 y
      obtain ⟨c6, e6, a6⟩ := fs_groups a5 y
      obtain ⟨c7, e7, a7⟩ := finds_in hk y a6
      obtain ⟨c8, e8, a8⟩ := ih (p + 1) c7 a7 (by omega) (by omega)
      have e1 : f_N_found 0 (nI p) 0 (tc_mk S c) = some (nI (fb_ct (D.fnd P Q p 0) 64), tc_mk S c1) := by simp only [f_N_found, rd_is h.1, e1, Option.bind_some]
      have e2 : f_N_foundAnew 0 (nI p) 0 (tc_mk S c1) = some (nI (fb_ct (D.fnd P Q p 0) 64), tc_mk S c2) := by simp only [f_N_foundAnew, rd_is a1.1, e2, Option.bind_some]
      have e3 : f_L_foundAt 0 (nI p) (nI (fb_ct (D.fnd P Q p 0) 64)) (tc_mk S c2) = some ((-2000000001 : Int32), tc_mk S c3) := by simp only [f_L_foundAt, rd_is a2.1, e3, Option.bind_some, if_true]
      have e4 : f_L_ordered 0 (nI p) (nI (fb_ct (D.fnd P Q p 0) 64)) (tc_mk S c3) = some ((-2000000001 : Int32), tc_mk S c4) := by simp only [f_L_ordered, rd_is a3.1, e4, Option.bind_some, if_true]
      have e5 : f_N_groups 0 (nI p) (tc_mk S c4) = some (nI (fb_ct (D.gr Q (D.fnd P Q p 0)) D.n), tc_mk S c5) := by simp only [f_N_groups, rd_is a4.1, e5, Option.bind_some]
      have e6 : f_N_groups 0 (nI p) (tc_mk S c5) = some (nI (fb_ct (D.gr Q (D.fnd P Q p 0)) D.n), tc_mk S c6) := by simp only [f_N_groups, rd_is a5.1, e6, Option.bind_some]
      have q3 : (if nI (fb_ct (D.fnd P Q p 0) 64) = 0 then (1 : Int32) else (0 : Int32)) = (if nI (fb_ct (D.gr Q (D.fnd P Q p 0)) D.n) = 0 then (1 : Int32) else (0 : Int32)) := by
        have z1 : nI (fb_ct (D.fnd P Q p 0) 64) = 0 ↔ fb_ct (D.fnd P Q p 0) 64 = 0 := nI_eq (b := 0) (by omega) (by decide)
        have z2 : nI (fb_ct (D.gr Q (D.fnd P Q p 0)) D.n) = 0 ↔ fb_ct (D.gr Q (D.fnd P Q p 0)) D.n = 0 := nI_eq (b := 0) (by omega) (by decide)
        by_cases z : fb_ct (D.fnd P Q p 0) 64 = 0
        · rw [if_pos (z1.mpr z), if_pos (z2.mpr (g2.mp z))]
        · rw [if_neg (fun w => z (z1.mp w)), if_neg (fun w => z (g2.mpr (z2.mp w)))]
      refine ⟨c8, ?_, a8⟩
      rw [tq_loop]
      simp only [f_L_finds_b4, i0, pt, q, n10, e1, q1, e2, e3, e4, e5, q2, e6, q3, e7, x1, tq_let, Option.bind_some, if_true, if_false]
      exact e8
    · have q : nI p ≥ nI P.n := nI_le y (by omega)
      refine ⟨c, ?_, h⟩
      rw [tq_loop]
      simp only [f_L_finds_b4, i0, pt, q, Option.bind_some, if_true]
theorem finds_ok (hk : di.2.1 ≤ 1001) (h : FS S di D m U P H Z X nw ed nv vt mv Dv Q c) : ∃ d, f_L_finds 0 (tc_mk S c) = some (1, tc_mk S d) ∧ FS S di D m U P H Z X nw ed nv vt mv Dv Q d := by
  have h20 := h.1.gp.2.2.1
  have z1 : tq_bz 1 = some 1 := rfl
  obtain ⟨d, e, h'⟩ := finds_run hk 20 0 c h (by omega) (by omega)
  have e : tq_loop (f_L_finds_b4 0) 21 ((1 : Int32), (0 : Int32), tc_mk S c) = some ((1 : Int32), tc_mk S d) := e
  refine ⟨d, ?_, h'⟩
  simp only [f_L_finds, e, z1, Option.bind_some]
end FND
