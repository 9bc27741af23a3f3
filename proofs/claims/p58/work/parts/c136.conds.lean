/-! ===== calls that make paths grow ===== -/
abbrev p1c (a : Nat) : Prop := 100 ≤ a ∧ a ≤ 116
abbrev p3c (q k : Nat) : Prop := (q = 98 ∧ k = 9) ∨ (q = 117 ∧ k = 7) ∨ (q = 124 ∧ k = 7) ∨ (q = 0 ∧ k = 18)
section PTA
variable {S : tq_H} {c c' c1 c2 : tc_C} {di : DI} {D : Doc} {m : Nat} {U : Ups} {P P' : Pat} {H : Nat → Bool} {Z : Sma} {X : Nat → Bool} {nw : Nat} {ed : Option Nat} {nv : Nat} {vt mv : Nat → Nat} {Dv : Nat → Doc} {p q r k z w o mm nn n : Nat} {x x1 x2 x3 x4 y v y4 A : Int32} {xs : Nat → Int32} {h0 : tq_H}
/-- a path takes a condition -/
def ok4 (c : tc_C) (nw : Nat) (P : Pat) (p : Nat) : Prop := (p + 1 = P.n ∧ vwB c nw p = false) ∧ 1 ≤ P.sc p ∧ P.cc (P.ls p) < 2
theorem Cor.nostep (h : Cor S c di D m U P H Z X nw ed nv vt mv Dv) (hp : p < P.n) : (ok4 c nw P p → f_X10_needOpenStep 0 (nI p) (tc_mk S c) = some (.inr (), tc_mk S c)) ∧ (¬ ok4 c nw P p → f_X10_needOpenStep 0 (nI p) (tc_mk S c) = some (.inl "java/lang/IllegalStateException", tc_mk S c)) := by
  obtain ⟨pc, pr, hP⟩ := h.gp
  have h20 := hP.1
  have a2 := hP.2.1 p hp
  have e1 := s_X4_stepsOf (c := c) h.pth pc hP hp
  obtain ⟨n1, n2⟩ := h.nopen hp
  have e2 : 1 ≤ P.sc p → f_X4_conditionsOfLast 98 (nI p) (tc_mk S c) = some (nI (P.cc (P.ls p))) := fun h1 => by
    have f1 : rg 20 (c.1 100) (nI p) = nI (P.sc p) := by
      rw [rg_in _ (by omega) (by decide)]
      have := pc.2.1 p (by omega)
      rw [if_pos hp] at this; exact this
    have f0 : nI (P.sc p) - 1 = nI (P.sc p - 1) := by
      obtain ⟨s, hs⟩ : ∃ s, P.sc p = s + 1 := ⟨P.sc p - 1, by omega⟩
      rw [hs, nI_pred, Nat.add_sub_cancel]
    have f2 : f_X4_stepAt 98 (nI p) (nI (P.sc p - 1)) (tc_mk S c) = some (nI (P.ls p)) := s_X4_stepAt 98 p (P.sc p - 1) (tc_mk S c)
    have f3 : rg 100 (c.1 108) (nI (P.ls p)) = nI (P.cc (P.ls p)) := by
      rw [rg_in _ (by unfold Pat.ls; omega) (by decide)]
      have := pc.2.2.2.1 p (P.sc p - 1) (by omega) (by omega)
      rw [if_pos ⟨hp, by omega⟩] at this; exact this
    obtain ⟨g0, g1, g2, g3, g4, g5, -⟩ := id h.pth
    have t0 : ∀ c, tq_gr (tc_mk S c) 98 4 0 = some 99 := fun _ => tc_gr g0 rfl
    have t4 : ∀ c, tq_gr (tc_mk S c) 98 4 4 = some 107 := fun _ => tc_gr g0 rfl
    have ti : ∀ c, tq_is (tc_mk S c) 98 4 = some () := fun _ => tc_is g0
    have i99 : ∀ c, tq_is (tc_mk S c) 99 5 = some () := fun c => g1.f.1 c
    have i107 : ∀ c, tq_is (tc_mk S c) 107 5 = some () := fun c => g5.f.1 c
    have x99 : ∀ c i, f_X5_get 99 i (tc_mk S c) = some (rg 20 (c.1 100) i) := fun c i => g1.f.2.1 c i
    have x107 : ∀ c i, f_X5_get 107 i (tc_mk S c) = some (rg 100 (c.1 108) i) := fun c i => g5.f.2.1 c i
    unfold f_X4_conditionsOfLast
    rw [t4, Option.bind_some, t0, Option.bind_some, i99, Option.bind_some, x99, Option.bind_some, f1, ti, Option.bind_some, f0, f2, Option.bind_some, i107, Option.bind_some, x107, f3, Option.bind_some]
  have i98 : ∀ c, tq_is (tc_mk S c) 98 4 = some () := fun c => by have := h.pth; simp (maxSteps := 3000000) (disch := omega) only [Option.bind_some, tc_bs, tq_let, tc_I1, tc_I2, tc_J1, tc_J2, tc_J3, tc_F1, tc_F2, tc_F3, tc_F4, tc_G1, tc_G2, tc_G3, tc_G4, tc_G5, tc_us, tc_un, s_one, s_holds, s_J13_bitCount, bz_bI, this.f]
  constructor
  · rintro ⟨q1, q2, q3⟩
    have f1 := n1 q1
    have f2 : nI (P.sc p) ≥ 1 := nI_le (show 1 ≤ P.sc p from q2) (by omega)
    have f3 : nI (P.cc (P.ls p)) < 2 := nI_lt q3 (by decide)
    have e2 := e2 q2
    simp (maxSteps := 3000000) (disch := omega) only [Option.bind_some, tc_bs, tq_let, tc_I1, tc_I2, tc_J1, tc_J2, tc_J3, tc_F1, tc_F2, tc_F3, tc_F4, tc_G1, tc_G2, tc_G3, tc_G4, tc_G5, tc_us, tc_un, s_one, s_holds, s_J13_bitCount, bz_bI, f_X10_needOpenStep, h.tq.f, i98, f1, tb_r, e1, f2, e2, f3, if_true]
  · intro q
    by_cases q1 : p + 1 = P.n ∧ vwB c nw p = false
    · have f1 := n1 q1
      by_cases q2 : 1 ≤ P.sc p
      · have q3 : ¬ P.cc (P.ls p) < 2 := fun z => q ⟨q1, q2, z⟩
        have h2 := (hP.2.2 p (P.sc p - 1) hp (by omega)).2.2.2.1
        have f2 : nI (P.sc p) ≥ 1 := nI_le (show 1 ≤ P.sc p from q2) (by omega)
        have f3 : ¬ nI (P.cc (P.ls p)) < 2 := nI_nlt (show 2 ≤ P.cc (P.ls p) by omega) (by have h2 : P.cc (P.ls p) ≤ 2 := h2; omega)
        have e2 := e2 q2
        simp (maxSteps := 3000000) (disch := omega) only [Option.bind_some, tc_bs, tq_let, tc_I1, tc_I2, tc_J1, tc_J2, tc_J3, tc_F1, tc_F2, tc_F3, tc_F4, tc_G1, tc_G2, tc_G3, tc_G4, tc_G5, tc_us, tc_un, s_one, s_holds, s_J13_bitCount, bz_bI, f_X10_needOpenStep, h.tq.f, i98, f1, tb_r, e1, f2, e2, f3, if_true, if_false]
      · have f2 : ¬ nI (P.sc p) ≥ 1 := nI_ge (show P.sc p < 1 by omega) (by decide)
        simp (maxSteps := 3000000) (disch := omega) only [Option.bind_some, tc_bs, tq_let, tc_I1, tc_I2, tc_J1, tc_J2, tc_J3, tc_F1, tc_F2, tc_F3, tc_F4, tc_G1, tc_G2, tc_G3, tc_G4, tc_G5, tc_us, tc_un, s_one, s_holds, s_J13_bitCount, bz_bI, f_X10_needOpenStep, h.tq.f, i98, f1, tb_r, e1, f2, if_false]
    · have f1 := n2 q1
      simp (maxSteps := 3000000) (disch := omega) only [Option.bind_some, tc_bs, tq_let, tc_I1, tc_I2, tc_J1, tc_J2, tc_J3, tc_F1, tc_F2, tc_F3, tc_F4, tc_G1, tc_G2, tc_G3, tc_G4, tc_G5, tc_us, tc_un, s_one, s_holds, s_J13_bitCount, bz_bI, f_X10_needOpenStep, h.tq.f, i98, f1, tb_l]
theorem Cor.rtakes (h : Cor S c di D m U P H Z X nw ed nv vt mv Dv) (hp : p < P.n) {d : tc_C} (hd : PR d P) (hv : GV d D P nw) (hvw : ∀ k, k < nw → d.1 150 k = c.1 150 k) : f_X11_takesCondition 155 (nI p) (tc_mk S d) = some (bI (@decide (ok4 c nw P p) (Classical.propDecidable _))) := by
  classical
  obtain ⟨-, -, hP⟩ := h.gp
  have hM := h.mod
  have h20 := hP.1
  have a2 := hP.2.1 p hp
  have e1 : d.1 175 p = nI (P.sc p) := hd.2.1 p hp
  have ro := h.ropen hp hd hP hv hvw
  have z0 : tq_bz 0 = some 0 := rfl
  have z1 : tq_bz 1 = some 1 := rfl
  by_cases q2 : 1 ≤ P.sc p
  · have f1 : ¬ nI (P.sc p) ≤ 0 := nI_nle (by omega) (by omega)
    have e0 : (5 : Int32) * nI p + nI (P.sc p) - 1 = nI (P.ls p) := by
      rw [show (5 : Int32) * nI p = nI (5 * p) from nI_mul 5 p, nI_add, show 5 * p + P.sc p = P.ls p + 1 by unfold Pat.ls; omega, nI_pred]
    have hls : P.ls p < 100 := by unfold Pat.ls; omega
    have e3 : d.1 177 (P.ls p) = nI (P.cc (P.ls p)) := (hd.2.2.1 p (P.sc p - 1) hp (by omega)).2.2.2
    have h2 : P.cc (P.ls p) ≤ 2 := (hP.2.2 p (P.sc p - 1) hp (by omega)).2.2.2.1
    by_cases q3 : P.cc (P.ls p) < 2
    · have f3 : ¬ nI (P.cc (P.ls p)) ≥ 2 := nI_ge q3 (by decide)
      by_cases q1 : p + 1 = P.n ∧ vwB c nw p = false
      · rw [decide_eq_true q1] at ro
        have b1 : ¬ bI true = 0 := by decide
        rw [decide_eq_true (show ok4 c nw P p from ⟨q1, q2, q3⟩)]
        simp (maxSteps := 3000000) (disch := omega) only [Option.bind_some, tc_bs, tq_let, tc_I1, tc_I2, tc_J1, tc_J2, tc_J3, tc_F1, tc_F2, tc_F3, tc_F4, tc_G1, tc_G2, tc_G3, tc_G4, tc_G5, tc_us, tc_un, s_one, s_holds, s_J13_bitCount, bz_bI, f_X11_takesCondition, hM.f, e1, f1, e0, e3, f3, ro, b1, z1, if_false]; rfl
      · rw [decide_eq_false q1] at ro
        have b0 : bI false = 0 := rfl
        rw [decide_eq_false (fun z : ok4 c nw P p => q1 z.1)]
        simp (maxSteps := 3000000) (disch := omega) only [Option.bind_some, tc_bs, tq_let, tc_I1, tc_I2, tc_J1, tc_J2, tc_J3, tc_F1, tc_F2, tc_F3, tc_F4, tc_G1, tc_G2, tc_G3, tc_G4, tc_G5, tc_us, tc_un, s_one, s_holds, s_J13_bitCount, bz_bI, f_X11_takesCondition, hM.f, e1, f1, e0, e3, f3, ro, b0, z0, if_true, if_false]
    · have f3 : nI (P.cc (P.ls p)) ≥ 2 := nI_le (show 2 ≤ P.cc (P.ls p) by omega) (by omega)
      rw [decide_eq_false (fun z : ok4 c nw P p => q3 z.2.2)]
      simp (maxSteps := 3000000) (disch := omega) only [Option.bind_some, tc_bs, tq_let, tc_I1, tc_I2, tc_J1, tc_J2, tc_J3, tc_F1, tc_F2, tc_F3, tc_F4, tc_G1, tc_G2, tc_G3, tc_G4, tc_G5, tc_us, tc_un, s_one, s_holds, s_J13_bitCount, bz_bI, f_X11_takesCondition, hM.f, e1, f1, e0, e3, f3, z0, if_true, if_false]; rfl
  · have f1 : nI (P.sc p) ≤ 0 := by rw [show P.sc p = 0 by omega]; decide
    rw [decide_eq_false (fun z : ok4 c nw P p => q2 z.2.1)]
    simp (maxSteps := 3000000) (disch := omega) only [Option.bind_some, tc_bs, tq_let, tc_I1, tc_I2, tc_J1, tc_J2, tc_J3, tc_F1, tc_F2, tc_F3, tc_F4, tc_G1, tc_G2, tc_G3, tc_G4, tc_G5, tc_us, tc_un, s_one, s_holds, s_J13_bitCount, bz_bI, f_X11_takesCondition, hM.f, e1, f1, z0, if_true]; rfl
/-- a path has grown on both sides -/
theorem Cor.accP {L : Option (Int32 × tq_H)} {R : tq_H → Option (Int32 × tq_H)} (h : Cor S c di D m U P H Z X nw ed nv vt mv Dv) (hF : GF c D P H) (hq : q ≤ P.n) (hn : P.n ≤ P'.n) (hwf : P'.wf) (hag : ∀ r, r < q → P.agr P' r) (hvw : ∀ k p, k < nw → p < P.n → c.1 150 k = nI p → p < q)
    (k1 : Wr p1c uc2 p3c u4 c c1) (hpc : PC c1 98 P') (e117 : ∀ r, r ≤ P.n → c.2.2.1 117 7 = nI r → c1.2.2.1 117 7 = nI (min r q)) (e124 : ∀ r, r ≤ P.n → c.2.2.1 124 7 = nI r → c1.2.2.1 124 7 = nI (min r q)) (hs : ((∀ p, H p = true → p < q) ∧ c1.2.2.1 0 18 = c.2.2.1 0 18) ∨ c1.2.2.1 0 18 = 1)
    (hL : L = some (0, tc_mk S (ansC c1 A.toInt64)))
    (hR : PR (ansC c1 A.toInt64) P → GV (ansC c1 A.toInt64) D P nw → (∀ k, k < nw → (ansC c1 A.toInt64).1 150 k = c.1 150 k) → ∃ c2, R (tc_mk S (ansC c1 A.toInt64)) = some (A, tc_mk S c2) ∧ PR c2 P' ∧ Wr pr1 uc2 pr3 u4 (tc_F (ansC c1 A.toInt64) 155 0 0) c2) :
    ∃ h', armI L R y4 = some (.inl (y4 + 5, h')) ∧ InvE di h' := by
  have ka : Wr p1w u2 p3w u4 c (ansC c1 A.toInt64) := (k1.mono (fun a z => by omega) (fun _ z => z.elim) (fun q k z => by omega) (fun _ _ z => z)).trans (Wr.J _ rfl)
  have hpr : PR (ansC c1 A.toInt64) P := by
    obtain ⟨k1, k2, k3, -⟩ := k1
    have hpr := h.gp.2.1
    unfold PR at hpr ⊢
    rw [show (ansC c1 A.toInt64).1 = c1.1 from rfl, show (ansC c1 A.toInt64).2.2.1 = c1.2.2.1 from rfl, k3 155 24 (by omega), k1 175 (by omega), k1 176 (by omega), k1 177 (by omega), k1 178 (by omega)]
    exact hpr
  have hgv := h.gv.wr ka (fun a _ => by omega) (fun a _ => by omega) (fun q k _ => by omega)
  obtain ⟨c2, r1, r2, r3⟩ := hR hpr hgv (fun k _ => by rw [ka.1 150 (by omega)])
  have kt : Wr p1w u2 p3w u4 (tc_F (ansC c1 A.toInt64) 155 0 0) c2 := r3.mono (fun a z => by omega) (fun _ z => z.elim) (fun q k z => by omega) (fun _ _ z => z)
  have kall : Wr p1w u2 p3w u4 c c2 := (ka.trans (Wr.F _ (by omega))).trans kt
  have hpc2 : PC c2 98 P' := by
    obtain ⟨g1, g2, g3, -⟩ := r3
    unfold PC at hpc ⊢
    rw [g3 98 9 (by omega), g1 (98 + 2) (by omega), g1 (98 + 4) (by omega), g1 (98 + 6) (by omega), g1 (98 + 8) (by omega), g1 (98 + 10) (by omega), g1 (98 + 12) (by omega), g1 (98 + 14) (by omega), g1 (98 + 16) (by omega), g1 (98 + 18) (by omega), tc_F3, tc_un _ _ (by decide)]
    exact hpc
  have f3 : ∀ q k, q ≠ 155 → c2.2.2.1 q k = c1.2.2.1 q k := fun q k hq => by
    rw [r3.2.2.1 q k (by omega), tc_F3, tc_un _ _ hq]; rfl
  obtain ⟨hC, hF2⟩ := h.grow hF kall ⟨hpc2, r2, hwf⟩ hn hq hag hvw (fun r hr e => by rw [f3 _ _ (by decide)]; exact e117 r hr e) (fun r hr e => by rw [f3 _ _ (by decide)]; exact e124 r hr e) (by rw [f3 _ _ (by decide)]; exact hs)
  refine ⟨_, armI_ok h.mod h.mod h.tq hL r1 (by rw [r3.2.2.1 155 0 (by omega), tc_F3, tc_us, tc_us]) (fun _ => ?_), S, c2, D, m, U, P', H, Z, X, nw, ed, nv, vt, mv, Dv, rfl, hC, hF2⟩
  rw [r3.2.1 205 (fun z => z)]
  show (ansC c1 A.toInt64).2.1 205 0 = _
  unfold ansC
  rw [tc_J2, tc_us, updL_s]
/-- a last path without a view is above all that have one -/
theorem Cor.above (h : Cor S c di D m U P H Z X nw ed nv vt mv Dv) (h1 : p + 1 = P.n) (h2 : vwB c nw p = false) : ∀ k r, k < nw → r < P.n → c.1 150 k = nI r → r < p := fun k r hk hr e => by
  have h20 := h.gp.2.2.1
  by_cases q : r = p
  · exfalso
    have : vwB c nw p = true := anyB_iff.mpr ⟨k, hk, decide_eq_true (by rw [e, q])⟩
    rw [h2] at this; cases this
  · omega
theorem Cor.condC (h : Cor S c di D m U P H Z X nw ed nv vt mv Dv) (hp : p < P.n) (hok : ok4 c nw P p) (oI mI nI' : Int32) (ho : 2 ≤ w → oI = nI o) (hm : w = 0 ∨ w = 4 → mI = nI mm ∧ nI' = nI nn) :
    ∃ c0 c1, f_X10_noteChangeOf 0 (nI p) (tc_mk S c) = some (tc_mk S c0) ∧ f_X4_addCondition 98 (nI p) (nI w) oI mI nI' (tc_mk S c0) = some (nI (P.cc (P.ls p) + 1), tc_mk S c1) ∧ Wr p1c uc2 p3c u4 c c1 ∧ PC c1 98 (P.addC p w o mm nn) ∧
    (∀ r, r ≤ P.n → c.2.2.1 117 7 = nI r → c1.2.2.1 117 7 = nI (min r p)) ∧ (∀ r, r ≤ P.n → c.2.2.1 124 7 = nI r → c1.2.2.1 124 7 = nI (min r p)) ∧ (((∀ q, H q = true → q < p) ∧ c1.2.2.1 0 18 = c.2.2.1 0 18) ∨ c1.2.2.1 0 18 = 1) := by
  obtain ⟨pc, pr, hP⟩ := h.gp
  obtain ⟨c0, n1, n2, n3, n4, n5, n6⟩ := h.note hp
  have pc0 : PC c0 98 P := by
    obtain ⟨g1, -⟩ := n2
    unfold PC at pc ⊢
    rw [n6 98 9 (.inr rfl), g1 (98 + 2) id, g1 (98 + 4) id, g1 (98 + 6) id, g1 (98 + 8) id, g1 (98 + 10) id, g1 (98 + 12) id, g1 (98 + 14) id, g1 (98 + 16) id, g1 (98 + 18) id]
    exact pc
  obtain ⟨c1, a1, a2, a3⟩ := s_addCond (w := w) (o := o) (m := mm) (n := nn) h.pth pc0 hP hp hok.2.1 hok.2.2 oI mI nI' ho hm
  have f3 : ∀ q k, q ≠ 98 → c1.2.2.1 q k = c0.2.2.1 q k := fun q k hq => a3.2.2.1 q k (by omega)
  have k0 : Wr p1c uc2 p3c u4 c c0 := by
    obtain ⟨g1, g2, g3, g4, g5⟩ := n2
    refine ⟨fun a _ => g1 a id, g2, fun q k hqk => ?_, g4, g5⟩
    by_cases e : q = 155 ∨ q = 98
    · exact n6 q k e
    · exact g3 q k (by omega)
  refine ⟨c0, c1, n1, a1, k0.trans (a3.mono (fun a z => z) (fun _ z => z) (fun q k z => by omega) (fun _ _ z => z)), a2, fun r hr e => by rw [f3 _ _ (by decide)]; exact n3 r hr e, fun r hr e => by rw [f3 _ _ (by decide)]; exact n4 r hr e, ?_⟩
  rw [f3 _ _ (by decide)]
  rcases n5 with ⟨z1, z2⟩ | z
  · refine .inl ⟨fun q hq => ?_, z2⟩
    have := h.2.2.2.2.2.1.2.1 q hq
    have h1 := hok.1.1
    by_cases e : q = p
    · rw [e, z1] at hq; cases hq
    · omega
  · exact .inr z
theorem bs3 {α β : Type} (o : Option (α × β)) : (o.bind fun v => some (v.1, v.2)) = o := by cases o <;> rfl
theorem arm_last (h : InvE di h0) (e1 : tq_sx n xs (y4 + 1) = some x1) : ∃ h', f_V_law_c1593 n xs 0 155 205 y4 h0 = some (.inl (y4 + 5, h')) ∧ InvE di h' := by
  classical
  obtain ⟨S, c, D, m, U, P, H, Z, X, nw, ed, nv, vt, mv, Dv, rfl, hC, hF⟩ := h
  have e0 : f_V_law_c1593 n xs 0 155 205 y4 (tc_mk S c) = armI (f_V_last 0 x1 205 (tc_mk S c)) (f_X11_last 155 x1) y4 := by
    unfold f_V_law_c1593; rw [e1]; rfl
  rw [e0]
  have n10 : ¬ (1 : Int32) = 0 := by decide
  have n20 : ¬ (2 : Int32) = 0 := by decide
  have n30 : ¬ (3 : Int32) = 0 := by decide
  have z0 : tq_bz 0 = some 0 := rfl
  have z1 : tq_bz 1 = some 1 := rfl
  have b1 : ¬ bI true = 0 := by decide
  have b0 : bI false = 0 := rfl
  obtain ⟨pc, pr, hP⟩ := hC.gp
  have h20 := hP.1
  have isp := s_X11_isPath (S := S) hC.mod pr.1 hP x1
  have i98 : ∀ c, tq_is (tc_mk S c) 98 4 = some () := fun c => by have := hC.pth; simp (maxSteps := 3000000) (disch := omega) only [Option.bind_some, tc_bs, tq_let, tc_I1, tc_I2, tc_J1, tc_J2, tc_J3, tc_F1, tc_F2, tc_F3, tc_F4, tc_G1, tc_G2, tc_G3, tc_G4, tc_G5, tc_us, tc_un, s_one, s_holds, s_J13_bitCount, bz_bI, this.f]
  by_cases qp : 0 ≤ x1 ∧ x1 < nI P.n
  · rw [decide_eq_true qp] at isp
    have cn := (hC.npath x1).1 qp
    obtain ⟨p, hp31, rfl⟩ := nI_of (Int32.not_lt.mpr qp.1)
    have hp : p < P.n := (nI_ltI hp31 (by omega)).mp qp.2
    have rt := hC.rtakes hp pr hC.gv (fun _ _ => rfl)
    by_cases q9 : ok4 c nw P p
    · have c9 := (hC.nostep hp).1 q9
      obtain ⟨c0, c1, g1, g2, g3, g4, g5, g6, g7⟩ := hC.condC (w := 1) (o := 0) (mm := 0) (nn := 0) hp q9 (-1) (-1) (-1) (fun z => (by omega)) (fun z => (by omega))
      have g2 : f_X4_addCondition 98 (nI p) 1 (-1) (-1) (-1) (tc_mk S c0) = some (nI (P.cc (P.ls p) + 1), tc_mk S c1) := g2
      have e5 : f_X10_last 0 (nI p) (tc_mk S c) = some (.inr (nI (P.cc (P.ls p) + 1)), tc_mk S c1) := by
        simp (maxSteps := 3000000) (disch := omega) only [Option.bind_some, tc_bs, tq_let, tc_I1, tc_I2, tc_J1, tc_J2, tc_J3, tc_F1, tc_F2, tc_F3, tc_F4, tc_G1, tc_G2, tc_G3, tc_G4, tc_G5, tc_us, tc_un, s_one, s_holds, s_J13_bitCount, bz_bI, f_X10_last, hC.tq.f, i98, cn, c9, tb_r, g1, g2, if_true, if_false]
      refine hC.accP (P' := P.addC p 1 0 0 0) (q := p) (A := nI (P.cc (P.ls p) + 1)) hF (by omega) (Nat.le_refl _) (addC_wf hP hp q9.2.1 q9.2.2 (by decide) (fun z => (by omega)) (fun z => (by omega))) (fun r hr => addC_agr hP hp q9.2.1 q9.2.2 (by omega) (by omega)) (hC.above q9.1.1 q9.1.2) g3 g4 g5 g6 g7 (by simp (maxSteps := 3000000) (disch := omega) only [Option.bind_some, tc_bs, tq_let, tc_I1, tc_I2, tc_J1, tc_J2, tc_J3, tc_F1, tc_F2, tc_F3, tc_F4, tc_G1, tc_G2, tc_G3, tc_G4, tc_G5, tc_us, tc_un, s_one, s_holds, s_J13_bitCount, bz_bI, f_V_last, hC.tq.f, e5]; rfl) (fun k1 k2 k3 => ?_)
      have rt' := hC.rtakes hp k1 k2 k3
      have isp' := s_X11_isPath (S := S) hC.mod k1.1 hP (nI p)
      rw [decide_eq_true q9] at rt'
      rw [decide_eq_true qp] at isp'
      have k4 : PR (tc_F (ansC c1 (nI (P.cc (P.ls p) + 1)).toInt64) 155 0 0) P := by
        unfold PR at k1 ⊢
        rw [tc_F3, tc_us, tc_un _ _ (by decide)]; exact k1
      generalize ansC c1 (nI (P.cc (P.ls p) + 1)).toInt64 = d at *
      obtain ⟨c2, f1, f2, f3⟩ := s_X11_condition (w := 1) (o := 0) (m := 0) (n := 0) hC.mod k4 hP hp q9.2.1 q9.2.2 (-1) 0 0 (fun z => (by omega)) (fun z => (by omega))
      have f1 : f_X11_condition 155 (nI p) 1 (-1) 0 0 (tc_mk S (tc_F d 155 0 0)) = some (nI (P.cc (P.ls p) + 1), tc_mk S c2) := f1
      refine ⟨c2, ?_, f2, f3⟩
      simp (maxSteps := 3000000) (disch := omega) only [Option.bind_some, tc_bs, tq_let, tc_I1, tc_I2, tc_J1, tc_J2, tc_J3, tc_F1, tc_F2, tc_F3, tc_F4, tc_G1, tc_G2, tc_G3, tc_G4, tc_G5, tc_us, tc_un, s_one, s_holds, s_J13_bitCount, bz_bI, f_X11_last, f_X11_refused, hC.mod.f, isp', rt', b1, n10, z0, f1, if_true, if_false]
    · have c9 := (hC.nostep hp).2 q9
      rw [decide_eq_false q9] at rt
      refine arm_read hC hF (.inr ⟨2, 0, by decide, ?_, ?_⟩)
      · have e5 : f_X10_last 0 (nI p) (tc_mk S c) = some (.inl "java/lang/IllegalStateException", tc_mk S c) := by simp (maxSteps := 3000000) (disch := omega) only [Option.bind_some, tc_bs, tq_let, tc_I1, tc_I2, tc_J1, tc_J2, tc_J3, tc_F1, tc_F2, tc_F3, tc_F4, tc_G1, tc_G2, tc_G3, tc_G4, tc_G5, tc_us, tc_un, s_one, s_holds, s_J13_bitCount, bz_bI, f_X10_last, hC.tq.f, i98, cn, c9, tb_r, tb_l, if_true, if_false]
        simp (maxSteps := 3000000) (disch := omega) only [Option.bind_some, tc_bs, tq_let, tc_I1, tc_I2, tc_J1, tc_J2, tc_J3, tc_F1, tc_F2, tc_F3, tc_F4, tc_G1, tc_G2, tc_G3, tc_G4, tc_G5, tc_us, tc_un, s_one, s_holds, s_J13_bitCount, bz_bI, f_V_last, hC.tq.f, e5, nSI, nSA, if_true, if_false]
      · simp (maxSteps := 3000000) (disch := omega) only [Option.bind_some, tc_bs, tq_let, tc_I1, tc_I2, tc_J1, tc_J2, tc_J3, tc_F1, tc_F2, tc_F3, tc_F4, tc_G1, tc_G2, tc_G3, tc_G4, tc_G5, tc_us, tc_un, s_one, s_holds, s_J13_bitCount, bz_bI, f_X11_last, f_X11_refused, hC.mod.f, isp, b1, rt, b0, n10, n20, n30, z1, if_true, if_false]
  · rw [decide_eq_false qp] at isp
    have cn := (hC.npath x1).2 qp
    refine arm_read hC hF (.inr ⟨1, 0, by decide, ?_, ?_⟩)
    · have e5 : f_X10_last 0 x1 (tc_mk S c) = some (.inl "java/lang/IndexOutOfBoundsException", tc_mk S c) := by simp (maxSteps := 3000000) (disch := omega) only [Option.bind_some, tc_bs, tq_let, tc_I1, tc_I2, tc_J1, tc_J2, tc_J3, tc_F1, tc_F2, tc_F3, tc_F4, tc_G1, tc_G2, tc_G3, tc_G4, tc_G5, tc_us, tc_un, s_one, s_holds, s_J13_bitCount, bz_bI, f_X10_last, hC.tq.f, i98, cn, tb_r, tb_l, if_true, if_false]
      simp (maxSteps := 3000000) (disch := omega) only [Option.bind_some, tc_bs, tq_let, tc_I1, tc_I2, tc_J1, tc_J2, tc_J3, tc_F1, tc_F2, tc_F3, tc_F4, tc_G1, tc_G2, tc_G3, tc_G4, tc_G5, tc_us, tc_un, s_one, s_holds, s_J13_bitCount, bz_bI, f_V_last, hC.tq.f, e5, if_true]
    · simp (maxSteps := 3000000) (disch := omega) only [Option.bind_some, tc_bs, tq_let, tc_I1, tc_I2, tc_J1, tc_J2, tc_J3, tc_F1, tc_F2, tc_F3, tc_F4, tc_G1, tc_G2, tc_G3, tc_G4, tc_G5, tc_us, tc_un, s_one, s_holds, s_J13_bitCount, bz_bI, f_X11_last, f_X11_refused, hC.mod.f, isp, b0, n10, n20, n30, z1, if_true, if_false]
theorem arm_place (h : InvE di h0) (e1 : tq_sx n xs (y4 + 1) = some x1) (e2 : tq_sx n xs (y4 + 2) = some x2) (e3 : tq_sx n xs (y4 + 3) = some x3) : ∃ h', f_V_law_c1513 n xs 0 155 205 y4 h0 = some (.inl (y4 + 5, h')) ∧ InvE di h' := by
  classical
  obtain ⟨S, c, D, m, U, P, H, Z, X, nw, ed, nv, vt, mv, Dv, rfl, hC, hF⟩ := h
  have e0 : f_V_law_c1513 n xs 0 155 205 y4 (tc_mk S c) = armI (f_V_place 0 x1 x2 x3 205 (tc_mk S c)) (f_X11_place 155 x1 x2 x3) y4 := by
    unfold f_V_law_c1513; rw [e1, e2, e3]; rfl
  rw [e0]
  have n10 : ¬ (1 : Int32) = 0 := by decide
  have n20 : ¬ (2 : Int32) = 0 := by decide
  have n30 : ¬ (3 : Int32) = 0 := by decide
  have z0 : tq_bz 0 = some 0 := rfl
  have z1 : tq_bz 1 = some 1 := rfl
  have b1 : ¬ bI true = 0 := by decide
  have b0 : bI false = 0 := rfl
  obtain ⟨pc, pr, hP⟩ := hC.gp
  have h20 := hP.1
  have isp := s_X11_isPath (S := S) hC.mod pr.1 hP x1
  have i98 : ∀ c, tq_is (tc_mk S c) 98 4 = some () := fun c => by have := hC.pth; simp (maxSteps := 3000000) (disch := omega) only [Option.bind_some, tc_bs, tq_let, tc_I1, tc_I2, tc_J1, tc_J2, tc_J3, tc_F1, tc_F2, tc_F3, tc_F4, tc_G1, tc_G2, tc_G3, tc_G4, tc_G5, tc_us, tc_un, s_one, s_holds, s_J13_bitCount, bz_bI, this.f]
  by_cases qp : 0 ≤ x1 ∧ x1 < nI P.n
  · rw [decide_eq_true qp] at isp
    have cn := (hC.npath x1).1 qp
    obtain ⟨p, hp31, rfl⟩ := nI_of (Int32.not_lt.mpr qp.1)
    have hp : p < P.n := (nI_ltI hp31 (by omega)).mp qp.2
    by_cases q2 : 0 ≤ x2 ∧ x2 ≤ 2
    · have c2 := rng_ok (h := tc_mk S c) q2.1 q2.2
      have r2 := in_ok (h := tc_mk S c) q2.1 q2.2
      by_cases q3 : 0 ≤ x3 ∧ x3 ≤ 99
      · have c3 := rng_ok (h := tc_mk S c) q3.1 q3.2
        have r3 := in_ok (h := tc_mk S c) q3.1 q3.2
        have rt := hC.rtakes hp pr hC.gv (fun _ _ => rfl)
        by_cases q9 : ok4 c nw P p
        · have c9 := (hC.nostep hp).1 q9
          obtain ⟨u2, u21, rfl⟩ := x_nat (N := 2) (by decide) q2.1 q2.2
          obtain ⟨u3, u31, rfl⟩ := x_nat (N := 99) (by decide) q3.1 q3.2
          obtain ⟨c0, c1, g1, g2, g3, g4, g5, g6, g7⟩ := hC.condC (w := 0) (o := 0) (mm := u2) (nn := u3) hp q9 (-1) (nI u2) (nI u3) (fun z => (by omega)) (fun _ => ⟨rfl, rfl⟩)
          have g2 : f_X4_addCondition 98 (nI p) 0 (-1) (nI u2) (nI u3) (tc_mk S c0) = some (nI (P.cc (P.ls p) + 1), tc_mk S c1) := g2
          have e5 : f_X10_place 0 (nI p) (nI u2) (nI u3) (tc_mk S c) = some (.inr (nI (P.cc (P.ls p) + 1)), tc_mk S c1) := by
            simp (maxSteps := 3000000) (disch := omega) only [Option.bind_some, tc_bs, tq_let, tc_I1, tc_I2, tc_J1, tc_J2, tc_J3, tc_F1, tc_F2, tc_F3, tc_F4, tc_G1, tc_G2, tc_G3, tc_G4, tc_G5, tc_us, tc_un, s_one, s_holds, s_J13_bitCount, bz_bI, f_X10_place, hC.tq.f, i98, cn, c2, c3, c9, tb_r, g1, g2, if_true, if_false]
          refine hC.accP (P' := P.addC p 0 0 u2 u3) (q := p) (A := nI (P.cc (P.ls p) + 1)) hF (by omega) (Nat.le_refl _) (addC_wf hP hp q9.2.1 q9.2.2 (by decide) (fun z => (by omega)) (fun _ => ⟨by omega, by omega⟩)) (fun r hr => addC_agr hP hp q9.2.1 q9.2.2 (by omega) (by omega)) (hC.above q9.1.1 q9.1.2) g3 g4 g5 g6 g7 (by simp (maxSteps := 3000000) (disch := omega) only [Option.bind_some, tc_bs, tq_let, tc_I1, tc_I2, tc_J1, tc_J2, tc_J3, tc_F1, tc_F2, tc_F3, tc_F4, tc_G1, tc_G2, tc_G3, tc_G4, tc_G5, tc_us, tc_un, s_one, s_holds, s_J13_bitCount, bz_bI, f_V_place, hC.tq.f, e5]; rfl) (fun k1 k2 k3 => ?_)
          have rt' := hC.rtakes hp k1 k2 k3
          have isp' := s_X11_isPath (S := S) hC.mod k1.1 hP (nI p)
          rw [decide_eq_true q9] at rt'
          rw [decide_eq_true qp] at isp'
          have k4 : PR (tc_F (ansC c1 (nI (P.cc (P.ls p) + 1)).toInt64) 155 0 0) P := by
            unfold PR at k1 ⊢
            rw [tc_F3, tc_us, tc_un _ _ (by decide)]; exact k1
          generalize ansC c1 (nI (P.cc (P.ls p) + 1)).toInt64 = d at *
          obtain ⟨c2, f1, f2, f3⟩ := s_X11_condition (w := 0) (o := 0) (m := u2) (n := u3) hC.mod k4 hP hp q9.2.1 q9.2.2 (-1) (nI u2) (nI u3) (fun z => (by omega)) (fun _ => ⟨rfl, rfl⟩)
          have f1 : f_X11_condition 155 (nI p) 0 (-1) (nI u2) (nI u3) (tc_mk S (tc_F d 155 0 0)) = some (nI (P.cc (P.ls p) + 1), tc_mk S c2) := f1
          refine ⟨c2, ?_, f2, f3⟩
          have r2' := in_ok (h := tc_mk S d) q2.1 q2.2
          have r3' := in_ok (h := tc_mk S d) q3.1 q3.2
          simp (maxSteps := 3000000) (disch := omega) only [Option.bind_some, tc_bs, tq_let, tc_I1, tc_I2, tc_J1, tc_J2, tc_J3, tc_F1, tc_F2, tc_F3, tc_F4, tc_G1, tc_G2, tc_G3, tc_G4, tc_G5, tc_us, tc_un, s_one, s_holds, s_J13_bitCount, bz_bI, f_X11_place, f_X11_refused, hC.mod.f, isp', r2', r3', rt', b1, n10, z0, f1, if_true, if_false]
        · have c9 := (hC.nostep hp).2 q9
          rw [decide_eq_false q9] at rt
          refine arm_read hC hF (.inr ⟨3, 0, by decide, ?_, ?_⟩)
          · have e5 : f_X10_place 0 (nI p) x2 x3 (tc_mk S c) = some (.inl "java/lang/IllegalStateException", tc_mk S c) := by simp (maxSteps := 3000000) (disch := omega) only [Option.bind_some, tc_bs, tq_let, tc_I1, tc_I2, tc_J1, tc_J2, tc_J3, tc_F1, tc_F2, tc_F3, tc_F4, tc_G1, tc_G2, tc_G3, tc_G4, tc_G5, tc_us, tc_un, s_one, s_holds, s_J13_bitCount, bz_bI, f_X10_place, hC.tq.f, i98, cn, c2, c3, c9, tb_r, tb_l, if_true, if_false]
            simp (maxSteps := 3000000) (disch := omega) only [Option.bind_some, tc_bs, tq_let, tc_I1, tc_I2, tc_J1, tc_J2, tc_J3, tc_F1, tc_F2, tc_F3, tc_F4, tc_G1, tc_G2, tc_G3, tc_G4, tc_G5, tc_us, tc_un, s_one, s_holds, s_J13_bitCount, bz_bI, f_V_place, hC.tq.f, e5, nSI, nSA, if_true, if_false]
          · simp (maxSteps := 3000000) (disch := omega) only [Option.bind_some, tc_bs, tq_let, tc_I1, tc_I2, tc_J1, tc_J2, tc_J3, tc_F1, tc_F2, tc_F3, tc_F4, tc_G1, tc_G2, tc_G3, tc_G4, tc_G5, tc_us, tc_un, s_one, s_holds, s_J13_bitCount, bz_bI, f_X11_place, f_X11_refused, hC.mod.f, isp, b1, r2, r3, rt, b0, n10, n20, n30, z1, if_true, if_false]
      · have c3 := rng_no (h := tc_mk S c) q3
        have r3 := in_no (h := tc_mk S c) q3
        refine arm_read hC hF (.inr ⟨2, 0, by decide, ?_, ?_⟩)
        · have e5 : f_X10_place 0 (nI p) x2 x3 (tc_mk S c) = some (.inl "java/lang/IllegalArgumentException", tc_mk S c) := by simp (maxSteps := 3000000) (disch := omega) only [Option.bind_some, tc_bs, tq_let, tc_I1, tc_I2, tc_J1, tc_J2, tc_J3, tc_F1, tc_F2, tc_F3, tc_F4, tc_G1, tc_G2, tc_G3, tc_G4, tc_G5, tc_us, tc_un, s_one, s_holds, s_J13_bitCount, bz_bI, f_X10_place, hC.tq.f, i98, cn, c2, c3, tb_r, tb_l, if_true, if_false]
          simp (maxSteps := 3000000) (disch := omega) only [Option.bind_some, tc_bs, tq_let, tc_I1, tc_I2, tc_J1, tc_J2, tc_J3, tc_F1, tc_F2, tc_F3, tc_F4, tc_G1, tc_G2, tc_G3, tc_G4, tc_G5, tc_us, tc_un, s_one, s_holds, s_J13_bitCount, bz_bI, f_V_place, hC.tq.f, e5, nAI, if_true, if_false]
        · simp (maxSteps := 3000000) (disch := omega) only [Option.bind_some, tc_bs, tq_let, tc_I1, tc_I2, tc_J1, tc_J2, tc_J3, tc_F1, tc_F2, tc_F3, tc_F4, tc_G1, tc_G2, tc_G3, tc_G4, tc_G5, tc_us, tc_un, s_one, s_holds, s_J13_bitCount, bz_bI, f_X11_place, f_X11_refused, hC.mod.f, isp, b1, r2, r3, n10, n20, n30, z1, if_true, if_false]
    · have c2 := rng_no (h := tc_mk S c) q2
      have r2 := in_no (h := tc_mk S c) q2
      refine arm_read hC hF (.inr ⟨2, 0, by decide, ?_, ?_⟩)
      · have e5 : f_X10_place 0 (nI p) x2 x3 (tc_mk S c) = some (.inl "java/lang/IllegalArgumentException", tc_mk S c) := by simp (maxSteps := 3000000) (disch := omega) only [Option.bind_some, tc_bs, tq_let, tc_I1, tc_I2, tc_J1, tc_J2, tc_J3, tc_F1, tc_F2, tc_F3, tc_F4, tc_G1, tc_G2, tc_G3, tc_G4, tc_G5, tc_us, tc_un, s_one, s_holds, s_J13_bitCount, bz_bI, f_X10_place, hC.tq.f, i98, cn, c2, tb_r, tb_l, if_true, if_false]
        simp (maxSteps := 3000000) (disch := omega) only [Option.bind_some, tc_bs, tq_let, tc_I1, tc_I2, tc_J1, tc_J2, tc_J3, tc_F1, tc_F2, tc_F3, tc_F4, tc_G1, tc_G2, tc_G3, tc_G4, tc_G5, tc_us, tc_un, s_one, s_holds, s_J13_bitCount, bz_bI, f_V_place, hC.tq.f, e5, nAI, if_true, if_false]
      · simp (maxSteps := 3000000) (disch := omega) only [Option.bind_some, tc_bs, tq_let, tc_I1, tc_I2, tc_J1, tc_J2, tc_J3, tc_F1, tc_F2, tc_F3, tc_F4, tc_G1, tc_G2, tc_G3, tc_G4, tc_G5, tc_us, tc_un, s_one, s_holds, s_J13_bitCount, bz_bI, f_X11_place, f_X11_refused, hC.mod.f, isp, b1, r2, n10, n20, n30, z1, if_true, if_false]
  · rw [decide_eq_false qp] at isp
    have cn := (hC.npath x1).2 qp
    by_cases q2 : 0 ≤ x2 ∧ x2 ≤ 2
    · have r2 := in_ok (h := tc_mk S c) q2.1 q2.2
      by_cases q3 : 0 ≤ x3 ∧ x3 ≤ 99
      · have r3 := in_ok (h := tc_mk S c) q3.1 q3.2
        refine arm_read hC hF (.inr ⟨1, 0, by decide, ?_, ?_⟩)
        · have e5 : f_X10_place 0 x1 x2 x3 (tc_mk S c) = some (.inl "java/lang/IndexOutOfBoundsException", tc_mk S c) := by simp (maxSteps := 3000000) (disch := omega) only [Option.bind_some, tc_bs, tq_let, tc_I1, tc_I2, tc_J1, tc_J2, tc_J3, tc_F1, tc_F2, tc_F3, tc_F4, tc_G1, tc_G2, tc_G3, tc_G4, tc_G5, tc_us, tc_un, s_one, s_holds, s_J13_bitCount, bz_bI, f_X10_place, hC.tq.f, i98, cn, tb_r, tb_l, if_true, if_false]
          simp (maxSteps := 3000000) (disch := omega) only [Option.bind_some, tc_bs, tq_let, tc_I1, tc_I2, tc_J1, tc_J2, tc_J3, tc_F1, tc_F2, tc_F3, tc_F4, tc_G1, tc_G2, tc_G3, tc_G4, tc_G5, tc_us, tc_un, s_one, s_holds, s_J13_bitCount, bz_bI, f_V_place, hC.tq.f, e5, if_true]
        · simp (maxSteps := 3000000) (disch := omega) only [Option.bind_some, tc_bs, tq_let, tc_I1, tc_I2, tc_J1, tc_J2, tc_J3, tc_F1, tc_F2, tc_F3, tc_F4, tc_G1, tc_G2, tc_G3, tc_G4, tc_G5, tc_us, tc_un, s_one, s_holds, s_J13_bitCount, bz_bI, f_X11_place, f_X11_refused, hC.mod.f, isp, b0, r2, r3, n10, n20, n30, z1, if_true, if_false]
      · have r3 := in_no (h := tc_mk S c) q3
        refine arm_read hC hF (.inr ⟨1, 0, by decide, ?_, ?_⟩)
        · have e5 : f_X10_place 0 x1 x2 x3 (tc_mk S c) = some (.inl "java/lang/IndexOutOfBoundsException", tc_mk S c) := by simp (maxSteps := 3000000) (disch := omega) only [Option.bind_some, tc_bs, tq_let, tc_I1, tc_I2, tc_J1, tc_J2, tc_J3, tc_F1, tc_F2, tc_F3, tc_F4, tc_G1, tc_G2, tc_G3, tc_G4, tc_G5, tc_us, tc_un, s_one, s_holds, s_J13_bitCount, bz_bI, f_X10_place, hC.tq.f, i98, cn, tb_r, tb_l, if_true, if_false]
          simp (maxSteps := 3000000) (disch := omega) only [Option.bind_some, tc_bs, tq_let, tc_I1, tc_I2, tc_J1, tc_J2, tc_J3, tc_F1, tc_F2, tc_F3, tc_F4, tc_G1, tc_G2, tc_G3, tc_G4, tc_G5, tc_us, tc_un, s_one, s_holds, s_J13_bitCount, bz_bI, f_V_place, hC.tq.f, e5, if_true]
        · simp (maxSteps := 3000000) (disch := omega) only [Option.bind_some, tc_bs, tq_let, tc_I1, tc_I2, tc_J1, tc_J2, tc_J3, tc_F1, tc_F2, tc_F3, tc_F4, tc_G1, tc_G2, tc_G3, tc_G4, tc_G5, tc_us, tc_un, s_one, s_holds, s_J13_bitCount, bz_bI, f_X11_place, f_X11_refused, hC.mod.f, isp, b0, r2, r3, n10, n20, n30, z1, if_true, if_false]
    · have r2 := in_no (h := tc_mk S c) q2
      refine arm_read hC hF (.inr ⟨1, 0, by decide, ?_, ?_⟩)
      · have e5 : f_X10_place 0 x1 x2 x3 (tc_mk S c) = some (.inl "java/lang/IndexOutOfBoundsException", tc_mk S c) := by simp (maxSteps := 3000000) (disch := omega) only [Option.bind_some, tc_bs, tq_let, tc_I1, tc_I2, tc_J1, tc_J2, tc_J3, tc_F1, tc_F2, tc_F3, tc_F4, tc_G1, tc_G2, tc_G3, tc_G4, tc_G5, tc_us, tc_un, s_one, s_holds, s_J13_bitCount, bz_bI, f_X10_place, hC.tq.f, i98, cn, tb_r, tb_l, if_true, if_false]
        simp (maxSteps := 3000000) (disch := omega) only [Option.bind_some, tc_bs, tq_let, tc_I1, tc_I2, tc_J1, tc_J2, tc_J3, tc_F1, tc_F2, tc_F3, tc_F4, tc_G1, tc_G2, tc_G3, tc_G4, tc_G5, tc_us, tc_un, s_one, s_holds, s_J13_bitCount, bz_bI, f_V_place, hC.tq.f, e5, if_true]
      · simp (maxSteps := 3000000) (disch := omega) only [Option.bind_some, tc_bs, tq_let, tc_I1, tc_I2, tc_J1, tc_J2, tc_J3, tc_F1, tc_F2, tc_F3, tc_F4, tc_G1, tc_G2, tc_G3, tc_G4, tc_G5, tc_us, tc_un, s_one, s_holds, s_J13_bitCount, bz_bI, f_X11_place, f_X11_refused, hC.mod.f, isp, b0, r2, n10, n20, n30, z1, if_true, if_false]
end PTA
