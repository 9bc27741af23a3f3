/-! ===== calls that only read ===== -/
def InvE (di : DI) (h : tq_H) : Prop := ∃ S c D m U P H Z X nw ed nv vt mv Dv, h = tc_mk S c ∧ Cor S c di D m U P H Z X nw ed nv vt mv Dv ∧ GF c D P H
/-- what every case of the law does behind the class's call -/
def armI (L : Option (Int32 × tq_H)) (R : tq_H → Option (Int32 × tq_H)) (y4 : Int32) : Option ((Int32 × tq_H) ⊕ (Int32 × tq_H)) :=
  L.bind fun v2 => (tq_is v2.2 155 11).bind fun _ => (R v2.2).bind fun v4 => (tq_is v4.2 155 11).bind fun _ => (f_X11_thrown 155 v4.2).bind fun v6 =>
  if v6 = v2.1 then
    if v2.1 = 0 then
      (tq_aj v4.2 205 (0 : Int32)).bind fun x9 =>
      if (lg_cmp x9 (v4.1).toInt64) = 0 then
        tq_let (y4 + (5 : Int32)) fun x10 =>
        some (.inl (x10, v4.2))
      else
        some (.inr ((0 : Int32), v4.2))
    else
      tq_let (y4 + (5 : Int32)) fun x8 =>
      some (.inl (x8, v4.2))
  else
    some (.inr ((0 : Int32), v4.2))
section RDA
variable {S S1 S2 : tq_H} {c c1 c2 c' : tc_C} {di : DI} {D : Doc} {m : Nat} {U : Ups} {P : Pat} {H : Nat → Bool} {Z : Sma} {X : Nat → Bool} {nw : Nat} {ed ed2 : Option Nat} {nv z z2 : Nat} {vt mv : Nat → Nat} {Dv : Nat → Doc} {i j : Nat} {v a k y4 x1 x2 x3 x4 : Int32} {n : Nat} {xs : Nat → Int32} {h0 : tq_H}
theorem tb_r {α β : Type} (v : α) (h : tq_H) (f : α → tq_H → Option ((String ⊕ β) × tq_H)) : tq_tb (some (.inr v, h)) f = f v h := rfl
theorem tb_l {α β : Type} (E : String) (h : tq_H) (f : α → tq_H → Option ((String ⊕ β) × tq_H)) : tq_tb (some (.inl E, h)) f = some (.inl E, h) := rfl
theorem nAI : ¬ ("java/lang/IllegalArgumentException" = "java/lang/IndexOutOfBoundsException") := by decide
theorem nSI : ¬ ("java/lang/IllegalStateException" = "java/lang/IndexOutOfBoundsException") := by decide
theorem nSA : ¬ ("java/lang/IllegalStateException" = "java/lang/IllegalArgumentException") := by decide
theorem lg_s (x : Int64) : lg_cmp x x = 0 := (lg_cmp_0 _ _).mpr rfl
theorem updL_s (f : Nat → Int64) (k : Nat) (x : Int64) : vp_updL f k x k = x := if_pos rfl
theorem Cor.tq (h : Cor S c di D m U P H Z X nw ed nv vt mv Dv) : tc_Tq S ed := h.1.1
theorem Cor.t1 (h : Cor S c di D m U P H Z X nw ed nv vt mv Dv) : tc_Tree S 1 := h.1.2.1.1
theorem Cor.mod (h : Cor S c di D m U P H Z X nw ed nv vt mv Dv) : tc_Mod S 205 := h.1.2.2.2.2.2.2.1
theorem Cor.gt (h : Cor S c di D m U P H Z X nw ed nv vt mv Dv) : GT c D m := h.2.1
theorem GF.of (h : GF c D P H) (hq : Cor S c di D m U P H Z X nw ed nv vt mv Dv) (k : Sc c c') (k1 : ∀ a, 117 ≤ a → a ≤ 130 → c'.1 a = c.1 a) (k2 : ∀ a, 117 ≤ a → a ≤ 130 → c'.2.1 a = c.2.1 a) (k3 : ∀ q k, 117 ≤ q → q ≤ 130 → c'.2.2.1 q k = c.2.2.1 q k) (k4 : ∀ q k, 117 ≤ q → q ≤ 130 → c'.2.2.2.1 q k = c.2.2.2.1 q k) (k5 : c'.2.2.1 0 18 = c.2.2.1 0 18) : GF c' D P H := by
  have hp := (hq.sc k).2.2.2.2.1.1
  have hl := (hq.sc k).2.1.2.1
  obtain ⟨⟨r, r1, ⟨-, -, f3, f4⟩, f5, f6⟩, st, s1, s2⟩ := h
  refine ⟨⟨r, r1, ⟨hl, hp, by rw [k4 _ _ (by omega) (by omega)]; exact f3, fun i hi => by rw [k1 _ (by omega) (by omega)]; exact f4 i hi⟩, by rw [k3 _ _ (by omega) (by omega)]; exact f5, fun p i hp hi => by rw [k2 _ (by omega) (by omega)]; exact f6 p i hp hi⟩, st, by rw [k5]; exact s1, fun hs => ?_⟩
  obtain ⟨r, r1, ⟨-, -, f3, f4⟩, f5, f6⟩ := s2 hs
  exact ⟨r, r1, ⟨hl, hp, by rw [k4 _ _ (by omega) (by omega)]; exact f3, fun i hi => by rw [k1 _ (by omega) (by omega)]; exact f4 i hi⟩, by rw [k3 _ _ (by omega) (by omega)]; exact f5, fun p i hp hi => by rw [k2 _ (by omega) (by omega)]; exact f6 p i hp hi⟩
/-- the answer's place and the reference's flag are written -/
def ansC (c : tc_C) (a : Int64) : tc_C := tc_J c 205 (vp_updL (c.2.1 205) 0 a)
theorem ans_sc (c : tc_C) (a : Int64) : Sc c (ansC c a) := Sc.J _ (by omega)
theorem thr_sc (c : tc_C) (k : Int32) : Sc c (tc_F c 155 0 k) := Sc.F _ (by omega)
theorem GF.ans (h : GF c D P H) (hq : Cor S c di D m U P H Z X nw ed nv vt mv Dv) (a : Int64) : GF (ansC c a) D P H :=
  h.of hq (ans_sc c a) (fun _ _ _ => rfl) (fun x _ _ => by unfold ansC; rw [tc_J2, tc_un _ _ (by omega)]) (fun _ _ _ _ => rfl) (fun _ _ _ _ => rfl) rfl
theorem GF.thr (h : GF c D P H) (hq : Cor S c di D m U P H Z X nw ed nv vt mv Dv) (k : Int32) : GF (tc_F c 155 0 k) D P H :=
  h.of hq (thr_sc c k) (fun _ _ _ => rfl) (fun _ _ _ => rfl) (fun q k _ _ => by rw [tc_F3, tc_un _ _ (by omega)]) (fun _ _ _ _ => rfl) (by rw [tc_F3, tc_un _ _ (by omega)])
/-- both sides have answered alike -/
theorem armI_ok {L : Option (Int32 × tq_H)} {R : tq_H → Option (Int32 × tq_H)} (hm : tc_Mod S1 z) (hm2 : tc_Mod S2 z2) (ht : tc_Tq S2 ed2) (h1 : L = some (k, tc_mk S1 c1)) (h2 : R (tc_mk S1 c1) = some (a, tc_mk S2 c2)) (h3 : c2.2.2.1 155 0 = k) (h4 : k = 0 → c2.2.1 205 0 = a.toInt64) :
    armI L R y4 = some (.inl (y4 + 5, tc_mk S2 c2)) := by
  unfold armI
  rw [h1, Option.bind_some]
  have e1 : tq_is (tc_mk S1 c1) 155 11 = some () := by simp (maxSteps := 3000000) (disch := omega) only [Option.bind_some, tc_bs, tq_let, tc_I1, tc_I2, tc_J1, tc_J2, tc_J3, tc_F1, tc_F2, tc_F3, tc_F4, tc_G1, tc_G2, tc_G3, tc_G4, tc_G5, tc_us, tc_un, s_one, s_holds, s_J13_bitCount, bz_bI, hm.f]
  have e2 : tq_is (tc_mk S2 c2) 155 11 = some () := by simp (maxSteps := 3000000) (disch := omega) only [Option.bind_some, tc_bs, tq_let, tc_I1, tc_I2, tc_J1, tc_J2, tc_J3, tc_F1, tc_F2, tc_F3, tc_F4, tc_G1, tc_G2, tc_G3, tc_G4, tc_G5, tc_us, tc_un, s_one, s_holds, s_J13_bitCount, bz_bI, hm2.f]
  have e3 : f_X11_thrown 155 (tc_mk S2 c2) = some k := by simp (maxSteps := 3000000) (disch := omega) only [Option.bind_some, tc_bs, tq_let, tc_I1, tc_I2, tc_J1, tc_J2, tc_J3, tc_F1, tc_F2, tc_F3, tc_F4, tc_G1, tc_G2, tc_G3, tc_G4, tc_G5, tc_us, tc_un, s_one, s_holds, s_J13_bitCount, bz_bI, f_X11_thrown, hm2.f, h3]
  have e4 : tq_aj (tc_mk S2 c2) 205 0 = some (c2.2.1 205 0) := by simp (maxSteps := 3000000) (disch := omega) only [Option.bind_some, tc_bs, tq_let, tc_I1, tc_I2, tc_J1, tc_J2, tc_J3, tc_F1, tc_F2, tc_F3, tc_F4, tc_G1, tc_G2, tc_G3, tc_G4, tc_G5, tc_us, tc_un, s_one, s_holds, s_J13_bitCount, bz_bI, ht.f]
  dsimp only
  rw [e1, Option.bind_some, h2, Option.bind_some]
  dsimp only
  rw [e2, Option.bind_some, e3, Option.bind_some, if_pos rfl]
  by_cases q : k = 0
  · rw [if_pos q, e4, Option.bind_some, h4 q, if_pos (lg_s _)]; rfl
  · rw [if_neg q]; rfl
theorem Doc.at_or (D : Doc) (v : Int32) : (∃ i, D.At v i) ∨ ∀ i, ¬ D.At v i := by
  by_cases q : ∃ i, D.At v i
  · exact .inl q
  · exact .inr fun i h => q ⟨i, h⟩
theorem Cor.need (h : Cor S c di D m U P H Z X nw ed nv vt mv Dv) (hi : D.At v i) : f_X10_needNode 0 v (tc_mk S c) = some (.inr (), tc_mk S c) := by
  have hg := h.gt
  have e1 := s_X3_holds (c := c) h.t1 v
  rw [lay_at hg.1.1 hg.2.1 hi, decide_eq_true (nI_nm1 (by have := hi.1; have := D.n_le hg.1.1; omega))] at e1
  have e2 : ¬ bI true = 0 := by decide
  simp (maxSteps := 3000000) (disch := omega) only [Option.bind_some, tc_bs, tq_let, tc_I1, tc_I2, tc_J1, tc_J2, tc_J3, tc_F1, tc_F2, tc_F3, tc_F4, tc_G1, tc_G2, tc_G3, tc_G4, tc_G5, tc_us, tc_un, s_one, s_holds, s_J13_bitCount, bz_bI, f_X10_needNode, h.tq.f, h.t1.f, e1, e2, if_false]
theorem Cor.need_n (h : Cor S c di D m U P H Z X nw ed nv vt mv Dv) (hi : ∀ i, ¬ D.At v i) : f_X10_needNode 0 v (tc_mk S c) = some (.inl "java/lang/IndexOutOfBoundsException", tc_mk S c) := by
  have hg := h.gt
  have e1 := s_X3_holds (c := c) h.t1 v
  rw [lay_noat hg.1.1 hg.2.1 hi, decide_eq_false (fun z => z rfl)] at e1
  have e2 : bI false = 0 := rfl
  simp (maxSteps := 3000000) (disch := omega) only [Option.bind_some, tc_bs, tq_let, tc_I1, tc_I2, tc_J1, tc_J2, tc_J3, tc_F1, tc_F2, tc_F3, tc_F4, tc_G1, tc_G2, tc_G3, tc_G4, tc_G5, tc_us, tc_un, s_one, s_holds, s_J13_bitCount, bz_bI, f_X10_needNode, h.tq.f, h.t1.f, e1, e2, if_true]
theorem Cor.noN (h : Cor S c di D m U P H Z X nw ed nv vt mv Dv) (hi : D.At v i) : f_X11_noNode 155 v (tc_mk S c) = some (0, tc_mk S (tc_F c 155 0 0)) := by
  have hg := h.gt
  have e1 := s_X11_isNode h.mod hg.1.1 hg.2.2.2.1 hi
  have n10 : ¬ (1 : Int32) = 0 := by decide
  have z0 : tq_bz 0 = some 0 := rfl
  simp (maxSteps := 3000000) (disch := omega) only [Option.bind_some, tc_bs, tq_let, tc_I1, tc_I2, tc_J1, tc_J2, tc_J3, tc_F1, tc_F2, tc_F3, tc_F4, tc_G1, tc_G2, tc_G3, tc_G4, tc_G5, tc_us, tc_un, s_one, s_holds, s_J13_bitCount, bz_bI, f_X11_noNode, f_X11_refused, h.mod.f, e1, n10, z0, if_true, if_false]
theorem Cor.noN_n (h : Cor S c di D m U P H Z X nw ed nv vt mv Dv) (hi : ∀ i, ¬ D.At v i) : f_X11_noNode 155 v (tc_mk S c) = some (1, tc_mk S (tc_F c 155 0 1)) := by
  have hg := h.gt
  have e1 := s_X11_isNode_n h.mod hg.1.1 hg.2.2.2.1 hi
  have n10 : ¬ (1 : Int32) = 0 := by decide
  have z1 : tq_bz 1 = some 1 := rfl
  simp (maxSteps := 3000000) (disch := omega) only [Option.bind_some, tc_bs, tq_let, tc_I1, tc_I2, tc_J1, tc_J2, tc_J3, tc_F1, tc_F2, tc_F3, tc_F4, tc_G1, tc_G2, tc_G3, tc_G4, tc_G5, tc_us, tc_un, s_one, s_holds, s_J13_bitCount, bz_bI, f_X11_noNode, f_X11_refused, h.mod.f, e1, n10, z1, if_true, if_false]
/-- the new state, where only the answer and the flag were written -/
theorem Cor.fin (h : Cor S c di D m U P H Z X nw ed nv vt mv Dv) (hF : GF c D P H) (k : Int32) : InvE di (tc_mk S (tc_F c 155 0 k)) :=
  ⟨S, _, D, m, U, P, H, Z, X, nw, ed, nv, vt, mv, Dv, rfl, h.sc (thr_sc c k), hF.thr h k⟩
theorem Cor.finA (h : Cor S c di D m U P H Z X nw ed nv vt mv Dv) (hF : GF c D P H) (a : Int64) (k : Int32) : InvE di (tc_mk S (tc_F (ansC c a) 155 0 k)) :=
  (h.sc (ans_sc c a)).fin (hF.ans h a) k
/-- a case whose call reads, or has no such node -/
theorem arm_read {L : Option (Int32 × tq_H)} {R : tq_H → Option (Int32 × tq_H)} (h : Cor S c di D m U P H Z X nw ed nv vt mv Dv) (hF : GF c D P H)
    (hL : (∃ a, L = some (0, tc_mk S (ansC c a.toInt64)) ∧ R (tc_mk S (ansC c a.toInt64)) = some (a, tc_mk S (tc_F (ansC c a.toInt64) 155 0 0))) ∨ ∃ k b, k ≠ 0 ∧ L = some (k, tc_mk S c) ∧ R (tc_mk S c) = some (b, tc_mk S (tc_F c 155 0 k))) :
    ∃ h', armI L R y4 = some (.inl (y4 + 5, h')) ∧ InvE di h' := by
  rcases hL with ⟨a, h1, h2⟩ | ⟨k, b, h0, h1, h2⟩
  · exact ⟨_, armI_ok h.mod h.mod h.tq h1 h2 (by rw [tc_F3, tc_us, tc_us]) (fun _ => by show (ansC c a.toInt64).2.1 205 0 = _; unfold ansC; rw [tc_J2, tc_us, updL_s]), h.finA hF _ _⟩
  · exact ⟨_, armI_ok h.mod h.mod h.tq h1 h2 (by rw [tc_F3, tc_us, tc_us]) (fun z => absurd z h0), h.fin hF _⟩
/-- what a call that collects has done to the list: refused, or one update more, and the answer is their count -/
def EXp (un u : Nat) (h : tq_H) : Prop := (u = un ∧ ∃ k, f_X11_thrown 155 h = some k ∧ k ≠ 0) ∨ (u = un + 1 ∧ f_X11_thrown 155 h = some 0 ∧ tq_aj h 205 0 = some (nI u).toInt64)
theorem thr_at (hM : tc_Mod S z) (h : c.2.2.1 155 0 = k) : f_X11_thrown 155 (tc_mk S c) = some k := by simp (maxSteps := 3000000) (disch := omega) only [Option.bind_some, tc_bs, tq_let, tc_I1, tc_I2, tc_J1, tc_J2, tc_J3, tc_F1, tc_F2, tc_F3, tc_F4, tc_G1, tc_G2, tc_G3, tc_G4, tc_G5, tc_us, tc_un, s_one, s_holds, s_J13_bitCount, bz_bI, f_X11_thrown, hM.f, h]
theorem aj_at {x : Int64} (hT : tc_Tq S ed) (h : c.2.1 205 0 = x) : tq_aj (tc_mk S c) 205 0 = some x := by simp (maxSteps := 3000000) (disch := omega) only [Option.bind_some, tc_bs, tq_let, tc_I1, tc_I2, tc_J1, tc_J2, tc_J3, tc_F1, tc_F2, tc_F3, tc_F4, tc_G1, tc_G2, tc_G3, tc_G4, tc_G5, tc_us, tc_un, s_one, s_holds, s_J13_bitCount, bz_bI, hT.f, h]
theorem Cor.un (h : Cor S c di D m U P H Z X nw ed nv vt mv Dv) : U.n = di.2.2 := h.2.2.2.2.2.2.2.2.2.2.2.2
theorem Cor.gq (h : Cor S c di D m U P H Z X nw ed nv vt mv Dv) : GQ c D Z di.2.1 := h.2.2.2.2.2.2.2.2.2.2.2.1
theorem arm_no {L : Option (Int32 × tq_H)} {R : tq_H → Option (Int32 × tq_H)} {b : Int32} (h : Cor S c di D m U P H Z X nw ed nv vt mv Dv) (hF : GF c D P H)
    (h0 : k ≠ 0) (h1 : L = some (k, tc_mk S c)) (h2 : R (tc_mk S c) = some (b, tc_mk S (tc_F c 155 0 k))) :
    ∃ h' u, armI L R y4 = some (.inl (y4 + 5, h')) ∧ InvE (di.1, di.2.1, u) h' ∧ EXp di.2.2 u h' :=
  ⟨_, di.2.2, armI_ok h.mod h.mod h.tq h1 h2 (by rw [tc_F3, tc_us, tc_us]) (fun z => absurd z h0), h.fin hF _, Or.inl ⟨rfl, k, thr_at h.mod (by rw [tc_F3, tc_us, tc_us]), h0⟩⟩
theorem arm_kind (h : InvE di h0) (e1 : tq_sx n xs (y4 + 1) = some x1) : ∃ h', f_V_law_c960 n xs 0 155 205 y4 h0 = some (.inl (y4 + 5, h')) ∧ InvE di h' := by
  obtain ⟨S, c, D, m, U, P, H, Z, X, nw, ed, nv, vt, mv, Dv, rfl, hC, hF⟩ := h
  have e0 : f_V_law_c960 n xs 0 155 205 y4 (tc_mk S c) = armI (f_V_kind 0 x1 205 (tc_mk S c)) (f_X11_kind 155 x1) y4 := by
    unfold f_V_law_c960; rw [e1]; rfl
  rw [e0]
  refine arm_read hC hF ?_
  rcases D.at_or x1 with ⟨i, hi⟩ | hi
  · left
    have hg := hC.gt
    obtain ⟨hin, rfl⟩ := id hi
    have h60 := D.ord_lt hg.1.1 hin
    refine ⟨D.kd i, ?_, ?_⟩
    · have e2 : rg 60 (c.1 24) (nI (D.ord i)) = D.kd i := by rw [rg_in _ h60 (by decide)]; exact hg.2.2.1.2.2.2.1 i hin
      have e3 : f_X10_kind 0 (nI (D.ord i)) (tc_mk S c) = some (.inr (D.kd i), tc_mk S c) := by
        simp (maxSteps := 3000000) (disch := omega) only [Option.bind_some, tc_bs, tq_let, tc_I1, tc_I2, tc_J1, tc_J2, tc_J3, tc_F1, tc_F2, tc_F3, tc_F4, tc_G1, tc_G2, tc_G3, tc_G4, tc_G5, tc_us, tc_un, s_one, s_holds, s_J13_bitCount, bz_bI, f_X10_kind, hC.tq.f, hC.t1.f, hC.need hi, tb_r, e2]
      simp (maxSteps := 3000000) (disch := omega) only [Option.bind_some, tc_bs, tq_let, tc_I1, tc_I2, tc_J1, tc_J2, tc_J3, tc_F1, tc_F2, tc_F3, tc_F4, tc_G1, tc_G2, tc_G3, tc_G4, tc_G5, tc_us, tc_un, s_one, s_holds, s_J13_bitCount, bz_bI, f_V_kind, hC.tq.f, e3]; rfl
    · have hC2 := hC.sc (ans_sc c (D.kd i).toInt64)
      have e4 := hC2.noN hi
      have e5 := hC2.gt.2.2.2.1.2.2.2.2.1 i hin
      generalize ansC c (D.kd i).toInt64 = c2 at *
      have n00 : (0 : Int32) = 0 := rfl
      simp (maxSteps := 3000000) (disch := omega) only [Option.bind_some, tc_bs, tq_let, tc_I1, tc_I2, tc_J1, tc_J2, tc_J3, tc_F1, tc_F2, tc_F3, tc_F4, tc_G1, tc_G2, tc_G3, tc_G4, tc_G5, tc_us, tc_un, s_one, s_holds, s_J13_bitCount, bz_bI, f_X11_kind, hC.mod.f, e4, e5, if_true]
  · right
    have e3 : f_X10_kind 0 x1 (tc_mk S c) = some (.inl "java/lang/IndexOutOfBoundsException", tc_mk S c) := by
      simp (maxSteps := 3000000) (disch := omega) only [Option.bind_some, tc_bs, tq_let, tc_I1, tc_I2, tc_J1, tc_J2, tc_J3, tc_F1, tc_F2, tc_F3, tc_F4, tc_G1, tc_G2, tc_G3, tc_G4, tc_G5, tc_us, tc_un, s_one, s_holds, s_J13_bitCount, bz_bI, f_X10_kind, hC.tq.f, hC.t1.f, hC.need_n hi, tb_l]
    refine ⟨1, 0, by decide, ?_, ?_⟩
    · simp (maxSteps := 3000000) (disch := omega) only [Option.bind_some, tc_bs, tq_let, tc_I1, tc_I2, tc_J1, tc_J2, tc_J3, tc_F1, tc_F2, tc_F3, tc_F4, tc_G1, tc_G2, tc_G3, tc_G4, tc_G5, tc_us, tc_un, s_one, s_holds, s_J13_bitCount, bz_bI, f_V_kind, hC.tq.f, e3, if_true]
    · have n10 : ¬ (1 : Int32) = 0 := by decide
      simp (maxSteps := 3000000) (disch := omega) only [Option.bind_some, tc_bs, tq_let, tc_I1, tc_I2, tc_J1, tc_J2, tc_J3, tc_F1, tc_F2, tc_F3, tc_F4, tc_G1, tc_G2, tc_G3, tc_G4, tc_G5, tc_us, tc_un, s_one, s_holds, s_J13_bitCount, bz_bI, f_X11_kind, hC.mod.f, hC.noN_n hi, n10, if_false]
end RDA
