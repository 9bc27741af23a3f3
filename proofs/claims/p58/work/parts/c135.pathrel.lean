/-! ===== the relation while paths grow ===== -/
abbrev p1w (a : Nat) : Prop := (100 ≤ a ∧ a ≤ 116) ∨ (175 ≤ a ∧ a ≤ 178)
abbrev p3w (q k : Nat) : Prop := (q = 98 ∧ k = 9) ∨ (q = 155 ∧ (k = 24 ∨ k = 0)) ∨ (q = 117 ∧ k = 7) ∨ (q = 124 ∧ k = 7) ∨ (q = 0 ∧ k = 18)
section GRV
variable {S : tq_H} {c c' c1 : tc_C} {di : DI} {D : Doc} {m : Nat} {U : Ups} {P P' : Pat} {H : Nat → Bool} {Z : Sma} {X : Nat → Bool} {nw : Nat} {ed : Option Nat} {nv : Nat} {vt mv : Nat → Nat} {Dv : Nat → Doc} {p q r k z : Nat} {x y o v y4 : Int32}
theorem Cor.grow (h : Cor S c di D m U P H Z X nw ed nv vt mv Dv) (hF : GF c D P H) (k : Wr p1w u2 p3w u4 c c') (hP' : GP c' P') (hn : P.n ≤ P'.n) (hq : q ≤ P.n) (hag : ∀ r, r < q → P.agr P' r) (hvw : ∀ k p, k < nw → p < P.n → c.1 150 k = nI p → p < q)
    (e117 : ∀ r, r ≤ P.n → c.2.2.1 117 7 = nI r → c'.2.2.1 117 7 = nI (min r q)) (e124 : ∀ r, r ≤ P.n → c.2.2.1 124 7 = nI r → c'.2.2.1 124 7 = nI (min r q)) (hs : ((∀ p, H p = true → p < q) ∧ c'.2.2.1 0 18 = c.2.2.1 0 18) ∨ c'.2.2.1 0 18 = 1) :
    Cor S c' di D m U P' H Z X nw ed nv vt mv Dv ∧ GF c' D P' H := by
  obtain ⟨h0, h1, h2, h3, h4, h5, h6, h7, h8, h9, h10⟩ := h
  have g1 := h1.wr k (fun a _ => by omega) (fun a _ => by omega) (fun q k _ => by omega) (fun _ _ _ z => z)
  refine ⟨⟨h0, g1, h2.wr k (fun a _ => by omega) (fun q k _ => by omega), h3.wr k (fun a _ => by omega) (fun q k _ => by omega), hP', ?_, h6.wr k (fun a _ => by omega) (fun q k _ => by omega), h7.wr k (fun a _ => by omega) (fun _ _ _ z => z), ?_, h9.wr h0 k (fun a _ => by omega) (fun a _ => by omega) (fun q k _ => by omega) (fun _ _ _ z => z), h10.wr h0 k (fun a _ => by omega) (fun q k _ => by omega)⟩, ?_⟩
  · obtain ⟨a1, a2, ⟨j, j1, j2, j3, j4, j5⟩, a4⟩ := h5.wr k (fun a _ => by omega) (fun q k _ => by omega) (fun _ _ _ z => z)
    refine ⟨a1, fun p hp => Nat.lt_of_lt_of_le (a2 p hp) hn, ⟨j, j1, j2, fun i hi => ?_, j4, j5⟩, a4⟩
    obtain ⟨p, p1, p2⟩ := j3 i hi
    exact ⟨p, Nat.lt_of_lt_of_le p1 hn, p2⟩
  · obtain ⟨a1, a2, a3, a4, a5⟩ := h8.wr k (fun a _ => by omega) (fun a _ => by omega) (fun q k _ => by omega)
    refine ⟨a1, a2, a3, fun k' hk' => ?_, a5⟩
    obtain ⟨p, p1, p2, p3, p4⟩ := a4 k' hk'
    have hpq := hvw k' p hk' p1 (by rw [← k.1 150 (by omega)]; exact p2)
    exact ⟨p, Nat.lt_of_lt_of_le p1 hn, p2, p3, by rw [fnd_cg (P := P) (P' := P') fun r hr => hag r (by omega)]; exact p4⟩
  · obtain ⟨k1, k2, k3, k4, k5⟩ := k
    obtain ⟨⟨r, r1, ⟨-, -, f3, f4⟩, f5, f6⟩, st, s1, s2⟩ := hF
    have hft : ∀ p, p < q → D.fnd P' D.al p = D.fnd P D.al p := fun p hp => fnd_cg fun r hr => hag r (by omega)
    refine ⟨⟨min r q, by omega, ⟨g1.2.1, hP'.1, by rw [k4 _ _ id]; exact f3, fun i hi => by rw [k1 _ (by omega)]; exact f4 i hi⟩, e117 r r1 f5, fun p i hp hi => ?_⟩, ?_⟩
    · rw [k2 _ (by omega), hft p (by omega)]; exact f6 p i (by omega) hi
    · rcases hs with ⟨hs1, hs2⟩ | hs
      · refine ⟨st, by rw [hs2]; exact s1, fun hst => ?_⟩
        obtain ⟨r, r1, ⟨-, -, f3, f4⟩, f5, f6⟩ := s2 hst
        have hsn : D.sn P' H = D.sn P H := sn_cg fun p hp => ⟨by have := hs1 p hp; omega, by have := hs1 p hp; omega, fun r hr => hag r (by have := hs1 p hp; omega)⟩
        rw [hsn]
        have hft2 : ∀ p, p < q → D.fnd P' (D.sn P H) p = D.fnd P (D.sn P H) p := fun p hp => fnd_cg fun r hr => hag r (by omega)
        exact ⟨min r q, by omega, ⟨g1.2.1, hP'.1, by rw [k4 _ _ id]; exact f3, fun i hi => by rw [k1 _ (by omega)]; exact f4 i hi⟩, e124 r r1 f5, fun p i hp hi => by rw [k2 _ (by omega), hft2 p (by omega)]; exact f6 p i (by omega) hi⟩
      · exact ⟨true, hs, fun z => Bool.noConfusion z⟩
/-! the calls' looks at paths -/
theorem Cor.pth (h : Cor S c di D m U P H Z X nw ed nv vt mv Dv) : tc_Pth S 98 := h.1.2.2.2.1
theorem Cor.gp (h : Cor S c di D m U P H Z X nw ed nv vt mv Dv) : GP c P := h.2.2.2.2.1
theorem Cor.gv (h : Cor S c di D m U P H Z X nw ed nv vt mv Dv) : GV c D P nw := h.2.2.2.2.2.2.2.2.1
theorem Cor.npath (h : Cor S c di D m U P H Z X nw ed nv vt mv Dv) (x : Int32) : ((0 ≤ x ∧ x < nI P.n) → f_X10_needPath 0 x (tc_mk S c) = some (.inr (), tc_mk S c)) ∧ (¬ (0 ≤ x ∧ x < nI P.n) → f_X10_needPath 0 x (tc_mk S c) = some (.inl "java/lang/IndexOutOfBoundsException", tc_mk S c)) := by
  have e1 := h.gp.1.1
  constructor
  · rintro ⟨q1, q2⟩
    have q1 : ¬ x < 0 := Int32.not_lt.mpr q1
    simp (maxSteps := 3000000) (disch := omega) only [Option.bind_some, tc_bs, tq_let, tc_I1, tc_I2, tc_J1, tc_J2, tc_J3, tc_F1, tc_F2, tc_F3, tc_F4, tc_G1, tc_G2, tc_G3, tc_G4, tc_G5, tc_us, tc_un, s_one, s_holds, s_J13_bitCount, bz_bI, f_X10_needPath, f_X4_count, h.tq.f, h.pth.f, e1, q1, q2, if_true, if_false]
  · intro q
    by_cases q1 : x < 0
    · simp (maxSteps := 3000000) (disch := omega) only [Option.bind_some, tc_bs, tq_let, tc_I1, tc_I2, tc_J1, tc_J2, tc_J3, tc_F1, tc_F2, tc_F3, tc_F4, tc_G1, tc_G2, tc_G3, tc_G4, tc_G5, tc_us, tc_un, s_one, s_holds, s_J13_bitCount, bz_bI, f_X10_needPath, q1, if_true]
    · have q2 : ¬ x < nI P.n := fun z => q ⟨Int32.not_lt.mp q1, z⟩
      simp (maxSteps := 3000000) (disch := omega) only [Option.bind_some, tc_bs, tq_let, tc_I1, tc_I2, tc_J1, tc_J2, tc_J3, tc_F1, tc_F2, tc_F3, tc_F4, tc_G1, tc_G2, tc_G3, tc_G4, tc_G5, tc_us, tc_un, s_one, s_holds, s_J13_bitCount, bz_bI, f_X10_needPath, f_X4_count, h.tq.f, h.pth.f, e1, q1, q2, if_true, if_false]
theorem nlower (hs : tq_H) (x o : Int32) : ((0 ≤ o ∧ o < x) → f_X10_needLower 0 x o hs = some (.inr (), hs)) ∧ (¬ (0 ≤ o ∧ o < x) → f_X10_needLower 0 x o hs = some (.inl "java/lang/IndexOutOfBoundsException", hs)) := by
  constructor
  · rintro ⟨q1, q2⟩
    unfold f_X10_needLower
    rw [if_neg (Int32.not_lt.mpr q1), if_pos q2]
  · intro q
    unfold f_X10_needLower
    by_cases q1 : o < 0
    · rw [if_pos q1]
    · rw [if_neg q1, if_neg fun z => q ⟨Int32.not_lt.mp q1, z⟩]
theorem low_iff {p : Nat} (hp : p < 1000) (o : Int32) : (0 ≤ o ∧ o ≤ nI p - 1) ↔ (0 ≤ o ∧ o < nI p) := by
  by_cases z : p = 0
  · subst z
    constructor
    · rintro ⟨a, b⟩
      exfalso
      have : nI 0 - 1 = -1 := by decide
      rw [this] at b
      have h1 := Int32.le_trans a b
      exact absurd h1 (by decide)
    · rintro ⟨a, b⟩
      exact absurd (Int32.lt_of_le_of_lt a b) (by decide)
  · obtain ⟨s, rfl⟩ : ∃ s, p = s + 1 := ⟨p - 1, by omega⟩
    rw [nI_pred]
    constructor
    · rintro ⟨a, b⟩
      obtain ⟨j, hj, rfl⟩ := nI_of (Int32.not_lt.mpr a)
      exact ⟨a, nI_lt (by have := (nI_leI hj (by omega)).mp b; omega) (by omega)⟩
    · rintro ⟨a, b⟩
      obtain ⟨j, hj, rfl⟩ := nI_of (Int32.not_lt.mpr a)
      exact ⟨a, nI_le (by have := (nI_ltI hj (by omega)).mp b; omega) (by omega)⟩
/-- a path has a view -/
def vwB (c : tc_C) (nw p : Nat) : Bool := anyB (fun k => decide (c.1 150 k = nI p)) nw
theorem Cor.nopen (h : Cor S c di D m U P H Z X nw ed nv vt mv Dv) (hp : p < P.n) : ((p + 1 = P.n ∧ vwB c nw p = false) → f_X10_needOpenPath 0 (nI p) (tc_mk S c) = some (.inr (), tc_mk S c)) ∧ (¬ (p + 1 = P.n ∧ vwB c nw p = false) → f_X10_needOpenPath 0 (nI p) (tc_mk S c) = some (.inl "java/lang/IllegalStateException", tc_mk S c)) := by
  have h20 := h.gp.2.2.1
  have e1 := h.gp.1.1
  obtain ⟨v1, v2, v3, v4, v5⟩ := h.gv
  have e0 : nI P.n - 1 = nI (P.n - 1) := by
    obtain ⟨s, hs⟩ : ∃ s, P.n = s + 1 := ⟨P.n - 1, by omega⟩
    rw [hs, nI_pred, Nat.add_sub_cancel]
  obtain ⟨s, s1, s2⟩ := tc_run2 (B := f_X10_needOpenPath_b26 0 (nI p) (tc_mk S c)) nw (fun k (_ : Unit) => nI k) (fun k _ => ∀ j, j < k → c.1 150 j ≠ nI p)
    (fun e => (e = .inl () ∧ vwB c nw p = false) ∨ (e = .inr (.inl "java/lang/IllegalStateException", tc_mk S c) ∧ vwB c nw p = true)) (by omega) (fun k _ hk hI => by
      have g1 : ¬ nI k ≥ nI nw := nI_ge hk (by omega)
      have g2 : rg 5 (c.1 150) (nI k) = c.1 150 k := rg_in _ (by omega) (by decide)
      by_cases q : c.1 150 k = nI p
      · right
        exact ⟨_, by simp (maxSteps := 3000000) (disch := omega) only [Option.bind_some, tc_bs, tq_let, tc_I1, tc_I2, tc_J1, tc_J2, tc_J3, tc_F1, tc_F2, tc_F3, tc_F4, tc_G1, tc_G2, tc_G3, tc_G4, tc_G5, tc_us, tc_un, s_one, s_holds, s_J13_bitCount, bz_bI, f_X10_needOpenPath_b26, h.tq.f, v1, g1, g2, q, if_true, if_false], .inr ⟨rfl, anyB_iff.mpr ⟨k, hk, decide_eq_true q⟩⟩⟩
      · left
        refine ⟨(), by simp (maxSteps := 3000000) (disch := omega) only [Option.bind_some, tc_bs, tq_let, tc_I1, tc_I2, tc_J1, tc_J2, tc_J3, tc_F1, tc_F2, tc_F3, tc_F4, tc_G1, tc_G2, tc_G3, tc_G4, tc_G5, tc_us, tc_un, s_one, s_holds, s_J13_bitCount, bz_bI, f_X10_needOpenPath_b26, h.tq.f, v1, g1, g2, q, if_true, if_false, nI_1], fun j hj => ?_⟩
        by_cases e : j = k
        · rw [e]; exact q
        · exact hI j (by omega)) (fun _ hI => by
      have g1 : nI nw ≥ nI nw := Int32.le_refl _
      refine ⟨.inl (), by simp (maxSteps := 3000000) (disch := omega) only [Option.bind_some, tc_bs, tq_let, tc_I1, tc_I2, tc_J1, tc_J2, tc_J3, tc_F1, tc_F2, tc_F3, tc_F4, tc_G1, tc_G2, tc_G3, tc_G4, tc_G5, tc_us, tc_un, s_one, s_holds, s_J13_bitCount, bz_bI, f_X10_needOpenPath_b26, h.tq.f, v1, g1, if_true], .inl ⟨rfl, ?_⟩⟩
      cases e : vwB c nw p with
      | false => rfl
      | true =>
        obtain ⟨k, k1, k2⟩ := anyB_iff.mp e
        exact absurd (of_decide_eq_true k2) (hI k k1)) (x := ()) (fun j hj => absurd hj (Nat.not_lt_zero _))
  have s1 : tq_loop (f_X10_needOpenPath_b26 0 (nI p) (tc_mk S c)) tq_N (0 : Int32) = some s := s1
  constructor
  · rintro ⟨q1, q2⟩
    have e2 : nI p = nI (P.n - 1) := by rw [← q1, Nat.add_sub_cancel]
    rcases s2 with ⟨rfl, -⟩ | ⟨-, z⟩
    · rw [e2] at s1 ⊢
      simp (maxSteps := 3000000) (disch := omega) only [Option.bind_some, tc_bs, tq_let, tc_I1, tc_I2, tc_J1, tc_J2, tc_J3, tc_F1, tc_F2, tc_F3, tc_F4, tc_G1, tc_G2, tc_G3, tc_G4, tc_G5, tc_us, tc_un, s_one, s_holds, s_J13_bitCount, bz_bI, f_X10_needOpenPath, f_X4_count, h.tq.f, h.pth.f, e1, e0, s1, if_true]
    · rw [q2] at z; cases z
  · intro q
    by_cases q1 : p + 1 = P.n
    · have e2 : nI p = nI (P.n - 1) := by rw [← q1, Nat.add_sub_cancel]
      rcases s2 with ⟨-, z⟩ | ⟨rfl, -⟩
      · exact absurd ⟨q1, z⟩ q
      · rw [e2] at s1 ⊢
        simp (maxSteps := 3000000) (disch := omega) only [Option.bind_some, tc_bs, tq_let, tc_I1, tc_I2, tc_J1, tc_J2, tc_J3, tc_F1, tc_F2, tc_F3, tc_F4, tc_G1, tc_G2, tc_G3, tc_G4, tc_G5, tc_us, tc_un, s_one, s_holds, s_J13_bitCount, bz_bI, f_X10_needOpenPath, f_X4_count, h.tq.f, h.pth.f, e1, e0, s1, if_true]
    · have e2 : ¬ nI p = nI (P.n - 1) := fun z => by
        have := (nI_eq (by omega) (by omega)).mp z; omega
      simp (maxSteps := 3000000) (disch := omega) only [Option.bind_some, tc_bs, tq_let, tc_I1, tc_I2, tc_J1, tc_J2, tc_J3, tc_F1, tc_F2, tc_F3, tc_F4, tc_G1, tc_G2, tc_G3, tc_G4, tc_G5, tc_us, tc_un, s_one, s_holds, s_J13_bitCount, bz_bI, f_X10_needOpenPath, f_X4_count, h.tq.f, h.pth.f, e1, e0, e2, if_false]
theorem Cor.ropen (h : Cor S c di D m U P H Z X nw ed nv vt mv Dv) (hp : p < P.n) {d : tc_C} (hd : PR d P) (hP : P.wf) (hv : GV d D P nw) (hvw : ∀ k, k < nw → d.1 150 k = c.1 150 k) : f_X11_isOpen 155 (nI p) (tc_mk S d) = some (bI (decide (p + 1 = P.n ∧ vwB c nw p = false))) := by
  have hM := h.mod
  have h20 := hP.1
  have e1 := hd.1
  obtain ⟨v1, v2, v3, v4, v5⟩ := hv
  have e0 : nI P.n - 1 = nI (P.n - 1) := by
    obtain ⟨s, hs⟩ : ∃ s, P.n = s + 1 := ⟨P.n - 1, by omega⟩
    rw [hs, nI_pred, Nat.add_sub_cancel]
  have W := tc_iter (B := f_X11_hasView_b4 155 (nI p) (tc_mk S d)) nw (fun k => (bI (anyB (fun k => decide (c.1 150 k = nI p)) k), nI k)) (e := bI (vwB c nw p)) (fun k hk => ?_) ?_ (by unfold tq_N; omega)
  · have W : tq_loop (f_X11_hasView_b4 155 (nI p) (tc_mk S d)) tq_N ((0 : Int32), (0 : Int32)) = some (bI (vwB c nw p)) := W
    by_cases q1 : p + 1 = P.n
    · have e2 : nI p = nI (P.n - 1) := by rw [← q1, Nat.add_sub_cancel]
      rw [e2] at W ⊢
      have z0 : tq_bz 0 = some 0 := rfl
      have z1 : tq_bz 1 = some 1 := rfl
      cases q2 : vwB c nw p with
      | true =>
        rw [q2] at W
        have b1 : ¬ bI true = 0 := by decide
        rw [decide_eq_false fun z => Bool.noConfusion z.2]
        simp (maxSteps := 3000000) (disch := omega) only [Option.bind_some, tc_bs, tq_let, tc_I1, tc_I2, tc_J1, tc_J2, tc_J3, tc_F1, tc_F2, tc_F3, tc_F4, tc_G1, tc_G2, tc_G3, tc_G4, tc_G5, tc_us, tc_un, s_one, s_holds, s_J13_bitCount, bz_bI, f_X11_isOpen, f_X11_hasView, hM.f, e1, e0, W, b1, z0, if_true, if_false]; rfl
      | false =>
        rw [q2] at W
        have b0 : bI false = 0 := rfl
        rw [decide_eq_true ⟨q1, rfl⟩]
        simp (maxSteps := 3000000) (disch := omega) only [Option.bind_some, tc_bs, tq_let, tc_I1, tc_I2, tc_J1, tc_J2, tc_J3, tc_F1, tc_F2, tc_F3, tc_F4, tc_G1, tc_G2, tc_G3, tc_G4, tc_G5, tc_us, tc_un, s_one, s_holds, s_J13_bitCount, bz_bI, f_X11_isOpen, f_X11_hasView, hM.f, e1, e0, W, b0, z0, z1, if_true, if_false]; rfl
    · have e2 : ¬ nI p = nI (P.n - 1) := fun z => by
        have := (nI_eq (by omega) (by omega)).mp z; omega
      have z0 : tq_bz 0 = some 0 := rfl
      rw [decide_eq_false fun z => q1 z.1]
      simp (maxSteps := 3000000) (disch := omega) only [Option.bind_some, tc_bs, tq_let, tc_I1, tc_I2, tc_J1, tc_J2, tc_J3, tc_F1, tc_F2, tc_F3, tc_F4, tc_G1, tc_G2, tc_G3, tc_G4, tc_G5, tc_us, tc_un, s_one, s_holds, s_J13_bitCount, bz_bI, f_X11_isOpen, hM.f, e1, e0, e2, z0, if_false]; rfl
  · have g1 : ¬ nI k ≥ nI nw := nI_ge hk (by omega)
    obtain ⟨pk, p1, p2, p3, -⟩ := v4 k hk
    rw [hvw k hk] at p2
    rw [anyB]
    cases anyB (fun k => decide (c.1 150 k = nI p)) k with
    | true =>
      have b1 : ¬ bI true = 0 := by decide
      rw [Bool.true_or]
      simp (maxSteps := 3000000) (disch := omega) only [Option.bind_some, tc_bs, tq_let, tc_I1, tc_I2, tc_J1, tc_J2, tc_J3, tc_F1, tc_F2, tc_F3, tc_F4, tc_G1, tc_G2, tc_G3, tc_G4, tc_G5, tc_us, tc_un, s_one, s_holds, s_J13_bitCount, bz_bI, f_X11_hasView_b4, hM.f, v2, g1, b1, if_false, nI_1]; rfl
    | false =>
      have b0 : bI false = 0 := rfl
      rw [Bool.false_or, p2]
      by_cases q : nI pk = nI p
      · rw [decide_eq_true q]
        rw [q] at p3
        simp (maxSteps := 3000000) (disch := omega) only [Option.bind_some, tc_bs, tq_let, tc_I1, tc_I2, tc_J1, tc_J2, tc_J3, tc_F1, tc_F2, tc_F3, tc_F4, tc_G1, tc_G2, tc_G3, tc_G4, tc_G5, tc_us, tc_un, s_one, s_holds, s_J13_bitCount, bz_bI, f_X11_hasView_b4, hM.f, v2, g1, b0, p3, if_true, if_false, nI_1]; rfl
      · rw [decide_eq_false q]
        simp (maxSteps := 3000000) (disch := omega) only [Option.bind_some, tc_bs, tq_let, tc_I1, tc_I2, tc_J1, tc_J2, tc_J3, tc_F1, tc_F2, tc_F3, tc_F4, tc_G1, tc_G2, tc_G3, tc_G4, tc_G5, tc_us, tc_un, s_one, s_holds, s_J13_bitCount, bz_bI, f_X11_hasView_b4, hM.f, v2, g1, b0, p3, q, if_true, if_false, nI_1]
  · have g1 : nI nw ≥ nI nw := Int32.le_refl _
    simp (maxSteps := 3000000) (disch := omega) only [Option.bind_some, tc_bs, tq_let, tc_I1, tc_I2, tc_J1, tc_J2, tc_J3, tc_F1, tc_F2, tc_F3, tc_F4, tc_G1, tc_G2, tc_G3, tc_G4, tc_G5, tc_us, tc_un, s_one, s_holds, s_J13_bitCount, bz_bI, f_X11_hasView_b4, hM.f, v2, g1, if_true]; rfl
/-- what a change of a path drops -/
theorem s_drop (hS : tc_Fnd S q) : f_X2_dropFrom q x (tc_mk S c) = some (tc_mk S (tc_F c q 7 (if x < c.2.2.1 q 7 then x else c.2.2.1 q 7))) := by
  simp (maxSteps := 3000000) (disch := omega) only [Option.bind_some, tc_bs, tq_let, tc_I1, tc_I2, tc_J1, tc_J2, tc_J3, tc_F1, tc_F2, tc_F3, tc_F4, tc_G1, tc_G2, tc_G3, tc_G4, tc_G5, tc_us, tc_un, s_one, s_holds, s_J13_bitCount, bz_bI, f_X2_dropFrom, hS.f]
theorem min_I {r p : Nat} (hr : r < 1000) (hp : p < 1000) : (if nI p < nI r then nI p else nI r) = nI (min r p) := by
  by_cases h : p < r
  · rw [if_pos (nI_lt h (by omega)), Nat.min_eq_right (by omega)]
  · rw [if_neg (nI_nlt (by omega) (by omega)), Nat.min_eq_left (by omega)]
theorem Cor.note (h : Cor S c di D m U P H Z X nw ed nv vt mv Dv) (hp : p < P.n) : ∃ c', f_X10_noteChangeOf 0 (nI p) (tc_mk S c) = some (tc_mk S c') ∧ Wr uc2 uc2 p3w u4 c c' ∧
    (∀ r, r ≤ P.n → c.2.2.1 117 7 = nI r → c'.2.2.1 117 7 = nI (min r p)) ∧ (∀ r, r ≤ P.n → c.2.2.1 124 7 = nI r → c'.2.2.1 124 7 = nI (min r p)) ∧ ((H p = false ∧ c'.2.2.1 0 18 = c.2.2.1 0 18) ∨ c'.2.2.1 0 18 = 1) ∧ (∀ q k, q = 155 ∨ q = 98 → c'.2.2.1 q k = c.2.2.1 q k) := by
  have h20 := h.gp.2.2.1
  have e1 := h.2.2.2.2.2.1.1
  have hf1 := h.1.2.2.2.2.1.1
  have hf2 := h.1.2.2.2.2.1.2
  have d1 := s_drop (c := c) (x := nI p) hf1
  have d2 := s_drop (c := tc_F c 117 7 (if nI p < c.2.2.1 117 7 then nI p else c.2.2.1 117 7)) (x := nI p) hf2
  have i1 : ∀ c, tq_is (tc_mk S c) 117 2 = some () := fun c => by simp (maxSteps := 3000000) (disch := omega) only [Option.bind_some, tc_bs, tq_let, tc_I1, tc_I2, tc_J1, tc_J2, tc_J3, tc_F1, tc_F2, tc_F3, tc_F4, tc_G1, tc_G2, tc_G3, tc_G4, tc_G5, tc_us, tc_un, s_one, s_holds, s_J13_bitCount, bz_bI, hf1.f]
  have i2 : ∀ c, tq_is (tc_mk S c) 124 2 = some () := fun c => by simp (maxSteps := 3000000) (disch := omega) only [Option.bind_some, tc_bs, tq_let, tc_I1, tc_I2, tc_J1, tc_J2, tc_J3, tc_F1, tc_F2, tc_F3, tc_F4, tc_G1, tc_G2, tc_G3, tc_G4, tc_G5, tc_us, tc_un, s_one, s_holds, s_J13_bitCount, bz_bI, hf2.f]
  rw [tc_F3, tc_un _ _ (show 124 ≠ 117 by decide)] at d2
  have hH : hasI (c.2.2.2.1 0 15) (nI p) = H p := by rw [e1, hasI_mkS _ (by omega)]
  cases q : H p with
  | false =>
    rw [q] at hH
    have b0 : bI false = 0 := rfl
    refine ⟨_, by simp (maxSteps := 3000000) (disch := omega) only [Option.bind_some, tc_bs, tq_let, tc_I1, tc_I2, tc_J1, tc_J2, tc_J3, tc_F1, tc_F2, tc_F3, tc_F4, tc_G1, tc_G2, tc_G3, tc_G4, tc_G5, tc_us, tc_un, s_one, s_holds, s_J13_bitCount, bz_bI, f_X10_noteChangeOf, h.tq.f, i1, i2, d1, d2, hH, b0, if_true]; rfl, (Wr.F _ (by omega)).trans (Wr.F _ (by omega)), fun r hr e => ?_, fun r hr e => ?_, .inl ⟨rfl, ?_⟩, fun q k hq => ?_⟩
    · simp (maxSteps := 3000000) (disch := omega) only [Option.bind_some, tc_bs, tq_let, tc_I1, tc_I2, tc_J1, tc_J2, tc_J3, tc_F1, tc_F2, tc_F3, tc_F4, tc_G1, tc_G2, tc_G3, tc_G4, tc_G5, tc_us, tc_un, s_one, s_holds, s_J13_bitCount, bz_bI, if_true]
      rw [e]; exact min_I (by omega) (by omega)
    · simp (maxSteps := 3000000) (disch := omega) only [Option.bind_some, tc_bs, tq_let, tc_I1, tc_I2, tc_J1, tc_J2, tc_J3, tc_F1, tc_F2, tc_F3, tc_F4, tc_G1, tc_G2, tc_G3, tc_G4, tc_G5, tc_us, tc_un, s_one, s_holds, s_J13_bitCount, bz_bI, if_true]
      rw [e]; exact min_I (by omega) (by omega)
    · simp (maxSteps := 3000000) (disch := omega) only [Option.bind_some, tc_bs, tq_let, tc_I1, tc_I2, tc_J1, tc_J2, tc_J3, tc_F1, tc_F2, tc_F3, tc_F4, tc_G1, tc_G2, tc_G3, tc_G4, tc_G5, tc_us, tc_un, s_one, s_holds, s_J13_bitCount, bz_bI, if_true]
    · simp (maxSteps := 3000000) (disch := omega) only [Option.bind_some, tc_bs, tq_let, tc_I1, tc_I2, tc_J1, tc_J2, tc_J3, tc_F1, tc_F2, tc_F3, tc_F4, tc_G1, tc_G2, tc_G3, tc_G4, tc_G5, tc_us, tc_un, s_one, s_holds, s_J13_bitCount, bz_bI, if_true]
  | true =>
    rw [q] at hH
    have b1 : ¬ bI true = 0 := by decide
    refine ⟨_, by simp (maxSteps := 3000000) (disch := omega) only [Option.bind_some, tc_bs, tq_let, tc_I1, tc_I2, tc_J1, tc_J2, tc_J3, tc_F1, tc_F2, tc_F3, tc_F4, tc_G1, tc_G2, tc_G3, tc_G4, tc_G5, tc_us, tc_un, s_one, s_holds, s_J13_bitCount, bz_bI, f_X10_noteChangeOf, h.tq.f, i1, i2, d1, d2, hH, b1, if_false]; rfl, ((Wr.F _ (by omega)).trans (Wr.F _ (by omega))).trans (Wr.F _ (by omega)), fun r hr e => ?_, fun r hr e => ?_, .inr ?_, fun q k hq => ?_⟩
    · simp (maxSteps := 3000000) (disch := omega) only [Option.bind_some, tc_bs, tq_let, tc_I1, tc_I2, tc_J1, tc_J2, tc_J3, tc_F1, tc_F2, tc_F3, tc_F4, tc_G1, tc_G2, tc_G3, tc_G4, tc_G5, tc_us, tc_un, s_one, s_holds, s_J13_bitCount, bz_bI, if_true]
      rw [e]; exact min_I (by omega) (by omega)
    · simp (maxSteps := 3000000) (disch := omega) only [Option.bind_some, tc_bs, tq_let, tc_I1, tc_I2, tc_J1, tc_J2, tc_J3, tc_F1, tc_F2, tc_F3, tc_F4, tc_G1, tc_G2, tc_G3, tc_G4, tc_G5, tc_us, tc_un, s_one, s_holds, s_J13_bitCount, bz_bI, if_true]
      rw [e]; exact min_I (by omega) (by omega)
    · simp (maxSteps := 3000000) (disch := omega) only [Option.bind_some, tc_bs, tq_let, tc_I1, tc_I2, tc_J1, tc_J2, tc_J3, tc_F1, tc_F2, tc_F3, tc_F4, tc_G1, tc_G2, tc_G3, tc_G4, tc_G5, tc_us, tc_un, s_one, s_holds, s_J13_bitCount, bz_bI, if_true]
    · simp (maxSteps := 3000000) (disch := omega) only [Option.bind_some, tc_bs, tq_let, tc_I1, tc_I2, tc_J1, tc_J2, tc_J3, tc_F1, tc_F2, tc_F3, tc_F4, tc_G1, tc_G2, tc_G3, tc_G4, tc_G5, tc_us, tc_un, s_one, s_holds, s_J13_bitCount, bz_bI, if_true]
end GRV
