/-! ===== one element's links ===== -/
section LAT
variable {S : tq_H} {c c' c'' : tc_C} {b e g m i j k v K E N x p n : Nat} {U : Ups} {D : Doc} {N0 : Nat → Int32} {F0 : Nat → List Nat} {P : List Nat} {f : Nat → List Nat}
theorem cutL_pre (h : p ≤ n) : cutL f p <+: cutL f n := by
  obtain ⟨d, rfl⟩ := Nat.exists_eq_add_of_le h
  clear h
  induction d with
  | zero => exact List.prefix_refl _
  | succ d ih =>
    rw [show p + (d + 1) = (p + d) + 1 by omega, cutL_succ]
    exact ih.trans (List.prefix_append _ _)
theorem pre_cut {Q : List Nat} (h : P ++ cutL f n <+: Q) (hp : p < n) : (P ++ cutL f p) ++ f p <+: Q := by
  rw [List.append_assoc, ← cutL_succ]
  exact ((List.prefix_append_right_inj P).mpr (cutL_pre (show p + 1 ≤ n from hp))).trans h
theorem LC.at70 (h : LC S c b e g m D U N0) (hi : i < D.n) (hF : ∀ u, F0 u = [] ∨ F0 u = U.F m D u) (hL : Lnk c b (seF F0 (D.ord i) P))
    (hp : P ++ cutL (U.ao m D i x) (fb_ct (D.ax 11 i) 64) <+: U.F m D (D.ord i)) (N : Int32) :
    ∃ c', tq_loop (f_X9_linkAttributes_b70 g e b (nI (D.ord i)) (mkS (D.ax 11 i)) (nI (fb_ct (D.ax 11 i) 64)) N (nI x)) tq_N (0, tc_mk S c) = some (tc_mk S c') ∧
      Lnk c' b (seF F0 (D.ord i) (P ++ cutL (U.ao m D i x) (fb_ct (D.ax 11 i) 64))) ∧ Lf b c c' := by
  have hn := fb_ct_le (D.ax 11 i) 64
  obtain ⟨y, y1, y2⟩ := tc_run (B := f_X9_linkAttributes_b70 g e b (nI (D.ord i)) (mkS (D.ax 11 i)) (nI (fb_ct (D.ax 11 i) 64)) N (nI x)) (fb_ct (D.ax 11 i) 64)
    (fun p y => (nI p, tc_mk S y)) (fun p y => Lnk y b (seF F0 (D.ord i) (P ++ cutL (U.ao m D i x) p)) ∧ Lf b c y) (fun y => tc_mk S y) (by omega) (fun p y hpn hy => by
      obtain ⟨hy1, hy2⟩ := hy
      have hC := h.lf hy2
      obtain ⟨⟨hT, hE, hU⟩, hA, ⟨hw, hu, hk, hr⟩, hLy, hUC, hCH⟩ := hC
      obtain ⟨k1, k2, k3, k4⟩ := kS_at hpn
      have hpre := pre_cut hp hpn
      have hao : U.ao m D i x p = if (U.new m D).2.1 (D.ord (kS (D.ax 11 i) p)) = nI x ∧ U.tk U.n (D.ord (kS (D.ax 11 i) p)) = false then [D.ord (kS (D.ax 11 i) p)] else [] := rfl
      rw [cutL_succ, ← List.append_assoc]
      generalize kS (D.ax 11 i) p = j at *
      have hj : j < D.n := D.ax_lt _ _ _ k2
      have h60 := D.ord_lt hw hj
      have e1 := s_X3_nodeOfSet (c := y) hE hw hLy (D.ax_lt 11 i) (nI p)
      rw [k4, D.nd_in hw hj] at e1
      have e2 : ¬ nI p ≥ nI (fb_ct (D.ax 11 i) 64) := nI_ge hpn (by omega)
      have e3 : rg 60 (y.1 (b + 25)) (nI (D.ord j)) = (U.new m D).2.1 (D.ord j) := by
        rw [rg_in _ h60 (by decide)]; exact (hCH.2.1 (D.ord j) (.inl ⟨j, hj, rfl⟩)).2.1
      have e4 : hasI (y.2.2.2.1 g 9) (nI (D.ord j)) = U.tk U.n (D.ord j) := by
        rw [hCH.2.2.2.2.2.2.1, hasI_mkS _ (by omega)]
      by_cases q1 : (U.new m D).2.1 (D.ord j) = nI x
      · cases q2 : U.tk U.n (D.ord j) with
        | false =>
          rw [hao, if_pos ⟨q1, q2⟩] at hpre ⊢
          obtain ⟨z, z1, z2, z3⟩ := (h.lf hy2).app hF hy1 hpre
          refine ⟨z, ?_, z2, hy2.trans z3⟩
          rw [q2] at e4
          have e5 : bI false = 0 := rfl
          simp (maxSteps := 3000000) (disch := omega) only [Option.bind_some, tc_bs, tq_let, tc_I1, tc_I2, tc_J1, tc_J2, tc_J3, tc_F1, tc_F2, tc_F3, tc_F4, tc_G1, tc_G2, tc_G3, tc_G4, tc_G5, tc_us, tc_un, s_one, s_holds, s_J13_bitCount, bz_bI, f_X9_linkAttributes_b70, hT.f, hE.f, hU.f, e2, e1, e3, e4, e5, q1, if_true, if_false, z1, nI_1]
        | true =>
          rw [hao, if_neg (fun z => by rw [q2] at z; exact Bool.noConfusion z.2), List.append_nil]
          refine ⟨y, ?_, hy1, hy2⟩
          rw [q2] at e4
          have e5 : ¬ bI true = 0 := by decide
          simp (maxSteps := 3000000) (disch := omega) only [Option.bind_some, tc_bs, tq_let, tc_I1, tc_I2, tc_J1, tc_J2, tc_J3, tc_F1, tc_F2, tc_F3, tc_F4, tc_G1, tc_G2, tc_G3, tc_G4, tc_G5, tc_us, tc_un, s_one, s_holds, s_J13_bitCount, bz_bI, f_X9_linkAttributes_b70, hT.f, hE.f, hU.f, e2, e1, e3, e4, e5, q1, if_true, if_false, nI_1]
      · rw [hao, if_neg (fun z => q1 z.1), List.append_nil]
        refine ⟨y, ?_, hy1, hy2⟩
        simp (maxSteps := 3000000) (disch := omega) only [Option.bind_some, tc_bs, tq_let, tc_I1, tc_I2, tc_J1, tc_J2, tc_J3, tc_F1, tc_F2, tc_F3, tc_F4, tc_G1, tc_G2, tc_G3, tc_G4, tc_G5, tc_us, tc_un, s_one, s_holds, s_J13_bitCount, bz_bI, f_X9_linkAttributes_b70, hT.f, hE.f, hU.f, e2, e1, e3, q1, if_true, if_false, nI_1]) (fun y hy => by
      have e2 : nI (fb_ct (D.ax 11 i) 64) ≥ nI (fb_ct (D.ax 11 i) 64) := Int32.le_refl _
      simp (maxSteps := 3000000) (disch := omega) only [Option.bind_some, tc_bs, tq_let, tc_I1, tc_I2, tc_J1, tc_J2, tc_J3, tc_F1, tc_F2, tc_F3, tc_F4, tc_G1, tc_G2, tc_G3, tc_G4, tc_G5, tc_us, tc_un, s_one, s_holds, s_J13_bitCount, bz_bI, f_X9_linkAttributes_b70, e2, if_true]) (x := c) ⟨by rw [cutL_0, List.append_nil]; exact hL, Lf.refl c⟩
  exact ⟨y, y1, y2⟩
theorem LC.at133 (h : LC S c b e g m D U N0) (hi : i < D.n) (hF : ∀ u, F0 u = [] ∨ F0 u = U.F m D u) (hL : Lnk c b (seF F0 (D.ord i) P))
    (hN : N ≤ U.n) (hp : P ++ cutL (U.an m D i x) N <+: U.F m D (D.ord i)) (hx : x < 8) (w : Int64) (o : Int32) :
    ∃ c', tq_loop (f_X9_linkAttributes_b133 g e b (nI (D.ord i)) w o (nI N) (nI x)) tq_N (0, tc_mk S c) = some (tc_mk S c') ∧
      Lnk c' b (seF F0 (D.ord i) (P ++ cutL (U.an m D i x) N)) ∧ Lf b c c' := by
  have hn20 := h.2.2.2.2.1.2.1
  obtain ⟨y, y1, y2⟩ := tc_run (B := f_X9_linkAttributes_b133 g e b (nI (D.ord i)) w o (nI N) (nI x)) N
    (fun p y => (nI p, tc_mk S y)) (fun p y => Lnk y b (seF F0 (D.ord i) (P ++ cutL (U.an m D i x) p)) ∧ Lf b c y) (fun y => tc_mk S y) (by omega) (fun k y hkn hy => by
      obtain ⟨hy1, hy2⟩ := hy
      have hC := h.lf hy2
      have hpre := pre_cut hp hkn
      have e1 := (hC.into (show k < U.n by omega) (D.ord_lt h.2.2.1.1 hi)).1
      obtain ⟨⟨hT, hE, hU⟩, hA, ⟨hw, hu, hk, hr⟩, hLy, hUC, hCH⟩ := hC
      rw [cutL_succ, ← List.append_assoc]
      have han : U.an m D i x k = if U.ia k (D.ord i) x then [U.sj m k] else [] := rfl
      have e2 : ¬ nI k ≥ nI N := nI_ge hkn (by omega)
      by_cases q : U.uw k = 0 ∧ U.uk k = 2 ∧ U.up k = D.ord i
      · rw [decide_eq_true q] at e1
        have e5 : ¬ bI true = 0 := by decide
        obtain ⟨-, -, -, -, -, -, u7, -⟩ := hUC
        have e3 : rg 20 (y.1 (g + 12)) (nI k) = U.un k := by
          rw [rg_in _ (by omega) (by decide)]; exact (u7 k (by omega) q.1).2
        have e4 : rg 20 (y.1 (g + 16)) (nI k) = nI (U.sj m k) := by
          rw [rg_in _ (by omega) (by decide)]; exact hCH.2.2.2.2.1 k (by omega) (.inl q.1)
        by_cases q2 : U.un k = nI x
        · have hia : U.ia k (D.ord i) x = true := decide_eq_true ⟨q.1, q.2.1, q.2.2, q2⟩
          rw [han, if_pos hia] at hpre ⊢
          obtain ⟨z, z1, z2, z3⟩ := (h.lf hy2).app hF hy1 hpre
          refine ⟨z, ?_, z2, hy2.trans z3⟩
          simp (maxSteps := 3000000) (disch := omega) only [Option.bind_some, tc_bs, tq_let, tc_I1, tc_I2, tc_J1, tc_J2, tc_J3, tc_F1, tc_F2, tc_F3, tc_F4, tc_G1, tc_G2, tc_G3, tc_G4, tc_G5, tc_us, tc_un, s_one, s_holds, s_J13_bitCount, bz_bI, f_X9_linkAttributes_b133, hT.f, hE.f, hU.f, e2, e1, e3, e4, e5, q2, if_true, if_false, z1, nI_1]
        · have hia : U.ia k (D.ord i) x = false := decide_eq_false (fun z => q2 z.2.2.2)
          rw [han, hia, if_neg (by decide), List.append_nil]
          refine ⟨y, ?_, hy1, hy2⟩
          simp (maxSteps := 3000000) (disch := omega) only [Option.bind_some, tc_bs, tq_let, tc_I1, tc_I2, tc_J1, tc_J2, tc_J3, tc_F1, tc_F2, tc_F3, tc_F4, tc_G1, tc_G2, tc_G3, tc_G4, tc_G5, tc_us, tc_un, s_one, s_holds, s_J13_bitCount, bz_bI, f_X9_linkAttributes_b133, hT.f, hE.f, hU.f, e2, e1, e3, e4, e5, q2, if_true, if_false, nI_1]
      · rw [decide_eq_false q] at e1
        have e5 : bI false = 0 := rfl
        have hia : U.ia k (D.ord i) x = false := decide_eq_false (fun z => q ⟨z.1, z.2.1, z.2.2.1⟩)
        rw [han, hia, if_neg (by decide), List.append_nil]
        refine ⟨y, ?_, hy1, hy2⟩
        simp (maxSteps := 3000000) (disch := omega) only [Option.bind_some, tc_bs, tq_let, tc_I1, tc_I2, tc_J1, tc_J2, tc_J3, tc_F1, tc_F2, tc_F3, tc_F4, tc_G1, tc_G2, tc_G3, tc_G4, tc_G5, tc_us, tc_un, s_one, s_holds, s_J13_bitCount, bz_bI, f_X9_linkAttributes_b133, hT.f, hE.f, hU.f, e2, e1, e5, if_true, if_false, nI_1]) (fun y hy => by
      have e2 : nI N ≥ nI N := Int32.le_refl _
      simp (maxSteps := 3000000) (disch := omega) only [Option.bind_some, tc_bs, tq_let, tc_I1, tc_I2, tc_J1, tc_J2, tc_J3, tc_F1, tc_F2, tc_F3, tc_F4, tc_G1, tc_G2, tc_G3, tc_G4, tc_G5, tc_us, tc_un, s_one, s_holds, s_J13_bitCount, bz_bI, f_X9_linkAttributes_b133, e2, if_true]) (x := c) ⟨by rw [cutL_0, List.append_nil]; exact hL, Lf.refl c⟩
  exact ⟨y, y1, y2⟩
/-- how many updates are looked through for an element -/
def Ups.lk (U : Ups) (E : Nat) : Nat := if U.et U.n E then U.n else 0
theorem Ups.lk_le : U.lk E ≤ U.n := by unfold Ups.lk; split <;> omega
theorem Ups.lk_an : cutL (U.an m D i x) (U.lk (D.ord i)) = cutL (U.an m D i x) U.n := by
  unfold Ups.lk
  cases q : U.et U.n (D.ord i) with
  | true => rfl
  | false =>
    refine (cutL_nil fun k hk => ?_).symm
    unfold Ups.an
    rw [if_neg (fun z => ?_)]
    have z := of_decide_eq_true z
    have : U.et U.n (D.ord i) = true := anyB_iff.mpr ⟨k, hk, decide_eq_true ⟨.inl z.1, z.2.2.1⟩⟩
    rw [q] at this; cases this
theorem Ups.lk_kn : cutL (U.kn m D i p) (U.lk (D.ord i)) = cutL (U.kn m D i p) U.n := by
  unfold Ups.lk
  cases q : U.et U.n (D.ord i) with
  | true => rfl
  | false =>
    refine (cutL_nil fun k hk => ?_).symm
    unfold Ups.kn
    rw [if_neg (fun z => ?_)]
    have z := of_decide_eq_true z
    have : U.et U.n (D.ord i) = true := anyB_iff.mpr ⟨k, hk, decide_eq_true ⟨by have := z.1; omega, z.2.1⟩⟩
    rw [q] at this; cases this
theorem LC.at52 (h : LC S c b e g m D U N0) (hi : i < D.n) (hF : ∀ u, F0 u = [] ∨ F0 u = U.F m D u) (hL : Lnk c b (seF F0 (D.ord i) []))
    (hp : cutL (U.aL m D i) 8 <+: U.F m D (D.ord i)) :
    ∃ c', tq_loop (f_X9_linkAttributes_b52 g e b (nI (D.ord i)) (mkS (D.ax 11 i)) (nI (fb_ct (D.ax 11 i) 64)) (nI (U.lk (D.ord i)))) tq_N (0, tc_mk S c) = some (tc_mk S c') ∧
      Lnk c' b (seF F0 (D.ord i) (cutL (U.aL m D i) 8)) ∧ Lf b c c' := by
  have hn20 := h.2.2.2.2.1.2.1
  have hl := U.lk_le (E := D.ord i)
  have h64 := fb_ct_le (D.ax 11 i) 64
  have key := tc_run2 (B := f_X9_linkAttributes_b52 g e b (nI (D.ord i)) (mkS (D.ax 11 i)) (nI (fb_ct (D.ax 11 i) 64)) (nI (U.lk (D.ord i)))) 8
    (fun x y => (nI x, tc_mk S y)) (fun x y => Lnk y b (seF F0 (D.ord i) (cutL (U.aL m D i) x)) ∧ Lf b c y)
    (fun o => ∃ y, o = tc_mk S y ∧ Lnk y b (seF F0 (D.ord i) (cutL (U.aL m D i) 8)) ∧ Lf b c y) (by omega) (fun x y hx hy => by
      obtain ⟨hy1, hy2⟩ := hy
      have e1 : ¬ nI x ≥ (8 : Int32) := nI_ge hx (by decide)
      by_cases q : fb_ct (D.ax 11 i) 64 + U.lk (D.ord i) = 0
      · right
        have e2 : nI (fb_ct (D.ax 11 i) 64) + nI (U.lk (D.ord i)) ≤ 0 := by rw [nI_add, q]; decide
        refine ⟨tc_mk S y, by simp (maxSteps := 3000000) (disch := omega) only [Option.bind_some, tc_bs, tq_let, tc_I1, tc_I2, tc_J1, tc_J2, tc_J3, tc_F1, tc_F2, tc_F3, tc_F4, tc_G1, tc_G2, tc_G3, tc_G4, tc_G5, tc_us, tc_un, s_one, s_holds, s_J13_bitCount, bz_bI, f_X9_linkAttributes_b52, e1, e2, if_true, if_false], y, rfl, ?_, hy2⟩
        have hnil : ∀ z, U.aL m D i z = [] := fun z => by
          unfold Ups.aL
          rw [← U.lk_an, show fb_ct (D.ax 11 i) 64 = 0 by omega, show U.lk (D.ord i) = 0 by omega]; rfl
        rw [cutL_nil fun k _ => hnil k] at hy1 ⊢
        exact hy1
      · left
        have e2 : ¬ nI (fb_ct (D.ax 11 i) 64) + nI (U.lk (D.ord i)) ≤ 0 := by rw [nI_add]; exact nI_nle (by omega) (by omega)
        have hpx : cutL (U.aL m D i) (x + 1) <+: U.F m D (D.ord i) := (cutL_pre (show x + 1 ≤ 8 from hx)).trans hp
        rw [cutL_succ] at hpx
        have hpx0 := hpx
        unfold Ups.aL at hpx
        rw [← U.lk_an, ← List.append_assoc] at hpx
        obtain ⟨z, z1, z2, z3⟩ := (h.lf hy2).at70 hi hF hy1 ((List.prefix_append _ _).trans hpx) (nI (U.lk (D.ord i)))
        obtain ⟨w, w1, w2, w3⟩ := (h.lf (hy2.trans z3)).at133 hi hF z2 hl hpx hx (mkS (D.ax 11 i)) (nI (fb_ct (D.ax 11 i) 64))
        refine ⟨w, ?_, ?_, (hy2.trans z3).trans w3⟩
        · simp (maxSteps := 3000000) (disch := omega) only [Option.bind_some, tc_bs, tq_let, tc_I1, tc_I2, tc_J1, tc_J2, tc_J3, tc_F1, tc_F2, tc_F3, tc_F4, tc_G1, tc_G2, tc_G3, tc_G4, tc_G5, tc_us, tc_un, s_one, s_holds, s_J13_bitCount, bz_bI, f_X9_linkAttributes_b52, e1, e2, if_true, if_false, z1, w1, nI_1]
        · rw [U.lk_an, List.append_assoc] at w2
          rw [cutL_succ]
          exact w2) (fun y hy => by
      have e1 : nI 8 ≥ (8 : Int32) := Int32.le_refl _
      exact ⟨tc_mk S y, by simp (maxSteps := 3000000) (disch := omega) only [Option.bind_some, tc_bs, tq_let, tc_I1, tc_I2, tc_J1, tc_J2, tc_J3, tc_F1, tc_F2, tc_F3, tc_F4, tc_G1, tc_G2, tc_G3, tc_G4, tc_G5, tc_us, tc_un, s_one, s_holds, s_J13_bitCount, bz_bI, f_X9_linkAttributes_b52, e1, if_true], y, rfl, hy.1, hy.2⟩) (x := c) ⟨hL, Lf.refl c⟩
  obtain ⟨o, o1, y, rfl, y2⟩ := key
  exact ⟨y, o1, y2⟩
theorem LC.linkA (h : LC S c b e g m D U N0) (hi : i < D.n) (hF : ∀ u, F0 u = [] ∨ F0 u = U.F m D u) (hL : Lnk c b (seF F0 (D.ord i) []))
    (hp : cutL (U.aL m D i) 8 <+: U.F m D (D.ord i)) :
    ∃ c', f_X9_linkAttributes g e b (nI i) (tc_mk S c) = some (tc_mk S c') ∧ Lnk c' b (seF F0 (D.ord i) (cutL (U.aL m D i) 8)) ∧ Lf b c c' := by
  obtain ⟨z, z1, z2⟩ := h.at52 hi hF hL hp
  refine ⟨z, ?_, z2⟩
  obtain ⟨⟨hT, hE, hU⟩, hA, ⟨hw, hu, hk, hr⟩, hLy, hUC, hCH⟩ := h
  have h60 := D.ord_lt hw hi
  have e1 := s_X3_nodeAt (c := c) hE hw hLy hi
  have e2 := s_X3_attributesOf (c := c) hE hw hLy hi
  have e4 : hasI (c.2.2.2.1 g 10) (nI (D.ord i)) = U.et U.n (D.ord i) := by rw [hCH.2.2.2.2.2.2.2, hasI_mkS _ (by omega)]
  have e5 := hUC.1
  have e6 : fb_ct (tb (mkS (D.ax 11 i))) 64 = fb_ct (D.ax 11 i) 64 := ct_mkS _
  unfold Ups.lk at z1
  cases q : U.et U.n (D.ord i) with
  | true =>
    rw [q] at e4 z1
    have e7 : ¬ bI true = 0 := by decide
    rw [if_pos rfl] at z1
    simp (maxSteps := 3000000) (disch := omega) only [Option.bind_some, tc_bs, tq_let, tc_I1, tc_I2, tc_J1, tc_J2, tc_J3, tc_F1, tc_F2, tc_F3, tc_F4, tc_G1, tc_G2, tc_G3, tc_G4, tc_G5, tc_us, tc_un, s_one, s_holds, s_J13_bitCount, bz_bI, f_X9_linkAttributes, hE.f, hU.f, e1, e2, e4, e5, e6, e7, if_false, z1]
  | false =>
    rw [q] at e4 z1
    have e7 : bI false = 0 := rfl
    rw [if_neg (by decide)] at z1
    have z1 : tq_loop (f_X9_linkAttributes_b52 g e b (nI (D.ord i)) (mkS (D.ax 11 i)) (nI (fb_ct (D.ax 11 i) 64)) 0) tq_N (0, tc_mk S c) = some (tc_mk S z) := z1
    simp (maxSteps := 3000000) (disch := omega) only [Option.bind_some, tc_bs, tq_let, tc_I1, tc_I2, tc_J1, tc_J2, tc_J3, tc_F1, tc_F2, tc_F3, tc_F4, tc_G1, tc_G2, tc_G3, tc_G4, tc_G5, tc_us, tc_un, s_one, s_holds, s_J13_bitCount, bz_bI, f_X9_linkAttributes, hE.f, hU.f, e1, e2, e4, e5, e6, e7, if_true, z1]
/-- the loop over the updates for one place -/
theorem LC.at62 (h : LC S c b e g m D U N0) (hi : i < D.n) (hF : ∀ u, F0 u = [] ∨ F0 u = U.F m D u) (hL : Lnk c b (seF F0 (D.ord i) P))
    (hN : N ≤ U.n) (hp : P ++ cutL (U.kn m D i p) N <+: U.F m D (D.ord i)) (hp1 : p < 100) (w : Int64) (o : Int32) :
    ∃ c', tq_loop (f_X9_linkChildren_b62 g e b (nI (D.ord i)) w o (nI N) (nI p)) tq_N (0, tc_mk S c) = some (tc_mk S c') ∧
      Lnk c' b (seF F0 (D.ord i) (P ++ cutL (U.kn m D i p) N)) ∧ Lf b c c' := by
  have hn20 := h.2.2.2.2.1.2.1
  obtain ⟨y, y1, y2⟩ := tc_run (B := f_X9_linkChildren_b62 g e b (nI (D.ord i)) w o (nI N) (nI p)) N
    (fun k y => (nI k, tc_mk S y)) (fun k y => Lnk y b (seF F0 (D.ord i) (P ++ cutL (U.kn m D i p) k)) ∧ Lf b c y) (fun y => tc_mk S y) (by omega) (fun k y hkn hy => by
      obtain ⟨hy1, hy2⟩ := hy
      have hC := h.lf hy2
      have hpre := pre_cut hp hkn
      have e1 := (hC.into (show k < U.n by omega) (D.ord_lt h.2.2.1.1 hi)).2 p hp1
      obtain ⟨⟨hT, hE, hU⟩, hA, ⟨hw, hu, hk, hr⟩, hLy, hUC, hCH⟩ := hC
      rw [cutL_succ, ← List.append_assoc]
      have han : U.kn m D i p k = if U.ik k (D.ord i) p then [U.sj m k] else [] := rfl
      have e2 : ¬ nI k ≥ nI N := nI_ge hkn (by omega)
      cases q : U.ik k (D.ord i) p with
      | true =>
        rw [q] at e1
        have q1 := of_decide_eq_true q
        have e5 : ¬ bI true = 0 := by decide
        have e4 : rg 20 (y.1 (g + 16)) (nI k) = nI (U.sj m k) := by
          rw [rg_in _ (by omega) (by decide)]; exact hCH.2.2.2.2.1 k (by omega) (by have := q1.1; omega)
        rw [han, if_pos q] at hpre ⊢
        obtain ⟨z, z1, z2, z3⟩ := (h.lf hy2).app hF hy1 hpre
        refine ⟨z, ?_, z2, hy2.trans z3⟩
        simp (maxSteps := 3000000) (disch := omega) only [Option.bind_some, tc_bs, tq_let, tc_I1, tc_I2, tc_J1, tc_J2, tc_J3, tc_F1, tc_F2, tc_F3, tc_F4, tc_G1, tc_G2, tc_G3, tc_G4, tc_G5, tc_us, tc_un, s_one, s_holds, s_J13_bitCount, bz_bI, f_X9_linkChildren_b62, hT.f, hE.f, hU.f, e2, e1, e4, e5, if_true, if_false, z1, nI_1]
      | false =>
        rw [q] at e1
        have e5 : bI false = 0 := rfl
        rw [han, q, if_neg (by decide), List.append_nil]
        refine ⟨y, ?_, hy1, hy2⟩
        simp (maxSteps := 3000000) (disch := omega) only [Option.bind_some, tc_bs, tq_let, tc_I1, tc_I2, tc_J1, tc_J2, tc_J3, tc_F1, tc_F2, tc_F3, tc_F4, tc_G1, tc_G2, tc_G3, tc_G4, tc_G5, tc_us, tc_un, s_one, s_holds, s_J13_bitCount, bz_bI, f_X9_linkChildren_b62, hT.f, hE.f, hU.f, e2, e1, e5, if_true, if_false, nI_1]) (fun y hy => by
      have e2 : nI N ≥ nI N := Int32.le_refl _
      simp (maxSteps := 3000000) (disch := omega) only [Option.bind_some, tc_bs, tq_let, tc_I1, tc_I2, tc_J1, tc_J2, tc_J3, tc_F1, tc_F2, tc_F3, tc_F4, tc_G1, tc_G2, tc_G3, tc_G4, tc_G5, tc_us, tc_un, s_one, s_holds, s_J13_bitCount, bz_bI, f_X9_linkChildren_b62, e2, if_true]) (x := c) ⟨by rw [cutL_0, List.append_nil]; exact hL, Lf.refl c⟩
  exact ⟨y, y1, y2⟩
theorem LC.atK (h : LC S c b e g m D U N0) (hi : i < D.n) (hF : ∀ u, F0 u = [] ∨ F0 u = U.F m D u) (hL : Lnk c b (seF F0 (D.ord i) P))
    (hp : P ++ cutL (U.kL m D i) (fb_ct (D.ax 1 i) 64 + 1) <+: U.F m D (D.ord i)) :
    ∃ c', tq_loop (f_X9_linkChildren_b52 g e b (nI (D.ord i)) (mkS (D.ax 1 i)) (nI (fb_ct (D.ax 1 i) 64)) (nI (U.lk (D.ord i)))) tq_N (0, tc_mk S c) = some (tc_mk S c') ∧
      Lnk c' b (seF F0 (D.ord i) (P ++ cutL (U.kL m D i) (fb_ct (D.ax 1 i) 64 + 1))) ∧ Lf b c c' := by
  have hl := U.lk_le (E := D.ord i)
  have h64 := fb_ct_le (D.ax 1 i) 64
  obtain ⟨y, y1, y2⟩ := tc_run (B := f_X9_linkChildren_b52 g e b (nI (D.ord i)) (mkS (D.ax 1 i)) (nI (fb_ct (D.ax 1 i) 64)) (nI (U.lk (D.ord i)))) (fb_ct (D.ax 1 i) 64 + 1)
    (fun p y => (nI p, tc_mk S y)) (fun p y => Lnk y b (seF F0 (D.ord i) (P ++ cutL (U.kL m D i) p)) ∧ Lf b c y) (fun y => tc_mk S y) (by omega) (fun p y hpn hy => by
      obtain ⟨hy1, hy2⟩ := hy
      have hpre := pre_cut hp hpn
      have e0 : ¬ nI p > nI (fb_ct (D.ax 1 i) 64) := nI_nlt (by omega) (by omega)
      rw [cutL_succ, ← List.append_assoc]
      have hkL : U.kL m D i p = cutL (U.kn m D i p) (U.lk (D.ord i)) ++ U.ko D i p := by unfold Ups.kL; rw [U.lk_kn]
      rw [hkL, ← List.append_assoc] at hpre ⊢
      obtain ⟨z, z1, z2, z3⟩ := (h.lf hy2).at62 hi hF hy1 hl ((List.prefix_append _ _).trans hpre) (by omega) (mkS (D.ax 1 i)) (nI (fb_ct (D.ax 1 i) 64))
      have hC := h.lf (hy2.trans z3)
      obtain ⟨⟨hT, hE, hU⟩, hA, ⟨hw, hu, hk, hr⟩, hLy, hUC, hCH⟩ := hC
      have e1 := s_X3_nodeOfSet (c := z) hE hw hLy (D.ax_lt 1 i) (nI p)
      rcases Nat.lt_or_ge p (fb_ct (D.ax 1 i) 64) with q | q
      · obtain ⟨k1, k2, k3, k4⟩ := kS_at q
        have hko : U.ko D i p = if p < fb_ct (D.ax 1 i) 64 ∧ U.tk U.n (D.ord (kS (D.ax 1 i) p)) = false then [D.ord (kS (D.ax 1 i) p)] else [] := rfl
        generalize kS (D.ax 1 i) p = j at *
        have hj : j < D.n := D.ax_lt _ _ _ k2
        have h60 := D.ord_lt hw hj
        rw [k4, D.nd_in hw hj] at e1
        have e2 : ¬ nI (D.ord j) = (-1 : Int32) := nI_nm1 (by omega)
        have e4 : hasI (z.2.2.2.1 g 9) (nI (D.ord j)) = U.tk U.n (D.ord j) := by
          rw [hCH.2.2.2.2.2.2.1, hasI_mkS _ (by omega)]
        cases q2 : U.tk U.n (D.ord j) with
        | false =>
          rw [hko, if_pos ⟨q, q2⟩] at hpre ⊢
          obtain ⟨w, w1, w2, w3⟩ := (h.lf (hy2.trans z3)).app hF z2 hpre
          refine ⟨w, ?_, w2, (hy2.trans z3).trans w3⟩
          rw [q2] at e4
          have e5 : bI false = 0 := rfl
          simp (maxSteps := 3000000) (disch := omega) only [Option.bind_some, tc_bs, tq_let, tc_I1, tc_I2, tc_J1, tc_J2, tc_J3, tc_F1, tc_F2, tc_F3, tc_F4, tc_G1, tc_G2, tc_G3, tc_G4, tc_G5, tc_us, tc_un, s_one, s_holds, s_J13_bitCount, bz_bI, f_X9_linkChildren_b52, hT.f, hE.f, hU.f, e0, e2, e1, e4, e5, if_true, if_false, z1, w1, nI_1]
        | true =>
          rw [hko, if_neg (fun z => by rw [q2] at z; exact Bool.noConfusion z.2), List.append_nil]
          refine ⟨z, ?_, z2, hy2.trans z3⟩
          rw [q2] at e4
          have e5 : ¬ bI true = 0 := by decide
          simp (maxSteps := 3000000) (disch := omega) only [Option.bind_some, tc_bs, tq_let, tc_I1, tc_I2, tc_J1, tc_J2, tc_J3, tc_F1, tc_F2, tc_F3, tc_F4, tc_G1, tc_G2, tc_G3, tc_G4, tc_G5, tc_us, tc_un, s_one, s_holds, s_J13_bitCount, bz_bI, f_X9_linkChildren_b52, hT.f, hE.f, hU.f, e0, e2, e1, e4, e5, if_true, if_false, z1, nI_1]
      · rw [kS_out q (by omega), D.nd_n] at e1
        have hko : U.ko D i p = [] := if_neg (by omega)
        rw [hko, List.append_nil]
        refine ⟨z, ?_, z2, hy2.trans z3⟩
        simp (maxSteps := 3000000) (disch := omega) only [Option.bind_some, tc_bs, tq_let, tc_I1, tc_I2, tc_J1, tc_J2, tc_J3, tc_F1, tc_F2, tc_F3, tc_F4, tc_G1, tc_G2, tc_G3, tc_G4, tc_G5, tc_us, tc_un, s_one, s_holds, s_J13_bitCount, bz_bI, f_X9_linkChildren_b52, hT.f, hE.f, hU.f, e0, e1, if_true, if_false, z1, nI_1]) (fun y hy => by
      have e2 : nI (fb_ct (D.ax 1 i) 64 + 1) > nI (fb_ct (D.ax 1 i) 64) := nI_lt (by omega) (by omega)
      simp (maxSteps := 3000000) (disch := omega) only [Option.bind_some, tc_bs, tq_let, tc_I1, tc_I2, tc_J1, tc_J2, tc_J3, tc_F1, tc_F2, tc_F3, tc_F4, tc_G1, tc_G2, tc_G3, tc_G4, tc_G5, tc_us, tc_un, s_one, s_holds, s_J13_bitCount, bz_bI, f_X9_linkChildren_b52, e2, if_true]) (x := c) ⟨by rw [cutL_0, List.append_nil]; exact hL, Lf.refl c⟩
  exact ⟨y, y1, y2⟩
theorem LC.linkK (h : LC S c b e g m D U N0) (hi : i < D.n) (hF : ∀ u, F0 u = [] ∨ F0 u = U.F m D u) (hL : Lnk c b (seF F0 (D.ord i) P))
    (hp : P ++ cutL (U.kL m D i) (fb_ct (D.ax 1 i) 64 + 1) <+: U.F m D (D.ord i)) :
    ∃ c', f_X9_linkChildren g e b (nI i) (tc_mk S c) = some (tc_mk S c') ∧ Lnk c' b (seF F0 (D.ord i) (P ++ cutL (U.kL m D i) (fb_ct (D.ax 1 i) 64 + 1))) ∧ Lf b c c' := by
  obtain ⟨z, z1, z2⟩ := h.atK hi hF hL hp
  refine ⟨z, ?_, z2⟩
  obtain ⟨⟨hT, hE, hU⟩, hA, ⟨hw, hu, hk, hr⟩, hLy, hUC, hCH⟩ := h
  have h60 := D.ord_lt hw hi
  have e1 := s_X3_nodeAt (c := c) hE hw hLy hi
  have e2 := s_X3_children (c := c) hE hw hLy hi
  have e4 : hasI (c.2.2.2.1 g 10) (nI (D.ord i)) = U.et U.n (D.ord i) := by rw [hCH.2.2.2.2.2.2.2, hasI_mkS _ (by omega)]
  have e5 := hUC.1
  have e6 : fb_ct (tb (mkS (D.ax 1 i))) 64 = fb_ct (D.ax 1 i) 64 := ct_mkS _
  unfold Ups.lk at z1
  cases q : U.et U.n (D.ord i) with
  | true =>
    rw [q] at e4 z1
    have e7 : ¬ bI true = 0 := by decide
    rw [if_pos rfl] at z1
    simp (maxSteps := 3000000) (disch := omega) only [Option.bind_some, tc_bs, tq_let, tc_I1, tc_I2, tc_J1, tc_J2, tc_J3, tc_F1, tc_F2, tc_F3, tc_F4, tc_G1, tc_G2, tc_G3, tc_G4, tc_G5, tc_us, tc_un, s_one, s_holds, s_J13_bitCount, bz_bI, f_X9_linkChildren, hE.f, hU.f, e1, e2, e4, e5, e6, e7, if_false, z1]
  | false =>
    rw [q] at e4 z1
    have e7 : bI false = 0 := rfl
    rw [if_neg (by decide)] at z1
    have z1 : tq_loop (f_X9_linkChildren_b52 g e b (nI (D.ord i)) (mkS (D.ax 1 i)) (nI (fb_ct (D.ax 1 i) 64)) 0) tq_N (0, tc_mk S c) = some (tc_mk S z) := z1
    simp (maxSteps := 3000000) (disch := omega) only [Option.bind_some, tc_bs, tq_let, tc_I1, tc_I2, tc_J1, tc_J2, tc_J3, tc_F1, tc_F2, tc_F3, tc_F4, tc_G1, tc_G2, tc_G3, tc_G4, tc_G5, tc_us, tc_un, s_one, s_holds, s_J13_bitCount, bz_bI, f_X9_linkChildren, hE.f, hU.f, e1, e2, e4, e5, e6, e7, if_true, z1]
end LAT
