/-! ===== may the updates be done? ===== -/
section CBD
variable {S : tq_H} {c : tc_C} {b e g m i j k v : Nat} {U : Ups} {D : Doc}
theorem s_X9_doClash (x y : Int32) (h : tq_H) : f_X9_doClash x y h = some (bI (decide ((x = y ∧ x ≠ 1) ∨ (x = 4 ∧ y = 1) ∨ (x = 1 ∧ y = 4)))) := by
  by_cases q : x = y
  · subst q
    by_cases q1 : x = 1
    · subst q1
      simp [f_X9_doClash, tq_let, bI]; rfl
    · have e : decide ((x = x ∧ x ≠ 1) ∨ (x = 4 ∧ x = 1) ∨ (x = 1 ∧ x = 4)) = true := decide_eq_true (.inl ⟨rfl, q1⟩)
      rw [e]
      simp only [f_X9_doClash, tq_let, if_true, if_neg q1]; rfl
  · by_cases q4 : x = 4
    · have n1 : ¬ x = 1 := by rw [q4]; decide
      by_cases r : y = 1
      · have e : decide ((x = y ∧ x ≠ 1) ∨ (x = 4 ∧ y = 1) ∨ (x = 1 ∧ y = 4)) = true := decide_eq_true (.inr (.inl ⟨q4, r⟩))
        rw [e]
        simp only [f_X9_doClash, tq_let, if_neg q, if_pos q4, if_pos r]; rfl
      · have e : decide ((x = y ∧ x ≠ 1) ∨ (x = 4 ∧ y = 1) ∨ (x = 1 ∧ y = 4)) = false := decide_eq_false (by rintro (z | z | z) <;> first | exact q z.1 | exact r z.2 | exact n1 z.1)
        rw [e]
        simp only [f_X9_doClash, tq_let, if_neg q, if_pos q4, if_neg r, if_neg n1]; rfl
    · by_cases q1 : x = 1
      · by_cases r : y = 4
        · have e : decide ((x = y ∧ x ≠ 1) ∨ (x = 4 ∧ y = 1) ∨ (x = 1 ∧ y = 4)) = true := decide_eq_true (.inr (.inr ⟨q1, r⟩))
          rw [e]
          simp only [f_X9_doClash, tq_let, if_neg q, if_neg q4, if_pos r, if_pos q1]; rfl
        · have e : decide ((x = y ∧ x ≠ 1) ∨ (x = 4 ∧ y = 1) ∨ (x = 1 ∧ y = 4)) = false := decide_eq_false (by rintro (z | z | z) <;> first | exact q z.1 | exact r z.2 | exact q4 z.1)
          rw [e]
          simp only [f_X9_doClash, tq_let, if_neg q, if_neg q4, if_neg r, if_pos q1]; rfl
      · have e : decide ((x = y ∧ x ≠ 1) ∨ (x = 4 ∧ y = 1) ∨ (x = 1 ∧ y = 4)) = false := decide_eq_false (by rintro (z | z | z) <;> first | exact q z.1 | exact q4 z.1 | exact q1 z.1)
        rw [e]
        simp only [f_X9_doClash, tq_let, if_neg q, if_neg q4, if_neg q1]; rfl
theorem Ups.ut_lt (hw : D.wf) (hu : U.wf m D) (hk : k < U.n) (h0 : U.uw k ≠ 0) : U.ut k < 60 := by
  obtain ⟨i, i1, i2, -⟩ := hu.2.2.1 k hk h0
  rw [i2]; exact D.ord_lt hw i1
theorem s_X9_hasClash (hU : tc_Upd S g) (hw : D.wf) (hu : U.wf m D) (hUC : UC c g U) (hk : k < U.n) :
    ∃ r, f_X9_hasClash g (nI k) (tc_mk S c) = some (bI r) ∧ (r = true ↔ ∃ j, j < k ∧ U.cl j k) := by
  obtain ⟨u1, u2, u3, u4, u5, u6, u7, u8⟩ := hUC
  have r20 : ∀ (f : Nat → Int32) {j : Nat}, j < U.n → rg 20 f (nI j) = f j := fun f j hj => rg_in f (by omega) (by decide)
  have h5 := hu.2.1
  have a1 := u3 k hk
  have a2 := u4 k hk
  obtain ⟨o, o1, o2⟩ := tc_run2 (B := f_X9_hasClash_b2 g (nI k) (tc_mk S c)) k (fun j (_ : Unit) => nI j) (fun j _ => ∀ i, i < j → ¬ U.cl i k)
    (fun o => (o = .inl () ∧ ∀ i, i < k → ¬ U.cl i k) ∨ (o = .inr 1 ∧ ∃ j, j < k ∧ U.cl j k)) (by omega) (fun j _ hj hI => by
      have hjn : j < U.n := by omega
      have b1 := u3 j hjn
      have b2 := u4 j hjn
      have e1 : ¬ nI j ≥ nI k := nI_ge hj (by omega)
      have next : ¬ U.cl j k → ∀ i, i < j + 1 → ¬ U.cl i k := fun hn i hi => by
        by_cases q : i = j
        · rw [q]; exact hn
        · exact hI i (by omega)
      by_cases q0 : U.uw k = 0
      · rw [if_pos q0] at a2
        left
        refine ⟨(), ?_, next fun z => z.2.1 q0⟩
        simp (maxSteps := 3000000) (disch := omega) only [Option.bind_some, tc_bs, tq_let, tc_I1, tc_I2, tc_J1, tc_J2, tc_J3, tc_F1, tc_F2, tc_F3, tc_F4, tc_G1, tc_G2, tc_G3, tc_G4, tc_G5, tc_us, tc_un, s_one, s_holds, s_J13_bitCount, bz_bI, f_X9_hasClash_b2, hU.f, r20 _ hk, r20 _ hjn, a2, e1, if_true, if_false, nI_1]
      · have ht := Ups.ut_lt hw hu hk q0
        rw [if_neg q0] at a2
        have n1 : ¬ nI (U.ut k) = (-1 : Int32) := nI_nm1 (by omega)
        by_cases p0 : U.uw j = 0
        · rw [if_pos p0] at b2
          left
          refine ⟨(), ?_, next fun z => z.1 p0⟩
          simp (maxSteps := 3000000) (disch := omega) only [Option.bind_some, tc_bs, tq_let, tc_I1, tc_I2, tc_J1, tc_J2, tc_J3, tc_F1, tc_F2, tc_F3, tc_F4, tc_G1, tc_G2, tc_G3, tc_G4, tc_G5, tc_us, tc_un, s_one, s_holds, s_J13_bitCount, bz_bI, f_X9_hasClash_b2, hU.f, r20 _ hk, r20 _ hjn, a2, b2, e1, n1, if_true, if_false, nI_1]
        · have ht2 := Ups.ut_lt hw hu hjn p0
          rw [if_neg p0] at b2
          by_cases q : U.ut k = U.ut j
          · have hcl : ((nI (U.uw k) = nI (U.uw j) ∧ nI (U.uw k) ≠ 1) ∨ (nI (U.uw k) = 4 ∧ nI (U.uw j) = 1) ∨ (nI (U.uw k) = 1 ∧ nI (U.uw j) = 4)) ↔ U.cl j k := by
              have w1 := h5 k hk
              have w2 := h5 j hjn
              have f1 : ∀ t, t ≤ 5 → ∀ s, s ≤ 5 → (nI t = nI s ↔ t = s) := fun t _ s _ => nI_eq (by omega) (by omega)
              have g1 := f1 _ w1 _ w2
              have g2 : nI (U.uw k) = 1 ↔ U.uw k = 1 := f1 _ w1 1 (by decide)
              have g3 : nI (U.uw k) = 4 ↔ U.uw k = 4 := f1 _ w1 4 (by decide)
              have g4 : nI (U.uw j) = 1 ↔ U.uw j = 1 := f1 _ w2 1 (by decide)
              have g5 : nI (U.uw j) = 4 ↔ U.uw j = 4 := f1 _ w2 4 (by decide)
              unfold Ups.cl
              rw [ne_eq, g1, g2, g3, g4, g5]
              omega
            have e2 := s_X9_doClash (nI (U.uw k)) (nI (U.uw j)) (tc_mk S c)
            by_cases z : U.cl j k
            · rw [decide_eq_true (hcl.mpr z)] at e2
              have e3 : ¬ bI true = 0 := by decide
              right
              refine ⟨.inr 1, ?_, .inr ⟨rfl, j, hj, z⟩⟩
              simp (maxSteps := 3000000) (disch := omega) only [Option.bind_some, tc_bs, tq_let, tc_I1, tc_I2, tc_J1, tc_J2, tc_J3, tc_F1, tc_F2, tc_F3, tc_F4, tc_G1, tc_G2, tc_G3, tc_G4, tc_G5, tc_us, tc_un, s_one, s_holds, s_J13_bitCount, bz_bI, f_X9_hasClash_b2, hU.f, r20 _ hk, r20 _ hjn, a1, b1, a2, b2, e1, n1, q, e2, e3, if_true, if_false, nI_1]
              rw [q] at n1
              simp only [if_neg n1]
            · rw [decide_eq_false (fun y => z (hcl.mp y))] at e2
              have e3 : bI false = 0 := rfl
              left
              refine ⟨(), ?_, next z⟩
              simp (maxSteps := 3000000) (disch := omega) only [Option.bind_some, tc_bs, tq_let, tc_I1, tc_I2, tc_J1, tc_J2, tc_J3, tc_F1, tc_F2, tc_F3, tc_F4, tc_G1, tc_G2, tc_G3, tc_G4, tc_G5, tc_us, tc_un, s_one, s_holds, s_J13_bitCount, bz_bI, f_X9_hasClash_b2, hU.f, r20 _ hk, r20 _ hjn, a1, b1, a2, b2, e1, n1, q, e2, e3, if_true, if_false, nI_1]
              rw [q] at n1
              simp only [if_neg n1]
          · have n2 : ¬ nI (U.ut k) = nI (U.ut j) := fun z => q ((nI_eq (by omega) (by omega)).mp z)
            left
            refine ⟨(), ?_, next fun z => q z.2.2.1.symm⟩
            simp (maxSteps := 3000000) (disch := omega) only [Option.bind_some, tc_bs, tq_let, tc_I1, tc_I2, tc_J1, tc_J2, tc_J3, tc_F1, tc_F2, tc_F3, tc_F4, tc_G1, tc_G2, tc_G3, tc_G4, tc_G5, tc_us, tc_un, s_one, s_holds, s_J13_bitCount, bz_bI, f_X9_hasClash_b2, hU.f, r20 _ hk, r20 _ hjn, a1, b1, a2, b2, e1, n1, n2, if_true, if_false, nI_1]) (fun _ hI => by
      have e1 : nI k ≥ nI k := Int32.le_refl _
      exact ⟨.inl (), by simp (maxSteps := 3000000) (disch := omega) only [Option.bind_some, tc_bs, tq_let, tc_I1, tc_I2, tc_J1, tc_J2, tc_J3, tc_F1, tc_F2, tc_F3, tc_F4, tc_G1, tc_G2, tc_G3, tc_G4, tc_G5, tc_us, tc_un, s_one, s_holds, s_J13_bitCount, bz_bI, f_X9_hasClash_b2, e1, if_true], .inl ⟨rfl, hI⟩⟩) (x := ()) (fun i hi => absurd hi (Nat.not_lt_zero _))
  have o1 : tq_loop (f_X9_hasClash_b2 g (nI k) (tc_mk S c)) tq_N (0 : Int32) = some o := o1
  rcases o2 with ⟨rfl, o2⟩ | ⟨rfl, o2⟩
  · refine ⟨false, ?_, ⟨fun z => Bool.noConfusion z, fun ⟨j, j1, j2⟩ => absurd j2 (o2 j j1)⟩⟩
    unfold f_X9_hasClash
    rw [o1]; rfl
  · refine ⟨true, ?_, ⟨fun _ => o2, fun _ => rfl⟩⟩
    unfold f_X9_hasClash
    rw [o1]; rfl
theorem m1_le {x : Nat} (h : x < 2 ^ 31) : (-1 : Int32) ≤ nI x := by
  rw [Int32.le_iff_toInt_le, nI_toInt h]
  have : (-1 : Int32).toInt = -1 := by decide
  rw [this]; omega
theorem s_X9_isStale (hE : tc_Tree S e) (hU : tc_Upd S g) (hw : D.wf) (hLy : Lay c e D) (hu : U.wf m D) (hUC : UC c g U) (hk : k < U.n) : f_X9_isStale g e (nI k) (tc_mk S c) = some 0 := by
  obtain ⟨u1, u2, u3, u4, u5, u6, u7, u8⟩ := hUC
  have r20 : ∀ (f : Nat → Int32), rg 20 f (nI k) = f k := fun f => rg_in f (by omega) (by decide)
  have h5 := hu.2.1
  have a2 := u4 k hk
  have a3 := u5 k hk
  have a4 := u6 k hk
  have hold : ∀ i, i < D.n → f_X3_holds (e + 1) (nI (D.ord i)) (tc_mk S c) = some (bI true) := fun i hi => by
    rw [s_X3_holds hE, rg_in _ (D.ord_lt hw hi) (by decide), lay_spot hLy hi]
    rw [decide_eq_true (nI_nm1 (by have := D.n_le hw; omega))]
  have e5 : ¬ bI true = 0 := by decide
  -- the place an update goes to
  have hpl : U.uw k = 0 ∨ U.uw k = 4 → ∃ i, i < D.n ∧ c.1 (g + 6) k = nI (D.ord i) ∧ c.1 (g + 8) k ≤ nI (fb_ct (D.ax 1 i) 64) := fun z => by
    obtain ⟨i, i1, i2, -, i3⟩ := hu.2.2.2.1 k hk z
    refine ⟨i, i1, by rw [a3, if_pos z, i2], ?_⟩
    have h64 := fb_ct_le (D.ax 1 i) 64
    rw [a4]
    split
    · rename_i q
      exact nI_le (by rcases i3 with i3 | i3; · omega
                      · exact i3) (by omega)
    · exact m1_le (by omega)
  by_cases q0 : U.uw k = 0
  · obtain ⟨i, i1, i2, i3⟩ := hpl (.inl q0)
    rw [if_pos q0] at a2
    have n1 : ¬ nI (D.ord i) = (-1 : Int32) := nI_nm1 (by have := D.ord_lt hw i1; omega)
    have h1 := hold i i1
    have h2 := s_X3_childCount (c := c) hE hw hLy i1
    simp (maxSteps := 3000000) (disch := omega) only [Option.bind_some, tc_bs, tq_let, tc_I1, tc_I2, tc_J1, tc_J2, tc_J3, tc_F1, tc_F2, tc_F3, tc_F4, tc_G1, tc_G2, tc_G3, tc_G4, tc_G5, tc_us, tc_un, s_one, s_holds, s_J13_bitCount, bz_bI, f_X9_isStale, hE.f, hU.f, r20, a2, i2, n1, h1, h2, e5, i3, if_true, if_false]; rfl
  · rw [if_neg q0] at a2
    obtain ⟨t, t1, t2, -⟩ := hu.2.2.1 k hk q0
    have n0 : ¬ nI (D.ord t) = (-1 : Int32) := nI_nm1 (by have := D.ord_lt hw t1; omega)
    have h0 := hold t t1
    rw [t2] at a2
    by_cases q4 : U.uw k = 4
    · obtain ⟨i, i1, i2, i3⟩ := hpl (.inr q4)
      have n1 : ¬ nI (D.ord i) = (-1 : Int32) := nI_nm1 (by have := D.ord_lt hw i1; omega)
      have h1 := hold i i1
      have h2 := s_X3_childCount (c := c) hE hw hLy i1
      simp (maxSteps := 3000000) (disch := omega) only [Option.bind_some, tc_bs, tq_let, tc_I1, tc_I2, tc_J1, tc_J2, tc_J3, tc_F1, tc_F2, tc_F3, tc_F4, tc_G1, tc_G2, tc_G3, tc_G4, tc_G5, tc_us, tc_un, s_one, s_holds, s_J13_bitCount, bz_bI, f_X9_isStale, hE.f, hU.f, r20, a2, i2, n0, n1, h0, h1, h2, e5, i3, if_true, if_false]; rfl
    · rw [if_neg (by omega)] at a3
      simp (maxSteps := 3000000) (disch := omega) only [Option.bind_some, tc_bs, tq_let, tc_I1, tc_I2, tc_J1, tc_J2, tc_J3, tc_F1, tc_F2, tc_F3, tc_F4, tc_G1, tc_G2, tc_G3, tc_G4, tc_G5, tc_us, tc_un, s_one, s_holds, s_J13_bitCount, bz_bI, f_X9_isStale, hE.f, hU.f, r20, a2, a3, n0, h0, e5, if_true, if_false]
theorem s_X9_canBeDone (hE : tc_Tree S e) (hU : tc_Upd S g) (hw : D.wf) (hLy : Lay c e D) (hN : Nod c e D m) (hu : U.wf m D) (hUC : UC c g U) :
    ∃ r, f_X9_canBeDone g e (tc_mk S c) = some (bI r) ∧ (r = true ↔ U.ok ∧ m + U.ins U.n ≤ 60) := by
  have u1 := hUC.1
  have u2 := hUC.2.1
  have u3 := hUC.2.2.1
  obtain ⟨o, o1, o2⟩ := tc_run2 (B := f_X9_canBeDone_b4 g e (tc_mk S c)) U.n (fun k (_ : Unit) => (nI (U.ins k), nI k)) (fun k _ => ∀ j, j < k → ∀ i, i < j → ¬ U.cl i j)
    (fun o => (o = .inl (nI (U.ins U.n)) ∧ U.ok) ∨ (o = .inr 0 ∧ ¬ U.ok)) (by omega) (fun k _ hk hI => by
      have e1 : ¬ nI k ≥ nI U.n := nI_ge hk (by omega)
      have e2 := s_X9_isStale hE hU hw hLy hu hUC hk
      obtain ⟨r, r1, r2⟩ := s_X9_hasClash hU hw hu hUC hk
      have e3 : rg 20 (c.1 (g + 2)) (nI k) = nI (U.uw k) := by rw [rg_in _ (by omega) (by decide)]; exact u3 k hk
      have h5 := hu.2.1 k hk
      cases q : r with
      | false =>
        rw [q] at r1 r2
        have e5 : bI false = 0 := rfl
        left
        refine ⟨(), ?_, fun j hj i hi z => ?_⟩
        · rw [U.ins_s]
          by_cases q0 : U.uw k = 0
          · have e4 : nI (U.uw k) = 0 := by rw [q0]; rfl
            rw [if_pos q0]
            simp (maxSteps := 3000000) (disch := omega) only [Option.bind_some, tc_bs, tq_let, tc_I1, tc_I2, tc_J1, tc_J2, tc_J3, tc_F1, tc_F2, tc_F3, tc_F4, tc_G1, tc_G2, tc_G3, tc_G4, tc_G5, tc_us, tc_un, s_one, s_holds, s_J13_bitCount, bz_bI, f_X9_canBeDone_b4, hU.f, u1, e1, e2, r1, e5, e3, e4, if_true, if_false, nI_1]
          · have e4 : ¬ nI (U.uw k) = 0 := nI_ne0 (by omega) (by omega)
            have e6 : nI (U.ins k) + 0 = nI (U.ins k) := by rw [show (0 : Int32) = nI 0 from rfl, nI_add]; rfl
            rw [if_neg q0]
            simp (maxSteps := 3000000) (disch := omega) only [Option.bind_some, tc_bs, tq_let, tc_I1, tc_I2, tc_J1, tc_J2, tc_J3, tc_F1, tc_F2, tc_F3, tc_F4, tc_G1, tc_G2, tc_G3, tc_G4, tc_G5, tc_us, tc_un, s_one, s_holds, s_J13_bitCount, bz_bI, f_X9_canBeDone_b4, hU.f, u1, e1, e2, r1, e5, e3, e4, if_true, if_false, nI_1, e6]; rfl
        · by_cases p : j = k
          · subst p
            have := r2.mpr ⟨i, hi, z⟩
            exact Bool.noConfusion this
          · exact hI j (by omega) i hi z
      | true =>
        rw [q] at r1 r2
        have e5 : ¬ bI true = 0 := by decide
        right
        refine ⟨.inr 0, by simp (maxSteps := 3000000) (disch := omega) only [Option.bind_some, tc_bs, tq_let, tc_I1, tc_I2, tc_J1, tc_J2, tc_J3, tc_F1, tc_F2, tc_F3, tc_F4, tc_G1, tc_G2, tc_G3, tc_G4, tc_G5, tc_us, tc_un, s_one, s_holds, s_J13_bitCount, bz_bI, f_X9_canBeDone_b4, hU.f, u1, e1, e2, r1, e5, if_true, if_false], .inr ⟨rfl, fun z => ?_⟩⟩
        obtain ⟨j, j1, j2⟩ := r2.mp rfl
        exact z j k j1 hk j2) (fun _ hI => by
      have e1 : nI U.n ≥ nI U.n := Int32.le_refl _
      exact ⟨.inl (nI (U.ins U.n)), by simp (maxSteps := 3000000) (disch := omega) only [Option.bind_some, tc_bs, tq_let, tc_I1, tc_I2, tc_J1, tc_J2, tc_J3, tc_F1, tc_F2, tc_F3, tc_F4, tc_G1, tc_G2, tc_G3, tc_G4, tc_G5, tc_us, tc_un, s_one, s_holds, s_J13_bitCount, bz_bI, f_X9_canBeDone_b4, hU.f, u1, e1, if_true], .inl ⟨rfl, fun i j hij hj => hI j hj i hij⟩⟩) (x := ()) (fun i hi => absurd hi (Nat.not_lt_zero _))
  have o1 : tq_loop (f_X9_canBeDone_b4 g e (tc_mk S c)) tq_N ((0 : Int32), (0 : Int32)) = some o := o1
  have n3 := hN.2.2.1
  have hm := hN.1
  have hin : U.ins U.n ≤ U.n := fb_ct_le _ _
  rcases o2 with ⟨rfl, o2⟩ | ⟨rfl, o2⟩
  · by_cases q : m + U.ins U.n ≤ 60
    · have e2 : ¬ nI m + nI (U.ins U.n) > 60 := by rw [nI_add]; exact nI_nlt q (by decide)
      refine ⟨true, ?_, ⟨fun _ => ⟨o2, q⟩, fun _ => rfl⟩⟩
      simp (maxSteps := 3000000) (disch := omega) only [Option.bind_some, tc_bs, tq_let, tc_I1, tc_I2, tc_J1, tc_J2, tc_J3, tc_F1, tc_F2, tc_F3, tc_F4, tc_G1, tc_G2, tc_G3, tc_G4, tc_G5, tc_us, tc_un, s_one, s_holds, s_J13_bitCount, bz_bI, f_X9_canBeDone, f_X8_madeCount, hE.f, o1, n3, e2, if_false]; rfl
    · have e2 : nI m + nI (U.ins U.n) > 60 := by rw [nI_add]; exact nI_lt (show 60 < m + U.ins U.n by omega) (by omega)
      refine ⟨false, ?_, ⟨fun z => Bool.noConfusion z, fun z => absurd z.2 q⟩⟩
      simp (maxSteps := 3000000) (disch := omega) only [Option.bind_some, tc_bs, tq_let, tc_I1, tc_I2, tc_J1, tc_J2, tc_J3, tc_F1, tc_F2, tc_F3, tc_F4, tc_G1, tc_G2, tc_G3, tc_G4, tc_G5, tc_us, tc_un, s_one, s_holds, s_J13_bitCount, bz_bI, f_X9_canBeDone, f_X8_madeCount, hE.f, o1, n3, e2, if_true]; rfl
  · refine ⟨false, ?_, ⟨fun z => Bool.noConfusion z, fun z => absurd z.1 o2⟩⟩
    unfold f_X9_canBeDone
    rw [o1]; rfl
end CBD
