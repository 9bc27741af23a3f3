/-! ===== schemas: types of elements; the reference ===== -/
section SRT
variable {S : tq_H} {c c' : tc_C} {b e p k d m r z i t : Nat} {D : Doc} {Z : Sma}
theorem and1_1I (x : Int32) : (x &&& 1 = 1) ↔ bt x 0 = true := by
  constructor
  · intro h
    cases q : bt x 0 with
    | true => rfl
    | false =>
      have := (bt_and1 x).mpr q
      rw [h] at this
      exact absurd this (by decide)
  · intro h
    apply b_ext
    intro i hi
    rw [b_and, show (1 : Int32) = nI 1 from rfl, bt_nI (by decide)]
    by_cases z : i = 0
    · subst z; rw [h]; rfl
    · have : Nat.testBit 1 i = false := by
        obtain ⟨k, rfl⟩ : ∃ k, i = k + 1 := ⟨i - 1, by omega⟩
        rw [Nat.testBit_succ]; simp
      rw [this, Bool.and_false]
theorem bt_sh1 (x : Int32) {m : Nat} (hm : m < 32) : ((x >>> (nI m &&& 31)) &&& 1 = 1) ↔ bt x m = true := by
  rw [and1_1I, b_sshr m hm x (by decide), if_pos (by omega)]
  rfl
theorem tI_none {E : Nat → Bool} : ∀ k, (∀ t, t < k → E t = false) → tI E k = 0
  | 0, _ => rfl
  | k + 1, h => by
    unfold tI
    rw [h k (by omega)]
    exact tI_none k (fun t ht => h t (by omega))
theorem rhasA (hM : tc_Mod S z) (hw : D.wf) (hR : RTree c D m) (ha : D.ao) (hi : i < D.n) (a : Nat) : ∃ x, f_X11_attributeOf 155 (nI (D.ord i)) (nI a) (tc_mk S c) = some x ∧ ((x = -1) ↔ D.hasA i a = false) := by
  cases q : D.hasA i a with
  | true =>
    obtain ⟨j, hj, h⟩ := anyB_iff.mp q
    rw [Bool.and_eq_true, decide_eq_true_eq] at h
    refine ⟨_, s_X11_attributeOf hM hw hR ha h.1 hi h.2, ?_⟩
    have := D.ord_lt hw hj
    exact ⟨fun w => absurd w (nI_nm1 (by omega)), fun w => by cases w⟩
  | false =>
    refine ⟨_, s_X11_attributeOf_n hM hw hR hi (fun j h w => ?_), by simp⟩
    have : D.hasA i a = true := anyB_iff.mpr ⟨j, D.ax_lt 11 i j h, by rw [h, w]; simp⟩
    rw [q] at this; cases this
theorem nx_loop (hM : tc_Mod S z) (hC : SR c Z) (ht : t < 6) {E : Nat → Bool} {v : Nat} (hv : v < 60) (hE : c.1 188 v = tI E 6) (s : Int32) (w1 w2 w3 w4 : Int32) :
    tq_loop (f_X11_isOf_b158 155 w1 (nI t) w2 s w3 w4 (nI v) (tc_mk S c)) tq_N (0, 0) = some (Z.nx t s E 24) := by
  have hg41 : tq_gr (tc_mk S c) 155 11 41 = some 188 := by simp (maxSteps := 3000000) (disch := omega) only [Option.bind_some, tc_bs, tq_let, tc_I1, tc_I2, tc_J1, tc_J2, tc_J3, tc_F1, tc_F2, tc_F3, tc_F4, tc_G1, tc_G2, tc_G3, tc_G4, tc_G5, tc_us, tc_un, s_one, s_holds, s_J13_bitCount, bz_bI, hM.f]
  have hg40 : tq_gr (tc_mk S c) 155 11 40 = some 187 := by simp (maxSteps := 3000000) (disch := omega) only [Option.bind_some, tc_bs, tq_let, tc_I1, tc_I2, tc_J1, tc_J2, tc_J3, tc_F1, tc_F2, tc_F3, tc_F4, tc_G1, tc_G2, tc_G3, tc_G4, tc_G5, tc_us, tc_un, s_one, s_holds, s_J13_bitCount, bz_bI, hM.f]
  have hai : tq_ai (tc_mk S c) 188 (nI v) = some (tI E 6) := by simp (maxSteps := 3000000) (disch := omega) only [Option.bind_some, tc_bs, tq_let, tc_I1, tc_I2, tc_J1, tc_J2, tc_J3, tc_F1, tc_F2, tc_F3, tc_F4, tc_G1, tc_G2, tc_G3, tc_G4, tc_G5, tc_us, tc_un, s_one, s_holds, s_J13_bitCount, bz_bI, hM.f, hE]
  refine tc_scan (B := f_X11_isOf_b158 155 w1 (nI t) w2 s w3 w4 (nI v) (tc_mk S c)) 24 (fun k => Z.nx t s E k) (by omega) (fun k hk => ?_) (by rfl)
  have e1 : nI k / 6 = nI (k / 6) := pk_div (d := 6) (by omega) (by decide) (by decide)
  have e2 : nI k - nI k / 6 * 6 = nI (k % 6) := pk_rem (d := 6) (by omega) (by decide) (by decide)
  have e3 : (24 : Int32) * nI t + nI k = nI (24 * t + k) := by rw [show (24 : Int32) = nI 24 from rfl, nI_mul, nI_add]
  have har : tq_ai (tc_mk S c) 187 (nI (24 * t + k)) = some (Z.ar (24 * t + k)) := by
    simp (maxSteps := 3000000) (disch := omega) only [Option.bind_some, tc_bs, tq_let, tc_I1, tc_I2, tc_J1, tc_J2, tc_J3, tc_F1, tc_F2, tc_F3, tc_F4, tc_G1, tc_G2, tc_G3, tc_G4, tc_G5, tc_us, tc_un, s_one, s_holds, s_J13_bitCount, bz_bI, hM.f, show 24 * t + k < 144 from by omega]
    rw [hC.2.2.2.1 _ (by omega)]
  have b1 := bt_sh1 s (show k / 6 < 32 by omega)
  have b2 := bt_sh1 (tI E 6) (show k % 6 < 32 by omega)
  rw [bt_tI E 6 (Nat.le_refl _)] at b2
  have hk6 : decide (k % 6 < 6) = true := decide_eq_true (by omega)
  rw [hk6, Bool.true_and] at b2
  dsimp only [f_X11_isOf_b158]
  rw [if_neg (show ¬ nI k ≥ 24 from nI_ge hk (by decide)), e2, e1]
  simp only [hg41, hg40, hai, Option.bind_some, e3, har, tq_let, nI_1]
  show _ = some (Sum.inl (if bt s (k / 6) && E (k % 6) then Z.nx t s E k ||| Z.ar (24 * t + k) else Z.nx t s E k, nI (k + 1)))
  have or0 : ∀ x : Int32, x ||| 0 = x := fun x => b_ext fun j _ => by rw [b_or, bt_0, Bool.or_false]
  cases q1 : bt s (k / 6) with
  | false =>
    rw [if_neg (fun w => by have := b1.mp w; rw [q1] at this; cases this), Option.bind_some, if_pos rfl, Option.bind_some, or0]; rfl
  | true =>
    rw [if_pos (b1.mpr q1)]
    cases q2 : E (k % 6) with
    | false =>
      rw [if_neg (fun w => by have := b2.mp w; rw [q2] at this; cases this), Option.bind_some, if_pos rfl, Option.bind_some, or0]; rfl
    | true =>
      rw [if_pos (b2.mpr q2), Option.bind_some, if_neg (by decide), Option.bind_some]; rfl
theorem ratts_loop (hM : tc_Mod S z) (hw : D.wf) (hR : RTree c D m) (ha : D.ao) (hC : SR c Z) (hi : i < D.n) (ht : t < 6) (b0 : Bool) :
    tq_loop (f_X11_isOf_b24 155 (nI (D.ord i)) (nI t) (tc_mk S c)) tq_N (bI b0, 0) = some (bI (b0 && D.atts Z i t 8)) := by
  have his : tq_is (tc_mk S c) 155 11 = some () := by simp (maxSteps := 3000000) (disch := omega) only [Option.bind_some, tc_bs, tq_let, tc_I1, tc_I2, tc_J1, tc_J2, tc_J3, tc_F1, tc_F2, tc_F3, tc_F4, tc_G1, tc_G2, tc_G3, tc_G4, tc_G5, tc_us, tc_un, s_one, s_holds, s_J13_bitCount, bz_bI, hM.f]
  have hg38 : tq_gr (tc_mk S c) 155 11 38 = some 185 := by simp (maxSteps := 3000000) (disch := omega) only [Option.bind_some, tc_bs, tq_let, tc_I1, tc_I2, tc_J1, tc_J2, tc_J3, tc_F1, tc_F2, tc_F3, tc_F4, tc_G1, tc_G2, tc_G3, tc_G4, tc_G5, tc_us, tc_un, s_one, s_holds, s_J13_bitCount, bz_bI, hM.f]
  have W := tc_scan (B := f_X11_isOf_b24 155 (nI (D.ord i)) (nI t) (tc_mk S c)) 8 (fun a => bI (b0 && D.atts Z i t a)) (e := bI (b0 && D.atts Z i t 8)) (by omega) (fun a ha8 => by
    obtain ⟨x, x1, x2⟩ := rhasA (S := S) (c := c) hM hw hR ha hi a
    have e3 : (8 : Int32) * nI t + nI a = nI (8 * t + a) := by rw [show (8 : Int32) = nI 8 from rfl, nI_mul, nI_add]
    have hru : tq_ai (tc_mk S c) 185 (nI (8 * t + a)) = some (Z.ru (8 * t + a)) := by
      simp (maxSteps := 3000000) (disch := omega) only [Option.bind_some, tc_bs, tq_let, tc_I1, tc_I2, tc_J1, tc_J2, tc_J3, tc_F1, tc_F2, tc_F3, tc_F4, tc_G1, tc_G2, tc_G3, tc_G4, tc_G5, tc_us, tc_un, s_one, s_holds, s_J13_bitCount, bz_bI, hM.f, show 8 * t + a < 48 from by omega]
      rw [hC.2.2.1 _ (by omega)]
    dsimp only [f_X11_isOf_b24]
    rw [if_neg (show ¬ nI a ≥ 8 from nI_ge ha8 (by decide))]
    simp only [his, x1, hg38, e3, hru, Option.bind_some, tq_let, nI_1]
    refine congrArg (fun y => (some (Sum.inl (y, nI (a + 1))) : Option ((Int32 × Int32) ⊕ Int32))) ?_
    show _ = bI (b0 && (D.atts Z i t a && decide (Z.ru (8 * t + a) ≠ if D.hasA i a then 0 else 2)))
    cases b0 with
    | false => rfl
    | true =>
      cases D.atts Z i t a with
      | false => rfl
      | true =>
        rw [if_neg (by decide)]
        cases q : D.hasA i a with
        | false =>
          rw [if_pos (if_pos (x2.mpr q))]
          by_cases w : Z.ru (8 * t + a) = 2 <;> simp [w, bI]
        | true =>
          have : ¬ ((if x = -1 then (0 : Int32) else 1) = 0) := by
            rw [if_neg (fun w => by rw [x2.mp w] at q; cases q)]; decide
          rw [if_neg this]
          by_cases w : Z.ru (8 * t + a) = 0 <;> simp [w, bI]) (by rfl)
  have e0 : bI (b0 && D.atts Z i t 0) = bI b0 := by show bI (b0 && true) = _; rw [Bool.and_true]
  rw [e0] at W
  exact W
theorem Doc.ke_ct (D : Doc) {i j k : Nat} (h : fb_ct (D.ax 1 i) j = fb_ct (D.ax 1 i) k) : fb_ct (D.ke i) j = fb_ct (D.ke i) k := by
  have key : ∀ j k, j ≤ k → fb_ct (D.ax 1 i) j = fb_ct (D.ax 1 i) k → fb_ct (D.ke i) j = fb_ct (D.ke i) k := by
    intro j k hjk h
    obtain ⟨d, rfl⟩ : ∃ d, k = j + d := ⟨k - j, by omega⟩
    have h1 := fb_ct_split (D.ax 1 i) j d
    have h2 := fb_ct_split (D.ke i) j d
    have h3 : fb_ct (fun k => D.ax 1 i (j + k)) d = 0 := by omega
    have h4 : fb_ct (fun k => D.ke i (j + k)) d = 0 := fb_ct_zero.mpr (fun k hk => by
      have := fb_ct_zero.mp h3 k hk
      unfold Doc.ke; rw [this]; rfl)
    omega
  rcases Nat.le_total j k with q | q
  · exact key j k q h
  · exact (key k j q h.symm).symm
theorem s_X11_isOf (hM : tc_Mod S z) (hw : D.wf) (hR : RTree c D m) (ha : D.ao) (hC : SR c Z) (hi : i < D.n) (hk0 : D.kd i = 0) (ht : t < 6) (hE : ∀ j, i < j → j < D.n → c.1 188 (D.ord j) = tI (D.ty Z j) 6) :
    f_X11_isOf 155 (nI (D.ord i)) (nI t) (tc_mk S c) = some (bI (D.ty Z i t)) := by
  have hn := D.n_le hw
  have oi := D.ord_lt hw hi
  have hR' := hR
  obtain ⟨-, -, -, -, r5, r6, -⟩ := hR'
  have his : tq_is (tc_mk S c) 155 11 = some () := by simp (maxSteps := 3000000) (disch := omega) only [Option.bind_some, tc_bs, tq_let, tc_I1, tc_I2, tc_J1, tc_J2, tc_J3, tc_F1, tc_F2, tc_F3, tc_F4, tc_G1, tc_G2, tc_G3, tc_G4, tc_G5, tc_us, tc_un, s_one, s_holds, s_J13_bitCount, bz_bI, hM.f]
  have hg36 : tq_gr (tc_mk S c) 155 11 36 = some 183 := by simp (maxSteps := 3000000) (disch := omega) only [Option.bind_some, tc_bs, tq_let, tc_I1, tc_I2, tc_J1, tc_J2, tc_J3, tc_F1, tc_F2, tc_F3, tc_F4, tc_G1, tc_G2, tc_G3, tc_G4, tc_G5, tc_us, tc_un, s_one, s_holds, s_J13_bitCount, bz_bI, hM.f]
  have hg3 : tq_gr (tc_mk S c) 155 11 3 = some 157 := by simp (maxSteps := 3000000) (disch := omega) only [Option.bind_some, tc_bs, tq_let, tc_I1, tc_I2, tc_J1, tc_J2, tc_J3, tc_F1, tc_F2, tc_F3, tc_F4, tc_G1, tc_G2, tc_G3, tc_G4, tc_G5, tc_us, tc_un, s_one, s_holds, s_J13_bitCount, bz_bI, hM.f]
  have hg2 : tq_gr (tc_mk S c) 155 11 2 = some 156 := by simp (maxSteps := 3000000) (disch := omega) only [Option.bind_some, tc_bs, tq_let, tc_I1, tc_I2, tc_J1, tc_J2, tc_J3, tc_F1, tc_F2, tc_F3, tc_F4, tc_G1, tc_G2, tc_G3, tc_G4, tc_G5, tc_us, tc_un, s_one, s_holds, s_J13_bitCount, bz_bI, hM.f]
  have hg37 : tq_gr (tc_mk S c) 155 11 37 = some 184 := by simp (maxSteps := 3000000) (disch := omega) only [Option.bind_some, tc_bs, tq_let, tc_I1, tc_I2, tc_J1, tc_J2, tc_J3, tc_F1, tc_F2, tc_F3, tc_F4, tc_G1, tc_G2, tc_G3, tc_G4, tc_G5, tc_us, tc_un, s_one, s_holds, s_J13_bitCount, bz_bI, hM.f]
  have hg39 : tq_gr (tc_mk S c) 155 11 39 = some 186 := by simp (maxSteps := 3000000) (disch := omega) only [Option.bind_some, tc_bs, tq_let, tc_I1, tc_I2, tc_J1, tc_J2, tc_J3, tc_F1, tc_F2, tc_F3, tc_F4, tc_G1, tc_G2, tc_G3, tc_G4, tc_G5, tc_us, tc_un, s_one, s_holds, s_J13_bitCount, bz_bI, hM.f]
  have hnm : tq_ai (tc_mk S c) 183 (nI t) = some (Z.nm t) := by simp (maxSteps := 3000000) (disch := omega) only [Option.bind_some, tc_bs, tq_let, tc_I1, tc_I2, tc_J1, tc_J2, tc_J3, tc_F1, tc_F2, tc_F3, tc_F4, tc_G1, tc_G2, tc_G3, tc_G4, tc_G5, tc_us, tc_un, s_one, s_holds, s_J13_bitCount, bz_bI, hM.f, hC.1 t ht]
  have hfi : tq_ai (tc_mk S c) 186 (nI t) = some (Z.fi t) := by simp (maxSteps := 3000000) (disch := omega) only [Option.bind_some, tc_bs, tq_let, tc_I1, tc_I2, tc_J1, tc_J2, tc_J3, tc_F1, tc_F2, tc_F3, tc_F4, tc_G1, tc_G2, tc_G3, tc_G4, tc_G5, tc_us, tc_un, s_one, s_holds, s_J13_bitCount, bz_bI, hM.f, hC.2.1 t ht]
  have htx : tq_az (tc_mk S c) 184 (nI t) = some (bI (Z.tx t)) := by simp (maxSteps := 3000000) (disch := omega) only [Option.bind_some, tc_bs, tq_let, tc_I1, tc_I2, tc_J1, tc_J2, tc_J3, tc_F1, tc_F2, tc_F3, tc_F4, tc_G1, tc_G2, tc_G3, tc_G4, tc_G5, tc_us, tc_un, s_one, s_holds, s_J13_bitCount, bz_bI, hM.f, hC.2.2.2.2 t ht]
  have hdn : tq_ai (tc_mk S c) 157 (nI (D.ord i)) = some (D.nm i) := by simp (maxSteps := 3000000) (disch := omega) only [Option.bind_some, tc_bs, tq_let, tc_I1, tc_I2, tc_J1, tc_J2, tc_J3, tc_F1, tc_F2, tc_F3, tc_F4, tc_G1, tc_G2, tc_G3, tc_G4, tc_G5, tc_us, tc_un, s_one, s_holds, s_J13_bitCount, bz_bI, hM.f, r6 i hi]
  have hXn : ∀ j, D.ax 1 i j = true → j < D.n := fun j h => D.ax_lt 1 i j h
  have h64 := ct64 hw hXn
  have hle := fb_ct_le (D.ax 1 i) 64
  let b0 := decide (Z.nm t = D.nm i) && D.atts Z i t 8
  let hT : Nat → Bool := fun k => anyB (fun j => (D.ax 1 i j && decide (fb_ct (D.ax 1 i) j < k)) && decide (D.kd j = 1)) D.n
  have hTn : hT (fb_ct (D.ax 1 i) 64) = D.hasT i := anyB_cong fun j hj => by
    cases q : D.ax 1 i j with
    | false => rfl
    | true =>
      have := fb_ct_mono (D.ax 1 i) (show j + 1 ≤ 64 by omega)
      rw [fb_ct_succ, if_pos q] at this
      simp [show fb_ct (D.ax 1 i) j < fb_ct (D.ax 1 i) 64 by omega]
  obtain ⟨ee, w1, w2⟩ := tc_run2 (B := f_X11_isOf_b111 155 (nI (D.ord i)) (nI t) (nI (fb_ct (D.ax 1 i) 64)) (tc_mk S c)) (fb_ct (D.ax 1 i) 64) (fun k (y : Bool × Int32) => (bI y.1, y.2, nI k)) (fun k y => y.1 = (b0 && (!hT k || Z.tx t)) ∧ (y.1 = true → ∀ j, j ≤ 64 → fb_ct (D.ax 1 i) j = k → y.2 = D.stN Z t (D.ty Z) i j)) (fun ee => ∃ y : Bool × Int32, ee = (bI y.1, y.2) ∧ y.1 = (b0 && (!D.hasT i || Z.tx t)) ∧ (y.1 = true → y.2 = D.stN Z t (D.ty Z) i D.n)) (by omega) (fun k y hk hy => by
    obtain ⟨y1, y2⟩ := hy
    dsimp only [f_X11_isOf_b111]
    rw [if_neg (show ¬ nI k ≥ nI (fb_ct (D.ax 1 i) 64) from nI_ge hk (by omega))]
    cases hb : y.1 with
    | false =>
      right
      refine ⟨(bI false, y.2), by rw [if_pos (by decide)], ⟨(false, y.2), rfl, ?_, fun h => by cases h⟩⟩
      rw [hb] at y1
      cases hb0 : b0 with
      | false => rfl
      | true =>
        rw [hb0, Bool.true_and] at y1
        have hTk : hT k = true := by
          cases q : hT k with
          | true => rfl
          | false => rw [q] at y1; simp at y1
        have htf : Z.tx t = false := by
          cases q : Z.tx t with
          | false => rfl
          | true => rw [q] at y1; simp at y1
        obtain ⟨j, hj, hh⟩ := anyB_iff.mp hTk
        simp only [Bool.and_eq_true, decide_eq_true_eq] at hh
        have : D.hasT i = true := anyB_iff.mpr ⟨j, hj, by rw [hh.1.1, hh.2]; rfl⟩
        rw [this, htf]; rfl
    | true =>
      left
      rw [if_neg (by decide)]
      obtain ⟨q, h1, h2, h3⟩ := fb_ct_kth hk
      have hq := hXn q h2
      have oq := D.ord_lt hw hq
      have hiq : i < q := by
        have h4 := h2
        simp [Doc.ax] at h4
        have := D.up_lt hw h4.2.1 hq
        omega
      have hkq : D.kd q ≠ 2 := by have h4 := h2; simp [Doc.ax] at h4; exact h4.2.2.2
      have hch : f_X11_childAt 155 (nI (D.ord i)) (nI k) (tc_mk S c) = some (nI (D.ord q)) := by
        rw [s_X11_childAt hM hw hR hi, pk_inn h1 h2 h3, D.nd_in hw hq]
      have hkd : tq_ai (tc_mk S c) 156 (nI (D.ord q)) = some (D.kd q) := by simp (maxSteps := 3000000) (disch := omega) only [Option.bind_some, tc_bs, tq_let, tc_I1, tc_I2, tc_J1, tc_J2, tc_J3, tc_F1, tc_F2, tc_F3, tc_F4, tc_G1, tc_G2, tc_G3, tc_G4, tc_G5, tc_us, tc_un, s_one, s_holds, s_J13_bitCount, bz_bI, hM.f, r5 q hq]
      simp only [his, hch, hg2, hkd, Option.bind_some]
      have hst := y2 hb q (by omega) h3
      have hb0 : b0 = true := by
        cases w : b0 with
        | true => rfl
        | false => rw [hb, w] at y1; cases y1
      have hTs : hT (k + 1) = (hT k || decide (D.kd q = 1)) := by
        apply Bool.ext_iff
        rw [Bool.or_eq_true, anyB_iff, anyB_iff, decide_eq_true_eq]
        constructor
        · rintro ⟨j, hj, hh⟩
          simp only [Bool.and_eq_true, decide_eq_true_eq] at hh
          by_cases e : j = q
          · right; rw [← e]; exact hh.2
          · left
            refine ⟨j, hj, ?_⟩
            have : fb_ct (D.ax 1 i) j ≠ k := fun w => e (fb_ct_kth_one hh.1.1 h2 (by rw [w, h3]))
            simp only [Bool.and_eq_true, decide_eq_true_eq]
            exact ⟨⟨hh.1.1, by omega⟩, hh.2⟩
        · rintro (⟨j, hj, hh⟩ | hh)
          · simp only [Bool.and_eq_true, decide_eq_true_eq] at hh
            exact ⟨j, hj, by simp only [Bool.and_eq_true, decide_eq_true_eq]; exact ⟨⟨hh.1.1, by omega⟩, hh.2⟩⟩
          · exact ⟨q, hq, by simp only [Bool.and_eq_true, decide_eq_true_eq]; exact ⟨⟨h2, by omega⟩, hh⟩⟩
      by_cases hk1 : D.kd q = 1
      · refine ⟨(Z.tx t, y.2), ?_, ⟨?_, fun _ j hj hjk => ?_⟩⟩
        · rw [if_pos hk1]
          simp only [hg37, htx, Option.bind_some, tq_let, nI_1]
        · show Z.tx t = _
          rw [hb0, hTs, hk1]; simp
        · have hke : D.ke i q = false := by unfold Doc.ke; rw [hk1]; simp
          have h5 : D.stN Z t (D.ty Z) i (q + 1) = y.2 := by
            show (if D.ke i q then _ else D.stN Z t (D.ty Z) i q) = _
            rw [hke, hst]; rfl
          show y.2 = _
          rw [← h5]
          refine D.stN_ct Z t _ i (D.ke_ct ?_)
          rw [hjk, fb_ct_succ, if_pos h2, h3]
      · have hk00 : D.kd q = 0 := by
          rcases D.kd_of hw hq with w | w | w
          · exact w
          · exact absurd w hk1
          · exact absurd w hkq
        refine ⟨(true, Z.nx t y.2 (D.ty Z q) 24), ?_, ⟨?_, fun _ j hj hjk => ?_⟩⟩
        · rw [if_neg hk1, nx_loop hM hC ht oq (hE q hiq hq), Option.bind_some, Option.bind_some]
          simp only [tq_let, nI_1]
        · show true = _
          rw [hTs, hk00]
          rw [hb] at y1
          simpa using y1
        · have hke : D.ke i q = true := by unfold Doc.ke; rw [h2, hk00]; rfl
          have h5 : D.stN Z t (D.ty Z) i (q + 1) = Z.nx t y.2 (D.ty Z q) 24 := by
            show (if D.ke i q then _ else _) = _
            rw [if_pos hke, ← hst]
          show Z.nx t y.2 (D.ty Z q) 24 = _
          rw [← h5]
          refine D.stN_ct Z t _ i (D.ke_ct ?_)
          rw [hjk, fb_ct_succ, if_pos h2, h3]) (fun y hy => by
    refine ⟨_, by dsimp only [f_X11_isOf_b111]; rw [if_pos (Int32.le_refl _)], ⟨y, rfl, ?_, fun h => hy.2 h D.n (by omega) h64.symm⟩⟩
    rw [hy.1, hTn]) (x := (b0, 1)) ⟨by
      have : hT 0 = false := by
        cases q : hT 0 with
        | false => rfl
        | true => obtain ⟨j, _, hh⟩ := anyB_iff.mp q; simp at hh
      rw [this]; simp, fun _ j hj h => by
      have := D.stN_ct Z t (D.ty Z) i (D.ke_ct (j := j) (k := 0) h)
      rw [this]; rfl⟩
  obtain ⟨y, rfl, y1, y2⟩ := w2
  have hp5 : (if Z.nm t = D.nm i then (1 : Int32) else 0) = bI (decide (Z.nm t = D.nm i)) := by by_cases q : Z.nm t = D.nm i <;> simp [q, bI]
  have hty : D.ty Z i t = (y.1 && decide (D.stN Z t (D.ty Z) i D.n &&& Z.fi t ≠ 0)) := by
    rw [D.ty_eq hw hi t, y1]
    unfold Doc.own
    show _ = (((decide (Z.nm t = D.nm i) && D.atts Z i t 8) && (!D.hasT i || Z.tx t)) && _)
    rw [hk0]
    simp [Bool.and_assoc]
  unfold f_X11_isOf
  simp only [hg36, hnm, hg3, hdn, Option.bind_some, tq_let]
  rw [hp5, ratts_loop hM hw hR ha hC hi ht]
  simp only [his, s_X11_childCount hM hw hR hi, Option.bind_some]
  rw [show ((bI (decide (Z.nm t = D.nm i) && D.atts Z i t 8), (1 : Int32), (0 : Int32)) : Int32 × Int32 × Int32) = (bI b0, 1, nI 0) from rfl, w1, Option.bind_some, hty]
  dsimp only
  cases hb : y.1 with
  | false => rw [if_pos (by decide)]; rfl
  | true =>
    rw [if_neg (by decide)]
    simp only [hg39, hfi, Option.bind_some, y2 hb]
    by_cases q : D.stN Z t (D.ty Z) i D.n &&& Z.fi t = 0
    · rw [if_pos q]; simp [q, bI, tq_bz]
    · rw [if_neg q]; simp [q, bI, tq_bz]
theorem SR.I (h : SR c Z) (f : Nat → Int32) : SR (tc_I c 188 f) Z := by
  obtain ⟨h1, h2, h3, h4, h5⟩ := h
  refine ⟨?_, ?_, ?_, ?_, ?_⟩ <;> rw [tc_I1, tc_un _ _ (by decide)] <;> assumption
theorem s_X11_findTypes (hM : tc_Mod S z) (hw : D.wf) (hR : RTree c D m) (hO : ROrd c D) (ha : D.ao) (hC : SR c Z) :
    ∃ f, f_X11_findTypes 155 (tc_mk S c) = some (tc_mk S (tc_I c 188 f)) ∧ ∀ j, j < D.n → f (D.ord j) = tI (D.ty Z j) 6 := by
  have hn := D.n_le hw
  have kI := fun f => Kp.I (c := c) (a := 188) (lo := 188) (hi := 189) f (by omega) (by omega)
  have hR5 := hR.2.2.2.2.1
  obtain ⟨f, v1, v2⟩ := tc_run (B := f_X11_findTypes_b7 155) D.n (fun k f => (nI (D.n - k) + (-1), tc_mk S (tc_I c 188 f))) (fun k f => ∀ j, D.n - k ≤ j → j < D.n → f (D.ord j) = tI (D.ty Z j) 6) (fun f => tc_mk S (tc_I c 188 f)) (by omega) (fun k f hk hf => by
    have hkn : D.n - (k + 1) < D.n := by omega
    generalize hi : D.n - (k + 1) = i at hkn
    have oi := D.ord_lt hw hkn
    have e1 : nI (D.n - k) + (-1) = nI i := by rw [show D.n - k = i + 1 by omega, pk_m1]
    have hg12 : ∀ g, tq_gr (tc_mk S (tc_I c 188 g)) 155 11 12 = some 164 := fun g => by simp (maxSteps := 3000000) (disch := omega) only [Option.bind_some, tc_bs, tq_let, tc_I1, tc_I2, tc_J1, tc_J2, tc_J3, tc_F1, tc_F2, tc_F3, tc_F4, tc_G1, tc_G2, tc_G3, tc_G4, tc_G5, tc_us, tc_un, s_one, s_holds, s_J13_bitCount, bz_bI, hM.f]
    have hg41 : ∀ g, tq_gr (tc_mk S (tc_I c 188 g)) 155 11 41 = some 188 := fun g => by simp (maxSteps := 3000000) (disch := omega) only [Option.bind_some, tc_bs, tq_let, tc_I1, tc_I2, tc_J1, tc_J2, tc_J3, tc_F1, tc_F2, tc_F3, tc_F4, tc_G1, tc_G2, tc_G3, tc_G4, tc_G5, tc_us, tc_un, s_one, s_holds, s_J13_bitCount, bz_bI, hM.f]
    have hg2 : ∀ g, tq_gr (tc_mk S (tc_I c 188 g)) 155 11 2 = some 156 := fun g => by simp (maxSteps := 3000000) (disch := omega) only [Option.bind_some, tc_bs, tq_let, tc_I1, tc_I2, tc_J1, tc_J2, tc_J3, tc_F1, tc_F2, tc_F3, tc_F4, tc_G1, tc_G2, tc_G3, tc_G4, tc_G5, tc_us, tc_un, s_one, s_holds, s_J13_bitCount, bz_bI, hM.f]
    have his : ∀ g, tq_is (tc_mk S (tc_I c 188 g)) 155 11 = some () := fun g => by simp (maxSteps := 3000000) (disch := omega) only [Option.bind_some, tc_bs, tq_let, tc_I1, tc_I2, tc_J1, tc_J2, tc_J3, tc_F1, tc_F2, tc_F3, tc_F4, tc_G1, tc_G2, tc_G3, tc_G4, tc_G5, tc_us, tc_un, s_one, s_holds, s_J13_bitCount, bz_bI, hM.f]
    have ho : tq_ai (tc_mk S (tc_I c 188 f)) 164 (nI i) = some (nI (D.ord i)) := by simp (maxSteps := 3000000) (disch := omega) only [Option.bind_some, tc_bs, tq_let, tc_I1, tc_I2, tc_J1, tc_J2, tc_J3, tc_F1, tc_F2, tc_F3, tc_F4, tc_G1, tc_G2, tc_G3, tc_G4, tc_G5, tc_us, tc_un, s_one, s_holds, s_J13_bitCount, bz_bI, hM.f, show i < 60 from by omega, hO.2.1 i hkn]
    have hkd : ∀ g, tq_ai (tc_mk S (tc_I c 188 g)) 156 (nI (D.ord i)) = some (D.kd i) := fun g => by simp (maxSteps := 3000000) (disch := omega) only [Option.bind_some, tc_bs, tq_let, tc_I1, tc_I2, tc_J1, tc_J2, tc_J3, tc_F1, tc_F2, tc_F3, tc_F4, tc_G1, tc_G2, tc_G3, tc_G4, tc_G5, tc_us, tc_un, s_one, s_holds, s_J13_bitCount, bz_bI, hM.f, hR5 i hkn]
    have hrd : ∀ g, tq_ai (tc_mk S (tc_I c 188 g)) 188 (nI (D.ord i)) = some (g (D.ord i)) := fun g => by simp (maxSteps := 3000000) (disch := omega) only [Option.bind_some, tc_bs, tq_let, tc_I1, tc_I2, tc_J1, tc_J2, tc_J3, tc_F1, tc_F2, tc_F3, tc_F4, tc_G1, tc_G2, tc_G3, tc_G4, tc_G5, tc_us, tc_un, s_one, s_holds, s_J13_bitCount, bz_bI, hM.f]
    have hst : ∀ g x, tq_si (tc_mk S (tc_I c 188 g)) 188 (nI (D.ord i)) x = some (tc_mk S (tc_I c 188 (upd g (D.ord i) x))) := fun g x => by
      simp (maxSteps := 3000000) (disch := omega) only [Option.bind_some, tc_bs, tq_let, tc_I1, tc_I2, tc_J1, tc_J2, tc_J3, tc_F1, tc_F2, tc_F3, tc_F4, tc_G1, tc_G2, tc_G3, tc_G4, tc_G5, tc_us, tc_un, s_one, s_holds, s_J13_bitCount, bz_bI, hM.f]
      rw [tc_I_I]
    have hne : ∀ j, j < D.n → j ≠ i → D.ord j ≠ D.ord i := fun j hj h w => h (D.ord_inj hw hj hkn w)
    have inner : ∃ g, tq_loop (f_X11_findTypes_b27 155 (nI i) (nI (D.ord i))) tq_N (0, tc_mk S (tc_I c 188 (upd f (D.ord i) 0))) = some (tc_mk S (tc_I c 188 g)) ∧ g (D.ord i) = tI (D.ty Z i) 6 ∧ ∀ j, i < j → j < D.n → g (D.ord j) = tI (D.ty Z j) 6 := by
      by_cases hk0 : D.kd i = 0
      · obtain ⟨g, u1, u2, u3⟩ := tc_run (B := f_X11_findTypes_b27 155 (nI i) (nI (D.ord i))) 6 (fun t g => (nI t, tc_mk S (tc_I c 188 g))) (fun t g => g (D.ord i) = tI (D.ty Z i) t ∧ ∀ j, i < j → j < D.n → g (D.ord j) = tI (D.ty Z j) 6) (fun g => tc_mk S (tc_I c 188 g)) (by omega) (fun t g ht hg => by
          obtain ⟨g1, g2⟩ := hg
          have hof := s_X11_isOf (S := S) hM hw (hR.kp (kI g) (by omega)) ha (hC.I g) hkn hk0 ht (fun j h1 h2 => by rw [tc_I1, tc_us]; exact g2 j h1 h2)
          refine ⟨upd g (D.ord i) (tI (D.ty Z i) (t + 1)), ?_, ?_, fun j h1 h2 => ?_⟩
          · dsimp only [f_X11_findTypes_b27]
            rw [if_neg (show ¬ nI t ≥ 6 from nI_ge ht (by decide))]
            simp only [hg2, hkd, Option.bind_some]
            rw [if_pos hk0]
            simp only [hg41, hrd, his, hof, Option.bind_some, tq_let, sh1 t (by omega), hst, nI_1, g1]
            have or0 : ∀ x : Int32, x ||| 0 = x := fun x => b_ext fun j _ => by rw [b_or, bt_0, Bool.or_false]
            show _ = some (Sum.inl (nI (t + 1), tc_mk S (tc_I c 188 (upd g (D.ord i) (if D.ty Z i t then tI (D.ty Z i) t ||| nI (2 ^ t) else tI (D.ty Z i) t)))))
            cases D.ty Z i t with
            | false => rw [if_pos (by decide), or0]; rfl
            | true => rw [if_neg (by decide)]; rfl
          · simp [upd]
          · unfold upd
            rw [if_neg (hne j h2 (by omega))]
            exact g2 j h1 h2) (fun g hg => by
          dsimp only [f_X11_findTypes_b27]
          rw [if_pos (show nI 6 ≥ 6 by decide)]) (x := upd f (D.ord i) 0) ⟨by simp [upd, tI], fun j h1 h2 => by
            unfold upd
            rw [if_neg (hne j h2 (by omega))]
            exact hf j (by omega) h2⟩
        exact ⟨g, u1, u2, u3⟩
      · refine ⟨upd f (D.ord i) 0, ?_, ?_, fun j h1 h2 => ?_⟩
        · refine tc_iter (B := f_X11_findTypes_b27 155 (nI i) (nI (D.ord i))) 0 (fun _ => (0, tc_mk S (tc_I c 188 (upd f (D.ord i) 0)))) (fun t ht => by omega) ?_ (by unfold tq_N; omega)
          dsimp only [f_X11_findTypes_b27]
          rw [if_neg (by decide)]
          simp only [hg2, hkd, Option.bind_some]
          rw [if_neg hk0]
        · rw [tI_none 6 (fun t _ => by rw [D.ty_eq hw hkn t]; unfold Doc.own; simp [hk0])]
          simp [upd]
        · unfold upd
          rw [if_neg (hne j h2 (by omega))]
          exact hf j (by omega) h2
    obtain ⟨g, u1, u2, u3⟩ := inner
    refine ⟨g, ?_, fun j h1 h2 => ?_⟩
    · dsimp only [f_X11_findTypes_b7]
      rw [e1, if_neg (nI_pos (by omega))]
      simp only [hg12, ho, hg41, hst, u1, Option.bind_some, tq_let]
    · by_cases e : j = i
      · rw [e]; exact u2
      · exact u3 j (by omega) h2) (fun f hf => by
    dsimp only [f_X11_findTypes_b7]
    rw [Nat.sub_self, if_pos (show nI 0 + (-1) < 0 by decide)]) (x := c.1 188) (fun j h1 h2 => by omega)
  rw [tc_I_self, Nat.sub_zero] at v1
  refine ⟨f, ?_, fun j hj => v2 j (by omega) hj⟩
  have hgn : tq_gi (tc_mk S c) 155 11 11 = some (nI D.n) := by simp (maxSteps := 3000000) (disch := omega) only [Option.bind_some, tc_bs, tq_let, tc_I1, tc_I2, tc_J1, tc_J2, tc_J3, tc_F1, tc_F2, tc_F3, tc_F4, tc_G1, tc_G2, tc_G3, tc_G4, tc_G5, tc_us, tc_un, s_one, s_holds, s_J13_bitCount, bz_bI, hM.f, hO.1]
  have es : nI D.n - 1 = nI D.n + (-1) := Int32.sub_eq_add_neg _ _
  unfold f_X11_findTypes
  simp only [hgn, Option.bind_some, tq_let, es]
  rw [v1]; rfl
theorem s_X11_isRight (hM : tc_Mod S z) (hw : D.wf) (hR : RTree c D m) (hO : ROrd c D) (ha : D.ao) (hC : SR c Z) :
    ∃ f, f_X11_isRight 155 (tc_mk S c) = some (bI (D.ty Z 0 0), tc_mk S (tc_I c 188 f)) := by
  obtain ⟨f, v1, v2⟩ := s_X11_findTypes (S := S) hM hw hR hO ha hC
  refine ⟨f, ?_⟩
  have his : tq_is (tc_mk S c) 155 11 = some () := by simp (maxSteps := 3000000) (disch := omega) only [Option.bind_some, tc_bs, tq_let, tc_I1, tc_I2, tc_J1, tc_J2, tc_J3, tc_F1, tc_F2, tc_F3, tc_F4, tc_G1, tc_G2, tc_G3, tc_G4, tc_G5, tc_us, tc_un, s_one, s_holds, s_J13_bitCount, bz_bI, hM.f]
  have hg41 : tq_gr (tc_mk S (tc_I c 188 f)) 155 11 41 = some 188 := by simp (maxSteps := 3000000) (disch := omega) only [Option.bind_some, tc_bs, tq_let, tc_I1, tc_I2, tc_J1, tc_J2, tc_J3, tc_F1, tc_F2, tc_F3, tc_F4, tc_G1, tc_G2, tc_G3, tc_G4, tc_G5, tc_us, tc_un, s_one, s_holds, s_J13_bitCount, bz_bI, hM.f]
  have hrd : tq_ai (tc_mk S (tc_I c 188 f)) 188 0 = some (tI (D.ty Z 0) 6) := by
    have h0 := v2 0 (D.n_pos hw)
    rw [D.ord_0 hw] at h0
    rw [show (0 : Int32) = nI 0 from rfl]
    simp (maxSteps := 3000000) (disch := omega) only [Option.bind_some, tc_bs, tq_let, tc_I1, tc_I2, tc_J1, tc_J2, tc_J3, tc_F1, tc_F2, tc_F3, tc_F4, tc_G1, tc_G2, tc_G3, tc_G4, tc_G5, tc_us, tc_un, s_one, s_holds, s_J13_bitCount, bz_bI, hM.f]
    rw [h0]
  have hb : (tI (D.ty Z 0) 6 &&& 1 = 1) ↔ D.ty Z 0 0 = true := by
    rw [and1_1I, bt_tI _ 6 (Nat.le_refl _)]; simp
  unfold f_X11_isRight
  simp only [his, v1, hg41, hrd, Option.bind_some, tq_let]
  cases q : D.ty Z 0 0 with
  | false => rw [if_neg (fun w => by have := hb.mp w; rw [q] at this; cases this)]; rfl
  | true => rw [if_pos (hb.mpr q)]; rfl
end SRT
