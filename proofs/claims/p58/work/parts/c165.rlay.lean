/-! ===== the reference compares two versions: what it lays out ===== -/
abbrev g1w (a : Nat) : Prop := 200 ≤ a ∧ a ≤ 204
section RPL
variable {S : tq_H} {c c' : tc_C} {D E : Doc} {b q i j k n m p s z v1 v2 x y : Nat} {f : Nat → Nat}
theorem r_above (hM : tc_Mod S z) (hw : D.wf) (hR : RTree c D m) (hi : i < D.n) (s1 s3 s4 : Int32) : tq_loop (f_X11_layOut_b87 155 s1 s3 s4 (tc_mk S c)) tq_N ((0 : Int32), D.upN i) = some (nI (D.dep i)) := by
  have hn := D.n_le hw
  have di := D.dep_le hw hi
  have d0 := D.dep_0 hw
  obtain ⟨-, -, -, -, -, -, -, -, r9, -⟩ := hR
  obtain ⟨e, e1, e2⟩ := tc_while (B := f_X11_layOut_b87 155 s1 s3 s4 (tc_mk S c)) (fun (s : Int32 × Int32) => ∃ a, a < D.n ∧ s.2 = D.upN a ∧ D.dep a ≤ D.dep i ∧ s.1 = nI (D.dep i - D.dep a)) (fun s => 100 - s.1.toNatClampNeg) (fun e => e = nI (D.dep i)) (s := ((0 : Int32), D.upN i)) (fun s hs => by
    obtain ⟨t1, t2⟩ := s
    obtain ⟨a, ha, h1, h2, h3⟩ := hs
    have h1 : t2 = D.upN a := h1
    have h3 : t1 = nI (D.dep i - D.dep a) := h3
    subst h1
    subst h3
    by_cases w : a = 0
    · subst w
      right
      have e0 : D.upN 0 = -1 := rfl
      refine ⟨nI (D.dep i), ?_, rfl⟩
      simp only [f_X11_layOut_b87, e0, if_true]
      rw [d0]; rfl
    · left
      have hu := D.up_lt hw (by omega) ha
      have ou := D.ord_lt hw (show D.up a < D.n by omega)
      have e0 : D.upN a = nI (D.ord (D.up a)) := if_neg w
      have e1 : ¬ nI (D.ord (D.up a)) = -1 := fun y => by
        have := congrArg Int32.toInt y
        have k : ¬ nI (D.ord (D.up a)) < 0 := nI_pos (by omega)
        rw [y] at k
        exact k (by decide)
      have du := D.dep_up hw (by omega) ha
      refine ⟨(nI (D.dep i - D.dep (D.up a)), D.upN (D.up a)), ?_, ⟨D.up a, by omega, rfl, by omega, rfl⟩, ?_⟩
      · have e2 : nI (D.dep i - D.dep a) + 1 = nI (D.dep i - D.dep (D.up a)) := by rw [nI_1]; congr 1; omega
        have e3 : c.1 160 (D.ord (D.up a)) = D.upN (D.up a) := r9 _ (by omega)
        rw [e0]
        simp (maxSteps := 3000000) (disch := omega) only [Option.bind_some, tc_bs, tq_let, tc_I1, tc_I2, tc_J1, tc_J2, tc_J3, tc_F1, tc_F2, tc_F3, tc_F4, tc_G1, tc_G2, tc_G3, tc_G4, tc_G5, tc_us, tc_un, s_one, s_holds, s_J13_bitCount, bz_bI, f_X11_layOut_b87, e1, hM.f, e2, e3, if_false]
      · show 100 - (nI (D.dep i - D.dep (D.up a))).toNatClampNeg < 100 - (nI (D.dep i - D.dep a)).toNatClampNeg
        rw [nI_clamp (by omega), nI_clamp (by omega)]
        omega) ⟨i, hi, rfl, Nat.le_refl _, by rw [Nat.sub_self]; rfl⟩ (by show 100 - _ < tq_N; unfold tq_N; omega)
  rw [e1, e2]
theorem r_below (hM : tc_Mod S z) (hw : D.wf) (hR : RTree c D m) (hO : ROrd c D) (hi : i < D.n) (s1 : Int32) : tq_loop (f_X11_layOut_b33 155 s1 (nI i) (tc_mk S c)) tq_N ((0 : Int32), nI (i + 1)) = some (nI (D.en i - i - 1)) := by
  have hn := D.n_le hw
  have g1 := D.en_gt hw hi
  have g2 := D.en_le hw hi
  have o1 : c.2.2.1 155 11 = nI D.n := hO.1
  have o2 : c.1 164 i = nI (D.ord i) := hO.2.1 i hi
  have is11 : tq_is (tc_mk S c) 155 11 = some () := by simp (maxSteps := 3000000) (disch := omega) only [Option.bind_some, tc_bs, tq_let, tc_I1, tc_I2, tc_J1, tc_J2, tc_J3, tc_F1, tc_F2, tc_F3, tc_F4, tc_G1, tc_G2, tc_G3, tc_G4, tc_G5, tc_us, tc_un, s_one, s_holds, s_J13_bitCount, bz_bI, hM.f]
  have b0 : bI false = 0 := rfl
  have b1 : ¬ bI true = 0 := by decide
  refine tc_iter (B := f_X11_layOut_b33 155 s1 (nI i) (tc_mk S c)) (D.en i - i - 1) (fun k => (nI k, nI (i + 1 + k))) (fun k hk => ?_) ?_ (by unfold tq_N; omega)
  · have e1 : ¬ nI (i + 1 + k) ≥ nI D.n := nI_ge (by omega) (by omega)
    have e2 : c.1 164 (i + 1 + k) = nI (D.ord (i + 1 + k)) := hO.2.1 _ (by omega)
    have e3 := s_X11_isBelow (S := S) (i := i) (j := i + 1 + k) hM hw hR hi (by omega)
    rw [decide_eq_true (show i < i + 1 + k ∧ i + 1 + k < D.en i by omega)] at e3
    simp (maxSteps := 3000000) (disch := omega) only [Option.bind_some, tc_bs, tq_let, tc_I1, tc_I2, tc_J1, tc_J2, tc_J3, tc_F1, tc_F2, tc_F3, tc_F4, tc_G1, tc_G2, tc_G3, tc_G4, tc_G5, tc_us, tc_un, s_one, s_holds, s_J13_bitCount, bz_bI, f_X11_layOut_b33, hM.f, o1, e1, e2, o2, is11, e3, b1, if_false, nI_1]
    rfl
  · rcases Nat.lt_or_ge (D.en i) D.n with w | w
    · have e1 : ¬ nI (i + 1 + (D.en i - i - 1)) ≥ nI D.n := nI_ge (by omega) (by omega)
      have e2 : c.1 164 (i + 1 + (D.en i - i - 1)) = nI (D.ord (i + 1 + (D.en i - i - 1))) := hO.2.1 _ (by omega)
      have e3 := s_X11_isBelow (S := S) (i := i) (j := i + 1 + (D.en i - i - 1)) hM hw hR hi (by omega)
      rw [decide_eq_false (show ¬ (i < i + 1 + (D.en i - i - 1) ∧ i + 1 + (D.en i - i - 1) < D.en i) by omega)] at e3
      simp (maxSteps := 3000000) (disch := omega) only [Option.bind_some, tc_bs, tq_let, tc_I1, tc_I2, tc_J1, tc_J2, tc_J3, tc_F1, tc_F2, tc_F3, tc_F4, tc_G1, tc_G2, tc_G3, tc_G4, tc_G5, tc_us, tc_un, s_one, s_holds, s_J13_bitCount, bz_bI, f_X11_layOut_b33, hM.f, o1, e1, e2, o2, is11, e3, b0, if_true, if_false, nI_1]
    · have e1 : nI (i + 1 + (D.en i - i - 1)) ≥ nI D.n := by rw [show i + 1 + (D.en i - i - 1) = D.n by omega]; exact Int32.le_refl _
      simp (maxSteps := 3000000) (disch := omega) only [Option.bind_some, tc_bs, tq_let, tc_I1, tc_I2, tc_J1, tc_J2, tc_J3, tc_F1, tc_F2, tc_F3, tc_F4, tc_G1, tc_G2, tc_G3, tc_G4, tc_G5, tc_us, tc_un, s_one, s_holds, s_J13_bitCount, bz_bI, f_X11_layOut_b33, hM.f, o1, e1, if_true]
theorem r_lay (hM : tc_Mod S z) (hw : D.wf) (hR : RTree c D m) (hO : ROrd c D) (hs : s ≤ 1) :
    ∃ c', tq_loop (f_X11_layOut_b17 155 (nI s)) tq_N ((0 : Int32), tc_mk S c) = some (tc_mk S c') ∧ (∀ p, p < D.n → c'.1 201 (61 * s + (p + 1)) = nI (D.ord (D.ip p)) ∧ c'.1 202 (61 * s + (p + 1)) = nI (D.lf p + 1)) ∧ (∀ x, x < 61 * s ∨ 61 * s + 61 ≤ x → c'.1 201 x = c.1 201 x ∧ c'.1 202 x = c.1 202 x) ∧ (∀ a, a ≠ 201 → a ≠ 202 → c'.1 a = c.1 a) ∧ c'.2 = c.2 := by
  have hn := D.n_le hw
  obtain ⟨y, y1, y2, y3, y4, y5⟩ := tc_run (B := f_X11_layOut_b17 155 (nI s)) D.n (fun j y => (nI j, tc_mk S y)) (fun j y => (∀ i, i < j → y.1 201 (61 * s + (D.po i + 1)) = nI (D.ord i) ∧ y.1 202 (61 * s + (D.po i + 1)) = nI (i - D.dep i + 1)) ∧ (∀ x, x < 61 * s ∨ 61 * s + 61 ≤ x → y.1 201 x = c.1 201 x ∧ y.1 202 x = c.1 202 x) ∧ (∀ a, a ≠ 201 → a ≠ 202 → y.1 a = c.1 a) ∧ y.2 = c.2) (fun y => tc_mk S y) (by omega) (fun j y hj hy => by
      obtain ⟨g1, g2, g3, g4⟩ := hy
      have kw : Wr g1w uc2 l3w u4 c y := ⟨fun a ha => g3 a (by omega) (by omega), fun a _ => by rw [g4], fun q k _ => by rw [g4], fun q k _ => by rw [g4], by rw [g4]⟩
      have hR' := hR.wr kw (fun a ha => by omega) (fun z => z)
      have hO' := hO.wr kw (fun a ha => by omega) (fun z => z)
      have o1 : y.2.2.1 155 11 = nI D.n := hO'.1
      have o2 : y.1 164 j = nI (D.ord j) := hO'.2.1 j hj
      have o3 : y.1 160 (D.ord j) = D.upN j := hR'.2.2.2.2.2.2.2.2.1 j hj
      have oj := D.ord_lt hw hj
      have e1 : ¬ nI j ≥ nI D.n := nI_ge hj (by omega)
      have d1 := D.dep_le hw hj
      have d2 := D.en_gt hw hj
      have d3 := D.en_le hw hj
      have w1 := r_below (S := S) hM hw hR' hO' hj (nI s)
      have w2 := r_above (S := S) hM hw hR' hj (nI s) (nI j) (nI (D.en j - j - 1))
      have e4 := D.po_lt hw hj
      have e3 : nI j - nI (D.dep j) + nI (D.en j - j - 1) + 1 = nI (D.po j + 1) := by
        rw [pk_sub d1, nI_add, nI_1]; unfold Doc.po; congr 1; omega
      have e5 : (61 : Int32) * nI s + nI (D.po j + 1) = nI (61 * s + (D.po j + 1)) := by rw [show (61 : Int32) = nI 61 from rfl, nI_mul, nI_add]
      have e6 : nI (D.po j + 1) - nI (D.en j - j - 1) = nI (j - D.dep j + 1) := by
        have : D.po j + 1 = j - D.dep j + 1 + (D.en j - j - 1) := by unfold Doc.po; omega
        rw [pk_sub (by omega)]; congr 1; omega
      have lt : 61 * s + (D.po j + 1) < 122 := by omega
      refine ⟨_, by simp (maxSteps := 3000000) (disch := omega) only [Option.bind_some, tc_bs, tq_let, tc_I1, tc_I2, tc_J1, tc_J2, tc_J3, tc_F1, tc_F2, tc_F3, tc_F4, tc_G1, tc_G2, tc_G3, tc_G4, tc_G5, tc_us, tc_un, s_one, s_holds, s_J13_bitCount, bz_bI, f_X11_layOut_b17, hM.f, o1, e1, nI_1, w1, o2, o3, w2, e3, e5, e6, if_false]; rfl, fun v hv => ?_, fun x hx => ?_, fun a ha ha2 => ?_, ?_⟩
      · simp (maxSteps := 3000000) (disch := omega) only [Option.bind_some, tc_bs, tq_let, tc_I1, tc_I2, tc_J1, tc_J2, tc_J3, tc_F1, tc_F2, tc_F3, tc_F4, tc_G1, tc_G2, tc_G3, tc_G4, tc_G5, tc_us, tc_un, s_one, s_holds, s_J13_bitCount, bz_bI, if_true]
        by_cases z : v = j
        · subst z
          exact ⟨upd_s _ _ _, upd_s _ _ _⟩
        · have z2 : ¬ 61 * s + (D.po v + 1) = 61 * s + (D.po j + 1) := fun w => z (D.po_inj hw (by omega) hj (by omega))
          rw [upd_n _ _ z2, upd_n _ _ z2]
          exact g1 v (by omega)
      · simp (maxSteps := 3000000) (disch := omega) only [Option.bind_some, tc_bs, tq_let, tc_I1, tc_I2, tc_J1, tc_J2, tc_J3, tc_F1, tc_F2, tc_F3, tc_F4, tc_G1, tc_G2, tc_G3, tc_G4, tc_G5, tc_us, tc_un, s_one, s_holds, s_J13_bitCount, bz_bI, if_true]
        rw [upd_n _ _ (by omega), upd_n _ _ (by omega)]
        exact g2 x hx
      · rw [tc_I1, tc_un _ _ ha2, tc_I1, tc_un _ _ ha]; exact g3 a ha ha2
      · exact g4) (fun y hy => by
      obtain ⟨g1, g2, g3, g4⟩ := hy
      have o1 : y.2.2.1 155 11 = nI D.n := by rw [g4]; exact hO.1
      have e1 : nI D.n ≥ nI D.n := Int32.le_refl _
      simp (maxSteps := 3000000) (disch := omega) only [Option.bind_some, tc_bs, tq_let, tc_I1, tc_I2, tc_J1, tc_J2, tc_J3, tc_F1, tc_F2, tc_F3, tc_F4, tc_G1, tc_G2, tc_G3, tc_G4, tc_G5, tc_us, tc_un, s_one, s_holds, s_J13_bitCount, bz_bI, f_X11_layOut_b17, hM.f, o1, e1, if_true]) (x := c) ⟨fun i hi => absurd hi (Nat.not_lt_zero _), fun x _ => ⟨rfl, rfl⟩, fun a _ _ => rfl, rfl⟩
  refine ⟨y, y1, fun p hp => ?_, y3, y4, y5⟩
  obtain ⟨w1, w2⟩ := D.ip_sp hw hp
  have := y2 _ w1
  rw [w2] at this
  exact this
theorem r_isKey (hM : tc_Mod S z) (hn : n ≤ 60) (hs : s ≤ 1) (h0 : c.1 200 s = nI n) (hf : ∀ p, p < n → f p ≤ p ∧ c.1 202 (61 * s + (p + 1)) = nI (f p + 1)) (hp : p < n) : ∃ r, f_X11_isKey 155 (nI s) (nI (p + 1)) (tc_mk S c) = some (bI r) ∧ (r = true ↔ zK n f p) := by
  have b0 : bI false = 0 := rfl
  have b1 : ¬ bI true = 0 := by decide
  have e5 : ∀ a, (61 : Int32) * nI s + nI a = nI (61 * s + a) := fun a => by rw [show (61 : Int32) = nI 61 from rfl, nI_mul, nI_add]
  obtain ⟨y, y1, y2⟩ := tc_run (B := f_X11_isKey_b7 155 (nI s) (nI (p + 1)) (tc_mk S c)) (n - (p + 1)) (fun j (y : Bool) => (bI y, nI (p + 2 + j))) (fun j y => (y = true ↔ ∀ q, p < q → q < p + 1 + j → f q ≠ f p)) (fun y => bI y) (by omega) (fun j y hj hy => by
      have e1 : ¬ nI (p + 2 + j) > nI n := nI_nlt (by omega) (by omega)
      have e2 : nI (p + 2 + j) + 1 = nI (p + 2 + (j + 1)) := nI_1 _
      obtain ⟨f1, f2⟩ := hf (p + 1 + j) (by omega)
      obtain ⟨f3, f4⟩ := hf p hp
      have f2 : c.1 202 (61 * s + (p + 2 + j)) = nI (f (p + 1 + j) + 1) := by rw [show p + 2 + j = p + 1 + j + 1 by omega]; exact f2
      have l1 : 61 * s + (p + 2 + j) < 122 := by omega
      have l2 : 61 * s + (p + 1) < 122 := by omega
      have iff1 := nI_eq (a := f (p + 1 + j) + 1) (b := f p + 1) (by omega) (by omega)
      cases y with
      | false =>
        refine ⟨false, by simp (maxSteps := 3000000) (disch := omega) only [Option.bind_some, tc_bs, tq_let, tc_I1, tc_I2, tc_J1, tc_J2, tc_J3, tc_F1, tc_F2, tc_F3, tc_F4, tc_G1, tc_G2, tc_G3, tc_G4, tc_G5, tc_us, tc_un, s_one, s_holds, s_J13_bitCount, bz_bI, f_X11_isKey_b7, hM.f, h0, e1, b0, e2, if_true, if_false], ?_⟩
        constructor
        · intro w; cases w
        · intro w; exact hy.mpr fun q h1 h2 => w q h1 (by omega)
      | true =>
        have hy := hy.mp rfl
        by_cases w : f (p + 1 + j) = f p
        · have w2 : nI (f (p + 1 + j) + 1) = nI (f p + 1) := by rw [w]
          refine ⟨false, by simp (maxSteps := 3000000) (disch := omega) only [Option.bind_some, tc_bs, tq_let, tc_I1, tc_I2, tc_J1, tc_J2, tc_J3, tc_F1, tc_F2, tc_F3, tc_F4, tc_G1, tc_G2, tc_G3, tc_G4, tc_G5, tc_us, tc_un, s_one, s_holds, s_J13_bitCount, bz_bI, f_X11_isKey_b7, hM.f, h0, e1, b1, e2, e5, f2, f4, w2, if_true, if_false]; rfl, ?_⟩
          constructor
          · intro w; cases w
          · intro z; exact absurd w (z (p + 1 + j) (by omega) (by omega))
        · have w2 : ¬ nI (f (p + 1 + j) + 1) = nI (f p + 1) := fun z => w (by have := iff1.mp z; omega)
          refine ⟨true, by simp (maxSteps := 3000000) (disch := omega) only [Option.bind_some, tc_bs, tq_let, tc_I1, tc_I2, tc_J1, tc_J2, tc_J3, tc_F1, tc_F2, tc_F3, tc_F4, tc_G1, tc_G2, tc_G3, tc_G4, tc_G5, tc_us, tc_un, s_one, s_holds, s_J13_bitCount, bz_bI, f_X11_isKey_b7, hM.f, h0, e1, b1, e2, e5, f2, f4, w2, if_false]; rfl, ?_⟩
          constructor
          · intro _ q h1 h2
            by_cases z : q = p + 1 + j
            · subst z; exact w
            · exact hy q h1 (by omega)
          · intro _; rfl) (fun y hy => by
      have e1 : nI (p + 2 + (n - (p + 1))) > nI n := nI_lt (by omega) (by omega)
      simp (maxSteps := 3000000) (disch := omega) only [Option.bind_some, tc_bs, tq_let, tc_I1, tc_I2, tc_J1, tc_J2, tc_J3, tc_F1, tc_F2, tc_F3, tc_F4, tc_G1, tc_G2, tc_G3, tc_G4, tc_G5, tc_us, tc_un, s_one, s_holds, s_J13_bitCount, bz_bI, f_X11_isKey_b7, hM.f, h0, e1, if_true]) (x := true) (by constructor <;> intro w; intro q h1 h2; omega; rfl)
  have y1 : tq_loop (f_X11_isKey_b7 155 (nI s) (nI (p + 1)) (tc_mk S c)) tq_N ((1 : Int32), nI (p + 2)) = some (bI y) := y1
  refine ⟨y, ?_, y2.trans ⟨fun w q h1 h2 => w q h1 (by omega), fun w q h1 h2 => w q h1 (by omega)⟩⟩
  simp (maxSteps := 3000000) (disch := omega) only [Option.bind_some, tc_bs, tq_let, tc_I1, tc_I2, tc_J1, tc_J2, tc_J3, tc_F1, tc_F2, tc_F3, tc_F4, tc_G1, tc_G2, tc_G3, tc_G4, tc_G5, tc_us, tc_un, s_one, s_holds, s_J13_bitCount, bz_bI, f_X11_isKey, nI_1, y1]
theorem r_isAlike (hM : tc_Mod S z) (hw : D.wf) (hw2 : E.wf) (hv1 : v1 < 6) (hv2 : v2 < 6) (h1 : KV c v1 D) (h2 : KV c v2 E) (hk1 : ∀ j, j < D.n → c.1 156 (D.ord j) = D.kd j) (hk2 : ∀ j, j < E.n → c.1 156 (E.ord j) = E.kd j) (hx : x < D.n) (hy : y < E.n) :
    f_X11_isAlike 155 (nI v1) (nI (D.ord x)) (nI (E.ord y)) (nI v2) (tc_mk S c) = some (bI (decide (D.kd x = E.kd y ∧ D.nm x = E.nm y ∧ D.vl x = E.vl y ∧ D.dc x = E.dc y))) := by
  have ox := D.ord_lt hw hx
  have oy := E.ord_lt hw2 hy
  have e5 : ∀ a b, (60 : Int32) * nI a + nI b = nI (60 * a + b) := fun a b => by rw [show (60 : Int32) = nI 60 from rfl, nI_mul, nI_add]
  obtain ⟨-, -, a3, a4, a5, -⟩ := h1
  obtain ⟨-, -, b3, b4, b5, -⟩ := h2
  have l1 : 60 * v1 + D.ord x < 360 := by omega
  have l2 : 60 * v2 + E.ord y < 360 := by omega
  have z0 : tq_bz 0 = some 0 := rfl
  have z1 : tq_bz 1 = some 1 := rfl
  have f0 : bI false = 0 := rfl
  have f1 : bI true = 1 := rfl
  by_cases q1 : D.kd x = E.kd y
  · by_cases q2 : D.nm x = E.nm y
    · by_cases q3 : D.vl x = E.vl y
      · by_cases q4 : D.dc x = E.dc y
        · rw [decide_eq_true ⟨q1, q2, q3, q4⟩, f1]
          simp (maxSteps := 3000000) (disch := omega) only [Option.bind_some, tc_bs, tq_let, tc_I1, tc_I2, tc_J1, tc_J2, tc_J3, tc_F1, tc_F2, tc_F3, tc_F4, tc_G1, tc_G2, tc_G3, tc_G4, tc_G5, tc_us, tc_un, s_one, s_holds, s_J13_bitCount, bz_bI, f_X11_isAlike, hM.f, hk1 x hx, hk2 y hy, e5, a3 x hx, a4 x hx, a5 x hx, b3 y hy, b4 y hy, b5 y hy, q1, q2, q3, q4, z1, if_true]
        · rw [decide_eq_false (fun w => q4 w.2.2.2), f0]
          simp (maxSteps := 3000000) (disch := omega) only [Option.bind_some, tc_bs, tq_let, tc_I1, tc_I2, tc_J1, tc_J2, tc_J3, tc_F1, tc_F2, tc_F3, tc_F4, tc_G1, tc_G2, tc_G3, tc_G4, tc_G5, tc_us, tc_un, s_one, s_holds, s_J13_bitCount, bz_bI, f_X11_isAlike, hM.f, hk1 x hx, hk2 y hy, e5, a3 x hx, a4 x hx, a5 x hx, b3 y hy, b4 y hy, b5 y hy, q1, q2, q3, q4, z0, if_true, if_false]
      · rw [decide_eq_false (fun w => q3 w.2.2.1), f0]
        simp (maxSteps := 3000000) (disch := omega) only [Option.bind_some, tc_bs, tq_let, tc_I1, tc_I2, tc_J1, tc_J2, tc_J3, tc_F1, tc_F2, tc_F3, tc_F4, tc_G1, tc_G2, tc_G3, tc_G4, tc_G5, tc_us, tc_un, s_one, s_holds, s_J13_bitCount, bz_bI, f_X11_isAlike, hM.f, hk1 x hx, hk2 y hy, e5, a3 x hx, a4 x hx, b3 y hy, b4 y hy, q1, q2, q3, z0, if_true, if_false]
    · rw [decide_eq_false (fun w => q2 w.2.1), f0]
      simp (maxSteps := 3000000) (disch := omega) only [Option.bind_some, tc_bs, tq_let, tc_I1, tc_I2, tc_J1, tc_J2, tc_J3, tc_F1, tc_F2, tc_F3, tc_F4, tc_G1, tc_G2, tc_G3, tc_G4, tc_G5, tc_us, tc_un, s_one, s_holds, s_J13_bitCount, bz_bI, f_X11_isAlike, hM.f, hk1 x hx, hk2 y hy, e5, a3 x hx, b3 y hy, q1, q2, z0, if_true, if_false]
  · rw [decide_eq_false (fun w => q1 w.1), f0]
    simp (maxSteps := 3000000) (disch := omega) only [Option.bind_some, tc_bs, tq_let, tc_I1, tc_I2, tc_J1, tc_J2, tc_J3, tc_F1, tc_F2, tc_F3, tc_F4, tc_G1, tc_G2, tc_G3, tc_G4, tc_G5, tc_us, tc_un, s_one, s_holds, s_J13_bitCount, bz_bI, f_X11_isAlike, hM.f, hk1 x hx, hk2 y hy, e5, q1, z0, if_false]
end RPL
