/-! ===== the reference loads a version; the relation with another tree ===== -/
abbrev B1 (a : Nat) : Prop := (1 ≤ a ∧ a ≤ 80) ∨ a = 97 ∨ (117 ≤ a ∧ a ≤ 123) ∨ (140 ≤ a ∧ a ≤ 147) ∨ a = 152 ∨ (156 ≤ a ∧ a ≤ 166) ∨ (168 ≤ a ∧ a ≤ 174) ∨ a = 182 ∨ a = 188 ∨ a = 192
abbrev B2 (a : Nat) : Prop := (1 ≤ a ∧ a ≤ 80) ∨ (117 ≤ a ∧ a ≤ 123) ∨ a = 154 ∨ a = 205 ∨ a = 179 ∨ a = 180 ∨ a = 193
abbrev B3 (q k : Nat) : Prop := (1 ≤ q ∧ q ≤ 80) ∨ (117 ≤ q ∧ q ≤ 123) ∨ (q = 0 ∧ (k = 18 ∨ k = 14)) ∨ (q = 81 ∧ k = 11) ∨ (q = 155 ∧ (k = 0 ∨ k = 1 ∨ k = 10 ∨ k = 11 ∨ k = 15))
abbrev B4 (q _k : Nat) : Prop := (1 ≤ q ∧ q ≤ 81) ∨ (117 ≤ q ∧ q ≤ 123) ∨ q = 155
abbrev ld1 (a : Nat) : Prop := (157 ≤ a ∧ a ≤ 166 ∧ a ≠ 162)
abbrev ld3 (q k : Nat) : Prop := q = 155 ∧ k = 11
section LDV
variable {S : tq_H} {c c' c1 c2 : tc_C} {di : DI} {D E : Doc} {m M : Nat} {U U' : Ups} {P : Pat} {H : Nat → Bool} {Z : Sma} {X : Nat → Bool} {nw : Nat} {ed : Option Nat} {nv : Nat} {vt mv : Nat → Nat} {Dv : Nat → Doc} {p q r k b i n z : Nat}
theorem s_numberAll_R (hM : tc_Mod S z) (hw : D.wf) (hR : RTree c D m) (hO : ROrd c D) : f_X11_numberAll 155 (tc_mk S c) = some (tc_mk S (tc_I c 162 (D.numF (c.1 162) D.n))) := by
  have hn := D.n_le hw
  have W := tc_iter (B := f_X11_numberAll_b4 155) D.n (fun i => (nI (16 * fb_ct D.sol i), nI i, tc_mk S (tc_I c 162 (D.numF (c.1 162) i)))) (e := tc_mk S (tc_I c 162 (D.numF (c.1 162) D.n))) (fun i hi => ?_) ?_ (by unfold tq_N; omega)
  · have e0 : tc_I c 162 (D.numF (c.1 162) 0) = c := tc_I_self c 162
    simp only [e0] at W
    have W : tq_loop (f_X11_numberAll_b4 155) tq_N ((0 : Int32), (0 : Int32), tc_mk S c) = some (tc_mk S (tc_I c 162 (D.numF (c.1 162) D.n))) := W
    unfold f_X11_numberAll
    rw [W, Option.bind_some]
  · have ho := D.ord_lt hw hi
    have e0 : c.2.2.1 155 11 = nI D.n := hO.1
    have e1 : ¬ nI i ≥ nI D.n := nI_ge hi (by omega)
    have e2 : c.1 164 i = nI (D.ord i) := hO.2.1 i hi
    have e3 : c.1 156 (D.ord i) = D.kd i := hR.2.2.2.2.1 i hi
    by_cases k : D.kd i = 2
    · have h1 : fb_ct D.sol (i + 1) = fb_ct D.sol i := by rw [fb_ct_succ]; simp [Doc.sol, k]
      have h2 : D.numF (c.1 162) (i + 1) = D.numF (c.1 162) i := if_pos k
      rw [h1, h2]
      simp (maxSteps := 3000000) (disch := omega) only [Option.bind_some, tc_bs, tq_let, tc_I1, tc_I2, tc_J1, tc_J2, tc_J3, tc_F1, tc_F2, tc_F3, tc_F4, tc_G1, tc_G2, tc_G3, tc_G4, tc_G5, tc_us, tc_un, s_one, s_holds, s_J13_bitCount, bz_bI, f_X11_numberAll_b4, hM.f, e0, e1, e2, e3, k, if_true, if_false, nI_1]
    · have h1 : fb_ct D.sol (i + 1) = fb_ct D.sol i + 1 := by rw [fb_ct_succ]; simp [Doc.sol, k]
      have h2 : D.numF (c.1 162) (i + 1) = upd (D.numF (c.1 162) i) (D.ord i) (nI (16 * fb_ct D.sol (i + 1))) := if_neg k
      have h3 : nI (16 * fb_ct D.sol i) + 16 = nI (16 * fb_ct D.sol (i + 1)) := by rw [h1, show 16 * (fb_ct D.sol i + 1) = 16 * fb_ct D.sol i + 16 by omega, ← nI_add]; rfl
      have h4 : tc_I (tc_I c 162 (D.numF (c.1 162) i)) 162 (upd (D.numF (c.1 162) i) (D.ord i) (nI (16 * fb_ct D.sol (i + 1)))) = tc_I c 162 (upd (D.numF (c.1 162) i) (D.ord i) (nI (16 * fb_ct D.sol (i + 1)))) := tc_I_I _ _ _ _
      rw [h2]
      simp (maxSteps := 3000000) (disch := omega) only [Option.bind_some, tc_bs, tq_let, tc_I1, tc_I2, tc_J1, tc_J2, tc_J3, tc_F1, tc_F2, tc_F3, tc_F4, tc_G1, tc_G2, tc_G3, tc_G4, tc_G5, tc_us, tc_un, s_one, s_holds, s_J13_bitCount, bz_bI, f_X11_numberAll_b4, hM.f, e0, e1, e2, e3, k, h3, h4, if_true, if_false, nI_1]
  · have e0 : c.2.2.1 155 11 = nI D.n := hO.1
    have e1 : nI D.n ≥ nI D.n := Int32.le_refl _
    simp (maxSteps := 3000000) (disch := omega) only [Option.bind_some, tc_bs, tq_let, tc_I1, tc_I2, tc_J1, tc_J2, tc_J3, tc_F1, tc_F2, tc_F3, tc_F4, tc_G1, tc_G2, tc_G3, tc_G4, tc_G5, tc_us, tc_un, s_one, s_holds, s_J13_bitCount, bz_bI, f_X11_numberAll_b4, hM.f, e0, e1, if_true]
theorem KV.bool (hw : D.wf) (h : KV c k D) : ∀ v, v < 60 → ∃ r, c.1 194 (60 * k + v) = bI r := fun v hv => by
  cases e : D.has v with
  | true =>
    obtain ⟨i, hi, rfl⟩ := Doc.has_iff.mp e
    exact ⟨true, h.1 i hi⟩
  | false => exact ⟨false, h.2.1 v hv e⟩
theorem s_X11_load (hM : tc_Mod S z) (hw : D.wf) (ha : D.ao) (hk : k < 6) (h : KV c k D) (h1 : c.2.2.1 155 1 = nI m) (hm : m ≤ 60 ∧ ∀ i, i < D.n → D.ord i < m) (hkd : ∀ i, i < D.n → c.1 156 (D.ord i) = D.kd i) :
    ∃ c', f_X11_load 155 (nI k) (tc_mk S c) = some (tc_mk S c') ∧ RTree c' D m ∧ ROrd c' D ∧ Wr ld1 uc2 ld3 u4 c c' := by
  have hb := h.bool hw
  obtain ⟨y, y1, y2, y3, y4⟩ := tc_run (B := f_X11_load_b2 155 (nI k)) 60 (fun j y => (nI j, tc_mk S y)) (fun j y => (∀ v, v < j → y.1 163 v = c.1 194 (60 * k + v) ∧ y.1 157 v = c.1 195 (60 * k + v) ∧ y.1 158 v = c.1 196 (60 * k + v) ∧ y.1 159 v = c.1 197 (60 * k + v) ∧ y.1 160 v = c.1 198 (60 * k + v) ∧ y.1 161 v = c.1 199 (60 * k + v)) ∧
    (∀ a, a < 157 ∨ a = 162 ∨ 163 < a → y.1 a = c.1 a) ∧ y.2 = c.2) (fun y => tc_mk S y) (by omega) (fun j y hj hy => by
      obtain ⟨g1, g2, g3⟩ := hy
      have e1 : ¬ nI j ≥ 60 := nI_ge hj (by decide)
      obtain ⟨r, hr⟩ := hb j hj
      have e2 : y.1 194 (60 * k + j) = bI r := by rw [g2 194 (by omega)]; exact hr
      have e3 : ((60 : Int32) * nI k) + nI j = nI (60 * k + j) := by rw [show (60 : Int32) * nI k = nI (60 * k) from nI_mul 60 k, nI_add]
      have hl : 60 * k + j < 360 := by omega
      refine ⟨_, by simp (maxSteps := 3000000) (disch := omega) only [Option.bind_some, tc_bs, tq_let, tc_I1, tc_I2, tc_J1, tc_J2, tc_J3, tc_F1, tc_F2, tc_F3, tc_F4, tc_G1, tc_G2, tc_G3, tc_G4, tc_G5, tc_us, tc_un, s_one, s_holds, s_J13_bitCount, bz_bI, f_X11_load_b2, hM.f, e1, e3, e2, if_false, nI_1]; rfl, fun v hv => ?_, fun a ha => ?_, ?_⟩
      · simp (maxSteps := 3000000) (disch := omega) only [Option.bind_some, tc_bs, tq_let, tc_I1, tc_I2, tc_J1, tc_J2, tc_J3, tc_F1, tc_F2, tc_F3, tc_F4, tc_G1, tc_G2, tc_G3, tc_G4, tc_G5, tc_us, tc_un, s_one, s_holds, s_J13_bitCount, bz_bI, if_true]
        rw [g2 195 (by omega), g2 196 (by omega), g2 197 (by omega), g2 198 (by omega), g2 199 (by omega), ← hr]
        by_cases q : v = j
        · subst q
          simp only [upd_s]
          exact ⟨trivial, trivial, trivial, trivial, trivial, trivial⟩
        · simp only [upd_n _ _ q]
          exact g1 v (by omega)
      · simp (maxSteps := 3000000) (disch := omega) only [Option.bind_some, tc_bs, tq_let, tc_I1, tc_I2, tc_J1, tc_J2, tc_J3, tc_F1, tc_F2, tc_F3, tc_F4, tc_G1, tc_G2, tc_G3, tc_G4, tc_G5, tc_us, tc_un, s_one, s_holds, s_J13_bitCount, bz_bI, if_true]
        exact g2 a ha
      · exact g3) (fun y hy => by
      have e1 : nI 60 ≥ (60 : Int32) := Int32.le_refl _
      simp only [f_X11_load_b2, ↓reduceIte, e1]) (x := c) ⟨fun v hv => absurd hv (Nat.not_lt_zero _), fun a _ => rfl, rfl⟩
  have y1 : tq_loop (f_X11_load_b2 155 (nI k)) tq_N ((0 : Int32), tc_mk S c) = some (tc_mk S y) := y1
  obtain ⟨v1, v2, v3, v4, v5, v6, v7⟩ := h
  have at' : ∀ i, i < D.n → _ := fun i hi => y2 (D.ord i) (D.ord_lt hw hi)
  have hR : RTree y D m := by
    refine ⟨by rw [y4]; exact h1, hm, fun i hi => ?_, fun v hv hn => ?_, fun i hi => ?_, fun i hi => ?_, fun i hi => ?_, fun i hi => ?_, fun i hi => ?_, fun i h0 hi hk2 => ?_⟩
    · rw [(at' i hi).1]; exact v1 i hi
    · rw [(y2 v hv).1]
      refine v2 v hv ?_
      cases e : D.has v with
      | false => rfl
      | true => obtain ⟨i, hi, e⟩ := Doc.has_iff.mp e; exact absurd e (hn i hi)
    · rw [y3 156 (by omega)]; exact hkd i hi
    · rw [(at' i hi).2.1]; exact v3 i hi
    · rw [(at' i hi).2.2.1]; exact v4 i hi
    · rw [(at' i hi).2.2.2.1]; exact v5 i hi
    · rw [(at' i hi).2.2.2.2.1]; exact v6 i hi
    · rw [(at' i hi).2.2.2.2.2]; exact v7 i h0 hi hk2
  obtain ⟨w, w1, w2, w3⟩ := s_X11_arrange (S := S) hM hw ha (fun x hx => RTree.ans hM hw (hR.af hx) ha)
  refine ⟨w, by simp (maxSteps := 3000000) (disch := omega) only [Option.bind_some, tc_bs, tq_let, tc_I1, tc_I2, tc_J1, tc_J2, tc_J3, tc_F1, tc_F2, tc_F3, tc_F4, tc_G1, tc_G2, tc_G3, tc_G4, tc_G5, tc_us, tc_un, s_one, s_holds, s_J13_bitCount, bz_bI, f_X11_load, y1, hM.f, w1], hR.af w3, w2, ?_⟩
  obtain ⟨a1, a2, a3, a4, a5, a6⟩ := w3
  refine ⟨fun a ha => ?_, fun a _ => by rw [a2, y4], fun q k hq => ?_, fun q k _ => by rw [a5, y4], by rw [a6, y4]⟩
  · rw [a1 a (by omega), y3 a (by omega)]
  · by_cases e : q = 155
    · subst e; rw [a4 k (by omega), y4]
    · rw [a3 q e, y4]
theorem Cor.pv (h : Cor S c di D m U P H Z X nw ed nv vt mv Dv) : ∃ pv : Nat → Nat, ∀ k, k < nw → pv k < P.n ∧ c.1 150 k = nI (pv k) ∧ c.1 191 k = nI (pv k) ∧ c.2.1 193 k = D.V P (pv k) := by
  obtain ⟨-, -, -, g4, -⟩ := h.gv
  have h20 := h.gp.2.2.1
  refine ⟨fun k => (c.1 150 k).toNatClampNeg, fun k hk => ?_⟩
  obtain ⟨p, p1, p2, p3, p4⟩ := g4 k hk
  have e : (c.1 150 k).toNatClampNeg = p := by rw [p2, nI_clamp (by omega)]
  simp only [e]
  exact ⟨p1, p2, p3, p4⟩
theorem InvE.un {u : Nat} {h0 : tq_H} (e : u = di.2.2) (h : InvE (di.1, di.2.1, u) h0) : InvE di h0 := by subst e; exact h
theorem Rise.up {N : Nat → Int32} {k k' : Nat} (h : Rise N D k) (hk : k ≤ k') : Rise N D k' := by
  obtain ⟨f, f1, f2, f3⟩ := h
  exact ⟨f, fun j hj kj => ⟨(f1 j hj kj).1, by have := (f1 j hj kj).2; omega⟩, f2, f3⟩
theorem Rise.cg {N N' : Nat → Int32} {k : Nat} (h : Rise N D k) (e : ∀ j, j < D.n → D.kd j ≠ 2 → N' (D.ord j) = N (D.ord j)) : Rise N' D k := by
  obtain ⟨f, f1, f2, f3⟩ := h
  exact ⟨f, fun j hj kj => ⟨(e j hj kj).trans (f1 j hj kj).1, (f1 j hj kj).2⟩, f2, f3⟩
/-- numbers made anew -/
theorem Rise.anew {M : Nat → Int32} {k : Nat} (hw : E.wf) (hn : ∀ j, j < E.n → E.kd j ≠ 2 → M (E.ord j) = nI (16 * fb_ct E.sol (j + 1))) : Rise M E k := by
  have hn60 := E.n_le hw
  refine ⟨fun j => 16 * fb_ct E.sol (j + 1), fun j hj kj => ⟨hn j hj kj, ?_⟩, fun i j hij hj ki kj => ?_, ?_⟩
  · have := fb_ct_le E.sol (j + 1)
    show 16 * fb_ct E.sol (j + 1) ≤ _
    omega
  · show 16 * fb_ct E.sol (i + 1) < 16 * fb_ct E.sol (j + 1)
    have h1 : fb_ct E.sol (j + 1) = fb_ct E.sol j + 1 := by rw [fb_ct_succ]; simp [Doc.sol, kj]
    have h2 : fb_ct E.sol (i + 1) ≤ fb_ct E.sol j := fb_ct_mono E.sol (by omega)
    omega
  · show 16 * fb_ct E.sol (0 + 1) = 16
    have h1 : fb_ct E.sol (0 + 1) = 1 := by
      rw [fb_ct_succ]
      simp [Doc.sol, E.kd_0 hw, fb_ct]
    rw [h1]
theorem Cor.tree (h : Cor S c di D m U P H Z X nw ed nv vt mv Dv) (k : Wr B1 B2 B3 B4 c c') (h1 : GT c' E M) (h2 : GN c' E) (h3 : GU c' E M U') (hm : m ≤ M) (hkd : ∀ v, v < m → c'.1 156 v = c.1 156 v) (pv : Nat → Nat) (hpv : ∀ k, k < nw → pv k < P.n ∧ c.1 150 k = nI (pv k) ∧ c.1 191 k = nI (pv k)) (h193 : ∀ k, k < nw → c'.2.1 193 k = E.V P (pv k)) (h152 : ∀ k, k < nw → c'.1 152 k = c'.1 192 k)
    (hF : ∃ r, r ≤ P.n ∧ FT c' 117 E P E.al r) (h18 : c'.2.2.1 0 18 = 1) {kq : Nat} (hq : GQ c' E Z kq) : InvE (di.1, kq, U'.n) (tc_mk S c') := by
  obtain ⟨g0, g1, g2, g3, g4, g5, g6, g7, g8, g9, g10⟩ := h
  obtain ⟨a1, a2, a3, a4, a5⟩ := g8
  have k150 : c'.1 150 = c.1 150 := k.1 150 (by omega)
  have k191 : c'.1 191 = c.1 191 := k.1 191 (by omega)
  have hv : GV c' E P nw := ⟨by rw [k.2.2.1 0 13 (by omega)]; exact a1, by rw [k.2.2.1 155 45 (by omega)]; exact a2, a3, fun j hj => ⟨pv j, (hpv j hj).1, by rw [k150]; exact (hpv j hj).2.1, by rw [k191]; exact (hpv j hj).2.2, h193 j hj⟩, h152⟩
  have hK : GK c' M nv vt mv Dv := by
    obtain ⟨h1, h2, h3, h4, h5⟩ := g9
    obtain ⟨-, -, -, -, -, -, -, -, hv, -⟩ := g0
    obtain ⟨k1, k2, k3, k4, k5⟩ := k
    refine ⟨by rw [k3 0 12 (by omega)]; exact h1, by rw [k3 155 49 (by omega)]; exact h2, h3, by rw [k5]; exact h4, fun j hj => ?_⟩
    obtain ⟨a1, a2, a3, a4, a5, a6, a7, a8⟩ := h5 j hj
    obtain ⟨-, v1, v2⟩ := hv j hj
    refine ⟨by rw [k5]; exact a1, a2, a3.pt (fun a _ _ => k1 a (by omega)) (fun a _ _ => k2 a (by omega)) (k3 _ _ (by omega)) (k4 _ _ (by omega)) (k4 _ _ (by omega)), a4.pt (fun a _ _ => k1 a (by omega)) (k3 _ _ (by omega)), by rw [k1 (vt j + 33) (by omega)]; exact a5, a6.pt (fun a _ _ => k1 a (by omega)), Nat.le_trans a7 hm, fun i hi => ?_⟩
    rw [hkd _ (Nat.lt_of_lt_of_le (a4.2.1 i hi) a7)]
    exact a8 i hi
  exact ⟨S, c', E, M, U', P, H, Z, X, nw, ed, nv, vt, mv, Dv, rfl, ⟨g0, h1, h2, h3, g4.wr k (fun a _ => by omega) (fun q k _ => by omega), g5.wr k (fun a _ => by omega) (fun q k _ => by omega) (fun q k _ => by omega), g6.wr k (fun a _ => by omega) (fun q k _ => by omega), g7.wr k (fun a _ => by omega) (fun q k _ => by omega), hv, hK, ⟨GE.wr (di := di) g0 g10.1 k (fun a _ => by omega), hq, rfl⟩⟩, hF, true, h18, fun e => by cases e⟩
end LDV
