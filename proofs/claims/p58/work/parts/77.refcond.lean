/-! ===== the reference finds: the conditions of a step ===== -/
section RC
variable {S : tq_H} {c c' : tc_C} {p k d m r z : Nat} {D : Doc} {P : Pat} {Q : Nat → Bool} {T : Nat → Nat → Nat → Bool}
/-- the first l spots that are looked at: from the front, or from behind -/
def seenB (back : Bool) (n l j : Nat) : Bool := if back then decide (n - l ≤ j) else decide (j < l)
/-- a row of nodes holds the members seen so far, by their places -/
def RowB (f : Nat → Int32) (D : Doc) (back : Bool) (X : Nat → Bool) (l : Nat) : Prop := ∀ j, j < D.n → X j = true → seenB back D.n l j = true → f (plc back X j - 1) = nI (D.ord j)
def cntB (D : Doc) (back : Bool) (X : Nat → Bool) (l : Nat) : Nat := if back then fb_ct X D.n - fb_ct X (D.n - l) else fb_ct X l
theorem plc_pos {back : Bool} {X : Nat → Bool} {j : Nat} (hj : j < 64) (h : X j = true) : 0 < plc back X j ∧ plc back X j ≤ fb_ct X 64 := by
  have h1 := fb_ct_mono X (show j + 1 ≤ 64 by omega)
  rw [fb_ct_succ, if_pos h] at h1
  unfold plc
  cases back <;> simp <;> omega
theorem ct64 (hw : D.wf) {X : Nat → Bool} (hX : ∀ j, X j = true → j < D.n) : fb_ct X 64 = fb_ct X D.n := by
  have hn := D.n_le hw
  refine ct_cut 64 (fun j hj => ?_) (by omega)
  cases h : X j with
  | false => rfl
  | true => have := hX j h; omega
theorem plc_inj {back : Bool} {X : Nat → Bool} {i j : Nat} (hi : i < 64) (hj : j < 64) (h1 : X i = true) (h2 : X j = true) (e : plc back X i = plc back X j) : i = j := by
  have a1 := fb_ct_mono X (show i + 1 ≤ 64 by omega)
  have a2 := fb_ct_mono X (show j + 1 ≤ 64 by omega)
  rw [fb_ct_succ, if_pos h1] at a1
  rw [fb_ct_succ, if_pos h2] at a2
  refine fb_ct_kth_one h1 h2 ?_
  unfold plc at e
  cases back <;> simp at e <;> omega
theorem plc_ex {back : Bool} {X : Nat → Bool} {t : Nat} (h : t < fb_ct X 64) : ∃ j, j < 64 ∧ X j = true ∧ plc back X j = t + 1 := by
  cases back with
  | false =>
    obtain ⟨j, h1, h2, h3⟩ := fb_ct_kth h
    exact ⟨j, h1, h2, by unfold plc; simp [h3]⟩
  | true =>
    obtain ⟨j, h1, h2, h3⟩ := fb_ct_kth (show fb_ct X 64 - 1 - t < fb_ct X 64 by omega)
    exact ⟨j, h1, h2, by unfold plc; simp [h3]; omega⟩
theorem row_loop (hM : tc_Mod S z) (hw : D.wf) (hO : ROrd c D) (X : Nat → Bool) (hX : ∀ j, X j = true → j < D.n) (back : Bool) (w1 w2 : Int32) :
    ∃ f, tq_loop (f_X11_stepped_b148 155 w1 (mkS (D.nodesOf X)) (bI back) w2) tq_N (0, 0, tc_mk S c) = some (nI (fb_ct X 64), tc_mk S (tc_I c 182 f)) ∧ RowB f D back X D.n := by
  have hn := D.n_le hw
  have h0 := D.n_pos hw
  obtain ⟨q1, q2, -⟩ := hO
  have W := tc_run (B := f_X11_stepped_b148 155 w1 (mkS (D.nodesOf X)) (bI back) w2) D.n (fun l f => (nI (cntB D back X l), nI l, tc_mk S (tc_I c 182 f))) (fun l f => RowB f D back X l) (fun f => (nI (cntB D back X D.n), tc_mk S (tc_I c 182 f))) (by omega) (fun l f hl hf => ?_) (fun f hf => ?_) (x := c.1 182) (fun j hj h1 h2 => ?_)
  · obtain ⟨f, v1, v2⟩ := W
    refine ⟨f, ?_, v2⟩
    rw [tc_I_self] at v1
    have e1 : cntB D back X 0 = 0 := by unfold cntB; cases back <;> simp [fb_ct]
    have e2 : cntB D back X D.n = fb_ct X 64 := by
      rw [ct64 hw hX]; unfold cntB; cases back <;> simp [fb_ct]
    rw [e1, e2] at v1
    exact v1
  · have hl2 : ¬ nI l ≥ nI D.n := nI_ge hl (by omega)
    let s := if back then D.n - 1 - l else l
    have hs : s < D.n := by show (if back then D.n - 1 - l else l) < D.n; split <;> omega
    have os := D.ord_lt hw hs
    have hcn : cntB D back X l ≤ l := by
      unfold cntB
      have h1 := fb_ct_le X l
      have h2 := fb_ct_split X (D.n - l) l
      have h3 := fb_ct_le (fun k => X (D.n - l + k)) l
      rw [show D.n - l + l = D.n by omega] at h2
      split <;> omega
    have hcs : cntB D back X (l + 1) = cntB D back X l + (if X s = true then 1 else 0) := by
      show _ = _ + (if X (if back then D.n - 1 - l else l) = true then 1 else 0)
      unfold cntB
      cases back with
      | false => simp [fb_ct_succ]
      | true =>
        have e1 : D.n - l = (D.n - (l + 1)) + 1 := by omega
        have e2 : D.n - 1 - l = D.n - (l + 1) := by omega
        have h1 := fb_ct_mono X (show D.n - (l + 1) + 1 ≤ D.n by omega)
        simp only [if_true, e2]
        rw [e1, fb_ct_succ] at *
        split <;> simp_all <;> omega
    have hpl : X s = true → plc back X s - 1 = cntB D back X l := fun hx => by
      have h64 := ct64 hw hX
      show plc back X (if back then D.n - 1 - l else l) - 1 = _
      unfold plc cntB
      cases back with
      | false => simp
      | true =>
        have hx' : X (D.n - 1 - l) = true := hx
        have e1 : D.n - l = (D.n - 1 - l) + 1 := by omega
        simp only [if_true]
        rw [h64, e1, fb_ct_succ, if_pos hx']
        omega
    have hpos : (if bI back = 0 then some (nI l) else some (nI D.n - 1 - nI l)) = some (nI s) := by
      show _ = some (nI (if back then D.n - 1 - l else l))
      cases back with
      | false => rfl
      | true =>
        rw [if_neg (by decide), if_pos rfl]
        have a1 : nI D.n - 1 = nI (D.n - 1) := pk_sub (show 1 ≤ D.n by omega)
        rw [a1, pk_sub (show l ≤ D.n - 1 by omega)]
    have hB : f_X11_stepped_b148 155 w1 (mkS (D.nodesOf X)) (bI back) w2 (nI (cntB D back X l), nI l, tc_mk S (tc_I c 182 f)) = some (.inl (nI (cntB D back X (l + 1)), nI (l + 1), tc_mk S (tc_I c 182 (if X s = true then upd f (cntB D back X l) (nI (D.ord s)) else f)))) := by
      dsimp only [f_X11_stepped_b148]
      simp (maxSteps := 3000000) (disch := omega) only [Option.bind_some, tc_bs, tq_let, tc_I1, tc_I2, tc_J1, tc_J2, tc_J3, tc_F1, tc_F2, tc_F3, tc_F4, tc_G1, tc_G2, tc_G3, tc_G4, tc_G5, tc_us, tc_un, s_one, s_holds, s_J13_bitCount, bz_bI, ↓reduceIte, hM.f, q1, hl2, hpos, q2 s hs, nodes_if hw X _ _ hs, nI_1]
      by_cases hx : X s = true
      · rw [if_pos hx, if_pos hx, Option.bind_some, tc_I_I, hcs, if_pos hx]
      · rw [if_neg hx, if_neg hx, Option.bind_some, hcs, if_neg hx]; rfl
    refine ⟨_, hB, fun j hj h1 h2 => ?_⟩
    by_cases hx : X s = true
    · rw [if_pos hx]
      unfold upd
      by_cases e : j = s
      · rw [e, if_pos (hpl hx)]
      · have hne : plc back X j - 1 ≠ cntB D back X l := fun w => by
          rw [← hpl hx] at w
          have p1 := (plc_pos (back := back) (show j < 64 by omega) h1).1
          have p2 := (plc_pos (back := back) (show s < 64 by omega) hx).1
          exact e (plc_inj (back := back) (by omega) (by omega) h1 hx (by omega))
        rw [if_neg hne]
        refine hf j hj h1 ?_
        have e' : j ≠ (if back then D.n - 1 - l else l) := e
        unfold seenB at h2 ⊢
        cases back <;> simp at h2 e' ⊢ <;> omega
    · rw [if_neg hx]
      refine hf j hj h1 ?_
      have e' : j ≠ (if back then D.n - 1 - l else l) := fun w => hx (by rw [show s = j from w.symm]; exact h1)
      unfold seenB at h2 ⊢
      cases back <;> simp at h2 e' ⊢ <;> omega
  · dsimp only [f_X11_stepped_b148]
    simp (maxSteps := 3000000) (disch := omega) only [Option.bind_some, tc_bs, tq_let, tc_I1, tc_I2, tc_J1, tc_J2, tc_J3, tc_F1, tc_F2, tc_F3, tc_F4, tc_G1, tc_G2, tc_G3, tc_G4, tc_G5, tc_us, tc_un, s_one, s_holds, s_J13_bitCount, bz_bI, hM.f, q1]
    rw [if_pos (Int32.le_refl _)]
  · exfalso
    unfold seenB at h2
    cases back <;> simp at h2 <;> omega
/-- what a condition leaves, by holds -/
theorem hld_cnd {back : Bool} {x : Nat} {X : Nat → Bool} (hx64 : fb_ct X 64 < 2 ^ 31) {j : Nat} (hj : j < 64) : D.cnd P Q T back x X j = (X j && D.hld P Q T x j (plc back X j) (fb_ct X 64)) := by
  unfold Doc.cnd Doc.hld
  by_cases a : P.cw x = 0
  · rw [if_pos a, if_pos a]
  · by_cases b : P.cw x = 1
    · rw [if_neg a, if_pos b, if_neg a, if_pos b]
      cases hX : X j with
      | false => rfl
      | true =>
        have h1 := fb_ct_mono X (show j + 1 ≤ 64 by omega)
        rw [fb_ct_succ, if_pos hX] at h1
        have hp : plc back X j < 2 ^ 31 := by unfold plc; cases back <;> simp <;> omega
        unfold agr
        rw [if_pos rfl]
        congr 1
        exact decide_eq_decide.mpr (nI_eq hp hx64)
    · rw [if_neg a, if_neg b, if_neg a, if_neg b]
theorem filter_loop (hM : tc_Mod S z) (hw : D.wf) (hR : RTree c D m) (hO : ROrd c D) (hC : PR c P) (hP : P.wf) (hp : p < P.n) (hk : k < P.sc p) (hd : d < P.cc (5 * p + k)) (hT : RT c D T p) (hQ : c.2.2.2.1 155 31 = mkS (D.nodesOf Q)) {X : Nat → Bool} (hX : ∀ j, X j = true → j < D.n) {back : Bool} (hf : RowB (c.1 182) D back X D.n) (w1 : Int32) :
    tq_loop (f_X11_stepped_b216 155 (nI (5 * p + k)) w1 (nI d) (nI (fb_ct X 64)) (tc_mk S c)) tq_N (mkS (D.nodesOf X), 0) = some (mkS (D.nodesOf (D.cnd P Q T back (2 * (5 * p + k) + d) X))) := by
  have hn := D.n_le hw
  have h64 := ct64 hw hX
  have hle := fb_ct_le X D.n
  have hh := fun j pl al (hj : j < D.n) (hpl : pl < 100) (hal : al < 100) => s_X11_holds (z := z) hM hw hR hO hC hP hp hk hd hT hQ (j := j) (pl := pl) (al := al) hj hpl hal
  have e4 : (4 : Int32) * ((2 : Int32) * nI (5 * p + k) + nI d) = nI (4 * (2 * (5 * p + k) + d)) := by
    rw [show (2 : Int32) = nI 2 from rfl, nI_mul, nI_add, show (4 : Int32) = nI 4 from rfl, nI_mul]
  have W := tc_scan (B := f_X11_stepped_b216 155 (nI (5 * p + k)) w1 (nI d) (nI (fb_ct X 64)) (tc_mk S c)) (fb_ct X 64) (fun t => mkS (D.nodesOf (fun j => X j && (decide (t < plc back X j) || D.hld P Q T (2 * (5 * p + k) + d) j (plc back X j) (fb_ct X 64))))) (e := mkS (D.nodesOf (D.cnd P Q T back (2 * (5 * p + k) + d) X))) (by omega) (fun t ht => ?_) ?_
  · have e0 : mkS (D.nodesOf (fun j => X j && (decide (0 < plc back X j) || D.hld P Q T (2 * (5 * p + k) + d) j (plc back X j) (fb_ct X 64)))) = mkS (D.nodesOf X) := congrArg mkS (D.nodesOf_cong fun j hj => by
      cases h : X j with
      | false => rfl
      | true => simp [(plc_pos (back := back) (show j < 64 by omega) h).1])
    rw [e0] at W
    exact W
  · obtain ⟨j, hj, h1, h2⟩ := plc_ex (back := back) ht
    have hjn := hX j h1
    have hrow := hf j hjn h1 (by unfold seenB; cases back <;> simp <;> omega)
    rw [h2, Nat.add_sub_cancel] at hrow
    have oj := D.ord_lt hw hjn
    have hl2 : ¬ nI t ≥ nI (fb_ct X 64) := nI_ge ht (by omega)
    dsimp only [f_X11_stepped_b216]
    have hhj := hh j (t + 1) (fb_ct X 64) hjn (by omega) (by omega)
    simp (maxSteps := 3000000) (disch := omega) only [Option.bind_some, tc_bs, tq_let, tc_I1, tc_I2, tc_J1, tc_J2, tc_J3, tc_F1, tc_F2, tc_F3, tc_F4, tc_G1, tc_G2, tc_G3, tc_G4, tc_G5, tc_us, tc_un, s_one, s_holds, s_J13_bitCount, bz_bI, ↓reduceIte, hM.f, hl2, show t < 60 from by omega, hrow, e4, nI_1, hhj, b1_sh (show D.ord j < 64 by omega)]
    have hstep : ∀ b, D.hld P Q T (2 * (5 * p + k) + d) j (t + 1) (fb_ct X 64) = b → mkS (D.nodesOf (fun j => X j && (decide (t + 1 < plc back X j) || D.hld P Q T (2 * (5 * p + k) + d) j (plc back X j) (fb_ct X 64)))) = mkS (D.nodesOf (fun i => (X i && (decide (t < plc back X i) || D.hld P Q T (2 * (5 * p + k) + d) i (plc back X i) (fb_ct X 64))) && (b || !decide (i = j)))) := fun b hb => congrArg mkS (D.nodesOf_cong fun i hi => by
      cases hXi : X i with
      | false => rfl
      | true =>
        by_cases e : i = j
        · subst e
          rw [h2, hb]; simp
        · have : (t + 1 < plc back X i) ↔ t < plc back X i := by
            refine ⟨fun q => by omega, fun q => ?_⟩
            rcases Nat.lt_or_ge (t + 1) (plc back X i) with r | r
            · exact r
            · exact absurd (plc_inj (back := back) (by omega) hj hXi h1 (by omega)) e
          simp [e, this])
    cases hb : D.hld P Q T (2 * (5 * p + k) + d) j (t + 1) (fb_ct X 64) with
    | false =>
      rw [if_pos (by decide), Option.bind_some, hstep _ hb]
      have e1 : b1 (D.ord j) ^^^ (-1) = mkS (fun v => !decide (v = D.ord j)) := by rw [mkS_b1, mkS_not]
      rw [e1, mkS_and]
      refine congrArg (fun y => (some (Sum.inl (y, nI (t + 1))) : Option ((Int64 × Int32) ⊕ Int64))) (mkS_cong fun v _ => ?_)
      apply Bool.ext_iff
      rw [Bool.and_eq_true]
      constructor
      · rintro ⟨g1, g2⟩
        obtain ⟨s, hs, rfl, g3⟩ := D.nodesOf_in _ g1
        rw [D.nodesOf_at hw _ hs]
        have : s ≠ j := fun q => by subst q; simp at g2
        rw [g3]; simp [this]
      · intro g
        obtain ⟨s, hs, rfl, g3⟩ := D.nodesOf_in _ g
        rw [D.nodesOf_at hw _ hs]
        simp only [Bool.false_or, Bool.and_eq_true, Bool.not_eq_true', decide_eq_false_iff_not] at g3 ⊢
        refine ⟨by simpa using g3.1, fun q => g3.2 (D.ord_inj hw hs hjn q)⟩
    | true =>
      rw [if_neg (by decide), Option.bind_some, hstep _ hb]
      have e1 : ∀ x : Int64, x &&& (-1) = x := fun x => tb_ext fun j hj => by rw [tb_and, tb_m1]; simp [hj]
      rw [e1]
      refine congrArg (fun y => (some (Sum.inl (y, nI (t + 1))) : Option ((Int64 × Int32) ⊕ Int64))) (congrArg mkS (D.nodesOf_cong fun i _ => ?_))
      simp
  · dsimp only [f_X11_stepped_b216]
    rw [if_pos (Int32.le_refl _)]
    refine congrArg (fun y => (some (Sum.inr y) : Option ((Int64 × Int32) ⊕ Int64))) (congrArg mkS (D.nodesOf_cong fun j hj => ?_))
    rw [hld_cnd (by omega) (by omega)]
    cases h : X j with
    | false => rfl
    | true =>
      have := (plc_pos (back := back) (show j < 64 by omega) h).2
      simp [show ¬ fb_ct X 64 < plc back X j by omega]
theorem bck_if {a : Nat} (ha : a < 13) : (if nI a = 2 then (1 : Int32) else if nI a = 5 then 1 else if nI a = 6 then 1 else if nI a = 8 then 1 else if nI a = 10 then 1 else 0) = bI (bck a) := by
  have hc : a = 0 ∨ a = 1 ∨ a = 2 ∨ a = 3 ∨ a = 4 ∨ a = 5 ∨ a = 6 ∨ a = 7 ∨ a = 8 ∨ a = 9 ∨ a = 10 ∨ a = 11 ∨ a = 12 := by omega
  rcases hc with rfl | rfl | rfl | rfl | rfl | rfl | rfl | rfl | rfl | rfl | rfl | rfl | rfl <;> rfl
theorem PR.kp {lo hi : Nat} (h : PR c P) (k : Kp lo hi c c') (hd : 179 ≤ lo) : PR c' P := by
  obtain ⟨k1, k2, k3, k4, -⟩ := k
  unfold PR
  rw [k1 175 (by omega), k1 176 (by omega), k1 177 (by omega), k1 178 (by omega), k3 155 (by omega)]
  exact h
theorem RT.kp {lo hi : Nat} (h : RT c D T r) (k : Kp lo hi c c') (hd : hi ≤ 179 ∨ 180 ≤ lo) : RT c' D T r := by
  intro p i h1 h2
  rw [k.2.1 179 (by omega)]
  exact h p i h1 h2
/-- a step from a node, by the reference -/
theorem s_X11_stepped (hM : tc_Mod S z) (hw : D.wf) (hR : RTree c D m) (hO : ROrd c D) (hC : PR c P) (hP : P.wf) (hp : p < P.n) (hk : k < P.sc p) (hT : RT c D T p) (hTn : ∀ q i j, T q i j = true → j < D.n) (hQ : c.2.2.2.1 155 31 = mkS (D.nodesOf Q)) {i : Nat} (hi : i < D.n) :
    ∃ f, f_X11_stepped 155 (nI (5 * p + k)) (nI (D.ord i)) (tc_mk S c) = some (mkS (D.nodesOf (D.stp P Q T (5 * p + k) i)), tc_mk S (tc_I c 182 f)) := by
  have h20 := hP.1
  have hn := D.n_le hw
  obtain ⟨hax, hts, hby, hcc, -⟩ := hP.2.2 p k hp hk
  obtain ⟨g1, g2, g3, g4, y, g5⟩ := pr_step (S := S) (c := c) hM hC hP hp hk
  have hy : P.ax (5 * p + k) = 12 → y = nI (P.by (5 * p + k)) := fun h => by
    have := g3 h
    rw [g5] at this
    exact Option.some.inj this
  have hA := s_X11_axisQ hM hw hR hO hi hQ hT (by omega) hTn (show P.ax (5 * p + k) < 13 by omega) hby hy
  have hX : ∀ j, (((if P.ax (5 * p + k) = 12 then D.rep (T (P.by (5 * p + k))) i j else D.ax (P.ax (5 * p + k)) i j) && Q j) && D.tst (P.ts (5 * p + k)) j) = true → True := fun _ _ => trivial
  have hB := test_loop hM hw hR hO hC hP hp hk (fun j => (if P.ax (5 * p + k) = 12 then D.rep (T (P.by (5 * p + k))) i j else D.ax (P.ax (5 * p + k)) i j) && Q j) (nI (P.ax (5 * p + k)))
  have hbas : mkS (D.nodesOf (fun j => ((if P.ax (5 * p + k) = 12 then D.rep (T (P.by (5 * p + k))) i j else D.ax (P.ax (5 * p + k)) i j) && Q j) && D.tst (P.ts (5 * p + k)) j)) = mkS (D.nodesOf (D.bas P Q T (5 * p + k) i)) := congrArg mkS (D.nodesOf_cong fun j hj => by
    unfold Doc.bas
    generalize (if P.ax (5 * p + k) = 12 then D.rep (T (P.by (5 * p + k))) i j else D.ax (P.ax (5 * p + k)) i j) = u
    cases u <;> cases Q j <;> simp [hj])
  rw [hbas] at hB
  have kI := fun f => Kp.I (c := c) (a := 182) (lo := 182) (hi := 183) f (by omega) (by omega)
  obtain ⟨f, v1, -⟩ := tc_run (B := f_X11_stepped_b131 155 (nI (5 * p + k)) (bI (bck (P.ax (5 * p + k))))) (P.cc (5 * p + k)) (fun d f => (mkS (D.nodesOf (D.cds P Q T (5 * p + k) (D.bas P Q T (5 * p + k) i) d)), nI d, tc_mk S (tc_I c 182 f))) (fun _ _ => True) (fun f => (mkS (D.nodesOf (D.stp P Q T (5 * p + k) i)), tc_mk S (tc_I c 182 f))) (by omega) (fun d f hd _ => by
    have hO' := hO.kp (kI f) (by omega)
    have hXd : ∀ j, D.cds P Q T (5 * p + k) (D.bas P Q T (5 * p + k) i) d j = true → j < D.n := fun j h => Doc.cds_lt h
    obtain ⟨f', w1, w2⟩ := row_loop hM hw hO' (D.cds P Q T (5 * p + k) (D.bas P Q T (5 * p + k) i) d) hXd (bck (P.ax (5 * p + k))) (nI (5 * p + k)) (nI d)
    rw [tc_I_I] at w1
    have hF := filter_loop hM hw (hR.kp (kI f') (by omega)) (hO.kp (kI f') (by omega)) (hC.kp (kI f') (by omega)) hP hp hk hd (hT.kp (kI f') (by omega)) (Q := Q) hQ hXd (back := bck (P.ax (5 * p + k))) (by rw [tc_I1, tc_us]; exact w2) (bI (bck (P.ax (5 * p + k))))
    refine ⟨f', ?_, trivial⟩
    have hl2 : ¬ nI d ≥ nI (P.cc (5 * p + k)) := nI_ge hd (by omega)
    have gg := (pr_step (S := S) (c := tc_I c 182 f) hM (hC.kp (kI f) (by omega)) hP hp hk).2.2.2.1
    have gr : tq_gr (tc_mk S (tc_I c 182 f)) 155 11 27 = some 177 := by simp (maxSteps := 3000000) (disch := omega) only [Option.bind_some, tc_bs, tq_let, tc_I1, tc_I2, tc_J1, tc_J2, tc_J3, tc_F1, tc_F2, tc_F3, tc_F4, tc_G1, tc_G2, tc_G3, tc_G4, tc_G5, tc_us, tc_un, s_one, s_holds, s_J13_bitCount, bz_bI, hM.f]
    dsimp only [f_X11_stepped_b131]
    rw [gr, Option.bind_some, gg, Option.bind_some, if_neg hl2, w1, Option.bind_some]
    dsimp only
    rw [hF, Option.bind_some]
    simp only [tq_let, nI_1]
    rfl) (fun f _ => by
    have gg := (pr_step (S := S) (c := tc_I c 182 f) hM (hC.kp (kI f) (by omega)) hP hp hk).2.2.2.1
    have gr : tq_gr (tc_mk S (tc_I c 182 f)) 155 11 27 = some 177 := by simp (maxSteps := 3000000) (disch := omega) only [Option.bind_some, tc_bs, tq_let, tc_I1, tc_I2, tc_J1, tc_J2, tc_J3, tc_F1, tc_F2, tc_F3, tc_F4, tc_G1, tc_G2, tc_G3, tc_G4, tc_G5, tc_us, tc_un, s_one, s_holds, s_J13_bitCount, bz_bI, hM.f]
    dsimp only [f_X11_stepped_b131]
    rw [gr, Option.bind_some, gg, Option.bind_some, if_pos (Int32.le_refl _)]
    rfl) (x := c.1 182) trivial
  rw [tc_I_self] at v1
  refine ⟨f, ?_⟩
  have gr : tq_gr (tc_mk S c) 155 11 26 = some 176 := by simp (maxSteps := 3000000) (disch := omega) only [Option.bind_some, tc_bs, tq_let, tc_I1, tc_I2, tc_J1, tc_J2, tc_J3, tc_F1, tc_F2, tc_F3, tc_F4, tc_G1, tc_G2, tc_G3, tc_G4, tc_G5, tc_us, tc_un, s_one, s_holds, s_J13_bitCount, bz_bI, hM.f]
  have gi : tq_is (tc_mk S c) 155 11 = some () := by simp (maxSteps := 3000000) (disch := omega) only [Option.bind_some, tc_bs, tq_let, tc_I1, tc_I2, tc_J1, tc_J2, tc_J3, tc_F1, tc_F2, tc_F3, tc_F4, tc_G1, tc_G2, tc_G3, tc_G4, tc_G5, tc_us, tc_un, s_one, s_holds, s_J13_bitCount, bz_bI, hM.f]
  unfold f_X11_stepped
  rw [gr]
  simp only [Option.bind_some]
  rw [g1]
  simp only [Option.bind_some]
  rw [g5]
  simp only [Option.bind_some]
  rw [gi]
  simp only [Option.bind_some]
  rw [hA]
  simp only [Option.bind_some]
  rw [hB]
  simp only [Option.bind_some, tq_let]
  rw [bck_if (by omega)]
  exact (congrArg (fun o => Option.bind o fun o45 => some (o45.1, o45.2)) v1).trans rfl
end RC
