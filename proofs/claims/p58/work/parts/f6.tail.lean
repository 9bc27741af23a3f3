/-! ===== a version is kept, compared with itself, and taken again ===== -/
theorem dpF_self {f : Nat → Nat} {co : Nat → Nat → Nat} (hc : ∀ i, co i i = 0) : ∀ (k l a : Nat), a - l ≤ k → dpF f f co l l a a = 0 := by
  intro k
  induction k with
  | zero => intro l a h; rw [dpF_0 (by omega)]; omega
  | succ k ih =>
    intro l a h
    rw [dpF]
    by_cases q1 : a ≤ l
    · rw [if_pos q1]; omega
    · rw [if_neg q1, if_neg q1]
      by_cases q3 : l ≤ f (a - 1) ∧ f (a - 1) < a ∧ l ≤ f (a - 1) ∧ f (a - 1) < a
      · rw [dif_pos q3]
        have e : (if f (a - 1) = l ∧ f (a - 1) = l then dpF f f co l l (a - 1) (a - 1) + co (a - 1) (a - 1) else dpF f f co l l (f (a - 1)) (f (a - 1)) + dpF f f co (f (a - 1)) (f (a - 1)) a a) = 0 := by
          by_cases q4 : f (a - 1) = l
          · rw [if_pos ⟨q4, q4⟩, ih l (a - 1) (by omega), hc]
          · rw [if_neg (fun z => q4 z.1), ih l (f (a - 1)) (by omega), ih (f (a - 1)) a (by omega)]
        rw [e]
        omega
      · rw [dif_neg q3]
theorem dist_self (D : Doc) : dist D D = 0 := by
  unfold dist
  rw [dpF_self (fun i => by unfold Doc.co; rw [if_pos ⟨rfl, rfl, rfl, rfl⟩]) _ 0 D.n (Nat.le_refl _)]
  rfl
theorem dif_self (D : Doc) (v : Nat) : D.dif D v = false := by
  unfold Doc.dif Doc.sam
  simp
section TAI
variable {S : tq_H} {c c' d : tc_C} {di : DI} {D : Doc} {m : Nat} {U : Ups} {P : Pat} {H : Nat → Bool} {Z : Sma} {X : Nat → Bool} {nw : Nat} {ed : Option Nat} {nv : Nat} {vt mv : Nat → Nat} {Dv : Nat → Doc} {i j k p n : Nat} {v x x1 x2 : Int32}
theorem keep_x (hC : Cor S c di D m U P H Z X nw ed nv vt mv Dv) (hF : GF c D P H) (q : nv < 6) :
    ∃ S' c2 w, f_X10_keep 0 (tc_mk S c) = some (.inr (nI nv), tc_mk S' c2) ∧ St (tc_mk S' c2) (tc_mk S' w) ∧
      Cor S' w di D m U P H Z X nw ed (nv + 1) (fun k => if k < nv then vt k else S.1) (fun k => if k < nv then mv k else m) (fun k => if k < nv then Dv k else D) ∧ GF w D P H := by
  obtain ⟨v1, v2, v3, v4, v5⟩ := hC.gk
  have hN := hC.1.2.2.2.2.2.2.2.1
  obtain ⟨c1, a1, o, a2, a3, a4⟩ := hC.keepC q
  obtain ⟨S', eS⟩ : ∃ S', S' = hl S (treeB S.1) := ⟨_, rfl⟩
  rw [← eS] at a1
  have hS : SH S' ed (nv + 1) (fun k => if k < nv then vt k else S.1) := by rw [eS]; exact SH_keep hC.1
  obtain ⟨c2, e2⟩ : ∃ c2, c2 = tc_F (tc_R c1 148 (va_up (c.2.2.2.2 148) nv (some S.1))) 0 12 (nI (nv + 1)) := ⟨_, rfl⟩
  rw [← e2] at a1
  have d1 : ∀ a, a < S.1 → c2.1 a = c.1 a := fun a ha => by rw [e2]; exact o.1 a ha
  have d2 : ∀ a, a < S.1 → c2.2.1 a = c.2.1 a := fun a ha => by rw [e2]; exact o.2.1 a ha
  have d3 : ∀ a k, a < S.1 → ¬ (a = 0 ∧ k = 12) → c2.2.2.1 a k = c.2.2.1 a k := fun a k ha hk => by
    rw [e2, tc_F3]
    by_cases w : a = 0
    · subst w; rw [tc_us, tc_un _ _ (by omega)]; exact congrFun (o.2.2.1 0 ha) k
    · rw [tc_un _ _ w]; exact congrFun (o.2.2.1 a ha) k
  have d4 : ∀ a, a < S.1 → c2.2.2.2.1 a = c.2.2.2.1 a := fun a ha => by rw [e2]; exact o.2.2.2.1 a ha
  have hR : RTree (ansC c2 (nI nv).toInt64) D m := by
    have g := hC.gt.2.2.2.1
    unfold RTree at g ⊢
    rw [show (ansC c2 (nI nv).toInt64).1 = c2.1 from rfl, show (ansC c2 (nI nv).toInt64).2.2.1 = c2.2.2.1 from rfl, d1 163 (by omega), d1 156 (by omega), d1 157 (by omega), d1 158 (by omega), d1 159 (by omega), d1 160 (by omega), d1 161 (by omega), d3 155 1 (by omega) (by omega)]
    exact g
  have h49 : (ansC c2 (nI nv).toInt64).2.2.1 155 49 = nI nv := (d3 155 49 (by omega) (by omega)).trans v2
  obtain ⟨w, w1, w2, w3, w4, w5, w6⟩ := r_keep hS.2.2.2.2.2.2.1 hC.gt.1.1 hR h49 q
  obtain ⟨y1, y2, y3, y4', y5⟩ := w4
  have s1' : ∀ a, ¬ kw1 S.1 a → w.1 a = c.1 a := fun a ha => (y1 a (by omega)).trans (d1 a (by omega))
  have s3' : ∀ q k, ¬ kw3 S.1 q k → w.2.2.1 q k = c.2.2.1 q k := fun q k ha => (y3 q k (by omega)).trans (d3 q k (by omega) (by omega))
  have s4' : ∀ q k, ¬ kw4 S.1 q k → w.2.2.2.1 q k = c.2.2.2.1 q k := fun q k ha => (y4' q k (fun z => z)).trans (congrFun (d4 q (by omega)) k)
  have s2' : ∀ a, ¬ kw2 S.1 a → w.2.1 a = c.2.1 a := fun a ha => by
    rw [y2 a (fun z => z)]; unfold ansC; rw [tc_J2, tc_un _ _ (by omega)]; exact d2 a (by omega)
  have t1 : ∀ a, S.1 ≤ a → w.1 a = c1.1 a := fun a ha => by rw [y1 a (by omega), e2]; rfl
  have t2 : ∀ a, S.1 ≤ a → w.2.1 a = c1.2.1 a := fun a ha => by rw [y2 a (fun z => z)]; unfold ansC; rw [tc_J2, tc_un _ _ (by omega), e2]; rfl
  have t3 : ∀ a k, S.1 ≤ a → w.2.2.1 a k = c1.2.2.1 a k := fun a k ha => by
    rw [y3 a k (by omega)]; show c2.2.2.1 a k = _; rw [e2, tc_F3, tc_un _ _ (by omega)]; rfl
  have t4 : ∀ a k, S.1 ≤ a → w.2.2.2.1 a k = c1.2.2.2.1 a k := fun a k ha => by rw [y4' a k (fun z => z), e2]; rfl
  refine ⟨hl S (treeB S.1), c2, w, by rw [← eS]; exact a1, ⟨rfl, fun p hp => ?_⟩, ?_⟩
  · show tc_ob w p _ = tc_ob c2 p _
    refine tc_ob_c5 _ (y1 p (by omega)) ?_ (funext fun k => y3 p k (by omega)) (funext fun k => y4' p k (fun z => z)) (congrFun y5 p)
    rw [y2 p (fun z => z)]
    unfold ansC
    rw [tc_J2, tc_un _ _ (by omega)]
  · refine hC.kept hF q s1' s2' s3' s4' ?_ (a2.pt (fun a _ _ => t1 a (by omega)) (fun a _ _ => t2 a (by omega)) (t3 _ _ (by omega)) (t4 _ _ (by omega)) (t4 _ _ (by omega))) (a3.pt (fun a _ _ => t1 a (by omega)) (t3 _ _ (by omega))) (by rw [t1 (S.1 + 33) (by omega)]; exact a4) w2 (fun k Dk hk hw hK => w3 k Dk hk hw ?_) ?_ w5
    · rw [y5]; show c2.2.2.2.2 148 = _; rw [e2]; exact tc_us c1.2.2.2.2 148 _
    · exact hK.pt fun a h1 h2 => d1 a (by omega)
    · rw [y3 0 12 (by omega)]; show c2.2.2.1 0 12 = _; rw [e2, tc_F3, tc_us, tc_us]
theorem keep_6 (hC : Cor S c di D m U P H Z X nw ed nv vt mv Dv) (q : ¬ nv < 6) : f_X10_keep 0 (tc_mk S c) = some (.inl "java/lang/IllegalStateException", tc_mk S c) := by
  obtain ⟨v1, v2, v3, v4, v5⟩ := hC.gk
  have e6 : nv = 6 := by omega
  have x2 : tq_an (tc_mk S c) 148 = some 6 := by obtain ⟨-, ⟨g, t1⟩, -⟩ := hC.tq; exact tc_an t1 (by decide)
  have q0 : ¬ nI 6 < 0 := by decide
  have q1 : ¬ nI 6 < 6 := by decide
  subst e6
  simp (maxSteps := 3000000) (disch := omega) only [Option.bind_some, tc_bs, tq_let, tc_I1, tc_I2, tc_J1, tc_J2, tc_J3, tc_F1, tc_F2, tc_F3, tc_F4, tc_G1, tc_G2, tc_G3, tc_G4, tc_G5, tc_us, tc_un, s_one, s_holds, s_J13_bitCount, bz_bI, f_X10_keep, hC.tq.f, v1, q0, x2, q1, if_false]
theorem dist_x {kq : Nat × Nat} (hC : Cor S c (dist, kq) D m U P H Z X nw ed nv vt mv Dv) (hF : GF c D P H) (q1 : 0 ≤ x1 ∧ x1 < nI nv) :
    ∃ S' c' ed', f_X10_distance 0 x1 x1 (tc_mk S c) = some (.inr 0, tc_mk S' c') ∧ Cor S' c' (dist, kq) D m U P H Z X nw ed' nv vt mv Dv ∧ GF c' D P H := by
  have n10 : ¬ (1 : Int32) = 0 := by decide
  have i0 : ∀ {S c ed}, tc_Tq S ed → tq_is (tc_mk S c) 0 10 = some () := fun h => tc_is h.1
  obtain ⟨v1, v2, v3, v4, v5⟩ := hC.gk
  obtain ⟨i, hi, hi6, rfl, l1, r1⟩ := hC.ver q1
  have d0 := dist_self (Dv i)
  cases ed with
  | none =>
    obtain ⟨S', c', a1, a2, a3⟩ := hC.edits hF
    obtain ⟨b1, b2, c1, c2, b3, b4, b5, b6⟩ := cor_known (i := i) (j := i) a2 a3 hi hi
    have g0 : tq_gq (tc_mk S c) 0 10 11 = some none := tc_gqN hC.tq.1 rfl
    have g1 : ∀ c, tq_gq (tc_mk S' c) 0 10 11 = some (some S.1) := fun _ => tc_gq a2.tq.1 rfl
    have i1 : ∀ c, tq_is (tc_mk S' c) S.1 1 = some () := fun c => by
      obtain ⟨-, -, -, -, -, -, -, -, -, -, hed⟩ := a2.1
      exact tc_is (hed S.1 rfl).1.1
    have run : ∀ {w : Int32} {c3 : tc_C}, (if c'.1 (S.1 + 14) (6 * i + i) = -1 then w = dist (Dv i) (Dv i) ∧ c3 = c2 else w = c'.1 (S.1 + 14) (6 * i + i) ∧ c3 = c') → f_X10_distance 0 (nI i) (nI i) (tc_mk S c) = some (.inr w, tc_mk S' c3) := fun {w c3} hw => by
      obtain ⟨u, a4, a5⟩ := Option.bind_eq_some_iff.mp a1
      by_cases z : c'.1 (S.1 + 14) (6 * i + i) = -1
      · rw [if_pos z] at hw
        rw [hw.1, hw.2]
        rw [z] at b1
        simp (maxSteps := 3000000) (disch := omega) only [Option.bind_some, tc_bs, tq_let, tc_I1, tc_I2, tc_J1, tc_J2, tc_J3, tc_F1, tc_F2, tc_F3, tc_F4, tc_G1, tc_G2, tc_G3, tc_G4, tc_G5, tc_us, tc_un, s_one, s_holds, s_J13_bitCount, bz_bI, f_X10_distance, i0 hC.tq, l1, tb_r, g0]
        rw [show (tc_mk S c).1 = S.1 from rfl, a4]
        simp only [Option.bind_some]
        rw [a5]
        simp (maxSteps := 3000000) (disch := omega) only [Option.bind_some, tc_bs, tq_let, tc_I1, tc_I2, tc_J1, tc_J2, tc_J3, tc_F1, tc_F2, tc_F3, tc_F4, tc_G1, tc_G2, tc_G3, tc_G4, tc_G5, tc_us, tc_un, s_one, s_holds, s_J13_bitCount, bz_bI, g1, i1, b1, b3, b4, if_true]
      · rw [if_neg z] at hw
        rw [hw.1, hw.2]
        simp (maxSteps := 3000000) (disch := omega) only [Option.bind_some, tc_bs, tq_let, tc_I1, tc_I2, tc_J1, tc_J2, tc_J3, tc_F1, tc_F2, tc_F3, tc_F4, tc_G1, tc_G2, tc_G3, tc_G4, tc_G5, tc_us, tc_un, s_one, s_holds, s_J13_bitCount, bz_bI, f_X10_distance, i0 hC.tq, l1, tb_r, g0]
        rw [show (tc_mk S c).1 = S.1 from rfl, a4]
        simp only [Option.bind_some]
        rw [a5]
        simp (maxSteps := 3000000) (disch := omega) only [Option.bind_some, tc_bs, tq_let, tc_I1, tc_I2, tc_J1, tc_J2, tc_J3, tc_F1, tc_F2, tc_F3, tc_F4, tc_G1, tc_G2, tc_G3, tc_G4, tc_G5, tc_us, tc_un, s_one, s_holds, s_J13_bitCount, bz_bI, g1, i1, b1, z, if_false]
    by_cases z : c'.1 (S.1 + 14) (6 * i + i) = -1
    · refine ⟨S', c2, some S.1, ?_, b5, b6⟩
      have := run (w := dist (Dv i) (Dv i)) (c3 := c2) (by rw [if_pos z]; exact ⟨rfl, rfl⟩)
      rw [d0] at this
      exact this
    · refine ⟨S', c', some S.1, ?_, a2, a3⟩
      have := run (w := dist (Dv i) (Dv i)) (c3 := c') (by rw [if_neg z]; exact ⟨(b2 z).symm, rfl⟩)
      rw [d0] at this
      exact this
  | some q =>
    obtain ⟨b1, b2, c1, c2, b3, b4, b5, b6⟩ := cor_known (i := i) (j := i) hC hF hi hi
    have g1 : ∀ c, tq_gq (tc_mk S c) 0 10 11 = some (some q) := fun _ => tc_gq hC.tq.1 rfl
    have i1 : ∀ c, tq_is (tc_mk S c) q 1 = some () := fun c => by
      obtain ⟨-, -, -, -, -, -, -, -, -, -, hed⟩ := hC.1
      exact tc_is (hed q rfl).1.1
    by_cases z : c.1 (q + 14) (6 * i + i) = -1
    · refine ⟨S, c2, some q, ?_, b5, b6⟩
      rw [z] at b1
      have : f_X10_distance 0 (nI i) (nI i) (tc_mk S c) = some (.inr (dist (Dv i) (Dv i)), tc_mk S c2) := by
        simp (maxSteps := 3000000) (disch := omega) only [Option.bind_some, tc_bs, tq_let, tc_I1, tc_I2, tc_J1, tc_J2, tc_J3, tc_F1, tc_F2, tc_F3, tc_F4, tc_G1, tc_G2, tc_G3, tc_G4, tc_G5, tc_us, tc_un, s_one, s_holds, s_J13_bitCount, bz_bI, f_X10_distance, i0 hC.tq, l1, tb_r, g1, i1, b1, b3, b4, if_true]
      rw [d0] at this
      exact this
    · refine ⟨S, c, some q, ?_, hC, hF⟩
      rw [b2 z] at b1
      have zz : ¬ dist (Dv i) (Dv i) = -1 := fun w => z ((b2 z).trans w)
      have : f_X10_distance 0 (nI i) (nI i) (tc_mk S c) = some (.inr (dist (Dv i) (Dv i)), tc_mk S c) := by
        simp (maxSteps := 3000000) (disch := omega) only [Option.bind_some, tc_bs, tq_let, tc_I1, tc_I2, tc_J1, tc_J2, tc_J3, tc_F1, tc_F2, tc_F3, tc_F4, tc_G1, tc_G2, tc_G3, tc_G4, tc_G5, tc_us, tc_un, s_one, s_holds, s_J13_bitCount, bz_bI, f_X10_distance, i0 hC.tq, l1, tb_r, g1, i1, b1, zz, if_false]
      rw [d0] at this
      exact this
theorem odds_x (hC : Cor S c di D m U P H Z X nw ed nv vt mv Dv) (q1 : 0 ≤ x1 ∧ x1 < nI nv) : f_X10_odds 0 x1 x1 x1 (tc_mk S c) = some (.inr 0, tc_mk S c) := by
  obtain ⟨g1, g2, g3, g4, g5⟩ := hC.gk
  obtain ⟨k1, a1, b1, rfl, l1, r1⟩ := hC.ver q1
  obtain ⟨-, -, -, -, -, -, -, -, hv, -⟩ := hC.1
  have T1 := (hv k1 a1).1
  have G1 := g5 k1 a1
  have L : tq_loop (f_X10_odds_b27 (vt k1) (vt k1) (vt k1) (tc_mk S c)) tq_N ((0 : Int32), (0 : Int32)) = some 0 := by
    refine tc_scan (B := f_X10_odds_b27 (vt k1) (vt k1) (vt k1) (tc_mk S c)) 60 (fun i => (0 : Int32)) (by omega) (fun v hv => ?_) ?_
    · have d0 : ¬ nI v ≥ 60 := nI_ge hv (by decide)
      have d1 := s_differs (S := S) T1 T1 G1.2.1.1 G1.2.1.1 G1.2.2.1 G1.2.2.1 G1.2.2.2.1 G1.2.2.2.1 hv
      have i1 : tq_is (tc_mk S c) (vt k1) 8 = some () := by simp (maxSteps := 3000000) (disch := omega) only [Option.bind_some, tc_bs, tq_let, tc_I1, tc_I2, tc_J1, tc_J2, tc_J3, tc_F1, tc_F2, tc_F3, tc_F4, tc_G1, tc_G2, tc_G3, tc_G4, tc_G5, tc_us, tc_un, s_one, s_holds, s_J13_bitCount, bz_bI, T1.f]
      have b0 : bI false = 0 := rfl
      rw [dif_self] at d1
      simp (maxSteps := 3000000) (disch := omega) only [Option.bind_some, tc_bs, tq_let, tc_I1, tc_I2, tc_J1, tc_J2, tc_J3, tc_F1, tc_F2, tc_F3, tc_F4, tc_G1, tc_G2, tc_G3, tc_G4, tc_G5, tc_us, tc_un, s_one, s_holds, s_J13_bitCount, bz_bI, f_X10_odds_b27, d0, i1, d1, b0, if_true, if_false, nI_1]
    · have d0 : nI 60 ≥ 60 := Int32.le_refl _
      simp (maxSteps := 3000000) (disch := omega) only [Option.bind_some, tc_bs, tq_let, tc_I1, tc_I2, tc_J1, tc_J2, tc_J3, tc_F1, tc_F2, tc_F3, tc_F4, tc_G1, tc_G2, tc_G3, tc_G4, tc_G5, tc_us, tc_un, s_one, s_holds, s_J13_bitCount, bz_bI, f_X10_odds_b27, d0, if_true]
  simp (maxSteps := 3000000) (disch := omega) only [Option.bind_some, tc_bs, tq_let, tc_I1, tc_I2, tc_J1, tc_J2, tc_J3, tc_F1, tc_F2, tc_F3, tc_F4, tc_G1, tc_G2, tc_G3, tc_G4, tc_G5, tc_us, tc_un, s_one, s_holds, s_J13_bitCount, bz_bI, f_X10_odds, hC.tq.f, l1, tb_r, L]
/-- an update is taken, and thrown away -/
theorem elem_x (hC : Cor S c di D m U P H Z X nw ed nv vt mv Dv) (hF : GF c D P H) (hU : U.n = 0) :
    ∃ c1 c2, f_X10_insertElement 0 0 0 1 (tc_mk S c) = some (.inr 1, tc_mk S c1) ∧ tq_is (tc_mk S c1) 0 10 = some () ∧ f_X10_forget 0 (tc_mk S c1) = some (1, tc_mk S c2) ∧ Cor S c2 (di.1, di.2.1, 0) D m (0, U.2) P H Z X nw ed nv vt mv Dv ∧ GF c2 D P H := by
  have hw := hC.gt.1.1
  have hi : D.At 0 0 := ⟨D.n_pos hw, by rw [D.ord_0 hw]; rfl⟩
  have ct := fb_ct_le (D.ax 1 0) 64
  have c1 := (hC.plc (x := 0) hi).1 ⟨Int32.le_refl _, nI_pos' (by omega)⟩
  have c2 := rng_ok (h := tc_mk S c) (show (0 : Int32) ≤ 1 by decide) (show (1 : Int32) ≤ 7 by decide)
  have c3 := (hC.elem hi).1 (D.kd_0 hw)
  have q4 : U.n < 20 := by omega
  have c4 := hC.room.1 q4
  obtain ⟨c1', g1, g2, g3⟩ := s_addInsert (c := c) (kd := 0) (p := 0) (l := 0) (nm := 1) (ct := -1) hC.upc hC.gu.1 q4 (nI 0) rfl
  rw [hU] at g1
  have g1 : f_X9_addInsert 81 0 0 0 1 (-1) (tc_mk S c) = some (1, tc_mk S c1') := g1
  have e5 : f_X10_insertElement 0 0 0 1 (tc_mk S c) = some (.inr 1, tc_mk S c1') := by
    simp (maxSteps := 3000000) (disch := omega) only [Option.bind_some, tc_bs, tq_let, tc_I1, tc_I2, tc_J1, tc_J2, tc_J3, tc_F1, tc_F2, tc_F3, tc_F4, tc_G1, tc_G2, tc_G3, tc_G4, tc_G5, tc_us, tc_un, s_one, s_holds, s_J13_bitCount, bz_bI, f_X10_insertElement, hC.tq.f, hC.upc.f, c1, c2, c3, c4, tb_r, g1]
  have e81 : c1'.2.2.1 81 11 = 1 := by rw [g3.1]; show nI (U.n + 1) = 1; rw [hU]; rfl
  have hu := hC.gu.2.2
  have km : Wr u1 u2 u3 u4 c c1' := g2.mono (fun a z => by omega) (fun _ z => z.elim) (fun q k z => by omega) (fun _ _ z => z)
  have k2 : Wr u1 u2 u3 u4 c (tc_F c1' 81 11 0) := km.trans (Wr.F _ (by omega))
  have e15 : (tc_F c1' 81 11 0).2.2.1 155 15 = nI 0 := by
    rw [tc_F3, tc_un _ _ (by decide), g2.2.2.1 155 15 (by omega), hC.gu.2.1.1, hU]
  obtain ⟨x1, x2⟩ := hC.upd (U' := (0, U.2)) hF (c' := tc_F c1' 81 11 0) k2 ⟨⟨by rw [tc_F3, tc_us, tc_us]; rfl, Nat.zero_le _, fun k hk => absurd hk (Nat.not_lt_zero _), fun k hk => absurd hk (Nat.not_lt_zero _), fun k hk => absurd hk (Nat.not_lt_zero _), fun k hk => absurd hk (Nat.not_lt_zero _), fun k hk => absurd hk (Nat.not_lt_zero _), fun k hk => absurd hk (Nat.not_lt_zero _)⟩,
    ⟨e15, Nat.zero_le _, fun k hk => absurd hk (Nat.not_lt_zero _), fun k hk => absurd hk (Nat.not_lt_zero _), fun k hk => absurd hk (Nat.not_lt_zero _), fun k hk => absurd hk (Nat.not_lt_zero _), fun k hk => absurd hk (Nat.not_lt_zero _), fun k hk => absurd hk (Nat.not_lt_zero _), fun k hk => absurd hk (Nat.not_lt_zero _)⟩,
    ⟨⟨Nat.zero_le _, hu.1.2⟩, fun k hk => absurd hk (Nat.not_lt_zero _), fun k hk => absurd hk (Nat.not_lt_zero _), fun k hk => absurd hk (Nat.not_lt_zero _), fun k hk => absurd hk (Nat.not_lt_zero _), fun k hk => absurd hk (Nat.not_lt_zero _), fun k hk => absurd hk (Nat.not_lt_zero _), fun k hk => absurd hk (Nat.not_lt_zero _)⟩⟩
  exact ⟨c1', tc_F c1' 81 11 0, e5, by simp (maxSteps := 3000000) (disch := omega) only [Option.bind_some, tc_bs, tq_let, tc_I1, tc_I2, tc_J1, tc_J2, tc_J3, tc_F1, tc_F2, tc_F3, tc_F4, tc_G1, tc_G2, tc_G3, tc_G4, tc_G5, tc_us, tc_un, s_one, s_holds, s_J13_bitCount, bz_bI, hC.tq.f], by simp (maxSteps := 3000000) (disch := omega) only [Option.bind_some, tc_bs, tq_let, tc_I1, tc_I2, tc_J1, tc_J2, tc_J3, tc_F1, tc_F2, tc_F3, tc_F4, tc_G1, tc_G2, tc_G3, tc_G4, tc_G5, tc_us, tc_un, s_one, s_holds, s_J13_bitCount, bz_bI, f_X10_forget, f_X9_empty, hC.tq.f, hC.upc.f, e81], x1, x2⟩
/-- a version is taken that holds -/
theorem take_x (hC : Cor S c di D m U P H Z X nw ed nv vt mv Dv) (hF : GF c D P H) (hU : U.n = 0) (hk : k < nv) (hz : c.2.2.1 155 42 = 0 ∨ (Dv k).ty Z 0 0 = true) (hrl : ∃ r d H0, Rl r d (tc_mk S c) H0) :
    ∃ Wb W', f_L_take 0 (nI k) (tc_mk S c) = some (nI (Dv k).n, Wb) ∧ St Wb W' ∧ InvE di W' ∧ tq_gi W' 155 11 11 = some (nI (Dv k).n) := by
  obtain ⟨W', e, i, tk⟩ := hC.takeA hF (x1 := nI k) (y4 := 0)
  obtain ⟨t1, t2, t3⟩ := tk k hk rfl hU hz
  obtain ⟨kc, Wa, a, a1, a2, a3, a4⟩ := armI_x (V := fun W => f_V_take 0 (nI k) 205 W) (R := fun W => f_X11_take 155 (nI k) W) e
  rw [t1] at a3
  have k0 : kc = 0 := (Option.some.inj a3).symm
  obtain ⟨rr, Wb, e50, e5, e6⟩ := v_take a1
  obtain ⟨r, d, H0, hr⟩ := hrl
  have hi : InvE di (tc_mk S c) := InvE.of ⟨hC, hF⟩
  obtain ⟨⟨r2, H2⟩, -, -, hem2⟩ := y_X10_take (t := 0) (t' := rN r (tc_mk S c) H0 0) ⟨Or.inl hr.1, rfl⟩ hr.em _ e5
  obtain ⟨-, f2, -, -⟩ := Em.off hr hem2
  rcases e6 with ⟨v, rfl, -, e7⟩ | ⟨-, e7, -⟩
  · obtain ⟨s1, s2, s3⟩ := sl_at e7
    have fa : ∀ q, 155 ≤ q → q ≤ 204 → Wa.2 q = (tc_mk S c).2 q := fun q h1 h2 => (s3 q (by omega)).trans (f2 q h1 (by omega))
    have ra : ∀ q, dr q → oko dr (Wa.2 q) ∧ mo id (Wa.2 q) = Wa.2 q := fun q hq => by
      rw [fa q hq.1 hq.2]; exact hi.mod q hq
    have hrr := Rf2.em (W1 := Wa) (W2 := Wa) ra (fun _ _ _ => rfl)
    obtain ⟨⟨a5, W2⟩, z1, z2, z3⟩ := y_X11_take ⟨by decide, rfl⟩ hrr _ a2
    obtain ⟨-, -, m3, -, -, -, -, m8⟩ := z3
    have c1 : W'.1 = Wa.1 := m8 id
    have c2 : ∀ q, ¬ dr q → W'.2 q = Wa.2 q := m3
    refine ⟨Wb, W', ?_, ⟨c1.trans s2, fun q hq => (c2 q (by omega)).trans (s3 q (by omega))⟩, i, t2⟩
    have h5 : tq_aj W' 205 0 = tq_aj Wa 205 0 := by unfold tq_aj; rw [c2 205 (by omega)]
    rw [t3, s1] at h5
    have hv : nI (Dv k).n = v := toI64_inj (Option.some.inj h5)
    rw [hv]
    simp only [f_L_take, e50, e5, Option.bind_some]
  · exact absurd k0 e7
end TAI
