/-! ===== what readers see; counting and picking by the reference ===== -/
def Doc.al (D : Doc) (j : Nat) : Bool := decide (j < D.n)
def Doc.gone (D : Doc) (P : Pat) (H : Nat → Bool) (j : Nat) : Bool := anyB (fun p => H p && D.fnd P D.al p 0 j) P.n
def Doc.sn (D : Doc) (P : Pat) (H : Nat → Bool) (j : Nat) : Bool := decide (j < D.n) && !D.spread (fun s => D.gone P H s && decide (s ≠ 0)) j
/-- the reference's list of hidden paths -/
def RHid (c : tc_C) (H : Nat → Bool) (n : Nat) : Prop := ∃ k, k ≤ 3 ∧ c.2.2.1 155 33 = nI k ∧ (∀ i, i < k → ∃ p, p < n ∧ c.1 181 i = nI p ∧ H p = true) ∧ (∀ p, H p = true → ∃ i, i < k ∧ c.1 181 i = nI p) ∧ (∀ i j, i < k → j < k → c.1 181 i = c.1 181 j → i = j)
section SN
variable {S : tq_H} {c c' : tc_C} {p k d m r z : Nat} {D : Doc} {P : Pat} {Q H : Nat → Bool}
theorem Doc.spread_0 (G : Nat → Bool) : D.spread G 0 = G 0 := by
  unfold Doc.spread
  have : anyB (fun s => G s && decide (s < 0 ∧ 0 < D.en s)) D.n = false := by
    cases h : anyB (fun s => G s && decide (s < 0 ∧ 0 < D.en s)) D.n with
    | false => rfl
    | true => obtain ⟨s, _, h2⟩ := anyB_iff.mp h; simp at h2
  rw [this, Bool.or_false]
theorem Doc.spread_up (hw : D.wf) (G : Nat → Bool) {a : Nat} (h0 : 0 < a) (ha : a < D.n) : D.spread G a = (G a || D.spread G (D.up a)) := by
  have hu := D.up_lt hw h0 ha
  unfold Doc.spread
  apply Bool.ext_iff
  simp only [Bool.or_eq_true, anyB_iff, Bool.and_eq_true, decide_eq_true_eq]
  constructor
  · rintro (h | ⟨s, hs, g, h1, h2⟩)
    · exact .inl h
    · right
      have := (D.en_up hw h1 ha).mp h2
      by_cases e : s = D.up a
      · left; rw [← e]; exact g
      · right; exact ⟨s, hs, g, by omega, this.2⟩
  · rintro (h | h | ⟨s, hs, g, h1, h2⟩)
    · exact .inl h
    · right; exact ⟨D.up a, by omega, h, hu, D.up_sp hw h0 ha⟩
    · right; exact ⟨s, hs, g, by omega, (D.en_up hw (by omega) ha).mpr ⟨by omega, h2⟩⟩
theorem Doc.sn_in {j : Nat} (h : D.sn P H j = true) : j < D.n := by
  unfold Doc.sn at h
  rw [Bool.and_eq_true, decide_eq_true_eq] at h
  exact h.1
theorem Doc.al_in {j : Nat} (h : D.al j = true) : j < D.n := of_decide_eq_true h
theorem s_X11_bits (x : Int64) (h : tq_H) : f_X11_bits x h = some (nI (fb_ct (tb x) 64)) := by
  have h64 := fb_ct_le (tb x) 64
  obtain ⟨y, v1, v2⟩ := tc_run (B := f_X11_bits_b4 h) (fb_ct (tb x) 64) (fun i y => (nI i, y)) (fun i y => Rest x i y) (fun _ => nI (fb_ct (tb x) 64)) (by omega) (fun i y hi hR => by
    obtain ⟨m, h1, h2, h3⟩ := fb_ct_kth hi
    have hlow := rest_low hR h1 h2 h3
    refine ⟨y &&& (y - 1), ?_, rest_succ hR h1 h2 h3⟩
    dsimp only [f_X11_bits_b4]
    rw [if_neg (fun w => low_ne hlow ((lg_cmp_0 _ _).mp w))]
    simp only [tq_let, nI_1]) (fun y hR => by
    dsimp only [f_X11_bits_b4]
    rw [rest_all hR, if_pos ((lg_cmp_0 _ _).mpr rfl)]) (x := x) (rest_0 x)
  unfold f_X11_bits
  rw [show ((0 : Int32), x) = (nI 0, x) from rfl, v1]
  rfl
theorem Doc.ct_nodes (hw : D.wf) {F : Nat → Bool} (hF : ∀ j, F j = true → j < D.n) : fb_ct (tb (mkS (D.nodesOf F))) 64 = fb_ct F 64 := by
  have hn := D.n_le hw
  rw [ct_mkS, ct64 hw hF, ct_img (o := D.ord) (n := D.n) (m := 64) (fun i hi => by have := D.ord_lt hw hi; omega) (fun i j hi hj e => D.ord_inj hw hi hj e) (fun v _ h => by obtain ⟨i, hi, e, -⟩ := D.nodesOf_in F h; exact ⟨i, hi, e.symm⟩)]
  exact fb_ct_cong fun i hi => D.nodesOf_at hw F hi
theorem s_X11_bitsN (hw : D.wf) {F : Nat → Bool} (hF : ∀ j, F j = true → j < D.n) (h : tq_H) : f_X11_bits (mkS (D.nodesOf F)) h = some (nI (fb_ct F 64)) := by
  rw [s_X11_bits, D.ct_nodes hw hF]
theorem s_X11_pick (hM : tc_Mod S z) (hw : D.wf) (hO : ROrd c D) {F : Nat → Bool} (hF : ∀ j, F j = true → j < D.n) (y : Int32) :
    f_X11_pick 155 (mkS (D.nodesOf F)) y (tc_mk S c) = some (D.nd (pk F y)) := by
  have hn := D.n_le hw
  obtain ⟨o1, o2, -⟩ := hO
  have hgn : tq_gi (tc_mk S c) 155 11 11 = some (nI D.n) := by simp (maxSteps := 3000000) (disch := omega) only [Option.bind_some, tc_bs, tq_let, tc_I1, tc_I2, tc_J1, tc_J2, tc_J3, tc_F1, tc_F2, tc_F3, tc_F4, tc_G1, tc_G2, tc_G3, tc_G4, tc_G5, tc_us, tc_un, s_one, s_holds, s_J13_bitCount, bz_bI, hM.f, o1]
  have hg12 : tq_gr (tc_mk S c) 155 11 12 = some 164 := by simp (maxSteps := 3000000) (disch := omega) only [Option.bind_some, tc_bs, tq_let, tc_I1, tc_I2, tc_J1, tc_J2, tc_J3, tc_F1, tc_F2, tc_F3, tc_F4, tc_G1, tc_G2, tc_G3, tc_G4, tc_G5, tc_us, tc_un, s_one, s_holds, s_J13_bitCount, bz_bI, hM.f]
  let pf : Nat → Nat → Int32 := fun k n => if pkN F k n = -1 then -1 else nI (D.ord (pkN F k n).toNatClampNeg)
  let res : Nat → Int32 := fun n => lastN (fun v => anyB (fun s => F s && decide (nI (fb_ct F s) = y) && decide (v = D.ord s)) n) 60
  have W := tc_iter (B := f_X11_pick_b9 155 (mkS (D.nodesOf F)) y (tc_mk S c)) D.n (fun t => (D.nd (if y < 0 then -1 else pkN F y.toNatClampNeg t), nI (fb_ct F t), nI t)) (e := D.nd (if y < 0 then -1 else pkN F y.toNatClampNeg D.n)) (fun t ht => ?_) ?_ (by unfold tq_N; omega)
  · unfold f_X11_pick
    have e0 : D.nd (if y < 0 then -1 else pkN F y.toNatClampNeg 0) = -1 := by
      split <;> exact D.nd_n
    rw [e0] at W
    rw [show ((-1 : Int32), (0 : Int32), (0 : Int32)) = (-1, nI (fb_ct F 0), nI 0) from rfl, W, Option.bind_some]
    refine congrArg some (congrArg D.nd ?_)
    unfold pk
    by_cases hy : y < 0
    · rw [if_pos hy, if_pos hy]
    · rw [if_neg hy, if_neg hy]
      have : ∀ d, D.n + d ≤ 64 → pkN F y.toNatClampNeg (D.n + d) = pkN F y.toNatClampNeg D.n := by
        intro d
        induction d with
        | zero => intro _; rfl
        | succ d ih =>
          intro hd
          have hst : pkN F y.toNatClampNeg (D.n + d + 1) = pkN F y.toNatClampNeg (D.n + d) := if_neg (fun w => by have := hF _ w.1; omega)
          rw [show D.n + (d + 1) = D.n + d + 1 from rfl, hst]
          exact ih (by omega)
      have h2 := this (64 - D.n) (by omega)
      rw [show D.n + (64 - D.n) = 64 by omega] at h2
      exact h2.symm
  · have ot := D.ord_lt hw ht
    have hc := fb_ct_le F t
    have hl : ¬ nI t ≥ nI D.n := nI_ge ht (by omega)
    have ho : tq_ai (tc_mk S c) 164 (nI t) = some (nI (D.ord t)) := by simp (maxSteps := 3000000) (disch := omega) only [Option.bind_some, tc_bs, tq_let, tc_I1, tc_I2, tc_J1, tc_J2, tc_J3, tc_F1, tc_F2, tc_F3, tc_F4, tc_G1, tc_G2, tc_G3, tc_G4, tc_G5, tc_us, tc_un, s_one, s_holds, s_J13_bitCount, bz_bI, hM.f, show t < 60 from by omega, o2 t ht]
    dsimp only [f_X11_pick_b9]
    rw [hgn, Option.bind_some, if_neg hl]
    simp only [hg12, ho, Option.bind_some, tq_let]
    rw [nodes_if hw _ _ _ ht, fb_ct_succ]
    by_cases e : F t = true
    · rw [if_pos e, if_neg (show ¬ (1 : Int32) = 0 by decide), if_neg (show ¬ (1 : Int32) = 0 by decide), if_pos e]
      by_cases q : nI (fb_ct F t) = y
      · have hy : ¬ y < 0 := by rw [← q]; exact nI_pos (by omega)
        have hcl : y.toNatClampNeg = fb_ct F t := by rw [← q]; exact nI_clamp (by omega)
        rw [if_pos q, Option.bind_some, if_neg hy]
        have : pkN F y.toNatClampNeg (t + 1) = nI t := by unfold pkN; rw [if_pos ⟨e, hcl.symm⟩]
        rw [this, D.nd_in hw ht, nI_1, nI_1]
      · rw [if_neg q, Option.bind_some, nI_1, nI_1]
        congr 4
        by_cases hy : y < 0
        · rw [if_pos hy, if_pos hy]
        · rw [if_neg hy, if_neg hy]
          have : pkN F y.toNatClampNeg (t + 1) = pkN F y.toNatClampNeg t := by
            show (if F t = true ∧ fb_ct F t = y.toNatClampNeg then nI t else pkN F y.toNatClampNeg t) = _
            refine if_neg (fun w => q ?_)
            obtain ⟨k, hk, rfl⟩ := nI_of hy
            rw [w.2, nI_clamp hk]
          rw [this]
    · rw [if_neg e, if_pos rfl, if_pos rfl, if_neg e, Option.bind_some, nI_1]
      have : ∀ k, pkN F k (t + 1) = pkN F k t := fun k => if_neg (fun w => e w.1)
      rw [this]
      simp
  · dsimp only [f_X11_pick_b9]
    rw [hgn, Option.bind_some, if_pos (Int32.le_refl _)]
theorem nbit0 (x : Int64) {k : Nat} (hk : k < 64) : (lg_cmp ((x >>> ((nI k).toInt64 &&& 63)) &&& 1) 0 = 0) ↔ tb x k = false := by
  have h1 := rbit x hk
  rw [lg_cmp_0] at *
  constructor
  · intro h
    cases e : tb x k with
    | false => rfl
    | true =>
      have := h1.mpr e
      rw [h] at this
      exact absurd this (by decide)
  · intro h
    have h2 : tb (x >>> ((nI k).toInt64 &&& 63)) 0 = false := by rw [tb_sshr x hk, h]
    apply tb_ext
    intro j hj
    rw [tb_and, tb_0]
    by_cases e : j = 0
    · subst e; rw [h2]; rfl
    · have : tb 1 j = false := by
        rw [show (1 : Int64) = lN 1 from rfl, tb_lN_lt (by decide)]
        obtain ⟨k, rfl⟩ : ∃ k, j = k + 1 := ⟨j - 1, by omega⟩
        rw [Nat.testBit_succ]; simp
      rw [this, Bool.and_false]
/-- climbing from a node: whether none of it and those above it, but the root, is in a set -/
theorem climb (hM : tc_Mod S z) (hw : D.wf) (hR : RTree c D m) (G : Nat → Bool) {i : Nat} (hi : i < D.n) (w1 : Int64) (w2 : Int32) :
    tq_loop (f_X11_seen_b69 155 (mkS (D.nodesOf G)) w1 w2 (tc_mk S c)) tq_N (1, nI (D.ord i)) = some (bI (!D.spread (fun s => G s && decide (s ≠ 0)) i)) := by
  obtain ⟨-, -, -, -, -, -, -, -, r9, -⟩ := hR
  have hn := D.n_le hw
  obtain ⟨e, v1, v2⟩ := tc_while (B := f_X11_seen_b69 155 (mkS (D.nodesOf G)) w1 w2 (tc_mk S c)) (fun s => ∃ a b, a < D.n ∧ s = (bI b, nI (D.ord a)) ∧ (b && !D.spread (fun s => G s && decide (s ≠ 0)) a) = !D.spread (fun s => G s && decide (s ≠ 0)) i) (fun s => D.ps s.2 D.n) (fun e => e = bI (!D.spread (fun s => G s && decide (s ≠ 0)) i)) (s := (1, nI (D.ord i))) (by
    rintro s ⟨a, b, ha, rfl, hq⟩
    have oa := D.ord_lt hw ha
    by_cases a0 : a = 0
    · right
      subst a0
      rw [D.spread_0] at hq
      refine ⟨bI b, ?_, ?_⟩
      · dsimp only [f_X11_seen_b69]
        rw [if_pos (by rw [D.ord_0 hw]; decide)]
      · rw [← hq]; simp
    · left
      have h0 := Nat.pos_of_ne_zero a0
      have hu := D.up_lt hw h0 ha
      have on0 : D.ord a ≠ 0 := fun w => a0 (D.ord_inj hw ha (D.n_pos hw) (by rw [w, D.ord_0 hw]))
      have hup : D.upN a = nI (D.ord (D.up a)) := if_neg a0
      have hb := nbit0 (mkS (D.nodesOf G)) (show D.ord a < 64 by omega)
      rw [tb_mkS, D.nodesOf_at hw _ ha] at hb
      refine ⟨(bI (b && !G a), nI (D.ord (D.up a))), ?_, ⟨D.up a, b && !G a, by omega, rfl, ?_⟩, ?_⟩
      · dsimp only [f_X11_seen_b69]
        rw [if_neg (nI_nle (show 0 < D.ord a by omega) (by omega))]
        have hg6 : tq_gr (tc_mk S c) 155 11 6 = some 160 := by simp (maxSteps := 3000000) (disch := omega) only [Option.bind_some, tc_bs, tq_let, tc_I1, tc_I2, tc_J1, tc_J2, tc_J3, tc_F1, tc_F2, tc_F3, tc_F4, tc_G1, tc_G2, tc_G3, tc_G4, tc_G5, tc_us, tc_un, s_one, s_holds, s_J13_bitCount, bz_bI, hM.f]
        have hpa : tq_ai (tc_mk S c) 160 (nI (D.ord a)) = some (nI (D.ord (D.up a))) := by simp (maxSteps := 3000000) (disch := omega) only [Option.bind_some, tc_bs, tq_let, tc_I1, tc_I2, tc_J1, tc_J2, tc_J3, tc_F1, tc_F2, tc_F3, tc_F4, tc_G1, tc_G2, tc_G3, tc_G4, tc_G5, tc_us, tc_un, s_one, s_holds, s_J13_bitCount, bz_bI, hM.f, show D.ord a < 60 from oa, r9 a ha, hup]
        simp only [hg6, hpa, Option.bind_some, tq_let]
        refine congrArg (fun y => (some (Sum.inl (y, nI (D.ord (D.up a)))) : Option ((Int32 × Int32) ⊕ Int32))) ?_
        cases b with
        | false => rfl
        | true =>
          rw [if_neg (by decide)]
          cases hG : G a with
          | false => rw [if_pos (hb.mpr (by simp [hG]))]; rfl
          | true => rw [if_neg (fun w => by have := hb.mp w; simp [hG] at this; omega)]; rfl
      · rw [← hq, D.spread_up hw _ h0 ha]
        simp only [ne_eq, a0, not_false_eq_true, decide_true, Bool.and_true, Bool.not_or]
        cases b <;> cases G a <;> rfl
      · show D.ps (nI (D.ord (D.up a))) D.n < D.ps (nI (D.ord a)) D.n
        rw [Doc.ps_in hw (show D.up a < D.n by omega) D.n (Nat.le_refl _) (by omega), Doc.ps_in hw ha D.n (Nat.le_refl _) ha]
        omega) ⟨i, true, hi, rfl, by simp⟩ (by have := D.ps_le (nI (D.ord i)) D.n; show D.ps (nI (D.ord i)) D.n < 200000; omega)
  rw [v1, v2]
theorem s_X11_seen (hM : tc_Mod S z) (hw : D.wf) (hR : RTree c D m) (hO : ROrd c D) (hC : PR c P) (hP : P.wf) (hH : RHid c H P.n) :
    ∃ c', f_X11_seen 155 (tc_mk S c) = some (mkS (D.nodesOf (D.sn P H)), tc_mk S c') ∧ Rf c c' := by
  have hn := D.n_le hw
  have h0 := D.n_pos hw
  have h20 := hP.1
  have hall := s_X11_all hM hw hO
  have eal : mkS (D.nodesOf (fun _ => true)) = mkS (D.nodesOf D.al) := congrArg mkS (D.nodesOf_cong fun j hj => by simp [Doc.al, hj])
  rw [eal] at hall
  obtain ⟨c1, v1, v2, v3, v4⟩ := s_X11_findAll (Q := D.al) hM hw hR hO hC hP (fun j h => D.al_in h)
  refine ⟨c1, ?_, v2⟩
  obtain ⟨g, h1, h2, h3, h4, h5⟩ := hH
  have g1 : c1.2.2.1 155 33 = nI g := by rw [v2.2.2.1]; exact h2
  have his : ∀ x, tq_is (tc_mk S x) 155 11 = some () := fun x => by simp (maxSteps := 3000000) (disch := omega) only [Option.bind_some, tc_bs, tq_let, tc_I1, tc_I2, tc_J1, tc_J2, tc_J3, tc_F1, tc_F2, tc_F3, tc_F4, tc_G1, tc_G2, tc_G3, tc_G4, tc_G5, tc_us, tc_un, s_one, s_holds, s_J13_bitCount, bz_bI, hM.f]
  have hg29 : tq_gr (tc_mk S c1) 155 11 29 = some 179 := by simp (maxSteps := 3000000) (disch := omega) only [Option.bind_some, tc_bs, tq_let, tc_I1, tc_I2, tc_J1, tc_J2, tc_J3, tc_F1, tc_F2, tc_F3, tc_F4, tc_G1, tc_G2, tc_G3, tc_G4, tc_G5, tc_us, tc_un, s_one, s_holds, s_J13_bitCount, bz_bI, hM.f]
  have hg34 : tq_gr (tc_mk S c1) 155 11 34 = some 181 := by simp (maxSteps := 3000000) (disch := omega) only [Option.bind_some, tc_bs, tq_let, tc_I1, tc_I2, tc_J1, tc_J2, tc_J3, tc_F1, tc_F2, tc_F3, tc_F4, tc_G1, tc_G2, tc_G3, tc_G4, tc_G5, tc_us, tc_un, s_one, s_holds, s_J13_bitCount, bz_bI, hM.f]
  have hg33 : tq_gi (tc_mk S c1) 155 11 33 = some (nI g) := by simp (maxSteps := 3000000) (disch := omega) only [Option.bind_some, tc_bs, tq_let, tc_I1, tc_I2, tc_J1, tc_J2, tc_J3, tc_F1, tc_F2, tc_F3, tc_F4, tc_G1, tc_G2, tc_G3, tc_G4, tc_G5, tc_us, tc_un, s_one, s_holds, s_J13_bitCount, bz_bI, hM.f, g1]
  have hgn : tq_gi (tc_mk S c1) 155 11 11 = some (nI D.n) := by simp (maxSteps := 3000000) (disch := omega) only [Option.bind_some, tc_bs, tq_let, tc_I1, tc_I2, tc_J1, tc_J2, tc_J3, tc_F1, tc_F2, tc_F3, tc_F4, tc_G1, tc_G2, tc_G3, tc_G4, tc_G5, tc_us, tc_un, s_one, s_holds, s_J13_bitCount, bz_bI, hM.f, v3.2.1.1]
  have hg12 : tq_gr (tc_mk S c1) 155 11 12 = some 164 := by simp (maxSteps := 3000000) (disch := omega) only [Option.bind_some, tc_bs, tq_let, tc_I1, tc_I2, tc_J1, tc_J2, tc_J3, tc_F1, tc_F2, tc_F3, tc_F4, tc_G1, tc_G2, tc_G3, tc_G4, tc_G5, tc_us, tc_un, s_one, s_holds, s_J13_bitCount, bz_bI, hM.f]
  have W1 := tc_scan (B := f_X11_seen_b12 155 (tc_mk S c1)) g (fun t => mkS (D.nodesOf (fun j => anyB (fun i => D.fnd P D.al (c.1 181 i).toNatClampNeg 0 j) t))) (e := mkS (D.nodesOf (D.gone P H))) (by omega) (fun t ht => by
    obtain ⟨p, hp, e1, e2⟩ := h3 t ht
    have e3 : c1.1 181 t = nI p := by rw [v2.1 181 (by omega)]; exact e1
    have e60 : (60 : Int32) * nI p = nI (60 * p + D.ord 0) := by rw [show (60 : Int32) = nI 60 from rfl, nI_mul, D.ord_0 hw, Nat.add_zero]
    have hx : tq_ai (tc_mk S c1) 181 (nI t) = some (nI p) := by simp (maxSteps := 3000000) (disch := omega) only [Option.bind_some, tc_bs, tq_let, tc_I1, tc_I2, tc_J1, tc_J2, tc_J3, tc_F1, tc_F2, tc_F3, tc_F4, tc_G1, tc_G2, tc_G3, tc_G4, tc_G5, tc_us, tc_un, s_one, s_holds, s_J13_bitCount, bz_bI, hM.f, show t < 3 from by omega, e3]
    have hf : tq_aj (tc_mk S c1) 179 (nI (60 * p + D.ord 0)) = some (mkS (D.nodesOf (D.fnd P D.al p 0))) := by
      have := v4 p 0 hp h0
      have o0 := D.ord_0 hw
      simp (maxSteps := 3000000) (disch := omega) only [Option.bind_some, tc_bs, tq_let, tc_I1, tc_I2, tc_J1, tc_J2, tc_J3, tc_F1, tc_F2, tc_F3, tc_F4, tc_G1, tc_G2, tc_G3, tc_G4, tc_G5, tc_us, tc_un, s_one, s_holds, s_J13_bitCount, bz_bI, hM.f]
      rw [this]
    dsimp only [f_X11_seen_b12]
    rw [hg33, Option.bind_some, if_neg (show ¬ nI t ≥ nI g from nI_ge ht (by omega))]
    simp only [hg29, hg34, hx, e60, hf, Option.bind_some, tq_let, nI_1, mkS_nodes_or]
    refine congrArg (fun y => (some (Sum.inl (y, nI (t + 1))) : Option ((Int64 × Int32) ⊕ Int64))) (congrArg mkS (D.nodesOf_cong fun j _ => ?_))
    rw [anyB, e1, nI_clamp (by omega)]) (by
    dsimp only [f_X11_seen_b12]
    rw [hg33, Option.bind_some, if_pos (Int32.le_refl _)]
    refine congrArg (fun y => (some (Sum.inr y) : Option ((Int64 × Int32) ⊕ Int64))) (congrArg mkS (D.nodesOf_cong fun j _ => ?_))
    apply Bool.ext_iff
    unfold Doc.gone
    rw [anyB_iff, anyB_iff]
    constructor
    · rintro ⟨i, hi, h⟩
      obtain ⟨p, hp, e1, e2⟩ := h3 i hi
      rw [e1, nI_clamp (by omega)] at h
      exact ⟨p, hp, by rw [e2, h]; rfl⟩
    · rintro ⟨p, hp, h⟩
      rw [Bool.and_eq_true] at h
      obtain ⟨i, hi, e⟩ := h4 p h.1
      exact ⟨i, hi, by rw [e, nI_clamp (by omega)]; exact h.2⟩)
  have e0 : mkS (D.nodesOf (fun j => anyB (fun i => D.fnd P D.al (c.1 181 i).toNatClampNeg 0 j) 0)) = 0 := by
    rw [nodes_0 D]; exact congrArg mkS (D.nodesOf_cong fun j _ => by simp [anyB])
  rw [e0] at W1
  have W2 := tc_scan (B := f_X11_seen_b48 155 (mkS (D.nodesOf (D.gone P H))) (tc_mk S c1)) D.n (fun t => mkS (D.nodesOf (fun j => decide (j = 0) || (decide (j < t) && !D.spread (fun s => D.gone P H s && decide (s ≠ 0)) j)))) (e := mkS (D.nodesOf (D.sn P H))) (by omega) (fun t ht => by
    have ot := D.ord_lt hw ht
    have ho : tq_ai (tc_mk S c1) 164 (nI t) = some (nI (D.ord t)) := by simp (maxSteps := 3000000) (disch := omega) only [Option.bind_some, tc_bs, tq_let, tc_I1, tc_I2, tc_J1, tc_J2, tc_J3, tc_F1, tc_F2, tc_F3, tc_F4, tc_G1, tc_G2, tc_G3, tc_G4, tc_G5, tc_us, tc_un, s_one, s_holds, s_J13_bitCount, bz_bI, hM.f, show t < 60 from by omega, v3.2.1.2.1 t ht]
    dsimp only [f_X11_seen_b48]
    rw [hgn, Option.bind_some, if_neg (show ¬ nI t ≥ nI D.n from nI_ge ht (by omega))]
    simp only [hg12, ho, climb hM hw v3.1 (D.gone P H) ht, Option.bind_some, tq_let, nI_1, b1_sh (show D.ord t < 64 by omega), b1_nodes hw ht]
    have hnx : ∀ b, D.spread (fun s => D.gone P H s && decide (s ≠ 0)) t = b → mkS (D.nodesOf (fun j => decide (j = 0) || (decide (j < t + 1) && !D.spread (fun s => D.gone P H s && decide (s ≠ 0)) j))) = mkS (D.nodesOf (fun j => (decide (j = 0) || (decide (j < t) && !D.spread (fun s => D.gone P H s && decide (s ≠ 0)) j)) || (!b && decide (j = t)))) := fun b hb => congrArg mkS (D.nodesOf_cong fun j _ => by
      by_cases e : j = t
      · subst e; rw [hb]; simp
      · simp [e, show (j < t + 1) ↔ j < t by omega])
    cases hb : D.spread (fun s => D.gone P H s && decide (s ≠ 0)) t with
    | false =>
      rw [if_neg (by decide), Option.bind_some, hnx _ hb, mkS_nodes_or]
      simp only [Bool.not_false, Bool.true_and]
    | true =>
      rw [if_pos (by decide), Option.bind_some, hnx _ hb, nodes_0 D, mkS_nodes_or]
      simp only [Bool.not_true, Bool.false_and]) (by
    dsimp only [f_X11_seen_b48]
    rw [hgn, Option.bind_some, if_pos (Int32.le_refl _)]
    refine congrArg (fun y => (some (Sum.inr y) : Option ((Int64 × Int32) ⊕ Int64))) (congrArg mkS (D.nodesOf_cong fun j hj => ?_))
    unfold Doc.sn
    by_cases e : j = 0
    · subst e
      rw [D.spread_0]; simp [hj]
    · simp [e])
  have e1 : mkS (D.nodesOf (fun j => decide (j = 0) || (decide (j < 0) && !D.spread (fun s => D.gone P H s && decide (s ≠ 0)) j))) = 1 := by
    have : (1 : Int64) = b1 (D.ord 0) := by rw [D.ord_0 hw]; rfl
    rw [this, b1_nodes hw h0]
    exact congrArg mkS (D.nodesOf_cong fun j _ => by simp)
  rw [e1] at W2
  unfold f_X11_seen
  simp only [his, hall, v1, W1, W2, Option.bind_some]
theorem s_X11_read (hM : tc_Mod S z) (hw : D.wf) (hR : RTree c D m) (hO : ROrd c D) (hC : PR c P) (hP : P.wf) (hH : RHid c H P.n) :
    ∃ c', f_X11_read 155 (tc_mk S c) = some (tc_mk S c') ∧ Rf c c' ∧ RW c' D m P (if c.2.2.1 155 32 = 0 then D.al else D.sn P H) ∧ RT c' D (D.fnd P (if c.2.2.1 155 32 = 0 then D.al else D.sn P H)) P.n := by
  have his : ∀ x, tq_is (tc_mk S x) 155 11 = some () := fun x => by simp (maxSteps := 3000000) (disch := omega) only [Option.bind_some, tc_bs, tq_let, tc_I1, tc_I2, tc_J1, tc_J2, tc_J3, tc_F1, tc_F2, tc_F3, tc_F4, tc_G1, tc_G2, tc_G3, tc_G4, tc_G5, tc_us, tc_un, s_one, s_holds, s_J13_bitCount, bz_bI, hM.f]
  have hg32 : tq_gi (tc_mk S c) 155 11 32 = some (c.2.2.1 155 32) := by simp (maxSteps := 3000000) (disch := omega) only [Option.bind_some, tc_bs, tq_let, tc_I1, tc_I2, tc_J1, tc_J2, tc_J3, tc_F1, tc_F2, tc_F3, tc_F4, tc_G1, tc_G2, tc_G3, tc_G4, tc_G5, tc_us, tc_un, s_one, s_holds, s_J13_bitCount, bz_bI, hM.f]
  by_cases h : c.2.2.1 155 32 = 0
  · have hall := s_X11_all hM hw hO
    have eal : mkS (D.nodesOf (fun _ => true)) = mkS (D.nodesOf D.al) := congrArg mkS (D.nodesOf_cong fun j hj => by simp [Doc.al, hj])
    rw [eal] at hall
    obtain ⟨c1, v1, v2, v3, v4⟩ := s_X11_findAll (Q := D.al) hM hw hR hO hC hP (fun j h => D.al_in h)
    rw [if_pos h]
    refine ⟨c1, ?_, v2, v3, v4⟩
    unfold f_X11_read
    rw [hg32, Option.bind_some, if_pos h]
    simp only [his, hall, v1, Option.bind_some]
  · obtain ⟨c1, u1, u2⟩ := s_X11_seen (S := S) hM hw hR hO hC hP hH
    obtain ⟨c2, v1, v2, v3, v4⟩ := s_X11_findAll (c := c1) (Q := D.sn P H) hM hw (hR.rf u2) (hO.rf u2) (hC.rf u2) hP (fun j h => D.sn_in h)
    rw [if_neg h]
    refine ⟨c2, ?_, u2.trans v2, v3, v4⟩
    unfold f_X11_read
    rw [hg32, Option.bind_some, if_neg h]
    simp only [his, u1, v1, Option.bind_some]
end SN
