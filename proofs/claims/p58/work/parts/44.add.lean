/-! ===== laying out: the step ===== -/
def Doc.TP (D : Doc) (f : Nat → Int64) (i : Nat) (P : Nat → Bool) : Prop := ∀ t, t < 14 → ∀ k, k < 64 → tb (f t) k = ((decide (k < i) && D.tst t k) || (decide (k = i) && P t))
section ADD2
variable {S : tq_H} {c : tc_C} {b i : Nat} {D : Doc}
theorem Doc.tp_0 {f : Nat → Int64} (h : ∀ t, t < 14 → ∀ k, k < 64 → tb (f t) k = (decide (k < i) && D.tst t k)) : D.TP f i (fun _ => false) := fun t ht k hk => by rw [h t ht k hk]; simp
theorem Doc.tp_add {f : Nat → Int64} {P : Nat → Bool} (h : D.TP f i P) {t0 : Nat} (h0 : t0 < 14) (hi : i < 64) : D.TP (ss 14 f (nI t0) (sg 14 f (nI t0) ||| oneI (nI i))) i (fun t => P t || decide (t = t0)) := by
  intro t ht k hk
  rw [ss_at _ _ h0 (by decide), sg_in _ h0 (by decide), oneI_in (by omega)]
  by_cases e : t = t0
  · subst e
    rw [if_pos rfl, tb_or, tb_b1, h t ht k hk]
    by_cases q : k = i <;> simp [q, hi]
  · rw [if_neg e, h t ht k hk]
    simp [e]
theorem Doc.tp_fin {f : Nat → Int64} {P : Nat → Bool} (h : D.TP f i P) (hp : ∀ t, t < 14 → P t = D.tst t i) : ∀ t, t < 14 → ∀ k, k < 64 → tb (f t) k = (decide (k < i + 1) && D.tst t k) := by
  intro t ht k hk
  rw [h t ht k hk]
  by_cases q : k = i
  · subst q; rw [hp t ht]; simp
  · simp [q, show (k < i + 1) ↔ k < i by omega]
theorem Doc.add_inner {f : Nat → Int64} (hw : D.wf) (hi : i < D.n) (h : ∀ j, j < 60 → ∀ k, k < 64 → tb (f j) k = decide (0 < k ∧ k < i ∧ D.up k = j)) : ∀ j, j < 60 → ∀ k, k < 64 → tb (ss 60 f (D.upI i) (sg 60 f (D.upI i) ||| oneI (nI i)) j) k = decide (0 < k ∧ k < i + 1 ∧ D.up k = j) := by
  intro j hj k hk
  have hn := D.n_le hw
  unfold Doc.upI
  by_cases z : i = 0
  · rw [if_pos z, ss_n, h j hj k hk]
    apply decide_eq_decide.mpr
    omega
  · have hu := D.up_lt hw (Nat.pos_of_ne_zero z) hi
    rw [if_neg z, ss_at _ _ (show D.up i < 60 by omega) (by decide), sg_in _ (show D.up i < 60 by omega) (by decide), oneI_in (by omega)]
    by_cases e : j = D.up i
    · rw [if_pos e, tb_or, tb_b1, h _ (by omega) k hk]
      by_cases q : k = i
      · subst q; subst e; simp [hk]; omega
      · subst e
        simp [q, show (k < i + 1) ↔ k < i by omega]
    · rw [if_neg e, h j hj k hk]
      apply decide_eq_decide.mpr
      constructor
      · rintro ⟨a, b, d⟩; exact ⟨a, by omega, d⟩
      · rintro ⟨a, b, d⟩
        refine ⟨a, ?_, d⟩
        rcases Nat.lt_or_ge k i with y | y
        · exact y
        · have : k = i := by omega
          subst this; exact absurd d.symm e
theorem Doc.add_above {f : Nat → Int64} (hw : D.wf) (hi : i < D.n) (h : ∀ j, j < i → ∀ k, k < 64 → tb (f j) k = decide (k < j ∧ j < D.en k)) : ∀ j, j < i + 1 → ∀ k, k < 64 → tb (ss 60 f (nI i) (sg 60 f (D.upI i) ||| oneI (D.upI i)) j) k = decide (k < j ∧ j < D.en k) := by
  intro j hj k hk
  have hn := D.n_le hw
  rw [ss_at _ _ (show i < 60 by omega) (by decide)]
  by_cases e : j = i
  · subst e
    rw [if_pos rfl, tb_or]
    unfold Doc.upI
    by_cases z : j = 0
    · subst z
      rw [if_pos rfl, sg_n, oneI_n, tb_0]; simp
    · have hu := D.up_lt hw (Nat.pos_of_ne_zero z) hi
      rw [if_neg z, sg_in _ (show D.up j < 60 by omega) (by decide), oneI_in (by omega), tb_b1, h _ hu k hk]
      apply Bool.ext_iff
      simp only [Bool.or_eq_true, Bool.and_eq_true, decide_eq_true_eq]
      constructor
      · rintro (⟨a, d⟩ | ⟨-, rfl⟩)
        · exact ⟨by omega, (D.en_up hw (by omega) hi).mpr ⟨by omega, d⟩⟩
        · exact ⟨hu, D.up_sp hw (Nat.pos_of_ne_zero z) hi⟩
      · rintro ⟨a, d⟩
        have := (D.en_up hw a hi).mp d
        by_cases y : k = D.up j
        · exact .inr ⟨hk, y⟩
        · exact .inl ⟨by omega, this.2⟩
  · rw [if_neg e, h j (by omega) k hk]
theorem add_bit {x : Int64} {p : Nat → Prop} [DecidablePred p] (hi : i < 64) (h : ∀ k, k < 64 → tb x k = decide (k < i ∧ p k)) (hp : p i) : ∀ k, k < 64 → tb (x ||| oneI (nI i)) k = decide (k < i + 1 ∧ p k) := by
  intro k hk
  rw [tb_or, oneI_in (by omega), tb_b1, h k hk]
  by_cases q : k = i
  · subst q; simp [hk, hp]
  · simp [q, show (k < i + 1) ↔ k < i by omega]
theorem add_nobit {x : Int64} {p : Nat → Prop} [DecidablePred p] (h : ∀ k, k < 64 → tb x k = decide (k < i ∧ p k)) (hp : ¬ p i) : ∀ k, k < 64 → tb x k = decide (k < i + 1 ∧ p k) := by
  intro k hk
  rw [h k hk]
  apply decide_eq_decide.mpr
  constructor
  · rintro ⟨a, d⟩; exact ⟨by omega, d⟩
  · rintro ⟨a, d⟩
    refine ⟨?_, d⟩
    rcases Nat.lt_or_ge k i with y | y
    · exact y
    · have : k = i := by omega
      subst this; exact absurd d hp
theorem Doc.tst_text (D : Doc) {t : Nat} (ht : t < 14) (hk : D.kd i = 1) : ((false || decide (t = 8)) || decide (t = 9)) = D.tst t i := by
  unfold Doc.tst
  rw [hk]
  by_cases a : t < 8
  · simp [a]; omega
  · by_cases q : t = 8
    · simp [q]
    · by_cases r : t = 9
      · simp [r]
      · simp [a, q, r]
theorem Doc.tst_attr (D : Doc) {t w : Nat} (ht : t < 14) (hk : D.kd i = 2) (hw : w < 8) (hn : D.nm i = nI w) : ((false || decide (t = 8)) || decide (t = w)) = D.tst t i := by
  unfold Doc.tst
  rw [hk, hn]
  by_cases a : t < 8
  · have : (nI w = nI t) ↔ t = w := by rw [nI_eq (by omega) (by omega)]; omega
    simp [a, this]; omega
  · by_cases q : t = 8
    · simp [q]
    · have : t ≠ w := by omega
      by_cases r : t = 9
      · simp [r]; omega
      · simp [a, q, r, this]
theorem Doc.tst_elem (D : Doc) {t w s : Nat} (ht : t < 14) (hk : D.kd i = 0) (hw : w < 8) (hn : D.nm i = nI w) (hs : s < 4) (hsp : D.sp i = nI s) : (((false || decide (t = 8)) || decide (t = w)) || decide (t = 10 + s)) = D.tst t i := by
  unfold Doc.tst
  rw [hk, hn, hsp]
  by_cases a : t < 8
  · have : (nI w = nI t) ↔ t = w := by rw [nI_eq (by omega) (by omega)]; omega
    have z1 : t ≠ 8 := by omega
    have z2 : t ≠ 10 + s := by omega
    simp [a, this, z1, z2]
  · by_cases q : t = 8
    · simp [q]
    · have : t ≠ w := by omega
      by_cases r : t = 9
      · subst r
        have z1 : (9 : Nat) ≠ 10 + s := by omega
        simp [this, z1]
      · have : (nI s = nI (t - 10)) ↔ t = 10 + s := by rw [nI_eq (by omega) (by omega)]; omega
        have : t ≠ w := by omega
        simp [a, q, r, this, *]
theorem s_X3_add (hT : tc_Tree S b) (hw : D.wf) (hP : PLay c b D i) (hi : i < D.n) : ∃ c', f_X3_add (b + 1) (nI (D.ord i)) (D.upI i) (D.kd i) (D.nm i) (D.dc i) (tc_mk S c) = some (tc_mk S c') ∧ PLay c' b D (i + 1) ∧ Off c c' b := by
  obtain ⟨p1, p2, p3, p4, p5, p6, p7, p8, p9, p10, p11, p12⟩ := hP
  have hn := D.n_le hw
  have ho := D.ord_lt hw hi
  have hi60 : i < 60 := by omega
  have e8 : (8 : Int32) = nI 8 := rfl
  have e9 : (9 : Int32) = nI 9 := rfl
  have q2 : ∀ j, j < i + 1 → rs 60 (c.1 (b + 3)) (nI i) (nI (D.ord i)) j = nI (D.ord j) := fun j hj => by
    rw [rs_at _ _ hi60 (by decide)]
    by_cases e : j = i
    · rw [if_pos e, e]
    · rw [if_neg e, p2 j (by omega)]
  have q3 : ∀ j, j < i + 1 → rs 60 (c.1 (b + 5)) (nI (D.ord i)) (nI i) (D.ord j) = nI j := fun j hj => by
    rw [rs_at _ _ ho (by decide)]
    by_cases e : j = i
    · rw [if_pos (by rw [e]), e]
    · rw [if_neg (fun z => e (D.ord_inj hw (by omega) hi z)), p3 j (by omega)]
  have q4 : ∀ v, v < 60 → (∀ j, j < i + 1 → D.ord j ≠ v) → rs 60 (c.1 (b + 5)) (nI (D.ord i)) (nI i) v = -1 := fun v hv hz => by
    rw [rs_at _ _ ho (by decide), if_neg (fun z => hz i (by omega) z.symm), p4 v hv (fun j hj => hz j (by omega))]
  have q5 : ∀ j, j < i + 1 → rs 60 (c.1 (b + 7)) (nI i) (D.upI i) j = if j = 0 then -1 else nI (D.up j) := fun j hj => by
    rw [rs_at _ _ hi60 (by decide)]
    by_cases e : j = i
    · rw [if_pos e, e]; rfl
    · rw [if_neg e, p5 j (by omega)]
  have q6 : ∀ j, j < i + 1 → rs 60 (c.1 (b + 9)) (nI i) (nI (i + 1)) j = nI (j + 1) := fun j hj => by
    rw [rs_at _ _ hi60 (by decide)]
    by_cases e : j = i
    · rw [if_pos e, e]
    · rw [if_neg e, p6 j (by omega)]
  have q8 := D.add_inner hw hi p8
  have q9 := D.add_above hw hi p9
  have t8 := D.tp_add (t0 := 8) (D.tp_0 p10) (by decide) (show i < 64 by omega)
  simp (maxSteps := 3000000) (disch := omega) only [Option.bind_some, tc_bs, tq_let, tc_I1, tc_I2, tc_J1, tc_J2, tc_J3, tc_F1, tc_F2, tc_F3, tc_F4, tc_G1, tc_G2, tc_G3, tc_G4, tc_G5, tc_us, tc_un, s_one, s_holds, s_J13_bitCount, bz_bI, f_X3_add, hT.f]
  simp only [p1, nI_1, e8, e9]
  rcases D.kd_of hw hi with hk | hk | hk
  · -- an element
    obtain ⟨hk1, -⟩ | ⟨-, w, hw8, hnm⟩ := D.nm_of hw hi
    · rw [hk] at hk1; exact absurd hk1 (by decide)
    obtain ⟨s, hs, hsp⟩ := D.sp_of hw i hi
    have hsv : (if D.dc i = -1 then (if D.upI i = -1 then some 0 else some (rg 60 (rs 60 (c.1 (b + 11)) (nI i) (-1)) (D.upI i))) else some (D.dc i)) = some (nI s) := by
      rw [← hsp, D.sp_eq hw hi]
      by_cases d : D.dc i = -1
      · have d2 : ¬ (D.dc i ≠ -1) := fun w => w d
        rw [if_pos d, if_neg d2]
        unfold Doc.upI
        by_cases z : i = 0
        · rw [if_pos z, if_pos rfl, if_pos z]
        · have hu := D.up_lt hw (Nat.pos_of_ne_zero z) hi
          rw [if_neg z, if_neg (nI_nm1 (by omega)), if_neg z, rg_in _ (by omega) (by decide), rs_at _ _ hi60 (by decide), if_neg (by omega), p7 _ hu, if_pos (D.kd_up hw (Nat.pos_of_ne_zero z) hi)]
      · rw [if_neg d, if_pos d]
    rw [if_neg (by rw [hk]; decide), if_neg (by rw [hk]; decide), hsv, Option.bind_some]
    refine ⟨_, rfl, ⟨?_, ?_, ?_, ?_, ?_, ?_, ?_, ?_, ?_, ?_, ?_, ?_⟩, fun a ha => ?_, fun a ha => ?_, fun a ha => ?_, fun a ha => ?_, ?_⟩
    all_goals simp (maxSteps := 3000000) (disch := omega) only [Option.bind_some, tc_bs, tq_let, tc_I1, tc_I2, tc_J1, tc_J2, tc_J3, tc_F1, tc_F2, tc_F3, tc_F4, tc_G1, tc_G2, tc_G3, tc_G4, tc_G5, tc_us, tc_un, s_one, s_holds, s_J13_bitCount, bz_bI, tc_I1]
    · exact q2
    · exact q3
    · exact q4
    · exact q5
    · exact q6
    · intro j hj
      rw [rs_at _ _ hi60 (by decide), rs_at _ _ hi60 (by decide)]
      by_cases e : j = i
      · rw [if_pos e, e, if_pos hk, hsp]
      · rw [if_neg e, if_neg e, p7 j (by omega)]
    · exact q8
    · exact q9
    · rw [hnm, show (10 : Int32) + nI s = nI (10 + s) from nI_add 10 s]
      exact D.tp_fin (D.tp_add (t0 := 10 + s) (D.tp_add (t0 := w) t8 (by omega) (by omega)) (by omega) (by omega)) (fun t ht => D.tst_elem ht hk hw8 hnm hs hsp)
    · exact add_bit (by omega) p11 hk
    · exact add_nobit p12 (by rw [hk]; decide)
  · -- a text
    rw [if_pos hk]
    refine ⟨_, rfl, ⟨?_, ?_, ?_, ?_, ?_, ?_, ?_, ?_, ?_, ?_, ?_, ?_⟩, fun a ha => ?_, fun a ha => ?_, fun a ha => ?_, fun a ha => ?_, ?_⟩
    all_goals simp (maxSteps := 3000000) (disch := omega) only [Option.bind_some, tc_bs, tq_let, tc_I1, tc_I2, tc_J1, tc_J2, tc_J3, tc_F1, tc_F2, tc_F3, tc_F4, tc_G1, tc_G2, tc_G3, tc_G4, tc_G5, tc_us, tc_un, s_one, s_holds, s_J13_bitCount, bz_bI, tc_I1]
    · exact q2
    · exact q3
    · exact q4
    · exact q5
    · exact q6
    · intro j hj
      rw [rs_at _ _ hi60 (by decide)]
      by_cases e : j = i
      · rw [if_pos e, e, if_neg (by rw [hk]; decide)]
      · rw [if_neg e, p7 j (by omega)]
    · exact q8
    · exact q9
    · exact D.tp_fin (D.tp_add (t0 := 9) t8 (by decide) (by omega)) (fun t ht => D.tst_text ht hk)
    · exact add_nobit p11 (by rw [hk]; decide)
    · exact add_nobit p12 (by rw [hk]; decide)
  · -- an attribute
    obtain ⟨hk1, -⟩ | ⟨-, w, hw8, hnm⟩ := D.nm_of hw hi
    · rw [hk] at hk1; exact absurd hk1 (by decide)
    rw [if_neg (by rw [hk]; decide), if_pos hk]
    refine ⟨_, rfl, ⟨?_, ?_, ?_, ?_, ?_, ?_, ?_, ?_, ?_, ?_, ?_, ?_⟩, fun a ha => ?_, fun a ha => ?_, fun a ha => ?_, fun a ha => ?_, ?_⟩
    all_goals simp (maxSteps := 3000000) (disch := omega) only [Option.bind_some, tc_bs, tq_let, tc_I1, tc_I2, tc_J1, tc_J2, tc_J3, tc_F1, tc_F2, tc_F3, tc_F4, tc_G1, tc_G2, tc_G3, tc_G4, tc_G5, tc_us, tc_un, s_one, s_holds, s_J13_bitCount, bz_bI, tc_I1]
    · exact q2
    · exact q3
    · exact q4
    · exact q5
    · exact q6
    · intro j hj
      rw [rs_at _ _ hi60 (by decide)]
      by_cases e : j = i
      · rw [if_pos e, e, if_neg (by rw [hk]; decide)]
      · rw [if_neg e, p7 j (by omega)]
    · exact q8
    · exact q9
    · rw [hnm]
      exact D.tp_fin (D.tp_add (t0 := w) t8 (by omega) (by omega)) (fun t ht => D.tst_attr ht hk hw8 hnm)
    · exact add_nobit p11 (by rw [hk]; decide)
    · exact add_bit (by omega) p12 hk
end ADD2
