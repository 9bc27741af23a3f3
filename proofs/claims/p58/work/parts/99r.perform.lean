/-! ===== the reference performs the updates ===== -/
def Ups.rmv (U : Ups) (k v : Nat) : Bool := anyB (fun j => decide (U.uw j = 1 ∧ U.ut j = v)) k
/-- the lists of the elements with small numbers are laid -/
def PH (c1 c : tc_C) (m : Nat) (D : Doc) (U : Ups) (Y : Nat) : Prop :=
  (∀ i, i < D.n → D.kd i = 0 → D.ord i < Y → ∀ q, q < (U.KL m D i).length → c.1 161 ((U.KL m D i).getD q 0) = nI q ∧ c.1 160 ((U.KL m D i).getD q 0) = nI (D.ord i)) ∧
  (∀ w, (∀ i, i < D.n → D.kd i = 0 → D.ord i < Y → w ∉ U.KL m D i) → c.1 160 w = c1.1 160 w ∧ c.1 161 w = c1.1 161 w) ∧
  (∀ a, a ≠ 160 → a ≠ 161 → c.1 a = c1.1 a) ∧ c.2 = c1.2
/-- all done but what hangs nowhere -/
def RQ (c : tc_C) (m : Nat) (D : Doc) (U : Ups) : Prop :=
  c.2.2.1 155 1 = nI (m + U.ins U.n) ∧
  (∀ v, U.In m D U.n v → c.1 156 v = (U.new m D).1 v ∧ c.1 157 v = (U.new m D).2.1 v ∧ c.1 158 v = (U.new m D).2.2.1 v ∧ c.1 159 v = (U.new m D).2.2.2 v) ∧
  (∀ v w, w ∈ U.F m D v → c.1 160 w = nI v) ∧ (∀ w, U.In m D U.n w → (∀ v, w ∉ U.F m D v) → c.1 160 w = -1) ∧
  (∀ i, i < D.n → D.kd i = 0 → ∀ q, q < (U.KL m D i).length → c.1 161 ((U.KL m D i).getD q 0) = nI q) ∧
  (∀ i, i < D.n → c.1 163 (D.ord i) = bI (!U.rmv U.n (D.ord i))) ∧ (∀ v, v < 60 → (∀ i, i < D.n → D.ord i ≠ v) → c.1 163 v = 0) ∧ RMem c D
section RPM
variable {S : tq_H} {c c' c'' c0 c1 c2 : tc_C} {z m i j k v w K E p n Y : Nat} {U : Ups} {D : Doc} {P : List Nat}
theorem Ups.KL_fL (h : w ∈ U.KL m D i) : w ∈ U.fL m D i := List.mem_append_right _ h
theorem Ups.F_old (hw : D.wf) (hu : U.wf m D) (h0 : 0 < j) (hj : j < D.n) (ht : U.tk U.n (D.ord j) = false) : D.ord j ∈ U.F m D (D.ord (D.up j)) := by
  have hup := D.up_lt hw h0 hj
  have hk := D.kd_up hw h0 hj
  rw [U.F_at hw (by omega), if_pos hk]
  unfold Ups.fL
  rw [List.mem_append]
  have hn := D.n_le hw
  by_cases q : D.kd j = 2
  · left
    have hg := (U.In_gd hw hu (v := D.ord j) (.inl ⟨j, hj, rfl⟩)).2.1
    rw [U.new_old hw hu hj] at hg
    rcases hg with ⟨a, -⟩ | ⟨-, x, x1, x2⟩
    · rw [q] at a; exact absurd a (by decide)
    · exact cutL_mem.mpr ⟨x, x1, (U.aL_mem hw).mpr (.inl ⟨j, by simp [Doc.ax, hj, h0, q], rfl, x2, ht⟩)⟩
  · right
    have hax : D.ax 1 (D.up j) j = true := Doc.ax1.mpr ⟨hj, h0, rfl, q⟩
    obtain ⟨k1, k2⟩ := kS_of hax (by omega)
    exact cutL_mem.mpr ⟨fb_ct (D.ax 1 (D.up j)) j, by omega, (U.kL_mem hw).mpr (.inr ⟨j, hax, rfl, rfl, ht⟩)⟩
theorem Ups.F_new (hw : D.wf) (hu : U.wf m D) (hk : k < U.n) (h : U.uw k = 0 ∨ U.uw k = 4) : U.sj m k ∈ U.F m D (U.up k) := by
  obtain ⟨i, i1, i2, i3, i4⟩ := hu.2.2.2.1 k hk h
  rw [i2, U.F_at hw i1, if_pos i3]
  unfold Ups.fL
  rw [List.mem_append]
  by_cases q : U.uw k = 0 ∧ U.uk k = 2
  · left
    rcases hu.2.2.2.2.1 k hk q.1 with ⟨y, -⟩ | ⟨y, -⟩ | ⟨y, ⟨x, x1, x2⟩, -⟩
    · omega
    · omega
    · exact cutL_mem.mpr ⟨x, x1, (U.aL_mem hw).mpr (.inr ⟨k, hk, decide_eq_true ⟨q.1, q.2, i2, x2⟩, rfl⟩)⟩
  · right
    have i4 : U.ul k ≤ fb_ct (D.ax 1 i) 64 := by
      rcases i4 with i4 | i4
      · exact absurd i4 q
      · exact i4
    exact cutL_mem.mpr ⟨U.ul k, by omega, (U.kL_mem hw).mpr (.inl ⟨k, hk, decide_eq_true ⟨by omega, i2, rfl⟩, rfl⟩)⟩
theorem Ups.rmv_iff {n : Nat} : U.rmv n v = true ↔ ∃ j, j < n ∧ U.uw j = 1 ∧ U.ut j = v := by
  unfold Ups.rmv; rw [anyB_iff]
  constructor
  · rintro ⟨j, a, b⟩; exact ⟨j, a, of_decide_eq_true b⟩
  · rintro ⟨j, a, b⟩; exact ⟨j, a, decide_eq_true b⟩
/-- what is listed is not removed -/
theorem Ups.F_rmv (hw : D.wf) (hu : U.wf m D) (hok : U.ok) (h : w ∈ U.F m D v) : U.rmv U.n w = false := by
  cases e : U.rmv U.n w with
  | false => rfl
  | true =>
    exfalso
    obtain ⟨l, l1, l2, l3⟩ := Ups.rmv_iff.mp e
    obtain ⟨i, i1, i2, i3, i4⟩ := (U.F_mem hw).mp h
    rcases U.fL_og hw i4 with ⟨j, j1, j2, j3, j4, j5⟩ | ⟨k, k1, k2, k3, k4⟩
    · have : U.tk U.n w = true := U.tk_iff.mpr ⟨l, l1, .inl l2, l3⟩
      rw [j5] at this; cases this
    · unfold Ups.sj at k4
      split at k4
      · obtain ⟨t, t1, t2, -⟩ := hu.2.2.1 l l1 (by omega)
        have := hu.1.2.2 t t1
        omega
      · rcases Nat.lt_trichotomy l k with q | q | q
        · exact hok l k q k1 ⟨by omega, by omega, by omega, by omega⟩
        · subst q; omega
        · exact hok k l q l1 ⟨by omega, by omega, by omega, by omega⟩
theorem ph_step (h : PCh S c1 z m D U) (hp0 : ∀ i, i < D.n → c1.1 160 (D.ord i) = D.upN i) (hY : Y < m) (hH : PH c1 c m D U Y) (x : Int32) :
    ∃ c', f_X11_perform_b270 155 (nI m) x (nI Y, tc_mk S c) = some (.inl (nI (Y + 1), tc_mk S c')) ∧ PH c1 c' m D U (Y + 1) := by
  obtain ⟨p1, p2, p3, p4⟩ := hH
  have hC : PCh S c z m D U := by
    obtain ⟨h1, h2, h3, h4, h5, h6⟩ := h
    refine ⟨h1, h2, h3.cg (p3 167 (by omega) (by omega)) p4, by rw [p4]; exact h4, h5.cg (fun a _ _ => p3 a (by omega) (by omega)), ?_⟩
    rw [p3 156 (by omega) (by omega)]; exact h6
  have hC0 := hC
  obtain ⟨hM, ⟨hw, hu, hok, hr⟩, hUR, h1, ⟨r1, r2, r3⟩, r4⟩ := hC
  have hm60 := hu.1.2.1
  have e1 : ¬ nI Y ≥ nI m := nI_ge hY (by omega)
  have same : (∀ i, i < D.n → D.kd i = 0 → D.ord i ≠ Y) → PH c1 c m D U (Y + 1) := fun hn =>
    ⟨fun i hi hk hlt => p1 i hi hk (by have := hn i hi hk; omega), fun w hw2 => p2 w fun i hi hk hlt => hw2 i hi hk (by omega), p3, p4⟩
  by_cases q0 : c.1 173 Y = 0
  · refine ⟨c, by simp (maxSteps := 3000000) (disch := omega) only [Option.bind_some, tc_bs, tq_let, tc_I1, tc_I2, tc_J1, tc_J2, tc_J3, tc_F1, tc_F2, tc_F3, tc_F4, tc_G1, tc_G2, tc_G3, tc_G4, tc_G5, tc_us, tc_un, s_one, s_holds, s_J13_bitCount, bz_bI, f_X11_perform_b270, hM.f, e1, q0, if_true, if_false, nI_1], same fun i hi _ e => ?_⟩
    have := (r1 i hi).2.2.2.2
    rw [e, q0] at this; exact absurd this (by decide)
  · have hin : ∃ j, j < D.n ∧ D.ord j = Y := by
      refine Classical.byContradiction fun hno => q0 (r3 Y (by omega) fun i hi e => hno ⟨i, hi, e⟩)
    obtain ⟨i, hi, rfl⟩ := hin
    have f6 := r4 i hi
    by_cases qk : D.kd i = 0
    · rw [qk] at f6
      have e2 := s_X11_countBack hC0 hi
      have hnd : (U.KL m D i).Nodup := (List.nodup_append.mp (U.fL_nd hw hu hok hi)).2.1
      have own : ∀ i', i' < D.n → ∀ w, w ∈ U.KL m D i → w ∈ U.KL m D i' → i = i' := fun i' hi' w a b => U.og_one hw hu hok hi hi' (U.fL_og hw (U.KL_fL a)) (U.fL_og hw (U.KL_fL b))
      obtain ⟨y, y1, y2, y3, y4, y5⟩ := s_layChildren hC0 hi hnd (fun j hj ht => by
        obtain ⟨a1, a2, a3, a4⟩ := Doc.ax1.mp hj
        rw [(p2 (D.ord j) fun i' hi' hk' hlt hmem => ?_).1, hp0 j a1]
        · unfold Doc.upN; rw [if_neg (by omega), a3]
        · have := U.og_one hw hu hok hi hi' (.inl ⟨j, a2, a1, a3, rfl, ht⟩) (U.fL_og hw (U.KL_fL hmem))
          subst this; exact Nat.lt_irrefl _ hlt)
      refine ⟨y, by simp (maxSteps := 3000000) (disch := omega) only [Option.bind_some, tc_bs, tq_let, tc_I1, tc_I2, tc_J1, tc_J2, tc_J3, tc_F1, tc_F2, tc_F3, tc_F4, tc_G1, tc_G2, tc_G3, tc_G4, tc_G5, tc_us, tc_un, s_one, s_holds, s_J13_bitCount, bz_bI, f_X11_perform_b270, hM.f, e1, q0, f6, e2, y1, if_true, if_false, nI_1], fun i' hi' hk' hlt q hq => ?_, fun w hw2 => ?_, fun a z1 z2 => (y4 a z1 z2).trans (p3 a z1 z2), y5.trans p4⟩
      · by_cases e : i' = i
        · subst e; exact y2 q hq
        · have hlt2 : D.ord i' < D.ord i := by
            have : D.ord i' ≠ D.ord i := fun z => e (D.ord_inj hw hi' hi z)
            omega
          have hmem : (U.KL m D i').getD q 0 ∈ U.KL m D i' := by rw [gD _ _ hq]; exact List.getElem_mem hq
          have hno : (U.KL m D i').getD q 0 ∉ U.KL m D i := fun z => e (own i' hi' _ z hmem).symm
          rw [(y3 _ hno).1, (y3 _ hno).2]
          exact p1 i' hi' hk' hlt2 q hq
      · have hno : w ∉ U.KL m D i := hw2 i hi qk (Nat.lt_succ_self _)
        rw [(y3 w hno).1, (y3 w hno).2]
        exact p2 w fun i' hi' hk' hlt => hw2 i' hi' hk' (by omega)
    · have e2 : ¬ c.1 156 (D.ord i) = 0 := by rw [f6]; exact qk
      refine ⟨c, by simp (maxSteps := 3000000) (disch := omega) only [Option.bind_some, tc_bs, tq_let, tc_I1, tc_I2, tc_J1, tc_J2, tc_J3, tc_F1, tc_F2, tc_F3, tc_F4, tc_G1, tc_G2, tc_G3, tc_G4, tc_G5, tc_us, tc_un, s_one, s_holds, s_J13_bitCount, bz_bI, f_X11_perform_b270, hM.f, e1, q0, e2, if_true, if_false, nI_1], same fun i' hi' hk' e => ?_⟩
      have := D.ord_inj hw hi' hi e
      subst this; exact qk hk'
theorem rm_step (hM : tc_Mod S z) (hw : D.wf) (hu : U.wf m D) (hUR : UR c U) (hk : k < U.n) :
    ∃ c', f_X11_perform_b316 155 (nI k, tc_mk S c) = some (.inl (nI (k + 1), tc_mk S c')) ∧ (U.uw k = 1 → c'.1 163 = upd (c.1 163) (U.ut k) 0 ∧ c'.1 160 = upd (c.1 160) (U.ut k) (-1)) ∧ (U.uw k ≠ 1 → c'.1 163 = c.1 163 ∧ c'.1 160 = c.1 160) ∧ (∀ a, a ≠ 160 → a ≠ 163 → c'.1 a = c.1 a) ∧ c'.2 = c.2 := by
  obtain ⟨u1, u2, u3, u4, -⟩ := hUR
  obtain ⟨x0, x1, -⟩ := u7 k
  have a1 := u3 k hk
  have a2 := u4 k hk
  have w1 := hu.2.1 k hk
  have e1 : ¬ nI k ≥ nI U.n := nI_ge hk (by omega)
  obtain ⟨s163, -⟩ := mod_sz0 hM
  by_cases q : U.uw k = 1
  · rw [if_neg (by omega)] at a2
    have ht := Ups.ut_lt hw hu hk (by omega)
    rw [q] at a1
    have a1 : c.1 167 (7 * k) = 1 := a1
    refine ⟨_, by simp (maxSteps := 3000000) (disch := omega) only [Option.bind_some, tc_bs, tq_let, tc_I1, tc_I2, tc_J1, tc_J2, tc_J3, tc_F1, tc_F2, tc_F3, tc_F4, tc_G1, tc_G2, tc_G3, tc_G4, tc_G5, tc_us, tc_un, s_one, s_holds, s_J13_bitCount, bz_bI, f_X11_perform_b316, hM.f, s163, u1, e1, x0, x1, a1, a2, if_true, if_false, nI_1]; rfl, fun _ => ⟨?_, ?_⟩, fun z => absurd q z, fun a z1 z2 => ?_, ?_⟩
    · simp (maxSteps := 3000000) (disch := omega) only [Option.bind_some, tc_bs, tq_let, tc_I1, tc_I2, tc_J1, tc_J2, tc_J3, tc_F1, tc_F2, tc_F3, tc_F4, tc_G1, tc_G2, tc_G3, tc_G4, tc_G5, tc_us, tc_un, s_one, s_holds, s_J13_bitCount, bz_bI, if_true]
    · simp (maxSteps := 3000000) (disch := omega) only [Option.bind_some, tc_bs, tq_let, tc_I1, tc_I2, tc_J1, tc_J2, tc_J3, tc_F1, tc_F2, tc_F3, tc_F4, tc_G1, tc_G2, tc_G3, tc_G4, tc_G5, tc_us, tc_un, s_one, s_holds, s_J13_bitCount, bz_bI, if_true]
    · simp (maxSteps := 3000000) (disch := omega) only [Option.bind_some, tc_bs, tq_let, tc_I1, tc_I2, tc_J1, tc_J2, tc_J3, tc_F1, tc_F2, tc_F3, tc_F4, tc_G1, tc_G2, tc_G3, tc_G4, tc_G5, tc_us, tc_un, s_one, s_holds, s_J13_bitCount, bz_bI, if_true]
    · rfl
  · have n1 : ¬ nI (U.uw k) = 1 := fun z => q ((nI_eq (show U.uw k < 2 ^ 31 by omega) (show 1 < 2 ^ 31 by decide)).mp z)
    refine ⟨c, by simp (maxSteps := 3000000) (disch := omega) only [Option.bind_some, tc_bs, tq_let, tc_I1, tc_I2, tc_J1, tc_J2, tc_J3, tc_F1, tc_F2, tc_F3, tc_F4, tc_G1, tc_G2, tc_G3, tc_G4, tc_G5, tc_us, tc_un, s_one, s_holds, s_J13_bitCount, bz_bI, f_X11_perform_b316, hM.f, u1, e1, x0, a1, n1, if_true, if_false, nI_1], fun z => absurd z q, fun _ => ⟨rfl, rfl⟩, fun _ _ _ => rfl, rfl⟩
theorem s_X11_perform (hM : tc_Mod S z) (hw : D.wf) (hu : U.wf m D) (hok : U.ok) (hr : m + U.ins U.n ≤ 60) (hUR : UR c U) (h : RP c m D U 0) :
    ∃ c', f_X11_perform 155 (tc_mk S c) = some (tc_mk S c') ∧ RQ c' m D U ∧ Pf c c' ∧ ∀ v, v < m → c'.1 156 v = c.1 156 v := by
  have h0 : c.2.2.1 155 1 = nI m := by have := h.1; rw [show U.ins 0 = 0 from rfl] at this; exact this
  have hm60 := hu.1.2.1
  have hn20 := hUR.2.1
  obtain ⟨c1, s1, ⟨a1, a2, a3, a4, a5, a6, a7⟩, s3, s4⟩ := rp_loop hM hw hu hr hUR h (nI m)
  -- the children
  have hUR1 := hUR.pf s3
  have hK1 : Pf c1 (tc_F c1 155 1 (nI m)) := ⟨fun _ _ => rfl, rfl, fun a q => by rw [tc_F3, tc_un _ _ q], fun k q => by rw [tc_F3, tc_us, tc_un _ _ q], rfl⟩
  have hPC : PCh S (tc_F c1 155 1 (nI m)) z m D U := ⟨hM, ⟨hw, hu, hok, hr⟩, hUR1.pf hK1, by rw [tc_F3, tc_us, tc_us], a7, fun i hi => by
    show c1.1 156 (D.ord i) = _
    rw [(a2 _ (.inl ⟨i, hi, rfl⟩)).1]; exact U.new_old hw hu hi⟩
  obtain ⟨c2, t1, t2, t3, t4, t5⟩ := tc_run (B := f_X11_perform_b270 155 (nI m) (nI (m + U.ins U.n))) m (fun Y y => (nI Y, tc_mk S y)) (fun Y y => PH (tc_F c1 155 1 (nI m)) y m D U Y) (fun y => tc_mk S y) (by omega) (fun Y y hY hy => ph_step hPC a3 hY hy _) (fun y hy => by
    have e1 : nI m ≥ nI m := Int32.le_refl _
    simp only [f_X11_perform_b270, ↓reduceIte, e1]) (x := tc_F c1 155 1 (nI m)) ⟨fun _ _ _ q => absurd q (Nat.not_lt_zero _), fun _ _ => ⟨rfl, rfl⟩, fun _ _ _ => rfl, rfl⟩
  -- what is removed
  have hUR2 : UR (tc_F c2 155 1 (nI (m + U.ins U.n))) U := by
    unfold UR
    rw [tc_F1, tc_F3, tc_us, tc_un _ _ (by decide), t5, t4 167 (by omega) (by omega)]
    exact hUR1.pf hK1
  obtain ⟨c3, r1, r2, r3, r4⟩ := tc_run (B := f_X11_perform_b316 155) U.n (fun k y => (nI k, tc_mk S y)) (fun k y => (∀ v, (U.rmv k v = true → y.1 163 v = 0 ∧ y.1 160 v = -1) ∧ (U.rmv k v = false → y.1 163 v = c2.1 163 v ∧ y.1 160 v = c2.1 160 v)) ∧ (∀ a, a ≠ 160 → a ≠ 163 → y.1 a = c2.1 a) ∧ y.2 = (tc_F c2 155 1 (nI (m + U.ins U.n))).2) (fun y => tc_mk S y) (by omega) (fun k y hk hy => by
      obtain ⟨y1, y2, y3⟩ := hy
      have hURy : UR y U := hUR2.cg (y2 167 (by omega) (by omega)) y3
      obtain ⟨w, w1, w2, w3, w4, w5⟩ := rm_step hM hw hu hURy hk
      refine ⟨w, w1, fun v => ?_, fun a z1 z2 => (w4 a z1 z2).trans (y2 a z1 z2), w5.trans y3⟩
      have hs : U.rmv (k + 1) v = (U.rmv k v || decide (U.uw k = 1 ∧ U.ut k = v)) := rfl
      rw [hs]
      by_cases q : U.uw k = 1
      · rw [(w2 q).1, (w2 q).2]
        by_cases e : U.ut k = v
        · rw [decide_eq_true ⟨q, e⟩, Bool.or_true, e, upd_s, upd_s]
          exact ⟨fun _ => ⟨rfl, rfl⟩, fun z => Bool.noConfusion z⟩
        · rw [decide_eq_false (fun z => e z.2), Bool.or_false, upd_n _ _ (fun z => e z.symm), upd_n _ _ (fun z => e z.symm)]
          exact y1 v
      · rw [decide_eq_false (fun z => q z.1), Bool.or_false, (w3 q).1, (w3 q).2]
        exact y1 v) (fun y hy => by
      have hURy : UR y U := hUR2.cg (hy.2.1 167 (by omega) (by omega)) hy.2.2
      have e0 := hURy.1
      have e1 : nI U.n ≥ nI U.n := Int32.le_refl _
      simp (maxSteps := 3000000) (disch := omega) only [Option.bind_some, tc_bs, tq_let, tc_I1, tc_I2, tc_J1, tc_J2, tc_J3, tc_F1, tc_F2, tc_F3, tc_F4, tc_G1, tc_G2, tc_G3, tc_G4, tc_G5, tc_us, tc_un, s_one, s_holds, s_J13_bitCount, bz_bI, f_X11_perform_b316, hM.f, e0, e1, if_true]) (x := tc_F c2 155 1 (nI (m + U.ins U.n))) ⟨fun v => ⟨fun z => Bool.noConfusion z, fun _ => ⟨rfl, rfl⟩⟩, fun _ _ _ => rfl, rfl⟩
  have t1 : tq_loop (f_X11_perform_b270 155 (nI m) (nI (m + U.ins U.n))) tq_N ((0 : Int32), tc_mk S (tc_F c1 155 1 (nI m))) = some (tc_mk S c2) := t1
  have r1 : tq_loop (f_X11_perform_b316 155) tq_N ((0 : Int32), tc_mk S (tc_F c2 155 1 (nI (m + U.ins U.n)))) = some (tc_mk S c3) := r1
  -- parents before the removals
  have pa1 : ∀ v w, w ∈ U.F m D v → c2.1 160 w = nI v := fun v w hvw => by
    obtain ⟨i, i1, i2, i3, i4⟩ := (U.F_mem hw).mp hvw
    rw [← i2]
    rcases List.mem_append.mp i4 with i5 | i5
    · -- an attribute
      obtain ⟨x, -, i6⟩ := cutL_mem.mp i5
      have hk2 := (U.aL_kd hw hu i6).1
      rw [(t3 w fun i' hi' hk' _ hmem => ?_).1]
      · rcases (U.aL_mem hw).mp i6 with ⟨j, j1, rfl, -⟩ | ⟨k, k1, k2, rfl⟩
        · have hj := D.ax_lt _ _ _ j1
          simp [Doc.ax] at j1
          show c1.1 160 (D.ord j) = _
          rw [a3 j hj]; unfold Doc.upN; rw [if_neg (by omega), j1.2.2.1]
        · have k2 := of_decide_eq_true k2
          have hs : U.sj m k = m + U.ins k := if_pos k2.1
          rw [hs]
          show c1.1 160 (m + U.ins k) = _
          rw [a4 k k1 k2.1, k2.2.2.1]
      · obtain ⟨p, -, hmem⟩ := cutL_mem.mp hmem
        exact U.kL_kd hw hu hmem hk2
    · obtain ⟨q, hq, e⟩ := List.getElem_of_mem (show w ∈ U.KL m D i from i5)
      have := (t2 i i1 i3 (hu.1.2.2 i i1) q hq).2
      rw [gD _ _ hq, e] at this
      exact this
  refine ⟨c3, ?_, ⟨?_, fun v hv => ?_, fun v w hvw => ?_, fun w hI hno => ?_, fun i hi hk q hq => ?_, fun i hi => ?_, fun v hv hn => ?_, ?_⟩, ⟨fun a ha => ?_, ?_, fun a ha => ?_, fun k hk => ?_, ?_⟩, fun v hv => ?_⟩
  · simp (maxSteps := 3000000) (disch := omega) only [Option.bind_some, tc_bs, tq_let, tc_I1, tc_I2, tc_J1, tc_J2, tc_J3, tc_F1, tc_F2, tc_F3, tc_F4, tc_G1, tc_G2, tc_G3, tc_G4, tc_G5, tc_us, tc_un, s_one, s_holds, s_J13_bitCount, bz_bI, f_X11_perform, hM.f, h0, s1, a1, t1, r1]
  · rw [r4, tc_F3, tc_us, tc_us]
  · rw [r3 156 (by omega) (by omega), r3 157 (by omega) (by omega), r3 158 (by omega) (by omega), r3 159 (by omega) (by omega), t4 156 (by omega) (by omega), t4 157 (by omega) (by omega), t4 158 (by omega) (by omega), t4 159 (by omega) (by omega)]
    exact a2 v hv
  · rw [((r2 w).2 (U.F_rmv hw hu hok hvw)).2]
    exact pa1 v w hvw
  · cases e : U.rmv U.n w with
    | true => exact ((r2 w).1 e).2
    | false =>
      rw [((r2 w).2 e).2]
      rcases hI with ⟨j, hj, rfl⟩ | ⟨k, k1, k2, rfl⟩
      · cases ht : U.tk U.n (D.ord j) with
        | true =>
          exfalso
          obtain ⟨l, l1, l2 | l2, l3⟩ := U.tk_iff.mp ht
          · have := Ups.rmv_iff.mpr ⟨l, l1, l2, l3⟩
            rw [e] at this; cases this
          · refine hno (U.up l) ?_
            have := U.F_new hw hu l1 (.inr l2)
            unfold Ups.sj at this
            rw [if_neg (by omega), l3] at this; exact this
        | false =>
          by_cases z0 : j = 0
          · subst z0
            rw [(t3 _ fun i' hi' hk' _ hmem => ?_).1]
            · show c1.1 160 (D.ord 0) = _
              rw [a3 0 hj]; rfl
            · exact hno (D.ord i') ((U.F_mem hw).mpr ⟨i', hi', rfl, hk', U.KL_fL hmem⟩)
          · exact absurd (U.F_old hw hu (Nat.pos_of_ne_zero z0) hj ht) (hno _)
      · exfalso
        refine hno (U.up k) ?_
        have := U.F_new hw hu k1 (.inl k2)
        unfold Ups.sj at this
        rw [if_pos k2] at this; exact this
  · rw [r3 161 (by omega) (by omega)]
    exact (t2 i hi hk (hu.1.2.2 i hi) q hq).1
  · cases e : U.rmv U.n (D.ord i) with
    | true => exact ((r2 _).1 e).1
    | false =>
      rw [((r2 _).2 e).1, t4 163 (by omega) (by omega)]
      exact a5 i hi
  · cases e : U.rmv U.n v with
    | true => exact ((r2 _).1 e).1
    | false =>
      rw [((r2 _).2 e).1, t4 163 (by omega) (by omega)]
      exact a6 v hv hn
  · refine RMem.cg (c := c1) a7 fun a z1 z2 => ?_
    rw [r3 a (by omega) (by omega), t4 a (by omega) (by omega)]; rfl
  · rw [r3 a (by omega) (by omega), t4 a (by omega) (by omega)]
    exact s3.1 a ha
  · rw [r4]
    show c2.2.1 = _
    rw [t5]; exact s3.2.1
  · rw [r4, tc_F3, tc_un _ _ ha, t5, tc_F3, tc_un _ _ ha]; exact s3.2.2.1 a ha
  · rw [r4, tc_F3, tc_us, tc_un _ _ hk, t5, tc_F3, tc_us, tc_un _ _ hk]; exact s3.2.2.2.1 k hk
  · rw [r4, tc_F4, t5, tc_F4]; exact s3.2.2.2.2
  · rw [r3 156 (by omega) (by omega), t4 156 (by omega) (by omega)]; exact s4 v hv
end RPM
