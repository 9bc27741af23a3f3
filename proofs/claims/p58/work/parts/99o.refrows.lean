/-! ===== the reference does the updates: the rows ===== -/
/-- what the reference's updating changes -/
def Pf (c c' : tc_C) : Prop :=
  (∀ a, a < 156 ∨ (161 < a ∧ a ≠ 163 ∧ a ≠ 173) → c'.1 a = c.1 a) ∧ c'.2.1 = c.2.1 ∧ (∀ a, a ≠ 155 → c'.2.2.1 a = c.2.2.1 a) ∧ (∀ k, k ≠ 1 → c'.2.2.1 155 k = c.2.2.1 155 k) ∧ c'.2.2.2 = c.2.2.2
/-- after so many updates -/
def RP (c : tc_C) (m : Nat) (D : Doc) (U : Ups) (K : Nat) : Prop :=
  c.2.2.1 155 1 = nI (m + U.ins K) ∧
  (∀ v, U.In m D K v → c.1 156 v = (U.rw m D.rws K).1 v ∧ c.1 157 v = (U.rw m D.rws K).2.1 v ∧ c.1 158 v = (U.rw m D.rws K).2.2.1 v ∧ c.1 159 v = (U.rw m D.rws K).2.2.2 v) ∧
  (∀ i, i < D.n → c.1 160 (D.ord i) = D.upN i) ∧ (∀ k, k < K → U.uw k = 0 → c.1 160 (m + U.ins k) = nI (U.up k)) ∧
  (∀ i, i < D.n → c.1 163 (D.ord i) = 1) ∧ (∀ v, v < 60 → (∀ i, i < D.n → D.ord i ≠ v) → c.1 163 v = 0) ∧ RMem c D
section RPF
variable {S : tq_H} {c c' c'' : tc_C} {z m i j k v w K : Nat} {U : Ups} {D : Doc}
theorem Pf.refl (c : tc_C) : Pf c c := ⟨fun _ _ => rfl, rfl, fun _ _ => rfl, fun _ _ => rfl, rfl⟩
theorem Pf.trans (h : Pf c c') (g : Pf c' c'') : Pf c c'' := ⟨fun a z => (g.1 a z).trans (h.1 a z), g.2.1.trans h.2.1, fun a z => (g.2.2.1 a z).trans (h.2.2.1 a z), fun a z => (g.2.2.2.1 a z).trans (h.2.2.2.1 a z), g.2.2.2.2.trans h.2.2.2.2⟩
theorem UR.pf (h : UR c U) (g : Pf c c') : UR c' U := by
  obtain ⟨g1, -, -, g4, -⟩ := g
  unfold UR
  rw [g1 167 (by omega), g4 15 (by omega)]
  exact h
theorem mod_sz0 (hM : tc_Mod S z) : (∀ c k, k < 60 → tq_sz (tc_mk S c) 163 (nI k) 0 = some (tc_mk S (tc_I c 163 (upd (c.1 163) k 0)))) ∧ (∀ c k, k < 60 → tq_sz (tc_mk S c) 173 (nI k) 0 = some (tc_mk S (tc_I c 173 (upd (c.1 173) k 0)))) := by
  have e : (0 : Int32) = bI false := rfl
  constructor <;> intro c k hk <;> rw [e] <;> simp (maxSteps := 3000000) (disch := omega) only [Option.bind_some, tc_bs, tq_let, tc_I1, tc_I2, tc_J1, tc_J2, tc_J3, tc_F1, tc_F2, tc_F3, tc_F4, tc_G1, tc_G2, tc_G3, tc_G4, tc_G5, tc_us, tc_un, s_one, s_holds, s_J13_bitCount, bz_bI, hM.f]
theorem rp_step (hM : tc_Mod S z) (hw : D.wf) (hu : U.wf m D) (hr : m + U.ins U.n ≤ 60) (hUR : UR c U) (hK : K < U.n) (h : RP c m D U K) (x : Int32) :
    ∃ c', f_X11_perform_b7 155 x (nI K, tc_mk S c) = some (.inl (nI (K + 1), tc_mk S c')) ∧ RP c' m D U (K + 1) ∧ Pf c c' ∧ ∀ v, v < m → c'.1 156 v = c.1 156 v := by
  obtain ⟨u1, u2, u3, u4, u5, u6, u7', u8, u9⟩ := hUR
  obtain ⟨p1, p2, p3, p4, p5, p6, q1, q2, q3⟩ := h
  obtain ⟨x0, x1, x2, x3, x4, x5, x6⟩ := u7 K
  have a1 := u3 K hK
  have h5 := hu.2.1 K hK
  have e1 : ¬ nI K ≥ nI U.n := nI_ge hK (by omega)
  obtain ⟨s163, s173⟩ := mod_sz0 hM
  by_cases q0 : U.uw K = 0
  · obtain ⟨a5, a6, a7⟩ := u7' K hK q0
    have a3 := u5 K hK (.inl q0)
    rw [q0] at a1
    have a1 : c.1 167 (7 * K) = 0 := a1
    have hlt := U.ins_lt q0 hK
    have hnw : m + U.ins K < 60 := by omega
    have hrw : U.rw m D.rws (K + 1) = (upd (U.rw m D.rws K).1 (m + U.ins K) (nI (U.uk K)), upd (U.rw m D.rws K).2.1 (m + U.ins K) (U.un K), upd (U.rw m D.rws K).2.2.1 (m + U.ins K) (U.uc K), upd (U.rw m D.rws K).2.2.2 (m + U.ins K) (-1)) := if_pos q0
    have hD : ∀ i, i < D.n → D.ord i ≠ m + U.ins K := fun i hi => by have := hu.1.2.2 i hi; omega
    refine ⟨_, by simp (maxSteps := 3000000) (disch := omega) only [Option.bind_some, tc_bs, tq_let, tc_I1, tc_I2, tc_J1, tc_J2, tc_J3, tc_F1, tc_F2, tc_F3, tc_F4, tc_G1, tc_G2, tc_G3, tc_G4, tc_G5, tc_us, tc_un, s_one, s_holds, s_J13_bitCount, bz_bI, f_X11_perform_b7, hM.f, s163, s173, u1, e1, x0, x2, x4, x5, x6, a1, p1, a5, a6, a7, a3, if_true, if_false, nI_1]; rfl, ⟨?_, fun v hv => ?_, fun i hi => ?_, fun k hk hk0 => ?_, fun i hi => ?_, fun v hv hn => ?_, ⟨fun i hi => ?_, fun i h0 hi hk => ?_, fun v hv hn => ?_⟩⟩, ⟨fun a ha => ?_, ?_, fun a ha => ?_, fun k hk => ?_, ?_⟩, fun v hv => ?_⟩
    all_goals simp (maxSteps := 3000000) (disch := omega) only [Option.bind_some, tc_bs, tq_let, tc_I1, tc_I2, tc_J1, tc_J2, tc_J3, tc_F1, tc_F2, tc_F3, tc_F4, tc_G1, tc_G2, tc_G3, tc_G4, tc_G5, tc_us, tc_un, s_one, s_holds, s_J13_bitCount, bz_bI, if_true, upd_s]
    · rw [U.ins_s, if_pos q0]; rfl
    · rw [hrw]
      rcases (In_0 q0).mp hv with q | q
      · have hne := In_ne hu q
        simp only [upd_n _ _ hne]
        exact p2 v q
      · subst q
        simp only [upd_s]
        exact ⟨trivial, trivial, trivial, trivial⟩
    · rw [upd_n _ _ (hD i hi)]; exact p3 i hi
    · by_cases q : k = K
      · subst q; rw [upd_s]
      · have := U.ins_lt hk0 (show k < K by omega)
        rw [upd_n _ _ (by omega)]; exact p4 k (by omega) hk0
    · rw [upd_n _ _ (hD i hi)]; exact p5 i hi
    · by_cases q : v = m + U.ins K
      · rw [q, upd_s]
      · rw [upd_n _ _ q]; exact p6 v hv hn
    · rw [upd_n _ _ (hD i hi)]; exact q1 i hi
    · exact q2 i h0 hi hk
    · by_cases q : v = m + U.ins K
      · rw [q, upd_s]
      · rw [upd_n _ _ q]; exact q3 v hv hn
    · rw [upd_n _ _ (by omega)]
  · have a2 := u4 K hK
    rw [if_neg q0] at a2
    obtain ⟨t, t1, t2, -⟩ := hu.2.2.1 K hK q0
    have ht60 : U.ut K < 60 := by rw [t2]; exact D.ord_lt hw t1
    have e2 : ¬ nI (U.uw K) = 0 := nI_ne0 (by omega) (by omega)
    have hins : U.ins (K + 1) = U.ins K := by rw [U.ins_s, if_neg q0]; rfl
    have hrest : ∀ k, k < K + 1 → U.uw k = 0 → k < K := fun k hk hz => by
      rcases Nat.lt_or_ge k K with a | a
      · exact a
      · exfalso; rw [show k = K by omega] at hz; exact q0 hz
    by_cases q2' : U.uw K = 2
    · have a8 := u8 K hK q2'
      have hrw : U.rw m D.rws (K + 1) = ((U.rw m D.rws K).1, upd (U.rw m D.rws K).2.1 (U.ut K) (U.uc K), (U.rw m D.rws K).2.2) := by
        show (if U.uw K = 0 then _ else if U.uw K = 2 then _ else _) = _
        rw [if_neg q0, if_pos q2']
      rw [q2'] at a1
      have a1 : c.1 167 (7 * K) = 2 := a1
      have n2 : ¬ (2 : Int32) = 0 := by decide
      refine ⟨_, by simp (maxSteps := 3000000) (disch := omega) only [Option.bind_some, tc_bs, tq_let, tc_I1, tc_I2, tc_J1, tc_J2, tc_J3, tc_F1, tc_F2, tc_F3, tc_F4, tc_G1, tc_G2, tc_G3, tc_G4, tc_G5, tc_us, tc_un, s_one, s_holds, s_J13_bitCount, bz_bI, f_X11_perform_b7, hM.f, u1, e1, x0, x1, x5, a1, n2, a2, a8, if_true, if_false, nI_1]; rfl, ⟨?_, fun v hv => ?_, fun i hi => ?_, fun k hk hk0 => ?_, fun i hi => ?_, fun v hv hn => ?_, ⟨fun i hi => ?_, fun i h0 hi hk => ?_, fun v hv hn => ?_⟩⟩, ⟨fun a ha => ?_, ?_, fun a ha => ?_, fun k hk => ?_, ?_⟩, fun v hv => ?_⟩
      all_goals simp (maxSteps := 3000000) (disch := omega) only [Option.bind_some, tc_bs, tq_let, tc_I1, tc_I2, tc_J1, tc_J2, tc_J3, tc_F1, tc_F2, tc_F3, tc_F4, tc_G1, tc_G2, tc_G3, tc_G4, tc_G5, tc_us, tc_un, s_one, s_holds, s_J13_bitCount, bz_bI, if_true, upd_s]
      · rw [hins]; exact p1
      · rw [hrw]
        have := p2 v ((In_s q0).mp hv)
        dsimp only
        refine ⟨this.1, ?_, this.2.2⟩
        by_cases q : v = U.ut K
        · rw [q, upd_s, upd_s]
        · rw [upd_n _ _ q, upd_n _ _ q]; exact this.2.1
      · exact p3 i hi
      · exact p4 k (hrest k hk hk0) hk0
      · exact p5 i hi
      · exact p6 v hv hn
      · exact q1 i hi
      · exact q2 i h0 hi hk
      · exact q3 v hv hn
    · have n2 : ¬ nI (U.uw K) = 2 := fun z => q2' ((nI_eq (show U.uw K < 2 ^ 31 by omega) (show 2 < 2 ^ 31 by decide)).mp z)
      by_cases q3' : U.uw K = 3
      · have a9 := u9 K hK (.inl q3')
        have hrw : U.rw m D.rws (K + 1) = ((U.rw m D.rws K).1, (U.rw m D.rws K).2.1, upd (U.rw m D.rws K).2.2.1 (U.ut K) (U.uc K), (U.rw m D.rws K).2.2.2) := by
          show (if U.uw K = 0 then _ else if U.uw K = 2 then _ else if U.uw K = 3 then _ else _) = _
          rw [if_neg q0, if_neg q2', if_pos q3']
        rw [q3'] at a1
        have a1 : c.1 167 (7 * K) = 3 := a1
        have n0 : ¬ (3 : Int32) = 0 := by decide
        have n2 : ¬ (3 : Int32) = 2 := by decide
        refine ⟨_, by simp (maxSteps := 3000000) (disch := omega) only [Option.bind_some, tc_bs, tq_let, tc_I1, tc_I2, tc_J1, tc_J2, tc_J3, tc_F1, tc_F2, tc_F3, tc_F4, tc_G1, tc_G2, tc_G3, tc_G4, tc_G5, tc_us, tc_un, s_one, s_holds, s_J13_bitCount, bz_bI, f_X11_perform_b7, hM.f, u1, e1, x0, x1, x6, a1, n0, n2, a2, a9, if_true, if_false, nI_1]; rfl, ⟨?_, fun v hv => ?_, fun i hi => ?_, fun k hk hk0 => ?_, fun i hi => ?_, fun v hv hn => ?_, ⟨fun i hi => ?_, fun i h0 hi hk => ?_, fun v hv hn => ?_⟩⟩, ⟨fun a ha => ?_, ?_, fun a ha => ?_, fun k hk => ?_, ?_⟩, fun v hv => ?_⟩
        all_goals simp (maxSteps := 3000000) (disch := omega) only [Option.bind_some, tc_bs, tq_let, tc_I1, tc_I2, tc_J1, tc_J2, tc_J3, tc_F1, tc_F2, tc_F3, tc_F4, tc_G1, tc_G2, tc_G3, tc_G4, tc_G5, tc_us, tc_un, s_one, s_holds, s_J13_bitCount, bz_bI, if_true, upd_s]
        · rw [hins]; exact p1
        · rw [hrw]
          have := p2 v ((In_s q0).mp hv)
          dsimp only
          refine ⟨this.1, this.2.1, ?_, this.2.2.2⟩
          by_cases q : v = U.ut K
          · rw [q, upd_s, upd_s]
          · rw [upd_n _ _ q, upd_n _ _ q]; exact this.2.2.1
        · exact p3 i hi
        · exact p4 k (hrest k hk hk0) hk0
        · exact p5 i hi
        · exact p6 v hv hn
        · exact q1 i hi
        · exact q2 i h0 hi hk
        · exact q3 v hv hn
      · have n3 : ¬ nI (U.uw K) = 3 := fun z => q3' ((nI_eq (show U.uw K < 2 ^ 31 by omega) (show 3 < 2 ^ 31 by decide)).mp z)
        by_cases q5 : U.uw K = 5
        · have a9 := u9 K hK (.inr q5)
          have hrw : U.rw m D.rws (K + 1) = ((U.rw m D.rws K).1, (U.rw m D.rws K).2.1, (U.rw m D.rws K).2.2.1, upd (U.rw m D.rws K).2.2.2 (U.ut K) (U.uc K)) := by
            show (if U.uw K = 0 then _ else if U.uw K = 2 then _ else if U.uw K = 3 then _ else if U.uw K = 5 then _ else _) = _
            rw [if_neg q0, if_neg q2', if_neg q3', if_pos q5]
          rw [q5] at a1
          have a1 : c.1 167 (7 * K) = 5 := a1
          have n0 : ¬ (5 : Int32) = 0 := by decide
          have n2 : ¬ (5 : Int32) = 2 := by decide
          have n3 : ¬ (5 : Int32) = 3 := by decide
          refine ⟨_, by simp (maxSteps := 3000000) (disch := omega) only [Option.bind_some, tc_bs, tq_let, tc_I1, tc_I2, tc_J1, tc_J2, tc_J3, tc_F1, tc_F2, tc_F3, tc_F4, tc_G1, tc_G2, tc_G3, tc_G4, tc_G5, tc_us, tc_un, s_one, s_holds, s_J13_bitCount, bz_bI, f_X11_perform_b7, hM.f, u1, e1, x0, x1, x6, a1, n0, n2, n3, a2, a9, if_true, if_false, nI_1]; rfl, ⟨?_, fun v hv => ?_, fun i hi => ?_, fun k hk hk0 => ?_, fun i hi => ?_, fun v hv hn => ?_, ⟨fun i hi => ?_, fun i h0 hi hk => ?_, fun v hv hn => ?_⟩⟩, ⟨fun a ha => ?_, ?_, fun a ha => ?_, fun k hk => ?_, ?_⟩, fun v hv => ?_⟩
          all_goals simp (maxSteps := 3000000) (disch := omega) only [Option.bind_some, tc_bs, tq_let, tc_I1, tc_I2, tc_J1, tc_J2, tc_J3, tc_F1, tc_F2, tc_F3, tc_F4, tc_G1, tc_G2, tc_G3, tc_G4, tc_G5, tc_us, tc_un, s_one, s_holds, s_J13_bitCount, bz_bI, if_true, upd_s]
          · rw [hins]; exact p1
          · rw [hrw]
            have := p2 v ((In_s q0).mp hv)
            dsimp only
            refine ⟨this.1, this.2.1, this.2.2.1, ?_⟩
            by_cases q : v = U.ut K
            · rw [q, upd_s, upd_s]
            · rw [upd_n _ _ q, upd_n _ _ q]; exact this.2.2.2
          · exact p3 i hi
          · exact p4 k (hrest k hk hk0) hk0
          · exact p5 i hi
          · exact p6 v hv hn
          · exact q1 i hi
          · exact q2 i h0 hi hk
          · exact q3 v hv hn
        · have n5 : ¬ nI (U.uw K) = 5 := fun z => q5 ((nI_eq (show U.uw K < 2 ^ 31 by omega) (show 5 < 2 ^ 31 by decide)).mp z)
          have hrw : U.rw m D.rws (K + 1) = U.rw m D.rws K := by
            show (if U.uw K = 0 then _ else if U.uw K = 2 then _ else if U.uw K = 3 then _ else if U.uw K = 5 then _ else _) = _
            rw [if_neg q0, if_neg q2', if_neg q3', if_neg q5]
          refine ⟨c, by simp (maxSteps := 3000000) (disch := omega) only [Option.bind_some, tc_bs, tq_let, tc_I1, tc_I2, tc_J1, tc_J2, tc_J3, tc_F1, tc_F2, tc_F3, tc_F4, tc_G1, tc_G2, tc_G3, tc_G4, tc_G5, tc_us, tc_un, s_one, s_holds, s_J13_bitCount, bz_bI, f_X11_perform_b7, hM.f, u1, e1, x0, x1, x6, a1, e2, n2, n3, n5, a2, if_true, if_false, nI_1], ⟨?_, fun v hv => ?_, fun i hi => ?_, fun k hk hk0 => ?_, fun i hi => ?_, fun v hv hn => ?_, ⟨fun i hi => ?_, fun i h0 hi hk => ?_, fun v hv hn => ?_⟩⟩, Pf.refl c, fun _ _ => rfl⟩
          · rw [hins]; exact p1
          · rw [hrw]; exact p2 v ((In_s q0).mp hv)
          · exact p3 i hi
          · exact p4 k (hrest k hk hk0) hk0
          · exact p5 i hi
          · exact p6 v hv hn
          · exact q1 i hi
          · exact q2 i h0 hi hk
          · exact q3 v hv hn
theorem rp_loop (hM : tc_Mod S z) (hw : D.wf) (hu : U.wf m D) (hr : m + U.ins U.n ≤ 60) (hUR : UR c U) (h : RP c m D U 0) (x : Int32) :
    ∃ c', tq_loop (f_X11_perform_b7 155 x) tq_N (0, tc_mk S c) = some (tc_mk S c') ∧ RP c' m D U U.n ∧ Pf c c' ∧ ∀ v, v < m → c'.1 156 v = c.1 156 v := by
  have hn := hUR.2.1
  obtain ⟨y, y1, y2⟩ := tc_run (B := f_X11_perform_b7 155 x) U.n (fun k x => (nI k, tc_mk S x)) (fun k x => RP x m D U k ∧ Pf c x ∧ ∀ v, v < m → x.1 156 v = c.1 156 v) (fun x => tc_mk S x) (by omega) (fun k y hk hy => by
    obtain ⟨w, w1, w2, w3, w4⟩ := rp_step hM hw hu hr (hUR.pf hy.2.1) hk hy.1 x
    exact ⟨w, w1, w2, hy.2.1.trans w3, fun v hv => (w4 v hv).trans (hy.2.2 v hv)⟩) (fun y hy => by
    have e1 := (hUR.pf hy.2.1).1
    have e2 : nI U.n ≥ nI U.n := Int32.le_refl _
    simp (maxSteps := 3000000) (disch := omega) only [Option.bind_some, tc_bs, tq_let, tc_I1, tc_I2, tc_J1, tc_J2, tc_J3, tc_F1, tc_F2, tc_F3, tc_F4, tc_G1, tc_G2, tc_G3, tc_G4, tc_G5, tc_us, tc_un, s_one, s_holds, s_J13_bitCount, bz_bI, f_X11_perform_b7, hM.f, e1, e2, if_true]) (x := c) ⟨h, Pf.refl c, fun _ _ => rfl⟩
  exact ⟨y, y1, y2⟩
/-- remembering starts it -/
theorem rp_start (hM : tc_Mod S z) (hw : D.wf) (hR : RTree c D m) : ∃ c', f_X11_remember 155 (tc_mk S c) = some (tc_mk S c') ∧ RP c' m D U 0 ∧ (∀ a, a < 168 ∨ 173 < a → c'.1 a = c.1 a) ∧ c'.2 = c.2 := by
  obtain ⟨y, y1, y2, y3, y4⟩ := s_X11_remember (c := c) hM hR.bool
  obtain ⟨r1, ⟨r2, r2'⟩, r3, r4, r5, r6, r7, r8, r9, r10⟩ := hR
  refine ⟨y, y1, ⟨?_, fun v hv => ?_, fun i hi => ?_, fun k hk => absurd hk (Nat.not_lt_zero _), fun i hi => ?_, fun v hv hn => ?_, ⟨fun i hi => ?_, fun i h0 hi hk => ?_, fun v hv hn => ?_⟩⟩, y3, y4⟩
  · rw [y4]; exact r1
  · rcases hv with ⟨i, hi, rfl⟩ | ⟨k, hk, -⟩
    · obtain ⟨a1, a2, a3, a4⟩ := D.rws_at hw hi
      rw [y3 156 (by omega), y3 157 (by omega), y3 158 (by omega), y3 159 (by omega), r5 i hi, r6 i hi, r7 i hi, r8 i hi]
      exact ⟨a1.symm, a2.symm, a3.symm, a4.symm⟩
    · omega
  · rw [y3 160 (by omega)]; exact r9 i hi
  · rw [y3 163 (by omega)]; exact r3 i hi
  · rw [y3 163 (by omega)]; exact r4 v hv hn
  · obtain ⟨a1, a2, a3, a4, a5, a6⟩ := y2 _ (D.ord_lt hw hi)
    rw [a1, a2, a3, a4, a6]
    exact ⟨r6 i hi, r7 i hi, r8 i hi, r9 i hi, r3 i hi⟩
  · obtain ⟨a1, a2, a3, a4, a5, a6⟩ := y2 _ (D.ord_lt hw hi)
    rw [a5]; exact r10 i h0 hi hk
  · obtain ⟨a1, a2, a3, a4, a5, a6⟩ := y2 v hv
    rw [a6]; exact r4 v hv hn
end RPF
