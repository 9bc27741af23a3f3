/-! ===== cycles, on both sides; what hangs on the root ===== -/
/-- the node above in the new lists -/
noncomputable def Ups.pI (U : Ups) (m : Nat) (D : Doc) (w : Nat) : Int32 := by
  classical
  exact if ∃ v, w ∈ U.F m D v then nI (U.pa m D w) else -1
/-- a node of the document that is above itself -/
def Ups.cyc (U : Ups) (m : Nat) (D : Doc) : Prop := ∃ w, (∃ i, i < D.n ∧ D.ord i = w) ∧ ∃ t, 1 ≤ t ∧ t ≤ 61 ∧ clm (U.pI m D) t (nI w) = nI w
section CYC
variable {S : tq_H} {c c' : tc_C} {b e g z m i j k v w M : Nat} {U : Ups} {D : Doc} {f f' : Nat → Int32} {Old : Nat → Prop} {F : Nat → List Nat} {pa : Nat → Nat}
theorem Ups.pI_in (hf : Frs0 (U.F m D) (U.pa m D)) (h : w ∈ U.F m D v) : U.pI m D w = nI v := by
  unfold Ups.pI
  rw [if_pos ⟨v, h⟩, (hf.1 v w h).1]
theorem Ups.pI_no (h : ∀ v, w ∉ U.F m D v) : U.pI m D w = -1 := if_neg (fun ⟨v, z⟩ => h v z)
theorem Ups.pI_ok (hw : D.wf) (hf : Frs0 (U.F m D) (U.pa m D)) : ParOk (U.pI m D) (fun v => ∃ i, i < D.n ∧ D.ord i = v) := fun w _ => by
  by_cases q : ∃ v, w ∈ U.F m D v
  · obtain ⟨v, hv⟩ := q
    right
    obtain ⟨i, i1, i2, -⟩ := (U.F_mem hw).mp hv
    exact ⟨v, by rw [← i2]; exact D.ord_lt hw i1, ⟨i, i1, i2⟩, U.pI_in hf hv⟩
  · left
    exact U.pI_no fun v hv => q ⟨v, hv⟩
theorem clm_cg (hp : ParOk f Old) (h : ∀ w, w < 60 → f' w = f w) (hw : w < 60) : ∀ k, clm f' k (nI w) = clm f k (nI w) := by
  intro k
  induction k with
  | zero => rfl
  | succ k ih =>
    rw [clm_add, clm_add, ih]
    rcases clm_v hp hw k with h1 | ⟨s, s1, -, s3⟩
    · rw [h1, clm_n, clm_n]
    · rw [s3, clm_1 _ (by omega), clm_1 _ (by omega), h s s1]
theorem ParOk.cg (hp : ParOk f Old) (h : ∀ w, w < 60 → f' w = f w) : ParOk f' Old := fun w hw => by rw [h w hw]; exact hp w hw
/-- the class sees the cycles -/
theorem s_tangled (hT : tc_Tree S b) (hw : D.wf) (hu : U.wf m D) (hok : U.ok) (hr : m + U.ins U.n ≤ 60) (hm : c.2.2.1 b 10 = nI (m + U.ins U.n)) (hL : Lnk c b (U.F m D)) :
    ∃ r, f_X8_isTangled b (tc_mk S c) = some (bI r) ∧ (r = true ↔ U.cyc m D) := by
  have hf := U.frs hw hu hok hr
  have hp := U.pI_ok hw hf
  obtain ⟨l1, l2, -⟩ := hL
  have hcg : ∀ w, w < 60 → c.1 (b + 31) w = U.pI m D w := fun w hw60 => by
    by_cases q : ∃ v, w ∈ U.F m D v
    · obtain ⟨v, hv⟩ := q
      rw [l1 v w hv, U.pI_in hf hv]
    · rw [l2 w hw60 fun v hv => q ⟨v, hv⟩, U.pI_no fun v hv => q ⟨v, hv⟩]
  obtain ⟨r, r1, r2⟩ := s_X8_isTangled hT hm hr (hp.cg hcg)
  refine ⟨r, r1, r2.trans ?_⟩
  rw [tangle (hp.cg hcg) hr (fun w ⟨i, h1, h2⟩ => by have := hu.1.2.2 i h1; omega)]
  unfold Ups.cyc
  constructor
  · rintro ⟨w, ⟨i, h1, h2⟩, t, t1, t2, t3⟩
    have h60 : w < 60 := by rw [← h2]; exact D.ord_lt hw h1
    exact ⟨w, ⟨i, h1, h2⟩, t, t1, t2, by rw [← clm_cg hp hcg h60]; exact t3⟩
  · rintro ⟨w, ⟨i, h1, h2⟩, t, t1, t2, t3⟩
    have h60 : w < 60 := by rw [← h2]; exact D.ord_lt hw h1
    exact ⟨w, ⟨i, h1, h2⟩, t, t1, t2, by rw [clm_cg hp hcg h60]; exact t3⟩
theorem RQ.pI (hw : D.wf) (hf : Frs0 (U.F m D) (U.pa m D)) (hQ : RQ c m D U) (hI : U.In m D U.n w) : c.1 160 w = U.pI m D w := by
  obtain ⟨-, -, q3, q4, -⟩ := hQ
  by_cases q : ∃ v, w ∈ U.F m D v
  · obtain ⟨v, hv⟩ := q
    rw [q3 v w hv, U.pI_in hf hv]
  · rw [q4 w hI fun v hv => q ⟨v, hv⟩, U.pI_no fun v hv => q ⟨v, hv⟩]
/-- so does the reference: one node -/
theorem s_X11_goesRound (hM : tc_Mod S z) (hw : D.wf) (hf : Frs0 (U.F m D) (U.pa m D)) (hQ : RQ c m D U) (hi : i < D.n) :
    ∃ r, f_X11_goesRound 155 (nI (D.ord i)) (tc_mk S c) = some (bI r) ∧ (r = true ↔ ∃ t, 1 ≤ t ∧ t ≤ 61 ∧ clm (U.pI m D) t (nI (D.ord i)) = nI (D.ord i)) := by
  have hp := U.pI_ok hw hf
  have h60 := D.ord_lt hw hi
  have e0 := hQ.pI hw hf (w := D.ord i) (.inl ⟨i, hi, rfl⟩)
  obtain ⟨o, o1, o2⟩ := tc_run2 (B := f_X11_goesRound_b9 155 (nI (D.ord i)) (tc_mk S c)) 60 (fun k (_ : Unit) => (clm (U.pI m D) (k + 1) (nI (D.ord i)), nI k)) (fun k _ => ∀ t, 1 ≤ t → t ≤ k → clm (U.pI m D) t (nI (D.ord i)) ≠ nI (D.ord i))
    (fun o => (o = nI (D.ord i) ∧ ∃ t, 1 ≤ t ∧ t ≤ 61 ∧ clm (U.pI m D) t (nI (D.ord i)) = nI (D.ord i)) ∨ (o ≠ nI (D.ord i) ∧ ∀ t, 1 ≤ t → t ≤ 61 → clm (U.pI m D) t (nI (D.ord i)) ≠ nI (D.ord i))) (by omega) (fun k _ hk hI => by
      have e1 : ¬ nI k ≥ 60 := nI_ge hk (by decide)
      rcases clm_v hp h60 (k + 1) with h | ⟨s, s1, s2, s3⟩
      · right
        refine ⟨-1, ?_, .inr ⟨fun z => nI_nm1 (show D.ord i < 2 ^ 31 by omega) z.symm, fun t t1 t2 => ?_⟩⟩
        · rw [h]; simp only [f_X11_goesRound_b9, ↓reduceIte, e1]
        · by_cases q : t ≤ k
          · exact hI t t1 q
          · rw [show t = (k + 1) + (t - (k + 1)) by omega, clm_add, h, clm_n]
            exact fun z => nI_nm1 (show D.ord i < 2 ^ 31 by omega) z.symm
      · obtain ⟨j, hj, rfl⟩ := s2 (Nat.succ_pos _)
        have n1 : ¬ nI (D.ord j) = (-1 : Int32) := nI_nm1 (by omega)
        by_cases q : j = i
        · subst q
          right
          refine ⟨nI (D.ord j), ?_, .inl ⟨rfl, k + 1, by omega, by omega, s3⟩⟩
          rw [s3]; simp only [f_X11_goesRound_b9, ↓reduceIte, e1, n1]
        · left
          have n2 : ¬ nI (D.ord j) = nI (D.ord i) := fun z => q (D.ord_inj hw hj hi ((nI_eq (by omega) (by omega)).mp z))
          have e2 := hQ.pI hw hf (w := D.ord j) (.inl ⟨j, hj, rfl⟩)
          refine ⟨(), ?_, fun t t1 t2 => ?_⟩
          · rw [clm_add _ 1 (k + 1), s3, clm_1 _ (by omega), ← e2]
            simp (maxSteps := 3000000) (disch := omega) only [Option.bind_some, tc_bs, tq_let, tc_I1, tc_I2, tc_J1, tc_J2, tc_J3, tc_F1, tc_F2, tc_F3, tc_F4, tc_G1, tc_G2, tc_G3, tc_G4, tc_G5, tc_us, tc_un, s_one, s_holds, s_J13_bitCount, bz_bI, f_X11_goesRound_b9, hM.f, e1, n1, n2, if_false, nI_1]
          · by_cases q2 : t ≤ k
            · exact hI t t1 q2
            · rw [show t = k + 1 by omega, s3]; exact n2) (fun _ hI => by
      have e1 : nI 60 ≥ (60 : Int32) := Int32.le_refl _
      refine ⟨clm (U.pI m D) 61 (nI (D.ord i)), by simp only [f_X11_goesRound_b9, ↓reduceIte, e1], ?_⟩
      by_cases q : clm (U.pI m D) 61 (nI (D.ord i)) = nI (D.ord i)
      · exact .inl ⟨q, 61, by omega, by omega, q⟩
      · refine .inr ⟨q, fun t t1 t2 => ?_⟩
        by_cases q2 : t ≤ 60
        · exact hI t t1 q2
        · rw [show t = 61 by omega]; exact q) (x := ()) (fun t t1 t2 => by omega)
  have o1 : tq_loop (f_X11_goesRound_b9 155 (nI (D.ord i)) (tc_mk S c)) tq_N (c.1 160 (D.ord i), (0 : Int32)) = some o := by
    rw [e0, ← clm_1 (U.pI m D) (w := D.ord i) (by omega)]; exact o1
  rcases o2 with ⟨o2, o3⟩ | ⟨o2, o3⟩
  · refine ⟨true, ?_, ⟨fun _ => o3, fun _ => rfl⟩⟩
    simp (maxSteps := 3000000) (disch := omega) only [Option.bind_some, tc_bs, tq_let, tc_I1, tc_I2, tc_J1, tc_J2, tc_J3, tc_F1, tc_F2, tc_F3, tc_F4, tc_G1, tc_G2, tc_G3, tc_G4, tc_G5, tc_us, tc_un, s_one, s_holds, s_J13_bitCount, bz_bI, f_X11_goesRound, hM.f, o1, o2, if_true]; rfl
  · refine ⟨false, ?_, ⟨fun z => Bool.noConfusion z, fun ⟨t, t1, t2, t3⟩ => absurd t3 (o3 t t1 t2)⟩⟩
    simp (maxSteps := 3000000) (disch := omega) only [Option.bind_some, tc_bs, tq_let, tc_I1, tc_I2, tc_J1, tc_J2, tc_J3, tc_F1, tc_F2, tc_F3, tc_F4, tc_G1, tc_G2, tc_G3, tc_G4, tc_G5, tc_us, tc_un, s_one, s_holds, s_J13_bitCount, bz_bI, f_X11_goesRound, hM.f, o1, o2, if_false]; rfl
theorem s_X11_isSound (hM : tc_Mod S z) (hw : D.wf) (hu : U.wf m D) (hf : Frs0 (U.F m D) (U.pa m D)) (hQ : RQ c m D U) :
    ∃ r, f_X11_isSound 155 (nI m) (tc_mk S c) = some (bI r) ∧ (r = false ↔ U.cyc m D) := by
  have hm60 := hu.1.2.1
  obtain ⟨-, -, -, -, -, -, -, r1, -, r3⟩ := id hQ
  obtain ⟨o, o1, o2⟩ := tc_run2 (B := f_X11_isSound_b4 155 (nI m) (tc_mk S c)) m (fun k (r : Bool) => (bI r, nI k)) (fun k r => r = false ↔ ∃ i, i < D.n ∧ D.ord i < k ∧ ∃ t, 1 ≤ t ∧ t ≤ 61 ∧ clm (U.pI m D) t (nI (D.ord i)) = nI (D.ord i))
    (fun o => ∃ r, o = bI r ∧ (r = false ↔ U.cyc m D)) (by omega) (fun k r hk hI => by
      left
      have e1 : ¬ nI k ≥ nI m := nI_ge hk (by omega)
      cases r with
      | false =>
        have e2 : bI false = 0 := rfl
        refine ⟨false, by simp only [f_X11_isSound_b4, ↓reduceIte, e1, e2, Option.bind_some, tq_let, nI_1], fun _ => ?_, fun _ => rfl⟩
        obtain ⟨i, i1, i2, i3⟩ := hI.mp rfl
        exact ⟨i, i1, by omega, i3⟩
      | true =>
        have e2 : ¬ bI true = 0 := by decide
        have hno : ¬ ∃ i, i < D.n ∧ D.ord i < k ∧ ∃ t, 1 ≤ t ∧ t ≤ 61 ∧ clm (U.pI m D) t (nI (D.ord i)) = nI (D.ord i) := fun z => Bool.noConfusion (hI.mpr z)
        by_cases q0 : c.1 173 k = 0
        · refine ⟨true, by simp (maxSteps := 3000000) (disch := omega) only [Option.bind_some, tc_bs, tq_let, tc_I1, tc_I2, tc_J1, tc_J2, tc_J3, tc_F1, tc_F2, tc_F3, tc_F4, tc_G1, tc_G2, tc_G3, tc_G4, tc_G5, tc_us, tc_un, s_one, s_holds, s_J13_bitCount, bz_bI, f_X11_isSound_b4, hM.f, e1, e2, q0, if_true, if_false, nI_1]; rfl, fun z => Bool.noConfusion z, fun ⟨i, i1, i2, i3⟩ => absurd ⟨i, i1, ?_, i3⟩ hno⟩
          have : D.ord i ≠ k := fun z => by
            have := (r1 i i1).2.2.2.2
            rw [z, q0] at this; exact absurd this (by decide)
          omega
        · have hin : ∃ j, j < D.n ∧ D.ord j = k := by
            refine Classical.byContradiction fun hno => q0 (r3 k (by omega) fun i hi e => hno ⟨i, hi, e⟩)
          obtain ⟨i, hi, rfl⟩ := hin
          obtain ⟨r, g1, g2⟩ := s_X11_goesRound hM hw hf hQ hi
          cases r with
          | true =>
            refine ⟨false, by simp (maxSteps := 3000000) (disch := omega) only [Option.bind_some, tc_bs, tq_let, tc_I1, tc_I2, tc_J1, tc_J2, tc_J3, tc_F1, tc_F2, tc_F3, tc_F4, tc_G1, tc_G2, tc_G3, tc_G4, tc_G5, tc_us, tc_un, s_one, s_holds, s_J13_bitCount, bz_bI, f_X11_isSound_b4, hM.f, e1, e2, q0, g1, if_true, if_false, nI_1]; rfl, fun _ => ⟨i, hi, Nat.lt_succ_self _, g2.mp rfl⟩, fun _ => rfl⟩
          | false =>
            have e3 : bI false = 0 := rfl
            refine ⟨true, by simp (maxSteps := 3000000) (disch := omega) only [Option.bind_some, tc_bs, tq_let, tc_I1, tc_I2, tc_J1, tc_J2, tc_J3, tc_F1, tc_F2, tc_F3, tc_F4, tc_G1, tc_G2, tc_G3, tc_G4, tc_G5, tc_us, tc_un, s_one, s_holds, s_J13_bitCount, bz_bI, f_X11_isSound_b4, hM.f, e1, e2, e3, q0, g1, if_true, if_false, nI_1]; rfl, fun z => Bool.noConfusion z, fun ⟨j, j1, j2, j3⟩ => ?_⟩
            by_cases q : j = i
            · subst q; exact absurd (g2.mpr j3) (by decide)
            · have : D.ord j ≠ D.ord i := fun z => q (D.ord_inj hw j1 hi z)
              exact absurd ⟨j, j1, by omega, j3⟩ hno) (fun r hI => by
      have e1 : nI m ≥ nI m := Int32.le_refl _
      refine ⟨bI r, by simp only [f_X11_isSound_b4, ↓reduceIte, e1], r, rfl, hI.trans ⟨?_, ?_⟩⟩
      · rintro ⟨i, i1, i2, i3⟩; exact ⟨D.ord i, ⟨i, i1, rfl⟩, i3⟩
      · rintro ⟨w, ⟨i, i1, rfl⟩, i3⟩; exact ⟨i, i1, hu.1.2.2 i i1, i3⟩) (x := true) ⟨fun z => Bool.noConfusion z, fun ⟨i, i1, i2, i3⟩ => absurd i2 (Nat.not_lt_zero _)⟩
  obtain ⟨r, rfl, h2⟩ := o2
  have o1 : tq_loop (f_X11_isSound_b4 155 (nI m) (tc_mk S c)) tq_N ((1 : Int32), (0 : Int32)) = some (bI r) := o1
  refine ⟨r, ?_, h2⟩
  unfold f_X11_isSound
  rw [o1, Option.bind_some, bz_bI, Option.bind_some]
/-- so many steps up lead to the root -/
theorem clm_rch (hf : Frs0 (U.F m D) (U.pa m D)) : ∀ t v, v < 60 → clm (U.pI m D) t (nI v) = 0 → Rch (U.F m D) v := by
  intro t
  induction t with
  | zero =>
    intro v hv h
    have h : nI v = nI 0 := h
    rw [(nI_eq (by omega) (by omega)).mp h]; exact rch_0
  | succ t ih =>
    intro v hv h
    rw [show t + 1 = 1 + t by omega, clm_add, clm_1 _ (by omega)] at h
    by_cases q : ∃ u, v ∈ U.F m D u
    · obtain ⟨u, hu⟩ := q
      rw [U.pI_in hf hu] at h
      by_cases hu60 : u < 60
      · exact rch_kid (ih u hu60 h) hu
      · exfalso
        unfold Ups.F at hu
        rw [if_neg (fun z => hu60 z.1)] at hu; cases hu
    · rw [U.pI_no fun u hu => q ⟨u, hu⟩, clm_n] at h
      exact absurd h (by decide)
theorem rch_clm (hf : Frs0 (U.F m D) (U.pa m D)) : ∀ k v, inS (U.F m D) k v → clm (U.pI m D) k (nI v) = 0 := by
  intro k
  induction k with
  | zero => intro v e; have e : v = 0 := e; rw [e]; rfl
  | succ k ih =>
    rintro v ⟨u, h1, h2⟩
    rw [show k + 1 = 1 + k by omega, clm_add, clm_1 _ (by have := (hf.1 _ _ h2).2.1; omega), U.pI_in hf h2]
    exact ih u h1
theorem s_X11_hangs (hM : tc_Mod S z) (hw : D.wf) (hu : U.wf m D) (hr : m + U.ins U.n ≤ 60) (hf : Frs0 (U.F m D) (U.pa m D)) (hq : ∀ w, U.In m D U.n w → c.1 160 w = U.pI m D w) (hI : U.In m D U.n v) :
    ∃ r, f_X11_hangs 155 (nI v) (tc_mk S c) = some (bI r) ∧ (r = true ↔ Rch (U.F m D) v) := by
  have hp := U.pI_ok hw hf
  have hv := U.in_lt hu hI
  have hIn : ∀ k, ∀ s, clm (U.pI m D) k (nI v) = nI s → s < 60 → U.In m D U.n s := fun k s hs h60 => by
    rcases clm_v hp (show v < 60 by omega) k with h | ⟨s', s1, s2, s3⟩
    · rw [hs] at h; exact absurd h (nI_nm1 (by omega))
    · rw [hs] at s3
      have := (nI_eq (by omega) (by omega)).mp s3
      subst this
      cases k with
      | zero =>
        have hs : nI v = nI s := hs
        rw [← (nI_eq (by omega) (by omega)).mp hs]; exact hI
      | succ k =>
        obtain ⟨i, i1, i2⟩ := s2 (Nat.succ_pos _)
        exact .inl ⟨i, i1, i2.symm⟩
  obtain ⟨o, o1, o2⟩ := tc_run2 (B := f_X11_hangs_b4 155 (tc_mk S c)) 61 (fun k (_ : Unit) => (clm (U.pI m D) k (nI v), nI k)) (fun k _ => ∀ t, t < k → clm (U.pI m D) t (nI v) ≠ 0)
    (fun o => (o = 0 ∧ Rch (U.F m D) v) ∨ (o ≠ 0 ∧ ¬ Rch (U.F m D) v)) (by omega) (fun k _ hk hI2 => by
      have e1 : ¬ nI k > 60 := nI_nlt (show k ≤ 60 by omega) (by decide)
      rcases clm_v hp (show v < 60 by omega) k with h | ⟨s, s1, s2, s3⟩
      · right
        have e2 : (-1 : Int32) ≤ 0 := by decide
        refine ⟨-1, by rw [h]; simp only [f_X11_hangs_b4, ↓reduceIte, e1, e2], .inr ⟨by decide, fun ⟨d, hd⟩ => ?_⟩⟩
        have hc := rch_clm hf d v hd
        by_cases q : d < k
        · exact hI2 d q hc
        · rw [show d = k + (d - k) by omega, clm_add, h, clm_n] at hc
          exact absurd hc (by decide)
      · by_cases q : s = 0
        · subst q
          right
          have s3 : clm (U.pI m D) k (nI v) = 0 := s3
          have e2 : (0 : Int32) ≤ 0 := by decide
          exact ⟨0, by rw [s3]; simp only [f_X11_hangs_b4, ↓reduceIte, e1, e2], .inl ⟨rfl, clm_rch hf k v (by omega) s3⟩⟩
        · left
          have e2 : ¬ nI s ≤ 0 := nI_nle (by omega) (by omega)
          have e3 := hq s (hIn k s s3 s1)
          refine ⟨(), ?_, fun t ht => ?_⟩
          · rw [clm_add, s3, clm_1 _ (by omega), ← e3]
            simp (maxSteps := 3000000) (disch := omega) only [Option.bind_some, tc_bs, tq_let, tc_I1, tc_I2, tc_J1, tc_J2, tc_J3, tc_F1, tc_F2, tc_F3, tc_F4, tc_G1, tc_G2, tc_G3, tc_G4, tc_G5, tc_us, tc_un, s_one, s_holds, s_J13_bitCount, bz_bI, f_X11_hangs_b4, hM.f, e1, e2, if_false, nI_1]
          · by_cases q2 : t = k
            · rw [q2, s3]; exact nI_ne0 (by omega) (by omega)
            · exact hI2 t (by omega)) (fun _ hI2 => by
      have e1 : nI 61 > (60 : Int32) := by decide
      refine ⟨_, by simp only [f_X11_hangs_b4, ↓reduceIte, e1]; rfl, ?_⟩
      have hno : ¬ Rch (U.F m D) v := fun ⟨d, hd⟩ => hI2 d (by have := inS_dep hf hd; omega) (rch_clm hf d v hd)
      exact .inr ⟨fun z => hno (clm_rch hf 61 v (by omega) z), hno⟩) (x := ()) (fun t ht => absurd ht (Nat.not_lt_zero _))
  have o1 : tq_loop (f_X11_hangs_b4 155 (tc_mk S c)) tq_N (nI v, (0 : Int32)) = some o := o1
  rcases o2 with ⟨o2, o3⟩ | ⟨o2, o3⟩
  · refine ⟨true, ?_, ⟨fun _ => o3, fun _ => rfl⟩⟩
    simp (maxSteps := 3000000) (disch := omega) only [Option.bind_some, tc_bs, tq_let, tc_I1, tc_I2, tc_J1, tc_J2, tc_J3, tc_F1, tc_F2, tc_F3, tc_F4, tc_G1, tc_G2, tc_G3, tc_G4, tc_G5, tc_us, tc_un, s_one, s_holds, s_J13_bitCount, bz_bI, f_X11_hangs, o1, o2, if_true]; rfl
  · refine ⟨false, ?_, ⟨fun z => Bool.noConfusion z, fun z => absurd z o3⟩⟩
    simp (maxSteps := 3000000) (disch := omega) only [Option.bind_some, tc_bs, tq_let, tc_I1, tc_I2, tc_J1, tc_J2, tc_J3, tc_F1, tc_F2, tc_F3, tc_F4, tc_G1, tc_G2, tc_G3, tc_G4, tc_G5, tc_us, tc_un, s_one, s_holds, s_J13_bitCount, bz_bI, f_X11_hangs, o1, o2, if_false]; rfl
end CYC
